import java.lang.reflect.Constructor;
import java.lang.reflect.Field;
import java.lang.reflect.Method;
import java.lang.reflect.Modifier;
import java.nio.file.Files;
import java.nio.file.Path;
import java.util.Set;
import java.util.TreeSet;

/** The public face, and what of ../shared/LANGUAGE.md can be seen from outside or in the text of the file. */
final class LanguageTest {
    private static final String FACE = "feed/5 text/1 fault/1 named/1 key/2 bits/2 place/2 width/2 sum/0 widest/0 lock/3 hand/2"
        + " queue/1 stops/4 ring/2 free/0 open/1 scan/3 seek/3 grab/3 set/4 put/4 cut/3 end/1 quit/1 outcome/1 run/1 answer/1"
        + " same/0 chance/1 tried/2 held/2 range/3 phantoms/3 between/1 putNext/3 mean/0 ratio/2 culprit/0 swapped/1 fate/2"
        + " wakes/1 loses/1 nearest/2 sameOrder/1 take/0 back/0 count/1";

    public static void main(String[] args) throws Exception {
        Case c = new Case("language");
        face(c);
        inside(c);
        text(c);
        Case.finish();
    }

    private static void face(Case c) {
        Set<String> due = new TreeSet<>(Set.of(FACE.split(" ")));
        Set<String> found = new TreeSet<>();
        for (Method m : GapLocks.class.getDeclaredMethods()) {
            if (!Modifier.isPrivate(m.getModifiers())) {
                found.add(m.getName() + "/" + m.getParameterCount());
                c.due(m.getName() + " is public", Modifier.isPublic(m.getModifiers()) ? 1 : 0, 1);
                c.due(m.getName() + " answers an int", m.getReturnType() == int.class ? 1 : 0, 1);
            }
        }
        c.due("the face is " + found, found.equals(due) ? 1 : 0, 1);
        for (Constructor<?> k : GapLocks.class.getDeclaredConstructors()) {
            c.due("constructors", k.getParameterCount(), 0);
        }
        for (Field f : GapLocks.class.getDeclaredFields()) {
            boolean right = Modifier.isPrivate(f.getModifiers()) || f.getName().equals("NONE");
            c.due(f.getName() + " is private", right ? 1 : 0, 1);
        }
    }

    private static void inside(Case c) {
        Class<?>[] all = GapLocks.class.getDeclaredClasses();
        c.due("few classes", all.length < 12 ? 1 : 0, 1);
        Set<String> names = new TreeSet<>();
        for (String part : FACE.split(" ")) {
            names.add(part.substring(0, part.indexOf('/')));
        }
        for (Class<?> one : all) {
            c.due(one + " is static", Modifier.isStatic(one.getModifiers()) ? 1 : 0, 1);
            int fields = 0;
            for (Field f : one.getDeclaredFields()) {
                boolean still = Modifier.isStatic(f.getModifiers());
                fields += still ? 0 : 1;
                c.due(f + " is final if static", !still || Modifier.isFinal(f.getModifiers()) ? 1 : 0, 1);
            }
            c.due(one + " has few fields", fields <= 20 ? 1 : 0, 1);
            for (Method m : one.getDeclaredMethods()) {
                c.due(m + " has no name of the face", names.contains(m.getName()) ? 1 : 0, 0);
                c.due(m + " has few parameters", m.getParameterCount() <= 7 ? 1 : 0, 1);
            }
        }
    }

    private static void text(Case c) throws Exception {
        String source = Files.readString(Path.of("src/main/java/GapLocks.java"));
        for (String bad : new String[] {"->", "::", "try {", "catch", "finally", "synchronized", "assert", "Exact", "System.out",
            "Float.", "Double.", "equals(", "hashCode", "toString", "null;", "volatile", "Thread"}) {
            c.due("'" + bad + "' is in it", source.contains(bad) ? 1 : 0, 0);
        }
        int signs = 0;
        for (char sign : source.toCharArray()) {
            signs += sign != '\n' && (sign < 32 || sign > 126) ? 1 : 0;
        }
        c.due("other signs", signs, 0);
        c.due("long methods", longest(source) <= 60 ? 1 : 0, 1);
    }

    /** The most lines from a head of a method to the brace that ends it. */
    private static int longest(String source) {
        int most = 0;
        int start = -1;
        String indent = "";
        String[] lines = source.split("\n");
        for (int i = 0; i < lines.length; i++) {
            String line = lines[i];
            if (start < 0 && line.matches(" +.*\\) (throws .*)?\\{") && !line.matches(" +(if|for|while|switch|\\}).*")) {
                start = i;
                indent = line.substring(0, line.length() - line.stripLeading().length());
            } else if (start >= 0 && line.equals(indent + "}")) {
                most = Math.max(most, i - start + 1);
                start = -1;
            }
        }
        return most;
    }
}
