import java.lang.reflect.Method;
import java.nio.file.Files;
import java.nio.file.Path;
import java.util.List;
import java.util.TreeMap;
import java.util.regex.Matcher;
import java.util.regex.Pattern;

/** README.md's calls, done as they stand there: each answers what is said behind it. */
final class ReadmeTest {
    private static final Pattern CALL = Pattern.compile("x\\.([a-zA-Z]+)\\(([-0-9, ]*)\\); +// (-?[0-9]+): .*");
    private static final Pattern TEXT = Pattern.compile("tell\\(x, (.*)\\); +// (-?[0-9]+): .*");

    public static void main(String[] args) throws Exception {
        String readme = Files.readString(Path.of("README.md"));
        Case c = new Case("README");
        int found = 0;
        // A text that goes on in the next line is one row here.
        List<String> rows = readme.replace("\"\n    + \"", "").lines().toList();
        for (String row : rows) {
            Matcher call = CALL.matcher(row);
            Matcher text = TEXT.matcher(row);
            if (call.matches()) {
                c.due(row, answer(c, call.group(1), call.group(2)), Long.parseLong(call.group(3)));
                found++;
            } else if (text.matches()) {
                String told = text.group(1);
                c.due(row, c.tell(told.substring(1, told.length() - 1)), Long.parseLong(text.group(2)));
                found++;
            }
        }
        c.due("calls in README.md", found, 21);
        everyCallIsNamed(c, readme);
        Case.finish();
    }

    private static long answer(Case c, String name, String numbers) throws Exception {
        String[] parts = numbers.isEmpty() ? new String[0] : numbers.split(", ");
        Object[] given = new Object[parts.length];
        for (int i = 0; i < parts.length; i++) {
            given[i] = Integer.parseInt(parts[i]);
        }
        return (Integer) methods().get(name).invoke(c.x, given);
    }

    private static TreeMap<String, Method> methods() {
        TreeMap<String, Method> found = new TreeMap<>();
        for (Method m : GapLocks.class.getDeclaredMethods()) {
            found.put(m.getName(), m);
        }
        return found;
    }

    /** How to use the class is said of each call, in the examples or in the list. */
    private static void everyCallIsNamed(Case c, String readme) {
        for (Method m : GapLocks.class.getMethods()) {
            boolean ours = m.getDeclaringClass() == GapLocks.class;
            boolean named = readme.contains("`" + m.getName() + "`") || readme.contains("x." + m.getName() + "(");
            c.due(m.getName() + " is named in README.md", !ours || named ? 1 : 0, 1);
        }
    }
}
