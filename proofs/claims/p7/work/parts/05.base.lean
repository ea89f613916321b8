/-! ===== the base of my rows: one list of words, one environment, calls and ends in one row each ===== -/
/-- the words of the tables that stay -/
def kk_ws : List Cond := lw_tbl.filter goodWord
theorem kk_in {w : Cond} (i : Nat) (h : lw_tbl[i]? = some w) (hg : goodWord w = true) : w ∈ kk_ws := List.mem_filter.mpr ⟨List.mem_of_getElem? h, hg⟩
theorem kk_good : GoodIn kk_ws kk_ws := fun w h => ⟨h, good_of_word (List.mem_filter.mp h).2⟩
abbrev kk_W (y : MethodName) (cc : ByteArray) (n : Nat) (ret : Option FieldType) : List Cond := Cond.code y cc n ret :: kk_ws
theorem kk_gW {y : MethodName} {cc : ByteArray} {n : Nat} {ret : Option FieldType} (h : Cond.code y cc n ret ∈ kk_ws) : GoodIn kk_ws (kk_W y cc n ret) := fun w hw => by
  rcases List.mem_cons.mp hw with rfl | hw
  · exact kk_good _ h
  · exact kk_good _ hw
abbrev kk_T (cB cI cJ cD : ClassId) : List (ClassId × FieldType) := [(cB, .byte), (cI, .int), (cJ, .long), (cD, .object "GapLocks$Desk")]
/-- the nested classes' own constructors, as the tables link them -/
def kk_nest : List (String × Nat × MethodName) := [("GapLocks", 9, yX5_init), ("GapLocks$Reader", 21, yX6_init), ("GapLocks$Script", 11, yX7_init), ("GapLocks", 18, yX8_init), ("GapLocks$Trials", 11, yX0_init), ("GapLocks$Course", 11, yX9_init), ("GapLocks$World", 11, yX7_init), ("GapLocks$World", 20, yX1_init), ("GapLocks$World", 27, yX3_init), ("GapLocks$Trials", 27, yX7_init), ("GapLocks", 25, yX2_init), ("GapLocks$Desk", 11, yX0_init), ("GapLocks", 36, yX6_init)]
/-- what the tables say beside the words -/
def kk_E (D : va_G) (cB cI cJ cD : ClassId) (U : State) : Prop := va_K D vwCl (kk_T cB cI cJ cD) U ∧ va_AO "GapLocks$Desk" U ∧ ∀ q ∈ kk_nest, va_Nw (.methodLinkNest q.1 q.2.1 q.2.2 "GapLocks") U
theorem kk_E.warm {D : va_G} {cB cI cJ cD : ClassId} {s U : State} (hW : s.WarmedH U.vm) (h : kk_E D cB cI cJ cD s) : kk_E D cB cI cJ cD U := ⟨va_K.moved hW.alike h.1, va_AO.moved hW.alike h.2.1, fun q hq => va_Nw.warmM hW (h.2.2 q hq)⟩
theorem kk_E.call {D : va_G} {cB cI cJ cD : ClassId} {U : State} {g : JFrame} {mk : MethodId} {a : Array Value} (h : kk_E D cB cI cJ cD U) : kk_E D cB cI cJ cD (U.calling g mk a) := ⟨va_K.moved (u := U) (U := U.calling g mk a) (Vm.Alike.refl U.vm) h.1, va_AO.moved (u := U) (U := U.calling g mk a) (Vm.Alike.refl U.vm) h.2.1, fun q hq => va_Nw.same (u := U) (U := U.calling g mk a) rfl rfl (h.2.2 q hq)⟩
def kk_pre (D : va_G) (cB cI cJ cD : ClassId) (ws : va_W) (sz : Nat) (U : State) : Prop := U.heap.size = sz ∧ va_P D vwCl ws U.heap ∧ va_D (fun _ => True) ws ∧ kk_E D cB cI cJ cD U
theorem kk_blind {av : List Value} {D : va_G} {cB cI cJ cD : ClassId} {ws : va_W} {sz : Nat} : FrameBlind (va_Pc av (kk_pre D cB cI cJ cD ws sz)) := fun a U g mk q => ⟨q.1, q.2.1, q.2.2.1, q.2.2.2.1, kk_E.call q.2.2.2.2⟩
/-- what a method is called by -/
def kk_mV (y : MethodName) (cc : ByteArray) (n : Nat) (ret : Option FieldType) (k : Nat) : Prop := Cond.instanceMethod y ∈ kk_ws ∧ Cond.selects y.cls y y ∈ kk_ws ∧ Cond.initialized y.cls ∈ kk_ws ∧ Cond.code y cc n ret ∈ kk_ws ∧ (y.cls ≠ "java/lang/invoke/MethodHandle" ∧ y.cls ≠ "java/lang/invoke/VarHandle" ∧ (parseMethodDescriptor y.desc).map (fun d => d.parameters.length) = some k)
def kk_mS (y : MethodName) (cc : ByteArray) (n : Nat) (ret : Option FieldType) (k : Nat) : Prop := Cond.static y ∈ kk_ws ∧ Cond.initialized y.cls ∈ kk_ws ∧ Cond.code y cc n ret ∈ kk_ws ∧ (y.cls ≠ "java/lang/invoke/MethodHandle" ∧ y.cls ≠ "java/lang/invoke/VarHandle" ∧ (parseMethodDescriptor y.desc).map (fun d => d.parameters.length) = some k)
def kk_mI (y : MethodName) (cc : ByteArray) (n : Nat) (k : Nat) : Prop := Cond.instanceMethod y ∈ kk_ws ∧ Cond.initialized y.cls ∈ kk_ws ∧ Cond.code y cc n none ∈ kk_ws ∧ y.name = "<init>" ∧ (y.cls ≠ "java/lang/invoke/MethodHandle" ∧ y.cls ≠ "java/lang/invoke/VarHandle" ∧ (parseMethodDescriptor y.desc).map (fun d => d.parameters.length) = some k)
section KKR
variable {p : Program} {l : Launch} {e : Env} {R : Room} {s : State} {m : MethodId} {args : Array Value} {below : List Frame} {meth : Method} {c : Code} {H : Heap} {locs : List Loc} {cells slots : Nat} {Q : State → Prop}
variable {D : va_G} {cB cI cJ cD : ClassId} {y : MethodName} {bytes cc : ByteArray} {maxL nL mc ms index k pc : Nat} {ret : Option FieldType} {rm : Room} {Qc : Array Value → State → Outcome → State → Prop} {free : Addr → Prop} {own : String} {b : Addr} {As rest : List Value} {ls : Array Slot} {ws w1 wr : va_W} {A : Nat → Prop} {H0 : Heap}
/-- a virtual call: what it comes to -/
theorem kk_runV (hx : p.tables.exec = Jvm.exec) (hb : c.code = cc) (hml : c.maxLocals = nL) (hown : s.vm.findClass own = some m.cls) (hts : ∀ w ∈ kk_ws, w.before args s = true) (hE : kk_E D cB cI cJ cD s)
    (hM : Met l y (kk_W y bytes maxL ret) rm (va_Pc (.ref b :: As) (kk_pre D cB cI cJ cD w1 H.size)) Qc mc ms free) (hm : kk_mV y bytes maxL ret k) (hlink : Cond.methodLink own index y ∈ kk_ws)
    (hrm : rm.cells = mc ∧ rm.slots = ms ∧ rm.frames + 1 ≤ R.frames ∧ 8 + (maxL + 11) + rm.locals ≤ R.locals) (hP1 : va_P D vwCl w1 H) (hD1 : va_D A w1) (q0 ci : Nat) {fs : List Value} {T : u_T} {N : Nat} (he : w1[q0]? = some (b, .inr (ci, fs))) (hc : vwCl[ci]? = some (y.cls, T, N))
    (hn : As.length = k) (hsize : ls.size = nL) (hW : (rest.map fun v => v.category).sum ≤ 8) (hdg : decode cc pc = .ok (.invokevirtual index, 3)) (hf : cells + mc ≤ R.cells ∧ slots + ms ≤ R.slots) :
    va_Run p l e R s m args below meth c H locs cells slots mc ms (F0 m pc ls (As.reverse ++ .ref b :: rest)) rest (Qc (Value.ref b :: As).toArray) free := by
  obtain ⟨m1, m2, m3, m4, m5⟩ := hm
  refine va_runV (Ts := kk_ws) (own := own) (C := y.cls) (n := k) (bytes := bytes) (maxL := maxL) (ret := ret) ⟨hx, hb, hml, hown, hts⟩ hM ⟨callB_of k hts (kk_gW m4) rfl hrm.1 hrm.2.1 (hts _ m3) (hts _ hlink) m5 hrm.2.2, hts _ m1, hts _ m2⟩ ⟨kk_blind, ?_, fun U hU hW => ⟨rfl, by rw [hU], by rw [hU]; exact hP1, hD1.weaken (fun _ _ _ _ => trivial), kk_E.warm hW hE⟩⟩ rfl hn hsize rfl (lv_room hW) hdg hf
  exact va_recv hE.1 hP1 (ci := ci) (q0 := q0) hc he
theorem kk_runS (hx : p.tables.exec = Jvm.exec) (hb : c.code = cc) (hml : c.maxLocals = nL) (hown : s.vm.findClass own = some m.cls) (hts : ∀ w ∈ kk_ws, w.before args s = true) (hE : kk_E D cB cI cJ cD s)
    (hM : Met l y (kk_W y bytes maxL ret) rm (va_Pc As (kk_pre D cB cI cJ cD w1 H.size)) Qc mc ms free) (hm : kk_mS y bytes maxL ret k) (hlink : Cond.methodLink own index y ∈ kk_ws)
    (hrm : rm.cells = mc ∧ rm.slots = ms ∧ rm.frames + 1 ≤ R.frames ∧ 8 + (maxL + 11) + rm.locals ≤ R.locals) (hP1 : va_P D vwCl w1 H) (hD1 : va_D A w1)
    (hn : As.length = k) (hsize : ls.size = nL) (hW : (rest.map fun v => v.category).sum ≤ 8) (hdg : decode cc pc = .ok (.invokestatic index, 3)) (hf : cells + mc ≤ R.cells ∧ slots + ms ≤ R.slots) :
    va_Run p l e R s m args below meth c H locs cells slots mc ms (F0 m pc ls (As.reverse ++ rest)) rest (Qc As.toArray) free := by
  obtain ⟨m1, m3, m4, m5⟩ := hm
  exact va_runS (Ts := kk_ws) (own := own) (n := k) (bytes := bytes) (maxL := maxL) (ret := ret) ⟨hx, hb, hml, hown, hts⟩ hM ⟨callB_of k hts (kk_gW m4) rfl hrm.1 hrm.2.1 (hts _ m3) (hts _ hlink) m5 hrm.2.2, hts _ m1⟩ ⟨kk_blind, fun U hU hW => ⟨rfl, by rw [hU], by rw [hU]; exact hP1, hD1.weaken (fun _ _ _ _ => trivial), kk_E.warm hW hE⟩⟩ rfl hn hsize rfl (lv_room hW) hdg hf
theorem kk_runI (hx : p.tables.exec = Jvm.exec) (hb : c.code = cc) (hml : c.maxLocals = nL) (hown : s.vm.findClass own = some m.cls) (hts : ∀ w ∈ kk_ws, w.before args s = true) (hE : kk_E D cB cI cJ cD s)
    (hM : Met l y (kk_W y bytes maxL none) rm (va_Pc (.ref b :: As) (kk_pre D cB cI cJ cD w1 H.size)) Qc mc ms free) (hm : kk_mI y bytes maxL k) (hlink : Cond.methodLink own index y ∈ kk_ws)
    (hrm : rm.cells = mc ∧ rm.slots = ms ∧ rm.frames + 1 ≤ R.frames ∧ 8 + (maxL + 11) + rm.locals ≤ R.locals) (hP1 : va_P D vwCl w1 H) (hD1 : va_D A w1)
    (hn : As.length = k) (hsize : ls.size = nL) (hW : (rest.map fun v => v.category).sum ≤ 8) (hdg : decode cc pc = .ok (.invokespecial index, 3)) (hf : cells + mc ≤ R.cells ∧ slots + ms ≤ R.slots) :
    va_Run p l e R s m args below meth c H locs cells slots mc ms (F0 m pc ls (As.reverse ++ .ref b :: rest)) rest (Qc (Value.ref b :: As).toArray) free := by
  obtain ⟨m1, m3, m4, m5, m6⟩ := hm
  exact va_runI (Ts := kk_ws) (own := own) (n := k) (bytes := bytes) (maxL := maxL) ⟨hx, hb, hml, hown, hts⟩ hM ⟨callB_of k hts (kk_gW m4) rfl hrm.1 hrm.2.1 (hts _ m3) (hts _ hlink) m6 hrm.2.2, m5, hts _ m1⟩ ⟨kk_blind, fun U hU hW => ⟨rfl, by rw [hU], by rw [hU]; exact hP1, hD1.weaken (fun _ _ _ _ => trivial), kk_E.warm hW hE⟩⟩ rfl hn hsize rfl (lv_room hW) hdg hf
theorem kk_runN (hx : p.tables.exec = Jvm.exec) (hb : c.code = cc) (hml : c.maxLocals = nL) (hown : s.vm.findClass own = some m.cls) (hts : ∀ w ∈ kk_ws, w.before args s = true) (hE : kk_E D cB cI cJ cD s)
    (hM : Met l y (kk_W y bytes maxL none) rm (va_Pc (.ref b :: As) (kk_pre D cB cI cJ cD w1 H.size)) Qc mc ms free) (hm : kk_mI y bytes maxL k) (hlink : (own, index, y) ∈ kk_nest)
    (hrm : rm.cells = mc ∧ rm.slots = ms ∧ rm.frames + 1 ≤ R.frames ∧ 8 + (maxL + 11) + rm.locals ≤ R.locals) (hP1 : va_P D vwCl w1 H) (hD1 : va_D A w1)
    (hn : As.length = k) (hsize : ls.size = nL) (hW : (rest.map fun v => v.category).sum ≤ 8) (hdg : decode cc pc = .ok (.invokespecial index, 3)) (hf : cells + mc ≤ R.cells ∧ slots + ms ≤ R.slots) :
    va_Run p l e R s m args below meth c H locs cells slots mc ms (F0 m pc ls (As.reverse ++ .ref b :: rest)) rest (Qc (Value.ref b :: As).toArray) free := by
  obtain ⟨m1, m3, m4, m5, m6⟩ := hm
  exact va_runIN (Ts := kk_ws) (own := own) (host := "GapLocks") (n := k) (bytes := bytes) (maxL := maxL) ⟨hx, hb, hml, hown, hts⟩ hM ⟨va_cnB k hts (kk_gW m4) rfl hrm.1 hrm.2.1 (hE.2.2 _ hlink) (hts _ m3) m6 hrm.2.2, m5, hts _ m1⟩ ⟨kk_blind, fun U hU hW => ⟨rfl, by rw [hU], by rw [hU]; exact hP1, hD1.weaken (fun _ _ _ _ => trivial), kk_E.warm hW hE⟩⟩ rfl hn hsize rfl (lv_room hW) hdg hf
end KKR
/-- ends: what a method answers, the cells behind it -/
def kk_B {S : Type} (D : va_G) (Bw : S → va_W) (A : Nat → Prop) : S → State → Prop := fun u t => va_P D vwCl (Bw u) t.heap ∧ va_D A (Bw u)
abbrev kk_Qi {S : Type} (D : va_G) (post : Int32 → S → Prop) (Bw : S → va_W) (A : Nat → Prop) : Array Value → State → Outcome → State → Prop := va_Qi post (kk_B D Bw A) A
abbrev kk_Ql {S : Type} (D : va_G) (post : Int64 → S → Prop) (Bw : S → va_W) (A : Nat → Prop) : Array Value → State → Outcome → State → Prop := va_Ql post (kk_B D Bw A) A
abbrev kk_Qv {S : Type} (D : va_G) (post : S → Prop) (Bw : S → va_W) (A : Nat → Prop) : Array Value → State → Outcome → State → Prop := va_Qv post (kk_B D Bw A) A
section KKC
variable {p : Program} {l : Launch} {e : Env} {R : Room} {s : State} {m : MethodId} {args : Array Value} {below : List Frame} {meth : Method} {c : Code} {H : Heap} {locs : List Loc} {cells slots : Nat} {Q : State → Prop}
variable {D : va_G} {cc : ByteArray} {mc ms pc : Nat} {rest st0 : List Value} {a : Array Value} {ls : Array Slot} {ws w1 wr : va_W} {A : Nat → Prop} {H0 : Heap} {S : Type} {Bw : S → va_W}
theorem kk_ci {post : Int32 → S → Prop} (hr : va_Run p l e R s m args below meth c H locs cells slots mc ms (F0 m pc ls st0) rest (kk_Qi D post Bw (va_A w1 H.size) a) (va_A w1 H.size)) (hP : va_P D vwCl ws H) (hD : va_D A ws) (hS : va_S A H0 H locs) (hA : ∀ q, H0.size ≤ q → A q)
    (isC isR : List Nat) (hC : isC.map (fun i => ws[i]?) = w1.map some) (hR : isR.map (fun i => ws[i]?) = wr.map some) (hn : va_nd isR = true) (hdis : ∀ i ∈ isR, i ∉ isC)
    (kk : ∀ (r : Int32) (u : S) (H1 : Heap) (locs1 : List Loc), post r u → va_P D vwCl (wr ++ Bw u) H1 → va_D A (wr ++ Bw u) → va_S A H0 H1 locs1 → W p l e R s m args below meth c H1 locs1 (cells + mc) (slots + ms) Q (F0 m (pc + 3) ls (.int r :: rest))) : W p l e R s m args below meth c H locs cells slots Q (F0 m pc ls st0) := by
  have hF := va_free (wc := w1) hD hS hA isC hC
  refine va_calli hr hS (fun q _ h => hF q h) hF (fun r u t H1 locs1 ht hvm hw hB hz1 hk1 hS1 => ?_)
  obtain ⟨hP1, hD1⟩ := hB
  rw [ht] at hP1
  obtain ⟨hP2, hD2⟩ := va_join (wr := wr) (w1 := Bw u) hP hD isC isR hC hR hn hdis hk1 hF hP1 hD1
  exact kk r u H1 locs1 hw hP2 hD2 hS1
theorem kk_cl {post : Int64 → S → Prop} (hr : va_Run p l e R s m args below meth c H locs cells slots mc ms (F0 m pc ls st0) rest (kk_Ql D post Bw (va_A w1 H.size) a) (va_A w1 H.size)) (hP : va_P D vwCl ws H) (hD : va_D A ws) (hS : va_S A H0 H locs) (hA : ∀ q, H0.size ≤ q → A q)
    (isC isR : List Nat) (hC : isC.map (fun i => ws[i]?) = w1.map some) (hR : isR.map (fun i => ws[i]?) = wr.map some) (hn : va_nd isR = true) (hdis : ∀ i ∈ isR, i ∉ isC)
    (kk : ∀ (r : Int64) (u : S) (H1 : Heap) (locs1 : List Loc), post r u → va_P D vwCl (wr ++ Bw u) H1 → va_D A (wr ++ Bw u) → va_S A H0 H1 locs1 → W p l e R s m args below meth c H1 locs1 (cells + mc) (slots + ms) Q (F0 m (pc + 3) ls (.long r :: rest))) : W p l e R s m args below meth c H locs cells slots Q (F0 m pc ls st0) := by
  have hF := va_free (wc := w1) hD hS hA isC hC
  refine va_calll hr hS (fun q _ h => hF q h) hF (fun r u t H1 locs1 ht hvm hw hB hz1 hk1 hS1 => ?_)
  obtain ⟨hP1, hD1⟩ := hB
  rw [ht] at hP1
  obtain ⟨hP2, hD2⟩ := va_join (wr := wr) (w1 := Bw u) hP hD isC isR hC hR hn hdis hk1 hF hP1 hD1
  exact kk r u H1 locs1 hw hP2 hD2 hS1
theorem kk_cv {post : S → Prop} (hr : va_Run p l e R s m args below meth c H locs cells slots mc ms (F0 m pc ls st0) rest (kk_Qv D post Bw (va_A w1 H.size) a) (va_A w1 H.size)) (hP : va_P D vwCl ws H) (hD : va_D A ws) (hS : va_S A H0 H locs) (hA : ∀ q, H0.size ≤ q → A q)
    (isC isR : List Nat) (hC : isC.map (fun i => ws[i]?) = w1.map some) (hR : isR.map (fun i => ws[i]?) = wr.map some) (hn : va_nd isR = true) (hdis : ∀ i ∈ isR, i ∉ isC)
    (kk : ∀ (u : S) (H1 : Heap) (locs1 : List Loc), post u → va_P D vwCl (wr ++ Bw u) H1 → va_D A (wr ++ Bw u) → va_S A H0 H1 locs1 → W p l e R s m args below meth c H1 locs1 (cells + mc) (slots + ms) Q (F0 m (pc + 3) ls rest)) : W p l e R s m args below meth c H locs cells slots Q (F0 m pc ls st0) := by
  have hF := va_free (wc := w1) hD hS hA isC hC
  refine va_callv hr hS (fun q _ h => hF q h) hF (fun u t H1 locs1 ht hvm hw hB hz1 hk1 hS1 => ?_)
  obtain ⟨hP1, hD1⟩ := hB
  rw [ht] at hP1
  obtain ⟨hP2, hD2⟩ := va_join (wr := wr) (w1 := Bw u) hP hD isC isR hC hR hn hdis hk1 hF hP1 hD1
  exact kk u H1 locs1 hw hP2 hD2 hS1
/-- a call that leaves the heap as it is -/
theorem kk_pi {post : Int32 → Prop} (hr : va_Run p l e R s m args below meth c H locs cells slots 0 0 (F0 m pc ls st0) rest (vp_Si post a) (fun _ => False))
    (kk : ∀ r : Int32, post r → W p l e R s m args below meth c H locs cells slots Q (F0 m (pc + 3) ls (.int r :: rest))) : W p l e R s m args below meth c H locs cells slots Q (F0 m pc ls st0) := by
  intro T hT X
  obtain ⟨v, st₀, t, T', L, h0, X', hL, e1, -, ⟨r, hv, hp, hh⟩, st⟩ := hr T hT X
  cases hv
  obtain ⟨t2, a1, b1⟩ := kk r hp T' (by rw [e1, hh, h0]) (Stand.forget X' (fun q h => (hL q h).elim))
  exact ⟨t2, st t2 a1, b1⟩
theorem kk_pl {post : Int64 → Prop} (hr : va_Run p l e R s m args below meth c H locs cells slots 0 0 (F0 m pc ls st0) rest (vp_Sl post a) (fun _ => False))
    (kk : ∀ r : Int64, post r → W p l e R s m args below meth c H locs cells slots Q (F0 m (pc + 3) ls (.long r :: rest))) : W p l e R s m args below meth c H locs cells slots Q (F0 m pc ls st0) := by
  intro T hT X
  obtain ⟨v, st₀, t, T', L, h0, X', hL, e1, -, ⟨r, hv, hp, hh⟩, st⟩ := hr T hT X
  cases hv
  obtain ⟨t2, a1, b1⟩ := kk r hp T' (by rw [e1, hh, h0]) (Stand.forget X' (fun q h => (hL q h).elim))
  exact ⟨t2, st t2 a1, b1⟩
theorem kk_pf {post : UInt32 → Prop} (hr : va_Run p l e R s m args below meth c H locs cells slots 0 0 (F0 m pc ls st0) rest (vp_Sf post a) (fun _ => False))
    (kk : ∀ r : UInt32, post r → W p l e R s m args below meth c H locs cells slots Q (F0 m (pc + 3) ls (.float r :: rest))) : W p l e R s m args below meth c H locs cells slots Q (F0 m pc ls st0) := by
  intro T hT X
  obtain ⟨v, st₀, t, T', L, h0, X', hL, e1, -, ⟨r, hv, hp, hh⟩, st⟩ := hr T hT X
  cases hv
  obtain ⟨t2, a1, b1⟩ := kk r hp T' (by rw [e1, hh, h0]) (Stand.forget X' (fun q h => (hL q h).elim))
  exact ⟨t2, st t2 a1, b1⟩
/-- ends -/
theorem kk_ret_i {post : Int32 → S → Prop} {v : Int32} (u : S) {mc ms : Nat} (hx : p.tables.exec = Jvm.exec) (hb : c.code = cc) (hr : meth.sig.returnType = some .int) (hlocks : meth.locks = false) (hpost : post v u) (hP : va_P D vwCl (Bw u) H) (hD : va_D A (Bw u)) (hS : va_S A s.heap H locs) (hdg : decode cc pc = .ok (.ireturn, 1)) (h1 : cells ≤ mc) (h2 : slots ≤ ms) :
    W p l e R s m args below meth c H locs cells slots (MQ below (kk_Qi D post Bw A) args s mc ms A) (F0 m pc ls [.int v]) :=
  W.widen (k := mc) (n := ms) h1 h2 (W.iret (v := v) hx hb hr (fun t ht hW => ⟨⟨v, u, rfl, hpost, by rw [ht]; exact hP, hD⟩, hS.F ht⟩) hS.2.2 hdg)
theorem kk_ret_z {post : Int32 → S → Prop} {v : Int32} (u : S) {mc ms : Nat} (hx : p.tables.exec = Jvm.exec) (hb : c.code = cc) (hr : meth.sig.returnType = some .boolean) (hlocks : meth.locks = false) (hn : narrow .boolean (.int v) = .int v) (hpost : post v u) (hP : va_P D vwCl (Bw u) H) (hD : va_D A (Bw u)) (hS : va_S A s.heap H locs) (hdg : decode cc pc = .ok (.ireturn, 1)) (h1 : cells ≤ mc) (h2 : slots ≤ ms) :
    W p l e R s m args below meth c H locs cells slots (MQ below (kk_Qi D post Bw A) args s mc ms A) (F0 m pc ls [.int v]) :=
  W.widen (k := mc) (n := ms) h1 h2 (W.zret (v := v) hx hb hr hn (fun t ht hW => ⟨⟨v, u, rfl, hpost, by rw [ht]; exact hP, hD⟩, hS.F ht⟩) hS.2.2 hdg)
theorem kk_ret_v {post : S → Prop} (u : S) {mc ms : Nat} (hx : p.tables.exec = Jvm.exec) (hb : c.code = cc) (hr : meth.sig.returnType = none) (hlocks : meth.locks = false) (hpost : post u) (hP : va_P D vwCl (Bw u) H) (hD : va_D A (Bw u)) (hS : va_S A s.heap H locs) (hdg : decode cc pc = .ok (.return_, 1)) (h1 : cells ≤ mc) (h2 : slots ≤ ms) :
    W p l e R s m args below meth c H locs cells slots (MQ below (kk_Qv D post Bw A) args s mc ms A) (F0 m pc ls []) :=
  W.widen (k := mc) (n := ms) h1 h2 (W.vret hx hb hr (fun t ht hW => ⟨⟨u, rfl, hpost, by rw [ht]; exact hP, hD⟩, hS.F ht⟩) hS.2.2 hdg)
theorem kk_pret_i {post : Int32 → Prop} {v : Int32} (hx : p.tables.exec = Jvm.exec) (hb : c.code = cc) (hr : meth.sig.returnType = some .int) (hlocks : meth.locks = false) (hpost : post v) (hdg : decode cc pc = .ok (.ireturn, 1)) :
    W p l e R s m args below meth c s.heap [] 0 0 (MQ below (vp_Si post) args s 0 0 (fun _ => False)) (F0 m pc ls [.int v]) :=
  W.iret (v := v) hx hb hr (fun t ht hW => ⟨v, rfl, hpost, ht⟩) (fun q hq => absurd hq List.not_mem_nil) hdg
theorem kk_pret_z {post : Int32 → Prop} {v : Int32} (hx : p.tables.exec = Jvm.exec) (hb : c.code = cc) (hr : meth.sig.returnType = some .boolean) (hlocks : meth.locks = false) (hn : narrow .boolean (.int v) = .int v) (hpost : post v) (hdg : decode cc pc = .ok (.ireturn, 1)) :
    W p l e R s m args below meth c s.heap [] 0 0 (MQ below (vp_Si post) args s 0 0 (fun _ => False)) (F0 m pc ls [.int v]) :=
  W.zret (v := v) hx hb hr hn (fun t ht hW => ⟨v, rfl, hpost, ht⟩) (fun q hq => absurd hq List.not_mem_nil) hdg
theorem kk_pret_l {post : Int64 → Prop} {v : Int64} (hx : p.tables.exec = Jvm.exec) (hb : c.code = cc) (hr : meth.sig.returnType = some .long) (hlocks : meth.locks = false) (hpost : post v) (hdg : decode cc pc = .ok (.lreturn, 1)) :
    W p l e R s m args below meth c s.heap [] 0 0 (MQ below (vp_Sl post) args s 0 0 (fun _ => False)) (F0 m pc ls [.long v]) :=
  W.lret (v := v) hx hb hr (fun t ht hW => ⟨v, rfl, hpost, ht⟩) (fun q hq => absurd hq List.not_mem_nil) hdg
theorem kk_pret_f {post : UInt32 → Prop} {v : UInt32} (hx : p.tables.exec = Jvm.exec) (hb : c.code = cc) (hr : meth.sig.returnType = some .float) (hlocks : meth.locks = false) (hpost : post v) (hdg : decode cc pc = .ok (.freturn, 1)) :
    W p l e R s m args below meth c s.heap [] 0 0 (MQ below (vp_Sf post) args s 0 0 (fun _ => False)) (F0 m pc ls [.float v]) :=
  W.fret (v := v) hx hb hr (fun t ht hW => ⟨v, rfl, hpost, ht⟩) (fun q hq => absurd hq List.not_mem_nil) hdg
end KKC
/-- a method's start: the machine, the words, the environment, the cells, the locals -/
theorem kk_start {l : Launch} {D : va_G} {cB cI cJ cD : ClassId} {y : MethodName} {cc : ByteArray} {maxL : Nat} {ret : Option FieldType} {rm : Room} {av : List Value} {ws : va_W} {sz : Nat} {Qc : (Nat → Prop) → Array Value → State → Outcome → State → Prop} {mc ms : Nat} (hy : plainName y.cls = true) (hlen : (lg_sl av).length ≤ maxL)
    (body : ∀ (p : Program) (e : Env) (s : State) (m : MethodId) (below : List Frame) (meth : Method) (c : Code) (ls : Array Slot) (A : Nat → Prop), p.tables.exec = Jvm.exec → c.code = cc → meth.sig.returnType = ret → c.maxLocals = maxL → s.vm.findClass y.cls = some m.cls → (∀ w ∈ kk_ws, w.before av.toArray s = true) → kk_E D cB cI cJ cD s → meth.locks = false → meth.name = y.name → s.heap.size = sz → va_P D vwCl ws s.heap → va_D A ws → (∀ q : Nat, s.heap.size ≤ q → A q) → va_S A s.heap s.heap [] → lv_has ls maxL (lv_args 0 av) → W p l e rm s m av.toArray below meth c s.heap [] 0 0 (MQ below (Qc A) av.toArray s mc ms A) (F0 m 0 ls [])) :
    Met l y (kk_W y cc maxL ret) rm (va_Pc av (kk_pre D cB cI cJ cD ws sz)) (Qc (va_A ws sz)) mc ms (va_A ws sz) := by
  refine Met.ofW (cc := cc) (maxL := maxL) (ret := ret) hy rfl ?_
  intro p e s m args below meth c s₁ B hml hv
  obtain ⟨rfl, hsz, hP, hD0, hE⟩ := hv
  have hts := atoms_spec (ws := kk_W y cc maxL ret) B.pre
  have hl := lv_entry av (n := maxL) hlen
  rw [lg_entry_eq]
  subst hsz
  exact body p e s m below meth c _ _ B.exec B.bytes B.returns hml (findClass_of_methodNamed B.named) (fun w h => hts w (List.mem_cons_of_mem _ h)) hE B.notSynchronized (name_of_methodNamed B.named B.method).1 rfl hP hD0.self (fun q h => Or.inr h) va_S.rf hl
/-- the start of a method that leaves the heap as it is -/
theorem kk_pstart {l : Launch} {D : va_G} {cB cI cJ cD : ClassId} {y : MethodName} {cc : ByteArray} {maxL : Nat} {ret : Option FieldType} {rm : Room} {av : List Value} {ws : va_W} {sz : Nat} {Qc : Array Value → State → Outcome → State → Prop} (hy : plainName y.cls = true) (hlen : (lg_sl av).length ≤ maxL)
    (body : ∀ (p : Program) (e : Env) (s : State) (m : MethodId) (below : List Frame) (meth : Method) (c : Code) (ls : Array Slot), p.tables.exec = Jvm.exec → c.code = cc → meth.sig.returnType = ret → c.maxLocals = maxL → s.vm.findClass y.cls = some m.cls → (∀ w ∈ kk_ws, w.before av.toArray s = true) → kk_E D cB cI cJ cD s → meth.locks = false → s.heap.size = sz → va_P D vwCl ws s.heap → va_D (fun _ => True) ws → lv_has ls maxL (lv_args 0 av) → W p l e rm s m av.toArray below meth c s.heap [] 0 0 (MQ below Qc av.toArray s 0 0 (fun _ => False)) (F0 m 0 ls [])) :
    Met l y (kk_W y cc maxL ret) rm (va_Pc av (kk_pre D cB cI cJ cD ws sz)) Qc 0 0 (fun _ => False) := by
  refine Met.ofW (cc := cc) (maxL := maxL) (ret := ret) hy rfl ?_
  intro p e s m args below meth c s₁ B hml hv
  obtain ⟨rfl, hsz, hP, hD0, hE⟩ := hv
  have hts := atoms_spec (ws := kk_W y cc maxL ret) B.pre
  have hl := lv_entry av (n := maxL) hlen
  rw [lg_entry_eq]
  subst hsz
  exact body p e s m below meth c _ B.exec B.bytes B.returns hml (findClass_of_methodNamed B.named) (fun w h => hts w (List.mem_cons_of_mem _ h)) hE B.notSynchronized rfl hP hD0 hl
