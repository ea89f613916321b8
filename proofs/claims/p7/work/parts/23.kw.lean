/-! ===== methods that read Reader.WORDS: a static row of 11 ints, older than z0, where no cell of ours lies ===== -/
def kw_E (z0 wa : Nat) (fw : Nat → Int32) (U : State) (H : Heap) : Prop := va_Z RX5 "WORDS" "[I" (.ref wa) (fun q => z0 ≤ q) U H ∧ wa < z0 ∧ wa < H.size ∧ z0 ≤ H.size ∧ va_T .int wa 11 (fun j => .int (fw j)) (fun q => z0 ≤ q) U H
theorem kw_E.warm {z0 wa : Nat} {fw : Nat → Int32} {s U : State} {H : Heap} (hW : s.WarmedH U.vm) (h : kw_E z0 wa fw s H) : kw_E z0 wa fw U H := ⟨va_Z.moved hW.alike h.1, h.2.1, h.2.2.1, h.2.2.2.1, va_T.moved hW.alike h.2.2.2.2⟩
theorem kw_E.call {z0 wa : Nat} {fw : Nat → Int32} {U : State} {H : Heap} {g : JFrame} {mk : MethodId} {a : Array Value} (h : kw_E z0 wa fw U H) : kw_E z0 wa fw (U.calling g mk a) H := ⟨va_Z.moved (u := U) (U := U.calling g mk a) (Vm.Alike.refl U.vm) h.1, h.2.1, h.2.2.1, h.2.2.2.1, va_T.moved (u := U) (U := U.calling g mk a) (Vm.Alike.refl U.vm) h.2.2.2.2⟩
theorem kw_E.kept {z0 wa : Nat} {fw : Nat → Int32} {U : State} {H H1 : Heap} (h : kw_E z0 wa fw U H) (hz : H.size ≤ H1.size) (hq : ∀ a : Nat, a < H.size → a < z0 → H1[a]? = H[a]?) : kw_E z0 wa fw U H1 :=
  ⟨va_Z.kept h.1 (fun a h1 h2 => hq a h1 (Nat.not_le.mp h2)), h.2.1, Nat.lt_of_lt_of_le h.2.2.1 hz, Nat.le_trans h.2.2.2.1 hz, va_T.kept h.2.2.2.2 (fun a h1 h2 => hq a h1 (Nat.not_le.mp h2))⟩
def kw_pre (D : va_G) (cB cI cJ cD : ClassId) (ws : va_W) (sz z0 wa : Nat) (fw : Nat → Int32) (U : State) : Prop := kk_pre D cB cI cJ cD ws sz U ∧ kw_E z0 wa fw U U.heap ∧ ∀ (k : Nat) (q : Nat × va_E), ws[k]? = some q → z0 ≤ q.1
theorem kw_blind {av : List Value} {D : va_G} {cB cI cJ cD : ClassId} {ws : va_W} {sz z0 wa : Nat} {fw : Nat → Int32} : FrameBlind (va_Pc av (kw_pre D cB cI cJ cD ws sz z0 wa fw)) := fun _ _ _ _ q => ⟨q.1, ⟨q.2.1.1, q.2.1.2.1, q.2.1.2.2.1, kk_E.call q.2.1.2.2.2⟩, kw_E.call q.2.2.1, q.2.2.2⟩
theorem kw_now {z0 wa : Nat} {fw : Nat → Int32} {s : State} {H : Heap} {locs : List Loc} {A : Nat → Prop} (hw : kw_E z0 wa fw s s.heap) (hAz : ∀ q, A q → z0 ≤ q) (hS : va_S A s.heap H locs) : kw_E z0 wa fw s H := hw.kept hS.1 (fun a h1 h2 => hS.2.1 a h1 (fun h => absurd (hAz a h) (Nat.not_le.mpr h2)))
section KWR
variable {p : Program} {l : Launch} {e : Env} {R : Room} {s : State} {m : MethodId} {args : Array Value} {below : List Frame} {meth : Method} {c : Code} {H : Heap} {locs locs0 : List Loc} {cells slots : Nat} {Q : State → Prop}
variable {D : va_G} {cB cI cJ cD : ClassId} {y : MethodName} {bytes cc : ByteArray} {maxL nL mc ms index k pc z0 wa : Nat} {fw : Nat → Int32} {ret : Option FieldType} {rm : Room} {Qc : Array Value → State → Outcome → State → Prop} {free : Addr → Prop} {own : String} {b : Addr} {As rest : List Value} {ls : Array Slot} {ws w1 wr : va_W} {A : Nat → Prop}
theorem kw_runV (hw : kw_E z0 wa fw s s.heap) (hAz : ∀ q, A q → z0 ≤ q) (hS : va_S A s.heap H locs0) (hx : p.tables.exec = Jvm.exec) (hb : c.code = cc) (hml : c.maxLocals = nL) (hown : s.vm.findClass own = some m.cls) (hts : ∀ w ∈ kk_ws, w.before args s = true) (hE : kk_E D cB cI cJ cD s)
    (hM : Met l y (kk_W y bytes maxL ret) rm (va_Pc (.ref b :: As) (kw_pre D cB cI cJ cD w1 H.size z0 wa fw)) Qc mc ms free) (hm : kk_mV y bytes maxL ret k) (hlink : Cond.methodLink own index y ∈ kk_ws)
    (hrm : rm.cells = mc ∧ rm.slots = ms ∧ rm.frames + 1 ≤ R.frames ∧ 8 + (maxL + 11) + rm.locals ≤ R.locals) (hP1 : va_P D vwCl w1 H) (hD1 : va_D A w1) (q0 ci : Nat) {fs : List Value} {T : u_T} {N : Nat} (he : w1[q0]? = some (b, .inr (ci, fs))) (hc : vwCl[ci]? = some (y.cls, T, N))
    (hn : As.length = k) (hsize : ls.size = nL) (hW : (rest.map fun v => v.category).sum ≤ 8) (hdg : decode cc pc = .ok (.invokevirtual index, 3)) (hf : cells + mc ≤ R.cells ∧ slots + ms ≤ R.slots) :
    va_Run p l e R s m args below meth c H locs cells slots mc ms (F0 m pc ls (As.reverse ++ .ref b :: rest)) rest (Qc (Value.ref b :: As).toArray) free := by
  obtain ⟨m1, m2, m3, m4, m5⟩ := hm
  have hn2 := kw_now hw hAz hS
  refine va_runV (Ts := kk_ws) (own := own) (C := y.cls) (n := k) (bytes := bytes) (maxL := maxL) (ret := ret) ⟨hx, hb, hml, hown, hts⟩ hM ⟨callB_of k hts (kk_gW m4) rfl hrm.1 hrm.2.1 (hts _ m3) (hts _ hlink) m5 hrm.2.2, hts _ m1, hts _ m2⟩ ⟨kw_blind, ?_, fun U hU hW => ⟨rfl, ⟨by rw [hU], by rw [hU]; exact hP1, hD1.weaken (fun _ _ _ _ => trivial), kk_E.warm hW hE⟩, by rw [hU]; exact kw_E.warm hW hn2, fun i q hq => hAz _ (hD1.2 i q hq)⟩⟩ rfl hn hsize rfl (lv_room hW) hdg hf
  exact va_recv hE.1 hP1 (ci := ci) (q0 := q0) hc he
end KWR
theorem kw_start {l : Launch} {D : va_G} {cB cI cJ cD : ClassId} {y : MethodName} {cc : ByteArray} {maxL : Nat} {ret : Option FieldType} {rm : Room} {av : List Value} {ws : va_W} {sz z0 wa : Nat} {fw : Nat → Int32} {Qc : (Nat → Prop) → Array Value → State → Outcome → State → Prop} {mc ms : Nat} (hy : plainName y.cls = true) (hlen : (lg_sl av).length ≤ maxL)
    (body : ∀ (p : Program) (e : Env) (s : State) (m : MethodId) (below : List Frame) (meth : Method) (c : Code) (ls : Array Slot) (A : Nat → Prop), p.tables.exec = Jvm.exec → c.code = cc → meth.sig.returnType = ret → c.maxLocals = maxL → s.vm.findClass y.cls = some m.cls → (∀ w ∈ kk_ws, w.before av.toArray s = true) → kk_E D cB cI cJ cD s → meth.locks = false → meth.name = y.name → s.heap.size = sz → va_P D vwCl ws s.heap → va_D A ws → (∀ q : Nat, s.heap.size ≤ q → A q) → va_S A s.heap s.heap [] → lv_has ls maxL (lv_args 0 av) → kw_E z0 wa fw s s.heap → (∀ q, A q → z0 ≤ q) → W p l e rm s m av.toArray below meth c s.heap [] 0 0 (MQ below (Qc A) av.toArray s mc ms A) (F0 m 0 ls [])) :
    Met l y (kk_W y cc maxL ret) rm (va_Pc av (kw_pre D cB cI cJ cD ws sz z0 wa fw)) (Qc (va_A ws sz)) mc ms (va_A ws sz) := by
  refine Met.ofW (cc := cc) (maxL := maxL) (ret := ret) hy rfl ?_
  intro p e s m args below meth c s₁ B hml hv
  obtain ⟨rfl, ⟨hsz, hP, hD0, hE⟩, hw, hz⟩ := hv
  have hts := atoms_spec (ws := kk_W y cc maxL ret) B.pre
  have hl := lv_entry av (n := maxL) hlen
  rw [lg_entry_eq]
  subst hsz
  refine body p e s m below meth c _ _ B.exec B.bytes B.returns hml (findClass_of_methodNamed B.named) (fun w h => hts w (List.mem_cons_of_mem _ h)) hE B.notSynchronized (name_of_methodNamed B.named B.method).1 rfl hP hD0.self (fun q h => Or.inr h) va_S.rf hl hw ?_
  intro q h
  rcases h with ⟨k, e2, h⟩ | h
  · exact hz k (q, e2) h
  · exact Nat.le_trans hw.2.2.2.1 h
theorem kw_pstart {l : Launch} {D : va_G} {cB cI cJ cD : ClassId} {y : MethodName} {cc : ByteArray} {maxL : Nat} {ret : Option FieldType} {rm : Room} {av : List Value} {ws : va_W} {sz z0 wa : Nat} {fw : Nat → Int32} {Qc : Array Value → State → Outcome → State → Prop} (hy : plainName y.cls = true) (hlen : (lg_sl av).length ≤ maxL)
    (body : ∀ (p : Program) (e : Env) (s : State) (m : MethodId) (below : List Frame) (meth : Method) (c : Code) (ls : Array Slot), p.tables.exec = Jvm.exec → c.code = cc → meth.sig.returnType = ret → c.maxLocals = maxL → s.vm.findClass y.cls = some m.cls → (∀ w ∈ kk_ws, w.before av.toArray s = true) → kk_E D cB cI cJ cD s → meth.locks = false → s.heap.size = sz → va_P D vwCl ws s.heap → va_D (fun _ => True) ws → lv_has ls maxL (lv_args 0 av) → kw_E z0 wa fw s s.heap → W p l e rm s m av.toArray below meth c s.heap [] 0 0 (MQ below Qc av.toArray s 0 0 (fun _ => False)) (F0 m 0 ls [])) :
    Met l y (kk_W y cc maxL ret) rm (va_Pc av (kw_pre D cB cI cJ cD ws sz z0 wa fw)) Qc 0 0 (fun _ => False) := by
  refine Met.ofW (cc := cc) (maxL := maxL) (ret := ret) hy rfl ?_
  intro p e s m args below meth c s₁ B hml hv
  obtain ⟨rfl, ⟨hsz, hP, hD0, hE⟩, hw, -⟩ := hv
  have hts := atoms_spec (ws := kk_W y cc maxL ret) B.pre
  have hl := lv_entry av (n := maxL) hlen
  rw [lg_entry_eq]
  subst hsz
  exact body p e s m below meth c _ B.exec B.bytes B.returns hml (findClass_of_methodNamed B.named) (fun w h => hts w (List.mem_cons_of_mem _ h)) hE B.notSynchronized rfl hP hD0 hl hw
