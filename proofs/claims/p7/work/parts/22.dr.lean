/-! ===== methods that draw (floats of any kind), and leave the heap as it is ===== -/
theorem kk_pstartD {l : Launch} {D : va_G} {cB cI cJ cD : ClassId} {y : MethodName} {cc : ByteArray} {maxL : Nat} {ret : Option FieldType} {rm : Room} {av : List Value} {ws : va_W} {sz : Nat} {Qc : Array Value → State → Outcome → State → Prop} (hy : plainName y.cls = true) (hlen : (lg_sl av).length ≤ maxL)
    (body : ∀ (p : Program) (e : Env) (s : State) (m : MethodId) (below : List Frame) (meth : Method) (c : Code) (ls : Array Slot), p.tables.exec = Jvm.exec → c.code = cc → meth.sig.returnType = ret → c.maxLocals = maxL → s.vm.findClass y.cls = some m.cls → (∀ w ∈ kk_ws, w.before av.toArray s = true) → kk_E D cB cI cJ cD s → meth.locks = false → s.heap.size = sz → va_P D vwCl ws s.heap → va_D (fun _ => True) ws → lv_has ls maxL (lv_args 0 av) → s.drawn.sameBut s.drawn lw_cs → W p l e rm (s.setDrawn s.drawn) m av.toArray below meth c s.heap [] 0 0 (MQD lw_cs below Qc av.toArray s 0 0 (fun _ => False)) (F0 m 0 ls [])) :
    MetD lw_cs l y (kk_W y cc maxL ret) rm (va_Pc av (kk_pre D cB cI cJ cD ws sz)) Qc 0 0 (fun _ => False) := by
  refine MetD.ofW (cc := cc) (maxL := maxL) (ret := ret) hy rfl ?_
  intro p e s m args below meth c s₁ B hml hv hd0
  obtain ⟨rfl, hsz, hP, hD0, hE⟩ := hv
  have hts := atoms_spec (ws := kk_W y cc maxL ret) B.pre
  have hl := lv_entry av (n := maxL) hlen
  rw [lg_entry_eq]
  subst hsz
  exact body p e s m below meth c _ B.exec B.bytes B.returns hml (findClass_of_methodNamed B.named) (fun w h => hts w (List.mem_cons_of_mem _ h)) hE B.notSynchronized rfl hP hD0 hl hd0
section KKRD
variable {p : Program} {l : Launch} {e : Env} {R : Room} {s : State} {m : MethodId} {args : Array Value} {below : List Frame} {meth : Method} {c : Code} {H : Heap} {locs : List Loc} {cells slots : Nat} {Q : State → Prop}
variable {D : va_G} {cB cI cJ cD : ClassId} {y : MethodName} {bytes cc : ByteArray} {maxL nL mc ms index k pc : Nat} {ret : Option FieldType} {rm : Room} {Qc : Array Value → State → Outcome → State → Prop} {free : Addr → Prop} {own : String} {b : Addr} {As rest : List Value} {ls : Array Slot} {ws w1 wr : va_W} {A : Nat → Prop} {H0 : Heap}
theorem kk_runVD (hx : p.tables.exec = Jvm.exec) (hb : c.code = cc) (hml : c.maxLocals = nL) (hown : s.vm.findClass own = some m.cls) (hts : ∀ w ∈ kk_ws, w.before args s = true) (hE : kk_E D cB cI cJ cD s)
    (hM : MetD lw_cs l y (kk_W y bytes maxL ret) rm (va_Pc (.ref b :: As) (kk_pre D cB cI cJ cD w1 H.size)) Qc mc ms free) (hm : kk_mV y bytes maxL ret k) (hlink : Cond.methodLink own index y ∈ kk_ws)
    (hrm : rm.cells = mc ∧ rm.slots = ms ∧ rm.frames + 1 ≤ R.frames ∧ 8 + (maxL + 11) + rm.locals ≤ R.locals) (hP1 : va_P D vwCl w1 H) (hD1 : va_D A w1) (q0 ci : Nat) {fs : List Value} {T : u_T} {N : Nat} (he : w1[q0]? = some (b, .inr (ci, fs))) (hc : vwCl[ci]? = some (y.cls, T, N))
    (hn : As.length = k) (hsize : ls.size = nL) (hW : (rest.map fun v => v.category).sum ≤ 8) (hdg : decode cc pc = .ok (.invokevirtual index, 3)) (hf : cells + mc ≤ R.cells ∧ slots + ms ≤ R.slots) :
    va_RunD lw_cs p l e R s m args below meth c H locs cells slots mc ms (F0 m pc ls (As.reverse ++ .ref b :: rest)) rest (Qc (Value.ref b :: As).toArray) free := by
  obtain ⟨m1, m2, m3, m4, m5⟩ := hm
  refine va_runV_D (Ts := kk_ws) (own := own) (C := y.cls) (n := k) (bytes := bytes) (maxL := maxL) (ret := ret) ⟨hx, hb, hml, hown, hts⟩ hM ⟨callB_of k hts (kk_gW m4) rfl hrm.1 hrm.2.1 (hts _ m3) (hts _ hlink) m5 hrm.2.2, hts _ m1, hts _ m2⟩ ⟨kk_blind, ?_, fun U hU hW => ⟨rfl, by rw [hU], by rw [hU]; exact hP1, hD1.weaken (fun _ _ _ _ => trivial), kk_E.warm hW hE⟩⟩ rfl hn hsize rfl (lv_room hW) hdg hf
  exact va_recv hE.1 hP1 (ci := ci) (q0 := q0) hc he
theorem kk_runSD (hx : p.tables.exec = Jvm.exec) (hb : c.code = cc) (hml : c.maxLocals = nL) (hown : s.vm.findClass own = some m.cls) (hts : ∀ w ∈ kk_ws, w.before args s = true) (hE : kk_E D cB cI cJ cD s)
    (hM : MetD lw_cs l y (kk_W y bytes maxL ret) rm (va_Pc As (kk_pre D cB cI cJ cD w1 H.size)) Qc mc ms free) (hm : kk_mS y bytes maxL ret k) (hlink : Cond.methodLink own index y ∈ kk_ws)
    (hrm : rm.cells = mc ∧ rm.slots = ms ∧ rm.frames + 1 ≤ R.frames ∧ 8 + (maxL + 11) + rm.locals ≤ R.locals) (hP1 : va_P D vwCl w1 H) (hD1 : va_D A w1)
    (hn : As.length = k) (hsize : ls.size = nL) (hW : (rest.map fun v => v.category).sum ≤ 8) (hdg : decode cc pc = .ok (.invokestatic index, 3)) (hf : cells + mc ≤ R.cells ∧ slots + ms ≤ R.slots) :
    va_RunD lw_cs p l e R s m args below meth c H locs cells slots mc ms (F0 m pc ls (As.reverse ++ rest)) rest (Qc As.toArray) free := by
  obtain ⟨m1, m3, m4, m5⟩ := hm
  exact va_runS_D (Ts := kk_ws) (own := own) (n := k) (bytes := bytes) (maxL := maxL) (ret := ret) ⟨hx, hb, hml, hown, hts⟩ hM ⟨callB_of k hts (kk_gW m4) rfl hrm.1 hrm.2.1 (hts _ m3) (hts _ hlink) m5 hrm.2.2, hts _ m1⟩ ⟨kk_blind, fun U hU hW => ⟨rfl, by rw [hU], by rw [hU]; exact hP1, hD1.weaken (fun _ _ _ _ => trivial), kk_E.warm hW hE⟩⟩ rfl hn hsize rfl (lv_room hW) hdg hf
end KKRD
section KKCD
variable {p : Program} {l : Launch} {e : Env} {R : Room} {s : State} {m : MethodId} {args : Array Value} {below : List Frame} {meth : Method} {c : Code} {H : Heap} {locs : List Loc} {cells slots : Nat} {Q : State → Prop}
variable {pc : Nat} {rest st0 : List Value} {a : Array Value} {ls : Array Slot}
theorem kk_piD {post : Int32 → Prop} {d0 : Drawn} (hd0 : s.drawn.sameBut d0 lw_cs) (hr : va_RunD lw_cs p l e R (s.setDrawn d0) m args below meth c H locs cells slots 0 0 (F0 m pc ls st0) rest (vp_Si post a) (fun _ => False))
    (kk : ∀ r : Int32, post r → ∀ d' : Drawn, s.drawn.sameBut d' lw_cs → W p l e R (s.setDrawn d') m args below meth c H locs cells slots Q (F0 m (pc + 3) ls (.int r :: rest))) : W p l e R (s.setDrawn d0) m args below meth c H locs cells slots Q (F0 m pc ls st0) := by
  intro T hT X
  obtain ⟨v, st₀, t, T', L, d', hd', h0, X', hL, e1, -, ⟨r, hv, hp, hh⟩, st⟩ := hr T hT X
  cases hv
  obtain ⟨t2, a1, b1⟩ := kk r hp d' (hd0.trans hd') T' (by rw [e1, hh, h0]) (Stand.forget X' (fun q h => (hL q h).elim))
  exact ⟨t2, st t2 a1, b1⟩
theorem kk_pfD {post : UInt32 → Prop} {d0 : Drawn} (hd0 : s.drawn.sameBut d0 lw_cs) (hr : va_RunD lw_cs p l e R (s.setDrawn d0) m args below meth c H locs cells slots 0 0 (F0 m pc ls st0) rest (vp_Sf post a) (fun _ => False))
    (kk : ∀ r : UInt32, post r → ∀ d' : Drawn, s.drawn.sameBut d' lw_cs → W p l e R (s.setDrawn d') m args below meth c H locs cells slots Q (F0 m (pc + 3) ls (.float r :: rest))) : W p l e R (s.setDrawn d0) m args below meth c H locs cells slots Q (F0 m pc ls st0) := by
  intro T hT X
  obtain ⟨v, st₀, t, T', L, d', hd', h0, X', hL, e1, -, ⟨r, hv, hp, hh⟩, st⟩ := hr T hT X
  cases hv
  obtain ⟨t2, a1, b1⟩ := kk r hp d' (hd0.trans hd') T' (by rw [e1, hh, h0]) (Stand.forget X' (fun q h => (hL q h).elim))
  exact ⟨t2, st t2 a1, b1⟩
end KKCD
/-- a method that answers a cell of its own world -/
abbrev kk_Qr {S : Type} (D : va_G) (ra : Nat) (post : S → Prop) (Bw : S → va_W) (A : Nat → Prop) : Array Value → State → Outcome → State → Prop := va_Qr post (fun u a t => a = ra ∧ kk_B D Bw A u t) A
section KKCR
variable {p : Program} {l : Launch} {e : Env} {R : Room} {s : State} {m : MethodId} {args : Array Value} {below : List Frame} {meth : Method} {c : Code} {H : Heap} {locs : List Loc} {cells slots : Nat} {Q : State → Prop}
variable {D : va_G} {cc : ByteArray} {mc ms pc : Nat} {rest st0 : List Value} {a : Array Value} {ls : Array Slot} {ws w1 wr : va_W} {A : Nat → Prop} {H0 : Heap} {S : Type} {Bw : S → va_W}
theorem kk_cr {post : S → Prop} {ra : Nat} (hr : va_Run p l e R s m args below meth c H locs cells slots mc ms (F0 m pc ls st0) rest (kk_Qr D ra post Bw (va_A w1 H.size) a) (va_A w1 H.size)) (hP : va_P D vwCl ws H) (hD : va_D A ws) (hS : va_S A H0 H locs) (hA : ∀ q, H0.size ≤ q → A q)
    (isC isR : List Nat) (hC : isC.map (fun i => ws[i]?) = w1.map some) (hR : isR.map (fun i => ws[i]?) = wr.map some) (hn : va_nd isR = true) (hdis : ∀ i ∈ isR, i ∉ isC)
    (kk : ∀ (u : S) (H1 : Heap) (locs1 : List Loc), post u → va_P D vwCl (wr ++ Bw u) H1 → va_D A (wr ++ Bw u) → va_S A H0 H1 locs1 → W p l e R s m args below meth c H1 locs1 (cells + mc) (slots + ms) Q (F0 m (pc + 3) ls (.ref ra :: rest))) : W p l e R s m args below meth c H locs cells slots Q (F0 m pc ls st0) := by
  have hF := va_free (wc := w1) hD hS hA isC hC
  refine va_callr hr hS (fun q _ h => hF q h) hF (fun u a2 t H1 locs1 ht hvm hw hB hz1 hk1 hS1 => ?_)
  obtain ⟨rfl, hP1, hD1⟩ := hB
  rw [ht] at hP1
  obtain ⟨hP2, hD2⟩ := va_join (wr := wr) (w1 := Bw u) hP hD isC isR hC hR hn hdis hk1 hF hP1 hD1
  exact kk u H1 locs1 hw hP2 hD2 hS1
theorem kk_ret_r {post : S → Prop} {ra : Nat} {cn : String} (u : S) {mc ms : Nat} (hx : p.tables.exec = Jvm.exec) (hb : c.code = cc) (hr : meth.sig.returnType = some (.object cn)) (hlocks : meth.locks = false) (hpost : post u) (hP : va_P D vwCl (Bw u) H) (hD : va_D A (Bw u)) (hS : va_S A s.heap H locs) (hdg : decode cc pc = .ok (.areturn, 1)) (h1 : cells ≤ mc) (h2 : slots ≤ ms) :
    W p l e R s m args below meth c H locs cells slots (MQ below (kk_Qr D ra post Bw A) args s mc ms A) (F0 m pc ls [.ref ra]) :=
  W.widen (k := mc) (n := ms) h1 h2 (W.aret (v := .ref ra) hx hb hr (Or.inl ⟨_, rfl⟩) (Or.inr ⟨_, rfl⟩) (fun t ht hW => ⟨⟨u, ra, rfl, hpost, rfl, by rw [ht]; exact hP, hD⟩, hS.F ht⟩) hS.2.2 hdg)
end KKCR
