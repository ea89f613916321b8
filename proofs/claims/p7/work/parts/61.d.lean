set_option maxHeartbeats 4000000 in
set_option maxRecDepth 100000 in
theorem la_head {p : Program} {l : Launch} {e : Env} {s : State} {m : MethodId} {below : List Frame} {meth : Method} {c : Code} {Q : State → Prop} {b L o : Nat} {xs : Nat → Int32} {A : Nat → Prop} {H : Heap} {locs : List Loc} {ls : Array Slot} {cells slots : Nat} {X M : Nat} {dd : Drawn} {i : Int32} (hL : L ≤ 3072) (hx : p.tables.exec = Jvm.exec) (hb : c.code = code) (hX0 : va_X b L xs s s.heap) (hbl : b < s.heap.size) (hbA : ¬ A b) (hS : va_S A s.heap H locs) (hl : lv_has ls 7 [(4, .int i), (3, .ref o), (2, .ref M), (1, .ref X), (0, .ref b)]) (h1 : W p l e room_1 (s.setDrawn dd) m #[Value.ref b] below meth c H locs cells slots Q (F0 m 1841 ls [])) (h2 : i.toInt + 6 ≤ L → W p l e room_1 (s.setDrawn dd) m #[Value.ref b] below meth c H locs cells slots Q (F0 m 33 ls [])) : W p l e room_1 (s.setDrawn dd) m #[Value.ref b] below meth c H locs cells slots Q (F0 m 23 ls []) := by
  have hX : va_X b L xs (s.setDrawn dd) (s.setDrawn dd).heap := hX0
  refine lv_iload hx hb dL_law_23 (lv_at hl 0 rfl) ?_
  refine lv_aload_n hx hb dL_law_25 rfl (lv_at hl 4 rfl) ?_
  refine va_slen hx hb hX hbl hbA hS dL_law_26 ?_
  refine lv_bipush (v := 6) hx hb dL_law_27 (by decide) ?_
  refine lv_isub hx hb dL_law_29 ?_
  refine lv_topi (fun v e => ?_)
  have tL : (Int32.ofNat L).toInt = (L : Int) := nI_toInt (by omega)
  have t := kt_sub (a := 0) (b := 3072) (c := 6) (d := 6) e ⟨by rw [tL]; omega, by rw [tL]; omega⟩ (kr_c 6 6 rfl) rfl
  have t6 : (6 : Int32).toInt = 6 := by decide
  refine lv_icmp_gt (tgt := 1841) hx hb dL_law_30 (by decide) (fun _ => h1) (fun h => h2 ?_)
  have q := ki_nlt h
  omega
set_option maxHeartbeats 4000000 in
set_option maxRecDepth 100000 in
theorem la_loop {p : Program} {l : Launch} {e : Env} {s : State} {m : MethodId} {below : List Frame} {meth : Method} {c : Code} {Q : State → Prop} {D : va_G} {cB cI cJ cD : ClassId} {b L o : Nat} {xs : Nat → Int32} {A : Nat → Prop} {z0 wa : Nat} {fw : Nat → Int32} {sa sb : Nat} (hL : L ≤ 3072) (hl0 : l.stackTraces = false) (hK : kx_E sa sb A s s.heap) (hx : p.tables.exec = Jvm.exec) (hb : c.code = code) (hml : c.maxLocals = 7) (hown : s.vm.findClass RL = some m.cls) (hts0 : ∀ w ∈ kk_ws, w.before #[Value.ref b] s = true) (hE0 : kk_E D cB cI cJ cD s) (hw : kw_E z0 wa fw s s.heap) (hAz : ∀ q, A q → z0 ≤ q) (hX0 : va_X b L xs s s.heap) (hbl : b < s.heap.size) (hbA : ¬ A b) (hA : ∀ q : Nat, s.heap.size ≤ q → A q) (hAe : ∀ q, A q → s.heap.size ≤ q) (hret : ∀ (dd : Drawn) (H : Heap) (ls : Array Slot), s.drawn.sameBut dd lw_cs → W p l e room_1 (s.setDrawn dd) m #[Value.ref b] below meth c H [] 601024 7293034 Q (F0 m 1842 ls [.int 1])) (k : Nat) : ∀ {H : Heap} {locs : List Loc} {ls : Array Slot} {cells slots : Nat} {ds : List kUT} {X M : Nat} {dd : Drawn} {i : Int32} (n : Nat), 512 ≤ n + k → i.toInt = 6 * (n : Int) → cells ≤ 300 + n + 27 * ds.length → slots ≤ 20000 + 6 * n + 1605 * ds.length → n ≤ 512 → s.drawn.sameBut dd lw_cs → kInv D A cB cI cJ cD o (n : Int) ds X M H → va_S A s.heap H locs → lv_has ls 7 [(4, .int i), (3, .ref o), (2, .ref M), (1, .ref X), (0, .ref b)] → W p l e room_1 (s.setDrawn dd) m #[Value.ref b] below meth c H locs cells slots Q (F0 m 23 ls []) := by
  have hexit : ∀ (dd : Drawn) (H : Heap) (locs : List Loc) (ls : Array Slot) (cells slots : Nat), s.drawn.sameBut dd lw_cs → va_S A s.heap H locs → cells ≤ 601024 → slots ≤ 7293034 → W p l e room_1 (s.setDrawn dd) m #[Value.ref b] below meth c H locs cells slots Q (F0 m 1841 ls []) := by
    intro dd H locs ls cells slots hd hS h1 h2
    refine lv_iconst (v := 1) hx hb dL_law_1841 (by decide) ?_
    refine va_forget (fun q hq => hAe _ (hS.2.2 q hq)) ?_
    exact W.widen (k := 601024) (n := 7293034) h1 h2 (hret dd _ _ hd)
  induction k with
  | zero =>
    intro H locs ls cells slots ds X M dd i n hk hin hc hs hn hd hI hS hl
    have hlen := kInv_len hI
    exact la_head hL hx hb hX0 hbl hbA hS hl (hexit dd H locs ls cells slots hd hS (by omega) (by omega)) (fun h => absurd h (by omega))
  | succ k ih =>
    intro H locs ls cells slots ds X M dd i n hk hin hc hs hn hd hI hS hl
    have hlen := kInv_len hI
    refine la_head hL hx hb hX0 hbl hbA hS hl (hexit dd H locs ls cells slots hd hS (by omega) (by omega)) (fun hiL => ?_)
    have hX : va_X b L xs (s.setDrawn dd) (s.setDrawn dd).heap := hX0
    have hi : kr 0 3066 i := ⟨by omega, by omega⟩
    have hcs : cells + 2000 ≤ room_1.cells ∧ slots + 100000 ≤ room_1.slots := by
      have e1 : room_1.cells = 601024 := rfl
      have e2 : room_1.slots = 7293034 := rfl
      rw [e1, e2]
      exact ⟨by omega, by omega⟩
    refine lv_aload_n hx hb dL_law_33 rfl (lv_at hl 4 rfl) ?_
    refine lv_iload hx hb dL_law_34 (lv_at hl 0 rfl) ?_
    refine va_sld hx hb hX hbl hbA hS (ksc (k := 0) hi hiL (by omega) rfl) dL_law_36 ?_
    refine lv_bipush (v := 63) hx hb dL_law_37 (by decide) ?_
    refine lv_iand hx hb dL_law_39 ?_
    refine la_sw hl0 hK hx hb hml hown hts0 hE0 hw hAz hX0 hbl hbA hA hd hi hiL hI (by omega) (by omega) hcs hS hl (fun ds' X M dd H locs ls cells' slots' hq hd hI hS hl => ?_) _
    obtain ⟨j, ej⟩ : ∃ j : Int32, j = i + 6 := ⟨_, rfl⟩
    have t := kt_add ej hi (kr_c 6 6 rfl) rfl
    have t6 : (6 : Int32).toInt = 6 := by decide
    refine lv_iinc (v := j) (lv' := [(4, .int j), (3, .ref o), (2, .ref M), (1, .ref X), (0, .ref b)]) hx hb dL_law_1835 hl (k := 0) rfl (by rw [ej]; rfl) (by decide) rfl (fun ls hl => ?_)
    refine lv_goto (tgt := 23) hx hb dL_law_1838 (by decide) ?_
    obtain ⟨q1, q2⟩ := hq
    exact ih (n + 1) (by omega) (by omega) (by omega) (by omega) (by omega) hd hI hS hl
