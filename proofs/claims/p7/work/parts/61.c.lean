set_option maxHeartbeats 4000000 in
set_option maxRecDepth 100000 in
theorem la_sw {p : Program} {l : Launch} {e : Env} {s : State} {m : MethodId} {below : List Frame} {meth : Method} {c : Code} {Q : State → Prop} {D : va_G} {cB cI cJ cD : ClassId} {b L o : Nat} {xs : Nat → Int32} {A : Nat → Prop} {H : Heap} {locs : List Loc} {ls : Array Slot} {cells slots : Nat} {ds : List kUT} {X M : Nat} {n : Int} {dd : Drawn} {i : Int32} {z0 wa : Nat} {fw : Nat → Int32} {sa sb : Nat} (hl0 : l.stackTraces = false) (hK : kx_E sa sb A s s.heap) (hx : p.tables.exec = Jvm.exec) (hb : c.code = code) (hml : c.maxLocals = 7) (hown : s.vm.findClass RL = some m.cls) (hts0 : ∀ w ∈ kk_ws, w.before #[Value.ref b] s = true) (hE0 : kk_E D cB cI cJ cD s) (hw : kw_E z0 wa fw s s.heap) (hAz : ∀ q, A q → z0 ≤ q) (hX0 : va_X b L xs s s.heap) (hbl : b < s.heap.size) (hbA : ¬ A b) (hA : ∀ q : Nat, s.heap.size ≤ q → A q) (hd : s.drawn.sameBut dd lw_cs) (hi : kr 0 3066 i) (hiL : i.toInt + 6 ≤ L) (hI : kInv D A cB cI cJ cD o n ds X M H) (hn : 0 ≤ n) (hn1 : n ≤ 511) (hcs : cells + 2000 ≤ room_1.cells ∧ slots + 100000 ≤ room_1.slots) (hS : va_S A s.heap H locs) (hl : lv_has ls 7 [(4, .int i), (3, .ref o), (2, .ref M), (1, .ref X), (0, .ref b)]) (hfin : ∀ (ds' : List kUT) (X M : Nat) (dd : Drawn) (H : Heap) (locs : List Loc) (ls : Array Slot) (cells' slots' : Nat), kStp cells slots ds.length cells' slots' ds'.length → s.drawn.sameBut dd lw_cs → kInv D A cB cI cJ cD o (n + 1) ds' X M H → va_S A s.heap H locs → lv_has ls 7 [(4, .int i), (3, .ref o), (2, .ref M), (1, .ref X), (0, .ref b)] → W p l e room_1 (s.setDrawn dd) m #[Value.ref b] below meth c H locs cells' slots' Q (F0 m 1835 ls [])) (v : Int32) : W p l e room_1 (s.setDrawn dd) m #[Value.ref b] below meth c H locs cells slots Q (F0 m 40 ls [.int v]) := by
  rcases kk_sw v 0 47 with h | h | h
  · refine lv_tableOut (tgt := 1835) hx hb dL_law_40 (Or.inl h) (by decide) ?_
    exact hfin ds X M dd H locs ls cells slots kStp_0 hd (kInv_up hI) hS hl
  · refine lv_tableOut (tgt := 1835) hx hb dL_law_40 (Or.inr h) (by decide) ?_
    exact hfin ds X M dd H locs ls cells slots kStp_0 hd (kInv_up hI) hS hl
  · rcases kk_in48 h with rfl | rfl | rfl | rfl | rfl | rfl | rfl | rfl | rfl | rfl | rfl | rfl | rfl | rfl | rfl | rfl | rfl | rfl | rfl | rfl | rfl | rfl | rfl | rfl | rfl | rfl | rfl | rfl | rfl | rfl | rfl | rfl | rfl | rfl | rfl | rfl | rfl | rfl | rfl | rfl | rfl | rfl | rfl | rfl | rfl | rfl | rfl | rfl
    · refine lv_tableIn (tgt := 248) hx hb dL_law_40 (by decide) (by decide) rfl (by decide) ?_
      exact la_0 hl0 hK hx hb hml hown hts0 hE0 hw hAz hX0 hbl hbA hA hd hi hiL hI hn hn1 hcs hS hl hfin
    · refine lv_tableIn (tgt := 321) hx hb dL_law_40 (by decide) (by decide) rfl (by decide) ?_
      exact la_1 hl0 hK hx hb hml hown hts0 hE0 hw hAz hX0 hbl hbA hA hd hi hiL hI hn hn1 hcs hS hl hfin
    · refine lv_tableIn (tgt := 346) hx hb dL_law_40 (by decide) (by decide) rfl (by decide) ?_
      exact la_2 hl0 hK hx hb hml hown hts0 hE0 hw hAz hX0 hbl hbA hA hd hi hiL hI hn hn1 hcs hS hl hfin
    · refine lv_tableIn (tgt := 371) hx hb dL_law_40 (by decide) (by decide) rfl (by decide) ?_
      exact la_3 hl0 hK hx hb hml hown hts0 hE0 hw hAz hX0 hbl hbA hA hd hi hiL hI hn hn1 hcs hS hl hfin
    · refine lv_tableIn (tgt := 396) hx hb dL_law_40 (by decide) (by decide) rfl (by decide) ?_
      exact la_4 hl0 hK hx hb hml hown hts0 hE0 hw hAz hX0 hbl hbA hA hd hi hiL hI hn hn1 hcs hS hl hfin
    · refine lv_tableIn (tgt := 436) hx hb dL_law_40 (by decide) (by decide) rfl (by decide) ?_
      exact la_5 hl0 hK hx hb hml hown hts0 hE0 hw hAz hX0 hbl hbA hA hd hi hiL hI hn hn1 hcs hS hl hfin
    · refine lv_tableIn (tgt := 473) hx hb dL_law_40 (by decide) (by decide) rfl (by decide) ?_
      exact la_6 hl0 hK hx hb hml hown hts0 hE0 hw hAz hX0 hbl hbA hA hd hi hiL hI hn hn1 hcs hS hl hfin
    · refine lv_tableIn (tgt := 510) hx hb dL_law_40 (by decide) (by decide) rfl (by decide) ?_
      exact la_7 hl0 hK hx hb hml hown hts0 hE0 hw hAz hX0 hbl hbA hA hd hi hiL hI hn hn1 hcs hS hl hfin
    · refine lv_tableIn (tgt := 547) hx hb dL_law_40 (by decide) (by decide) rfl (by decide) ?_
      exact la_8 hl0 hK hx hb hml hown hts0 hE0 hw hAz hX0 hbl hbA hA hd hi hiL hI hn hn1 hcs hS hl hfin
    · refine lv_tableIn (tgt := 560) hx hb dL_law_40 (by decide) (by decide) rfl (by decide) ?_
      exact la_9 hl0 hK hx hb hml hown hts0 hE0 hw hAz hX0 hbl hbA hA hd hi hiL hI hn hn1 hcs hS hl hfin
    · refine lv_tableIn (tgt := 573) hx hb dL_law_40 (by decide) (by decide) rfl (by decide) ?_
      exact la_10 hl0 hK hx hb hml hown hts0 hE0 hw hAz hX0 hbl hbA hA hd hi hiL hI hn hn1 hcs hS hl hfin
    · refine lv_tableIn (tgt := 622) hx hb dL_law_40 (by decide) (by decide) rfl (by decide) ?_
      exact la_11 hl0 hK hx hb hml hown hts0 hE0 hw hAz hX0 hbl hbA hA hd hi hiL hI hn hn1 hcs hS hl hfin
    · refine lv_tableIn (tgt := 659) hx hb dL_law_40 (by decide) (by decide) rfl (by decide) ?_
      exact la_12 hl0 hK hx hb hml hown hts0 hE0 hw hAz hX0 hbl hbA hA hd hi hiL hI hn hn1 hcs hS hl hfin
    · refine lv_tableIn (tgt := 684) hx hb dL_law_40 (by decide) (by decide) rfl (by decide) ?_
      exact la_13 hl0 hK hx hb hml hown hts0 hE0 hw hAz hX0 hbl hbA hA hd hi hiL hI hn hn1 hcs hS hl hfin
    · refine lv_tableIn (tgt := 745) hx hb dL_law_40 (by decide) (by decide) rfl (by decide) ?_
      exact la_14 hl0 hK hx hb hml hown hts0 hE0 hw hAz hX0 hbl hbA hA hd hi hiL hI hn hn1 hcs hS hl hfin
    · refine lv_tableIn (tgt := 782) hx hb dL_law_40 (by decide) (by decide) rfl (by decide) ?_
      exact la_15 hl0 hK hx hb hml hown hts0 hE0 hw hAz hX0 hbl hbA hA hd hi hiL hI hn hn1 hcs hS hl hfin
    · refine lv_tableIn (tgt := 795) hx hb dL_law_40 (by decide) (by decide) rfl (by decide) ?_
      exact la_16 hl0 hK hx hb hml hown hts0 hE0 hw hAz hX0 hbl hbA hA hd hi hiL hI hn hn1 hcs hS hl hfin
    · refine lv_tableIn (tgt := 820) hx hb dL_law_40 (by decide) (by decide) rfl (by decide) ?_
      exact la_17 hl0 hK hx hb hml hown hts0 hE0 hw hAz hX0 hbl hbA hA hd hi hiL hI hn hn1 hcs hS hl hfin
    · refine lv_tableIn (tgt := 869) hx hb dL_law_40 (by decide) (by decide) rfl (by decide) ?_
      exact la_18 hl0 hK hx hb hml hown hts0 hE0 hw hAz hX0 hbl hbA hA hd hi hiL hI hn hn1 hcs hS hl hfin
    · refine lv_tableIn (tgt := 918) hx hb dL_law_40 (by decide) (by decide) rfl (by decide) ?_
      exact la_19 hl0 hK hx hb hml hown hts0 hE0 hw hAz hX0 hbl hbA hA hd hi hiL hI hn hn1 hcs hS hl hfin
    · refine lv_tableIn (tgt := 967) hx hb dL_law_40 (by decide) (by decide) rfl (by decide) ?_
      exact la_20 hl0 hK hx hb hml hown hts0 hE0 hw hAz hX0 hbl hbA hA hd hi hiL hI hn hn1 hcs hS hl hfin
    · refine lv_tableIn (tgt := 1028) hx hb dL_law_40 (by decide) (by decide) rfl (by decide) ?_
      exact la_21 hl0 hK hx hb hml hown hts0 hE0 hw hAz hX0 hbl hbA hA hd hi hiL hI hn hn1 hcs hS hl hfin
    · refine lv_tableIn (tgt := 1089) hx hb dL_law_40 (by decide) (by decide) rfl (by decide) ?_
      exact la_22 hl0 hK hx hb hml hown hts0 hE0 hw hAz hX0 hbl hbA hA hd hi hiL hI hn hn1 hcs hS hl hfin
    · refine lv_tableIn (tgt := 1138) hx hb dL_law_40 (by decide) (by decide) rfl (by decide) ?_
      exact la_23 hl0 hK hx hb hml hown hts0 hE0 hw hAz hX0 hbl hbA hA hd hi hiL hI hn hn1 hcs hS hl hfin
    · refine lv_tableIn (tgt := 1163) hx hb dL_law_40 (by decide) (by decide) rfl (by decide) ?_
      exact la_24 hl0 hK hx hb hml hown hts0 hE0 hw hAz hX0 hbl hbA hA hd hi hiL hI hn hn1 hcs hS hl hfin
    · refine lv_tableIn (tgt := 1188) hx hb dL_law_40 (by decide) (by decide) rfl (by decide) ?_
      exact la_25 hl0 hK hx hb hml hown hts0 hE0 hw hAz hX0 hbl hbA hA hd hi hiL hI hn hn1 hcs hS hl hfin
    · refine lv_tableIn (tgt := 1213) hx hb dL_law_40 (by decide) (by decide) rfl (by decide) ?_
      exact la_26 hl0 hK hx hb hml hown hts0 hE0 hw hAz hX0 hbl hbA hA hd hi hiL hI hn hn1 hcs hS hl hfin
    · refine lv_tableIn (tgt := 1238) hx hb dL_law_40 (by decide) (by decide) rfl (by decide) ?_
      exact la_27 hl0 hK hx hb hml hown hts0 hE0 hw hAz hX0 hbl hbA hA hd hi hiL hI hn hn1 hcs hS hl hfin
    · refine lv_tableIn (tgt := 1263) hx hb dL_law_40 (by decide) (by decide) rfl (by decide) ?_
      exact la_28 hl0 hK hx hb hml hown hts0 hE0 hw hAz hX0 hbl hbA hA hd hi hiL hI hn hn1 hcs hS hl hfin
    · refine lv_tableIn (tgt := 1276) hx hb dL_law_40 (by decide) (by decide) rfl (by decide) ?_
      exact la_29 hl0 hK hx hb hml hown hts0 hE0 hw hAz hX0 hbl hbA hA hd hi hiL hI hn hn1 hcs hS hl hfin
    · refine lv_tableIn (tgt := 1301) hx hb dL_law_40 (by decide) (by decide) rfl (by decide) ?_
      exact la_30 hl0 hK hx hb hml hown hts0 hE0 hw hAz hX0 hbl hbA hA hd hi hiL hI hn hn1 hcs hS hl hfin
    · refine lv_tableIn (tgt := 1338) hx hb dL_law_40 (by decide) (by decide) rfl (by decide) ?_
      exact la_31 hl0 hK hx hb hml hown hts0 hE0 hw hAz hX0 hbl hbA hA hd hi hiL hI hn hn1 hcs hS hl hfin
    · refine lv_tableIn (tgt := 1375) hx hb dL_law_40 (by decide) (by decide) rfl (by decide) ?_
      exact la_32 hl0 hK hx hb hml hown hts0 hE0 hw hAz hX0 hbl hbA hA hd hi hiL hI hn hn1 hcs hS hl hfin
    · refine lv_tableIn (tgt := 1424) hx hb dL_law_40 (by decide) (by decide) rfl (by decide) ?_
      exact la_33 hl0 hK hx hb hml hown hts0 hE0 hw hAz hX0 hbl hbA hA hd hi hiL hI hn hn1 hcs hS hl hfin
    · refine lv_tableIn (tgt := 1473) hx hb dL_law_40 (by decide) (by decide) rfl (by decide) ?_
      exact la_34 hl0 hK hx hb hml hown hts0 hE0 hw hAz hX0 hbl hbA hA hd hi hiL hI hn hn1 hcs hS hl hfin
    · refine lv_tableIn (tgt := 1498) hx hb dL_law_40 (by decide) (by decide) rfl (by decide) ?_
      exact la_35 hl0 hK hx hb hml hown hts0 hE0 hw hAz hX0 hbl hbA hA hd hi hiL hI hn hn1 hcs hS hl hfin
    · refine lv_tableIn (tgt := 1547) hx hb dL_law_40 (by decide) (by decide) rfl (by decide) ?_
      exact la_36 hl0 hK hx hb hml hown hts0 hE0 hw hAz hX0 hbl hbA hA hd hi hiL hI hn hn1 hcs hS hl hfin
    · refine lv_tableIn (tgt := 1560) hx hb dL_law_40 (by decide) (by decide) rfl (by decide) ?_
      exact la_37 hl0 hK hx hb hml hown hts0 hE0 hw hAz hX0 hbl hbA hA hd hi hiL hI hn hn1 hcs hS hl hfin
    · refine lv_tableIn (tgt := 1597) hx hb dL_law_40 (by decide) (by decide) rfl (by decide) ?_
      exact la_38 hl0 hK hx hb hml hown hts0 hE0 hw hAz hX0 hbl hbA hA hd hi hiL hI hn hn1 hcs hS hl hfin
    · refine lv_tableIn (tgt := 1610) hx hb dL_law_40 (by decide) (by decide) rfl (by decide) ?_
      exact la_39 hl0 hK hx hb hml hown hts0 hE0 hw hAz hX0 hbl hbA hA hd hi hiL hI hn hn1 hcs hS hl hfin
    · refine lv_tableIn (tgt := 1635) hx hb dL_law_40 (by decide) (by decide) rfl (by decide) ?_
      exact la_40 hl0 hK hx hb hml hown hts0 hE0 hw hAz hX0 hbl hbA hA hd hi hiL hI hn hn1 hcs hS hl hfin
    · refine lv_tableIn (tgt := 1672) hx hb dL_law_40 (by decide) (by decide) rfl (by decide) ?_
      exact la_41 hl0 hK hx hb hml hown hts0 hE0 hw hAz hX0 hbl hbA hA hd hi hiL hI hn hn1 hcs hS hl hfin
    · refine lv_tableIn (tgt := 1697) hx hb dL_law_40 (by decide) (by decide) rfl (by decide) ?_
      exact la_42 hl0 hK hx hb hml hown hts0 hE0 hw hAz hX0 hbl hbA hA hd hi hiL hI hn hn1 hcs hS hl hfin
    · refine lv_tableIn (tgt := 1722) hx hb dL_law_40 (by decide) (by decide) rfl (by decide) ?_
      exact la_43 hl0 hK hx hb hml hown hts0 hE0 hw hAz hX0 hbl hbA hA hd hi hiL hI hn hn1 hcs hS hl hfin
    · refine lv_tableIn (tgt := 1759) hx hb dL_law_40 (by decide) (by decide) rfl (by decide) ?_
      exact la_44 hl0 hK hx hb hml hown hts0 hE0 hw hAz hX0 hbl hbA hA hd hi hiL hI hn hn1 hcs hS hl hfin
    · refine lv_tableIn (tgt := 1784) hx hb dL_law_40 (by decide) (by decide) rfl (by decide) ?_
      exact la_45 hl0 hK hx hb hml hown hts0 hE0 hw hAz hX0 hbl hbA hA hd hi hiL hI hn hn1 hcs hS hl hfin
    · refine lv_tableIn (tgt := 1797) hx hb dL_law_40 (by decide) (by decide) rfl (by decide) ?_
      exact la_46 hl0 hK hx hb hml hown hts0 hE0 hw hAz hX0 hbl hbA hA hd hi hiL hI hn hn1 hcs hS hl hfin
    · refine lv_tableIn (tgt := 1810) hx hb dL_law_40 (by decide) (by decide) rfl (by decide) ?_
      exact la_47 hl0 hK hx hb hml hown hts0 hE0 hw hAz hX0 hbl hbA hA hd hi hiL hI hn hn1 hcs hS hl hfin
