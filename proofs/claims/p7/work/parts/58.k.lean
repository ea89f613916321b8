abbrev kx_N : List String := ["java/lang/RuntimeException", "java/lang/Exception"]
abbrev kx_B1 : List Cond := [.castable "java/lang/IndexOutOfBoundsException" "java/lang/IndexOutOfBoundsException", .declares ⟨"java/lang/RuntimeException", "<init>", "(Ljava/lang/String;)V"⟩, .declares ⟨"java/lang/Exception", "<init>", "(Ljava/lang/String;)V"⟩, .declares ⟨"java/lang/Throwable", "<init>", "(Ljava/lang/String;)V"⟩]
abbrev kx_B2 : List Cond := [.castable "java/util/NoSuchElementException" "java/util/NoSuchElementException", .declares ⟨"java/lang/RuntimeException", "<init>", "(Ljava/lang/String;)V"⟩, .declares ⟨"java/lang/Exception", "<init>", "(Ljava/lang/String;)V"⟩, .declares ⟨"java/lang/Throwable", "<init>", "(Ljava/lang/String;)V"⟩]
abbrev kx_A1 : List Cond := vx_atS RX10 109 "java/lang/IndexOutOfBoundsException" kx_N
abbrev kx_A2 : List Cond := (Bundle.ownAtomsX RX10 129 "java/util/NoSuchElementException" 13 prog_24_method_4_code kx_N).filter vx_no
theorem kx_ot1 : ∀ w ∈ Cond.classLink RX10 105 "java/lang/IndexOutOfBoundsException" :: Cond.initialized "java/lang/IndexOutOfBoundsException" :: kx_A1, vx_ot w = true := by decide +kernel
theorem kx_ot2 : ∀ w ∈ Cond.classLink RX10 125 "java/util/NoSuchElementException" :: Cond.initialized "java/util/NoSuchElementException" :: kx_A2, vx_ot w = true := by decide +kernel
theorem kx_gd1 : ∀ w ∈ kx_A1.filter goodWord, w ∈ kk_ws := by decide +kernel
theorem kx_gd2 : ∀ w ∈ kx_A2.filter goodWord, w ∈ kk_ws := by decide +kernel
theorem kx_bd1 : ∀ w ∈ kx_A1.filter (fun w => !goodWord w), w ∈ kx_B1 := by decide +kernel
theorem kx_bd2 : ∀ w ∈ kx_A2.filter (fun w => !goodWord w), w ∈ kx_B2 := by decide +kernel
/-- what the throws of the class ask beside the words that stay -/
def kx_E (sa sb : Nat) (A : Nat → Prop) (U : State) (H : Heap) : Prop :=
  vk_R RX10 107 "no such KEY" sa U ∧ vk_R RX10 127 "no such what" sb U ∧ va_Nw (.castable "java/lang/IndexOutOfBoundsException" "java/lang/IndexOutOfBoundsException") U ∧ va_Nw (.castable "java/util/NoSuchElementException" "java/util/NoSuchElementException") U ∧ va_Nw (.declares ⟨"java/lang/RuntimeException", "<init>", "(Ljava/lang/String;)V"⟩) U ∧ va_Nw (.declares ⟨"java/lang/Exception", "<init>", "(Ljava/lang/String;)V"⟩) U ∧ va_Nw (.declares ⟨"java/lang/Throwable", "<init>", "(Ljava/lang/String;)V"⟩) U ∧ va_Nc "java/util/NoSuchElementException" "java/lang/IndexOutOfBoundsException" U ∧ vx_Zq Bundle.tN "UNASSIGNED_STACK" Bundle.steD A U H ∧ vx_Zq Bundle.tN "SUPPRESSED_SENTINEL" Bundle.listD A U H
theorem kx_E.r1 {sa sb : Nat} {A : Nat → Prop} {U : State} {H : Heap} (h : kx_E sa sb A U H) : vk_R RX10 107 "no such KEY" sa U := h.1
theorem kx_E.r2 {sa sb : Nat} {A : Nat → Prop} {U : State} {H : Heap} (h : kx_E sa sb A U H) : vk_R RX10 127 "no such what" sb U := h.2.1
theorem kx_E.c1 {sa sb : Nat} {A : Nat → Prop} {U : State} {H : Heap} (h : kx_E sa sb A U H) : va_Nw (.castable "java/lang/IndexOutOfBoundsException" "java/lang/IndexOutOfBoundsException") U := h.2.2.1
theorem kx_E.c2 {sa sb : Nat} {A : Nat → Prop} {U : State} {H : Heap} (h : kx_E sa sb A U H) : va_Nw (.castable "java/util/NoSuchElementException" "java/util/NoSuchElementException") U := h.2.2.2.1
theorem kx_E.d1 {sa sb : Nat} {A : Nat → Prop} {U : State} {H : Heap} (h : kx_E sa sb A U H) : va_Nw (.declares ⟨"java/lang/RuntimeException", "<init>", "(Ljava/lang/String;)V"⟩) U := h.2.2.2.2.1
theorem kx_E.d2 {sa sb : Nat} {A : Nat → Prop} {U : State} {H : Heap} (h : kx_E sa sb A U H) : va_Nw (.declares ⟨"java/lang/Exception", "<init>", "(Ljava/lang/String;)V"⟩) U := h.2.2.2.2.2.1
theorem kx_E.d3 {sa sb : Nat} {A : Nat → Prop} {U : State} {H : Heap} (h : kx_E sa sb A U H) : va_Nw (.declares ⟨"java/lang/Throwable", "<init>", "(Ljava/lang/String;)V"⟩) U := h.2.2.2.2.2.2.1
theorem kx_E.nc {sa sb : Nat} {A : Nat → Prop} {U : State} {H : Heap} (h : kx_E sa sb A U H) : va_Nc "java/util/NoSuchElementException" "java/lang/IndexOutOfBoundsException" U := h.2.2.2.2.2.2.2.1
theorem kx_E.z1 {sa sb : Nat} {A : Nat → Prop} {U : State} {H : Heap} (h : kx_E sa sb A U H) : vx_Zq Bundle.tN "UNASSIGNED_STACK" Bundle.steD A U H := h.2.2.2.2.2.2.2.2.1
theorem kx_E.z2 {sa sb : Nat} {A : Nat → Prop} {U : State} {H : Heap} (h : kx_E sa sb A U H) : vx_Zq Bundle.tN "SUPPRESSED_SENTINEL" Bundle.listD A U H := h.2.2.2.2.2.2.2.2.2
theorem kx_E.warm {sa sb : Nat} {A : Nat → Prop} {s U : State} {H : Heap} (hW : s.WarmedH U.vm) (h : kx_E sa sb A s H) : kx_E sa sb A U H :=
  ⟨vk_R.warm hW h.r1, vk_R.warm hW h.r2, va_Nw.warmC hW h.c1, va_Nw.warmC hW h.c2, va_Nw.warmD hW h.d1, va_Nw.warmD hW h.d2, va_Nw.warmD hW h.d3, va_Nc.moved hW.alike h.nc, vx_Zq.moved hW.alike h.z1, vx_Zq.moved hW.alike h.z2⟩
theorem kx_E.kept {sa sb : Nat} {A : Nat → Prop} {U : State} {H H1 : Heap} (h : kx_E sa sb A U H) (hq : ∀ a : Nat, a < H.size → ¬ A a → H1[a]? = H[a]?) : kx_E sa sb A U H1 :=
  ⟨h.r1, h.r2, h.c1, h.c2, h.d1, h.d2, h.d3, h.nc, h.z1.kept hq, h.z2.kept hq⟩
theorem kx_E.call {sa sb : Nat} {A : Nat → Prop} {U : State} {H : Heap} {g : JFrame} {mk : MethodId} {a : Array Value} (h : kx_E sa sb A U H) : kx_E sa sb A (U.calling g mk a) H :=
  ⟨vk_R.same (u := U) (U := U.calling g mk a) rfl h.r1, vk_R.same (u := U) (U := U.calling g mk a) rfl h.r2, va_Nw.same (u := U) (U := U.calling g mk a) rfl rfl h.c1, va_Nw.same (u := U) (U := U.calling g mk a) rfl rfl h.c2, va_Nw.same (u := U) (U := U.calling g mk a) rfl rfl h.d1, va_Nw.same (u := U) (U := U.calling g mk a) rfl rfl h.d2, va_Nw.same (u := U) (U := U.calling g mk a) rfl rfl h.d3, va_Nc.moved (u := U) (U := U.calling g mk a) (Vm.Alike.refl U.vm) h.nc, vx_Zq.moved (u := U) (U := U.calling g mk a) (Vm.Alike.refl U.vm) h.z1, vx_Zq.moved (u := U) (U := U.calling g mk a) (Vm.Alike.refl U.vm) h.z2⟩
def kx_pre (D : va_G) (cB cI cJ cD : ClassId) (ws : va_W) (sz sa sb : Nat) (A : Nat → Prop) (U : State) : Prop := kk_pre D cB cI cJ cD ws sz U ∧ kx_E sa sb A U U.heap
theorem kx_blind {av : List Value} {D : va_G} {cB cI cJ cD : ClassId} {ws : va_W} {sz sa sb : Nat} {A : Nat → Prop} : FrameBlind (va_Pc av (kx_pre D cB cI cJ cD ws sz sa sb A)) := fun a U g mk q => ⟨q.1, ⟨q.2.1.1, q.2.1.2.1, q.2.1.2.2.1, kk_E.call q.2.1.2.2.2⟩, kx_E.call q.2.2⟩
abbrev kx_Q : Array Value → State → Outcome → State → Prop := va_Qi (fun _ (_ : Unit) => True) (fun _ _ => True) (fun _ => False)
abbrev kx_XC : String → State → State → Prop := vx_X (fun _ : Unit => True) (fun E _ _ => E = "java/lang/IndexOutOfBoundsException" ∨ E = "java/util/NoSuchElementException") (fun _ => False)
abbrev kx_w (cI : ClassId) (h0 h1 h2 h3 h4 k1 k2 k3 k4 : Nat) (y0 y1 y2 y3 y4 y5 y6 y7 y8 y9 y10 y11 y12 y13 y14 y15 y16 y17 y18 y19 y20 y21 : Value) (n : Int32) (f1 f2 f3 f4 : Nat → Int32) : va_W := [kO h0 9 [y0, y1, .ref h1, y2, y3, y4, y5], kO h1 2 [.ref h2, y6, y7], kO h2 0 [.ref h3, y8, y9, y10, y11], kO h3 8 [.ref h4, y12, y13, y14, y15, y16, y17, y18], kO h4 6 [.int n, .ref k1, .ref k2, .ref k3, .ref k4, y19, y20, y21], kI cI k1 24 f1, kI cI k2 24 f2, kI cI k3 24 f3, kI cI k4 24 f4]
set_option maxHeartbeats 4000000 in
set_option maxRecDepth 100000 in
theorem c_X10_key (l : Launch) (hl0 : l.stackTraces = false) (D : va_G) (cB cI cJ cD : ClassId) (h0 h1 h2 h3 h4 k1 k2 k3 k4 : Nat) (y0 y1 y2 y3 y4 y5 y6 y7 y8 y9 y10 y11 y12 y13 y14 y15 y16 y17 y18 y19 y20 y21 : Value) (n : Int32) (f1 f2 f3 f4 : Nat → Int32) (hn : kr 0 24 n) (p0 p1 : Int32) (sz sa sb : Nat) (A : Nat → Prop) : vx_Met l yX10_key (kk_W yX10_key cX10_key 4 (some .int)) ({ frames := 8, cells := 1, slots := 6, locals := 200 }) (va_Pc [.ref h0, .int p0, .int p1] (kx_pre D cB cI cJ cD (kx_w cI h0 h1 h2 h3 h4 k1 k2 k3 k4 y0 y1 y2 y3 y4 y5 y6 y7 y8 y9 y10 y11 y12 y13 y14 y15 y16 y17 y18 y19 y20 y21 n f1 f2 f3 f4) sz sa sb A)) kx_Q kx_XC 1 6 (fun _ => False) := by
  refine vx_ofW (cc := cX10_key) (maxL := 4) (ret := some .int) (by decide) rfl ?_
  intro p e s m args below meth c s₁ B hml htab hv
  obtain ⟨rfl, ⟨hsz, hP, hD0, hE⟩, hK⟩ := hv
  have hts1 := atoms_spec (ws := kk_W yX10_key cX10_key 4 (some .int)) B.pre
  have hts : ∀ w ∈ kk_ws, w.before [.ref h0, .int p0, .int p1].toArray s = true := fun w h => hts1 w (List.mem_cons_of_mem _ h)
  have hl := lv_entry [.ref h0, .int p0, .int p1] (n := 4) (Nat.le_of_ble_eq_true rfl)
  rw [lg_entry_eq]
  have hown : s.vm.findClass RX10 = some m.cls := findClass_of_methodNamed B.named
  have hx := B.exec
  have hb := B.bytes
  have hl : lv_has _ 4 [(0, .ref h0), (1, .int p0), (2, .int p1)] := hl
  have hS9 : va_S (fun _ => False) s.heap s.heap [] := va_S.rf
  refine lv_aload_n hx hb dX10_key_0 rfl (lv_at hl 0 rfl) ?_
  refine va_get (D := D) (ci := 9) (v := .ref h1) (C := RX10) (T := TX10) (N := 7) hx hb hts u_X10 hown hE.1 hP 0 rfl rfl 2 (by decide) (hts _ w_491) (fun _ h9 => h9) rfl dX10_key_1 ?_
  refine va_get (D := D) (ci := 2) (v := .ref h2) (C := RX2) (T := TX2) (N := 3) hx hb hts u_X2 hown hE.1 hP 1 rfl rfl 0 (by decide) (hts _ w_474) (fun _ h9 => h9) rfl dX10_key_4 ?_
  refine va_get (D := D) (ci := 0) (v := .ref h3) (C := RX0) (T := TX0) (N := 5) hx hb hts u_X0 hown hE.1 hP 2 rfl rfl 0 (by decide) (hts _ w_420) (fun _ h9 => h9) rfl dX10_key_7 ?_
  refine va_get (D := D) (ci := 8) (v := .ref h4) (C := RX9) (T := TX9) (N := 8) hx hb hts u_X9 hown hE.1 hP 3 rfl rfl 0 (by decide) (hts _ w_385) (fun _ h9 => h9) rfl dX10_key_10 ?_
  refine lv_astore_n (lv' := [(3, .ref h4), (0, .ref h0), (1, .int p0), (2, .int p1)]) hx hb dX10_key_13 rfl hl (by decide) rfl (fun ls hl => ?_)
  have hat1 : ∀ w ∈ kx_A1, w.before [Value.ref h0, .int p0, .int p1].toArray s = true := vx_hat (fun w h => hts w (kx_gd1 w h)) kx_bd1 (vx_c (va_Nw.use rfl hK.c1) (vx_c (va_Nw.use rfl hK.d1) (vx_c (va_Nw.use rfl hK.d2) (vx_c (va_Nw.use rfl hK.d3) vx_n))))
  have hthrow1 : W p l e (headSpec (kk_W yX10_key cX10_key 4 (some .int)) { frames := 8, cells := 1, slots := 6, locals := 200 }).room s m [Value.ref h0, .int p0, .int p1].toArray below meth c s.heap [] 0 0 (vx_MQ below kx_Q kx_XC [Value.ref h0, .int p0, .int p1].toArray s 1 6 (fun _ => False)) (F0 m 26 ls []) :=
    vx_throwS (A := A) (names := kx_N) hx hb hl0 hown (by decide +kernel) (by decide +kernel) (hts _ w_1166) (hts _ w_128) hK.r1 hat1 kx_ot1 hK.z1 hK.z2 va_S.rf (hl.1.trans hml.symm) dX10_key_26 dX10_key_29 dX10_key_30 dX10_key_32 dX10_key_35 (fun x h => (htab x h).elim) (Nat.le_of_ble_eq_true rfl) (Nat.le_of_ble_eq_true rfl) (Nat.le_of_ble_eq_true rfl) (Nat.le_of_ble_eq_true rfl) B.notSynchronized (fun t _ h1 h2 => ⟨(), trivial, Or.inl rfl, h1, fun q hq _ => h2 q hq⟩) (fun z hz => absurd hz List.not_mem_nil) (Nat.le_refl _) (Nat.le_refl _)
  have hat2 : ∀ w ∈ kx_A2, w.before [Value.ref h0, .int p0, .int p1].toArray s = true := vx_hat (fun w h => hts w (kx_gd2 w h)) kx_bd2 (vx_c (va_Nw.use rfl hK.c2) (vx_c (va_Nw.use rfl hK.d1) (vx_c (va_Nw.use rfl hK.d2) (vx_c (va_Nw.use rfl hK.d3) vx_n))))
  have hthrow2 : W p l e (headSpec (kk_W yX10_key cX10_key 4 (some .int)) { frames := 8, cells := 1, slots := 6, locals := 200 }).room s m [Value.ref h0, .int p0, .int p1].toArray below meth c s.heap [] 0 0 (vx_MQ below kx_Q kx_XC [Value.ref h0, .int p0, .int p1].toArray s 1 6 (fun _ => False)) (F0 m 96 ls []) :=
    kx_throw (A := A) (names := kx_N) hx hb hl0 (ix := 13) (rx := prog_24_method_4_code) (by decide +kernel) (by decide +kernel) (by decide +kernel) (by decide +kernel) hown (by decide +kernel) (by decide +kernel) (hts _ w_1232) (hts _ w_129) hK.r2 hat2 kx_ot2 hK.z1 hK.z2 va_S.rf (hl.1.trans hml.symm) dX10_key_96 dX10_key_99 dX10_key_100 dX10_key_102 dX10_key_105 (fun x h => (htab x h).elim) (Nat.le_of_ble_eq_true rfl) (Nat.le_of_ble_eq_true rfl) (Nat.le_of_ble_eq_true rfl) (Nat.le_of_ble_eq_true rfl) B.notSynchronized (fun t _ h1 h2 => ⟨(), trivial, Or.inr rfl, h1, fun q hq _ => h2 q hq⟩) (fun z hz => absurd hz List.not_mem_nil) (Nat.le_refl _) (Nat.le_refl _)
  refine lv_iload_n hx hb dX10_key_14 rfl (lv_at hl 2 rfl) ?_
  refine lv_if_lt (tgt := 26) hx hb dX10_key_15 (by decide) (fun _ => hthrow1) (fun c_1 => ?_)
  refine lv_iload_n hx hb dX10_key_18 rfl (lv_at hl 2 rfl) ?_
  refine lv_aload_n hx hb dX10_key_19 rfl (lv_at hl 0 rfl) ?_
  refine va_get (D := D) (ci := 6) (v := .int n) (C := RX7) (T := TX7) (N := 8) hx hb hts u_X7 hown hE.1 hP 4 rfl rfl 0 (by decide) (hts _ w_159) (fun _ h9 => h9) rfl dX10_key_20 ?_
  refine lv_icmp_lt (tgt := 36) hx hb dX10_key_23 (by decide) (fun c_2 => ?_) (fun _ => hthrow1)
  have b_3 : kr 0 23 p0 := by
    have e0 : (0 : Int32).toInt = 0 := by decide
    simp only [kk_lt, e0] at c_1 c_2
    have := hn.2
    exact ⟨by omega, by omega⟩
  refine lv_iload_n hx hb dX10_key_36 rfl (lv_at hl 3 rfl) ?_
  rcases kk_sw p1 0 3 with c_3 | c_3 | c_3
  · exact lv_tableOut (tgt := 96) hx hb dX10_key_37 (Or.inl c_3) (by decide) hthrow2
  · exact lv_tableOut (tgt := 96) hx hb dX10_key_37 (Or.inr c_3) (by decide) hthrow2
  · have q_4 : p1 = 0 ∨ p1 = 1 ∨ p1 = 2 ∨ p1 = 3 := by simp only [kk_eq, Int32.reduceToInt]; omega
    rcases q_4 with q_4 | q_4 | q_4 | q_4
    · obtain rfl : p1 = 0 := q_4
      refine lv_tableIn (tgt := 68) hx hb dX10_key_37 (by decide) (by decide) rfl (by decide) ?_
      refine lv_aload_n hx hb dX10_key_68 rfl (lv_at hl 0 rfl) ?_
      refine va_get (D := D) (ci := 6) (v := .ref k1) (C := RX7) (T := TX7) (N := 8) hx hb hts u_X7 hown hE.1 hP 4 rfl rfl 1 (by decide) (hts _ w_164) (fun _ h9 => h9) rfl dX10_key_69 ?_
      refine lv_iload_n hx hb dX10_key_72 rfl (lv_at hl 2 rfl) ?_
      refine va_iald hx hb hE.1 hP 5 1 rfl rfl (kr_in b_3 rfl) dX10_key_73 ?_
      exact vx_ret (W.widen (k := 1) (n := 6) (Nat.le_of_ble_eq_true rfl) (Nat.le_of_ble_eq_true rfl) (W.iret hx hb B.returns (fun t ht hW => ⟨⟨_, (), rfl, trivial, trivial⟩, hS9.F ht⟩) hS9.2.2 dX10_key_74))
    · obtain rfl : p1 = 1 := q_4
      refine lv_tableIn (tgt := 75) hx hb dX10_key_37 (by decide) (by decide) rfl (by decide) ?_
      refine lv_aload_n hx hb dX10_key_75 rfl (lv_at hl 0 rfl) ?_
      refine va_get (D := D) (ci := 6) (v := .ref k2) (C := RX7) (T := TX7) (N := 8) hx hb hts u_X7 hown hE.1 hP 4 rfl rfl 2 (by decide) (hts _ w_168) (fun _ h9 => h9) rfl dX10_key_76 ?_
      refine lv_iload_n hx hb dX10_key_79 rfl (lv_at hl 2 rfl) ?_
      refine va_iald hx hb hE.1 hP 6 1 rfl rfl (kr_in b_3 rfl) dX10_key_80 ?_
      exact vx_ret (W.widen (k := 1) (n := 6) (Nat.le_of_ble_eq_true rfl) (Nat.le_of_ble_eq_true rfl) (W.iret hx hb B.returns (fun t ht hW => ⟨⟨_, (), rfl, trivial, trivial⟩, hS9.F ht⟩) hS9.2.2 dX10_key_81))
    · obtain rfl : p1 = 2 := q_4
      refine lv_tableIn (tgt := 82) hx hb dX10_key_37 (by decide) (by decide) rfl (by decide) ?_
      refine lv_aload_n hx hb dX10_key_82 rfl (lv_at hl 0 rfl) ?_
      refine va_get (D := D) (ci := 6) (v := .ref k3) (C := RX7) (T := TX7) (N := 8) hx hb hts u_X7 hown hE.1 hP 4 rfl rfl 3 (by decide) (hts _ w_172) (fun _ h9 => h9) rfl dX10_key_83 ?_
      refine lv_iload_n hx hb dX10_key_86 rfl (lv_at hl 2 rfl) ?_
      refine va_iald hx hb hE.1 hP 7 1 rfl rfl (kr_in b_3 rfl) dX10_key_87 ?_
      exact vx_ret (W.widen (k := 1) (n := 6) (Nat.le_of_ble_eq_true rfl) (Nat.le_of_ble_eq_true rfl) (W.iret hx hb B.returns (fun t ht hW => ⟨⟨_, (), rfl, trivial, trivial⟩, hS9.F ht⟩) hS9.2.2 dX10_key_88))
    · obtain rfl : p1 = 3 := q_4
      refine lv_tableIn (tgt := 89) hx hb dX10_key_37 (by decide) (by decide) rfl (by decide) ?_
      refine lv_aload_n hx hb dX10_key_89 rfl (lv_at hl 0 rfl) ?_
      refine va_get (D := D) (ci := 6) (v := .ref k4) (C := RX7) (T := TX7) (N := 8) hx hb hts u_X7 hown hE.1 hP 4 rfl rfl 4 (by decide) (hts _ w_175) (fun _ h9 => h9) rfl dX10_key_90 ?_
      refine lv_iload_n hx hb dX10_key_93 rfl (lv_at hl 2 rfl) ?_
      refine va_iald hx hb hE.1 hP 8 1 rfl rfl (kr_in b_3 rfl) dX10_key_94 ?_
      exact vx_ret (W.widen (k := 1) (n := 6) (Nat.le_of_ble_eq_true rfl) (Nat.le_of_ble_eq_true rfl) (W.iret hx hb B.returns (fun t ht hW => ⟨⟨_, (), rfl, trivial, trivial⟩, hS9.F ht⟩) hS9.2.2 dX10_key_95))
abbrev kx_hh : List (Nat × Nat × Nat × Nat) := [(0, 10, 13, 13), (0, 10, 17, 15)]
abbrev kx_WH : List Cond := Cond.codeWith yL_key cL_key 5 (some .int) kx_hh :: kk_ws
abbrev kx_ou (cJ : ClassId) (o0 : Nat) (fo : Nat → Int64) : va_W := [kJ cJ o0 1 fo]
set_option maxHeartbeats 4000000 in
set_option maxRecDepth 100000 in
theorem c_L_key (l : Launch) (hl0 : l.stackTraces = false) (D : va_G) (cB cI cJ cD : ClassId) (h0 h1 h2 h3 h4 k1 k2 k3 k4 : Nat) (y0 y1 y2 y3 y4 y5 y6 y7 y8 y9 y10 y11 y12 y13 y14 y15 y16 y17 y18 y19 y20 y21 : Value) (n : Int32) (f1 f2 f3 f4 : Nat → Int32) (hn : kr 0 24 n) (o0 : Nat) (fo : Nat → Int64) (p0 p1 : Int32) (sz sa sb : Nat) (A : Nat → Prop) : vx_Met l yL_key kx_WH ({ frames := 12, cells := 1, slots := 6, locals := 400 }) (va_Pc [.ref h0, .int p0, .int p1, .ref o0] (kx_pre D cB cI cJ cD (kx_w cI h0 h1 h2 h3 h4 k1 k2 k3 k4 y0 y1 y2 y3 y4 y5 y6 y7 y8 y9 y10 y11 y12 y13 y14 y15 y16 y17 y18 y19 y20 y21 n f1 f2 f3 f4 ++ kx_ou cJ o0 fo) sz sa sb A)) (kk_Qi D (fun _ (_ : Nat → Int64) => True) (fun u => kx_ou cJ o0 u) (va_A (kx_ou cJ o0 fo) sz)) (vx_X (fun _ : Unit => True) (fun _ _ _ => False) (fun _ => False)) 1 6 (va_A (kx_ou cJ o0 fo) sz) := by
  refine vx_ofWH (cc := cL_key) (maxL := 5) (ret := some .int) (hh := kx_hh) (by decide) rfl ?_
  intro p e s m args below meth c s₁ B hml hv
  obtain ⟨rfl, ⟨hsz, hP, hD0, hE⟩, hK⟩ := hv
  subst hsz
  have hts1 := atoms_spec (ws := kx_WH) B.pre
  have hts : ∀ w ∈ kk_ws, w.before [.ref h0, .int p0, .int p1, .ref o0].toArray s = true := fun w h => hts1 w (List.mem_cons_of_mem _ h)
  have htab := vx_table (x := yL_key) B (hts1 _ List.mem_cons_self)
  have hl := lv_entry [.ref h0, .int p0, .int p1, .ref o0] (n := 5) (Nat.le_of_ble_eq_true rfl)
  rw [lg_entry_eq]
  have hown : s.vm.findClass RL = some m.cls := findClass_of_methodNamed B.named
  have hx := B.exec
  have hb := B.bytes
  have hPo : va_P D vwCl (kx_ou cJ o0 fo) s.heap := hP.sub [9] rfl
  have hDo : va_D (va_A (kx_ou cJ o0 fo) s.heap.size) (kx_ou cJ o0 fo) := ((hD0.sub [9] (by decide +kernel) rfl : va_D _ (kx_ou cJ o0 fo)).weaken (fun k q hk _ => va_A.in hk))
  have hl : lv_has _ 5 [(0, .ref h0), (1, .int p0), (2, .int p1), (3, .ref o0)] := hl
  refine lv_aload_n hx hb dL_key_0 rfl (lv_at hl 3 rfl) ?_
  refine lv_iconst (v := 0) hx hb dL_key_1 (by decide) ?_
  refine lv_aload_n hx hb dL_key_2 rfl (lv_at hl 0 rfl) ?_
  refine lv_iload_n hx hb dL_key_3 rfl (lv_at hl 1 rfl) ?_
  refine lv_iload_n hx hb dL_key_4 rfl (lv_at hl 2 rfl) ?_
  obtain ⟨m1, m2, m3, m4, m5⟩ := m_X10_key
  refine vx_calli (A0 := va_A (kx_ou cJ o0 fo) s.heap.size) (H0 := s.heap) (rest := [.int 0, .ref o0]) (vx_runV (As := [.int p0, .int p1]) (b := h0) (Ts := kk_ws) (own := RL) (C := RX10) (n := 2) (bytes := cX10_key) (maxL := 4) (ret := some .int) ⟨hx, hb, hml, hown, hts⟩ (c_X10_key l hl0 D cB cI cJ cD h0 h1 h2 h3 h4 k1 k2 k3 k4 y0 y1 y2 y3 y4 y5 y6 y7 y8 y9 y10 y11 y12 y13 y14 y15 y16 y17 y18 y19 y20 y21 n f1 f2 f3 f4 hn p0 p1 s.heap.size sa sb A) ⟨callB_of 2 hts (kk_gW m4) rfl rfl rfl (hts _ m3) (hts _ w_1162) m5 ⟨(Nat.le_of_ble_eq_true rfl), (Nat.le_of_ble_eq_true rfl)⟩, hts _ m1, hts _ m2⟩ ⟨kx_blind, va_recv hE.1 hP (ci := 9) (q0 := 0) rfl rfl, fun U hU hW => ⟨rfl, ⟨by rw [hU], by rw [hU]; exact hP.sub [0, 1, 2, 3, 4, 5, 6, 7, 8] rfl, hD0.sub [0, 1, 2, 3, 4, 5, 6, 7, 8] (by decide +kernel) rfl, kk_E.warm hW hE⟩, by rw [hU]; exact kx_E.warm hW hK⟩⟩ rfl rfl hl.1 rfl (lv_room (Nat.le_of_ble_eq_true rfl)) dL_key_5 ⟨(Nat.le_of_ble_eq_true rfl), (Nat.le_of_ble_eq_true rfl)⟩) va_S.rf (fun _ _ h => h.elim) (fun _ h => h.elim) (fun _ _ h => h.elim) ?_ ?_
  · intro E ce q9 u t H1 locs1 ht hvm hp hBX hz hk hS1 hce hcv hcl
    have hP1 : va_P D vwCl (kx_ou cJ o0 fo) H1 := hPo.kept (fun k q hq => hk q.1 (hPo k q hq).lt (fun h => h))
    rcases hBX with rfl | rfl
    · refine vx_catch (own := RL) (name := "java/lang/IndexOutOfBoundsException") hown [] ⟨0, 10, 13, 13⟩ [⟨0, 10, 17, 15⟩] htab (fun z hz => nomatch hz) (by decide) (by decide) (hts _ w_1160) (va_Nw.use rfl hK.c1) hce hcv hcl ?_
      refine lv_astore (lv' := [(4, .ref q9), (0, .ref h0), (1, .int p0), (2, .int p1), (3, .ref o0)]) hx hb dL_key_13 hl (by decide) rfl (fun ls hl => ?_)
      refine lv_iconst (v := 1) hx hb dL_key_15 (by decide) ?_
      exact vx_ret (kk_ret_i fo hx hb B.returns B.notSynchronized trivial hP1 hDo hS1 dL_key_16 (Nat.le_of_ble_eq_true rfl) (Nat.le_of_ble_eq_true rfl))
    · refine vx_catch (own := RL) (name := "java/util/NoSuchElementException") hown [⟨0, 10, 13, 13⟩] ⟨0, 10, 17, 15⟩ [] htab (fun z hz => by rcases List.mem_singleton.mp hz with rfl; exact Or.inr ⟨by decide, _, hts _ w_1160, hK.nc⟩) (by decide) (by decide) (hts _ w_1161) (va_Nw.use rfl hK.c2) hce hcv hcl ?_
      refine lv_astore (lv' := [(4, .ref q9), (0, .ref h0), (1, .int p0), (2, .int p1), (3, .ref o0)]) hx hb dL_key_17 hl (by decide) rfl (fun ls hl => ?_)
      refine lv_iconst (v := 2) hx hb dL_key_19 (by decide) ?_
      exact vx_ret (kk_ret_i fo hx hb B.returns B.notSynchronized trivial hP1 hDo hS1 dL_key_20 (Nat.le_of_ble_eq_true rfl) (Nat.le_of_ble_eq_true rfl))
  · intro r u t H1 locs1 ht hvm hp hB hz hk hS1
    have hP1 : va_P D vwCl (kx_ou cJ o0 fo) H1 := hPo.kept (fun k q hq => hk q.1 (hPo k q hq).lt (fun h => h))
    refine lv_i2l hx hb dL_key_8 rfl ?_
    refine lv_topl (fun v e_v => ?_)
    refine va_last hx hb hE.1 hP1 hDo hS1 0 2 rfl rfl (kr_in (kr_c 0 0 rfl) rfl) dL_key_9 (fun H2 locs2 hP2 hD2 hS2 => ?_)
    refine lv_goto (tgt := 21) hx hb dL_key_10 (by decide) ?_
    refine lv_iconst (v := 0) hx hb dL_key_21 (by decide) ?_
    exact vx_ret (kk_ret_i (vp_updL fo _ v) hx hb B.returns B.notSynchronized trivial hP2 hD2 hS2 dL_key_22 (Nat.le_of_ble_eq_true rfl) (Nat.le_of_ble_eq_true rfl))
theorem kx_gT : GoodIn kk_ws (va_wsS RL 39 yL_key kx_WH) := fun w h => kk_good w (by
  unfold va_wsS at h
  rcases List.mem_append.mp h with h | h
  · rcases List.mem_cons.mp h with rfl | h
    · exact w_1157
    · rcases List.mem_cons.mp h with rfl | h
      · exact w_1158
      · rcases List.mem_cons.mp h with rfl | h
        · decide +kernel
        · exact nomatch h
  · rcases List.mem_cons.mp h with rfl | h
    · decide +kernel
    · exact h)
