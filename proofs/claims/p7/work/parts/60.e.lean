theorem kk_in48 {x : Int32} (h : ¬ x.toInt < 0 ∧ ¬ 47 < x.toInt) : x = 0 ∨ x = 1 ∨ x = 2 ∨ x = 3 ∨ x = 4 ∨ x = 5 ∨ x = 6 ∨ x = 7 ∨ x = 8 ∨ x = 9 ∨ x = 10 ∨ x = 11 ∨ x = 12 ∨ x = 13 ∨ x = 14 ∨ x = 15 ∨ x = 16 ∨ x = 17 ∨ x = 18 ∨ x = 19 ∨ x = 20 ∨ x = 21 ∨ x = 22 ∨ x = 23 ∨ x = 24 ∨ x = 25 ∨ x = 26 ∨ x = 27 ∨ x = 28 ∨ x = 29 ∨ x = 30 ∨ x = 31 ∨ x = 32 ∨ x = 33 ∨ x = 34 ∨ x = 35 ∨ x = 36 ∨ x = 37 ∨ x = 38 ∨ x = 39 ∨ x = 40 ∨ x = 41 ∨ x = 42 ∨ x = 43 ∨ x = 44 ∨ x = 45 ∨ x = 46 ∨ x = 47 := by
  simp only [kk_eq, Int32.reduceToInt]
  omega
theorem kk_short {L : Nat} (h : L < 6) {v : Int32} (e : v = Int32.ofNat L - 6) : 0 > v := by
  subst e
  rcases (show L = 0 ∨ L = 1 ∨ L = 2 ∨ L = 3 ∨ L = 4 ∨ L = 5 by omega) with rfl | rfl | rfl | rfl | rfl | rfl <;> decide
theorem kk_arr {s : State} {args : Array Value} {ty : FieldType} (hp : ∀ cA, s.vm.findClass ("[" ++ ty.toString) = some cA → va_RA s cA ty) (h : (Cond.arrayClass ty).before args s = true) : ∃ cA : ClassId, ArrOfT s cA ty ∧ va_RA s cA ty := by
  obtain ⟨cA, kA, comp, h1, h2, h3⟩ := Cond.arrayClass_spec h
  exact ⟨cA, fun n z => ⟨fun k h => (by cases h), kA, h2, comp, h3⟩, hp cA h1⟩
theorem kk_nest_in : ∀ q ∈ kk_nest, Cond.methodLinkNest q.1 q.2.1 q.2.2 "GapLocks" ∈ lw_tbl := by decide +kernel
set_option maxHeartbeats 4000000 in
/-- at the law's entry: the environment -/
theorem kk_env {s : State} {args : Array Value} (hts : ∀ w ∈ lw_tbl, w.before args s = true) : ∃ (D : va_G) (cB cI cJ cD : ClassId), kk_E D cB cI cJ cD s := by
  have hk : ∀ w ∈ kk_ws, w.before args s = true := fun w h => hts w (List.mem_filter.mp h).1
  obtain ⟨cB, b1, b2⟩ := kk_arr (s := s) (args := args) (ty := .byte) (fun _ h => h) (hts _ (by decide +kernel))
  obtain ⟨cI, i1, i2⟩ := kk_arr (s := s) (args := args) (ty := .int) (fun _ h => h) (hts _ (by decide +kernel))
  obtain ⟨cJ, j1, j2⟩ := kk_arr (s := s) (args := args) (ty := .long) (fun _ h => h) (hts _ (by decide +kernel))
  have hAO : (Cond.arrayOver (.object "GapLocks$Desk")).before args s = true := hts _ (by decide +kernel)
  obtain ⟨comp, cD, kA, d1, -, d2, d3, d4⟩ := Cond.arrayOver_spec hAO
  obtain ⟨c0, s0, k0⟩ := u_known (C := RX0) (T := TX0) (N := 5) (n := 5) hk u_X0 (hk _ w_293)
  obtain ⟨c1, s1, k1⟩ := u_known (C := RX1) (T := TX1) (N := 12) (n := 12) hk u_X1 (hk _ w_307)
  obtain ⟨c2, s2, k2⟩ := u_known (C := RX2) (T := TX2) (N := 3) (n := 3) hk u_X2 (hk _ w_466)
  obtain ⟨c3, s3, k3⟩ := u_known (C := RX3) (T := TX3) (N := 2) (n := 2) hk u_X3 (hk _ w_370)
  obtain ⟨c4, s4, k4⟩ := u_known (C := RX5) (T := TX5) (N := 9) (n := 9) hk u_X5 (hk _ w_140)
  obtain ⟨c5, s5, k5⟩ := u_known (C := RX6) (T := TX6) (N := 10) (n := 10) hk u_X6 (hk _ w_146)
  obtain ⟨c6, s6, k6⟩ := u_known (C := RX7) (T := TX7) (N := 8) (n := 8) hk u_X7 (hk _ w_152)
  obtain ⟨c7, s7, k7⟩ := u_known (C := RX8) (T := TX8) (N := 6) (n := 6) hk u_X8 (hk _ w_287)
  obtain ⟨c8, s8, k8⟩ := u_known (C := RX9) (T := TX9) (N := 8) (n := 8) hk u_X9 (hk _ w_299)
  obtain ⟨c9, s9, k9⟩ := u_known (C := RX10) (T := TX10) (N := 7) (n := 7) hk u_X10 (hk _ w_132)
  obtain ⟨c10, s10, k10⟩ := u_known (C := RX11) (T := TX11) (N := 46) (n := 46) hk u_X11 (hk _ w_1249)
  refine ⟨(fun k => [c0, c1, c2, c3, c4, c5, c6, c7, c8, c9, c10].getD k c0, fun k => [s0, s1, s2, s3, s4, s5, s6, s7, s8, s9, s10].getD k s0), cB, cI, cJ, cD, ⟨?_, ?_⟩, hAO, fun q hq => va_Nw.of rfl (hts _ (kk_nest_in q hq))⟩
  · intro k q hq
    match k, hq with
    | 0, hq => cases hq; exact k0
    | 1, hq => cases hq; exact k1
    | 2, hq => cases hq; exact k2
    | 3, hq => cases hq; exact k3
    | 4, hq => cases hq; exact k4
    | 5, hq => cases hq; exact k5
    | 6, hq => cases hq; exact k6
    | 7, hq => cases hq; exact k7
    | 8, hq => cases hq; exact k8
    | 9, hq => cases hq; exact k9
    | 10, hq => cases hq; exact k10
    | k + 11, hq => simp [vwCl] at hq
  · intro k q hq
    match k, hq with
    | 0, hq => cases hq; exact ⟨b1, b2⟩
    | 1, hq => cases hq; exact ⟨i1, i2⟩
    | 2, hq => cases hq; exact ⟨j1, j2⟩
    | 3, hq => cases hq; exact ⟨fun n z => ⟨fun k h => (by cases h), kA, d2, comp, d3⟩, kA, comp, d2, d3, d1, d4⟩
    | k + 4, hq => simp [kk_T] at hq
theorem kx_of {l : Launch} {s : State} {b : Nat} {A : Nat → Prop} (hts0 : ∀ w ∈ lw_tbl, w.before #[Value.ref b] s = true) (hgv : (Jvm.Cond.and given_1 narrow_1).before #[Value.ref b] s = true) (hAs : ∀ q : Nat, q < s.heap.size → ¬ A q) : ∃ sa sb : Nat, kx_E sa sb A s s.heap := by
  have hts : ∀ w ∈ kk_ws, w.before #[Value.ref b] s = true := fun w h => hts0 w (List.mem_filter.mp h).1
  have hg := flat_of_before _ hgv
  have hs1 : (Cond.stringRef RX10 107 "no such KEY").before #[Value.ref b] s = true := hts0 _ (by decide +kernel)
  have hs2 : (Cond.stringRef RX10 127 "no such what").before #[Value.ref b] s = true := hts0 _ (by decide +kernel)
  obtain ⟨mk9, hn9⟩ := Cond.code_named (hts _ w_1165)
  obtain ⟨k9, cf9, i9, sa, -, -, -, -, -, hev⟩ := Cond.stringRef_spec (findClass_of_methodNamed hn9) hs1
  obtain ⟨k8, cf8, i8, sb, -, -, -, -, -, hew⟩ := Cond.stringRef_spec (findClass_of_methodNamed hn9) hs2
  exact ⟨sa, sb, vk_R.of hs1 hev, vk_R.of hs2 hew, va_Nw.of rfl (hts0 _ (by decide +kernel)), va_Nw.of rfl (hts0 _ (by decide +kernel)), va_Nw.of rfl (hts0 _ (by decide +kernel)), va_Nw.of rfl (hts0 _ (by decide +kernel)), va_Nw.of rfl (hts0 _ (by decide +kernel)), va_Nc.of (hg _ (by decide +kernel)), vx_Zqof (hts0 _ (by decide +kernel)) (hts0 _ (by decide +kernel)) (hg _ (by decide +kernel)) hAs, vx_Zqof (hts0 _ (by decide +kernel)) (hts0 _ (by decide +kernel)) (hg _ (by decide +kernel)) hAs⟩
