/-! ===== calls over a world with a tail; the reference's banks over all calls ===== -/
section KTR
variable {p : Program} {l : Launch} {e : Env} {R : Room} {s : State} {m : MethodId} {args : Array Value} {below : List Frame} {meth : Method} {c : Code} {H : Heap} {locs : List Loc} {cells slots : Nat} {Q : State → Prop}
variable {D : va_G} {cc : ByteArray} {mc ms pc : Nat} {rest st0 : List Value} {a : Array Value} {ls : Array Slot} {ws w1 wr T : va_W} {A : Nat → Prop} {H0 : Heap} {S : Type} {Bw : S → va_W}
theorem kt_free {isC : List Nat} (hD : va_D A (ws ++ T)) (hS : va_S A H0 H locs) (hA : ∀ q, H0.size ≤ q → A q) (hC : isC.map (fun i => ws[i]?) = w1.map some) : ∀ q, va_A w1 H.size q → A q := by
  intro q h
  rcases h with ⟨k, e, h⟩ | h
  · obtain ⟨i, -, h2⟩ := va_in_of isC hC h
    have hi : i < ws.length := (List.getElem?_eq_some_iff.mp h2).1
    exact hD.2 i (q, e) (by rw [List.getElem?_append_left hi]; exact h2)
  · exact hA q (Nat.le_trans hS.1 h)
theorem kt_ci {post : Int32 → S → Prop} (hr : va_Run p l e R s m args below meth c H locs cells slots mc ms (F0 m pc ls st0) rest (kk_Qi D post Bw (va_A w1 H.size) a) (va_A w1 H.size)) (hP : va_P D vwCl (ws ++ T) H) (hD : va_D A (ws ++ T)) (hS : va_S A H0 H locs) (hA : ∀ q, H0.size ≤ q → A q)
    (isC isR : List Nat) (hC : isC.map (fun i => ws[i]?) = w1.map some) (hR : isR.map (fun i => ws[i]?) = wr.map some) (hn : va_nd isR = true) (hdis : ∀ i ∈ isR, i ∉ isC)
    (kk : ∀ (r : Int32) (u : S) (H1 : Heap) (locs1 : List Loc), post r u → va_P D vwCl ((wr ++ Bw u) ++ T) H1 → va_D A ((wr ++ Bw u) ++ T) → va_S A H0 H1 locs1 → W p l e R s m args below meth c H1 locs1 (cells + mc) (slots + ms) Q (F0 m (pc + 3) ls (.int r :: rest))) : W p l e R s m args below meth c H locs cells slots Q (F0 m pc ls st0) := by
  have hF := kt_free (w1 := w1) hD hS hA hC
  refine va_calli hr hS (fun q _ h => hF q h) hF (fun r u t H1 locs1 ht hvm hw hB hz1 hk1 hS1 => ?_)
  obtain ⟨hP1, hD1⟩ := hB
  rw [ht] at hP1
  obtain ⟨hP2, hD2⟩ := va_joinQ (wr := wr) (w1 := Bw u) hP hD isC isR hC hR hn hdis hk1 hF hP1 hD1
  exact kk r u H1 locs1 hw hP2 hD2 hS1
end KTR
theorem kt_P {D : va_G} {cl : List vw_C} {w T : va_W} {H : Heap} (h : va_P D cl (w ++ T) H) : va_P D cl w H := by
  intro k q hk
  exact h k q (by rw [List.getElem?_append_left (List.getElem?_eq_some_iff.mp hk).1]; exact hk)
theorem kt_D {A : Nat → Prop} {w T : va_W} (h : va_D A (w ++ T)) : va_D A w := by
  refine h.by id (fun k q hk => ?_) (fun i j _ _ e => e)
  show (w ++ T)[k]? = some q
  rw [List.getElem?_append_left (List.getElem?_eq_some_iff.mp hk).1]
  exact hk
theorem kt_rotP {D : va_G} {cl : List vw_C} {a b c : va_W} {H : Heap} (h : va_P D cl (a ++ (b ++ c)) H) : va_P D cl (b ++ (a ++ c)) H := by
  have h1 : va_P D cl (([] ++ a) ++ (b ++ c)) H := h
  have h2 : va_P D cl (([] ++ (b ++ c)) ++ a) H := h1.swap
  have h3 : va_P D cl ((b ++ c) ++ a) H := h2
  have h4 : va_P D cl ((b ++ a) ++ c) H := h3.swap
  rw [List.append_assoc] at h4
  exact h4
theorem kt_rotD {A : Nat → Prop} {a b c : va_W} (h : va_D A (a ++ (b ++ c))) : va_D A (b ++ (a ++ c)) := by
  have h1 : va_D A (([] ++ a) ++ (b ++ c)) := h
  have h2 : va_D A (([] ++ (b ++ c)) ++ a) := h1.swap
  have h3 : va_D A ((b ++ c) ++ a) := h2
  have h4 : va_D A ((b ++ a) ++ c) := h3.swap
  rw [List.append_assoc] at h4
  exact h4
/-- a bank, its log's length held against the calls, the steps come and those kept -/
def kH (K N M : Int) (f : Nat → Int32) (B : Nat) : Prop := kG K (N + ((f (B + 226)).toInt - kK f B 24)) (M + 600 * ((f (B + 226)).toInt - kK f B 24)) f B
def kGG (n : Int) (f : Nat → Int32) : Prop := ∀ j, j < 18 → ¬ j = 1 → kH (2139095040 + n) n (600 * n) f (320 * j)
theorem kH_w {K N M K' N' M' : Int} {f : Nat → Int32} {B : Nat} (h : kH K N M f B) (h1 : K ≤ K') (h2 : N ≤ N') (h3 : M ≤ M') : kH K' N' M' f B := kG_w h h1 (by omega) (by omega)
theorem kG_eq {K N M : Int} {f g : Nat → Int32} {B : Nat} (h : kG K N M f B) (e : ∀ k, k < 320 → g (B + k) = f (B + k)) : kG K N M g B := by
  have e0 : g B = f B := e 0 (by omega)
  have hw : kW g B = kW f B := by
    unfold kW
    rw [e 170 (by omega), e 171 (by omega), e 172 (by omega), e 173 (by omega), e 174 (by omega)]
  obtain ⟨g0, g1, g2, g3, g4, g5, g6, g7, g8, g9⟩ := h
  refine ⟨?_, ?_, ?_, ?_, ?_, fun i a b => ?_, fun i a b => ?_, fun i a b => ?_, fun i a b => ?_, fun i a b => ?_⟩
  · rw [e0]; exact g0
  · rw [e0, hw]; exact g1
  · rw [e _ (by omega), hw, kM_eq e0]; exact g2
  · rw [e _ (by omega)]; exact g3
  · rw [e _ (by omega)]; exact g4
  · rw [e _ (by omega)]; exact g5 i a b
  · rw [e _ (by omega)]; exact g6 i a b
  · rw [e _ (by omega)]; exact g7 i a b
  · rw [e _ (by omega)]; exact g8 i a b
  · rw [e _ (by omega)]; exact g9 i a b
theorem kH_eq {K N M : Int} {f g : Nat → Int32} {B : Nat} (h : kH K N M f B) (e : ∀ k, k < 320 → g (B + k) = f (B + k)) : kH K N M g B := by
  unfold kH
  rw [e 226 (by omega), kK_eq (f := f) (g := g) 24 (fun i hi => e _ (by omega))]
  exact kG_eq h e
theorem kF_out {m : List (Nat × Nat)} {B j : Nat} {f g : Nat → Int32} (h : kF m B f g) (hs : (m.all fun q => Nat.ble q.2 319) = true) (hB : B = 320 * j) {i : Nat} (hi : ¬ i = j) : ∀ k, k < 320 → g (320 * i + k) = f (320 * i + k) := by
  intro k hk
  rcases h (320 * i + k) with e | ⟨k2, e, q, hq, h1, h2⟩
  · exact e
  · have h3 := List.all_eq_true.mp hs q hq
    simp only [Nat.ble_eq] at h3
    omega
theorem kGG_up {n : Int} {f : Nat → Int32} (h : kGG n f) : kGG (n + 1) f := fun j hj h1 => kH_w (h j hj h1) (by omega) (by omega) (by omega)
/-- banks that stay, one that is told anew -/
theorem kGG_one {n : Int} {f g : Nat → Int32} {m : List (Nat × Nat)} {B i : Nat} (h : kGG n f) (hF : kF m B f g) (hs : (m.all fun q => Nat.ble q.2 319) = true) (hB : B = 320 * i) (hi : i = 1 ∨ kH (2139095040 + (n + 1)) (n + 1) (600 * (n + 1)) g (320 * i)) : kGG (n + 1) g := by
  intro j hj h1
  by_cases e : j = i
  · subst e
    rcases hi with q | q
    · exact absurd q h1
    · exact q
  · exact kH_w (kH_eq (h j hj h1) (kF_out hF hs hB e)) (by omega) (by omega) (by omega)
theorem kB_0 : kB 0 = 320 * 0 := by decide
theorem kB_1 : kB 1 = 320 * 1 := by decide
theorem kGG_0 {n : Int} {f : Nat → Int32} (h : kGG n f) : kG (2139095040 + n) (n + ((f (kB 0 + 226)).toInt - kK f (kB 0) 24)) (600 * n + 600 * ((f (kB 0 + 226)).toInt - kK f (kB 0) 24)) f (kB 0) := by
  rw [kB_0]
  exact h 0 (by omega) (by omega)
theorem kGG_A {n : Int} {f g : Nat → Int32} (h : kGG n f) (hG : kG (2139095040 + n + 1) (n + ((f (kB 0 + 226)).toInt - kK f (kB 0) 24) + 1) (600 * n + 600 * ((f (kB 0 + 226)).toInt - kK f (kB 0) 24) + 600) g (kB 0)) (hF : kF [(0, 225), (227, 227)] (kB 0) f g) : kGG (n + 1) g := by
  refine kGG_one h hF rfl kB_0 (Or.inr ?_)
  have e1 := hF.kx rfl
  have e2 := hF.kk rfl
  rw [kB_0] at hG e1 e2
  unfold kH
  rw [e1, e2]
  exact kG_w hG (by omega) (by omega) (by omega)
theorem kGG_R {n : Int} {f g : Nat → Int32} (h : kGG n f) (hG : kG (2139095040 + n) (n + ((f (kB 0 + 226)).toInt - kK f (kB 0) 24) + ((g (kB 0 + 226)).toInt - (f (kB 0 + 226)).toInt - kK g (kB 0) 24 + kK f (kB 0) 24)) (600 * n + 600 * ((f (kB 0 + 226)).toInt - kK f (kB 0) 24) + 600 * ((g (kB 0 + 226)).toInt - (f (kB 0 + 226)).toInt - kK g (kB 0) 24 + kK f (kB 0) 24)) g (kB 0)) (hF : kF [(0, 319)] (kB 0) f g) : kGG (n + 1) g := by
  refine kGG_one h hF rfl kB_0 (Or.inr ?_)
  rw [kB_0] at hG
  unfold kH
  exact kG_w hG (by omega) (by omega) (by omega)
theorem kGG_T {n : Int} {f g : Nat → Int32} (h : kGG n f) (hF : kF [(0, 319)] (kB 1) f g) : kGG (n + 1) g := kGG_one h hF rfl kB_1 (Or.inl rfl)
theorem kK_z {B : Nat} {f : Nat → Int32} (h : ∀ i, i < 24 → f (B + (254 + i)) = 0) : kK f B 24 = 0 := by
  have e : kK f B 24 = kK (fun _ => 0) B 24 := kK_eq (f := fun _ => 0) (g := f) 24 h
  rw [e]
  rfl
/-- a bank laid anew -/
theorem kH_new {f g : Nat → Int32} {B : Nat} (hG : kG 2139095040 0 0 g B) (hZ : kF [(0, 225), (230, 253)] B (kzf B f) g) : kH 2139095040 0 0 g B := by
  have e1 : g (B + 226) = 0 := by rw [hZ.at 226 rfl]; exact kzf_in 226 (by omega)
  have e2 : kK g B 24 = 0 := by rw [hZ.kk rfl]; exact kK_z (fun i hi => kzf_in _ (by omega))
  unfold kH
  rw [e1, e2]
  exact kG_w hG (by decide) (by decide) (by decide)
theorem kGG_X {n : Int} {f g : Nat → Int32} (h : kGG n f) (hn : 0 ≤ n) (hx : g = f ∨ (kG 2139095040 0 0 g (kB 0) ∧ kF [(0, 225), (230, 253)] (kB 0) (kzf (kB 0) f) g ∧ kF [(0, 319)] (kB 0) f g)) : kGG (n + 1) g := by
  rcases hx with e | ⟨hG, hZ, hF⟩
  · rw [e]; exact kGG_up h
  · refine kGG_one h hF rfl kB_0 (Or.inr ?_)
    have q := kH_new hG hZ
    rw [kB_0] at q
    exact kH_w q (by omega) (by omega) (by omega)
theorem kH_cp {K N M : Int} {f g : Nat → Int32} {a b : Nat} (h : kH K N M f a) (hc : kcpn 320 f g a b) : kH K N M g b := by
  unfold kH
  have e2 : kK g b 24 = kK f a 24 := by
    have key : ∀ n, n ≤ 24 → kK g b n = kK f a n := by
      intro n
      induction n with
      | zero => intro _; rfl
      | succ n ih =>
        intro hn
        show kK g b n + kk1 (g (b + (254 + n))) = kK f a n + kk1 (f (a + (254 + n)))
        rw [ih (by omega), hc.1 _ (by omega)]
    exact key 24 (Nat.le_refl _)
  rw [hc.1 226 (by omega), e2]
  exact kG_cp h hc
theorem kB_n {q : Int32} (h : kr 2 17 q) : kB q = 320 * q.toNatClampNeg ∧ 2 ≤ q.toNatClampNeg ∧ q.toNatClampNeg < 18 := by
  have h1 := kr_nat h (by omega)
  exact ⟨rfl, by omega, by omega⟩
theorem kGG_C {n : Int} {f g : Nat → Int32} {i j : Nat} (h : kGG n f) (hi : i < 18 ∧ ¬ i = 1) (hc : kcpn 320 f g (320 * i) (320 * j)) : kGG (n + 1) g := by
  intro k hk h1
  by_cases e : k = j
  · subst e
    exact kH_w (kH_cp (h i hi.1 hi.2) hc) (by omega) (by omega) (by omega)
  · exact kH_w (kH_eq (h k hk h1) (fun x hx => hc.2 _ (by omega))) (by omega) (by omega) (by omega)
theorem kGG_t {n : Int} {f g : Nat → Int32} (h : kGG n f) (hx : g = f ∨ ∃ q : Int32, kr 2 17 q ∧ kcpn 320 f g (kB 0) (kB q)) : kGG (n + 1) g := by
  rcases hx with e | ⟨q, hq, hc⟩
  · rw [e]; exact kGG_up h
  · rw [kB_0, (kB_n hq).1] at hc
    exact kGG_C h ⟨by omega, by omega⟩ hc
theorem kGG_b {n : Int} {f g : Nat → Int32} (h : kGG n f) (hx : g = f ∨ ∃ q : Int32, kr 2 17 q ∧ kcpn 320 f g (kB q) (kB 0)) : kGG (n + 1) g := by
  rcases hx with e | ⟨q, hq, hc⟩
  · rw [e]; exact kGG_up h
  · obtain ⟨q1, q2, q3⟩ := kB_n hq
    rw [kB_0, q1] at hc
    exact kGG_C h ⟨q3, by omega⟩ hc
theorem kGG_i {g : Nat → Int32} (hG : kG 2139095040 0 0 g (kB 0)) (hZ : kF [(0, 225), (230, 253)] (kB 0) (kzf (kB 0) (fun _ => 0)) g) (hF : kF [(0, 319)] (kB 0) (fun _ => 0) g) : kGG 0 g := by
  intro j hj h1
  by_cases e : j = 0
  · subst e
    have q := kH_new hG hZ
    rw [kB_0] at q
    exact kH_w q (by omega) (by omega) (by omega)
  · have ez : kzf (320 * j) (fun _ => 0) = fun _ => 0 := by
      funext i
      unfold kzf
      split <;> rfl
    have q := kG_zero (320 * j) (fun _ => 0)
    have q2 : kH 2139095040 0 0 (kzf (320 * j) (fun _ => 0)) (320 * j) := kH_new q kF.rf
    rw [ez] at q2
    exact kH_w (kH_eq q2 (kF_out hF rfl kB_0 e)) (by omega) (by omega) (by omega)
theorem kGG_cap {n : Int} {f : Nat → Int32} (h : kGG n f) (h0 : 0 ≤ n) (h1 : n ≤ 511) : 2139095040 ≤ 2139095040 + n ∧ 2139095040 + n ≤ 2146000000 ∧ n + ((f (kB 0 + 226)).toInt - kK f (kB 0) 24) ≤ 540 ∧ 600 * n + 600 * ((f (kB 0 + 226)).toInt - kK f (kB 0) 24) ≤ 400000 ∧ n + ((f (kB 0 + 226)).toInt - kK f (kB 0) 24) - (f (kB 0 + 226)).toInt + kK f (kB 0) 24 ≤ 560 := by
  have q1 := kr_226 (kGG_0 h)
  have q2 := kK_nn f (kB 0) 24
  omega
