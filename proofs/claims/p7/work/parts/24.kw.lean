abbrev kw_L : List Int32 := [269946880, 375160832, 520271872, 640727040, 642952192, 253790208, 643432448, 559546368, 123338752, 182583296, 592760832]
theorem kw_of {s : State} {b : Nat} (hts0 : ∀ w ∈ lw_tbl, w.before #[Value.ref b] s = true) (hgv : (Jvm.Cond.and given_1 narrow_1).before #[Value.ref b] s = true) : ∃ wa : Nat, kw_E s.heap.size wa (fun j => kw_L.getD j 0) s s.heap := by
  have hg := flat_of_before _ hgv
  have hAs : ∀ a : Nat, a < s.heap.size → ¬ (fun q => s.heap.size ≤ q) a := fun a h => Nat.not_le.mpr h
  have hel : ∀ j : Nat, j < 11 → (Term.elem (.static RX5 "WORDS" "[I") (.int (Int32.ofNat j))).eval #[Value.ref b] s none [] s = some (.int (kw_L.getD j 0)) := by
    intro j hj
    match j, hj with
    | 0, _ => exact va_eqt (hg _ (by decide +kernel))
    | 1, _ => exact va_eqt (hg _ (by decide +kernel))
    | 2, _ => exact va_eqt (hg _ (by decide +kernel))
    | 3, _ => exact va_eqt (hg _ (by decide +kernel))
    | 4, _ => exact va_eqt (hg _ (by decide +kernel))
    | 5, _ => exact va_eqt (hg _ (by decide +kernel))
    | 6, _ => exact va_eqt (hg _ (by decide +kernel))
    | 7, _ => exact va_eqt (hg _ (by decide +kernel))
    | 8, _ => exact va_eqt (hg _ (by decide +kernel))
    | 9, _ => exact va_eqt (hg _ (by decide +kernel))
    | 10, _ => exact va_eqt (hg _ (by decide +kernel))
    | n + 11, h => omega
  obtain ⟨t, ht, hT⟩ := va_Tof (args := #[Value.ref b]) (s := s) (tm := .static RX5 "WORDS" "[I") (ty := .int) (N := 11) (f := fun j => .int (kw_L.getD j 0)) (A := fun q => s.heap.size ≤ q) (by decide) (hg _ (by decide +kernel)) (va_eqt (hg _ (by decide +kernel))) hel hAs
  have hlt : t < s.heap.size := by
    obtain ⟨cell, h1, -⟩ := hT
    exact (Array.getElem?_eq_some_iff.mp h1).1
  exact ⟨t, va_Zof (hts0 _ (by decide +kernel)) (hts0 _ (by decide +kernel)) ht hAs, hlt, hlt, Nat.le_refl _, hT⟩
