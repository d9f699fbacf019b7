/-! every operation keeps the bounds: moon, seeing -/
theorem go_Moon {σ : Nat → Int → Int} {r a b : Int} (hW : WFs σ) : GO σ (xMoon σ r a b) := by
  unfold xMoon
  by_cases c : (0 ≤ r ∧ r ≤ 3) ∧ (0 ≤ a ∧ a < σ 127 0) ∧ (0 ≤ b ∧ b < σ 127 0) ∧ a ≤ b
  · rw [if_pos c]
    obtain ⟨hN, hT, hP, hA, hL⟩ := hW
    obtain ⟨σ', es⟩ : ∃ σ', σ' = upI (upI (upI σ 127 6 r) 127 7 a) 127 8 b := ⟨_, rfl⟩
    rw [← es]
    have e : ∀ x q, ¬ (x = 127 ∧ (q = 6 ∨ q = 7 ∨ q = 8)) → σ' x q = σ x q := fun x q h => by rw [es]; exact (if_neg (by omega)).trans ((if_neg (by omega)).trans (if_neg (by omega)))
    have e6 : σ' 127 6 = r := by rw [es]; exact (up_nk (by decide)).trans ((up_nk (by decide)).trans up_at)
    have e7 : σ' 127 7 = a := by rw [es]; exact (up_nk (by decide)).trans up_at
    have e8 : σ' 127 8 = b := by rw [es]; exact up_at
    refine GO.mk' ⟨?_, hT.sg (fun x q _ => e x q (by omega)), hP.le (e _ _ (by omega)) (Int.le_of_eq (e _ _ (by omega)).symm) (fun q => e _ _ (by omega)), ?_, hL.sg (fun x q _ => e x q (by omega))⟩ (fun u => by cases u)
    · obtain ⟨h0, h1, h2, h3, h4, h5, h6, h7, h8, h9⟩ := hN
      unfold WFn
      rw [e 127 0 (by omega), e 127 1 (by omega), e 127 2 (by omega), e6, e7, e8, e 127 10 (by omega)]
      refine ⟨h0, h1, h2, fun t t0 t1 => ?_, by omega, by omega, by omega, h7, fun i i0 i1 => ?_, fun w w0 w1 => ?_⟩
      · rw [e 128 t (by omega), e 129 t (by omega), e 130 t (by omega)]; exact h3 t t0 t1
      · rw [e 131 i (by omega)]; exact h8 i i0 i1
      · rw [e 132 w (by omega)]; exact h9 w w0 w1
    · rw [e 127 31 (by omega)]; exact hA
  · rw [if_neg c]; exact GO.same hW
theorem go_See {σ : Nat → Int → Int} {w s v : Int} (hW : WFs σ) : GO σ (xSee σ w s v) := by
  unfold xSee
  by_cases c : (0 ≤ w ∧ w < 2 + σ 127 10) ∧ (0 ≤ s ∧ s < σ 127 0)
  · rw [if_pos c]
    by_cases c2 : 0 ≤ v ∧ v ≤ 4
    · rw [if_pos c2]
      obtain ⟨hN, hT, hP, hA, hL⟩ := hW
      obtain ⟨σ', es⟩ : ∃ σ', σ' = upI σ 131 (12 * w + s) v := ⟨_, rfl⟩
      rw [← es]
      have e : ∀ x q, x ≠ 131 → σ' x q = σ x q := fun x q h => by rw [es]; exact up_ne h
      refine GO.mk' ⟨?_, hT.sg (fun x q _ => e x q (by omega)), hP.le (e _ _ (by omega)) (Int.le_of_eq (e _ _ (by omega)).symm) (fun q => e _ _ (by omega)), ?_, hL.sg (fun x q _ => e x q (by omega))⟩ (fun u => by cases u)
      · obtain ⟨h0, h1, h2, h3, h4, h5, h6, h7, h8, h9⟩ := hN
        unfold WFn
        rw [e 127 0 (by omega), e 127 1 (by omega), e 127 2 (by omega), e 127 6 (by omega), e 127 7 (by omega), e 127 8 (by omega), e 127 10 (by omega)]
        refine ⟨h0, h1, h2, fun t t0 t1 => ?_, h4, h5, h6, h7, fun i i0 i1 => ?_, fun w w0 w1 => ?_⟩
        · rw [e 128 t (by omega), e 129 t (by omega), e 130 t (by omega)]; exact h3 t t0 t1
        · rw [es]
          by_cases d : i = 12 * w + s
          · rw [d, up_at]; exact c2
          · rw [up_nk d]; exact h8 i i0 i1
        · rw [e 132 w (by omega)]; exact h9 w w0 w1
      · rw [e 127 31 (by omega)]; exact hA
    · rw [if_neg c2]; exact GO.same hW
  · rw [if_neg c]; exact GO.same hW
