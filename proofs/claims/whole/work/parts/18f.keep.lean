/-! every operation keeps the bounds: targets -/
theorem go_Tgt {σ : Nat → Int → Int} {m r g : Int} (hW : WFs σ) : GO σ (xTgt σ m r g) := by
  unfold xTgt
  by_cases c : (0 ≤ m ∧ m ≤ 40) ∧ (0 ≤ r ∧ r ≤ 8) ∧ (0 ≤ g ∧ g ≤ 3)
  · rw [if_pos c]
    by_cases c2 : σ 127 2 = 8
    · rw [if_pos c2]; exact GO.same hW
    · rw [if_neg c2]
      obtain ⟨hN, hT, hP, hA, hL⟩ := hW
      obtain ⟨σ', es⟩ : ∃ σ', σ' = upI (upI (upI (upI σ 128 (σ 127 2) m) 129 (σ 127 2) r) 130 (σ 127 2) g) 127 2 (σ 127 2 + 1) := ⟨_, rfl⟩
      rw [← es]
      have e : ∀ x q, ¬ (x = 127 ∧ q = 2) → ¬ ((x = 128 ∨ x = 129 ∨ x = 130) ∧ q = σ 127 2) → σ' x q = σ x q := fun x q h h' => by rw [es]; exact (if_neg (by omega)).trans ((if_neg (by omega)).trans ((if_neg (by omega)).trans (if_neg (by omega))))
      have e2 : σ' 127 2 = σ 127 2 + 1 := by rw [es]; exact up_at
      have a1 : σ' 128 (σ 127 2) = m := by rw [es]; exact (up_ne (by decide)).trans ((up_ne (by decide)).trans ((up_ne (by decide)).trans up_at))
      have a2 : σ' 129 (σ 127 2) = r := by rw [es]; exact (up_ne (by decide)).trans ((up_ne (by decide)).trans up_at)
      have a3 : σ' 130 (σ 127 2) = g := by rw [es]; exact (up_ne (by decide)).trans up_at
      refine GO.mk' ⟨?_, hT.sg (fun x q _ => e x q (by omega) (by omega)), hP.le (e _ _ (by omega) (by omega)) (by omega) (fun q => e _ _ (by omega) (by omega)), ?_, hL.sg (fun x q _ => e x q (by omega) (by omega))⟩ (fun _ => EqP.of (fun x q _ => e x q (by omega) (by omega)) (fun s _ _ => e _ _ (by omega) (by omega)) (fun t _ _ => ⟨e _ _ (by omega) (by omega), e _ _ (by omega) (by omega), e _ _ (by omega) (by omega)⟩))
      · obtain ⟨h0, h1, h2, h3, h4, h5, h6, h7, h8, h9⟩ := hN
        unfold WFn
        rw [e 127 0 (by omega) (by omega), e 127 1 (by omega) (by omega), e2, e 127 6 (by omega) (by omega), e 127 7 (by omega) (by omega), e 127 8 (by omega) (by omega), e 127 10 (by omega) (by omega)]
        refine ⟨h0, h1, by omega, fun t t0 t1 => ?_, h4, h5, h6, h7, fun i i0 i1 => ?_, fun w w0 w1 => ?_⟩
        · by_cases d : t = σ 127 2
          · rw [d, a1, a2, a3]; exact c
          · rw [e 128 t (by omega) (by omega), e 129 t (by omega) (by omega), e 130 t (by omega) (by omega)]; exact h3 t t0 (by omega)
        · rw [e 131 i (by omega) (by omega)]; exact h8 i i0 i1
        · rw [e 132 w (by omega) (by omega)]; exact h9 w w0 w1
      · rw [e 127 31 (by omega) (by omega)]; exact hA
  · rw [if_neg c]; exact GO.same hW
