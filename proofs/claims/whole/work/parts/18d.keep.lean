/-! every operation keeps the bounds: worlds dropped, moon, worth -/
theorem go_Unw {σ : Nat → Int → Int} (hW : WFs σ) : GO σ (xUnw σ) := by
  show GO σ (σ 127 10, upI σ 127 10 0, false)
  obtain ⟨hN, hT, hP, hA, hL⟩ := hW
  have e : ∀ a q, ¬ (a = 127 ∧ q = 10) → upI σ 127 10 0 a q = σ a q := fun a q h => if_neg h
  refine GO.mk' ⟨?_, hT.sg (fun a q _ => e a q (by omega)), hP.le (e _ _ (by omega)) (Int.le_of_eq (e _ _ (by omega)).symm) (fun q => e _ _ (by omega)), ?_, hL.sg (fun a q _ => e a q (by omega))⟩ (fun _ => EqP.of (fun a q _ => e a q (by omega)) (fun s _ _ => e _ _ (by omega)) (fun t _ _ => ⟨e _ _ (by omega), e _ _ (by omega), e _ _ (by omega)⟩))
  · have e10 : upI σ 127 10 0 127 10 = 0 := up_at
    obtain ⟨h0, h1, h2, h3, h4, h5, h6, h7, h8, h9⟩ := hN
    unfold WFn
    rw [e 127 0 (by omega), e 127 1 (by omega), e 127 2 (by omega), e 127 6 (by omega), e 127 7 (by omega), e 127 8 (by omega), e10]
    refine ⟨h0, h1, h2, fun t t0 t1 => ?_, h4, h5, h6, by decide, fun i i0 i1 => ?_, fun w w0 w1 => absurd w1 (by omega)⟩
    · rw [e 128 t (by omega), e 129 t (by omega), e 130 t (by omega)]; exact h3 t t0 t1
    · rw [e 131 i (by omega)]; exact h8 i i0 i1
  · show 0 ≤ upI σ 127 10 0 127 31 ∧ upI σ 127 10 0 127 31 ≤ 1
    rw [e 127 31 (by omega)]; exact hA
theorem go_Wor {σ : Nat → Int → Int} {p v : Int} (hW : WFs σ) : GO σ (xWor σ p v) := by
  unfold xWor
  by_cases c : 0 ≤ p ∧ p < σ 127 21
  · rw [if_pos c]
    by_cases c2 : 1 ≤ v ∧ v ≤ 99
    · rw [if_pos c2]
      obtain ⟨hN, hT, hP, hA, hL⟩ := hW
      have e : ∀ a q, a ≠ 138 → upI σ 138 (23 * p + 3) v a q = σ a q := fun a q h => up_ne h
      refine GO.mk' ⟨hN.w, hT.sg (fun a q _ => e a q (by omega)), hP.wor c2.1 c2.2, ?_, hL.sg (fun a q _ => e a q (by omega))⟩ (fun u => by cases u)
      show 0 ≤ upI σ 138 (23 * p + 3) v 127 31 ∧ upI σ 138 (23 * p + 3) v 127 31 ≤ 1
      rw [e 127 31 (by omega)]; exact hA
    · rw [if_neg c2]; exact GO.same hW
  · rw [if_neg c]; exact GO.same hW
