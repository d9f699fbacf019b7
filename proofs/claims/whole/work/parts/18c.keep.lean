/-! every operation keeps the bounds: targets, text, ledger -/
theorem WFp.le {σ σ' : Nat → Int → Int} (h : WFp σ) (e21 : σ' 127 21 = σ 127 21) (e2 : σ 127 2 ≤ σ' 127 2) (k : ∀ q, σ' 138 q = σ 138 q) : WFp σ' := by
  have e138 : σ' 138 = σ 138 := funext k
  unfold WFp
  rw [e21]
  refine ⟨h.1, fun p p0 p1 => ?_⟩
  have hp := h.2 p p0 p1
  unfold PlWF pf ps at hp ⊢
  rw [e138]
  obtain ⟨a, b, c, r⟩ := hp
  exact ⟨a, b, ⟨c.1, by omega⟩, r⟩
theorem GO.mk' {σ σ' : Nat → Int → Int} {a : Int} {f : Bool} (w : WFs σ') (h : f = false → EqP σ σ' ∧ ∀ p : Nat, (p : Int) < σ 127 21 → wS σ' p = wS σ p) : GO σ (a, σ', f) := ⟨w, h⟩
theorem go_Era {σ : Nat → Int → Int} (hW : WFs σ) : GO σ (xEra σ) := by
  show GO σ (σ 127 12, upI σ 127 12 0, false)
  obtain ⟨hN, hT, hP, hA, hL⟩ := hW
  have e : ∀ a q, ¬ (a = 127 ∧ q = 12) → upI σ 127 12 0 a q = σ a q := fun a q h => if_neg h
  refine GO.mk' ⟨hN.sg (fun a q _ => e a q (by omega)), ⟨?_, fun i i0 i1 => ?_⟩, hP.le (e _ _ (by omega)) (Int.le_of_eq (e _ _ (by omega)).symm) (fun q => e _ _ (by omega)), ?_, hL.sg (fun a q _ => e a q (by omega))⟩ (fun _ => EqP.of (fun a q _ => e a q (by omega)) (fun s _ _ => e _ _ (by omega)) (fun t _ _ => ⟨e _ _ (by omega), e _ _ (by omega), e _ _ (by omega)⟩))
  · show 0 ≤ upI σ 127 12 0 127 12 ∧ upI σ 127 12 0 127 12 ≤ 160
    rw [up_at]; decide
  · have i2 : i < upI σ 127 12 0 127 12 := i1
    rw [up_at] at i2
    omega
  · show 0 ≤ upI σ 127 12 0 127 31 ∧ upI σ 127 12 0 127 31 ≤ 1
    rw [e 127 31 (by omega)]; exact hA
theorem go_Agn {σ : Nat → Int → Int} {v : Int} (hW : WFs σ) : GO σ (xAgn σ v) := by
  unfold xAgn
  by_cases c : 0 ≤ v ∧ v ≤ 1
  · rw [if_pos c]
    obtain ⟨hN, hT, hP, hA, hL⟩ := hW
    have e : ∀ a q, ¬ (a = 127 ∧ q = 31) → upI σ 127 31 v a q = σ a q := fun a q h => if_neg h
    refine GO.mk' ⟨hN.sg (fun a q _ => e a q (by omega)), hT.sg (fun a q _ => e a q (by omega)), hP.le (e _ _ (by omega)) (Int.le_of_eq (e _ _ (by omega)).symm) (fun q => e _ _ (by omega)), ?_, hL.sg (fun a q _ => e a q (by omega))⟩ (fun _ => EqP.of (fun a q _ => e a q (by omega)) (fun s _ _ => e _ _ (by omega)) (fun t _ _ => ⟨e _ _ (by omega), e _ _ (by omega), e _ _ (by omega)⟩))
    show 0 ≤ upI σ 127 31 v 127 31 ∧ upI σ 127 31 v 127 31 ≤ 1
    rw [up_at]; exact c
  · rw [if_neg c]; exact GO.same hW
theorem go_Shr {σ : Nat → Int → Int} {l v : Int} (hW : WFs σ) : GO σ (xShr σ l v) := by
  unfold xShr
  by_cases c : 0 ≤ l ∧ l ≤ 3
  · rw [if_pos c]
    by_cases c2 : 1 ≤ v ∧ v ≤ 20
    · rw [if_pos c2]
      obtain ⟨hN, hT, hP, hA, hL⟩ := hW
      have e : ∀ a q, a ≠ 149 → upI σ 149 l v a q = σ a q := fun a q h => up_ne h
      refine GO.mk' ⟨hN.sg (fun a q _ => e a q (by omega)), hT.sg (fun a q _ => e a q (by omega)), hP.le (e _ _ (by omega)) (Int.le_of_eq (e _ _ (by omega)).symm) (fun q => e _ _ (by omega)), ?_, ?_⟩ (fun _ => EqP.of (fun a q _ => e a q (by omega)) (fun s _ _ => e _ _ (by omega)) (fun t _ _ => ⟨e _ _ (by omega), e _ _ (by omega), e _ _ (by omega)⟩))
      · show 0 ≤ upI σ 149 l v 127 31 ∧ upI σ 149 l v 127 31 ≤ 1
        rw [e 127 31 (by omega)]; exact hA
      · refine ⟨fun q q0 q1 => ?_, fun q q0 q1 => ?_, ?_⟩
        · show 1 ≤ upI σ 149 l v 149 q ∧ upI σ 149 l v 149 q ≤ 20
          by_cases d : q = l
          · rw [d, up_at]; exact c2
          · rw [up_nk d]; exact hL.1 q q0 q1
        · show 0 ≤ upI σ 149 l v 150 q ∧ upI σ 149 l v 150 q ≤ 12 * upI σ 149 l v 127 1
          rw [e 150 q (by omega), e 127 1 (by omega)]; exact hL.2.1 q q0 q1
        · show 0 ≤ upI σ 149 l v 127 39 ∧ upI σ 149 l v 127 39 ≤ 495 * upI σ 149 l v 127 1
          rw [e 127 39 (by omega), e 127 1 (by omega)]; exact hL.2.2
    · rw [if_neg c2]; exact GO.same hW
  · rw [if_neg c]; exact GO.same hW
