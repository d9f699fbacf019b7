/-! every operation keeps the bounds: plans, closing -/
theorem go_Drp {σ : Nat → Int → Int} {p : Int} (hW : WFs σ) : GO σ (xDrp σ p) := by
  unfold xDrp
  by_cases c : 0 ≤ p ∧ p < σ 127 21
  · rw [if_pos c]
    obtain ⟨hN, hT, hP, hA, hL⟩ := hW
    have e : ∀ a q, a ≠ 138 → ¬ (a = 127 ∧ q = 21) → rmS σ p a q = σ a q := fun a q h h' => rm_o h h'
    refine GO.mk' ⟨hN.sg (fun a q _ => e a q (by omega) (by omega)), hT.sg (fun a q _ => e a q (by omega) (by omega)), hP.rm c.1 c.2, ?_, hL.sg (fun a q _ => e a q (by omega) (by omega))⟩ (fun u => by cases u)
    rw [e 127 31 (by omega) (by omega)]; exact hA
  · rw [if_neg c]; exact GO.same hW
theorem go_Pln {σ : Nat → Int → Int} (hW : WFs σ) : GO σ (xPln σ) := by
  unfold xPln
  by_cases c : (rsS σ).2.2.2 = true
  · rw [if_pos c]
    by_cases c2 : σ 127 21 = 5
    · rw [if_pos c2]; exact GO.same hW
    · rw [if_neg c2]
      obtain ⟨hN, hT, hP, hA, hL⟩ := hW
      have e7 : ∀ q, q ≠ 12 → q ≠ 21 → plnS σ 127 q = σ 127 q := fun q h1 h2 => pln_7 h1 h2
      have eo : ∀ a q, a ≠ 127 → a ≠ 138 → plnS σ a q = σ a q := fun a q h1 h2 => pln_o h1 h2
      have e : ∀ a q, a ≠ 138 → ¬ (a = 127 ∧ (q = 12 ∨ q = 21)) → plnS σ a q = σ a q := fun a q h1 h2 => by
        by_cases d : a = 127
        · rw [d]; exact e7 q (by omega) (by omega)
        · exact eo a q d h1
      have b := hP.1
      refine GO.mk' ⟨hN.sg (fun a q _ => e a q (by omega) (by omega)), ⟨?_, fun i i0 i1 => ?_⟩, ⟨?_, fun q q0 q1 => ?_⟩, ?_, hL.sg (fun a q _ => e a q (by omega) (by omega))⟩ (fun u => by cases u)
      · rw [pln_12]; decide
      · rw [pln_12] at i1; omega
      · rw [pln_21]; omega
      · rw [pln_21] at q1
        by_cases d : q = σ 127 21
        · rw [d]; exact pln_WF c
        · exact (hP.2 q q0 (by omega)).mv (e7 2 (by decide) (by decide)) (fun k k0 k1 => pln_lo (by omega) k0 k1)
      · rw [e 127 31 (by omega) (by omega)]; exact hA
  · rw [if_neg c]; exact GO.same hW
theorem go_Clo {σ : Nat → Int → Int} {r : Int} (hW : WFs σ) : GO σ (xClo σ r) := by
  unfold xClo
  by_cases c : 0 ≤ r ∧ r ≤ 2
  · rw [if_pos c]
    by_cases c2 : σ 127 1 = 300
    · rw [if_pos c2]; exact GO.same hW
    · rw [if_neg c2]
      obtain ⟨hN, hT, hP, hA, hL⟩ := hW
      have b := hP.1
      have hs := sc_b (r := r) (w := 1) hN hP
      have e7 : ∀ q, q ≠ 1 → q ≠ 6 → q ≠ 21 → q ≠ 39 → cloS σ r 127 q = σ 127 q := fun q h1 h2 h3 h4 => clo_7 h1 h2 h3 h4
      have eo : ∀ a q, a ≠ 127 → a ≠ 131 → a ≠ 138 → a ≠ 150 → cloS σ r a q = σ a q := fun a q h1 h2 h3 h4 => clo_o h1 h2 h3 h4
      have e1 : cloS σ r 127 1 = σ 127 1 + 1 := clo_1
      have e6 : cloS σ r 127 6 = -1 := clo_6
      have e39 : cloS σ r 127 39 = σ 127 39 + scS σ r 1 := clo_39
      have e2 := e7 2 (by decide) (by decide) (by decide) (by decide)
      have eD : cloD σ r 127 2 = σ 127 2 := (rmD_o (by decide) (by omega) _).trans (acc_o (by decide) _)
      have hA1 : cloA σ r 127 21 = σ 127 21 := acc_o (by decide) _
      have hWD : WFp (cloD σ r) := (rmD_b (hP.acc _) (σ 127 21).toNat (Int.le_of_eq ((Int.toNat_of_nonneg b.1).trans hA1.symm))).1
      refine GO.mk' ⟨?_, hT.sg (fun a q h => ?_), ⟨?_, fun q q0 q1 => ?_⟩, ?_, ?_⟩ (fun u => by cases u)
      · obtain ⟨h0, h1, h2, h3, h4, h5, h6, h7, h8, h9⟩ := hN
        unfold WFn
        rw [e7 0 (by decide) (by decide) (by decide) (by decide), e1, e2, e6, e7 7 (by decide) (by decide) (by decide) (by decide), e7 8 (by decide) (by decide) (by decide) (by decide), e7 10 (by decide) (by decide) (by decide) (by decide)]
        refine ⟨h0, by omega, h2, fun t t0 t1 => ?_, by decide, h5, h6, h7, fun i i0 i1 => ?_, fun w w0 w1 => ?_⟩
        · rw [eo 128 t (by decide) (by decide) (by decide) (by decide), eo 129 t (by decide) (by decide) (by decide) (by decide), eo 130 t (by decide) (by decide) (by decide) (by decide)]; exact h3 t t0 t1
        · rw [clo_131]
          split
          · decide
          · exact h8 i i0 i1
        · rw [eo 132 w (by decide) (by decide) (by decide) (by decide)]; exact h9 w w0 w1
      · by_cases d : a = 127
        · rw [d]; exact e7 q (by omega) (by omega) (by omega) (by omega)
        · exact eo a q d (by omega) (by omega) (by omega)
      · rw [clo_p (Or.inl ⟨rfl, rfl⟩)]; exact hWD.1
      · rw [clo_p (Or.inl ⟨rfl, rfl⟩)] at q1
        exact (hWD.2 q q0 q1).mv (e2.trans eD.symm) (fun k _ _ => clo_p (Or.inr rfl))
      · rw [e7 31 (by decide) (by decide) (by decide) (by decide)]; exact hA
      · obtain ⟨l1, l2, l3⟩ := hL
        have b0 := hN.1
        refine ⟨fun l l0 l1' => ?_, fun k k0 k1 => ?_, ?_⟩
        · rw [eo 149 l (by decide) (by decide) (by decide) (by decide)]; exact l1 l l0 l1'
        · rw [clo_150, e1]
          have q1 := acc_b (w := (runS σ r 1 (σ 127 0).toNat).1) hP (σ 127 0).toNat (fun q hq => run_lv hP (σ 127 0).toNat (by omega) q hq) k
          have q2 := l2 k k0 k1
          unfold cloA
          omega
        · rw [e39, e1]; omega
  · rw [if_neg c]; exact GO.same hW
