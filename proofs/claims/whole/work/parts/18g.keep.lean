/-! every operation keeps the bounds: slots, worlds, text -/
theorem go_Slo {σ : Nat → Int → Int} {v : Int} (hW : WFs σ) : GO σ (xSlo σ v) := by
  unfold xSlo
  by_cases c : 4 ≤ v ∧ v ≤ 12
  · rw [if_pos c]
    obtain ⟨hN, hT, hP, hA, hL⟩ := hW
    obtain ⟨σ', es⟩ : ∃ σ', σ' = upI (upI (fillS (upI σ 127 0 v) 24) 127 6 (-1)) 127 10 0 := ⟨_, rfl⟩
    rw [← es]
    have e : ∀ x q, ¬ (x = 127 ∧ (q = 0 ∨ q = 6 ∨ q = 10)) → x ≠ 131 → σ' x q = σ x q := fun x q h h' => by rw [es]; exact (if_neg (by omega)).trans ((if_neg (by omega)).trans ((if_neg (by omega)).trans (if_neg (by omega))))
    have e0 : σ' 127 0 = v := by rw [es]; exact (up_nk (by decide)).trans ((up_nk (by decide)).trans ((if_neg (by omega)).trans up_at))
    have e6 : σ' 127 6 = -1 := by rw [es]; exact (up_nk (by decide)).trans up_at
    have e10 : σ' 127 10 = 0 := by rw [es]; exact up_at
    refine GO.mk' ⟨?_, hT.sg (fun x q _ => e x q (by omega) (by omega)), hP.le (e _ _ (by omega) (by omega)) (Int.le_of_eq (e _ _ (by omega) (by omega)).symm) (fun q => e _ _ (by omega) (by omega)), ?_, hL.sg (fun x q _ => e x q (by omega) (by omega))⟩ (fun u => by cases u)
    · obtain ⟨h0, h1, h2, h3, h4, h5, h6, h7, h8, h9⟩ := hN
      unfold WFn
      rw [e0, e 127 1 (by omega) (by omega), e 127 2 (by omega) (by omega), e6, e 127 7 (by omega) (by omega), e 127 8 (by omega) (by omega), e10]
      refine ⟨c, h1, h2, fun t t0 t1 => ?_, by decide, h5, h6, by decide, fun i i0 i1 => ?_, fun w w0 w1 => absurd w1 (by omega)⟩
      · rw [e 128 t (by omega) (by omega), e 129 t (by omega) (by omega), e 130 t (by omega) (by omega)]; exact h3 t t0 t1
      · rw [es, up_ne (by decide), up_ne (by decide)]
        show 0 ≤ (if 131 = 131 ∧ 0 ≤ i ∧ i < 24 then (1 : Int) else upI σ 127 0 v 131 i) ∧ (if 131 = 131 ∧ 0 ≤ i ∧ i < 24 then (1 : Int) else upI σ 127 0 v 131 i) ≤ 4
        split
        · decide
        · rw [up_ne (by decide)]; exact h8 i i0 i1
    · rw [e 127 31 (by omega) (by omega)]; exact hA
  · rw [if_neg c]; exact GO.same hW
theorem go_Wld {σ : Nat → Int → Int} {v : Int} (hW : WFs σ) : GO σ (xWld σ v) := by
  unfold xWld
  by_cases c : 1 ≤ v ∧ v ≤ 9
  · rw [if_pos c]
    by_cases c2 : σ 127 10 = 4
    · rw [if_pos c2]; exact GO.same hW
    · rw [if_neg c2]
      obtain ⟨hN, hT, hP, hA, hL⟩ := hW
      obtain ⟨σ', es⟩ : ∃ σ', σ' = upI (upI (copyS σ (wB σ) 12) 132 (σ 127 10) v) 127 10 (σ 127 10 + 1) := ⟨_, rfl⟩
      rw [← es]
      have b10 := hN.2.2.2.2.2.2.2.1
      have hB : wB σ = 24 + 12 * σ 127 10 := rfl
      have e : ∀ x q, ¬ (x = 127 ∧ q = 10) → ¬ (x = 132 ∧ q = σ 127 10) → ¬ (x = 131 ∧ 24 ≤ q) → σ' x q = σ x q := fun x q h h' h'' => by rw [es]; exact (if_neg (by omega)).trans ((if_neg (by omega)).trans (if_neg (by omega)))
      have e10 : σ' 127 10 = σ 127 10 + 1 := by rw [es]; exact up_at
      have a1 : σ' 132 (σ 127 10) = v := by rw [es]; exact (up_ne (by decide)).trans up_at
      refine GO.mk' ⟨?_, hT.sg (fun x q _ => e x q (by omega) (by omega) (by omega)), hP.le (e _ _ (by omega) (by omega) (by omega)) (Int.le_of_eq (e _ _ (by omega) (by omega) (by omega)).symm) (fun q => e _ _ (by omega) (by omega) (by omega)), ?_, hL.sg (fun x q _ => e x q (by omega) (by omega) (by omega))⟩ (fun _ => EqP.of (fun x q _ => e x q (by omega) (by omega) (by omega)) (fun s _ _ => e _ _ (by omega) (by omega) (by omega)) (fun t _ _ => ⟨e _ _ (by omega) (by omega) (by omega), e _ _ (by omega) (by omega) (by omega), e _ _ (by omega) (by omega) (by omega)⟩))
      · obtain ⟨h0, h1, h2, h3, h4, h5, h6, h7, h8, h9⟩ := hN
        unfold WFn
        rw [e 127 0 (by omega) (by omega) (by omega), e 127 1 (by omega) (by omega) (by omega), e 127 2 (by omega) (by omega) (by omega), e 127 6 (by omega) (by omega) (by omega), e 127 7 (by omega) (by omega) (by omega), e 127 8 (by omega) (by omega) (by omega), e10]
        refine ⟨h0, h1, h2, fun t t0 t1 => ?_, h4, h5, h6, by omega, fun i i0 i1 => ?_, fun w w0 w1 => ?_⟩
        · rw [e 128 t (by omega) (by omega) (by omega), e 129 t (by omega) (by omega) (by omega), e 130 t (by omega) (by omega) (by omega)]; exact h3 t t0 t1
        · rw [es, up_ne (by decide), up_ne (by decide)]
          show 0 ≤ (if 131 = 131 ∧ wB σ ≤ i ∧ i < wB σ + 12 then σ 131 (i - wB σ) else σ 131 i) ∧ (if 131 = 131 ∧ wB σ ≤ i ∧ i < wB σ + 12 then σ 131 (i - wB σ) else σ 131 i) ≤ 4
          unfold wB
          split
          · exact h8 _ (by omega) (by omega)
          · exact h8 i i0 i1
        · by_cases d : w = σ 127 10
          · rw [d, a1]; exact c
          · rw [e 132 w (by omega) (by omega) (by omega)]; exact h9 w w0 (by omega)
      · rw [e 127 31 (by omega) (by omega) (by omega)]; exact hA
  · rw [if_neg c]; exact GO.same hW
theorem byt_b {x j : Int} : 0 ≤ bytS x j ∧ bytS x j ≤ 255 := by
  unfold bytS
  generalize yshr x (8 * j) = y
  have h : (yand y 255) = (((Int64.ofInt y).toBitVec.toNat &&& 255 : Nat) : Int) := t64n (by
    rw [Int64.toBitVec_and, show (Int64.ofInt 255).toBitVec = BitVec.ofNat 64 255 from rfl]
    apply BitVec.eq_of_toNat_eq
    have q : (Int64.ofInt y).toBitVec.toNat &&& 255 ≤ 255 := Nat.and_le_right
    rw [BitVec.toNat_and, b64 (by omega), b64 (by omega)]) (by
    have q : (Int64.ofInt y).toBitVec.toNat &&& 255 ≤ 255 := Nat.and_le_right
    omega)
  have q : (Int64.ofInt y).toBitVec.toNat &&& 255 ≤ 255 := Nat.and_le_right
  rw [h]
  omega
theorem go_Wri {σ : Nat → Int → Int} {x n : Int} (hW : WFs σ) : GO σ (xWri σ x n) := by
  unfold xWri
  by_cases c : 1 ≤ n ∧ n ≤ 8
  · rw [if_pos c]
    by_cases c2 : σ 127 12 + n ≤ 160
    · rw [if_pos c2]
      obtain ⟨hN, hT, hP, hA, hL⟩ := hW
      obtain ⟨σ', es⟩ : ∃ σ', σ' = upI (wrS σ (σ 127 12) x n) 127 12 (σ 127 12 + n) := ⟨_, rfl⟩
      rw [← es]
      have e : ∀ x q, ¬ (x = 127 ∧ q = 12) → x ≠ 133 → σ' x q = σ x q := fun x q h h' => by rw [es]; exact (if_neg (by omega)).trans (if_neg (by omega))
      have e12 : σ' 127 12 = σ 127 12 + n := by rw [es]; exact up_at
      refine GO.mk' ⟨hN.sg (fun x q _ => e x q (by omega) (by omega)), ⟨?_, fun i i0 i1 => ?_⟩, hP.le (e _ _ (by omega) (by omega)) (Int.le_of_eq (e _ _ (by omega) (by omega)).symm) (fun q => e _ _ (by omega) (by omega)), ?_, hL.sg (fun x q _ => e x q (by omega) (by omega))⟩ (fun _ => EqP.of (fun x q _ => e x q (by omega) (by omega)) (fun s _ _ => e _ _ (by omega) (by omega)) (fun t _ _ => ⟨e _ _ (by omega) (by omega), e _ _ (by omega) (by omega), e _ _ (by omega) (by omega)⟩))
      · have b := hT.1
        rw [e12]; omega
      · rw [e12] at i1
        rw [es, up_ne (by decide)]
        unfold wrS
        split
        · exact byt_b
        · exact hT.2 i i0 (by omega)
      · rw [e 127 31 (by omega) (by omega)]; exact hA
    · rw [if_neg c2]; exact GO.same hW
  · rw [if_neg c]; exact GO.same hW
