theorem sOK.c {r r2 : Int → Int} {i : Int} (h : sOK r i) (k : ∀ q, 5 + 6 * i ≤ q → q < 5 + 6 * i + 6 → r2 q = r q) : sOK r2 i := by
  unfold sOK at h ⊢
  rw [k (5 + 6 * i) (by omega) (by omega), k (5 + 6 * i + 1) (by omega) (by omega), k (5 + 6 * i + 2) (by omega) (by omega), k (5 + 6 * i + 3) (by omega) (by omega), k (5 + 6 * i + 4) (by omega) (by omega), k (5 + 6 * i + 5) (by omega) (by omega)]
  exact h
theorem stp_WF {σ : Nat → Int → Int} {x y : mR3} {k v : Int} (h : RWF σ x) (h50 : x.1 ≠ 50) (hy : stpS σ x.1 x.2.1 x.2.2 k v = some y) : RWF σ y := by
  obtain ⟨at_, j, r⟩ := x
  unfold RWF at h
  dsimp only at h hy h50
  obtain ⟨h1, h2, h3, h4, h5, h6, h7, h8, h9, h10, h11, h12, h13, h14⟩ := h
  unfold RWF
  rcases (show at_ = 0 ∨ at_ = 1 ∨ at_ = 2 ∨ at_ = 3 ∨ at_ = 4 ∨ at_ = 5 ∨ at_ = 6 ∨ at_ = 7 ∨ at_ = 8 ∨ at_ = 9 ∨ at_ = 10 ∨ at_ = 11 ∨ at_ = 12 ∨ at_ = 13 ∨ at_ = 14 ∨ at_ = 15 ∨ at_ = 16 ∨ at_ = 17 ∨ at_ = 18 ∨ at_ = 19 ∨ at_ = 20 from by omega) with e | e | e | e | e | e | e | e | e | e | e | e | e | e | e | e | e | e | e | e | e
  · subst e
    simp [stpS, wnS, loS, hiS, kpS, ixS] at hy
    obtain ⟨hk, rfl⟩ := hy
    dsimp only
    exact ⟨h1, by omega, by omega, by omega, by omega, by omega, by omega, by omega, h9, by omega, by omega, by omega, by omega, h14⟩
  · subst e
    have hy2 : (k = 40 ∧ (loS 1 j r ≤ v ∧ v ≤ hiS σ 1 j r)) ∧ (((2 : Int), j, updR r (0) v) : mR3) = y := by
      unfold stpS at hy
      rw [if_neg (by decide)] at hy
      by_cases c1 : k = wnS 1 ∧ (wnS 1 = 40 → loS 1 j r ≤ v ∧ v ≤ hiS σ 1 j r)
      · rw [if_pos c1] at hy
        refine ⟨⟨c1.1, c1.2 rfl⟩, ?_⟩
        injection hy
      · rw [if_neg c1] at hy
        cases hy
    obtain ⟨⟨hk, hv⟩, rfl⟩ := hy2
    unfold loS hiS at hv
    simp at hv
    dsimp only
    have ne : ∀ i, i ≠ 0 → (updR r (0) v) i = r i := fun i hi => ur_ne hi
    have ev : (updR r (0) v) (0) = v := ur_at
    rw [ev, ne (1) (by omega), ne (2) (by omega), ne (3) (by omega), ne (5 + 6 * j) (by omega), ne (5 + 6 * j + 1) (by omega), ne (5 + 6 * j + 2) (by omega), ne (5 + 6 * j + 3) (by omega), ne (5 + 6 * j + 4) (by omega), ne (5 + 6 * j + 5) (by omega)]
    exact ⟨h1, by omega, by omega, by omega, by omega, by omega, by omega, by omega, fun i i0 i1 => (h9 i i0 i1).c (fun q q0 q1 => ne q (by omega)), by omega, by omega, by omega, by omega, fun i i0 i1 q q0 q1 => (ne _ (by omega)).trans (h14 i i0 i1 q q0 q1)⟩
  · subst e
    simp [stpS, wnS, loS, hiS, kpS, ixS] at hy
    obtain ⟨hk, rfl⟩ := hy
    dsimp only
    exact ⟨h1, by omega, by omega, by omega, by omega, by omega, by omega, by omega, h9, by omega, by omega, by omega, by omega, h14⟩
  · subst e
    have hy2 : (k = 40 ∧ (loS 3 j r ≤ v ∧ v ≤ hiS σ 3 j r)) ∧ (((4 : Int), j, updR r (1) v) : mR3) = y := by
      unfold stpS at hy
      rw [if_neg (by decide)] at hy
      by_cases c1 : k = wnS 3 ∧ (wnS 3 = 40 → loS 3 j r ≤ v ∧ v ≤ hiS σ 3 j r)
      · rw [if_pos c1] at hy
        refine ⟨⟨c1.1, c1.2 rfl⟩, ?_⟩
        injection hy
      · rw [if_neg c1] at hy
        cases hy
    obtain ⟨⟨hk, hv⟩, rfl⟩ := hy2
    unfold loS hiS at hv
    simp at hv
    dsimp only
    have ne : ∀ i, i ≠ 1 → (updR r (1) v) i = r i := fun i hi => ur_ne hi
    have ev : (updR r (1) v) (1) = v := ur_at
    rw [ev, ne (0) (by omega), ne (2) (by omega), ne (3) (by omega), ne (5 + 6 * j) (by omega), ne (5 + 6 * j + 1) (by omega), ne (5 + 6 * j + 2) (by omega), ne (5 + 6 * j + 3) (by omega), ne (5 + 6 * j + 4) (by omega), ne (5 + 6 * j + 5) (by omega)]
    exact ⟨h1, by omega, by omega, by omega, by omega, by omega, by omega, by omega, fun i i0 i1 => (h9 i i0 i1).c (fun q q0 q1 => ne q (by omega)), by omega, by omega, by omega, by omega, fun i i0 i1 q q0 q1 => (ne _ (by omega)).trans (h14 i i0 i1 q q0 q1)⟩
  · subst e
    simp [stpS, wnS, loS, hiS, kpS, ixS] at hy
    obtain ⟨hk, rfl⟩ := hy
    dsimp only
    exact ⟨h1, by omega, by omega, by omega, by omega, by omega, by omega, by omega, h9, by omega, by omega, by omega, by omega, h14⟩
  · subst e
    have hy2 : (k = 40 ∧ (loS 5 j r ≤ v ∧ v ≤ hiS σ 5 j r)) ∧ (((6 : Int), j, updR r (2) v) : mR3) = y := by
      unfold stpS at hy
      rw [if_neg (by decide)] at hy
      by_cases c1 : k = wnS 5 ∧ (wnS 5 = 40 → loS 5 j r ≤ v ∧ v ≤ hiS σ 5 j r)
      · rw [if_pos c1] at hy
        refine ⟨⟨c1.1, c1.2 rfl⟩, ?_⟩
        injection hy
      · rw [if_neg c1] at hy
        cases hy
    obtain ⟨⟨hk, hv⟩, rfl⟩ := hy2
    unfold loS hiS at hv
    simp at hv
    dsimp only
    have ne : ∀ i, i ≠ 2 → (updR r (2) v) i = r i := fun i hi => ur_ne hi
    have ev : (updR r (2) v) (2) = v := ur_at
    rw [ev, ne (0) (by omega), ne (1) (by omega), ne (3) (by omega), ne (5 + 6 * j) (by omega), ne (5 + 6 * j + 1) (by omega), ne (5 + 6 * j + 2) (by omega), ne (5 + 6 * j + 3) (by omega), ne (5 + 6 * j + 4) (by omega), ne (5 + 6 * j + 5) (by omega)]
    exact ⟨h1, by omega, by omega, by omega, by omega, by omega, by omega, by omega, fun i i0 i1 => (h9 i i0 i1).c (fun q q0 q1 => ne q (by omega)), by omega, by omega, by omega, by omega, fun i i0 i1 q q0 q1 => (ne _ (by omega)).trans (h14 i i0 i1 q q0 q1)⟩
  · subst e
    simp [stpS, wnS, loS, hiS, kpS, ixS] at hy
    obtain ⟨hk, rfl⟩ := hy
    dsimp only
    exact ⟨h1, by omega, by omega, by omega, by omega, by omega, by omega, by omega, h9, by omega, by omega, by omega, by omega, h14⟩
  · subst e
    have hy2 : (k = 40 ∧ (loS 7 j r ≤ v ∧ v ≤ hiS σ 7 j r)) ∧ (((8 : Int), j, updR r (3) v) : mR3) = y := by
      unfold stpS at hy
      rw [if_neg (by decide)] at hy
      by_cases c1 : k = wnS 7 ∧ (wnS 7 = 40 → loS 7 j r ≤ v ∧ v ≤ hiS σ 7 j r)
      · rw [if_pos c1] at hy
        refine ⟨⟨c1.1, c1.2 rfl⟩, ?_⟩
        injection hy
      · rw [if_neg c1] at hy
        cases hy
    obtain ⟨⟨hk, hv⟩, rfl⟩ := hy2
    unfold loS hiS at hv
    simp at hv
    dsimp only
    have ne : ∀ i, i ≠ 3 → (updR r (3) v) i = r i := fun i hi => ur_ne hi
    have ev : (updR r (3) v) (3) = v := ur_at
    rw [ev, ne (0) (by omega), ne (1) (by omega), ne (2) (by omega), ne (5 + 6 * j) (by omega), ne (5 + 6 * j + 1) (by omega), ne (5 + 6 * j + 2) (by omega), ne (5 + 6 * j + 3) (by omega), ne (5 + 6 * j + 4) (by omega), ne (5 + 6 * j + 5) (by omega)]
    exact ⟨h1, by omega, by omega, by omega, by omega, by omega, by omega, by omega, fun i i0 i1 => (h9 i i0 i1).c (fun q q0 q1 => ne q (by omega)), by omega, by omega, by omega, by omega, fun i i0 i1 q q0 q1 => (ne _ (by omega)).trans (h14 i i0 i1 q q0 q1)⟩
  · subst e
    simp [stpS, wnS, loS, hiS, kpS, ixS] at hy
    obtain ⟨hk, rfl⟩ := hy
    dsimp only
    exact ⟨h1, by omega, by omega, by omega, by omega, by omega, by omega, by omega, h9, by omega, by omega, by omega, by omega, h14⟩
  · subst e
    simp [stpS, wnS, loS, hiS, kpS, ixS] at hy
    obtain ⟨hk, rfl⟩ := hy
    dsimp only
    exact ⟨h1, by omega, by omega, by omega, by omega, by omega, by omega, by omega, h9, by omega, by omega, by omega, by omega, h14⟩
  · subst e
    have hy2 : (k = 40 ∧ (loS 10 j r ≤ v ∧ v ≤ hiS σ 10 j r)) ∧ (((11 : Int), j, updR r (5 + 6 * j) v) : mR3) = y := by
      unfold stpS at hy
      rw [if_neg (by decide)] at hy
      by_cases c1 : k = wnS 10 ∧ (wnS 10 = 40 → loS 10 j r ≤ v ∧ v ≤ hiS σ 10 j r)
      · rw [if_pos c1] at hy
        refine ⟨⟨c1.1, c1.2 rfl⟩, ?_⟩
        injection hy with hy
        rw [← hy]
        show (((11 : Int), j, updR r (5 + 6 * j) v) : mR3) = (11, j, updR r (5 + 6 * j + 0) v)
        rw [Int.add_zero]
      · rw [if_neg c1] at hy
        cases hy
    obtain ⟨⟨hk, hv⟩, rfl⟩ := hy2
    unfold loS hiS at hv
    simp at hv
    dsimp only
    have ne : ∀ i, i ≠ 5 + 6 * j → (updR r (5 + 6 * j) v) i = r i := fun i hi => ur_ne hi
    have ev : (updR r (5 + 6 * j) v) (5 + 6 * j) = v := ur_at
    rw [ev, ne (0) (by omega), ne (1) (by omega), ne (2) (by omega), ne (3) (by omega), ne (5 + 6 * j + 1) (by omega), ne (5 + 6 * j + 2) (by omega), ne (5 + 6 * j + 3) (by omega), ne (5 + 6 * j + 4) (by omega), ne (5 + 6 * j + 5) (by omega)]
    exact ⟨h1, by omega, by omega, by omega, by omega, by omega, by omega, by omega, fun i i0 i1 => (h9 i i0 i1).c (fun q q0 q1 => ne q (by omega)), by omega, by omega, by omega, by omega, fun i i0 i1 q q0 q1 => (ne _ (by omega)).trans (h14 i i0 i1 q q0 q1)⟩
  · subst e
    simp [stpS, wnS, loS, hiS, kpS, ixS] at hy
    obtain ⟨hk, rfl⟩ := hy
    dsimp only
    exact ⟨h1, by omega, by omega, by omega, by omega, by omega, by omega, by omega, h9, by omega, by omega, by omega, by omega, h14⟩
  · subst e
    have hy2 : (k = 40 ∧ (loS 12 j r ≤ v ∧ v ≤ hiS σ 12 j r)) ∧ (((13 : Int), j, updR r (5 + 6 * j + 1) v) : mR3) = y := by
      unfold stpS at hy
      rw [if_neg (by decide)] at hy
      by_cases c1 : k = wnS 12 ∧ (wnS 12 = 40 → loS 12 j r ≤ v ∧ v ≤ hiS σ 12 j r)
      · rw [if_pos c1] at hy
        refine ⟨⟨c1.1, c1.2 rfl⟩, ?_⟩
        injection hy
      · rw [if_neg c1] at hy
        cases hy
    obtain ⟨⟨hk, hv⟩, rfl⟩ := hy2
    unfold loS hiS at hv
    simp at hv
    dsimp only
    have ne : ∀ i, i ≠ 5 + 6 * j + 1 → (updR r (5 + 6 * j + 1) v) i = r i := fun i hi => ur_ne hi
    have ev : (updR r (5 + 6 * j + 1) v) (5 + 6 * j + 1) = v := ur_at
    rw [ev, ne (0) (by omega), ne (1) (by omega), ne (2) (by omega), ne (3) (by omega), ne (5 + 6 * j) (by omega), ne (5 + 6 * j + 2) (by omega), ne (5 + 6 * j + 3) (by omega), ne (5 + 6 * j + 4) (by omega), ne (5 + 6 * j + 5) (by omega)]
    exact ⟨h1, by omega, by omega, by omega, by omega, by omega, by omega, by omega, fun i i0 i1 => (h9 i i0 i1).c (fun q q0 q1 => ne q (by omega)), by omega, by omega, by omega, by omega, fun i i0 i1 q q0 q1 => (ne _ (by omega)).trans (h14 i i0 i1 q q0 q1)⟩
  · subst e
    simp [stpS, wnS, loS, hiS, kpS, ixS] at hy
    obtain ⟨hk, rfl⟩ := hy
    dsimp only
    exact ⟨h1, by omega, by omega, by omega, by omega, by omega, by omega, by omega, h9, by omega, by omega, by omega, by omega, h14⟩
  · subst e
    have hy2 : (k = 40 ∧ (loS 14 j r ≤ v ∧ v ≤ hiS σ 14 j r)) ∧ (((15 : Int), j, updR (updR r (5 + 6 * j + 2) v) (5 + 6 * j + 3) 0) : mR3) = y := by
      unfold stpS at hy
      rw [if_neg (by decide)] at hy
      by_cases c1 : k = wnS 14 ∧ (wnS 14 = 40 → loS 14 j r ≤ v ∧ v ≤ hiS σ 14 j r)
      · rw [if_pos c1] at hy
        refine ⟨⟨c1.1, c1.2 rfl⟩, ?_⟩
        injection hy
      · rw [if_neg c1] at hy
        cases hy
    obtain ⟨⟨hk, hv⟩, rfl⟩ := hy2
    unfold loS hiS at hv
    simp at hv
    dsimp only
    have ne : ∀ i, i ≠ 5 + 6 * j + 2 → i ≠ 5 + 6 * j + 3 → (updR (updR r (5 + 6 * j + 2) v) (5 + 6 * j + 3) 0) i = r i := fun i hi hi2 => (ur_ne hi2).trans (ur_ne hi)
    have ev : (updR (updR r (5 + 6 * j + 2) v) (5 + 6 * j + 3) 0) (5 + 6 * j + 2) = v := (ur_ne (by omega)).trans ur_at
    have ed : (updR (updR r (5 + 6 * j + 2) v) (5 + 6 * j + 3) 0) (5 + 6 * j + 3) = 0 := ur_at
    rw [ev, ed, ne (0) (by omega) (by omega), ne (1) (by omega) (by omega), ne (2) (by omega) (by omega), ne (3) (by omega) (by omega), ne (5 + 6 * j) (by omega) (by omega), ne (5 + 6 * j + 1) (by omega) (by omega), ne (5 + 6 * j + 4) (by omega) (by omega), ne (5 + 6 * j + 5) (by omega) (by omega)]
    exact ⟨h1, by omega, by omega, by omega, by omega, by omega, by omega, by omega, fun i i0 i1 => (h9 i i0 i1).c (fun q q0 q1 => ne q (by omega) (by omega)), by omega, by omega, by omega, by omega, fun i i0 i1 q q0 q1 => (ne _ (by omega) (by omega)).trans (h14 i i0 i1 q q0 q1)⟩
  · subst e
    unfold stpS at hy
    rw [if_pos rfl] at hy
    by_cases c1 : k = 20 ∧ r (5 + 6 * j + 3) ≠ 1
    · rw [if_pos c1] at hy
      cases hy
      dsimp only
      have ne : ∀ i, i ≠ 5 + 6 * j + 3 → updR r (5 + 6 * j + 3) 1 i = r i := fun i hi => ur_ne hi
      rw [ur_at, ne 0 (by omega), ne 1 (by omega), ne 2 (by omega), ne 3 (by omega), ne (5 + 6 * j) (by omega), ne (5 + 6 * j + 1) (by omega), ne (5 + 6 * j + 2) (by omega), ne (5 + 6 * j + 4) (by omega), ne (5 + 6 * j + 5) (by omega)]
      exact ⟨h1, by omega, by omega, by omega, by omega, by omega, by omega, by omega, fun i i0 i1 => (h9 i i0 i1).c (fun q q0 q1 => ne q (by omega)), by omega, by omega, by omega, by omega, fun i i0 i1 q q0 q1 => (ne _ (by omega)).trans (h14 i i0 i1 q q0 q1)⟩
    · rw [if_neg c1] at hy
      by_cases c2 : k = 31 ∧ j < 2
      · rw [if_pos c2] at hy
        cases hy
        dsimp only
        refine ⟨by omega, by omega, by omega, by omega, by omega, by omega, by omega, by omega, fun i i0 i1 => ?_, by omega, by omega, by omega, by omega, fun i i0 i1 q q0 q1 => h14 i (by omega) i1 q q0 q1⟩
        by_cases c3 : i = j
        · subst c3
          exact ⟨h10 (by omega), h11 (by omega), (h12 (by omega)).1, (h12 (by omega)).2, fun u => ⟨(h13 u).1 (by omega), (h13 u).2 (by omega)⟩⟩
        · exact h9 i i0 (by omega)
      · rw [if_neg c2] at hy
        by_cases c3 : k = 50
        · rw [if_pos c3] at hy
          cases hy
          dsimp only
          exact ⟨h1, by omega, by omega, by omega, by omega, by omega, by omega, by omega, h9, by omega, by omega, by omega, by omega, h14⟩
        · rw [if_neg c3] at hy
          cases hy
  · subst e
    simp [stpS, wnS, loS, hiS, kpS, ixS] at hy
    obtain ⟨hk, rfl⟩ := hy
    dsimp only
    exact ⟨h1, by omega, by omega, by omega, by omega, by omega, by omega, by omega, h9, by omega, by omega, by omega, by omega, h14⟩
  · subst e
    have hy2 : (k = 40 ∧ (loS 17 j r ≤ v ∧ v ≤ hiS σ 17 j r)) ∧ (((18 : Int), j, updR r (5 + 6 * j + 4) v) : mR3) = y := by
      unfold stpS at hy
      rw [if_neg (by decide)] at hy
      by_cases c1 : k = wnS 17 ∧ (wnS 17 = 40 → loS 17 j r ≤ v ∧ v ≤ hiS σ 17 j r)
      · rw [if_pos c1] at hy
        refine ⟨⟨c1.1, c1.2 rfl⟩, ?_⟩
        injection hy
      · rw [if_neg c1] at hy
        cases hy
    obtain ⟨⟨hk, hv⟩, rfl⟩ := hy2
    unfold loS hiS at hv
    simp at hv
    dsimp only
    have ne : ∀ i, i ≠ 5 + 6 * j + 4 → (updR r (5 + 6 * j + 4) v) i = r i := fun i hi => ur_ne hi
    have ev : (updR r (5 + 6 * j + 4) v) (5 + 6 * j + 4) = v := ur_at
    rw [ev, ne (0) (by omega), ne (1) (by omega), ne (2) (by omega), ne (3) (by omega), ne (5 + 6 * j) (by omega), ne (5 + 6 * j + 1) (by omega), ne (5 + 6 * j + 2) (by omega), ne (5 + 6 * j + 3) (by omega), ne (5 + 6 * j + 5) (by omega)]
    exact ⟨h1, by omega, by omega, by omega, by omega, by omega, by omega, by omega, fun i i0 i1 => (h9 i i0 i1).c (fun q q0 q1 => ne q (by omega)), by omega, by omega, by omega, by omega, fun i i0 i1 q q0 q1 => (ne _ (by omega)).trans (h14 i i0 i1 q q0 q1)⟩
  · subst e
    simp [stpS, wnS, loS, hiS, kpS, ixS] at hy
    obtain ⟨hk, rfl⟩ := hy
    dsimp only
    exact ⟨h1, by omega, by omega, by omega, by omega, by omega, by omega, by omega, h9, by omega, by omega, by omega, by omega, h14⟩
  · subst e
    have hy2 : (k = 40 ∧ (loS 19 j r ≤ v ∧ v ≤ hiS σ 19 j r)) ∧ (((20 : Int), j, updR r (5 + 6 * j + 5) v) : mR3) = y := by
      unfold stpS at hy
      rw [if_neg (by decide)] at hy
      by_cases c1 : k = wnS 19 ∧ (wnS 19 = 40 → loS 19 j r ≤ v ∧ v ≤ hiS σ 19 j r)
      · rw [if_pos c1] at hy
        refine ⟨⟨c1.1, c1.2 rfl⟩, ?_⟩
        injection hy
      · rw [if_neg c1] at hy
        cases hy
    obtain ⟨⟨hk, hv⟩, rfl⟩ := hy2
    unfold loS hiS at hv
    simp at hv
    dsimp only
    have ne : ∀ i, i ≠ 5 + 6 * j + 5 → (updR r (5 + 6 * j + 5) v) i = r i := fun i hi => ur_ne hi
    have ev : (updR r (5 + 6 * j + 5) v) (5 + 6 * j + 5) = v := ur_at
    rw [ev, ne (0) (by omega), ne (1) (by omega), ne (2) (by omega), ne (3) (by omega), ne (5 + 6 * j) (by omega), ne (5 + 6 * j + 1) (by omega), ne (5 + 6 * j + 2) (by omega), ne (5 + 6 * j + 3) (by omega), ne (5 + 6 * j + 4) (by omega)]
    exact ⟨h1, by omega, by omega, by omega, by omega, by omega, by omega, by omega, fun i i0 i1 => (h9 i i0 i1).c (fun q q0 q1 => ne q (by omega)), by omega, by omega, by omega, by omega, fun i i0 i1 q q0 q1 => (ne _ (by omega)).trans (h14 i i0 i1 q q0 q1)⟩
  · subst e
    simp [stpS, wnS, loS, hiS, kpS, ixS] at hy
    obtain ⟨hk, rfl⟩ := hy
    dsimp only
    exact ⟨h1, by omega, by omega, by omega, by omega, by omega, by omega, by omega, h9, by omega, by omega, by omega, by omega, h14⟩
