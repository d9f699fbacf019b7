theorem st_148 {σ w : Nat → Int → Int} {p s z : Int} (h : stOK σ w p) : stOK σ (upI w 148 s z) p := by
  unfold stOK at h ⊢
  rw [up_ne (by decide), up_ne (by decide), up_ne (by decide)]
  exact h
theorem dn_148 {σ w : Nat → Int → Int} {s z : Int} (k : Nat) : doneS σ (upI w 148 s z) k = doneS σ w k := done_congr k (fun p _ _ => by rw [up_ne (by decide)])
theorem dn_146 {σ w : Nat → Int → Int} {s z : Int} (k : Nat) : doneS σ (upI w 146 s z) k = doneS σ w k := done_congr k (fun p _ _ => by rw [up_ne (by decide)])
theorem PlWF.st {σ : Nat → Int → Int} {p j : Int} (h : PlWF σ p) (h0 : 0 ≤ j) (h1 : j < pf σ p 4) : j < 3 ∧ (1 ≤ ps σ p j 0 ∧ ps σ p j 0 ≤ 4) ∧ (0 ≤ ps σ p j 1 ∧ ps σ p j 1 ≤ 3) ∧ (0 ≤ ps σ p j 2 ∧ ps σ p j 2 ≤ 8) ∧ (0 ≤ ps σ p j 3 ∧ ps σ p j 3 ≤ 1) ∧ (1 ≤ j → (0 ≤ ps σ p j 4 ∧ ps σ p j 4 ≤ 6) ∧ (ps σ p j 4 ≤ ps σ p j 5 ∧ ps σ p j 5 ≤ ps σ p j 4 + 3)) := by
  obtain ⟨-, -, -, -, h4, h5⟩ := h
  have := (h5 j h0 (by omega)).1 h1
  exact ⟨by omega, this⟩
theorem beg_OK {σ : Nat → Int → Int} {rule wh s : Int} {x : mW4} (hp : WFp σ) (hx : wOK σ x) : wOK σ (begS σ rule wh s x) := by
  obtain ⟨⟨hp1, hp2⟩, hp3⟩ := hp
  obtain ⟨h1, h2, h3, h4⟩ := id hx
  unfold begS
  by_cases c1 : x.2.2.1 = -1
  · rw [if_pos c1]
    have hs1 : ∀ p, 0 ≤ p → p < σ 127 21 → stOK σ (lateS σ s x.1 (σ 127 21).toNat) p := fun p q1 q2 => late_st (hp3 p q1 q2).2.2.2.2.1.1 (h1 p q1 q2) _
    have hd1 : x.2.2.2.2 = doneS σ (lateS σ s x.1 (σ 127 21).toNat) (σ 127 21).toNat := by rw [late_done]; exact h4
    have hpk := pick_may (σ := σ) (w := lateS σ s x.1 (σ 127 21).toNat) (rule := rule) (wh := wh) (s := s) (σ 127 21).toNat
    dsimp only
    generalize lateS σ s x.1 (σ 127 21).toNat = w1 at hs1 hd1 hpk ⊢
    generalize pickS σ w1 rule wh s (σ 127 21).toNat = t at hpk ⊢
    by_cases c2 : t = -1
    · rw [if_pos c2]
      exact ⟨fun p q1 q2 => st_148 (hs1 p q1 q2), h2, Or.inl rfl, by rw [dn_148]; exact hd1⟩
    · rw [if_neg c2]
      rcases hpk with hpk | ⟨t0, t1, hm⟩
      · exact absurd hpk c2
      · have ht : t < σ 127 21 := by omega
        have hpt := hp3 t t0 ht
        by_cases c3 : pf σ t 1 = x.2.1
        · rw [if_pos c3]
          have hst := (hs1 t t0 ht).1
          have hm1 := hm.1
          have hb : 0 ≤ w1 145 t ∧ w1 145 t < pf σ t 4 := by omega
          have := (hpt.st hb.1 hb.2).2.1
          exact ⟨hs1, h2, Or.inr ⟨t0, ht, hb, this⟩, hd1⟩
        · rw [if_neg c3]
          exact ⟨fun p q1 q2 => st_148 (hs1 p q1 q2), hpt.2.1, Or.inl rfl, by rw [dn_148]; exact hd1⟩
  · rw [if_neg c1]
    exact hx
theorem go_OK {σ : Nat → Int → Int} {wh s : Int} {x : mW4} (hp : WFp σ) (hs0 : 0 ≤ s) (hs1 : s < 12) (hx : wOK σ x) : wOK σ (goS σ wh s x) := by
  obtain ⟨⟨hp1, hp2⟩, hp3⟩ := hp
  obtain ⟨h1, h2, h3, h4⟩ := id hx
  unfold goS
  by_cases c1 : x.2.2.1 = -1
  · rw [if_pos c1]
    exact hx
  · rw [if_neg c1]
    rcases h3 with h3 | ⟨g0, g1, ⟨g2, g3⟩, g4, g5⟩
    · exact absurd h3 c1
    · have hpg := hp3 _ g0 g1
      obtain ⟨w, ins, go, rest, sc⟩ := x
      dsimp only at *
      by_cases c2 : fitW σ w wh s go
      · rw [if_pos c2]
        by_cases c3 : rest - 1 = 0
        · rw [if_pos c3]
          refine ⟨fun p q1 q2 => ?_, h2, Or.inl rfl, ?_⟩
          · have hst := h1 p q1 q2
            unfold stOK at hst ⊢
            dsimp only
            rw [up_ne (a' := 146) (by decide), up_ne (a' := 147) (by decide), up_ne (a' := 147) (by decide), up_ne (a' := 147) (by decide)]
            by_cases c4 : p = go
            · subst c4
              rw [up_at, up_at]
              refine ⟨?_, by omega, hst.2.2⟩
              have := hpg.2.2.2.2.1
              by_cases c5 : w 145 p + 1 = pf σ p 4
              · rw [if_pos c5]; omega
              · rw [if_neg c5]; omega
            · rw [up_nk c4, up_ne (by decide), up_ne (by decide), up_nk c4, up_ne (by decide)]
              exact hst
          · dsimp only
            rw [done_set (by rw [up_ne (by decide), up_ne (by decide)]; have := hpg.2.2.2.2.1; omega) g0, dn_146, dn_148, ← h4]
            have := hpg.2.2.2.2.1
            by_cases c5 : w 145 go + 1 = pf σ go 4
            · rw [if_pos c5, if_pos c5, if_pos ⟨rfl, by omega⟩]
            · rw [if_neg c5, if_neg c5, if_neg (by omega)]
        · rw [if_neg c3]
          exact ⟨fun p q1 q2 => st_148 (h1 p q1 q2), h2, Or.inr ⟨g0, g1, ⟨by dsimp only; rw [up_ne (by decide)]; exact g2, by dsimp only; rw [up_ne (by decide)]; exact g3⟩, by dsimp only; omega, by dsimp only; omega⟩, by rw [dn_148]; exact h4⟩
      · rw [if_neg c2]
        refine ⟨fun p q1 q2 => brk_st (hp3 p q1 q2).2.2.2.2.1.1 (st_148 (h1 p q1 q2)), h2, Or.inl rfl, ?_⟩
        dsimp only
        rw [brk_done (by rw [up_ne (by decide)]; have := hpg.2.2.2.2.1; omega), dn_148]
        exact h4
theorem run_OK {σ : Nat → Int → Int} {rule wh : Int} (hp : WFp σ) : ∀ k : Nat, k ≤ 12 → wOK σ (runS σ rule wh k)
  | 0, _ => by
    refine ⟨fun p q1 q2 => ?_, ⟨by show (0 : Int) ≤ 0; decide, by show (0 : Int) ≤ 2; decide⟩, Or.inl rfl, ?_⟩
    · have := (hp.2 p q1 q2).2.2.2.2.1.1
      exact ⟨Or.inl ⟨Int.le_refl _, by show (0 : Int) < _; omega⟩, ⟨Int.le_refl _, by show (0 : Int) ≤ 12; decide⟩, Or.inl rfl⟩
    · show (0 : Int) = doneS σ (fun _ _ => 0) _
      have key : ∀ k : Nat, doneS σ (fun _ _ => 0) k = 0 := fun k => by
        induction k with
        | zero => rfl
        | succ k ih => unfold doneS; rw [ih, if_neg (by decide)]; rfl
      exact (key _).symm
  | k + 1, h => go_OK hp (by omega) (by omega) (beg_OK hp (run_OK hp k (by omega)))
theorem done_b {σ w : Nat → Int → Int} (hp : WFp σ) : ∀ k : Nat, (k : Int) ≤ σ 127 21 → 0 ≤ doneS σ w k ∧ doneS σ w k ≤ 99 * k
  | 0, _ => ⟨Int.le_refl _, Int.le_refl _⟩
  | k + 1, h => by
    have ih := done_b (w := w) hp k (by omega)
    have hk := (hp.2 k (by omega) (by omega)).2.2.2.1
    unfold doneS
    split <;> omega
