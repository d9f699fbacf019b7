/-! the best night: alerts -/
/-- the most that can stand beside what is taken -/
def MXc (σ : Nat → Int → Int) (tk : Nat) (a : Int) : Prop := (∃ s c, s < 2 ^ nP σ ∧ solS σ (nP σ) 0 s tk c ∧ sB (wS σ) s (nP σ) = a) ∧ ∀ s c, s < 2 ^ nP σ → solS σ (nP σ) 0 s tk c → sB (wS σ) s (nP σ) ≤ a
theorem MXc.one {σ : Nat → Int → Int} {tk : Nat} {a b : Int} (h : MXc σ tk a) (h' : MXc σ tk b) : a = b := by
  obtain ⟨⟨s, c, s1, s2, s3⟩, h2⟩ := h
  obtain ⟨⟨t, d, t1, t2, t3⟩, g2⟩ := h'
  have a1 := g2 s c s1 s2
  have a2 := h2 t d t1 t2
  omega
def brA (σ : Nat → Int → Int) (x i p k : Nat) : Prop := ¬ goN (isS σ p) (mkQ σ p k) i x
def dC (σ : Nat → Int → Int) (s : Nat) (c : Nat → Nat) : Nat → Nat := fun q => if s.testBit q = true then c q else lnS σ q
theorem dC_p {σ : Nat → Int → Int} {s q : Nat} {c : Nat → Nat} (h : s.testBit q = true) : dC σ s c q = c q := if_pos h
theorem dC_n {σ : Nat → Int → Int} {s q : Nat} {c : Nat → Nat} (h : ¬ s.testBit q = true) : dC σ s c q = lnS σ q := if_neg h
theorem dC_b {σ : Nat → Int → Int} {s q : Nat} {c : Nat → Nat} (h : dC σ s c q < lnS σ q) : s.testBit q = true := Classical.byContradiction (fun u => by rw [dC_n u] at h; omega)
theorem ok_of_sol {σ : Nat → Int → Int} (hN : WFn σ) (hP : WFp σ) {br : Nat → Nat → Prop} {s tk : Nat} {c : Nat → Nat} (h : solS σ (nP σ) 0 s tk c) (hb : ∀ q, q < nP σ → s.testBit q = true → ¬ br q (c q)) : okS σ br (nP σ) (dC σ s c) ∧ WSc σ (dC σ s c) = sB (wS σ) s (nP σ) := by
  obtain ⟨h1, h2⟩ := (sol_iff (mk_4 hN hP) (is_b hP) (nP σ) 0 s tk c).mp h
  refine ⟨fun p hp => ⟨?_, fun u => ?_⟩, ?_⟩
  · by_cases b : s.testBit p = true
    · rw [dC_p b]; have := (h1 p (by omega) (by omega) b).1; omega
    · rw [dC_n b]; exact Nat.le_refl _
  · have b := dC_b u
    rw [dC_p b]
    refine ⟨hb p hp b, fun q hq v => ?_⟩
    have b2 := dC_b v
    rw [dC_p b2]
    exact go_sym (h2 q p (by omega) hq (by omega) b2 b)
  · have key : ∀ k, k ≤ nP σ → sumC (lnS σ) (wS σ) (dC σ s c) k = sB (wS σ) s k := fun k => by
      induction k with
      | zero => intro _; rfl
      | succ k ih =>
        intro hk
        rw [sB_s, ← ih (by omega)]
        show _ + (if dC σ s c k < lnS σ k then wS σ k else 0) = _
        by_cases b : s.testBit k = true
        · rw [if_pos b, if_pos (by rw [dC_p b]; exact (h1 k (by omega) (by omega) b).1)]
        · rw [if_neg b, if_neg (fun u => b (dC_b u))]
    exact key (nP σ) (Nat.le_refl _)
theorem sB_sn {σ : Nat → Int → Int} {f : Nat → Int} {e : Nat → Nat} {n : Nat} : ∀ k, k ≤ n → sB f (setN σ e n) k = sumC (lnS σ) f e k
  | 0, _ => rfl
  | k + 1, hk => by
    rw [sB_s, sB_sn k (by omega)]
    show _ = _ + (if e k < lnS σ k then f k else 0)
    by_cases b : e k < lnS σ k
    · rw [if_pos b, if_pos ((sn_bit n).mpr ⟨by omega, b⟩)]
    · rw [if_neg b, if_neg (fun u => b ((sn_bit n).mp u).2)]
theorem isB_w {n : Nat} {ok : (Nat → Nat) → Prop} {σ : Nat → Int → Int} {S : (Nat → Nat) → Int} {e d : Nat → Nat} (hn : n = nP σ) (h : IsB n ok (WSc σ) S e) (hd : ok d) : WSc σ d ≤ WSc σ e := by
  subst hn
  rcases h.2 d hd with u | u
  · exact Int.le_of_eq (sumC_eq (nP σ) u).symm
  · exact bet_w u
theorem mx_ref {σ : Nat → Int → Int} (hN : WFn σ) (hP : WFp σ) {x i : Nat} {e : Nat → Nat} (hx : x < 4096) (hi : i < 3) (h : IsB (nP σ) (okS σ (brA σ x i) (nP σ)) (WSc σ) (SSc σ) e) : MXc σ (tkN x i) (WSc σ e) := by
  refine ⟨⟨setN σ e (nP σ), e, sn_lt _, (sol_iff (mk_4 hN hP) (is_b hP) (nP σ) 0 _ _ _).mpr ⟨fun q q1 q2 hq => ?_, fun q s q1 q2 q3 hq hs => ?_⟩, sB_sn _ (Nat.le_refl _)⟩, fun s c hs hc => ?_⟩
  · have a := ((sn_bit _).mp hq).2
    refine ⟨a, (fre_tk hx (mk_4 hN hP q (e q) a) (is_b hP q)).mpr (go_sym ?_)⟩
    exact Classical.byContradiction (fun u => ((h.1 q (by omega)).2 a).1 u)
  · have a1 := ((sn_bit _).mp hq).2
    have a2 := ((sn_bit _).mp hs).2
    exact go_sym (((h.1 s (by omega)).2 a2).2 q q2 a1)
  · obtain ⟨h1, -⟩ := (sol_iff (mk_4 hN hP) (is_b hP) (nP σ) 0 s _ c).mp hc
    obtain ⟨o1, o2⟩ := ok_of_sol hN hP (br := brA σ x i) hc (fun q hq b u => by
      obtain ⟨a1, a2⟩ := h1 q (by omega) (by omega) b
      exact u (go_sym ((fre_tk hx (mk_4 hN hP q (c q) a1) (is_b hP q)).mp a2)))
    rw [← o2]
    exact isB_w rfl h o1
theorem mx_le {σ : Nat → Int → Int} (hN : WFn σ) (hP : WFp σ) {tk : Nat} {a : Int} {e : Nat → Nat} (h : MXc σ tk a) (he : IsB (nP σ) (okS σ (fun _ _ => False) (nP σ)) (WSc σ) (SSc σ) e) : a ≤ WSc σ e := by
  obtain ⟨⟨s, c, s1, s2, s3⟩, -⟩ := h
  obtain ⟨o1, o2⟩ := ok_of_sol hN hP (br := fun _ _ => False) s2 (fun q hq b u => u)
  rw [← s3, ← o2]
  exact isB_w rfl he o1
/-- the begins from lo up to hi were looked at -/
def ALp (at_ : Nat → Prop) (mx : Nat → Int → Prop) (W : Int) (lo hi : Nat) (beg loss : Int) : Prop := (beg = -1 ∧ loss = -1 ∧ ∀ b, lo ≤ b → b < hi → ¬ at_ b) ∨ ∃ b : Nat, beg = (b : Int) ∧ lo ≤ b ∧ b < hi ∧ at_ b ∧ mx b (W - loss) ∧ 0 ≤ loss ∧ ∀ b' a, lo ≤ b' → b' < hi → at_ b' → mx b' a → loss ≤ W - a ∧ (b' < b → loss < W - a)
section ALP
variable {at_ : Nat → Prop} {mx : Nat → Int → Prop} {W : Int} {lo hi : Nat} {beg loss : Int}
theorem ALp.z : ALp at_ mx W lo lo (-1) (-1) := Or.inl ⟨rfl, rfl, fun b h1 h2 => absurd h2 (by omega)⟩
theorem ALp.skip (h : ALp at_ mx W lo hi beg loss) (n : ¬ at_ hi) : ALp at_ mx W lo (hi + 1) beg loss := by
  rcases h with ⟨h1, h2, h3⟩ | ⟨b, h1, h2, h3, h4, h5, h6, h7⟩
  · refine Or.inl ⟨h1, h2, fun b b1 b2 => ?_⟩
    by_cases c : b = hi
    · subst c; exact n
    · exact h3 b b1 (by omega)
  · refine Or.inr ⟨b, h1, h2, by omega, h4, h5, h6, fun b' a b1 b2 b3 b4 => ?_⟩
    by_cases c : b' = hi
    · subst c; exact (n b3).elim
    · exact h7 b' a b1 (by omega) b3 b4
theorem ALp.take {a : Int} (hl : lo ≤ hi) (one : ∀ b a a', mx b a → mx b a' → a = a') (h : ALp at_ mx W lo hi beg loss) (n : at_ hi) (m : mx hi a) (c : beg = -1 ∨ W - a < loss) (w : a ≤ W) : ALp at_ mx W lo (hi + 1) (hi : Int) (W - a) := by
  refine Or.inr ⟨hi, rfl, hl, Nat.lt_succ_self hi, n, by rw [show W - (W - a) = a by omega]; exact m, by omega, fun b' a' b1 b2 b3 b4 => ?_⟩
  by_cases e : b' = hi
  · subst e
    have := one b' a a' m b4
    omega
  · rcases h with ⟨h1, h2, h3⟩ | ⟨b, h1, h2, h3, h4, h5, h6, h7⟩
    · exact (h3 b' b1 (by omega) b3).elim
    · have := (h7 b' a' b1 (by omega) b3 b4).1
      rcases c with c | c
      · omega
      · omega
theorem ALp.keep {a : Int} (one : ∀ b a a', mx b a → mx b a' → a = a') (h : ALp at_ mx W lo hi beg loss) (m : mx hi a) (c : beg ≠ -1) (w : loss ≤ W - a) : ALp at_ mx W lo (hi + 1) beg loss := by
  rcases h with ⟨h1, h2, h3⟩ | ⟨b, h1, h2, h3, h4, h5, h6, h7⟩
  · exact (c h1).elim
  · refine Or.inr ⟨b, h1, h2, by omega, h4, h5, h6, fun b' a' b1 b2 b3 b4 => ?_⟩
    by_cases e : b' = hi
    · subst e
      have := one b' a a' m b4
      omega
    · exact h7 b' a' b1 (by omega) b3 b4
theorem ALp.stop {hi' : Nat} (le : ∀ b a, mx b a → a ≤ W) (h : ALp at_ mx W lo hi beg loss) (c : loss = 0) (hh : hi ≤ hi') : ALp at_ mx W lo hi' beg loss := by
  rcases h with ⟨h1, h2, h3⟩ | ⟨b, h1, h2, h3, h4, h5, h6, h7⟩
  · omega
  · refine Or.inr ⟨b, h1, h2, by omega, h4, h5, h6, fun b' a' b1 b2 b3 b4 => ?_⟩
    have := le b' a' b4
    by_cases e : b' < hi
    · exact h7 b' a' b1 e b3 b4
    · omega
theorem ALp.one {beg' loss' : Int} (h : ALp at_ mx W lo hi beg loss) (h' : ALp at_ mx W lo hi beg' loss') : beg = beg' ∧ loss = loss' := by
  rcases h with ⟨h1, h2, h3⟩ | ⟨b, h1, h2, h3, h4, h5, h6, h7⟩ <;> rcases h' with ⟨g1, g2, g3⟩ | ⟨b', g1, g2, g3, g4, g5, g6, g7⟩
  · omega
  · exact (h3 b' g2 g3 g4).elim
  · exact (g3 b h2 h3 h4).elim
  · have a1 := h7 b' _ g2 g3 g4 g5
    have a2 := g7 b _ h2 h3 h4 h5
    omega
end ALP
