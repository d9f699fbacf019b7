/-! choices: for each plan a number; as many as it has placements means none -/
def lexL (n : Nat) (c d : Nat → Nat) : Prop := ∃ p, p < n ∧ c p < d p ∧ ∀ q, q < p → c q = d q
def eqN (n : Nat) (c d : Nat → Nat) : Prop := ∀ q, q < n → c q = d q
theorem lex_tri {c d : Nat → Nat} : ∀ n, eqN n c d ∨ lexL n c d ∨ lexL n d c
  | 0 => Or.inl (fun q h => absurd h (by omega))
  | n + 1 => by
    rcases lex_tri (c := c) (d := d) n with h | ⟨p, h1, h2, h3⟩ | ⟨p, h1, h2, h3⟩
    · rcases Nat.lt_trichotomy (c n) (d n) with e | e | e
      · exact Or.inr (Or.inl ⟨n, by omega, e, fun q hq => h q hq⟩)
      · refine Or.inl (fun q hq => ?_)
        by_cases c1 : q = n
        · rw [c1]; exact e
        · exact h q (by omega)
      · exact Or.inr (Or.inr ⟨n, by omega, e, fun q hq => (h q hq).symm⟩)
    · exact Or.inr (Or.inl ⟨p, by omega, h2, h3⟩)
    · exact Or.inr (Or.inr ⟨p, by omega, h2, h3⟩)
theorem lex_trans {n : Nat} {c d e : Nat → Nat} (h : lexL n c d) (h' : lexL n d e) : lexL n c e := by
  obtain ⟨p, p1, p2, p3⟩ := h
  obtain ⟨q, q1, q2, q3⟩ := h'
  rcases Nat.lt_trichotomy p q with u | u | u
  · exact ⟨p, p1, by rw [← q3 p u]; exact p2, fun r hr => (p3 r hr).trans (q3 r (by omega))⟩
  · subst u
    exact ⟨p, p1, by omega, fun r hr => (p3 r hr).trans (q3 r hr)⟩
  · exact ⟨q, q1, by rw [p3 q u]; exact q2, fun r hr => (p3 r (by omega)).trans (q3 r hr)⟩
theorem lex_irr {n : Nat} {c : Nat → Nat} (h : lexL n c c) : False := by
  obtain ⟨p, _, p2, _⟩ := h
  omega
theorem lex_eq {n : Nat} {c d e : Nat → Nat} (h : lexL n c d) (h' : eqN n d e) : lexL n c e := by
  obtain ⟨p, p1, p2, p3⟩ := h
  exact ⟨p, p1, by rw [← h' p p1]; exact p2, fun q hq => (p3 q hq).trans (h' q (by omega))⟩
theorem eq_lex {n : Nat} {c d e : Nat → Nat} (h : eqN n c d) (h' : lexL n d e) : lexL n c e := by
  obtain ⟨p, p1, p2, p3⟩ := h'
  exact ⟨p, p1, by rw [h p p1]; exact p2, fun q hq => (h q (by omega)).trans (p3 q hq)⟩
def betL (n : Nat) (W S : (Nat → Nat) → Int) (c d : Nat → Nat) : Prop := W d < W c ∨ (W c = W d ∧ (S c < S d ∨ (S c = S d ∧ lexL n c d)))
theorem bet_trans {n : Nat} {W S : (Nat → Nat) → Int} {c d e : Nat → Nat} (h : betL n W S c d) (h' : betL n W S d e) : betL n W S c e := by
  unfold betL at h h' ⊢
  rcases h with h | ⟨h1, h | ⟨h2, h⟩⟩ <;> rcases h' with h' | ⟨h1', h' | ⟨h2', h'⟩⟩
  · exact Or.inl (by omega)
  · exact Or.inl (by omega)
  · exact Or.inl (by omega)
  · exact Or.inl (by omega)
  · exact Or.inr ⟨by omega, Or.inl (by omega)⟩
  · exact Or.inr ⟨by omega, Or.inl (by omega)⟩
  · exact Or.inl (by omega)
  · exact Or.inr ⟨by omega, Or.inl (by omega)⟩
  · exact Or.inr ⟨by omega, Or.inr ⟨by omega, lex_trans h h'⟩⟩
theorem bet_irr {n : Nat} {W S : (Nat → Nat) → Int} {c : Nat → Nat} (h : betL n W S c c) : False := by
  unfold betL at h
  rcases h with h | ⟨_, h | ⟨_, h⟩⟩
  · omega
  · omega
  · exact lex_irr h
theorem bet_tri {n : Nat} {W S : (Nat → Nat) → Int} {c d : Nat → Nat} : eqN n c d ∨ betL n W S c d ∨ betL n W S d c := by
  unfold betL
  rcases Int.lt_trichotomy (W c) (W d) with u | u | u
  · exact Or.inr (Or.inr (Or.inl u))
  · rcases Int.lt_trichotomy (S c) (S d) with v | v | v
    · exact Or.inr (Or.inl (Or.inr ⟨u, Or.inl v⟩))
    · rcases lex_tri (c := c) (d := d) n with w | w | w
      · exact Or.inl w
      · exact Or.inr (Or.inl (Or.inr ⟨u, Or.inr ⟨v, w⟩⟩))
      · exact Or.inr (Or.inr (Or.inr ⟨u.symm, Or.inr ⟨v.symm, w⟩⟩))
    · exact Or.inr (Or.inr (Or.inr ⟨u.symm, Or.inl v⟩))
  · exact Or.inr (Or.inl (Or.inl u))
def IsB (n : Nat) (ok : (Nat → Nat) → Prop) (W S : (Nat → Nat) → Int) (c : Nat → Nat) : Prop := ok c ∧ ∀ d, ok d → eqN n c d ∨ betL n W S c d
theorem isB_one {n : Nat} {ok : (Nat → Nat) → Prop} {W S : (Nat → Nat) → Int} {c d : Nat → Nat} (h : IsB n ok W S c) (h' : IsB n ok W S d) : eqN n c d := by
  rcases h.2 d h'.1 with u | u
  · exact u
  · rcases h'.2 c h.1 with v | v
    · exact fun q hq => (v q hq).symm
    · exact (bet_irr (bet_trans u v)).elim
/-! a search in order, that keeps the first of the best -/
def bwO (W : (Nat → Nat) → Int) : Option (Nat → Nat) → Int
  | none => -1
  | some c => W c
def bsO (S : (Nat → Nat) → Int) : Option (Nat → Nat) → Int
  | none => 0
  | some c => S c
theorem bw_s {W : (Nat → Nat) → Int} {c : Nat → Nat} : bwO W (some c) = W c := rfl
theorem bs_s {S : (Nat → Nat) → Int} {c : Nat → Nat} : bsO S (some c) = S c := rfl
def bt2 (W S : (Nat → Nat) → Int) (c : Nat → Nat) (B : Option (Nat → Nat)) : Prop := bwO W B < W c ∨ (W c = bwO W B ∧ S c < bsO S B)
def Pst (n : Nat) (ok : (Nat → Nat) → Prop) (W S : (Nat → Nat) → Int) (T : (Nat → Nat) → Prop) (B B2 : Option (Nat → Nat)) : Prop :=
  (B2 = B ∧ ∀ c, T c → ok c → ¬ bt2 W S c B) ∨ ∃ e, B2 = some e ∧ T e ∧ ok e ∧ bt2 W S e B ∧ ∀ c, T c → ok c → ¬ bt2 W S c (some e) ∧ (W c = W e → S c = S e → ¬ lexL n c e)
theorem pst_seq {n : Nat} {ok : (Nat → Nat) → Prop} {W S : (Nat → Nat) → Int} {T T1 T2 : (Nat → Nat) → Prop} {B B1 B2 : Option (Nat → Nat)} (hT : ∀ c, T c → ok c → T1 c ∨ T2 c) (h1 : ∀ c, T1 c → T c) (h2 : ∀ c, T2 c → T c) (hl : ∀ c d, T1 c → T2 d → ¬ lexL n d c) (p1 : Pst n ok W S T1 B B1) (p2 : Pst n ok W S T2 B1 B2) : Pst n ok W S T B B2 := by
  rcases p1 with ⟨e1, q1⟩ | ⟨x, e1, x1, x2, x3, x4⟩
  · subst e1
    rcases p2 with ⟨e2, q2⟩ | ⟨y, e2, y1, y2, y3, y4⟩
    · exact Or.inl ⟨e2, fun c hc ho => (hT c hc ho).elim (fun u => q1 c u ho) (fun u => q2 c u ho)⟩
    · refine Or.inr ⟨y, e2, h2 y y1, y2, y3, fun c hc ho => ?_⟩
      rcases hT c hc ho with u | u
      · have := q1 c u ho
        unfold bt2 at *
        simp only [bw_s, bs_s] at *
        refine ⟨fun v => ?_, fun v1 v2 _ => ?_⟩
        · exact this (by omega)
        · exact this (by omega)
      · exact y4 c u ho
  · subst e1
    rcases p2 with ⟨e2, q2⟩ | ⟨y, e2, y1, y2, y3, y4⟩
    · refine Or.inr ⟨x, e2, h1 x x1, x2, x3, fun c hc ho => ?_⟩
      rcases hT c hc ho with u | u
      · exact x4 c u ho
      · exact ⟨q2 c u ho, fun _ _ => hl x c x1 u⟩
    · refine Or.inr ⟨y, e2, h2 y y1, y2, ?_, fun c hc ho => ?_⟩
      · unfold bt2 at *
        simp only [bw_s, bs_s] at *
        omega
      · rcases hT c hc ho with u | u
        · have := (x4 c u ho).1
          unfold bt2 at *
          simp only [bw_s, bs_s] at *
          refine ⟨fun v => ?_, fun v1 v2 _ => ?_⟩
          · exact this (by omega)
          · exact this (by omega)
        · exact y4 c u ho
theorem pst_no {n : Nat} {ok : (Nat → Nat) → Prop} {W S : (Nat → Nat) → Int} {T : (Nat → Nat) → Prop} {B : Option (Nat → Nat)} (h : ∀ c, T c → ok c → ¬ bt2 W S c B) : Pst n ok W S T B B := Or.inl ⟨rfl, h⟩
theorem pst_all {n : Nat} {ok : (Nat → Nat) → Prop} {W S : (Nat → Nat) → Int} {T : (Nat → Nat) → Prop} {B2 : Option (Nat → Nat)} (hT : ∀ c, ok c → T c) {c0 : Nat → Nat} (h0 : ok c0) (hW : 0 ≤ W c0) (h : Pst n ok W S T none B2) : ∃ e, B2 = some e ∧ IsB n ok W S e := by
  rcases h with ⟨e1, q1⟩ | ⟨x, e1, x1, x2, x3, x4⟩
  · exact absurd (Or.inl (show (-1 : Int) < W c0 by omega)) (q1 c0 (hT c0 h0) h0)
  · refine ⟨x, e1, x2, fun d hd => ?_⟩
    obtain ⟨y1, y2⟩ := x4 d (hT d hd) hd
    rcases bet_tri (n := n) (W := W) (S := S) (c := x) (d := d) with u | u | u
    · exact Or.inl u
    · exact Or.inr u
    · unfold betL at u
      unfold bt2 at y1
      simp only [bw_s, bs_s] at y1
      rcases u with u | ⟨u1, u | ⟨u2, u⟩⟩
      · exact absurd (Or.inl u) y1
      · exact absurd (Or.inr ⟨u1, u⟩) y1
      · exact absurd u (y2 u1 u2)
/-! sums over the plans that are in -/
def sumC (ln : Nat → Nat) (f : Nat → Int) (c : Nat → Nat) : Nat → Int
  | 0 => 0
  | k + 1 => sumC ln f c k + (if c k < ln k then f k else 0)
def totC (f : Nat → Int) : Nat → Int
  | 0 => 0
  | k + 1 => totC f k + f k
theorem sum_c {ln : Nat → Nat} {f : Nat → Int} {c : Nat → Nat} {k : Nat} : sumC ln f c (k + 1) = sumC ln f c k + (if c k < ln k then f k else 0) := rfl
theorem tot_c {f : Nat → Int} {k : Nat} : totC f (k + 1) = totC f k + f k := rfl
theorem sum_eq {ln : Nat → Nat} {f : Nat → Int} {c d : Nat → Nat} : ∀ n, eqN n c d → sumC ln f c n = sumC ln f d n
  | 0, _ => rfl
  | k + 1, h => by
    rw [sum_c, sum_c, sum_eq k (fun q hq => h q (by omega)), h k (by omega)]
theorem sum_nn {ln : Nat → Nat} {f : Nat → Int} {c : Nat → Nat} : ∀ n, (∀ q, q < n → 0 ≤ f q) → 0 ≤ sumC ln f c n
  | 0, _ => Int.le_refl _
  | k + 1, h => by
    have := sum_nn (ln := ln) (c := c) k (fun q hq => h q (by omega))
    have h2 := h k (by omega)
    rw [sum_c]
    split <;> omega
theorem sum_suf {ln : Nat → Nat} {w s : Nat → Int} {c : Nat → Nat} {p : Nat} : ∀ k, (∀ q, q < p + k → 1 ≤ w q) → sumC ln w c (p + k) - sumC ln w c p ≤ totC w (p + k) - totC w p ∧ (sumC ln w c (p + k) - sumC ln w c p = totC w (p + k) - totC w p → sumC ln s c (p + k) - sumC ln s c p = totC s (p + k) - totC s p)
  | 0, _ => ⟨by rw [Nat.add_zero]; omega, fun _ => by rw [Nat.add_zero]; omega⟩
  | k + 1, h => by
    obtain ⟨h1, h2⟩ := sum_suf (ln := ln) (s := s) (c := c) (p := p) (w := w) k (fun q hq => h q (by omega))
    have h3 := h (p + k) (by omega)
    rw [show p + (k + 1) = p + k + 1 from rfl, sum_c, tot_c, sum_c, tot_c]
    by_cases c1 : c (p + k) < ln (p + k)
    · rw [if_pos c1, if_pos c1]
      refine ⟨by omega, fun u => ?_⟩
      have := h2 (by omega)
      omega
    · rw [if_neg c1, if_neg c1]
      exact ⟨by omega, fun u => absurd u (by omega)⟩
