/-! what goes together; what is taken -/
theorem nr_bit {x b : Nat} : (nearN x).testBit b = true ↔ (x.testBit b = true ∨ x.testBit (b + 1) = true ∨ (1 ≤ b ∧ x.testBit (b - 1) = true)) := by
  unfold nearN
  have e1 : x * 2 = x <<< 1 := by rw [Nat.shiftLeft_eq]
  have e2 : x / 2 = x >>> 1 := by rw [Nat.shiftRight_eq_div_pow]
  rw [e1, e2, Nat.testBit_or, Nat.testBit_or, Nat.testBit_shiftLeft, Nat.testBit_shiftRight, Nat.add_comm 1 b]
  simp only [Bool.or_eq_true, Bool.and_eq_true, decide_eq_true_eq]
  constructor
  · rintro ((h | h) | h)
    · exact Or.inl h
    · exact Or.inr (Or.inr h)
    · exact Or.inr (Or.inl h)
  · rintro (h | h | h)
    · exact Or.inl (Or.inl h)
    · exact Or.inr h
    · exact Or.inl (Or.inr h)
theorem nr_iff {x y : Nat} : nearN x &&& y = 0 ↔ ∀ a b, x.testBit a = true → y.testBit b = true → a ≠ b ∧ a + 1 ≠ b ∧ b + 1 ≠ a := by
  constructor
  · intro h a b ha hb
    refine ⟨fun e => ?_, fun e => ?_, fun e => ?_⟩
    · subst e; exact of_and_0 h _ (nr_bit.mpr (Or.inl ha)) hb
    · subst e; exact of_and_0 h _ (nr_bit.mpr (Or.inr (Or.inr ⟨by omega, by rw [Nat.add_sub_cancel]; exact ha⟩))) hb
    · subst e; exact of_and_0 h _ (nr_bit.mpr (Or.inr (Or.inl ha))) hb
  · intro h
    refine and_0 (fun i h1 h2 => ?_)
    rcases nr_bit.mp h1 with u | u | ⟨u, v⟩
    · exact (h i i u h2).1 rfl
    · exact (h (i + 1) i u h2).2.2 rfl
    · exact (h (i - 1) i v h2).2.1 (by omega)
theorem nr_lt {x n : Nat} (h : x < 2 ^ n) : nearN x < 2 ^ (n + 1) := lt_bit (fun i hi => by
  cases hc : (nearN x).testBit i with
  | false => rfl
  | true =>
    rcases nr_bit.mp hc with u | u | ⟨u, v⟩
    · have := bit_lt h u; omega
    · have := bit_lt h u; omega
    · have := bit_lt h v; omega)
abbrev goN (i x j y : Nat) : Prop := if i = j then x &&& y = 0 else nearN x &&& y = 0
theorem go_sym {i x j y : Nat} (h : goN i x j y) : goN j y i x := by
  unfold goN at h ⊢
  by_cases c : i = j
  · rw [if_pos c] at h
    rw [if_pos c.symm, Nat.and_comm]
    exact h
  · rw [if_neg c, nr_iff] at h
    rw [if_neg (fun e => c e.symm), nr_iff]
    intro a b ha hb
    have := h b a hb ha
    omega
/-- the reference cuts what is next to a placement at the night's end -/
theorem go_cut {x y n : Nat} (hy : y < 2 ^ n) : (nearN x &&& (2 ^ n - 1)) &&& y = 0 ↔ nearN x &&& y = 0 := by
  rw [Nat.and_two_pow_sub_one_eq_mod]
  constructor
  · intro h
    refine and_0 (fun i h1 h2 => of_and_0 h i ?_ h2)
    rw [Nat.testBit_mod_two_pow, h1, Bool.and_true]
    exact decide_eq_true (bit_lt hy h2)
  · intro h
    refine and_0 (fun i h1 h2 => of_and_0 h i ?_ h2)
    rw [Nat.testBit_mod_two_pow, Bool.and_eq_true] at h1
    exact h1.2
def fre (x i t : Nat) : Prop := ∀ b, x.testBit b = true → t.testBit (16 * i + b) = false
theorem fre_iff {x i t : Nat} : (t / 2 ^ (16 * i)) &&& x = 0 ↔ fre x i t := by
  rw [← Nat.shiftRight_eq_div_pow]
  constructor
  · intro h b hb
    cases hc : t.testBit (16 * i + b) with
    | false => rfl
    | true => exact (of_and_0 h b (by rw [Nat.testBit_shiftRight]; exact hc) hb).elim
  · intro h
    refine and_0 (fun b h1 h2 => ?_)
    rw [Nat.testBit_shiftRight, h b h2] at h1
    cases h1
theorem fre_or {x i t u : Nat} : fre x i (t ||| u) ↔ fre x i t ∧ fre x i u := by
  constructor
  · intro h
    refine ⟨fun b hb => ?_, fun b hb => ?_⟩
    · have := h b hb
      rw [Nat.testBit_or, Bool.or_eq_false_iff] at this
      exact this.1
    · have := h b hb
      rw [Nat.testBit_or, Bool.or_eq_false_iff] at this
      exact this.2
  · rintro ⟨h1, h2⟩ b hb
    rw [Nat.testBit_or, h1 b hb, h2 b hb]
    rfl
theorem fre_0 {x i : Nat} : fre x i 0 := fun b _ => Nat.zero_testBit _
abbrev rwN (x i k : Nat) : Nat := if k = i then x else nearN x
def tkP (x i : Nat) : Nat → Nat
  | 0 => 0
  | k + 1 => tkP x i k ||| rwN x i k * 2 ^ (16 * k)
abbrev tkN (x i : Nat) : Nat := tkP x i 3
theorem rw_lt {x i k : Nat} (h : x < 4096) : rwN x i k < 2 ^ 16 := by
  unfold rwN
  have := nr_lt (n := 12) h
  split <;> omega
theorem tk_bit {x i j b : Nat} (hx : x < 4096) (hb : b < 16) : ∀ k, (tkP x i k).testBit (16 * j + b) = (decide (j < k) && (rwN x i j).testBit b)
  | 0 => by
    rw [show tkP x i 0 = 0 from rfl, Nat.zero_testBit, show decide (j < 0) = false from decide_eq_false (by omega)]
    rfl
  | k + 1 => by
    show (tkP x i k ||| rwN x i k * 2 ^ (16 * k)).testBit (16 * j + b) = _
    rw [Nat.testBit_or, tk_bit hx hb k, ← Nat.shiftLeft_eq, Nat.testBit_shiftLeft]
    rcases Nat.lt_trichotomy j k with u | u | u
    · rw [show decide (j < k) = true from decide_eq_true u, show decide (j < k + 1) = true from decide_eq_true (by omega), show decide (16 * j + b ≥ 16 * k) = false from decide_eq_false (by omega)]
      simp
    · subst u
      rw [show decide (j < j) = false from decide_eq_false (by omega), show decide (j < j + 1) = true from decide_eq_true (by omega), show decide (16 * j + b ≥ 16 * j) = true from decide_eq_true (by omega), show 16 * j + b - 16 * j = b by omega]
      simp
    · rw [show decide (j < k) = false from decide_eq_false (by omega), show decide (j < k + 1) = false from decide_eq_false (by omega)]
      have : (rwN x i k).testBit (16 * j + b - 16 * k) = false := Nat.testBit_lt_two_pow (Nat.lt_of_lt_of_le (rw_lt hx) (Nat.pow_le_pow_right (by decide) (by omega)))
      rw [this]
      simp
theorem tk_lt {x i : Nat} (hx : x < 4096) : ∀ k, tkP x i k < 2 ^ (16 * k)
  | 0 => Nat.two_pow_pos _
  | k + 1 => by
    refine or_lt (Nat.lt_of_lt_of_le (tk_lt hx k) (Nat.pow_le_pow_right (by decide) (by omega))) ?_
    rw [show 16 * (k + 1) = 16 + 16 * k by omega, Nat.pow_add]
    exact Nat.mul_lt_mul_of_pos_right (rw_lt hx) (Nat.two_pow_pos _)
theorem fre_tk {x i y j : Nat} (hx : x < 4096) (hy : y < 4096) (hj : j < 3) : fre y j (tkN x i) ↔ goN i x j y := by
  have hb : ∀ b, y.testBit b = true → b < 16 := fun b h => by have := bit_lt (n := 12) hy h; omega
  unfold goN
  constructor
  · intro h
    have key : rwN x i j &&& y = 0 := and_0 (fun b h1 h2 => by
      have := h b h2
      rw [tk_bit hx (hb b h2), h1, Bool.and_true] at this
      exact absurd (of_decide_eq_false this) (by omega))
    unfold rwN at key
    by_cases c : i = j
    · rw [if_pos c]; rw [if_pos c.symm] at key; exact key
    · rw [if_neg c]; rw [if_neg (fun e => c e.symm)] at key; exact key
  · intro h b h2
    have key : rwN x i j &&& y = 0 := by
      unfold rwN
      by_cases c : i = j
      · rw [if_pos c] at h; rw [if_pos c.symm]; exact h
      · rw [if_neg c] at h; rw [if_neg (fun e => c e.symm)]; exact h
    rw [tk_bit hx (hb b h2)]
    cases hc : (rwN x i j).testBit b with
    | false => rw [Bool.and_false]
    | true => exact (of_and_0 key b hc h2).elim
/-! placing a set of plans one behind the other -/
section SOL
variable {ln : Nat → Nat} {mk : Nat → Nat → Nat} {is_ : Nat → Nat}
def solP (ln : Nat → Nat) (mk : Nat → Nat → Nat) (is_ : Nat → Nat) : Nat → Nat → Nat → Nat → (Nat → Nat) → Prop
  | 0, _, _, _, _ => True
  | r + 1, p, set, tk, c => if set.testBit p = true then (c p < ln p ∧ fre (mk p (c p)) (is_ p) tk ∧ solP ln mk is_ r (p + 1) set (tk ||| tkN (mk p (c p)) (is_ p)) c) else solP ln mk is_ r (p + 1) set tk c
theorem sol_in {r p set tk : Nat} {c : Nat → Nat} (h : set.testBit p = true) : solP ln mk is_ (r + 1) p set tk c ↔ (c p < ln p ∧ fre (mk p (c p)) (is_ p) tk ∧ solP ln mk is_ r (p + 1) set (tk ||| tkN (mk p (c p)) (is_ p)) c) := by
  show (if _ then _ else _) ↔ _
  rw [if_pos h]
theorem sol_no {r p set tk : Nat} {c : Nat → Nat} (h : set.testBit p = false) : solP ln mk is_ (r + 1) p set tk c ↔ solP ln mk is_ r (p + 1) set tk c := by
  show (if _ then _ else _) ↔ _
  rw [if_neg (by rw [h]; decide)]
theorem sol_iff (hmk : ∀ p k, k < ln p → mk p k < 4096) (his : ∀ p, is_ p < 3) : ∀ (r p set tk : Nat) (c : Nat → Nat), solP ln mk is_ r p set tk c ↔ ((∀ q, p ≤ q → q < p + r → set.testBit q = true → c q < ln q ∧ fre (mk q (c q)) (is_ q) tk) ∧ ∀ q s, p ≤ q → q < s → s < p + r → set.testBit q = true → set.testBit s = true → goN (is_ q) (mk q (c q)) (is_ s) (mk s (c s)))
  | 0, p, set, tk, c => ⟨fun _ => ⟨fun q h1 h2 => absurd h2 (by omega), fun q s h1 h2 h3 => absurd h3 (by omega)⟩, fun _ => trivial⟩
  | r + 1, p, set, tk, c => by
    cases hp : set.testBit p with
    | false =>
      rw [sol_no hp, sol_iff hmk his r (p + 1) set tk c]
      constructor
      · rintro ⟨h1, h2⟩
        refine ⟨fun q q1 q2 hq => ?_, fun q s q1 q2 q3 hq hs => ?_⟩
        · exact h1 q (by by_cases e : q = p; · subst e; rw [hp] at hq; cases hq
                         · omega) (by omega) hq
        · exact h2 q s (by by_cases e : q = p; · subst e; rw [hp] at hq; cases hq
                           · omega) q2 (by omega) hq hs
      · rintro ⟨h1, h2⟩
        exact ⟨fun q q1 q2 hq => h1 q (by omega) (by omega) hq, fun q s q1 q2 q3 hq hs => h2 q s (by omega) q2 (by omega) hq hs⟩
    | true =>
      rw [sol_in hp]
      constructor
      · rintro ⟨h0, hf, hr⟩
        obtain ⟨h1, h2⟩ := (sol_iff hmk his r (p + 1) set _ c).mp hr
        refine ⟨fun q q1 q2 hq => ?_, fun q s q1 q2 q3 hq hs => ?_⟩
        · by_cases e : q = p
          · subst e; exact ⟨h0, hf⟩
          · have := h1 q (by omega) (by omega) hq
            exact ⟨this.1, (fre_or.mp this.2).1⟩
        · by_cases e : q = p
          · subst e
            have := h1 s (by omega) (by omega) hs
            exact (fre_tk (hmk _ _ h0) (hmk _ _ this.1) (his s)).mp (fre_or.mp this.2).2
          · exact h2 q s (by omega) q2 (by omega) hq hs
      · rintro ⟨h1, h2⟩
        have h0 := h1 p (Nat.le_refl _) (by omega) hp
        refine ⟨h0.1, h0.2, (sol_iff hmk his r (p + 1) set _ c).mpr ⟨fun q q1 q2 hq => ?_, fun q s q1 q2 q3 hq hs => h2 q s (by omega) q2 (by omega) hq hs⟩⟩
        have := h1 q (by omega) (by omega) hq
        exact ⟨this.1, fre_or.mpr ⟨this.2, (fre_tk (hmk _ _ h0.1) (hmk _ _ this.1) (his q)).mpr (h2 p q (Nat.le_refl _) (by omega) (by omega) hp hq)⟩⟩
/-- only what the set's plans can use of what is taken matters -/
theorem sol_use {u : Nat} : ∀ (r p set t t' : Nat) (c : Nat → Nat), (∀ q k b, set.testBit q = true → k < ln q → (mk q k).testBit b = true → u.testBit (16 * is_ q + b) = true) → (∀ x, u.testBit x = true → t.testBit x = t'.testBit x) → solP ln mk is_ r p set t c → solP ln mk is_ r p set t' c
  | 0, _, _, _, _, _, _, _, _ => trivial
  | r + 1, p, set, t, t', c, hu, ht, h => by
    cases hp : set.testBit p with
    | false =>
      rw [sol_no hp] at h ⊢
      exact sol_use r (p + 1) set t t' c hu ht h
    | true =>
      rw [sol_in hp] at h ⊢
      obtain ⟨h0, hf, hr⟩ := h
      refine ⟨h0, fun b hb => ?_, sol_use r (p + 1) set _ _ c hu (fun x hx => ?_) hr⟩
      · rw [← ht _ (hu p (c p) b hp h0 hb)]
        exact hf b hb
      · rw [Nat.testBit_or, Nat.testBit_or, ht x hx]
/-- plans below p don't matter, where the set has none -/
theorem sol_set : ∀ (r p set set' t : Nat) (c : Nat → Nat), (∀ q, p ≤ q → q < p + r → set.testBit q = set'.testBit q) → solP ln mk is_ r p set t c → solP ln mk is_ r p set' t c
  | 0, _, _, _, _, _, _, _ => trivial
  | r + 1, p, set, set', t, c, hs, h => by
    have e := hs p (Nat.le_refl _) (by omega)
    cases hp : set.testBit p with
    | false =>
      rw [sol_no hp] at h
      rw [sol_no (e ▸ hp)]
      exact sol_set r (p + 1) set set' t c (fun q q1 q2 => hs q (by omega) (by omega)) h
    | true =>
      rw [sol_in hp] at h
      rw [sol_in (e ▸ hp)]
      exact ⟨h.1, h.2.1, sol_set r (p + 1) set set' _ c (fun q q1 q2 => hs q (by omega) (by omega)) h.2.2⟩
theorem sol_skip : ∀ (k r p set t : Nat) (c : Nat → Nat), (∀ q, p ≤ q → q < p + k → set.testBit q = false) → (solP ln mk is_ (k + r) p set t c ↔ solP ln mk is_ r (p + k) set t c)
  | 0, r, p, set, t, c, _ => by rw [Nat.zero_add, Nat.add_zero]
  | k + 1, r, p, set, t, c, h => by
    rw [show k + 1 + r = (k + r) + 1 by omega, sol_no (h p (Nat.le_refl _) (by omega)), sol_skip k r (p + 1) set t c (fun q q1 q2 => h q (by omega) (by omega)), show p + 1 + k = p + (k + 1) by omega]
theorem sol_eq : ∀ (r p set t : Nat) (c c' : Nat → Nat), (∀ q, p ≤ q → q < p + r → set.testBit q = true → c q = c' q) → solP ln mk is_ r p set t c → solP ln mk is_ r p set t c'
  | 0, _, _, _, _, _, _, _ => trivial
  | r + 1, p, set, t, c, c', hc, h => by
    cases hp : set.testBit p with
    | false =>
      rw [sol_no hp] at h ⊢
      exact sol_eq r (p + 1) set t c c' (fun q q1 q2 hq => hc q (by omega) (by omega) hq) h
    | true =>
      rw [sol_in hp] at h ⊢
      rw [← hc p (Nat.le_refl _) (by omega) hp]
      exact ⟨h.1, h.2.1, sol_eq r (p + 1) set _ c c' (fun q q1 q2 hq => hc q (by omega) (by omega) hq) h.2.2⟩
end SOL
/-- what is taken by placements -/
def TKn (n t : Nat) : Prop := t < 2 ^ 48 ∧ (∀ i b, i < 3 → n < b → b < 16 → t.testBit (16 * i + b) = false) ∧ (∀ i, i < 3 → t.testBit (16 * i + n) = true → t.testBit (16 * i + (n - 1)) = true) ∧ ¬ ∀ i, i < 3 → t.testBit (16 * i + n) = true
theorem TKn_0 {n : Nat} : TKn n 0 := ⟨by decide, fun _ _ _ _ _ => Nat.zero_testBit _, fun i _ h => (by rw [Nat.zero_testBit] at h; cases h), fun h => (by have := h 0 (by decide); rw [Nat.zero_testBit] at this; cases this)⟩
theorem TKn.add {n t x i : Nat} (h : TKn n t) (n1 : 1 ≤ n) (n2 : n ≤ 12) (hx : x < 2 ^ n) (hi : i < 3) (hf : fre x i t) : TKn n (t ||| tkN x i) := by
  obtain ⟨h1, h2, h3, h4⟩ := h
  have hx4 : x < 4096 := Nat.lt_of_lt_of_le hx (p12 n2)
  have hr : ∀ j b, j < 3 → b < 16 → (tkN x i).testBit (16 * j + b) = (rwN x i j).testBit b := fun j b hj hb => by
    rw [tk_bit hx4 hb, show decide (j < 3) = true from decide_eq_true hj, Bool.true_and]
  have hxn : x.testBit n = false := Nat.testBit_lt_two_pow hx
  have hxi : rwN x i i = x := if_pos rfl
  have hxj : ∀ j, j ≠ i → rwN x i j = nearN x := fun j hj => if_neg hj
  have hrn : ∀ j, (rwN x i j).testBit n = true → j ≠ i ∧ x.testBit (n - 1) = true := fun j hj => by
    by_cases c : j = i
    · rw [c, hxi, hxn] at hj; cases hj
    · rw [hxj j c] at hj
      rcases nr_bit.mp hj with u | u | ⟨u, v⟩
      · rw [hxn] at u; cases u
      · have := bit_lt hx u; omega
      · exact ⟨c, v⟩
  refine ⟨or_lt h1 (tk_lt hx4 3), fun j b hj hb hb2 => ?_, fun j hj hjn => ?_, fun hall => ?_⟩
  · rw [Nat.testBit_or, h2 j b hj hb hb2, hr j b hj hb2, Bool.false_or]
    cases hc : (rwN x i j).testBit b with
    | false => rfl
    | true =>
      have : b < n + 1 := by
        by_cases c : j = i
        · rw [c, hxi] at hc; have := bit_lt hx hc; omega
        · rw [hxj j c] at hc; exact bit_lt (nr_lt hx) hc
      omega
  · rw [Nat.testBit_or, Bool.or_eq_true, hr j n hj (by omega)] at hjn
    rw [Nat.testBit_or, Bool.or_eq_true, hr j (n - 1) hj (by omega)]
    rcases hjn with u | u
    · exact Or.inl (h3 j hj u)
    · obtain ⟨v1, v2⟩ := hrn j u
      exact Or.inr (by rw [hxj j v1]; exact nr_bit.mpr (Or.inl v2))
  · apply h4
    intro j hj
    have hi2 := hall i hi
    rw [Nat.testBit_or, Bool.or_eq_true, hr i n hi (by omega)] at hi2
    have hti : t.testBit (16 * i + n) = true := by
      rcases hi2 with u | u
      · exact u
      · exact absurd rfl (hrn i u).1
    have hj2 := hall j hj
    rw [Nat.testBit_or, Bool.or_eq_true, hr j n hj (by omega)] at hj2
    rcases hj2 with u | u
    · exact u
    · have := hf (n - 1) (hrn j u).2
      rw [h3 i hi hti] at this
      cases this
def anR (t : Nat) : Nat := ((t &&& t / 2 ^ 16) &&& t / 2 ^ 32) &&& 65535
theorem an_bit {t b : Nat} : (anR t).testBit b = true ↔ b < 16 ∧ ∀ i, i < 3 → t.testBit (16 * i + b) = true := by
  unfold anR
  rw [← Nat.shiftRight_eq_div_pow, ← Nat.shiftRight_eq_div_pow, show (65535 : Nat) = 2 ^ 16 - 1 from rfl, Nat.and_two_pow_sub_one_eq_mod, Nat.testBit_mod_two_pow, Nat.testBit_and, Nat.testBit_and, Nat.testBit_shiftRight, Nat.testBit_shiftRight]
  simp only [Bool.and_eq_true, decide_eq_true_eq]
  constructor
  · rintro ⟨h0, ⟨h1, h2⟩, h3⟩
    refine ⟨h0, fun i hi => ?_⟩
    rcases (show i = 0 ∨ i = 1 ∨ i = 2 by omega) with e | e | e
    · rw [e, Nat.mul_zero, Nat.zero_add]; exact h1
    · rw [e]; exact h2
    · rw [e]; exact h3
  · rintro ⟨h0, h⟩
    have h1 := h 0 (by decide)
    rw [Nat.mul_zero, Nat.zero_add] at h1
    exact ⟨h0, ⟨h1, h 1 (by decide)⟩, h 2 (by decide)⟩
theorem an_lt {n t : Nat} (h : TKn n t) (hn : n ≤ 12) : anR t < 2 ^ n := lt_bit (fun b hb => by
  cases hc : (anR t).testBit b with
  | false => rfl
  | true =>
    obtain ⟨h0, h1⟩ := an_bit.mp hc
    by_cases e : b = n
    · subst e; exact absurd h1 h.2.2.2
    · have := h.2.1 0 b (by decide) (by omega) h0
      rw [h1 0 (by decide)] at this
      cases this)
theorem an_add {t x i : Nat} (hx : x < 4096) (hi : i < 3) (hf : fre x i t) : pcN 16 (anR t) + pcN 16 x ≤ pcN 16 (anR (t ||| tkN x i)) := by
  have h1 : anR t &&& x = 0 := and_0 (fun b u v => by
    have := (an_bit.mp u).2 i hi
    rw [hf b v] at this
    cases this)
  rw [← pc_and0 16 _ _ h1]
  apply pc_mono
  apply Nat.eq_of_testBit_eq
  intro b
  rw [Nat.testBit_and]
  cases hc : (anR t ||| x).testBit b with
  | false => rfl
  | true =>
    rw [Bool.true_and]
    apply an_bit.mpr
    rw [Nat.testBit_or, Bool.or_eq_true] at hc
    rcases hc with u | u
    · obtain ⟨h0, h2⟩ := an_bit.mp u
      exact ⟨h0, fun j hj => by rw [Nat.testBit_or, h2 j hj]; rfl⟩
    · have hb := bit_lt (n := 12) hx u
      refine ⟨by omega, fun j hj => ?_⟩
      rw [Nat.testBit_or, tk_bit hx (by omega), show decide (j < 3) = true from decide_eq_true hj, Bool.true_and]
      have : (rwN x i j).testBit b = true := by
        unfold rwN
        split
        · exact u
        · exact nr_bit.mpr (Or.inl u)
      rw [this, Bool.or_true]
/-- slots of the set's plans from p on -/
def szB (sz : Nat → Nat) (set : Nat) : Nat → Nat → Nat
  | 0, _ => 0
  | r + 1, p => (if set.testBit p = true then sz p else 0) + szB sz set r (p + 1)
theorem sol_size {ln : Nat → Nat} {mk : Nat → Nat → Nat} {is_ sz : Nat → Nat} {n : Nat} (n1 : 1 ≤ n) (n2 : n ≤ 12) (hmk : ∀ p k, k < ln p → mk p k < 2 ^ n ∧ pcN 16 (mk p k) = sz p) (his : ∀ p, is_ p < 3) : ∀ (r p set t : Nat) (c : Nat → Nat), TKn n t → solP ln mk is_ r p set t c → szB sz set r p + pcN 16 (anR t) ≤ n
  | 0, p, set, t, c, ht, _ => by
    have := pc_le n (anR t) (an_lt ht n2) 16 (by omega)
    show 0 + _ ≤ n
    omega
  | r + 1, p, set, t, c, ht, h => by
    cases hp : set.testBit p with
    | false =>
      rw [sol_no hp] at h
      have := sol_size n1 n2 hmk his r (p + 1) set t c ht h
      show (if _ then _ else _) + szB sz set r (p + 1) + _ ≤ n
      rw [if_neg (by rw [hp]; decide)]
      omega
    | true =>
      rw [sol_in hp] at h
      obtain ⟨h0, hf, hr⟩ := h
      obtain ⟨m1, m2⟩ := hmk p (c p) h0
      have h1 := sol_size n1 n2 hmk his r (p + 1) set _ c (ht.add n1 n2 m1 (his p) hf) hr
      have h2 := an_add (Nat.lt_of_lt_of_le m1 (p12 n2)) (his p) hf
      show (if _ then _ else _) + szB sz set r (p + 1) + _ ≤ n
      rw [if_pos hp]
      omega
