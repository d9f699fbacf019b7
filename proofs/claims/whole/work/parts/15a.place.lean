/-! placements, purely -/
abbrev atG (σ : Nat → Int → Int) (t m r d : Int) (K b : Nat) : Prop := ∀ i, i < K → ((b + i : Nat) : Int) < σ 127 0 ∧ fitS σ 0 t ((b + i : Nat) : Int) m r d
abbrev kS (σ : Nat → Int → Int) (p : Int) (j : Nat) : Nat := (ps σ p j 0).toNat
abbrev loP (σ : Nat → Int → Int) (p : Int) (j : Nat) : Nat := (ps σ p j 4).toNat
abbrev wdP (σ : Nat → Int → Int) (p : Int) (j : Nat) : Nat := (ps σ p j 5 - ps σ p j 4).toNat + 1
abbrev atS (σ : Nat → Int → Int) (p : Int) (j b : Nat) : Prop := atG σ (pf σ p 2) (ps σ p j 1) (ps σ p j 2) (ps σ p j 3) (kS σ p j) b
def stN (b K : Nat) : Nat := (2 ^ K - 1) * 2 ^ b
theorem st_z {b : Nat} : stN b 0 = 0 := by unfold stN; simp
theorem st_lt {b K : Nat} : stN b K < 2 ^ (b + K) := by
  unfold stN
  rw [Nat.pow_add, Nat.mul_comm (2 ^ b)]
  exact Nat.mul_lt_mul_of_pos_right (Nat.sub_lt (Nat.two_pow_pos K) (by decide)) (Nat.two_pow_pos b)
theorem st_sum {b K : Nat} : stN b (K + 1) = 2 ^ (b + K) + stN b K := by
  unfold stN
  have h1 : 2 ^ (K + 1) - 1 = 2 ^ K + (2 ^ K - 1) := by
    have := Nat.two_pow_pos K
    rw [Nat.pow_succ]
    omega
  rw [h1, Nat.add_mul, ← Nat.pow_add, Nat.add_comm K b]
theorem st_or {b K : Nat} : stN b K ||| 2 ^ (b + K) = stN b (K + 1) := by
  rw [st_sum, Nat.or_comm]
  have := Nat.two_pow_add_eq_or_of_lt (st_lt (b := b) (K := K)) 1
  rw [Nat.mul_one] at this
  exact this.symm
theorem st_bit {b i : Nat} : ∀ K, (stN b K).testBit i = decide (b ≤ i ∧ i < b + K)
  | 0 => by
    rw [st_z, Nat.zero_testBit]
    symm
    rw [decide_eq_false_iff_not]
    omega
  | K + 1 => by
    rw [← st_or, Nat.testBit_or, st_bit K, Nat.testBit_two_pow]
    by_cases c1 : b + K = i
    · simp only [c1, decide_true, Bool.or_true]
      symm
      rw [decide_eq_true_iff]
      omega
    · rw [show decide (b + K = i) = false from decide_eq_false c1, Bool.or_false]
      congr 1
      apply propext
      omega
theorem and_0 {x y : Nat} (h : ∀ i, x.testBit i = true → y.testBit i = true → False) : x &&& y = 0 := by
  apply Nat.eq_of_testBit_eq
  intro i
  rw [Nat.testBit_and, Nat.zero_testBit]
  cases hx : x.testBit i with
  | false => rfl
  | true => cases hy : y.testBit i with
    | false => rfl
    | true => exact (h i hx hy).elim
theorem of_and_0 {x y : Nat} (h : x &&& y = 0) (i : Nat) (hx : x.testBit i = true) (hy : y.testBit i = true) : False := by
  have : (x &&& y).testBit i = true := by rw [Nat.testBit_and, hx, hy]; rfl
  rw [h, Nat.zero_testBit] at this
  cases this
theorem bit_lt {x n i : Nat} (h : x < 2 ^ n) (hi : x.testBit i = true) : i < n := by
  by_cases c : i < n
  · exact c
  · have : x < 2 ^ i := Nat.lt_of_lt_of_le h (Nat.pow_le_pow_right (by decide) (by omega))
    rw [Nat.testBit_lt_two_pow this] at hi
    cases hi
theorem lt_bit {x n : Nat} (h : ∀ i, n ≤ i → x.testBit i = false) : x < 2 ^ n := Nat.lt_pow_two_of_testBit x h
theorem mk_st {x b K : Nat} (h : x < 2 ^ b) : x &&& stN b K = 0 := and_0 (fun i h1 h2 => by
  have := bit_lt h h1
  rw [st_bit] at h2
  have := of_decide_eq_true h2
  omega)
theorem or_lt {x y n : Nat} (hx : x < 2 ^ n) (hy : y < 2 ^ n) : x ||| y < 2 ^ n := Nat.or_lt_two_pow hx hy
theorem pc_st : ∀ b, b < 13 → ∀ K, K < 5 → b + K ≤ 12 → pcN 16 (stN b K) = K := by decide +kernel
/-! lists made by loops -/
def blL (f : Nat → List Nat → List Nat) : Nat → Nat → List Nat → List Nat
  | 0, _, acc => acc
  | m + 1, i, acc => blL f m (i + 1) (f i acc)
theorem bl_0 {f : Nat → List Nat → List Nat} {i : Nat} {acc : List Nat} : blL f 0 i acc = acc := rfl
theorem bl_s {f : Nat → List Nat → List Nat} {m i : Nat} {acc : List Nat} : blL f (m + 1) i acc = blL f m (i + 1) (f i acc) := rfl
theorem bl_id {f : Nat → List Nat → List Nat} : ∀ (m i : Nat) (acc : List Nat), (∀ b acc, i ≤ b → f b acc = acc) → blL f m i acc = acc
  | 0, i, acc, _ => rfl
  | m + 1, i, acc, h => by
    rw [bl_s, h i acc (Nat.le_refl _)]
    exact bl_id m (i + 1) acc (fun b acc hb => h b acc (by omega))
def gaS (σ : Nat → Int → Int) (p : Int) : Nat → Nat → Nat → Nat → Nat → List Nat → List Nat
  | 0, _, _, _, mask, acc => acc ++ [mask]
  | r + 1, j, fr, num, mask, acc => blL (fun b acc => if atS σ p j b then gaS σ p r (j + 1) (b + kS σ p j + loP σ p (j + 1)) (wdP σ p (j + 1)) (mask ||| stN b (kS σ p j)) acc else acc) num fr acc
def plS (σ : Nat → Int → Int) (p : Int) : List Nat := gaS σ p (pf σ p 4).toNat 0 0 (σ 127 0).toNat 0 []
theorem ga_0 {σ : Nat → Int → Int} {p : Int} {j fr num mask : Nat} {acc : List Nat} : gaS σ p 0 j fr num mask acc = acc ++ [mask] := rfl
abbrev gaF (σ : Nat → Int → Int) (p : Int) (r j mask : Nat) : Nat → List Nat → List Nat := fun b acc => if atS σ p j b then gaS σ p r (j + 1) (b + kS σ p j + loP σ p (j + 1)) (wdP σ p (j + 1)) (mask ||| stN b (kS σ p j)) acc else acc
theorem ga_s {σ : Nat → Int → Int} {p : Int} {r j fr num mask : Nat} {acc : List Nat} : gaS σ p (r + 1) j fr num mask acc = blL (gaF σ p r j mask) num fr acc := rfl
theorem ga_len {σ : Nat → Int → Int} {p : Int} : ∀ (r j fr num mask : Nat) (acc : List Nat), acc.length ≤ (gaS σ p r j fr num mask acc).length
  | 0, j, fr, num, mask, acc => by rw [ga_0, List.length_append]; omega
  | r + 1, j, fr, num, mask, acc => by
    rw [ga_s]
    have key : ∀ (m i : Nat) (acc : List Nat), acc.length ≤ (blL (gaF σ p r j mask) m i acc).length := fun m => by
      induction m with
      | zero => exact fun i acc => Nat.le_refl _
      | succ m ih =>
        intro i acc
        rw [bl_s]
        refine Nat.le_trans ?_ (ih (i + 1) _)
        show acc.length ≤ (if _ then _ else _ : List Nat).length
        split
        · exact ga_len r (j + 1) _ _ _ acc
        · exact Nat.le_refl _
    exact key num fr acc
theorem bl_len {σ : Nat → Int → Int} {p : Int} {r j mask : Nat} : ∀ (m i : Nat) (acc : List Nat), acc.length ≤ (blL (gaF σ p r j mask) m i acc).length
  | 0, i, acc => Nat.le_refl _
  | m + 1, i, acc => by
    rw [bl_s]
    refine Nat.le_trans ?_ (bl_len m (i + 1) _)
    show acc.length ≤ (if _ then _ else _ : List Nat).length
    split
    · exact ga_len r (j + 1) _ _ _ acc
    · exact Nat.le_refl _
/-- how many there can be -/
def uB : Nat → Nat → Nat → Nat
  | 0, _, _ => 1
  | r + 1, fr, num => (List.range num).foldl (fun s i => s + (if fr + i < 12 then uB r (fr + i + 1) 4 else 0)) 0
def uL (g : Nat → Nat) : Nat → Nat → Nat
  | 0, _ => 0
  | m + 1, fr => (if fr < 12 then g (fr + 1) else 0) + uL g m (fr + 1)
def uC : Nat → Nat → Nat → Nat
  | 0, _, _ => 1
  | r + 1, fr, num => uL (fun f => uC r f 4) num fr
theorem uL_anti {g : Nat → Nat} (hg : ∀ a b, a ≤ b → g b ≤ g a) : ∀ m a b, a ≤ b → uL g m b ≤ uL g m a
  | 0, _, _, _ => Nat.le_refl _
  | m + 1, a, b, h => by
    have h1 := uL_anti hg m (a + 1) (b + 1) (by omega)
    have h2 := hg (a + 1) (b + 1) (by omega)
    show (if b < 12 then g (b + 1) else 0) + uL g m (b + 1) ≤ (if a < 12 then g (a + 1) else 0) + uL g m (a + 1)
    split <;> split <;> omega
theorem uC_anti : ∀ r num a b, a ≤ b → uC r b num ≤ uC r a num
  | 0, _, _, _, _ => Nat.le_refl _
  | r + 1, num, a, b, h => uL_anti (fun x y hxy => uC_anti r 4 x y hxy) num a b h
theorem uL_num {g : Nat → Nat} : ∀ m m' a, m ≤ m' → uL g m a ≤ uL g m' a
  | 0, _, _, _ => Nat.zero_le _
  | m + 1, 0, _, h => absurd h (by omega)
  | m + 1, m' + 1, a, h => by
    have h1 := uL_num (g := g) m m' (a + 1) (by omega)
    show (if a < 12 then g (a + 1) else 0) + uL g m (a + 1) ≤ (if a < 12 then g (a + 1) else 0) + uL g m' (a + 1)
    omega
theorem uC_112 : ∀ r, r < 4 → ∀ n, n < 13 → uC r 0 n ≤ 112 := by decide +kernel
theorem ga_ub {σ : Nat → Int → Int} {p : Int} (hn : σ 127 0 ≤ 12) (hp : PlWF σ p) : ∀ (r j fr num mask : Nat) (acc : List Nat), ((j + r : Nat) : Int) = pf σ p 4 → (gaS σ p r j fr num mask acc).length ≤ acc.length + uC r fr num
  | 0, j, fr, num, mask, acc, _ => by rw [ga_0, List.length_append]; exact Nat.le_refl _
  | r + 1, j, fr, num, mask, acc, hj => by
    rw [ga_s]
    have h3 := hp.2.2.2.2.1
    have hs := hp.st (j := (j : Int)) (by omega) (by omega)
    have key : ∀ (m i : Nat) (acc : List Nat), (blL (gaF σ p r j mask) m i acc).length ≤ acc.length + uL (fun f => uC r f 4) m i := fun m => by
      induction m with
      | zero => exact fun i acc => Nat.le_refl _
      | succ m ih =>
        intro i acc
        rw [bl_s]
        refine Nat.le_trans (ih (i + 1) _) ?_
        have h1 : (gaF σ p r j mask i acc).length ≤ acc.length + (if i < 12 then uC r (i + 1) 4 else 0) := by
          show (if _ then _ else _ : List Nat).length ≤ _
          split
          · rename_i ha
            have h0 := (ha 0 (by have := hs.2.1; show 0 < (ps σ p j 0).toNat; omega)).1
            rw [if_pos (by omega)]
            refine Nat.le_trans (ga_ub hn hp r (j + 1) _ _ _ acc (by omega)) ?_
            cases r with
            | zero => exact Nat.le_refl _
            | succ r =>
              have hs2 := hp.st (j := ((j + 1 : Nat) : Int)) (by omega) (by omega)
              have hw := hs2.2.2.2.2.2 (by omega)
              have hw4 : wdP σ p (j + 1) ≤ 4 := by show (ps σ p ((j + 1 : Nat) : Int) 5 - ps σ p ((j + 1 : Nat) : Int) 4).toNat + 1 ≤ 4; omega
              refine Nat.add_le_add_left (Nat.le_trans (uL_num _ _ _ hw4) (uC_anti (r + 1) 4 _ _ ?_)) _
              have := hs.2.1
              show i + 1 ≤ i + (ps σ p j 0).toNat + _
              omega
          · exact Nat.le_add_right _ _
        show _ ≤ acc.length + ((if i < 12 then uC r (i + 1) 4 else 0) + uL (fun f => uC r f 4) m (i + 1))
        omega
    exact key num fr acc
theorem pl_112 {σ : Nat → Int → Int} {p : Int} (hN : WFn σ) (hp : PlWF σ p) : (plS σ p).length ≤ 112 := by
  have b0 := hN.1
  have h3 := hp.2.2.2.2.1
  have h := ga_ub (σ := σ) (p := p) b0.2 hp (pf σ p 4).toNat 0 0 (σ 127 0).toNat 0 [] (by omega)
  have h2 := uC_112 (pf σ p 4).toNat (by omega) (σ 127 0).toNat (by omega)
  unfold plS
  have h4 : ([] : List Nat).length = 0 := rfl
  omega
/-- slots of the steps j .. j + r - 1 -/
def szS (σ : Nat → Int → Int) (p : Int) : Nat → Nat → Nat
  | 0, _ => 0
  | r + 1, j => kS σ p j + szS σ p r (j + 1)
theorem ga_all {σ : Nat → Int → Int} {p : Int} (hn : σ 127 0 ≤ 12) (hp : PlWF σ p) : ∀ (r j fr num mask : Nat) (acc : List Nat), ((j + r : Nat) : Int) = pf σ p 4 → mask < 2 ^ fr → mask < 2 ^ (σ 127 0).toNat → ∀ x, x ∈ gaS σ p r j fr num mask acc → x ∈ acc ∨ (x < 2 ^ (σ 127 0).toNat ∧ pcN 16 x = pcN 16 mask + szS σ p r j)
  | 0, j, fr, num, mask, acc, _, _, hm, x, hx => by
    rw [ga_0, List.mem_append, List.mem_singleton] at hx
    rcases hx with hx | hx
    · exact Or.inl hx
    · subst hx
      exact Or.inr ⟨hm, rfl⟩
  | r + 1, j, fr, num, mask, acc, hj, hf, hm, x, hx => by
    rw [ga_s] at hx
    have h3 := hp.2.2.2.2.1
    have hs := (hp.st (j := (j : Int)) (by omega) (by omega)).2.1
    have key : ∀ (m i : Nat) (acc : List Nat), fr ≤ i → x ∈ blL (gaF σ p r j mask) m i acc → x ∈ acc ∨ (x < 2 ^ (σ 127 0).toNat ∧ pcN 16 x = pcN 16 mask + szS σ p (r + 1) j) := fun m => by
      induction m with
      | zero => exact fun i acc _ h => Or.inl h
      | succ m ih =>
        intro i acc hi h
        rw [bl_s] at h
        rcases ih (i + 1) _ (by omega) h with h | h
        · change x ∈ (if _ then _ else _ : List Nat) at h
          split at h
          · rename_i ha
            have hk4 : kS σ p j ≤ 4 ∧ 1 ≤ kS σ p j := by show (ps σ p j 0).toNat ≤ 4 ∧ 1 ≤ (ps σ p j 0).toNat; omega
            have he := (ha (kS σ p j - 1) (by omega)).1
            have hen : i + kS σ p j ≤ (σ 127 0).toNat := by omega
            have hmi : mask < 2 ^ i := Nat.lt_of_lt_of_le hf (Nat.pow_le_pow_right (by decide) hi)
            have g1 : mask ||| stN i (kS σ p j) < 2 ^ (i + kS σ p j + loP σ p (j + 1)) := or_lt (Nat.lt_of_lt_of_le hf (Nat.pow_le_pow_right (by decide) (by omega))) (Nat.lt_of_lt_of_le st_lt (Nat.pow_le_pow_right (by decide) (by omega)))
            have g2 : mask ||| stN i (kS σ p j) < 2 ^ (σ 127 0).toNat := or_lt hm (Nat.lt_of_lt_of_le st_lt (Nat.pow_le_pow_right (by decide) hen))
            rcases ga_all hn hp r (j + 1) _ _ _ acc (by omega) g1 g2 x h with h | ⟨h, h'⟩
            · exact Or.inl h
            · refine Or.inr ⟨h, ?_⟩
              rw [h', pc_and0 16 _ _ (mk_st hmi), pc_st i (by omega) _ (by omega) (by omega)]
              show _ = _ + (kS σ p j + szS σ p r (j + 1))
              omega
          · exact Or.inl h
        · exact Or.inr h
    exact key num fr acc (Nat.le_refl _) hx
theorem pl_all {σ : Nat → Int → Int} {p : Int} (hN : WFn σ) (hp : PlWF σ p) {x : Nat} (hx : x ∈ plS σ p) : x < 2 ^ (σ 127 0).toNat ∧ pcN 16 x = szS σ p (pf σ p 4).toNat 0 := by
  have h3 := hp.2.2.2.2.1
  rcases ga_all hN.1.2 hp (pf σ p 4).toNat 0 0 (σ 127 0).toNat 0 [] (by omega) (by decide) (Nat.two_pow_pos _) x hx with h | ⟨h, h'⟩
  · cases h
  · refine ⟨h, ?_⟩
    rw [h', show pcN 16 0 = 0 from by decide, Nat.zero_add]
