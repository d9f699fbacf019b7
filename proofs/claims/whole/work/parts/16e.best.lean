/-! the best night, the class: sets of plans by bits -/
def sB (f : Nat → Int) (s : Nat) : Nat → Int
  | 0 => 0
  | k + 1 => sB f s k + (if s.testBit k = true then f k else 0)
theorem sB_s {f : Nat → Int} {s k : Nat} : sB f s (k + 1) = sB f s k + (if s.testBit k = true then f k else 0) := rfl
def clN (s p : Nat) : Nat := if s.testBit p = true then s - 2 ^ p else s
theorem cl_bit : ∀ s, s < 32 → ∀ p, p < 5 → ∀ q, q < 5 → (clN s p).testBit q = (s.testBit q && decide (q ≠ p)) := by decide +kernel
theorem cl_le {s p : Nat} : clN s p ≤ s := by
  unfold clN
  split
  · exact Nat.sub_le _ _
  · exact Nat.le_refl _
theorem cl_lt {s p : Nat} (h : s.testBit p = true) : clN s p < s := by
  unfold clN
  rw [if_pos h]
  have h1 := Nat.two_pow_pos p
  have h2 : 2 ^ p ≤ s := Nat.ge_two_pow_of_testBit h
  omega
theorem z_clr : ∀ s, s < 32 → ∀ p, p < 5 → zand ((s : Nat) : Int) (zxor (zshl 1 ((p : Nat) : Int)) (-1)) = ((clN s p : Nat) : Int) := by decide +kernel
/-- the set from plan p on -/
def reN (s p : Nat) : Nat := s / 2 ^ p * 2 ^ p
theorem z_re : ∀ s, s < 32 → ∀ p, p < 5 → zand ((s : Nat) : Int) (-(zshl 1 ((p : Nat) : Int))) = ((reN s p : Nat) : Int) := by decide +kernel
theorem re_bit : ∀ s, s < 32 → ∀ p, p < 5 → ∀ q, q < 5 → (reN s p).testBit q = (decide (p ≤ q) && s.testBit q) := by decide +kernel
theorem re_le {s p : Nat} : reN s p ≤ s := Nat.div_mul_le_self s (2 ^ p)
theorem s5_bit : ∀ s, s < 32 → ∀ p, p < 5 → (zand (zshr ((s : Nat) : Int) ((p : Nat) : Int)) 1 = 1 ↔ s.testBit p = true) := fun s hs p hp => bit_n (by omega) (by omega)
theorem sB_cl {f : Nat → Int} {s p : Nat} (hs : s < 32) (hp : p < 5) (hb : s.testBit p = true) : ∀ k, k ≤ 5 → sB f s k = sB f (clN s p) k + (if p < k then f p else 0)
  | 0, _ => by
    rw [if_neg (by omega)]
    rfl
  | k + 1, hk => by
    rw [sB_s, sB_s, sB_cl hs hp hb k (by omega), cl_bit s hs p hp k (by omega)]
    by_cases c : k = p
    · subst c
      rw [if_neg (show ¬ k < k by omega), if_pos hb, if_neg (show ¬ (s.testBit k && decide (k ≠ k)) = true by simp), if_pos (show k < k + 1 by omega)]
      try omega
    · rw [show decide (k ≠ p) = true from decide_eq_true c, Bool.and_true]
      by_cases c2 : p < k
      · rw [if_pos c2, if_pos (show p < k + 1 by omega)]
        omega
      · rw [if_neg c2, if_neg (show ¬ p < k + 1 by omega)]
        omega
theorem szB_sB {sz : Nat → Nat} {s : Nat} : ∀ r p, (szB sz s r p : Int) + sB (fun q => (sz q : Int)) s p = sB (fun q => (sz q : Int)) s (p + r)
  | 0, p => by
    show ((0 : Nat) : Int) + _ = _
    rw [Nat.add_zero]
    omega
  | r + 1, p => by
    have ih := szB_sB (sz := sz) (s := s) r (p + 1)
    rw [sB_s] at ih
    show (((if s.testBit p = true then sz p else 0) + szB sz s r (p + 1) : Nat) : Int) + _ = _
    rw [show p + (r + 1) = p + 1 + r by omega, ← ih]
    by_cases c : s.testBit p = true
    · rw [if_pos c, if_pos c]; omega
    · rw [if_neg c, if_neg c]; omega
theorem sB_0 {f : Nat → Int} {s : Nat} : ∀ k, (∀ q, q < k → s.testBit q = false) → sB f s k = 0
  | 0, _ => rfl
  | k + 1, h => by
    rw [sB_s, sB_0 k (fun q hq => h q (by omega)), if_neg (by rw [h k (by omega)]; decide)]
    rfl
/-- what a set's plans can use -/
def uS (σ : Nat → Int → Int) (s : Nat) : Nat → Nat
  | 0 => 0
  | k + 1 => uS σ s k ||| (if s.testBit k = true then orL (plS σ k) * 2 ^ (16 * isS σ k) else 0)
theorem u_s {σ : Nat → Int → Int} {s k : Nat} : uS σ s (k + 1) = uS σ s k ||| (if s.testBit k = true then orL (plS σ k) * 2 ^ (16 * isS σ k) else 0) := rfl
theorem u_cl {σ : Nat → Int → Int} {s p : Nat} (hs : s < 32) (hp : p < 5) (hb : s.testBit p = true) : ∀ k, k ≤ 5 → uS σ s k = uS σ (clN s p) k ||| (if p < k then orL (plS σ p) * 2 ^ (16 * isS σ p) else 0)
  | 0, _ => by
    rw [if_neg (by omega), Nat.or_zero]
    rfl
  | k + 1, hk => by
    rw [u_s, u_s, u_cl hs hp hb k (by omega), cl_bit s hs p hp k (by omega)]
    by_cases c : k = p
    · subst c
      rw [if_neg (show ¬ k < k by omega), if_pos hb, if_neg (show ¬ (s.testBit k && decide (k ≠ k)) = true by simp), if_pos (show k < k + 1 by omega), Nat.or_zero]
      first | done | rw [Nat.or_zero]
    · rw [show decide (k ≠ p) = true from decide_eq_true c, Bool.and_true]
      by_cases c2 : p < k
      · rw [if_pos c2, if_pos (show p < k + 1 by omega), Nat.or_assoc, Nat.or_assoc, Nat.or_comm (orL (plS σ p) * 2 ^ (16 * isS σ p))]
      · rw [if_neg c2, if_neg (show ¬ p < k + 1 by omega), Nat.or_zero, Nat.or_zero]
theorem ro_b {σ : Nat → Int → Int} (hN : WFn σ) (hP : WFp σ) {k : Nat} (hk : (k : Int) < σ 127 21) : orL (plS σ k) < 4096 ∧ orL (plS σ k) * 2 ^ (16 * isS σ k) < 2 ^ 48 := by
  have h1 : orL (plS σ k) < 2 ^ (σ 127 0).toNat := orL_lt (fun x hx => (pl_all hN (hP.2 k (by omega) hk) hx).1)
  have h2 := p12 (n := (σ 127 0).toNat) (by have := hN.1; omega)
  have h3 := is_b hP k
  have h4 : orL (plS σ k) < 4096 := by omega
  refine ⟨h4, ?_⟩
  rcases (show isS σ k = 0 ∨ isS σ k = 1 ∨ isS σ k = 2 by omega) with e | e | e <;> (rw [e]; omega)
theorem u_b {σ : Nat → Int → Int} (hN : WFn σ) (hP : WFp σ) {s : Nat} : ∀ k : Nat, (k : Int) ≤ σ 127 21 → uS σ s k < 2 ^ 48
  | 0, _ => Nat.two_pow_pos _
  | k + 1, h => by
    rw [u_s]
    refine or_lt (u_b hN hP k (by omega)) ?_
    split
    · exact (ro_b hN hP (by omega)).2
    · exact Nat.two_pow_pos _
theorem u_bit {σ : Nat → Int → Int} {s q k b : Nat} (hq : s.testBit q = true) (hk : k < lnS σ q) (hb : (mkQ σ q k).testBit b = true) : ∀ n, q < n → (uS σ s n).testBit (16 * isS σ q + b) = true
  | 0, h => absurd h (by omega)
  | n + 1, h => by
    rw [u_s, Nat.testBit_or, Bool.or_eq_true]
    by_cases c : q = n
    · subst c
      right
      rw [if_pos hq, ← Nat.shiftLeft_eq, Nat.testBit_shiftLeft, show decide (16 * isS σ q + b ≥ 16 * isS σ q) = true from decide_eq_true (by omega), Bool.true_and, show 16 * isS σ q + b - 16 * isS σ q = b by omega]
      refine orL_bit (gN_mem ?_) hb
      unfold lnS at hk
      split at hk
      · exact hk
      · omega
    · exact Or.inl (u_bit hq hk hb n (by omega))
/-- a try's key -/
def keyN (g s a : Nat) : Nat := a + s * 2 ^ 48 + g * 2 ^ 53
theorem key_or {g s a : Nat} (ha : a < 2 ^ 48) (hs : s < 32) : (a ||| s * 2 ^ 48) ||| g * 2 ^ 53 = keyN g s a := by
  have e1 : a ||| s * 2 ^ 48 = 2 ^ 48 * s + a := by rw [Nat.or_comm, Nat.mul_comm s, ← Nat.two_pow_add_eq_or_of_lt ha]
  have h1 : 2 ^ 48 * s + a < 2 ^ 53 := by omega
  rw [e1, Nat.or_comm, Nat.mul_comm g, ← Nat.two_pow_add_eq_or_of_lt h1]
  unfold keyN
  omega
theorem key_inj {g s a g' s' a' : Nat} (ha : a < 2 ^ 48) (hs : s < 32) (ha' : a' < 2 ^ 48) (hs' : s' < 32) (h : keyN g s a = keyN g' s' a') : g = g' ∧ s = s' ∧ a = a' := by
  unfold keyN at h
  omega
theorem key_b {g s a : Nat} (ha : a < 2 ^ 48) (hs : s < 32) : g * 2 ^ 53 ≤ keyN g s a ∧ keyN g s a < (g + 1) * 2 ^ 53 := by
  unfold keyN
  omega
theorem ush_b (x : Int) : 0 ≤ yushr x 54 ∧ yushr x 54 < 1024 := by
  have e : yushr x 54 = (((Int64.ofInt x).toBitVec.toNat / 2 ^ 54 : Nat) : Int) := by
    refine t64n (x := (Int64.ofInt x).toBitVec.toNat / 2 ^ 54) ?_ (by have := (Int64.ofInt x).toBitVec.isLt; omega)
    show ((Int64.ofInt x).toUInt64 >>> ((Int32.ofInt 54).toInt64.toUInt64 &&& Int64.toUInt64 63)).toBitVec = _
    rw [UInt64.toBitVec_shiftRight]
    show (Int64.ofInt x).toBitVec >>> (((Int32.ofInt ((54 : Nat) : Int)).toInt64.toUInt64 &&& Int64.toUInt64 63).toBitVec % 64).toNat = _
    rw [su64 54 (by decide)]
    apply BitVec.eq_of_toNat_eq
    have h := (Int64.ofInt x).toBitVec.isLt
    rw [BitVec.toNat_ushiftRight, b64 (by omega), Nat.shiftRight_eq_div_pow]
  have h := (Int64.ofInt x).toBitVec.isLt
  rw [e]
  omega
/-- where a key is kept -/
def mpS (k : Int) : Int := yushr (k * -7046029254386353131) 54
abbrev solS (σ : Nat → Int → Int) : Nat → Nat → Nat → Nat → (Nat → Nat) → Prop := solP (lnS σ) (mkQ σ) (isS σ)
/-- the tries that failed are told truly -/
def HM (σ J : Nat → Int → Int) (g : Nat) : Prop := ∀ x : Int, 0 ≤ x → x < 1024 → ∃ k : Nat, J 117 x = (k : Int) ∧ k < (g + 1) * 2 ^ 53 ∧ (g * 2 ^ 53 ≤ k → ∃ s t, s < 32 ∧ t < 2 ^ 48 ∧ k = keyN g s (t &&& uS σ s (nP σ)) ∧ ∀ c, ¬ solS σ (nP σ) 0 s t c)
theorem HM.hop {σ J : Nat → Int → Int} {g s t : Nat} (h : HM σ J g) (hs : s < 32) (ht : t < 2 ^ 48) (hb : ∀ q, nP σ ≤ q → s.testBit q = false) {x : Int} (x0 : 0 ≤ x) (x1 : x < 1024) (e : J 117 x = ((keyN g s (t &&& uS σ s (nP σ)) : Nat) : Int)) : ∀ c, ¬ solS σ (nP σ) 0 s t c := by
  obtain ⟨k, k1, k2, k3⟩ := h x x0 x1
  have hk : k = keyN g s (t &&& uS σ s (nP σ)) := by omega
  obtain ⟨s', t', s1, t1, e1, e2⟩ := k3 (by rw [hk]; exact (key_b (and_lt ht) hs).1)
  obtain ⟨-, rfl, e4⟩ := key_inj (and_lt ht) hs (and_lt t1) s1 (hk.symm.trans e1)
  intro c hc
  refine e2 c (sol_use (u := uS σ s (nP σ)) (nP σ) 0 s t t' c (fun q k b hq hk hb2 => u_bit hq hk hb2 _ ?_) (fun y hy => ?_) hc)
  · by_cases u : q < nP σ
    · exact u
    · rw [hb q (by omega)] at hq; cases hq
  · have h1 : (t &&& uS σ s (nP σ)).testBit y = (t' &&& uS σ s (nP σ)).testBit y := by rw [e4]
    rw [Nat.testBit_and, Nat.testBit_and, hy, Bool.and_true, Bool.and_true] at h1
    exact h1
theorem HM.put {σ J : Nat → Int → Int} {g s t : Nat} {y : Int} (h : HM σ J g) (hs : s < 32) (ht : t < 2 ^ 48) (hn : ∀ c, ¬ solS σ (nP σ) 0 s t c) : HM σ (upI J 117 y ((keyN g s (t &&& uS σ s (nP σ)) : Nat) : Int)) g := fun x x0 x1 => by
  by_cases c : x = y
  · subst c
    exact ⟨_, up_at, (key_b (and_lt ht) hs).2, fun _ => ⟨s, t, hs, ht, rfl, hn⟩⟩
  · obtain ⟨k, k1, k2⟩ := h x x0 x1
    exact ⟨k, (up_nk c).trans k1, k2⟩
theorem HM.no {σ I J : Nat → Int → Int} {g : Nat} (h : HM σ I g) (e : ∀ x, J 117 x = I 117 x) : HM σ J g := fun x x0 x1 => by
  rw [e x]
  exact h x x0 x1
/-- bits counted as the machine does it -/
def bcN (x : Nat) : Nat :=
  let x1 := x - (x / 2 ^ 1 &&& 6148914691236517205)
  let x2 := (x1 &&& 3689348814741910323) + (x1 / 2 ^ 2 &&& 3689348814741910323)
  let x3 := (x2 + x2 / 2 ^ 4) &&& 1085102592571150095
  let x4 := x3 + x3 / 2 ^ 8
  let x5 := x4 + x4 / 2 ^ 16
  let x6 := x5 + x5 / 2 ^ 32
  x6 &&& 127
theorem bc_k : ∀ a, a < 64 → ∀ b, b < 128 → bcN (128 * a + b) = pcN 16 (128 * a + b) := by decide +kernel
theorem bc_pc (x : Nat) (h : x < 8192) : bcN x = pcN 16 x := by
  have := bc_k (x / 128) (by omega) (x % 128) (by omega)
  rw [show 128 * (x / 128) + x % 128 = x by omega] at this
  exact this
