/-! the best night, the class: all sets -/
theorem sB_b {σ : Nat → Int → Int} (hP : WFp σ) {s : Nat} : ∀ k : Nat, (k : Int) ≤ σ 127 21 → (0 ≤ sB (wS σ) s k ∧ sB (wS σ) s k ≤ 99 * k) ∧ (0 ≤ sB (zS σ) s k ∧ sB (zS σ) s k ≤ 12 * k)
  | 0, _ => ⟨⟨Int.le_refl _, Int.le_refl _⟩, ⟨Int.le_refl _, Int.le_refl _⟩⟩
  | k + 1, h => by
    have ih := sB_b hP (s := s) k (by omega)
    have h1 := (hP.2 k (by omega) (by omega)).2.2.2.1
    have h2 := szP_b hP (p := k) (by omega)
    rw [sB_s, sB_s]
    have e1 : wS σ k = pf σ k 3 := rfl
    have e2 : zS σ k = (szP σ k : Int) := rfl
    split <;> omega
/-- a set's choice, absent plans behind all -/
def Vec (σ : Nat → Int → Int) (s : Nat) (c : Nat → Nat) : Prop := solS σ (nP σ) 0 s 0 c ∧ nrmF s 0 (nP σ) c
theorem vec_in {σ : Nat → Int → Int} (hN : WFn σ) (hP : WFp σ) {s : Nat} {c : Nat → Nat} (h : Vec σ s c) {q : Nat} (hq : q < nP σ) : (c q < lnS σ q ↔ s.testBit q = true) := by
  have hi := (sol_iff (mk_4 hN hP) (is_b hP) (nP σ) 0 s 0 c).mp h.1
  have hl := ln_b hN hP q
  constructor
  · intro u
    cases hb : s.testBit q with
    | true => rfl
    | false =>
      have := h.2 q (by omega) hq hb
      omega
  · intro u
    exact (hi.1 q (by omega) (by omega) u).1
theorem vec_sum {σ : Nat → Int → Int} (hN : WFn σ) (hP : WFp σ) {s : Nat} {c : Nat → Nat} (h : Vec σ s c) (f : Nat → Int) : ∀ k, k ≤ nP σ → sumC (lnS σ) f c k = sB f s k
  | 0, _ => rfl
  | k + 1, hk => by
    rw [sum_c, sB_s, vec_sum hN hP h f k (by omega)]
    have := vec_in hN hP h (q := k) (by omega)
    by_cases c1 : c k < lnS σ k
    · rw [if_pos c1, if_pos (this.mp c1)]
    · rw [if_neg c1, if_neg (fun u => c1 (this.mpr u))]
/-- absent plans as the reference has them -/
def nzC (σ : Nat → Int → Int) (c : Nat → Nat) : Nat → Nat := fun q => if c q < lnS σ q then c q else lnS σ q
theorem nz_in {σ : Nat → Int → Int} {c : Nat → Nat} {q : Nat} : nzC σ c q < lnS σ q ↔ c q < lnS σ q := by
  unfold nzC
  split <;> omega
theorem nz_at {σ : Nat → Int → Int} {c : Nat → Nat} {q : Nat} (h : c q < lnS σ q) : nzC σ c q = c q := if_pos h
theorem nz_sum {σ : Nat → Int → Int} {c : Nat → Nat} (f : Nat → Int) : ∀ k, sumC (lnS σ) f (nzC σ c) k = sumC (lnS σ) f c k
  | 0 => rfl
  | k + 1 => by
    rw [sum_c, sum_c, nz_sum f k]
    by_cases c1 : c k < lnS σ k
    · rw [if_pos c1, if_pos (nz_in.mpr c1)]
    · rw [if_neg c1, if_neg (fun u => c1 (nz_in.mp u))]
def setN (σ : Nat → Int → Int) (d : Nat → Nat) : Nat → Nat
  | 0 => 0
  | k + 1 => setN σ d k + (if d k < lnS σ k then 2 ^ k else 0)
theorem sn_lt {σ : Nat → Int → Int} {d : Nat → Nat} : ∀ k, setN σ d k < 2 ^ k
  | 0 => Nat.one_pos
  | k + 1 => by
    have := sn_lt (σ := σ) (d := d) k
    show setN σ d k + (if d k < lnS σ k then 2 ^ k else 0) < 2 ^ (k + 1)
    rw [Nat.pow_succ]
    split <;> omega
theorem sn_bit {σ : Nat → Int → Int} {d : Nat → Nat} {q : Nat} : ∀ k, (setN σ d k).testBit q = true ↔ (q < k ∧ d q < lnS σ q)
  | 0 => by
    rw [show setN σ d 0 = 0 from rfl, Nat.zero_testBit]
    exact ⟨fun h => (by cases h), fun h => absurd h.1 (by omega)⟩
  | k + 1 => by
    have hl := sn_lt (σ := σ) (d := d) k
    have ih := sn_bit (σ := σ) (d := d) (q := q) k
    show (setN σ d k + (if d k < lnS σ k then 2 ^ k else 0)).testBit q = true ↔ _
    by_cases c : d k < lnS σ k
    · rw [if_pos c]
      have e : setN σ d k + 2 ^ k = setN σ d k ||| 2 ^ k := by
        have := Nat.two_pow_add_eq_or_of_lt hl 1
        rw [Nat.mul_one] at this
        rw [Nat.add_comm, this, Nat.or_comm]
      rw [e, Nat.testBit_or, Nat.testBit_two_pow, Bool.or_eq_true, ih, decide_eq_true_iff]
      constructor
      · rintro (h | h)
        · exact ⟨by omega, h.2⟩
        · subst h; exact ⟨by omega, c⟩
      · rintro ⟨h1, h2⟩
        by_cases u : k = q
        · exact Or.inr u
        · exact Or.inl ⟨by omega, h2⟩
    · rw [if_neg c, Nat.add_zero, ih]
      constructor
      · rintro ⟨h1, h2⟩; exact ⟨by omega, h2⟩
      · rintro ⟨h1, h2⟩
        by_cases u : q = k
        · subst u; exact absurd h2 c
        · exact ⟨by omega, h2⟩
/-- a choice of the reference is one of the class -/
def upC (σ : Nat → Int → Int) (d : Nat → Nat) : Nat → Nat := fun q => if d q < lnS σ q then d q else 112
theorem ok_vec {σ : Nat → Int → Int} (hN : WFn σ) (hP : WFp σ) {d : Nat → Nat} (h : okS σ (fun _ _ => False) (nP σ) d) : Vec σ (setN σ d (nP σ)) (upC σ d) := by
  refine ⟨(sol_iff (mk_4 hN hP) (is_b hP) (nP σ) 0 _ 0 _).mpr ⟨fun q q1 q2 hq => ?_, fun q s q1 q2 q3 hq hs => ?_⟩, fun q q1 q2 hq => ?_⟩
  · have := ((sn_bit _).mp hq).2
    unfold upC
    rw [if_pos this]
    exact ⟨this, fre_0⟩
  · have a1 := ((sn_bit _).mp hq).2
    have a2 := ((sn_bit _).mp hs).2
    unfold upC
    rw [if_pos a1, if_pos a2]
    exact go_sym (((h s (by omega)).2 a2).2 q q2 a1)
  · unfold upC
    rw [if_neg (fun u => by rw [(sn_bit _).mpr ⟨q2, u⟩] at hq; cases hq)]
theorem vec_ok {σ : Nat → Int → Int} (hN : WFn σ) (hP : WFp σ) {s : Nat} {c : Nat → Nat} (h : Vec σ s c) : okS σ (fun _ _ => False) (nP σ) (nzC σ c) := fun p hp => by
  have hi := (sol_iff (mk_4 hN hP) (is_b hP) (nP σ) 0 s 0 c).mp h.1
  refine ⟨by unfold nzC; split <;> omega, fun u => ⟨fun v => v, fun q hq hq2 => ?_⟩⟩
  have u1 := nz_in.mp u
  have u2 := nz_in.mp hq2
  rw [nz_at u1, nz_at u2]
  exact go_sym (hi.2 q p (by omega) hq (by omega) ((vec_in hN hP h (by omega)).mp u2) ((vec_in hN hP h (by omega)).mp u1))
theorem lex_nz {σ : Nat → Int → Int} (hN : WFn σ) (hP : WFp σ) {s s2 n : Nat} {c d : Nat → Nat} (hn : n ≤ nP σ) (h : Vec σ s c) (h2 : Vec σ s2 d) (hl : lexL n c d) : lexL n (nzC σ c) (nzC σ d) := by
  obtain ⟨p, p1, p2, p3⟩ := hl
  refine ⟨p, p1, ?_, fun q hq => by unfold nzC; rw [p3 q hq]⟩
  have v1 := vec_in hN hP h (q := p) (by omega)
  have v2 := vec_in hN hP h2 (q := p) (by omega)
  have hb := ln_b hN hP p
  unfold nzC
  by_cases c1 : c p < lnS σ p
  · rw [if_pos c1]
    split <;> omega
  · have e : c p = 112 := h.2 p (by omega) (by omega) (by
      cases hb : s.testBit p with
      | false => rfl
      | true => exact absurd (v1.mpr hb) c1)
    by_cases c2 : d p < lnS σ p
    · omega
    · have e2 : d p = 112 := h2.2 p (by omega) (by omega) (by
        cases hb : s2.testBit p with
        | false => rfl
        | true => exact absurd (v2.mpr hb) c2)
      omega
theorem nz_up {σ : Nat → Int → Int} {d : Nat → Nat} {n : Nat} (h : ∀ q, q < n → d q ≤ lnS σ q) (hb : ∀ q, lnS σ q ≤ 112) : eqN n (nzC σ (upC σ d)) d := fun q hq => by
  have h1 := h q hq
  have h2 := hb q
  unfold nzC upC
  by_cases c : d q < lnS σ q
  · rw [if_pos c, if_pos c]
  · rw [if_neg c, if_neg (by omega)]
    omega
/-- the best of the class's choices is the best of all -/
theorem isB_vec {σ : Nat → Int → Int} (hN : WFn σ) (hP : WFp σ) {w z : Nat → Int} {s : Nat} {c : Nat → Nat} (h : Vec σ s c) (hb : ∀ s2 d, s2 < 2 ^ nP σ → Vec σ s2 d → eqN (nP σ) c d ∨ betL (nP σ) (fun c => sumC (lnS σ) w c (nP σ)) (fun c => sumC (lnS σ) z c (nP σ)) c d) : IsB (nP σ) (okS σ (fun _ _ => False) (nP σ)) (fun c => sumC (lnS σ) w c (nP σ)) (fun c => sumC (lnS σ) z c (nP σ)) (nzC σ c) := by
  refine ⟨vec_ok hN hP h, fun d hd => ?_⟩
  have hv := ok_vec hN hP hd
  have he := nz_up (σ := σ) (d := d) (n := nP σ) (fun q hq => (hd q hq).1) (ln_b hN hP)
  rcases hb _ _ (sn_lt _) hv with u | u
  · left
    intro q hq
    rw [← he q hq]
    unfold nzC
    rw [u q hq]
  · right
    have e1 : ∀ f, sumC (lnS σ) f (upC σ d) (nP σ) = sumC (lnS σ) f d (nP σ) := fun f => by rw [← nz_sum f, sum_eq _ he]
    unfold betL at u ⊢
    dsimp only at u ⊢
    rw [e1, e1] at u
    rw [nz_sum, nz_sum]
    rcases u with u | ⟨u1, u | ⟨u2, u⟩⟩
    · exact Or.inl u
    · exact Or.inr ⟨u1, Or.inl u⟩
    · exact Or.inr ⟨u1, Or.inr ⟨u2, lex_eq (lex_nz hN hP (Nat.le_refl _) h hv u) he⟩⟩
theorem sol_sub {σ : Nat → Int → Int} (hN : WFn σ) (hP : WFp σ) {r p s s2 t : Nat} {c : Nat → Nat} (hs : ∀ q, p ≤ q → q < p + r → s2.testBit q = true → s.testBit q = true) (h : solS σ r p s t c) : solS σ r p s2 t c := by
  have hi := (sol_iff (mk_4 hN hP) (is_b hP) r p s t c).mp h
  exact (sol_iff (mk_4 hN hP) (is_b hP) r p s2 t c).mpr ⟨fun q q1 q2 hq => hi.1 q q1 q2 (hs q q1 q2 hq), fun q u q1 q2 q3 hq hu => hi.2 q u q1 q2 q3 (hs q q1 (by omega) hq) (hs u (by omega) q3 hu)⟩
/-- the tables, for sets below m -/
def TBl (σ J : Nat → Int → Int) (m : Nat) : Prop := ∀ s : Nat, s < m → (J 80 s = 1 ∧ ∃ c, FirS σ (nP σ) 0 s 0 c ∧ ∀ q : Nat, q < nP σ → J (82 + s) q = (c q : Int)) ∨ (J 80 s = 0 ∧ ∀ c, ¬ solS σ (nP σ) 0 s 0 c)
def TBw (σ J : Nat → Int → Int) (m : Nat) : Prop := ∀ s : Nat, s < m → J 114 s = sB (wS σ) s (nP σ) ∧ J 115 s = sB (zS σ) s (nP σ) ∧ J 116 s = ((uS σ s (nP σ) : Nat) : Int)
theorem fir_vec {σ : Nat → Int → Int} {s : Nat} {c : Nat → Nat} (h : FirS σ (nP σ) 0 s 0 c) : Vec σ s c := by
  obtain ⟨h1, h2, -⟩ := h
  rw [Nat.zero_add] at h2
  exact ⟨h1, h2⟩
theorem fir_lex {σ : Nat → Int → Int} {s : Nat} {c d : Nat → Nat} (h : FirS σ (nP σ) 0 s 0 c) (hd : Vec σ s d) : eqN (nP σ) c d ∨ lexL (nP σ) c d := by
  obtain ⟨h1, h2, h3⟩ := h
  rw [Nat.zero_add] at h3
  rcases lex_tri (c := c) (d := d) (nP σ) with u | u | u
  · exact Or.inl u
  · exact Or.inr u
  · obtain ⟨p, p1, p2, p3⟩ := u
    exact absurd ⟨p, Nat.zero_le _, p1, p2, fun q _ hq => p3 q hq⟩ (h3 d hd.1 hd.2)
abbrev wX (σ : Nat → Int → Int) (a v : Int) (q : Nat) : Int := if (q : Int) = a then v else wS σ q
theorem sB_x {σ : Nat → Int → Int} {s : Nat} {a v : Int} : ∀ k : Nat, sB (wX σ a v) s k = sB (wS σ) s k + (if 0 ≤ a ∧ a < (k : Int) ∧ s.testBit a.toNat = true then v - wS σ a.toNat else 0)
  | 0 => by
    rw [if_neg (by omega)]
    rfl
  | k + 1 => by
    rw [sB_s, sB_s, sB_x k]
    by_cases c : (k : Int) = a
    · subst c
      rw [if_neg (show ¬ (0 ≤ (k : Int) ∧ (k : Int) < (k : Int) ∧ _) from fun u => by omega), Int.toNat_natCast]
      by_cases b : s.testBit k = true
      · rw [if_pos b, if_pos b, if_pos ⟨by omega, by omega, b⟩]
        show _ + 0 + (if (k : Int) = (k : Int) then v else wS σ k) = _
        rw [if_pos rfl]
        omega
      · rw [if_neg b, if_neg b, if_neg (fun u => b u.2.2)]
    · have e : wX σ a v k = wS σ k := if_neg c
      rw [e]
      by_cases b : 0 ≤ a ∧ a < (k : Int) ∧ s.testBit a.toNat = true
      · rw [if_pos b, if_pos (show 0 ≤ a ∧ a < ((k + 1 : Nat) : Int) ∧ s.testBit a.toNat = true from ⟨b.1, by omega, b.2.2⟩)]
        omega
      · rw [if_neg b, if_neg (show ¬ (0 ≤ a ∧ a < ((k + 1 : Nat) : Int) ∧ s.testBit a.toNat = true) from fun u => b ⟨u.1, by omega, u.2.2⟩)]
        omega
