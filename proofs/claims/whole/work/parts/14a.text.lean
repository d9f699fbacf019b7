/-! texts, purely: t the bytes, m how many -/
def isBl (c : Int) : Bool := decide (c = 32)
def isLe (c : Int) : Bool := decide (97 ≤ c ∧ c ≤ 122)
def isDi (c : Int) : Bool := decide (48 ≤ c ∧ c ≤ 57)
def rnS (t : Int → Int) (f : Int → Bool) : Nat → Nat → Nat
  | 0, i => i
  | k + 1, i => if f (t i) = true then rnS t f k (i + 1) else i
def enS (t : Int → Int) (m : Nat) (f : Int → Bool) (i : Nat) : Nat := rnS t f (m - i) i
section TX
variable {t : Int → Int} {m : Nat} {f : Int → Bool}
theorem en_step {i : Nat} (h : i < m) (hf : f (t i) = true) : enS t m f i = enS t m f (i + 1) := by
  unfold enS
  rw [show m - i = (m - (i + 1)) + 1 by omega]
  exact if_pos hf
theorem en_stop {i : Nat} (h : i < m) (hf : f (t i) = false) : enS t m f i = i := by
  unfold enS
  rw [show m - i = (m - (i + 1)) + 1 by omega]
  exact if_neg (by rw [hf]; decide)
theorem en_end : enS t m f m = m := by
  unfold enS
  rw [Nat.sub_self]
  rfl
theorem rn_b : ∀ (k i : Nat), i ≤ rnS t f k i ∧ rnS t f k i ≤ i + k
  | 0, i => ⟨Nat.le_refl _, Nat.le_refl _⟩
  | k + 1, i => by
    have := rn_b k (i + 1)
    unfold rnS
    split <;> omega
theorem en_b {i : Nat} (h : i ≤ m) : i ≤ enS t m f i ∧ enS t m f i ≤ m := by
  have := rn_b (t := t) (f := f) (m - i) i
  unfold enS
  omega
theorem rn_all : ∀ (k i q : Nat), i ≤ q → q < rnS t f k i → f (t q) = true
  | 0, i, q, h1, h2 => absurd (show q < i from h2) (by omega)
  | k + 1, i, q, h1, h2 => by
    by_cases c1 : f (t i) = true
    · rw [show rnS t f (k + 1) i = rnS t f k (i + 1) from if_pos c1] at h2
      by_cases c2 : q = i
      · rw [c2]; exact c1
      · exact rn_all k (i + 1) q (by omega) h2
    · rw [show rnS t f (k + 1) i = i from if_neg c1] at h2
      omega
theorem en_all {i q : Nat} (h1 : i ≤ q) (h2 : q < enS t m f i) : f (t q) = true := rn_all (m - i) i q h1 h2
theorem rn_at : ∀ (k i : Nat), rnS t f k i < i + k → f (t (rnS t f k i)) = false
  | 0, i, h => absurd (show i < i + 0 from h) (by omega)
  | k + 1, i, h => by
    by_cases c1 : f (t i) = true
    · have e : rnS t f (k + 1) i = rnS t f k (i + 1) := if_pos c1
      rw [e] at h ⊢
      exact rn_at k (i + 1) (by omega)
    · have e : rnS t f (k + 1) i = i := if_neg c1
      rw [e]
      simpa using c1
theorem en_at {i : Nat} (h0 : i ≤ m) (h : enS t m f i < m) : f (t (enS t m f i)) = false := rn_at (m - i) i (by unfold enS at h; omega)
end TX
def wcF (u : Nat → Int) : Nat → Int
  | 0 => 0
  | k + 1 => 27 * wcF u k + u k - 96
def nuF (u : Nat → Int) : Nat → Int
  | 0 => 0
  | k + 1 => 10 * nuF u k + u k - 48
theorem wc_s {u : Nat → Int} {k : Nat} : wcF u (k + 1) = 27 * wcF u k + u k - 96 := rfl
theorem nu_s {u : Nat → Int} {k : Nat} : nuF u (k + 1) = 10 * nuF u k + u k - 48 := rfl
theorem wc_nn {u : Nat → Int} : ∀ k, (∀ i, i < k → 97 ≤ u i ∧ u i ≤ 122) → 0 ≤ wcF u k
  | 0, _ => Int.le_refl _
  | k + 1, h => by
    have h1 := wc_nn k (fun i hi => h i (by omega))
    have h2 := h k (by omega)
    rw [wc_s]
    omega
theorem wc_inj {u v : Nat → Int} : ∀ k n : Nat, (∀ i, i < k → 97 ≤ u i ∧ u i ≤ 122) → (∀ i, i < n → 97 ≤ v i ∧ v i ≤ 122) → wcF u k = wcF v n → k = n ∧ ∀ i, i < k → u i = v i
  | 0, 0, _, _, _ => ⟨rfl, fun i hi => absurd hi (by omega)⟩
  | 0, n + 1, _, h2, e => by
    have h3 := wc_nn n (fun i hi => h2 i (by omega))
    have h4 := h2 n (by omega)
    rw [wc_s] at e
    have e0 : wcF u 0 = 0 := rfl
    omega
  | k + 1, 0, h1, _, e => by
    have h3 := wc_nn k (fun i hi => h1 i (by omega))
    have h4 := h1 k (by omega)
    rw [wc_s] at e
    have e0 : wcF v 0 = 0 := rfl
    omega
  | k + 1, n + 1, h1, h2, e => by
    rw [wc_s, wc_s] at e
    have h4 := h1 k (by omega)
    have h5 := h2 n (by omega)
    obtain ⟨a1, a2⟩ := wc_inj k n (fun i hi => h1 i (by omega)) (fun i hi => h2 i (by omega)) (by omega)
    subst a1
    refine ⟨rfl, fun i hi => ?_⟩
    by_cases c1 : i = k
    · subst c1; omega
    · exact a2 i (by omega)
theorem wc_eq {u v : Nat → Int} : ∀ k : Nat, (∀ i, i < k → u i = v i) → wcF u k = wcF v k
  | 0, _ => rfl
  | k + 1, h => by rw [wc_s, wc_s, wc_eq k (fun i hi => h i (by omega)), h k (by omega)]
theorem wc_ub {u : Nat → Int} : ∀ k : Nat, (∀ i, i < k → 97 ≤ u i ∧ u i ≤ 122) → wcF u k < 27 ^ k
  | 0, _ => by
    rw [Int.pow_zero]
    exact (by decide : (0 : Int) < 1)
  | k + 1, h => by
    have h1 := wc_ub k (fun i hi => h i (by omega))
    have h2 := h k (by omega)
    rw [wc_s, Int.pow_succ]
    omega
theorem nu_b {u : Nat → Int} : ∀ k : Nat, k ≤ 2 → (∀ i, i < k → 48 ≤ u i ∧ u i ≤ 57) → 0 ≤ nuF u k ∧ nuF u k ≤ 99
  | 0, _, _ => ⟨Int.le_refl _, by show (0 : Int) ≤ 99; decide⟩
  | 1, _, h => by
    have h2 := h 0 (by omega)
    have e : nuF u 1 = 10 * 0 + u 0 - 48 := rfl
    omega
  | 2, _, h => by
    have h2 := h 0 (by omega)
    have h3 := h 1 (by omega)
    have e : nuF u 2 = 10 * (10 * 0 + u 0 - 48) + u 1 - 48 := rfl
    omega
  | k + 3, hk, _ => absurd hk (by omega)
def woS (w : Int) : Int := if w = 237307 then 0 else if w = 459818 then 1 else if w = 47 then 2 else if w = 12532058 then 3 else if w = 84825500 then 4 else if w = 275391799 then 5 else if w = 990 then 6 else if w = 453701 then 7 else if w = 555 then 8 else if w = 79958 then 20 else 99
abbrev frS (t : Int → Int) (b : Nat) : Nat → Int := fun i => t ((b + i : Nat) : Int)
def tkE (t : Int → Int) (m b : Nat) : Nat := if isLe (t b) = true then enS t m isLe b else if isDi (t b) = true then enS t m isDi b else b + 1
def kdS (t : Int → Int) (m b : Nat) : Int := if isLe (t b) = true then (if 8 < tkE t m b - b then 99 else woS (wcF (frS t b) (tkE t m b - b))) else if isDi (t b) = true then (if 2 < tkE t m b - b then 99 else 40) else if t b = 58 then 30 else if t b = 44 then 31 else 99
def vlS (t : Int → Int) (m b : Nat) : Int := if isDi (t b) = true then nuF (frS t b) (if tkE t m b - b < 2 then tkE t m b - b else 2) else 0
def psT (t : Int → Int) (m : Nat) : Nat → Nat
  | 0 => 0
  | k + 1 => if enS t m isBl (psT t m k) < m then tkE t m (enS t m isBl (psT t m k)) else m
abbrev plT (t : Int → Int) (m k : Nat) : Nat := enS t m isBl (psT t m k)
def kiT (t : Int → Int) (m k : Nat) : Int := if plT t m k < m then kdS t m (plT t m k) else 50
def vaT (t : Int → Int) (m k : Nat) : Int := if plT t m k < m then vlS t m (plT t m k) else 0
theorem ps_s {t : Int → Int} {m k : Nat} : psT t m (k + 1) = if plT t m k < m then tkE t m (plT t m k) else m := rfl
theorem le_di {c : Int} (h : isLe c = true) : isDi c = false := by
  unfold isLe at h
  unfold isDi
  simp only [decide_eq_true_eq, decide_eq_false_iff_not] at *
  omega
theorem tk_b {t : Int → Int} {m b : Nat} (h : b < m) : b < tkE t m b ∧ tkE t m b ≤ m := by
  unfold tkE
  by_cases c1 : isLe (t b) = true
  · rw [if_pos c1, en_step h c1]
    have := en_b (t := t) (f := isLe) (show b + 1 ≤ m by omega)
    omega
  · rw [if_neg c1]
    by_cases c2 : isDi (t b) = true
    · rw [if_pos c2, en_step h c2]
      have := en_b (t := t) (f := isDi) (show b + 1 ≤ m by omega)
      omega
    · rw [if_neg c2]
      omega
theorem ps_le {t : Int → Int} {m : Nat} : ∀ k, psT t m k ≤ m
  | 0 => Nat.zero_le _
  | k + 1 => by
    rw [ps_s]
    split
    · exact (tk_b (by assumption)).2
    · exact Nat.le_refl _
theorem pl_le {t : Int → Int} {m k : Nat} : psT t m k ≤ plT t m k ∧ plT t m k ≤ m := en_b (ps_le k)
theorem ps_ge {t : Int → Int} {m : Nat} : ∀ k, (∀ q, q < k → plT t m q < m) → k ≤ psT t m k
  | 0, _ => Nat.zero_le _
  | k + 1, h => by
    have h1 := ps_ge k (fun q hq => h q (by omega))
    have h2 := h k (by omega)
    have h3 := pl_le (t := t) (m := m) (k := k)
    rw [ps_s, if_pos h2]
    have := tk_b (t := t) h2
    omega
theorem wo_v (w : Int) : (0 ≤ woS w ∧ woS w ≤ 8) ∨ woS w = 20 ∨ woS w = 99 := by
  unfold woS
  (repeat' split) <;> omega
theorem kd_v {t : Int → Int} {m b : Nat} : (0 ≤ kdS t m b ∧ kdS t m b ≤ 8) ∨ kdS t m b = 20 ∨ kdS t m b = 30 ∨ kdS t m b = 31 ∨ kdS t m b = 40 ∨ kdS t m b = 99 := by
  have := wo_v (wcF (frS t b) (tkE t m b - b))
  unfold kdS
  (repeat' split) <;> omega
theorem ki_v {t : Int → Int} {m k : Nat} : (0 ≤ kiT t m k ∧ kiT t m k ≤ 99) ∧ (kiT t m k = 50 ↔ ¬ plT t m k < m) := by
  have := kd_v (t := t) (m := m) (b := plT t m k)
  unfold kiT
  split <;> omega
theorem va_b {t : Int → Int} {m k : Nat} : 0 ≤ vaT t m k ∧ vaT t m k ≤ 99 := by
  unfold vaT
  split
  · rename_i hb
    unfold vlS
    split
    · rename_i hd
      refine nu_b _ (by split <;> omega) (fun i hi => ?_)
      have h1 : plT t m k + i < tkE t m (plT t m k) := by split at hi <;> omega
      have hl : isLe (t (plT t m k)) = false := by
        cases hc : isLe (t (plT t m k)) with
        | false => rfl
        | true => rw [le_di hc] at hd; cases hd
      unfold tkE at h1
      rw [if_neg (by rw [hl]; decide), if_pos hd] at h1
      have := en_all (t := t) (m := m) (f := isDi) (i := plT t m k) (q := plT t m k + i) (by omega) h1
      unfold isDi at this
      exact of_decide_eq_true this
    · omega
  · omega
/-! the form -/
def updR (r : Int → Int) (k z : Int) : Int → Int := fun i => if i = k then z else r i
theorem ur_at {r : Int → Int} {k z : Int} : updR r k z k = z := if_pos rfl
theorem ur_ne {r : Int → Int} {k z i : Int} (h : i ≠ k) : updR r k z i = r i := if_neg h
def wnS (at_ : Int) : Int := if at_ = 0 then 0 else if at_ = 2 then 1 else if at_ = 4 then 2 else if at_ = 6 then 3 else if at_ = 8 then 30 else if at_ = 9 then 4 else if at_ = 11 then 5 else if at_ = 13 then 6 else if at_ = 16 then 7 else if at_ = 18 then 8 else if at_ = 20 then 31 else 40
def loS (at_ j : Int) (r : Int → Int) : Int := if at_ = 7 then 1 else if at_ = 10 then 1 else if at_ = 19 then r (5 + 6 * j + 4) else 0
def hiS (σ : Nat → Int → Int) (at_ j : Int) (r : Int → Int) : Int := if at_ = 1 then 3 else if at_ = 3 then 2 else if at_ = 5 then σ 127 2 - 1 else if at_ = 7 then 99 else if at_ = 10 then 4 else if at_ = 12 then 3 else if at_ = 14 then 8 else if at_ = 17 then 6 else r (5 + 6 * j + 4) + 3
def ixS (at_ j : Int) : Int := if at_ < 8 then (at_ - 1).tdiv 2 else if at_ < 15 then 5 + 6 * j + (at_ - 10).tdiv 2 else 5 + 6 * j + (if at_ = 17 then 4 else 5)
abbrev mR3 : Type := Int × Int × (Int → Int)
/-- what a number makes of what was read; at 14 the step isn't dark yet -/
def kpS (at_ j : Int) (r : Int → Int) (v : Int) : Int → Int := if at_ = 14 then updR (updR r (ixS at_ j) v) (5 + 6 * j + 3) 0 else updR r (ixS at_ j) v
def stpS (σ : Nat → Int → Int) (at_ j : Int) (r : Int → Int) (k v : Int) : Option mR3 :=
  if at_ = 15 then
    (if k = 20 ∧ r (5 + 6 * j + 3) ≠ 1 then some (15, j, updR r (5 + 6 * j + 3) 1)
    else if k = 31 ∧ j < 2 then some (16, j + 1, r)
    else if k = 50 then some (50, j, r) else none)
  else if k = wnS at_ ∧ (wnS at_ = 40 → loS at_ j r ≤ v ∧ v ≤ hiS σ at_ j r) then
    some (if at_ = 20 then 9 else at_ + 1, j, if wnS at_ = 40 then kpS at_ j r v else r)
  else none
def caS (at_ j : Int) (r : Int → Int) : Int := if at_ = 15 then 8 + (if r (5 + 6 * j + 3) = 1 then 0 else 16) + (if j < 2 then 4 else 0) else if wnS at_ = 40 then 2 else if 30 ≤ wnS at_ then 4 else 1
abbrev mR4 : Type := Int × Int × (Int → Int) × Bool
def rdS (σ : Nat → Int → Int) (t : Int → Int) (m : Nat) : Nat → Nat → mR3 → mR4
  | 0, _, x => (0, 0, x.2.2, false)
  | f + 1, k, x => if x.1 = 50 then (-1, 0, updR x.2.2 4 (x.2.1 + 1), true) else
    match stpS σ x.1 x.2.1 x.2.2 (kiT t m k) (vaT t m k) with
    | none => ((plT t m k : Int), caS x.1 x.2.1 x.2.2, x.2.2, false)
    | some y => rdS σ t m f (k + 1) y
theorem rd_50 {σ : Nat → Int → Int} {t : Int → Int} {m f k : Nat} {x : mR3} (h : x.1 = 50) : rdS σ t m (f + 1) k x = (-1, 0, updR x.2.2 4 (x.2.1 + 1), true) := if_pos h
theorem rd_no {σ : Nat → Int → Int} {t : Int → Int} {m f k : Nat} {x : mR3} (h : x.1 ≠ 50) (e : stpS σ x.1 x.2.1 x.2.2 (kiT t m k) (vaT t m k) = none) : rdS σ t m (f + 1) k x = ((plT t m k : Int), caS x.1 x.2.1 x.2.2, x.2.2, false) := by
  refine (if_neg h).trans ?_
  rw [e]
theorem rd_go {σ : Nat → Int → Int} {t : Int → Int} {m f k : Nat} {x y : mR3} (h : x.1 ≠ 50) (e : stpS σ x.1 x.2.1 x.2.2 (kiT t m k) (vaT t m k) = some y) : rdS σ t m (f + 1) k x = rdS σ t m f (k + 1) y := by
  refine (if_neg h).trans ?_
  rw [e]
/-- the reading of the text -/
def rsS (σ : Nat → Int → Int) : mR4 := rdS σ (σ 133) (σ 127 12).toNat 163 0 (0, 0, fun _ => -1)
/-- a step of a plan, as read -/
def sOK (r : Int → Int) (i : Int) : Prop := (1 ≤ r (5 + 6 * i) ∧ r (5 + 6 * i) ≤ 4) ∧ (0 ≤ r (5 + 6 * i + 1) ∧ r (5 + 6 * i + 1) ≤ 3) ∧ (0 ≤ r (5 + 6 * i + 2) ∧ r (5 + 6 * i + 2) ≤ 8) ∧ (0 ≤ r (5 + 6 * i + 3) ∧ r (5 + 6 * i + 3) ≤ 1) ∧ (1 ≤ i → (0 ≤ r (5 + 6 * i + 4) ∧ r (5 + 6 * i + 4) ≤ 6) ∧ (r (5 + 6 * i + 4) ≤ r (5 + 6 * i + 5) ∧ r (5 + 6 * i + 5) ≤ r (5 + 6 * i + 4) + 3))
def RWF (σ : Nat → Int → Int) (x : mR3) : Prop :=
  (0 ≤ x.2.1 ∧ x.2.1 ≤ 2) ∧ ((0 ≤ x.1 ∧ x.1 ≤ 20) ∨ x.1 = 50) ∧ (x.1 < 9 → x.2.1 = 0) ∧ ((16 ≤ x.1 ∧ x.1 ≤ 20) → 1 ≤ x.2.1) ∧
  (2 ≤ x.1 → 0 ≤ x.2.2 0 ∧ x.2.2 0 ≤ 3) ∧ (4 ≤ x.1 → 0 ≤ x.2.2 1 ∧ x.2.2 1 ≤ 2) ∧ (6 ≤ x.1 → 0 ≤ x.2.2 2 ∧ x.2.2 2 < σ 127 2) ∧ (8 ≤ x.1 → 1 ≤ x.2.2 3 ∧ x.2.2 3 ≤ 99) ∧
  (∀ i, 0 ≤ i → i < x.2.1 → sOK x.2.2 i) ∧
  (((11 ≤ x.1 ∧ x.1 ≤ 15) ∨ x.1 = 50) → 1 ≤ x.2.2 (5 + 6 * x.2.1) ∧ x.2.2 (5 + 6 * x.2.1) ≤ 4) ∧
  (((13 ≤ x.1 ∧ x.1 ≤ 15) ∨ x.1 = 50) → 0 ≤ x.2.2 (5 + 6 * x.2.1 + 1) ∧ x.2.2 (5 + 6 * x.2.1 + 1) ≤ 3) ∧
  ((x.1 = 15 ∨ x.1 = 50) → (0 ≤ x.2.2 (5 + 6 * x.2.1 + 2) ∧ x.2.2 (5 + 6 * x.2.1 + 2) ≤ 8) ∧ (0 ≤ x.2.2 (5 + 6 * x.2.1 + 3) ∧ x.2.2 (5 + 6 * x.2.1 + 3) ≤ 1)) ∧
  (1 ≤ x.2.1 → (x.1 ≠ 16 ∧ x.1 ≠ 17 → 0 ≤ x.2.2 (5 + 6 * x.2.1 + 4) ∧ x.2.2 (5 + 6 * x.2.1 + 4) ≤ 6) ∧ (x.1 ≠ 16 ∧ x.1 ≠ 17 ∧ x.1 ≠ 18 ∧ x.1 ≠ 19 → x.2.2 (5 + 6 * x.2.1 + 4) ≤ x.2.2 (5 + 6 * x.2.1 + 5) ∧ x.2.2 (5 + 6 * x.2.1 + 5) ≤ x.2.2 (5 + 6 * x.2.1 + 4) + 3)) ∧
  (∀ i, x.2.1 < i → i < 3 → ∀ q, 0 ≤ q → q < 6 → x.2.2 (5 + 6 * i + q) = -1)
/-- the word a of the class, by the reference's number -/
def wdS (a : Nat) : Int := if a = 2 then 0 else if a = 3 then 1 else if a = 4 then 2 else if a = 5 then 3 else if a = 6 then 4 else if a = 7 then 5 else if a = 8 then 6 else if a = 9 then 20 else if a = 10 then 7 else 8
abbrev stF (a : Nat) : Nat → Int := fun i => (mStr a).getD i 0
theorem wo_iff {a : Nat} {w : Int} (h0 : 2 ≤ a) (h1 : a ≤ 11) : woS w = wdS a ↔ w = wcF (stF a) (mStr a).length := by
  have hc : ∀ a, 2 ≤ a → a ≤ 11 → wcF (stF a) (mStr a).length = (if a = 2 then 237307 else if a = 3 then 459818 else if a = 4 then 47 else if a = 5 then 12532058 else if a = 6 then 84825500 else if a = 7 then 275391799 else if a = 8 then 990 else if a = 9 then 79958 else if a = 10 then 453701 else 555) := by
    intro a g0 g1
    rcases (show a = 2 ∨ a = 3 ∨ a = 4 ∨ a = 5 ∨ a = 6 ∨ a = 7 ∨ a = 8 ∨ a = 9 ∨ a = 10 ∨ a = 11 from by omega) with e | e | e | e | e | e | e | e | e | e <;> (subst e; decide +kernel)
  rw [hc a h0 h1]
  unfold woS wdS
  rcases (show a = 2 ∨ a = 3 ∨ a = 4 ∨ a = 5 ∨ a = 6 ∨ a = 7 ∨ a = 8 ∨ a = 9 ∨ a = 10 ∨ a = 11 from by omega) with e | e | e | e | e | e | e | e | e | e <;> (subst e; simp only [if_true, if_false, Nat.reduceEqDiff]; (repeat' split) <;> omega)
theorem stw_le {a : Nat} (h0 : 2 ≤ a) (h1 : a ≤ 11) : (1 ≤ (mStr a).length ∧ (mStr a).length ≤ 6) ∧ ∀ i, i < (mStr a).length → 97 ≤ stF a i ∧ stF a i ≤ 122 := by
  have key : ∀ a, a < 12 → 2 ≤ a → (1 ≤ (mStr a).length ∧ (mStr a).length ≤ 6) ∧ ∀ i, i < (mStr a).length → 97 ≤ stF a i ∧ stF a i ≤ 122 := by decide +kernel
  exact key a (by omega) h0
/-- a word is the one that the class looks for, just if its number is the reference's -/
theorem kd_wd {t : Int → Int} {m b a : Nat} (hb : b < m) (hl : isLe (t b) = true) (h0 : 2 ≤ a) (h1 : a ≤ 11) : kdS t m b = wdS a ↔ (tkE t m b - b = (mStr a).length ∧ ∀ i, i < (mStr a).length → t ((b + i : Nat) : Int) = stF a i) := by
  obtain ⟨⟨l1, l2⟩, l3⟩ := stw_le h0 h1
  have hw : wdS a ≠ 99 := by unfold wdS; (repeat' split) <;> omega
  have hlet : ∀ i, i < tkE t m b - b → 97 ≤ frS t b i ∧ frS t b i ≤ 122 := fun i hi => by
    have : b + i < enS t m isLe b := by
      unfold tkE at hi
      rw [if_pos hl] at hi
      omega
    have := en_all (t := t) (m := m) (f := isLe) (i := b) (q := b + i) (by omega) this
    unfold isLe at this
    exact of_decide_eq_true this
  unfold kdS
  rw [if_pos hl]
  constructor
  · intro e
    by_cases c1 : 8 < tkE t m b - b
    · rw [if_pos c1] at e
      exact absurd e.symm hw
    · rw [if_neg c1, wo_iff h0 h1] at e
      obtain ⟨a1, a2⟩ := wc_inj _ _ hlet l3 e
      exact ⟨a1, fun i hi => a2 i (by omega)⟩
  · rintro ⟨e1, e2⟩
    rw [if_neg (by omega), wo_iff h0 h1, e1]
    exact wc_eq _ (fun i hi => e2 i hi)
theorem kd_le {t : Int → Int} {m b : Nat} (hl : isLe (t b) = true) : (0 ≤ kdS t m b ∧ kdS t m b ≤ 8) ∨ kdS t m b = 20 ∨ kdS t m b = 99 := by
  have := wo_v (wcF (frS t b) (tkE t m b - b))
  unfold kdS
  rw [if_pos hl]
  split <;> omega
theorem kd_di {t : Int → Int} {m b : Nat} (hl : isLe (t b) = false) (hd : isDi (t b) = true) : kdS t m b = (if 2 < tkE t m b - b then 99 else 40) := by
  unfold kdS
  rw [if_neg (by rw [hl]; decide), if_pos hd]
theorem kd_ot {t : Int → Int} {m b : Nat} (hl : isLe (t b) = false) (hd : isDi (t b) = false) : kdS t m b = (if t b = 58 then 30 else if t b = 44 then 31 else 99) := by
  unfold kdS
  rw [if_neg (by rw [hl]; decide), if_neg (by rw [hd]; decide)]
