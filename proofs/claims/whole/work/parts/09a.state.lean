/-! the state: what the reference's cells hold, and what the class's cells hold beside it -/
/-- the places of the reference that are its state (the others are its scratch) -/
def isSt (a : Nat) (k : Int) : Bool := (a == 127 && (k == 0 || k == 1 || k == 2 || k == 6 || k == 7 || k == 8 || k == 10 || k == 12 || k == 21 || k == 31 || k == 39)) || (decide (128 ≤ a) && decide (a ≤ 133)) || a == 138 || a == 149 || a == 150
def sig (I : Nat → Int → Int) : Nat → Int → Int := fun a k => if isSt a k = true then I a k else 0
theorem st_s {I σ : Nat → Int → Int} {a : Nat} {k : Int} (hs : sig I = σ) (h : isSt a k = true) : I a k = σ a k := by
  rw [← hs]
  exact (if_pos h).symm
theorem sig_eq {I I' : Nat → Int → Int} (h : ∀ a k, isSt a k = true → I' a k = I a k) : sig I' = sig I := by
  funext a k
  unfold sig
  by_cases c1 : isSt a k = true
  · rw [if_pos c1, if_pos c1, h a k c1]
  · rw [if_neg c1, if_neg c1]
theorem sig_no {I : Nat → Int → Int} {a : Nat} {k z : Int} (h : isSt a k = false) : sig (upI I a k z) = sig I := sig_eq fun a' k' h' => if_neg (fun q => by rw [q.1, q.2, h] at h'; cases h')
theorem sig_up {I : Nat → Int → Int} {a : Nat} {k z : Int} (h : isSt a k = true) : sig (upI I a k z) = upI (sig I) a k z := by
  funext a' k'
  unfold sig upI
  by_cases c1 : a' = a ∧ k' = k
  · rw [if_pos c1, if_pos c1, c1.1, c1.2, if_pos h]
  · rw [if_neg c1, if_neg c1]
theorem up_ne {I : Nat → Int → Int} {a a' : Nat} {k k' z : Int} (h : a' ≠ a) : upI I a k z a' k' = I a' k' := if_neg (fun q => h q.1)
theorem up_nk {I : Nat → Int → Int} {a a' : Nat} {k k' z : Int} (h : k' ≠ k) : upI I a k z a' k' = I a' k' := if_neg (fun q => h q.2)
theorem up_at {I : Nat → Int → Int} {a : Nat} {k z : Int} : upI I a k z a k = z := if_pos ⟨rfl, rfl⟩
theorem up_eq {I : Nat → Int → Int} {a a' : Nat} {k k' z : Int} (h1 : a' = a) (h2 : k' = k) : upI I a k z a' k' = z := if_pos ⟨h1, h2⟩
def zabs (x : Int) : Int := if 0 ≤ x then x else -x
/-- the state's bounds -/
def WFn (σ : Nat → Int → Int) : Prop := (4 ≤ σ 127 0 ∧ σ 127 0 ≤ 12) ∧ (0 ≤ σ 127 1 ∧ σ 127 1 ≤ 300) ∧ (0 ≤ σ 127 2 ∧ σ 127 2 ≤ 8) ∧ (∀ t, 0 ≤ t → t < σ 127 2 → (0 ≤ σ 128 t ∧ σ 128 t ≤ 40) ∧ (0 ≤ σ 129 t ∧ σ 129 t ≤ 8) ∧ (0 ≤ σ 130 t ∧ σ 130 t ≤ 3)) ∧ (-1 ≤ σ 127 6 ∧ σ 127 6 ≤ 3) ∧ (0 ≤ σ 127 7 ∧ σ 127 7 ≤ 11) ∧ (0 ≤ σ 127 8 ∧ σ 127 8 ≤ 11) ∧ (0 ≤ σ 127 10 ∧ σ 127 10 ≤ 4) ∧ (∀ i, 0 ≤ i → i < 72 → 0 ≤ σ 131 i ∧ σ 131 i ≤ 4) ∧ (∀ w, 0 ≤ w → w < σ 127 10 → 1 ≤ σ 132 w ∧ σ 132 w ≤ 9)
def WFt (σ : Nat → Int → Int) : Prop := (0 ≤ σ 127 12 ∧ σ 127 12 ≤ 160) ∧ ∀ i, 0 ≤ i → i < σ 127 12 → 0 ≤ σ 133 i ∧ σ 133 i ≤ 255
/-- place k of plan p -/
abbrev pf (σ : Nat → Int → Int) (p k : Int) : Int := σ 138 (23 * p + k)
/-- place q of step j of plan p -/
abbrev ps (σ : Nat → Int → Int) (p j q : Int) : Int := σ 138 (23 * p + 5 + 6 * j + q)
def PlWF (σ : Nat → Int → Int) (p : Int) : Prop := (0 ≤ pf σ p 0 ∧ pf σ p 0 ≤ 3) ∧ (0 ≤ pf σ p 1 ∧ pf σ p 1 ≤ 2) ∧ (0 ≤ pf σ p 2 ∧ pf σ p 2 < σ 127 2) ∧ (1 ≤ pf σ p 3 ∧ pf σ p 3 ≤ 99) ∧ (1 ≤ pf σ p 4 ∧ pf σ p 4 ≤ 3) ∧
  ∀ j, 0 ≤ j → j < 3 → (j < pf σ p 4 → (1 ≤ ps σ p j 0 ∧ ps σ p j 0 ≤ 4) ∧ (0 ≤ ps σ p j 1 ∧ ps σ p j 1 ≤ 3) ∧ (0 ≤ ps σ p j 2 ∧ ps σ p j 2 ≤ 8) ∧ (0 ≤ ps σ p j 3 ∧ ps σ p j 3 ≤ 1) ∧ (1 ≤ j → (0 ≤ ps σ p j 4 ∧ ps σ p j 4 ≤ 6) ∧ (ps σ p j 4 ≤ ps σ p j 5 ∧ ps σ p j 5 ≤ ps σ p j 4 + 3))) ∧ (pf σ p 4 ≤ j → ∀ q, 0 ≤ q → q < 6 → ps σ p j q = -1)
def WFp (σ : Nat → Int → Int) : Prop := (0 ≤ σ 127 21 ∧ σ 127 21 ≤ 5) ∧ ∀ p, 0 ≤ p → p < σ 127 21 → PlWF σ p
def WFl (σ : Nat → Int → Int) : Prop := (∀ l, 0 ≤ l → l < 4 → 1 ≤ σ 149 l ∧ σ 149 l ≤ 20) ∧ (∀ k, 0 ≤ k → k < 8 → 0 ≤ σ 150 k ∧ σ 150 k ≤ 12 * σ 127 1) ∧ (0 ≤ σ 127 39 ∧ σ 127 39 ≤ 495 * σ 127 1)
def WFs (σ : Nat → Int → Int) : Prop := WFn σ ∧ WFt σ ∧ WFp σ ∧ (0 ≤ σ 127 31 ∧ σ 127 31 ≤ 1) ∧ WFl σ
/-- the class's cells -/
def CRn (I σ : Nat → Int → Int) : Prop := I 17 0 = σ 127 0 ∧ I 17 1 = σ 127 1 ∧ I 17 3 = σ 127 2 ∧ I 17 4 = σ 127 6 ∧ I 17 5 = σ 127 7 ∧ I 17 6 = σ 127 8 ∧ I 17 9 = σ 127 10 ∧ (∀ t, 0 ≤ t → t < σ 127 2 → I (27 + t.toNat) 0 = σ 128 t ∧ I (27 + t.toNat) 1 = σ 129 t ∧ I (27 + t.toNat) 2 = σ 130 t) ∧ (∀ k s, 0 ≤ k → k < 2 + σ 127 10 → 0 ≤ s → s < 12 → I (20 + k.toNat) s = σ 131 (12 * k + s)) ∧ (∀ w, 0 ≤ w → w < σ 127 10 → I 26 w = σ 132 w)
def CRt (I σ : Nat → Int → Int) : Prop := I 35 1 = σ 127 12 ∧ ∀ i, 0 ≤ i → i < σ 127 12 → I 36 i = σ 133 i
/-- the cell a holds plan p -/
def PlAt (I σ : Nat → Int → Int) (a : Nat) (p : Int) : Prop := I a 0 = pf σ p 0 ∧ I a 1 = pf σ p 1 ∧ I a 2 = pf σ p 2 ∧ I a 3 = pf σ p 3 ∧ I a 4 = pf σ p 4 ∧ ∀ j, 0 ≤ j → j < pf σ p 4 → I (a + 2 + j.toNat) 0 = ps σ p j 0 ∧ I (a + 2 + j.toNat) 1 = ps σ p j 1 ∧ I (a + 2 + j.toNat) 2 = ps σ p j 2 ∧ I (a + 2 + j.toNat) 3 = ps σ p j 3 ∧ (1 ≤ j → I (a + 2 + j.toNat) 4 = ps σ p j 4 ∧ I (a + 2 + j.toNat) 5 = ps σ p j 5)
/-- the plans' cells are six, apart -/
def PlOK (P : Int → Nat) (dr : Nat) : Prop := (∀ k, 0 ≤ k → k < 5 → isPl (P k)) ∧ isPl dr ∧ (∀ i j, 0 ≤ i → i < 5 → 0 ≤ j → j < 5 → P i = P j → i = j) ∧ ∀ i, 0 ≤ i → i < 5 → P i ≠ dr
def CRp (I σ : Nat → Int → Int) (P : Int → Nat) (dr : Nat) : Prop := I 42 1 = σ 127 21 ∧ PlOK P dr ∧ ∀ p, 0 ≤ p → p < σ 127 21 → PlAt I σ (P p) p
def CRl (I σ : Nat → Int → Int) : Prop := (∀ l, 0 ≤ l → l < 4 → I 125 l = σ 149 l) ∧ (∀ k, 0 ≤ k → k < 8 → I 124 k = σ 150 k) ∧ I 123 2 = σ 127 39
/-- how far from the meridian; whether a slot alone fits -/
def airS (σ : Nat → Int → Int) (t s : Int) : Int := zabs (s - (σ 128 t - σ 127 1))
abbrev fitS (σ : Nat → Int → Int) (w t s m r d : Int) : Prop := σ 131 (12 * w + s) ≠ 4 ∧ σ 131 (12 * w + s) ≤ m ∧ airS σ t s ≤ σ 129 t ∧ airS σ t s ≤ r ∧ ¬ (d = 1 ∧ σ 130 t = σ 127 6 ∧ σ 127 7 ≤ s ∧ s ≤ σ 127 8)
