/-! the night's plans as a problem of choice -/
abbrev nP (σ : Nat → Int → Int) : Nat := (σ 127 21).toNat
def lnS (σ : Nat → Int → Int) (p : Nat) : Nat := if (p : Int) < σ 127 21 then (plS σ p).length else 0
abbrev mkQ (σ : Nat → Int → Int) (p k : Nat) : Nat := gN (plS σ p) k
def isS (σ : Nat → Int → Int) (p : Nat) : Nat := if (p : Int) < σ 127 21 then (pf σ p 1).toNat else 0
abbrev szP (σ : Nat → Int → Int) (p : Nat) : Nat := szS σ p (pf σ p 4).toNat 0
abbrev wS (σ : Nat → Int → Int) (p : Nat) : Int := pf σ p 3
abbrev zS (σ : Nat → Int → Int) (p : Nat) : Int := (szP σ p : Int)
theorem ln_e {σ : Nat → Int → Int} {p : Nat} (h : (p : Int) < σ 127 21) : lnS σ p = (plS σ p).length := if_pos h
theorem is_e {σ : Nat → Int → Int} {p : Nat} (h : (p : Int) < σ 127 21) : isS σ p = (pf σ p 1).toNat := if_pos h
theorem ln_b {σ : Nat → Int → Int} (hN : WFn σ) (hP : WFp σ) (p : Nat) : lnS σ p ≤ 112 := by
  unfold lnS
  split
  · exact pl_112 hN (hP.2 p (by omega) (by assumption))
  · omega
theorem is_b {σ : Nat → Int → Int} (hP : WFp σ) (p : Nat) : isS σ p < 3 := by
  unfold isS
  split
  · rename_i h
    have := (hP.2 p (by omega) h).2.1
    omega
  · omega
theorem mk_b {σ : Nat → Int → Int} (hN : WFn σ) (hP : WFp σ) (p k : Nat) (h : k < lnS σ p) : mkQ σ p k < 2 ^ (σ 127 0).toNat ∧ pcN 16 (mkQ σ p k) = szP σ p := by
  unfold lnS at h
  split at h
  · rename_i h2
    exact pl_all hN (hP.2 p (by omega) h2) (gN_mem h)
  · omega
theorem mk_4 {σ : Nat → Int → Int} (hN : WFn σ) (hP : WFp σ) (p k : Nat) (h : k < lnS σ p) : mkQ σ p k < 4096 := Nat.lt_of_lt_of_le (mk_b hN hP p k h).1 (p12 (by have := hN.1; omega))
theorem sz_b {σ : Nat → Int → Int} {p : Int} (hp : PlWF σ p) : ∀ (r j : Nat), ((j + r : Nat) : Int) ≤ pf σ p 4 → r ≤ szS σ p r j ∧ szS σ p r j ≤ 4 * r
  | 0, j, _ => ⟨Nat.le_refl _, Nat.le_refl _⟩
  | r + 1, j, h => by
    have ih := sz_b hp r (j + 1) (by omega)
    have h3 := hp.2.2.2.2.1
    have hs := (hp.st (j := (j : Int)) (by omega) (by omega)).2.1
    have hk : kS σ p j ≤ 4 ∧ 1 ≤ kS σ p j := by show (ps σ p j 0).toNat ≤ 4 ∧ 1 ≤ (ps σ p j 0).toNat; omega
    show r + 1 ≤ kS σ p j + szS σ p r (j + 1) ∧ kS σ p j + szS σ p r (j + 1) ≤ 4 * (r + 1)
    omega
theorem szP_b {σ : Nat → Int → Int} (hP : WFp σ) {p : Nat} (h : (p : Int) < σ 127 21) : 1 ≤ szP σ p ∧ szP σ p ≤ 12 := by
  have hp := hP.2 p (by omega) h
  have h3 := hp.2.2.2.2.1
  have := sz_b hp (pf σ p 4).toNat 0 (by omega)
  show 1 ≤ szS σ p (pf σ p 4).toNat 0 ∧ szS σ p (pf σ p 4).toNat 0 ≤ 12
  omega
/-- a choice that goes together and isn't barred; br is what is barred -/
def okC (ln : Nat → Nat) (mk : Nat → Nat → Nat) (is_ : Nat → Nat) (br : Nat → Nat → Prop) (n : Nat) (c : Nat → Nat) : Prop := ∀ p, p < n → c p ≤ ln p ∧ (c p < ln p → ¬ br p (c p) ∧ ∀ q, q < p → c q < ln q → goN (is_ p) (mk p (c p)) (is_ q) (mk q (c q)))
abbrev okS (σ : Nat → Int → Int) (br : Nat → Nat → Prop) : Nat → (Nat → Nat) → Prop := okC (lnS σ) (mkQ σ) (isS σ) br
abbrev WSc (σ : Nat → Int → Int) (c : Nat → Nat) : Int := sumC (lnS σ) (wS σ) c (nP σ)
abbrev SSc (σ : Nat → Int → Int) (c : Nat → Nat) : Int := sumC (lnS σ) (zS σ) c (nP σ)
def setC (c : Nat → Nat) (p k : Nat) : Nat → Nat := fun q => if q = p then k else c q
theorem set_at {c : Nat → Nat} {p k : Nat} : setC c p k p = k := if_pos rfl
theorem set_ne {c : Nat → Nat} {p k q : Nat} (h : q ≠ p) : setC c p k q = c q := if_neg h
theorem ok_le {ln : Nat → Nat} {mk : Nat → Nat → Nat} {is_ : Nat → Nat} {br : Nat → Nat → Prop} {n m : Nat} {c : Nat → Nat} (h : okC ln mk is_ br n c) (hm : m ≤ n) : okC ln mk is_ br m c := fun p hp => h p (by omega)
theorem ok_eq {ln : Nat → Nat} {mk : Nat → Nat → Nat} {is_ : Nat → Nat} {br : Nat → Nat → Prop} {n : Nat} {c d : Nat → Nat} (h : okC ln mk is_ br n c) (e : eqN n d c) : okC ln mk is_ br n d := fun p hp => by
  have h1 := h p hp
  rw [e p hp]
  exact ⟨h1.1, fun u => ⟨(h1.2 u).1, fun q hq => by rw [e q (by omega)]; exact (h1.2 u).2 q hq⟩⟩
def goA (σ : Nat → Int → Int) (br : Nat → Nat → Prop) (c : Nat → Nat) (p k : Nat) : Prop := ¬ br p k ∧ ∀ q, q < p → c q < lnS σ q → goN (isS σ p) (mkQ σ p k) (isS σ q) (mkQ σ q (c q))
theorem ok_set {σ : Nat → Int → Int} {br : Nat → Nat → Prop} {p k : Nat} {c : Nat → Nat} (h : okS σ br p c) (hk : k ≤ lnS σ p) (hg : k < lnS σ p → goA σ br c p k) : okS σ br (p + 1) (setC c p k) := fun q hq => by
  by_cases e : q = p
  · subst e
    rw [set_at]
    refine ⟨hk, fun u => ⟨(hg u).1, fun s hs => ?_⟩⟩
    rw [set_ne (by omega)]
    exact (hg u).2 s hs
  · have h1 := h q (by omega)
    rw [set_ne e]
    refine ⟨h1.1, fun u => ⟨(h1.2 u).1, fun s hs => ?_⟩⟩
    rw [set_ne (by omega)]
    exact (h1.2 u).2 s hs
theorem sum_set {ln : Nat → Nat} {f : Nat → Int} {c : Nat → Nat} {p k : Nat} : sumC ln f (setC c p k) (p + 1) = sumC ln f c p + (if k < ln p then f p else 0) := by
  rw [sum_c, set_at, sum_eq p (fun q hq => set_ne (by omega))]
/-- choices with a given beginning -/
def Tpc (p : Nat) (c : Nat → Nat) (k : Nat) (d : Nat → Nat) : Prop := (∀ q, q < p → d q = c q) ∧ k ≤ d p
theorem vain_in {σ : Nat → Int → Int} {br : Nat → Nat → Prop} (hP : WFp σ) {p : Nat} (hp : p < nP σ) {c d : Nat → Nat} {B : Option (Nat → Nat)} (hd : ∀ q, q < p → d q = c q) (hin : d p < lnS σ p) (hv : sumC (lnS σ) (wS σ) c p + wS σ p + (totC (wS σ) (nP σ) - totC (wS σ) (p + 1)) < bwO (WSc σ) B ∨ (sumC (lnS σ) (wS σ) c p + wS σ p + (totC (wS σ) (nP σ) - totC (wS σ) (p + 1)) = bwO (WSc σ) B ∧ bsO (SSc σ) B ≤ sumC (lnS σ) (zS σ) c p + zS σ p + (totC (zS σ) (nP σ) - totC (zS σ) (p + 1)))) : ¬ bt2 (WSc σ) (SSc σ) d B := by
  have hnp : nP σ = (σ 127 21).toNat := rfl
  have h1 := sum_suf (ln := lnS σ) (w := wS σ) (s := zS σ) (c := d) (p := p + 1) (nP σ - (p + 1)) (fun q hq => (hP.2 q (by omega) (by omega)).2.2.2.1.1)
  rw [show p + 1 + (nP σ - (p + 1)) = nP σ by omega, sum_c, sum_c, if_pos hin, if_pos hin, sum_eq p hd, sum_eq p hd] at h1
  unfold bt2
  intro u
  obtain ⟨h2, h3⟩ := h1
  have e1 : WSc σ d = sumC (lnS σ) (wS σ) d (nP σ) := rfl
  have e2 : SSc σ d = sumC (lnS σ) (zS σ) d (nP σ) := rfl
  by_cases c1 : sumC (lnS σ) (wS σ) d (nP σ) - (sumC (lnS σ) (wS σ) c p + wS σ p) = totC (wS σ) (nP σ) - totC (wS σ) (p + 1)
  · have := h3 c1
    omega
  · omega
theorem vain_out {σ : Nat → Int → Int} {br : Nat → Nat → Prop} (hP : WFp σ) {p : Nat} (hp : p < nP σ) {c d : Nat → Nat} {B : Option (Nat → Nat)} (hd : ∀ q, q < p → d q = c q) (hin : ¬ d p < lnS σ p) (hv : sumC (lnS σ) (wS σ) c p + (totC (wS σ) (nP σ) - totC (wS σ) (p + 1)) < bwO (WSc σ) B ∨ (sumC (lnS σ) (wS σ) c p + (totC (wS σ) (nP σ) - totC (wS σ) (p + 1)) = bwO (WSc σ) B ∧ bsO (SSc σ) B ≤ sumC (lnS σ) (zS σ) c p + (totC (zS σ) (nP σ) - totC (zS σ) (p + 1)))) : ¬ bt2 (WSc σ) (SSc σ) d B := by
  have hnp : nP σ = (σ 127 21).toNat := rfl
  have h1 := sum_suf (ln := lnS σ) (w := wS σ) (s := zS σ) (c := d) (p := p + 1) (nP σ - (p + 1)) (fun q hq => (hP.2 q (by omega) (by omega)).2.2.2.1.1)
  rw [show p + 1 + (nP σ - (p + 1)) = nP σ by omega, sum_c, sum_c, if_neg hin, if_neg hin, sum_eq p hd, sum_eq p hd] at h1
  unfold bt2
  intro u
  obtain ⟨h2, h3⟩ := h1
  have e1 : WSc σ d = sumC (lnS σ) (wS σ) d (nP σ) := rfl
  have e2 : SSc σ d = sumC (lnS σ) (zS σ) d (nP σ) := rfl
  by_cases c1 : sumC (lnS σ) (wS σ) d (nP σ) - (sumC (lnS σ) (wS σ) c p + 0) = totC (wS σ) (nP σ) - totC (wS σ) (p + 1)
  · have := h3 c1
    omega
  · omega
theorem tot_b {σ : Nat → Int → Int} (hP : WFp σ) : ∀ k : Nat, (k : Int) ≤ σ 127 21 → (0 ≤ totC (wS σ) k ∧ totC (wS σ) k ≤ 99 * k) ∧ (0 ≤ totC (zS σ) k ∧ totC (zS σ) k ≤ 12 * k)
  | 0, _ => ⟨⟨Int.le_refl _, Int.le_refl _⟩, ⟨Int.le_refl _, Int.le_refl _⟩⟩
  | k + 1, h => by
    have ih := tot_b hP k (by omega)
    have h1 := (hP.2 k (by omega) (by omega)).2.2.2.1
    have h2 := szP_b hP (p := k) (by omega)
    rw [tot_c, tot_c]
    have e1 : wS σ k = pf σ k 3 := rfl
    have e2 : zS σ k = (szP σ k : Int) := rfl
    omega
theorem sum_b {σ : Nat → Int → Int} (hP : WFp σ) {c : Nat → Nat} : ∀ k : Nat, (k : Int) ≤ σ 127 21 → (0 ≤ sumC (lnS σ) (wS σ) c k ∧ sumC (lnS σ) (wS σ) c k ≤ 99 * k) ∧ (0 ≤ sumC (lnS σ) (zS σ) c k ∧ sumC (lnS σ) (zS σ) c k ≤ 12 * k)
  | 0, _ => ⟨⟨Int.le_refl _, Int.le_refl _⟩, ⟨Int.le_refl _, Int.le_refl _⟩⟩
  | k + 1, h => by
    have ih := sum_b hP (c := c) k (by omega)
    have h1 := (hP.2 k (by omega) (by omega)).2.2.2.1
    have h2 := szP_b hP (p := k) (by omega)
    rw [sum_c, sum_c]
    have e1 : wS σ k = pf σ k 3 := rfl
    have e2 : zS σ k = (szP σ k : Int) := rfl
    split <;> omega
theorem ts_mono {σ : Nat → Int → Int} (hP : WFp σ) {p : Nat} (h : (p : Int) ≤ σ 127 21) : totC (wS σ) p ≤ totC (wS σ) (nP σ) ∧ totC (zS σ) p ≤ totC (zS σ) (nP σ) := by
  have key : ∀ k : Nat, ((p + k : Nat) : Int) ≤ σ 127 21 → totC (wS σ) p ≤ totC (wS σ) (p + k) ∧ totC (zS σ) p ≤ totC (zS σ) (p + k) := fun k => by
    induction k with
    | zero => exact fun _ => ⟨Int.le_refl _, Int.le_refl _⟩
    | succ k ih =>
      intro hk
      have i1 := ih (by omega)
      have h1 := (hP.2 ((p + k : Nat) : Int) (by omega) (by omega)).2.2.2.1
      have h2 := szP_b hP (p := p + k) (by omega)
      rw [show p + (k + 1) = p + k + 1 from rfl, tot_c, tot_c]
      have e1 : wS σ (p + k) = pf σ ((p + k : Nat) : Int) 3 := rfl
      have e2 : zS σ (p + k) = (szP σ (p + k) : Int) := rfl
      omega
  have hnp : nP σ = (σ 127 21).toNat := rfl
  have b := hP.1
  have := key (nP σ - p) (by omega)
  rw [show p + (nP σ - p) = nP σ by omega] at this
  exact this
/-- the reference's rows hold all placements -/
def RGA (σ J : Nat → Int → Int) : Prop := ∀ p : Nat, (p : Int) < σ 127 21 → RG σ J p (plS σ p)
/-- what the search changes -/
def FBs (I J : Nat → Int → Int) : Prop := ∀ a k, ¬ (a = 127 ∧ (k = 27 ∨ k = 28)) → ¬ (143 ≤ a ∧ a ≤ 144) → J a k = I a k
theorem FBs.rf {I : Nat → Int → Int} : FBs I I := fun _ _ _ _ => rfl
theorem FBs.tr {I J K : Nat → Int → Int} (h : FBs I J) (h' : FBs J K) : FBs I K := fun a k h1 h2 => (h' a k h1 h2).trans (h a k h1 h2)
theorem FBs.up {I J : Nat → Int → Int} {a : Nat} {k z : Int} (h : FBs I J) (ha : (a = 127 ∧ (k = 27 ∨ k = 28)) ∨ (143 ≤ a ∧ a ≤ 144)) : FBs I (upI J a k z) := fun a' k' h1 h2 => (if_neg (by omega)).trans (h a' k' h1 h2)
theorem FBs.sig {I J : Nat → Int → Int} (h : FBs I J) : sig J = sig I := sig_eq fun a k hk => h a k (fun q => by rw [q.1] at hk; rcases q.2 with e | e <;> (rw [e] at hk; cases hk)) (fun q => by
  have : a = 143 ∨ a = 144 := by omega
  rcases this with e | e <;> (rw [e] at hk; cases hk))
theorem RGA.fb {σ I J : Nat → Int → Int} (h : RGA σ I) (hF : FBs I J) : RGA σ J := fun p hp => ⟨(hF 139 p (by omega) (by omega)).trans (h p hp).1, fun i hi => ⟨(hF 140 _ (by omega) (by omega)).trans ((h p hp).2 i hi).1, (hF 141 _ (by omega) (by omega)).trans ((h p hp).2 i hi).2⟩⟩
/-- the best that was found so far, as the rows hold it -/
def BI (σ J : Nat → Int → Int) (B : Option (Nat → Nat)) : Prop := J 127 27 = bwO (WSc σ) B ∧ J 127 28 = bsO (SSc σ) B ∧ ∀ e, B = some e → ∀ q, q < nP σ → J 144 q = if e q < lnS σ q then (e q : Int) else -1
def bwB (σ : Nat → Int → Int) (B : Option (Nat → Nat)) : Prop := -1 ≤ bwO (WSc σ) B ∧ bwO (WSc σ) B ≤ 500 ∧ 0 ≤ bsO (SSc σ) B ∧ bsO (SSc σ) B ≤ 60 ∧ (bwO (WSc σ) B = -1 ↔ B = none)
theorem bw_b {σ : Nat → Int → Int} (hP : WFp σ) (B : Option (Nat → Nat)) : bwB σ B := by
  have hnp : nP σ = (σ 127 21).toNat := rfl
  have b := hP.1
  cases B with
  | none => exact ⟨by show (-1 : Int) ≤ -1; omega, by show (-1 : Int) ≤ 500; omega, by show (0 : Int) ≤ 0; omega, by show (0 : Int) ≤ 60; omega, ⟨fun _ => rfl, fun _ => rfl⟩⟩
  | some c =>
    have := sum_b hP (c := c) (nP σ) (by omega)
    refine ⟨?_, ?_, ?_, ?_, ⟨fun h => ?_, fun h => by cases h⟩⟩
    · show -1 ≤ sumC (lnS σ) (wS σ) c (nP σ); omega
    · show sumC (lnS σ) (wS σ) c (nP σ) ≤ 500; omega
    · show 0 ≤ sumC (lnS σ) (zS σ) c (nP σ); omega
    · show sumC (lnS σ) (zS σ) c (nP σ) ≤ 60; omega
    · have h2 : sumC (lnS σ) (wS σ) c (nP σ) = -1 := h
      omega
