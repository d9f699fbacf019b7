/-! the best night: the price -/
theorem EqP.w {σ : Nat → Int → Int} {p : Nat} {v : Int} : EqP σ (upI σ 138 (23 * (p : Int) + 3) v) :=
  ⟨up_ne (by decide), up_ne (by decide), up_ne (by decide), up_ne (by decide), up_ne (by decide), up_ne (by decide), fun _ _ _ => up_ne (by decide), fun _ _ _ => ⟨up_ne (by decide), up_ne (by decide), up_ne (by decide)⟩, fun _ _ _ _ _ _ _ => up_nk (by omega)⟩
theorem EqP.symm {σ σ' : Nat → Int → Int} (h : EqP σ σ') (h2 : σ' 127 2 = σ 127 2) : EqP σ' σ := by
  obtain ⟨e0, e1, e6, e7, e8, e21, hs, ht, hp⟩ := h
  exact ⟨e0.symm, e1.symm, e6.symm, e7.symm, e8.symm, e21.symm, fun s s0 s1 => (hs s s0 s1).symm, fun t t0 t1 => ⟨(ht t t0 (by omega)).1.symm, (ht t t0 (by omega)).2.1.symm, (ht t t0 (by omega)).2.2.symm⟩, fun p k p0 p1 k0 k1 k3 => (hp p k p0 (by omega) k0 k1 k3).symm⟩
theorem WFn.w {σ : Nat → Int → Int} {k v : Int} (h : WFn σ) : WFn (upI σ 138 k v) := by
  have e : ∀ a q, a ≠ 138 → upI σ 138 k v a q = σ a q := fun a q ha => up_ne ha
  unfold WFn
  rw [e 127 0 (by decide), e 127 1 (by decide), e 127 2 (by decide), e 127 6 (by decide), e 127 7 (by decide), e 127 8 (by decide), e 127 10 (by decide)]
  obtain ⟨h0, h1, h2, h3, h4, h5, h6, h7, h8, h9⟩ := h
  refine ⟨h0, h1, h2, fun t t0 t1 => ?_, h4, h5, h6, h7, fun i i0 i1 => ?_, fun w w0 w1 => ?_⟩
  · rw [e 128 t (by decide), e 129 t (by decide), e 130 t (by decide)]; exact h3 t t0 t1
  · rw [e 131 i (by decide)]; exact h8 i i0 i1
  · rw [e 132 w (by decide)]; exact h9 w w0 w1
theorem up_back {σ : Nat → Int → Int} {a : Nat} {k v : Int} : upI (upI σ a k v) a k (σ a k) = σ := by
  funext a' k'
  by_cases c : a' = a ∧ k' = k
  · rw [c.1, c.2]; exact up_at
  · exact (if_neg c).trans (if_neg c)
theorem SV.w {σ σ' I J : Nat → Int → Int} {br : Nat → Nat → Prop} (h : EqP σ σ') (hN : WFn σ) (hP : WFp σ) (hV : SV σ br I) (hs : sig J = σ') (k : ∀ a q, a ≠ 138 → J a q = I a q) : SV σ' br J := by
  obtain ⟨-, hG, hb⟩ := hV
  refine ⟨hs, fun p hp => ?_, fun p q hp hq => ?_⟩
  · rw [h.2.2.2.2.2.1] at hp
    rw [pl_c h hN hP (by omega) hp]
    obtain ⟨g1, g2⟩ := hG p hp
    refine ⟨(k _ _ (by decide)).trans g1, fun i hi => ⟨(k _ _ (by decide)).trans (g2 i hi).1, (k _ _ (by decide)).trans ?_⟩⟩
    rw [h.1]
    exact (g2 i hi).2
  · rw [h.2.2.2.2.2.1] at hp
    rw [ln_c h hN hP] at hq
    rw [k _ _ (by decide)]
    exact hb p q hp hq
/-- best, with plan p worth v -/
abbrev IsX (σ : Nat → Int → Int) (p : Nat) (v : Int) (e : Nat → Nat) : Prop := IsB (nP σ) (okS σ (fun _ _ => False) (nP σ)) (Wf σ (wX σ (p : Int) v)) (SSc σ) e
def YesA (σ : Nat → Int → Int) (p : Nat) (v : Int) : Prop := ∃ e, IsX σ p v e ∧ e p < lnS σ p
def NoA (σ : Nat → Int → Int) (p : Nat) (v : Int) : Prop := ∃ e, IsX σ p v e ∧ ¬ e p < lnS σ p
theorem wX_w {σ : Nat → Int → Int} {p : Nat} {v : Int} (q : Nat) : wS (upI σ 138 (23 * (p : Int) + 3) v) q = wX σ (p : Int) v q := by
  show upI σ 138 (23 * (p : Int) + 3) v 138 (23 * (q : Int) + 3) = if (q : Int) = (p : Int) then v else σ 138 (23 * (q : Int) + 3)
  by_cases c : (q : Int) = (p : Int)
  · rw [if_pos c, c]; exact up_at
  · rw [if_neg c]; exact up_nk (by omega)
theorem isX_w {σ : Nat → Int → Int} (hN : WFn σ) (hP : WFp σ) {p : Nat} {v : Int} {σ' : Nat → Int → Int} (e' : σ' = upI σ 138 (23 * (p : Int) + 3) v) {e : Nat → Nat} (h : IsB (nP σ') (okS σ' (fun _ _ => False) (nP σ')) (WSc σ') (SSc σ') e) : IsX σ p v e := by
  have bp := hP.1
  have hnp : nP σ = (σ 127 21).toNat := rfl
  have hE : EqP σ σ' := by rw [e']; exact EqP.w
  have e1 : WSc σ' = Wf σ (wX σ (p : Int) v) := by
    funext c
    show sumC (lnS σ') (wS σ') c (nP σ') = sumC (lnS σ) (wX σ (p : Int) v) c (nP σ)
    rw [nP_c hE, ln_c hE hN hP]
    exact sum_fc (nP σ) (fun q _ => by rw [e']; exact wX_w q)
  have e2 : SSc σ' = SSc σ := by
    funext c
    show sumC (lnS σ') (zS σ') c (nP σ') = sumC (lnS σ) (zS σ) c (nP σ)
    rw [nP_c hE, ln_c hE hN hP]
    exact sum_fc (nP σ) (fun q hq => z_c hE hP (by omega))
  rw [nP_c hE, ok_c hE hN hP, e1, e2] at h
  exact h
/-- the worth of a choice, plan p apart -/
theorem wX_sum {σ : Nat → Int → Int} {p : Nat} {v v' : Int} {c : Nat → Nat} : ∀ k : Nat, sumC (lnS σ) (wX σ (p : Int) v') c k = sumC (lnS σ) (wX σ (p : Int) v) c k + (if p < k ∧ c p < lnS σ p then v' - v else 0)
  | 0 => by
    rw [if_neg (fun u => absurd u.1 (Nat.not_lt_zero p))]
    rfl
  | k + 1 => by
    have ih := wX_sum (σ := σ) (p := p) (v := v) (v' := v') (c := c) k
    show sumC (lnS σ) (wX σ (p : Int) v') c k + (if c k < lnS σ k then wX σ (p : Int) v' k else 0) = sumC (lnS σ) (wX σ (p : Int) v) c k + (if c k < lnS σ k then wX σ (p : Int) v k else 0) + _
    rw [ih]
    by_cases e : k = p
    · subst e
      have e1 : ∀ x, wX σ (k : Int) x k = x := fun x => if_pos rfl
      rw [e1, e1, if_neg (fun u => absurd u.1 (Nat.lt_irrefl k))]
      by_cases u : c k < lnS σ k
      · rw [if_pos u, if_pos u, if_pos ⟨Nat.lt_succ_self k, u⟩]; omega
      · rw [if_neg u, if_neg u, if_neg (fun q => u q.2)]
    · have e1 : ∀ x, wX σ (p : Int) x k = wS σ k := fun x => if_neg (by omega)
      rw [e1, e1]
      by_cases u : p < k ∧ c p < lnS σ p
      · rw [if_pos u, if_pos (c := p < k + 1 ∧ c p < lnS σ p) ⟨by omega, u.2⟩]; omega
      · rw [if_neg u, if_neg (c := p < k + 1 ∧ c p < lnS σ p) (fun q => u ⟨by omega, q.2⟩)]; omega
theorem bet_w {n : Nat} {W S : (Nat → Nat) → Int} {c d : Nat → Nat} (h : betL n W S c d) : W d ≤ W c := by
  unfold betL at h
  omega
theorem yes_no {σ : Nat → Int → Int} {p : Nat} {v v' : Int} (hp : p < nP σ) (h : YesA σ p v) (h' : NoA σ p v') : v' < v := by
  obtain ⟨e, he, hi⟩ := h
  obtain ⟨e', he', hi'⟩ := h'
  refine Classical.byContradiction (fun hv => ?_)
  by_cases c : v = v'
  · subst c
    have := isB_one he he' p hp
    rw [this] at hi
    exact hi' hi
  · have w1 : Wf σ (wX σ (p : Int) v') e = Wf σ (wX σ (p : Int) v) e + (v' - v) := by
      have := wX_sum (σ := σ) (p := p) (v := v) (v' := v') (c := e) (nP σ)
      rw [if_pos ⟨hp, hi⟩] at this
      exact this
    have w2 : Wf σ (wX σ (p : Int) v') e' = Wf σ (wX σ (p : Int) v) e' + 0 := by
      have := wX_sum (σ := σ) (p := p) (v := v) (v' := v') (c := e') (nP σ)
      rw [if_neg (fun u => hi' u.2)] at this
      exact this
    rcases he.2 e' he'.1 with u | u
    · have := u p hp
      rw [this] at hi
      exact hi' hi
    · rcases he'.2 e he.1 with u' | u'
      · have := u' p hp
        rw [this] at hi'
        exact hi' hi
      · have a1 := bet_w u
        have a2 := bet_w u'
        omega
def PA (σ : Nat → Int → Int) (p : Nat) (a : Int) : Prop := (a = -1 ∧ NoA σ p 99) ∨ (1 ≤ a ∧ a ≤ 99 ∧ YesA σ p a ∧ (a = 1 ∨ NoA σ p (a - 1)))
theorem PA.one {σ : Nat → Int → Int} {p : Nat} {a b : Int} (hp : p < nP σ) (h : PA σ p a) (h' : PA σ p b) : a = b := by
  rcases h with ⟨h1, h2⟩ | ⟨h1, h2, h3, h4⟩ <;> rcases h' with ⟨g1, g2⟩ | ⟨g1, g2, g3, g4⟩
  · omega
  · have := yes_no hp g3 h2; omega
  · have := yes_no hp h3 g2; omega
  · have a1 : b - 1 < a := by
      rcases g4 with g | g
      · omega
      · exact yes_no hp h3 g
    have a2 : a - 1 < b := by
      rcases h4 with g | g
      · omega
      · exact yes_no hp g3 g
    omega
noncomputable def xPri (σ : Nat → Int → Int) (p : Int) : Int := if 0 ≤ p ∧ p < σ 127 21 then Classical.epsilon (PA σ p.toNat) else -2
theorem PA.x {σ : Nat → Int → Int} {p : Nat} {a : Int} (hp : (p : Int) < σ 127 21) (h : PA σ p a) : a = xPri σ p := by
  unfold xPri
  rw [if_pos ⟨by omega, hp⟩, Int.toNat_natCast]
  have hnp : nP σ = (σ 127 21).toNat := rfl
  exact PA.one (by omega) h (Classical.epsilon_spec (p := PA σ p) ⟨a, h⟩)
theorem sBx_b {σ : Nat → Int → Int} (hP : WFp σ) {s p : Nat} {v : Int} (v0 : 1 ≤ v) (v1 : v ≤ 99) : ∀ k : Nat, (k : Int) ≤ σ 127 21 → 0 ≤ sB (wX σ (p : Int) v) s k ∧ sB (wX σ (p : Int) v) s k ≤ 99 * k
  | 0, _ => ⟨Int.le_refl _, Int.le_refl _⟩
  | k + 1, h => by
    have ih := sBx_b hP (s := s) (p := p) v0 v1 k (by omega)
    have h1 := (hP.2 k (by omega) (by omega)).2.2.2.1
    have h2 : 1 ≤ wX σ (p : Int) v k ∧ wX σ (p : Int) v k ≤ 99 := by
      show 1 ≤ (if (k : Int) = (p : Int) then v else pf σ k 3) ∧ (if (k : Int) = (p : Int) then v else pf σ k 3) ≤ 99
      split
      · exact ⟨v0, v1⟩
      · exact h1
    rw [sB_s]
    split <;> omega
