/-! the best night: why a slot is empty -/
/-- a placement that would fill the slot -/
def hitE (σ : Nat → Int → Int) (e : Nat → Nat) (s p k : Nat) : Prop := p < nP σ ∧ k < lnS σ p ∧ ¬ e p < lnS σ p ∧ (mkQ σ p k).testBit s = true
def fitE (σ : Nat → Int → Int) (e : Nat → Nat) (p k : Nat) : Prop := ∀ q, q < nP σ → e q < lnS σ q → goN (isS σ p) (mkQ σ p k) (isS σ q) (mkQ σ q (e q))
/-- what is known once the placements V were looked at -/
def PRe (σ : Nat → Int → Int) (e : Nat → Nat) (s : Nat) (V : Nat → Nat → Prop) (z : Int) : Prop := (z = 3 ∧ ∃ p k, V p k ∧ hitE σ e s p k ∧ fitE σ e p k) ∨ (z = 2 ∧ (∃ p k, V p k ∧ hitE σ e s p k) ∧ ∀ p k, V p k → hitE σ e s p k → ¬ fitE σ e p k) ∨ (z = 1 ∧ ∀ p k, V p k → ¬ hitE σ e s p k)
/-- the placements before (p, k) -/
def Vb (p k : Nat) : Nat → Nat → Prop := fun p' k' => p' < p ∨ (p' = p ∧ k' < k)
theorem PRe.b {σ : Nat → Int → Int} {e : Nat → Nat} {s : Nat} {V : Nat → Nat → Prop} {z : Int} (h : PRe σ e s V z) : 1 ≤ z ∧ z ≤ 3 := by
  rcases h with ⟨h, -⟩ | ⟨h, -⟩ | ⟨h, -⟩ <;> omega
theorem PRe.z {σ : Nat → Int → Int} {e : Nat → Nat} {s : Nat} : PRe σ e s (Vb 0 0) 1 := Or.inr (Or.inr ⟨rfl, fun p k h => by unfold Vb at h; omega⟩)
theorem PRe.mono {σ : Nat → Int → Int} {e : Nat → Nat} {s : Nat} {V V' : Nat → Nat → Prop} {z : Int} (h : PRe σ e s V z) (k : ∀ p k, hitE σ e s p k → (V p k ↔ V' p k)) : PRe σ e s V' z := by
  rcases h with ⟨h, a, b, h1, h2, h3⟩ | ⟨h, ⟨a, b, h1, h2⟩, h3⟩ | ⟨h, h1⟩
  · exact Or.inl ⟨h, a, b, (k a b h2).mp h1, h2, h3⟩
  · exact Or.inr (Or.inl ⟨h, ⟨a, b, (k a b h2).mp h1, h2⟩, fun p q u v => h3 p q ((k p q v).mpr u) v⟩)
  · exact Or.inr (Or.inr ⟨h, fun p q u v => h1 p q ((k p q v).mpr u) v⟩)
theorem vb_s {p k p' k' : Nat} : Vb p (k + 1) p' k' ↔ (Vb p k p' k' ∨ (p' = p ∧ k' = k)) := by unfold Vb; omega
theorem PRe.fit {σ : Nat → Int → Int} {e : Nat → Nat} {s p k : Nat} (h : hitE σ e s p k) (hf : fitE σ e p k) : PRe σ e s (Vb p (k + 1)) 3 := Or.inl ⟨rfl, p, k, vb_s.mpr (Or.inr ⟨rfl, rfl⟩), h, hf⟩
theorem PRe.nofit {σ : Nat → Int → Int} {e : Nat → Nat} {s p k : Nat} {z : Int} (hz : PRe σ e s (Vb p k) z) (h : hitE σ e s p k) (hf : ¬ fitE σ e p k) : PRe σ e s (Vb p (k + 1)) (if z = 1 then 2 else z) := by
  rcases hz with ⟨rfl, a, b, h1, h2, h3⟩ | ⟨rfl, -, h3⟩ | ⟨rfl, h1⟩
  · rw [if_neg (by decide)]; exact Or.inl ⟨rfl, a, b, vb_s.mpr (Or.inl h1), h2, h3⟩
  · rw [if_neg (by decide)]
    refine Or.inr (Or.inl ⟨rfl, ⟨p, k, vb_s.mpr (Or.inr ⟨rfl, rfl⟩), h⟩, fun a b u v => ?_⟩)
    rcases vb_s.mp u with w | ⟨rfl, rfl⟩
    · exact h3 a b w v
    · exact hf
  · rw [if_pos rfl]
    refine Or.inr (Or.inl ⟨rfl, ⟨p, k, vb_s.mpr (Or.inr ⟨rfl, rfl⟩), h⟩, fun a b u v => ?_⟩)
    rcases vb_s.mp u with w | ⟨rfl, rfl⟩
    · exact (h1 a b w v).elim
    · exact hf
theorem PRe.nohit {σ : Nat → Int → Int} {e : Nat → Nat} {s p k : Nat} {z : Int} (hz : PRe σ e s (Vb p k) z) (h : ¬ hitE σ e s p k) : PRe σ e s (Vb p (k + 1)) z := hz.mono (fun a b u => ⟨fun w => vb_s.mpr (Or.inl w), fun w => by
  rcases vb_s.mp w with w | ⟨rfl, rfl⟩
  · exact w
  · exact (h u).elim⟩)
theorem PRe.row {σ : Nat → Int → Int} {e : Nat → Nat} {s p k : Nat} {z : Int} (hz : PRe σ e s (Vb p k) z) (h : ∀ k', k ≤ k' → ¬ hitE σ e s p k') : PRe σ e s (Vb (p + 1) 0) z := hz.mono (fun a b u => by
  unfold Vb
  constructor
  · intro w; omega
  · intro w
    by_cases c : a = p ∧ k ≤ b
    · obtain ⟨rfl, c⟩ := c
      exact (h b c u).elim
    · omega)
/-- the answer -/
def EA (σ : Nat → Int → Int) (e : Nat → Nat) (s : Nat) (a : Int) : Prop := ((bmN σ e (nP σ)).testBit s = true ∧ a = 0) ∨ (¬ (bmN σ e (nP σ)).testBit s = true ∧ PRe σ e s (fun _ _ => True) a)
theorem EA.one {σ : Nat → Int → Int} {e : Nat → Nat} {s : Nat} {a b : Int} (h : EA σ e s a) (h' : EA σ e s b) : a = b := by
  rcases h with ⟨h1, h2⟩ | ⟨h1, h2⟩ <;> rcases h' with ⟨g1, g2⟩ | ⟨g1, g2⟩
  · omega
  · exact (g1 h1).elim
  · exact (h1 g1).elim
  · rcases h2 with ⟨h, p, k, -, x1, x2⟩ | ⟨h, ⟨p, k, -, x1⟩, x3⟩ | ⟨h, x3⟩ <;> rcases g2 with ⟨g, p', k', -, y1, y2⟩ | ⟨g, ⟨p', k', -, y1⟩, y3⟩ | ⟨g, y3⟩
    · omega
    · exact (y3 p k trivial x1 x2).elim
    · exact (y3 p k trivial x1).elim
    · exact (x3 p' k' trivial y1 y2).elim
    · omega
    · exact (y3 p k trivial x1).elim
    · exact (x3 p' k' trivial y1).elim
    · exact (x3 p' k' trivial y1).elim
    · omega
/-- two ways to write a choice -/
def simE (σ : Nat → Int → Int) (c d : Nat → Nat) : Prop := ∀ q, q < nP σ → (c q < lnS σ q ↔ d q < lnS σ q) ∧ (c q < lnS σ q → c q = d q)
theorem simE.nz {σ : Nat → Int → Int} {c d : Nat → Nat} (h : eqN (nP σ) (nzC σ c) d) : simE σ c d := fun q hq => by
  have := h q hq
  refine ⟨?_, fun u => ?_⟩
  · rw [← this]; exact nz_in.symm
  · rw [← this]; exact (nz_at u).symm
theorem simE.eq {σ : Nat → Int → Int} {c d : Nat → Nat} (h : eqN (nP σ) c d) : simE σ c d := fun q hq => by
  rw [h q hq]; exact ⟨Iff.rfl, fun _ => rfl⟩
theorem simE.symm {σ : Nat → Int → Int} {c d : Nat → Nat} (h : simE σ c d) : simE σ d c := fun q hq => ⟨(h q hq).1.symm, fun u => ((h q hq).2 ((h q hq).1.mpr u)).symm⟩
theorem sim_bm {σ : Nat → Int → Int} {c d : Nat → Nat} (h : simE σ c d) : ∀ k, k ≤ nP σ → bmN σ c k = bmN σ d k
  | 0, _ => rfl
  | k + 1, hk => by
    rw [bm_s, bm_s, sim_bm h k (by omega)]
    by_cases u : c k < lnS σ k
    · rw [if_pos u, if_pos ((h k (by omega)).1.mp u), (h k (by omega)).2 u]
    · rw [if_neg u, if_neg (fun w => u ((h k (by omega)).1.mpr w))]
theorem sim_hit {σ : Nat → Int → Int} {c d : Nat → Nat} (h : simE σ c d) {s p k : Nat} (u : hitE σ c s p k) : hitE σ d s p k := ⟨u.1, u.2.1, fun w => u.2.2.1 ((h p u.1).1.mpr w), u.2.2.2⟩
theorem sim_fit {σ : Nat → Int → Int} {c d : Nat → Nat} (h : simE σ c d) {p k : Nat} (u : fitE σ c p k) : fitE σ d p k := fun q hq w => by
  have w2 := (h q hq).1.mpr w
  rw [← (h q hq).2 w2]
  exact u q hq w2
theorem sim_EA {σ : Nat → Int → Int} {c d : Nat → Nat} (h : simE σ c d) {s : Nat} {a : Int} (u : EA σ c s a) : EA σ d s a := by
  unfold EA at u ⊢
  rw [← sim_bm h (nP σ) (Nat.le_refl _)]
  rcases u with u | ⟨u1, u2⟩
  · exact Or.inl u
  · refine Or.inr ⟨u1, ?_⟩
    rcases u2 with ⟨h1, p, k, -, h2, h3⟩ | ⟨h1, ⟨p, k, -, h2⟩, h3⟩ | ⟨h1, h2⟩
    · exact Or.inl ⟨h1, p, k, trivial, sim_hit h h2, sim_fit h h3⟩
    · exact Or.inr (Or.inl ⟨h1, ⟨p, k, trivial, sim_hit h h2⟩, fun p k _ v w => h3 p k trivial (sim_hit h.symm v) (sim_fit h.symm w)⟩)
    · exact Or.inr (Or.inr ⟨h1, fun p k _ v => h2 p k trivial (sim_hit h.symm v)⟩)
noncomputable def xEmp (σ : Nat → Int → Int) (s : Int) : Int := if 0 ≤ s ∧ s < σ 127 0 then Classical.epsilon (EA σ (bC σ) s.toNat) else -2
theorem EA.x {σ : Nat → Int → Int} {s : Nat} {a : Int} {c : Nat → Nat} (hs : (s : Int) < σ 127 0) (hc : simE σ c (bC σ)) (h : EA σ c s a) : a = xEmp σ s := by
  unfold xEmp
  rw [if_pos ⟨by omega, hs⟩, Int.toNat_natCast]
  exact EA.one (sim_EA hc h) (Classical.epsilon_spec (p := EA σ (bC σ) s) ⟨a, sim_EA hc h⟩)
theorem EA.end {σ : Nat → Int → Int} {e : Nat → Nat} {s : Nat} {z : Int} (hb : ¬ (bmN σ e (nP σ)).testBit s = true) (h : PRe σ e s (Vb (nP σ) 0) z) : EA σ e s z := Or.inr ⟨hb, h.mono (fun a b u => ⟨fun _ => trivial, fun _ => by
  have := u.1
  unfold Vb; omega⟩)⟩
/-- what the choice takes -/
def tkB (σ : Nat → Int → Int) (e : Nat → Nat) : Nat → Nat
  | 0 => 0
  | k + 1 => tkB σ e k ||| (if e k < lnS σ k then tkN (mkQ σ k (e k)) (isS σ k) else 0)
theorem tkB_s {σ : Nat → Int → Int} {e : Nat → Nat} {k : Nat} : tkB σ e (k + 1) = tkB σ e k ||| (if e k < lnS σ k then tkN (mkQ σ k (e k)) (isS σ k) else 0) := rfl
theorem tkB_lt {σ : Nat → Int → Int} (hN : WFn σ) (hP : WFp σ) {e : Nat → Nat} : ∀ k, tkB σ e k < 2 ^ 48
  | 0 => Nat.two_pow_pos 48
  | k + 1 => by
    rw [tkB_s]
    refine Nat.or_lt_two_pow (tkB_lt hN hP k) ?_
    by_cases c : e k < lnS σ k
    · rw [if_pos c]; exact tk_lt (mk_4 hN hP k (e k) c) 3
    · rw [if_neg c]; decide
theorem tkB_fre {σ : Nat → Int → Int} (hN : WFn σ) (hP : WFp σ) {e : Nat → Nat} {x j : Nat} (hx : x < 4096) (hj : j < 3) : ∀ k, fre x j (tkB σ e k) ↔ ∀ q, q < k → e q < lnS σ q → goN j x (isS σ q) (mkQ σ q (e q))
  | 0 => ⟨fun _ q hq => absurd hq (Nat.not_lt_zero q), fun _ => fre_0⟩
  | k + 1 => by
    rw [tkB_s, fre_or, tkB_fre hN hP hx hj k]
    constructor
    · rintro ⟨h1, h2⟩ q hq u
      by_cases c : q = k
      · subst c
        rw [if_pos u] at h2
        exact go_sym ((fre_tk (mk_4 hN hP q (e q) u) hx hj).mp h2)
      · exact h1 q (by omega) u
    · intro h
      refine ⟨fun q hq u => h q (by omega) u, ?_⟩
      by_cases u : e k < lnS σ k
      · rw [if_pos u]
        exact (fre_tk (mk_4 hN hP k (e k) u) hx hj).mpr (go_sym (h k (by omega) u))
      · rw [if_neg u]; exact fre_0
