/-! the tables go on holding, or are forgotten -/
theorem CBx.f {I J : Nat → Int → Int} {g : Nat} (h : CBx I g) (k : ∀ a k, 69 ≤ a → a ≤ 117 → ¬ (a = 69 ∧ k = 17) → J a k = I a k) (h17 : J 69 17 = 0 ∨ J 69 17 = 1) : CBx J g := by
  obtain ⟨h1, ⟨h2, h3, h4⟩, -, h6⟩ := h
  refine ⟨(k _ _ (by decide) (by decide) (by decide)).trans h1, ⟨(k _ _ (by decide) (by decide) (by decide)).trans h2, (k _ _ (by decide) (by decide) (by decide)).trans h3, (k _ _ (by decide) (by decide) (by decide)).trans h4⟩, h17, fun x x0 x1 => ?_⟩
  obtain ⟨q, q1, q2⟩ := h6 x x0 x1
  exact ⟨q, (k _ _ (by decide) (by decide) (by omega)).trans q1, q2⟩
theorem CC.kc {σ σ' I J : Nat → Int → Int} {g : Nat} {f : Bool} (hN : WFn σ) (hP : WFp σ) (h : CC σ I g) (hK : KC f I J) (hE : f = false → EqP σ σ' ∧ ∀ p : Nat, (p : Int) < σ 127 21 → wS σ' p = wS σ p) : CC σ' J g := by
  cases f with
  | true =>
    obtain ⟨g', hg, hB, -⟩ := h
    have e : J 69 17 = 0 := hK.2.1
    exact ⟨g', hg, hB.f hK.1 (Or.inl e), fun u => absurd (e.symm.trans u) (by decide)⟩
  | false =>
    obtain ⟨e1, e2⟩ := hE rfl
    have e : J 69 17 = I 69 17 := hK.2.1
    obtain ⟨g', hg, hB, hF⟩ := CC.k (J := J) hP h (fun a q h1 h2 => by
      by_cases c : a = 69 ∧ q = 17
      · rw [c.1, c.2]; exact e
      · exact hK.1 a q h1 h2 c)
    exact ⟨g', hg, hB, fun u => (hF u).c e1 hN hP e2⟩
theorem CC.up {σ I : Nat → Int → Int} {g g' : Nat} (h : CC σ I g) (hg : g ≤ g') : CC σ I g' := by
  obtain ⟨a, b, c⟩ := h
  exact ⟨a, by omega, c⟩
theorem EqP.rf {σ : Nat → Int → Int} : EqP σ σ := ⟨rfl, rfl, rfl, rfl, rfl, rfl, fun _ _ _ => rfl, fun _ _ _ => ⟨rfl, rfl, rfl⟩, fun _ _ _ _ _ _ _ => rfl⟩
/-- agreement where the placing of plans reads, said by cells -/
theorem EqP.of {σ σ' : Nat → Int → Int} (k : ∀ a q, (a = 127 ∧ (q = 0 ∨ q = 1 ∨ q = 6 ∨ q = 7 ∨ q = 8 ∨ q = 21)) ∨ a = 138 → σ' a q = σ a q) (hs : ∀ s, 0 ≤ s → s < 12 → σ' 131 s = σ 131 s) (ht : ∀ t, 0 ≤ t → t < σ 127 2 → σ' 128 t = σ 128 t ∧ σ' 129 t = σ 129 t ∧ σ' 130 t = σ 130 t) : EqP σ σ' ∧ ∀ p : Nat, (p : Int) < σ 127 21 → wS σ' p = wS σ p :=
  ⟨⟨k _ _ (by omega), k _ _ (by omega), k _ _ (by omega), k _ _ (by omega), k _ _ (by omega), k _ _ (by omega), hs, ht, fun _ _ _ _ _ _ _ => k _ _ (by omega)⟩, fun _ _ => k _ _ (by omega)⟩
/-- a question of the best night keeps the other groups -/
theorem CG.b {I J σ : Nat → Int → Int} {P : Int → Nat} {dr : Nat} (hN : WFn σ) (hP : WFp σ) (h : CG I σ P dr) (hF : FCb I J) : CG J σ P dr :=
  h.led hN hP (h.2.2.2.1.sg (fun a q _ _ => hF a q (by omega) (by omega) (by omega)) (fun _ _ _ => rfl)) (fun a q u => hF a q (by omega) (by omega) (by omega)) (fun _ _ _ _ _ => rfl)
