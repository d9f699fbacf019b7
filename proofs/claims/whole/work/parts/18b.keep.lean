/-! every operation keeps the bounds -/
theorem WFn.sg {σ σ' : Nat → Int → Int} (h : WFn σ) (k : ∀ a q, (a = 127 ∧ (q = 0 ∨ q = 1 ∨ q = 2 ∨ q = 6 ∨ q = 7 ∨ q = 8 ∨ q = 10)) ∨ (128 ≤ a ∧ a ≤ 132) → σ' a q = σ a q) : WFn σ' := by
  unfold WFn
  rw [k 127 0 (by omega), k 127 1 (by omega), k 127 2 (by omega), k 127 6 (by omega), k 127 7 (by omega), k 127 8 (by omega), k 127 10 (by omega)]
  obtain ⟨h0, h1, h2, h3, h4, h5, h6, h7, h8, h9⟩ := h
  refine ⟨h0, h1, h2, fun t t0 t1 => ?_, h4, h5, h6, h7, fun i i0 i1 => ?_, fun w w0 w1 => ?_⟩
  · rw [k 128 t (by omega), k 129 t (by omega), k 130 t (by omega)]; exact h3 t t0 t1
  · rw [k 131 i (by omega)]; exact h8 i i0 i1
  · rw [k 132 w (by omega)]; exact h9 w w0 w1
theorem WFt.sg {σ σ' : Nat → Int → Int} (h : WFt σ) (k : ∀ a q, (a = 127 ∧ q = 12) ∨ a = 133 → σ' a q = σ a q) : WFt σ' := by
  unfold WFt
  rw [k 127 12 (by omega)]
  exact ⟨h.1, fun i i0 i1 => by rw [k 133 i (by omega)]; exact h.2 i i0 i1⟩
theorem WFl.sg {σ σ' : Nat → Int → Int} (h : WFl σ) (k : ∀ a q, (a = 127 ∧ (q = 1 ∨ q = 39)) ∨ a = 149 ∨ a = 150 → σ' a q = σ a q) : WFl σ' := by
  unfold WFl
  rw [k 127 1 (by omega), k 127 39 (by omega)]
  exact ⟨fun l l0 l1 => by rw [k 149 l (by omega)]; exact h.1 l l0 l1, fun l l0 l1 => by rw [k 150 l (by omega)]; exact h.2.1 l l0 l1, h.2.2⟩
/-- what an operation must keep -/
def GO (σ : Nat → Int → Int) (x : mX) : Prop := WFs x.2.1 ∧ (x.2.2 = false → EqP σ x.2.1 ∧ ∀ p : Nat, (p : Int) < σ 127 21 → wS x.2.1 p = wS σ p)
theorem GO.same {σ : Nat → Int → Int} {a : Int} {f : Bool} (hW : WFs σ) : GO σ (a, σ, f) := ⟨hW, fun _ => ⟨EqP.rf, fun _ _ => rfl⟩⟩
theorem go_Air {σ : Nat → Int → Int} {t s : Int} (hW : WFs σ) : GO σ (xAir σ t s) := GO.same hW
theorem go_Acc {σ : Nat → Int → Int} {k : Int} (hW : WFs σ) : GO σ (xAcc σ k) := GO.same hW
theorem go_Cnt {σ : Nat → Int → Int} {k : Int} (hW : WFs σ) : GO σ (xCnt σ k) := GO.same hW
theorem go_Deb {σ : Nat → Int → Int} {k : Int} (hW : WFs σ) : GO σ (xDeb σ k) := GO.same hW
theorem go_Nxt {σ : Nat → Int → Int} (hW : WFs σ) : GO σ (xNxt σ) := GO.same hW
theorem go_Tol {σ : Nat → Int → Int} {p w : Int} (hW : WFs σ) : GO σ (xTol σ p w) := GO.same hW
theorem go_Wat {σ : Nat → Int → Int} {r w : Int} (hW : WFs σ) : GO σ (xWat σ r w) := GO.same hW
theorem go_Log {σ : Nat → Int → Int} {r w s : Int} (hW : WFs σ) : GO σ (xLog σ r w s) := GO.same hW
theorem go_Sta {σ : Nat → Int → Int} {r w p n : Int} (hW : WFs σ) : GO σ (xSta σ r w p n) := GO.same hW
theorem go_Sur {σ : Nat → Int → Int} {r : Int} (hW : WFs σ) : GO σ (xSur σ r) := GO.same hW
theorem go_Val {σ : Nat → Int → Int} {r q : Int} (hW : WFs σ) : GO σ (xVal σ r q) := GO.same hW
theorem go_Rul {σ : Nat → Int → Int} (hW : WFs σ) : GO σ (xRul σ) := GO.same hW
theorem go_Fau {σ : Nat → Int → Int} (hW : WFs σ) : GO σ (xFau σ) := GO.same hW
theorem go_Std {σ : Nat → Int → Int} (hW : WFs σ) : GO σ (xStd σ) := GO.same hW
