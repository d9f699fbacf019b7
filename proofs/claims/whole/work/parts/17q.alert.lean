/-! the best night: alert, the reference: what is barred -/
abbrev mkA (J : Nat → Int → Int) : Nat → Nat → Prop := fun p k => J 142 (200 * (p : Int) + k) = 1
def MB (σ : Nat → Int → Int) (x i : Nat) (J : Nat → Int → Int) (p k : Nat) : Prop := SV σ (mkA J) J ∧ ∀ p' k' : Nat, (p' : Int) < σ 127 21 → k' < lnS σ p' → Vb p k p' k' → (mkA J p' k' ↔ brA σ x i p' k')
theorem MB.z {σ J : Nat → Int → Int} {br : Nat → Nat → Prop} {x i : Nat} (h : SV σ br J) : MB σ x i J 0 0 := by
  refine ⟨⟨h.1, h.2.1, fun p k hp hk => ?_⟩, fun p' k' _ _ u => by unfold Vb at u; omega⟩
  rcases h.2.2 p k hp hk with ⟨u, -⟩ | ⟨u, -⟩
  · exact Or.inl ⟨u, fun w => by rw [show mkA J p k = (J 142 (200 * (p : Int) + k) = 1) from rfl, u] at w; exact absurd w (by decide)⟩
  · exact Or.inr ⟨u, u⟩
theorem MB.step {σ J : Nat → Int → Int} (hN : WFn σ) (hP : WFp σ) {x i p k : Nat} {z : Int} (h : MB σ x i J p k) (p1 : (p : Int) < σ 127 21) (hk : k < lnS σ p) (hz : (z = 0 ∧ ¬ brA σ x i p k) ∨ (z = 1 ∧ brA σ x i p k)) : MB σ x i (upI J 142 (200 * (p : Int) + k) z) p (k + 1) := by
  have hl := ln_b hN hP
  have key : ∀ p' k' : Nat, k' < lnS σ p' → ¬ (p' = p ∧ k' = k) → upI J 142 (200 * (p : Int) + k) z 142 (200 * (p' : Int) + k') = J 142 (200 * (p' : Int) + k') := fun p' k' hk' n => up_nk (by have := hl p'; have := hl p; omega)
  refine ⟨⟨(sig_no rfl).trans h.1.1, fun p' hp' => (h.1.2.1 p' hp').no142, fun p' k' hp' hk' => ?_⟩, fun p' k' hp' hk' u => ?_⟩
  · by_cases c : p' = p ∧ k' = k
    · obtain ⟨rfl, rfl⟩ := c
      have e : upI J 142 (200 * (p' : Int) + k') z 142 (200 * (p' : Int) + k') = z := up_at
      rcases hz with ⟨rfl, -⟩ | ⟨rfl, -⟩
      · exact Or.inl ⟨e, fun w => absurd (e.symm.trans w) (by decide)⟩
      · exact Or.inr ⟨e, e⟩
    · have e := key p' k' hk' c
      rcases h.1.2.2 p' k' hp' hk' with ⟨a, b⟩ | ⟨a, b⟩
      · exact Or.inl ⟨e.trans a, fun w => b (e.symm.trans w)⟩
      · exact Or.inr ⟨e.trans a, e.trans a⟩
  · by_cases c : p' = p ∧ k' = k
    · obtain ⟨rfl, rfl⟩ := c
      have e : upI J 142 (200 * (p' : Int) + k') z 142 (200 * (p' : Int) + k') = z := up_at
      rcases hz with ⟨rfl, n⟩ | ⟨rfl, n⟩
      · exact ⟨fun w => absurd (e.symm.trans w) (by decide), fun w => (n w).elim⟩
      · exact ⟨fun _ => n, fun _ => e⟩
    · have e := key p' k' hk' c
      have v : Vb p k p' k' := by
        rcases vb_s.mp u with v | v
        · exact v
        · exact (c v).elim
      have := h.2 p' k' hp' hk' v
      exact ⟨fun w => this.mp (e.symm.trans w), fun w => e.trans (this.mpr w)⟩
theorem MB.row {σ J : Nat → Int → Int} {x i p k : Nat} (h : MB σ x i J p k) (hk : lnS σ p ≤ k) : MB σ x i J (p + 1) 0 := ⟨h.1, fun p' k' hp' hk' u => h.2 p' k' hp' hk' (by
  unfold Vb at u ⊢
  by_cases c : p' = p
  · subst c; omega
  · omega)⟩
theorem MB.end {σ J : Nat → Int → Int} {x i p : Nat} (h : MB σ x i J p 0) (hp : nP σ ≤ p) : SV σ (brA σ x i) J := by
  have hnp : nP σ = (σ 127 21).toNat := rfl
  refine ⟨h.1.1, h.1.2.1, fun p' k' hp' hk' => ?_⟩
  have e := h.2 p' k' hp' hk' (by unfold Vb; omega)
  rcases h.1.2.2 p' k' hp' hk' with ⟨a, b⟩ | ⟨a, b⟩
  · exact Or.inl ⟨a, fun w => b (e.mpr w)⟩
  · exact Or.inr ⟨a, e.mp b⟩
set_option maxRecDepth 20000 in
theorem lp200c {d : Nat} {I σ : Nat → Int → Int} {P : Int → Nat} {dr : Nat} {Q : mQ} {x1 x3 x4 x5 x6 x7 : mV} (hN : WFn σ) (hP : WFp σ) {x i : Nat} (hx : x < 2 ^ (σ 127 0).toNat) (hi3 : i < 3) {p : Nat} (p1 : (p : Int) < σ 127 21) (hK : ∀ (J : Nat → Int → Int) (l11 : mV), (∀ a q, a ≠ 142 → J a q = I a q) → MB σ x i J (p + 1) 0 → wp (mcall MT CD (d + 7)) (CD 200) L0 Q 196 [vr 127, x1, vi (i : Int), x3, x4, x5, x6, x7, vi (x : Int), vi 1, vi (p : Int), l11] [] (S0, J, RR P dr)) : ∀ (m k : Nat) (J : Nat → Int → Int), k + m = lnS σ p → (∀ a q, a ≠ 142 → J a q = I a q) → MB σ x i J p k → wp (mcall MT CD (d + 7)) (CD 200) L0 Q 145 [vr 127, x1, vi (i : Int), x3, x4, x5, x6, x7, vi (x : Int), vi 1, vi (p : Int), vi (k : Int)] [] (S0, J, RR P dr) := by
  have bp := hP.1
  have hnp : nP σ = (σ 127 21).toNat := rfl
  have hln := ln_b hN hP p
  intro m
  induction m with
  | zero =>
    intro k J hi hF hB
    refine s_ild k200_145 rfl ?_
    refine s_ald k200_147 rfl ?_
    refine z_getRe (b := 139) k200_148 rfl rr_127_23 ?_
    refine s_ild k200_151 rfl ?_
    refine z_ialde (z := (lnS σ p : Int)) k200_153 rfl (by omega) (show (p : Int) < ((5 : Nat) : Int) by omega) (hB.1.ln p1) ?_
    refine s_icge k200_154 ⟨by omega, by omega⟩ ⟨by omega, by omega⟩ (fun h154 => ?_) (fun q => absurd q (by omega))
    exact hK J _ hF (hB.row (by omega))
  | succ m ih =>
    intro k J hi hF hB
    refine s_ild k200_145 rfl ?_
    refine s_ald k200_147 rfl ?_
    refine z_getRe (b := 139) k200_148 rfl rr_127_23 ?_
    refine s_ild k200_151 rfl ?_
    refine z_ialde (z := (lnS σ p : Int)) k200_153 rfl (by omega) (show (p : Int) < ((5 : Nat) : Int) by omega) (hB.1.ln p1) ?_
    refine s_icge k200_154 ⟨by omega, by omega⟩ ⟨by omega, by omega⟩ (fun q => absurd q (by omega)) (fun h154 => ?_)
    refine s_ald k200_157 rfl ?_
    refine z_getRe (b := 142) k200_158 rfl rr_127_26 ?_
    refine z_push k200_161 ?_
    refine s_ild k200_164 rfl ?_
    refine z_imul k200_166 ?_
    refine s_ild k200_167 rfl ?_
    refine z_iadd k200_169 ?_
    refine s_ald k200_170 rfl ?_
    refine s_ild k200_171 rfl ?_
    refine s_ild k200_173 rfl ?_
    refine s_ild k200_175 rfl ?_
    refine s_ild k200_177 rfl ?_
    refine z_inv4A k200_178 rfl (Nat.le_of_ble_eq_true rfl) (c175 hN hP hB.1 p1 (by omega) hx hi3) ?_
    refine z_ifneb k200_181 (fun h181 => ?_) (fun h181 => ?_)
    · refine z_push k200_188 ?_
      refine z_bast k200_189 rfl (by omega) (show ((200 * (p : Int)) + (k : Int)) < ((1000 : Nat) : Int) by omega) (by decide) ?_
      refine s_iinc11 k200_190 rfl ?_
      refine z_goto k200_193 ?_
      exact ih (k + 1) _ (by omega) (fun a q h => (up_ne h).trans (hF a q h)) (hB.step hN hP p1 (by omega) (Or.inl ⟨rfl, fun u => u h181⟩))
    · refine z_push k200_184 ?_
      refine z_goto k200_185 ?_
      refine z_bast k200_189 rfl (by omega) (show ((200 * (p : Int)) + (k : Int)) < ((1000 : Nat) : Int) by omega) (by decide) ?_
      refine s_iinc11 k200_190 rfl ?_
      refine z_goto k200_193 ?_
      exact ih (k + 1) _ (by omega) (fun a q h => (up_ne h).trans (hF a q h)) (hB.step hN hP p1 (by omega) (Or.inr ⟨rfl, h181⟩))
set_option maxRecDepth 20000 in
theorem lp200b {d : Nat} {I σ : Nat → Int → Int} {P : Int → Nat} {dr : Nat} {Q : mQ} {x1 x3 x4 x5 x6 x7 : mV} (hN : WFn σ) (hP : WFp σ) {x i : Nat} (hx : x < 2 ^ (σ 127 0).toNat) (hi3 : i < 3) (hK : ∀ (J : Nat → Int → Int) (l10 l11 : mV), (∀ a q, a ≠ 142 → J a q = I a q) → SV σ (brA σ x i) J → wp (mcall MT CD (d + 7)) (CD 200) L0 Q 202 [vr 127, x1, vi (i : Int), x3, x4, x5, x6, x7, vi (x : Int), vi 1, l10, l11] [] (S0, J, RR P dr)) : ∀ (m p : Nat) (J : Nat → Int → Int) (x11 : mV), p + m = nP σ → (∀ a q, a ≠ 142 → J a q = I a q) → MB σ x i J p 0 → wp (mcall MT CD (d + 7)) (CD 200) L0 Q 133 [vr 127, x1, vi (i : Int), x3, x4, x5, x6, x7, vi (x : Int), vi 1, vi (p : Int), x11] [] (S0, J, RR P dr) := by
  have bp := hP.1
  have hnp : nP σ = (σ 127 21).toNat := rfl
  intro m
  induction m with
  | zero =>
    intro p J x11 hi hF hB
    refine s_ild k200_133 rfl ?_
    refine s_ald k200_135 rfl ?_
    refine z_getIe (z := σ 127 21) k200_136 rfl (st_s hB.1.1 rfl) ?_
    refine s_icge k200_139 ⟨by omega, by omega⟩ ⟨by omega, by omega⟩ (fun h139 => ?_) (fun q => absurd q (by omega))
    exact hK J _ _ hF (hB.end (by omega))
  | succ m ih =>
    intro p J x11 hi hF hB
    refine s_ild k200_133 rfl ?_
    refine s_ald k200_135 rfl ?_
    refine z_getIe (z := σ 127 21) k200_136 rfl (st_s hB.1.1 rfl) ?_
    refine s_icge k200_139 ⟨by omega, by omega⟩ ⟨by omega, by omega⟩ (fun q => absurd q (by omega)) (fun h139 => ?_)
    refine z_push k200_142 ?_
    refine s_ist11 k200_143 rfl ?_
    refine lp200c (I := J) hN hP hx hi3 (by omega) (fun K l11 kF kB => ?_) (lnS σ p) 0 J (by omega) (fun _ _ _ => rfl) hB
    refine s_iinc10 k200_196 rfl ?_
    refine z_goto k200_199 ?_
    exact ih (p + 1) K _ (by omega) (fun a q h => (kF a q h).trans (hF a q h)) kB
