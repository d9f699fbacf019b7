theorem CG.plans {I J σ σ' : Nat → Int → Int} {P P' : Int → Nat} {dr dr' : Nat} (hN : WFn σ) (h : CG I σ P dr) (hp : CRp J σ' P' dr') (kI : ∀ a q, (17 ≤ a ∧ a ≤ 36) ∨ (118 ≤ a ∧ a ≤ 126) → J a q = I a q) (k : ∀ a q, a ≠ 138 → ¬ (a = 127 ∧ q = 21) → σ' a q = σ a q) : CG J σ' P' dr' :=
  ⟨(h.1.keep hN (fun a q _ _ => kI a q (by omega))).sg (fun a q _ => k a q (by omega) (by omega)), h.2.1.sg (fun a q _ _ => kI a q (by omega)) (fun a q _ => k a q (by omega) (by omega)), hp, h.2.2.2.1.sg (fun a q _ _ => kI a q (by omega)) (fun a q _ => k a q (by omega) (by omega)), by rw [kI 118 0 (by omega), k 127 31 (by omega) (by omega)]; exact h.2.2.2.2⟩
theorem pl_sep {a b j : Nat} (ha : isPl a) (hb : isPl b) (hj : j ≤ 2) : a + 2 + j ≠ b := by
  rcases ha with e | e | e | e | e | e <;> rcases hb with f | f | f | f | f | f <;> omega
theorem pl_sep2 {a b i j : Nat} (ha : isPl a) (hb : isPl b) (hab : a ≠ b) (hi : i ≤ 2) (hj : j ≤ 2) : a + 2 + i ≠ b + 2 + j := by
  rcases ha with e | e | e | e | e | e <;> rcases hb with f | f | f | f | f | f <;> omega
/-- a plan's cell holds a plan of another state, where cells and places agree -/
theorem PlAt.mv {I J σ σ' : Nat → Int → Int} {a : Nat} {p p' : Int} (h : PlAt I σ a p) (h4 : pf σ p 4 ≤ 3) (kI : ∀ c q, c = a ∨ (a + 2 ≤ c ∧ c ≤ a + 4) → J c q = I c q) (k : ∀ q, 0 ≤ q → q < 23 → σ' 138 (23 * p' + q) = σ 138 (23 * p + q)) : PlAt J σ' a p' := by
  obtain ⟨a0, a1, a2, a3, a4, a5⟩ := h
  have e4 : pf σ' p' 4 = pf σ p 4 := k 4 (by decide) (by decide)
  have es : ∀ j q, 0 ≤ j → j < 3 → 0 ≤ q → q < 6 → ps σ' p' j q = ps σ p j q := fun j q j0 j1 q0 q1 => by
    have := k (5 + 6 * j + q) (by omega) (by omega)
    unfold ps
    rw [show 23 * p' + 5 + 6 * j + q = 23 * p' + (5 + 6 * j + q) by omega, show 23 * p + 5 + 6 * j + q = 23 * p + (5 + 6 * j + q) by omega]
    exact this
  refine ⟨(kI _ _ (by omega)).trans (a0.trans (k 0 (by decide) (by decide)).symm), (kI _ _ (by omega)).trans (a1.trans (k 1 (by decide) (by decide)).symm), (kI _ _ (by omega)).trans (a2.trans (k 2 (by decide) (by decide)).symm), (kI _ _ (by omega)).trans (a3.trans (k 3 (by decide) (by decide)).symm), (kI _ _ (by omega)).trans (a4.trans (k 4 (by decide) (by decide)).symm), fun j j0 j1 => ?_⟩
  rw [e4] at j1
  obtain ⟨c0, c1, c2, c3, c4⟩ := a5 j j0 j1
  rw [es j 0 j0 (by omega) (by decide) (by decide), es j 1 j0 (by omega) (by decide) (by decide), es j 2 j0 (by omega) (by decide) (by decide), es j 3 j0 (by omega) (by decide) (by decide), es j 4 j0 (by omega) (by decide) (by decide), es j 5 j0 (by omega) (by decide) (by decide)]
  exact ⟨(kI _ _ (by omega)).trans c0, (kI _ _ (by omega)).trans c1, (kI _ _ (by omega)).trans c2, (kI _ _ (by omega)).trans c3, fun u => ⟨(kI _ _ (by omega)).trans (c4 u).1, (kI _ _ (by omega)).trans (c4 u).2⟩⟩
theorem CRp.worth {I σ : Nat → Int → Int} {P : Int → Nat} {dr : Nat} (hP : WFp σ) (h : CRp I σ P dr) {p v : Int} (p0 : 0 ≤ p) (p1 : p < σ 127 21) : CRp (upI I (P p) 3 v) (upI σ 138 (23 * p + 3) v) P dr := by
  obtain ⟨h1, h2, h3⟩ := id h
  have b1 := hP.1
  have hb := h2.1 p p0 (by omega)
  have hbb := pl_b hb
  have h42 : (42 : Nat) ≠ P p := by rcases hb with f | f | f | f | f | f <;> omega
  refine ⟨(up_ne h42).trans (h1.trans (up_ne (by decide)).symm), h2, fun q q0 q1 => ?_⟩
  rw [up_ne (by decide)] at q1
  have hq := h2.1 q q0 (by omega)
  have h4 := (hP.2 q q0 q1).2.2.2.2.1
  by_cases c1 : q = p
  · subst c1
    obtain ⟨a0, a1, a2, a3, a4, a5⟩ := h3 q q0 q1
    have e4 : pf (upI σ 138 (23 * q + 3) v) q 4 = pf σ q 4 := up_nk (by omega)
    refine ⟨(up_nk (by decide)).trans (a0.trans (up_nk (by omega)).symm), (up_nk (by decide)).trans (a1.trans (up_nk (by omega)).symm), (up_nk (by decide)).trans (a2.trans (up_nk (by omega)).symm), up_at.trans up_at.symm, (up_nk (by decide)).trans (a4.trans (up_nk (by omega)).symm), fun j j0 j1 => ?_⟩
    rw [e4] at j1
    obtain ⟨c0, c1, c2, c3, c4⟩ := a5 j j0 j1
    have nn : q.toNat = q.toNat := rfl
    have ne : P q + 2 + j.toNat ≠ P q := by omega
    exact ⟨(up_ne ne).trans (c0.trans (up_nk (by omega)).symm), (up_ne ne).trans (c1.trans (up_nk (by omega)).symm), (up_ne ne).trans (c2.trans (up_nk (by omega)).symm), (up_ne ne).trans (c3.trans (up_nk (by omega)).symm), fun u => ⟨(up_ne ne).trans ((c4 u).1.trans (up_nk (by omega)).symm), (up_ne ne).trans ((c4 u).2.trans (up_nk (by omega)).symm)⟩⟩
  · have hne : P q ≠ P p := fun e => c1 (h2.2.2.1 q p q0 (by omega) p0 (by omega) e)
    refine (h3 q q0 q1).mv h4.2 (fun c u hc => up_ne ?_) (fun u u0 u1 => up_nk (by omega))
    rcases hc with e | e
    · omega
    · intro e2
      exact pl_sep (j := c - (P q + 2)) hq hb (by omega) (by omega)
theorem WFp.wor {σ : Nat → Int → Int} {p v : Int} (hP : WFp σ) (v0 : 1 ≤ v) (v1 : v ≤ 99) : WFp (upI σ 138 (23 * p + 3) v) := by
  refine ⟨hP.1, fun q q0 q1 => ?_⟩
  obtain ⟨a0, a1, a2, a3, a4, a5⟩ := hP.2 q q0 q1
  have e : ∀ k, 0 ≤ k → k < 23 → k ≠ 3 → upI σ 138 (23 * p + 3) v 138 (23 * q + k) = σ 138 (23 * q + k) := fun k k0 k1 k3 => up_nk (by omega)
  have es : ∀ j k, 0 ≤ j → j < 3 → 0 ≤ k → k < 6 → ps (upI σ 138 (23 * p + 3) v) q j k = ps σ q j k := fun j k j0 j1 k0 k1 => up_nk (by rcases Int.lt_trichotomy q p with u | u | u <;> omega)
  have e4 : pf (upI σ 138 (23 * p + 3) v) q 4 = pf σ q 4 := e 4 (by decide) (by decide) (by decide)
  refine ⟨by rw [show pf (upI σ 138 (23 * p + 3) v) q 0 = pf σ q 0 from e 0 (by decide) (by decide) (by decide)]; exact a0, by rw [show pf (upI σ 138 (23 * p + 3) v) q 1 = pf σ q 1 from e 1 (by decide) (by decide) (by decide)]; exact a1, by rw [show pf (upI σ 138 (23 * p + 3) v) q 2 = pf σ q 2 from e 2 (by decide) (by decide) (by decide), up_ne (by decide)]; exact a2, ?_, by rw [e4]; exact a4, fun j j0 j1 => ?_⟩
  · by_cases c1 : q = p
    · rw [c1, show pf (upI σ 138 (23 * p + 3) v) p 3 = v from up_at]
      exact ⟨v0, v1⟩
    · rw [show pf (upI σ 138 (23 * p + 3) v) q 3 = pf σ q 3 from up_nk (by omega)]
      exact a3
  · rw [e4, es j 0 j0 j1 (by decide) (by decide), es j 1 j0 j1 (by decide) (by decide), es j 2 j0 j1 (by decide) (by decide), es j 3 j0 j1 (by decide) (by decide), es j 4 j0 j1 (by decide) (by decide), es j 5 j0 j1 (by decide) (by decide)]
    exact ⟨(a5 j j0 j1).1, fun u k k0 k1 => (es j k j0 j1 k0 k1).trans ((a5 j j0 j1).2 u k k0 k1)⟩
set_option maxRecDepth 20000 in
theorem k105 {d : Nat} {I : Nat → Int → Int} {P : Int → Nat} {dr : Nat} {σ : Nat → Int → Int} (hG : CG I σ P dr) (hW : WFs σ) {p v : Int} (i_p : inR p) (i_v : inR v) : cal (d + 2) 105 [vr 16, vi p, vi v] I P dr (clsQ (xWor σ p v) I P dr) := by
  refine cal_in (Nat.le_of_ble_eq_true rfl) ?_
  obtain ⟨hN, hT, hP, hA, hL⟩ := id hW
  have b0 := hN.1
  have b1 := hN.2.1
  have b2 := hN.2.2.1
  have b10 := hN.2.2.2.2.2.2.2.1
  obtain ⟨hC, hCt, hcp, hCl, hca⟩ := id hG
  obtain ⟨cn, ct, cg, cmr, cmf, cmt, cw, cT, cS, cW⟩ := id hC
  have bp := hP.1
  have hPc : ∀ k, 0 ≤ k → k < 5 → isPl (P k) := hcp.2.1.1
  show wp _ _ _ _ 0 [vr 16, vi p, vi v, vj] [] _
  refine s_ald k105_0 rfl ?_
  refine z_getRe (b := 42) k105_1 rfl rr_16_2 ?_
  refine s_ild k105_4 rfl ?_
  refine z_inv1A k105_5 rfl (Nat.le_of_ble_eq_true rfl) (c29 hcp.1 bp i_p) ?_
  refine z_ifneb k105_8 (fun h8 => ?_) (fun h8 => ?_)
  · refine s_ild k105_14 rfl ?_
    refine z_push k105_15 ?_
    refine z_push k105_16 ?_
    refine z_sta3A k105_18 (Nat.le_of_ble_eq_true rfl) (c126 i_v (inR_lit rfl) (inR_lit rfl)) ?_
    refine z_ifneb k105_21 (fun h21 => ?_) (fun h21 => ?_)
    · refine s_ald k105_27 rfl ?_
      refine z_getRe (b := 42) k105_28 rfl rr_16_2 ?_
      refine z_getRe (b := 43) k105_31 rfl rr_42_0 ?_
      refine s_ild k105_34 rfl ?_
      refine z_aalde (b := P p) k105_35 rfl (by omega) (show p < ((5 : Nat) : Int) by omega) rr_P ?_
      refine z_getIe (z := pf σ p 3) k105_36 (pl_sh (hPc _ (by omega) (by omega))) (hcp.f (by omega) (by omega)).2.2.2.1 ?_
      refine s_ist3 k105_39 rfl ?_
      refine s_ald k105_40 rfl ?_
      refine z_getRe (b := 42) k105_41 rfl rr_16_2 ?_
      refine z_getRe (b := 43) k105_44 rfl rr_42_0 ?_
      refine s_ild k105_47 rfl ?_
      refine z_aalde (b := P p) k105_48 rfl (by omega) (show p < ((5 : Nat) : Int) by omega) rr_P ?_
      refine s_ild k105_49 rfl ?_
      refine z_putIe (q := 3) k105_50 (pl_sh (hPc _ (by omega) (by omega))) rfl ?_
      refine s_ald k105_53 rfl ?_
      refine z_getRe (b := 69) k105_54 rfl rr_16_3 ?_
      refine z_inv0 k105_57 rfl (Nat.le_of_ble_eq_true rfl) (c1) (fun o h1 hq => ?_)
      obtain ⟨rfl, rfl⟩ := hq
      refine s_ild k105_60 rfl ?_
      have hPb := pl_b (hPc p (by omega) (by omega))
      refine z_iret k105_61 ⟨_, ?_, rfl, ?_⟩
      · unfold xWor
        rw [if_pos (by omega), if_pos (by omega)]
      · unfold xWor
        rw [if_pos (by omega), if_pos (by omega)]
        dsimp only
        refine ⟨CG.plans hN hG ((CRp.worth hP hcp (by omega) (by omega)).keep ?_ (fun a q _ _ => up_ne (by omega))) (fun a q _ => (up_ne (by omega)).trans (up_ne (by omega))) (fun a q h1 h2 => up_ne h1), (KC.rf.up (by omega)).fg⟩
        exact WFp.wor hP (by omega) (by omega)
    · refine z_push k105_24 ?_
      refine z_iret k105_26 ⟨I, ?_, rfl, ?_⟩
      · unfold xWor
        rw [if_pos (by omega), if_neg (by omega)]
      · unfold xWor
        rw [if_pos (by omega), if_neg (by omega)]
        exact ⟨hG, KC.rf⟩
  · refine z_push k105_11 ?_
    refine z_iret k105_13 ⟨I, ?_, rfl, ?_⟩
    · unfold xWor
      rw [if_neg (by omega)]
    · unfold xWor
      rw [if_neg (by omega)]
      exact ⟨hG, KC.rf⟩
