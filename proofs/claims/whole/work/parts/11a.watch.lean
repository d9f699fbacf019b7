/-! the class, watching -/
theorem pl_b {a : Nat} (h : isPl a) : 37 ≤ a ∧ a ≤ 64 := by rcases h with e | e | e | e | e | e <;> omega
theorem CRn.keep {I J σ : Nat → Int → Int} (hN : WFn σ) (h : CRn I σ) (k : ∀ a q, 17 ≤ a → a ≤ 34 → J a q = I a q) : CRn J σ := by
  obtain ⟨h1, h2, h3, h4, h5, h6, h7, h8, h9, h10⟩ := h
  have b2 := hN.2.2.1
  have b3 := hN.2.2.2.2.2.2.2.1
  refine ⟨(k _ _ (by decide) (by decide)).trans h1, (k _ _ (by decide) (by decide)).trans h2, (k _ _ (by decide) (by decide)).trans h3, (k _ _ (by decide) (by decide)).trans h4, (k _ _ (by decide) (by decide)).trans h5, (k _ _ (by decide) (by decide)).trans h6, (k _ _ (by decide) (by decide)).trans h7, fun t t0 t1 => ?_, fun w s w0 w1 s0 s1 => ?_, fun w w0 w1 => (k _ _ (by decide) (by decide)).trans (h10 w w0 w1)⟩
  · obtain ⟨a1, a2, a3⟩ := h8 t t0 t1
    exact ⟨(k _ _ (by omega) (by omega)).trans a1, (k _ _ (by omega) (by omega)).trans a2, (k _ _ (by omega) (by omega)).trans a3⟩
  · exact (k _ _ (by omega) (by omega)).trans (h9 w s w0 w1 s0 s1)
theorem CRp.keep {I J σ : Nat → Int → Int} {P : Int → Nat} {dr : Nat} (hP : WFp σ) (h : CRp I σ P dr) (k : ∀ a q, 37 ≤ a → a ≤ 68 → J a q = I a q) : CRp J σ P dr := by
  obtain ⟨h1, h2, h3⟩ := h
  refine ⟨(k _ _ (by decide) (by decide)).trans h1, h2, fun p p0 p1 => ?_⟩
  have b1 := hP.1
  have b := pl_b (h2.1 p p0 (by omega))
  have b4 := (hP.2 p p0 p1).2.2.2.2.1
  obtain ⟨a0, a1, a2, a3, a4, a5⟩ := h3 p p0 p1
  refine ⟨(k _ _ (by omega) (by omega)).trans a0, (k _ _ (by omega) (by omega)).trans a1, (k _ _ (by omega) (by omega)).trans a2, (k _ _ (by omega) (by omega)).trans a3, (k _ _ (by omega) (by omega)).trans a4, fun j j0 j1 => ?_⟩
  obtain ⟨c0, c1, c2, c3, c4⟩ := a5 j j0 j1
  exact ⟨(k _ _ (by omega) (by omega)).trans c0, (k _ _ (by omega) (by omega)).trans c1, (k _ _ (by omega) (by omega)).trans c2, (k _ _ (by omega) (by omega)).trans c3, fun q => ⟨(k _ _ (by omega) (by omega)).trans (c4 q).1, (k _ _ (by omega) (by omega)).trans (c4 q).2⟩⟩
theorem CRp.pl {I σ : Nat → Int → Int} {P : Int → Nat} {dr : Nat} (hP : WFp σ) (h : CRp I σ P dr) {p : Int} (p0 : 0 ≤ p) (p1 : p < σ 127 21) : isPl (P p) := h.2.1.1 p p0 (by have := hP.1; omega)
theorem CRp.f {I σ : Nat → Int → Int} {P : Int → Nat} {dr : Nat} (h : CRp I σ P dr) {p : Int} (p0 : 0 ≤ p) (p1 : p < σ 127 21) : I (P p) 0 = pf σ p 0 ∧ I (P p) 1 = pf σ p 1 ∧ I (P p) 2 = pf σ p 2 ∧ I (P p) 3 = pf σ p 3 ∧ I (P p) 4 = pf σ p 4 := by
  obtain ⟨a0, a1, a2, a3, a4, a5⟩ := h.2.2 p p0 p1
  exact ⟨a0, a1, a2, a3, a4⟩
theorem CRp.s {I σ : Nat → Int → Int} {P : Int → Nat} {dr : Nat} (h : CRp I σ P dr) {p j : Int} (p0 : 0 ≤ p) (p1 : p < σ 127 21) (j0 : 0 ≤ j) (j1 : j < pf σ p 4) : I (P p + 2 + j.toNat) 0 = ps σ p j 0 ∧ I (P p + 2 + j.toNat) 1 = ps σ p j 1 ∧ I (P p + 2 + j.toNat) 2 = ps σ p j 2 ∧ I (P p + 2 + j.toNat) 3 = ps σ p j 3 ∧ (1 ≤ j → I (P p + 2 + j.toNat) 4 = ps σ p j 4 ∧ I (P p + 2 + j.toNat) 5 = ps σ p j 5) := (h.2.2 p p0 p1).2.2.2.2.2 j j0 j1
/-- what the class's watch leaves as it was -/
def FC (I J : Nat → Int → Int) : Prop := ∀ a k, ¬ (a = 118 ∧ 7 ≤ k ∧ k ≤ 9) → ¬ (119 ≤ a ∧ a ≤ 122) → J a k = I a k
theorem FC.rf {I : Nat → Int → Int} : FC I I := fun _ _ _ _ => rfl
theorem FC.up {I J : Nat → Int → Int} {a : Nat} {k z : Int} (h : FC I J) (ha : (a = 118 ∧ 7 ≤ k ∧ k ≤ 9) ∨ (119 ≤ a ∧ a ≤ 122)) : FC I (upI J a k z) := fun a' k' h1 h2 => by
  unfold upI
  rw [if_neg (fun q => by rcases ha with e | e <;> omega)]
  exact h a' k' h1 h2
theorem FC.trans {I J K : Nat → Int → Int} (h : FC I J) (h' : FC J K) : FC I K := fun a k h1 h2 => (h' a k h1 h2).trans (h a k h1 h2)
/-- what the class's watch reads -/
def CX (I σ : Nat → Int → Int) (P : Int → Nat) (dr : Nat) : Prop := CRn I σ ∧ CRp I σ P dr ∧ I 118 0 = σ 127 31
theorem CX.keep {I J σ : Nat → Int → Int} {P : Int → Nat} {dr : Nat} (hN : WFn σ) (hP : WFp σ) (h : CX I σ P dr) (hF : FC I J) : CX J σ P dr := ⟨h.1.keep hN (fun a q _ _ => hF a q (by omega) (by omega)), h.2.1.keep hP (fun a q _ _ => hF a q (by omega) (by omega)), (hF _ _ (by omega) (by omega)).trans h.2.2⟩
/-- the class's rows hold the watch's state -/
def CWs (σ J w : Nat → Int → Int) : Prop := ∀ p, 0 ≤ p → p < σ 127 21 → J 120 p = w 145 p ∧ J 122 p = w 147 p ∧ ((1 ≤ w 145 p ∧ w 145 p ≤ 2) → J 121 p = w 146 p)
theorem CWs.no {σ J w : Nat → Int → Int} {a : Nat} {k z : Int} (h : CWs σ J w) (ha : a < 120) : CWs σ (upI J a k z) w := fun p p0 p1 => by
  rw [up_ne (by omega), up_ne (by omega), up_ne (by omega)]
  exact h p p0 p1
theorem CWs.lg {σ J w : Nat → Int → Int} {k z : Int} (h : CWs σ J w) : CWs σ J (upI w 148 k z) := fun p p0 p1 => by
  rw [up_ne (by decide), up_ne (by decide), up_ne (by decide)]
  exact h p p0 p1
abbrev brkC (σ J : Nat → Int → Int) (p : Int) : Nat → Int → Int := upI (upI J 120 p (if σ 127 31 = 1 ∧ J 122 p = 0 then 0 else 9)) 122 p 1
theorem CWs.brk {σ J w : Nat → Int → Int} {p : Int} (h : CWs σ J w) (h0 : 0 ≤ p) (h1 : p < σ 127 21) : CWs σ (brkC σ J p) (brkS σ w p) := fun q q0 q1 => by
  obtain ⟨e1, e2, e3⟩ := h q q0 q1
  obtain ⟨b1, b2, b3, -⟩ := brk_at (σ := σ) (w := w) (p := p) (q := q)
  have e4 := (h p h0 h1).2.1
  unfold brkC
  rw [b1, b2, b3, up_ne (by decide), up_ne (a' := 121) (by decide), up_ne (a' := 121) (by decide)]
  by_cases c1 : q = p
  · subst c1
    rw [up_at, up_at, if_pos rfl, if_pos rfl, e4]
    exact ⟨rfl, rfl, fun u => by split at u <;> omega⟩
  · rw [if_neg c1, if_neg c1, up_nk c1, up_nk c1, up_ne (by decide)]
    exact ⟨e1, e2, e3⟩
theorem FC.brk {σ I J : Nat → Int → Int} {p : Int} (h : FC I J) : FC I (brkC σ J p) := (h.up (Or.inr (by decide))).up (Or.inr (by decide))
theorem last_vis {σ : Nat → Int → Int} {t s : Int} (s0 : 0 ≤ s) (hv : airS σ t s ≤ σ 129 t) : ∀ k : Nat, s < k → lastS σ t k = (if σ 128 t - σ 127 1 + σ 129 t < (k : Int) - 1 then σ 128 t - σ 127 1 + σ 129 t else (k : Int) - 1)
  | 0, h => absurd h (by omega)
  | k + 1, h => by
    rw [last_s]
    unfold airS zabs at hv
    by_cases c1 : (k : Int) = s
    · subst c1
      rw [if_pos (by unfold airS zabs; exact hv)]
      split at hv <;> (split <;> omega)
    · have ih := last_vis s0 (by unfold airS zabs; exact hv) k (by omega)
      rw [ih]
      unfold airS zabs
      (repeat' split) <;> (first | omega | (split at hv <;> omega))
theorem rk_b {σ : Nat → Int → Int} (hN : WFn σ) {r p s : Int} (hp : PlWF σ p) (s0 : 0 ≤ s) (s1 : s < 12) : -1400 ≤ rkS σ r s p ∧ rkS σ r s p ≤ 1400 := by
  obtain ⟨t0, t1⟩ := hp.2.2.1
  obtain ⟨hm, hr, hg⟩ := hN.tg t0 t1
  have hn := hN.2.1
  have hnn := hN.1
  have v1 := hp.2.2.2.1
  have b1 := last_b (σ := σ) (t := pf σ p 2) (σ 127 0).toNat
  have b3 := airS_b (t := pf σ p 2) hm hn (by omega : -1000 ≤ s) (by omega)
  unfold rkS
  (repeat' split) <;> omega
set_option maxRecDepth 20000 in
theorem c83 {d : Nat} {J : Nat → Int → Int} {P : Int → Nat} {dr : Nat} {σ : Nat → Int → Int} (hN : WFn σ) (hP : WFp σ) (hX : CX J σ P dr) (ha : 0 ≤ σ 127 31 ∧ σ 127 31 ≤ 1) {p : Int} (p0 : 0 ≤ p) (p1 : p < σ 127 21) (hb : J 122 p = 0 ∨ J 122 p = 1) : cal (d + 1) 83 [vr 118, vi p] J P dr (fun o h => o = none ∧ h = (S0, brkC σ J p, RR P dr)) := by
  refine cal_in (Nat.le_of_ble_eq_true rfl) ?_
  obtain ⟨hC, hcp, hca⟩ := id hX
  obtain ⟨cn, ct, cg, cmr, cmf, cmt, cw, cT, cS, cW⟩ := id hC
  have hpl := hP.1
  have hPc : ∀ k, 0 ≤ k → k < 5 → isPl (P k) := hcp.2.1.1
  show wp _ _ _ _ 0 [vr 118, vi p] [] _
  refine s_ald k83_0 rfl ?_
  refine z_getRe (b := 120) k83_1 rfl rr_118_2 ?_
  refine s_ild k83_4 rfl ?_
  refine s_ald k83_5 rfl ?_
  refine z_getIe (z := σ 127 31) k83_6 rfl hca ?_
  refine z_push k83_9 ?_
  refine s_icne k83_10 ⟨by omega, by omega⟩ (inR_lit rfl) (fun h10 => ?_) (fun h10 => ?_)
  · refine z_push k83_26 ?_
    refine z_iast k83_28 rfl (by omega) (show p < ((5 : Nat) : Int) by omega) ?_
    refine s_ald k83_29 rfl ?_
    refine z_getRe (b := 122) k83_30 rfl rr_118_6 ?_
    refine s_ild k83_33 rfl ?_
    refine z_push k83_34 ?_
    refine z_bast k83_35 rfl (by omega) (show p < ((5 : Nat) : Int) by omega) (by decide) ?_
    exact z_vret k83_36 ⟨rfl, by unfold brkC; first | rw [if_pos (by omega)] | rw [if_neg (by omega)]⟩
  · refine s_ald k83_13 rfl ?_
    refine z_getRe (b := 122) k83_14 rfl rr_118_6 ?_
    refine s_ild k83_17 rfl ?_
    refine z_bald k83_18 rfl (by omega) (show p < ((5 : Nat) : Int) by omega) ?_
    refine s_ifne k83_19 ⟨by omega, by omega⟩ (fun h19 => ?_) (fun h19 => ?_)
    · refine z_push k83_26 ?_
      refine z_iast k83_28 rfl (by omega) (show p < ((5 : Nat) : Int) by omega) ?_
      refine s_ald k83_29 rfl ?_
      refine z_getRe (b := 122) k83_30 rfl rr_118_6 ?_
      refine s_ild k83_33 rfl ?_
      refine z_push k83_34 ?_
      refine z_bast k83_35 rfl (by omega) (show p < ((5 : Nat) : Int) by omega) (by decide) ?_
      exact z_vret k83_36 ⟨rfl, by unfold brkC; first | rw [if_pos (by omega)] | rw [if_neg (by omega)]⟩
    · refine z_push k83_22 ?_
      refine z_goto k83_23 ?_
      refine z_iast k83_28 rfl (by omega) (show p < ((5 : Nat) : Int) by omega) ?_
      refine s_ald k83_29 rfl ?_
      refine z_getRe (b := 122) k83_30 rfl rr_118_6 ?_
      refine s_ild k83_33 rfl ?_
      refine z_push k83_34 ?_
      refine z_bast k83_35 rfl (by omega) (show p < ((5 : Nat) : Int) by omega) (by decide) ?_
      exact z_vret k83_36 ⟨rfl, by unfold brkC; first | rw [if_pos (by omega)] | rw [if_neg (by omega)]⟩
set_option maxRecDepth 20000 in
theorem c84 {d : Nat} {J : Nat → Int → Int} {P : Int → Nat} {dr : Nat} {σ : Nat → Int → Int} (hN : WFn σ) (hP : WFp σ) (hX : CX J σ P dr) {p : Int} (p0 : 0 ≤ p) (p1 : p < σ 127 21) (hb : -1 ≤ J 120 p ∧ J 120 p ≤ 9) : cal (d + 1) 84 [vr 118, vi p] J P dr (ans (vi (b2i (J 120 p < pf σ p 4))) J P dr) := by
  refine cal_in (Nat.le_of_ble_eq_true rfl) ?_
  obtain ⟨hC, hcp, hca⟩ := id hX
  obtain ⟨cn, ct, cg, cmr, cmf, cmt, cw, cT, cS, cW⟩ := id hC
  have hpl := hP.1
  have hPc : ∀ k, 0 ≤ k → k < 5 → isPl (P k) := hcp.2.1.1
  have hpp := hP.2 p p0 p1
  have hp1 := hpp.2.1
  have hp2 := hpp.2.2.1
  have hp3 := hpp.2.2.2.1
  have hp4 := hpp.2.2.2.2.1
  have hPb := pl_b (hPc p p0 (by omega))
  show wp _ _ _ _ 0 [vr 118, vi p] [] _
  refine s_ald k84_0 rfl ?_
  refine z_getRe (b := 120) k84_1 rfl rr_118_2 ?_
  refine s_ild k84_4 rfl ?_
  refine z_iald k84_5 rfl (by omega) (show p < ((5 : Nat) : Int) by omega) ?_
  refine s_ald k84_6 rfl ?_
  refine z_getRe (b := 42) k84_7 rfl rr_118_4 ?_
  refine z_getRe (b := 43) k84_10 rfl rr_42_0 ?_
  refine s_ild k84_13 rfl ?_
  refine z_aalde (b := P p) k84_14 rfl (by omega) (show p < ((5 : Nat) : Int) by omega) rr_P ?_
  refine z_getIe (z := pf σ p 4) k84_15 (pl_sh (hPc _ (by omega) (by omega))) (hcp.f (by omega) (by omega)).2.2.2.2 ?_
  refine s_icge k84_18 ⟨by omega, by omega⟩ ⟨by omega, by omega⟩ (fun h18 => ?_) (fun h18 => ?_)
  · refine z_push k84_25 ?_
    exact z_zret k84_26 (Or.inl rfl) (ans_i (b2i_f (by omega)).symm)
  · refine z_push k84_21 ?_
    refine z_goto k84_22 ?_
    exact z_zret k84_26 (Or.inr rfl) (ans_i (b2i_t (by omega)).symm)
set_option maxRecDepth 20000 in
theorem c85 {d : Nat} {J : Nat → Int → Int} {P : Int → Nat} {dr : Nat} {σ : Nat → Int → Int} (hN : WFn σ) (hP : WFp σ) (hX : CX J σ P dr) {p : Int} (p0 : 0 ≤ p) (p1 : p < σ 127 21) (j0 : 0 ≤ J 120 p) (j1 : J 120 p < 3) : cal (d + 1) 85 [vr 118, vi p] J P dr (ans (vr (P p + 2 + (J 120 p).toNat)) J P dr) := by
  refine cal_in (Nat.le_of_ble_eq_true rfl) ?_
  obtain ⟨hC, hcp, hca⟩ := id hX
  obtain ⟨cn, ct, cg, cmr, cmf, cmt, cw, cT, cS, cW⟩ := id hC
  have hpl := hP.1
  have hPc : ∀ k, 0 ≤ k → k < 5 → isPl (P k) := hcp.2.1.1
  have hpp := hP.2 p p0 p1
  have hp1 := hpp.2.1
  have hp2 := hpp.2.2.1
  have hp3 := hpp.2.2.2.1
  have hp4 := hpp.2.2.2.2.1
  have hPb := pl_b (hPc p p0 (by omega))
  show wp _ _ _ _ 0 [vr 118, vi p] [] _
  refine s_ald k85_0 rfl ?_
  refine z_getRe (b := 42) k85_1 rfl rr_118_4 ?_
  refine z_getRe (b := 43) k85_4 rfl rr_42_0 ?_
  refine s_ild k85_7 rfl ?_
  refine z_aalde (b := P p) k85_8 rfl (by omega) (show p < ((5 : Nat) : Int) by omega) rr_P ?_
  refine z_getRe (b := P p + 1) k85_9 (pl_sh (hPc _ (by omega) (by omega))) (rr_st5 (hPc _ (by omega) (by omega))) ?_
  refine s_ald k85_12 rfl ?_
  refine z_getRe (b := 120) k85_13 rfl rr_118_2 ?_
  refine s_ild k85_16 rfl ?_
  refine z_iald k85_17 rfl (by omega) (show p < ((5 : Nat) : Int) by omega) ?_
  refine z_aalde (b := P p + 2 + (J 120 p).toNat) k85_18 (by rw [pl_sa (hPc _ (by omega) (by omega))]) (by omega) (by rw [pl_sa (hPc _ (by omega) (by omega))]; show (J 120 p) < ((3 : Nat) : Int); omega) (rr_stj (hPc _ (by omega) (by omega)) (by omega) (by omega)) ?_
  exact z_aret k85_19 (ans_r rfl)
set_option maxRecDepth 20000 in
theorem c86 {d : Nat} {J : Nat → Int → Int} {P : Int → Nat} {dr : Nat} {σ : Nat → Int → Int} (hN : WFn σ) (hP : WFp σ) (hX : CX J σ P dr) {p : Int} (p0 : 0 ≤ p) (p1 : p < σ 127 21) : cal (d + 1) 86 [vr 118, vi p] J P dr (ans (vr (27 + (pf σ p 2).toNat)) J P dr) := by
  refine cal_in (Nat.le_of_ble_eq_true rfl) ?_
  obtain ⟨hC, hcp, hca⟩ := id hX
  obtain ⟨cn, ct, cg, cmr, cmf, cmt, cw, cT, cS, cW⟩ := id hC
  have hpl := hP.1
  have hPc : ∀ k, 0 ≤ k → k < 5 → isPl (P k) := hcp.2.1.1
  have hpp := hP.2 p p0 p1
  have hp1 := hpp.2.1
  have hp2 := hpp.2.2.1
  have hp3 := hpp.2.2.2.1
  have hp4 := hpp.2.2.2.2.1
  have hPb := pl_b (hPc p p0 (by omega))
  have h8 := hN.2.2.1
  show wp _ _ _ _ 0 [vr 118, vi p] [] _
  refine s_ald k86_0 rfl ?_
  refine z_getRe (b := 17) k86_1 rfl rr_118_3 ?_
  refine z_getRe (b := 18) k86_4 rfl rr_17_2 ?_
  refine s_ald k86_7 rfl ?_
  refine z_getRe (b := 42) k86_8 rfl rr_118_4 ?_
  refine z_getRe (b := 43) k86_11 rfl rr_42_0 ?_
  refine s_ild k86_14 rfl ?_
  refine z_aalde (b := P p) k86_15 rfl (by omega) (show p < ((5 : Nat) : Int) by omega) rr_P ?_
  refine z_getIe (z := pf σ p 2) k86_16 (pl_sh (hPc _ (by omega) (by omega))) (hcp.f (by omega) (by omega)).2.2.1 ?_
  refine z_aalde (b := 27 + (pf σ p 2).toNat) k86_19 rfl (by omega) (show (pf σ p 2) < ((8 : Nat) : Int) by omega) (rr_tg (by omega) (by omega)) ?_
  exact z_aret k86_20 (ans_r rfl)
set_option maxRecDepth 20000 in
theorem c87 {d : Nat} {J : Nat → Int → Int} {P : Int → Nat} {dr : Nat} {σ : Nat → Int → Int} (hN : WFn σ) (hP : WFp σ) (hX : CX J σ P dr) {w : Nat → Int → Int} {p s wh : Int} (p0 : 0 ≤ p) (p1 : p < σ 127 21) (hS : CWs σ J w) (hst : stOK σ w p) (s0 : 0 ≤ s) (s1 : s < 12) (w0 : 0 ≤ wh) (w1 : wh < 2 + σ 127 10) : cal (d + 4) 87 [vr 118, vi p, vi wh, vi s] J P dr (ans (vi (b2i (mayS σ w wh s p))) J P dr) := by
  refine cal_in (Nat.le_of_ble_eq_true rfl) ?_
  obtain ⟨hC, hcp, hca⟩ := id hX
  obtain ⟨cn, ct, cg, cmr, cmf, cmt, cw, cT, cS, cW⟩ := id hC
  have hpl := hP.1
  have hPc : ∀ k, 0 ≤ k → k < 5 → isPl (P k) := hcp.2.1.1
  have hpp := hP.2 p p0 p1
  have hp1 := hpp.2.1
  have hp2 := hpp.2.2.1
  have hp3 := hpp.2.2.2.1
  have hp4 := hpp.2.2.2.2.1
  have hPb := pl_b (hPc p p0 (by omega))
  obtain ⟨hm, hr, hg⟩ := hN.tg hp2.1 hp2.2
  have h8 := hN.2.2.1
  have hn := hN.2.1
  have hnn := hN.1
  have hw4 := hN.2.2.2.2.2.2.2.1
  obtain ⟨e1, e2, e3⟩ := hS p p0 p1
  have hst1 := hst.1
  have hst2 := hst.2.1
  show wp _ _ _ _ 0 [vr 118, vi p, vi wh, vi s, vj, vj] [] _
  refine s_ald k87_0 rfl ?_
  refine s_ild k87_1 rfl ?_
  refine z_inv1A k87_2 rfl (Nat.le_of_ble_eq_true rfl) (c84 hN hP hX p0 p1 (by omega)) ?_
  refine z_ifneb k87_5 (fun h5 => ?_) (fun h5 => ?_)
  · have hj : 0 ≤ J 120 p ∧ J 120 p < pf σ p 4 := by omega
    obtain ⟨j3, k0, k1, k2, k3, k4⟩ := hpp.st hj.1 hj.2
    have hq := hcp.s p0 p1 hj.1 hj.2
    refine s_ald k87_10 rfl ?_
    refine s_ild k87_11 rfl ?_
    refine z_inv1A k87_12 rfl (Nat.le_of_ble_eq_true rfl) (c85 hN hP hX p0 p1 (by omega) (by omega)) ?_
    refine s_ast4 k87_15 rfl ?_
    refine s_ald k87_17 rfl ?_
    refine z_getRe (b := 120) k87_18 rfl rr_118_2 ?_
    refine s_ild k87_21 rfl ?_
    refine z_iald k87_22 rfl (by omega) (show p < ((5 : Nat) : Int) by omega) ?_
    refine s_ifeq k87_23 ⟨by omega, by omega⟩ (fun h23 => ?_) (fun h23 => ?_)
    · refine z_push k87_42 ?_
      refine z_goto k87_43 ?_
      refine s_ist5 k87_47 rfl ?_
      refine s_ild k87_49 rfl ?_
      refine s_ifeq k87_51 (inR_lit rfl) (fun q => absurd q (by decide)) (fun _ => ?_)
      refine s_ild k87_54 rfl ?_
      refine s_ald k87_55 rfl ?_
      refine z_getIe (z := ps σ p (J 120 p) 0) k87_57 (pl_st (hPc p p0 (by omega)) (by omega)) (hcp.s (by omega) (by omega) (by omega) (by omega)).1 ?_
      refine z_iadd k87_60 ?_
      refine s_ald k87_61 rfl ?_
      refine z_getRe (b := 17) k87_62 rfl rr_118_3 ?_
      refine z_getIe (z := σ 127 0) k87_65 rfl cn ?_
      refine s_icgt k87_68 ⟨by omega, by omega⟩ ⟨by omega, by omega⟩ (fun h68 => ?_) (fun h68 => ?_)
      · refine z_push k87_94 ?_
        exact z_zret k87_95 (by decide) (ans_i (b2i_f (fun q => by have q1 := q.1; have q2 := q.2.1; have q3 := q.2.2.1; have q4 := q.2.2.2; rw [e1] at *; first | omega | exact h87 q3)).symm)
      · refine s_ald k87_71 rfl ?_
        refine z_getRe (b := 17) k87_72 rfl rr_118_3 ?_
        refine s_ild k87_75 rfl ?_
        refine s_ald k87_76 rfl ?_
        refine s_ild k87_77 rfl ?_
        refine z_inv1A k87_78 rfl (Nat.le_of_ble_eq_true rfl) (c86 hN hP hX p0 p1) ?_
        refine s_ald k87_81 rfl ?_
        refine s_ild k87_83 rfl ?_
        refine z_inv4A k87_84 rfl (Nat.le_of_ble_eq_true rfl) (c67 hC (pl_st (hPc p p0 (by omega)) (by omega)) hq.2.1 hq.2.2.1 hq.2.2.2.1 hp2.1 hp2.2 h8.2 hm hr hg hn (hN.sk (by omega) (by omega)) hN.mo s0 s1 w0 w1 hw4.2 (by omega) (by omega) (by omega)) ?_
        refine z_ifeqb k87_87 (fun h87 => ?_) (fun h87 => ?_)
        · refine z_push k87_94 ?_
          exact z_zret k87_95 (by decide) (ans_i (b2i_f (fun q => by have q1 := q.1; have q2 := q.2.1; have q3 := q.2.2.1; have q4 := q.2.2.2; rw [e1] at *; first | omega | exact h87 q3)).symm)
        · refine z_push k87_90 ?_
          refine z_goto k87_91 ?_
          exact z_zret k87_95 (by decide) (ans_i (b2i_t ⟨by omega, by rw [e1] at *; omega, by rw [e1] at h87; exact h87, by rw [e1] at *; omega⟩).symm)
    · refine s_ild k87_26 rfl ?_
      refine s_ald k87_27 rfl ?_
      refine z_getRe (b := 121) k87_28 rfl rr_118_5 ?_
      refine s_ild k87_31 rfl ?_
      refine z_iald k87_32 rfl (by omega) (show p < ((5 : Nat) : Int) by omega) ?_
      refine z_isub k87_33 ?_
      refine s_ald k87_34 rfl ?_
      refine z_getIe (z := ps σ p (J 120 p) 4) k87_36 (pl_st (hPc p p0 (by omega)) (by omega)) ((hcp.s (by omega) (by omega) (by omega) (by omega)).2.2.2.2 (by omega)).1 ?_
      refine s_iclt k87_39 ⟨by omega, by omega⟩ ⟨by omega, by omega⟩ (fun h39 => ?_) (fun h39 => ?_)
      · refine z_push k87_46 ?_
        refine s_ist5 k87_47 rfl ?_
        refine s_ild k87_49 rfl ?_
        refine s_ifeq k87_51 (inR_lit rfl) (fun _ => ?_) (fun q => absurd q (by decide))
        refine z_push k87_94 ?_
        exact z_zret k87_95 (by decide) (ans_i (b2i_f (fun q => by have q1 := q.1; have q2 := q.2.1; have q3 := q.2.2.1; have q4 := q.2.2.2; rw [e1] at *; first | omega | exact h87 q3)).symm)
      · refine z_push k87_42 ?_
        refine z_goto k87_43 ?_
        refine s_ist5 k87_47 rfl ?_
        refine s_ild k87_49 rfl ?_
        refine s_ifeq k87_51 (inR_lit rfl) (fun q => absurd q (by decide)) (fun _ => ?_)
        refine s_ild k87_54 rfl ?_
        refine s_ald k87_55 rfl ?_
        refine z_getIe (z := ps σ p (J 120 p) 0) k87_57 (pl_st (hPc p p0 (by omega)) (by omega)) (hcp.s (by omega) (by omega) (by omega) (by omega)).1 ?_
        refine z_iadd k87_60 ?_
        refine s_ald k87_61 rfl ?_
        refine z_getRe (b := 17) k87_62 rfl rr_118_3 ?_
        refine z_getIe (z := σ 127 0) k87_65 rfl cn ?_
        refine s_icgt k87_68 ⟨by omega, by omega⟩ ⟨by omega, by omega⟩ (fun h68 => ?_) (fun h68 => ?_)
        · refine z_push k87_94 ?_
          exact z_zret k87_95 (by decide) (ans_i (b2i_f (fun q => by have q1 := q.1; have q2 := q.2.1; have q3 := q.2.2.1; have q4 := q.2.2.2; rw [e1] at *; first | omega | exact h87 q3)).symm)
        · refine s_ald k87_71 rfl ?_
          refine z_getRe (b := 17) k87_72 rfl rr_118_3 ?_
          refine s_ild k87_75 rfl ?_
          refine s_ald k87_76 rfl ?_
          refine s_ild k87_77 rfl ?_
          refine z_inv1A k87_78 rfl (Nat.le_of_ble_eq_true rfl) (c86 hN hP hX p0 p1) ?_
          refine s_ald k87_81 rfl ?_
          refine s_ild k87_83 rfl ?_
          refine z_inv4A k87_84 rfl (Nat.le_of_ble_eq_true rfl) (c67 hC (pl_st (hPc p p0 (by omega)) (by omega)) hq.2.1 hq.2.2.1 hq.2.2.2.1 hp2.1 hp2.2 h8.2 hm hr hg hn (hN.sk (by omega) (by omega)) hN.mo s0 s1 w0 w1 hw4.2 (by omega) (by omega) (by omega)) ?_
          refine z_ifeqb k87_87 (fun h87 => ?_) (fun h87 => ?_)
          · refine z_push k87_94 ?_
            exact z_zret k87_95 (by decide) (ans_i (b2i_f (fun q => by have q1 := q.1; have q2 := q.2.1; have q3 := q.2.2.1; have q4 := q.2.2.2; rw [e1] at *; first | omega | exact h87 q3)).symm)
          · refine z_push k87_90 ?_
            refine z_goto k87_91 ?_
            exact z_zret k87_95 (by decide) (ans_i (b2i_t ⟨by omega, by rw [e1] at *; omega, by rw [e1] at h87; exact h87, by rw [e1] at *; omega⟩).symm)
  · refine z_push k87_8 ?_
    exact z_zret k87_9 (by decide) (ans_i (b2i_f (fun q => by have q1 := q.1; have q2 := q.2.1; have q3 := q.2.2.1; have q4 := q.2.2.2; rw [e1] at *; first | omega | exact h87 q3)).symm)
set_option maxRecDepth 20000 in
theorem c89 {d : Nat} {J : Nat → Int → Int} {P : Int → Nat} {dr : Nat} {σ : Nat → Int → Int} (hN : WFn σ) (hP : WFp σ) (hX : CX J σ P dr) {p r s : Int} (p0 : 0 ≤ p) (p1 : p < σ 127 21) (r0 : 0 ≤ r) (r1 : r ≤ 2) (s0 : 0 ≤ s) (s1 : s < σ 127 0) (hv : airS σ (pf σ p 2) s ≤ σ 129 (pf σ p 2)) : cal (d + 2) 89 [vr 118, vi p, vi r, vi s] J P dr (ans (vi (rkS σ r s p)) J P dr) := by
  refine cal_in (Nat.le_of_ble_eq_true rfl) ?_
  obtain ⟨hC, hcp, hca⟩ := id hX
  obtain ⟨cn, ct, cg, cmr, cmf, cmt, cw, cT, cS, cW⟩ := id hC
  have hpl := hP.1
  have hPc : ∀ k, 0 ≤ k → k < 5 → isPl (P k) := hcp.2.1.1
  have hpp := hP.2 p p0 p1
  have hp1 := hpp.2.1
  have hp2 := hpp.2.2.1
  have hp3 := hpp.2.2.2.1
  have hp4 := hpp.2.2.2.2.1
  have hPb := pl_b (hPc p p0 (by omega))
  obtain ⟨hm, hr, hg⟩ := hN.tg hp2.1 hp2.2
  have h8 := hN.2.2.1
  have hn := hN.2.1
  have hnn := hN.1
  have hw4 := hN.2.2.2.2.2.2.2.1
  show wp _ _ _ _ 0 [vr 118, vi p, vi r, vi s] [] _
  refine s_ild k89_0 rfl ?_
  rcases (show r = 0 ∨ r = 1 ∨ r = 2 from by omega) with e1 | e1 | e1
  · subst e1
    refine s_lsw k89_1 (inR_lit rfl) rfl ?_
    refine s_ald k89_28 rfl ?_
    refine z_getRe (b := 42) k89_29 rfl rr_118_4 ?_
    refine z_getRe (b := 43) k89_32 rfl rr_42_0 ?_
    refine s_ild k89_35 rfl ?_
    refine z_aalde (b := P p) k89_36 rfl (by omega) (show p < ((5 : Nat) : Int) by omega) rr_P ?_
    refine z_getIe (z := pf σ p 3) k89_37 (pl_sh (hPc _ (by omega) (by omega))) (hcp.f (by omega) (by omega)).2.2.2.1 ?_
    refine z_ineg k89_40 ?_
    exact z_iret k89_41 (ans_i rfl)
  · subst e1
    refine s_lsw k89_1 (inR_lit rfl) rfl ?_
    refine s_ald k89_42 rfl ?_
    refine z_getRe (b := 17) k89_43 rfl rr_118_3 ?_
    refine s_ald k89_46 rfl ?_
    refine s_ild k89_47 rfl ?_
    refine z_inv1A k89_48 rfl (Nat.le_of_ble_eq_true rfl) (c86 hN hP hX p0 p1) ?_
    refine s_ild k89_51 rfl ?_
    refine z_inv2A k89_52 rfl (Nat.le_of_ble_eq_true rfl) (c63 hC hp2.1 hp2.2 h8.2 hm hr hn (by omega) (by omega)) ?_
    exact z_iret k89_55 (ans_i rfl)
  · subst e1
    refine s_lsw k89_1 (inR_lit rfl) rfl ?_
    refine s_ald k89_56 rfl ?_
    refine z_getRe (b := 17) k89_57 rfl rr_118_3 ?_
    refine s_ald k89_60 rfl ?_
    refine s_ild k89_61 rfl ?_
    refine z_inv1A k89_62 rfl (Nat.le_of_ble_eq_true rfl) (c86 hN hP hX p0 p1) ?_
    refine z_inv1A k89_65 rfl (Nat.le_of_ble_eq_true rfl) (c65 hC hp2.1 hp2.2 h8.2 hm hr hn hnn) ?_
    exact z_iret k89_68 (ans_i (by
      have e := last_vis s0 hv (σ 127 0).toNat (by omega)
      rw [show (((σ 127 0).toNat : Nat) : Int) = σ 127 0 from by omega] at e
      exact e.symm))
