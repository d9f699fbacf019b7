/-! the best night: what it answers -/
/-- the best choice -/
noncomputable def bC (σ : Nat → Int → Int) : Nat → Nat := Classical.epsilon (fun e => IsB (nP σ) (okS σ (fun _ _ => False) (nP σ)) (WSc σ) (SSc σ) e)
theorem bC_is {σ : Nat → Int → Int} {e : Nat → Nat} (h : IsB (nP σ) (okS σ (fun _ _ => False) (nP σ)) (WSc σ) (SSc σ) e) : eqN (nP σ) e (bC σ) := isB_one h (Classical.epsilon_spec (p := fun e => IsB (nP σ) (okS σ (fun _ _ => False) (nP σ)) (WSc σ) (SSc σ) e) ⟨e, h⟩)
theorem bC_cls {σ : Nat → Int → Int} (hN : WFn σ) (hP : WFp σ) {s : Nat} {c : Nat → Nat} (h : FirS σ (nP σ) 0 s 0 c) (hb : ∀ s2 d, s2 < 2 ^ nP σ → Vec σ s2 d → eqN (nP σ) c d ∨ betL (nP σ) (Wf σ (wS σ)) (Wf σ (zS σ)) c d) : eqN (nP σ) (nzC σ c) (bC σ) := bC_is (isB_vec hN hP (w := wS σ) (z := zS σ) (fir_vec h) hb)
theorem sumC_eq {ln : Nat → Nat} {f : Nat → Int} {c d : Nat → Nat} : ∀ k, eqN k c d → sumC ln f c k = sumC ln f d k
  | 0, _ => rfl
  | k + 1, h => by
    show sumC ln f c k + _ = sumC ln f d k + _
    rw [sumC_eq k (fun q hq => h q (by omega)), h k (by omega)]
/-- the slots of a choice -/
def bmN (σ : Nat → Int → Int) (e : Nat → Nat) : Nat → Nat
  | 0 => 0
  | k + 1 => bmN σ e k ||| (if e k < lnS σ k then mkQ σ k (e k) else 0)
theorem bm_s {σ : Nat → Int → Int} {e : Nat → Nat} {k : Nat} : bmN σ e (k + 1) = bmN σ e k ||| (if e k < lnS σ k then mkQ σ k (e k) else 0) := rfl
theorem bm_eq {σ : Nat → Int → Int} {c d : Nat → Nat} : ∀ k, eqN k c d → bmN σ c k = bmN σ d k
  | 0, _ => rfl
  | k + 1, h => by
    rw [bm_s, bm_s, bm_eq k (fun q hq => h q (by omega)), h k (by omega)]
theorem bm_lt {σ : Nat → Int → Int} (hN : WFn σ) (hP : WFp σ) {e : Nat → Nat} : ∀ k, bmN σ e k < 2 ^ (σ 127 0).toNat
  | 0 => Nat.two_pow_pos _
  | k + 1 => by
    rw [bm_s]
    refine Nat.or_lt_two_pow (bm_lt hN hP k) ?_
    by_cases c : e k < lnS σ k
    · rw [if_pos c]; exact (mk_b hN hP k (e k) c).1
    · rw [if_neg c]; exact Nat.two_pow_pos _
theorem bm_12 {σ : Nat → Int → Int} (hN : WFn σ) (hP : WFp σ) {e : Nat → Nat} (k : Nat) : bmN σ e k < 4096 := Nat.lt_of_lt_of_le (bm_lt hN hP k) (p12 (by have := hN.1; omega))
def xPls (σ : Nat → Int → Int) (p : Int) : Int := if 0 ≤ p ∧ p < σ 127 21 then ((plS σ p).length : Int) else -2
def xPla (σ : Nat → Int → Int) (p k : Int) : Int := if 0 ≤ p ∧ p < σ 127 21 then (if 0 ≤ k ∧ k < ((plS σ p).length : Int) then (gN (plS σ p) k.toNat : Int) else -3) else -2
noncomputable def xBes (σ : Nat → Int → Int) (v : Int) : Int := if v = 0 then WSc σ (bC σ) else if v = 1 then (bmN σ (bC σ) (nP σ) : Int) else -3
noncomputable def xPcd (σ : Nat → Int → Int) (p : Int) : Int := if 0 ≤ p ∧ p < σ 127 21 then (if bC σ p.toNat < lnS σ p.toNat then (bC σ p.toNat : Int) else -1) else -2
/-- what the reference may touch -/
def FRs (I J : Nat → Int → Int) : Prop := ∀ a k, a < 127 → J a k = I a k
abbrev refD (v : Int) (σ I : Nat → Int → Int) (P : Int → Nat) (dr : Nat) : mQ := fun o h => ∃ J, o = some (vi v) ∧ h = (S0, J, RR P dr) ∧ sig J = σ ∧ ∀ a k, a < 127 → J a k = I a k
/-- what a question of the best night may touch -/
def FCb (I J : Nat → Int → Int) : Prop := ∀ a q, ¬ (a = 69 ∧ (15 ≤ q ∧ q ≤ 17 ∨ 2 ≤ q ∧ q ≤ 3)) → ¬ (71 ≤ a ∧ a ≤ 117) → a ≠ 126 → J a q = I a q
theorem FCa.b {I J : Nat → Int → Int} (h : FCa I J) : FCb I J := fun a q h1 h2 _ => h a q (fun u => h1 ⟨u.1, Or.inl u.2⟩) h2
theorem FCb.rf {I : Nat → Int → Int} : FCb I I := fun _ _ _ _ _ => rfl
/-- the tables, told by their age -/
def CC (σ J : Nat → Int → Int) (g : Nat) : Prop := ∃ g', g' ≤ g ∧ CBx J g' ∧ (J 69 17 = 1 → CFr σ J g')
abbrev clsD (v : Int) (σ I : Nat → Int → Int) (P : Int → Nat) (dr g : Nat) : mQ := fun o h => ∃ J, o = some (vi v) ∧ h = (S0, J, RR P dr) ∧ FCb I J ∧ CC σ J g
set_option maxRecDepth 20000 in
theorem r173 {d : Nat} {I : Nat → Int → Int} {P : Int → Nat} {dr : Nat} {σ : Nat → Int → Int} (hs : sig I = σ) (hW : WFs σ) {p : Int} (i_p : inR p) : cal (d + 7) 173 [vr 127, vi p] I P dr (refD (xPls σ p) σ I P dr) := by
  refine cal_in (Nat.le_of_ble_eq_true rfl) ?_
  obtain ⟨hN, hT, hP, hA, hL⟩ := id hW
  have b0 := hN.1
  have b1 := hN.2.1
  have b2 := hN.2.2.1
  have b10 := hN.2.2.2.2.2.2.2.1
  have bp := hP.1
  show wp _ _ _ _ 0 [vr 127, vi p] [] _
  refine s_ald k173_0 rfl ?_
  refine s_ild k173_1 rfl ?_
  refine z_inv1A k173_2 rfl (Nat.le_of_ble_eq_true rfl) (c139 hs (by omega) i_p) ?_
  refine z_ifneb k173_5 (fun h5 => ?_) (fun h5 => ?_)
  · refine s_ald k173_11 rfl ?_
    refine s_ild k173_12 rfl ?_
    refine z_inv1 k173_13 rfl (Nat.le_of_ble_eq_true rfl) (c172 hs hN (by omega) (by omega) (hP.2 p (by omega) (by omega))) (fun o h1 hq => ?_)
    obtain ⟨rfl, J, rfl, hs2, gF, gG⟩ := hq
    refine s_ald k173_16 rfl ?_
    refine z_getRe (b := 139) k173_17 rfl rr_127_23 ?_
    refine s_ild k173_20 rfl ?_
    refine z_ialde (z := ((plS σ p).length : Int)) k173_21 rfl (by omega) (show p < ((5 : Nat) : Int) by omega) gG.1 ?_
    refine z_iret k173_22 ⟨J, ?_, rfl, hs2, fun a k hk => gF a k (by omega) (by omega)⟩
    unfold xPls
    rw [if_pos (by omega)]
  · refine z_push k173_8 ?_
    refine z_iret k173_10 ⟨I, ?_, rfl, hs, fun _ _ _ => rfl⟩
    unfold xPls
    rw [if_neg (by omega)]
set_option maxRecDepth 20000 in
theorem r174 {d : Nat} {I : Nat → Int → Int} {P : Int → Nat} {dr : Nat} {σ : Nat → Int → Int} (hs : sig I = σ) (hW : WFs σ) {p k : Int} (i_p : inR p) (i_k : inR k) : cal (d + 7) 174 [vr 127, vi p, vi k] I P dr (refD (xPla σ p k) σ I P dr) := by
  refine cal_in (Nat.le_of_ble_eq_true rfl) ?_
  obtain ⟨hN, hT, hP, hA, hL⟩ := id hW
  have b0 := hN.1
  have b1 := hN.2.1
  have b2 := hN.2.2.1
  have b10 := hN.2.2.2.2.2.2.2.1
  have bp := hP.1
  show wp _ _ _ _ 0 [vr 127, vi p, vi k] [] _
  refine s_ald k174_0 rfl ?_
  refine s_ild k174_1 rfl ?_
  refine z_inv1A k174_2 rfl (Nat.le_of_ble_eq_true rfl) (c139 hs (by omega) i_p) ?_
  refine z_ifneb k174_5 (fun h5 => ?_) (fun h5 => ?_)
  · refine s_ald k174_11 rfl ?_
    refine s_ild k174_12 rfl ?_
    refine z_inv1 k174_13 rfl (Nat.le_of_ble_eq_true rfl) (c172 hs hN (by omega) (by omega) (hP.2 p (by omega) (by omega))) (fun o h1 hq => ?_)
    obtain ⟨rfl, J, rfl, hs2, gF, gG⟩ := hq
    have hpl := pl_112 hN (hP.2 p (by omega) (by omega))
    refine s_ild k174_16 rfl ?_
    refine z_push k174_17 ?_
    refine s_ald k174_18 rfl ?_
    refine z_getRe (b := 139) k174_19 rfl rr_127_23 ?_
    refine s_ild k174_22 rfl ?_
    refine z_ialde (z := ((plS σ p).length : Int)) k174_23 rfl (by omega) (show p < ((5 : Nat) : Int) by omega) gG.1 ?_
    refine z_push k174_24 ?_
    refine z_isub k174_25 ?_
    refine z_sta3A k174_26 (Nat.le_of_ble_eq_true rfl) (c136 i_k (inR_lit rfl) ⟨by omega, by omega⟩) ?_
    refine z_ifeqb k174_29 (fun h29 => ?_) (fun h29 => ?_)
    · refine z_push k174_47 ?_
      refine z_iret k174_49 ⟨J, ?_, rfl, hs2, fun a k hk => gF a k (by omega) (by omega)⟩
      unfold xPla
      rw [if_pos (by omega), if_neg (by omega)]
    · refine s_ald k174_32 rfl ?_
      refine z_getRe (b := 140) k174_33 rfl rr_127_24 ?_
      refine z_push k174_36 ?_
      refine s_ild k174_39 rfl ?_
      refine z_imul k174_40 ?_
      refine s_ild k174_41 rfl ?_
      refine z_iadd k174_42 ?_
      have g140 : J 140 ((200 * p) + k) = (gN (plS σ p) k.toNat : Int) := by
        have := (gG.2 k.toNat (by omega)).1
        rw [show ((k.toNat : Nat) : Int) = k by omega] at this
        exact this
      refine z_ialde (z := (gN (plS σ p) k.toNat : Int)) k174_43 rfl (by omega) (show ((200 * p) + k) < ((1000 : Nat) : Int) by omega) g140 ?_
      refine z_goto k174_44 ?_
      refine z_iret k174_49 ⟨J, ?_, rfl, hs2, fun a k hk => gF a k (by omega) (by omega)⟩
      unfold xPla
      rw [if_pos (by omega), if_pos (by omega)]
  · refine z_push k174_8 ?_
    refine z_iret k174_10 ⟨I, ?_, rfl, hs, fun _ _ _ => rfl⟩
    unfold xPla
    rw [if_neg (by omega)]
set_option maxRecDepth 20000 in
theorem k106 {d : Nat} {I : Nat → Int → Int} {P : Int → Nat} {dr : Nat} {σ : Nat → Int → Int} (hG : CG I σ P dr) (hW : WFs σ) {g : Nat} (hg : g + 1 < 1000) (hX : CC σ I g) {p : Int} (i_p : inR p) : cal (d + 10) 106 [vr 16, vi p] I P dr (clsD (xPls σ p) σ I P dr (g + 1)) := by
  refine cal_in (Nat.le_of_ble_eq_true rfl) ?_
  obtain ⟨hN, hT, hP, hA, hL⟩ := id hW
  have b0 := hN.1
  have b1 := hN.2.1
  have b2 := hN.2.2.1
  have b10 := hN.2.2.2.2.2.2.2.1
  obtain ⟨hC, hCt, hcp, hCl, hca⟩ := id hG
  obtain ⟨cn, ct, cg, cmr, cmf, cmt, cw, cT, cS, cW⟩ := id hC
  have bp := hP.1
  have hPc : ∀ k, 0 ≤ k → k < 5 → isPl (P k) := hcp.2.1.1
  obtain ⟨g1, hg1, hB1, hF1⟩ := id hX
  have hX2 : CC σ I (g + 1) := ⟨g1, by omega, hB1, hF1⟩
  have hnp : nP σ = (σ 127 21).toNat := rfl
  have hn2 := np2 hP
  show wp _ _ _ _ 0 [vr 16, vi p] [] _
  refine s_ald k106_0 rfl ?_
  refine z_getRe (b := 42) k106_1 rfl rr_16_2 ?_
  refine s_ild k106_4 rfl ?_
  refine z_inv1A k106_5 rfl (Nat.le_of_ble_eq_true rfl) (c29 hcp.1 bp i_p) ?_
  refine z_ifneb k106_8 (fun h8 => ?_) (fun h8 => ?_)
  · refine s_ald k106_14 rfl ?_
    refine z_getRe (b := 69) k106_15 rfl rr_16_3 ?_
    refine z_inv0 k106_18 rfl (Nat.le_of_ble_eq_true rfl) (c2 hN hP hC hcp (by omega) hB1 hF1) (fun o h1 hq => ?_)
    obtain ⟨rfl, J, g2, rfl, jF, hg2, jB, j17, jR⟩ := hq
    have hXJ : CC σ J (g + 1) := ⟨g2, by omega, jB, fun _ => jR⟩
    obtain ⟨jK, jW, jL, jH, f, cf, jf, f1, jA, jV⟩ := id jR
    have hcpJ := hcp.keep hP (fun a q _ _ => jF a q (by omega) (by omega))
    have hbc := bC_cls hN hP jA.2.1 jV
    obtain ⟨q1, q2, -⟩ := jK p.toNat (by omega)
    rw [show ((p.toNat : Nat) : Int) = p by omega] at q1 q2
    have hpl := pl_112 hN (hP.2 p (by omega) (by omega))
    refine s_ald k106_21 rfl ?_
    refine z_getRe (b := 69) k106_22 rfl rr_16_3 ?_
    refine z_getRe (b := 76) k106_25 rfl rr_69_1 ?_
    refine s_ild k106_28 rfl ?_
    refine z_ialde (z := ((plS σ p).length : Int)) k106_29 rfl (by omega) (show p < ((5 : Nat) : Int) by omega) q1 ?_
    refine z_iret k106_30 ⟨J, ?_, rfl, jF.b, hXJ⟩
    unfold xPls
    rw [if_pos (by omega)]
  · refine z_push k106_11 ?_
    refine z_iret k106_13 ⟨I, ?_, rfl, FCb.rf, hX2⟩
    unfold xPls
    rw [if_neg (by omega)]
set_option maxRecDepth 20000 in
theorem k107 {d : Nat} {I : Nat → Int → Int} {P : Int → Nat} {dr : Nat} {σ : Nat → Int → Int} (hG : CG I σ P dr) (hW : WFs σ) {g : Nat} (hg : g + 1 < 1000) (hX : CC σ I g) {p k : Int} (i_p : inR p) (i_k : inR k) : cal (d + 10) 107 [vr 16, vi p, vi k] I P dr (clsD (xPla σ p k) σ I P dr (g + 1)) := by
  refine cal_in (Nat.le_of_ble_eq_true rfl) ?_
  obtain ⟨hN, hT, hP, hA, hL⟩ := id hW
  have b0 := hN.1
  have b1 := hN.2.1
  have b2 := hN.2.2.1
  have b10 := hN.2.2.2.2.2.2.2.1
  obtain ⟨hC, hCt, hcp, hCl, hca⟩ := id hG
  obtain ⟨cn, ct, cg, cmr, cmf, cmt, cw, cT, cS, cW⟩ := id hC
  have bp := hP.1
  have hPc : ∀ k, 0 ≤ k → k < 5 → isPl (P k) := hcp.2.1.1
  obtain ⟨g1, hg1, hB1, hF1⟩ := id hX
  have hX2 : CC σ I (g + 1) := ⟨g1, by omega, hB1, hF1⟩
  have hnp : nP σ = (σ 127 21).toNat := rfl
  have hn2 := np2 hP
  show wp _ _ _ _ 0 [vr 16, vi p, vi k] [] _
  refine s_ald k107_0 rfl ?_
  refine z_getRe (b := 42) k107_1 rfl rr_16_2 ?_
  refine s_ild k107_4 rfl ?_
  refine z_inv1A k107_5 rfl (Nat.le_of_ble_eq_true rfl) (c29 hcp.1 bp i_p) ?_
  refine z_ifneb k107_8 (fun h8 => ?_) (fun h8 => ?_)
  · refine s_ald k107_14 rfl ?_
    refine z_getRe (b := 69) k107_15 rfl rr_16_3 ?_
    refine z_inv0 k107_18 rfl (Nat.le_of_ble_eq_true rfl) (c2 hN hP hC hcp (by omega) hB1 hF1) (fun o h1 hq => ?_)
    obtain ⟨rfl, J, g2, rfl, jF, hg2, jB, j17, jR⟩ := hq
    have hXJ : CC σ J (g + 1) := ⟨g2, by omega, jB, fun _ => jR⟩
    obtain ⟨jK, jW, jL, jH, f, cf, jf, f1, jA, jV⟩ := id jR
    have hcpJ := hcp.keep hP (fun a q _ _ => jF a q (by omega) (by omega))
    have hbc := bC_cls hN hP jA.2.1 jV
    obtain ⟨q1, q2, -⟩ := jK p.toNat (by omega)
    rw [show ((p.toNat : Nat) : Int) = p by omega] at q1 q2
    have hpl := pl_112 hN (hP.2 p (by omega) (by omega))
    refine s_ild k107_21 rfl ?_
    refine z_push k107_22 ?_
    refine s_ald k107_23 rfl ?_
    refine z_getRe (b := 69) k107_24 rfl rr_16_3 ?_
    refine z_getRe (b := 76) k107_27 rfl rr_69_1 ?_
    refine s_ild k107_30 rfl ?_
    refine z_ialde (z := ((plS σ p).length : Int)) k107_31 rfl (by omega) (show p < ((5 : Nat) : Int) by omega) q1 ?_
    refine z_push k107_32 ?_
    refine z_isub k107_33 ?_
    refine z_sta3A k107_34 (Nat.le_of_ble_eq_true rfl) (c126 i_k (inR_lit rfl) ⟨by omega, by omega⟩) ?_
    refine z_ifeqb k107_37 (fun h37 => ?_) (fun h37 => ?_)
    · refine z_push k107_54 ?_
      refine z_iret k107_56 ⟨J, ?_, rfl, jF.b, hXJ⟩
      unfold xPla
      rw [if_pos (by omega), if_neg (by omega)]
    · have g71 : J (71 + p.toNat) k = (gN (plS σ p) k.toNat : Int) := by
        have := q2 k.toNat (by omega)
        rw [show ((k.toNat : Nat) : Int) = k by omega] at this
        exact this
      refine s_ald k107_40 rfl ?_
      refine z_getRe (b := 69) k107_41 rfl rr_16_3 ?_
      refine z_getRe (b := 70) k107_44 rfl rr_69_0 ?_
      refine s_ild k107_47 rfl ?_
      refine z_aalde (b := 71 + p.toNat) k107_48 rfl (by omega) (show p < ((5 : Nat) : Int) by omega) (rr_mk (by omega) (by omega)) ?_
      refine s_ild k107_49 rfl ?_
      refine z_ialde (z := (gN (plS σ p) k.toNat : Int)) k107_50 (by rw [(mk_sh (t := p.toNat) (by omega))]) (by omega) (by rw [(mk_sh (t := p.toNat) (by omega))]; show k < ((112 : Nat) : Int); omega) g71 ?_
      refine z_goto k107_51 ?_
      refine z_iret k107_56 ⟨J, ?_, rfl, jF.b, hXJ⟩
      unfold xPla
      rw [if_pos (by omega), if_pos (by omega)]
  · refine z_push k107_11 ?_
    refine z_iret k107_13 ⟨I, ?_, rfl, FCb.rf, hX2⟩
    unfold xPla
    rw [if_neg (by omega)]
