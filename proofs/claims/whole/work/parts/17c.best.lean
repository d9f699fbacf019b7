/-! the best night, the class: best, placed -/
set_option maxRecDepth 20000 in
theorem k108 {d : Nat} {I : Nat → Int → Int} {P : Int → Nat} {dr : Nat} {σ : Nat → Int → Int} (hG : CG I σ P dr) (hW : WFs σ) {g : Nat} (hg : g + 1 < 1000) (hX : CC σ I g) {v : Int} (i_v : inR v) : cal (d + 10) 108 [vr 16, vi v] I P dr (clsD (xBes σ v) σ I P dr (g + 1)) := by
  refine cal_in (Nat.le_of_ble_eq_true rfl) ?_
  obtain ⟨hN, hT, hP, hA, hL⟩ := id hW
  have b0 := hN.1
  have b1 := hN.2.1
  have b2 := hN.2.2.1
  have b10 := hN.2.2.2.2.2.2.2.1
  obtain ⟨hC, hCt, hcp, hCl, hca⟩ := id hG
  obtain ⟨cn, ct, cg, cmr, cmf, cmt, cw, cT, cS, cW⟩ := id hC
  have bp := hP.1
  have hPc : ∀ k, 0 ≤ k → k < 5 → isPl (P k) := hcp.2.1.1
  obtain ⟨g1, hg1, hB1, hF1⟩ := id hX
  have hX2 : CC σ I (g + 1) := ⟨g1, by omega, hB1, hF1⟩
  have hnp : nP σ = (σ 127 21).toNat := rfl
  have hn2 := np2 hP
  show wp _ _ _ _ 0 [vr 16, vi v] [] _
  refine s_ild k108_0 rfl ?_
  refine z_push k108_1 ?_
  refine z_push k108_2 ?_
  refine z_sta3A k108_3 (Nat.le_of_ble_eq_true rfl) (c126 i_v (inR_lit rfl) (inR_lit rfl)) ?_
  refine z_ifneb k108_6 (fun h6 => ?_) (fun h6 => ?_)
  · refine s_ald k108_12 rfl ?_
    refine z_getRe (b := 69) k108_13 rfl rr_16_3 ?_
    refine z_inv0 k108_16 rfl (Nat.le_of_ble_eq_true rfl) (c2 hN hP hC hcp (by omega) hB1 hF1) (fun o h1 hq => ?_)
    obtain ⟨rfl, J, g2, rfl, jF, hg2, jB, j17, jR⟩ := hq
    have hXJ : CC σ J (g + 1) := ⟨g2, by omega, jB, fun _ => jR⟩
    obtain ⟨jK, jW, jL, jH, f, cf, jf, f1, jA, jV⟩ := id jR
    have hcpJ := hcp.keep hP (fun a q _ _ => jF a q (by omega) (by omega))
    have hbc := bC_cls hN hP jA.2.1 jV
    have hZ : BZ σ J P dr f cf := ⟨hcpJ, jK, jf, f1, jA⟩
    refine s_ild k108_19 rfl ?_
    refine s_ifne k108_20 i_v (fun h20 => ?_) (fun h20 => ?_)
    · refine s_ald k108_33 rfl ?_
      refine z_getRe (b := 69) k108_34 rfl rr_16_3 ?_
      refine z_inv0A k108_37 rfl (Nat.le_of_ble_eq_true rfl) (c4 hN hP hZ) ?_
      refine z_iret k108_40 ⟨J, ?_, rfl, jF.b, hXJ⟩
      unfold xBes
      rw [if_neg (by omega), if_pos (by omega), ← bm_eq (nP σ) hbc, bm_nz]
    · refine s_ald k108_23 rfl ?_
      refine z_getRe (b := 69) k108_24 rfl rr_16_3 ?_
      refine z_inv0A k108_27 rfl (Nat.le_of_ble_eq_true rfl) (c3 hN hP hZ jW) ?_
      refine z_goto k108_30 ?_
      refine z_iret k108_40 ⟨J, ?_, rfl, jF.b, hXJ⟩
      unfold xBes
      rw [if_pos (by omega)]
      exact congrArg (fun u => some (vi u)) ((nz_sum (wS σ) (nP σ)).symm.trans (sumC_eq (nP σ) hbc))
  · refine z_push k108_9 ?_
    refine z_iret k108_11 ⟨I, ?_, rfl, FCb.rf, hX2⟩
    unfold xBes
    rw [if_neg (by omega), if_neg (by omega)]
set_option maxRecDepth 20000 in
theorem k109 {d : Nat} {I : Nat → Int → Int} {P : Int → Nat} {dr : Nat} {σ : Nat → Int → Int} (hG : CG I σ P dr) (hW : WFs σ) {g : Nat} (hg : g + 1 < 1000) (hX : CC σ I g) {p : Int} (i_p : inR p) : cal (d + 10) 109 [vr 16, vi p] I P dr (clsD (xPcd σ p) σ I P dr (g + 1)) := by
  refine cal_in (Nat.le_of_ble_eq_true rfl) ?_
  obtain ⟨hN, hT, hP, hA, hL⟩ := id hW
  have b0 := hN.1
  have b1 := hN.2.1
  have b2 := hN.2.2.1
  have b10 := hN.2.2.2.2.2.2.2.1
  obtain ⟨hC, hCt, hcp, hCl, hca⟩ := id hG
  obtain ⟨cn, ct, cg, cmr, cmf, cmt, cw, cT, cS, cW⟩ := id hC
  have bp := hP.1
  have hPc : ∀ k, 0 ≤ k → k < 5 → isPl (P k) := hcp.2.1.1
  obtain ⟨g1, hg1, hB1, hF1⟩ := id hX
  have hX2 : CC σ I (g + 1) := ⟨g1, by omega, hB1, hF1⟩
  have hnp : nP σ = (σ 127 21).toNat := rfl
  have hn2 := np2 hP
  show wp _ _ _ _ 0 [vr 16, vi p] [] _
  refine s_ald k109_0 rfl ?_
  refine z_getRe (b := 42) k109_1 rfl rr_16_2 ?_
  refine s_ild k109_4 rfl ?_
  refine z_inv1A k109_5 rfl (Nat.le_of_ble_eq_true rfl) (c29 hcp.1 bp i_p) ?_
  refine z_ifneb k109_8 (fun h8 => ?_) (fun h8 => ?_)
  · obtain ⟨pn, rfl⟩ : ∃ q : Nat, p = (q : Int) := ⟨p.toNat, by omega⟩
    refine s_ald k109_14 rfl ?_
    refine z_getRe (b := 69) k109_15 rfl rr_16_3 ?_
    refine z_inv0 k109_18 rfl (Nat.le_of_ble_eq_true rfl) (c2 hN hP hC hcp (by omega) hB1 hF1) (fun o h1 hq => ?_)
    obtain ⟨rfl, J, g2, rfl, jF, hg2, jB, j17, jR⟩ := hq
    have hXJ : CC σ J (g + 1) := ⟨g2, by omega, jB, fun _ => jR⟩
    obtain ⟨jK, jW, jL, jH, f, cf, jf, f1, jA, jV⟩ := id jR
    have hcpJ := hcp.keep hP (fun a q _ _ => jF a q (by omega) (by omega))
    have hbc := bC_cls hN hP jA.2.1 jV
    have hZ : BZ σ J P dr f cf := ⟨hcpJ, jK, jf, f1, jA⟩
    refine s_ald k109_21 rfl ?_
    refine z_getRe (b := 69) k109_22 rfl rr_16_3 ?_
    refine s_ild k109_25 rfl ?_
    refine z_inv1A k109_26 rfl (Nat.le_of_ble_eq_true rfl) (c5 hN hP hZ (p := pn) (by omega)) ?_
    refine z_iret k109_29 ⟨J, ?_, rfl, jF.b, hXJ⟩
    unfold xPcd
    have h1 := hbc pn (by omega)
    rw [if_pos (c := 0 ≤ (pn : Int) ∧ (pn : Int) < σ 127 21) (by omega), Int.toNat_natCast, ← h1]
    by_cases u : cf pn < lnS σ pn
    · rw [if_pos u, if_pos (nz_in.mpr u), nz_at u]
    · rw [if_neg u, if_neg (fun q => u (nz_in.mp q))]
  · refine z_push k109_11 ?_
    refine z_iret k109_13 ⟨I, ?_, rfl, FCb.rf, hX2⟩
    unfold xPcd
    rw [if_neg (by omega)]
