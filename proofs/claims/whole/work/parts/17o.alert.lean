/-! the best night: alert, the class -/
set_option maxRecDepth 20000 in
theorem k119 {d : Nat} {I : Nat → Int → Int} {P : Int → Nat} {dr : Nat} {σ : Nat → Int → Int} (hG : CG I σ P dr) (hW : WFs σ) {g : Nat} (hg : g + 1 < 1000) (hX : CC σ I g) {t i v fr to w : Int} (i_t : inR t) (i_i : inR i) (i_v : inR v) (i_fr : inR fr) (i_to : inR to) (i_w : inR w) : cal (d + 11) 119 [vr 16, vi t, vi i, vi v, vi fr, vi to, vi w] I P dr (clsD (xAlt σ t i v fr to w) σ I P dr (g + 1)) := by
  refine cal_in (Nat.le_of_ble_eq_true rfl) ?_
  obtain ⟨hN, hT, hP, hA, hL⟩ := id hW
  have b0 := hN.1
  have b1 := hN.2.1
  have b2 := hN.2.2.1
  have b10 := hN.2.2.2.2.2.2.2.1
  obtain ⟨hC, hCt, hcp, hCl, hca⟩ := id hG
  obtain ⟨cn, ct, cg, cmr, cmf, cmt, cw, cT, cS, cW⟩ := id hC
  have bp := hP.1
  have hPc : ∀ k, 0 ≤ k → k < 5 → isPl (P k) := hcp.2.1.1
  obtain ⟨g1, hg1, hB1, hF1⟩ := id hX
  have hX2 : CC σ I (g + 1) := ⟨g1, by omega, hB1, hF1⟩
  have hnp : nP σ = (σ 127 21).toNat := rfl
  have hn2 := np2 hP
  show wp _ _ _ _ 0 [vr 16, vi t, vi i, vi v, vi fr, vi to, vi w] [] _
  refine s_ald k119_0 rfl ?_
  refine z_getRe (b := 17) k119_1 rfl rr_16_0 ?_
  refine s_ild k119_4 rfl ?_
  refine z_inv1A k119_5 rfl (Nat.le_of_ble_eq_true rfl) (c58 hC (by omega) i_t) ?_
  refine z_ifneb k119_8 (fun h8 => ?_) (fun h8 => ?_)
  · refine s_ild k119_14 rfl ?_
    refine z_push k119_15 ?_
    refine z_push k119_16 ?_
    refine z_sta3A k119_17 (Nat.le_of_ble_eq_true rfl) (c126 i_i (inR_lit rfl) (inR_lit rfl)) ?_
    refine z_ifeqb k119_20 (fun h20 => ?_) (fun h20 => ?_)
    · refine z_push k119_72 ?_
      refine z_iret k119_74 ⟨I, ?_, rfl, FCb.rf, hX2⟩
      unfold xAlt
      rw [if_pos (by omega), if_neg (by unfold alOK; omega)]
    · refine s_ald k119_23 rfl ?_
      refine s_ild k119_24 rfl ?_
      refine z_inv1 k119_25 rfl (Nat.le_of_ble_eq_true rfl) (c132 i_v) (fun o h1 hq => ?_)
      obtain ⟨J0, rfl, zF, hq⟩ := hq
      have hC0 := hC.keep hN (fun a q _ _ => zF a q (by omega))
      have hcp0 := hcp.keep hP (fun a q _ _ => zF a q (by omega))
      have hX0 : CC σ J0 (g + 1) := hX2.k hP (fun a q _ _ => zF a q (by omega))
      obtain ⟨g3, hg3, hB0, hF0⟩ : CC σ J0 g := hX.k hP (fun a q _ _ => zF a q (by omega))
      rcases hq with ⟨rfl, hnv, z0, z1, z2, z3⟩ | ⟨rfl, hnv⟩
      · refine s_ifeq k119_28 (inR_lit rfl) (fun q => absurd q (by decide)) (fun _ => ?_)
        refine s_ald k119_31 rfl ?_
        refine z_getRe (b := 17) k119_32 rfl rr_16_0 ?_
        refine s_ild k119_35 rfl ?_
        refine z_inv1A k119_37 rfl (Nat.le_of_ble_eq_true rfl) (c57 hC0 (by omega) i_fr) ?_
        refine z_ifeqb k119_40 (fun h40 => ?_) (fun h40 => ?_)
        · refine z_push k119_72 ?_
          refine z_iret k119_74 ⟨J0, ?_, rfl, fun a q _ _ h => zF a q h, hX0⟩
          unfold xAlt
          rw [if_pos (by omega), if_neg (by unfold alOK; omega)]
        · refine s_ald k119_43 rfl ?_
          refine z_getRe (b := 17) k119_44 rfl rr_16_0 ?_
          refine s_ild k119_47 rfl ?_
          refine z_inv1A k119_49 rfl (Nat.le_of_ble_eq_true rfl) (c57 hC0 (by omega) i_to) ?_
          refine z_ifeqb k119_52 (fun h52 => ?_) (fun h52 => ?_)
          · refine z_push k119_72 ?_
            refine z_iret k119_74 ⟨J0, ?_, rfl, fun a q _ _ h => zF a q h, hX0⟩
            unfold xAlt
            rw [if_pos (by omega), if_neg (by unfold alOK; omega)]
          · refine s_ild k119_55 rfl ?_
            refine s_ild k119_57 rfl ?_
            refine s_icgt k119_59 i_fr i_to (fun h59 => ?_) (fun h59 => ?_)
            · refine z_push k119_72 ?_
              refine z_iret k119_74 ⟨J0, ?_, rfl, fun a q _ _ h => zF a q h, hX0⟩
              unfold xAlt
              rw [if_pos (by omega), if_neg (by unfold alOK; omega)]
            · refine s_ild k119_62 rfl ?_
              refine z_push k119_64 ?_
              refine z_push k119_65 ?_
              refine z_sta3A k119_66 (Nat.le_of_ble_eq_true rfl) (c126 i_w (inR_lit rfl) (inR_lit rfl)) ?_
              refine z_ifneb k119_69 (fun h69 => ?_) (fun h69 => ?_)
              · have hnv2 := id hnv
                unfold nvOK at hnv2
                obtain ⟨iN, rfl⟩ : ∃ q : Nat, i = (q : Int) := ⟨i.toNat, by omega⟩
                obtain ⟨frN, rfl⟩ : ∃ q : Nat, fr = (q : Int) := ⟨fr.toNat, by omega⟩
                obtain ⟨toN, rfl⟩ : ∃ q : Nat, to = (q : Int) := ⟨to.toNat, by omega⟩
                refine s_ald k119_75 rfl ?_
                refine z_getRe (b := 69) k119_76 rfl rr_16_3 ?_
                refine z_inv0 k119_79 rfl (Nat.le_of_ble_eq_true rfl) (c2 hN hP hC0 hcp0 (by omega) hB0 hF0) (fun o h1 hq => ?_)
                obtain ⟨rfl, J, g2, rfl, jF, hg2, jB, j17, jR⟩ := hq
                obtain ⟨jK, jW, jL, jH, f, cf, jf, f1, jA, jV⟩ := id jR
                have hCJ := hC0.keep hN (fun a q _ _ => jF a q (by omega) (by omega))
                have hcpJ := hcp0.keep hP (fun a q _ _ => jF a q (by omega) (by omega))
                have hbc := bC_cls hN hP jA.2.1 jV
                have hZ : BZ σ J P dr f cf := ⟨hcpJ, jK, jf, f1, jA⟩
                have hbi := bC_isB (isB_vec hN hP (w := wS σ) (z := zS σ) (fir_vec jA.2.1) jV)
                have hTJ : CTb σ J P dr g2 := ⟨hCJ.1, hcpJ, jK, jW, jL, jH, jB.1⟩
                refine s_ald k119_82 rfl ?_
                refine z_getRe (b := 69) k119_83 rfl rr_16_3 ?_
                refine s_ild k119_86 rfl ?_
                refine s_ild k119_87 rfl ?_
                refine s_ald k119_88 rfl ?_
                refine z_getRe (b := 126) k119_89 rfl rr_16_6 ?_
                refine s_ild k119_92 rfl ?_
                refine s_ild k119_94 rfl ?_
                refine z_inv5 k119_96 rfl (Nat.le_of_ble_eq_true rfl) (c8 hN hP (by omega) hCJ hTJ hZ ((nz_sum (wS σ) (nP σ)).symm.trans (sumC_eq (nP σ) hbc)) hbi (t := t) (m := v / 100 % 10) (r := v / 10 % 10) (d2 := v % 10) (K := (v / 1000).toNat) (i := iN) (fr := frN) (to := toN) (by omega) (by omega) (by omega) (by omega) (by omega) (by omega) (by omega) ((jF 126 0 (by decide) (by decide)).trans (z0.trans (by omega))) ((jF 126 1 (by decide) (by decide)).trans z1) ((jF 126 2 (by decide) (by decide)).trans z2) ((jF 126 3 (by decide) (by decide)).trans z3) (by omega) (by omega) (by omega)) (fun o h1 hq => ?_)
                obtain ⟨rfl, M, rfl, mF, mM, mA⟩ := hq
                have hx := alP_x (σ := σ) (t := t) (i := (iN : Int)) (v := v) (fr := (frN : Int)) (to := (toN : Int)) (by rw [Int.toNat_natCast, Int.toNat_natCast, Int.toNat_natCast]; exact mA)
                refine s_ild k119_99 rfl ?_
                refine s_ifne k119_101 i_w (fun h101 => ?_) (fun h101 => ?_)
                · refine s_ald k119_114 rfl ?_
                  refine z_getRe (b := 69) k119_115 rfl rr_16_3 ?_
                  refine z_getIe (z := M 69 3) k119_118 rfl rfl ?_
                  refine z_iret k119_121 ⟨M, ?_, rfl, fun a q h1 h2 h3 => (mF a q (by omega) (by omega) (by omega)).trans ((jF a q (by omega) (by omega)).trans (zF a q h3)), ⟨g2, by omega, jB.h mM (fun a q _ _ h3 h4 h5 => mF a q h3 h4 h5), fun _ => jR.h hP mM (fun a q _ _ h3 h4 h5 => mF a q h3 h4 h5)⟩⟩
                  unfold xAlt
                  rw [if_pos (by omega), if_pos ⟨by omega, hnv, by omega, by omega, by omega, by omega⟩, if_neg (by omega)]
                  exact congrArg (fun u => some (vi u)) hx.2
                · refine s_ald k119_104 rfl ?_
                  refine z_getRe (b := 69) k119_105 rfl rr_16_3 ?_
                  refine z_getIe (z := M 69 2) k119_108 rfl rfl ?_
                  refine z_goto k119_111 ?_
                  refine z_iret k119_121 ⟨M, ?_, rfl, fun a q h1 h2 h3 => (mF a q (by omega) (by omega) (by omega)).trans ((jF a q (by omega) (by omega)).trans (zF a q h3)), ⟨g2, by omega, jB.h mM (fun a q _ _ h3 h4 h5 => mF a q h3 h4 h5), fun _ => jR.h hP mM (fun a q _ _ h3 h4 h5 => mF a q h3 h4 h5)⟩⟩
                  unfold xAlt
                  rw [if_pos (by omega), if_pos ⟨by omega, hnv, by omega, by omega, by omega, by omega⟩, if_pos (by omega)]
                  exact congrArg (fun u => some (vi u)) hx.1
              · refine z_push k119_72 ?_
                refine z_iret k119_74 ⟨J0, ?_, rfl, fun a q _ _ h => zF a q h, hX0⟩
                unfold xAlt
                rw [if_pos (by omega), if_neg (by unfold alOK; omega)]
      · refine s_ifeq k119_28 (inR_lit rfl) (fun _ => ?_) (fun q => absurd q (by decide))
        refine z_push k119_72 ?_
        refine z_iret k119_74 ⟨J0, ?_, rfl, fun a q _ _ h => zF a q h, hX0⟩
        unfold xAlt
        rw [if_pos (by omega), if_neg (fun u => hnv u.2.1)]
  · refine z_push k119_11 ?_
    refine z_iret k119_13 ⟨I, ?_, rfl, FCb.rf, hX2⟩
    unfold xAlt
    rw [if_neg (by omega)]
