/-! the best night: why a slot is empty, the class -/
set_option maxRecDepth 20000 in
theorem lp7b {d : Nat} {I σ : Nat → Int → Int} {P : Int → Nat} {dr : Nat} (hN : WFn σ) (hP : WFp σ) {f : Nat} {cf : Nat → Nat} (hZ : BZ σ I P dr f cf) {s : Nat} (s1 : (s : Int) < σ 127 0) (hb : ¬ (bmN σ cf (nP σ)).testBit s = true) (hsim : simE σ cf (bC σ)) {p : Nat} (p1 : (p : Int) < σ 127 21) (hc : ¬ cf p < lnS σ p) (hK : ∀ (z : Int) (k6 : mV), (z = 1 ∨ z = 2) → PRe σ cf s (Vb (p + 1) 0) z → wp (mcall MT CD (d + 3)) (CD 7) L0 (ans (vi (xEmp σ (s : Int))) I P dr) 127 [vr 69, vi (s : Int), vl (tkB σ cf (nP σ) : Int), vj, vi z, vi (p : Int), k6] [] (S0, I, RR P dr)) : ∀ (m k : Nat) (z : Int), k + m = lnS σ p → (z = 1 ∨ z = 2) → PRe σ cf s (Vb p k) z → wp (mcall MT CD (d + 3)) (CD 7) L0 (ans (vi (xEmp σ (s : Int))) I P dr) 54 [vr 69, vi (s : Int), vl (tkB σ cf (nP σ) : Int), vj, vi z, vi (p : Int), vi (k : Int)] [] (S0, I, RR P dr) := by
  have bp := hP.1
  have b0 := hN.1
  have hnp : nP σ = (σ 127 21).toNat := rfl
  have hn2 := np2 hP
  obtain ⟨hcp, jK, jf, f1, jA⟩ := id hZ
  have hPc : ∀ k, 0 ≤ k → k < 5 → isPl (P k) := hcp.2.1.1
  have htl := tkB_lt hN hP (e := cf) (nP σ)
  have hln := ln_b hN hP p
  have hle := ln_e (p := p) p1
  intro m
  induction m with
  | zero =>
    intro k z hi hz1 hz
    refine s_ild k7_54 rfl ?_
    refine s_ald k7_56 rfl ?_
    refine z_getRe (b := 76) k7_57 rfl rr_69_1 ?_
    refine s_ild k7_60 rfl ?_
    refine z_ialde (z := (lnS σ p : Int)) k7_62 rfl (by omega) (show (p : Int) < ((5 : Nat) : Int) by omega) ((jK p p1).1.trans (by rw [hle])) ?_
    refine s_icge k7_63 ⟨by omega, by omega⟩ ⟨by omega, by omega⟩ (fun h63 => ?_) (fun q => absurd q (by omega))
    exact hK z _ hz1 (hz.row (fun k' hk' u => absurd u.2.1 (by omega)))
  | succ m ih =>
    intro k z hi hz1 hz
    have q2 : I (71 + p) (k : Int) = (mkQ σ p k : Int) := (jK p p1).2.1 k (by omega)
    have hm4 := mk_4 hN hP p k (by omega)
    have hbt := bit_n (a := mkQ σ p k) (k := s) (by omega) (by omega)
    have hfe := (fre_iff (x := mkQ σ p k) (i := isS σ p) (t := tkB σ cf (nP σ))).trans (tkB_fre hN hP hm4 (is_b hP p) (nP σ))
    have his : I (P (p : Int)) 1 = ((isS σ p : Nat) : Int) := by
      have h1 := (hcp.f (p := (p : Int)) (by omega) (by omega)).2.1
      have h2 := (hP.2 (p : Int) (by omega) (by omega)).2.1
      rw [is_e (by omega)]
      omega
    refine s_ild k7_54 rfl ?_
    refine s_ald k7_56 rfl ?_
    refine z_getRe (b := 76) k7_57 rfl rr_69_1 ?_
    refine s_ild k7_60 rfl ?_
    refine z_ialde (z := (lnS σ p : Int)) k7_62 rfl (by omega) (show (p : Int) < ((5 : Nat) : Int) by omega) ((jK p p1).1.trans (by rw [hle])) ?_
    refine s_icge k7_63 ⟨by omega, by omega⟩ ⟨by omega, by omega⟩ (fun q => absurd q (by omega)) (fun h63 => ?_)
    refine s_ald k7_66 rfl ?_
    refine z_getRe (b := 70) k7_67 rfl rr_69_0 ?_
    refine s_ild k7_70 rfl ?_
    refine z_aalde (b := 71 + p) k7_72 rfl (by omega) (show (p : Int) < ((5 : Nat) : Int) by omega) ((rr_mk (by omega) (by omega)).trans (by rw [Int.toNat_natCast])) ?_
    refine s_ild k7_73 rfl ?_
    refine z_ialde (z := (mkQ σ p k : Int)) k7_75 (by rw [(mk_sh (t := p) (by omega))]) (by omega) (by rw [(mk_sh (t := p) (by omega))]; show (k : Int) < ((112 : Nat) : Int); omega) q2 ?_
    refine s_ild k7_76 rfl ?_
    refine z_sta2A k7_77 (Nat.le_of_ble_eq_true rfl) (c128) ?_
    refine z_ifneb k7_80 (fun h80 => ?_) (fun h80 => ?_)
    · refine s_ald k7_86 rfl ?_
      refine z_getRe (b := 70) k7_87 rfl rr_69_0 ?_
      refine s_ild k7_90 rfl ?_
      refine z_aalde (b := 71 + p) k7_92 rfl (by omega) (show (p : Int) < ((5 : Nat) : Int) by omega) ((rr_mk (by omega) (by omega)).trans (by rw [Int.toNat_natCast])) ?_
      refine s_ild k7_93 rfl ?_
      refine z_ialde (z := (mkQ σ p k : Int)) k7_95 (by rw [(mk_sh (t := p) (by omega))]) (by omega) (by rw [(mk_sh (t := p) (by omega))]; show (k : Int) < ((112 : Nat) : Int); omega) q2 ?_
      refine s_ald k7_96 rfl ?_
      refine z_getRe (b := 42) k7_97 rfl rr_69_5 ?_
      refine z_getRe (b := 43) k7_100 rfl rr_42_0 ?_
      refine s_ild k7_103 rfl ?_
      refine z_aalde (b := P (p : Int)) k7_105 rfl (by omega) (show (p : Int) < ((5 : Nat) : Int) by omega) rr_P ?_
      refine z_getIe (z := ((isS σ p : Nat) : Int)) k7_106 (pl_sh (hPc _ (by omega) (by omega))) his ?_
      refine s_lld k7_109 rfl ?_
      refine z_sta3A k7_110 (Nat.le_of_ble_eq_true rfl) (c23 hm4 (is_b hP p) htl) ?_
      refine z_ifeqb k7_113 (fun h113 => ?_) (fun h113 => ?_)
      · refine z_push k7_118 ?_
        refine s_ist4 k7_119 rfl ?_
        refine s_iinc6 k7_121 rfl ?_
        refine z_goto k7_124 ?_
        have hh : hitE σ cf s p k := ⟨by omega, by omega, hc, hbt.mp h80⟩
        have hn := PRe.nofit hz hh (fun u => h113 (hfe.mpr u))
        have e2 : (if z = 1 then 2 else z) = 2 := by split <;> omega
        rw [e2] at hn
        exact ih (k + 1) 2 (by omega) (Or.inr rfl) hn
      · refine z_push k7_116 ?_
        have hh : hitE σ cf s p k := ⟨by omega, by omega, hc, hbt.mp h80⟩
        exact z_iret k7_117 (ans_i (EA.x s1 hsim (Or.inr ⟨hb, Or.inl ⟨rfl, p, k, trivial, hh, hfe.mp h113⟩⟩)))
    · refine z_goto k7_83 ?_
      refine s_iinc6 k7_121 rfl ?_
      refine z_goto k7_124 ?_
      exact ih (k + 1) z (by omega) hz1 (hz.nohit (fun u => h80 (hbt.mpr u.2.2.2)))
set_option maxRecDepth 20000 in
theorem lp7a {d : Nat} {I σ : Nat → Int → Int} {P : Int → Nat} {dr : Nat} (hN : WFn σ) (hP : WFp σ) {f : Nat} {cf : Nat → Nat} (hZ : BZ σ I P dr f cf) {s : Nat} (s1 : (s : Int) < σ 127 0) (hb : ¬ (bmN σ cf (nP σ)).testBit s = true) (hsim : simE σ cf (bC σ)) : ∀ (m p : Nat) (z : Int) (x6 : mV), p + m = nP σ → (z = 1 ∨ z = 2) → PRe σ cf s (Vb p 0) z → wp (mcall MT CD (d + 3)) (CD 7) L0 (ans (vi (xEmp σ (s : Int))) I P dr) 24 [vr 69, vi (s : Int), vl (tkB σ cf (nP σ) : Int), vj, vi z, vi (p : Int), x6] [] (S0, I, RR P dr) := by
  have bp := hP.1
  have b0 := hN.1
  have hnp : nP σ = (σ 127 21).toNat := rfl
  have hn2 := np2 hP
  obtain ⟨hcp, jK, jf, f1, jA⟩ := id hZ
  have hPc : ∀ k, 0 ≤ k → k < 5 → isPl (P k) := hcp.2.1.1
  have htl := tkB_lt hN hP (e := cf) (nP σ)
  intro m
  induction m with
  | zero =>
    intro p z x6 hi hz1 hz
    refine s_ild k7_24 rfl ?_
    refine s_ald k7_26 rfl ?_
    refine z_getRe (b := 42) k7_27 rfl rr_69_5 ?_
    refine z_getIe (z := σ 127 21) k7_30 rfl hcp.1 ?_
    refine s_icge k7_33 ⟨by omega, by omega⟩ ⟨by omega, by omega⟩ (fun h33 => ?_) (fun q => absurd q (by omega))
    refine s_ild k7_133 rfl ?_
    have e1 : p = nP σ := by omega
    subst e1
    exact z_iret k7_135 (ans_i (EA.x s1 hsim (EA.end hb hz)))
  | succ m ih =>
    intro p z x6 hi hz1 hz
    have hbit := s5_bit f (by omega) p (by omega)
    have hin := hZ.in hN hP (q := p) (by omega)
    by_cases c : cf p < lnS σ p
    · refine s_ild k7_24 rfl ?_
      refine s_ald k7_26 rfl ?_
      refine z_getRe (b := 42) k7_27 rfl rr_69_5 ?_
      refine z_getIe (z := σ 127 21) k7_30 rfl hcp.1 ?_
      refine s_icge k7_33 ⟨by omega, by omega⟩ ⟨by omega, by omega⟩ (fun q => absurd q (by omega)) (fun h33 => ?_)
      refine s_ald k7_36 rfl ?_
      refine z_getIe (z := (f : Int)) k7_37 rfl jf ?_
      refine s_ild k7_40 rfl ?_
      refine z_sta2A k7_42 (Nat.le_of_ble_eq_true rfl) (c128) ?_
      refine z_ifeqb k7_45 (fun q => absurd (hbit.mpr (hin.mp c)) q) (fun h45 => ?_)
      refine z_goto k7_48 ?_
      refine s_iinc5 k7_127 rfl ?_
      refine z_goto k7_130 ?_
      exact ih (p + 1) z _ (by omega) hz1 (hz.row (fun k' _ u => u.2.2.1 c))
    · refine s_ild k7_24 rfl ?_
      refine s_ald k7_26 rfl ?_
      refine z_getRe (b := 42) k7_27 rfl rr_69_5 ?_
      refine z_getIe (z := σ 127 21) k7_30 rfl hcp.1 ?_
      refine s_icge k7_33 ⟨by omega, by omega⟩ ⟨by omega, by omega⟩ (fun q => absurd q (by omega)) (fun h33 => ?_)
      refine s_ald k7_36 rfl ?_
      refine z_getIe (z := (f : Int)) k7_37 rfl jf ?_
      refine s_ild k7_40 rfl ?_
      refine z_sta2A k7_42 (Nat.le_of_ble_eq_true rfl) (c128) ?_
      refine z_ifeqb k7_45 (fun h45 => ?_) (fun q => absurd (hin.mpr (hbit.mp q)) c)
      refine z_push k7_51 ?_
      refine s_ist6 k7_52 rfl ?_
      refine lp7b hN hP hZ s1 hb hsim (by omega) c (fun z' k6 hz1' hz' => ?_) (lnS σ p) 0 z (by omega) hz1 hz
      refine s_iinc5 k7_127 rfl ?_
      refine z_goto k7_130 ?_
      exact ih (p + 1) z' _ (by omega) hz1' hz'
set_option maxRecDepth 20000 in
theorem c7 {d : Nat} {I : Nat → Int → Int} {P : Int → Nat} {dr : Nat} {σ : Nat → Int → Int} (hN : WFn σ) (hP : WFp σ) {f : Nat} {cf : Nat → Nat} (hZ : BZ σ I P dr f cf) {s : Nat} (s1 : (s : Int) < σ 127 0) (hsim : simE σ cf (bC σ)) : cal (d + 4) 7 [vr 69, vi (s : Int)] I P dr (ans (vi (xEmp σ (s : Int))) I P dr) := by
  refine cal_in (Nat.le_of_ble_eq_true rfl) ?_
  have bp := hP.1
  have b0 := hN.1
  have hnp : nP σ = (σ 127 21).toNat := rfl
  have hn2 := np2 hP
  obtain ⟨hcp, jK, jf, f1, jA⟩ := id hZ
  have hbl := bm_12 hN hP (e := cf) (nP σ)
  have hbt := bit_n (a := bmN σ cf (nP σ)) (k := s) (by omega) (by omega)
  show wp _ _ _ _ 0 [vr 69, vi (s : Int), vj, vj, vj, vj, vj] [] _
  refine s_ald k7_0 rfl ?_
  refine z_inv0A k7_1 rfl (Nat.le_of_ble_eq_true rfl) (c4 hN hP hZ) ?_
  refine s_ild k7_4 rfl ?_
  refine z_sta2A k7_5 (Nat.le_of_ble_eq_true rfl) (c128) ?_
  refine z_ifeqb k7_8 (fun h8 => ?_) (fun h8 => ?_)
  · refine s_ald k7_13 rfl ?_
    refine z_inv0A k7_14 rfl (Nat.le_of_ble_eq_true rfl) (c11 hN hP hZ) ?_
    refine s_lst2 k7_17 rfl ?_
    refine z_push k7_18 ?_
    refine s_ist4 k7_19 rfl ?_
    refine z_push k7_21 ?_
    refine s_ist5 k7_22 rfl ?_
    exact lp7a hN hP hZ s1 (fun u => h8 (hbt.mpr u)) hsim (nP σ) 0 1 _ (by omega) (Or.inl rfl) PRe.z
  · refine z_push k7_11 ?_
    exact z_iret k7_12 (ans_i (EA.x s1 hsim (Or.inl ⟨hbt.mp h8, rfl⟩)))
set_option maxRecDepth 20000 in
theorem k111 {d : Nat} {I : Nat → Int → Int} {P : Int → Nat} {dr : Nat} {σ : Nat → Int → Int} (hG : CG I σ P dr) (hW : WFs σ) {g : Nat} (hg : g + 1 < 1000) (hX : CC σ I g) {s : Int} (i_s : inR s) : cal (d + 10) 111 [vr 16, vi s] I P dr (clsD (xEmp σ s) σ I P dr (g + 1)) := by
  refine cal_in (Nat.le_of_ble_eq_true rfl) ?_
  obtain ⟨hN, hT, hP, hA, hL⟩ := id hW
  have b0 := hN.1
  have b1 := hN.2.1
  have b2 := hN.2.2.1
  have b10 := hN.2.2.2.2.2.2.2.1
  obtain ⟨hC, hCt, hcp, hCl, hca⟩ := id hG
  obtain ⟨cn, ct, cg, cmr, cmf, cmt, cw, cT, cS, cW⟩ := id hC
  have bp := hP.1
  have hPc : ∀ k, 0 ≤ k → k < 5 → isPl (P k) := hcp.2.1.1
  obtain ⟨g1, hg1, hB1, hF1⟩ := id hX
  have hX2 : CC σ I (g + 1) := ⟨g1, by omega, hB1, hF1⟩
  have hnp : nP σ = (σ 127 21).toNat := rfl
  have hn2 := np2 hP
  show wp _ _ _ _ 0 [vr 16, vi s] [] _
  refine s_ald k111_0 rfl ?_
  refine z_getRe (b := 17) k111_1 rfl rr_16_0 ?_
  refine s_ild k111_4 rfl ?_
  refine z_inv1A k111_5 rfl (Nat.le_of_ble_eq_true rfl) (c57 hC (by omega) i_s) ?_
  refine z_ifneb k111_8 (fun h8 => ?_) (fun h8 => ?_)
  · obtain ⟨sn, rfl⟩ : ∃ q : Nat, s = (q : Int) := ⟨s.toNat, by omega⟩
    refine s_ald k111_14 rfl ?_
    refine z_getRe (b := 69) k111_15 rfl rr_16_3 ?_
    refine z_inv0 k111_18 rfl (Nat.le_of_ble_eq_true rfl) (c2 hN hP hC hcp (by omega) hB1 hF1) (fun o h1 hq => ?_)
    obtain ⟨rfl, J, g2, rfl, jF, hg2, jB, j17, jR⟩ := hq
    have hXJ : CC σ J (g + 1) := ⟨g2, by omega, jB, fun _ => jR⟩
    obtain ⟨jK, jW, jL, jH, f, cf, jf, f1, jA, jV⟩ := id jR
    have hcpJ := hcp.keep hP (fun a q _ _ => jF a q (by omega) (by omega))
    have hbc := bC_cls hN hP jA.2.1 jV
    have hZ : BZ σ J P dr f cf := ⟨hcpJ, jK, jf, f1, jA⟩
    refine s_ald k111_21 rfl ?_
    refine z_getRe (b := 69) k111_22 rfl rr_16_3 ?_
    refine s_ild k111_25 rfl ?_
    refine z_inv1A k111_26 rfl (Nat.le_of_ble_eq_true rfl) (c7 hN hP hZ (s := sn) (by omega) (simE.nz hbc)) ?_
    exact z_iret k111_29 ⟨J, rfl, rfl, jF.b, hXJ⟩
  · refine z_push k111_11 ?_
    refine z_iret k111_13 ⟨I, ?_, rfl, FCb.rf, hX2⟩
    unfold xEmp
    rw [if_neg (by omega)]
