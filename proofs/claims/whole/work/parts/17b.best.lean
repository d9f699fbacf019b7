/-! the best night: best, placed -/
theorem bm_nz {σ : Nat → Int → Int} {c : Nat → Nat} : ∀ k, bmN σ (nzC σ c) k = bmN σ c k
  | 0 => rfl
  | k + 1 => by
    rw [bm_s, bm_s, bm_nz k]
    by_cases h : c k < lnS σ k
    · rw [if_pos (nz_in.mpr h), if_pos h, nz_at h]
    · rw [if_neg (fun u => h (nz_in.mp u)), if_neg h]
/-- the best set as the tables hold it -/
def BZ (σ J : Nat → Int → Int) (P : Int → Nat) (dr f : Nat) (cf : Nat → Nat) : Prop := CRp J σ P dr ∧ CKa σ J ∧ J 69 16 = (f : Int) ∧ f < 2 ^ nP σ ∧ Abl σ J f cf
theorem BZ.in {σ J : Nat → Int → Int} {P : Int → Nat} {dr f : Nat} {cf : Nat → Nat} (h : BZ σ J P dr f cf) (hN : WFn σ) (hP : WFp σ) {q : Nat} (hq : q < nP σ) : (cf q < lnS σ q ↔ f.testBit q = true) := vec_in hN hP (fir_vec h.2.2.2.2.2.1) hq
set_option maxRecDepth 20000 in
theorem lp180 {d : Nat} {I σ : Nat → Int → Int} {P : Int → Nat} {dr : Nat} (hN : WFn σ) (hP : WFp σ) {e : Nat → Nat} (hs : sig I = σ) (hG : RGA σ I) (he : ∀ q, q < nP σ → I 144 q = if e q < lnS σ q then (e q : Int) else -1) : ∀ (m i : Nat), i + m = nP σ → wp (mcall MT CD (d + 0)) (CD 180) L0 (ans (vi (bmN σ e (nP σ) : Int)) I P dr) 4 [vr 127, vi (bmN σ e i : Int), vi (i : Int)] [] (S0, I, RR P dr) := by
  have bp := hP.1
  have b0 := hN.1
  have hnp : nP σ = (σ 127 21).toNat := rfl
  intro m
  induction m with
  | zero =>
    intro i hi
    refine s_ild k180_4 rfl ?_
    refine s_ald k180_5 rfl ?_
    refine z_getIe (z := σ 127 21) k180_6 rfl (st_s hs rfl) ?_
    refine s_icge k180_9 ⟨by omega, by omega⟩ ⟨by omega, by omega⟩ (fun h9 => ?_) (fun q => absurd q (by omega))
    refine s_ild k180_52 rfl ?_
    have e1 : i = nP σ := by omega
    subst e1
    exact z_iret k180_53 (ans_i rfl)
  | succ m ih =>
    intro i hi
    have hbl := bm_12 hN hP (e := e) i
    have h144 := he i (by omega)
    by_cases c : e i < lnS σ i
    · rw [if_pos c] at h144
      have hln := ln_b hN hP i
      have hm4 := mk_4 hN hP i (e i) c
      have hm : I 140 ((200 * (i : Int)) + (e i : Int)) = (mkQ σ i (e i) : Int) := by
        have c2 := c
        rw [ln_e (by omega)] at c2
        exact ((hG i (by omega)).2 (e i) c2).1
      refine s_ild k180_4 rfl ?_
      refine s_ald k180_5 rfl ?_
      refine z_getIe (z := σ 127 21) k180_6 rfl (st_s hs rfl) ?_
      refine s_icge k180_9 ⟨by omega, by omega⟩ ⟨by omega, by omega⟩ (fun q => absurd q (by omega)) (fun h9 => ?_)
      refine s_ild k180_12 rfl ?_
      refine s_ald k180_13 rfl ?_
      refine z_getRe (b := 144) k180_14 rfl rr_127_30 ?_
      refine s_ild k180_17 rfl ?_
      refine z_ialde (z := (e i : Int)) k180_18 rfl (by omega) (show (i : Int) < ((5 : Nat) : Int) by omega) h144 ?_
      refine z_push k180_19 ?_
      refine s_icne k180_20 ⟨by omega, by omega⟩ (inR_lit rfl) (fun h20 => ?_) (fun q => absurd q (by omega))
      refine s_ald k180_27 rfl ?_
      refine z_getRe (b := 140) k180_28 rfl rr_127_24 ?_
      refine z_push k180_31 ?_
      refine s_ild k180_34 rfl ?_
      refine z_imul k180_35 ?_
      refine s_ald k180_36 rfl ?_
      refine z_getRe (b := 144) k180_37 rfl rr_127_30 ?_
      refine s_ild k180_40 rfl ?_
      refine z_ialde (z := (e i : Int)) k180_41 rfl (by omega) (show (i : Int) < ((5 : Nat) : Int) by omega) h144 ?_
      refine z_iadd k180_42 ?_
      refine z_ialde (z := (mkQ σ i (e i) : Int)) k180_43 rfl (by omega) (show ((200 * (i : Int)) + (e i : Int)) < ((1000 : Nat) : Int) by omega) hm ?_
      refine z_ior k180_44 ?_
      refine z_eqi (b := (bmN σ e (i + 1) : Int)) (by rw [bm_s, if_pos c]; exact zor_n (by omega) (by omega)) ?_
      refine s_ist1 k180_45 rfl ?_
      refine s_iinc2 k180_46 rfl ?_
      refine z_goto k180_49 ?_
      exact ih (i + 1) (by omega)
    · rw [if_neg c] at h144
      refine s_ild k180_4 rfl ?_
      refine s_ald k180_5 rfl ?_
      refine z_getIe (z := σ 127 21) k180_6 rfl (st_s hs rfl) ?_
      refine s_icge k180_9 ⟨by omega, by omega⟩ ⟨by omega, by omega⟩ (fun q => absurd q (by omega)) (fun h9 => ?_)
      refine s_ild k180_12 rfl ?_
      refine s_ald k180_13 rfl ?_
      refine z_getRe (b := 144) k180_14 rfl rr_127_30 ?_
      refine s_ild k180_17 rfl ?_
      refine z_ialde (z := (-1)) k180_18 rfl (by omega) (show (i : Int) < ((5 : Nat) : Int) by omega) h144 ?_
      refine z_push k180_19 ?_
      refine s_icne k180_20 (inR_lit rfl) (inR_lit rfl) (fun q => absurd q (by decide)) (fun _ => ?_)
      refine z_push k180_23 ?_
      refine z_goto k180_24 ?_
      refine z_ior k180_44 ?_
      refine z_eqi (b := (bmN σ e (i + 1) : Int)) (by rw [bm_s, if_neg c]; exact zor_n (by omega) (by decide)) ?_
      refine s_ist1 k180_45 rfl ?_
      refine s_iinc2 k180_46 rfl ?_
      refine z_goto k180_49 ?_
      exact ih (i + 1) (by omega)
set_option maxRecDepth 20000 in
theorem c180 {d : Nat} {I : Nat → Int → Int} {P : Int → Nat} {dr : Nat} {σ : Nat → Int → Int} (hN : WFn σ) (hP : WFp σ) {e : Nat → Nat} (hs : sig I = σ) (hG : RGA σ I) (he : ∀ q, q < nP σ → I 144 q = if e q < lnS σ q then (e q : Int) else -1) : cal (d + 1) 180 [vr 127] I P dr (ans (vi (bmN σ e (nP σ) : Int)) I P dr) := by
  refine cal_in (Nat.le_of_ble_eq_true rfl) ?_
  have bp := hP.1
  have b0 := hN.1
  have hnp : nP σ = (σ 127 21).toNat := rfl
  show wp _ _ _ _ 0 [vr 127, vj, vj] [] _
  refine z_push k180_0 ?_
  refine s_ist1 k180_1 rfl ?_
  refine z_push k180_2 ?_
  refine s_ist2 k180_3 rfl ?_
  exact lp180 hN hP hs hG he (nP σ) 0 (by omega)
set_option maxRecDepth 20000 in
theorem r181 {d : Nat} {I : Nat → Int → Int} {P : Int → Nat} {dr : Nat} {σ : Nat → Int → Int} (hs : sig I = σ) (hW : WFs σ) {v : Int} (i_v : inR v) : cal (d + 8) 181 [vr 127, vi v] I P dr (refD (xBes σ v) σ I P dr) := by
  refine cal_in (Nat.le_of_ble_eq_true rfl) ?_
  obtain ⟨hN, hT, hP, hA, hL⟩ := id hW
  have b0 := hN.1
  have b1 := hN.2.1
  have b2 := hN.2.2.1
  have b10 := hN.2.2.2.2.2.2.2.1
  have bp := hP.1
  show wp _ _ _ _ 0 [vr 127, vi v] [] _
  refine s_ild k181_0 rfl ?_
  refine z_push k181_1 ?_
  refine z_push k181_2 ?_
  refine z_sta3A k181_3 (Nat.le_of_ble_eq_true rfl) (c136 i_v (inR_lit rfl) (inR_lit rfl)) ?_
  refine z_ifneb k181_6 (fun h6 => ?_) (fun h6 => ?_)
  · refine s_ald k181_12 rfl ?_
    refine z_inv0 k181_13 rfl (Nat.le_of_ble_eq_true rfl) (c177 hs hN hP) (fun o h1 hq => ?_)
    obtain ⟨rfl, J1, rfl, gF, gV⟩ := hq
    refine s_ald k181_16 rfl ?_
    refine z_inv0 k181_17 rfl (Nat.le_of_ble_eq_true rfl) (c178 hN hP gV) (fun o h1 hq => ?_)
    obtain ⟨rfl, J, e, rfl, hV, hF, hBI, hB⟩ := hq
    have hbc := bC_is hB
    have hbw := bw_b hP (some e)
    have hlo : ∀ a k, a < 127 → J a k = I a k := fun a k hk => (hF a k (by omega) (by omega)).trans (gF a k (by omega))
    refine s_ild k181_20 rfl ?_
    refine s_ifne k181_21 i_v (fun h21 => ?_) (fun h21 => ?_)
    · refine s_ald k181_31 rfl ?_
      refine z_inv0A k181_32 rfl (Nat.le_of_ble_eq_true rfl) (c180 hN hP hV.1 hV.2.1 (hBI.2.2 e rfl)) ?_
      refine z_iret k181_35 ⟨J, ?_, rfl, hV.1, hlo⟩
      unfold xBes
      rw [if_neg (by omega), if_pos (by omega), bm_eq (nP σ) hbc]
    · refine s_ald k181_24 rfl ?_
      refine z_getIe (z := bwO (WSc σ) (some e)) k181_25 rfl hBI.1 ?_
      refine z_goto k181_28 ?_
      refine z_iret k181_35 ⟨J, ?_, rfl, hV.1, hlo⟩
      unfold xBes
      rw [if_pos (by omega)]
      exact congrArg (fun u => some (vi u)) (sumC_eq (nP σ) hbc)
  · refine z_push k181_9 ?_
    refine z_iret k181_11 ⟨I, ?_, rfl, hs, fun _ _ _ => rfl⟩
    unfold xBes
    rw [if_neg (by omega), if_neg (by omega)]
set_option maxRecDepth 20000 in
theorem r182 {d : Nat} {I : Nat → Int → Int} {P : Int → Nat} {dr : Nat} {σ : Nat → Int → Int} (hs : sig I = σ) (hW : WFs σ) {p : Int} (i_p : inR p) : cal (d + 8) 182 [vr 127, vi p] I P dr (refD (xPcd σ p) σ I P dr) := by
  refine cal_in (Nat.le_of_ble_eq_true rfl) ?_
  obtain ⟨hN, hT, hP, hA, hL⟩ := id hW
  have b0 := hN.1
  have b1 := hN.2.1
  have b2 := hN.2.2.1
  have b10 := hN.2.2.2.2.2.2.2.1
  have bp := hP.1
  have hnp : nP σ = (σ 127 21).toNat := rfl
  show wp _ _ _ _ 0 [vr 127, vi p] [] _
  refine s_ald k182_0 rfl ?_
  refine s_ild k182_1 rfl ?_
  refine z_inv1A k182_2 rfl (Nat.le_of_ble_eq_true rfl) (c139 hs (by omega) i_p) ?_
  refine z_ifneb k182_5 (fun h5 => ?_) (fun h5 => ?_)
  · refine s_ald k182_11 rfl ?_
    refine z_inv0 k182_12 rfl (Nat.le_of_ble_eq_true rfl) (c177 hs hN hP) (fun o h1 hq => ?_)
    obtain ⟨rfl, J1, rfl, gF, gV⟩ := hq
    refine s_ald k182_15 rfl ?_
    refine z_inv0 k182_16 rfl (Nat.le_of_ble_eq_true rfl) (c178 hN hP gV) (fun o h1 hq => ?_)
    obtain ⟨rfl, J, e, rfl, hV, hF, hBI, hB⟩ := hq
    have hbc := bC_is hB
    have hbw := bw_b hP (some e)
    have hlo : ∀ a k, a < 127 → J a k = I a k := fun a k hk => (hF a k (by omega) (by omega)).trans (gF a k (by omega))
    have hep := hBI.2.2 e rfl p.toNat (by omega)
    rw [show ((p.toNat : Nat) : Int) = p by omega] at hep
    refine s_ald k182_19 rfl ?_
    refine z_getRe (b := 144) k182_20 rfl rr_127_30 ?_
    refine s_ild k182_23 rfl ?_
    refine z_ialde (z := if e p.toNat < lnS σ p.toNat then (e p.toNat : Int) else -1) k182_24 rfl (by omega) (show p < ((5 : Nat) : Int) by omega) hep ?_
    refine z_iret k182_25 ⟨J, ?_, rfl, hV.1, hlo⟩
    unfold xPcd
    rw [← hbc p.toNat (by omega), if_pos (c := 0 ≤ p ∧ p < σ 127 21) (by omega)]
  · refine z_push k182_8 ?_
    refine z_iret k182_10 ⟨I, ?_, rfl, hs, fun _ _ _ => rfl⟩
    unfold xPcd
    rw [if_neg (by omega)]
set_option maxRecDepth 20000 in
theorem c3 {d : Nat} {I : Nat → Int → Int} {P : Int → Nat} {dr : Nat} {σ : Nat → Int → Int} (hN : WFn σ) (hP : WFp σ) {f : Nat} {cf : Nat → Nat} (hZ : BZ σ I P dr f cf) (hw : TBw σ I (2 ^ nP σ)) : cal (d + 1) 3 [vr 69] I P dr (ans (vi (WSc σ cf)) I P dr) := by
  refine cal_in (Nat.le_of_ble_eq_true rfl) ?_
  have bp := hP.1
  have b0 := hN.1
  have hnp : nP σ = (σ 127 21).toNat := rfl
  have hn2 := np2 hP
  obtain ⟨hcp, jK, jf, f1, jA⟩ := id hZ
  show wp _ _ _ _ 0 [vr 69] [] _
  refine s_ald k3_0 rfl ?_
  refine z_getRe (b := 114) k3_1 rfl rr_69_11 ?_
  refine s_ald k3_4 rfl ?_
  refine z_getIe (z := (f : Int)) k3_5 rfl jf ?_
  refine z_ialde (z := sB (wS σ) f (nP σ)) k3_8 rfl (by omega) (show (f : Int) < ((32 : Nat) : Int) by omega) (hw f f1).1 ?_
  exact z_iret k3_9 (ans_i (vec_sum hN hP (fir_vec jA.2.1) (wS σ) (nP σ) (Nat.le_refl _)).symm)
set_option maxRecDepth 20000 in
theorem c10 {d : Nat} {I : Nat → Int → Int} {P : Int → Nat} {dr : Nat} {σ : Nat → Int → Int} (hN : WFn σ) (hP : WFp σ) {f : Nat} {cf : Nat → Nat} (hZ : BZ σ I P dr f cf) {p : Nat} (hp : p < nP σ) (hb : cf p < lnS σ p) : cal (d + 1) 10 [vr 69, vi (p : Int)] I P dr (ans (vi (mkQ σ p (cf p) : Int)) I P dr) := by
  refine cal_in (Nat.le_of_ble_eq_true rfl) ?_
  have bp := hP.1
  have b0 := hN.1
  have hnp : nP σ = (σ 127 21).toNat := rfl
  have hn2 := np2 hP
  obtain ⟨hcp, jK, jf, f1, jA⟩ := id hZ
  have hln := ln_b hN hP p
  have q2 : I (71 + p) (cf p : Int) = (mkQ σ p (cf p) : Int) := (jK p (by omega)).2.1 (cf p) (by rw [ln_e (by omega)] at hb; exact hb)
  show wp _ _ _ _ 0 [vr 69, vi (p : Int)] [] _
  refine s_ald k10_0 rfl ?_
  refine z_getRe (b := 70) k10_1 rfl rr_69_0 ?_
  refine s_ild k10_4 rfl ?_
  refine z_aalde (b := 71 + p) k10_5 rfl (by omega) (show (p : Int) < ((5 : Nat) : Int) by omega) ((rr_mk (by omega) (by omega)).trans (by rw [Int.toNat_natCast])) ?_
  refine s_ald k10_6 rfl ?_
  refine z_getRe (b := 81) k10_7 rfl rr_69_10 ?_
  refine s_ald k10_10 rfl ?_
  refine z_getIe (z := (f : Int)) k10_11 rfl jf ?_
  refine z_aalde (b := 82 + f) k10_14 rfl (by omega) (show (f : Int) < ((32 : Nat) : Int) by omega) ((rr_fi (by omega) (by omega)).trans (by rw [Int.toNat_natCast])) ?_
  refine s_ild k10_15 rfl ?_
  refine z_ialde (z := (cf p : Int)) k10_16 (by rw [(fi_sh (t := f) (by omega))]) (by omega) (by rw [(fi_sh (t := f) (by omega))]; show (p : Int) < ((5 : Nat) : Int); omega) (jA.2.2 p hp) ?_
  refine z_ialde (z := (mkQ σ p (cf p) : Int)) k10_17 (by rw [(mk_sh (t := p) (by omega))]) (by omega) (by rw [(mk_sh (t := p) (by omega))]; show (cf p : Int) < ((112 : Nat) : Int); omega) q2 ?_
  exact z_iret k10_18 (ans_i rfl)
set_option maxRecDepth 20000 in
theorem lp4b {d : Nat} {I σ : Nat → Int → Int} {P : Int → Nat} {dr : Nat} (hN : WFn σ) (hP : WFp σ) {f : Nat} {cf : Nat → Nat} (hZ : BZ σ I P dr f cf) : ∀ (m i : Nat), i + m = nP σ → wp (mcall MT CD (d + 1)) (CD 4) L0 (ans (vi (bmN σ cf (nP σ) : Int)) I P dr) 4 [vr 69, vi (bmN σ cf i : Int), vi (i : Int)] [] (S0, I, RR P dr) := by
  have bp := hP.1
  have b0 := hN.1
  have hnp : nP σ = (σ 127 21).toNat := rfl
  have hn2 := np2 hP
  obtain ⟨hcp, jK, jf, f1, jA⟩ := id hZ
  intro m
  induction m with
  | zero =>
    intro i hi
    refine s_ild k4_4 rfl ?_
    refine s_ald k4_5 rfl ?_
    refine z_getRe (b := 42) k4_6 rfl rr_69_5 ?_
    refine z_getIe (z := σ 127 21) k4_9 rfl hcp.1 ?_
    refine s_icge k4_12 ⟨by omega, by omega⟩ ⟨by omega, by omega⟩ (fun h12 => ?_) (fun q => absurd q (by omega))
    refine s_ild k4_40 rfl ?_
    have e1 : i = nP σ := by omega
    subst e1
    exact z_iret k4_41 (ans_i rfl)
  | succ m ih =>
    intro i hi
    have hbl := bm_12 hN hP (e := cf) i
    have hbit := s5_bit f (by omega) i (by omega)
    have hin := hZ.in hN hP (q := i) (by omega)
    by_cases c : cf i < lnS σ i
    · have hm4 := mk_4 hN hP i (cf i) c
      refine s_ild k4_4 rfl ?_
      refine s_ald k4_5 rfl ?_
      refine z_getRe (b := 42) k4_6 rfl rr_69_5 ?_
      refine z_getIe (z := σ 127 21) k4_9 rfl hcp.1 ?_
      refine s_icge k4_12 ⟨by omega, by omega⟩ ⟨by omega, by omega⟩ (fun q => absurd q (by omega)) (fun h12 => ?_)
      refine s_ald k4_15 rfl ?_
      refine z_getIe (z := (f : Int)) k4_16 rfl jf ?_
      refine s_ild k4_19 rfl ?_
      refine z_sta2A k4_20 (Nat.le_of_ble_eq_true rfl) (c128) ?_
      refine z_ifeqb k4_23 (fun q => absurd (hbit.mpr (hin.mp c)) q) (fun h23 => ?_)
      refine s_ild k4_26 rfl ?_
      refine s_ald k4_27 rfl ?_
      refine s_ild k4_28 rfl ?_
      refine z_inv1A k4_29 rfl (Nat.le_of_ble_eq_true rfl) (c10 hN hP hZ (by omega) c) ?_
      refine z_ior k4_32 ?_
      refine z_eqi (b := (bmN σ cf (i + 1) : Int)) (by rw [bm_s, if_pos c]; exact zor_n (by omega) (by omega)) ?_
      refine s_ist1 k4_33 rfl ?_
      refine s_iinc2 k4_34 rfl ?_
      refine z_goto k4_37 ?_
      exact ih (i + 1) (by omega)
    · refine s_ild k4_4 rfl ?_
      refine s_ald k4_5 rfl ?_
      refine z_getRe (b := 42) k4_6 rfl rr_69_5 ?_
      refine z_getIe (z := σ 127 21) k4_9 rfl hcp.1 ?_
      refine s_icge k4_12 ⟨by omega, by omega⟩ ⟨by omega, by omega⟩ (fun q => absurd q (by omega)) (fun h12 => ?_)
      refine s_ald k4_15 rfl ?_
      refine z_getIe (z := (f : Int)) k4_16 rfl jf ?_
      refine s_ild k4_19 rfl ?_
      refine z_sta2A k4_20 (Nat.le_of_ble_eq_true rfl) (c128) ?_
      refine z_ifeqb k4_23 (fun h23 => ?_) (fun q => absurd (hin.mpr (hbit.mp q)) c)
      refine s_iinc2 k4_34 rfl ?_
      refine z_goto k4_37 ?_
      have e1 : bmN σ cf (i + 1) = bmN σ cf i := by rw [bm_s, if_neg c, Nat.or_zero]
      rw [← e1]
      exact ih (i + 1) (by omega)
set_option maxRecDepth 20000 in
theorem c4 {d : Nat} {I : Nat → Int → Int} {P : Int → Nat} {dr : Nat} {σ : Nat → Int → Int} (hN : WFn σ) (hP : WFp σ) {f : Nat} {cf : Nat → Nat} (hZ : BZ σ I P dr f cf) : cal (d + 2) 4 [vr 69] I P dr (ans (vi (bmN σ cf (nP σ) : Int)) I P dr) := by
  refine cal_in (Nat.le_of_ble_eq_true rfl) ?_
  have bp := hP.1
  have b0 := hN.1
  have hnp : nP σ = (σ 127 21).toNat := rfl
  have hn2 := np2 hP
  obtain ⟨hcp, jK, jf, f1, jA⟩ := id hZ
  show wp _ _ _ _ 0 [vr 69, vj, vj] [] _
  refine z_push k4_0 ?_
  refine s_ist1 k4_1 rfl ?_
  refine z_push k4_2 ?_
  refine s_ist2 k4_3 rfl ?_
  exact lp4b hN hP hZ (nP σ) 0 (by omega)
set_option maxRecDepth 20000 in
theorem c5 {d : Nat} {I : Nat → Int → Int} {P : Int → Nat} {dr : Nat} {σ : Nat → Int → Int} (hN : WFn σ) (hP : WFp σ) {f : Nat} {cf : Nat → Nat} (hZ : BZ σ I P dr f cf) {p : Nat} (hp : p < nP σ) : cal (d + 2) 5 [vr 69, vi (p : Int)] I P dr (ans (vi (if cf p < lnS σ p then (cf p : Int) else -1)) I P dr) := by
  refine cal_in (Nat.le_of_ble_eq_true rfl) ?_
  have bp := hP.1
  have b0 := hN.1
  have hnp : nP σ = (σ 127 21).toNat := rfl
  have hn2 := np2 hP
  obtain ⟨hcp, jK, jf, f1, jA⟩ := id hZ
  have hbit := s5_bit f (by omega) p (by omega)
  have hin := hZ.in hN hP hp
  show wp _ _ _ _ 0 [vr 69, vi (p : Int)] [] _
  refine s_ald k5_0 rfl ?_
  refine z_getIe (z := (f : Int)) k5_1 rfl jf ?_
  refine s_ild k5_4 rfl ?_
  refine z_sta2A k5_5 (Nat.le_of_ble_eq_true rfl) (c128) ?_
  refine z_ifeqb k5_8 (fun h8 => ?_) (fun h8 => ?_)
  · refine z_push k5_25 ?_
    refine z_iret k5_26 (ans_i ?_)
    rw [if_neg (fun u => h8 (hbit.mpr (hin.mp u)))]
  · refine s_ald k5_11 rfl ?_
    refine z_getRe (b := 81) k5_12 rfl rr_69_10 ?_
    refine s_ald k5_15 rfl ?_
    refine z_getIe (z := (f : Int)) k5_16 rfl jf ?_
    refine z_aalde (b := 82 + f) k5_19 rfl (by omega) (show (f : Int) < ((32 : Nat) : Int) by omega) ((rr_fi (by omega) (by omega)).trans (by rw [Int.toNat_natCast])) ?_
    refine s_ild k5_20 rfl ?_
    refine z_ialde (z := (cf p : Int)) k5_21 (by rw [(fi_sh (t := f) (by omega))]) (by omega) (by rw [(fi_sh (t := f) (by omega))]; show (p : Int) < ((5 : Nat) : Int); omega) (jA.2.2 p hp) ?_
    refine z_goto k5_22 ?_
    refine z_iret k5_26 (ans_i ?_)
    rw [if_pos (hin.mpr (hbit.mp h8))]
