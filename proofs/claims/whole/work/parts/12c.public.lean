theorem swt_out {a l : Int} {t : List Nat} {d : Nat} (h : a < l ∨ l + t.length ≤ a) : swt a l t d = d := by
  unfold swt
  by_cases c : a < l
  · rw [if_pos c]
  · rw [if_neg c, List.getD_eq_getElem?_getD, List.getElem?_eq_none (by omega)]
    rfl
def xCnt (σ : Nat → Int → Int) (k : Int) : mX := (if k = 0 then σ 127 0 else if k = 1 then σ 127 1 else if k = 2 then σ 127 2 else if k = 3 then σ 127 21 else if k = 4 then σ 127 10 else if k = 5 then σ 127 12 else if k = 6 then σ 127 39 else -3, σ, false)
def xSee (σ : Nat → Int → Int) (w s v : Int) : mX := if (0 ≤ w ∧ w < 2 + σ 127 10) ∧ (0 ≤ s ∧ s < σ 127 0) then (if 0 ≤ v ∧ v ≤ 4 then (σ 131 (12 * w + s), upI σ 131 (12 * w + s) v, true) else (-3, σ, false)) else (-2, σ, false)
def xWor (σ : Nat → Int → Int) (p v : Int) : mX := if 0 ≤ p ∧ p < σ 127 21 then (if 1 ≤ v ∧ v ≤ 99 then (pf σ p 3, upI σ 138 (23 * p + 3) v, true) else (-3, σ, false)) else (-2, σ, false)
set_option maxRecDepth 20000 in
theorem r208 {d : Nat} {I : Nat → Int → Int} {P : Int → Nat} {dr : Nat} {σ : Nat → Int → Int} (hs : sig I = σ) (hW : WFs σ) {k : Int} (i_k : inR k) : cal (d + 1) 208 [vr 127, vi k] I P dr (refQ (xCnt σ k) I P dr) := by
  refine cal_in (Nat.le_of_ble_eq_true rfl) ?_
  obtain ⟨hN, hT, hP, hA, hL⟩ := id hW
  have b0 := hN.1
  have b1 := hN.2.1
  have b2 := hN.2.2.1
  have b10 := hN.2.2.2.2.2.2.2.1
  show wp _ _ _ _ 0 [vr 127, vi k] [] _
  refine s_ild k208_0 rfl ?_
  by_cases cd : 0 ≤ k ∧ k ≤ 6
  · rcases (show k = 0 ∨ k = 1 ∨ k = 2 ∨ k = 3 ∨ k = 4 ∨ k = 5 ∨ k = 6 from by omega) with e1 | e1 | e1 | e1 | e1 | e1 | e1
    · subst e1
      refine s_tsw k208_1 (inR_lit rfl) rfl ?_
      refine s_ald k208_44 rfl ?_
      refine z_getIe (z := σ 127 0) k208_45 rfl (st_s hs rfl) ?_
      exact z_iret k208_48 ⟨I, rfl, rfl, hs, fun _ _ _ => rfl⟩
    · subst e1
      refine s_tsw k208_1 (inR_lit rfl) rfl ?_
      refine s_ald k208_49 rfl ?_
      refine z_getIe (z := σ 127 1) k208_50 rfl (st_s hs rfl) ?_
      exact z_iret k208_53 ⟨I, rfl, rfl, hs, fun _ _ _ => rfl⟩
    · subst e1
      refine s_tsw k208_1 (inR_lit rfl) rfl ?_
      refine s_ald k208_54 rfl ?_
      refine z_getIe (z := σ 127 2) k208_55 rfl (st_s hs rfl) ?_
      exact z_iret k208_58 ⟨I, rfl, rfl, hs, fun _ _ _ => rfl⟩
    · subst e1
      refine s_tsw k208_1 (inR_lit rfl) rfl ?_
      refine s_ald k208_59 rfl ?_
      refine z_getIe (z := σ 127 21) k208_60 rfl (st_s hs rfl) ?_
      exact z_iret k208_63 ⟨I, rfl, rfl, hs, fun _ _ _ => rfl⟩
    · subst e1
      refine s_tsw k208_1 (inR_lit rfl) rfl ?_
      refine s_ald k208_64 rfl ?_
      refine z_getIe (z := σ 127 10) k208_65 rfl (st_s hs rfl) ?_
      exact z_iret k208_68 ⟨I, rfl, rfl, hs, fun _ _ _ => rfl⟩
    · subst e1
      refine s_tsw k208_1 (inR_lit rfl) rfl ?_
      refine s_ald k208_69 rfl ?_
      refine z_getIe (z := σ 127 12) k208_70 rfl (st_s hs rfl) ?_
      exact z_iret k208_73 ⟨I, rfl, rfl, hs, fun _ _ _ => rfl⟩
    · subst e1
      refine s_tsw k208_1 (inR_lit rfl) rfl ?_
      refine s_ald k208_74 rfl ?_
      refine z_getIe (z := σ 127 39) k208_75 rfl (st_s hs rfl) ?_
      exact z_iret k208_78 ⟨I, rfl, rfl, hs, fun _ _ _ => rfl⟩
  · refine s_tsw k208_1 i_k (swt_out (by show k < 0 ∨ (0 : Int) + (7 : Nat) ≤ k; omega)) ?_
    refine z_push k208_79 ?_
    refine z_iret k208_81 ⟨I, ?_, rfl, hs, fun _ _ _ => rfl⟩
    unfold xCnt
    rw [if_neg (by omega), if_neg (by omega), if_neg (by omega), if_neg (by omega), if_neg (by omega), if_neg (by omega), if_neg (by omega)]
set_option maxRecDepth 20000 in
theorem k125 {d : Nat} {I : Nat → Int → Int} {P : Int → Nat} {dr : Nat} {σ : Nat → Int → Int} (hG : CG I σ P dr) (hW : WFs σ) {k : Int} (i_k : inR k) : cal (d + 1) 125 [vr 16, vi k] I P dr (clsQ (xCnt σ k) I P dr) := by
  refine cal_in (Nat.le_of_ble_eq_true rfl) ?_
  obtain ⟨hN, hT, hP, hA, hL⟩ := id hW
  have b0 := hN.1
  have b1 := hN.2.1
  have b2 := hN.2.2.1
  have b10 := hN.2.2.2.2.2.2.2.1
  obtain ⟨hC, hCt, hcp, hCl, hca⟩ := id hG
  obtain ⟨cn, ct, cg, cmr, cmf, cmt, cw, cT, cS, cW⟩ := id hC
  show wp _ _ _ _ 0 [vr 16, vi k] [] _
  refine s_ild k125_0 rfl ?_
  by_cases cd : 0 ≤ k ∧ k ≤ 6
  · rcases (show k = 0 ∨ k = 1 ∨ k = 2 ∨ k = 3 ∨ k = 4 ∨ k = 5 ∨ k = 6 from by omega) with e1 | e1 | e1 | e1 | e1 | e1 | e1
    · subst e1
      refine s_tsw k125_1 (inR_lit rfl) rfl ?_
      refine s_ald k125_44 rfl ?_
      refine z_getRe (b := 17) k125_45 rfl rr_16_0 ?_
      refine z_getIe (z := σ 127 0) k125_48 rfl cn ?_
      exact z_iret k125_51 ⟨I, rfl, rfl, hG, KC.rf⟩
    · subst e1
      refine s_tsw k125_1 (inR_lit rfl) rfl ?_
      refine s_ald k125_52 rfl ?_
      refine z_getRe (b := 17) k125_53 rfl rr_16_0 ?_
      refine z_getIe (z := σ 127 1) k125_56 rfl ct ?_
      exact z_iret k125_59 ⟨I, rfl, rfl, hG, KC.rf⟩
    · subst e1
      refine s_tsw k125_1 (inR_lit rfl) rfl ?_
      refine s_ald k125_60 rfl ?_
      refine z_getRe (b := 17) k125_61 rfl rr_16_0 ?_
      refine z_getIe (z := σ 127 2) k125_64 rfl cg ?_
      exact z_iret k125_67 ⟨I, rfl, rfl, hG, KC.rf⟩
    · subst e1
      refine s_tsw k125_1 (inR_lit rfl) rfl ?_
      refine s_ald k125_68 rfl ?_
      refine z_getRe (b := 42) k125_69 rfl rr_16_2 ?_
      refine z_getIe (z := σ 127 21) k125_72 rfl hcp.1 ?_
      exact z_iret k125_75 ⟨I, rfl, rfl, hG, KC.rf⟩
    · subst e1
      refine s_tsw k125_1 (inR_lit rfl) rfl ?_
      refine s_ald k125_76 rfl ?_
      refine z_getRe (b := 17) k125_77 rfl rr_16_0 ?_
      refine z_getIe (z := σ 127 10) k125_80 rfl cw ?_
      exact z_iret k125_83 ⟨I, rfl, rfl, hG, KC.rf⟩
    · subst e1
      refine s_tsw k125_1 (inR_lit rfl) rfl ?_
      refine s_ald k125_84 rfl ?_
      refine z_getRe (b := 35) k125_85 rfl rr_16_1 ?_
      refine z_getIe (z := σ 127 12) k125_88 rfl hCt.1 ?_
      exact z_iret k125_91 ⟨I, rfl, rfl, hG, KC.rf⟩
    · subst e1
      refine s_tsw k125_1 (inR_lit rfl) rfl ?_
      refine s_ald k125_92 rfl ?_
      refine z_getRe (b := 123) k125_93 rfl rr_16_5 ?_
      refine z_getIe (z := σ 127 39) k125_96 rfl hCl.2.2 ?_
      exact z_iret k125_99 ⟨I, rfl, rfl, hG, KC.rf⟩
  · refine s_tsw k125_1 i_k (swt_out (by show k < 0 ∨ (0 : Int) + (7 : Nat) ≤ k; omega)) ?_
    refine z_push k125_100 ?_
    refine z_iret k125_102 ⟨I, ?_, rfl, hG, KC.rf⟩
    unfold xCnt
    rw [if_neg (by omega), if_neg (by omega), if_neg (by omega), if_neg (by omega), if_neg (by omega), if_neg (by omega), if_neg (by omega)]
set_option maxRecDepth 20000 in
theorem r147 {d : Nat} {I : Nat → Int → Int} {P : Int → Nat} {dr : Nat} {σ : Nat → Int → Int} (hs : sig I = σ) (hW : WFs σ) {w s v : Int} (i_w : inR w) (i_s : inR s) (i_v : inR v) : cal (d + 3) 147 [vr 127, vi w, vi s, vi v] I P dr (refQ (xSee σ w s v) I P dr) := by
  refine cal_in (Nat.le_of_ble_eq_true rfl) ?_
  obtain ⟨hN, hT, hP, hA, hL⟩ := id hW
  have b0 := hN.1
  have b1 := hN.2.1
  have b2 := hN.2.2.1
  have b10 := hN.2.2.2.2.2.2.2.1
  show wp _ _ _ _ 0 [vr 127, vi w, vi s, vi v, vj] [] _
  refine s_ald k147_0 rfl ?_
  refine s_ild k147_1 rfl ?_
  refine z_inv1A k147_2 rfl (Nat.le_of_ble_eq_true rfl) (c140 hs (by omega) i_w) ?_
  refine z_ifeqb k147_5 (fun h5 => ?_) (fun h5 => ?_)
  · refine z_push k147_16 ?_
    refine z_iret k147_18 ⟨_, ?_, rfl, ?_, fun a k hk => rfl⟩
    · unfold xSee
      rw [if_neg (by omega)]
    · unfold xSee
      rw [if_neg (by omega)]
      exact hs
  · refine s_ald k147_8 rfl ?_
    refine s_ild k147_9 rfl ?_
    refine z_inv1A k147_10 rfl (Nat.le_of_ble_eq_true rfl) (c137 hs (by omega) i_s) ?_
    refine z_ifneb k147_13 (fun h13 => ?_) (fun h13 => ?_)
    · refine s_ild k147_19 rfl ?_
      refine z_push k147_20 ?_
      refine z_push k147_21 ?_
      refine z_sta3A k147_22 (Nat.le_of_ble_eq_true rfl) (c136 i_v (inR_lit rfl) (inR_lit rfl)) ?_
      refine z_ifneb k147_25 (fun h25 => ?_) (fun h25 => ?_)
      · refine s_ald k147_31 rfl ?_
        refine z_getRe (b := 131) k147_32 rfl rr_127_9 ?_
        refine z_push k147_35 ?_
        refine s_ild k147_37 rfl ?_
        refine z_imul k147_38 ?_
        refine s_ild k147_39 rfl ?_
        refine z_iadd k147_40 ?_
        refine z_ialde (z := σ 131 ((12 * w) + s)) k147_41 rfl (by omega) (show ((12 * w) + s) < ((72 : Nat) : Int) by omega) (st_s hs rfl) ?_
        refine s_ist4 k147_42 rfl ?_
        refine s_ald k147_44 rfl ?_
        refine z_getRe (b := 131) k147_45 rfl rr_127_9 ?_
        refine z_push k147_48 ?_
        refine s_ild k147_50 rfl ?_
        refine z_imul k147_51 ?_
        refine s_ild k147_52 rfl ?_
        refine z_iadd k147_53 ?_
        refine s_ild k147_54 rfl ?_
        refine z_iast k147_55 rfl (by omega) (show ((12 * w) + s) < ((72 : Nat) : Int) by omega) ?_
        refine s_ild k147_56 rfl ?_
        refine z_iret k147_58 ⟨_, ?_, rfl, ?_, fun a k hk => ((up_ne (by omega)).trans rfl)⟩
        · unfold xSee
          rw [if_pos (by omega), if_pos (by omega)]
        · unfold xSee
          rw [if_pos (by omega), if_pos (by omega)]
          exact ((sig_up rfl).trans (by rw [hs]))
      · refine z_push k147_28 ?_
        refine z_iret k147_30 ⟨_, ?_, rfl, ?_, fun a k hk => rfl⟩
        · unfold xSee
          rw [if_pos (by omega), if_neg (by omega)]
        · unfold xSee
          rw [if_pos (by omega), if_neg (by omega)]
          exact hs
    · refine z_push k147_16 ?_
      refine z_iret k147_18 ⟨_, ?_, rfl, ?_, fun a k hk => rfl⟩
      · unfold xSee
        rw [if_neg (by omega)]
      · unfold xSee
        rw [if_neg (by omega)]
        exact hs
set_option maxRecDepth 20000 in
theorem k95 {d : Nat} {I : Nat → Int → Int} {P : Int → Nat} {dr : Nat} {σ : Nat → Int → Int} (hG : CG I σ P dr) (hW : WFs σ) {w s v : Int} (i_w : inR w) (i_s : inR s) (i_v : inR v) : cal (d + 2) 95 [vr 16, vi w, vi s, vi v] I P dr (clsQ (xSee σ w s v) I P dr) := by
  refine cal_in (Nat.le_of_ble_eq_true rfl) ?_
  obtain ⟨hN, hT, hP, hA, hL⟩ := id hW
  have b0 := hN.1
  have b1 := hN.2.1
  have b2 := hN.2.2.1
  have b10 := hN.2.2.2.2.2.2.2.1
  obtain ⟨hC, hCt, hcp, hCl, hca⟩ := id hG
  obtain ⟨cn, ct, cg, cmr, cmf, cmt, cw, cT, cS, cW⟩ := id hC
  show wp _ _ _ _ 0 [vr 16, vi w, vi s, vi v, vj] [] _
  refine s_ald k95_0 rfl ?_
  refine z_getRe (b := 17) k95_1 rfl rr_16_0 ?_
  refine s_ild k95_4 rfl ?_
  refine z_inv1A k95_5 rfl (Nat.le_of_ble_eq_true rfl) (c59 hC (by omega) i_w) ?_
  refine z_ifeqb k95_8 (fun h8 => ?_) (fun h8 => ?_)
  · refine z_push k95_22 ?_
    refine z_iret k95_24 ⟨I, ?_, rfl, ?_⟩
    · unfold xSee
      rw [if_neg (by omega)]
    · unfold xSee
      rw [if_neg (by omega)]
      exact ⟨hG, KC.rf⟩
  · refine s_ald k95_11 rfl ?_
    refine z_getRe (b := 17) k95_12 rfl rr_16_0 ?_
    refine s_ild k95_15 rfl ?_
    refine z_inv1A k95_16 rfl (Nat.le_of_ble_eq_true rfl) (c57 hC (by omega) i_s) ?_
    refine z_ifneb k95_19 (fun h19 => ?_) (fun h19 => ?_)
    · refine s_ild k95_25 rfl ?_
      refine z_push k95_26 ?_
      refine z_push k95_27 ?_
      refine z_sta3A k95_28 (Nat.le_of_ble_eq_true rfl) (c126 i_v (inR_lit rfl) (inR_lit rfl)) ?_
      refine z_ifneb k95_31 (fun h31 => ?_) (fun h31 => ?_)
      · refine s_ald k95_37 rfl ?_
        refine z_getRe (b := 17) k95_38 rfl rr_16_0 ?_
        refine z_getRe (b := 19) k95_41 rfl rr_17_7 ?_
        refine s_ild k95_44 rfl ?_
        refine z_aalde (b := 20 + w.toNat) k95_45 rfl (by omega) (show w < ((6 : Nat) : Int) by omega) (rr_sk (by omega) (by omega)) ?_
        refine s_ild k95_46 rfl ?_
        refine z_ialde (z := σ 131 (12 * w + s)) k95_47 (by rw [(sk_sh (t := w.toNat) (by omega))]) (by omega) (by rw [(sk_sh (t := w.toNat) (by omega))]; show s < ((12 : Nat) : Int); omega) (cS w s (by omega) (by omega) (by omega) (by omega)) ?_
        refine s_ist4 k95_48 rfl ?_
        refine s_ald k95_50 rfl ?_
        refine z_getRe (b := 17) k95_51 rfl rr_16_0 ?_
        refine z_getRe (b := 19) k95_54 rfl rr_17_7 ?_
        refine s_ild k95_57 rfl ?_
        refine z_aalde (b := 20 + w.toNat) k95_58 rfl (by omega) (show w < ((6 : Nat) : Int) by omega) (rr_sk (by omega) (by omega)) ?_
        refine s_ild k95_59 rfl ?_
        refine s_ild k95_60 rfl ?_
        refine z_iast k95_61 (by rw [(sk_sh (t := w.toNat) (by omega))]) (by omega) (by rw [(sk_sh (t := w.toNat) (by omega))]; show s < ((12 : Nat) : Int); omega) ?_
        refine s_ald k95_62 rfl ?_
        refine z_getRe (b := 69) k95_63 rfl rr_16_3 ?_
        refine z_inv0 k95_66 rfl (Nat.le_of_ble_eq_true rfl) (c1) (fun o h1 hq => ?_)
        obtain ⟨rfl, rfl⟩ := hq
        refine s_ild k95_69 rfl ?_
        refine z_iret k95_71 ⟨_, ?_, rfl, ?_⟩
        · unfold xSee
          rw [if_pos (by omega), if_pos (by omega)]
        · unfold xSee
          rw [if_pos (by omega), if_pos (by omega)]
          dsimp only
          refine ⟨CG.night hP hG ?_ (fun a q _ => (up_ne (by omega)).trans (up_ne (by omega))) (fun a q _ => up_ne (by omega)), (KC.rf.up (by omega)).fg⟩
          have e17 : ∀ q, upI (upI I (20 + w.toNat) s v) 69 17 0 17 q = I 17 q := fun q => (up_ne (by decide)).trans (up_ne (by omega))
          have e26 : ∀ q, upI (upI I (20 + w.toNat) s v) 69 17 0 26 q = I 26 q := fun q => (up_ne (by decide)).trans (up_ne (by omega))
          have s127 : ∀ q, upI σ 131 (12 * w + s) v 127 q = σ 127 q := fun q => up_ne (by decide)
          unfold CRn
          simp only [e17, e26, s127]
          refine ⟨cn, ct, cg, cmr, cmf, cmt, cw, fun t t0 t1 => ?_, fun k u k0 k1 u0 u1 => ?_, fun k k0 k1 => ?_⟩
          · simp only [up_ne (show 27 + t.toNat ≠ 69 by omega), up_ne (show 27 + t.toNat ≠ 20 + w.toNat by omega), up_ne (show (128 : Nat) ≠ 131 by decide), up_ne (show (129 : Nat) ≠ 131 by decide), up_ne (show (130 : Nat) ≠ 131 by decide)]
            exact cT t t0 t1
          · rw [up_ne (show 20 + k.toNat ≠ 69 by omega)]
            by_cases c1 : k = w ∧ u = s
            · rw [c1.1, c1.2, up_at, up_at]
            · have g1 : ¬ (20 + k.toNat = 20 + w.toNat ∧ u = s) := fun q => c1 ⟨by omega, q.2⟩
              rw [show upI I (20 + w.toNat) s v (20 + k.toNat) u = I (20 + k.toNat) u from if_neg g1, up_nk (by omega)]
              exact cS k u k0 k1 u0 u1
          · rw [up_ne (by decide)]
            exact cW k k0 k1
      · refine z_push k95_34 ?_
        refine z_iret k95_36 ⟨I, ?_, rfl, ?_⟩
        · unfold xSee
          rw [if_pos (by omega), if_neg (by omega)]
        · unfold xSee
          rw [if_pos (by omega), if_neg (by omega)]
          exact ⟨hG, KC.rf⟩
    · refine z_push k95_22 ?_
      refine z_iret k95_24 ⟨I, ?_, rfl, ?_⟩
      · unfold xSee
        rw [if_neg (by omega)]
      · unfold xSee
        rw [if_neg (by omega)]
        exact ⟨hG, KC.rf⟩
set_option maxRecDepth 20000 in
theorem r164 {d : Nat} {I : Nat → Int → Int} {P : Int → Nat} {dr : Nat} {σ : Nat → Int → Int} (hs : sig I = σ) (hW : WFs σ) {p v : Int} (i_p : inR p) (i_v : inR v) : cal (d + 3) 164 [vr 127, vi p, vi v] I P dr (refQ (xWor σ p v) I P dr) := by
  refine cal_in (Nat.le_of_ble_eq_true rfl) ?_
  obtain ⟨hN, hT, hP, hA, hL⟩ := id hW
  have b0 := hN.1
  have b1 := hN.2.1
  have b2 := hN.2.2.1
  have b10 := hN.2.2.2.2.2.2.2.1
  have bp := hP.1
  show wp _ _ _ _ 0 [vr 127, vi p, vi v, vj] [] _
  refine s_ald k164_0 rfl ?_
  refine s_ild k164_1 rfl ?_
  refine z_inv1A k164_2 rfl (Nat.le_of_ble_eq_true rfl) (c139 hs (by omega) i_p) ?_
  refine z_ifneb k164_5 (fun h5 => ?_) (fun h5 => ?_)
  · refine s_ild k164_11 rfl ?_
    refine z_push k164_12 ?_
    refine z_push k164_13 ?_
    refine z_sta3A k164_15 (Nat.le_of_ble_eq_true rfl) (c136 i_v (inR_lit rfl) (inR_lit rfl)) ?_
    refine z_ifneb k164_18 (fun h18 => ?_) (fun h18 => ?_)
    · refine s_ald k164_24 rfl ?_
      refine z_getRe (b := 138) k164_25 rfl rr_127_22 ?_
      refine z_push k164_28 ?_
      refine s_ild k164_30 rfl ?_
      refine z_imul k164_31 ?_
      refine z_push k164_32 ?_
      refine z_iadd k164_33 ?_
      refine z_ialde (z := pf σ p 3) k164_34 rfl (by omega) (show ((23 * p) + 3) < ((138 : Nat) : Int) by omega) (st_s hs rfl) ?_
      refine s_ist3 k164_35 rfl ?_
      refine s_ald k164_36 rfl ?_
      refine z_getRe (b := 138) k164_37 rfl rr_127_22 ?_
      refine z_push k164_40 ?_
      refine s_ild k164_42 rfl ?_
      refine z_imul k164_43 ?_
      refine z_push k164_44 ?_
      refine z_iadd k164_45 ?_
      refine s_ild k164_46 rfl ?_
      refine z_iast k164_47 rfl (by omega) (show ((23 * p) + 3) < ((138 : Nat) : Int) by omega) ?_
      refine s_ild k164_48 rfl ?_
      refine z_iret k164_49 ⟨_, ?_, rfl, ?_, fun a k hk => ((up_ne (by omega)).trans rfl)⟩
      · unfold xWor
        rw [if_pos (by omega), if_pos (by omega)]
      · unfold xWor
        rw [if_pos (by omega), if_pos (by omega)]
        exact ((sig_up rfl).trans (by rw [hs]))
    · refine z_push k164_21 ?_
      refine z_iret k164_23 ⟨_, ?_, rfl, ?_, fun a k hk => rfl⟩
      · unfold xWor
        rw [if_pos (by omega), if_neg (by omega)]
      · unfold xWor
        rw [if_pos (by omega), if_neg (by omega)]
        exact hs
  · refine z_push k164_8 ?_
    refine z_iret k164_10 ⟨_, ?_, rfl, ?_, fun a k hk => rfl⟩
    · unfold xWor
      rw [if_neg (by omega)]
    · unfold xWor
      rw [if_neg (by omega)]
      exact hs
