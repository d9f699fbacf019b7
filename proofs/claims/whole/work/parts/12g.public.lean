/-! world -/
def copyS (σ : Nat → Int → Int) (b i : Int) : Nat → Int → Int := fun a k => if a = 131 ∧ b ≤ k ∧ k < b + i then σ 131 (k - b) else σ a k
theorem copy_0 {σ : Nat → Int → Int} {b : Int} : copyS σ b 0 = σ := by
  funext a k
  exact if_neg (by omega)
theorem copy_s {σ : Nat → Int → Int} {b i : Int} (h : 0 ≤ i) : upI (copyS σ b i) 131 (b + i) (σ 131 i) = copyS σ b (i + 1) := by
  funext a k
  unfold upI copyS
  by_cases c1 : a = 131 ∧ k = b + i
  · rw [if_pos c1, if_pos ⟨c1.1, by omega, by omega⟩, c1.2, show b + i - b = i by omega]
  · rw [if_neg c1]
    by_cases c2 : a = 131 ∧ b ≤ k ∧ k < b + i
    · rw [if_pos c2, if_pos ⟨c2.1, c2.2.1, by omega⟩]
    · rw [if_neg c2, if_neg (by omega)]
abbrev wB (σ : Nat → Int → Int) : Int := 24 + 12 * σ 127 10
def xWld (σ : Nat → Int → Int) (v : Int) : mX := if 1 ≤ v ∧ v ≤ 9 then (if σ 127 10 = 4 then (-5, σ, false) else (σ 127 10, upI (upI (copyS σ (wB σ) 12) 132 (σ 127 10) v) 127 10 (σ 127 10 + 1), false)) else (-3, σ, false)
set_option maxRecDepth 20000 in
theorem lp148 {d : Nat} {I σ : Nat → Int → Int} {P : Int → Nat} {dr : Nat} {v : Int} (b0 : 0 ≤ σ 127 10) (b1 : σ 127 10 < 4) : ∀ (m i : Nat) (J : Nat → Int → Int), (i : Int) + m = 12 → sig J = copyS σ (wB σ) i → (∀ a k, a < 127 → J a k = I a k) → wp (mcall MT CD (d + 1)) (CD 148) L0 (refQ (σ 127 10, upI (upI (copyS σ (wB σ) 12) 132 (σ 127 10) v) 127 10 (σ 127 10 + 1), false) I P dr) 26 [vr 127, vi v, vi (i : Int)] [] (S0, J, RR P dr) := by
  intro m
  induction m with
  | zero => 
    intro i J hi hs hlo
    have j10 : J 127 10 = σ 127 10 := (st_s rfl rfl).trans ((congrFun (congrFun hs 127) 10).trans (if_neg (by omega)))
    refine s_ild k148_26 rfl ?_
    refine z_push k148_27 ?_
    refine s_icge k148_29 ⟨by omega, by omega⟩ (inR_lit rfl) (fun h29 => ?_) (fun q => absurd q (by omega))
    refine s_ald k148_61 rfl ?_
    refine z_getRe (b := 132) k148_62 rfl rr_127_11 ?_
    refine s_ald k148_65 rfl ?_
    refine z_getIe (z := σ 127 10) k148_66 rfl j10 ?_
    refine s_ild k148_69 rfl ?_
    refine z_iast k148_70 rfl (by omega) (show (σ 127 10) < ((4 : Nat) : Int) by omega) ?_
    refine s_ald k148_71 rfl ?_
    refine z_dupr k148_72 ?_
    refine z_getIe (z := σ 127 10) k148_73 rfl ((up_ne (by decide)).trans j10) ?_
    refine z_push k148_76 ?_
    refine z_iadd k148_77 ?_
    refine z_putIe (q := 10) k148_78 rfl rfl ?_
    refine s_ald k148_81 rfl ?_
    refine z_getIe (z := (σ 127 10) + 1) k148_82 rfl up_at ?_
    refine z_push k148_85 ?_
    refine z_isub k148_86 ?_
    have hi2 : (i : Int) = 12 := by omega
    rw [hi2] at hs
    refine z_iret k148_87 ⟨_, congrArg (fun u => some (vi u)) (by omega), rfl, (sig_up rfl).trans (by rw [sig_up rfl, hs]), fun a k hk => (up_ne (by omega)).trans ((up_ne (by omega)).trans (hlo a k hk))⟩
  | succ m ih => 
    intro i J hi hs hlo
    have j10 : J 127 10 = σ 127 10 := (st_s rfl rfl).trans ((congrFun (congrFun hs 127) 10).trans (if_neg (by omega)))
    refine s_ild k148_26 rfl ?_
    refine z_push k148_27 ?_
    refine s_icge k148_29 ⟨by omega, by omega⟩ (inR_lit rfl) (fun q => absurd q (by omega)) (fun h29 => ?_)
    have j131 : J 131 i = σ 131 i := (st_s rfl rfl).trans ((congrFun (congrFun hs 131) i).trans (if_neg (by unfold wB; omega)))
    refine s_ald k148_32 rfl ?_
    refine z_getRe (b := 131) k148_33 rfl rr_127_9 ?_
    refine z_push k148_36 ?_
    refine z_push k148_38 ?_
    refine s_ald k148_40 rfl ?_
    refine z_getIe (z := σ 127 10) k148_41 rfl j10 ?_
    refine z_imul k148_44 ?_
    refine z_iadd k148_45 ?_
    refine s_ild k148_46 rfl ?_
    refine z_iadd k148_47 ?_
    refine s_ald k148_48 rfl ?_
    refine z_getRe (b := 131) k148_49 rfl rr_127_9 ?_
    refine s_ild k148_52 rfl ?_
    refine z_ialde (z := σ 131 (i : Int)) k148_53 rfl (by omega) (show (i : Int) < ((72 : Nat) : Int) by omega) j131 ?_
    refine z_iast k148_54 rfl (by omega) (show ((24 + (12 * (σ 127 10))) + (i : Int)) < ((72 : Nat) : Int) by omega) ?_
    refine s_iinc2 k148_55 rfl ?_
    refine z_goto k148_58 ?_
    refine ih (i + 1) _ (by omega) ?_ (fun a k hk => (up_ne (by omega)).trans (hlo a k hk))
    rw [sig_up rfl, hs]
    exact copy_s (b := wB σ) (by omega)
set_option maxRecDepth 20000 in
theorem r148 {d : Nat} {I : Nat → Int → Int} {P : Int → Nat} {dr : Nat} {σ : Nat → Int → Int} (hs : sig I = σ) (hW : WFs σ) {v : Int} (i_v : inR v) : cal (d + 2) 148 [vr 127, vi v] I P dr (refQ (xWld σ v) I P dr) := by
  refine cal_in (Nat.le_of_ble_eq_true rfl) ?_
  obtain ⟨hN, hT, hP, hA, hL⟩ := id hW
  have b0 := hN.1
  have b1 := hN.2.1
  have b2 := hN.2.2.1
  have b10 := hN.2.2.2.2.2.2.2.1
  show wp _ _ _ _ 0 [vr 127, vi v, vj] [] _
  refine s_ild k148_0 rfl ?_
  refine z_push k148_1 ?_
  refine z_push k148_2 ?_
  refine z_sta3A k148_4 (Nat.le_of_ble_eq_true rfl) (c136 i_v (inR_lit rfl) (inR_lit rfl)) ?_
  refine z_ifneb k148_7 (fun h7 => ?_) (fun h7 => ?_)
  · refine s_ald k148_13 rfl ?_
    refine z_getIe (z := σ 127 10) k148_14 rfl (st_s hs rfl) ?_
    refine z_push k148_17 ?_
    refine s_icne k148_18 ⟨by omega, by omega⟩ (inR_lit rfl) (fun h18 => ?_) (fun h18 => ?_)
    · refine z_push k148_24 ?_
      refine s_ist2 k148_25 rfl ?_
      unfold xWld
      rw [if_pos (by omega), if_neg (by omega)]
      exact lp148 (by omega) (by omega) 12 0 _ (by decide) (by rw [hs]; exact copy_0.symm) (fun a k hk => rfl)
    · refine z_push k148_21 ?_
      refine z_iret k148_23 ⟨_, ?_, rfl, ?_, fun a k hk => rfl⟩
      · unfold xWld
        rw [if_pos (by omega), if_pos (by omega)]
      · unfold xWld
        rw [if_pos (by omega), if_pos (by omega)]
        exact hs
  · refine z_push k148_10 ?_
    refine z_iret k148_12 ⟨_, ?_, rfl, ?_, fun a k hk => rfl⟩
    · unfold xWld
      rw [if_neg (by omega)]
    · unfold xWld
      rw [if_neg (by omega)]
      exact hs
set_option maxRecDepth 20000 in
theorem lp61 {d : Nat} {I σ : Nat → Int → Int} {P : Int → Nat} {dr : Nat} {v : Int} (hC : CRn I σ) (b0 : 0 ≤ σ 127 10) (b1 : σ 127 10 < 4) : ∀ (m i : Nat) (J : Nat → Int → Int), (i : Int) + m = 12 → J 26 (σ 127 10) = v → (∀ s, 0 ≤ s → s < (i : Int) → J (22 + (σ 127 10).toNat) s = σ 131 s) → (∀ a k, ¬ (a = 26 ∧ k = σ 127 10) → a ≠ (22 + (σ 127 10).toNat) → J a k = I a k) → wp (mcall MT CD (d + 0)) (CD 61) L0 (fun o h => o = some (vi (σ 127 10)) ∧ ∃ J, h = (S0, J, RR P dr) ∧ J 17 9 = σ 127 10 + 1 ∧ J 26 (σ 127 10) = v ∧ (∀ s, 0 ≤ s → s < 12 → J (22 + (σ 127 10).toNat) s = σ 131 s) ∧ ∀ a k, ¬ (a = 17 ∧ k = 9) → ¬ (a = 26 ∧ k = σ 127 10) → a ≠ (22 + (σ 127 10).toNat) → J a k = I a k) 12 [vr 17, vi v, vi (i : Int)] [] (S0, J, RR P dr) := by
  intro m
  induction m with
  | zero => 
    intro i J hi h26 hz hlo
    obtain ⟨cn, ct, cg, cmr, cmf, cmt, cw, cT, cS, cW⟩ := id hC
    have j9 : J 17 9 = σ 127 10 := (hlo 17 9 (by omega) (by omega)).trans cw
    have e22 : (22 + (σ 127 10).toNat) = 20 + (2 + σ 127 10).toNat := by omega
    refine s_ild k61_12 rfl ?_
    refine z_push k61_13 ?_
    refine s_icge k61_15 ⟨by omega, by omega⟩ (inR_lit rfl) (fun h15 => ?_) (fun q => absurd q (by omega))
    refine s_ald k61_45 rfl ?_
    refine z_dupr k61_46 ?_
    refine z_getIe (z := σ 127 10) k61_47 rfl j9 ?_
    refine z_push k61_50 ?_
    refine z_iadd k61_51 ?_
    refine z_putIe (q := 9) k61_52 rfl rfl ?_
    refine s_ald k61_55 rfl ?_
    refine z_getIe (z := (σ 127 10) + 1) k61_56 rfl up_at ?_
    refine z_push k61_59 ?_
    refine z_isub k61_60 ?_
    refine z_iret k61_61 ⟨congrArg (fun u => some (vi u)) (by omega), _, rfl, up_at, (up_ne (by decide)).trans h26, fun s s0 s1 => (up_ne (by omega)).trans (hz s s0 (by omega)), fun a k h1 h2 h3 => (if_neg h1).trans (hlo a k h2 h3)⟩
  | succ m ih => 
    intro i J hi h26 hz hlo
    obtain ⟨cn, ct, cg, cmr, cmf, cmt, cw, cT, cS, cW⟩ := id hC
    have j9 : J 17 9 = σ 127 10 := (hlo 17 9 (by omega) (by omega)).trans cw
    have e22 : (22 + (σ 127 10).toNat) = 20 + (2 + σ 127 10).toNat := by omega
    refine s_ild k61_12 rfl ?_
    refine z_push k61_13 ?_
    refine s_icge k61_15 ⟨by omega, by omega⟩ (inR_lit rfl) (fun q => absurd q (by omega)) (fun h15 => ?_)
    have j20 : J 20 i = σ 131 i := (hlo 20 i (by omega) (by omega)).trans ((cS 0 i (by decide) (by omega) (by omega) (by omega)).trans (by rw [show 12 * (0 : Int) + i = i by omega]))
    refine s_ald k61_18 rfl ?_
    refine z_getRe (b := 19) k61_19 rfl rr_17_7 ?_
    refine z_push k61_22 ?_
    refine s_ald k61_23 rfl ?_
    refine z_getIe (z := σ 127 10) k61_24 rfl j9 ?_
    refine z_iadd k61_27 ?_
    refine z_aalde (b := 20 + (2 + (σ 127 10)).toNat) k61_28 rfl (by omega) (show (2 + (σ 127 10)) < ((6 : Nat) : Int) by omega) (rr_sk (by omega) (by omega)) ?_
    refine s_ild k61_29 rfl ?_
    refine s_ald k61_30 rfl ?_
    refine z_getRe (b := 19) k61_31 rfl rr_17_7 ?_
    refine z_push k61_34 ?_
    refine z_aalde (b := 20) k61_35 rfl (by decide) (by decide) (rr_sk (by decide) (by decide)) ?_
    refine s_ild k61_36 rfl ?_
    refine z_ialde (z := σ 131 (i : Int)) k61_37 rfl (by omega) (show (i : Int) < ((12 : Nat) : Int) by omega) j20 ?_
    refine z_iast k61_38 (by rw [(sk_sh (t := (2 + (σ 127 10)).toNat) (by omega))]) (by omega) (by rw [(sk_sh (t := (2 + (σ 127 10)).toNat) (by omega))]; show (i : Int) < ((12 : Nat) : Int); omega) ?_
    refine s_iinc2 k61_39 rfl ?_
    refine z_goto k61_42 ?_
    refine ih (i + 1) _ (by omega) ((up_ne (by omega)).trans h26) (fun s s0 s1 => ?_) (fun a k h1 h2 => (up_ne (by omega)).trans (hlo a k h1 h2))
    by_cases c1 : s = i
    · rw [c1, e22]
      exact up_at
    · rw [e22, up_nk c1, ← e22]
      exact hz s s0 (by omega)
set_option maxRecDepth 20000 in
theorem c61 {d : Nat} {I : Nat → Int → Int} {P : Int → Nat} {dr : Nat} {σ : Nat → Int → Int} {v : Int} (hC : CRn I σ) (b0 : 0 ≤ σ 127 10) (b1 : σ 127 10 < 4) : cal (d + 1) 61 [vr 17, vi v] I P dr (fun o h => o = some (vi (σ 127 10)) ∧ ∃ J, h = (S0, J, RR P dr) ∧ J 17 9 = σ 127 10 + 1 ∧ J 26 (σ 127 10) = v ∧ (∀ s, 0 ≤ s → s < 12 → J (22 + (σ 127 10).toNat) s = σ 131 s) ∧ ∀ a k, ¬ (a = 17 ∧ k = 9) → ¬ (a = 26 ∧ k = σ 127 10) → a ≠ (22 + (σ 127 10).toNat) → J a k = I a k) := by
  refine cal_in (Nat.le_of_ble_eq_true rfl) ?_
  obtain ⟨cn, ct, cg, cmr, cmf, cmt, cw, cT, cS, cW⟩ := id hC
  show wp _ _ _ _ 0 [vr 17, vi v, vj] [] _
  refine s_ald k61_0 rfl ?_
  refine z_getRe (b := 26) k61_1 rfl rr_17_8 ?_
  refine s_ald k61_4 rfl ?_
  refine z_getIe (z := σ 127 10) k61_5 rfl cw ?_
  refine s_ild k61_8 rfl ?_
  refine z_iast k61_9 rfl (by omega) (show (σ 127 10) < ((4 : Nat) : Int) by omega) ?_
  refine z_push k61_10 ?_
  refine s_ist2 k61_11 rfl ?_
  exact lp61 hC b0 b1 12 0 _ (by decide) up_at (fun s s0 s1 => absurd s1 (by omega)) (fun a k h1 h2 => if_neg h1)
set_option maxRecDepth 20000 in
theorem k96 {d : Nat} {I : Nat → Int → Int} {P : Int → Nat} {dr : Nat} {σ : Nat → Int → Int} (hG : CG I σ P dr) (hW : WFs σ) {v : Int} (i_v : inR v) : cal (d + 2) 96 [vr 16, vi v] I P dr (clsQ (xWld σ v) I P dr) := by
  refine cal_in (Nat.le_of_ble_eq_true rfl) ?_
  obtain ⟨hN, hT, hP, hA, hL⟩ := id hW
  have b0 := hN.1
  have b1 := hN.2.1
  have b2 := hN.2.2.1
  have b10 := hN.2.2.2.2.2.2.2.1
  obtain ⟨hC, hCt, hcp, hCl, hca⟩ := id hG
  obtain ⟨cn, ct, cg, cmr, cmf, cmt, cw, cT, cS, cW⟩ := id hC
  show wp _ _ _ _ 0 [vr 16, vi v] [] _
  refine s_ild k96_0 rfl ?_
  refine z_push k96_1 ?_
  refine z_push k96_2 ?_
  refine z_sta3A k96_4 (Nat.le_of_ble_eq_true rfl) (c126 i_v (inR_lit rfl) (inR_lit rfl)) ?_
  refine z_ifneb k96_7 (fun h7 => ?_) (fun h7 => ?_)
  · refine s_ald k96_13 rfl ?_
    refine z_getRe (b := 17) k96_14 rfl rr_16_0 ?_
    refine z_getIe (z := σ 127 10) k96_17 rfl cw ?_
    refine z_push k96_20 ?_
    refine s_iclt k96_21 ⟨by omega, by omega⟩ (inR_lit rfl) (fun h21 => ?_) (fun h21 => ?_)
    · refine s_ald k96_27 rfl ?_
      refine z_getRe (b := 17) k96_28 rfl rr_16_0 ?_
      refine s_ild k96_31 rfl ?_
      refine z_inv1 k96_32 rfl (Nat.le_of_ble_eq_true rfl) (c61 hC (by omega) (by omega)) (fun o h1 hq => ?_)
      obtain ⟨rfl, J2, rfl, g9, g26, gz, glo⟩ := hq
      refine z_iret k96_35 ⟨_, ?_, rfl, ?_⟩
      · unfold xWld
        rw [if_pos (by omega), if_neg (by omega)]
      · unfold xWld
        rw [if_pos (by omega), if_neg (by omega)]
        dsimp only
        have so : ∀ a q, a ≠ 127 → a ≠ 131 → a ≠ 132 → (upI (upI (copyS σ (wB σ) 12) 132 (σ 127 10) v) 127 10 (σ 127 10 + 1)) a q = σ a q := fun a q h1 h2 h3 => (up_ne h1).trans ((up_ne h3).trans (if_neg (fun u => h2 u.1)))
        have s7 : ∀ q, q ≠ 10 → (upI (upI (copyS σ (wB σ) 12) 132 (σ 127 10) v) 127 10 (σ 127 10 + 1)) 127 q = σ 127 q := fun q h => (up_nk h).trans ((up_ne (by decide)).trans (if_neg (by omega)))
        have jo : ∀ a q, a ≠ 17 → a ≠ 26 → a ≠ (22 + (σ 127 10).toNat) → J2 a q = I a q := fun a q h1 h2 h3 => glo a q (fun u => h1 u.1) (fun u => h2 u.1) h3
        have j17 : ∀ q, q ≠ 9 → J2 17 q = I 17 q := fun q h => glo 17 q (fun u => h u.2) (by omega) (by omega)
        refine ⟨CG.night hP hG ?_ (fun a q _ => jo a q (by omega) (by omega) (by omega)) (fun a q h => ?_), ⟨fun a k h1 h2 h3 => jo a k (by omega) (by omega) (by omega), jo 69 17 (by omega) (by omega) (by omega), fun a k h1 => jo a k (by omega) (by omega) (by omega)⟩⟩
        · refine ⟨(j17 0 (by decide)).trans (cn.trans (s7 0 (by decide)).symm), (j17 1 (by decide)).trans (ct.trans (s7 1 (by decide)).symm), (j17 3 (by decide)).trans (cg.trans (s7 2 (by decide)).symm), (j17 4 (by decide)).trans (cmr.trans (s7 6 (by decide)).symm), (j17 5 (by decide)).trans (cmf.trans (s7 7 (by decide)).symm), (j17 6 (by decide)).trans (cmt.trans (s7 8 (by decide)).symm), g9.trans up_at.symm, fun t t0 t1 => ?_, fun k s k0 k1 s0 s1 => ?_, fun w w0 w1 => ?_⟩
          · rw [s7 2 (by decide)] at t1
            rw [jo _ _ (by omega) (by omega) (by omega), jo _ _ (by omega) (by omega) (by omega), jo _ _ (by omega) (by omega) (by omega), so 128 _ (by decide) (by decide) (by decide), so 129 _ (by decide) (by decide) (by decide), so 130 _ (by decide) (by decide) (by decide)]
            exact cT t t0 t1
          · rw [up_at] at k1
            by_cases c1 : k = 2 + σ 127 10
            · have e1 : (upI (upI (copyS σ (wB σ) 12) 132 (σ 127 10) v) 127 10 (σ 127 10 + 1)) 131 (12 * k + s) = σ 131 (12 * k + s - wB σ) := (up_ne (by decide)).trans ((up_ne (by decide)).trans (if_pos ⟨rfl, by unfold wB; omega, by unfold wB; omega⟩))
              rw [e1, show 20 + k.toNat = (22 + (σ 127 10).toNat) by omega, show 12 * k + s - wB σ = s by unfold wB; omega]
              exact gz s s0 s1
            · have e1 : (upI (upI (copyS σ (wB σ) 12) 132 (σ 127 10) v) 127 10 (σ 127 10 + 1)) 131 (12 * k + s) = σ 131 (12 * k + s) := (up_ne (by decide)).trans ((up_ne (by decide)).trans (if_neg (by unfold wB; omega)))
              rw [e1, jo _ _ (by omega) (by omega) (by omega)]
              exact cS k s k0 (by omega) s0 s1
          · rw [up_at] at w1
            by_cases c1 : w = σ 127 10
            · rw [c1]
              exact g26.trans ((up_ne (by decide)).trans up_at).symm
            · have e1 : (upI (upI (copyS σ (wB σ) 12) 132 (σ 127 10) v) 127 10 (σ 127 10 + 1)) 132 w = σ 132 w := (up_ne (by decide)).trans ((up_nk c1).trans (if_neg (by omega)))
              rw [e1, glo 26 w (by omega) (by omega) (by omega)]
              exact cW w w0 (by omega)
        · by_cases c1 : a = 127
          · rw [c1]
            exact s7 q (by omega)
          · exact so a q c1 (by omega) (by omega)
    · refine z_push k96_24 ?_
      refine z_iret k96_26 ⟨I, ?_, rfl, ?_⟩
      · unfold xWld
        rw [if_pos (by omega), if_pos (by omega)]
      · unfold xWld
        rw [if_pos (by omega), if_pos (by omega)]
        exact ⟨hG, KC.rf⟩
  · refine z_push k96_10 ?_
    refine z_iret k96_12 ⟨I, ?_, rfl, ?_⟩
    · unfold xWld
      rw [if_neg (by omega)]
    · unfold xWld
      rw [if_neg (by omega)]
      exact ⟨hG, KC.rf⟩
