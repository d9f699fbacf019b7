def fillS (σ : Nat → Int → Int) (i : Int) : Nat → Int → Int := fun a k => if a = 131 ∧ 0 ≤ k ∧ k < i then 1 else σ a k
theorem fill_0 {σ : Nat → Int → Int} : fillS σ 0 = σ := by
  funext a k
  exact if_neg (by omega)
theorem fill_s {σ : Nat → Int → Int} {i : Int} (h : 0 ≤ i) : upI (fillS σ i) 131 i 1 = fillS σ (i + 1) := by
  funext a k
  unfold upI fillS
  by_cases c1 : a = 131 ∧ k = i
  · rw [if_pos c1, if_pos ⟨c1.1, by omega, by omega⟩]
  · rw [if_neg c1]
    by_cases c2 : a = 131 ∧ 0 ≤ k ∧ k < i
    · rw [if_pos c2, if_pos ⟨c2.1, c2.2.1, by omega⟩]
    · rw [if_neg c2, if_neg (by omega)]
def xSlo (σ : Nat → Int → Int) (v : Int) : mX := if 4 ≤ v ∧ v ≤ 12 then (σ 127 0, upI (upI (fillS (upI σ 127 0 v) 24) 127 6 (-1)) 127 10 0, true) else (-3, σ, false)
set_option maxRecDepth 20000 in
theorem c60 {d : Nat} {I : Nat → Int → Int} {P : Int → Nat} {dr : Nat} {σ : Nat → Int → Int} (hC : CRn I σ) {m r g : Int} (b0 : 0 ≤ σ 127 2) (b1 : σ 127 2 < 8) : cal (d + 1) 60 [vr 17, vi m, vi r, vi g] I P dr (fun o h => o = some (vi (σ 127 2)) ∧ h = (S0, upI (upI (upI (upI I (27 + (σ 127 2).toNat) 0 m) (27 + (σ 127 2).toNat) 1 r) (27 + (σ 127 2).toNat) 2 g) 17 3 (σ 127 2 + 1), RR P dr)) := by
  refine cal_in (Nat.le_of_ble_eq_true rfl) ?_
  obtain ⟨cn, ct, cg, cmr, cmf, cmt, cw, cT, cS, cW⟩ := id hC
  show wp _ _ _ _ 0 [vr 17, vi m, vi r, vi g, vj] [] _
  refine s_ald k60_0 rfl ?_
  refine z_getRe (b := 18) k60_1 rfl rr_17_2 ?_
  refine s_ald k60_4 rfl ?_
  refine z_getIe (z := σ 127 2) k60_5 rfl cg ?_
  refine z_aalde (b := 27 + (σ 127 2).toNat) k60_8 rfl (by omega) (show (σ 127 2) < ((8 : Nat) : Int) by omega) (rr_tg (by omega) (by omega)) ?_
  refine s_ast4 k60_9 rfl ?_
  refine s_ald k60_11 rfl ?_
  refine s_ild k60_13 rfl ?_
  refine z_putIe (q := 0) k60_14 (tg_sh (by omega)) rfl ?_
  refine s_ald k60_17 rfl ?_
  refine s_ild k60_19 rfl ?_
  refine z_putIe (q := 1) k60_20 (tg_sh (by omega)) rfl ?_
  refine s_ald k60_23 rfl ?_
  refine s_ild k60_25 rfl ?_
  refine z_putIe (q := 2) k60_26 (tg_sh (by omega)) rfl ?_
  refine s_ald k60_29 rfl ?_
  refine z_dupr k60_30 ?_
  refine z_getIe (z := σ 127 2) k60_31 rfl ((up_ne (by omega)).trans ((up_ne (by omega)).trans ((up_ne (by omega)).trans cg))) ?_
  refine z_push k60_34 ?_
  refine z_iadd k60_35 ?_
  refine z_putIe (q := 3) k60_36 rfl rfl ?_
  refine s_ald k60_39 rfl ?_
  refine z_getIe (z := (σ 127 2) + 1) k60_40 rfl up_at ?_
  refine z_push k60_43 ?_
  refine z_isub k60_44 ?_
  exact z_iret k60_45 ⟨congrArg (fun u => some (vi u)) (by omega), rfl⟩
set_option maxRecDepth 20000 in
theorem k92 {d : Nat} {I : Nat → Int → Int} {P : Int → Nat} {dr : Nat} {σ : Nat → Int → Int} (hG : CG I σ P dr) (hW : WFs σ) {m r g : Int} (i_m : inR m) (i_r : inR r) (i_g : inR g) : cal (d + 2) 92 [vr 16, vi m, vi r, vi g] I P dr (clsQ (xTgt σ m r g) I P dr) := by
  refine cal_in (Nat.le_of_ble_eq_true rfl) ?_
  obtain ⟨hN, hT, hP, hA, hL⟩ := id hW
  have b0 := hN.1
  have b1 := hN.2.1
  have b2 := hN.2.2.1
  have b10 := hN.2.2.2.2.2.2.2.1
  obtain ⟨hC, hCt, hcp, hCl, hca⟩ := id hG
  obtain ⟨cn, ct, cg, cmr, cmf, cmt, cw, cT, cS, cW⟩ := id hC
  show wp _ _ _ _ 0 [vr 16, vi m, vi r, vi g] [] _
  refine s_ild k92_0 rfl ?_
  refine z_push k92_1 ?_
  refine z_push k92_2 ?_
  refine z_sta3A k92_4 (Nat.le_of_ble_eq_true rfl) (c126 i_m (inR_lit rfl) (inR_lit rfl)) ?_
  refine z_ifeqb k92_7 (fun h7 => ?_) (fun h7 => ?_)
  · refine z_push k92_29 ?_
    refine z_iret k92_31 ⟨I, ?_, rfl, ?_⟩
    · unfold xTgt
      rw [if_neg (by omega)]
    · unfold xTgt
      rw [if_neg (by omega)]
      exact ⟨hG, KC.rf⟩
  · refine s_ild k92_10 rfl ?_
    refine z_push k92_11 ?_
    refine z_push k92_12 ?_
    refine z_sta3A k92_14 (Nat.le_of_ble_eq_true rfl) (c126 i_r (inR_lit rfl) (inR_lit rfl)) ?_
    refine z_ifeqb k92_17 (fun h17 => ?_) (fun h17 => ?_)
    · refine z_push k92_29 ?_
      refine z_iret k92_31 ⟨I, ?_, rfl, ?_⟩
      · unfold xTgt
        rw [if_neg (by omega)]
      · unfold xTgt
        rw [if_neg (by omega)]
        exact ⟨hG, KC.rf⟩
    · refine s_ild k92_20 rfl ?_
      refine z_push k92_21 ?_
      refine z_push k92_22 ?_
      refine z_sta3A k92_23 (Nat.le_of_ble_eq_true rfl) (c126 i_g (inR_lit rfl) (inR_lit rfl)) ?_
      refine z_ifneb k92_26 (fun h26 => ?_) (fun h26 => ?_)
      · refine s_ald k92_32 rfl ?_
        refine z_getRe (b := 17) k92_33 rfl rr_16_0 ?_
        refine z_getIe (z := σ 127 2) k92_36 rfl cg ?_
        refine z_push k92_39 ?_
        refine s_iclt k92_41 ⟨by omega, by omega⟩ (inR_lit rfl) (fun h41 => ?_) (fun h41 => ?_)
        · refine s_ald k92_47 rfl ?_
          refine z_getRe (b := 17) k92_48 rfl rr_16_0 ?_
          refine s_ild k92_51 rfl ?_
          refine s_ild k92_52 rfl ?_
          refine s_ild k92_53 rfl ?_
          refine z_inv3 k92_54 rfl (Nat.le_of_ble_eq_true rfl) (c60 hC (by omega) (by omega)) (fun o h1 hq => ?_)
          obtain ⟨rfl, rfl⟩ := hq
          refine z_iret k92_57 ⟨_, ?_, rfl, ?_⟩
          · unfold xTgt
            rw [if_pos (by omega), if_neg (by omega)]
          · unfold xTgt
            rw [if_pos (by omega), if_neg (by omega)]
            dsimp only
            refine ⟨CG.night hP hG ?_ (fun a q _ => (up_ne (by omega)).trans ((up_ne (by omega)).trans ((up_ne (by omega)).trans (up_ne (by omega))))) (fun a q _ => (if_neg (by omega)).trans ((if_neg (by omega)).trans ((if_neg (by omega)).trans (if_neg (by omega))))), ((((KC.rf.up (by omega)).up (by omega)).up (by omega)).up (by omega))⟩
            have f17 : ∀ q, q ≠ 3 → (upI (upI (upI (upI I (27 + (σ 127 2).toNat) 0 m) (27 + (σ 127 2).toNat) 1 r) (27 + (σ 127 2).toNat) 2 g) 17 3 (σ 127 2 + 1)) 17 q = I 17 q := fun q h => (up_nk h).trans ((up_ne (by omega)).trans ((up_ne (by omega)).trans (up_ne (by omega))))
            have fo : ∀ a q, a ≠ 17 → a ≠ (27 + (σ 127 2).toNat) → (upI (upI (upI (upI I (27 + (σ 127 2).toNat) 0 m) (27 + (σ 127 2).toNat) 1 r) (27 + (σ 127 2).toNat) 2 g) 17 3 (σ 127 2 + 1)) a q = I a q := fun a q h h2 => (up_ne h).trans ((up_ne h2).trans ((up_ne h2).trans (up_ne h2)))
            have so : ∀ a q, a ≠ 127 → a ≠ 128 → a ≠ 129 → a ≠ 130 → upI (upI (upI (upI σ 128 (σ 127 2) m) 129 (σ 127 2) r) 130 (σ 127 2) g) 127 2 (σ 127 2 + 1) a q = σ a q := fun a q h1 h2 h3 h4 => (up_ne h1).trans ((up_ne h4).trans ((up_ne h3).trans (up_ne h2)))
            have s7 : ∀ q, q ≠ 2 → upI (upI (upI (upI σ 128 (σ 127 2) m) 129 (σ 127 2) r) 130 (σ 127 2) g) 127 2 (σ 127 2 + 1) 127 q = σ 127 q := fun q h => (up_nk h).trans ((up_ne (by decide)).trans ((up_ne (by decide)).trans (up_ne (by decide))))
            refine ⟨(f17 0 (by decide)).trans (cn.trans (s7 0 (by decide)).symm), (f17 1 (by decide)).trans (ct.trans (s7 1 (by decide)).symm), up_at.trans up_at.symm, (f17 4 (by decide)).trans (cmr.trans (s7 6 (by decide)).symm), (f17 5 (by decide)).trans (cmf.trans (s7 7 (by decide)).symm), (f17 6 (by decide)).trans (cmt.trans (s7 8 (by decide)).symm), (f17 9 (by decide)).trans (cw.trans (s7 10 (by decide)).symm), fun t t0 t1 => ?_, fun k s k0 k1 s0 s1 => ?_, fun w w0 w1 => ?_⟩
            · rw [up_at] at t1
              by_cases c1 : t = σ 127 2
              · rw [c1]
                exact ⟨(up_ne (by omega)).trans ((up_nk (by decide)).trans ((up_nk (by decide)).trans (up_at.trans ((up_ne (by decide)).trans ((up_ne (by decide)).trans ((up_ne (by decide)).trans up_at))).symm))), (up_ne (by omega)).trans ((up_nk (by decide)).trans (up_at.trans ((up_ne (by decide)).trans ((up_ne (by decide)).trans up_at)).symm)), (up_ne (by omega)).trans (up_at.trans ((up_ne (by decide)).trans up_at).symm)⟩
              · obtain ⟨d1, d2, d3⟩ := cT t t0 (by omega)
                exact ⟨(fo _ _ (by omega) (by omega)).trans (d1.trans ((up_ne (by decide)).trans ((up_ne (by decide)).trans ((up_ne (by decide)).trans (up_nk c1)))).symm), (fo _ _ (by omega) (by omega)).trans (d2.trans ((up_ne (by decide)).trans ((up_ne (by decide)).trans ((up_nk c1).trans (up_ne (by decide))))).symm), (fo _ _ (by omega) (by omega)).trans (d3.trans ((up_ne (by decide)).trans ((up_nk c1).trans ((up_ne (by decide)).trans (up_ne (by decide))))).symm)⟩
            · rw [s7 10 (by decide)] at k1
              rw [fo _ _ (by omega) (by omega), so 131 _ (by decide) (by decide) (by decide) (by decide)]
              exact cS k s k0 k1 s0 s1
            · rw [s7 10 (by decide)] at w1
              rw [fo _ _ (by decide) (by omega), so 132 _ (by decide) (by decide) (by decide) (by decide)]
              exact cW w w0 w1
        · refine z_push k92_44 ?_
          refine z_iret k92_46 ⟨I, ?_, rfl, ?_⟩
          · unfold xTgt
            rw [if_pos (by omega), if_pos (by omega)]
          · unfold xTgt
            rw [if_pos (by omega), if_pos (by omega)]
            exact ⟨hG, KC.rf⟩
      · refine z_push k92_29 ?_
        refine z_iret k92_31 ⟨I, ?_, rfl, ?_⟩
        · unfold xTgt
          rw [if_neg (by omega)]
        · unfold xTgt
          rw [if_neg (by omega)]
          exact ⟨hG, KC.rf⟩
set_option maxRecDepth 20000 in
theorem lp141 {d : Nat} {I σ : Nat → Int → Int} {P : Int → Nat} {dr : Nat} {v old : Int} : ∀ (m i : Nat) (J : Nat → Int → Int), (i : Int) + m = 24 → sig J = fillS σ i → (∀ a k, a < 127 → J a k = I a k) → wp (mcall MT CD (d + 1)) (CD 141) L0 (refQ (old, upI (upI (fillS σ 24) 127 6 (-1)) 127 10 0, true) I P dr) 25 [vr 127, vi v, vi old, vi (i : Int)] [] (S0, J, RR P dr) := by
  intro m
  induction m with
  | zero => 
    intro i J hi hs hlo
    refine s_ild k141_25 rfl ?_
    refine z_push k141_26 ?_
    refine s_icge k141_28 ⟨by omega, by omega⟩ (inR_lit rfl) (fun h28 => ?_) (fun q => absurd q (by omega))
    refine s_ald k141_44 rfl ?_
    refine z_push k141_45 ?_
    refine z_putIe (q := 6) k141_46 rfl rfl ?_
    refine s_ald k141_49 rfl ?_
    refine z_push k141_50 ?_
    refine z_putIe (q := 10) k141_51 rfl rfl ?_
    refine s_ild k141_54 rfl ?_
    have hi2 : (i : Int) = 24 := by omega
    rw [hi2] at hs
    refine z_iret k141_55 ⟨_, rfl, rfl, (sig_up rfl).trans (by rw [sig_up rfl, hs]), fun a k hk => (up_ne (by omega)).trans ((up_ne (by omega)).trans (hlo a k hk))⟩
  | succ m ih => 
    intro i J hi hs hlo
    refine s_ild k141_25 rfl ?_
    refine z_push k141_26 ?_
    refine s_icge k141_28 ⟨by omega, by omega⟩ (inR_lit rfl) (fun q => absurd q (by omega)) (fun h28 => ?_)
    refine s_ald k141_31 rfl ?_
    refine z_getRe (b := 131) k141_32 rfl rr_127_9 ?_
    refine s_ild k141_35 rfl ?_
    refine z_push k141_36 ?_
    refine z_iast k141_37 rfl (by omega) (show (i : Int) < ((72 : Nat) : Int) by omega) ?_
    refine s_iinc3 k141_38 rfl ?_
    refine z_goto k141_41 ?_
    refine ih (i + 1) _ (by omega) ?_ (fun a k hk => (up_ne (by omega)).trans (hlo a k hk))
    rw [sig_up rfl, hs, fill_s (by omega)]
    rfl
set_option maxRecDepth 20000 in
theorem r141 {d : Nat} {I : Nat → Int → Int} {P : Int → Nat} {dr : Nat} {σ : Nat → Int → Int} (hs : sig I = σ) (hW : WFs σ) {v : Int} (i_v : inR v) : cal (d + 2) 141 [vr 127, vi v] I P dr (refQ (xSlo σ v) I P dr) := by
  refine cal_in (Nat.le_of_ble_eq_true rfl) ?_
  obtain ⟨hN, hT, hP, hA, hL⟩ := id hW
  have b0 := hN.1
  have b1 := hN.2.1
  have b2 := hN.2.2.1
  have b10 := hN.2.2.2.2.2.2.2.1
  show wp _ _ _ _ 0 [vr 127, vi v, vj, vj] [] _
  refine s_ild k141_0 rfl ?_
  refine z_push k141_1 ?_
  refine z_push k141_2 ?_
  refine z_sta3A k141_4 (Nat.le_of_ble_eq_true rfl) (c136 i_v (inR_lit rfl) (inR_lit rfl)) ?_
  refine z_ifneb k141_7 (fun h7 => ?_) (fun h7 => ?_)
  · refine s_ald k141_13 rfl ?_
    refine z_getIe (z := σ 127 0) k141_14 rfl (st_s hs rfl) ?_
    refine s_ist2 k141_17 rfl ?_
    refine s_ald k141_18 rfl ?_
    refine s_ild k141_19 rfl ?_
    refine z_putIe (q := 0) k141_20 rfl rfl ?_
    refine z_push k141_23 ?_
    refine s_ist3 k141_24 rfl ?_
    unfold xSlo
    rw [if_pos (by omega)]
    exact lp141 24 0 _ (by decide) (by rw [sig_up rfl, hs]; exact fill_0.symm) (fun a k hk => up_ne (by omega))
  · refine z_push k141_10 ?_
    refine z_iret k141_12 ⟨_, ?_, rfl, ?_, fun a k hk => rfl⟩
    · unfold xSlo
      rw [if_neg (by omega)]
    · unfold xSlo
      rw [if_neg (by omega)]
      exact hs
