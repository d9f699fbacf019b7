/-! slots, class -/
set_option maxRecDepth 20000 in
theorem lp56 {d : Nat} {I : Nat → Int → Int} {P : Int → Nat} {dr : Nat} : ∀ (m i : Nat) (J : Nat → Int → Int), (i : Int) + m = 12 → J 17 4 = -1 → (∀ s, 0 ≤ s → s < (i : Int) → J 20 s = 1 ∧ J 21 s = 1) → (∀ a k, ¬ (a = 17 ∧ k = 4) → a ≠ 20 → a ≠ 21 → J a k = I a k) → wp (mcall MT CD (d + 0)) (CD 56) L0 (fun o h => o = none ∧ ∃ J, h = (S0, J, RR P dr) ∧ J 17 4 = -1 ∧ (∀ s, 0 ≤ s → s < 12 → J 20 s = 1 ∧ J 21 s = 1) ∧ ∀ a k, ¬ (a = 17 ∧ k = 4) → a ≠ 20 → a ≠ 21 → J a k = I a k) 7 [vr 17, vi (i : Int)] [] (S0, J, RR P dr) := by
  intro m
  induction m with
  | zero => 
    intro i J hi h4 hz hlo
    refine s_ild k56_7 rfl ?_
    refine z_push k56_8 ?_
    refine s_icge k56_10 ⟨by omega, by omega⟩ (inR_lit rfl) (fun h10 => ?_) (fun q => absurd q (by omega))
    exact z_vret k56_37 ⟨rfl, J, rfl, h4, fun s s0 s1 => hz s s0 (by omega), hlo⟩
  | succ m ih => 
    intro i J hi h4 hz hlo
    refine s_ild k56_7 rfl ?_
    refine z_push k56_8 ?_
    refine s_icge k56_10 ⟨by omega, by omega⟩ (inR_lit rfl) (fun q => absurd q (by omega)) (fun h10 => ?_)
    refine s_ald k56_13 rfl ?_
    refine z_getRe (b := 19) k56_14 rfl rr_17_7 ?_
    refine z_push k56_17 ?_
    refine z_aalde (b := 20) k56_18 rfl (by decide) (by decide) (rr_sk (by decide) (by decide)) ?_
    refine s_ild k56_19 rfl ?_
    refine z_push k56_20 ?_
    refine z_iast k56_21 rfl (by omega) (show (i : Int) < ((12 : Nat) : Int) by omega) ?_
    refine s_ald k56_22 rfl ?_
    refine z_getRe (b := 19) k56_23 rfl rr_17_7 ?_
    refine z_push k56_26 ?_
    refine z_aalde (b := 21) k56_27 rfl (by decide) (by decide) (rr_sk (by decide) (by decide)) ?_
    refine s_ild k56_28 rfl ?_
    refine z_push k56_29 ?_
    refine z_iast k56_30 rfl (by omega) (show (i : Int) < ((12 : Nat) : Int) by omega) ?_
    refine s_iinc1 k56_31 rfl ?_
    refine z_goto k56_34 ?_
    refine ih (i + 1) _ (by omega) ((up_ne (by decide)).trans ((up_ne (by decide)).trans h4)) (fun s s0 s1 => ?_) (fun a k h1 h2 h3 => (up_ne h3).trans ((up_ne h2).trans (hlo a k h1 h2 h3)))
    by_cases c1 : s = i
    · rw [c1]
      exact ⟨(up_ne (by decide)).trans up_at, up_at⟩
    · obtain ⟨q1, q2⟩ := hz s s0 (by omega)
      exact ⟨(up_nk c1).trans ((up_nk c1).trans q1), (up_nk c1).trans ((up_nk c1).trans q2)⟩
set_option maxRecDepth 20000 in
theorem c56 {d : Nat} {I : Nat → Int → Int} {P : Int → Nat} {dr : Nat}  : cal (d + 1) 56 [vr 17] I P dr (fun o h => o = none ∧ ∃ J, h = (S0, J, RR P dr) ∧ J 17 4 = -1 ∧ (∀ s, 0 ≤ s → s < 12 → J 20 s = 1 ∧ J 21 s = 1) ∧ ∀ a k, ¬ (a = 17 ∧ k = 4) → a ≠ 20 → a ≠ 21 → J a k = I a k) := by
  refine cal_in (Nat.le_of_ble_eq_true rfl) ?_
  show wp _ _ _ _ 0 [vr 17, vj] [] _
  refine s_ald k56_0 rfl ?_
  refine z_push k56_1 ?_
  refine z_putIe (q := 4) k56_2 rfl rfl ?_
  refine z_push k56_5 ?_
  refine s_ist1 k56_6 rfl ?_
  exact lp56 12 0 _ (by decide) up_at (fun s s0 s1 => absurd s1 (by omega)) (fun a k h1 _ _ => if_neg h1)
set_option maxRecDepth 20000 in
theorem k91 {d : Nat} {I : Nat → Int → Int} {P : Int → Nat} {dr : Nat} {σ : Nat → Int → Int} (hG : CG I σ P dr) (hW : WFs σ) {v : Int} (i_v : inR v) : cal (d + 2) 91 [vr 16, vi v] I P dr (clsQ (xSlo σ v) I P dr) := by
  refine cal_in (Nat.le_of_ble_eq_true rfl) ?_
  obtain ⟨hN, hT, hP, hA, hL⟩ := id hW
  have b0 := hN.1
  have b1 := hN.2.1
  have b2 := hN.2.2.1
  have b10 := hN.2.2.2.2.2.2.2.1
  obtain ⟨hC, hCt, hcp, hCl, hca⟩ := id hG
  obtain ⟨cn, ct, cg, cmr, cmf, cmt, cw, cT, cS, cW⟩ := id hC
  show wp _ _ _ _ 0 [vr 16, vi v, vj] [] _
  refine s_ild k91_0 rfl ?_
  refine z_push k91_1 ?_
  refine s_iclt k91_2 i_v (inR_lit rfl) (fun h2 => ?_) (fun h2 => ?_)
  · refine z_push k91_11 ?_
    refine z_iret k91_13 ⟨I, ?_, rfl, ?_⟩
    · unfold xSlo
      rw [if_neg (by omega)]
    · unfold xSlo
      rw [if_neg (by omega)]
      exact ⟨hG, KC.rf⟩
  · refine s_ild k91_5 rfl ?_
    refine z_push k91_6 ?_
    refine s_icle k91_8 i_v (inR_lit rfl) (fun h8 => ?_) (fun h8 => ?_)
    · refine s_ald k91_14 rfl ?_
      refine z_getRe (b := 17) k91_15 rfl rr_16_0 ?_
      refine z_getIe (z := σ 127 0) k91_18 rfl cn ?_
      refine s_ist2 k91_21 rfl ?_
      refine s_ald k91_22 rfl ?_
      refine z_getRe (b := 17) k91_23 rfl rr_16_0 ?_
      refine s_ild k91_26 rfl ?_
      refine z_putIe (q := 0) k91_27 rfl rfl ?_
      refine s_ald k91_30 rfl ?_
      refine z_getRe (b := 17) k91_31 rfl rr_16_0 ?_
      refine z_inv0 k91_34 rfl (Nat.le_of_ble_eq_true rfl) (c56) (fun o h1 hq => ?_)
      obtain ⟨rfl, J2, rfl, g4, gz, glo⟩ := hq
      refine s_ald k91_37 rfl ?_
      refine z_getRe (b := 17) k91_38 rfl rr_16_0 ?_
      refine z_push k91_41 ?_
      refine z_putIe (q := 9) k91_42 rfl rfl ?_
      refine s_ald k91_45 rfl ?_
      refine z_getRe (b := 69) k91_46 rfl rr_16_3 ?_
      refine z_inv0 k91_49 rfl (Nat.le_of_ble_eq_true rfl) (c1) (fun o h1 hq => ?_)
      obtain ⟨rfl, rfl⟩ := hq
      refine s_ild k91_52 rfl ?_
      have go : ∀ a k, a ≠ 17 → a ≠ 20 → a ≠ 21 → J2 a k = I a k := fun a k h1 h2 h3 => (glo a k (fun q => h1 q.1) h2 h3).trans (up_ne h1)
      have g17 : ∀ k, k ≠ 4 → k ≠ 0 → J2 17 k = I 17 k := fun k h1 h2 => (glo 17 k (fun q => h1 q.2) (by decide) (by decide)).trans (up_nk h2)
      refine z_iret k91_53 ⟨_, ?_, rfl, ?_⟩
      · unfold xSlo
        rw [if_pos (by omega)]
      · unfold xSlo
        rw [if_pos (by omega)]
        dsimp only
        have so : ∀ a q, a ≠ 127 → a ≠ 131 → (upI (upI (fillS (upI σ 127 0 v) 24) 127 6 (-1)) 127 10 0) a q = σ a q := fun a q h1 h2 => (up_ne h1).trans ((up_ne h1).trans ((if_neg (fun u => h2 u.1)).trans (up_ne h1)))
        have s7 : ∀ q, q ≠ 0 → q ≠ 6 → q ≠ 10 → (upI (upI (fillS (upI σ 127 0 v) 24) 127 6 (-1)) 127 10 0) 127 q = σ 127 q := fun q h1 h2 h3 => (up_nk h3).trans ((up_nk h2).trans ((if_neg (by omega)).trans (up_nk h1)))
        refine ⟨CG.night hP hG ?_ (fun a q _ => (up_ne (by omega)).trans ((up_ne (by omega)).trans (go a q (by omega) (by omega) (by omega)))) (fun a q h => ?_), ⟨fun a k h1 h2 h3 => (if_neg h3).trans ((up_ne (by omega)).trans (go a k (by omega) (by omega) (by omega))), up_at, fun a k h1 => (up_ne (by omega)).trans ((up_ne (by omega)).trans (go a k (by omega) (by omega) (by omega)))⟩⟩
        · have j17 : ∀ q, q ≠ 9 → upI (upI J2 17 9 0) 69 17 0 17 q = J2 17 q := fun q h => (up_ne (by decide)).trans (up_nk h)
          refine ⟨(j17 0 (by decide)).trans ((glo 17 0 (by omega) (by decide) (by decide)).trans up_at), (j17 1 (by decide)).trans ((g17 1 (by decide) (by decide)).trans (ct.trans (s7 1 (by decide) (by decide) (by decide)).symm)), (j17 3 (by decide)).trans ((g17 3 (by decide) (by decide)).trans (cg.trans (s7 2 (by decide) (by decide) (by decide)).symm)), (j17 4 (by decide)).trans g4, (j17 5 (by decide)).trans ((g17 5 (by decide) (by decide)).trans (cmf.trans (s7 7 (by decide) (by decide) (by decide)).symm)), (j17 6 (by decide)).trans ((g17 6 (by decide) (by decide)).trans (cmt.trans (s7 8 (by decide) (by decide) (by decide)).symm)), rfl, fun t t0 t1 => ?_, fun k s k0 k1 s0 s1 => ?_, fun w w0 w1 => ?_⟩
          · rw [s7 2 (by decide) (by decide) (by decide)] at t1
            have jt : ∀ q, upI (upI J2 17 9 0) 69 17 0 (27 + t.toNat) q = I (27 + t.toNat) q := fun q => (up_ne (by omega)).trans ((up_ne (by omega)).trans (go _ _ (by omega) (by omega) (by omega)))
            rw [jt, jt, jt, so 128 _ (by decide) (by decide), so 129 _ (by decide) (by decide), so 130 _ (by decide) (by decide)]
            exact cT t t0 t1
          · rw [up_at] at k1
            have e1 : (upI (upI (fillS (upI σ 127 0 v) 24) 127 6 (-1)) 127 10 0) 131 (12 * k + s) = 1 := (up_ne (by decide)).trans ((up_ne (by decide)).trans (if_pos ⟨rfl, by omega, by omega⟩))
            rw [e1, up_ne (by omega), up_ne (by omega)]
            rcases (show k = 0 ∨ k = 1 by omega) with e | e
            · rw [e]
              exact (gz s s0 s1).1
            · rw [e]
              exact (gz s s0 s1).2
          · rw [up_at] at w1
            exact absurd w1 (by omega)
        · by_cases c1 : a = 127
          · rw [c1]
            exact s7 q (by omega) (by omega) (by omega)
          · exact so a q c1 (by omega)
    · refine z_push k91_11 ?_
      refine z_iret k91_13 ⟨I, ?_, rfl, ?_⟩
      · unfold xSlo
        rw [if_neg (by omega)]
      · unfold xSlo
        rw [if_neg (by omega)]
        exact ⟨hG, KC.rf⟩
