/-! value, rule -/
set_option maxRecDepth 20000 in
theorem lp196 {d : Nat} {I σ : Nat → Int → Int} {P : Int → Nat} {dr : Nat} (hW : WFs σ) {r : Int} (r0 : 0 ≤ r) (r1 : r ≤ 2) : ∀ (m i : Nat) (J : Nat → Int → Int), (i : Int) + m = σ 127 10 → sig J = σ → (∀ a k, a < 127 → J a k = I a k) → J 127 42 = wupS σ r i → J 127 43 = sumS σ 132 i → wp (mcall MT CD (d + 7)) (CD 196) L0 (fun o h => o = none ∧ ∃ J, h = (S0, J, RR P dr) ∧ sig J = σ ∧ (∀ a k, a < 127 → J a k = I a k) ∧ J 127 42 = wupS σ r (σ 127 10).toNat ∧ J 127 43 = sumS σ 132 (σ 127 10).toNat) 12 [vr 127, vi r, vi (i : Int)] [] (S0, J, RR P dr) := by
  intro m
  induction m with
  | zero => 
    intro i J hi hs hlo h42 h43
    obtain ⟨hN, hT, hP, hA, hL⟩ := id hW
    have b0 := hN.1
    have b1 := hN.2.1
    have b2 := hN.2.2.1
    have b10 := hN.2.2.2.2.2.2.2.1
    refine s_ild k196_12 rfl ?_
    refine s_ald k196_13 rfl ?_
    refine z_getIe (z := σ 127 10) k196_14 rfl (st_s hs rfl) ?_
    refine s_icge k196_17 ⟨by omega, by omega⟩ ⟨by omega, by omega⟩ (fun h17 => ?_) (fun q => absurd q (by omega))
    refine z_vret k196_75 ⟨rfl, J, rfl, hs, hlo, ?_, ?_⟩
    · rw [h42, show (σ 127 10).toNat = i by omega]
    · rw [h43, show (σ 127 10).toNat = i by omega]
  | succ m ih => 
    intro i J hi hs hlo h42 h43
    obtain ⟨hN, hT, hP, hA, hL⟩ := id hW
    have b0 := hN.1
    have b1 := hN.2.1
    have b2 := hN.2.2.1
    have b10 := hN.2.2.2.2.2.2.2.1
    refine s_ild k196_12 rfl ?_
    refine s_ald k196_13 rfl ?_
    refine z_getIe (z := σ 127 10) k196_14 rfl (st_s hs rfl) ?_
    refine s_icge k196_17 ⟨by omega, by omega⟩ ⟨by omega, by omega⟩ (fun q => absurd q (by omega)) (fun h17 => ?_)
    have q2 := sc_b (r := r) (w := 2 + (i : Int)) hN hP
    unfold scS at q2
    have q3 := hN.2.2.2.2.2.2.2.2.2 i (by omega) (by omega)
    have q4 := mul_b (a := σ 132 i) (b := (runS σ r (2 + (i : Int)) (σ 127 0).toNat).2.2.2.2) (A := 9) (B := 495) (by omega) (by omega) (by omega) (by omega)
    refine s_ald k196_20 rfl ?_
    refine s_ild k196_21 rfl ?_
    refine z_push k196_22 ?_
    refine s_ild k196_23 rfl ?_
    refine z_iadd k196_24 ?_
    refine s_ald k196_25 rfl ?_
    refine z_getIe (z := σ 127 0) k196_26 rfl (st_s hs rfl) ?_
    refine z_inv3 k196_29 rfl (Nat.le_of_ble_eq_true rfl) (c191 hs hN hP hA (by omega) (by omega) (by omega) (by omega) (by omega) (by omega)) (fun o h1 hq => ?_)
    obtain ⟨rfl, J2, rfl, gF, gR, gS⟩ := hq
    have hs2 : sig J2 = σ := gF.sig.trans hs
    have g42 := (gF 127 42 (by omega) (by omega)).trans h42
    have g43 := (gF 127 43 (by omega) (by omega)).trans h43
    refine s_ald k196_32 rfl ?_
    refine z_dupr k196_33 ?_
    refine z_getLe (z := wupS σ r i) k196_34 rfl g42 ?_
    refine s_ald k196_37 rfl ?_
    refine z_getRe (b := 132) k196_38 rfl rr_127_11 ?_
    refine s_ild k196_41 rfl ?_
    refine z_ialde (z := σ 132 (i : Int)) k196_42 rfl (by omega) (show (i : Int) < ((4 : Nat) : Int) by omega) (st_s hs2 rfl) ?_
    refine s_ald k196_43 rfl ?_
    refine z_getIe (z := (runS σ r (2 + (i : Int)) (σ 127 0).toNat).2.2.2.2) k196_44 rfl gS ?_
    refine z_imul k196_47 ?_
    refine z_i2l k196_48 ⟨by omega, by omega⟩ ?_
    refine z_ladd k196_49 ?_
    refine z_putLe (q := 42) k196_50 rfl rfl ?_
    refine s_ald k196_53 rfl ?_
    refine z_dupr k196_54 ?_
    refine z_getLe (z := sumS σ 132 i) k196_55 rfl ((up_nk (by decide)).trans g43) ?_
    refine s_ald k196_58 rfl ?_
    refine z_getRe (b := 132) k196_59 rfl rr_127_11 ?_
    refine s_ild k196_62 rfl ?_
    refine z_ialde (z := σ 132 (i : Int)) k196_63 rfl (by omega) (show (i : Int) < ((4 : Nat) : Int) by omega) ((up_ne (by decide)).trans (st_s hs2 rfl)) ?_
    refine z_i2l k196_64 ⟨by omega, by omega⟩ ?_
    refine z_ladd k196_65 ?_
    refine z_putLe (q := 43) k196_66 rfl rfl ?_
    refine s_iinc2 k196_69 rfl ?_
    refine z_goto k196_72 ?_
    refine ih (i + 1) _ (by omega) ((sig_no rfl).trans ((sig_no rfl).trans hs2)) (fun a k hk => (up_ne (by omega)).trans ((up_ne (by omega)).trans ((gF a k (by omega) (by omega)).trans (hlo a k hk)))) ((up_nk (by decide)).trans up_at) up_at
set_option maxRecDepth 20000 in
theorem c196 {d : Nat} {I : Nat → Int → Int} {P : Int → Nat} {dr : Nat} {σ : Nat → Int → Int} (hs : sig I = σ) (hW : WFs σ) {r : Int} (r0 : 0 ≤ r) (r1 : r ≤ 2) : cal (d + 8) 196 [vr 127, vi r] I P dr (fun o h => o = none ∧ ∃ J, h = (S0, J, RR P dr) ∧ sig J = σ ∧ (∀ a k, a < 127 → J a k = I a k) ∧ J 127 42 = wupS σ r (σ 127 10).toNat ∧ J 127 43 = sumS σ 132 (σ 127 10).toNat) := by
  refine cal_in (Nat.le_of_ble_eq_true rfl) ?_
  obtain ⟨hN, hT, hP, hA, hL⟩ := id hW
  have b0 := hN.1
  have b1 := hN.2.1
  have b2 := hN.2.2.1
  have b10 := hN.2.2.2.2.2.2.2.1
  show wp _ _ _ _ 0 [vr 127, vi r, vj] [] _
  refine s_ald k196_0 rfl ?_
  refine z_push k196_1 ?_
  refine z_putLe (q := 42) k196_2 rfl rfl ?_
  refine s_ald k196_5 rfl ?_
  refine z_push k196_6 ?_
  refine z_putLe (q := 43) k196_7 rfl rfl ?_
  refine z_push k196_10 ?_
  refine s_ist2 k196_11 rfl ?_
  exact lp196 hW r0 r1 (σ 127 10).toNat 0 _ (by omega) ((sig_no rfl).trans ((sig_no rfl).trans hs)) (fun a k hk => (up_ne (by omega)).trans (up_ne (by omega))) ((up_nk (by decide)).trans up_at) up_at
set_option maxRecDepth 20000 in
theorem lp195 {d : Nat} {I : Nat → Int → Int} {P : Int → Nat} {dr : Nat} {x y v : mV} : ∀ (f : Nat) (a b : Int) (l8 l9 : mV), 0 ≤ a → a ≤ 100000 → 0 ≤ b → b ≤ 100000 → b ≤ f → (vl (euS f a b) = v) → wp (mcall MT CD d) (CD 195) L0 (ans v I P dr) 6 [x, vj, y, vj, vl a, vj, vl b, vj, l8, l9] [] (S0, I, RR P dr) := by
  intro f
  induction f with
  | zero =>
    intro a b l8 l9 a0 a1 b0 b1 bf hv
    refine s_lld k195_6 rfl ?_
    refine z_push k195_8 ?_
    refine z_lcmp k195_9 ⟨by omega, by omega⟩ ⟨by decide, by decide⟩ ?_
    refine z_eqi (b := 0) (by have : b = 0 := by omega
                              rw [this]; rfl) ?_
    refine s_ifeq k195_10 (inR_lit rfl) (fun _ => ?_) (fun q => absurd rfl q)
    refine s_lld k195_31 rfl ?_
    exact z_lret k195_33 ⟨by rw [← hv]; rfl, rfl⟩
  | succ f ih =>
    intro a b l8 l9 a0 a1 b0 b1 bf hv
    refine s_lld k195_6 rfl ?_
    refine z_push k195_8 ?_
    refine z_lcmp k195_9 ⟨by omega, by omega⟩ ⟨by decide, by decide⟩ ?_
    by_cases c1 : b = 0
    · refine z_eqi (b := 0) (by rw [c1]; rfl) ?_
      refine s_ifeq k195_10 (inR_lit rfl) (fun _ => ?_) (fun q => absurd rfl q)
      refine s_lld k195_31 rfl ?_
      exact z_lret k195_33 ⟨by rw [← hv, c1, eu_0], rfl⟩
    · refine z_eqi (b := 1) (by unfold mcmp; rw [if_pos (by omega)]) ?_
      refine s_ifeq k195_10 (inR_lit rfl) (fun q => absurd q (by decide)) (fun _ => ?_)
      have tb := tm_b a0 (show 0 < b by omega)
      refine s_lld k195_13 rfl ?_
      refine s_lld k195_15 rfl ?_
      refine z_lrem k195_17 ⟨by omega, by omega⟩ ⟨by omega, by omega⟩ (by omega) ?_
      refine s_lst8 k195_18 rfl ?_
      refine s_lld k195_20 rfl ?_
      refine s_lst4 k195_22 rfl ?_
      refine s_lld k195_24 rfl ?_
      refine s_lst6 k195_26 rfl ?_
      refine z_goto k195_28 ?_
      exact ih b (a.tmod b) _ _ b0 b1 tb.1 (by omega) (by omega) (by rw [← hv, eu_s c1])
theorem c195 {d : Nat} {I : Nat → Int → Int} {P : Int → Nat} {dr : Nat} {a b : Int} (a0 : 0 ≤ a) (a1 : a ≤ 100000) (b0 : 0 ≤ b) (b1 : b ≤ 64) : cal (d + 1) 195 [vl a, vl b] I P dr (ans (vl (euS 64 a b)) I P dr) := by
  refine cal_in (Nat.le_of_ble_eq_true rfl) ?_
  show wp _ _ _ _ 0 [vl a, vj, vl b, vj, vj, vj, vj, vj, vj, vj] [] _
  refine s_lld k195_0 rfl ?_
  refine s_lst4 k195_1 rfl ?_
  refine s_lld k195_3 rfl ?_
  refine s_lst6 k195_4 rfl ?_
  exact lp195 64 a b _ _ a0 a1 b0 (by omega) (by omega) rfl
set_option maxRecDepth 20000 in
theorem r197 {d : Nat} {I : Nat → Int → Int} {P : Int → Nat} {dr : Nat} {σ : Nat → Int → Int} (hs : sig I = σ) (hW : WFs σ) {r q : Int} (i_r : inR r) (i_q : inR q) : cal (d + 9) 197 [vr 127, vi r, vi q] I P dr (refQ (xVal σ r q) I P dr) := by
  refine cal_in (Nat.le_of_ble_eq_true rfl) ?_
  obtain ⟨hN, hT, hP, hA, hL⟩ := id hW
  have b0 := hN.1
  have b1 := hN.2.1
  have b2 := hN.2.2.1
  have b10 := hN.2.2.2.2.2.2.2.1
  show wp _ _ _ _ 0 [vr 127, vi r, vi q, vj, vj] [] _
  refine s_ild k197_0 rfl ?_
  refine z_push k197_1 ?_
  refine z_push k197_2 ?_
  refine z_sta3A k197_3 (Nat.le_of_ble_eq_true rfl) (c136 i_r (inR_lit rfl) (inR_lit rfl)) ?_
  refine z_ifeqb k197_6 (fun h6 => ?_) (fun h6 => ?_)
  · refine z_push k197_18 ?_
    refine z_iret k197_20 ⟨I, ?_, rfl, hs, fun _ _ _ => rfl⟩
    unfold xVal
    rw [if_neg (by omega)]
  · refine s_ild k197_9 rfl ?_
    refine z_push k197_10 ?_
    refine z_push k197_11 ?_
    refine z_sta3A k197_12 (Nat.le_of_ble_eq_true rfl) (c136 i_q (inR_lit rfl) (inR_lit rfl)) ?_
    refine z_ifneb k197_15 (fun h15 => ?_) (fun h15 => ?_)
    · refine s_ald k197_21 rfl ?_
      refine z_getIe (z := σ 127 10) k197_22 rfl (st_s hs rfl) ?_
      refine s_ifne k197_25 ⟨by omega, by omega⟩ (fun h25 => ?_) (fun h25 => ?_)
      · refine s_ald k197_30 rfl ?_
        refine s_ild k197_31 rfl ?_
        refine z_inv1 k197_32 rfl (Nat.le_of_ble_eq_true rfl) (c196 hs hW (by omega) (by omega)) (fun o h1 hq => ?_)
        obtain ⟨rfl, J2, rfl, hs2, glo, g42, g43⟩ := hq
        have qu := wg_b (r := r) hN hP
        unfold wgS at qu
        have qd := wdn_b hN (σ 127 10).toNat (by omega)
        have qg := eu_pos 64 (wupS σ r (σ 127 10).toNat) (sumS σ 132 (σ 127 10).toNat) (by omega) (by omega) (by omega) (Or.inr (by omega))
        have qh := eu_le 64 (wupS σ r (σ 127 10).toNat) (sumS σ 132 (σ 127 10).toNat) 20000 (by omega) (by omega) (by omega) (by omega)
        refine s_ald k197_35 rfl ?_
        refine z_getLe (z := wupS σ r (σ 127 10).toNat) k197_36 rfl g42 ?_
        refine s_ald k197_39 rfl ?_
        refine z_getLe (z := sumS σ 132 (σ 127 10).toNat) k197_40 rfl g43 ?_
        refine z_sta2A k197_43 (Nat.le_of_ble_eq_true rfl) (c195 (by omega) (by omega) (by omega) (by omega)) ?_
        refine s_lst3 k197_46 rfl ?_
        refine s_ild k197_47 rfl ?_
        refine s_ifne k197_48 i_q (fun h48 => ?_) (fun h48 => ?_)
        · refine s_ald k197_58 rfl ?_
          refine z_getLe (z := sumS σ 132 (σ 127 10).toNat) k197_59 rfl g43 ?_
          refine s_lld k197_62 rfl ?_
          refine z_ldiv k197_63 ⟨by omega, by omega⟩ ⟨by omega, by omega⟩ (by omega) ?_
          refine z_l2i k197_64 ?_
          refine z_iret k197_65 ⟨J2, ?_, rfl, hs2, glo⟩
          unfold xVal
          rw [if_pos (by omega), if_neg (by omega), if_neg (by omega)]
        · refine s_ald k197_51 rfl ?_
          refine z_getLe (z := wupS σ r (σ 127 10).toNat) k197_52 rfl g42 ?_
          refine z_goto k197_55 ?_
          refine s_lld k197_62 rfl ?_
          refine z_ldiv k197_63 ⟨by omega, by omega⟩ ⟨by omega, by omega⟩ (by omega) ?_
          refine z_l2i k197_64 ?_
          refine z_iret k197_65 ⟨J2, ?_, rfl, hs2, glo⟩
          unfold xVal
          rw [if_pos (by omega), if_neg (by omega), if_pos (by omega)]
      · refine z_push k197_28 ?_
        refine z_iret k197_29 ⟨I, ?_, rfl, hs, fun _ _ _ => rfl⟩
        unfold xVal
        rw [if_pos (by omega), if_pos (by omega)]
    · refine z_push k197_18 ?_
      refine z_iret k197_20 ⟨I, ?_, rfl, hs, fun _ _ _ => rfl⟩
      unfold xVal
      rw [if_neg (by omega)]
theorem mc_le {a b : Int} : mcmp a b ≤ 0 ↔ a ≤ b := by
  unfold mcmp
  split
  · omega
  · split <;> omega
theorem mc_R (a b : Int) : inR (mcmp a b) := by
  unfold mcmp inR
  split
  · omega
  · split <;> omega
set_option maxRecDepth 20000 in
theorem lp199 {d : Nat} {I σ : Nat → Int → Int} {P : Int → Nat} {dr : Nat} (hW : WFs σ) (hw : σ 127 10 ≠ 0) : ∀ (m i : Nat) (J : Nat → Int → Int), (i : Int) + m = 3 → sig J = σ → (∀ a k, a < 127 → J a k = I a k) → wp (mcall MT CD (d + 8)) (CD 199) L0 (refQ ((rulS σ 3).1, σ, false) I P dr) 7 [vr 127, vi ((rulS σ i).1), vl ((rulS σ i).2), vj, vi (i : Int)] [] (S0, J, RR P dr) := by
  intro m
  induction m with
  | zero => 
    intro i J hi hs hlo
    obtain ⟨hN, hT, hP, hA, hL⟩ := id hW
    have b0 := hN.1
    have b1 := hN.2.1
    have b2 := hN.2.2.1
    have b10 := hN.2.2.2.2.2.2.2.1
    refine s_ild k199_7 rfl ?_
    refine z_push k199_9 ?_
    refine s_icge k199_10 ⟨by omega, by omega⟩ (inR_lit rfl) (fun h10 => ?_) (fun q => absurd q (by omega))
    refine s_ild k199_71 rfl ?_
    have e : i = 3 := by omega
    subst e
    exact z_iret k199_72 ⟨J, rfl, rfl, hs, hlo⟩
  | succ m ih => 
    intro i J hi hs hlo
    obtain ⟨hN, hT, hP, hA, hL⟩ := id hW
    have b0 := hN.1
    have b1 := hN.2.1
    have b2 := hN.2.2.1
    have b10 := hN.2.2.2.2.2.2.2.1
    refine s_ild k199_7 rfl ?_
    refine z_push k199_9 ?_
    refine s_icge k199_10 ⟨by omega, by omega⟩ (inR_lit rfl) (fun q => absurd q (by omega)) (fun h10 => ?_)
    refine s_ald k199_13 rfl ?_
    refine z_getIe (z := σ 127 10) k199_14 rfl (st_s hs rfl) ?_
    refine s_ifle k199_17 ⟨by omega, by omega⟩ (fun q => absurd q (by omega)) (fun h17 => ?_)
    obtain ⟨q1, q2, q3⟩ := rul_b hN hP i
    have q4 := wg_b (r := (i : Int)) hN hP
    refine s_ald k199_20 rfl ?_
    refine s_ild k199_21 rfl ?_
    refine z_inv1 k199_23 rfl (Nat.le_of_ble_eq_true rfl) (c196 hs hW (by omega) (by omega)) (fun o h1 hq => ?_)
    obtain ⟨rfl, J2, rfl, hs2, glo, g42, g43⟩ := hq
    refine s_ild k199_26 rfl ?_
    refine z_push k199_27 ?_
    refine s_iceq k199_28 ⟨by omega, by omega⟩ (inR_lit rfl) (fun h28 => ?_) (fun h28 => ?_)
    · refine s_ild k199_40 rfl ?_
      refine z_goto k199_42 ?_
      refine s_ist1 k199_46 rfl ?_
      refine s_ald k199_47 rfl ?_
      refine z_getLe (z := wgS σ (i : Int)) k199_48 rfl g42 ?_
      refine s_lld k199_51 rfl ?_
      refine z_lcmp k199_52 ⟨by omega, by omega⟩ ⟨by omega, by omega⟩ ?_
      refine s_ifle k199_53 (mc_R _ _) (fun h53 => ?_) (fun h53 => ?_)
      · refine s_lld k199_63 rfl ?_
        refine s_lst2 k199_64 rfl ?_
        refine s_iinc4 k199_65 rfl ?_
        refine z_goto k199_68 ?_
        have k := ih (i + 1) J2 (by omega) hs2 (fun a k hk => (glo a k hk).trans (hlo a k hk))
        rw [rul_s (k := i), if_pos (by first | exact Or.inl (by omega) | exact Or.inr (by have := mc_le (a := wgS σ (i : Int)) (b := (rulS σ i).2); omega)), if_neg (by have := mc_le (a := wgS σ (i : Int)) (b := (rulS σ i).2); omega)] at k
        exact k
      · refine s_ald k199_56 rfl ?_
        refine z_getLe (z := wgS σ (i : Int)) k199_57 rfl g42 ?_
        refine z_goto k199_60 ?_
        refine s_lst2 k199_64 rfl ?_
        refine s_iinc4 k199_65 rfl ?_
        refine z_goto k199_68 ?_
        have k := ih (i + 1) J2 (by omega) hs2 (fun a k hk => (glo a k hk).trans (hlo a k hk))
        rw [rul_s (k := i), if_pos (by first | exact Or.inl (by omega) | exact Or.inr (by have := mc_le (a := wgS σ (i : Int)) (b := (rulS σ i).2); omega)), if_pos (by have := mc_le (a := wgS σ (i : Int)) (b := (rulS σ i).2); omega)] at k
        exact k
    · refine s_ald k199_31 rfl ?_
      refine z_getLe (z := wgS σ (i : Int)) k199_32 rfl g42 ?_
      refine s_lld k199_35 rfl ?_
      refine z_lcmp k199_36 ⟨by omega, by omega⟩ ⟨by omega, by omega⟩ ?_
      refine s_ifle k199_37 (mc_R _ _) (fun h37 => ?_) (fun h37 => ?_)
      · refine s_ild k199_45 rfl ?_
        refine s_ist1 k199_46 rfl ?_
        refine s_ald k199_47 rfl ?_
        refine z_getLe (z := wgS σ (i : Int)) k199_48 rfl g42 ?_
        refine s_lld k199_51 rfl ?_
        refine z_lcmp k199_52 ⟨by omega, by omega⟩ ⟨by omega, by omega⟩ ?_
        refine s_ifle k199_53 (mc_R _ _) (fun h53 => ?_) (fun h53 => ?_)
        · refine s_lld k199_63 rfl ?_
          refine s_lst2 k199_64 rfl ?_
          refine s_iinc4 k199_65 rfl ?_
          refine z_goto k199_68 ?_
          have k := ih (i + 1) J2 (by omega) hs2 (fun a k hk => (glo a k hk).trans (hlo a k hk))
          rw [rul_s (k := i), if_neg (by have := mc_le (a := wgS σ (i : Int)) (b := (rulS σ i).2); omega), if_neg (by have := mc_le (a := wgS σ (i : Int)) (b := (rulS σ i).2); omega)] at k
          exact k
        · refine s_ald k199_56 rfl ?_
          refine z_getLe (z := wgS σ (i : Int)) k199_57 rfl g42 ?_
          refine z_goto k199_60 ?_
          refine s_lst2 k199_64 rfl ?_
          refine s_iinc4 k199_65 rfl ?_
          refine z_goto k199_68 ?_
          have k := ih (i + 1) J2 (by omega) hs2 (fun a k hk => (glo a k hk).trans (hlo a k hk))
          rw [rul_s (k := i), if_neg (by have := mc_le (a := wgS σ (i : Int)) (b := (rulS σ i).2); omega), if_pos (by have := mc_le (a := wgS σ (i : Int)) (b := (rulS σ i).2); omega)] at k
          exact k
      · refine s_ild k199_40 rfl ?_
        refine z_goto k199_42 ?_
        refine s_ist1 k199_46 rfl ?_
        refine s_ald k199_47 rfl ?_
        refine z_getLe (z := wgS σ (i : Int)) k199_48 rfl g42 ?_
        refine s_lld k199_51 rfl ?_
        refine z_lcmp k199_52 ⟨by omega, by omega⟩ ⟨by omega, by omega⟩ ?_
        refine s_ifle k199_53 (mc_R _ _) (fun h53 => ?_) (fun h53 => ?_)
        · refine s_lld k199_63 rfl ?_
          refine s_lst2 k199_64 rfl ?_
          refine s_iinc4 k199_65 rfl ?_
          refine z_goto k199_68 ?_
          have k := ih (i + 1) J2 (by omega) hs2 (fun a k hk => (glo a k hk).trans (hlo a k hk))
          rw [rul_s (k := i), if_pos (by first | exact Or.inl (by omega) | exact Or.inr (by have := mc_le (a := wgS σ (i : Int)) (b := (rulS σ i).2); omega)), if_neg (by have := mc_le (a := wgS σ (i : Int)) (b := (rulS σ i).2); omega)] at k
          exact k
        · refine s_ald k199_56 rfl ?_
          refine z_getLe (z := wgS σ (i : Int)) k199_57 rfl g42 ?_
          refine z_goto k199_60 ?_
          refine s_lst2 k199_64 rfl ?_
          refine s_iinc4 k199_65 rfl ?_
          refine z_goto k199_68 ?_
          have k := ih (i + 1) J2 (by omega) hs2 (fun a k hk => (glo a k hk).trans (hlo a k hk))
          rw [rul_s (k := i), if_pos (by first | exact Or.inl (by omega) | exact Or.inr (by have := mc_le (a := wgS σ (i : Int)) (b := (rulS σ i).2); omega)), if_pos (by have := mc_le (a := wgS σ (i : Int)) (b := (rulS σ i).2); omega)] at k
          exact k
set_option maxRecDepth 20000 in
theorem r199 {d : Nat} {I : Nat → Int → Int} {P : Int → Nat} {dr : Nat} {σ : Nat → Int → Int} (hs : sig I = σ) (hW : WFs σ) : cal (d + 9) 199 [vr 127] I P dr (refQ (xRul σ) I P dr) := by
  refine cal_in (Nat.le_of_ble_eq_true rfl) ?_
  obtain ⟨hN, hT, hP, hA, hL⟩ := id hW
  have b0 := hN.1
  have b1 := hN.2.1
  have b2 := hN.2.2.1
  have b10 := hN.2.2.2.2.2.2.2.1
  show wp _ _ _ _ 0 [vr 127, vj, vj, vj, vj] [] _
  refine z_push k199_0 ?_
  refine s_ist1 k199_1 rfl ?_
  refine z_push k199_2 ?_
  refine s_lst2 k199_3 rfl ?_
  refine z_push k199_4 ?_
  refine s_ist4 k199_5 rfl ?_
  by_cases hw : σ 127 10 = 0
  · refine s_ild k199_7 rfl ?_
    refine z_push k199_9 ?_
    refine s_icge k199_10 (inR_lit rfl) (inR_lit rfl) (fun q => absurd q (by decide)) (fun _ => ?_)
    refine s_ald k199_13 rfl ?_
    refine z_getIe (z := σ 127 10) k199_14 rfl (st_s hs rfl) ?_
    refine s_ifle k199_17 ⟨by omega, by omega⟩ (fun _ => ?_) (fun q => absurd q (by omega))
    refine s_ild k199_71 rfl ?_
    refine z_iret k199_72 ⟨I, ?_, rfl, hs, fun _ _ _ => rfl⟩
    unfold xRul
    rw [if_pos hw]
  · unfold xRul
    rw [if_neg hw]
    exact lp199 hW hw 3 0 I (by decide) hs (fun _ _ _ => rfl)
set_option maxRecDepth 20000 in
theorem lp131 {d : Nat} {I σ : Nat → Int → Int} {P : Int → Nat} {dr : Nat} (hG0 : CG I σ P dr) (hW : WFs σ) {r : Int} (r0 : 0 ≤ r) (r1 : r ≤ 2) : ∀ (m i : Nat) (J : Nat → Int → Int), (i : Int) + m = σ 127 10 → FC I J → wp (mcall MT CD (d + 6)) (CD 131) L0 (fun o h => ∃ J, o = some (vi (wupS σ r (σ 127 10).toNat)) ∧ h = (S0, J, RR P dr) ∧ FC I J) 4 [vr 16, vi r, vi (wupS σ r i), vi (i : Int)] [] (S0, J, RR P dr) := by
  intro m
  induction m with
  | zero => 
    intro i J hi hF
    obtain ⟨hN, hT, hP, hA, hL⟩ := id hW
    have b0 := hN.1
    have b1 := hN.2.1
    have b2 := hN.2.2.1
    have b10 := hN.2.2.2.2.2.2.2.1
    have hG := hG0.fc hN hP hF
    have bp := hP.1
    obtain ⟨hC, hCt, hcp, hCl, hca⟩ := id hG
    obtain ⟨cn, ct, cg, cmr, cmf, cmt, cw, cT, cS, cW⟩ := id hC
    refine s_ild k131_4 rfl ?_
    refine s_ald k131_5 rfl ?_
    refine z_getRe (b := 17) k131_6 rfl rr_16_0 ?_
    refine z_getIe (z := σ 127 10) k131_9 rfl cw ?_
    refine s_icge k131_12 ⟨by omega, by omega⟩ ⟨by omega, by omega⟩ (fun h12 => ?_) (fun q => absurd q (by omega))
    refine s_ild k131_59 rfl ?_
    refine z_iret k131_60 ⟨J, ?_, rfl, hF⟩
    rw [show (σ 127 10).toNat = i by omega]
  | succ m ih => 
    intro i J hi hF
    obtain ⟨hN, hT, hP, hA, hL⟩ := id hW
    have b0 := hN.1
    have b1 := hN.2.1
    have b2 := hN.2.2.1
    have b10 := hN.2.2.2.2.2.2.2.1
    have hG := hG0.fc hN hP hF
    have bp := hP.1
    obtain ⟨hC, hCt, hcp, hCl, hca⟩ := id hG
    obtain ⟨cn, ct, cg, cmr, cmf, cmt, cw, cT, cS, cW⟩ := id hC
    refine s_ild k131_4 rfl ?_
    refine s_ald k131_5 rfl ?_
    refine z_getRe (b := 17) k131_6 rfl rr_16_0 ?_
    refine z_getIe (z := σ 127 10) k131_9 rfl cw ?_
    refine s_icge k131_12 ⟨by omega, by omega⟩ ⟨by omega, by omega⟩ (fun q => absurd q (by omega)) (fun h12 => ?_)
    refine s_ald k131_15 rfl ?_
    refine z_getRe (b := 118) k131_16 rfl rr_16_4 ?_
    refine s_ild k131_19 rfl ?_
    refine z_push k131_20 ?_
    refine s_ild k131_21 rfl ?_
    refine z_iadd k131_22 ?_
    refine s_ald k131_23 rfl ?_
    refine z_getRe (b := 17) k131_24 rfl rr_16_0 ?_
    refine z_getIe (z := σ 127 0) k131_27 rfl cn ?_
    refine z_inv3 k131_30 rfl (Nat.le_of_ble_eq_true rfl) (c76 hN hP hG.x hA (by omega) (by omega) (by omega) (by omega) (by omega) (by omega)) (fun o h1 hq => ?_)
    obtain ⟨rfl, J2, rfl, gF, gW, gL⟩ := hq
    have hG2 := hG.fc hN hP gF
    have hF2 := hF.trans gF
    have hok := run_OK (rule := r) (wh := 2 + (i : Int)) hP (σ 127 0).toNat (by omega)
    refine s_ild k131_33 rfl ?_
    refine s_ald k131_34 rfl ?_
    refine z_getRe (b := 17) k131_35 rfl rr_16_0 ?_
    refine z_getRe (b := 26) k131_38 rfl rr_17_8 ?_
    refine s_ild k131_41 rfl ?_
    refine z_ialde (z := σ 132 (i : Int)) k131_42 rfl (by omega) (show (i : Int) < ((4 : Nat) : Int) by omega) (hG2.1.2.2.2.2.2.2.2.2.2 i (by omega) (by omega)) ?_
    refine s_ald k131_43 rfl ?_
    refine z_getRe (b := 118) k131_44 rfl rr_16_4 ?_
    refine z_inv0A k131_47 rfl (Nat.le_of_ble_eq_true rfl) (c77s hN hP hG2.x gW hok) ?_
    refine z_imul k131_50 ?_
    refine z_iadd k131_51 ?_
    refine s_ist2 k131_52 rfl ?_
    refine s_iinc3 k131_53 rfl ?_
    refine z_goto k131_56 ?_
    exact ih (i + 1) J2 (by omega) hF2
set_option maxRecDepth 20000 in
theorem c131 {d : Nat} {I : Nat → Int → Int} {P : Int → Nat} {dr : Nat} {σ : Nat → Int → Int} (hG : CG I σ P dr) (hW : WFs σ) {r : Int} (r0 : 0 ≤ r) (r1 : r ≤ 2) : cal (d + 7) 131 [vr 16, vi r] I P dr (fun o h => ∃ J, o = some (vi (wupS σ r (σ 127 10).toNat)) ∧ h = (S0, J, RR P dr) ∧ FC I J) := by
  refine cal_in (Nat.le_of_ble_eq_true rfl) ?_
  obtain ⟨hN, hT, hP, hA, hL⟩ := id hW
  have b0 := hN.1
  have b1 := hN.2.1
  have b2 := hN.2.2.1
  have b10 := hN.2.2.2.2.2.2.2.1
  obtain ⟨hC, hCt, hcp, hCl, hca⟩ := id hG
  obtain ⟨cn, ct, cg, cmr, cmf, cmt, cw, cT, cS, cW⟩ := id hC
  have bp := hP.1
  have hPc : ∀ k, 0 ≤ k → k < 5 → isPl (P k) := hcp.2.1.1
  show wp _ _ _ _ 0 [vr 16, vi r, vj, vj] [] _
  refine z_push k131_0 ?_
  refine s_ist2 k131_1 rfl ?_
  refine z_push k131_2 ?_
  refine s_ist3 k131_3 rfl ?_
  exact lp131 hG hW r0 r1 (σ 127 10).toNat 0 I (by omega) FC.rf
set_option maxRecDepth 20000 in
theorem lp62 {d : Nat} {I σ : Nat → Int → Int} {P : Int → Nat} {dr : Nat} (hC : CRn I σ) (b10 : 0 ≤ σ 127 10 ∧ σ 127 10 ≤ 4) : ∀ (m i : Nat), (i : Int) + m = σ 127 10 → wp (mcall MT CD (d + 0)) (CD 62) L0 (ans (vi (sumS σ 132 (σ 127 10).toNat)) I P dr) 4 [vr 17, vi (sumS σ 132 i), vi (i : Int)] [] (S0, I, RR P dr) := by
  intro m
  induction m with
  | zero => 
    intro i hi
    obtain ⟨cn, ct, cg, cmr, cmf, cmt, cw, cT, cS, cW⟩ := id hC
    refine s_ild k62_4 rfl ?_
    refine s_ald k62_5 rfl ?_
    refine z_getIe (z := σ 127 10) k62_6 rfl cw ?_
    refine s_icge k62_9 ⟨by omega, by omega⟩ ⟨by omega, by omega⟩ (fun h9 => ?_) (fun q => absurd q (by omega))
    refine s_ild k62_27 rfl ?_
    refine z_iret k62_28 (ans_i ?_)
    rw [show (σ 127 10).toNat = i by omega]
  | succ m ih => 
    intro i hi
    obtain ⟨cn, ct, cg, cmr, cmf, cmt, cw, cT, cS, cW⟩ := id hC
    refine s_ild k62_4 rfl ?_
    refine s_ald k62_5 rfl ?_
    refine z_getIe (z := σ 127 10) k62_6 rfl cw ?_
    refine s_icge k62_9 ⟨by omega, by omega⟩ ⟨by omega, by omega⟩ (fun q => absurd q (by omega)) (fun h9 => ?_)
    refine s_ild k62_12 rfl ?_
    refine s_ald k62_13 rfl ?_
    refine z_getRe (b := 26) k62_14 rfl rr_17_8 ?_
    refine s_ild k62_17 rfl ?_
    refine z_ialde (z := σ 132 (i : Int)) k62_18 rfl (by omega) (show (i : Int) < ((4 : Nat) : Int) by omega) (cW i (by omega) (by omega)) ?_
    refine z_iadd k62_19 ?_
    refine s_ist1 k62_20 rfl ?_
    refine s_iinc2 k62_21 rfl ?_
    refine z_goto k62_24 ?_
    exact ih (i + 1) (by omega)
set_option maxRecDepth 20000 in
theorem c62 {d : Nat} {I : Nat → Int → Int} {P : Int → Nat} {dr : Nat} {σ : Nat → Int → Int} (hC : CRn I σ) (b10 : 0 ≤ σ 127 10 ∧ σ 127 10 ≤ 4) : cal (d + 1) 62 [vr 17] I P dr (ans (vi (sumS σ 132 (σ 127 10).toNat)) I P dr) := by
  refine cal_in (Nat.le_of_ble_eq_true rfl) ?_
  obtain ⟨cn, ct, cg, cmr, cmf, cmt, cw, cT, cS, cW⟩ := id hC
  show wp _ _ _ _ 0 [vr 17, vj, vj] [] _
  refine z_push k62_0 ?_
  refine s_ist1 k62_1 rfl ?_
  refine z_push k62_2 ?_
  refine s_ist2 k62_3 rfl ?_
  exact lp62 hC b10 (σ 127 10).toNat 0 (by omega)
set_option maxRecDepth 20000 in
theorem lp130 {d : Nat} {I : Nat → Int → Int} {P : Int → Nat} {dr : Nat} {v : mV} : ∀ (m i : Nat) (a b : Int) (l3 : mV), (i : Int) + m = 64 → 0 ≤ a → a ≤ 100000 → 0 ≤ b → b ≤ 100000 → vi (euS m a b) = v → wp (mcall MT CD (d + 0)) (CD 130) L0 (ans v I P dr) 2 [vi a, vi b, vi (i : Int), l3] [] (S0, I, RR P dr) := by
  intro m
  induction m with
  | zero => 
    intro i a b l3 hi a0 a1 b0 b1 hv
    refine s_ild k130_2 rfl ?_
    refine z_push k130_3 ?_
    refine s_icge k130_5 ⟨by omega, by omega⟩ (inR_lit rfl) (fun h5 => ?_) (fun q => absurd q (by omega))
    refine s_ild k130_26 rfl ?_
    exact z_iret k130_27 ⟨by rw [← hv]; first | rfl | (rw [show b = 0 by omega, eu_0]), rfl⟩
  | succ m ih => 
    intro i a b l3 hi a0 a1 b0 b1 hv
    refine s_ild k130_2 rfl ?_
    refine z_push k130_3 ?_
    refine s_icge k130_5 ⟨by omega, by omega⟩ (inR_lit rfl) (fun q => absurd q (by omega)) (fun h5 => ?_)
    refine s_ild k130_8 rfl ?_
    refine s_ifeq k130_9 ⟨by omega, by omega⟩ (fun h9 => ?_) (fun h9 => ?_)
    · refine s_ild k130_26 rfl ?_
      exact z_iret k130_27 ⟨by rw [← hv]; first | rfl | (rw [show b = 0 by omega, eu_0]), rfl⟩
    · refine s_ild k130_12 rfl ?_
      refine s_ild k130_13 rfl ?_
      refine z_irem k130_14 ⟨by omega, by omega⟩ ⟨by omega, by omega⟩ (by omega) ?_
      refine s_ist3 k130_15 rfl ?_
      refine s_ild k130_16 rfl ?_
      refine s_ist0 k130_17 ?_
      refine s_ild k130_18 rfl ?_
      refine s_ist1 k130_19 rfl ?_
      refine s_iinc2 k130_20 rfl ?_
      refine z_goto k130_23 ?_
      exact ih (i + 1) b (a.tmod b) _ (by omega) b0 b1 (tm_b a0 (by omega)).1 (by have := (tm_b a0 (show 0 < b by omega)).2; omega) (by rw [← hv, eu_s (by omega)])
set_option maxRecDepth 20000 in
theorem c130 {d : Nat} {I : Nat → Int → Int} {P : Int → Nat} {dr : Nat} {a b : Int} (a0 : 0 ≤ a) (a1 : a ≤ 100000) (b0 : 0 ≤ b) (b1 : b ≤ 100000) : cal (d + 1) 130 [vi a, vi b] I P dr (ans (vi (euS 64 a b)) I P dr) := by
  refine cal_in (Nat.le_of_ble_eq_true rfl) ?_
  show wp _ _ _ _ 0 [vi a, vi b, vj, vj] [] _
  refine z_push k130_0 ?_
  refine s_ist2 k130_1 rfl ?_
  exact lp130 64 0 a b _ (by decide) a0 a1 b0 b1 rfl
set_option maxRecDepth 20000 in
theorem k116 {d : Nat} {I : Nat → Int → Int} {P : Int → Nat} {dr : Nat} {σ : Nat → Int → Int} (hG : CG I σ P dr) (hW : WFs σ) {r q : Int} (i_r : inR r) (i_q : inR q) : cal (d + 8) 116 [vr 16, vi r, vi q] I P dr (clsQ (xVal σ r q) I P dr) := by
  refine cal_in (Nat.le_of_ble_eq_true rfl) ?_
  obtain ⟨hN, hT, hP, hA, hL⟩ := id hW
  have b0 := hN.1
  have b1 := hN.2.1
  have b2 := hN.2.2.1
  have b10 := hN.2.2.2.2.2.2.2.1
  obtain ⟨hC, hCt, hcp, hCl, hca⟩ := id hG
  obtain ⟨cn, ct, cg, cmr, cmf, cmt, cw, cT, cS, cW⟩ := id hC
  have bp := hP.1
  have hPc : ∀ k, 0 ≤ k → k < 5 → isPl (P k) := hcp.2.1.1
  show wp _ _ _ _ 0 [vr 16, vi r, vi q, vj, vj, vj] [] _
  refine s_ild k116_0 rfl ?_
  refine z_sta1A k116_1 (Nat.le_of_ble_eq_true rfl) (c127 i_r) ?_
  refine z_ifeqb k116_4 (fun h4 => ?_) (fun h4 => ?_)
  · refine z_push k116_16 ?_
    refine z_iret k116_18 ⟨I, ?_, rfl, hG, KC.rf⟩
    unfold xVal
    rw [if_neg (by omega)]
  · refine s_ild k116_7 rfl ?_
    refine z_push k116_8 ?_
    refine z_push k116_9 ?_
    refine z_sta3A k116_10 (Nat.le_of_ble_eq_true rfl) (c126 i_q (inR_lit rfl) (inR_lit rfl)) ?_
    refine z_ifneb k116_13 (fun h13 => ?_) (fun h13 => ?_)
    · refine s_ald k116_19 rfl ?_
      refine z_getRe (b := 17) k116_20 rfl rr_16_0 ?_
      refine z_getIe (z := σ 127 10) k116_23 rfl cw ?_
      refine s_ifne k116_26 ⟨by omega, by omega⟩ (fun h26 => ?_) (fun h26 => ?_)
      · refine s_ald k116_31 rfl ?_
        refine s_ild k116_32 rfl ?_
        refine z_inv1 k116_33 rfl (Nat.le_of_ble_eq_true rfl) (c131 hG hW (by omega) (by omega)) (fun o h1 hq => ?_)
        obtain ⟨J2, rfl, rfl, gF⟩ := hq
        have hG2 := hG.fc hN hP gF
        have qu := wg_b (r := r) hN hP
        unfold wgS at qu
        have qd := wdn_b hN (σ 127 10).toNat (by omega)
        have qg := eu_pos 64 (wupS σ r (σ 127 10).toNat) (sumS σ 132 (σ 127 10).toNat) (by omega) (by omega) (by omega) (Or.inr (by omega))
        have qh := eu_le 64 (wupS σ r (σ 127 10).toNat) (sumS σ 132 (σ 127 10).toNat) 20000 (by omega) (by omega) (by omega) (by omega)
        refine s_ist3 k116_36 rfl ?_
        refine s_ald k116_37 rfl ?_
        refine z_getRe (b := 17) k116_38 rfl rr_16_0 ?_
        refine z_inv0A k116_41 rfl (Nat.le_of_ble_eq_true rfl) (c62 hG2.1 (by omega)) ?_
        refine s_ist4 k116_44 rfl ?_
        refine s_ild k116_46 rfl ?_
        refine s_ild k116_47 rfl ?_
        refine z_sta2A k116_49 (Nat.le_of_ble_eq_true rfl) (c130 (by omega) (by omega) (by omega) (by omega)) ?_
        refine s_ist5 k116_52 rfl ?_
        refine s_ild k116_54 rfl ?_
        refine s_ifne k116_56 ⟨by omega, by omega⟩ (fun h56 => ?_) (fun q => absurd q (by omega))
        refine s_ild k116_61 rfl ?_
        refine s_ifne k116_62 i_q (fun h62 => ?_) (fun h62 => ?_)
        · refine s_ild k116_69 rfl ?_
          refine s_ild k116_71 rfl ?_
          refine z_idiv k116_73 ⟨by omega, by omega⟩ ⟨by omega, by omega⟩ (by omega) ?_
          refine z_iret k116_74 ⟨J2, ?_, rfl, hG2, KC.fc gF⟩
          unfold xVal
          rw [if_pos (by omega), if_neg (by omega), if_neg (by omega)]
        · refine s_ild k116_65 rfl ?_
          refine z_goto k116_66 ?_
          refine s_ild k116_71 rfl ?_
          refine z_idiv k116_73 ⟨by omega, by omega⟩ ⟨by omega, by omega⟩ (by omega) ?_
          refine z_iret k116_74 ⟨J2, ?_, rfl, hG2, KC.fc gF⟩
          unfold xVal
          rw [if_pos (by omega), if_neg (by omega), if_pos (by omega)]
      · refine z_push k116_29 ?_
        refine z_iret k116_30 ⟨I, ?_, rfl, hG, KC.rf⟩
        unfold xVal
        rw [if_pos (by omega), if_pos (by omega)]
    · refine z_push k116_16 ?_
      refine z_iret k116_18 ⟨I, ?_, rfl, hG, KC.rf⟩
      unfold xVal
      rw [if_neg (by omega)]
set_option maxRecDepth 20000 in
theorem lp118 {d : Nat} {I σ : Nat → Int → Int} {P : Int → Nat} {dr : Nat} (hG0 : CG I σ P dr) (hW : WFs σ) : ∀ (m i : Nat) (J : Nat → Int → Int) (l4 : mV), (i : Int) + m = 2 → FC I J → wp (mcall MT CD (d + 7)) (CD 118) L0 (clsQ ((rulS σ 3).1, σ, false) I P dr) 22 [vr 16, vi ((rulS σ (i + 1)).1), vi ((rulS σ (i + 1)).2), vi ((i : Int) + 1), l4] [] (S0, J, RR P dr) := by
  intro m
  induction m with
  | zero => 
    intro i J l4 hi hF
    obtain ⟨hN, hT, hP, hA, hL⟩ := id hW
    have b0 := hN.1
    have b1 := hN.2.1
    have b2 := hN.2.2.1
    have b10 := hN.2.2.2.2.2.2.2.1
    have hG := hG0.fc hN hP hF
    have bp := hP.1
    obtain ⟨hC, hCt, hcp, hCl, hca⟩ := id hG
    obtain ⟨cn, ct, cg, cmr, cmf, cmt, cw, cT, cS, cW⟩ := id hC
    refine s_ild k118_22 rfl ?_
    refine z_push k118_23 ?_
    refine s_icge k118_24 ⟨by omega, by omega⟩ (inR_lit rfl) (fun h24 => ?_) (fun q => absurd q (by omega))
    refine s_ild k118_51 rfl ?_
    have e : i = 2 := by omega
    subst e
    exact z_iret k118_52 ⟨J, rfl, rfl, hG, KC.fc hF⟩
  | succ m ih => 
    intro i J l4 hi hF
    obtain ⟨hN, hT, hP, hA, hL⟩ := id hW
    have b0 := hN.1
    have b1 := hN.2.1
    have b2 := hN.2.2.1
    have b10 := hN.2.2.2.2.2.2.2.1
    have hG := hG0.fc hN hP hF
    have bp := hP.1
    obtain ⟨hC, hCt, hcp, hCl, hca⟩ := id hG
    obtain ⟨cn, ct, cg, cmr, cmf, cmt, cw, cT, cS, cW⟩ := id hC
    refine s_ild k118_22 rfl ?_
    refine z_push k118_23 ?_
    refine s_icge k118_24 ⟨by omega, by omega⟩ (inR_lit rfl) (fun q => absurd q (by omega)) (fun h24 => ?_)
    obtain ⟨q1, q2, q3⟩ := rul_b hN hP (i + 1)
    have q4 := wg_b (r := (i : Int) + 1) hN hP
    have q5 := q3 (by omega)
    refine s_ald k118_27 rfl ?_
    refine s_ild k118_28 rfl ?_
    refine z_inv1 k118_29 rfl (Nat.le_of_ble_eq_true rfl) (c131 hG hW (by omega) (by omega)) (fun o h1 hq => ?_)
    obtain ⟨J2, rfl, rfl, gF⟩ := hq
    have hF2 := hF.trans gF
    refine z_eqi (b := wgS σ ((i : Int) + 1)) rfl ?_
    refine s_ist4 k118_32 rfl ?_
    refine s_ild k118_34 rfl ?_
    refine s_ild k118_36 rfl ?_
    refine s_icle k118_37 ⟨by omega, by omega⟩ ⟨by omega, by omega⟩ (fun h37 => ?_) (fun h37 => ?_)
    · refine s_iinc3 k118_45 rfl ?_
      refine z_goto k118_48 ?_
      have k := ih (i + 1) J2 (vi (wgS σ ((i : Int) + 1))) (by omega) hF2
      rw [rul_s (k := i + 1), show (((i + 1 : Nat)) : Int) = (i : Int) + 1 from rfl, if_neg (by omega), if_neg (by omega)] at k
      exact k
    · refine s_ild k118_40 rfl ?_
      refine s_ist1 k118_41 rfl ?_
      refine s_ild k118_42 rfl ?_
      refine s_ist2 k118_44 rfl ?_
      refine s_iinc3 k118_45 rfl ?_
      refine z_goto k118_48 ?_
      have k := ih (i + 1) J2 (vi (wgS σ ((i : Int) + 1))) (by omega) hF2
      rw [rul_s (k := i + 1), show (((i + 1 : Nat)) : Int) = (i : Int) + 1 from rfl, if_pos (by omega), if_pos (by omega)] at k
      exact k
set_option maxRecDepth 20000 in
theorem k118 {d : Nat} {I : Nat → Int → Int} {P : Int → Nat} {dr : Nat} {σ : Nat → Int → Int} (hG : CG I σ P dr) (hW : WFs σ) : cal (d + 8) 118 [vr 16] I P dr (clsQ (xRul σ) I P dr) := by
  refine cal_in (Nat.le_of_ble_eq_true rfl) ?_
  obtain ⟨hN, hT, hP, hA, hL⟩ := id hW
  have b0 := hN.1
  have b1 := hN.2.1
  have b2 := hN.2.2.1
  have b10 := hN.2.2.2.2.2.2.2.1
  obtain ⟨hC, hCt, hcp, hCl, hca⟩ := id hG
  obtain ⟨cn, ct, cg, cmr, cmf, cmt, cw, cT, cS, cW⟩ := id hC
  have bp := hP.1
  have hPc : ∀ k, 0 ≤ k → k < 5 → isPl (P k) := hcp.2.1.1
  show wp _ _ _ _ 0 [vr 16, vj, vj, vj, vj] [] _
  refine s_ald k118_0 rfl ?_
  refine z_getRe (b := 17) k118_1 rfl rr_16_0 ?_
  refine z_getIe (z := σ 127 10) k118_4 rfl cw ?_
  refine s_ifne k118_7 ⟨by omega, by omega⟩ (fun h7 => ?_) (fun h7 => ?_)
  · refine z_push k118_12 ?_
    refine s_ist1 k118_13 rfl ?_
    refine s_ald k118_14 rfl ?_
    refine z_push k118_15 ?_
    refine z_inv1 k118_16 rfl (Nat.le_of_ble_eq_true rfl) (c131 hG hW (by omega) (by omega)) (fun o h1 hq => ?_)
    obtain ⟨J2, rfl, rfl, gF⟩ := hq
    refine z_eqi (b := wgS σ 0) rfl ?_
    refine s_ist2 k118_19 rfl ?_
    refine z_push k118_20 ?_
    refine s_ist3 k118_21 rfl ?_
    unfold xRul
    rw [if_neg (by omega)]
    have k := lp118 (d := d) hG hW 2 0 J2 vj (by decide) gF
    rw [show (0 : Nat) + 1 = 1 from rfl, rul_1 hN hP] at k
    exact k
  · refine z_push k118_10 ?_
    refine z_iret k118_11 ⟨I, ?_, rfl, hG, KC.rf⟩
    unfold xRul
    rw [if_pos (by omega)]
