/-! write -/
def bytS (x j : Int) : Int := yand (yshr x (8 * j)) 255
def wrS (σ : Nat → Int → Int) (b x i : Int) : Nat → Int → Int := fun a k => if a = 133 ∧ b ≤ k ∧ k < b + i then bytS x (k - b) else σ a k
theorem wr_0 {σ : Nat → Int → Int} {b x : Int} : wrS σ b x 0 = σ := by
  funext a k
  exact if_neg (by omega)
theorem wr_s {σ : Nat → Int → Int} {b x i : Int} (h : 0 ≤ i) : upI (wrS σ b x i) 133 (b + i) (bytS x i) = wrS σ b x (i + 1) := by
  funext a k
  unfold upI wrS
  by_cases c1 : a = 133 ∧ k = b + i
  · rw [if_pos c1, if_pos ⟨c1.1, by omega, by omega⟩, c1.2, show b + i - b = i by omega]
  · rw [if_neg c1]
    by_cases c2 : a = 133 ∧ b ≤ k ∧ k < b + i
    · rw [if_pos c2, if_pos ⟨c2.1, c2.2.1, by omega⟩]
    · rw [if_neg c2, if_neg (by omega)]
def xWri (σ : Nat → Int → Int) (x n : Int) : mX := if 1 ≤ n ∧ n ≤ 8 then (if σ 127 12 + n ≤ 160 then (σ 127 12 + n, upI (wrS σ (σ 127 12) x n) 127 12 (σ 127 12 + n), false) else (-5, σ, false)) else (-3, σ, false)
set_option maxRecDepth 20000 in
theorem lp150 {d : Nat} {I σ : Nat → Int → Int} {P : Int → Nat} {dr : Nat} {x n : Int} (b0 : 0 ≤ σ 127 12) (n1 : n ≤ 8) (b1 : σ 127 12 + n ≤ 160) : ∀ (m i : Nat) (J : Nat → Int → Int), (i : Int) + m = n → sig J = wrS σ (σ 127 12) x i → (∀ a k, a < 127 → J a k = I a k) → wp (mcall MT CD (d + 1)) (CD 150) L0 (refQ (σ 127 12 + n, upI (wrS σ (σ 127 12) x n) 127 12 (σ 127 12 + n), false) I P dr) 31 [vr 127, vl x, vj, vi n, vi (i : Int)] [] (S0, J, RR P dr) := by
  intro m
  induction m with
  | zero => 
    intro i J hi hs hlo
    have j12 : J 127 12 = σ 127 12 := (st_s rfl rfl).trans ((congrFun (congrFun hs 127) 12).trans (if_neg (by omega)))
    refine s_ild k150_31 rfl ?_
    refine s_ild k150_33 rfl ?_
    refine s_icge k150_34 ⟨by omega, by omega⟩ ⟨by omega, by omega⟩ (fun h34 => ?_) (fun q => absurd q (by omega))
    refine s_ald k150_67 rfl ?_
    refine z_dupr k150_68 ?_
    refine z_getIe (z := σ 127 12) k150_69 rfl j12 ?_
    refine s_ild k150_72 rfl ?_
    refine z_iadd k150_73 ?_
    refine z_putIe (q := 12) k150_74 rfl rfl ?_
    refine s_ald k150_77 rfl ?_
    refine z_getIe (z := (σ 127 12) + n) k150_78 rfl up_at ?_
    rw [show (i : Int) = n by omega] at hs
    refine z_iret k150_81 ⟨_, rfl, rfl, (sig_up rfl).trans (by rw [hs]), fun a k hk => (up_ne (by omega)).trans (hlo a k hk)⟩
  | succ m ih => 
    intro i J hi hs hlo
    have j12 : J 127 12 = σ 127 12 := (st_s rfl rfl).trans ((congrFun (congrFun hs 127) 12).trans (if_neg (by omega)))
    refine s_ild k150_31 rfl ?_
    refine s_ild k150_33 rfl ?_
    refine s_icge k150_34 ⟨by omega, by omega⟩ ⟨by omega, by omega⟩ (fun q => absurd q (by omega)) (fun h34 => ?_)
    refine s_ald k150_37 rfl ?_
    refine z_getRe (b := 133) k150_38 rfl rr_127_13 ?_
    refine s_ald k150_41 rfl ?_
    refine z_getIe (z := σ 127 12) k150_42 rfl j12 ?_
    refine s_ild k150_45 rfl ?_
    refine z_iadd k150_47 ?_
    refine s_lld k150_48 rfl ?_
    refine z_push k150_49 ?_
    refine s_ild k150_51 rfl ?_
    refine z_imul k150_53 ?_
    refine z_lshr k150_54 ?_
    refine z_push k150_55 ?_
    refine z_land k150_58 ?_
    refine z_l2i k150_59 ?_
    refine z_iast k150_60 rfl (by omega) (show ((σ 127 12) + (i : Int)) < ((160 : Nat) : Int) by omega) ?_
    refine s_iinc4 k150_61 rfl ?_
    refine z_goto k150_64 ?_
    refine ih (i + 1) _ (by omega) ?_ (fun a k hk => (up_ne (by omega)).trans (hlo a k hk))
    rw [sig_up rfl, hs]
    exact wr_s (by omega)
set_option maxRecDepth 20000 in
theorem r150 {d : Nat} {I : Nat → Int → Int} {P : Int → Nat} {dr : Nat} {σ : Nat → Int → Int} (hs : sig I = σ) (hW : WFs σ) {x n : Int} (i_n : inR n) : cal (d + 2) 150 [vr 127, vl x, vi n] I P dr (refQ (xWri σ x n) I P dr) := by
  refine cal_in (Nat.le_of_ble_eq_true rfl) ?_
  obtain ⟨hN, hT, hP, hA, hL⟩ := id hW
  have b0 := hN.1
  have b1 := hN.2.1
  have b2 := hN.2.2.1
  have b10 := hN.2.2.2.2.2.2.2.1
  have b12 := hT.1
  show wp _ _ _ _ 0 [vr 127, vl x, vj, vi n, vj] [] _
  refine s_ild k150_0 rfl ?_
  refine z_push k150_1 ?_
  refine z_push k150_2 ?_
  refine z_sta3A k150_4 (Nat.le_of_ble_eq_true rfl) (c136 i_n (inR_lit rfl) (inR_lit rfl)) ?_
  refine z_ifneb k150_7 (fun h7 => ?_) (fun h7 => ?_)
  · refine s_ald k150_13 rfl ?_
    refine z_getIe (z := σ 127 12) k150_14 rfl (st_s hs rfl) ?_
    refine s_ild k150_17 rfl ?_
    refine z_iadd k150_18 ?_
    refine z_push k150_19 ?_
    refine s_icle k150_22 ⟨by omega, by omega⟩ (inR_lit rfl) (fun h22 => ?_) (fun h22 => ?_)
    · refine z_push k150_28 ?_
      refine s_ist4 k150_29 rfl ?_
      unfold xWri
      rw [if_pos (by omega), if_pos (by omega)]
      exact lp150 (by omega) (by omega) (by omega) n.toNat 0 _ (by omega) (by rw [hs]; exact wr_0.symm) (fun a k hk => rfl)
    · refine z_push k150_25 ?_
      refine z_iret k150_27 ⟨_, ?_, rfl, ?_, fun a k hk => rfl⟩
      · unfold xWri
        rw [if_pos (by omega), if_neg (by omega)]
      · unfold xWri
        rw [if_pos (by omega), if_neg (by omega)]
        exact hs
  · refine z_push k150_10 ?_
    refine z_iret k150_12 ⟨_, ?_, rfl, ?_, fun a k hk => rfl⟩
    · unfold xWri
      rw [if_neg (by omega)]
    · unfold xWri
      rw [if_neg (by omega)]
      exact hs
set_option maxRecDepth 20000 in
theorem lp33 {d : Nat} {I : Nat → Int → Int} {P : Int → Nat} {dr : Nat} {x n c0 : Int} (b0 : 0 ≤ c0) (n1 : n ≤ 8) (b1 : c0 + n ≤ 160) : ∀ (m i : Nat) (J : Nat → Int → Int), (i : Int) + m = n → J 35 1 = c0 + (i : Int) → (∀ k, c0 ≤ k → k < c0 + (i : Int) → J 36 k = bytS x (k - c0)) → (∀ a k, ¬ (a = 35 ∧ k = 1) → ¬ (a = 36 ∧ c0 ≤ k) → J a k = I a k) → wp (mcall MT CD (d + 0)) (CD 33) L0 (fun o h => o = none ∧ ∃ J, h = (S0, J, RR P dr) ∧ J 35 1 = c0 + n ∧ (∀ k, c0 ≤ k → k < c0 + n → J 36 k = bytS x (k - c0)) ∧ ∀ a k, ¬ (a = 35 ∧ k = 1) → ¬ (a = 36 ∧ c0 ≤ k) → J a k = I a k) 3 [vr 35, vl x, vj, vi n, vi (i : Int)] [] (S0, J, RR P dr) := by
  intro m
  induction m with
  | zero => 
    intro i J hi j1 hz hlo
    refine s_ild k33_3 rfl ?_
    refine s_ild k33_5 rfl ?_
    refine s_icge k33_6 ⟨by omega, by omega⟩ ⟨by omega, by omega⟩ (fun h6 => ?_) (fun q => absurd q (by omega))
    exact z_vret k33_56 ⟨rfl, J, rfl, j1.trans (by omega), fun k k0 k1 => hz k k0 (by omega), hlo⟩
  | succ m ih => 
    intro i J hi j1 hz hlo
    refine s_ild k33_3 rfl ?_
    refine s_ild k33_5 rfl ?_
    refine s_icge k33_6 ⟨by omega, by omega⟩ ⟨by omega, by omega⟩ (fun q => absurd q (by omega)) (fun h6 => ?_)
    refine s_ald k33_9 rfl ?_
    refine z_getIe (z := (c0 + (i : Int))) k33_10 rfl j1 ?_
    refine z_push k33_13 ?_
    refine s_icge k33_16 ⟨by omega, by omega⟩ (inR_lit rfl) (fun q => absurd q (by omega)) (fun h16 => ?_)
    refine s_ald k33_19 rfl ?_
    refine z_getRe (b := 36) k33_20 rfl rr_35_0 ?_
    refine s_ald k33_23 rfl ?_
    refine z_getIe (z := (c0 + (i : Int))) k33_24 rfl j1 ?_
    refine s_lld k33_27 rfl ?_
    refine z_push k33_28 ?_
    refine s_ild k33_30 rfl ?_
    refine z_imul k33_32 ?_
    refine z_lshr k33_33 ?_
    refine z_push k33_34 ?_
    refine z_land k33_37 ?_
    refine z_l2i k33_38 ?_
    refine z_iast k33_39 rfl (by omega) (show (c0 + (i : Int)) < ((160 : Nat) : Int) by omega) ?_
    refine s_ald k33_40 rfl ?_
    refine z_dupr k33_41 ?_
    refine z_getIe (z := (c0 + (i : Int))) k33_42 rfl ((up_ne (by decide)).trans j1) ?_
    refine z_push k33_45 ?_
    refine z_iadd k33_46 ?_
    refine z_putIe (q := 1) k33_47 rfl rfl ?_
    refine s_iinc4 k33_50 rfl ?_
    refine z_goto k33_53 ?_
    refine ih (i + 1) _ (by omega) (up_at.trans (by omega)) (fun k k0 k1 => ?_) (fun a k h1 h2 => (if_neg h1).trans ((if_neg (by omega)).trans (hlo a k h1 h2)))
    by_cases c1 : k = c0 + i
    · rw [c1, show c0 + (i : Int) - c0 = i by omega]
      exact (up_ne (by decide)).trans up_at
    · exact (up_ne (by decide)).trans ((up_nk c1).trans (hz k k0 (by omega)))
set_option maxRecDepth 20000 in
theorem c33 {d : Nat} {I : Nat → Int → Int} {P : Int → Nat} {dr : Nat} {x n c0 : Int} (h1 : I 35 1 = c0) (b0 : 0 ≤ c0) (n0 : 0 ≤ n) (n1 : n ≤ 8) (b1 : c0 + n ≤ 160) : cal (d + 1) 33 [vr 35, vl x, vi n] I P dr (fun o h => o = none ∧ ∃ J, h = (S0, J, RR P dr) ∧ J 35 1 = c0 + n ∧ (∀ k, c0 ≤ k → k < c0 + n → J 36 k = bytS x (k - c0)) ∧ ∀ a k, ¬ (a = 35 ∧ k = 1) → ¬ (a = 36 ∧ c0 ≤ k) → J a k = I a k) := by
  refine cal_in (Nat.le_of_ble_eq_true rfl) ?_
  show wp _ _ _ _ 0 [vr 35, vl x, vj, vi n, vj] [] _
  refine z_push k33_0 ?_
  refine s_ist4 k33_1 rfl ?_
  exact lp33 b0 n1 b1 n.toNat 0 I (by omega) (h1.trans (by omega)) (fun k k0 k1 => absurd k1 (by omega)) (fun _ _ _ _ => rfl)
set_option maxRecDepth 20000 in
theorem k98 {d : Nat} {I : Nat → Int → Int} {P : Int → Nat} {dr : Nat} {σ : Nat → Int → Int} (hG : CG I σ P dr) (hW : WFs σ) {x n : Int} (i_n : inR n) : cal (d + 2) 98 [vr 16, vl x, vi n] I P dr (clsQ (xWri σ x n) I P dr) := by
  refine cal_in (Nat.le_of_ble_eq_true rfl) ?_
  obtain ⟨hN, hT, hP, hA, hL⟩ := id hW
  have b0 := hN.1
  have b1 := hN.2.1
  have b2 := hN.2.2.1
  have b10 := hN.2.2.2.2.2.2.2.1
  obtain ⟨hC, hCt, hcp, hCl, hca⟩ := id hG
  obtain ⟨cn, ct, cg, cmr, cmf, cmt, cw, cT, cS, cW⟩ := id hC
  have b12 := hT.1
  show wp _ _ _ _ 0 [vr 16, vl x, vj, vi n] [] _
  refine s_ild k98_0 rfl ?_
  refine z_push k98_1 ?_
  refine z_push k98_2 ?_
  refine z_sta3A k98_4 (Nat.le_of_ble_eq_true rfl) (c126 i_n (inR_lit rfl) (inR_lit rfl)) ?_
  refine z_ifneb k98_7 (fun h7 => ?_) (fun h7 => ?_)
  · refine s_ald k98_13 rfl ?_
    refine z_getRe (b := 35) k98_14 rfl rr_16_1 ?_
    refine z_getIe (z := σ 127 12) k98_17 rfl hCt.1 ?_
    refine s_ild k98_20 rfl ?_
    refine z_iadd k98_21 ?_
    refine z_push k98_22 ?_
    refine s_icle k98_25 ⟨by omega, by omega⟩ (inR_lit rfl) (fun h25 => ?_) (fun h25 => ?_)
    · refine s_ald k98_31 rfl ?_
      refine z_getRe (b := 35) k98_32 rfl rr_16_1 ?_
      refine s_lld k98_35 rfl ?_
      refine s_ild k98_36 rfl ?_
      refine z_inv2 k98_37 rfl (Nat.le_of_ble_eq_true rfl) (c33 hCt.1 (by omega) (by omega) (by omega) (by omega)) (fun o h1 hq => ?_)
      obtain ⟨rfl, J2, rfl, g1, gz, glo⟩ := hq
      refine s_ald k98_40 rfl ?_
      refine z_getRe (b := 35) k98_41 rfl rr_16_1 ?_
      refine z_getIe (z := (σ 127 12 + n)) k98_44 rfl g1 ?_
      refine z_iret k98_47 ⟨J2, ?_, rfl, ?_⟩
      · unfold xWri
        rw [if_pos (by omega), if_pos (by omega)]
      · unfold xWri
        rw [if_pos (by omega), if_pos (by omega)]
        dsimp only
        refine ⟨CG.text hN hP hG ⟨g1.trans up_at.symm, fun i i0 i1 => ?_⟩ (fun a q _ => glo a q (by omega) (by omega)) (fun a q h1 h2 => (if_neg h2).trans (if_neg (fun u => h1 u.1))), ⟨fun a k h1 h2 h3 => glo a k (by omega) (by omega), glo 69 17 (by omega) (by omega), fun a k h1 => glo a k (by omega) (by omega)⟩⟩
        rw [up_at] at i1
        by_cases c1 : σ 127 12 ≤ i
        · exact (gz i c1 i1).trans ((up_ne (by decide)).trans (if_pos ⟨rfl, c1, i1⟩)).symm
        · exact (glo 36 i (by omega) (by omega)).trans ((hCt.2 i i0 (by omega)).trans ((up_ne (by decide)).trans (if_neg (by omega))).symm)
    · refine z_push k98_28 ?_
      refine z_iret k98_30 ⟨I, ?_, rfl, ?_⟩
      · unfold xWri
        rw [if_pos (by omega), if_neg (by omega)]
      · unfold xWri
        rw [if_pos (by omega), if_neg (by omega)]
        exact ⟨hG, KC.rf⟩
  · refine z_push k98_10 ?_
    refine z_iret k98_12 ⟨I, ?_, rfl, ?_⟩
    · unfold xWri
      rw [if_neg (by omega)]
    · unfold xWri
      rw [if_neg (by omega)]
      exact ⟨hG, KC.rf⟩
