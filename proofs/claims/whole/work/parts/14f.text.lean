/-! the reference reads: fault, stands, plan -/
set_option maxRecDepth 20000 in
theorem lp157i {d : Nat} {I σ : Nat → Int → Int} {P : Int → Nat} {dr : Nat} {R4 : mR4} (b2 : 0 ≤ σ 127 2 ∧ σ 127 2 ≤ 8) {n : Nat} (hn : n ≤ 160) (hend : ¬ plT (σ 133) (σ 127 12).toNat n < (σ 127 12).toNat) (hR : rdS σ (σ 133) (σ 127 12).toNat 163 0 (0, 0, fun _ => -1) = R4) : ∀ (m i : Nat) (J : Nat → Int → Int), (i : Int) + m = 23 → sig J = σ → TA σ J (n + 1) → (∀ q, 0 ≤ q → q < (i : Int) → J 137 q = -1) → (∀ a q, a < 127 → J a q = I a q) → wp (mcall MT CD (d + 3)) (CD 157) L0 (fun o h => ∃ J, o = some (vi (if R4.2.2.2 = true then 1 else 0)) ∧ h = (S0, J, RR P dr) ∧ sig J = σ ∧ (∀ a k, a < 127 → J a k = I a k) ∧ (R4.2.2.2 = true → RDM J R4.2.2.1) ∧ (R4.2.2.2 = false → J 127 18 = R4.1 ∧ J 127 19 = R4.2.1)) 6 [vr 127, vi (i : Int), vj, vj, vj] [] (S0, J, RR P dr) := by
  intro m
  induction m with
  | zero => 
    intro i J hi hs hA hz hlo
    refine s_ild k157_6 rfl ?_
    refine z_push k157_7 ?_
    refine s_icge k157_9 ⟨by omega, by omega⟩ (inR_lit rfl) (fun h9 => ?_) (fun q => absurd q (by omega))
    refine z_push k157_25 ?_
    refine s_ist1 k157_26 rfl ?_
    refine z_push k157_27 ?_
    refine s_ist2 k157_28 rfl ?_
    refine z_push k157_29 ?_
    refine s_ist3 k157_30 rfl ?_
    exact lp157 b2 hn hend 163 0 0 0 (fun _ => -1) J _ (by omega) RWF_0 (fun _ q hq => absurd hq (by omega)) (by omega) hs hA (fun q q0 q1 => hz q q0 (by omega)) hlo hR
  | succ m ih => 
    intro i J hi hs hA hz hlo
    refine s_ild k157_6 rfl ?_
    refine z_push k157_7 ?_
    refine s_icge k157_9 ⟨by omega, by omega⟩ (inR_lit rfl) (fun q => absurd q (by omega)) (fun h9 => ?_)
    refine s_ald k157_12 rfl ?_
    refine z_getRe (b := 137) k157_13 rfl rr_127_20 ?_
    refine s_ild k157_16 rfl ?_
    refine z_push k157_17 ?_
    refine z_iast k157_18 rfl (by omega) (show (i : Int) < ((23 : Nat) : Int) by omega) ?_
    refine s_iinc1 k157_19 rfl ?_
    refine z_goto k157_22 ?_
    exact ih (i + 1) _ (by omega) ((sig_no rfl).trans hs) (hA.up (by decide)) (fun q q0 q1 => by
      by_cases c : q = i
      · rw [c]; exact up_at
      · exact (up_nk c).trans (hz q q0 (by omega))) (fun a q ha => (up_ne (by omega)).trans (hlo a q ha))
set_option maxRecDepth 20000 in
theorem c157 {d : Nat} {I : Nat → Int → Int} {P : Int → Nat} {dr : Nat} {σ : Nat → Int → Int} (hs : sig I = σ) (hT : WFt σ) (b2 : 0 ≤ σ 127 2 ∧ σ 127 2 ≤ 8) : cal (d + 4) 157 [vr 127] I P dr (fun o h => ∃ J, o = some (vi (if (rsS σ).2.2.2 = true then 1 else 0)) ∧ h = (S0, J, RR P dr) ∧ sig J = σ ∧ (∀ a k, a < 127 → J a k = I a k) ∧ ((rsS σ).2.2.2 = true → RDM J (rsS σ).2.2.1) ∧ ((rsS σ).2.2.2 = false → J 127 18 = (rsS σ).1 ∧ J 127 19 = (rsS σ).2.1)) := by
  refine cal_in (Nat.le_of_ble_eq_true rfl) ?_
  show wp _ _ _ _ 0 [vr 127, vj, vj, vj, vj] [] _
  refine s_ald k157_0 rfl ?_
  refine z_inv0 k157_1 rfl (Nat.le_of_ble_eq_true rfl) (c153 hs hT) (fun o h1 hq => ?_)
  obtain ⟨rfl, J2, rfl, hs2, hF, n, hn, hq0, hend, hA⟩ := hq
  refine z_push k157_4 ?_
  refine s_ist1 k157_5 rfl ?_
  exact lp157i b2 hn hend rfl 23 0 J2 (by decide) hs2 hA (fun q q0 q1 => absurd q1 (by omega)) (fun a q ha => hF a q (by omega) (by omega))
def xFau (σ : Nat → Int → Int) : mX := ((rsS σ).1, σ, false)
def xStd (σ : Nat → Int → Int) : mX := ((rsS σ).2.1, σ, false)
/-- the plan that was read is taken in -/
def adI (σ : Nat → Int → Int) (r : Int → Int) (i : Int) : Nat → Int → Int := fun a k => if a = 138 ∧ 23 * σ 127 21 ≤ k ∧ k < 23 * σ 127 21 + i then r (k - 23 * σ 127 21) else σ a k
theorem ad_0 {σ : Nat → Int → Int} {r : Int → Int} : adI σ r 0 = σ := by
  funext a k
  exact if_neg (by omega)
theorem ad_s {σ : Nat → Int → Int} {r : Int → Int} {i : Int} (h : 0 ≤ i) : upI (adI σ r i) 138 (23 * σ 127 21 + i) (r i) = adI σ r (i + 1) := by
  funext a k
  unfold upI adI
  by_cases c1 : a = 138 ∧ k = 23 * σ 127 21 + i
  · rw [if_pos c1, if_pos ⟨c1.1, by omega, by omega⟩, c1.2, show 23 * σ 127 21 + i - 23 * σ 127 21 = i by omega]
  · rw [if_neg c1]
    by_cases c2 : a = 138 ∧ 23 * σ 127 21 ≤ k ∧ k < 23 * σ 127 21 + i
    · rw [if_pos c2, if_pos ⟨c2.1, c2.2.1, by omega⟩]
    · rw [if_neg c2, if_neg (by omega)]
def plnS (σ : Nat → Int → Int) : Nat → Int → Int := upI (upI (adI σ (rsS σ).2.2.1 23) 127 21 (σ 127 21 + 1)) 127 12 0
def xPln (σ : Nat → Int → Int) : mX := if (rsS σ).2.2.2 = true then (if σ 127 21 = 5 then (-5, σ, false) else (σ 127 21, plnS σ, true)) else (-4, σ, false)
set_option maxRecDepth 20000 in
theorem r158 {d : Nat} {I : Nat → Int → Int} {P : Int → Nat} {dr : Nat} {σ : Nat → Int → Int} (hs : sig I = σ) (hW : WFs σ) : cal (d + 5) 158 [vr 127] I P dr (refQ (xFau σ) I P dr) := by
  refine cal_in (Nat.le_of_ble_eq_true rfl) ?_
  obtain ⟨hN, hT, hP, hA, hL⟩ := id hW
  have b0 := hN.1
  have b1 := hN.2.1
  have b2 := hN.2.2.1
  have b10 := hN.2.2.2.2.2.2.2.1
  show wp _ _ _ _ 0 [vr 127] [] _
  refine s_ald k158_0 rfl ?_
  refine z_inv0 k158_1 rfl (Nat.le_of_ble_eq_true rfl) (c157 hs hT b2) (fun o h1 hq => ?_)
  obtain ⟨J2, rfl, rfl, hs2, hlo2, hok, hno⟩ := hq
  rcases Bool.eq_false_or_eq_true (rsS σ).2.2.2 with hb | hb
  · rw [hb]
    show wp _ _ _ _ 4 [vr 127] [vi 1] _
    refine s_ifeq k158_4 (inR_lit rfl) (fun q => absurd q (by decide)) (fun _ => ?_)
    refine z_push k158_7 ?_
    refine z_goto k158_8 ?_
    exact z_iret k158_15 ⟨J2, congrArg (fun u => some (vi u)) (rd_ok _ _ _ hb).1.symm, rfl, hs2, hlo2⟩
  · rw [hb]
    show wp _ _ _ _ 4 [vr 127] [vi 0] _
    refine s_ifeq k158_4 (inR_lit rfl) (fun _ => ?_) (fun q => absurd q (by decide))
    refine s_ald k158_11 rfl ?_
    refine z_getIe (z := (rsS σ).1) k158_12 rfl (hno hb).1 ?_
    exact z_iret k158_15 ⟨J2, rfl, rfl, hs2, hlo2⟩
set_option maxRecDepth 20000 in
theorem r159 {d : Nat} {I : Nat → Int → Int} {P : Int → Nat} {dr : Nat} {σ : Nat → Int → Int} (hs : sig I = σ) (hW : WFs σ) : cal (d + 5) 159 [vr 127] I P dr (refQ (xStd σ) I P dr) := by
  refine cal_in (Nat.le_of_ble_eq_true rfl) ?_
  obtain ⟨hN, hT, hP, hA, hL⟩ := id hW
  have b0 := hN.1
  have b1 := hN.2.1
  have b2 := hN.2.2.1
  have b10 := hN.2.2.2.2.2.2.2.1
  show wp _ _ _ _ 0 [vr 127] [] _
  refine s_ald k159_0 rfl ?_
  refine z_inv0 k159_1 rfl (Nat.le_of_ble_eq_true rfl) (c157 hs hT b2) (fun o h1 hq => ?_)
  obtain ⟨J2, rfl, rfl, hs2, hlo2, hok, hno⟩ := hq
  rcases Bool.eq_false_or_eq_true (rsS σ).2.2.2 with hb | hb
  · rw [hb]
    show wp _ _ _ _ 4 [vr 127] [vi 1] _
    refine s_ifeq k159_4 (inR_lit rfl) (fun q => absurd q (by decide)) (fun _ => ?_)
    refine z_push k159_7 ?_
    refine z_goto k159_8 ?_
    exact z_iret k159_15 ⟨J2, congrArg (fun u => some (vi u)) (rd_ok _ _ _ hb).2.symm, rfl, hs2, hlo2⟩
  · rw [hb]
    show wp _ _ _ _ 4 [vr 127] [vi 0] _
    refine s_ifeq k159_4 (inR_lit rfl) (fun _ => ?_) (fun q => absurd q (by decide))
    refine s_ald k159_11 rfl ?_
    refine z_getIe (z := (rsS σ).2.1) k159_12 rfl (hno hb).2 ?_
    exact z_iret k159_15 ⟨J2, rfl, rfl, hs2, hlo2⟩
set_option maxRecDepth 20000 in
theorem lp160 {d : Nat} {I σ : Nat → Int → Int} {P : Int → Nat} {dr : Nat} (bp : 0 ≤ σ 127 21 ∧ σ 127 21 < 5) : ∀ (m i : Nat) (J : Nat → Int → Int), (i : Int) + m = 23 → sig J = adI σ (rsS σ).2.2.1 i → RDM J (rsS σ).2.2.1 → (∀ a k, a < 127 → J a k = I a k) → wp (mcall MT CD (d + 4)) (CD 160) L0 (refQ (σ 127 21, plnS σ, true) I P dr) 23 [vr 127, vi (i : Int)] [] (S0, J, RR P dr) := by
  intro m
  induction m with
  | zero => 
    intro i J hi hs hr hlo
    have j21 : J 127 21 = σ 127 21 := (st_s rfl rfl).trans ((congrFun (congrFun hs 127) 21).trans (if_neg (by omega)))
    refine s_ild k160_23 rfl ?_
    refine z_push k160_24 ?_
    refine s_icge k160_26 ⟨by omega, by omega⟩ (inR_lit rfl) (fun h26 => ?_) (fun q => absurd q (by omega))
    refine s_ald k160_55 rfl ?_
    refine z_dupr k160_56 ?_
    refine z_getIe (z := σ 127 21) k160_57 rfl j21 ?_
    refine z_push k160_60 ?_
    refine z_iadd k160_61 ?_
    refine z_putIe (q := 21) k160_62 rfl rfl ?_
    refine s_ald k160_65 rfl ?_
    refine z_push k160_66 ?_
    refine z_putIe (q := 12) k160_67 rfl rfl ?_
    refine s_ald k160_70 rfl ?_
    refine z_getIe (z := (σ 127 21) + 1) k160_71 rfl ((up_nk (by decide)).trans up_at) ?_
    refine z_push k160_74 ?_
    refine z_isub k160_75 ?_
    rw [show (i : Int) = 23 by omega] at hs
    refine z_iret k160_76 ⟨_, congrArg (fun u => some (vi u)) (by omega), rfl, ?_, fun a k hk => (up_ne (by omega)).trans ((up_ne (by omega)).trans (hlo a k hk))⟩
    rw [sig_up rfl, sig_up rfl, hs]
    rfl
  | succ m ih => 
    intro i J hi hs hr hlo
    have j21 : J 127 21 = σ 127 21 := (st_s rfl rfl).trans ((congrFun (congrFun hs 127) 21).trans (if_neg (by omega)))
    refine s_ild k160_23 rfl ?_
    refine z_push k160_24 ?_
    refine s_icge k160_26 ⟨by omega, by omega⟩ (inR_lit rfl) (fun q => absurd q (by omega)) (fun h26 => ?_)
    refine s_ald k160_29 rfl ?_
    refine z_getRe (b := 138) k160_30 rfl rr_127_22 ?_
    refine z_push k160_33 ?_
    refine s_ald k160_35 rfl ?_
    refine z_getIe (z := σ 127 21) k160_36 rfl j21 ?_
    refine z_imul k160_39 ?_
    refine s_ild k160_40 rfl ?_
    refine z_iadd k160_41 ?_
    refine s_ald k160_42 rfl ?_
    refine z_getRe (b := 137) k160_43 rfl rr_127_20 ?_
    refine s_ild k160_46 rfl ?_
    refine z_ialde (z := (rsS σ).2.2.1 (i : Int)) k160_47 rfl (by omega) (show (i : Int) < ((23 : Nat) : Int) by omega) (hr _ (by omega) (by omega)) ?_
    refine z_iast k160_48 rfl (by omega) (show ((23 * (σ 127 21)) + (i : Int)) < ((138 : Nat) : Int) by omega) ?_
    refine s_iinc1 k160_49 rfl ?_
    refine z_goto k160_52 ?_
    exact ih (i + 1) _ (by omega) (by rw [sig_up rfl, hs]; exact ad_s (by omega)) (hr.no (by decide)) (fun a k hk => (up_ne (by omega)).trans (hlo a k hk))
set_option maxRecDepth 20000 in
theorem r160 {d : Nat} {I : Nat → Int → Int} {P : Int → Nat} {dr : Nat} {σ : Nat → Int → Int} (hs : sig I = σ) (hW : WFs σ) : cal (d + 5) 160 [vr 127] I P dr (refQ (xPln σ) I P dr) := by
  refine cal_in (Nat.le_of_ble_eq_true rfl) ?_
  obtain ⟨hN, hT, hP, hA, hL⟩ := id hW
  have b0 := hN.1
  have b1 := hN.2.1
  have b2 := hN.2.2.1
  have b10 := hN.2.2.2.2.2.2.2.1
  have bp := hP.1
  show wp _ _ _ _ 0 [vr 127, vj] [] _
  refine s_ald k160_0 rfl ?_
  refine z_inv0 k160_1 rfl (Nat.le_of_ble_eq_true rfl) (c157 hs hT b2) (fun o h1 hq => ?_)
  obtain ⟨J2, rfl, rfl, hs2, hlo2, hok, hno⟩ := hq
  unfold xPln
  rcases Bool.eq_false_or_eq_true (rsS σ).2.2.2 with hb | hb
  · rw [hb]
    rw [if_pos rfl]
    show wp _ _ _ _ 4 [vr 127, vj] [vi 1] _
    refine s_ifne k160_4 (inR_lit rfl) (fun _ => ?_) (fun q => absurd q (by decide))
    refine s_ald k160_10 rfl ?_
    refine z_getIe (z := σ 127 21) k160_11 rfl (st_s hs2 rfl) ?_
    refine z_push k160_14 ?_
    refine s_icne k160_15 ⟨by omega, by omega⟩ (inR_lit rfl) (fun h15 => ?_) (fun h15 => ?_)
    · refine z_push k160_21 ?_
      refine s_ist1 k160_22 rfl ?_
      rw [if_neg (by omega)]
      exact lp160 (by omega) 23 0 J2 (by decide) (by rw [hs2]; exact ad_0.symm) (hok hb) hlo2
    · refine z_push k160_18 ?_
      rw [if_pos (by omega)]
      exact z_iret k160_20 ⟨J2, rfl, rfl, hs2, hlo2⟩
  · rw [hb]
    rw [if_neg (by decide)]
    show wp _ _ _ _ 4 [vr 127, vj] [vi 0] _
    refine s_ifne k160_4 (inR_lit rfl) (fun q => absurd q (by decide)) (fun _ => ?_)
    refine z_push k160_7 ?_
    exact z_iret k160_9 ⟨J2, rfl, rfl, hs2, hlo2⟩
