/-! debts -/
def sumS (σ : Nat → Int → Int) (a : Nat) : Nat → Int
  | 0 => 0
  | k + 1 => sumS σ a k + σ a k
def debS (σ : Nat → Int → Int) (l : Int) : Int := σ 149 l * sumS σ 150 4 - sumS σ 149 4 * σ 150 l
def xDeb (σ : Nat → Int → Int) (l : Int) : mX := (if 0 ≤ l ∧ l ≤ 3 then debS σ l else -2147483648, σ, false)
set_option maxRecDepth 20000 in
theorem lp205 {d : Nat} {I σ : Nat → Int → Int} {P : Int → Nat} {dr : Nat} {l : Int} (hs : sig I = σ) (l0 : 0 ≤ l) (l1 : l ≤ 3) : ∀ (m i : Nat), (i : Int) + m = 4 → wp (mcall MT CD (d + 0)) (CD 205) L0 (ans (vi (debS σ l)) I P dr) 7 [vr 127, vi l, vi (sumS σ 150 i), vi (sumS σ 149 i), vi (i : Int)] [] (S0, I, RR P dr) := by
  intro m
  induction m with
  | zero => 
    intro i hi
    refine s_ild k205_7 rfl ?_
    refine z_push k205_9 ?_
    refine s_icge k205_10 ⟨by omega, by omega⟩ (inR_lit rfl) (fun h10 => ?_) (fun q => absurd q (by omega))
    refine s_ald k205_39 rfl ?_
    refine z_getRe (b := 149) k205_40 rfl rr_127_37 ?_
    refine s_ild k205_43 rfl ?_
    refine z_ialde (z := σ 149 l) k205_44 rfl (by omega) (show l < ((4 : Nat) : Int) by omega) (st_s hs rfl) ?_
    refine s_ild k205_45 rfl ?_
    refine z_imul k205_46 ?_
    refine s_ild k205_47 rfl ?_
    refine s_ald k205_48 rfl ?_
    refine z_getRe (b := 150) k205_49 rfl rr_127_38 ?_
    refine s_ild k205_52 rfl ?_
    refine z_ialde (z := σ 150 l) k205_53 rfl (by omega) (show l < ((8 : Nat) : Int) by omega) (st_s hs rfl) ?_
    refine z_imul k205_54 ?_
    refine z_isub k205_55 ?_
    have e : i = 4 := by omega
    subst e
    exact z_iret k205_56 (ans_i rfl)
  | succ m ih => 
    intro i hi
    refine s_ild k205_7 rfl ?_
    refine z_push k205_9 ?_
    refine s_icge k205_10 ⟨by omega, by omega⟩ (inR_lit rfl) (fun q => absurd q (by omega)) (fun h10 => ?_)
    refine s_ild k205_13 rfl ?_
    refine s_ald k205_14 rfl ?_
    refine z_getRe (b := 150) k205_15 rfl rr_127_38 ?_
    refine s_ild k205_18 rfl ?_
    refine z_ialde (z := σ 150 (i : Int)) k205_20 rfl (by omega) (show (i : Int) < ((8 : Nat) : Int) by omega) (st_s hs rfl) ?_
    refine z_iadd k205_21 ?_
    refine s_ist2 k205_22 rfl ?_
    refine s_ild k205_23 rfl ?_
    refine s_ald k205_24 rfl ?_
    refine z_getRe (b := 149) k205_25 rfl rr_127_37 ?_
    refine s_ild k205_28 rfl ?_
    refine z_ialde (z := σ 149 (i : Int)) k205_30 rfl (by omega) (show (i : Int) < ((4 : Nat) : Int) by omega) (st_s hs rfl) ?_
    refine z_iadd k205_31 ?_
    refine s_ist3 k205_32 rfl ?_
    refine s_iinc4 k205_33 rfl ?_
    refine z_goto k205_36 ?_
    exact ih (i + 1) (by omega)
set_option maxRecDepth 20000 in
theorem c205 {d : Nat} {I : Nat → Int → Int} {P : Int → Nat} {dr : Nat} {σ : Nat → Int → Int} {l : Int} (hs : sig I = σ) (l0 : 0 ≤ l) (l1 : l ≤ 3) : cal (d + 1) 205 [vr 127, vi l] I P dr (ans (vi (debS σ l)) I P dr) := by
  refine cal_in (Nat.le_of_ble_eq_true rfl) ?_
  show wp _ _ _ _ 0 [vr 127, vi l, vj, vj, vj] [] _
  refine z_push k205_0 ?_
  refine s_ist2 k205_1 rfl ?_
  refine z_push k205_2 ?_
  refine s_ist3 k205_3 rfl ?_
  refine z_push k205_4 ?_
  refine s_ist4 k205_5 rfl ?_
  exact lp205 hs l0 l1 4 0 (by decide)
set_option maxRecDepth 20000 in
theorem lp53 {d : Nat} {I σ : Nat → Int → Int} {P : Int → Nat} {dr : Nat} {l : Int} (hCl : CRl I σ) (l0 : 0 ≤ l) (l1 : l ≤ 3) : ∀ (m i : Nat), (i : Int) + m = 4 → wp (mcall MT CD (d + 0)) (CD 53) L0 (ans (vi (debS σ l)) I P dr) 7 [vr 123, vi l, vi (sumS σ 150 i), vi (sumS σ 149 i), vi (i : Int)] [] (S0, I, RR P dr) := by
  intro m
  induction m with
  | zero => 
    intro i hi
    refine s_ild k53_7 rfl ?_
    refine z_push k53_9 ?_
    refine s_icge k53_10 ⟨by omega, by omega⟩ (inR_lit rfl) (fun h10 => ?_) (fun q => absurd q (by omega))
    refine s_ald k53_39 rfl ?_
    refine z_getRe (b := 125) k53_40 rfl rr_123_1 ?_
    refine s_ild k53_43 rfl ?_
    refine z_ialde (z := σ 149 l) k53_44 rfl (by omega) (show l < ((4 : Nat) : Int) by omega) (hCl.1 _ (by omega) (by omega)) ?_
    refine s_ild k53_45 rfl ?_
    refine z_imul k53_46 ?_
    refine s_ild k53_47 rfl ?_
    refine s_ald k53_48 rfl ?_
    refine z_getRe (b := 124) k53_49 rfl rr_123_0 ?_
    refine s_ild k53_52 rfl ?_
    refine z_ialde (z := σ 150 l) k53_53 rfl (by omega) (show l < ((8 : Nat) : Int) by omega) (hCl.2.1 _ (by omega) (by omega)) ?_
    refine z_imul k53_54 ?_
    refine z_isub k53_55 ?_
    have e : i = 4 := by omega
    subst e
    exact z_iret k53_56 (ans_i rfl)
  | succ m ih => 
    intro i hi
    refine s_ild k53_7 rfl ?_
    refine z_push k53_9 ?_
    refine s_icge k53_10 ⟨by omega, by omega⟩ (inR_lit rfl) (fun q => absurd q (by omega)) (fun h10 => ?_)
    refine s_ild k53_13 rfl ?_
    refine s_ald k53_14 rfl ?_
    refine z_getRe (b := 124) k53_15 rfl rr_123_0 ?_
    refine s_ild k53_18 rfl ?_
    refine z_ialde (z := σ 150 (i : Int)) k53_20 rfl (by omega) (show (i : Int) < ((8 : Nat) : Int) by omega) (hCl.2.1 _ (by omega) (by omega)) ?_
    refine z_iadd k53_21 ?_
    refine s_ist2 k53_22 rfl ?_
    refine s_ild k53_23 rfl ?_
    refine s_ald k53_24 rfl ?_
    refine z_getRe (b := 125) k53_25 rfl rr_123_1 ?_
    refine s_ild k53_28 rfl ?_
    refine z_ialde (z := σ 149 (i : Int)) k53_30 rfl (by omega) (show (i : Int) < ((4 : Nat) : Int) by omega) (hCl.1 _ (by omega) (by omega)) ?_
    refine z_iadd k53_31 ?_
    refine s_ist3 k53_32 rfl ?_
    refine s_iinc4 k53_33 rfl ?_
    refine z_goto k53_36 ?_
    exact ih (i + 1) (by omega)
set_option maxRecDepth 20000 in
theorem c53 {d : Nat} {I : Nat → Int → Int} {P : Int → Nat} {dr : Nat} {σ : Nat → Int → Int} {l : Int} (hCl : CRl I σ) (l0 : 0 ≤ l) (l1 : l ≤ 3) : cal (d + 1) 53 [vr 123, vi l] I P dr (ans (vi (debS σ l)) I P dr) := by
  refine cal_in (Nat.le_of_ble_eq_true rfl) ?_
  show wp _ _ _ _ 0 [vr 123, vi l, vj, vj, vj] [] _
  refine z_push k53_0 ?_
  refine s_ist2 k53_1 rfl ?_
  refine z_push k53_2 ?_
  refine s_ist3 k53_3 rfl ?_
  refine z_push k53_4 ?_
  refine s_ist4 k53_5 rfl ?_
  exact lp53 hCl l0 l1 4 0 (by decide)
set_option maxRecDepth 20000 in
theorem r206 {d : Nat} {I : Nat → Int → Int} {P : Int → Nat} {dr : Nat} {σ : Nat → Int → Int} (hs : sig I = σ) (hW : WFs σ) {l : Int} (i_l : inR l) : cal (d + 2) 206 [vr 127, vi l] I P dr (refQ (xDeb σ l) I P dr) := by
  refine cal_in (Nat.le_of_ble_eq_true rfl) ?_
  obtain ⟨hN, hT, hP, hA, hL⟩ := id hW
  have b0 := hN.1
  have b1 := hN.2.1
  have b2 := hN.2.2.1
  have b10 := hN.2.2.2.2.2.2.2.1
  show wp _ _ _ _ 0 [vr 127, vi l] [] _
  refine s_ild k206_0 rfl ?_
  refine z_push k206_1 ?_
  refine z_push k206_2 ?_
  refine z_sta3A k206_3 (Nat.le_of_ble_eq_true rfl) (c136 i_l (inR_lit rfl) (inR_lit rfl)) ?_
  refine z_ifeqb k206_6 (fun h6 => ?_) (fun h6 => ?_)
  · refine z_push k206_17 ?_
    refine z_iret k206_20 ⟨I, ?_, rfl, hs, fun _ _ _ => rfl⟩
    unfold xDeb
    rw [if_neg (by omega)]
  · refine s_ald k206_9 rfl ?_
    refine s_ild k206_10 rfl ?_
    refine z_inv1A k206_11 rfl (Nat.le_of_ble_eq_true rfl) (c205 hs (by omega) (by omega)) ?_
    refine z_goto k206_14 ?_
    refine z_iret k206_20 ⟨I, ?_, rfl, hs, fun _ _ _ => rfl⟩
    unfold xDeb
    rw [if_pos (by omega)]
set_option maxRecDepth 20000 in
theorem k123 {d : Nat} {I : Nat → Int → Int} {P : Int → Nat} {dr : Nat} {σ : Nat → Int → Int} (hG : CG I σ P dr) (hW : WFs σ) {l : Int} (i_l : inR l) : cal (d + 2) 123 [vr 16, vi l] I P dr (clsQ (xDeb σ l) I P dr) := by
  refine cal_in (Nat.le_of_ble_eq_true rfl) ?_
  obtain ⟨hN, hT, hP, hA, hL⟩ := id hW
  have b0 := hN.1
  have b1 := hN.2.1
  have b2 := hN.2.2.1
  have b10 := hN.2.2.2.2.2.2.2.1
  obtain ⟨hC, hCt, hcp, hCl, hca⟩ := id hG
  obtain ⟨cn, ct, cg, cmr, cmf, cmt, cw, cT, cS, cW⟩ := id hC
  show wp _ _ _ _ 0 [vr 16, vi l] [] _
  refine s_ild k123_0 rfl ?_
  refine z_push k123_1 ?_
  refine z_push k123_2 ?_
  refine z_sta3A k123_3 (Nat.le_of_ble_eq_true rfl) (c126 i_l (inR_lit rfl) (inR_lit rfl)) ?_
  refine z_ifeqb k123_6 (fun h6 => ?_) (fun h6 => ?_)
  · refine z_push k123_20 ?_
    refine z_iret k123_23 ⟨I, ?_, rfl, hG, KC.rf⟩
    unfold xDeb
    rw [if_neg (by omega)]
  · refine s_ald k123_9 rfl ?_
    refine z_getRe (b := 123) k123_10 rfl rr_16_5 ?_
    refine s_ild k123_13 rfl ?_
    refine z_inv1A k123_14 rfl (Nat.le_of_ble_eq_true rfl) (c53 hCl (by omega) (by omega)) ?_
    refine z_goto k123_17 ?_
    refine z_iret k123_23 ⟨I, ?_, rfl, hG, KC.rf⟩
    unfold xDeb
    rw [if_pos (by omega)]
