/-! the class: tokens -/
def ckS (t : Int → Int) (m b : Nat) : Int := if b < m then (if isLe (t b) = true then 0 else if isDi (t b) = true then (if 2 < tkE t m b - b then 4 else 1) else if t b = 58 ∨ t b = 44 then 2 else 4) else 3
theorem up_up {I : Nat → Int → Int} {a : Nat} {k x y : Int} : upI (upI I a k x) a k y = upI I a k y := by
  funext a' k'
  unfold upI
  split <;> rfl
set_option maxRecDepth 20000 in
theorem c38 {d : Nat} {I : Nat → Int → Int} {P : Int → Nat} {dr : Nat} {v : Int} (v0 : 0 ≤ v) (v1 : v ≤ 255) : cal (d + 1) 38 [vi v] I P dr (ans (vi (b2i (97 ≤ v ∧ v ≤ 122))) I P dr) := by
  refine cal_in (Nat.le_of_ble_eq_true rfl) ?_
  show wp _ _ _ _ 0 [vi v] [] _
  refine s_ild k38_0 rfl ?_
  refine z_push k38_1 ?_
  refine s_iclt k38_3 ⟨by omega, by omega⟩ (inR_lit rfl) (fun h3 => ?_) (fun h3 => ?_)
  · refine z_push k38_16 ?_
    exact z_zret k38_17 (Or.inl rfl) (ans_i (b2i_f (by omega)).symm)
  · refine s_ild k38_6 rfl ?_
    refine z_push k38_7 ?_
    refine s_icgt k38_9 ⟨by omega, by omega⟩ (inR_lit rfl) (fun h9 => ?_) (fun h9 => ?_)
    · refine z_push k38_16 ?_
      exact z_zret k38_17 (Or.inl rfl) (ans_i (b2i_f (by omega)).symm)
    · refine z_push k38_12 ?_
      refine z_goto k38_13 ?_
      exact z_zret k38_17 (Or.inr rfl) (ans_i (b2i_t (by omega)).symm)
set_option maxRecDepth 20000 in
theorem c39 {d : Nat} {I : Nat → Int → Int} {P : Int → Nat} {dr : Nat} {v : Int} (v0 : 0 ≤ v) (v1 : v ≤ 255) : cal (d + 1) 39 [vi v] I P dr (ans (vi (b2i (48 ≤ v ∧ v ≤ 57))) I P dr) := by
  refine cal_in (Nat.le_of_ble_eq_true rfl) ?_
  show wp _ _ _ _ 0 [vi v] [] _
  refine s_ild k39_0 rfl ?_
  refine z_push k39_1 ?_
  refine s_iclt k39_3 ⟨by omega, by omega⟩ (inR_lit rfl) (fun h3 => ?_) (fun h3 => ?_)
  · refine z_push k39_16 ?_
    exact z_zret k39_17 (Or.inl rfl) (ans_i (b2i_f (by omega)).symm)
  · refine s_ild k39_6 rfl ?_
    refine z_push k39_7 ?_
    refine s_icgt k39_9 ⟨by omega, by omega⟩ (inR_lit rfl) (fun h9 => ?_) (fun h9 => ?_)
    · refine z_push k39_16 ?_
      exact z_zret k39_17 (Or.inl rfl) (ans_i (b2i_f (by omega)).symm)
    · refine z_push k39_12 ?_
      refine z_goto k39_13 ?_
      exact z_zret k39_17 (Or.inr rfl) (ans_i (b2i_t (by omega)).symm)
set_option maxRecDepth 20000 in
theorem lp36 {d : Nat} {I σ : Nat → Int → Int} {P : Int → Nat} {dr : Nat} {Q : mQ} (hCt : CRt I σ) (hT : WFt σ) {b e : Nat} (hb : b < (σ 127 12).toNat) (he : enS (σ 133) (σ 127 12).toNat isLe b = e) (kx : wp (mcall MT CD (d + 1)) (CD 36) L0 Q 31 [vr 35, vi (e : Int)] [] (S0, I, RR P dr)) : ∀ (g q : Nat), b + q + g = e → wp (mcall MT CD (d + 1)) (CD 36) L0 Q 5 [vr 35, vi ((b + q : Nat) : Int)] [] (S0, I, RR P dr) := by
  have hm := hT.1
  have heb := en_b (t := (σ 133)) (f := isLe) (Nat.le_of_lt hb)
  rw [he] at heb
  intro g
  induction g with
  | zero => 
    intro q hq
    refine s_ild k36_5 rfl ?_
    refine s_ald k36_6 rfl ?_
    refine z_getIe (z := σ 127 12) k36_7 rfl hCt.1 ?_
    refine s_icge k36_10 ⟨by omega, by omega⟩ ⟨by omega, by omega⟩ (fun h10 => ?_) (fun h10 => ?_)
    · rw [show ((b + q : Nat) : Int) = (e : Int) by omega]
      exact kx
    · have hne := en_at (t := (σ 133)) (m := (σ 127 12).toNat) (f := isLe) (Nat.le_of_lt hb) (by rw [he]; omega)
      rw [he, bLf, show (e : Int) = ((b + q : Nat) : Int) by omega] at hne
      have hbt := hT.2 ((b + q : Nat) : Int) (by omega) (by omega)
      refine s_ald k36_13 rfl ?_
      refine z_getRe (b := 36) k36_14 rfl rr_35_0 ?_
      refine s_ild k36_17 rfl ?_
      refine z_ialde (z := σ 133 ((b + q : Nat) : Int)) k36_18 rfl (by omega) (show ((b + q : Nat) : Int) < ((160 : Nat) : Int) by omega) (hCt.2 _ (by omega) (by omega)) ?_
      refine z_sta1A k36_19 (Nat.le_of_ble_eq_true rfl) (c38 (by omega) (by omega)) ?_
      refine z_ifeqb k36_22 (fun h22 => ?_) (fun q => absurd q hne)
      rw [show ((b + q : Nat) : Int) = (e : Int) by omega]
      exact kx
  | succ g ih => 
    intro q hq
    refine s_ild k36_5 rfl ?_
    refine s_ald k36_6 rfl ?_
    refine z_getIe (z := σ 127 12) k36_7 rfl hCt.1 ?_
    refine s_icge k36_10 ⟨by omega, by omega⟩ ⟨by omega, by omega⟩ (fun q => absurd q (by omega)) (fun h10 => ?_)
    have hle := en_all (t := (σ 133)) (m := (σ 127 12).toNat) (f := isLe) (i := b) (q := b + q) (by omega) (by rw [he]; omega)
    rw [bL] at hle
    have hbt := hT.2 ((b + q : Nat) : Int) (by omega) (by omega)
    refine s_ald k36_13 rfl ?_
    refine z_getRe (b := 36) k36_14 rfl rr_35_0 ?_
    refine s_ild k36_17 rfl ?_
    refine z_ialde (z := σ 133 ((b + q : Nat) : Int)) k36_18 rfl (by omega) (show ((b + q : Nat) : Int) < ((160 : Nat) : Int) by omega) (hCt.2 _ (by omega) (by omega)) ?_
    refine z_sta1A k36_19 (Nat.le_of_ble_eq_true rfl) (c38 (by omega) (by omega)) ?_
    refine z_ifeqb k36_22 (fun q => absurd hle q) (fun h22 => ?_)
    refine s_iinc1 k36_25 rfl ?_
    refine z_goto k36_28 ?_
    have k := ih (q + 1) (by omega)
    rw [show ((b + (q + 1) : Nat) : Int) = ((b + q : Nat) : Int) + 1 by omega] at k
    exact k
set_option maxRecDepth 20000 in
theorem lp37 {d : Nat} {I σ : Nat → Int → Int} {P : Int → Nat} {dr : Nat} {Q : mQ} (hCt : CRt I σ) (hT : WFt σ) {b e : Nat} (hb : b < (σ 127 12).toNat) (he : enS (σ 133) (σ 127 12).toNat isDi b = e) (kx : wp (mcall MT CD (d + 1)) (CD 37) L0 Q 57 [vr 35, vi (e : Int)] [] (S0, upI I 35 8 (nuF (frS (σ 133) b) (e - b)), RR P dr)) : ∀ (g q : Nat), b + q + g = e → wp (mcall MT CD (d + 1)) (CD 37) L0 Q 10 [vr 35, vi ((b + q : Nat) : Int)] [] (S0, upI I 35 8 (nuF (frS (σ 133) b) (q)), RR P dr) := by
  have hm := hT.1
  have heb := en_b (t := (σ 133)) (f := isDi) (Nat.le_of_lt hb)
  rw [he] at heb
  intro g
  induction g with
  | zero => 
    intro q hq
    refine s_ild k37_10 rfl ?_
    refine s_ald k37_11 rfl ?_
    refine z_getIe (z := σ 127 12) k37_12 rfl ((up_nk (by decide)).trans hCt.1) ?_
    refine s_icge k37_15 ⟨by omega, by omega⟩ ⟨by omega, by omega⟩ (fun h15 => ?_) (fun h15 => ?_)
    · rw [show ((b + q : Nat) : Int) = (e : Int) by omega, show q = e - b by omega]
      exact kx
    · have hne := en_at (t := (σ 133)) (m := (σ 127 12).toNat) (f := isDi) (Nat.le_of_lt hb) (by rw [he]; omega)
      rw [he, bDf, show (e : Int) = ((b + q : Nat) : Int) by omega] at hne
      have hbt := hT.2 ((b + q : Nat) : Int) (by omega) (by omega)
      refine s_ald k37_18 rfl ?_
      refine z_getRe (b := 36) k37_19 rfl rr_35_0 ?_
      refine s_ild k37_22 rfl ?_
      refine z_ialde (z := σ 133 ((b + q : Nat) : Int)) k37_23 rfl (by omega) (show ((b + q : Nat) : Int) < ((160 : Nat) : Int) by omega) ((up_ne (by decide)).trans (hCt.2 _ (by omega) (by omega))) ?_
      refine z_sta1A k37_24 (Nat.le_of_ble_eq_true rfl) (c39 (by omega) (by omega)) ?_
      refine z_ifeqb k37_27 (fun h27 => ?_) (fun q => absurd q hne)
      rw [show ((b + q : Nat) : Int) = (e : Int) by omega, show q = e - b by omega]
      exact kx
  | succ g ih => 
    intro q hq
    refine s_ild k37_10 rfl ?_
    refine s_ald k37_11 rfl ?_
    refine z_getIe (z := σ 127 12) k37_12 rfl ((up_nk (by decide)).trans hCt.1) ?_
    refine s_icge k37_15 ⟨by omega, by omega⟩ ⟨by omega, by omega⟩ (fun q => absurd q (by omega)) (fun h15 => ?_)
    have hle := en_all (t := (σ 133)) (m := (σ 127 12).toNat) (f := isDi) (i := b) (q := b + q) (by omega) (by rw [he]; omega)
    rw [bD] at hle
    have hbt := hT.2 ((b + q : Nat) : Int) (by omega) (by omega)
    refine s_ald k37_18 rfl ?_
    refine z_getRe (b := 36) k37_19 rfl rr_35_0 ?_
    refine s_ild k37_22 rfl ?_
    refine z_ialde (z := σ 133 ((b + q : Nat) : Int)) k37_23 rfl (by omega) (show ((b + q : Nat) : Int) < ((160 : Nat) : Int) by omega) ((up_ne (by decide)).trans (hCt.2 _ (by omega) (by omega))) ?_
    refine z_sta1A k37_24 (Nat.le_of_ble_eq_true rfl) (c39 (by omega) (by omega)) ?_
    refine z_ifeqb k37_27 (fun q => absurd hle q) (fun h27 => ?_)
    refine s_ald k37_30 rfl ?_
    refine s_ald k37_31 rfl ?_
    refine z_getIe (z := nuF (frS (σ 133) b) q) k37_32 rfl up_at ?_
    refine z_push k37_35 ?_
    refine z_imul k37_37 ?_
    refine s_ald k37_38 rfl ?_
    refine z_getRe (b := 36) k37_39 rfl rr_35_0 ?_
    refine s_ild k37_42 rfl ?_
    refine z_ialde (z := σ 133 ((b + q : Nat) : Int)) k37_43 rfl (by omega) (show ((b + q : Nat) : Int) < ((160 : Nat) : Int) by omega) ((up_ne (by decide)).trans (hCt.2 _ (by omega) (by omega))) ?_
    refine z_iadd k37_44 ?_
    refine z_push k37_45 ?_
    refine z_isub k37_47 ?_
    refine z_putIe (q := 8) k37_48 rfl rfl ?_
    refine s_iinc1 k37_51 rfl ?_
    refine z_goto k37_54 ?_
    have k := ih (q + 1) (by omega)
    rw [show ((b + (q + 1) : Nat) : Int) = ((b + q : Nat) : Int) + 1 by omega] at k
    rw [up_up, show nuF (frS (σ 133) b) q * 10 + σ 133 ((b + q : Nat) : Int) - 48 = nuF (frS (σ 133) b) (q + 1) from by rw [nu_s]; have : frS (σ 133) b q = σ 133 ((b + q : Nat) : Int) := rfl; omega]
    exact k
set_option maxRecDepth 20000 in
theorem lp35 {d : Nat} {I σ : Nat → Int → Int} {P : Int → Nat} {dr : Nat} {Q : mQ} (hCt : CRt I σ) (hT : WFt σ) {b e : Nat} (hb : b ≤ (σ 127 12).toNat) (he : enS (σ 133) (σ 127 12).toNat isBl b = e) (kx : wp (mcall MT CD (d + 2)) (CD 35) L0 Q 30 [vr 35, vi (e : Int)] [] (S0, I, RR P dr)) : ∀ (g q : Nat), b + q + g = e → wp (mcall MT CD (d + 2)) (CD 35) L0 Q 5 [vr 35, vi ((b + q : Nat) : Int)] [] (S0, I, RR P dr) := by
  have hm := hT.1
  have heb := en_b (t := (σ 133)) (f := isBl) (hb)
  rw [he] at heb
  intro g
  induction g with
  | zero => 
    intro q hq
    refine s_ild k35_5 rfl ?_
    refine s_ald k35_6 rfl ?_
    refine z_getIe (z := σ 127 12) k35_7 rfl hCt.1 ?_
    refine s_icge k35_10 ⟨by omega, by omega⟩ ⟨by omega, by omega⟩ (fun h10 => ?_) (fun h10 => ?_)
    · rw [show ((b + q : Nat) : Int) = (e : Int) by omega]
      exact kx
    · have hne := en_at (t := (σ 133)) (m := (σ 127 12).toNat) (f := isBl) (hb) (by rw [he]; omega)
      rw [he, bBf, show (e : Int) = ((b + q : Nat) : Int) by omega] at hne
      have hbt := hT.2 ((b + q : Nat) : Int) (by omega) (by omega)
      refine s_ald k35_13 rfl ?_
      refine z_getRe (b := 36) k35_14 rfl rr_35_0 ?_
      refine s_ild k35_17 rfl ?_
      refine z_ialde (z := σ 133 ((b + q : Nat) : Int)) k35_18 rfl (by omega) (show ((b + q : Nat) : Int) < ((160 : Nat) : Int) by omega) (hCt.2 _ (by omega) (by omega)) ?_
      refine z_push k35_19 ?_
      refine s_icne k35_21 ⟨by omega, by omega⟩ (inR_lit rfl) (fun h21 => ?_) (fun q => absurd q (by omega))
      rw [show ((b + q : Nat) : Int) = (e : Int) by omega]
      exact kx
  | succ g ih => 
    intro q hq
    refine s_ild k35_5 rfl ?_
    refine s_ald k35_6 rfl ?_
    refine z_getIe (z := σ 127 12) k35_7 rfl hCt.1 ?_
    refine s_icge k35_10 ⟨by omega, by omega⟩ ⟨by omega, by omega⟩ (fun q => absurd q (by omega)) (fun h10 => ?_)
    have hle := en_all (t := (σ 133)) (m := (σ 127 12).toNat) (f := isBl) (i := b) (q := b + q) (by omega) (by rw [he]; omega)
    rw [bB] at hle
    have hbt := hT.2 ((b + q : Nat) : Int) (by omega) (by omega)
    refine s_ald k35_13 rfl ?_
    refine z_getRe (b := 36) k35_14 rfl rr_35_0 ?_
    refine s_ild k35_17 rfl ?_
    refine z_ialde (z := σ 133 ((b + q : Nat) : Int)) k35_18 rfl (by omega) (show ((b + q : Nat) : Int) < ((160 : Nat) : Int) by omega) (hCt.2 _ (by omega) (by omega)) ?_
    refine z_push k35_19 ?_
    refine s_icne k35_21 ⟨by omega, by omega⟩ (inR_lit rfl) (fun q => absurd q (by omega)) (fun h21 => ?_)
    refine s_iinc1 k35_24 rfl ?_
    refine z_goto k35_27 ?_
    have k := ih (q + 1) (by omega)
    rw [show ((b + (q + 1) : Nat) : Int) = ((b + q : Nat) : Int) + 1 by omega] at k
    exact k
set_option maxRecDepth 20000 in
theorem c36 {d : Nat} {I : Nat → Int → Int} {P : Int → Nat} {dr : Nat} {σ : Nat → Int → Int} (hCt : CRt I σ) (hT : WFt σ) {b : Nat} (h6 : I 35 6 = (b : Int)) (hb : b < (σ 127 12).toNat) (hl : isLe (σ 133 (b : Int)) = true) : cal (d + 2) 36 [vr 35] I P dr (fun o h => o = none ∧ h = (S0, upI (upI I 35 7 ((tkE (σ 133) (σ 127 12).toNat b : Nat) : Int)) 35 5 0, RR P dr)) := by
  refine cal_in (Nat.le_of_ble_eq_true rfl) ?_
  show wp _ _ _ _ 0 [vr 35, vj] [] _
  refine s_ald k36_0 rfl ?_
  refine z_getIe (z := (b : Int)) k36_1 rfl h6 ?_
  refine s_ist1 k36_4 rfl ?_
  have he : enS (σ 133) (σ 127 12).toNat isLe b = tkE (σ 133) (σ 127 12).toNat b := by unfold tkE; rw [if_pos hl]
  refine lp36 hCt hT hb he ?_ (tkE (σ 133) (σ 127 12).toNat b - b) 0 (by have := tk_b (t := (σ 133)) hb; omega)
  refine s_ald k36_31 rfl ?_
  refine s_ild k36_32 rfl ?_
  refine z_putIe (q := 7) k36_33 rfl rfl ?_
  refine s_ald k36_36 rfl ?_
  refine z_push k36_37 ?_
  refine z_putIe (q := 5) k36_38 rfl rfl ?_
  exact z_vret k36_41 ⟨rfl, rfl⟩
set_option maxRecDepth 20000 in
theorem c37 {d : Nat} {I : Nat → Int → Int} {P : Int → Nat} {dr : Nat} {σ : Nat → Int → Int} (hCt : CRt I σ) (hT : WFt σ) {b : Nat} (h6 : I 35 6 = (b : Int)) (hb : b < (σ 127 12).toNat) (hl : isLe (σ 133 (b : Int)) = false) (hd : isDi (σ 133 (b : Int)) = true) : cal (d + 2) 37 [vr 35] I P dr (fun o h => o = none ∧ h = (S0, upI (upI (upI I 35 8 (nuF (frS (σ 133) b) (tkE (σ 133) (σ 127 12).toNat b - b))) 35 7 ((tkE (σ 133) (σ 127 12).toNat b : Nat) : Int)) 35 5 (if 2 < tkE (σ 133) (σ 127 12).toNat b - b then 4 else 1), RR P dr)) := by
  refine cal_in (Nat.le_of_ble_eq_true rfl) ?_
  show wp _ _ _ _ 0 [vr 35, vj] [] _
  refine s_ald k37_0 rfl ?_
  refine z_getIe (z := (b : Int)) k37_1 rfl h6 ?_
  refine s_ist1 k37_4 rfl ?_
  refine s_ald k37_5 rfl ?_
  refine z_push k37_6 ?_
  refine z_putIe (q := 8) k37_7 rfl rfl ?_
  have he : enS (σ 133) (σ 127 12).toNat isDi b = tkE (σ 133) (σ 127 12).toNat b := by unfold tkE; rw [if_neg (by rw [hl]; decide), if_pos hd]
  refine lp37 hCt hT hb he ?_ (tkE (σ 133) (σ 127 12).toNat b - b) 0 (by have := tk_b (t := (σ 133)) hb; omega)
  have htb := tk_b (t := (σ 133)) hb
  have hm := hT.1
  refine s_ald k37_57 rfl ?_
  refine s_ild k37_58 rfl ?_
  refine z_putIe (q := 7) k37_59 rfl rfl ?_
  refine s_ald k37_62 rfl ?_
  refine s_ild k37_63 rfl ?_
  refine s_ald k37_64 rfl ?_
  refine z_getIe (z := (b : Int)) k37_65 rfl ((up_nk (by decide)).trans ((up_nk (by decide)).trans h6)) ?_
  refine z_isub k37_68 ?_
  refine z_push k37_69 ?_
  refine s_icle k37_70 ⟨by omega, by omega⟩ (inR_lit rfl) (fun h70 => ?_) (fun h70 => ?_)
  · refine z_push k37_77 ?_
    refine z_putIe (q := 5) k37_78 rfl rfl ?_
    refine z_vret k37_81 ⟨rfl, ?_⟩
    rw [if_neg (by omega)]
  · refine z_push k37_73 ?_
    refine z_goto k37_74 ?_
    refine z_putIe (q := 5) k37_78 rfl rfl ?_
    refine z_vret k37_81 ⟨rfl, ?_⟩
    rw [if_pos (by omega)]
theorem CRt.k {I J σ : Nat → Int → Int} (h : CRt I σ) (h1 : J 35 1 = I 35 1) (h2 : ∀ q, J 36 q = I 36 q) : CRt J σ := ⟨h1.trans h.1, fun i i0 i1 => (h2 i).trans (h.2 i i0 i1)⟩
set_option maxRecDepth 20000 in
theorem c35 {d : Nat} {I : Nat → Int → Int} {P : Int → Nat} {dr : Nat} {σ : Nat → Int → Int} (hCt : CRt I σ) (hT : WFt σ) {i e : Nat} (h7 : I 35 7 = (i : Int)) (hi : i ≤ (σ 127 12).toNat) (he : enS (σ 133) (σ 127 12).toNat isBl i = e) : cal (d + 3) 35 [vr 35] I P dr (fun o h => o = none ∧ ∃ J, h = (S0, J, RR P dr) ∧ (∀ a q, ¬ (a = 35 ∧ 5 ≤ q ∧ q ≤ 8) → J a q = I a q) ∧ J 35 6 = (e : Int) ∧ J 35 7 = ((if e < (σ 127 12).toNat then tkE (σ 133) (σ 127 12).toNat e else (σ 127 12).toNat : Nat) : Int) ∧ J 35 5 = ckS (σ 133) (σ 127 12).toNat e ∧ (J 35 5 = 1 → J 35 8 = vlS (σ 133) (σ 127 12).toNat e)) := by
  refine cal_in (Nat.le_of_ble_eq_true rfl) ?_
  show wp _ _ _ _ 0 [vr 35, vj] [] _
  refine s_ald k35_0 rfl ?_
  refine z_getIe (z := (i : Int)) k35_1 rfl h7 ?_
  refine s_ist1 k35_4 rfl ?_
  have hm := hT.1
  have heb := en_b (t := (σ 133)) (f := isBl) hi
  rw [he] at heb
  refine lp35 hCt hT hi he ?_ (e - i) 0 (by omega)
  obtain ⟨I6, hI6⟩ : ∃ I6, I6 = upI I 35 6 (e : Int) := ⟨_, rfl⟩
  refine s_ald k35_30 rfl ?_
  refine s_ild k35_31 rfl ?_
  refine z_putIe (q := 6) k35_32 rfl rfl ?_
  refine s_ild k35_35 rfl ?_
  refine s_ald k35_36 rfl ?_
  refine z_getIe (z := σ 127 12) k35_37 rfl ((up_nk (by decide)).trans hCt.1) ?_
  refine s_iclt k35_40 ⟨by omega, by omega⟩ ⟨by omega, by omega⟩ (fun h40 => ?_) (fun h40 => ?_)
  · have hem : e < (σ 127 12).toNat := by omega
    have hbt := hT.2 (e : Int) (by omega) (by omega)
    have hCt6 : CRt (upI I 35 6 (e : Int)) σ := hCt.k (up_nk (by decide)) (fun q => up_ne (by decide))
    refine s_ald k35_56 rfl ?_
    refine z_getRe (b := 36) k35_57 rfl rr_35_0 ?_
    refine s_ild k35_60 rfl ?_
    refine z_ialde (z := σ 133 (e : Int)) k35_61 rfl (by omega) (show (e : Int) < ((160 : Nat) : Int) by omega) ((up_ne (by decide)).trans (hCt.2 _ (by omega) (by omega))) ?_
    refine z_sta1A k35_62 (Nat.le_of_ble_eq_true rfl) (c38 (by omega) (by omega)) ?_
    refine z_ifeqb k35_65 (fun h65 => ?_) (fun h65 => ?_)
    · refine s_ald k35_75 rfl ?_
      refine z_getRe (b := 36) k35_76 rfl rr_35_0 ?_
      refine s_ild k35_79 rfl ?_
      refine z_ialde (z := σ 133 (e : Int)) k35_80 rfl (by omega) (show (e : Int) < ((160 : Nat) : Int) by omega) ((up_ne (by decide)).trans (hCt.2 _ (by omega) (by omega))) ?_
      refine z_sta1A k35_81 (Nat.le_of_ble_eq_true rfl) (c39 (by omega) (by omega)) ?_
      refine z_ifeqb k35_84 (fun h84 => ?_) (fun h84 => ?_)
      · refine s_ald k35_94 rfl ?_
        refine s_ild k35_95 rfl ?_
        refine z_push k35_96 ?_
        refine z_iadd k35_97 ?_
        refine z_putIe (q := 7) k35_98 rfl rfl ?_
        refine s_ald k35_101 rfl ?_
        refine s_ald k35_102 rfl ?_
        refine z_getRe (b := 36) k35_103 rfl rr_35_0 ?_
        refine s_ild k35_106 rfl ?_
        refine z_ialde (z := σ 133 (e : Int)) k35_107 rfl (by omega) (show (e : Int) < ((160 : Nat) : Int) by omega) ((up_ne (by decide)).trans ((up_ne (by decide)).trans (hCt.2 _ (by omega) (by omega)))) ?_
        refine z_push k35_108 ?_
        refine s_iceq k35_110 ⟨by omega, by omega⟩ (inR_lit rfl) (fun h110 => ?_) (fun h110 => ?_)
        · refine z_push k35_124 ?_
          refine z_goto k35_125 ?_
          refine z_putIe (q := 5) k35_129 rfl rfl ?_
          have hl : isLe (σ 133 (e : Int)) = false := bLf.mpr h65
          have hd : isDi (σ 133 (e : Int)) = false := bDf.mpr h84
          refine z_vret k35_132 ⟨rfl, _, rfl, fun a q hq => (if_neg (by omega)).trans ((if_neg (by omega)).trans (if_neg (by omega))), (up_nk (by decide)).trans ((up_nk (by decide)).trans up_at), (up_nk (by decide)).trans (up_at.trans ?_), up_at.trans ?_, fun q => absurd (up_at.symm.trans q) (by decide)⟩
          · rw [if_pos hem]
            unfold tkE
            rw [if_neg (by rw [hl]; decide), if_neg (by rw [hd]; decide)]
            omega
          · unfold ckS
            rw [if_pos hem, if_neg (by rw [hl]; decide), if_neg (by rw [hd]; decide), if_pos (by omega)]
        · refine s_ald k35_113 rfl ?_
          refine z_getRe (b := 36) k35_114 rfl rr_35_0 ?_
          refine s_ild k35_117 rfl ?_
          refine z_ialde (z := σ 133 (e : Int)) k35_118 rfl (by omega) (show (e : Int) < ((160 : Nat) : Int) by omega) ((up_ne (by decide)).trans ((up_ne (by decide)).trans (hCt.2 _ (by omega) (by omega)))) ?_
          refine z_push k35_119 ?_
          refine s_icne k35_121 ⟨by omega, by omega⟩ (inR_lit rfl) (fun h121 => ?_) (fun h121 => ?_)
          · refine z_push k35_128 ?_
            refine z_putIe (q := 5) k35_129 rfl rfl ?_
            have hl : isLe (σ 133 (e : Int)) = false := bLf.mpr h65
            have hd : isDi (σ 133 (e : Int)) = false := bDf.mpr h84
            refine z_vret k35_132 ⟨rfl, _, rfl, fun a q hq => (if_neg (by omega)).trans ((if_neg (by omega)).trans (if_neg (by omega))), (up_nk (by decide)).trans ((up_nk (by decide)).trans up_at), (up_nk (by decide)).trans (up_at.trans ?_), up_at.trans ?_, fun q => absurd (up_at.symm.trans q) (by decide)⟩
            · rw [if_pos hem]
              unfold tkE
              rw [if_neg (by rw [hl]; decide), if_neg (by rw [hd]; decide)]
              omega
            · unfold ckS
              rw [if_pos hem, if_neg (by rw [hl]; decide), if_neg (by rw [hd]; decide), if_neg (by omega)]
          · refine z_push k35_124 ?_
            refine z_goto k35_125 ?_
            refine z_putIe (q := 5) k35_129 rfl rfl ?_
            have hl : isLe (σ 133 (e : Int)) = false := bLf.mpr h65
            have hd : isDi (σ 133 (e : Int)) = false := bDf.mpr h84
            refine z_vret k35_132 ⟨rfl, _, rfl, fun a q hq => (if_neg (by omega)).trans ((if_neg (by omega)).trans (if_neg (by omega))), (up_nk (by decide)).trans ((up_nk (by decide)).trans up_at), (up_nk (by decide)).trans (up_at.trans ?_), up_at.trans ?_, fun q => absurd (up_at.symm.trans q) (by decide)⟩
            · rw [if_pos hem]
              unfold tkE
              rw [if_neg (by rw [hl]; decide), if_neg (by rw [hd]; decide)]
              omega
            · unfold ckS
              rw [if_pos hem, if_neg (by rw [hl]; decide), if_neg (by rw [hd]; decide), if_pos (by omega)]
      · have hl : isLe (σ 133 (e : Int)) = false := bLf.mpr h65
        have hd : isDi (σ 133 (e : Int)) = true := bD.mpr h84
        refine s_ald k35_87 rfl ?_
        refine z_inv0 k35_88 rfl (Nat.le_of_ble_eq_true rfl) (c37 (b := e) hCt6 hT up_at (by omega) hl hd) (fun o h1 hq => ?_)
        obtain ⟨rfl, rfl⟩ := hq
        refine z_goto k35_91 ?_
        refine z_vret k35_132 ⟨rfl, _, rfl, fun a q hq => (if_neg (by omega)).trans ((if_neg (by omega)).trans ((if_neg (by omega)).trans (if_neg (by omega)))), (up_nk (by decide)).trans ((up_nk (by decide)).trans ((up_nk (by decide)).trans up_at)), (up_nk (by decide)).trans (up_at.trans (by rw [if_pos hem])), up_at.trans ?_, fun q => ?_⟩
        · unfold ckS
          rw [if_pos hem, if_neg (show ¬ isLe (σ 133 (e : Int)) = true by rw [hl]; decide), if_pos hd]
        · rw [up_at] at q
          have hle : ¬ 2 < tkE (σ 133) (σ 127 12).toNat e - e := fun u => by rw [if_pos u] at q; exact absurd q (by decide)
          rw [up_nk (by decide), up_nk (by decide), up_at]
          unfold vlS
          rw [if_pos hd]
          split
          · rfl
          · rw [show tkE (σ 133) (σ 127 12).toNat e - e = 2 by omega]
    · have hl : isLe (σ 133 (e : Int)) = true := bL.mpr h65
      refine s_ald k35_68 rfl ?_
      refine z_inv0 k35_69 rfl (Nat.le_of_ble_eq_true rfl) (c36 (b := e) hCt6 hT up_at (by omega) hl) (fun o h1 hq => ?_)
      obtain ⟨rfl, rfl⟩ := hq
      refine z_goto k35_72 ?_
      refine z_vret k35_132 ⟨rfl, _, rfl, fun a q hq => (if_neg (by omega)).trans ((if_neg (by omega)).trans (if_neg (by omega))), (up_nk (by decide)).trans ((up_nk (by decide)).trans up_at), (up_nk (by decide)).trans (up_at.trans (by rw [if_pos hem])), up_at.trans ?_, fun q => absurd (up_at.symm.trans q) (by decide)⟩
      unfold ckS
      rw [if_pos hem, if_pos hl]
  · refine s_ald k35_43 rfl ?_
    refine s_ild k35_44 rfl ?_
    refine z_putIe (q := 7) k35_45 rfl rfl ?_
    refine s_ald k35_48 rfl ?_
    refine z_push k35_49 ?_
    refine z_putIe (q := 5) k35_50 rfl rfl ?_
    refine z_goto k35_53 ?_
    refine z_vret k35_132 ⟨rfl, _, rfl, fun a q hq => (if_neg (by omega)).trans ((if_neg (by omega)).trans (if_neg (by omega))), (up_nk (by decide)).trans ((up_nk (by decide)).trans up_at), (up_nk (by decide)).trans (up_at.trans (by rw [if_neg (by omega)]; omega)), up_at.trans ?_, fun q => absurd (up_at.symm.trans q) (by decide)⟩
    unfold ckS
    rw [if_neg (by omega)]
