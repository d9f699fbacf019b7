/-! the class: the form -/
abbrev tiP (t : Int → Int) (b e a : Nat) : Prop := e - b = (mStr a).length ∧ ∀ i, i < (mStr a).length → t ((b + i : Nat) : Int) = stF a i
set_option maxRecDepth 20000 in
theorem lp44t {d : Nat} {I σ : Nat → Int → Int} {P : Int → Nat} {dr : Nat} (hCt : CRt I σ) (hT : WFt σ) {b e a : Nat} (h6 : I 35 6 = (b : Int)) (a0 : 2 ≤ a) (a1 : a ≤ 12) (hbe : b < e) (hem : e ≤ (σ 127 12).toNat) (hl : e - b = (mStr a).length) : ∀ (m q : Nat), (q : Int) + m = (e : Int) - (b : Int) → (∀ i, i < q → σ 133 ((b + i : Nat) : Int) = stF a i) → wp (mcall MT CD (d + 0)) (CD 44) L0 (ans (vi (b2i (tiP (σ 133) b e a))) I P dr) 22 [vr 35, vr a, vi ((e : Int) - (b : Int)), vi (q : Int)] [] (S0, I, RR P dr) := by
  intro m
  induction m with
  | zero => 
    intro q hi hp
    have hm := hT.1
    refine s_ild k44_22 rfl ?_
    refine s_ild k44_23 rfl ?_
    refine s_icge k44_24 ⟨by omega, by omega⟩ ⟨by omega, by omega⟩ (fun h24 => ?_) (fun q => absurd q (by omega))
    refine z_push k44_54 ?_
    exact z_zret k44_55 (Or.inr rfl) (ans_i (b2i_t ⟨hl, fun i hi => hp i (by omega)⟩).symm)
  | succ m ih => 
    intro q hi hp
    have hm := hT.1
    refine s_ild k44_22 rfl ?_
    refine s_ild k44_23 rfl ?_
    refine s_icge k44_24 ⟨by omega, by omega⟩ ⟨by omega, by omega⟩ (fun q => absurd q (by omega)) (fun h24 => ?_)
    have hbt := hT.2 ((b : Int) + q) (by omega) (by omega)
    have hsb := (stw_le a0 (by
      by_cases c : a = 12
      · subst c
        exact absurd hl (by show ¬ e - b = 0; omega)
      · omega)).2 q (by omega)
    refine s_ald k44_27 rfl ?_
    refine z_getRe (b := 36) k44_28 rfl rr_35_0 ?_
    refine s_ald k44_31 rfl ?_
    refine z_getIe (z := (b : Int)) k44_32 rfl h6 ?_
    refine s_ild k44_35 rfl ?_
    refine z_iadd k44_36 ?_
    refine z_ialde (z := σ 133 ((b : Int) + (q : Int))) k44_37 rfl (by omega) (show ((b : Int) + (q : Int)) < ((160 : Nat) : Int) by omega) (hCt.2 _ (by omega) (by omega)) ?_
    refine s_ald k44_38 rfl ?_
    refine s_ild k44_39 rfl ?_
    refine z_charAt k44_40 a0 a1 (by omega) (by omega) (Nat.le_of_ble_eq_true rfl) (Nat.le_refl _) (Nat.le_refl _) trivial ?_
    refine z_eqi (b := stF a q) (by rw [Int.toNat_natCast]) ?_
    refine s_iceq k44_43 ⟨by omega, by omega⟩ ⟨by omega, by omega⟩ (fun h43 => ?_) (fun h43 => ?_)
    · refine s_iinc3 k44_48 rfl ?_
      refine z_goto k44_51 ?_
      refine ih (q + 1) (by omega) (fun i hi => ?_)
      by_cases c : i = q
      · rw [c, show ((b + q : Nat) : Int) = (b : Int) + q by omega]
        exact h43
      · exact hp i (by omega)
    · refine z_push k44_46 ?_
      refine z_zret k44_47 (Or.inl rfl) (ans_i (b2i_f (fun u => h43 ?_)).symm)
      have := u.2 q (by omega)
      rw [show ((b + q : Nat) : Int) = (b : Int) + q by omega] at this
      exact this
set_option maxRecDepth 20000 in
theorem c44 {d : Nat} {I : Nat → Int → Int} {P : Int → Nat} {dr : Nat} {σ : Nat → Int → Int} (hCt : CRt I σ) (hT : WFt σ) {b e a : Nat} (h6 : I 35 6 = (b : Int)) (h7 : I 35 7 = (e : Int)) (a0 : 2 ≤ a) (a1 : a ≤ 12) (hbe : b < e) (hem : e ≤ (σ 127 12).toNat) : cal (d + 1) 44 [vr 35, vr a] I P dr (ans (vi (b2i (tiP (σ 133) b e a))) I P dr) := by
  refine cal_in (Nat.le_of_ble_eq_true rfl) ?_
  have hm := hT.1
  have hsl : (mStr a).length ≤ 6 := by
    have key : ∀ a, a < 13 → (mStr a).length ≤ 6 := by decide +kernel
    exact key a (by omega)
  show wp _ _ _ _ 0 [vr 35, vr a, vj, vj] [] _
  refine s_ald k44_0 rfl ?_
  refine z_getIe (z := (e : Int)) k44_1 rfl h7 ?_
  refine s_ald k44_4 rfl ?_
  refine z_getIe (z := (b : Int)) k44_5 rfl h6 ?_
  refine z_isub k44_8 ?_
  refine s_ist2 k44_9 rfl ?_
  refine s_ild k44_10 rfl ?_
  refine s_ald k44_11 rfl ?_
  refine z_strlen k44_12 a0 a1 (Nat.le_of_ble_eq_true rfl) (Nat.le_refl _) (Nat.le_refl _) trivial ?_
  refine s_iceq k44_15 ⟨by omega, by omega⟩ ⟨by omega, by omega⟩ (fun h15 => ?_) (fun h15 => ?_)
  · refine z_push k44_20 ?_
    refine s_ist3 k44_21 rfl ?_
    exact lp44t hCt hT h6 a0 a1 hbe hem (by omega) (e - b) 0 (by omega) (fun i hi => absurd hi (by omega))
  · refine z_push k44_18 ?_
    exact z_zret k44_19 (Or.inl rfl) (ans_i (b2i_f (fun u => h15 (by have := u.1; omega))).symm)
set_option maxRecDepth 20000 in
theorem c45 {d : Nat} {I : Nat → Int → Int} {P : Int → Nat} {dr : Nat} {p : Int} (p0 : 0 ≤ p) (p1 : p ≤ 21) : cal (d + 1) 45 [vi p] I P dr (ans (vr (waS p)) I P dr) := by
  refine cal_in (Nat.le_of_ble_eq_true rfl) ?_
  show wp _ _ _ _ 0 [vi p] [] _
  refine s_ild k45_0 rfl ?_
  rcases (show p = 0 ∨ p = 1 ∨ p = 2 ∨ p = 3 ∨ p = 4 ∨ p = 5 ∨ p = 6 ∨ p = 7 ∨ p = 8 ∨ p = 9 ∨ p = 10 ∨ p = 11 ∨ p = 12 ∨ p = 13 ∨ p = 14 ∨ p = 15 ∨ p = 16 ∨ p = 17 ∨ p = 18 ∨ p = 19 ∨ p = 20 ∨ p = 21 from by omega) with e1 | e1 | e1 | e1 | e1 | e1 | e1 | e1 | e1 | e1 | e1 | e1 | e1 | e1 | e1 | e1 | e1 | e1 | e1 | e1 | e1 | e1
  · subst e1
    refine s_tsw k45_1 (inR_lit rfl) rfl ?_
    refine z_push k45_96 ?_
    exact z_aret k45_98 (ans_r (by decide))
  · subst e1
    refine s_tsw k45_1 (inR_lit rfl) rfl ?_
    refine z_push k45_126 ?_
    exact z_aret k45_128 (ans_r (by decide))
  · subst e1
    refine s_tsw k45_1 (inR_lit rfl) rfl ?_
    refine z_push k45_99 ?_
    exact z_aret k45_101 (ans_r (by decide))
  · subst e1
    refine s_tsw k45_1 (inR_lit rfl) rfl ?_
    refine z_push k45_126 ?_
    exact z_aret k45_128 (ans_r (by decide))
  · subst e1
    refine s_tsw k45_1 (inR_lit rfl) rfl ?_
    refine z_push k45_102 ?_
    exact z_aret k45_104 (ans_r (by decide))
  · subst e1
    refine s_tsw k45_1 (inR_lit rfl) rfl ?_
    refine z_push k45_126 ?_
    exact z_aret k45_128 (ans_r (by decide))
  · subst e1
    refine s_tsw k45_1 (inR_lit rfl) rfl ?_
    refine z_push k45_105 ?_
    exact z_aret k45_107 (ans_r (by decide))
  · subst e1
    refine s_tsw k45_1 (inR_lit rfl) rfl ?_
    refine z_push k45_126 ?_
    exact z_aret k45_128 (ans_r (by decide))
  · subst e1
    refine s_tsw k45_1 (inR_lit rfl) rfl ?_
    refine z_push k45_126 ?_
    exact z_aret k45_128 (ans_r (by decide))
  · subst e1
    refine s_tsw k45_1 (inR_lit rfl) rfl ?_
    refine z_push k45_108 ?_
    exact z_aret k45_110 (ans_r (by decide))
  · subst e1
    refine s_tsw k45_1 (inR_lit rfl) rfl ?_
    refine z_push k45_126 ?_
    exact z_aret k45_128 (ans_r (by decide))
  · subst e1
    refine s_tsw k45_1 (inR_lit rfl) rfl ?_
    refine z_push k45_111 ?_
    exact z_aret k45_113 (ans_r (by decide))
  · subst e1
    refine s_tsw k45_1 (inR_lit rfl) rfl ?_
    refine z_push k45_126 ?_
    exact z_aret k45_128 (ans_r (by decide))
  · subst e1
    refine s_tsw k45_1 (inR_lit rfl) rfl ?_
    refine z_push k45_114 ?_
    exact z_aret k45_116 (ans_r (by decide))
  · subst e1
    refine s_tsw k45_1 (inR_lit rfl) rfl ?_
    refine z_push k45_126 ?_
    exact z_aret k45_128 (ans_r (by decide))
  · subst e1
    refine s_tsw k45_1 (inR_lit rfl) rfl ?_
    refine z_push k45_117 ?_
    exact z_aret k45_119 (ans_r (by decide))
  · subst e1
    refine s_tsw k45_1 (inR_lit rfl) rfl ?_
    refine z_push k45_126 ?_
    exact z_aret k45_128 (ans_r (by decide))
  · subst e1
    refine s_tsw k45_1 (inR_lit rfl) rfl ?_
    refine z_push k45_120 ?_
    exact z_aret k45_122 (ans_r (by decide))
  · subst e1
    refine s_tsw k45_1 (inR_lit rfl) rfl ?_
    refine z_push k45_126 ?_
    exact z_aret k45_128 (ans_r (by decide))
  · subst e1
    refine s_tsw k45_1 (inR_lit rfl) rfl ?_
    refine z_push k45_123 ?_
    exact z_aret k45_125 (ans_r (by decide))
  · subst e1
    refine s_tsw k45_1 (inR_lit rfl) rfl ?_
    refine z_push k45_126 ?_
    exact z_aret k45_128 (ans_r (by decide))
  · subst e1
    refine s_tsw k45_1 (inR_lit rfl) rfl ?_
    refine z_push k45_126 ?_
    exact z_aret k45_128 (ans_r (by decide))
set_option maxRecDepth 20000 in
theorem c46 {d : Nat} {I : Nat → Int → Int} {P : Int → Nat} {dr : Nat} {p : Int} (p0 : 0 ≤ p) (p1 : p ≤ 21) : cal (d + 1) 46 [vi p] I P dr (ans (vi (b2i (npP p))) I P dr) := by
  refine cal_in (Nat.le_of_ble_eq_true rfl) ?_
  show wp _ _ _ _ 0 [vi p] [] _
  refine s_ild k46_0 rfl ?_
  rcases (show p = 0 ∨ p = 1 ∨ p = 2 ∨ p = 3 ∨ p = 4 ∨ p = 5 ∨ p = 6 ∨ p = 7 ∨ p = 8 ∨ p = 9 ∨ p = 10 ∨ p = 11 ∨ p = 12 ∨ p = 13 ∨ p = 14 ∨ p = 15 ∨ p = 16 ∨ p = 17 ∨ p = 18 ∨ p = 19 ∨ p = 20 ∨ p = 21 from by omega) with e1 | e1 | e1 | e1 | e1 | e1 | e1 | e1 | e1 | e1 | e1 | e1 | e1 | e1 | e1 | e1 | e1 | e1 | e1 | e1 | e1 | e1
  · subst e1
    refine s_tsw k46_1 (inR_lit rfl) rfl ?_
    refine z_push k46_98 ?_
    exact z_zret k46_99 (by decide) (ans_i (b2i_f (by decide)).symm)
  · subst e1
    refine s_tsw k46_1 (inR_lit rfl) rfl ?_
    refine z_push k46_96 ?_
    exact z_zret k46_97 (by decide) (ans_i (b2i_t (by decide)).symm)
  · subst e1
    refine s_tsw k46_1 (inR_lit rfl) rfl ?_
    refine z_push k46_98 ?_
    exact z_zret k46_99 (by decide) (ans_i (b2i_f (by decide)).symm)
  · subst e1
    refine s_tsw k46_1 (inR_lit rfl) rfl ?_
    refine z_push k46_96 ?_
    exact z_zret k46_97 (by decide) (ans_i (b2i_t (by decide)).symm)
  · subst e1
    refine s_tsw k46_1 (inR_lit rfl) rfl ?_
    refine z_push k46_98 ?_
    exact z_zret k46_99 (by decide) (ans_i (b2i_f (by decide)).symm)
  · subst e1
    refine s_tsw k46_1 (inR_lit rfl) rfl ?_
    refine z_push k46_96 ?_
    exact z_zret k46_97 (by decide) (ans_i (b2i_t (by decide)).symm)
  · subst e1
    refine s_tsw k46_1 (inR_lit rfl) rfl ?_
    refine z_push k46_98 ?_
    exact z_zret k46_99 (by decide) (ans_i (b2i_f (by decide)).symm)
  · subst e1
    refine s_tsw k46_1 (inR_lit rfl) rfl ?_
    refine z_push k46_96 ?_
    exact z_zret k46_97 (by decide) (ans_i (b2i_t (by decide)).symm)
  · subst e1
    refine s_tsw k46_1 (inR_lit rfl) rfl ?_
    refine z_push k46_98 ?_
    exact z_zret k46_99 (by decide) (ans_i (b2i_f (by decide)).symm)
  · subst e1
    refine s_tsw k46_1 (inR_lit rfl) rfl ?_
    refine z_push k46_98 ?_
    exact z_zret k46_99 (by decide) (ans_i (b2i_f (by decide)).symm)
  · subst e1
    refine s_tsw k46_1 (inR_lit rfl) rfl ?_
    refine z_push k46_96 ?_
    exact z_zret k46_97 (by decide) (ans_i (b2i_t (by decide)).symm)
  · subst e1
    refine s_tsw k46_1 (inR_lit rfl) rfl ?_
    refine z_push k46_98 ?_
    exact z_zret k46_99 (by decide) (ans_i (b2i_f (by decide)).symm)
  · subst e1
    refine s_tsw k46_1 (inR_lit rfl) rfl ?_
    refine z_push k46_96 ?_
    exact z_zret k46_97 (by decide) (ans_i (b2i_t (by decide)).symm)
  · subst e1
    refine s_tsw k46_1 (inR_lit rfl) rfl ?_
    refine z_push k46_98 ?_
    exact z_zret k46_99 (by decide) (ans_i (b2i_f (by decide)).symm)
  · subst e1
    refine s_tsw k46_1 (inR_lit rfl) rfl ?_
    refine z_push k46_96 ?_
    exact z_zret k46_97 (by decide) (ans_i (b2i_t (by decide)).symm)
  · subst e1
    refine s_tsw k46_1 (inR_lit rfl) rfl ?_
    refine z_push k46_98 ?_
    exact z_zret k46_99 (by decide) (ans_i (b2i_f (by decide)).symm)
  · subst e1
    refine s_tsw k46_1 (inR_lit rfl) rfl ?_
    refine z_push k46_98 ?_
    exact z_zret k46_99 (by decide) (ans_i (b2i_f (by decide)).symm)
  · subst e1
    refine s_tsw k46_1 (inR_lit rfl) rfl ?_
    refine z_push k46_98 ?_
    exact z_zret k46_99 (by decide) (ans_i (b2i_f (by decide)).symm)
  · subst e1
    refine s_tsw k46_1 (inR_lit rfl) rfl ?_
    refine z_push k46_96 ?_
    exact z_zret k46_97 (by decide) (ans_i (b2i_t (by decide)).symm)
  · subst e1
    refine s_tsw k46_1 (inR_lit rfl) rfl ?_
    refine z_push k46_98 ?_
    exact z_zret k46_99 (by decide) (ans_i (b2i_f (by decide)).symm)
  · subst e1
    refine s_tsw k46_1 (inR_lit rfl) rfl ?_
    refine z_push k46_96 ?_
    exact z_zret k46_97 (by decide) (ans_i (b2i_t (by decide)).symm)
  · subst e1
    refine s_tsw k46_1 (inR_lit rfl) rfl ?_
    refine z_push k46_98 ?_
    exact z_zret k46_99 (by decide) (ans_i (b2i_f (by decide)).symm)
set_option maxRecDepth 20000 in
theorem c47 {d : Nat} {I : Nat → Int → Int} {P : Int → Nat} {dr : Nat} {σ : Nat → Int → Int} (hd : isPl dr) {p j : Int} (hp : I 35 9 = p) (hj : I 35 10 = j) (j0 : 0 ≤ j) (j1 : j ≤ 2) (p0 : 0 ≤ p) (p1 : p ≤ 21) : cal (d + 1) 47 [vr 35] I P dr (ans (vi (lcS p (I (dr + 2 + j.toNat) 4))) I P dr) := by
  refine cal_in (Nat.le_of_ble_eq_true rfl) ?_
  show wp _ _ _ _ 0 [vr 35] [] _
  refine s_ald k47_0 rfl ?_
  refine z_getIe (z := p) k47_1 rfl hp ?_
  rcases (show p = 0 ∨ p = 1 ∨ p = 2 ∨ p = 3 ∨ p = 4 ∨ p = 5 ∨ p = 6 ∨ p = 7 ∨ p = 8 ∨ p = 9 ∨ p = 10 ∨ p = 11 ∨ p = 12 ∨ p = 13 ∨ p = 14 ∨ p = 15 ∨ p = 16 ∨ p = 17 ∨ p = 18 ∨ p = 19 ∨ p = 20 ∨ p = 21 from by omega) with e4 | e4 | e4 | e4 | e4 | e4 | e4 | e4 | e4 | e4 | e4 | e4 | e4 | e4 | e4 | e4 | e4 | e4 | e4 | e4 | e4 | e4
  · subst e4
    refine s_lsw k47_4 (inR_lit rfl) rfl ?_
    refine z_push k47_58 ?_
    exact z_iret k47_59 (ans_i rfl)
  · subst e4
    refine s_lsw k47_4 (inR_lit rfl) rfl ?_
    refine z_push k47_58 ?_
    exact z_iret k47_59 (ans_i rfl)
  · subst e4
    refine s_lsw k47_4 (inR_lit rfl) rfl ?_
    refine z_push k47_58 ?_
    exact z_iret k47_59 (ans_i rfl)
  · subst e4
    refine s_lsw k47_4 (inR_lit rfl) rfl ?_
    refine z_push k47_58 ?_
    exact z_iret k47_59 (ans_i rfl)
  · subst e4
    refine s_lsw k47_4 (inR_lit rfl) rfl ?_
    refine z_push k47_58 ?_
    exact z_iret k47_59 (ans_i rfl)
  · subst e4
    refine s_lsw k47_4 (inR_lit rfl) rfl ?_
    refine z_push k47_58 ?_
    exact z_iret k47_59 (ans_i rfl)
  · subst e4
    refine s_lsw k47_4 (inR_lit rfl) rfl ?_
    refine z_push k47_58 ?_
    exact z_iret k47_59 (ans_i rfl)
  · subst e4
    refine s_lsw k47_4 (inR_lit rfl) rfl ?_
    refine z_push k47_40 ?_
    exact z_iret k47_41 (ans_i rfl)
  · subst e4
    refine s_lsw k47_4 (inR_lit rfl) rfl ?_
    refine z_push k47_58 ?_
    exact z_iret k47_59 (ans_i rfl)
  · subst e4
    refine s_lsw k47_4 (inR_lit rfl) rfl ?_
    refine z_push k47_58 ?_
    exact z_iret k47_59 (ans_i rfl)
  · subst e4
    refine s_lsw k47_4 (inR_lit rfl) rfl ?_
    refine z_push k47_40 ?_
    exact z_iret k47_41 (ans_i rfl)
  · subst e4
    refine s_lsw k47_4 (inR_lit rfl) rfl ?_
    refine z_push k47_58 ?_
    exact z_iret k47_59 (ans_i rfl)
  · subst e4
    refine s_lsw k47_4 (inR_lit rfl) rfl ?_
    refine z_push k47_58 ?_
    exact z_iret k47_59 (ans_i rfl)
  · subst e4
    refine s_lsw k47_4 (inR_lit rfl) rfl ?_
    refine z_push k47_58 ?_
    exact z_iret k47_59 (ans_i rfl)
  · subst e4
    refine s_lsw k47_4 (inR_lit rfl) rfl ?_
    refine z_push k47_58 ?_
    exact z_iret k47_59 (ans_i rfl)
  · subst e4
    refine s_lsw k47_4 (inR_lit rfl) rfl ?_
    refine z_push k47_58 ?_
    exact z_iret k47_59 (ans_i rfl)
  · subst e4
    refine s_lsw k47_4 (inR_lit rfl) rfl ?_
    refine z_push k47_58 ?_
    exact z_iret k47_59 (ans_i rfl)
  · subst e4
    refine s_lsw k47_4 (inR_lit rfl) rfl ?_
    refine z_push k47_58 ?_
    exact z_iret k47_59 (ans_i rfl)
  · subst e4
    refine s_lsw k47_4 (inR_lit rfl) rfl ?_
    refine z_push k47_58 ?_
    exact z_iret k47_59 (ans_i rfl)
  · subst e4
    refine s_lsw k47_4 (inR_lit rfl) rfl ?_
    refine z_push k47_58 ?_
    exact z_iret k47_59 (ans_i rfl)
  · subst e4
    refine s_lsw k47_4 (inR_lit rfl) rfl ?_
    refine s_ald k47_42 rfl ?_
    refine z_getRe (b := dr) k47_43 rfl rr_dr ?_
    refine z_getRe (b := dr + 1) k47_46 (pl_sh hd) (rr_st5 hd) ?_
    refine s_ald k47_49 rfl ?_
    refine z_getIe (z := j) k47_50 rfl hj ?_
    refine z_aalde (b := dr + 2 + j.toNat) k47_53 (by rw [pl_sa hd]) (by omega) (by rw [pl_sa hd]; show j < ((3 : Nat) : Int); omega) (rr_stj hd (by omega) (by omega)) ?_
    refine z_getIe (z := I (dr + 2 + j.toNat) 4) k47_54 (pl_st hd (by omega)) rfl ?_
    exact z_iret k47_57 (ans_i rfl)
  · subst e4
    refine s_lsw k47_4 (inR_lit rfl) rfl ?_
    refine z_push k47_58 ?_
    exact z_iret k47_59 (ans_i rfl)
set_option maxRecDepth 20000 in
theorem c48 {d : Nat} {I : Nat → Int → Int} {P : Int → Nat} {dr : Nat} {σ : Nat → Int → Int} (hd : isPl dr) {p j : Int} (hp : I 35 9 = p) (hj : I 35 10 = j) (j0 : 0 ≤ j) (j1 : j ≤ 2) (p0 : 0 ≤ p) (p1 : p ≤ 21) : cal (d + 1) 48 [vr 35, vi (σ 127 2)] I P dr (ans (vi (hcS σ p (I (dr + 2 + j.toNat) 4))) I P dr) := by
  refine cal_in (Nat.le_of_ble_eq_true rfl) ?_
  show wp _ _ _ _ 0 [vr 35, vi (σ 127 2)] [] _
  refine s_ald k48_0 rfl ?_
  refine z_getIe (z := p) k48_1 rfl hp ?_
  rcases (show p = 0 ∨ p = 1 ∨ p = 2 ∨ p = 3 ∨ p = 4 ∨ p = 5 ∨ p = 6 ∨ p = 7 ∨ p = 8 ∨ p = 9 ∨ p = 10 ∨ p = 11 ∨ p = 12 ∨ p = 13 ∨ p = 14 ∨ p = 15 ∨ p = 16 ∨ p = 17 ∨ p = 18 ∨ p = 19 ∨ p = 20 ∨ p = 21 from by omega) with e4 | e4 | e4 | e4 | e4 | e4 | e4 | e4 | e4 | e4 | e4 | e4 | e4 | e4 | e4 | e4 | e4 | e4 | e4 | e4 | e4 | e4
  · subst e4
    refine s_tsw k48_4 (inR_lit rfl) rfl ?_
    refine s_ald k48_113 rfl ?_
    refine z_getRe (b := dr) k48_114 rfl rr_dr ?_
    refine z_getRe (b := dr + 1) k48_117 (pl_sh hd) (rr_st5 hd) ?_
    refine s_ald k48_120 rfl ?_
    refine z_getIe (z := j) k48_121 rfl hj ?_
    refine z_aalde (b := dr + 2 + j.toNat) k48_124 (by rw [pl_sa hd]) (by omega) (by rw [pl_sa hd]; show j < ((3 : Nat) : Int); omega) (rr_stj hd (by omega) (by omega)) ?_
    refine z_getIe (z := I (dr + 2 + j.toNat) 4) k48_125 (pl_st hd (by omega)) rfl ?_
    refine z_push k48_128 ?_
    refine z_iadd k48_129 ?_
    exact z_iret k48_130 (ans_i rfl)
  · subst e4
    refine s_tsw k48_4 (inR_lit rfl) rfl ?_
    refine z_push k48_92 ?_
    exact z_iret k48_93 (ans_i rfl)
  · subst e4
    refine s_tsw k48_4 (inR_lit rfl) rfl ?_
    refine s_ald k48_113 rfl ?_
    refine z_getRe (b := dr) k48_114 rfl rr_dr ?_
    refine z_getRe (b := dr + 1) k48_117 (pl_sh hd) (rr_st5 hd) ?_
    refine s_ald k48_120 rfl ?_
    refine z_getIe (z := j) k48_121 rfl hj ?_
    refine z_aalde (b := dr + 2 + j.toNat) k48_124 (by rw [pl_sa hd]) (by omega) (by rw [pl_sa hd]; show j < ((3 : Nat) : Int); omega) (rr_stj hd (by omega) (by omega)) ?_
    refine z_getIe (z := I (dr + 2 + j.toNat) 4) k48_125 (pl_st hd (by omega)) rfl ?_
    refine z_push k48_128 ?_
    refine z_iadd k48_129 ?_
    exact z_iret k48_130 (ans_i rfl)
  · subst e4
    refine s_tsw k48_4 (inR_lit rfl) rfl ?_
    refine z_push k48_94 ?_
    exact z_iret k48_95 (ans_i rfl)
  · subst e4
    refine s_tsw k48_4 (inR_lit rfl) rfl ?_
    refine s_ald k48_113 rfl ?_
    refine z_getRe (b := dr) k48_114 rfl rr_dr ?_
    refine z_getRe (b := dr + 1) k48_117 (pl_sh hd) (rr_st5 hd) ?_
    refine s_ald k48_120 rfl ?_
    refine z_getIe (z := j) k48_121 rfl hj ?_
    refine z_aalde (b := dr + 2 + j.toNat) k48_124 (by rw [pl_sa hd]) (by omega) (by rw [pl_sa hd]; show j < ((3 : Nat) : Int); omega) (rr_stj hd (by omega) (by omega)) ?_
    refine z_getIe (z := I (dr + 2 + j.toNat) 4) k48_125 (pl_st hd (by omega)) rfl ?_
    refine z_push k48_128 ?_
    refine z_iadd k48_129 ?_
    exact z_iret k48_130 (ans_i rfl)
  · subst e4
    refine s_tsw k48_4 (inR_lit rfl) rfl ?_
    refine s_ild k48_96 rfl ?_
    refine z_push k48_97 ?_
    refine z_isub k48_98 ?_
    exact z_iret k48_99 (ans_i rfl)
  · subst e4
    refine s_tsw k48_4 (inR_lit rfl) rfl ?_
    refine s_ald k48_113 rfl ?_
    refine z_getRe (b := dr) k48_114 rfl rr_dr ?_
    refine z_getRe (b := dr + 1) k48_117 (pl_sh hd) (rr_st5 hd) ?_
    refine s_ald k48_120 rfl ?_
    refine z_getIe (z := j) k48_121 rfl hj ?_
    refine z_aalde (b := dr + 2 + j.toNat) k48_124 (by rw [pl_sa hd]) (by omega) (by rw [pl_sa hd]; show j < ((3 : Nat) : Int); omega) (rr_stj hd (by omega) (by omega)) ?_
    refine z_getIe (z := I (dr + 2 + j.toNat) 4) k48_125 (pl_st hd (by omega)) rfl ?_
    refine z_push k48_128 ?_
    refine z_iadd k48_129 ?_
    exact z_iret k48_130 (ans_i rfl)
  · subst e4
    refine s_tsw k48_4 (inR_lit rfl) rfl ?_
    refine z_push k48_100 ?_
    exact z_iret k48_102 (ans_i rfl)
  · subst e4
    refine s_tsw k48_4 (inR_lit rfl) rfl ?_
    refine s_ald k48_113 rfl ?_
    refine z_getRe (b := dr) k48_114 rfl rr_dr ?_
    refine z_getRe (b := dr + 1) k48_117 (pl_sh hd) (rr_st5 hd) ?_
    refine s_ald k48_120 rfl ?_
    refine z_getIe (z := j) k48_121 rfl hj ?_
    refine z_aalde (b := dr + 2 + j.toNat) k48_124 (by rw [pl_sa hd]) (by omega) (by rw [pl_sa hd]; show j < ((3 : Nat) : Int); omega) (rr_stj hd (by omega) (by omega)) ?_
    refine z_getIe (z := I (dr + 2 + j.toNat) 4) k48_125 (pl_st hd (by omega)) rfl ?_
    refine z_push k48_128 ?_
    refine z_iadd k48_129 ?_
    exact z_iret k48_130 (ans_i rfl)
  · subst e4
    refine s_tsw k48_4 (inR_lit rfl) rfl ?_
    refine s_ald k48_113 rfl ?_
    refine z_getRe (b := dr) k48_114 rfl rr_dr ?_
    refine z_getRe (b := dr + 1) k48_117 (pl_sh hd) (rr_st5 hd) ?_
    refine s_ald k48_120 rfl ?_
    refine z_getIe (z := j) k48_121 rfl hj ?_
    refine z_aalde (b := dr + 2 + j.toNat) k48_124 (by rw [pl_sa hd]) (by omega) (by rw [pl_sa hd]; show j < ((3 : Nat) : Int); omega) (rr_stj hd (by omega) (by omega)) ?_
    refine z_getIe (z := I (dr + 2 + j.toNat) 4) k48_125 (pl_st hd (by omega)) rfl ?_
    refine z_push k48_128 ?_
    refine z_iadd k48_129 ?_
    exact z_iret k48_130 (ans_i rfl)
  · subst e4
    refine s_tsw k48_4 (inR_lit rfl) rfl ?_
    refine z_push k48_103 ?_
    exact z_iret k48_104 (ans_i rfl)
  · subst e4
    refine s_tsw k48_4 (inR_lit rfl) rfl ?_
    refine s_ald k48_113 rfl ?_
    refine z_getRe (b := dr) k48_114 rfl rr_dr ?_
    refine z_getRe (b := dr + 1) k48_117 (pl_sh hd) (rr_st5 hd) ?_
    refine s_ald k48_120 rfl ?_
    refine z_getIe (z := j) k48_121 rfl hj ?_
    refine z_aalde (b := dr + 2 + j.toNat) k48_124 (by rw [pl_sa hd]) (by omega) (by rw [pl_sa hd]; show j < ((3 : Nat) : Int); omega) (rr_stj hd (by omega) (by omega)) ?_
    refine z_getIe (z := I (dr + 2 + j.toNat) 4) k48_125 (pl_st hd (by omega)) rfl ?_
    refine z_push k48_128 ?_
    refine z_iadd k48_129 ?_
    exact z_iret k48_130 (ans_i rfl)
  · subst e4
    refine s_tsw k48_4 (inR_lit rfl) rfl ?_
    refine z_push k48_105 ?_
    exact z_iret k48_106 (ans_i rfl)
  · subst e4
    refine s_tsw k48_4 (inR_lit rfl) rfl ?_
    refine s_ald k48_113 rfl ?_
    refine z_getRe (b := dr) k48_114 rfl rr_dr ?_
    refine z_getRe (b := dr + 1) k48_117 (pl_sh hd) (rr_st5 hd) ?_
    refine s_ald k48_120 rfl ?_
    refine z_getIe (z := j) k48_121 rfl hj ?_
    refine z_aalde (b := dr + 2 + j.toNat) k48_124 (by rw [pl_sa hd]) (by omega) (by rw [pl_sa hd]; show j < ((3 : Nat) : Int); omega) (rr_stj hd (by omega) (by omega)) ?_
    refine z_getIe (z := I (dr + 2 + j.toNat) 4) k48_125 (pl_st hd (by omega)) rfl ?_
    refine z_push k48_128 ?_
    refine z_iadd k48_129 ?_
    exact z_iret k48_130 (ans_i rfl)
  · subst e4
    refine s_tsw k48_4 (inR_lit rfl) rfl ?_
    refine z_push k48_107 ?_
    exact z_iret k48_109 (ans_i rfl)
  · subst e4
    refine s_tsw k48_4 (inR_lit rfl) rfl ?_
    refine s_ald k48_113 rfl ?_
    refine z_getRe (b := dr) k48_114 rfl rr_dr ?_
    refine z_getRe (b := dr + 1) k48_117 (pl_sh hd) (rr_st5 hd) ?_
    refine s_ald k48_120 rfl ?_
    refine z_getIe (z := j) k48_121 rfl hj ?_
    refine z_aalde (b := dr + 2 + j.toNat) k48_124 (by rw [pl_sa hd]) (by omega) (by rw [pl_sa hd]; show j < ((3 : Nat) : Int); omega) (rr_stj hd (by omega) (by omega)) ?_
    refine z_getIe (z := I (dr + 2 + j.toNat) 4) k48_125 (pl_st hd (by omega)) rfl ?_
    refine z_push k48_128 ?_
    refine z_iadd k48_129 ?_
    exact z_iret k48_130 (ans_i rfl)
  · subst e4
    refine s_tsw k48_4 (inR_lit rfl) rfl ?_
    refine s_ald k48_113 rfl ?_
    refine z_getRe (b := dr) k48_114 rfl rr_dr ?_
    refine z_getRe (b := dr + 1) k48_117 (pl_sh hd) (rr_st5 hd) ?_
    refine s_ald k48_120 rfl ?_
    refine z_getIe (z := j) k48_121 rfl hj ?_
    refine z_aalde (b := dr + 2 + j.toNat) k48_124 (by rw [pl_sa hd]) (by omega) (by rw [pl_sa hd]; show j < ((3 : Nat) : Int); omega) (rr_stj hd (by omega) (by omega)) ?_
    refine z_getIe (z := I (dr + 2 + j.toNat) 4) k48_125 (pl_st hd (by omega)) rfl ?_
    refine z_push k48_128 ?_
    refine z_iadd k48_129 ?_
    exact z_iret k48_130 (ans_i rfl)
  · subst e4
    refine s_tsw k48_4 (inR_lit rfl) rfl ?_
    refine s_ald k48_113 rfl ?_
    refine z_getRe (b := dr) k48_114 rfl rr_dr ?_
    refine z_getRe (b := dr + 1) k48_117 (pl_sh hd) (rr_st5 hd) ?_
    refine s_ald k48_120 rfl ?_
    refine z_getIe (z := j) k48_121 rfl hj ?_
    refine z_aalde (b := dr + 2 + j.toNat) k48_124 (by rw [pl_sa hd]) (by omega) (by rw [pl_sa hd]; show j < ((3 : Nat) : Int); omega) (rr_stj hd (by omega) (by omega)) ?_
    refine z_getIe (z := I (dr + 2 + j.toNat) 4) k48_125 (pl_st hd (by omega)) rfl ?_
    refine z_push k48_128 ?_
    refine z_iadd k48_129 ?_
    exact z_iret k48_130 (ans_i rfl)
  · subst e4
    refine s_tsw k48_4 (inR_lit rfl) rfl ?_
    refine z_push k48_110 ?_
    exact z_iret k48_112 (ans_i rfl)
  · subst e4
    refine s_tsw k48_4 (inR_lit rfl) rfl ?_
    refine s_ald k48_113 rfl ?_
    refine z_getRe (b := dr) k48_114 rfl rr_dr ?_
    refine z_getRe (b := dr + 1) k48_117 (pl_sh hd) (rr_st5 hd) ?_
    refine s_ald k48_120 rfl ?_
    refine z_getIe (z := j) k48_121 rfl hj ?_
    refine z_aalde (b := dr + 2 + j.toNat) k48_124 (by rw [pl_sa hd]) (by omega) (by rw [pl_sa hd]; show j < ((3 : Nat) : Int); omega) (rr_stj hd (by omega) (by omega)) ?_
    refine z_getIe (z := I (dr + 2 + j.toNat) 4) k48_125 (pl_st hd (by omega)) rfl ?_
    refine z_push k48_128 ?_
    refine z_iadd k48_129 ?_
    exact z_iret k48_130 (ans_i rfl)
  · subst e4
    refine s_tsw k48_4 (inR_lit rfl) rfl ?_
    refine s_ald k48_113 rfl ?_
    refine z_getRe (b := dr) k48_114 rfl rr_dr ?_
    refine z_getRe (b := dr + 1) k48_117 (pl_sh hd) (rr_st5 hd) ?_
    refine s_ald k48_120 rfl ?_
    refine z_getIe (z := j) k48_121 rfl hj ?_
    refine z_aalde (b := dr + 2 + j.toNat) k48_124 (by rw [pl_sa hd]) (by omega) (by rw [pl_sa hd]; show j < ((3 : Nat) : Int); omega) (rr_stj hd (by omega) (by omega)) ?_
    refine z_getIe (z := I (dr + 2 + j.toNat) 4) k48_125 (pl_st hd (by omega)) rfl ?_
    refine z_push k48_128 ?_
    refine z_iadd k48_129 ?_
    exact z_iret k48_130 (ans_i rfl)
  · subst e4
    refine s_tsw k48_4 (inR_lit rfl) rfl ?_
    refine s_ald k48_113 rfl ?_
    refine z_getRe (b := dr) k48_114 rfl rr_dr ?_
    refine z_getRe (b := dr + 1) k48_117 (pl_sh hd) (rr_st5 hd) ?_
    refine s_ald k48_120 rfl ?_
    refine z_getIe (z := j) k48_121 rfl hj ?_
    refine z_aalde (b := dr + 2 + j.toNat) k48_124 (by rw [pl_sa hd]) (by omega) (by rw [pl_sa hd]; show j < ((3 : Nat) : Int); omega) (rr_stj hd (by omega) (by omega)) ?_
    refine z_getIe (z := I (dr + 2 + j.toNat) 4) k48_125 (pl_st hd (by omega)) rfl ?_
    refine z_push k48_128 ?_
    refine z_iadd k48_129 ?_
    exact z_iret k48_130 (ans_i rfl)
set_option maxRecDepth 20000 in
theorem c49 {d : Nat} {I : Nat → Int → Int} {P : Int → Nat} {dr : Nat} {σ : Nat → Int → Int} (hd : isPl dr) {p j : Int} (hp : I 35 9 = p) (hj : I 35 10 = j) (j0 : 0 ≤ j) (j1 : j ≤ 2) {v : Int} (hv : I 35 8 = v) (hn : npP p) : cal (d + 1) 49 [vr 35] I P dr (fun o h => o = none ∧ h = (S0, kcH I dr p j v, RR P dr)) := by
  refine cal_in (Nat.le_of_ble_eq_true rfl) ?_
  show wp _ _ _ _ 0 [vr 35, vj] [] _
  refine s_ald k49_0 rfl ?_
  refine z_getRe (b := dr) k49_1 rfl rr_dr ?_
  refine z_getRe (b := dr + 1) k49_4 (pl_sh hd) (rr_st5 hd) ?_
  refine s_ald k49_7 rfl ?_
  refine z_getIe (z := j) k49_8 rfl hj ?_
  refine z_aalde (b := dr + 2 + j.toNat) k49_11 (by rw [pl_sa hd]) (by omega) (by rw [pl_sa hd]; show j < ((3 : Nat) : Int); omega) (rr_stj hd (by omega) (by omega)) ?_
  refine s_ast1 k49_12 rfl ?_
  refine s_ald k49_13 rfl ?_
  refine z_getIe (z := p) k49_14 rfl hp ?_
  rcases (show p = 1 ∨ p = 3 ∨ p = 5 ∨ p = 7 ∨ p = 10 ∨ p = 12 ∨ p = 14 ∨ p = 18 ∨ p = 20 from by omega) with e17 | e17 | e17 | e17 | e17 | e17 | e17 | e17 | e17
  · subst e17
    refine s_tsw k49_17 (inR_lit rfl) rfl ?_
    refine s_ald k49_104 rfl ?_
    refine z_getRe (b := dr) k49_105 rfl rr_dr ?_
    refine s_ald k49_108 rfl ?_
    refine z_getIe (z := v) k49_109 rfl hv ?_
    refine z_putIe (q := 0) k49_112 (pl_sh hd) rfl ?_
    refine z_goto k49_115 ?_
    exact z_vret k49_217 ⟨rfl, rfl⟩
  · subst e17
    refine s_tsw k49_17 (inR_lit rfl) rfl ?_
    refine s_ald k49_118 rfl ?_
    refine z_getRe (b := dr) k49_119 rfl rr_dr ?_
    refine s_ald k49_122 rfl ?_
    refine z_getIe (z := v) k49_123 rfl hv ?_
    refine z_putIe (q := 1) k49_126 (pl_sh hd) rfl ?_
    refine z_goto k49_129 ?_
    exact z_vret k49_217 ⟨rfl, rfl⟩
  · subst e17
    refine s_tsw k49_17 (inR_lit rfl) rfl ?_
    refine s_ald k49_132 rfl ?_
    refine z_getRe (b := dr) k49_133 rfl rr_dr ?_
    refine s_ald k49_136 rfl ?_
    refine z_getIe (z := v) k49_137 rfl hv ?_
    refine z_putIe (q := 2) k49_140 (pl_sh hd) rfl ?_
    refine z_goto k49_143 ?_
    exact z_vret k49_217 ⟨rfl, rfl⟩
  · subst e17
    refine s_tsw k49_17 (inR_lit rfl) rfl ?_
    refine s_ald k49_146 rfl ?_
    refine z_getRe (b := dr) k49_147 rfl rr_dr ?_
    refine s_ald k49_150 rfl ?_
    refine z_getIe (z := v) k49_151 rfl hv ?_
    refine z_putIe (q := 3) k49_154 (pl_sh hd) rfl ?_
    refine z_goto k49_157 ?_
    exact z_vret k49_217 ⟨rfl, rfl⟩
  · subst e17
    refine s_tsw k49_17 (inR_lit rfl) rfl ?_
    refine s_ald k49_160 rfl ?_
    refine s_ald k49_161 rfl ?_
    refine z_getIe (z := v) k49_162 rfl hv ?_
    refine z_putIe (q := 0) k49_165 (pl_st hd (by omega)) rfl ?_
    refine z_goto k49_168 ?_
    exact z_vret k49_217 ⟨rfl, rfl⟩
  · subst e17
    refine s_tsw k49_17 (inR_lit rfl) rfl ?_
    refine s_ald k49_171 rfl ?_
    refine s_ald k49_172 rfl ?_
    refine z_getIe (z := v) k49_173 rfl hv ?_
    refine z_putIe (q := 1) k49_176 (pl_st hd (by omega)) rfl ?_
    refine z_goto k49_179 ?_
    exact z_vret k49_217 ⟨rfl, rfl⟩
  · subst e17
    refine s_tsw k49_17 (inR_lit rfl) rfl ?_
    refine s_ald k49_182 rfl ?_
    refine s_ald k49_183 rfl ?_
    refine z_getIe (z := v) k49_184 rfl hv ?_
    refine z_putIe (q := 2) k49_187 (pl_st hd (by omega)) rfl ?_
    refine s_ald k49_190 rfl ?_
    refine z_push k49_191 ?_
    refine z_putZe (q := 3) k49_192 (pl_st hd (by omega)) rfl (Or.inl rfl) ?_
    refine z_goto k49_195 ?_
    exact z_vret k49_217 ⟨rfl, rfl⟩
  · subst e17
    refine s_tsw k49_17 (inR_lit rfl) rfl ?_
    refine s_ald k49_198 rfl ?_
    refine s_ald k49_199 rfl ?_
    refine z_getIe (z := v) k49_200 rfl hv ?_
    refine z_putIe (q := 4) k49_203 (pl_st hd (by omega)) rfl ?_
    refine z_goto k49_206 ?_
    exact z_vret k49_217 ⟨rfl, rfl⟩
  · subst e17
    refine s_tsw k49_17 (inR_lit rfl) rfl ?_
    refine s_ald k49_209 rfl ?_
    refine s_ald k49_210 rfl ?_
    refine z_getIe (z := v) k49_211 rfl hv ?_
    refine z_putIe (q := 5) k49_214 (pl_st hd (by omega)) rfl ?_
    exact z_vret k49_217 ⟨rfl, rfl⟩
set_option maxRecDepth 20000 in
theorem c50 {d : Nat} {I : Nat → Int → Int} {P : Int → Nat} {dr : Nat} {σ : Nat → Int → Int} (hd : isPl dr) {p j : Int} (hp : I 35 9 = p) (hj : I 35 10 = j) (j0 : 0 ≤ j) (j1 : j ≤ 2) (p0 : 0 ≤ p) (p1 : p ≤ 21) : cal (d + 2) 50 [vr 35] I P dr (ans (vi (if p = 8 then 4 else if p = 21 then 4 else if p = 15 then 24 + (if j < 2 then 4 else 0) else if p = 16 then 8 + (if j < 2 then 4 else 0) else if npP p then 2 else 1)) I P dr) := by
  refine cal_in (Nat.le_of_ble_eq_true rfl) ?_
  show wp _ _ _ _ 0 [vr 35, vj] [] _
  refine s_ald k50_0 rfl ?_
  refine z_getIe (z := j) k50_1 rfl hj ?_
  refine z_push k50_4 ?_
  refine z_iadd k50_5 ?_
  refine z_push k50_6 ?_
  refine s_icge k50_7 ⟨by omega, by omega⟩ (inR_lit rfl) (fun h7 => ?_) (fun h7 => ?_)
  · refine z_push k50_14 ?_
    refine s_ist1 k50_15 rfl ?_
    refine s_ald k50_16 rfl ?_
    refine z_getIe (z := p) k50_17 rfl hp ?_
    rcases (show p = 0 ∨ p = 1 ∨ p = 2 ∨ p = 3 ∨ p = 4 ∨ p = 5 ∨ p = 6 ∨ p = 7 ∨ p = 8 ∨ p = 9 ∨ p = 10 ∨ p = 11 ∨ p = 12 ∨ p = 13 ∨ p = 14 ∨ p = 15 ∨ p = 16 ∨ p = 17 ∨ p = 18 ∨ p = 19 ∨ p = 20 ∨ p = 21 from by omega) with e20 | e20 | e20 | e20 | e20 | e20 | e20 | e20 | e20 | e20 | e20 | e20 | e20 | e20 | e20 | e20 | e20 | e20 | e20 | e20 | e20 | e20
    · subst e20
      refine s_lsw k50_20 (inR_lit rfl) rfl ?_
      refine s_ald k50_76 rfl ?_
      refine z_getIe (z := 0) k50_77 rfl hp ?_
      refine z_sta1A k50_80 (Nat.le_of_ble_eq_true rfl) (c46 (p := 0) (by decide) (by decide)) ?_
      refine z_ifeqb k50_83 (fun h83 => ?_) (fun h83 => ?_)
      · refine z_push k50_90 ?_
        first | exact z_iret k50_91 (ans_i rfl) | exact absurd h83 (by decide)
      · refine z_push k50_86 ?_
        refine z_goto k50_87 ?_
        first | exact z_iret k50_91 (ans_i rfl) | exact absurd h83 (by decide)
    · subst e20
      refine s_lsw k50_20 (inR_lit rfl) rfl ?_
      refine s_ald k50_76 rfl ?_
      refine z_getIe (z := 1) k50_77 rfl hp ?_
      refine z_sta1A k50_80 (Nat.le_of_ble_eq_true rfl) (c46 (p := 1) (by decide) (by decide)) ?_
      refine z_ifeqb k50_83 (fun h83 => ?_) (fun h83 => ?_)
      · refine z_push k50_90 ?_
        first | exact z_iret k50_91 (ans_i rfl) | exact absurd h83 (by decide)
      · refine z_push k50_86 ?_
        refine z_goto k50_87 ?_
        first | exact z_iret k50_91 (ans_i rfl) | exact absurd h83 (by decide)
    · subst e20
      refine s_lsw k50_20 (inR_lit rfl) rfl ?_
      refine s_ald k50_76 rfl ?_
      refine z_getIe (z := 2) k50_77 rfl hp ?_
      refine z_sta1A k50_80 (Nat.le_of_ble_eq_true rfl) (c46 (p := 2) (by decide) (by decide)) ?_
      refine z_ifeqb k50_83 (fun h83 => ?_) (fun h83 => ?_)
      · refine z_push k50_90 ?_
        first | exact z_iret k50_91 (ans_i rfl) | exact absurd h83 (by decide)
      · refine z_push k50_86 ?_
        refine z_goto k50_87 ?_
        first | exact z_iret k50_91 (ans_i rfl) | exact absurd h83 (by decide)
    · subst e20
      refine s_lsw k50_20 (inR_lit rfl) rfl ?_
      refine s_ald k50_76 rfl ?_
      refine z_getIe (z := 3) k50_77 rfl hp ?_
      refine z_sta1A k50_80 (Nat.le_of_ble_eq_true rfl) (c46 (p := 3) (by decide) (by decide)) ?_
      refine z_ifeqb k50_83 (fun h83 => ?_) (fun h83 => ?_)
      · refine z_push k50_90 ?_
        first | exact z_iret k50_91 (ans_i rfl) | exact absurd h83 (by decide)
      · refine z_push k50_86 ?_
        refine z_goto k50_87 ?_
        first | exact z_iret k50_91 (ans_i rfl) | exact absurd h83 (by decide)
    · subst e20
      refine s_lsw k50_20 (inR_lit rfl) rfl ?_
      refine s_ald k50_76 rfl ?_
      refine z_getIe (z := 4) k50_77 rfl hp ?_
      refine z_sta1A k50_80 (Nat.le_of_ble_eq_true rfl) (c46 (p := 4) (by decide) (by decide)) ?_
      refine z_ifeqb k50_83 (fun h83 => ?_) (fun h83 => ?_)
      · refine z_push k50_90 ?_
        first | exact z_iret k50_91 (ans_i rfl) | exact absurd h83 (by decide)
      · refine z_push k50_86 ?_
        refine z_goto k50_87 ?_
        first | exact z_iret k50_91 (ans_i rfl) | exact absurd h83 (by decide)
    · subst e20
      refine s_lsw k50_20 (inR_lit rfl) rfl ?_
      refine s_ald k50_76 rfl ?_
      refine z_getIe (z := 5) k50_77 rfl hp ?_
      refine z_sta1A k50_80 (Nat.le_of_ble_eq_true rfl) (c46 (p := 5) (by decide) (by decide)) ?_
      refine z_ifeqb k50_83 (fun h83 => ?_) (fun h83 => ?_)
      · refine z_push k50_90 ?_
        first | exact z_iret k50_91 (ans_i rfl) | exact absurd h83 (by decide)
      · refine z_push k50_86 ?_
        refine z_goto k50_87 ?_
        first | exact z_iret k50_91 (ans_i rfl) | exact absurd h83 (by decide)
    · subst e20
      refine s_lsw k50_20 (inR_lit rfl) rfl ?_
      refine s_ald k50_76 rfl ?_
      refine z_getIe (z := 6) k50_77 rfl hp ?_
      refine z_sta1A k50_80 (Nat.le_of_ble_eq_true rfl) (c46 (p := 6) (by decide) (by decide)) ?_
      refine z_ifeqb k50_83 (fun h83 => ?_) (fun h83 => ?_)
      · refine z_push k50_90 ?_
        first | exact z_iret k50_91 (ans_i rfl) | exact absurd h83 (by decide)
      · refine z_push k50_86 ?_
        refine z_goto k50_87 ?_
        first | exact z_iret k50_91 (ans_i rfl) | exact absurd h83 (by decide)
    · subst e20
      refine s_lsw k50_20 (inR_lit rfl) rfl ?_
      refine s_ald k50_76 rfl ?_
      refine z_getIe (z := 7) k50_77 rfl hp ?_
      refine z_sta1A k50_80 (Nat.le_of_ble_eq_true rfl) (c46 (p := 7) (by decide) (by decide)) ?_
      refine z_ifeqb k50_83 (fun h83 => ?_) (fun h83 => ?_)
      · refine z_push k50_90 ?_
        first | exact z_iret k50_91 (ans_i rfl) | exact absurd h83 (by decide)
      · refine z_push k50_86 ?_
        refine z_goto k50_87 ?_
        first | exact z_iret k50_91 (ans_i rfl) | exact absurd h83 (by decide)
    · subst e20
      refine s_lsw k50_20 (inR_lit rfl) rfl ?_
      refine z_push k50_64 ?_
      exact z_iret k50_65 (ans_i rfl)
    · subst e20
      refine s_lsw k50_20 (inR_lit rfl) rfl ?_
      refine s_ald k50_76 rfl ?_
      refine z_getIe (z := 9) k50_77 rfl hp ?_
      refine z_sta1A k50_80 (Nat.le_of_ble_eq_true rfl) (c46 (p := 9) (by decide) (by decide)) ?_
      refine z_ifeqb k50_83 (fun h83 => ?_) (fun h83 => ?_)
      · refine z_push k50_90 ?_
        first | exact z_iret k50_91 (ans_i rfl) | exact absurd h83 (by decide)
      · refine z_push k50_86 ?_
        refine z_goto k50_87 ?_
        first | exact z_iret k50_91 (ans_i rfl) | exact absurd h83 (by decide)
    · subst e20
      refine s_lsw k50_20 (inR_lit rfl) rfl ?_
      refine s_ald k50_76 rfl ?_
      refine z_getIe (z := 10) k50_77 rfl hp ?_
      refine z_sta1A k50_80 (Nat.le_of_ble_eq_true rfl) (c46 (p := 10) (by decide) (by decide)) ?_
      refine z_ifeqb k50_83 (fun h83 => ?_) (fun h83 => ?_)
      · refine z_push k50_90 ?_
        first | exact z_iret k50_91 (ans_i rfl) | exact absurd h83 (by decide)
      · refine z_push k50_86 ?_
        refine z_goto k50_87 ?_
        first | exact z_iret k50_91 (ans_i rfl) | exact absurd h83 (by decide)
    · subst e20
      refine s_lsw k50_20 (inR_lit rfl) rfl ?_
      refine s_ald k50_76 rfl ?_
      refine z_getIe (z := 11) k50_77 rfl hp ?_
      refine z_sta1A k50_80 (Nat.le_of_ble_eq_true rfl) (c46 (p := 11) (by decide) (by decide)) ?_
      refine z_ifeqb k50_83 (fun h83 => ?_) (fun h83 => ?_)
      · refine z_push k50_90 ?_
        first | exact z_iret k50_91 (ans_i rfl) | exact absurd h83 (by decide)
      · refine z_push k50_86 ?_
        refine z_goto k50_87 ?_
        first | exact z_iret k50_91 (ans_i rfl) | exact absurd h83 (by decide)
    · subst e20
      refine s_lsw k50_20 (inR_lit rfl) rfl ?_
      refine s_ald k50_76 rfl ?_
      refine z_getIe (z := 12) k50_77 rfl hp ?_
      refine z_sta1A k50_80 (Nat.le_of_ble_eq_true rfl) (c46 (p := 12) (by decide) (by decide)) ?_
      refine z_ifeqb k50_83 (fun h83 => ?_) (fun h83 => ?_)
      · refine z_push k50_90 ?_
        first | exact z_iret k50_91 (ans_i rfl) | exact absurd h83 (by decide)
      · refine z_push k50_86 ?_
        refine z_goto k50_87 ?_
        first | exact z_iret k50_91 (ans_i rfl) | exact absurd h83 (by decide)
    · subst e20
      refine s_lsw k50_20 (inR_lit rfl) rfl ?_
      refine s_ald k50_76 rfl ?_
      refine z_getIe (z := 13) k50_77 rfl hp ?_
      refine z_sta1A k50_80 (Nat.le_of_ble_eq_true rfl) (c46 (p := 13) (by decide) (by decide)) ?_
      refine z_ifeqb k50_83 (fun h83 => ?_) (fun h83 => ?_)
      · refine z_push k50_90 ?_
        first | exact z_iret k50_91 (ans_i rfl) | exact absurd h83 (by decide)
      · refine z_push k50_86 ?_
        refine z_goto k50_87 ?_
        first | exact z_iret k50_91 (ans_i rfl) | exact absurd h83 (by decide)
    · subst e20
      refine s_lsw k50_20 (inR_lit rfl) rfl ?_
      refine s_ald k50_76 rfl ?_
      refine z_getIe (z := 14) k50_77 rfl hp ?_
      refine z_sta1A k50_80 (Nat.le_of_ble_eq_true rfl) (c46 (p := 14) (by decide) (by decide)) ?_
      refine z_ifeqb k50_83 (fun h83 => ?_) (fun h83 => ?_)
      · refine z_push k50_90 ?_
        first | exact z_iret k50_91 (ans_i rfl) | exact absurd h83 (by decide)
      · refine z_push k50_86 ?_
        refine z_goto k50_87 ?_
        first | exact z_iret k50_91 (ans_i rfl) | exact absurd h83 (by decide)
    · subst e20
      refine s_lsw k50_20 (inR_lit rfl) rfl ?_
      refine z_push k50_66 ?_
      refine s_ild k50_68 rfl ?_
      refine z_ior k50_69 ?_
      refine z_iret k50_70 (ans_i ?_)
      show _ = _ + (if j < 2 then 4 else 0)
      rw [if_neg (by omega)]
      decide
    · subst e20
      refine s_lsw k50_20 (inR_lit rfl) rfl ?_
      refine z_push k50_71 ?_
      refine s_ild k50_73 rfl ?_
      refine z_ior k50_74 ?_
      refine z_iret k50_75 (ans_i ?_)
      show _ = _ + (if j < 2 then 4 else 0)
      rw [if_neg (by omega)]
      decide
    · subst e20
      refine s_lsw k50_20 (inR_lit rfl) rfl ?_
      refine s_ald k50_76 rfl ?_
      refine z_getIe (z := 17) k50_77 rfl hp ?_
      refine z_sta1A k50_80 (Nat.le_of_ble_eq_true rfl) (c46 (p := 17) (by decide) (by decide)) ?_
      refine z_ifeqb k50_83 (fun h83 => ?_) (fun h83 => ?_)
      · refine z_push k50_90 ?_
        first | exact z_iret k50_91 (ans_i rfl) | exact absurd h83 (by decide)
      · refine z_push k50_86 ?_
        refine z_goto k50_87 ?_
        first | exact z_iret k50_91 (ans_i rfl) | exact absurd h83 (by decide)
    · subst e20
      refine s_lsw k50_20 (inR_lit rfl) rfl ?_
      refine s_ald k50_76 rfl ?_
      refine z_getIe (z := 18) k50_77 rfl hp ?_
      refine z_sta1A k50_80 (Nat.le_of_ble_eq_true rfl) (c46 (p := 18) (by decide) (by decide)) ?_
      refine z_ifeqb k50_83 (fun h83 => ?_) (fun h83 => ?_)
      · refine z_push k50_90 ?_
        first | exact z_iret k50_91 (ans_i rfl) | exact absurd h83 (by decide)
      · refine z_push k50_86 ?_
        refine z_goto k50_87 ?_
        first | exact z_iret k50_91 (ans_i rfl) | exact absurd h83 (by decide)
    · subst e20
      refine s_lsw k50_20 (inR_lit rfl) rfl ?_
      refine s_ald k50_76 rfl ?_
      refine z_getIe (z := 19) k50_77 rfl hp ?_
      refine z_sta1A k50_80 (Nat.le_of_ble_eq_true rfl) (c46 (p := 19) (by decide) (by decide)) ?_
      refine z_ifeqb k50_83 (fun h83 => ?_) (fun h83 => ?_)
      · refine z_push k50_90 ?_
        first | exact z_iret k50_91 (ans_i rfl) | exact absurd h83 (by decide)
      · refine z_push k50_86 ?_
        refine z_goto k50_87 ?_
        first | exact z_iret k50_91 (ans_i rfl) | exact absurd h83 (by decide)
    · subst e20
      refine s_lsw k50_20 (inR_lit rfl) rfl ?_
      refine s_ald k50_76 rfl ?_
      refine z_getIe (z := 20) k50_77 rfl hp ?_
      refine z_sta1A k50_80 (Nat.le_of_ble_eq_true rfl) (c46 (p := 20) (by decide) (by decide)) ?_
      refine z_ifeqb k50_83 (fun h83 => ?_) (fun h83 => ?_)
      · refine z_push k50_90 ?_
        first | exact z_iret k50_91 (ans_i rfl) | exact absurd h83 (by decide)
      · refine z_push k50_86 ?_
        refine z_goto k50_87 ?_
        first | exact z_iret k50_91 (ans_i rfl) | exact absurd h83 (by decide)
    · subst e20
      refine s_lsw k50_20 (inR_lit rfl) rfl ?_
      refine z_push k50_64 ?_
      exact z_iret k50_65 (ans_i rfl)
  · refine z_push k50_10 ?_
    refine z_goto k50_11 ?_
    refine s_ist1 k50_15 rfl ?_
    refine s_ald k50_16 rfl ?_
    refine z_getIe (z := p) k50_17 rfl hp ?_
    rcases (show p = 0 ∨ p = 1 ∨ p = 2 ∨ p = 3 ∨ p = 4 ∨ p = 5 ∨ p = 6 ∨ p = 7 ∨ p = 8 ∨ p = 9 ∨ p = 10 ∨ p = 11 ∨ p = 12 ∨ p = 13 ∨ p = 14 ∨ p = 15 ∨ p = 16 ∨ p = 17 ∨ p = 18 ∨ p = 19 ∨ p = 20 ∨ p = 21 from by omega) with e20 | e20 | e20 | e20 | e20 | e20 | e20 | e20 | e20 | e20 | e20 | e20 | e20 | e20 | e20 | e20 | e20 | e20 | e20 | e20 | e20 | e20
    · subst e20
      refine s_lsw k50_20 (inR_lit rfl) rfl ?_
      refine s_ald k50_76 rfl ?_
      refine z_getIe (z := 0) k50_77 rfl hp ?_
      refine z_sta1A k50_80 (Nat.le_of_ble_eq_true rfl) (c46 (p := 0) (by decide) (by decide)) ?_
      refine z_ifeqb k50_83 (fun h83 => ?_) (fun h83 => ?_)
      · refine z_push k50_90 ?_
        first | exact z_iret k50_91 (ans_i rfl) | exact absurd h83 (by decide)
      · refine z_push k50_86 ?_
        refine z_goto k50_87 ?_
        first | exact z_iret k50_91 (ans_i rfl) | exact absurd h83 (by decide)
    · subst e20
      refine s_lsw k50_20 (inR_lit rfl) rfl ?_
      refine s_ald k50_76 rfl ?_
      refine z_getIe (z := 1) k50_77 rfl hp ?_
      refine z_sta1A k50_80 (Nat.le_of_ble_eq_true rfl) (c46 (p := 1) (by decide) (by decide)) ?_
      refine z_ifeqb k50_83 (fun h83 => ?_) (fun h83 => ?_)
      · refine z_push k50_90 ?_
        first | exact z_iret k50_91 (ans_i rfl) | exact absurd h83 (by decide)
      · refine z_push k50_86 ?_
        refine z_goto k50_87 ?_
        first | exact z_iret k50_91 (ans_i rfl) | exact absurd h83 (by decide)
    · subst e20
      refine s_lsw k50_20 (inR_lit rfl) rfl ?_
      refine s_ald k50_76 rfl ?_
      refine z_getIe (z := 2) k50_77 rfl hp ?_
      refine z_sta1A k50_80 (Nat.le_of_ble_eq_true rfl) (c46 (p := 2) (by decide) (by decide)) ?_
      refine z_ifeqb k50_83 (fun h83 => ?_) (fun h83 => ?_)
      · refine z_push k50_90 ?_
        first | exact z_iret k50_91 (ans_i rfl) | exact absurd h83 (by decide)
      · refine z_push k50_86 ?_
        refine z_goto k50_87 ?_
        first | exact z_iret k50_91 (ans_i rfl) | exact absurd h83 (by decide)
    · subst e20
      refine s_lsw k50_20 (inR_lit rfl) rfl ?_
      refine s_ald k50_76 rfl ?_
      refine z_getIe (z := 3) k50_77 rfl hp ?_
      refine z_sta1A k50_80 (Nat.le_of_ble_eq_true rfl) (c46 (p := 3) (by decide) (by decide)) ?_
      refine z_ifeqb k50_83 (fun h83 => ?_) (fun h83 => ?_)
      · refine z_push k50_90 ?_
        first | exact z_iret k50_91 (ans_i rfl) | exact absurd h83 (by decide)
      · refine z_push k50_86 ?_
        refine z_goto k50_87 ?_
        first | exact z_iret k50_91 (ans_i rfl) | exact absurd h83 (by decide)
    · subst e20
      refine s_lsw k50_20 (inR_lit rfl) rfl ?_
      refine s_ald k50_76 rfl ?_
      refine z_getIe (z := 4) k50_77 rfl hp ?_
      refine z_sta1A k50_80 (Nat.le_of_ble_eq_true rfl) (c46 (p := 4) (by decide) (by decide)) ?_
      refine z_ifeqb k50_83 (fun h83 => ?_) (fun h83 => ?_)
      · refine z_push k50_90 ?_
        first | exact z_iret k50_91 (ans_i rfl) | exact absurd h83 (by decide)
      · refine z_push k50_86 ?_
        refine z_goto k50_87 ?_
        first | exact z_iret k50_91 (ans_i rfl) | exact absurd h83 (by decide)
    · subst e20
      refine s_lsw k50_20 (inR_lit rfl) rfl ?_
      refine s_ald k50_76 rfl ?_
      refine z_getIe (z := 5) k50_77 rfl hp ?_
      refine z_sta1A k50_80 (Nat.le_of_ble_eq_true rfl) (c46 (p := 5) (by decide) (by decide)) ?_
      refine z_ifeqb k50_83 (fun h83 => ?_) (fun h83 => ?_)
      · refine z_push k50_90 ?_
        first | exact z_iret k50_91 (ans_i rfl) | exact absurd h83 (by decide)
      · refine z_push k50_86 ?_
        refine z_goto k50_87 ?_
        first | exact z_iret k50_91 (ans_i rfl) | exact absurd h83 (by decide)
    · subst e20
      refine s_lsw k50_20 (inR_lit rfl) rfl ?_
      refine s_ald k50_76 rfl ?_
      refine z_getIe (z := 6) k50_77 rfl hp ?_
      refine z_sta1A k50_80 (Nat.le_of_ble_eq_true rfl) (c46 (p := 6) (by decide) (by decide)) ?_
      refine z_ifeqb k50_83 (fun h83 => ?_) (fun h83 => ?_)
      · refine z_push k50_90 ?_
        first | exact z_iret k50_91 (ans_i rfl) | exact absurd h83 (by decide)
      · refine z_push k50_86 ?_
        refine z_goto k50_87 ?_
        first | exact z_iret k50_91 (ans_i rfl) | exact absurd h83 (by decide)
    · subst e20
      refine s_lsw k50_20 (inR_lit rfl) rfl ?_
      refine s_ald k50_76 rfl ?_
      refine z_getIe (z := 7) k50_77 rfl hp ?_
      refine z_sta1A k50_80 (Nat.le_of_ble_eq_true rfl) (c46 (p := 7) (by decide) (by decide)) ?_
      refine z_ifeqb k50_83 (fun h83 => ?_) (fun h83 => ?_)
      · refine z_push k50_90 ?_
        first | exact z_iret k50_91 (ans_i rfl) | exact absurd h83 (by decide)
      · refine z_push k50_86 ?_
        refine z_goto k50_87 ?_
        first | exact z_iret k50_91 (ans_i rfl) | exact absurd h83 (by decide)
    · subst e20
      refine s_lsw k50_20 (inR_lit rfl) rfl ?_
      refine z_push k50_64 ?_
      exact z_iret k50_65 (ans_i rfl)
    · subst e20
      refine s_lsw k50_20 (inR_lit rfl) rfl ?_
      refine s_ald k50_76 rfl ?_
      refine z_getIe (z := 9) k50_77 rfl hp ?_
      refine z_sta1A k50_80 (Nat.le_of_ble_eq_true rfl) (c46 (p := 9) (by decide) (by decide)) ?_
      refine z_ifeqb k50_83 (fun h83 => ?_) (fun h83 => ?_)
      · refine z_push k50_90 ?_
        first | exact z_iret k50_91 (ans_i rfl) | exact absurd h83 (by decide)
      · refine z_push k50_86 ?_
        refine z_goto k50_87 ?_
        first | exact z_iret k50_91 (ans_i rfl) | exact absurd h83 (by decide)
    · subst e20
      refine s_lsw k50_20 (inR_lit rfl) rfl ?_
      refine s_ald k50_76 rfl ?_
      refine z_getIe (z := 10) k50_77 rfl hp ?_
      refine z_sta1A k50_80 (Nat.le_of_ble_eq_true rfl) (c46 (p := 10) (by decide) (by decide)) ?_
      refine z_ifeqb k50_83 (fun h83 => ?_) (fun h83 => ?_)
      · refine z_push k50_90 ?_
        first | exact z_iret k50_91 (ans_i rfl) | exact absurd h83 (by decide)
      · refine z_push k50_86 ?_
        refine z_goto k50_87 ?_
        first | exact z_iret k50_91 (ans_i rfl) | exact absurd h83 (by decide)
    · subst e20
      refine s_lsw k50_20 (inR_lit rfl) rfl ?_
      refine s_ald k50_76 rfl ?_
      refine z_getIe (z := 11) k50_77 rfl hp ?_
      refine z_sta1A k50_80 (Nat.le_of_ble_eq_true rfl) (c46 (p := 11) (by decide) (by decide)) ?_
      refine z_ifeqb k50_83 (fun h83 => ?_) (fun h83 => ?_)
      · refine z_push k50_90 ?_
        first | exact z_iret k50_91 (ans_i rfl) | exact absurd h83 (by decide)
      · refine z_push k50_86 ?_
        refine z_goto k50_87 ?_
        first | exact z_iret k50_91 (ans_i rfl) | exact absurd h83 (by decide)
    · subst e20
      refine s_lsw k50_20 (inR_lit rfl) rfl ?_
      refine s_ald k50_76 rfl ?_
      refine z_getIe (z := 12) k50_77 rfl hp ?_
      refine z_sta1A k50_80 (Nat.le_of_ble_eq_true rfl) (c46 (p := 12) (by decide) (by decide)) ?_
      refine z_ifeqb k50_83 (fun h83 => ?_) (fun h83 => ?_)
      · refine z_push k50_90 ?_
        first | exact z_iret k50_91 (ans_i rfl) | exact absurd h83 (by decide)
      · refine z_push k50_86 ?_
        refine z_goto k50_87 ?_
        first | exact z_iret k50_91 (ans_i rfl) | exact absurd h83 (by decide)
    · subst e20
      refine s_lsw k50_20 (inR_lit rfl) rfl ?_
      refine s_ald k50_76 rfl ?_
      refine z_getIe (z := 13) k50_77 rfl hp ?_
      refine z_sta1A k50_80 (Nat.le_of_ble_eq_true rfl) (c46 (p := 13) (by decide) (by decide)) ?_
      refine z_ifeqb k50_83 (fun h83 => ?_) (fun h83 => ?_)
      · refine z_push k50_90 ?_
        first | exact z_iret k50_91 (ans_i rfl) | exact absurd h83 (by decide)
      · refine z_push k50_86 ?_
        refine z_goto k50_87 ?_
        first | exact z_iret k50_91 (ans_i rfl) | exact absurd h83 (by decide)
    · subst e20
      refine s_lsw k50_20 (inR_lit rfl) rfl ?_
      refine s_ald k50_76 rfl ?_
      refine z_getIe (z := 14) k50_77 rfl hp ?_
      refine z_sta1A k50_80 (Nat.le_of_ble_eq_true rfl) (c46 (p := 14) (by decide) (by decide)) ?_
      refine z_ifeqb k50_83 (fun h83 => ?_) (fun h83 => ?_)
      · refine z_push k50_90 ?_
        first | exact z_iret k50_91 (ans_i rfl) | exact absurd h83 (by decide)
      · refine z_push k50_86 ?_
        refine z_goto k50_87 ?_
        first | exact z_iret k50_91 (ans_i rfl) | exact absurd h83 (by decide)
    · subst e20
      refine s_lsw k50_20 (inR_lit rfl) rfl ?_
      refine z_push k50_66 ?_
      refine s_ild k50_68 rfl ?_
      refine z_ior k50_69 ?_
      refine z_iret k50_70 (ans_i ?_)
      show _ = _ + (if j < 2 then 4 else 0)
      rw [if_pos (by omega)]
      decide
    · subst e20
      refine s_lsw k50_20 (inR_lit rfl) rfl ?_
      refine z_push k50_71 ?_
      refine s_ild k50_73 rfl ?_
      refine z_ior k50_74 ?_
      refine z_iret k50_75 (ans_i ?_)
      show _ = _ + (if j < 2 then 4 else 0)
      rw [if_pos (by omega)]
      decide
    · subst e20
      refine s_lsw k50_20 (inR_lit rfl) rfl ?_
      refine s_ald k50_76 rfl ?_
      refine z_getIe (z := 17) k50_77 rfl hp ?_
      refine z_sta1A k50_80 (Nat.le_of_ble_eq_true rfl) (c46 (p := 17) (by decide) (by decide)) ?_
      refine z_ifeqb k50_83 (fun h83 => ?_) (fun h83 => ?_)
      · refine z_push k50_90 ?_
        first | exact z_iret k50_91 (ans_i rfl) | exact absurd h83 (by decide)
      · refine z_push k50_86 ?_
        refine z_goto k50_87 ?_
        first | exact z_iret k50_91 (ans_i rfl) | exact absurd h83 (by decide)
    · subst e20
      refine s_lsw k50_20 (inR_lit rfl) rfl ?_
      refine s_ald k50_76 rfl ?_
      refine z_getIe (z := 18) k50_77 rfl hp ?_
      refine z_sta1A k50_80 (Nat.le_of_ble_eq_true rfl) (c46 (p := 18) (by decide) (by decide)) ?_
      refine z_ifeqb k50_83 (fun h83 => ?_) (fun h83 => ?_)
      · refine z_push k50_90 ?_
        first | exact z_iret k50_91 (ans_i rfl) | exact absurd h83 (by decide)
      · refine z_push k50_86 ?_
        refine z_goto k50_87 ?_
        first | exact z_iret k50_91 (ans_i rfl) | exact absurd h83 (by decide)
    · subst e20
      refine s_lsw k50_20 (inR_lit rfl) rfl ?_
      refine s_ald k50_76 rfl ?_
      refine z_getIe (z := 19) k50_77 rfl hp ?_
      refine z_sta1A k50_80 (Nat.le_of_ble_eq_true rfl) (c46 (p := 19) (by decide) (by decide)) ?_
      refine z_ifeqb k50_83 (fun h83 => ?_) (fun h83 => ?_)
      · refine z_push k50_90 ?_
        first | exact z_iret k50_91 (ans_i rfl) | exact absurd h83 (by decide)
      · refine z_push k50_86 ?_
        refine z_goto k50_87 ?_
        first | exact z_iret k50_91 (ans_i rfl) | exact absurd h83 (by decide)
    · subst e20
      refine s_lsw k50_20 (inR_lit rfl) rfl ?_
      refine s_ald k50_76 rfl ?_
      refine z_getIe (z := 20) k50_77 rfl hp ?_
      refine z_sta1A k50_80 (Nat.le_of_ble_eq_true rfl) (c46 (p := 20) (by decide) (by decide)) ?_
      refine z_ifeqb k50_83 (fun h83 => ?_) (fun h83 => ?_)
      · refine z_push k50_90 ?_
        first | exact z_iret k50_91 (ans_i rfl) | exact absurd h83 (by decide)
      · refine z_push k50_86 ?_
        refine z_goto k50_87 ?_
        first | exact z_iret k50_91 (ans_i rfl) | exact absurd h83 (by decide)
    · subst e20
      refine s_lsw k50_20 (inR_lit rfl) rfl ?_
      refine z_push k50_64 ?_
      exact z_iret k50_65 (ans_i rfl)
theorem wa_b (p : Int) : 2 ≤ waS p ∧ waS p ≤ 12 := by
  unfold waS
  (repeat' split) <;> omega
set_option maxRecDepth 20000 in
theorem c41 {d : Nat} {I : Nat → Int → Int} {P : Int → Nat} {dr : Nat} {σ : Nat → Int → Int} (hd : isPl dr) {p j : Int} (hp : I 35 9 = p) (hj : I 35 10 = j) (j0 : 0 ≤ j) (j1 : j ≤ 2) (p0 : 0 ≤ p) (p1 : p ≤ 21) (hCt : CRt I σ) (hT : WFt σ) {b e : Nat} (h6 : I 35 6 = (b : Int)) (h7 : I 35 7 = (e : Int)) (hbe : b < e) (hem : e ≤ (σ 127 12).toNat) : cal (d + 2) 41 [vr 35] I P dr (fun o h => (¬ (tiP (σ 133) b e (waS p)) ∧ o = some (vi 0) ∧ h = (S0, I, RR P dr)) ∨ ((tiP (σ 133) b e (waS p)) ∧ o = some (vi 1) ∧ h = (S0, wcH I dr p j, RR P dr))) := by
  refine cal_in (Nat.le_of_ble_eq_true rfl) ?_
  have hdb := pl_b hd
  show wp _ _ _ _ 0 [vr 35] [] _
  refine s_ald k41_0 rfl ?_
  refine s_ald k41_1 rfl ?_
  refine z_getIe (z := p) k41_2 rfl hp ?_
  refine z_sta1A k41_5 (Nat.le_of_ble_eq_true rfl) (c45 (by omega) (by omega)) ?_
  refine z_inv1A k41_8 rfl (Nat.le_of_ble_eq_true rfl) (c44 hCt hT h6 h7 (wa_b p).1 (wa_b p).2 hbe hem) ?_
  refine z_ifneb k41_11 (fun h11 => ?_) (fun h11 => ?_)
  · refine s_ald k41_16 rfl ?_
    refine z_getIe (z := p) k41_17 rfl hp ?_
    refine z_push k41_20 ?_
    refine s_icne k41_22 ⟨by omega, by omega⟩ (inR_lit rfl) (fun h22 => ?_) (fun h22 => ?_)
    · refine s_ald k41_41 rfl ?_
      refine z_dupr k41_42 ?_
      refine z_getIe (z := p) k41_43 rfl hp ?_
      refine z_push k41_46 ?_
      refine z_iadd k41_47 ?_
      refine z_putIe (q := 9) k41_48 rfl rfl ?_
      refine z_push k41_51 ?_
      refine z_zret k41_52 (Or.inr rfl) (Or.inr ⟨h11, rfl, ?_⟩)
      unfold wcH
      rw [if_neg (by omega)]
    · refine s_ald k41_25 rfl ?_
      refine z_getRe (b := dr) k41_26 rfl rr_dr ?_
      refine z_getRe (b := dr + 1) k41_29 (pl_sh hd) (rr_st5 hd) ?_
      refine s_ald k41_32 rfl ?_
      refine z_getIe (z := j) k41_33 rfl hj ?_
      refine z_aalde (b := dr + 2 + j.toNat) k41_36 (by rw [pl_sa hd]) (by omega) (by rw [pl_sa hd]; show j < ((3 : Nat) : Int); omega) (rr_stj hd (by omega) (by omega)) ?_
      refine z_push k41_37 ?_
      refine z_putZe (q := 3) k41_38 (pl_st hd (by omega)) rfl (Or.inr rfl) ?_
      refine s_ald k41_41 rfl ?_
      refine z_dupr k41_42 ?_
      refine z_getIe (z := p) k41_43 rfl ((up_ne (by omega)).trans hp) ?_
      refine z_push k41_46 ?_
      refine z_iadd k41_47 ?_
      refine z_putIe (q := 9) k41_48 rfl rfl ?_
      refine z_push k41_51 ?_
      refine z_zret k41_52 (Or.inr rfl) (Or.inr ⟨h11, rfl, ?_⟩)
      unfold wcH
      rw [if_pos (by omega), h22]
      rfl
  · refine z_push k41_14 ?_
    exact z_zret k41_15 (Or.inl rfl) (Or.inl ⟨h11, rfl, rfl⟩)
set_option maxRecDepth 20000 in
theorem c42 {d : Nat} {I : Nat → Int → Int} {P : Int → Nat} {dr : Nat} {σ : Nat → Int → Int} (hd : isPl dr) {p j : Int} (hp : I 35 9 = p) (hj : I 35 10 = j) (j0 : 0 ≤ j) (j1 : j ≤ 2) (p0 : 0 ≤ p) (p1 : p ≤ 21) {v : Int} (hv : I 35 8 = v) (v0 : 0 ≤ v) (v1 : v ≤ 99) (b2 : 0 ≤ σ 127 2 ∧ σ 127 2 ≤ 8) (hw : p = 20 → 0 ≤ (I (dr + 2 + j.toNat) 4) ∧ (I (dr + 2 + j.toNat) 4) ≤ 6) : cal (d + 2) 42 [vr 35, vi (σ 127 2)] I P dr (fun o h => (¬ (npP p ∧ lcS p (I (dr + 2 + j.toNat) 4) ≤ v ∧ v ≤ hcS σ p (I (dr + 2 + j.toNat) 4)) ∧ o = some (vi 0) ∧ h = (S0, I, RR P dr)) ∨ ((npP p ∧ lcS p (I (dr + 2 + j.toNat) 4) ≤ v ∧ v ≤ hcS σ p (I (dr + 2 + j.toNat) 4)) ∧ o = some (vi 1) ∧ h = (S0, upI (kcH I dr p j v) 35 9 (p + 1), RR P dr))) := by
  refine cal_in (Nat.le_of_ble_eq_true rfl) ?_
  have hlb : npP p → -10 ≤ lcS p (I (dr + 2 + j.toNat) 4) ∧ lcS p (I (dr + 2 + j.toNat) 4) ≤ 100 := fun u => by
    unfold lcS
    (repeat' split) <;> omega
  have hhb : npP p → -10 ≤ hcS σ p (I (dr + 2 + j.toNat) 4) ∧ hcS σ p (I (dr + 2 + j.toNat) 4) ≤ 100 := fun u => by
    unfold hcS
    (repeat' split) <;> omega
  show wp _ _ _ _ 0 [vr 35, vi (σ 127 2)] [] _
  refine s_ald k42_0 rfl ?_
  refine z_getIe (z := p) k42_1 rfl hp ?_
  refine z_sta1A k42_4 (Nat.le_of_ble_eq_true rfl) (c46 (by omega) (by omega)) ?_
  refine z_ifeqb k42_7 (fun h7 => ?_) (fun h7 => ?_)
  · refine z_push k42_33 ?_
    exact z_zret k42_34 (Or.inl rfl) (Or.inl ⟨fun u => by first | exact h7 u.1 | (have := u.2; omega), rfl, rfl⟩)
  · refine s_ald k42_10 rfl ?_
    refine z_getIe (z := v) k42_11 rfl hv ?_
    refine s_ald k42_14 rfl ?_
    refine z_inv0A k42_15 rfl (Nat.le_of_ble_eq_true rfl) (c47 (σ := σ) hd hp hj j0 j1 (by omega) (by omega)) ?_
    have hlb := hlb h7
    have hhb := hhb h7
    refine s_iclt k42_18 ⟨by omega, by omega⟩ ⟨by omega, by omega⟩ (fun h18 => ?_) (fun h18 => ?_)
    · refine z_push k42_33 ?_
      exact z_zret k42_34 (Or.inl rfl) (Or.inl ⟨fun u => by first | exact h7 u.1 | (have := u.2; omega), rfl, rfl⟩)
    · refine s_ald k42_21 rfl ?_
      refine z_getIe (z := v) k42_22 rfl hv ?_
      refine s_ald k42_25 rfl ?_
      refine s_ild k42_26 rfl ?_
      refine z_inv1A k42_27 rfl (Nat.le_of_ble_eq_true rfl) (c48 hd hp hj j0 j1 (by omega) (by omega)) ?_
      refine s_icle k42_30 ⟨by omega, by omega⟩ ⟨by omega, by omega⟩ (fun h30 => ?_) (fun h30 => ?_)
      · refine s_ald k42_35 rfl ?_
        refine z_inv0 k42_36 rfl (Nat.le_of_ble_eq_true rfl) (c49 (σ := σ) hd hp hj j0 j1 hv (by first | exact h7)) (fun o h1 hq => ?_)
        obtain ⟨rfl, rfl⟩ := hq
        refine s_ald k42_39 rfl ?_
        refine z_dupr k42_40 ?_
        refine z_getIe (z := p) k42_41 rfl ((kc_x j0 (by omega) (pl_b hd).1).2.2.1.trans hp) ?_
        refine z_push k42_44 ?_
        refine z_iadd k42_45 ?_
        refine z_putIe (q := 9) k42_46 rfl rfl ?_
        refine z_push k42_49 ?_
        exact z_zret k42_50 (Or.inr rfl) (Or.inr ⟨⟨h7, by omega, by omega⟩, rfl, rfl⟩)
      · refine z_push k42_33 ?_
        exact z_zret k42_34 (Or.inl rfl) (Or.inl ⟨fun u => by first | exact h7 u.1 | (have := u.2; omega), rfl, rfl⟩)
set_option maxRecDepth 20000 in
theorem c43 {d : Nat} {I : Nat → Int → Int} {P : Int → Nat} {dr : Nat} {σ : Nat → Int → Int} (hd : isPl dr) {p j : Int} (hp : I 35 9 = p) (hj : I 35 10 = j) (j0 : 0 ≤ j) (j1 : j ≤ 2) (p0 : 0 ≤ p) (p1 : p ≤ 21) (hCt : CRt I σ) (hT : WFt σ) {b : Nat} (h6 : I 35 6 = (b : Int)) (hb : b < (σ 127 12).toNat) {c : Int} (hc : σ 133 (b : Int) = c) (hc2 : c = 58 ∨ c = 44) : cal (d + 1) 43 [vr 35] I P dr (fun o h => (¬ sgP p j c ∧ o = some (vi 0) ∧ h = (S0, I, RR P dr)) ∨ (sgP p j c ∧ o = some (vi 1) ∧ h = (S0, sgH I p j, RR P dr))) := by
  refine cal_in (Nat.le_of_ble_eq_true rfl) ?_
  have hm := hT.1
  show wp _ _ _ _ 0 [vr 35, vj] [] _
  refine s_ald k43_0 rfl ?_
  refine z_getRe (b := 36) k43_1 rfl rr_35_0 ?_
  refine s_ald k43_4 rfl ?_
  refine z_getIe (z := (b : Int)) k43_5 rfl h6 ?_
  refine z_ialde (z := c) k43_8 rfl (by omega) (show (b : Int) < ((160 : Nat) : Int) by omega) ((hCt.2 _ (by omega) (by omega)).trans hc) ?_
  refine s_ist1 k43_9 rfl ?_
  refine s_ald k43_10 rfl ?_
  refine z_getIe (z := p) k43_11 rfl hp ?_
  refine z_push k43_14 ?_
  refine s_icne k43_16 ⟨by omega, by omega⟩ (inR_lit rfl) (fun h16 => ?_) (fun h16 => ?_)
  · refine s_ald k43_25 rfl ?_
    refine z_getIe (z := p) k43_26 rfl hp ?_
    refine z_push k43_29 ?_
    refine s_icne k43_31 ⟨by omega, by omega⟩ (inR_lit rfl) (fun h31 => ?_) (fun h31 => ?_)
    · refine s_ald k43_48 rfl ?_
      refine z_getIe (z := p) k43_49 rfl hp ?_
      refine z_push k43_52 ?_
      refine s_iceq k43_54 ⟨by omega, by omega⟩ (inR_lit rfl) (fun h54 => ?_) (fun h54 => ?_)
      · refine s_ild k43_66 rfl ?_
        refine z_push k43_67 ?_
        refine s_icne k43_69 ⟨by omega, by omega⟩ (inR_lit rfl) (fun h69 => ?_) (fun h69 => ?_)
        · refine z_push k43_100 ?_
          exact z_zret k43_101 (Or.inl rfl) (Or.inl ⟨by omega, rfl, rfl⟩)
        · refine s_ald k43_72 rfl ?_
          refine z_getIe (z := j) k43_73 rfl hj ?_
          refine z_push k43_76 ?_
          refine z_iadd k43_77 ?_
          refine z_push k43_78 ?_
          refine s_icge k43_79 ⟨by omega, by omega⟩ (inR_lit rfl) (fun h79 => ?_) (fun h79 => ?_)
          · refine z_push k43_100 ?_
            exact z_zret k43_101 (Or.inl rfl) (Or.inl ⟨by omega, rfl, rfl⟩)
          · refine s_ald k43_82 rfl ?_
            refine z_dupr k43_83 ?_
            refine z_getIe (z := j) k43_84 rfl hj ?_
            refine z_push k43_87 ?_
            refine z_iadd k43_88 ?_
            refine z_putIe (q := 10) k43_89 rfl rfl ?_
            refine s_ald k43_92 rfl ?_
            refine z_push k43_93 ?_
            refine z_putIe (q := 9) k43_95 rfl rfl ?_
            refine z_push k43_98 ?_
            refine z_zret k43_99 (Or.inr rfl) (Or.inr ⟨by omega, rfl, ?_⟩)
            unfold sgH
            rw [if_neg (by omega)]
      · refine s_ald k43_57 rfl ?_
        refine z_getIe (z := p) k43_58 rfl hp ?_
        refine z_push k43_61 ?_
        refine s_icne k43_63 ⟨by omega, by omega⟩ (inR_lit rfl) (fun h63 => ?_) (fun h63 => ?_)
        · refine z_push k43_100 ?_
          exact z_zret k43_101 (Or.inl rfl) (Or.inl ⟨by omega, rfl, rfl⟩)
        · refine s_ild k43_66 rfl ?_
          refine z_push k43_67 ?_
          refine s_icne k43_69 ⟨by omega, by omega⟩ (inR_lit rfl) (fun h69 => ?_) (fun h69 => ?_)
          · refine z_push k43_100 ?_
            exact z_zret k43_101 (Or.inl rfl) (Or.inl ⟨by omega, rfl, rfl⟩)
          · refine s_ald k43_72 rfl ?_
            refine z_getIe (z := j) k43_73 rfl hj ?_
            refine z_push k43_76 ?_
            refine z_iadd k43_77 ?_
            refine z_push k43_78 ?_
            refine s_icge k43_79 ⟨by omega, by omega⟩ (inR_lit rfl) (fun h79 => ?_) (fun h79 => ?_)
            · refine z_push k43_100 ?_
              exact z_zret k43_101 (Or.inl rfl) (Or.inl ⟨by omega, rfl, rfl⟩)
            · refine s_ald k43_82 rfl ?_
              refine z_dupr k43_83 ?_
              refine z_getIe (z := j) k43_84 rfl hj ?_
              refine z_push k43_87 ?_
              refine z_iadd k43_88 ?_
              refine z_putIe (q := 10) k43_89 rfl rfl ?_
              refine s_ald k43_92 rfl ?_
              refine z_push k43_93 ?_
              refine z_putIe (q := 9) k43_95 rfl rfl ?_
              refine z_push k43_98 ?_
              refine z_zret k43_99 (Or.inr rfl) (Or.inr ⟨by omega, rfl, ?_⟩)
              unfold sgH
              rw [if_neg (by omega)]
    · refine s_ild k43_34 rfl ?_
      refine z_push k43_35 ?_
      refine s_icne k43_37 ⟨by omega, by omega⟩ (inR_lit rfl) (fun h37 => ?_) (fun h37 => ?_)
      · refine s_ald k43_48 rfl ?_
        refine z_getIe (z := p) k43_49 rfl hp ?_
        refine z_push k43_52 ?_
        refine s_iceq k43_54 ⟨by omega, by omega⟩ (inR_lit rfl) (fun h54 => ?_) (fun h54 => ?_)
        · refine s_ild k43_66 rfl ?_
          refine z_push k43_67 ?_
          refine s_icne k43_69 ⟨by omega, by omega⟩ (inR_lit rfl) (fun h69 => ?_) (fun h69 => ?_)
          · refine z_push k43_100 ?_
            exact z_zret k43_101 (Or.inl rfl) (Or.inl ⟨by omega, rfl, rfl⟩)
          · refine s_ald k43_72 rfl ?_
            refine z_getIe (z := j) k43_73 rfl hj ?_
            refine z_push k43_76 ?_
            refine z_iadd k43_77 ?_
            refine z_push k43_78 ?_
            refine s_icge k43_79 ⟨by omega, by omega⟩ (inR_lit rfl) (fun h79 => ?_) (fun h79 => ?_)
            · refine z_push k43_100 ?_
              exact z_zret k43_101 (Or.inl rfl) (Or.inl ⟨by omega, rfl, rfl⟩)
            · refine s_ald k43_82 rfl ?_
              refine z_dupr k43_83 ?_
              refine z_getIe (z := j) k43_84 rfl hj ?_
              refine z_push k43_87 ?_
              refine z_iadd k43_88 ?_
              refine z_putIe (q := 10) k43_89 rfl rfl ?_
              refine s_ald k43_92 rfl ?_
              refine z_push k43_93 ?_
              refine z_putIe (q := 9) k43_95 rfl rfl ?_
              refine z_push k43_98 ?_
              refine z_zret k43_99 (Or.inr rfl) (Or.inr ⟨by omega, rfl, ?_⟩)
              unfold sgH
              rw [if_neg (by omega)]
        · refine s_ald k43_57 rfl ?_
          refine z_getIe (z := p) k43_58 rfl hp ?_
          refine z_push k43_61 ?_
          refine s_icne k43_63 ⟨by omega, by omega⟩ (inR_lit rfl) (fun h63 => ?_) (fun h63 => ?_)
          · refine z_push k43_100 ?_
            exact z_zret k43_101 (Or.inl rfl) (Or.inl ⟨by omega, rfl, rfl⟩)
          · refine s_ild k43_66 rfl ?_
            refine z_push k43_67 ?_
            refine s_icne k43_69 ⟨by omega, by omega⟩ (inR_lit rfl) (fun h69 => ?_) (fun h69 => ?_)
            · refine z_push k43_100 ?_
              exact z_zret k43_101 (Or.inl rfl) (Or.inl ⟨by omega, rfl, rfl⟩)
            · refine s_ald k43_72 rfl ?_
              refine z_getIe (z := j) k43_73 rfl hj ?_
              refine z_push k43_76 ?_
              refine z_iadd k43_77 ?_
              refine z_push k43_78 ?_
              refine s_icge k43_79 ⟨by omega, by omega⟩ (inR_lit rfl) (fun h79 => ?_) (fun h79 => ?_)
              · refine z_push k43_100 ?_
                exact z_zret k43_101 (Or.inl rfl) (Or.inl ⟨by omega, rfl, rfl⟩)
              · refine s_ald k43_82 rfl ?_
                refine z_dupr k43_83 ?_
                refine z_getIe (z := j) k43_84 rfl hj ?_
                refine z_push k43_87 ?_
                refine z_iadd k43_88 ?_
                refine z_putIe (q := 10) k43_89 rfl rfl ?_
                refine s_ald k43_92 rfl ?_
                refine z_push k43_93 ?_
                refine z_putIe (q := 9) k43_95 rfl rfl ?_
                refine z_push k43_98 ?_
                refine z_zret k43_99 (Or.inr rfl) (Or.inr ⟨by omega, rfl, ?_⟩)
                unfold sgH
                rw [if_neg (by omega)]
      · refine s_ald k43_40 rfl ?_
        refine z_push k43_41 ?_
        refine z_putIe (q := 9) k43_43 rfl rfl ?_
        refine z_push k43_46 ?_
        refine z_zret k43_47 (Or.inr rfl) (Or.inr ⟨by omega, rfl, ?_⟩)
        unfold sgH
        rw [if_pos (by omega)]
  · refine s_ild k43_19 rfl ?_
    refine z_push k43_20 ?_
    refine s_iceq k43_22 ⟨by omega, by omega⟩ (inR_lit rfl) (fun h22 => ?_) (fun h22 => ?_)
    · refine s_ald k43_40 rfl ?_
      refine z_push k43_41 ?_
      refine z_putIe (q := 9) k43_43 rfl rfl ?_
      refine z_push k43_46 ?_
      refine z_zret k43_47 (Or.inr rfl) (Or.inr ⟨by omega, rfl, ?_⟩)
      unfold sgH
      rw [if_pos (by omega)]
    · refine s_ald k43_25 rfl ?_
      refine z_getIe (z := p) k43_26 rfl hp ?_
      refine z_push k43_29 ?_
      refine s_icne k43_31 ⟨by omega, by omega⟩ (inR_lit rfl) (fun h31 => ?_) (fun h31 => ?_)
      · refine s_ald k43_48 rfl ?_
        refine z_getIe (z := p) k43_49 rfl hp ?_
        refine z_push k43_52 ?_
        refine s_iceq k43_54 ⟨by omega, by omega⟩ (inR_lit rfl) (fun h54 => ?_) (fun h54 => ?_)
        · refine s_ild k43_66 rfl ?_
          refine z_push k43_67 ?_
          refine s_icne k43_69 ⟨by omega, by omega⟩ (inR_lit rfl) (fun h69 => ?_) (fun h69 => ?_)
          · refine z_push k43_100 ?_
            exact z_zret k43_101 (Or.inl rfl) (Or.inl ⟨by omega, rfl, rfl⟩)
          · refine s_ald k43_72 rfl ?_
            refine z_getIe (z := j) k43_73 rfl hj ?_
            refine z_push k43_76 ?_
            refine z_iadd k43_77 ?_
            refine z_push k43_78 ?_
            refine s_icge k43_79 ⟨by omega, by omega⟩ (inR_lit rfl) (fun h79 => ?_) (fun h79 => ?_)
            · refine z_push k43_100 ?_
              exact z_zret k43_101 (Or.inl rfl) (Or.inl ⟨by omega, rfl, rfl⟩)
            · refine s_ald k43_82 rfl ?_
              refine z_dupr k43_83 ?_
              refine z_getIe (z := j) k43_84 rfl hj ?_
              refine z_push k43_87 ?_
              refine z_iadd k43_88 ?_
              refine z_putIe (q := 10) k43_89 rfl rfl ?_
              refine s_ald k43_92 rfl ?_
              refine z_push k43_93 ?_
              refine z_putIe (q := 9) k43_95 rfl rfl ?_
              refine z_push k43_98 ?_
              refine z_zret k43_99 (Or.inr rfl) (Or.inr ⟨by omega, rfl, ?_⟩)
              unfold sgH
              rw [if_neg (by omega)]
        · refine s_ald k43_57 rfl ?_
          refine z_getIe (z := p) k43_58 rfl hp ?_
          refine z_push k43_61 ?_
          refine s_icne k43_63 ⟨by omega, by omega⟩ (inR_lit rfl) (fun h63 => ?_) (fun h63 => ?_)
          · refine z_push k43_100 ?_
            exact z_zret k43_101 (Or.inl rfl) (Or.inl ⟨by omega, rfl, rfl⟩)
          · refine s_ild k43_66 rfl ?_
            refine z_push k43_67 ?_
            refine s_icne k43_69 ⟨by omega, by omega⟩ (inR_lit rfl) (fun h69 => ?_) (fun h69 => ?_)
            · refine z_push k43_100 ?_
              exact z_zret k43_101 (Or.inl rfl) (Or.inl ⟨by omega, rfl, rfl⟩)
            · refine s_ald k43_72 rfl ?_
              refine z_getIe (z := j) k43_73 rfl hj ?_
              refine z_push k43_76 ?_
              refine z_iadd k43_77 ?_
              refine z_push k43_78 ?_
              refine s_icge k43_79 ⟨by omega, by omega⟩ (inR_lit rfl) (fun h79 => ?_) (fun h79 => ?_)
              · refine z_push k43_100 ?_
                exact z_zret k43_101 (Or.inl rfl) (Or.inl ⟨by omega, rfl, rfl⟩)
              · refine s_ald k43_82 rfl ?_
                refine z_dupr k43_83 ?_
                refine z_getIe (z := j) k43_84 rfl hj ?_
                refine z_push k43_87 ?_
                refine z_iadd k43_88 ?_
                refine z_putIe (q := 10) k43_89 rfl rfl ?_
                refine s_ald k43_92 rfl ?_
                refine z_push k43_93 ?_
                refine z_putIe (q := 9) k43_95 rfl rfl ?_
                refine z_push k43_98 ?_
                refine z_zret k43_99 (Or.inr rfl) (Or.inr ⟨by omega, rfl, ?_⟩)
                unfold sgH
                rw [if_neg (by omega)]
      · refine s_ild k43_34 rfl ?_
        refine z_push k43_35 ?_
        refine s_icne k43_37 ⟨by omega, by omega⟩ (inR_lit rfl) (fun h37 => ?_) (fun h37 => ?_)
        · refine s_ald k43_48 rfl ?_
          refine z_getIe (z := p) k43_49 rfl hp ?_
          refine z_push k43_52 ?_
          refine s_iceq k43_54 ⟨by omega, by omega⟩ (inR_lit rfl) (fun h54 => ?_) (fun h54 => ?_)
          · refine s_ild k43_66 rfl ?_
            refine z_push k43_67 ?_
            refine s_icne k43_69 ⟨by omega, by omega⟩ (inR_lit rfl) (fun h69 => ?_) (fun h69 => ?_)
            · refine z_push k43_100 ?_
              exact z_zret k43_101 (Or.inl rfl) (Or.inl ⟨by omega, rfl, rfl⟩)
            · refine s_ald k43_72 rfl ?_
              refine z_getIe (z := j) k43_73 rfl hj ?_
              refine z_push k43_76 ?_
              refine z_iadd k43_77 ?_
              refine z_push k43_78 ?_
              refine s_icge k43_79 ⟨by omega, by omega⟩ (inR_lit rfl) (fun h79 => ?_) (fun h79 => ?_)
              · refine z_push k43_100 ?_
                exact z_zret k43_101 (Or.inl rfl) (Or.inl ⟨by omega, rfl, rfl⟩)
              · refine s_ald k43_82 rfl ?_
                refine z_dupr k43_83 ?_
                refine z_getIe (z := j) k43_84 rfl hj ?_
                refine z_push k43_87 ?_
                refine z_iadd k43_88 ?_
                refine z_putIe (q := 10) k43_89 rfl rfl ?_
                refine s_ald k43_92 rfl ?_
                refine z_push k43_93 ?_
                refine z_putIe (q := 9) k43_95 rfl rfl ?_
                refine z_push k43_98 ?_
                refine z_zret k43_99 (Or.inr rfl) (Or.inr ⟨by omega, rfl, ?_⟩)
                unfold sgH
                rw [if_neg (by omega)]
          · refine s_ald k43_57 rfl ?_
            refine z_getIe (z := p) k43_58 rfl hp ?_
            refine z_push k43_61 ?_
            refine s_icne k43_63 ⟨by omega, by omega⟩ (inR_lit rfl) (fun h63 => ?_) (fun h63 => ?_)
            · refine z_push k43_100 ?_
              exact z_zret k43_101 (Or.inl rfl) (Or.inl ⟨by omega, rfl, rfl⟩)
            · refine s_ild k43_66 rfl ?_
              refine z_push k43_67 ?_
              refine s_icne k43_69 ⟨by omega, by omega⟩ (inR_lit rfl) (fun h69 => ?_) (fun h69 => ?_)
              · refine z_push k43_100 ?_
                exact z_zret k43_101 (Or.inl rfl) (Or.inl ⟨by omega, rfl, rfl⟩)
              · refine s_ald k43_72 rfl ?_
                refine z_getIe (z := j) k43_73 rfl hj ?_
                refine z_push k43_76 ?_
                refine z_iadd k43_77 ?_
                refine z_push k43_78 ?_
                refine s_icge k43_79 ⟨by omega, by omega⟩ (inR_lit rfl) (fun h79 => ?_) (fun h79 => ?_)
                · refine z_push k43_100 ?_
                  exact z_zret k43_101 (Or.inl rfl) (Or.inl ⟨by omega, rfl, rfl⟩)
                · refine s_ald k43_82 rfl ?_
                  refine z_dupr k43_83 ?_
                  refine z_getIe (z := j) k43_84 rfl hj ?_
                  refine z_push k43_87 ?_
                  refine z_iadd k43_88 ?_
                  refine z_putIe (q := 10) k43_89 rfl rfl ?_
                  refine s_ald k43_92 rfl ?_
                  refine z_push k43_93 ?_
                  refine z_putIe (q := 9) k43_95 rfl rfl ?_
                  refine z_push k43_98 ?_
                  refine z_zret k43_99 (Or.inr rfl) (Or.inr ⟨by omega, rfl, ?_⟩)
                  unfold sgH
                  rw [if_neg (by omega)]
        · refine s_ald k43_40 rfl ?_
          refine z_push k43_41 ?_
          refine z_putIe (q := 9) k43_43 rfl rfl ?_
          refine z_push k43_46 ?_
          refine z_zret k43_47 (Or.inr rfl) (Or.inr ⟨by omega, rfl, ?_⟩)
          unfold sgH
          rw [if_pos (by omega)]
