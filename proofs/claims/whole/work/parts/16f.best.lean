/-! the best night, the class: small methods -/
theorem sh_row {x j i : Nat} {v : Int} (hx : x < 4096) (hi : i < 3) (h : (i = j ∧ v = (x : Int)) ∨ (i ≠ j ∧ v = (nearN x : Int))) : yshl v (16 * (i : Int)) = ((rwN x j i * 2 ^ (16 * i) : Nat) : Int) := by
  have e : v = ((rwN x j i : Nat) : Int) := by
    unfold rwN
    rcases h with ⟨h1, h2⟩ | ⟨h1, h2⟩
    · rw [if_pos h1]; exact h2
    · rw [if_neg h1]; exact h2
  have hr := rw_lt (x := x) (i := j) (k := i) hx
  rw [e, show 16 * (i : Int) = ((16 * i : Nat) : Int) by omega]
  refine yshl_n (by omega) ?_
  rcases (show i = 0 ∨ i = 1 ∨ i = 2 by omega) with q | q | q <;> (subst q; omega)
set_option maxRecDepth 20000 in
theorem lp24 {d : Nat} {I : Nat → Int → Int} {P : Int → Nat} {dr : Nat} {x j : Nat} (hx : x < 4096) (hj : j < 3) : ∀ (m i : Nat), (i : Int) + m = 3 → wp (mcall MT CD (d + 0)) (CD 24) L0 (ans (vl ((tkN x j : Nat) : Int)) I P dr) 17 [vi (x : Int), vi (j : Int), vl ((nearN x : Nat) : Int), vj, vl ((tkP x j i : Nat) : Int), vj, vi (i : Int)] [] (S0, I, RR P dr) := by
  intro m
  induction m with
  | zero => 
    intro i hi
    have hr := rw_lt (x := x) (i := j) (k := i) hx
    have ht := tk_lt (x := x) (i := j) hx i
    have q1 : tkP x j i < 9223372036854775808 := Nat.lt_of_lt_of_le ht (Nat.le_trans (Nat.pow_le_pow_right (by decide) (show 16 * i ≤ 48 by omega)) (by decide))
    have q2 : i < 3 → rwN x j i * 2 ^ (16 * i) < 9223372036854775808 := fun u => by
      rcases (show i = 0 ∨ i = 1 ∨ i = 2 by omega) with q | q | q <;> (subst q; omega)
    refine s_ild k24_17 rfl ?_
    refine z_push k24_19 ?_
    refine s_icge k24_20 ⟨by omega, by omega⟩ (inR_lit rfl) (fun h20 => ?_) (fun q => absurd q (by omega))
    refine s_lld k24_52 rfl ?_
    have e : i = 3 := by omega
    subst e
    exact z_lret k24_54 ⟨rfl, rfl⟩
  | succ m ih => 
    intro i hi
    have hr := rw_lt (x := x) (i := j) (k := i) hx
    have ht := tk_lt (x := x) (i := j) hx i
    have q1 : tkP x j i < 9223372036854775808 := Nat.lt_of_lt_of_le ht (Nat.le_trans (Nat.pow_le_pow_right (by decide) (show 16 * i ≤ 48 by omega)) (by decide))
    have q2 : i < 3 → rwN x j i * 2 ^ (16 * i) < 9223372036854775808 := fun u => by
      rcases (show i = 0 ∨ i = 1 ∨ i = 2 by omega) with q | q | q <;> (subst q; omega)
    refine s_ild k24_17 rfl ?_
    refine z_push k24_19 ?_
    refine s_icge k24_20 ⟨by omega, by omega⟩ (inR_lit rfl) (fun q => absurd q (by omega)) (fun h20 => ?_)
    refine s_lld k24_23 rfl ?_
    refine s_ild k24_25 rfl ?_
    refine s_ild k24_27 rfl ?_
    refine s_icne k24_28 ⟨by omega, by omega⟩ ⟨by omega, by omega⟩ (fun h28 => ?_) (fun h28 => ?_)
    · refine s_lld k24_36 rfl ?_
      refine z_push k24_37 ?_
      refine s_ild k24_39 rfl ?_
      refine z_imul k24_41 ?_
      refine z_lshl k24_42 ?_
      refine z_eql (b := ((rwN x j i * 2 ^ (16 * i) : Nat) : Int)) (sh_row hx (by omega) (by first | exact Or.inl ⟨by omega, rfl⟩ | exact Or.inr ⟨by omega, rfl⟩)) ?_
      refine z_lor k24_43 ?_
      refine z_eql (b := ((tkP x j (i + 1) : Nat) : Int)) (yor_n q1 (q2 (by omega))) ?_
      refine s_lst4 k24_44 rfl ?_
      refine s_iinc6 k24_46 rfl ?_
      refine z_goto k24_49 ?_
      exact ih (i + 1) (by omega)
    · refine s_ild k24_31 rfl ?_
      refine z_i2l k24_32 ⟨by omega, by omega⟩ ?_
      refine z_goto k24_33 ?_
      refine z_push k24_37 ?_
      refine s_ild k24_39 rfl ?_
      refine z_imul k24_41 ?_
      refine z_lshl k24_42 ?_
      refine z_eql (b := ((rwN x j i * 2 ^ (16 * i) : Nat) : Int)) (sh_row hx (by omega) (by first | exact Or.inl ⟨by omega, rfl⟩ | exact Or.inr ⟨by omega, rfl⟩)) ?_
      refine z_lor k24_43 ?_
      refine z_eql (b := ((tkP x j (i + 1) : Nat) : Int)) (yor_n q1 (q2 (by omega))) ?_
      refine s_lst4 k24_44 rfl ?_
      refine s_iinc6 k24_46 rfl ?_
      refine z_goto k24_49 ?_
      exact ih (i + 1) (by omega)
theorem znr {x : Nat} (hx : x < 4096) : zor (zor (x : Int) (zshl (x : Int) 1)) (zshr (x : Int) 1) = ((nearN x : Nat) : Int) ∧ nearN x < 8192 := by
  have e1 : zshl (x : Int) 1 = ((x * 2 : Nat) : Int) := zshl_n (a := x) (k := 1) (by decide) (by omega)
  have e2 : zshr (x : Int) 1 = ((x / 2 : Nat) : Int) := zshr_n (a := x) (k := 1) (by decide) (by omega)
  have h1 : x ||| x * 2 < 8192 := Nat.or_lt_two_pow (n := 13) (by omega) (by omega)
  rw [e1, e2, zor_n (by omega) (by omega), zor_n (by omega) (by omega)]
  exact ⟨rfl, nr_lt (n := 12) hx⟩
set_option maxRecDepth 20000 in
theorem c24 {d : Nat} {I : Nat → Int → Int} {P : Int → Nat} {dr : Nat} {x j : Nat} (hx : x < 4096) (hj : j < 3) : cal (d + 1) 24 [vi (x : Int), vi (j : Int)] I P dr (ans (vl ((tkN x j : Nat) : Int)) I P dr) := by
  refine cal_in (Nat.le_of_ble_eq_true rfl) ?_
  have hz := znr hx
  have hz2 := hz.2
  show wp _ _ _ _ 0 [vi (x : Int), vi (j : Int), vj, vj, vj, vj, vj] [] _
  refine s_ild k24_0 rfl ?_
  refine s_ild k24_1 rfl ?_
  refine z_push k24_2 ?_
  refine z_ishl k24_3 ?_
  refine z_ior k24_4 ?_
  refine s_ild k24_5 rfl ?_
  refine z_push k24_6 ?_
  refine z_ishr k24_7 ?_
  refine z_ior k24_8 ?_
  refine z_eqi (b := ((nearN x : Nat) : Int)) hz.1 ?_
  refine z_i2l k24_9 ⟨by omega, by omega⟩ ?_
  refine s_lst2 k24_10 rfl ?_
  refine z_push k24_11 ?_
  refine s_lst4 k24_12 rfl ?_
  refine z_push k24_14 ?_
  refine s_ist6 k24_15 rfl ?_
  exact lp24 hx hj 3 0 (by decide)
set_option maxRecDepth 20000 in
theorem c23 {d : Nat} {I : Nat → Int → Int} {P : Int → Nat} {dr : Nat} {x j t : Nat} (hx : x < 4096) (hj : j < 3) (ht : t < 2 ^ 48) : cal (d + 1) 23 [vi (x : Int), vi (j : Int), vl (t : Int)] I P dr (ans (vi (b2i (t / 2 ^ (16 * j) &&& x = 0))) I P dr) := by
  refine cal_in (Nat.le_of_ble_eq_true rfl) ?_
  have hq : t / 2 ^ (16 * j) ≤ t := Nat.div_le_self _ _
  have hq2 : t / 2 ^ (16 * j) &&& x ≤ x := Nat.and_le_right
  show wp _ _ _ _ 0 [vi (x : Int), vi (j : Int), vl (t : Int), vj] [] _
  refine s_lld k23_0 rfl ?_
  refine z_push k23_1 ?_
  refine s_ild k23_3 rfl ?_
  refine z_imul k23_4 ?_
  refine z_lshr k23_5 ?_
  refine z_eql (b := ((t / 2 ^ (16 * j) : Nat) : Int)) (by rw [show 16 * (j : Int) = ((16 * j : Nat) : Int) by omega]; exact yshr_n (by omega) (by omega)) ?_
  refine s_ild k23_6 rfl ?_
  refine z_i2l k23_7 ⟨by omega, by omega⟩ ?_
  refine z_land k23_8 ?_
  refine z_eql (b := ((t / 2 ^ (16 * j) &&& x : Nat) : Int)) (yand_n (by omega) (by omega)) ?_
  refine z_push k23_9 ?_
  refine z_lcmp k23_10 ⟨by omega, by omega⟩ ⟨by decide, by decide⟩ ?_
  refine s_ifne k23_11 (mc_R _ _) (fun h11 => ?_) (fun h11 => ?_)
  · refine z_push k23_18 ?_
    exact z_zret k23_19 (by decide) (ans_i (b2i_f (by have := mc_0 (a := ((t / 2 ^ (16 * j) &&& x : Nat) : Int)) (b := ((0 : Nat) : Int)); omega)).symm)
  · refine z_push k23_14 ?_
    refine z_goto k23_15 ?_
    exact z_zret k23_19 (by decide) (ans_i (b2i_t (by have := mc_0 (a := ((t / 2 ^ (16 * j) &&& x : Nat) : Int)) (b := ((0 : Nat) : Int)); omega)).symm)
set_option maxRecDepth 20000 in
theorem c209 {d : Nat} {I : Nat → Int → Int} {P : Int → Nat} {dr : Nat} {x : Nat} (hx : x < 8192) : cal (d + 1) 209 [vl (x : Int)] I P dr (ans (vi ((pcN 16 x : Nat) : Int)) I P dr) := by
  refine cal_in (Nat.le_of_ble_eq_true rfl) ?_
  obtain ⟨x1, h1⟩ : ∃ x1, x1 = x - (x / 2 ^ 1 &&& 6148914691236517205) := ⟨_, rfl⟩
  obtain ⟨x2, h2⟩ : ∃ x2, x2 = (x1 &&& 3689348814741910323) + (x1 / 2 ^ 2 &&& 3689348814741910323) := ⟨_, rfl⟩
  obtain ⟨x3, h3⟩ : ∃ x3, x3 = (x2 + x2 / 2 ^ 4) &&& 1085102592571150095 := ⟨_, rfl⟩
  obtain ⟨x4, h4⟩ : ∃ x4, x4 = x3 + x3 / 2 ^ 8 := ⟨_, rfl⟩
  obtain ⟨x5, h5⟩ : ∃ x5, x5 = x4 + x4 / 2 ^ 16 := ⟨_, rfl⟩
  obtain ⟨x6, h6⟩ : ∃ x6, x6 = x5 + x5 / 2 ^ 32 := ⟨_, rfl⟩
  have a1 : x / 2 ^ 1 &&& 6148914691236517205 ≤ x / 2 ^ 1 := Nat.and_le_left
  have a2 : x1 &&& 3689348814741910323 ≤ x1 := Nat.and_le_left
  have a3 : x1 / 2 ^ 2 &&& 3689348814741910323 ≤ x1 / 2 ^ 2 := Nat.and_le_left
  have a4 : (x2 + x2 / 2 ^ 4) &&& 1085102592571150095 ≤ x2 + x2 / 2 ^ 4 := Nat.and_le_left
  have hbc : x6 &&& 127 = pcN 16 x := by rw [← bc_pc x hx, h6, h5, h4, h3, h2, h1]; rfl
  show wp _ _ _ _ 0 [vl (x : Int), vj] [] _
  refine s_lld k209_0 rfl ?_
  refine s_lld k209_1 rfl ?_
  refine z_push k209_2 ?_
  refine z_lushr k209_3 ?_
  refine z_eql (b := ((x / 2 ^ 1 : Nat) : Int)) (yushr_n (k := 1) (by decide) (by omega)) ?_
  refine z_push k209_4 ?_
  refine z_land k209_7 ?_
  refine z_eql (b := ((x / 2 ^ 1 &&& 6148914691236517205 : Nat) : Int)) (yand_n (by omega) (by decide)) ?_
  refine z_lsub k209_8 ?_
  refine z_eql (b := ((x1 : Nat) : Int)) (by omega) ?_
  refine s_lst0 k209_9 ?_
  refine s_lld k209_10 rfl ?_
  refine z_push k209_11 ?_
  refine z_land k209_14 ?_
  refine z_eql (b := ((x1 &&& 3689348814741910323 : Nat) : Int)) (yand_n (by omega) (by decide)) ?_
  refine s_lld k209_15 rfl ?_
  refine z_push k209_16 ?_
  refine z_lushr k209_17 ?_
  refine z_eql (b := ((x1 / 2 ^ 2 : Nat) : Int)) (yushr_n (k := 2) (by decide) (by omega)) ?_
  refine z_push k209_18 ?_
  refine z_land k209_21 ?_
  refine z_eql (b := ((x1 / 2 ^ 2 &&& 3689348814741910323 : Nat) : Int)) (yand_n (by omega) (by decide)) ?_
  refine z_ladd k209_22 ?_
  refine z_eql (b := ((x2 : Nat) : Int)) (by omega) ?_
  refine s_lst0 k209_23 ?_
  refine s_lld k209_24 rfl ?_
  refine s_lld k209_25 rfl ?_
  refine z_push k209_26 ?_
  refine z_lushr k209_27 ?_
  refine z_eql (b := ((x2 / 2 ^ 4 : Nat) : Int)) (yushr_n (k := 4) (by decide) (by omega)) ?_
  refine z_ladd k209_28 ?_
  refine z_eql (b := ((x2 + x2 / 2 ^ 4 : Nat) : Int)) (by omega) ?_
  refine z_push k209_29 ?_
  refine z_land k209_32 ?_
  refine z_eql (b := ((x3 : Nat) : Int)) (by rw [h3]; exact yand_n (by omega) (by decide)) ?_
  refine s_lst0 k209_33 ?_
  refine s_lld k209_34 rfl ?_
  refine s_lld k209_35 rfl ?_
  refine z_push k209_36 ?_
  refine z_lushr k209_38 ?_
  refine z_eql (b := ((x3 / 2 ^ 8 : Nat) : Int)) (yushr_n (k := 8) (by decide) (by omega)) ?_
  refine z_ladd k209_39 ?_
  refine z_eql (b := ((x4 : Nat) : Int)) (by omega) ?_
  refine s_lst0 k209_40 ?_
  refine s_lld k209_41 rfl ?_
  refine s_lld k209_42 rfl ?_
  refine z_push k209_43 ?_
  refine z_lushr k209_45 ?_
  refine z_eql (b := ((x4 / 2 ^ 16 : Nat) : Int)) (yushr_n (k := 16) (by decide) (by omega)) ?_
  refine z_ladd k209_46 ?_
  refine z_eql (b := ((x5 : Nat) : Int)) (by omega) ?_
  refine s_lst0 k209_47 ?_
  refine s_lld k209_48 rfl ?_
  refine s_lld k209_49 rfl ?_
  refine z_push k209_50 ?_
  refine z_lushr k209_52 ?_
  refine z_eql (b := ((x5 / 2 ^ 32 : Nat) : Int)) (yushr_n (k := 32) (by decide) (by omega)) ?_
  refine z_ladd k209_53 ?_
  refine z_eql (b := ((x6 : Nat) : Int)) (by omega) ?_
  refine s_lst0 k209_54 ?_
  refine s_lld k209_55 rfl ?_
  refine z_l2i k209_56 ?_
  refine z_push k209_57 ?_
  refine z_iand k209_59 ?_
  refine z_eqi (b := ((x6 &&& 127 : Nat) : Int)) (zand_n (by omega) (by decide)) ?_
  exact z_iret k209_60 (ans_i (by rw [hbc]))
set_option maxRecDepth 20000 in
theorem c18 {d : Nat} {I : Nat → Int → Int} {P : Int → Nat} {dr : Nat} {σ : Nat → Int → Int} {t : Nat} (hn : I 17 0 = σ 127 0) (ht : t < 2 ^ 48) (hal : anR t < 8192) : cal (d + 2) 18 [vr 69, vl (t : Int)] I P dr (ans (vi (σ 127 0 - ((pcN 16 (anR t) : Nat) : Int))) I P dr) := by
  refine cal_in (Nat.le_of_ble_eq_true rfl) ?_
  have g1 : t &&& t / 2 ^ 16 ≤ t := Nat.and_le_left
  have g2 : (t &&& t / 2 ^ 16) &&& t / 2 ^ 32 ≤ t &&& t / 2 ^ 16 := Nat.and_le_left
  show wp _ _ _ _ 0 [vr 69, vl (t : Int), vj] [] _
  refine s_ald k18_0 rfl ?_
  refine z_getRe (b := 17) k18_1 rfl rr_69_4 ?_
  refine z_getIe (z := σ 127 0) k18_4 rfl hn ?_
  refine s_lld k18_7 rfl ?_
  refine s_lld k18_8 rfl ?_
  refine z_push k18_9 ?_
  refine z_lshr k18_11 ?_
  refine z_eql (b := ((t / 2 ^ 16 : Nat) : Int)) (yshr_n (k := 16) (by decide) (by omega)) ?_
  refine z_land k18_12 ?_
  refine z_eql (b := ((t &&& t / 2 ^ 16 : Nat) : Int)) (yand_n (by omega) (by omega)) ?_
  refine s_lld k18_13 rfl ?_
  refine z_push k18_14 ?_
  refine z_lshr k18_16 ?_
  refine z_eql (b := ((t / 2 ^ 32 : Nat) : Int)) (yshr_n (k := 32) (by decide) (by omega)) ?_
  refine z_land k18_17 ?_
  refine z_eql (b := (((t &&& t / 2 ^ 16) &&& t / 2 ^ 32 : Nat) : Int)) (yand_n (by omega) (by omega)) ?_
  refine z_push k18_18 ?_
  refine z_land k18_21 ?_
  refine z_eql (b := ((anR t : Nat) : Int)) (yand_n (by omega) (by decide)) ?_
  refine z_sta1A k18_22 (Nat.le_of_ble_eq_true rfl) (c209 hal) ?_
  refine z_isub k18_25 ?_
  exact z_iret k18_26 (ans_i rfl)
set_option maxRecDepth 20000 in
theorem c19 {d : Nat} {I : Nat → Int → Int} {P : Int → Nat} {dr : Nat} {σ : Nat → Int → Int} {s t g : Nat} (hs : s < 32) (ht : t < 2 ^ 48) (hg : g < 1000) (hu : uS σ s (nP σ) < 2 ^ 48) (h116 : I 116 (s : Int) = ((uS σ s (nP σ) : Nat) : Int)) (h15 : I 69 15 = (g : Int)) : cal (d + 1) 19 [vr 69, vi (s : Int), vl (t : Int)] I P dr (ans (vl ((keyN g s (t &&& uS σ s (nP σ)) : Nat) : Int)) I P dr) := by
  refine cal_in (Nat.le_of_ble_eq_true rfl) ?_
  have hl : t &&& uS σ s (nP σ) < 2 ^ 48 := and_lt ht
  have ho : (t &&& uS σ s (nP σ)) ||| s * 2 ^ 48 < 9223372036854775808 := or63 (by omega) (by omega)
  show wp _ _ _ _ 0 [vr 69, vi (s : Int), vl (t : Int), vj] [] _
  refine s_lld k19_0 rfl ?_
  refine s_ald k19_1 rfl ?_
  refine z_getRe (b := 116) k19_2 rfl rr_69_13 ?_
  refine s_ild k19_5 rfl ?_
  refine z_lalde (z := ((uS σ s (nP σ) : Nat) : Int)) k19_6 rfl (by omega) (show (s : Int) < ((32 : Nat) : Int) by omega) h116 ?_
  refine z_land k19_7 ?_
  refine z_eql (b := ((t &&& uS σ s (nP σ) : Nat) : Int)) (yand_n (by omega) (by omega)) ?_
  refine s_ild k19_8 rfl ?_
  refine z_i2l k19_9 ⟨by omega, by omega⟩ ?_
  refine z_push k19_10 ?_
  refine z_lshl k19_12 ?_
  refine z_eql (b := ((s * 2 ^ 48 : Nat) : Int)) (yshl_n (k := 48) (by decide) (by omega)) ?_
  refine z_lor k19_13 ?_
  refine z_eql (b := (((t &&& uS σ s (nP σ)) ||| s * 2 ^ 48 : Nat) : Int)) (yor_n (by omega) (by omega)) ?_
  refine s_ald k19_14 rfl ?_
  refine z_getIe (z := (g : Int)) k19_15 rfl h15 ?_
  refine z_i2l k19_18 ⟨by omega, by omega⟩ ?_
  refine z_push k19_19 ?_
  refine z_lshl k19_21 ?_
  refine z_eql (b := ((g * 2 ^ 53 : Nat) : Int)) (yshl_n (k := 53) (by decide) (by omega)) ?_
  refine z_lor k19_22 ?_
  refine z_eql (b := ((keyN g s (t &&& uS σ s (nP σ)) : Nat) : Int)) (by rw [← key_or hl hs]; exact yor_n ho (by omega)) ?_
  exact z_lret k19_23 ⟨rfl, rfl⟩
set_option maxRecDepth 20000 in
theorem c20 {d : Nat} {I : Nat → Int → Int} {P : Int → Nat} {dr : Nat} {k : Int} : cal (d + 1) 20 [vl k] I P dr (ans (vi (mpS k)) I P dr) := by
  refine cal_in (Nat.le_of_ble_eq_true rfl) ?_
  show wp _ _ _ _ 0 [vl k, vj] [] _
  refine s_lld k20_0 rfl ?_
  refine z_push k20_1 ?_
  refine z_lmul k20_4 ?_
  refine z_push k20_5 ?_
  refine z_lushr k20_7 ?_
  refine z_l2i k20_8 ?_
  exact z_iret k20_9 (ans_i rfl)
set_option maxRecDepth 20000 in
theorem c21 {d : Nat} {I : Nat → Int → Int} {P : Int → Nat} {dr : Nat} {σ : Nat → Int → Int} {s t g : Nat} (hs : s < 32) (ht : t < 2 ^ 48) (hg : g < 1000) (hu : uS σ s (nP σ) < 2 ^ 48) (h116 : I 116 (s : Int) = ((uS σ s (nP σ) : Nat) : Int)) (h15 : I 69 15 = (g : Int)) {m : Nat} (hm : I 117 (mpS ((keyN g s (t &&& uS σ s (nP σ)) : Nat) : Int)) = (m : Int)) (hm2 : m < (g + 1) * 2 ^ 53) : cal (d + 2) 21 [vr 69, vi (s : Int), vl (t : Int)] I P dr (ans (vi (b2i (I 117 (mpS ((keyN g s (t &&& uS σ s (nP σ)) : Nat) : Int)) = ((keyN g s (t &&& uS σ s (nP σ)) : Nat) : Int)))) I P dr) := by
  refine cal_in (Nat.le_of_ble_eq_true rfl) ?_
  have hmp := ush_b (((keyN g s (t &&& uS σ s (nP σ)) : Nat) : Int) * -7046029254386353131)
  have hmp : 0 ≤ mpS ((keyN g s (t &&& uS σ s (nP σ)) : Nat) : Int) ∧ mpS ((keyN g s (t &&& uS σ s (nP σ)) : Nat) : Int) < 1024 := hmp
  have hkb := key_b (g := g) (a := t &&& uS σ s (nP σ)) (and_lt ht) hs
  show wp _ _ _ _ 0 [vr 69, vi (s : Int), vl (t : Int), vj, vj, vj] [] _
  refine s_ald k21_0 rfl ?_
  refine s_ild k21_1 rfl ?_
  refine s_lld k21_2 rfl ?_
  refine z_inv2A k21_3 rfl (Nat.le_of_ble_eq_true rfl) (c19 hs ht hg hu h116 h15) ?_
  refine s_lst4 k21_6 rfl ?_
  refine s_ald k21_8 rfl ?_
  refine z_getRe (b := 117) k21_9 rfl rr_69_14 ?_
  refine s_lld k21_12 rfl ?_
  refine z_sta1A k21_14 (Nat.le_of_ble_eq_true rfl) (c20) ?_
  refine z_lalde (z := (m : Int)) k21_17 rfl (by omega) (show (mpS ((keyN g s (t &&& uS σ s (nP σ)) : Nat) : Int)) < ((1024 : Nat) : Int) by omega) hm ?_
  refine s_lld k21_18 rfl ?_
  refine z_lcmp k21_20 ⟨by omega, by omega⟩ ⟨by omega, by omega⟩ ?_
  refine s_ifne k21_21 (mc_R _ _) (fun h21 => ?_) (fun h21 => ?_)
  · refine z_push k21_28 ?_
    exact z_zret k21_29 (by decide) (ans_i (b2i_f (by rw [hm]; exact fun u => h21 (mc_0.mpr u))).symm)
  · refine z_push k21_24 ?_
    refine z_goto k21_25 ?_
    exact z_zret k21_29 (by decide) (ans_i (b2i_t (by rw [hm]; exact mc_0.mp h21)).symm)
set_option maxRecDepth 20000 in
theorem c22 {d : Nat} {I : Nat → Int → Int} {P : Int → Nat} {dr : Nat} {σ : Nat → Int → Int} {s t g : Nat} (hs : s < 32) (ht : t < 2 ^ 48) (hg : g < 1000) (hu : uS σ s (nP σ) < 2 ^ 48) (h116 : I 116 (s : Int) = ((uS σ s (nP σ) : Nat) : Int)) (h15 : I 69 15 = (g : Int)) : cal (d + 2) 22 [vr 69, vi (s : Int), vl (t : Int)] I P dr (fun o h => o = none ∧ h = (S0, upI I 117 (mpS ((keyN g s (t &&& uS σ s (nP σ)) : Nat) : Int)) ((keyN g s (t &&& uS σ s (nP σ)) : Nat) : Int), RR P dr)) := by
  refine cal_in (Nat.le_of_ble_eq_true rfl) ?_
  have hmp := ush_b (((keyN g s (t &&& uS σ s (nP σ)) : Nat) : Int) * -7046029254386353131)
  have hmp : 0 ≤ mpS ((keyN g s (t &&& uS σ s (nP σ)) : Nat) : Int) ∧ mpS ((keyN g s (t &&& uS σ s (nP σ)) : Nat) : Int) < 1024 := hmp
  have hkb := key_b (g := g) (a := t &&& uS σ s (nP σ)) (and_lt ht) hs
  show wp _ _ _ _ 0 [vr 69, vi (s : Int), vl (t : Int), vj, vj, vj] [] _
  refine s_ald k22_0 rfl ?_
  refine s_ild k22_1 rfl ?_
  refine s_lld k22_2 rfl ?_
  refine z_inv2A k22_3 rfl (Nat.le_of_ble_eq_true rfl) (c19 hs ht hg hu h116 h15) ?_
  refine s_lst4 k22_6 rfl ?_
  refine s_ald k22_8 rfl ?_
  refine z_getRe (b := 117) k22_9 rfl rr_69_14 ?_
  refine s_lld k22_12 rfl ?_
  refine z_sta1A k22_14 (Nat.le_of_ble_eq_true rfl) (c20) ?_
  refine s_lld k22_17 rfl ?_
  refine z_last k22_19 rfl (by omega) (show (mpS ((keyN g s (t &&& uS σ s (nP σ)) : Nat) : Int)) < ((1024 : Nat) : Int) by omega) ?_
  exact z_vret k22_20 ⟨rfl, rfl⟩
