/-! the reference reads -/
theorem TA.up {σ J : Nat → Int → Int} {n a : Nat} {k z : Int} (h : TA σ J n) (ha : ¬ (134 ≤ a ∧ a ≤ 136)) : TA σ (upI J a k z) n := fun q hq => by
  rw [up_ne (by omega), up_ne (by omega), up_ne (by omega)]
  exact h q hq
def RDM (J : Nat → Int → Int) (r : Int → Int) : Prop := ∀ k, 0 ≤ k → k < 23 → J 137 k = r k
theorem RDM.up {J : Nat → Int → Int} {r : Int → Int} {k z : Int} (h : RDM J r) : RDM (upI J 137 k z) (updR r k z) := fun q q0 q1 => by
  unfold upI updR
  by_cases c : q = k
  · rw [if_pos ⟨rfl, c⟩, if_pos c]
  · rw [if_neg (fun u => c u.2), if_neg c]
    exact h q q0 q1
theorem RDM.no {J : Nat → Int → Int} {r : Int → Int} {a : Nat} {k z : Int} (h : RDM J r) (ha : a ≠ 137) : RDM (upI J a k z) r := fun q q0 q1 => (up_ne (fun e => ha e.symm)).trans (h q q0 q1)
theorem wn_b {x : Int} : (0 ≤ wnS x ∧ wnS x ≤ 8) ∨ wnS x = 30 ∨ wnS x = 31 ∨ wnS x = 40 := by
  unfold wnS
  (repeat' split) <;> omega
theorem wn_40 {x : Int} (h0 : 0 ≤ x) (h1 : x ≤ 20) (h15 : x ≠ 15) (h : wnS x = 40) : x = 1 ∨ x = 3 ∨ x = 5 ∨ x = 7 ∨ x = 10 ∨ x = 12 ∨ x = 14 ∨ x = 17 ∨ x = 19 := by
  unfold wnS at h
  (repeat' split at h) <;> omega
theorem ix_b {x j : Int} (h : x = 1 ∨ x = 3 ∨ x = 5 ∨ x = 7 ∨ x = 10 ∨ x = 12 ∨ x = 14 ∨ x = 17 ∨ x = 19) (j0 : 0 ≤ j) (j1 : j ≤ 2) : 0 ≤ ixS x j ∧ ixS x j < 23 := by
  rcases h with e | e | e | e | e | e | e | e | e <;> (subst e; unfold ixS; simp; try omega)
theorem rd_ok {σ : Nat → Int → Int} {t : Int → Int} {m : Nat} : ∀ (f k : Nat) (x : mR3), (rdS σ t m f k x).2.2.2 = true → (rdS σ t m f k x).1 = -1 ∧ (rdS σ t m f k x).2.1 = 0
  | 0, k, x, h => by
    exact absurd (show false = true from h) (by decide)
  | f + 1, k, x, h => by
    by_cases c : x.1 = 50
    · rw [rd_50 c]
      exact ⟨rfl, rfl⟩
    · cases e : stpS σ x.1 x.2.1 x.2.2 (kiT t m k) (vaT t m k) with
      | none =>
        rw [rd_no c e] at h
        cases h
      | some y =>
        rw [rd_go c e] at h ⊢
        exact rd_ok f (k + 1) y h
/-- what was read, if all of it stands -/
theorem rd_WF {σ : Nat → Int → Int} {t : Int → Int} {m : Nat} : ∀ (f k : Nat) (x : mR3), RWF σ x → (rdS σ t m f k x).2.2.2 = true → ∃ y : mR3, RWF σ y ∧ y.1 = 50 ∧ (rdS σ t m f k x).2.2.1 = updR y.2.2 4 (y.2.1 + 1)
  | 0, k, x, _, h => by
    exact absurd (show false = true from h) (by decide)
  | f + 1, k, x, hx, h => by
    by_cases c : x.1 = 50
    · rw [rd_50 c]
      exact ⟨x, hx, c, rfl⟩
    · cases e : stpS σ x.1 x.2.1 x.2.2 (kiT t m k) (vaT t m k) with
      | none =>
        rw [rd_no c e] at h
        cases h
      | some y =>
        rw [rd_go c e] at h ⊢
        exact rd_WF f (k + 1) y (stp_WF hx c e) h
theorem RWF_0 {σ : Nat → Int → Int} : RWF σ (0, 0, fun _ => -1) := by
  unfold RWF
  dsimp only
  exact ⟨by omega, by omega, by omega, by omega, by omega, by omega, by omega, by omega, fun i i0 i1 => absurd i1 (by omega), by omega, by omega, by omega, by omega, fun _ _ _ _ _ _ => rfl⟩
set_option maxRecDepth 20000 in
theorem c154 {d : Nat} {I : Nat → Int → Int} {P : Int → Nat} {dr : Nat} {at_ : Int} (a0 : 0 ≤ at_) (a1 : at_ ≤ 20) : cal (d + 1) 154 [vi at_] I P dr (ans (vi (wnS at_)) I P dr) := by
  refine cal_in (Nat.le_of_ble_eq_true rfl) ?_
  show wp _ _ _ _ 0 [vi at_] [] _
  refine s_ild k154_0 rfl ?_
  rcases (show at_ = 0 ∨ at_ = 1 ∨ at_ = 2 ∨ at_ = 3 ∨ at_ = 4 ∨ at_ = 5 ∨ at_ = 6 ∨ at_ = 7 ∨ at_ = 8 ∨ at_ = 9 ∨ at_ = 10 ∨ at_ = 11 ∨ at_ = 12 ∨ at_ = 13 ∨ at_ = 14 ∨ at_ = 15 ∨ at_ = 16 ∨ at_ = 17 ∨ at_ = 18 ∨ at_ = 19 ∨ at_ = 20 from by omega) with e1 | e1 | e1 | e1 | e1 | e1 | e1 | e1 | e1 | e1 | e1 | e1 | e1 | e1 | e1 | e1 | e1 | e1 | e1 | e1 | e1
  · subst e1
    refine s_tsw k154_1 (inR_lit rfl) rfl ?_
    refine z_push k154_100 ?_
    exact z_iret k154_101 (ans_i (by decide))
  · subst e1
    refine s_tsw k154_1 (inR_lit rfl) rfl ?_
    refine z_push k154_127 ?_
    exact z_iret k154_129 (ans_i (by decide))
  · subst e1
    refine s_tsw k154_1 (inR_lit rfl) rfl ?_
    refine z_push k154_102 ?_
    exact z_iret k154_103 (ans_i (by decide))
  · subst e1
    refine s_tsw k154_1 (inR_lit rfl) rfl ?_
    refine z_push k154_127 ?_
    exact z_iret k154_129 (ans_i (by decide))
  · subst e1
    refine s_tsw k154_1 (inR_lit rfl) rfl ?_
    refine z_push k154_104 ?_
    exact z_iret k154_105 (ans_i (by decide))
  · subst e1
    refine s_tsw k154_1 (inR_lit rfl) rfl ?_
    refine z_push k154_127 ?_
    exact z_iret k154_129 (ans_i (by decide))
  · subst e1
    refine s_tsw k154_1 (inR_lit rfl) rfl ?_
    refine z_push k154_106 ?_
    exact z_iret k154_107 (ans_i (by decide))
  · subst e1
    refine s_tsw k154_1 (inR_lit rfl) rfl ?_
    refine z_push k154_127 ?_
    exact z_iret k154_129 (ans_i (by decide))
  · subst e1
    refine s_tsw k154_1 (inR_lit rfl) rfl ?_
    refine z_push k154_108 ?_
    exact z_iret k154_110 (ans_i (by decide))
  · subst e1
    refine s_tsw k154_1 (inR_lit rfl) rfl ?_
    refine z_push k154_111 ?_
    exact z_iret k154_112 (ans_i (by decide))
  · subst e1
    refine s_tsw k154_1 (inR_lit rfl) rfl ?_
    refine z_push k154_127 ?_
    exact z_iret k154_129 (ans_i (by decide))
  · subst e1
    refine s_tsw k154_1 (inR_lit rfl) rfl ?_
    refine z_push k154_113 ?_
    exact z_iret k154_114 (ans_i (by decide))
  · subst e1
    refine s_tsw k154_1 (inR_lit rfl) rfl ?_
    refine z_push k154_127 ?_
    exact z_iret k154_129 (ans_i (by decide))
  · subst e1
    refine s_tsw k154_1 (inR_lit rfl) rfl ?_
    refine z_push k154_115 ?_
    exact z_iret k154_117 (ans_i (by decide))
  · subst e1
    refine s_tsw k154_1 (inR_lit rfl) rfl ?_
    refine z_push k154_127 ?_
    exact z_iret k154_129 (ans_i (by decide))
  · subst e1
    refine s_tsw k154_1 (inR_lit rfl) rfl ?_
    refine z_push k154_127 ?_
    exact z_iret k154_129 (ans_i (by decide))
  · subst e1
    refine s_tsw k154_1 (inR_lit rfl) rfl ?_
    refine z_push k154_118 ?_
    exact z_iret k154_120 (ans_i (by decide))
  · subst e1
    refine s_tsw k154_1 (inR_lit rfl) rfl ?_
    refine z_push k154_127 ?_
    exact z_iret k154_129 (ans_i (by decide))
  · subst e1
    refine s_tsw k154_1 (inR_lit rfl) rfl ?_
    refine z_push k154_121 ?_
    exact z_iret k154_123 (ans_i (by decide))
  · subst e1
    refine s_tsw k154_1 (inR_lit rfl) rfl ?_
    refine z_push k154_127 ?_
    exact z_iret k154_129 (ans_i (by decide))
  · subst e1
    refine s_tsw k154_1 (inR_lit rfl) rfl ?_
    refine z_push k154_124 ?_
    exact z_iret k154_126 (ans_i (by decide))
set_option maxRecDepth 20000 in
theorem c155 {d : Nat} {I : Nat → Int → Int} {P : Int → Nat} {dr : Nat} {σ : Nat → Int → Int} (hs : sig I = σ) {at_ j v : Int} {r : Int → Int} (b2 : 0 ≤ σ 127 2 ∧ σ 127 2 ≤ 8) (hr : RDM I r) (j0 : 0 ≤ j) (j1 : j ≤ 2) (v0 : 0 ≤ v) (v1 : v ≤ 99) (ha : at_ = 1 ∨ at_ = 3 ∨ at_ = 5 ∨ at_ = 7 ∨ at_ = 10 ∨ at_ = 12 ∨ at_ = 14 ∨ at_ = 17 ∨ at_ = 19) (h4 : at_ = 19 → 0 ≤ r (5 + 6 * j + 4) ∧ r (5 + 6 * j + 4) ≤ 6) : cal (d + 3) 155 [vr 127, vi at_, vi j, vi v] I P dr (ans (vi (b2i (loS at_ j r ≤ v ∧ v ≤ hiS σ at_ j r))) I P dr) := by
  refine cal_in (Nat.le_of_ble_eq_true rfl) ?_
  show wp _ _ _ _ 0 [vr 127, vi at_, vi j, vi v] [] _
  refine s_ild k155_0 rfl ?_
  rcases (show at_ = 1 ∨ at_ = 3 ∨ at_ = 5 ∨ at_ = 7 ∨ at_ = 10 ∨ at_ = 12 ∨ at_ = 14 ∨ at_ = 17 ∨ at_ = 19 from by omega) with e1 | e1 | e1 | e1 | e1 | e1 | e1 | e1 | e1
  · subst e1
    refine s_tsw k155_1 (inR_lit rfl) rfl ?_
    refine s_ild k155_84 rfl ?_
    refine z_push k155_85 ?_
    refine z_push k155_86 ?_
    refine z_sta3A k155_87 (Nat.le_of_ble_eq_true rfl) (c136 ⟨by omega, by omega⟩ ⟨by omega, by omega⟩ ⟨by omega, by omega⟩) ?_
    exact z_zret k155_90 (b2i_01 _) (ans_i rfl)
  · subst e1
    refine s_tsw k155_1 (inR_lit rfl) rfl ?_
    refine s_ild k155_91 rfl ?_
    refine z_push k155_92 ?_
    refine z_push k155_93 ?_
    refine z_sta3A k155_94 (Nat.le_of_ble_eq_true rfl) (c136 ⟨by omega, by omega⟩ ⟨by omega, by omega⟩ ⟨by omega, by omega⟩) ?_
    exact z_zret k155_97 (b2i_01 _) (ans_i rfl)
  · subst e1
    refine s_tsw k155_1 (inR_lit rfl) rfl ?_
    refine s_ald k155_98 rfl ?_
    refine s_ild k155_99 rfl ?_
    refine z_inv1A k155_100 rfl (Nat.le_of_ble_eq_true rfl) (c138 hs (by omega) ⟨by omega, by omega⟩) ?_
    exact z_zret k155_103 (b2i_01 _) (ans_i rfl)
  · subst e1
    refine s_tsw k155_1 (inR_lit rfl) rfl ?_
    refine s_ild k155_104 rfl ?_
    refine z_push k155_105 ?_
    refine z_push k155_106 ?_
    refine z_sta3A k155_108 (Nat.le_of_ble_eq_true rfl) (c136 ⟨by omega, by omega⟩ ⟨by omega, by omega⟩ ⟨by omega, by omega⟩) ?_
    exact z_zret k155_111 (b2i_01 _) (ans_i rfl)
  · subst e1
    refine s_tsw k155_1 (inR_lit rfl) rfl ?_
    refine s_ild k155_112 rfl ?_
    refine z_push k155_113 ?_
    refine z_push k155_114 ?_
    refine z_sta3A k155_115 (Nat.le_of_ble_eq_true rfl) (c136 ⟨by omega, by omega⟩ ⟨by omega, by omega⟩ ⟨by omega, by omega⟩) ?_
    exact z_zret k155_118 (b2i_01 _) (ans_i rfl)
  · subst e1
    refine s_tsw k155_1 (inR_lit rfl) rfl ?_
    refine s_ild k155_119 rfl ?_
    refine z_push k155_120 ?_
    refine z_push k155_121 ?_
    refine z_sta3A k155_122 (Nat.le_of_ble_eq_true rfl) (c136 ⟨by omega, by omega⟩ ⟨by omega, by omega⟩ ⟨by omega, by omega⟩) ?_
    exact z_zret k155_125 (b2i_01 _) (ans_i rfl)
  · subst e1
    refine s_tsw k155_1 (inR_lit rfl) rfl ?_
    refine s_ild k155_126 rfl ?_
    refine z_push k155_127 ?_
    refine z_push k155_128 ?_
    refine z_sta3A k155_130 (Nat.le_of_ble_eq_true rfl) (c136 ⟨by omega, by omega⟩ ⟨by omega, by omega⟩ ⟨by omega, by omega⟩) ?_
    exact z_zret k155_133 (b2i_01 _) (ans_i rfl)
  · subst e1
    refine s_tsw k155_1 (inR_lit rfl) rfl ?_
    refine s_ild k155_134 rfl ?_
    refine z_push k155_135 ?_
    refine z_push k155_136 ?_
    refine z_sta3A k155_138 (Nat.le_of_ble_eq_true rfl) (c136 ⟨by omega, by omega⟩ ⟨by omega, by omega⟩ ⟨by omega, by omega⟩) ?_
    exact z_zret k155_141 (b2i_01 _) (ans_i rfl)
  · subst e1
    refine s_tsw k155_1 (inR_lit rfl) rfl ?_
    have h4 := h4 rfl
    refine s_ild k155_142 rfl ?_
    refine s_ald k155_143 rfl ?_
    refine z_getRe (b := 137) k155_144 rfl rr_127_20 ?_
    refine z_push k155_147 ?_
    refine z_push k155_148 ?_
    refine s_ild k155_150 rfl ?_
    refine z_imul k155_151 ?_
    refine z_iadd k155_152 ?_
    refine z_push k155_153 ?_
    refine z_iadd k155_154 ?_
    refine z_ialde (z := r ((5 + (6 * j)) + 4)) k155_155 rfl (by omega) (show ((5 + (6 * j)) + 4) < ((23 : Nat) : Int) by omega) (hr _ (by omega) (by omega)) ?_
    refine s_ald k155_156 rfl ?_
    refine z_getRe (b := 137) k155_157 rfl rr_127_20 ?_
    refine z_push k155_160 ?_
    refine z_push k155_161 ?_
    refine s_ild k155_163 rfl ?_
    refine z_imul k155_164 ?_
    refine z_iadd k155_165 ?_
    refine z_push k155_166 ?_
    refine z_iadd k155_167 ?_
    refine z_ialde (z := r ((5 + (6 * j)) + 4)) k155_168 rfl (by omega) (show ((5 + (6 * j)) + 4) < ((23 : Nat) : Int) by omega) (hr _ (by omega) (by omega)) ?_
    refine z_push k155_169 ?_
    refine z_iadd k155_170 ?_
    refine z_sta3A k155_171 (Nat.le_of_ble_eq_true rfl) (c136 ⟨by omega, by omega⟩ ⟨by omega, by omega⟩ ⟨by omega, by omega⟩) ?_
    exact z_zret k155_174 (b2i_01 _) (ans_i rfl)
set_option maxRecDepth 20000 in
theorem c156 {d : Nat} {I : Nat → Int → Int} {P : Int → Nat} {dr : Nat} {at_ j v : Int} (j0 : 0 ≤ j) (j1 : j ≤ 2) (ha : at_ = 1 ∨ at_ = 3 ∨ at_ = 5 ∨ at_ = 7 ∨ at_ = 10 ∨ at_ = 12 ∨ at_ = 14 ∨ at_ = 17 ∨ at_ = 19) : cal (d + 1) 156 [vr 127, vi at_, vi j, vi v] I P dr (fun o h => o = none ∧ h = (S0, upI I 137 (ixS at_ j) v, RR P dr)) := by
  refine cal_in (Nat.le_of_ble_eq_true rfl) ?_
  show wp _ _ _ _ 0 [vr 127, vi at_, vi j, vi v] [] _
  refine s_ild k156_0 rfl ?_
  refine z_push k156_1 ?_
  refine s_icge k156_3 ⟨by omega, by omega⟩ (inR_lit rfl) (fun h3 => ?_) (fun h3 => ?_)
  · refine s_ild k156_20 rfl ?_
    refine z_push k156_21 ?_
    refine s_icge k156_23 ⟨by omega, by omega⟩ (inR_lit rfl) (fun h23 => ?_) (fun h23 => ?_)
    · refine s_ald k156_48 rfl ?_
      refine z_getRe (b := 137) k156_49 rfl rr_127_20 ?_
      refine z_push k156_52 ?_
      refine z_push k156_53 ?_
      refine s_ild k156_55 rfl ?_
      refine z_imul k156_56 ?_
      refine z_iadd k156_57 ?_
      refine s_ild k156_58 rfl ?_
      refine z_push k156_59 ?_
      refine s_icne k156_61 ⟨by omega, by omega⟩ (inR_lit rfl) (fun h61 => ?_) (fun h61 => ?_)
      · refine z_push k156_68 ?_
        refine z_iadd k156_69 ?_
        refine s_ild k156_70 rfl ?_
        refine z_iast k156_71 rfl (by omega) (show ((5 + (6 * j)) + 5) < ((23 : Nat) : Int) by omega) ?_
        refine z_vret k156_72 ⟨rfl, ?_⟩
        unfold ixS
        rw [if_neg (by omega), if_neg (by omega), if_neg (by omega)]
      · refine z_push k156_64 ?_
        refine z_goto k156_65 ?_
        refine z_iadd k156_69 ?_
        refine s_ild k156_70 rfl ?_
        refine z_iast k156_71 rfl (by omega) (show ((5 + (6 * j)) + 4) < ((23 : Nat) : Int) by omega) ?_
        refine z_vret k156_72 ⟨rfl, ?_⟩
        unfold ixS
        rw [if_neg (by omega), if_neg (by omega), if_pos (by omega)]
    · have hd : (at_ - 10).tdiv 2 = (at_ - 10) / 2 := Int.tdiv_eq_ediv_of_nonneg (by omega)
      refine s_ald k156_26 rfl ?_
      refine z_getRe (b := 137) k156_27 rfl rr_127_20 ?_
      refine z_push k156_30 ?_
      refine z_push k156_31 ?_
      refine s_ild k156_33 rfl ?_
      refine z_imul k156_34 ?_
      refine z_iadd k156_35 ?_
      refine s_ild k156_36 rfl ?_
      refine z_push k156_37 ?_
      refine z_isub k156_39 ?_
      refine z_push k156_40 ?_
      refine z_idiv k156_41 ⟨by omega, by omega⟩ (inR_lit rfl) (by decide) ?_
      refine z_iadd k156_42 ?_
      refine s_ild k156_43 rfl ?_
      refine z_iast k156_44 rfl (by omega) (show ((5 + (6 * j)) + ((at_ - 10).tdiv 2)) < ((23 : Nat) : Int) by omega) ?_
      refine z_goto k156_45 ?_
      refine z_vret k156_72 ⟨rfl, ?_⟩
      unfold ixS
      rw [if_neg (by omega), if_pos (by omega)]
  · have hd : (at_ - 1).tdiv 2 = (at_ - 1) / 2 := Int.tdiv_eq_ediv_of_nonneg (by omega)
    refine s_ald k156_6 rfl ?_
    refine z_getRe (b := 137) k156_7 rfl rr_127_20 ?_
    refine s_ild k156_10 rfl ?_
    refine z_push k156_11 ?_
    refine z_isub k156_12 ?_
    refine z_push k156_13 ?_
    refine z_idiv k156_14 ⟨by omega, by omega⟩ (inR_lit rfl) (by decide) ?_
    refine s_ild k156_15 rfl ?_
    refine z_iast k156_16 rfl (by omega) (show ((at_ - 1).tdiv 2) < ((23 : Nat) : Int) by omega) ?_
    refine z_goto k156_17 ?_
    refine z_vret k156_72 ⟨rfl, ?_⟩
    unfold ixS
    rw [if_pos (by omega)]
