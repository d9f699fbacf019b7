/-! the small methods -/
theorem i32_R (x : Int32) : inR x.toInt := ⟨Int32.le_toInt x, Int32.toInt_lt x⟩
theorem zabs_b {x b : Int} (h1 : -b ≤ x) (h2 : x ≤ b) : 0 ≤ zabs x ∧ zabs x ≤ b := by unfold zabs; split <;> omega
theorem airS_b {σ : Nat → Int → Int} {t s : Int} (hm : 0 ≤ σ 128 t ∧ σ 128 t ≤ 40) (hn : 0 ≤ σ 127 1 ∧ σ 127 1 ≤ 300) (h2 : -1000 ≤ s) (h3 : s ≤ 1000) : 0 ≤ airS σ t s ∧ airS σ t s ≤ 1400 := zabs_b (by omega) (by omega)
theorem airS_R {σ : Nat → Int → Int} {t s : Int} (hm : 0 ≤ σ 128 t ∧ σ 128 t ≤ 40) (hn : 0 ≤ σ 127 1 ∧ σ 127 1 ≤ 300) (h2 : -1000 ≤ s) (h3 : s ≤ 1000) : inR (airS σ t s) := by
  have := airS_b hm hn h2 h3
  exact ⟨by omega, by omega⟩
set_option maxRecDepth 20000 in
theorem c137 {d : Nat} {I : Nat → Int → Int} {P : Int → Nat} {dr : Nat} {σ : Nat → Int → Int} (hs : sig I = σ) (hb : 0 ≤ σ 127 0 ∧ σ 127 0 ≤ 300) {v : Int} (hv : inR v) : cal (d + 2) 137 [vr 127, vi v] I P dr (ans (vi (b2i (0 ≤ v ∧ v ≤ σ 127 0 - 1))) I P dr) := by
  refine cal_in (Nat.le_of_ble_eq_true rfl) ?_
  show wp _ _ _ _ 0 [vr 127, vi v] [] _
  refine s_ild k137_0 rfl ?_
  refine z_push k137_1 ?_
  refine s_ald k137_2 rfl ?_
  refine z_getIe (z := σ 127 0) k137_3 rfl (st_s hs rfl) ?_
  refine z_push k137_6 ?_
  refine z_isub k137_7 ?_
  refine z_sta3A k137_8 (Nat.le_of_ble_eq_true rfl) (c136 hv (inR_lit rfl) ⟨by omega, by omega⟩) ?_
  exact z_zret k137_11 (b2i_01 _) (ans_i rfl)
set_option maxRecDepth 20000 in
theorem c138 {d : Nat} {I : Nat → Int → Int} {P : Int → Nat} {dr : Nat} {σ : Nat → Int → Int} (hs : sig I = σ) (hb : 0 ≤ σ 127 2 ∧ σ 127 2 ≤ 300) {v : Int} (hv : inR v) : cal (d + 2) 138 [vr 127, vi v] I P dr (ans (vi (b2i (0 ≤ v ∧ v ≤ σ 127 2 - 1))) I P dr) := by
  refine cal_in (Nat.le_of_ble_eq_true rfl) ?_
  show wp _ _ _ _ 0 [vr 127, vi v] [] _
  refine s_ild k138_0 rfl ?_
  refine z_push k138_1 ?_
  refine s_ald k138_2 rfl ?_
  refine z_getIe (z := σ 127 2) k138_3 rfl (st_s hs rfl) ?_
  refine z_push k138_6 ?_
  refine z_isub k138_7 ?_
  refine z_sta3A k138_8 (Nat.le_of_ble_eq_true rfl) (c136 hv (inR_lit rfl) ⟨by omega, by omega⟩) ?_
  exact z_zret k138_11 (b2i_01 _) (ans_i rfl)
set_option maxRecDepth 20000 in
theorem c139 {d : Nat} {I : Nat → Int → Int} {P : Int → Nat} {dr : Nat} {σ : Nat → Int → Int} (hs : sig I = σ) (hb : 0 ≤ σ 127 21 ∧ σ 127 21 ≤ 300) {v : Int} (hv : inR v) : cal (d + 2) 139 [vr 127, vi v] I P dr (ans (vi (b2i (0 ≤ v ∧ v ≤ σ 127 21 - 1))) I P dr) := by
  refine cal_in (Nat.le_of_ble_eq_true rfl) ?_
  show wp _ _ _ _ 0 [vr 127, vi v] [] _
  refine s_ild k139_0 rfl ?_
  refine z_push k139_1 ?_
  refine s_ald k139_2 rfl ?_
  refine z_getIe (z := σ 127 21) k139_3 rfl (st_s hs rfl) ?_
  refine z_push k139_6 ?_
  refine z_isub k139_7 ?_
  refine z_sta3A k139_8 (Nat.le_of_ble_eq_true rfl) (c136 hv (inR_lit rfl) ⟨by omega, by omega⟩) ?_
  exact z_zret k139_11 (b2i_01 _) (ans_i rfl)
set_option maxRecDepth 20000 in
theorem c140 {d : Nat} {I : Nat → Int → Int} {P : Int → Nat} {dr : Nat} {σ : Nat → Int → Int} (hs : sig I = σ) (hb : 0 ≤ σ 127 10 ∧ σ 127 10 ≤ 300) {v : Int} (hv : inR v) : cal (d + 2) 140 [vr 127, vi v] I P dr (ans (vi (b2i (0 ≤ v ∧ v ≤ 1 + σ 127 10))) I P dr) := by
  refine cal_in (Nat.le_of_ble_eq_true rfl) ?_
  show wp _ _ _ _ 0 [vr 127, vi v] [] _
  refine s_ild k140_0 rfl ?_
  refine z_push k140_1 ?_
  refine z_push k140_2 ?_
  refine s_ald k140_3 rfl ?_
  refine z_getIe (z := σ 127 10) k140_4 rfl (st_s hs rfl) ?_
  refine z_iadd k140_7 ?_
  refine z_sta3A k140_8 (Nat.le_of_ble_eq_true rfl) (c136 hv (inR_lit rfl) ⟨by omega, by omega⟩) ?_
  exact z_zret k140_11 (b2i_01 _) (ans_i rfl)
set_option maxRecDepth 20000 in
theorem c143 {d : Nat} {I : Nat → Int → Int} {P : Int → Nat} {dr : Nat} {σ : Nat → Int → Int} (hs : sig I = σ) {t s : Int} (h0 : 0 ≤ t) (h1 : t < 8) (hm : 0 ≤ σ 128 t ∧ σ 128 t ≤ 40) (hr : 0 ≤ σ 129 t ∧ σ 129 t ≤ 8) (hn : 0 ≤ σ 127 1 ∧ σ 127 1 ≤ 300) (h2 : -1000 ≤ s) (h3 : s ≤ 1000) : cal (d + 1) 143 [vr 127, vi t, vi s] I P dr (ans (vi (airS σ t s)) I P dr) := by
  refine cal_in (Nat.le_of_ble_eq_true rfl) ?_
  show wp _ _ _ _ 0 [vr 127, vi t, vi s, vj] [] _
  refine s_ild k143_0 rfl ?_
  refine s_ald k143_1 rfl ?_
  refine z_getRe (b := 128) k143_2 rfl rr_127_3 ?_
  refine s_ild k143_5 rfl ?_
  refine z_ialde (z := σ 128 t) k143_6 rfl (by omega) (show t < ((8 : Nat) : Int) by omega) (st_s hs rfl) ?_
  refine z_isub k143_7 ?_
  refine s_ald k143_8 rfl ?_
  refine z_getIe (z := σ 127 1) k143_9 rfl (st_s hs rfl) ?_
  refine z_iadd k143_12 ?_
  refine s_ist3 k143_13 rfl ?_
  refine s_ild k143_14 rfl ?_
  refine s_ifge k143_15 ⟨by omega, by omega⟩ (fun h15 => ?_) (fun h15 => ?_)
  · refine s_ild k143_23 rfl ?_
    exact z_iret k143_24 (ans_i (by unfold airS zabs; split <;> omega))
  · refine s_ild k143_18 rfl ?_
    refine z_ineg k143_19 ?_
    refine z_goto k143_20 ?_
    exact z_iret k143_24 (ans_i (by unfold airS zabs; split <;> omega))
set_option maxRecDepth 20000 in
theorem c144 {d : Nat} {I : Nat → Int → Int} {P : Int → Nat} {dr : Nat} {σ : Nat → Int → Int} (hs : sig I = σ) {t s : Int} (h0 : 0 ≤ t) (h1 : t < 8) (hm : 0 ≤ σ 128 t ∧ σ 128 t ≤ 40) (hr : 0 ≤ σ 129 t ∧ σ 129 t ≤ 8) (hn : 0 ≤ σ 127 1 ∧ σ 127 1 ≤ 300) (h2 : -1000 ≤ s) (h3 : s ≤ 1000) : cal (d + 2) 144 [vr 127, vi t, vi s] I P dr (ans (vi (b2i (airS σ t s ≤ σ 129 t))) I P dr) := by
  refine cal_in (Nat.le_of_ble_eq_true rfl) ?_
  show wp _ _ _ _ 0 [vr 127, vi t, vi s] [] _
  refine s_ald k144_0 rfl ?_
  refine s_ild k144_1 rfl ?_
  refine s_ild k144_2 rfl ?_
  refine z_inv2A k144_3 rfl (Nat.le_of_ble_eq_true rfl) (c143 hs h0 h1 hm hr hn h2 h3) ?_
  refine s_ald k144_6 rfl ?_
  refine z_getRe (b := 129) k144_7 rfl rr_127_4 ?_
  refine s_ild k144_10 rfl ?_
  refine z_ialde (z := σ 129 t) k144_11 rfl (by omega) (show t < ((8 : Nat) : Int) by omega) (st_s hs rfl) ?_
  refine s_icgt k144_12 (airS_R hm hn h2 h3) ⟨by omega, by omega⟩ (fun h12 => ?_) (fun h12 => ?_)
  · refine z_push k144_19 ?_
    exact z_zret k144_20 (Or.inl rfl) (ans_i (b2i_f (by omega)).symm)
  · refine z_push k144_15 ?_
    refine z_goto k144_16 ?_
    exact z_zret k144_20 (Or.inr rfl) (ans_i (b2i_t (by omega)).symm)
set_option maxRecDepth 20000 in
theorem c165 {d : Nat} {I : Nat → Int → Int} {P : Int → Nat} {dr : Nat} {σ : Nat → Int → Int} (hs : sig I = σ) {p : Int} (h0 : 0 ≤ p) (h1 : p < 6) : cal (d + 1) 165 [vr 127, vi p] I P dr (ans (vi (pf σ p 3)) I P dr) := by
  refine cal_in (Nat.le_of_ble_eq_true rfl) ?_
  show wp _ _ _ _ 0 [vr 127, vi p] [] _
  refine s_ald k165_0 rfl ?_
  refine z_getRe (b := 138) k165_1 rfl rr_127_22 ?_
  refine z_push k165_4 ?_
  refine s_ild k165_6 rfl ?_
  refine z_imul k165_7 ?_
  refine z_push k165_8 ?_
  refine z_iadd k165_9 ?_
  refine z_ialde (z := σ 138 ((23 * p) + 3)) k165_10 rfl (by omega) (show ((23 * p) + 3) < ((138 : Nat) : Int) by omega) (st_s hs rfl) ?_
  exact z_iret k165_11 (ans_i rfl)
set_option maxRecDepth 20000 in
theorem c166 {d : Nat} {I : Nat → Int → Int} {P : Int → Nat} {dr : Nat} {σ : Nat → Int → Int} (hs : sig I = σ) {p : Int} (h0 : 0 ≤ p) (h1 : p < 6) : cal (d + 1) 166 [vr 127, vi p] I P dr (ans (vi (pf σ p 4)) I P dr) := by
  refine cal_in (Nat.le_of_ble_eq_true rfl) ?_
  show wp _ _ _ _ 0 [vr 127, vi p] [] _
  refine s_ald k166_0 rfl ?_
  refine z_getRe (b := 138) k166_1 rfl rr_127_22 ?_
  refine z_push k166_4 ?_
  refine s_ild k166_6 rfl ?_
  refine z_imul k166_7 ?_
  refine z_push k166_8 ?_
  refine z_iadd k166_9 ?_
  refine z_ialde (z := σ 138 ((23 * p) + 4)) k166_10 rfl (by omega) (show ((23 * p) + 4) < ((138 : Nat) : Int) by omega) (st_s hs rfl) ?_
  exact z_iret k166_11 (ans_i rfl)
set_option maxRecDepth 20000 in
theorem c167 {d : Nat} {I : Nat → Int → Int} {P : Int → Nat} {dr : Nat} {σ : Nat → Int → Int} (hs : sig I = σ) {p j q : Int} (h0 : 0 ≤ p) (h1 : p < 6) (h2 : 0 ≤ j) (h3 : j < 3) (h4 : 0 ≤ q) (h5 : q < 6) : cal (d + 1) 167 [vr 127, vi p, vi j, vi q] I P dr (ans (vi (ps σ p j q)) I P dr) := by
  refine cal_in (Nat.le_of_ble_eq_true rfl) ?_
  show wp _ _ _ _ 0 [vr 127, vi p, vi j, vi q] [] _
  refine s_ald k167_0 rfl ?_
  refine z_getRe (b := 138) k167_1 rfl rr_127_22 ?_
  refine z_push k167_4 ?_
  refine s_ild k167_6 rfl ?_
  refine z_imul k167_7 ?_
  refine z_push k167_8 ?_
  refine z_iadd k167_9 ?_
  refine z_push k167_10 ?_
  refine s_ild k167_12 rfl ?_
  refine z_imul k167_13 ?_
  refine z_iadd k167_14 ?_
  refine s_ild k167_15 rfl ?_
  refine z_iadd k167_16 ?_
  refine z_ialde (z := σ 138 ((((23 * p) + 5) + (6 * j)) + q)) k167_17 rfl (by omega) (show ((((23 * p) + 5) + (6 * j)) + q) < ((138 : Nat) : Int) by omega) (st_s hs rfl) ?_
  exact z_iret k167_18 (ans_i rfl)
set_option maxRecDepth 20000 in
theorem c168 {d : Nat} {I : Nat → Int → Int} {P : Int → Nat} {dr : Nat} {σ : Nat → Int → Int} (hs : sig I = σ) {t s w m r d2 : Int} (h0 : 0 ≤ t) (h1 : t < 8) (hm : 0 ≤ σ 128 t ∧ σ 128 t ≤ 40) (hr : 0 ≤ σ 129 t ∧ σ 129 t ≤ 8) (hg : 0 ≤ σ 130 t ∧ σ 130 t ≤ 3) (hn : 0 ≤ σ 127 1 ∧ σ 127 1 ≤ 300) (hk : 0 ≤ σ 131 (12 * w + s) ∧ σ 131 (12 * w + s) ≤ 4) (hmo : (-1 ≤ σ 127 6 ∧ σ 127 6 ≤ 3) ∧ (0 ≤ σ 127 7 ∧ σ 127 7 ≤ 11) ∧ (0 ≤ σ 127 8 ∧ σ 127 8 ≤ 11)) (h2 : 0 ≤ s) (h3 : s < 12) (h4 : 0 ≤ w) (h5 : w < 6) (hm2 : 0 ≤ m ∧ m ≤ 9) (hr2 : 0 ≤ r ∧ r ≤ 9) (hd2 : -1 ≤ d2 ∧ d2 ≤ 9) : cal (d + 3) 168 [vr 127, vi t, vi s, vi w, vi m, vi r, vi d2] I P dr (ans (vi (b2i (fitS σ w t s m r d2))) I P dr) := by
  refine cal_in (Nat.le_of_ble_eq_true rfl) ?_
  show wp _ _ _ _ 0 [vr 127, vi t, vi s, vi w, vi m, vi r, vi d2, vj] [] _
  refine s_ald k168_0 rfl ?_
  refine z_getRe (b := 131) k168_1 rfl rr_127_9 ?_
  refine z_push k168_4 ?_
  refine s_ild k168_6 rfl ?_
  refine z_imul k168_7 ?_
  refine s_ild k168_8 rfl ?_
  refine z_iadd k168_9 ?_
  refine z_ialde (z := σ 131 ((12 * w) + s)) k168_10 rfl (by omega) (show ((12 * w) + s) < ((72 : Nat) : Int) by omega) (st_s hs rfl) ?_
  refine s_ist7 k168_11 rfl ?_
  refine s_ild k168_13 rfl ?_
  refine z_push k168_15 ?_
  refine s_iceq k168_16 ⟨by omega, by omega⟩ (inR_lit rfl) (fun h16 => ?_) (fun h16 => ?_)
  · refine z_push k168_46 ?_
    exact z_zret k168_47 (Or.inl rfl) (ans_i (b2i_f (by omega)).symm)
  · refine s_ild k168_19 rfl ?_
    refine s_ild k168_21 rfl ?_
    refine s_icgt k168_23 ⟨by omega, by omega⟩ ⟨by omega, by omega⟩ (fun h23 => ?_) (fun h23 => ?_)
    · refine z_push k168_46 ?_
      exact z_zret k168_47 (Or.inl rfl) (ans_i (b2i_f (by omega)).symm)
    · refine s_ald k168_26 rfl ?_
      refine s_ild k168_27 rfl ?_
      refine s_ild k168_28 rfl ?_
      refine z_inv2A k168_29 rfl (Nat.le_of_ble_eq_true rfl) (c144 hs h0 h1 hm hr hn (by omega) (by omega)) ?_
      refine z_ifeqb k168_32 (fun h32 => ?_) (fun h32 => ?_)
      · refine z_push k168_46 ?_
        exact z_zret k168_47 (Or.inl rfl) (ans_i (b2i_f (by omega)).symm)
      · refine s_ald k168_35 rfl ?_
        refine s_ild k168_36 rfl ?_
        refine s_ild k168_37 rfl ?_
        refine z_inv2A k168_38 rfl (Nat.le_of_ble_eq_true rfl) (c143 hs h0 h1 hm hr hn (by omega) (by omega)) ?_
        refine s_ild k168_41 rfl ?_
        refine s_icle k168_43 (airS_R hm hn (by omega) (by omega)) ⟨by omega, by omega⟩ (fun h43 => ?_) (fun h43 => ?_)
        · refine s_ild k168_48 rfl ?_
          refine z_push k168_50 ?_
          refine s_icne k168_51 ⟨by omega, by omega⟩ (inR_lit rfl) (fun h51 => ?_) (fun h51 => ?_)
          · refine z_push k168_82 ?_
            refine z_goto k168_83 ?_
            exact z_zret k168_87 (Or.inr rfl) (ans_i (b2i_t (by omega)).symm)
          · refine s_ald k168_54 rfl ?_
            refine z_getRe (b := 130) k168_55 rfl rr_127_5 ?_
            refine s_ild k168_58 rfl ?_
            refine z_ialde (z := σ 130 t) k168_59 rfl (by omega) (show t < ((8 : Nat) : Int) by omega) (st_s hs rfl) ?_
            refine s_ald k168_60 rfl ?_
            refine z_getIe (z := σ 127 6) k168_61 rfl (st_s hs rfl) ?_
            refine s_icne k168_64 ⟨by omega, by omega⟩ ⟨by omega, by omega⟩ (fun h64 => ?_) (fun h64 => ?_)
            · refine z_push k168_82 ?_
              refine z_goto k168_83 ?_
              exact z_zret k168_87 (Or.inr rfl) (ans_i (b2i_t (by omega)).symm)
            · refine s_ild k168_67 rfl ?_
              refine s_ald k168_68 rfl ?_
              refine z_getIe (z := σ 127 7) k168_69 rfl (st_s hs rfl) ?_
              refine s_ald k168_72 rfl ?_
              refine z_getIe (z := σ 127 8) k168_73 rfl (st_s hs rfl) ?_
              refine z_sta3A k168_76 (Nat.le_of_ble_eq_true rfl) (c136 ⟨by omega, by omega⟩ ⟨by omega, by omega⟩ ⟨by omega, by omega⟩) ?_
              refine z_ifneb k168_79 (fun h79 => ?_) (fun h79 => ?_)
              · refine z_push k168_86 ?_
                exact z_zret k168_87 (Or.inl rfl) (ans_i (b2i_f (by omega)).symm)
              · refine z_push k168_82 ?_
                refine z_goto k168_83 ?_
                exact z_zret k168_87 (Or.inr rfl) (ans_i (b2i_t (by omega)).symm)
        · refine z_push k168_46 ?_
          exact z_zret k168_47 (Or.inl rfl) (ans_i (b2i_f (by omega)).symm)
set_option maxRecDepth 20000 in
theorem c57 {d : Nat} {I : Nat → Int → Int} {P : Int → Nat} {dr : Nat} {σ : Nat → Int → Int} (hC : CRn I σ) (hb : 0 ≤ σ 127 0 ∧ σ 127 0 ≤ 300) {v : Int} (hv : inR v) : cal (d + 1) 57 [vr 17, vi v] I P dr (ans (vi (b2i (0 ≤ v ∧ v < σ 127 0))) I P dr) := by
  refine cal_in (Nat.le_of_ble_eq_true rfl) ?_
  obtain ⟨cn, ct, cg, cmr, cmf, cmt, cw, cT, cS, cW⟩ := hC
  show wp _ _ _ _ 0 [vr 17, vi v] [] _
  refine s_ild k57_0 rfl ?_
  refine s_iflt k57_1 hv (fun h1 => ?_) (fun h1 => ?_)
  · refine z_push k57_16 ?_
    exact z_zret k57_17 (Or.inl rfl) (ans_i (b2i_f (by omega)).symm)
  · refine s_ild k57_4 rfl ?_
    refine s_ald k57_5 rfl ?_
    refine z_getIe (z := σ 127 0) k57_6 rfl cn ?_
    refine s_icge k57_9 hv ⟨by omega, by omega⟩ (fun h9 => ?_) (fun h9 => ?_)
    · refine z_push k57_16 ?_
      exact z_zret k57_17 (Or.inl rfl) (ans_i (b2i_f (by omega)).symm)
    · refine z_push k57_12 ?_
      refine z_goto k57_13 ?_
      exact z_zret k57_17 (Or.inr rfl) (ans_i (b2i_t (by omega)).symm)
set_option maxRecDepth 20000 in
theorem c58 {d : Nat} {I : Nat → Int → Int} {P : Int → Nat} {dr : Nat} {σ : Nat → Int → Int} (hC : CRn I σ) (hb : 0 ≤ σ 127 2 ∧ σ 127 2 ≤ 300) {v : Int} (hv : inR v) : cal (d + 1) 58 [vr 17, vi v] I P dr (ans (vi (b2i (0 ≤ v ∧ v < σ 127 2))) I P dr) := by
  refine cal_in (Nat.le_of_ble_eq_true rfl) ?_
  obtain ⟨cn, ct, cg, cmr, cmf, cmt, cw, cT, cS, cW⟩ := hC
  show wp _ _ _ _ 0 [vr 17, vi v] [] _
  refine s_ild k58_0 rfl ?_
  refine s_iflt k58_1 hv (fun h1 => ?_) (fun h1 => ?_)
  · refine z_push k58_16 ?_
    exact z_zret k58_17 (Or.inl rfl) (ans_i (b2i_f (by omega)).symm)
  · refine s_ild k58_4 rfl ?_
    refine s_ald k58_5 rfl ?_
    refine z_getIe (z := σ 127 2) k58_6 rfl cg ?_
    refine s_icge k58_9 hv ⟨by omega, by omega⟩ (fun h9 => ?_) (fun h9 => ?_)
    · refine z_push k58_16 ?_
      exact z_zret k58_17 (Or.inl rfl) (ans_i (b2i_f (by omega)).symm)
    · refine z_push k58_12 ?_
      refine z_goto k58_13 ?_
      exact z_zret k58_17 (Or.inr rfl) (ans_i (b2i_t (by omega)).symm)
set_option maxRecDepth 20000 in
theorem c59 {d : Nat} {I : Nat → Int → Int} {P : Int → Nat} {dr : Nat} {σ : Nat → Int → Int} (hC : CRn I σ) (hb : 0 ≤ σ 127 10 ∧ σ 127 10 ≤ 300) {v : Int} (hv : inR v) : cal (d + 1) 59 [vr 17, vi v] I P dr (ans (vi (b2i (0 ≤ v ∧ v < 2 + σ 127 10))) I P dr) := by
  refine cal_in (Nat.le_of_ble_eq_true rfl) ?_
  obtain ⟨cn, ct, cg, cmr, cmf, cmt, cw, cT, cS, cW⟩ := hC
  show wp _ _ _ _ 0 [vr 17, vi v] [] _
  refine s_ild k59_0 rfl ?_
  refine s_iflt k59_1 hv (fun h1 => ?_) (fun h1 => ?_)
  · refine z_push k59_18 ?_
    exact z_zret k59_19 (Or.inl rfl) (ans_i (b2i_f (by omega)).symm)
  · refine s_ild k59_4 rfl ?_
    refine z_push k59_5 ?_
    refine s_ald k59_6 rfl ?_
    refine z_getIe (z := σ 127 10) k59_7 rfl cw ?_
    refine z_iadd k59_10 ?_
    refine s_icge k59_11 hv ⟨by omega, by omega⟩ (fun h11 => ?_) (fun h11 => ?_)
    · refine z_push k59_18 ?_
      exact z_zret k59_19 (Or.inl rfl) (ans_i (b2i_f (by omega)).symm)
    · refine z_push k59_14 ?_
      refine z_goto k59_15 ?_
      exact z_zret k59_19 (Or.inr rfl) (ans_i (b2i_t (by omega)).symm)
set_option maxRecDepth 20000 in
theorem c29 {d : Nat} {I : Nat → Int → Int} {P : Int → Nat} {dr : Nat} {σ : Nat → Int → Int} (hcp : I 42 1 = σ 127 21) (hb : 0 ≤ σ 127 21 ∧ σ 127 21 ≤ 5) {v : Int} (hv : inR v) : cal (d + 1) 29 [vr 42, vi v] I P dr (ans (vi (b2i (0 ≤ v ∧ v < σ 127 21))) I P dr) := by
  refine cal_in (Nat.le_of_ble_eq_true rfl) ?_
  show wp _ _ _ _ 0 [vr 42, vi v] [] _
  refine s_ild k29_0 rfl ?_
  refine s_iflt k29_1 hv (fun h1 => ?_) (fun h1 => ?_)
  · refine z_push k29_16 ?_
    exact z_zret k29_17 (Or.inl rfl) (ans_i (b2i_f (by omega)).symm)
  · refine s_ild k29_4 rfl ?_
    refine s_ald k29_5 rfl ?_
    refine z_getIe (z := σ 127 21) k29_6 rfl hcp ?_
    refine s_icge k29_9 hv ⟨by omega, by omega⟩ (fun h9 => ?_) (fun h9 => ?_)
    · refine z_push k29_16 ?_
      exact z_zret k29_17 (Or.inl rfl) (ans_i (b2i_f (by omega)).symm)
    · refine z_push k29_12 ?_
      refine z_goto k29_13 ?_
      exact z_zret k29_17 (Or.inr rfl) (ans_i (b2i_t (by omega)).symm)
set_option maxRecDepth 20000 in
theorem c63 {d : Nat} {I : Nat → Int → Int} {P : Int → Nat} {dr : Nat} {σ : Nat → Int → Int} (hC : CRn I σ) {t s : Int} (h0 : 0 ≤ t) (h1 : t < σ 127 2) (h8 : σ 127 2 ≤ 8) (hm : 0 ≤ σ 128 t ∧ σ 128 t ≤ 40) (hr : 0 ≤ σ 129 t ∧ σ 129 t ≤ 8) (hn : 0 ≤ σ 127 1 ∧ σ 127 1 ≤ 300) (h2 : -1000 ≤ s) (h3 : s ≤ 1000) : cal (d + 1) 63 [vr 17, vr (27 + t.toNat), vi s] I P dr (ans (vi (airS σ t s)) I P dr) := by
  refine cal_in (Nat.le_of_ble_eq_true rfl) ?_
  obtain ⟨cn, ct, cg, cmr, cmf, cmt, cw, cT, cS, cW⟩ := hC
  show wp _ _ _ _ 0 [vr 17, vr (27 + t.toNat), vi s] [] _
  refine s_ild k63_0 rfl ?_
  refine s_ald k63_1 rfl ?_
  refine z_getIe (z := σ 128 t) k63_2 (tg_sh (by omega)) (cT t h0 h1).1 ?_
  refine s_ald k63_5 rfl ?_
  refine z_getIe (z := σ 127 1) k63_6 rfl ct ?_
  refine z_isub k63_9 ?_
  refine z_isub k63_10 ?_
  refine z_mabs k63_11 ⟨by omega, by omega⟩ (Nat.le_of_ble_eq_true rfl) (Nat.le_refl _) (Nat.le_refl _) ?_
  exact z_iret k63_14 (ans_i rfl)
set_option maxRecDepth 20000 in
theorem c64 {d : Nat} {I : Nat → Int → Int} {P : Int → Nat} {dr : Nat} {σ : Nat → Int → Int} (hC : CRn I σ) {t s : Int} (h0 : 0 ≤ t) (h1 : t < σ 127 2) (h8 : σ 127 2 ≤ 8) (hm : 0 ≤ σ 128 t ∧ σ 128 t ≤ 40) (hr : 0 ≤ σ 129 t ∧ σ 129 t ≤ 8) (hn : 0 ≤ σ 127 1 ∧ σ 127 1 ≤ 300) (h2 : -1000 ≤ s) (h3 : s ≤ 1000) : cal (d + 2) 64 [vr 17, vr (27 + t.toNat), vi s] I P dr (ans (vi (b2i (airS σ t s ≤ σ 129 t))) I P dr) := by
  refine cal_in (Nat.le_of_ble_eq_true rfl) ?_
  have hC0 := hC
  obtain ⟨cn, ct, cg, cmr, cmf, cmt, cw, cT, cS, cW⟩ := hC
  show wp _ _ _ _ 0 [vr 17, vr (27 + t.toNat), vi s] [] _
  refine s_ald k64_0 rfl ?_
  refine s_ald k64_1 rfl ?_
  refine s_ild k64_2 rfl ?_
  refine z_inv2A k64_3 rfl (Nat.le_of_ble_eq_true rfl) (c63 hC0 h0 h1 h8 hm hr hn (by omega) (by omega)) ?_
  refine s_ald k64_6 rfl ?_
  refine z_getIe (z := σ 129 t) k64_7 (tg_sh (by omega)) (cT t h0 h1).2.1 ?_
  refine s_icgt k64_10 (airS_R hm hn h2 h3) ⟨by omega, by omega⟩ (fun h10 => ?_) (fun h10 => ?_)
  · refine z_push k64_17 ?_
    exact z_zret k64_18 (Or.inl rfl) (ans_i (b2i_f (by omega)).symm)
  · refine z_push k64_13 ?_
    refine z_goto k64_14 ?_
    exact z_zret k64_18 (Or.inr rfl) (ans_i (b2i_t (by omega)).symm)
set_option maxRecDepth 20000 in
theorem c65 {d : Nat} {I : Nat → Int → Int} {P : Int → Nat} {dr : Nat} {σ : Nat → Int → Int} (hC : CRn I σ) {t : Int} (h0 : 0 ≤ t) (h1 : t < σ 127 2) (h8 : σ 127 2 ≤ 8) (hm : 0 ≤ σ 128 t ∧ σ 128 t ≤ 40) (hr : 0 ≤ σ 129 t ∧ σ 129 t ≤ 8) (hn : 0 ≤ σ 127 1 ∧ σ 127 1 ≤ 300) (hN : 4 ≤ σ 127 0 ∧ σ 127 0 ≤ 12) : cal (d + 1) 65 [vr 17, vr (27 + t.toNat)] I P dr (ans (vi (if σ 128 t - σ 127 1 + σ 129 t < σ 127 0 - 1 then σ 128 t - σ 127 1 + σ 129 t else σ 127 0 - 1)) I P dr) := by
  refine cal_in (Nat.le_of_ble_eq_true rfl) ?_
  obtain ⟨cn, ct, cg, cmr, cmf, cmt, cw, cT, cS, cW⟩ := hC
  show wp _ _ _ _ 0 [vr 17, vr (27 + t.toNat)] [] _
  refine s_ald k65_0 rfl ?_
  refine z_getIe (z := σ 127 0) k65_1 rfl cn ?_
  refine z_push k65_4 ?_
  refine z_isub k65_5 ?_
  refine s_ald k65_6 rfl ?_
  refine z_getIe (z := σ 128 t) k65_7 (tg_sh (by omega)) (cT t h0 h1).1 ?_
  refine s_ald k65_10 rfl ?_
  refine z_getIe (z := σ 127 1) k65_11 rfl ct ?_
  refine z_isub k65_14 ?_
  refine s_ald k65_15 rfl ?_
  refine z_getIe (z := σ 129 t) k65_16 (tg_sh (by omega)) (cT t h0 h1).2.1 ?_
  refine z_iadd k65_19 ?_
  refine z_mmin k65_20 ⟨by omega, by omega⟩ ⟨by omega, by omega⟩ (Nat.le_of_ble_eq_true rfl) (Nat.le_refl _) (Nat.le_refl _) ?_
  exact z_iret k65_23 (ans_i rfl)
set_option maxRecDepth 20000 in
theorem c66 {d : Nat} {I : Nat → Int → Int} {P : Int → Nat} {dr : Nat} {σ : Nat → Int → Int} (hC : CRn I σ) {t s : Int} (h0 : 0 ≤ t) (h1 : t < σ 127 2) (h8 : σ 127 2 ≤ 8) (hg : 0 ≤ σ 130 t ∧ σ 130 t ≤ 3) (hmo : (-1 ≤ σ 127 6 ∧ σ 127 6 ≤ 3) ∧ (0 ≤ σ 127 7 ∧ σ 127 7 ≤ 11) ∧ (0 ≤ σ 127 8 ∧ σ 127 8 ≤ 11)) (h2 : 0 ≤ s) (h3 : s < 12) : cal (d + 1) 66 [vr 17, vr (27 + t.toNat), vi s] I P dr (ans (vi (b2i (σ 130 t = σ 127 6 ∧ σ 127 7 ≤ s ∧ s ≤ σ 127 8))) I P dr) := by
  refine cal_in (Nat.le_of_ble_eq_true rfl) ?_
  obtain ⟨cn, ct, cg, cmr, cmf, cmt, cw, cT, cS, cW⟩ := hC
  show wp _ _ _ _ 0 [vr 17, vr (27 + t.toNat), vi s] [] _
  refine s_ald k66_0 rfl ?_
  refine z_getIe (z := σ 130 t) k66_1 (tg_sh (by omega)) (cT t h0 h1).2.2 ?_
  refine s_ald k66_4 rfl ?_
  refine z_getIe (z := σ 127 6) k66_5 rfl cmr ?_
  refine s_icne k66_8 ⟨by omega, by omega⟩ ⟨by omega, by omega⟩ (fun h8 => ?_) (fun h8 => ?_)
  · refine z_push k66_31 ?_
    exact z_zret k66_32 (Or.inl rfl) (ans_i (b2i_f (by omega)).symm)
  · refine s_ild k66_11 rfl ?_
    refine s_ald k66_12 rfl ?_
    refine z_getIe (z := σ 127 7) k66_13 rfl cmf ?_
    refine s_iclt k66_16 ⟨by omega, by omega⟩ ⟨by omega, by omega⟩ (fun h16 => ?_) (fun h16 => ?_)
    · refine z_push k66_31 ?_
      exact z_zret k66_32 (Or.inl rfl) (ans_i (b2i_f (by omega)).symm)
    · refine s_ild k66_19 rfl ?_
      refine s_ald k66_20 rfl ?_
      refine z_getIe (z := σ 127 8) k66_21 rfl cmt ?_
      refine s_icgt k66_24 ⟨by omega, by omega⟩ ⟨by omega, by omega⟩ (fun h24 => ?_) (fun h24 => ?_)
      · refine z_push k66_31 ?_
        exact z_zret k66_32 (Or.inl rfl) (ans_i (b2i_f (by omega)).symm)
      · refine z_push k66_27 ?_
        refine z_goto k66_28 ?_
        exact z_zret k66_32 (Or.inr rfl) (ans_i (b2i_t (by omega)).symm)
set_option maxRecDepth 20000 in
theorem c67 {d : Nat} {I : Nat → Int → Int} {P : Int → Nat} {dr : Nat} {σ : Nat → Int → Int} (hC : CRn I σ) {t s w m r d2 : Int} {sc : Nat} (hsc : (S0.2.2 sc).1 = 6) (e1 : I sc 1 = m) (e2 : I sc 2 = r) (e3 : I sc 3 = d2) (h0 : 0 ≤ t) (h1 : t < σ 127 2) (h8 : σ 127 2 ≤ 8) (hm : 0 ≤ σ 128 t ∧ σ 128 t ≤ 40) (hr : 0 ≤ σ 129 t ∧ σ 129 t ≤ 8) (hg : 0 ≤ σ 130 t ∧ σ 130 t ≤ 3) (hn : 0 ≤ σ 127 1 ∧ σ 127 1 ≤ 300) (hk : 0 ≤ σ 131 (12 * w + s) ∧ σ 131 (12 * w + s) ≤ 4) (hmo : (-1 ≤ σ 127 6 ∧ σ 127 6 ≤ 3) ∧ (0 ≤ σ 127 7 ∧ σ 127 7 ≤ 11) ∧ (0 ≤ σ 127 8 ∧ σ 127 8 ≤ 11)) (h2 : 0 ≤ s) (h3 : s < 12) (h4 : 0 ≤ w) (h5 : w < 2 + σ 127 10) (hw : σ 127 10 ≤ 4) (hm2 : 0 ≤ m ∧ m ≤ 9) (hr2 : 0 ≤ r ∧ r ≤ 9) (hd2 : d2 = 0 ∨ d2 = 1) : cal (d + 3) 67 [vr 17, vi w, vr (27 + t.toNat), vr sc, vi s] I P dr (ans (vi (b2i (fitS σ w t s m r d2))) I P dr) := by
  refine cal_in (Nat.le_of_ble_eq_true rfl) ?_
  have hC0 := hC
  obtain ⟨cn, ct, cg, cmr, cmf, cmt, cw, cT, cS, cW⟩ := hC
  show wp _ _ _ _ 0 [vr 17, vi w, vr (27 + t.toNat), vr sc, vi s, vj, vj] [] _
  refine s_ald k67_0 rfl ?_
  refine z_getRe (b := 19) k67_1 rfl rr_17_7 ?_
  refine s_ild k67_4 rfl ?_
  refine z_aalde (b := 20 + w.toNat) k67_5 rfl (by omega) (show w < ((6 : Nat) : Int) by omega) (rr_sk (by omega) (by omega)) ?_
  refine s_ild k67_6 rfl ?_
  refine z_ialde (z := σ 131 (12 * w + s)) k67_8 (by rw [(sk_sh (t := w.toNat) (by omega))]) (by omega) (by rw [(sk_sh (t := w.toNat) (by omega))]; show s < ((12 : Nat) : Int); omega) (cS w s h4 h5 h2 h3) ?_
  refine s_ist5 k67_9 rfl ?_
  refine s_ald k67_11 rfl ?_
  refine s_ald k67_12 rfl ?_
  refine s_ild k67_13 rfl ?_
  refine z_inv2A k67_15 rfl (Nat.le_of_ble_eq_true rfl) (c63 hC0 h0 h1 h8 hm hr hn (by omega) (by omega)) ?_
  refine s_ist6 k67_18 rfl ?_
  refine s_ild k67_20 rfl ?_
  refine s_ald k67_22 rfl ?_
  refine z_getIe (z := m) k67_23 hsc e1 ?_
  refine s_icgt k67_26 ⟨by omega, by omega⟩ ⟨by omega, by omega⟩ (fun h26 => ?_) (fun h26 => ?_)
  · refine z_push k67_74 ?_
    exact z_zret k67_75 (Or.inl rfl) (ans_i (b2i_f (by omega)).symm)
  · refine s_ild k67_29 rfl ?_
    refine z_push k67_31 ?_
    refine s_iceq k67_32 ⟨by omega, by omega⟩ (inR_lit rfl) (fun h32 => ?_) (fun h32 => ?_)
    · refine z_push k67_74 ?_
      exact z_zret k67_75 (Or.inl rfl) (ans_i (b2i_f (by omega)).symm)
    · refine s_ild k67_35 rfl ?_
      refine s_ald k67_37 rfl ?_
      refine z_getIe (z := σ 129 t) k67_38 (tg_sh (by omega)) (cT t h0 h1).2.1 ?_
      refine s_icgt k67_41 (airS_R hm hn (by omega) (by omega)) ⟨by omega, by omega⟩ (fun h41 => ?_) (fun h41 => ?_)
      · refine z_push k67_74 ?_
        exact z_zret k67_75 (Or.inl rfl) (ans_i (b2i_f (by omega)).symm)
      · refine s_ild k67_44 rfl ?_
        refine s_ald k67_46 rfl ?_
        refine z_getIe (z := r) k67_47 hsc e2 ?_
        refine s_icgt k67_50 (airS_R hm hn (by omega) (by omega)) ⟨by omega, by omega⟩ (fun h50 => ?_) (fun h50 => ?_)
        · refine z_push k67_74 ?_
          exact z_zret k67_75 (Or.inl rfl) (ans_i (b2i_f (by omega)).symm)
        · refine s_ald k67_53 rfl ?_
          refine z_getIe (z := d2) k67_54 hsc e3 ?_
          refine s_ifeq k67_57 ⟨by omega, by omega⟩ (fun h57 => ?_) (fun h57 => ?_)
          · refine z_push k67_70 ?_
            refine z_goto k67_71 ?_
            exact z_zret k67_75 (Or.inr rfl) (ans_i (b2i_t (by omega)).symm)
          · refine s_ald k67_60 rfl ?_
            refine s_ald k67_61 rfl ?_
            refine s_ild k67_62 rfl ?_
            refine z_inv2A k67_64 rfl (Nat.le_of_ble_eq_true rfl) (c66 hC0 h0 h1 h8 hg hmo h2 h3) ?_
            refine z_ifneb k67_67 (fun h67 => ?_) (fun h67 => ?_)
            · refine z_push k67_74 ?_
              exact z_zret k67_75 (Or.inl rfl) (ans_i (b2i_f (by omega)).symm)
            · refine z_push k67_70 ?_
              refine z_goto k67_71 ?_
              exact z_zret k67_75 (Or.inr rfl) (ans_i (b2i_t (by omega)).symm)
set_option maxRecDepth 20000 in
theorem c128 {d : Nat} {I : Nat → Int → Int} {P : Int → Nat} {dr : Nat} {b i : Int} : cal (d + 1) 128 [vi b, vi i] I P dr (ans (vi (b2i (zand (zshr b i) 1 = 1))) I P dr) := by
  refine cal_in (Nat.le_of_ble_eq_true rfl) ?_
  show wp _ _ _ _ 0 [vi b, vi i] [] _
  refine s_ild k128_0 rfl ?_
  refine s_ild k128_1 rfl ?_
  refine z_ishr k128_2 ?_
  refine z_push k128_3 ?_
  refine z_iand k128_4 ?_
  refine z_push k128_5 ?_
  refine s_icne k128_6 (i32_R _) (inR_lit rfl) (fun h6 => ?_) (fun h6 => ?_)
  · refine z_push k128_13 ?_
    exact z_zret k128_14 (by decide) (ans_i (b2i_f (by assumption)).symm)
  · refine z_push k128_9 ?_
    refine z_goto k128_10 ?_
    exact z_zret k128_14 (by decide) (ans_i (b2i_t (by assumption)).symm)
set_option maxRecDepth 20000 in
theorem c129 {d : Nat} {I : Nat → Int → Int} {P : Int → Nat} {dr : Nat} {a n : Int} : cal (d + 1) 129 [vi a, vi n] I P dr (ans (vi (zshl (zshl 1 n - 1) a)) I P dr) := by
  refine cal_in (Nat.le_of_ble_eq_true rfl) ?_
  show wp _ _ _ _ 0 [vi a, vi n] [] _
  refine z_push k129_0 ?_
  refine s_ild k129_1 rfl ?_
  refine z_ishl k129_2 ?_
  refine z_push k129_3 ?_
  refine z_isub k129_4 ?_
  refine s_ild k129_5 rfl ?_
  refine z_ishl k129_6 ?_
  exact z_iret k129_7 (ans_i rfl)
set_option maxRecDepth 20000 in
theorem c127 {d : Nat} {I : Nat → Int → Int} {P : Int → Nat} {dr : Nat} {v : Int} (hv : inR v) : cal (d + 2) 127 [vi v] I P dr (ans (vi (b2i (0 ≤ v ∧ v ≤ 2))) I P dr) := by
  refine cal_in (Nat.le_of_ble_eq_true rfl) ?_
  show wp _ _ _ _ 0 [vi v] [] _
  refine s_ild k127_0 rfl ?_
  refine z_push k127_1 ?_
  refine z_push k127_2 ?_
  refine z_sta3A k127_3 (Nat.le_of_ble_eq_true rfl) (c126 hv (inR_lit rfl) (inR_lit rfl)) ?_
  exact z_zret k127_6 (b2i_01 _) (ans_i rfl)
set_option maxRecDepth 20000 in
theorem c70 {d : Nat} {I : Nat → Int → Int} {P : Int → Nat} {dr : Nat} {a : Nat} (ha : isPl a) {q : Int} (h0 : 0 ≤ q) (h1 : q ≤ 4) : cal (d + 1) 70 [vr a, vi q] I P dr (ans (vi (I a q)) I P dr) := by
  refine cal_in (Nat.le_of_ble_eq_true rfl) ?_
  show wp _ _ _ _ 0 [vr a, vi q] [] _
  refine s_ild k70_0 rfl ?_
  rcases (show q = 0 ∨ q = 1 ∨ q = 2 ∨ q = 3 ∨ q = 4 from by omega) with e1 | e1 | e1 | e1 | e1
  · subst e1
    refine s_tsw k70_1 (inR_lit rfl) rfl ?_
    refine s_ald k70_32 rfl ?_
    refine z_getIe (z := I a 0) k70_33 (pl_sh ha) rfl ?_
    exact z_iret k70_36 (ans_i rfl)
  · subst e1
    refine s_tsw k70_1 (inR_lit rfl) rfl ?_
    refine s_ald k70_37 rfl ?_
    refine z_getIe (z := I a 1) k70_38 (pl_sh ha) rfl ?_
    exact z_iret k70_41 (ans_i rfl)
  · subst e1
    refine s_tsw k70_1 (inR_lit rfl) rfl ?_
    refine s_ald k70_42 rfl ?_
    refine z_getIe (z := I a 2) k70_43 (pl_sh ha) rfl ?_
    exact z_iret k70_46 (ans_i rfl)
  · subst e1
    refine s_tsw k70_1 (inR_lit rfl) rfl ?_
    refine s_ald k70_47 rfl ?_
    refine z_getIe (z := I a 3) k70_48 (pl_sh ha) rfl ?_
    exact z_iret k70_51 (ans_i rfl)
  · subst e1
    refine s_tsw k70_1 (inR_lit rfl) rfl ?_
    refine s_ald k70_52 rfl ?_
    refine z_getIe (z := I a 4) k70_53 (pl_sh ha) rfl ?_
    exact z_iret k70_56 (ans_i rfl)
set_option maxRecDepth 20000 in
theorem c73 {d : Nat} {I : Nat → Int → Int} {P : Int → Nat} {dr : Nat} {sc : Nat} (hsc : (S0.2.2 sc).1 = 6) (hd : I sc 3 = 0 ∨ I sc 3 = 1) {q : Int} (h0 : 0 ≤ q) (h1 : q ≤ 5) : cal (d + 1) 73 [vr sc, vi q] I P dr (ans (vi (I sc q)) I P dr) := by
  refine cal_in (Nat.le_of_ble_eq_true rfl) ?_
  show wp _ _ _ _ 0 [vr sc, vi q] [] _
  refine s_ild k73_0 rfl ?_
  rcases (show q = 0 ∨ q = 1 ∨ q = 2 ∨ q = 3 ∨ q = 4 ∨ q = 5 from by omega) with e1 | e1 | e1 | e1 | e1 | e1
  · subst e1
    refine s_tsw k73_1 (inR_lit rfl) rfl ?_
    refine s_ald k73_36 rfl ?_
    refine z_getIe (z := I sc 0) k73_37 hsc rfl ?_
    exact z_iret k73_40 (ans_i (by first | rfl | omega))
  · subst e1
    refine s_tsw k73_1 (inR_lit rfl) rfl ?_
    refine s_ald k73_41 rfl ?_
    refine z_getIe (z := I sc 1) k73_42 hsc rfl ?_
    exact z_iret k73_45 (ans_i (by first | rfl | omega))
  · subst e1
    refine s_tsw k73_1 (inR_lit rfl) rfl ?_
    refine s_ald k73_46 rfl ?_
    refine z_getIe (z := I sc 2) k73_47 hsc rfl ?_
    exact z_iret k73_50 (ans_i (by first | rfl | omega))
  · subst e1
    refine s_tsw k73_1 (inR_lit rfl) rfl ?_
    refine s_ald k73_51 rfl ?_
    refine z_getIe (z := I sc 3) k73_52 hsc rfl ?_
    refine s_ifeq k73_55 ⟨by omega, by omega⟩ (fun h55 => ?_) (fun h55 => ?_)
    · refine z_push k73_62 ?_
      exact z_iret k73_63 (ans_i (by first | rfl | omega))
    · refine z_push k73_58 ?_
      refine z_goto k73_59 ?_
      exact z_iret k73_63 (ans_i (by first | rfl | omega))
  · subst e1
    refine s_tsw k73_1 (inR_lit rfl) rfl ?_
    refine s_ald k73_64 rfl ?_
    refine z_getIe (z := I sc 4) k73_65 hsc rfl ?_
    exact z_iret k73_68 (ans_i (by first | rfl | omega))
  · subst e1
    refine s_tsw k73_1 (inR_lit rfl) rfl ?_
    refine s_ald k73_69 rfl ?_
    refine z_getIe (z := I sc 5) k73_70 hsc rfl ?_
    exact z_iret k73_73 (ans_i (by first | rfl | omega))
