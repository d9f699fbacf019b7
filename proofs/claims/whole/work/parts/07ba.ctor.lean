set_option maxRecDepth 20000 in
theorem ct_2 {d : Nat} : mcall MT CD (d + 1) 74 [vr 27] (Sx 28 110, Ix lI1, Rx lR9) (28, 110) (fun o h => o = none ∧ h = (Sx 28 110, Ix lI1, Rx lR9)) := by
  refine ⟨by decide, ?_⟩
  show wp (mcall MT CD (d + 0)) (CD 74) (28, 110) (fun o h => o = none ∧ h = (Sx 28 110, Ix lI1, Rx lR9)) 0 [vr 27] [] (Sx 28 110, Ix lI1, Rx lR9)
  refine s_ald k74_0 rfl ?_
  refine z_objinit k74_1 (by decide) (by decide) ?_
  exact s_vret k74_4 rfl rfl ⟨rfl, rfl⟩
set_option maxRecDepth 20000 in
theorem ct_3 {d : Nat} : mcall MT CD (d + 1) 74 [vr 28] (Sx 29 113, Ix lI1, Rx lR10) (29, 113) (fun o h => o = none ∧ h = (Sx 29 113, Ix lI1, Rx lR10)) := by
  refine ⟨by decide, ?_⟩
  show wp (mcall MT CD (d + 0)) (CD 74) (29, 113) (fun o h => o = none ∧ h = (Sx 29 113, Ix lI1, Rx lR10)) 0 [vr 28] [] (Sx 29 113, Ix lI1, Rx lR10)
  refine s_ald k74_0 rfl ?_
  refine z_objinit k74_1 (by decide) (by decide) ?_
  exact s_vret k74_4 rfl rfl ⟨rfl, rfl⟩
set_option maxRecDepth 20000 in
theorem ct_4 {d : Nat} : mcall MT CD (d + 1) 74 [vr 29] (Sx 30 116, Ix lI1, Rx lR11) (30, 116) (fun o h => o = none ∧ h = (Sx 30 116, Ix lI1, Rx lR11)) := by
  refine ⟨by decide, ?_⟩
  show wp (mcall MT CD (d + 0)) (CD 74) (30, 116) (fun o h => o = none ∧ h = (Sx 30 116, Ix lI1, Rx lR11)) 0 [vr 29] [] (Sx 30 116, Ix lI1, Rx lR11)
  refine s_ald k74_0 rfl ?_
  refine z_objinit k74_1 (by decide) (by decide) ?_
  exact s_vret k74_4 rfl rfl ⟨rfl, rfl⟩
set_option maxRecDepth 20000 in
theorem ct_5 {d : Nat} : mcall MT CD (d + 1) 74 [vr 30] (Sx 31 119, Ix lI1, Rx lR12) (31, 119) (fun o h => o = none ∧ h = (Sx 31 119, Ix lI1, Rx lR12)) := by
  refine ⟨by decide, ?_⟩
  show wp (mcall MT CD (d + 0)) (CD 74) (31, 119) (fun o h => o = none ∧ h = (Sx 31 119, Ix lI1, Rx lR12)) 0 [vr 30] [] (Sx 31 119, Ix lI1, Rx lR12)
  refine s_ald k74_0 rfl ?_
  refine z_objinit k74_1 (by decide) (by decide) ?_
  exact s_vret k74_4 rfl rfl ⟨rfl, rfl⟩
set_option maxRecDepth 20000 in
theorem ct_6 {d : Nat} : mcall MT CD (d + 1) 74 [vr 31] (Sx 32 122, Ix lI1, Rx lR13) (32, 122) (fun o h => o = none ∧ h = (Sx 32 122, Ix lI1, Rx lR13)) := by
  refine ⟨by decide, ?_⟩
  show wp (mcall MT CD (d + 0)) (CD 74) (32, 122) (fun o h => o = none ∧ h = (Sx 32 122, Ix lI1, Rx lR13)) 0 [vr 31] [] (Sx 32 122, Ix lI1, Rx lR13)
  refine s_ald k74_0 rfl ?_
  refine z_objinit k74_1 (by decide) (by decide) ?_
  exact s_vret k74_4 rfl rfl ⟨rfl, rfl⟩
set_option maxRecDepth 20000 in
theorem ct_7 {d : Nat} : mcall MT CD (d + 1) 74 [vr 32] (Sx 33 125, Ix lI1, Rx lR14) (33, 125) (fun o h => o = none ∧ h = (Sx 33 125, Ix lI1, Rx lR14)) := by
  refine ⟨by decide, ?_⟩
  show wp (mcall MT CD (d + 0)) (CD 74) (33, 125) (fun o h => o = none ∧ h = (Sx 33 125, Ix lI1, Rx lR14)) 0 [vr 32] [] (Sx 33 125, Ix lI1, Rx lR14)
  refine s_ald k74_0 rfl ?_
  refine z_objinit k74_1 (by decide) (by decide) ?_
  exact s_vret k74_4 rfl rfl ⟨rfl, rfl⟩
set_option maxRecDepth 20000 in
theorem ct_8 {d : Nat} : mcall MT CD (d + 1) 74 [vr 33] (Sx 34 128, Ix lI1, Rx lR15) (34, 128) (fun o h => o = none ∧ h = (Sx 34 128, Ix lI1, Rx lR15)) := by
  refine ⟨by decide, ?_⟩
  show wp (mcall MT CD (d + 0)) (CD 74) (34, 128) (fun o h => o = none ∧ h = (Sx 34 128, Ix lI1, Rx lR15)) 0 [vr 33] [] (Sx 34 128, Ix lI1, Rx lR15)
  refine s_ald k74_0 rfl ?_
  refine z_objinit k74_1 (by decide) (by decide) ?_
  exact s_vret k74_4 rfl rfl ⟨rfl, rfl⟩
set_option maxRecDepth 20000 in
theorem ct_9 {d : Nat} : mcall MT CD (d + 1) 74 [vr 34] (Sx 35 131, Ix lI1, Rx lR16) (35, 131) (fun o h => o = none ∧ h = (Sx 35 131, Ix lI1, Rx lR16)) := by
  refine ⟨by decide, ?_⟩
  show wp (mcall MT CD (d + 0)) (CD 74) (35, 131) (fun o h => o = none ∧ h = (Sx 35 131, Ix lI1, Rx lR16)) 0 [vr 34] [] (Sx 35 131, Ix lI1, Rx lR16)
  refine s_ald k74_0 rfl ?_
  refine z_objinit k74_1 (by decide) (by decide) ?_
  exact s_vret k74_4 rfl rfl ⟨rfl, rfl⟩
set_option maxRecDepth 20000 in
theorem ct_10 {d : Nat} : mcall MT CD (d + 1) 56 [vr 17] (Sx 35 131, Ix lI1, Rx lR17) (35, 131) (fun o h => o = none ∧ h = (Sx 35 131, Ix lI26, Rx lR17)) := by
  refine ⟨by decide, ?_⟩
  show wp (mcall MT CD (d + 0)) (CD 56) (35, 131) (fun o h => o = none ∧ h = (Sx 35 131, Ix lI26, Rx lR17)) 0 [vr 17, vj] [] (Sx 35 131, Ix lI1, Rx lR17)
  refine s_ald k56_0 rfl ?_
  refine z_push k56_1 ?_
  refine z_putI k56_2 (by decide +kernel) ?_
  show wp _ _ _ _ 5 [vr 17, vj] [] (Sx 35 131, Ix lI2, Rx lR17)
  refine z_push k56_5 ?_
  refine s_ist1 k56_6 rfl ?_
  refine s_ild k56_7 rfl ?_
  refine z_push k56_8 ?_
  refine s_icge k56_10 ⟨by decide, by decide⟩ ⟨by decide, by decide⟩ (fun q => absurd q (by decide)) (fun _ => ?_)
  refine s_ald k56_13 rfl ?_
  refine z_getRe (b := 19) k56_14 (by decide +kernel) (by decide +kernel) ?_
  refine z_push k56_17 ?_
  refine z_aalde (b := 20) k56_18 (by decide +kernel) (by decide) (by decide +kernel) (by decide +kernel) ?_
  refine s_ild k56_19 rfl ?_
  refine z_push k56_20 ?_
  refine z_iast k56_21 (by decide +kernel) (by decide) (by decide +kernel) ?_
  show wp _ _ _ _ 22 [vr 17, vi 0] [] (Sx 35 131, Ix lI3, Rx lR17)
  refine s_ald k56_22 rfl ?_
  refine z_getRe (b := 19) k56_23 (by decide +kernel) (by decide +kernel) ?_
  refine z_push k56_26 ?_
  refine z_aalde (b := 21) k56_27 (by decide +kernel) (by decide) (by decide +kernel) (by decide +kernel) ?_
  refine s_ild k56_28 rfl ?_
  refine z_push k56_29 ?_
  refine z_iast k56_30 (by decide +kernel) (by decide) (by decide +kernel) ?_
  show wp _ _ _ _ 31 [vr 17, vi 0] [] (Sx 35 131, Ix lI4, Rx lR17)
  refine s_iinc1 k56_31 rfl ?_
  show wp _ _ _ _ 34 [vr 17, vi 1] [] (Sx 35 131, Ix lI4, Rx lR17)
  refine z_goto k56_34 ?_
  refine s_ild k56_7 rfl ?_
  refine z_push k56_8 ?_
  refine s_icge k56_10 ⟨by decide, by decide⟩ ⟨by decide, by decide⟩ (fun q => absurd q (by decide)) (fun _ => ?_)
  refine s_ald k56_13 rfl ?_
  refine z_getRe (b := 19) k56_14 (by decide +kernel) (by decide +kernel) ?_
  refine z_push k56_17 ?_
  refine z_aalde (b := 20) k56_18 (by decide +kernel) (by decide) (by decide +kernel) (by decide +kernel) ?_
  refine s_ild k56_19 rfl ?_
  refine z_push k56_20 ?_
  refine z_iast k56_21 (by decide +kernel) (by decide) (by decide +kernel) ?_
  show wp _ _ _ _ 22 [vr 17, vi 1] [] (Sx 35 131, Ix lI5, Rx lR17)
  refine s_ald k56_22 rfl ?_
  refine z_getRe (b := 19) k56_23 (by decide +kernel) (by decide +kernel) ?_
  refine z_push k56_26 ?_
  refine z_aalde (b := 21) k56_27 (by decide +kernel) (by decide) (by decide +kernel) (by decide +kernel) ?_
  refine s_ild k56_28 rfl ?_
  refine z_push k56_29 ?_
  refine z_iast k56_30 (by decide +kernel) (by decide) (by decide +kernel) ?_
  show wp _ _ _ _ 31 [vr 17, vi 1] [] (Sx 35 131, Ix lI6, Rx lR17)
  refine s_iinc1 k56_31 rfl ?_
  show wp _ _ _ _ 34 [vr 17, vi 2] [] (Sx 35 131, Ix lI6, Rx lR17)
  refine z_goto k56_34 ?_
  refine s_ild k56_7 rfl ?_
  refine z_push k56_8 ?_
  refine s_icge k56_10 ⟨by decide, by decide⟩ ⟨by decide, by decide⟩ (fun q => absurd q (by decide)) (fun _ => ?_)
  refine s_ald k56_13 rfl ?_
  refine z_getRe (b := 19) k56_14 (by decide +kernel) (by decide +kernel) ?_
  refine z_push k56_17 ?_
  refine z_aalde (b := 20) k56_18 (by decide +kernel) (by decide) (by decide +kernel) (by decide +kernel) ?_
  refine s_ild k56_19 rfl ?_
  refine z_push k56_20 ?_
  refine z_iast k56_21 (by decide +kernel) (by decide) (by decide +kernel) ?_
  show wp _ _ _ _ 22 [vr 17, vi 2] [] (Sx 35 131, Ix lI7, Rx lR17)
  refine s_ald k56_22 rfl ?_
  refine z_getRe (b := 19) k56_23 (by decide +kernel) (by decide +kernel) ?_
  refine z_push k56_26 ?_
  refine z_aalde (b := 21) k56_27 (by decide +kernel) (by decide) (by decide +kernel) (by decide +kernel) ?_
  refine s_ild k56_28 rfl ?_
  refine z_push k56_29 ?_
  refine z_iast k56_30 (by decide +kernel) (by decide) (by decide +kernel) ?_
  show wp _ _ _ _ 31 [vr 17, vi 2] [] (Sx 35 131, Ix lI8, Rx lR17)
  refine s_iinc1 k56_31 rfl ?_
  show wp _ _ _ _ 34 [vr 17, vi 3] [] (Sx 35 131, Ix lI8, Rx lR17)
  refine z_goto k56_34 ?_
  refine s_ild k56_7 rfl ?_
  refine z_push k56_8 ?_
  refine s_icge k56_10 ⟨by decide, by decide⟩ ⟨by decide, by decide⟩ (fun q => absurd q (by decide)) (fun _ => ?_)
  refine s_ald k56_13 rfl ?_
  refine z_getRe (b := 19) k56_14 (by decide +kernel) (by decide +kernel) ?_
  refine z_push k56_17 ?_
  refine z_aalde (b := 20) k56_18 (by decide +kernel) (by decide) (by decide +kernel) (by decide +kernel) ?_
  refine s_ild k56_19 rfl ?_
  refine z_push k56_20 ?_
  refine z_iast k56_21 (by decide +kernel) (by decide) (by decide +kernel) ?_
  show wp _ _ _ _ 22 [vr 17, vi 3] [] (Sx 35 131, Ix lI9, Rx lR17)
  refine s_ald k56_22 rfl ?_
  refine z_getRe (b := 19) k56_23 (by decide +kernel) (by decide +kernel) ?_
  refine z_push k56_26 ?_
  refine z_aalde (b := 21) k56_27 (by decide +kernel) (by decide) (by decide +kernel) (by decide +kernel) ?_
  refine s_ild k56_28 rfl ?_
  refine z_push k56_29 ?_
  refine z_iast k56_30 (by decide +kernel) (by decide) (by decide +kernel) ?_
  show wp _ _ _ _ 31 [vr 17, vi 3] [] (Sx 35 131, Ix lI10, Rx lR17)
  refine s_iinc1 k56_31 rfl ?_
  show wp _ _ _ _ 34 [vr 17, vi 4] [] (Sx 35 131, Ix lI10, Rx lR17)
  refine z_goto k56_34 ?_
  refine s_ild k56_7 rfl ?_
  refine z_push k56_8 ?_
  refine s_icge k56_10 ⟨by decide, by decide⟩ ⟨by decide, by decide⟩ (fun q => absurd q (by decide)) (fun _ => ?_)
  refine s_ald k56_13 rfl ?_
  refine z_getRe (b := 19) k56_14 (by decide +kernel) (by decide +kernel) ?_
  refine z_push k56_17 ?_
  refine z_aalde (b := 20) k56_18 (by decide +kernel) (by decide) (by decide +kernel) (by decide +kernel) ?_
  refine s_ild k56_19 rfl ?_
  refine z_push k56_20 ?_
  refine z_iast k56_21 (by decide +kernel) (by decide) (by decide +kernel) ?_
  show wp _ _ _ _ 22 [vr 17, vi 4] [] (Sx 35 131, Ix lI11, Rx lR17)
  refine s_ald k56_22 rfl ?_
  refine z_getRe (b := 19) k56_23 (by decide +kernel) (by decide +kernel) ?_
  refine z_push k56_26 ?_
  refine z_aalde (b := 21) k56_27 (by decide +kernel) (by decide) (by decide +kernel) (by decide +kernel) ?_
  refine s_ild k56_28 rfl ?_
  refine z_push k56_29 ?_
  refine z_iast k56_30 (by decide +kernel) (by decide) (by decide +kernel) ?_
  show wp _ _ _ _ 31 [vr 17, vi 4] [] (Sx 35 131, Ix lI12, Rx lR17)
  refine s_iinc1 k56_31 rfl ?_
  show wp _ _ _ _ 34 [vr 17, vi 5] [] (Sx 35 131, Ix lI12, Rx lR17)
  refine z_goto k56_34 ?_
  refine s_ild k56_7 rfl ?_
  refine z_push k56_8 ?_
  refine s_icge k56_10 ⟨by decide, by decide⟩ ⟨by decide, by decide⟩ (fun q => absurd q (by decide)) (fun _ => ?_)
  refine s_ald k56_13 rfl ?_
  refine z_getRe (b := 19) k56_14 (by decide +kernel) (by decide +kernel) ?_
  refine z_push k56_17 ?_
  refine z_aalde (b := 20) k56_18 (by decide +kernel) (by decide) (by decide +kernel) (by decide +kernel) ?_
  refine s_ild k56_19 rfl ?_
  refine z_push k56_20 ?_
  refine z_iast k56_21 (by decide +kernel) (by decide) (by decide +kernel) ?_
  show wp _ _ _ _ 22 [vr 17, vi 5] [] (Sx 35 131, Ix lI13, Rx lR17)
  refine s_ald k56_22 rfl ?_
  refine z_getRe (b := 19) k56_23 (by decide +kernel) (by decide +kernel) ?_
  refine z_push k56_26 ?_
  refine z_aalde (b := 21) k56_27 (by decide +kernel) (by decide) (by decide +kernel) (by decide +kernel) ?_
  refine s_ild k56_28 rfl ?_
  refine z_push k56_29 ?_
  refine z_iast k56_30 (by decide +kernel) (by decide) (by decide +kernel) ?_
  show wp _ _ _ _ 31 [vr 17, vi 5] [] (Sx 35 131, Ix lI14, Rx lR17)
  refine s_iinc1 k56_31 rfl ?_
  show wp _ _ _ _ 34 [vr 17, vi 6] [] (Sx 35 131, Ix lI14, Rx lR17)
  refine z_goto k56_34 ?_
  refine s_ild k56_7 rfl ?_
  refine z_push k56_8 ?_
  refine s_icge k56_10 ⟨by decide, by decide⟩ ⟨by decide, by decide⟩ (fun q => absurd q (by decide)) (fun _ => ?_)
  refine s_ald k56_13 rfl ?_
  refine z_getRe (b := 19) k56_14 (by decide +kernel) (by decide +kernel) ?_
  refine z_push k56_17 ?_
  refine z_aalde (b := 20) k56_18 (by decide +kernel) (by decide) (by decide +kernel) (by decide +kernel) ?_
  refine s_ild k56_19 rfl ?_
  refine z_push k56_20 ?_
  refine z_iast k56_21 (by decide +kernel) (by decide) (by decide +kernel) ?_
  show wp _ _ _ _ 22 [vr 17, vi 6] [] (Sx 35 131, Ix lI15, Rx lR17)
  refine s_ald k56_22 rfl ?_
  refine z_getRe (b := 19) k56_23 (by decide +kernel) (by decide +kernel) ?_
  refine z_push k56_26 ?_
  refine z_aalde (b := 21) k56_27 (by decide +kernel) (by decide) (by decide +kernel) (by decide +kernel) ?_
  refine s_ild k56_28 rfl ?_
  refine z_push k56_29 ?_
  refine z_iast k56_30 (by decide +kernel) (by decide) (by decide +kernel) ?_
  show wp _ _ _ _ 31 [vr 17, vi 6] [] (Sx 35 131, Ix lI16, Rx lR17)
  refine s_iinc1 k56_31 rfl ?_
  show wp _ _ _ _ 34 [vr 17, vi 7] [] (Sx 35 131, Ix lI16, Rx lR17)
  refine z_goto k56_34 ?_
  refine s_ild k56_7 rfl ?_
  refine z_push k56_8 ?_
  refine s_icge k56_10 ⟨by decide, by decide⟩ ⟨by decide, by decide⟩ (fun q => absurd q (by decide)) (fun _ => ?_)
  refine s_ald k56_13 rfl ?_
  refine z_getRe (b := 19) k56_14 (by decide +kernel) (by decide +kernel) ?_
  refine z_push k56_17 ?_
  refine z_aalde (b := 20) k56_18 (by decide +kernel) (by decide) (by decide +kernel) (by decide +kernel) ?_
  refine s_ild k56_19 rfl ?_
  refine z_push k56_20 ?_
  refine z_iast k56_21 (by decide +kernel) (by decide) (by decide +kernel) ?_
  show wp _ _ _ _ 22 [vr 17, vi 7] [] (Sx 35 131, Ix lI17, Rx lR17)
  refine s_ald k56_22 rfl ?_
  refine z_getRe (b := 19) k56_23 (by decide +kernel) (by decide +kernel) ?_
  refine z_push k56_26 ?_
  refine z_aalde (b := 21) k56_27 (by decide +kernel) (by decide) (by decide +kernel) (by decide +kernel) ?_
  refine s_ild k56_28 rfl ?_
  refine z_push k56_29 ?_
  refine z_iast k56_30 (by decide +kernel) (by decide) (by decide +kernel) ?_
  show wp _ _ _ _ 31 [vr 17, vi 7] [] (Sx 35 131, Ix lI18, Rx lR17)
  refine s_iinc1 k56_31 rfl ?_
  show wp _ _ _ _ 34 [vr 17, vi 8] [] (Sx 35 131, Ix lI18, Rx lR17)
  refine z_goto k56_34 ?_
  refine s_ild k56_7 rfl ?_
  refine z_push k56_8 ?_
  refine s_icge k56_10 ⟨by decide, by decide⟩ ⟨by decide, by decide⟩ (fun q => absurd q (by decide)) (fun _ => ?_)
  refine s_ald k56_13 rfl ?_
  refine z_getRe (b := 19) k56_14 (by decide +kernel) (by decide +kernel) ?_
  refine z_push k56_17 ?_
  refine z_aalde (b := 20) k56_18 (by decide +kernel) (by decide) (by decide +kernel) (by decide +kernel) ?_
  refine s_ild k56_19 rfl ?_
  refine z_push k56_20 ?_
  refine z_iast k56_21 (by decide +kernel) (by decide) (by decide +kernel) ?_
  show wp _ _ _ _ 22 [vr 17, vi 8] [] (Sx 35 131, Ix lI19, Rx lR17)
  refine s_ald k56_22 rfl ?_
  refine z_getRe (b := 19) k56_23 (by decide +kernel) (by decide +kernel) ?_
  refine z_push k56_26 ?_
  refine z_aalde (b := 21) k56_27 (by decide +kernel) (by decide) (by decide +kernel) (by decide +kernel) ?_
  refine s_ild k56_28 rfl ?_
  refine z_push k56_29 ?_
  refine z_iast k56_30 (by decide +kernel) (by decide) (by decide +kernel) ?_
  show wp _ _ _ _ 31 [vr 17, vi 8] [] (Sx 35 131, Ix lI20, Rx lR17)
  refine s_iinc1 k56_31 rfl ?_
  show wp _ _ _ _ 34 [vr 17, vi 9] [] (Sx 35 131, Ix lI20, Rx lR17)
  refine z_goto k56_34 ?_
  refine s_ild k56_7 rfl ?_
  refine z_push k56_8 ?_
  refine s_icge k56_10 ⟨by decide, by decide⟩ ⟨by decide, by decide⟩ (fun q => absurd q (by decide)) (fun _ => ?_)
  refine s_ald k56_13 rfl ?_
  refine z_getRe (b := 19) k56_14 (by decide +kernel) (by decide +kernel) ?_
  refine z_push k56_17 ?_
  refine z_aalde (b := 20) k56_18 (by decide +kernel) (by decide) (by decide +kernel) (by decide +kernel) ?_
  refine s_ild k56_19 rfl ?_
  refine z_push k56_20 ?_
  refine z_iast k56_21 (by decide +kernel) (by decide) (by decide +kernel) ?_
  show wp _ _ _ _ 22 [vr 17, vi 9] [] (Sx 35 131, Ix lI21, Rx lR17)
  refine s_ald k56_22 rfl ?_
  refine z_getRe (b := 19) k56_23 (by decide +kernel) (by decide +kernel) ?_
  refine z_push k56_26 ?_
  refine z_aalde (b := 21) k56_27 (by decide +kernel) (by decide) (by decide +kernel) (by decide +kernel) ?_
  refine s_ild k56_28 rfl ?_
  refine z_push k56_29 ?_
  refine z_iast k56_30 (by decide +kernel) (by decide) (by decide +kernel) ?_
  show wp _ _ _ _ 31 [vr 17, vi 9] [] (Sx 35 131, Ix lI22, Rx lR17)
  refine s_iinc1 k56_31 rfl ?_
  show wp _ _ _ _ 34 [vr 17, vi 10] [] (Sx 35 131, Ix lI22, Rx lR17)
  refine z_goto k56_34 ?_
  refine s_ild k56_7 rfl ?_
  refine z_push k56_8 ?_
  refine s_icge k56_10 ⟨by decide, by decide⟩ ⟨by decide, by decide⟩ (fun q => absurd q (by decide)) (fun _ => ?_)
  refine s_ald k56_13 rfl ?_
  refine z_getRe (b := 19) k56_14 (by decide +kernel) (by decide +kernel) ?_
  refine z_push k56_17 ?_
  refine z_aalde (b := 20) k56_18 (by decide +kernel) (by decide) (by decide +kernel) (by decide +kernel) ?_
  refine s_ild k56_19 rfl ?_
  refine z_push k56_20 ?_
  refine z_iast k56_21 (by decide +kernel) (by decide) (by decide +kernel) ?_
  show wp _ _ _ _ 22 [vr 17, vi 10] [] (Sx 35 131, Ix lI23, Rx lR17)
  refine s_ald k56_22 rfl ?_
  refine z_getRe (b := 19) k56_23 (by decide +kernel) (by decide +kernel) ?_
  refine z_push k56_26 ?_
  refine z_aalde (b := 21) k56_27 (by decide +kernel) (by decide) (by decide +kernel) (by decide +kernel) ?_
  refine s_ild k56_28 rfl ?_
  refine z_push k56_29 ?_
  refine z_iast k56_30 (by decide +kernel) (by decide) (by decide +kernel) ?_
  show wp _ _ _ _ 31 [vr 17, vi 10] [] (Sx 35 131, Ix lI24, Rx lR17)
  refine s_iinc1 k56_31 rfl ?_
  show wp _ _ _ _ 34 [vr 17, vi 11] [] (Sx 35 131, Ix lI24, Rx lR17)
  refine z_goto k56_34 ?_
  refine s_ild k56_7 rfl ?_
  refine z_push k56_8 ?_
  refine s_icge k56_10 ⟨by decide, by decide⟩ ⟨by decide, by decide⟩ (fun q => absurd q (by decide)) (fun _ => ?_)
  refine s_ald k56_13 rfl ?_
  refine z_getRe (b := 19) k56_14 (by decide +kernel) (by decide +kernel) ?_
  refine z_push k56_17 ?_
  refine z_aalde (b := 20) k56_18 (by decide +kernel) (by decide) (by decide +kernel) (by decide +kernel) ?_
  refine s_ild k56_19 rfl ?_
  refine z_push k56_20 ?_
  refine z_iast k56_21 (by decide +kernel) (by decide) (by decide +kernel) ?_
  show wp _ _ _ _ 22 [vr 17, vi 11] [] (Sx 35 131, Ix lI25, Rx lR17)
  refine s_ald k56_22 rfl ?_
  refine z_getRe (b := 19) k56_23 (by decide +kernel) (by decide +kernel) ?_
  refine z_push k56_26 ?_
  refine z_aalde (b := 21) k56_27 (by decide +kernel) (by decide) (by decide +kernel) (by decide +kernel) ?_
  refine s_ild k56_28 rfl ?_
  refine z_push k56_29 ?_
  refine z_iast k56_30 (by decide +kernel) (by decide) (by decide +kernel) ?_
  show wp _ _ _ _ 31 [vr 17, vi 11] [] (Sx 35 131, Ix lI26, Rx lR17)
  refine s_iinc1 k56_31 rfl ?_
  show wp _ _ _ _ 34 [vr 17, vi 12] [] (Sx 35 131, Ix lI26, Rx lR17)
  refine z_goto k56_34 ?_
  refine s_ild k56_7 rfl ?_
  refine z_push k56_8 ?_
  refine s_icge k56_10 ⟨by decide, by decide⟩ ⟨by decide, by decide⟩ (fun _ => ?_) (fun q => absurd q (by decide))
  exact s_vret k56_37 rfl rfl ⟨rfl, rfl⟩
set_option maxRecDepth 20000 in
theorem ct_1 {d : Nat} : mcall MT CD (d + 2) 55 [vr 17] (Sx 18 17, Ix lI0, Rx lR0) (35, 131) (fun o h => o = none ∧ h = (Sx 35 131, Ix lI26, Rx lR17)) := by
  refine ⟨by decide, ?_⟩
  show wp (mcall MT CD (d + 1)) (CD 55) (35, 131) (fun o h => o = none ∧ h = (Sx 35 131, Ix lI26, Rx lR17)) 0 [vr 17, vj] [] (Sx 18 17, Ix lI0, Rx lR0)
  refine s_ald k55_0 rfl ?_
  refine z_objinit k55_1 (by decide) (by decide) ?_
  refine s_ald k55_4 rfl ?_
  refine z_push k55_5 ?_
  refine z_putI k55_7 (by decide +kernel) ?_
  show wp _ _ _ _ 10 [vr 17, vj] [] (Sx 18 17, Ix lI1, Rx lR0)
  refine s_ald k55_10 rfl ?_
  refine z_push k55_11 ?_
  refine x_anew k55_13 (by decide) (by decide) (by decide +kernel) (by decide +kernel) (by decide +kernel) (by decide) (by decide) rfl rfl ?_
  show wp _ _ _ _ 16 [vr 17, vj] [vr 18, vr 17] (Sx 19 25, Ix lI1, Rx lR0)
  refine z_putR k55_16 (by decide +kernel) ?_
  show wp _ _ _ _ 19 [vr 17, vj] [] (Sx 19 25, Ix lI1, Rx lR1)
  refine s_ald k55_19 rfl ?_
  refine z_push k55_20 ?_
  refine z_push k55_22 ?_
  refine x_mna k55_24 (by decide) (by decide) (by decide) (by decide) (by decide +kernel) (by decide +kernel) (by decide +kernel) (by decide) (by decide) rfl rfl ?_
  show wp _ _ _ _ 28 [vr 17, vj] [vr 19, vr 17] (Sx 26 103, Ix lI1, Rx lR7)
  refine z_putR k55_28 (by decide +kernel) ?_
  show wp _ _ _ _ 31 [vr 17, vj] [] (Sx 26 103, Ix lI1, Rx lR8)
  refine s_ald k55_31 rfl ?_
  refine z_push k55_32 ?_
  refine x_newa k55_33 (by decide) (by decide) (by decide +kernel) (by decide +kernel) (by decide +kernel) (by decide) (by decide) rfl rfl ?_
  show wp _ _ _ _ 35 [vr 17, vj] [vr 26, vr 17] (Sx 27 107, Ix lI1, Rx lR8)
  refine z_putR k55_35 (by decide +kernel) ?_
  show wp _ _ _ _ 38 [vr 17, vj] [] (Sx 27 107, Ix lI1, Rx lR9)
  refine z_push k55_38 ?_
  refine s_ist1 k55_39 rfl ?_
  refine s_ild k55_40 rfl ?_
  refine z_push k55_41 ?_
  refine s_icge k55_43 ⟨by decide, by decide⟩ ⟨by decide, by decide⟩ (fun q => absurd q (by decide)) (fun _ => ?_)
  refine s_ald k55_46 rfl ?_
  refine z_getRe (b := 18) k55_47 (by decide +kernel) (by decide +kernel) ?_
  refine s_ild k55_50 rfl ?_
  refine x_new k55_51 (by decide +kernel) (by decide +kernel) (by decide +kernel) (by decide) (by decide) rfl rfl ?_
  show wp _ _ _ _ 54 [vr 17, vi 0] [vr 27, vi 0, vr 18] (Sx 28 110, Ix lI1, Rx lR9)
  refine z_dupr k55_54 ?_
  refine s_inv0 (lm := (28, 110)) k55_55 (by decide +kernel) (by decide) ⟨by decide, by decide, by decide, by decide⟩ ct_2 (fun o h1 q => ?_)
  obtain ⟨rfl, rfl⟩ := q
  show wp _ _ _ _ 58 [vr 17, vi 0] [vr 27, vi 0, vr 18] (Sx 28 110, Ix lI1, Rx lR9)
  refine z_aast k55_58 (by decide +kernel) (by decide +kernel) (by decide) (by decide +kernel) ?_
  show wp _ _ _ _ 59 [vr 17, vi 0] [] (Sx 28 110, Ix lI1, Rx lR10)
  refine s_iinc1 k55_59 rfl ?_
  show wp _ _ _ _ 62 [vr 17, vi 1] [] (Sx 28 110, Ix lI1, Rx lR10)
  refine z_goto k55_62 ?_
  refine s_ild k55_40 rfl ?_
  refine z_push k55_41 ?_
  refine s_icge k55_43 ⟨by decide, by decide⟩ ⟨by decide, by decide⟩ (fun q => absurd q (by decide)) (fun _ => ?_)
  refine s_ald k55_46 rfl ?_
  refine z_getRe (b := 18) k55_47 (by decide +kernel) (by decide +kernel) ?_
  refine s_ild k55_50 rfl ?_
  refine x_new k55_51 (by decide +kernel) (by decide +kernel) (by decide +kernel) (by decide) (by decide) rfl rfl ?_
  show wp _ _ _ _ 54 [vr 17, vi 1] [vr 28, vi 1, vr 18] (Sx 29 113, Ix lI1, Rx lR10)
  refine z_dupr k55_54 ?_
  refine s_inv0 (lm := (29, 113)) k55_55 (by decide +kernel) (by decide) ⟨by decide, by decide, by decide, by decide⟩ ct_3 (fun o h1 q => ?_)
  obtain ⟨rfl, rfl⟩ := q
  show wp _ _ _ _ 58 [vr 17, vi 1] [vr 28, vi 1, vr 18] (Sx 29 113, Ix lI1, Rx lR10)
  refine z_aast k55_58 (by decide +kernel) (by decide +kernel) (by decide) (by decide +kernel) ?_
  show wp _ _ _ _ 59 [vr 17, vi 1] [] (Sx 29 113, Ix lI1, Rx lR11)
  refine s_iinc1 k55_59 rfl ?_
  show wp _ _ _ _ 62 [vr 17, vi 2] [] (Sx 29 113, Ix lI1, Rx lR11)
  refine z_goto k55_62 ?_
  refine s_ild k55_40 rfl ?_
  refine z_push k55_41 ?_
  refine s_icge k55_43 ⟨by decide, by decide⟩ ⟨by decide, by decide⟩ (fun q => absurd q (by decide)) (fun _ => ?_)
  refine s_ald k55_46 rfl ?_
  refine z_getRe (b := 18) k55_47 (by decide +kernel) (by decide +kernel) ?_
  refine s_ild k55_50 rfl ?_
  refine x_new k55_51 (by decide +kernel) (by decide +kernel) (by decide +kernel) (by decide) (by decide) rfl rfl ?_
  show wp _ _ _ _ 54 [vr 17, vi 2] [vr 29, vi 2, vr 18] (Sx 30 116, Ix lI1, Rx lR11)
  refine z_dupr k55_54 ?_
  refine s_inv0 (lm := (30, 116)) k55_55 (by decide +kernel) (by decide) ⟨by decide, by decide, by decide, by decide⟩ ct_4 (fun o h1 q => ?_)
  obtain ⟨rfl, rfl⟩ := q
  show wp _ _ _ _ 58 [vr 17, vi 2] [vr 29, vi 2, vr 18] (Sx 30 116, Ix lI1, Rx lR11)
  refine z_aast k55_58 (by decide +kernel) (by decide +kernel) (by decide) (by decide +kernel) ?_
  show wp _ _ _ _ 59 [vr 17, vi 2] [] (Sx 30 116, Ix lI1, Rx lR12)
  refine s_iinc1 k55_59 rfl ?_
  show wp _ _ _ _ 62 [vr 17, vi 3] [] (Sx 30 116, Ix lI1, Rx lR12)
  refine z_goto k55_62 ?_
  refine s_ild k55_40 rfl ?_
  refine z_push k55_41 ?_
  refine s_icge k55_43 ⟨by decide, by decide⟩ ⟨by decide, by decide⟩ (fun q => absurd q (by decide)) (fun _ => ?_)
  refine s_ald k55_46 rfl ?_
  refine z_getRe (b := 18) k55_47 (by decide +kernel) (by decide +kernel) ?_
  refine s_ild k55_50 rfl ?_
  refine x_new k55_51 (by decide +kernel) (by decide +kernel) (by decide +kernel) (by decide) (by decide) rfl rfl ?_
  show wp _ _ _ _ 54 [vr 17, vi 3] [vr 30, vi 3, vr 18] (Sx 31 119, Ix lI1, Rx lR12)
  refine z_dupr k55_54 ?_
  refine s_inv0 (lm := (31, 119)) k55_55 (by decide +kernel) (by decide) ⟨by decide, by decide, by decide, by decide⟩ ct_5 (fun o h1 q => ?_)
  obtain ⟨rfl, rfl⟩ := q
  show wp _ _ _ _ 58 [vr 17, vi 3] [vr 30, vi 3, vr 18] (Sx 31 119, Ix lI1, Rx lR12)
  refine z_aast k55_58 (by decide +kernel) (by decide +kernel) (by decide) (by decide +kernel) ?_
  show wp _ _ _ _ 59 [vr 17, vi 3] [] (Sx 31 119, Ix lI1, Rx lR13)
  refine s_iinc1 k55_59 rfl ?_
  show wp _ _ _ _ 62 [vr 17, vi 4] [] (Sx 31 119, Ix lI1, Rx lR13)
  refine z_goto k55_62 ?_
  refine s_ild k55_40 rfl ?_
  refine z_push k55_41 ?_
  refine s_icge k55_43 ⟨by decide, by decide⟩ ⟨by decide, by decide⟩ (fun q => absurd q (by decide)) (fun _ => ?_)
  refine s_ald k55_46 rfl ?_
  refine z_getRe (b := 18) k55_47 (by decide +kernel) (by decide +kernel) ?_
  refine s_ild k55_50 rfl ?_
  refine x_new k55_51 (by decide +kernel) (by decide +kernel) (by decide +kernel) (by decide) (by decide) rfl rfl ?_
  show wp _ _ _ _ 54 [vr 17, vi 4] [vr 31, vi 4, vr 18] (Sx 32 122, Ix lI1, Rx lR13)
  refine z_dupr k55_54 ?_
  refine s_inv0 (lm := (32, 122)) k55_55 (by decide +kernel) (by decide) ⟨by decide, by decide, by decide, by decide⟩ ct_6 (fun o h1 q => ?_)
  obtain ⟨rfl, rfl⟩ := q
  show wp _ _ _ _ 58 [vr 17, vi 4] [vr 31, vi 4, vr 18] (Sx 32 122, Ix lI1, Rx lR13)
  refine z_aast k55_58 (by decide +kernel) (by decide +kernel) (by decide) (by decide +kernel) ?_
  show wp _ _ _ _ 59 [vr 17, vi 4] [] (Sx 32 122, Ix lI1, Rx lR14)
  refine s_iinc1 k55_59 rfl ?_
  show wp _ _ _ _ 62 [vr 17, vi 5] [] (Sx 32 122, Ix lI1, Rx lR14)
  refine z_goto k55_62 ?_
  refine s_ild k55_40 rfl ?_
  refine z_push k55_41 ?_
  refine s_icge k55_43 ⟨by decide, by decide⟩ ⟨by decide, by decide⟩ (fun q => absurd q (by decide)) (fun _ => ?_)
  refine s_ald k55_46 rfl ?_
  refine z_getRe (b := 18) k55_47 (by decide +kernel) (by decide +kernel) ?_
  refine s_ild k55_50 rfl ?_
  refine x_new k55_51 (by decide +kernel) (by decide +kernel) (by decide +kernel) (by decide) (by decide) rfl rfl ?_
  show wp _ _ _ _ 54 [vr 17, vi 5] [vr 32, vi 5, vr 18] (Sx 33 125, Ix lI1, Rx lR14)
  refine z_dupr k55_54 ?_
  refine s_inv0 (lm := (33, 125)) k55_55 (by decide +kernel) (by decide) ⟨by decide, by decide, by decide, by decide⟩ ct_7 (fun o h1 q => ?_)
  obtain ⟨rfl, rfl⟩ := q
  show wp _ _ _ _ 58 [vr 17, vi 5] [vr 32, vi 5, vr 18] (Sx 33 125, Ix lI1, Rx lR14)
  refine z_aast k55_58 (by decide +kernel) (by decide +kernel) (by decide) (by decide +kernel) ?_
  show wp _ _ _ _ 59 [vr 17, vi 5] [] (Sx 33 125, Ix lI1, Rx lR15)
  refine s_iinc1 k55_59 rfl ?_
  show wp _ _ _ _ 62 [vr 17, vi 6] [] (Sx 33 125, Ix lI1, Rx lR15)
  refine z_goto k55_62 ?_
  refine s_ild k55_40 rfl ?_
  refine z_push k55_41 ?_
  refine s_icge k55_43 ⟨by decide, by decide⟩ ⟨by decide, by decide⟩ (fun q => absurd q (by decide)) (fun _ => ?_)
  refine s_ald k55_46 rfl ?_
  refine z_getRe (b := 18) k55_47 (by decide +kernel) (by decide +kernel) ?_
  refine s_ild k55_50 rfl ?_
  refine x_new k55_51 (by decide +kernel) (by decide +kernel) (by decide +kernel) (by decide) (by decide) rfl rfl ?_
  show wp _ _ _ _ 54 [vr 17, vi 6] [vr 33, vi 6, vr 18] (Sx 34 128, Ix lI1, Rx lR15)
  refine z_dupr k55_54 ?_
  refine s_inv0 (lm := (34, 128)) k55_55 (by decide +kernel) (by decide) ⟨by decide, by decide, by decide, by decide⟩ ct_8 (fun o h1 q => ?_)
  obtain ⟨rfl, rfl⟩ := q
  show wp _ _ _ _ 58 [vr 17, vi 6] [vr 33, vi 6, vr 18] (Sx 34 128, Ix lI1, Rx lR15)
  refine z_aast k55_58 (by decide +kernel) (by decide +kernel) (by decide) (by decide +kernel) ?_
  show wp _ _ _ _ 59 [vr 17, vi 6] [] (Sx 34 128, Ix lI1, Rx lR16)
  refine s_iinc1 k55_59 rfl ?_
  show wp _ _ _ _ 62 [vr 17, vi 7] [] (Sx 34 128, Ix lI1, Rx lR16)
  refine z_goto k55_62 ?_
  refine s_ild k55_40 rfl ?_
  refine z_push k55_41 ?_
  refine s_icge k55_43 ⟨by decide, by decide⟩ ⟨by decide, by decide⟩ (fun q => absurd q (by decide)) (fun _ => ?_)
  refine s_ald k55_46 rfl ?_
  refine z_getRe (b := 18) k55_47 (by decide +kernel) (by decide +kernel) ?_
  refine s_ild k55_50 rfl ?_
  refine x_new k55_51 (by decide +kernel) (by decide +kernel) (by decide +kernel) (by decide) (by decide) rfl rfl ?_
  show wp _ _ _ _ 54 [vr 17, vi 7] [vr 34, vi 7, vr 18] (Sx 35 131, Ix lI1, Rx lR16)
  refine z_dupr k55_54 ?_
  refine s_inv0 (lm := (35, 131)) k55_55 (by decide +kernel) (by decide) ⟨by decide, by decide, by decide, by decide⟩ ct_9 (fun o h1 q => ?_)
  obtain ⟨rfl, rfl⟩ := q
  show wp _ _ _ _ 58 [vr 17, vi 7] [vr 34, vi 7, vr 18] (Sx 35 131, Ix lI1, Rx lR16)
  refine z_aast k55_58 (by decide +kernel) (by decide +kernel) (by decide) (by decide +kernel) ?_
  show wp _ _ _ _ 59 [vr 17, vi 7] [] (Sx 35 131, Ix lI1, Rx lR17)
  refine s_iinc1 k55_59 rfl ?_
  show wp _ _ _ _ 62 [vr 17, vi 8] [] (Sx 35 131, Ix lI1, Rx lR17)
  refine z_goto k55_62 ?_
  refine s_ild k55_40 rfl ?_
  refine z_push k55_41 ?_
  refine s_icge k55_43 ⟨by decide, by decide⟩ ⟨by decide, by decide⟩ (fun _ => ?_) (fun q => absurd q (by decide))
  refine s_ald k55_65 rfl ?_
  refine s_inv0 (lm := (35, 131)) k55_66 (by decide +kernel) (by decide) ⟨by decide, by decide, by decide, by decide⟩ ct_10 (fun o h1 q => ?_)
  obtain ⟨rfl, rfl⟩ := q
  show wp _ _ _ _ 69 [vr 17, vi 8] [] (Sx 35 131, Ix lI26, Rx lR17)
  exact s_vret k55_69 rfl rfl ⟨rfl, rfl⟩
set_option maxRecDepth 20000 in
theorem ct_13 {d : Nat} : mcall MT CD (d + 1) 72 [vr 39] (Sx 40 317, Ix lI26, Rx lR20) (40, 317) (fun o h => o = none ∧ h = (Sx 40 317, Ix lI26, Rx lR20)) := by
  refine ⟨by decide, ?_⟩
  show wp (mcall MT CD (d + 0)) (CD 72) (40, 317) (fun o h => o = none ∧ h = (Sx 40 317, Ix lI26, Rx lR20)) 0 [vr 39] [] (Sx 40 317, Ix lI26, Rx lR20)
  refine s_ald k72_0 rfl ?_
  refine z_objinit k72_1 (by decide) (by decide) ?_
  exact s_vret k72_4 rfl rfl ⟨rfl, rfl⟩
set_option maxRecDepth 20000 in
theorem ct_14 {d : Nat} : mcall MT CD (d + 1) 72 [vr 40] (Sx 41 323, Ix lI26, Rx lR21) (41, 323) (fun o h => o = none ∧ h = (Sx 41 323, Ix lI26, Rx lR21)) := by
  refine ⟨by decide, ?_⟩
  show wp (mcall MT CD (d + 0)) (CD 72) (41, 323) (fun o h => o = none ∧ h = (Sx 41 323, Ix lI26, Rx lR21)) 0 [vr 40] [] (Sx 41 323, Ix lI26, Rx lR21)
  refine s_ald k72_0 rfl ?_
  refine z_objinit k72_1 (by decide) (by decide) ?_
  exact s_vret k72_4 rfl rfl ⟨rfl, rfl⟩
set_option maxRecDepth 20000 in
theorem ct_15 {d : Nat} : mcall MT CD (d + 1) 72 [vr 41] (Sx 42 329, Ix lI26, Rx lR22) (42, 329) (fun o h => o = none ∧ h = (Sx 42 329, Ix lI26, Rx lR22)) := by
  refine ⟨by decide, ?_⟩
  show wp (mcall MT CD (d + 0)) (CD 72) (42, 329) (fun o h => o = none ∧ h = (Sx 42 329, Ix lI26, Rx lR22)) 0 [vr 41] [] (Sx 42 329, Ix lI26, Rx lR22)
  refine s_ald k72_0 rfl ?_
  refine z_objinit k72_1 (by decide) (by decide) ?_
  exact s_vret k72_4 rfl rfl ⟨rfl, rfl⟩
set_option maxRecDepth 20000 in
theorem ct_12 {d : Nat} : mcall MT CD (d + 2) 69 [vr 37] (Sx 38 308, Ix lI26, Rx lR19) (42, 329) (fun o h => o = none ∧ h = (Sx 42 329, Ix lI26, Rx lR23)) := by
  refine ⟨by decide, ?_⟩
  show wp (mcall MT CD (d + 1)) (CD 69) (42, 329) (fun o h => o = none ∧ h = (Sx 42 329, Ix lI26, Rx lR23)) 0 [vr 37, vj] [] (Sx 38 308, Ix lI26, Rx lR19)
  refine s_ald k69_0 rfl ?_
  refine z_objinit k69_1 (by decide) (by decide) ?_
  refine s_ald k69_4 rfl ?_
  refine z_push k69_5 ?_
  refine x_anew k69_6 (by decide) (by decide) (by decide +kernel) (by decide +kernel) (by decide +kernel) (by decide) (by decide) rfl rfl ?_
  show wp _ _ _ _ 9 [vr 37, vj] [vr 38, vr 37] (Sx 39 311, Ix lI26, Rx lR19)
  refine z_putR k69_9 (by decide +kernel) ?_
  show wp _ _ _ _ 12 [vr 37, vj] [] (Sx 39 311, Ix lI26, Rx lR20)
  refine z_push k69_12 ?_
  refine s_ist1 k69_13 rfl ?_
  refine s_ild k69_14 rfl ?_
  refine z_push k69_15 ?_
  refine s_icge k69_16 ⟨by decide, by decide⟩ ⟨by decide, by decide⟩ (fun q => absurd q (by decide)) (fun _ => ?_)
  refine s_ald k69_19 rfl ?_
  refine z_getRe (b := 38) k69_20 (by decide +kernel) (by decide +kernel) ?_
  refine s_ild k69_23 rfl ?_
  refine x_new k69_24 (by decide +kernel) (by decide +kernel) (by decide +kernel) (by decide) (by decide) rfl rfl ?_
  show wp _ _ _ _ 27 [vr 37, vi 0] [vr 39, vi 0, vr 38] (Sx 40 317, Ix lI26, Rx lR20)
  refine z_dupr k69_27 ?_
  refine s_inv0 (lm := (40, 317)) k69_28 (by decide +kernel) (by decide) ⟨by decide, by decide, by decide, by decide⟩ ct_13 (fun o h1 q => ?_)
  obtain ⟨rfl, rfl⟩ := q
  show wp _ _ _ _ 31 [vr 37, vi 0] [vr 39, vi 0, vr 38] (Sx 40 317, Ix lI26, Rx lR20)
  refine z_aast k69_31 (by decide +kernel) (by decide +kernel) (by decide) (by decide +kernel) ?_
  show wp _ _ _ _ 32 [vr 37, vi 0] [] (Sx 40 317, Ix lI26, Rx lR21)
  refine s_iinc1 k69_32 rfl ?_
  show wp _ _ _ _ 35 [vr 37, vi 1] [] (Sx 40 317, Ix lI26, Rx lR21)
  refine z_goto k69_35 ?_
  refine s_ild k69_14 rfl ?_
  refine z_push k69_15 ?_
  refine s_icge k69_16 ⟨by decide, by decide⟩ ⟨by decide, by decide⟩ (fun q => absurd q (by decide)) (fun _ => ?_)
  refine s_ald k69_19 rfl ?_
  refine z_getRe (b := 38) k69_20 (by decide +kernel) (by decide +kernel) ?_
  refine s_ild k69_23 rfl ?_
  refine x_new k69_24 (by decide +kernel) (by decide +kernel) (by decide +kernel) (by decide) (by decide) rfl rfl ?_
  show wp _ _ _ _ 27 [vr 37, vi 1] [vr 40, vi 1, vr 38] (Sx 41 323, Ix lI26, Rx lR21)
  refine z_dupr k69_27 ?_
  refine s_inv0 (lm := (41, 323)) k69_28 (by decide +kernel) (by decide) ⟨by decide, by decide, by decide, by decide⟩ ct_14 (fun o h1 q => ?_)
  obtain ⟨rfl, rfl⟩ := q
  show wp _ _ _ _ 31 [vr 37, vi 1] [vr 40, vi 1, vr 38] (Sx 41 323, Ix lI26, Rx lR21)
  refine z_aast k69_31 (by decide +kernel) (by decide +kernel) (by decide) (by decide +kernel) ?_
  show wp _ _ _ _ 32 [vr 37, vi 1] [] (Sx 41 323, Ix lI26, Rx lR22)
  refine s_iinc1 k69_32 rfl ?_
  show wp _ _ _ _ 35 [vr 37, vi 2] [] (Sx 41 323, Ix lI26, Rx lR22)
  refine z_goto k69_35 ?_
  refine s_ild k69_14 rfl ?_
  refine z_push k69_15 ?_
  refine s_icge k69_16 ⟨by decide, by decide⟩ ⟨by decide, by decide⟩ (fun q => absurd q (by decide)) (fun _ => ?_)
  refine s_ald k69_19 rfl ?_
  refine z_getRe (b := 38) k69_20 (by decide +kernel) (by decide +kernel) ?_
  refine s_ild k69_23 rfl ?_
  refine x_new k69_24 (by decide +kernel) (by decide +kernel) (by decide +kernel) (by decide) (by decide) rfl rfl ?_
  show wp _ _ _ _ 27 [vr 37, vi 2] [vr 41, vi 2, vr 38] (Sx 42 329, Ix lI26, Rx lR22)
  refine z_dupr k69_27 ?_
  refine s_inv0 (lm := (42, 329)) k69_28 (by decide +kernel) (by decide) ⟨by decide, by decide, by decide, by decide⟩ ct_15 (fun o h1 q => ?_)
  obtain ⟨rfl, rfl⟩ := q
  show wp _ _ _ _ 31 [vr 37, vi 2] [vr 41, vi 2, vr 38] (Sx 42 329, Ix lI26, Rx lR22)
  refine z_aast k69_31 (by decide +kernel) (by decide +kernel) (by decide) (by decide +kernel) ?_
  show wp _ _ _ _ 32 [vr 37, vi 2] [] (Sx 42 329, Ix lI26, Rx lR23)
  refine s_iinc1 k69_32 rfl ?_
  show wp _ _ _ _ 35 [vr 37, vi 3] [] (Sx 42 329, Ix lI26, Rx lR23)
  refine z_goto k69_35 ?_
  refine s_ild k69_14 rfl ?_
  refine z_push k69_15 ?_
  refine s_icge k69_16 ⟨by decide, by decide⟩ ⟨by decide, by decide⟩ (fun _ => ?_) (fun q => absurd q (by decide))
  exact s_vret k69_38 rfl rfl ⟨rfl, rfl⟩
set_option maxRecDepth 20000 in
theorem ct_11 {d : Nat} : mcall MT CD (d + 3) 32 [vr 35] (Sx 36 142, Ix lI26, Rx lR18) (42, 329) (fun o h => o = none ∧ h = (Sx 42 329, Ix lI26, Rx lR24)) := by
  refine ⟨by decide, ?_⟩
  show wp (mcall MT CD (d + 2)) (CD 32) (42, 329) (fun o h => o = none ∧ h = (Sx 42 329, Ix lI26, Rx lR24)) 0 [vr 35] [] (Sx 36 142, Ix lI26, Rx lR18)
  refine s_ald k32_0 rfl ?_
  refine z_objinit k32_1 (by decide) (by decide) ?_
  refine s_ald k32_4 rfl ?_
  refine z_push k32_5 ?_
  refine x_newa k32_8 (by decide) (by decide) (by decide +kernel) (by decide +kernel) (by decide +kernel) (by decide) (by decide) rfl rfl ?_
  show wp _ _ _ _ 10 [vr 35] [vr 36, vr 35] (Sx 37 302, Ix lI26, Rx lR18)
  refine z_putR k32_10 (by decide +kernel) ?_
  show wp _ _ _ _ 13 [vr 35] [] (Sx 37 302, Ix lI26, Rx lR19)
  refine s_ald k32_13 rfl ?_
  refine x_new k32_14 (by decide +kernel) (by decide +kernel) (by decide +kernel) (by decide) (by decide) rfl rfl ?_
  show wp _ _ _ _ 17 [vr 35] [vr 37, vr 35] (Sx 38 308, Ix lI26, Rx lR19)
  refine z_dupr k32_17 ?_
  refine s_inv0 (lm := (42, 329)) k32_18 (by decide +kernel) (by decide) ⟨by decide, by decide, by decide, by decide⟩ ct_12 (fun o h1 q => ?_)
  obtain ⟨rfl, rfl⟩ := q
  show wp _ _ _ _ 21 [vr 35] [vr 37, vr 35] (Sx 42 329, Ix lI26, Rx lR23)
  refine z_putR k32_21 (by decide +kernel) ?_
  show wp _ _ _ _ 24 [vr 35] [] (Sx 42 329, Ix lI26, Rx lR24)
  exact s_vret k32_24 rfl rfl ⟨rfl, rfl⟩
set_option maxRecDepth 20000 in
theorem ct_18 {d : Nat} : mcall MT CD (d + 1) 72 [vr 46] (Sx 47 351, Ix lI26, Rx lR27) (47, 351) (fun o h => o = none ∧ h = (Sx 47 351, Ix lI26, Rx lR27)) := by
  refine ⟨by decide, ?_⟩
  show wp (mcall MT CD (d + 0)) (CD 72) (47, 351) (fun o h => o = none ∧ h = (Sx 47 351, Ix lI26, Rx lR27)) 0 [vr 46] [] (Sx 47 351, Ix lI26, Rx lR27)
  refine s_ald k72_0 rfl ?_
  refine z_objinit k72_1 (by decide) (by decide) ?_
  exact s_vret k72_4 rfl rfl ⟨rfl, rfl⟩
set_option maxRecDepth 20000 in
theorem ct_19 {d : Nat} : mcall MT CD (d + 1) 72 [vr 47] (Sx 48 357, Ix lI26, Rx lR28) (48, 357) (fun o h => o = none ∧ h = (Sx 48 357, Ix lI26, Rx lR28)) := by
  refine ⟨by decide, ?_⟩
  show wp (mcall MT CD (d + 0)) (CD 72) (48, 357) (fun o h => o = none ∧ h = (Sx 48 357, Ix lI26, Rx lR28)) 0 [vr 47] [] (Sx 48 357, Ix lI26, Rx lR28)
  refine s_ald k72_0 rfl ?_
  refine z_objinit k72_1 (by decide) (by decide) ?_
  exact s_vret k72_4 rfl rfl ⟨rfl, rfl⟩
set_option maxRecDepth 20000 in
theorem ct_20 {d : Nat} : mcall MT CD (d + 1) 72 [vr 48] (Sx 49 363, Ix lI26, Rx lR29) (49, 363) (fun o h => o = none ∧ h = (Sx 49 363, Ix lI26, Rx lR29)) := by
  refine ⟨by decide, ?_⟩
  show wp (mcall MT CD (d + 0)) (CD 72) (49, 363) (fun o h => o = none ∧ h = (Sx 49 363, Ix lI26, Rx lR29)) 0 [vr 48] [] (Sx 49 363, Ix lI26, Rx lR29)
  refine s_ald k72_0 rfl ?_
  refine z_objinit k72_1 (by decide) (by decide) ?_
  exact s_vret k72_4 rfl rfl ⟨rfl, rfl⟩
set_option maxRecDepth 20000 in
theorem ct_17 {d : Nat} : mcall MT CD (d + 2) 69 [vr 44] (Sx 45 342, Ix lI26, Rx lR26) (49, 363) (fun o h => o = none ∧ h = (Sx 49 363, Ix lI26, Rx lR30)) := by
  refine ⟨by decide, ?_⟩
  show wp (mcall MT CD (d + 1)) (CD 69) (49, 363) (fun o h => o = none ∧ h = (Sx 49 363, Ix lI26, Rx lR30)) 0 [vr 44, vj] [] (Sx 45 342, Ix lI26, Rx lR26)
  refine s_ald k69_0 rfl ?_
  refine z_objinit k69_1 (by decide) (by decide) ?_
  refine s_ald k69_4 rfl ?_
  refine z_push k69_5 ?_
  refine x_anew k69_6 (by decide) (by decide) (by decide +kernel) (by decide +kernel) (by decide +kernel) (by decide) (by decide) rfl rfl ?_
  show wp _ _ _ _ 9 [vr 44, vj] [vr 45, vr 44] (Sx 46 345, Ix lI26, Rx lR26)
  refine z_putR k69_9 (by decide +kernel) ?_
  show wp _ _ _ _ 12 [vr 44, vj] [] (Sx 46 345, Ix lI26, Rx lR27)
  refine z_push k69_12 ?_
  refine s_ist1 k69_13 rfl ?_
  refine s_ild k69_14 rfl ?_
  refine z_push k69_15 ?_
  refine s_icge k69_16 ⟨by decide, by decide⟩ ⟨by decide, by decide⟩ (fun q => absurd q (by decide)) (fun _ => ?_)
  refine s_ald k69_19 rfl ?_
  refine z_getRe (b := 45) k69_20 (by decide +kernel) (by decide +kernel) ?_
  refine s_ild k69_23 rfl ?_
  refine x_new k69_24 (by decide +kernel) (by decide +kernel) (by decide +kernel) (by decide) (by decide) rfl rfl ?_
  show wp _ _ _ _ 27 [vr 44, vi 0] [vr 46, vi 0, vr 45] (Sx 47 351, Ix lI26, Rx lR27)
  refine z_dupr k69_27 ?_
  refine s_inv0 (lm := (47, 351)) k69_28 (by decide +kernel) (by decide) ⟨by decide, by decide, by decide, by decide⟩ ct_18 (fun o h1 q => ?_)
  obtain ⟨rfl, rfl⟩ := q
  show wp _ _ _ _ 31 [vr 44, vi 0] [vr 46, vi 0, vr 45] (Sx 47 351, Ix lI26, Rx lR27)
  refine z_aast k69_31 (by decide +kernel) (by decide +kernel) (by decide) (by decide +kernel) ?_
  show wp _ _ _ _ 32 [vr 44, vi 0] [] (Sx 47 351, Ix lI26, Rx lR28)
  refine s_iinc1 k69_32 rfl ?_
  show wp _ _ _ _ 35 [vr 44, vi 1] [] (Sx 47 351, Ix lI26, Rx lR28)
  refine z_goto k69_35 ?_
  refine s_ild k69_14 rfl ?_
  refine z_push k69_15 ?_
  refine s_icge k69_16 ⟨by decide, by decide⟩ ⟨by decide, by decide⟩ (fun q => absurd q (by decide)) (fun _ => ?_)
  refine s_ald k69_19 rfl ?_
  refine z_getRe (b := 45) k69_20 (by decide +kernel) (by decide +kernel) ?_
  refine s_ild k69_23 rfl ?_
  refine x_new k69_24 (by decide +kernel) (by decide +kernel) (by decide +kernel) (by decide) (by decide) rfl rfl ?_
  show wp _ _ _ _ 27 [vr 44, vi 1] [vr 47, vi 1, vr 45] (Sx 48 357, Ix lI26, Rx lR28)
  refine z_dupr k69_27 ?_
  refine s_inv0 (lm := (48, 357)) k69_28 (by decide +kernel) (by decide) ⟨by decide, by decide, by decide, by decide⟩ ct_19 (fun o h1 q => ?_)
  obtain ⟨rfl, rfl⟩ := q
  show wp _ _ _ _ 31 [vr 44, vi 1] [vr 47, vi 1, vr 45] (Sx 48 357, Ix lI26, Rx lR28)
  refine z_aast k69_31 (by decide +kernel) (by decide +kernel) (by decide) (by decide +kernel) ?_
  show wp _ _ _ _ 32 [vr 44, vi 1] [] (Sx 48 357, Ix lI26, Rx lR29)
  refine s_iinc1 k69_32 rfl ?_
  show wp _ _ _ _ 35 [vr 44, vi 2] [] (Sx 48 357, Ix lI26, Rx lR29)
  refine z_goto k69_35 ?_
  refine s_ild k69_14 rfl ?_
  refine z_push k69_15 ?_
  refine s_icge k69_16 ⟨by decide, by decide⟩ ⟨by decide, by decide⟩ (fun q => absurd q (by decide)) (fun _ => ?_)
  refine s_ald k69_19 rfl ?_
  refine z_getRe (b := 45) k69_20 (by decide +kernel) (by decide +kernel) ?_
  refine s_ild k69_23 rfl ?_
  refine x_new k69_24 (by decide +kernel) (by decide +kernel) (by decide +kernel) (by decide) (by decide) rfl rfl ?_
  show wp _ _ _ _ 27 [vr 44, vi 2] [vr 48, vi 2, vr 45] (Sx 49 363, Ix lI26, Rx lR29)
  refine z_dupr k69_27 ?_
  refine s_inv0 (lm := (49, 363)) k69_28 (by decide +kernel) (by decide) ⟨by decide, by decide, by decide, by decide⟩ ct_20 (fun o h1 q => ?_)
  obtain ⟨rfl, rfl⟩ := q
  show wp _ _ _ _ 31 [vr 44, vi 2] [vr 48, vi 2, vr 45] (Sx 49 363, Ix lI26, Rx lR29)
  refine z_aast k69_31 (by decide +kernel) (by decide +kernel) (by decide) (by decide +kernel) ?_
  show wp _ _ _ _ 32 [vr 44, vi 2] [] (Sx 49 363, Ix lI26, Rx lR30)
  refine s_iinc1 k69_32 rfl ?_
  show wp _ _ _ _ 35 [vr 44, vi 3] [] (Sx 49 363, Ix lI26, Rx lR30)
  refine z_goto k69_35 ?_
  refine s_ild k69_14 rfl ?_
  refine z_push k69_15 ?_
  refine s_icge k69_16 ⟨by decide, by decide⟩ ⟨by decide, by decide⟩ (fun _ => ?_) (fun q => absurd q (by decide))
  exact s_vret k69_38 rfl rfl ⟨rfl, rfl⟩
set_option maxRecDepth 20000 in
theorem ct_22 {d : Nat} : mcall MT CD (d + 1) 72 [vr 51] (Sx 52 378, Ix lI26, Rx lR32) (52, 378) (fun o h => o = none ∧ h = (Sx 52 378, Ix lI26, Rx lR32)) := by
  refine ⟨by decide, ?_⟩
  show wp (mcall MT CD (d + 0)) (CD 72) (52, 378) (fun o h => o = none ∧ h = (Sx 52 378, Ix lI26, Rx lR32)) 0 [vr 51] [] (Sx 52 378, Ix lI26, Rx lR32)
  refine s_ald k72_0 rfl ?_
  refine z_objinit k72_1 (by decide) (by decide) ?_
  exact s_vret k72_4 rfl rfl ⟨rfl, rfl⟩
set_option maxRecDepth 20000 in
theorem ct_23 {d : Nat} : mcall MT CD (d + 1) 72 [vr 52] (Sx 53 384, Ix lI26, Rx lR33) (53, 384) (fun o h => o = none ∧ h = (Sx 53 384, Ix lI26, Rx lR33)) := by
  refine ⟨by decide, ?_⟩
  show wp (mcall MT CD (d + 0)) (CD 72) (53, 384) (fun o h => o = none ∧ h = (Sx 53 384, Ix lI26, Rx lR33)) 0 [vr 52] [] (Sx 53 384, Ix lI26, Rx lR33)
  refine s_ald k72_0 rfl ?_
  refine z_objinit k72_1 (by decide) (by decide) ?_
  exact s_vret k72_4 rfl rfl ⟨rfl, rfl⟩
set_option maxRecDepth 20000 in
theorem ct_24 {d : Nat} : mcall MT CD (d + 1) 72 [vr 53] (Sx 54 390, Ix lI26, Rx lR34) (54, 390) (fun o h => o = none ∧ h = (Sx 54 390, Ix lI26, Rx lR34)) := by
  refine ⟨by decide, ?_⟩
  show wp (mcall MT CD (d + 0)) (CD 72) (54, 390) (fun o h => o = none ∧ h = (Sx 54 390, Ix lI26, Rx lR34)) 0 [vr 53] [] (Sx 54 390, Ix lI26, Rx lR34)
  refine s_ald k72_0 rfl ?_
  refine z_objinit k72_1 (by decide) (by decide) ?_
  exact s_vret k72_4 rfl rfl ⟨rfl, rfl⟩
set_option maxRecDepth 20000 in
theorem ct_21 {d : Nat} : mcall MT CD (d + 2) 69 [vr 49] (Sx 50 369, Ix lI26, Rx lR31) (54, 390) (fun o h => o = none ∧ h = (Sx 54 390, Ix lI26, Rx lR35)) := by
  refine ⟨by decide, ?_⟩
  show wp (mcall MT CD (d + 1)) (CD 69) (54, 390) (fun o h => o = none ∧ h = (Sx 54 390, Ix lI26, Rx lR35)) 0 [vr 49, vj] [] (Sx 50 369, Ix lI26, Rx lR31)
  refine s_ald k69_0 rfl ?_
  refine z_objinit k69_1 (by decide) (by decide) ?_
  refine s_ald k69_4 rfl ?_
  refine z_push k69_5 ?_
  refine x_anew k69_6 (by decide) (by decide) (by decide +kernel) (by decide +kernel) (by decide +kernel) (by decide) (by decide) rfl rfl ?_
  show wp _ _ _ _ 9 [vr 49, vj] [vr 50, vr 49] (Sx 51 372, Ix lI26, Rx lR31)
  refine z_putR k69_9 (by decide +kernel) ?_
  show wp _ _ _ _ 12 [vr 49, vj] [] (Sx 51 372, Ix lI26, Rx lR32)
  refine z_push k69_12 ?_
  refine s_ist1 k69_13 rfl ?_
  refine s_ild k69_14 rfl ?_
  refine z_push k69_15 ?_
  refine s_icge k69_16 ⟨by decide, by decide⟩ ⟨by decide, by decide⟩ (fun q => absurd q (by decide)) (fun _ => ?_)
  refine s_ald k69_19 rfl ?_
  refine z_getRe (b := 50) k69_20 (by decide +kernel) (by decide +kernel) ?_
  refine s_ild k69_23 rfl ?_
  refine x_new k69_24 (by decide +kernel) (by decide +kernel) (by decide +kernel) (by decide) (by decide) rfl rfl ?_
  show wp _ _ _ _ 27 [vr 49, vi 0] [vr 51, vi 0, vr 50] (Sx 52 378, Ix lI26, Rx lR32)
  refine z_dupr k69_27 ?_
  refine s_inv0 (lm := (52, 378)) k69_28 (by decide +kernel) (by decide) ⟨by decide, by decide, by decide, by decide⟩ ct_22 (fun o h1 q => ?_)
  obtain ⟨rfl, rfl⟩ := q
  show wp _ _ _ _ 31 [vr 49, vi 0] [vr 51, vi 0, vr 50] (Sx 52 378, Ix lI26, Rx lR32)
  refine z_aast k69_31 (by decide +kernel) (by decide +kernel) (by decide) (by decide +kernel) ?_
  show wp _ _ _ _ 32 [vr 49, vi 0] [] (Sx 52 378, Ix lI26, Rx lR33)
  refine s_iinc1 k69_32 rfl ?_
  show wp _ _ _ _ 35 [vr 49, vi 1] [] (Sx 52 378, Ix lI26, Rx lR33)
  refine z_goto k69_35 ?_
  refine s_ild k69_14 rfl ?_
  refine z_push k69_15 ?_
  refine s_icge k69_16 ⟨by decide, by decide⟩ ⟨by decide, by decide⟩ (fun q => absurd q (by decide)) (fun _ => ?_)
  refine s_ald k69_19 rfl ?_
  refine z_getRe (b := 50) k69_20 (by decide +kernel) (by decide +kernel) ?_
  refine s_ild k69_23 rfl ?_
  refine x_new k69_24 (by decide +kernel) (by decide +kernel) (by decide +kernel) (by decide) (by decide) rfl rfl ?_
  show wp _ _ _ _ 27 [vr 49, vi 1] [vr 52, vi 1, vr 50] (Sx 53 384, Ix lI26, Rx lR33)
  refine z_dupr k69_27 ?_
  refine s_inv0 (lm := (53, 384)) k69_28 (by decide +kernel) (by decide) ⟨by decide, by decide, by decide, by decide⟩ ct_23 (fun o h1 q => ?_)
  obtain ⟨rfl, rfl⟩ := q
  show wp _ _ _ _ 31 [vr 49, vi 1] [vr 52, vi 1, vr 50] (Sx 53 384, Ix lI26, Rx lR33)
  refine z_aast k69_31 (by decide +kernel) (by decide +kernel) (by decide) (by decide +kernel) ?_
  show wp _ _ _ _ 32 [vr 49, vi 1] [] (Sx 53 384, Ix lI26, Rx lR34)
  refine s_iinc1 k69_32 rfl ?_
  show wp _ _ _ _ 35 [vr 49, vi 2] [] (Sx 53 384, Ix lI26, Rx lR34)
  refine z_goto k69_35 ?_
  refine s_ild k69_14 rfl ?_
  refine z_push k69_15 ?_
  refine s_icge k69_16 ⟨by decide, by decide⟩ ⟨by decide, by decide⟩ (fun q => absurd q (by decide)) (fun _ => ?_)
  refine s_ald k69_19 rfl ?_
  refine z_getRe (b := 50) k69_20 (by decide +kernel) (by decide +kernel) ?_
  refine s_ild k69_23 rfl ?_
  refine x_new k69_24 (by decide +kernel) (by decide +kernel) (by decide +kernel) (by decide) (by decide) rfl rfl ?_
  show wp _ _ _ _ 27 [vr 49, vi 2] [vr 53, vi 2, vr 50] (Sx 54 390, Ix lI26, Rx lR34)
  refine z_dupr k69_27 ?_
  refine s_inv0 (lm := (54, 390)) k69_28 (by decide +kernel) (by decide) ⟨by decide, by decide, by decide, by decide⟩ ct_24 (fun o h1 q => ?_)
  obtain ⟨rfl, rfl⟩ := q
  show wp _ _ _ _ 31 [vr 49, vi 2] [vr 53, vi 2, vr 50] (Sx 54 390, Ix lI26, Rx lR34)
  refine z_aast k69_31 (by decide +kernel) (by decide +kernel) (by decide) (by decide +kernel) ?_
  show wp _ _ _ _ 32 [vr 49, vi 2] [] (Sx 54 390, Ix lI26, Rx lR35)
  refine s_iinc1 k69_32 rfl ?_
  show wp _ _ _ _ 35 [vr 49, vi 3] [] (Sx 54 390, Ix lI26, Rx lR35)
  refine z_goto k69_35 ?_
  refine s_ild k69_14 rfl ?_
  refine z_push k69_15 ?_
  refine s_icge k69_16 ⟨by decide, by decide⟩ ⟨by decide, by decide⟩ (fun _ => ?_) (fun q => absurd q (by decide))
  exact s_vret k69_38 rfl rfl ⟨rfl, rfl⟩
set_option maxRecDepth 20000 in
theorem ct_26 {d : Nat} : mcall MT CD (d + 1) 72 [vr 56] (Sx 57 405, Ix lI26, Rx lR37) (57, 405) (fun o h => o = none ∧ h = (Sx 57 405, Ix lI26, Rx lR37)) := by
  refine ⟨by decide, ?_⟩
  show wp (mcall MT CD (d + 0)) (CD 72) (57, 405) (fun o h => o = none ∧ h = (Sx 57 405, Ix lI26, Rx lR37)) 0 [vr 56] [] (Sx 57 405, Ix lI26, Rx lR37)
  refine s_ald k72_0 rfl ?_
  refine z_objinit k72_1 (by decide) (by decide) ?_
  exact s_vret k72_4 rfl rfl ⟨rfl, rfl⟩
set_option maxRecDepth 20000 in
theorem ct_27 {d : Nat} : mcall MT CD (d + 1) 72 [vr 57] (Sx 58 411, Ix lI26, Rx lR38) (58, 411) (fun o h => o = none ∧ h = (Sx 58 411, Ix lI26, Rx lR38)) := by
  refine ⟨by decide, ?_⟩
  show wp (mcall MT CD (d + 0)) (CD 72) (58, 411) (fun o h => o = none ∧ h = (Sx 58 411, Ix lI26, Rx lR38)) 0 [vr 57] [] (Sx 58 411, Ix lI26, Rx lR38)
  refine s_ald k72_0 rfl ?_
  refine z_objinit k72_1 (by decide) (by decide) ?_
  exact s_vret k72_4 rfl rfl ⟨rfl, rfl⟩
set_option maxRecDepth 20000 in
theorem ct_28 {d : Nat} : mcall MT CD (d + 1) 72 [vr 58] (Sx 59 417, Ix lI26, Rx lR39) (59, 417) (fun o h => o = none ∧ h = (Sx 59 417, Ix lI26, Rx lR39)) := by
  refine ⟨by decide, ?_⟩
  show wp (mcall MT CD (d + 0)) (CD 72) (59, 417) (fun o h => o = none ∧ h = (Sx 59 417, Ix lI26, Rx lR39)) 0 [vr 58] [] (Sx 59 417, Ix lI26, Rx lR39)
  refine s_ald k72_0 rfl ?_
  refine z_objinit k72_1 (by decide) (by decide) ?_
  exact s_vret k72_4 rfl rfl ⟨rfl, rfl⟩
set_option maxRecDepth 20000 in
theorem ct_25 {d : Nat} : mcall MT CD (d + 2) 69 [vr 54] (Sx 55 396, Ix lI26, Rx lR36) (59, 417) (fun o h => o = none ∧ h = (Sx 59 417, Ix lI26, Rx lR40)) := by
  refine ⟨by decide, ?_⟩
  show wp (mcall MT CD (d + 1)) (CD 69) (59, 417) (fun o h => o = none ∧ h = (Sx 59 417, Ix lI26, Rx lR40)) 0 [vr 54, vj] [] (Sx 55 396, Ix lI26, Rx lR36)
  refine s_ald k69_0 rfl ?_
  refine z_objinit k69_1 (by decide) (by decide) ?_
  refine s_ald k69_4 rfl ?_
  refine z_push k69_5 ?_
  refine x_anew k69_6 (by decide) (by decide) (by decide +kernel) (by decide +kernel) (by decide +kernel) (by decide) (by decide) rfl rfl ?_
  show wp _ _ _ _ 9 [vr 54, vj] [vr 55, vr 54] (Sx 56 399, Ix lI26, Rx lR36)
  refine z_putR k69_9 (by decide +kernel) ?_
  show wp _ _ _ _ 12 [vr 54, vj] [] (Sx 56 399, Ix lI26, Rx lR37)
  refine z_push k69_12 ?_
  refine s_ist1 k69_13 rfl ?_
  refine s_ild k69_14 rfl ?_
  refine z_push k69_15 ?_
  refine s_icge k69_16 ⟨by decide, by decide⟩ ⟨by decide, by decide⟩ (fun q => absurd q (by decide)) (fun _ => ?_)
  refine s_ald k69_19 rfl ?_
  refine z_getRe (b := 55) k69_20 (by decide +kernel) (by decide +kernel) ?_
  refine s_ild k69_23 rfl ?_
  refine x_new k69_24 (by decide +kernel) (by decide +kernel) (by decide +kernel) (by decide) (by decide) rfl rfl ?_
  show wp _ _ _ _ 27 [vr 54, vi 0] [vr 56, vi 0, vr 55] (Sx 57 405, Ix lI26, Rx lR37)
  refine z_dupr k69_27 ?_
  refine s_inv0 (lm := (57, 405)) k69_28 (by decide +kernel) (by decide) ⟨by decide, by decide, by decide, by decide⟩ ct_26 (fun o h1 q => ?_)
  obtain ⟨rfl, rfl⟩ := q
  show wp _ _ _ _ 31 [vr 54, vi 0] [vr 56, vi 0, vr 55] (Sx 57 405, Ix lI26, Rx lR37)
  refine z_aast k69_31 (by decide +kernel) (by decide +kernel) (by decide) (by decide +kernel) ?_
  show wp _ _ _ _ 32 [vr 54, vi 0] [] (Sx 57 405, Ix lI26, Rx lR38)
  refine s_iinc1 k69_32 rfl ?_
  show wp _ _ _ _ 35 [vr 54, vi 1] [] (Sx 57 405, Ix lI26, Rx lR38)
  refine z_goto k69_35 ?_
  refine s_ild k69_14 rfl ?_
  refine z_push k69_15 ?_
  refine s_icge k69_16 ⟨by decide, by decide⟩ ⟨by decide, by decide⟩ (fun q => absurd q (by decide)) (fun _ => ?_)
  refine s_ald k69_19 rfl ?_
  refine z_getRe (b := 55) k69_20 (by decide +kernel) (by decide +kernel) ?_
  refine s_ild k69_23 rfl ?_
  refine x_new k69_24 (by decide +kernel) (by decide +kernel) (by decide +kernel) (by decide) (by decide) rfl rfl ?_
  show wp _ _ _ _ 27 [vr 54, vi 1] [vr 57, vi 1, vr 55] (Sx 58 411, Ix lI26, Rx lR38)
  refine z_dupr k69_27 ?_
  refine s_inv0 (lm := (58, 411)) k69_28 (by decide +kernel) (by decide) ⟨by decide, by decide, by decide, by decide⟩ ct_27 (fun o h1 q => ?_)
  obtain ⟨rfl, rfl⟩ := q
  show wp _ _ _ _ 31 [vr 54, vi 1] [vr 57, vi 1, vr 55] (Sx 58 411, Ix lI26, Rx lR38)
  refine z_aast k69_31 (by decide +kernel) (by decide +kernel) (by decide) (by decide +kernel) ?_
  show wp _ _ _ _ 32 [vr 54, vi 1] [] (Sx 58 411, Ix lI26, Rx lR39)
  refine s_iinc1 k69_32 rfl ?_
  show wp _ _ _ _ 35 [vr 54, vi 2] [] (Sx 58 411, Ix lI26, Rx lR39)
  refine z_goto k69_35 ?_
  refine s_ild k69_14 rfl ?_
  refine z_push k69_15 ?_
  refine s_icge k69_16 ⟨by decide, by decide⟩ ⟨by decide, by decide⟩ (fun q => absurd q (by decide)) (fun _ => ?_)
  refine s_ald k69_19 rfl ?_
  refine z_getRe (b := 55) k69_20 (by decide +kernel) (by decide +kernel) ?_
  refine s_ild k69_23 rfl ?_
  refine x_new k69_24 (by decide +kernel) (by decide +kernel) (by decide +kernel) (by decide) (by decide) rfl rfl ?_
  show wp _ _ _ _ 27 [vr 54, vi 2] [vr 58, vi 2, vr 55] (Sx 59 417, Ix lI26, Rx lR39)
  refine z_dupr k69_27 ?_
  refine s_inv0 (lm := (59, 417)) k69_28 (by decide +kernel) (by decide) ⟨by decide, by decide, by decide, by decide⟩ ct_28 (fun o h1 q => ?_)
  obtain ⟨rfl, rfl⟩ := q
  show wp _ _ _ _ 31 [vr 54, vi 2] [vr 58, vi 2, vr 55] (Sx 59 417, Ix lI26, Rx lR39)
  refine z_aast k69_31 (by decide +kernel) (by decide +kernel) (by decide) (by decide +kernel) ?_
  show wp _ _ _ _ 32 [vr 54, vi 2] [] (Sx 59 417, Ix lI26, Rx lR40)
  refine s_iinc1 k69_32 rfl ?_
  show wp _ _ _ _ 35 [vr 54, vi 3] [] (Sx 59 417, Ix lI26, Rx lR40)
  refine z_goto k69_35 ?_
  refine s_ild k69_14 rfl ?_
  refine z_push k69_15 ?_
  refine s_icge k69_16 ⟨by decide, by decide⟩ ⟨by decide, by decide⟩ (fun _ => ?_) (fun q => absurd q (by decide))
  exact s_vret k69_38 rfl rfl ⟨rfl, rfl⟩
set_option maxRecDepth 20000 in
theorem ct_30 {d : Nat} : mcall MT CD (d + 1) 72 [vr 61] (Sx 62 432, Ix lI26, Rx lR42) (62, 432) (fun o h => o = none ∧ h = (Sx 62 432, Ix lI26, Rx lR42)) := by
  refine ⟨by decide, ?_⟩
  show wp (mcall MT CD (d + 0)) (CD 72) (62, 432) (fun o h => o = none ∧ h = (Sx 62 432, Ix lI26, Rx lR42)) 0 [vr 61] [] (Sx 62 432, Ix lI26, Rx lR42)
  refine s_ald k72_0 rfl ?_
  refine z_objinit k72_1 (by decide) (by decide) ?_
  exact s_vret k72_4 rfl rfl ⟨rfl, rfl⟩
set_option maxRecDepth 20000 in
theorem ct_31 {d : Nat} : mcall MT CD (d + 1) 72 [vr 62] (Sx 63 438, Ix lI26, Rx lR43) (63, 438) (fun o h => o = none ∧ h = (Sx 63 438, Ix lI26, Rx lR43)) := by
  refine ⟨by decide, ?_⟩
  show wp (mcall MT CD (d + 0)) (CD 72) (63, 438) (fun o h => o = none ∧ h = (Sx 63 438, Ix lI26, Rx lR43)) 0 [vr 62] [] (Sx 63 438, Ix lI26, Rx lR43)
  refine s_ald k72_0 rfl ?_
  refine z_objinit k72_1 (by decide) (by decide) ?_
  exact s_vret k72_4 rfl rfl ⟨rfl, rfl⟩
set_option maxRecDepth 20000 in
theorem ct_32 {d : Nat} : mcall MT CD (d + 1) 72 [vr 63] (Sx 64 444, Ix lI26, Rx lR44) (64, 444) (fun o h => o = none ∧ h = (Sx 64 444, Ix lI26, Rx lR44)) := by
  refine ⟨by decide, ?_⟩
  show wp (mcall MT CD (d + 0)) (CD 72) (64, 444) (fun o h => o = none ∧ h = (Sx 64 444, Ix lI26, Rx lR44)) 0 [vr 63] [] (Sx 64 444, Ix lI26, Rx lR44)
  refine s_ald k72_0 rfl ?_
  refine z_objinit k72_1 (by decide) (by decide) ?_
  exact s_vret k72_4 rfl rfl ⟨rfl, rfl⟩
set_option maxRecDepth 20000 in
theorem ct_29 {d : Nat} : mcall MT CD (d + 2) 69 [vr 59] (Sx 60 423, Ix lI26, Rx lR41) (64, 444) (fun o h => o = none ∧ h = (Sx 64 444, Ix lI26, Rx lR45)) := by
  refine ⟨by decide, ?_⟩
  show wp (mcall MT CD (d + 1)) (CD 69) (64, 444) (fun o h => o = none ∧ h = (Sx 64 444, Ix lI26, Rx lR45)) 0 [vr 59, vj] [] (Sx 60 423, Ix lI26, Rx lR41)
  refine s_ald k69_0 rfl ?_
  refine z_objinit k69_1 (by decide) (by decide) ?_
  refine s_ald k69_4 rfl ?_
  refine z_push k69_5 ?_
  refine x_anew k69_6 (by decide) (by decide) (by decide +kernel) (by decide +kernel) (by decide +kernel) (by decide) (by decide) rfl rfl ?_
  show wp _ _ _ _ 9 [vr 59, vj] [vr 60, vr 59] (Sx 61 426, Ix lI26, Rx lR41)
  refine z_putR k69_9 (by decide +kernel) ?_
  show wp _ _ _ _ 12 [vr 59, vj] [] (Sx 61 426, Ix lI26, Rx lR42)
  refine z_push k69_12 ?_
  refine s_ist1 k69_13 rfl ?_
  refine s_ild k69_14 rfl ?_
  refine z_push k69_15 ?_
  refine s_icge k69_16 ⟨by decide, by decide⟩ ⟨by decide, by decide⟩ (fun q => absurd q (by decide)) (fun _ => ?_)
  refine s_ald k69_19 rfl ?_
  refine z_getRe (b := 60) k69_20 (by decide +kernel) (by decide +kernel) ?_
  refine s_ild k69_23 rfl ?_
  refine x_new k69_24 (by decide +kernel) (by decide +kernel) (by decide +kernel) (by decide) (by decide) rfl rfl ?_
  show wp _ _ _ _ 27 [vr 59, vi 0] [vr 61, vi 0, vr 60] (Sx 62 432, Ix lI26, Rx lR42)
  refine z_dupr k69_27 ?_
  refine s_inv0 (lm := (62, 432)) k69_28 (by decide +kernel) (by decide) ⟨by decide, by decide, by decide, by decide⟩ ct_30 (fun o h1 q => ?_)
  obtain ⟨rfl, rfl⟩ := q
  show wp _ _ _ _ 31 [vr 59, vi 0] [vr 61, vi 0, vr 60] (Sx 62 432, Ix lI26, Rx lR42)
  refine z_aast k69_31 (by decide +kernel) (by decide +kernel) (by decide) (by decide +kernel) ?_
  show wp _ _ _ _ 32 [vr 59, vi 0] [] (Sx 62 432, Ix lI26, Rx lR43)
  refine s_iinc1 k69_32 rfl ?_
  show wp _ _ _ _ 35 [vr 59, vi 1] [] (Sx 62 432, Ix lI26, Rx lR43)
  refine z_goto k69_35 ?_
  refine s_ild k69_14 rfl ?_
  refine z_push k69_15 ?_
  refine s_icge k69_16 ⟨by decide, by decide⟩ ⟨by decide, by decide⟩ (fun q => absurd q (by decide)) (fun _ => ?_)
  refine s_ald k69_19 rfl ?_
  refine z_getRe (b := 60) k69_20 (by decide +kernel) (by decide +kernel) ?_
  refine s_ild k69_23 rfl ?_
  refine x_new k69_24 (by decide +kernel) (by decide +kernel) (by decide +kernel) (by decide) (by decide) rfl rfl ?_
  show wp _ _ _ _ 27 [vr 59, vi 1] [vr 62, vi 1, vr 60] (Sx 63 438, Ix lI26, Rx lR43)
  refine z_dupr k69_27 ?_
  refine s_inv0 (lm := (63, 438)) k69_28 (by decide +kernel) (by decide) ⟨by decide, by decide, by decide, by decide⟩ ct_31 (fun o h1 q => ?_)
  obtain ⟨rfl, rfl⟩ := q
  show wp _ _ _ _ 31 [vr 59, vi 1] [vr 62, vi 1, vr 60] (Sx 63 438, Ix lI26, Rx lR43)
  refine z_aast k69_31 (by decide +kernel) (by decide +kernel) (by decide) (by decide +kernel) ?_
  show wp _ _ _ _ 32 [vr 59, vi 1] [] (Sx 63 438, Ix lI26, Rx lR44)
  refine s_iinc1 k69_32 rfl ?_
  show wp _ _ _ _ 35 [vr 59, vi 2] [] (Sx 63 438, Ix lI26, Rx lR44)
  refine z_goto k69_35 ?_
  refine s_ild k69_14 rfl ?_
  refine z_push k69_15 ?_
  refine s_icge k69_16 ⟨by decide, by decide⟩ ⟨by decide, by decide⟩ (fun q => absurd q (by decide)) (fun _ => ?_)
  refine s_ald k69_19 rfl ?_
  refine z_getRe (b := 60) k69_20 (by decide +kernel) (by decide +kernel) ?_
  refine s_ild k69_23 rfl ?_
  refine x_new k69_24 (by decide +kernel) (by decide +kernel) (by decide +kernel) (by decide) (by decide) rfl rfl ?_
  show wp _ _ _ _ 27 [vr 59, vi 2] [vr 63, vi 2, vr 60] (Sx 64 444, Ix lI26, Rx lR44)
  refine z_dupr k69_27 ?_
  refine s_inv0 (lm := (64, 444)) k69_28 (by decide +kernel) (by decide) ⟨by decide, by decide, by decide, by decide⟩ ct_32 (fun o h1 q => ?_)
  obtain ⟨rfl, rfl⟩ := q
  show wp _ _ _ _ 31 [vr 59, vi 2] [vr 63, vi 2, vr 60] (Sx 64 444, Ix lI26, Rx lR44)
  refine z_aast k69_31 (by decide +kernel) (by decide +kernel) (by decide) (by decide +kernel) ?_
  show wp _ _ _ _ 32 [vr 59, vi 2] [] (Sx 64 444, Ix lI26, Rx lR45)
  refine s_iinc1 k69_32 rfl ?_
  show wp _ _ _ _ 35 [vr 59, vi 3] [] (Sx 64 444, Ix lI26, Rx lR45)
  refine z_goto k69_35 ?_
  refine s_ild k69_14 rfl ?_
  refine z_push k69_15 ?_
  refine s_icge k69_16 ⟨by decide, by decide⟩ ⟨by decide, by decide⟩ (fun _ => ?_) (fun q => absurd q (by decide))
  exact s_vret k69_38 rfl rfl ⟨rfl, rfl⟩
set_option maxRecDepth 20000 in
theorem ct_34 {d : Nat} : mcall MT CD (d + 1) 72 [vr 66] (Sx 67 459, Ix lI26, Rx lR47) (67, 459) (fun o h => o = none ∧ h = (Sx 67 459, Ix lI26, Rx lR47)) := by
  refine ⟨by decide, ?_⟩
  show wp (mcall MT CD (d + 0)) (CD 72) (67, 459) (fun o h => o = none ∧ h = (Sx 67 459, Ix lI26, Rx lR47)) 0 [vr 66] [] (Sx 67 459, Ix lI26, Rx lR47)
  refine s_ald k72_0 rfl ?_
  refine z_objinit k72_1 (by decide) (by decide) ?_
  exact s_vret k72_4 rfl rfl ⟨rfl, rfl⟩
set_option maxRecDepth 20000 in
theorem ct_35 {d : Nat} : mcall MT CD (d + 1) 72 [vr 67] (Sx 68 465, Ix lI26, Rx lR48) (68, 465) (fun o h => o = none ∧ h = (Sx 68 465, Ix lI26, Rx lR48)) := by
  refine ⟨by decide, ?_⟩
  show wp (mcall MT CD (d + 0)) (CD 72) (68, 465) (fun o h => o = none ∧ h = (Sx 68 465, Ix lI26, Rx lR48)) 0 [vr 67] [] (Sx 68 465, Ix lI26, Rx lR48)
  refine s_ald k72_0 rfl ?_
  refine z_objinit k72_1 (by decide) (by decide) ?_
  exact s_vret k72_4 rfl rfl ⟨rfl, rfl⟩
set_option maxRecDepth 20000 in
theorem ct_36 {d : Nat} : mcall MT CD (d + 1) 72 [vr 68] (Sx 69 471, Ix lI26, Rx lR49) (69, 471) (fun o h => o = none ∧ h = (Sx 69 471, Ix lI26, Rx lR49)) := by
  refine ⟨by decide, ?_⟩
  show wp (mcall MT CD (d + 0)) (CD 72) (69, 471) (fun o h => o = none ∧ h = (Sx 69 471, Ix lI26, Rx lR49)) 0 [vr 68] [] (Sx 69 471, Ix lI26, Rx lR49)
  refine s_ald k72_0 rfl ?_
  refine z_objinit k72_1 (by decide) (by decide) ?_
  exact s_vret k72_4 rfl rfl ⟨rfl, rfl⟩
set_option maxRecDepth 20000 in
theorem ct_33 {d : Nat} : mcall MT CD (d + 2) 69 [vr 64] (Sx 65 450, Ix lI26, Rx lR46) (69, 471) (fun o h => o = none ∧ h = (Sx 69 471, Ix lI26, Rx lR50)) := by
  refine ⟨by decide, ?_⟩
  show wp (mcall MT CD (d + 1)) (CD 69) (69, 471) (fun o h => o = none ∧ h = (Sx 69 471, Ix lI26, Rx lR50)) 0 [vr 64, vj] [] (Sx 65 450, Ix lI26, Rx lR46)
  refine s_ald k69_0 rfl ?_
  refine z_objinit k69_1 (by decide) (by decide) ?_
  refine s_ald k69_4 rfl ?_
  refine z_push k69_5 ?_
  refine x_anew k69_6 (by decide) (by decide) (by decide +kernel) (by decide +kernel) (by decide +kernel) (by decide) (by decide) rfl rfl ?_
  show wp _ _ _ _ 9 [vr 64, vj] [vr 65, vr 64] (Sx 66 453, Ix lI26, Rx lR46)
  refine z_putR k69_9 (by decide +kernel) ?_
  show wp _ _ _ _ 12 [vr 64, vj] [] (Sx 66 453, Ix lI26, Rx lR47)
  refine z_push k69_12 ?_
  refine s_ist1 k69_13 rfl ?_
  refine s_ild k69_14 rfl ?_
  refine z_push k69_15 ?_
  refine s_icge k69_16 ⟨by decide, by decide⟩ ⟨by decide, by decide⟩ (fun q => absurd q (by decide)) (fun _ => ?_)
  refine s_ald k69_19 rfl ?_
  refine z_getRe (b := 65) k69_20 (by decide +kernel) (by decide +kernel) ?_
  refine s_ild k69_23 rfl ?_
  refine x_new k69_24 (by decide +kernel) (by decide +kernel) (by decide +kernel) (by decide) (by decide) rfl rfl ?_
  show wp _ _ _ _ 27 [vr 64, vi 0] [vr 66, vi 0, vr 65] (Sx 67 459, Ix lI26, Rx lR47)
  refine z_dupr k69_27 ?_
  refine s_inv0 (lm := (67, 459)) k69_28 (by decide +kernel) (by decide) ⟨by decide, by decide, by decide, by decide⟩ ct_34 (fun o h1 q => ?_)
  obtain ⟨rfl, rfl⟩ := q
  show wp _ _ _ _ 31 [vr 64, vi 0] [vr 66, vi 0, vr 65] (Sx 67 459, Ix lI26, Rx lR47)
  refine z_aast k69_31 (by decide +kernel) (by decide +kernel) (by decide) (by decide +kernel) ?_
  show wp _ _ _ _ 32 [vr 64, vi 0] [] (Sx 67 459, Ix lI26, Rx lR48)
  refine s_iinc1 k69_32 rfl ?_
  show wp _ _ _ _ 35 [vr 64, vi 1] [] (Sx 67 459, Ix lI26, Rx lR48)
  refine z_goto k69_35 ?_
  refine s_ild k69_14 rfl ?_
  refine z_push k69_15 ?_
  refine s_icge k69_16 ⟨by decide, by decide⟩ ⟨by decide, by decide⟩ (fun q => absurd q (by decide)) (fun _ => ?_)
  refine s_ald k69_19 rfl ?_
  refine z_getRe (b := 65) k69_20 (by decide +kernel) (by decide +kernel) ?_
  refine s_ild k69_23 rfl ?_
  refine x_new k69_24 (by decide +kernel) (by decide +kernel) (by decide +kernel) (by decide) (by decide) rfl rfl ?_
  show wp _ _ _ _ 27 [vr 64, vi 1] [vr 67, vi 1, vr 65] (Sx 68 465, Ix lI26, Rx lR48)
  refine z_dupr k69_27 ?_
  refine s_inv0 (lm := (68, 465)) k69_28 (by decide +kernel) (by decide) ⟨by decide, by decide, by decide, by decide⟩ ct_35 (fun o h1 q => ?_)
  obtain ⟨rfl, rfl⟩ := q
  show wp _ _ _ _ 31 [vr 64, vi 1] [vr 67, vi 1, vr 65] (Sx 68 465, Ix lI26, Rx lR48)
  refine z_aast k69_31 (by decide +kernel) (by decide +kernel) (by decide) (by decide +kernel) ?_
  show wp _ _ _ _ 32 [vr 64, vi 1] [] (Sx 68 465, Ix lI26, Rx lR49)
  refine s_iinc1 k69_32 rfl ?_
  show wp _ _ _ _ 35 [vr 64, vi 2] [] (Sx 68 465, Ix lI26, Rx lR49)
  refine z_goto k69_35 ?_
  refine s_ild k69_14 rfl ?_
  refine z_push k69_15 ?_
  refine s_icge k69_16 ⟨by decide, by decide⟩ ⟨by decide, by decide⟩ (fun q => absurd q (by decide)) (fun _ => ?_)
  refine s_ald k69_19 rfl ?_
  refine z_getRe (b := 65) k69_20 (by decide +kernel) (by decide +kernel) ?_
  refine s_ild k69_23 rfl ?_
  refine x_new k69_24 (by decide +kernel) (by decide +kernel) (by decide +kernel) (by decide) (by decide) rfl rfl ?_
  show wp _ _ _ _ 27 [vr 64, vi 2] [vr 68, vi 2, vr 65] (Sx 69 471, Ix lI26, Rx lR49)
  refine z_dupr k69_27 ?_
  refine s_inv0 (lm := (69, 471)) k69_28 (by decide +kernel) (by decide) ⟨by decide, by decide, by decide, by decide⟩ ct_36 (fun o h1 q => ?_)
  obtain ⟨rfl, rfl⟩ := q
  show wp _ _ _ _ 31 [vr 64, vi 2] [vr 68, vi 2, vr 65] (Sx 69 471, Ix lI26, Rx lR49)
  refine z_aast k69_31 (by decide +kernel) (by decide +kernel) (by decide) (by decide +kernel) ?_
  show wp _ _ _ _ 32 [vr 64, vi 2] [] (Sx 69 471, Ix lI26, Rx lR50)
  refine s_iinc1 k69_32 rfl ?_
  show wp _ _ _ _ 35 [vr 64, vi 3] [] (Sx 69 471, Ix lI26, Rx lR50)
  refine z_goto k69_35 ?_
  refine s_ild k69_14 rfl ?_
  refine z_push k69_15 ?_
  refine s_icge k69_16 ⟨by decide, by decide⟩ ⟨by decide, by decide⟩ (fun _ => ?_) (fun q => absurd q (by decide))
  exact s_vret k69_38 rfl rfl ⟨rfl, rfl⟩
set_option maxRecDepth 20000 in
theorem ct_16 {d : Nat} : mcall MT CD (d + 3) 28 [vr 42] (Sx 43 331, Ix lI26, Rx lR25) (69, 471) (fun o h => o = none ∧ h = (Sx 69 471, Ix lI26, Rx lR51)) := by
  refine ⟨by decide, ?_⟩
  show wp (mcall MT CD (d + 2)) (CD 28) (69, 471) (fun o h => o = none ∧ h = (Sx 69 471, Ix lI26, Rx lR51)) 0 [vr 42, vj] [] (Sx 43 331, Ix lI26, Rx lR25)
  refine s_ald k28_0 rfl ?_
  refine z_objinit k28_1 (by decide) (by decide) ?_
  refine s_ald k28_4 rfl ?_
  refine z_push k28_5 ?_
  refine x_anew k28_6 (by decide) (by decide) (by decide +kernel) (by decide +kernel) (by decide +kernel) (by decide) (by decide) rfl rfl ?_
  show wp _ _ _ _ 9 [vr 42, vj] [vr 43, vr 42] (Sx 44 336, Ix lI26, Rx lR25)
  refine z_putR k28_9 (by decide +kernel) ?_
  show wp _ _ _ _ 12 [vr 42, vj] [] (Sx 44 336, Ix lI26, Rx lR26)
  refine z_push k28_12 ?_
  refine s_ist1 k28_13 rfl ?_
  refine s_ild k28_14 rfl ?_
  refine z_push k28_15 ?_
  refine s_icge k28_16 ⟨by decide, by decide⟩ ⟨by decide, by decide⟩ (fun q => absurd q (by decide)) (fun _ => ?_)
  refine s_ald k28_19 rfl ?_
  refine z_getRe (b := 43) k28_20 (by decide +kernel) (by decide +kernel) ?_
  refine s_ild k28_23 rfl ?_
  refine x_new k28_24 (by decide +kernel) (by decide +kernel) (by decide +kernel) (by decide) (by decide) rfl rfl ?_
  show wp _ _ _ _ 27 [vr 42, vi 0] [vr 44, vi 0, vr 43] (Sx 45 342, Ix lI26, Rx lR26)
  refine z_dupr k28_27 ?_
  refine s_inv0 (lm := (49, 363)) k28_28 (by decide +kernel) (by decide) ⟨by decide, by decide, by decide, by decide⟩ ct_17 (fun o h1 q => ?_)
  obtain ⟨rfl, rfl⟩ := q
  show wp _ _ _ _ 31 [vr 42, vi 0] [vr 44, vi 0, vr 43] (Sx 49 363, Ix lI26, Rx lR30)
  refine z_aast k28_31 (by decide +kernel) (by decide +kernel) (by decide) (by decide +kernel) ?_
  show wp _ _ _ _ 32 [vr 42, vi 0] [] (Sx 49 363, Ix lI26, Rx lR31)
  refine s_iinc1 k28_32 rfl ?_
  show wp _ _ _ _ 35 [vr 42, vi 1] [] (Sx 49 363, Ix lI26, Rx lR31)
  refine z_goto k28_35 ?_
  refine s_ild k28_14 rfl ?_
  refine z_push k28_15 ?_
  refine s_icge k28_16 ⟨by decide, by decide⟩ ⟨by decide, by decide⟩ (fun q => absurd q (by decide)) (fun _ => ?_)
  refine s_ald k28_19 rfl ?_
  refine z_getRe (b := 43) k28_20 (by decide +kernel) (by decide +kernel) ?_
  refine s_ild k28_23 rfl ?_
  refine x_new k28_24 (by decide +kernel) (by decide +kernel) (by decide +kernel) (by decide) (by decide) rfl rfl ?_
  show wp _ _ _ _ 27 [vr 42, vi 1] [vr 49, vi 1, vr 43] (Sx 50 369, Ix lI26, Rx lR31)
  refine z_dupr k28_27 ?_
  refine s_inv0 (lm := (54, 390)) k28_28 (by decide +kernel) (by decide) ⟨by decide, by decide, by decide, by decide⟩ ct_21 (fun o h1 q => ?_)
  obtain ⟨rfl, rfl⟩ := q
  show wp _ _ _ _ 31 [vr 42, vi 1] [vr 49, vi 1, vr 43] (Sx 54 390, Ix lI26, Rx lR35)
  refine z_aast k28_31 (by decide +kernel) (by decide +kernel) (by decide) (by decide +kernel) ?_
  show wp _ _ _ _ 32 [vr 42, vi 1] [] (Sx 54 390, Ix lI26, Rx lR36)
  refine s_iinc1 k28_32 rfl ?_
  show wp _ _ _ _ 35 [vr 42, vi 2] [] (Sx 54 390, Ix lI26, Rx lR36)
  refine z_goto k28_35 ?_
  refine s_ild k28_14 rfl ?_
  refine z_push k28_15 ?_
  refine s_icge k28_16 ⟨by decide, by decide⟩ ⟨by decide, by decide⟩ (fun q => absurd q (by decide)) (fun _ => ?_)
  refine s_ald k28_19 rfl ?_
  refine z_getRe (b := 43) k28_20 (by decide +kernel) (by decide +kernel) ?_
  refine s_ild k28_23 rfl ?_
  refine x_new k28_24 (by decide +kernel) (by decide +kernel) (by decide +kernel) (by decide) (by decide) rfl rfl ?_
  show wp _ _ _ _ 27 [vr 42, vi 2] [vr 54, vi 2, vr 43] (Sx 55 396, Ix lI26, Rx lR36)
  refine z_dupr k28_27 ?_
  refine s_inv0 (lm := (59, 417)) k28_28 (by decide +kernel) (by decide) ⟨by decide, by decide, by decide, by decide⟩ ct_25 (fun o h1 q => ?_)
  obtain ⟨rfl, rfl⟩ := q
  show wp _ _ _ _ 31 [vr 42, vi 2] [vr 54, vi 2, vr 43] (Sx 59 417, Ix lI26, Rx lR40)
  refine z_aast k28_31 (by decide +kernel) (by decide +kernel) (by decide) (by decide +kernel) ?_
  show wp _ _ _ _ 32 [vr 42, vi 2] [] (Sx 59 417, Ix lI26, Rx lR41)
  refine s_iinc1 k28_32 rfl ?_
  show wp _ _ _ _ 35 [vr 42, vi 3] [] (Sx 59 417, Ix lI26, Rx lR41)
  refine z_goto k28_35 ?_
  refine s_ild k28_14 rfl ?_
  refine z_push k28_15 ?_
  refine s_icge k28_16 ⟨by decide, by decide⟩ ⟨by decide, by decide⟩ (fun q => absurd q (by decide)) (fun _ => ?_)
  refine s_ald k28_19 rfl ?_
  refine z_getRe (b := 43) k28_20 (by decide +kernel) (by decide +kernel) ?_
  refine s_ild k28_23 rfl ?_
  refine x_new k28_24 (by decide +kernel) (by decide +kernel) (by decide +kernel) (by decide) (by decide) rfl rfl ?_
  show wp _ _ _ _ 27 [vr 42, vi 3] [vr 59, vi 3, vr 43] (Sx 60 423, Ix lI26, Rx lR41)
  refine z_dupr k28_27 ?_
  refine s_inv0 (lm := (64, 444)) k28_28 (by decide +kernel) (by decide) ⟨by decide, by decide, by decide, by decide⟩ ct_29 (fun o h1 q => ?_)
  obtain ⟨rfl, rfl⟩ := q
  show wp _ _ _ _ 31 [vr 42, vi 3] [vr 59, vi 3, vr 43] (Sx 64 444, Ix lI26, Rx lR45)
  refine z_aast k28_31 (by decide +kernel) (by decide +kernel) (by decide) (by decide +kernel) ?_
  show wp _ _ _ _ 32 [vr 42, vi 3] [] (Sx 64 444, Ix lI26, Rx lR46)
  refine s_iinc1 k28_32 rfl ?_
  show wp _ _ _ _ 35 [vr 42, vi 4] [] (Sx 64 444, Ix lI26, Rx lR46)
  refine z_goto k28_35 ?_
  refine s_ild k28_14 rfl ?_
  refine z_push k28_15 ?_
  refine s_icge k28_16 ⟨by decide, by decide⟩ ⟨by decide, by decide⟩ (fun q => absurd q (by decide)) (fun _ => ?_)
  refine s_ald k28_19 rfl ?_
  refine z_getRe (b := 43) k28_20 (by decide +kernel) (by decide +kernel) ?_
  refine s_ild k28_23 rfl ?_
  refine x_new k28_24 (by decide +kernel) (by decide +kernel) (by decide +kernel) (by decide) (by decide) rfl rfl ?_
  show wp _ _ _ _ 27 [vr 42, vi 4] [vr 64, vi 4, vr 43] (Sx 65 450, Ix lI26, Rx lR46)
  refine z_dupr k28_27 ?_
  refine s_inv0 (lm := (69, 471)) k28_28 (by decide +kernel) (by decide) ⟨by decide, by decide, by decide, by decide⟩ ct_33 (fun o h1 q => ?_)
  obtain ⟨rfl, rfl⟩ := q
  show wp _ _ _ _ 31 [vr 42, vi 4] [vr 64, vi 4, vr 43] (Sx 69 471, Ix lI26, Rx lR50)
  refine z_aast k28_31 (by decide +kernel) (by decide +kernel) (by decide) (by decide +kernel) ?_
  show wp _ _ _ _ 32 [vr 42, vi 4] [] (Sx 69 471, Ix lI26, Rx lR51)
  refine s_iinc1 k28_32 rfl ?_
  show wp _ _ _ _ 35 [vr 42, vi 5] [] (Sx 69 471, Ix lI26, Rx lR51)
  refine z_goto k28_35 ?_
  refine s_ild k28_14 rfl ?_
  refine z_push k28_15 ?_
  refine s_icge k28_16 ⟨by decide, by decide⟩ ⟨by decide, by decide⟩ (fun _ => ?_) (fun q => absurd q (by decide))
  exact s_vret k28_38 rfl rfl ⟨rfl, rfl⟩
set_option maxRecDepth 20000 in
theorem ct_37 {d : Nat} : mcall MT CD (d + 1) 0 [vr 69, vr 17, vr 42] (Sx 70 489, Ix lI26, Rx lR52) (118, 2416) (fun o h => o = none ∧ h = (Sx 118 2416, Ix lI26, Rx lR102)) := by
  refine ⟨by decide, ?_⟩
  show wp (mcall MT CD (d + 0)) (CD 0) (118, 2416) (fun o h => o = none ∧ h = (Sx 118 2416, Ix lI26, Rx lR102)) 0 [vr 69, vr 17, vr 42] [] (Sx 70 489, Ix lI26, Rx lR52)
  refine s_ald k0_0 rfl ?_
  refine z_objinit k0_1 (by decide) (by decide) ?_
  refine s_ald k0_4 rfl ?_
  refine z_push k0_5 ?_
  refine z_push k0_6 ?_
  refine x_mna k0_8 (by decide) (by decide) (by decide) (by decide) (by decide +kernel) (by decide +kernel) (by decide +kernel) (by decide) (by decide) rfl rfl ?_
  show wp _ _ _ _ 12 [vr 69, vr 17, vr 42] [vr 70, vr 69] (Sx 76 1054, Ix lI26, Rx lR57)
  refine z_putR k0_12 (by decide +kernel) ?_
  show wp _ _ _ _ 15 [vr 69, vr 17, vr 42] [] (Sx 76 1054, Ix lI26, Rx lR58)
  refine s_ald k0_15 rfl ?_
  refine z_push k0_16 ?_
  refine x_newa k0_17 (by decide) (by decide) (by decide +kernel) (by decide +kernel) (by decide +kernel) (by decide) (by decide) rfl rfl ?_
  show wp _ _ _ _ 19 [vr 69, vr 17, vr 42] [vr 76, vr 69] (Sx 77 1059, Ix lI26, Rx lR58)
  refine z_putR k0_19 (by decide +kernel) ?_
  show wp _ _ _ _ 22 [vr 69, vr 17, vr 42] [] (Sx 77 1059, Ix lI26, Rx lR59)
  refine s_ald k0_22 rfl ?_
  refine z_push k0_23 ?_
  refine x_newa k0_24 (by decide) (by decide) (by decide +kernel) (by decide +kernel) (by decide +kernel) (by decide) (by decide) rfl rfl ?_
  show wp _ _ _ _ 26 [vr 69, vr 17, vr 42] [vr 77, vr 69] (Sx 78 1062, Ix lI26, Rx lR59)
  refine z_putR k0_26 (by decide +kernel) ?_
  show wp _ _ _ _ 29 [vr 69, vr 17, vr 42] [] (Sx 78 1062, Ix lI26, Rx lR60)
  refine s_ald k0_29 rfl ?_
  refine z_push k0_30 ?_
  refine x_newa k0_31 (by decide) (by decide) (by decide +kernel) (by decide +kernel) (by decide +kernel) (by decide) (by decide) rfl rfl ?_
  show wp _ _ _ _ 33 [vr 69, vr 17, vr 42] [vr 78, vr 69] (Sx 79 1067, Ix lI26, Rx lR60)
  refine z_putR k0_33 (by decide +kernel) ?_
  show wp _ _ _ _ 36 [vr 69, vr 17, vr 42] [] (Sx 79 1067, Ix lI26, Rx lR61)
  refine s_ald k0_36 rfl ?_
  refine z_push k0_37 ?_
  refine x_newa k0_38 (by decide) (by decide) (by decide +kernel) (by decide +kernel) (by decide +kernel) (by decide) (by decide) rfl rfl ?_
  show wp _ _ _ _ 40 [vr 69, vr 17, vr 42] [vr 79, vr 69] (Sx 80 1072, Ix lI26, Rx lR61)
  refine z_putR k0_40 (by decide +kernel) ?_
  show wp _ _ _ _ 43 [vr 69, vr 17, vr 42] [] (Sx 80 1072, Ix lI26, Rx lR62)
  refine s_ald k0_43 rfl ?_
  refine z_push k0_44 ?_
  refine x_newa k0_46 (by decide) (by decide) (by decide +kernel) (by decide +kernel) (by decide +kernel) (by decide) (by decide) rfl rfl ?_
  show wp _ _ _ _ 48 [vr 69, vr 17, vr 42] [vr 80, vr 69] (Sx 81 1104, Ix lI26, Rx lR62)
  refine z_putR k0_48 (by decide +kernel) ?_
  show wp _ _ _ _ 51 [vr 69, vr 17, vr 42] [] (Sx 81 1104, Ix lI26, Rx lR63)
  refine s_ald k0_51 rfl ?_
  refine z_push k0_52 ?_
  refine z_push k0_54 ?_
  refine x_mna k0_55 (by decide) (by decide) (by decide) (by decide) (by decide +kernel) (by decide +kernel) (by decide +kernel) (by decide) (by decide) rfl rfl ?_
  show wp _ _ _ _ 59 [vr 69, vr 17, vr 42] [vr 81, vr 69] (Sx 114 1296, Ix lI26, Rx lR95)
  refine z_putR k0_59 (by decide +kernel) ?_
  show wp _ _ _ _ 62 [vr 69, vr 17, vr 42] [] (Sx 114 1296, Ix lI26, Rx lR96)
  refine s_ald k0_62 rfl ?_
  refine z_push k0_63 ?_
  refine x_newa k0_65 (by decide) (by decide) (by decide +kernel) (by decide +kernel) (by decide +kernel) (by decide) (by decide) rfl rfl ?_
  show wp _ _ _ _ 67 [vr 69, vr 17, vr 42] [vr 114, vr 69] (Sx 115 1328, Ix lI26, Rx lR96)
  refine z_putR k0_67 (by decide +kernel) ?_
  show wp _ _ _ _ 70 [vr 69, vr 17, vr 42] [] (Sx 115 1328, Ix lI26, Rx lR97)
  refine s_ald k0_70 rfl ?_
  refine z_push k0_71 ?_
  refine x_newa k0_73 (by decide) (by decide) (by decide +kernel) (by decide +kernel) (by decide +kernel) (by decide) (by decide) rfl rfl ?_
  show wp _ _ _ _ 75 [vr 69, vr 17, vr 42] [vr 115, vr 69] (Sx 116 1360, Ix lI26, Rx lR97)
  refine z_putR k0_75 (by decide +kernel) ?_
  show wp _ _ _ _ 78 [vr 69, vr 17, vr 42] [] (Sx 116 1360, Ix lI26, Rx lR98)
  refine s_ald k0_78 rfl ?_
  refine z_push k0_79 ?_
  refine x_newa k0_81 (by decide) (by decide) (by decide +kernel) (by decide +kernel) (by decide +kernel) (by decide) (by decide) rfl rfl ?_
  show wp _ _ _ _ 83 [vr 69, vr 17, vr 42] [vr 116, vr 69] (Sx 117 1392, Ix lI26, Rx lR98)
  refine z_putR k0_83 (by decide +kernel) ?_
  show wp _ _ _ _ 86 [vr 69, vr 17, vr 42] [] (Sx 117 1392, Ix lI26, Rx lR99)
  refine s_ald k0_86 rfl ?_
  refine z_push k0_87 ?_
  refine x_newa k0_90 (by decide) (by decide) (by decide +kernel) (by decide +kernel) (by decide +kernel) (by decide) (by decide) rfl rfl ?_
  show wp _ _ _ _ 92 [vr 69, vr 17, vr 42] [vr 117, vr 69] (Sx 118 2416, Ix lI26, Rx lR99)
  refine z_putR k0_92 (by decide +kernel) ?_
  show wp _ _ _ _ 95 [vr 69, vr 17, vr 42] [] (Sx 118 2416, Ix lI26, Rx lR100)
  refine s_ald k0_95 rfl ?_
  refine s_ald k0_96 rfl ?_
  refine z_putR k0_97 (by decide +kernel) ?_
  show wp _ _ _ _ 100 [vr 69, vr 17, vr 42] [] (Sx 118 2416, Ix lI26, Rx lR101)
  refine s_ald k0_100 rfl ?_
  refine s_ald k0_101 rfl ?_
  refine z_putR k0_102 (by decide +kernel) ?_
  show wp _ _ _ _ 105 [vr 69, vr 17, vr 42] [] (Sx 118 2416, Ix lI26, Rx lR102)
  exact s_vret k0_105 rfl rfl ⟨rfl, rfl⟩
set_option maxRecDepth 20000 in
theorem ct_38 {d : Nat} : mcall MT CD (d + 1) 75 [vr 118, vr 17, vr 42] (Sx 119 2426, Ix lI26, Rx lR103) (123, 2453) (fun o h => o = none ∧ h = (Sx 123 2453, Ix lI26, Rx lR109)) := by
  refine ⟨by decide, ?_⟩
  show wp (mcall MT CD (d + 0)) (CD 75) (123, 2453) (fun o h => o = none ∧ h = (Sx 123 2453, Ix lI26, Rx lR109)) 0 [vr 118, vr 17, vr 42] [] (Sx 119 2426, Ix lI26, Rx lR103)
  refine s_ald k75_0 rfl ?_
  refine z_objinit k75_1 (by decide) (by decide) ?_
  refine s_ald k75_4 rfl ?_
  refine z_push k75_5 ?_
  refine x_newa k75_7 (by decide) (by decide) (by decide +kernel) (by decide +kernel) (by decide +kernel) (by decide) (by decide) rfl rfl ?_
  show wp _ _ _ _ 9 [vr 118, vr 17, vr 42] [vr 119, vr 118] (Sx 120 2438, Ix lI26, Rx lR103)
  refine z_putR k75_9 (by decide +kernel) ?_
  show wp _ _ _ _ 12 [vr 118, vr 17, vr 42] [] (Sx 120 2438, Ix lI26, Rx lR104)
  refine s_ald k75_12 rfl ?_
  refine z_push k75_13 ?_
  refine x_newa k75_14 (by decide) (by decide) (by decide +kernel) (by decide +kernel) (by decide +kernel) (by decide) (by decide) rfl rfl ?_
  show wp _ _ _ _ 16 [vr 118, vr 17, vr 42] [vr 120, vr 118] (Sx 121 2443, Ix lI26, Rx lR104)
  refine z_putR k75_16 (by decide +kernel) ?_
  show wp _ _ _ _ 19 [vr 118, vr 17, vr 42] [] (Sx 121 2443, Ix lI26, Rx lR105)
  refine s_ald k75_19 rfl ?_
  refine z_push k75_20 ?_
  refine x_newa k75_21 (by decide) (by decide) (by decide +kernel) (by decide +kernel) (by decide +kernel) (by decide) (by decide) rfl rfl ?_
  show wp _ _ _ _ 23 [vr 118, vr 17, vr 42] [vr 121, vr 118] (Sx 122 2448, Ix lI26, Rx lR105)
  refine z_putR k75_23 (by decide +kernel) ?_
  show wp _ _ _ _ 26 [vr 118, vr 17, vr 42] [] (Sx 122 2448, Ix lI26, Rx lR106)
  refine s_ald k75_26 rfl ?_
  refine z_push k75_27 ?_
  refine x_newa k75_28 (by decide) (by decide) (by decide +kernel) (by decide +kernel) (by decide +kernel) (by decide) (by decide) rfl rfl ?_
  show wp _ _ _ _ 30 [vr 118, vr 17, vr 42] [vr 122, vr 118] (Sx 123 2453, Ix lI26, Rx lR106)
  refine z_putR k75_30 (by decide +kernel) ?_
  show wp _ _ _ _ 33 [vr 118, vr 17, vr 42] [] (Sx 123 2453, Ix lI26, Rx lR107)
  refine s_ald k75_33 rfl ?_
  refine s_ald k75_34 rfl ?_
  refine z_putR k75_35 (by decide +kernel) ?_
  show wp _ _ _ _ 38 [vr 118, vr 17, vr 42] [] (Sx 123 2453, Ix lI26, Rx lR108)
  refine s_ald k75_38 rfl ?_
  refine s_ald k75_39 rfl ?_
  refine z_putR k75_40 (by decide +kernel) ?_
  show wp _ _ _ _ 43 [vr 118, vr 17, vr 42] [] (Sx 123 2453, Ix lI26, Rx lR109)
  exact s_vret k75_43 rfl rfl ⟨rfl, rfl⟩
set_option maxRecDepth 20000 in
theorem ct_39 {d : Nat} : mcall MT CD (d + 1) 51 [vr 123] (Sx 124 2456, Ix lI26, Rx lR110) (126, 2468) (fun o h => o = none ∧ h = (Sx 126 2468, Ix lI30, Rx lR112)) := by
  refine ⟨by decide, ?_⟩
  show wp (mcall MT CD (d + 0)) (CD 51) (126, 2468) (fun o h => o = none ∧ h = (Sx 126 2468, Ix lI30, Rx lR112)) 0 [vr 123, vj] [] (Sx 124 2456, Ix lI26, Rx lR110)
  refine s_ald k51_0 rfl ?_
  refine z_objinit k51_1 (by decide) (by decide) ?_
  refine s_ald k51_4 rfl ?_
  refine z_push k51_5 ?_
  refine x_newa k51_7 (by decide) (by decide) (by decide +kernel) (by decide +kernel) (by decide +kernel) (by decide) (by decide) rfl rfl ?_
  show wp _ _ _ _ 9 [vr 123, vj] [vr 124, vr 123] (Sx 125 2464, Ix lI26, Rx lR110)
  refine z_putR k51_9 (by decide +kernel) ?_
  show wp _ _ _ _ 12 [vr 123, vj] [] (Sx 125 2464, Ix lI26, Rx lR111)
  refine s_ald k51_12 rfl ?_
  refine z_push k51_13 ?_
  refine x_newa k51_14 (by decide) (by decide) (by decide +kernel) (by decide +kernel) (by decide +kernel) (by decide) (by decide) rfl rfl ?_
  show wp _ _ _ _ 16 [vr 123, vj] [vr 125, vr 123] (Sx 126 2468, Ix lI26, Rx lR111)
  refine z_putR k51_16 (by decide +kernel) ?_
  show wp _ _ _ _ 19 [vr 123, vj] [] (Sx 126 2468, Ix lI26, Rx lR112)
  refine z_push k51_19 ?_
  refine s_ist1 k51_20 rfl ?_
  refine s_ild k51_21 rfl ?_
  refine z_push k51_22 ?_
  refine s_icge k51_23 ⟨by decide, by decide⟩ ⟨by decide, by decide⟩ (fun q => absurd q (by decide)) (fun _ => ?_)
  refine s_ald k51_26 rfl ?_
  refine z_getRe (b := 125) k51_27 (by decide +kernel) (by decide +kernel) ?_
  refine s_ild k51_30 rfl ?_
  refine z_push k51_31 ?_
  refine z_iast k51_32 (by decide +kernel) (by decide) (by decide +kernel) ?_
  show wp _ _ _ _ 33 [vr 123, vi 0] [] (Sx 126 2468, Ix lI27, Rx lR112)
  refine s_iinc1 k51_33 rfl ?_
  show wp _ _ _ _ 36 [vr 123, vi 1] [] (Sx 126 2468, Ix lI27, Rx lR112)
  refine z_goto k51_36 ?_
  refine s_ild k51_21 rfl ?_
  refine z_push k51_22 ?_
  refine s_icge k51_23 ⟨by decide, by decide⟩ ⟨by decide, by decide⟩ (fun q => absurd q (by decide)) (fun _ => ?_)
  refine s_ald k51_26 rfl ?_
  refine z_getRe (b := 125) k51_27 (by decide +kernel) (by decide +kernel) ?_
  refine s_ild k51_30 rfl ?_
  refine z_push k51_31 ?_
  refine z_iast k51_32 (by decide +kernel) (by decide) (by decide +kernel) ?_
  show wp _ _ _ _ 33 [vr 123, vi 1] [] (Sx 126 2468, Ix lI28, Rx lR112)
  refine s_iinc1 k51_33 rfl ?_
  show wp _ _ _ _ 36 [vr 123, vi 2] [] (Sx 126 2468, Ix lI28, Rx lR112)
  refine z_goto k51_36 ?_
  refine s_ild k51_21 rfl ?_
  refine z_push k51_22 ?_
  refine s_icge k51_23 ⟨by decide, by decide⟩ ⟨by decide, by decide⟩ (fun q => absurd q (by decide)) (fun _ => ?_)
  refine s_ald k51_26 rfl ?_
  refine z_getRe (b := 125) k51_27 (by decide +kernel) (by decide +kernel) ?_
  refine s_ild k51_30 rfl ?_
  refine z_push k51_31 ?_
  refine z_iast k51_32 (by decide +kernel) (by decide) (by decide +kernel) ?_
  show wp _ _ _ _ 33 [vr 123, vi 2] [] (Sx 126 2468, Ix lI29, Rx lR112)
  refine s_iinc1 k51_33 rfl ?_
  show wp _ _ _ _ 36 [vr 123, vi 3] [] (Sx 126 2468, Ix lI29, Rx lR112)
  refine z_goto k51_36 ?_
  refine s_ild k51_21 rfl ?_
  refine z_push k51_22 ?_
  refine s_icge k51_23 ⟨by decide, by decide⟩ ⟨by decide, by decide⟩ (fun q => absurd q (by decide)) (fun _ => ?_)
  refine s_ald k51_26 rfl ?_
  refine z_getRe (b := 125) k51_27 (by decide +kernel) (by decide +kernel) ?_
  refine s_ild k51_30 rfl ?_
  refine z_push k51_31 ?_
  refine z_iast k51_32 (by decide +kernel) (by decide) (by decide +kernel) ?_
  show wp _ _ _ _ 33 [vr 123, vi 3] [] (Sx 126 2468, Ix lI30, Rx lR112)
  refine s_iinc1 k51_33 rfl ?_
  show wp _ _ _ _ 36 [vr 123, vi 4] [] (Sx 126 2468, Ix lI30, Rx lR112)
  refine z_goto k51_36 ?_
  refine s_ild k51_21 rfl ?_
  refine z_push k51_22 ?_
  refine s_icge k51_23 ⟨by decide, by decide⟩ ⟨by decide, by decide⟩ (fun _ => ?_) (fun q => absurd q (by decide))
  exact s_vret k51_39 rfl rfl ⟨rfl, rfl⟩
set_option maxRecDepth 20000 in
theorem ct_40 {d : Nat} : mcall MT CD (d + 1) 72 [vr 126] (Sx 127 2474, Ix lI30, Rx lR113) (127, 2474) (fun o h => o = none ∧ h = (Sx 127 2474, Ix lI30, Rx lR113)) := by
  refine ⟨by decide, ?_⟩
  show wp (mcall MT CD (d + 0)) (CD 72) (127, 2474) (fun o h => o = none ∧ h = (Sx 127 2474, Ix lI30, Rx lR113)) 0 [vr 126] [] (Sx 127 2474, Ix lI30, Rx lR113)
  refine s_ald k72_0 rfl ?_
  refine z_objinit k72_1 (by decide) (by decide) ?_
  exact s_vret k72_4 rfl rfl ⟨rfl, rfl⟩
