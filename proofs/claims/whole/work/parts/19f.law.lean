/-! the law: the steps, 3 -/
set_option maxRecDepth 20000 in
theorem opL_27 {xs : Nat → Int32} {L : Nat} {i : Int} {I σ : Nat → Int → Int} {P : Int → Nat} {dr g : Nat} (i0 : 0 ≤ i) (i1 : i + 7 ≤ L) (hg : g + 1 < 1000) (hI : InvL I σ P dr g) (ih : ∀ (J σ : Nat → Int → Int) (P : Int → Nat) (dr : Nat), InvL J σ P dr (g + 1) → wp (mcall MT CD 100) (cM xs L) limL QL 1195 [vr 1, vr 16, vr 127, vi i] [] (S0, J, RR P dr)) : wp (mcall MT CD 100) (cM xs L) limL QL 969 [vr 1, vr 16, vr 127, vi i] [] (S0, I, RR P dr) := by
  obtain ⟨hs, hW, hG, hX⟩ := id hI
  refine s_ald (cn rfl kL_969) rfl ?_
  refine s_inv0 (lm := L0) (cn rfl kL_970) rfl (Nat.le_of_ble_eq_true rfl) limL_ok (k118 (d := 92) hG hW) (fun o h1 hq => ?_)
  obtain ⟨J, rfl, rfl, qG, qK⟩ := hq
  refine s_ald (cn rfl kL_973) rfl ?_
  refine s_inv0 (lm := L0) (cn rfl kL_974) rfl (Nat.le_of_ble_eq_true rfl) limL_ok (r199 (d := 91) (hI.sk qK) hW) (fun o h1 hq => ?_)
  obtain ⟨J2, rfl, rfl, q1, q2⟩ := hq
  exact s_sam (cq rfl) (ih _ _ _ _ (hI.nx (go_Rul hW) qG qK q1 q2))
set_option maxRecDepth 20000 in
theorem opL_28 {xs : Nat → Int32} {L : Nat} {i : Int} {I σ : Nat → Int → Int} {P : Int → Nat} {dr g : Nat} (i0 : 0 ≤ i) (i1 : i + 7 ≤ L) (hg : g + 1 < 1000) (hI : InvL I σ P dr g) (ih : ∀ (J σ : Nat → Int → Int) (P : Int → Nat) (dr : Nat), InvL J σ P dr (g + 1) → wp (mcall MT CD 100) (cM xs L) limL QL 1195 [vr 1, vr 16, vr 127, vi i] [] (S0, J, RR P dr)) : wp (mcall MT CD 100) (cM xs L) limL QL 982 [vr 1, vr 16, vr 127, vi i] [] (S0, I, RR P dr) := by
  obtain ⟨hs, hW, hG, hX⟩ := id hI
  refine s_ald (cn rfl kL_982) rfl ?_
  refine argL (cn rfl kL_983) (cn rfl kL_984) (cn rfl kL_985) (cn rfl kL_986) (cn rfl kL_987) (by omega) (by omega) ?_
  refine argL (cn rfl kL_988) (cn rfl kL_989) (cn rfl kL_990) (cn rfl kL_991) (cn rfl kL_992) (by omega) (by omega) ?_
  refine argL (cn rfl kL_993) (cn rfl kL_994) (cn rfl kL_995) (cn rfl kL_996) (cn rfl kL_997) (by omega) (by omega) ?_
  refine argL (cn rfl kL_998) (cn rfl kL_999) (cn rfl kL_1000) (cn rfl kL_1001) (cn rfl kL_1002) (by omega) (by omega) ?_
  refine argL (cn rfl kL_1003) (cn rfl kL_1004) (cn rfl kL_1005) (cn rfl kL_1006) (cn rfl kL_1007) (by omega) (by omega) ?_
  refine argL (cn rfl kL_1008) (cn rfl kL_1009) (cn rfl kL_1010) (cn rfl kL_1012) (cn rfl kL_1013) (by omega) (by omega) ?_
  refine s_inv6 (lm := L0) (cn rfl kL_1014) rfl (Nat.le_of_ble_eq_true rfl) limL_ok (k119 (d := 89) hG hW hg hX agR agR agR agR agR agR) (fun o h1 hq => ?_)
  obtain ⟨J, rfl, rfl, qG, qK⟩ := hq
  refine s_ald (cn rfl kL_1017) rfl ?_
  refine argL (cn rfl kL_1018) (cn rfl kL_1019) (cn rfl kL_1020) (cn rfl kL_1021) (cn rfl kL_1022) (by omega) (by omega) ?_
  refine argL (cn rfl kL_1023) (cn rfl kL_1024) (cn rfl kL_1025) (cn rfl kL_1026) (cn rfl kL_1027) (by omega) (by omega) ?_
  refine argL (cn rfl kL_1028) (cn rfl kL_1029) (cn rfl kL_1030) (cn rfl kL_1031) (cn rfl kL_1032) (by omega) (by omega) ?_
  refine argL (cn rfl kL_1033) (cn rfl kL_1034) (cn rfl kL_1035) (cn rfl kL_1036) (cn rfl kL_1037) (by omega) (by omega) ?_
  refine argL (cn rfl kL_1038) (cn rfl kL_1039) (cn rfl kL_1040) (cn rfl kL_1041) (cn rfl kL_1042) (by omega) (by omega) ?_
  refine argL (cn rfl kL_1043) (cn rfl kL_1044) (cn rfl kL_1045) (cn rfl kL_1047) (cn rfl kL_1048) (by omega) (by omega) ?_
  refine s_inv6 (lm := L0) (cn rfl kL_1049) rfl (Nat.le_of_ble_eq_true rfl) limL_ok (r201 (d := 91) (hI.sb qG) hW agR agR agR agR agR agR) (fun o h1 hq => ?_)
  obtain ⟨J2, rfl, rfl, q1, q2⟩ := hq
  exact s_sam (cq rfl) (ih _ _ _ _ (hI.nd qG qK q1 q2))
set_option maxRecDepth 20000 in
theorem opL_29 {xs : Nat → Int32} {L : Nat} {i : Int} {I σ : Nat → Int → Int} {P : Int → Nat} {dr g : Nat} (i0 : 0 ≤ i) (i1 : i + 7 ≤ L) (hg : g + 1 < 1000) (hI : InvL I σ P dr g) (ih : ∀ (J σ : Nat → Int → Int) (P : Int → Nat) (dr : Nat), InvL J σ P dr (g + 1) → wp (mcall MT CD 100) (cM xs L) limL QL 1195 [vr 1, vr 16, vr 127, vi i] [] (S0, J, RR P dr)) : wp (mcall MT CD 100) (cM xs L) limL QL 1057 [vr 1, vr 16, vr 127, vi i] [] (S0, I, RR P dr) := by
  obtain ⟨hs, hW, hG, hX⟩ := id hI
  refine s_ald (cn rfl kL_1057) rfl ?_
  refine argL (cn rfl kL_1058) (cn rfl kL_1059) (cn rfl kL_1060) (cn rfl kL_1061) (cn rfl kL_1062) (by omega) (by omega) ?_
  refine argL (cn rfl kL_1063) (cn rfl kL_1064) (cn rfl kL_1065) (cn rfl kL_1066) (cn rfl kL_1067) (by omega) (by omega) ?_
  refine s_inv2 (lm := L0) (cn rfl kL_1068) rfl (Nat.le_of_ble_eq_true rfl) limL_ok (k120 (d := 98) hG hW agR agR) (fun o h1 hq => ?_)
  obtain ⟨J, rfl, rfl, qG, qK⟩ := hq
  refine s_ald (cn rfl kL_1071) rfl ?_
  refine argL (cn rfl kL_1072) (cn rfl kL_1073) (cn rfl kL_1074) (cn rfl kL_1075) (cn rfl kL_1076) (by omega) (by omega) ?_
  refine argL (cn rfl kL_1077) (cn rfl kL_1078) (cn rfl kL_1079) (cn rfl kL_1080) (cn rfl kL_1081) (by omega) (by omega) ?_
  refine s_inv2 (lm := L0) (cn rfl kL_1082) rfl (Nat.le_of_ble_eq_true rfl) limL_ok (r202 (d := 98) (hI.sk qK) hW agR agR) (fun o h1 hq => ?_)
  obtain ⟨J2, rfl, rfl, q1, q2⟩ := hq
  exact s_sam (cq rfl) (ih _ _ _ _ (hI.nx (go_Shr hW) qG qK q1 q2))
set_option maxRecDepth 20000 in
theorem opL_30 {xs : Nat → Int32} {L : Nat} {i : Int} {I σ : Nat → Int → Int} {P : Int → Nat} {dr g : Nat} (i0 : 0 ≤ i) (i1 : i + 7 ≤ L) (hg : g + 1 < 1000) (hI : InvL I σ P dr g) (ih : ∀ (J σ : Nat → Int → Int) (P : Int → Nat) (dr : Nat), InvL J σ P dr (g + 1) → wp (mcall MT CD 100) (cM xs L) limL QL 1195 [vr 1, vr 16, vr 127, vi i] [] (S0, J, RR P dr)) : wp (mcall MT CD 100) (cM xs L) limL QL 1090 [vr 1, vr 16, vr 127, vi i] [] (S0, I, RR P dr) := by
  obtain ⟨hs, hW, hG, hX⟩ := id hI
  refine s_ald (cn rfl kL_1090) rfl ?_
  refine argL (cn rfl kL_1091) (cn rfl kL_1092) (cn rfl kL_1093) (cn rfl kL_1094) (cn rfl kL_1095) (by omega) (by omega) ?_
  refine s_inv1 (lm := L0) (cn rfl kL_1096) rfl (Nat.le_of_ble_eq_true rfl) limL_ok (k121 (d := 93) hG hW agR) (fun o h1 hq => ?_)
  obtain ⟨P2, dr2, J, rfl, rfl, qG, qK⟩ := hq
  refine s_ald (cn rfl kL_1099) rfl ?_
  refine argL (cn rfl kL_1100) (cn rfl kL_1101) (cn rfl kL_1102) (cn rfl kL_1103) (cn rfl kL_1104) (by omega) (by omega) ?_
  refine s_inv1 (lm := L0) (cn rfl kL_1105) rfl (Nat.le_of_ble_eq_true rfl) limL_ok (r203 (d := 92) (hI.sk qK) hW agR) (fun o h1 hq => ?_)
  obtain ⟨J2, rfl, rfl, q1, q2⟩ := hq
  exact s_sam (cq rfl) (ih _ _ _ _ (hI.nx (go_Clo hW) qG qK q1 q2))
set_option maxRecDepth 20000 in
theorem opL_31 {xs : Nat → Int32} {L : Nat} {i : Int} {I σ : Nat → Int → Int} {P : Int → Nat} {dr g : Nat} (i0 : 0 ≤ i) (i1 : i + 7 ≤ L) (hg : g + 1 < 1000) (hI : InvL I σ P dr g) (ih : ∀ (J σ : Nat → Int → Int) (P : Int → Nat) (dr : Nat), InvL J σ P dr (g + 1) → wp (mcall MT CD 100) (cM xs L) limL QL 1195 [vr 1, vr 16, vr 127, vi i] [] (S0, J, RR P dr)) : wp (mcall MT CD 100) (cM xs L) limL QL 1113 [vr 1, vr 16, vr 127, vi i] [] (S0, I, RR P dr) := by
  obtain ⟨hs, hW, hG, hX⟩ := id hI
  refine s_ald (cn rfl kL_1113) rfl ?_
  refine argL (cn rfl kL_1114) (cn rfl kL_1115) (cn rfl kL_1116) (cn rfl kL_1117) (cn rfl kL_1118) (by omega) (by omega) ?_
  refine s_inv1 (lm := L0) (cn rfl kL_1119) rfl (Nat.le_of_ble_eq_true rfl) limL_ok (k122 (d := 98) hG hW agR) (fun o h1 hq => ?_)
  obtain ⟨J, rfl, rfl, qG, qK⟩ := hq
  refine s_ald (cn rfl kL_1122) rfl ?_
  refine argL (cn rfl kL_1123) (cn rfl kL_1124) (cn rfl kL_1125) (cn rfl kL_1126) (cn rfl kL_1127) (by omega) (by omega) ?_
  refine s_inv1 (lm := L0) (cn rfl kL_1128) rfl (Nat.le_of_ble_eq_true rfl) limL_ok (r204 (d := 98) (hI.sk qK) hW agR) (fun o h1 hq => ?_)
  obtain ⟨J2, rfl, rfl, q1, q2⟩ := hq
  exact s_sam (cq rfl) (ih _ _ _ _ (hI.nx (go_Acc hW) qG qK q1 q2))
set_option maxRecDepth 20000 in
theorem opL_32 {xs : Nat → Int32} {L : Nat} {i : Int} {I σ : Nat → Int → Int} {P : Int → Nat} {dr g : Nat} (i0 : 0 ≤ i) (i1 : i + 7 ≤ L) (hg : g + 1 < 1000) (hI : InvL I σ P dr g) (ih : ∀ (J σ : Nat → Int → Int) (P : Int → Nat) (dr : Nat), InvL J σ P dr (g + 1) → wp (mcall MT CD 100) (cM xs L) limL QL 1195 [vr 1, vr 16, vr 127, vi i] [] (S0, J, RR P dr)) : wp (mcall MT CD 100) (cM xs L) limL QL 1136 [vr 1, vr 16, vr 127, vi i] [] (S0, I, RR P dr) := by
  obtain ⟨hs, hW, hG, hX⟩ := id hI
  refine s_ald (cn rfl kL_1136) rfl ?_
  refine argL (cn rfl kL_1137) (cn rfl kL_1138) (cn rfl kL_1139) (cn rfl kL_1140) (cn rfl kL_1141) (by omega) (by omega) ?_
  refine s_inv1 (lm := L0) (cn rfl kL_1142) rfl (Nat.le_of_ble_eq_true rfl) limL_ok (k123 (d := 98) hG hW agR) (fun o h1 hq => ?_)
  obtain ⟨J, rfl, rfl, qG, qK⟩ := hq
  refine s_ald (cn rfl kL_1145) rfl ?_
  refine argL (cn rfl kL_1146) (cn rfl kL_1147) (cn rfl kL_1148) (cn rfl kL_1149) (cn rfl kL_1150) (by omega) (by omega) ?_
  refine s_inv1 (lm := L0) (cn rfl kL_1151) rfl (Nat.le_of_ble_eq_true rfl) limL_ok (r206 (d := 98) (hI.sk qK) hW agR) (fun o h1 hq => ?_)
  obtain ⟨J2, rfl, rfl, q1, q2⟩ := hq
  exact s_sam (cq rfl) (ih _ _ _ _ (hI.nx (go_Deb hW) qG qK q1 q2))
set_option maxRecDepth 20000 in
theorem opL_33 {xs : Nat → Int32} {L : Nat} {i : Int} {I σ : Nat → Int → Int} {P : Int → Nat} {dr g : Nat} (i0 : 0 ≤ i) (i1 : i + 7 ≤ L) (hg : g + 1 < 1000) (hI : InvL I σ P dr g) (ih : ∀ (J σ : Nat → Int → Int) (P : Int → Nat) (dr : Nat), InvL J σ P dr (g + 1) → wp (mcall MT CD 100) (cM xs L) limL QL 1195 [vr 1, vr 16, vr 127, vi i] [] (S0, J, RR P dr)) : wp (mcall MT CD 100) (cM xs L) limL QL 1159 [vr 1, vr 16, vr 127, vi i] [] (S0, I, RR P dr) := by
  obtain ⟨hs, hW, hG, hX⟩ := id hI
  refine s_ald (cn rfl kL_1159) rfl ?_
  refine s_inv0 (lm := L0) (cn rfl kL_1160) rfl (Nat.le_of_ble_eq_true rfl) limL_ok (k124 (d := 97) hG hW) (fun o h1 hq => ?_)
  obtain ⟨J, rfl, rfl, qG, qK⟩ := hq
  refine s_ald (cn rfl kL_1163) rfl ?_
  refine s_inv0 (lm := L0) (cn rfl kL_1164) rfl (Nat.le_of_ble_eq_true rfl) limL_ok (r207 (d := 98) (hI.sk qK) hW) (fun o h1 hq => ?_)
  obtain ⟨J2, rfl, rfl, q1, q2⟩ := hq
  exact s_sam (cq rfl) (ih _ _ _ _ (hI.nx (go_Nxt hW) qG qK q1 q2))
set_option maxRecDepth 20000 in
theorem opL_34 {xs : Nat → Int32} {L : Nat} {i : Int} {I σ : Nat → Int → Int} {P : Int → Nat} {dr g : Nat} (i0 : 0 ≤ i) (i1 : i + 7 ≤ L) (hg : g + 1 < 1000) (hI : InvL I σ P dr g) (ih : ∀ (J σ : Nat → Int → Int) (P : Int → Nat) (dr : Nat), InvL J σ P dr (g + 1) → wp (mcall MT CD 100) (cM xs L) limL QL 1195 [vr 1, vr 16, vr 127, vi i] [] (S0, J, RR P dr)) : wp (mcall MT CD 100) (cM xs L) limL QL 1172 [vr 1, vr 16, vr 127, vi i] [] (S0, I, RR P dr) := by
  obtain ⟨hs, hW, hG, hX⟩ := id hI
  refine s_ald (cn rfl kL_1172) rfl ?_
  refine argL (cn rfl kL_1173) (cn rfl kL_1174) (cn rfl kL_1175) (cn rfl kL_1176) (cn rfl kL_1177) (by omega) (by omega) ?_
  refine s_inv1 (lm := L0) (cn rfl kL_1178) rfl (Nat.le_of_ble_eq_true rfl) limL_ok (k125 (d := 99) hG hW agR) (fun o h1 hq => ?_)
  obtain ⟨J, rfl, rfl, qG, qK⟩ := hq
  refine s_ald (cn rfl kL_1181) rfl ?_
  refine argL (cn rfl kL_1182) (cn rfl kL_1183) (cn rfl kL_1184) (cn rfl kL_1185) (cn rfl kL_1186) (by omega) (by omega) ?_
  refine s_inv1 (lm := L0) (cn rfl kL_1187) rfl (Nat.le_of_ble_eq_true rfl) limL_ok (r208 (d := 99) (hI.sk qK) hW agR) (fun o h1 hq => ?_)
  obtain ⟨J2, rfl, rfl, q1, q2⟩ := hq
  exact s_sam (cq rfl) (ih _ _ _ _ (hI.nx (go_Cnt hW) qG qK q1 q2))
