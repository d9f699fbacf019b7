/-! the law: the steps, 2 -/
set_option maxRecDepth 20000 in
theorem opL_18 {xs : Nat → Int32} {L : Nat} {i : Int} {I σ : Nat → Int → Int} {P : Int → Nat} {dr g : Nat} (i0 : 0 ≤ i) (i1 : i + 7 ≤ L) (hg : g + 1 < 1000) (hI : InvL I σ P dr g) (ih : ∀ (J σ : Nat → Int → Int) (P : Int → Nat) (dr : Nat), InvL J σ P dr (g + 1) → wp (mcall MT CD 100) (cM xs L) limL QL 1195 [vr 1, vr 16, vr 127, vi i] [] (S0, J, RR P dr)) : wp (mcall MT CD 100) (cM xs L) limL QL 692 [vr 1, vr 16, vr 127, vi i] [] (S0, I, RR P dr) := by
  obtain ⟨hs, hW, hG, hX⟩ := id hI
  refine s_ald (cn rfl kL_692) rfl ?_
  refine argL (cn rfl kL_693) (cn rfl kL_694) (cn rfl kL_695) (cn rfl kL_696) (cn rfl kL_697) (by omega) (by omega) ?_
  refine s_inv1 (lm := L0) (cn rfl kL_698) rfl (Nat.le_of_ble_eq_true rfl) limL_ok (k109 (d := 90) hG hW hg hX agR) (fun o h1 hq => ?_)
  obtain ⟨J, rfl, rfl, qG, qK⟩ := hq
  refine s_ald (cn rfl kL_701) rfl ?_
  refine argL (cn rfl kL_702) (cn rfl kL_703) (cn rfl kL_704) (cn rfl kL_705) (cn rfl kL_706) (by omega) (by omega) ?_
  refine s_inv1 (lm := L0) (cn rfl kL_707) rfl (Nat.le_of_ble_eq_true rfl) limL_ok (r182 (d := 92) (hI.sb qG) hW agR) (fun o h1 hq => ?_)
  obtain ⟨J2, rfl, rfl, q1, q2⟩ := hq
  exact s_sam (cq rfl) (ih _ _ _ _ (hI.nd qG qK q1 q2))
set_option maxRecDepth 20000 in
theorem opL_19 {xs : Nat → Int32} {L : Nat} {i : Int} {I σ : Nat → Int → Int} {P : Int → Nat} {dr g : Nat} (i0 : 0 ≤ i) (i1 : i + 7 ≤ L) (hg : g + 1 < 1000) (hI : InvL I σ P dr g) (ih : ∀ (J σ : Nat → Int → Int) (P : Int → Nat) (dr : Nat), InvL J σ P dr (g + 1) → wp (mcall MT CD 100) (cM xs L) limL QL 1195 [vr 1, vr 16, vr 127, vi i] [] (S0, J, RR P dr)) : wp (mcall MT CD 100) (cM xs L) limL QL 715 [vr 1, vr 16, vr 127, vi i] [] (S0, I, RR P dr) := by
  obtain ⟨hs, hW, hG, hX⟩ := id hI
  refine s_ald (cn rfl kL_715) rfl ?_
  refine argL (cn rfl kL_716) (cn rfl kL_717) (cn rfl kL_718) (cn rfl kL_719) (cn rfl kL_720) (by omega) (by omega) ?_
  refine s_inv1 (lm := L0) (cn rfl kL_721) rfl (Nat.le_of_ble_eq_true rfl) limL_ok (k110 (d := 90) hG hW hg hX agR) (fun o h1 hq => ?_)
  obtain ⟨J, rfl, rfl, qG, qK⟩ := hq
  refine s_ald (cn rfl kL_724) rfl ?_
  refine argL (cn rfl kL_725) (cn rfl kL_726) (cn rfl kL_727) (cn rfl kL_728) (cn rfl kL_729) (by omega) (by omega) ?_
  refine s_inv1 (lm := L0) (cn rfl kL_730) rfl (Nat.le_of_ble_eq_true rfl) limL_ok (r184 (d := 92) (hI.sb qG) hW agR) (fun o h1 hq => ?_)
  obtain ⟨J2, rfl, rfl, q1, q2⟩ := hq
  exact s_sam (cq rfl) (ih _ _ _ _ (hI.nd qG qK q1 q2))
set_option maxRecDepth 20000 in
theorem opL_20 {xs : Nat → Int32} {L : Nat} {i : Int} {I σ : Nat → Int → Int} {P : Int → Nat} {dr g : Nat} (i0 : 0 ≤ i) (i1 : i + 7 ≤ L) (hg : g + 1 < 1000) (hI : InvL I σ P dr g) (ih : ∀ (J σ : Nat → Int → Int) (P : Int → Nat) (dr : Nat), InvL J σ P dr (g + 1) → wp (mcall MT CD 100) (cM xs L) limL QL 1195 [vr 1, vr 16, vr 127, vi i] [] (S0, J, RR P dr)) : wp (mcall MT CD 100) (cM xs L) limL QL 738 [vr 1, vr 16, vr 127, vi i] [] (S0, I, RR P dr) := by
  obtain ⟨hs, hW, hG, hX⟩ := id hI
  refine s_ald (cn rfl kL_738) rfl ?_
  refine argL (cn rfl kL_739) (cn rfl kL_740) (cn rfl kL_741) (cn rfl kL_742) (cn rfl kL_743) (by omega) (by omega) ?_
  refine s_inv1 (lm := L0) (cn rfl kL_744) rfl (Nat.le_of_ble_eq_true rfl) limL_ok (k111 (d := 90) hG hW hg hX agR) (fun o h1 hq => ?_)
  obtain ⟨J, rfl, rfl, qG, qK⟩ := hq
  refine s_ald (cn rfl kL_747) rfl ?_
  refine argL (cn rfl kL_748) (cn rfl kL_749) (cn rfl kL_750) (cn rfl kL_751) (cn rfl kL_752) (by omega) (by omega) ?_
  refine s_inv1 (lm := L0) (cn rfl kL_753) rfl (Nat.le_of_ble_eq_true rfl) limL_ok (r185 (d := 92) (hI.sb qG) hW agR) (fun o h1 hq => ?_)
  obtain ⟨J2, rfl, rfl, q1, q2⟩ := hq
  exact s_sam (cq rfl) (ih _ _ _ _ (hI.nd qG qK q1 q2))
set_option maxRecDepth 20000 in
theorem opL_21 {xs : Nat → Int32} {L : Nat} {i : Int} {I σ : Nat → Int → Int} {P : Int → Nat} {dr g : Nat} (i0 : 0 ≤ i) (i1 : i + 7 ≤ L) (hg : g + 1 < 1000) (hI : InvL I σ P dr g) (ih : ∀ (J σ : Nat → Int → Int) (P : Int → Nat) (dr : Nat), InvL J σ P dr (g + 1) → wp (mcall MT CD 100) (cM xs L) limL QL 1195 [vr 1, vr 16, vr 127, vi i] [] (S0, J, RR P dr)) : wp (mcall MT CD 100) (cM xs L) limL QL 761 [vr 1, vr 16, vr 127, vi i] [] (S0, I, RR P dr) := by
  obtain ⟨hs, hW, hG, hX⟩ := id hI
  refine s_ald (cn rfl kL_761) rfl ?_
  refine argL (cn rfl kL_762) (cn rfl kL_763) (cn rfl kL_764) (cn rfl kL_765) (cn rfl kL_766) (by omega) (by omega) ?_
  refine s_inv1 (lm := L0) (cn rfl kL_767) rfl (Nat.le_of_ble_eq_true rfl) limL_ok (k112 (d := 98) hG hW agR) (fun o h1 hq => ?_)
  obtain ⟨J, rfl, rfl, qG, qK⟩ := hq
  refine s_ald (cn rfl kL_770) rfl ?_
  refine argL (cn rfl kL_771) (cn rfl kL_772) (cn rfl kL_773) (cn rfl kL_774) (cn rfl kL_775) (by omega) (by omega) ?_
  refine s_inv1 (lm := L0) (cn rfl kL_776) rfl (Nat.le_of_ble_eq_true rfl) limL_ok (r186 (d := 98) (hI.sk qK) hW agR) (fun o h1 hq => ?_)
  obtain ⟨J2, rfl, rfl, q1, q2⟩ := hq
  exact s_sam (cq rfl) (ih _ _ _ _ (hI.nx (go_Agn hW) qG qK q1 q2))
set_option maxRecDepth 20000 in
theorem opL_22 {xs : Nat → Int32} {L : Nat} {i : Int} {I σ : Nat → Int → Int} {P : Int → Nat} {dr g : Nat} (i0 : 0 ≤ i) (i1 : i + 7 ≤ L) (hg : g + 1 < 1000) (hI : InvL I σ P dr g) (ih : ∀ (J σ : Nat → Int → Int) (P : Int → Nat) (dr : Nat), InvL J σ P dr (g + 1) → wp (mcall MT CD 100) (cM xs L) limL QL 1195 [vr 1, vr 16, vr 127, vi i] [] (S0, J, RR P dr)) : wp (mcall MT CD 100) (cM xs L) limL QL 784 [vr 1, vr 16, vr 127, vi i] [] (S0, I, RR P dr) := by
  obtain ⟨hs, hW, hG, hX⟩ := id hI
  refine s_ald (cn rfl kL_784) rfl ?_
  refine argL (cn rfl kL_785) (cn rfl kL_786) (cn rfl kL_787) (cn rfl kL_788) (cn rfl kL_789) (by omega) (by omega) ?_
  refine argL (cn rfl kL_790) (cn rfl kL_791) (cn rfl kL_792) (cn rfl kL_793) (cn rfl kL_794) (by omega) (by omega) ?_
  refine s_inv2 (lm := L0) (cn rfl kL_795) rfl (Nat.le_of_ble_eq_true rfl) limL_ok (k113 (d := 93) hG hW agR agR) (fun o h1 hq => ?_)
  obtain ⟨J, rfl, rfl, qG, qK⟩ := hq
  refine s_ald (cn rfl kL_798) rfl ?_
  refine argL (cn rfl kL_799) (cn rfl kL_800) (cn rfl kL_801) (cn rfl kL_802) (cn rfl kL_803) (by omega) (by omega) ?_
  refine argL (cn rfl kL_804) (cn rfl kL_805) (cn rfl kL_806) (cn rfl kL_807) (cn rfl kL_808) (by omega) (by omega) ?_
  refine s_inv2 (lm := L0) (cn rfl kL_809) rfl (Nat.le_of_ble_eq_true rfl) limL_ok (r192 (d := 92) (hI.sk qK) hW agR agR) (fun o h1 hq => ?_)
  obtain ⟨J2, rfl, rfl, q1, q2⟩ := hq
  exact s_sam (cq rfl) (ih _ _ _ _ (hI.nx (go_Wat hW) qG qK q1 q2))
set_option maxRecDepth 20000 in
theorem opL_23 {xs : Nat → Int32} {L : Nat} {i : Int} {I σ : Nat → Int → Int} {P : Int → Nat} {dr g : Nat} (i0 : 0 ≤ i) (i1 : i + 7 ≤ L) (hg : g + 1 < 1000) (hI : InvL I σ P dr g) (ih : ∀ (J σ : Nat → Int → Int) (P : Int → Nat) (dr : Nat), InvL J σ P dr (g + 1) → wp (mcall MT CD 100) (cM xs L) limL QL 1195 [vr 1, vr 16, vr 127, vi i] [] (S0, J, RR P dr)) : wp (mcall MT CD 100) (cM xs L) limL QL 817 [vr 1, vr 16, vr 127, vi i] [] (S0, I, RR P dr) := by
  obtain ⟨hs, hW, hG, hX⟩ := id hI
  refine s_ald (cn rfl kL_817) rfl ?_
  refine argL (cn rfl kL_818) (cn rfl kL_819) (cn rfl kL_820) (cn rfl kL_821) (cn rfl kL_822) (by omega) (by omega) ?_
  refine argL (cn rfl kL_823) (cn rfl kL_824) (cn rfl kL_825) (cn rfl kL_826) (cn rfl kL_827) (by omega) (by omega) ?_
  refine argL (cn rfl kL_828) (cn rfl kL_829) (cn rfl kL_830) (cn rfl kL_831) (cn rfl kL_832) (by omega) (by omega) ?_
  refine s_inv3 (lm := L0) (cn rfl kL_833) rfl (Nat.le_of_ble_eq_true rfl) limL_ok (k114 (d := 93) hG hW agR agR agR) (fun o h1 hq => ?_)
  obtain ⟨J, rfl, rfl, qG, qK⟩ := hq
  refine s_ald (cn rfl kL_836) rfl ?_
  refine argL (cn rfl kL_837) (cn rfl kL_838) (cn rfl kL_839) (cn rfl kL_840) (cn rfl kL_841) (by omega) (by omega) ?_
  refine argL (cn rfl kL_842) (cn rfl kL_843) (cn rfl kL_844) (cn rfl kL_845) (cn rfl kL_846) (by omega) (by omega) ?_
  refine argL (cn rfl kL_847) (cn rfl kL_848) (cn rfl kL_849) (cn rfl kL_850) (cn rfl kL_851) (by omega) (by omega) ?_
  refine s_inv3 (lm := L0) (cn rfl kL_852) rfl (Nat.le_of_ble_eq_true rfl) limL_ok (r193 (d := 92) (hI.sk qK) hW agR agR agR) (fun o h1 hq => ?_)
  obtain ⟨J2, rfl, rfl, q1, q2⟩ := hq
  exact s_sam (cq rfl) (ih _ _ _ _ (hI.nx (go_Log hW) qG qK q1 q2))
set_option maxRecDepth 20000 in
theorem opL_24 {xs : Nat → Int32} {L : Nat} {i : Int} {I σ : Nat → Int → Int} {P : Int → Nat} {dr g : Nat} (i0 : 0 ≤ i) (i1 : i + 7 ≤ L) (hg : g + 1 < 1000) (hI : InvL I σ P dr g) (ih : ∀ (J σ : Nat → Int → Int) (P : Int → Nat) (dr : Nat), InvL J σ P dr (g + 1) → wp (mcall MT CD 100) (cM xs L) limL QL 1195 [vr 1, vr 16, vr 127, vi i] [] (S0, J, RR P dr)) : wp (mcall MT CD 100) (cM xs L) limL QL 860 [vr 1, vr 16, vr 127, vi i] [] (S0, I, RR P dr) := by
  obtain ⟨hs, hW, hG, hX⟩ := id hI
  refine s_ald (cn rfl kL_860) rfl ?_
  refine argL (cn rfl kL_861) (cn rfl kL_862) (cn rfl kL_863) (cn rfl kL_864) (cn rfl kL_865) (by omega) (by omega) ?_
  refine argL (cn rfl kL_866) (cn rfl kL_867) (cn rfl kL_868) (cn rfl kL_869) (cn rfl kL_870) (by omega) (by omega) ?_
  refine argL (cn rfl kL_871) (cn rfl kL_872) (cn rfl kL_873) (cn rfl kL_874) (cn rfl kL_875) (by omega) (by omega) ?_
  refine argL (cn rfl kL_876) (cn rfl kL_877) (cn rfl kL_878) (cn rfl kL_879) (cn rfl kL_880) (by omega) (by omega) ?_
  refine s_inv4 (lm := L0) (cn rfl kL_881) rfl (Nat.le_of_ble_eq_true rfl) limL_ok (k115 (d := 93) hG hW agR agR agR agR) (fun o h1 hq => ?_)
  obtain ⟨J, rfl, rfl, qG, qK⟩ := hq
  refine s_ald (cn rfl kL_884) rfl ?_
  refine argL (cn rfl kL_885) (cn rfl kL_886) (cn rfl kL_887) (cn rfl kL_888) (cn rfl kL_889) (by omega) (by omega) ?_
  refine argL (cn rfl kL_890) (cn rfl kL_891) (cn rfl kL_892) (cn rfl kL_893) (cn rfl kL_894) (by omega) (by omega) ?_
  refine argL (cn rfl kL_895) (cn rfl kL_896) (cn rfl kL_897) (cn rfl kL_898) (cn rfl kL_899) (by omega) (by omega) ?_
  refine argL (cn rfl kL_900) (cn rfl kL_901) (cn rfl kL_902) (cn rfl kL_903) (cn rfl kL_904) (by omega) (by omega) ?_
  refine s_inv4 (lm := L0) (cn rfl kL_905) rfl (Nat.le_of_ble_eq_true rfl) limL_ok (r194 (d := 92) (hI.sk qK) hW agR agR agR agR) (fun o h1 hq => ?_)
  obtain ⟨J2, rfl, rfl, q1, q2⟩ := hq
  exact s_sam (cq rfl) (ih _ _ _ _ (hI.nx (go_Sta hW) qG qK q1 q2))
set_option maxRecDepth 20000 in
theorem opL_25 {xs : Nat → Int32} {L : Nat} {i : Int} {I σ : Nat → Int → Int} {P : Int → Nat} {dr g : Nat} (i0 : 0 ≤ i) (i1 : i + 7 ≤ L) (hg : g + 1 < 1000) (hI : InvL I σ P dr g) (ih : ∀ (J σ : Nat → Int → Int) (P : Int → Nat) (dr : Nat), InvL J σ P dr (g + 1) → wp (mcall MT CD 100) (cM xs L) limL QL 1195 [vr 1, vr 16, vr 127, vi i] [] (S0, J, RR P dr)) : wp (mcall MT CD 100) (cM xs L) limL QL 913 [vr 1, vr 16, vr 127, vi i] [] (S0, I, RR P dr) := by
  obtain ⟨hs, hW, hG, hX⟩ := id hI
  refine s_ald (cn rfl kL_913) rfl ?_
  refine argL (cn rfl kL_914) (cn rfl kL_915) (cn rfl kL_916) (cn rfl kL_917) (cn rfl kL_918) (by omega) (by omega) ?_
  refine argL (cn rfl kL_919) (cn rfl kL_920) (cn rfl kL_921) (cn rfl kL_922) (cn rfl kL_923) (by omega) (by omega) ?_
  refine s_inv2 (lm := L0) (cn rfl kL_924) rfl (Nat.le_of_ble_eq_true rfl) limL_ok (k116 (d := 92) hG hW agR agR) (fun o h1 hq => ?_)
  obtain ⟨J, rfl, rfl, qG, qK⟩ := hq
  refine s_ald (cn rfl kL_927) rfl ?_
  refine argL (cn rfl kL_928) (cn rfl kL_929) (cn rfl kL_930) (cn rfl kL_931) (cn rfl kL_932) (by omega) (by omega) ?_
  refine argL (cn rfl kL_933) (cn rfl kL_934) (cn rfl kL_935) (cn rfl kL_936) (cn rfl kL_937) (by omega) (by omega) ?_
  refine s_inv2 (lm := L0) (cn rfl kL_938) rfl (Nat.le_of_ble_eq_true rfl) limL_ok (r197 (d := 91) (hI.sk qK) hW agR agR) (fun o h1 hq => ?_)
  obtain ⟨J2, rfl, rfl, q1, q2⟩ := hq
  exact s_sam (cq rfl) (ih _ _ _ _ (hI.nx (go_Val hW) qG qK q1 q2))
set_option maxRecDepth 20000 in
theorem opL_26 {xs : Nat → Int32} {L : Nat} {i : Int} {I σ : Nat → Int → Int} {P : Int → Nat} {dr g : Nat} (i0 : 0 ≤ i) (i1 : i + 7 ≤ L) (hg : g + 1 < 1000) (hI : InvL I σ P dr g) (ih : ∀ (J σ : Nat → Int → Int) (P : Int → Nat) (dr : Nat), InvL J σ P dr (g + 1) → wp (mcall MT CD 100) (cM xs L) limL QL 1195 [vr 1, vr 16, vr 127, vi i] [] (S0, J, RR P dr)) : wp (mcall MT CD 100) (cM xs L) limL QL 946 [vr 1, vr 16, vr 127, vi i] [] (S0, I, RR P dr) := by
  obtain ⟨hs, hW, hG, hX⟩ := id hI
  refine s_ald (cn rfl kL_946) rfl ?_
  refine argL (cn rfl kL_947) (cn rfl kL_948) (cn rfl kL_949) (cn rfl kL_950) (cn rfl kL_951) (by omega) (by omega) ?_
  refine s_inv1 (lm := L0) (cn rfl kL_952) rfl (Nat.le_of_ble_eq_true rfl) limL_ok (k117 (d := 93) hG hW agR) (fun o h1 hq => ?_)
  obtain ⟨J, rfl, rfl, qG, qK⟩ := hq
  refine s_ald (cn rfl kL_955) rfl ?_
  refine argL (cn rfl kL_956) (cn rfl kL_957) (cn rfl kL_958) (cn rfl kL_959) (cn rfl kL_960) (by omega) (by omega) ?_
  refine s_inv1 (lm := L0) (cn rfl kL_961) rfl (Nat.le_of_ble_eq_true rfl) limL_ok (r198 (d := 92) (hI.sk qK) hW agR) (fun o h1 hq => ?_)
  obtain ⟨J2, rfl, rfl, q1, q2⟩ := hq
  exact s_sam (cq rfl) (ih _ _ _ _ (hI.nx (go_Sur hW) qG qK q1 q2))
