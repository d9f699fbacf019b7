/-! the law: the steps, 1 -/
set_option maxRecDepth 20000 in
theorem opL_9 {xs : Nat → Int32} {L : Nat} {i : Int} {I σ : Nat → Int → Int} {P : Int → Nat} {dr g : Nat} (i0 : 0 ≤ i) (i1 : i + 7 ≤ L) (hg : g + 1 < 1000) (hI : InvL I σ P dr g) (ih : ∀ (J σ : Nat → Int → Int) (P : Int → Nat) (dr : Nat), InvL J σ P dr (g + 1) → wp (mcall MT CD 100) (cM xs L) limL QL 1195 [vr 1, vr 16, vr 127, vi i] [] (S0, J, RR P dr)) : wp (mcall MT CD 100) (cM xs L) limL QL 485 [vr 1, vr 16, vr 127, vi i] [] (S0, I, RR P dr) := by
  obtain ⟨hs, hW, hG, hX⟩ := id hI
  refine s_ald (cn rfl kL_485) rfl ?_
  refine s_inv0 (lm := L0) (cn rfl kL_486) rfl (Nat.le_of_ble_eq_true rfl) limL_ok (k100 (d := 95) hG hW) (fun o h1 hq => ?_)
  obtain ⟨J, rfl, rfl, qG, qK⟩ := hq
  refine s_ald (cn rfl kL_489) rfl ?_
  refine s_inv0 (lm := L0) (cn rfl kL_490) rfl (Nat.le_of_ble_eq_true rfl) limL_ok (r158 (d := 95) (hI.sk qK) hW) (fun o h1 hq => ?_)
  obtain ⟨J2, rfl, rfl, q1, q2⟩ := hq
  exact s_sam (cq rfl) (ih _ _ _ _ (hI.nx (go_Fau hW) qG qK q1 q2))
set_option maxRecDepth 20000 in
theorem opL_10 {xs : Nat → Int32} {L : Nat} {i : Int} {I σ : Nat → Int → Int} {P : Int → Nat} {dr g : Nat} (i0 : 0 ≤ i) (i1 : i + 7 ≤ L) (hg : g + 1 < 1000) (hI : InvL I σ P dr g) (ih : ∀ (J σ : Nat → Int → Int) (P : Int → Nat) (dr : Nat), InvL J σ P dr (g + 1) → wp (mcall MT CD 100) (cM xs L) limL QL 1195 [vr 1, vr 16, vr 127, vi i] [] (S0, J, RR P dr)) : wp (mcall MT CD 100) (cM xs L) limL QL 498 [vr 1, vr 16, vr 127, vi i] [] (S0, I, RR P dr) := by
  obtain ⟨hs, hW, hG, hX⟩ := id hI
  refine s_ald (cn rfl kL_498) rfl ?_
  refine s_inv0 (lm := L0) (cn rfl kL_499) rfl (Nat.le_of_ble_eq_true rfl) limL_ok (k101 (d := 95) hG hW) (fun o h1 hq => ?_)
  obtain ⟨J, rfl, rfl, qG, qK⟩ := hq
  refine s_ald (cn rfl kL_502) rfl ?_
  refine s_inv0 (lm := L0) (cn rfl kL_503) rfl (Nat.le_of_ble_eq_true rfl) limL_ok (r159 (d := 95) (hI.sk qK) hW) (fun o h1 hq => ?_)
  obtain ⟨J2, rfl, rfl, q1, q2⟩ := hq
  exact s_sam (cq rfl) (ih _ _ _ _ (hI.nx (go_Std hW) qG qK q1 q2))
set_option maxRecDepth 20000 in
theorem opL_11 {xs : Nat → Int32} {L : Nat} {i : Int} {I σ : Nat → Int → Int} {P : Int → Nat} {dr g : Nat} (i0 : 0 ≤ i) (i1 : i + 7 ≤ L) (hg : g + 1 < 1000) (hI : InvL I σ P dr g) (ih : ∀ (J σ : Nat → Int → Int) (P : Int → Nat) (dr : Nat), InvL J σ P dr (g + 1) → wp (mcall MT CD 100) (cM xs L) limL QL 1195 [vr 1, vr 16, vr 127, vi i] [] (S0, J, RR P dr)) : wp (mcall MT CD 100) (cM xs L) limL QL 511 [vr 1, vr 16, vr 127, vi i] [] (S0, I, RR P dr) := by
  obtain ⟨hs, hW, hG, hX⟩ := id hI
  refine s_ald (cn rfl kL_511) rfl ?_
  refine s_inv0 (lm := L0) (cn rfl kL_512) rfl (Nat.le_of_ble_eq_true rfl) limL_ok (k102 (d := 95) hG hW) (fun o h1 hq => ?_)
  obtain ⟨P2, dr2, J, rfl, rfl, qG, qK⟩ := hq
  refine s_ald (cn rfl kL_515) rfl ?_
  refine s_inv0 (lm := L0) (cn rfl kL_516) rfl (Nat.le_of_ble_eq_true rfl) limL_ok (r160 (d := 95) (hI.sk qK) hW) (fun o h1 hq => ?_)
  obtain ⟨J2, rfl, rfl, q1, q2⟩ := hq
  exact s_sam (cq rfl) (ih _ _ _ _ (hI.nx (go_Pln hW) qG qK q1 q2))
set_option maxRecDepth 20000 in
theorem opL_12 {xs : Nat → Int32} {L : Nat} {i : Int} {I σ : Nat → Int → Int} {P : Int → Nat} {dr g : Nat} (i0 : 0 ≤ i) (i1 : i + 7 ≤ L) (hg : g + 1 < 1000) (hI : InvL I σ P dr g) (ih : ∀ (J σ : Nat → Int → Int) (P : Int → Nat) (dr : Nat), InvL J σ P dr (g + 1) → wp (mcall MT CD 100) (cM xs L) limL QL 1195 [vr 1, vr 16, vr 127, vi i] [] (S0, J, RR P dr)) : wp (mcall MT CD 100) (cM xs L) limL QL 524 [vr 1, vr 16, vr 127, vi i] [] (S0, I, RR P dr) := by
  obtain ⟨hs, hW, hG, hX⟩ := id hI
  refine s_ald (cn rfl kL_524) rfl ?_
  refine argL (cn rfl kL_525) (cn rfl kL_526) (cn rfl kL_527) (cn rfl kL_528) (cn rfl kL_529) (by omega) (by omega) ?_
  refine s_inv1 (lm := L0) (cn rfl kL_530) rfl (Nat.le_of_ble_eq_true rfl) limL_ok (k103 (d := 97) hG hW agR) (fun o h1 hq => ?_)
  obtain ⟨P2, dr2, J, rfl, rfl, qG, qK⟩ := hq
  refine s_ald (cn rfl kL_533) rfl ?_
  refine argL (cn rfl kL_534) (cn rfl kL_535) (cn rfl kL_536) (cn rfl kL_537) (cn rfl kL_538) (by omega) (by omega) ?_
  refine s_inv1 (lm := L0) (cn rfl kL_539) rfl (Nat.le_of_ble_eq_true rfl) limL_ok (r162 (d := 97) (hI.sk qK) hW agR) (fun o h1 hq => ?_)
  obtain ⟨J2, rfl, rfl, q1, q2⟩ := hq
  exact s_sam (cq rfl) (ih _ _ _ _ (hI.nx (go_Drp hW) qG qK q1 q2))
set_option maxRecDepth 20000 in
theorem opL_13 {xs : Nat → Int32} {L : Nat} {i : Int} {I σ : Nat → Int → Int} {P : Int → Nat} {dr g : Nat} (i0 : 0 ≤ i) (i1 : i + 7 ≤ L) (hg : g + 1 < 1000) (hI : InvL I σ P dr g) (ih : ∀ (J σ : Nat → Int → Int) (P : Int → Nat) (dr : Nat), InvL J σ P dr (g + 1) → wp (mcall MT CD 100) (cM xs L) limL QL 1195 [vr 1, vr 16, vr 127, vi i] [] (S0, J, RR P dr)) : wp (mcall MT CD 100) (cM xs L) limL QL 547 [vr 1, vr 16, vr 127, vi i] [] (S0, I, RR P dr) := by
  obtain ⟨hs, hW, hG, hX⟩ := id hI
  refine s_ald (cn rfl kL_547) rfl ?_
  refine argL (cn rfl kL_548) (cn rfl kL_549) (cn rfl kL_550) (cn rfl kL_551) (cn rfl kL_552) (by omega) (by omega) ?_
  refine argL (cn rfl kL_553) (cn rfl kL_554) (cn rfl kL_555) (cn rfl kL_556) (cn rfl kL_557) (by omega) (by omega) ?_
  refine s_inv2 (lm := L0) (cn rfl kL_558) rfl (Nat.le_of_ble_eq_true rfl) limL_ok (k104 (d := 98) hG hW agR agR) (fun o h1 hq => ?_)
  obtain ⟨J, rfl, rfl, qG, qK⟩ := hq
  refine s_ald (cn rfl kL_561) rfl ?_
  refine argL (cn rfl kL_562) (cn rfl kL_563) (cn rfl kL_564) (cn rfl kL_565) (cn rfl kL_566) (by omega) (by omega) ?_
  refine argL (cn rfl kL_567) (cn rfl kL_568) (cn rfl kL_569) (cn rfl kL_570) (cn rfl kL_571) (by omega) (by omega) ?_
  refine s_inv2 (lm := L0) (cn rfl kL_572) rfl (Nat.le_of_ble_eq_true rfl) limL_ok (r163 (d := 97) (hI.sk qK) hW agR agR) (fun o h1 hq => ?_)
  obtain ⟨J2, rfl, rfl, q1, q2⟩ := hq
  exact s_sam (cq rfl) (ih _ _ _ _ (hI.nx (go_Tol hW) qG qK q1 q2))
set_option maxRecDepth 20000 in
theorem opL_14 {xs : Nat → Int32} {L : Nat} {i : Int} {I σ : Nat → Int → Int} {P : Int → Nat} {dr g : Nat} (i0 : 0 ≤ i) (i1 : i + 7 ≤ L) (hg : g + 1 < 1000) (hI : InvL I σ P dr g) (ih : ∀ (J σ : Nat → Int → Int) (P : Int → Nat) (dr : Nat), InvL J σ P dr (g + 1) → wp (mcall MT CD 100) (cM xs L) limL QL 1195 [vr 1, vr 16, vr 127, vi i] [] (S0, J, RR P dr)) : wp (mcall MT CD 100) (cM xs L) limL QL 580 [vr 1, vr 16, vr 127, vi i] [] (S0, I, RR P dr) := by
  obtain ⟨hs, hW, hG, hX⟩ := id hI
  refine s_ald (cn rfl kL_580) rfl ?_
  refine argL (cn rfl kL_581) (cn rfl kL_582) (cn rfl kL_583) (cn rfl kL_584) (cn rfl kL_585) (by omega) (by omega) ?_
  refine argL (cn rfl kL_586) (cn rfl kL_587) (cn rfl kL_588) (cn rfl kL_589) (cn rfl kL_590) (by omega) (by omega) ?_
  refine s_inv2 (lm := L0) (cn rfl kL_591) rfl (Nat.le_of_ble_eq_true rfl) limL_ok (k105 (d := 98) hG hW agR agR) (fun o h1 hq => ?_)
  obtain ⟨J, rfl, rfl, qG, qK⟩ := hq
  refine s_ald (cn rfl kL_594) rfl ?_
  refine argL (cn rfl kL_595) (cn rfl kL_596) (cn rfl kL_597) (cn rfl kL_598) (cn rfl kL_599) (by omega) (by omega) ?_
  refine argL (cn rfl kL_600) (cn rfl kL_601) (cn rfl kL_602) (cn rfl kL_603) (cn rfl kL_604) (by omega) (by omega) ?_
  refine s_inv2 (lm := L0) (cn rfl kL_605) rfl (Nat.le_of_ble_eq_true rfl) limL_ok (r164 (d := 97) (hI.sk qK) hW agR agR) (fun o h1 hq => ?_)
  obtain ⟨J2, rfl, rfl, q1, q2⟩ := hq
  exact s_sam (cq rfl) (ih _ _ _ _ (hI.nx (go_Wor hW) qG qK q1 q2))
set_option maxRecDepth 20000 in
theorem opL_15 {xs : Nat → Int32} {L : Nat} {i : Int} {I σ : Nat → Int → Int} {P : Int → Nat} {dr g : Nat} (i0 : 0 ≤ i) (i1 : i + 7 ≤ L) (hg : g + 1 < 1000) (hI : InvL I σ P dr g) (ih : ∀ (J σ : Nat → Int → Int) (P : Int → Nat) (dr : Nat), InvL J σ P dr (g + 1) → wp (mcall MT CD 100) (cM xs L) limL QL 1195 [vr 1, vr 16, vr 127, vi i] [] (S0, J, RR P dr)) : wp (mcall MT CD 100) (cM xs L) limL QL 613 [vr 1, vr 16, vr 127, vi i] [] (S0, I, RR P dr) := by
  obtain ⟨hs, hW, hG, hX⟩ := id hI
  refine s_ald (cn rfl kL_613) rfl ?_
  refine argL (cn rfl kL_614) (cn rfl kL_615) (cn rfl kL_616) (cn rfl kL_617) (cn rfl kL_618) (by omega) (by omega) ?_
  refine s_inv1 (lm := L0) (cn rfl kL_619) rfl (Nat.le_of_ble_eq_true rfl) limL_ok (k106 (d := 90) hG hW hg hX agR) (fun o h1 hq => ?_)
  obtain ⟨J, rfl, rfl, qG, qK⟩ := hq
  refine s_ald (cn rfl kL_622) rfl ?_
  refine argL (cn rfl kL_623) (cn rfl kL_624) (cn rfl kL_625) (cn rfl kL_626) (cn rfl kL_627) (by omega) (by omega) ?_
  refine s_inv1 (lm := L0) (cn rfl kL_628) rfl (Nat.le_of_ble_eq_true rfl) limL_ok (r173 (d := 93) (hI.sb qG) hW agR) (fun o h1 hq => ?_)
  obtain ⟨J2, rfl, rfl, q1, q2⟩ := hq
  exact s_sam (cq rfl) (ih _ _ _ _ (hI.nd qG qK q1 q2))
set_option maxRecDepth 20000 in
theorem opL_16 {xs : Nat → Int32} {L : Nat} {i : Int} {I σ : Nat → Int → Int} {P : Int → Nat} {dr g : Nat} (i0 : 0 ≤ i) (i1 : i + 7 ≤ L) (hg : g + 1 < 1000) (hI : InvL I σ P dr g) (ih : ∀ (J σ : Nat → Int → Int) (P : Int → Nat) (dr : Nat), InvL J σ P dr (g + 1) → wp (mcall MT CD 100) (cM xs L) limL QL 1195 [vr 1, vr 16, vr 127, vi i] [] (S0, J, RR P dr)) : wp (mcall MT CD 100) (cM xs L) limL QL 636 [vr 1, vr 16, vr 127, vi i] [] (S0, I, RR P dr) := by
  obtain ⟨hs, hW, hG, hX⟩ := id hI
  refine s_ald (cn rfl kL_636) rfl ?_
  refine argL (cn rfl kL_637) (cn rfl kL_638) (cn rfl kL_639) (cn rfl kL_640) (cn rfl kL_641) (by omega) (by omega) ?_
  refine argL (cn rfl kL_642) (cn rfl kL_643) (cn rfl kL_644) (cn rfl kL_645) (cn rfl kL_646) (by omega) (by omega) ?_
  refine s_inv2 (lm := L0) (cn rfl kL_647) rfl (Nat.le_of_ble_eq_true rfl) limL_ok (k107 (d := 90) hG hW hg hX agR agR) (fun o h1 hq => ?_)
  obtain ⟨J, rfl, rfl, qG, qK⟩ := hq
  refine s_ald (cn rfl kL_650) rfl ?_
  refine argL (cn rfl kL_651) (cn rfl kL_652) (cn rfl kL_653) (cn rfl kL_654) (cn rfl kL_655) (by omega) (by omega) ?_
  refine argL (cn rfl kL_656) (cn rfl kL_657) (cn rfl kL_658) (cn rfl kL_659) (cn rfl kL_660) (by omega) (by omega) ?_
  refine s_inv2 (lm := L0) (cn rfl kL_661) rfl (Nat.le_of_ble_eq_true rfl) limL_ok (r174 (d := 93) (hI.sb qG) hW agR agR) (fun o h1 hq => ?_)
  obtain ⟨J2, rfl, rfl, q1, q2⟩ := hq
  exact s_sam (cq rfl) (ih _ _ _ _ (hI.nd qG qK q1 q2))
set_option maxRecDepth 20000 in
theorem opL_17 {xs : Nat → Int32} {L : Nat} {i : Int} {I σ : Nat → Int → Int} {P : Int → Nat} {dr g : Nat} (i0 : 0 ≤ i) (i1 : i + 7 ≤ L) (hg : g + 1 < 1000) (hI : InvL I σ P dr g) (ih : ∀ (J σ : Nat → Int → Int) (P : Int → Nat) (dr : Nat), InvL J σ P dr (g + 1) → wp (mcall MT CD 100) (cM xs L) limL QL 1195 [vr 1, vr 16, vr 127, vi i] [] (S0, J, RR P dr)) : wp (mcall MT CD 100) (cM xs L) limL QL 669 [vr 1, vr 16, vr 127, vi i] [] (S0, I, RR P dr) := by
  obtain ⟨hs, hW, hG, hX⟩ := id hI
  refine s_ald (cn rfl kL_669) rfl ?_
  refine argL (cn rfl kL_670) (cn rfl kL_671) (cn rfl kL_672) (cn rfl kL_673) (cn rfl kL_674) (by omega) (by omega) ?_
  refine s_inv1 (lm := L0) (cn rfl kL_675) rfl (Nat.le_of_ble_eq_true rfl) limL_ok (k108 (d := 90) hG hW hg hX agR) (fun o h1 hq => ?_)
  obtain ⟨J, rfl, rfl, qG, qK⟩ := hq
  refine s_ald (cn rfl kL_678) rfl ?_
  refine argL (cn rfl kL_679) (cn rfl kL_680) (cn rfl kL_681) (cn rfl kL_682) (cn rfl kL_683) (by omega) (by omega) ?_
  refine s_inv1 (lm := L0) (cn rfl kL_684) rfl (Nat.le_of_ble_eq_true rfl) limL_ok (r181 (d := 92) (hI.sb qG) hW agR) (fun o h1 hq => ?_)
  obtain ⟨J2, rfl, rfl, q1, q2⟩ := hq
  exact s_sam (cq rfl) (ih _ _ _ _ (hI.nd qG qK q1 q2))
