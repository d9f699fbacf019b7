/-! the best night: alert, the public method of the reference -/
set_option maxRecDepth 20000 in
theorem c200 {d : Nat} {I : Nat → Int → Int} {P : Int → Nat} {dr : Nat} {σ : Nat → Int → Int} (hN : WFn σ) (hP : WFp σ) (hs : sig I = σ) {t v m r d2 : Int} {K : Nat} (t0 : 0 ≤ t) (t1 : t < σ 127 2) (v0 : 1000 ≤ v) (v1 : v ≤ 4999) (hKv : v.tdiv 1000 = (K : Int)) (hmv : (v.tdiv 100).tmod 10 = m) (hrv : (v.tdiv 10).tmod 10 = r) (hdv : v.tmod 10 = d2) (hm2 : 0 ≤ m ∧ m ≤ 3) (hr2 : 0 ≤ r ∧ r ≤ 8) (hd2 : 0 ≤ d2 ∧ d2 ≤ 1) (k1 : 1 ≤ K) (k4 : K ≤ 4) {i fr to : Nat} (hi3 : i < 3) (hft : fr ≤ to) (hto : (to : Int) < σ 127 0) : cal (d + 8) 200 [vr 127, vi t, vi (i : Int), vi v, vi (fr : Int), vi (to : Int)] I P dr (fun o h => o = none ∧ ∃ J, h = (S0, J, RR P dr) ∧ sig J = σ ∧ (∀ a k, a < 127 → J a k = I a k) ∧ ALs σ t m r d2 K i fr (to + 1) (J 127 40) (J 127 41)) := by
  refine cal_in (Nat.le_of_ble_eq_true rfl) ?_
  have bp := hP.1
  have b0 := hN.1
  have hnp : nP σ = (σ 127 21).toNat := rfl
  show wp _ _ _ _ 0 [vr 127, vi t, vi (i : Int), vi v, vi (fr : Int), vi (to : Int), vj, vj, vj, vj, vj, vj] [] _
  refine s_ald k200_0 rfl ?_
  refine z_inv0 k200_1 rfl (Nat.le_of_ble_eq_true rfl) (c177 hs hN hP) (fun o h1 hq => ?_)
  obtain ⟨rfl, J1, rfl, gF, gV⟩ := hq
  refine s_ald k200_4 rfl ?_
  refine z_inv0 k200_5 rfl (Nat.le_of_ble_eq_true rfl) (c178 hN hP gV) (fun o h1 hq => ?_)
  obtain ⟨rfl, J, e, rfl, hV, hF, hBI, hB⟩ := hq
  have hbc := bC_is hB
  have hbw := bw_b hP (some e)
  have hlo : ∀ a k, a < 127 → J a k = I a k := fun a k hk => (hF a k (by omega) (by omega)).trans (gF a k (by omega))
  refine s_ald k200_8 rfl ?_
  refine z_getIe (z := WSc σ e) k200_9 rfl hBI.1 ?_
  refine s_ist6 k200_12 rfl ?_
  refine s_ald k200_14 rfl ?_
  refine z_push k200_15 ?_
  refine z_putIe (q := 40) k200_16 rfl rfl ?_
  refine s_ald k200_19 rfl ?_
  refine z_push k200_20 ?_
  refine z_putIe (q := 41) k200_21 rfl rfl ?_
  refine s_ild k200_24 rfl ?_
  refine s_ist7 k200_26 rfl ?_
  have u2 : upI (upI J 127 40 (-1)) 127 41 (-1) 127 40 = -1 := (up_nk (by decide)).trans up_at
  have u3 : upI (upI J 127 40 (-1)) 127 41 (-1) 127 41 = -1 := up_at
  have heb := (sum_b hP (c := e) (nP σ) (by omega)).1
  have hee : WSc σ e = sumC (lnS σ) (wS σ) e (nP σ) := rfl
  refine lp200o hN hP t0 t1 v0 v1 hKv hmv hrv hdv hm2 hr2 hd2 k1 k4 hi3 hft hto (sumC_eq (nP σ) hbc) (by omega) (bC_isB hB) (to + 1 - fr) fr _ _ _ _ _ _ (by omega) (Nat.le_refl _) (hV.n ((sig_no rfl).trans ((sig_no rfl).trans hV.1)) (fun a q h => (up_ne h).trans (up_ne h))) (fun a k h => (up_ne (by omega)).trans ((up_ne (by omega)).trans (hlo a k h))) ?_ (by rw [u2]; decide) (by rw [u3]; decide)
  rw [u2, u3]
  exact ALp.z
set_option maxRecDepth 20000 in
theorem r201 {d : Nat} {I : Nat → Int → Int} {P : Int → Nat} {dr : Nat} {σ : Nat → Int → Int} (hs : sig I = σ) (hW : WFs σ) {t i v fr to w : Int} (i_t : inR t) (i_i : inR i) (i_v : inR v) (i_fr : inR fr) (i_to : inR to) (i_w : inR w) : cal (d + 9) 201 [vr 127, vi t, vi i, vi v, vi fr, vi to, vi w] I P dr (refD (xAlt σ t i v fr to w) σ I P dr) := by
  refine cal_in (Nat.le_of_ble_eq_true rfl) ?_
  obtain ⟨hN, hT, hP, hA, hL⟩ := id hW
  have b0 := hN.1
  have b1 := hN.2.1
  have b2 := hN.2.2.1
  have b10 := hN.2.2.2.2.2.2.2.1
  have bp := hP.1
  show wp _ _ _ _ 0 [vr 127, vi t, vi i, vi v, vi fr, vi to, vi w] [] _
  refine s_ald k201_0 rfl ?_
  refine s_ild k201_1 rfl ?_
  refine z_inv1A k201_2 rfl (Nat.le_of_ble_eq_true rfl) (c138 hs (by omega) i_t) ?_
  refine z_ifneb k201_5 (fun h5 => ?_) (fun h5 => ?_)
  · refine s_ild k201_11 rfl ?_
    refine z_push k201_12 ?_
    refine z_push k201_13 ?_
    refine z_sta3A k201_14 (Nat.le_of_ble_eq_true rfl) (c136 i_i (inR_lit rfl) (inR_lit rfl)) ?_
    refine z_ifeqb k201_17 (fun h17 => ?_) (fun h17 => ?_)
    · refine z_push k201_99 ?_
      refine z_iret k201_101 ⟨I, ?_, rfl, hs, fun _ _ _ => rfl⟩
      unfold xAlt
      rw [if_pos (by omega), if_neg (by unfold alOK nvOK; omega)]
    · refine s_ild k201_20 rfl ?_
      refine z_push k201_21 ?_
      refine z_push k201_24 ?_
      refine z_sta3A k201_27 (Nat.le_of_ble_eq_true rfl) (c136 i_v (inR_lit rfl) (inR_lit rfl)) ?_
      refine z_ifeqb k201_30 (fun h30 => ?_) (fun h30 => ?_)
      · refine z_push k201_99 ?_
        refine z_iret k201_101 ⟨I, ?_, rfl, hs, fun _ _ _ => rfl⟩
        unfold xAlt
        rw [if_pos (by omega), if_neg (by unfold alOK nvOK; omega)]
      · refine s_ild k201_33 rfl ?_
        have td1 := td10 v (by omega) (by omega)
        have td2 := td100 v (by omega) (by omega)
        refine z_push k201_34 ?_
        refine z_idiv k201_36 i_v (inR_lit rfl) (by decide) ?_
        refine z_push k201_37 ?_
        refine z_irem k201_39 ⟨by omega, by omega⟩ (inR_lit rfl) (by decide) ?_
        refine z_eqi (b := v / 100 % 10) (by rw [Int.tdiv_eq_ediv_of_nonneg (by omega), Int.tmod_eq_emod_of_nonneg (by omega)]) ?_
        refine z_push k201_40 ?_
        refine s_icgt k201_41 ⟨by omega, by omega⟩ (inR_lit rfl) (fun h41 => ?_) (fun h41 => ?_)
        · refine z_push k201_99 ?_
          refine z_iret k201_101 ⟨I, ?_, rfl, hs, fun _ _ _ => rfl⟩
          unfold xAlt
          rw [if_pos (by omega), if_neg (by unfold alOK nvOK; omega)]
        · refine s_ild k201_44 rfl ?_
          refine z_push k201_45 ?_
          refine z_idiv k201_47 i_v (inR_lit rfl) (by decide) ?_
          refine z_push k201_48 ?_
          refine z_irem k201_50 ⟨by omega, by omega⟩ (inR_lit rfl) (by decide) ?_
          refine z_eqi (b := v / 10 % 10) (by rw [Int.tdiv_eq_ediv_of_nonneg (by omega), Int.tmod_eq_emod_of_nonneg (by omega)]) ?_
          refine z_push k201_51 ?_
          refine s_icgt k201_53 ⟨by omega, by omega⟩ (inR_lit rfl) (fun h53 => ?_) (fun h53 => ?_)
          · refine z_push k201_99 ?_
            refine z_iret k201_101 ⟨I, ?_, rfl, hs, fun _ _ _ => rfl⟩
            unfold xAlt
            rw [if_pos (by omega), if_neg (by unfold alOK nvOK; omega)]
          · refine s_ild k201_56 rfl ?_
            refine z_push k201_57 ?_
            refine z_irem k201_59 i_v (inR_lit rfl) (by decide) ?_
            refine z_eqi (b := v % 10) (Int.tmod_eq_emod_of_nonneg (by omega)) ?_
            refine z_push k201_60 ?_
            refine s_icgt k201_61 ⟨by omega, by omega⟩ (inR_lit rfl) (fun h61 => ?_) (fun h61 => ?_)
            · refine z_push k201_99 ?_
              refine z_iret k201_101 ⟨I, ?_, rfl, hs, fun _ _ _ => rfl⟩
              unfold xAlt
              rw [if_pos (by omega), if_neg (by unfold alOK nvOK; omega)]
            · refine s_ald k201_64 rfl ?_
              refine s_ild k201_65 rfl ?_
              refine z_inv1A k201_67 rfl (Nat.le_of_ble_eq_true rfl) (c137 hs (by omega) i_fr) ?_
              refine z_ifeqb k201_70 (fun h70 => ?_) (fun h70 => ?_)
              · refine z_push k201_99 ?_
                refine z_iret k201_101 ⟨I, ?_, rfl, hs, fun _ _ _ => rfl⟩
                unfold xAlt
                rw [if_pos (by omega), if_neg (by unfold alOK nvOK; omega)]
              · refine s_ald k201_73 rfl ?_
                refine s_ild k201_74 rfl ?_
                refine z_inv1A k201_76 rfl (Nat.le_of_ble_eq_true rfl) (c137 hs (by omega) i_to) ?_
                refine z_ifeqb k201_79 (fun h79 => ?_) (fun h79 => ?_)
                · refine z_push k201_99 ?_
                  refine z_iret k201_101 ⟨I, ?_, rfl, hs, fun _ _ _ => rfl⟩
                  unfold xAlt
                  rw [if_pos (by omega), if_neg (by unfold alOK nvOK; omega)]
                · refine s_ild k201_82 rfl ?_
                  refine s_ild k201_84 rfl ?_
                  refine s_icgt k201_86 i_fr i_to (fun h86 => ?_) (fun h86 => ?_)
                  · refine z_push k201_99 ?_
                    refine z_iret k201_101 ⟨I, ?_, rfl, hs, fun _ _ _ => rfl⟩
                    unfold xAlt
                    rw [if_pos (by omega), if_neg (by unfold alOK nvOK; omega)]
                  · refine s_ild k201_89 rfl ?_
                    refine z_push k201_91 ?_
                    refine z_push k201_92 ?_
                    refine z_sta3A k201_93 (Nat.le_of_ble_eq_true rfl) (c136 i_w (inR_lit rfl) (inR_lit rfl)) ?_
                    refine z_ifneb k201_96 (fun h96 => ?_) (fun h96 => ?_)
                    · obtain ⟨iN, rfl⟩ : ∃ q : Nat, i = (q : Int) := ⟨i.toNat, by omega⟩
                      obtain ⟨frN, rfl⟩ : ∃ q : Nat, fr = (q : Int) := ⟨fr.toNat, by omega⟩
                      obtain ⟨toN, rfl⟩ : ∃ q : Nat, to = (q : Int) := ⟨to.toNat, by omega⟩
                      refine s_ald k201_102 rfl ?_
                      refine s_ild k201_103 rfl ?_
                      refine s_ild k201_104 rfl ?_
                      refine s_ild k201_105 rfl ?_
                      refine s_ild k201_106 rfl ?_
                      refine s_ild k201_108 rfl ?_
                      refine z_inv5 k201_110 rfl (Nat.le_of_ble_eq_true rfl) (c200 hN hP hs (t := t) (v := v) (m := v / 100 % 10) (r := v / 10 % 10) (d2 := v % 10) (K := (v / 1000).toNat) (by omega) (by omega) (by omega) (by omega) (by rw [Int.tdiv_eq_ediv_of_nonneg (by omega)]; omega) (by rw [Int.tdiv_eq_ediv_of_nonneg (by omega), Int.tmod_eq_emod_of_nonneg (by omega)]) (by rw [Int.tdiv_eq_ediv_of_nonneg (by omega), Int.tmod_eq_emod_of_nonneg (by omega)]) (Int.tmod_eq_emod_of_nonneg (by omega)) (by omega) (by omega) (by omega) (by omega) (by omega) (i := iN) (fr := frN) (to := toN) (by omega) (by omega) (by omega)) (fun o h1 hq => ?_)
                      obtain ⟨rfl, J, rfl, js, jF, jA⟩ := hq
                      have hx := alP_x (σ := σ) (t := t) (i := (iN : Int)) (v := v) (fr := (frN : Int)) (to := (toN : Int)) (by rw [Int.toNat_natCast, Int.toNat_natCast, Int.toNat_natCast]; exact jA)
                      refine s_ild k201_113 rfl ?_
                      refine s_ifne k201_115 i_w (fun h115 => ?_) (fun h115 => ?_)
                      · refine s_ald k201_125 rfl ?_
                        refine z_getIe (z := J 127 41) k201_126 rfl rfl ?_
                        refine z_iret k201_129 ⟨J, ?_, rfl, js, jF⟩
                        unfold xAlt
                        rw [if_pos (by omega), if_pos (by unfold alOK nvOK; omega), if_neg (by omega)]
                        exact congrArg (fun u => some (vi u)) hx.2
                      · refine s_ald k201_118 rfl ?_
                        refine z_getIe (z := J 127 40) k201_119 rfl rfl ?_
                        refine z_goto k201_122 ?_
                        refine z_iret k201_129 ⟨J, ?_, rfl, js, jF⟩
                        unfold xAlt
                        rw [if_pos (by omega), if_pos (by unfold alOK nvOK; omega), if_pos (by omega)]
                        exact congrArg (fun u => some (vi u)) hx.1
                    · refine z_push k201_99 ?_
                      refine z_iret k201_101 ⟨I, ?_, rfl, hs, fun _ _ _ => rfl⟩
                      unfold xAlt
                      rw [if_pos (by omega), if_neg (by unfold alOK nvOK; omega)]
  · refine z_push k201_8 ?_
    refine z_iret k201_10 ⟨I, ?_, rfl, hs, fun _ _ _ => rfl⟩
    unfold xAlt
    rw [if_neg (by omega)]
