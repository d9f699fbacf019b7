/-! the best night: why a slot is empty, both sides -/
set_option maxRecDepth 20000 in
theorem lp185a {d : Nat} {I σ : Nat → Int → Int} {P : Int → Nat} {dr : Nat} {Q : mQ} (hN : WFn σ) (hP : WFp σ) {e : Nat → Nat} (hV : SV σ (fun _ _ => False) I) (he : ∀ q, q < nP σ → I 144 q = if e q < lnS σ q then (e q : Int) else -1) {s : Nat} (s1 : (s : Int) < σ 127 0) (hK : ∀ z : Int, PRe σ e s (Vb (nP σ) 0) z → Q (some (vi z)) (S0, I, RR P dr)) : ∀ (m p : Nat) (z : Int) (x4 x5 x6 : mV), p + m = nP σ → PRe σ e s (Vb p 0) z → wp (mcall MT CD (d + 7)) (CD 185) L0 Q 37 [vr 127, vi (s : Int), vi z, vi (p : Int), x4, x5, x6] [] (S0, I, RR P dr) := by
  have bp := hP.1
  have b0 := hN.1
  have hnp : nP σ = (σ 127 21).toNat := rfl
  intro m
  induction m with
  | zero =>
    intro p z x4 x5 x6 hi hz
    refine s_ild k185_37 rfl ?_
    refine s_ald k185_38 rfl ?_
    refine z_getIe (z := σ 127 21) k185_39 rfl (st_s hV.1 rfl) ?_
    refine s_icge k185_42 ⟨by omega, by omega⟩ ⟨by omega, by omega⟩ (fun h42 => ?_) (fun q => absurd q (by omega))
    refine s_ild k185_207 rfl ?_
    have e1 : p = nP σ := by omega
    subst e1
    exact z_iret k185_208 (hK z hz)
  | succ m ih =>
    intro p z x4 x5 x6 hi hz
    refine s_ild k185_37 rfl ?_
    refine s_ald k185_38 rfl ?_
    refine z_getIe (z := σ 127 21) k185_39 rfl (st_s hV.1 rfl) ?_
    refine s_icge k185_42 ⟨by omega, by omega⟩ ⟨by omega, by omega⟩ (fun q => absurd q (by omega)) (fun h42 => ?_)
    refine z_push k185_45 ?_
    refine s_ist4 k185_46 rfl ?_
    refine lp185b hN hP hV he s1 (by omega) (fun z' k5 k6 k7 hz' => ?_) (lnS σ p) 0 z _ _ (by omega) hz
    refine s_iinc3 k185_201 rfl ?_
    refine z_goto k185_204 ?_
    exact ih (p + 1) z' _ _ _ (by omega) hz'
set_option maxRecDepth 20000 in
theorem r185 {d : Nat} {I : Nat → Int → Int} {P : Int → Nat} {dr : Nat} {σ : Nat → Int → Int} (hs : sig I = σ) (hW : WFs σ) {s : Int} (i_s : inR s) : cal (d + 8) 185 [vr 127, vi s] I P dr (refD (xEmp σ s) σ I P dr) := by
  refine cal_in (Nat.le_of_ble_eq_true rfl) ?_
  obtain ⟨hN, hT, hP, hA, hL⟩ := id hW
  have b0 := hN.1
  have b1 := hN.2.1
  have b2 := hN.2.2.1
  have b10 := hN.2.2.2.2.2.2.2.1
  have bp := hP.1
  have hnp : nP σ = (σ 127 21).toNat := rfl
  show wp _ _ _ _ 0 [vr 127, vi s, vj, vj, vj, vj, vj] [] _
  refine s_ald k185_0 rfl ?_
  refine s_ild k185_1 rfl ?_
  refine z_inv1A k185_2 rfl (Nat.le_of_ble_eq_true rfl) (c137 hs (by omega) i_s) ?_
  refine z_ifneb k185_5 (fun h5 => ?_) (fun h5 => ?_)
  · refine s_ald k185_11 rfl ?_
    refine z_inv0 k185_12 rfl (Nat.le_of_ble_eq_true rfl) (c177 hs hN hP) (fun o h1 hq => ?_)
    obtain ⟨rfl, J1, rfl, gF, gV⟩ := hq
    refine s_ald k185_15 rfl ?_
    refine z_inv0 k185_16 rfl (Nat.le_of_ble_eq_true rfl) (c178 hN hP gV) (fun o h1 hq => ?_)
    obtain ⟨rfl, J, e, rfl, hV, hF, hBI, hB⟩ := hq
    have hbc := bC_is hB
    have hbw := bw_b hP (some e)
    have hlo : ∀ a k, a < 127 → J a k = I a k := fun a k hk => (hF a k (by omega) (by omega)).trans (gF a k (by omega))
    obtain ⟨sn, rfl⟩ : ∃ q : Nat, s = (q : Int) := ⟨s.toNat, by omega⟩
    have hbl := bm_12 hN hP (e := e) (nP σ)
    have hbt := bit_n (a := bmN σ e (nP σ)) (k := sn) (by omega) (by omega)
    have hsim := simE.eq hbc
    refine s_ald k185_19 rfl ?_
    refine z_inv0A k185_20 rfl (Nat.le_of_ble_eq_true rfl) (c180 hN hP hV.1 hV.2.1 (hBI.2.2 e rfl)) ?_
    refine s_ild k185_23 rfl ?_
    refine z_ishr k185_24 ?_
    refine z_push k185_25 ?_
    refine z_iand k185_26 ?_
    refine z_push k185_27 ?_
    refine s_icne k185_28 (zb_R (by omega) (by omega)) (inR_lit rfl) (fun h28 => ?_) (fun h28 => ?_)
    · refine z_push k185_33 ?_
      refine s_ist2 k185_34 rfl ?_
      refine z_push k185_35 ?_
      refine s_ist3 k185_36 rfl ?_
      exact lp185a hN hP hV (hBI.2.2 e rfl) (by omega) (fun z hz => ⟨J, congrArg (fun u => some (vi u)) (EA.x (by omega) hsim (EA.end (fun u => h28 (hbt.mpr u)) hz)), rfl, hV.1, hlo⟩) (nP σ) 0 1 _ _ _ (by omega) PRe.z
    · refine z_push k185_31 ?_
      exact z_iret k185_32 ⟨J, congrArg (fun u => some (vi u)) (EA.x (by omega) hsim (Or.inl ⟨hbt.mp (by omega), rfl⟩)), rfl, hV.1, hlo⟩
  · refine z_push k185_8 ?_
    refine z_iret k185_10 ⟨I, ?_, rfl, hs, fun _ _ _ => rfl⟩
    unfold xEmp
    rw [if_neg (by omega)]
set_option maxRecDepth 20000 in
theorem lp11t {d : Nat} {I σ : Nat → Int → Int} {P : Int → Nat} {dr : Nat} (hN : WFn σ) (hP : WFp σ) {f : Nat} {cf : Nat → Nat} (hZ : BZ σ I P dr f cf) : ∀ (m i : Nat), i + m = nP σ → wp (mcall MT CD (d + 1)) (CD 11) L0 (ans (vl (tkB σ cf (nP σ) : Int)) I P dr) 4 [vr 69, vl (tkB σ cf i : Int), vj, vi (i : Int)] [] (S0, I, RR P dr) := by
  have bp := hP.1
  have b0 := hN.1
  have hnp : nP σ = (σ 127 21).toNat := rfl
  have hn2 := np2 hP
  obtain ⟨hcp, jK, jf, f1, jA⟩ := id hZ
  have hPc : ∀ k, 0 ≤ k → k < 5 → isPl (P k) := hcp.2.1.1
  intro m
  induction m with
  | zero =>
    intro i hi
    refine s_ild k11_4 rfl ?_
    refine s_ald k11_5 rfl ?_
    refine z_getRe (b := 42) k11_6 rfl rr_69_5 ?_
    refine z_getIe (z := σ 127 21) k11_9 rfl hcp.1 ?_
    refine s_icge k11_12 ⟨by omega, by omega⟩ ⟨by omega, by omega⟩ (fun h12 => ?_) (fun q => absurd q (by omega))
    refine s_lld k11_55 rfl ?_
    have e1 : i = nP σ := by omega
    subst e1
    exact z_lret k11_56 ⟨rfl, rfl⟩
  | succ m ih =>
    intro i hi
    have hbl := tkB_lt hN hP (e := cf) i
    have hbit := s5_bit f (by omega) i (by omega)
    have hin := hZ.in hN hP (q := i) (by omega)
    by_cases c : cf i < lnS σ i
    · have hm4 := mk_4 hN hP i (cf i) c
      have htk : tkN (mkQ σ i (cf i)) (isS σ i) < 2 ^ (16 * 3) := tk_lt hm4 3
      have his : I (P (i : Int)) 1 = ((isS σ i : Nat) : Int) := by
        have h1 := (hcp.f (p := (i : Int)) (by omega) (by omega)).2.1
        have h2 := (hP.2 (i : Int) (by omega) (by omega)).2.1
        rw [is_e (by omega)]
        omega
      refine s_ild k11_4 rfl ?_
      refine s_ald k11_5 rfl ?_
      refine z_getRe (b := 42) k11_6 rfl rr_69_5 ?_
      refine z_getIe (z := σ 127 21) k11_9 rfl hcp.1 ?_
      refine s_icge k11_12 ⟨by omega, by omega⟩ ⟨by omega, by omega⟩ (fun q => absurd q (by omega)) (fun h12 => ?_)
      refine s_ald k11_15 rfl ?_
      refine z_getIe (z := (f : Int)) k11_16 rfl jf ?_
      refine s_ild k11_19 rfl ?_
      refine z_sta2A k11_20 (Nat.le_of_ble_eq_true rfl) (c128) ?_
      refine z_ifeqb k11_23 (fun q => absurd (hbit.mpr (hin.mp c)) q) (fun h23 => ?_)
      refine s_lld k11_26 rfl ?_
      refine s_ald k11_27 rfl ?_
      refine s_ild k11_28 rfl ?_
      refine z_inv1A k11_29 rfl (Nat.le_of_ble_eq_true rfl) (c10 hN hP hZ (by omega) c) ?_
      refine s_ald k11_32 rfl ?_
      refine z_getRe (b := 42) k11_33 rfl rr_69_5 ?_
      refine z_getRe (b := 43) k11_36 rfl rr_42_0 ?_
      refine s_ild k11_39 rfl ?_
      refine z_aalde (b := P (i : Int)) k11_40 rfl (by omega) (show (i : Int) < ((5 : Nat) : Int) by omega) rr_P ?_
      refine z_getIe (z := ((isS σ i : Nat) : Int)) k11_41 (pl_sh (hPc _ (by omega) (by omega))) his ?_
      refine z_sta2A k11_44 (Nat.le_of_ble_eq_true rfl) (c24 hm4 (is_b hP i)) ?_
      refine z_lor k11_47 ?_
      refine z_eql (b := (tkB σ cf (i + 1) : Int)) (by rw [tkB_s, if_pos c]; exact yor_n (by omega) (by omega)) ?_
      refine s_lst1 k11_48 rfl ?_
      refine s_iinc3 k11_49 rfl ?_
      refine z_goto k11_52 ?_
      exact ih (i + 1) (by omega)
    · refine s_ild k11_4 rfl ?_
      refine s_ald k11_5 rfl ?_
      refine z_getRe (b := 42) k11_6 rfl rr_69_5 ?_
      refine z_getIe (z := σ 127 21) k11_9 rfl hcp.1 ?_
      refine s_icge k11_12 ⟨by omega, by omega⟩ ⟨by omega, by omega⟩ (fun q => absurd q (by omega)) (fun h12 => ?_)
      refine s_ald k11_15 rfl ?_
      refine z_getIe (z := (f : Int)) k11_16 rfl jf ?_
      refine s_ild k11_19 rfl ?_
      refine z_sta2A k11_20 (Nat.le_of_ble_eq_true rfl) (c128) ?_
      refine z_ifeqb k11_23 (fun h23 => ?_) (fun q => absurd (hin.mpr (hbit.mp q)) c)
      refine s_iinc3 k11_49 rfl ?_
      refine z_goto k11_52 ?_
      have e1 : tkB σ cf (i + 1) = tkB σ cf i := by rw [tkB_s, if_neg c, Nat.or_zero]
      rw [← e1]
      exact ih (i + 1) (by omega)
set_option maxRecDepth 20000 in
theorem c11 {d : Nat} {I : Nat → Int → Int} {P : Int → Nat} {dr : Nat} {σ : Nat → Int → Int} (hN : WFn σ) (hP : WFp σ) {f : Nat} {cf : Nat → Nat} (hZ : BZ σ I P dr f cf) : cal (d + 2) 11 [vr 69] I P dr (ans (vl (tkB σ cf (nP σ) : Int)) I P dr) := by
  refine cal_in (Nat.le_of_ble_eq_true rfl) ?_
  have bp := hP.1
  have b0 := hN.1
  have hnp : nP σ = (σ 127 21).toNat := rfl
  have hn2 := np2 hP
  obtain ⟨hcp, jK, jf, f1, jA⟩ := id hZ
  show wp _ _ _ _ 0 [vr 69, vj, vj, vj] [] _
  refine z_push k11_0 ?_
  refine s_lst1 k11_1 rfl ?_
  refine z_push k11_2 ?_
  refine s_ist3 k11_3 rfl ?_
  exact lp11t hN hP hZ (nP σ) 0 (by omega)
