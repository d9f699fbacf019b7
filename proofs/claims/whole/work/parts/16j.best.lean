/-! the best night, the class: refresh -/
set_option maxRecDepth 20000 in
theorem lp71 {d : Nat} {I σ : Nat → Int → Int} {P : Int → Nat} {dr : Nat} (hP : WFp σ) (hcp : CRp I σ P dr) {p : Nat} (p1 : (p : Int) < σ 127 21) : ∀ (m i : Nat) (v : Int), (i : Int) + m = pf σ (p : Int) 4 → v + (szS σ p m i : Int) = zS σ p → wp (mcall MT CD (d + 0)) (CD 71) L0 (ans (vi (zS σ p)) I P dr) 4 [vr (P (p : Int)), vi v, vi (i : Int)] [] (S0, I, RR P dr) := by
  intro m
  induction m with
  | zero => 
    intro i v hi hv
    have bp := hP.1
    have hp := hP.2 (p : Int) (by omega) p1
    have h3 := hp.2.2.2.2.1
    have hPc : ∀ k, 0 ≤ k → k < 5 → isPl (P k) := hcp.2.1.1
    refine s_ild k71_4 rfl ?_
    refine s_ald k71_5 rfl ?_
    refine z_getIe (z := pf σ (p : Int) 4) k71_6 (pl_sh (hPc _ (by omega) (by omega))) (hcp.f (by omega) p1).2.2.2.2 ?_
    refine s_icge k71_9 ⟨by omega, by omega⟩ ⟨by omega, by omega⟩ (fun h9 => ?_) (fun q => absurd q (by omega))
    refine s_ild k71_30 rfl ?_
    refine z_iret k71_31 (ans_i ?_)
    have e : szS σ (p : Int) 0 i = 0 := rfl
    rw [e] at hv
    omega
  | succ m ih => 
    intro i v hi hv
    have bp := hP.1
    have hp := hP.2 (p : Int) (by omega) p1
    have h3 := hp.2.2.2.2.1
    have hPc : ∀ k, 0 ≤ k → k < 5 → isPl (P k) := hcp.2.1.1
    refine s_ild k71_4 rfl ?_
    refine s_ald k71_5 rfl ?_
    refine z_getIe (z := pf σ (p : Int) 4) k71_6 (pl_sh (hPc _ (by omega) (by omega))) (hcp.f (by omega) p1).2.2.2.2 ?_
    refine s_icge k71_9 ⟨by omega, by omega⟩ ⟨by omega, by omega⟩ (fun q => absurd q (by omega)) (fun h9 => ?_)
    have hs4 := (hp.st (j := (i : Int)) (by omega) (by omega)).2.1
    refine s_ild k71_12 rfl ?_
    refine s_ald k71_13 rfl ?_
    refine z_getRe (b := P (p : Int) + 1) k71_14 (pl_sh (hPc _ (by omega) (by omega))) (rr_st5 (hPc _ (by omega) (by omega))) ?_
    refine s_ild k71_17 rfl ?_
    refine z_aalde (b := P (p : Int) + 2 + (i : Int).toNat) k71_18 (by rw [pl_sa (hPc _ (by omega) (by omega))]) (by omega) (by rw [pl_sa (hPc _ (by omega) (by omega))]; show (i : Int) < ((3 : Nat) : Int); omega) (rr_stj (hPc _ (by omega) (by omega)) (by omega) (by omega)) ?_
    refine z_getIe (z := ps σ (p : Int) (i : Int) 0) k71_19 (pl_st (hPc _ (by omega) (by omega)) (by omega)) (hcp.s (by omega) p1 (by omega) (by omega)).1 ?_
    refine z_iadd k71_22 ?_
    refine s_ist1 k71_23 rfl ?_
    refine s_iinc2 k71_24 rfl ?_
    refine z_goto k71_27 ?_
    refine ih (i + 1) _ (by omega) ?_
    rw [sz_s] at hv
    have hk : ((kS σ p i : Nat) : Int) = ps σ (p : Int) (i : Int) 0 := by show ((ps σ p i 0).toNat : Int) = _; omega
    omega
set_option maxRecDepth 20000 in
theorem c71 {d : Nat} {I : Nat → Int → Int} {P : Int → Nat} {dr : Nat} {σ : Nat → Int → Int} (hP : WFp σ) (hcp : CRp I σ P dr) {p : Nat} (p1 : (p : Int) < σ 127 21) : cal (d + 1) 71 [vr (P (p : Int))] I P dr (ans (vi (zS σ p)) I P dr) := by
  refine cal_in (Nat.le_of_ble_eq_true rfl) ?_
  have bp := hP.1
  have hp := hP.2 (p : Int) (by omega) p1
  have h3 := hp.2.2.2.2.1
  have hPc : ∀ k, 0 ≤ k → k < 5 → isPl (P k) := hcp.2.1.1
  show wp _ _ _ _ 0 [vr (P (p : Int)), vj, vj] [] _
  refine z_push k71_0 ?_
  refine s_ist1 k71_1 rfl ?_
  refine z_push k71_2 ?_
  refine s_ist2 k71_3 rfl ?_
  exact lp71 hP hcp p1 (pf σ (p : Int) 4).toNat 0 0 (by omega) (by rw [Int.zero_add])
set_option maxRecDepth 20000 in
theorem lp15w {d : Nat} {I σ : Nat → Int → Int} {P : Int → Nat} {dr : Nat} {l3 l4 : mV} (hN : WFn σ) (hP : WFp σ) (hcp : CRp I σ P dr) (hck : ∀ p : Nat, (p : Int) < σ 127 21 → CK I p (plS σ p)) {s : Nat} (hs : s < 2 ^ nP σ) (hw : TBw σ I s) (h0 : I 114 0 = 0 ∧ I 115 0 = 0 ∧ I 116 0 = 0) : ∀ (m i : Nat), i + m = nP σ → (∀ q, q < i → s.testBit q = false) → wp (mcall MT CD (d + 1)) (CD 15) L0 (fun o h => o = none ∧ ∃ J, h = (S0, J, RR P dr) ∧ (∀ a q, ¬ (114 ≤ a ∧ a ≤ 116 ∧ q = (s : Int)) → J a q = I a q) ∧ TBw σ J (s + 1)) 2 [vr 69, vi (s : Int), vi (i : Int), l3, l4] [] (S0, I, RR P dr) := by
  have bp := hP.1
  have hnp : nP σ = (σ 127 21).toNat := rfl
  have hn2 := np2 hP
  have hPc : ∀ k, 0 ≤ k → k < 5 → isPl (P k) := hcp.2.1.1
  have hsb : ∀ q, nP σ ≤ q → s.testBit q = false := fun q hq => Nat.testBit_lt_two_pow (Nat.lt_of_lt_of_le hs (Nat.pow_le_pow_right (by decide) hq))
  intro m
  induction m with
  | zero =>
    intro i hi hno
    refine s_ild k15_2 rfl ?_
    refine s_ald k15_3 rfl ?_
    refine z_getRe (b := 42) k15_4 rfl rr_69_5 ?_
    refine z_getIe (z := σ 127 21) k15_7 rfl hcp.1 ?_
    refine s_icge k15_10 ⟨by omega, by omega⟩ ⟨by omega, by omega⟩ (fun h10 => ?_) (fun q => absurd q (by omega))
    refine s_ild k15_27 rfl ?_
    refine s_ald k15_28 rfl ?_
    refine z_getRe (b := 42) k15_29 rfl rr_69_5 ?_
    refine z_getIe (z := σ 127 21) k15_32 rfl hcp.1 ?_
    refine s_iclt k15_35 ⟨by omega, by omega⟩ ⟨by omega, by omega⟩ (fun q => absurd q (by omega)) (fun h35 => ?_)
    have hz : s = 0 := Nat.eq_of_testBit_eq (fun q => by
      rw [Nat.zero_testBit]
      by_cases u : q < nP σ
      · exact hno q (by omega)
      · exact hsb q (by omega))
    subst hz
    refine z_vret k15_38 ⟨rfl, I, rfl, fun _ _ _ => rfl, fun q hq => ?_⟩
    have e : q = 0 := by omega
    subst e
    have u0 : ∀ k, uS σ 0 k = 0 := fun k => by
      induction k with
      | zero => rfl
      | succ k ih => rw [u_s, ih, if_neg (by rw [Nat.zero_testBit]; decide)]; rfl
    rw [sB_0 _ (fun q _ => Nat.zero_testBit q), sB_0 _ (fun q _ => Nat.zero_testBit q), u0]
    exact h0
  | succ m ih =>
    intro i hi hno
    have hbit := s5_bit s (by omega) i (by omega)
    cases hb : s.testBit i with
    | false =>
      refine s_ild k15_2 rfl ?_
      refine s_ald k15_3 rfl ?_
      refine z_getRe (b := 42) k15_4 rfl rr_69_5 ?_
      refine z_getIe (z := σ 127 21) k15_7 rfl hcp.1 ?_
      refine s_icge k15_10 ⟨by omega, by omega⟩ ⟨by omega, by omega⟩ (fun q => absurd q (by omega)) (fun h10 => ?_)
      refine s_ild k15_13 rfl ?_
      refine s_ild k15_14 rfl ?_
      refine z_sta2A k15_15 (Nat.le_of_ble_eq_true rfl) (c128) ?_
      refine z_ifneb k15_18 (fun q => absurd q (fun u => absurd (hbit.mp u) (by rw [hb]; decide))) (fun h18 => ?_)
      refine s_iinc2 k15_21 rfl ?_
      refine z_goto k15_24 ?_
      refine ih (i + 1) (by omega) (fun q hq => ?_)
      by_cases e : q = i
      · subst e; exact hb
      · exact hno q (by omega)
    | true =>
      have hcl := cl_lt hb
      have hcw := hw (clN s i) hcl
      have his : I (P (i : Int)) 1 = ((isS σ i : Nat) : Int) := by
        have h1 := (hcp.f (p := (i : Int)) (by omega) (by omega)).2.1
        have h2 := (hP.2 (i : Int) (by omega) (by omega)).2.1
        rw [is_e (by omega)]
        omega
      have hib := is_b hP i
      have hpb := pl_b (hPc (i : Int) (by omega) (by omega))
      have hro := ro_b hN hP (k := i) (by omega)
      have hub := u_b hN hP (s := clN s i) (nP σ) (by omega)
      have hpw := (hP.2 (i : Int) (by omega) (by omega)).2.2.2.1
      have hpz := szP_b hP (p := i) (by omega)
      refine s_ild k15_2 rfl ?_
      refine s_ald k15_3 rfl ?_
      refine z_getRe (b := 42) k15_4 rfl rr_69_5 ?_
      refine z_getIe (z := σ 127 21) k15_7 rfl hcp.1 ?_
      refine s_icge k15_10 ⟨by omega, by omega⟩ ⟨by omega, by omega⟩ (fun q => absurd q (by omega)) (fun h10 => ?_)
      refine s_ild k15_13 rfl ?_
      refine s_ild k15_14 rfl ?_
      refine z_sta2A k15_15 (Nat.le_of_ble_eq_true rfl) (c128) ?_
      refine z_ifneb k15_18 (fun h18 => ?_) (fun q => absurd (hbit.mpr hb) q)
      refine s_ild k15_27 rfl ?_
      refine s_ald k15_28 rfl ?_
      refine z_getRe (b := 42) k15_29 rfl rr_69_5 ?_
      refine z_getIe (z := σ 127 21) k15_32 rfl hcp.1 ?_
      refine s_iclt k15_35 ⟨by omega, by omega⟩ ⟨by omega, by omega⟩ (fun h35 => ?_) (fun q => absurd q (by omega))
      refine s_ald k15_39 rfl ?_
      refine z_getRe (b := 42) k15_40 rfl rr_69_5 ?_
      refine z_getRe (b := 43) k15_43 rfl rr_42_0 ?_
      refine s_ild k15_46 rfl ?_
      refine z_aalde (b := P (i : Int)) k15_47 rfl (by omega) (show (i : Int) < ((5 : Nat) : Int) by omega) rr_P ?_
      refine s_ast3 k15_48 rfl ?_
      refine s_ild k15_49 rfl ?_
      refine z_push k15_50 ?_
      refine s_ild k15_51 rfl ?_
      refine z_ishl k15_52 ?_
      refine z_push k15_53 ?_
      refine z_ixor k15_54 ?_
      refine z_iand k15_55 ?_
      refine z_eqi (b := ((clN s i : Nat) : Int)) (z_clr s (by omega) i (by omega)) ?_
      refine s_ist4 k15_56 rfl ?_
      refine s_ald k15_58 rfl ?_
      refine z_getRe (b := 114) k15_59 rfl rr_69_11 ?_
      refine s_ild k15_62 rfl ?_
      refine s_ald k15_63 rfl ?_
      refine z_getRe (b := 114) k15_64 rfl rr_69_11 ?_
      refine s_ild k15_67 rfl ?_
      refine z_ialde (z := sB (wS σ) (clN s i) (nP σ)) k15_69 rfl (by omega) (show ((clN s i : Nat) : Int) < ((32 : Nat) : Int) by omega) hcw.1 ?_
      refine s_ald k15_70 rfl ?_
      refine z_getIe (z := wS σ i) k15_71 (pl_sh (hPc _ (by omega) (by omega))) (hcp.f (by omega) (by omega)).2.2.2.1 ?_
      refine z_iadd k15_74 ?_
      refine z_iast k15_75 rfl (by omega) (show (s : Int) < ((32 : Nat) : Int) by omega) ?_
      refine s_ald k15_76 rfl ?_
      refine z_getRe (b := 115) k15_77 rfl rr_69_12 ?_
      refine s_ild k15_80 rfl ?_
      refine s_ald k15_81 rfl ?_
      refine z_getRe (b := 115) k15_82 rfl rr_69_12 ?_
      refine s_ild k15_85 rfl ?_
      refine z_ialde (z := sB (zS σ) (clN s i) (nP σ)) k15_87 rfl (by omega) (show ((clN s i : Nat) : Int) < ((32 : Nat) : Int) by omega) ((up_ne (by decide)).trans hcw.2.1) ?_
      refine s_ald k15_88 rfl ?_
      refine z_inv0A k15_89 (pl_sh (hPc _ (by omega) (by omega))) (Nat.le_of_ble_eq_true rfl) (c71 hP (hcp.keep hP (fun a q _ _ => up_ne (by omega))) (by omega)) ?_
      refine z_iadd k15_92 ?_
      refine z_iast k15_93 rfl (by omega) (show (s : Int) < ((32 : Nat) : Int) by omega) ?_
      refine s_ald k15_94 rfl ?_
      refine z_getRe (b := 116) k15_95 rfl rr_69_13 ?_
      refine s_ild k15_98 rfl ?_
      refine s_ald k15_99 rfl ?_
      refine z_getRe (b := 116) k15_100 rfl rr_69_13 ?_
      refine s_ild k15_103 rfl ?_
      refine z_lalde (z := ((uS σ (clN s i) (nP σ) : Nat) : Int)) k15_105 rfl (by omega) (show ((clN s i : Nat) : Int) < ((32 : Nat) : Int) by omega) ((up_ne (by decide)).trans ((up_ne (by decide)).trans hcw.2.2)) ?_
      refine s_ald k15_106 rfl ?_
      refine z_getRe (b := 78) k15_107 rfl rr_69_7 ?_
      refine s_ild k15_110 rfl ?_
      refine z_ialde (z := ((orL (plS σ i) : Nat) : Int)) k15_111 rfl (by omega) (show (i : Int) < ((5 : Nat) : Int) by omega) ((up_ne (by decide)).trans ((up_ne (by decide)).trans (hck i (by omega)).2.2)) ?_
      refine z_i2l k15_112 ⟨by omega, by omega⟩ ?_
      refine z_push k15_113 ?_
      refine s_ald k15_115 rfl ?_
      refine z_getIe (z := ((isS σ i : Nat) : Int)) k15_116 (pl_sh (hPc _ (by omega) (by omega))) ((up_ne (by omega)).trans ((up_ne (by omega)).trans his)) ?_
      refine z_imul k15_119 ?_
      refine z_lshl k15_120 ?_
      refine z_eql (b := ((orL (plS σ i) * 2 ^ (16 * isS σ i) : Nat) : Int)) (by rw [show 16 * ((isS σ i : Nat) : Int) = ((16 * isS σ i : Nat) : Int) by omega]; exact yshl_n (by omega) (by have := hro.2; omega)) ?_
      refine z_lor k15_121 ?_
      refine z_eql (b := ((uS σ (clN s i) (nP σ) ||| orL (plS σ i) * 2 ^ (16 * isS σ i) : Nat) : Int)) (yor_n (by omega) (by have := hro.2; omega)) ?_
      refine z_last k15_122 rfl (by omega) (show (s : Int) < ((32 : Nat) : Int) by omega) ?_
      refine z_vret k15_123 ⟨rfl, _, rfl, fun a q h => (if_neg (by omega)).trans ((if_neg (by omega)).trans (if_neg (by omega))), fun q hq => ?_⟩
      by_cases e : q = s
      · subst e
        refine ⟨(up_ne (by decide)).trans ((up_ne (by decide)).trans (up_at.trans ?_)), (up_ne (by decide)).trans (up_at.trans ?_), up_at.trans ?_⟩
        · rw [sB_cl (f := wS σ) (by omega) (by omega) hb (nP σ) (by omega), if_pos (by omega)]
        · rw [sB_cl (f := zS σ) (by omega) (by omega) hb (nP σ) (by omega), if_pos (by omega)]
        · rw [u_cl (by omega) (by omega) hb (nP σ) (by omega), if_pos (by omega)]
      · obtain ⟨a1, a2, a3⟩ := hw q (by omega)
        exact ⟨(up_ne (by decide)).trans ((up_ne (by decide)).trans ((up_nk (by omega)).trans a1)), (up_ne (by decide)).trans ((up_nk (by omega)).trans ((up_ne (by decide)).trans a2)), (up_nk (by omega)).trans ((up_ne (by decide)).trans ((up_ne (by decide)).trans a3))⟩
set_option maxRecDepth 20000 in
theorem c15 {d : Nat} {I : Nat → Int → Int} {P : Int → Nat} {dr : Nat} {σ : Nat → Int → Int} (hN : WFn σ) (hP : WFp σ) (hcp : CRp I σ P dr) (hck : ∀ p : Nat, (p : Int) < σ 127 21 → CK I p (plS σ p)) {s : Nat} (hs : s < 2 ^ nP σ) (hw : TBw σ I s) (h0 : I 114 0 = 0 ∧ I 115 0 = 0 ∧ I 116 0 = 0) : cal (d + 2) 15 [vr 69, vi (s : Int)] I P dr (fun o h => o = none ∧ ∃ J, h = (S0, J, RR P dr) ∧ (∀ a q, ¬ (114 ≤ a ∧ a ≤ 116 ∧ q = (s : Int)) → J a q = I a q) ∧ TBw σ J (s + 1)) := by
  refine cal_in (Nat.le_of_ble_eq_true rfl) ?_
  have bp := hP.1
  have hnp : nP σ = (σ 127 21).toNat := rfl
  have hn2 := np2 hP
  have hPc : ∀ k, 0 ≤ k → k < 5 → isPl (P k) := hcp.2.1.1
  have hsb : ∀ q, nP σ ≤ q → s.testBit q = false := fun q hq => Nat.testBit_lt_two_pow (Nat.lt_of_lt_of_le hs (Nat.pow_le_pow_right (by decide) hq))
  show wp _ _ _ _ 0 [vr 69, vi (s : Int), vj, vj, vj] [] _
  refine z_push k15_0 ?_
  refine s_ist2 k15_1 rfl ?_
  exact lp15w hN hP hcp hck hs hw h0 (nP σ) 0 (by omega) (fun q hq => absurd hq (by omega))
set_option maxRecDepth 20000 in
theorem lp16p {d : Nat} {I σ : Nat → Int → Int} {P : Int → Nat} {dr : Nat} (hN : WFn σ) (hP : WFp σ) (hcp : CRp I σ P dr) {s : Nat} (hs : s < 2 ^ nP σ) (hl : TBl σ I s) : ∀ (m i : Nat), i + m = nP σ → wp (mcall MT CD (d + 1)) (CD 16) L0 (fun o h => h = (S0, I, RR P dr) ∧ ((o = some (vi 1) ∧ True) ∨ (o = some (vi 0) ∧ ∀ c, ¬ solS σ (nP σ) 0 s 0 c))) 2 [vr 69, vi (s : Int), vi (i : Int)] [] (S0, I, RR P dr) := by
  have bp := hP.1
  have hnp : nP σ = (σ 127 21).toNat := rfl
  have hn2 := np2 hP
  intro m
  induction m with
  | zero =>
    intro i hi
    refine s_ild k16_2 rfl ?_
    refine s_ald k16_3 rfl ?_
    refine z_getRe (b := 42) k16_4 rfl rr_69_5 ?_
    refine z_getIe (z := σ 127 21) k16_7 rfl hcp.1 ?_
    refine s_icge k16_10 ⟨by omega, by omega⟩ ⟨by omega, by omega⟩ (fun h10 => ?_) (fun q => absurd q (by omega))
    refine z_push k16_44 ?_
    exact z_zret k16_45 (Or.inr rfl) ⟨rfl, Or.inl ⟨rfl, trivial⟩⟩
  | succ m ih =>
    intro i hi
    have hbit := s5_bit s (by omega) i (by omega)
    cases hb : s.testBit i with
    | false =>
      refine s_ild k16_2 rfl ?_
      refine s_ald k16_3 rfl ?_
      refine z_getRe (b := 42) k16_4 rfl rr_69_5 ?_
      refine z_getIe (z := σ 127 21) k16_7 rfl hcp.1 ?_
      refine s_icge k16_10 ⟨by omega, by omega⟩ ⟨by omega, by omega⟩ (fun q => absurd q (by omega)) (fun h10 => ?_)
      refine s_ild k16_13 rfl ?_
      refine s_ild k16_14 rfl ?_
      refine z_sta2A k16_15 (Nat.le_of_ble_eq_true rfl) (c128) ?_
      refine z_ifeqb k16_18 (fun h18 => ?_) (fun q => absurd (hbit.mp q) (by rw [hb]; decide))
      refine s_iinc2 k16_38 rfl ?_
      refine z_goto k16_41 ?_
      exact ih (i + 1) (by omega)
    | true =>
      have hcl := cl_lt hb
      rcases hl (clN s i) hcl with ⟨h80, -⟩ | ⟨h80, hns⟩
      · refine s_ild k16_2 rfl ?_
        refine s_ald k16_3 rfl ?_
        refine z_getRe (b := 42) k16_4 rfl rr_69_5 ?_
        refine z_getIe (z := σ 127 21) k16_7 rfl hcp.1 ?_
        refine s_icge k16_10 ⟨by omega, by omega⟩ ⟨by omega, by omega⟩ (fun q => absurd q (by omega)) (fun h10 => ?_)
        refine s_ild k16_13 rfl ?_
        refine s_ild k16_14 rfl ?_
        refine z_sta2A k16_15 (Nat.le_of_ble_eq_true rfl) (c128) ?_
        refine z_ifeqb k16_18 (fun q => absurd (hbit.mpr hb) q) (fun h18 => ?_)
        refine s_ald k16_21 rfl ?_
        refine z_getRe (b := 80) k16_22 rfl rr_69_9 ?_
        refine s_ild k16_25 rfl ?_
        refine z_push k16_26 ?_
        refine s_ild k16_27 rfl ?_
        refine z_ishl k16_28 ?_
        refine z_push k16_29 ?_
        refine z_ixor k16_30 ?_
        refine z_iand k16_31 ?_
        refine z_eqi (b := ((clN s i : Nat) : Int)) (z_clr s (by omega) i (by omega)) ?_
        refine z_balde (z := 1) k16_32 rfl (by omega) (show ((clN s i : Nat) : Int) < ((32 : Nat) : Int) by omega) h80 ?_
        refine s_ifne k16_33 (inR_lit rfl) (fun _ => ?_) (fun q => absurd q (by decide))
        refine s_iinc2 k16_38 rfl ?_
        refine z_goto k16_41 ?_
        exact ih (i + 1) (by omega)
      · refine s_ild k16_2 rfl ?_
        refine s_ald k16_3 rfl ?_
        refine z_getRe (b := 42) k16_4 rfl rr_69_5 ?_
        refine z_getIe (z := σ 127 21) k16_7 rfl hcp.1 ?_
        refine s_icge k16_10 ⟨by omega, by omega⟩ ⟨by omega, by omega⟩ (fun q => absurd q (by omega)) (fun h10 => ?_)
        refine s_ild k16_13 rfl ?_
        refine s_ild k16_14 rfl ?_
        refine z_sta2A k16_15 (Nat.le_of_ble_eq_true rfl) (c128) ?_
        refine z_ifeqb k16_18 (fun q => absurd (hbit.mpr hb) q) (fun h18 => ?_)
        refine s_ald k16_21 rfl ?_
        refine z_getRe (b := 80) k16_22 rfl rr_69_9 ?_
        refine s_ild k16_25 rfl ?_
        refine z_push k16_26 ?_
        refine s_ild k16_27 rfl ?_
        refine z_ishl k16_28 ?_
        refine z_push k16_29 ?_
        refine z_ixor k16_30 ?_
        refine z_iand k16_31 ?_
        refine z_eqi (b := ((clN s i : Nat) : Int)) (z_clr s (by omega) i (by omega)) ?_
        refine z_balde (z := 0) k16_32 rfl (by omega) (show ((clN s i : Nat) : Int) < ((32 : Nat) : Int) by omega) h80 ?_
        refine s_ifne k16_33 (inR_lit rfl) (fun q => absurd q (by decide)) (fun _ => ?_)
        refine z_push k16_36 ?_
        refine z_zret k16_37 (Or.inl rfl) ⟨rfl, Or.inr ⟨rfl, fun c hc => hns c (sol_sub hN hP (fun q _ q2 hq => ?_) hc)⟩⟩
        rw [cl_bit s (by omega) i (by omega) q (by omega), Bool.and_eq_true] at hq
        exact hq.1
set_option maxRecDepth 20000 in
theorem c16 {d : Nat} {I : Nat → Int → Int} {P : Int → Nat} {dr : Nat} {σ : Nat → Int → Int} (hN : WFn σ) (hP : WFp σ) (hcp : CRp I σ P dr) {s : Nat} (hs : s < 2 ^ nP σ) (hl : TBl σ I s) : cal (d + 2) 16 [vr 69, vi (s : Int)] I P dr (fun o h => h = (S0, I, RR P dr) ∧ ((o = some (vi 1) ∧ True) ∨ (o = some (vi 0) ∧ ∀ c, ¬ solS σ (nP σ) 0 s 0 c))) := by
  refine cal_in (Nat.le_of_ble_eq_true rfl) ?_
  have bp := hP.1
  have hnp : nP σ = (σ 127 21).toNat := rfl
  have hn2 := np2 hP
  show wp _ _ _ _ 0 [vr 69, vi (s : Int), vj] [] _
  refine z_push k16_0 ?_
  refine s_ist2 k16_1 rfl ?_
  exact lp16p hN hP hcp hs hl (nP σ) 0 (by omega)
