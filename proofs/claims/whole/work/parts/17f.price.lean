/-! the best night: the price, both sides -/
set_option maxRecDepth 20000 in
theorem c183 {d : Nat} {I : Nat → Int → Int} {P : Int → Nat} {dr : Nat} {σ : Nat → Int → Int} (hN : WFn σ) (hP : WFp σ) (hV : SV σ (fun _ _ => False) I) {p : Nat} {v : Int} (p1 : (p : Int) < σ 127 21) (v0 : 1 ≤ v) (v1 : v ≤ 99) : cal (d + 4) 183 [vr 127, vi (p : Int), vi v] I P dr (fun o h => ∃ J, h = (S0, J, RR P dr) ∧ SV σ (fun _ _ => False) J ∧ (∀ a k, a < 127 → J a k = I a k) ∧ ((o = some (vi 1) ∧ YesA σ p v) ∨ (o = some (vi 0) ∧ NoA σ p v))) := by
  refine cal_in (Nat.le_of_ble_eq_true rfl) ?_
  have bp := hP.1
  have hnp : nP σ = (σ 127 21).toNat := rfl
  obtain ⟨σ', e'⟩ : ∃ σ', σ' = upI σ 138 (23 * (p : Int) + 3) v := ⟨_, rfl⟩
  have hE : EqP σ σ' := by rw [e']; exact EqP.w
  have hN' : WFn σ' := by rw [e']; exact hN.w
  have hP' : WFp σ' := by rw [e']; exact hP.wor v0 v1
  have hE2 : EqP σ' σ := hE.symm (by rw [e']; exact up_ne (by decide))
  have hV' : SV σ' (fun _ _ => False) (upI I 138 ((23 * (p : Int)) + 3) v) := hV.w hE hN hP ((sig_up rfl).trans (by rw [hV.1, e'])) (fun a q h => up_ne h)
  have h3 := (hP.2 (p : Int) (by omega) p1).2.2.2.1
  have hln := ln_b hN hP p
  show wp _ _ _ _ 0 [vr 127, vi (p : Int), vi v, vj] [] _
  refine s_ald k183_0 rfl ?_
  refine z_getRe (b := 138) k183_1 rfl rr_127_22 ?_
  refine z_push k183_4 ?_
  refine s_ild k183_6 rfl ?_
  refine z_imul k183_7 ?_
  refine z_push k183_8 ?_
  refine z_iadd k183_9 ?_
  refine z_ialde (z := pf σ (p : Int) 3) k183_10 rfl (by omega) (show ((23 * (p : Int)) + 3) < ((138 : Nat) : Int) by omega) (st_s hV.1 rfl) ?_
  refine s_ist3 k183_11 rfl ?_
  refine s_ald k183_12 rfl ?_
  refine z_getRe (b := 138) k183_13 rfl rr_127_22 ?_
  refine z_push k183_16 ?_
  refine s_ild k183_18 rfl ?_
  refine z_imul k183_19 ?_
  refine z_push k183_20 ?_
  refine z_iadd k183_21 ?_
  refine s_ild k183_22 rfl ?_
  refine z_iast k183_23 rfl (by omega) (show ((23 * (p : Int)) + 3) < ((138 : Nat) : Int) by omega) ?_
  refine s_ald k183_24 rfl ?_
  refine z_inv0 k183_25 rfl (Nat.le_of_ble_eq_true rfl) (c178 hN' hP' hV') (fun o h1 hq => ?_)
  obtain ⟨rfl, J, e, rfl, jV, jF, jB, jI⟩ := hq
  have hX := isX_w hN hP e' jI
  have hep := jB.2.2 e rfl p (by rw [nP_c hE]; omega)
  rw [ln_c hE hN hP] at hep
  have jV2 : SV σ (fun _ _ => False) (upI J 138 ((23 * (p : Int)) + 3) (pf σ (p : Int) 3)) := jV.w hE2 hN' hP' ((sig_up rfl).trans (by rw [jV.1, e']; exact up_back)) (fun a q h => up_ne h)
  have jlo : ∀ a k, a < 127 → upI J 138 ((23 * (p : Int)) + 3) (pf σ (p : Int) 3) a k = I a k := fun a k hk => (up_ne (by omega)).trans ((jF a k (by omega) (by omega)).trans (up_ne (by omega)))
  refine s_ald k183_28 rfl ?_
  refine z_getRe (b := 138) k183_29 rfl rr_127_22 ?_
  refine z_push k183_32 ?_
  refine s_ild k183_34 rfl ?_
  refine z_imul k183_35 ?_
  refine z_push k183_36 ?_
  refine z_iadd k183_37 ?_
  refine s_ild k183_38 rfl ?_
  refine z_iast k183_39 rfl (by omega) (show ((23 * (p : Int)) + 3) < ((138 : Nat) : Int) by omega) ?_
  by_cases c : e p < lnS σ p
  · rw [if_pos c] at hep
    refine s_ald k183_40 rfl ?_
    refine z_getRe (b := 144) k183_41 rfl rr_127_30 ?_
    refine s_ild k183_44 rfl ?_
    refine z_ialde (z := (e p : Int)) k183_45 rfl (by omega) (show (p : Int) < ((5 : Nat) : Int) by omega) ((up_ne (by decide)).trans hep) ?_
    refine z_push k183_46 ?_
    refine s_iceq k183_47 ⟨by omega, by omega⟩ (inR_lit rfl) (fun q => absurd q (by omega)) (fun h47 => ?_)
    refine z_push k183_50 ?_
    refine z_goto k183_51 ?_
    exact z_zret k183_55 (Or.inr rfl) ⟨_, rfl, jV2, jlo, Or.inl ⟨rfl, e, hX, c⟩⟩
  · rw [if_neg c] at hep
    refine s_ald k183_40 rfl ?_
    refine z_getRe (b := 144) k183_41 rfl rr_127_30 ?_
    refine s_ild k183_44 rfl ?_
    refine z_ialde (z := (-1)) k183_45 rfl (by omega) (show (p : Int) < ((5 : Nat) : Int) by omega) ((up_ne (by decide)).trans hep) ?_
    refine z_push k183_46 ?_
    refine s_iceq k183_47 (inR_lit rfl) (inR_lit rfl) (fun _ => ?_) (fun q => absurd q (by decide))
    refine z_push k183_54 ?_
    exact z_zret k183_55 (Or.inl rfl) ⟨_, rfl, jV2, jlo, Or.inr ⟨rfl, e, hX, c⟩⟩
set_option maxRecDepth 20000 in
theorem lp184 {d : Nat} {I σ : Nat → Int → Int} {P : Int → Nat} {dr : Nat} (hN : WFn σ) (hP : WFp σ) {p : Nat} (p1 : (p : Int) < σ 127 21) : ∀ (m : Nat) (lo hi : Int) (J : Nat → Int → Int) (l4 : mV), hi - lo ≤ m → 1 ≤ lo → lo ≤ hi → hi ≤ 99 → SV σ (fun _ _ => False) J → (∀ a k, a < 127 → J a k = I a k) → (lo = 1 ∨ NoA σ p (lo - 1)) → YesA σ p hi → wp (mcall MT CD (d + 4)) (CD 184) L0 (refD (xPri σ (p : Int)) σ I P dr) 32 [vr 127, vi (p : Int), vi lo, vi hi, l4] [] (S0, J, RR P dr) := by
  intro m
  induction m with
  | zero =>
    intro lo hi J l4 hm l1 l2 l3 hV hlo hn hy
    refine s_ild k184_32 rfl ?_
    refine s_ild k184_33 rfl ?_
    refine s_icge k184_34 ⟨by omega, by omega⟩ ⟨by omega, by omega⟩ (fun h34 => ?_) (fun q => absurd q (by omega))
    refine s_ild k184_68 rfl ?_
    have e1 : hi = lo := by omega
    subst e1
    exact z_iret k184_69 ⟨J, congrArg (fun u => some (vi u)) (PA.x p1 (Or.inr ⟨by omega, by omega, hy, hn⟩)), rfl, hV.1, hlo⟩
  | succ m ih =>
    intro lo hi J l4 hm l1 l2 l3 hV hlo hn hy
    refine s_ild k184_32 rfl ?_
    refine s_ild k184_33 rfl ?_
    refine s_icge k184_34 ⟨by omega, by omega⟩ ⟨by omega, by omega⟩ (fun h34 => ?_) (fun h34 => ?_)
    · refine s_ild k184_68 rfl ?_
      have e1 : hi = lo := by omega
      subst e1
      exact z_iret k184_69 ⟨J, congrArg (fun u => some (vi u)) (PA.x p1 (Or.inr ⟨by omega, by omega, hy, hn⟩)), rfl, hV.1, hlo⟩
    · refine s_ild k184_37 rfl ?_
      refine s_ild k184_38 rfl ?_
      refine z_iadd k184_39 ?_
      refine z_push k184_40 ?_
      refine z_idiv k184_41 ⟨by omega, by omega⟩ (inR_lit rfl) (by decide) ?_
      refine z_eqi (b := (lo + hi) / 2) (Int.tdiv_eq_ediv_of_nonneg (by omega)) ?_
      refine s_ist4 k184_42 rfl ?_
      refine s_ald k184_44 rfl ?_
      refine s_ild k184_45 rfl ?_
      refine s_ild k184_46 rfl ?_
      refine z_inv2 k184_48 rfl (Nat.le_of_ble_eq_true rfl) (c183 hN hP hV p1 (by omega) (by omega)) (fun o h1 hq => ?_)
      obtain ⟨J2, rfl, gV, gF, ⟨rfl, hr⟩ | ⟨rfl, hr⟩⟩ := hq
      · refine s_ifeq k184_51 (inR_lit rfl) (fun q => absurd q (by decide)) (fun _ => ?_)
        refine s_ild k184_54 rfl ?_
        refine s_ist3 k184_56 rfl ?_
        refine z_goto k184_57 ?_
        refine z_goto k184_65 ?_
        exact ih _ _ J2 _ (by omega) l1 (by omega) (by omega) gV (fun a k hk => (gF a k hk).trans (hlo a k hk)) hn hr
      · refine s_ifeq k184_51 (inR_lit rfl) (fun _ => ?_) (fun q => absurd rfl q)
        refine s_ild k184_60 rfl ?_
        refine z_push k184_62 ?_
        refine z_iadd k184_63 ?_
        refine s_ist2 k184_64 rfl ?_
        refine z_goto k184_65 ?_
        exact ih _ _ J2 _ (by omega) (by omega) (by omega) l3 gV (fun a k hk => (gF a k hk).trans (hlo a k hk)) (Or.inr (by rw [show (lo + hi) / 2 + 1 - 1 = (lo + hi) / 2 by omega]; exact hr)) hy
set_option maxRecDepth 20000 in
theorem r184 {d : Nat} {I : Nat → Int → Int} {P : Int → Nat} {dr : Nat} {σ : Nat → Int → Int} (hs : sig I = σ) (hW : WFs σ) {p : Int} (i_p : inR p) : cal (d + 8) 184 [vr 127, vi p] I P dr (refD (xPri σ p) σ I P dr) := by
  refine cal_in (Nat.le_of_ble_eq_true rfl) ?_
  obtain ⟨hN, hT, hP, hA, hL⟩ := id hW
  have b0 := hN.1
  have b1 := hN.2.1
  have b2 := hN.2.2.1
  have b10 := hN.2.2.2.2.2.2.2.1
  have bp := hP.1
  show wp _ _ _ _ 0 [vr 127, vi p, vj, vj, vj] [] _
  refine s_ald k184_0 rfl ?_
  refine s_ild k184_1 rfl ?_
  refine z_inv1A k184_2 rfl (Nat.le_of_ble_eq_true rfl) (c139 hs (by omega) i_p) ?_
  refine z_ifneb k184_5 (fun h5 => ?_) (fun h5 => ?_)
  · refine s_ald k184_11 rfl ?_
    refine z_inv0 k184_12 rfl (Nat.le_of_ble_eq_true rfl) (c177 hs hN hP) (fun o h1 hq => ?_)
    obtain ⟨rfl, J1, rfl, gF, gV⟩ := hq
    obtain ⟨pn, rfl⟩ : ∃ q : Nat, p = (q : Int) := ⟨p.toNat, by omega⟩
    refine s_ald k184_15 rfl ?_
    refine s_ild k184_16 rfl ?_
    refine z_push k184_17 ?_
    refine z_inv2 k184_19 rfl (Nat.le_of_ble_eq_true rfl) (c183 hN hP gV (by omega) (by decide) (by decide)) (fun o h1 hq => ?_)
    obtain ⟨J2, rfl, gV2, gF2, ⟨rfl, hr⟩ | ⟨rfl, hr⟩⟩ := hq
    · refine s_ifne k184_22 (inR_lit rfl) (fun _ => ?_) (fun q => absurd q (by decide))
      refine z_push k184_27 ?_
      refine s_ist2 k184_28 rfl ?_
      refine z_push k184_29 ?_
      refine s_ist3 k184_31 rfl ?_
      exact lp184 hN hP (by omega) 98 1 99 J2 _ (by decide) (by decide) (by decide) (by decide) gV2 (fun a k hk => (gF2 a k hk).trans (gF a k (by omega))) (Or.inl rfl) hr
    · refine s_ifne k184_22 (inR_lit rfl) (fun q => absurd rfl q) (fun _ => ?_)
      refine z_push k184_25 ?_
      exact z_iret k184_26 ⟨J2, congrArg (fun u => some (vi u)) (PA.x (by omega) (Or.inl ⟨rfl, hr⟩)), rfl, gV2.1, fun a k hk => (gF2 a k hk).trans (gF a k (by omega))⟩
  · refine z_push k184_8 ?_
    refine z_iret k184_10 ⟨I, ?_, rfl, hs, fun _ _ _ => rfl⟩
    unfold xPri
    rw [if_neg (by omega)]
set_option maxRecDepth 20000 in
theorem t6 {d : Nat} {I σ : Nat → Int → Int} {P : Int → Nat} {dr : Nat} {p : Nat} (p1 : (p : Int) < σ 127 21) (lo hi : Int) (e : hi = lo) (l1 : 1 ≤ lo) (l2 : lo ≤ 100) (hn : lo = 1 ∨ NoA σ p (lo - 1)) (hy : hi = 100 ∨ YesA σ p hi) (k l5 : mV) : wp (mcall MT CD (d + 4)) (CD 6) L0 (ans (vi (xPri σ (p : Int))) I P dr) 58 [vr 69, vi (p : Int), vi lo, vi hi, k, l5] [] (S0, I, RR P dr) := by
  subst e
  refine s_ild k6_58 rfl ?_
  refine z_push k6_59 ?_
  refine s_icgt k6_61 ⟨by omega, by omega⟩ (inR_lit rfl) (fun h61 => ?_) (fun h61 => ?_)
  · refine z_push k6_68 ?_
    refine z_iret k6_69 (ans_i (PA.x p1 (Or.inl ⟨rfl, ?_⟩)))
    have e1 : hi = 100 := by omega
    subst e1
    rcases hn with h | h
    · omega
    · exact h
  · refine s_ild k6_64 rfl ?_
    refine z_goto k6_65 ?_
    refine z_iret k6_69 (ans_i (PA.x p1 (Or.inr ⟨l1, by omega, ?_, hn⟩)))
    rcases hy with h | h
    · omega
    · exact h
set_option maxRecDepth 20000 in
theorem lp6p {d : Nat} {I σ : Nat → Int → Int} {P : Int → Nat} {dr : Nat} (hN : WFn σ) (hP : WFp σ) (hcp : CRp I σ P dr) (hw : TBw σ I (2 ^ nP σ)) (hl : TBl σ I (2 ^ nP σ)) {p : Nat} (p1 : (p : Int) < σ 127 21) : ∀ (m k : Nat) (lo hi : Int) (l5 : mV), k + m = 7 → hi - lo < ((2 ^ m : Nat) : Int) → 1 ≤ lo → lo ≤ hi → hi ≤ 100 → (lo = 1 ∨ NoA σ p (lo - 1)) → (hi = 100 ∨ YesA σ p hi) → wp (mcall MT CD (d + 4)) (CD 6) L0 (ans (vi (xPri σ (p : Int))) I P dr) 8 [vr 69, vi (p : Int), vi lo, vi hi, vi (k : Int), l5] [] (S0, I, RR P dr) := by
  have bp := hP.1
  have hnp : nP σ = (σ 127 21).toNat := rfl
  have hn2 := np2 hP
  intro m
  induction m with
  | zero =>
    intro k lo hi l5 hk hm l1 l2 l3 hn hy
    have hm0 : hi - lo < ((1 : Nat) : Int) := hm
    refine s_ild k6_8 rfl ?_
    refine z_push k6_10 ?_
    refine s_icge k6_12 ⟨by omega, by omega⟩ (inR_lit rfl) (fun h12 => ?_) (fun q => absurd q (by omega))
    exact t6 p1 lo hi (by omega) l1 (by omega) hn hy _ _
  | succ m ih =>
    intro k lo hi l5 hk hm l1 l2 l3 hn hy
    have h2m : 2 ^ (m + 1) = 2 ^ m * 2 := rfl
    rw [h2m] at hm
    refine s_ild k6_8 rfl ?_
    refine z_push k6_10 ?_
    refine s_icge k6_12 ⟨by omega, by omega⟩ (inR_lit rfl) (fun q => absurd q (by omega)) (fun h12 => ?_)
    refine s_ild k6_15 rfl ?_
    refine s_ild k6_16 rfl ?_
    refine s_icge k6_17 ⟨by omega, by omega⟩ ⟨by omega, by omega⟩ (fun h17 => ?_) (fun h17 => ?_)
    · exact t6 p1 lo hi (by omega) l1 (by omega) hn hy _ _
    · refine s_ild k6_20 rfl ?_
      refine s_ild k6_21 rfl ?_
      refine z_iadd k6_22 ?_
      refine z_push k6_23 ?_
      refine z_idiv k6_24 ⟨by omega, by omega⟩ (inR_lit rfl) (by decide) ?_
      refine z_eqi (b := (lo + hi) / 2) (Int.tdiv_eq_ediv_of_nonneg (by omega)) ?_
      refine s_ist5 k6_25 rfl ?_
      refine s_ald k6_27 rfl ?_
      refine s_ild k6_28 rfl ?_
      refine s_ild k6_29 rfl ?_
      refine z_inv2 k6_31 rfl (Nat.le_of_ble_eq_true rfl) (c25 hN hP hcp hw hl (wf := wX σ (p : Int) ((lo + hi) / 2)) (fun s hs => c27p hN hP hcp hw hl hs (by omega)) (fun s => by have := sBx_b hP (s := s) (p := p) (v := (lo + hi) / 2) (by omega) (by omega) (nP σ) (by omega); omega)) (fun o h1 hq => ?_)
      obtain ⟨rfl, f, cf, rfl, f1, f2, f3⟩ := hq
      have hV := fir_vec f2.2.1
      have hX : IsX σ p ((lo + hi) / 2) (nzC σ cf) := isB_vec hN hP (w := wX σ (p : Int) ((lo + hi) / 2)) (z := zS σ) hV f3
      have hbit := s5_bit f (by omega) p (by omega)
      have hin := vec_in hN hP hV (q := p) (by omega)
      refine s_ild k6_34 rfl ?_
      refine z_sta2A k6_35 (Nat.le_of_ble_eq_true rfl) (c128) ?_
      refine z_ifeqb k6_38 (fun h38 => ?_) (fun h38 => ?_)
      · refine s_ild k6_47 rfl ?_
        refine z_push k6_49 ?_
        refine z_iadd k6_50 ?_
        refine s_ist2 k6_51 rfl ?_
        refine s_iinc4 k6_52 rfl ?_
        refine z_goto k6_55 ?_
        exact ih (k + 1) _ _ _ (by omega) (by omega) (by omega) (by omega) l3 (Or.inr (by rw [show (lo + hi) / 2 + 1 - 1 = (lo + hi) / 2 by omega]; exact ⟨_, hX, fun u => h38 (hbit.mpr (hin.mp (nz_in.mp u)))⟩)) hy
      · refine s_ild k6_41 rfl ?_
        refine s_ist3 k6_43 rfl ?_
        refine z_goto k6_44 ?_
        refine s_iinc4 k6_52 rfl ?_
        refine z_goto k6_55 ?_
        exact ih (k + 1) _ _ _ (by omega) (by omega) l1 (by omega) (by omega) hn (Or.inr ⟨_, hX, nz_in.mpr (hin.mpr (hbit.mp h38))⟩)
set_option maxRecDepth 20000 in
theorem c6 {d : Nat} {I : Nat → Int → Int} {P : Int → Nat} {dr : Nat} {σ : Nat → Int → Int} (hN : WFn σ) (hP : WFp σ) (hcp : CRp I σ P dr) (hw : TBw σ I (2 ^ nP σ)) (hl : TBl σ I (2 ^ nP σ)) {p : Nat} (p1 : (p : Int) < σ 127 21) : cal (d + 5) 6 [vr 69, vi (p : Int)] I P dr (ans (vi (xPri σ (p : Int))) I P dr) := by
  refine cal_in (Nat.le_of_ble_eq_true rfl) ?_
  have bp := hP.1
  have hnp : nP σ = (σ 127 21).toNat := rfl
  have hn2 := np2 hP
  show wp _ _ _ _ 0 [vr 69, vi (p : Int), vj, vj, vj, vj] [] _
  refine z_push k6_0 ?_
  refine s_ist2 k6_1 rfl ?_
  refine z_push k6_2 ?_
  refine s_ist3 k6_4 rfl ?_
  refine z_push k6_5 ?_
  refine s_ist4 k6_6 rfl ?_
  exact lp6p hN hP hcp hw hl p1 7 0 1 100 _ (by decide) (by decide) (by decide) (by decide) (by decide) (Or.inl rfl) (Or.inl rfl)
set_option maxRecDepth 20000 in
theorem k110 {d : Nat} {I : Nat → Int → Int} {P : Int → Nat} {dr : Nat} {σ : Nat → Int → Int} (hG : CG I σ P dr) (hW : WFs σ) {g : Nat} (hg : g + 1 < 1000) (hX : CC σ I g) {p : Int} (i_p : inR p) : cal (d + 10) 110 [vr 16, vi p] I P dr (clsD (xPri σ p) σ I P dr (g + 1)) := by
  refine cal_in (Nat.le_of_ble_eq_true rfl) ?_
  obtain ⟨hN, hT, hP, hA, hL⟩ := id hW
  have b0 := hN.1
  have b1 := hN.2.1
  have b2 := hN.2.2.1
  have b10 := hN.2.2.2.2.2.2.2.1
  obtain ⟨hC, hCt, hcp, hCl, hca⟩ := id hG
  obtain ⟨cn, ct, cg, cmr, cmf, cmt, cw, cT, cS, cW⟩ := id hC
  have bp := hP.1
  have hPc : ∀ k, 0 ≤ k → k < 5 → isPl (P k) := hcp.2.1.1
  obtain ⟨g1, hg1, hB1, hF1⟩ := id hX
  have hX2 : CC σ I (g + 1) := ⟨g1, by omega, hB1, hF1⟩
  have hnp : nP σ = (σ 127 21).toNat := rfl
  have hn2 := np2 hP
  show wp _ _ _ _ 0 [vr 16, vi p] [] _
  refine s_ald k110_0 rfl ?_
  refine z_getRe (b := 42) k110_1 rfl rr_16_2 ?_
  refine s_ild k110_4 rfl ?_
  refine z_inv1A k110_5 rfl (Nat.le_of_ble_eq_true rfl) (c29 hcp.1 bp i_p) ?_
  refine z_ifneb k110_8 (fun h8 => ?_) (fun h8 => ?_)
  · obtain ⟨pn, rfl⟩ : ∃ q : Nat, p = (q : Int) := ⟨p.toNat, by omega⟩
    refine s_ald k110_14 rfl ?_
    refine z_getRe (b := 69) k110_15 rfl rr_16_3 ?_
    refine z_inv0 k110_18 rfl (Nat.le_of_ble_eq_true rfl) (c2 hN hP hC hcp (by omega) hB1 hF1) (fun o h1 hq => ?_)
    obtain ⟨rfl, J, g2, rfl, jF, hg2, jB, j17, jR⟩ := hq
    have hXJ : CC σ J (g + 1) := ⟨g2, by omega, jB, fun _ => jR⟩
    obtain ⟨jK, jW, jL, jH, f, cf, jf, f1, jA, jV⟩ := id jR
    have hcpJ := hcp.keep hP (fun a q _ _ => jF a q (by omega) (by omega))
    have hbc := bC_cls hN hP jA.2.1 jV
    have hZ : BZ σ J P dr f cf := ⟨hcpJ, jK, jf, f1, jA⟩
    refine s_ald k110_21 rfl ?_
    refine z_getRe (b := 69) k110_22 rfl rr_16_3 ?_
    refine s_ild k110_25 rfl ?_
    refine z_inv1A k110_26 rfl (Nat.le_of_ble_eq_true rfl) (c6 hN hP hcpJ jW jL (p := pn) (by omega)) ?_
    exact z_iret k110_29 ⟨J, rfl, rfl, jF.b, hXJ⟩
  · refine z_push k110_11 ?_
    refine z_iret k110_13 ⟨I, ?_, rfl, FCb.rf, hX2⟩
    unfold xPri
    rw [if_neg (by omega)]
