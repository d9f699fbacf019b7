/-! the best night: alerts, the public method of the class -/
def nvOK (v : Int) : Prop := 1000 ≤ v ∧ v ≤ 4999 ∧ v / 100 % 10 ≤ 3 ∧ v / 10 % 10 ≤ 8 ∧ v % 10 ≤ 1
noncomputable def alP (σ : Nat → Int → Int) (t i v fr to : Int) : Int × Int := Classical.epsilon (fun q : Int × Int => ALs σ t (v / 100 % 10) (v / 10 % 10) (v % 10) (v / 1000).toNat i.toNat fr.toNat (to.toNat + 1) q.1 q.2)
theorem alP_x {σ : Nat → Int → Int} {t i v fr to beg loss : Int} (h : ALs σ t (v / 100 % 10) (v / 10 % 10) (v % 10) (v / 1000).toNat i.toNat fr.toNat (to.toNat + 1) beg loss) : beg = (alP σ t i v fr to).1 ∧ loss = (alP σ t i v fr to).2 :=
  ALp.one h (Classical.epsilon_spec (p := fun q : Int × Int => ALs σ t (v / 100 % 10) (v / 10 % 10) (v % 10) (v / 1000).toNat i.toNat fr.toNat (to.toNat + 1) q.1 q.2) ⟨(beg, loss), h⟩)
def alOK (σ : Nat → Int → Int) (i v fr to w : Int) : Prop := (0 ≤ i ∧ i ≤ 2) ∧ nvOK v ∧ (0 ≤ fr ∧ fr < σ 127 0) ∧ (0 ≤ to ∧ to < σ 127 0) ∧ fr ≤ to ∧ (0 ≤ w ∧ w ≤ 1)
noncomputable def xAlt (σ : Nat → Int → Int) (t i v fr to w : Int) : Int := if 0 ≤ t ∧ t < σ 127 2 then (@ite Int (alOK σ i v fr to w) (Classical.propDecidable _) (if w = 0 then (alP σ t i v fr to).1 else (alP σ t i v fr to).2) (-3)) else -2
theorem CFr.h {σ I J : Nat → Int → Int} {g : Nat} (hP : WFp σ) (h : CFr σ I g) (hM : HM σ J g) (k : ∀ a q, 69 ≤ a → a ≤ 117 → a ≠ 79 → a ≠ 117 → ¬ (a = 69 ∧ 2 ≤ q ∧ q ≤ 3) → J a q = I a q) : CFr σ J g := by
  have hn := np2 hP
  obtain ⟨hK, hW, hL, -, f, cf, f1, f2, ⟨a1, a2, a3⟩, hB⟩ := h
  exact ⟨hK.k hP (fun a q _ _ => k a q (by omega) (by omega) (by omega) (by omega) (by omega)), hW.k (fun a q _ _ => k a q (by omega) (by omega) (by omega) (by omega) (by omega)), hL.k (fun q hq => ⟨k 80 _ (by decide) (by decide) (by decide) (by decide) (by omega), fun x => k _ _ (by omega) (by omega) (by omega) (by omega) (by omega)⟩), hM, f, cf, (k 69 16 (by decide) (by decide) (by decide) (by decide) (by decide)).trans f1, f2, ⟨(k 80 _ (by decide) (by decide) (by decide) (by decide) (by omega)).trans a1, a2, fun q hq => (k _ _ (by omega) (by omega) (by omega) (by omega) (by omega)).trans (a3 q hq)⟩, hB⟩
theorem CBx.h {I J : Nat → Int → Int} {σ : Nat → Int → Int} {g : Nat} (h : CBx I g) (hM : HM σ J g) (k : ∀ a q, 69 ≤ a → a ≤ 117 → a ≠ 79 → a ≠ 117 → ¬ (a = 69 ∧ 2 ≤ q ∧ q ≤ 3) → J a q = I a q) : CBx J g := by
  obtain ⟨h1, ⟨h2, h3, h4⟩, h5, -⟩ := h
  have k17 := k 69 17 (by decide) (by decide) (by decide) (by decide) (by decide)
  refine ⟨(k 69 15 (by decide) (by decide) (by decide) (by decide) (by decide)).trans h1, ⟨(k 114 0 (by decide) (by decide) (by decide) (by decide) (by decide)).trans h2, (k 115 0 (by decide) (by decide) (by decide) (by decide) (by decide)).trans h3, (k 116 0 (by decide) (by decide) (by decide) (by decide) (by decide)).trans h4⟩, by omega, fun x x0 x1 => ?_⟩
  obtain ⟨q, q1, q2, -⟩ := hM x x0 x1
  exact ⟨q, q1, q2⟩
theorem CC.k {σ I J : Nat → Int → Int} {g : Nat} (hP : WFp σ) (h : CC σ I g) (k : ∀ a q, 69 ≤ a → a ≤ 117 → J a q = I a q) : CC σ J g := by
  obtain ⟨g', hg, hB, hF⟩ := h
  refine ⟨g', hg, ?_, fun u => ?_⟩
  · obtain ⟨h1, ⟨h2, h3, h4⟩, h5, h6⟩ := hB
    have k17 := k 69 17 (by decide) (by decide)
    refine ⟨(k _ _ (by decide) (by decide)).trans h1, ⟨(k _ _ (by decide) (by decide)).trans h2, (k _ _ (by decide) (by decide)).trans h3, (k _ _ (by decide) (by decide)).trans h4⟩, by omega, fun x x0 x1 => ?_⟩
    obtain ⟨q, q1, q2⟩ := h6 x x0 x1
    exact ⟨q, (k _ _ (by decide) (by decide)).trans q1, q2⟩
  · have hR := hF ((k 69 17 (by decide) (by decide)).symm.trans u)
    exact hR.h hP (hR.2.2.2.1.no (fun x => k _ _ (by decide) (by decide))) (fun a q h1 h2 _ _ _ => k a q h1 h2)
theorem bC_isB {σ : Nat → Int → Int} {e : Nat → Nat} (h : IsB (nP σ) (okS σ (fun _ _ => False) (nP σ)) (WSc σ) (SSc σ) e) : IsB (nP σ) (okS σ (fun _ _ => False) (nP σ)) (WSc σ) (SSc σ) (bC σ) := Classical.epsilon_spec (p := fun e => IsB (nP σ) (okS σ (fun _ _ => False) (nP σ)) (WSc σ) (SSc σ) e) ⟨e, h⟩
theorem tm10 (v : Int) : -10 < v.tmod 10 ∧ v.tmod 10 < 10 := by
  by_cases c : 0 ≤ v
  · rw [Int.tmod_eq_emod_of_nonneg c]; omega
  · have h := Int.neg_tmod (-v) 10
    rw [Int.neg_neg, Int.tmod_eq_emod_of_nonneg (a := -v) (by omega)] at h
    omega
theorem td10 (v : Int) (h1 : -2147483648 ≤ v) (h2 : v < 2147483648) : -2147483648 ≤ v.tdiv 10 ∧ v.tdiv 10 < 2147483648 := by
  by_cases c : 0 ≤ v
  · rw [Int.tdiv_eq_ediv_of_nonneg c]; omega
  · have h := Int.neg_tdiv (-v) 10
    rw [Int.neg_neg, Int.tdiv_eq_ediv_of_nonneg (a := -v) (by omega)] at h
    omega
theorem td100 (v : Int) (h1 : -2147483648 ≤ v) (h2 : v < 2147483648) : -2147483648 ≤ v.tdiv 100 ∧ v.tdiv 100 < 2147483648 := by
  by_cases c : 0 ≤ v
  · rw [Int.tdiv_eq_ediv_of_nonneg c]; omega
  · have h := Int.neg_tdiv (-v) 100
    rw [Int.neg_neg, Int.tdiv_eq_ediv_of_nonneg (a := -v) (by omega)] at h
    omega
set_option maxRecDepth 20000 in
theorem c132 {d : Nat} {I : Nat → Int → Int} {P : Int → Nat} {dr : Nat} {v : Int} (i_v : inR v) : cal (d + 2) 132 [vr 16, vi v] I P dr (fun o h => ∃ J, h = (S0, J, RR P dr) ∧ (∀ a q, a ≠ 126 → J a q = I a q) ∧ ((o = some (vi 1) ∧ nvOK v ∧ J 126 0 = v / 1000 ∧ J 126 1 = v / 100 % 10 ∧ J 126 2 = v / 10 % 10 ∧ J 126 3 = v % 10) ∨ (o = some (vi 0) ∧ ¬ nvOK v))) := by
  refine cal_in (Nat.le_of_ble_eq_true rfl) ?_
  obtain ⟨iv1, iv2⟩ := id i_v
  have tmb := tm10 v
  have tdb := td10 v iv1 iv2
  have tdc := td100 v iv1 iv2
  show wp _ _ _ _ 0 [vr 16, vi v, vj] [] _
  refine s_ild k132_0 rfl ?_
  refine z_push k132_1 ?_
  refine z_irem k132_3 i_v (inR_lit rfl) (by decide) ?_
  refine s_ist2 k132_4 rfl ?_
  refine s_ald k132_5 rfl ?_
  refine z_getRe (b := 126) k132_6 rfl rr_16_6 ?_
  refine s_ild k132_9 rfl ?_
  refine z_push k132_10 ?_
  refine z_idiv k132_13 i_v (inR_lit rfl) (by decide) ?_
  refine z_putIe (q := 0) k132_14 rfl rfl ?_
  refine s_ald k132_17 rfl ?_
  refine z_getRe (b := 126) k132_18 rfl rr_16_6 ?_
  refine s_ild k132_21 rfl ?_
  refine z_push k132_22 ?_
  refine z_idiv k132_24 i_v (inR_lit rfl) (by decide) ?_
  refine z_push k132_25 ?_
  refine z_irem k132_27 ⟨by omega, by omega⟩ (inR_lit rfl) (by decide) ?_
  refine z_putIe (q := 1) k132_28 rfl rfl ?_
  refine s_ald k132_31 rfl ?_
  refine z_getRe (b := 126) k132_32 rfl rr_16_6 ?_
  refine s_ild k132_35 rfl ?_
  refine z_push k132_36 ?_
  refine z_idiv k132_38 i_v (inR_lit rfl) (by decide) ?_
  refine z_push k132_39 ?_
  refine z_irem k132_41 ⟨by omega, by omega⟩ (inR_lit rfl) (by decide) ?_
  refine z_putIe (q := 2) k132_42 rfl rfl ?_
  refine s_ald k132_45 rfl ?_
  refine z_getRe (b := 126) k132_46 rfl rr_16_6 ?_
  refine s_ild k132_49 rfl ?_
  refine z_push k132_50 ?_
  refine s_icne k132_51 ⟨by omega, by omega⟩ (inR_lit rfl) (fun h51 => ?_) (fun h51 => ?_)
  · refine z_push k132_58 ?_
    refine z_putZe (q := 3) k132_59 rfl rfl (by decide) ?_
    refine s_ild k132_62 rfl ?_
    refine s_iflt k132_63 i_v (fun h63 => ?_) (fun h63 => ?_)
    · refine z_push k132_125 ?_
      exact z_zret k132_126 (Or.inl rfl) ⟨_, rfl, fun a q h => (up_ne h).trans ((up_ne h).trans ((up_ne h).trans (up_ne h))), Or.inr ⟨rfl, by unfold nvOK; omega⟩⟩
    · have d1 : v.tdiv 1000 = v / 1000 := Int.tdiv_eq_ediv_of_nonneg (by omega)
      have d2 : (v.tdiv 100).tmod 10 = v / 100 % 10 := by rw [Int.tdiv_eq_ediv_of_nonneg (by omega), Int.tmod_eq_emod_of_nonneg (by omega)]
      have d3 : (v.tdiv 10).tmod 10 = v / 10 % 10 := by rw [Int.tdiv_eq_ediv_of_nonneg (by omega), Int.tmod_eq_emod_of_nonneg (by omega)]
      have d4 : v.tmod 10 = v % 10 := Int.tmod_eq_emod_of_nonneg (by omega)
      refine s_ald k132_66 rfl ?_
      refine z_getRe (b := 126) k132_67 rfl rr_16_6 ?_
      refine z_getIe (z := v.tdiv 1000) k132_70 rfl ((up_nk (by decide)).trans ((up_nk (by decide)).trans ((up_nk (by decide)).trans up_at))) ?_
      refine z_push k132_73 ?_
      refine z_push k132_74 ?_
      refine z_sta3A k132_75 (Nat.le_of_ble_eq_true rfl) (c126 ⟨by omega, by omega⟩ (inR_lit rfl) (inR_lit rfl)) ?_
      refine z_ifeqb k132_78 (fun h78 => ?_) (fun h78 => ?_)
      · refine z_push k132_125 ?_
        exact z_zret k132_126 (Or.inl rfl) ⟨_, rfl, fun a q h => (up_ne h).trans ((up_ne h).trans ((up_ne h).trans (up_ne h))), Or.inr ⟨rfl, by unfold nvOK; omega⟩⟩
      · refine s_ald k132_81 rfl ?_
        refine z_getRe (b := 126) k132_82 rfl rr_16_6 ?_
        refine z_getIe (z := (v.tdiv 100).tmod 10) k132_85 rfl ((up_nk (by decide)).trans ((up_nk (by decide)).trans up_at)) ?_
        refine z_push k132_88 ?_
        refine z_push k132_89 ?_
        refine z_sta3A k132_90 (Nat.le_of_ble_eq_true rfl) (c126 ⟨by omega, by omega⟩ (inR_lit rfl) (inR_lit rfl)) ?_
        refine z_ifeqb k132_93 (fun h93 => ?_) (fun h93 => ?_)
        · refine z_push k132_125 ?_
          exact z_zret k132_126 (Or.inl rfl) ⟨_, rfl, fun a q h => (up_ne h).trans ((up_ne h).trans ((up_ne h).trans (up_ne h))), Or.inr ⟨rfl, by unfold nvOK; omega⟩⟩
        · refine s_ald k132_96 rfl ?_
          refine z_getRe (b := 126) k132_97 rfl rr_16_6 ?_
          refine z_getIe (z := (v.tdiv 10).tmod 10) k132_100 rfl ((up_nk (by decide)).trans up_at) ?_
          refine z_push k132_103 ?_
          refine z_push k132_104 ?_
          refine z_sta3A k132_106 (Nat.le_of_ble_eq_true rfl) (c126 ⟨by omega, by omega⟩ (inR_lit rfl) (inR_lit rfl)) ?_
          refine z_ifeqb k132_109 (fun h109 => ?_) (fun h109 => ?_)
          · refine z_push k132_125 ?_
            exact z_zret k132_126 (Or.inl rfl) ⟨_, rfl, fun a q h => (up_ne h).trans ((up_ne h).trans ((up_ne h).trans (up_ne h))), Or.inr ⟨rfl, by unfold nvOK; omega⟩⟩
          · refine s_ild k132_112 rfl ?_
            refine z_push k132_113 ?_
            refine z_push k132_114 ?_
            refine z_sta3A k132_115 (Nat.le_of_ble_eq_true rfl) (c126 ⟨by omega, by omega⟩ (inR_lit rfl) (inR_lit rfl)) ?_
            refine z_ifeqb k132_118 (fun h118 => ?_) (fun h118 => ?_)
            · refine z_push k132_125 ?_
              exact z_zret k132_126 (Or.inl rfl) ⟨_, rfl, fun a q h => (up_ne h).trans ((up_ne h).trans ((up_ne h).trans (up_ne h))), Or.inr ⟨rfl, by unfold nvOK; omega⟩⟩
            · refine z_push k132_121 ?_
              refine z_goto k132_122 ?_
              exact z_zret k132_126 (Or.inr rfl) ⟨_, rfl, fun a q h => (up_ne h).trans ((up_ne h).trans ((up_ne h).trans (up_ne h))), Or.inl ⟨rfl, by unfold nvOK; omega, ((up_nk (by decide)).trans ((up_nk (by decide)).trans ((up_nk (by decide)).trans up_at))).trans (by omega), ((up_nk (by decide)).trans ((up_nk (by decide)).trans up_at)).trans (by omega), ((up_nk (by decide)).trans up_at).trans (by omega), up_at.trans (by omega)⟩⟩
  · refine z_push k132_54 ?_
    refine z_goto k132_55 ?_
    refine z_putZe (q := 3) k132_59 rfl rfl (by decide) ?_
    refine s_ild k132_62 rfl ?_
    refine s_iflt k132_63 i_v (fun h63 => ?_) (fun h63 => ?_)
    · refine z_push k132_125 ?_
      exact z_zret k132_126 (Or.inl rfl) ⟨_, rfl, fun a q h => (up_ne h).trans ((up_ne h).trans ((up_ne h).trans (up_ne h))), Or.inr ⟨rfl, by unfold nvOK; omega⟩⟩
    · have d1 : v.tdiv 1000 = v / 1000 := Int.tdiv_eq_ediv_of_nonneg (by omega)
      have d2 : (v.tdiv 100).tmod 10 = v / 100 % 10 := by rw [Int.tdiv_eq_ediv_of_nonneg (by omega), Int.tmod_eq_emod_of_nonneg (by omega)]
      have d3 : (v.tdiv 10).tmod 10 = v / 10 % 10 := by rw [Int.tdiv_eq_ediv_of_nonneg (by omega), Int.tmod_eq_emod_of_nonneg (by omega)]
      have d4 : v.tmod 10 = v % 10 := Int.tmod_eq_emod_of_nonneg (by omega)
      refine s_ald k132_66 rfl ?_
      refine z_getRe (b := 126) k132_67 rfl rr_16_6 ?_
      refine z_getIe (z := v.tdiv 1000) k132_70 rfl ((up_nk (by decide)).trans ((up_nk (by decide)).trans ((up_nk (by decide)).trans up_at))) ?_
      refine z_push k132_73 ?_
      refine z_push k132_74 ?_
      refine z_sta3A k132_75 (Nat.le_of_ble_eq_true rfl) (c126 ⟨by omega, by omega⟩ (inR_lit rfl) (inR_lit rfl)) ?_
      refine z_ifeqb k132_78 (fun h78 => ?_) (fun h78 => ?_)
      · refine z_push k132_125 ?_
        exact z_zret k132_126 (Or.inl rfl) ⟨_, rfl, fun a q h => (up_ne h).trans ((up_ne h).trans ((up_ne h).trans (up_ne h))), Or.inr ⟨rfl, by unfold nvOK; omega⟩⟩
      · refine s_ald k132_81 rfl ?_
        refine z_getRe (b := 126) k132_82 rfl rr_16_6 ?_
        refine z_getIe (z := (v.tdiv 100).tmod 10) k132_85 rfl ((up_nk (by decide)).trans ((up_nk (by decide)).trans up_at)) ?_
        refine z_push k132_88 ?_
        refine z_push k132_89 ?_
        refine z_sta3A k132_90 (Nat.le_of_ble_eq_true rfl) (c126 ⟨by omega, by omega⟩ (inR_lit rfl) (inR_lit rfl)) ?_
        refine z_ifeqb k132_93 (fun h93 => ?_) (fun h93 => ?_)
        · refine z_push k132_125 ?_
          exact z_zret k132_126 (Or.inl rfl) ⟨_, rfl, fun a q h => (up_ne h).trans ((up_ne h).trans ((up_ne h).trans (up_ne h))), Or.inr ⟨rfl, by unfold nvOK; omega⟩⟩
        · refine s_ald k132_96 rfl ?_
          refine z_getRe (b := 126) k132_97 rfl rr_16_6 ?_
          refine z_getIe (z := (v.tdiv 10).tmod 10) k132_100 rfl ((up_nk (by decide)).trans up_at) ?_
          refine z_push k132_103 ?_
          refine z_push k132_104 ?_
          refine z_sta3A k132_106 (Nat.le_of_ble_eq_true rfl) (c126 ⟨by omega, by omega⟩ (inR_lit rfl) (inR_lit rfl)) ?_
          refine z_ifeqb k132_109 (fun h109 => ?_) (fun h109 => ?_)
          · refine z_push k132_125 ?_
            exact z_zret k132_126 (Or.inl rfl) ⟨_, rfl, fun a q h => (up_ne h).trans ((up_ne h).trans ((up_ne h).trans (up_ne h))), Or.inr ⟨rfl, by unfold nvOK; omega⟩⟩
          · refine s_ild k132_112 rfl ?_
            refine z_push k132_113 ?_
            refine z_push k132_114 ?_
            refine z_sta3A k132_115 (Nat.le_of_ble_eq_true rfl) (c126 ⟨by omega, by omega⟩ (inR_lit rfl) (inR_lit rfl)) ?_
            refine z_ifeqb k132_118 (fun h118 => ?_) (fun h118 => ?_)
            · refine z_push k132_125 ?_
              exact z_zret k132_126 (Or.inl rfl) ⟨_, rfl, fun a q h => (up_ne h).trans ((up_ne h).trans ((up_ne h).trans (up_ne h))), Or.inr ⟨rfl, by unfold nvOK; omega⟩⟩
            · refine z_push k132_121 ?_
              refine z_goto k132_122 ?_
              exact z_zret k132_126 (Or.inr rfl) ⟨_, rfl, fun a q h => (up_ne h).trans ((up_ne h).trans ((up_ne h).trans (up_ne h))), Or.inl ⟨rfl, by unfold nvOK; omega, ((up_nk (by decide)).trans ((up_nk (by decide)).trans ((up_nk (by decide)).trans up_at))).trans (by omega), ((up_nk (by decide)).trans ((up_nk (by decide)).trans up_at)).trans (by omega), ((up_nk (by decide)).trans up_at).trans (by omega), up_at.trans (by omega)⟩⟩
