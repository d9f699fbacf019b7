/-! the best night: alerts, the class -/
theorem st_z2 : ∀ b, b < 12 → ∀ K, K < 5 → zshl (zshl 1 ((K : Nat) : Int) - 1) ((b : Nat) : Int) = ((stN b K : Nat) : Int) := by decide +kernel
/-- what an alert is answered -/
abbrev ALs (σ : Nat → Int → Int) (t m r d : Int) (K i fr to : Nat) (beg loss : Int) : Prop := ALp (fun b => atG σ t m r d K b) (fun b a => MXc σ (tkN (stN b K) i) a) (WSc σ (bC σ)) fr to beg loss
theorem at_st {σ : Nat → Int → Int} {t m r d : Int} {K b : Nat} (k1 : 1 ≤ K) (h : atG σ t m r d K b) : ((b + K : Nat) : Int) ≤ σ 127 0 := by
  have := (h (K - 1) (by omega)).1
  omega
theorem st_n {n b K : Nat} (h : b + K ≤ n) : stN b K < 2 ^ n := Nat.lt_of_lt_of_le st_lt (Nat.pow_le_pow_right (by decide) h)
set_option maxRecDepth 20000 in
theorem lp8a {d : Nat} {I σ : Nat → Int → Int} {P : Int → Nat} {dr : Nat} (hN : WFn σ) (hP : WFp σ) {g : Nat} (hg : g < 1000) (hC : CRn I σ) (hT0 : CTb σ I P dr g) {f : Nat} {cf : Nat → Nat} (hZ : BZ σ I P dr f cf) (hW : WSc σ cf = WSc σ (bC σ)) (hbi : IsB (nP σ) (okS σ (fun _ _ => False) (nP σ)) (WSc σ) (SSc σ) (bC σ)) {t m r d2 : Int} {K i fr to : Nat} (t0 : 0 ≤ t) (t1 : t < σ 127 2) (hm2 : 0 ≤ m ∧ m ≤ 3) (hr2 : 0 ≤ r ∧ r ≤ 8) (hd2 : d2 = 0 ∨ d2 = 1) (k1 : 1 ≤ K) (k4 : K ≤ 4) (e0 : I 126 0 = (K : Int)) (e1 : I 126 1 = m) (e2 : I 126 2 = r) (e3 : I 126 3 = d2) (i3 : i < 3) (hft : fr ≤ to) (hto : (to : Int) < σ 127 0) : ∀ (m' b : Nat) (J : Nat → Int → Int) (x8 x9 : mV), b + m' = to + 1 → fr ≤ b → (∀ a q, a ≠ 79 → a ≠ 117 → ¬ (a = 69 ∧ 2 ≤ q ∧ q ≤ 3) → J a q = I a q) → HM σ J g → ALs σ t m r d2 K i fr b (J 69 2) (J 69 3) → (-1 ≤ J 69 2 ∧ J 69 2 ≤ 12) → (-1 ≤ J 69 3 ∧ J 69 3 ≤ 500) → wp (mcall MT CD (d + 9)) (CD 8) L0 (fun o h => o = none ∧ ∃ J, h = (S0, J, RR P dr) ∧ (∀ a q, a ≠ 79 → a ≠ 117 → ¬ (a = 69 ∧ 2 ≤ q ∧ q ≤ 3) → J a q = I a q) ∧ HM σ J g ∧ ALs σ t m r d2 K i fr (to + 1) (J 69 2) (J 69 3)) 33 [vr 69, vi t, vi (i : Int), vr 126, vi (fr : Int), vi (to : Int), vi ((fbN σ t m r d2 K : Nat) : Int), vi (b : Int), x8, x9] [] (S0, J, RR P dr) := by
  have bp := hP.1
  have b0 := hN.1
  have b2 := hN.2.2.1
  have hnp : nP σ = (σ 127 21).toNat := rfl
  have hn2 := np2 hP
  have hfl := fb_lt (σ := σ) (t := t) (m := m) (r := r) (d := d2) (K := K) b0.2
  intro m'
  induction m' with
  | zero =>
    intro b J x8 x9 hi hb hF hM hA h2b h3b
    refine s_ild k8_33 rfl ?_
    refine s_ild k8_35 rfl ?_
    refine s_icgt k8_37 ⟨by omega, by omega⟩ ⟨by omega, by omega⟩ (fun h37 => ?_) (fun q => absurd q (by omega))
    have e9 : b = to + 1 := by omega
    subst e9
    exact z_vret k8_120 ⟨rfl, J, rfl, hF, hM, hA⟩
  | succ m' ih =>
    intro b J x8 x9 hi hb hF hM hA h2b h3b
    have hT := hT0.k hP hM (fun a q h1 h2 _ h4 => hF a q h1 h2 h4)
    have hZJ : BZ σ J P dr f cf := ⟨hT.2.1, hT.2.2.1, (hF 69 16 (by decide) (by decide) (by decide)).trans hZ.2.2.1, hZ.2.2.2.1, ⟨(hF 80 _ (by decide) (by decide) (by omega)).trans hZ.2.2.2.2.1, hZ.2.2.2.2.2.1, fun q hq => (hF _ _ (by have := hZ.2.2.2.1; omega) (by have := hZ.2.2.2.1; omega) (by omega)).trans (hZ.2.2.2.2.2.2 q hq)⟩⟩
    have hbt := bit_n (a := fbN σ t m r d2 K) (k := b) (by omega) (by omega)
    have hfb := fb_bit (σ := σ) (t := t) (m := m) (r := r) (d := d2) (K := K) (b := b) (by omega) k1
    have j0 : J 126 0 = (K : Int) := (hF 126 0 (by decide) (by decide) (by decide)).trans e0
    have hone : ∀ (b : Nat) (a a' : Int), MXc σ (tkN (stN b K) i) a → MXc σ (tkN (stN b K) i) a' → a = a' := fun _ _ _ h h' => h.one h'
    refine s_ild k8_33 rfl ?_
    refine s_ild k8_35 rfl ?_
    refine s_icgt k8_37 ⟨by omega, by omega⟩ ⟨by omega, by omega⟩ (fun q => absurd q (by omega)) (fun h37 => ?_)
    refine s_ald k8_40 rfl ?_
    refine z_getIe (z := J 69 3) k8_41 rfl rfl ?_
    refine s_ifeq k8_44 ⟨by omega, by omega⟩ (fun h44 => ?_) (fun h44 => ?_)
    · exact z_vret k8_120 ⟨rfl, J, rfl, hF, hM, hA.stop (fun _ _ h => mx_le hN hP h hbi) h44 (by omega)⟩
    · refine s_ild k8_47 rfl ?_
      refine s_ild k8_49 rfl ?_
      refine z_sta2A k8_51 (Nat.le_of_ble_eq_true rfl) (c128) ?_
      refine z_ifeqb k8_54 (fun h54 => ?_) (fun h54 => ?_)
      · refine s_iinc7 k8_114 rfl ?_
        refine z_goto k8_117 ?_
        exact ih (b + 1) J _ _ (by omega) (by omega) hF hM (hA.skip (fun u => h54 (hbt.mpr (hfb.mpr u)))) h2b h3b
      · refine s_ild k8_57 rfl ?_
        refine s_ald k8_59 rfl ?_
        refine z_getIe (z := (K : Int)) k8_60 rfl j0 ?_
        refine z_sta2A k8_63 (Nat.le_of_ble_eq_true rfl) (c129) ?_
        refine z_eqi (b := (stN b K : Int)) (st_z2 b (by omega) K (by omega)) ?_
        refine s_ist8 k8_66 rfl ?_
        refine s_ald k8_68 rfl ?_
        have hat : atG σ t m r d2 K b := hfb.mp (hbt.mp h54)
        have hst := at_st k1 hat
        have hsn : stN b K < 2 ^ (σ 127 0).toNat := st_n (by omega)
        have hs4 : stN b K < 4096 := Nat.lt_of_lt_of_le hsn (p12 (by omega))
        refine z_inv0A k8_69 rfl (Nat.le_of_ble_eq_true rfl) (c3 hN hP hZJ hT.2.2.2.1) ?_
        refine s_ald k8_72 rfl ?_
        refine s_ild k8_73 rfl ?_
        refine s_ild k8_75 rfl ?_
        refine z_sta2A k8_76 (Nat.le_of_ble_eq_true rfl) (c24 hs4 i3) ?_
        refine z_inv1 k8_79 rfl (Nat.le_of_ble_eq_true rfl) (c9 hN hP hg hT (tk_TK (by omega) (by omega) hsn i3)) (fun o h1 hq => ?_)
        obtain ⟨M, a, rfl, mF, mM, rfl, mX⟩ := hq
        have hle := mx_le hN hP mX hbi
        have hab : 0 ≤ a := by
          obtain ⟨⟨s, c, -, -, s3⟩, -⟩ := mX
          have := (sB_b hP (s := s) (nP σ) (by omega)).1
          omega
        have hwb := (sum_b hP (c := cf) (nP σ) (by omega)).1
        have hwe : WSc σ cf = sumC (lnS σ) (wS σ) cf (nP σ) := rfl
        have hF2 : ∀ a q, a ≠ 79 → a ≠ 117 → ¬ (a = 69 ∧ 2 ≤ q ∧ q ≤ 3) → M a q = I a q := fun a q h1 h2 h3 => (mF a q h1 h2).trans (hF a q h1 h2 h3)
        have m2 : M 69 2 = J 69 2 := mF _ _ (by decide) (by decide)
        have m3 : M 69 3 = J 69 3 := mF _ _ (by decide) (by decide)
        have hset : (J 69 2 = -1 ∨ WSc σ cf - a < J 69 3) → wp (mcall MT CD (d + 9)) (CD 8) L0 (fun o h => o = none ∧ ∃ J, h = (S0, J, RR P dr) ∧ (∀ a q, a ≠ 79 → a ≠ 117 → ¬ (a = 69 ∧ 2 ≤ q ∧ q ≤ 3) → J a q = I a q) ∧ HM σ J g ∧ ALs σ t m r d2 K i fr (to + 1) (J 69 2) (J 69 3)) 102 [vr 69, vi t, vi (i : Int), vr 126, vi (fr : Int), vi (to : Int), vi ((fbN σ t m r d2 K : Nat) : Int), vi (b : Int), vi (stN b K : Int), vi (WSc σ cf - a)] [] (S0, M, RR P dr) := by
          intro hc
          refine s_ald k8_102 rfl ?_
          refine s_ild k8_103 rfl ?_
          refine z_putIe (q := 2) k8_105 rfl rfl ?_
          refine s_ald k8_108 rfl ?_
          refine s_ild k8_109 rfl ?_
          refine z_putIe (q := 3) k8_111 rfl rfl ?_
          refine s_iinc7 k8_114 rfl ?_
          refine z_goto k8_117 ?_
          have u2 : upI (upI M 69 2 (b : Int)) 69 3 (WSc σ cf - a) 69 2 = (b : Int) := (up_nk (by decide)).trans up_at
          have u3 : upI (upI M 69 2 (b : Int)) 69 3 (WSc σ cf - a) 69 3 = WSc σ cf - a := up_at
          refine ih (b + 1) _ _ _ (by omega) (by omega) (fun a q h1 h2 h3 => (if_neg (by omega)).trans ((if_neg (by omega)).trans (hF2 a q h1 h2 h3))) (mM.no (fun x => (up_ne (by decide)).trans (up_ne (by decide)))) ?_ (by rw [u2]; omega) (by rw [u3]; omega)
          rw [u2, u3, hW]
          exact ALp.take hb hone hA hat mX (by rw [← hW]; exact hc) hle
        refine z_isub k8_82 ?_
        refine s_ist9 k8_83 rfl ?_
        refine s_ald k8_85 rfl ?_
        refine z_getIe (z := J 69 2) k8_86 rfl m2 ?_
        refine z_push k8_89 ?_
        refine s_iceq k8_90 ⟨by omega, by omega⟩ (inR_lit rfl) (fun h90 => ?_) (fun h90 => ?_)
        · exact hset (Or.inl h90)
        · refine s_ild k8_93 rfl ?_
          refine s_ald k8_95 rfl ?_
          refine z_getIe (z := J 69 3) k8_96 rfl m3 ?_
          refine s_icge k8_99 ⟨by omega, by omega⟩ ⟨by omega, by omega⟩ (fun h99 => ?_) (fun h99 => ?_)
          · refine s_iinc7 k8_114 rfl ?_
            refine z_goto k8_117 ?_
            refine ih (b + 1) M _ _ (by omega) (by omega) hF2 mM ?_ (by omega) (by omega)
            rw [m2, m3]
            exact ALp.keep hone hA mX h90 (by rw [← hW]; omega)
          · exact hset (Or.inr (by omega))
set_option maxRecDepth 20000 in
theorem c8 {d : Nat} {I : Nat → Int → Int} {P : Int → Nat} {dr : Nat} {σ : Nat → Int → Int} (hN : WFn σ) (hP : WFp σ) {g : Nat} (hg : g < 1000) (hC : CRn I σ) (hT0 : CTb σ I P dr g) {f : Nat} {cf : Nat → Nat} (hZ : BZ σ I P dr f cf) (hW : WSc σ cf = WSc σ (bC σ)) (hbi : IsB (nP σ) (okS σ (fun _ _ => False) (nP σ)) (WSc σ) (SSc σ) (bC σ)) {t m r d2 : Int} {K i fr to : Nat} (t0 : 0 ≤ t) (t1 : t < σ 127 2) (hm2 : 0 ≤ m ∧ m ≤ 3) (hr2 : 0 ≤ r ∧ r ≤ 8) (hd2 : d2 = 0 ∨ d2 = 1) (k1 : 1 ≤ K) (k4 : K ≤ 4) (e0 : I 126 0 = (K : Int)) (e1 : I 126 1 = m) (e2 : I 126 2 = r) (e3 : I 126 3 = d2) (i3 : i < 3) (hft : fr ≤ to) (hto : (to : Int) < σ 127 0) : cal (d + 10) 8 [vr 69, vi t, vi (i : Int), vr 126, vi (fr : Int), vi (to : Int)] I P dr (fun o h => o = none ∧ ∃ J, h = (S0, J, RR P dr) ∧ (∀ a q, a ≠ 79 → a ≠ 117 → ¬ (a = 69 ∧ 2 ≤ q ∧ q ≤ 3) → J a q = I a q) ∧ HM σ J g ∧ ALs σ t m r d2 K i fr (to + 1) (J 69 2) (J 69 3)) := by
  refine cal_in (Nat.le_of_ble_eq_true rfl) ?_
  have bp := hP.1
  have b0 := hN.1
  have b2 := hN.2.2.1
  have hnp : nP σ = (σ 127 21).toNat := rfl
  have hn2 := np2 hP
  have hfl := fb_lt (σ := σ) (t := t) (m := m) (r := r) (d := d2) (K := K) b0.2
  show wp _ _ _ _ 0 [vr 69, vi t, vi (i : Int), vr 126, vi (fr : Int), vi (to : Int), vj, vj, vj, vj] [] _
  refine s_ald k8_0 rfl ?_
  refine z_push k8_1 ?_
  refine z_putIe (q := 2) k8_2 rfl rfl ?_
  refine s_ald k8_5 rfl ?_
  refine z_push k8_6 ?_
  refine z_putIe (q := 3) k8_7 rfl rfl ?_
  refine s_ald k8_10 rfl ?_
  refine z_getRe (b := 17) k8_11 rfl rr_69_4 ?_
  refine s_ald k8_14 rfl ?_
  refine z_getRe (b := 17) k8_15 rfl rr_69_4 ?_
  refine z_getRe (b := 18) k8_18 rfl rr_17_2 ?_
  refine s_ild k8_21 rfl ?_
  refine z_aalde (b := 27 + t.toNat) k8_22 rfl (by omega) (show t < ((8 : Nat) : Int) by omega) (rr_tg (by omega) (by omega)) ?_
  refine s_ald k8_23 rfl ?_
  refine z_inv2A k8_24 rfl (Nat.le_of_ble_eq_true rfl) (c68 hN (hC.keep hN (fun a q _ _ => (up_ne (by omega)).trans (up_ne (by omega)))) rfl ((up_ne (by decide)).trans ((up_ne (by decide)).trans e0)) ((up_ne (by decide)).trans ((up_ne (by decide)).trans e1)) ((up_ne (by decide)).trans ((up_ne (by decide)).trans e2)) ((up_ne (by decide)).trans ((up_ne (by decide)).trans e3)) t0 t1 (by omega) (by omega) hd2 k1 (by omega)) ?_
  refine s_ist6 k8_27 rfl ?_
  refine s_ild k8_29 rfl ?_
  refine s_ist7 k8_31 rfl ?_
  have u2 : upI (upI I 69 2 (-1)) 69 3 (-1) 69 2 = -1 := (up_nk (by decide)).trans up_at
  have u3 : upI (upI I 69 2 (-1)) 69 3 (-1) 69 3 = -1 := up_at
  refine lp8a hN hP hg hC hT0 hZ hW hbi t0 t1 hm2 hr2 hd2 k1 k4 e0 e1 e2 e3 i3 hft hto (to + 1 - fr) fr _ _ _ (by omega) (Nat.le_refl _) (fun a q h1 h2 h3 => (if_neg (by omega)).trans (if_neg (by omega))) (hT0.2.2.2.2.2.1.no (fun x => (up_ne (by decide)).trans (up_ne (by decide)))) ?_ (by rw [u2]; decide) (by rw [u3]; decide)
  rw [u2, u3]
  exact ALp.z
