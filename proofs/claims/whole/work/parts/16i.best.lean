/-! the best night, the class: the best set -/
theorem np2 {σ : Nat → Int → Int} (hP : WFp σ) : 2 ^ nP σ ≤ 32 ∧ 1 ≤ 2 ^ nP σ := by
  have bp := hP.1
  have hnp : nP σ = (σ 127 21).toNat := rfl
  have := Nat.pow_le_pow_right (show 0 < 2 by decide) (show nP σ ≤ 5 by omega)
  exact ⟨by omega, Nat.two_pow_pos _⟩
theorem z1n {σ : Nat → Int → Int} (hP : WFp σ) : zshl 1 (σ 127 21) = ((2 ^ nP σ : Nat) : Int) := by
  have bp := hP.1
  have e : σ 127 21 = ((nP σ : Nat) : Int) := by show _ = ((σ 127 21).toNat : Int); omega
  have := z2p (k := nP σ) (by omega)
  rw [← e] at this
  exact this
theorem vb_112 {σ : Nat → Int → Int} (hN : WFn σ) (hP : WFp σ) {s : Nat} {c : Nat → Nat} (h : Vec σ s c) {q : Nat} (hq : q < nP σ) : c q ≤ 112 := by
  have h1 := ln_b hN hP q
  by_cases u : c q < lnS σ q
  · omega
  · have := h.2 q (by omega) hq (by
      cases hb : s.testBit q with
      | false => rfl
      | true => exact absurd ((vec_in hN hP h hq).mpr hb) u)
    omega
/-- what the tables say of a set that can be placed -/
def Abl (σ J : Nat → Int → Int) (s : Nat) (c : Nat → Nat) : Prop := J 80 s = 1 ∧ FirS σ (nP σ) 0 s 0 c ∧ ∀ q : Nat, q < nP σ → J (82 + s) q = (c q : Int)
abbrev Wf (σ : Nat → Int → Int) (f : Nat → Int) (c : Nat → Nat) : Int := sumC (lnS σ) f c (nP σ)
set_option maxRecDepth 20000 in
theorem c27n {d : Nat} {I : Nat → Int → Int} {P : Int → Nat} {dr : Nat} {σ : Nat → Int → Int} {s : Nat} {v : Int} (hN : WFn σ) (hP : WFp σ) (hcp : CRp I σ P dr) (hw : TBw σ I (2 ^ nP σ)) (hl : TBl σ I (2 ^ nP σ)) (hs : s < 2 ^ nP σ) : cal (d + 2) 27 [vr 69, vi (s : Int), vi (-1), vi v] I P dr (ans (vi (sB (wS σ) s (nP σ))) I P dr) := by
  refine cal_in (Nat.le_of_ble_eq_true rfl) ?_
  have bp := hP.1
  have hnp : nP σ = (σ 127 21).toNat := rfl
  have hn2 := np2 hP
  have hPc : ∀ k, 0 ≤ k → k < 5 → isPl (P k) := hcp.2.1.1
  show wp _ _ _ _ 0 [vr 69, vi (s : Int), vi (-1), vi v] [] _
  refine s_ild k27_0 rfl ?_
  refine z_push k27_1 ?_
  refine s_iceq k27_2 (inR_lit rfl) (inR_lit rfl) (fun _ => ?_) (fun q => absurd q (by decide))
  refine s_ald k27_13 rfl ?_
  refine z_getRe (b := 114) k27_14 rfl rr_69_11 ?_
  refine s_ild k27_17 rfl ?_
  refine z_ialde (z := sB (wS σ) s (nP σ)) k27_18 rfl (by omega) (show (s : Int) < ((32 : Nat) : Int) by omega) (hw s hs).1 ?_
  exact z_iret k27_19 (ans_i rfl)
set_option maxRecDepth 20000 in
theorem c27p {d : Nat} {I : Nat → Int → Int} {P : Int → Nat} {dr : Nat} {σ : Nat → Int → Int} {s p : Nat} {v : Int} (hN : WFn σ) (hP : WFp σ) (hcp : CRp I σ P dr) (hw : TBw σ I (2 ^ nP σ)) (hl : TBl σ I (2 ^ nP σ)) (hs : s < 2 ^ nP σ) (hp : p < nP σ) : cal (d + 2) 27 [vr 69, vi (s : Int), vi (p : Int), vi v] I P dr (ans (vi (sB (wX σ (p : Int) v) s (nP σ))) I P dr) := by
  refine cal_in (Nat.le_of_ble_eq_true rfl) ?_
  have bp := hP.1
  have hnp : nP σ = (σ 127 21).toNat := rfl
  have hn2 := np2 hP
  have hPc : ∀ k, 0 ≤ k → k < 5 → isPl (P k) := hcp.2.1.1
  have hbit := s5_bit s (by omega) p (by omega)
  show wp _ _ _ _ 0 [vr 69, vi (s : Int), vi (p : Int), vi v] [] _
  refine s_ild k27_0 rfl ?_
  refine z_push k27_1 ?_
  refine s_iceq k27_2 ⟨by omega, by omega⟩ (inR_lit rfl) (fun q => absurd q (by omega)) (fun h2 => ?_)
  refine s_ild k27_5 rfl ?_
  refine s_ild k27_6 rfl ?_
  refine z_sta2A k27_7 (Nat.le_of_ble_eq_true rfl) (c128) ?_
  refine z_ifneb k27_10 (fun h10 => ?_) (fun h10 => ?_)
  · refine s_ald k27_20 rfl ?_
    refine z_getRe (b := 114) k27_21 rfl rr_69_11 ?_
    refine s_ild k27_24 rfl ?_
    refine z_ialde (z := sB (wS σ) s (nP σ)) k27_25 rfl (by omega) (show (s : Int) < ((32 : Nat) : Int) by omega) (hw s hs).1 ?_
    refine s_ald k27_26 rfl ?_
    refine z_getRe (b := 42) k27_27 rfl rr_69_5 ?_
    refine z_getRe (b := 43) k27_30 rfl rr_42_0 ?_
    refine s_ild k27_33 rfl ?_
    refine z_aalde (b := P (p : Int)) k27_34 rfl (by omega) (show (p : Int) < ((5 : Nat) : Int) by omega) rr_P ?_
    refine z_getIe (z := pf σ (p : Int) 3) k27_35 (pl_sh (hPc _ (by omega) (by omega))) (hcp.f (by omega) (by omega)).2.2.2.1 ?_
    refine z_isub k27_38 ?_
    refine s_ild k27_39 rfl ?_
    refine z_iadd k27_40 ?_
    refine z_iret k27_41 (ans_i ?_)
    rw [sB_x, if_pos ⟨by omega, by omega, by rw [Int.toNat_natCast]; exact hbit.mp h10⟩, Int.toNat_natCast]
    have e : wS σ p = pf σ p 3 := rfl
    omega
  · refine s_ald k27_13 rfl ?_
    refine z_getRe (b := 114) k27_14 rfl rr_69_11 ?_
    refine s_ild k27_17 rfl ?_
    refine z_ialde (z := sB (wS σ) s (nP σ)) k27_18 rfl (by omega) (show (s : Int) < ((32 : Nat) : Int) by omega) (hw s hs).1 ?_
    refine z_iret k27_19 (ans_i ?_)
    rw [sB_x, if_neg (fun u => h10 (hbit.mpr (by have := u.2.2; rw [Int.toNat_natCast] at this; exact this))), Int.add_zero]
set_option maxRecDepth 20000 in
theorem lp26 {d : Nat} {I σ : Nat → Int → Int} {P : Int → Nat} {dr : Nat} (hN : WFn σ) (hP : WFp σ) (hcp : CRp I σ P dr) (hw : TBw σ I (2 ^ nP σ)) (hl : TBl σ I (2 ^ nP σ)) {wf : Nat → Int} {a v : Int} (h27 : ∀ {d : Nat} (s : Nat), s < 2 ^ nP σ → cal (d + 2) 27 [vr 69, vi (s : Int), vi a, vi v] I P dr (ans (vi (sB wf s (nP σ))) I P dr)) (hwb : ∀ s, 0 ≤ sB wf s (nP σ) ∧ sB wf s (nP σ) ≤ 500) {s u : Nat} {cs co : Nat → Nat} (hs : s < 2 ^ nP σ) (hu : u < 2 ^ nP σ) (ha : Abl σ I s cs) (hb : Abl σ I u co) {z5 : Int} (g1 : sB wf s (nP σ) = sB wf u (nP σ)) (g2 : sB (zS σ) s (nP σ) = sB (zS σ) u (nP σ)) : ∀ (m i : Nat), (i : Int) + m = σ 127 21 → (∀ q, q < i → cs q = co q) → wp (mcall MT CD (d + 2)) (CD 26) L0 (fun o h => h = (S0, I, RR P dr) ∧ ((o = some (vi 1) ∧ betL (nP σ) (Wf σ wf) (Wf σ (zS σ)) cs co) ∨ (o = some (vi 0) ∧ ¬ betL (nP σ) (Wf σ wf) (Wf σ (zS σ)) cs co))) 74 [vr 69, vi (s : Int), vi (u : Int), vi a, vi v, vi z5, vi (i : Int)] [] (S0, I, RR P dr) := by
  intro m
  induction m with
  | zero => 
    intro i hi heq
    have bp := hP.1
    have hnp : nP σ = (σ 127 21).toNat := rfl
    have hn2 := np2 hP
    have hPc : ∀ k, 0 ≤ k → k < 5 → isPl (P k) := hcp.2.1.1
    have vs := fir_vec ha.2.1
    have vu := fir_vec hb.2.1
    have ew1 : Wf σ wf cs = sB wf s (nP σ) := vec_sum hN hP vs wf _ (Nat.le_refl _)
    have ew2 : Wf σ wf co = sB wf u (nP σ) := vec_sum hN hP vu wf _ (Nat.le_refl _)
    have ez1 : Wf σ (zS σ) cs = sB (zS σ) s (nP σ) := vec_sum hN hP vs (zS σ) _ (Nat.le_refl _)
    have ez2 : Wf σ (zS σ) co = sB (zS σ) u (nP σ) := vec_sum hN hP vu (zS σ) _ (Nat.le_refl _)
    have zb1 := (sB_b hP (s := s) (nP σ) (by omega)).2
    have zb2 := (sB_b hP (s := u) (nP σ) (by omega)).2
    have wb1 := hwb s
    have wb2 := hwb u
    refine s_ild k26_74 rfl ?_
    refine s_ald k26_76 rfl ?_
    refine z_getRe (b := 42) k26_77 rfl rr_69_5 ?_
    refine z_getIe (z := σ 127 21) k26_80 rfl hcp.1 ?_
    refine s_icge k26_83 ⟨by omega, by omega⟩ ⟨by omega, by omega⟩ (fun h83 => ?_) (fun q => absurd q (by omega))
    refine z_push k26_140 ?_
    refine z_zret k26_141 (Or.inl rfl) ⟨rfl, Or.inr ⟨rfl, fun q => ?_⟩⟩
    unfold betL at q
    rcases q with q | ⟨q1, q | ⟨q2, q⟩⟩
    · omega
    · omega
    · obtain ⟨k, k1, k2, k3⟩ := q
      have := heq k (by omega)
      omega
  | succ m ih => 
    intro i hi heq
    have bp := hP.1
    have hnp : nP σ = (σ 127 21).toNat := rfl
    have hn2 := np2 hP
    have hPc : ∀ k, 0 ≤ k → k < 5 → isPl (P k) := hcp.2.1.1
    have vs := fir_vec ha.2.1
    have vu := fir_vec hb.2.1
    have ew1 : Wf σ wf cs = sB wf s (nP σ) := vec_sum hN hP vs wf _ (Nat.le_refl _)
    have ew2 : Wf σ wf co = sB wf u (nP σ) := vec_sum hN hP vu wf _ (Nat.le_refl _)
    have ez1 : Wf σ (zS σ) cs = sB (zS σ) s (nP σ) := vec_sum hN hP vs (zS σ) _ (Nat.le_refl _)
    have ez2 : Wf σ (zS σ) co = sB (zS σ) u (nP σ) := vec_sum hN hP vu (zS σ) _ (Nat.le_refl _)
    have zb1 := (sB_b hP (s := s) (nP σ) (by omega)).2
    have zb2 := (sB_b hP (s := u) (nP σ) (by omega)).2
    have wb1 := hwb s
    have wb2 := hwb u
    refine s_ild k26_74 rfl ?_
    refine s_ald k26_76 rfl ?_
    refine z_getRe (b := 42) k26_77 rfl rr_69_5 ?_
    refine z_getIe (z := σ 127 21) k26_80 rfl hcp.1 ?_
    refine s_icge k26_83 ⟨by omega, by omega⟩ ⟨by omega, by omega⟩ (fun q => absurd q (by omega)) (fun h83 => ?_)
    have b1 := vb_112 hN hP vs (q := i) (by omega)
    have b2 := vb_112 hN hP vu (q := i) (by omega)
    refine s_ald k26_86 rfl ?_
    refine z_getRe (b := 81) k26_87 rfl rr_69_10 ?_
    refine s_ild k26_90 rfl ?_
    refine z_aalde (b := 82 + (s : Int).toNat) k26_91 rfl (by omega) (show (s : Int) < ((32 : Nat) : Int) by omega) (rr_fi (by omega) (by omega)) ?_
    refine s_ild k26_92 rfl ?_
    refine z_ialde (z := (cs i : Int)) k26_94 (by rw [(fi_sh (t := (s : Int).toNat) (by omega))]) (by omega) (by rw [(fi_sh (t := (s : Int).toNat) (by omega))]; show (i : Int) < ((5 : Nat) : Int); omega) (ha.2.2 i (by omega)) ?_
    refine s_ald k26_95 rfl ?_
    refine z_getRe (b := 81) k26_96 rfl rr_69_10 ?_
    refine s_ild k26_99 rfl ?_
    refine z_aalde (b := 82 + (u : Int).toNat) k26_100 rfl (by omega) (show (u : Int) < ((32 : Nat) : Int) by omega) (rr_fi (by omega) (by omega)) ?_
    refine s_ild k26_101 rfl ?_
    refine z_ialde (z := (co i : Int)) k26_103 (by rw [(fi_sh (t := (u : Int).toNat) (by omega))]) (by omega) (by rw [(fi_sh (t := (u : Int).toNat) (by omega))]; show (i : Int) < ((5 : Nat) : Int); omega) (hb.2.2 i (by omega)) ?_
    refine s_iceq k26_104 ⟨by omega, by omega⟩ ⟨by omega, by omega⟩ (fun h104 => ?_) (fun h104 => ?_)
    · refine s_iinc6 k26_134 rfl ?_
      refine z_goto k26_137 ?_
      refine ih (i + 1) (by omega) (fun q hq => ?_)
      by_cases e : q = i
      · subst e; omega
      · exact heq q (by omega)
    · refine s_ald k26_107 rfl ?_
      refine z_getRe (b := 81) k26_108 rfl rr_69_10 ?_
      refine s_ild k26_111 rfl ?_
      refine z_aalde (b := 82 + (s : Int).toNat) k26_112 rfl (by omega) (show (s : Int) < ((32 : Nat) : Int) by omega) (rr_fi (by omega) (by omega)) ?_
      refine s_ild k26_113 rfl ?_
      refine z_ialde (z := (cs i : Int)) k26_115 (by rw [(fi_sh (t := (s : Int).toNat) (by omega))]) (by omega) (by rw [(fi_sh (t := (s : Int).toNat) (by omega))]; show (i : Int) < ((5 : Nat) : Int); omega) (ha.2.2 i (by omega)) ?_
      refine s_ald k26_116 rfl ?_
      refine z_getRe (b := 81) k26_117 rfl rr_69_10 ?_
      refine s_ild k26_120 rfl ?_
      refine z_aalde (b := 82 + (u : Int).toNat) k26_121 rfl (by omega) (show (u : Int) < ((32 : Nat) : Int) by omega) (rr_fi (by omega) (by omega)) ?_
      refine s_ild k26_122 rfl ?_
      refine z_ialde (z := (co i : Int)) k26_124 (by rw [(fi_sh (t := (u : Int).toNat) (by omega))]) (by omega) (by rw [(fi_sh (t := (u : Int).toNat) (by omega))]; show (i : Int) < ((5 : Nat) : Int); omega) (hb.2.2 i (by omega)) ?_
      refine s_icge k26_125 ⟨by omega, by omega⟩ ⟨by omega, by omega⟩ (fun h125 => ?_) (fun h125 => ?_)
      · refine z_push k26_132 ?_
        refine z_zret k26_133 (Or.inl rfl) ⟨rfl, Or.inr ⟨rfl, fun q => ?_⟩⟩
        unfold betL at q
        rcases q with q | ⟨q1, q | ⟨q2, q⟩⟩
        · omega
        · omega
        · obtain ⟨k, k1, k2, k3⟩ := q
          rcases Nat.lt_trichotomy k i with e | e | e
          · have := heq k e; omega
          · subst e; omega
          · have := k3 i e; omega
      · refine z_push k26_128 ?_
        refine z_goto k26_129 ?_
        exact z_zret k26_133 (Or.inr rfl) ⟨rfl, Or.inl ⟨rfl, Or.inr ⟨by omega, Or.inr ⟨by omega, i, by omega, by omega, heq⟩⟩⟩⟩
set_option maxRecDepth 20000 in
theorem c26 {d : Nat} {I : Nat → Int → Int} {P : Int → Nat} {dr : Nat} {σ : Nat → Int → Int} (hN : WFn σ) (hP : WFp σ) (hcp : CRp I σ P dr) (hw : TBw σ I (2 ^ nP σ)) (hl : TBl σ I (2 ^ nP σ)) {wf : Nat → Int} {a v : Int} (h27 : ∀ {d : Nat} (s : Nat), s < 2 ^ nP σ → cal (d + 2) 27 [vr 69, vi (s : Int), vi a, vi v] I P dr (ans (vi (sB wf s (nP σ))) I P dr)) (hwb : ∀ s, 0 ≤ sB wf s (nP σ) ∧ sB wf s (nP σ) ≤ 500) {s u : Nat} {cs co : Nat → Nat} (hs : s < 2 ^ nP σ) (hu : u < 2 ^ nP σ) (ha : Abl σ I s cs) (hb : Abl σ I u co) : cal (d + 3) 26 [vr 69, vi (s : Int), vi (u : Int), vi a, vi v] I P dr (fun o h => h = (S0, I, RR P dr) ∧ ((o = some (vi 1) ∧ betL (nP σ) (Wf σ wf) (Wf σ (zS σ)) cs co) ∨ (o = some (vi 0) ∧ ¬ betL (nP σ) (Wf σ wf) (Wf σ (zS σ)) cs co))) := by
  refine cal_in (Nat.le_of_ble_eq_true rfl) ?_
  have bp := hP.1
  have hnp : nP σ = (σ 127 21).toNat := rfl
  have hn2 := np2 hP
  have hPc : ∀ k, 0 ≤ k → k < 5 → isPl (P k) := hcp.2.1.1
  have vs := fir_vec ha.2.1
  have vu := fir_vec hb.2.1
  have ew1 : Wf σ wf cs = sB wf s (nP σ) := vec_sum hN hP vs wf _ (Nat.le_refl _)
  have ew2 : Wf σ wf co = sB wf u (nP σ) := vec_sum hN hP vu wf _ (Nat.le_refl _)
  have ez1 : Wf σ (zS σ) cs = sB (zS σ) s (nP σ) := vec_sum hN hP vs (zS σ) _ (Nat.le_refl _)
  have ez2 : Wf σ (zS σ) co = sB (zS σ) u (nP σ) := vec_sum hN hP vu (zS σ) _ (Nat.le_refl _)
  have zb1 := (sB_b hP (s := s) (nP σ) (by omega)).2
  have zb2 := (sB_b hP (s := u) (nP σ) (by omega)).2
  have wb1 := hwb s
  have wb2 := hwb u
  show wp _ _ _ _ 0 [vr 69, vi (s : Int), vi (u : Int), vi a, vi v, vj, vj] [] _
  refine s_ald k26_0 rfl ?_
  refine s_ild k26_1 rfl ?_
  refine s_ild k26_2 rfl ?_
  refine s_ild k26_3 rfl ?_
  refine z_inv3A k26_5 rfl (Nat.le_of_ble_eq_true rfl) (h27 _ hs) ?_
  refine s_ald k26_8 rfl ?_
  refine s_ild k26_9 rfl ?_
  refine s_ild k26_10 rfl ?_
  refine s_ild k26_11 rfl ?_
  refine z_inv3A k26_13 rfl (Nat.le_of_ble_eq_true rfl) (h27 _ hu) ?_
  refine z_isub k26_16 ?_
  refine s_ist5 k26_17 rfl ?_
  refine s_ild k26_19 rfl ?_
  refine s_ifeq k26_21 ⟨by omega, by omega⟩ (fun h21 => ?_) (fun h21 => ?_)
  · refine s_ald k26_35 rfl ?_
    refine z_getRe (b := 115) k26_36 rfl rr_69_12 ?_
    refine s_ild k26_39 rfl ?_
    refine z_ialde (z := sB (zS σ) s (nP σ)) k26_40 rfl (by omega) (show (s : Int) < ((32 : Nat) : Int) by omega) (hw _ hs).2.1 ?_
    refine s_ald k26_41 rfl ?_
    refine z_getRe (b := 115) k26_42 rfl rr_69_12 ?_
    refine s_ild k26_45 rfl ?_
    refine z_ialde (z := sB (zS σ) u (nP σ)) k26_46 rfl (by omega) (show (u : Int) < ((32 : Nat) : Int) by omega) (hw _ hu).2.1 ?_
    refine s_iceq k26_47 ⟨by omega, by omega⟩ ⟨by omega, by omega⟩ (fun h47 => ?_) (fun h47 => ?_)
    · refine z_push k26_71 ?_
      refine s_ist6 k26_72 rfl ?_
      exact lp26 hN hP hcp hw hl h27 hwb hs hu ha hb (by omega) (by omega) (nP σ) 0 (by omega) (fun q hq => absurd hq (by omega))
    · refine s_ald k26_50 rfl ?_
      refine z_getRe (b := 115) k26_51 rfl rr_69_12 ?_
      refine s_ild k26_54 rfl ?_
      refine z_ialde (z := sB (zS σ) s (nP σ)) k26_55 rfl (by omega) (show (s : Int) < ((32 : Nat) : Int) by omega) (hw _ hs).2.1 ?_
      refine s_ald k26_56 rfl ?_
      refine z_getRe (b := 115) k26_57 rfl rr_69_12 ?_
      refine s_ild k26_60 rfl ?_
      refine z_ialde (z := sB (zS σ) u (nP σ)) k26_61 rfl (by omega) (show (u : Int) < ((32 : Nat) : Int) by omega) (hw _ hu).2.1 ?_
      refine s_icge k26_62 ⟨by omega, by omega⟩ ⟨by omega, by omega⟩ (fun h62 => ?_) (fun h62 => ?_)
      · refine z_push k26_69 ?_
        refine z_zret k26_70 (Or.inl rfl) ⟨rfl, Or.inr ⟨rfl, fun q => ?_⟩⟩
        unfold betL at q
        rcases q with q | ⟨q1, q | ⟨q2, q⟩⟩ <;> omega
      · refine z_push k26_65 ?_
        refine z_goto k26_66 ?_
        exact z_zret k26_70 (Or.inr rfl) ⟨rfl, Or.inl ⟨rfl, Or.inr ⟨by omega, Or.inl (by omega)⟩⟩⟩
  · refine s_ild k26_24 rfl ?_
    refine s_ifle k26_26 ⟨by omega, by omega⟩ (fun h26 => ?_) (fun h26 => ?_)
    · refine z_push k26_33 ?_
      refine z_zret k26_34 (Or.inl rfl) ⟨rfl, Or.inr ⟨rfl, fun q => ?_⟩⟩
      unfold betL at q
      rcases q with q | ⟨q1, q | ⟨q2, q⟩⟩ <;> omega
    · refine z_push k26_29 ?_
      refine z_goto k26_30 ?_
      exact z_zret k26_34 (Or.inr rfl) ⟨rfl, Or.inl ⟨rfl, Or.inl (by omega)⟩⟩
set_option maxRecDepth 20000 in
theorem lp25 {d : Nat} {I σ : Nat → Int → Int} {P : Int → Nat} {dr : Nat} (hN : WFn σ) (hP : WFp σ) (hcp : CRp I σ P dr) (hw : TBw σ I (2 ^ nP σ)) (hl : TBl σ I (2 ^ nP σ)) {wf : Nat → Int} {a v : Int} (h27 : ∀ {d : Nat} (s : Nat), s < 2 ^ nP σ → cal (d + 2) 27 [vr 69, vi (s : Int), vi a, vi v] I P dr (ans (vi (sB wf s (nP σ))) I P dr)) (hwb : ∀ s, 0 ≤ sB wf s (nP σ) ∧ sB wf s (nP σ) ≤ 500) : ∀ (m i f : Nat) (cf : Nat → Nat), i + m = 2 ^ nP σ → f < 2 ^ nP σ → Abl σ I f cf → (∀ s c, s < i → Abl σ I s c → ¬ betL (nP σ) (Wf σ wf) (Wf σ (zS σ)) c cf) → wp (mcall MT CD (d + 3)) (CD 25) L0 (fun o h => h = (S0, I, RR P dr) ∧ ∃ (f : Nat) (cf : Nat → Nat), o = some (vi (f : Int)) ∧ f < 2 ^ nP σ ∧ Abl σ I f cf ∧ ∀ s2 d, s2 < 2 ^ nP σ → Vec σ s2 d → eqN (nP σ) cf d ∨ betL (nP σ) (Wf σ wf) (Wf σ (zS σ)) cf d) 5 [vr 69, vi a, vi v, vi (f : Int), vi (i : Int)] [] (S0, I, RR P dr) := by
  have bp := hP.1
  have hnp : nP σ = (σ 127 21).toNat := rfl
  have hn2 := np2 hP
  have hPc : ∀ k, 0 ≤ k → k < 5 → isPl (P k) := hcp.2.1.1
  have hz1 := z1n hP
  intro m
  induction m with
  | zero =>
    intro i f cf hi hf hcf hno
    refine s_ild k25_5 rfl ?_
    refine z_push k25_7 ?_
    refine s_ald k25_8 rfl ?_
    refine z_getRe (b := 42) k25_9 rfl rr_69_5 ?_
    refine z_getIe (z := σ 127 21) k25_12 rfl hcp.1 ?_
    refine z_ishl k25_15 ?_
    refine z_eqi (b := ((2 ^ nP σ : Nat) : Int)) hz1 ?_
    refine s_icge k25_16 ⟨by omega, by omega⟩ ⟨by omega, by omega⟩ (fun h16 => ?_) (fun q => absurd q (by omega))
    refine s_ild k25_50 rfl ?_
    refine z_iret k25_51 ⟨rfl, f, cf, rfl, hf, hcf, fun s2 d hs2 hd => ?_⟩
    have ⟨c2, hc2⟩ : ∃ c, Abl σ I s2 c := by
      rcases hl s2 hs2 with ⟨h1, c, h2, h3⟩ | ⟨h1, h2⟩
      · exact ⟨c, h1, h2, h3⟩
      · exact absurd hd.1 (h2 d)
    have hnb := hno s2 c2 (by omega) hc2
    have v2 := fir_vec hc2.2.1
    have e1 : ∀ g, sumC (lnS σ) g c2 (nP σ) = sumC (lnS σ) g d (nP σ) := fun g => by rw [vec_sum hN hP v2 g _ (Nat.le_refl _), vec_sum hN hP hd g _ (Nat.le_refl _)]
    have h2d : eqN (nP σ) c2 d ∨ betL (nP σ) (Wf σ wf) (Wf σ (zS σ)) c2 d := by
      rcases fir_lex hc2.2.1 hd with q | q
      · exact Or.inl q
      · exact Or.inr (Or.inr ⟨e1 _, Or.inr ⟨e1 _, q⟩⟩)
    rcases bet_tri (n := nP σ) (W := Wf σ wf) (S := Wf σ (zS σ)) (c := cf) (d := c2) with q | q | q
    · rcases h2d with p | p
      · exact Or.inl (fun s hs => (q s hs).trans (p s hs))
      · right
        have e2 : ∀ g, sumC (lnS σ) g cf (nP σ) = sumC (lnS σ) g c2 (nP σ) := fun g => sum_eq _ q
        unfold betL at p ⊢
        have e3 := e2 wf
        have e4 := e2 (zS σ)
        rcases p with p | ⟨p1, p | ⟨p2, p⟩⟩
        · exact Or.inl (by show sumC (lnS σ) wf d (nP σ) < sumC (lnS σ) wf cf (nP σ); rw [e3]; exact p)
        · exact Or.inr ⟨e3.trans p1, Or.inl (by show sumC (lnS σ) (zS σ) cf (nP σ) < _; rw [e4]; exact p)⟩
        · exact Or.inr ⟨e3.trans p1, Or.inr ⟨e4.trans p2, eq_lex q p⟩⟩
    · rcases h2d with p | p
      · right
        unfold betL at q ⊢
        have e3 := e1 wf
        have e4 := e1 (zS σ)
        rcases q with q | ⟨q1, q | ⟨q2, q⟩⟩
        · exact Or.inl (by show sumC (lnS σ) wf d (nP σ) < _; rw [← e3]; exact q)
        · exact Or.inr ⟨q1.trans e3, Or.inl (by show _ < sumC (lnS σ) (zS σ) d (nP σ); rw [← e4]; exact q)⟩
        · exact Or.inr ⟨q1.trans e3, Or.inr ⟨q2.trans e4, lex_eq q p⟩⟩
      · exact Or.inr (bet_trans q p)
    · exact absurd q hnb
  | succ m ih =>
    intro i f cf hi hf hcf hno
    rcases hl i (by omega) with ⟨h80, c, hc1, hc2⟩ | ⟨h80, hns⟩
    · refine s_ild k25_5 rfl ?_
      refine z_push k25_7 ?_
      refine s_ald k25_8 rfl ?_
      refine z_getRe (b := 42) k25_9 rfl rr_69_5 ?_
      refine z_getIe (z := σ 127 21) k25_12 rfl hcp.1 ?_
      refine z_ishl k25_15 ?_
      refine z_eqi (b := ((2 ^ nP σ : Nat) : Int)) hz1 ?_
      refine s_icge k25_16 ⟨by omega, by omega⟩ ⟨by omega, by omega⟩ (fun q => absurd q (by omega)) (fun h16 => ?_)
      refine s_ald k25_19 rfl ?_
      refine z_getRe (b := 80) k25_20 rfl rr_69_9 ?_
      refine s_ild k25_23 rfl ?_
      refine z_balde (z := 1) k25_25 rfl (by omega) (show (i : Int) < ((32 : Nat) : Int) by omega) h80 ?_
      refine s_ifeq k25_26 (inR_lit rfl) (fun q => absurd q (by decide)) (fun _ => ?_)
      refine s_ald k25_29 rfl ?_
      refine s_ild k25_30 rfl ?_
      refine s_ild k25_32 rfl ?_
      refine s_ild k25_33 rfl ?_
      refine s_ild k25_34 rfl ?_
      have hci : Abl σ I i c := ⟨h80, hc1, hc2⟩
      refine z_inv4 k25_35 rfl (Nat.le_of_ble_eq_true rfl) (c26 hN hP hcp hw hl h27 hwb (s := i) (u := f) (by omega) hf hci hcf) (fun o h1 hq => ?_)
      have huq : ∀ c', Abl σ I i c' → eqN (nP σ) c' c := fun c' h' q hq => by
        have h1 := h'.2.2 q hq
        have h2 := hc2 q hq
        omega
      have hbq : ∀ c' x, Abl σ I i c' → betL (nP σ) (Wf σ wf) (Wf σ (zS σ)) c' x → betL (nP σ) (Wf σ wf) (Wf σ (zS σ)) c x := fun c' x h' hb => by
        have e := huq c' h'
        have e3 : Wf σ wf c' = Wf σ wf c := sum_eq _ e
        have e4 : Wf σ (zS σ) c' = Wf σ (zS σ) c := sum_eq _ e
        unfold betL at hb ⊢
        rw [e3, e4] at hb
        rcases hb with q | ⟨q1, q | ⟨q2, q⟩⟩
        · exact Or.inl q
        · exact Or.inr ⟨q1, Or.inl q⟩
        · exact Or.inr ⟨q1, Or.inr ⟨q2, eq_lex (fun s hs => (e s hs).symm) q⟩⟩
      obtain ⟨rfl, ⟨rfl, hbt⟩ | ⟨rfl, hbt⟩⟩ := hq
      · refine s_ifeq k25_38 (inR_lit rfl) (fun q => absurd q (by decide)) (fun _ => ?_)
        refine s_ild k25_41 rfl ?_
        refine s_ist3 k25_43 rfl ?_
        refine s_iinc4 k25_44 rfl ?_
        refine z_goto k25_47 ?_
        refine ih (i + 1) i c (by omega) (by omega) hci (fun s c' hs ha' hb => ?_)
        by_cases e : s = i
        · subst e
          exact bet_irr (hbq c' c ha' hb)
        · exact hno s c' (by omega) ha' (bet_trans hb hbt)
      · refine s_ifeq k25_38 (inR_lit rfl) (fun _ => ?_) (fun q => absurd rfl q)
        refine s_iinc4 k25_44 rfl ?_
        refine z_goto k25_47 ?_
        refine ih (i + 1) f cf (by omega) hf hcf (fun s c' hs ha' hb => ?_)
        by_cases e : s = i
        · subst e
          exact hbt (hbq c' cf ha' hb)
        · exact hno s c' (by omega) ha' hb
    · refine s_ild k25_5 rfl ?_
      refine z_push k25_7 ?_
      refine s_ald k25_8 rfl ?_
      refine z_getRe (b := 42) k25_9 rfl rr_69_5 ?_
      refine z_getIe (z := σ 127 21) k25_12 rfl hcp.1 ?_
      refine z_ishl k25_15 ?_
      refine z_eqi (b := ((2 ^ nP σ : Nat) : Int)) hz1 ?_
      refine s_icge k25_16 ⟨by omega, by omega⟩ ⟨by omega, by omega⟩ (fun q => absurd q (by omega)) (fun h16 => ?_)
      refine s_ald k25_19 rfl ?_
      refine z_getRe (b := 80) k25_20 rfl rr_69_9 ?_
      refine s_ild k25_23 rfl ?_
      refine z_balde (z := 0) k25_25 rfl (by omega) (show (i : Int) < ((32 : Nat) : Int) by omega) h80 ?_
      refine s_ifeq k25_26 (inR_lit rfl) (fun _ => ?_) (fun q => absurd q (by decide))
      refine s_iinc4 k25_44 rfl ?_
      refine z_goto k25_47 ?_
      refine ih (i + 1) f cf (by omega) hf hcf (fun s c' hs ha' hb => ?_)
      by_cases e : s = i
      · subst e
        have := ha'.1
        omega
      · exact hno s c' (by omega) ha' hb
set_option maxRecDepth 20000 in
theorem c25 {d : Nat} {I : Nat → Int → Int} {P : Int → Nat} {dr : Nat} {σ : Nat → Int → Int} (hN : WFn σ) (hP : WFp σ) (hcp : CRp I σ P dr) (hw : TBw σ I (2 ^ nP σ)) (hl : TBl σ I (2 ^ nP σ)) {wf : Nat → Int} {a v : Int} (h27 : ∀ {d : Nat} (s : Nat), s < 2 ^ nP σ → cal (d + 2) 27 [vr 69, vi (s : Int), vi a, vi v] I P dr (ans (vi (sB wf s (nP σ))) I P dr)) (hwb : ∀ s, 0 ≤ sB wf s (nP σ) ∧ sB wf s (nP σ) ≤ 500) : cal (d + 4) 25 [vr 69, vi a, vi v] I P dr (fun o h => h = (S0, I, RR P dr) ∧ ∃ (f : Nat) (cf : Nat → Nat), o = some (vi (f : Int)) ∧ f < 2 ^ nP σ ∧ Abl σ I f cf ∧ ∀ s2 d, s2 < 2 ^ nP σ → Vec σ s2 d → eqN (nP σ) cf d ∨ betL (nP σ) (Wf σ wf) (Wf σ (zS σ)) cf d) := by
  refine cal_in (Nat.le_of_ble_eq_true rfl) ?_
  have bp := hP.1
  have hnp : nP σ = (σ 127 21).toNat := rfl
  have hn2 := np2 hP
  have hPc : ∀ k, 0 ≤ k → k < 5 → isPl (P k) := hcp.2.1.1
  show wp _ _ _ _ 0 [vr 69, vi a, vi v, vj, vj] [] _
  refine z_push k25_0 ?_
  refine s_ist3 k25_1 rfl ?_
  refine z_push k25_2 ?_
  refine s_ist4 k25_3 rfl ?_
  have ⟨c0, hc0⟩ : ∃ c, Abl σ I 0 c := by
    rcases hl 0 (by omega) with ⟨h1, c, h2, h3⟩ | ⟨h1, h2⟩
    · exact ⟨c, h1, h2, h3⟩
    · exact absurd ((sol_iff (mk_4 hN hP) (is_b hP) (nP σ) 0 0 0 (fun _ => 0)).mpr ⟨fun q _ _ hq => (by rw [Nat.zero_testBit] at hq; cases hq), fun q s _ _ _ hq => (by rw [Nat.zero_testBit] at hq; cases hq)⟩) (h2 _)
  refine lp25 hN hP hcp hw hl h27 hwb (2 ^ nP σ - 1) 1 0 c0 (by omega) (by omega) hc0 (fun s c hs ha hb => ?_)
  have e : s = 0 := by omega
  subst e
  have e2 : eqN (nP σ) c c0 := fun q hq => by
    have h1 := ha.2.2 q hq
    have h2 := hc0.2.2 q hq
    omega
  have e3 : Wf σ wf c = Wf σ wf c0 := sum_eq _ e2
  have e4 : Wf σ (zS σ) c = Wf σ (zS σ) c0 := sum_eq _ e2
  unfold betL at hb
  rcases hb with q | ⟨q1, q | ⟨q2, q⟩⟩
  · omega
  · omega
  · exact lex_irr (lex_eq q (fun s hs => (e2 s hs).symm))
