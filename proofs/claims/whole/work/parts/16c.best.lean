/-! the best night, the reference -/
theorem sz_s {σ : Nat → Int → Int} {p : Int} {r j : Nat} : szS σ p (r + 1) j = kS σ p j + szS σ p r (j + 1) := rfl
/-- what the search rests on -/
def SV (σ : Nat → Int → Int) (br : Nat → Nat → Prop) (J : Nat → Int → Int) : Prop := sig J = σ ∧ RGA σ J ∧ ∀ p k : Nat, (p : Int) < σ 127 21 → k < lnS σ p → (J 142 (200 * (p : Int) + k) = 0 ∧ ¬ br p k) ∨ (J 142 (200 * (p : Int) + k) = 1 ∧ br p k)
theorem SV.fb {σ I J : Nat → Int → Int} {br : Nat → Nat → Prop} (h : SV σ br I) (hF : FBs I J) : SV σ br J := ⟨hF.sig.trans h.1, h.2.1.fb hF, fun p k hp hk => by
  rw [hF 142 _ (by omega) (by omega)]
  exact h.2.2 p k hp hk⟩
theorem SV.ln {σ J : Nat → Int → Int} {br : Nat → Nat → Prop} (h : SV σ br J) {p : Nat} (hp : (p : Int) < σ 127 21) : J 139 p = (lnS σ p : Int) := by
  rw [ln_e hp]
  exact (h.2.1 p hp).1
theorem SV.mk {σ J : Nat → Int → Int} {br : Nat → Nat → Prop} (h : SV σ br J) {p k : Nat} (hp : (p : Int) < σ 127 21) (hk : k < lnS σ p) : J 140 (200 * (p : Int) + k) = (mkQ σ p k : Int) ∧ J 141 (200 * (p : Int) + k) = ((nearN (mkQ σ p k) &&& (2 ^ (σ 127 0).toNat - 1) : Nat) : Int) := by
  rw [ln_e hp] at hk
  exact (h.2.1 p hp).2 k hk
set_option maxRecDepth 20000 in
theorem lp179 {d : Nat} {I σ : Nat → Int → Int} {P : Int → Nat} {dr : Nat} (hs : sig I = σ) {p : Nat} (p1 : p < 5) (hp : PlWF σ p) : ∀ (m i : Nat) (v : Int), (i : Int) + m = pf σ (p : Int) 4 → v + (szS σ p m i : Int) = zS σ p → wp (mcall MT CD (d + 1)) (CD 179) L0 (ans (vi (zS σ p)) I P dr) 4 [vr 127, vi (p : Int), vi v, vi (i : Int)] [] (S0, I, RR P dr) := by
  intro m
  induction m with
  | zero => 
    intro i v hi hv
    have h3 := hp.2.2.2.2.1
    refine s_ild k179_4 rfl ?_
    refine s_ald k179_5 rfl ?_
    refine s_ild k179_6 rfl ?_
    refine z_inv1A k179_7 rfl (Nat.le_of_ble_eq_true rfl) (c166 hs (by omega) (by omega)) ?_
    refine s_icge k179_10 ⟨by omega, by omega⟩ ⟨by omega, by omega⟩ (fun h10 => ?_) (fun q => absurd q (by omega))
    refine s_ild k179_29 rfl ?_
    refine z_iret k179_30 (ans_i ?_)
    have e : szS σ (p : Int) 0 i = 0 := rfl
    rw [e] at hv
    omega
  | succ m ih => 
    intro i v hi hv
    have h3 := hp.2.2.2.2.1
    refine s_ild k179_4 rfl ?_
    refine s_ald k179_5 rfl ?_
    refine s_ild k179_6 rfl ?_
    refine z_inv1A k179_7 rfl (Nat.le_of_ble_eq_true rfl) (c166 hs (by omega) (by omega)) ?_
    refine s_icge k179_10 ⟨by omega, by omega⟩ ⟨by omega, by omega⟩ (fun q => absurd q (by omega)) (fun h10 => ?_)
    have hs4 := (hp.st (j := (i : Int)) (by omega) (by omega)).2.1
    refine s_ild k179_13 rfl ?_
    refine s_ald k179_14 rfl ?_
    refine s_ild k179_15 rfl ?_
    refine s_ild k179_16 rfl ?_
    refine z_push k179_17 ?_
    refine z_inv3A k179_18 rfl (Nat.le_of_ble_eq_true rfl) (c167 hs (by omega) (by omega) (by omega) (by omega) (by decide) (by decide)) ?_
    refine z_iadd k179_21 ?_
    refine s_ist2 k179_22 rfl ?_
    refine s_iinc3 k179_23 rfl ?_
    refine z_goto k179_26 ?_
    refine ih (i + 1) _ (by omega) ?_
    rw [sz_s] at hv
    have hk : ((kS σ p i : Nat) : Int) = ps σ (p : Int) (i : Int) 0 := by show ((ps σ p i 0).toNat : Int) = _; omega
    omega
set_option maxRecDepth 20000 in
theorem c179 {d : Nat} {I : Nat → Int → Int} {P : Int → Nat} {dr : Nat} {σ : Nat → Int → Int} (hs : sig I = σ) {p : Nat} (p1 : p < 5) (hp : PlWF σ p) : cal (d + 2) 179 [vr 127, vi (p : Int)] I P dr (ans (vi (zS σ p)) I P dr) := by
  refine cal_in (Nat.le_of_ble_eq_true rfl) ?_
  show wp _ _ _ _ 0 [vr 127, vi (p : Int), vj, vj] [] _
  refine z_push k179_0 ?_
  refine s_ist2 k179_1 rfl ?_
  refine z_push k179_2 ?_
  refine s_ist3 k179_3 rfl ?_
  have h3 := hp.2.2.2.2.1
  exact lp179 hs p1 hp (pf σ (p : Int) 4).toNat 0 0 (by omega) (by rw [Int.zero_add])
set_option maxRecDepth 20000 in
theorem c175 {d : Nat} {I : Nat → Int → Int} {P : Int → Nat} {dr : Nat} {σ : Nat → Int → Int} {br : Nat → Nat → Prop} (hN : WFn σ) (hP : WFp σ) (hV : SV σ br I) {p k y i : Nat} (p1 : (p : Int) < σ 127 21) (hk : k < lnS σ p) (hy : y < 2 ^ (σ 127 0).toNat) (hi : i < 3) : cal (d + 1) 175 [vr 127, vi (p : Int), vi (k : Int), vi (y : Int), vi (i : Int)] I P dr (ans (vi (b2i (goN (isS σ p) (mkQ σ p k) i y))) I P dr) := by
  refine cal_in (Nat.le_of_ble_eq_true rfl) ?_
  have b0 := hN.1
  have bp := hP.1
  have hln := ln_b hN hP p
  have hm4 := mk_4 hN hP p k hk
  have hy4 := Nat.lt_of_lt_of_le hy (p12 (by omega))
  have hi1 := (hP.2 p (by omega) p1).2.1
  have hq1 : nearN (mkQ σ p k) &&& (2 ^ (σ 127 0).toNat - 1) < 4096 := Nat.lt_of_le_of_lt Nat.and_le_right (by have := p12 (n := (σ 127 0).toNat) (by omega); have := Nat.two_pow_pos (σ 127 0).toNat; omega)
  have hq2 : mkQ σ p k &&& y ≤ y := Nat.and_le_right
  have hq3 : (nearN (mkQ σ p k) &&& (2 ^ (σ 127 0).toNat - 1)) &&& y ≤ y := Nat.and_le_right
  show wp _ _ _ _ 0 [vr 127, vi (p : Int), vi (k : Int), vi (y : Int), vi (i : Int)] [] _
  refine s_ald k175_0 rfl ?_
  refine z_getRe (b := 138) k175_1 rfl rr_127_22 ?_
  refine z_push k175_4 ?_
  refine s_ild k175_6 rfl ?_
  refine z_imul k175_7 ?_
  refine z_push k175_8 ?_
  refine z_iadd k175_9 ?_
  refine z_ialde (z := pf σ (p : Int) 1) k175_10 rfl (by omega) (show ((23 * (p : Int)) + 1) < ((138 : Nat) : Int) by omega) (st_s hV.1 rfl) ?_
  refine s_ild k175_11 rfl ?_
  refine s_icne k175_13 ⟨by omega, by omega⟩ ⟨by omega, by omega⟩ (fun h13 => ?_) (fun h13 => ?_)
  · refine s_ald k175_31 rfl ?_
    refine z_getRe (b := 141) k175_32 rfl rr_127_25 ?_
    refine z_push k175_35 ?_
    refine s_ild k175_38 rfl ?_
    refine z_imul k175_39 ?_
    refine s_ild k175_40 rfl ?_
    refine z_iadd k175_41 ?_
    refine z_ialde (z := ((nearN (mkQ σ p k) &&& (2 ^ (σ 127 0).toNat - 1) : Nat) : Int)) k175_42 rfl (by omega) (show ((200 * (p : Int)) + (k : Int)) < ((1000 : Nat) : Int) by omega) (hV.mk p1 hk).2 ?_
    refine s_ild k175_43 rfl ?_
    refine z_iand k175_44 ?_
    refine z_eqi (b := (((nearN (mkQ σ p k) &&& (2 ^ (σ 127 0).toNat - 1)) &&& y : Nat) : Int)) (zand_n (by omega) (by omega)) ?_
    refine s_ifne k175_45 ⟨by omega, by omega⟩ (fun h45 => ?_) (fun h45 => ?_)
    · refine z_push k175_52 ?_
      refine z_zret k175_53 (by decide) (ans_i (b2i_f ?_).symm)
      unfold goN
      rw [if_neg (by rw [is_e p1]; omega)]
      rw [← go_cut hy]
      exact_mod_cast h45
    · refine z_push k175_48 ?_
      refine z_goto k175_49 ?_
      refine z_zret k175_53 (by decide) (ans_i (b2i_t ?_).symm)
      unfold goN
      rw [if_neg (by rw [is_e p1]; omega)]
      rw [← go_cut hy]
      exact_mod_cast h45
  · refine s_ald k175_16 rfl ?_
    refine z_getRe (b := 140) k175_17 rfl rr_127_24 ?_
    refine z_push k175_20 ?_
    refine s_ild k175_23 rfl ?_
    refine z_imul k175_24 ?_
    refine s_ild k175_25 rfl ?_
    refine z_iadd k175_26 ?_
    refine z_ialde (z := (mkQ σ p k : Int)) k175_27 rfl (by omega) (show ((200 * (p : Int)) + (k : Int)) < ((1000 : Nat) : Int) by omega) (hV.mk p1 hk).1 ?_
    refine z_goto k175_28 ?_
    refine s_ild k175_43 rfl ?_
    refine z_iand k175_44 ?_
    refine z_eqi (b := ((mkQ σ p k &&& y : Nat) : Int)) (zand_n (by omega) (by omega)) ?_
    refine s_ifne k175_45 ⟨by omega, by omega⟩ (fun h45 => ?_) (fun h45 => ?_)
    · refine z_push k175_52 ?_
      refine z_zret k175_53 (by decide) (ans_i (b2i_f ?_).symm)
      unfold goN
      rw [if_pos (by rw [is_e p1]; omega)]
      exact_mod_cast h45
    · refine z_push k175_48 ?_
      refine z_goto k175_49 ?_
      refine z_zret k175_53 (by decide) (ans_i (b2i_t ?_).symm)
      unfold goN
      rw [if_pos (by rw [is_e p1]; omega)]
      exact_mod_cast h45
set_option maxRecDepth 20000 in
theorem lp176 {d : Nat} {I σ : Nat → Int → Int} {P : Int → Nat} {dr : Nat} {br : Nat → Nat → Prop} (hN : WFn σ) (hP : WFp σ) (hV : SV σ br I) {p k : Nat} {c : Nat → Nat} (p1 : (p : Int) < σ 127 21) (hk : k < lnS σ p) (hc : ∀ q, q < p → I 143 q = (c q : Int)) (hcl : ∀ q, q < p → c q ≤ lnS σ q) : ∀ (m q : Nat) (z : Int), q + m = p → ((z = 1 ∧ ¬ br p k ∧ ∀ s, s < q → c s < lnS σ s → goN (isS σ p) (mkQ σ p k) (isS σ s) (mkQ σ s (c s))) ∨ (z = 0 ∧ ¬ (¬ br p k ∧ ∀ s, s < q → c s < lnS σ s → goN (isS σ p) (mkQ σ p k) (isS σ s) (mkQ σ s (c s))))) → wp (mcall MT CD (d + 1)) (CD 176) L0 (fun o h => h = (S0, I, RR P dr) ∧ ((o = some (vi 1) ∧ goA σ br c p k) ∨ (o = some (vi 0) ∧ ¬ goA σ br c p k))) 24 [vr 127, vi (p : Int), vi (k : Int), vi z, vi (q : Int)] [] (S0, I, RR P dr) := by
  have b0 := hN.1
  have bp := hP.1
  have hln := ln_b hN hP p
  intro m
  induction m with
  | zero =>
    intro q z hq hz
    have hqp : q = p := by omega
    subst hqp
    rcases hz with ⟨rfl, hz⟩ | ⟨rfl, hz⟩
    · refine s_ild k176_24 rfl ?_
      refine s_ild k176_26 rfl ?_
      refine s_icge k176_27 ⟨by omega, by omega⟩ ⟨by omega, by omega⟩ (fun h27 => ?_) (fun q => absurd q (by omega))
      refine s_ild k176_103 rfl ?_
      exact z_zret k176_104 (by decide) ⟨rfl, Or.inl ⟨rfl, hz⟩⟩
    · refine s_ild k176_24 rfl ?_
      refine s_ild k176_26 rfl ?_
      refine s_icge k176_27 ⟨by omega, by omega⟩ ⟨by omega, by omega⟩ (fun h27 => ?_) (fun q => absurd q (by omega))
      refine s_ild k176_103 rfl ?_
      exact z_zret k176_104 (by decide) ⟨rfl, Or.inr ⟨rfl, hz⟩⟩
  | succ m ih =>
    intro q z hq hz
    have hisq : I 138 (23 * (q : Int) + 1) = ((isS σ q : Nat) : Int) := by
      have h1 := (hP.2 q (by omega) (by omega)).2.1
      rw [is_e (by omega)]
      have h2 : I 138 (23 * (q : Int) + 1) = pf σ q 1 := st_s hV.1 rfl
      omega
    have hlq := ln_b hN hP q
    have hcq := hcl q (by omega)
    rcases hz with ⟨rfl, hz⟩ | ⟨rfl, hz⟩
    · refine s_ild k176_24 rfl ?_
      refine s_ild k176_26 rfl ?_
      refine s_icge k176_27 ⟨by omega, by omega⟩ ⟨by omega, by omega⟩ (fun q => absurd q (by omega)) (fun h27 => ?_)
      refine s_ild k176_30 rfl ?_
      refine s_ifeq k176_31 (inR_lit rfl) (fun q => absurd q (by decide)) (fun _ => ?_)
      refine s_ald k176_34 rfl ?_
      refine z_getRe (b := 143) k176_35 rfl rr_127_29 ?_
      refine s_ild k176_38 rfl ?_
      refine z_ialde (z := (c q : Int)) k176_40 rfl (by omega) (show (q : Int) < ((6 : Nat) : Int) by omega) (hc q (by omega)) ?_
      refine s_ald k176_41 rfl ?_
      refine z_getRe (b := 139) k176_42 rfl rr_127_23 ?_
      refine s_ild k176_45 rfl ?_
      refine z_ialde (z := (lnS σ q : Int)) k176_47 rfl (by omega) (show (q : Int) < ((5 : Nat) : Int) by omega) (hV.ln (by omega)) ?_
      refine s_icge k176_48 ⟨by omega, by omega⟩ ⟨by omega, by omega⟩ (fun h48 => ?_) (fun h48 => ?_)
      · refine z_push k176_91 ?_
        refine z_goto k176_92 ?_
        refine s_ist3 k176_96 rfl ?_
        refine s_iinc4 k176_97 rfl ?_
        refine z_goto k176_100 ?_
        refine ih (q + 1) 1 (by omega) (Or.inl ⟨rfl, hz.1, fun s hs hl => ?_⟩)
        by_cases e : s = q
        · subst e; first | exact h88 | exact absurd hl (by omega)
        · exact hz.2 s (by omega) hl
      · refine s_ald k176_51 rfl ?_
        refine s_ild k176_52 rfl ?_
        refine s_ild k176_53 rfl ?_
        refine s_ald k176_54 rfl ?_
        refine z_getRe (b := 140) k176_55 rfl rr_127_24 ?_
        refine z_push k176_58 ?_
        refine s_ild k176_61 rfl ?_
        refine z_imul k176_63 ?_
        refine s_ald k176_64 rfl ?_
        refine z_getRe (b := 143) k176_65 rfl rr_127_29 ?_
        refine s_ild k176_68 rfl ?_
        refine z_ialde (z := (c q : Int)) k176_70 rfl (by omega) (show (q : Int) < ((6 : Nat) : Int) by omega) (hc q (by omega)) ?_
        refine z_iadd k176_71 ?_
        refine z_ialde (z := (mkQ σ q (c q) : Int)) k176_72 rfl (by omega) (show ((200 * (q : Int)) + (c q : Int)) < ((1000 : Nat) : Int) by omega) (hV.mk (by omega) (by omega)).1 ?_
        refine s_ald k176_73 rfl ?_
        refine z_getRe (b := 138) k176_74 rfl rr_127_22 ?_
        refine z_push k176_77 ?_
        refine s_ild k176_79 rfl ?_
        refine z_imul k176_81 ?_
        refine z_push k176_82 ?_
        refine z_iadd k176_83 ?_
        refine z_ialde (z := ((isS σ q : Nat) : Int)) k176_84 rfl (by omega) (show ((23 * (q : Int)) + 1) < ((138 : Nat) : Int) by omega) hisq ?_
        refine z_inv4A k176_85 rfl (Nat.le_of_ble_eq_true rfl) (c175 (y := mkQ σ q (c q)) (i := isS σ q) hN hP hV p1 hk (mk_b hN hP q (c q) (by omega)).1 (is_b hP q)) ?_
        refine z_ifeqb k176_88 (fun h88 => ?_) (fun h88 => ?_)
        · refine z_push k176_95 ?_
          refine s_ist3 k176_96 rfl ?_
          refine s_iinc4 k176_97 rfl ?_
          refine z_goto k176_100 ?_
          exact ih (q + 1) 0 (by omega) (Or.inr ⟨rfl, fun u => h88 (u.2 q (by omega) (by omega))⟩)
        · refine z_push k176_91 ?_
          refine z_goto k176_92 ?_
          refine s_ist3 k176_96 rfl ?_
          refine s_iinc4 k176_97 rfl ?_
          refine z_goto k176_100 ?_
          refine ih (q + 1) 1 (by omega) (Or.inl ⟨rfl, hz.1, fun s hs hl => ?_⟩)
          by_cases e : s = q
          · subst e; first | exact h88 | exact absurd hl (by omega)
          · exact hz.2 s (by omega) hl
    · refine s_ild k176_24 rfl ?_
      refine s_ild k176_26 rfl ?_
      refine s_icge k176_27 ⟨by omega, by omega⟩ ⟨by omega, by omega⟩ (fun q => absurd q (by omega)) (fun h27 => ?_)
      refine s_ild k176_30 rfl ?_
      refine s_ifeq k176_31 (inR_lit rfl) (fun _ => ?_) (fun q => absurd q (by decide))
      refine s_ild k176_103 rfl ?_
      exact z_zret k176_104 (by decide) ⟨rfl, Or.inr ⟨rfl, fun u => hz ⟨u.1, fun s hs => u.2 s (by omega)⟩⟩⟩
set_option maxRecDepth 20000 in
theorem c176 {d : Nat} {I σ : Nat → Int → Int} {P : Int → Nat} {dr : Nat} {br : Nat → Nat → Prop} (hN : WFn σ) (hP : WFp σ) (hV : SV σ br I) {p k : Nat} {c : Nat → Nat} (p1 : (p : Int) < σ 127 21) (hk : k < lnS σ p) (hc : ∀ q, q < p → I 143 q = (c q : Int)) (hcl : ∀ q, q < p → c q ≤ lnS σ q) : cal (d + 2) 176 [vr 127, vi (p : Int), vi (k : Int)] I P dr (fun o h => h = (S0, I, RR P dr) ∧ ((o = some (vi 1) ∧ goA σ br c p k) ∨ (o = some (vi 0) ∧ ¬ goA σ br c p k))) := by
  refine cal_in (Nat.le_of_ble_eq_true rfl) ?_
  have b0 := hN.1
  have bp := hP.1
  have hln := ln_b hN hP p
  show wp _ _ _ _ 0 [vr 127, vi (p : Int), vi (k : Int), vj, vj] [] _
  rcases hV.2.2 p k p1 hk with ⟨hb, hb2⟩ | ⟨hb, hb2⟩
  · refine s_ald k176_0 rfl ?_
    refine z_getRe (b := 142) k176_1 rfl rr_127_26 ?_
    refine z_push k176_4 ?_
    refine s_ild k176_7 rfl ?_
    refine z_imul k176_8 ?_
    refine s_ild k176_9 rfl ?_
    refine z_iadd k176_10 ?_
    refine z_balde (z := 0) k176_11 rfl (by omega) (show ((200 * (p : Int)) + (k : Int)) < ((1000 : Nat) : Int) by omega) hb ?_
    refine s_ifne k176_12 (inR_lit rfl) (fun q => absurd q (by decide)) (fun _ => ?_)
    refine z_push k176_15 ?_
    refine z_goto k176_16 ?_
    refine s_ist3 k176_20 rfl ?_
    refine z_push k176_21 ?_
    refine s_ist4 k176_22 rfl ?_
    exact lp176 hN hP hV p1 hk hc hcl p 0 1 (by omega) (Or.inl ⟨rfl, hb2, fun s hs => absurd hs (by omega)⟩)
  · refine s_ald k176_0 rfl ?_
    refine z_getRe (b := 142) k176_1 rfl rr_127_26 ?_
    refine z_push k176_4 ?_
    refine s_ild k176_7 rfl ?_
    refine z_imul k176_8 ?_
    refine s_ild k176_9 rfl ?_
    refine z_iadd k176_10 ?_
    refine z_balde (z := 1) k176_11 rfl (by omega) (show ((200 * (p : Int)) + (k : Int)) < ((1000 : Nat) : Int) by omega) hb ?_
    refine s_ifne k176_12 (inR_lit rfl) (fun _ => ?_) (fun q => absurd q (by decide))
    refine z_push k176_19 ?_
    refine s_ist3 k176_20 rfl ?_
    refine z_push k176_21 ?_
    refine s_ist4 k176_22 rfl ?_
    exact lp176 hN hP hV p1 hk hc hcl p 0 0 (by omega) (Or.inr ⟨rfl, fun u => u.1 hb2⟩)
/-- plans below i are found, and not barred -/
def SVp (σ J : Nat → Int → Int) (i : Nat) : Prop := ∀ p : Nat, p < i → RG σ J p (plS σ p) ∧ ∀ k, k < (plS σ p).length → J 142 (200 * (p : Int) + k) = 0
theorem RG.no142 {σ J : Nat → Int → Int} {p k z : Int} {acc : List Nat} (h : RG σ J p acc) : RG σ (upI J 142 k z) p acc := ⟨(up_ne (by decide)).trans h.1, fun i hi => ⟨(up_ne (by decide)).trans (h.2 i hi).1, (up_ne (by decide)).trans (h.2 i hi).2⟩⟩
set_option maxRecDepth 20000 in
theorem lp177b {d : Nat} {I σ : Nat → Int → Int} {P : Int → Nat} {dr : Nat} (hN : WFn σ) (hP : WFp σ) {Q : mQ} {p : Nat} (p1 : (p : Int) < σ 127 21) (kx : ∀ (J : Nat → Int → Int) (l2 : mV), sig J = σ → (∀ a q, ¬ (139 ≤ a ∧ a ≤ 142) → J a q = I a q) → RG σ J p (plS σ p) → (∀ q, q < (plS σ p).length → J 142 (200 * (p : Int) + q) = 0) → SVp σ J p → wp (mcall MT CD (d + 6)) (CD 177) L0 Q 46 [vr 127, vi (p : Int), l2] [] (S0, J, RR P dr)) : ∀ (m k : Nat) (J : Nat → Int → Int), (k : Int) + m = ((plS σ p).length : Int) → sig J = σ → (∀ a q, ¬ (139 ≤ a ∧ a ≤ 142) → J a q = I a q) → RG σ J p (plS σ p) → (∀ q, q < k → J 142 (200 * (p : Int) + q) = 0) → SVp σ J p → wp (mcall MT CD (d + 6)) (CD 177) L0 (Q) 17 [vr 127, vi (p : Int), vi (k : Int)] [] (S0, J, RR P dr) := by
  intro m
  induction m with
  | zero => 
    intro k J hi hs hlo hG hz hS
    have bp := hP.1
    have hlen := pl_112 hN (hP.2 p (by omega) p1)
    refine s_ild k177_17 rfl ?_
    refine s_ald k177_18 rfl ?_
    refine z_getRe (b := 139) k177_19 rfl rr_127_23 ?_
    refine s_ild k177_22 rfl ?_
    refine z_ialde (z := ((plS σ p).length : Int)) k177_23 rfl (by omega) (show (p : Int) < ((5 : Nat) : Int) by omega) hG.1 ?_
    refine s_icge k177_24 ⟨by omega, by omega⟩ ⟨by omega, by omega⟩ (fun h24 => ?_) (fun q => absurd q (by omega))
    exact kx J _ hs hlo hG (fun q hq => hz q (by omega)) hS
  | succ m ih => 
    intro k J hi hs hlo hG hz hS
    have bp := hP.1
    have hlen := pl_112 hN (hP.2 p (by omega) p1)
    refine s_ild k177_17 rfl ?_
    refine s_ald k177_18 rfl ?_
    refine z_getRe (b := 139) k177_19 rfl rr_127_23 ?_
    refine s_ild k177_22 rfl ?_
    refine z_ialde (z := ((plS σ p).length : Int)) k177_23 rfl (by omega) (show (p : Int) < ((5 : Nat) : Int) by omega) hG.1 ?_
    refine s_icge k177_24 ⟨by omega, by omega⟩ ⟨by omega, by omega⟩ (fun q => absurd q (by omega)) (fun h24 => ?_)
    refine s_ald k177_27 rfl ?_
    refine z_getRe (b := 142) k177_28 rfl rr_127_26 ?_
    refine z_push k177_31 ?_
    refine s_ild k177_34 rfl ?_
    refine z_imul k177_35 ?_
    refine s_ild k177_36 rfl ?_
    refine z_iadd k177_37 ?_
    refine z_push k177_38 ?_
    refine z_bast k177_39 rfl (by omega) (show ((200 * (p : Int)) + (k : Int)) < ((1000 : Nat) : Int) by omega) (Or.inl rfl) ?_
    refine s_iinc2 k177_40 rfl ?_
    refine z_goto k177_43 ?_
    refine ih (k + 1) _ (by omega) ((sig_no rfl).trans hs) (fun a q h => (up_ne (by omega)).trans (hlo a q h)) (hG.no142) (fun q hq => ?_) (fun q hq => ?_)
    · by_cases e : q = k
      · subst e; exact up_at
      · exact (up_nk (by omega)).trans (hz q (by omega))
    · obtain ⟨a1, a2⟩ := hS q hq
      exact ⟨a1.no142, fun s hs => (up_nk (by have := (pl_112 hN (hP.2 q (by omega) (by omega))); omega)).trans (a2 s hs)⟩
set_option maxRecDepth 20000 in
theorem lp177 {d : Nat} {I σ : Nat → Int → Int} {P : Int → Nat} {dr : Nat} (hN : WFn σ) (hP : WFp σ) : ∀ (m i : Nat) (J : Nat → Int → Int) (l2 : mV), (i : Int) + m = σ 127 21 → sig J = σ → (∀ a q, ¬ (139 ≤ a ∧ a ≤ 142) → J a q = I a q) → SVp σ J i → wp (mcall MT CD (d + 6)) (CD 177) L0 (fun o h => o = none ∧ ∃ J, h = (S0, J, RR P dr) ∧ (∀ a k, ¬ (139 ≤ a ∧ a ≤ 142) → J a k = I a k) ∧ SV σ (fun _ _ => False) J) 2 [vr 127, vi (i : Int), l2] [] (S0, J, RR P dr) := by
  intro m
  induction m with
  | zero => 
    intro i J l2 hi hs hlo hS
    have bp := hP.1
    refine s_ild k177_2 rfl ?_
    refine s_ald k177_3 rfl ?_
    refine z_getIe (z := σ 127 21) k177_4 rfl (st_s hs rfl) ?_
    refine s_icge k177_7 ⟨by omega, by omega⟩ ⟨by omega, by omega⟩ (fun h7 => ?_) (fun q => absurd q (by omega))
    refine z_vret k177_52 ⟨rfl, J, rfl, hlo, hs, fun p hp => (hS p (by omega)).1, fun p k hp hk => Or.inl ⟨?_, fun u => u⟩⟩
    rw [ln_e hp] at hk
    exact (hS p (by omega)).2 k hk
  | succ m ih => 
    intro i J l2 hi hs hlo hS
    have bp := hP.1
    refine s_ild k177_2 rfl ?_
    refine s_ald k177_3 rfl ?_
    refine z_getIe (z := σ 127 21) k177_4 rfl (st_s hs rfl) ?_
    refine s_icge k177_7 ⟨by omega, by omega⟩ ⟨by omega, by omega⟩ (fun q => absurd q (by omega)) (fun h7 => ?_)
    refine s_ald k177_10 rfl ?_
    refine s_ild k177_11 rfl ?_
    refine z_inv1 k177_12 rfl (Nat.le_of_ble_eq_true rfl) (c172 hs hN (by omega) (by omega) (hP.2 i (by omega) (by omega))) (fun o h1 hq => ?_)
    obtain ⟨rfl, J2, rfl, hs2, gF, gG⟩ := hq
    refine z_push k177_15 ?_
    refine s_ist2 k177_16 rfl ?_
    refine lp177b (I := I) hN hP (p := i) (by omega) (fun J3 l2 s3 lo3 g3 z3 S3 => ?_) (plS σ i).length 0 J2 (by omega) hs2 (fun a q h => (gF a q (by omega) (by omega)).trans (hlo a q h)) gG (fun q hq => absurd hq (by omega)) (fun q hq => ?_)
    · refine s_iinc1 k177_46 rfl ?_
      refine z_goto k177_49 ?_
      refine ih (i + 1) J3 _ (by omega) s3 lo3 (fun q hq => ?_)
      by_cases e : q = i
      · subst e; exact ⟨g3, z3⟩
      · exact S3 q (by omega)
    · obtain ⟨a1, a2⟩ := hS q hq
      have hl := pl_112 hN (hP.2 q (by omega) (by omega))
      refine ⟨⟨(gF 139 q (by omega) (by omega)).trans a1.1, fun s hs => ⟨(gF 140 _ (by omega) (by omega)).trans (a1.2 s hs).1, (gF 141 _ (by omega) (by omega)).trans (a1.2 s hs).2⟩⟩, fun s hs => (gF 142 _ (by omega) (by omega)).trans (a2 s hs)⟩
set_option maxRecDepth 20000 in
theorem c177 {d : Nat} {I : Nat → Int → Int} {P : Int → Nat} {dr : Nat} {σ : Nat → Int → Int} (hs : sig I = σ) (hN : WFn σ) (hP : WFp σ) : cal (d + 7) 177 [vr 127] I P dr (fun o h => o = none ∧ ∃ J, h = (S0, J, RR P dr) ∧ (∀ a k, ¬ (139 ≤ a ∧ a ≤ 142) → J a k = I a k) ∧ SV σ (fun _ _ => False) J) := by
  refine cal_in (Nat.le_of_ble_eq_true rfl) ?_
  show wp _ _ _ _ 0 [vr 127, vj, vj] [] _
  refine z_push k177_0 ?_
  refine s_ist1 k177_1 rfl ?_
  exact lp177 hN hP (σ 127 21).toNat 0 I _ (by have := hP.1; omega) hs (fun _ _ _ => rfl) (fun q hq => absurd hq (by omega))
