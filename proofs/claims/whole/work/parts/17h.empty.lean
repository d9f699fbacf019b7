/-! the best night: why a slot is empty, the reference -/
theorem zb_R {a k : Nat} (hk : k < 32) (h : a < 2147483648) : inR (zand (zshr a k) 1) := by
  have h1 : a / 2 ^ k ≤ a := Nat.div_le_self _ _
  have h2 := zand_n (a := a / 2 ^ k) (b := 1) (by omega) (by decide)
  have h3 : (a / 2 ^ k) &&& 1 ≤ 1 := Nat.and_le_right
  rw [zshr_n hk h]
  have h4 : zand ((a / 2 ^ k : Nat) : Int) 1 = ((a / 2 ^ k &&& 1 : Nat) : Int) := h2
  rw [h4]
  exact ⟨by omega, by omega⟩
set_option maxRecDepth 20000 in
theorem lp185c {d : Nat} {I σ : Nat → Int → Int} {P : Int → Nat} {dr : Nat} {Q : mQ} (hN : WFn σ) (hP : WFp σ) {e : Nat → Nat} (hV : SV σ (fun _ _ => False) I) (he : ∀ q, q < nP σ → I 144 q = if e q < lnS σ q then (e q : Int) else -1) {p k : Nat} (p1 : (p : Int) < σ 127 21) (hk : k < lnS σ p) {xs x2 : mV} (hK : ∀ z : Int, ((z = 1 ∧ fitE σ e p k) ∨ (z = 0 ∧ ¬ fitE σ e p k)) → wp (mcall MT CD (d + 7)) (CD 185) L0 Q 175 [vr 127, xs, x2, vi (p : Int), vi (k : Int), vi z, vi (nP σ : Int)] [] (S0, I, RR P dr)) : ∀ (m q : Nat) (z : Int), q + m = nP σ → ((z = 1 ∧ ∀ q', q' < q → e q' < lnS σ q' → goN (isS σ p) (mkQ σ p k) (isS σ q') (mkQ σ q' (e q'))) ∨ (z = 0 ∧ ¬ ∀ q', q' < q → e q' < lnS σ q' → goN (isS σ p) (mkQ σ p k) (isS σ q') (mkQ σ q' (e q')))) → wp (mcall MT CD (d + 7)) (CD 185) L0 Q 96 [vr 127, xs, x2, vi (p : Int), vi (k : Int), vi z, vi (q : Int)] [] (S0, I, RR P dr) := by
  have bp := hP.1
  have b0 := hN.1
  have hnp : nP σ = (σ 127 21).toNat := rfl
  intro m
  induction m with
  | zero =>
    intro q z hi hz
    refine s_ild k185_96 rfl ?_
    refine s_ald k185_98 rfl ?_
    refine z_getIe (z := σ 127 21) k185_99 rfl (st_s hV.1 rfl) ?_
    refine s_icge k185_102 ⟨by omega, by omega⟩ ⟨by omega, by omega⟩ (fun h102 => ?_) (fun q => absurd q (by omega))
    have e1 : q = nP σ := by omega
    subst e1
    exact hK z hz
  | succ m ih =>
    intro q z hi hz
    have hln := ln_b hN hP q
    have heq := he q (by omega)
    rcases hz with ⟨rfl, hal⟩ | ⟨rfl, hno⟩
    · by_cases c : e q < lnS σ q
      · rw [if_pos c] at heq
        have hm4 := mk_b hN hP q (e q) c
        have h140 := (hV.mk (by omega) c).1
        have his : I 138 ((23 * (q : Int)) + 1) = ((isS σ q : Nat) : Int) := by
          have h1 : I 138 ((23 * (q : Int)) + 1) = pf σ (q : Int) 1 := st_s hV.1 rfl
          have h2 := (hP.2 (q : Int) (by omega) (by omega)).2.1
          rw [is_e (by omega)]
          omega
        refine s_ild k185_96 rfl ?_
        refine s_ald k185_98 rfl ?_
        refine z_getIe (z := σ 127 21) k185_99 rfl (st_s hV.1 rfl) ?_
        refine s_icge k185_102 ⟨by omega, by omega⟩ ⟨by omega, by omega⟩ (fun q => absurd q (by omega)) (fun h102 => ?_)
        refine s_ild k185_105 rfl ?_
        refine s_ifeq k185_107 (inR_lit rfl) (fun q => absurd q (by decide)) (fun _ => ?_)
        refine s_ald k185_110 rfl ?_
        refine z_getRe (b := 144) k185_111 rfl rr_127_30 ?_
        refine s_ild k185_114 rfl ?_
        refine z_ialde (z := (e q : Int)) k185_116 rfl (by omega) (show (q : Int) < ((5 : Nat) : Int) by omega) heq ?_
        refine z_push k185_117 ?_
        refine s_iceq k185_118 ⟨by omega, by omega⟩ (inR_lit rfl) (fun q => absurd q (by omega)) (fun h118 => ?_)
        refine s_ald k185_121 rfl ?_
        refine s_ild k185_122 rfl ?_
        refine s_ild k185_123 rfl ?_
        refine s_ald k185_125 rfl ?_
        refine z_getRe (b := 140) k185_126 rfl rr_127_24 ?_
        refine z_push k185_129 ?_
        refine s_ild k185_132 rfl ?_
        refine z_imul k185_134 ?_
        refine s_ald k185_135 rfl ?_
        refine z_getRe (b := 144) k185_136 rfl rr_127_30 ?_
        refine s_ild k185_139 rfl ?_
        refine z_ialde (z := (e q : Int)) k185_141 rfl (by omega) (show (q : Int) < ((5 : Nat) : Int) by omega) heq ?_
        refine z_iadd k185_142 ?_
        refine z_ialde (z := (mkQ σ q (e q) : Int)) k185_143 rfl (by omega) (show ((200 * (q : Int)) + (e q : Int)) < ((1000 : Nat) : Int) by omega) h140 ?_
        refine s_ald k185_144 rfl ?_
        refine z_getRe (b := 138) k185_145 rfl rr_127_22 ?_
        refine z_push k185_148 ?_
        refine s_ild k185_150 rfl ?_
        refine z_imul k185_152 ?_
        refine z_push k185_153 ?_
        refine z_iadd k185_154 ?_
        refine z_ialde (z := ((isS σ q : Nat) : Int)) k185_155 rfl (by omega) (show ((23 * (q : Int)) + 1) < ((138 : Nat) : Int) by omega) his ?_
        refine z_inv4A k185_156 rfl (Nat.le_of_ble_eq_true rfl) (c175 hN hP hV p1 hk hm4.1 (is_b hP q)) ?_
        refine z_ifeqb k185_159 (fun h159 => ?_) (fun h159 => ?_)
        · refine z_push k185_166 ?_
          refine s_ist5 k185_167 rfl ?_
          refine s_iinc6 k185_169 rfl ?_
          refine z_goto k185_172 ?_
          exact ih (q + 1) 0 (by omega) (Or.inr ⟨rfl, fun u => h159 (u q (by omega) c)⟩)
        · refine z_push k185_162 ?_
          refine z_goto k185_163 ?_
          refine s_ist5 k185_167 rfl ?_
          refine s_iinc6 k185_169 rfl ?_
          refine z_goto k185_172 ?_
          refine ih (q + 1) 1 (by omega) (Or.inl ⟨rfl, fun q' hq' u => ?_⟩)
          by_cases c2 : q' = q
          · subst c2; exact h159
          · exact hal q' (by omega) u
      · rw [if_neg c] at heq
        refine s_ild k185_96 rfl ?_
        refine s_ald k185_98 rfl ?_
        refine z_getIe (z := σ 127 21) k185_99 rfl (st_s hV.1 rfl) ?_
        refine s_icge k185_102 ⟨by omega, by omega⟩ ⟨by omega, by omega⟩ (fun q => absurd q (by omega)) (fun h102 => ?_)
        refine s_ild k185_105 rfl ?_
        refine s_ifeq k185_107 (inR_lit rfl) (fun q => absurd q (by decide)) (fun _ => ?_)
        refine s_ald k185_110 rfl ?_
        refine z_getRe (b := 144) k185_111 rfl rr_127_30 ?_
        refine s_ild k185_114 rfl ?_
        refine z_ialde (z := (-1)) k185_116 rfl (by omega) (show (q : Int) < ((5 : Nat) : Int) by omega) heq ?_
        refine z_push k185_117 ?_
        refine s_iceq k185_118 (inR_lit rfl) (inR_lit rfl) (fun _ => ?_) (fun q => absurd q (by decide))
        refine z_push k185_162 ?_
        refine z_goto k185_163 ?_
        refine s_ist5 k185_167 rfl ?_
        refine s_iinc6 k185_169 rfl ?_
        refine z_goto k185_172 ?_
        refine ih (q + 1) 1 (by omega) (Or.inl ⟨rfl, fun q' hq' u => ?_⟩)
        by_cases c2 : q' = q
        · subst c2; exact (c u).elim
        · exact hal q' (by omega) u
    · refine s_ild k185_96 rfl ?_
      refine s_ald k185_98 rfl ?_
      refine z_getIe (z := σ 127 21) k185_99 rfl (st_s hV.1 rfl) ?_
      refine s_icge k185_102 ⟨by omega, by omega⟩ ⟨by omega, by omega⟩ (fun q => absurd q (by omega)) (fun h102 => ?_)
      refine s_ild k185_105 rfl ?_
      refine s_ifeq k185_107 (inR_lit rfl) (fun _ => ?_) (fun q => absurd q (by decide))
      refine z_push k185_166 ?_
      refine s_ist5 k185_167 rfl ?_
      refine s_iinc6 k185_169 rfl ?_
      refine z_goto k185_172 ?_
      exact ih (q + 1) 0 (by omega) (Or.inr ⟨rfl, fun u => hno (fun q' hq' w => u q' (by omega) w)⟩)
set_option maxRecDepth 20000 in
theorem lp185b {d : Nat} {I σ : Nat → Int → Int} {P : Int → Nat} {dr : Nat} {Q : mQ} (hN : WFn σ) (hP : WFp σ) {e : Nat → Nat} (hV : SV σ (fun _ _ => False) I) (he : ∀ q, q < nP σ → I 144 q = if e q < lnS σ q then (e q : Int) else -1) {s p : Nat} (s1 : (s : Int) < σ 127 0) (p1 : (p : Int) < σ 127 21) (hK : ∀ (z : Int) (k5 k6 k7 : mV), PRe σ e s (Vb (p + 1) 0) z → wp (mcall MT CD (d + 7)) (CD 185) L0 Q 201 [vr 127, vi (s : Int), vi z, vi (p : Int), k5, k6, k7] [] (S0, I, RR P dr)) : ∀ (m k : Nat) (z : Int) (x5 x6 : mV), k + m = lnS σ p → PRe σ e s (Vb p k) z → wp (mcall MT CD (d + 7)) (CD 185) L0 Q 48 [vr 127, vi (s : Int), vi z, vi (p : Int), vi (k : Int), x5, x6] [] (S0, I, RR P dr) := by
  have bp := hP.1
  have b0 := hN.1
  have hnp : nP σ = (σ 127 21).toNat := rfl
  have hln := ln_b hN hP p
  have hep := he p (by omega)
  intro m
  induction m with
  | zero =>
    intro k z x5 x6 hi hz
    refine s_ild k185_48 rfl ?_
    refine s_ald k185_50 rfl ?_
    refine z_getRe (b := 139) k185_51 rfl rr_127_23 ?_
    refine s_ild k185_54 rfl ?_
    refine z_ialde (z := (lnS σ p : Int)) k185_55 rfl (by omega) (show (p : Int) < ((5 : Nat) : Int) by omega) (hV.ln p1) ?_
    refine s_icge k185_56 ⟨by omega, by omega⟩ ⟨by omega, by omega⟩ (fun h56 => ?_) (fun q => absurd q (by omega))
    exact hK z _ _ _ (hz.row (fun k' hk' u => absurd u.2.1 (by omega)))
  | succ m ih =>
    intro k z x5 x6 hi hz
    have hzb := hz.b
    by_cases c : e p < lnS σ p
    · rw [if_pos c] at hep
      refine s_ild k185_48 rfl ?_
      refine s_ald k185_50 rfl ?_
      refine z_getRe (b := 139) k185_51 rfl rr_127_23 ?_
      refine s_ild k185_54 rfl ?_
      refine z_ialde (z := (lnS σ p : Int)) k185_55 rfl (by omega) (show (p : Int) < ((5 : Nat) : Int) by omega) (hV.ln p1) ?_
      refine s_icge k185_56 ⟨by omega, by omega⟩ ⟨by omega, by omega⟩ (fun q => absurd q (by omega)) (fun h56 => ?_)
      refine s_ald k185_59 rfl ?_
      refine z_getRe (b := 144) k185_60 rfl rr_127_30 ?_
      refine s_ild k185_63 rfl ?_
      refine z_ialde (z := (e p : Int)) k185_64 rfl (by omega) (show (p : Int) < ((5 : Nat) : Int) by omega) hep ?_
      refine z_push k185_65 ?_
      refine s_icne k185_66 ⟨by omega, by omega⟩ (inR_lit rfl) (fun h66 => ?_) (fun q => absurd q (by omega))
      exact hK z _ _ _ (hz.row (fun k' hk' u => u.2.2.1 c))
    · rw [if_neg c] at hep
      have hm4 := mk_4 hN hP p k (by omega)
      have hbt := bit_n (a := mkQ σ p k) (k := s) (by omega) (by omega)
      refine s_ild k185_48 rfl ?_
      refine s_ald k185_50 rfl ?_
      refine z_getRe (b := 139) k185_51 rfl rr_127_23 ?_
      refine s_ild k185_54 rfl ?_
      refine z_ialde (z := (lnS σ p : Int)) k185_55 rfl (by omega) (show (p : Int) < ((5 : Nat) : Int) by omega) (hV.ln p1) ?_
      refine s_icge k185_56 ⟨by omega, by omega⟩ ⟨by omega, by omega⟩ (fun q => absurd q (by omega)) (fun h56 => ?_)
      refine s_ald k185_59 rfl ?_
      refine z_getRe (b := 144) k185_60 rfl rr_127_30 ?_
      refine s_ild k185_63 rfl ?_
      refine z_ialde (z := (-1)) k185_64 rfl (by omega) (show (p : Int) < ((5 : Nat) : Int) by omega) hep ?_
      refine z_push k185_65 ?_
      refine s_icne k185_66 (inR_lit rfl) (inR_lit rfl) (fun q => absurd q (by decide)) (fun _ => ?_)
      refine s_ald k185_69 rfl ?_
      refine z_getRe (b := 140) k185_70 rfl rr_127_24 ?_
      refine z_push k185_73 ?_
      refine s_ild k185_76 rfl ?_
      refine z_imul k185_77 ?_
      refine s_ild k185_78 rfl ?_
      refine z_iadd k185_80 ?_
      refine z_ialde (z := (mkQ σ p k : Int)) k185_81 rfl (by omega) (show ((200 * (p : Int)) + (k : Int)) < ((1000 : Nat) : Int) by omega) (hV.mk p1 (by omega)).1 ?_
      refine s_ild k185_82 rfl ?_
      refine z_ishr k185_83 ?_
      refine z_push k185_84 ?_
      refine z_iand k185_85 ?_
      refine z_push k185_86 ?_
      refine s_icne k185_87 (zb_R (by omega) (by omega)) (inR_lit rfl) (fun h87 => ?_) (fun h87 => ?_)
      · refine s_iinc4 k185_195 rfl ?_
        refine z_goto k185_198 ?_
        exact ih (k + 1) z _ _ (by omega) (hz.nohit (fun u => h87 (hbt.mpr u.2.2.2)))
      · refine z_push k185_90 ?_
        refine s_ist5 k185_91 rfl ?_
        refine z_push k185_93 ?_
        refine s_ist6 k185_94 rfl ?_
        refine lp185c hN hP hV he p1 (by omega) ?_ (nP σ) 0 1 (by omega) (Or.inl ⟨rfl, fun q' hq' => absurd hq' (by omega)⟩)
        have hh : hitE σ e s p k := ⟨by omega, by omega, c, hbt.mp h87⟩
        rintro z5 (⟨rfl, hf⟩ | ⟨rfl, hf⟩)
        · refine s_ild k185_175 rfl ?_
          refine s_ifeq k185_177 (inR_lit rfl) (fun q => absurd q (by decide)) (fun _ => ?_)
          refine z_push k185_180 ?_
          refine z_goto k185_181 ?_
          refine s_ist2 k185_194 rfl ?_
          refine s_iinc4 k185_195 rfl ?_
          refine z_goto k185_198 ?_
          exact ih (k + 1) 3 _ _ (by omega) (PRe.fit hh hf)
        · refine s_ild k185_175 rfl ?_
          refine s_ifeq k185_177 (inR_lit rfl) (fun _ => ?_) (fun q => absurd rfl q)
          refine s_ild k185_184 rfl ?_
          refine z_push k185_185 ?_
          have hn := PRe.nofit hz hh hf
          refine s_icne k185_186 ⟨by omega, by omega⟩ (inR_lit rfl) (fun h186 => ?_) (fun h186 => ?_)
          · refine s_ild k185_193 rfl ?_
            refine s_ist2 k185_194 rfl ?_
            refine s_iinc4 k185_195 rfl ?_
            refine z_goto k185_198 ?_
            rw [if_neg h186] at hn
            exact ih (k + 1) z _ _ (by omega) hn
          · refine z_push k185_189 ?_
            refine z_goto k185_190 ?_
            refine s_ist2 k185_194 rfl ?_
            refine s_iinc4 k185_195 rfl ?_
            refine z_goto k185_198 ?_
            rw [if_pos (by omega)] at hn
            exact ih (k + 1) 2 _ _ (by omega) hn
