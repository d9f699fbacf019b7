/-! the reference reads: the form -/
set_option maxRecDepth 20000 in
theorem lp157 {d : Nat} {I σ : Nat → Int → Int} {P : Int → Nat} {dr : Nat} {R4 : mR4} (b2 : 0 ≤ σ 127 2 ∧ σ 127 2 ≤ 8) {n : Nat} (hn : n ≤ 160) (hend : ¬ plT (σ 133) (σ 127 12).toNat n < (σ 127 12).toNat) : ∀ (f k : Nat) (at_ j : Int) (r : Int → Int) (J : Nat → Int → Int) (l4 : mV), k + f = 163 → RWF σ (at_, j, r) → (at_ ≠ 50 → ∀ q, q < k → plT (σ 133) (σ 127 12).toNat q < (σ 127 12).toNat) → k ≤ n + 1 → sig J = σ → TA σ J (n + 1) → RDM J r → (∀ a q, a < 127 → J a q = I a q) → rdS σ (σ 133) (σ 127 12).toNat f k (at_, j, r) = R4 → wp (mcall MT CD (d + 3)) (CD 157) L0 (fun o h => ∃ J, o = some (vi (if R4.2.2.2 = true then 1 else 0)) ∧ h = (S0, J, RR P dr) ∧ sig J = σ ∧ (∀ a k, a < 127 → J a k = I a k) ∧ (R4.2.2.2 = true → RDM J R4.2.2.1) ∧ (R4.2.2.2 = false → J 127 18 = R4.1 ∧ J 127 19 = R4.2.1)) 31 [vr 127, vi at_, vi j, vi (k : Int), l4] [] (S0, J, RR P dr) := by
  intro f
  induction f with
  | zero =>
    intro k at_ j r J l4 hk hW hq hkn hs hA hr hlo hR
    exact absurd hk (by omega)
  | succ f ih =>
    intro k at_ j r J l4 hk hW hq hkn hs hA hr hlo hR
    obtain ⟨w1, w2, w3, w4, w5, w6, w7, w8, w9, w10, w11, w12, w13, w14⟩ := id hW
    dsimp only at w1 w2 w3 w4 w5 w6 w7 w8 w9 w10 w11 w12 w13 w14
    by_cases c50 : at_ = 50
    · refine s_ild k157_31 rfl ?_
      refine z_push k157_32 ?_
      refine s_iceq k157_34 ⟨by omega, by omega⟩ (inR_lit rfl) (fun h34 => ?_) (fun q => absurd q (by omega))
      refine s_ald k157_324 rfl ?_
      refine z_getRe (b := 137) k157_325 rfl rr_127_20 ?_
      refine z_push k157_328 ?_
      refine s_ild k157_329 rfl ?_
      refine z_push k157_330 ?_
      refine z_iadd k157_331 ?_
      refine z_iast k157_332 rfl (by decide) (show 4 < ((23 : Nat) : Int) by omega) ?_
      refine z_push k157_333 ?_
      have e := rd_50 (σ := σ) (t := σ 133) (m := (σ 127 12).toNat) (f := f) (k := k) (x := (at_, j, r)) c50
      rw [hR] at e
      subst e
      refine z_zret k157_334 (Or.inr rfl) ⟨_, rfl, rfl, (sig_no rfl).trans hs, fun a q ha => (up_ne (by omega)).trans (hlo a q ha), fun _ => hr.up, fun q => (by cases q)⟩
    · have hq := hq c50
      have hkle : k ≤ n := by
        by_cases c : k ≤ n
        · exact c
        · exact absurd (hq n (by omega)) hend
      have hki := ki_v (t := σ 133) (m := (σ 127 12).toNat) (k := k)
      have hvb := va_b (t := σ 133) (m := (σ 127 12).toNat) (k := k)
      obtain ⟨a1, a2, a3⟩ := hA k (by omega)
      have hpk := (pl_le (t := σ 133) (m := (σ 127 12).toNat) (k := k)).2
      have hqs : ∀ x : Int, (x ≠ 50 → (kiT (σ 133) (σ 127 12).toNat k) ≠ 50) → x ≠ 50 → ∀ q, q < k + 1 → plT (σ 133) (σ 127 12).toNat q < (σ 127 12).toNat := fun x hx hx2 q hq2 => by
        have := hx hx2
        by_cases c : q = k
        · rw [c]; omega
        · exact hq q (by omega)
      have hgo : ∀ (y : mR3) (J2 : Nat → Int → Int) (l4 : mV), stpS σ at_ j r (kiT (σ 133) (σ 127 12).toNat k) (vaT (σ 133) (σ 127 12).toNat k) = some y → (y.1 ≠ 50 → (kiT (σ 133) (σ 127 12).toNat k) ≠ 50) → sig J2 = σ → TA σ J2 (n + 1) → RDM J2 y.2.2 → (∀ a q, a < 127 → J2 a q = I a q) → wp (mcall MT CD (d + 3)) (CD 157) L0 (fun o h => ∃ J, o = some (vi (if R4.2.2.2 = true then 1 else 0)) ∧ h = (S0, J, RR P dr) ∧ sig J = σ ∧ (∀ a k, a < 127 → J a k = I a k) ∧ (R4.2.2.2 = true → RDM J R4.2.2.1) ∧ (R4.2.2.2 = false → J 127 18 = R4.1 ∧ J 127 19 = R4.2.1)) 31 [vr 127, vi y.1, vi y.2.1, vi ((k : Int) + 1), l4] [] (S0, J2, RR P dr) := fun y J2 l4 hst hx g1 g2 g3 g4 => ih (k + 1) y.1 y.2.1 y.2.2 J2 l4 (by omega) (stp_WF hW c50 hst) (hqs y.1 hx) (by omega) g1 g2 g3 g4 (by rw [← hR, rd_go c50 hst])
      have hno : stpS σ at_ j r (kiT (σ 133) (σ 127 12).toNat k) (vaT (σ 133) (σ 127 12).toNat k) = none → R4 = ((plT (σ 133) (σ 127 12).toNat k : Int), caS at_ j r, r, false) := fun hst => by rw [← hR, rd_no c50 hst]
      have wr : 0 ≤ at_ ∧ at_ ≤ 20 := by omega
      have w12f := fun e : at_ = 15 => w12 (Or.inl e)
      have h4f : at_ = 19 → 0 ≤ r (5 + 6 * j + 4) ∧ r (5 + 6 * j + 4) ≤ 6 := fun e => (w13 (w4 (by omega))).1 (by omega)
      clear w2 w3 w4 w5 w6 w7 w8 w9 w10 w11 w12 w13 w14
      by_cases h40 : at_ = 15
      · have w12 := w12f h40
        clear w12f h4f
        refine s_ild k157_31 rfl ?_
        refine z_push k157_32 ?_
        refine s_iceq k157_34 ⟨by omega, by omega⟩ (inR_lit rfl) (fun q => absurd q (by omega)) (fun h34 => ?_)
        refine s_ild k157_37 rfl ?_
        refine z_push k157_38 ?_
        refine s_icne k157_40 ⟨by omega, by omega⟩ (inR_lit rfl) (fun q => absurd q (by omega)) (fun _ => ?_)
        refine s_ald k157_43 rfl ?_
        refine z_getRe (b := 137) k157_44 rfl rr_127_20 ?_
        refine z_push k157_47 ?_
        refine z_push k157_48 ?_
        refine s_ild k157_50 rfl ?_
        refine z_imul k157_51 ?_
        refine z_iadd k157_52 ?_
        refine z_push k157_53 ?_
        refine z_iadd k157_54 ?_
        refine z_ialde (z := r ((5 + (6 * j)) + 3)) k157_55 rfl (by omega) (show ((5 + (6 * j)) + 3) < ((23 : Nat) : Int) by omega) (hr _ (by omega) (by omega)) ?_
        refine z_push k157_56 ?_
        refine s_icne k157_57 ⟨by omega, by omega⟩ (inR_lit rfl) (fun h57 => ?_) (fun h57 => ?_)
        · refine z_push k157_64 ?_
          refine s_ist4 k157_65 rfl ?_
          refine s_ald k157_67 rfl ?_
          refine z_push k157_68 ?_
          refine s_ild k157_70 rfl ?_
          refine s_ifeq k157_72 (inR_lit rfl) (fun _ => ?_) (fun q => absurd q (by decide))
          refine z_push k157_79 ?_
          refine z_iadd k157_81 ?_
          refine s_ild k157_82 rfl ?_
          refine z_push k157_83 ?_
          refine s_icge k157_84 ⟨by omega, by omega⟩ (inR_lit rfl) (fun h84 => ?_) (fun h84 => ?_)
          · refine z_push k157_91 ?_
            refine z_iadd k157_92 ?_
            refine z_putIe (q := 19) k157_93 rfl rfl ?_
            obtain ⟨J1, hJ1⟩ : ∃ J1, J1 = upI J 127 19 ((8 + 16) + 0) := ⟨_, rfl⟩
            rw [← hJ1]
            have hs1 : sig J1 = σ := by rw [hJ1]; exact (sig_no rfl).trans hs
            have hr1 : RDM J1 r := by rw [hJ1]; exact hr.no (by decide)
            have hA1 : TA σ J1 (n + 1) := by rw [hJ1]; exact hA.up (by decide)
            have hF1 : ∀ a q, a < 127 → J1 a q = I a q := fun a q ha => by rw [hJ1]; exact (up_ne (by omega)).trans (hlo a q ha)
            have h19 : J1 127 19 = (8 + 16) + 0 := by rw [hJ1]; exact up_at
            obtain ⟨b1, b2', b3⟩ := hA1 k (by omega)
            refine s_ald k157_96 rfl ?_
            refine z_getRe (b := 134) k157_97 rfl rr_127_15 ?_
            refine s_ild k157_100 rfl ?_
            refine z_ialde (z := (kiT (σ 133) (σ 127 12).toNat k)) k157_101 rfl (by omega) (show (k : Int) < ((161 : Nat) : Int) by omega) b1 ?_
            refine z_push k157_102 ?_
            refine s_icne k157_104 ⟨by omega, by omega⟩ (inR_lit rfl) (fun h104 => ?_) (fun h104 => ?_)
            · refine s_ald k157_129 rfl ?_
              refine z_getRe (b := 134) k157_130 rfl rr_127_15 ?_
              refine s_ild k157_133 rfl ?_
              refine z_ialde (z := (kiT (σ 133) (σ 127 12).toNat k)) k157_134 rfl (by omega) (show (k : Int) < ((161 : Nat) : Int) by omega) b1 ?_
              refine z_push k157_135 ?_
              refine s_icne k157_137 ⟨by omega, by omega⟩ (inR_lit rfl) (fun h137 => ?_) (fun h137 => ?_)
              · refine s_ald k157_154 rfl ?_
                refine z_getRe (b := 134) k157_155 rfl rr_127_15 ?_
                refine s_ild k157_158 rfl ?_
                refine z_ialde (z := (kiT (σ 133) (σ 127 12).toNat k)) k157_159 rfl (by omega) (show (k : Int) < ((161 : Nat) : Int) by omega) b1 ?_
                refine z_push k157_160 ?_
                refine s_icne k157_162 ⟨by omega, by omega⟩ (inR_lit rfl) (fun h162 => ?_) (fun h162 => ?_)
                · refine s_ald k157_171 rfl ?_
                  refine s_ald k157_172 rfl ?_
                  refine z_getRe (b := 136) k157_173 rfl rr_127_17 ?_
                  refine s_ild k157_176 rfl ?_
                  refine z_ialde (z := (plT (σ 133) (σ 127 12).toNat k : Int)) k157_177 rfl (by omega) (show (k : Int) < ((161 : Nat) : Int) by omega) b3 ?_
                  refine z_putIe (q := 18) k157_178 rfl rfl ?_
                  refine z_push k157_181 ?_
                  have hst : stpS σ at_ j r (kiT (σ 133) (σ 127 12).toNat k) (vaT (σ 133) (σ 127 12).toNat k) = none := by
                    unfold stpS
                    rw [if_pos h40, if_neg (by omega), if_neg (by omega), if_neg (by omega)]
                  have e := hno hst
                  subst e
                  refine z_zret k157_182 (Or.inl rfl) ⟨_, rfl, rfl, (sig_no rfl).trans hs1, fun a q ha => (up_ne (by omega)).trans (hF1 a q ha), fun q => (by cases q), fun _ => ⟨up_at, (up_nk (by decide)).trans (h19.trans ?_)⟩⟩
                  show _ = caS at_ j r
                  unfold caS
                  rw [if_pos h40]
                  (repeat' split) <;> omega
                · refine z_push k157_165 ?_
                  refine s_ist1 k157_167 rfl ?_
                  refine z_goto k157_168 ?_
                  refine z_goto k157_183 ?_
                  refine s_iinc3 k157_318 rfl ?_
                  refine z_goto k157_321 ?_
                  have hst : stpS σ at_ j r (kiT (σ 133) (σ 127 12).toNat k) (vaT (σ 133) (σ 127 12).toNat k) = some (50, j, r) := by
                    unfold stpS
                    rw [if_pos h40, if_neg (by omega), if_neg (by omega), if_pos (by omega)]
                  exact hgo _ _ _ hst (fun q => absurd rfl q) hs1 hA1 hr1 hF1
              · refine s_ild k157_140 rfl ?_
                refine z_push k157_141 ?_
                refine s_icge k157_142 ⟨by omega, by omega⟩ (inR_lit rfl) (fun h142 => ?_) (fun h142 => ?_)
                · refine s_ald k157_154 rfl ?_
                  refine z_getRe (b := 134) k157_155 rfl rr_127_15 ?_
                  refine s_ild k157_158 rfl ?_
                  refine z_ialde (z := (kiT (σ 133) (σ 127 12).toNat k)) k157_159 rfl (by omega) (show (k : Int) < ((161 : Nat) : Int) by omega) b1 ?_
                  refine z_push k157_160 ?_
                  refine s_icne k157_162 ⟨by omega, by omega⟩ (inR_lit rfl) (fun h162 => ?_) (fun h162 => ?_)
                  · refine s_ald k157_171 rfl ?_
                    refine s_ald k157_172 rfl ?_
                    refine z_getRe (b := 136) k157_173 rfl rr_127_17 ?_
                    refine s_ild k157_176 rfl ?_
                    refine z_ialde (z := (plT (σ 133) (σ 127 12).toNat k : Int)) k157_177 rfl (by omega) (show (k : Int) < ((161 : Nat) : Int) by omega) b3 ?_
                    refine z_putIe (q := 18) k157_178 rfl rfl ?_
                    refine z_push k157_181 ?_
                    have hst : stpS σ at_ j r (kiT (σ 133) (σ 127 12).toNat k) (vaT (σ 133) (σ 127 12).toNat k) = none := by
                      unfold stpS
                      rw [if_pos h40, if_neg (by omega), if_neg (by omega), if_neg (by omega)]
                    have e := hno hst
                    subst e
                    refine z_zret k157_182 (Or.inl rfl) ⟨_, rfl, rfl, (sig_no rfl).trans hs1, fun a q ha => (up_ne (by omega)).trans (hF1 a q ha), fun q => (by cases q), fun _ => ⟨up_at, (up_nk (by decide)).trans (h19.trans ?_)⟩⟩
                    show _ = caS at_ j r
                    unfold caS
                    rw [if_pos h40]
                    (repeat' split) <;> omega
                  · refine z_push k157_165 ?_
                    refine s_ist1 k157_167 rfl ?_
                    refine z_goto k157_168 ?_
                    refine z_goto k157_183 ?_
                    refine s_iinc3 k157_318 rfl ?_
                    refine z_goto k157_321 ?_
                    have hst : stpS σ at_ j r (kiT (σ 133) (σ 127 12).toNat k) (vaT (σ 133) (σ 127 12).toNat k) = some (50, j, r) := by
                      unfold stpS
                      rw [if_pos h40, if_neg (by omega), if_neg (by omega), if_pos (by omega)]
                    exact hgo _ _ _ hst (fun q => absurd rfl q) hs1 hA1 hr1 hF1
                · refine s_iinc2 k157_145 rfl ?_
                  refine z_push k157_148 ?_
                  refine s_ist1 k157_150 rfl ?_
                  refine z_goto k157_151 ?_
                  refine z_goto k157_183 ?_
                  refine s_iinc3 k157_318 rfl ?_
                  refine z_goto k157_321 ?_
                  have hst : stpS σ at_ j r (kiT (σ 133) (σ 127 12).toNat k) (vaT (σ 133) (σ 127 12).toNat k) = some (16, j + 1, r) := by
                    unfold stpS
                    rw [if_pos h40, if_neg (by omega), if_pos (by omega)]
                  exact hgo _ _ _ hst (fun _ => by omega) hs1 hA1 hr1 hF1
            · refine s_ild k157_107 rfl ?_
              refine s_ifne k157_109 (inR_lit rfl) (fun q => absurd q (by decide)) (fun _ => ?_)
              refine s_ald k157_112 rfl ?_
              refine z_getRe (b := 137) k157_113 rfl rr_127_20 ?_
              refine z_push k157_116 ?_
              refine z_push k157_117 ?_
              refine s_ild k157_119 rfl ?_
              refine z_imul k157_120 ?_
              refine z_iadd k157_121 ?_
              refine z_push k157_122 ?_
              refine z_iadd k157_123 ?_
              refine z_push k157_124 ?_
              refine z_iast k157_125 rfl (by omega) (show ((5 + (6 * j)) + 3) < ((23 : Nat) : Int) by omega) ?_
              refine z_goto k157_126 ?_
              refine z_goto k157_183 ?_
              refine s_iinc3 k157_318 rfl ?_
              refine z_goto k157_321 ?_
              have hst : stpS σ at_ j r (kiT (σ 133) (σ 127 12).toNat k) (vaT (σ 133) (σ 127 12).toNat k) = some (15, j, updR r (5 + 6 * j + 3) 1) := by
                unfold stpS
                rw [if_pos h40, if_pos (by omega)]
              rw [h40]
              exact hgo _ _ _ hst (fun _ => by omega) ((sig_no rfl).trans hs1) (hA1.up (by decide)) hr1.up (fun a q ha => (up_ne (by omega)).trans (hF1 a q ha))
          · refine z_push k157_87 ?_
            refine z_goto k157_88 ?_
            refine z_iadd k157_92 ?_
            refine z_putIe (q := 19) k157_93 rfl rfl ?_
            obtain ⟨J1, hJ1⟩ : ∃ J1, J1 = upI J 127 19 ((8 + 16) + 4) := ⟨_, rfl⟩
            rw [← hJ1]
            have hs1 : sig J1 = σ := by rw [hJ1]; exact (sig_no rfl).trans hs
            have hr1 : RDM J1 r := by rw [hJ1]; exact hr.no (by decide)
            have hA1 : TA σ J1 (n + 1) := by rw [hJ1]; exact hA.up (by decide)
            have hF1 : ∀ a q, a < 127 → J1 a q = I a q := fun a q ha => by rw [hJ1]; exact (up_ne (by omega)).trans (hlo a q ha)
            have h19 : J1 127 19 = (8 + 16) + 4 := by rw [hJ1]; exact up_at
            obtain ⟨b1, b2', b3⟩ := hA1 k (by omega)
            refine s_ald k157_96 rfl ?_
            refine z_getRe (b := 134) k157_97 rfl rr_127_15 ?_
            refine s_ild k157_100 rfl ?_
            refine z_ialde (z := (kiT (σ 133) (σ 127 12).toNat k)) k157_101 rfl (by omega) (show (k : Int) < ((161 : Nat) : Int) by omega) b1 ?_
            refine z_push k157_102 ?_
            refine s_icne k157_104 ⟨by omega, by omega⟩ (inR_lit rfl) (fun h104 => ?_) (fun h104 => ?_)
            · refine s_ald k157_129 rfl ?_
              refine z_getRe (b := 134) k157_130 rfl rr_127_15 ?_
              refine s_ild k157_133 rfl ?_
              refine z_ialde (z := (kiT (σ 133) (σ 127 12).toNat k)) k157_134 rfl (by omega) (show (k : Int) < ((161 : Nat) : Int) by omega) b1 ?_
              refine z_push k157_135 ?_
              refine s_icne k157_137 ⟨by omega, by omega⟩ (inR_lit rfl) (fun h137 => ?_) (fun h137 => ?_)
              · refine s_ald k157_154 rfl ?_
                refine z_getRe (b := 134) k157_155 rfl rr_127_15 ?_
                refine s_ild k157_158 rfl ?_
                refine z_ialde (z := (kiT (σ 133) (σ 127 12).toNat k)) k157_159 rfl (by omega) (show (k : Int) < ((161 : Nat) : Int) by omega) b1 ?_
                refine z_push k157_160 ?_
                refine s_icne k157_162 ⟨by omega, by omega⟩ (inR_lit rfl) (fun h162 => ?_) (fun h162 => ?_)
                · refine s_ald k157_171 rfl ?_
                  refine s_ald k157_172 rfl ?_
                  refine z_getRe (b := 136) k157_173 rfl rr_127_17 ?_
                  refine s_ild k157_176 rfl ?_
                  refine z_ialde (z := (plT (σ 133) (σ 127 12).toNat k : Int)) k157_177 rfl (by omega) (show (k : Int) < ((161 : Nat) : Int) by omega) b3 ?_
                  refine z_putIe (q := 18) k157_178 rfl rfl ?_
                  refine z_push k157_181 ?_
                  have hst : stpS σ at_ j r (kiT (σ 133) (σ 127 12).toNat k) (vaT (σ 133) (σ 127 12).toNat k) = none := by
                    unfold stpS
                    rw [if_pos h40, if_neg (by omega), if_neg (by omega), if_neg (by omega)]
                  have e := hno hst
                  subst e
                  refine z_zret k157_182 (Or.inl rfl) ⟨_, rfl, rfl, (sig_no rfl).trans hs1, fun a q ha => (up_ne (by omega)).trans (hF1 a q ha), fun q => (by cases q), fun _ => ⟨up_at, (up_nk (by decide)).trans (h19.trans ?_)⟩⟩
                  show _ = caS at_ j r
                  unfold caS
                  rw [if_pos h40]
                  (repeat' split) <;> omega
                · refine z_push k157_165 ?_
                  refine s_ist1 k157_167 rfl ?_
                  refine z_goto k157_168 ?_
                  refine z_goto k157_183 ?_
                  refine s_iinc3 k157_318 rfl ?_
                  refine z_goto k157_321 ?_
                  have hst : stpS σ at_ j r (kiT (σ 133) (σ 127 12).toNat k) (vaT (σ 133) (σ 127 12).toNat k) = some (50, j, r) := by
                    unfold stpS
                    rw [if_pos h40, if_neg (by omega), if_neg (by omega), if_pos (by omega)]
                  exact hgo _ _ _ hst (fun q => absurd rfl q) hs1 hA1 hr1 hF1
              · refine s_ild k157_140 rfl ?_
                refine z_push k157_141 ?_
                refine s_icge k157_142 ⟨by omega, by omega⟩ (inR_lit rfl) (fun h142 => ?_) (fun h142 => ?_)
                · refine s_ald k157_154 rfl ?_
                  refine z_getRe (b := 134) k157_155 rfl rr_127_15 ?_
                  refine s_ild k157_158 rfl ?_
                  refine z_ialde (z := (kiT (σ 133) (σ 127 12).toNat k)) k157_159 rfl (by omega) (show (k : Int) < ((161 : Nat) : Int) by omega) b1 ?_
                  refine z_push k157_160 ?_
                  refine s_icne k157_162 ⟨by omega, by omega⟩ (inR_lit rfl) (fun h162 => ?_) (fun h162 => ?_)
                  · refine s_ald k157_171 rfl ?_
                    refine s_ald k157_172 rfl ?_
                    refine z_getRe (b := 136) k157_173 rfl rr_127_17 ?_
                    refine s_ild k157_176 rfl ?_
                    refine z_ialde (z := (plT (σ 133) (σ 127 12).toNat k : Int)) k157_177 rfl (by omega) (show (k : Int) < ((161 : Nat) : Int) by omega) b3 ?_
                    refine z_putIe (q := 18) k157_178 rfl rfl ?_
                    refine z_push k157_181 ?_
                    have hst : stpS σ at_ j r (kiT (σ 133) (σ 127 12).toNat k) (vaT (σ 133) (σ 127 12).toNat k) = none := by
                      unfold stpS
                      rw [if_pos h40, if_neg (by omega), if_neg (by omega), if_neg (by omega)]
                    have e := hno hst
                    subst e
                    refine z_zret k157_182 (Or.inl rfl) ⟨_, rfl, rfl, (sig_no rfl).trans hs1, fun a q ha => (up_ne (by omega)).trans (hF1 a q ha), fun q => (by cases q), fun _ => ⟨up_at, (up_nk (by decide)).trans (h19.trans ?_)⟩⟩
                    show _ = caS at_ j r
                    unfold caS
                    rw [if_pos h40]
                    (repeat' split) <;> omega
                  · refine z_push k157_165 ?_
                    refine s_ist1 k157_167 rfl ?_
                    refine z_goto k157_168 ?_
                    refine z_goto k157_183 ?_
                    refine s_iinc3 k157_318 rfl ?_
                    refine z_goto k157_321 ?_
                    have hst : stpS σ at_ j r (kiT (σ 133) (σ 127 12).toNat k) (vaT (σ 133) (σ 127 12).toNat k) = some (50, j, r) := by
                      unfold stpS
                      rw [if_pos h40, if_neg (by omega), if_neg (by omega), if_pos (by omega)]
                    exact hgo _ _ _ hst (fun q => absurd rfl q) hs1 hA1 hr1 hF1
                · refine s_iinc2 k157_145 rfl ?_
                  refine z_push k157_148 ?_
                  refine s_ist1 k157_150 rfl ?_
                  refine z_goto k157_151 ?_
                  refine z_goto k157_183 ?_
                  refine s_iinc3 k157_318 rfl ?_
                  refine z_goto k157_321 ?_
                  have hst : stpS σ at_ j r (kiT (σ 133) (σ 127 12).toNat k) (vaT (σ 133) (σ 127 12).toNat k) = some (16, j + 1, r) := by
                    unfold stpS
                    rw [if_pos h40, if_neg (by omega), if_pos (by omega)]
                  exact hgo _ _ _ hst (fun _ => by omega) hs1 hA1 hr1 hF1
            · refine s_ild k157_107 rfl ?_
              refine s_ifne k157_109 (inR_lit rfl) (fun q => absurd q (by decide)) (fun _ => ?_)
              refine s_ald k157_112 rfl ?_
              refine z_getRe (b := 137) k157_113 rfl rr_127_20 ?_
              refine z_push k157_116 ?_
              refine z_push k157_117 ?_
              refine s_ild k157_119 rfl ?_
              refine z_imul k157_120 ?_
              refine z_iadd k157_121 ?_
              refine z_push k157_122 ?_
              refine z_iadd k157_123 ?_
              refine z_push k157_124 ?_
              refine z_iast k157_125 rfl (by omega) (show ((5 + (6 * j)) + 3) < ((23 : Nat) : Int) by omega) ?_
              refine z_goto k157_126 ?_
              refine z_goto k157_183 ?_
              refine s_iinc3 k157_318 rfl ?_
              refine z_goto k157_321 ?_
              have hst : stpS σ at_ j r (kiT (σ 133) (σ 127 12).toNat k) (vaT (σ 133) (σ 127 12).toNat k) = some (15, j, updR r (5 + 6 * j + 3) 1) := by
                unfold stpS
                rw [if_pos h40, if_pos (by omega)]
              rw [h40]
              exact hgo _ _ _ hst (fun _ => by omega) ((sig_no rfl).trans hs1) (hA1.up (by decide)) hr1.up (fun a q ha => (up_ne (by omega)).trans (hF1 a q ha))
        · refine z_push k157_60 ?_
          refine z_goto k157_61 ?_
          refine s_ist4 k157_65 rfl ?_
          refine s_ald k157_67 rfl ?_
          refine z_push k157_68 ?_
          refine s_ild k157_70 rfl ?_
          refine s_ifeq k157_72 (inR_lit rfl) (fun q => absurd q (by decide)) (fun _ => ?_)
          refine z_push k157_75 ?_
          refine z_goto k157_76 ?_
          refine z_iadd k157_81 ?_
          refine s_ild k157_82 rfl ?_
          refine z_push k157_83 ?_
          refine s_icge k157_84 ⟨by omega, by omega⟩ (inR_lit rfl) (fun h84 => ?_) (fun h84 => ?_)
          · refine z_push k157_91 ?_
            refine z_iadd k157_92 ?_
            refine z_putIe (q := 19) k157_93 rfl rfl ?_
            obtain ⟨J1, hJ1⟩ : ∃ J1, J1 = upI J 127 19 ((8 + 0) + 0) := ⟨_, rfl⟩
            rw [← hJ1]
            have hs1 : sig J1 = σ := by rw [hJ1]; exact (sig_no rfl).trans hs
            have hr1 : RDM J1 r := by rw [hJ1]; exact hr.no (by decide)
            have hA1 : TA σ J1 (n + 1) := by rw [hJ1]; exact hA.up (by decide)
            have hF1 : ∀ a q, a < 127 → J1 a q = I a q := fun a q ha => by rw [hJ1]; exact (up_ne (by omega)).trans (hlo a q ha)
            have h19 : J1 127 19 = (8 + 0) + 0 := by rw [hJ1]; exact up_at
            obtain ⟨b1, b2', b3⟩ := hA1 k (by omega)
            refine s_ald k157_96 rfl ?_
            refine z_getRe (b := 134) k157_97 rfl rr_127_15 ?_
            refine s_ild k157_100 rfl ?_
            refine z_ialde (z := (kiT (σ 133) (σ 127 12).toNat k)) k157_101 rfl (by omega) (show (k : Int) < ((161 : Nat) : Int) by omega) b1 ?_
            refine z_push k157_102 ?_
            refine s_icne k157_104 ⟨by omega, by omega⟩ (inR_lit rfl) (fun h104 => ?_) (fun h104 => ?_)
            · refine s_ald k157_129 rfl ?_
              refine z_getRe (b := 134) k157_130 rfl rr_127_15 ?_
              refine s_ild k157_133 rfl ?_
              refine z_ialde (z := (kiT (σ 133) (σ 127 12).toNat k)) k157_134 rfl (by omega) (show (k : Int) < ((161 : Nat) : Int) by omega) b1 ?_
              refine z_push k157_135 ?_
              refine s_icne k157_137 ⟨by omega, by omega⟩ (inR_lit rfl) (fun h137 => ?_) (fun h137 => ?_)
              · refine s_ald k157_154 rfl ?_
                refine z_getRe (b := 134) k157_155 rfl rr_127_15 ?_
                refine s_ild k157_158 rfl ?_
                refine z_ialde (z := (kiT (σ 133) (σ 127 12).toNat k)) k157_159 rfl (by omega) (show (k : Int) < ((161 : Nat) : Int) by omega) b1 ?_
                refine z_push k157_160 ?_
                refine s_icne k157_162 ⟨by omega, by omega⟩ (inR_lit rfl) (fun h162 => ?_) (fun h162 => ?_)
                · refine s_ald k157_171 rfl ?_
                  refine s_ald k157_172 rfl ?_
                  refine z_getRe (b := 136) k157_173 rfl rr_127_17 ?_
                  refine s_ild k157_176 rfl ?_
                  refine z_ialde (z := (plT (σ 133) (σ 127 12).toNat k : Int)) k157_177 rfl (by omega) (show (k : Int) < ((161 : Nat) : Int) by omega) b3 ?_
                  refine z_putIe (q := 18) k157_178 rfl rfl ?_
                  refine z_push k157_181 ?_
                  have hst : stpS σ at_ j r (kiT (σ 133) (σ 127 12).toNat k) (vaT (σ 133) (σ 127 12).toNat k) = none := by
                    unfold stpS
                    rw [if_pos h40, if_neg (by omega), if_neg (by omega), if_neg (by omega)]
                  have e := hno hst
                  subst e
                  refine z_zret k157_182 (Or.inl rfl) ⟨_, rfl, rfl, (sig_no rfl).trans hs1, fun a q ha => (up_ne (by omega)).trans (hF1 a q ha), fun q => (by cases q), fun _ => ⟨up_at, (up_nk (by decide)).trans (h19.trans ?_)⟩⟩
                  show _ = caS at_ j r
                  unfold caS
                  rw [if_pos h40]
                  (repeat' split) <;> omega
                · refine z_push k157_165 ?_
                  refine s_ist1 k157_167 rfl ?_
                  refine z_goto k157_168 ?_
                  refine z_goto k157_183 ?_
                  refine s_iinc3 k157_318 rfl ?_
                  refine z_goto k157_321 ?_
                  have hst : stpS σ at_ j r (kiT (σ 133) (σ 127 12).toNat k) (vaT (σ 133) (σ 127 12).toNat k) = some (50, j, r) := by
                    unfold stpS
                    rw [if_pos h40, if_neg (by omega), if_neg (by omega), if_pos (by omega)]
                  exact hgo _ _ _ hst (fun q => absurd rfl q) hs1 hA1 hr1 hF1
              · refine s_ild k157_140 rfl ?_
                refine z_push k157_141 ?_
                refine s_icge k157_142 ⟨by omega, by omega⟩ (inR_lit rfl) (fun h142 => ?_) (fun h142 => ?_)
                · refine s_ald k157_154 rfl ?_
                  refine z_getRe (b := 134) k157_155 rfl rr_127_15 ?_
                  refine s_ild k157_158 rfl ?_
                  refine z_ialde (z := (kiT (σ 133) (σ 127 12).toNat k)) k157_159 rfl (by omega) (show (k : Int) < ((161 : Nat) : Int) by omega) b1 ?_
                  refine z_push k157_160 ?_
                  refine s_icne k157_162 ⟨by omega, by omega⟩ (inR_lit rfl) (fun h162 => ?_) (fun h162 => ?_)
                  · refine s_ald k157_171 rfl ?_
                    refine s_ald k157_172 rfl ?_
                    refine z_getRe (b := 136) k157_173 rfl rr_127_17 ?_
                    refine s_ild k157_176 rfl ?_
                    refine z_ialde (z := (plT (σ 133) (σ 127 12).toNat k : Int)) k157_177 rfl (by omega) (show (k : Int) < ((161 : Nat) : Int) by omega) b3 ?_
                    refine z_putIe (q := 18) k157_178 rfl rfl ?_
                    refine z_push k157_181 ?_
                    have hst : stpS σ at_ j r (kiT (σ 133) (σ 127 12).toNat k) (vaT (σ 133) (σ 127 12).toNat k) = none := by
                      unfold stpS
                      rw [if_pos h40, if_neg (by omega), if_neg (by omega), if_neg (by omega)]
                    have e := hno hst
                    subst e
                    refine z_zret k157_182 (Or.inl rfl) ⟨_, rfl, rfl, (sig_no rfl).trans hs1, fun a q ha => (up_ne (by omega)).trans (hF1 a q ha), fun q => (by cases q), fun _ => ⟨up_at, (up_nk (by decide)).trans (h19.trans ?_)⟩⟩
                    show _ = caS at_ j r
                    unfold caS
                    rw [if_pos h40]
                    (repeat' split) <;> omega
                  · refine z_push k157_165 ?_
                    refine s_ist1 k157_167 rfl ?_
                    refine z_goto k157_168 ?_
                    refine z_goto k157_183 ?_
                    refine s_iinc3 k157_318 rfl ?_
                    refine z_goto k157_321 ?_
                    have hst : stpS σ at_ j r (kiT (σ 133) (σ 127 12).toNat k) (vaT (σ 133) (σ 127 12).toNat k) = some (50, j, r) := by
                      unfold stpS
                      rw [if_pos h40, if_neg (by omega), if_neg (by omega), if_pos (by omega)]
                    exact hgo _ _ _ hst (fun q => absurd rfl q) hs1 hA1 hr1 hF1
                · refine s_iinc2 k157_145 rfl ?_
                  refine z_push k157_148 ?_
                  refine s_ist1 k157_150 rfl ?_
                  refine z_goto k157_151 ?_
                  refine z_goto k157_183 ?_
                  refine s_iinc3 k157_318 rfl ?_
                  refine z_goto k157_321 ?_
                  have hst : stpS σ at_ j r (kiT (σ 133) (σ 127 12).toNat k) (vaT (σ 133) (σ 127 12).toNat k) = some (16, j + 1, r) := by
                    unfold stpS
                    rw [if_pos h40, if_neg (by omega), if_pos (by omega)]
                  exact hgo _ _ _ hst (fun _ => by omega) hs1 hA1 hr1 hF1
            · refine s_ild k157_107 rfl ?_
              refine s_ifne k157_109 (inR_lit rfl) (fun _ => ?_) (fun q => absurd q (by decide))
              refine s_ald k157_129 rfl ?_
              refine z_getRe (b := 134) k157_130 rfl rr_127_15 ?_
              refine s_ild k157_133 rfl ?_
              refine z_ialde (z := (kiT (σ 133) (σ 127 12).toNat k)) k157_134 rfl (by omega) (show (k : Int) < ((161 : Nat) : Int) by omega) b1 ?_
              refine z_push k157_135 ?_
              refine s_icne k157_137 ⟨by omega, by omega⟩ (inR_lit rfl) (fun h137 => ?_) (fun h137 => ?_)
              · refine s_ald k157_154 rfl ?_
                refine z_getRe (b := 134) k157_155 rfl rr_127_15 ?_
                refine s_ild k157_158 rfl ?_
                refine z_ialde (z := (kiT (σ 133) (σ 127 12).toNat k)) k157_159 rfl (by omega) (show (k : Int) < ((161 : Nat) : Int) by omega) b1 ?_
                refine z_push k157_160 ?_
                refine s_icne k157_162 ⟨by omega, by omega⟩ (inR_lit rfl) (fun h162 => ?_) (fun h162 => ?_)
                · refine s_ald k157_171 rfl ?_
                  refine s_ald k157_172 rfl ?_
                  refine z_getRe (b := 136) k157_173 rfl rr_127_17 ?_
                  refine s_ild k157_176 rfl ?_
                  refine z_ialde (z := (plT (σ 133) (σ 127 12).toNat k : Int)) k157_177 rfl (by omega) (show (k : Int) < ((161 : Nat) : Int) by omega) b3 ?_
                  refine z_putIe (q := 18) k157_178 rfl rfl ?_
                  refine z_push k157_181 ?_
                  have hst : stpS σ at_ j r (kiT (σ 133) (σ 127 12).toNat k) (vaT (σ 133) (σ 127 12).toNat k) = none := by
                    unfold stpS
                    rw [if_pos h40, if_neg (by omega), if_neg (by omega), if_neg (by omega)]
                  have e := hno hst
                  subst e
                  refine z_zret k157_182 (Or.inl rfl) ⟨_, rfl, rfl, (sig_no rfl).trans hs1, fun a q ha => (up_ne (by omega)).trans (hF1 a q ha), fun q => (by cases q), fun _ => ⟨up_at, (up_nk (by decide)).trans (h19.trans ?_)⟩⟩
                  show _ = caS at_ j r
                  unfold caS
                  rw [if_pos h40]
                  (repeat' split) <;> omega
                · refine z_push k157_165 ?_
                  refine s_ist1 k157_167 rfl ?_
                  refine z_goto k157_168 ?_
                  refine z_goto k157_183 ?_
                  refine s_iinc3 k157_318 rfl ?_
                  refine z_goto k157_321 ?_
                  have hst : stpS σ at_ j r (kiT (σ 133) (σ 127 12).toNat k) (vaT (σ 133) (σ 127 12).toNat k) = some (50, j, r) := by
                    unfold stpS
                    rw [if_pos h40, if_neg (by omega), if_neg (by omega), if_pos (by omega)]
                  exact hgo _ _ _ hst (fun q => absurd rfl q) hs1 hA1 hr1 hF1
              · refine s_ild k157_140 rfl ?_
                refine z_push k157_141 ?_
                refine s_icge k157_142 ⟨by omega, by omega⟩ (inR_lit rfl) (fun h142 => ?_) (fun h142 => ?_)
                · refine s_ald k157_154 rfl ?_
                  refine z_getRe (b := 134) k157_155 rfl rr_127_15 ?_
                  refine s_ild k157_158 rfl ?_
                  refine z_ialde (z := (kiT (σ 133) (σ 127 12).toNat k)) k157_159 rfl (by omega) (show (k : Int) < ((161 : Nat) : Int) by omega) b1 ?_
                  refine z_push k157_160 ?_
                  refine s_icne k157_162 ⟨by omega, by omega⟩ (inR_lit rfl) (fun h162 => ?_) (fun h162 => ?_)
                  · refine s_ald k157_171 rfl ?_
                    refine s_ald k157_172 rfl ?_
                    refine z_getRe (b := 136) k157_173 rfl rr_127_17 ?_
                    refine s_ild k157_176 rfl ?_
                    refine z_ialde (z := (plT (σ 133) (σ 127 12).toNat k : Int)) k157_177 rfl (by omega) (show (k : Int) < ((161 : Nat) : Int) by omega) b3 ?_
                    refine z_putIe (q := 18) k157_178 rfl rfl ?_
                    refine z_push k157_181 ?_
                    have hst : stpS σ at_ j r (kiT (σ 133) (σ 127 12).toNat k) (vaT (σ 133) (σ 127 12).toNat k) = none := by
                      unfold stpS
                      rw [if_pos h40, if_neg (by omega), if_neg (by omega), if_neg (by omega)]
                    have e := hno hst
                    subst e
                    refine z_zret k157_182 (Or.inl rfl) ⟨_, rfl, rfl, (sig_no rfl).trans hs1, fun a q ha => (up_ne (by omega)).trans (hF1 a q ha), fun q => (by cases q), fun _ => ⟨up_at, (up_nk (by decide)).trans (h19.trans ?_)⟩⟩
                    show _ = caS at_ j r
                    unfold caS
                    rw [if_pos h40]
                    (repeat' split) <;> omega
                  · refine z_push k157_165 ?_
                    refine s_ist1 k157_167 rfl ?_
                    refine z_goto k157_168 ?_
                    refine z_goto k157_183 ?_
                    refine s_iinc3 k157_318 rfl ?_
                    refine z_goto k157_321 ?_
                    have hst : stpS σ at_ j r (kiT (σ 133) (σ 127 12).toNat k) (vaT (σ 133) (σ 127 12).toNat k) = some (50, j, r) := by
                      unfold stpS
                      rw [if_pos h40, if_neg (by omega), if_neg (by omega), if_pos (by omega)]
                    exact hgo _ _ _ hst (fun q => absurd rfl q) hs1 hA1 hr1 hF1
                · refine s_iinc2 k157_145 rfl ?_
                  refine z_push k157_148 ?_
                  refine s_ist1 k157_150 rfl ?_
                  refine z_goto k157_151 ?_
                  refine z_goto k157_183 ?_
                  refine s_iinc3 k157_318 rfl ?_
                  refine z_goto k157_321 ?_
                  have hst : stpS σ at_ j r (kiT (σ 133) (σ 127 12).toNat k) (vaT (σ 133) (σ 127 12).toNat k) = some (16, j + 1, r) := by
                    unfold stpS
                    rw [if_pos h40, if_neg (by omega), if_pos (by omega)]
                  exact hgo _ _ _ hst (fun _ => by omega) hs1 hA1 hr1 hF1
          · refine z_push k157_87 ?_
            refine z_goto k157_88 ?_
            refine z_iadd k157_92 ?_
            refine z_putIe (q := 19) k157_93 rfl rfl ?_
            obtain ⟨J1, hJ1⟩ : ∃ J1, J1 = upI J 127 19 ((8 + 0) + 4) := ⟨_, rfl⟩
            rw [← hJ1]
            have hs1 : sig J1 = σ := by rw [hJ1]; exact (sig_no rfl).trans hs
            have hr1 : RDM J1 r := by rw [hJ1]; exact hr.no (by decide)
            have hA1 : TA σ J1 (n + 1) := by rw [hJ1]; exact hA.up (by decide)
            have hF1 : ∀ a q, a < 127 → J1 a q = I a q := fun a q ha => by rw [hJ1]; exact (up_ne (by omega)).trans (hlo a q ha)
            have h19 : J1 127 19 = (8 + 0) + 4 := by rw [hJ1]; exact up_at
            obtain ⟨b1, b2', b3⟩ := hA1 k (by omega)
            refine s_ald k157_96 rfl ?_
            refine z_getRe (b := 134) k157_97 rfl rr_127_15 ?_
            refine s_ild k157_100 rfl ?_
            refine z_ialde (z := (kiT (σ 133) (σ 127 12).toNat k)) k157_101 rfl (by omega) (show (k : Int) < ((161 : Nat) : Int) by omega) b1 ?_
            refine z_push k157_102 ?_
            refine s_icne k157_104 ⟨by omega, by omega⟩ (inR_lit rfl) (fun h104 => ?_) (fun h104 => ?_)
            · refine s_ald k157_129 rfl ?_
              refine z_getRe (b := 134) k157_130 rfl rr_127_15 ?_
              refine s_ild k157_133 rfl ?_
              refine z_ialde (z := (kiT (σ 133) (σ 127 12).toNat k)) k157_134 rfl (by omega) (show (k : Int) < ((161 : Nat) : Int) by omega) b1 ?_
              refine z_push k157_135 ?_
              refine s_icne k157_137 ⟨by omega, by omega⟩ (inR_lit rfl) (fun h137 => ?_) (fun h137 => ?_)
              · refine s_ald k157_154 rfl ?_
                refine z_getRe (b := 134) k157_155 rfl rr_127_15 ?_
                refine s_ild k157_158 rfl ?_
                refine z_ialde (z := (kiT (σ 133) (σ 127 12).toNat k)) k157_159 rfl (by omega) (show (k : Int) < ((161 : Nat) : Int) by omega) b1 ?_
                refine z_push k157_160 ?_
                refine s_icne k157_162 ⟨by omega, by omega⟩ (inR_lit rfl) (fun h162 => ?_) (fun h162 => ?_)
                · refine s_ald k157_171 rfl ?_
                  refine s_ald k157_172 rfl ?_
                  refine z_getRe (b := 136) k157_173 rfl rr_127_17 ?_
                  refine s_ild k157_176 rfl ?_
                  refine z_ialde (z := (plT (σ 133) (σ 127 12).toNat k : Int)) k157_177 rfl (by omega) (show (k : Int) < ((161 : Nat) : Int) by omega) b3 ?_
                  refine z_putIe (q := 18) k157_178 rfl rfl ?_
                  refine z_push k157_181 ?_
                  have hst : stpS σ at_ j r (kiT (σ 133) (σ 127 12).toNat k) (vaT (σ 133) (σ 127 12).toNat k) = none := by
                    unfold stpS
                    rw [if_pos h40, if_neg (by omega), if_neg (by omega), if_neg (by omega)]
                  have e := hno hst
                  subst e
                  refine z_zret k157_182 (Or.inl rfl) ⟨_, rfl, rfl, (sig_no rfl).trans hs1, fun a q ha => (up_ne (by omega)).trans (hF1 a q ha), fun q => (by cases q), fun _ => ⟨up_at, (up_nk (by decide)).trans (h19.trans ?_)⟩⟩
                  show _ = caS at_ j r
                  unfold caS
                  rw [if_pos h40]
                  (repeat' split) <;> omega
                · refine z_push k157_165 ?_
                  refine s_ist1 k157_167 rfl ?_
                  refine z_goto k157_168 ?_
                  refine z_goto k157_183 ?_
                  refine s_iinc3 k157_318 rfl ?_
                  refine z_goto k157_321 ?_
                  have hst : stpS σ at_ j r (kiT (σ 133) (σ 127 12).toNat k) (vaT (σ 133) (σ 127 12).toNat k) = some (50, j, r) := by
                    unfold stpS
                    rw [if_pos h40, if_neg (by omega), if_neg (by omega), if_pos (by omega)]
                  exact hgo _ _ _ hst (fun q => absurd rfl q) hs1 hA1 hr1 hF1
              · refine s_ild k157_140 rfl ?_
                refine z_push k157_141 ?_
                refine s_icge k157_142 ⟨by omega, by omega⟩ (inR_lit rfl) (fun h142 => ?_) (fun h142 => ?_)
                · refine s_ald k157_154 rfl ?_
                  refine z_getRe (b := 134) k157_155 rfl rr_127_15 ?_
                  refine s_ild k157_158 rfl ?_
                  refine z_ialde (z := (kiT (σ 133) (σ 127 12).toNat k)) k157_159 rfl (by omega) (show (k : Int) < ((161 : Nat) : Int) by omega) b1 ?_
                  refine z_push k157_160 ?_
                  refine s_icne k157_162 ⟨by omega, by omega⟩ (inR_lit rfl) (fun h162 => ?_) (fun h162 => ?_)
                  · refine s_ald k157_171 rfl ?_
                    refine s_ald k157_172 rfl ?_
                    refine z_getRe (b := 136) k157_173 rfl rr_127_17 ?_
                    refine s_ild k157_176 rfl ?_
                    refine z_ialde (z := (plT (σ 133) (σ 127 12).toNat k : Int)) k157_177 rfl (by omega) (show (k : Int) < ((161 : Nat) : Int) by omega) b3 ?_
                    refine z_putIe (q := 18) k157_178 rfl rfl ?_
                    refine z_push k157_181 ?_
                    have hst : stpS σ at_ j r (kiT (σ 133) (σ 127 12).toNat k) (vaT (σ 133) (σ 127 12).toNat k) = none := by
                      unfold stpS
                      rw [if_pos h40, if_neg (by omega), if_neg (by omega), if_neg (by omega)]
                    have e := hno hst
                    subst e
                    refine z_zret k157_182 (Or.inl rfl) ⟨_, rfl, rfl, (sig_no rfl).trans hs1, fun a q ha => (up_ne (by omega)).trans (hF1 a q ha), fun q => (by cases q), fun _ => ⟨up_at, (up_nk (by decide)).trans (h19.trans ?_)⟩⟩
                    show _ = caS at_ j r
                    unfold caS
                    rw [if_pos h40]
                    (repeat' split) <;> omega
                  · refine z_push k157_165 ?_
                    refine s_ist1 k157_167 rfl ?_
                    refine z_goto k157_168 ?_
                    refine z_goto k157_183 ?_
                    refine s_iinc3 k157_318 rfl ?_
                    refine z_goto k157_321 ?_
                    have hst : stpS σ at_ j r (kiT (σ 133) (σ 127 12).toNat k) (vaT (σ 133) (σ 127 12).toNat k) = some (50, j, r) := by
                      unfold stpS
                      rw [if_pos h40, if_neg (by omega), if_neg (by omega), if_pos (by omega)]
                    exact hgo _ _ _ hst (fun q => absurd rfl q) hs1 hA1 hr1 hF1
                · refine s_iinc2 k157_145 rfl ?_
                  refine z_push k157_148 ?_
                  refine s_ist1 k157_150 rfl ?_
                  refine z_goto k157_151 ?_
                  refine z_goto k157_183 ?_
                  refine s_iinc3 k157_318 rfl ?_
                  refine z_goto k157_321 ?_
                  have hst : stpS σ at_ j r (kiT (σ 133) (σ 127 12).toNat k) (vaT (σ 133) (σ 127 12).toNat k) = some (16, j + 1, r) := by
                    unfold stpS
                    rw [if_pos h40, if_neg (by omega), if_pos (by omega)]
                  exact hgo _ _ _ hst (fun _ => by omega) hs1 hA1 hr1 hF1
            · refine s_ild k157_107 rfl ?_
              refine s_ifne k157_109 (inR_lit rfl) (fun _ => ?_) (fun q => absurd q (by decide))
              refine s_ald k157_129 rfl ?_
              refine z_getRe (b := 134) k157_130 rfl rr_127_15 ?_
              refine s_ild k157_133 rfl ?_
              refine z_ialde (z := (kiT (σ 133) (σ 127 12).toNat k)) k157_134 rfl (by omega) (show (k : Int) < ((161 : Nat) : Int) by omega) b1 ?_
              refine z_push k157_135 ?_
              refine s_icne k157_137 ⟨by omega, by omega⟩ (inR_lit rfl) (fun h137 => ?_) (fun h137 => ?_)
              · refine s_ald k157_154 rfl ?_
                refine z_getRe (b := 134) k157_155 rfl rr_127_15 ?_
                refine s_ild k157_158 rfl ?_
                refine z_ialde (z := (kiT (σ 133) (σ 127 12).toNat k)) k157_159 rfl (by omega) (show (k : Int) < ((161 : Nat) : Int) by omega) b1 ?_
                refine z_push k157_160 ?_
                refine s_icne k157_162 ⟨by omega, by omega⟩ (inR_lit rfl) (fun h162 => ?_) (fun h162 => ?_)
                · refine s_ald k157_171 rfl ?_
                  refine s_ald k157_172 rfl ?_
                  refine z_getRe (b := 136) k157_173 rfl rr_127_17 ?_
                  refine s_ild k157_176 rfl ?_
                  refine z_ialde (z := (plT (σ 133) (σ 127 12).toNat k : Int)) k157_177 rfl (by omega) (show (k : Int) < ((161 : Nat) : Int) by omega) b3 ?_
                  refine z_putIe (q := 18) k157_178 rfl rfl ?_
                  refine z_push k157_181 ?_
                  have hst : stpS σ at_ j r (kiT (σ 133) (σ 127 12).toNat k) (vaT (σ 133) (σ 127 12).toNat k) = none := by
                    unfold stpS
                    rw [if_pos h40, if_neg (by omega), if_neg (by omega), if_neg (by omega)]
                  have e := hno hst
                  subst e
                  refine z_zret k157_182 (Or.inl rfl) ⟨_, rfl, rfl, (sig_no rfl).trans hs1, fun a q ha => (up_ne (by omega)).trans (hF1 a q ha), fun q => (by cases q), fun _ => ⟨up_at, (up_nk (by decide)).trans (h19.trans ?_)⟩⟩
                  show _ = caS at_ j r
                  unfold caS
                  rw [if_pos h40]
                  (repeat' split) <;> omega
                · refine z_push k157_165 ?_
                  refine s_ist1 k157_167 rfl ?_
                  refine z_goto k157_168 ?_
                  refine z_goto k157_183 ?_
                  refine s_iinc3 k157_318 rfl ?_
                  refine z_goto k157_321 ?_
                  have hst : stpS σ at_ j r (kiT (σ 133) (σ 127 12).toNat k) (vaT (σ 133) (σ 127 12).toNat k) = some (50, j, r) := by
                    unfold stpS
                    rw [if_pos h40, if_neg (by omega), if_neg (by omega), if_pos (by omega)]
                  exact hgo _ _ _ hst (fun q => absurd rfl q) hs1 hA1 hr1 hF1
              · refine s_ild k157_140 rfl ?_
                refine z_push k157_141 ?_
                refine s_icge k157_142 ⟨by omega, by omega⟩ (inR_lit rfl) (fun h142 => ?_) (fun h142 => ?_)
                · refine s_ald k157_154 rfl ?_
                  refine z_getRe (b := 134) k157_155 rfl rr_127_15 ?_
                  refine s_ild k157_158 rfl ?_
                  refine z_ialde (z := (kiT (σ 133) (σ 127 12).toNat k)) k157_159 rfl (by omega) (show (k : Int) < ((161 : Nat) : Int) by omega) b1 ?_
                  refine z_push k157_160 ?_
                  refine s_icne k157_162 ⟨by omega, by omega⟩ (inR_lit rfl) (fun h162 => ?_) (fun h162 => ?_)
                  · refine s_ald k157_171 rfl ?_
                    refine s_ald k157_172 rfl ?_
                    refine z_getRe (b := 136) k157_173 rfl rr_127_17 ?_
                    refine s_ild k157_176 rfl ?_
                    refine z_ialde (z := (plT (σ 133) (σ 127 12).toNat k : Int)) k157_177 rfl (by omega) (show (k : Int) < ((161 : Nat) : Int) by omega) b3 ?_
                    refine z_putIe (q := 18) k157_178 rfl rfl ?_
                    refine z_push k157_181 ?_
                    have hst : stpS σ at_ j r (kiT (σ 133) (σ 127 12).toNat k) (vaT (σ 133) (σ 127 12).toNat k) = none := by
                      unfold stpS
                      rw [if_pos h40, if_neg (by omega), if_neg (by omega), if_neg (by omega)]
                    have e := hno hst
                    subst e
                    refine z_zret k157_182 (Or.inl rfl) ⟨_, rfl, rfl, (sig_no rfl).trans hs1, fun a q ha => (up_ne (by omega)).trans (hF1 a q ha), fun q => (by cases q), fun _ => ⟨up_at, (up_nk (by decide)).trans (h19.trans ?_)⟩⟩
                    show _ = caS at_ j r
                    unfold caS
                    rw [if_pos h40]
                    (repeat' split) <;> omega
                  · refine z_push k157_165 ?_
                    refine s_ist1 k157_167 rfl ?_
                    refine z_goto k157_168 ?_
                    refine z_goto k157_183 ?_
                    refine s_iinc3 k157_318 rfl ?_
                    refine z_goto k157_321 ?_
                    have hst : stpS σ at_ j r (kiT (σ 133) (σ 127 12).toNat k) (vaT (σ 133) (σ 127 12).toNat k) = some (50, j, r) := by
                      unfold stpS
                      rw [if_pos h40, if_neg (by omega), if_neg (by omega), if_pos (by omega)]
                    exact hgo _ _ _ hst (fun q => absurd rfl q) hs1 hA1 hr1 hF1
                · refine s_iinc2 k157_145 rfl ?_
                  refine z_push k157_148 ?_
                  refine s_ist1 k157_150 rfl ?_
                  refine z_goto k157_151 ?_
                  refine z_goto k157_183 ?_
                  refine s_iinc3 k157_318 rfl ?_
                  refine z_goto k157_321 ?_
                  have hst : stpS σ at_ j r (kiT (σ 133) (σ 127 12).toNat k) (vaT (σ 133) (σ 127 12).toNat k) = some (16, j + 1, r) := by
                    unfold stpS
                    rw [if_pos h40, if_neg (by omega), if_pos (by omega)]
                  exact hgo _ _ _ hst (fun _ => by omega) hs1 hA1 hr1 hF1
      · have hwn := wn_b (x := at_)
        clear w12f
        by_cases hw : wnS at_ = 40
        · have h9 := wn_40 (x := at_) (by omega) (by omega) h40 hw
          have h9b := ix_b h9 w1.1 w1.2
          refine s_ild k157_31 rfl ?_
          refine z_push k157_32 ?_
          refine s_iceq k157_34 ⟨by omega, by omega⟩ (inR_lit rfl) (fun q => absurd q (by omega)) (fun h34 => ?_)
          refine s_ild k157_37 rfl ?_
          refine z_push k157_38 ?_
          refine s_icne k157_40 ⟨by omega, by omega⟩ (inR_lit rfl) (fun _ => ?_) (fun q => absurd q (by omega))
          refine s_ild k157_186 rfl ?_
          refine z_sta1A k157_187 (Nat.le_of_ble_eq_true rfl) (c154 (by omega) (by omega)) ?_
          refine s_ist4 k157_190 rfl ?_
          refine s_ald k157_192 rfl ?_
          refine s_ild k157_193 rfl ?_
          refine z_push k157_195 ?_
          refine s_icne k157_197 ⟨by omega, by omega⟩ (inR_lit rfl) (fun q => absurd q (by omega)) (fun h197 => ?_)
          refine z_push k157_200 ?_
          refine z_goto k157_201 ?_
          refine z_putIe (q := 19) k157_216 rfl rfl ?_
          obtain ⟨J1, hJ1⟩ : ∃ J1, J1 = upI J 127 19 (2) := ⟨_, rfl⟩
          rw [← hJ1]
          have hs1 : sig J1 = σ := by rw [hJ1]; exact (sig_no rfl).trans hs
          have hr1 : RDM J1 r := by rw [hJ1]; exact hr.no (by decide)
          have hA1 : TA σ J1 (n + 1) := by rw [hJ1]; exact hA.up (by decide)
          have hF1 : ∀ a q, a < 127 → J1 a q = I a q := fun a q ha => by rw [hJ1]; exact (up_ne (by omega)).trans (hlo a q ha)
          have h19 : J1 127 19 = 2 := by rw [hJ1]; exact up_at
          obtain ⟨b1, b2', b3⟩ := hA1 k (by omega)
          refine s_ald k157_219 rfl ?_
          refine z_getRe (b := 134) k157_220 rfl rr_127_15 ?_
          refine s_ild k157_223 rfl ?_
          refine z_ialde (z := (kiT (σ 133) (σ 127 12).toNat k)) k157_224 rfl (by omega) (show (k : Int) < ((161 : Nat) : Int) by omega) b1 ?_
          refine s_ild k157_225 rfl ?_
          refine s_icne k157_227 ⟨by omega, by omega⟩ ⟨by omega, by omega⟩ (fun h227 => ?_) (fun h227 => ?_)
          · refine s_ald k157_252 rfl ?_
            refine s_ald k157_253 rfl ?_
            refine z_getRe (b := 136) k157_254 rfl rr_127_17 ?_
            refine s_ild k157_257 rfl ?_
            refine z_ialde (z := (plT (σ 133) (σ 127 12).toNat k : Int)) k157_258 rfl (by omega) (show (k : Int) < ((161 : Nat) : Int) by omega) b3 ?_
            refine z_putIe (q := 18) k157_259 rfl rfl ?_
            refine z_push k157_262 ?_
            have hst : stpS σ at_ j r (kiT (σ 133) (σ 127 12).toNat k) (vaT (σ 133) (σ 127 12).toNat k) = none := by
              unfold stpS
              rw [if_neg h40, if_neg (by first | omega | (intro q; exact h249 (q.2 (by omega))))]
            have e := hno hst
            subst e
            refine z_zret k157_263 (Or.inl rfl) ⟨_, rfl, rfl, (sig_no rfl).trans hs1, fun a q ha => (up_ne (by omega)).trans (hF1 a q ha), fun q => (by cases q), fun _ => ⟨up_at, (up_nk (by decide)).trans (h19.trans ?_)⟩⟩
            show _ = caS at_ j r
            unfold caS
            rw [if_neg h40]
            have := wn_b (x := at_)
            (repeat' split) <;> omega
          · refine s_ild k157_230 rfl ?_
            refine z_push k157_232 ?_
            refine s_icne k157_234 ⟨by omega, by omega⟩ (inR_lit rfl) (fun q => absurd q (by omega)) (fun h234 => ?_)
            refine s_ald k157_237 rfl ?_
            refine s_ild k157_238 rfl ?_
            refine s_ild k157_239 rfl ?_
            refine s_ald k157_240 rfl ?_
            refine z_getRe (b := 135) k157_241 rfl rr_127_16 ?_
            refine s_ild k157_244 rfl ?_
            refine z_ialde (z := (vaT (σ 133) (σ 127 12).toNat k)) k157_245 rfl (by omega) (show (k : Int) < ((161 : Nat) : Int) by omega) (b2' (by omega)) ?_
            refine z_inv3A k157_246 rfl (Nat.le_of_ble_eq_true rfl) (c155 hs1 b2 hr1 w1.1 w1.2 hvb.1 hvb.2 h9 h4f) ?_
            refine z_ifneb k157_249 (fun h249 => ?_) (fun h249 => ?_)
            · refine s_ild k157_264 rfl ?_
              refine z_push k157_266 ?_
              refine s_icne k157_268 ⟨by omega, by omega⟩ (inR_lit rfl) (fun q => absurd q (by omega)) (fun h268 => ?_)
              refine s_ald k157_271 rfl ?_
              refine s_ild k157_272 rfl ?_
              refine s_ild k157_273 rfl ?_
              refine s_ald k157_274 rfl ?_
              refine z_getRe (b := 135) k157_275 rfl rr_127_16 ?_
              refine s_ild k157_278 rfl ?_
              refine z_ialde (z := (vaT (σ 133) (σ 127 12).toNat k)) k157_279 rfl (by omega) (show (k : Int) < ((161 : Nat) : Int) by omega) (b2' (by omega)) ?_
              refine z_inv3 k157_280 rfl (Nat.le_of_ble_eq_true rfl) (c156 w1.1 w1.2 h9) (fun o h1 hq => ?_)
              obtain ⟨rfl, rfl⟩ := hq
              refine s_ild k157_283 rfl ?_
              refine z_push k157_284 ?_
              refine s_icne k157_286 ⟨by omega, by omega⟩ (inR_lit rfl) (fun h286 => ?_) (fun h286 => ?_)
              · refine s_ild k157_303 rfl ?_
                refine z_push k157_304 ?_
                refine s_icne k157_306 ⟨by omega, by omega⟩ (inR_lit rfl) (fun h306 => ?_) (fun q => absurd q (by omega))
                refine s_ild k157_314 rfl ?_
                refine z_push k157_315 ?_
                refine z_iadd k157_316 ?_
                refine s_ist1 k157_317 rfl ?_
                refine s_iinc3 k157_318 rfl ?_
                refine z_goto k157_321 ?_
                have hst : stpS σ at_ j r (kiT (σ 133) (σ 127 12).toNat k) (vaT (σ 133) (σ 127 12).toNat k) = some (at_ + 1, j, kpS at_ j r (vaT (σ 133) (σ 127 12).toNat k)) := by
                  unfold stpS
                  rw [if_neg h40, if_pos ⟨by omega, fun _ => h249⟩, if_neg (by omega), if_pos (by omega)]
                have hrk : RDM (upI J1 137 (ixS at_ j) (vaT (σ 133) (σ 127 12).toNat k)) (kpS at_ j r (vaT (σ 133) (σ 127 12).toNat k)) := by
                  unfold kpS
                  rw [if_neg h286]
                  exact hr1.up
                exact hgo _ _ _ hst (fun _ => by omega) ((sig_no rfl).trans hs1) (hA1.up (by decide)) hrk (fun a q ha => (up_ne (by omega)).trans (hF1 a q ha))
              · refine s_ald k157_289 rfl ?_
                refine z_getRe (b := 137) k157_290 rfl rr_127_20 ?_
                refine z_push k157_293 ?_
                refine z_push k157_294 ?_
                refine s_ild k157_296 rfl ?_
                refine z_imul k157_297 ?_
                refine z_iadd k157_298 ?_
                refine z_push k157_299 ?_
                refine z_iadd k157_300 ?_
                refine z_push k157_301 ?_
                refine z_iast k157_302 rfl (by omega) (show ((5 + (6 * j)) + 3) < ((23 : Nat) : Int) by omega) ?_
                refine s_ild k157_303 rfl ?_
                refine z_push k157_304 ?_
                refine s_icne k157_306 ⟨by omega, by omega⟩ (inR_lit rfl) (fun h306 => ?_) (fun q => absurd q (by omega))
                refine s_ild k157_314 rfl ?_
                refine z_push k157_315 ?_
                refine z_iadd k157_316 ?_
                refine s_ist1 k157_317 rfl ?_
                refine s_iinc3 k157_318 rfl ?_
                refine z_goto k157_321 ?_
                have hst : stpS σ at_ j r (kiT (σ 133) (σ 127 12).toNat k) (vaT (σ 133) (σ 127 12).toNat k) = some (at_ + 1, j, kpS at_ j r (vaT (σ 133) (σ 127 12).toNat k)) := by
                  unfold stpS
                  rw [if_neg h40, if_pos ⟨by omega, fun _ => h249⟩, if_neg (by omega), if_pos (by omega)]
                have hrk : RDM (upI (upI J1 137 (ixS at_ j) (vaT (σ 133) (σ 127 12).toNat k)) 137 (5 + 6 * j + 3) 0) (kpS at_ j r (vaT (σ 133) (σ 127 12).toNat k)) := by
                  unfold kpS
                  rw [if_pos h286]
                  exact hr1.up.up
                exact hgo _ _ _ hst (fun _ => by omega) ((sig_no rfl).trans ((sig_no rfl).trans hs1)) ((hA1.up (by decide)).up (by decide)) hrk (fun a q ha => (up_ne (by omega)).trans ((up_ne (by omega)).trans (hF1 a q ha)))
            · refine s_ald k157_252 rfl ?_
              refine s_ald k157_253 rfl ?_
              refine z_getRe (b := 136) k157_254 rfl rr_127_17 ?_
              refine s_ild k157_257 rfl ?_
              refine z_ialde (z := (plT (σ 133) (σ 127 12).toNat k : Int)) k157_258 rfl (by omega) (show (k : Int) < ((161 : Nat) : Int) by omega) b3 ?_
              refine z_putIe (q := 18) k157_259 rfl rfl ?_
              refine z_push k157_262 ?_
              have hst : stpS σ at_ j r (kiT (σ 133) (σ 127 12).toNat k) (vaT (σ 133) (σ 127 12).toNat k) = none := by
                unfold stpS
                rw [if_neg h40, if_neg (by first | omega | (intro q; exact h249 (q.2 (by omega))))]
              have e := hno hst
              subst e
              refine z_zret k157_263 (Or.inl rfl) ⟨_, rfl, rfl, (sig_no rfl).trans hs1, fun a q ha => (up_ne (by omega)).trans (hF1 a q ha), fun q => (by cases q), fun _ => ⟨up_at, (up_nk (by decide)).trans (h19.trans ?_)⟩⟩
              show _ = caS at_ j r
              unfold caS
              rw [if_neg h40]
              have := wn_b (x := at_)
              (repeat' split) <;> omega
        · clear h4f
          have h14 : at_ ≠ 14 := fun e => hw (by rw [e]; rfl)
          refine s_ild k157_31 rfl ?_
          refine z_push k157_32 ?_
          refine s_iceq k157_34 ⟨by omega, by omega⟩ (inR_lit rfl) (fun q => absurd q (by omega)) (fun h34 => ?_)
          refine s_ild k157_37 rfl ?_
          refine z_push k157_38 ?_
          refine s_icne k157_40 ⟨by omega, by omega⟩ (inR_lit rfl) (fun _ => ?_) (fun q => absurd q (by omega))
          refine s_ild k157_186 rfl ?_
          refine z_sta1A k157_187 (Nat.le_of_ble_eq_true rfl) (c154 (by omega) (by omega)) ?_
          refine s_ist4 k157_190 rfl ?_
          refine s_ald k157_192 rfl ?_
          refine s_ild k157_193 rfl ?_
          refine z_push k157_195 ?_
          refine s_icne k157_197 ⟨by omega, by omega⟩ (inR_lit rfl) (fun h197 => ?_) (fun q => absurd q (by omega))
          refine s_ild k157_204 rfl ?_
          refine z_push k157_206 ?_
          refine s_iclt k157_208 ⟨by omega, by omega⟩ (inR_lit rfl) (fun h208 => ?_) (fun h208 => ?_)
          · refine z_push k157_215 ?_
            refine z_putIe (q := 19) k157_216 rfl rfl ?_
            obtain ⟨J1, hJ1⟩ : ∃ J1, J1 = upI J 127 19 (1) := ⟨_, rfl⟩
            rw [← hJ1]
            have hs1 : sig J1 = σ := by rw [hJ1]; exact (sig_no rfl).trans hs
            have hr1 : RDM J1 r := by rw [hJ1]; exact hr.no (by decide)
            have hA1 : TA σ J1 (n + 1) := by rw [hJ1]; exact hA.up (by decide)
            have hF1 : ∀ a q, a < 127 → J1 a q = I a q := fun a q ha => by rw [hJ1]; exact (up_ne (by omega)).trans (hlo a q ha)
            have h19 : J1 127 19 = 1 := by rw [hJ1]; exact up_at
            obtain ⟨b1, b2', b3⟩ := hA1 k (by omega)
            refine s_ald k157_219 rfl ?_
            refine z_getRe (b := 134) k157_220 rfl rr_127_15 ?_
            refine s_ild k157_223 rfl ?_
            refine z_ialde (z := (kiT (σ 133) (σ 127 12).toNat k)) k157_224 rfl (by omega) (show (k : Int) < ((161 : Nat) : Int) by omega) b1 ?_
            refine s_ild k157_225 rfl ?_
            refine s_icne k157_227 ⟨by omega, by omega⟩ ⟨by omega, by omega⟩ (fun h227 => ?_) (fun h227 => ?_)
            · refine s_ald k157_252 rfl ?_
              refine s_ald k157_253 rfl ?_
              refine z_getRe (b := 136) k157_254 rfl rr_127_17 ?_
              refine s_ild k157_257 rfl ?_
              refine z_ialde (z := (plT (σ 133) (σ 127 12).toNat k : Int)) k157_258 rfl (by omega) (show (k : Int) < ((161 : Nat) : Int) by omega) b3 ?_
              refine z_putIe (q := 18) k157_259 rfl rfl ?_
              refine z_push k157_262 ?_
              have hst : stpS σ at_ j r (kiT (σ 133) (σ 127 12).toNat k) (vaT (σ 133) (σ 127 12).toNat k) = none := by
                unfold stpS
                rw [if_neg h40, if_neg (by first | omega | (intro q; exact h249 (q.2 (by omega))))]
              have e := hno hst
              subst e
              refine z_zret k157_263 (Or.inl rfl) ⟨_, rfl, rfl, (sig_no rfl).trans hs1, fun a q ha => (up_ne (by omega)).trans (hF1 a q ha), fun q => (by cases q), fun _ => ⟨up_at, (up_nk (by decide)).trans (h19.trans ?_)⟩⟩
              show _ = caS at_ j r
              unfold caS
              rw [if_neg h40]
              have := wn_b (x := at_)
              (repeat' split) <;> omega
            · refine s_ild k157_230 rfl ?_
              refine z_push k157_232 ?_
              refine s_icne k157_234 ⟨by omega, by omega⟩ (inR_lit rfl) (fun h234 => ?_) (fun q => absurd q (by omega))
              refine s_ild k157_264 rfl ?_
              refine z_push k157_266 ?_
              refine s_icne k157_268 ⟨by omega, by omega⟩ (inR_lit rfl) (fun h268 => ?_) (fun q => absurd q (by omega))
              refine s_ild k157_283 rfl ?_
              refine z_push k157_284 ?_
              refine s_icne k157_286 ⟨by omega, by omega⟩ (inR_lit rfl) (fun h286 => ?_) (fun q => absurd q (by omega))
              refine s_ild k157_303 rfl ?_
              refine z_push k157_304 ?_
              refine s_icne k157_306 ⟨by omega, by omega⟩ (inR_lit rfl) (fun h306 => ?_) (fun h306 => ?_)
              · refine s_ild k157_314 rfl ?_
                refine z_push k157_315 ?_
                refine z_iadd k157_316 ?_
                refine s_ist1 k157_317 rfl ?_
                refine s_iinc3 k157_318 rfl ?_
                refine z_goto k157_321 ?_
                have hst : stpS σ at_ j r (kiT (σ 133) (σ 127 12).toNat k) (vaT (σ 133) (σ 127 12).toNat k) = some (at_ + 1, j, r) := by
                  unfold stpS
                  rw [if_neg h40, if_pos ⟨by omega, fun q => absurd q (by omega)⟩, if_neg (by omega), if_neg (by omega)]
                exact hgo _ _ _ hst (fun _ => by omega) hs1 hA1 hr1 hF1
              · refine z_push k157_309 ?_
                refine z_goto k157_311 ?_
                refine s_ist1 k157_317 rfl ?_
                refine s_iinc3 k157_318 rfl ?_
                refine z_goto k157_321 ?_
                have hst : stpS σ at_ j r (kiT (σ 133) (σ 127 12).toNat k) (vaT (σ 133) (σ 127 12).toNat k) = some (9, j, r) := by
                  unfold stpS
                  rw [if_neg h40, if_pos ⟨by omega, fun q => absurd q (by omega)⟩, if_pos (by omega), if_neg (by omega)]
                exact hgo _ _ _ hst (fun _ => by omega) hs1 hA1 hr1 hF1
          · refine z_push k157_211 ?_
            refine z_goto k157_212 ?_
            refine z_putIe (q := 19) k157_216 rfl rfl ?_
            obtain ⟨J1, hJ1⟩ : ∃ J1, J1 = upI J 127 19 (4) := ⟨_, rfl⟩
            rw [← hJ1]
            have hs1 : sig J1 = σ := by rw [hJ1]; exact (sig_no rfl).trans hs
            have hr1 : RDM J1 r := by rw [hJ1]; exact hr.no (by decide)
            have hA1 : TA σ J1 (n + 1) := by rw [hJ1]; exact hA.up (by decide)
            have hF1 : ∀ a q, a < 127 → J1 a q = I a q := fun a q ha => by rw [hJ1]; exact (up_ne (by omega)).trans (hlo a q ha)
            have h19 : J1 127 19 = 4 := by rw [hJ1]; exact up_at
            obtain ⟨b1, b2', b3⟩ := hA1 k (by omega)
            refine s_ald k157_219 rfl ?_
            refine z_getRe (b := 134) k157_220 rfl rr_127_15 ?_
            refine s_ild k157_223 rfl ?_
            refine z_ialde (z := (kiT (σ 133) (σ 127 12).toNat k)) k157_224 rfl (by omega) (show (k : Int) < ((161 : Nat) : Int) by omega) b1 ?_
            refine s_ild k157_225 rfl ?_
            refine s_icne k157_227 ⟨by omega, by omega⟩ ⟨by omega, by omega⟩ (fun h227 => ?_) (fun h227 => ?_)
            · refine s_ald k157_252 rfl ?_
              refine s_ald k157_253 rfl ?_
              refine z_getRe (b := 136) k157_254 rfl rr_127_17 ?_
              refine s_ild k157_257 rfl ?_
              refine z_ialde (z := (plT (σ 133) (σ 127 12).toNat k : Int)) k157_258 rfl (by omega) (show (k : Int) < ((161 : Nat) : Int) by omega) b3 ?_
              refine z_putIe (q := 18) k157_259 rfl rfl ?_
              refine z_push k157_262 ?_
              have hst : stpS σ at_ j r (kiT (σ 133) (σ 127 12).toNat k) (vaT (σ 133) (σ 127 12).toNat k) = none := by
                unfold stpS
                rw [if_neg h40, if_neg (by first | omega | (intro q; exact h249 (q.2 (by omega))))]
              have e := hno hst
              subst e
              refine z_zret k157_263 (Or.inl rfl) ⟨_, rfl, rfl, (sig_no rfl).trans hs1, fun a q ha => (up_ne (by omega)).trans (hF1 a q ha), fun q => (by cases q), fun _ => ⟨up_at, (up_nk (by decide)).trans (h19.trans ?_)⟩⟩
              show _ = caS at_ j r
              unfold caS
              rw [if_neg h40]
              have := wn_b (x := at_)
              (repeat' split) <;> omega
            · refine s_ild k157_230 rfl ?_
              refine z_push k157_232 ?_
              refine s_icne k157_234 ⟨by omega, by omega⟩ (inR_lit rfl) (fun h234 => ?_) (fun q => absurd q (by omega))
              refine s_ild k157_264 rfl ?_
              refine z_push k157_266 ?_
              refine s_icne k157_268 ⟨by omega, by omega⟩ (inR_lit rfl) (fun h268 => ?_) (fun q => absurd q (by omega))
              refine s_ild k157_283 rfl ?_
              refine z_push k157_284 ?_
              refine s_icne k157_286 ⟨by omega, by omega⟩ (inR_lit rfl) (fun h286 => ?_) (fun q => absurd q (by omega))
              refine s_ild k157_303 rfl ?_
              refine z_push k157_304 ?_
              refine s_icne k157_306 ⟨by omega, by omega⟩ (inR_lit rfl) (fun h306 => ?_) (fun h306 => ?_)
              · refine s_ild k157_314 rfl ?_
                refine z_push k157_315 ?_
                refine z_iadd k157_316 ?_
                refine s_ist1 k157_317 rfl ?_
                refine s_iinc3 k157_318 rfl ?_
                refine z_goto k157_321 ?_
                have hst : stpS σ at_ j r (kiT (σ 133) (σ 127 12).toNat k) (vaT (σ 133) (σ 127 12).toNat k) = some (at_ + 1, j, r) := by
                  unfold stpS
                  rw [if_neg h40, if_pos ⟨by omega, fun q => absurd q (by omega)⟩, if_neg (by omega), if_neg (by omega)]
                exact hgo _ _ _ hst (fun _ => by omega) hs1 hA1 hr1 hF1
              · refine z_push k157_309 ?_
                refine z_goto k157_311 ?_
                refine s_ist1 k157_317 rfl ?_
                refine s_iinc3 k157_318 rfl ?_
                refine z_goto k157_321 ?_
                have hst : stpS σ at_ j r (kiT (σ 133) (σ 127 12).toNat k) (vaT (σ 133) (σ 127 12).toNat k) = some (9, j, r) := by
                  unfold stpS
                  rw [if_neg h40, if_pos ⟨by omega, fun q => absurd q (by omega)⟩, if_pos (by omega), if_neg (by omega)]
                exact hgo _ _ _ hst (fun _ => by omega) hs1 hA1 hr1 hF1
