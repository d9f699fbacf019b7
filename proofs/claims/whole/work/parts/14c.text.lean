/-! texts, the reference -/
theorem mc_0 {a b : Int} : mcmp a b = 0 ↔ a = b := by
  unfold mcmp
  split
  · omega
  · split <;> omega
theorem bL {c : Int} : isLe c = true ↔ 97 ≤ c ∧ c ≤ 122 := by unfold isLe; exact decide_eq_true_iff
theorem bD {c : Int} : isDi c = true ↔ 48 ≤ c ∧ c ≤ 57 := by unfold isDi; exact decide_eq_true_iff
theorem bB {c : Int} : isBl c = true ↔ c = 32 := by unfold isBl; exact decide_eq_true_iff
theorem bLf {c : Int} : isLe c = false ↔ ¬ (97 ≤ c ∧ c ≤ 122) := by unfold isLe; exact decide_eq_false_iff_not
theorem bDf {c : Int} : isDi c = false ↔ ¬ (48 ≤ c ∧ c ≤ 57) := by unfold isDi; exact decide_eq_false_iff_not
theorem bBf {c : Int} : isBl c = false ↔ ¬ c = 32 := by unfold isBl; exact decide_eq_false_iff_not
/-- what the reference's reading leaves as it was -/
def FT (I J : Nat → Int → Int) : Prop := ∀ a k, ¬ (a = 127 ∧ k = 14) → ¬ (134 ≤ a ∧ a ≤ 136) → J a k = I a k
theorem FT.rf {I : Nat → Int → Int} : FT I I := fun _ _ _ _ => rfl
theorem FT.up {I J : Nat → Int → Int} {a : Nat} {k z : Int} (h : FT I J) (ha : (a = 127 ∧ k = 14) ∨ (134 ≤ a ∧ a ≤ 136)) : FT I (upI J a k z) := fun a' k' h1 h2 => by
  unfold upI
  rw [if_neg (fun q => by rcases ha with e | e <;> omega)]
  exact h a' k' h1 h2
theorem FT.sig {I J : Nat → Int → Int} (h : FT I J) : sig J = sig I := sig_eq fun a k hk => h a k (fun q => by rw [q.1, q.2] at hk; cases hk) (fun q => by
  have : a = 134 ∨ a = 135 ∨ a = 136 := by omega
  rcases this with e | e | e <;> (rw [e] at hk; cases hk))
def TA (σ J : Nat → Int → Int) (n : Nat) : Prop := ∀ q : Nat, q < n → J 134 q = kiT (σ 133) (σ 127 12).toNat q ∧ (plT (σ 133) (σ 127 12).toNat q < (σ 127 12).toNat → J 135 q = vaT (σ 133) (σ 127 12).toNat q) ∧ J 136 q = plT (σ 133) (σ 127 12).toNat q
set_option maxRecDepth 20000 in
theorem c152 {d : Nat} {I : Nat → Int → Int} {P : Int → Nat} {dr : Nat} {w : Int} (w0 : 0 ≤ w) (w1 : w < 7625597484987) : cal (d + 1) 152 [vl w] I P dr (ans (vi (woS w)) I P dr) := by
  refine cal_in (Nat.le_of_ble_eq_true rfl) ?_
  show wp _ _ _ _ 0 [vl w, vj] [] _
  refine s_lld k152_0 rfl ?_
  refine z_push k152_1 ?_
  refine z_lcmp k152_4 ⟨by omega, by omega⟩ ⟨by decide, by decide⟩ ?_
  refine s_ifne k152_5 (mc_R _ _) (fun h5 => ?_) (fun h5 => ?_)
  · refine s_lld k152_10 rfl ?_
    refine z_push k152_11 ?_
    refine z_lcmp k152_14 ⟨by omega, by omega⟩ ⟨by decide, by decide⟩ ?_
    refine s_ifne k152_15 (mc_R _ _) (fun h15 => ?_) (fun h15 => ?_)
    · refine s_lld k152_20 rfl ?_
      refine z_push k152_21 ?_
      refine z_lcmp k152_24 ⟨by omega, by omega⟩ ⟨by decide, by decide⟩ ?_
      refine s_ifne k152_25 (mc_R _ _) (fun h25 => ?_) (fun h25 => ?_)
      · refine s_lld k152_30 rfl ?_
        refine z_push k152_31 ?_
        refine z_lcmp k152_34 ⟨by omega, by omega⟩ ⟨by decide, by decide⟩ ?_
        refine s_ifne k152_35 (mc_R _ _) (fun h35 => ?_) (fun h35 => ?_)
        · refine s_lld k152_40 rfl ?_
          refine z_push k152_41 ?_
          refine z_lcmp k152_44 ⟨by omega, by omega⟩ ⟨by decide, by decide⟩ ?_
          refine s_ifne k152_45 (mc_R _ _) (fun h45 => ?_) (fun h45 => ?_)
          · refine s_lld k152_50 rfl ?_
            refine z_push k152_51 ?_
            refine z_lcmp k152_54 ⟨by omega, by omega⟩ ⟨by decide, by decide⟩ ?_
            refine s_ifne k152_55 (mc_R _ _) (fun h55 => ?_) (fun h55 => ?_)
            · refine s_lld k152_60 rfl ?_
              refine z_push k152_61 ?_
              refine z_lcmp k152_64 ⟨by omega, by omega⟩ ⟨by decide, by decide⟩ ?_
              refine s_ifne k152_65 (mc_R _ _) (fun h65 => ?_) (fun h65 => ?_)
              · refine s_lld k152_71 rfl ?_
                refine z_push k152_72 ?_
                refine z_lcmp k152_75 ⟨by omega, by omega⟩ ⟨by decide, by decide⟩ ?_
                refine s_ifne k152_76 (mc_R _ _) (fun h76 => ?_) (fun h76 => ?_)
                · refine s_lld k152_82 rfl ?_
                  refine z_push k152_83 ?_
                  refine z_lcmp k152_86 ⟨by omega, by omega⟩ ⟨by decide, by decide⟩ ?_
                  refine s_ifne k152_87 (mc_R _ _) (fun h87 => ?_) (fun h87 => ?_)
                  · refine s_lld k152_93 rfl ?_
                    refine z_push k152_94 ?_
                    refine z_lcmp k152_97 ⟨by omega, by omega⟩ ⟨by decide, by decide⟩ ?_
                    refine s_ifne k152_98 (mc_R _ _) (fun h98 => ?_) (fun h98 => ?_)
                    · refine z_push k152_106 ?_
                      refine z_iret k152_108 (ans_i ?_)
                      unfold woS
                      rw [if_neg (fun q => h5 (mc_0.mpr q)), if_neg (fun q => h15 (mc_0.mpr q)), if_neg (fun q => h25 (mc_0.mpr q)), if_neg (fun q => h35 (mc_0.mpr q)), if_neg (fun q => h45 (mc_0.mpr q)), if_neg (fun q => h55 (mc_0.mpr q)), if_neg (fun q => h65 (mc_0.mpr q)), if_neg (fun q => h76 (mc_0.mpr q)), if_neg (fun q => h87 (mc_0.mpr q)), if_neg (fun q => h98 (mc_0.mpr q))]
                    · refine z_push k152_101 ?_
                      refine z_goto k152_103 ?_
                      refine z_iret k152_108 (ans_i ?_)
                      unfold woS
                      rw [if_neg (fun q => h5 (mc_0.mpr q)), if_neg (fun q => h15 (mc_0.mpr q)), if_neg (fun q => h25 (mc_0.mpr q)), if_neg (fun q => h35 (mc_0.mpr q)), if_neg (fun q => h45 (mc_0.mpr q)), if_neg (fun q => h55 (mc_0.mpr q)), if_neg (fun q => h65 (mc_0.mpr q)), if_neg (fun q => h76 (mc_0.mpr q)), if_neg (fun q => h87 (mc_0.mpr q)), if_pos (mc_0.mp h98)]
                  · refine z_push k152_90 ?_
                    refine z_iret k152_92 (ans_i ?_)
                    unfold woS
                    rw [if_neg (fun q => h5 (mc_0.mpr q)), if_neg (fun q => h15 (mc_0.mpr q)), if_neg (fun q => h25 (mc_0.mpr q)), if_neg (fun q => h35 (mc_0.mpr q)), if_neg (fun q => h45 (mc_0.mpr q)), if_neg (fun q => h55 (mc_0.mpr q)), if_neg (fun q => h65 (mc_0.mpr q)), if_neg (fun q => h76 (mc_0.mpr q)), if_pos (mc_0.mp h87)]
                · refine z_push k152_79 ?_
                  refine z_iret k152_81 (ans_i ?_)
                  unfold woS
                  rw [if_neg (fun q => h5 (mc_0.mpr q)), if_neg (fun q => h15 (mc_0.mpr q)), if_neg (fun q => h25 (mc_0.mpr q)), if_neg (fun q => h35 (mc_0.mpr q)), if_neg (fun q => h45 (mc_0.mpr q)), if_neg (fun q => h55 (mc_0.mpr q)), if_neg (fun q => h65 (mc_0.mpr q)), if_pos (mc_0.mp h76)]
              · refine z_push k152_68 ?_
                refine z_iret k152_70 (ans_i ?_)
                unfold woS
                rw [if_neg (fun q => h5 (mc_0.mpr q)), if_neg (fun q => h15 (mc_0.mpr q)), if_neg (fun q => h25 (mc_0.mpr q)), if_neg (fun q => h35 (mc_0.mpr q)), if_neg (fun q => h45 (mc_0.mpr q)), if_neg (fun q => h55 (mc_0.mpr q)), if_pos (mc_0.mp h65)]
            · refine z_push k152_58 ?_
              refine z_iret k152_59 (ans_i ?_)
              unfold woS
              rw [if_neg (fun q => h5 (mc_0.mpr q)), if_neg (fun q => h15 (mc_0.mpr q)), if_neg (fun q => h25 (mc_0.mpr q)), if_neg (fun q => h35 (mc_0.mpr q)), if_neg (fun q => h45 (mc_0.mpr q)), if_pos (mc_0.mp h55)]
          · refine z_push k152_48 ?_
            refine z_iret k152_49 (ans_i ?_)
            unfold woS
            rw [if_neg (fun q => h5 (mc_0.mpr q)), if_neg (fun q => h15 (mc_0.mpr q)), if_neg (fun q => h25 (mc_0.mpr q)), if_neg (fun q => h35 (mc_0.mpr q)), if_pos (mc_0.mp h45)]
        · refine z_push k152_38 ?_
          refine z_iret k152_39 (ans_i ?_)
          unfold woS
          rw [if_neg (fun q => h5 (mc_0.mpr q)), if_neg (fun q => h15 (mc_0.mpr q)), if_neg (fun q => h25 (mc_0.mpr q)), if_pos (mc_0.mp h35)]
      · refine z_push k152_28 ?_
        refine z_iret k152_29 (ans_i ?_)
        unfold woS
        rw [if_neg (fun q => h5 (mc_0.mpr q)), if_neg (fun q => h15 (mc_0.mpr q)), if_pos (mc_0.mp h25)]
    · refine z_push k152_18 ?_
      refine z_iret k152_19 (ans_i ?_)
      unfold woS
      rw [if_neg (fun q => h5 (mc_0.mpr q)), if_pos (mc_0.mp h15)]
  · refine z_push k152_8 ?_
    refine z_iret k152_9 (ans_i ?_)
    unfold woS
    rw [if_pos (mc_0.mp h5)]
theorem wcap {u : Nat → Int} {q : Nat} (h : q < 9) : wcF u (if q + 1 < 9 then q + 1 else 9) = 27 * wcF u (if q < 9 then q else 9) + u q - 96 := by
  rw [if_pos h]
  by_cases c : q + 1 < 9
  · rw [if_pos c]; rfl
  · rw [if_neg c, show q = 8 by omega]; rfl
theorem wcap2 {u : Nat → Int} {q : Nat} (h : ¬ q < 9) : wcF u (if q + 1 < 9 then q + 1 else 9) = wcF u (if q < 9 then q else 9) := by
  rw [if_neg h, if_neg (by omega)]
theorem ncap {u : Nat → Int} {q : Nat} (h : q < 2) : nuF u (if q + 1 < 2 then q + 1 else 2) = 10 * nuF u (if q < 2 then q else 2) + u q - 48 := by
  rw [if_pos h]
  by_cases c : q + 1 < 2
  · rw [if_pos c]; rfl
  · rw [if_neg c, show q = 1 by omega]; rfl
theorem ncap2 {u : Nat → Int} {q : Nat} (h : ¬ q < 2) : nuF u (if q + 1 < 2 then q + 1 else 2) = nuF u (if q < 2 then q else 2) := by
  rw [if_neg h, if_neg (by omega)]
set_option maxRecDepth 20000 in
theorem lp153w {d : Nat} {σ J : Nat → Int → Int} {P : Int → Nat} {dr : Nat} {Q : mQ} (hs : sig J = σ) (hT : WFt σ) {b e : Nat} (hb : b < (σ 127 12).toNat) (he : enS (σ 133) (σ 127 12).toNat isLe b = e) (kx : wp (mcall MT CD (d + 1)) (CD 153) L0 Q 104 [vr 127, vi (e : Int), vi (b : Int), vi (-1), vi 0, vl (wcF (frS (σ 133) b) (if e - b < 9 then e - b else 9)), vj] [] (S0, J, RR P dr)) : ∀ (g q : Nat), b + q + g = e → wp (mcall MT CD (d + 1)) (CD 153) L0 Q 41 [vr 127, vi ((b + q : Nat) : Int), vi (b : Int), vi (-1), vi 0, vl (wcF (frS (σ 133) b) (if q < 9 then q else 9)), vj] [] (S0, J, RR P dr) := by
  have hm := hT.1
  have heb := en_b (t := (σ 133)) (f := isLe) (Nat.le_of_lt hb)
  rw [he] at heb
  intro g
  induction g with
  | zero => 
    intro q hq
    refine s_ild k153_41 rfl ?_
    refine s_ald k153_42 rfl ?_
    refine z_getIe (z := σ 127 12) k153_43 rfl (st_s hs rfl) ?_
    refine s_icge k153_46 ⟨by omega, by omega⟩ ⟨by omega, by omega⟩ (fun h46 => ?_) (fun h46 => ?_)
    · rw [show ((b + q : Nat) : Int) = (e : Int) by omega, show q = e - b by omega]
      exact kx
    · have hne := en_at (t := (σ 133)) (m := (σ 127 12).toNat) (f := isLe) (Nat.le_of_lt hb) (by rw [he]; omega)
      rw [he, bLf, show (e : Int) = ((b + q : Nat) : Int) by omega] at hne
      have hbt := hT.2 ((b + q : Nat) : Int) (by omega) (by omega)
      refine s_ald k153_49 rfl ?_
      refine z_getRe (b := 133) k153_50 rfl rr_127_13 ?_
      refine s_ild k153_53 rfl ?_
      refine z_ialde (z := σ 133 ((b + q : Nat) : Int)) k153_54 rfl (by omega) (show ((b + q : Nat) : Int) < ((160 : Nat) : Int) by omega) (st_s hs rfl) ?_
      refine z_push k153_55 ?_
      refine z_push k153_57 ?_
      refine z_sta3A k153_59 (Nat.le_of_ble_eq_true rfl) (c136 ⟨by omega, by omega⟩ (inR_lit rfl) (inR_lit rfl)) ?_
      refine z_ifeqb k153_62 (fun h62 => ?_) (fun q => absurd q hne)
      rw [show ((b + q : Nat) : Int) = (e : Int) by omega, show q = e - b by omega]
      exact kx
  | succ g ih => 
    intro q hq
    refine s_ild k153_41 rfl ?_
    refine s_ald k153_42 rfl ?_
    refine z_getIe (z := σ 127 12) k153_43 rfl (st_s hs rfl) ?_
    refine s_icge k153_46 ⟨by omega, by omega⟩ ⟨by omega, by omega⟩ (fun q => absurd q (by omega)) (fun h46 => ?_)
    have hle := en_all (t := (σ 133)) (m := (σ 127 12).toNat) (f := isLe) (i := b) (q := b + q) (by omega) (by rw [he]; omega)
    rw [bL] at hle
    have hbt := hT.2 ((b + q : Nat) : Int) (by omega) (by omega)
    refine s_ald k153_49 rfl ?_
    refine z_getRe (b := 133) k153_50 rfl rr_127_13 ?_
    refine s_ild k153_53 rfl ?_
    refine z_ialde (z := σ 133 ((b + q : Nat) : Int)) k153_54 rfl (by omega) (show ((b + q : Nat) : Int) < ((160 : Nat) : Int) by omega) (st_s hs rfl) ?_
    refine z_push k153_55 ?_
    refine z_push k153_57 ?_
    refine z_sta3A k153_59 (Nat.le_of_ble_eq_true rfl) (c136 ⟨by omega, by omega⟩ (inR_lit rfl) (inR_lit rfl)) ?_
    refine z_ifeqb k153_62 (fun q => absurd hle q) (fun h62 => ?_)
    refine s_ild k153_65 rfl ?_
    refine s_ild k153_66 rfl ?_
    refine z_isub k153_67 ?_
    refine z_push k153_68 ?_
    refine s_icge k153_70 ⟨by omega, by omega⟩ (inR_lit rfl) (fun h70 => ?_) (fun h70 => ?_)
    · refine s_lld k153_94 rfl ?_
      refine s_lst5 k153_96 rfl ?_
      refine s_iinc1 k153_98 rfl ?_
      refine z_goto k153_101 ?_
      have k := ih (q + 1) (by omega)
      rw [show ((b + (q + 1) : Nat) : Int) = ((b + q : Nat) : Int) + 1 by omega, wcap2 (by omega)] at k
      exact k
    · refine z_push k153_73 ?_
      refine s_lld k153_76 rfl ?_
      refine z_lmul k153_78 ?_
      refine s_ald k153_79 rfl ?_
      refine z_getRe (b := 133) k153_80 rfl rr_127_13 ?_
      refine s_ild k153_83 rfl ?_
      refine z_ialde (z := σ 133 ((b + q : Nat) : Int)) k153_84 rfl (by omega) (show ((b + q : Nat) : Int) < ((160 : Nat) : Int) by omega) (st_s hs rfl) ?_
      refine z_i2l k153_85 ⟨by omega, by omega⟩ ?_
      refine z_ladd k153_86 ?_
      refine z_push k153_87 ?_
      refine z_lsub k153_90 ?_
      refine z_goto k153_91 ?_
      refine s_lst5 k153_96 rfl ?_
      refine s_iinc1 k153_98 rfl ?_
      refine z_goto k153_101 ?_
      have k := ih (q + 1) (by omega)
      rw [show ((b + (q + 1) : Nat) : Int) = ((b + q : Nat) : Int) + 1 by omega, wcap (by omega)] at k
      exact k
set_option maxRecDepth 20000 in
theorem lp153d {d : Nat} {σ J : Nat → Int → Int} {P : Int → Nat} {dr : Nat} {Q : mQ} (hs : sig J = σ) (hT : WFt σ) {b e : Nat} {l5 l6 : mV} (hb : b < (σ 127 12).toNat) (he : enS (σ 133) (σ 127 12).toNat isDi b = e) (kx : wp (mcall MT CD (d + 1)) (CD 153) L0 Q 201 [vr 127, vi (e : Int), vi (b : Int), vi (-1), vi (nuF (frS (σ 133) b) (if e - b < 2 then e - b else 2)), l5, l6] [] (S0, J, RR P dr)) : ∀ (g q : Nat), b + q + g = e → wp (mcall MT CD (d + 1)) (CD 153) L0 Q 142 [vr 127, vi ((b + q : Nat) : Int), vi (b : Int), vi (-1), vi (nuF (frS (σ 133) b) (if q < 2 then q else 2)), l5, l6] [] (S0, J, RR P dr) := by
  have hm := hT.1
  have heb := en_b (t := (σ 133)) (f := isDi) (Nat.le_of_lt hb)
  rw [he] at heb
  intro g
  induction g with
  | zero => 
    intro q hq
    refine s_ild k153_142 rfl ?_
    refine s_ald k153_143 rfl ?_
    refine z_getIe (z := σ 127 12) k153_144 rfl (st_s hs rfl) ?_
    refine s_icge k153_147 ⟨by omega, by omega⟩ ⟨by omega, by omega⟩ (fun h147 => ?_) (fun h147 => ?_)
    · rw [show ((b + q : Nat) : Int) = (e : Int) by omega, show q = e - b by omega]
      exact kx
    · have hne := en_at (t := (σ 133)) (m := (σ 127 12).toNat) (f := isDi) (Nat.le_of_lt hb) (by rw [he]; omega)
      rw [he, bDf, show (e : Int) = ((b + q : Nat) : Int) by omega] at hne
      have hbt := hT.2 ((b + q : Nat) : Int) (by omega) (by omega)
      refine s_ald k153_150 rfl ?_
      refine z_getRe (b := 133) k153_151 rfl rr_127_13 ?_
      refine s_ild k153_154 rfl ?_
      refine z_ialde (z := σ 133 ((b + q : Nat) : Int)) k153_155 rfl (by omega) (show ((b + q : Nat) : Int) < ((160 : Nat) : Int) by omega) (st_s hs rfl) ?_
      refine z_push k153_156 ?_
      refine z_push k153_158 ?_
      refine z_sta3A k153_160 (Nat.le_of_ble_eq_true rfl) (c136 ⟨by omega, by omega⟩ (inR_lit rfl) (inR_lit rfl)) ?_
      refine z_ifeqb k153_163 (fun h163 => ?_) (fun q => absurd q hne)
      rw [show ((b + q : Nat) : Int) = (e : Int) by omega, show q = e - b by omega]
      exact kx
  | succ g ih => 
    intro q hq
    refine s_ild k153_142 rfl ?_
    refine s_ald k153_143 rfl ?_
    refine z_getIe (z := σ 127 12) k153_144 rfl (st_s hs rfl) ?_
    refine s_icge k153_147 ⟨by omega, by omega⟩ ⟨by omega, by omega⟩ (fun q => absurd q (by omega)) (fun h147 => ?_)
    have hle := en_all (t := (σ 133)) (m := (σ 127 12).toNat) (f := isDi) (i := b) (q := b + q) (by omega) (by rw [he]; omega)
    rw [bD] at hle
    have hbt := hT.2 ((b + q : Nat) : Int) (by omega) (by omega)
    refine s_ald k153_150 rfl ?_
    refine z_getRe (b := 133) k153_151 rfl rr_127_13 ?_
    refine s_ild k153_154 rfl ?_
    refine z_ialde (z := σ 133 ((b + q : Nat) : Int)) k153_155 rfl (by omega) (show ((b + q : Nat) : Int) < ((160 : Nat) : Int) by omega) (st_s hs rfl) ?_
    refine z_push k153_156 ?_
    refine z_push k153_158 ?_
    refine z_sta3A k153_160 (Nat.le_of_ble_eq_true rfl) (c136 ⟨by omega, by omega⟩ (inR_lit rfl) (inR_lit rfl)) ?_
    refine z_ifeqb k153_163 (fun q => absurd hle q) (fun h163 => ?_)
    refine s_ild k153_166 rfl ?_
    refine s_ild k153_167 rfl ?_
    refine z_isub k153_168 ?_
    refine z_push k153_169 ?_
    refine s_icge k153_170 ⟨by omega, by omega⟩ (inR_lit rfl) (fun h170 => ?_) (fun h170 => ?_)
    · refine s_ild k153_191 rfl ?_
      refine s_ist4 k153_193 rfl ?_
      refine s_iinc1 k153_195 rfl ?_
      refine z_goto k153_198 ?_
      have k := ih (q + 1) (by omega)
      rw [show ((b + (q + 1) : Nat) : Int) = ((b + q : Nat) : Int) + 1 by omega, ncap2 (by omega)] at k
      exact k
    · refine z_push k153_173 ?_
      refine s_ild k153_175 rfl ?_
      refine z_imul k153_177 ?_
      refine s_ald k153_178 rfl ?_
      refine z_getRe (b := 133) k153_179 rfl rr_127_13 ?_
      refine s_ild k153_182 rfl ?_
      refine z_ialde (z := σ 133 ((b + q : Nat) : Int)) k153_183 rfl (by omega) (show ((b + q : Nat) : Int) < ((160 : Nat) : Int) by omega) (st_s hs rfl) ?_
      refine z_iadd k153_184 ?_
      refine z_push k153_185 ?_
      refine z_isub k153_187 ?_
      refine z_goto k153_188 ?_
      refine s_ist4 k153_193 rfl ?_
      refine s_iinc1 k153_195 rfl ?_
      refine z_goto k153_198 ?_
      have k := ih (q + 1) (by omega)
      rw [show ((b + (q + 1) : Nat) : Int) = ((b + q : Nat) : Int) + 1 by omega, ncap (by omega)] at k
      exact k
set_option maxRecDepth 20000 in
theorem t272 {d : Nat} {I σ J : Nat → Int → Int} {P : Int → Nat} {dr : Nat} {Q : mQ} (hs : sig J = σ) (hF : FT I J) {b e n : Nat} {k v : Int} {l5 l6 : mV} (hk : 0 ≤ k ∧ k ≤ 99) (hn : n < 160) (h14 : J 127 14 = n) (hA : TA σ J n) (e1 : k = kiT (σ 133) (σ 127 12).toNat n) (e2 : v = vaT (σ 133) (σ 127 12).toNat n) (e3 : b = plT (σ 133) (σ 127 12).toNat n) (k7 : ∀ J2, sig J2 = σ → FT I J2 → J2 127 14 = ((n + 1 : Nat) : Int) → TA σ J2 (n + 1) → wp (mcall MT CD (d + 1)) (CD 153) L0 Q 7 [vr 127, vi (e : Int), vi (b : Int), vi k, vi v, l5, l6] [] (S0, J2, RR P dr)) : wp (mcall MT CD (d + 1)) (CD 153) L0 Q 272 [vr 127, vi (e : Int), vi (b : Int), vi k, vi v, l5, l6] [] (S0, J, RR P dr) := by
  refine s_ild k153_272 rfl ?_
  refine z_push k153_273 ?_
  refine s_iceq k153_274 ⟨by omega, by omega⟩ (inR_lit rfl) (fun q => absurd q (by omega)) (fun h274 => ?_)
  refine s_ald k153_277 rfl ?_
  refine z_getRe (b := 134) k153_278 rfl rr_127_15 ?_
  refine s_ald k153_281 rfl ?_
  refine z_getIe (z := (n : Int)) k153_282 rfl h14 ?_
  refine s_ild k153_285 rfl ?_
  refine z_iast k153_286 rfl (by omega) (show (n : Int) < ((161 : Nat) : Int) by omega) ?_
  refine s_ald k153_287 rfl ?_
  refine z_getRe (b := 135) k153_288 rfl rr_127_16 ?_
  refine s_ald k153_291 rfl ?_
  refine z_getIe (z := (n : Int)) k153_292 rfl ((up_ne (by decide)).trans h14) ?_
  refine s_ild k153_295 rfl ?_
  refine z_iast k153_297 rfl (by omega) (show (n : Int) < ((161 : Nat) : Int) by omega) ?_
  refine s_ald k153_298 rfl ?_
  refine z_getRe (b := 136) k153_299 rfl rr_127_17 ?_
  refine s_ald k153_302 rfl ?_
  refine z_getIe (z := (n : Int)) k153_303 rfl ((up_ne (by decide)).trans ((up_ne (by decide)).trans h14)) ?_
  refine s_ild k153_306 rfl ?_
  refine z_iast k153_307 rfl (by omega) (show (n : Int) < ((161 : Nat) : Int) by omega) ?_
  refine s_ald k153_308 rfl ?_
  refine z_dupr k153_309 ?_
  refine z_getIe (z := (n : Int)) k153_310 rfl ((up_ne (by decide)).trans ((up_ne (by decide)).trans ((up_ne (by decide)).trans h14))) ?_
  refine z_push k153_313 ?_
  refine z_iadd k153_314 ?_
  refine z_putIe (q := 14) k153_315 rfl rfl ?_
  refine z_goto k153_318 ?_
  refine k7 _ ((sig_no rfl).trans ((sig_no rfl).trans ((sig_no rfl).trans ((sig_no rfl).trans hs)))) ((((hF.up (by omega)).up (by omega)).up (by omega)).up (by omega)) (up_at.trans (by omega)) (fun q hq => ?_)
  by_cases c1 : q = n
  · subst c1
    exact ⟨(up_ne (by decide)).trans ((up_ne (by decide)).trans ((up_ne (by decide)).trans (up_at.trans e1))), fun _ => (up_ne (by decide)).trans ((up_ne (by decide)).trans (up_at.trans e2)), (up_ne (by decide)).trans (up_at.trans (by rw [e3]))⟩
  · obtain ⟨a1, a2, a3⟩ := hA q (by omega)
    exact ⟨(up_ne (by decide)).trans ((up_ne (by decide)).trans ((up_ne (by decide)).trans ((up_nk (by omega)).trans a1))), fun u => (up_ne (by decide)).trans ((up_ne (by decide)).trans ((up_nk (by omega)).trans ((up_ne (by decide)).trans (a2 u)))), (up_ne (by decide)).trans ((up_nk (by omega)).trans ((up_ne (by decide)).trans ((up_ne (by decide)).trans a3)))⟩
theorem pw27 {k : Nat} (h : k ≤ 8) : (27 : Int) ^ k ≤ 7625597484987 := by
  have key : ∀ k, k < 9 → (27 : Int) ^ k ≤ 7625597484987 := by decide +kernel
  exact key k (by omega)
set_option maxRecDepth 20000 in
theorem lp153 {d : Nat} {I σ : Nat → Int → Int} {P : Int → Nat} {dr : Nat} (hT : WFt σ) : ∀ (g i n : Nat) (J : Nat → Int → Int) (l2 l3 l4 l5 l6 : mV), (σ 127 12).toNat - i ≤ g → i ≤ (σ 127 12).toNat → n ≤ i → (∀ q, q < n → plT (σ 133) (σ 127 12).toNat q < (σ 127 12).toNat) → enS (σ 133) (σ 127 12).toNat isBl i = plT (σ 133) (σ 127 12).toNat n → sig J = σ → FT I J → J 127 14 = (n : Int) → TA σ J n → wp (mcall MT CD (d + 1)) (CD 153) L0 (fun o h => o = none ∧ ∃ J, h = (S0, J, RR P dr) ∧ sig J = σ ∧ FT I J ∧ ∃ n : Nat, n ≤ 160 ∧ (∀ q, q < n → plT (σ 133) (σ 127 12).toNat q < (σ 127 12).toNat) ∧ ¬ plT (σ 133) (σ 127 12).toNat n < (σ 127 12).toNat ∧ TA σ J (n + 1)) 7 [vr 127, vi (i : Int), l2, l3, l4, l5, l6] [] (S0, J, RR P dr) := by
  intro g
  induction g with
  | zero =>
    intro i n J l2 l3 l4 l5 l6 hg hi hni hq0 hbl hs hF h14 hA
    have hm := hT.1
    refine s_ild k153_7 rfl ?_
    refine s_ald k153_8 rfl ?_
    refine z_getIe (z := σ 127 12) k153_9 rfl (st_s hs rfl) ?_
    refine s_icge k153_12 ⟨by omega, by omega⟩ ⟨by omega, by omega⟩ (fun h12 => ?_) (fun q => absurd q (by omega))
    refine s_ald k153_321 rfl ?_
    refine z_getRe (b := 134) k153_322 rfl rr_127_15 ?_
    refine s_ald k153_325 rfl ?_
    refine z_getIe (z := (n : Int)) k153_326 rfl h14 ?_
    refine z_push k153_329 ?_
    refine z_iast k153_331 rfl (by omega) (show (n : Int) < ((161 : Nat) : Int) by omega) ?_
    refine s_ald k153_332 rfl ?_
    refine z_getRe (b := 136) k153_333 rfl rr_127_17 ?_
    refine s_ald k153_336 rfl ?_
    refine z_getIe (z := (n : Int)) k153_337 rfl ((up_ne (by decide)).trans h14) ?_
    refine s_ald k153_340 rfl ?_
    refine z_getIe (z := σ 127 12) k153_341 rfl ((up_ne (by decide)).trans (st_s hs rfl)) ?_
    refine z_iast k153_344 rfl (by omega) (show (n : Int) < ((161 : Nat) : Int) by omega) ?_
    have hin : ¬ plT (σ 133) (σ 127 12).toNat n < (σ 127 12).toNat := by
      rw [← hbl, show i = (σ 127 12).toNat by omega, en_end]
      omega
    have hple := (pl_le (t := σ 133) (m := (σ 127 12).toNat) (k := n)).2
    refine z_vret k153_345 ⟨rfl, _, rfl, (sig_no rfl).trans ((sig_no rfl).trans hs), (hF.up (by omega)).up (by omega), n, by omega, hq0, hin, fun q hq => ?_⟩
    by_cases c1 : q = n
    · subst c1
      refine ⟨(up_ne (by decide)).trans (up_at.trans ?_), fun u => absurd u hin, up_at.trans ?_⟩
      · unfold kiT
        rw [if_neg hin]
      · omega
    · obtain ⟨a1, a2, a3⟩ := hA q (by omega)
      exact ⟨(up_ne (by decide)).trans ((up_nk (by omega)).trans a1), fun u => (up_ne (by decide)).trans ((up_ne (by decide)).trans (a2 u)), (up_nk (by omega)).trans ((up_ne (by decide)).trans a3)⟩
  | succ g ih =>
    intro i n J l2 l3 l4 l5 l6 hg hi hni hq0 hbl hs hF h14 hA
    have hm := hT.1
    by_cases ci : i = (σ 127 12).toNat
    · refine s_ild k153_7 rfl ?_
      refine s_ald k153_8 rfl ?_
      refine z_getIe (z := σ 127 12) k153_9 rfl (st_s hs rfl) ?_
      refine s_icge k153_12 ⟨by omega, by omega⟩ ⟨by omega, by omega⟩ (fun h12 => ?_) (fun q => absurd q (by omega))
      refine s_ald k153_321 rfl ?_
      refine z_getRe (b := 134) k153_322 rfl rr_127_15 ?_
      refine s_ald k153_325 rfl ?_
      refine z_getIe (z := (n : Int)) k153_326 rfl h14 ?_
      refine z_push k153_329 ?_
      refine z_iast k153_331 rfl (by omega) (show (n : Int) < ((161 : Nat) : Int) by omega) ?_
      refine s_ald k153_332 rfl ?_
      refine z_getRe (b := 136) k153_333 rfl rr_127_17 ?_
      refine s_ald k153_336 rfl ?_
      refine z_getIe (z := (n : Int)) k153_337 rfl ((up_ne (by decide)).trans h14) ?_
      refine s_ald k153_340 rfl ?_
      refine z_getIe (z := σ 127 12) k153_341 rfl ((up_ne (by decide)).trans (st_s hs rfl)) ?_
      refine z_iast k153_344 rfl (by omega) (show (n : Int) < ((161 : Nat) : Int) by omega) ?_
      have hin : ¬ plT (σ 133) (σ 127 12).toNat n < (σ 127 12).toNat := by
        rw [← hbl, show i = (σ 127 12).toNat by omega, en_end]
        omega
      have hple := (pl_le (t := σ 133) (m := (σ 127 12).toNat) (k := n)).2
      refine z_vret k153_345 ⟨rfl, _, rfl, (sig_no rfl).trans ((sig_no rfl).trans hs), (hF.up (by omega)).up (by omega), n, by omega, hq0, hin, fun q hq => ?_⟩
      by_cases c1 : q = n
      · subst c1
        refine ⟨(up_ne (by decide)).trans (up_at.trans ?_), fun u => absurd u hin, up_at.trans ?_⟩
        · unfold kiT
          rw [if_neg hin]
        · omega
      · obtain ⟨a1, a2, a3⟩ := hA q (by omega)
        exact ⟨(up_ne (by decide)).trans ((up_nk (by omega)).trans a1), fun u => (up_ne (by decide)).trans ((up_ne (by decide)).trans (a2 u)), (up_nk (by omega)).trans ((up_ne (by decide)).trans a3)⟩
    · refine s_ild k153_7 rfl ?_
      refine s_ald k153_8 rfl ?_
      refine z_getIe (z := σ 127 12) k153_9 rfl (st_s hs rfl) ?_
      refine s_icge k153_12 ⟨by omega, by omega⟩ ⟨by omega, by omega⟩ (fun q => absurd q (by omega)) (fun h12 => ?_)
      have hbt0 := hT.2 (i : Int) (by omega) (by omega)
      refine s_ild k153_15 rfl ?_
      refine s_ist2 k153_16 rfl ?_
      refine z_push k153_17 ?_
      refine s_ist3 k153_18 rfl ?_
      refine z_push k153_19 ?_
      refine s_ist4 k153_20 rfl ?_
      refine s_ald k153_22 rfl ?_
      refine z_getRe (b := 133) k153_23 rfl rr_127_13 ?_
      refine s_ild k153_26 rfl ?_
      refine z_ialde (z := σ 133 (i : Int)) k153_27 rfl (by omega) (show (i : Int) < ((160 : Nat) : Int) by omega) (st_s hs rfl) ?_
      refine z_push k153_28 ?_
      refine z_push k153_30 ?_
      refine z_sta3A k153_32 (Nat.le_of_ble_eq_true rfl) (c136 ⟨by omega, by omega⟩ (inR_lit rfl) (inR_lit rfl)) ?_
      refine z_ifeqb k153_35 (fun h35 => ?_) (fun h35 => ?_)
      · refine s_ald k153_126 rfl ?_
        refine z_getRe (b := 133) k153_127 rfl rr_127_13 ?_
        refine s_ild k153_130 rfl ?_
        refine z_ialde (z := σ 133 (i : Int)) k153_131 rfl (by omega) (show (i : Int) < ((160 : Nat) : Int) by omega) (st_s hs rfl) ?_
        refine z_push k153_132 ?_
        refine z_push k153_134 ?_
        refine z_sta3A k153_136 (Nat.le_of_ble_eq_true rfl) (c136 ⟨by omega, by omega⟩ (inR_lit rfl) (inR_lit rfl)) ?_
        refine z_ifeqb k153_139 (fun h139 => ?_) (fun h139 => ?_)
        · refine s_ald k153_219 rfl ?_
          refine z_getRe (b := 133) k153_220 rfl rr_127_13 ?_
          refine s_ild k153_223 rfl ?_
          refine z_ialde (z := σ 133 (i : Int)) k153_224 rfl (by omega) (show (i : Int) < ((160 : Nat) : Int) by omega) (st_s hs rfl) ?_
          refine z_push k153_225 ?_
          refine s_icne k153_227 ⟨by omega, by omega⟩ (inR_lit rfl) (fun h227 => ?_) (fun h227 => ?_)
          · refine s_ald k153_235 rfl ?_
            refine z_getRe (b := 133) k153_236 rfl rr_127_13 ?_
            refine s_ild k153_239 rfl ?_
            refine z_ialde (z := σ 133 (i : Int)) k153_240 rfl (by omega) (show (i : Int) < ((160 : Nat) : Int) by omega) (st_s hs rfl) ?_
            refine z_push k153_241 ?_
            refine s_icne k153_243 ⟨by omega, by omega⟩ (inR_lit rfl) (fun h243 => ?_) (fun h243 => ?_)
            · refine s_ald k153_251 rfl ?_
              refine z_getRe (b := 133) k153_252 rfl rr_127_13 ?_
              refine s_ild k153_255 rfl ?_
              refine z_ialde (z := σ 133 (i : Int)) k153_256 rfl (by omega) (show (i : Int) < ((160 : Nat) : Int) by omega) (st_s hs rfl) ?_
              refine z_push k153_257 ?_
              refine s_icne k153_259 ⟨by omega, by omega⟩ (inR_lit rfl) (fun h259 => ?_) (fun h259 => ?_)
              · refine z_push k153_266 ?_
                refine s_ist3 k153_268 rfl ?_
                refine s_iinc1 k153_269 rfl ?_
                have hnb : isBl (σ 133 (i : Int)) = false := bBf.mpr (by omega)
                have hpi : plT (σ 133) (σ 127 12).toNat n = i := by rw [← hbl, en_stop (by omega) hnb]
                have hpn : plT (σ 133) (σ 127 12).toNat n < (σ 127 12).toNat := by rw [hpi]; omega
                have htb := tk_b (t := σ 133) (show i < (σ 127 12).toNat by omega)
                have hps : psT (σ 133) (σ 127 12).toNat (n + 1) = tkE (σ 133) (σ 127 12).toNat i := by rw [ps_s, if_pos hpn, hpi]
                have hq1 : ∀ q, q < n + 1 → plT (σ 133) (σ 127 12).toNat q < (σ 127 12).toNat := fun q hq => by
                  by_cases c1 : q = n
                  · rw [c1]; exact hpn
                  · exact hq0 q (by omega)
                have k7 : ∀ (e : Nat) (k v : Int) (x y : mV), e = tkE (σ 133) (σ 127 12).toNat i → ∀ J2, sig J2 = σ → FT I J2 → J2 127 14 = ((n + 1 : Nat) : Int) → TA σ J2 (n + 1) → wp (mcall MT CD (d + 1)) (CD 153) L0 (fun o h => o = none ∧ ∃ J, h = (S0, J, RR P dr) ∧ sig J = σ ∧ FT I J ∧ ∃ n : Nat, n ≤ 160 ∧ (∀ q, q < n → plT (σ 133) (σ 127 12).toNat q < (σ 127 12).toNat) ∧ ¬ plT (σ 133) (σ 127 12).toNat n < (σ 127 12).toNat ∧ TA σ J (n + 1)) 7 [vr 127, vi (e : Int), vi (i : Int), vi k, vi v, x, y] [] (S0, J2, RR P dr) := fun e k v x y he J2 g1 g2 g3 g4 => ih e (n + 1) J2 _ _ _ _ _ (by omega) (by omega) (by omega) hq1 (by rw [he, ← hps]) g1 g2 g3 g4
                have hki : kiT (σ 133) (σ 127 12).toNat n = kdS (σ 133) (σ 127 12).toNat i := by unfold kiT; rw [if_pos hpn, hpi]
                have hva : vaT (σ 133) (σ 127 12).toNat n = vlS (σ 133) (σ 127 12).toNat i := by unfold vaT; rw [if_pos hpn, hpi]
                have hkr := (ki_v (t := σ 133) (m := (σ 127 12).toNat) (k := n)).1
                have hlt : isLe (σ 133 (i : Int)) = false := bLf.mpr h35
                have hdt : isDi (σ 133 (i : Int)) = false := bDf.mpr h139
                have hte : tkE (σ 133) (σ 127 12).toNat i = i + 1 := by unfold tkE; rw [if_neg (by rw [hlt]; decide), if_neg (by rw [hdt]; decide)]
                exact t272 (e := i + 1) hs hF (by omega) (by omega) h14 hA (by rw [hki, kd_ot hlt hdt, if_neg (by omega), if_neg (by omega)]) (by rw [hva]; unfold vlS; rw [if_neg (by rw [hdt]; decide)]) hpi.symm (k7 (i + 1) _ _ _ _ hte.symm)
              · refine z_push k153_262 ?_
                refine z_goto k153_263 ?_
                refine s_ist3 k153_268 rfl ?_
                refine s_iinc1 k153_269 rfl ?_
                refine s_ild k153_272 rfl ?_
                refine z_push k153_273 ?_
                refine s_iceq k153_274 (inR_lit rfl) (inR_lit rfl) (fun _ => ?_) (fun q => absurd q (by decide))
                refine z_goto k153_318 ?_
                have hbt : isBl (σ 133 (i : Int)) = true := bB.mpr (by omega)
                exact ih (i + 1) n J _ _ _ _ _ (by omega) (by omega) (by omega) hq0 (by rw [← hbl, en_step (by omega) hbt]) hs hF h14 hA
            · refine z_push k153_246 ?_
              refine z_goto k153_248 ?_
              refine s_ist3 k153_268 rfl ?_
              refine s_iinc1 k153_269 rfl ?_
              have hnb : isBl (σ 133 (i : Int)) = false := bBf.mpr (by omega)
              have hpi : plT (σ 133) (σ 127 12).toNat n = i := by rw [← hbl, en_stop (by omega) hnb]
              have hpn : plT (σ 133) (σ 127 12).toNat n < (σ 127 12).toNat := by rw [hpi]; omega
              have htb := tk_b (t := σ 133) (show i < (σ 127 12).toNat by omega)
              have hps : psT (σ 133) (σ 127 12).toNat (n + 1) = tkE (σ 133) (σ 127 12).toNat i := by rw [ps_s, if_pos hpn, hpi]
              have hq1 : ∀ q, q < n + 1 → plT (σ 133) (σ 127 12).toNat q < (σ 127 12).toNat := fun q hq => by
                by_cases c1 : q = n
                · rw [c1]; exact hpn
                · exact hq0 q (by omega)
              have k7 : ∀ (e : Nat) (k v : Int) (x y : mV), e = tkE (σ 133) (σ 127 12).toNat i → ∀ J2, sig J2 = σ → FT I J2 → J2 127 14 = ((n + 1 : Nat) : Int) → TA σ J2 (n + 1) → wp (mcall MT CD (d + 1)) (CD 153) L0 (fun o h => o = none ∧ ∃ J, h = (S0, J, RR P dr) ∧ sig J = σ ∧ FT I J ∧ ∃ n : Nat, n ≤ 160 ∧ (∀ q, q < n → plT (σ 133) (σ 127 12).toNat q < (σ 127 12).toNat) ∧ ¬ plT (σ 133) (σ 127 12).toNat n < (σ 127 12).toNat ∧ TA σ J (n + 1)) 7 [vr 127, vi (e : Int), vi (i : Int), vi k, vi v, x, y] [] (S0, J2, RR P dr) := fun e k v x y he J2 g1 g2 g3 g4 => ih e (n + 1) J2 _ _ _ _ _ (by omega) (by omega) (by omega) hq1 (by rw [he, ← hps]) g1 g2 g3 g4
              have hki : kiT (σ 133) (σ 127 12).toNat n = kdS (σ 133) (σ 127 12).toNat i := by unfold kiT; rw [if_pos hpn, hpi]
              have hva : vaT (σ 133) (σ 127 12).toNat n = vlS (σ 133) (σ 127 12).toNat i := by unfold vaT; rw [if_pos hpn, hpi]
              have hkr := (ki_v (t := σ 133) (m := (σ 127 12).toNat) (k := n)).1
              have hlt : isLe (σ 133 (i : Int)) = false := bLf.mpr h35
              have hdt : isDi (σ 133 (i : Int)) = false := bDf.mpr h139
              have hte : tkE (σ 133) (σ 127 12).toNat i = i + 1 := by unfold tkE; rw [if_neg (by rw [hlt]; decide), if_neg (by rw [hdt]; decide)]
              exact t272 (e := i + 1) hs hF (by omega) (by omega) h14 hA (by rw [hki, kd_ot hlt hdt, if_neg (by omega), if_pos (by omega)]) (by rw [hva]; unfold vlS; rw [if_neg (by rw [hdt]; decide)]) hpi.symm (k7 (i + 1) _ _ _ _ hte.symm)
          · refine z_push k153_230 ?_
            refine z_goto k153_232 ?_
            refine s_ist3 k153_268 rfl ?_
            refine s_iinc1 k153_269 rfl ?_
            have hnb : isBl (σ 133 (i : Int)) = false := bBf.mpr (by omega)
            have hpi : plT (σ 133) (σ 127 12).toNat n = i := by rw [← hbl, en_stop (by omega) hnb]
            have hpn : plT (σ 133) (σ 127 12).toNat n < (σ 127 12).toNat := by rw [hpi]; omega
            have htb := tk_b (t := σ 133) (show i < (σ 127 12).toNat by omega)
            have hps : psT (σ 133) (σ 127 12).toNat (n + 1) = tkE (σ 133) (σ 127 12).toNat i := by rw [ps_s, if_pos hpn, hpi]
            have hq1 : ∀ q, q < n + 1 → plT (σ 133) (σ 127 12).toNat q < (σ 127 12).toNat := fun q hq => by
              by_cases c1 : q = n
              · rw [c1]; exact hpn
              · exact hq0 q (by omega)
            have k7 : ∀ (e : Nat) (k v : Int) (x y : mV), e = tkE (σ 133) (σ 127 12).toNat i → ∀ J2, sig J2 = σ → FT I J2 → J2 127 14 = ((n + 1 : Nat) : Int) → TA σ J2 (n + 1) → wp (mcall MT CD (d + 1)) (CD 153) L0 (fun o h => o = none ∧ ∃ J, h = (S0, J, RR P dr) ∧ sig J = σ ∧ FT I J ∧ ∃ n : Nat, n ≤ 160 ∧ (∀ q, q < n → plT (σ 133) (σ 127 12).toNat q < (σ 127 12).toNat) ∧ ¬ plT (σ 133) (σ 127 12).toNat n < (σ 127 12).toNat ∧ TA σ J (n + 1)) 7 [vr 127, vi (e : Int), vi (i : Int), vi k, vi v, x, y] [] (S0, J2, RR P dr) := fun e k v x y he J2 g1 g2 g3 g4 => ih e (n + 1) J2 _ _ _ _ _ (by omega) (by omega) (by omega) hq1 (by rw [he, ← hps]) g1 g2 g3 g4
            have hki : kiT (σ 133) (σ 127 12).toNat n = kdS (σ 133) (σ 127 12).toNat i := by unfold kiT; rw [if_pos hpn, hpi]
            have hva : vaT (σ 133) (σ 127 12).toNat n = vlS (σ 133) (σ 127 12).toNat i := by unfold vaT; rw [if_pos hpn, hpi]
            have hkr := (ki_v (t := σ 133) (m := (σ 127 12).toNat) (k := n)).1
            have hlt : isLe (σ 133 (i : Int)) = false := bLf.mpr h35
            have hdt : isDi (σ 133 (i : Int)) = false := bDf.mpr h139
            have hte : tkE (σ 133) (σ 127 12).toNat i = i + 1 := by unfold tkE; rw [if_neg (by rw [hlt]; decide), if_neg (by rw [hdt]; decide)]
            exact t272 (e := i + 1) hs hF (by omega) (by omega) h14 hA (by rw [hki, kd_ot hlt hdt, if_pos (by omega)]) (by rw [hva]; unfold vlS; rw [if_neg (by rw [hdt]; decide)]) hpi.symm (k7 (i + 1) _ _ _ _ hte.symm)
        · have hnb : isBl (σ 133 (i : Int)) = false := bBf.mpr (by omega)
          have hpi : plT (σ 133) (σ 127 12).toNat n = i := by rw [← hbl, en_stop (by omega) hnb]
          have hpn : plT (σ 133) (σ 127 12).toNat n < (σ 127 12).toNat := by rw [hpi]; omega
          have htb := tk_b (t := σ 133) (show i < (σ 127 12).toNat by omega)
          have hps : psT (σ 133) (σ 127 12).toNat (n + 1) = tkE (σ 133) (σ 127 12).toNat i := by rw [ps_s, if_pos hpn, hpi]
          have hq1 : ∀ q, q < n + 1 → plT (σ 133) (σ 127 12).toNat q < (σ 127 12).toNat := fun q hq => by
            by_cases c1 : q = n
            · rw [c1]; exact hpn
            · exact hq0 q (by omega)
          have k7 : ∀ (e : Nat) (k v : Int) (x y : mV), e = tkE (σ 133) (σ 127 12).toNat i → ∀ J2, sig J2 = σ → FT I J2 → J2 127 14 = ((n + 1 : Nat) : Int) → TA σ J2 (n + 1) → wp (mcall MT CD (d + 1)) (CD 153) L0 (fun o h => o = none ∧ ∃ J, h = (S0, J, RR P dr) ∧ sig J = σ ∧ FT I J ∧ ∃ n : Nat, n ≤ 160 ∧ (∀ q, q < n → plT (σ 133) (σ 127 12).toNat q < (σ 127 12).toNat) ∧ ¬ plT (σ 133) (σ 127 12).toNat n < (σ 127 12).toNat ∧ TA σ J (n + 1)) 7 [vr 127, vi (e : Int), vi (i : Int), vi k, vi v, x, y] [] (S0, J2, RR P dr) := fun e k v x y he J2 g1 g2 g3 g4 => ih e (n + 1) J2 _ _ _ _ _ (by omega) (by omega) (by omega) hq1 (by rw [he, ← hps]) g1 g2 g3 g4
          have hki : kiT (σ 133) (σ 127 12).toNat n = kdS (σ 133) (σ 127 12).toNat i := by unfold kiT; rw [if_pos hpn, hpi]
          have hva : vaT (σ 133) (σ 127 12).toNat n = vlS (σ 133) (σ 127 12).toNat i := by unfold vaT; rw [if_pos hpn, hpi]
          have hkr := (ki_v (t := σ 133) (m := (σ 127 12).toNat) (k := n)).1
          have hlt : isLe (σ 133 (i : Int)) = false := bLf.mpr h35
          have hdt : isDi (σ 133 (i : Int)) = true := bD.mpr h139
          have hte : tkE (σ 133) (σ 127 12).toNat i = enS (σ 133) (σ 127 12).toNat isDi i := by unfold tkE; rw [if_neg (by rw [hlt]; decide), if_pos hdt]
          refine lp153d hs hT (b := i) (e := tkE (σ 133) (σ 127 12).toNat i) (by omega) hte.symm ?_ (tkE (σ 133) (σ 127 12).toNat i - i) 0 (by omega)
          refine s_ild k153_201 rfl ?_
          refine s_ild k153_202 rfl ?_
          refine z_isub k153_203 ?_
          refine z_push k153_204 ?_
          refine s_icle k153_205 ⟨by omega, by omega⟩ (inR_lit rfl) (fun h205 => ?_) (fun h205 => ?_)
          · refine z_push k153_213 ?_
            refine s_ist3 k153_215 rfl ?_
            refine z_goto k153_216 ?_
            exact t272 hs hF (by omega) (by omega) h14 hA (by rw [hki, kd_di hlt hdt, if_neg (by omega)]) (by rw [hva]; unfold vlS; rw [if_pos hdt]) hpi.symm (k7 _ _ _ _ _ rfl)
          · refine z_push k153_208 ?_
            refine z_goto k153_210 ?_
            refine s_ist3 k153_215 rfl ?_
            refine z_goto k153_216 ?_
            exact t272 hs hF (by omega) (by omega) h14 hA (by rw [hki, kd_di hlt hdt, if_pos (by omega)]) (by rw [hva]; unfold vlS; rw [if_pos hdt]) hpi.symm (k7 _ _ _ _ _ rfl)
      · refine z_push k153_38 ?_
        refine s_lst5 k153_39 rfl ?_
        have hnb : isBl (σ 133 (i : Int)) = false := bBf.mpr (by omega)
        have hpi : plT (σ 133) (σ 127 12).toNat n = i := by rw [← hbl, en_stop (by omega) hnb]
        have hpn : plT (σ 133) (σ 127 12).toNat n < (σ 127 12).toNat := by rw [hpi]; omega
        have htb := tk_b (t := σ 133) (show i < (σ 127 12).toNat by omega)
        have hps : psT (σ 133) (σ 127 12).toNat (n + 1) = tkE (σ 133) (σ 127 12).toNat i := by rw [ps_s, if_pos hpn, hpi]
        have hq1 : ∀ q, q < n + 1 → plT (σ 133) (σ 127 12).toNat q < (σ 127 12).toNat := fun q hq => by
          by_cases c1 : q = n
          · rw [c1]; exact hpn
          · exact hq0 q (by omega)
        have k7 : ∀ (e : Nat) (k v : Int) (x y : mV), e = tkE (σ 133) (σ 127 12).toNat i → ∀ J2, sig J2 = σ → FT I J2 → J2 127 14 = ((n + 1 : Nat) : Int) → TA σ J2 (n + 1) → wp (mcall MT CD (d + 1)) (CD 153) L0 (fun o h => o = none ∧ ∃ J, h = (S0, J, RR P dr) ∧ sig J = σ ∧ FT I J ∧ ∃ n : Nat, n ≤ 160 ∧ (∀ q, q < n → plT (σ 133) (σ 127 12).toNat q < (σ 127 12).toNat) ∧ ¬ plT (σ 133) (σ 127 12).toNat n < (σ 127 12).toNat ∧ TA σ J (n + 1)) 7 [vr 127, vi (e : Int), vi (i : Int), vi k, vi v, x, y] [] (S0, J2, RR P dr) := fun e k v x y he J2 g1 g2 g3 g4 => ih e (n + 1) J2 _ _ _ _ _ (by omega) (by omega) (by omega) hq1 (by rw [he, ← hps]) g1 g2 g3 g4
        have hki : kiT (σ 133) (σ 127 12).toNat n = kdS (σ 133) (σ 127 12).toNat i := by unfold kiT; rw [if_pos hpn, hpi]
        have hva : vaT (σ 133) (σ 127 12).toNat n = vlS (σ 133) (σ 127 12).toNat i := by unfold vaT; rw [if_pos hpn, hpi]
        have hkr := (ki_v (t := σ 133) (m := (σ 127 12).toNat) (k := n)).1
        have hlt : isLe (σ 133 (i : Int)) = true := bL.mpr h35
        have hte : tkE (σ 133) (σ 127 12).toNat i = enS (σ 133) (σ 127 12).toNat isLe i := by unfold tkE; rw [if_pos hlt]
        refine lp153w hs hT (b := i) (e := tkE (σ 133) (σ 127 12).toNat i) (by omega) hte.symm ?_ (tkE (σ 133) (σ 127 12).toNat i - i) 0 (by omega)
        have hle : ∀ q, q < tkE (σ 133) (σ 127 12).toNat i - i → 97 ≤ frS (σ 133) i q ∧ frS (σ 133) i q ≤ 122 := fun q hq => bL.mp (en_all (t := σ 133) (m := (σ 127 12).toNat) (f := isLe) (i := i) (q := i + q) (by omega) (by rw [← hte]; omega))
        refine s_ild k153_104 rfl ?_
        refine s_ild k153_105 rfl ?_
        refine z_isub k153_106 ?_
        refine z_push k153_107 ?_
        refine s_icle k153_109 ⟨by omega, by omega⟩ (inR_lit rfl) (fun h109 => ?_) (fun h109 => ?_)
        · refine s_lld k153_117 rfl ?_
          refine z_sta1A k153_119 (Nat.le_of_ble_eq_true rfl) (c152 (wc_nn _ (fun q hq => hle q (by split at hq <;> omega))) (Int.lt_of_lt_of_le (wc_ub _ (fun q hq => hle q (by split at hq <;> omega))) (by rw [if_pos (by omega)]; exact pw27 (by omega)))) ?_
          refine s_ist3 k153_122 rfl ?_
          refine z_goto k153_123 ?_
          have ek : woS (wcF (frS (σ 133) i) (if tkE (σ 133) (σ 127 12).toNat i - i < 9 then tkE (σ 133) (σ 127 12).toNat i - i else 9)) = kiT (σ 133) (σ 127 12).toNat n := by rw [hki]; unfold kdS; rw [if_pos hlt, if_neg (show ¬ 8 < tkE (σ 133) (σ 127 12).toNat i - i by omega), if_pos (show tkE (σ 133) (σ 127 12).toNat i - i < 9 by omega)]
          exact t272 hs hF (by rw [ek]; exact hkr) (by omega) h14 hA ek (by rw [hva]; unfold vlS; rw [if_neg (by rw [le_di hlt]; decide)]) hpi.symm (k7 _ _ _ _ _ rfl)
        · refine z_push k153_112 ?_
          refine z_goto k153_114 ?_
          refine s_ist3 k153_122 rfl ?_
          refine z_goto k153_123 ?_
          exact t272 hs hF (by omega) (by omega) h14 hA (by rw [hki]; unfold kdS; rw [if_pos hlt, if_pos (by omega)]) (by rw [hva]; unfold vlS; rw [if_neg (by rw [le_di hlt]; decide)]) hpi.symm (k7 _ _ _ _ _ rfl)
set_option maxRecDepth 20000 in
theorem c153 {d : Nat} {I : Nat → Int → Int} {P : Int → Nat} {dr : Nat} {σ : Nat → Int → Int} (hs : sig I = σ) (hT : WFt σ) : cal (d + 2) 153 [vr 127] I P dr (fun o h => o = none ∧ ∃ J, h = (S0, J, RR P dr) ∧ sig J = σ ∧ FT I J ∧ ∃ n : Nat, n ≤ 160 ∧ (∀ q, q < n → plT (σ 133) (σ 127 12).toNat q < (σ 127 12).toNat) ∧ ¬ plT (σ 133) (σ 127 12).toNat n < (σ 127 12).toNat ∧ TA σ J (n + 1)) := by
  refine cal_in (Nat.le_of_ble_eq_true rfl) ?_
  show wp _ _ _ _ 0 [vr 127, vj, vj, vj, vj, vj, vj] [] _
  refine s_ald k153_0 rfl ?_
  refine z_push k153_1 ?_
  refine z_putIe (q := 14) k153_2 rfl rfl ?_
  refine z_push k153_5 ?_
  refine s_ist1 k153_6 rfl ?_
  exact lp153 hT (σ 127 12).toNat 0 0 _ _ _ _ _ _ (by omega) (by omega) (by omega) (fun q hq => absurd hq (by omega)) rfl ((sig_no rfl).trans hs) (FT.rf.up (by omega)) up_at (fun q hq => absurd hq (by omega))
