/-! the reference, watching -/
theorem WFn.tg {σ : Nat → Int → Int} (h : WFn σ) {t : Int} (h0 : 0 ≤ t) (h1 : t < σ 127 2) : (0 ≤ σ 128 t ∧ σ 128 t ≤ 40) ∧ (0 ≤ σ 129 t ∧ σ 129 t ≤ 8) ∧ (0 ≤ σ 130 t ∧ σ 130 t ≤ 3) := h.2.2.2.1 t h0 h1
theorem WFn.mo {σ : Nat → Int → Int} (h : WFn σ) : (-1 ≤ σ 127 6 ∧ σ 127 6 ≤ 3) ∧ (0 ≤ σ 127 7 ∧ σ 127 7 ≤ 11) ∧ (0 ≤ σ 127 8 ∧ σ 127 8 ≤ 11) := ⟨h.2.2.2.2.1, h.2.2.2.2.2.1, h.2.2.2.2.2.2.1⟩
theorem WFn.sk {σ : Nat → Int → Int} (h : WFn σ) {i : Int} (h0 : 0 ≤ i) (h1 : i < 72) : 0 ≤ σ 131 i ∧ σ 131 i ≤ 4 := h.2.2.2.2.2.2.2.2.1 i h0 h1
set_option maxRecDepth 20000 in
theorem c169 {d : Nat} {I : Nat → Int → Int} {P : Int → Nat} {dr : Nat} {σ : Nat → Int → Int} (hs : sig I = σ) (hN : WFn σ) {p j s w : Int} (p0 : 0 ≤ p) (p1 : p < 5) (hp : PlWF σ p) (j0 : 0 ≤ j) (j1 : j < pf σ p 4) (s0 : 0 ≤ s) (s1 : s < 12) (w0 : 0 ≤ w) (w1 : w < 6) : cal (d + 4) 169 [vr 127, vi p, vi j, vi s, vi w] I P dr (ans (vi (b2i (fitS σ w (pf σ p 2) s (ps σ p j 1) (ps σ p j 2) (ps σ p j 3)))) I P dr) := by
  refine cal_in (Nat.le_of_ble_eq_true rfl) ?_
  obtain ⟨⟨t0, t1⟩, hst⟩ : (0 ≤ pf σ p 2 ∧ pf σ p 2 < σ 127 2) ∧ _ := ⟨hp.2.2.1, hp.st j0 j1⟩
  obtain ⟨j3, k0, k1, k2, k3, k4⟩ := hst
  obtain ⟨hm, hr, hg⟩ := hN.tg t0 t1
  have h8 := hN.2.2.1
  have hn := hN.2.1
  show wp _ _ _ _ 0 [vr 127, vi p, vi j, vi s, vi w] [] _
  refine s_ald k169_0 rfl ?_
  refine s_ald k169_1 rfl ?_
  refine z_getRe (b := 138) k169_2 rfl rr_127_22 ?_
  refine z_push k169_5 ?_
  refine s_ild k169_7 rfl ?_
  refine z_imul k169_8 ?_
  refine z_push k169_9 ?_
  refine z_iadd k169_10 ?_
  refine z_ialde (z := pf σ p 2) k169_11 rfl (by omega) (show ((23 * p) + 2) < ((138 : Nat) : Int) by omega) (st_s hs rfl) ?_
  refine s_ild k169_12 rfl ?_
  refine s_ild k169_13 rfl ?_
  refine s_ald k169_15 rfl ?_
  refine s_ild k169_16 rfl ?_
  refine s_ild k169_17 rfl ?_
  refine z_push k169_18 ?_
  refine z_inv3A k169_19 rfl (Nat.le_of_ble_eq_true rfl) (c167 hs (by omega) (by omega) (by omega) (by omega) (by decide) (by decide)) ?_
  refine s_ald k169_22 rfl ?_
  refine s_ild k169_23 rfl ?_
  refine s_ild k169_24 rfl ?_
  refine z_push k169_25 ?_
  refine z_inv3A k169_26 rfl (Nat.le_of_ble_eq_true rfl) (c167 hs (by omega) (by omega) (by omega) (by omega) (by decide) (by decide)) ?_
  refine s_ald k169_29 rfl ?_
  refine s_ild k169_30 rfl ?_
  refine s_ild k169_31 rfl ?_
  refine z_push k169_32 ?_
  refine z_inv3A k169_33 rfl (Nat.le_of_ble_eq_true rfl) (c167 hs (by omega) (by omega) (by omega) (by omega) (by decide) (by decide)) ?_
  refine z_inv6A k169_36 rfl (Nat.le_of_ble_eq_true rfl) (c168 hs t0 (by omega) hm hr hg hn (hN.sk (by omega) (by omega)) hN.mo s0 s1 w0 w1 (by omega) (by omega) (by omega)) ?_
  exact z_zret k169_39 (b2i_01 _) (ans_i rfl)
abbrev brkJ (σ J : Nat → Int → Int) (p : Int) : Nat → Int → Int := upI (upI J 147 p 1) 145 p (if σ 127 31 = 1 ∧ J 147 p = 0 then 0 else 9)
set_option maxRecDepth 20000 in
theorem c187 {d : Nat} {J : Nat → Int → Int} {P : Int → Nat} {dr : Nat} {σ : Nat → Int → Int} (hs : sig J = σ) (ha : 0 ≤ σ 127 31 ∧ σ 127 31 ≤ 1) {p : Int} (p0 : 0 ≤ p) (p1 : p < 5) (hb : J 147 p = 0 ∨ J 147 p = 1) : cal (d + 1) 187 [vr 127, vi p] J P dr (fun o h => o = none ∧ h = (S0, brkJ σ J p, RR P dr)) := by
  refine cal_in (Nat.le_of_ble_eq_true rfl) ?_
  show wp _ _ _ _ 0 [vr 127, vi p, vj] [] _
  refine s_ald k187_0 rfl ?_
  refine z_getIe (z := σ 127 31) k187_1 rfl (st_s hs rfl) ?_
  refine z_push k187_4 ?_
  refine s_icne k187_5 ⟨by omega, by omega⟩ (inR_lit rfl) (fun h5 => ?_) (fun h5 => ?_)
  · refine z_push k187_21 ?_
    refine s_ist2 k187_22 rfl ?_
    refine s_ald k187_23 rfl ?_
    refine z_getRe (b := 147) k187_24 rfl rr_127_34 ?_
    refine s_ild k187_27 rfl ?_
    refine z_push k187_28 ?_
    refine z_bast k187_29 rfl (by omega) (show p < ((5 : Nat) : Int) by omega) (by decide) ?_
    refine s_ald k187_30 rfl ?_
    refine z_getRe (b := 145) k187_31 rfl rr_127_32 ?_
    refine s_ild k187_34 rfl ?_
    refine s_ild k187_35 rfl ?_
    refine s_ifeq k187_36 (inR_lit rfl) (fun _ => ?_) (fun q => absurd q (by decide))
    refine z_push k187_43 ?_
    refine z_iast k187_45 rfl (by omega) (show p < ((5 : Nat) : Int) by omega) ?_
    exact z_vret k187_46 ⟨rfl, by unfold brkJ; first | rw [if_pos (by omega)] | rw [if_neg (by omega)]⟩
  · refine s_ald k187_8 rfl ?_
    refine z_getRe (b := 147) k187_9 rfl rr_127_34 ?_
    refine s_ild k187_12 rfl ?_
    refine z_bald k187_13 rfl (by omega) (show p < ((5 : Nat) : Int) by omega) ?_
    refine s_ifne k187_14 ⟨by omega, by omega⟩ (fun h14 => ?_) (fun h14 => ?_)
    · refine z_push k187_21 ?_
      refine s_ist2 k187_22 rfl ?_
      refine s_ald k187_23 rfl ?_
      refine z_getRe (b := 147) k187_24 rfl rr_127_34 ?_
      refine s_ild k187_27 rfl ?_
      refine z_push k187_28 ?_
      refine z_bast k187_29 rfl (by omega) (show p < ((5 : Nat) : Int) by omega) (by decide) ?_
      refine s_ald k187_30 rfl ?_
      refine z_getRe (b := 145) k187_31 rfl rr_127_32 ?_
      refine s_ild k187_34 rfl ?_
      refine s_ild k187_35 rfl ?_
      refine s_ifeq k187_36 (inR_lit rfl) (fun _ => ?_) (fun q => absurd q (by decide))
      refine z_push k187_43 ?_
      refine z_iast k187_45 rfl (by omega) (show p < ((5 : Nat) : Int) by omega) ?_
      exact z_vret k187_46 ⟨rfl, by unfold brkJ; first | rw [if_pos (by omega)] | rw [if_neg (by omega)]⟩
    · refine z_push k187_17 ?_
      refine z_goto k187_18 ?_
      refine s_ist2 k187_22 rfl ?_
      refine s_ald k187_23 rfl ?_
      refine z_getRe (b := 147) k187_24 rfl rr_127_34 ?_
      refine s_ild k187_27 rfl ?_
      refine z_push k187_28 ?_
      refine z_bast k187_29 rfl (by omega) (show p < ((5 : Nat) : Int) by omega) (by decide) ?_
      refine s_ald k187_30 rfl ?_
      refine z_getRe (b := 145) k187_31 rfl rr_127_32 ?_
      refine s_ild k187_34 rfl ?_
      refine s_ild k187_35 rfl ?_
      refine s_ifeq k187_36 (inR_lit rfl) (fun q => absurd q (by decide)) (fun _ => ?_)
      refine z_push k187_39 ?_
      refine z_goto k187_40 ?_
      refine z_iast k187_45 rfl (by omega) (show p < ((5 : Nat) : Int) by omega) ?_
      exact z_vret k187_46 ⟨rfl, by unfold brkJ; first | rw [if_pos (by omega)] | rw [if_neg (by omega)]⟩
theorem last_s {σ : Nat → Int → Int} {t : Int} {k : Nat} : lastS σ t (k + 1) = if airS σ t k ≤ σ 129 t then (k : Int) else lastS σ t k := rfl
set_option maxRecDepth 20000 in
theorem lp188 {d : Nat} {I σ : Nat → Int → Int} {P : Int → Nat} {dr : Nat} (hs : sig I = σ) (hN : WFn σ) {p : Int} (p0 : 0 ≤ p) (p1 : p < 5) (hp : PlWF σ p) : ∀ (m i : Nat), (i : Int) + m = σ 127 0 → wp (mcall MT CD (d + 2)) (CD 188) L0 (ans (vi (lastS σ (pf σ p 2) (σ 127 0).toNat)) I P dr) 4 [vr 127, vi p, vi (lastS σ (pf σ p 2) i), vi (i : Int)] [] (S0, I, RR P dr) := by
  intro m
  induction m with
  | zero => 
    intro i hi
    obtain ⟨t0, t1⟩ := hp.2.2.1
    obtain ⟨hm, hr, hg⟩ := hN.tg t0 t1
    have h8 := hN.2.2.1
    have hn := hN.2.1
    have hnn := hN.1
    refine s_ild k188_4 rfl ?_
    refine s_ald k188_5 rfl ?_
    refine z_getIe (z := σ 127 0) k188_6 rfl (st_s hs rfl) ?_
    refine s_icge k188_9 ⟨by omega, by omega⟩ ⟨by omega, by omega⟩ (fun h9 => ?_) (fun q => absurd q (by omega))
    refine s_ild k188_43 rfl ?_
    exact z_iret k188_44 (ans_i (by congr 1; omega))
  | succ m ih => 
    intro i hi
    obtain ⟨t0, t1⟩ := hp.2.2.1
    obtain ⟨hm, hr, hg⟩ := hN.tg t0 t1
    have h8 := hN.2.2.1
    have hn := hN.2.1
    have hnn := hN.1
    refine s_ild k188_4 rfl ?_
    refine s_ald k188_5 rfl ?_
    refine z_getIe (z := σ 127 0) k188_6 rfl (st_s hs rfl) ?_
    refine s_icge k188_9 ⟨by omega, by omega⟩ ⟨by omega, by omega⟩ (fun q => absurd q (by omega)) (fun h9 => ?_)
    refine s_ald k188_12 rfl ?_
    refine s_ald k188_13 rfl ?_
    refine z_getRe (b := 138) k188_14 rfl rr_127_22 ?_
    refine z_push k188_17 ?_
    refine s_ild k188_19 rfl ?_
    refine z_imul k188_20 ?_
    refine z_push k188_21 ?_
    refine z_iadd k188_22 ?_
    refine z_ialde (z := pf σ p 2) k188_23 rfl (by omega) (show ((23 * p) + 2) < ((138 : Nat) : Int) by omega) (st_s hs rfl) ?_
    refine s_ild k188_24 rfl ?_
    refine z_inv2A k188_25 rfl (Nat.le_of_ble_eq_true rfl) (c144 hs t0 (by omega) hm hr hn (by omega) (by omega)) ?_
    refine z_ifeqb k188_28 (fun h28 => ?_) (fun h28 => ?_)
    · refine s_ild k188_35 rfl ?_
      refine s_ist2 k188_36 rfl ?_
      refine s_iinc3 k188_37 rfl ?_
      refine z_goto k188_40 ?_
      have e := ih (i + 1) (by omega)
      rw [last_s] at e
      first | (rw [if_pos h28] at e; exact e) | (rw [if_neg h28] at e; exact e)
    · refine s_ild k188_31 rfl ?_
      refine z_goto k188_32 ?_
      refine s_ist2 k188_36 rfl ?_
      refine s_iinc3 k188_37 rfl ?_
      refine z_goto k188_40 ?_
      have e := ih (i + 1) (by omega)
      rw [last_s] at e
      first | (rw [if_pos h28] at e; exact e) | (rw [if_neg h28] at e; exact e)
set_option maxRecDepth 20000 in
theorem c188 {d : Nat} {I : Nat → Int → Int} {P : Int → Nat} {dr : Nat} {σ : Nat → Int → Int} (hs : sig I = σ) (hN : WFn σ) {p : Int} (p0 : 0 ≤ p) (p1 : p < 5) (hp : PlWF σ p) : cal (d + 3) 188 [vr 127, vi p] I P dr (ans (vi (lastS σ (pf σ p 2) (σ 127 0).toNat)) I P dr) := by
  refine cal_in (Nat.le_of_ble_eq_true rfl) ?_
  show wp _ _ _ _ 0 [vr 127, vi p, vj, vj] [] _
  refine z_push k188_0 ?_
  refine s_ist2 k188_1 rfl ?_
  refine z_push k188_2 ?_
  refine s_ist3 k188_3 rfl ?_
  exact lp188 hs hN p0 p1 hp (σ 127 0).toNat 0 (by have := hN.1; omega)
set_option maxRecDepth 20000 in
theorem c189 {d : Nat} {I : Nat → Int → Int} {P : Int → Nat} {dr : Nat} {σ : Nat → Int → Int} (hs : sig I = σ) (hN : WFn σ) {p s wh : Int} (p0 : 0 ≤ p) (p1 : p < 5) (hp : PlWF σ p) (hst : stOK σ I p) (s0 : 0 ≤ s) (s1 : s < 12) (w0 : 0 ≤ wh) (w1 : wh < 6) : cal (d + 5) 189 [vr 127, vi p, vi s, vi wh] I P dr (ans (vi (b2i (mayS σ I wh s p))) I P dr) := by
  refine cal_in (Nat.le_of_ble_eq_true rfl) ?_
  obtain ⟨hst1, hst2, hst3⟩ := id hst
  have h4 := hp.2.2.2.2.1
  have hnn := hN.1
  show wp _ _ _ _ 0 [vr 127, vi p, vi s, vi wh] [] _
  refine s_ald k189_0 rfl ?_
  refine z_getRe (b := 145) k189_1 rfl rr_127_32 ?_
  refine s_ild k189_4 rfl ?_
  refine z_iald k189_5 rfl (by omega) (show p < ((5 : Nat) : Int) by omega) ?_
  refine z_push k189_6 ?_
  refine s_icgt k189_7 ⟨by omega, by omega⟩ (inR_lit rfl) (fun h7 => ?_) (fun h7 => ?_)
  · refine z_push k189_47 ?_
    exact z_zret k189_48 (by decide) (ans_i (b2i_f (fun q => by have q1 := q.1; have q2 := q.2.1; have q3 := q.2.2.1; have q4 := q.2.2.2; first | omega | exact h44 q3)).symm)
  · have hj : 0 ≤ I 145 p ∧ I 145 p < pf σ p 4 := by omega
    obtain ⟨j3, k0, k1, k2, k3, k4⟩ := hp.st hj.1 hj.2
    refine s_ild k189_10 rfl ?_
    refine s_ald k189_11 rfl ?_
    refine s_ild k189_12 rfl ?_
    refine s_ald k189_13 rfl ?_
    refine z_getRe (b := 145) k189_14 rfl rr_127_32 ?_
    refine s_ild k189_17 rfl ?_
    refine z_iald k189_18 rfl (by omega) (show p < ((5 : Nat) : Int) by omega) ?_
    refine z_push k189_19 ?_
    refine z_inv3A k189_20 rfl (Nat.le_of_ble_eq_true rfl) (c167 hs (by omega) (by omega) (by omega) (by omega) (by decide) (by decide)) ?_
    refine z_iadd k189_23 ?_
    refine s_ald k189_24 rfl ?_
    refine z_getIe (z := σ 127 0) k189_25 rfl (st_s hs rfl) ?_
    refine s_icgt k189_28 ⟨by omega, by omega⟩ ⟨by omega, by omega⟩ (fun h28 => ?_) (fun h28 => ?_)
    · refine z_push k189_47 ?_
      exact z_zret k189_48 (by decide) (ans_i (b2i_f (fun q => by have q1 := q.1; have q2 := q.2.1; have q3 := q.2.2.1; have q4 := q.2.2.2; first | omega | exact h44 q3)).symm)
    · refine s_ald k189_31 rfl ?_
      refine s_ild k189_32 rfl ?_
      refine s_ald k189_33 rfl ?_
      refine z_getRe (b := 145) k189_34 rfl rr_127_32 ?_
      refine s_ild k189_37 rfl ?_
      refine z_iald k189_38 rfl (by omega) (show p < ((5 : Nat) : Int) by omega) ?_
      refine s_ild k189_39 rfl ?_
      refine s_ild k189_40 rfl ?_
      refine z_inv4A k189_41 rfl (Nat.le_of_ble_eq_true rfl) (c169 hs hN p0 p1 hp (by omega) (by omega) s0 s1 w0 w1) ?_
      refine z_ifneb k189_44 (fun h44 => ?_) (fun h44 => ?_)
      · refine s_ald k189_49 rfl ?_
        refine z_getRe (b := 145) k189_50 rfl rr_127_32 ?_
        refine s_ild k189_53 rfl ?_
        refine z_iald k189_54 rfl (by omega) (show p < ((5 : Nat) : Int) by omega) ?_
        refine s_ifeq k189_55 ⟨by omega, by omega⟩ (fun h55 => ?_) (fun h55 => ?_)
        · refine z_push k189_81 ?_
          refine z_goto k189_82 ?_
          exact z_zret k189_86 (by decide) (ans_i (b2i_t ⟨by omega, by omega, h44, by omega⟩).symm)
        · refine s_ild k189_58 rfl ?_
          refine s_ald k189_59 rfl ?_
          refine z_getRe (b := 146) k189_60 rfl rr_127_33 ?_
          refine s_ild k189_63 rfl ?_
          refine z_iald k189_64 rfl (by omega) (show p < ((5 : Nat) : Int) by omega) ?_
          refine z_isub k189_65 ?_
          refine s_ald k189_66 rfl ?_
          refine s_ild k189_67 rfl ?_
          refine s_ald k189_68 rfl ?_
          refine z_getRe (b := 145) k189_69 rfl rr_127_32 ?_
          refine s_ild k189_72 rfl ?_
          refine z_iald k189_73 rfl (by omega) (show p < ((5 : Nat) : Int) by omega) ?_
          refine z_push k189_74 ?_
          refine z_inv3A k189_75 rfl (Nat.le_of_ble_eq_true rfl) (c167 hs (by omega) (by omega) (by omega) (by omega) (by decide) (by decide)) ?_
          refine s_iclt k189_78 ⟨by omega, by omega⟩ ⟨by omega, by omega⟩ (fun h78 => ?_) (fun h78 => ?_)
          · refine z_push k189_85 ?_
            exact z_zret k189_86 (by decide) (ans_i (b2i_f (fun q => by have q1 := q.1; have q2 := q.2.1; have q3 := q.2.2.1; have q4 := q.2.2.2; first | omega | exact h44 q3)).symm)
          · refine z_push k189_81 ?_
            refine z_goto k189_82 ?_
            exact z_zret k189_86 (by decide) (ans_i (b2i_t ⟨by omega, by omega, h44, by omega⟩).symm)
      · refine z_push k189_47 ?_
        exact z_zret k189_48 (by decide) (ans_i (b2i_f (fun q => by have q1 := q.1; have q2 := q.2.1; have q3 := q.2.2.1; have q4 := q.2.2.2; first | omega | exact h44 q3)).symm)
theorem last_b {σ : Nat → Int → Int} {t : Int} : ∀ k : Nat, -1 ≤ lastS σ t k ∧ lastS σ t k < k
  | 0 => ⟨by show (-1 : Int) ≤ -1; decide, by show (-1 : Int) < 0; decide⟩
  | k + 1 => by
    have := last_b (σ := σ) (t := t) k
    unfold lastS
    split <;> omega
set_option maxRecDepth 20000 in
theorem c190 {d : Nat} {I : Nat → Int → Int} {P : Int → Nat} {dr : Nat} {σ : Nat → Int → Int} (hs : sig I = σ) (hN : WFn σ) {r p q s : Int} (r0 : 0 ≤ r) (r1 : r ≤ 2) (p0 : 0 ≤ p) (p1 : p < 5) (hp : PlWF σ p) (q0 : 0 ≤ q) (q1 : q < 5) (hq : PlWF σ q) (s0 : 0 ≤ s) (s1 : s < 12) : cal (d + 4) 190 [vr 127, vi r, vi p, vi q, vi s] I P dr (ans (vi (b2i (rkS σ r s p < rkS σ r s q))) I P dr) := by
  refine cal_in (Nat.le_of_ble_eq_true rfl) ?_
  obtain ⟨t0, t1⟩ := hp.2.2.1
  obtain ⟨u0, u1⟩ := hq.2.2.1
  obtain ⟨hm, hr, hg⟩ := hN.tg t0 t1
  obtain ⟨gm, gr, gg⟩ := hN.tg u0 u1
  have h8 := hN.2.2.1
  have hn := hN.2.1
  have hnn := hN.1
  have v1 := hp.2.2.2.1
  have v2 := hq.2.2.2.1
  have b1 := last_b (σ := σ) (t := pf σ p 2) (σ 127 0).toNat
  have b2 := last_b (σ := σ) (t := pf σ q 2) (σ 127 0).toNat
  have b3 := airS_b (t := pf σ p 2) hm hn (by omega : -1000 ≤ s) (by omega)
  have b4 := airS_b (t := pf σ q 2) gm hn (by omega : -1000 ≤ s) (by omega)
  show wp _ _ _ _ 0 [vr 127, vi r, vi p, vi q, vi s] [] _
  refine s_ild k190_0 rfl ?_
  refine s_ifne k190_1 ⟨by omega, by omega⟩ (fun h1 => ?_) (fun h1 => ?_)
  · refine s_ild k190_23 rfl ?_
    refine z_push k190_24 ?_
    refine s_icne k190_25 ⟨by omega, by omega⟩ (inR_lit rfl) (fun h25 => ?_) (fun h25 => ?_)
    · refine s_ald k190_71 rfl ?_
      refine s_ild k190_72 rfl ?_
      refine z_inv1A k190_73 rfl (Nat.le_of_ble_eq_true rfl) (c188 hs hN (by omega) (by omega) hp) ?_
      refine s_ald k190_76 rfl ?_
      refine s_ild k190_77 rfl ?_
      refine z_inv1A k190_78 rfl (Nat.le_of_ble_eq_true rfl) (c188 hs hN (by omega) (by omega) hq) ?_
      refine s_icge k190_81 ⟨by omega, by omega⟩ ⟨by omega, by omega⟩ (fun h81 => ?_) (fun h81 => ?_)
      · refine z_push k190_88 ?_
        exact z_zret k190_89 (by decide) (ans_i (b2i_f (by unfold rkS; (repeat' split) <;> omega)).symm)
      · refine z_push k190_84 ?_
        refine z_goto k190_85 ?_
        exact z_zret k190_89 (by decide) (ans_i (b2i_t (by unfold rkS; (repeat' split) <;> omega)).symm)
    · refine s_ald k190_28 rfl ?_
      refine s_ald k190_29 rfl ?_
      refine z_getRe (b := 138) k190_30 rfl rr_127_22 ?_
      refine z_push k190_33 ?_
      refine s_ild k190_35 rfl ?_
      refine z_imul k190_36 ?_
      refine z_push k190_37 ?_
      refine z_iadd k190_38 ?_
      refine z_ialde (z := pf σ p 2) k190_39 rfl (by omega) (show ((23 * p) + 2) < ((138 : Nat) : Int) by omega) (st_s hs rfl) ?_
      refine s_ild k190_40 rfl ?_
      refine z_inv2A k190_42 rfl (Nat.le_of_ble_eq_true rfl) (c143 hs t0 (by omega) hm hr hn (by omega) (by omega)) ?_
      refine s_ald k190_45 rfl ?_
      refine s_ald k190_46 rfl ?_
      refine z_getRe (b := 138) k190_47 rfl rr_127_22 ?_
      refine z_push k190_50 ?_
      refine s_ild k190_52 rfl ?_
      refine z_imul k190_53 ?_
      refine z_push k190_54 ?_
      refine z_iadd k190_55 ?_
      refine z_ialde (z := pf σ q 2) k190_56 rfl (by omega) (show ((23 * q) + 2) < ((138 : Nat) : Int) by omega) (st_s hs rfl) ?_
      refine s_ild k190_57 rfl ?_
      refine z_inv2A k190_59 rfl (Nat.le_of_ble_eq_true rfl) (c143 hs u0 (by omega) gm gr hn (by omega) (by omega)) ?_
      refine s_icge k190_62 ⟨by omega, by omega⟩ ⟨by omega, by omega⟩ (fun h62 => ?_) (fun h62 => ?_)
      · refine z_push k190_69 ?_
        exact z_zret k190_70 (by decide) (ans_i (b2i_f (by unfold rkS; (repeat' split) <;> omega)).symm)
      · refine z_push k190_65 ?_
        refine z_goto k190_66 ?_
        exact z_zret k190_70 (by decide) (ans_i (b2i_t (by unfold rkS; (repeat' split) <;> omega)).symm)
  · refine s_ald k190_4 rfl ?_
    refine s_ild k190_5 rfl ?_
    refine z_inv1A k190_6 rfl (Nat.le_of_ble_eq_true rfl) (c165 hs (by omega) (by omega)) ?_
    refine s_ald k190_9 rfl ?_
    refine s_ild k190_10 rfl ?_
    refine z_inv1A k190_11 rfl (Nat.le_of_ble_eq_true rfl) (c165 hs (by omega) (by omega)) ?_
    refine s_icle k190_14 ⟨by omega, by omega⟩ ⟨by omega, by omega⟩ (fun h14 => ?_) (fun h14 => ?_)
    · refine z_push k190_21 ?_
      exact z_zret k190_22 (by decide) (ans_i (b2i_f (by unfold rkS; (repeat' split) <;> omega)).symm)
    · refine z_push k190_17 ?_
      refine z_goto k190_18 ?_
      exact z_zret k190_22 (by decide) (ans_i (b2i_t (by unfold rkS; (repeat' split) <;> omega)).symm)
