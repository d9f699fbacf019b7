/-! reads by their value; debts -/
theorem z_getLe {C : mC} {cd : Nat → mT} {lim : Nat × Nat} {Q : mQ} {pc : Nat} {ls r : List mV} {S : mS} {I : Nat → Int → Int} {R : Nat → Int → Nat} {c k n a : Nat} {z : Int} (hc : cd pc = o_getL c k n) (h0 : (S.2.2 a).1 = c) (h1 : I a k = z) (k9 : wp C cd lim Q n ls (vl z :: r) (S, I, R)) : wp C cd lim Q pc ls (vr a :: r) (S, I, R) := z_getL hc h0 (by rw [h1]; exact k9)
theorem z_lalde {C : mC} {cd : Nat → mT} {lim : Nat × Nat} {Q : mQ} {pc : Nat} {ls r : List mV} {S : mS} {I : Nat → Int → Int} {R : Nat → Int → Nat} {n a : Nat} {i z : Int} (hc : cd pc = o_lald n) (h0 : (S.2.2 a).1 = 22) (h1 : 0 ≤ i) (h2 : i < (S.2.2 a).2) (h3 : I a i = z) (k9 : wp C cd lim Q n ls (vl z :: r) (S, I, R)) : wp C cd lim Q pc ls (vi i :: vr a :: r) (S, I, R) := z_lald hc h0 h1 h2 (by rw [h3]; exact k9)
theorem z_balde {C : mC} {cd : Nat → mT} {lim : Nat × Nat} {Q : mQ} {pc : Nat} {ls r : List mV} {S : mS} {I : Nat → Int → Int} {R : Nat → Int → Nat} {n a : Nat} {i z : Int} (hc : cd pc = o_bald n) (h0 : (S.2.2 a).1 = 21) (h1 : 0 ≤ i) (h2 : i < (S.2.2 a).2) (h3 : I a i = z) (k9 : wp C cd lim Q n ls (vi z :: r) (S, I, R)) : wp C cd lim Q pc ls (vi i :: vr a :: r) (S, I, R) := z_bald hc h0 h1 h2 (by rw [h3]; exact k9)
theorem z_eql {C : mC} {cd : Nat → mT} {lim : Nat × Nat} {Q : mQ} {pc : Nat} {ls r : List mV} {h : mH} {a b : Int} (e : a = b) (k : wp C cd lim Q pc ls (vl b :: r) h) : wp C cd lim Q pc ls (vl a :: r) h := e ▸ k
def sumS (σ : Nat → Int → Int) (a : Nat) : Nat → Int
  | 0 => 0
  | k + 1 => sumS σ a k + σ a k
def debS (σ : Nat → Int → Int) (l : Int) : Int := σ 149 l * sumS σ 150 4 - sumS σ 149 4 * σ 150 l
theorem mul_b {a b A B : Int} (a0 : 0 ≤ a) (a1 : a ≤ A) (b0 : 0 ≤ b) (b1 : b ≤ B) : 0 ≤ a * b ∧ a * b ≤ A * B := ⟨Int.mul_nonneg a0 b0, Int.mul_le_mul a1 b1 b0 (by omega)⟩
theorem deb_b {σ : Nat → Int → Int} {l : Int} (hN : WFn σ) (hL : WFl σ) (l0 : 0 ≤ l) (l1 : l ≤ 3) : -1000000 ≤ debS σ l ∧ debS σ l ≤ 1000000 := by
  have b1 := hN.2.1
  obtain ⟨h1, h2, -⟩ := hL
  have a0 := h1 0 (by decide) (by decide)
  have a1 := h1 1 (by decide) (by decide)
  have a2 := h1 2 (by decide) (by decide)
  have a3 := h1 3 (by decide) (by decide)
  have c0 := h2 0 (by decide) (by decide)
  have c1 := h2 1 (by decide) (by decide)
  have c2 := h2 2 (by decide) (by decide)
  have c3 := h2 3 (by decide) (by decide)
  have al := h1 l l0 (by omega)
  have cl := h2 l l0 (by omega)
  have e1 : sumS σ 150 4 = 0 + σ 150 0 + σ 150 1 + σ 150 2 + σ 150 3 := rfl
  have e2 : sumS σ 149 4 = 0 + σ 149 0 + σ 149 1 + σ 149 2 + σ 149 3 := rfl
  have m1 := mul_b (a := σ 149 l) (b := sumS σ 150 4) (A := 20) (B := 14400) (by omega) (by omega) (by omega) (by omega)
  have m2 := mul_b (a := sumS σ 149 4) (b := σ 150 l) (A := 80) (B := 3600) (by omega) (by omega) (by omega) (by omega)
  unfold debS
  omega
def xDeb (σ : Nat → Int → Int) (l : Int) : mX := (if 0 ≤ l ∧ l ≤ 3 then debS σ l else -2147483648, σ, false)
def nxtS (σ : Nat → Int → Int) : Nat → Int
  | 0 => 0
  | k + 1 => if debS σ (nxtS σ k) < debS σ (k + 1) then (k : Int) + 1 else nxtS σ k
theorem nxt_b {σ : Nat → Int → Int} : ∀ k : Nat, 0 ≤ nxtS σ k ∧ nxtS σ k ≤ k
  | 0 => ⟨Int.le_refl _, Int.le_refl _⟩
  | k + 1 => by
    have := nxt_b (σ := σ) k
    unfold nxtS
    split <;> omega
theorem nxt_s {σ : Nat → Int → Int} {k : Nat} : nxtS σ (k + 1) = if debS σ (nxtS σ k) < debS σ (k + 1) then (k : Int) + 1 else nxtS σ k := rfl
def xNxt (σ : Nat → Int → Int) : mX := (nxtS σ 3, σ, false)
set_option maxRecDepth 20000 in
theorem lp205 {d : Nat} {I σ : Nat → Int → Int} {P : Int → Nat} {dr : Nat} {l : Int} (hs : sig I = σ) (l0 : 0 ≤ l) (l1 : l ≤ 3) : ∀ (m i : Nat), (i : Int) + m = 4 → wp (mcall MT CD (d + 0)) (CD 205) L0 (ans (vi (debS σ l)) I P dr) 7 [vr 127, vi l, vi (sumS σ 150 i), vi (sumS σ 149 i), vi (i : Int)] [] (S0, I, RR P dr) := by
  intro m
  induction m with
  | zero => 
    intro i hi
    refine s_ild k205_7 rfl ?_
    refine z_push k205_9 ?_
    refine s_icge k205_10 ⟨by omega, by omega⟩ (inR_lit rfl) (fun h10 => ?_) (fun q => absurd q (by omega))
    refine s_ald k205_39 rfl ?_
    refine z_getRe (b := 149) k205_40 rfl rr_127_37 ?_
    refine s_ild k205_43 rfl ?_
    refine z_ialde (z := σ 149 l) k205_44 rfl (by omega) (show l < ((4 : Nat) : Int) by omega) (st_s hs rfl) ?_
    refine s_ild k205_45 rfl ?_
    refine z_imul k205_46 ?_
    refine s_ild k205_47 rfl ?_
    refine s_ald k205_48 rfl ?_
    refine z_getRe (b := 150) k205_49 rfl rr_127_38 ?_
    refine s_ild k205_52 rfl ?_
    refine z_ialde (z := σ 150 l) k205_53 rfl (by omega) (show l < ((8 : Nat) : Int) by omega) (st_s hs rfl) ?_
    refine z_imul k205_54 ?_
    refine z_isub k205_55 ?_
    have e : i = 4 := by omega
    subst e
    exact z_iret k205_56 (ans_i rfl)
  | succ m ih => 
    intro i hi
    refine s_ild k205_7 rfl ?_
    refine z_push k205_9 ?_
    refine s_icge k205_10 ⟨by omega, by omega⟩ (inR_lit rfl) (fun q => absurd q (by omega)) (fun h10 => ?_)
    refine s_ild k205_13 rfl ?_
    refine s_ald k205_14 rfl ?_
    refine z_getRe (b := 150) k205_15 rfl rr_127_38 ?_
    refine s_ild k205_18 rfl ?_
    refine z_ialde (z := σ 150 (i : Int)) k205_20 rfl (by omega) (show (i : Int) < ((8 : Nat) : Int) by omega) (st_s hs rfl) ?_
    refine z_iadd k205_21 ?_
    refine s_ist2 k205_22 rfl ?_
    refine s_ild k205_23 rfl ?_
    refine s_ald k205_24 rfl ?_
    refine z_getRe (b := 149) k205_25 rfl rr_127_37 ?_
    refine s_ild k205_28 rfl ?_
    refine z_ialde (z := σ 149 (i : Int)) k205_30 rfl (by omega) (show (i : Int) < ((4 : Nat) : Int) by omega) (st_s hs rfl) ?_
    refine z_iadd k205_31 ?_
    refine s_ist3 k205_32 rfl ?_
    refine s_iinc4 k205_33 rfl ?_
    refine z_goto k205_36 ?_
    exact ih (i + 1) (by omega)
set_option maxRecDepth 20000 in
theorem c205 {d : Nat} {I : Nat → Int → Int} {P : Int → Nat} {dr : Nat} {σ : Nat → Int → Int} {l : Int} (hs : sig I = σ) (l0 : 0 ≤ l) (l1 : l ≤ 3) : cal (d + 1) 205 [vr 127, vi l] I P dr (ans (vi (debS σ l)) I P dr) := by
  refine cal_in (Nat.le_of_ble_eq_true rfl) ?_
  show wp _ _ _ _ 0 [vr 127, vi l, vj, vj, vj] [] _
  refine z_push k205_0 ?_
  refine s_ist2 k205_1 rfl ?_
  refine z_push k205_2 ?_
  refine s_ist3 k205_3 rfl ?_
  refine z_push k205_4 ?_
  refine s_ist4 k205_5 rfl ?_
  exact lp205 hs l0 l1 4 0 (by decide)
set_option maxRecDepth 20000 in
theorem lp53 {d : Nat} {I σ : Nat → Int → Int} {P : Int → Nat} {dr : Nat} {l : Int} (hCl : CRl I σ) (l0 : 0 ≤ l) (l1 : l ≤ 3) : ∀ (m i : Nat), (i : Int) + m = 4 → wp (mcall MT CD (d + 0)) (CD 53) L0 (ans (vi (debS σ l)) I P dr) 7 [vr 123, vi l, vi (sumS σ 150 i), vi (sumS σ 149 i), vi (i : Int)] [] (S0, I, RR P dr) := by
  intro m
  induction m with
  | zero => 
    intro i hi
    refine s_ild k53_7 rfl ?_
    refine z_push k53_9 ?_
    refine s_icge k53_10 ⟨by omega, by omega⟩ (inR_lit rfl) (fun h10 => ?_) (fun q => absurd q (by omega))
    refine s_ald k53_39 rfl ?_
    refine z_getRe (b := 125) k53_40 rfl rr_123_1 ?_
    refine s_ild k53_43 rfl ?_
    refine z_ialde (z := σ 149 l) k53_44 rfl (by omega) (show l < ((4 : Nat) : Int) by omega) (hCl.1 _ (by omega) (by omega)) ?_
    refine s_ild k53_45 rfl ?_
    refine z_imul k53_46 ?_
    refine s_ild k53_47 rfl ?_
    refine s_ald k53_48 rfl ?_
    refine z_getRe (b := 124) k53_49 rfl rr_123_0 ?_
    refine s_ild k53_52 rfl ?_
    refine z_ialde (z := σ 150 l) k53_53 rfl (by omega) (show l < ((8 : Nat) : Int) by omega) (hCl.2.1 _ (by omega) (by omega)) ?_
    refine z_imul k53_54 ?_
    refine z_isub k53_55 ?_
    have e : i = 4 := by omega
    subst e
    exact z_iret k53_56 (ans_i rfl)
  | succ m ih => 
    intro i hi
    refine s_ild k53_7 rfl ?_
    refine z_push k53_9 ?_
    refine s_icge k53_10 ⟨by omega, by omega⟩ (inR_lit rfl) (fun q => absurd q (by omega)) (fun h10 => ?_)
    refine s_ild k53_13 rfl ?_
    refine s_ald k53_14 rfl ?_
    refine z_getRe (b := 124) k53_15 rfl rr_123_0 ?_
    refine s_ild k53_18 rfl ?_
    refine z_ialde (z := σ 150 (i : Int)) k53_20 rfl (by omega) (show (i : Int) < ((8 : Nat) : Int) by omega) (hCl.2.1 _ (by omega) (by omega)) ?_
    refine z_iadd k53_21 ?_
    refine s_ist2 k53_22 rfl ?_
    refine s_ild k53_23 rfl ?_
    refine s_ald k53_24 rfl ?_
    refine z_getRe (b := 125) k53_25 rfl rr_123_1 ?_
    refine s_ild k53_28 rfl ?_
    refine z_ialde (z := σ 149 (i : Int)) k53_30 rfl (by omega) (show (i : Int) < ((4 : Nat) : Int) by omega) (hCl.1 _ (by omega) (by omega)) ?_
    refine z_iadd k53_31 ?_
    refine s_ist3 k53_32 rfl ?_
    refine s_iinc4 k53_33 rfl ?_
    refine z_goto k53_36 ?_
    exact ih (i + 1) (by omega)
set_option maxRecDepth 20000 in
theorem c53 {d : Nat} {I : Nat → Int → Int} {P : Int → Nat} {dr : Nat} {σ : Nat → Int → Int} {l : Int} (hCl : CRl I σ) (l0 : 0 ≤ l) (l1 : l ≤ 3) : cal (d + 1) 53 [vr 123, vi l] I P dr (ans (vi (debS σ l)) I P dr) := by
  refine cal_in (Nat.le_of_ble_eq_true rfl) ?_
  show wp _ _ _ _ 0 [vr 123, vi l, vj, vj, vj] [] _
  refine z_push k53_0 ?_
  refine s_ist2 k53_1 rfl ?_
  refine z_push k53_2 ?_
  refine s_ist3 k53_3 rfl ?_
  refine z_push k53_4 ?_
  refine s_ist4 k53_5 rfl ?_
  exact lp53 hCl l0 l1 4 0 (by decide)
set_option maxRecDepth 20000 in
theorem r206 {d : Nat} {I : Nat → Int → Int} {P : Int → Nat} {dr : Nat} {σ : Nat → Int → Int} (hs : sig I = σ) (hW : WFs σ) {l : Int} (i_l : inR l) : cal (d + 2) 206 [vr 127, vi l] I P dr (refQ (xDeb σ l) I P dr) := by
  refine cal_in (Nat.le_of_ble_eq_true rfl) ?_
  obtain ⟨hN, hT, hP, hA, hL⟩ := id hW
  have b0 := hN.1
  have b1 := hN.2.1
  have b2 := hN.2.2.1
  have b10 := hN.2.2.2.2.2.2.2.1
  show wp _ _ _ _ 0 [vr 127, vi l] [] _
  refine s_ild k206_0 rfl ?_
  refine z_push k206_1 ?_
  refine z_push k206_2 ?_
  refine z_sta3A k206_3 (Nat.le_of_ble_eq_true rfl) (c136 i_l (inR_lit rfl) (inR_lit rfl)) ?_
  refine z_ifeqb k206_6 (fun h6 => ?_) (fun h6 => ?_)
  · refine z_push k206_17 ?_
    refine z_iret k206_20 ⟨I, ?_, rfl, hs, fun _ _ _ => rfl⟩
    unfold xDeb
    rw [if_neg (by omega)]
  · refine s_ald k206_9 rfl ?_
    refine s_ild k206_10 rfl ?_
    refine z_inv1A k206_11 rfl (Nat.le_of_ble_eq_true rfl) (c205 hs (by omega) (by omega)) ?_
    refine z_goto k206_14 ?_
    refine z_iret k206_20 ⟨I, ?_, rfl, hs, fun _ _ _ => rfl⟩
    unfold xDeb
    rw [if_pos (by omega)]
set_option maxRecDepth 20000 in
theorem k123 {d : Nat} {I : Nat → Int → Int} {P : Int → Nat} {dr : Nat} {σ : Nat → Int → Int} (hG : CG I σ P dr) (hW : WFs σ) {l : Int} (i_l : inR l) : cal (d + 2) 123 [vr 16, vi l] I P dr (clsQ (xDeb σ l) I P dr) := by
  refine cal_in (Nat.le_of_ble_eq_true rfl) ?_
  obtain ⟨hN, hT, hP, hA, hL⟩ := id hW
  have b0 := hN.1
  have b1 := hN.2.1
  have b2 := hN.2.2.1
  have b10 := hN.2.2.2.2.2.2.2.1
  obtain ⟨hC, hCt, hcp, hCl, hca⟩ := id hG
  obtain ⟨cn, ct, cg, cmr, cmf, cmt, cw, cT, cS, cW⟩ := id hC
  show wp _ _ _ _ 0 [vr 16, vi l] [] _
  refine s_ild k123_0 rfl ?_
  refine z_push k123_1 ?_
  refine z_push k123_2 ?_
  refine z_sta3A k123_3 (Nat.le_of_ble_eq_true rfl) (c126 i_l (inR_lit rfl) (inR_lit rfl)) ?_
  refine z_ifeqb k123_6 (fun h6 => ?_) (fun h6 => ?_)
  · refine z_push k123_20 ?_
    refine z_iret k123_23 ⟨I, ?_, rfl, hG, KC.rf⟩
    unfold xDeb
    rw [if_neg (by omega)]
  · refine s_ald k123_9 rfl ?_
    refine z_getRe (b := 123) k123_10 rfl rr_16_5 ?_
    refine s_ild k123_13 rfl ?_
    refine z_inv1A k123_14 rfl (Nat.le_of_ble_eq_true rfl) (c53 hCl (by omega) (by omega)) ?_
    refine z_goto k123_17 ?_
    refine z_iret k123_23 ⟨I, ?_, rfl, hG, KC.rf⟩
    unfold xDeb
    rw [if_pos (by omega)]
set_option maxRecDepth 20000 in
theorem lp207 {d : Nat} {I σ : Nat → Int → Int} {P : Int → Nat} {dr : Nat} (hN : WFn σ) (hL : WFl σ) (hs : sig I = σ) : ∀ (m i : Nat), (i : Int) + m = 3 → wp (mcall MT CD (d + 1)) (CD 207) L0 (refQ (xNxt σ) I P dr) 4 [vr 127, vi (nxtS σ i), vi ((i : Int) + 1)] [] (S0, I, RR P dr) := by
  intro m
  induction m with
  | zero => 
    intro i hi
    refine s_ild k207_4 rfl ?_
    refine z_push k207_5 ?_
    refine s_icge k207_6 ⟨by omega, by omega⟩ (inR_lit rfl) (fun h6 => ?_) (fun q => absurd q (by omega))
    refine s_ild k207_34 rfl ?_
    have e : i = 3 := by omega
    subst e
    exact z_iret k207_35 ⟨I, rfl, rfl, hs, fun _ _ _ => rfl⟩
  | succ m ih => 
    intro i hi
    refine s_ild k207_4 rfl ?_
    refine z_push k207_5 ?_
    refine s_icge k207_6 ⟨by omega, by omega⟩ (inR_lit rfl) (fun q => absurd q (by omega)) (fun h6 => ?_)
    have q1 := nxt_b (σ := σ) i
    have q2 := deb_b hN hL (l := nxtS σ i) (by omega) (by omega)
    have q3 := deb_b hN hL (l := (i : Int) + 1) (by omega) (by omega)
    refine s_ald k207_9 rfl ?_
    refine s_ild k207_10 rfl ?_
    refine z_inv1A k207_11 rfl (Nat.le_of_ble_eq_true rfl) (c205 hs (by omega) (by omega)) ?_
    refine s_ald k207_14 rfl ?_
    refine s_ild k207_15 rfl ?_
    refine z_inv1A k207_16 rfl (Nat.le_of_ble_eq_true rfl) (c205 hs (by omega) (by omega)) ?_
    refine s_icle k207_19 ⟨by omega, by omega⟩ ⟨by omega, by omega⟩ (fun h19 => ?_) (fun h19 => ?_)
    · refine s_ild k207_26 rfl ?_
      refine s_ist1 k207_27 rfl ?_
      refine s_iinc2 k207_28 rfl ?_
      refine z_goto k207_31 ?_
      have k := ih (i + 1) (by omega)
      rw [nxt_s (k := i), if_neg (by omega)] at k
      exact k
    · refine s_ild k207_22 rfl ?_
      refine z_goto k207_23 ?_
      refine s_ist1 k207_27 rfl ?_
      refine s_iinc2 k207_28 rfl ?_
      refine z_goto k207_31 ?_
      have k := ih (i + 1) (by omega)
      rw [nxt_s (k := i), if_pos (by omega)] at k
      exact k
set_option maxRecDepth 20000 in
theorem lp54 {d : Nat} {I σ : Nat → Int → Int} {P : Int → Nat} {dr : Nat} (hN : WFn σ) (hL : WFl σ) (hCl : CRl I σ) : ∀ (m i : Nat), (i : Int) + m = 3 → wp (mcall MT CD (d + 1)) (CD 54) L0 (ans (vi (nxtS σ 3)) I P dr) 4 [vr 123, vi (nxtS σ i), vi ((i : Int) + 1)] [] (S0, I, RR P dr) := by
  intro m
  induction m with
  | zero => 
    intro i hi
    refine s_ild k54_4 rfl ?_
    refine z_push k54_5 ?_
    refine s_icge k54_6 ⟨by omega, by omega⟩ (inR_lit rfl) (fun h6 => ?_) (fun q => absurd q (by omega))
    refine s_ild k54_30 rfl ?_
    have e : i = 3 := by omega
    subst e
    exact z_iret k54_31 (ans_i rfl)
  | succ m ih => 
    intro i hi
    refine s_ild k54_4 rfl ?_
    refine z_push k54_5 ?_
    refine s_icge k54_6 ⟨by omega, by omega⟩ (inR_lit rfl) (fun q => absurd q (by omega)) (fun h6 => ?_)
    have q1 := nxt_b (σ := σ) i
    have q2 := deb_b hN hL (l := nxtS σ i) (by omega) (by omega)
    have q3 := deb_b hN hL (l := (i : Int) + 1) (by omega) (by omega)
    refine s_ald k54_9 rfl ?_
    refine s_ild k54_10 rfl ?_
    refine z_inv1A k54_11 rfl (Nat.le_of_ble_eq_true rfl) (c53 hCl (by omega) (by omega)) ?_
    refine s_ald k54_14 rfl ?_
    refine s_ild k54_15 rfl ?_
    refine z_inv1A k54_16 rfl (Nat.le_of_ble_eq_true rfl) (c53 hCl (by omega) (by omega)) ?_
    refine s_icle k54_19 ⟨by omega, by omega⟩ ⟨by omega, by omega⟩ (fun h19 => ?_) (fun h19 => ?_)
    · refine s_iinc2 k54_24 rfl ?_
      refine z_goto k54_27 ?_
      have k := ih (i + 1) (by omega)
      rw [nxt_s (k := i), if_neg (by omega)] at k
      exact k
    · refine s_ild k54_22 rfl ?_
      refine s_ist1 k54_23 rfl ?_
      refine s_iinc2 k54_24 rfl ?_
      refine z_goto k54_27 ?_
      have k := ih (i + 1) (by omega)
      rw [nxt_s (k := i), if_pos (by omega)] at k
      exact k
set_option maxRecDepth 20000 in
theorem r207 {d : Nat} {I : Nat → Int → Int} {P : Int → Nat} {dr : Nat} {σ : Nat → Int → Int} (hs : sig I = σ) (hW : WFs σ) : cal (d + 2) 207 [vr 127] I P dr (refQ (xNxt σ) I P dr) := by
  refine cal_in (Nat.le_of_ble_eq_true rfl) ?_
  obtain ⟨hN, hT, hP, hA, hL⟩ := id hW
  have b0 := hN.1
  have b1 := hN.2.1
  have b2 := hN.2.2.1
  have b10 := hN.2.2.2.2.2.2.2.1
  show wp _ _ _ _ 0 [vr 127, vj, vj] [] _
  refine z_push k207_0 ?_
  refine s_ist1 k207_1 rfl ?_
  refine z_push k207_2 ?_
  refine s_ist2 k207_3 rfl ?_
  exact lp207 hN hL hs 3 0 (by decide)
set_option maxRecDepth 20000 in
theorem c54 {d : Nat} {I : Nat → Int → Int} {P : Int → Nat} {dr : Nat} {σ : Nat → Int → Int} (hN : WFn σ) (hL : WFl σ) (hCl : CRl I σ) : cal (d + 2) 54 [vr 123] I P dr (ans (vi (nxtS σ 3)) I P dr) := by
  refine cal_in (Nat.le_of_ble_eq_true rfl) ?_
  show wp _ _ _ _ 0 [vr 123, vj, vj] [] _
  refine z_push k54_0 ?_
  refine s_ist1 k54_1 rfl ?_
  refine z_push k54_2 ?_
  refine s_ist2 k54_3 rfl ?_
  exact lp54 hN hL hCl 3 0 (by decide)
set_option maxRecDepth 20000 in
theorem k124 {d : Nat} {I : Nat → Int → Int} {P : Int → Nat} {dr : Nat} {σ : Nat → Int → Int} (hG : CG I σ P dr) (hW : WFs σ) : cal (d + 3) 124 [vr 16] I P dr (clsQ (xNxt σ) I P dr) := by
  refine cal_in (Nat.le_of_ble_eq_true rfl) ?_
  obtain ⟨hN, hT, hP, hA, hL⟩ := id hW
  have b0 := hN.1
  have b1 := hN.2.1
  have b2 := hN.2.2.1
  have b10 := hN.2.2.2.2.2.2.2.1
  obtain ⟨hC, hCt, hcp, hCl, hca⟩ := id hG
  obtain ⟨cn, ct, cg, cmr, cmf, cmt, cw, cT, cS, cW⟩ := id hC
  show wp _ _ _ _ 0 [vr 16] [] _
  refine s_ald k124_0 rfl ?_
  refine z_getRe (b := 123) k124_1 rfl rr_16_5 ?_
  refine z_inv0A k124_4 rfl (Nat.le_of_ble_eq_true rfl) (c54 hN hL hCl) ?_
  exact z_iret k124_7 ⟨I, rfl, rfl, hG, KC.rf⟩
def xTol (σ : Nat → Int → Int) (p w : Int) : mX := (if 0 ≤ p ∧ p < σ 127 21 then (if 0 ≤ w ∧ w ≤ 4 then pf σ p w else if (10 ≤ w ∧ w ≤ 35) ∧ w.tmod 10 ≤ (if w.tdiv 10 - 1 = 0 then 3 else 5) then ps σ p (w.tdiv 10 - 1) (w.tmod 10) else -3) else -2, σ, false)
set_option maxRecDepth 20000 in
theorem r163 {d : Nat} {I : Nat → Int → Int} {P : Int → Nat} {dr : Nat} {σ : Nat → Int → Int} (hs : sig I = σ) (hW : WFs σ) {p w : Int} (i_p : inR p) (i_w : inR w) : cal (d + 3) 163 [vr 127, vi p, vi w] I P dr (refQ (xTol σ p w) I P dr) := by
  refine cal_in (Nat.le_of_ble_eq_true rfl) ?_
  obtain ⟨hN, hT, hP, hA, hL⟩ := id hW
  have b0 := hN.1
  have b1 := hN.2.1
  have b2 := hN.2.2.1
  have b10 := hN.2.2.2.2.2.2.2.1
  have bp := hP.1
  show wp _ _ _ _ 0 [vr 127, vi p, vi w, vj, vj] [] _
  refine s_ald k163_0 rfl ?_
  refine s_ild k163_1 rfl ?_
  refine z_inv1A k163_2 rfl (Nat.le_of_ble_eq_true rfl) (c139 hs (by omega) i_p) ?_
  refine z_ifneb k163_5 (fun h5 => ?_) (fun h5 => ?_)
  · refine s_ild k163_11 rfl ?_
    refine z_push k163_12 ?_
    refine z_push k163_13 ?_
    refine z_sta3A k163_14 (Nat.le_of_ble_eq_true rfl) (c136 i_w (inR_lit rfl) (inR_lit rfl)) ?_
    refine z_ifeqb k163_17 (fun h17 => ?_) (fun h17 => ?_)
    · refine s_ild k163_32 rfl ?_
      refine z_push k163_33 ?_
      refine z_idiv k163_35 i_w (inR_lit rfl) (by decide) ?_
      refine z_push k163_36 ?_
      refine z_isub k163_37 ?_
      refine s_ist3 k163_38 rfl ?_
      refine s_ild k163_39 rfl ?_
      refine z_push k163_40 ?_
      refine z_irem k163_42 i_w (inR_lit rfl) (by decide) ?_
      refine s_ist4 k163_43 rfl ?_
      refine s_ild k163_45 rfl ?_
      refine z_push k163_46 ?_
      refine z_push k163_48 ?_
      refine z_sta3A k163_50 (Nat.le_of_ble_eq_true rfl) (c136 i_w (inR_lit rfl) (inR_lit rfl)) ?_
      refine z_ifeqb k163_53 (fun h53 => ?_) (fun h53 => ?_)
      · refine z_push k163_70 ?_
        refine z_iret k163_72 ⟨I, ?_, rfl, hs, fun _ _ _ => rfl⟩
        unfold xTol
        rw [if_pos (by omega), if_neg (by omega), if_neg (by first | omega | (intro u; split at u <;> omega))]
      · have hd : w.tdiv 10 = w / 10 := Int.tdiv_eq_ediv_of_nonneg (by omega)
        have hm : w.tmod 10 = w % 10 := Int.tmod_eq_emod_of_nonneg (by omega)
        refine s_ild k163_56 rfl ?_
        refine s_ild k163_58 rfl ?_
        refine s_ifne k163_59 ⟨by omega, by omega⟩ (fun h59 => ?_) (fun h59 => ?_)
        · refine z_push k163_66 ?_
          refine s_icle k163_67 ⟨by omega, by omega⟩ (inR_lit rfl) (fun h67 => ?_) (fun h67 => ?_)
          · refine s_ald k163_73 rfl ?_
            refine z_getRe (b := 138) k163_74 rfl rr_127_22 ?_
            refine z_push k163_77 ?_
            refine s_ild k163_79 rfl ?_
            refine z_imul k163_80 ?_
            refine z_push k163_81 ?_
            refine z_iadd k163_82 ?_
            refine z_push k163_83 ?_
            refine s_ild k163_85 rfl ?_
            refine z_imul k163_86 ?_
            refine z_iadd k163_87 ?_
            refine s_ild k163_88 rfl ?_
            refine z_iadd k163_90 ?_
            refine z_ialde (z := σ 138 ((((23 * p) + 5) + (6 * ((w.tdiv 10) - 1))) + (w.tmod 10))) k163_91 rfl (by omega) (show ((((23 * p) + 5) + (6 * ((w.tdiv 10) - 1))) + (w.tmod 10)) < ((138 : Nat) : Int) by omega) (st_s hs rfl) ?_
            refine z_iret k163_92 ⟨I, ?_, rfl, hs, fun _ _ _ => rfl⟩
            unfold xTol
            rw [if_pos (by omega), if_neg (by omega), if_pos (by refine ⟨by omega, ?_⟩; split <;> omega)]
          · refine z_push k163_70 ?_
            refine z_iret k163_72 ⟨I, ?_, rfl, hs, fun _ _ _ => rfl⟩
            unfold xTol
            rw [if_pos (by omega), if_neg (by omega), if_neg (by first | omega | (intro u; split at u <;> omega))]
        · refine z_push k163_62 ?_
          refine z_goto k163_63 ?_
          refine s_icle k163_67 ⟨by omega, by omega⟩ (inR_lit rfl) (fun h67 => ?_) (fun h67 => ?_)
          · refine s_ald k163_73 rfl ?_
            refine z_getRe (b := 138) k163_74 rfl rr_127_22 ?_
            refine z_push k163_77 ?_
            refine s_ild k163_79 rfl ?_
            refine z_imul k163_80 ?_
            refine z_push k163_81 ?_
            refine z_iadd k163_82 ?_
            refine z_push k163_83 ?_
            refine s_ild k163_85 rfl ?_
            refine z_imul k163_86 ?_
            refine z_iadd k163_87 ?_
            refine s_ild k163_88 rfl ?_
            refine z_iadd k163_90 ?_
            refine z_ialde (z := σ 138 ((((23 * p) + 5) + (6 * ((w.tdiv 10) - 1))) + (w.tmod 10))) k163_91 rfl (by omega) (show ((((23 * p) + 5) + (6 * ((w.tdiv 10) - 1))) + (w.tmod 10)) < ((138 : Nat) : Int) by omega) (st_s hs rfl) ?_
            refine z_iret k163_92 ⟨I, ?_, rfl, hs, fun _ _ _ => rfl⟩
            unfold xTol
            rw [if_pos (by omega), if_neg (by omega), if_pos (by refine ⟨by omega, ?_⟩; split <;> omega)]
          · refine z_push k163_70 ?_
            refine z_iret k163_72 ⟨I, ?_, rfl, hs, fun _ _ _ => rfl⟩
            unfold xTol
            rw [if_pos (by omega), if_neg (by omega), if_neg (by first | omega | (intro u; split at u <;> omega))]
    · refine s_ald k163_20 rfl ?_
      refine z_getRe (b := 138) k163_21 rfl rr_127_22 ?_
      refine z_push k163_24 ?_
      refine s_ild k163_26 rfl ?_
      refine z_imul k163_27 ?_
      refine s_ild k163_28 rfl ?_
      refine z_iadd k163_29 ?_
      refine z_ialde (z := σ 138 ((23 * p) + w)) k163_30 rfl (by omega) (show ((23 * p) + w) < ((138 : Nat) : Int) by omega) (st_s hs rfl) ?_
      refine z_iret k163_31 ⟨I, ?_, rfl, hs, fun _ _ _ => rfl⟩
      unfold xTol
      rw [if_pos (by omega), if_pos (by omega)]
  · refine z_push k163_8 ?_
    refine z_iret k163_10 ⟨I, ?_, rfl, hs, fun _ _ _ => rfl⟩
    unfold xTol
    rw [if_neg (by omega)]
set_option maxRecDepth 20000 in
theorem k104 {d : Nat} {I : Nat → Int → Int} {P : Int → Nat} {dr : Nat} {σ : Nat → Int → Int} (hG : CG I σ P dr) (hW : WFs σ) {p w : Int} (i_p : inR p) (i_w : inR w) : cal (d + 2) 104 [vr 16, vi p, vi w] I P dr (clsQ (xTol σ p w) I P dr) := by
  refine cal_in (Nat.le_of_ble_eq_true rfl) ?_
  obtain ⟨hN, hT, hP, hA, hL⟩ := id hW
  have b0 := hN.1
  have b1 := hN.2.1
  have b2 := hN.2.2.1
  have b10 := hN.2.2.2.2.2.2.2.1
  obtain ⟨hC, hCt, hcp, hCl, hca⟩ := id hG
  obtain ⟨cn, ct, cg, cmr, cmf, cmt, cw, cT, cS, cW⟩ := id hC
  have bp := hP.1
  have hPc : ∀ k, 0 ≤ k → k < 5 → isPl (P k) := hcp.2.1.1
  show wp _ _ _ _ 0 [vr 16, vi p, vi w, vj, vj, vj] [] _
  refine s_ald k104_0 rfl ?_
  refine z_getRe (b := 42) k104_1 rfl rr_16_2 ?_
  refine s_ild k104_4 rfl ?_
  refine z_inv1A k104_5 rfl (Nat.le_of_ble_eq_true rfl) (c29 hcp.1 bp i_p) ?_
  refine z_ifneb k104_8 (fun h8 => ?_) (fun h8 => ?_)
  · refine s_ald k104_14 rfl ?_
    refine z_getRe (b := 42) k104_15 rfl rr_16_2 ?_
    refine z_getRe (b := 43) k104_18 rfl rr_42_0 ?_
    refine s_ild k104_21 rfl ?_
    refine z_aalde (b := P p) k104_22 rfl (by omega) (show p < ((5 : Nat) : Int) by omega) rr_P ?_
    refine s_ast3 k104_23 rfl ?_
    refine s_ild k104_24 rfl ?_
    refine z_push k104_25 ?_
    refine z_push k104_26 ?_
    refine z_sta3A k104_27 (Nat.le_of_ble_eq_true rfl) (c126 i_w (inR_lit rfl) (inR_lit rfl)) ?_
    refine z_ifeqb k104_30 (fun h30 => ?_) (fun h30 => ?_)
    · refine s_ild k104_39 rfl ?_
      refine z_push k104_40 ?_
      refine z_idiv k104_42 i_w (inR_lit rfl) (by decide) ?_
      refine z_push k104_43 ?_
      refine z_isub k104_44 ?_
      refine s_ist4 k104_45 rfl ?_
      refine s_ild k104_47 rfl ?_
      refine z_push k104_48 ?_
      refine z_irem k104_50 i_w (inR_lit rfl) (by decide) ?_
      refine s_ist5 k104_51 rfl ?_
      refine s_ild k104_53 rfl ?_
      refine z_push k104_54 ?_
      refine z_push k104_56 ?_
      refine z_sta3A k104_58 (Nat.le_of_ble_eq_true rfl) (c126 i_w (inR_lit rfl) (inR_lit rfl)) ?_
      refine z_ifeqb k104_61 (fun h61 => ?_) (fun h61 => ?_)
      · refine z_push k104_79 ?_
        refine z_iret k104_81 ⟨I, ?_, rfl, hG, KC.rf⟩
        unfold xTol
        rw [if_pos (by omega), if_neg (by omega), if_neg (by intro u; have hd : w.tdiv 10 = w / 10 := Int.tdiv_eq_ediv_of_nonneg (by omega); have hm : w.tmod 10 = w % 10 := Int.tmod_eq_emod_of_nonneg (by omega); obtain ⟨u1, u2⟩ := u; split at u2 <;> omega)]
      · have hd : w.tdiv 10 = w / 10 := Int.tdiv_eq_ediv_of_nonneg (by omega)
        have hm : w.tmod 10 = w % 10 := Int.tmod_eq_emod_of_nonneg (by omega)
        refine s_ild k104_64 rfl ?_
        refine s_ild k104_66 rfl ?_
        refine s_ifne k104_68 ⟨by omega, by omega⟩ (fun h68 => ?_) (fun h68 => ?_)
        · refine z_push k104_75 ?_
          refine s_icle k104_76 ⟨by omega, by omega⟩ (inR_lit rfl) (fun h76 => ?_) (fun h76 => ?_)
          · have bp4 := (hP.2 p (by omega) (by omega)).2.2.2.2.1
            refine s_ild k104_82 rfl ?_
            refine s_ald k104_84 rfl ?_
            refine z_getIe (z := pf σ p 4) k104_85 (pl_sh (hPc _ (by omega) (by omega))) (hcp.f (by omega) (by omega)).2.2.2.2 ?_
            refine s_icge k104_88 ⟨by omega, by omega⟩ ⟨by omega, by omega⟩ (fun h88 => ?_) (fun h88 => ?_)
            · refine z_push k104_106 ?_
              refine z_iret k104_107 ⟨I, ?_, rfl, hG, KC.rf⟩
              unfold xTol
              rw [if_pos (by omega), if_neg (by omega), if_pos (by refine ⟨by omega, ?_⟩; split <;> omega)]
              exact congrArg (fun u => some (vi u)) (((hP.2 p (by omega) (by omega)).2.2.2.2.2 (w.tdiv 10 - 1) (by omega) (by omega)).2 (by omega) (w.tmod 10) (by omega) (by omega)).symm
            · obtain ⟨g0, g1, g2, g3, g4⟩ := hcp.s (p := p) (j := w.tdiv 10 - 1) (by omega) (by omega) (by omega) (by omega)
              have hd3 := ((hP.2 p (by omega) (by omega)).st (j := w.tdiv 10 - 1) (by omega) (by omega)).2.2.2.2.1
              refine s_ald k104_91 rfl ?_
              refine z_getRe (b := P p + 1) k104_92 (pl_sh (hPc _ (by omega) (by omega))) (rr_st5 (hPc _ (by omega) (by omega))) ?_
              refine s_ild k104_95 rfl ?_
              refine z_aalde (b := P p + 2 + ((w.tdiv 10) - 1).toNat) k104_97 (by rw [pl_sa (hPc _ (by omega) (by omega))]) (by omega) (by rw [pl_sa (hPc _ (by omega) (by omega))]; show ((w.tdiv 10) - 1) < ((3 : Nat) : Int); omega) (rr_stj (hPc _ (by omega) (by omega)) (by omega) (by omega)) ?_
              refine s_ild k104_98 rfl ?_
              refine z_inv1A k104_100 (pl_st (hPc _ (by omega) (by omega)) (by omega)) (Nat.le_of_ble_eq_true rfl) (c73 (pl_st (hPc _ (by omega) (by omega)) (by omega)) (by rw [g3]; omega) (by omega) (by omega)) ?_
              refine z_goto k104_103 ?_
              refine z_iret k104_107 ⟨I, ?_, rfl, hG, KC.rf⟩
              unfold xTol
              rw [if_pos (by omega), if_neg (by omega), if_pos (by refine ⟨by omega, ?_⟩; split <;> omega)]
              refine congrArg (fun u => some (vi u)) ?_
              rcases (show w.tmod 10 = 0 ∨ w.tmod 10 = 1 ∨ w.tmod 10 = 2 ∨ w.tmod 10 = 3 ∨ w.tmod 10 = 4 ∨ w.tmod 10 = 5 from by omega) with e | e | e | e | e | e
              · rw [e]; exact g0
              · rw [e]; exact g1
              · rw [e]; exact g2
              · rw [e]; exact g3
              · rw [e]; exact (g4 (by omega)).1
              · rw [e]; exact (g4 (by omega)).2
          · refine z_push k104_79 ?_
            refine z_iret k104_81 ⟨I, ?_, rfl, hG, KC.rf⟩
            unfold xTol
            rw [if_pos (by omega), if_neg (by omega), if_neg (by intro u; have hd : w.tdiv 10 = w / 10 := Int.tdiv_eq_ediv_of_nonneg (by omega); have hm : w.tmod 10 = w % 10 := Int.tmod_eq_emod_of_nonneg (by omega); obtain ⟨u1, u2⟩ := u; split at u2 <;> omega)]
        · refine z_push k104_71 ?_
          refine z_goto k104_72 ?_
          refine s_icle k104_76 ⟨by omega, by omega⟩ (inR_lit rfl) (fun h76 => ?_) (fun h76 => ?_)
          · have bp4 := (hP.2 p (by omega) (by omega)).2.2.2.2.1
            refine s_ild k104_82 rfl ?_
            refine s_ald k104_84 rfl ?_
            refine z_getIe (z := pf σ p 4) k104_85 (pl_sh (hPc _ (by omega) (by omega))) (hcp.f (by omega) (by omega)).2.2.2.2 ?_
            refine s_icge k104_88 ⟨by omega, by omega⟩ ⟨by omega, by omega⟩ (fun h88 => ?_) (fun h88 => ?_)
            · refine z_push k104_106 ?_
              refine z_iret k104_107 ⟨I, ?_, rfl, hG, KC.rf⟩
              unfold xTol
              rw [if_pos (by omega), if_neg (by omega), if_pos (by refine ⟨by omega, ?_⟩; split <;> omega)]
              exact congrArg (fun u => some (vi u)) (((hP.2 p (by omega) (by omega)).2.2.2.2.2 (w.tdiv 10 - 1) (by omega) (by omega)).2 (by omega) (w.tmod 10) (by omega) (by omega)).symm
            · obtain ⟨g0, g1, g2, g3, g4⟩ := hcp.s (p := p) (j := w.tdiv 10 - 1) (by omega) (by omega) (by omega) (by omega)
              have hd3 := ((hP.2 p (by omega) (by omega)).st (j := w.tdiv 10 - 1) (by omega) (by omega)).2.2.2.2.1
              refine s_ald k104_91 rfl ?_
              refine z_getRe (b := P p + 1) k104_92 (pl_sh (hPc _ (by omega) (by omega))) (rr_st5 (hPc _ (by omega) (by omega))) ?_
              refine s_ild k104_95 rfl ?_
              refine z_aalde (b := P p + 2 + ((w.tdiv 10) - 1).toNat) k104_97 (by rw [pl_sa (hPc _ (by omega) (by omega))]) (by omega) (by rw [pl_sa (hPc _ (by omega) (by omega))]; show ((w.tdiv 10) - 1) < ((3 : Nat) : Int); omega) (rr_stj (hPc _ (by omega) (by omega)) (by omega) (by omega)) ?_
              refine s_ild k104_98 rfl ?_
              refine z_inv1A k104_100 (pl_st (hPc _ (by omega) (by omega)) (by omega)) (Nat.le_of_ble_eq_true rfl) (c73 (pl_st (hPc _ (by omega) (by omega)) (by omega)) (by rw [g3]; omega) (by omega) (by omega)) ?_
              refine z_goto k104_103 ?_
              refine z_iret k104_107 ⟨I, ?_, rfl, hG, KC.rf⟩
              unfold xTol
              rw [if_pos (by omega), if_neg (by omega), if_pos (by refine ⟨by omega, ?_⟩; split <;> omega)]
              refine congrArg (fun u => some (vi u)) ?_
              rcases (show w.tmod 10 = 0 ∨ w.tmod 10 = 1 ∨ w.tmod 10 = 2 ∨ w.tmod 10 = 3 ∨ w.tmod 10 = 4 ∨ w.tmod 10 = 5 from by omega) with e | e | e | e | e | e
              · rw [e]; exact g0
              · rw [e]; exact g1
              · rw [e]; exact g2
              · rw [e]; exact g3
              · rw [e]; exact (g4 (by omega)).1
              · rw [e]; exact (g4 (by omega)).2
          · refine z_push k104_79 ?_
            refine z_iret k104_81 ⟨I, ?_, rfl, hG, KC.rf⟩
            unfold xTol
            rw [if_pos (by omega), if_neg (by omega), if_neg (by intro u; have hd : w.tdiv 10 = w / 10 := Int.tdiv_eq_ediv_of_nonneg (by omega); have hm : w.tmod 10 = w % 10 := Int.tmod_eq_emod_of_nonneg (by omega); obtain ⟨u1, u2⟩ := u; split at u2 <;> omega)]
    · refine s_ald k104_33 rfl ?_
      refine s_ild k104_34 rfl ?_
      refine z_inv1A k104_35 (pl_sh (hPc _ (by omega) (by omega))) (Nat.le_of_ble_eq_true rfl) (c70 (hPc _ (by omega) (by omega)) (by omega) (by omega)) ?_
      refine z_iret k104_38 ⟨I, ?_, rfl, hG, KC.rf⟩
      unfold xTol
      rw [if_pos (by omega), if_pos (by omega)]
      rcases (show w = 0 ∨ w = 1 ∨ w = 2 ∨ w = 3 ∨ w = 4 from by omega) with e | e | e | e | e
      · rw [e]; exact congrArg (fun u => some (vi u)) (hcp.f (by omega) (by omega)).1
      · rw [e]; exact congrArg (fun u => some (vi u)) (hcp.f (by omega) (by omega)).2.1
      · rw [e]; exact congrArg (fun u => some (vi u)) (hcp.f (by omega) (by omega)).2.2.1
      · rw [e]; exact congrArg (fun u => some (vi u)) (hcp.f (by omega) (by omega)).2.2.2.1
      · rw [e]; exact congrArg (fun u => some (vi u)) (hcp.f (by omega) (by omega)).2.2.2.2
  · refine z_push k104_11 ?_
    refine z_iret k104_13 ⟨I, ?_, rfl, hG, KC.rf⟩
    unfold xTol
    rw [if_neg (by omega)]
