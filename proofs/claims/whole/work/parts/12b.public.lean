theorem CG.text {I J σ σ' : Nat → Int → Int} {P : Int → Nat} {dr : Nat} (hN : WFn σ) (hP : WFp σ) (h : CG I σ P dr) (ht : CRt J σ') (kI : ∀ a q, (17 ≤ a ∧ a ≤ 34) ∨ (37 ≤ a ∧ a ≤ 68) ∨ (118 ≤ a ∧ a ≤ 126) → J a q = I a q) (k : ∀ a q, a ≠ 133 → ¬ (a = 127 ∧ q = 12) → σ' a q = σ a q) : CG J σ' P dr :=
  ⟨(h.1.keep hN (fun a q _ _ => kI a q (by omega))).sg (fun a q _ => k a q (by omega) (by omega)), ht, (h.2.2.1.keep hP (fun a q _ _ => kI a q (by omega))).sg (fun a q _ => k a q (by omega) (by omega)), h.2.2.2.1.sg (fun a q _ _ => kI a q (by omega)) (fun a q _ => k a q (by omega) (by omega)), by rw [kI 118 0 (by omega), k 127 31 (by omega) (by omega)]; exact h.2.2.2.2⟩
theorem CG.led {I J σ σ' : Nat → Int → Int} {P : Int → Nat} {dr : Nat} (hN : WFn σ) (hP : WFp σ) (h : CG I σ P dr) (hl : CRl J σ') (kI : ∀ a q, (17 ≤ a ∧ a ≤ 68) ∨ (118 ≤ a ∧ a ≤ 122) → J a q = I a q) (k : ∀ a q, a ≠ 149 → a ≠ 150 → ¬ (a = 127 ∧ q = 39) → σ' a q = σ a q) : CG J σ' P dr :=
  ⟨(h.1.keep hN (fun a q _ _ => kI a q (by omega))).sg (fun a q _ => k a q (by omega) (by omega) (by omega)), h.2.1.sg (fun a q _ _ => kI a q (by omega)) (fun a q _ => k a q (by omega) (by omega) (by omega)), (h.2.2.1.keep hP (fun a q _ _ => kI a q (by omega))).sg (fun a q _ => k a q (by omega) (by omega) (by omega)), hl, by rw [kI 118 0 (by omega), k 127 31 (by omega) (by omega) (by omega)]; exact h.2.2.2.2⟩
theorem CG.agn {I σ : Nat → Int → Int} {P : Int → Nat} {dr : Nat} {v : Int} (hN : WFn σ) (hP : WFp σ) (h : CG I σ P dr) : CG (upI I 118 0 v) (upI σ 127 31 v) P dr :=
  ⟨(h.1.keep hN (fun a q _ _ => up_ne (by omega))).sg (fun a q _ => if_neg (by omega)), h.2.1.sg (fun a q _ _ => up_ne (by omega)) (fun a q _ => if_neg (by omega)), (h.2.2.1.keep hP (fun a q _ _ => up_ne (by omega))).sg (fun a q _ => if_neg (by omega)), h.2.2.2.1.sg (fun a q _ _ => up_ne (by omega)) (fun a q _ => if_neg (by omega)), up_at.trans up_at.symm⟩
def xEra (σ : Nat → Int → Int) : mX := (σ 127 12, upI σ 127 12 0, false)
def xAgn (σ : Nat → Int → Int) (v : Int) : mX := if 0 ≤ v ∧ v ≤ 1 then (σ 127 31, upI σ 127 31 v, false) else (-3, σ, false)
def xShr (σ : Nat → Int → Int) (l v : Int) : mX := if 0 ≤ l ∧ l ≤ 3 then (if 1 ≤ v ∧ v ≤ 20 then (σ 149 l, upI σ 149 l v, false) else (-3, σ, false)) else (-2, σ, false)
def xAcc (σ : Nat → Int → Int) (k : Int) : mX := (if 0 ≤ k ∧ k ≤ 7 then σ 150 k else -3, σ, false)
set_option maxRecDepth 20000 in
theorem k97 {d : Nat} {I : Nat → Int → Int} {P : Int → Nat} {dr : Nat} {σ : Nat → Int → Int} (hG : CG I σ P dr) (hW : WFs σ) : cal (d + 1) 97 [vr 16] I P dr (clsQ (xUnw σ) I P dr) := by
  refine cal_in (Nat.le_of_ble_eq_true rfl) ?_
  obtain ⟨hN, hT, hP, hA, hL⟩ := id hW
  have b0 := hN.1
  have b1 := hN.2.1
  have b2 := hN.2.2.1
  have b10 := hN.2.2.2.2.2.2.2.1
  obtain ⟨hC, hCt, hcp, hCl, hca⟩ := id hG
  obtain ⟨cn, ct, cg, cmr, cmf, cmt, cw, cT, cS, cW⟩ := id hC
  show wp _ _ _ _ 0 [vr 16, vj] [] _
  refine s_ald k97_0 rfl ?_
  refine z_getRe (b := 17) k97_1 rfl rr_16_0 ?_
  refine z_getIe (z := σ 127 10) k97_4 rfl cw ?_
  refine s_ist1 k97_7 rfl ?_
  refine s_ald k97_8 rfl ?_
  refine z_getRe (b := 17) k97_9 rfl rr_16_0 ?_
  refine z_push k97_12 ?_
  refine z_putIe (q := 9) k97_13 rfl rfl ?_
  refine s_ild k97_16 rfl ?_
  refine z_iret k97_17 ⟨_, rfl, rfl, ?_, KC.rf.up (by omega)⟩
  show CG _ (upI σ 127 10 0) P dr
  refine CG.night hP hG ?_ (fun a q _ => up_ne (by omega)) (fun a q _ => if_neg (by omega))
  refine ⟨cn, ct, cg, cmr, cmf, cmt, rfl, fun t t0 t1 => ?_, fun k s k0 k1 s0 s1 => ?_, fun w w0 w1 => ?_⟩
  · rw [up_nk (by decide)] at t1
    rw [up_ne (by omega), up_ne (by omega), up_ne (by omega), up_ne (by omega), up_ne (by omega), up_ne (by omega)]
    exact cT t t0 t1
  · rw [up_at] at k1
    rw [up_ne (by omega), up_ne (by decide)]
    exact cS k s k0 (by omega) s0 s1
  · rw [up_at] at w1
    exact absurd w1 (by omega)
set_option maxRecDepth 20000 in
theorem r151 {d : Nat} {I : Nat → Int → Int} {P : Int → Nat} {dr : Nat} {σ : Nat → Int → Int} (hs : sig I = σ) (hW : WFs σ) : cal (d + 1) 151 [vr 127] I P dr (refQ (xEra σ) I P dr) := by
  refine cal_in (Nat.le_of_ble_eq_true rfl) ?_
  obtain ⟨hN, hT, hP, hA, hL⟩ := id hW
  have b0 := hN.1
  have b1 := hN.2.1
  have b2 := hN.2.2.1
  have b10 := hN.2.2.2.2.2.2.2.1
  show wp _ _ _ _ 0 [vr 127, vj] [] _
  refine s_ald k151_0 rfl ?_
  refine z_getIe (z := σ 127 12) k151_1 rfl (st_s hs rfl) ?_
  refine s_ist1 k151_4 rfl ?_
  refine s_ald k151_5 rfl ?_
  refine z_push k151_6 ?_
  refine z_putIe (q := 12) k151_7 rfl rfl ?_
  refine s_ild k151_10 rfl ?_
  refine z_iret k151_11 ⟨_, ?_, rfl, ?_, fun a k hk => ((up_ne (by omega)).trans rfl)⟩
  · unfold xEra
    rfl
  · unfold xEra
    show _ = _
    exact ((sig_up rfl).trans (by rw [hs]))
set_option maxRecDepth 20000 in
theorem k99 {d : Nat} {I : Nat → Int → Int} {P : Int → Nat} {dr : Nat} {σ : Nat → Int → Int} (hG : CG I σ P dr) (hW : WFs σ) : cal (d + 1) 99 [vr 16] I P dr (clsQ (xEra σ) I P dr) := by
  refine cal_in (Nat.le_of_ble_eq_true rfl) ?_
  obtain ⟨hN, hT, hP, hA, hL⟩ := id hW
  have b0 := hN.1
  have b1 := hN.2.1
  have b2 := hN.2.2.1
  have b10 := hN.2.2.2.2.2.2.2.1
  obtain ⟨hC, hCt, hcp, hCl, hca⟩ := id hG
  obtain ⟨cn, ct, cg, cmr, cmf, cmt, cw, cT, cS, cW⟩ := id hC
  show wp _ _ _ _ 0 [vr 16, vj] [] _
  refine s_ald k99_0 rfl ?_
  refine z_getRe (b := 35) k99_1 rfl rr_16_1 ?_
  refine z_getIe (z := σ 127 12) k99_4 rfl hCt.1 ?_
  refine s_ist1 k99_7 rfl ?_
  refine s_ald k99_8 rfl ?_
  refine z_getRe (b := 35) k99_9 rfl rr_16_1 ?_
  refine z_push k99_12 ?_
  refine z_putIe (q := 1) k99_13 rfl rfl ?_
  refine s_ild k99_16 rfl ?_
  refine z_iret k99_17 ⟨_, rfl, rfl, ?_, KC.rf.up (by omega)⟩
  show CG _ (upI σ 127 12 0) P dr
  refine CG.text hN hP hG ⟨up_at.trans up_at.symm, fun i i0 i1 => ?_⟩ (fun a q _ => up_ne (by omega)) (fun a q h1 h2 => if_neg h2)
  rw [up_at] at i1
  exact absurd i1 (by omega)
set_option maxRecDepth 20000 in
theorem r186 {d : Nat} {I : Nat → Int → Int} {P : Int → Nat} {dr : Nat} {σ : Nat → Int → Int} (hs : sig I = σ) (hW : WFs σ) {v : Int} (i_v : inR v) : cal (d + 2) 186 [vr 127, vi v] I P dr (refQ (xAgn σ v) I P dr) := by
  refine cal_in (Nat.le_of_ble_eq_true rfl) ?_
  obtain ⟨hN, hT, hP, hA, hL⟩ := id hW
  have b0 := hN.1
  have b1 := hN.2.1
  have b2 := hN.2.2.1
  have b10 := hN.2.2.2.2.2.2.2.1
  show wp _ _ _ _ 0 [vr 127, vi v, vj] [] _
  refine s_ild k186_0 rfl ?_
  refine z_push k186_1 ?_
  refine z_push k186_2 ?_
  refine z_sta3A k186_3 (Nat.le_of_ble_eq_true rfl) (c136 i_v (inR_lit rfl) (inR_lit rfl)) ?_
  refine z_ifneb k186_6 (fun h6 => ?_) (fun h6 => ?_)
  · refine s_ald k186_12 rfl ?_
    refine z_getIe (z := σ 127 31) k186_13 rfl (st_s hs rfl) ?_
    refine s_ist2 k186_16 rfl ?_
    refine s_ald k186_17 rfl ?_
    refine s_ild k186_18 rfl ?_
    refine z_putIe (q := 31) k186_19 rfl rfl ?_
    refine s_ild k186_22 rfl ?_
    refine z_iret k186_23 ⟨_, ?_, rfl, ?_, fun a k hk => ((up_ne (by omega)).trans rfl)⟩
    · unfold xAgn
      rw [if_pos (by omega)]
    · unfold xAgn
      rw [if_pos (by omega)]
      exact ((sig_up rfl).trans (by rw [hs]))
  · refine z_push k186_9 ?_
    refine z_iret k186_11 ⟨_, ?_, rfl, ?_, fun a k hk => rfl⟩
    · unfold xAgn
      rw [if_neg (by omega)]
    · unfold xAgn
      rw [if_neg (by omega)]
      exact hs
set_option maxRecDepth 20000 in
theorem k112 {d : Nat} {I : Nat → Int → Int} {P : Int → Nat} {dr : Nat} {σ : Nat → Int → Int} (hG : CG I σ P dr) (hW : WFs σ) {v : Int} (i_v : inR v) : cal (d + 2) 112 [vr 16, vi v] I P dr (clsQ (xAgn σ v) I P dr) := by
  refine cal_in (Nat.le_of_ble_eq_true rfl) ?_
  obtain ⟨hN, hT, hP, hA, hL⟩ := id hW
  have b0 := hN.1
  have b1 := hN.2.1
  have b2 := hN.2.2.1
  have b10 := hN.2.2.2.2.2.2.2.1
  obtain ⟨hC, hCt, hcp, hCl, hca⟩ := id hG
  obtain ⟨cn, ct, cg, cmr, cmf, cmt, cw, cT, cS, cW⟩ := id hC
  show wp _ _ _ _ 0 [vr 16, vi v, vj] [] _
  refine s_ild k112_0 rfl ?_
  refine z_push k112_1 ?_
  refine z_push k112_2 ?_
  refine z_sta3A k112_3 (Nat.le_of_ble_eq_true rfl) (c126 i_v (inR_lit rfl) (inR_lit rfl)) ?_
  refine z_ifneb k112_6 (fun h6 => ?_) (fun h6 => ?_)
  · refine s_ald k112_12 rfl ?_
    refine z_getRe (b := 118) k112_13 rfl rr_16_4 ?_
    refine z_getIe (z := σ 127 31) k112_16 rfl hca ?_
    refine s_ist2 k112_19 rfl ?_
    refine s_ald k112_20 rfl ?_
    refine z_getRe (b := 118) k112_21 rfl rr_16_4 ?_
    refine s_ild k112_24 rfl ?_
    refine z_putIe (q := 0) k112_25 rfl rfl ?_
    refine s_ild k112_28 rfl ?_
    refine z_iret k112_29 ⟨_, ?_, rfl, ?_⟩
    · unfold xAgn
      rw [if_pos (by omega)]
    · unfold xAgn
      rw [if_pos (by omega)]
      exact ⟨CG.agn hN hP hG, KC.rf.up (by omega)⟩
  · refine z_push k112_9 ?_
    refine z_iret k112_11 ⟨I, ?_, rfl, ?_⟩
    · unfold xAgn
      rw [if_neg (by omega)]
    · unfold xAgn
      rw [if_neg (by omega)]
      exact ⟨hG, KC.rf⟩
set_option maxRecDepth 20000 in
theorem r202 {d : Nat} {I : Nat → Int → Int} {P : Int → Nat} {dr : Nat} {σ : Nat → Int → Int} (hs : sig I = σ) (hW : WFs σ) {l v : Int} (i_l : inR l) (i_v : inR v) : cal (d + 2) 202 [vr 127, vi l, vi v] I P dr (refQ (xShr σ l v) I P dr) := by
  refine cal_in (Nat.le_of_ble_eq_true rfl) ?_
  obtain ⟨hN, hT, hP, hA, hL⟩ := id hW
  have b0 := hN.1
  have b1 := hN.2.1
  have b2 := hN.2.2.1
  have b10 := hN.2.2.2.2.2.2.2.1
  show wp _ _ _ _ 0 [vr 127, vi l, vi v, vj] [] _
  refine s_ild k202_0 rfl ?_
  refine z_push k202_1 ?_
  refine z_push k202_2 ?_
  refine z_sta3A k202_3 (Nat.le_of_ble_eq_true rfl) (c136 i_l (inR_lit rfl) (inR_lit rfl)) ?_
  refine z_ifneb k202_6 (fun h6 => ?_) (fun h6 => ?_)
  · refine s_ild k202_12 rfl ?_
    refine z_push k202_13 ?_
    refine z_push k202_14 ?_
    refine z_sta3A k202_16 (Nat.le_of_ble_eq_true rfl) (c136 i_v (inR_lit rfl) (inR_lit rfl)) ?_
    refine z_ifneb k202_19 (fun h19 => ?_) (fun h19 => ?_)
    · refine s_ald k202_25 rfl ?_
      refine z_getRe (b := 149) k202_26 rfl rr_127_37 ?_
      refine s_ild k202_29 rfl ?_
      refine z_ialde (z := σ 149 l) k202_30 rfl (by omega) (show l < ((4 : Nat) : Int) by omega) (st_s hs rfl) ?_
      refine s_ist3 k202_31 rfl ?_
      refine s_ald k202_32 rfl ?_
      refine z_getRe (b := 149) k202_33 rfl rr_127_37 ?_
      refine s_ild k202_36 rfl ?_
      refine s_ild k202_37 rfl ?_
      refine z_iast k202_38 rfl (by omega) (show l < ((4 : Nat) : Int) by omega) ?_
      refine s_ild k202_39 rfl ?_
      refine z_iret k202_40 ⟨_, ?_, rfl, ?_, fun a k hk => ((up_ne (by omega)).trans rfl)⟩
      · unfold xShr
        rw [if_pos (by omega), if_pos (by omega)]
      · unfold xShr
        rw [if_pos (by omega), if_pos (by omega)]
        exact ((sig_up rfl).trans (by rw [hs]))
    · refine z_push k202_22 ?_
      refine z_iret k202_24 ⟨_, ?_, rfl, ?_, fun a k hk => rfl⟩
      · unfold xShr
        rw [if_pos (by omega), if_neg (by omega)]
      · unfold xShr
        rw [if_pos (by omega), if_neg (by omega)]
        exact hs
  · refine z_push k202_9 ?_
    refine z_iret k202_11 ⟨_, ?_, rfl, ?_, fun a k hk => rfl⟩
    · unfold xShr
      rw [if_neg (by omega)]
    · unfold xShr
      rw [if_neg (by omega)]
      exact hs
set_option maxRecDepth 20000 in
theorem k120 {d : Nat} {I : Nat → Int → Int} {P : Int → Nat} {dr : Nat} {σ : Nat → Int → Int} (hG : CG I σ P dr) (hW : WFs σ) {l v : Int} (i_l : inR l) (i_v : inR v) : cal (d + 2) 120 [vr 16, vi l, vi v] I P dr (clsQ (xShr σ l v) I P dr) := by
  refine cal_in (Nat.le_of_ble_eq_true rfl) ?_
  obtain ⟨hN, hT, hP, hA, hL⟩ := id hW
  have b0 := hN.1
  have b1 := hN.2.1
  have b2 := hN.2.2.1
  have b10 := hN.2.2.2.2.2.2.2.1
  obtain ⟨hC, hCt, hcp, hCl, hca⟩ := id hG
  obtain ⟨cn, ct, cg, cmr, cmf, cmt, cw, cT, cS, cW⟩ := id hC
  show wp _ _ _ _ 0 [vr 16, vi l, vi v, vj] [] _
  refine s_ild k120_0 rfl ?_
  refine z_push k120_1 ?_
  refine z_push k120_2 ?_
  refine z_sta3A k120_3 (Nat.le_of_ble_eq_true rfl) (c126 i_l (inR_lit rfl) (inR_lit rfl)) ?_
  refine z_ifneb k120_6 (fun h6 => ?_) (fun h6 => ?_)
  · refine s_ild k120_12 rfl ?_
    refine z_push k120_13 ?_
    refine z_push k120_14 ?_
    refine z_sta3A k120_16 (Nat.le_of_ble_eq_true rfl) (c126 i_v (inR_lit rfl) (inR_lit rfl)) ?_
    refine z_ifneb k120_19 (fun h19 => ?_) (fun h19 => ?_)
    · refine s_ald k120_25 rfl ?_
      refine z_getRe (b := 123) k120_26 rfl rr_16_5 ?_
      refine z_getRe (b := 125) k120_29 rfl rr_123_1 ?_
      refine s_ild k120_32 rfl ?_
      refine z_ialde (z := σ 149 l) k120_33 rfl (by omega) (show l < ((4 : Nat) : Int) by omega) (hCl.1 _ (by omega) (by omega)) ?_
      refine s_ist3 k120_34 rfl ?_
      refine s_ald k120_35 rfl ?_
      refine z_getRe (b := 123) k120_36 rfl rr_16_5 ?_
      refine z_getRe (b := 125) k120_39 rfl rr_123_1 ?_
      refine s_ild k120_42 rfl ?_
      refine s_ild k120_43 rfl ?_
      refine z_iast k120_44 rfl (by omega) (show l < ((4 : Nat) : Int) by omega) ?_
      refine s_ild k120_45 rfl ?_
      refine z_iret k120_46 ⟨_, ?_, rfl, ?_⟩
      · unfold xShr
        rw [if_pos (by omega), if_pos (by omega)]
      · unfold xShr
        rw [if_pos (by omega), if_pos (by omega)]
        dsimp only
        refine ⟨CG.led hN hP hG ⟨fun m m0 m1 => ?_, fun q q0 q1 => ?_, ?_⟩ (fun a q _ => up_ne (by omega)) (fun a q h1 h2 h3 => up_ne h1), KC.rf.up (by omega)⟩
        · by_cases c1 : m = l
          · rw [c1, up_at, up_at]
          · rw [up_nk c1, up_nk c1]
            exact hCl.1 m m0 m1
        · rw [up_ne (by decide), up_ne (by decide)]
          exact hCl.2.1 q q0 q1
        · rw [up_ne (by decide), up_ne (by decide)]
          exact hCl.2.2
    · refine z_push k120_22 ?_
      refine z_iret k120_24 ⟨I, ?_, rfl, ?_⟩
      · unfold xShr
        rw [if_pos (by omega), if_neg (by omega)]
      · unfold xShr
        rw [if_pos (by omega), if_neg (by omega)]
        exact ⟨hG, KC.rf⟩
  · refine z_push k120_9 ?_
    refine z_iret k120_11 ⟨I, ?_, rfl, ?_⟩
    · unfold xShr
      rw [if_neg (by omega)]
    · unfold xShr
      rw [if_neg (by omega)]
      exact ⟨hG, KC.rf⟩
set_option maxRecDepth 20000 in
theorem r204 {d : Nat} {I : Nat → Int → Int} {P : Int → Nat} {dr : Nat} {σ : Nat → Int → Int} (hs : sig I = σ) (hW : WFs σ) {k : Int} (i_k : inR k) : cal (d + 2) 204 [vr 127, vi k] I P dr (refQ (xAcc σ k) I P dr) := by
  refine cal_in (Nat.le_of_ble_eq_true rfl) ?_
  obtain ⟨hN, hT, hP, hA, hL⟩ := id hW
  have b0 := hN.1
  have b1 := hN.2.1
  have b2 := hN.2.2.1
  have b10 := hN.2.2.2.2.2.2.2.1
  show wp _ _ _ _ 0 [vr 127, vi k] [] _
  refine s_ild k204_0 rfl ?_
  refine z_push k204_1 ?_
  refine z_push k204_2 ?_
  refine z_sta3A k204_4 (Nat.le_of_ble_eq_true rfl) (c136 i_k (inR_lit rfl) (inR_lit rfl)) ?_
  refine z_ifeqb k204_7 (fun h7 => ?_) (fun h7 => ?_)
  · refine z_push k204_19 ?_
    refine z_iret k204_21 ⟨I, ?_, rfl, hs, fun _ _ _ => rfl⟩
    unfold xAcc
    rw [if_neg (by omega)]
  · refine s_ald k204_10 rfl ?_
    refine z_getRe (b := 150) k204_11 rfl rr_127_38 ?_
    refine s_ild k204_14 rfl ?_
    refine z_ialde (z := σ 150 k) k204_15 rfl (by omega) (show k < ((8 : Nat) : Int) by omega) (st_s hs rfl) ?_
    refine z_goto k204_16 ?_
    refine z_iret k204_21 ⟨I, ?_, rfl, hs, fun _ _ _ => rfl⟩
    unfold xAcc
    rw [if_pos (by omega)]
set_option maxRecDepth 20000 in
theorem k122 {d : Nat} {I : Nat → Int → Int} {P : Int → Nat} {dr : Nat} {σ : Nat → Int → Int} (hG : CG I σ P dr) (hW : WFs σ) {k : Int} (i_k : inR k) : cal (d + 2) 122 [vr 16, vi k] I P dr (clsQ (xAcc σ k) I P dr) := by
  refine cal_in (Nat.le_of_ble_eq_true rfl) ?_
  obtain ⟨hN, hT, hP, hA, hL⟩ := id hW
  have b0 := hN.1
  have b1 := hN.2.1
  have b2 := hN.2.2.1
  have b10 := hN.2.2.2.2.2.2.2.1
  obtain ⟨hC, hCt, hcp, hCl, hca⟩ := id hG
  obtain ⟨cn, ct, cg, cmr, cmf, cmt, cw, cT, cS, cW⟩ := id hC
  show wp _ _ _ _ 0 [vr 16, vi k] [] _
  refine s_ild k122_0 rfl ?_
  refine z_push k122_1 ?_
  refine z_push k122_2 ?_
  refine z_sta3A k122_4 (Nat.le_of_ble_eq_true rfl) (c126 i_k (inR_lit rfl) (inR_lit rfl)) ?_
  refine z_ifeqb k122_7 (fun h7 => ?_) (fun h7 => ?_)
  · refine z_push k122_22 ?_
    refine z_iret k122_24 ⟨I, ?_, rfl, hG, KC.rf⟩
    unfold xAcc
    rw [if_neg (by omega)]
  · refine s_ald k122_10 rfl ?_
    refine z_getRe (b := 123) k122_11 rfl rr_16_5 ?_
    refine z_getRe (b := 124) k122_14 rfl rr_123_0 ?_
    refine s_ild k122_17 rfl ?_
    refine z_ialde (z := σ 150 k) k122_18 rfl (by omega) (show k < ((8 : Nat) : Int) by omega) (hCl.2.1 _ (by omega) (by omega)) ?_
    refine z_goto k122_19 ?_
    refine z_iret k122_24 ⟨I, ?_, rfl, hG, KC.rf⟩
    unfold xAcc
    rw [if_pos (by omega)]
set_option maxRecDepth 20000 in
theorem c1 {d : Nat} {I : Nat → Int → Int} {P : Int → Nat} {dr : Nat}  : cal (d + 1) 1 [vr 69] I P dr (fun o h => o = none ∧ h = (S0, upI I 69 17 0, RR P dr)) := by
  refine cal_in (Nat.le_of_ble_eq_true rfl) ?_
  show wp _ _ _ _ 0 [vr 69] [] _
  refine s_ald k1_0 rfl ?_
  refine z_push k1_1 ?_
  refine z_putZe (q := 17) k1_2 rfl rfl (Or.inl rfl) ?_
  exact z_vret k1_5 ⟨rfl, rfl⟩
set_option maxRecDepth 20000 in
theorem k94 {d : Nat} {I : Nat → Int → Int} {P : Int → Nat} {dr : Nat} {σ : Nat → Int → Int} (hG : CG I σ P dr) (hW : WFs σ) {r a b : Int} (i_r : inR r) (i_a : inR a) (i_b : inR b) : cal (d + 2) 94 [vr 16, vi r, vi a, vi b] I P dr (clsQ (xMoon σ r a b) I P dr) := by
  refine cal_in (Nat.le_of_ble_eq_true rfl) ?_
  obtain ⟨hN, hT, hP, hA, hL⟩ := id hW
  have b0 := hN.1
  have b1 := hN.2.1
  have b2 := hN.2.2.1
  have b10 := hN.2.2.2.2.2.2.2.1
  obtain ⟨hC, hCt, hcp, hCl, hca⟩ := id hG
  obtain ⟨cn, ct, cg, cmr, cmf, cmt, cw, cT, cS, cW⟩ := id hC
  show wp _ _ _ _ 0 [vr 16, vi r, vi a, vi b] [] _
  refine s_ild k94_0 rfl ?_
  refine z_push k94_1 ?_
  refine z_push k94_2 ?_
  refine z_sta3A k94_3 (Nat.le_of_ble_eq_true rfl) (c126 i_r (inR_lit rfl) (inR_lit rfl)) ?_
  refine z_ifeqb k94_6 (fun h6 => ?_) (fun h6 => ?_)
  · refine z_push k94_36 ?_
    refine z_iret k94_38 ⟨I, ?_, rfl, ?_⟩
    · unfold xMoon
      rw [if_neg (by omega)]
    · unfold xMoon
      rw [if_neg (by omega)]
      exact ⟨hG, KC.rf⟩
  · refine s_ald k94_9 rfl ?_
    refine z_getRe (b := 17) k94_10 rfl rr_16_0 ?_
    refine s_ild k94_13 rfl ?_
    refine z_inv1A k94_14 rfl (Nat.le_of_ble_eq_true rfl) (c57 hC (by omega) i_a) ?_
    refine z_ifeqb k94_17 (fun h17 => ?_) (fun h17 => ?_)
    · refine z_push k94_36 ?_
      refine z_iret k94_38 ⟨I, ?_, rfl, ?_⟩
      · unfold xMoon
        rw [if_neg (by omega)]
      · unfold xMoon
        rw [if_neg (by omega)]
        exact ⟨hG, KC.rf⟩
    · refine s_ald k94_20 rfl ?_
      refine z_getRe (b := 17) k94_21 rfl rr_16_0 ?_
      refine s_ild k94_24 rfl ?_
      refine z_inv1A k94_25 rfl (Nat.le_of_ble_eq_true rfl) (c57 hC (by omega) i_b) ?_
      refine z_ifeqb k94_28 (fun h28 => ?_) (fun h28 => ?_)
      · refine z_push k94_36 ?_
        refine z_iret k94_38 ⟨I, ?_, rfl, ?_⟩
        · unfold xMoon
          rw [if_neg (by omega)]
        · unfold xMoon
          rw [if_neg (by omega)]
          exact ⟨hG, KC.rf⟩
      · refine s_ild k94_31 rfl ?_
        refine s_ild k94_32 rfl ?_
        refine s_icle k94_33 i_a i_b (fun h33 => ?_) (fun h33 => ?_)
        · refine s_ald k94_39 rfl ?_
          refine z_getRe (b := 17) k94_40 rfl rr_16_0 ?_
          refine s_ild k94_43 rfl ?_
          refine z_putIe (q := 4) k94_44 rfl rfl ?_
          refine s_ald k94_47 rfl ?_
          refine z_getRe (b := 17) k94_48 rfl rr_16_0 ?_
          refine s_ild k94_51 rfl ?_
          refine z_putIe (q := 5) k94_52 rfl rfl ?_
          refine s_ald k94_55 rfl ?_
          refine z_getRe (b := 17) k94_56 rfl rr_16_0 ?_
          refine s_ild k94_59 rfl ?_
          refine z_putIe (q := 6) k94_60 rfl rfl ?_
          refine s_ald k94_63 rfl ?_
          refine z_getRe (b := 69) k94_64 rfl rr_16_3 ?_
          refine z_inv0 k94_67 rfl (Nat.le_of_ble_eq_true rfl) (c1) (fun o h1 hq => ?_)
          obtain ⟨rfl, rfl⟩ := hq
          refine z_push k94_70 ?_
          refine z_iret k94_71 ⟨_, ?_, rfl, ?_⟩
          · unfold xMoon
            rw [if_pos (by omega)]
          · unfold xMoon
            rw [if_pos (by omega)]
            refine ⟨CG.night hP hG ?_ (fun a q _ => (up_ne (by omega)).trans ((up_ne (by omega)).trans ((up_ne (by omega)).trans (up_ne (by omega))))) (fun a q _ => (if_neg (by omega)).trans ((if_neg (by omega)).trans (if_neg (by omega)))), (((KC.rf.up (by omega)).up (by omega)).up (by omega)).fg⟩
            refine ⟨cn, ct, cg, rfl, rfl, rfl, cw, fun t t0 t1 => ?_, fun k s k0 k1 s0 s1 => ?_, fun w w0 w1 => ?_⟩
            · dsimp only at t1 ⊢
              rw [up_nk (by decide), up_nk (by decide), up_nk (by decide)] at t1
              simp only [up_ne (show 27 + t.toNat ≠ 69 by omega), up_ne (show 27 + t.toNat ≠ 17 by omega), up_ne (show (128 : Nat) ≠ 127 by decide), up_ne (show (129 : Nat) ≠ 127 by decide), up_ne (show (130 : Nat) ≠ 127 by decide)]
              exact cT t t0 t1
            · dsimp only at k1 ⊢
              rw [up_nk (by decide), up_nk (by decide), up_nk (by decide)] at k1
              simp only [up_ne (show 20 + k.toNat ≠ 69 by omega), up_ne (show 20 + k.toNat ≠ 17 by omega), up_ne (show (131 : Nat) ≠ 127 by decide)]
              exact cS k s k0 k1 s0 s1
            · dsimp only at w1 ⊢
              rw [up_nk (by decide), up_nk (by decide), up_nk (by decide)] at w1
              exact cW w w0 w1
        · refine z_push k94_36 ?_
          refine z_iret k94_38 ⟨I, ?_, rfl, ?_⟩
          · unfold xMoon
            rw [if_neg (by omega)]
          · unfold xMoon
            rw [if_neg (by omega)]
            exact ⟨hG, KC.rf⟩
