/-! the public methods: what each answers and what it leaves -/
def CG (I σ : Nat → Int → Int) (P : Int → Nat) (dr : Nat) : Prop := CRn I σ ∧ CRt I σ ∧ CRp I σ P dr ∧ CRl I σ ∧ I 118 0 = σ 127 31
/-- the cache's cells stay, but that it may be forgotten; the reference's cells stay -/
def KC (f : Bool) (I J : Nat → Int → Int) : Prop := (∀ a k, 69 ≤ a → a ≤ 117 → ¬ (a = 69 ∧ k = 17) → J a k = I a k) ∧ (J 69 17 = if f = true then 0 else I 69 17) ∧ ∀ a k, 127 ≤ a → J a k = I a k
abbrev mX : Type := Int × (Nat → Int → Int) × Bool
abbrev clsQ (x : mX) (I : Nat → Int → Int) (P : Int → Nat) (dr : Nat) : mQ := fun o h => ∃ J, o = some (vi x.1) ∧ h = (S0, J, RR P dr) ∧ CG J x.2.1 P dr ∧ KC x.2.2 I J
abbrev refQ (x : mX) (I : Nat → Int → Int) (P : Int → Nat) (dr : Nat) : mQ := fun o h => ∃ J, o = some (vi x.1) ∧ h = (S0, J, RR P dr) ∧ sig J = x.2.1 ∧ ∀ a k, a < 127 → J a k = I a k
theorem KC.rf {I : Nat → Int → Int} : KC false I I := ⟨fun _ _ _ _ _ => rfl, rfl, fun _ _ _ => rfl⟩
theorem KC.up {f : Bool} {I J : Nat → Int → Int} {a : Nat} {k z : Int} (h : KC f I J) (ha : a < 69 ∨ (117 < a ∧ a < 127)) : KC f I (upI J a k z) := ⟨fun a' k' h1 h2 h3 => (up_ne (by omega)).trans (h.1 a' k' h1 h2 h3), (up_ne (by omega)).trans h.2.1, fun a' k' h1 => (up_ne (by omega)).trans (h.2.2 a' k' h1)⟩
theorem KC.fg {f : Bool} {I J : Nat → Int → Int} (h : KC f I J) : KC true I (upI J 69 17 0) := ⟨fun a' k' h1 h2 h3 => (if_neg h3).trans (h.1 a' k' h1 h2 h3), up_at, fun a' k' h1 => (up_ne (by omega)).trans (h.2.2 a' k' h1)⟩
theorem CRn.sg {I σ σ' : Nat → Int → Int} (h : CRn I σ) (k : ∀ a q, (a = 127 ∧ (q = 0 ∨ q = 1 ∨ q = 2 ∨ q = 6 ∨ q = 7 ∨ q = 8 ∨ q = 10)) ∨ (128 ≤ a ∧ a ≤ 132) → σ' a q = σ a q) : CRn I σ' := by
  unfold CRn at h ⊢
  rw [k 127 0 (by omega), k 127 1 (by omega), k 127 2 (by omega), k 127 6 (by omega), k 127 7 (by omega), k 127 8 (by omega), k 127 10 (by omega)]
  obtain ⟨h1, h2, h3, h4, h5, h6, h7, h8, h9, h10⟩ := h
  refine ⟨h1, h2, h3, h4, h5, h6, h7, fun t t0 t1 => ?_, fun w s w0 w1 s0 s1 => ?_, fun w w0 w1 => ?_⟩
  · rw [k 128 t (by omega), k 129 t (by omega), k 130 t (by omega)]
    exact h8 t t0 t1
  · rw [k 131 _ (by omega)]
    exact h9 w s w0 w1 s0 s1
  · rw [k 132 _ (by omega)]
    exact h10 w w0 w1
theorem CRt.sg {I J σ σ' : Nat → Int → Int} (h : CRt I σ) (kI : ∀ a q, 35 ≤ a → a ≤ 36 → J a q = I a q) (k : ∀ a q, (a = 127 ∧ q = 12) ∨ a = 133 → σ' a q = σ a q) : CRt J σ' := by
  unfold CRt at h ⊢
  rw [k 127 12 (by omega), kI 35 1 (by decide) (by decide)]
  refine ⟨h.1, fun i i0 i1 => ?_⟩
  rw [k 133 i (by omega), kI 36 i (by decide) (by decide)]
  exact h.2 i i0 i1
theorem CRp.sg {I σ σ' : Nat → Int → Int} {P : Int → Nat} {dr : Nat} (h : CRp I σ P dr) (k : ∀ a q, (a = 127 ∧ q = 21) ∨ a = 138 → σ' a q = σ a q) : CRp I σ' P dr := by
  have e : ∀ q, σ' 138 q = σ 138 q := fun q => k 138 q (by omega)
  unfold CRp PlAt pf ps at h ⊢
  simp only [e, k 127 21 (by omega)]
  exact h
theorem CRl.sg {I J σ σ' : Nat → Int → Int} (h : CRl I σ) (kI : ∀ a q, 123 ≤ a → a ≤ 125 → J a q = I a q) (k : ∀ a q, (a = 127 ∧ q = 39) ∨ a = 149 ∨ a = 150 → σ' a q = σ a q) : CRl J σ' := by
  unfold CRl at h ⊢
  refine ⟨fun l l0 l1 => ?_, fun q q0 q1 => ?_, ?_⟩
  · rw [k 149 l (by omega), kI 125 l (by decide) (by decide)]
    exact h.1 l l0 l1
  · rw [k 150 q (by omega), kI 124 q (by decide) (by decide)]
    exact h.2.1 q q0 q1
  · rw [k 127 39 (by omega), kI 123 2 (by decide) (by decide)]
    exact h.2.2
/-- the groups that an operation on the night leaves as they were -/
theorem CG.night {I J σ σ' : Nat → Int → Int} {P : Int → Nat} {dr : Nat} (hP : WFp σ) (h : CG I σ P dr) (hn : CRn J σ') (kI : ∀ a q, (35 ≤ a ∧ a ≤ 68) ∨ (118 ≤ a ∧ a ≤ 126) → J a q = I a q) (k : ∀ a q, (a = 127 ∧ (q = 12 ∨ q = 21 ∨ q = 31 ∨ q = 39)) ∨ a = 133 ∨ a = 138 ∨ a = 149 ∨ a = 150 → σ' a q = σ a q) : CG J σ' P dr :=
  ⟨hn, h.2.1.sg (fun a q _ _ => kI a q (by omega)) (fun a q _ => k a q (by omega)), (h.2.2.1.keep hP (fun a q _ _ => kI a q (by omega))).sg (fun a q _ => k a q (by omega)), h.2.2.2.1.sg (fun a q _ _ => kI a q (by omega)) (fun a q _ => k a q (by omega)), by rw [kI 118 0 (by omega), k 127 31 (by omega)]; exact h.2.2.2.2⟩
/-! the operations, purely -/
def xUnw (σ : Nat → Int → Int) : mX := (σ 127 10, upI σ 127 10 0, false)
def xAir (σ : Nat → Int → Int) (t s : Int) : mX := (if (0 ≤ t ∧ t < σ 127 2) ∧ (0 ≤ s ∧ s < σ 127 0) then (if airS σ t s ≤ σ 129 t then airS σ t s else -1) else -2, σ, false)
def xMoon (σ : Nat → Int → Int) (r a b : Int) : mX := if (0 ≤ r ∧ r ≤ 3) ∧ (0 ≤ a ∧ a < σ 127 0) ∧ (0 ≤ b ∧ b < σ 127 0) ∧ a ≤ b then (1, upI (upI (upI σ 127 6 r) 127 7 a) 127 8 b, true) else (-3, σ, false)
def xTgt (σ : Nat → Int → Int) (m r g : Int) : mX := if (0 ≤ m ∧ m ≤ 40) ∧ (0 ≤ r ∧ r ≤ 8) ∧ (0 ≤ g ∧ g ≤ 3) then (if σ 127 2 = 8 then (-5, σ, false) else (σ 127 2, upI (upI (upI (upI σ 128 (σ 127 2) m) 129 (σ 127 2) r) 130 (σ 127 2) g) 127 2 (σ 127 2 + 1), false)) else (-3, σ, false)
set_option maxRecDepth 20000 in
theorem r149 {d : Nat} {I : Nat → Int → Int} {P : Int → Nat} {dr : Nat} {σ : Nat → Int → Int} (hs : sig I = σ) (hW : WFs σ) : cal (d + 1) 149 [vr 127] I P dr (refQ (xUnw σ) I P dr) := by
  refine cal_in (Nat.le_of_ble_eq_true rfl) ?_
  obtain ⟨hN, hT, hP, hA, hL⟩ := id hW
  have b0 := hN.1
  have b1 := hN.2.1
  have b2 := hN.2.2.1
  have b10 := hN.2.2.2.2.2.2.2.1
  show wp _ _ _ _ 0 [vr 127, vj] [] _
  refine s_ald k149_0 rfl ?_
  refine z_getIe (z := σ 127 10) k149_1 rfl (st_s hs rfl) ?_
  refine s_ist1 k149_4 rfl ?_
  refine s_ald k149_5 rfl ?_
  refine z_push k149_6 ?_
  refine z_putIe (q := 10) k149_7 rfl rfl ?_
  refine s_ild k149_10 rfl ?_
  refine z_iret k149_11 ⟨_, ?_, rfl, ?_, fun a k hk => ((up_ne (by omega)).trans rfl)⟩
  · unfold xUnw
    rfl
  · unfold xUnw
    show _ = _
    exact ((sig_up rfl).trans (by rw [hs]))
set_option maxRecDepth 20000 in
theorem r145 {d : Nat} {I : Nat → Int → Int} {P : Int → Nat} {dr : Nat} {σ : Nat → Int → Int} (hs : sig I = σ) (hW : WFs σ) {t s : Int} (i_t : inR t) (i_s : inR s) : cal (d + 4) 145 [vr 127, vi t, vi s] I P dr (refQ (xAir σ t s) I P dr) := by
  refine cal_in (Nat.le_of_ble_eq_true rfl) ?_
  obtain ⟨hN, hT, hP, hA, hL⟩ := id hW
  have b0 := hN.1
  have b1 := hN.2.1
  have b2 := hN.2.2.1
  have b10 := hN.2.2.2.2.2.2.2.1
  show wp _ _ _ _ 0 [vr 127, vi t, vi s] [] _
  refine s_ald k145_0 rfl ?_
  refine s_ild k145_1 rfl ?_
  refine z_inv1A k145_2 rfl (Nat.le_of_ble_eq_true rfl) (c138 hs (by omega) i_t) ?_
  refine z_ifeqb k145_5 (fun h5 => ?_) (fun h5 => ?_)
  · refine z_push k145_16 ?_
    refine z_iret k145_18 ⟨_, ?_, rfl, hs, fun _ _ _ => rfl⟩
    unfold xAir
    rw [if_neg (by omega)]
  · refine s_ald k145_8 rfl ?_
    refine s_ild k145_9 rfl ?_
    refine z_inv1A k145_10 rfl (Nat.le_of_ble_eq_true rfl) (c137 hs (by omega) i_s) ?_
    refine z_ifneb k145_13 (fun h13 => ?_) (fun h13 => ?_)
    · refine s_ald k145_19 rfl ?_
      refine s_ild k145_20 rfl ?_
      refine s_ild k145_21 rfl ?_
      refine z_inv2A k145_22 rfl (Nat.le_of_ble_eq_true rfl) (c144 hs (by omega) (by omega) (hN.tg (by omega) (by omega)).1 (hN.tg (by omega) (by omega)).2.1 b1 (by omega) (by omega)) ?_
      refine z_ifeqb k145_25 (fun h25 => ?_) (fun h25 => ?_)
      · refine z_push k145_37 ?_
        refine z_iret k145_38 ⟨_, ?_, rfl, hs, fun _ _ _ => rfl⟩
        unfold xAir
        rw [if_pos (by omega), if_neg (by omega)]
      · refine s_ald k145_28 rfl ?_
        refine s_ild k145_29 rfl ?_
        refine s_ild k145_30 rfl ?_
        refine z_inv2A k145_31 rfl (Nat.le_of_ble_eq_true rfl) (c143 hs (by omega) (by omega) (hN.tg (by omega) (by omega)).1 (hN.tg (by omega) (by omega)).2.1 b1 (by omega) (by omega)) ?_
        refine z_goto k145_34 ?_
        refine z_iret k145_38 ⟨_, ?_, rfl, hs, fun _ _ _ => rfl⟩
        unfold xAir
        rw [if_pos (by omega), if_pos (by omega)]
    · refine z_push k145_16 ?_
      refine z_iret k145_18 ⟨_, ?_, rfl, hs, fun _ _ _ => rfl⟩
      unfold xAir
      rw [if_neg (by omega)]
set_option maxRecDepth 20000 in
theorem k93 {d : Nat} {I : Nat → Int → Int} {P : Int → Nat} {dr : Nat} {σ : Nat → Int → Int} (hG : CG I σ P dr) (hW : WFs σ) {t s : Int} (i_t : inR t) (i_s : inR s) : cal (d + 4) 93 [vr 16, vi t, vi s] I P dr (clsQ (xAir σ t s) I P dr) := by
  refine cal_in (Nat.le_of_ble_eq_true rfl) ?_
  obtain ⟨hN, hT, hP, hA, hL⟩ := id hW
  have b0 := hN.1
  have b1 := hN.2.1
  have b2 := hN.2.2.1
  have b10 := hN.2.2.2.2.2.2.2.1
  obtain ⟨hC, hCt, hcp, hCl, hca⟩ := id hG
  obtain ⟨cn, ct, cg, cmr, cmf, cmt, cw, cT, cS, cW⟩ := id hC
  show wp _ _ _ _ 0 [vr 16, vi t, vi s, vj] [] _
  refine s_ald k93_0 rfl ?_
  refine z_getRe (b := 17) k93_1 rfl rr_16_0 ?_
  refine s_ild k93_4 rfl ?_
  refine z_inv1A k93_5 rfl (Nat.le_of_ble_eq_true rfl) (c58 hC (by omega) i_t) ?_
  refine z_ifeqb k93_8 (fun h8 => ?_) (fun h8 => ?_)
  · refine z_push k93_22 ?_
    refine z_iret k93_24 ⟨_, ?_, rfl, hG, KC.rf⟩
    unfold xAir
    rw [if_neg (by omega)]
  · refine s_ald k93_11 rfl ?_
    refine z_getRe (b := 17) k93_12 rfl rr_16_0 ?_
    refine s_ild k93_15 rfl ?_
    refine z_inv1A k93_16 rfl (Nat.le_of_ble_eq_true rfl) (c57 hC (by omega) i_s) ?_
    refine z_ifneb k93_19 (fun h19 => ?_) (fun h19 => ?_)
    · refine s_ald k93_25 rfl ?_
      refine z_getRe (b := 17) k93_26 rfl rr_16_0 ?_
      refine z_getRe (b := 18) k93_29 rfl rr_17_2 ?_
      refine s_ild k93_32 rfl ?_
      refine z_aalde (b := 27 + t.toNat) k93_33 rfl (by omega) (show t < ((8 : Nat) : Int) by omega) (rr_tg (by omega) (by omega)) ?_
      refine s_ast3 k93_34 rfl ?_
      refine s_ald k93_35 rfl ?_
      refine z_getRe (b := 17) k93_36 rfl rr_16_0 ?_
      refine s_ald k93_39 rfl ?_
      refine s_ild k93_40 rfl ?_
      refine z_inv2A k93_41 rfl (Nat.le_of_ble_eq_true rfl) (c64 hC (by omega) (by omega) b2.2 (hN.tg (by omega) (by omega)).1 (hN.tg (by omega) (by omega)).2.1 b1 (by omega) (by omega)) ?_
      refine z_ifeqb k93_44 (fun h44 => ?_) (fun h44 => ?_)
      · refine z_push k93_59 ?_
        refine z_iret k93_60 ⟨_, ?_, rfl, hG, KC.rf⟩
        unfold xAir
        rw [if_pos (by omega), if_neg (by omega)]
      · refine s_ald k93_47 rfl ?_
        refine z_getRe (b := 17) k93_48 rfl rr_16_0 ?_
        refine s_ald k93_51 rfl ?_
        refine s_ild k93_52 rfl ?_
        refine z_inv2A k93_53 rfl (Nat.le_of_ble_eq_true rfl) (c63 hC (by omega) (by omega) b2.2 (hN.tg (by omega) (by omega)).1 (hN.tg (by omega) (by omega)).2.1 b1 (by omega) (by omega)) ?_
        refine z_goto k93_56 ?_
        refine z_iret k93_60 ⟨_, ?_, rfl, hG, KC.rf⟩
        unfold xAir
        rw [if_pos (by omega), if_pos (by omega)]
    · refine z_push k93_22 ?_
      refine z_iret k93_24 ⟨_, ?_, rfl, hG, KC.rf⟩
      unfold xAir
      rw [if_neg (by omega)]
set_option maxRecDepth 20000 in
theorem r146 {d : Nat} {I : Nat → Int → Int} {P : Int → Nat} {dr : Nat} {σ : Nat → Int → Int} (hs : sig I = σ) (hW : WFs σ) {r a b : Int} (i_r : inR r) (i_a : inR a) (i_b : inR b) : cal (d + 3) 146 [vr 127, vi r, vi a, vi b] I P dr (refQ (xMoon σ r a b) I P dr) := by
  refine cal_in (Nat.le_of_ble_eq_true rfl) ?_
  obtain ⟨hN, hT, hP, hA, hL⟩ := id hW
  have b0 := hN.1
  have b1 := hN.2.1
  have b2 := hN.2.2.1
  have b10 := hN.2.2.2.2.2.2.2.1
  show wp _ _ _ _ 0 [vr 127, vi r, vi a, vi b] [] _
  refine s_ild k146_0 rfl ?_
  refine z_push k146_1 ?_
  refine z_push k146_2 ?_
  refine z_sta3A k146_3 (Nat.le_of_ble_eq_true rfl) (c136 i_r (inR_lit rfl) (inR_lit rfl)) ?_
  refine z_ifeqb k146_6 (fun h6 => ?_) (fun h6 => ?_)
  · refine z_push k146_30 ?_
    refine z_iret k146_32 ⟨_, ?_, rfl, ?_, fun a k hk => rfl⟩
    · unfold xMoon
      rw [if_neg (by omega)]
    · unfold xMoon
      rw [if_neg (by omega)]
      exact hs
  · refine s_ald k146_9 rfl ?_
    refine s_ild k146_10 rfl ?_
    refine z_inv1A k146_11 rfl (Nat.le_of_ble_eq_true rfl) (c137 hs (by omega) i_a) ?_
    refine z_ifeqb k146_14 (fun h14 => ?_) (fun h14 => ?_)
    · refine z_push k146_30 ?_
      refine z_iret k146_32 ⟨_, ?_, rfl, ?_, fun a k hk => rfl⟩
      · unfold xMoon
        rw [if_neg (by omega)]
      · unfold xMoon
        rw [if_neg (by omega)]
        exact hs
    · refine s_ald k146_17 rfl ?_
      refine s_ild k146_18 rfl ?_
      refine z_inv1A k146_19 rfl (Nat.le_of_ble_eq_true rfl) (c137 hs (by omega) i_b) ?_
      refine z_ifeqb k146_22 (fun h22 => ?_) (fun h22 => ?_)
      · refine z_push k146_30 ?_
        refine z_iret k146_32 ⟨_, ?_, rfl, ?_, fun a k hk => rfl⟩
        · unfold xMoon
          rw [if_neg (by omega)]
        · unfold xMoon
          rw [if_neg (by omega)]
          exact hs
      · refine s_ild k146_25 rfl ?_
        refine s_ild k146_26 rfl ?_
        refine s_icle k146_27 i_a i_b (fun h27 => ?_) (fun h27 => ?_)
        · refine s_ald k146_33 rfl ?_
          refine s_ild k146_34 rfl ?_
          refine z_putIe (q := 6) k146_35 rfl rfl ?_
          refine s_ald k146_38 rfl ?_
          refine s_ild k146_39 rfl ?_
          refine z_putIe (q := 7) k146_40 rfl rfl ?_
          refine s_ald k146_43 rfl ?_
          refine s_ild k146_44 rfl ?_
          refine z_putIe (q := 8) k146_45 rfl rfl ?_
          refine z_push k146_48 ?_
          refine z_iret k146_49 ⟨_, ?_, rfl, ?_, fun a k hk => ((up_ne (by omega)).trans ((up_ne (by omega)).trans ((up_ne (by omega)).trans rfl)))⟩
          · unfold xMoon
            rw [if_pos (by omega)]
          · unfold xMoon
            rw [if_pos (by omega)]
            exact ((sig_up rfl).trans (by rw [((sig_up rfl).trans (by rw [((sig_up rfl).trans (by rw [hs]))]))]))
        · refine z_push k146_30 ?_
          refine z_iret k146_32 ⟨_, ?_, rfl, ?_, fun a k hk => rfl⟩
          · unfold xMoon
            rw [if_neg (by omega)]
          · unfold xMoon
            rw [if_neg (by omega)]
            exact hs
set_option maxRecDepth 20000 in
theorem r142 {d : Nat} {I : Nat → Int → Int} {P : Int → Nat} {dr : Nat} {σ : Nat → Int → Int} (hs : sig I = σ) (hW : WFs σ) {m r g : Int} (i_m : inR m) (i_r : inR r) (i_g : inR g) : cal (d + 2) 142 [vr 127, vi m, vi r, vi g] I P dr (refQ (xTgt σ m r g) I P dr) := by
  refine cal_in (Nat.le_of_ble_eq_true rfl) ?_
  obtain ⟨hN, hT, hP, hA, hL⟩ := id hW
  have b0 := hN.1
  have b1 := hN.2.1
  have b2 := hN.2.2.1
  have b10 := hN.2.2.2.2.2.2.2.1
  show wp _ _ _ _ 0 [vr 127, vi m, vi r, vi g] [] _
  refine s_ild k142_0 rfl ?_
  refine z_push k142_1 ?_
  refine z_push k142_2 ?_
  refine z_sta3A k142_4 (Nat.le_of_ble_eq_true rfl) (c136 i_m (inR_lit rfl) (inR_lit rfl)) ?_
  refine z_ifeqb k142_7 (fun h7 => ?_) (fun h7 => ?_)
  · refine z_push k142_29 ?_
    refine z_iret k142_31 ⟨_, ?_, rfl, ?_, fun a k hk => rfl⟩
    · unfold xTgt
      rw [if_neg (by omega)]
    · unfold xTgt
      rw [if_neg (by omega)]
      exact hs
  · refine s_ild k142_10 rfl ?_
    refine z_push k142_11 ?_
    refine z_push k142_12 ?_
    refine z_sta3A k142_14 (Nat.le_of_ble_eq_true rfl) (c136 i_r (inR_lit rfl) (inR_lit rfl)) ?_
    refine z_ifeqb k142_17 (fun h17 => ?_) (fun h17 => ?_)
    · refine z_push k142_29 ?_
      refine z_iret k142_31 ⟨_, ?_, rfl, ?_, fun a k hk => rfl⟩
      · unfold xTgt
        rw [if_neg (by omega)]
      · unfold xTgt
        rw [if_neg (by omega)]
        exact hs
    · refine s_ild k142_20 rfl ?_
      refine z_push k142_21 ?_
      refine z_push k142_22 ?_
      refine z_sta3A k142_23 (Nat.le_of_ble_eq_true rfl) (c136 i_g (inR_lit rfl) (inR_lit rfl)) ?_
      refine z_ifneb k142_26 (fun h26 => ?_) (fun h26 => ?_)
      · refine s_ald k142_32 rfl ?_
        refine z_getIe (z := σ 127 2) k142_33 rfl (st_s hs rfl) ?_
        refine z_push k142_36 ?_
        refine s_icne k142_38 ⟨by omega, by omega⟩ (inR_lit rfl) (fun h38 => ?_) (fun h38 => ?_)
        · refine s_ald k142_44 rfl ?_
          refine z_getRe (b := 128) k142_45 rfl rr_127_3 ?_
          refine s_ald k142_48 rfl ?_
          refine z_getIe (z := σ 127 2) k142_49 rfl (st_s hs rfl) ?_
          refine s_ild k142_52 rfl ?_
          refine z_iast k142_53 rfl (by omega) (show (σ 127 2) < ((8 : Nat) : Int) by omega) ?_
          refine s_ald k142_54 rfl ?_
          refine z_getRe (b := 129) k142_55 rfl rr_127_4 ?_
          refine s_ald k142_58 rfl ?_
          refine z_getIe (z := σ 127 2) k142_59 rfl ((up_ne (by decide)).trans (st_s hs rfl)) ?_
          refine s_ild k142_62 rfl ?_
          refine z_iast k142_63 rfl (by omega) (show (σ 127 2) < ((8 : Nat) : Int) by omega) ?_
          refine s_ald k142_64 rfl ?_
          refine z_getRe (b := 130) k142_65 rfl rr_127_5 ?_
          refine s_ald k142_68 rfl ?_
          refine z_getIe (z := σ 127 2) k142_69 rfl ((up_ne (by decide)).trans ((up_ne (by decide)).trans (st_s hs rfl))) ?_
          refine s_ild k142_72 rfl ?_
          refine z_iast k142_73 rfl (by omega) (show (σ 127 2) < ((8 : Nat) : Int) by omega) ?_
          refine s_ald k142_74 rfl ?_
          refine z_dupr k142_75 ?_
          refine z_getIe (z := σ 127 2) k142_76 rfl ((up_ne (by decide)).trans ((up_ne (by decide)).trans ((up_ne (by decide)).trans (st_s hs rfl)))) ?_
          refine z_push k142_79 ?_
          refine z_iadd k142_80 ?_
          refine z_putIe (q := 2) k142_81 rfl rfl ?_
          refine s_ald k142_84 rfl ?_
          refine z_getIe (z := (σ 127 2) + 1) k142_85 rfl up_at ?_
          refine z_push k142_88 ?_
          refine z_isub k142_89 ?_
          refine z_iret k142_90 ⟨_, ?_, rfl, ?_, fun a k hk => ((up_ne (by omega)).trans ((up_ne (by omega)).trans ((up_ne (by omega)).trans ((up_ne (by omega)).trans rfl))))⟩
          · unfold xTgt
            rw [if_pos (by omega), if_neg (by omega)]
            exact congrArg (fun u => some (vi u)) (by omega)
          · unfold xTgt
            rw [if_pos (by omega), if_neg (by omega)]
            exact ((sig_up rfl).trans (by rw [((sig_up rfl).trans (by rw [((sig_up rfl).trans (by rw [((sig_up rfl).trans (by rw [hs]))]))]))]))
        · refine z_push k142_41 ?_
          refine z_iret k142_43 ⟨_, ?_, rfl, ?_, fun a k hk => rfl⟩
          · unfold xTgt
            rw [if_pos (by omega), if_pos (by omega)]
          · unfold xTgt
            rw [if_pos (by omega), if_pos (by omega)]
            exact hs
      · refine z_push k142_29 ?_
        refine z_iret k142_31 ⟨_, ?_, rfl, ?_, fun a k hk => rfl⟩
        · unfold xTgt
          rw [if_neg (by omega)]
        · unfold xTgt
          rw [if_neg (by omega)]
          exact hs
