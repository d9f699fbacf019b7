/-! the class reads -/
theorem cl_b {at_ j : Int} {r : Int → Int} (a0 : 0 ≤ at_) (a1 : at_ ≤ 20) : 0 ≤ clP (at_, j, r) ∧ clP (at_, j, r) ≤ 21 := by
  unfold clP
  dsimp only
  (repeat' split) <;> omega
theorem wc_x {J : Nat → Int → Int} {dr : Nat} {p j : Int} (j0 : 0 ≤ j) (j1 : j ≤ 2) (hd : 37 ≤ dr) : FX J (wcH J dr p j) dr ∧ TF J (wcH J dr p j) := by
  unfold wcH
  split
  · exact ⟨(FX.rf.up (by omega)).up (by omega), (TF.rf.up (by omega)).up (by omega)⟩
  · exact ⟨FX.rf.up (by omega), TF.rf.up (by omega)⟩
theorem sg_x {J : Nat → Int → Int} {dr : Nat} {p j : Int} : FX J (sgH J p j) dr ∧ TF J (sgH J p j) := by
  unfold sgH
  split
  · exact ⟨FX.rf.up (by omega), TF.rf.up (by omega)⟩
  · exact ⟨(FX.rf.up (by omega)).up (by omega), (TF.rf.up (by omega)).up (by omega)⟩
theorem wa_t {t : Int → Int} {m b p : Nat} (hb : b < m) (hl : isLe (t b) = true) (q : Int) : (waS q ≤ 11 → (tiP t b (tkE t m b) (waS q) ↔ kdS t m b = wdS (waS q))) ∧ (waS q = 12 → ¬ tiP t b (tkE t m b) (waS q)) := by
  refine ⟨fun h => (kd_wd hb hl (wa_b q).1 h).symm, fun h u => ?_⟩
  rw [h] at u
  have h1 := u.1
  have h2 := tk_b (t := t) hb
  have h3 : (mStr 12).length = 0 := rfl
  omega
theorem DF.h4 {J : Nat → Int → Int} {dr : Nat} {r : Int → Int} {z : Int} (h : DF J dr r) : DF (upI J dr 4 z) dr (updR r 4 z) := by
  refine ⟨fun p p0 p1 hp => ?_, fun i p i0 i1 p0 p1 hp => ?_⟩
  · rw [ur_ne (by omega)] at hp ⊢
    exact (up_nk (by omega)).trans (h.1 p p0 p1 hp)
  · rw [ur_ne (by omega)] at hp ⊢
    exact (up_ne (by omega)).trans (h.2 i p i0 i1 p0 p1 hp)
theorem DF.fx {I J : Nat → Int → Int} {dr : Nat} {r : Int → Int} (h : DF I dr r) (hd : 37 ≤ dr) (k : ∀ a q, ¬ (a = 35 ∧ 3 ≤ q ∧ q ≤ 8) → J a q = I a q) : DF J dr r := ⟨fun p p0 p1 hp => (k dr p (by omega)).trans (h.1 p p0 p1 hp), fun i p i0 i1 p0 p1 hp => (k _ p (by omega)).trans (h.2 i p i0 i1 p0 p1 hp)⟩
theorem rd_nk {σ : Nat → Int → Int} {t : Int → Int} {m : Nat} : ∀ (f k : Nat) (x : mR3), (rdS σ t m f k x).2.2.2 = false → 0 ≤ (rdS σ t m f k x).1 ∧ (rdS σ t m f k x).1 ≤ m
  | 0, k, x, h => ⟨Int.le_refl _, by show (0 : Int) ≤ m; omega⟩
  | f + 1, k, x, h => by
    by_cases c : x.1 = 50
    · rw [rd_50 c] at h
      cases h
    · cases e : stpS σ x.1 x.2.1 x.2.2 (kiT t m k) (vaT t m k) with
      | none =>
        rw [rd_no c e]
        have := (pl_le (t := t) (m := m) (k := k)).2
        exact ⟨by dsimp only; omega, by dsimp only; omega⟩
      | some y =>
        rw [rd_go c e] at h ⊢
        exact rd_nk f (k + 1) y h
theorem CRp.fx {I J σ : Nat → Int → Int} {P : Int → Nat} {dr : Nat} (hP : WFp σ) (h : CRp I σ P dr) (hF : FX I J dr) : CRp J σ P dr := by
  obtain ⟨h1, h2, h3⟩ := h
  have b1 := hP.1
  have hdr := h2.2.1
  have hb := pl_b hdr
  refine ⟨(hF 42 1 (by omega) (by rcases hdr with e | e | e | e | e | e <;> omega) (by rcases hdr with e | e | e | e | e | e <;> omega)).trans h1, h2, fun p p0 p1 => ?_⟩
  have hp := h2.1 p p0 (by omega)
  have hne := h2.2.2.2 p p0 (by omega)
  have hpb := pl_b hp
  refine (h3 p p0 p1).mv (hP.2 p p0 p1).2.2.2.2.1.2 (fun c q hc => hF c q (by omega) ?_ ?_) (fun _ _ _ => rfl)
  · rcases hp with e | e | e | e | e | e <;> rcases hdr with f | f | f | f | f | f <;> omega
  · rcases hp with e | e | e | e | e | e <;> rcases hdr with f | f | f | f | f | f <;> omega
theorem CG.fx {I J σ : Nat → Int → Int} {P : Int → Nat} {dr : Nat} (hN : WFn σ) (hP : WFp σ) (h : CG I σ P dr) (hF : FX I J dr) : CG J σ P dr := by
  have hb := pl_b h.2.2.1.2.1.2.1
  exact ⟨h.1.keep hN (fun a q _ _ => hF a q (by omega) (by omega) (by omega)), h.2.1.k (hF 35 1 (by omega) (by omega) (by omega)) (fun q => hF 36 q (by omega) (by omega) (by omega)), h.2.2.1.fx hP hF, h.2.2.2.1.sg (fun a q _ _ => hF a q (by omega) (by omega) (by omega)) (fun _ _ _ => rfl), (hF 118 0 (by omega) (by omega) (by omega)).trans h.2.2.2.2⟩
theorem KC.fx {I J : Nat → Int → Int} {dr : Nat} (hd : isPl dr) (hF : FX I J dr) : KC false I J := by
  have hb := pl_b hd
  exact ⟨fun a k _ _ _ => hF a k (by omega) (by omega) (by omega), hF 69 17 (by omega) (by omega) (by omega), fun a k _ => hF a k (by omega) (by omega) (by omega)⟩
/-- a plan that is taken in -/
theorem pln_7 {σ : Nat → Int → Int} {q : Int} (h1 : q ≠ 12) (h2 : q ≠ 21) : plnS σ 127 q = σ 127 q := by
  unfold plnS adI
  rw [up_nk h1, up_nk h2, if_neg (by omega)]
theorem pln_o {σ : Nat → Int → Int} {a : Nat} {q : Int} (h1 : a ≠ 127) (h2 : a ≠ 138) : plnS σ a q = σ a q := by
  unfold plnS adI
  rw [up_ne h1, up_ne h1, if_neg (fun u => h2 u.1)]
theorem pln_21 {σ : Nat → Int → Int} : plnS σ 127 21 = σ 127 21 + 1 := by
  unfold plnS
  rw [up_nk (by decide), up_at]
theorem pln_12 {σ : Nat → Int → Int} : plnS σ 127 12 = 0 := up_at
theorem pln_lo {σ : Nat → Int → Int} {p k : Int} (h : p < σ 127 21) (k0 : 0 ≤ k) (k1 : k < 23) : plnS σ 138 (23 * p + k) = σ 138 (23 * p + k) := by
  unfold plnS adI
  rw [up_ne (by decide), up_ne (by decide), if_neg (by omega)]
theorem pln_hi {σ : Nat → Int → Int} {k : Int} (k0 : 0 ≤ k) (k1 : k < 23) : plnS σ 138 (23 * σ 127 21 + k) = (rsS σ).2.2.1 k := by
  unfold plnS adI
  rw [up_ne (by decide), up_ne (by decide), if_pos ⟨rfl, by omega, by omega⟩, show 23 * σ 127 21 + k - 23 * σ 127 21 = k by omega]
theorem rs_ok {σ : Nat → Int → Int} (h : (rsS σ).2.2.2 = true) : ∃ (j : Int) (r : Int → Int), RWF σ (50, j, r) ∧ (rsS σ).2.2.1 = updR r 4 (j + 1) := by
  obtain ⟨y, y1, y2, y3⟩ := rd_WF 163 0 (0, 0, fun _ => -1) RWF_0 h
  obtain ⟨a, j, r⟩ := y
  dsimp only at y2 y3
  subst y2
  exact ⟨j, r, y1, y3⟩
theorem pln_WF {σ : Nat → Int → Int} (h : (rsS σ).2.2.2 = true) : PlWF (plnS σ) (σ 127 21) := by
  obtain ⟨j, r, hW, hr⟩ := rs_ok h
  obtain ⟨w1, w2, w3, w4, w5, w6, w7, w8, w9, w10, w11, w12, w13, w14⟩ := hW
  dsimp only at w1 w5 w6 w7 w8 w9 w10 w11 w12 w13 w14
  have e : ∀ k, 0 ≤ k → k < 23 → k ≠ 4 → plnS σ 138 (23 * σ 127 21 + k) = r k := fun k k0 k1 k4 => by rw [pln_hi k0 k1, hr, ur_ne k4]
  have e4 : pf (plnS σ) (σ 127 21) 4 = j + 1 := by unfold pf; rw [pln_hi (by decide) (by decide), hr, ur_at]
  have es : ∀ i q, 0 ≤ i → i < 3 → 0 ≤ q → q < 6 → ps (plnS σ) (σ 127 21) i q = r (5 + 6 * i + q) := fun i q i0 i1 q0 q1 => by
    unfold ps
    rw [show 23 * σ 127 21 + 5 + 6 * i + q = 23 * σ 127 21 + (5 + 6 * i + q) by omega]
    exact e _ (by omega) (by omega) (by omega)
  refine ⟨by rw [show pf (plnS σ) (σ 127 21) 0 = r 0 from e 0 (by decide) (by decide) (by decide)]; exact w5 (by decide), by rw [show pf (plnS σ) (σ 127 21) 1 = r 1 from e 1 (by decide) (by decide) (by decide)]; exact w6 (by decide), by rw [show pf (plnS σ) (σ 127 21) 2 = r 2 from e 2 (by decide) (by decide) (by decide), pln_7 (by decide) (by decide)]; exact w7 (by decide), by rw [show pf (plnS σ) (σ 127 21) 3 = r 3 from e 3 (by decide) (by decide) (by decide)]; exact w8 (by decide), by rw [e4]; omega, fun i i0 i1 => ?_⟩
  rw [e4, es i 0 i0 i1 (by decide) (by decide), es i 1 i0 i1 (by decide) (by decide), es i 2 i0 i1 (by decide) (by decide), es i 3 i0 i1 (by decide) (by decide), es i 4 i0 i1 (by decide) (by decide), es i 5 i0 i1 (by decide) (by decide), Int.add_zero]
  refine ⟨fun u => ?_, fun u q q0 q1 => by rw [es i q i0 i1 q0 q1]; exact w14 i (by omega) i1 q q0 q1⟩
  by_cases c : i = j
  · subst c
    exact ⟨w10 (Or.inr rfl), w11 (Or.inr rfl), (w12 (Or.inr rfl)).1, (w12 (Or.inr rfl)).2, fun u => ⟨(w13 u).1 (by decide), (w13 u).2 (by decide)⟩⟩
  · exact w9 i i0 (by omega)
/-- the class's draft holds the plan -/
theorem pln_at {σ J : Nat → Int → Int} {dr : Nat} (h : (rsS σ).2.2.2 = true) (hD : DF J dr (rsS σ).2.2.1) (h4 : J dr 4 = (rsS σ).2.2.1 4) : PlAt J (plnS σ) dr (σ 127 21) := by
  have hP := pln_WF h
  have e : ∀ k, 0 ≤ k → k < 23 → plnS σ 138 (23 * σ 127 21 + k) = (rsS σ).2.2.1 k := fun k k0 k1 => pln_hi k0 k1
  have e0 : pf (plnS σ) (σ 127 21) 0 = (rsS σ).2.2.1 0 := e 0 (by decide) (by decide)
  have e1 : pf (plnS σ) (σ 127 21) 1 = (rsS σ).2.2.1 1 := e 1 (by decide) (by decide)
  have e2 : pf (plnS σ) (σ 127 21) 2 = (rsS σ).2.2.1 2 := e 2 (by decide) (by decide)
  have e3 : pf (plnS σ) (σ 127 21) 3 = (rsS σ).2.2.1 3 := e 3 (by decide) (by decide)
  have e4 : pf (plnS σ) (σ 127 21) 4 = (rsS σ).2.2.1 4 := e 4 (by decide) (by decide)
  have es : ∀ i q, 0 ≤ i → i < 3 → 0 ≤ q → q < 6 → ps (plnS σ) (σ 127 21) i q = (rsS σ).2.2.1 (5 + 6 * i + q) := fun i q i0 i1 q0 q1 => by
    unfold ps
    rw [show 23 * σ 127 21 + 5 + 6 * i + q = 23 * σ 127 21 + (5 + 6 * i + q) by omega]
    exact e _ (by omega) (by omega)
  have p0 := hP.1
  have p1 := hP.2.1
  have p2 := hP.2.2.1
  have p3 := hP.2.2.2.1
  have p4 := hP.2.2.2.2.1
  refine ⟨(hD.1 0 (by decide) (by decide) (by omega)).trans e0.symm, (hD.1 1 (by decide) (by decide) (by omega)).trans e1.symm, (hD.1 2 (by decide) (by decide) (by omega)).trans e2.symm, (hD.1 3 (by decide) (by decide) (by omega)).trans e3.symm, h4.trans e4.symm, fun i i0 i1 => ?_⟩
  obtain ⟨s0, s1, s2, s3, s4, s5⟩ := hP.st i0 i1
  have f : ∀ q, 0 ≤ q → q < 6 → ps (plnS σ) (σ 127 21) i q ≠ -1 → J (dr + 2 + i.toNat) q = ps (plnS σ) (σ 127 21) i q := fun q q0 q1 hq => by
    rw [es i q i0 s0 q0 q1] at hq ⊢
    exact hD.2 i q i0 s0 q0 q1 hq
  exact ⟨f 0 (by decide) (by decide) (by omega), f 1 (by decide) (by decide) (by omega), f 2 (by decide) (by decide) (by omega), f 3 (by decide) (by decide) (by omega), fun u => ⟨f 4 (by decide) (by decide) (by have := s5 u; omega), f 5 (by decide) (by decide) (by have := s5 u; omega)⟩⟩
theorem br_20 {σ J : Nat → Int → Int} {dr : Nat} {at_ j : Int} {r : Int → Int} (hd : 37 ≤ dr) (hW : RWF σ (at_, j, r)) (h50 : at_ ≠ 50) (hR : RLx J dr (at_, j, r)) (e : clP (at_, j, r) = 20) : 0 ≤ J (dr + 2 + j.toNat) 4 ∧ J (dr + 2 + j.toNat) 4 ≤ 6 := by
  obtain ⟨w1, w2, w3, w4, -, -, -, -, -, -, -, -, w13, -⟩ := hW
  dsimp only at w1 w2 w3 w4 w13
  have e19 : at_ = 19 := by
    unfold clP at e
    dsimp only at e
    (repeat' split at e) <;> omega
  have h := (w13 (w4 (by omega))).1 (by omega)
  rw [hR.2.2.2 j 4 w1.1 (by omega) (by decide) (by decide) (by show r (5 + 6 * j + 4) ≠ -1; omega)]
  exact h
set_option maxRecDepth 20000 in
theorem c40 {d : Nat} {I : Nat → Int → Int} {P : Int → Nat} {dr : Nat} {σ : Nat → Int → Int} (hd : isPl dr) (hCt : CRt I σ) (hT : WFt σ) (b2 : 0 ≤ σ 127 2 ∧ σ 127 2 ≤ 8) {k : Nat} {at_ j : Int} {r : Int → Int} (hW : RWF σ (at_, j, r)) (h50 : at_ ≠ 50) (hR : RLx I dr (at_, j, r)) (h6 : I 35 6 = ((plT (σ 133) (σ 127 12).toNat k : Nat) : Int)) (h7 : I 35 7 = ((psT (σ 133) (σ 127 12).toNat (k + 1) : Nat) : Int)) (h5 : I 35 5 = ckS (σ 133) (σ 127 12).toNat (plT (σ 133) (σ 127 12).toNat k)) (h8 : I 35 5 = 1 → I 35 8 = vlS (σ 133) (σ 127 12).toNat (plT (σ 133) (σ 127 12).toNat k)) : cal (d + 3) 40 [vr 35, vi (σ 127 2)] I P dr (fun o h => ∃ J2, h = (S0, J2, RR P dr) ∧ FX I J2 dr ∧ TF I J2 ∧ ((stpS σ at_ j r (kiT (σ 133) (σ 127 12).toNat k) (vaT (σ 133) (σ 127 12).toNat k) = none ∧ o = some (vi 0) ∧ J2 = I) ∨ ∃ y : mR3, stpS σ at_ j r (kiT (σ 133) (σ 127 12).toNat k) (vaT (σ 133) (σ 127 12).toNat k) = some y ∧ o = some (vi 1) ∧ (y.1 ≠ 50 → RLx J2 dr y) ∧ (y.1 = 50 → J2 = I ∧ y = (50, j, r)))) := by
  refine cal_in (Nat.le_of_ble_eq_true rfl) ?_
  show wp _ _ _ _ 0 [vr 35, vi (σ 127 2)] [] _
  have hdb := (pl_b hd).1
  have hm := hT.1
  have w1 := hW.1
  have w2 := hW.2.1
  dsimp only at w1 w2
  have hpb := cl_b (j := j) (r := r) (show 0 ≤ at_ by omega) (show at_ ≤ 20 by omega)
  have hkv := ki_v (t := σ 133) (m := (σ 127 12).toNat) (k := k)
  have hvb := va_b (t := σ 133) (m := (σ 127 12).toNat) (k := k)
  have hpl := (pl_le (t := σ 133) (m := (σ 127 12).toNat) (k := k)).2
  by_cases hb : plT (σ 133) (σ 127 12).toNat k < (σ 127 12).toNat
  · have hki : kiT (σ 133) (σ 127 12).toNat k = kdS (σ 133) (σ 127 12).toNat (plT (σ 133) (σ 127 12).toNat k) := by unfold kiT; rw [if_pos hb]
    have hva : vaT (σ 133) (σ 127 12).toNat k = vlS (σ 133) (σ 127 12).toNat (plT (σ 133) (σ 127 12).toNat k) := by unfold vaT; rw [if_pos hb]
    have hps : psT (σ 133) (σ 127 12).toNat (k + 1) = tkE (σ 133) (σ 127 12).toNat (plT (σ 133) (σ 127 12).toNat k) := by rw [ps_s, if_pos hb]
    have htb := tk_b (t := σ 133) hb
    unfold ckS at h5
    rw [if_pos hb] at h5
    by_cases hl : isLe (σ 133 ((plT (σ 133) (σ 127 12).toNat k : Nat) : Int)) = true
    · rw [if_pos hl] at h5
      have wt := wa_t (p := 0) hb hl (clP (at_, j, r))
      have kl := kd_le (t := σ 133) (m := (σ 127 12).toNat) hl
      rw [← hki] at wt kl
      have br := br_w (σ := σ) (v := (vaT (σ 133) (σ 127 12).toNat k)) hdb w1.1 (by omega) (by omega) (by omega) hR kl wt.1 wt.2
      refine s_ald k40_0 rfl ?_
      refine z_getIe (z := 0) k40_1 rfl h5 ?_
      refine s_tsw k40_4 (inR_lit rfl) rfl ?_
      refine s_ald k40_36 rfl ?_
      refine z_inv0 k40_37 rfl (Nat.le_of_ble_eq_true rfl) (c41 (e := tkE (σ 133) (σ 127 12).toNat (plT (σ 133) (σ 127 12).toNat k)) hd hR.1 hR.2.1 w1.1 w1.2 hpb.1 hpb.2 hCt hT h6 (by rw [h7, hps]) htb.1 htb.2) (fun o h1 hq => ?_)
      rcases hq with ⟨u, rfl, rfl⟩ | ⟨u, rfl, rfl⟩
      · exact z_zret k40_40 (Or.inl rfl) ⟨I, rfl, FX.rf, TF.rf, Or.inl ⟨br.1 u, rfl, rfl⟩⟩
      · obtain ⟨y, y1, y2, y3⟩ := br.2 u
        exact z_zret k40_40 (Or.inr rfl) ⟨_, rfl, (wc_x w1.1 w1.2 hdb).1, (wc_x w1.1 w1.2 hdb).2, Or.inr ⟨y, y1, rfl, fun _ => y3, fun q => absurd q y2⟩⟩
    · have hl' : isLe (σ 133 ((plT (σ 133) (σ 127 12).toNat k : Nat) : Int)) = false := by simpa using hl
      rw [if_neg hl] at h5
      by_cases hdi : isDi (σ 133 ((plT (σ 133) (σ 127 12).toNat k : Nat) : Int)) = true
      · rw [if_pos hdi] at h5
        have hkd := kd_di (m := (σ 127 12).toNat) hl' hdi
        by_cases h2 : 2 < tkE (σ 133) (σ 127 12).toNat (plT (σ 133) (σ 127 12).toNat k) - plT (σ 133) (σ 127 12).toNat k
        · rw [if_pos h2] at h5 hkd
          have hst : stpS σ at_ j r (kiT (σ 133) (σ 127 12).toNat k) (vaT (σ 133) (σ 127 12).toNat k) = none := by rw [hki, hkd]; exact br_x
          refine s_ald k40_0 rfl ?_
          refine z_getIe (z := 4) k40_1 rfl h5 ?_
          refine s_tsw k40_4 (inR_lit rfl) rfl ?_
          refine z_push k40_76 ?_
          exact z_zret k40_77 (Or.inl rfl) ⟨I, rfl, FX.rf, TF.rf, Or.inl ⟨hst, rfl, rfl⟩⟩
        · rw [if_neg h2] at h5 hkd
          have hv : I 35 8 = (vaT (σ 133) (σ 127 12).toNat k) := by rw [hva]; exact h8 h5
          have br := br_n (v := (vaT (σ 133) (σ 127 12).toNat k)) hdb hW h50 hR
          have hw := fun e : clP (at_, j, r) = 20 => br_20 hdb hW h50 hR e
          rw [hkd] at hki
          rw [← hki] at br
          refine s_ald k40_0 rfl ?_
          refine z_getIe (z := 1) k40_1 rfl h5 ?_
          refine s_tsw k40_4 (inR_lit rfl) rfl ?_
          refine s_ald k40_41 rfl ?_
          refine s_ild k40_42 rfl ?_
          refine z_inv1 k40_43 rfl (Nat.le_of_ble_eq_true rfl) (c42 hd hR.1 hR.2.1 w1.1 w1.2 hpb.1 hpb.2 hv hvb.1 hvb.2 b2 hw) (fun o h1 hq => ?_)
          rcases hq with ⟨u, rfl, rfl⟩ | ⟨u, rfl, rfl⟩
          · exact z_zret k40_46 (Or.inl rfl) ⟨I, rfl, FX.rf, TF.rf, Or.inl ⟨br.1 u, rfl, rfl⟩⟩
          · obtain ⟨y, y1, y2, y3⟩ := br.2 u
            exact z_zret k40_46 (Or.inr rfl) ⟨_, rfl, (kc_x w1.1 (by omega) hdb).1.up (by omega), (kc_x w1.1 (by omega) hdb).2.1.up (by omega), Or.inr ⟨y, y1, rfl, fun _ => y3, fun q => absurd q y2⟩⟩
      · have hdi' : isDi (σ 133 ((plT (σ 133) (σ 127 12).toNat k : Nat) : Int)) = false := by simpa using hdi
        rw [if_neg hdi] at h5
        have hkd := kd_ot (m := (σ 127 12).toNat) hl' hdi'
        by_cases h2 : σ 133 ((plT (σ 133) (σ 127 12).toNat k : Nat) : Int) = 58 ∨ σ 133 ((plT (σ 133) (σ 127 12).toNat k : Nat) : Int) = 44
        · rw [if_pos h2] at h5
          have hkd2 : kiT (σ 133) (σ 127 12).toNat k = (if σ 133 ((plT (σ 133) (σ 127 12).toNat k : Nat) : Int) = 58 then 30 else 31) := by
            rw [hki, hkd]
            rcases h2 with e | e
            · rw [if_pos e, if_pos e]
            · rw [if_neg (by omega), if_pos e, if_neg (by omega)]
          have br := br_s (v := (vaT (σ 133) (σ 127 12).toNat k)) hdb hW h50 h2 hR
          rw [← hkd2] at br
          refine s_ald k40_0 rfl ?_
          refine z_getIe (z := 2) k40_1 rfl h5 ?_
          refine s_tsw k40_4 (inR_lit rfl) rfl ?_
          refine s_ald k40_47 rfl ?_
          refine z_inv0 k40_48 rfl (Nat.le_of_ble_eq_true rfl) (c43 (c := σ 133 ((plT (σ 133) (σ 127 12).toNat k : Nat) : Int)) hd hR.1 hR.2.1 w1.1 w1.2 hpb.1 hpb.2 hCt hT h6 hb rfl h2) (fun o h1 hq => ?_)
          rcases hq with ⟨u, rfl, rfl⟩ | ⟨u, rfl, rfl⟩
          · exact z_zret k40_51 (Or.inl rfl) ⟨I, rfl, FX.rf, TF.rf, Or.inl ⟨br.1 u, rfl, rfl⟩⟩
          · obtain ⟨y, y1, y2, y3⟩ := br.2 u
            exact z_zret k40_51 (Or.inr rfl) ⟨_, rfl, (sg_x (dr := dr)).1, (sg_x (dr := dr)).2, Or.inr ⟨y, y1, rfl, fun _ => y3, fun q => absurd q y2⟩⟩
        · rw [if_neg h2] at h5
          rw [if_neg (by omega), if_neg (by omega)] at hkd
          have hst : stpS σ at_ j r (kiT (σ 133) (σ 127 12).toNat k) (vaT (σ 133) (σ 127 12).toNat k) = none := by rw [hki, hkd]; exact br_x
          refine s_ald k40_0 rfl ?_
          refine z_getIe (z := 4) k40_1 rfl h5 ?_
          refine s_tsw k40_4 (inR_lit rfl) rfl ?_
          refine z_push k40_76 ?_
          exact z_zret k40_77 (Or.inl rfl) ⟨I, rfl, FX.rf, TF.rf, Or.inl ⟨hst, rfl, rfl⟩⟩
  · have hk50 : kiT (σ 133) (σ 127 12).toNat k = 50 := hkv.2.mpr hb
    have br := br_e (σ := σ) (j := j) (v := (vaT (σ 133) (σ 127 12).toNat k)) (r := r) h50 (show at_ ≤ 20 by omega)
    have brk : stpS σ at_ j r (kiT (σ 133) (σ 127 12).toNat k) (vaT (σ 133) (σ 127 12).toNat k) = stpS σ at_ j r 50 (vaT (σ 133) (σ 127 12).toNat k) := by rw [hk50]
    unfold ckS at h5
    rw [if_neg hb] at h5
    refine s_ald k40_0 rfl ?_
    refine z_getIe (z := 3) k40_1 rfl h5 ?_
    refine s_tsw k40_4 (inR_lit rfl) rfl ?_
    refine s_ald k40_52 rfl ?_
    refine z_getIe (z := (clP (at_, j, r))) k40_53 rfl hR.1 ?_
    refine z_push k40_56 ?_
    refine s_iceq k40_58 ⟨by omega, by omega⟩ (inR_lit rfl) (fun h58 => ?_) (fun h58 => ?_)
    · refine z_push k40_70 ?_
      refine z_goto k40_71 ?_
      exact z_zret k40_75 (Or.inr rfl) ⟨I, rfl, FX.rf, TF.rf, Or.inr ⟨(50, j, r), brk.trans (br.2 (by omega)), rfl, fun q => absurd rfl q, fun _ => ⟨rfl, rfl⟩⟩⟩
    · refine s_ald k40_61 rfl ?_
      refine z_getIe (z := (clP (at_, j, r))) k40_62 rfl hR.1 ?_
      refine z_push k40_65 ?_
      refine s_icne k40_67 ⟨by omega, by omega⟩ (inR_lit rfl) (fun h67 => ?_) (fun h67 => ?_)
      · refine z_push k40_74 ?_
        exact z_zret k40_75 (Or.inl rfl) ⟨I, rfl, FX.rf, TF.rf, Or.inl ⟨brk.trans (br.1 (by omega)), rfl, rfl⟩⟩
      · refine z_push k40_70 ?_
        refine z_goto k40_71 ?_
        exact z_zret k40_75 (Or.inr rfl) ⟨I, rfl, FX.rf, TF.rf, Or.inr ⟨(50, j, r), brk.trans (br.2 (by omega)), rfl, fun q => absurd rfl q, fun _ => ⟨rfl, rfl⟩⟩⟩
theorem stp_50 {σ : Nat → Int → Int} {at_ j k v : Int} {r : Int → Int} {y : Int × (Int → Int)} (hk : k ≠ 50) (h : at_ ≤ 20) : stpS σ at_ j r k v ≠ some (50, y) := by
  intro e
  unfold stpS at e
  by_cases c : at_ = 15
  · rw [if_pos c] at e
    split at e
    · injection e with e; injection e with e; exact absurd e (by decide)
    · split at e
      · injection e with e; injection e with e; exact absurd e (by decide)
      · cases e
  · rw [if_neg c] at e
    split at e
    · rename_i hc
      injection e with e
      injection e with e
      have h0 := hc.1
      by_cases c2 : at_ = 20
      · rw [if_pos c2] at e; exact absurd e (by decide)
      · rw [if_neg c2] at e
        omega
    · cases e
theorem stp_e {σ : Nat → Int → Int} {at_ j v : Int} {r : Int → Int} {y : mR3} (h : stpS σ at_ j r 50 v = some y) : y.1 = 50 := by
  have := wn_b (x := at_)
  unfold stpS at h
  by_cases c : at_ = 15
  · rw [if_pos c, if_neg (by omega), if_neg (by omega), if_pos rfl] at h
    injection h with h
    rw [← h]
  · rw [if_neg c, if_neg (by omega)] at h
    cases h
set_option maxRecDepth 20000 in
theorem lp34 {d : Nat} {I σ : Nat → Int → Int} {P : Int → Nat} {dr : Nat} {R4 : mR4} (hd : isPl dr) (hCt0 : CRt I σ) (hT : WFt σ) (b2 : 0 ≤ σ 127 2 ∧ σ 127 2 ≤ 8) : ∀ (f k : Nat) (at_ j : Int) (r : Int → Int) (J : Nat → Int → Int), k + f = 163 → RWF σ (at_, j, r) → at_ ≠ 50 → (∀ q, q < k → plT (σ 133) (σ 127 12).toNat q < (σ 127 12).toNat) → FX I J dr → RLx J dr (at_, j, r) → J 35 7 = ((psT (σ 133) (σ 127 12).toNat k : Nat) : Int) → J 35 3 = -1 → J 35 4 = 0 → rdS σ (σ 133) (σ 127 12).toNat f k (at_, j, r) = R4 → wp (mcall MT CD (d + 3)) (CD 34) L0 (fun o h => o = none ∧ ∃ J, h = (S0, J, RR P dr) ∧ FX I J dr ∧ J 35 3 = R4.1 ∧ J 35 4 = R4.2.1 ∧ (R4.2.2.2 = true → DF J dr R4.2.2.1 ∧ J dr 4 = R4.2.2.1 4)) 27 [vr 35, vi (σ 127 2), vi (k : Int)] [] (S0, J, RR P dr) := by
  intro f
  induction f with
  | zero =>
    intro k at_ j r J hk hW h50 hq0 hF hR h7 h3 h4 hRd
    have := ps_ge k hq0
    have := ps_le (t := σ 133) (m := (σ 127 12).toNat) k
    have hm := hT.1
    exact absurd hk (by omega)
  | succ f ih =>
    intro k at_ j r J hk hW h50 hq0 hF hR h7 h3 h4 hRd
    have g1 := ps_ge k hq0
    have g2 := ps_le (t := σ 133) (m := (σ 127 12).toNat) k
    have hm := hT.1
    have hdb := pl_b hd
    have w1 := hW.1
    have w2 := hW.2.1
    dsimp only at w1 w2
    have hpb := cl_b (j := j) (r := r) (show 0 ≤ at_ by omega) (show at_ ≤ 20 by omega)
    have hCt : CRt J σ := hCt0.k (hF 35 1 (by omega) (by omega) (by omega)) (fun q => hF 36 q (by omega) (by omega) (by omega))
    refine s_ild k34_27 rfl ?_
    refine z_push k34_28 ?_
    refine s_icgt k34_31 ⟨by omega, by omega⟩ (inR_lit rfl) (fun q => absurd q (by omega)) (fun h31 => ?_)
    refine s_ald k34_34 rfl ?_
    refine z_inv0 k34_35 rfl (Nat.le_of_ble_eq_true rfl) (c35 hCt hT h7 g2 rfl) (fun o h1 hq => ?_)
    obtain ⟨rfl, J2, rfl, kF, k6, k7, k5, k8⟩ := hq
    have hF2 : FX I J2 dr := hF.tr (fun a q h1 h2 h3 => kF a q (by omega))
    have hCt2 : CRt J2 σ := hCt.k (kF 35 1 (by omega)) (fun q => kF 36 q (by omega))
    have hR2 : RLx J2 dr (at_, j, r) := ⟨(kF 35 9 (by omega)).trans hR.1, (kF 35 10 (by omega)).trans hR.2.1, hR.2.2.fx hdb.1 (fun a q h => kF a q (by omega))⟩
    refine s_ald k34_38 rfl ?_
    refine s_ild k34_39 rfl ?_
    refine z_inv1 k34_40 rfl (Nat.le_of_ble_eq_true rfl) (c40 hd hCt2 hT b2 hW h50 hR2 k6 (by rw [k7, ps_s]) k5 k8) (fun o h1 hq => ?_)
    obtain ⟨J3, rfl, x3, t3, hq⟩ := hq
    rcases hq with ⟨hst, rfl, rfl⟩ | ⟨y, hst, rfl, y1, y2⟩
    · refine s_ifne k34_43 (inR_lit rfl) (fun q => absurd q (by decide)) (fun _ => ?_)
      refine s_ald k34_46 rfl ?_
      refine s_ald k34_47 rfl ?_
      refine z_getIe (z := ((plT (σ 133) (σ 127 12).toNat k : Nat) : Int)) k34_48 rfl k6 ?_
      refine z_putIe (q := 3) k34_51 rfl rfl ?_
      refine s_ald k34_54 rfl ?_
      refine s_ald k34_55 rfl ?_
      refine z_inv0A k34_56 rfl (Nat.le_of_ble_eq_true rfl) (c50 (σ := σ) (p := (clP (at_, j, r))) (j := j) hd ((up_nk (by decide)).trans hR2.1) ((up_nk (by decide)).trans hR2.2.1) w1.1 w1.2 hpb.1 hpb.2) ?_
      refine z_putIe (q := 4) k34_59 rfl rfl ?_
      have e := rd_no (σ := σ) (t := σ 133) (m := (σ 127 12).toNat) (f := f) (k := k) (x := (at_, j, r)) h50 hst
      rw [hRd] at e
      subst e
      refine z_vret k34_62 ⟨rfl, _, rfl, (hF2.up (by omega)).up (by omega), (up_nk (by decide)).trans up_at, up_at.trans ?_, fun q => (by cases q)⟩
      exact (br_cs hW h50).symm
    · have k53 : J3 35 5 = ckS (σ 133) (σ 127 12).toNat (plT (σ 133) (σ 127 12).toNat k) := (t3 5 (by decide)).trans k5
      by_cases hb : plT (σ 133) (σ 127 12).toNat k < (σ 127 12).toNat
      · have hk3 : ckS (σ 133) (σ 127 12).toNat (plT (σ 133) (σ 127 12).toNat k) ≠ 3 ∧ 0 ≤ ckS (σ 133) (σ 127 12).toNat (plT (σ 133) (σ 127 12).toNat k) ∧ ckS (σ 133) (σ 127 12).toNat (plT (σ 133) (σ 127 12).toNat k) ≤ 4 := by
          unfold ckS
          rw [if_pos hb]
          (repeat' split) <;> omega
        have y50 : y.1 ≠ 50 := fun e => by
          have e2 := (y2 e).2
          rw [e2] at hst
          exact absurd hst (stp_50 (by have := ((ki_v (t := σ 133) (m := (σ 127 12).toNat) (k := k)).2); omega) (by omega))
        refine s_ifne k34_43 (inR_lit rfl) (fun _ => ?_) (fun q => absurd q (by decide))
        refine s_ald k34_63 rfl ?_
        refine z_getIe (z := ckS (σ 133) (σ 127 12).toNat (plT (σ 133) (σ 127 12).toNat k)) k34_64 rfl k53 ?_
        refine z_push k34_67 ?_
        refine s_icne k34_68 ⟨by omega, by omega⟩ (inR_lit rfl) (fun h68 => ?_) (fun q => absurd q (by omega))
        refine s_iinc2 k34_85 rfl ?_
        refine z_goto k34_88 ?_
        have hy := y1 y50
        refine ih (k + 1) y.1 y.2.1 y.2.2 J3 (by omega) (stp_WF hW h50 hst) y50 (fun q hq => ?_) (hF2.tr x3) hy ((t3 7 (by decide)).trans (by rw [k7, ps_s])) ((t3 3 (by decide)).trans ((kF 35 3 (by omega)).trans h3)) ((t3 4 (by decide)).trans ((kF 35 4 (by omega)).trans h4)) (by rw [← hRd, rd_go h50 hst])
        by_cases c : q = k
        · rw [c]; exact hb
        · exact hq0 q (by omega)
      · have hk3 : ckS (σ 133) (σ 127 12).toNat (plT (σ 133) (σ 127 12).toNat k) = 3 := by
          unfold ckS
          rw [if_neg hb]
        have hk50 : kiT (σ 133) (σ 127 12).toNat k = 50 := (ki_v (t := σ 133) (m := (σ 127 12).toNat) (k := k)).2.mpr hb
        have hy50 : y.1 = 50 := by
          rw [hk50] at hst
          exact stp_e hst
        obtain ⟨rfl, rfl⟩ := y2 hy50
        refine s_ifne k34_43 (inR_lit rfl) (fun _ => ?_) (fun q => absurd q (by decide))
        refine s_ald k34_63 rfl ?_
        refine z_getIe (z := ckS (σ 133) (σ 127 12).toNat (plT (σ 133) (σ 127 12).toNat k)) k34_64 rfl k53 ?_
        refine z_push k34_67 ?_
        refine s_icne k34_68 ⟨by omega, by omega⟩ (inR_lit rfl) (fun q => absurd q (by omega)) (fun h68 => ?_)
        refine s_ald k34_71 rfl ?_
        refine z_getRe (b := dr) k34_72 rfl rr_dr ?_
        refine s_ald k34_75 rfl ?_
        refine z_getIe (z := j) k34_76 rfl hR2.2.1 ?_
        refine z_push k34_79 ?_
        refine z_iadd k34_80 ?_
        refine z_putIe (q := 4) k34_81 (pl_sh hd) rfl ?_
        have e := rd_go (σ := σ) (t := σ 133) (m := (σ 127 12).toNat) (f := f) (k := k) (x := (at_, j, r)) h50 hst
        obtain ⟨f2, rfl⟩ : ∃ f2, f = f2 + 1 := ⟨f - 1, by omega⟩
        rw [hRd, rd_50 (x := (50, j, r)) rfl] at e
        subst e
        exact z_vret k34_84 ⟨rfl, _, rfl, hF2.up (by omega), (up_ne (by omega)).trans ((kF 35 3 (by omega)).trans h3), (up_ne (by omega)).trans ((kF 35 4 (by omega)).trans h4), fun _ => ⟨hR2.2.2.h4, up_at.trans (show j + 1 = updR r 4 (j + 1) 4 from ur_at.symm)⟩⟩
set_option maxRecDepth 20000 in
theorem c34 {d : Nat} {I : Nat → Int → Int} {P : Int → Nat} {dr : Nat} {σ : Nat → Int → Int} (hd : isPl dr) (hCt : CRt I σ) (hT : WFt σ) (b2 : 0 ≤ σ 127 2 ∧ σ 127 2 ≤ 8) : cal (d + 4) 34 [vr 35, vi (σ 127 2)] I P dr (fun o h => o = none ∧ ∃ J, h = (S0, J, RR P dr) ∧ FX I J dr ∧ J 35 3 = (rsS σ).1 ∧ J 35 4 = (rsS σ).2.1 ∧ ((rsS σ).2.2.2 = true → DF J dr (rsS σ).2.2.1 ∧ J dr 4 = (rsS σ).2.2.1 4)) := by
  refine cal_in (Nat.le_of_ble_eq_true rfl) ?_
  show wp _ _ _ _ 0 [vr 35, vi (σ 127 2), vj] [] _
  refine s_ald k34_0 rfl ?_
  refine z_push k34_1 ?_
  refine z_putIe (q := 3) k34_2 rfl rfl ?_
  refine s_ald k34_5 rfl ?_
  refine z_push k34_6 ?_
  refine z_putIe (q := 4) k34_7 rfl rfl ?_
  refine s_ald k34_10 rfl ?_
  refine z_push k34_11 ?_
  refine z_putIe (q := 7) k34_12 rfl rfl ?_
  refine s_ald k34_15 rfl ?_
  refine z_push k34_16 ?_
  refine z_putIe (q := 9) k34_17 rfl rfl ?_
  refine s_ald k34_20 rfl ?_
  refine z_push k34_21 ?_
  refine z_putIe (q := 10) k34_22 rfl rfl ?_
  refine z_push k34_25 ?_
  refine s_ist2 k34_26 rfl ?_
  exact lp34 hd hCt hT b2 163 0 0 0 (fun _ => -1) _ (by omega) RWF_0 (by decide) (fun q hq => absurd hq (by omega)) (((((FX.rf.up (by omega)).up (by omega)).up (by omega)).up (by omega)).up (by omega)) ⟨(up_nk (by decide)).trans up_at, up_at, fun q _ _ u => absurd rfl u, fun i q _ _ _ _ u => absurd rfl u⟩ ((up_nk (by decide)).trans ((up_nk (by decide)).trans up_at)) ((up_nk (by decide)).trans ((up_nk (by decide)).trans ((up_nk (by decide)).trans ((up_nk (by decide)).trans up_at)))) ((up_nk (by decide)).trans ((up_nk (by decide)).trans ((up_nk (by decide)).trans up_at))) rfl
set_option maxRecDepth 20000 in
theorem k100 {d : Nat} {I : Nat → Int → Int} {P : Int → Nat} {dr : Nat} {σ : Nat → Int → Int} (hG : CG I σ P dr) (hW : WFs σ) : cal (d + 5) 100 [vr 16] I P dr (clsQ (xFau σ) I P dr) := by
  refine cal_in (Nat.le_of_ble_eq_true rfl) ?_
  obtain ⟨hN, hT, hP, hA, hL⟩ := id hW
  have b0 := hN.1
  have b1 := hN.2.1
  have b2 := hN.2.2.1
  have b10 := hN.2.2.2.2.2.2.2.1
  obtain ⟨hC, hCt, hcp, hCl, hca⟩ := id hG
  obtain ⟨cn, ct, cg, cmr, cmf, cmt, cw, cT, cS, cW⟩ := id hC
  show wp _ _ _ _ 0 [vr 16] [] _
  refine s_ald k100_0 rfl ?_
  refine z_getRe (b := 35) k100_1 rfl rr_16_1 ?_
  refine s_ald k100_4 rfl ?_
  refine z_getRe (b := 17) k100_5 rfl rr_16_0 ?_
  refine z_getIe (z := σ 127 2) k100_8 rfl cg ?_
  refine z_inv1 k100_11 rfl (Nat.le_of_ble_eq_true rfl) (c34 hcp.2.1.2.1 hCt hT b2) (fun o h1 hq => ?_)
  obtain ⟨rfl, J2, rfl, gX, g3, g4, gD⟩ := hq
  have hG2 := hG.fx hN hP gX
  refine s_ald k100_14 rfl ?_
  refine z_getRe (b := 35) k100_15 rfl rr_16_1 ?_
  refine z_getIe (z := (rsS σ).1) k100_18 rfl g3 ?_
  exact z_iret k100_21 ⟨J2, rfl, rfl, hG2, KC.fx hcp.2.1.2.1 gX⟩
set_option maxRecDepth 20000 in
theorem k101 {d : Nat} {I : Nat → Int → Int} {P : Int → Nat} {dr : Nat} {σ : Nat → Int → Int} (hG : CG I σ P dr) (hW : WFs σ) : cal (d + 5) 101 [vr 16] I P dr (clsQ (xStd σ) I P dr) := by
  refine cal_in (Nat.le_of_ble_eq_true rfl) ?_
  obtain ⟨hN, hT, hP, hA, hL⟩ := id hW
  have b0 := hN.1
  have b1 := hN.2.1
  have b2 := hN.2.2.1
  have b10 := hN.2.2.2.2.2.2.2.1
  obtain ⟨hC, hCt, hcp, hCl, hca⟩ := id hG
  obtain ⟨cn, ct, cg, cmr, cmf, cmt, cw, cT, cS, cW⟩ := id hC
  show wp _ _ _ _ 0 [vr 16] [] _
  refine s_ald k101_0 rfl ?_
  refine z_getRe (b := 35) k101_1 rfl rr_16_1 ?_
  refine s_ald k101_4 rfl ?_
  refine z_getRe (b := 17) k101_5 rfl rr_16_0 ?_
  refine z_getIe (z := σ 127 2) k101_8 rfl cg ?_
  refine z_inv1 k101_11 rfl (Nat.le_of_ble_eq_true rfl) (c34 hcp.2.1.2.1 hCt hT b2) (fun o h1 hq => ?_)
  obtain ⟨rfl, J2, rfl, gX, g3, g4, gD⟩ := hq
  have hG2 := hG.fx hN hP gX
  refine s_ald k101_14 rfl ?_
  refine z_getRe (b := 35) k101_15 rfl rr_16_1 ?_
  refine z_getIe (z := (rsS σ).2.1) k101_18 rfl g4 ?_
  exact z_iret k101_21 ⟨J2, rfl, rfl, hG2, KC.fx hcp.2.1.2.1 gX⟩
set_option maxRecDepth 20000 in
theorem c30 {d : Nat} {I : Nat → Int → Int} {P : Int → Nat} {dr : Nat} {σ : Nat → Int → Int} (h42 : I 42 1 = σ 127 21) (hPc : ∀ k, 0 ≤ k → k < 5 → isPl (P k)) (hd : isPl dr) (p0 : 0 ≤ σ 127 21) (n5 : σ 127 21 < 5) : cal (d + 1) 30 [vr 42, vr dr] I P dr (fun o h => o = some (vr (P (σ 127 21))) ∧ h = (S0, upI I 42 1 (σ 127 21 + 1), RR (fun q => if q = σ 127 21 then dr else P q) dr)) := by
  refine cal_in (Nat.le_of_ble_eq_true rfl) ?_
  show wp _ _ _ _ 0 [vr 42, vr dr, vj] [] _
  refine s_ald k30_0 rfl ?_
  refine z_getIe (z := σ 127 21) k30_1 rfl h42 ?_
  refine z_push k30_4 ?_
  refine s_iclt k30_5 ⟨by omega, by omega⟩ (inR_lit rfl) (fun h5 => ?_) (fun q => absurd q (by omega))
  refine s_ald k30_10 rfl ?_
  refine z_getRe (b := 43) k30_11 rfl rr_42_0 ?_
  refine s_ald k30_14 rfl ?_
  refine z_getIe (z := σ 127 21) k30_15 rfl h42 ?_
  refine z_aalde (b := P (σ 127 21)) k30_18 rfl (by omega) (show (σ 127 21) < ((5 : Nat) : Int) by omega) rr_P ?_
  refine s_ast2 k30_19 rfl ?_
  refine s_ald k30_20 rfl ?_
  refine z_getRe (b := 43) k30_21 rfl rr_42_0 ?_
  refine s_ald k30_24 rfl ?_
  refine z_getIe (z := σ 127 21) k30_25 rfl h42 ?_
  refine s_ald k30_28 rfl ?_
  refine z_aast k30_29 rfl (by rw [pl_sh hd]) (by omega) (show (σ 127 21) < ((5 : Nat) : Int) by omega) ?_
  rw [RR_pl]
  refine s_ald k30_30 rfl ?_
  refine z_dupr k30_31 ?_
  refine z_getIe (z := σ 127 21) k30_32 rfl h42 ?_
  refine z_push k30_35 ?_
  refine z_iadd k30_36 ?_
  refine z_putIe (q := 1) k30_37 rfl rfl ?_
  refine s_ald k30_40 rfl ?_
  exact z_aret k30_41 ⟨rfl, rfl⟩
set_option maxRecDepth 20000 in
theorem k102 {d : Nat} {I : Nat → Int → Int} {P : Int → Nat} {dr : Nat} {σ : Nat → Int → Int} (hG : CG I σ P dr) (hW : WFs σ) : cal (d + 5) 102 [vr 16] I P dr (fun o h => ∃ P2 dr2, clsQ (xPln σ) I P2 dr2 o h) := by
  refine cal_in (Nat.le_of_ble_eq_true rfl) ?_
  obtain ⟨hN, hT, hP, hA, hL⟩ := id hW
  have b0 := hN.1
  have b1 := hN.2.1
  have b2 := hN.2.2.1
  have b10 := hN.2.2.2.2.2.2.2.1
  obtain ⟨hC, hCt, hcp, hCl, hca⟩ := id hG
  obtain ⟨cn, ct, cg, cmr, cmf, cmt, cw, cT, cS, cW⟩ := id hC
  have bp := hP.1
  have hPc : ∀ k, 0 ≤ k → k < 5 → isPl (P k) := hcp.2.1.1
  have hrb : -1 ≤ (rsS σ).1 ∧ (rsS σ).1 ≤ 200 := by
    cases hc : (rsS σ).2.2.2 with
    | true => have h0 := (rd_ok _ _ _ hc).1; unfold rsS; omega
    | false => have h0 := rd_nk _ _ _ hc; have h1 := hT.1; unfold rsS; omega
  show wp _ _ _ _ 0 [vr 16] [] _
  refine s_ald k102_0 rfl ?_
  refine z_getRe (b := 35) k102_1 rfl rr_16_1 ?_
  refine s_ald k102_4 rfl ?_
  refine z_getRe (b := 17) k102_5 rfl rr_16_0 ?_
  refine z_getIe (z := σ 127 2) k102_8 rfl cg ?_
  refine z_inv1 k102_11 rfl (Nat.le_of_ble_eq_true rfl) (c34 hcp.2.1.2.1 hCt hT b2) (fun o h1 hq => ?_)
  obtain ⟨rfl, J2, rfl, gX, g3, g4, gD⟩ := hq
  have hG2 := hG.fx hN hP gX
  refine s_ald k102_14 rfl ?_
  refine z_getRe (b := 35) k102_15 rfl rr_16_1 ?_
  refine z_getIe (z := (rsS σ).1) k102_18 rfl g3 ?_
  refine z_push k102_21 ?_
  refine s_iceq k102_22 ⟨by omega, by omega⟩ (inR_lit rfl) (fun h22 => ?_) (fun h22 => ?_)
  · refine s_ald k102_28 rfl ?_
    refine z_getRe (b := 42) k102_29 rfl rr_16_2 ?_
    refine z_getIe (z := σ 127 21) k102_32 rfl hG2.2.2.1.1 ?_
    refine z_push k102_35 ?_
    refine s_iclt k102_36 ⟨by omega, by omega⟩ (inR_lit rfl) (fun h36 => ?_) (fun h36 => ?_)
    · refine s_ald k102_42 rfl ?_
      refine z_getRe (b := 35) k102_43 rfl rr_16_1 ?_
      refine s_ald k102_46 rfl ?_
      refine z_getRe (b := 42) k102_47 rfl rr_16_2 ?_
      refine s_ald k102_50 rfl ?_
      refine z_getRe (b := 35) k102_51 rfl rr_16_1 ?_
      refine z_getRe (b := dr) k102_54 rfl rr_dr ?_
      refine z_inv1 k102_57 rfl (Nat.le_of_ble_eq_true rfl) (c30 hG2.2.2.1.1 hPc hcp.2.1.2.1 (by omega) (by omega)) (fun o h1 hq => ?_)
      obtain ⟨rfl, rfl⟩ := hq
      refine z_putRe (q := 2) k102_60 rfl rfl ?_
      rw [RR_dr]
      refine s_ald k102_63 rfl ?_
      refine z_getRe (b := 35) k102_64 rfl rr_16_1 ?_
      refine z_push k102_67 ?_
      refine z_putIe (q := 1) k102_68 rfl rfl ?_
      refine s_ald k102_71 rfl ?_
      refine z_getRe (b := 69) k102_72 rfl rr_16_3 ?_
      refine z_inv0 k102_75 rfl (Nat.le_of_ble_eq_true rfl) (c1) (fun o h1 hq => ?_)
      obtain ⟨rfl, rfl⟩ := hq
      refine s_ald k102_78 rfl ?_
      refine z_getRe (b := 42) k102_79 rfl rr_16_2 ?_
      refine z_getIe (z := σ 127 21 + 1) k102_82 rfl ((up_ne (by decide)).trans ((up_ne (by decide)).trans up_at)) ?_
      refine z_push k102_85 ?_
      refine z_isub k102_86 ?_
      have hb : (rsS σ).2.2.2 = true := by
        cases hc : (rsS σ).2.2.2 with
        | true => rfl
        | false => have := (rd_nk _ _ _ hc).1; unfold rsS at h22; omega
      obtain ⟨gD1, gD2⟩ := gD hb
      refine z_iret k102_87 ⟨(fun q => if q = σ 127 21 then dr else P q), P (σ 127 21), _, ?_, rfl, ?_⟩
      · unfold xPln
        rw [if_pos hb, if_neg (by omega)]
        exact congrArg (fun u => some (vi u)) (by omega)
      · unfold xPln
        rw [if_pos hb, if_neg (by omega)]
        dsimp only
        have hok := hcp.2.1
        have hdb := pl_b hok.2.1
        have kf : ∀ a q, ¬ (a = 42 ∧ q = 1) → ¬ (a = 35 ∧ q = 1) → ¬ (a = 69 ∧ q = 17) → upI (upI (upI J2 42 1 (σ 127 21 + 1)) 35 1 0) 69 17 0 a q = J2 a q := fun a q h1 h2 h3 => (if_neg h3).trans ((if_neg h2).trans (if_neg h1))
        refine ⟨⟨(hG2.1.keep hN (fun a q _ _ => kf a q (by omega) (by omega) (by omega))).sg (fun a q h => ?_), ⟨(up_ne (by decide)).trans (up_at.trans pln_12.symm), fun i i0 i1 => absurd i1 (by rw [pln_12]; omega)⟩, ⟨(up_ne (by decide)).trans ((up_ne (by decide)).trans (up_at.trans pln_21.symm)), ⟨fun q q0 q1 => ?_, hok.1 _ (by omega) (by omega), fun q s q0 q1 s0 s1 e => ?_, fun q q0 q1 => ?_⟩, fun p p0 p1 => ?_⟩, hG2.2.2.2.1.sg (fun a q _ _ => kf a q (by omega) (by omega) (by omega)) (fun a q h => ?_), (kf 118 0 (by omega) (by omega) (by omega)).trans (hG2.2.2.2.2.trans (pln_7 (by decide) (by decide)).symm)⟩, ⟨fun a q h1 h2 h3 => (kf a q (by omega) (by omega) h3).trans (gX a q (by omega) (by omega) (by omega)), up_at, fun a q h1 => (kf a q (by omega) (by omega) (by omega)).trans (gX a q (by omega) (by omega) (by omega))⟩⟩
        · by_cases c1 : a = 127
          · rw [c1]
            exact pln_7 (by omega) (by omega)
          · exact pln_o c1 (by omega)
        · dsimp only
          split
          · exact hok.2.1
          · exact hok.1 q q0 q1
        · dsimp only at e
          by_cases c1 : q = σ 127 21
          · by_cases c2 : s = σ 127 21
            · omega
            · rw [if_pos c1, if_neg c2] at e
              exact absurd e.symm (hok.2.2.2 s s0 s1)
          · by_cases c2 : s = σ 127 21
            · rw [if_neg c1, if_pos c2] at e
              exact absurd e (hok.2.2.2 q q0 q1)
            · rw [if_neg c1, if_neg c2] at e
              exact hok.2.2.1 q s q0 q1 s0 s1 e
        · dsimp only
          by_cases c1 : q = σ 127 21
          · rw [if_pos c1]
            exact fun e => hok.2.2.2 (σ 127 21) (by omega) (by omega) e.symm
          · rw [if_neg c1]
            exact fun e => c1 (hok.2.2.1 q (σ 127 21) q0 q1 (by omega) (by omega) e)
        · rw [pln_21] at p1
          have kc : ∀ a, isPl a → ∀ c q, c = a ∨ (a + 2 ≤ c ∧ c ≤ a + 4) → upI (upI (upI J2 42 1 (σ 127 21 + 1)) 35 1 0) 69 17 0 c q = J2 c q := fun a ha c q hc => kf c q (by rcases ha with f | f | f | f | f | f <;> omega) (by have := pl_b ha; omega) (by have := pl_b ha; omega)
          by_cases c1 : p = σ 127 21
          · subst c1
            dsimp only
            rw [if_pos rfl]
            exact (pln_at hb gD1 gD2).mv (pln_WF hb).2.2.2.2.1.2 (kc _ hok.2.1) (fun _ _ _ => rfl)
          · dsimp only
            rw [if_neg c1]
            exact (hG2.2.2.1.2.2 p p0 (by omega)).mv (hP.2 p p0 (by omega)).2.2.2.2.1.2 (kc _ (hok.1 p p0 (by omega))) (fun q q0 q1 => pln_lo (by omega) q0 q1)
        · rcases h with h | h | h
          · rw [h.1, h.2]
            exact pln_7 (by decide) (by decide)
          · exact pln_o (by omega) (by omega)
          · exact pln_o (by omega) (by omega)
    · refine z_push k102_39 ?_
      have hb : (rsS σ).2.2.2 = true := by
        cases hc : (rsS σ).2.2.2 with
        | true => rfl
        | false => have := (rd_nk _ _ _ hc).1; unfold rsS at h22; omega
      refine z_iret k102_41 ⟨P, dr, J2, ?_, rfl, ?_⟩
      · unfold xPln
        rw [if_pos hb, if_pos (by omega)]
      · unfold xPln
        rw [if_pos hb, if_pos (by omega)]
        exact ⟨hG2, KC.fx hcp.2.1.2.1 gX⟩
  · refine z_push k102_25 ?_
    have hb : (rsS σ).2.2.2 = false := by
      cases hc : (rsS σ).2.2.2 with
      | false => rfl
      | true => exact absurd (rd_ok _ _ _ hc).1 h22
    refine z_iret k102_27 ⟨P, dr, J2, ?_, rfl, ?_⟩
    · unfold xPln
      rw [if_neg (by rw [hb]; decide)]
    · unfold xPln
      rw [if_neg (by rw [hb]; decide)]
      exact ⟨hG2, KC.fx hcp.2.1.2.1 gX⟩
