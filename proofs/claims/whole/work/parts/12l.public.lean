/-! plans go -/
/-- the first i numbers behind plan p have moved up -/
def rmI (σ : Nat → Int → Int) (p i : Int) : Nat → Int → Int := fun a k => if a = 127 ∧ k = 21 then σ 127 21 - 1 else if a = 138 ∧ 23 * p ≤ k ∧ k < 23 * p + i then σ 138 (k + 23) else σ a k
def rmS (σ : Nat → Int → Int) (p : Int) : Nat → Int → Int := rmI σ p (23 * (σ 127 21 - 1 - p))
theorem rmI_0 {σ : Nat → Int → Int} {p : Int} : upI σ 127 21 (σ 127 21 - 1) = rmI σ p 0 := by
  funext a k
  unfold upI rmI
  by_cases c1 : a = 127 ∧ k = 21
  · rw [if_pos c1, if_pos c1]
  · rw [if_neg c1, if_neg c1, if_neg (by omega)]
theorem rmI_s {σ : Nat → Int → Int} {p i : Int} (h : 0 ≤ i) : upI (rmI σ p i) 138 (23 * p + i) (σ 138 (23 * p + i + 23)) = rmI σ p (i + 1) := by
  funext a k
  unfold upI rmI
  by_cases c1 : a = 138 ∧ k = 23 * p + i
  · rw [if_pos c1, if_neg (by omega), if_pos ⟨c1.1, by omega, by omega⟩, c1.2]
  · rw [if_neg c1]
    by_cases c2 : a = 127 ∧ k = 21
    · rw [if_pos c2, if_pos c2]
    · rw [if_neg c2, if_neg c2]
      by_cases c3 : a = 138 ∧ 23 * p ≤ k ∧ k < 23 * p + i
      · rw [if_pos c3, if_pos ⟨c3.1, c3.2.1, by omega⟩]
      · rw [if_neg c3, if_neg (by omega)]
theorem rm_21 {σ : Nat → Int → Int} {p : Int} : rmS σ p 127 21 = σ 127 21 - 1 := by
  unfold rmS rmI
  rw [if_pos ⟨rfl, rfl⟩]
theorem rm_o {σ : Nat → Int → Int} {p k : Int} {a : Nat} (h1 : a ≠ 138) (h2 : ¬ (a = 127 ∧ k = 21)) : rmS σ p a k = σ a k := by
  unfold rmS rmI
  rw [if_neg h2, if_neg (fun q => h1 q.1)]
theorem rm_lo {σ : Nat → Int → Int} {p q k : Int} (h : q < p) (k0 : 0 ≤ k) (k1 : k < 23) : rmS σ p 138 (23 * q + k) = σ 138 (23 * q + k) := by
  unfold rmS rmI
  rw [if_neg (by omega), if_neg (by omega)]
theorem rm_hi {σ : Nat → Int → Int} {p q k : Int} (h : p ≤ q) (h2 : q < σ 127 21 - 1) (k0 : 0 ≤ k) (k1 : k < 23) : rmS σ p 138 (23 * q + k) = σ 138 (23 * (q + 1) + k) := by
  unfold rmS rmI
  rw [if_neg (by omega), if_pos ⟨rfl, by omega, by omega⟩, show 23 * q + k + 23 = 23 * (q + 1) + k by omega]
theorem PlWF.mv {σ σ' : Nat → Int → Int} {p p' : Int} (h : PlWF σ p) (ht : σ' 127 2 = σ 127 2) (k : ∀ q, 0 ≤ q → q < 23 → σ' 138 (23 * p' + q) = σ 138 (23 * p + q)) : PlWF σ' p' := by
  obtain ⟨a0, a1, a2, a3, a4, a5⟩ := h
  have e4 : pf σ' p' 4 = pf σ p 4 := k 4 (by decide) (by decide)
  have es : ∀ j q, 0 ≤ j → j < 3 → 0 ≤ q → q < 6 → ps σ' p' j q = ps σ p j q := fun j q j0 j1 q0 q1 => by
    have := k (5 + 6 * j + q) (by omega) (by omega)
    unfold ps
    rw [show 23 * p' + 5 + 6 * j + q = 23 * p' + (5 + 6 * j + q) by omega, show 23 * p + 5 + 6 * j + q = 23 * p + (5 + 6 * j + q) by omega]
    exact this
  refine ⟨by rw [show pf σ' p' 0 = pf σ p 0 from k 0 (by decide) (by decide)]; exact a0, by rw [show pf σ' p' 1 = pf σ p 1 from k 1 (by decide) (by decide)]; exact a1, by rw [show pf σ' p' 2 = pf σ p 2 from k 2 (by decide) (by decide), ht]; exact a2, by rw [show pf σ' p' 3 = pf σ p 3 from k 3 (by decide) (by decide)]; exact a3, by rw [e4]; exact a4, fun j j0 j1 => ?_⟩
  rw [e4, es j 0 j0 j1 (by decide) (by decide), es j 1 j0 j1 (by decide) (by decide), es j 2 j0 j1 (by decide) (by decide), es j 3 j0 j1 (by decide) (by decide), es j 4 j0 j1 (by decide) (by decide), es j 5 j0 j1 (by decide) (by decide)]
  exact ⟨(a5 j j0 j1).1, fun u q q0 q1 => (es j q j0 j1 q0 q1).trans ((a5 j j0 j1).2 u q q0 q1)⟩
theorem WFp.rm {σ : Nat → Int → Int} {p : Int} (hP : WFp σ) (p0 : 0 ≤ p) (p1 : p < σ 127 21) : WFp (rmS σ p) := by
  have b := hP.1
  refine ⟨by rw [rm_21]; omega, fun q q0 q1 => ?_⟩
  rw [rm_21] at q1
  by_cases c1 : q < p
  · exact (hP.2 q q0 (by omega)).mv (rm_o (by decide) (by omega)) (fun k k0 k1 => rm_lo c1 k0 k1)
  · exact (hP.2 (q + 1) (by omega) (by omega)).mv (rm_o (by decide) (by omega)) (fun k k0 k1 => rm_hi (by omega) q1 k0 k1)
/-- the places of the plans, when plan p goes -/
def pmI (P : Int → Nat) (p i : Int) : Int → Nat := fun k => if p ≤ k ∧ k < p + i then P (k + 1) else P k
def pmS (P : Int → Nat) (p n : Int) : Int → Nat := fun k => if k = n - 1 then P p else pmI P p (n - 1 - p) k
theorem pmI_0 {P : Int → Nat} {p : Int} : pmI P p 0 = P := by
  funext k
  exact if_neg (by omega)
theorem pmI_s {P : Int → Nat} {p i : Int} (h : 0 ≤ i) : (fun j => if j = p + i then P (p + i + 1) else pmI P p i j) = pmI P p (i + 1) := by
  funext k
  unfold pmI
  by_cases c1 : k = p + i
  · rw [if_pos c1, if_pos (by omega), c1]
  · rw [if_neg c1]
    by_cases c2 : p ≤ k ∧ k < p + i
    · rw [if_pos c2, if_pos (by omega)]
    · rw [if_neg c2, if_neg (by omega)]
def pxS (p n k : Int) : Int := if k = n - 1 then p else if p ≤ k ∧ k < n - 1 then k + 1 else k
theorem pm_px {P : Int → Nat} {p n k : Int} : pmS P p n k = P (pxS p n k) := by
  unfold pmS pmI pxS
  by_cases c1 : k = n - 1
  · rw [if_pos c1, if_pos c1]
  · rw [if_neg c1, if_neg c1]
    by_cases c2 : p ≤ k ∧ k < n - 1
    · rw [if_pos (by omega), if_pos c2]
    · rw [if_neg (by omega), if_neg c2]
theorem px_b {p n k : Int} (p0 : 0 ≤ p) (p1 : p < n) (n5 : n ≤ 5) (k0 : 0 ≤ k) (k1 : k < 5) : 0 ≤ pxS p n k ∧ pxS p n k < 5 := by
  unfold pxS
  (repeat' split) <;> omega
theorem px_i {p n i j : Int} (p0 : 0 ≤ p) (p1 : p < n) (n5 : n ≤ 5) (h : pxS p n i = pxS p n j) : i = j := by
  unfold pxS at h
  (repeat' split at h) <;> omega
theorem PlOK.rm {P : Int → Nat} {dr : Nat} {p n : Int} (h : PlOK P dr) (p0 : 0 ≤ p) (p1 : p < n) (n5 : n ≤ 5) : PlOK (pmS P p n) dr := by
  obtain ⟨h1, h2, h3, h4⟩ := h
  refine ⟨fun k k0 k1 => ?_, h2, fun i j i0 i1 j0 j1 e => ?_, fun i i0 i1 => ?_⟩
  · rw [pm_px]
    have := px_b p0 p1 n5 k0 k1
    exact h1 _ this.1 this.2
  · rw [pm_px, pm_px] at e
    have u := px_b p0 p1 n5 i0 i1
    have v := px_b p0 p1 n5 j0 j1
    exact px_i p0 p1 n5 (h3 _ _ u.1 u.2 v.1 v.2 e)
  · rw [pm_px]
    have u := px_b p0 p1 n5 i0 i1
    exact h4 _ u.1 u.2
theorem CRp.rm {I J σ : Nat → Int → Int} {P : Int → Nat} {dr : Nat} {p : Int} (hP : WFp σ) (h : CRp I σ P dr) (p0 : 0 ≤ p) (p1 : p < σ 127 21) (j1 : J 42 1 = σ 127 21 - 1) (k : ∀ a q, 37 ≤ a → a ≤ 68 → a ≠ 42 → J a q = I a q) : CRp J (rmS σ p) (pmS P p (σ 127 21)) dr := by
  obtain ⟨h1, h2, h3⟩ := h
  have b := hP.1
  refine ⟨j1.trans rm_21.symm, h2.rm p0 p1 b.2, fun q q0 q1 => ?_⟩
  rw [rm_21] at q1
  have key : ∀ a, isPl a → ∀ c q, c = a ∨ (a + 2 ≤ c ∧ c ≤ a + 4) → J c q = I c q := fun a ha c q hc => by
    have := pl_b ha
    exact k c q (by omega) (by omega) (by rcases ha with f | f | f | f | f | f <;> omega)
  rw [pm_px]
  by_cases c1 : q < p
  · rw [show pxS p (σ 127 21) q = q from (if_neg (by omega)).trans (if_neg (by omega))]
    exact (h3 q q0 (by omega)).mv (hP.2 q q0 (by omega)).2.2.2.2.1.2 (key _ (h2.1 q q0 (by omega))) (fun r r0 r1 => rm_lo c1 r0 r1)
  · rw [show pxS p (σ 127 21) q = q + 1 from (if_neg (by omega)).trans (if_pos (by omega))]
    exact (h3 (q + 1) (by omega) (by omega)).mv (hP.2 (q + 1) (by omega) (by omega)).2.2.2.2.1.2 (key _ (h2.1 (q + 1) (by omega) (by omega))) (fun r r0 r1 => rm_hi (by omega) q1 r0 r1)
def xDrp (σ : Nat → Int → Int) (p : Int) : mX := if 0 ≤ p ∧ p < σ 127 21 then (1, rmS σ p, true) else (-2, σ, false)
set_option maxRecDepth 20000 in
theorem lp161 {d : Nat} {I σ : Nat → Int → Int} {P : Int → Nat} {dr : Nat} {p : Int} (p0 : 0 ≤ p) (p1 : p < σ 127 21) (n5 : σ 127 21 ≤ 5) : ∀ (m i : Nat) (J : Nat → Int → Int), (i : Int) + m = 23 * (σ 127 21 - 1 - p) → sig J = rmI σ p i → (∀ a k, isSt a k = false → J a k = I a k) → wp (mcall MT CD (d + 0)) (CD 161) L0 (fun o h => o = none ∧ ∃ J, h = (S0, J, RR P dr) ∧ sig J = rmS σ p ∧ ∀ a k, isSt a k = false → J a k = I a k) 15 [vr 127, vi p, vi (23 * p + (i : Int))] [] (S0, J, RR P dr) := by
  intro m
  induction m with
  | zero => 
    intro i J hi hs hlo
    have j21 : J 127 21 = σ 127 21 - 1 := (st_s rfl rfl).trans ((congrFun (congrFun hs 127) 21).trans (if_pos ⟨rfl, rfl⟩))
    refine s_ild k161_15 rfl ?_
    refine z_push k161_16 ?_
    refine s_ald k161_18 rfl ?_
    refine z_getIe (z := (σ 127 21 - 1)) k161_19 rfl j21 ?_
    refine z_imul k161_22 ?_
    refine s_icge k161_23 ⟨by omega, by omega⟩ ⟨by omega, by omega⟩ (fun h23 => ?_) (fun q => absurd q (by omega))
    refine z_vret k161_47 ⟨rfl, J, rfl, ?_, hlo⟩
    rw [hs]
    unfold rmS
    rw [show 23 * (σ 127 21 - 1 - p) = (i : Int) by omega]
  | succ m ih => 
    intro i J hi hs hlo
    have j21 : J 127 21 = σ 127 21 - 1 := (st_s rfl rfl).trans ((congrFun (congrFun hs 127) 21).trans (if_pos ⟨rfl, rfl⟩))
    refine s_ild k161_15 rfl ?_
    refine z_push k161_16 ?_
    refine s_ald k161_18 rfl ?_
    refine z_getIe (z := (σ 127 21 - 1)) k161_19 rfl j21 ?_
    refine z_imul k161_22 ?_
    refine s_icge k161_23 ⟨by omega, by omega⟩ ⟨by omega, by omega⟩ (fun q => absurd q (by omega)) (fun h23 => ?_)
    have j138 : J 138 (23 * p + i + 23) = σ 138 (23 * p + i + 23) := (st_s rfl rfl).trans ((congrFun (congrFun hs 138) _).trans ((if_neg (by omega)).trans (if_neg (by omega))))
    refine s_ald k161_26 rfl ?_
    refine z_getRe (b := 138) k161_27 rfl rr_127_22 ?_
    refine s_ild k161_30 rfl ?_
    refine s_ald k161_31 rfl ?_
    refine z_getRe (b := 138) k161_32 rfl rr_127_22 ?_
    refine s_ild k161_35 rfl ?_
    refine z_push k161_36 ?_
    refine z_iadd k161_38 ?_
    refine z_ialde (z := σ 138 (23 * p + i + 23)) k161_39 rfl (by omega) (show ((23 * p + (i : Int)) + 23) < ((138 : Nat) : Int) by omega) j138 ?_
    refine z_iast k161_40 rfl (by omega) (show (23 * p + (i : Int)) < ((138 : Nat) : Int) by omega) ?_
    refine s_iinc2 k161_41 rfl ?_
    refine z_goto k161_44 ?_
    rw [show 23 * p + i + 1 = 23 * p + ((i + 1 : Nat) : Int) by omega]
    refine (ih (i + 1) _ (by omega) (by rw [sig_up rfl, hs]; exact rmI_s (by omega)) (fun a k hk => (if_neg (fun q => by rw [q.1, q.2] at hk; cases hk)).trans (hlo a k hk)))
set_option maxRecDepth 20000 in
theorem c161 {d : Nat} {I : Nat → Int → Int} {P : Int → Nat} {dr : Nat} {σ : Nat → Int → Int} (hs : sig I = σ) {p : Int} (p0 : 0 ≤ p) (p1 : p < σ 127 21) (n5 : σ 127 21 ≤ 5) : cal (d + 1) 161 [vr 127, vi p] I P dr (fun o h => o = none ∧ ∃ J, h = (S0, J, RR P dr) ∧ sig J = rmS σ p ∧ ∀ a k, isSt a k = false → J a k = I a k) := by
  refine cal_in (Nat.le_of_ble_eq_true rfl) ?_
  show wp _ _ _ _ 0 [vr 127, vi p, vj] [] _
  refine s_ald k161_0 rfl ?_
  refine z_dupr k161_1 ?_
  refine z_getIe (z := σ 127 21) k161_2 rfl (st_s hs rfl) ?_
  refine z_push k161_5 ?_
  refine z_isub k161_6 ?_
  refine z_putIe (q := 21) k161_7 rfl rfl ?_
  refine z_push k161_10 ?_
  refine s_ild k161_12 rfl ?_
  refine z_imul k161_13 ?_
  refine s_ist2 k161_14 rfl ?_
  have k := lp161 (d := d) (I := I) (P := P) (dr := dr) (σ := σ) p0 p1 n5 (23 * (σ 127 21 - 1 - p)).toNat 0 (upI I 127 21 (σ 127 21 - 1)) (by omega) (by rw [sig_up rfl, hs]; exact rmI_0) (fun a k hk => if_neg (fun q => by rw [q.1, q.2] at hk; cases hk))
  rw [show 23 * p + ((0 : Nat) : Int) = 23 * p by omega] at k
  exact k
theorem st_lo {a : Nat} {k : Int} (h : a < 127) : isSt a k = false := by
  unfold isSt
  simp only [Bool.or_eq_false_iff, Bool.and_eq_false_iff, beq_eq_false_iff_ne, decide_eq_false_iff_not]
  refine ⟨⟨⟨⟨Or.inl ?_, Or.inl ?_⟩, ?_⟩, ?_⟩, ?_⟩ <;> omega
set_option maxRecDepth 20000 in
theorem r162 {d : Nat} {I : Nat → Int → Int} {P : Int → Nat} {dr : Nat} {σ : Nat → Int → Int} (hs : sig I = σ) (hW : WFs σ) {p : Int} (i_p : inR p) : cal (d + 3) 162 [vr 127, vi p] I P dr (refQ (xDrp σ p) I P dr) := by
  refine cal_in (Nat.le_of_ble_eq_true rfl) ?_
  obtain ⟨hN, hT, hP, hA, hL⟩ := id hW
  have b0 := hN.1
  have b1 := hN.2.1
  have b2 := hN.2.2.1
  have b10 := hN.2.2.2.2.2.2.2.1
  have bp := hP.1
  show wp _ _ _ _ 0 [vr 127, vi p] [] _
  refine s_ald k162_0 rfl ?_
  refine s_ild k162_1 rfl ?_
  refine z_inv1A k162_2 rfl (Nat.le_of_ble_eq_true rfl) (c139 hs (by omega) i_p) ?_
  refine z_ifneb k162_5 (fun h5 => ?_) (fun h5 => ?_)
  · refine s_ald k162_11 rfl ?_
    refine s_ild k162_12 rfl ?_
    refine z_inv1 k162_13 rfl (Nat.le_of_ble_eq_true rfl) (c161 hs (by omega) (by omega) (by omega)) (fun o h1 hq => ?_)
    obtain ⟨rfl, J2, rfl, g1, g2⟩ := hq
    refine z_push k162_16 ?_
    refine z_iret k162_17 ⟨J2, ?_, rfl, ?_, fun a k hk => g2 a k (st_lo hk)⟩
    · unfold xDrp
      rw [if_pos (by omega)]
    · unfold xDrp
      rw [if_pos (by omega)]
      exact g1
  · refine z_push k162_8 ?_
    refine z_iret k162_10 ⟨I, ?_, rfl, ?_, fun _ _ _ => rfl⟩
    · unfold xDrp
      rw [if_neg (by omega)]
    · unfold xDrp
      rw [if_neg (by omega)]
      exact hs
set_option maxRecDepth 20000 in
theorem lp31 {d : Nat} {I σ : Nat → Int → Int} {P : Int → Nat} {dr : Nat} {p : Int} (h42 : I 42 1 = σ 127 21) (hPc : ∀ k, 0 ≤ k → k < 5 → isPl (P k)) (p0 : 0 ≤ p) (p1 : p < σ 127 21) (n5 : σ 127 21 ≤ 5) : ∀ (m i : Nat), (i : Int) + m = σ 127 21 - 1 - p → wp (mcall MT CD (d + 1)) (CD 31) L0 (fun o h => o = none ∧ h = (S0, upI I 42 1 (σ 127 21 - 1), RR (pmS P p (σ 127 21)) dr)) 18 [vr 42, vi p, vr (P p), vi (p + (i : Int))] [] (S0, I, RR (pmI P p i) dr) := by
  intro m
  induction m with
  | zero => 
    intro i hi
    refine s_ild k31_18 rfl ?_
    refine z_push k31_19 ?_
    refine z_iadd k31_20 ?_
    refine s_ald k31_21 rfl ?_
    refine z_getIe (z := σ 127 21) k31_22 rfl h42 ?_
    refine s_icge k31_25 ⟨by omega, by omega⟩ ⟨by omega, by omega⟩ (fun h25 => ?_) (fun q => absurd q (by omega))
    refine s_ald k31_48 rfl ?_
    refine z_dupr k31_49 ?_
    refine z_getIe (z := σ 127 21) k31_50 rfl h42 ?_
    refine z_push k31_53 ?_
    refine z_isub k31_54 ?_
    refine z_putIe (q := 1) k31_55 rfl rfl ?_
    refine s_ald k31_58 rfl ?_
    refine z_getRe (b := 43) k31_59 rfl rr_42_0 ?_
    refine s_ald k31_62 rfl ?_
    refine z_getIe (z := (σ 127 21) - 1) k31_63 rfl up_at ?_
    refine s_ald k31_66 rfl ?_
    refine z_aast k31_67 rfl (by rw [pl_sh (hPc _ (by omega) (by omega))]) (by omega) (show ((σ 127 21) - 1) < ((5 : Nat) : Int) by omega) ?_
    refine z_vret k31_68 ⟨rfl, ?_⟩
    rw [RR_pl]
    have e : (fun j => if j = σ 127 21 - 1 then P p else pmI P p i j) = pmS P p (σ 127 21) := by
      funext k
      unfold pmS
      rw [show σ 127 21 - 1 - p = (i : Int) by omega]
    rw [← e]
  | succ m ih => 
    intro i hi
    refine s_ild k31_18 rfl ?_
    refine z_push k31_19 ?_
    refine z_iadd k31_20 ?_
    refine s_ald k31_21 rfl ?_
    refine z_getIe (z := σ 127 21) k31_22 rfl h42 ?_
    refine s_icge k31_25 ⟨by omega, by omega⟩ ⟨by omega, by omega⟩ (fun q => absurd q (by omega)) (fun h25 => ?_)
    refine s_ald k31_28 rfl ?_
    refine z_getRe (b := 43) k31_29 rfl rr_42_0 ?_
    refine s_ild k31_32 rfl ?_
    refine s_ald k31_33 rfl ?_
    refine z_getRe (b := 43) k31_34 rfl rr_42_0 ?_
    refine s_ild k31_37 rfl ?_
    refine z_push k31_38 ?_
    refine z_iadd k31_39 ?_
    refine z_aalde (b := P (p + (i : Int) + 1)) k31_40 rfl (by omega) (show ((p + (i : Int)) + 1) < ((5 : Nat) : Int) by omega) (rr_P.trans (if_neg (by omega))) ?_
    refine z_aast k31_41 rfl (by rw [pl_sh (hPc _ (by omega) (by omega))]) (by omega) (show (p + (i : Int)) < ((5 : Nat) : Int) by omega) ?_
    refine s_iinc3 k31_42 rfl ?_
    refine z_goto k31_45 ?_
    rw [RR_pl, pmI_s (by omega)]
    rw [show p + i + 1 = p + ((i + 1 : Nat) : Int) by omega]
    refine (ih (i + 1) (by omega))
set_option maxRecDepth 20000 in
theorem c31 {d : Nat} {I : Nat → Int → Int} {P : Int → Nat} {dr : Nat} {σ : Nat → Int → Int} {p : Int} (h42 : I 42 1 = σ 127 21) (hPc : ∀ k, 0 ≤ k → k < 5 → isPl (P k)) (p0 : 0 ≤ p) (p1 : p < σ 127 21) (n5 : σ 127 21 ≤ 5) : cal (d + 2) 31 [vr 42, vi p] I P dr (fun o h => o = none ∧ h = (S0, upI I 42 1 (σ 127 21 - 1), RR (pmS P p (σ 127 21)) dr)) := by
  refine cal_in (Nat.le_of_ble_eq_true rfl) ?_
  show wp _ _ _ _ 0 [vr 42, vi p, vj, vj] [] _
  refine s_ald k31_0 rfl ?_
  refine s_ild k31_1 rfl ?_
  refine z_inv1A k31_2 rfl (Nat.le_of_ble_eq_true rfl) (c29 h42 (by omega) ⟨by omega, by omega⟩) ?_
  refine z_ifneb k31_5 (fun h5 => ?_) (fun q => absurd (show 0 ≤ p ∧ p < σ 127 21 by omega) q)
  refine s_ald k31_9 rfl ?_
  refine z_getRe (b := 43) k31_10 rfl rr_42_0 ?_
  refine s_ild k31_13 rfl ?_
  refine z_aalde (b := P p) k31_14 rfl (by omega) (show p < ((5 : Nat) : Int) by omega) rr_P ?_
  refine s_ast2 k31_15 rfl ?_
  refine s_ild k31_16 rfl ?_
  refine s_ist3 k31_17 rfl ?_
  have k := lp31 (d := d) (I := I) (P := P) (dr := dr) (σ := σ) h42 hPc p0 p1 n5 (σ 127 21 - 1 - p).toNat 0 (by omega)
  rw [show p + ((0 : Nat) : Int) = p by omega, show pmI P p ((0 : Nat) : Int) = P from pmI_0] at k
  exact k
set_option maxRecDepth 20000 in
theorem k103 {d : Nat} {I : Nat → Int → Int} {P : Int → Nat} {dr : Nat} {σ : Nat → Int → Int} (hG : CG I σ P dr) (hW : WFs σ) {p : Int} (i_p : inR p) : cal (d + 3) 103 [vr 16, vi p] I P dr (fun o h => ∃ P2 dr2, clsQ (xDrp σ p) I P2 dr2 o h) := by
  refine cal_in (Nat.le_of_ble_eq_true rfl) ?_
  obtain ⟨hN, hT, hP, hA, hL⟩ := id hW
  have b0 := hN.1
  have b1 := hN.2.1
  have b2 := hN.2.2.1
  have b10 := hN.2.2.2.2.2.2.2.1
  obtain ⟨hC, hCt, hcp, hCl, hca⟩ := id hG
  obtain ⟨cn, ct, cg, cmr, cmf, cmt, cw, cT, cS, cW⟩ := id hC
  have bp := hP.1
  have hPc : ∀ k, 0 ≤ k → k < 5 → isPl (P k) := hcp.2.1.1
  show wp _ _ _ _ 0 [vr 16, vi p] [] _
  refine s_ald k103_0 rfl ?_
  refine z_getRe (b := 42) k103_1 rfl rr_16_2 ?_
  refine s_ild k103_4 rfl ?_
  refine z_inv1A k103_5 rfl (Nat.le_of_ble_eq_true rfl) (c29 hcp.1 bp i_p) ?_
  refine z_ifneb k103_8 (fun h8 => ?_) (fun h8 => ?_)
  · refine s_ald k103_14 rfl ?_
    refine z_getRe (b := 42) k103_15 rfl rr_16_2 ?_
    refine s_ild k103_18 rfl ?_
    refine z_inv1 k103_19 rfl (Nat.le_of_ble_eq_true rfl) (c31 hcp.1 hPc (by omega) (by omega) (by omega)) (fun o h1 hq => ?_)
    obtain ⟨rfl, rfl⟩ := hq
    refine s_ald k103_22 rfl ?_
    refine z_getRe (b := 69) k103_23 rfl rr_16_3 ?_
    refine z_inv0 k103_26 rfl (Nat.le_of_ble_eq_true rfl) (c1) (fun o h1 hq => ?_)
    obtain ⟨rfl, rfl⟩ := hq
    refine z_push k103_29 ?_
    refine z_iret k103_30 ⟨pmS P p (σ 127 21), dr, _, ?_, rfl, ?_⟩
    · unfold xDrp
      rw [if_pos (by omega)]
    · unfold xDrp
      rw [if_pos (by omega)]
      dsimp only
      refine ⟨CG.plans hN hG (CRp.rm hP hcp (by omega) (by omega) ((up_ne (by decide)).trans up_at) (fun a q h1 h2 h3 => (up_ne (by omega)).trans (up_ne h3))) (fun a q _ => (up_ne (by omega)).trans (up_ne (by omega))) (fun a q h1 h2 => rm_o h1 h2), (KC.rf.up (by omega)).fg⟩
  · refine z_push k103_11 ?_
    refine z_iret k103_13 ⟨P, dr, I, ?_, rfl, ?_⟩
    · unfold xDrp
      rw [if_neg (by omega)]
    · unfold xDrp
      rw [if_neg (by omega)]
      exact ⟨hG, KC.rf⟩
