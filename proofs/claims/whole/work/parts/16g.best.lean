/-! the best night, the class: a set is placed -/
def lexF (p n : Nat) (d c : Nat → Nat) : Prop := ∃ k, p ≤ k ∧ k < n ∧ d k < c k ∧ ∀ q, p ≤ q → q < k → d q = c q
def nrmF (s p n : Nat) (c : Nat → Nat) : Prop := ∀ q, p ≤ q → q < n → s.testBit q = false → c q = 112
/-- the first placements of the set's plans from p on -/
def FirS (σ : Nat → Int → Int) (r p s t : Nat) (c : Nat → Nat) : Prop := solS σ r p s t c ∧ nrmF s p (p + r) c ∧ ∀ d, solS σ r p s t d → nrmF s p (p + r) d → ¬ lexF p (p + r) d c
theorem fir_0 {σ : Nat → Int → Int} {p s t : Nat} {c : Nat → Nat} : FirS σ 0 p s t c := ⟨trivial, fun q h1 h2 => absurd h2 (by omega), fun d _ _ u => by obtain ⟨k, k1, k2, _⟩ := u; omega⟩
theorem sol_set1 {σ : Nat → Int → Int} {r p s t k : Nat} {c : Nat → Nat} (h : solS σ r (p + 1) s t c) : solS σ r (p + 1) s t (setC c p k) := sol_eq r (p + 1) s t c _ (fun q q1 _ _ => (set_ne (by omega)).symm) h
theorem fir_no {σ : Nat → Int → Int} {r p s t : Nat} {c : Nat → Nat} (hp : s.testBit p = false) (h : FirS σ r (p + 1) s t c) : FirS σ (r + 1) p s t (setC c p 112) := by
  obtain ⟨h1, h2, h3⟩ := h
  refine ⟨(sol_no hp).mpr (sol_set1 h1), fun q q1 q2 hq => ?_, fun d d1 d2 u => ?_⟩
  · by_cases e : q = p
    · subst e; exact set_at
    · rw [set_ne e]; exact h2 q (by omega) (by omega) hq
  · obtain ⟨k, k1, k2, k3, k4⟩ := u
    have e : d p = 112 := d2 p (Nat.le_refl _) (by omega) hp
    by_cases ek : k = p
    · subst ek; rw [set_at, e] at k3; omega
    · refine h3 d ((sol_no hp).mp d1) (fun q q1 q2 hq => d2 q (by omega) (by omega) hq) ⟨k, by omega, by omega, ?_, fun q q1 q2 => ?_⟩
      · rw [set_ne ek] at k3; exact k3
      · have := k4 q (by omega) q2; rw [set_ne (by omega)] at this; exact this
theorem fir_in {σ : Nat → Int → Int} {r p s t k : Nat} {c : Nat → Nat} (hp : s.testBit p = true) (hk : k < lnS σ p) (hf : fre (mkQ σ p k) (isS σ p) t) (h : FirS σ r (p + 1) s (t ||| tkN (mkQ σ p k) (isS σ p)) c) (hlo : ∀ k', k' < k → ∀ d, solS σ (r + 1) p s t d → d p ≠ k') : FirS σ (r + 1) p s t (setC c p k) := by
  obtain ⟨h1, h2, h3⟩ := h
  refine ⟨(sol_in hp).mpr ⟨by rw [set_at]; exact hk, by rw [set_at]; exact hf, by rw [set_at]; exact sol_set1 h1⟩, fun q q1 q2 hq => ?_, fun d d1 d2 u => ?_⟩
  · by_cases e : q = p
    · subst e; rw [hp] at hq; cases hq
    · rw [set_ne e]; exact h2 q (by omega) (by omega) hq
  · obtain ⟨m, k1, k2, k3, k4⟩ := u
    by_cases ek : m = p
    · subst ek
      rw [set_at] at k3
      exact hlo (d m) k3 d d1 rfl
    · have e : d p = k := by
        have := k4 p (Nat.le_refl _) (by omega)
        rw [set_at] at this
        exact this
      have d3 := ((sol_in hp).mp d1).2.2
      rw [e] at d3
      refine h3 d d3 (fun q q1 q2 hq => d2 q (by omega) (by omega) hq) ⟨m, by omega, by omega, ?_, fun q q1 q2 => ?_⟩
      · rw [set_ne ek] at k3; exact k3
      · have := k4 q (by omega) q2; rw [set_ne (by omega)] at this; exact this
/-- what placing rests on -/
def CSx (σ I : Nat → Int → Int) (P : Int → Nat) (dr g S : Nat) : Prop := I 17 0 = σ 127 0 ∧ CRp I σ P dr ∧ (∀ p : Nat, (p : Int) < σ 127 21 → CK I p (plS σ p)) ∧ (∀ s : Nat, s ≤ S → I 115 s = sB (zS σ) s (nP σ) ∧ I 116 s = ((uS σ s (nP σ) : Nat) : Int)) ∧ I 69 15 = (g : Int)
theorem CSx.k {σ I J : Nat → Int → Int} {P : Int → Nat} {dr g S : Nat} (hP : WFp σ) (h : CSx σ I P dr g S) (k : ∀ a q, a ≠ 79 → a ≠ 117 → J a q = I a q) : CSx σ J P dr g S := by
  have bp := hP.1
  refine ⟨(k _ _ (by decide) (by decide)).trans h.1, h.2.1.keep hP (fun a q _ _ => k a q (by omega) (by omega)), fun p hp => ?_, fun s hs => ⟨(k _ _ (by decide) (by decide)).trans (h.2.2.2.1 s hs).1, (k _ _ (by decide) (by decide)).trans (h.2.2.2.1 s hs).2⟩, (k _ _ (by decide) (by decide)).trans h.2.2.2.2⟩
  obtain ⟨a1, a2, a3⟩ := h.2.2.1 p hp
  exact ⟨(k _ _ (by decide) (by decide)).trans a1, fun i hi => (k _ _ (by omega) (by omega)).trans (a2 i hi), (k _ _ (by decide) (by decide)).trans a3⟩
theorem re_z {σ : Nat → Int → Int} {s p r : Nat} (hs : s < 32) (hpr : p + r ≤ 5) (hp5 : p < 5) : (szB (szP σ) (reN s p) r p : Int) = sB (zS σ) (reN s p) (p + r) := by
  have h := szB_sB (sz := szP σ) (s := reN s p) r p
  have h0 : sB (fun q => (szP σ q : Int)) (reN s p) p = 0 := sB_0 p (fun q hq => by rw [re_bit s hs p hp5 q (by omega), show decide (p ≤ q) = false from decide_eq_false (by omega), Bool.false_and])
  rw [h0] at h
  show _ = sB (fun q => (szP σ q : Int)) (reN s p) (p + r)
  omega
/-- the rest of the set has no way, just if the set from p on has none -/
theorem re_sol {σ : Nat → Int → Int} {s p r t : Nat} {c : Nat → Nat} (hs : s < 32) (hpr : p + r ≤ 5) (hp5 : p < 5) : (solS σ r p (reN s p) t c ↔ solS σ r p s t c) ∧ (solS σ (p + r) 0 (reN s p) t c ↔ solS σ r p s t c) := by
  have h1 : solS σ r p (reN s p) t c ↔ solS σ r p s t c := ⟨fun h => sol_set r p _ _ t c (fun q q1 q2 => by rw [re_bit s hs p hp5 q (by omega), show decide (p ≤ q) = true from decide_eq_true q1, Bool.true_and]) h, fun h => sol_set r p _ _ t c (fun q q1 q2 => by rw [re_bit s hs p hp5 q (by omega), show decide (p ≤ q) = true from decide_eq_true q1, Bool.true_and]) h⟩
  refine ⟨h1, ?_⟩
  have h2 := sol_skip (ln := lnS σ) (mk := mkQ σ) (is_ := isS σ) p r 0 (reN s p) t c (fun q _ q2 => by rw [re_bit s hs p hp5 q (by omega), show decide (p ≤ q) = false from decide_eq_false (by omega), Bool.false_and])
  rw [Nat.zero_add] at h2
  exact h2.trans h1
theorem p32 {q : Nat} (h : 5 ≤ q) : 32 ≤ 2 ^ q := by
  have := Nat.pow_le_pow_right (show 0 < 2 by decide) h
  omega
set_option maxRecDepth 20000 in
theorem c17 {σ : Nat → Int → Int} {P : Int → Nat} {dr g S s : Nat} (hN : WFn σ) (hP : WFp σ) (hsS : s ≤ S) (hs : s < 32) (hsb : ∀ q, nP σ ≤ q → s.testBit q = false) (hg : g < 1000) : ∀ (r : Nat) {d : Nat} {I : Nat → Int → Int} {p t : Nat} (hpr : p + r = nP σ) (hX : CSx σ I P dr g S) (hM : HM σ I g) (ht : TKn (σ 127 0).toNat t), cal (d + r + 3) 17 [vr 69, vi (s : Int), vi (p : Int), vl (t : Int)] I P dr (fun o h => ∃ J, h = (S0, J, RR P dr) ∧ (∀ a q, a ≠ 117 → ¬ (a = 79 ∧ (p : Int) ≤ q) → J a q = I a q) ∧ HM σ J g ∧ ((o = some (vi 1) ∧ ∃ c, FirS σ r p s t c ∧ ∀ q : Nat, p ≤ q → q < nP σ → J 79 q = (c q : Int)) ∨ (o = some (vi 0) ∧ ∀ c, ¬ solS σ r p s t c))) := by
  have b0 := hN.1
  have bp := hP.1
  have hnp : nP σ = (σ 127 21).toNat := rfl
  intro r
  induction r with
  | zero =>
    intro d I p t hpr hX hM ht
    refine cal_in (Nat.le_of_ble_eq_true rfl) ?_
    obtain ⟨hn, hcp, hck, htb, h15⟩ := id hX
    have hPc : ∀ k, 0 ≤ k → k < 5 → isPl (P k) := hcp.2.1.1
    show wp _ _ _ _ 0 [vr 69, vi (s : Int), vi (p : Int), vl (t : Int), vj, vj, vj, vj, vj] [] _
    refine s_ild k17_0 rfl ?_
    refine s_ald k17_1 rfl ?_
    refine z_getRe (b := 42) k17_2 rfl rr_69_5 ?_
    refine z_getIe (z := σ 127 21) k17_5 rfl hcp.1 ?_
    refine s_iclt k17_8 ⟨by omega, by omega⟩ ⟨by omega, by omega⟩ (fun q => absurd q (by omega)) (fun h8 => ?_)
    refine z_push k17_11 ?_
    exact z_zret k17_12 (Or.inr rfl) ⟨I, rfl, fun _ _ _ _ => rfl, hM, Or.inl ⟨rfl, fun _ => 0, fir_0, fun q q1 q2 => absurd q2 (by omega)⟩⟩
  | succ r ihr =>
    intro d I p t hpr hX hM ht
    refine cal_in (Nat.le_of_ble_eq_true rfl) ?_
    obtain ⟨hn, hcp, hck, htb, h15⟩ := id hX
    have hPc : ∀ k, 0 ≤ k → k < 5 → isPl (P k) := hcp.2.1.1
    show wp _ _ _ _ 0 [vr 69, vi (s : Int), vi (p : Int), vl (t : Int), vj, vj, vj, vj, vj] [] _
    have hpp : (p : Int) < σ 127 21 := by omega
    have hbit := s5_bit s hs p (by omega)
    have hln := ln_b hN hP p
    have his : I (P (p : Int)) 1 = ((isS σ p : Nat) : Int) := by
      have h1 := (hcp.f (p := (p : Int)) (by omega) hpp).2.1
      have h2 := (hP.2 (p : Int) (by omega) hpp).2.1
      rw [is_e hpp]
      omega
    have hib := is_b hP p
    have hre : reN s p ≤ S := Nat.le_trans re_le hsS
    have hr32 : reN s p < 32 := Nat.lt_of_le_of_lt re_le hs
    cases hp : s.testBit p with
    | false =>
      refine s_ild k17_0 rfl ?_
      refine s_ald k17_1 rfl ?_
      refine z_getRe (b := 42) k17_2 rfl rr_69_5 ?_
      refine z_getIe (z := σ 127 21) k17_5 rfl hcp.1 ?_
      refine s_iclt k17_8 ⟨by omega, by omega⟩ ⟨by omega, by omega⟩ (fun h8 => ?_) (fun q => absurd q (by omega))
      refine s_ild k17_13 rfl ?_
      refine s_ild k17_14 rfl ?_
      refine z_sta2A k17_15 (Nat.le_of_ble_eq_true rfl) (c128) ?_
      refine z_ifneb k17_18 (fun q => absurd q (fun u => absurd (hbit.mp u) (by rw [hp]; decide))) (fun h18 => ?_)
      refine s_ald k17_21 rfl ?_
      refine z_getRe (b := 79) k17_22 rfl rr_69_8 ?_
      refine s_ild k17_25 rfl ?_
      refine z_push k17_26 ?_
      refine z_iast k17_28 rfl (by omega) (show (p : Int) < ((5 : Nat) : Int) by omega) ?_
      refine s_ald k17_29 rfl ?_
      refine s_ild k17_30 rfl ?_
      refine s_ild k17_31 rfl ?_
      refine z_push k17_32 ?_
      refine z_iadd k17_33 ?_
      refine s_lld k17_34 rfl ?_
      refine z_inv3 k17_35 rfl (Nat.le_of_ble_eq_true rfl) (ihr (d := d) (p := p + 1) (t := t) (by omega) (hX.k hP (fun a q h1 h2 => up_ne h1)) (hM.no (fun x => up_ne (by decide))) ht) (fun o h1 hq => ?_)
      obtain ⟨J, rfl, lo, hM2, hq⟩ := hq
      have lo2 : (∀ a q, a ≠ 117 → ¬ (a = 79 ∧ (p : Int) ≤ q) → J a q = I a q) := fun a q h1 h2 => (lo a q h1 (by omega)).trans (if_neg (by omega))
      rcases hq with ⟨rfl, c, hc, hc2⟩ | ⟨rfl, hno⟩
      · refine z_zret k17_38 (Or.inr rfl) ⟨J, rfl, lo2, hM2, Or.inl ⟨rfl, _, fir_no hp hc, fun q q1 q2 => ?_⟩⟩
        by_cases e : q = p
        · subst e
          rw [set_at]
          exact (lo 79 q (by decide) (by omega)).trans up_at
        · rw [set_ne e]
          exact hc2 q (by omega) q2
      · exact z_zret k17_38 (Or.inl rfl) ⟨J, rfl, lo2, hM2, Or.inr ⟨rfl, fun c hc => hno c ((sol_no hp).mp hc)⟩⟩
    | true =>
      have han := an_lt ht (by omega)
      have hp12 := p12 (n := (σ 127 0).toNat) (by omega)
      have hal : anR t < 8192 := by omega
      have hub := u_b hN hP (s := reN s p) (nP σ) (by omega)
      have hpc := pc_le (σ 127 0).toNat (anR t) han 16 (by omega)
      have hmp : 0 ≤ mpS ((keyN g (reN s p) (t &&& uS σ (reN s p) (nP σ)) : Nat) : Int) ∧ mpS ((keyN g (reN s p) (t &&& uS σ (reN s p) (nP σ)) : Nat) : Int) < 1024 := ush_b _
      obtain ⟨m, hm1, hm2, -⟩ := hM (mpS ((keyN g (reN s p) (t &&& uS σ (reN s p) (nP σ)) : Nat) : Int)) hmp.1 hmp.2
      have hez := re_z (σ := σ) (s := s) (p := p) (r := r + 1) hs (by omega) (by omega)
      rw [hpr] at hez
      have hzb : ∀ q : Nat, (q : Int) ≤ σ 127 21 → 0 ≤ sB (zS σ) (reN s p) q ∧ sB (zS σ) (reN s p) q ≤ 12 * q := fun q => by
        induction q with
        | zero => exact fun _ => ⟨Int.le_refl _, Int.le_refl _⟩
        | succ q ihq =>
          intro hq
          have i1 := ihq (by omega)
          have i2 := szP_b hP (p := q) (by omega)
          have e2 : zS σ q = (szP σ q : Int) := rfl
          rw [sB_s]
          split <;> omega
      have hzb2 := hzb (nP σ) (by omega)
      have key : ∀ (m k : Nat) (J : Nat → Int → Int) (l8 : mV), k + m = lnS σ p → (∀ a q, a ≠ 117 → ¬ (a = 79 ∧ (p : Int) ≤ q) → J a q = I a q) → HM σ J g → (∀ k2, k2 < k → ∀ c, solS σ (r + 1) p s t c → c p ≠ k2) → wp (mcall MT CD (d + (r + 1) + 2)) (CD 17) L0 (fun o h => ∃ J, h = (S0, J, RR P dr) ∧ (∀ a q, a ≠ 117 → ¬ (a = 79 ∧ (p : Int) ≤ q) → J a q = I a q) ∧ HM σ J g ∧ ((o = some (vi 1) ∧ ∃ c, FirS σ (r + 1) p s t c ∧ ∀ q : Nat, p ≤ q → q < nP σ → J 79 q = (c q : Int)) ∨ (o = some (vi 0) ∧ ∀ c, ¬ solS σ (r + 1) p s t c))) 91 [vr 69, vi (s : Int), vi (p : Int), vl (t : Int), vj, vi ((reN s p : Nat) : Int), vi ((isS σ p : Nat) : Int), vi (k : Int), l8] [] (S0, J, RR P dr) := by
        intro m
        induction m with
        | zero =>
          intro k J l8 hk lo hMJ hlo
          have hXJ := hX.k hP (fun a q h1 h2 => lo a q h2 (by omega))
          have hj76 : J 76 p = ((lnS σ p : Nat) : Int) := by rw [ln_e hpp]; exact (hXJ.2.2.1 p hpp).1
          have hno : ∀ c, ¬ solS σ (r + 1) p s t c := fun c hc => hlo (c p) (by have := ((sol_in hp).mp hc).1; omega) c hc rfl
          refine s_ild k17_91 rfl ?_
          refine s_ald k17_93 rfl ?_
          refine z_getRe (b := 76) k17_94 rfl rr_69_1 ?_
          refine s_ild k17_97 rfl ?_
          refine z_ialde (z := ((lnS σ p : Nat) : Int)) k17_98 rfl (by omega) (show (p : Int) < ((5 : Nat) : Int) by omega) hj76 ?_
          refine s_icge k17_99 ⟨by omega, by omega⟩ ⟨by omega, by omega⟩ (fun h99 => ?_) (fun q => absurd q (by omega))
          refine s_ald k17_160 rfl ?_
          refine s_ild k17_161 rfl ?_
          refine s_lld k17_163 rfl ?_
          refine z_inv2 k17_164 rfl (Nat.le_of_ble_eq_true rfl) (c22 (s := reN s p) hr32 ht.1 hg hub (hXJ.2.2.2.1 _ hre).2 hXJ.2.2.2.2) (fun o h1 hq => ?_)
          obtain ⟨rfl, rfl⟩ := hq
          refine z_push k17_167 ?_
          refine z_zret k17_168 (Or.inl rfl) ⟨_, rfl, fun a q h1 h2 => (up_ne h1).trans (lo a q h1 h2), hMJ.put hr32 ht.1 (fun c hc => ?_), Or.inr ⟨rfl, hno⟩⟩
          rw [← hpr] at hc
          exact hno c ((re_sol hs (by omega) (by omega)).2.mp hc)
        | succ m ih =>
          intro k J l8 hk lo hMJ hlo
          have hXJ := hX.k hP (fun a q h1 h2 => lo a q h2 (by omega))
          have hj76 : J 76 p = ((lnS σ p : Nat) : Int) := by rw [ln_e hpp]; exact (hXJ.2.2.1 p hpp).1
          have hjm : ∀ i, i < lnS σ p → J (71 + p) i = ((mkQ σ p i : Nat) : Int) := fun i hi => by rw [ln_e hpp] at hi; exact (hXJ.2.2.1 p hpp).2.1 i hi
          have hm4 := mk_4 hN hP p k (by omega)
          have hmk := mk_b hN hP p k (by omega)
          have hfi := fre_iff (x := mkQ σ p k) (i := isS σ p) (t := t)
          refine s_ild k17_91 rfl ?_
          refine s_ald k17_93 rfl ?_
          refine z_getRe (b := 76) k17_94 rfl rr_69_1 ?_
          refine s_ild k17_97 rfl ?_
          refine z_ialde (z := ((lnS σ p : Nat) : Int)) k17_98 rfl (by omega) (show (p : Int) < ((5 : Nat) : Int) by omega) hj76 ?_
          refine s_icge k17_99 ⟨by omega, by omega⟩ ⟨by omega, by omega⟩ (fun q => absurd q (by omega)) (fun h99 => ?_)
          refine s_ald k17_102 rfl ?_
          refine z_getRe (b := 70) k17_103 rfl rr_69_0 ?_
          refine s_ild k17_106 rfl ?_
          refine z_aalde (b := 71 + (p : Int).toNat) k17_107 rfl (by omega) (show (p : Int) < ((5 : Nat) : Int) by omega) (rr_mk (by omega) (by omega)) ?_
          refine s_ild k17_108 rfl ?_
          refine z_ialde (z := ((mkQ σ p k : Nat) : Int)) k17_110 (by rw [(mk_sh (t := (p : Int).toNat) (by omega))]) (by omega) (by rw [(mk_sh (t := (p : Int).toNat) (by omega))]; show (k : Int) < ((112 : Nat) : Int); omega) (hjm k (by omega)) ?_
          refine s_ist8 k17_111 rfl ?_
          refine s_ild k17_113 rfl ?_
          refine s_ild k17_115 rfl ?_
          refine s_lld k17_117 rfl ?_
          refine z_sta3A k17_118 (Nat.le_of_ble_eq_true rfl) (c23 hm4 hib ht.1) ?_
          refine z_ifeqb k17_121 (fun h121 => ?_) (fun h121 => ?_)
          · refine s_iinc7 k17_154 rfl ?_
            refine z_goto k17_157 ?_
            refine ih (k + 1) J _ (by omega) lo hMJ (fun k2 h2 c hc e => ?_)
            by_cases u : k2 = k
            · subst u
              have := ((sol_in hp).mp hc).2.1
              rw [e] at this
              exact h121 (hfi.mpr this)
            · exact hlo k2 (by omega) c hc e
          · refine s_ald k17_124 rfl ?_
            refine z_getRe (b := 79) k17_125 rfl rr_69_8 ?_
            refine s_ild k17_128 rfl ?_
            refine s_ild k17_129 rfl ?_
            refine z_iast k17_131 rfl (by omega) (show (p : Int) < ((5 : Nat) : Int) by omega) ?_
            refine s_ald k17_132 rfl ?_
            refine s_ild k17_133 rfl ?_
            refine s_ild k17_134 rfl ?_
            refine z_push k17_135 ?_
            refine z_iadd k17_136 ?_
            refine s_lld k17_137 rfl ?_
            refine s_ild k17_138 rfl ?_
            refine s_ild k17_140 rfl ?_
            refine z_sta2A k17_142 (Nat.le_of_ble_eq_true rfl) (c24 hm4 hib) ?_
            refine z_lor k17_145 ?_
            have hfr : fre (mkQ σ p k) (isS σ p) t := hfi.mp h121
            have htk : tkN (mkQ σ p k) (isS σ p) < 2 ^ 48 := tk_lt (x := mkQ σ p k) (i := isS σ p) hm4 3
            have ht2 := ht.add (by omega) (by omega) hmk.1 hib hfr
            refine z_eql (b := ((t ||| tkN (mkQ σ p k) (isS σ p) : Nat) : Int)) (yor_n (by have := ht.1; omega) (by omega)) ?_
            refine z_inv3 k17_146 rfl (Nat.le_of_ble_eq_true rfl) (ihr (d := d) (p := p + 1) (t := t ||| tkN (mkQ σ p k) (isS σ p)) (by omega) (hXJ.k hP (fun a q h1 h2 => up_ne h1)) (hMJ.no (fun x => up_ne (by decide))) ht2) (fun o h1 hq => ?_)
            obtain ⟨J2, rfl, lo2, hM2, hq⟩ := hq
            have lo3 : (∀ a q, a ≠ 117 → ¬ (a = 79 ∧ (p : Int) ≤ q) → J2 a q = I a q) := fun a q h1 h2 => (lo2 a q h1 (by omega)).trans ((if_neg (by omega)).trans (lo a q h1 h2))
            rcases hq with ⟨rfl, c, hc, hc2⟩ | ⟨rfl, hno⟩
            · refine s_ifeq k17_149 (inR_lit rfl) (fun q => absurd q (by decide)) (fun _ => ?_)
              refine z_push k17_152 ?_
              refine z_zret k17_153 (Or.inr rfl) ⟨J2, rfl, lo3, hM2, Or.inl ⟨rfl, _, fir_in hp (by omega) hfr hc hlo, fun q q1 q2 => ?_⟩⟩
              by_cases e : q = p
              · subst e
                rw [set_at]
                exact (lo2 79 q (by decide) (by omega)).trans up_at
              · rw [set_ne e]
                exact hc2 q (by omega) q2
            · refine s_ifeq k17_149 (inR_lit rfl) (fun _ => ?_) (fun q => absurd rfl q)
              refine s_iinc7 k17_154 rfl ?_
              refine z_goto k17_157 ?_
              refine ih (k + 1) J2 _ (by omega) lo3 hM2 (fun k2 h2 c hc e => ?_)
              by_cases u : k2 = k
              · subst u
                have := ((sol_in hp).mp hc).2.2
                rw [e] at this
                exact hno c this
              · exact hlo k2 (by omega) c hc e
      refine s_ild k17_0 rfl ?_
      refine s_ald k17_1 rfl ?_
      refine z_getRe (b := 42) k17_2 rfl rr_69_5 ?_
      refine z_getIe (z := σ 127 21) k17_5 rfl hcp.1 ?_
      refine s_iclt k17_8 ⟨by omega, by omega⟩ ⟨by omega, by omega⟩ (fun h8 => ?_) (fun q => absurd q (by omega))
      refine s_ild k17_13 rfl ?_
      refine s_ild k17_14 rfl ?_
      refine z_sta2A k17_15 (Nat.le_of_ble_eq_true rfl) (c128) ?_
      refine z_ifneb k17_18 (fun h18 => ?_) (fun q => absurd (hbit.mpr hp) q)
      refine s_ild k17_39 rfl ?_
      refine z_push k17_40 ?_
      refine s_ild k17_41 rfl ?_
      refine z_ishl k17_42 ?_
      refine z_ineg k17_43 ?_
      refine z_iand k17_44 ?_
      refine z_eqi (b := ((reN s p : Nat) : Int)) (z_re s hs p (by omega)) ?_
      refine s_ist5 k17_45 rfl ?_
      refine s_ald k17_47 rfl ?_
      refine z_getRe (b := 115) k17_48 rfl rr_69_12 ?_
      refine s_ild k17_51 rfl ?_
      refine z_ialde (z := sB (zS σ) (reN s p) (nP σ)) k17_53 rfl (by omega) (show ((reN s p : Nat) : Int) < ((32 : Nat) : Int) by omega) (htb _ hre).1 ?_
      refine s_ald k17_54 rfl ?_
      refine s_lld k17_55 rfl ?_
      refine z_inv1A k17_56 rfl (Nat.le_of_ble_eq_true rfl) (c18 hn ht.1 hal) ?_
      refine s_icgt k17_59 ⟨by omega, by omega⟩ ⟨by omega, by omega⟩ (fun h59 => ?_) (fun h59 => ?_)
      · refine z_push k17_72 ?_
        refine z_zret k17_73 (Or.inl rfl) ⟨I, rfl, fun _ _ _ _ => rfl, hM, Or.inr ⟨rfl, fun c hc => ?_⟩⟩
        have h1 := sol_size (n := (σ 127 0).toNat) (sz := szP σ) (by omega) (by omega) (mk_b hN hP) (is_b hP) (r + 1) p (reN s p) t c ht ((re_sol hs (by omega) (by omega)).1.mpr hc)
        omega
      · refine s_ald k17_62 rfl ?_
        refine s_ild k17_63 rfl ?_
        refine s_lld k17_65 rfl ?_
        refine z_inv2A k17_66 rfl (Nat.le_of_ble_eq_true rfl) (c21 (s := reN s p) hr32 ht.1 hg hub (htb _ hre).2 h15 hm1 hm2) ?_
        refine z_ifeqb k17_69 (fun h69 => ?_) (fun h69 => ?_)
        · refine s_ald k17_74 rfl ?_
          refine z_getRe (b := 42) k17_75 rfl rr_69_5 ?_
          refine z_getRe (b := 43) k17_78 rfl rr_42_0 ?_
          refine s_ild k17_81 rfl ?_
          refine z_aalde (b := P (p : Int)) k17_82 rfl (by omega) (show (p : Int) < ((5 : Nat) : Int) by omega) rr_P ?_
          refine z_getIe (z := ((isS σ p : Nat) : Int)) k17_83 (pl_sh (hPc _ (by omega) (by omega))) his ?_
          refine s_ist6 k17_86 rfl ?_
          refine z_push k17_88 ?_
          refine s_ist7 k17_89 rfl ?_
          exact key (lnS σ p) 0 I _ (by omega) (fun _ _ _ _ => rfl) hM (fun k2 h2 => absurd h2 (by omega))
        · refine z_push k17_72 ?_
          refine z_zret k17_73 (Or.inl rfl) ⟨I, rfl, fun _ _ _ _ => rfl, hM, Or.inr ⟨rfl, fun c hc => ?_⟩⟩
          have h2 : solS σ (nP σ) 0 (reN s p) t c := by rw [← hpr]; exact (re_sol hs (by omega) (by omega)).2.mpr hc
          refine hM.hop hr32 ht.1 (fun q hq => ?_) hmp.1 hmp.2 h69 c h2
          by_cases u : q < 5
          · rw [re_bit s hs p (by omega) q u, hsb q hq, Bool.and_false]
          · exact Nat.testBit_lt_two_pow (Nat.lt_of_lt_of_le hr32 (p32 (show 5 ≤ q by omega)))
