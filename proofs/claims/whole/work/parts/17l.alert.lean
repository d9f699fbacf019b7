/-! the best night: alerts, what can stand beside -/
def MXl (σ : Nat → Int → Int) (tk m : Nat) (z : Int) : Prop := (∃ s c, s < m ∧ solS σ (nP σ) 0 s tk c ∧ sB (wS σ) s (nP σ) = z) ∧ ∀ s c, s < m → solS σ (nP σ) 0 s tk c → sB (wS σ) s (nP σ) ≤ z
theorem MXl.no {σ : Nat → Int → Int} {tk m : Nat} {z : Int} (h : MXl σ tk m z) (n : ∀ c, solS σ (nP σ) 0 m tk c → sB (wS σ) m (nP σ) ≤ z) : MXl σ tk (m + 1) z := by
  obtain ⟨⟨s, c, s1, s2, s3⟩, h2⟩ := h
  refine ⟨⟨s, c, by omega, s2, s3⟩, fun t d t1 t2 => ?_⟩
  by_cases e : t = m
  · subst e; exact n d t2
  · exact h2 t d (by omega) t2
theorem MXl.yes {σ : Nat → Int → Int} {tk m : Nat} {z : Int} {c : Nat → Nat} (h : MXl σ tk m z) (n : solS σ (nP σ) 0 m tk c) (hz : z < sB (wS σ) m (nP σ)) : MXl σ tk (m + 1) (sB (wS σ) m (nP σ)) := by
  refine ⟨⟨m, c, by omega, n, rfl⟩, fun t d t1 t2 => ?_⟩
  by_cases e : t = m
  · subst e; exact Int.le_refl _
  · have := h.2 t d (by omega) t2; omega
theorem sol_tk0 {σ : Nat → Int → Int} (hN : WFn σ) (hP : WFp σ) {s tk : Nat} {c : Nat → Nat} (h : solS σ (nP σ) 0 s tk c) : solS σ (nP σ) 0 s 0 c := by
  obtain ⟨h1, h2⟩ := (sol_iff (mk_4 hN hP) (is_b hP) (nP σ) 0 s tk c).mp h
  exact (sol_iff (mk_4 hN hP) (is_b hP) (nP σ) 0 s 0 c).mpr ⟨fun q q1 q2 b => ⟨(h1 q q1 q2 b).1, fre_0⟩, h2⟩
theorem MXl.z {σ : Nat → Int → Int} (hN : WFn σ) (hP : WFp σ) {tk : Nat} : MXl σ tk 1 0 := by
  have e0 : sB (wS σ) 0 (nP σ) = 0 := sB_0 _ (fun q _ => Nat.zero_testBit q)
  refine ⟨⟨0, fun _ => 0, by decide, (sol_iff (mk_4 hN hP) (is_b hP) (nP σ) 0 0 tk _).mpr ⟨fun q _ _ b => ?_, fun q s _ _ _ b => ?_⟩, e0⟩, fun s c hs _ => ?_⟩
  · rw [Nat.zero_testBit] at b; cases b
  · rw [Nat.zero_testBit] at b; cases b
  · have e : s = 0 := by omega
    subst e
    omega
theorem tk_TK {n x i : Nat} (n1 : 1 ≤ n) (n2 : n ≤ 12) (hx : x < 2 ^ n) (hi : i < 3) : TKn n (tkN x i) := by
  have := TKn_0.add (n := n) (x := x) (i := i) n1 n2 hx hi fre_0
  rw [Nat.zero_or] at this
  exact this
theorem c17t {d : Nat} {I : Nat → Int → Int} {σ : Nat → Int → Int} {P : Int → Nat} {dr g s S t : Nat} (hN : WFn σ) (hP : WFp σ) (hs : s < 2 ^ nP σ) (hS : s ≤ S) (hg : g < 1000) (hX : CSx σ I P dr g S) (hM : HM σ I g) (ht : TKn (σ 127 0).toNat t) : cal (d + 8) 17 [vr 69, vi (s : Int), vi 0, vl (t : Int)] I P dr (fun o h => ∃ J, h = (S0, J, RR P dr) ∧ (∀ a q, a ≠ 117 → ¬ (a = 79 ∧ (0 : Int) ≤ q) → J a q = I a q) ∧ HM σ J g ∧ ((o = some (vi 1) ∧ ∃ c, FirS σ (nP σ) 0 s t c ∧ ∀ q : Nat, 0 ≤ q → q < nP σ → J 79 q = (c q : Int)) ∨ (o = some (vi 0) ∧ ∀ c, ¬ solS σ (nP σ) 0 s t c))) := by
  have bp := hP.1
  have hnp : nP σ = (σ 127 21).toNat := rfl
  have hn2 := np2 hP
  have h := c17 (S := S) hN hP hS (by omega) (fun q hq => Nat.testBit_lt_two_pow (Nat.lt_of_lt_of_le hs (Nat.pow_le_pow_right (by decide) hq))) hg (nP σ) (d := d + (5 - nP σ)) (p := 0) (t := t) (by omega) hX hM ht
  rw [show d + (5 - nP σ) + nP σ + 3 = d + 8 by omega] at h
  exact h
/-- what the tables hold, while alerts are sought -/
def CTb (σ I : Nat → Int → Int) (P : Int → Nat) (dr g : Nat) : Prop := I 17 0 = σ 127 0 ∧ CRp I σ P dr ∧ CKa σ I ∧ TBw σ I (2 ^ nP σ) ∧ TBl σ I (2 ^ nP σ) ∧ HM σ I g ∧ I 69 15 = (g : Int)
theorem CTb.x {σ I : Nat → Int → Int} {P : Int → Nat} {dr g : Nat} (h : CTb σ I P dr g) : CSx σ I P dr g (2 ^ nP σ - 1) := ⟨h.1, h.2.1, h.2.2.1, fun s hs => (h.2.2.2.1 s (by have := Nat.two_pow_pos (nP σ); omega)).2, h.2.2.2.2.2.2⟩
theorem CTb.k {σ I J : Nat → Int → Int} {P : Int → Nat} {dr g : Nat} (hP : WFp σ) (h : CTb σ I P dr g) (hM : HM σ J g) (k : ∀ a q, a ≠ 79 → a ≠ 117 → a ≠ 126 → ¬ (a = 69 ∧ 2 ≤ q ∧ q ≤ 3) → J a q = I a q) : CTb σ J P dr g :=
  ⟨(k _ _ (by decide) (by decide) (by decide) (by decide)).trans h.1, h.2.1.keep hP (fun a q _ _ => k a q (by omega) (by omega) (by omega) (by omega)), h.2.2.1.k hP (fun a q _ _ => k a q (by omega) (by omega) (by omega) (by omega)), h.2.2.2.1.k (fun a q _ _ => k a q (by omega) (by omega) (by omega) (by omega)), h.2.2.2.2.1.k (fun q hq => ⟨k _ _ (by decide) (by decide) (by decide) (by omega), fun x => k _ _ (by have := (np2 hP).1; omega) (by have := (np2 hP).1; omega) (by have := (np2 hP).1; omega) (by omega)⟩), hM, (k _ _ (by decide) (by decide) (by decide) (by decide)).trans h.2.2.2.2.2.2⟩
set_option maxRecDepth 20000 in
theorem lp9m {d : Nat} {I σ : Nat → Int → Int} {P : Int → Nat} {dr : Nat} (hN : WFn σ) (hP : WFp σ) {g tk : Nat} (hg : g < 1000) (hT0 : CTb σ I P dr g) (ht : TKn (σ 127 0).toNat tk) : ∀ (m s : Nat) (z : Int) (J : Nat → Int → Int), s + m = 2 ^ nP σ → 1 ≤ s → (0 ≤ z ∧ z ≤ 500) → (∀ a q, a ≠ 79 → a ≠ 117 → J a q = I a q) → HM σ J g → MXl σ tk s z → wp (mcall MT CD (d + 8)) (CD 9) L0 (fun o h => ∃ J a, h = (S0, J, RR P dr) ∧ (∀ a q, a ≠ 79 → a ≠ 117 → J a q = I a q) ∧ HM σ J g ∧ o = some (vi a) ∧ MXc σ tk a) 5 [vr 69, vl (tk : Int), vj, vi z, vi (s : Int)] [] (S0, J, RR P dr) := by
  have bp := hP.1
  have hnp : nP σ = (σ 127 21).toNat := rfl
  have hn2 := np2 hP
  have hz1 := z1n hP
  intro m
  induction m with
  | zero =>
    intro s z J hi hs1 hzb hF hM hX
    have hT := hT0.k hP hM (fun a q h1 h2 _ _ => hF a q h1 h2)
    refine s_ild k9_5 rfl ?_
    refine z_push k9_7 ?_
    refine s_ald k9_8 rfl ?_
    refine z_getRe (b := 42) k9_9 rfl rr_69_5 ?_
    refine z_getIe (z := σ 127 21) k9_12 rfl hT.2.1.1 ?_
    refine z_ishl k9_15 ?_
    refine z_eqi (b := ((2 ^ nP σ : Nat) : Int)) hz1 ?_
    refine s_icge k9_16 ⟨by omega, by omega⟩ ⟨by omega, by omega⟩ (fun h16 => ?_) (fun q => absurd q (by omega))
    refine s_ild k9_65 rfl ?_
    have e1 : s = 2 ^ nP σ := by omega
    subst e1
    exact z_iret k9_66 ⟨J, z, rfl, hF, hM, rfl, hX⟩
  | succ m ih =>
    intro s z J hi hs1 hzb hF hM hX
    have hT := hT0.k hP hM (fun a q h1 h2 _ _ => hF a q h1 h2)
    have hwb := (sB_b hP (s := s) (nP σ) (by omega)).1
    rcases hT.2.2.2.2.1 s (by omega) with ⟨h80, -⟩ | ⟨h80, hns⟩
    · refine s_ild k9_5 rfl ?_
      refine z_push k9_7 ?_
      refine s_ald k9_8 rfl ?_
      refine z_getRe (b := 42) k9_9 rfl rr_69_5 ?_
      refine z_getIe (z := σ 127 21) k9_12 rfl hT.2.1.1 ?_
      refine z_ishl k9_15 ?_
      refine z_eqi (b := ((2 ^ nP σ : Nat) : Int)) hz1 ?_
      refine s_icge k9_16 ⟨by omega, by omega⟩ ⟨by omega, by omega⟩ (fun q => absurd q (by omega)) (fun h16 => ?_)
      refine s_ald k9_19 rfl ?_
      refine z_getRe (b := 80) k9_20 rfl rr_69_9 ?_
      refine s_ild k9_23 rfl ?_
      refine z_balde (z := 1) k9_25 rfl (by omega) (show (s : Int) < ((32 : Nat) : Int) by omega) h80 ?_
      refine s_ifeq k9_26 (inR_lit rfl) (fun q => absurd q (by decide)) (fun _ => ?_)
      refine s_ald k9_29 rfl ?_
      refine z_getRe (b := 114) k9_30 rfl rr_69_11 ?_
      refine s_ild k9_33 rfl ?_
      refine z_ialde (z := sB (wS σ) s (nP σ)) k9_35 rfl (by omega) (show (s : Int) < ((32 : Nat) : Int) by omega) (hT.2.2.2.1 s (by omega)).1 ?_
      refine s_ild k9_36 rfl ?_
      refine s_icle k9_37 ⟨by omega, by omega⟩ ⟨by omega, by omega⟩ (fun h37 => ?_) (fun h37 => ?_)
      · refine s_iinc4 k9_59 rfl ?_
        refine z_goto k9_62 ?_
        exact ih (s + 1) _ J (by omega) (by omega) hzb hF hM (hX.no (fun c _ => by omega))
      · refine s_ald k9_40 rfl ?_
        refine s_ild k9_41 rfl ?_
        refine z_push k9_43 ?_
        refine s_lld k9_44 rfl ?_
        refine z_inv3 k9_45 rfl (Nat.le_of_ble_eq_true rfl) (c17t hN hP (by omega) (by omega) hg hT.x hM ht) (fun o h1 hq => ?_)
        obtain ⟨K, rfl, kF, kM, hq⟩ := hq
        have kF2 : ∀ a q, a ≠ 79 → a ≠ 117 → K a q = J a q := fun a q h1 h2 => kF a q h2 (fun u => h1 u.1)
        rcases hq with ⟨rfl, c, hc, -⟩ | ⟨rfl, hn⟩
        · refine s_ifeq k9_48 (inR_lit rfl) (fun q => absurd q (by decide)) (fun _ => ?_)
          refine s_ald k9_51 rfl ?_
          refine z_getRe (b := 114) k9_52 rfl rr_69_11 ?_
          refine s_ild k9_55 rfl ?_
          refine z_ialde (z := sB (wS σ) s (nP σ)) k9_57 rfl (by omega) (show (s : Int) < ((32 : Nat) : Int) by omega) ((kF2 _ _ (by decide) (by decide)).trans (hT.2.2.2.1 s (by omega)).1) ?_
          refine s_ist3 k9_58 rfl ?_
          refine s_iinc4 k9_59 rfl ?_
          refine z_goto k9_62 ?_
          exact ih (s + 1) _ K (by omega) (by omega) (by omega) (fun a q h1 h2 => (kF2 a q h1 h2).trans (hF a q h1 h2)) kM (hX.yes hc.1 (by omega))
        · refine s_ifeq k9_48 (inR_lit rfl) (fun _ => ?_) (fun q => absurd rfl q)
          refine s_iinc4 k9_59 rfl ?_
          refine z_goto k9_62 ?_
          exact ih (s + 1) _ K (by omega) (by omega) hzb (fun a q h1 h2 => (kF2 a q h1 h2).trans (hF a q h1 h2)) kM (hX.no (fun c hc => (hn c hc).elim))
    · refine s_ild k9_5 rfl ?_
      refine z_push k9_7 ?_
      refine s_ald k9_8 rfl ?_
      refine z_getRe (b := 42) k9_9 rfl rr_69_5 ?_
      refine z_getIe (z := σ 127 21) k9_12 rfl hT.2.1.1 ?_
      refine z_ishl k9_15 ?_
      refine z_eqi (b := ((2 ^ nP σ : Nat) : Int)) hz1 ?_
      refine s_icge k9_16 ⟨by omega, by omega⟩ ⟨by omega, by omega⟩ (fun q => absurd q (by omega)) (fun h16 => ?_)
      refine s_ald k9_19 rfl ?_
      refine z_getRe (b := 80) k9_20 rfl rr_69_9 ?_
      refine s_ild k9_23 rfl ?_
      refine z_balde (z := 0) k9_25 rfl (by omega) (show (s : Int) < ((32 : Nat) : Int) by omega) h80 ?_
      refine s_ifeq k9_26 (inR_lit rfl) (fun _ => ?_) (fun q => absurd q (by decide))
      refine s_iinc4 k9_59 rfl ?_
      refine z_goto k9_62 ?_
      exact ih (s + 1) _ J (by omega) (by omega) hzb hF hM (hX.no (fun c hc => (hns c (sol_tk0 hN hP hc)).elim))
set_option maxRecDepth 20000 in
theorem c9 {d : Nat} {I : Nat → Int → Int} {P : Int → Nat} {dr : Nat} {σ : Nat → Int → Int} (hN : WFn σ) (hP : WFp σ) {g tk : Nat} (hg : g < 1000) (hT0 : CTb σ I P dr g) (ht : TKn (σ 127 0).toNat tk) : cal (d + 9) 9 [vr 69, vl (tk : Int)] I P dr (fun o h => ∃ J a, h = (S0, J, RR P dr) ∧ (∀ a q, a ≠ 79 → a ≠ 117 → J a q = I a q) ∧ HM σ J g ∧ o = some (vi a) ∧ MXc σ tk a) := by
  refine cal_in (Nat.le_of_ble_eq_true rfl) ?_
  have bp := hP.1
  have hnp : nP σ = (σ 127 21).toNat := rfl
  have hn2 := np2 hP
  have hz1 := z1n hP
  show wp _ _ _ _ 0 [vr 69, vl (tk : Int), vj, vj, vj] [] _
  refine z_push k9_0 ?_
  refine s_ist3 k9_1 rfl ?_
  refine z_push k9_2 ?_
  refine s_ist4 k9_3 rfl ?_
  exact lp9m hN hP hg hT0 ht (2 ^ nP σ - 1) 1 0 I (by omega) (by decide) (by decide) (fun _ _ _ _ => rfl) hT0.2.2.2.2.2.1 (MXl.z hN hP)
