/-! placements, the class -/
def alN (σ : Nat → Int → Int) (t m r d : Int) : Nat → Nat
  | 0 => 0
  | k + 1 => if fitS σ 0 t k m r d then alN σ t m r d k ||| 2 ^ k else alN σ t m r d k
theorem al_s {σ : Nat → Int → Int} {t m r d : Int} {k : Nat} : alN σ t m r d (k + 1) = if fitS σ 0 t k m r d then alN σ t m r d k ||| 2 ^ k else alN σ t m r d k := rfl
theorem al_bit {σ : Nat → Int → Int} {t m r d : Int} {b : Nat} : ∀ k, (alN σ t m r d k).testBit b = true ↔ b < k ∧ fitS σ 0 t b m r d
  | 0 => by
    rw [show alN σ t m r d 0 = 0 from rfl, Nat.zero_testBit]
    exact ⟨fun h => (by cases h), fun h => absurd h.1 (by omega)⟩
  | k + 1 => by
    have ih := al_bit (σ := σ) (t := t) (m := m) (r := r) (d := d) (b := b) k
    rw [al_s]
    by_cases c : fitS σ 0 t k m r d
    · rw [if_pos c, Nat.testBit_or, Nat.testBit_two_pow, Bool.or_eq_true, ih, decide_eq_true_iff]
      constructor
      · rintro (h | h)
        · exact ⟨by omega, h.2⟩
        · subst h; exact ⟨by omega, c⟩
      · rintro ⟨h1, h2⟩
        by_cases e : k = b
        · exact Or.inr e
        · exact Or.inl ⟨by omega, h2⟩
    · rw [if_neg c, ih]
      constructor
      · rintro ⟨h1, h2⟩; exact ⟨by omega, h2⟩
      · rintro ⟨h1, h2⟩
        by_cases e : b = k
        · subst e; exact absurd h2 c
        · exact ⟨by omega, h2⟩
theorem al_lt {σ : Nat → Int → Int} {t m r d : Int} {k : Nat} : alN σ t m r d k < 2 ^ k := lt_bit (fun i hi => by
  cases h : (alN σ t m r d k).testBit i with
  | false => rfl
  | true => exact absurd ((al_bit k).mp h).1 (by omega))
def bgN (a : Nat) : Nat → Nat
  | 0 => a
  | i + 1 => bgN a i &&& a / 2 ^ (i + 1)
theorem bg_s {a i : Nat} : bgN a (i + 1) = bgN a i &&& a / 2 ^ (i + 1) := rfl
theorem bg_bit {a b : Nat} : ∀ i, (bgN a i).testBit b = true ↔ ∀ q, q ≤ i → a.testBit (b + q) = true
  | 0 => ⟨fun h q hq => by rw [show q = 0 by omega]; exact h, fun h => h 0 (Nat.le_refl _)⟩
  | i + 1 => by
    rw [bg_s, Nat.testBit_and, Bool.and_eq_true, bg_bit i, ← Nat.shiftRight_eq_div_pow, Nat.testBit_shiftRight]
    constructor
    · rintro ⟨h1, h2⟩ q hq
      by_cases c : q = i + 1
      · rw [c, Nat.add_comm]; exact h2
      · exact h1 q (by omega)
    · intro h
      exact ⟨fun q hq => h q (by omega), by rw [Nat.add_comm]; exact h (i + 1) (Nat.le_refl _)⟩
theorem bg_le {a : Nat} : ∀ i, bgN a i ≤ a
  | 0 => Nat.le_refl _
  | i + 1 => Nat.le_trans Nat.and_le_left (bg_le i)
/-- the slots in which a step can begin -/
def fbN (σ : Nat → Int → Int) (t m r d : Int) (K : Nat) : Nat := bgN (alN σ t m r d (σ 127 0).toNat) (K - 1)
theorem fb_bit {σ : Nat → Int → Int} {t m r d : Int} {K b : Nat} (h0 : 0 ≤ σ 127 0) (hK : 1 ≤ K) : (fbN σ t m r d K).testBit b = true ↔ atG σ t m r d K b := by
  unfold fbN
  rw [bg_bit]
  constructor
  · intro h i hi
    have := (al_bit _).mp (h i (by omega))
    exact ⟨by omega, this.2⟩
  · intro h q hq
    have := h q (by omega)
    exact (al_bit _).mpr ⟨by omega, this.2⟩
theorem fb_lt {σ : Nat → Int → Int} {t m r d : Int} {K : Nat} (h0 : σ 127 0 ≤ 12) : fbN σ t m r d K < 4096 := by
  have h1 := bg_le (a := alN σ t m r d (σ 127 0).toNat) (K - 1)
  have h2 := al_lt (σ := σ) (t := t) (m := m) (r := r) (d := d) (k := (σ 127 0).toNat)
  have h3 := p12 (n := (σ 127 0).toNat) (by omega)
  unfold fbN
  omega
set_option maxRecDepth 20000 in
theorem lp68b {d : Nat} {I σ : Nat → Int → Int} {P : Int → Nat} {dr : Nat} (hN : WFn σ) (hC : CRn I σ) {t ms r d2 : Int} {K : Nat} {sc : Nat} (hsc : (S0.2.2 sc).1 = 6) (e0 : I sc 0 = (K : Int)) (e1 : I sc 1 = ms) (e2 : I sc 2 = r) (e3 : I sc 3 = d2) (t0 : 0 ≤ t) (t1 : t < σ 127 2) (hm2 : 0 ≤ ms ∧ ms ≤ 9) (hr2 : 0 ≤ r ∧ r ≤ 9) (hd2 : d2 = 0 ∨ d2 = 1) (k1 : 1 ≤ K) (k4 : K ≤ 9) : ∀ (m i : Nat), (i : Int) + m = (K : Int) - 1 → wp (mcall MT CD (d + 3)) (CD 68) L0 (ans (vi ((fbN σ t ms r d2 K : Nat) : Int)) I P dr) 45 [vr 17, vr (27 + t.toNat), vr sc, vi ((alN σ t ms r d2 (σ 127 0).toNat : Nat) : Int), vi ((bgN (alN σ t ms r d2 (σ 127 0).toNat) i : Nat) : Int), vi ((i : Int) + 1)] [] (S0, I, RR P dr) := by
  intro m
  induction m with
  | zero => 
    intro i hi
    have b0 := hN.1
    have b2 := hN.2.2.1
    have b10 := hN.2.2.2.2.2.2.2.1
    obtain ⟨cn, ct, cg, cmr, cmf, cmt, cw, cT, cS, cW⟩ := id hC
    have q1 := al_lt (σ := σ) (t := t) (m := ms) (r := r) (d := d2) (k := (σ 127 0).toNat)
    have q2 := p12 (n := (σ 127 0).toNat) (by omega)
    have q3 := bg_le (a := alN σ t ms r d2 (σ 127 0).toNat) i
    have q4 : alN σ t ms r d2 (σ 127 0).toNat / 2 ^ (i + 1) ≤ alN σ t ms r d2 (σ 127 0).toNat := Nat.div_le_self _ _
    refine s_ild k68_45 rfl ?_
    refine s_ald k68_47 rfl ?_
    refine z_getIe (z := (K : Int)) k68_48 hsc e0 ?_
    refine s_icge k68_51 ⟨by omega, by omega⟩ ⟨by omega, by omega⟩ (fun h51 => ?_) (fun q => absurd q (by omega))
    refine s_ild k68_69 rfl ?_
    refine z_iret k68_71 (ans_i ?_)
    unfold fbN
    rw [show K - 1 = i by omega]
  | succ m ih => 
    intro i hi
    have b0 := hN.1
    have b2 := hN.2.2.1
    have b10 := hN.2.2.2.2.2.2.2.1
    obtain ⟨cn, ct, cg, cmr, cmf, cmt, cw, cT, cS, cW⟩ := id hC
    have q1 := al_lt (σ := σ) (t := t) (m := ms) (r := r) (d := d2) (k := (σ 127 0).toNat)
    have q2 := p12 (n := (σ 127 0).toNat) (by omega)
    have q3 := bg_le (a := alN σ t ms r d2 (σ 127 0).toNat) i
    have q4 : alN σ t ms r d2 (σ 127 0).toNat / 2 ^ (i + 1) ≤ alN σ t ms r d2 (σ 127 0).toNat := Nat.div_le_self _ _
    refine s_ild k68_45 rfl ?_
    refine s_ald k68_47 rfl ?_
    refine z_getIe (z := (K : Int)) k68_48 hsc e0 ?_
    refine s_icge k68_51 ⟨by omega, by omega⟩ ⟨by omega, by omega⟩ (fun q => absurd q (by omega)) (fun h51 => ?_)
    refine s_ild k68_54 rfl ?_
    refine s_ild k68_56 rfl ?_
    refine s_ild k68_57 rfl ?_
    refine z_ishr k68_59 ?_
    refine z_eqi (b := ((alN σ t ms r d2 (σ 127 0).toNat / 2 ^ (i + 1) : Nat) : Int)) (zshr_n (k := i + 1) (by omega) (by omega)) ?_
    refine z_iand k68_60 ?_
    refine z_eqi (b := ((bgN (alN σ t ms r d2 (σ 127 0).toNat) (i + 1) : Nat) : Int)) (zand_n (by omega) (by omega)) ?_
    refine s_ist4 k68_61 rfl ?_
    refine s_iinc5 k68_63 rfl ?_
    refine z_goto k68_66 ?_
    have k := ih (i + 1) (by omega)
    rw [show (((i + 1 : Nat)) : Int) + 1 = (i : Int) + 1 + 1 from rfl] at k
    exact k
set_option maxRecDepth 20000 in
theorem lp68 {l5 : mV} {d : Nat} {I σ : Nat → Int → Int} {P : Int → Nat} {dr : Nat} (hN : WFn σ) (hC : CRn I σ) {t ms r d2 : Int} {K : Nat} {sc : Nat} (hsc : (S0.2.2 sc).1 = 6) (e0 : I sc 0 = (K : Int)) (e1 : I sc 1 = ms) (e2 : I sc 2 = r) (e3 : I sc 3 = d2) (t0 : 0 ≤ t) (t1 : t < σ 127 2) (hm2 : 0 ≤ ms ∧ ms ≤ 9) (hr2 : 0 ≤ r ∧ r ≤ 9) (hd2 : d2 = 0 ∨ d2 = 1) (k1 : 1 ≤ K) (k4 : K ≤ 9) : ∀ (m i : Nat), (i : Int) + m = σ 127 0 → wp (mcall MT CD (d + 3)) (CD 68) L0 (ans (vi ((fbN σ t ms r d2 K : Nat) : Int)) I P dr) 5 [vr 17, vr (27 + t.toNat), vr sc, vi ((alN σ t ms r d2 i : Nat) : Int), vi (i : Int), l5] [] (S0, I, RR P dr) := by
  intro m
  induction m with
  | zero => 
    intro i hi
    have b0 := hN.1
    have b2 := hN.2.2.1
    have b10 := hN.2.2.2.2.2.2.2.1
    obtain ⟨cn, ct, cg, cmr, cmf, cmt, cw, cT, cS, cW⟩ := id hC
    have q1 := al_lt (σ := σ) (t := t) (m := ms) (r := r) (d := d2) (k := i)
    have q2 : 2 ^ i ≤ 4096 := p12 (by omega)
    refine s_ild k68_5 rfl ?_
    refine s_ald k68_7 rfl ?_
    refine z_getIe (z := σ 127 0) k68_8 rfl cn ?_
    refine s_icge k68_11 ⟨by omega, by omega⟩ ⟨by omega, by omega⟩ (fun h11 => ?_) (fun q => absurd q (by omega))
    refine s_ild k68_39 rfl ?_
    refine s_ist4 k68_40 rfl ?_
    refine z_push k68_42 ?_
    refine s_ist5 k68_43 rfl ?_
    have e : i = (σ 127 0).toNat := by omega
    subst e
    exact lp68b hN hC hsc e0 e1 e2 e3 t0 t1 hm2 hr2 hd2 k1 k4 (K - 1) 0 (by omega)
  | succ m ih => 
    intro i hi
    have b0 := hN.1
    have b2 := hN.2.2.1
    have b10 := hN.2.2.2.2.2.2.2.1
    obtain ⟨cn, ct, cg, cmr, cmf, cmt, cw, cT, cS, cW⟩ := id hC
    have q1 := al_lt (σ := σ) (t := t) (m := ms) (r := r) (d := d2) (k := i)
    have q2 : 2 ^ i ≤ 4096 := p12 (by omega)
    refine s_ild k68_5 rfl ?_
    refine s_ald k68_7 rfl ?_
    refine z_getIe (z := σ 127 0) k68_8 rfl cn ?_
    refine s_icge k68_11 ⟨by omega, by omega⟩ ⟨by omega, by omega⟩ (fun q => absurd q (by omega)) (fun h11 => ?_)
    refine s_ald k68_14 rfl ?_
    refine z_push k68_15 ?_
    refine s_ald k68_16 rfl ?_
    refine s_ald k68_17 rfl ?_
    refine s_ild k68_18 rfl ?_
    refine z_inv4A k68_20 rfl (Nat.le_of_ble_eq_true rfl) (c67 hC hsc e1 e2 e3 t0 t1 b2.2 (hN.tg t0 t1).1 (hN.tg t0 t1).2.1 (hN.tg t0 t1).2.2 hN.2.1 (hN.sk (by omega) (by omega)) ⟨hN.2.2.2.2.1, hN.2.2.2.2.2.1, hN.2.2.2.2.2.2.1⟩ (by omega) (by omega) (by decide) (by omega) b10.2 hm2 hr2 hd2) ?_
    refine z_ifeqb k68_23 (fun h23 => ?_) (fun h23 => ?_)
    · refine s_iinc4 k68_33 rfl ?_
      refine z_goto k68_36 ?_
      have k := ih (i + 1) (by omega)
      rw [al_s, if_neg h23] at k
      exact k
    · refine s_ild k68_26 rfl ?_
      refine z_push k68_27 ?_
      refine s_ild k68_28 rfl ?_
      refine z_ishl k68_30 ?_
      refine z_ior k68_31 ?_
      refine z_eqi (b := ((alN σ t ms r d2 i ||| 2 ^ i : Nat) : Int)) (by rw [z2p (by omega)]; exact zor_n (by omega) (by omega)) ?_
      refine s_ist3 k68_32 rfl ?_
      refine s_iinc4 k68_33 rfl ?_
      refine z_goto k68_36 ?_
      have k := ih (i + 1) (by omega)
      rw [al_s, if_pos h23] at k
      exact k
set_option maxRecDepth 20000 in
theorem c68 {d : Nat} {I : Nat → Int → Int} {P : Int → Nat} {dr : Nat} {σ : Nat → Int → Int} (hN : WFn σ) (hC : CRn I σ) {t ms r d2 : Int} {K : Nat} {sc : Nat} (hsc : (S0.2.2 sc).1 = 6) (e0 : I sc 0 = (K : Int)) (e1 : I sc 1 = ms) (e2 : I sc 2 = r) (e3 : I sc 3 = d2) (t0 : 0 ≤ t) (t1 : t < σ 127 2) (hm2 : 0 ≤ ms ∧ ms ≤ 9) (hr2 : 0 ≤ r ∧ r ≤ 9) (hd2 : d2 = 0 ∨ d2 = 1) (k1 : 1 ≤ K) (k4 : K ≤ 9) : cal (d + 4) 68 [vr 17, vr (27 + t.toNat), vr sc] I P dr (ans (vi ((fbN σ t ms r d2 K : Nat) : Int)) I P dr) := by
  refine cal_in (Nat.le_of_ble_eq_true rfl) ?_
  show wp _ _ _ _ 0 [vr 17, vr (27 + t.toNat), vr sc, vj, vj, vj] [] _
  refine z_push k68_0 ?_
  refine s_ist3 k68_1 rfl ?_
  refine z_push k68_2 ?_
  refine s_ist4 k68_3 rfl ?_
  have b0 := hN.1
  exact lp68 hN hC hsc e0 e1 e2 e3 t0 t1 hm2 hr2 hd2 k1 k4 (σ 127 0).toNat 0 (by omega)
def orL (l : List Nat) : Nat := l.foldl (fun a b => a ||| b) 0
theorem orL_s {l : List Nat} {x : Nat} : orL (l ++ [x]) = orL l ||| x := by
  unfold orL
  rw [List.foldl_append]
  rfl
theorem orL_lt {n : Nat} {l : List Nat} (h : ∀ x, x ∈ l → x < 2 ^ n) : orL l < 2 ^ n := by
  unfold orL
  have key : ∀ (l : List Nat) (a : Nat), a < 2 ^ n → (∀ x, x ∈ l → x < 2 ^ n) → l.foldl (fun a b => a ||| b) a < 2 ^ n := fun l => by
    induction l with
    | nil => exact fun a ha _ => ha
    | cons x l ih => exact fun a ha hl => ih _ (or_lt ha (hl x (List.mem_cons_self ..))) (fun y hy => hl y (List.mem_cons_of_mem _ hy))
  exact key l 0 (Nat.two_pow_pos n) h
theorem orL_bit {l : List Nat} {x i : Nat} (hx : x ∈ l) (hi : x.testBit i = true) : (orL l).testBit i = true := by
  unfold orL
  have key : ∀ (l : List Nat) (a : Nat), (a.testBit i = true ∨ ∃ x, x ∈ l ∧ x.testBit i = true) → (l.foldl (fun a b => a ||| b) a).testBit i = true := fun l => by
    induction l with
    | nil =>
      rintro a (h | ⟨x, h, _⟩)
      · exact h
      · cases h
    | cons y l ih =>
      rintro a (h | ⟨x, h, h2⟩)
      · exact ih _ (Or.inl (by rw [Nat.testBit_or, h]; rfl))
      · rcases List.mem_cons.mp h with e | e
        · subst e
          exact ih _ (Or.inl (by rw [Nat.testBit_or, h2, Bool.or_true]))
        · exact ih _ (Or.inr ⟨x, e, h2⟩)
  exact key l 0 (Or.inr ⟨x, hx, hi⟩)
/-- the class's rows hold a plan's placements -/
def CK (J : Nat → Int → Int) (p : Nat) (acc : List Nat) : Prop := J 76 p = (acc.length : Int) ∧ (∀ i, i < acc.length → J (71 + p) i = (gN acc i : Int)) ∧ J 78 p = (orL acc : Int)
def FK (I J : Nat → Int → Int) (p : Nat) : Prop := ∀ (a : Nat) (k : Int), ¬ (a = 76 ∧ k = (p : Int)) → ¬ (a = 78 ∧ k = (p : Int)) → a ≠ 71 + p → J a k = I a k
theorem FK.rf {I : Nat → Int → Int} {p : Nat} : FK I I p := fun _ _ _ _ _ => rfl
theorem FK.tr {I J K : Nat → Int → Int} {p : Nat} (h : FK I J p) (h' : FK J K p) : FK I K p := fun a k h1 h2 h3 => (h' a k h1 h2 h3).trans (h a k h1 h2 h3)
set_option maxRecDepth 20000 in
theorem c14 {d : Nat} {I : Nat → Int → Int} {P : Int → Nat} {dr : Nat} {p x : Nat} {acc : List Nat} (p1 : p < 5) (hx : x < 4096) (ho : orL acc < 4096) (hl : acc.length < 112) (hK : CK I p acc) : cal (d + 1) 14 [vr 69, vi (p : Int), vi (x : Int)] I P dr (fun o h => o = none ∧ ∃ J, h = (S0, J, RR P dr) ∧ FK I J p ∧ CK J p (acc ++ [x])) := by
  refine cal_in (Nat.le_of_ble_eq_true rfl) ?_
  show wp _ _ _ _ 0 [vr 69, vi (p : Int), vi (x : Int)] [] _
  refine s_ald k14_0 rfl ?_
  refine z_getRe (b := 76) k14_1 rfl rr_69_1 ?_
  refine s_ild k14_4 rfl ?_
  refine z_ialde (z := (acc.length : Int)) k14_5 rfl (by omega) (show (p : Int) < ((5 : Nat) : Int) by omega) hK.1 ?_
  refine z_push k14_6 ?_
  refine s_icge k14_8 ⟨by omega, by omega⟩ (inR_lit rfl) (fun q => absurd q (by omega)) (fun h8 => ?_)
  refine s_ald k14_11 rfl ?_
  refine z_getRe (b := 70) k14_12 rfl rr_69_0 ?_
  refine s_ild k14_15 rfl ?_
  refine z_aalde (b := 71 + (p : Int).toNat) k14_16 rfl (by omega) (show (p : Int) < ((5 : Nat) : Int) by omega) (rr_mk (by omega) (by omega)) ?_
  refine s_ald k14_17 rfl ?_
  refine z_getRe (b := 76) k14_18 rfl rr_69_1 ?_
  refine s_ild k14_21 rfl ?_
  refine z_ialde (z := (acc.length : Int)) k14_22 rfl (by omega) (show (p : Int) < ((5 : Nat) : Int) by omega) hK.1 ?_
  refine s_ild k14_23 rfl ?_
  refine z_iast k14_24 (by rw [(mk_sh (t := (p : Int).toNat) (by omega))]) (by omega) (by rw [(mk_sh (t := (p : Int).toNat) (by omega))]; show (acc.length : Int) < ((112 : Nat) : Int); omega) ?_
  refine s_ald k14_25 rfl ?_
  refine z_getRe (b := 76) k14_26 rfl rr_69_1 ?_
  refine s_ild k14_29 rfl ?_
  refine z_dup2ir k14_30 ?_
  refine z_ialde (z := (acc.length : Int)) k14_31 rfl (by omega) (show (p : Int) < ((5 : Nat) : Int) by omega) ((up_ne (by omega)).trans hK.1) ?_
  refine z_push k14_32 ?_
  refine z_iadd k14_33 ?_
  refine z_iast k14_34 rfl (by omega) (show (p : Int) < ((5 : Nat) : Int) by omega) ?_
  refine s_ald k14_35 rfl ?_
  refine z_getRe (b := 78) k14_36 rfl rr_69_7 ?_
  refine s_ild k14_39 rfl ?_
  refine z_dup2ir k14_40 ?_
  refine z_ialde (z := (orL acc : Int)) k14_41 rfl (by omega) (show (p : Int) < ((5 : Nat) : Int) by omega) ((up_ne (by decide)).trans ((up_ne (by omega)).trans hK.2.2)) ?_
  refine s_ild k14_42 rfl ?_
  refine z_ior k14_43 ?_
  refine z_eqi (b := ((orL acc ||| x : Nat) : Int)) (zor4 ho hx).1 ?_
  refine z_iast k14_44 rfl (by omega) (show (p : Int) < ((5 : Nat) : Int) by omega) ?_
  refine z_vret k14_45 ⟨rfl, _, rfl, fun a k h1 h2 h3 => (if_neg h2).trans ((if_neg h1).trans (up_ne (by omega))), (up_ne (by decide)).trans (up_at.trans (by rw [List.length_append]; rfl)), fun i hi => ?_, up_at.trans (by rw [orL_s])⟩
  rw [List.length_append] at hi
  have hi2 : i < acc.length + 1 := hi
  rw [up_ne (by omega), up_ne (by omega), show 71 + ((p : Int)).toNat = 71 + p by omega]
  by_cases c : i = acc.length
  · subst c
    rw [gN_at]
    exact up_at
  · rw [gN_lo (by omega), up_nk (by omega)]
    exact hK.2.1 i (by omega)
theorem CRn.fk {I J σ : Nat → Int → Int} {p : Nat} (hN : WFn σ) (h : CRn I σ) (p1 : p < 5) (hF : FK I J p) : CRn J σ := h.keep hN (fun a q _ _ => hF a q (by omega) (by omega) (by omega))
theorem CRp.fk {I J σ : Nat → Int → Int} {P : Int → Nat} {dr p : Nat} (hP : WFp σ) (h : CRp I σ P dr) (p1 : p < 5) (hF : FK I J p) : CRp J σ P dr := h.keep hP (fun a q _ _ => hF a q (by omega) (by omega) (by omega))
theorem bl_mem {σ : Nat → Int → Int} {p : Int} {r j mask x : Nat} : ∀ (m i : Nat) (acc : List Nat), x ∈ acc → x ∈ blL (gaF σ p r j mask) m i acc := by
  have hg : ∀ (r j fr num mask : Nat) (acc : List Nat), x ∈ acc → x ∈ gaS σ p r j fr num mask acc := fun r => by
    induction r with
    | zero => exact fun j fr num mask acc h => List.mem_append_left _ h
    | succ r ih =>
      intro j fr num mask acc h
      rw [ga_s]
      have key : ∀ (m i : Nat) (acc : List Nat), x ∈ acc → x ∈ blL (gaF σ p r j mask) m i acc := fun m => by
        induction m with
        | zero => exact fun i acc h => h
        | succ m ihm =>
          intro i acc h
          rw [bl_s]
          refine ihm (i + 1) _ ?_
          show x ∈ (if _ then _ else _ : List Nat)
          split
          · exact ih _ _ _ _ acc h
          · exact h
      exact key num fr acc h
  intro m
  induction m with
  | zero => exact fun i acc h => h
  | succ m ih =>
    intro i acc h
    rw [bl_s]
    refine ih (i + 1) _ ?_
    show x ∈ (if _ then _ else _ : List Nat)
    split
    · exact hg _ _ _ _ _ acc h
    · exact h
theorem zsb {b K : Nat} (h : b + K ≤ 12) (hK : K ≤ 4) : zshl (zshl 1 (K : Int) - 1) (b : Int) = ((stN b K : Nat) : Int) := by
  have h1 := p12 (n := K) (by omega)
  have h2 := Nat.two_pow_pos K
  have h3 := st_4 h
  unfold stN at h3
  rw [z2p (by omega), show ((2 ^ K : Nat) : Int) - 1 = ((2 ^ K - 1 : Nat) : Int) by omega, zshl_n (by omega) (by omega)]
  rfl
set_option maxRecDepth 20000 in
theorem c13 {σ : Nat → Int → Int} {P : Int → Nat} {dr : Nat} : ∀ (r : Nat) {d : Nat} {I : Nat → Int → Int} (hN : WFn σ) (hC : CRn I σ) (hPW : WFp σ) (hcp : CRp I σ P dr) {p : Nat} (p1 : (p : Int) < σ 127 21) (hB : ∀ j : Nat, (j : Int) < pf σ p 4 → I 77 j = ((fbN σ (pf σ p 2) (ps σ p j 1) (ps σ p j 2) (ps σ p j 3) (kS σ p j) : Nat) : Int)) {j fr num mask : Nat} {to : Int} {acc : List Nat} (hj : ((j + r : Nat) : Int) = pf σ p 4) (hto : to = (fr : Int) + num - 1 ∨ r = 0) (hfr : fr ≤ 60) (hnum : num ≤ 20) (htb : -2 ≤ to ∧ to ≤ 100) (hm : mask < 4096) (hlen : (gaS σ p r j fr num mask acc).length ≤ 112) (hall : ∀ x, x ∈ gaS σ p r j fr num mask acc → x < 4096) (hK : CK I p acc), cal (d + r + 2) 13 [vr 69, vi (p : Int), vi (j : Int), vi (fr : Int), vi to, vi (mask : Int)] I P dr (fun o h => o = none ∧ ∃ J, h = (S0, J, RR P dr) ∧ FK I J p ∧ CK J p (gaS σ p r j fr num mask acc)) := by
  intro r
  induction r with
  | zero =>
    intro d I hN hC hPW hcp p p1 hB j fr num mask to acc hj hto hfr hnum htb hm hlen hall hK
    refine cal_in (Nat.le_of_ble_eq_true rfl) ?_
    obtain ⟨cn, ct, cg, cmr, cmf, cmt, cw, cT, cS, cW⟩ := id hC
    have b0 := hN.1
    have bp := hPW.1
    have hPc : ∀ k, 0 ≤ k → k < 5 → isPl (P k) := hcp.2.1.1
    have hp := hPW.2 (p : Int) (by omega) p1
    have h3 := hp.2.2.2.2.1
    rw [ga_0] at hlen hall ⊢
    rw [List.length_append] at hlen
    have hl1 : acc.length + 1 ≤ 112 := hlen
    have ho : orL acc < 4096 := orL_lt (n := 12) (fun x hx => hall x (List.mem_append_left _ hx))
    show wp _ _ _ _ 0 [vr 69, vi (p : Int), vi (j : Int), vi (fr : Int), vi to, vi (mask : Int), vj, vj, vj, vj, vj, vj, vj] [] _
    refine s_ald k13_0 rfl ?_
    refine z_getRe (b := 42) k13_1 rfl rr_69_5 ?_
    refine z_getRe (b := 43) k13_4 rfl rr_42_0 ?_
    refine s_ild k13_7 rfl ?_
    refine z_aalde (b := P (p : Int)) k13_8 rfl (by omega) (show (p : Int) < ((5 : Nat) : Int) by omega) rr_P ?_
    refine s_ast6 k13_9 rfl ?_
    refine s_ild k13_11 rfl ?_
    refine s_ald k13_12 rfl ?_
    refine z_getIe (z := pf σ (p : Int) 4) k13_14 (pl_sh (hPc _ (by omega) (by omega))) (hcp.f (by omega) p1).2.2.2.2 ?_
    refine s_iclt k13_17 ⟨by omega, by omega⟩ ⟨by omega, by omega⟩ (fun q => absurd q (by omega)) (fun h17 => ?_)
    refine s_ald k13_20 rfl ?_
    refine s_ild k13_21 rfl ?_
    refine s_ild k13_22 rfl ?_
    refine z_inv2 k13_24 rfl (Nat.le_of_ble_eq_true rfl) (c14 (by omega) hm ho (by omega) hK) (fun o h1 hq => ?_)
    obtain ⟨rfl, J2, rfl, gF, gK⟩ := hq
    exact z_vret k13_27 ⟨rfl, J2, rfl, gF, gK⟩
  | succ r ihr =>
    intro d I hN hC hPW hcp p p1 hB j fr num mask to acc hj hto hfr hnum htb hm hlen hall hK
    refine cal_in (Nat.le_of_ble_eq_true rfl) ?_
    obtain ⟨cn, ct, cg, cmr, cmf, cmt, cw, cT, cS, cW⟩ := id hC
    have b0 := hN.1
    have bp := hPW.1
    have hPc : ∀ k, 0 ≤ k → k < 5 → isPl (P k) := hcp.2.1.1
    have hp := hPW.2 (p : Int) (by omega) p1
    have h3 := hp.2.2.2.2.1
    rw [ga_s] at hlen hall ⊢
    have hs4 := (hp.st (j := (j : Int)) (by omega) (by omega)).2.1
    have hkk : kS σ p j ≤ 4 ∧ 1 ≤ kS σ p j := by show (ps σ p j 0).toNat ≤ 4 ∧ 1 ≤ (ps σ p j 0).toNat; omega
    have hkq : ps σ (p : Int) (j : Int) 0 = ((kS σ p j : Nat) : Int) := by show _ = ((ps σ p j 0).toNat : Int); omega
    have hto2 : to = (fr : Int) + num - 1 := by omega
    show wp _ _ _ _ 0 [vr 69, vi (p : Int), vi (j : Int), vi (fr : Int), vi to, vi (mask : Int), vj, vj, vj, vj, vj, vj, vj] [] _
    obtain ⟨ACC, hACC⟩ : ∃ ACC, ACC = blL (gaF σ p r j mask) num fr acc := ⟨_, rfl⟩
    rw [← hACC] at hlen hall ⊢
    have key : ∀ (m b : Nat) (J : Nat → Int → Int) (ac : List Nat) (l9 l10 l11 l12 : mV), fr ≤ b → b ≤ 90 → (b : Int) + m = to + 1 → blL (gaF σ p r j mask) m b ac = ACC → FK I J p → CK J p ac → wp (mcall MT CD (d + (r + 1) + 1)) (CD 13) L0 (fun o h => o = none ∧ ∃ J, h = (S0, J, RR P dr) ∧ FK I J p ∧ CK J p ACC) 43 [vr 69, vi (p : Int), vi (j : Int), vi (fr : Int), vi to, vi (mask : Int), vr (P (p : Int)), vi (ps σ (p : Int) (j : Int) 0), vi (b : Int), l9, l10, l11, l12] [] (S0, J, RR P dr) := by
      intro m
      induction m with
      | zero =>
        intro b J ac l9 l10 l11 l12 hb0 hb1 hb hac hF hKJ
        refine s_ild k13_43 rfl ?_
        refine s_ild k13_45 rfl ?_
        refine s_icgt k13_47 ⟨by omega, by omega⟩ ⟨by omega, by omega⟩ (fun h47 => ?_) (fun q => absurd q (by omega))
        refine z_vret k13_181 ⟨rfl, J, rfl, hF, ?_⟩
        rw [← hac]
        exact hKJ
      | succ m ih =>
        intro b J ac l9 l10 l11 l12 hb0 hb1 hb hac hF hKJ
        have hCJ := hC.fk hN (by omega) hF
        have hcpJ := hcp.fk hPW (by omega) hF
        obtain ⟨cn, ct, cg, cmr, cmf, cmt, cw, cT, cS, cW⟩ := id hCJ
        have hBJ : ∀ j : Nat, (j : Int) < pf σ p 4 → J 77 j = ((fbN σ (pf σ p 2) (ps σ p j 1) (ps σ p j 2) (ps σ p j 3) (kS σ p j) : Nat) : Int) := fun q hq => (hF 77 q (by omega) (by omega) (by omega)).trans (hB q hq)
        by_cases hbn : (b : Int) < σ 127 0
        · have hfb := fb_bit (σ := σ) (t := pf σ p 2) (m := ps σ p j 1) (r := ps σ p j 2) (d := ps σ p j 3) (K := kS σ p j) (b := b) (by omega) hkk.2
          have hfl := fb_lt (σ := σ) (t := pf σ p 2) (m := ps σ p j 1) (r := ps σ p j 2) (d := ps σ p j 3) (K := kS σ p j) b0.2
          have hbit := bit_n (a := fbN σ (pf σ p 2) (ps σ p j 1) (ps σ p j 2) (ps σ p j 3) (kS σ p j)) (k := b) (by omega) (by omega)
          rw [bl_s] at hac
          have hcpx := hcpJ
          by_cases hat : atS σ p j b
          · have hgf : gaF σ p r j mask b ac = gaS σ p r (j + 1) (b + kS σ p j + loP σ p (j + 1)) (wdP σ p (j + 1)) (mask ||| stN b (kS σ p j)) ac := if_pos hat
            rw [hgf] at hac
            have hl2 := Nat.le_trans (bl_len (σ := σ) (p := p) (r := r) (j := j) (mask := mask) m (b + 1) (gaS σ p r (j + 1) (b + kS σ p j + loP σ p (j + 1)) (wdP σ p (j + 1)) (mask ||| stN b (kS σ p j)) ac)) (Nat.le_of_eq (congrArg List.length hac))
            have he := (hat (kS σ p j - 1) (by omega)).1
            have hen : b + kS σ p j ≤ 12 := by omega
            have hs12 := st_4 hen
            have hmo := zor4 hm hs12
            have hal2 : ∀ x, x ∈ gaS σ p r (j + 1) (b + kS σ p j + loP σ p (j + 1)) (wdP σ p (j + 1)) (mask ||| stN b (kS σ p j)) ac → x < 4096 := fun x hx => hall x (by rw [← hac]; exact bl_mem m (b + 1) _ hx)
            have hsl : zshl (zshl 1 (ps σ (p : Int) (j : Int) 0) - 1) (b : Int) = ((stN b (kS σ p j) : Nat) : Int) := by rw [hkq]; exact zsb hen hkk.1
            cases r with
            | zero =>
              refine s_ild k13_43 rfl ?_
              refine s_ild k13_45 rfl ?_
              refine s_icgt k13_47 ⟨by omega, by omega⟩ ⟨by omega, by omega⟩ (fun q => absurd q (by omega)) (fun h47 => ?_)
              refine s_ild k13_50 rfl ?_
              refine s_ald k13_52 rfl ?_
              refine z_getRe (b := 17) k13_53 rfl rr_69_4 ?_
              refine z_getIe (z := σ 127 0) k13_56 rfl cn ?_
              refine s_icge k13_59 ⟨by omega, by omega⟩ ⟨by omega, by omega⟩ (fun q => absurd q (by omega)) (fun h59 => ?_)
              refine s_ald k13_62 rfl ?_
              refine z_getRe (b := 77) k13_63 rfl rr_69_6 ?_
              refine s_ild k13_66 rfl ?_
              refine z_ialde (z := ((fbN σ (pf σ p 2) (ps σ p j 1) (ps σ p j 2) (ps σ p j 3) (kS σ p j) : Nat) : Int)) k13_67 rfl (by omega) (show (j : Int) < ((3 : Nat) : Int) by omega) (hBJ j (by omega)) ?_
              refine s_ild k13_68 rfl ?_
              refine z_sta2A k13_70 (Nat.le_of_ble_eq_true rfl) (c128) ?_
              refine z_ifeqb k13_73 (fun q => absurd (hbit.mpr (hfb.mpr hat)) q) (fun h73 => ?_)
              refine s_ild k13_76 rfl ?_
              refine s_ild k13_78 rfl ?_
              refine z_iadd k13_80 ?_
              refine s_ist9 k13_81 rfl ?_
              refine s_ild k13_83 rfl ?_
              refine z_push k13_84 ?_
              refine z_iadd k13_85 ?_
              refine s_ald k13_86 rfl ?_
              refine z_getIe (z := pf σ (p : Int) 4) k13_88 (pl_sh (hPc _ (by omega) (by omega))) (hcpJ.f (by omega) p1).2.2.2.2 ?_
              refine s_icge k13_91 ⟨by omega, by omega⟩ ⟨by omega, by omega⟩ (fun h91 => ?_) (fun q => absurd q (by omega))
              refine z_push k13_98 ?_
              refine s_ist10 k13_99 rfl ?_
              refine s_ild k13_101 rfl ?_
              refine s_ifeq k13_103 (inR_lit rfl) (fun _ => ?_) (fun q => absurd q (by decide))
              refine z_push k13_121 ?_
              refine s_ist11 k13_122 rfl ?_
              refine s_ild k13_124 rfl ?_
              refine s_ifeq k13_126 (inR_lit rfl) (fun _ => ?_) (fun q => absurd q (by decide))
              refine z_push k13_144 ?_
              refine s_ist12 k13_145 rfl ?_
              have hcall := ihr (d := d) hN hCJ hPW hcpJ p1 hBJ (j := j + 1) (fr := b + kS σ p j) (num := 0) (mask := mask ||| stN b (kS σ p j)) (to := (b : Int) + ps σ (p : Int) (j : Int) 0 + 0) (acc := ac) (by omega) (Or.inr rfl) (by omega) (by omega) (by omega) hmo.2 (by rw [ga_0] at hl2 ⊢; omega) (by rw [ga_0] at hal2 ⊢; exact hal2) hKJ
              rw [show ((j + 1 : Nat) : Int) = (j : Int) + 1 from rfl, show ((b + kS σ p j : Nat) : Int) = (b : Int) + ps σ (p : Int) (j : Int) 0 + 0 by omega] at hcall
              refine s_ald k13_147 rfl ?_
              refine s_ild k13_148 rfl ?_
              refine s_ild k13_149 rfl ?_
              refine z_push k13_150 ?_
              refine z_iadd k13_151 ?_
              refine s_ild k13_152 rfl ?_
              refine s_ild k13_154 rfl ?_
              refine z_iadd k13_156 ?_
              refine s_ild k13_157 rfl ?_
              refine s_ild k13_159 rfl ?_
              refine z_iadd k13_161 ?_
              refine s_ild k13_162 rfl ?_
              refine s_ild k13_164 rfl ?_
              refine s_ild k13_166 rfl ?_
              refine z_sta2A k13_168 (Nat.le_of_ble_eq_true rfl) (c129) ?_
              refine z_eqi (b := ((stN b (kS σ p j) : Nat) : Int)) hsl ?_
              refine z_ior k13_171 ?_
              refine z_eqi (b := ((mask ||| stN b (kS σ p j) : Nat) : Int)) hmo.1 ?_
              refine z_inv5 k13_172 rfl (Nat.le_of_ble_eq_true rfl) (hcall) (fun o h1 hq => ?_)
              obtain ⟨rfl, J2, rfl, gF, gK⟩ := hq
              refine s_iinc8 k13_175 rfl ?_
              refine z_goto k13_178 ?_
              exact ih (b + 1) J2 _ _ _ _ _ (by omega) (by omega) (by omega) hac (hF.tr gF) gK
            | succ r =>
              have hst2 := (hp.st (j := ((j + 1 : Nat) : Int)) (by omega) (by omega)).2.2.2.2.2 (by omega)
              have e1 : ps σ (p : Int) ((j : Int) + 1) 4 = ((loP σ p (j + 1) : Nat) : Int) := by show ps σ (p : Int) ((j + 1 : Nat) : Int) 4 = ((ps σ p ((j + 1 : Nat) : Int) 4).toNat : Int); omega
              have e2 : ps σ (p : Int) ((j : Int) + 1) 5 = ((loP σ p (j + 1) : Nat) : Int) + ((wdP σ p (j + 1) : Nat) : Int) - 1 := by show ps σ (p : Int) ((j + 1 : Nat) : Int) 5 = ((ps σ p ((j + 1 : Nat) : Int) 4).toNat : Int) + (((ps σ p ((j + 1 : Nat) : Int) 5 - ps σ p ((j + 1 : Nat) : Int) 4).toNat + 1 : Nat) : Int) - 1; omega
              have e3 : loP σ p (j + 1) ≤ 6 ∧ wdP σ p (j + 1) ≤ 4 := by show (ps σ p ((j + 1 : Nat) : Int) 4).toNat ≤ 6 ∧ (ps σ p ((j + 1 : Nat) : Int) 5 - ps σ p ((j + 1 : Nat) : Int) 4).toNat + 1 ≤ 4; omega
              refine s_ild k13_43 rfl ?_
              refine s_ild k13_45 rfl ?_
              refine s_icgt k13_47 ⟨by omega, by omega⟩ ⟨by omega, by omega⟩ (fun q => absurd q (by omega)) (fun h47 => ?_)
              refine s_ild k13_50 rfl ?_
              refine s_ald k13_52 rfl ?_
              refine z_getRe (b := 17) k13_53 rfl rr_69_4 ?_
              refine z_getIe (z := σ 127 0) k13_56 rfl cn ?_
              refine s_icge k13_59 ⟨by omega, by omega⟩ ⟨by omega, by omega⟩ (fun q => absurd q (by omega)) (fun h59 => ?_)
              refine s_ald k13_62 rfl ?_
              refine z_getRe (b := 77) k13_63 rfl rr_69_6 ?_
              refine s_ild k13_66 rfl ?_
              refine z_ialde (z := ((fbN σ (pf σ p 2) (ps σ p j 1) (ps σ p j 2) (ps σ p j 3) (kS σ p j) : Nat) : Int)) k13_67 rfl (by omega) (show (j : Int) < ((3 : Nat) : Int) by omega) (hBJ j (by omega)) ?_
              refine s_ild k13_68 rfl ?_
              refine z_sta2A k13_70 (Nat.le_of_ble_eq_true rfl) (c128) ?_
              refine z_ifeqb k13_73 (fun q => absurd (hbit.mpr (hfb.mpr hat)) q) (fun h73 => ?_)
              refine s_ild k13_76 rfl ?_
              refine s_ild k13_78 rfl ?_
              refine z_iadd k13_80 ?_
              refine s_ist9 k13_81 rfl ?_
              refine s_ild k13_83 rfl ?_
              refine z_push k13_84 ?_
              refine z_iadd k13_85 ?_
              refine s_ald k13_86 rfl ?_
              refine z_getIe (z := pf σ (p : Int) 4) k13_88 (pl_sh (hPc _ (by omega) (by omega))) (hcpJ.f (by omega) p1).2.2.2.2 ?_
              refine s_icge k13_91 ⟨by omega, by omega⟩ ⟨by omega, by omega⟩ (fun q => absurd q (by omega)) (fun h91 => ?_)
              refine z_push k13_94 ?_
              refine z_goto k13_95 ?_
              refine s_ist10 k13_99 rfl ?_
              refine s_ild k13_101 rfl ?_
              refine s_ifeq k13_103 (inR_lit rfl) (fun q => absurd q (by decide)) (fun _ => ?_)
              refine s_ald k13_106 rfl ?_
              refine z_getRe (b := P (p : Int) + 1) k13_108 (pl_sh (hPc _ (by omega) (by omega))) (rr_st5 (hPc _ (by omega) (by omega))) ?_
              refine s_ild k13_111 rfl ?_
              refine z_push k13_112 ?_
              refine z_iadd k13_113 ?_
              refine z_aalde (b := P (p : Int) + 2 + ((j : Int) + 1).toNat) k13_114 (by rw [pl_sa (hPc _ (by omega) (by omega))]) (by omega) (by rw [pl_sa (hPc _ (by omega) (by omega))]; show ((j : Int) + 1) < ((3 : Nat) : Int); omega) (rr_stj (hPc _ (by omega) (by omega)) (by omega) (by omega)) ?_
              skip
              refine z_getIe (z := ps σ (p : Int) ((j : Int) + 1) 4) k13_115 (pl_st (hPc _ (by omega) (by omega)) (by omega)) ((hcpJ.s (by omega) p1 (by omega) (by omega)).2.2.2.2 (by omega)).1 ?_
              refine z_goto k13_118 ?_
              refine s_ist11 k13_122 rfl ?_
              refine s_ild k13_124 rfl ?_
              refine s_ifeq k13_126 (inR_lit rfl) (fun q => absurd q (by decide)) (fun _ => ?_)
              refine s_ald k13_129 rfl ?_
              refine z_getRe (b := P (p : Int) + 1) k13_131 (pl_sh (hPc _ (by omega) (by omega))) (rr_st5 (hPc _ (by omega) (by omega))) ?_
              refine s_ild k13_134 rfl ?_
              refine z_push k13_135 ?_
              refine z_iadd k13_136 ?_
              refine z_aalde (b := P (p : Int) + 2 + ((j : Int) + 1).toNat) k13_137 (by rw [pl_sa (hPc _ (by omega) (by omega))]) (by omega) (by rw [pl_sa (hPc _ (by omega) (by omega))]; show ((j : Int) + 1) < ((3 : Nat) : Int); omega) (rr_stj (hPc _ (by omega) (by omega)) (by omega) (by omega)) ?_
              refine z_getIe (z := ps σ (p : Int) ((j : Int) + 1) 5) k13_138 (pl_st (hPc _ (by omega) (by omega)) (by omega)) ((hcpJ.s (by omega) p1 (by omega) (by omega)).2.2.2.2 (by omega)).2 ?_
              refine z_goto k13_141 ?_
              refine s_ist12 k13_145 rfl ?_
              have hcall := ihr (d := d) hN hCJ hPW hcpJ p1 hBJ (j := j + 1) (fr := b + kS σ p j + loP σ p (j + 1)) (num := wdP σ p (j + 1)) (mask := mask ||| stN b (kS σ p j)) (to := (b : Int) + ps σ (p : Int) (j : Int) 0 + ps σ (p : Int) ((j : Int) + 1) 5) (acc := ac) (by omega) (Or.inl (by omega)) (by omega) (by omega) (by omega) hmo.2 (by omega) hal2 hKJ
              rw [show ((j + 1 : Nat) : Int) = (j : Int) + 1 from rfl, show ((b + kS σ p j + loP σ p (j + 1) : Nat) : Int) = (b : Int) + ps σ (p : Int) (j : Int) 0 + ps σ (p : Int) ((j : Int) + 1) 4 by omega] at hcall
              refine s_ald k13_147 rfl ?_
              refine s_ild k13_148 rfl ?_
              refine s_ild k13_149 rfl ?_
              refine z_push k13_150 ?_
              refine z_iadd k13_151 ?_
              refine s_ild k13_152 rfl ?_
              refine s_ild k13_154 rfl ?_
              refine z_iadd k13_156 ?_
              refine s_ild k13_157 rfl ?_
              refine s_ild k13_159 rfl ?_
              refine z_iadd k13_161 ?_
              refine s_ild k13_162 rfl ?_
              refine s_ild k13_164 rfl ?_
              refine s_ild k13_166 rfl ?_
              refine z_sta2A k13_168 (Nat.le_of_ble_eq_true rfl) (c129) ?_
              refine z_eqi (b := ((stN b (kS σ p j) : Nat) : Int)) hsl ?_
              refine z_ior k13_171 ?_
              refine z_eqi (b := ((mask ||| stN b (kS σ p j) : Nat) : Int)) hmo.1 ?_
              refine z_inv5 k13_172 rfl (Nat.le_of_ble_eq_true rfl) (hcall) (fun o h1 hq => ?_)
              obtain ⟨rfl, J2, rfl, gF, gK⟩ := hq
              refine s_iinc8 k13_175 rfl ?_
              refine z_goto k13_178 ?_
              exact ih (b + 1) J2 _ _ _ _ _ (by omega) (by omega) (by omega) hac (hF.tr gF) gK
          · have hgf : gaF σ p r j mask b ac = ac := if_neg hat
            rw [hgf] at hac
            refine s_ild k13_43 rfl ?_
            refine s_ild k13_45 rfl ?_
            refine s_icgt k13_47 ⟨by omega, by omega⟩ ⟨by omega, by omega⟩ (fun q => absurd q (by omega)) (fun h47 => ?_)
            refine s_ild k13_50 rfl ?_
            refine s_ald k13_52 rfl ?_
            refine z_getRe (b := 17) k13_53 rfl rr_69_4 ?_
            refine z_getIe (z := σ 127 0) k13_56 rfl cn ?_
            refine s_icge k13_59 ⟨by omega, by omega⟩ ⟨by omega, by omega⟩ (fun q => absurd q (by omega)) (fun h59 => ?_)
            refine s_ald k13_62 rfl ?_
            refine z_getRe (b := 77) k13_63 rfl rr_69_6 ?_
            refine s_ild k13_66 rfl ?_
            refine z_ialde (z := ((fbN σ (pf σ p 2) (ps σ p j 1) (ps σ p j 2) (ps σ p j 3) (kS σ p j) : Nat) : Int)) k13_67 rfl (by omega) (show (j : Int) < ((3 : Nat) : Int) by omega) (hBJ j (by omega)) ?_
            refine s_ild k13_68 rfl ?_
            refine z_sta2A k13_70 (Nat.le_of_ble_eq_true rfl) (c128) ?_
            refine z_ifeqb k13_73 (fun h73 => ?_) (fun q => absurd q (fun u => hat (hfb.mp (hbit.mp u))))
            refine s_iinc8 k13_175 rfl ?_
            refine z_goto k13_178 ?_
            exact ih (b + 1) J ac _ _ _ _ (by omega) (by omega) (by omega) hac hF hKJ
        · have hid : blL (gaF σ p r j mask) (m + 1) b ac = ac := bl_id (m + 1) b ac (fun c ac2 hc => if_neg (fun u => by have := (u 0 (by omega)).1; omega))
          rw [hid] at hac
          subst hac
          refine s_ild k13_43 rfl ?_
          refine s_ild k13_45 rfl ?_
          refine s_icgt k13_47 ⟨by omega, by omega⟩ ⟨by omega, by omega⟩ (fun q => absurd q (by omega)) (fun h47 => ?_)
          refine s_ild k13_50 rfl ?_
          refine s_ald k13_52 rfl ?_
          refine z_getRe (b := 17) k13_53 rfl rr_69_4 ?_
          refine z_getIe (z := σ 127 0) k13_56 rfl cn ?_
          refine s_icge k13_59 ⟨by omega, by omega⟩ ⟨by omega, by omega⟩ (fun h59 => ?_) (fun q => absurd q (by omega))
          exact z_vret k13_181 ⟨rfl, J, rfl, hF, hKJ⟩
    refine s_ald k13_0 rfl ?_
    refine z_getRe (b := 42) k13_1 rfl rr_69_5 ?_
    refine z_getRe (b := 43) k13_4 rfl rr_42_0 ?_
    refine s_ild k13_7 rfl ?_
    refine z_aalde (b := P (p : Int)) k13_8 rfl (by omega) (show (p : Int) < ((5 : Nat) : Int) by omega) rr_P ?_
    refine s_ast6 k13_9 rfl ?_
    refine s_ild k13_11 rfl ?_
    refine s_ald k13_12 rfl ?_
    refine z_getIe (z := pf σ (p : Int) 4) k13_14 (pl_sh (hPc _ (by omega) (by omega))) (hcp.f (by omega) p1).2.2.2.2 ?_
    refine s_iclt k13_17 ⟨by omega, by omega⟩ ⟨by omega, by omega⟩ (fun h17 => ?_) (fun q => absurd q (by omega))
    refine s_ald k13_28 rfl ?_
    refine z_getRe (b := P (p : Int) + 1) k13_30 (pl_sh (hPc _ (by omega) (by omega))) (rr_st5 (hPc _ (by omega) (by omega))) ?_
    refine s_ild k13_33 rfl ?_
    refine z_aalde (b := P (p : Int) + 2 + (j : Int).toNat) k13_34 (by rw [pl_sa (hPc _ (by omega) (by omega))]) (by omega) (by rw [pl_sa (hPc _ (by omega) (by omega))]; show (j : Int) < ((3 : Nat) : Int); omega) (rr_stj (hPc _ (by omega) (by omega)) (by omega) (by omega)) ?_
    refine z_getIe (z := ps σ (p : Int) (j : Int) 0) k13_35 (pl_st (hPc _ (by omega) (by omega)) (by omega)) (hcp.s (by omega) p1 (by omega) (by omega)).1 ?_
    refine s_ist7 k13_38 rfl ?_
    refine s_ild k13_40 rfl ?_
    refine s_ist8 k13_41 rfl ?_
    exact key num fr I acc _ _ _ _ (Nat.le_refl _) (by omega) (by omega) hACC.symm FK.rf hK
set_option maxRecDepth 20000 in
theorem lp12g {d : Nat} {I σ : Nat → Int → Int} {P : Int → Nat} {dr : Nat} (hN : WFn σ) (hC : CRn I σ) (hPW : WFp σ) (hcp : CRp I σ P dr) {p : Nat} (p1 : (p : Int) < σ 127 21) : ∀ (m i : Nat) (J : Nat → Int → Int), (i : Int) + m = pf σ (p : Int) 4 → (∀ (a : Nat) (k : Int), a ≠ 77 → J a k = I a k) → (∀ j : Nat, j < i → J 77 j = ((fbN σ (pf σ p 2) (ps σ p (j : Int) 1) (ps σ p (j : Int) 2) (ps σ p (j : Int) 3) (kS σ p j) : Nat) : Int)) → wp (mcall MT CD (d + 5)) (CD 12) L0 (fun o h => o = none ∧ ∃ J, h = (S0, J, RR P dr) ∧ (∀ (a : Nat) (k : Int), ¬ (a = 76 ∧ k = (p : Int)) → ¬ (a = 78 ∧ k = (p : Int)) → a ≠ 71 + p → a ≠ 77 → J a k = I a k) ∧ CK J p (plS σ p)) 12 [vr 69, vi (p : Int), vr (P (p : Int)), vi (i : Int)] [] (S0, J, RR P dr) := by
  intro m
  induction m with
  | zero => 
    intro i J hi hlo hB
    have b0 := hN.1
    have bp := hPW.1
    have hPc : ∀ k, 0 ≤ k → k < 5 → isPl (P k) := hcp.2.1.1
    have hp := hPW.2 (p : Int) (by omega) p1
    have h3 := hp.2.2.2.2.1
    have hCJ := hC.keep hN (fun a q _ _ => hlo a q (by omega))
    have hcpJ := hcp.keep hPW (fun a q _ _ => hlo a q (by omega))
    obtain ⟨cn, ct, cg, cmr, cmf, cmt, cw, cT, cS, cW⟩ := id hCJ
    refine s_ild k12_12 rfl ?_
    refine s_ald k12_13 rfl ?_
    refine z_getIe (z := pf σ (p : Int) 4) k12_14 (pl_sh (hPc _ (by omega) (by omega))) (hcpJ.f (by omega) p1).2.2.2.2 ?_
    refine s_icge k12_17 ⟨by omega, by omega⟩ ⟨by omega, by omega⟩ (fun h17 => ?_) (fun q => absurd q (by omega))
    refine s_ald k12_57 rfl ?_
    refine z_getRe (b := 76) k12_58 rfl rr_69_1 ?_
    refine s_ild k12_61 rfl ?_
    refine z_push k12_62 ?_
    refine z_iast k12_63 rfl (by omega) (show (p : Int) < ((5 : Nat) : Int) by omega) ?_
    refine s_ald k12_64 rfl ?_
    refine z_getRe (b := 78) k12_65 rfl rr_69_7 ?_
    refine s_ild k12_68 rfl ?_
    refine z_push k12_69 ?_
    refine z_iast k12_70 rfl (by omega) (show (p : Int) < ((5 : Nat) : Int) by omega) ?_
    have hlo2 : ∀ a k, 17 ≤ a → a ≤ 68 → upI (upI J 76 (p : Int) 0) 78 (p : Int) 0 a k = J a k := fun a k h1 h2 => (up_ne (by omega)).trans (up_ne (by omega))
    obtain ⟨d3, hd3⟩ : ∃ d3, d + 5 = d3 + (pf σ (p : Int) 4).toNat + 2 := ⟨d + 5 - (pf σ (p : Int) 4).toNat - 2, by omega⟩
    have hcall := c13 (d := d3) (pf σ (p : Int) 4).toNat hN (hCJ.keep hN (fun a q h1 h2 => hlo2 a q (by omega) (by omega))) hPW (hcpJ.keep hPW (fun a q h1 h2 => hlo2 a q (by omega) (by omega))) p1 (fun j hj => (up_ne (by decide)).trans ((up_ne (by decide)).trans (hB j (by omega)))) (j := 0) (fr := 0) (num := (σ 127 0).toNat) (mask := 0) (to := σ 127 0 - 1) (acc := []) (by omega) (Or.inl (by omega)) (by omega) (by omega) (by omega) (by decide) (pl_112 hN hp) (fun x hx => Nat.lt_of_lt_of_le (pl_all hN hp hx).1 (p12 (by omega))) ⟨(up_ne (by decide)).trans up_at, fun i hi => absurd hi (Nat.not_lt_zero i), up_at⟩
    rw [← hd3] at hcall
    refine s_ald k12_71 rfl ?_
    refine s_ild k12_72 rfl ?_
    refine z_push k12_73 ?_
    refine z_push k12_74 ?_
    refine s_ald k12_75 rfl ?_
    refine z_getRe (b := 17) k12_76 rfl rr_69_4 ?_
    refine z_getIe (z := σ 127 0) k12_79 rfl ((up_ne (by decide)).trans ((up_ne (by decide)).trans cn)) ?_
    refine z_push k12_82 ?_
    refine z_isub k12_83 ?_
    refine z_push k12_84 ?_
    refine z_inv5 k12_85 rfl (Nat.le_of_ble_eq_true rfl) (hcall) (fun o h1 hq => ?_)
    obtain ⟨rfl, J2, rfl, gF, gK⟩ := hq
    exact z_vret k12_88 ⟨rfl, J2, rfl, fun a k h1 h2 h3 h4 => (gF a k h1 h2 h3).trans ((if_neg h2).trans ((if_neg h1).trans (hlo a k h4))), gK⟩
  | succ m ih => 
    intro i J hi hlo hB
    have b0 := hN.1
    have bp := hPW.1
    have hPc : ∀ k, 0 ≤ k → k < 5 → isPl (P k) := hcp.2.1.1
    have hp := hPW.2 (p : Int) (by omega) p1
    have h3 := hp.2.2.2.2.1
    have hCJ := hC.keep hN (fun a q _ _ => hlo a q (by omega))
    have hcpJ := hcp.keep hPW (fun a q _ _ => hlo a q (by omega))
    obtain ⟨cn, ct, cg, cmr, cmf, cmt, cw, cT, cS, cW⟩ := id hCJ
    refine s_ild k12_12 rfl ?_
    refine s_ald k12_13 rfl ?_
    refine z_getIe (z := pf σ (p : Int) 4) k12_14 (pl_sh (hPc _ (by omega) (by omega))) (hcpJ.f (by omega) p1).2.2.2.2 ?_
    refine s_icge k12_17 ⟨by omega, by omega⟩ ⟨by omega, by omega⟩ (fun q => absurd q (by omega)) (fun h17 => ?_)
    have ht2 := hp.2.2.1
    have hb2 := hN.2.2.1
    obtain ⟨g0, g1, g2, g3, -⟩ := hcpJ.s (j := (i : Int)) (by omega) p1 (by omega) (by omega)
    have hs4 := hp.st (j := (i : Int)) (by omega) (by omega)
    have hkk : kS σ p i ≤ 4 ∧ 1 ≤ kS σ p i := by show (ps σ p i 0).toNat ≤ 4 ∧ 1 ≤ (ps σ p i 0).toNat; omega
    have hkq : ps σ (p : Int) (i : Int) 0 = ((kS σ p i : Nat) : Int) := by show _ = ((ps σ p i 0).toNat : Int); omega
    refine s_ald k12_20 rfl ?_
    refine z_getRe (b := 77) k12_21 rfl rr_69_6 ?_
    refine s_ild k12_24 rfl ?_
    refine s_ald k12_25 rfl ?_
    refine z_getRe (b := 17) k12_26 rfl rr_69_4 ?_
    refine s_ald k12_29 rfl ?_
    refine z_getRe (b := 17) k12_30 rfl rr_69_4 ?_
    refine z_getRe (b := 18) k12_33 rfl rr_17_2 ?_
    refine s_ald k12_36 rfl ?_
    refine z_getIe (z := pf σ (p : Int) 2) k12_37 (pl_sh (hPc _ (by omega) (by omega))) (hcpJ.f (by omega) p1).2.2.1 ?_
    refine z_aalde (b := 27 + (pf σ (p : Int) 2).toNat) k12_40 rfl (by omega) (show (pf σ (p : Int) 2) < ((8 : Nat) : Int) by omega) (rr_tg (by omega) (by omega)) ?_
    refine s_ald k12_41 rfl ?_
    refine z_getRe (b := P (p : Int) + 1) k12_42 (pl_sh (hPc _ (by omega) (by omega))) (rr_st5 (hPc _ (by omega) (by omega))) ?_
    refine s_ild k12_45 rfl ?_
    refine z_aalde (b := P (p : Int) + 2 + (i : Int).toNat) k12_46 (by rw [pl_sa (hPc _ (by omega) (by omega))]) (by omega) (by rw [pl_sa (hPc _ (by omega) (by omega))]; show (i : Int) < ((3 : Nat) : Int); omega) (rr_stj (hPc _ (by omega) (by omega)) (by omega) (by omega)) ?_
    refine z_inv2A k12_47 rfl (Nat.le_of_ble_eq_true rfl) (c68 (t := pf σ p 2) (ms := ps σ p i 1) (r := ps σ p i 2) (d2 := ps σ p i 3) (K := kS σ p i) hN hCJ (pl_st (hPc _ (by omega) (by omega)) (by omega)) (g0.trans hkq) g1 g2 g3 hp.2.2.1.1 hp.2.2.1.2 (by omega) (by omega) (by omega) hkk.2 (by omega)) ?_
    refine z_iast k12_50 rfl (by omega) (show (i : Int) < ((3 : Nat) : Int) by omega) ?_
    refine s_iinc3 k12_51 rfl ?_
    refine z_goto k12_54 ?_
    refine ih (i + 1) _ (by omega) (fun a k h => (up_ne h).trans (hlo a k h)) (fun j hj => ?_)
    by_cases c : j = i
    · subst c; exact up_at
    · exact (up_nk (by omega)).trans (hB j (by omega))
set_option maxRecDepth 20000 in
theorem c12 {d : Nat} {I : Nat → Int → Int} {P : Int → Nat} {dr : Nat} {σ : Nat → Int → Int} (hN : WFn σ) (hC : CRn I σ) (hPW : WFp σ) (hcp : CRp I σ P dr) {p : Nat} (p1 : (p : Int) < σ 127 21) : cal (d + 6) 12 [vr 69, vi (p : Int)] I P dr (fun o h => o = none ∧ ∃ J, h = (S0, J, RR P dr) ∧ (∀ (a : Nat) (k : Int), ¬ (a = 76 ∧ k = (p : Int)) → ¬ (a = 78 ∧ k = (p : Int)) → a ≠ 71 + p → a ≠ 77 → J a k = I a k) ∧ CK J p (plS σ p)) := by
  refine cal_in (Nat.le_of_ble_eq_true rfl) ?_
  have b0 := hN.1
  have bp := hPW.1
  have hPc : ∀ k, 0 ≤ k → k < 5 → isPl (P k) := hcp.2.1.1
  have hp := hPW.2 (p : Int) (by omega) p1
  have h3 := hp.2.2.2.2.1
  show wp _ _ _ _ 0 [vr 69, vi (p : Int), vj, vj] [] _
  refine s_ald k12_0 rfl ?_
  refine z_getRe (b := 42) k12_1 rfl rr_69_5 ?_
  refine z_getRe (b := 43) k12_4 rfl rr_42_0 ?_
  refine s_ild k12_7 rfl ?_
  refine z_aalde (b := P (p : Int)) k12_8 rfl (by omega) (show (p : Int) < ((5 : Nat) : Int) by omega) rr_P ?_
  refine s_ast2 k12_9 rfl ?_
  refine z_push k12_10 ?_
  refine s_ist3 k12_11 rfl ?_
  exact lp12g hN hC hPW hcp p1 (pf σ (p : Int) 4).toNat 0 I (by omega) (fun _ _ _ => rfl) (fun j hj => absurd hj (by omega))
