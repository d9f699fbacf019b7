/-! placements, the reference -/
def nearN (x : Nat) : Nat := (x ||| x * 2) ||| x / 2
abbrev gN (l : List Nat) (i : Nat) : Nat := l.getD i 0
theorem gN_lo {l : List Nat} {x i : Nat} (h : i < l.length) : gN (l ++ [x]) i = gN l i := by
  unfold gN
  rw [List.getD_eq_getElem?_getD, List.getD_eq_getElem?_getD, List.getElem?_append_left h]
theorem gN_at {l : List Nat} {x : Nat} : gN (l ++ [x]) l.length = x := by
  unfold gN
  rw [List.getD_eq_getElem?_getD, List.getElem?_append_right (Nat.le_refl _), Nat.sub_self]
  rfl
theorem gN_mem {l : List Nat} {i : Nat} (h : i < l.length) : gN l i ∈ l := by
  unfold gN
  rw [List.getD_eq_getElem?_getD, List.getElem?_eq_getElem h]
  exact List.getElem_mem h
/-- the reference's rows hold a plan's placements -/
def RG (σ J : Nat → Int → Int) (p : Int) (acc : List Nat) : Prop := J 139 p = (acc.length : Int) ∧ ∀ i, i < acc.length → J 140 (200 * p + i) = (gN acc i : Int) ∧ J 141 (200 * p + i) = ((nearN (gN acc i) &&& (2 ^ (σ 127 0).toNat - 1) : Nat) : Int)
def FPl (I J : Nat → Int → Int) (p : Int) : Prop := ∀ a k, ¬ (a = 139 ∧ k = p) → ¬ ((a = 140 ∨ a = 141) ∧ 200 * p ≤ k ∧ k < 200 * p + 200) → J a k = I a k
theorem FPl.rf {I : Nat → Int → Int} {p : Int} : FPl I I p := fun _ _ _ _ => rfl
theorem FPl.tr {I J K : Nat → Int → Int} {p : Int} (h : FPl I J p) (h' : FPl J K p) : FPl I K p := fun a k h1 h2 => (h' a k h1 h2).trans (h a k h1 h2)
theorem FPl.sig {I J : Nat → Int → Int} {p : Int} (h : FPl I J p) : sig J = sig I := sig_eq fun a k hk => h a k (fun q => by rw [q.1] at hk; cases hk) (fun q => by rcases q.1 with e | e <;> (rw [e] at hk; cases hk))
theorem st_pos {b K : Nat} (h : 1 ≤ K) : 0 < stN b K := by
  unfold stN
  have h1 : 2 ≤ 2 ^ K := by
    have := Nat.pow_le_pow_right (show 0 < 2 by decide) h
    omega
  exact Nat.mul_pos (by omega) (Nat.two_pow_pos b)
theorem p12 {n : Nat} (h : n ≤ 12) : 2 ^ n ≤ 4096 := Nat.pow_le_pow_right (show 0 < 2 by decide) h
theorem st_4 {b K : Nat} (h : b + K ≤ 12) : stN b K < 4096 := Nat.lt_of_lt_of_le st_lt (p12 h)
theorem z2p {k : Nat} (h : k < 31) : zshl 1 (k : Int) = ((2 ^ k : Nat) : Int) := by
  have h1 : 2 ^ k < 2147483648 := Nat.pow_lt_pow_right (show 1 < 2 by decide) h
  have := zshl_n (a := 1) (k := k) (by omega) (by omega)
  rw [Nat.one_mul] at this
  exact this
theorem zst {b q : Nat} (h : b + q < 12) : zor ((stN b q : Nat) : Int) (zshl 1 ((b + q : Nat) : Int)) = ((stN b (q + 1) : Nat) : Int) := by
  have h1 := st_4 (b := b) (K := q) (by omega)
  have h2 : 2 ^ (b + q) < 4096 := Nat.pow_lt_pow_right (show 1 < 2 by decide) h
  rw [z2p (by omega), zor_n (by omega) (by omega), st_or]
theorem zor4 {x y : Nat} (hx : x < 4096) (hy : y < 4096) : zor (x : Int) (y : Int) = ((x ||| y : Nat) : Int) ∧ x ||| y < 4096 := ⟨zor_n (by omega) (by omega), Nat.or_lt_two_pow (n := 12) hx hy⟩
theorem znear {x n : Nat} (hx : x < 4096) (hn : n ≤ 12) : zand (zor (zor (x : Int) (zshl (x : Int) 1)) (zshr (x : Int) 1)) (zshl 1 (n : Int) - 1) = ((nearN x &&& (2 ^ n - 1) : Nat) : Int) := by
  have e1 : zshl (x : Int) 1 = ((x * 2 : Nat) : Int) := zshl_n (a := x) (k := 1) (by decide) (by omega)
  have e2 : zshr (x : Int) 1 = ((x / 2 : Nat) : Int) := zshr_n (a := x) (k := 1) (by decide) (by omega)
  have h1 : x ||| x * 2 < 8192 := Nat.or_lt_two_pow (n := 13) (by omega) (by omega)
  have h2 : (x ||| x * 2) ||| x / 2 < 8192 := Nat.or_lt_two_pow (n := 13) h1 (by omega)
  have h3 := p12 hn
  have h4 := Nat.two_pow_pos n
  rw [e1, e2, zor_n (by omega) (by omega), zor_n (by omega) (by omega), z2p (by omega), show ((2 ^ n : Nat) : Int) - 1 = ((2 ^ n - 1 : Nat) : Int) by omega, zand_n (by omega) (by omega)]
  rfl
set_option maxRecDepth 20000 in
theorem lp170 {d : Nat} {I σ : Nat → Int → Int} {P : Int → Nat} {dr : Nat} (hs : sig I = σ) (hN : WFn σ) {p : Int} {j b : Nat} (p0 : 0 ≤ p) (p1 : p < 5) (hp : PlWF σ p) (j1 : (j : Int) < pf σ p 4) (hb : b ≤ 60) : ∀ (m q : Nat), (q : Int) + m = ps σ p (j : Int) 0 → (∀ i, i < q → ((b + i : Nat) : Int) < σ 127 0 ∧ fitS σ 0 (pf σ p 2) ((b + i : Nat) : Int) (ps σ p (j : Int) 1) (ps σ p (j : Int) 2) (ps σ p (j : Int) 3)) → wp (mcall MT CD (d + 4)) (CD 170) L0 (ans (vi ((if atS σ p j b then stN b (kS σ p j) else 0 : Nat) : Int)) I P dr) 6 [vr 127, vi p, vi (j : Int), vi (b : Int), vi ((stN b q : Nat) : Int), vi ((b + q : Nat) : Int)] [] (S0, I, RR P dr) := by
  intro m
  induction m with
  | zero => 
    intro q hi hat
    have b0 := hN.1
    have h3 := hp.2.2.2.2.1
    have hs4 := (hp.st (j := (j : Int)) (by omega) j1).2.1
    refine s_ild k170_6 rfl ?_
    refine s_ild k170_8 rfl ?_
    refine s_ald k170_9 rfl ?_
    refine s_ild k170_10 rfl ?_
    refine s_ild k170_11 rfl ?_
    refine z_push k170_12 ?_
    refine z_inv3A k170_13 rfl (Nat.le_of_ble_eq_true rfl) (c167 hs p0 (by omega) (by omega) (by omega) (by decide) (by decide)) ?_
    refine z_iadd k170_16 ?_
    refine s_icge k170_17 ⟨by omega, by omega⟩ ⟨by omega, by omega⟩ (fun h17 => ?_) (fun q => absurd q (by omega))
    refine s_ild k170_58 rfl ?_
    refine z_iret k170_60 (ans_i ?_)
    have e : q = kS σ p j := by show q = (ps σ p j 0).toNat; omega
    subst e
    rw [if_pos hat]
  | succ m ih => 
    intro q hi hat
    have b0 := hN.1
    have h3 := hp.2.2.2.2.1
    have hs4 := (hp.st (j := (j : Int)) (by omega) j1).2.1
    refine s_ild k170_6 rfl ?_
    refine s_ild k170_8 rfl ?_
    refine s_ald k170_9 rfl ?_
    refine s_ild k170_10 rfl ?_
    refine s_ild k170_11 rfl ?_
    refine z_push k170_12 ?_
    refine z_inv3A k170_13 rfl (Nat.le_of_ble_eq_true rfl) (c167 hs p0 (by omega) (by omega) (by omega) (by decide) (by decide)) ?_
    refine z_iadd k170_16 ?_
    refine s_icge k170_17 ⟨by omega, by omega⟩ ⟨by omega, by omega⟩ (fun q => absurd q (by omega)) (fun h17 => ?_)
    refine s_ild k170_20 rfl ?_
    refine s_ald k170_22 rfl ?_
    refine z_getIe (z := σ 127 0) k170_23 rfl (st_s hs rfl) ?_
    refine s_icge k170_26 ⟨by omega, by omega⟩ ⟨by omega, by omega⟩ (fun h26 => ?_) (fun h26 => ?_)
    · refine z_push k170_41 ?_
      refine z_iret k170_42 (ans_i ?_)
      rw [if_neg (fun u => by have u2 := u q (by show q < (ps σ p j 0).toNat; omega); first | exact h38 u2.2 | (have := u2.1; omega))]
      rfl
    · refine s_ald k170_29 rfl ?_
      refine s_ild k170_30 rfl ?_
      refine s_ild k170_31 rfl ?_
      refine s_ild k170_32 rfl ?_
      refine z_push k170_34 ?_
      refine z_inv4A k170_35 rfl (Nat.le_of_ble_eq_true rfl) (c169 hs hN p0 p1 hp (by omega) j1 (by omega) (by omega) (by decide) (by decide)) ?_
      refine z_ifneb k170_38 (fun h38 => ?_) (fun h38 => ?_)
      · refine s_ild k170_43 rfl ?_
        refine z_push k170_45 ?_
        refine s_ild k170_46 rfl ?_
        refine z_ishl k170_48 ?_
        refine z_ior k170_49 ?_
        refine z_eqi (b := ((stN b (q + 1) : Nat) : Int)) (zst (by omega)) ?_
        refine s_ist4 k170_50 rfl ?_
        refine s_iinc5 k170_52 rfl ?_
        refine z_goto k170_55 ?_
        have k := ih (q + 1) (by omega) (fun i hi => ?_)
        · rw [show ((b + (q + 1) : Nat) : Int) = ((b + q : Nat) : Int) + 1 by omega] at k
          exact k
        · by_cases c : i = q
          · rw [c]; exact ⟨h26, h38⟩
          · exact hat i (by omega)
      · refine z_push k170_41 ?_
        refine z_iret k170_42 (ans_i ?_)
        rw [if_neg (fun u => by have u2 := u q (by show q < (ps σ p j 0).toNat; omega); first | exact h38 u2.2 | (have := u2.1; omega))]
        rfl
set_option maxRecDepth 20000 in
theorem c170 {d : Nat} {I : Nat → Int → Int} {P : Int → Nat} {dr : Nat} {σ : Nat → Int → Int} (hs : sig I = σ) (hN : WFn σ) {p : Int} {j b : Nat} (p0 : 0 ≤ p) (p1 : p < 5) (hp : PlWF σ p) (j1 : (j : Int) < pf σ p 4) (hb : b ≤ 60) : cal (d + 5) 170 [vr 127, vi p, vi (j : Int), vi (b : Int)] I P dr (ans (vi ((if atS σ p j b then stN b (kS σ p j) else 0 : Nat) : Int)) I P dr) := by
  refine cal_in (Nat.le_of_ble_eq_true rfl) ?_
  show wp _ _ _ _ 0 [vr 127, vi p, vi (j : Int), vi (b : Int), vj, vj] [] _
  refine z_push k170_0 ?_
  refine s_ist4 k170_1 rfl ?_
  refine s_ild k170_3 rfl ?_
  refine s_ist5 k170_4 rfl ?_
  have b0 := hN.1
  have h3 := hp.2.2.2.2.1
  have hs4 := (hp.st (j := (j : Int)) (by omega) j1).2.1
  have k := lp170 (d := d) (P := P) (dr := dr) hs hN p0 p1 hp j1 hb (ps σ p (j : Int) 0).toNat 0 (by omega) (fun i hi => absurd hi (by omega))
  rw [st_z] at k
  exact k
set_option maxRecDepth 20000 in
theorem c171 {d : Nat} {I : Nat → Int → Int} {P : Int → Nat} {dr : Nat} {σ : Nat → Int → Int} (hs : sig I = σ) (hN : WFn σ) {p : Int} {x : Nat} {acc : List Nat} (p0 : 0 ≤ p) (p1 : p < 5) (hx : x < 4096) (hl : acc.length < 200) (hG : RG σ I p acc) : cal (d + 1) 171 [vr 127, vi p, vi (x : Int)] I P dr (fun o h => o = none ∧ ∃ J, h = (S0, J, RR P dr) ∧ FPl I J p ∧ RG σ J p (acc ++ [x])) := by
  refine cal_in (Nat.le_of_ble_eq_true rfl) ?_
  have b0 := hN.1
  have hnx := znear (x := x) (n := (σ 127 0).toNat) hx (by omega)
  rw [show (((σ 127 0).toNat : Nat) : Int) = σ 127 0 by omega] at hnx
  show wp _ _ _ _ 0 [vr 127, vi p, vi (x : Int)] [] _
  refine s_ald k171_0 rfl ?_
  refine z_getRe (b := 140) k171_1 rfl rr_127_24 ?_
  refine z_push k171_4 ?_
  refine s_ild k171_7 rfl ?_
  refine z_imul k171_8 ?_
  refine s_ald k171_9 rfl ?_
  refine z_getRe (b := 139) k171_10 rfl rr_127_23 ?_
  refine s_ild k171_13 rfl ?_
  refine z_ialde (z := (acc.length : Int)) k171_14 rfl (by omega) (show p < ((5 : Nat) : Int) by omega) hG.1 ?_
  refine z_iadd k171_15 ?_
  refine s_ild k171_16 rfl ?_
  refine z_iast k171_17 rfl (by omega) (show ((200 * p) + (acc.length : Int)) < ((1000 : Nat) : Int) by omega) ?_
  refine s_ald k171_18 rfl ?_
  refine z_getRe (b := 141) k171_19 rfl rr_127_25 ?_
  refine z_push k171_22 ?_
  refine s_ild k171_25 rfl ?_
  refine z_imul k171_26 ?_
  refine s_ald k171_27 rfl ?_
  refine z_getRe (b := 139) k171_28 rfl rr_127_23 ?_
  refine s_ild k171_31 rfl ?_
  refine z_ialde (z := (acc.length : Int)) k171_32 rfl (by omega) (show p < ((5 : Nat) : Int) by omega) ((up_ne (by decide)).trans hG.1) ?_
  refine z_iadd k171_33 ?_
  refine s_ild k171_34 rfl ?_
  refine s_ild k171_35 rfl ?_
  refine z_push k171_36 ?_
  refine z_ishl k171_37 ?_
  refine z_ior k171_38 ?_
  refine s_ild k171_39 rfl ?_
  refine z_push k171_40 ?_
  refine z_ishr k171_41 ?_
  refine z_ior k171_42 ?_
  refine z_push k171_43 ?_
  refine s_ald k171_44 rfl ?_
  refine z_getIe (z := σ 127 0) k171_45 rfl ((up_ne (by decide)).trans (st_s hs rfl)) ?_
  refine z_ishl k171_48 ?_
  refine z_push k171_49 ?_
  refine z_isub k171_50 ?_
  refine z_iand k171_51 ?_
  refine z_eqi (b := ((nearN x &&& (2 ^ (σ 127 0).toNat - 1) : Nat) : Int)) hnx ?_
  refine z_iast k171_52 rfl (by omega) (show ((200 * p) + (acc.length : Int)) < ((1000 : Nat) : Int) by omega) ?_
  refine s_ald k171_53 rfl ?_
  refine z_getRe (b := 139) k171_54 rfl rr_127_23 ?_
  refine s_ild k171_57 rfl ?_
  refine z_dup2ir k171_58 ?_
  refine z_ialde (z := (acc.length : Int)) k171_59 rfl (by omega) (show p < ((5 : Nat) : Int) by omega) ((up_ne (by decide)).trans ((up_ne (by decide)).trans hG.1)) ?_
  refine z_push k171_60 ?_
  refine z_iadd k171_61 ?_
  refine z_iast k171_62 rfl (by omega) (show p < ((5 : Nat) : Int) by omega) ?_
  refine z_vret k171_63 ⟨rfl, _, rfl, fun a k h1 h2 => (if_neg h1).trans ((if_neg (fun u => h2 ⟨by omega, by omega⟩)).trans (if_neg (fun u => h2 ⟨by omega, by omega⟩))), up_at.trans (by rw [List.length_append]; simp), fun i hi => ?_⟩
  rw [List.length_append] at hi
  have hi2 : i < acc.length + 1 := hi
  by_cases c : i = acc.length
  · subst c
    rw [gN_at]
    exact ⟨(up_ne (by decide)).trans ((up_ne (by decide)).trans up_at), (up_ne (by decide)).trans up_at⟩
  · rw [gN_lo (by omega)]
    obtain ⟨g1, g2⟩ := hG.2 i (by omega)
    exact ⟨(up_ne (by decide)).trans ((up_ne (by decide)).trans ((up_nk (by omega)).trans g1)), (up_ne (by decide)).trans ((up_nk (by omega)).trans ((up_ne (by decide)).trans g2))⟩
set_option maxRecDepth 20000 in
theorem lp172c {d : Nat} {I σ : Nat → Int → Int} {P : Int → Nat} {dr : Nat} {Q : mQ} {ACC : List Nat} (hN : WFn σ) {p : Int} (p0 : 0 ≤ p) (p1 : p < 5) (hp : PlWF σ p) (h4 : pf σ p 4 = 3) {m1 m2 : Nat} {a afA bb afB : Int} (g1 : m1 < 4096) (g2 : m2 < 4096) (g3 : 0 < m2) (f0 : 0 ≤ afB) (f1 : afB ≤ 40) (kx : ∀ (J : Nat → Int → Int) (acc : List Nat) (l8 l9 : mV), acc = ACC → sig J = σ → FPl I J p → RG σ J p acc → wp (mcall MT CD (d + 5)) (CD 172) L0 Q 240 [vr 127, vi p, vi a, vi (m1 : Int), vi afA, vi bb, vi (m2 : Int), vi afB, l8, l9] [] (S0, J, RR P dr)) : ∀ (m i : Nat) (J : Nat → Int → Int) (acc : List Nat) (l9 : mV), (i : Int) + m = afB + ps σ p 2 5 + 1 → blL (gaF σ p 0 2 (m1 ||| m2)) m i acc = ACC → ACC.length ≤ 112 → sig J = σ → FPl I J p → RG σ J p acc → wp (mcall MT CD (d + 5)) (CD 172) L0 Q 178 [vr 127, vi p, vi a, vi (m1 : Int), vi afA, vi bb, vi (m2 : Int), vi afB, vi (i : Int), l9] [] (S0, J, RR P dr) := by
  have b0 := hN.1
  have h3 := hp.2.2.2.2.1
  have hk2 := (hp.st (j := 2) (by decide) (by omega)).2.1
  have hkk2 : kS σ p 2 ≤ 4 ∧ 1 ≤ kS σ p 2 := by show (ps σ p ((2 : Nat) : Int) 0).toNat ≤ 4 ∧ 1 ≤ (ps σ p ((2 : Nat) : Int) 0).toNat; exact ⟨by have : ps σ p ((2 : Nat) : Int) 0 = ps σ p 2 0 := rfl; omega, by have : ps σ p ((2 : Nat) : Int) 0 = ps σ p 2 0 := rfl; omega⟩
  have hw2 := (hp.st (j := 2) (by decide) (by omega)).2.2.2.2.2 (by decide)
  intro m
  induction m with
  | zero =>
    intro i J acc l9 hi hac hlen hs hF hG
    refine s_ild k172_178 rfl ?_
    refine s_ifeq k172_180 ⟨by omega, by omega⟩ (fun q => absurd q (by omega)) (fun h180 => ?_)
    refine s_ald k172_183 rfl ?_
    refine s_ild k172_184 rfl ?_
    refine z_inv1A k172_185 rfl (Nat.le_of_ble_eq_true rfl) (c166 hs p0 (by omega)) ?_
    refine z_push k172_188 ?_
    refine s_icle k172_189 ⟨by omega, by omega⟩ (inR_lit rfl) (fun q => absurd q (by omega)) (fun h189 => ?_)
    refine s_ild k172_192 rfl ?_
    refine s_ild k172_194 rfl ?_
    refine s_ald k172_196 rfl ?_
    refine s_ild k172_197 rfl ?_
    refine z_push k172_198 ?_
    refine z_push k172_199 ?_
    refine z_inv3A k172_200 rfl (Nat.le_of_ble_eq_true rfl) (c167 hs p0 (by omega) (by decide) (by decide) (by decide) (by decide)) ?_
    refine z_iadd k172_203 ?_
    refine s_icgt k172_204 ⟨by omega, by omega⟩ ⟨by omega, by omega⟩ (fun h204 => ?_) (fun q => absurd q (by omega))
    exact kx J acc _ _ hac hs hF hG
  | succ m ih =>
    intro i J acc l9 hi hac hlen hs hF hG
    rw [bl_s] at hac
    have hlen0 := Nat.le_trans (bl_len (σ := σ) (p := p) (r := 0) (j := 2) (mask := (m1 ||| m2)) m (i + 1) (gaF σ p 0 2 (m1 ||| m2) i acc)) (Nat.le_of_eq (congrArg List.length hac))
    by_cases hat : atS σ p 2 i
    · have he := (hat (kS σ p 2 - 1) (by omega)).1
      have hen : i + kS σ p 2 ≤ 12 := by omega
      have hs4 := st_4 hen
      have hsp := st_pos (b := i) hkk2.2
      have hgf : gaF σ p 0 2 (m1 ||| m2) i acc = acc ++ [(m1 ||| m2) ||| stN i (kS σ p 2)] := if_pos hat
      rw [hgf, List.length_append] at hlen0
      have hl1 : acc.length + 1 ≤ ACC.length := hlen0
      refine s_ild k172_178 rfl ?_
      refine s_ifeq k172_180 ⟨by omega, by omega⟩ (fun q => absurd q (by omega)) (fun h180 => ?_)
      refine s_ald k172_183 rfl ?_
      refine s_ild k172_184 rfl ?_
      refine z_inv1A k172_185 rfl (Nat.le_of_ble_eq_true rfl) (c166 hs p0 (by omega)) ?_
      refine z_push k172_188 ?_
      refine s_icle k172_189 ⟨by omega, by omega⟩ (inR_lit rfl) (fun q => absurd q (by omega)) (fun h189 => ?_)
      refine s_ild k172_192 rfl ?_
      refine s_ild k172_194 rfl ?_
      refine s_ald k172_196 rfl ?_
      refine s_ild k172_197 rfl ?_
      refine z_push k172_198 ?_
      refine z_push k172_199 ?_
      refine z_inv3A k172_200 rfl (Nat.le_of_ble_eq_true rfl) (c167 hs p0 (by omega) (by decide) (by decide) (by decide) (by decide)) ?_
      refine z_iadd k172_203 ?_
      refine s_icgt k172_204 ⟨by omega, by omega⟩ ⟨by omega, by omega⟩ (fun q => absurd q (by omega)) (fun h204 => ?_)
      refine s_ald k172_207 rfl ?_
      refine s_ild k172_208 rfl ?_
      refine z_push k172_209 ?_
      refine s_ild k172_210 rfl ?_
      refine z_inv3A k172_212 rfl (Nat.le_of_ble_eq_true rfl) (c170 (j := 2) (b := i) hs hN p0 p1 hp (by show (2 : Int) < _; omega) (by omega)) ?_
      refine z_eqi (b := ((stN i (kS σ p 2) : Nat) : Int)) (congrArg Nat.cast (if_pos hat)) ?_
      refine s_ist9 k172_215 rfl ?_
      refine s_ild k172_217 rfl ?_
      refine s_ifeq k172_219 ⟨by omega, by omega⟩ (fun q => absurd q (by omega)) (fun h219 => ?_)
      refine s_ald k172_222 rfl ?_
      refine s_ild k172_223 rfl ?_
      refine s_ild k172_224 rfl ?_
      refine s_ild k172_225 rfl ?_
      refine z_ior k172_227 ?_
      refine z_eqi (b := ((m1 ||| m2 : Nat) : Int)) (zor4 g1 g2).1 ?_
      refine s_ild k172_228 rfl ?_
      refine z_ior k172_230 ?_
      refine z_eqi (b := (((m1 ||| m2) ||| stN i (kS σ p 2) : Nat) : Int)) (zor4 (zor4 g1 g2).2 hs4).1 ?_
      refine z_inv2 k172_231 rfl (Nat.le_of_ble_eq_true rfl) (c171 (x := (m1 ||| m2) ||| stN i (kS σ p 2)) hs hN p0 p1 (zor4 (zor4 g1 g2).2 hs4).2 (by omega) hG) (fun o h1 hq => ?_)
      obtain ⟨rfl, J2, rfl, gF, hG2⟩ := hq
      have hs2 : sig J2 = σ := gF.sig.trans hs
      refine s_iinc8 k172_234 rfl ?_
      refine z_goto k172_237 ?_
      rw [hgf] at hac
      exact ih (i + 1) J2 _ _ (by omega) hac hlen hs2 (hF.tr gF) hG2
    · have hgf : gaF σ p 0 2 (m1 ||| m2) i acc = acc := if_neg hat
      refine s_ild k172_178 rfl ?_
      refine s_ifeq k172_180 ⟨by omega, by omega⟩ (fun q => absurd q (by omega)) (fun h180 => ?_)
      refine s_ald k172_183 rfl ?_
      refine s_ild k172_184 rfl ?_
      refine z_inv1A k172_185 rfl (Nat.le_of_ble_eq_true rfl) (c166 hs p0 (by omega)) ?_
      refine z_push k172_188 ?_
      refine s_icle k172_189 ⟨by omega, by omega⟩ (inR_lit rfl) (fun q => absurd q (by omega)) (fun h189 => ?_)
      refine s_ild k172_192 rfl ?_
      refine s_ild k172_194 rfl ?_
      refine s_ald k172_196 rfl ?_
      refine s_ild k172_197 rfl ?_
      refine z_push k172_198 ?_
      refine z_push k172_199 ?_
      refine z_inv3A k172_200 rfl (Nat.le_of_ble_eq_true rfl) (c167 hs p0 (by omega) (by decide) (by decide) (by decide) (by decide)) ?_
      refine z_iadd k172_203 ?_
      refine s_icgt k172_204 ⟨by omega, by omega⟩ ⟨by omega, by omega⟩ (fun q => absurd q (by omega)) (fun h204 => ?_)
      refine s_ald k172_207 rfl ?_
      refine s_ild k172_208 rfl ?_
      refine z_push k172_209 ?_
      refine s_ild k172_210 rfl ?_
      refine z_inv3A k172_212 rfl (Nat.le_of_ble_eq_true rfl) (c170 (j := 2) (b := i) hs hN p0 p1 hp (by show (2 : Int) < _; omega) (by omega)) ?_
      refine z_eqi (b := 0) (congrArg Nat.cast (if_neg hat)) ?_
      refine s_ist9 k172_215 rfl ?_
      refine s_ild k172_217 rfl ?_
      refine s_ifeq k172_219 (inR_lit rfl) (fun h219 => ?_) (fun q => absurd q (by omega))
      refine s_iinc8 k172_234 rfl ?_
      refine z_goto k172_237 ?_
      rw [hgf] at hac
      exact ih (i + 1) J acc _ (by omega) hac hlen hs hF hG
set_option maxRecDepth 20000 in
theorem lp172b2 {d : Nat} {I σ : Nat → Int → Int} {P : Int → Nat} {dr : Nat} {Q : mQ} {ACC : List Nat} (hN : WFn σ) {p : Int} (p0 : 0 ≤ p) (p1 : p < 5) (hp : PlWF σ p) (h4 : pf σ p 4 = 2) {m1 : Nat} {a afA : Int} (g1 : m1 < 4096) (g3 : 0 < m1) (f0 : 0 ≤ afA) (f1 : afA ≤ 20) (kx : ∀ (J : Nat → Int → Int) (acc : List Nat) (l5 l6 l7 l8 l9 : mV), acc = ACC → sig J = σ → FPl I J p → RG σ J p acc → wp (mcall MT CD (d + 5)) (CD 172) L0 Q 246 [vr 127, vi p, vi a, vi (m1 : Int), vi afA, l5, l6, l7, l8, l9] [] (S0, J, RR P dr)) : ∀ (m i : Nat) (J : Nat → Int → Int) (acc : List Nat) (l6 l7 l8 l9 : mV), (i : Int) + m = afA + ps σ p 1 5 + 1 → blL (gaF σ p 0 1 m1) m i acc = ACC → ACC.length ≤ 112 → sig J = σ → FPl I J p → RG σ J p acc → wp (mcall MT CD (d + 5)) (CD 172) L0 Q 80 [vr 127, vi p, vi a, vi (m1 : Int), vi afA, vi (i : Int), l6, l7, l8, l9] [] (S0, J, RR P dr) := by
  have b0 := hN.1
  have h3 := hp.2.2.2.2.1
  have hk1 := (hp.st (j := 1) (by decide) (by omega)).2.1
  have hkk1 : kS σ p 1 ≤ 4 ∧ 1 ≤ kS σ p 1 := by show (ps σ p ((1 : Nat) : Int) 0).toNat ≤ 4 ∧ 1 ≤ (ps σ p ((1 : Nat) : Int) 0).toNat; exact ⟨by have : ps σ p ((1 : Nat) : Int) 0 = ps σ p 1 0 := rfl; omega, by have : ps σ p ((1 : Nat) : Int) 0 = ps σ p 1 0 := rfl; omega⟩
  have hw1 := (hp.st (j := 1) (by decide) (by omega)).2.2.2.2.2 (by decide)
  intro m
  induction m with
  | zero =>
    intro i J acc l6 l7 l8 l9 hi hac hlen hs hF hG
    refine s_ild k172_80 rfl ?_
    refine s_ifeq k172_81 ⟨by omega, by omega⟩ (fun q => absurd q (by omega)) (fun h81 => ?_)
    refine s_ald k172_84 rfl ?_
    refine s_ild k172_85 rfl ?_
    refine z_inv1A k172_86 rfl (Nat.le_of_ble_eq_true rfl) (c166 hs p0 (by omega)) ?_
    refine z_push k172_89 ?_
    refine s_icle k172_90 ⟨by omega, by omega⟩ (inR_lit rfl) (fun q => absurd q (by omega)) (fun h90 => ?_)
    refine s_ild k172_93 rfl ?_
    refine s_ild k172_95 rfl ?_
    refine s_ald k172_97 rfl ?_
    refine s_ild k172_98 rfl ?_
    refine z_push k172_99 ?_
    refine z_push k172_100 ?_
    refine z_inv3A k172_101 rfl (Nat.le_of_ble_eq_true rfl) (c167 hs p0 (by omega) (by decide) (by decide) (by decide) (by decide)) ?_
    refine z_iadd k172_104 ?_
    refine s_icgt k172_105 ⟨by omega, by omega⟩ ⟨by omega, by omega⟩ (fun h105 => ?_) (fun q => absurd q (by omega))
    exact kx J acc _ _ _ _ _ hac hs hF hG
  | succ m ih =>
    intro i J acc l6 l7 l8 l9 hi hac hlen hs hF hG
    rw [bl_s] at hac
    have hlen0 := Nat.le_trans (bl_len (σ := σ) (p := p) (r := 0) (j := 1) (mask := m1) m (i + 1) (gaF σ p 0 1 m1 i acc)) (Nat.le_of_eq (congrArg List.length hac))
    by_cases hat : atS σ p 1 i
    · have he := (hat (kS σ p 1 - 1) (by omega)).1
      have hen : i + kS σ p 1 ≤ 12 := by omega
      have hs4 := st_4 hen
      have hsp := st_pos (b := i) hkk1.2
      have hgf : gaF σ p 0 1 m1 i acc = acc ++ [m1 ||| stN i (kS σ p 1)] := if_pos hat
      rw [hgf] at hac hlen0
      rw [List.length_append] at hlen0
      have hl1 : acc.length + 1 ≤ ACC.length := hlen0
      refine s_ild k172_80 rfl ?_
      refine s_ifeq k172_81 ⟨by omega, by omega⟩ (fun q => absurd q (by omega)) (fun h81 => ?_)
      refine s_ald k172_84 rfl ?_
      refine s_ild k172_85 rfl ?_
      refine z_inv1A k172_86 rfl (Nat.le_of_ble_eq_true rfl) (c166 hs p0 (by omega)) ?_
      refine z_push k172_89 ?_
      refine s_icle k172_90 ⟨by omega, by omega⟩ (inR_lit rfl) (fun q => absurd q (by omega)) (fun h90 => ?_)
      refine s_ild k172_93 rfl ?_
      refine s_ild k172_95 rfl ?_
      refine s_ald k172_97 rfl ?_
      refine s_ild k172_98 rfl ?_
      refine z_push k172_99 ?_
      refine z_push k172_100 ?_
      refine z_inv3A k172_101 rfl (Nat.le_of_ble_eq_true rfl) (c167 hs p0 (by omega) (by decide) (by decide) (by decide) (by decide)) ?_
      refine z_iadd k172_104 ?_
      refine s_icgt k172_105 ⟨by omega, by omega⟩ ⟨by omega, by omega⟩ (fun q => absurd q (by omega)) (fun h105 => ?_)
      refine s_ald k172_108 rfl ?_
      refine s_ild k172_109 rfl ?_
      refine z_push k172_110 ?_
      refine s_ild k172_111 rfl ?_
      refine z_inv3A k172_113 rfl (Nat.le_of_ble_eq_true rfl) (c170 (j := 1) (b := i) hs hN p0 p1 hp (by show (1 : Int) < _; omega) (by omega)) ?_
      refine z_eqi (b := ((stN i (kS σ p 1) : Nat) : Int)) (congrArg Nat.cast (if_pos hat)) ?_
      refine s_ist6 k172_116 rfl ?_
      refine s_ild k172_118 rfl ?_
      refine s_ifeq k172_120 ⟨by omega, by omega⟩ (fun q => absurd q (by omega)) (fun h120 => ?_)
      refine s_ald k172_123 rfl ?_
      refine s_ild k172_124 rfl ?_
      refine z_inv1A k172_125 rfl (Nat.le_of_ble_eq_true rfl) (c166 hs p0 (by omega)) ?_
      refine z_push k172_128 ?_
      refine s_icne k172_129 ⟨by omega, by omega⟩ (inR_lit rfl) (fun q => absurd q (by omega)) (fun h129 => ?_)
      refine s_ald k172_132 rfl ?_
      refine s_ild k172_133 rfl ?_
      refine s_ild k172_134 rfl ?_
      refine s_ild k172_135 rfl ?_
      refine z_ior k172_137 ?_
      refine z_eqi (b := ((m1 ||| stN i (kS σ p 1) : Nat) : Int)) (zor4 g1 hs4).1 ?_
      refine z_inv2 k172_138 rfl (Nat.le_of_ble_eq_true rfl) (c171 (x := m1 ||| stN i (kS σ p 1)) hs hN p0 p1 (zor4 g1 hs4).2 (by omega) hG) (fun o h1 hq => ?_)
      obtain ⟨rfl, J2, rfl, gF, hG2⟩ := hq
      have hs2 : sig J2 = σ := gF.sig.trans hs
      refine s_ild k172_141 rfl ?_
      refine s_ald k172_143 rfl ?_
      refine s_ild k172_144 rfl ?_
      refine z_push k172_145 ?_
      refine z_push k172_146 ?_
      refine z_inv3A k172_147 rfl (Nat.le_of_ble_eq_true rfl) (c167 hs2 p0 (by omega) (by decide) (by decide) (by decide) (by decide)) ?_
      refine z_iadd k172_150 ?_
      refine s_ist7 k172_151 rfl ?_
      refine s_ild k172_153 rfl ?_
      refine s_ald k172_155 rfl ?_
      refine s_ild k172_156 rfl ?_
      refine z_inv1A k172_157 rfl (Nat.le_of_ble_eq_true rfl) (c166 hs2 p0 (by omega)) ?_
      refine z_push k172_160 ?_
      refine s_icle k172_161 ⟨by omega, by omega⟩ (inR_lit rfl) (fun h161 => ?_) (fun q => absurd q (by omega))
      refine z_push k172_174 ?_
      refine z_iadd k172_175 ?_
      refine s_ist8 k172_176 rfl ?_
      refine s_ild k172_178 rfl ?_
      refine s_ifeq k172_180 ⟨by omega, by omega⟩ (fun q => absurd q (by omega)) (fun h180 => ?_)
      refine s_ald k172_183 rfl ?_
      refine s_ild k172_184 rfl ?_
      refine z_inv1A k172_185 rfl (Nat.le_of_ble_eq_true rfl) (c166 hs2 p0 (by omega)) ?_
      refine z_push k172_188 ?_
      refine s_icle k172_189 ⟨by omega, by omega⟩ (inR_lit rfl) (fun h189 => ?_) (fun q => absurd q (by omega))
      refine s_iinc5 k172_240 rfl ?_
      refine z_goto k172_243 ?_
      exact ih (i + 1) J2 _ _ _ _ _ (by omega) hac hlen hs2 (hF.tr gF) hG2
    · have hgf : gaF σ p 0 1 m1 i acc = acc := if_neg hat
      rw [hgf] at hac hlen0
      refine s_ild k172_80 rfl ?_
      refine s_ifeq k172_81 ⟨by omega, by omega⟩ (fun q => absurd q (by omega)) (fun h81 => ?_)
      refine s_ald k172_84 rfl ?_
      refine s_ild k172_85 rfl ?_
      refine z_inv1A k172_86 rfl (Nat.le_of_ble_eq_true rfl) (c166 hs p0 (by omega)) ?_
      refine z_push k172_89 ?_
      refine s_icle k172_90 ⟨by omega, by omega⟩ (inR_lit rfl) (fun q => absurd q (by omega)) (fun h90 => ?_)
      refine s_ild k172_93 rfl ?_
      refine s_ild k172_95 rfl ?_
      refine s_ald k172_97 rfl ?_
      refine s_ild k172_98 rfl ?_
      refine z_push k172_99 ?_
      refine z_push k172_100 ?_
      refine z_inv3A k172_101 rfl (Nat.le_of_ble_eq_true rfl) (c167 hs p0 (by omega) (by decide) (by decide) (by decide) (by decide)) ?_
      refine z_iadd k172_104 ?_
      refine s_icgt k172_105 ⟨by omega, by omega⟩ ⟨by omega, by omega⟩ (fun q => absurd q (by omega)) (fun h105 => ?_)
      refine s_ald k172_108 rfl ?_
      refine s_ild k172_109 rfl ?_
      refine z_push k172_110 ?_
      refine s_ild k172_111 rfl ?_
      refine z_inv3A k172_113 rfl (Nat.le_of_ble_eq_true rfl) (c170 (j := 1) (b := i) hs hN p0 p1 hp (by show (1 : Int) < _; omega) (by omega)) ?_
      refine z_eqi (b := 0) (congrArg Nat.cast (if_neg hat)) ?_
      refine s_ist6 k172_116 rfl ?_
      refine s_ild k172_118 rfl ?_
      refine s_ifeq k172_120 (inR_lit rfl) (fun h120 => ?_) (fun q => absurd q (by omega))
      refine s_ild k172_141 rfl ?_
      refine s_ald k172_143 rfl ?_
      refine s_ild k172_144 rfl ?_
      refine z_push k172_145 ?_
      refine z_push k172_146 ?_
      refine z_inv3A k172_147 rfl (Nat.le_of_ble_eq_true rfl) (c167 hs p0 (by omega) (by decide) (by decide) (by decide) (by decide)) ?_
      refine z_iadd k172_150 ?_
      refine s_ist7 k172_151 rfl ?_
      refine s_ild k172_153 rfl ?_
      refine s_ald k172_155 rfl ?_
      refine s_ild k172_156 rfl ?_
      refine z_inv1A k172_157 rfl (Nat.le_of_ble_eq_true rfl) (c166 hs p0 (by omega)) ?_
      refine z_push k172_160 ?_
      refine s_icle k172_161 ⟨by omega, by omega⟩ (inR_lit rfl) (fun h161 => ?_) (fun q => absurd q (by omega))
      refine z_push k172_174 ?_
      refine z_iadd k172_175 ?_
      refine s_ist8 k172_176 rfl ?_
      refine s_ild k172_178 rfl ?_
      refine s_ifeq k172_180 (inR_lit rfl) (fun h180 => ?_) (fun q => absurd q (by omega))
      refine s_iinc5 k172_240 rfl ?_
      refine z_goto k172_243 ?_
      exact ih (i + 1) J acc _ _ _ _ (by omega) hac hlen hs hF hG
set_option maxRecDepth 20000 in
theorem lp172b3 {d : Nat} {I σ : Nat → Int → Int} {P : Int → Nat} {dr : Nat} {Q : mQ} {ACC : List Nat} (hN : WFn σ) {p : Int} (p0 : 0 ≤ p) (p1 : p < 5) (hp : PlWF σ p) (h4 : pf σ p 4 = 3) {m1 : Nat} {a afA : Int} (g1 : m1 < 4096) (g3 : 0 < m1) (f0 : 0 ≤ afA) (f1 : afA ≤ 20) (kx : ∀ (J : Nat → Int → Int) (acc : List Nat) (l5 l6 l7 l8 l9 : mV), acc = ACC → sig J = σ → FPl I J p → RG σ J p acc → wp (mcall MT CD (d + 5)) (CD 172) L0 Q 246 [vr 127, vi p, vi a, vi (m1 : Int), vi afA, l5, l6, l7, l8, l9] [] (S0, J, RR P dr)) : ∀ (m i : Nat) (J : Nat → Int → Int) (acc : List Nat) (l6 l7 l8 l9 : mV), (i : Int) + m = afA + ps σ p 1 5 + 1 → blL (gaF σ p 1 1 m1) m i acc = ACC → ACC.length ≤ 112 → sig J = σ → FPl I J p → RG σ J p acc → wp (mcall MT CD (d + 5)) (CD 172) L0 Q 80 [vr 127, vi p, vi a, vi (m1 : Int), vi afA, vi (i : Int), l6, l7, l8, l9] [] (S0, J, RR P dr) := by
  have b0 := hN.1
  have h3 := hp.2.2.2.2.1
  have hk1 := (hp.st (j := 1) (by decide) (by omega)).2.1
  have hkk1 : kS σ p 1 ≤ 4 ∧ 1 ≤ kS σ p 1 := by show (ps σ p ((1 : Nat) : Int) 0).toNat ≤ 4 ∧ 1 ≤ (ps σ p ((1 : Nat) : Int) 0).toNat; exact ⟨by have : ps σ p ((1 : Nat) : Int) 0 = ps σ p 1 0 := rfl; omega, by have : ps σ p ((1 : Nat) : Int) 0 = ps σ p 1 0 := rfl; omega⟩
  have hw1 := (hp.st (j := 1) (by decide) (by omega)).2.2.2.2.2 (by decide)
  have hw2 := (hp.st (j := 2) (by decide) (by omega)).2.2.2.2.2 (by decide)
  intro m
  induction m with
  | zero =>
    intro i J acc l6 l7 l8 l9 hi hac hlen hs hF hG
    refine s_ild k172_80 rfl ?_
    refine s_ifeq k172_81 ⟨by omega, by omega⟩ (fun q => absurd q (by omega)) (fun h81 => ?_)
    refine s_ald k172_84 rfl ?_
    refine s_ild k172_85 rfl ?_
    refine z_inv1A k172_86 rfl (Nat.le_of_ble_eq_true rfl) (c166 hs p0 (by omega)) ?_
    refine z_push k172_89 ?_
    refine s_icle k172_90 ⟨by omega, by omega⟩ (inR_lit rfl) (fun q => absurd q (by omega)) (fun h90 => ?_)
    refine s_ild k172_93 rfl ?_
    refine s_ild k172_95 rfl ?_
    refine s_ald k172_97 rfl ?_
    refine s_ild k172_98 rfl ?_
    refine z_push k172_99 ?_
    refine z_push k172_100 ?_
    refine z_inv3A k172_101 rfl (Nat.le_of_ble_eq_true rfl) (c167 hs p0 (by omega) (by decide) (by decide) (by decide) (by decide)) ?_
    refine z_iadd k172_104 ?_
    refine s_icgt k172_105 ⟨by omega, by omega⟩ ⟨by omega, by omega⟩ (fun h105 => ?_) (fun q => absurd q (by omega))
    exact kx J acc _ _ _ _ _ hac hs hF hG
  | succ m ih =>
    intro i J acc l6 l7 l8 l9 hi hac hlen hs hF hG
    rw [bl_s] at hac
    have hlen0 := Nat.le_trans (bl_len (σ := σ) (p := p) (r := 1) (j := 1) (mask := m1) m (i + 1) (gaF σ p 1 1 m1 i acc)) (Nat.le_of_eq (congrArg List.length hac))
    by_cases hat : atS σ p 1 i
    · have he := (hat (kS σ p 1 - 1) (by omega)).1
      have hen : i + kS σ p 1 ≤ 12 := by omega
      have hs4 := st_4 hen
      have hsp := st_pos (b := i) hkk1.2
      have hgf : gaF σ p 1 1 m1 i acc = blL (gaF σ p 0 2 (m1 ||| stN i (kS σ p 1))) (wdP σ p 2) (i + kS σ p 1 + loP σ p 2) acc := if_pos hat
      rw [hgf] at hac hlen0
      have hkq : ps σ p 1 0 = ((kS σ p 1 : Nat) : Int) := by show ps σ p 1 0 = ((ps σ p ((1 : Nat) : Int) 0).toNat : Int); have : ps σ p ((1 : Nat) : Int) 0 = ps σ p 1 0 := rfl; omega
      have hlq : ps σ p 2 4 = ((loP σ p 2 : Nat) : Int) := by show ps σ p 2 4 = ((ps σ p ((2 : Nat) : Int) 4).toNat : Int); have : ps σ p ((2 : Nat) : Int) 4 = ps σ p 2 4 := rfl; omega
      have hwq : ps σ p 2 5 = ps σ p 2 4 + ((wdP σ p 2 : Nat) : Int) - 1 := by show ps σ p 2 5 = ps σ p 2 4 + (((ps σ p ((2 : Nat) : Int) 5 - ps σ p ((2 : Nat) : Int) 4).toNat + 1 : Nat) : Int) - 1; have e1 : ps σ p ((2 : Nat) : Int) 4 = ps σ p 2 4 := rfl; have e2 : ps σ p ((2 : Nat) : Int) 5 = ps σ p 2 5 := rfl; omega
      refine s_ild k172_80 rfl ?_
      refine s_ifeq k172_81 ⟨by omega, by omega⟩ (fun q => absurd q (by omega)) (fun h81 => ?_)
      refine s_ald k172_84 rfl ?_
      refine s_ild k172_85 rfl ?_
      refine z_inv1A k172_86 rfl (Nat.le_of_ble_eq_true rfl) (c166 hs p0 (by omega)) ?_
      refine z_push k172_89 ?_
      refine s_icle k172_90 ⟨by omega, by omega⟩ (inR_lit rfl) (fun q => absurd q (by omega)) (fun h90 => ?_)
      refine s_ild k172_93 rfl ?_
      refine s_ild k172_95 rfl ?_
      refine s_ald k172_97 rfl ?_
      refine s_ild k172_98 rfl ?_
      refine z_push k172_99 ?_
      refine z_push k172_100 ?_
      refine z_inv3A k172_101 rfl (Nat.le_of_ble_eq_true rfl) (c167 hs p0 (by omega) (by decide) (by decide) (by decide) (by decide)) ?_
      refine z_iadd k172_104 ?_
      refine s_icgt k172_105 ⟨by omega, by omega⟩ ⟨by omega, by omega⟩ (fun q => absurd q (by omega)) (fun h105 => ?_)
      refine s_ald k172_108 rfl ?_
      refine s_ild k172_109 rfl ?_
      refine z_push k172_110 ?_
      refine s_ild k172_111 rfl ?_
      refine z_inv3A k172_113 rfl (Nat.le_of_ble_eq_true rfl) (c170 (j := 1) (b := i) hs hN p0 p1 hp (by show (1 : Int) < _; omega) (by omega)) ?_
      refine z_eqi (b := ((stN i (kS σ p 1) : Nat) : Int)) (congrArg Nat.cast (if_pos hat)) ?_
      refine s_ist6 k172_116 rfl ?_
      refine s_ild k172_118 rfl ?_
      refine s_ifeq k172_120 ⟨by omega, by omega⟩ (fun q => absurd q (by omega)) (fun h120 => ?_)
      refine s_ald k172_123 rfl ?_
      refine s_ild k172_124 rfl ?_
      refine z_inv1A k172_125 rfl (Nat.le_of_ble_eq_true rfl) (c166 hs p0 (by omega)) ?_
      refine z_push k172_128 ?_
      refine s_icne k172_129 ⟨by omega, by omega⟩ (inR_lit rfl) (fun h129 => ?_) (fun q => absurd q (by omega))
      refine s_ild k172_141 rfl ?_
      refine s_ald k172_143 rfl ?_
      refine s_ild k172_144 rfl ?_
      refine z_push k172_145 ?_
      refine z_push k172_146 ?_
      refine z_inv3A k172_147 rfl (Nat.le_of_ble_eq_true rfl) (c167 hs p0 (by omega) (by decide) (by decide) (by decide) (by decide)) ?_
      refine z_iadd k172_150 ?_
      refine s_ist7 k172_151 rfl ?_
      refine s_ild k172_153 rfl ?_
      refine s_ald k172_155 rfl ?_
      refine s_ild k172_156 rfl ?_
      refine z_inv1A k172_157 rfl (Nat.le_of_ble_eq_true rfl) (c166 hs p0 (by omega)) ?_
      refine z_push k172_160 ?_
      refine s_icle k172_161 ⟨by omega, by omega⟩ (inR_lit rfl) (fun q => absurd q (by omega)) (fun h161 => ?_)
      refine s_ald k172_164 rfl ?_
      refine s_ild k172_165 rfl ?_
      refine z_push k172_166 ?_
      refine z_push k172_167 ?_
      refine z_inv3A k172_168 rfl (Nat.le_of_ble_eq_true rfl) (c167 hs p0 (by omega) (by decide) (by decide) (by decide) (by decide)) ?_
      refine z_goto k172_171 ?_
      refine z_iadd k172_175 ?_
      refine s_ist8 k172_176 rfl ?_
      rw [show (i : Int) + ps σ p 1 0 + ps σ p 2 4 = ((i + kS σ p 1 + loP σ p 2 : Nat) : Int) by omega]
      refine lp172c hN p0 p1 hp h4 (ACC := blL (gaF σ p 0 2 (m1 ||| stN i (kS σ p 1))) (wdP σ p 2) (i + kS σ p 1 + loP σ p 2) acc) g1 hs4 hsp (by omega) (by omega) (fun J2 acc2 l8 l9 e2 hs2 hF2 hG2 => ?_) (wdP σ p 2) (i + kS σ p 1 + loP σ p 2) J acc _ (by omega) rfl (by omega) hs hF hG
      subst e2
      refine s_iinc5 k172_240 rfl ?_
      refine z_goto k172_243 ?_
      exact ih (i + 1) J2 _ _ _ _ _ (by omega) hac hlen hs2 hF2 hG2
    · have hgf : gaF σ p 1 1 m1 i acc = acc := if_neg hat
      rw [hgf] at hac hlen0
      refine s_ild k172_80 rfl ?_
      refine s_ifeq k172_81 ⟨by omega, by omega⟩ (fun q => absurd q (by omega)) (fun h81 => ?_)
      refine s_ald k172_84 rfl ?_
      refine s_ild k172_85 rfl ?_
      refine z_inv1A k172_86 rfl (Nat.le_of_ble_eq_true rfl) (c166 hs p0 (by omega)) ?_
      refine z_push k172_89 ?_
      refine s_icle k172_90 ⟨by omega, by omega⟩ (inR_lit rfl) (fun q => absurd q (by omega)) (fun h90 => ?_)
      refine s_ild k172_93 rfl ?_
      refine s_ild k172_95 rfl ?_
      refine s_ald k172_97 rfl ?_
      refine s_ild k172_98 rfl ?_
      refine z_push k172_99 ?_
      refine z_push k172_100 ?_
      refine z_inv3A k172_101 rfl (Nat.le_of_ble_eq_true rfl) (c167 hs p0 (by omega) (by decide) (by decide) (by decide) (by decide)) ?_
      refine z_iadd k172_104 ?_
      refine s_icgt k172_105 ⟨by omega, by omega⟩ ⟨by omega, by omega⟩ (fun q => absurd q (by omega)) (fun h105 => ?_)
      refine s_ald k172_108 rfl ?_
      refine s_ild k172_109 rfl ?_
      refine z_push k172_110 ?_
      refine s_ild k172_111 rfl ?_
      refine z_inv3A k172_113 rfl (Nat.le_of_ble_eq_true rfl) (c170 (j := 1) (b := i) hs hN p0 p1 hp (by show (1 : Int) < _; omega) (by omega)) ?_
      refine z_eqi (b := 0) (congrArg Nat.cast (if_neg hat)) ?_
      refine s_ist6 k172_116 rfl ?_
      refine s_ild k172_118 rfl ?_
      refine s_ifeq k172_120 (inR_lit rfl) (fun h120 => ?_) (fun q => absurd q (by omega))
      refine s_ild k172_141 rfl ?_
      refine s_ald k172_143 rfl ?_
      refine s_ild k172_144 rfl ?_
      refine z_push k172_145 ?_
      refine z_push k172_146 ?_
      refine z_inv3A k172_147 rfl (Nat.le_of_ble_eq_true rfl) (c167 hs p0 (by omega) (by decide) (by decide) (by decide) (by decide)) ?_
      refine z_iadd k172_150 ?_
      refine s_ist7 k172_151 rfl ?_
      refine s_ild k172_153 rfl ?_
      refine s_ald k172_155 rfl ?_
      refine s_ild k172_156 rfl ?_
      refine z_inv1A k172_157 rfl (Nat.le_of_ble_eq_true rfl) (c166 hs p0 (by omega)) ?_
      refine z_push k172_160 ?_
      refine s_icle k172_161 ⟨by omega, by omega⟩ (inR_lit rfl) (fun q => absurd q (by omega)) (fun h161 => ?_)
      refine s_ald k172_164 rfl ?_
      refine s_ild k172_165 rfl ?_
      refine z_push k172_166 ?_
      refine z_push k172_167 ?_
      refine z_inv3A k172_168 rfl (Nat.le_of_ble_eq_true rfl) (c167 hs p0 (by omega) (by decide) (by decide) (by decide) (by decide)) ?_
      refine z_goto k172_171 ?_
      refine z_iadd k172_175 ?_
      refine s_ist8 k172_176 rfl ?_
      refine s_ild k172_178 rfl ?_
      refine s_ifeq k172_180 (inR_lit rfl) (fun h180 => ?_) (fun q => absurd q (by omega))
      refine s_iinc5 k172_240 rfl ?_
      refine z_goto k172_243 ?_
      exact ih (i + 1) J acc _ _ _ _ (by omega) hac hlen hs hF hG
set_option maxRecDepth 20000 in
theorem lp172a1 {d : Nat} {I σ : Nat → Int → Int} {P : Int → Nat} {dr : Nat} {Q : mQ} {ACC : List Nat} (hN : WFn σ) {p : Int} (p0 : 0 ≤ p) (p1 : p < 5) (hp : PlWF σ p) (h4 : pf σ p 4 = 1) (kx : ∀ (J : Nat → Int → Int) (acc : List Nat) (l2 l3 l4 l5 l6 l7 l8 l9 : mV), acc = ACC → sig J = σ → FPl I J p → RG σ J p acc → wp (mcall MT CD (d + 5)) (CD 172) L0 Q 252 [vr 127, vi p, l2, l3, l4, l5, l6, l7, l8, l9] [] (S0, J, RR P dr)) : ∀ (m i : Nat) (J : Nat → Int → Int) (acc : List Nat) (l3 l4 l5 l6 l7 l8 l9 : mV), (i : Int) + m = σ 127 0 → blL (gaF σ p 0 0 0) m i acc = ACC → ACC.length ≤ 112 → sig J = σ → FPl I J p → RG σ J p acc → wp (mcall MT CD (d + 5)) (CD 172) L0 Q 9 [vr 127, vi p, vi (i : Int), l3, l4, l5, l6, l7, l8, l9] [] (S0, J, RR P dr) := by
  have b0 := hN.1
  have h3 := hp.2.2.2.2.1
  have hk0 := (hp.st (j := 0) (by decide) (by omega)).2.1
  have hkk0 : kS σ p 0 ≤ 4 ∧ 1 ≤ kS σ p 0 := by show (ps σ p ((0 : Nat) : Int) 0).toNat ≤ 4 ∧ 1 ≤ (ps σ p ((0 : Nat) : Int) 0).toNat; exact ⟨by have : ps σ p ((0 : Nat) : Int) 0 = ps σ p 0 0 := rfl; omega, by have : ps σ p ((0 : Nat) : Int) 0 = ps σ p 0 0 := rfl; omega⟩
  intro m
  induction m with
  | zero =>
    intro i J acc l3 l4 l5 l6 l7 l8 l9 hi hac hlen hs hF hG
    refine s_ild k172_9 rfl ?_
    refine s_ald k172_10 rfl ?_
    refine z_getIe (z := σ 127 0) k172_11 rfl (st_s hs rfl) ?_
    refine s_icge k172_14 ⟨by omega, by omega⟩ ⟨by omega, by omega⟩ (fun h14 => ?_) (fun q => absurd q (by omega))
    exact kx J acc _ _ _ _ _ _ _ _ hac hs hF hG
  | succ m ih =>
    intro i J acc l3 l4 l5 l6 l7 l8 l9 hi hac hlen hs hF hG
    rw [bl_s] at hac
    have hlen0 := Nat.le_trans (bl_len (σ := σ) (p := p) (r := 0) (j := 0) (mask := 0) m (i + 1) (gaF σ p 0 0 0 i acc)) (Nat.le_of_eq (congrArg List.length hac))
    by_cases hat : atS σ p 0 i
    · have he := (hat (kS σ p 0 - 1) (by omega)).1
      have hen : i + kS σ p 0 ≤ 12 := by omega
      have hs4 := st_4 hen
      have hsp := st_pos (b := i) hkk0.2
      have hgf : gaF σ p 0 0 0 i acc = acc ++ [stN i (kS σ p 0)] := by
        refine (if_pos hat).trans ?_
        rw [Nat.zero_or]
        rfl
      rw [hgf] at hac hlen0
      rw [List.length_append] at hlen0
      have hl1 : acc.length + 1 ≤ ACC.length := hlen0
      refine s_ild k172_9 rfl ?_
      refine s_ald k172_10 rfl ?_
      refine z_getIe (z := σ 127 0) k172_11 rfl (st_s hs rfl) ?_
      refine s_icge k172_14 ⟨by omega, by omega⟩ ⟨by omega, by omega⟩ (fun q => absurd q (by omega)) (fun h14 => ?_)
      refine s_ald k172_17 rfl ?_
      refine s_ild k172_18 rfl ?_
      refine z_push k172_19 ?_
      refine s_ild k172_20 rfl ?_
      refine z_inv3A k172_21 rfl (Nat.le_of_ble_eq_true rfl) (c170 (j := 0) (b := i) hs hN p0 p1 hp (by show (0 : Int) < _; omega) (by omega)) ?_
      refine z_eqi (b := ((stN i (kS σ p 0) : Nat) : Int)) (congrArg Nat.cast (if_pos hat)) ?_
      refine s_ist3 k172_24 rfl ?_
      refine s_ild k172_25 rfl ?_
      refine s_ifeq k172_26 ⟨by omega, by omega⟩ (fun q => absurd q (by omega)) (fun h26 => ?_)
      refine s_ald k172_29 rfl ?_
      refine s_ild k172_30 rfl ?_
      refine z_inv1A k172_31 rfl (Nat.le_of_ble_eq_true rfl) (c166 hs p0 (by omega)) ?_
      refine z_push k172_34 ?_
      refine s_icne k172_35 ⟨by omega, by omega⟩ (inR_lit rfl) (fun q => absurd q (by omega)) (fun h35 => ?_)
      refine s_ald k172_38 rfl ?_
      refine s_ild k172_39 rfl ?_
      refine s_ild k172_40 rfl ?_
      refine z_inv2 k172_41 rfl (Nat.le_of_ble_eq_true rfl) (c171 (x := stN i (kS σ p 0)) hs hN p0 p1 hs4 (by omega) hG) (fun o h1 hq => ?_)
      obtain ⟨rfl, J2, rfl, gF, hG2⟩ := hq
      have hs2 : sig J2 = σ := gF.sig.trans hs
      refine s_ild k172_44 rfl ?_
      refine s_ald k172_45 rfl ?_
      refine s_ild k172_46 rfl ?_
      refine z_push k172_47 ?_
      refine z_push k172_48 ?_
      refine z_inv3A k172_49 rfl (Nat.le_of_ble_eq_true rfl) (c167 hs2 p0 (by omega) (by decide) (by decide) (by decide) (by decide)) ?_
      refine z_iadd k172_52 ?_
      refine s_ist4 k172_53 rfl ?_
      refine s_ild k172_55 rfl ?_
      refine s_ald k172_57 rfl ?_
      refine s_ild k172_58 rfl ?_
      refine z_inv1A k172_59 rfl (Nat.le_of_ble_eq_true rfl) (c166 hs2 p0 (by omega)) ?_
      refine z_push k172_62 ?_
      refine s_icle k172_63 ⟨by omega, by omega⟩ (inR_lit rfl) (fun h63 => ?_) (fun q => absurd q (by omega))
      refine z_push k172_76 ?_
      refine z_iadd k172_77 ?_
      refine s_ist5 k172_78 rfl ?_
      refine s_ild k172_80 rfl ?_
      refine s_ifeq k172_81 ⟨by omega, by omega⟩ (fun q => absurd q (by omega)) (fun h81 => ?_)
      refine s_ald k172_84 rfl ?_
      refine s_ild k172_85 rfl ?_
      refine z_inv1A k172_86 rfl (Nat.le_of_ble_eq_true rfl) (c166 hs2 p0 (by omega)) ?_
      refine z_push k172_89 ?_
      refine s_icle k172_90 ⟨by omega, by omega⟩ (inR_lit rfl) (fun h90 => ?_) (fun q => absurd q (by omega))
      refine s_iinc2 k172_246 rfl ?_
      refine z_goto k172_249 ?_
      exact ih (i + 1) J2 _ _ _ _ _ _ _ _ (by omega) hac hlen hs2 (hF.tr gF) hG2
    · have hgf : gaF σ p 0 0 0 i acc = acc := if_neg hat
      rw [hgf] at hac hlen0
      refine s_ild k172_9 rfl ?_
      refine s_ald k172_10 rfl ?_
      refine z_getIe (z := σ 127 0) k172_11 rfl (st_s hs rfl) ?_
      refine s_icge k172_14 ⟨by omega, by omega⟩ ⟨by omega, by omega⟩ (fun q => absurd q (by omega)) (fun h14 => ?_)
      refine s_ald k172_17 rfl ?_
      refine s_ild k172_18 rfl ?_
      refine z_push k172_19 ?_
      refine s_ild k172_20 rfl ?_
      refine z_inv3A k172_21 rfl (Nat.le_of_ble_eq_true rfl) (c170 (j := 0) (b := i) hs hN p0 p1 hp (by show (0 : Int) < _; omega) (by omega)) ?_
      refine z_eqi (b := 0) (congrArg Nat.cast (if_neg hat)) ?_
      refine s_ist3 k172_24 rfl ?_
      refine s_ild k172_25 rfl ?_
      refine s_ifeq k172_26 (inR_lit rfl) (fun h26 => ?_) (fun q => absurd q (by omega))
      refine s_ild k172_44 rfl ?_
      refine s_ald k172_45 rfl ?_
      refine s_ild k172_46 rfl ?_
      refine z_push k172_47 ?_
      refine z_push k172_48 ?_
      refine z_inv3A k172_49 rfl (Nat.le_of_ble_eq_true rfl) (c167 hs p0 (by omega) (by decide) (by decide) (by decide) (by decide)) ?_
      refine z_iadd k172_52 ?_
      refine s_ist4 k172_53 rfl ?_
      refine s_ild k172_55 rfl ?_
      refine s_ald k172_57 rfl ?_
      refine s_ild k172_58 rfl ?_
      refine z_inv1A k172_59 rfl (Nat.le_of_ble_eq_true rfl) (c166 hs p0 (by omega)) ?_
      refine z_push k172_62 ?_
      refine s_icle k172_63 ⟨by omega, by omega⟩ (inR_lit rfl) (fun h63 => ?_) (fun q => absurd q (by omega))
      refine z_push k172_76 ?_
      refine z_iadd k172_77 ?_
      refine s_ist5 k172_78 rfl ?_
      refine s_ild k172_80 rfl ?_
      refine s_ifeq k172_81 (inR_lit rfl) (fun h81 => ?_) (fun q => absurd q (by omega))
      refine s_iinc2 k172_246 rfl ?_
      refine z_goto k172_249 ?_
      exact ih (i + 1) J acc _ _ _ _ _ _ _ (by omega) hac hlen hs hF hG
set_option maxRecDepth 20000 in
theorem lp172a2 {d : Nat} {I σ : Nat → Int → Int} {P : Int → Nat} {dr : Nat} {Q : mQ} {ACC : List Nat} (hN : WFn σ) {p : Int} (p0 : 0 ≤ p) (p1 : p < 5) (hp : PlWF σ p) (h4 : pf σ p 4 = 2) (kx : ∀ (J : Nat → Int → Int) (acc : List Nat) (l2 l3 l4 l5 l6 l7 l8 l9 : mV), acc = ACC → sig J = σ → FPl I J p → RG σ J p acc → wp (mcall MT CD (d + 5)) (CD 172) L0 Q 252 [vr 127, vi p, l2, l3, l4, l5, l6, l7, l8, l9] [] (S0, J, RR P dr)) : ∀ (m i : Nat) (J : Nat → Int → Int) (acc : List Nat) (l3 l4 l5 l6 l7 l8 l9 : mV), (i : Int) + m = σ 127 0 → blL (gaF σ p 1 0 0) m i acc = ACC → ACC.length ≤ 112 → sig J = σ → FPl I J p → RG σ J p acc → wp (mcall MT CD (d + 5)) (CD 172) L0 Q 9 [vr 127, vi p, vi (i : Int), l3, l4, l5, l6, l7, l8, l9] [] (S0, J, RR P dr) := by
  have b0 := hN.1
  have h3 := hp.2.2.2.2.1
  have hk0 := (hp.st (j := 0) (by decide) (by omega)).2.1
  have hkk0 : kS σ p 0 ≤ 4 ∧ 1 ≤ kS σ p 0 := by show (ps σ p ((0 : Nat) : Int) 0).toNat ≤ 4 ∧ 1 ≤ (ps σ p ((0 : Nat) : Int) 0).toNat; exact ⟨by have : ps σ p ((0 : Nat) : Int) 0 = ps σ p 0 0 := rfl; omega, by have : ps σ p ((0 : Nat) : Int) 0 = ps σ p 0 0 := rfl; omega⟩
  have hw1 := (hp.st (j := 1) (by decide) (by omega)).2.2.2.2.2 (by decide)
  intro m
  induction m with
  | zero =>
    intro i J acc l3 l4 l5 l6 l7 l8 l9 hi hac hlen hs hF hG
    refine s_ild k172_9 rfl ?_
    refine s_ald k172_10 rfl ?_
    refine z_getIe (z := σ 127 0) k172_11 rfl (st_s hs rfl) ?_
    refine s_icge k172_14 ⟨by omega, by omega⟩ ⟨by omega, by omega⟩ (fun h14 => ?_) (fun q => absurd q (by omega))
    exact kx J acc _ _ _ _ _ _ _ _ hac hs hF hG
  | succ m ih =>
    intro i J acc l3 l4 l5 l6 l7 l8 l9 hi hac hlen hs hF hG
    rw [bl_s] at hac
    have hlen0 := Nat.le_trans (bl_len (σ := σ) (p := p) (r := 1) (j := 0) (mask := 0) m (i + 1) (gaF σ p 1 0 0 i acc)) (Nat.le_of_eq (congrArg List.length hac))
    by_cases hat : atS σ p 0 i
    · have he := (hat (kS σ p 0 - 1) (by omega)).1
      have hen : i + kS σ p 0 ≤ 12 := by omega
      have hs4 := st_4 hen
      have hsp := st_pos (b := i) hkk0.2
      have hgf : gaF σ p 1 0 0 i acc = blL (gaF σ p 0 1 (stN i (kS σ p 0))) (wdP σ p 1) (i + kS σ p 0 + loP σ p 1) acc := by
        refine (if_pos hat).trans ?_
        rw [Nat.zero_or]
        rfl
      rw [hgf] at hac hlen0
      have hkq : ps σ p 0 0 = ((kS σ p 0 : Nat) : Int) := by show ps σ p 0 0 = ((ps σ p ((0 : Nat) : Int) 0).toNat : Int); have : ps σ p ((0 : Nat) : Int) 0 = ps σ p 0 0 := rfl; omega
      have hlq : ps σ p 1 4 = ((loP σ p 1 : Nat) : Int) := by show ps σ p 1 4 = ((ps σ p ((1 : Nat) : Int) 4).toNat : Int); have : ps σ p ((1 : Nat) : Int) 4 = ps σ p 1 4 := rfl; omega
      have hwq : ps σ p 1 5 = ps σ p 1 4 + ((wdP σ p 1 : Nat) : Int) - 1 := by show ps σ p 1 5 = ps σ p 1 4 + (((ps σ p ((1 : Nat) : Int) 5 - ps σ p ((1 : Nat) : Int) 4).toNat + 1 : Nat) : Int) - 1; have e1 : ps σ p ((1 : Nat) : Int) 4 = ps σ p 1 4 := rfl; have e2 : ps σ p ((1 : Nat) : Int) 5 = ps σ p 1 5 := rfl; omega
      refine s_ild k172_9 rfl ?_
      refine s_ald k172_10 rfl ?_
      refine z_getIe (z := σ 127 0) k172_11 rfl (st_s hs rfl) ?_
      refine s_icge k172_14 ⟨by omega, by omega⟩ ⟨by omega, by omega⟩ (fun q => absurd q (by omega)) (fun h14 => ?_)
      refine s_ald k172_17 rfl ?_
      refine s_ild k172_18 rfl ?_
      refine z_push k172_19 ?_
      refine s_ild k172_20 rfl ?_
      refine z_inv3A k172_21 rfl (Nat.le_of_ble_eq_true rfl) (c170 (j := 0) (b := i) hs hN p0 p1 hp (by show (0 : Int) < _; omega) (by omega)) ?_
      refine z_eqi (b := ((stN i (kS σ p 0) : Nat) : Int)) (congrArg Nat.cast (if_pos hat)) ?_
      refine s_ist3 k172_24 rfl ?_
      refine s_ild k172_25 rfl ?_
      refine s_ifeq k172_26 ⟨by omega, by omega⟩ (fun q => absurd q (by omega)) (fun h26 => ?_)
      refine s_ald k172_29 rfl ?_
      refine s_ild k172_30 rfl ?_
      refine z_inv1A k172_31 rfl (Nat.le_of_ble_eq_true rfl) (c166 hs p0 (by omega)) ?_
      refine z_push k172_34 ?_
      refine s_icne k172_35 ⟨by omega, by omega⟩ (inR_lit rfl) (fun h35 => ?_) (fun q => absurd q (by omega))
      refine s_ild k172_44 rfl ?_
      refine s_ald k172_45 rfl ?_
      refine s_ild k172_46 rfl ?_
      refine z_push k172_47 ?_
      refine z_push k172_48 ?_
      refine z_inv3A k172_49 rfl (Nat.le_of_ble_eq_true rfl) (c167 hs p0 (by omega) (by decide) (by decide) (by decide) (by decide)) ?_
      refine z_iadd k172_52 ?_
      refine s_ist4 k172_53 rfl ?_
      refine s_ild k172_55 rfl ?_
      refine s_ald k172_57 rfl ?_
      refine s_ild k172_58 rfl ?_
      refine z_inv1A k172_59 rfl (Nat.le_of_ble_eq_true rfl) (c166 hs p0 (by omega)) ?_
      refine z_push k172_62 ?_
      refine s_icle k172_63 ⟨by omega, by omega⟩ (inR_lit rfl) (fun q => absurd q (by omega)) (fun h63 => ?_)
      refine s_ald k172_66 rfl ?_
      refine s_ild k172_67 rfl ?_
      refine z_push k172_68 ?_
      refine z_push k172_69 ?_
      refine z_inv3A k172_70 rfl (Nat.le_of_ble_eq_true rfl) (c167 hs p0 (by omega) (by decide) (by decide) (by decide) (by decide)) ?_
      refine z_goto k172_73 ?_
      refine z_iadd k172_77 ?_
      refine s_ist5 k172_78 rfl ?_
      rw [show (i : Int) + ps σ p 0 0 + ps σ p 1 4 = ((i + kS σ p 0 + loP σ p 1 : Nat) : Int) by omega]
      refine lp172b2 hN p0 p1 hp h4 (ACC := blL (gaF σ p 0 1 (stN i (kS σ p 0))) (wdP σ p 1) (i + kS σ p 0 + loP σ p 1) acc) hs4 hsp (by omega) (by omega) (fun J2 acc2 l5 l6 l7 l8 l9 e2 hs2 hF2 hG2 => ?_) (wdP σ p 1) (i + kS σ p 0 + loP σ p 1) J acc _ _ _ _ (by omega) rfl (by omega) hs hF hG
      subst e2
      refine s_iinc2 k172_246 rfl ?_
      refine z_goto k172_249 ?_
      exact ih (i + 1) J2 _ _ _ _ _ _ _ _ (by omega) hac hlen hs2 hF2 hG2
    · have hgf : gaF σ p 1 0 0 i acc = acc := if_neg hat
      rw [hgf] at hac hlen0
      refine s_ild k172_9 rfl ?_
      refine s_ald k172_10 rfl ?_
      refine z_getIe (z := σ 127 0) k172_11 rfl (st_s hs rfl) ?_
      refine s_icge k172_14 ⟨by omega, by omega⟩ ⟨by omega, by omega⟩ (fun q => absurd q (by omega)) (fun h14 => ?_)
      refine s_ald k172_17 rfl ?_
      refine s_ild k172_18 rfl ?_
      refine z_push k172_19 ?_
      refine s_ild k172_20 rfl ?_
      refine z_inv3A k172_21 rfl (Nat.le_of_ble_eq_true rfl) (c170 (j := 0) (b := i) hs hN p0 p1 hp (by show (0 : Int) < _; omega) (by omega)) ?_
      refine z_eqi (b := 0) (congrArg Nat.cast (if_neg hat)) ?_
      refine s_ist3 k172_24 rfl ?_
      refine s_ild k172_25 rfl ?_
      refine s_ifeq k172_26 (inR_lit rfl) (fun h26 => ?_) (fun q => absurd q (by omega))
      refine s_ild k172_44 rfl ?_
      refine s_ald k172_45 rfl ?_
      refine s_ild k172_46 rfl ?_
      refine z_push k172_47 ?_
      refine z_push k172_48 ?_
      refine z_inv3A k172_49 rfl (Nat.le_of_ble_eq_true rfl) (c167 hs p0 (by omega) (by decide) (by decide) (by decide) (by decide)) ?_
      refine z_iadd k172_52 ?_
      refine s_ist4 k172_53 rfl ?_
      refine s_ild k172_55 rfl ?_
      refine s_ald k172_57 rfl ?_
      refine s_ild k172_58 rfl ?_
      refine z_inv1A k172_59 rfl (Nat.le_of_ble_eq_true rfl) (c166 hs p0 (by omega)) ?_
      refine z_push k172_62 ?_
      refine s_icle k172_63 ⟨by omega, by omega⟩ (inR_lit rfl) (fun q => absurd q (by omega)) (fun h63 => ?_)
      refine s_ald k172_66 rfl ?_
      refine s_ild k172_67 rfl ?_
      refine z_push k172_68 ?_
      refine z_push k172_69 ?_
      refine z_inv3A k172_70 rfl (Nat.le_of_ble_eq_true rfl) (c167 hs p0 (by omega) (by decide) (by decide) (by decide) (by decide)) ?_
      refine z_goto k172_73 ?_
      refine z_iadd k172_77 ?_
      refine s_ist5 k172_78 rfl ?_
      refine s_ild k172_80 rfl ?_
      refine s_ifeq k172_81 (inR_lit rfl) (fun h81 => ?_) (fun q => absurd q (by omega))
      refine s_iinc2 k172_246 rfl ?_
      refine z_goto k172_249 ?_
      exact ih (i + 1) J acc _ _ _ _ _ _ _ (by omega) hac hlen hs hF hG
set_option maxRecDepth 20000 in
theorem lp172a3 {d : Nat} {I σ : Nat → Int → Int} {P : Int → Nat} {dr : Nat} {Q : mQ} {ACC : List Nat} (hN : WFn σ) {p : Int} (p0 : 0 ≤ p) (p1 : p < 5) (hp : PlWF σ p) (h4 : pf σ p 4 = 3) (kx : ∀ (J : Nat → Int → Int) (acc : List Nat) (l2 l3 l4 l5 l6 l7 l8 l9 : mV), acc = ACC → sig J = σ → FPl I J p → RG σ J p acc → wp (mcall MT CD (d + 5)) (CD 172) L0 Q 252 [vr 127, vi p, l2, l3, l4, l5, l6, l7, l8, l9] [] (S0, J, RR P dr)) : ∀ (m i : Nat) (J : Nat → Int → Int) (acc : List Nat) (l3 l4 l5 l6 l7 l8 l9 : mV), (i : Int) + m = σ 127 0 → blL (gaF σ p 2 0 0) m i acc = ACC → ACC.length ≤ 112 → sig J = σ → FPl I J p → RG σ J p acc → wp (mcall MT CD (d + 5)) (CD 172) L0 Q 9 [vr 127, vi p, vi (i : Int), l3, l4, l5, l6, l7, l8, l9] [] (S0, J, RR P dr) := by
  have b0 := hN.1
  have h3 := hp.2.2.2.2.1
  have hk0 := (hp.st (j := 0) (by decide) (by omega)).2.1
  have hkk0 : kS σ p 0 ≤ 4 ∧ 1 ≤ kS σ p 0 := by show (ps σ p ((0 : Nat) : Int) 0).toNat ≤ 4 ∧ 1 ≤ (ps σ p ((0 : Nat) : Int) 0).toNat; exact ⟨by have : ps σ p ((0 : Nat) : Int) 0 = ps σ p 0 0 := rfl; omega, by have : ps σ p ((0 : Nat) : Int) 0 = ps σ p 0 0 := rfl; omega⟩
  have hw1 := (hp.st (j := 1) (by decide) (by omega)).2.2.2.2.2 (by decide)
  intro m
  induction m with
  | zero =>
    intro i J acc l3 l4 l5 l6 l7 l8 l9 hi hac hlen hs hF hG
    refine s_ild k172_9 rfl ?_
    refine s_ald k172_10 rfl ?_
    refine z_getIe (z := σ 127 0) k172_11 rfl (st_s hs rfl) ?_
    refine s_icge k172_14 ⟨by omega, by omega⟩ ⟨by omega, by omega⟩ (fun h14 => ?_) (fun q => absurd q (by omega))
    exact kx J acc _ _ _ _ _ _ _ _ hac hs hF hG
  | succ m ih =>
    intro i J acc l3 l4 l5 l6 l7 l8 l9 hi hac hlen hs hF hG
    rw [bl_s] at hac
    have hlen0 := Nat.le_trans (bl_len (σ := σ) (p := p) (r := 2) (j := 0) (mask := 0) m (i + 1) (gaF σ p 2 0 0 i acc)) (Nat.le_of_eq (congrArg List.length hac))
    by_cases hat : atS σ p 0 i
    · have he := (hat (kS σ p 0 - 1) (by omega)).1
      have hen : i + kS σ p 0 ≤ 12 := by omega
      have hs4 := st_4 hen
      have hsp := st_pos (b := i) hkk0.2
      have hgf : gaF σ p 2 0 0 i acc = blL (gaF σ p 1 1 (stN i (kS σ p 0))) (wdP σ p 1) (i + kS σ p 0 + loP σ p 1) acc := by
        refine (if_pos hat).trans ?_
        rw [Nat.zero_or]
        rfl
      rw [hgf] at hac hlen0
      have hkq : ps σ p 0 0 = ((kS σ p 0 : Nat) : Int) := by show ps σ p 0 0 = ((ps σ p ((0 : Nat) : Int) 0).toNat : Int); have : ps σ p ((0 : Nat) : Int) 0 = ps σ p 0 0 := rfl; omega
      have hlq : ps σ p 1 4 = ((loP σ p 1 : Nat) : Int) := by show ps σ p 1 4 = ((ps σ p ((1 : Nat) : Int) 4).toNat : Int); have : ps σ p ((1 : Nat) : Int) 4 = ps σ p 1 4 := rfl; omega
      have hwq : ps σ p 1 5 = ps σ p 1 4 + ((wdP σ p 1 : Nat) : Int) - 1 := by show ps σ p 1 5 = ps σ p 1 4 + (((ps σ p ((1 : Nat) : Int) 5 - ps σ p ((1 : Nat) : Int) 4).toNat + 1 : Nat) : Int) - 1; have e1 : ps σ p ((1 : Nat) : Int) 4 = ps σ p 1 4 := rfl; have e2 : ps σ p ((1 : Nat) : Int) 5 = ps σ p 1 5 := rfl; omega
      refine s_ild k172_9 rfl ?_
      refine s_ald k172_10 rfl ?_
      refine z_getIe (z := σ 127 0) k172_11 rfl (st_s hs rfl) ?_
      refine s_icge k172_14 ⟨by omega, by omega⟩ ⟨by omega, by omega⟩ (fun q => absurd q (by omega)) (fun h14 => ?_)
      refine s_ald k172_17 rfl ?_
      refine s_ild k172_18 rfl ?_
      refine z_push k172_19 ?_
      refine s_ild k172_20 rfl ?_
      refine z_inv3A k172_21 rfl (Nat.le_of_ble_eq_true rfl) (c170 (j := 0) (b := i) hs hN p0 p1 hp (by show (0 : Int) < _; omega) (by omega)) ?_
      refine z_eqi (b := ((stN i (kS σ p 0) : Nat) : Int)) (congrArg Nat.cast (if_pos hat)) ?_
      refine s_ist3 k172_24 rfl ?_
      refine s_ild k172_25 rfl ?_
      refine s_ifeq k172_26 ⟨by omega, by omega⟩ (fun q => absurd q (by omega)) (fun h26 => ?_)
      refine s_ald k172_29 rfl ?_
      refine s_ild k172_30 rfl ?_
      refine z_inv1A k172_31 rfl (Nat.le_of_ble_eq_true rfl) (c166 hs p0 (by omega)) ?_
      refine z_push k172_34 ?_
      refine s_icne k172_35 ⟨by omega, by omega⟩ (inR_lit rfl) (fun h35 => ?_) (fun q => absurd q (by omega))
      refine s_ild k172_44 rfl ?_
      refine s_ald k172_45 rfl ?_
      refine s_ild k172_46 rfl ?_
      refine z_push k172_47 ?_
      refine z_push k172_48 ?_
      refine z_inv3A k172_49 rfl (Nat.le_of_ble_eq_true rfl) (c167 hs p0 (by omega) (by decide) (by decide) (by decide) (by decide)) ?_
      refine z_iadd k172_52 ?_
      refine s_ist4 k172_53 rfl ?_
      refine s_ild k172_55 rfl ?_
      refine s_ald k172_57 rfl ?_
      refine s_ild k172_58 rfl ?_
      refine z_inv1A k172_59 rfl (Nat.le_of_ble_eq_true rfl) (c166 hs p0 (by omega)) ?_
      refine z_push k172_62 ?_
      refine s_icle k172_63 ⟨by omega, by omega⟩ (inR_lit rfl) (fun q => absurd q (by omega)) (fun h63 => ?_)
      refine s_ald k172_66 rfl ?_
      refine s_ild k172_67 rfl ?_
      refine z_push k172_68 ?_
      refine z_push k172_69 ?_
      refine z_inv3A k172_70 rfl (Nat.le_of_ble_eq_true rfl) (c167 hs p0 (by omega) (by decide) (by decide) (by decide) (by decide)) ?_
      refine z_goto k172_73 ?_
      refine z_iadd k172_77 ?_
      refine s_ist5 k172_78 rfl ?_
      rw [show (i : Int) + ps σ p 0 0 + ps σ p 1 4 = ((i + kS σ p 0 + loP σ p 1 : Nat) : Int) by omega]
      refine lp172b3 hN p0 p1 hp h4 (ACC := blL (gaF σ p 1 1 (stN i (kS σ p 0))) (wdP σ p 1) (i + kS σ p 0 + loP σ p 1) acc) hs4 hsp (by omega) (by omega) (fun J2 acc2 l5 l6 l7 l8 l9 e2 hs2 hF2 hG2 => ?_) (wdP σ p 1) (i + kS σ p 0 + loP σ p 1) J acc _ _ _ _ (by omega) rfl (by omega) hs hF hG
      subst e2
      refine s_iinc2 k172_246 rfl ?_
      refine z_goto k172_249 ?_
      exact ih (i + 1) J2 _ _ _ _ _ _ _ _ (by omega) hac hlen hs2 hF2 hG2
    · have hgf : gaF σ p 2 0 0 i acc = acc := if_neg hat
      rw [hgf] at hac hlen0
      refine s_ild k172_9 rfl ?_
      refine s_ald k172_10 rfl ?_
      refine z_getIe (z := σ 127 0) k172_11 rfl (st_s hs rfl) ?_
      refine s_icge k172_14 ⟨by omega, by omega⟩ ⟨by omega, by omega⟩ (fun q => absurd q (by omega)) (fun h14 => ?_)
      refine s_ald k172_17 rfl ?_
      refine s_ild k172_18 rfl ?_
      refine z_push k172_19 ?_
      refine s_ild k172_20 rfl ?_
      refine z_inv3A k172_21 rfl (Nat.le_of_ble_eq_true rfl) (c170 (j := 0) (b := i) hs hN p0 p1 hp (by show (0 : Int) < _; omega) (by omega)) ?_
      refine z_eqi (b := 0) (congrArg Nat.cast (if_neg hat)) ?_
      refine s_ist3 k172_24 rfl ?_
      refine s_ild k172_25 rfl ?_
      refine s_ifeq k172_26 (inR_lit rfl) (fun h26 => ?_) (fun q => absurd q (by omega))
      refine s_ild k172_44 rfl ?_
      refine s_ald k172_45 rfl ?_
      refine s_ild k172_46 rfl ?_
      refine z_push k172_47 ?_
      refine z_push k172_48 ?_
      refine z_inv3A k172_49 rfl (Nat.le_of_ble_eq_true rfl) (c167 hs p0 (by omega) (by decide) (by decide) (by decide) (by decide)) ?_
      refine z_iadd k172_52 ?_
      refine s_ist4 k172_53 rfl ?_
      refine s_ild k172_55 rfl ?_
      refine s_ald k172_57 rfl ?_
      refine s_ild k172_58 rfl ?_
      refine z_inv1A k172_59 rfl (Nat.le_of_ble_eq_true rfl) (c166 hs p0 (by omega)) ?_
      refine z_push k172_62 ?_
      refine s_icle k172_63 ⟨by omega, by omega⟩ (inR_lit rfl) (fun q => absurd q (by omega)) (fun h63 => ?_)
      refine s_ald k172_66 rfl ?_
      refine s_ild k172_67 rfl ?_
      refine z_push k172_68 ?_
      refine z_push k172_69 ?_
      refine z_inv3A k172_70 rfl (Nat.le_of_ble_eq_true rfl) (c167 hs p0 (by omega) (by decide) (by decide) (by decide) (by decide)) ?_
      refine z_goto k172_73 ?_
      refine z_iadd k172_77 ?_
      refine s_ist5 k172_78 rfl ?_
      refine s_ild k172_80 rfl ?_
      refine s_ifeq k172_81 (inR_lit rfl) (fun h81 => ?_) (fun q => absurd q (by omega))
      refine s_iinc2 k172_246 rfl ?_
      refine z_goto k172_249 ?_
      exact ih (i + 1) J acc _ _ _ _ _ _ _ (by omega) hac hlen hs hF hG
set_option maxRecDepth 20000 in
theorem c172 {d : Nat} {I : Nat → Int → Int} {P : Int → Nat} {dr : Nat} {σ : Nat → Int → Int} (hs : sig I = σ) (hN : WFn σ) {p : Int} (p0 : 0 ≤ p) (p1 : p < 5) (hp : PlWF σ p) : cal (d + 6) 172 [vr 127, vi p] I P dr (fun o h => o = none ∧ ∃ J, h = (S0, J, RR P dr) ∧ sig J = σ ∧ FPl I J p ∧ RG σ J p (plS σ p)) := by
  refine cal_in (Nat.le_of_ble_eq_true rfl) ?_
  show wp _ _ _ _ 0 [vr 127, vi p, vj, vj, vj, vj, vj, vj, vj, vj] [] _
  refine s_ald k172_0 rfl ?_
  refine z_getRe (b := 139) k172_1 rfl rr_127_23 ?_
  refine s_ild k172_4 rfl ?_
  refine z_push k172_5 ?_
  refine z_iast k172_6 rfl (by omega) (show p < ((5 : Nat) : Int) by omega) ?_
  refine z_push k172_7 ?_
  refine s_ist2 k172_8 rfl ?_
  have b0 := hN.1
  have h3 := hp.2.2.2.2.1
  have hlen := pl_112 hN hp
  have hF0 : FPl I (upI I 139 p 0) p := fun a k h1 h2 => if_neg h1
  have hG0 : RG σ (upI I 139 p 0) p [] := ⟨up_at, fun i hi => absurd hi (Nat.not_lt_zero i)⟩
  have hs0 : sig (upI I 139 p 0) = σ := hF0.sig.trans hs
  have kx : ∀ (J : Nat → Int → Int) (acc : List Nat) (l2 l3 l4 l5 l6 l7 l8 l9 : mV), acc = plS σ p → sig J = σ → FPl I J p → RG σ J p acc → wp (mcall MT CD (d + 5)) (CD 172) L0 (fun o h => o = none ∧ ∃ J, h = (S0, J, RR P dr) ∧ sig J = σ ∧ FPl I J p ∧ RG σ J p (plS σ p)) 252 [vr 127, vi p, l2, l3, l4, l5, l6, l7, l8, l9] [] (S0, J, RR P dr) := fun J acc l2 l3 l4 l5 l6 l7 l8 l9 e g1 g2 g3 => by
    subst e
    exact z_vret k172_252 ⟨rfl, J, rfl, g1, g2, g3⟩
  have key : ∀ c : Nat, pf σ p 4 = c → plS σ p = gaS σ p c 0 0 (σ 127 0).toNat 0 [] := fun c hc => by
    unfold plS
    rw [hc]
    rfl
  rcases (show pf σ p 4 = 1 ∨ pf σ p 4 = 2 ∨ pf σ p 4 = 3 by omega) with e | e | e
  · exact lp172a1 hN p0 p1 hp e kx (σ 127 0).toNat 0 _ [] _ _ _ _ _ _ _ (by omega) (key 1 e).symm hlen hs0 hF0 hG0
  · exact lp172a2 hN p0 p1 hp e kx (σ 127 0).toNat 0 _ [] _ _ _ _ _ _ _ (by omega) (key 2 e).symm hlen hs0 hF0 hG0
  · exact lp172a3 hN p0 p1 hp e kx (σ 127 0).toNat 0 _ [] _ _ _ _ _ _ _ (by omega) (key 3 e).symm hlen hs0 hF0 hG0
