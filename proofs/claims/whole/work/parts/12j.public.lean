/-! watches, worlds -/
abbrev scS (σ : Nat → Int → Int) (r w : Int) : Int := (runS σ r w (σ 127 0).toNat).2.2.2.2
theorem sc_b {σ : Nat → Int → Int} {r w : Int} (hN : WFn σ) (hP : WFp σ) : 0 ≤ scS σ r w ∧ scS σ r w ≤ 495 := by
  have b0 := hN.1
  have b1 := hP.1
  have h := (run_OK (rule := r) (wh := w) hP (σ 127 0).toNat (by omega)).2.2.2
  have h2 := done_b (w := (runS σ r w (σ 127 0).toNat).1) hP (σ 127 21).toNat (by omega)
  unfold scS
  omega
theorem CG.fc {I J σ : Nat → Int → Int} {P : Int → Nat} {dr : Nat} (hN : WFn σ) (hP : WFp σ) (h : CG I σ P dr) (hF : FC I J) : CG J σ P dr :=
  ⟨h.1.keep hN (fun a q _ _ => hF a q (by omega) (by omega)), h.2.1.sg (fun a q _ _ => hF a q (by omega) (by omega)) (fun _ _ _ => rfl), h.2.2.1.keep hP (fun a q _ _ => hF a q (by omega) (by omega)), h.2.2.2.1.sg (fun a q _ _ => hF a q (by omega) (by omega)) (fun _ _ _ => rfl), (hF 118 0 (by omega) (by omega)).trans h.2.2.2.2⟩
theorem KC.fc {I J : Nat → Int → Int} (hF : FC I J) : KC false I J := ⟨fun a k _ _ _ => hF a k (by omega) (by omega), hF 69 17 (by omega) (by omega), fun a k _ => hF a k (by omega) (by omega)⟩
theorem CG.x {I σ : Nat → Int → Int} {P : Int → Nat} {dr : Nat} (h : CG I σ P dr) : CX I σ P dr := ⟨h.1, h.2.2.1, h.2.2.2.2⟩
theorem run_lg {σ : Nat → Int → Int} {r w : Int} {q : Nat} : ∀ k : Nat, (runS σ r w (q + 1 + k)).1 148 q = (runS σ r w (q + 1)).1 148 q
  | 0 => rfl
  | k + 1 => by
    show (slotS σ r w ((q + 1 + k : Nat) : Int) (runS σ r w (q + 1 + k))).1 148 q = _
    unfold slotS
    rw [go_lg (by omega), beg_lg (by omega)]
    exact run_lg k
def xWat (σ : Nat → Int → Int) (r w : Int) : mX := (if 0 ≤ w ∧ w < 2 + σ 127 10 then (if 0 ≤ r ∧ r ≤ 2 then scS σ r w else -3) else -2, σ, false)
def xLog (σ : Nat → Int → Int) (r w s : Int) : mX := (if (0 ≤ w ∧ w < 2 + σ 127 10) ∧ (0 ≤ s ∧ s < σ 127 0) then (if 0 ≤ r ∧ r ≤ 2 then (runS σ r w (σ 127 0).toNat).1 148 s else -3) else -2, σ, false)
def xSta (σ : Nat → Int → Int) (r w p n : Int) : mX := (if (0 ≤ w ∧ w < 2 + σ 127 10) ∧ (0 ≤ p ∧ p < σ 127 21) then (if (0 ≤ r ∧ r ≤ 2) ∧ (0 ≤ n ∧ n ≤ σ 127 0) then (runS σ r w n.toNat).1 145 p else -3) else -2, σ, false)
def surS (σ : Nat → Int → Int) (r : Int) : Nat → Int
  | 0 => -1
  | k + 1 => if surS σ r k = -1 ∨ scS σ r (2 + k) < surS σ r k then scS σ r (2 + k) else surS σ r k
theorem sur_s {σ : Nat → Int → Int} {r : Int} {k : Nat} : surS σ r (k + 1) = if surS σ r k = -1 ∨ scS σ r (2 + k) < surS σ r k then scS σ r (2 + k) else surS σ r k := rfl
theorem sur_b {σ : Nat → Int → Int} {r : Int} (hN : WFn σ) (hP : WFp σ) : ∀ k : Nat, -1 ≤ surS σ r k ∧ surS σ r k ≤ 495
  | 0 => ⟨Int.le_refl _, by show (-1 : Int) ≤ 495; decide⟩
  | k + 1 => by
    have h1 := sur_b (r := r) hN hP k
    have h2 := sc_b (r := r) (w := 2 + k) hN hP
    rw [sur_s]
    split <;> omega
def xSur (σ : Nat → Int → Int) (r : Int) : mX := (if 0 ≤ r ∧ r ≤ 2 then surS σ r (σ 127 10).toNat else -3, σ, false)
def wupS (σ : Nat → Int → Int) (r : Int) : Nat → Int
  | 0 => 0
  | k + 1 => wupS σ r k + σ 132 k * scS σ r (2 + k)
theorem wup_s {σ : Nat → Int → Int} {r : Int} {k : Nat} : wupS σ r (k + 1) = wupS σ r k + σ 132 k * scS σ r (2 + k) := rfl
theorem sum_s {σ : Nat → Int → Int} {a k : Nat} : sumS σ a (k + 1) = sumS σ a k + σ a k := rfl
theorem wup_b {σ : Nat → Int → Int} {r : Int} (hN : WFn σ) (hP : WFp σ) : ∀ k : Nat, (k : Int) ≤ σ 127 10 → 0 ≤ wupS σ r k ∧ wupS σ r k ≤ 4455 * k
  | 0, _ => ⟨Int.le_refl _, Int.le_refl _⟩
  | k + 1, h => by
    have h1 := wup_b (r := r) hN hP k (by omega)
    have h2 := sc_b (r := r) (w := 2 + k) hN hP
    have h3 := hN.2.2.2.2.2.2.2.2.2 k (by omega) (by omega)
    have h4 := mul_b (a := σ 132 k) (b := scS σ r (2 + k)) (A := 9) (B := 495) (by omega) (by omega) (by omega) (by omega)
    rw [wup_s]
    omega
theorem wdn_b {σ : Nat → Int → Int} (hN : WFn σ) : ∀ k : Nat, (k : Int) ≤ σ 127 10 → (k : Int) ≤ sumS σ 132 k ∧ sumS σ 132 k ≤ 9 * k
  | 0, _ => ⟨Int.le_refl _, Int.le_refl _⟩
  | k + 1, h => by
    have h1 := wdn_b hN k (by omega)
    have h3 := hN.2.2.2.2.2.2.2.2.2 k (by omega) (by omega)
    rw [sum_s]
    omega
/-- Euclid, with fuel -/
def euS : Nat → Int → Int → Int
  | 0, a, _ => a
  | f + 1, a, b => if b = 0 then a else euS f b (a.tmod b)
theorem eu_0 {f : Nat} {a : Int} : euS f a 0 = a := by
  cases f with
  | zero => rfl
  | succ f => exact if_pos rfl
theorem eu_s {f : Nat} {a b : Int} (h : b ≠ 0) : euS (f + 1) a b = euS f b (a.tmod b) := if_neg h
theorem tm_b {a b : Int} (a0 : 0 ≤ a) (b0 : 0 < b) : 0 ≤ a.tmod b ∧ a.tmod b < b := ⟨Int.tmod_nonneg b a0, Int.tmod_lt_of_pos a b0⟩
theorem eu_pos : ∀ (f : Nat) (a b : Int), 0 ≤ a → 0 ≤ b → b ≤ f → 1 ≤ a ∨ 1 ≤ b → 1 ≤ euS f a b
  | 0, a, b, _, h1, h2, h3 => by
    show 1 ≤ a
    omega
  | f + 1, a, b, h0, h1, h2, h3 => by
    by_cases c1 : b = 0
    · rw [c1, eu_0]
      omega
    · rw [eu_s c1]
      have := tm_b h0 (show 0 < b by omega)
      exact eu_pos f b (a.tmod b) h1 this.1 (by omega) (Or.inl (by omega))
theorem eu_le : ∀ (f : Nat) (a b M : Int), 0 ≤ a → 0 ≤ b → a ≤ M → b ≤ M → 0 ≤ euS f a b ∧ euS f a b ≤ M
  | 0, a, b, M, h0, h1, h2, h3 => ⟨h0, h2⟩
  | f + 1, a, b, M, h0, h1, h2, h3 => by
    by_cases c1 : b = 0
    · rw [c1, eu_0]
      exact ⟨h0, h2⟩
    · rw [eu_s c1]
      have := tm_b h0 (show 0 < b by omega)
      exact eu_le f b (a.tmod b) M h1 this.1 h3 (by omega)
abbrev gcS (σ : Nat → Int → Int) (r : Int) : Int := euS 64 (wupS σ r (σ 127 10).toNat) (sumS σ 132 (σ 127 10).toNat)
def xVal (σ : Nat → Int → Int) (r q : Int) : mX := (if (0 ≤ r ∧ r ≤ 2) ∧ (0 ≤ q ∧ q ≤ 1) then (if σ 127 10 = 0 then -1 else (if q = 0 then (wupS σ r (σ 127 10).toNat).tdiv (gcS σ r) else (sumS σ 132 (σ 127 10).toNat).tdiv (gcS σ r))) else -3, σ, false)
abbrev wgS (σ : Nat → Int → Int) (r : Int) : Int := wupS σ r (σ 127 10).toNat
theorem wg_b {σ : Nat → Int → Int} {r : Int} (hN : WFn σ) (hP : WFp σ) : 0 ≤ wgS σ r ∧ wgS σ r ≤ 17820 := by
  have b := hN.2.2.2.2.2.2.2.1
  have := wup_b (r := r) hN hP (σ 127 10).toNat (by omega)
  unfold wgS
  omega
def rulS (σ : Nat → Int → Int) : Nat → Int × Int
  | 0 => (-1, 0)
  | k + 1 => (if (rulS σ k).1 = -1 ∨ (rulS σ k).2 < wgS σ k then (k : Int) else (rulS σ k).1, if (rulS σ k).2 < wgS σ k then wgS σ k else (rulS σ k).2)
theorem rul_s {σ : Nat → Int → Int} {k : Nat} : rulS σ (k + 1) = (if (rulS σ k).1 = -1 ∨ (rulS σ k).2 < wgS σ k then (k : Int) else (rulS σ k).1, if (rulS σ k).2 < wgS σ k then wgS σ k else (rulS σ k).2) := rfl
theorem rul_b {σ : Nat → Int → Int} (hN : WFn σ) (hP : WFp σ) : ∀ k : Nat, (-1 ≤ (rulS σ k).1 ∧ (rulS σ k).1 < k) ∧ (0 ≤ (rulS σ k).2 ∧ (rulS σ k).2 ≤ 17820) ∧ (1 ≤ k → 0 ≤ (rulS σ k).1)
  | 0 => ⟨⟨Int.le_refl _, by show (-1 : Int) < 0; decide⟩, ⟨Int.le_refl _, by show (0 : Int) ≤ 17820; decide⟩, fun h => absurd h (by decide)⟩
  | k + 1 => by
    obtain ⟨h1, h2, h3⟩ := rul_b hN hP k
    have h4 := wg_b (r := k) hN hP
    rw [rul_s]
    dsimp only
    refine ⟨?_, ?_, fun _ => ?_⟩
    · split <;> omega
    · split <;> omega
    · split <;> omega
def xRul (σ : Nat → Int → Int) : mX := (if σ 127 10 = 0 then -1 else (rulS σ 3).1, σ, false)
theorem rul_1 {σ : Nat → Int → Int} (hN : WFn σ) (hP : WFp σ) : rulS σ 1 = (0, wgS σ 0) := by
  have h4 := wg_b (r := 0) hN hP
  rw [rul_s]
  refine Prod.ext ?_ ?_
  · dsimp only
    rw [if_pos (Or.inl (show (rulS σ 0).1 = -1 from rfl))]
    rfl
  · show (if (0 : Int) < wgS σ 0 then wgS σ 0 else (0 : Int)) = wgS σ 0
    split <;> omega
set_option maxRecDepth 20000 in
theorem r192 {d : Nat} {I : Nat → Int → Int} {P : Int → Nat} {dr : Nat} {σ : Nat → Int → Int} (hs : sig I = σ) (hW : WFs σ) {r w : Int} (i_r : inR r) (i_w : inR w) : cal (d + 8) 192 [vr 127, vi r, vi w] I P dr (refQ (xWat σ r w) I P dr) := by
  refine cal_in (Nat.le_of_ble_eq_true rfl) ?_
  obtain ⟨hN, hT, hP, hA, hL⟩ := id hW
  have b0 := hN.1
  have b1 := hN.2.1
  have b2 := hN.2.2.1
  have b10 := hN.2.2.2.2.2.2.2.1
  show wp _ _ _ _ 0 [vr 127, vi r, vi w] [] _
  refine s_ald k192_0 rfl ?_
  refine s_ild k192_1 rfl ?_
  refine z_inv1A k192_2 rfl (Nat.le_of_ble_eq_true rfl) (c140 hs (by omega) i_w) ?_
  refine z_ifneb k192_5 (fun h5 => ?_) (fun h5 => ?_)
  · refine s_ild k192_11 rfl ?_
    refine z_push k192_12 ?_
    refine z_push k192_13 ?_
    refine z_sta3A k192_14 (Nat.le_of_ble_eq_true rfl) (c136 i_r (inR_lit rfl) (inR_lit rfl)) ?_
    refine z_ifneb k192_17 (fun h17 => ?_) (fun h17 => ?_)
    · refine s_ald k192_23 rfl ?_
      refine s_ild k192_24 rfl ?_
      refine s_ild k192_25 rfl ?_
      refine s_ald k192_26 rfl ?_
      refine z_getIe (z := σ 127 0) k192_27 rfl (st_s hs rfl) ?_
      refine z_inv3 k192_30 rfl (Nat.le_of_ble_eq_true rfl) (c191 hs hN hP hA (by omega) (by omega) (by omega) (by omega) (by omega) (by omega)) (fun o h1 hq => ?_)
      obtain ⟨rfl, J2, rfl, gF, gR, gS⟩ := hq
      have hs2 : sig J2 = σ := gF.sig.trans hs
      refine s_ald k192_33 rfl ?_
      refine z_getIe (z := (runS σ r w (σ 127 0).toNat).2.2.2.2) k192_34 rfl gS ?_
      refine z_iret k192_37 ⟨J2, ?_, rfl, hs2, fun a k hk => gF a k (by omega) (by omega)⟩
      unfold xWat
      rw [if_pos (by omega), if_pos (by omega)]
    · refine z_push k192_20 ?_
      refine z_iret k192_22 ⟨I, ?_, rfl, hs, fun _ _ _ => rfl⟩
      unfold xWat
      rw [if_pos (by omega), if_neg (by omega)]
  · refine z_push k192_8 ?_
    refine z_iret k192_10 ⟨I, ?_, rfl, hs, fun _ _ _ => rfl⟩
    unfold xWat
    rw [if_neg (by omega)]
set_option maxRecDepth 20000 in
theorem r193 {d : Nat} {I : Nat → Int → Int} {P : Int → Nat} {dr : Nat} {σ : Nat → Int → Int} (hs : sig I = σ) (hW : WFs σ) {r w s : Int} (i_r : inR r) (i_w : inR w) (i_s : inR s) : cal (d + 8) 193 [vr 127, vi r, vi w, vi s] I P dr (refQ (xLog σ r w s) I P dr) := by
  refine cal_in (Nat.le_of_ble_eq_true rfl) ?_
  obtain ⟨hN, hT, hP, hA, hL⟩ := id hW
  have b0 := hN.1
  have b1 := hN.2.1
  have b2 := hN.2.2.1
  have b10 := hN.2.2.2.2.2.2.2.1
  show wp _ _ _ _ 0 [vr 127, vi r, vi w, vi s] [] _
  refine s_ald k193_0 rfl ?_
  refine s_ild k193_1 rfl ?_
  refine z_inv1A k193_2 rfl (Nat.le_of_ble_eq_true rfl) (c140 hs (by omega) i_w) ?_
  refine z_ifeqb k193_5 (fun h5 => ?_) (fun h5 => ?_)
  · refine z_push k193_16 ?_
    refine z_iret k193_18 ⟨I, ?_, rfl, hs, fun _ _ _ => rfl⟩
    unfold xLog
    rw [if_neg (by omega)]
  · refine s_ald k193_8 rfl ?_
    refine s_ild k193_9 rfl ?_
    refine z_inv1A k193_10 rfl (Nat.le_of_ble_eq_true rfl) (c137 hs (by omega) i_s) ?_
    refine z_ifneb k193_13 (fun h13 => ?_) (fun h13 => ?_)
    · refine s_ild k193_19 rfl ?_
      refine z_push k193_20 ?_
      refine z_push k193_21 ?_
      refine z_sta3A k193_22 (Nat.le_of_ble_eq_true rfl) (c136 i_r (inR_lit rfl) (inR_lit rfl)) ?_
      refine z_ifneb k193_25 (fun h25 => ?_) (fun h25 => ?_)
      · refine s_ald k193_31 rfl ?_
        refine s_ild k193_32 rfl ?_
        refine s_ild k193_33 rfl ?_
        refine s_ald k193_34 rfl ?_
        refine z_getIe (z := σ 127 0) k193_35 rfl (st_s hs rfl) ?_
        refine z_inv3 k193_38 rfl (Nat.le_of_ble_eq_true rfl) (c191 hs hN hP hA (by omega) (by omega) (by omega) (by omega) (by omega) (by omega)) (fun o h1 hq => ?_)
        obtain ⟨rfl, J2, rfl, gF, gR, gS⟩ := hq
        have hs2 : sig J2 = σ := gF.sig.trans hs
        refine s_ald k193_41 rfl ?_
        refine z_getRe (b := 148) k193_42 rfl rr_127_35 ?_
        refine s_ild k193_45 rfl ?_
        refine z_ialde (z := (runS σ r w (σ 127 0).toNat).1 148 s) k193_46 rfl (by omega) (show s < ((12 : Nat) : Int) by omega) (gR.2 s (by omega) (by omega)) ?_
        refine z_iret k193_47 ⟨J2, ?_, rfl, hs2, fun a k hk => gF a k (by omega) (by omega)⟩
        unfold xLog
        rw [if_pos (by omega), if_pos (by omega)]
      · refine z_push k193_28 ?_
        refine z_iret k193_30 ⟨I, ?_, rfl, hs, fun _ _ _ => rfl⟩
        unfold xLog
        rw [if_pos (by omega), if_neg (by omega)]
    · refine z_push k193_16 ?_
      refine z_iret k193_18 ⟨I, ?_, rfl, hs, fun _ _ _ => rfl⟩
      unfold xLog
      rw [if_neg (by omega)]
set_option maxRecDepth 20000 in
theorem r194 {d : Nat} {I : Nat → Int → Int} {P : Int → Nat} {dr : Nat} {σ : Nat → Int → Int} (hs : sig I = σ) (hW : WFs σ) {r w p n : Int} (i_r : inR r) (i_w : inR w) (i_p : inR p) (i_n : inR n) : cal (d + 8) 194 [vr 127, vi r, vi w, vi p, vi n] I P dr (refQ (xSta σ r w p n) I P dr) := by
  refine cal_in (Nat.le_of_ble_eq_true rfl) ?_
  obtain ⟨hN, hT, hP, hA, hL⟩ := id hW
  have b0 := hN.1
  have b1 := hN.2.1
  have b2 := hN.2.2.1
  have b10 := hN.2.2.2.2.2.2.2.1
  have bp := hP.1
  show wp _ _ _ _ 0 [vr 127, vi r, vi w, vi p, vi n] [] _
  refine s_ald k194_0 rfl ?_
  refine s_ild k194_1 rfl ?_
  refine z_inv1A k194_2 rfl (Nat.le_of_ble_eq_true rfl) (c140 hs (by omega) i_w) ?_
  refine z_ifeqb k194_5 (fun h5 => ?_) (fun h5 => ?_)
  · refine z_push k194_16 ?_
    refine z_iret k194_18 ⟨I, ?_, rfl, hs, fun _ _ _ => rfl⟩
    unfold xSta
    rw [if_neg (by omega)]
  · refine s_ald k194_8 rfl ?_
    refine s_ild k194_9 rfl ?_
    refine z_inv1A k194_10 rfl (Nat.le_of_ble_eq_true rfl) (c139 hs (by omega) i_p) ?_
    refine z_ifneb k194_13 (fun h13 => ?_) (fun h13 => ?_)
    · refine s_ild k194_19 rfl ?_
      refine z_push k194_20 ?_
      refine z_push k194_21 ?_
      refine z_sta3A k194_22 (Nat.le_of_ble_eq_true rfl) (c136 i_r (inR_lit rfl) (inR_lit rfl)) ?_
      refine z_ifeqb k194_25 (fun h25 => ?_) (fun h25 => ?_)
      · refine z_push k194_41 ?_
        refine z_iret k194_43 ⟨I, ?_, rfl, hs, fun _ _ _ => rfl⟩
        unfold xSta
        rw [if_pos (by omega), if_neg (by omega)]
      · refine s_ild k194_28 rfl ?_
        refine z_push k194_30 ?_
        refine s_ald k194_31 rfl ?_
        refine z_getIe (z := σ 127 0) k194_32 rfl (st_s hs rfl) ?_
        refine z_sta3A k194_35 (Nat.le_of_ble_eq_true rfl) (c136 i_n (inR_lit rfl) ⟨by omega, by omega⟩) ?_
        refine z_ifneb k194_38 (fun h38 => ?_) (fun h38 => ?_)
        · refine s_ald k194_44 rfl ?_
          refine s_ild k194_45 rfl ?_
          refine s_ild k194_46 rfl ?_
          refine s_ild k194_47 rfl ?_
          refine z_inv3 k194_49 rfl (Nat.le_of_ble_eq_true rfl) (c191 hs hN hP hA (by omega) (by omega) (by omega) (by omega) (by omega) (by omega)) (fun o h1 hq => ?_)
          obtain ⟨rfl, J2, rfl, gF, gR, gS⟩ := hq
          have hs2 : sig J2 = σ := gF.sig.trans hs
          refine s_ald k194_52 rfl ?_
          refine z_getRe (b := 145) k194_53 rfl rr_127_32 ?_
          refine s_ild k194_56 rfl ?_
          refine z_ialde (z := (runS σ r w n.toNat).1 145 p) k194_57 rfl (by omega) (show p < ((5 : Nat) : Int) by omega) (gR.1 p (by omega) (by omega)).1 ?_
          refine z_iret k194_58 ⟨J2, ?_, rfl, hs2, fun a k hk => gF a k (by omega) (by omega)⟩
          unfold xSta
          rw [if_pos (by omega), if_pos (by omega)]
        · refine z_push k194_41 ?_
          refine z_iret k194_43 ⟨I, ?_, rfl, hs, fun _ _ _ => rfl⟩
          unfold xSta
          rw [if_pos (by omega), if_neg (by omega)]
    · refine z_push k194_16 ?_
      refine z_iret k194_18 ⟨I, ?_, rfl, hs, fun _ _ _ => rfl⟩
      unfold xSta
      rw [if_neg (by omega)]
set_option maxRecDepth 20000 in
theorem k113 {d : Nat} {I : Nat → Int → Int} {P : Int → Nat} {dr : Nat} {σ : Nat → Int → Int} (hG : CG I σ P dr) (hW : WFs σ) {r w : Int} (i_r : inR r) (i_w : inR w) : cal (d + 7) 113 [vr 16, vi r, vi w] I P dr (clsQ (xWat σ r w) I P dr) := by
  refine cal_in (Nat.le_of_ble_eq_true rfl) ?_
  obtain ⟨hN, hT, hP, hA, hL⟩ := id hW
  have b0 := hN.1
  have b1 := hN.2.1
  have b2 := hN.2.2.1
  have b10 := hN.2.2.2.2.2.2.2.1
  obtain ⟨hC, hCt, hcp, hCl, hca⟩ := id hG
  obtain ⟨cn, ct, cg, cmr, cmf, cmt, cw, cT, cS, cW⟩ := id hC
  have bp := hP.1
  have hPc : ∀ k, 0 ≤ k → k < 5 → isPl (P k) := hcp.2.1.1
  show wp _ _ _ _ 0 [vr 16, vi r, vi w] [] _
  refine s_ald k113_0 rfl ?_
  refine z_getRe (b := 17) k113_1 rfl rr_16_0 ?_
  refine s_ild k113_4 rfl ?_
  refine z_inv1A k113_5 rfl (Nat.le_of_ble_eq_true rfl) (c59 hC (by omega) i_w) ?_
  refine z_ifneb k113_8 (fun h8 => ?_) (fun h8 => ?_)
  · refine s_ild k113_14 rfl ?_
    refine z_sta1A k113_15 (Nat.le_of_ble_eq_true rfl) (c127 i_r) ?_
    refine z_ifneb k113_18 (fun h18 => ?_) (fun h18 => ?_)
    · refine s_ald k113_24 rfl ?_
      refine z_getRe (b := 118) k113_25 rfl rr_16_4 ?_
      refine s_ild k113_28 rfl ?_
      refine s_ild k113_29 rfl ?_
      refine s_ald k113_30 rfl ?_
      refine z_getRe (b := 17) k113_31 rfl rr_16_0 ?_
      refine z_getIe (z := σ 127 0) k113_34 rfl cn ?_
      refine z_inv3 k113_37 rfl (Nat.le_of_ble_eq_true rfl) (c76 hN hP hG.x hA (by omega) (by omega) (by omega) (by omega) (by omega) (by omega)) (fun o h1 hq => ?_)
      obtain ⟨rfl, J2, rfl, gF, gW, gL⟩ := hq
      have hG2 := hG.fc hN hP gF
      have hok := run_OK (rule := r) (wh := w) hP (σ 127 0).toNat (by omega)
      refine s_ald k113_40 rfl ?_
      refine z_getRe (b := 118) k113_41 rfl rr_16_4 ?_
      refine z_inv0A k113_44 rfl (Nat.le_of_ble_eq_true rfl) (c77 hN hP hG2.x gW hok.1) ?_
      refine z_iret k113_47 ⟨J2, ?_, rfl, hG2, KC.fc gF⟩
      unfold xWat
      rw [if_pos (by omega), if_pos (by omega)]
      exact congrArg (fun u => some (vi u)) hok.2.2.2.symm
    · refine z_push k113_21 ?_
      refine z_iret k113_23 ⟨I, ?_, rfl, hG, KC.rf⟩
      unfold xWat
      rw [if_pos (by omega), if_neg (by omega)]
  · refine z_push k113_11 ?_
    refine z_iret k113_13 ⟨I, ?_, rfl, hG, KC.rf⟩
    unfold xWat
    rw [if_neg (by omega)]
set_option maxRecDepth 20000 in
theorem k114 {d : Nat} {I : Nat → Int → Int} {P : Int → Nat} {dr : Nat} {σ : Nat → Int → Int} (hG : CG I σ P dr) (hW : WFs σ) {r w s : Int} (i_r : inR r) (i_w : inR w) (i_s : inR s) : cal (d + 7) 114 [vr 16, vi r, vi w, vi s] I P dr (clsQ (xLog σ r w s) I P dr) := by
  refine cal_in (Nat.le_of_ble_eq_true rfl) ?_
  obtain ⟨hN, hT, hP, hA, hL⟩ := id hW
  have b0 := hN.1
  have b1 := hN.2.1
  have b2 := hN.2.2.1
  have b10 := hN.2.2.2.2.2.2.2.1
  obtain ⟨hC, hCt, hcp, hCl, hca⟩ := id hG
  obtain ⟨cn, ct, cg, cmr, cmf, cmt, cw, cT, cS, cW⟩ := id hC
  have bp := hP.1
  have hPc : ∀ k, 0 ≤ k → k < 5 → isPl (P k) := hcp.2.1.1
  show wp _ _ _ _ 0 [vr 16, vi r, vi w, vi s] [] _
  refine s_ald k114_0 rfl ?_
  refine z_getRe (b := 17) k114_1 rfl rr_16_0 ?_
  refine s_ild k114_4 rfl ?_
  refine z_inv1A k114_5 rfl (Nat.le_of_ble_eq_true rfl) (c59 hC (by omega) i_w) ?_
  refine z_ifeqb k114_8 (fun h8 => ?_) (fun h8 => ?_)
  · refine z_push k114_22 ?_
    refine z_iret k114_24 ⟨I, ?_, rfl, hG, KC.rf⟩
    unfold xLog
    rw [if_neg (by omega)]
  · refine s_ald k114_11 rfl ?_
    refine z_getRe (b := 17) k114_12 rfl rr_16_0 ?_
    refine s_ild k114_15 rfl ?_
    refine z_inv1A k114_16 rfl (Nat.le_of_ble_eq_true rfl) (c57 hC (by omega) i_s) ?_
    refine z_ifneb k114_19 (fun h19 => ?_) (fun h19 => ?_)
    · refine s_ild k114_25 rfl ?_
      refine z_sta1A k114_26 (Nat.le_of_ble_eq_true rfl) (c127 i_r) ?_
      refine z_ifneb k114_29 (fun h29 => ?_) (fun h29 => ?_)
      · refine s_ald k114_35 rfl ?_
        refine z_getRe (b := 118) k114_36 rfl rr_16_4 ?_
        refine s_ild k114_39 rfl ?_
        refine s_ild k114_40 rfl ?_
        refine s_ild k114_41 rfl ?_
        refine z_push k114_42 ?_
        refine z_iadd k114_43 ?_
        refine z_inv3 k114_44 rfl (Nat.le_of_ble_eq_true rfl) (c76 hN hP hG.x hA (by omega) (by omega) (by omega) (by omega) (by omega) (by omega)) (fun o h1 hq => ?_)
        obtain ⟨rfl, J2, rfl, gF, gW, gL⟩ := hq
        have hG2 := hG.fc hN hP gF
        have hok := run_OK (rule := r) (wh := w) hP (s + 1).toNat (by omega)
        refine s_ald k114_47 rfl ?_
        refine z_getRe (b := 118) k114_48 rfl rr_16_4 ?_
        refine z_getRe (b := 119) k114_51 rfl rr_118_1 ?_
        refine s_ild k114_54 rfl ?_
        refine z_ialde (z := (runS σ r w (s + 1).toNat).1 148 s) k114_55 rfl (by omega) (show s < ((12 : Nat) : Int) by omega) (gL s (by omega) (by omega)) ?_
        refine z_iret k114_56 ⟨J2, ?_, rfl, hG2, KC.fc gF⟩
        unfold xLog
        rw [if_pos (by omega), if_pos (by omega)]
        refine congrArg (fun u => some (vi u)) ?_
        have e := run_lg (σ := σ) (r := r) (w := w) (q := s.toNat) ((σ 127 0).toNat - (s.toNat + 1))
        rw [show s.toNat + 1 + ((σ 127 0).toNat - (s.toNat + 1)) = (σ 127 0).toNat by omega, show ((s.toNat : Nat) : Int) = s by omega] at e
        rw [e, show (s + 1).toNat = s.toNat + 1 by omega]
      · refine z_push k114_32 ?_
        refine z_iret k114_34 ⟨I, ?_, rfl, hG, KC.rf⟩
        unfold xLog
        rw [if_pos (by omega), if_neg (by omega)]
    · refine z_push k114_22 ?_
      refine z_iret k114_24 ⟨I, ?_, rfl, hG, KC.rf⟩
      unfold xLog
      rw [if_neg (by omega)]
set_option maxRecDepth 20000 in
theorem k115 {d : Nat} {I : Nat → Int → Int} {P : Int → Nat} {dr : Nat} {σ : Nat → Int → Int} (hG : CG I σ P dr) (hW : WFs σ) {r w p n : Int} (i_r : inR r) (i_w : inR w) (i_p : inR p) (i_n : inR n) : cal (d + 7) 115 [vr 16, vi r, vi w, vi p, vi n] I P dr (clsQ (xSta σ r w p n) I P dr) := by
  refine cal_in (Nat.le_of_ble_eq_true rfl) ?_
  obtain ⟨hN, hT, hP, hA, hL⟩ := id hW
  have b0 := hN.1
  have b1 := hN.2.1
  have b2 := hN.2.2.1
  have b10 := hN.2.2.2.2.2.2.2.1
  obtain ⟨hC, hCt, hcp, hCl, hca⟩ := id hG
  obtain ⟨cn, ct, cg, cmr, cmf, cmt, cw, cT, cS, cW⟩ := id hC
  have bp := hP.1
  have hPc : ∀ k, 0 ≤ k → k < 5 → isPl (P k) := hcp.2.1.1
  show wp _ _ _ _ 0 [vr 16, vi r, vi w, vi p, vi n] [] _
  refine s_ald k115_0 rfl ?_
  refine z_getRe (b := 17) k115_1 rfl rr_16_0 ?_
  refine s_ild k115_4 rfl ?_
  refine z_inv1A k115_5 rfl (Nat.le_of_ble_eq_true rfl) (c59 hC (by omega) i_w) ?_
  refine z_ifeqb k115_8 (fun h8 => ?_) (fun h8 => ?_)
  · refine z_push k115_22 ?_
    refine z_iret k115_24 ⟨I, ?_, rfl, hG, KC.rf⟩
    unfold xSta
    rw [if_neg (by omega)]
  · refine s_ald k115_11 rfl ?_
    refine z_getRe (b := 42) k115_12 rfl rr_16_2 ?_
    refine s_ild k115_15 rfl ?_
    refine z_inv1A k115_16 rfl (Nat.le_of_ble_eq_true rfl) (c29 hcp.1 bp i_p) ?_
    refine z_ifneb k115_19 (fun h19 => ?_) (fun h19 => ?_)
    · refine s_ild k115_25 rfl ?_
      refine z_sta1A k115_26 (Nat.le_of_ble_eq_true rfl) (c127 i_r) ?_
      refine z_ifeqb k115_29 (fun h29 => ?_) (fun h29 => ?_)
      · refine z_push k115_48 ?_
        refine z_iret k115_50 ⟨I, ?_, rfl, hG, KC.rf⟩
        unfold xSta
        rw [if_pos (by omega), if_neg (by omega)]
      · refine s_ild k115_32 rfl ?_
        refine z_push k115_34 ?_
        refine s_ald k115_35 rfl ?_
        refine z_getRe (b := 17) k115_36 rfl rr_16_0 ?_
        refine z_getIe (z := σ 127 0) k115_39 rfl cn ?_
        refine z_sta3A k115_42 (Nat.le_of_ble_eq_true rfl) (c126 i_n (inR_lit rfl) ⟨by omega, by omega⟩) ?_
        refine z_ifneb k115_45 (fun h45 => ?_) (fun h45 => ?_)
        · refine s_ald k115_51 rfl ?_
          refine z_getRe (b := 118) k115_52 rfl rr_16_4 ?_
          refine s_ild k115_55 rfl ?_
          refine s_ild k115_56 rfl ?_
          refine s_ild k115_57 rfl ?_
          refine z_inv3 k115_59 rfl (Nat.le_of_ble_eq_true rfl) (c76 hN hP hG.x hA (by omega) (by omega) (by omega) (by omega) (by omega) (by omega)) (fun o h1 hq => ?_)
          obtain ⟨rfl, J2, rfl, gF, gW, gL⟩ := hq
          have hG2 := hG.fc hN hP gF
          have hok := run_OK (rule := r) (wh := w) hP (n).toNat (by omega)
          refine s_ald k115_62 rfl ?_
          refine z_getRe (b := 118) k115_63 rfl rr_16_4 ?_
          refine z_getRe (b := 120) k115_66 rfl rr_118_2 ?_
          refine s_ild k115_69 rfl ?_
          refine z_ialde (z := (runS σ r w n.toNat).1 145 p) k115_70 rfl (by omega) (show p < ((5 : Nat) : Int) by omega) (gW p (by omega) (by omega)).1 ?_
          refine z_iret k115_71 ⟨J2, ?_, rfl, hG2, KC.fc gF⟩
          unfold xSta
          rw [if_pos (by omega), if_pos (by omega)]
        · refine z_push k115_48 ?_
          refine z_iret k115_50 ⟨I, ?_, rfl, hG, KC.rf⟩
          unfold xSta
          rw [if_pos (by omega), if_neg (by omega)]
    · refine z_push k115_22 ?_
      refine z_iret k115_24 ⟨I, ?_, rfl, hG, KC.rf⟩
      unfold xSta
      rw [if_neg (by omega)]
set_option maxRecDepth 20000 in
theorem lp198 {d : Nat} {I σ : Nat → Int → Int} {P : Int → Nat} {dr : Nat} (hW : WFs σ) {r : Int} (r0 : 0 ≤ r) (r1 : r ≤ 2) : ∀ (m i : Nat) (J : Nat → Int → Int), (i : Int) + m = σ 127 10 → FW I J → sig J = σ → wp (mcall MT CD (d + 7)) (CD 198) L0 (refQ (surS σ r (σ 127 10).toNat, σ, false) I P dr) 16 [vr 127, vi r, vi (surS σ r i), vi (i : Int)] [] (S0, J, RR P dr) := by
  intro m
  induction m with
  | zero => 
    intro i J hi hF hs
    obtain ⟨hN, hT, hP, hA, hL⟩ := id hW
    have b0 := hN.1
    have b1 := hN.2.1
    have b2 := hN.2.2.1
    have b10 := hN.2.2.2.2.2.2.2.1
    refine s_ild k198_16 rfl ?_
    refine s_ald k198_17 rfl ?_
    refine z_getIe (z := σ 127 10) k198_18 rfl (st_s hs rfl) ?_
    refine s_icge k198_21 ⟨by omega, by omega⟩ ⟨by omega, by omega⟩ (fun h21 => ?_) (fun q => absurd q (by omega))
    refine s_ild k198_64 rfl ?_
    refine z_iret k198_65 ⟨J, ?_, rfl, hs, fun a k hk => hF a k (by omega) (by omega)⟩
    rw [show (σ 127 10).toNat = i by omega]
  | succ m ih => 
    intro i J hi hF hs
    obtain ⟨hN, hT, hP, hA, hL⟩ := id hW
    have b0 := hN.1
    have b1 := hN.2.1
    have b2 := hN.2.2.1
    have b10 := hN.2.2.2.2.2.2.2.1
    refine s_ild k198_16 rfl ?_
    refine s_ald k198_17 rfl ?_
    refine z_getIe (z := σ 127 10) k198_18 rfl (st_s hs rfl) ?_
    refine s_icge k198_21 ⟨by omega, by omega⟩ ⟨by omega, by omega⟩ (fun q => absurd q (by omega)) (fun h21 => ?_)
    have q1 := sur_b (r := r) hN hP i
    have q2 := sc_b (r := r) (w := 2 + (i : Int)) hN hP
    unfold scS at q2
    refine s_ald k198_24 rfl ?_
    refine s_ild k198_25 rfl ?_
    refine z_push k198_26 ?_
    refine s_ild k198_27 rfl ?_
    refine z_iadd k198_28 ?_
    refine s_ald k198_29 rfl ?_
    refine z_getIe (z := σ 127 0) k198_30 rfl (st_s hs rfl) ?_
    refine z_inv3 k198_33 rfl (Nat.le_of_ble_eq_true rfl) (c191 hs hN hP hA (by omega) (by omega) (by omega) (by omega) (by omega) (by omega)) (fun o h1 hq => ?_)
    obtain ⟨rfl, J2, rfl, gF, gR, gS⟩ := hq
    have hs2 : sig J2 = σ := gF.sig.trans hs
    have hF2 := hF.trans gF
    refine s_ild k198_36 rfl ?_
    refine z_push k198_37 ?_
    refine s_iceq k198_38 ⟨by omega, by omega⟩ (inR_lit rfl) (fun h38 => ?_) (fun h38 => ?_)
    · refine s_ald k198_49 rfl ?_
      refine z_getIe (z := (runS σ r (2 + (i : Int)) (σ 127 0).toNat).2.2.2.2) k198_50 rfl gS ?_
      refine z_goto k198_53 ?_
      refine s_ist2 k198_57 rfl ?_
      refine s_iinc3 k198_58 rfl ?_
      refine z_goto k198_61 ?_
      have k := ih (i + 1) J2 (by omega) hF2 hs2
      rw [sur_s, if_pos (by unfold scS; omega)] at k
      exact k
    · refine s_ald k198_41 rfl ?_
      refine z_getIe (z := (runS σ r (2 + (i : Int)) (σ 127 0).toNat).2.2.2.2) k198_42 rfl gS ?_
      refine s_ild k198_45 rfl ?_
      refine s_icge k198_46 ⟨by omega, by omega⟩ ⟨by omega, by omega⟩ (fun h46 => ?_) (fun h46 => ?_)
      · refine s_ild k198_56 rfl ?_
        refine s_ist2 k198_57 rfl ?_
        refine s_iinc3 k198_58 rfl ?_
        refine z_goto k198_61 ?_
        have k := ih (i + 1) J2 (by omega) hF2 hs2
        rw [sur_s, if_neg (by unfold scS; omega)] at k
        exact k
      · refine s_ald k198_49 rfl ?_
        refine z_getIe (z := (runS σ r (2 + (i : Int)) (σ 127 0).toNat).2.2.2.2) k198_50 rfl gS ?_
        refine z_goto k198_53 ?_
        refine s_ist2 k198_57 rfl ?_
        refine s_iinc3 k198_58 rfl ?_
        refine z_goto k198_61 ?_
        have k := ih (i + 1) J2 (by omega) hF2 hs2
        rw [sur_s, if_pos (by unfold scS; omega)] at k
        exact k
set_option maxRecDepth 20000 in
theorem r198 {d : Nat} {I : Nat → Int → Int} {P : Int → Nat} {dr : Nat} {σ : Nat → Int → Int} (hs : sig I = σ) (hW : WFs σ) {r : Int} (i_r : inR r) : cal (d + 8) 198 [vr 127, vi r] I P dr (refQ (xSur σ r) I P dr) := by
  refine cal_in (Nat.le_of_ble_eq_true rfl) ?_
  obtain ⟨hN, hT, hP, hA, hL⟩ := id hW
  have b0 := hN.1
  have b1 := hN.2.1
  have b2 := hN.2.2.1
  have b10 := hN.2.2.2.2.2.2.2.1
  show wp _ _ _ _ 0 [vr 127, vi r, vj, vj] [] _
  refine s_ild k198_0 rfl ?_
  refine z_push k198_1 ?_
  refine z_push k198_2 ?_
  refine z_sta3A k198_3 (Nat.le_of_ble_eq_true rfl) (c136 i_r (inR_lit rfl) (inR_lit rfl)) ?_
  refine z_ifneb k198_6 (fun h6 => ?_) (fun h6 => ?_)
  · refine z_push k198_12 ?_
    refine s_ist2 k198_13 rfl ?_
    refine z_push k198_14 ?_
    refine s_ist3 k198_15 rfl ?_
    unfold xSur
    rw [if_pos (by omega)]
    exact lp198 hW (by omega) (by omega) (σ 127 10).toNat 0 I (by omega) FW.rf hs
  · refine z_push k198_9 ?_
    refine z_iret k198_11 ⟨I, ?_, rfl, hs, fun _ _ _ => rfl⟩
    unfold xSur
    rw [if_neg (by omega)]
theorem c77s {d : Nat} {J σ : Nat → Int → Int} {P : Int → Nat} {dr : Nat} {x : mW4} (hN : WFn σ) (hP : WFp σ) (hX : CX J σ P dr) (hS : CWs σ J x.1) (hok : wOK σ x) : cal (d + 1) 77 [vr 118] J P dr (ans (vi x.2.2.2.2) J P dr) := by
  have e := c77 (d := d) hN hP hX hS hok.1
  rw [← hok.2.2.2] at e
  exact e
set_option maxRecDepth 20000 in
theorem lp117 {d : Nat} {I σ : Nat → Int → Int} {P : Int → Nat} {dr : Nat} (hG0 : CG I σ P dr) (hW : WFs σ) {r : Int} (r0 : 0 ≤ r) (r1 : r ≤ 2) : ∀ (m i : Nat) (J : Nat → Int → Int) (l4 : mV), (i : Int) + m = σ 127 10 → FC I J → wp (mcall MT CD (d + 6)) (CD 117) L0 (clsQ (surS σ r (σ 127 10).toNat, σ, false) I P dr) 14 [vr 16, vi r, vi (surS σ r i), vi (i : Int), l4] [] (S0, J, RR P dr) := by
  intro m
  induction m with
  | zero => 
    intro i J l4 hi hF
    obtain ⟨hN, hT, hP, hA, hL⟩ := id hW
    have b0 := hN.1
    have b1 := hN.2.1
    have b2 := hN.2.2.1
    have b10 := hN.2.2.2.2.2.2.2.1
    have hG := hG0.fc hN hP hF
    have bp := hP.1
    obtain ⟨hC, hCt, hcp, hCl, hca⟩ := id hG
    obtain ⟨cn, ct, cg, cmr, cmf, cmt, cw, cT, cS, cW⟩ := id hC
    refine s_ild k117_14 rfl ?_
    refine s_ald k117_15 rfl ?_
    refine z_getRe (b := 17) k117_16 rfl rr_16_0 ?_
    refine z_getIe (z := σ 127 10) k117_19 rfl cw ?_
    refine s_icge k117_22 ⟨by omega, by omega⟩ ⟨by omega, by omega⟩ (fun h22 => ?_) (fun q => absurd q (by omega))
    refine s_ild k117_72 rfl ?_
    refine z_iret k117_73 ⟨J, ?_, rfl, hG, KC.fc hF⟩
    rw [show (σ 127 10).toNat = i by omega]
  | succ m ih => 
    intro i J l4 hi hF
    obtain ⟨hN, hT, hP, hA, hL⟩ := id hW
    have b0 := hN.1
    have b1 := hN.2.1
    have b2 := hN.2.2.1
    have b10 := hN.2.2.2.2.2.2.2.1
    have hG := hG0.fc hN hP hF
    have bp := hP.1
    obtain ⟨hC, hCt, hcp, hCl, hca⟩ := id hG
    obtain ⟨cn, ct, cg, cmr, cmf, cmt, cw, cT, cS, cW⟩ := id hC
    refine s_ild k117_14 rfl ?_
    refine s_ald k117_15 rfl ?_
    refine z_getRe (b := 17) k117_16 rfl rr_16_0 ?_
    refine z_getIe (z := σ 127 10) k117_19 rfl cw ?_
    refine s_icge k117_22 ⟨by omega, by omega⟩ ⟨by omega, by omega⟩ (fun q => absurd q (by omega)) (fun h22 => ?_)
    have q1 := sur_b (r := r) hN hP i
    have q2 := sc_b (r := r) (w := 2 + (i : Int)) hN hP
    unfold scS at q2
    refine s_ald k117_25 rfl ?_
    refine z_getRe (b := 118) k117_26 rfl rr_16_4 ?_
    refine s_ild k117_29 rfl ?_
    refine z_push k117_30 ?_
    refine s_ild k117_31 rfl ?_
    refine z_iadd k117_32 ?_
    refine s_ald k117_33 rfl ?_
    refine z_getRe (b := 17) k117_34 rfl rr_16_0 ?_
    refine z_getIe (z := σ 127 0) k117_37 rfl cn ?_
    refine z_inv3 k117_40 rfl (Nat.le_of_ble_eq_true rfl) (c76 hN hP hG.x hA (by omega) (by omega) (by omega) (by omega) (by omega) (by omega)) (fun o h1 hq => ?_)
    obtain ⟨rfl, J2, rfl, gF, gW, gL⟩ := hq
    have hG2 := hG.fc hN hP gF
    have hF2 := hF.trans gF
    have hok := run_OK (rule := r) (wh := 2 + (i : Int)) hP (σ 127 0).toNat (by omega)
    refine s_ald k117_43 rfl ?_
    refine z_getRe (b := 118) k117_44 rfl rr_16_4 ?_
    refine z_inv0A k117_47 rfl (Nat.le_of_ble_eq_true rfl) (c77s hN hP hG2.x gW hok) ?_
    refine s_ist4 k117_50 rfl ?_
    refine s_ild k117_52 rfl ?_
    refine z_push k117_53 ?_
    refine s_iceq k117_54 ⟨by omega, by omega⟩ (inR_lit rfl) (fun h54 => ?_) (fun h54 => ?_)
    · refine s_ild k117_63 rfl ?_
      refine s_ist2 k117_65 rfl ?_
      refine s_iinc3 k117_66 rfl ?_
      refine z_goto k117_69 ?_
      have k := ih (i + 1) J2 (vi ((runS σ r (2 + (i : Int)) (σ 127 0).toNat).2.2.2.2)) (by omega) hF2
      rw [sur_s, if_pos (by unfold scS; omega)] at k
      exact k
    · refine s_ild k117_57 rfl ?_
      refine s_ild k117_59 rfl ?_
      refine s_icge k117_60 ⟨by omega, by omega⟩ ⟨by omega, by omega⟩ (fun h60 => ?_) (fun h60 => ?_)
      · refine s_iinc3 k117_66 rfl ?_
        refine z_goto k117_69 ?_
        have k := ih (i + 1) J2 (vi ((runS σ r (2 + (i : Int)) (σ 127 0).toNat).2.2.2.2)) (by omega) hF2
        rw [sur_s, if_neg (by unfold scS; omega)] at k
        exact k
      · refine s_ild k117_63 rfl ?_
        refine s_ist2 k117_65 rfl ?_
        refine s_iinc3 k117_66 rfl ?_
        refine z_goto k117_69 ?_
        have k := ih (i + 1) J2 (vi ((runS σ r (2 + (i : Int)) (σ 127 0).toNat).2.2.2.2)) (by omega) hF2
        rw [sur_s, if_pos (by unfold scS; omega)] at k
        exact k
set_option maxRecDepth 20000 in
theorem k117 {d : Nat} {I : Nat → Int → Int} {P : Int → Nat} {dr : Nat} {σ : Nat → Int → Int} (hG : CG I σ P dr) (hW : WFs σ) {r : Int} (i_r : inR r) : cal (d + 7) 117 [vr 16, vi r] I P dr (clsQ (xSur σ r) I P dr) := by
  refine cal_in (Nat.le_of_ble_eq_true rfl) ?_
  obtain ⟨hN, hT, hP, hA, hL⟩ := id hW
  have b0 := hN.1
  have b1 := hN.2.1
  have b2 := hN.2.2.1
  have b10 := hN.2.2.2.2.2.2.2.1
  obtain ⟨hC, hCt, hcp, hCl, hca⟩ := id hG
  obtain ⟨cn, ct, cg, cmr, cmf, cmt, cw, cT, cS, cW⟩ := id hC
  have bp := hP.1
  have hPc : ∀ k, 0 ≤ k → k < 5 → isPl (P k) := hcp.2.1.1
  show wp _ _ _ _ 0 [vr 16, vi r, vj, vj, vj] [] _
  refine s_ild k117_0 rfl ?_
  refine z_sta1A k117_1 (Nat.le_of_ble_eq_true rfl) (c127 i_r) ?_
  refine z_ifneb k117_4 (fun h4 => ?_) (fun h4 => ?_)
  · refine z_push k117_10 ?_
    refine s_ist2 k117_11 rfl ?_
    refine z_push k117_12 ?_
    refine s_ist3 k117_13 rfl ?_
    unfold xSur
    rw [if_pos (by omega)]
    exact lp117 hG hW (by omega) (by omega) (σ 127 10).toNat 0 I _ (by omega) FC.rf
  · refine z_push k117_7 ?_
    refine z_iret k117_9 ⟨I, ?_, rfl, hG, KC.rf⟩
    unfold xSur
    rw [if_neg (by omega)]
