/-! the best night, the class: refresh -/
/-- what a refresh may touch -/
def FCa (I J : Nat → Int → Int) : Prop := ∀ a q, ¬ (a = 69 ∧ 15 ≤ q ∧ q ≤ 17) → ¬ (71 ≤ a ∧ a ≤ 117) → J a q = I a q
theorem FCa.rf {I : Nat → Int → Int} : FCa I I := fun _ _ _ _ => rfl
theorem FCa.tr {I J K : Nat → Int → Int} (h : FCa I J) (h' : FCa J K) : FCa I K := fun a k h1 h2 => (h' a k h1 h2).trans (h a k h1 h2)
theorem FCa.to {I J K : Nat → Int → Int} (h : FCa I J) (h' : ∀ a q, ¬ (71 ≤ a ∧ a ≤ 117) → K a q = J a q) : FCa I K := fun a k h1 h2 => (h' a k h2).trans (h a k h1 h2)
/-- the tables, whether they hold or not -/
def CBx (I : Nat → Int → Int) (g : Nat) : Prop := I 69 15 = (g : Int) ∧ (I 114 0 = 0 ∧ I 115 0 = 0 ∧ I 116 0 = 0) ∧ (I 69 17 = 0 ∨ I 69 17 = 1) ∧ ∀ x : Int, 0 ≤ x → x < 1024 → ∃ k : Nat, I 117 x = (k : Int) ∧ k < (g + 1) * 2 ^ 53
def CKa (σ I : Nat → Int → Int) : Prop := ∀ p : Nat, (p : Int) < σ 127 21 → CK I p (plS σ p)
/-- the tables, when they hold -/
def CFr (σ I : Nat → Int → Int) (g : Nat) : Prop := CKa σ I ∧ TBw σ I (2 ^ nP σ) ∧ TBl σ I (2 ^ nP σ) ∧ HM σ I g ∧ ∃ (f : Nat) (cf : Nat → Nat), I 69 16 = (f : Int) ∧ f < 2 ^ nP σ ∧ Abl σ I f cf ∧ ∀ s2 d, s2 < 2 ^ nP σ → Vec σ s2 d → eqN (nP σ) cf d ∨ betL (nP σ) (Wf σ (wS σ)) (Wf σ (zS σ)) cf d
def Q2 (σ I : Nat → Int → Int) (P : Int → Nat) (dr g : Nat) : mQ := fun o h => o = none ∧ ∃ J g', h = (S0, J, RR P dr) ∧ FCa I J ∧ g' ≤ g ∧ CBx J g' ∧ J 69 17 = 1 ∧ CFr σ J g'
/-- under way -/
def CW (σ I J : Nat → Int → Int) (g : Nat) : Prop := J 69 15 = (g : Int) ∧ (J 114 0 = 0 ∧ J 115 0 = 0 ∧ J 116 0 = 0) ∧ HM σ J g ∧ FCa I J
theorem CKa.k {σ I J : Nat → Int → Int} (hP : WFp σ) (h : CKa σ I) (k : ∀ a q, 71 ≤ a → a ≤ 78 → J a q = I a q) : CKa σ J := fun p hp => by
  have bp := hP.1
  obtain ⟨h1, h2, h3⟩ := h p hp
  exact ⟨(k 76 _ (by omega) (by omega)).trans h1, fun i hi => (k (71 + p) _ (by omega) (by omega)).trans (h2 i hi), (k 78 _ (by omega) (by omega)).trans h3⟩
theorem TBl.k {σ I J : Nat → Int → Int} {s : Nat} (h : TBl σ I s) (k : ∀ q : Nat, q < s → J 80 q = I 80 q ∧ ∀ x, J (82 + q) x = I (82 + q) x) : TBl σ J s := fun q hq => by
  obtain ⟨k1, k2⟩ := k q hq
  rcases h q hq with ⟨h1, c, h2, h3⟩ | ⟨h1, h2⟩
  · exact Or.inl ⟨k1.trans h1, c, h2, fun x hx => (k2 _).trans (h3 x hx)⟩
  · exact Or.inr ⟨k1.trans h1, h2⟩
theorem TBl.s {σ J : Nat → Int → Int} {s : Nat} (h : TBl σ J s) (hs : (J 80 s = 1 ∧ ∃ c, FirS σ (nP σ) 0 s 0 c ∧ ∀ q : Nat, q < nP σ → J (82 + s) q = (c q : Int)) ∨ (J 80 s = 0 ∧ ∀ c, ¬ solS σ (nP σ) 0 s 0 c)) : TBl σ J (s + 1) := fun q hq => by
  by_cases e : q = s
  · subst e; exact hs
  · exact h q (by omega)
theorem TBw.k {σ I J : Nat → Int → Int} {s : Nat} (h : TBw σ I s) (k : ∀ a q, 114 ≤ a → a ≤ 116 → J a q = I a q) : TBw σ J s := fun q hq => by
  obtain ⟨h1, h2, h3⟩ := h q hq
  exact ⟨(k 114 _ (by omega) (by omega)).trans h1, (k 115 _ (by omega) (by omega)).trans h2, (k 116 _ (by omega) (by omega)).trans h3⟩
theorem TBw.z {σ J : Nat → Int → Int} {s : Nat} (h : TBw σ J (s + 1)) : J 114 0 = 0 ∧ J 115 0 = 0 ∧ J 116 0 = 0 := by
  have u0 : ∀ k, uS σ 0 k = 0 := fun k => by
    induction k with
    | zero => rfl
    | succ k ih => rw [u_s, ih, if_neg (by rw [Nat.zero_testBit]; decide)]; rfl
  have h0 := h 0 (by omega)
  rw [sB_0 _ (fun q _ => Nat.zero_testBit q), sB_0 _ (fun q _ => Nat.zero_testBit q), u0] at h0
  exact h0
theorem c17w {d : Nat} {I : Nat → Int → Int} {σ : Nat → Int → Int} {P : Int → Nat} {dr g s : Nat} (hN : WFn σ) (hP : WFp σ) (hs : s < 2 ^ nP σ) (hg : g < 1000) (hX : CSx σ I P dr g s) (hM : HM σ I g) : cal (d + 8) 17 [vr 69, vi (s : Int), vi 0, vl ((0 : Nat) : Int)] I P dr (fun o h => ∃ J, h = (S0, J, RR P dr) ∧ (∀ a q, a ≠ 117 → ¬ (a = 79 ∧ (0 : Int) ≤ q) → J a q = I a q) ∧ HM σ J g ∧ ((o = some (vi 1) ∧ ∃ c, FirS σ (nP σ) 0 s 0 c ∧ ∀ q : Nat, 0 ≤ q → q < nP σ → J 79 q = (c q : Int)) ∨ (o = some (vi 0) ∧ ∀ c, ¬ solS σ (nP σ) 0 s 0 c))) := by
  have bp := hP.1
  have hnp : nP σ = (σ 127 21).toNat := rfl
  have hn2 := np2 hP
  have h := c17 (S := s) hN hP (Nat.le_refl s) (by omega) (fun q hq => Nat.testBit_lt_two_pow (Nat.lt_of_lt_of_le hs (Nat.pow_le_pow_right (by decide) hq))) hg (nP σ) (d := d + (5 - nP σ)) (p := 0) (t := 0) (by omega) hX hM TKn_0
  rw [show d + (5 - nP σ) + nP σ + 3 = d + 8 by omega] at h
  exact h
theorem no_size {σ : Nat → Int → Int} (hN : WFn σ) (hP : WFp σ) {s : Nat} (h : σ 127 0 < sB (zS σ) s (nP σ)) (c : Nat → Nat) : ¬ solS σ (nP σ) 0 s 0 c := fun hc => by
  have b0 := hN.1
  have h1 := sol_size (ln := lnS σ) (mk := mkQ σ) (is_ := isS σ) (sz := szP σ) (n := (σ 127 0).toNat) (by omega) (by omega) (fun p k hk => mk_b hN hP p k hk) (fun p => is_b hP p) (nP σ) 0 s 0 c TKn_0 hc
  have h2 := szB_sB (sz := szP σ) (s := s) (nP σ) 0
  have h3 : sB (fun q => (szP σ q : Int)) s 0 = 0 := rfl
  rw [h3, Nat.zero_add] at h2
  have h4 : sB (fun q => (szP σ q : Int)) s (nP σ) = sB (zS σ) s (nP σ) := rfl
  rw [h4] at h2
  have h5 : pcN 16 (anR 0) = 0 := by decide
  omega
set_option maxRecDepth 20000 in
theorem lp2b {d : Nat} {I σ : Nat → Int → Int} {P : Int → Nat} {dr : Nat} (hN : WFn σ) (hP : WFp σ) (hC : CRn I σ) (hcp : CRp I σ P dr) {g : Nat} (hg : g < 1000) : ∀ (m s : Nat) (J : Nat → Int → Int), s + m = 2 ^ nP σ → CW σ I J g → CKa σ J → TBw σ J s → TBl σ J s → wp (mcall MT CD (d + 8)) (CD 2) L0 (Q2 σ I P dr g) 44 [vr 69, vi (s : Int)] [] (S0, J, RR P dr) := by
  have bp := hP.1
  have b0 := hN.1
  have hnp : nP σ = (σ 127 21).toNat := rfl
  have hn2 := np2 hP
  have hz1 := z1n hP
  intro m
  induction m with
  | zero =>
    intro s J hi hW hK hT hl
    have hCJ := hC.keep hN (fun a q _ _ => hW.2.2.2 a q (by omega) (by omega))
    have hcpJ := hcp.keep hP (fun a q _ _ => hW.2.2.2 a q (by omega) (by omega))
    have es : s = 2 ^ nP σ := by omega
    subst es
    refine s_ild k2_44 rfl ?_
    refine z_push k2_45 ?_
    refine s_ald k2_46 rfl ?_
    refine z_getRe (b := 42) k2_47 rfl rr_69_5 ?_
    refine z_getIe (z := σ 127 21) k2_50 rfl hcpJ.1 ?_
    refine z_ishl k2_53 ?_
    refine z_eqi (b := ((2 ^ nP σ : Nat) : Int)) hz1 ?_
    refine s_icge k2_54 ⟨by omega, by omega⟩ ⟨by omega, by omega⟩ (fun h54 => ?_) (fun q => absurd q (by omega))
    refine s_ald k2_144 rfl ?_
    refine s_ald k2_145 rfl ?_
    refine z_push k2_146 ?_
    refine z_push k2_147 ?_
    refine z_inv2 k2_148 rfl (Nat.le_of_ble_eq_true rfl) (c25 hN hP hcpJ hT hl (wf := wS σ) (fun s hs => c27n hN hP hcpJ hT hl hs) (fun s => by have := (sB_b hP (s := s) (nP σ) (by omega)).1; omega)) (fun o h1 hq => ?_)
    obtain ⟨rfl, f, cf, rfl, f1, f2, f3⟩ := hq
    refine z_putIe (q := 16) k2_151 rfl rfl ?_
    refine s_ald k2_154 rfl ?_
    refine z_push k2_155 ?_
    refine z_putZe (q := 17) k2_156 rfl rfl (by decide) ?_
    have k1 : ∀ a q, a ≠ 69 → upI (upI J 69 16 (f : Int)) 69 17 1 a q = J a q := fun a q h => (up_ne h).trans (up_ne h)
    refine z_vret k2_159 ⟨rfl, _, g, rfl, fun a q h1 h2 => (if_neg (by omega)).trans ((if_neg (by omega)).trans (hW.2.2.2 a q h1 h2)), Nat.le_refl g, ⟨(up_nk (by decide)).trans ((up_nk (by decide)).trans hW.1), ⟨(k1 _ _ (by decide)).trans hW.2.1.1, (k1 _ _ (by decide)).trans hW.2.1.2.1, (k1 _ _ (by decide)).trans hW.2.1.2.2⟩, Or.inr up_at, fun x x0 x1 => ?_⟩, up_at, ?_⟩
    · obtain ⟨k, e1, e2, -⟩ := hW.2.2.1 x x0 x1
      exact ⟨k, (k1 _ _ (by decide)).trans e1, e2⟩
    · refine ⟨hK.k hP (fun a q _ _ => k1 a q (by omega)), hT.k (fun a q _ _ => k1 a q (by omega)), hl.k (fun q _ => ⟨k1 _ _ (by decide), fun x => k1 _ _ (by omega)⟩), hW.2.2.1.no (fun x => k1 _ _ (by decide)), f, cf, (up_nk (by decide)).trans up_at, f1, ⟨(k1 _ _ (by decide)).trans f2.1, f2.2.1, fun q hq => (k1 _ _ (by omega)).trans (f2.2.2 q hq)⟩, f3⟩
  | succ m ih =>
    intro s J hi hW hK hT hl
    have hCJ := hC.keep hN (fun a q _ _ => hW.2.2.2 a q (by omega) (by omega))
    have hcpJ := hcp.keep hP (fun a q _ _ => hW.2.2.2 a q (by omega) (by omega))
    have hno : ∀ K : Nat → Int → Int, CW σ I K g → CKa σ K → TBw σ K (s + 1) → TBl σ K s → (∀ c, ¬ solS σ (nP σ) 0 s 0 c) → wp (mcall MT CD (d + 8)) (CD 2) L0 (Q2 σ I P dr g) 105 [vr 69, vi (s : Int)] [vi (s : Int), vr 80] (S0, K, RR P dr) := by
      intro K hW hK hT hl hn
      refine z_push k2_105 ?_
      refine z_bast k2_106 rfl (by omega) (show (s : Int) < ((32 : Nat) : Int) by omega) (by decide) ?_
      refine s_ald k2_107 rfl ?_
      refine z_getRe (b := 80) k2_108 rfl rr_69_9 ?_
      refine s_ild k2_111 rfl ?_
      refine z_balde (z := 0) k2_112 rfl (by omega) (show (s : Int) < ((32 : Nat) : Int) by omega) up_at ?_
      refine s_ifeq k2_113 (inR_lit rfl) (fun _ => ?_) (fun q => absurd q (by decide))
      refine s_iinc1 k2_138 rfl ?_
      refine z_goto k2_141 ?_
      have e : (s : Int) + 1 = ((s + 1 : Nat) : Int) := rfl
      rw [e]
      refine ih (s + 1) _ (by omega) ⟨(up_ne (by decide)).trans hW.1, ⟨(up_ne (by decide)).trans hW.2.1.1, (up_ne (by decide)).trans hW.2.1.2.1, (up_ne (by decide)).trans hW.2.1.2.2⟩, hW.2.2.1.no (fun x => up_ne (by decide)), hW.2.2.2.to (fun a q h => up_ne (by omega))⟩ (hK.k hP (fun a q _ _ => up_ne (by omega))) (hT.k (fun a q _ _ => up_ne (by omega))) (TBl.s (hl.k (fun q hq => ⟨up_nk (by omega), fun x => up_ne (by omega)⟩)) (Or.inr ⟨up_at, hn⟩))
    have hyes : ∀ (K : Nat → Int → Int) (c : Nat → Nat), CW σ I K g → CKa σ K → TBw σ K (s + 1) → TBl σ K s → FirS σ (nP σ) 0 s 0 c → (∀ q : Nat, q < nP σ → K 79 q = (c q : Int)) → wp (mcall MT CD (d + 8)) (CD 2) L0 (Q2 σ I P dr g) 101 [vr 69, vi (s : Int)] [vi (s : Int), vr 80] (S0, K, RR P dr) := by
      intro K c hW hK hT hl hc hq
      have hcpK := hcp.keep hP (fun a q _ _ => hW.2.2.2 a q (by omega) (by omega))
      refine z_push k2_101 ?_
      refine z_goto k2_102 ?_
      refine z_bast k2_106 rfl (by omega) (show (s : Int) < ((32 : Nat) : Int) by omega) (by decide) ?_
      refine s_ald k2_107 rfl ?_
      refine z_getRe (b := 80) k2_108 rfl rr_69_9 ?_
      refine s_ild k2_111 rfl ?_
      refine z_balde (z := 1) k2_112 rfl (by omega) (show (s : Int) < ((32 : Nat) : Int) by omega) up_at ?_
      refine s_ifeq k2_113 (inR_lit rfl) (fun q => absurd q (by decide)) (fun _ => ?_)
      refine s_ald k2_116 rfl ?_
      refine z_getRe (b := 79) k2_117 rfl rr_69_8 ?_
      refine z_push k2_120 ?_
      refine s_ald k2_121 rfl ?_
      refine z_getRe (b := 81) k2_122 rfl rr_69_10 ?_
      refine s_ild k2_125 rfl ?_
      refine z_aalde (b := 82 + (s : Int).toNat) k2_126 rfl (by omega) (show (s : Int) < ((32 : Nat) : Int) by omega) (rr_fi (by omega) (by omega)) ?_
      refine z_push k2_127 ?_
      refine s_ald k2_128 rfl ?_
      refine z_getRe (b := 42) k2_129 rfl rr_69_5 ?_
      refine z_getIe (z := σ 127 21) k2_132 rfl ((up_ne (by decide)).trans hcpK.1) ?_
      have ets : ((s : Nat) : Int).toNat = s := Int.toNat_natCast s
      rw [ets]
      refine z_copy k2_135 rfl (by rw [fi_sh (by omega)]) (Int.le_refl 0) (Int.le_refl 0) (by omega) (show 0 + σ 127 21 ≤ ((5 : Nat) : Int) by omega) (by rw [fi_sh (by omega)]; show 0 + σ 127 21 ≤ ((5 : Nat) : Int); omega) (by decide) ?_
      refine s_iinc1 k2_138 rfl ?_
      refine z_goto k2_141 ?_
      have e : (s : Int) + 1 = ((s + 1 : Nat) : Int) := rfl
      rw [e]
      have kk : ∀ a q, a ≠ 80 → a ≠ 82 + s → mcp (upI K 80 (s : Int) 1) 79 (82 + s) 0 0 (σ 127 21) a q = K a q := fun a q h1 h2 => (if_neg (fun u => h2 u.1)).trans (up_ne h1)
      refine ih (s + 1) _ (by omega) ⟨(kk _ _ (by decide) (by omega)).trans hW.1, ⟨(kk _ _ (by decide) (by omega)).trans hW.2.1.1, (kk _ _ (by decide) (by omega)).trans hW.2.1.2.1, (kk _ _ (by decide) (by omega)).trans hW.2.1.2.2⟩, hW.2.2.1.no (fun x => kk _ _ (by decide) (by omega)), hW.2.2.2.to (fun a q h => kk a q (by omega) (by omega))⟩ (hK.k hP (fun a q _ _ => kk a q (by omega) (by omega))) (hT.k (fun a q _ _ => kk a q (by omega) (by omega))) (TBl.s (hl.k (fun q hq => ⟨(if_neg (fun u => absurd u.1 (by omega))).trans (up_nk (by omega)), fun x => kk _ _ (by omega) (by omega)⟩)) (Or.inl ⟨(if_neg (fun u => absurd u.1 (by omega))).trans up_at, c, hc, fun q hq2 => (if_pos ⟨rfl, by omega, by omega⟩).trans ((up_ne (by decide)).trans ?_)⟩))
      rw [show (0 : Int) + ((q : Int) - 0) = (q : Int) by omega]
      exact hq q hq2
    refine s_ild k2_44 rfl ?_
    refine z_push k2_45 ?_
    refine s_ald k2_46 rfl ?_
    refine z_getRe (b := 42) k2_47 rfl rr_69_5 ?_
    refine z_getIe (z := σ 127 21) k2_50 rfl hcpJ.1 ?_
    refine z_ishl k2_53 ?_
    refine z_eqi (b := ((2 ^ nP σ : Nat) : Int)) hz1 ?_
    refine s_icge k2_54 ⟨by omega, by omega⟩ ⟨by omega, by omega⟩ (fun q => absurd q (by omega)) (fun h54 => ?_)
    refine s_ald k2_57 rfl ?_
    refine s_ild k2_58 rfl ?_
    refine z_inv1 k2_59 rfl (Nat.le_of_ble_eq_true rfl) (c15 hN hP hcpJ hK (by omega) hT hW.2.1) (fun o h1 hq => ?_)
    obtain ⟨rfl, K, rfl, kF, kT⟩ := hq
    have hWK : CW σ I K g := ⟨(kF 69 15 (by omega)).trans hW.1, kT.z, hW.2.2.1.no (fun x => kF 117 x (by omega)), hW.2.2.2.to (fun a q h => kF a q (by omega))⟩
    have hKK : CKa σ K := hK.k hP (fun a q _ _ => kF a q (by omega))
    have hlK : TBl σ K s := hl.k (fun q hq => ⟨kF 80 _ (by omega), fun x => kF (82 + q) x (by omega)⟩)
    have hCK := hC.keep hN (fun a q _ _ => hWK.2.2.2 a q (by omega) (by omega))
    have hcpK := hcp.keep hP (fun a q _ _ => hWK.2.2.2 a q (by omega) (by omega))
    refine s_ald k2_62 rfl ?_
    refine z_getRe (b := 80) k2_63 rfl rr_69_9 ?_
    refine s_ild k2_66 rfl ?_
    refine s_ald k2_67 rfl ?_
    refine s_ild k2_68 rfl ?_
    refine z_inv1 k2_69 rfl (Nat.le_of_ble_eq_true rfl) (c16 hN hP hcpK (by omega) hlK) (fun o h1 hq => ?_)
    obtain ⟨rfl, ⟨rfl, -⟩ | ⟨rfl, hn⟩⟩ := hq
    · refine s_ifeq k2_72 (inR_lit rfl) (fun q => absurd q (by decide)) (fun _ => ?_)
      refine s_ald k2_75 rfl ?_
      refine z_getRe (b := 115) k2_76 rfl rr_69_12 ?_
      refine s_ild k2_79 rfl ?_
      have hzb := (sB_b hP (s := s) (nP σ) (by omega)).2
      refine z_ialde (z := sB (zS σ) s (nP σ)) k2_80 rfl (by omega) (show (s : Int) < ((32 : Nat) : Int) by omega) (kT s (by omega)).2.1 ?_
      refine s_ald k2_81 rfl ?_
      refine z_getRe (b := 17) k2_82 rfl rr_69_4 ?_
      refine z_getIe (z := σ 127 0) k2_85 rfl hCK.1 ?_
      refine s_icgt k2_88 ⟨by omega, by omega⟩ ⟨by omega, by omega⟩ (fun h88 => ?_) (fun h88 => ?_)
      · exact hno K hWK hKK kT hlK (fun c => no_size hN hP (by omega) c)
      · refine s_ald k2_91 rfl ?_
        refine s_ild k2_92 rfl ?_
        refine z_push k2_93 ?_
        refine z_push k2_94 ?_
        refine z_inv3 k2_95 rfl (Nat.le_of_ble_eq_true rfl) (c17w hN hP (by omega) hg ⟨hCK.1, hcpK, hKK, fun q hq => (kT q (by omega)).2, hWK.1⟩ hWK.2.2.1) (fun o h1 hq => ?_)
        obtain ⟨M, rfl, mF, hM, hq⟩ := hq
        have mk1 : ∀ a q, a ≠ 79 → a ≠ 117 → M a q = K a q := fun a q h1 h2 => mF a q h2 (fun u => h1 u.1)
        have hWM : CW σ I M g := ⟨(mk1 _ _ (by decide) (by decide)).trans hWK.1, ⟨(mk1 _ _ (by decide) (by decide)).trans hWK.2.1.1, (mk1 _ _ (by decide) (by decide)).trans hWK.2.1.2.1, (mk1 _ _ (by decide) (by decide)).trans hWK.2.1.2.2⟩, hM, hWK.2.2.2.to (fun a q h => mk1 a q (by omega) (by omega))⟩
        have hKM : CKa σ M := hKK.k hP (fun a q _ _ => mk1 a q (by omega) (by omega))
        have hTM : TBw σ M (s + 1) := kT.k (fun a q _ _ => mk1 a q (by omega) (by omega))
        have hlM : TBl σ M s := hlK.k (fun q hq => ⟨mk1 80 _ (by decide) (by decide), fun x => mk1 (82 + q) x (by omega) (by omega)⟩)
        rcases hq with ⟨rfl, c, hc, hc2⟩ | ⟨rfl, hn⟩
        · refine s_ifeq k2_98 (inR_lit rfl) (fun q => absurd q (by decide)) (fun _ => ?_)
          exact hyes M c hWM hKM hTM hlM hc (fun q hq => hc2 q (Nat.zero_le q) hq)
        · refine s_ifeq k2_98 (inR_lit rfl) (fun _ => ?_) (fun q => absurd rfl q)
          exact hno M hWM hKM hTM hlM hn
    · refine s_ifeq k2_72 (inR_lit rfl) (fun _ => ?_) (fun q => absurd rfl q)
      exact hno K hWK hKK kT hlK hn
set_option maxRecDepth 20000 in
theorem lp2a {d : Nat} {I σ : Nat → Int → Int} {P : Int → Nat} {dr : Nat} (hN : WFn σ) (hP : WFp σ) (hC : CRn I σ) (hcp : CRp I σ P dr) {g : Nat} (hg : g < 1000) : ∀ (m i : Nat) (J : Nat → Int → Int), i + m = nP σ → CW σ I J g → (∀ p : Nat, p < i → CK J p (plS σ p)) → wp (mcall MT CD (d + 8)) (CD 2) L0 (Q2 σ I P dr g) 20 [vr 69, vi (i : Int)] [] (S0, J, RR P dr) := by
  have bp := hP.1
  have b0 := hN.1
  have hnp : nP σ = (σ 127 21).toNat := rfl
  have hn2 := np2 hP
  have hz1 := z1n hP
  intro m
  induction m with
  | zero =>
    intro i J hi hW hK
    have hCJ := hC.keep hN (fun a q _ _ => hW.2.2.2 a q (by omega) (by omega))
    have hcpJ := hcp.keep hP (fun a q _ _ => hW.2.2.2 a q (by omega) (by omega))
    refine s_ild k2_20 rfl ?_
    refine s_ald k2_21 rfl ?_
    refine z_getRe (b := 42) k2_22 rfl rr_69_5 ?_
    refine z_getIe (z := σ 127 21) k2_25 rfl hcpJ.1 ?_
    refine s_icge k2_28 ⟨by omega, by omega⟩ ⟨by omega, by omega⟩ (fun h28 => ?_) (fun q => absurd q (by omega))
    refine z_push k2_42 ?_
    refine s_ist1 k2_43 rfl ?_
    exact lp2b hN hP hC hcp hg (2 ^ nP σ) 0 J (by omega) hW (fun p hp => hK p (by omega)) (fun q hq => absurd hq (by omega)) (fun q hq => absurd hq (by omega))
  | succ m ih =>
    intro i J hi hW hK
    have hCJ := hC.keep hN (fun a q _ _ => hW.2.2.2 a q (by omega) (by omega))
    have hcpJ := hcp.keep hP (fun a q _ _ => hW.2.2.2 a q (by omega) (by omega))
    refine s_ild k2_20 rfl ?_
    refine s_ald k2_21 rfl ?_
    refine z_getRe (b := 42) k2_22 rfl rr_69_5 ?_
    refine z_getIe (z := σ 127 21) k2_25 rfl hcpJ.1 ?_
    refine s_icge k2_28 ⟨by omega, by omega⟩ ⟨by omega, by omega⟩ (fun q => absurd q (by omega)) (fun h28 => ?_)
    refine s_ald k2_31 rfl ?_
    refine s_ild k2_32 rfl ?_
    refine z_inv1 k2_33 rfl (Nat.le_of_ble_eq_true rfl) (c12 hN hCJ hP hcpJ (by omega)) (fun o h1 hq => ?_)
    obtain ⟨rfl, K, rfl, kF, kK⟩ := hq
    refine s_iinc1 k2_36 rfl ?_
    refine z_goto k2_39 ?_
    have k1 : ∀ a q, ¬ (71 ≤ a ∧ a ≤ 78) → K a q = J a q := fun a q h => kF a q (by omega) (by omega) (by omega) (by omega)
    have e : (i : Int) + 1 = ((i + 1 : Nat) : Int) := rfl
    rw [e]
    refine ih (i + 1) K (by omega) ⟨(k1 _ _ (by decide)).trans hW.1, ⟨(k1 _ _ (by decide)).trans hW.2.1.1, (k1 _ _ (by decide)).trans hW.2.1.2.1, (k1 _ _ (by decide)).trans hW.2.1.2.2⟩, hW.2.2.1.no (fun x => k1 _ _ (by decide)), hW.2.2.2.to (fun a q h => k1 a q (by omega))⟩ (fun p hp => ?_)
    by_cases ep : p = i
    · subst ep; exact kK
    · obtain ⟨h1, h2, h3⟩ := hK p (by omega)
      exact ⟨(kF _ _ (by omega) (by omega) (by omega) (by omega)).trans h1, fun q hq => (kF _ _ (by omega) (by omega) (by omega) (by omega)).trans (h2 q hq), (kF _ _ (by omega) (by omega) (by omega) (by omega)).trans h3⟩
set_option maxRecDepth 20000 in
theorem c2 {d : Nat} {I : Nat → Int → Int} {P : Int → Nat} {dr : Nat} {σ : Nat → Int → Int} (hN : WFn σ) (hP : WFp σ) (hC : CRn I σ) (hcp : CRp I σ P dr) {g : Nat} (hg : g + 1 < 1000) (hX : CBx I g) (hF : I 69 17 = 1 → CFr σ I g) : cal (d + 9) 2 [vr 69] I P dr (Q2 σ I P dr (g + 1)) := by
  refine cal_in (Nat.le_of_ble_eq_true rfl) ?_
  have hf := hX.2.2.1
  have hg2 : 0 ≤ (g : Int) ∧ (g : Int) < 1000 := by omega
  show wp _ _ _ _ 0 [vr 69, vj] [] _
  refine s_ald k2_0 rfl ?_
  refine z_getIe (z := I 69 17) k2_1 rfl rfl ?_
  refine s_ifeq k2_4 ⟨by omega, by omega⟩ (fun h4 => ?_) (fun h4 => ?_)
  · refine s_ald k2_8 rfl ?_
    refine z_dupr k2_9 ?_
    refine z_getIe (z := (g : Int)) k2_10 rfl hX.1 ?_
    refine z_push k2_13 ?_
    refine z_iadd k2_14 ?_
    refine z_putIe (q := 15) k2_15 rfl rfl ?_
    refine z_push k2_18 ?_
    refine s_ist1 k2_19 rfl ?_
    have e : (g : Int) + 1 = ((g + 1 : Nat) : Int) := rfl
    rw [e]
    refine lp2a hN hP hC hcp hg (nP σ) 0 _ (by omega) ⟨up_at, ⟨(up_ne (by decide)).trans hX.2.1.1, (up_ne (by decide)).trans hX.2.1.2.1, (up_ne (by decide)).trans hX.2.1.2.2⟩, fun x x0 x1 => ?_, fun a q h1 h2 => if_neg (by omega)⟩ (fun p hp => absurd hp (by omega))
    obtain ⟨k, e1, e2⟩ := hX.2.2.2 x x0 x1
    exact ⟨k, (up_ne (by decide)).trans e1, Nat.lt_of_lt_of_le e2 (Nat.mul_le_mul_right _ (by omega)), fun u => absurd (Nat.lt_of_lt_of_le e2 u) (Nat.lt_irrefl _)⟩
  · have h1 : I 69 17 = 1 := by omega
    exact z_vret k2_7 ⟨rfl, I, g, rfl, FCa.rf, Nat.le_succ g, hX, h1, hF h1⟩
