/-! the best night: what it rests on -/
/-- two states that agree in all that the placing of plans reads; worths apart -/
def EqP (σ σ' : Nat → Int → Int) : Prop := σ' 127 0 = σ 127 0 ∧ σ' 127 1 = σ 127 1 ∧ σ' 127 6 = σ 127 6 ∧ σ' 127 7 = σ 127 7 ∧ σ' 127 8 = σ 127 8 ∧ σ' 127 21 = σ 127 21 ∧ (∀ s, 0 ≤ s → s < 12 → σ' 131 s = σ 131 s) ∧ (∀ t, 0 ≤ t → t < σ 127 2 → σ' 128 t = σ 128 t ∧ σ' 129 t = σ 129 t ∧ σ' 130 t = σ 130 t) ∧ ∀ p k, 0 ≤ p → p < σ 127 21 → 0 ≤ k → k < 23 → k ≠ 3 → σ' 138 (23 * p + k) = σ 138 (23 * p + k)
section EQP
variable {σ σ' : Nat → Int → Int}
theorem fit_c (h : EqP σ σ') {t s m r d : Int} (t0 : 0 ≤ t) (t1 : t < σ 127 2) (s0 : 0 ≤ s) (s1 : s < 12) : fitS σ' 0 t s m r d ↔ fitS σ 0 t s m r d := by
  obtain ⟨e0, e1, e6, e7, e8, e21, hs, ht, hp⟩ := h
  obtain ⟨a1, a2, a3⟩ := ht t t0 t1
  have e3 : σ' 131 (12 * 0 + s) = σ 131 (12 * 0 + s) := hs _ (by omega) (by omega)
  have ea : airS σ' t s = airS σ t s := by unfold airS; rw [a1, e1]
  show (_ ∧ _ ∧ _ ∧ _ ∧ ¬ _) ↔ _
  rw [e3, ea, a2, a3, e6, e7, e8]
theorem ps_c (h : EqP σ σ') {p j q : Int} (p0 : 0 ≤ p) (p1 : p < σ 127 21) (j0 : 0 ≤ j) (j1 : j < 3) (q0 : 0 ≤ q) (q1 : q < 6) : ps σ' p j q = ps σ p j q := by
  have := h.2.2.2.2.2.2.2.2 p (5 + 6 * j + q) p0 p1 (by omega) (by omega) (by omega)
  show σ' 138 (23 * p + 5 + 6 * j + q) = σ 138 (23 * p + 5 + 6 * j + q)
  rw [show 23 * p + 5 + 6 * j + q = 23 * p + (5 + 6 * j + q) by omega]
  exact this
theorem pf_c (h : EqP σ σ') {p k : Int} (p0 : 0 ≤ p) (p1 : p < σ 127 21) (k0 : 0 ≤ k) (k1 : k < 5) (k3 : k ≠ 3) : pf σ' p k = pf σ p k := h.2.2.2.2.2.2.2.2 p k p0 p1 k0 (by omega) k3
theorem at_c (h : EqP σ σ') (hN : WFn σ) (hP : WFp σ) {p : Int} (p0 : 0 ≤ p) (p1 : p < σ 127 21) {j b : Nat} (j1 : j < 3) : atS σ' p j b ↔ atS σ p j b := by
  have b0 := hN.1
  have hp := hP.2 p p0 p1
  have et := pf_c h p0 p1 (k := 2) (by decide) (by decide) (by decide)
  have ek := ps_c h p0 p1 (j := (j : Int)) (q := 0) (by omega) (by omega) (by decide) (by decide)
  have em := ps_c h p0 p1 (j := (j : Int)) (q := 1) (by omega) (by omega) (by decide) (by decide)
  have er := ps_c h p0 p1 (j := (j : Int)) (q := 2) (by omega) (by omega) (by decide) (by decide)
  have ed := ps_c h p0 p1 (j := (j : Int)) (q := 3) (by omega) (by omega) (by decide) (by decide)
  show (∀ i, i < (ps σ' p j 0).toNat → ((b + i : Nat) : Int) < σ' 127 0 ∧ fitS σ' 0 (pf σ' p 2) ((b + i : Nat) : Int) (ps σ' p j 1) (ps σ' p j 2) (ps σ' p j 3)) ↔ ∀ i, i < (ps σ p j 0).toNat → ((b + i : Nat) : Int) < σ 127 0 ∧ fitS σ 0 (pf σ p 2) ((b + i : Nat) : Int) (ps σ p j 1) (ps σ p j 2) (ps σ p j 3)
  rw [et, ek, em, er, ed, h.1]
  constructor
  · intro u i hi
    obtain ⟨u1, u2⟩ := u i hi
    exact ⟨u1, (fit_c h hp.2.2.1.1 hp.2.2.1.2 (by omega) (by omega)).mp u2⟩
  · intro u i hi
    obtain ⟨u1, u2⟩ := u i hi
    exact ⟨u1, (fit_c h hp.2.2.1.1 hp.2.2.1.2 (by omega) (by omega)).mpr u2⟩
theorem ga_c (h : EqP σ σ') (hN : WFn σ) (hP : WFp σ) {p : Int} (p0 : 0 ≤ p) (p1 : p < σ 127 21) : ∀ (r j fr num mask : Nat) (acc : List Nat), j + r ≤ 3 → gaS σ' p r j fr num mask acc = gaS σ p r j fr num mask acc
  | 0, j, fr, num, mask, acc, _ => rfl
  | r + 1, j, fr, num, mask, acc, hj => by
    have ek : kS σ' p j = kS σ p j := congrArg Int.toNat (ps_c h p0 p1 (j := (j : Int)) (q := 0) (by omega) (by omega) (by decide) (by decide))
    have e : gaF σ' p r j mask = gaF σ p r j mask := by
      funext b acc
      show (if atS σ' p j b then gaS σ' p r (j + 1) (b + kS σ' p j + loP σ' p (j + 1)) (wdP σ' p (j + 1)) (mask ||| stN b (kS σ' p j)) acc else acc) = (if atS σ p j b then gaS σ p r (j + 1) (b + kS σ p j + loP σ p (j + 1)) (wdP σ p (j + 1)) (mask ||| stN b (kS σ p j)) acc else acc)
      by_cases c : atS σ p j b
      · rw [if_pos c, if_pos ((at_c h hN hP p0 p1 (by omega)).mpr c), ek, ga_c h hN hP p0 p1 r (j + 1) _ _ _ _ (by omega)]
        cases r with
        | zero => rfl
        | succ r =>
          have e4 := ps_c h p0 p1 (j := ((j + 1 : Nat) : Int)) (q := 4) (by omega) (by omega) (by decide) (by decide)
          have e5 := ps_c h p0 p1 (j := ((j + 1 : Nat) : Int)) (q := 5) (by omega) (by omega) (by decide) (by decide)
          have el : loP σ' p (j + 1) = loP σ p (j + 1) := congrArg Int.toNat e4
          have ew : wdP σ' p (j + 1) = wdP σ p (j + 1) := by
            show (ps σ' p ((j + 1 : Nat) : Int) 5 - ps σ' p ((j + 1 : Nat) : Int) 4).toNat + 1 = _
            rw [e4, e5]
          rw [el, ew]
      · rw [if_neg c, if_neg (fun u => c ((at_c h hN hP p0 p1 (by omega)).mp u))]
    rw [ga_s, ga_s, e]
theorem pl_c (h : EqP σ σ') (hN : WFn σ) (hP : WFp σ) {p : Int} (p0 : 0 ≤ p) (p1 : p < σ 127 21) : plS σ' p = plS σ p := by
  have hp := hP.2 p p0 p1
  have h4 := hp.2.2.2.2.1
  unfold plS
  rw [pf_c h p0 p1 (k := 4) (by decide) (by decide) (by decide), h.1]
  exact ga_c h hN hP p0 p1 _ 0 0 _ 0 [] (by omega)
theorem szS_c (h : EqP σ σ') {p : Int} (p0 : 0 ≤ p) (p1 : p < σ 127 21) : ∀ (r j : Nat), j + r ≤ 3 → szS σ' p r j = szS σ p r j
  | 0, j, _ => rfl
  | r + 1, j, hj => by
    have ek : kS σ' p j = kS σ p j := congrArg Int.toNat (ps_c h p0 p1 (j := (j : Int)) (q := 0) (by omega) (by omega) (by decide) (by decide))
    show kS σ' p j + szS σ' p r (j + 1) = kS σ p j + szS σ p r (j + 1)
    rw [ek, szS_c h p0 p1 r (j + 1) (by omega)]
theorem nP_c (h : EqP σ σ') : nP σ' = nP σ := congrArg Int.toNat h.2.2.2.2.2.1
theorem z_c (h : EqP σ σ') (hP : WFp σ) {p : Nat} (p1 : (p : Int) < σ 127 21) : zS σ' p = zS σ p := by
  have h4 := (hP.2 p (by omega) p1).2.2.2.2.1
  show ((szS σ' p (pf σ' p 4).toNat 0 : Nat) : Int) = ((szS σ p (pf σ p 4).toNat 0 : Nat) : Int)
  rw [pf_c h (by omega) p1 (k := 4) (by decide) (by decide) (by decide), szS_c h (by omega) p1 _ 0 (by omega)]
theorem ln_c (h : EqP σ σ') (hN : WFn σ) (hP : WFp σ) : lnS σ' = lnS σ := by
  funext p
  unfold lnS
  rw [h.2.2.2.2.2.1]
  by_cases c : (p : Int) < σ 127 21
  · rw [if_pos c, if_pos c, pl_c h hN hP (by omega) c]
  · rw [if_neg c, if_neg c]
theorem is_c (h : EqP σ σ') : isS σ' = isS σ := by
  funext p
  unfold isS
  rw [h.2.2.2.2.2.1]
  by_cases c : (p : Int) < σ 127 21
  · rw [if_pos c, if_pos c, pf_c h (by omega) c (k := 1) (by decide) (by decide) (by decide)]
  · rw [if_neg c, if_neg c]
theorem mk_c (h : EqP σ σ') (hN : WFn σ) (hP : WFp σ) {p k : Nat} (hk : k < lnS σ p) : mkQ σ' p k = mkQ σ p k := by
  by_cases c : (p : Int) < σ 127 21
  · show gN (plS σ' p) k = gN (plS σ p) k
    rw [pl_c h hN hP (by omega) c]
  · have e : lnS σ p = 0 := if_neg c
    omega
end EQP
theorem solP_c {ln : Nat → Nat} {mk mk' : Nat → Nat → Nat} {is_ : Nat → Nat} (hm : ∀ q k, k < ln q → mk' q k = mk q k) : ∀ (r p set tk : Nat) (c : Nat → Nat), solP ln mk' is_ r p set tk c ↔ solP ln mk is_ r p set tk c
  | 0, _, _, _, _ => Iff.rfl
  | r + 1, p, set, tk, c => by
    cases hp : set.testBit p with
    | false => rw [sol_no hp, sol_no hp]; exact solP_c hm r (p + 1) set tk c
    | true =>
      rw [sol_in hp, sol_in hp]
      constructor
      · rintro ⟨h1, h2, h3⟩
        rw [hm p (c p) h1] at h2 h3
        exact ⟨h1, h2, (solP_c hm r (p + 1) set _ c).mp h3⟩
      · rintro ⟨h1, h2, h3⟩
        rw [← hm p (c p) h1] at h2 h3
        exact ⟨h1, h2, (solP_c hm r (p + 1) set _ c).mpr h3⟩
theorem okC_c {ln : Nat → Nat} {mk mk' : Nat → Nat → Nat} {is_ : Nat → Nat} {br : Nat → Nat → Prop} (hm : ∀ q k, k < ln q → mk' q k = mk q k) (n : Nat) (c : Nat → Nat) : okC ln mk' is_ br n c ↔ okC ln mk is_ br n c := by
  constructor
  · intro h p hp
    refine ⟨(h p hp).1, fun u => ⟨((h p hp).2 u).1, fun q hq v => ?_⟩⟩
    have := ((h p hp).2 u).2 q hq v
    rw [hm p _ u, hm q _ v] at this
    exact this
  · intro h p hp
    refine ⟨(h p hp).1, fun u => ⟨((h p hp).2 u).1, fun q hq v => ?_⟩⟩
    rw [hm p _ u, hm q _ v]
    exact ((h p hp).2 u).2 q hq v
theorem sol_c {σ σ' : Nat → Int → Int} (h : EqP σ σ') (hN : WFn σ) (hP : WFp σ) : solS σ' = solS σ := by
  funext r p set tk c
  show solP (lnS σ') (mkQ σ') (isS σ') r p set tk c = solP (lnS σ) (mkQ σ) (isS σ) r p set tk c
  rw [ln_c h hN hP, is_c h]
  exact propext (solP_c (ln := lnS σ) (mk := mkQ σ) (mk' := mkQ σ') (fun q k hk => mk_c h hN hP hk) r p set tk c)
theorem ok_c {σ σ' : Nat → Int → Int} {br : Nat → Nat → Prop} (h : EqP σ σ') (hN : WFn σ) (hP : WFp σ) : okS σ' br = okS σ br := by
  funext n c
  show okC (lnS σ') (mkQ σ') (isS σ') br n c = okC (lnS σ) (mkQ σ) (isS σ) br n c
  rw [ln_c h hN hP, is_c h]
  exact propext (okC_c (ln := lnS σ) (mk := mkQ σ) (mk' := mkQ σ') (fun q k hk => mk_c h hN hP hk) n c)
theorem sum_fc {ln : Nat → Nat} {f g : Nat → Int} {c : Nat → Nat} : ∀ k, (∀ q, q < k → f q = g q) → sumC ln f c k = sumC ln g c k
  | 0, _ => rfl
  | k + 1, h => by
    show sumC ln f c k + (if c k < ln k then f k else 0) = sumC ln g c k + (if c k < ln k then g k else 0)
    rw [sum_fc k (fun q hq => h q (by omega)), h k (by omega)]
theorem sB_c {f g : Nat → Int} {s : Nat} : ∀ k, (∀ q, q < k → f q = g q) → sB f s k = sB g s k
  | 0, _ => rfl
  | k + 1, h => by rw [sB_s, sB_s, sB_c k (fun q hq => h q (by omega)), h k (by omega)]
theorem u_c {σ σ' : Nat → Int → Int} (h : EqP σ σ') (hN : WFn σ) (hP : WFp σ) {s : Nat} : ∀ k : Nat, (k : Int) ≤ σ 127 21 → uS σ' s k = uS σ s k
  | 0, _ => rfl
  | k + 1, hk => by rw [u_s, u_s, u_c h hN hP k (by omega), pl_c h hN hP (by omega) (by omega), is_c h]
/-- the tables go on holding -/
theorem CFr.c {σ σ' I : Nat → Int → Int} {g : Nat} (h : EqP σ σ') (hN : WFn σ) (hP : WFp σ) (hw : ∀ p : Nat, (p : Int) < σ 127 21 → wS σ' p = wS σ p) (hF : CFr σ I g) : CFr σ' I g := by
  have bp := hP.1
  have hnp : nP σ = (σ 127 21).toNat := rfl
  have e21 := h.2.2.2.2.2.1
  have en := nP_c h
  have es := sol_c h hN hP
  have eu : ∀ s, uS σ' s (nP σ) = uS σ s (nP σ) := fun s => u_c h hN hP (nP σ) (by omega)
  have ew : ∀ s, sB (wS σ') s (nP σ) = sB (wS σ) s (nP σ) := fun s => sB_c (nP σ) (fun q hq => hw q (by omega))
  have ez : ∀ s, sB (zS σ') s (nP σ) = sB (zS σ) s (nP σ) := fun s => sB_c (nP σ) (fun q hq => z_c h hP (by omega))
  have eF : FirS σ' = FirS σ := by funext r p s t c; unfold FirS; rw [es]
  have eV : Vec σ' = Vec σ := by funext s c; unfold Vec; rw [es, en]
  have eWw : Wf σ' (wS σ') = Wf σ (wS σ) := by
    funext c
    show sumC (lnS σ') (wS σ') c (nP σ') = sumC (lnS σ) (wS σ) c (nP σ)
    rw [en, ln_c h hN hP]
    exact sum_fc (nP σ) (fun q hq => hw q (by omega))
  have eWz : Wf σ' (zS σ') = Wf σ (zS σ) := by
    funext c
    show sumC (lnS σ') (zS σ') c (nP σ') = sumC (lnS σ) (zS σ) c (nP σ)
    rw [en, ln_c h hN hP]
    exact sum_fc (nP σ) (fun q hq => z_c h hP (by omega))
  obtain ⟨hK, hW, hL, hM, f, cf, f1, f2, hA, hB⟩ := hF
  refine ⟨fun p hp => ?_, fun s hs => ?_, fun s hs => ?_, fun x x0 x1 => ?_, f, cf, f1, ?_, ?_, ?_⟩
  · rw [e21] at hp
    rw [pl_c h hN hP (by omega) hp]
    exact hK p hp
  · rw [en] at hs ⊢
    rw [ew, ez, eu]
    exact hW s hs
  · rw [en] at hs ⊢
    rw [eF, es]
    exact hL s hs
  · rw [en, es]
    obtain ⟨k, k1, k2, k3⟩ := hM x x0 x1
    refine ⟨k, k1, k2, fun u => ?_⟩
    obtain ⟨s, t, a1, a2, a3, a4⟩ := k3 u
    exact ⟨s, t, a1, a2, by rw [eu]; exact a3, a4⟩
  · rw [en]; exact f2
  · unfold Abl
    rw [en, eF]
    exact hA
  · rw [en, eV, eWw, eWz]
    exact hB
