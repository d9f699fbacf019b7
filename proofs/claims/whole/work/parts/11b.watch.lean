def FB (I J : Nat → Int → Int) : Prop := ∀ a k, a ≠ 120 → a ≠ 122 → J a k = I a k
theorem FB.rf {I : Nat → Int → Int} : FB I I := fun _ _ _ _ => rfl
theorem FB.fc {I J : Nat → Int → Int} (h : FB I J) : FC I J := fun a k _ h2 => h a k (by omega) (by omega)
theorem FB.brk {σ I J : Nat → Int → Int} {p : Int} (h : FB I J) : FB I (brkC σ J p) := fun a k h1 h2 => by
  unfold brkC
  rw [up_ne h2, up_ne h1]
  exact h a k h1 h2
abbrev expC (σ J : Nat → Int → Int) (go rest s : Int) : Nat → Int → Int := if rest - 1 = 0 then upI (upI (upI (upI J 118 9 (rest - 1)) 120 go (if J 120 go + 1 = pf σ go 4 then 8 else J 120 go + 1)) 121 go (s + 1)) 118 8 (-1) else upI J 118 9 (rest - 1)
/-- after a slot: the class's heap J' holds the state y, and v is what the slot says -/
def SL (σ J J' : Nat → Int → Int) (y : mW4) (s v : Int) : Prop := FC J J' ∧ CWs σ J' y.1 ∧ J' 118 7 = y.2.1 ∧ J' 118 8 = y.2.2.1 ∧ (y.2.2.1 ≠ -1 → J' 118 9 = y.2.2.2.1) ∧ v = y.1 148 s ∧ ∀ q, J' 119 q = J 119 q
theorem go_lg {σ : Nat → Int → Int} {wh s q : Int} {x : mW4} (h : q ≠ s) : (goS σ wh s x).1 148 q = x.1 148 q := by
  unfold goS
  by_cases c1 : x.2.2.1 = -1
  · rw [if_pos c1]
  · rw [if_neg c1]
    by_cases c2 : fitW σ x.1 wh s x.2.2.1
    · rw [if_pos c2]
      by_cases c3 : x.2.2.2.1 - 1 = 0
      · rw [if_pos c3]
        dsimp only
        rw [up_ne (by decide), up_ne (by decide), up_nk h]
      · rw [if_neg c3]
        exact up_nk h
    · rw [if_neg c2]
      dsimp only
      rw [(brk_at (q := q)).2.2.2, up_nk h]
theorem beg_lg {σ : Nat → Int → Int} {rule wh s q : Int} {x : mW4} (h : q ≠ s) : (begS σ rule wh s x).1 148 q = x.1 148 q := by
  unfold begS
  by_cases c1 : x.2.2.1 = -1
  · rw [if_pos c1]
    dsimp only
    split
    · exact (up_nk h).trans (late_lg _)
    · split
      · exact late_lg _
      · exact (up_nk h).trans (late_lg _)
  · rw [if_neg c1]
theorem SL.exp {σ J w : Nat → Int → Int} {wh s ins go rest sc : Int} (h : CWs σ J w) (g0 : 0 ≤ go) (g1 : go < σ 127 21) (hi : J 118 7 = ins) (hg : J 118 8 = go) (hf : fitW σ w wh s go) : SL σ J (expC σ J go rest s) (goS σ wh s (w, ins, go, rest, sc)) s go := by
  have e1 := (h go g0 g1).1
  unfold goS
  rw [if_neg (by show ¬ go = -1; omega), if_pos hf]
  unfold expC
  by_cases c1 : rest - 1 = 0
  · rw [if_pos c1, if_pos c1]
    refine ⟨(((FC.rf.up (Or.inl (by decide))).up (Or.inr (by decide))).up (Or.inr (by decide))).up (Or.inl (by decide)), fun p p0 p1 => ?_, ?_, up_at, fun q => absurd rfl q, ?_, fun q => ?_⟩
    · obtain ⟨a1, a2, a3⟩ := h p p0 p1
      dsimp only
      rw [up_ne (a' := 120) (by decide), up_ne (a' := 120) (by decide), up_ne (a' := 122) (by decide), up_ne (a' := 122) (by decide), up_ne (a' := 122) (by decide), up_ne (a' := 122) (by decide), up_ne (a' := 147) (by decide), up_ne (a' := 147) (by decide), up_ne (a' := 147) (by decide), up_ne (a' := 121) (by decide), up_ne (a' := 146) (by decide)]
      by_cases c2 : p = go
      · subst c2
        rw [up_at, up_at, up_at, up_at, e1]
        exact ⟨rfl, a2, fun _ => rfl⟩
      · rw [up_nk c2, up_ne (by decide), up_nk c2, up_ne (by decide), up_ne (by decide), up_nk c2, up_ne (by decide), up_ne (by decide), up_nk c2, up_ne (by decide)]
        exact ⟨a1, a2, a3⟩
    · rw [up_nk (by decide), up_ne (by decide), up_ne (by decide), up_nk (by decide)]
      exact hi
    · dsimp only
      rw [up_ne (by decide), up_ne (by decide), up_at]
    · rw [up_ne (by decide), up_ne (by decide), up_ne (by decide), up_ne (by decide)]
  · rw [if_neg c1, if_neg c1]
    refine ⟨FC.rf.up (Or.inl (by decide)), (h.no (by decide)).lg, ?_, ?_, fun _ => up_at, up_at.symm, fun q => up_ne (by decide)⟩
    · rw [up_nk (by decide)]
      exact hi
    · rw [up_nk (by decide)]
      exact hg
set_option maxRecDepth 20000 in
theorem lp82 {d : Nat} {I σ : Nat → Int → Int} {P : Int → Nat} {dr : Nat} (hN : WFn σ) (hP : WFp σ) (hX : CX I σ P dr) (ha : 0 ≤ σ 127 31 ∧ σ 127 31 ≤ 1) {w : Nat → Int → Int} {s : Int} (hst : ∀ p, 0 ≤ p → p < σ 127 21 → stOK σ w p) (s0 : 0 ≤ s) (s1 : s < 12) : ∀ (m i : Nat) (J : Nat → Int → Int), (i : Int) + m = σ 127 21 → FB I J → CWs σ J (lateS σ s w i) → wp (mcall MT CD (d + 1)) (CD 82) L0 (fun o h => o = none ∧ ∃ J, h = (S0, J, RR P dr) ∧ FB I J ∧ CWs σ J (lateS σ s w (σ 127 21).toNat)) 2 [vr 118, vi s, vi (i : Int)] [] (S0, J, RR P dr) := by
  intro m
  induction m with
  | zero => 
    intro i J hi hB hS
    have hF := hB.fc
    have hXJ := hX.keep hN hP hF
    obtain ⟨hC, hcp, hca⟩ := id hXJ
    obtain ⟨cn, ct, cg, cmr, cmf, cmt, cw, cT, cS, cW⟩ := id hC
    have hpl := hP.1
    have hPc : ∀ k, 0 ≤ k → k < 5 → isPl (P k) := hcp.2.1.1
    refine s_ild k82_2 rfl ?_
    refine s_ald k82_3 rfl ?_
    refine z_getRe (b := 42) k82_4 rfl rr_118_4 ?_
    refine z_getIe (z := σ 127 21) k82_7 rfl hcp.1 ?_
    refine s_icge k82_10 ⟨by omega, by omega⟩ ⟨by omega, by omega⟩ (fun h10 => ?_) (fun q => absurd q (by omega))
    refine z_vret k82_60 ⟨rfl, J, rfl, hB, ?_⟩
    rw [show (σ 127 21).toNat = i from by omega]
    exact hS
  | succ m ih => 
    intro i J hi hB hS
    have hF := hB.fc
    have hXJ := hX.keep hN hP hF
    obtain ⟨hC, hcp, hca⟩ := id hXJ
    obtain ⟨cn, ct, cg, cmr, cmf, cmt, cw, cT, cS, cW⟩ := id hC
    have hpl := hP.1
    have hPc : ∀ k, 0 ≤ k → k < 5 → isPl (P k) := hcp.2.1.1
    refine s_ild k82_2 rfl ?_
    refine s_ald k82_3 rfl ?_
    refine z_getRe (b := 42) k82_4 rfl rr_118_4 ?_
    refine z_getIe (z := σ 127 21) k82_7 rfl hcp.1 ?_
    refine s_icge k82_10 ⟨by omega, by omega⟩ ⟨by omega, by omega⟩ (fun q => absurd q (by omega)) (fun h10 => ?_)
    obtain ⟨e1, e2, e3⟩ := hS i (by omega) (by omega)
    have hpi := hP.2 i (by omega) (by omega)
    have hsti := late_st (s := s) hpi.2.2.2.2.1.1 (hst i (by omega) (by omega)) i
    have hsti1 := hsti.1
    have hsti2 := hsti.2.1
    have hp4 := hpi.2.2.2.2.1
    refine s_ald k82_13 rfl ?_
    refine s_ild k82_14 rfl ?_
    refine z_inv1A k82_15 rfl (Nat.le_of_ble_eq_true rfl) (c84 hN hP hXJ (by omega) (by omega) (by omega)) ?_
    refine z_ifeqb k82_18 (fun h18 => ?_) (fun h18 => ?_)
    · refine s_iinc2 k82_54 rfl ?_
      refine z_goto k82_57 ?_
      refine ih (i + 1) J (by omega) hB ?_
      rw [late_s, if_neg (fun q => by have q1 := q.1; have q2 := q.2; have u := e3 q1; rw [← e1, ← u] at q2; omega)]
      exact hS
    · refine s_ald k82_21 rfl ?_
      refine z_getRe (b := 120) k82_22 rfl rr_118_2 ?_
      refine s_ild k82_25 rfl ?_
      refine z_ialde (z := J 120 (i : Int)) k82_26 rfl (by omega) (show (i : Int) < ((5 : Nat) : Int) by omega) rfl ?_
      refine s_ifle k82_27 ⟨by omega, by omega⟩ (fun h27 => ?_) (fun h27 => ?_)
      · refine s_iinc2 k82_54 rfl ?_
        refine z_goto k82_57 ?_
        refine ih (i + 1) J (by omega) hB ?_
        rw [late_s, if_neg (fun q => by have q1 := q.1; have q2 := q.2; have u := e3 q1; rw [← e1, ← u] at q2; omega)]
        exact hS
      · have u3 := e3 (by omega)
        have hjs := hpi.st (j := J 120 i) (by omega) (by omega)
        have hj5 := hjs.2.2.2.2.2 (by omega)
        refine s_ild k82_30 rfl ?_
        refine s_ald k82_31 rfl ?_
        refine z_getRe (b := 121) k82_32 rfl rr_118_5 ?_
        refine s_ild k82_35 rfl ?_
        refine z_ialde (z := J 121 (i : Int)) k82_36 rfl (by omega) (show (i : Int) < ((5 : Nat) : Int) by omega) rfl ?_
        refine z_isub k82_37 ?_
        refine s_ald k82_38 rfl ?_
        refine s_ild k82_39 rfl ?_
        refine z_inv1A k82_40 rfl (Nat.le_of_ble_eq_true rfl) (c85 hN hP hXJ (by omega) (by omega) (by omega) (by omega)) ?_
        refine z_getIe (z := ps σ (i : Int) (J 120 (i : Int)) 5) k82_43 (pl_st (hPc i (by omega) (by omega)) (by omega)) ((hcp.s (by omega) (by omega) (by omega) (by omega)).2.2.2.2 (by omega)).2 ?_
        refine s_icle k82_46 ⟨by omega, by omega⟩ ⟨by omega, by omega⟩ (fun h46 => ?_) (fun h46 => ?_)
        · refine s_iinc2 k82_54 rfl ?_
          refine z_goto k82_57 ?_
          refine ih (i + 1) J (by omega) hB ?_
          rw [late_s, if_neg (fun q => by have q1 := q.1; have q2 := q.2; have u := e3 q1; rw [← e1, ← u] at q2; omega)]
          exact hS
        · refine s_ald k82_49 rfl ?_
          refine s_ild k82_50 rfl ?_
          refine z_inv1 k82_51 rfl (Nat.le_of_ble_eq_true rfl) (c83 hN hP hXJ ha (by omega) (by omega) (by rw [e2]; exact hsti.2.2)) (fun o h1 hq => ?_)
          obtain ⟨rfl, rfl⟩ := hq
          refine s_iinc2 k82_54 rfl ?_
          refine z_goto k82_57 ?_
          have hL : latP σ (lateS σ s w i) s i := by
            have u := e3 (by omega)
            exact ⟨by omega, by rw [← e1, ← u]; omega⟩
          refine ih (i + 1) _ (by omega) hB.brk ?_
          rw [late_s, if_pos hL]
          exact hS.brk (by omega) (by omega)
set_option maxRecDepth 20000 in
theorem c82 {d : Nat} {I : Nat → Int → Int} {P : Int → Nat} {dr : Nat} {σ : Nat → Int → Int} (hN : WFn σ) (hP : WFp σ) (hX : CX I σ P dr) (ha : 0 ≤ σ 127 31 ∧ σ 127 31 ≤ 1) {w : Nat → Int → Int} {s : Int} (hst : ∀ p, 0 ≤ p → p < σ 127 21 → stOK σ w p) (s0 : 0 ≤ s) (s1 : s < 12) (hS : CWs σ I w) : cal (d + 2) 82 [vr 118, vi s] I P dr (fun o h => o = none ∧ ∃ J, h = (S0, J, RR P dr) ∧ FB I J ∧ CWs σ J (lateS σ s w (σ 127 21).toNat)) := by
  refine cal_in (Nat.le_of_ble_eq_true rfl) ?_
  show wp _ _ _ _ 0 [vr 118, vi s, vj] [] _
  refine z_push k82_0 ?_
  refine s_ist2 k82_1 rfl ?_
  exact lp82 hN hP hX ha hst s0 s1 (σ 127 21).toNat 0 I (by have := hP.1; omega) FB.rf hS
set_option maxRecDepth 20000 in
theorem lp88 {d : Nat} {J σ : Nat → Int → Int} {P : Int → Nat} {dr : Nat} (hN : WFn σ) (hP : WFp σ) (hX : CX J σ P dr) {w : Nat → Int → Int} {rule wh s : Int} (hst : ∀ p, 0 ≤ p → p < σ 127 21 → stOK σ w p) (hS : CWs σ J w) (r0 : 0 ≤ rule) (r1 : rule ≤ 2) (w0 : 0 ≤ wh) (w1 : wh < 2 + σ 127 10) (s0 : 0 ≤ s) (s1 : s < σ 127 0) : ∀ (m i : Nat) (z5 : Int) (l7 : mV), (i : Int) + m = σ 127 21 → (pickS σ w rule wh s i ≠ -1 → z5 = rkS σ rule s (pickS σ w rule wh s i)) → (-1400 ≤ z5 ∧ z5 ≤ 1400) → wp (mcall MT CD (d + 4)) (CD 88) L0 (ans (vi (pickS σ w rule wh s (σ 127 21).toNat)) J P dr) 9 [vr 118, vi rule, vi wh, vi s, vi (pickS σ w rule wh s i), vi z5, vi (i : Int), l7] [] (S0, J, RR P dr) := by
  intro m
  induction m with
  | zero => 
    intro i z5 l7 hi hz hzb
    have hXJ := hX
    obtain ⟨hC, hcp, hca⟩ := id hX
    obtain ⟨cn, ct, cg, cmr, cmf, cmt, cw, cT, cS, cW⟩ := id hC
    have hpl := hP.1
    have hnn := hN.1
    refine s_ild k88_9 rfl ?_
    refine s_ald k88_11 rfl ?_
    refine z_getRe (b := 42) k88_12 rfl rr_118_4 ?_
    refine z_getIe (z := σ 127 21) k88_15 rfl hcp.1 ?_
    refine s_icge k88_18 ⟨by omega, by omega⟩ ⟨by omega, by omega⟩ (fun h18 => ?_) (fun q => absurd q (by omega))
    refine s_ild k88_69 rfl ?_
    refine z_iret k88_71 (ans_i ?_)
    rw [show (σ 127 21).toNat = i from by omega]
  | succ m ih => 
    intro i z5 l7 hi hz hzb
    have hXJ := hX
    obtain ⟨hC, hcp, hca⟩ := id hX
    obtain ⟨cn, ct, cg, cmr, cmf, cmt, cw, cT, cS, cW⟩ := id hC
    have hpl := hP.1
    have hnn := hN.1
    refine s_ild k88_9 rfl ?_
    refine s_ald k88_11 rfl ?_
    refine z_getRe (b := 42) k88_12 rfl rr_118_4 ?_
    refine z_getIe (z := σ 127 21) k88_15 rfl hcp.1 ?_
    refine s_icge k88_18 ⟨by omega, by omega⟩ ⟨by omega, by omega⟩ (fun q => absurd q (by omega)) (fun h18 => ?_)
    have hpi := hP.2 i (by omega) (by omega)
    have hrb := rk_b hN (r := rule) hpi s0 (by have := hN.1; omega)
    have hpk := pick_may (σ := σ) (w := w) (rule := rule) (wh := wh) (s := s) i
    have hpkb : -1 ≤ pickS σ w rule wh s i ∧ pickS σ w rule wh s i < 5 := by
      rcases hpk with e | e
      · omega
      · have := e.1; have := e.2.1; omega
    refine s_ald k88_21 rfl ?_
    refine s_ild k88_22 rfl ?_
    refine s_ild k88_24 rfl ?_
    refine s_ild k88_25 rfl ?_
    refine z_inv3A k88_26 rfl (Nat.le_of_ble_eq_true rfl) (c87 hN hP hXJ (by omega) (by omega) hS (hst _ (by omega) (by omega)) s0 (by omega) w0 w1) ?_
    refine z_ifeqb k88_29 (fun h29 => ?_) (fun h29 => ?_)
    · refine s_iinc6 k88_63 rfl ?_
      refine z_goto k88_66 ?_
      have e : pickS σ w rule wh s (i + 1) = pickS σ w rule wh s i := by rw [pick_s, if_neg (fun q => h29 q.1)]
      have k := ih (i + 1) z5 l7 (by omega) (fun u => by rw [e] at u ⊢; exact hz u) hzb
      rw [e] at k
      exact k
    · refine s_ald k88_32 rfl ?_
      refine s_ild k88_33 rfl ?_
      refine s_ild k88_35 rfl ?_
      refine s_ild k88_36 rfl ?_
      refine z_inv3A k88_37 rfl (Nat.le_of_ble_eq_true rfl) (c89 hN hP hXJ (by omega) (by omega) r0 r1 s0 s1 h29.2.2.1.2.2.1) ?_
      refine s_ist7 k88_40 rfl ?_
      refine s_ild k88_42 rfl ?_
      refine z_push k88_44 ?_
      refine s_iceq k88_45 ⟨by omega, by omega⟩ (inR_lit rfl) (fun h45 => ?_) (fun h45 => ?_)
      · refine s_ild k88_55 rfl ?_
        refine s_ist4 k88_57 rfl ?_
        refine s_ild k88_59 rfl ?_
        refine s_ist5 k88_61 rfl ?_
        refine s_iinc6 k88_63 rfl ?_
        refine z_goto k88_66 ?_
        have e : pickS σ w rule wh s (i + 1) = (i : Int) := by rw [pick_s, if_pos ⟨h29, by first | exact Or.inl h45 | exact Or.inr (by have := hz h45; omega)⟩]
        have k := ih (i + 1) (rkS σ rule s (i : Int)) (vi (rkS σ rule s (i : Int))) (by omega) (fun _ => by rw [e]) (by omega)
        rw [e] at k
        exact k
      · refine s_ild k88_48 rfl ?_
        refine s_ild k88_50 rfl ?_
        refine s_icge k88_52 ⟨by omega, by omega⟩ ⟨by omega, by omega⟩ (fun h52 => ?_) (fun h52 => ?_)
        · refine s_iinc6 k88_63 rfl ?_
          refine z_goto k88_66 ?_
          have e : pickS σ w rule wh s (i + 1) = pickS σ w rule wh s i := by rw [pick_s, if_neg (fun q => by have := hz h45; rcases q.2 with u | u <;> omega)]
          have k := ih (i + 1) z5 (vi (rkS σ rule s (i : Int))) (by omega) (fun u => by rw [e] at u ⊢; exact hz u) hzb
          rw [e] at k
          exact k
        · refine s_ild k88_55 rfl ?_
          refine s_ist4 k88_57 rfl ?_
          refine s_ild k88_59 rfl ?_
          refine s_ist5 k88_61 rfl ?_
          refine s_iinc6 k88_63 rfl ?_
          refine z_goto k88_66 ?_
          have e : pickS σ w rule wh s (i + 1) = (i : Int) := by rw [pick_s, if_pos ⟨h29, by first | exact Or.inl h45 | exact Or.inr (by have := hz h45; omega)⟩]
          have k := ih (i + 1) (rkS σ rule s (i : Int)) (vi (rkS σ rule s (i : Int))) (by omega) (fun _ => by rw [e]) (by omega)
          rw [e] at k
          exact k
set_option maxRecDepth 20000 in
theorem c88 {d : Nat} {J : Nat → Int → Int} {P : Int → Nat} {dr : Nat} {σ : Nat → Int → Int} (hN : WFn σ) (hP : WFp σ) (hX : CX J σ P dr) {w : Nat → Int → Int} {rule wh s : Int} (hst : ∀ p, 0 ≤ p → p < σ 127 21 → stOK σ w p) (hS : CWs σ J w) (r0 : 0 ≤ rule) (r1 : rule ≤ 2) (w0 : 0 ≤ wh) (w1 : wh < 2 + σ 127 10) (s0 : 0 ≤ s) (s1 : s < σ 127 0) : cal (d + 5) 88 [vr 118, vi rule, vi wh, vi s] J P dr (ans (vi (pickS σ w rule wh s (σ 127 21).toNat)) J P dr) := by
  refine cal_in (Nat.le_of_ble_eq_true rfl) ?_
  show wp _ _ _ _ 0 [vr 118, vi rule, vi wh, vi s, vj, vj, vj, vj] [] _
  refine z_push k88_0 ?_
  refine s_ist4 k88_1 rfl ?_
  refine z_push k88_3 ?_
  refine s_ist5 k88_4 rfl ?_
  refine z_push k88_6 ?_
  refine s_ist6 k88_7 rfl ?_
  exact lp88 hN hP hX hst hS r0 r1 w0 w1 s0 s1 (σ 127 21).toNat 0 0 vj (by have := hP.1; omega) (fun q => absurd rfl q) ⟨by decide, by decide⟩
set_option maxRecDepth 20000 in
theorem c81 {d : Nat} {J : Nat → Int → Int} {P : Int → Nat} {dr : Nat} {σ : Nat → Int → Int} (hN : WFn σ) (hP : WFp σ) (hX : CX J σ P dr) {go rest s : Int} (hgo : J 118 8 = go) (hre : J 118 9 = rest) (g0 : 0 ≤ go) (g1 : go < σ 127 21) (q1 : 1 ≤ rest) (q4 : rest ≤ 4) (j0 : 0 ≤ J 120 go) (j1 : J 120 go < pf σ go 4) : cal (d + 1) 81 [vr 118, vi s] J P dr (fun o h => o = none ∧ h = (S0, expC σ J go rest s, RR P dr)) := by
  refine cal_in (Nat.le_of_ble_eq_true rfl) ?_
  obtain ⟨hC, hcp, hca⟩ := id hX
  obtain ⟨cn, ct, cg, cmr, cmf, cmt, cw, cT, cS, cW⟩ := id hC
  have hpl := hP.1
  have hPc : ∀ k, 0 ≤ k → k < 5 → isPl (P k) := hcp.2.1.1
  have hpp := hP.2 go g0 g1
  have hp1 := hpp.2.1
  have hp2 := hpp.2.2.1
  have hp3 := hpp.2.2.2.1
  have hp4 := hpp.2.2.2.2.1
  have hPb := pl_b (hPc go g0 (by omega))
  show wp _ _ _ _ 0 [vr 118, vi s, vj] [] _
  refine s_ald k81_0 rfl ?_
  refine z_dupr k81_1 ?_
  refine z_getIe (z := rest) k81_2 rfl hre ?_
  refine z_push k81_5 ?_
  refine z_isub k81_6 ?_
  refine z_putIe (q := 9) k81_7 rfl rfl ?_
  refine s_ald k81_10 rfl ?_
  refine z_getIe (z := rest - 1) k81_11 rfl up_at ?_
  refine s_ifle k81_14 ⟨by omega, by omega⟩ (fun h14 => ?_) (fun h14 => ?_)
  · refine s_ald k81_18 rfl ?_
    refine z_getRe (b := 120) k81_19 rfl rr_118_2 ?_
    refine s_ald k81_22 rfl ?_
    refine z_getIe (z := go) k81_23 rfl ((up_nk (by decide)).trans hgo) ?_
    refine z_ialde (z := J 120 go) k81_26 rfl (by omega) (show go < ((5 : Nat) : Int) by omega) ((up_ne (by decide)).trans rfl) ?_
    refine z_push k81_27 ?_
    refine z_iadd k81_28 ?_
    refine s_ald k81_29 rfl ?_
    refine z_getRe (b := 42) k81_30 rfl rr_118_4 ?_
    refine z_getRe (b := 43) k81_33 rfl rr_42_0 ?_
    refine s_ald k81_36 rfl ?_
    refine z_getIe (z := go) k81_37 rfl ((up_nk (by decide)).trans hgo) ?_
    refine z_aalde (b := P go) k81_40 rfl (by omega) (show go < ((5 : Nat) : Int) by omega) rr_P ?_
    refine z_getIe (z := pf σ go 4) k81_41 (pl_sh (hPc _ (by omega) (by omega))) ((up_ne (by omega)).trans (hcp.f (by omega) (by omega)).2.2.2.2) ?_
    refine s_iclt k81_44 ⟨by omega, by omega⟩ ⟨by omega, by omega⟩ (fun h44 => ?_) (fun h44 => ?_)
    · refine z_push k81_51 ?_
      refine s_ist2 k81_52 rfl ?_
      refine s_ald k81_53 rfl ?_
      refine z_getRe (b := 120) k81_54 rfl rr_118_2 ?_
      refine s_ald k81_57 rfl ?_
      refine z_getIe (z := go) k81_58 rfl ((up_nk (by decide)).trans hgo) ?_
      refine s_ild k81_61 rfl ?_
      refine s_ifeq k81_62 (inR_lit rfl) (fun _ => ?_) (fun q => absurd q (by decide))
      refine s_ald k81_70 rfl ?_
      refine z_getRe (b := 120) k81_71 rfl rr_118_2 ?_
      refine s_ald k81_74 rfl ?_
      refine z_getIe (z := go) k81_75 rfl ((up_nk (by decide)).trans hgo) ?_
      refine z_ialde (z := J 120 go) k81_78 rfl (by omega) (show go < ((5 : Nat) : Int) by omega) ((up_ne (by decide)).trans rfl) ?_
      refine z_push k81_79 ?_
      refine z_iadd k81_80 ?_
      refine z_iast k81_81 rfl (by omega) (show go < ((5 : Nat) : Int) by omega) ?_
      refine s_ald k81_82 rfl ?_
      refine z_getRe (b := 121) k81_83 rfl rr_118_5 ?_
      refine s_ald k81_86 rfl ?_
      refine z_getIe (z := go) k81_87 rfl ((up_ne (by decide)).trans ((up_nk (by decide)).trans hgo)) ?_
      refine s_ild k81_90 rfl ?_
      refine z_push k81_91 ?_
      refine z_iadd k81_92 ?_
      refine z_iast k81_93 rfl (by omega) (show go < ((5 : Nat) : Int) by omega) ?_
      refine s_ald k81_94 rfl ?_
      refine z_push k81_95 ?_
      refine z_putIe (q := 8) k81_96 rfl rfl ?_
      exact z_vret k81_99 ⟨rfl, by unfold expC; rw [if_pos (by omega)]; first | rw [if_pos (by omega)] | rw [if_neg (by omega)]⟩
    · refine z_push k81_47 ?_
      refine z_goto k81_48 ?_
      refine s_ist2 k81_52 rfl ?_
      refine s_ald k81_53 rfl ?_
      refine z_getRe (b := 120) k81_54 rfl rr_118_2 ?_
      refine s_ald k81_57 rfl ?_
      refine z_getIe (z := go) k81_58 rfl ((up_nk (by decide)).trans hgo) ?_
      refine s_ild k81_61 rfl ?_
      refine s_ifeq k81_62 (inR_lit rfl) (fun q => absurd q (by decide)) (fun _ => ?_)
      refine z_push k81_65 ?_
      refine z_goto k81_67 ?_
      refine z_iast k81_81 rfl (by omega) (show go < ((5 : Nat) : Int) by omega) ?_
      refine s_ald k81_82 rfl ?_
      refine z_getRe (b := 121) k81_83 rfl rr_118_5 ?_
      refine s_ald k81_86 rfl ?_
      refine z_getIe (z := go) k81_87 rfl ((up_ne (by decide)).trans ((up_nk (by decide)).trans hgo)) ?_
      refine s_ild k81_90 rfl ?_
      refine z_push k81_91 ?_
      refine z_iadd k81_92 ?_
      refine z_iast k81_93 rfl (by omega) (show go < ((5 : Nat) : Int) by omega) ?_
      refine s_ald k81_94 rfl ?_
      refine z_push k81_95 ?_
      refine z_putIe (q := 8) k81_96 rfl rfl ?_
      exact z_vret k81_99 ⟨rfl, by unfold expC; rw [if_pos (by omega)]; first | rw [if_pos (by omega)] | rw [if_neg (by omega)]⟩
  · exact z_vret k81_17 ⟨rfl, by unfold expC; rw [if_neg (by omega)]⟩
set_option maxRecDepth 20000 in
theorem c80 {d : Nat} {J : Nat → Int → Int} {P : Int → Nat} {dr : Nat} {σ : Nat → Int → Int} (hN : WFn σ) (hP : WFp σ) (hX : CX J σ P dr) {w : Nat → Int → Int} {wh s ins go rest sc : Int} (hS : CWs σ J w) (hst : stOK σ w go) (ha : 0 ≤ σ 127 31 ∧ σ 127 31 ≤ 1) (hin : J 118 7 = ins) (hgo : J 118 8 = go) (hre : J 118 9 = rest) (g0 : 0 ≤ go) (g1 : go < σ 127 21) (q1 : 1 ≤ rest) (q4 : rest ≤ 4) (j0 : 0 ≤ w 145 go) (j1 : w 145 go < pf σ go 4) (s0 : 0 ≤ s) (s1 : s < 12) (w0 : 0 ≤ wh) (w1 : wh < 2 + σ 127 10) : cal (d + 4) 80 [vr 118, vi wh, vi s] J P dr (fun o h => ∃ J2 v, o = some (vi v) ∧ h = (S0, J2, RR P dr) ∧ SL σ J J2 (goS σ wh s (w, ins, go, rest, sc)) s v) := by
  refine cal_in (Nat.le_of_ble_eq_true rfl) ?_
  obtain ⟨hC, hcp, hca⟩ := id hX
  obtain ⟨cn, ct, cg, cmr, cmf, cmt, cw, cT, cS, cW⟩ := id hC
  have hpl := hP.1
  have hPc : ∀ k, 0 ≤ k → k < 5 → isPl (P k) := hcp.2.1.1
  have hpp := hP.2 go g0 g1
  have hp1 := hpp.2.1
  have hp2 := hpp.2.2.1
  have hp3 := hpp.2.2.2.1
  have hp4 := hpp.2.2.2.2.1
  have hPb := pl_b (hPc go g0 (by omega))
  obtain ⟨hm, hr, hg⟩ := hN.tg hp2.1 hp2.2
  have h8 := hN.2.2.1
  have hn := hN.2.1
  have hnn := hN.1
  have hw4 := hN.2.2.2.2.2.2.2.1
  obtain ⟨e1, e2, e3⟩ := hS go g0 g1
  have hj : 0 ≤ J 120 go ∧ J 120 go < pf σ go 4 := by omega
  obtain ⟨j3, k0, k1, k2, k3, k4⟩ := hpp.st hj.1 hj.2
  have hq := hcp.s g0 g1 hj.1 hj.2
  show wp _ _ _ _ 0 [vr 118, vi wh, vi s, vj] [] _
  refine s_ald k80_0 rfl ?_
  refine z_getIe (z := go) k80_1 rfl hgo ?_
  refine s_ist3 k80_4 rfl ?_
  refine s_ald k80_5 rfl ?_
  refine z_getRe (b := 17) k80_6 rfl rr_118_3 ?_
  refine s_ild k80_9 rfl ?_
  refine s_ald k80_10 rfl ?_
  refine s_ild k80_11 rfl ?_
  refine z_inv1A k80_12 rfl (Nat.le_of_ble_eq_true rfl) (c86 hN hP hX g0 g1) ?_
  refine s_ald k80_15 rfl ?_
  refine s_ild k80_16 rfl ?_
  refine z_inv1A k80_17 rfl (Nat.le_of_ble_eq_true rfl) (c85 hN hP hX g0 g1 (by omega) (by omega)) ?_
  refine s_ild k80_20 rfl ?_
  refine z_inv4A k80_21 rfl (Nat.le_of_ble_eq_true rfl) (c67 hC (pl_st (hPc go g0 (by omega)) (by omega)) hq.2.1 hq.2.2.1 hq.2.2.2.1 hp2.1 hp2.2 h8.2 hm hr hg hn (hN.sk (by omega) (by omega)) hN.mo s0 s1 w0 w1 hw4.2 (by omega) (by omega) (by omega)) ?_
  refine z_ifeqb k80_24 (fun h24 => ?_) (fun h24 => ?_)
  · refine s_ald k80_34 rfl ?_
    refine z_push k80_35 ?_
    refine z_putIe (q := 8) k80_36 rfl rfl ?_
    refine s_ald k80_39 rfl ?_
    refine s_ild k80_40 rfl ?_
    refine z_inv1 k80_41 rfl (Nat.le_of_ble_eq_true rfl) (c83 hN hP (hX.keep hN hP (FC.rf.up (Or.inl (by decide)))) ha g0 g1 (by rw [up_ne (by decide), e2]; exact hst.2.2)) (fun o h1 hq => ?_)
    obtain ⟨rfl, rfl⟩ := hq
    refine z_push k80_44 ?_
    refine s_ild k80_46 rfl ?_
    refine z_iadd k80_47 ?_
    refine z_iret k80_48 ⟨_, 10 + go, rfl, rfl, ?_⟩
    unfold goS
    rw [if_neg (by show ¬ go = -1; omega), if_neg (by rw [e1] at h24; exact h24)]
    refine ⟨FC.brk (FC.rf.up (Or.inl (by decide))), ?_, ?_, ?_, fun q => absurd rfl q, ?_, fun q => ?_⟩
    · exact ((hS.no (by decide)).lg).brk g0 g1
    · unfold brkC
      rw [up_ne (by decide), up_ne (by decide), up_nk (by decide)]
      exact hin
    · unfold brkC
      rw [up_ne (by decide), up_ne (by decide), up_at]
    · dsimp only
      rw [(brk_at (q := go)).2.2.2, up_at]
    · unfold brkC
      rw [up_ne (by decide), up_ne (by decide), up_ne (by decide)]
  · refine s_ald k80_27 rfl ?_
    refine s_ild k80_28 rfl ?_
    refine z_inv1 k80_29 rfl (Nat.le_of_ble_eq_true rfl) (c81 hN hP hX hgo hre g0 g1 q1 q4 (by omega) (by omega)) (fun o h1 hq => ?_)
    obtain ⟨rfl, rfl⟩ := hq
    refine s_ild k80_32 rfl ?_
    exact z_iret k80_33 ⟨_, go, rfl, rfl, SL.exp hS g0 g1 hin hgo (by rw [e1] at h24; exact h24)⟩
set_option maxRecDepth 20000 in
theorem c79 {d : Nat} {J : Nat → Int → Int} {P : Int → Nat} {dr : Nat} {σ : Nat → Int → Int} (hN : WFn σ) (hP : WFp σ) (hX : CX J σ P dr) {w : Nat → Int → Int} {wh s t ins rest sc : Int} (hS : CWs σ J w) (hst : ∀ p, 0 ≤ p → p < σ 127 21 → stOK σ w p) (hin : J 118 7 = ins) (hi2 : 0 ≤ ins ∧ ins ≤ 2) (hgo : J 118 8 = -1) (ht : t = -1 ∨ (0 ≤ t ∧ t < σ 127 21 ∧ mayS σ w wh s t)) (s0 : 0 ≤ s) (s1 : s < 12) (w0 : 0 ≤ wh) (w1 : wh < 2 + σ 127 10) : cal (d + 2) 79 [vr 118, vi wh, vi s, vi t] J P dr (fun o h => ∃ J2 v, o = some (vi v) ∧ h = (S0, J2, RR P dr) ∧ SL σ J J2 (goS σ wh s (if t = -1 then (upI w 148 s (if σ 131 (12 * wh + s) = 4 then 21 else 22), ins, -1, rest, sc) else if pf σ t 1 = ins then (w, ins, t, ps σ t (w 145 t) 0, sc) else (upI w 148 s 20, pf σ t 1, -1, rest, sc) : mW4)) s v) := by
  refine cal_in (Nat.le_of_ble_eq_true rfl) ?_
  obtain ⟨hC, hcp, hca⟩ := id hX
  obtain ⟨cn, ct, cg, cmr, cmf, cmt, cw, cT, cS, cW⟩ := id hC
  have hpl := hP.1
  have hPc : ∀ k, 0 ≤ k → k < 5 → isPl (P k) := hcp.2.1.1
  have hw4 := hN.2.2.2.2.2.2.2.1
  show wp _ _ _ _ 0 [vr 118, vi wh, vi s, vi t] [] _
  refine s_ild k79_0 rfl ?_
  refine z_push k79_1 ?_
  refine s_icne k79_2 ⟨by omega, by omega⟩ (inR_lit rfl) (fun h2 => ?_) (fun h2 => ?_)
  · have ht2 : 0 ≤ t ∧ t < σ 127 21 ∧ mayS σ w wh s t := by
      rcases ht with e | e
      · exact absurd e (by omega)
      · exact e
    have hpt := hP.2 t ht2.1 ht2.2.1
    have hp1 := hpt.2.1
    have hp4 := hpt.2.2.2.2.1
    obtain ⟨e1, e2, e3⟩ := hS t ht2.1 ht2.2.1
    have hs5 := (hst t ht2.1 ht2.2.1).1
    have hm5 := ht2.2.2.1
    have hPb := pl_b (hPc t ht2.1 (by omega))
    obtain ⟨j3, k0, k1, k2, k3, k4⟩ := hpt.st (j := J 120 t) (by omega) (by omega)
    have hq0 := (hcp.s ht2.1 ht2.2.1 (j := J 120 t) (by omega) (by omega)).1
    refine s_ald k79_28 rfl ?_
    refine z_getRe (b := 42) k79_29 rfl rr_118_4 ?_
    refine z_getRe (b := 43) k79_32 rfl rr_42_0 ?_
    refine s_ild k79_35 rfl ?_
    refine z_aalde (b := P t) k79_36 rfl (by omega) (show t < ((5 : Nat) : Int) by omega) rr_P ?_
    refine z_getIe (z := pf σ t 1) k79_37 (pl_sh (hPc _ (by omega) (by omega))) (hcp.f (by omega) (by omega)).2.1 ?_
    refine s_ald k79_40 rfl ?_
    refine z_getIe (z := ins) k79_41 rfl hin ?_
    refine s_iceq k79_44 ⟨by omega, by omega⟩ ⟨by omega, by omega⟩ (fun h44 => ?_) (fun h44 => ?_)
    · refine s_ald k79_66 rfl ?_
      refine s_ild k79_67 rfl ?_
      refine z_putIe (q := 8) k79_68 rfl rfl ?_
      refine s_ald k79_71 rfl ?_
      refine s_ald k79_72 rfl ?_
      refine s_ild k79_73 rfl ?_
      refine z_inv1A k79_74 rfl (Nat.le_of_ble_eq_true rfl) (c85 hN hP (hX.keep hN hP (FC.rf.up (Or.inl (by decide)))) ht2.1 ht2.2.1 (by rw [up_ne (by decide)]; omega) (by rw [up_ne (by decide)]; omega)) ?_
      refine z_getIe (z := ps σ t (J 120 t) 0) k79_77 (pl_st (hPc t (by omega) (by omega)) (by rw [up_ne (by decide)]; omega)) ((up_ne (by rw [up_ne (by decide)]; omega)).trans (by rw [up_ne (by decide)]; exact hq0)) ?_
      refine z_putIe (q := 9) k79_80 rfl rfl ?_
      refine s_ald k79_83 rfl ?_
      refine s_ild k79_84 rfl ?_
      refine z_inv1 k79_85 rfl (Nat.le_of_ble_eq_true rfl) (c81 hN hP (hX.keep hN hP ((FC.rf.up (Or.inl (by decide))).up (Or.inl (by decide)))) ((up_nk (by decide)).trans up_at) up_at ht2.1 ht2.2.1 (by omega) (by omega) (by rw [up_ne (by decide), up_ne (by decide)]; omega) (by rw [up_ne (by decide), up_ne (by decide)]; omega)) (fun o h1 hq => ?_)
      obtain ⟨rfl, rfl⟩ := hq
      refine s_ild k79_88 rfl ?_
      refine z_iret k79_89 ⟨_, t, rfl, rfl, ?_⟩
      rw [if_neg (by omega), if_pos (by omega)]
      have k := SL.exp (wh := wh) (s := s) (ins := ins) (rest := ps σ t (w 145 t) 0) (sc := sc) ((hS.no (k := 8) (z := t) (by decide : 118 < 120)).no (k := 9) (z := ps σ t (w 145 t) 0) (by decide : 118 < 120)) ht2.1 ht2.2.1 ((up_nk (by decide)).trans ((up_nk (by decide)).trans hin)) ((up_nk (by decide)).trans up_at) ht2.2.2.2.2.1
      obtain ⟨k1, k2⟩ := k
      rw [← e1] at k1 k2 ⊢
      exact ⟨((FC.rf.up (Or.inl (by decide))).up (Or.inl (by decide))).trans k1, k2.1, k2.2.1, k2.2.2.1, k2.2.2.2.1, k2.2.2.2.2.1, fun q => (k2.2.2.2.2.2 q).trans ((up_ne (by decide)).trans (up_ne (by decide)))⟩
    · refine s_ald k79_47 rfl ?_
      refine s_ald k79_48 rfl ?_
      refine z_getRe (b := 42) k79_49 rfl rr_118_4 ?_
      refine z_getRe (b := 43) k79_52 rfl rr_42_0 ?_
      refine s_ild k79_55 rfl ?_
      refine z_aalde (b := P t) k79_56 rfl (by omega) (show t < ((5 : Nat) : Int) by omega) rr_P ?_
      refine z_getIe (z := pf σ t 1) k79_57 (pl_sh (hPc _ (by omega) (by omega))) (hcp.f (by omega) (by omega)).2.1 ?_
      refine z_putIe (q := 7) k79_60 rfl rfl ?_
      refine z_push k79_63 ?_
      refine z_iret k79_65 ⟨_, 20, rfl, rfl, ?_⟩
      rw [if_neg (by omega), if_neg (by omega)]
      unfold goS
      rw [if_pos rfl]
      exact ⟨FC.rf.up (Or.inl (by decide)), (hS.no (by decide)).lg, up_at, (up_nk (by decide)).trans hgo, fun q => absurd rfl q, up_at.symm, fun _ => up_ne (by decide)⟩
  · have hk := hN.sk (i := 12 * wh + s) (by omega) (by omega)
    refine s_ald k79_5 rfl ?_
    refine z_getRe (b := 17) k79_6 rfl rr_118_3 ?_
    refine z_getRe (b := 19) k79_9 rfl rr_17_7 ?_
    refine s_ild k79_12 rfl ?_
    refine z_aalde (b := 20 + wh.toNat) k79_13 rfl (by omega) (show wh < ((6 : Nat) : Int) by omega) (rr_sk (by omega) (by omega)) ?_
    refine s_ild k79_14 rfl ?_
    refine z_ialde (z := σ 131 (12 * wh + s)) k79_15 (by rw [(sk_sh (t := wh.toNat) (by omega))]) (by omega) (by rw [(sk_sh (t := wh.toNat) (by omega))]; show s < ((12 : Nat) : Int); omega) (cS wh s w0 w1 s0 s1) ?_
    refine z_push k79_16 ?_
    refine s_icne k79_17 ⟨by omega, by omega⟩ (inR_lit rfl) (fun h17 => ?_) (fun h17 => ?_)
    · refine z_push k79_25 ?_
      refine z_iret k79_27 ⟨J, 22, rfl, rfl, ?_⟩
      rw [if_pos (by omega), if_neg (by omega)]
      unfold goS
      rw [if_pos rfl]
      exact ⟨FC.rf, hS.lg, hin, hgo, fun q => absurd rfl q, up_at.symm, fun _ => rfl⟩
    · refine z_push k79_20 ?_
      refine z_goto k79_22 ?_
      refine z_iret k79_27 ⟨J, 21, rfl, rfl, ?_⟩
      rw [if_pos (by omega), if_pos (by omega)]
      unfold goS
      rw [if_pos rfl]
      exact ⟨FC.rf, hS.lg, hin, hgo, fun q => absurd rfl q, up_at.symm, fun _ => rfl⟩
