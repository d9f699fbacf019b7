theorem SL.next {σ I J J1 J2 : Nat → Int → Int} {rule wh v : Int} {k : Nat} {x : mW4} (hF : FC I J) (hF1 : FC J J1) (h19 : ∀ q, J1 119 q = J 119 q) (h : SL σ J1 J2 (goS σ wh k (begS σ rule wh k x)) k v) (hl : ∀ q, 0 ≤ q → q < (k : Int) → J 119 q = x.1 148 q) : FC I (upI J2 119 k v) ∧ CWs σ (upI J2 119 k v) (goS σ wh k (begS σ rule wh k x)).1 ∧ upI J2 119 k v 118 7 = (goS σ wh k (begS σ rule wh k x)).2.1 ∧ upI J2 119 k v 118 8 = (goS σ wh k (begS σ rule wh k x)).2.2.1 ∧ ((goS σ wh k (begS σ rule wh k x)).2.2.1 ≠ -1 → upI J2 119 k v 118 9 = (goS σ wh k (begS σ rule wh k x)).2.2.2.1) ∧ ∀ q, 0 ≤ q → q < ((k + 1 : Nat) : Int) → upI J2 119 k v 119 q = (goS σ wh k (begS σ rule wh k x)).1 148 q := by
  obtain ⟨a1, a2, a3, a4, a5, a6, a7⟩ := h
  refine ⟨((hF.trans hF1).trans a1).up (Or.inr (by decide)), a2.no (by decide), (up_ne (by decide)).trans a3, (up_ne (by decide)).trans a4, fun q => (up_ne (by decide)).trans (a5 q), fun q q0 q1 => ?_⟩
  by_cases c1 : q = k
  · rw [c1, up_at]
    exact a6
  · rw [up_nk c1, go_lg c1, beg_lg c1, a7, h19]
    exact hl q q0 (by omega)
theorem done_s {σ w : Nat → Int → Int} {k : Nat} : doneS σ w (k + 1) = doneS σ w k + (if w 145 k = 8 then pf σ k 3 else 0) := rfl
set_option maxRecDepth 20000 in
theorem lp77 {d : Nat} {J σ : Nat → Int → Int} {P : Int → Nat} {dr : Nat} (hN : WFn σ) (hP : WFp σ) (hX : CX J σ P dr) {w : Nat → Int → Int} (hS : CWs σ J w) (hst : ∀ p, 0 ≤ p → p < σ 127 21 → stOK σ w p) : ∀ (m i : Nat), (i : Int) + m = σ 127 21 → wp (mcall MT CD (d + 0)) (CD 77) L0 (ans (vi (doneS σ w (σ 127 21).toNat)) J P dr) 4 [vr 118, vi (doneS σ w i), vi (i : Int)] [] (S0, J, RR P dr) := by
  intro m
  induction m with
  | zero => 
    intro i hi
    obtain ⟨hC, hcp, hca⟩ := id hX
    obtain ⟨cn, ct, cg, cmr, cmf, cmt, cw, cT, cS, cW⟩ := id hC
    have hpl := hP.1
    have hPc : ∀ k, 0 ≤ k → k < 5 → isPl (P k) := hcp.2.1.1
    refine s_ild k77_4 rfl ?_
    refine s_ald k77_5 rfl ?_
    refine z_getRe (b := 42) k77_6 rfl rr_118_4 ?_
    refine z_getIe (z := σ 127 21) k77_9 rfl hcp.1 ?_
    refine s_icge k77_12 ⟨by omega, by omega⟩ ⟨by omega, by omega⟩ (fun h12 => ?_) (fun q => absurd q (by omega))
    refine s_ild k77_47 rfl ?_
    refine z_iret k77_48 (ans_i ?_)
    rw [show (σ 127 21).toNat = i from by omega]
  | succ m ih => 
    intro i hi
    obtain ⟨hC, hcp, hca⟩ := id hX
    obtain ⟨cn, ct, cg, cmr, cmf, cmt, cw, cT, cS, cW⟩ := id hC
    have hpl := hP.1
    have hPc : ∀ k, 0 ≤ k → k < 5 → isPl (P k) := hcp.2.1.1
    refine s_ild k77_4 rfl ?_
    refine s_ald k77_5 rfl ?_
    refine z_getRe (b := 42) k77_6 rfl rr_118_4 ?_
    refine z_getIe (z := σ 127 21) k77_9 rfl hcp.1 ?_
    refine s_icge k77_12 ⟨by omega, by omega⟩ ⟨by omega, by omega⟩ (fun q => absurd q (by omega)) (fun h12 => ?_)
    obtain ⟨e1, e2, e3⟩ := hS i (by omega) (by omega)
    have hst1 := (hst i (by omega) (by omega)).1
    have hp4 := (hP.2 i (by omega) (by omega)).2.2.2.2.1
    refine s_ald k77_15 rfl ?_
    refine z_getRe (b := 120) k77_16 rfl rr_118_2 ?_
    refine s_ild k77_19 rfl ?_
    refine z_ialde (z := J 120 (i : Int)) k77_20 rfl (by omega) (show (i : Int) < ((5 : Nat) : Int) by omega) rfl ?_
    refine z_push k77_21 ?_
    refine s_icne k77_23 ⟨by omega, by omega⟩ (inR_lit rfl) (fun h23 => ?_) (fun h23 => ?_)
    · refine s_iinc2 k77_41 rfl ?_
      refine z_goto k77_44 ?_
      have k := ih (i + 1) (by omega)
      rw [done_s, if_neg (by omega), Int.add_zero] at k
      exact k
    · refine s_ild k77_26 rfl ?_
      refine s_ald k77_27 rfl ?_
      refine z_getRe (b := 42) k77_28 rfl rr_118_4 ?_
      refine z_getRe (b := 43) k77_31 rfl rr_42_0 ?_
      refine s_ild k77_34 rfl ?_
      refine z_aalde (b := P (i : Int)) k77_35 rfl (by omega) (show (i : Int) < ((5 : Nat) : Int) by omega) rr_P ?_
      refine z_getIe (z := pf σ (i : Int) 3) k77_36 (pl_sh (hPc _ (by omega) (by omega))) (hcp.f (by omega) (by omega)).2.2.2.1 ?_
      refine z_iadd k77_39 ?_
      refine s_ist1 k77_40 rfl ?_
      refine s_iinc2 k77_41 rfl ?_
      refine z_goto k77_44 ?_
      have k := ih (i + 1) (by omega)
      rw [done_s, if_pos (by omega)] at k
      exact k
set_option maxRecDepth 20000 in
theorem c77 {d : Nat} {J : Nat → Int → Int} {P : Int → Nat} {dr : Nat} {σ : Nat → Int → Int} (hN : WFn σ) (hP : WFp σ) (hX : CX J σ P dr) {w : Nat → Int → Int} (hS : CWs σ J w) (hst : ∀ p, 0 ≤ p → p < σ 127 21 → stOK σ w p) : cal (d + 1) 77 [vr 118] J P dr (ans (vi (doneS σ w (σ 127 21).toNat)) J P dr) := by
  refine cal_in (Nat.le_of_ble_eq_true rfl) ?_
  show wp _ _ _ _ 0 [vr 118, vj, vj] [] _
  refine z_push k77_0 ?_
  refine s_ist1 k77_1 rfl ?_
  refine z_push k77_2 ?_
  refine s_ist2 k77_3 rfl ?_
  exact lp77 hN hP hX hS hst (σ 127 21).toNat 0 (by have := hP.1; omega)
set_option maxRecDepth 20000 in
theorem lp44 {d : Nat} {I σ : Nat → Int → Int} {P : Int → Nat} {dr : Nat} (hN : WFn σ) (hP : WFp σ) (hX : CX I σ P dr) (ha : 0 ≤ σ 127 31 ∧ σ 127 31 ≤ 1) {rule wh slots : Int} (r0 : 0 ≤ rule) (r1 : rule ≤ 2) (w0 : 0 ≤ wh) (w1 : wh < 2 + σ 127 10) (z0 : 0 ≤ slots) (z1 : slots ≤ σ 127 0) : ∀ (m k : Nat) (J : Nat → Int → Int), (k : Int) + m = slots → FC I J → CWs σ J (runS σ rule wh k).1 → J 118 7 = (runS σ rule wh k).2.1 → J 118 8 = (runS σ rule wh k).2.2.1 → ((runS σ rule wh k).2.2.1 ≠ -1 → J 118 9 = (runS σ rule wh k).2.2.2.1) → (∀ q, 0 ≤ q → q < (k : Int) → J 119 q = (runS σ rule wh k).1 148 q) → wp (mcall MT CD (d + 5)) (CD 76) L0 (fun o h => o = none ∧ ∃ J, h = (S0, J, RR P dr) ∧ FC I J ∧ CWs σ J (runS σ rule wh slots.toNat).1 ∧ ∀ q, 0 ≤ q → q < slots → J 119 q = (runS σ rule wh slots.toNat).1 148 q) 44 [vr 118, vi rule, vi wh, vi slots, vi (k : Int)] [] (S0, J, RR P dr) := by
  intro m
  induction m with
  | zero => 
    intro k J hk hF hS hin hgo hre hlg
    have hpl := hP.1
    have hnn := hN.1
    have hXJ := hX.keep hN hP hF
    obtain ⟨hC, hcp, hca⟩ := id hXJ
    obtain ⟨cn, ct, cg, cmr, cmf, cmt, cw, cT, cS, cW⟩ := id hC
    have hpl := hP.1
    have hPc : ∀ k, 0 ≤ k → k < 5 → isPl (P k) := hcp.2.1.1
    refine s_ild k76_44 rfl ?_
    refine s_ild k76_46 rfl ?_
    refine s_icge k76_47 ⟨by omega, by omega⟩ ⟨by omega, by omega⟩ (fun h47 => ?_) (fun q => absurd q (by omega))
    have hk2 : slots.toNat = k := by omega
    refine z_vret k76_121 ⟨rfl, J, rfl, hF, ?_, ?_⟩
    · rw [hk2]
      exact hS
    · rw [hk2]
      intro q q0 q1
      exact hlg q q0 (by omega)
  | succ m ih => 
    intro k J hk hF hS hin hgo hre hlg
    have hpl := hP.1
    have hnn := hN.1
    have hXJ := hX.keep hN hP hF
    obtain ⟨hC, hcp, hca⟩ := id hXJ
    obtain ⟨cn, ct, cg, cmr, cmf, cmt, cw, cT, cS, cW⟩ := id hC
    have hpl := hP.1
    have hPc : ∀ k, 0 ≤ k → k < 5 → isPl (P k) := hcp.2.1.1
    have hok := run_OK (rule := rule) (wh := wh) hP k (by omega)
    have k44 := fun (J : Nat → Int → Int) h1 h2 h3 h4 h5 h6 => ih (k + 1) J (by omega) h1 h2 h3 h4 h5 h6
    have hR1 : runS σ rule wh (k + 1) = goS σ wh k (begS σ rule wh k (runS σ rule wh k)) := rfl
    rw [hR1] at k44
    generalize (runS σ rule wh k) = x at hS hin hgo hre hlg hok k44
    obtain ⟨w, ins, go, rest, sc⟩ := x
    obtain ⟨ok1, ok2, ok3, ok4⟩ := id hok
    dsimp only at ok1 ok2 ok3 ok4 hS hin hgo hre hlg
    have hg1 : -1 ≤ go ∧ go < 5 := by omega
    refine s_ild k76_44 rfl ?_
    refine s_ild k76_46 rfl ?_
    refine s_icge k76_47 ⟨by omega, by omega⟩ ⟨by omega, by omega⟩ (fun q => absurd q (by omega)) (fun h47 => ?_)
    refine s_ild k76_50 rfl ?_
    refine s_ald k76_52 rfl ?_
    refine z_getRe (b := 17) k76_53 rfl rr_118_3 ?_
    refine z_getIe (z := σ 127 0) k76_56 rfl cn ?_
    refine s_icge k76_59 ⟨by omega, by omega⟩ ⟨by omega, by omega⟩ (fun q => absurd q (by omega)) (fun h59 => ?_)
    refine s_ald k76_62 rfl ?_
    refine z_getIe (z := go) k76_63 rfl hgo ?_
    refine z_push k76_66 ?_
    refine s_icne k76_67 ⟨by omega, by omega⟩ (inR_lit rfl) (fun h67 => ?_) (fun h67 => ?_)
    · have hg : 0 ≤ go ∧ go < σ 127 21 ∧ (0 ≤ w 145 go ∧ w 145 go < pf σ go 4) ∧ (1 ≤ rest ∧ rest ≤ 4) := by
        rcases ok3 with e | e
        · exact absurd e h67
        · exact e
      refine s_ald k76_101 rfl ?_
      refine z_getRe (b := 119) k76_102 rfl rr_118_1 ?_
      refine s_ild k76_105 rfl ?_
      refine s_ald k76_107 rfl ?_
      refine s_ild k76_108 rfl ?_
      refine s_ild k76_109 rfl ?_
      refine z_inv2 k76_111 rfl (Nat.le_of_ble_eq_true rfl) (c80 (sc := sc) hN hP hXJ hS (ok1 go hg.1 hg.2.1) ha hin hgo (hre h67) hg.1 hg.2.1 hg.2.2.2.1 hg.2.2.2.2 hg.2.2.1.1 hg.2.2.1.2 (by omega) (by omega) w0 w1) (fun o h1 hq => ?_)
      obtain ⟨J2, v, rfl, rfl, hSL⟩ := hq
      refine z_iast k76_114 rfl (by omega) (show (k : Int) < ((12 : Nat) : Int) by omega) ?_
      refine s_iinc4 k76_115 rfl ?_
      refine z_goto k76_118 ?_
      have hSL2 : SL σ J J2 (goS σ wh k (begS σ rule wh k (w, ins, go, rest, sc))) k v := by
        rw [show begS σ rule wh k (w, ins, go, rest, sc) = (w, ins, go, rest, sc) from if_neg h67]
        exact hSL
      obtain ⟨n1, n2, n3, n4, n5, n6⟩ := SL.next hF FC.rf (fun _ => rfl) hSL2 hlg
      exact k44 _ n1 n2 n3 n4 n5 n6
    · have hgo0 := hgo
      rw [show go = -1 from by omega] at hgo
      refine s_ald k76_70 rfl ?_
      refine s_ild k76_71 rfl ?_
      refine z_inv1 k76_73 rfl (Nat.le_of_ble_eq_true rfl) (c82 hN hP hXJ ha ok1 (by omega) (by omega) hS) (fun o h1 hq => ?_)
      obtain ⟨rfl, J1, rfl, hB1, hS1⟩ := hq
      have hst2 : ∀ p, 0 ≤ p → p < σ 127 21 → stOK σ (lateS σ k w (σ 127 21).toNat) p := fun p q1 q2 => late_st (hP.2 p q1 q2).2.2.2.2.1.1 (ok1 p q1 q2) _
      have hX1 := hXJ.keep hN hP hB1.fc
      refine s_ald k76_76 rfl ?_
      refine z_getRe (b := 119) k76_77 rfl rr_118_1 ?_
      refine s_ild k76_80 rfl ?_
      refine s_ald k76_82 rfl ?_
      refine s_ild k76_83 rfl ?_
      refine s_ild k76_84 rfl ?_
      refine s_ald k76_86 rfl ?_
      refine s_ild k76_87 rfl ?_
      refine s_ild k76_88 rfl ?_
      refine s_ild k76_89 rfl ?_
      refine z_inv3A k76_91 rfl (Nat.le_of_ble_eq_true rfl) (c88 hN hP hX1 hst2 hS1 r0 r1 w0 w1 (by omega) (by omega)) ?_
      have hpm := pick_may (σ := σ) (w := lateS σ k w (σ 127 21).toNat) (rule := rule) (wh := wh) (s := k) (σ 127 21).toNat
      rw [show (((σ 127 21).toNat : Nat) : Int) = σ 127 21 from by omega] at hpm
      refine z_inv3 k76_94 rfl (Nat.le_of_ble_eq_true rfl) (c79 (rest := rest) (sc := sc) hN hP hX1 hS1 hst2 ((hB1 _ _ (by decide) (by decide)).trans hin) ok2 ((hB1 _ _ (by decide) (by decide)).trans hgo) hpm (by omega) (by omega) w0 w1) (fun o h1 hq => ?_)
      obtain ⟨J2, v, rfl, rfl, hSL⟩ := hq
      refine z_iast k76_97 rfl (by omega) (show (k : Int) < ((12 : Nat) : Int) by omega) ?_
      refine z_goto k76_98 ?_
      refine s_iinc4 k76_115 rfl ?_
      refine z_goto k76_118 ?_
      have hgm : go = -1 := by omega
      have hSL2 : SL σ J1 J2 (goS σ wh k (begS σ rule wh k (w, ins, go, rest, sc))) k v := by
        rw [hgm]
        exact hSL
      obtain ⟨n1, n2, n3, n4, n5, n6⟩ := SL.next hF hB1.fc (fun _ => hB1 _ _ (by decide) (by decide)) hSL2 hlg
      exact k44 _ n1 n2 n3 n4 n5 n6
set_option maxRecDepth 20000 in
theorem wlp76 {d : Nat} {I σ : Nat → Int → Int} {P : Int → Nat} {dr : Nat} (hN : WFn σ) (hP : WFp σ) (hX : CX I σ P dr) (ha : 0 ≤ σ 127 31 ∧ σ 127 31 ≤ 1) {rule wh slots : Int} (r0 : 0 ≤ rule) (r1 : rule ≤ 2) (w0 : 0 ≤ wh) (w1 : wh < 2 + σ 127 10) (z0 : 0 ≤ slots) (z1 : slots ≤ σ 127 0) : ∀ (m i : Nat) (J : Nat → Int → Int), (i : Int) + m = 5 → FC I J → (∀ p, 0 ≤ p → p < (i : Int) → J 120 p = 0 ∧ J 122 p = 0) → wp (mcall MT CD (d + 5)) (CD 76) L0 (fun o h => o = none ∧ ∃ J, h = (S0, J, RR P dr) ∧ FC I J ∧ CWs σ J (runS σ rule wh slots.toNat).1 ∧ ∀ q, 0 ≤ q → q < slots → J 119 q = (runS σ rule wh slots.toNat).1 148 q) 3 [vr 118, vi rule, vi wh, vi slots, vi (i : Int)] [] (S0, J, RR P dr) := by
  intro m
  induction m with
  | zero => 
    intro i J hi hF hZ
    have hpl := hP.1
    refine s_ild k76_3 rfl ?_
    refine z_push k76_5 ?_
    refine s_icge k76_6 ⟨by omega, by omega⟩ (inR_lit rfl) (fun h6 => ?_) (fun q => absurd q (by omega))
    refine s_ald k76_31 rfl ?_
    refine z_push k76_32 ?_
    refine z_putIe (q := 7) k76_33 rfl rfl ?_
    refine s_ald k76_36 rfl ?_
    refine z_push k76_37 ?_
    refine z_putIe (q := 8) k76_38 rfl rfl ?_
    refine z_push k76_41 ?_
    refine s_ist4 k76_42 rfl ?_
    refine lp44 hN hP hX ha r0 r1 w0 w1 z0 z1 slots.toNat 0 _ (by omega) ((hF.up (Or.inl (by decide))).up (Or.inl (by decide))) (fun p p0 p1 => ?_) ((up_nk (by decide)).trans up_at) up_at (fun q => absurd rfl q) (fun q q0 q1 => absurd q1 (by omega))
    obtain ⟨q1, q2⟩ := hZ p p0 (by omega)
    exact ⟨(up_ne (by decide)).trans ((up_ne (by decide)).trans q1), (up_ne (by decide)).trans ((up_ne (by decide)).trans q2), fun u => absurd (show (1 : Int) ≤ 0 from u.1) (by decide)⟩
  | succ m ih => 
    intro i J hi hF hZ
    have hpl := hP.1
    refine s_ild k76_3 rfl ?_
    refine z_push k76_5 ?_
    refine s_icge k76_6 ⟨by omega, by omega⟩ (inR_lit rfl) (fun q => absurd q (by omega)) (fun h6 => ?_)
    refine s_ald k76_9 rfl ?_
    refine z_getRe (b := 120) k76_10 rfl rr_118_2 ?_
    refine s_ild k76_13 rfl ?_
    refine z_push k76_15 ?_
    refine z_iast k76_16 rfl (by omega) (show (i : Int) < ((5 : Nat) : Int) by omega) ?_
    refine s_ald k76_17 rfl ?_
    refine z_getRe (b := 122) k76_18 rfl rr_118_6 ?_
    refine s_ild k76_21 rfl ?_
    refine z_push k76_23 ?_
    refine z_bast k76_24 rfl (by omega) (show (i : Int) < ((5 : Nat) : Int) by omega) (Or.inl rfl) ?_
    refine s_iinc4 k76_25 rfl ?_
    refine z_goto k76_28 ?_
    refine ih (i + 1) _ (by omega) ((hF.up (Or.inr (by decide))).up (Or.inr (by decide))) (fun p p0 p1 => ?_)
    by_cases c1 : p = i
    · subst c1
      exact ⟨(up_ne (by decide)).trans up_at, up_at⟩
    · obtain ⟨q1, q2⟩ := hZ p p0 (by omega)
      exact ⟨(up_nk c1).trans ((up_nk c1).trans q1), (up_nk c1).trans ((up_nk c1).trans q2)⟩
set_option maxRecDepth 20000 in
theorem c76 {d : Nat} {I : Nat → Int → Int} {P : Int → Nat} {dr : Nat} {σ : Nat → Int → Int} (hN : WFn σ) (hP : WFp σ) (hX : CX I σ P dr) (ha : 0 ≤ σ 127 31 ∧ σ 127 31 ≤ 1) {rule wh slots : Int} (r0 : 0 ≤ rule) (r1 : rule ≤ 2) (w0 : 0 ≤ wh) (w1 : wh < 2 + σ 127 10) (z0 : 0 ≤ slots) (z1 : slots ≤ σ 127 0) : cal (d + 6) 76 [vr 118, vi rule, vi wh, vi slots] I P dr (fun o h => o = none ∧ ∃ J, h = (S0, J, RR P dr) ∧ FC I J ∧ CWs σ J (runS σ rule wh slots.toNat).1 ∧ ∀ q, 0 ≤ q → q < slots → J 119 q = (runS σ rule wh slots.toNat).1 148 q) := by
  refine cal_in (Nat.le_of_ble_eq_true rfl) ?_
  show wp _ _ _ _ 0 [vr 118, vi rule, vi wh, vi slots, vj] [] _
  refine z_push k76_0 ?_
  refine s_ist4 k76_1 rfl ?_
  exact wlp76 hN hP hX ha r0 r1 w0 w1 z0 z1 5 0 I (by decide) FC.rf (fun p p0 p1 => absurd p1 (by omega))
