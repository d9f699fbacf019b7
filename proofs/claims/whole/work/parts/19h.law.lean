/-! the law: its beginning -/
def I00 : Nat → Int → Int := Ix lI108
def s00 : Nat → Int → Int := sig I00
theorem ex_nat {a n : Int} (h0 : 0 ≤ a) (h1 : a < n) : ∃ k : Nat, a = (k : Int) ∧ (k : Int) < n := ⟨a.toNat, by omega, by omega⟩
theorem s0_0 : s00 127 0 = 10 := by decide +kernel
theorem s0_1 : s00 127 1 = 0 := by decide +kernel
theorem s0_2 : s00 127 2 = 0 := by decide +kernel
theorem s0_6 : s00 127 6 = -1 := by decide +kernel
theorem s0_7 : s00 127 7 = 0 := by decide +kernel
theorem s0_8 : s00 127 8 = 0 := by decide +kernel
theorem s0_10 : s00 127 10 = 0 := by decide +kernel
theorem s0_12 : s00 127 12 = 0 := by decide +kernel
theorem s0_21 : s00 127 21 = 0 := by decide +kernel
theorem s0_31 : s00 127 31 = 0 := by decide +kernel
theorem s0_39 : s00 127 39 = 0 := by decide +kernel
theorem s0_131 : ∀ k : Nat, k < 72 → s00 131 k = 1 := by decide +kernel
theorem s0_149 : ∀ k : Nat, k < 4 → s00 149 k = 1 ∧ I00 125 k = 1 := by decide +kernel
theorem s0_150 : ∀ k : Nat, k < 8 → s00 150 k = 0 ∧ I00 124 k = 0 := by decide +kernel
theorem i0_20 : ∀ k : Nat, k < 2 → ∀ s : Nat, s < 12 → I00 (20 + k) s = 1 := by decide +kernel
theorem i0_s : I00 17 0 = 10 ∧ I00 17 1 = 0 ∧ I00 17 3 = 0 ∧ I00 17 4 = -1 ∧ I00 17 5 = 0 ∧ I00 17 6 = 0 ∧ I00 17 9 = 0 ∧ I00 35 1 = 0 ∧ I00 42 1 = 0 ∧ I00 123 2 = 0 ∧ I00 118 0 = 0 := by decide +kernel
theorem i0_c : I00 69 15 = 0 ∧ I00 114 0 = 0 ∧ I00 115 0 = 0 ∧ I00 116 0 = 0 ∧ I00 69 17 = 0 := by decide +kernel
theorem i0_117 {x : Int} : I00 117 x = 0 := by
  have h : zeI (Ix lI108) 117 = Ix lI108 := Ix_no (by decide +kernel)
  unfold I00
  rw [← h]
  unfold zeI
  rw [if_pos rfl]
theorem p0_pl : ∀ k : Nat, k < 5 → P00 k = 44 + 5 * k := by decide +kernel
theorem wf_0 : WFs s00 := by
  refine ⟨?_, ⟨by rw [s0_12]; decide, fun i i0 i1 => ?_⟩, ⟨by rw [s0_21]; decide, fun p p0 p1 => ?_⟩, by rw [s0_31]; decide, ?_⟩
  · unfold WFn
    rw [s0_0, s0_1, s0_2, s0_6, s0_7, s0_8, s0_10]
    refine ⟨by decide, by decide, by decide, fun t t0 t1 => absurd t1 (by omega), by decide, by decide, by decide, by decide, fun i i0 i1 => ?_, fun w w0 w1 => absurd w1 (by omega)⟩
    obtain ⟨k, rfl, k1⟩ := ex_nat i0 i1
    rw [s0_131 k (by omega)]
    decide
  · rw [s0_12] at i1; omega
  · rw [s0_21] at p1; omega
  · refine ⟨fun l l0 l1 => ?_, fun k k0 k1 => ?_, ?_⟩
    · obtain ⟨n, rfl, n1⟩ := ex_nat l0 l1
      rw [(s0_149 n (by omega)).1]; decide
    · obtain ⟨n, rfl, n1⟩ := ex_nat k0 k1
      rw [(s0_150 n (by omega)).1, s0_1]; decide
    · rw [s0_39, s0_1]; decide
theorem cg_0 : CG I00 s00 P00 37 := by
  obtain ⟨a0, a1, a3, a4, a5, a6, a9, b1, c1, d2, e0⟩ := i0_s
  refine ⟨⟨a0.trans s0_0.symm, a1.trans s0_1.symm, a3.trans s0_2.symm, a4.trans s0_6.symm, a5.trans s0_7.symm, a6.trans s0_8.symm, a9.trans s0_10.symm, fun t t0 t1 => ?_, fun k s k0 k1 u0 u1 => ?_, fun w w0 w1 => ?_⟩, ⟨b1.trans s0_12.symm, fun i i0 i1 => ?_⟩, ⟨c1.trans s0_21.symm, ⟨fun k k0 k1 => ?_, by unfold isPl; omega, fun i j i0 i1 j0 j1 h => ?_, fun i i0 i1 => ?_⟩, fun p p0 p1 => ?_⟩, ⟨fun l l0 l1 => ?_, fun k k0 k1 => ?_, d2.trans s0_39.symm⟩, e0.trans s0_31.symm⟩
  · rw [s0_2] at t1; omega
  · rw [s0_10] at k1
    obtain ⟨n, rfl, n1⟩ := ex_nat k0 k1
    obtain ⟨m, rfl, m1⟩ := ex_nat u0 u1
    rw [show ((n : Int)).toNat = n from rfl, i0_20 n (by omega) m (by omega), show 12 * (n : Int) + (m : Int) = ((12 * n + m : Nat) : Int) by omega, s0_131 (12 * n + m) (by omega)]
  · rw [s0_10] at w1; omega
  · rw [s0_12] at i1; omega
  · obtain ⟨n, rfl, n1⟩ := ex_nat k0 k1
    rw [p0_pl n (by omega)]
    unfold isPl
    omega
  · obtain ⟨n, rfl, n1⟩ := ex_nat i0 i1
    obtain ⟨m, rfl, m1⟩ := ex_nat j0 j1
    rw [p0_pl n (by omega), p0_pl m (by omega)] at h
    omega
  · obtain ⟨n, rfl, n1⟩ := ex_nat i0 i1
    rw [p0_pl n (by omega)]
    omega
  · rw [s0_21] at p1; omega
  · obtain ⟨n, rfl, n1⟩ := ex_nat l0 l1
    have := s0_149 n (by omega)
    rw [this.1, this.2]
  · obtain ⟨n, rfl, n1⟩ := ex_nat k0 k1
    have := s0_150 n (by omega)
    rw [this.1, this.2]
theorem inv_0 : InvL I00 s00 P00 37 0 := by
  obtain ⟨a, b, c, d, e⟩ := i0_c
  exact ⟨rfl, wf_0, cg_0, 0, Nat.le_refl _, ⟨a, ⟨b, c, d⟩, Or.inl e, fun x _ _ => ⟨0, i0_117, by decide⟩⟩, fun u => absurd (e.symm.trans u) (by decide)⟩
theorem hZ_0 : hZ = (Sx 16 0, Ix lI0, Rx lR0) := by
  have e : (fun _ : Nat => ((99 : Nat), (0 : Nat))) = fun a => if a < 16 then SHf a else (99, 0) := by
    funext a
    by_cases c : a < 16
    · rw [if_pos c]
      unfold SHf
      rw [if_pos c]
    · rw [if_neg c]
  show ((16, 0, fun _ : Nat => ((99 : Nat), (0 : Nat))), _, _) = _
  rw [e]
  rfl
set_option maxRecDepth 20000 in
theorem law_wp {xs : Nat → Int32} {L : Nat} (hL : L ≤ 3584) : wp (mcall MT CD 100) (cM xs L) limL QL 0 [vr 1, vj, vj, vj] [] hZ := by
  rw [hZ_0]
  refine x_new (cn rfl kL_0) (by decide) rfl rfl (by decide) (by decide) rfl rfl ?_
  refine s_dupr (cn rfl kL_3) ?_
  refine s_inv0 (lm := (127, 2474)) (cn rfl kL_4) (by decide) (Nat.le_of_ble_eq_true rfl) ⟨by decide, by decide, by decide, by decide⟩ (ct_0 (d := 96)) (fun o h1 hq => ?_)
  obtain ⟨rfl, rfl⟩ := hq
  refine s_ast1 (cn rfl kL_7) rfl ?_
  refine x_new (cn rfl kL_8) (by decide) (by decide +kernel) (by decide +kernel) (by decide) (by decide) rfl rfl ?_
  refine s_dupr (cn rfl kL_11) ?_
  refine s_inv0 (lm := (151, 6477)) (cn rfl kL_12) (by decide) (Nat.le_of_ble_eq_true rfl) ⟨by decide, by decide, by decide, by decide⟩ (ct_41 (d := 99)) (fun o h1 hq => ?_)
  obtain ⟨rfl, rfl⟩ := hq
  refine s_ast2 (cn rfl kL_15) rfl ?_
  refine s_push (cn rfl kL_16) ?_
  refine s_ist3 (cn rfl kL_17) rfl ?_
  rw [RR_0]
  exact lpL2 hL 512 0 I00 s00 P00 37 (by decide) inv_0
