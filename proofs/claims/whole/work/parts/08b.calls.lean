/-! calls that only answer -/
theorem z_inv0A {C : mC} {cd : Nat → mT} {Q : mQ} {pc : Nat} {ls r : List mV} {I : Nat → Int → Int} {P : Int → Nat} {dr : Nat} {v : mV} {c y n a : Nat}  (hc : cd pc = o_inv c y 0 n) (h0 : (S0.2.2 a).1 = c) (hr : mcat r ≤ 8) (h5 : C y (vr a :: []) (S0, I, RR P dr) L0 (ans v I P dr)) (k9 : wp C cd L0 Q n ls (v :: r) (S0, I, RR P dr)) : wp C cd L0 Q pc ls (vr a :: r) (S0, I, RR P dr) := z_inv0 hc h0 hr h5 (fun o h1 q => by rw [q.1, q.2]; exact k9)
theorem z_sta0A {C : mC} {cd : Nat → mT} {Q : mQ} {pc : Nat} {ls r : List mV} {I : Nat → Int → Int} {P : Int → Nat} {dr : Nat} {v : mV} {y n : Nat}  (hc : cd pc = o_sta y 0 n) (hr : mcat r ≤ 8) (h5 : C y [] (S0, I, RR P dr) L0 (ans v I P dr)) (k9 : wp C cd L0 Q n ls (v :: r) (S0, I, RR P dr)) : wp C cd L0 Q pc ls (r) (S0, I, RR P dr) := z_sta0 hc hr h5 (fun o h1 q => by rw [q.1, q.2]; exact k9)
theorem z_inv1A {C : mC} {cd : Nat → mT} {Q : mQ} {pc : Nat} {ls r : List mV} {I : Nat → Int → Int} {P : Int → Nat} {dr : Nat} {v : mV} {c y n a : Nat} {a0 : mV} (hc : cd pc = o_inv c y 1 n) (h0 : (S0.2.2 a).1 = c) (hr : mcat r ≤ 8) (h5 : C y (vr a :: [a0]) (S0, I, RR P dr) L0 (ans v I P dr)) (k9 : wp C cd L0 Q n ls (v :: r) (S0, I, RR P dr)) : wp C cd L0 Q pc ls (a0 :: vr a :: r) (S0, I, RR P dr) := z_inv1 hc h0 hr h5 (fun o h1 q => by rw [q.1, q.2]; exact k9)
theorem z_sta1A {C : mC} {cd : Nat → mT} {Q : mQ} {pc : Nat} {ls r : List mV} {I : Nat → Int → Int} {P : Int → Nat} {dr : Nat} {v : mV} {y n : Nat} {a0 : mV} (hc : cd pc = o_sta y 1 n) (hr : mcat r ≤ 8) (h5 : C y [a0] (S0, I, RR P dr) L0 (ans v I P dr)) (k9 : wp C cd L0 Q n ls (v :: r) (S0, I, RR P dr)) : wp C cd L0 Q pc ls (a0 :: r) (S0, I, RR P dr) := z_sta1 hc hr h5 (fun o h1 q => by rw [q.1, q.2]; exact k9)
theorem z_inv2A {C : mC} {cd : Nat → mT} {Q : mQ} {pc : Nat} {ls r : List mV} {I : Nat → Int → Int} {P : Int → Nat} {dr : Nat} {v : mV} {c y n a : Nat} {a0 a1 : mV} (hc : cd pc = o_inv c y 2 n) (h0 : (S0.2.2 a).1 = c) (hr : mcat r ≤ 8) (h5 : C y (vr a :: [a0, a1]) (S0, I, RR P dr) L0 (ans v I P dr)) (k9 : wp C cd L0 Q n ls (v :: r) (S0, I, RR P dr)) : wp C cd L0 Q pc ls (a1 :: a0 :: vr a :: r) (S0, I, RR P dr) := z_inv2 hc h0 hr h5 (fun o h1 q => by rw [q.1, q.2]; exact k9)
theorem z_sta2A {C : mC} {cd : Nat → mT} {Q : mQ} {pc : Nat} {ls r : List mV} {I : Nat → Int → Int} {P : Int → Nat} {dr : Nat} {v : mV} {y n : Nat} {a0 a1 : mV} (hc : cd pc = o_sta y 2 n) (hr : mcat r ≤ 8) (h5 : C y [a0, a1] (S0, I, RR P dr) L0 (ans v I P dr)) (k9 : wp C cd L0 Q n ls (v :: r) (S0, I, RR P dr)) : wp C cd L0 Q pc ls (a1 :: a0 :: r) (S0, I, RR P dr) := z_sta2 hc hr h5 (fun o h1 q => by rw [q.1, q.2]; exact k9)
theorem z_inv3A {C : mC} {cd : Nat → mT} {Q : mQ} {pc : Nat} {ls r : List mV} {I : Nat → Int → Int} {P : Int → Nat} {dr : Nat} {v : mV} {c y n a : Nat} {a0 a1 a2 : mV} (hc : cd pc = o_inv c y 3 n) (h0 : (S0.2.2 a).1 = c) (hr : mcat r ≤ 8) (h5 : C y (vr a :: [a0, a1, a2]) (S0, I, RR P dr) L0 (ans v I P dr)) (k9 : wp C cd L0 Q n ls (v :: r) (S0, I, RR P dr)) : wp C cd L0 Q pc ls (a2 :: a1 :: a0 :: vr a :: r) (S0, I, RR P dr) := z_inv3 hc h0 hr h5 (fun o h1 q => by rw [q.1, q.2]; exact k9)
theorem z_sta3A {C : mC} {cd : Nat → mT} {Q : mQ} {pc : Nat} {ls r : List mV} {I : Nat → Int → Int} {P : Int → Nat} {dr : Nat} {v : mV} {y n : Nat} {a0 a1 a2 : mV} (hc : cd pc = o_sta y 3 n) (hr : mcat r ≤ 8) (h5 : C y [a0, a1, a2] (S0, I, RR P dr) L0 (ans v I P dr)) (k9 : wp C cd L0 Q n ls (v :: r) (S0, I, RR P dr)) : wp C cd L0 Q pc ls (a2 :: a1 :: a0 :: r) (S0, I, RR P dr) := z_sta3 hc hr h5 (fun o h1 q => by rw [q.1, q.2]; exact k9)
theorem z_inv4A {C : mC} {cd : Nat → mT} {Q : mQ} {pc : Nat} {ls r : List mV} {I : Nat → Int → Int} {P : Int → Nat} {dr : Nat} {v : mV} {c y n a : Nat} {a0 a1 a2 a3 : mV} (hc : cd pc = o_inv c y 4 n) (h0 : (S0.2.2 a).1 = c) (hr : mcat r ≤ 8) (h5 : C y (vr a :: [a0, a1, a2, a3]) (S0, I, RR P dr) L0 (ans v I P dr)) (k9 : wp C cd L0 Q n ls (v :: r) (S0, I, RR P dr)) : wp C cd L0 Q pc ls (a3 :: a2 :: a1 :: a0 :: vr a :: r) (S0, I, RR P dr) := z_inv4 hc h0 hr h5 (fun o h1 q => by rw [q.1, q.2]; exact k9)
theorem z_sta4A {C : mC} {cd : Nat → mT} {Q : mQ} {pc : Nat} {ls r : List mV} {I : Nat → Int → Int} {P : Int → Nat} {dr : Nat} {v : mV} {y n : Nat} {a0 a1 a2 a3 : mV} (hc : cd pc = o_sta y 4 n) (hr : mcat r ≤ 8) (h5 : C y [a0, a1, a2, a3] (S0, I, RR P dr) L0 (ans v I P dr)) (k9 : wp C cd L0 Q n ls (v :: r) (S0, I, RR P dr)) : wp C cd L0 Q pc ls (a3 :: a2 :: a1 :: a0 :: r) (S0, I, RR P dr) := z_sta4 hc hr h5 (fun o h1 q => by rw [q.1, q.2]; exact k9)
theorem z_inv5A {C : mC} {cd : Nat → mT} {Q : mQ} {pc : Nat} {ls r : List mV} {I : Nat → Int → Int} {P : Int → Nat} {dr : Nat} {v : mV} {c y n a : Nat} {a0 a1 a2 a3 a4 : mV} (hc : cd pc = o_inv c y 5 n) (h0 : (S0.2.2 a).1 = c) (hr : mcat r ≤ 8) (h5 : C y (vr a :: [a0, a1, a2, a3, a4]) (S0, I, RR P dr) L0 (ans v I P dr)) (k9 : wp C cd L0 Q n ls (v :: r) (S0, I, RR P dr)) : wp C cd L0 Q pc ls (a4 :: a3 :: a2 :: a1 :: a0 :: vr a :: r) (S0, I, RR P dr) := z_inv5 hc h0 hr h5 (fun o h1 q => by rw [q.1, q.2]; exact k9)
theorem z_sta5A {C : mC} {cd : Nat → mT} {Q : mQ} {pc : Nat} {ls r : List mV} {I : Nat → Int → Int} {P : Int → Nat} {dr : Nat} {v : mV} {y n : Nat} {a0 a1 a2 a3 a4 : mV} (hc : cd pc = o_sta y 5 n) (hr : mcat r ≤ 8) (h5 : C y [a0, a1, a2, a3, a4] (S0, I, RR P dr) L0 (ans v I P dr)) (k9 : wp C cd L0 Q n ls (v :: r) (S0, I, RR P dr)) : wp C cd L0 Q pc ls (a4 :: a3 :: a2 :: a1 :: a0 :: r) (S0, I, RR P dr) := z_sta5 hc hr h5 (fun o h1 q => by rw [q.1, q.2]; exact k9)
theorem z_inv6A {C : mC} {cd : Nat → mT} {Q : mQ} {pc : Nat} {ls r : List mV} {I : Nat → Int → Int} {P : Int → Nat} {dr : Nat} {v : mV} {c y n a : Nat} {a0 a1 a2 a3 a4 a5 : mV} (hc : cd pc = o_inv c y 6 n) (h0 : (S0.2.2 a).1 = c) (hr : mcat r ≤ 8) (h5 : C y (vr a :: [a0, a1, a2, a3, a4, a5]) (S0, I, RR P dr) L0 (ans v I P dr)) (k9 : wp C cd L0 Q n ls (v :: r) (S0, I, RR P dr)) : wp C cd L0 Q pc ls (a5 :: a4 :: a3 :: a2 :: a1 :: a0 :: vr a :: r) (S0, I, RR P dr) := z_inv6 hc h0 hr h5 (fun o h1 q => by rw [q.1, q.2]; exact k9)
theorem z_sta6A {C : mC} {cd : Nat → mT} {Q : mQ} {pc : Nat} {ls r : List mV} {I : Nat → Int → Int} {P : Int → Nat} {dr : Nat} {v : mV} {y n : Nat} {a0 a1 a2 a3 a4 a5 : mV} (hc : cd pc = o_sta y 6 n) (hr : mcat r ≤ 8) (h5 : C y [a0, a1, a2, a3, a4, a5] (S0, I, RR P dr) L0 (ans v I P dr)) (k9 : wp C cd L0 Q n ls (v :: r) (S0, I, RR P dr)) : wp C cd L0 Q pc ls (a5 :: a4 :: a3 :: a2 :: a1 :: a0 :: r) (S0, I, RR P dr) := z_sta6 hc hr h5 (fun o h1 q => by rw [q.1, q.2]; exact k9)
theorem z_inv7A {C : mC} {cd : Nat → mT} {Q : mQ} {pc : Nat} {ls r : List mV} {I : Nat → Int → Int} {P : Int → Nat} {dr : Nat} {v : mV} {c y n a : Nat} {a0 a1 a2 a3 a4 a5 a6 : mV} (hc : cd pc = o_inv c y 7 n) (h0 : (S0.2.2 a).1 = c) (hr : mcat r ≤ 8) (h5 : C y (vr a :: [a0, a1, a2, a3, a4, a5, a6]) (S0, I, RR P dr) L0 (ans v I P dr)) (k9 : wp C cd L0 Q n ls (v :: r) (S0, I, RR P dr)) : wp C cd L0 Q pc ls (a6 :: a5 :: a4 :: a3 :: a2 :: a1 :: a0 :: vr a :: r) (S0, I, RR P dr) := z_inv7 hc h0 hr h5 (fun o h1 q => by rw [q.1, q.2]; exact k9)
theorem z_sta7A {C : mC} {cd : Nat → mT} {Q : mQ} {pc : Nat} {ls r : List mV} {I : Nat → Int → Int} {P : Int → Nat} {dr : Nat} {v : mV} {y n : Nat} {a0 a1 a2 a3 a4 a5 a6 : mV} (hc : cd pc = o_sta y 7 n) (hr : mcat r ≤ 8) (h5 : C y [a0, a1, a2, a3, a4, a5, a6] (S0, I, RR P dr) L0 (ans v I P dr)) (k9 : wp C cd L0 Q n ls (v :: r) (S0, I, RR P dr)) : wp C cd L0 Q pc ls (a6 :: a5 :: a4 :: a3 :: a2 :: a1 :: a0 :: r) (S0, I, RR P dr) := z_sta7 hc hr h5 (fun o h1 q => by rw [q.1, q.2]; exact k9)
theorem z_putIe {C : mC} {cd : Nat → mT} {lim : Nat × Nat} {Q : mQ} {pc : Nat} {ls r : List mV} {S : mS} {I : Nat → Int → Int} {R : Nat → Int → Nat} {c k n a : Nat} {q : Int} {z : Int} (hc : cd pc = o_putI c k n) (h0 : (S.2.2 a).1 = c) (e : ((k : Nat) : Int) = q) (k9 : wp C cd lim Q n ls r (S, upI I a q z, R)) : wp C cd lim Q pc ls (vi z :: vr a :: r) (S, I, R) := z_putI hc h0 (by rw [e]; exact k9)
theorem z_putZe {C : mC} {cd : Nat → mT} {lim : Nat × Nat} {Q : mQ} {pc : Nat} {ls r : List mV} {S : mS} {I : Nat → Int → Int} {R : Nat → Int → Nat} {c k n a : Nat} {q : Int} {z : Int} (hc : cd pc = o_putZ c k n) (h0 : (S.2.2 a).1 = c) (e : ((k : Nat) : Int) = q) (hz : z = 0 ∨ z = 1) (k9 : wp C cd lim Q n ls r (S, upI I a q z, R)) : wp C cd lim Q pc ls (vi z :: vr a :: r) (S, I, R) := z_putZ hc h0 hz (by rw [e]; exact k9)
theorem z_putLe {C : mC} {cd : Nat → mT} {lim : Nat × Nat} {Q : mQ} {pc : Nat} {ls r : List mV} {S : mS} {I : Nat → Int → Int} {R : Nat → Int → Nat} {c k n a : Nat} {q : Int} {z : Int} (hc : cd pc = o_putL c k n) (h0 : (S.2.2 a).1 = c) (e : ((k : Nat) : Int) = q) (k9 : wp C cd lim Q n ls r (S, upI I a q z, R)) : wp C cd lim Q pc ls (vl z :: vr a :: r) (S, I, R) := z_putL hc h0 (by rw [e]; exact k9)
theorem z_putRe {C : mC} {cd : Nat → mT} {lim : Nat × Nat} {Q : mQ} {pc : Nat} {ls r : List mV} {S : mS} {I : Nat → Int → Int} {R : Nat → Int → Nat} {c k n a : Nat} {q : Int} {z : Nat} (hc : cd pc = o_putR c k n) (h0 : (S.2.2 a).1 = c) (e : ((k : Nat) : Int) = q) (k9 : wp C cd lim Q n ls r (S, I, upR R a q z)) : wp C cd lim Q pc ls (vr z :: vr a :: r) (S, I, R) := z_putR hc h0 (by rw [e]; exact k9)
theorem ans_i {I : Nat → Int → Int} {P : Int → Nat} {dr : Nat} {a b : Int} (h : a = b) : ans (vi b) I P dr (some (vi a)) (S0, I, RR P dr) := ⟨by rw [h], rfl⟩
theorem ans_l {I : Nat → Int → Int} {P : Int → Nat} {dr : Nat} {a b : Int} (h : a = b) : ans (vl b) I P dr (some (vl a)) (S0, I, RR P dr) := ⟨by rw [h], rfl⟩
theorem ans_r {I : Nat → Int → Int} {P : Int → Nat} {dr : Nat} {a b : Nat} (h : a = b) : ans (vr b) I P dr (some (vr a)) (S0, I, RR P dr) := ⟨by rw [h], rfl⟩
set_option maxRecDepth 20000 in
theorem c126 {d : Nat} {I : Nat → Int → Int} {P : Int → Nat} {dr : Nat} {v lo hi : Int} (hv : inR v) (hlo : inR lo) (hhi : inR hi) : cal (d + 1) 126 [vi v, vi lo, vi hi] I P dr (ans (vi (b2i (lo ≤ v ∧ v ≤ hi))) I P dr) := by
  refine cal_in (Nat.le_of_ble_eq_true rfl) ?_
  show wp _ _ _ _ 0 [vi v, vi lo, vi hi] [] _
  refine s_ild k126_0 rfl ?_
  refine s_ild k126_1 rfl ?_
  refine s_iclt k126_2 hv hlo (fun h2 => ?_) (fun h2 => ?_)
  · refine z_push k126_14 ?_
    exact z_zret k126_15 (Or.inl rfl) (ans_i (b2i_f (by omega)).symm)
  · refine s_ild k126_5 rfl ?_
    refine s_ild k126_6 rfl ?_
    refine s_icgt k126_7 hv hhi (fun h7 => ?_) (fun h7 => ?_)
    · refine z_push k126_14 ?_
      exact z_zret k126_15 (Or.inl rfl) (ans_i (b2i_f (by omega)).symm)
    · refine z_push k126_10 ?_
      refine z_goto k126_11 ?_
      exact z_zret k126_15 (Or.inr rfl) (ans_i (b2i_t (by omega)).symm)
set_option maxRecDepth 20000 in
theorem c136 {d : Nat} {I : Nat → Int → Int} {P : Int → Nat} {dr : Nat} {v lo hi : Int} (hv : inR v) (hlo : inR lo) (hhi : inR hi) : cal (d + 1) 136 [vi v, vi lo, vi hi] I P dr (ans (vi (b2i (lo ≤ v ∧ v ≤ hi))) I P dr) := by
  refine cal_in (Nat.le_of_ble_eq_true rfl) ?_
  show wp _ _ _ _ 0 [vi v, vi lo, vi hi] [] _
  refine s_ild k136_0 rfl ?_
  refine s_ild k136_1 rfl ?_
  refine s_iclt k136_2 hv hlo (fun h2 => ?_) (fun h2 => ?_)
  · refine z_push k136_14 ?_
    exact z_zret k136_15 (Or.inl rfl) (ans_i (b2i_f (by omega)).symm)
  · refine s_ild k136_5 rfl ?_
    refine s_ild k136_6 rfl ?_
    refine s_icgt k136_7 hv hhi (fun h7 => ?_) (fun h7 => ?_)
    · refine z_push k136_14 ?_
      exact z_zret k136_15 (Or.inl rfl) (ans_i (b2i_f (by omega)).symm)
    · refine z_push k136_10 ?_
      refine z_goto k136_11 ?_
      exact z_zret k136_15 (Or.inr rfl) (ans_i (b2i_t (by omega)).symm)
