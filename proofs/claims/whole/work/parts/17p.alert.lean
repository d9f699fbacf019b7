/-! the best night: alert, the reference -/
set_option maxRecDepth 20000 in
theorem lp200a {d : Nat} {I σ : Nat → Int → Int} {P : Int → Nat} {dr : Nat} {Q : mQ} {x2 x4 x5 x6 x11 : mV} (hN : WFn σ) (hP : WFp σ) (hs : sig I = σ) {t v m r d2 : Int} {K b : Nat} (t0 : 0 ≤ t) (t1 : t < σ 127 2) (v0 : 1000 ≤ v) (v1 : v ≤ 4999) (hKv : v.tdiv 1000 = (K : Int)) (hmv : (v.tdiv 100).tmod 10 = m) (hrv : (v.tdiv 10).tmod 10 = r) (hdv : v.tmod 10 = d2) (hm2 : 0 ≤ m ∧ m ≤ 3) (hr2 : 0 ≤ r ∧ r ≤ 8) (hd2 : 0 ≤ d2 ∧ d2 ≤ 1) (k1 : 1 ≤ K) (k4 : K ≤ 4) (hbK : ((b + K : Nat) : Int) ≤ σ 127 0) (hK1 : atG σ t m r d2 K b → ∀ l10 : mV, wp (mcall MT CD (d + 7)) (CD 200) L0 Q 125 [vr 127, vi t, x2, vi v, x4, x5, x6, vi (b : Int), vi (stN b K : Int), vi 1, l10, x11] [] (S0, I, RR P dr)) (hK0 : ¬ atG σ t m r d2 K b → ∀ l8 l10 : mV, wp (mcall MT CD (d + 7)) (CD 200) L0 Q 125 [vr 127, vi t, x2, vi v, x4, x5, x6, vi (b : Int), l8, vi 0, l10, x11] [] (S0, I, RR P dr)) : ∀ (m' j : Nat) (z : Int), j + m' = K → ((z = 1 ∧ ∀ i, i < j → fitS σ 0 t ((b + i : Nat) : Int) m r d2) ∨ (z = 0 ∧ ¬ atG σ t m r d2 K b)) → wp (mcall MT CD (d + 7)) (CD 200) L0 Q 64 [vr 127, vi t, x2, vi v, x4, x5, x6, vi (b : Int), vi (stN b j : Int), vi z, vi ((b + j : Nat) : Int), x11] [] (S0, I, RR P dr) := by
  have b0 := hN.1
  have b2 := hN.2.2.1
  have td1 := td10 v (by omega) (by omega)
  have td2 := td100 v (by omega) (by omega)
  intro m'
  induction m' with
  | zero =>
    intro j z hi hz
    refine s_ild k200_64 rfl ?_
    refine s_ild k200_66 rfl ?_
    refine s_ild k200_68 rfl ?_
    refine z_push k200_69 ?_
    refine z_idiv k200_72 ⟨by omega, by omega⟩ (inR_lit rfl) (by decide) ?_
    refine z_eqi (b := (K : Int)) hKv ?_
    refine z_iadd k200_73 ?_
    refine s_icge k200_74 ⟨by omega, by omega⟩ ⟨by omega, by omega⟩ (fun h74 => ?_) (fun q => absurd q (by omega))
    have ej : j = K := by omega
    subst ej
    rcases hz with ⟨rfl, hal⟩ | ⟨rfl, hno⟩
    · exact hK1 (fun i hi => ⟨by omega, hal i hi⟩) _
    · exact hK0 hno _ _
  | succ m' ih =>
    intro j z hi hz
    have hst : stN b j < 4096 := st_n (n := 12) (by omega)
    have hpw : 2 ^ (b + j) < 2 ^ 12 := Nat.pow_lt_pow_right (by decide) (by omega)
    have hpw2 : 2 ^ (b + j) < 4096 := hpw
    have htg := hN.tg t0 t1
    rcases hz with ⟨rfl, hal⟩ | ⟨rfl, hno⟩
    · refine s_ild k200_64 rfl ?_
      refine s_ild k200_66 rfl ?_
      refine s_ild k200_68 rfl ?_
      refine z_push k200_69 ?_
      refine z_idiv k200_72 ⟨by omega, by omega⟩ (inR_lit rfl) (by decide) ?_
      refine z_eqi (b := (K : Int)) hKv ?_
      refine z_iadd k200_73 ?_
      refine s_icge k200_74 ⟨by omega, by omega⟩ ⟨by omega, by omega⟩ (fun q => absurd q (by omega)) (fun h74 => ?_)
      refine s_ild k200_77 rfl ?_
      refine s_ifeq k200_79 (inR_lit rfl) (fun q => absurd q (by decide)) (fun _ => ?_)
      refine s_ald k200_82 rfl ?_
      refine s_ild k200_83 rfl ?_
      refine s_ild k200_84 rfl ?_
      refine z_push k200_86 ?_
      refine s_ild k200_87 rfl ?_
      refine z_push k200_88 ?_
      refine z_idiv k200_90 ⟨by omega, by omega⟩ (inR_lit rfl) (by decide) ?_
      refine z_push k200_91 ?_
      refine z_irem k200_93 ⟨by omega, by omega⟩ (inR_lit rfl) (by decide) ?_
      refine z_eqi (b := m) hmv ?_
      refine s_ild k200_94 rfl ?_
      refine z_push k200_95 ?_
      refine z_idiv k200_97 ⟨by omega, by omega⟩ (inR_lit rfl) (by decide) ?_
      refine z_push k200_98 ?_
      refine z_irem k200_100 ⟨by omega, by omega⟩ (inR_lit rfl) (by decide) ?_
      refine z_eqi (b := r) hrv ?_
      refine s_ild k200_101 rfl ?_
      refine z_push k200_102 ?_
      refine z_irem k200_104 ⟨by omega, by omega⟩ (inR_lit rfl) (by decide) ?_
      refine z_eqi (b := d2) hdv ?_
      refine z_inv6A k200_105 rfl (Nat.le_of_ble_eq_true rfl) (c168 hs t0 (by omega) htg.1 htg.2.1 htg.2.2 hN.2.1 (hN.sk (by omega) (by omega)) hN.mo (by omega) (by omega) (by decide) (by decide) (by omega) (by omega) (by omega)) ?_
      refine s_ist9 k200_108 rfl ?_
      refine s_ild k200_110 rfl ?_
      refine z_push k200_112 ?_
      refine s_ild k200_113 rfl ?_
      refine z_ishl k200_115 ?_
      refine z_eqi (b := ((2 ^ (b + j) : Nat) : Int)) (z2p (by omega)) ?_
      refine z_ior k200_116 ?_
      refine z_eqi (b := (stN b (j + 1) : Int)) (by rw [← st_or]; exact zor_n (by omega) (by omega)) ?_
      refine s_ist8 k200_117 rfl ?_
      by_cases hf : fitS σ 0 t ((b + j : Nat) : Int) m r d2
      · have ez : b2i (fitS σ 0 t ((b + j : Nat) : Int) m r d2) = 1 := if_pos hf
        rw [ez]
        refine s_iinc10 k200_119 rfl ?_
        refine z_goto k200_122 ?_
        refine ih (j + 1) 1 (by omega) (Or.inl ⟨rfl, fun i hi => ?_⟩)
        by_cases e : i = j
        · subst e; exact hf
        · exact hal i (by omega)
      · have ez : b2i (fitS σ 0 t ((b + j : Nat) : Int) m r d2) = 0 := if_neg hf
        rw [ez]
        refine s_iinc10 k200_119 rfl ?_
        refine z_goto k200_122 ?_
        exact ih (j + 1) 0 (by omega) (Or.inr ⟨rfl, fun u => hf (u j (by omega)).2⟩)
    · refine s_ild k200_64 rfl ?_
      refine s_ild k200_66 rfl ?_
      refine s_ild k200_68 rfl ?_
      refine z_push k200_69 ?_
      refine z_idiv k200_72 ⟨by omega, by omega⟩ (inR_lit rfl) (by decide) ?_
      refine z_eqi (b := (K : Int)) hKv ?_
      refine z_iadd k200_73 ?_
      refine s_icge k200_74 ⟨by omega, by omega⟩ ⟨by omega, by omega⟩ (fun q => absurd q (by omega)) (fun h74 => ?_)
      refine s_ild k200_77 rfl ?_
      refine s_ifeq k200_79 (inR_lit rfl) (fun _ => ?_) (fun q => absurd q (by decide))
      exact hK0 hno _ _
