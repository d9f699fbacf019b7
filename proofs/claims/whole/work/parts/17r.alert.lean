/-! the best night: alert, the reference -/
theorem SV.n {σ J K : Nat → Int → Int} {br : Nat → Nat → Prop} (h : SV σ br J) (hs : sig K = σ) (k : ∀ a q, a ≠ 127 → K a q = J a q) : SV σ br K := by
  refine ⟨hs, fun p hp => ?_, fun p q hp hq => ?_⟩
  · obtain ⟨g1, g2⟩ := h.2.1 p hp
    exact ⟨(k _ _ (by decide)).trans g1, fun i hi => ⟨(k _ _ (by decide)).trans (g2 i hi).1, (k _ _ (by decide)).trans (g2 i hi).2⟩⟩
  · rw [k _ _ (by decide)]
    exact h.2.2 p q hp hq
set_option maxRecDepth 20000 in
theorem lp200o {d : Nat} {I σ : Nat → Int → Int} {P : Int → Nat} {dr : Nat} (hN : WFn σ) (hP : WFp σ) {t v m r d2 : Int} {K : Nat} (t0 : 0 ≤ t) (t1 : t < σ 127 2) (v0 : 1000 ≤ v) (v1 : v ≤ 4999) (hKv : v.tdiv 1000 = (K : Int)) (hmv : (v.tdiv 100).tmod 10 = m) (hrv : (v.tdiv 10).tmod 10 = r) (hdv : v.tmod 10 = d2) (hm2 : 0 ≤ m ∧ m ≤ 3) (hr2 : 0 ≤ r ∧ r ≤ 8) (hd2 : 0 ≤ d2 ∧ d2 ≤ 1) (k1 : 1 ≤ K) (k4 : K ≤ 4) {i fr to : Nat} (hi3 : i < 3) (hft : fr ≤ to) (hto : (to : Int) < σ 127 0) {W : Int} (hW : W = WSc σ (bC σ)) (hWb : 0 ≤ W ∧ W ≤ 500) (hbi : IsB (nP σ) (okS σ (fun _ _ => False) (nP σ)) (WSc σ) (SSc σ) (bC σ)) : ∀ (m' b : Nat) (J : Nat → Int → Int) (br : Nat → Nat → Prop) (x8 x9 x10 x11 : mV), b + m' = to + 1 → fr ≤ b → SV σ br J → (∀ a k, a < 127 → J a k = I a k) → ALs σ t m r d2 K i fr b (J 127 40) (J 127 41) → (-1 ≤ J 127 40 ∧ J 127 40 ≤ 12) → (-1 ≤ J 127 41 ∧ J 127 41 ≤ 500) → wp (mcall MT CD (d + 7)) (CD 200) L0 (fun o h => o = none ∧ ∃ J, h = (S0, J, RR P dr) ∧ sig J = σ ∧ (∀ a k, a < 127 → J a k = I a k) ∧ ALs σ t m r d2 K i fr (to + 1) (J 127 40) (J 127 41)) 28 [vr 127, vi t, vi (i : Int), vi v, vi (fr : Int), vi (to : Int), vi W, vi (b : Int), x8, x9, x10, x11] [] (S0, J, RR P dr) := by
  have b0 := hN.1
  have b2 := hN.2.2.1
  have td1 := td10 v (by omega) (by omega)
  have td2 := td100 v (by omega) (by omega)
  have bp := hP.1
  have hnp : nP σ = (σ 127 21).toNat := rfl
  intro m'
  induction m' with
  | zero =>
    intro b J br x8 x9 x10 x11 hi hb hV hF hA h2b h3b
    refine s_ild k200_28 rfl ?_
    refine s_ild k200_30 rfl ?_
    refine s_icgt k200_32 ⟨by omega, by omega⟩ ⟨by omega, by omega⟩ (fun h32 => ?_) (fun q => absurd q (by omega))
    have e9 : b = to + 1 := by omega
    subst e9
    exact z_vret k200_251 ⟨rfl, J, rfl, hV.1, hF, hA⟩
  | succ m' ih =>
    intro b J br x8 x9 x10 x11 hi hb hV hF hA h2b h3b
    have hone : ∀ (b : Nat) (a a' : Int), MXc σ (tkN (stN b K) i) a → MXc σ (tkN (stN b K) i) a' → a = a' := fun _ _ _ h h' => h.one h'
    refine s_ild k200_28 rfl ?_
    refine s_ild k200_30 rfl ?_
    refine s_icgt k200_32 ⟨by omega, by omega⟩ ⟨by omega, by omega⟩ (fun q => absurd q (by omega)) (fun h32 => ?_)
    refine z_push k200_35 ?_
    refine s_ist8 k200_36 rfl ?_
    refine s_ild k200_38 rfl ?_
    refine s_ild k200_40 rfl ?_
    refine z_push k200_41 ?_
    refine z_idiv k200_44 ⟨by omega, by omega⟩ (inR_lit rfl) (by decide) ?_
    refine z_eqi (b := (K : Int)) hKv ?_
    refine z_iadd k200_45 ?_
    refine s_ald k200_46 rfl ?_
    refine z_getIe (z := σ 127 0) k200_47 rfl (st_s hV.1 rfl) ?_
    refine s_icgt k200_50 ⟨by omega, by omega⟩ ⟨by omega, by omega⟩ (fun h50 => ?_) (fun h50 => ?_)
    · refine z_push k200_57 ?_
      refine s_ist9 k200_58 rfl ?_
      refine s_ild k200_60 rfl ?_
      refine s_ist10 k200_62 rfl ?_
      refine s_ild k200_64 rfl ?_
      refine s_ild k200_66 rfl ?_
      refine s_ild k200_68 rfl ?_
      refine z_push k200_69 ?_
      refine z_idiv k200_72 ⟨by omega, by omega⟩ (inR_lit rfl) (by decide) ?_
      refine z_eqi (b := (K : Int)) hKv ?_
      refine z_iadd k200_73 ?_
      refine s_icge k200_74 ⟨by omega, by omega⟩ ⟨by omega, by omega⟩ (fun q => absurd q (by omega)) (fun h74 => ?_)
      refine s_ild k200_77 rfl ?_
      refine s_ifeq k200_79 (inR_lit rfl) (fun _ => ?_) (fun q => absurd q (by decide))
      have hn : ¬ atG σ t m r d2 K b := fun u => by have := at_st k1 u; omega
      refine s_ild k200_125 rfl ?_
      refine s_ifeq k200_127 (inR_lit rfl) (fun _ => ?_) (fun q => absurd rfl q)
      refine s_iinc7 k200_245 rfl ?_
      refine z_goto k200_248 ?_
      exact ih (b + 1) J br _ _ _ _ (by omega) (by omega) hV hF (hA.skip hn) h2b h3b
    · refine z_push k200_53 ?_
      refine z_goto k200_54 ?_
      refine s_ist9 k200_58 rfl ?_
      refine s_ild k200_60 rfl ?_
      refine s_ist10 k200_62 rfl ?_
      have e0 : ((stN b 0 : Nat) : Int) = 0 := by rw [st_z]; rfl
      have hh := lp200a (I := J) (x2 := vi (i : Int)) (x4 := vi (fr : Int)) (x5 := vi (to : Int)) (x6 := vi W) (x11 := x11) (Q := fun o h => o = none ∧ ∃ J, h = (S0, J, RR P dr) ∧ sig J = σ ∧ (∀ a k, a < 127 → J a k = I a k) ∧ ALs σ t m r d2 K i fr (to + 1) (J 127 40) (J 127 41)) (d := d) (P := P) (dr := dr) hN hP hV.1 (b := b) t0 t1 v0 v1 hKv hmv hrv hdv hm2 hr2 hd2 k1 k4 (by omega) ?_ ?_ K 0 1 (by omega) (Or.inl ⟨rfl, fun i hi => absurd hi (by omega)⟩)
      · rw [e0] at hh
        exact hh
      · intro hat l10
        have hst := at_st k1 hat
        have hsn : stN b K < 2 ^ (σ 127 0).toNat := st_n (by omega)
        have hs4 : stN b K < 4096 := Nat.lt_of_lt_of_le hsn (p12 (by omega))
        refine s_ild k200_125 rfl ?_
        refine s_ifeq k200_127 (inR_lit rfl) (fun q => absurd q (by decide)) (fun _ => ?_)
        refine z_push k200_130 ?_
        refine s_ist10 k200_131 rfl ?_
        refine lp200b (I := J) hN hP hsn hi3 (fun M l10 l11 mF hMV => ?_) (nP σ) 0 J _ (by omega) (fun _ _ _ => rfl) (MB.z hV)
        refine s_ald k200_202 rfl ?_
        refine z_inv0 k200_203 rfl (Nat.le_of_ble_eq_true rfl) (c178 hN hP hMV) (fun o h1 hq => ?_)
        obtain ⟨rfl, K2, e, rfl, kV, kF, kB, kI⟩ := hq
        have mX := mx_ref hN hP hs4 hi3 kI
        have hle := mx_le hN hP mX hbi
        have heb := (sum_b hP (c := e) (nP σ) (by omega)).1
        have hee : WSc σ e = sumC (lnS σ) (wS σ) e (nP σ) := rfl
        have k40 : K2 127 40 = J 127 40 := (kF 127 40 (by decide) (by decide)).trans (mF _ _ (by decide))
        have k41 : K2 127 41 = J 127 41 := (kF 127 41 (by decide) (by decide)).trans (mF _ _ (by decide))
        have k27 : K2 127 27 = WSc σ e := kB.1
        have kL : ∀ a k, a < 127 → K2 a k = I a k := fun a k h => (kF a k (by omega) (by omega)).trans ((mF a k (by omega)).trans (hF a k h))
        have hset : (J 127 40 = -1 ∨ W - WSc σ e < J 127 41) → ∀ l10 l11 : mV, wp (mcall MT CD (d + 7)) (CD 200) L0 (fun o h => o = none ∧ ∃ J, h = (S0, J, RR P dr) ∧ sig J = σ ∧ (∀ a k, a < 127 → J a k = I a k) ∧ ALs σ t m r d2 K i fr (to + 1) (J 127 40) (J 127 41)) 228 [vr 127, vi t, vi (i : Int), vi v, vi (fr : Int), vi (to : Int), vi W, vi (b : Int), vi (stN b K : Int), vi 1, l10, l11] [] (S0, K2, RR P dr) := by
          intro hc l10 l11
          refine s_ald k200_228 rfl ?_
          refine s_ild k200_229 rfl ?_
          refine z_putIe (q := 40) k200_231 rfl rfl ?_
          refine s_ald k200_234 rfl ?_
          refine s_ild k200_235 rfl ?_
          refine s_ald k200_237 rfl ?_
          refine z_getIe (z := WSc σ e) k200_238 rfl ((up_nk (by decide)).trans k27) ?_
          refine z_isub k200_241 ?_
          refine z_putIe (q := 41) k200_242 rfl rfl ?_
          refine s_iinc7 k200_245 rfl ?_
          refine z_goto k200_248 ?_
          have u2 : upI (upI K2 127 40 (b : Int)) 127 41 (W - WSc σ e) 127 40 = (b : Int) := (up_nk (by decide)).trans up_at
          have u3 : upI (upI K2 127 40 (b : Int)) 127 41 (W - WSc σ e) 127 41 = W - WSc σ e := up_at
          refine ih (b + 1) _ (brA σ (stN b K) i) _ _ _ _ (by omega) (by omega) (kV.n ((sig_no rfl).trans ((sig_no rfl).trans kV.1)) (fun a q h => (up_ne h).trans (up_ne h))) (fun a k h => (up_ne (by omega)).trans ((up_ne (by omega)).trans (kL a k h))) ?_ (by rw [u2]; omega) (by rw [u3]; omega)
          rw [u2, u3]
          subst hW
          exact ALp.take hb hone hA hat mX hc hle
        refine s_ald k200_206 rfl ?_
        refine z_getIe (z := J 127 40) k200_207 rfl k40 ?_
        refine z_push k200_210 ?_
        refine s_iceq k200_211 ⟨by omega, by omega⟩ (inR_lit rfl) (fun h90 => ?_) (fun h90 => ?_)
        · exact hset (Or.inl h90) _ _
        · refine s_ild k200_214 rfl ?_
          refine s_ald k200_216 rfl ?_
          refine z_getIe (z := WSc σ e) k200_217 rfl k27 ?_
          refine z_isub k200_220 ?_
          refine s_ald k200_221 rfl ?_
          refine z_getIe (z := J 127 41) k200_222 rfl k41 ?_
          refine s_icge k200_225 ⟨by omega, by omega⟩ ⟨by omega, by omega⟩ (fun h99 => ?_) (fun h99 => ?_)
          · refine s_iinc7 k200_245 rfl ?_
            refine z_goto k200_248 ?_
            refine ih (b + 1) K2 _ _ _ _ _ (by omega) (by omega) kV kL ?_ (by omega) (by omega)
            rw [k40, k41]
            exact ALp.keep hone hA mX h90 (by rw [← hW]; omega)
          · exact hset (Or.inr (by omega)) _ _
      · intro hn l8 l10
        refine s_ild k200_125 rfl ?_
        refine s_ifeq k200_127 (inR_lit rfl) (fun _ => ?_) (fun q => absurd rfl q)
        refine s_iinc7 k200_245 rfl ?_
        refine z_goto k200_248 ?_
        exact ih (b + 1) J br _ _ _ _ (by omega) (by omega) hV hF (hA.skip hn) h2b h3b
