/-! the best night, the reference: the search -/
set_option maxRecDepth 20000 in
theorem t254 {d : Nat} {σ : Nat → Int → Int} {P : Int → Nat} {dr : Nat} {Q : mQ} (hP : WFp σ) {J : Nat → Int → Int} {p : Nat} {r0 z0 w0 s0 wk bw bs : Int} {l6 l8 l9 l10 : mV} (hs : sig J = σ) (p1 : (p : Int) < σ 127 21) (b27 : J 127 27 = bw) (b28 : J 127 28 = bs) (q1 : -1 ≤ bw ∧ bw ≤ 500) (q2 : 0 ≤ bs ∧ bs ≤ 60) (q3 : 0 ≤ w0 ∧ w0 ≤ 500) (q4 : 0 ≤ s0 ∧ s0 ≤ 60) (q5 : 0 ≤ r0 ∧ r0 ≤ 500) (q6 : 0 ≤ z0 ∧ z0 ≤ 60) (kx : wp (mcall MT CD (d + 2)) (CD 178) L0 Q 326 [vr 127, vi r0, vi z0, vi w0, vi s0, vi (p : Int), l6, vi wk, vi (wk + 1), vi (b2i (w0 + wS σ p + r0 < bw ∨ (w0 + wS σ p + r0 = bw ∧ bs ≤ s0 + zS σ p + z0 ∧ 0 ≤ bw))), l10] [] (S0, J, RR P dr)) : wp (mcall MT CD (d + 2)) (CD 178) L0 Q 254 [vr 127, vi r0, vi z0, vi w0, vi s0, vi (p : Int), l6, vi wk, l8, l9, l10] [] (S0, J, RR P dr) := by
  have bp := hP.1
  have hpw := (hP.2 p (by omega) p1).2.2.2.1
  have hpz := szP_b hP p1
  have ew : wS σ p = pf σ p 3 := rfl
  have ez : zS σ p = (szP σ p : Int) := rfl
  refine s_ild k178_254 rfl ?_
  refine z_push k178_256 ?_
  refine z_iadd k178_257 ?_
  refine s_ist8 k178_258 rfl ?_
  refine s_ild k178_260 rfl ?_
  refine s_ald k178_261 rfl ?_
  refine s_ild k178_262 rfl ?_
  refine z_inv1A k178_264 rfl (Nat.le_of_ble_eq_true rfl) (c165 hs (by omega) (by omega)) ?_
  refine z_iadd k178_267 ?_
  refine s_ild k178_268 rfl ?_
  refine z_iadd k178_269 ?_
  refine s_ald k178_270 rfl ?_
  refine z_getIe (z := bw) k178_271 rfl b27 ?_
  refine s_iclt k178_274 ⟨by omega, by omega⟩ ⟨by omega, by omega⟩ (fun h274 => ?_) (fun h274 => ?_)
  · refine z_push k178_319 ?_
    refine z_goto k178_320 ?_
    refine s_ist9 k178_324 rfl ?_
    rw [b2i_t (p := (w0 + wS σ p + r0 < bw ∨ (w0 + wS σ p + r0 = bw ∧ bs ≤ s0 + zS σ p + z0 ∧ 0 ≤ bw))) (by omega)] at kx
    exact kx
  · refine s_ild k178_277 rfl ?_
    refine s_ald k178_278 rfl ?_
    refine s_ild k178_279 rfl ?_
    refine z_inv1A k178_281 rfl (Nat.le_of_ble_eq_true rfl) (c165 hs (by omega) (by omega)) ?_
    refine z_iadd k178_284 ?_
    refine s_ild k178_285 rfl ?_
    refine z_iadd k178_286 ?_
    refine s_ald k178_287 rfl ?_
    refine z_getIe (z := bw) k178_288 rfl b27 ?_
    refine s_icne k178_291 ⟨by omega, by omega⟩ ⟨by omega, by omega⟩ (fun h291 => ?_) (fun h291 => ?_)
    · refine z_push k178_323 ?_
      refine s_ist9 k178_324 rfl ?_
      rw [b2i_f (p := (w0 + wS σ p + r0 < bw ∨ (w0 + wS σ p + r0 = bw ∧ bs ≤ s0 + zS σ p + z0 ∧ 0 ≤ bw))) (by omega)] at kx
      exact kx
    · refine s_ild k178_294 rfl ?_
      refine s_ald k178_296 rfl ?_
      refine s_ild k178_297 rfl ?_
      refine z_inv1A k178_299 rfl (Nat.le_of_ble_eq_true rfl) (c179 hs (by omega) (hP.2 p (by omega) (by omega))) ?_
      refine z_iadd k178_302 ?_
      refine s_ild k178_303 rfl ?_
      refine z_iadd k178_304 ?_
      refine s_ald k178_305 rfl ?_
      refine z_getIe (z := bs) k178_306 rfl b28 ?_
      refine s_iclt k178_309 ⟨by omega, by omega⟩ ⟨by omega, by omega⟩ (fun h309 => ?_) (fun h309 => ?_)
      · refine z_push k178_323 ?_
        refine s_ist9 k178_324 rfl ?_
        rw [b2i_f (p := (w0 + wS σ p + r0 < bw ∨ (w0 + wS σ p + r0 = bw ∧ bs ≤ s0 + zS σ p + z0 ∧ 0 ≤ bw))) (by omega)] at kx
        exact kx
      · refine s_ald k178_312 rfl ?_
        refine z_getIe (z := bw) k178_313 rfl b27 ?_
        refine s_iflt k178_316 ⟨by omega, by omega⟩ (fun h316 => ?_) (fun h316 => ?_)
        · refine z_push k178_323 ?_
          refine s_ist9 k178_324 rfl ?_
          rw [b2i_f (p := (w0 + wS σ p + r0 < bw ∨ (w0 + wS σ p + r0 = bw ∧ bs ≤ s0 + zS σ p + z0 ∧ 0 ≤ bw))) (by omega)] at kx
          exact kx
        · refine z_push k178_319 ?_
          refine z_goto k178_320 ?_
          refine s_ist9 k178_324 rfl ?_
          rw [b2i_t (p := (w0 + wS σ p + r0 < bw ∨ (w0 + wS σ p + r0 = bw ∧ bs ≤ s0 + zS σ p + z0 ∧ 0 ≤ bw))) (by omega)] at kx
          exact kx
set_option maxRecDepth 20000 in
theorem t326 {d : Nat} {σ : Nat → Int → Int} {P : Int → Nat} {dr : Nat} {Q : mQ} (hP : WFp σ) {J : Nat → Int → Int} {p : Nat} {r0 z0 w0 s0 wk bw bs : Int} {l6 l8 l9 l10 : mV} (hs : sig J = σ) (p1 : (p : Int) < σ 127 21) (b27 : J 127 27 = bw) (b28 : J 127 28 = bs) (q1 : -1 ≤ bw ∧ bw ≤ 500) (q2 : 0 ≤ bs ∧ bs ≤ 60) (q3 : 0 ≤ w0 ∧ w0 ≤ 500) (q4 : 0 ≤ s0 ∧ s0 ≤ 60) (q5 : 0 ≤ r0 ∧ r0 ≤ 500) (q6 : 0 ≤ z0 ∧ z0 ≤ 60) (j9 : mjk l9 = l9) (kx : wp (mcall MT CD (d + 2)) (CD 178) L0 Q 371 [vr 127, vi r0, vi z0, vi w0, vi s0, vi (p : Int), l6, vi wk, l8, l9, vi (b2i (w0 + r0 < bw ∨ (w0 + r0 = bw ∧ bs ≤ s0 + z0 ∧ 0 ≤ bw)))] [] (S0, J, RR P dr)) : wp (mcall MT CD (d + 2)) (CD 178) L0 Q 326 [vr 127, vi r0, vi z0, vi w0, vi s0, vi (p : Int), l6, vi wk, l8, l9, l10] [] (S0, J, RR P dr) := by
  have bp := hP.1
  have hpw := (hP.2 p (by omega) p1).2.2.2.1
  have hpz := szP_b hP p1
  have ew : wS σ p = pf σ p 3 := rfl
  have ez : zS σ p = (szP σ p : Int) := rfl
  refine s_ild k178_326 rfl ?_
  refine s_ild k178_327 rfl ?_
  refine z_iadd k178_328 ?_
  refine s_ald k178_329 rfl ?_
  refine z_getIe (z := bw) k178_330 rfl b27 ?_
  refine s_iclt k178_333 ⟨by omega, by omega⟩ ⟨by omega, by omega⟩ (fun h333 => ?_) (fun h333 => ?_)
  · refine z_push k178_364 ?_
    refine z_goto k178_365 ?_
    refine s_ist10 k178_369 j9 ?_
    rw [b2i_t (p := (w0 + r0 < bw ∨ (w0 + r0 = bw ∧ bs ≤ s0 + z0 ∧ 0 ≤ bw))) (by omega)] at kx
    exact kx
  · refine s_ild k178_336 rfl ?_
    refine s_ild k178_337 rfl ?_
    refine z_iadd k178_338 ?_
    refine s_ald k178_339 rfl ?_
    refine z_getIe (z := bw) k178_340 rfl b27 ?_
    refine s_icne k178_343 ⟨by omega, by omega⟩ ⟨by omega, by omega⟩ (fun h343 => ?_) (fun h343 => ?_)
    · refine z_push k178_368 ?_
      refine s_ist10 k178_369 j9 ?_
      rw [b2i_f (p := (w0 + r0 < bw ∨ (w0 + r0 = bw ∧ bs ≤ s0 + z0 ∧ 0 ≤ bw))) (by omega)] at kx
      exact kx
    · refine s_ild k178_346 rfl ?_
      refine s_ild k178_348 rfl ?_
      refine z_iadd k178_349 ?_
      refine s_ald k178_350 rfl ?_
      refine z_getIe (z := bs) k178_351 rfl b28 ?_
      refine s_iclt k178_354 ⟨by omega, by omega⟩ ⟨by omega, by omega⟩ (fun h354 => ?_) (fun h354 => ?_)
      · refine z_push k178_368 ?_
        refine s_ist10 k178_369 j9 ?_
        rw [b2i_f (p := (w0 + r0 < bw ∨ (w0 + r0 = bw ∧ bs ≤ s0 + z0 ∧ 0 ≤ bw))) (by omega)] at kx
        exact kx
      · refine s_ald k178_357 rfl ?_
        refine z_getIe (z := bw) k178_358 rfl b27 ?_
        refine s_iflt k178_361 ⟨by omega, by omega⟩ (fun h361 => ?_) (fun h361 => ?_)
        · refine z_push k178_368 ?_
          refine s_ist10 k178_369 j9 ?_
          rw [b2i_f (p := (w0 + r0 < bw ∨ (w0 + r0 = bw ∧ bs ≤ s0 + z0 ∧ 0 ≤ bw))) (by omega)] at kx
          exact kx
        · refine z_push k178_364 ?_
          refine z_goto k178_365 ?_
          refine s_ist10 k178_369 j9 ?_
          rw [b2i_t (p := (w0 + r0 < bw ∨ (w0 + r0 = bw ∧ bs ≤ s0 + z0 ∧ 0 ≤ bw))) (by omega)] at kx
          exact kx
set_option maxRecDepth 20000 in
theorem lp402 {d : Nat} {σ : Nat → Int → Int} {P : Int → Nat} {dr : Nat} {Q : mQ} {br : Nat → Nat → Prop} (hN : WFn σ) (hP : WFp σ) {J : Nat → Int → Int} {c : Nat → Nat} {p : Nat} (hV : SV σ br J) (p1 : (p : Int) < σ 127 21) (hc : ∀ q, q < p → J 143 q = (c q : Int)) (hcl : ∀ q, q < p → c q ≤ lnS σ q) {k0 : Nat} {a1 a2 a3 a4 a6 a7 l9 l10 : mV} (j7 : mjk a7 = a7) (kx : ∀ k : Nat, k0 ≤ k → k ≤ lnS σ p → (∀ q, k0 ≤ q → q < k → ¬ goA σ br c p q) → (k < lnS σ p → goA σ br c p k) → wp (mcall MT CD (d + 2)) (CD 178) L0 Q 431 [vr 127, a1, a2, a3, a4, vi (p : Int), a6, a7, vi (k : Int), l9, l10] [] (S0, J, RR P dr)) : ∀ (m k : Nat), k + m = lnS σ p → k0 ≤ k → (∀ q, k0 ≤ q → q < k → ¬ goA σ br c p q) → wp (mcall MT CD (d + 2)) (CD 178) L0 Q 402 [vr 127, a1, a2, a3, a4, vi (p : Int), a6, a7, vi (k : Int), l9, l10] [] (S0, J, RR P dr) := by
  have bp := hP.1
  have hln := ln_b hN hP p
  intro m
  induction m with
  | zero =>
    intro k hk hk0 hng
    refine s_ild k178_402 rfl ?_
    refine s_ald k178_404 rfl ?_
    refine z_getRe (b := 139) k178_405 rfl rr_127_23 ?_
    refine s_ild k178_408 rfl ?_
    refine z_ialde (z := (lnS σ p : Int)) k178_410 rfl (by omega) (show (p : Int) < ((5 : Nat) : Int) by omega) (hV.ln p1) ?_
    refine s_icge k178_411 ⟨by omega, by omega⟩ ⟨by omega, by omega⟩ (fun h411 => ?_) (fun q => absurd q (by omega))
    exact kx k hk0 (by omega) hng (fun u => absurd u (by omega))
  | succ m ih =>
    intro k hk hk0 hng
    refine s_ild k178_402 rfl ?_
    refine s_ald k178_404 rfl ?_
    refine z_getRe (b := 139) k178_405 rfl rr_127_23 ?_
    refine s_ild k178_408 rfl ?_
    refine z_ialde (z := (lnS σ p : Int)) k178_410 rfl (by omega) (show (p : Int) < ((5 : Nat) : Int) by omega) (hV.ln p1) ?_
    refine s_icge k178_411 ⟨by omega, by omega⟩ ⟨by omega, by omega⟩ (fun q => absurd q (by omega)) (fun h411 => ?_)
    refine s_ald k178_414 rfl ?_
    refine s_ild k178_415 rfl ?_
    refine s_ild k178_417 rfl ?_
    refine z_inv2 k178_419 rfl (Nat.le_of_ble_eq_true rfl) (c176 hN hP hV p1 (by omega) hc hcl) (fun o h1 hq => ?_)
    obtain ⟨rfl, ⟨rfl, hg⟩ | ⟨rfl, hg⟩⟩ := hq
    · refine s_ifne k178_422 (inR_lit rfl) (fun _ => ?_) (fun q => absurd q (by decide))
      exact kx k hk0 (by omega) hng (fun _ => hg)
    · refine s_ifne k178_422 (inR_lit rfl) (fun q => absurd rfl q) (fun _ => ?_)
      refine s_iinc8 k178_425 j7 ?_
      refine z_goto k178_428 ?_
      refine ih (k + 1) (by omega) (by omega) (fun q q0 q1 => ?_)
      by_cases e : q = k
      · subst e; exact hg
      · exact hng q q0 (by omega)
set_option maxRecDepth 20000 in
theorem lp133b {d : Nat} {σ : Nat → Int → Int} {P : Int → Nat} {dr : Nat} {Q : mQ} {br : Nat → Nat → Prop} (hN : WFn σ) (hP : WFp σ) {J0 : Nat → Int → Int} {c : Nat → Nat} (hV0 : SV σ br J0) (hc : ∀ q, q < nP σ → J0 143 q = (c q : Int)) (hcl : ∀ q, q < nP σ → c q ≤ lnS σ q) {a1 a2 a3 a4 a5 a6 l8 l9 l10 : mV} (j6 : mjk a6 = a6) (kx : ∀ (J : Nat → Int → Int) (l7 : mV), (∀ a q, a ≠ 144 → J a q = J0 a q) → (∀ q, q < nP σ → J 144 q = if c q < lnS σ q then (c q : Int) else -1) → wp (mcall MT CD (d + 2)) (CD 178) L0 Q 566 [vr 127, a1, a2, a3, a4, a5, a6, l7, l8, l9, l10] [] (S0, J, RR P dr)) : ∀ (m i : Nat) (J : Nat → Int → Int), i + m = nP σ → (∀ a q, a ≠ 144 → J a q = J0 a q) → (∀ q, q < i → J 144 q = if c q < lnS σ q then (c q : Int) else -1) → wp (mcall MT CD (d + 2)) (CD 178) L0 Q 133 [vr 127, a1, a2, a3, a4, a5, a6, vi (i : Int), l8, l9, l10] [] (S0, J, RR P dr) := by
  have bp := hP.1
  have hnp : nP σ = (σ 127 21).toNat := rfl
  intro m
  induction m with
  | zero =>
    intro i J hi hlo hz
    refine s_ild k178_133 rfl ?_
    refine s_ald k178_135 rfl ?_
    refine z_getIe (z := σ 127 21) k178_136 rfl ((hlo 127 21 (by decide)).trans (st_s hV0.1 rfl)) ?_
    refine s_icge k178_139 ⟨by omega, by omega⟩ ⟨by omega, by omega⟩ (fun h139 => ?_) (fun q => absurd q (by omega))
    refine z_goto k178_183 ?_
    exact kx J _ hlo (fun q hq => hz q (by omega))
  | succ m ih =>
    intro i J hi hlo hz
    have hln := ln_b hN hP i
    have hci := hcl i (by omega)
    refine s_ild k178_133 rfl ?_
    refine s_ald k178_135 rfl ?_
    refine z_getIe (z := σ 127 21) k178_136 rfl ((hlo 127 21 (by decide)).trans (st_s hV0.1 rfl)) ?_
    refine s_icge k178_139 ⟨by omega, by omega⟩ ⟨by omega, by omega⟩ (fun q => absurd q (by omega)) (fun h139 => ?_)
    refine s_ald k178_142 rfl ?_
    refine z_getRe (b := 144) k178_143 rfl rr_127_30 ?_
    refine s_ild k178_146 rfl ?_
    refine s_ald k178_148 rfl ?_
    refine z_getRe (b := 143) k178_149 rfl rr_127_29 ?_
    refine s_ild k178_152 rfl ?_
    refine z_ialde (z := (c i : Int)) k178_154 rfl (by omega) (show (i : Int) < ((6 : Nat) : Int) by omega) ((hlo 143 _ (by decide)).trans (hc i (by omega))) ?_
    refine s_ald k178_155 rfl ?_
    refine z_getRe (b := 139) k178_156 rfl rr_127_23 ?_
    refine s_ild k178_159 rfl ?_
    refine z_ialde (z := (lnS σ i : Int)) k178_161 rfl (by omega) (show (i : Int) < ((5 : Nat) : Int) by omega) ((hlo 139 _ (by decide)).trans (hV0.ln (by omega))) ?_
    refine s_icge k178_162 ⟨by omega, by omega⟩ ⟨by omega, by omega⟩ (fun h162 => ?_) (fun h162 => ?_)
    · refine z_push k178_175 ?_
      refine z_iast k178_176 rfl (by omega) (show (i : Int) < ((5 : Nat) : Int) by omega) ?_
      refine s_iinc7 k178_177 j6 ?_
      refine z_goto k178_180 ?_
      refine ih (i + 1) _ (by omega) (fun a q h => (up_ne h).trans (hlo a q h)) (fun q hq => ?_)
      by_cases e : q = i
      · subst e; rw [if_neg (by omega)]; exact up_at
      · exact (up_nk (by omega)).trans (hz q (by omega))
    · refine s_ald k178_165 rfl ?_
      refine z_getRe (b := 143) k178_166 rfl rr_127_29 ?_
      refine s_ild k178_169 rfl ?_
      refine z_ialde (z := (c i : Int)) k178_171 rfl (by omega) (show (i : Int) < ((6 : Nat) : Int) by omega) ((hlo 143 _ (by decide)).trans (hc i (by omega))) ?_
      refine z_goto k178_172 ?_
      refine z_iast k178_176 rfl (by omega) (show (i : Int) < ((5 : Nat) : Int) by omega) ?_
      refine s_iinc7 k178_177 j6 ?_
      refine z_goto k178_180 ?_
      refine ih (i + 1) _ (by omega) (fun a q h => (up_ne h).trans (hlo a q h)) (fun q hq => ?_)
      by_cases e : q = i
      · subst e; rw [if_pos (by omega)]; exact up_at
      · exact (up_nk (by omega)).trans (hz q (by omega))
set_option maxRecDepth 20000 in
theorem srch {d : Nat} {I σ : Nat → Int → Int} {P : Int → Nat} {dr : Nat} {Q : mQ} {br : Nat → Nat → Prop} (hN : WFn σ) (hP : WFp σ) : ∀ (r p : Nat) (J : Nat → Int → Int) (c : Nat → Nat) (B : Option (Nat → Nat)) (l6 l7 l8 l9 l10 : mV), p + r = nP σ → SV σ br J → FBs I J → okS σ br p c → (∀ q, q < p → J 143 q = (c q : Int)) → (∀ q, p ≤ q → q < nP σ → J 143 q = -1) → BI σ J B → (∀ (J2 : Nat → Int → Int) (B2 : Option (Nat → Nat)) (l6 l7 l8 l9 l10 : mV), SV σ br J2 → FBs I J2 → (∀ q, q < p → J2 143 q = (c q : Int)) → (∀ q, p ≤ q → q < nP σ → J2 143 q = -1) → BI σ J2 B2 → Pst (nP σ) (okS σ br (nP σ)) (WSc σ) (SSc σ) (fun d => ∀ q, q < p → d q = c q) B B2 → wp (mcall MT CD (d + 2)) (CD 178) L0 Q 68 [vr 127, vi (totC (wS σ) (nP σ) - totC (wS σ) (p)), vi (totC (zS σ) (nP σ) - totC (zS σ) (p)), vi (sumC (lnS σ) (wS σ) c p), vi (sumC (lnS σ) (zS σ) c p), vi ((p : Int) - 1), l6, l7, l8, l9, l10] [] (S0, J2, RR P dr)) → wp (mcall MT CD (d + 2)) (CD 178) L0 Q 68 [vr 127, vi (totC (wS σ) (nP σ) - totC (wS σ) (p)), vi (totC (zS σ) (nP σ) - totC (zS σ) (p)), vi (sumC (lnS σ) (wS σ) c p), vi (sumC (lnS σ) (zS σ) c p), vi ((p : Int)), l6, l7, l8, l9, l10] [] (S0, J, RR P dr) := by
  have bp := hP.1
  have hnp : nP σ = (σ 127 21).toNat := rfl
  intro r
  induction r with
  | zero =>
    intro p J c B l6 l7 l8 l9 l10 hpr hV hF hok hc hc2 hB hk
    have hpn : p = nP σ := by omega
    subst hpn
    have hs := hV.1
    have hbb := bw_b hP B
    have q1 : -1 ≤ bwO (WSc σ) B ∧ bwO (WSc σ) B ≤ 500 := ⟨hbb.1, hbb.2.1⟩
    have q2 : 0 ≤ bsO (SSc σ) B ∧ bsO (SSc σ) B ≤ 60 := ⟨hbb.2.2.1, hbb.2.2.2.1⟩
    have q3 := sum_b hP (c := c) (nP σ) (by omega)
    have eW : ∀ d, (∀ q, q < nP σ → d q = c q) → WSc σ d = sumC (lnS σ) (wS σ) c (nP σ) ∧ SSc σ d = sumC (lnS σ) (zS σ) c (nP σ) := fun d hd => ⟨sum_eq _ hd, sum_eq _ hd⟩
    refine s_ild k178_68 rfl ?_
    refine s_iflt k178_70 ⟨by omega, by omega⟩ (fun q => absurd q (by omega)) (fun h70 => ?_)
    refine s_ild k178_73 rfl ?_
    refine s_ald k178_75 rfl ?_
    refine z_getIe (z := σ 127 21) k178_76 rfl (st_s hs rfl) ?_
    refine s_icne k178_79 ⟨by omega, by omega⟩ ⟨by omega, by omega⟩ (fun q => absurd q (by omega)) (fun h79 => ?_)
    refine z_push k178_82 ?_
    refine z_goto k178_83 ?_
    refine s_ist6 k178_87 rfl ?_
    refine s_ild k178_89 rfl ?_
    refine s_ifeq k178_91 (inR_lit rfl) (fun q => absurd q (by decide)) (fun _ => ?_)
    refine s_ild k178_94 rfl ?_
    refine s_ald k178_95 rfl ?_
    refine z_getIe (z := bwO (WSc σ) B) k178_96 rfl hB.1 ?_
    refine s_icgt k178_99 ⟨by omega, by omega⟩ ⟨by omega, by omega⟩ (fun h99 => ?_) (fun h99 => ?_)
    · refine s_ald k178_119 rfl ?_
      refine s_ild k178_120 rfl ?_
      refine z_putIe (q := 27) k178_121 rfl rfl ?_
      refine s_ald k178_124 rfl ?_
      refine s_ild k178_125 rfl ?_
      refine z_putIe (q := 28) k178_127 rfl rfl ?_
      refine z_push k178_130 ?_
      refine s_ist7 k178_131 rfl ?_
      refine lp133b (J0 := upI (upI J 127 27 (sumC (lnS σ) (wS σ) c (nP σ))) 127 28 (sumC (lnS σ) (zS σ) c (nP σ))) hN hP (hV.fb ((FBs.rf.up (by omega)).up (by omega))) (c := c) (fun q hq => (up_ne (by decide)).trans ((up_ne (by decide)).trans (hc q hq))) (fun q hq => (hok q hq).1) rfl (fun J3 l7 lo3 z3 => ?_) (nP σ) 0 _ (by omega) (fun _ _ _ => rfl) (fun q hq => absurd hq (by omega))
      have hF3 : FBs J J3 := fun a q h1 h2 => (lo3 a q (by omega)).trans ((if_neg (by omega)).trans (if_neg (by omega)))
      refine s_ild k178_566 rfl ?_
      refine s_ild k178_568 rfl ?_
      refine s_ifeq k178_570 (inR_lit rfl) (fun q => absurd q (by decide)) (fun _ => ?_)
      refine z_push k178_573 ?_
      refine z_goto k178_574 ?_
      refine z_isub k178_578 ?_
      refine s_ist5 k178_579 rfl ?_
      refine z_goto k178_581 ?_
      refine hk J3 (some c) _ _ _ _ _ (hV.fb hF3) (hF.tr hF3) (fun q hq => (lo3 143 q (by decide)).trans ((up_ne (by decide)).trans ((up_ne (by decide)).trans (hc q hq)))) (fun q q0 q1 => absurd q1 (by omega)) ⟨(lo3 127 27 (by decide)).trans ((up_nk (by decide)).trans up_at), (lo3 127 28 (by decide)).trans up_at, fun e he q hq => ?_⟩ (Or.inr ⟨c, rfl, fun q _ => rfl, hok, ?_, fun d hd ho => ⟨fun u => ?_, fun _ _ u => ?_⟩⟩)
      · injection he with he
        subst he
        exact z3 q hq
      · show bwO (WSc σ) B < WSc σ c ∨ _
        have := eW c (fun _ _ => rfl)
        omega
      · have := eW d hd
        have e2 := eW c (fun _ _ => rfl)
        unfold bt2 at u
        rw [bw_s, bs_s] at u
        omega
      · exact lex_irr (lex_eq u (fun q hq => (hd q hq).symm))
    · refine s_ild k178_102 rfl ?_
      refine s_ald k178_103 rfl ?_
      refine z_getIe (z := bwO (WSc σ) B) k178_104 rfl hB.1 ?_
      refine s_icne k178_107 ⟨by omega, by omega⟩ ⟨by omega, by omega⟩ (fun h107 => ?_) (fun h107 => ?_)
      · refine s_ild k178_566 rfl ?_
        refine s_ild k178_568 rfl ?_
        refine s_ifeq k178_570 (inR_lit rfl) (fun q => absurd q (by decide)) (fun _ => ?_)
        refine z_push k178_573 ?_
        refine z_goto k178_574 ?_
        refine z_isub k178_578 ?_
        refine s_ist5 k178_579 rfl ?_
        refine z_goto k178_581 ?_
        refine hk J B _ _ _ _ _ hV hF hc hc2 hB (pst_no (fun d hd ho u => ?_))
        have := eW d hd
        unfold bt2 at u
        omega
      · refine s_ild k178_110 rfl ?_
        refine s_ald k178_112 rfl ?_
        refine z_getIe (z := bsO (SSc σ) B) k178_113 rfl hB.2.1 ?_
        refine s_icge k178_116 ⟨by omega, by omega⟩ ⟨by omega, by omega⟩ (fun h116 => ?_) (fun h116 => ?_)
        · refine s_ild k178_566 rfl ?_
          refine s_ild k178_568 rfl ?_
          refine s_ifeq k178_570 (inR_lit rfl) (fun q => absurd q (by decide)) (fun _ => ?_)
          refine z_push k178_573 ?_
          refine z_goto k178_574 ?_
          refine z_isub k178_578 ?_
          refine s_ist5 k178_579 rfl ?_
          refine z_goto k178_581 ?_
          refine hk J B _ _ _ _ _ hV hF hc hc2 hB (pst_no (fun d hd ho u => ?_))
          have := eW d hd
          unfold bt2 at u
          omega
        · refine s_ald k178_119 rfl ?_
          refine s_ild k178_120 rfl ?_
          refine z_putIe (q := 27) k178_121 rfl rfl ?_
          refine s_ald k178_124 rfl ?_
          refine s_ild k178_125 rfl ?_
          refine z_putIe (q := 28) k178_127 rfl rfl ?_
          refine z_push k178_130 ?_
          refine s_ist7 k178_131 rfl ?_
          refine lp133b (J0 := upI (upI J 127 27 (sumC (lnS σ) (wS σ) c (nP σ))) 127 28 (sumC (lnS σ) (zS σ) c (nP σ))) hN hP (hV.fb ((FBs.rf.up (by omega)).up (by omega))) (c := c) (fun q hq => (up_ne (by decide)).trans ((up_ne (by decide)).trans (hc q hq))) (fun q hq => (hok q hq).1) rfl (fun J3 l7 lo3 z3 => ?_) (nP σ) 0 _ (by omega) (fun _ _ _ => rfl) (fun q hq => absurd hq (by omega))
          have hF3 : FBs J J3 := fun a q h1 h2 => (lo3 a q (by omega)).trans ((if_neg (by omega)).trans (if_neg (by omega)))
          refine s_ild k178_566 rfl ?_
          refine s_ild k178_568 rfl ?_
          refine s_ifeq k178_570 (inR_lit rfl) (fun q => absurd q (by decide)) (fun _ => ?_)
          refine z_push k178_573 ?_
          refine z_goto k178_574 ?_
          refine z_isub k178_578 ?_
          refine s_ist5 k178_579 rfl ?_
          refine z_goto k178_581 ?_
          refine hk J3 (some c) _ _ _ _ _ (hV.fb hF3) (hF.tr hF3) (fun q hq => (lo3 143 q (by decide)).trans ((up_ne (by decide)).trans ((up_ne (by decide)).trans (hc q hq)))) (fun q q0 q1 => absurd q1 (by omega)) ⟨(lo3 127 27 (by decide)).trans ((up_nk (by decide)).trans up_at), (lo3 127 28 (by decide)).trans up_at, fun e he q hq => ?_⟩ (Or.inr ⟨c, rfl, fun q _ => rfl, hok, ?_, fun d hd ho => ⟨fun u => ?_, fun _ _ u => ?_⟩⟩)
          · injection he with he
            subst he
            exact z3 q hq
          · show bwO (WSc σ) B < WSc σ c ∨ _
            have := eW c (fun _ _ => rfl)
            omega
          · have := eW d hd
            have e2 := eW c (fun _ _ => rfl)
            unfold bt2 at u
            rw [bw_s, bs_s] at u
            omega
          · exact lex_irr (lex_eq u (fun q hq => (hd q hq).symm))
  | succ r ihr =>
    intro p J c B l6 l7 l8 l9 l10 hpr hV hF hok hc hc2 hB hk
    have p1 : (p : Int) < σ 127 21 := by omega
    have hcl : ∀ q, q < p → c q ≤ lnS σ q := fun q hq => (hok q hq).1
    have hln := ln_b hN hP p
    have hpw := (hP.2 p (by omega) p1).2.2.2.1
    have hpz := szP_b hP p1
    have ew : wS σ p = pf σ p 3 := rfl
    have ez : zS σ p = (szP σ p : Int) := rfl
    have q3 := sum_b hP (c := c) p (by omega)
    have t1 := tot_b hP (nP σ) (by omega)
    have t2 := tot_b hP (p + 1) (by omega)
    have t3 := ts_mono hP (p := p + 1) (by omega)
    have tw : totC (wS σ) (p + 1) = totC (wS σ) (p) + wS σ p := rfl
    have tz : totC (zS σ) (p + 1) = totC (zS σ) (p) + zS σ p := rfl
    have M : ∀ (g k : Nat) (J : Nat → Int → Int) (B : Option (Nat → Nat)) (l6 l8 l9 l10 : mV), lnS σ p + 2 ≤ k + g → k ≤ lnS σ p + 1 → SV σ br J → FBs I J → (∀ q, q < p → J 143 q = (c q : Int)) → (∀ q, p < q → q < nP σ → J 143 q = -1) → BI σ J B → (∀ (J2 : Nat → Int → Int) (B2 : Option (Nat → Nat)) (l6 l7 l8 l9 l10 : mV), SV σ br J2 → FBs I J2 → (∀ q, q < p → J2 143 q = (c q : Int)) → (∀ q, p ≤ q → q < nP σ → J2 143 q = -1) → BI σ J2 B2 → Pst (nP σ) (okS σ br (nP σ)) (WSc σ) (SSc σ) (Tpc p c k) B B2 → wp (mcall MT CD (d + 2)) (CD 178) L0 Q 68 [vr 127, vi (totC (wS σ) (nP σ) - totC (wS σ) (p)), vi (totC (zS σ) (nP σ) - totC (zS σ) (p)), vi (sumC (lnS σ) (wS σ) c p), vi (sumC (lnS σ) (zS σ) c p), vi ((p : Int) - 1), l6, l7, l8, l9, l10] [] (S0, J2, RR P dr)) → wp (mcall MT CD (d + 2)) (CD 178) L0 Q 254 [vr 127, vi (totC (wS σ) (nP σ) - totC (wS σ) (p + 1)), vi (totC (zS σ) (nP σ) - totC (zS σ) (p + 1)), vi (sumC (lnS σ) (wS σ) c p), vi (sumC (lnS σ) (zS σ) c p), vi ((p : Int)), l6, vi ((k : Int) - 1), l8, l9, l10] [] (S0, J, RR P dr) := by
      intro g
      induction g with
      | zero =>
        intro k J B l6 l8 l9 l10 hg hk1
        exact absurd hg (by omega)
      | succ g ih =>
        intro k J B l6 l8 l9 l10 hg hk1 hV hF hc hc2 hB hk
        have hs := hV.1
        have hbb := bw_b hP B
        have q1 : -1 ≤ bwO (WSc σ) B ∧ bwO (WSc σ) B ≤ 500 := ⟨hbb.1, hbb.2.1⟩
        have q2 : 0 ≤ bsO (SSc σ) B ∧ bsO (SSc σ) B ≤ 60 := ⟨hbb.2.2.1, hbb.2.2.2.1⟩
        refine t254 hP hs p1 hB.1 hB.2.1 q1 q2 (by omega) (by omega) (by omega) (by omega) ?_
        refine t326 hP hs p1 hB.1 hB.2.1 q1 q2 (by omega) (by omega) (by omega) (by omega) rfl ?_
        rw [show (k : Int) - 1 + 1 = (k : Int) by omega]
        -- from 431 on
        have K431 : ∀ k2 : Nat, k ≤ k2 → k2 ≤ lnS σ p → (∀ e, Tpc p c k e → okS σ br (nP σ) e → e p < k2 → ¬ bt2 (WSc σ) (SSc σ) e B) → (k2 < lnS σ p → goA σ br c p k2) → wp (mcall MT CD (d + 2)) (CD 178) L0 Q 431 [vr 127, vi (totC (wS σ) (nP σ) - totC (wS σ) (p + 1)), vi (totC (zS σ) (nP σ) - totC (zS σ) (p + 1)), vi (sumC (lnS σ) (wS σ) c p), vi (sumC (lnS σ) (zS σ) c p), vi ((p : Int)), l6, vi ((k : Int) - 1), vi (k2 : Int), vi (b2i (sumC (lnS σ) (wS σ) c p + wS σ p + (totC (wS σ) (nP σ) - totC (wS σ) (p + 1)) < bwO (WSc σ) B ∨ (sumC (lnS σ) (wS σ) c p + wS σ p + (totC (wS σ) (nP σ) - totC (wS σ) (p + 1)) = bwO (WSc σ) B ∧ bsO (SSc σ) B ≤ sumC (lnS σ) (zS σ) c p + zS σ p + (totC (zS σ) (nP σ) - totC (zS σ) (p + 1)) ∧ 0 ≤ bwO (WSc σ) B))), vi (b2i (sumC (lnS σ) (wS σ) c p + (totC (wS σ) (nP σ) - totC (wS σ) (p + 1)) < bwO (WSc σ) B ∨ (sumC (lnS σ) (wS σ) c p + (totC (wS σ) (nP σ) - totC (wS σ) (p + 1)) = bwO (WSc σ) B ∧ bsO (SSc σ) B ≤ sumC (lnS σ) (zS σ) c p + (totC (zS σ) (nP σ) - totC (zS σ) (p + 1)) ∧ 0 ≤ bwO (WSc σ) B)))] [] (S0, J, RR P dr) := by
          intro k2 hkk2 hk2 hno hgo
          have hT1 : ∀ e, Tpc p c k e → okS σ br (nP σ) e → e p ≤ lnS σ p := fun e _ ho => (ho p (by omega)).1
          by_cases hlt : k2 < lnS σ p
          · skip
            refine s_ild k178_431 rfl ?_
            refine s_ald k178_433 rfl ?_
            refine z_getRe (b := 139) k178_434 rfl rr_127_23 ?_
            refine s_ild k178_437 rfl ?_
            refine z_ialde (z := (lnS σ p : Int)) k178_439 rfl (by omega) (show (p : Int) < ((5 : Nat) : Int) by omega) (hV.ln p1) ?_
            refine s_icgt k178_440 ⟨by omega, by omega⟩ ⟨by omega, by omega⟩ (fun q => absurd q (by omega)) (fun h440 => ?_)
            refine s_ild k178_443 rfl ?_
            refine s_ald k178_445 rfl ?_
            refine z_getRe (b := 139) k178_446 rfl rr_127_23 ?_
            refine s_ild k178_449 rfl ?_
            refine z_ialde (z := (lnS σ p : Int)) k178_451 rfl (by omega) (show (p : Int) < ((5 : Nat) : Int) by omega) (hV.ln p1) ?_
            refine s_icne k178_452 ⟨by omega, by omega⟩ ⟨by omega, by omega⟩ (fun h452 => ?_) (fun q => absurd q (by omega))
            refine z_push k178_464 ?_
            refine s_ist6 k178_465 rfl ?_
            refine s_ald k178_467 rfl ?_
            refine z_getRe (b := 143) k178_468 rfl rr_127_29 ?_
            refine s_ild k178_471 rfl ?_
            refine s_ild k178_473 rfl ?_
            refine s_ifeq k178_475 (inR_lit rfl) (fun _ => ?_) (fun q => absurd q (by decide))
            refine s_ild k178_482 rfl ?_
            refine z_iast k178_484 rfl (by omega) (show (p : Int) < ((6 : Nat) : Int) by omega) ?_
            refine s_ild k178_485 rfl ?_
            refine s_ifeq k178_487 (inR_lit rfl) (fun _ => ?_) (fun q => absurd q (by decide))
            refine s_ild k178_511 rfl ?_
            refine s_ild k178_512 rfl ?_
            refine s_ald k178_514 rfl ?_
            refine z_getRe (b := 139) k178_515 rfl rr_127_23 ?_
            refine s_ild k178_518 rfl ?_
            refine z_ialde (z := (lnS σ p : Int)) k178_520 rfl (by omega) (show (p : Int) < ((5 : Nat) : Int) by omega) ((up_ne (by decide)).trans (hV.ln p1)) ?_
            refine s_icge k178_521 ⟨by omega, by omega⟩ ⟨by omega, by omega⟩ (fun q => absurd q (by omega)) (fun h521 => ?_)
            refine s_ald k178_524 rfl ?_
            refine s_ild k178_525 rfl ?_
            refine z_inv1A k178_527 rfl (Nat.le_of_ble_eq_true rfl) (c165 ((sig_no rfl).trans hs) (by omega) (by omega)) ?_
            refine z_goto k178_530 ?_
            refine z_iadd k178_534 ?_
            refine s_ist3 k178_535 rfl ?_
            refine s_ild k178_536 rfl ?_
            refine s_ild k178_538 rfl ?_
            refine s_ald k178_540 rfl ?_
            refine z_getRe (b := 139) k178_541 rfl rr_127_23 ?_
            refine s_ild k178_544 rfl ?_
            refine z_ialde (z := (lnS σ p : Int)) k178_546 rfl (by omega) (show (p : Int) < ((5 : Nat) : Int) by omega) ((up_ne (by decide)).trans (hV.ln p1)) ?_
            refine s_icge k178_547 ⟨by omega, by omega⟩ ⟨by omega, by omega⟩ (fun q => absurd q (by omega)) (fun h547 => ?_)
            refine s_ald k178_550 rfl ?_
            refine s_ild k178_551 rfl ?_
            refine z_inv1A k178_553 rfl (Nat.le_of_ble_eq_true rfl) (c179 ((sig_no rfl).trans hs) (by omega) (hP.2 p (by omega) (by omega))) ?_
            refine z_goto k178_556 ?_
            refine z_iadd k178_560 ?_
            refine s_ist4 k178_561 rfl ?_
            refine s_iinc5 k178_563 rfl ?_
            refine s_ild k178_566 rfl ?_
            refine s_ild k178_568 rfl ?_
            refine s_ifeq k178_570 (inR_lit rfl) (fun _ => ?_) (fun q => absurd q (by decide))
            refine z_push k178_577 ?_
            refine z_isub k178_578 ?_
            refine s_ist5 k178_579 rfl ?_
            refine z_goto k178_581 ?_
            have hF2 : FBs J (upI J 143 (p : Int) (k2 : Int)) := FBs.rf.up (by omega)
            have e1 : sumC (lnS σ) (wS σ) (setC c p k2) (p + 1) = sumC (lnS σ) (wS σ) c p + wS σ p := by rw [sum_set, if_pos hlt]
            have e2 : sumC (lnS σ) (zS σ) (setC c p k2) (p + 1) = sumC (lnS σ) (zS σ) c p + zS σ p := by rw [sum_set, if_pos hlt]
            rw [← e1, ← e2, show (p : Int) + 1 = ((p + 1 : Nat) : Int) from rfl]
            refine ihr (p + 1) _ (setC c p k2) B _ _ _ _ _ (by omega) (hV.fb hF2) (hF.tr hF2) (ok_set hok hk2 hgo) (fun q hq => ?_) (fun q q0 q1 => (up_nk (by omega)).trans (hc2 q (by omega) q1)) ⟨(up_ne (by decide)).trans hB.1, (up_ne (by decide)).trans hB.2.1, fun e he q hq => (up_ne (by decide)).trans (hB.2.2 e he q hq)⟩ (fun J2 B2 m6 m7 m8 m9 m10 hV2 hF3 hc3 hc4 hB2 hps => ?_)
            · by_cases e : q = p
              · subst e; rw [set_at]; exact up_at
              · rw [set_ne e]; exact (up_nk (by omega)).trans (hc q (by omega))
            have hs2 := hV2.1
            have hc5 : J2 143 p = (k2 : Int) := by rw [hc3 p (by omega), set_at]
            rw [e1, e2]
            rw [show ((p + 1 : Nat) : Int) - 1 = (p : Int) by omega]
            refine s_ild k178_68 rfl ?_
            refine s_iflt k178_70 ⟨by omega, by omega⟩ (fun q => absurd q (by omega)) (fun h70 => ?_)
            refine s_ild k178_73 rfl ?_
            refine s_ald k178_75 rfl ?_
            refine z_getIe (z := σ 127 21) k178_76 rfl (st_s hs2 rfl) ?_
            refine s_icne k178_79 ⟨by omega, by omega⟩ ⟨by omega, by omega⟩ (fun h79 => ?_) (fun q => absurd q (by omega))
            refine z_push k178_86 ?_
            refine s_ist6 k178_87 rfl ?_
            refine s_ild k178_89 rfl ?_
            refine s_ifeq k178_91 (inR_lit rfl) (fun _ => ?_) (fun q => absurd q (by decide))
            refine s_ald k178_186 rfl ?_
            refine z_getRe (b := 143) k178_187 rfl rr_127_29 ?_
            refine s_ild k178_190 rfl ?_
            refine z_ialde (z := (k2 : Int)) k178_192 rfl (by omega) (show (p : Int) < ((6 : Nat) : Int) by omega) hc5 ?_
            refine s_ist7 k178_193 rfl ?_
            refine s_ild k178_195 rfl ?_
            refine z_push k178_197 ?_
            refine s_icne k178_198 ⟨by omega, by omega⟩ (inR_lit rfl) (fun h198 => ?_) (fun q => absurd q (by omega))
            refine s_ild k178_222 rfl ?_
            refine s_ald k178_224 rfl ?_
            refine z_getRe (b := 139) k178_225 rfl rr_127_23 ?_
            refine s_ild k178_228 rfl ?_
            refine z_ialde (z := (lnS σ p : Int)) k178_230 rfl (by omega) (show (p : Int) < ((5 : Nat) : Int) by omega) (hV2.ln p1) ?_
            refine s_icge k178_231 ⟨by omega, by omega⟩ ⟨by omega, by omega⟩ (fun q => absurd q (by omega)) (fun h231 => ?_)
            refine s_ild k178_234 rfl ?_
            refine s_ald k178_235 rfl ?_
            refine s_ild k178_236 rfl ?_
            refine z_inv1A k178_238 rfl (Nat.le_of_ble_eq_true rfl) (c165 hs2 (by omega) (by omega)) ?_
            refine z_isub k178_241 ?_
            refine s_ist3 k178_242 rfl ?_
            refine s_ild k178_243 rfl ?_
            refine s_ald k178_245 rfl ?_
            refine s_ild k178_246 rfl ?_
            refine z_inv1A k178_248 rfl (Nat.le_of_ble_eq_true rfl) (c179 hs2 (by omega) (hP.2 p (by omega) (by omega))) ?_
            refine z_isub k178_251 ?_
            refine s_ist4 k178_252 rfl ?_
            rw [show sumC (lnS σ) (wS σ) c p + wS σ p - wS σ p = sumC (lnS σ) (wS σ) c p by omega, show sumC (lnS σ) (zS σ) c p + zS σ p - zS σ p = sumC (lnS σ) (zS σ) c p by omega]
            have hfin := ih (k2 + 1) J2 B2 (vi 0) m8 m9 m10 (by omega) (by omega) hV2 hF3 (fun q hq => by rw [hc3 q (by omega), set_ne (by omega)]) (fun q q0 q1 => hc4 q (by omega) q1) hB2 (fun J3 B3 n6 n7 n8 n9 n10 g1 g2 g3 g4 g5 g6 => hk J3 B3 n6 n7 n8 n9 n10 g1 g2 g3 g4 g5 ?_)
            · rw [show ((k2 + 1 : Nat) : Int) - 1 = (k2 : Int) by omega] at hfin
              exact hfin
            refine pst_seq (T1 := fun e => Tpc p c k e ∧ e p < k2) (T2 := fun e => Tpc p c k2 e) (fun e he ho => ?_) (fun e he => he.1) (fun e he => ⟨he.1, by have := he.2; omega⟩) (fun e f he hf u => ?_) (pst_no (B := B) (fun e he ho => hno e he.1 ho he.2)) ?_
            · by_cases u : e p < k2
              · exact Or.inl ⟨he, u⟩
              · exact Or.inr ⟨he.1, by omega⟩
            · obtain ⟨s, s1, s2, s3⟩ := u
              have h1 := he.1.1
              have h2 := hf.1
              have h3 := hf.2
              have h4 := he.2
              rcases Nat.lt_trichotomy s p with v | v | v
              · rw [h1 s v, h2 s v] at s2; omega
              · subst v; omega
              · have := s3 p v; omega
            refine pst_seq (T1 := fun e => ∀ q, q < p + 1 → e q = setC c p k2 q) (T2 := fun e => Tpc p c (k2 + 1) e) (fun e he ho => ?_) (fun e he => ?_) (fun e he => ⟨he.1, by have := he.2; omega⟩) (fun e f he hf u => ?_) hps g6
            · by_cases u : e p = k2
              · refine Or.inl (fun q hq => ?_)
                by_cases v : q = p
                · subst v; rw [set_at]; exact u
                · rw [set_ne v]; exact he.1 q (by omega)
              · exact Or.inr ⟨he.1, by have := he.2; omega⟩
            · refine ⟨fun q hq => by rw [he q (by omega), set_ne (by omega)], ?_⟩
              rw [he p (by omega), set_at]
              exact Nat.le_refl _
            · obtain ⟨s, s1, s2, s3⟩ := u
              have h2 := hf.1
              have h3 := hf.2
              have h5 : e p = k2 := by rw [he p (by omega), set_at]
              rcases Nat.lt_trichotomy s p with v | v | v
              · have h1 : e s = c s := by rw [he s (by omega), set_ne (by omega)]
                rw [h1, h2 s v] at s2; omega
              · subst v; omega
              · have := s3 p v; omega
          · have hk2e : k2 = lnS σ p := by omega
            refine s_ild k178_431 rfl ?_
            refine s_ald k178_433 rfl ?_
            refine z_getRe (b := 139) k178_434 rfl rr_127_23 ?_
            refine s_ild k178_437 rfl ?_
            refine z_ialde (z := (lnS σ p : Int)) k178_439 rfl (by omega) (show (p : Int) < ((5 : Nat) : Int) by omega) (hV.ln p1) ?_
            refine s_icgt k178_440 ⟨by omega, by omega⟩ ⟨by omega, by omega⟩ (fun q => absurd q (by omega)) (fun h440 => ?_)
            refine s_ild k178_443 rfl ?_
            refine s_ald k178_445 rfl ?_
            refine z_getRe (b := 139) k178_446 rfl rr_127_23 ?_
            refine s_ild k178_449 rfl ?_
            refine z_ialde (z := (lnS σ p : Int)) k178_451 rfl (by omega) (show (p : Int) < ((5 : Nat) : Int) by omega) (hV.ln p1) ?_
            refine s_icne k178_452 ⟨by omega, by omega⟩ ⟨by omega, by omega⟩ (fun q => absurd q (by omega)) (fun h452 => ?_)
            refine s_ild k178_455 rfl ?_
            refine z_ifeqb k178_457 (fun h457 => ?_) (fun h457 => ?_)
            · refine z_push k178_464 ?_
              refine s_ist6 k178_465 rfl ?_
              refine s_ald k178_467 rfl ?_
              refine z_getRe (b := 143) k178_468 rfl rr_127_29 ?_
              refine s_ild k178_471 rfl ?_
              refine s_ild k178_473 rfl ?_
              refine s_ifeq k178_475 (inR_lit rfl) (fun _ => ?_) (fun q => absurd q (by decide))
              refine s_ild k178_482 rfl ?_
              refine z_iast k178_484 rfl (by omega) (show (p : Int) < ((6 : Nat) : Int) by omega) ?_
              refine s_ild k178_485 rfl ?_
              refine s_ifeq k178_487 (inR_lit rfl) (fun _ => ?_) (fun q => absurd q (by decide))
              refine s_ild k178_511 rfl ?_
              refine s_ild k178_512 rfl ?_
              refine s_ald k178_514 rfl ?_
              refine z_getRe (b := 139) k178_515 rfl rr_127_23 ?_
              refine s_ild k178_518 rfl ?_
              refine z_ialde (z := (lnS σ p : Int)) k178_520 rfl (by omega) (show (p : Int) < ((5 : Nat) : Int) by omega) ((up_ne (by decide)).trans (hV.ln p1)) ?_
              refine s_icge k178_521 ⟨by omega, by omega⟩ ⟨by omega, by omega⟩ (fun h521 => ?_) (fun q => absurd q (by omega))
              refine z_push k178_533 ?_
              refine z_iadd k178_534 ?_
              refine s_ist3 k178_535 rfl ?_
              refine s_ild k178_536 rfl ?_
              refine s_ild k178_538 rfl ?_
              refine s_ald k178_540 rfl ?_
              refine z_getRe (b := 139) k178_541 rfl rr_127_23 ?_
              refine s_ild k178_544 rfl ?_
              refine z_ialde (z := (lnS σ p : Int)) k178_546 rfl (by omega) (show (p : Int) < ((5 : Nat) : Int) by omega) ((up_ne (by decide)).trans (hV.ln p1)) ?_
              refine s_icge k178_547 ⟨by omega, by omega⟩ ⟨by omega, by omega⟩ (fun h547 => ?_) (fun q => absurd q (by omega))
              refine z_push k178_559 ?_
              refine z_iadd k178_560 ?_
              refine s_ist4 k178_561 rfl ?_
              refine s_iinc5 k178_563 rfl ?_
              refine s_ild k178_566 rfl ?_
              refine s_ild k178_568 rfl ?_
              refine s_ifeq k178_570 (inR_lit rfl) (fun _ => ?_) (fun q => absurd q (by decide))
              refine z_push k178_577 ?_
              refine z_isub k178_578 ?_
              refine s_ist5 k178_579 rfl ?_
              refine z_goto k178_581 ?_
              have hF2 : FBs J (upI J 143 (p : Int) (k2 : Int)) := FBs.rf.up (by omega)
              have e1 : sumC (lnS σ) (wS σ) (setC c p k2) (p + 1) = sumC (lnS σ) (wS σ) c p + 0 := by rw [sum_set, if_neg (by omega)]
              have e2 : sumC (lnS σ) (zS σ) (setC c p k2) (p + 1) = sumC (lnS σ) (zS σ) c p + 0 := by rw [sum_set, if_neg (by omega)]
              rw [← e1, ← e2, show (p : Int) + 1 = ((p + 1 : Nat) : Int) from rfl]
              refine ihr (p + 1) _ (setC c p k2) B _ _ _ _ _ (by omega) (hV.fb hF2) (hF.tr hF2) (ok_set hok hk2 hgo) (fun q hq => ?_) (fun q q0 q1 => (up_nk (by omega)).trans (hc2 q (by omega) q1)) ⟨(up_ne (by decide)).trans hB.1, (up_ne (by decide)).trans hB.2.1, fun e he q hq => (up_ne (by decide)).trans (hB.2.2 e he q hq)⟩ (fun J2 B2 m6 m7 m8 m9 m10 hV2 hF3 hc3 hc4 hB2 hps => ?_)
              · by_cases e : q = p
                · subst e; rw [set_at]; exact up_at
                · rw [set_ne e]; exact (up_nk (by omega)).trans (hc q (by omega))
              have hs2 := hV2.1
              have hc5 : J2 143 p = (k2 : Int) := by rw [hc3 p (by omega), set_at]
              rw [e1, e2]
              rw [show ((p + 1 : Nat) : Int) - 1 = (p : Int) by omega]
              refine s_ild k178_68 rfl ?_
              refine s_iflt k178_70 ⟨by omega, by omega⟩ (fun q => absurd q (by omega)) (fun h70 => ?_)
              refine s_ild k178_73 rfl ?_
              refine s_ald k178_75 rfl ?_
              refine z_getIe (z := σ 127 21) k178_76 rfl (st_s hs2 rfl) ?_
              refine s_icne k178_79 ⟨by omega, by omega⟩ ⟨by omega, by omega⟩ (fun h79 => ?_) (fun q => absurd q (by omega))
              refine z_push k178_86 ?_
              refine s_ist6 k178_87 rfl ?_
              refine s_ild k178_89 rfl ?_
              refine s_ifeq k178_91 (inR_lit rfl) (fun _ => ?_) (fun q => absurd q (by decide))
              refine s_ald k178_186 rfl ?_
              refine z_getRe (b := 143) k178_187 rfl rr_127_29 ?_
              refine s_ild k178_190 rfl ?_
              refine z_ialde (z := (k2 : Int)) k178_192 rfl (by omega) (show (p : Int) < ((6 : Nat) : Int) by omega) hc5 ?_
              refine s_ist7 k178_193 rfl ?_
              refine s_ild k178_195 rfl ?_
              refine z_push k178_197 ?_
              refine s_icne k178_198 ⟨by omega, by omega⟩ (inR_lit rfl) (fun h198 => ?_) (fun q => absurd q (by omega))
              refine s_ild k178_222 rfl ?_
              refine s_ald k178_224 rfl ?_
              refine z_getRe (b := 139) k178_225 rfl rr_127_23 ?_
              refine s_ild k178_228 rfl ?_
              refine z_ialde (z := (lnS σ p : Int)) k178_230 rfl (by omega) (show (p : Int) < ((5 : Nat) : Int) by omega) (hV2.ln p1) ?_
              refine s_icge k178_231 ⟨by omega, by omega⟩ ⟨by omega, by omega⟩ (fun h231 => ?_) (fun q => absurd q (by omega))
              rw [show sumC (lnS σ) (wS σ) c p + 0 = sumC (lnS σ) (wS σ) c p by omega, show sumC (lnS σ) (zS σ) c p + 0 = sumC (lnS σ) (zS σ) c p by omega]
              have hfin := ih (k2 + 1) J2 B2 (vi 0) m8 m9 m10 (by omega) (by omega) hV2 hF3 (fun q hq => by rw [hc3 q (by omega), set_ne (by omega)]) (fun q q0 q1 => hc4 q (by omega) q1) hB2 (fun J3 B3 n6 n7 n8 n9 n10 g1 g2 g3 g4 g5 g6 => hk J3 B3 n6 n7 n8 n9 n10 g1 g2 g3 g4 g5 ?_)
              · rw [show ((k2 + 1 : Nat) : Int) - 1 = (k2 : Int) by omega] at hfin
                exact hfin
              refine pst_seq (T1 := fun e => Tpc p c k e ∧ e p < k2) (T2 := fun e => Tpc p c k2 e) (fun e he ho => ?_) (fun e he => he.1) (fun e he => ⟨he.1, by have := he.2; omega⟩) (fun e f he hf u => ?_) (pst_no (B := B) (fun e he ho => hno e he.1 ho he.2)) ?_
              · by_cases u : e p < k2
                · exact Or.inl ⟨he, u⟩
                · exact Or.inr ⟨he.1, by omega⟩
              · obtain ⟨s, s1, s2, s3⟩ := u
                have h1 := he.1.1
                have h2 := hf.1
                have h3 := hf.2
                have h4 := he.2
                rcases Nat.lt_trichotomy s p with v | v | v
                · rw [h1 s v, h2 s v] at s2; omega
                · subst v; omega
                · have := s3 p v; omega
              refine pst_seq (T1 := fun e => ∀ q, q < p + 1 → e q = setC c p k2 q) (T2 := fun e => Tpc p c (k2 + 1) e) (fun e he ho => ?_) (fun e he => ?_) (fun e he => ⟨he.1, by have := he.2; omega⟩) (fun e f he hf u => ?_) hps g6
              · by_cases u : e p = k2
                · refine Or.inl (fun q hq => ?_)
                  by_cases v : q = p
                  · subst v; rw [set_at]; exact u
                  · rw [set_ne v]; exact he.1 q (by omega)
                · exact Or.inr ⟨he.1, by have := he.2; omega⟩
              · refine ⟨fun q hq => by rw [he q (by omega), set_ne (by omega)], ?_⟩
                rw [he p (by omega), set_at]
                exact Nat.le_refl _
              · obtain ⟨s, s1, s2, s3⟩ := u
                have h2 := hf.1
                have h3 := hf.2
                have h5 : e p = k2 := by rw [he p (by omega), set_at]
                rcases Nat.lt_trichotomy s p with v | v | v
                · have h1 : e s = c s := by rw [he s (by omega), set_ne (by omega)]
                  rw [h1, h2 s v] at s2; omega
                · subst v; omega
                · have := s3 p v; omega
            · refine z_push k178_460 ?_
              refine z_goto k178_461 ?_
              refine s_ist6 k178_465 rfl ?_
              refine s_ald k178_467 rfl ?_
              refine z_getRe (b := 143) k178_468 rfl rr_127_29 ?_
              refine s_ild k178_471 rfl ?_
              refine s_ild k178_473 rfl ?_
              refine s_ifeq k178_475 (inR_lit rfl) (fun q => absurd q (by decide)) (fun _ => ?_)
              refine z_push k178_478 ?_
              refine z_goto k178_479 ?_
              refine z_iast k178_484 rfl (by omega) (show (p : Int) < ((6 : Nat) : Int) by omega) ?_
              refine s_ild k178_485 rfl ?_
              refine s_ifeq k178_487 (inR_lit rfl) (fun q => absurd q (by decide)) (fun _ => ?_)
              refine s_ild k178_490 rfl ?_
              refine s_ald k178_491 rfl ?_
              refine s_ild k178_492 rfl ?_
              refine z_inv1A k178_494 rfl (Nat.le_of_ble_eq_true rfl) (c165 ((sig_no rfl).trans hs) (by omega) (by omega)) ?_
              refine z_iadd k178_497 ?_
              refine s_ist1 k178_498 rfl ?_
              refine s_ild k178_499 rfl ?_
              refine s_ald k178_500 rfl ?_
              refine s_ild k178_501 rfl ?_
              refine z_inv1A k178_503 rfl (Nat.le_of_ble_eq_true rfl) (c179 ((sig_no rfl).trans hs) (by omega) (hP.2 p (by omega) (by omega))) ?_
              refine z_iadd k178_506 ?_
              refine s_ist2 k178_507 rfl ?_
              refine z_goto k178_508 ?_
              refine s_ild k178_566 rfl ?_
              refine s_ild k178_568 rfl ?_
              refine s_ifeq k178_570 (inR_lit rfl) (fun q => absurd q (by decide)) (fun _ => ?_)
              refine z_push k178_573 ?_
              refine z_goto k178_574 ?_
              refine z_isub k178_578 ?_
              refine s_ist5 k178_579 rfl ?_
              refine z_goto k178_581 ?_
              have hF2 : FBs J (upI J 143 (p : Int) (-1)) := FBs.rf.up (by omega)
              rw [show totC (wS σ) (nP σ) - totC (wS σ) (p + 1) + wS σ p = totC (wS σ) (nP σ) - totC (wS σ) (p) by omega, show totC (zS σ) (nP σ) - totC (zS σ) (p + 1) + zS σ p = totC (zS σ) (nP σ) - totC (zS σ) (p) by omega]
              refine hk _ B _ _ _ _ _ (hV.fb hF2) (hF.tr hF2) (fun q hq => (up_nk (by omega)).trans (hc q hq)) (fun q q0 q1 => ?_) ⟨(up_ne (by decide)).trans hB.1, (up_ne (by decide)).trans hB.2.1, fun e he q hq => (up_ne (by decide)).trans (hB.2.2 e he q hq)⟩ (pst_no (fun e he ho => ?_))
              · by_cases e : q = p
                · subst e; exact up_at
                · exact (up_nk (by omega)).trans (hc2 q (by omega) q1)
              by_cases u : e p < lnS σ p
              · exact hno e he ho (by omega)
              · exact vain_out (br := br) hP (by omega) he.1 u (by omega)
        by_cases hkl : k ≤ lnS σ p
        · skip
          refine s_ild k178_371 rfl ?_
          refine z_ifeqb k178_373 (fun h373 => ?_) (fun h373 => ?_)
          · refine s_ild k178_398 rfl ?_
            refine s_ist8 k178_400 rfl ?_
            refine lp402 hN hP hV p1 hc hcl (k0 := k) rfl (fun k2 h1 h2 h3 h4 => K431 k2 h1 h2 (fun e he ho hl u => ?_) h4) (lnS σ p - k) k (by omega) (Nat.le_refl _) (fun q q0 q1 => absurd q1 (by omega))
            have hop := ho p (by omega)
            have hg := hop.2 (by omega)
            exact h3 (e p) he.2 hl ⟨hg.1, fun q hq hq2 => by rw [← he.1 q hq] at hq2 ⊢; exact hg.2 q hq hq2⟩
          · refine s_ild k178_376 rfl ?_
            refine s_ald k178_378 rfl ?_
            refine z_getRe (b := 139) k178_379 rfl rr_127_23 ?_
            refine s_ild k178_382 rfl ?_
            refine z_ialde (z := (lnS σ p : Int)) k178_384 rfl (by omega) (show (p : Int) < ((5 : Nat) : Int) by omega) (hV.ln p1) ?_
            refine s_icge k178_385 ⟨by omega, by omega⟩ ⟨by omega, by omega⟩ (fun h385 => ?_) (fun h385 => ?_)
            · refine s_ild k178_398 rfl ?_
              refine s_ist8 k178_400 rfl ?_
              refine lp402 hN hP hV p1 hc hcl (k0 := k) rfl (fun k2 h1 h2 h3 h4 => K431 k2 h1 h2 (fun e he ho hl u => ?_) h4) (lnS σ p - k) k (by omega) (Nat.le_refl _) (fun q q0 q1 => absurd q1 (by omega))
              have hop := ho p (by omega)
              have hg := hop.2 (by omega)
              exact h3 (e p) he.2 hl ⟨hg.1, fun q hq hq2 => by rw [← he.1 q hq] at hq2 ⊢; exact hg.2 q hq hq2⟩
            · refine s_ald k178_388 rfl ?_
              refine z_getRe (b := 139) k178_389 rfl rr_127_23 ?_
              refine s_ild k178_392 rfl ?_
              refine z_ialde (z := (lnS σ p : Int)) k178_394 rfl (by omega) (show (p : Int) < ((5 : Nat) : Int) by omega) (hV.ln p1) ?_
              refine z_goto k178_395 ?_
              refine s_ist8 k178_400 rfl ?_
              refine lp402 hN hP hV p1 hc hcl (k0 := lnS σ p) rfl (fun k2 h1 h2 h3 h4 => K431 k2 (by omega) h2 (fun e he ho hl => ?_) h4) 0 (lnS σ p) (by omega) (Nat.le_refl _) (fun q q0 q1 => absurd q1 (by omega))
              exact vain_in (br := br) hP (by omega) he.1 (by omega) (by omega)
        · skip
          refine s_ild k178_371 rfl ?_
          refine z_ifeqb k178_373 (fun h373 => ?_) (fun h373 => ?_)
          · refine s_ild k178_398 rfl ?_
            refine s_ist8 k178_400 rfl ?_
            refine s_ild k178_402 rfl ?_
            refine s_ald k178_404 rfl ?_
            refine z_getRe (b := 139) k178_405 rfl rr_127_23 ?_
            refine s_ild k178_408 rfl ?_
            refine z_ialde (z := (lnS σ p : Int)) k178_410 rfl (by omega) (show (p : Int) < ((5 : Nat) : Int) by omega) (hV.ln p1) ?_
            refine s_icge k178_411 ⟨by omega, by omega⟩ ⟨by omega, by omega⟩ (fun h411 => ?_) (fun q => absurd q (by omega))
            refine s_ild k178_431 rfl ?_
            refine s_ald k178_433 rfl ?_
            refine z_getRe (b := 139) k178_434 rfl rr_127_23 ?_
            refine s_ild k178_437 rfl ?_
            refine z_ialde (z := (lnS σ p : Int)) k178_439 rfl (by omega) (show (p : Int) < ((5 : Nat) : Int) by omega) (hV.ln p1) ?_
            refine s_icgt k178_440 ⟨by omega, by omega⟩ ⟨by omega, by omega⟩ (fun h440 => ?_) (fun q => absurd q (by omega))
            refine z_push k178_460 ?_
            refine z_goto k178_461 ?_
            refine s_ist6 k178_465 rfl ?_
            refine s_ald k178_467 rfl ?_
            refine z_getRe (b := 143) k178_468 rfl rr_127_29 ?_
            refine s_ild k178_471 rfl ?_
            refine s_ild k178_473 rfl ?_
            refine s_ifeq k178_475 (inR_lit rfl) (fun q => absurd q (by decide)) (fun _ => ?_)
            refine z_push k178_478 ?_
            refine z_goto k178_479 ?_
            refine z_iast k178_484 rfl (by omega) (show (p : Int) < ((6 : Nat) : Int) by omega) ?_
            refine s_ild k178_485 rfl ?_
            refine s_ifeq k178_487 (inR_lit rfl) (fun q => absurd q (by decide)) (fun _ => ?_)
            refine s_ild k178_490 rfl ?_
            refine s_ald k178_491 rfl ?_
            refine s_ild k178_492 rfl ?_
            refine z_inv1A k178_494 rfl (Nat.le_of_ble_eq_true rfl) (c165 ((sig_no rfl).trans hs) (by omega) (by omega)) ?_
            refine z_iadd k178_497 ?_
            refine s_ist1 k178_498 rfl ?_
            refine s_ild k178_499 rfl ?_
            refine s_ald k178_500 rfl ?_
            refine s_ild k178_501 rfl ?_
            refine z_inv1A k178_503 rfl (Nat.le_of_ble_eq_true rfl) (c179 ((sig_no rfl).trans hs) (by omega) (hP.2 p (by omega) (by omega))) ?_
            refine z_iadd k178_506 ?_
            refine s_ist2 k178_507 rfl ?_
            refine z_goto k178_508 ?_
            refine s_ild k178_566 rfl ?_
            refine s_ild k178_568 rfl ?_
            refine s_ifeq k178_570 (inR_lit rfl) (fun q => absurd q (by decide)) (fun _ => ?_)
            refine z_push k178_573 ?_
            refine z_goto k178_574 ?_
            refine z_isub k178_578 ?_
            refine s_ist5 k178_579 rfl ?_
            refine z_goto k178_581 ?_
            have hF2 : FBs J (upI J 143 (p : Int) (-1)) := FBs.rf.up (by omega)
            rw [show totC (wS σ) (nP σ) - totC (wS σ) (p + 1) + wS σ p = totC (wS σ) (nP σ) - totC (wS σ) (p) by omega, show totC (zS σ) (nP σ) - totC (zS σ) (p + 1) + zS σ p = totC (zS σ) (nP σ) - totC (zS σ) (p) by omega]
            refine hk _ B _ _ _ _ _ (hV.fb hF2) (hF.tr hF2) (fun q hq => (up_nk (by omega)).trans (hc q hq)) (fun q q0 q1 => ?_) ⟨(up_ne (by decide)).trans hB.1, (up_ne (by decide)).trans hB.2.1, fun e he q hq => (up_ne (by decide)).trans (hB.2.2 e he q hq)⟩ (pst_no (fun e he ho => ?_))
            · by_cases e : q = p
              · subst e; exact up_at
              · exact (up_nk (by omega)).trans (hc2 q (by omega) q1)
            have := (ho p (by omega)).1
            have := he.2
            exact absurd this (by omega)
          · refine s_ild k178_376 rfl ?_
            refine s_ald k178_378 rfl ?_
            refine z_getRe (b := 139) k178_379 rfl rr_127_23 ?_
            refine s_ild k178_382 rfl ?_
            refine z_ialde (z := (lnS σ p : Int)) k178_384 rfl (by omega) (show (p : Int) < ((5 : Nat) : Int) by omega) (hV.ln p1) ?_
            refine s_icge k178_385 ⟨by omega, by omega⟩ ⟨by omega, by omega⟩ (fun h385 => ?_) (fun q => absurd q (by omega))
            refine s_ild k178_398 rfl ?_
            refine s_ist8 k178_400 rfl ?_
            refine s_ild k178_402 rfl ?_
            refine s_ald k178_404 rfl ?_
            refine z_getRe (b := 139) k178_405 rfl rr_127_23 ?_
            refine s_ild k178_408 rfl ?_
            refine z_ialde (z := (lnS σ p : Int)) k178_410 rfl (by omega) (show (p : Int) < ((5 : Nat) : Int) by omega) (hV.ln p1) ?_
            refine s_icge k178_411 ⟨by omega, by omega⟩ ⟨by omega, by omega⟩ (fun h411 => ?_) (fun q => absurd q (by omega))
            refine s_ild k178_431 rfl ?_
            refine s_ald k178_433 rfl ?_
            refine z_getRe (b := 139) k178_434 rfl rr_127_23 ?_
            refine s_ild k178_437 rfl ?_
            refine z_ialde (z := (lnS σ p : Int)) k178_439 rfl (by omega) (show (p : Int) < ((5 : Nat) : Int) by omega) (hV.ln p1) ?_
            refine s_icgt k178_440 ⟨by omega, by omega⟩ ⟨by omega, by omega⟩ (fun h440 => ?_) (fun q => absurd q (by omega))
            refine z_push k178_460 ?_
            refine z_goto k178_461 ?_
            refine s_ist6 k178_465 rfl ?_
            refine s_ald k178_467 rfl ?_
            refine z_getRe (b := 143) k178_468 rfl rr_127_29 ?_
            refine s_ild k178_471 rfl ?_
            refine s_ild k178_473 rfl ?_
            refine s_ifeq k178_475 (inR_lit rfl) (fun q => absurd q (by decide)) (fun _ => ?_)
            refine z_push k178_478 ?_
            refine z_goto k178_479 ?_
            refine z_iast k178_484 rfl (by omega) (show (p : Int) < ((6 : Nat) : Int) by omega) ?_
            refine s_ild k178_485 rfl ?_
            refine s_ifeq k178_487 (inR_lit rfl) (fun q => absurd q (by decide)) (fun _ => ?_)
            refine s_ild k178_490 rfl ?_
            refine s_ald k178_491 rfl ?_
            refine s_ild k178_492 rfl ?_
            refine z_inv1A k178_494 rfl (Nat.le_of_ble_eq_true rfl) (c165 ((sig_no rfl).trans hs) (by omega) (by omega)) ?_
            refine z_iadd k178_497 ?_
            refine s_ist1 k178_498 rfl ?_
            refine s_ild k178_499 rfl ?_
            refine s_ald k178_500 rfl ?_
            refine s_ild k178_501 rfl ?_
            refine z_inv1A k178_503 rfl (Nat.le_of_ble_eq_true rfl) (c179 ((sig_no rfl).trans hs) (by omega) (hP.2 p (by omega) (by omega))) ?_
            refine z_iadd k178_506 ?_
            refine s_ist2 k178_507 rfl ?_
            refine z_goto k178_508 ?_
            refine s_ild k178_566 rfl ?_
            refine s_ild k178_568 rfl ?_
            refine s_ifeq k178_570 (inR_lit rfl) (fun q => absurd q (by decide)) (fun _ => ?_)
            refine z_push k178_573 ?_
            refine z_goto k178_574 ?_
            refine z_isub k178_578 ?_
            refine s_ist5 k178_579 rfl ?_
            refine z_goto k178_581 ?_
            have hF2 : FBs J (upI J 143 (p : Int) (-1)) := FBs.rf.up (by omega)
            rw [show totC (wS σ) (nP σ) - totC (wS σ) (p + 1) + wS σ p = totC (wS σ) (nP σ) - totC (wS σ) (p) by omega, show totC (zS σ) (nP σ) - totC (zS σ) (p + 1) + zS σ p = totC (zS σ) (nP σ) - totC (zS σ) (p) by omega]
            refine hk _ B _ _ _ _ _ (hV.fb hF2) (hF.tr hF2) (fun q hq => (up_nk (by omega)).trans (hc q hq)) (fun q q0 q1 => ?_) ⟨(up_ne (by decide)).trans hB.1, (up_ne (by decide)).trans hB.2.1, fun e he q hq => (up_ne (by decide)).trans (hB.2.2 e he q hq)⟩ (pst_no (fun e he ho => ?_))
            · by_cases e : q = p
              · subst e; exact up_at
              · exact (up_nk (by omega)).trans (hc2 q (by omega) q1)
            have := (ho p (by omega)).1
            have := he.2
            exact absurd this (by omega)
    have hs := hV.1
    have hcp : J 143 p = -1 := hc2 p (Nat.le_refl _) (by omega)
    refine s_ild k178_68 rfl ?_
    refine s_iflt k178_70 ⟨by omega, by omega⟩ (fun q => absurd q (by omega)) (fun h70 => ?_)
    refine s_ild k178_73 rfl ?_
    refine s_ald k178_75 rfl ?_
    refine z_getIe (z := σ 127 21) k178_76 rfl (st_s hs rfl) ?_
    refine s_icne k178_79 ⟨by omega, by omega⟩ ⟨by omega, by omega⟩ (fun h79 => ?_) (fun q => absurd q (by omega))
    refine z_push k178_86 ?_
    refine s_ist6 k178_87 rfl ?_
    refine s_ild k178_89 rfl ?_
    refine s_ifeq k178_91 (inR_lit rfl) (fun _ => ?_) (fun q => absurd q (by decide))
    refine s_ald k178_186 rfl ?_
    refine z_getRe (b := 143) k178_187 rfl rr_127_29 ?_
    refine s_ild k178_190 rfl ?_
    refine z_ialde (z := (-1)) k178_192 rfl (by omega) (show (p : Int) < ((6 : Nat) : Int) by omega) hcp ?_
    refine s_ist7 k178_193 rfl ?_
    refine s_ild k178_195 rfl ?_
    refine z_push k178_197 ?_
    refine s_icne k178_198 (inR_lit rfl) (inR_lit rfl) (fun q => absurd q (by decide)) (fun _ => ?_)
    refine s_ild k178_201 rfl ?_
    refine s_ald k178_202 rfl ?_
    refine s_ild k178_203 rfl ?_
    refine z_inv1A k178_205 rfl (Nat.le_of_ble_eq_true rfl) (c165 hs (by omega) (by omega)) ?_
    refine z_isub k178_208 ?_
    refine s_ist1 k178_209 rfl ?_
    refine s_ild k178_210 rfl ?_
    refine s_ald k178_211 rfl ?_
    refine s_ild k178_212 rfl ?_
    refine z_inv1A k178_214 rfl (Nat.le_of_ble_eq_true rfl) (c179 hs (by omega) (hP.2 p (by omega) (by omega))) ?_
    refine z_isub k178_217 ?_
    refine s_ist2 k178_218 rfl ?_
    refine z_goto k178_219 ?_
    rw [show totC (wS σ) (nP σ) - totC (wS σ) (p) - wS σ p = totC (wS σ) (nP σ) - totC (wS σ) (p + 1) by omega, show totC (zS σ) (nP σ) - totC (zS σ) (p) - zS σ p = totC (zS σ) (nP σ) - totC (zS σ) (p + 1) by omega]
    have hfin := M (lnS σ p + 2) 0 J B (vi 0) l8 l9 l10 (by omega) (by omega) hV hF hc (fun q q0 q1 => hc2 q (by omega) q1) hB (fun J3 B3 n6 n7 n8 n9 n10 g1 g2 g3 g4 g5 g6 => hk J3 B3 n6 n7 n8 n9 n10 g1 g2 g3 g4 g5 ?_)
    · exact hfin
    · refine pst_seq (T1 := fun _ => False) (T2 := Tpc p c 0) (fun e he ho => Or.inr ⟨he, Nat.zero_le _⟩) (fun e he => he.elim) (fun e he => he.1) (fun e f he _ _ => he) (pst_no (fun e he ho => he.elim)) g6
set_option maxRecDepth 20000 in
theorem lp178 {d : Nat} {I σ : Nat → Int → Int} {P : Int → Nat} {dr : Nat} {br : Nat → Nat → Prop} (hN : WFn σ) (hP : WFp σ) (hV : SV σ br I) : ∀ (m i : Nat) (J : Nat → Int → Int), (i : Int) + m = σ 127 21 → FBs I J → (∀ q, q < i → J 143 q = -1) → wp (mcall MT CD (d + 2)) (CD 178) L0 (fun o h => o = none ∧ ∃ (J : Nat → Int → Int) (e : Nat → Nat), h = (S0, J, RR P dr) ∧ SV σ br J ∧ FBs I J ∧ BI σ J (some e) ∧ IsB (nP σ) (okS σ br (nP σ)) (WSc σ) (SSc σ) e) 6 [vr 127, vi (totC (wS σ) i), vi (totC (zS σ) i), vi (i : Int), vj, vj, vj, vj, vj, vj, vj] [] (S0, J, RR P dr) := by
  intro m
  induction m with
  | zero => 
    intro i J hi hF hz
    have bp := hP.1
    have hnp : nP σ = (σ 127 21).toNat := rfl
    have hs : sig J = σ := hF.sig.trans hV.1
    refine s_ild k178_6 rfl ?_
    refine s_ald k178_7 rfl ?_
    refine z_getIe (z := σ 127 21) k178_8 rfl (st_s hs rfl) ?_
    refine s_icge k178_11 ⟨by omega, by omega⟩ ⟨by omega, by omega⟩ (fun h11 => ?_) (fun q => absurd q (by omega))
    refine s_ald k178_50 rfl ?_
    refine z_push k178_51 ?_
    refine z_putIe (q := 27) k178_52 rfl rfl ?_
    refine s_ald k178_55 rfl ?_
    refine z_push k178_56 ?_
    refine z_putIe (q := 28) k178_57 rfl rfl ?_
    refine z_push k178_60 ?_
    refine s_ist3 k178_61 rfl ?_
    refine z_push k178_62 ?_
    refine s_ist4 k178_63 rfl ?_
    refine z_push k178_65 ?_
    refine s_ist5 k178_66 rfl ?_
    have hi2 : i = nP σ := by omega
    subst hi2
    have hF2 : FBs J (upI (upI J 127 27 (-1)) 127 28 0) := (FBs.rf.up (by omega)).up (by omega)
    have hfin := srch (d := d) (I := I) (P := P) (dr := dr) (br := br) (Q := fun o h => o = none ∧ ∃ (J : Nat → Int → Int) (e : Nat → Nat), h = (S0, J, RR P dr) ∧ SV σ br J ∧ FBs I J ∧ BI σ J (some e) ∧ IsB (nP σ) (okS σ br (nP σ)) (WSc σ) (SSc σ) e) hN hP (nP σ) 0 _ (fun _ => 0) none vj vj vj vj vj (by omega) (hV.fb (hF.tr hF2)) (hF.tr hF2) (fun p hp => absurd hp (by omega)) (fun q hq => absurd hq (by omega)) (fun q q0 q1 => (up_ne (by decide)).trans ((up_ne (by decide)).trans (hz q q1))) ⟨(up_nk (by decide)).trans up_at, up_at, fun e he => (by cases he)⟩ (fun J2 B2 l6 l7 l8 l9 l10 g1 g2 g3 g4 g5 g6 => ?_)
    · have e0 : totC (wS σ) 0 = 0 := rfl
      have e1 : totC (zS σ) 0 = 0 := rfl
      rw [e0, e1, Int.sub_zero, Int.sub_zero] at hfin
      exact hfin
    · have h0 : okS σ br (nP σ) (lnS σ) := fun p hp => ⟨Nat.le_refl _, fun u => absurd u (Nat.lt_irrefl _)⟩
      obtain ⟨e, he, hb⟩ := pst_all (c0 := lnS σ) (fun c _ q hq => absurd hq (by omega)) h0 (sum_nn _ (fun q hq => by have := (hP.2 q (by omega) (by omega)).2.2.2.1; show 0 ≤ pf σ q 3; omega)) g6
      subst he
      refine s_ild k178_68 rfl ?_
      refine s_iflt k178_70 ⟨by omega, by omega⟩ (fun _ => ?_) (fun q => absurd q (by omega))
      exact z_vret k178_584 ⟨rfl, J2, e, rfl, g1, g2, g5, hb⟩
  | succ m ih => 
    intro i J hi hF hz
    have bp := hP.1
    have hnp : nP σ = (σ 127 21).toNat := rfl
    have hs : sig J = σ := hF.sig.trans hV.1
    refine s_ild k178_6 rfl ?_
    refine s_ald k178_7 rfl ?_
    refine z_getIe (z := σ 127 21) k178_8 rfl (st_s hs rfl) ?_
    refine s_icge k178_11 ⟨by omega, by omega⟩ ⟨by omega, by omega⟩ (fun q => absurd q (by omega)) (fun h11 => ?_)
    refine s_ald k178_14 rfl ?_
    refine z_getRe (b := 143) k178_15 rfl rr_127_29 ?_
    refine s_ild k178_18 rfl ?_
    refine z_push k178_19 ?_
    refine z_iast k178_20 rfl (by omega) (show (i : Int) < ((6 : Nat) : Int) by omega) ?_
    refine s_ald k178_21 rfl ?_
    refine z_getRe (b := 144) k178_22 rfl rr_127_30 ?_
    refine s_ild k178_25 rfl ?_
    refine z_push k178_26 ?_
    refine z_iast k178_27 rfl (by omega) (show (i : Int) < ((5 : Nat) : Int) by omega) ?_
    refine s_ild k178_28 rfl ?_
    refine s_ald k178_29 rfl ?_
    refine s_ild k178_30 rfl ?_
    refine z_inv1A k178_31 rfl (Nat.le_of_ble_eq_true rfl) (c165 ((sig_no rfl).trans ((sig_no rfl).trans hs)) (by omega) (by omega)) ?_
    refine z_iadd k178_34 ?_
    refine s_ist1 k178_35 rfl ?_
    refine s_ild k178_36 rfl ?_
    refine s_ald k178_37 rfl ?_
    refine s_ild k178_38 rfl ?_
    refine z_inv1A k178_39 rfl (Nat.le_of_ble_eq_true rfl) (c179 ((sig_no rfl).trans ((sig_no rfl).trans hs)) (by omega) (hP.2 i (by omega) (by omega))) ?_
    refine z_iadd k178_42 ?_
    refine s_ist2 k178_43 rfl ?_
    refine s_iinc3 k178_44 rfl ?_
    refine z_goto k178_47 ?_
    rw [← tot_c (f := wS σ) (k := i), ← tot_c (f := zS σ) (k := i)]
    refine ih (i + 1) _ (by omega) ((hF.up (by omega)).up (by omega)) (fun q hq => ?_)
    by_cases e : q = i
    · subst e; exact (up_ne (by decide)).trans up_at
    · exact (up_ne (by decide)).trans ((up_nk (by omega)).trans (hz q (by omega)))
set_option maxRecDepth 20000 in
theorem c178 {d : Nat} {I : Nat → Int → Int} {P : Int → Nat} {dr : Nat} {σ : Nat → Int → Int} {br : Nat → Nat → Prop} (hN : WFn σ) (hP : WFp σ) (hV : SV σ br I) : cal (d + 3) 178 [vr 127] I P dr (fun o h => o = none ∧ ∃ (J : Nat → Int → Int) (e : Nat → Nat), h = (S0, J, RR P dr) ∧ SV σ br J ∧ FBs I J ∧ BI σ J (some e) ∧ IsB (nP σ) (okS σ br (nP σ)) (WSc σ) (SSc σ) e) := by
  refine cal_in (Nat.le_of_ble_eq_true rfl) ?_
  show wp _ _ _ _ 0 [vr 127, vj, vj, vj, vj, vj, vj, vj, vj, vj, vj] [] _
  refine z_push k178_0 ?_
  refine s_ist1 k178_1 rfl ?_
  refine z_push k178_2 ?_
  refine s_ist2 k178_3 rfl ?_
  refine z_push k178_4 ?_
  refine s_ist3 k178_5 rfl ?_
  exact lp178 hN hP hV (σ 127 21).toNat 0 I (by have := hP.1; omega) FBs.rf (fun q hq => absurd hq (by omega))
