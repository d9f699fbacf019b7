/-- what the reference's watch leaves as it was -/
def FW (I J : Nat → Int → Int) : Prop := ∀ a k, ¬ (a = 127 ∧ k = 36) → ¬ (145 ≤ a ∧ a ≤ 148) → J a k = I a k
theorem FW.rf {I : Nat → Int → Int} : FW I I := fun _ _ _ _ => rfl
theorem FW.up {I J : Nat → Int → Int} {a : Nat} {k z : Int} (h : FW I J) (ha : (a = 127 ∧ k = 36) ∨ (145 ≤ a ∧ a ≤ 148)) : FW I (upI J a k z) := fun a' k' h1 h2 => by
  unfold upI
  rw [if_neg (fun q => by rcases ha with e | e <;> omega)]
  exact h a' k' h1 h2
theorem FW.sig {I J : Nat → Int → Int} (h : FW I J) : sig J = sig I := sig_eq fun a k hk => h a k (fun q => by rw [q.1, q.2] at hk; cases hk) (fun q => by
  have key : ∀ a, a < 149 → 145 ≤ a → ∀ k, isSt a k = false := by
    intro a h1 h2 k
    unfold isSt
    have e1 : (a == 127) = false := by simp; omega
    have e2 : decide (a ≤ 133) = false := by simp; omega
    have e3 : (a == 138) = false := by simp; omega
    have e4 : (a == 149) = false := by simp; omega
    have e5 : (a == 150) = false := by simp; omega
    rw [e1, e2, e3, e4, e5]
    simp
  rw [key a (by omega) q.1 k] at hk
  cases hk)
theorem FW.trans {I J K : Nat → Int → Int} (h : FW I J) (h' : FW J K) : FW I K := fun a k h1 h2 => (h' a k h1 h2).trans (h a k h1 h2)
/-- the reference's rows hold the watch's state, the log up to s -/
def RW (σ J w : Nat → Int → Int) (s : Int) : Prop := (∀ p, 0 ≤ p → p < σ 127 21 → J 145 p = w 145 p ∧ J 146 p = w 146 p ∧ J 147 p = w 147 p) ∧ ∀ q, 0 ≤ q → q < s → J 148 q = w 148 q
theorem RW.up {σ J w : Nat → Int → Int} {a : Nat} {k z s : Int} (h : RW σ J w s) : RW σ (upI J a k z) (upI w a k z) s := by
  refine ⟨fun p h0 h1 => ?_, fun q h0 h1 => ?_⟩
  · obtain ⟨e1, e2, e3⟩ := h.1 p h0 h1
    unfold upI
    rw [e1, e2, e3]
    exact ⟨rfl, rfl, rfl⟩
  · unfold upI
    rw [h.2 q h0 h1]
theorem RW.sc {σ J w : Nat → Int → Int} {k z s : Int} (h : RW σ J w s) : RW σ (upI J 127 k z) w s := ⟨fun p h0 h1 => by rw [up_ne (by decide), up_ne (by decide), up_ne (by decide)]; exact h.1 p h0 h1, fun q h0 h1 => by rw [up_ne (by decide)]; exact h.2 q h0 h1⟩
theorem RW.next {σ J w : Nat → Int → Int} {s : Int} (h : RW σ J w s) (e : J 148 s = w 148 s) : RW σ J w (s + 1) := ⟨h.1, fun q h0 h1 => by
  by_cases c1 : q = s
  · rw [c1]; exact e
  · exact h.2 q h0 (by omega)⟩
theorem RW.brk {σ J w : Nat → Int → Int} {p s : Int} (h : RW σ J w s) (h0 : 0 ≤ p) (h1 : p < σ 127 21) : RW σ (brkJ σ J p) (brkS σ w p) s := by
  unfold brkJ brkS
  rw [(h.1 p h0 h1).2.2]
  exact (h.up).up
theorem stOK.ref {σ J w : Nat → Int → Int} {s p : Int} (h : RW σ J w s) (h0 : 0 ≤ p) (h1 : p < σ 127 21) (hst : stOK σ w p) : stOK σ J p := by
  obtain ⟨e1, e2, e3⟩ := h.1 p h0 h1
  unfold stOK
  rw [e1, e2, e3]
  exact hst
theorem FW.brk {σ I J : Nat → Int → Int} {p : Int} (h : FW I J) : FW I (brkJ σ J p) := (h.up (Or.inr (by decide))).up (Or.inr (by decide))
set_option maxRecDepth 20000 in
theorem t301 {d : Nat} {I σ : Nat → Int → Int} {P : Int → Nat} {dr : Nat} {Q : mQ} {rule wh slots : Int} (hN : WFn σ) (hP : WFp σ) (ha : 0 ≤ σ 127 31 ∧ σ 127 31 ≤ 1) (r0 : 0 ≤ rule) (r1 : rule ≤ 2) (w0 : 0 ≤ wh) (w1 : wh < 6) (sl : slots ≤ 12) {w J : Nat → Int → Int} {ins go rest sc s : Int} {l8 l9 : mV} (hF : FW I J) (hs : sig J = σ) (hR : RW σ J w s) (hlg : go = -1 → J 148 s = w 148 s) (hsc : J 127 36 = sc) (hok : wOK σ (w, ins, go, rest, sc)) (s0 : 0 ≤ s) (s1 : s < slots) (k59 : ∀ (J : Nat → Int → Int) (l8 l9 : mV), FW I J → sig J = σ → RW σ J (goS σ wh s (w, ins, go, rest, sc)).1 (s + 1) → J 127 36 = (goS σ wh s (w, ins, go, rest, sc)).2.2.2.2 → wp (mcall MT CD (d + 6)) (CD 191) L0 Q 59 [vr 127, vi rule, vi wh, vi slots, vi (goS σ wh s (w, ins, go, rest, sc)).2.1, vi (goS σ wh s (w, ins, go, rest, sc)).2.2.1, vi (goS σ wh s (w, ins, go, rest, sc)).2.2.2.1, vi (s + 1), l8, l9] [] (S0, J, RR P dr)) : wp (mcall MT CD (d + 6)) (CD 191) L0 Q 301 [vr 127, vi rule, vi wh, vi slots, vi ins, vi go, vi rest, vi s, l8, l9] [] (S0, J, RR P dr) := by
  obtain ⟨ok1, ok2, ok3, ok4⟩ := id hok
  dsimp only at ok1 ok2 ok3 ok4
  have hg1 : -1 ≤ go ∧ go < 5 := by have := hP.1; omega
  have hdb := done_b (w := w) hP (σ 127 21).toNat (by have := hP.1; omega)
  have hpl := hP.1
  refine s_ild k191_301 rfl ?_
  refine z_push k191_303 ?_
  refine s_iceq k191_304 ⟨by omega, by omega⟩ (inR_lit rfl) (fun h304 => ?_) (fun h304 => ?_)
  · refine s_iinc7 k191_451 rfl ?_
    refine z_goto k191_454 ?_
    have e : goS σ wh s (w, ins, go, rest, sc) = (w, ins, go, rest, sc) := if_pos h304
    rw [e] at k59
    dsimp only at k59
    exact k59 J l8 l9 hF hs (hR.next (hlg h304)) hsc
  · have hgo : 0 ≤ go ∧ go < σ 127 21 ∧ (0 ≤ w 145 go ∧ w 145 go < pf σ go 4) ∧ 1 ≤ rest ∧ rest ≤ 4 := by
      rcases ok3 with e | e
      · exact absurd e h304
      · exact ⟨e.1, e.2.1, e.2.2.1, e.2.2.2.1, e.2.2.2.2⟩
    have hpg := hP.2 go hgo.1 hgo.2.1
    obtain ⟨e145, e146, e147⟩ := hR.1 go hgo.1 hgo.2.1
    have hp4 := hpg.2.2.2.2.1
    have hp3 := hpg.2.2.2.1
    have e145' := e145
    refine s_ald k191_307 rfl ?_
    refine s_ild k191_308 rfl ?_
    refine s_ald k191_310 rfl ?_
    refine z_getRe (b := 145) k191_311 rfl rr_127_32 ?_
    refine s_ild k191_314 rfl ?_
    refine z_ialde (z := J 145 go) k191_316 rfl (by omega) (show go < ((5 : Nat) : Int) by omega) rfl ?_
    refine s_ild k191_317 rfl ?_
    refine s_ild k191_319 rfl ?_
    refine z_inv4A k191_320 rfl (Nat.le_of_ble_eq_true rfl) (c169 hs hN (by omega) (by omega) hpg (by omega) (by omega) s0 (by omega) w0 w1) ?_
    refine z_ifeqb k191_323 (fun h323 => ?_) (fun h323 => ?_)
    · refine s_ald k191_430 rfl ?_
      refine z_getRe (b := 148) k191_431 rfl rr_127_35 ?_
      refine s_ild k191_434 rfl ?_
      refine z_push k191_436 ?_
      refine s_ild k191_438 rfl ?_
      refine z_iadd k191_440 ?_
      refine z_iast k191_441 rfl (by omega) (show s < ((12 : Nat) : Int) by omega) ?_
      refine s_ald k191_442 rfl ?_
      refine s_ild k191_443 rfl ?_
      refine z_inv1 k191_445 rfl (Nat.le_of_ble_eq_true rfl) (c187 ((sig_no rfl).trans hs) ha (by omega) (by omega) (by rw [up_ne (by decide)]; have := (ok1 go (by omega) (by omega)).2.2; rw [(hR.1 go (by omega) (by omega)).2.2]; exact this)) (fun o h1 hq => ?_)
      obtain ⟨rfl, rfl⟩ := hq
      refine z_push k191_448 ?_
      refine s_ist5 k191_449 rfl ?_
      refine s_iinc7 k191_451 rfl ?_
      refine z_goto k191_454 ?_
      have e : goS σ wh s (w, ins, go, rest, sc) = (brkS σ (upI w 148 s (10 + go)) go, ins, -1, rest, sc) := by
        unfold goS
        rw [if_neg h304, if_neg (by rw [e145] at h323; exact h323)]
      rw [e] at k59
      dsimp only at k59
      refine k59 _ _ _ (FW.brk (hF.up (Or.inr (by decide)))) ((FW.sig (FW.brk FW.rf)).trans ((sig_no rfl).trans hs)) (RW.next (RW.brk hR.up hgo.1 hgo.2.1) ?_) ?_
      · rw [(brk_at (q := go)).2.2.2, up_at]
        unfold brkJ
        rw [up_ne (by decide), up_ne (by decide), up_at]
      · unfold brkJ
        rw [up_ne (by decide), up_ne (by decide), up_ne (by decide)]
        exact hsc
    · refine s_ald k191_326 rfl ?_
      refine z_getRe (b := 148) k191_327 rfl rr_127_35 ?_
      refine s_ild k191_330 rfl ?_
      refine s_ild k191_332 rfl ?_
      refine z_iast k191_334 rfl (by omega) (show s < ((12 : Nat) : Int) by omega) ?_
      refine s_iinc6 k191_335 rfl ?_
      refine s_ild k191_338 rfl ?_
      refine s_ifne k191_340 ⟨by omega, by omega⟩ (fun h340 => ?_) (fun h340 => ?_)
      · refine s_iinc7 k191_451 rfl ?_
        refine z_goto k191_454 ?_
        have e : goS σ wh s (w, ins, go, rest, sc) = (upI w 148 s go, ins, go, rest - 1, sc) := by
          unfold goS
          rw [if_neg h304, if_pos (by rw [e145] at h323; exact h323), if_neg (by show ¬ rest - 1 = 0; omega)]
        rw [e] at k59
        dsimp only at k59
        exact k59 _ _ _ (hF.up (Or.inr (by decide))) ((sig_no rfl).trans hs) (RW.next hR.up (by rw [up_at, up_at])) (by rw [up_ne (by decide)]; exact hsc)
      · refine s_ald k191_343 rfl ?_
        refine z_getRe (b := 146) k191_344 rfl rr_127_33 ?_
        refine s_ild k191_347 rfl ?_
        refine s_ild k191_349 rfl ?_
        refine z_push k191_351 ?_
        refine z_iadd k191_352 ?_
        refine z_iast k191_353 rfl (by omega) (show go < ((5 : Nat) : Int) by omega) ?_
        refine s_ald k191_354 rfl ?_
        refine z_getRe (b := 145) k191_355 rfl rr_127_32 ?_
        refine s_ild k191_358 rfl ?_
        refine s_ald k191_360 rfl ?_
        refine z_getRe (b := 145) k191_361 rfl rr_127_32 ?_
        refine s_ild k191_364 rfl ?_
        refine z_ialde (z := J 145 go) k191_366 rfl (by omega) (show go < ((5 : Nat) : Int) by omega) ((up_ne (by decide)).trans ((up_ne (by decide)).trans rfl)) ?_
        refine z_push k191_367 ?_
        refine z_iadd k191_368 ?_
        refine s_ald k191_369 rfl ?_
        refine s_ild k191_370 rfl ?_
        refine z_inv1A k191_372 rfl (Nat.le_of_ble_eq_true rfl) (c166 ((sig_no rfl).trans ((sig_no rfl).trans hs)) (by omega) (by omega)) ?_
        refine s_icne k191_375 ⟨by omega, by omega⟩ ⟨by omega, by omega⟩ (fun h375 => ?_) (fun h375 => ?_)
        · refine s_ald k191_383 rfl ?_
          refine z_getRe (b := 145) k191_384 rfl rr_127_32 ?_
          refine s_ild k191_387 rfl ?_
          refine z_ialde (z := J 145 go) k191_389 rfl (by omega) (show go < ((5 : Nat) : Int) by omega) ((up_ne (by decide)).trans ((up_ne (by decide)).trans rfl)) ?_
          refine z_push k191_390 ?_
          refine z_iadd k191_391 ?_
          refine z_iast k191_392 rfl (by omega) (show go < ((5 : Nat) : Int) by omega) ?_
          refine s_ald k191_393 rfl ?_
          refine z_dupr k191_394 ?_
          refine z_getIe (z := sc) k191_395 rfl ((up_ne (by decide)).trans ((up_ne (by decide)).trans ((up_ne (by decide)).trans hsc))) ?_
          refine s_ald k191_398 rfl ?_
          refine z_getRe (b := 145) k191_399 rfl rr_127_32 ?_
          refine s_ild k191_402 rfl ?_
          refine z_ialde (z := (J 145 go) + 1) k191_404 rfl (by omega) (show go < ((5 : Nat) : Int) by omega) up_at ?_
          refine z_push k191_405 ?_
          refine s_icne k191_407 ⟨by omega, by omega⟩ (inR_lit rfl) (fun h407 => ?_) (fun h407 => ?_)
          · refine z_push k191_419 ?_
            refine z_iadd k191_420 ?_
            refine z_putIe (q := 36) k191_421 rfl rfl ?_
            refine z_push k191_424 ?_
            refine s_ist5 k191_425 rfl ?_
            refine z_goto k191_427 ?_
            refine s_iinc7 k191_451 rfl ?_
            refine z_goto k191_454 ?_
            have e : goS σ wh s (w, ins, go, rest, sc) = (upI (upI (upI w 148 s go) 146 go (s + 1)) 145 go (J 145 go + 1), ins, -1, 0, sc + 0) := by
              unfold goS
              rw [if_neg h304, if_pos (by rw [e145] at h323; exact h323), if_pos (by show rest - 1 = 0; omega), if_neg (by show ¬ w 145 go + 1 = pf σ go 4; omega), if_neg (by show ¬ w 145 go + 1 = pf σ go 4; omega), e145]
            rw [e] at k59
            dsimp only at k59
            rw [h340]
            exact k59 _ _ _ ((((hF.up (Or.inr (by decide))).up (Or.inr (by decide))).up (Or.inr (by decide))).up (Or.inl ⟨rfl, rfl⟩)) ((sig_no rfl).trans ((sig_no rfl).trans ((sig_no rfl).trans ((sig_no rfl).trans hs)))) (RW.next (RW.sc hR.up.up.up) (by rw [up_ne (by decide), up_ne (by decide), up_ne (by decide), up_at, up_ne (by decide), up_ne (by decide), up_at])) up_at
          · refine s_ald k191_410 rfl ?_
            refine s_ild k191_411 rfl ?_
            refine z_inv1A k191_413 rfl (Nat.le_of_ble_eq_true rfl) (c165 ((sig_no rfl).trans ((sig_no rfl).trans ((sig_no rfl).trans hs))) (by omega) (by omega)) ?_
            refine z_goto k191_416 ?_
            refine z_iadd k191_420 ?_
            refine z_putIe (q := 36) k191_421 rfl rfl ?_
            refine z_push k191_424 ?_
            refine s_ist5 k191_425 rfl ?_
            refine z_goto k191_427 ?_
            refine s_iinc7 k191_451 rfl ?_
            refine z_goto k191_454 ?_
            exact absurd h407 (by omega)
        · refine z_push k191_378 ?_
          refine z_goto k191_380 ?_
          refine z_iast k191_392 rfl (by omega) (show go < ((5 : Nat) : Int) by omega) ?_
          refine s_ald k191_393 rfl ?_
          refine z_dupr k191_394 ?_
          refine z_getIe (z := sc) k191_395 rfl ((up_ne (by decide)).trans ((up_ne (by decide)).trans ((up_ne (by decide)).trans hsc))) ?_
          refine s_ald k191_398 rfl ?_
          refine z_getRe (b := 145) k191_399 rfl rr_127_32 ?_
          refine s_ild k191_402 rfl ?_
          refine z_ialde (z := 8) k191_404 rfl (by omega) (show go < ((5 : Nat) : Int) by omega) up_at ?_
          refine z_push k191_405 ?_
          refine s_icne k191_407 (inR_lit rfl) (inR_lit rfl) (fun q => absurd q (by decide)) (fun _ => ?_)
          refine s_ald k191_410 rfl ?_
          refine s_ild k191_411 rfl ?_
          refine z_inv1A k191_413 rfl (Nat.le_of_ble_eq_true rfl) (c165 ((sig_no rfl).trans ((sig_no rfl).trans ((sig_no rfl).trans hs))) (by omega) (by omega)) ?_
          refine z_goto k191_416 ?_
          refine z_iadd k191_420 ?_
          refine z_putIe (q := 36) k191_421 rfl rfl ?_
          refine z_push k191_424 ?_
          refine s_ist5 k191_425 rfl ?_
          refine z_goto k191_427 ?_
          refine s_iinc7 k191_451 rfl ?_
          refine z_goto k191_454 ?_
          have e : goS σ wh s (w, ins, go, rest, sc) = (upI (upI (upI w 148 s go) 146 go (s + 1)) 145 go 8, ins, -1, 0, sc + pf σ go 3) := by
            unfold goS
            rw [if_neg h304, if_pos (by rw [e145] at h323; exact h323), if_pos (by show rest - 1 = 0; omega), if_pos (by show w 145 go + 1 = pf σ go 4; omega), if_pos (by show w 145 go + 1 = pf σ go 4; omega)]
          rw [e] at k59
          dsimp only at k59
          rw [h340]
          exact k59 _ _ _ ((((hF.up (Or.inr (by decide))).up (Or.inr (by decide))).up (Or.inr (by decide))).up (Or.inl ⟨rfl, rfl⟩)) ((sig_no rfl).trans ((sig_no rfl).trans ((sig_no rfl).trans ((sig_no rfl).trans hs)))) (RW.next (RW.sc hR.up.up.up) (by rw [up_ne (by decide), up_ne (by decide), up_ne (by decide), up_at, up_ne (by decide), up_ne (by decide), up_at])) up_at
