/-! texts, the class -/
def clP (x : mR3) : Int := if x.1 = 15 then (if x.2.2 (5 + 6 * x.2.1 + 3) = 1 then 16 else 15) else if x.1 < 15 then x.1 else x.1 + 1
def DF (J : Nat → Int → Int) (dr : Nat) (r : Int → Int) : Prop := (∀ q, 0 ≤ q → q < 4 → r q ≠ -1 → J dr q = r q) ∧ ∀ i q, 0 ≤ i → i < 3 → 0 ≤ q → q < 6 → r (5 + 6 * i + q) ≠ -1 → J (dr + 2 + i.toNat) q = r (5 + 6 * i + q)
theorem DF.no {J : Nat → Int → Int} {dr : Nat} {r : Int → Int} {q z : Int} (h : DF J dr r) (hd : 37 ≤ dr) : DF (upI J 35 q z) dr r := ⟨fun p p0 p1 hp => (up_ne (by omega)).trans (h.1 p p0 p1 hp), fun i p i0 i1 p0 p1 hp => (up_ne (by omega)).trans (h.2 i p i0 i1 p0 p1 hp)⟩
theorem DF.h {J : Nat → Int → Int} {dr : Nat} {r : Int → Int} {q z : Int} (h : DF J dr r) (q0 : 0 ≤ q) (q1 : q < 4) : DF (upI J dr q z) dr (updR r q z) := by
  refine ⟨fun p p0 p1 hp => ?_, fun i p i0 i1 p0 p1 hp => ?_⟩
  · by_cases c : p = q
    · rw [c, up_at, ur_at]
    · rw [ur_ne c] at hp ⊢
      exact (up_nk c).trans (h.1 p p0 p1 hp)
  · rw [ur_ne (by omega)] at hp ⊢
    exact (up_ne (by omega)).trans (h.2 i p i0 i1 p0 p1 hp)
theorem DF.s {J : Nat → Int → Int} {dr : Nat} {r : Int → Int} {j q z : Int} (h : DF J dr r) (j0 : 0 ≤ j) (j1 : j < 3) (q0 : 0 ≤ q) (q1 : q < 6) : DF (upI J (dr + 2 + j.toNat) q z) dr (updR r (5 + 6 * j + q) z) := by
  refine ⟨fun p p0 p1 hp => ?_, fun i p i0 i1 p0 p1 hp => ?_⟩
  · rw [ur_ne (by omega)] at hp ⊢
    exact (up_ne (by omega)).trans (h.1 p p0 p1 hp)
  · by_cases c : i = j ∧ p = q
    · rw [c.1, c.2, up_at, ur_at]
    · rw [ur_ne (by omega)] at hp ⊢
      refine (if_neg (fun u => c ⟨by omega, u.2⟩)).trans (h.2 i p i0 i1 p0 p1 hp)
def RLx (J : Nat → Int → Int) (dr : Nat) (x : mR3) : Prop := J 35 9 = clP x ∧ J 35 10 = x.2.1 ∧ DF J dr x.2.2
def waS (p : Int) : Nat := if p = 0 then 2 else if p = 2 then 3 else if p = 4 then 4 else if p = 6 then 5 else if p = 9 then 6 else if p = 11 then 7 else if p = 13 then 8 else if p = 15 then 9 else if p = 17 then 10 else if p = 19 then 11 else 12
abbrev npP (p : Int) : Prop := p = 1 ∨ p = 3 ∨ p = 5 ∨ p = 7 ∨ p = 10 ∨ p = 12 ∨ p = 14 ∨ p = 18 ∨ p = 20
def lcS (p w : Int) : Int := if p = 7 then 1 else if p = 10 then 1 else if p = 20 then w else 0
def hcS (σ : Nat → Int → Int) (p w : Int) : Int := if p = 1 then 3 else if p = 3 then 2 else if p = 5 then σ 127 2 - 1 else if p = 7 then 99 else if p = 10 then 4 else if p = 12 then 3 else if p = 14 then 8 else if p = 18 then 6 else w + 3
/-- what a number makes of the draft -/
def kcH (J : Nat → Int → Int) (dr : Nat) (p j v : Int) : Nat → Int → Int := if p = 1 then upI J dr 0 v else if p = 3 then upI J dr 1 v else if p = 5 then upI J dr 2 v else if p = 7 then upI J dr 3 v else if p = 10 then upI J (dr + 2 + j.toNat) 0 v else if p = 12 then upI J (dr + 2 + j.toNat) 1 v else if p = 14 then upI (upI J (dr + 2 + j.toNat) 2 v) (dr + 2 + j.toNat) 3 0 else if p = 18 then upI J (dr + 2 + j.toNat) 4 v else upI J (dr + 2 + j.toNat) 5 v
def wcH (J : Nat → Int → Int) (dr : Nat) (p j : Int) : Nat → Int → Int := if p = 15 then upI (upI J (dr + 2 + j.toNat) 3 1) 35 9 16 else upI J 35 9 (p + 1)
/-- what the class's reading changes -/
def FX (I J : Nat → Int → Int) (dr : Nat) : Prop := ∀ a q, ¬ (a = 35 ∧ 3 ≤ q) → a ≠ dr → ¬ (dr + 2 ≤ a ∧ a ≤ dr + 4) → J a q = I a q
theorem FX.rf {I : Nat → Int → Int} {dr : Nat} : FX I I dr := fun _ _ _ _ _ => rfl
theorem FX.tr {I J K : Nat → Int → Int} {dr : Nat} (h : FX I J dr) (h' : FX J K dr) : FX I K dr := fun a q h1 h2 h3 => (h' a q h1 h2 h3).trans (h a q h1 h2 h3)
theorem FX.up {I J : Nat → Int → Int} {dr a : Nat} {k z : Int} (h : FX I J dr) (ha : (a = 35 ∧ 3 ≤ k) ∨ a = dr ∨ (dr + 2 ≤ a ∧ a ≤ dr + 4)) : FX I (upI J a k z) dr := fun a' q h1 h2 h3 => (if_neg (by omega)).trans (h a' q h1 h2 h3)
/-- the token's fields stay -/
def TF (I J : Nat → Int → Int) : Prop := ∀ q, q ≤ 8 → J 35 q = I 35 q
theorem TF.rf {I : Nat → Int → Int} : TF I I := fun _ _ => rfl
theorem TF.up {I J : Nat → Int → Int} {a : Nat} {k z : Int} (h : TF I J) (ha : a ≠ 35 ∨ 9 ≤ k) : TF I (upI J a k z) := fun q hq => (if_neg (by omega)).trans (h q hq)
theorem DF.k {J : Nat → Int → Int} {dr : Nat} {r : Int → Int} {at_ j v : Int} (h : DF J dr r) (j0 : 0 ≤ j) (j1 : j < 3) (h9 : at_ = 1 ∨ at_ = 3 ∨ at_ = 5 ∨ at_ = 7 ∨ at_ = 10 ∨ at_ = 12 ∨ at_ = 14 ∨ at_ = 17 ∨ at_ = 19) : DF (kcH J dr (if at_ < 15 then at_ else at_ + 1) j v) dr (kpS at_ j r v) := by
  rcases h9 with e | e | e | e | e | e | e | e | e <;> subst e
  · exact h.h (q := 0) (by decide) (by decide)
  · exact h.h (q := 1) (by decide) (by decide)
  · exact h.h (q := 2) (by decide) (by decide)
  · exact h.h (q := 3) (by decide) (by decide)
  · exact h.s (q := 0) j0 j1 (by decide) (by decide)
  · exact h.s (q := 1) j0 j1 (by decide) (by decide)
  · exact (h.s (q := 2) j0 j1 (by decide) (by decide)).s (q := 3) j0 j1 (by decide) (by decide)
  · exact h.s (q := 4) j0 j1 (by decide) (by decide)
  · exact h.s (q := 5) j0 j1 (by decide) (by decide)
theorem kc_x {J : Nat → Int → Int} {dr : Nat} {p j v : Int} (j0 : 0 ≤ j) (j1 : j < 3) (hd : 37 ≤ dr) : FX J (kcH J dr p j v) dr ∧ TF J (kcH J dr p j v) ∧ kcH J dr p j v 35 9 = J 35 9 ∧ kcH J dr p j v 35 10 = J 35 10 := by
  unfold kcH
  (repeat' split) <;> refine ⟨?_, ?_, ?_, ?_⟩ <;> first
    | exact FX.rf.up (by omega)
    | exact (FX.rf.up (by omega)).up (by omega)
    | exact TF.rf.up (by omega)
    | exact (TF.rf.up (by omega)).up (by omega)
    | exact up_ne (by omega)
    | exact (up_ne (by omega)).trans (up_ne (by omega))
theorem br_w {σ J : Nat → Int → Int} {dr : Nat} {at_ j k v : Int} {r : Int → Int} {ti : Prop} (hd : 37 ≤ dr) (j0 : 0 ≤ j) (j1 : j < 3) (a0 : 0 ≤ at_) (a1 : at_ ≤ 20) (hR : RLx J dr (at_, j, r)) (hk : (0 ≤ k ∧ k ≤ 8) ∨ k = 20 ∨ k = 99) (h1 : waS (clP (at_, j, r)) ≤ 11 → (ti ↔ k = wdS (waS (clP (at_, j, r))))) (h2 : waS (clP (at_, j, r)) = 12 → ¬ ti) : (¬ ti → stpS σ at_ j r k v = none) ∧ (ti → ∃ y, stpS σ at_ j r k v = some y ∧ y.1 ≠ 50 ∧ RLx (wcH J dr (clP (at_, j, r)) j) dr y) := by
  obtain ⟨q1, q2, q3⟩ := hR
  dsimp only at q2 q3
  rcases (show at_ = 0 ∨ at_ = 1 ∨ at_ = 2 ∨ at_ = 3 ∨ at_ = 4 ∨ at_ = 5 ∨ at_ = 6 ∨ at_ = 7 ∨ at_ = 8 ∨ at_ = 9 ∨ at_ = 10 ∨ at_ = 11 ∨ at_ = 12 ∨ at_ = 13 ∨ at_ = 14 ∨ at_ = 15 ∨ at_ = 16 ∨ at_ = 17 ∨ at_ = 18 ∨ at_ = 19 ∨ at_ = 20 from by omega) with e | e | e | e | e | e | e | e | e | e | e | e | e | e | e | e | e | e | e | e | e
  · subst e
    have ep : clP (0, j, r) = 0 := rfl
    rw [ep] at h1 h2 ⊢
    have hi : ti ↔ k = 0 := h1 (by decide)
    refine ⟨fun u => ?_, fun u => ⟨(1, j, r), ?_, (show (1 : Int) ≠ 50 by decide), ?_⟩⟩
    · have hk2 : k ≠ 0 := fun e => u (hi.mpr e)
      unfold stpS
      rw [if_neg (by decide), if_neg (fun w => hk2 w.1)]
    · unfold stpS
      rw [if_neg (by decide), if_pos ⟨hi.mp u, fun w => absurd w (by decide)⟩]
      rfl
    · rw [show wcH J dr 0 j = upI J 35 9 (0 + 1) from if_neg (by decide)]
      exact ⟨up_at, (up_nk (by decide)).trans q2, q3.no hd⟩
  · subst e
    refine ⟨fun _ => ?_, fun u => absurd u (h2 rfl)⟩
    have hw : wnS 1 = 40 := rfl
    unfold stpS
    rw [if_neg (by decide), if_neg (by rw [hw]; omega)]
  · subst e
    have ep : clP (2, j, r) = 2 := rfl
    rw [ep] at h1 h2 ⊢
    have hi : ti ↔ k = 1 := h1 (by decide)
    refine ⟨fun u => ?_, fun u => ⟨(3, j, r), ?_, (show (3 : Int) ≠ 50 by decide), ?_⟩⟩
    · have hk2 : k ≠ 1 := fun e => u (hi.mpr e)
      unfold stpS
      rw [if_neg (by decide), if_neg (fun w => hk2 w.1)]
    · unfold stpS
      rw [if_neg (by decide), if_pos ⟨hi.mp u, fun w => absurd w (by decide)⟩]
      rfl
    · rw [show wcH J dr 2 j = upI J 35 9 (2 + 1) from if_neg (by decide)]
      exact ⟨up_at, (up_nk (by decide)).trans q2, q3.no hd⟩
  · subst e
    refine ⟨fun _ => ?_, fun u => absurd u (h2 rfl)⟩
    have hw : wnS 3 = 40 := rfl
    unfold stpS
    rw [if_neg (by decide), if_neg (by rw [hw]; omega)]
  · subst e
    have ep : clP (4, j, r) = 4 := rfl
    rw [ep] at h1 h2 ⊢
    have hi : ti ↔ k = 2 := h1 (by decide)
    refine ⟨fun u => ?_, fun u => ⟨(5, j, r), ?_, (show (5 : Int) ≠ 50 by decide), ?_⟩⟩
    · have hk2 : k ≠ 2 := fun e => u (hi.mpr e)
      unfold stpS
      rw [if_neg (by decide), if_neg (fun w => hk2 w.1)]
    · unfold stpS
      rw [if_neg (by decide), if_pos ⟨hi.mp u, fun w => absurd w (by decide)⟩]
      rfl
    · rw [show wcH J dr 4 j = upI J 35 9 (4 + 1) from if_neg (by decide)]
      exact ⟨up_at, (up_nk (by decide)).trans q2, q3.no hd⟩
  · subst e
    refine ⟨fun _ => ?_, fun u => absurd u (h2 rfl)⟩
    have hw : wnS 5 = 40 := rfl
    unfold stpS
    rw [if_neg (by decide), if_neg (by rw [hw]; omega)]
  · subst e
    have ep : clP (6, j, r) = 6 := rfl
    rw [ep] at h1 h2 ⊢
    have hi : ti ↔ k = 3 := h1 (by decide)
    refine ⟨fun u => ?_, fun u => ⟨(7, j, r), ?_, (show (7 : Int) ≠ 50 by decide), ?_⟩⟩
    · have hk2 : k ≠ 3 := fun e => u (hi.mpr e)
      unfold stpS
      rw [if_neg (by decide), if_neg (fun w => hk2 w.1)]
    · unfold stpS
      rw [if_neg (by decide), if_pos ⟨hi.mp u, fun w => absurd w (by decide)⟩]
      rfl
    · rw [show wcH J dr 6 j = upI J 35 9 (6 + 1) from if_neg (by decide)]
      exact ⟨up_at, (up_nk (by decide)).trans q2, q3.no hd⟩
  · subst e
    refine ⟨fun _ => ?_, fun u => absurd u (h2 rfl)⟩
    have hw : wnS 7 = 40 := rfl
    unfold stpS
    rw [if_neg (by decide), if_neg (by rw [hw]; omega)]
  · subst e
    refine ⟨fun _ => ?_, fun u => absurd u (h2 rfl)⟩
    have hw : wnS 8 = 30 := rfl
    unfold stpS
    rw [if_neg (by decide), if_neg (by rw [hw]; omega)]
  · subst e
    have ep : clP (9, j, r) = 9 := rfl
    rw [ep] at h1 h2 ⊢
    have hi : ti ↔ k = 4 := h1 (by decide)
    refine ⟨fun u => ?_, fun u => ⟨(10, j, r), ?_, (show (10 : Int) ≠ 50 by decide), ?_⟩⟩
    · have hk2 : k ≠ 4 := fun e => u (hi.mpr e)
      unfold stpS
      rw [if_neg (by decide), if_neg (fun w => hk2 w.1)]
    · unfold stpS
      rw [if_neg (by decide), if_pos ⟨hi.mp u, fun w => absurd w (by decide)⟩]
      rfl
    · rw [show wcH J dr 9 j = upI J 35 9 (9 + 1) from if_neg (by decide)]
      exact ⟨up_at, (up_nk (by decide)).trans q2, q3.no hd⟩
  · subst e
    refine ⟨fun _ => ?_, fun u => absurd u (h2 rfl)⟩
    have hw : wnS 10 = 40 := rfl
    unfold stpS
    rw [if_neg (by decide), if_neg (by rw [hw]; omega)]
  · subst e
    have ep : clP (11, j, r) = 11 := rfl
    rw [ep] at h1 h2 ⊢
    have hi : ti ↔ k = 5 := h1 (by decide)
    refine ⟨fun u => ?_, fun u => ⟨(12, j, r), ?_, (show (12 : Int) ≠ 50 by decide), ?_⟩⟩
    · have hk2 : k ≠ 5 := fun e => u (hi.mpr e)
      unfold stpS
      rw [if_neg (by decide), if_neg (fun w => hk2 w.1)]
    · unfold stpS
      rw [if_neg (by decide), if_pos ⟨hi.mp u, fun w => absurd w (by decide)⟩]
      rfl
    · rw [show wcH J dr 11 j = upI J 35 9 (11 + 1) from if_neg (by decide)]
      exact ⟨up_at, (up_nk (by decide)).trans q2, q3.no hd⟩
  · subst e
    refine ⟨fun _ => ?_, fun u => absurd u (h2 rfl)⟩
    have hw : wnS 12 = 40 := rfl
    unfold stpS
    rw [if_neg (by decide), if_neg (by rw [hw]; omega)]
  · subst e
    have ep : clP (13, j, r) = 13 := rfl
    rw [ep] at h1 h2 ⊢
    have hi : ti ↔ k = 6 := h1 (by decide)
    refine ⟨fun u => ?_, fun u => ⟨(14, j, r), ?_, (show (14 : Int) ≠ 50 by decide), ?_⟩⟩
    · have hk2 : k ≠ 6 := fun e => u (hi.mpr e)
      unfold stpS
      rw [if_neg (by decide), if_neg (fun w => hk2 w.1)]
    · unfold stpS
      rw [if_neg (by decide), if_pos ⟨hi.mp u, fun w => absurd w (by decide)⟩]
      rfl
    · rw [show wcH J dr 13 j = upI J 35 9 (13 + 1) from if_neg (by decide)]
      exact ⟨up_at, (up_nk (by decide)).trans q2, q3.no hd⟩
  · subst e
    refine ⟨fun _ => ?_, fun u => absurd u (h2 rfl)⟩
    have hw : wnS 14 = 40 := rfl
    unfold stpS
    rw [if_neg (by decide), if_neg (by rw [hw]; omega)]
  · subst e
    by_cases cd : r (5 + 6 * j + 3) = 1
    · have ep : clP (15, j, r) = 16 := by unfold clP; rw [if_pos rfl, if_pos cd]
      have nt := h2 (by rw [ep]; rfl)
      refine ⟨fun _ => ?_, fun u => absurd u nt⟩
      unfold stpS
      rw [if_pos rfl, if_neg (by omega), if_neg (by omega), if_neg (by omega)]
    · have ep : clP (15, j, r) = 15 := by unfold clP; rw [if_pos rfl, if_neg cd]
      have hi := h1 (by rw [ep]; decide)
      rw [ep, show waS 15 = 9 from rfl, show wdS 9 = 20 from rfl] at hi
      refine ⟨fun u => ?_, fun u => ⟨(15, j, updR r (5 + 6 * j + 3) 1), ?_, (show (15 : Int) ≠ 50 by decide), ?_⟩⟩
      · have hk2 : k ≠ 20 := fun e => u (hi.mpr e)
        unfold stpS
        rw [if_pos rfl, if_neg (by omega), if_neg (by omega), if_neg (by omega)]
      · unfold stpS
        rw [if_pos rfl, if_pos ⟨hi.mp u, cd⟩]
      · rw [ep, show wcH J dr 15 j = upI (upI J (dr + 2 + j.toNat) 3 1) 35 9 16 from if_pos rfl]
        refine ⟨up_at.trans ?_, (up_nk (by decide)).trans ((up_ne (by omega)).trans q2), (q3.s (q := 3) j0 j1 (by decide) (by decide)).no hd⟩
        unfold clP
        dsimp only
        rw [if_pos rfl]
        exact (if_pos (show updR r (5 + 6 * j + 3) 1 (5 + 6 * j + 3) = 1 from ur_at)).symm
  · subst e
    have ep : clP (16, j, r) = 17 := rfl
    rw [ep] at h1 h2 ⊢
    have hi : ti ↔ k = 7 := h1 (by decide)
    refine ⟨fun u => ?_, fun u => ⟨(17, j, r), ?_, (show (17 : Int) ≠ 50 by decide), ?_⟩⟩
    · have hk2 : k ≠ 7 := fun e => u (hi.mpr e)
      unfold stpS
      rw [if_neg (by decide), if_neg (fun w => hk2 w.1)]
    · unfold stpS
      rw [if_neg (by decide), if_pos ⟨hi.mp u, fun w => absurd w (by decide)⟩]
      rfl
    · rw [show wcH J dr 17 j = upI J 35 9 (17 + 1) from if_neg (by decide)]
      exact ⟨up_at, (up_nk (by decide)).trans q2, q3.no hd⟩
  · subst e
    refine ⟨fun _ => ?_, fun u => absurd u (h2 rfl)⟩
    have hw : wnS 17 = 40 := rfl
    unfold stpS
    rw [if_neg (by decide), if_neg (by rw [hw]; omega)]
  · subst e
    have ep : clP (18, j, r) = 19 := rfl
    rw [ep] at h1 h2 ⊢
    have hi : ti ↔ k = 8 := h1 (by decide)
    refine ⟨fun u => ?_, fun u => ⟨(19, j, r), ?_, (show (19 : Int) ≠ 50 by decide), ?_⟩⟩
    · have hk2 : k ≠ 8 := fun e => u (hi.mpr e)
      unfold stpS
      rw [if_neg (by decide), if_neg (fun w => hk2 w.1)]
    · unfold stpS
      rw [if_neg (by decide), if_pos ⟨hi.mp u, fun w => absurd w (by decide)⟩]
      rfl
    · rw [show wcH J dr 19 j = upI J 35 9 (19 + 1) from if_neg (by decide)]
      exact ⟨up_at, (up_nk (by decide)).trans q2, q3.no hd⟩
  · subst e
    refine ⟨fun _ => ?_, fun u => absurd u (h2 rfl)⟩
    have hw : wnS 19 = 40 := rfl
    unfold stpS
    rw [if_neg (by decide), if_neg (by rw [hw]; omega)]
  · subst e
    refine ⟨fun _ => ?_, fun u => absurd u (h2 rfl)⟩
    have hw : wnS 20 = 31 := rfl
    unfold stpS
    rw [if_neg (by decide), if_neg (by rw [hw]; omega)]
theorem br_n {σ J : Nat → Int → Int} {dr : Nat} {at_ j v : Int} {r : Int → Int} (hd : 37 ≤ dr) (hW : RWF σ (at_, j, r)) (h50 : at_ ≠ 50) (hR : RLx J dr (at_, j, r)) : (¬ (npP (clP (at_, j, r)) ∧ lcS (clP (at_, j, r)) (J (dr + 2 + j.toNat) 4) ≤ v ∧ v ≤ hcS σ (clP (at_, j, r)) (J (dr + 2 + j.toNat) 4)) → stpS σ at_ j r 40 v = none) ∧ ((npP (clP (at_, j, r)) ∧ lcS (clP (at_, j, r)) (J (dr + 2 + j.toNat) 4) ≤ v ∧ v ≤ hcS σ (clP (at_, j, r)) (J (dr + 2 + j.toNat) 4)) → ∃ y, stpS σ at_ j r 40 v = some y ∧ y.1 ≠ 50 ∧ RLx (upI (kcH J dr (clP (at_, j, r)) j v) 35 9 (clP (at_, j, r) + 1)) dr y) := by
  obtain ⟨w1, w2, w3, w4, -, -, -, -, -, -, -, -, w13, -⟩ := hW
  dsimp only at w1 w2 w3 w4 w13
  obtain ⟨q1, q2, q3⟩ := hR
  dsimp only at q2 q3
  have h4 : at_ = 19 → J (dr + 2 + j.toNat) 4 = r (5 + 6 * j + 4) := fun e => q3.2 j 4 (by omega) (by omega) (by decide) (by decide) (by have := (w13 (w4 (by omega))).1 (by omega); omega)
  have hx := fun p v => kc_x (J := J) (dr := dr) (p := p) (j := j) (v := v) w1.1 (by omega) hd
  rcases (show at_ = 0 ∨ at_ = 1 ∨ at_ = 2 ∨ at_ = 3 ∨ at_ = 4 ∨ at_ = 5 ∨ at_ = 6 ∨ at_ = 7 ∨ at_ = 8 ∨ at_ = 9 ∨ at_ = 10 ∨ at_ = 11 ∨ at_ = 12 ∨ at_ = 13 ∨ at_ = 14 ∨ at_ = 15 ∨ at_ = 16 ∨ at_ = 17 ∨ at_ = 18 ∨ at_ = 19 ∨ at_ = 20 from by omega) with e | e | e | e | e | e | e | e | e | e | e | e | e | e | e | e | e | e | e | e | e
  · subst e
    have hw : wnS 0 = 0 := rfl
    refine ⟨fun _ => ?_, fun u => absurd u.1 (show ¬ npP 0 by decide)⟩
    unfold stpS
    rw [if_neg (by decide), if_neg (by rw [hw]; omega)]
  · subst e
    have ep : clP (1, j, r) = 1 := rfl
    rw [ep]
    constructor
    · intro u
      unfold stpS
      rw [if_neg (by decide), if_neg (fun w => u ⟨by decide, w.2 rfl⟩)]
    · intro u
      refine ⟨(2, j, kpS 1 j r v), ?_, (show (2 : Int) ≠ 50 by decide), ?_⟩
      · unfold stpS
        rw [if_neg (by decide), if_pos ⟨rfl, fun _ => u.2⟩]
        rfl
      · exact ⟨up_at, (up_nk (by decide)).trans ((hx _ _).2.2.2.trans q2), (DF.k (at_ := 1) q3 w1.1 (by omega) (by omega)).no hd⟩
  · subst e
    have hw : wnS 2 = 1 := rfl
    refine ⟨fun _ => ?_, fun u => absurd u.1 (show ¬ npP 2 by decide)⟩
    unfold stpS
    rw [if_neg (by decide), if_neg (by rw [hw]; omega)]
  · subst e
    have ep : clP (3, j, r) = 3 := rfl
    rw [ep]
    constructor
    · intro u
      unfold stpS
      rw [if_neg (by decide), if_neg (fun w => u ⟨by decide, w.2 rfl⟩)]
    · intro u
      refine ⟨(4, j, kpS 3 j r v), ?_, (show (4 : Int) ≠ 50 by decide), ?_⟩
      · unfold stpS
        rw [if_neg (by decide), if_pos ⟨rfl, fun _ => u.2⟩]
        rfl
      · exact ⟨up_at, (up_nk (by decide)).trans ((hx _ _).2.2.2.trans q2), (DF.k (at_ := 3) q3 w1.1 (by omega) (by omega)).no hd⟩
  · subst e
    have hw : wnS 4 = 2 := rfl
    refine ⟨fun _ => ?_, fun u => absurd u.1 (show ¬ npP 4 by decide)⟩
    unfold stpS
    rw [if_neg (by decide), if_neg (by rw [hw]; omega)]
  · subst e
    have ep : clP (5, j, r) = 5 := rfl
    rw [ep]
    constructor
    · intro u
      unfold stpS
      rw [if_neg (by decide), if_neg (fun w => u ⟨by decide, w.2 rfl⟩)]
    · intro u
      refine ⟨(6, j, kpS 5 j r v), ?_, (show (6 : Int) ≠ 50 by decide), ?_⟩
      · unfold stpS
        rw [if_neg (by decide), if_pos ⟨rfl, fun _ => u.2⟩]
        rfl
      · exact ⟨up_at, (up_nk (by decide)).trans ((hx _ _).2.2.2.trans q2), (DF.k (at_ := 5) q3 w1.1 (by omega) (by omega)).no hd⟩
  · subst e
    have hw : wnS 6 = 3 := rfl
    refine ⟨fun _ => ?_, fun u => absurd u.1 (show ¬ npP 6 by decide)⟩
    unfold stpS
    rw [if_neg (by decide), if_neg (by rw [hw]; omega)]
  · subst e
    have ep : clP (7, j, r) = 7 := rfl
    rw [ep]
    constructor
    · intro u
      unfold stpS
      rw [if_neg (by decide), if_neg (fun w => u ⟨by decide, w.2 rfl⟩)]
    · intro u
      refine ⟨(8, j, kpS 7 j r v), ?_, (show (8 : Int) ≠ 50 by decide), ?_⟩
      · unfold stpS
        rw [if_neg (by decide), if_pos ⟨rfl, fun _ => u.2⟩]
        rfl
      · exact ⟨up_at, (up_nk (by decide)).trans ((hx _ _).2.2.2.trans q2), (DF.k (at_ := 7) q3 w1.1 (by omega) (by omega)).no hd⟩
  · subst e
    have hw : wnS 8 = 30 := rfl
    refine ⟨fun _ => ?_, fun u => absurd u.1 (show ¬ npP 8 by decide)⟩
    unfold stpS
    rw [if_neg (by decide), if_neg (by rw [hw]; omega)]
  · subst e
    have hw : wnS 9 = 4 := rfl
    refine ⟨fun _ => ?_, fun u => absurd u.1 (show ¬ npP 9 by decide)⟩
    unfold stpS
    rw [if_neg (by decide), if_neg (by rw [hw]; omega)]
  · subst e
    have ep : clP (10, j, r) = 10 := rfl
    rw [ep]
    constructor
    · intro u
      unfold stpS
      rw [if_neg (by decide), if_neg (fun w => u ⟨by decide, w.2 rfl⟩)]
    · intro u
      refine ⟨(11, j, kpS 10 j r v), ?_, (show (11 : Int) ≠ 50 by decide), ?_⟩
      · unfold stpS
        rw [if_neg (by decide), if_pos ⟨rfl, fun _ => u.2⟩]
        rfl
      · exact ⟨up_at, (up_nk (by decide)).trans ((hx _ _).2.2.2.trans q2), (DF.k (at_ := 10) q3 w1.1 (by omega) (by omega)).no hd⟩
  · subst e
    have hw : wnS 11 = 5 := rfl
    refine ⟨fun _ => ?_, fun u => absurd u.1 (show ¬ npP 11 by decide)⟩
    unfold stpS
    rw [if_neg (by decide), if_neg (by rw [hw]; omega)]
  · subst e
    have ep : clP (12, j, r) = 12 := rfl
    rw [ep]
    constructor
    · intro u
      unfold stpS
      rw [if_neg (by decide), if_neg (fun w => u ⟨by decide, w.2 rfl⟩)]
    · intro u
      refine ⟨(13, j, kpS 12 j r v), ?_, (show (13 : Int) ≠ 50 by decide), ?_⟩
      · unfold stpS
        rw [if_neg (by decide), if_pos ⟨rfl, fun _ => u.2⟩]
        rfl
      · exact ⟨up_at, (up_nk (by decide)).trans ((hx _ _).2.2.2.trans q2), (DF.k (at_ := 12) q3 w1.1 (by omega) (by omega)).no hd⟩
  · subst e
    have hw : wnS 13 = 6 := rfl
    refine ⟨fun _ => ?_, fun u => absurd u.1 (show ¬ npP 13 by decide)⟩
    unfold stpS
    rw [if_neg (by decide), if_neg (by rw [hw]; omega)]
  · subst e
    have ep : clP (14, j, r) = 14 := rfl
    rw [ep]
    constructor
    · intro u
      unfold stpS
      rw [if_neg (by decide), if_neg (fun w => u ⟨by decide, w.2 rfl⟩)]
    · intro u
      refine ⟨(15, j, kpS 14 j r v), ?_, (show (15 : Int) ≠ 50 by decide), ?_⟩
      · unfold stpS
        rw [if_neg (by decide), if_pos ⟨rfl, fun _ => u.2⟩]
        rfl
      · exact ⟨up_at.trans (by
          have z0 : kpS 14 j r v (5 + 6 * j + 3) = 0 := by
            unfold kpS
            rw [if_pos rfl]
            exact ur_at
          unfold clP
          dsimp only
          rw [if_pos rfl, if_neg (by rw [z0]; decide)]
          rfl), (up_nk (by decide)).trans ((hx _ _).2.2.2.trans q2), (DF.k (at_ := 14) q3 w1.1 (by omega) (by omega)).no hd⟩
  · subst e
    have nn : ¬ npP (clP (15, j, r)) := by
      unfold clP
      rw [if_pos rfl]
      split <;> decide
    refine ⟨fun _ => ?_, fun u => absurd u.1 nn⟩
    unfold stpS
    rw [if_pos rfl, if_neg (by omega), if_neg (by omega), if_neg (by omega)]
  · subst e
    have hw : wnS 16 = 7 := rfl
    refine ⟨fun _ => ?_, fun u => absurd u.1 (show ¬ npP 17 by decide)⟩
    unfold stpS
    rw [if_neg (by decide), if_neg (by rw [hw]; omega)]
  · subst e
    have ep : clP (17, j, r) = 18 := rfl
    rw [ep]
    constructor
    · intro u
      unfold stpS
      rw [if_neg (by decide), if_neg (fun w => u ⟨by decide, w.2 rfl⟩)]
    · intro u
      refine ⟨(18, j, kpS 17 j r v), ?_, (show (18 : Int) ≠ 50 by decide), ?_⟩
      · unfold stpS
        rw [if_neg (by decide), if_pos ⟨rfl, fun _ => u.2⟩]
        rfl
      · exact ⟨up_at, (up_nk (by decide)).trans ((hx _ _).2.2.2.trans q2), (DF.k (at_ := 17) q3 w1.1 (by omega) (by omega)).no hd⟩
  · subst e
    have hw : wnS 18 = 8 := rfl
    refine ⟨fun _ => ?_, fun u => absurd u.1 (show ¬ npP 19 by decide)⟩
    unfold stpS
    rw [if_neg (by decide), if_neg (by rw [hw]; omega)]
  · subst e
    have ep : clP (19, j, r) = 20 := rfl
    rw [ep]
    rw [h4 rfl]
    constructor
    · intro u
      unfold stpS
      rw [if_neg (by decide), if_neg (fun w => u ⟨by decide, w.2 rfl⟩)]
    · intro u
      refine ⟨(20, j, kpS 19 j r v), ?_, (show (20 : Int) ≠ 50 by decide), ?_⟩
      · unfold stpS
        rw [if_neg (by decide), if_pos ⟨rfl, fun _ => u.2⟩]
        rfl
      · exact ⟨up_at, (up_nk (by decide)).trans ((hx _ _).2.2.2.trans q2), (DF.k (at_ := 19) q3 w1.1 (by omega) (by omega)).no hd⟩
  · subst e
    have hw : wnS 20 = 31 := rfl
    refine ⟨fun _ => ?_, fun u => absurd u.1 (show ¬ npP 21 by decide)⟩
    unfold stpS
    rw [if_neg (by decide), if_neg (by rw [hw]; omega)]
/-- what a sign makes of the form: whether it can stand, and the place and step behind it -/
abbrev sgP (p j c : Int) : Prop := (p = 8 ∧ c = 58) ∨ (p = 21 ∧ c = 44) ∨ ((p = 15 ∨ p = 16) ∧ c = 44 ∧ j < 2)
def sgH (J : Nat → Int → Int) (p j : Int) : Nat → Int → Int := if p = 8 ∨ p = 21 then upI J 35 9 9 else upI (upI J 35 10 (j + 1)) 35 9 17
theorem br_s {σ J : Nat → Int → Int} {dr : Nat} {at_ j c v : Int} {r : Int → Int} (hd : 37 ≤ dr) (hW : RWF σ (at_, j, r)) (h50 : at_ ≠ 50) (hc : c = 58 ∨ c = 44) (hR : RLx J dr (at_, j, r)) : (¬ sgP (clP (at_, j, r)) j c → stpS σ at_ j r (if c = 58 then 30 else 31) v = none) ∧ (sgP (clP (at_, j, r)) j c → ∃ y, stpS σ at_ j r (if c = 58 then 30 else 31) v = some y ∧ y.1 ≠ 50 ∧ RLx (sgH J (clP (at_, j, r)) j) dr y) := by
  obtain ⟨w1, w2, w3, w4, -⟩ := hW
  dsimp only at w1 w2 w3 w4
  obtain ⟨q1, q2, q3⟩ := hR
  dsimp only at q2 q3
  have hk : (if c = 58 then (30 : Int) else 31) = 30 ∧ c = 58 ∨ (if c = 58 then (30 : Int) else 31) = 31 ∧ c = 44 := by
    split <;> omega
  generalize (if c = 58 then (30 : Int) else 31) = k at hk ⊢
  rcases (show at_ = 0 ∨ at_ = 1 ∨ at_ = 2 ∨ at_ = 3 ∨ at_ = 4 ∨ at_ = 5 ∨ at_ = 6 ∨ at_ = 7 ∨ at_ = 8 ∨ at_ = 9 ∨ at_ = 10 ∨ at_ = 11 ∨ at_ = 12 ∨ at_ = 13 ∨ at_ = 14 ∨ at_ = 15 ∨ at_ = 16 ∨ at_ = 17 ∨ at_ = 18 ∨ at_ = 19 ∨ at_ = 20 from by omega) with e | e | e | e | e | e | e | e | e | e | e | e | e | e | e | e | e | e | e | e | e
  · subst e
    have hw : wnS 0 = 0 := rfl
    have ep : clP (0, j, r) = 0 := rfl
    rw [ep]
    refine ⟨fun _ => ?_, fun u => absurd u (by omega)⟩
    unfold stpS
    rw [if_neg (by decide), if_neg (by rw [hw]; omega)]
  · subst e
    have hw : wnS 1 = 40 := rfl
    have ep : clP (1, j, r) = 1 := rfl
    rw [ep]
    refine ⟨fun _ => ?_, fun u => absurd u (by omega)⟩
    unfold stpS
    rw [if_neg (by decide), if_neg (by rw [hw]; omega)]
  · subst e
    have hw : wnS 2 = 1 := rfl
    have ep : clP (2, j, r) = 2 := rfl
    rw [ep]
    refine ⟨fun _ => ?_, fun u => absurd u (by omega)⟩
    unfold stpS
    rw [if_neg (by decide), if_neg (by rw [hw]; omega)]
  · subst e
    have hw : wnS 3 = 40 := rfl
    have ep : clP (3, j, r) = 3 := rfl
    rw [ep]
    refine ⟨fun _ => ?_, fun u => absurd u (by omega)⟩
    unfold stpS
    rw [if_neg (by decide), if_neg (by rw [hw]; omega)]
  · subst e
    have hw : wnS 4 = 2 := rfl
    have ep : clP (4, j, r) = 4 := rfl
    rw [ep]
    refine ⟨fun _ => ?_, fun u => absurd u (by omega)⟩
    unfold stpS
    rw [if_neg (by decide), if_neg (by rw [hw]; omega)]
  · subst e
    have hw : wnS 5 = 40 := rfl
    have ep : clP (5, j, r) = 5 := rfl
    rw [ep]
    refine ⟨fun _ => ?_, fun u => absurd u (by omega)⟩
    unfold stpS
    rw [if_neg (by decide), if_neg (by rw [hw]; omega)]
  · subst e
    have hw : wnS 6 = 3 := rfl
    have ep : clP (6, j, r) = 6 := rfl
    rw [ep]
    refine ⟨fun _ => ?_, fun u => absurd u (by omega)⟩
    unfold stpS
    rw [if_neg (by decide), if_neg (by rw [hw]; omega)]
  · subst e
    have hw : wnS 7 = 40 := rfl
    have ep : clP (7, j, r) = 7 := rfl
    rw [ep]
    refine ⟨fun _ => ?_, fun u => absurd u (by omega)⟩
    unfold stpS
    rw [if_neg (by decide), if_neg (by rw [hw]; omega)]
  · subst e
    have hw : wnS 8 = 30 := rfl
    have ep : clP (8, j, r) = 8 := rfl
    rw [ep]
    constructor
    · intro u
      unfold stpS
      rw [if_neg (by decide), if_neg (by rw [hw]; omega)]
    · intro u
      refine ⟨(9, j, r), ?_, (show (9 : Int) ≠ 50 by decide), ?_⟩
      · unfold stpS
        rw [if_neg (by decide), if_pos ⟨by rw [hw]; omega, fun w => absurd w (by decide)⟩]
        rfl
      · rw [show sgH J 8 j = upI J 35 9 9 from if_pos (by decide)]
        exact ⟨up_at, (up_nk (by decide)).trans q2, q3.no hd⟩
  · subst e
    have hw : wnS 9 = 4 := rfl
    have ep : clP (9, j, r) = 9 := rfl
    rw [ep]
    refine ⟨fun _ => ?_, fun u => absurd u (by omega)⟩
    unfold stpS
    rw [if_neg (by decide), if_neg (by rw [hw]; omega)]
  · subst e
    have hw : wnS 10 = 40 := rfl
    have ep : clP (10, j, r) = 10 := rfl
    rw [ep]
    refine ⟨fun _ => ?_, fun u => absurd u (by omega)⟩
    unfold stpS
    rw [if_neg (by decide), if_neg (by rw [hw]; omega)]
  · subst e
    have hw : wnS 11 = 5 := rfl
    have ep : clP (11, j, r) = 11 := rfl
    rw [ep]
    refine ⟨fun _ => ?_, fun u => absurd u (by omega)⟩
    unfold stpS
    rw [if_neg (by decide), if_neg (by rw [hw]; omega)]
  · subst e
    have hw : wnS 12 = 40 := rfl
    have ep : clP (12, j, r) = 12 := rfl
    rw [ep]
    refine ⟨fun _ => ?_, fun u => absurd u (by omega)⟩
    unfold stpS
    rw [if_neg (by decide), if_neg (by rw [hw]; omega)]
  · subst e
    have hw : wnS 13 = 6 := rfl
    have ep : clP (13, j, r) = 13 := rfl
    rw [ep]
    refine ⟨fun _ => ?_, fun u => absurd u (by omega)⟩
    unfold stpS
    rw [if_neg (by decide), if_neg (by rw [hw]; omega)]
  · subst e
    have hw : wnS 14 = 40 := rfl
    have ep : clP (14, j, r) = 14 := rfl
    rw [ep]
    refine ⟨fun _ => ?_, fun u => absurd u (by omega)⟩
    unfold stpS
    rw [if_neg (by decide), if_neg (by rw [hw]; omega)]
  · subst e
    have ep : clP (15, j, r) = 15 ∨ clP (15, j, r) = 16 := by
      unfold clP
      rw [if_pos rfl]
      dsimp only
      split <;> omega
    generalize hp : clP (15, j, r) = p at ep ⊢
    constructor
    · intro u
      unfold stpS
      rw [if_pos rfl, if_neg (by omega), if_neg (by omega), if_neg (by omega)]
    · intro u
      refine ⟨(16, j + 1, r), ?_, (show (16 : Int) ≠ 50 by decide), ?_⟩
      · unfold stpS
        rw [if_pos rfl, if_neg (by omega), if_pos (by omega)]
      · unfold sgH
        rw [if_neg (by omega)]
        exact ⟨up_at, (up_nk (by decide)).trans up_at, (q3.no hd).no hd⟩
  · subst e
    have hw : wnS 16 = 7 := rfl
    have ep : clP (16, j, r) = 17 := rfl
    rw [ep]
    refine ⟨fun _ => ?_, fun u => absurd u (by omega)⟩
    unfold stpS
    rw [if_neg (by decide), if_neg (by rw [hw]; omega)]
  · subst e
    have hw : wnS 17 = 40 := rfl
    have ep : clP (17, j, r) = 18 := rfl
    rw [ep]
    refine ⟨fun _ => ?_, fun u => absurd u (by omega)⟩
    unfold stpS
    rw [if_neg (by decide), if_neg (by rw [hw]; omega)]
  · subst e
    have hw : wnS 18 = 8 := rfl
    have ep : clP (18, j, r) = 19 := rfl
    rw [ep]
    refine ⟨fun _ => ?_, fun u => absurd u (by omega)⟩
    unfold stpS
    rw [if_neg (by decide), if_neg (by rw [hw]; omega)]
  · subst e
    have hw : wnS 19 = 40 := rfl
    have ep : clP (19, j, r) = 20 := rfl
    rw [ep]
    refine ⟨fun _ => ?_, fun u => absurd u (by omega)⟩
    unfold stpS
    rw [if_neg (by decide), if_neg (by rw [hw]; omega)]
  · subst e
    have hw : wnS 20 = 31 := rfl
    have ep : clP (20, j, r) = 21 := rfl
    rw [ep]
    constructor
    · intro u
      unfold stpS
      rw [if_neg (by decide), if_neg (by rw [hw]; omega)]
    · intro u
      refine ⟨(9, j, r), ?_, (show (9 : Int) ≠ 50 by decide), ?_⟩
      · unfold stpS
        rw [if_neg (by decide), if_pos ⟨by rw [hw]; omega, fun w => absurd w (by decide)⟩]
        rfl
      · rw [show sgH J 21 j = upI J 35 9 9 from if_pos (by decide)]
        exact ⟨up_at, (up_nk (by decide)).trans q2, q3.no hd⟩
/-- a wrong token, and the end -/
theorem br_x {σ : Nat → Int → Int} {at_ j v : Int} {r : Int → Int} : stpS σ at_ j r 99 v = none := by
  have := wn_b (x := at_)
  unfold stpS
  by_cases c : at_ = 15
  · rw [if_pos c, if_neg (by omega), if_neg (by omega), if_neg (by omega)]
  · rw [if_neg c, if_neg (by omega)]
theorem br_e {σ : Nat → Int → Int} {at_ j v : Int} {r : Int → Int} (h50 : at_ ≠ 50) (h20 : at_ ≤ 20) : (¬ (clP (at_, j, r) = 15 ∨ clP (at_, j, r) = 16) → stpS σ at_ j r 50 v = none) ∧ ((clP (at_, j, r) = 15 ∨ clP (at_, j, r) = 16) → stpS σ at_ j r 50 v = some (50, j, r)) := by
  have := wn_b (x := at_)
  unfold stpS
  by_cases c : at_ = 15
  · rw [if_pos c, if_neg (by omega), if_neg (by omega), if_pos rfl]
    refine ⟨fun u => ?_, fun _ => rfl⟩
    exfalso
    apply u
    unfold clP
    dsimp only
    rw [if_pos c]
    split <;> omega
  · rw [if_neg c, if_neg (by omega)]
    refine ⟨fun _ => rfl, fun u => ?_⟩
    exfalso
    unfold clP at u
    dsimp only at u
    rw [if_neg c] at u
    split at u <;> omega
/-- what can stand -/
theorem br_cs {σ : Nat → Int → Int} {at_ j : Int} {r : Int → Int} (hW : RWF σ (at_, j, r)) (h50 : at_ ≠ 50) : caS at_ j r = (if clP (at_, j, r) = 8 then 4 else if clP (at_, j, r) = 21 then 4 else if clP (at_, j, r) = 15 then 24 + (if j < 2 then 4 else 0) else if clP (at_, j, r) = 16 then 8 + (if j < 2 then 4 else 0) else if npP (clP (at_, j, r)) then 2 else 1) := by
  obtain ⟨w1, w2, -⟩ := hW
  dsimp only at w1 w2
  rcases (show at_ = 0 ∨ at_ = 1 ∨ at_ = 2 ∨ at_ = 3 ∨ at_ = 4 ∨ at_ = 5 ∨ at_ = 6 ∨ at_ = 7 ∨ at_ = 8 ∨ at_ = 9 ∨ at_ = 10 ∨ at_ = 11 ∨ at_ = 12 ∨ at_ = 13 ∨ at_ = 14 ∨ at_ = 15 ∨ at_ = 16 ∨ at_ = 17 ∨ at_ = 18 ∨ at_ = 19 ∨ at_ = 20 from by omega) with e | e | e | e | e | e | e | e | e | e | e | e | e | e | e | e | e | e | e | e | e
  · subst e
    rfl
  · subst e
    rfl
  · subst e
    rfl
  · subst e
    rfl
  · subst e
    rfl
  · subst e
    rfl
  · subst e
    rfl
  · subst e
    rfl
  · subst e
    rfl
  · subst e
    rfl
  · subst e
    rfl
  · subst e
    rfl
  · subst e
    rfl
  · subst e
    rfl
  · subst e
    rfl
  · subst e
    unfold caS clP
    dsimp only
    rw [if_pos rfl, if_pos rfl]
    by_cases c : r (5 + 6 * j + 3) = 1
    · rw [if_pos c, if_pos c, if_neg (show ¬ (16 : Int) = 8 by decide), if_neg (show ¬ (16 : Int) = 21 by decide), if_neg (show ¬ (16 : Int) = 15 by decide), if_pos (show (16 : Int) = 16 from rfl)]
      split <;> omega
    · rw [if_neg c, if_neg c, if_neg (show ¬ (15 : Int) = 8 by decide), if_neg (show ¬ (15 : Int) = 21 by decide), if_pos (show (15 : Int) = 15 from rfl)]
      split <;> omega
  · subst e
    rfl
  · subst e
    rfl
  · subst e
    rfl
  · subst e
    rfl
  · subst e
    rfl
