/-! the law: the loop -/
theorem zand63 {v : Int} : 0 ≤ zand v 63 ∧ zand v 63 ≤ 63 := by
  have q : (Int32.ofInt v).toBitVec.toNat &&& 63 ≤ 63 := Nat.and_le_right
  have h : (zand v 63) = (((Int32.ofInt v).toBitVec.toNat &&& 63 : Nat) : Int) := t32n (by
    rw [Int32.toBitVec_and, show (Int32.ofInt 63).toBitVec = BitVec.ofNat 32 63 from rfl]
    apply BitVec.eq_of_toNat_eq
    rw [BitVec.toNat_and, b32 (by omega), b32 (by omega)]) (by omega)
  rw [h]
  omega
theorem swt_hi {a : Int} {t : List Nat} {d : Nat} (h : (t.length : Int) ≤ a) : swt a 0 t d = d := by
  unfold swt
  rw [if_neg (by omega), List.getD_eq_getElem?_getD, List.getElem?_eq_none (by omega)]
  rfl
set_option maxRecDepth 20000 in
theorem lpL1 {xs : Nat → Int32} {L : Nat} {I σ : Nat → Int → Int} {P : Int → Nat} {dr g : Nat} (hL : L ≤ 3584) (hI : InvL I σ P dr g) (ih : ∀ (J σ : Nat → Int → Int) (P : Int → Nat) (dr : Nat), g < 512 → InvL J σ P dr (g + 1) → wp (mcall MT CD 100) (cM xs L) limL QL 18 [vr 1, vr 16, vr 127, vi (7 * ((g + 1 : Nat) : Int))] [] (S0, J, RR P dr)) (hg : g ≤ 512) : wp (mcall MT CD 100) (cM xs L) limL QL 18 [vr 1, vr 16, vr 127, vi (7 * (g : Int))] [] (S0, I, RR P dr) := by
  refine s_ild (cn rfl kL_18) rfl ?_
  refine s_ald (cn rfl kL_19) rfl ?_
  refine s_slen (cn rfl kL_20) ?_
  refine s_push (cn rfl kL_21) ?_
  refine s_isub (cn rfl kL_23) ?_
  refine s_icgt (cn rfl kL_24) ⟨by omega, by omega⟩ ⟨by omega, by omega⟩ (fun _ => ?_) (fun q => ?_)
  · refine s_push (cn rfl kL_1201) ?_
    exact s_end (cn rfl kL_1202) (Or.inr rfl) ⟨rfl, Nat.le_of_ble_eq_true rfl, Nat.le_of_ble_eq_true rfl⟩
  · have ih2 : ∀ (J σ : Nat → Int → Int) (P : Int → Nat) (dr : Nat), InvL J σ P dr (g + 1) → wp (mcall MT CD 100) (cM xs L) limL QL 1195 [vr 1, vr 16, vr 127, vi (7 * (g : Int))] [] (S0, J, RR P dr) := fun J σ P dr h => by
      refine s_iinc3 (cn rfl kL_1195) rfl ?_
      refine s_goto (cn rfl kL_1198) ?_
      rw [show 7 * (g : Int) + 7 = 7 * ((g + 1 : Nat) : Int) by omega]
      exact ih J σ P dr (by omega) h
    refine s_ald (cn rfl kL_27) rfl ?_
    refine s_ild (cn rfl kL_28) rfl ?_
    refine s_sld (cn rfl kL_29) (by omega) (by omega) ?_
    refine s_push (cn rfl kL_30) ?_
    refine s_iand (cn rfl kL_32) ?_
    generalize (xs (7 * (g : Int)).toNat).toInt = v
    have hz := zand63 (v := v)
    generalize zand v 63 = a at hz ⊢
    have i0 : 0 ≤ 7 * (g : Int) := by omega
    have i1 : 7 * (g : Int) + 7 ≤ L := by omega
    have hg1 : g + 1 < 1000 := by omega
    have hc : a = 0 ∨ a = 1 ∨ a = 2 ∨ a = 3 ∨ a = 4 ∨ a = 5 ∨ a = 6 ∨ a = 7 ∨ a = 8 ∨ a = 9 ∨ a = 10 ∨ a = 11 ∨ a = 12 ∨ a = 13 ∨ a = 14 ∨ a = 15 ∨ a = 16 ∨ a = 17 ∨ a = 18 ∨ a = 19 ∨ a = 20 ∨ a = 21 ∨ a = 22 ∨ a = 23 ∨ a = 24 ∨ a = 25 ∨ a = 26 ∨ a = 27 ∨ a = 28 ∨ a = 29 ∨ a = 30 ∨ a = 31 ∨ a = 32 ∨ a = 33 ∨ a = 34 ∨ 35 ≤ a := by omega
    rcases hc with rfl | rfl | rfl | rfl | rfl | rfl | rfl | rfl | rfl | rfl | rfl | rfl | rfl | rfl | rfl | rfl | rfl | rfl | rfl | rfl | rfl | rfl | rfl | rfl | rfl | rfl | rfl | rfl | rfl | rfl | rfl | rfl | rfl | rfl | rfl | hc
    · exact s_tsw (cn rfl kL_33) ⟨by decide, by decide⟩ rfl (opL_0 i0 i1 hg1 hI ih2)
    · exact s_tsw (cn rfl kL_33) ⟨by decide, by decide⟩ rfl (opL_1 i0 i1 hg1 hI ih2)
    · exact s_tsw (cn rfl kL_33) ⟨by decide, by decide⟩ rfl (opL_2 i0 i1 hg1 hI ih2)
    · exact s_tsw (cn rfl kL_33) ⟨by decide, by decide⟩ rfl (opL_3 i0 i1 hg1 hI ih2)
    · exact s_tsw (cn rfl kL_33) ⟨by decide, by decide⟩ rfl (opL_4 i0 i1 hg1 hI ih2)
    · exact s_tsw (cn rfl kL_33) ⟨by decide, by decide⟩ rfl (opL_5 i0 i1 hg1 hI ih2)
    · exact s_tsw (cn rfl kL_33) ⟨by decide, by decide⟩ rfl (opL_6 i0 i1 hg1 hI ih2)
    · exact s_tsw (cn rfl kL_33) ⟨by decide, by decide⟩ rfl (opL_7 i0 i1 hg1 hI ih2)
    · exact s_tsw (cn rfl kL_33) ⟨by decide, by decide⟩ rfl (opL_8 i0 i1 hg1 hI ih2)
    · exact s_tsw (cn rfl kL_33) ⟨by decide, by decide⟩ rfl (opL_9 i0 i1 hg1 hI ih2)
    · exact s_tsw (cn rfl kL_33) ⟨by decide, by decide⟩ rfl (opL_10 i0 i1 hg1 hI ih2)
    · exact s_tsw (cn rfl kL_33) ⟨by decide, by decide⟩ rfl (opL_11 i0 i1 hg1 hI ih2)
    · exact s_tsw (cn rfl kL_33) ⟨by decide, by decide⟩ rfl (opL_12 i0 i1 hg1 hI ih2)
    · exact s_tsw (cn rfl kL_33) ⟨by decide, by decide⟩ rfl (opL_13 i0 i1 hg1 hI ih2)
    · exact s_tsw (cn rfl kL_33) ⟨by decide, by decide⟩ rfl (opL_14 i0 i1 hg1 hI ih2)
    · exact s_tsw (cn rfl kL_33) ⟨by decide, by decide⟩ rfl (opL_15 i0 i1 hg1 hI ih2)
    · exact s_tsw (cn rfl kL_33) ⟨by decide, by decide⟩ rfl (opL_16 i0 i1 hg1 hI ih2)
    · exact s_tsw (cn rfl kL_33) ⟨by decide, by decide⟩ rfl (opL_17 i0 i1 hg1 hI ih2)
    · exact s_tsw (cn rfl kL_33) ⟨by decide, by decide⟩ rfl (opL_18 i0 i1 hg1 hI ih2)
    · exact s_tsw (cn rfl kL_33) ⟨by decide, by decide⟩ rfl (opL_19 i0 i1 hg1 hI ih2)
    · exact s_tsw (cn rfl kL_33) ⟨by decide, by decide⟩ rfl (opL_20 i0 i1 hg1 hI ih2)
    · exact s_tsw (cn rfl kL_33) ⟨by decide, by decide⟩ rfl (opL_21 i0 i1 hg1 hI ih2)
    · exact s_tsw (cn rfl kL_33) ⟨by decide, by decide⟩ rfl (opL_22 i0 i1 hg1 hI ih2)
    · exact s_tsw (cn rfl kL_33) ⟨by decide, by decide⟩ rfl (opL_23 i0 i1 hg1 hI ih2)
    · exact s_tsw (cn rfl kL_33) ⟨by decide, by decide⟩ rfl (opL_24 i0 i1 hg1 hI ih2)
    · exact s_tsw (cn rfl kL_33) ⟨by decide, by decide⟩ rfl (opL_25 i0 i1 hg1 hI ih2)
    · exact s_tsw (cn rfl kL_33) ⟨by decide, by decide⟩ rfl (opL_26 i0 i1 hg1 hI ih2)
    · exact s_tsw (cn rfl kL_33) ⟨by decide, by decide⟩ rfl (opL_27 i0 i1 hg1 hI ih2)
    · exact s_tsw (cn rfl kL_33) ⟨by decide, by decide⟩ rfl (opL_28 i0 i1 hg1 hI ih2)
    · exact s_tsw (cn rfl kL_33) ⟨by decide, by decide⟩ rfl (opL_29 i0 i1 hg1 hI ih2)
    · exact s_tsw (cn rfl kL_33) ⟨by decide, by decide⟩ rfl (opL_30 i0 i1 hg1 hI ih2)
    · exact s_tsw (cn rfl kL_33) ⟨by decide, by decide⟩ rfl (opL_31 i0 i1 hg1 hI ih2)
    · exact s_tsw (cn rfl kL_33) ⟨by decide, by decide⟩ rfl (opL_32 i0 i1 hg1 hI ih2)
    · exact s_tsw (cn rfl kL_33) ⟨by decide, by decide⟩ rfl (opL_33 i0 i1 hg1 hI ih2)
    · exact s_tsw (cn rfl kL_33) ⟨by decide, by decide⟩ rfl (opL_34 i0 i1 hg1 hI ih2)
    · exact s_tsw (cn rfl kL_33) ⟨by omega, by omega⟩ (swt_hi hc) (ih2 I σ P dr ⟨hI.1, hI.2.1, hI.2.2.1, hI.2.2.2.up (Nat.le_succ _)⟩)
theorem lpL2 {xs : Nat → Int32} {L : Nat} (hL : L ≤ 3584) : ∀ (f g : Nat) (I σ : Nat → Int → Int) (P : Int → Nat) (dr : Nat), g + f = 512 → InvL I σ P dr g → wp (mcall MT CD 100) (cM xs L) limL QL 18 [vr 1, vr 16, vr 127, vi (7 * (g : Int))] [] (S0, I, RR P dr)
  | 0, g, I, σ, P, dr, hf, hI => lpL1 hL hI (fun _ _ _ _ q _ => absurd q (by omega)) (by omega)
  | f + 1, g, I, σ, P, dr, hf, hI => lpL1 hL hI (fun J σ P dr _ h => lpL2 hL f (g + 1) J σ P dr (by omega) h) (by omega)
