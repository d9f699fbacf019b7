/-! new cells -/
theorem mSz_of {E : mE} {h : mH} {H : Heap} {s : State} {locs : List Loc} {n0 cl : Nat} (hh : mRel E h H) (hS : va_S (mA E) s.heap H locs) (h16 : 16 ≤ n0) (h0 : mSz E n0 s.heap) (e1 : h.1.1 = n0 + cl) (hle : H.size ≤ s.heap.size + cl) : mSz E h.1.1 H := by
  unfold mSz at h0 ⊢
  have hlow := hS.1
  by_cases c1 : h.1.1 = 16
  · omega
  · have h2 := mws_at (E := E) (h := h) (a := h.1.1 - 1) (by omega) (by omega)
    have h3 := (hh.2 _ _ h2).lt
    have h4 : ¬ (h.1.1 - 1 < 16) := by omega
    simp only [mra, if_neg h4] at h3
    omega
theorem mW_sz {E : mE} {MT : Nat → mM} {y : mM} {d : Nat} {l : Launch} {p : Program} {e : Env} {R : Room} {s : State} {m : MethodId} {args : Array Value} {below : List Frame} {meth : Method} {c : Code} {C : mC} {lim : Nat × Nat} {n0 s0 cl sl : Nat} {h : mH} {H : Heap} {locs : List Loc} {Z : State → Prop} {g : JFrame} (X : mCx E MT y d l p R s m args meth c C lim n0 s0) (hh : mRel E h H) (hS : va_S (mA E) s.heap H locs) (e1 : h.1.1 = n0 + cl) (k : mSz E h.1.1 H → W p l e R s m args below meth c H locs cl sl Z g) : W p l e R s m args below meth c H locs cl sl Z g := by
  intro T hT St
  refine k (mSz_of hh hS X.2.2.2.2.2.2.1.1 X.2.2.2.2.2.2.1.2 e1 ?_) T hT St
  rw [← hT]
  exact St.heapSize
theorem mce_mkC {E : mE} {h : mH} {t n s a' : Nat} (ha : a' < h.1.1) : mce E (mkC h t n s) a' = mce E h a' := by
  have h0 : ¬ a' = h.1.1 := by omega
  have e1 : (mkC h t n s).1.2.2 a' = h.1.2.2 a' := if_neg h0
  have e2 : ∀ j, (mkC h t n s).2.1 a' j = h.2.1 a' j := fun j => if_neg h0
  have e3 : ∀ j, (mkC h t n s).2.2 a' j = h.2.2 a' j := fun j => if_neg h0
  unfold mce mfs
  simp only [e1, e2, e3]
theorem mRel.al {E : mE} {h : mH} {H H1 : Heap} {t n s : Nat} (hh : mRel E h H) (hz : mSz E h.1.1 H) (ht : t < 27) (hn : n < 2147483648) (o1 : ∀ q : Nat, q < H.size → H1[q]? = H[q]?) (hat : va_at (mD E) vwCl (H.size, mce E (mkC h t n s) h.1.1) H1) : mRel E (mkC h t n s) H1 := by
  have h16 := hh.1.1
  refine ⟨⟨by show 16 ≤ h.1.1 + 1; omega, fun a ha => ?_⟩, ?_⟩
  · by_cases c1 : a = h.1.1
    · have e1 : (mkC h t n s).1.2.2 a = (t, n) := if_pos c1
      rw [e1]
      exact ⟨by omega, by show a < h.1.1 + 1; omega, hn⟩
    · have e1 : (mkC h t n s).1.2.2 a = h.1.2.2 a := if_neg c1
      rw [e1] at ha ⊢
      obtain ⟨q1, q2, q3⟩ := hh.1.2 a ha
      exact ⟨q1, by show a < h.1.1 + 1; omega, q3⟩
  · intro k q hk
    unfold mws at hk
    rw [List.getElem?_map] at hk
    have hlen : (mkC h t n s).1.1 - 16 = (h.1.1 - 16) + 1 := by show h.1.1 + 1 - 16 = _; omega
    by_cases c1 : k < (mkC h t n s).1.1 - 16
    · rw [List.getElem?_range c1] at hk
      cases hk
      show va_at (mD E) vwCl (E.1 + k, mce E (mkC h t n s) (16 + k)) H1
      by_cases c2 : k = h.1.1 - 16
      · have e5 : 16 + k = h.1.1 := by omega
        have e6 : E.1 + k = H.size := by rw [hz, c2]
        rw [e5, e6]
        exact hat
      · have c3 : k < h.1.1 - 16 := by omega
        rw [mce_mkC (by omega)]
        have h2 : (mws E h)[k]? = some (E.1 + k, mce E h (16 + k)) := by
          unfold mws
          rw [List.getElem?_map, List.getElem?_range c3]
          rfl
        exact (hh.2 k _ h2).kept (o1 _ (hh.2 k _ h2).lt)
    · rw [List.getElem?_eq_none (by simpa using c1)] at hk
      cases hk
theorem mra_nx {E : mE} {h : mH} {H : Heap} (hh : mRel E h H) (hz : mSz E h.1.1 H) : mra E h.1.1 = H.size := by
  have := hh.1.1
  have h4 : ¬ (h.1.1 < 16) := by omega
  simp only [mra, if_neg h4]
  exact hz.symm
theorem va_S.al {A : Nat → Prop} {H0 H H1 : Heap} {locs : List Loc} (h : va_S A H0 H locs) (z : H1.size = H.size + 1) (o1 : ∀ q : Nat, q < H.size → H1[q]? = H[q]?) : va_S A H0 H1 locs := ⟨Nat.le_trans h.1 (by omega), fun q h1 h2 => (o1 q (Nat.lt_of_lt_of_le h1 h.1)).trans (h.2.1 q h1 h2), h.2.2⟩
theorem mfv_0 (E : mE) (ty : FieldType) : defaultValue ty = mfv E ty 0 0 := by
  cases ty <;> first | rfl | (simp [defaultValue, mfv, mro, va_rf]; done) | (simp [defaultValue, mfv]; done)
section SN5
variable {MT : Nat → mM} {y : mM} {P : Nat × Nat → Nat × Nat → Prop} {G : mE → State → Prop} {pc n : Nat}
theorem sn_new {ci idx N : Nat} {Cn : String} {T : u_T} (hc : mCls ci Cn T N) (hw0 : Cond.classLink y.1.cls idx Cn ∈ mTB) (hw1 : Cond.instantiable Cn N ∈ mTB) (hw2 : Cond.initialized Cn ∈ mTB) (hd : decode y.2.1 pc = .ok (.new idx, 3)) (hn : pc + 3 = n) : SndT MT y P G pc (o_new ci n) := by
  intro E l p e R s m args below meth c Z C d n0 s0 lim Q X hG hR ls st h H
  obtain ⟨r, rfl, h0, h1, k9⟩ := H
  intro H locs arr cl sl hh hl hS e1 e2
  subst hn
  refine mW_sz X hh hS e1 (fun hz => ?_)
  obtain ⟨g1, g2, g3, g4, g5, g6, g7⟩ := hc
  obtain ⟨b1, b2, b3, b4⟩ := X.2.2.2.2.2.2.2.2.1
  have hKn := X.2.2.2.2.2.1.1.1 ci _ g1
  rw [g2] at h1
  refine W.newcK X.1 X.2.1 X.2.2.2.1 (X.word hw0) (X.word hw1) (X.word hw2) rfl hd (by omega) (by omega) hKn.2.1 rfl (fun H1 kC hkC f1 z1 o1 => ?_)
  have hat : va_at (mD E) vwCl (H.size, mce E (mkC h ci 0 (mN ci)) h.1.1) H1 := by
    have et : ((mkC h ci 0 (mN ci)).1.2.2 h.1.1).1 = ci := by show (shN _ _ _ _).1 = ci; simp [shN]
    rw [mce_o et g3]
    refine ⟨_, g1, (u_born (tyX ci) (fun w hw => X.word hw) g4 hKn hkC f1 g5).to (fun k hk => ?_)⟩
    show _ = vp_V (mfs E _ _ _) k
    rw [vp_V, List.getD, mfs_at (by rw [g2]; exact hk)]
    simp only [Option.getD_some, mkC, zeI, zeR, if_true]
    exact mfv_0 E _
  have k9 := k9 H1 locs arr (cl + 1) (sl + N) (hh.al hz (by omega) (by decide) o1 hat) hl (hS.al z1 o1) (by show h.1.1 + 1 = _; omega) (by show h.1.2.1 + mN ci = _; omega)
  have hne : h.1.1 ≠ 0 := by have := hh.1.1; omega
  simp only [List.map_cons, vv_ref hne, mra_nx hh hz] at k9
  exact k9
theorem sn_newa {ci : Nat} {at_ : ArrayType} {ty : FieldType} (hty : newarray.typeOf at_ = ty) (hci : ci = 20 ∧ ty = .int ∨ ci = 21 ∧ ty = .boolean ∨ ci = 22 ∧ ty = .long) (hw : Cond.arrayClass ty ∈ mTB) (hd : decode y.2.1 pc = .ok (.newarray at_, 2)) (hn : pc + 2 = n) : SndT MT y P G pc (o_newa ci n) := by
  intro E l p e R s m args below meth c Z C d n0 s0 lim Q X hG hR ls st h H
  obtain ⟨z, r, rfl, h0, h1, h2, h3, k9⟩ := H
  intro H locs arr cl sl hh hl hS e1 e2
  subst hn
  subst hty
  refine mW_sz X hh hS e1 (fun hz => ?_)
  obtain ⟨b1, b2, b3, b4⟩ := X.2.2.2.2.2.2.2.2.1
  have hcz := i32_clamp h0 (by omega)
  have hpos : ¬ Int32.ofInt z < 0 := fun q => by
    have := (i32_lt (a := z) (b := 0) ⟨by omega, by omega⟩ inR_0).mp q
    omega
  have hby : z.toNat * componentBytes (newarray.typeOf at_) ≤ 536870912 := by
    have : componentBytes (newarray.typeOf at_) ≤ 8 := by rcases hci with q | q | q <;> rw [q.2] <;> decide
    have h5 : z.toNat < 1000000 := by omega
    calc z.toNat * componentBytes (newarray.typeOf at_) ≤ 1000000 * 8 := Nat.mul_le_mul (by omega) this
      _ ≤ 536870912 := by decide
  refine va_newaK X.1 X.2.1 (X.word hw) rfl hd rfl hpos hcz hby (by omega) (by omega) rfl (fun H1 cA f1 z1 o1 hAr hNm => ?_)
  have hat : va_at (mD E) vwCl (H.size, mce E (mkC h ci z.toNat z.toNat) h.1.1) H1 := by
    have et : ((mkC h ci z.toNat z.toNat).1.2.2 h.1.1) = (ci, z.toNat) := by show shN _ _ _ _ = _; simp [shN]
    rcases hci with ⟨q, q2⟩ | ⟨q, q2⟩ | ⟨q, q2⟩
    · have hcc : cA = mcA E 0 := by
        rw [q2] at hNm
        exact Option.some.inj (hNm.symm.trans (X.2.2.2.2.2.1.1.2 0 (mcA E 0, .int) rfl).2)
      rw [q2] at f1
      subst q
      rw [mce_i (c := 20) (by rw [et]) (by decide) (by decide), et]
      show H1[H.size]? = some (vp_cell _ _)
      rw [vp_cell_i, f1, hcc]
      congr 2
      funext j
      simp [mkC, zeI, defaultValue]
    · have hcc : cA = mcA E 1 := by
        rw [q2] at hNm
        exact Option.some.inj (hNm.symm.trans (X.2.2.2.2.2.1.1.2 1 (mcA E 1, .boolean) rfl).2)
      rw [q2] at f1
      subst q
      rw [mce_i (c := 21) (by rw [et]) (by decide) (by decide), et]
      show H1[H.size]? = some (vp_cell _ _)
      rw [vp_cell_i, f1, hcc]
      congr 2
      funext j
      simp [mkC, zeI, defaultValue]
    · have hcc : cA = mcA E 2 := by
        rw [q2] at hNm
        exact Option.some.inj (hNm.symm.trans (X.2.2.2.2.2.1.1.2 2 (mcA E 2, .long) rfl).2)
      rw [q2] at f1
      subst q
      rw [mce_l (by rw [et]), et]
      show H1[H.size]? = some (vp_cell _ _)
      rw [vp_cell_l, f1, hcc]
      congr 2
      funext j
      simp [mkC, zeI, defaultValue]
  have k9 := k9 H1 locs arr (cl + 1) (sl + z.toNat) (hh.al hz (by rcases hci with q | q | q <;> omega) (by omega) o1 hat) hl (hS.al z1 o1) (by show h.1.1 + 1 = _; omega) (by show h.1.2.1 + z.toNat = _; omega)
  have hne : h.1.1 ≠ 0 := by have := hh.1.1; omega
  simp only [List.map_cons, vv_ref hne, mra_nx hh hz] at k9
  exact k9
theorem sn_anew {ci idx : Nat} {Cn : String} (hci : 22 < ci ∧ ci < 26) (ht : ∀ E : mE, (mtys E)[ci - 20]? = some (mcA E (ci - 20), .object Cn)) (hov : ∀ (E : mE) (U : State), mEnv E U → va_AO Cn U) (hw : Cond.classLink y.1.cls idx Cn ∈ mTB) (hd : decode y.2.1 pc = .ok (.anewarray idx, 3)) (hn : pc + 3 = n) : SndT MT y P G pc (o_anew ci n) := by
  intro E l p e R s m args below meth c Z C d n0 s0 lim Q X hG hR ls st h H
  obtain ⟨z, r, rfl, h0, h1, h2, h3, k9⟩ := H
  intro H locs arr cl sl hh hl hS e1 e2
  subst hn
  refine mW_sz X hh hS e1 (fun hz => ?_)
  obtain ⟨b1, b2, b3, b4⟩ := X.2.2.2.2.2.2.2.2.1
  have hcz := i32_clamp h0 (by omega)
  have hpos : ¬ Int32.ofInt z < 0 := fun q => by
    have := (i32_lt (a := z) (b := 0) ⟨by omega, by omega⟩ inR_0).mp q
    omega
  refine W.anew X.1 X.2.1 X.2.2.2.1 (X.word hw) (va_AO.use (hov E s X.2.2.2.2.2.1)) rfl hd rfl hpos (by rw [hcz]; omega) (by omega) (by rw [hcz]; omega) (fun cA kA comp f1 f2 f3 f4 => ?_)
  rw [hcz]
  generalize hH1 : H.push ({ cls := cA, slots := Array.replicate z.toNat .null, vm := .none } : Cell) = H1
  have z1 : H1.size = H.size + 1 := by rw [← hH1, Array.size_push]
  have g1 : H1[H.size]? = some (arrV cA z.toNat (fun _ => .null)) := by rw [← hH1, Array.getElem?_push_size, ← arrV_new]
  have o1 : ∀ q : Nat, q < H.size → H1[q]? = H[q]? := fun q hq => by rw [← hH1, Array.getElem?_push, if_neg (Nat.ne_of_lt hq)]
  have hat : va_at (mD E) vwCl (H.size, mce E (mkC h ci z.toNat z.toNat) h.1.1) H1 := by
    have et : ((mkC h ci z.toNat z.toNat).1.2.2 h.1.1) = (ci, z.toNat) := by show shN _ _ _ _ = _; simp [shN]
    obtain ⟨kA', comp', k1, k2, k3, k4⟩ := (X.2.2.2.2.2.1.1.2 (ci - 20) _ (ht E)).2
    have hcc : cA = mcA E (ci - 20) := Option.some.inj (f1.symm.trans k4)
    rw [mce_r (by rw [et]) hci.1, et]
    show H1[H.size]? = some (vp_cell _ _)
    rw [vp_cell_q, g1, hcc]
    congr 2
    funext j
    simp [mkC, zeR, mro, va_rf]
  have k9 := k9 H1 locs arr (cl + 1) (sl + z.toNat) (hh.al hz (by omega) (by omega) o1 hat) hl (hS.al z1 o1) (by show h.1.1 + 1 = _; omega) (by show h.1.2.1 + z.toNat = _; omega)
  have hne : h.1.1 ≠ 0 := by have := hh.1.1; omega
  simp only [List.map_cons, vv_ref hne, mra_nx hh hz] at k9
  exact k9
end SN5
