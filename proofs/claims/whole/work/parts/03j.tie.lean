/-! the script; arrays of arrays -/
theorem mce_mkM {E : mE} {h : mH} {n k a' : Nat} (ha : a' < h.1.1) : mce E (mkM h n k) a' = mce E h a' := by
  have e1 : (mkM h n k).1.2.2 a' = h.1.2.2 a' := by
    show (if a' = h.1.1 then _ else if h.1.1 < a' ∧ _ then _ else _) = _
    rw [if_neg (by omega), if_neg (by omega)]
  have e2 : ∀ j, (mkM h n k).2.1 a' j = h.2.1 a' j := fun j => if_neg (by omega)
  have e3 : ∀ j, (mkM h n k).2.2 a' j = h.2.2 a' j := fun j => by
    show (if a' = h.1.1 then _ else if h.1.1 < a' ∧ _ then _ else _) = _
    rw [if_neg (by omega), if_neg (by omega)]
  unfold mce mfs
  simp only [e1, e2, e3]
theorem mRel.alM {E : mE} {h : mH} {H H1 : Heap} {n k : Nat} (hh : mRel E h H) (hz : mSz E h.1.1 H) (hn : n < 2147483648) (hk : k < 2147483648) (o1 : ∀ q : Nat, q < H.size → H1[q]? = H[q]?) (hat : va_at (mD E) vwCl (H.size, mce E (mkM h n k) h.1.1) H1) (hrow : ∀ j, j < n → va_at (mD E) vwCl (H.size + 1 + j, mce E (mkM h n k) (h.1.1 + 1 + j)) H1) : mRel E (mkM h n k) H1 := by
  have h16 := hh.1.1
  refine ⟨⟨by show 16 ≤ h.1.1 + 1 + n; omega, fun a ha => ?_⟩, ?_⟩
  · by_cases c1 : a = h.1.1
    · have e1 : (mkM h n k).1.2.2 a = (26, n) := if_pos c1
      rw [e1]
      exact ⟨by omega, by show a < h.1.1 + 1 + n; omega, hn⟩
    · by_cases c2 : h.1.1 < a ∧ a < h.1.1 + 1 + n
      · have e1 : (mkM h n k).1.2.2 a = (20, k) := by
          show (if a = h.1.1 then _ else if h.1.1 < a ∧ _ then _ else _) = _
          rw [if_neg c1, if_pos c2]
        rw [e1]
        exact ⟨by omega, by show a < h.1.1 + 1 + n; omega, hk⟩
      · have e1 : (mkM h n k).1.2.2 a = h.1.2.2 a := by
          show (if a = h.1.1 then _ else if h.1.1 < a ∧ _ then _ else _) = _
          rw [if_neg c1, if_neg c2]
        rw [e1] at ha ⊢
        obtain ⟨q1, q2, q3⟩ := hh.1.2 a ha
        exact ⟨q1, by show a < h.1.1 + 1 + n; omega, q3⟩
  · intro i q hi
    unfold mws at hi
    rw [List.getElem?_map] at hi
    have hlen : (mkM h n k).1.1 - 16 = (h.1.1 - 16) + (1 + n) := by show h.1.1 + 1 + n - 16 = _; omega
    have hz' : H.size = E.1 + (h.1.1 - 16) := hz
    by_cases c1 : i < (mkM h n k).1.1 - 16
    · rw [List.getElem?_range c1] at hi
      cases hi
      show va_at (mD E) vwCl (E.1 + i, mce E (mkM h n k) (16 + i)) H1
      by_cases c2 : i = h.1.1 - 16
      · have e5 : 16 + i = h.1.1 := by omega
        have e6 : E.1 + i = H.size := by omega
        rw [e5, e6]
        exact hat
      · by_cases c3 : i < h.1.1 - 16
        · rw [mce_mkM (by omega)]
          have h2 : (mws E h)[i]? = some (E.1 + i, mce E h (16 + i)) := by
            unfold mws
            rw [List.getElem?_map, List.getElem?_range c3]
            rfl
          exact (hh.2 i _ h2).kept (o1 _ (hh.2 i _ h2).lt)
        · have e5 : 16 + i = h.1.1 + 1 + (i - (h.1.1 - 16) - 1) := by omega
          have e6 : E.1 + i = H.size + 1 + (i - (h.1.1 - 16) - 1) := by omega
          rw [e5, e6]
          exact hrow _ (by omega)
    · rw [List.getElem?_eq_none (by simpa using c1)] at hi
      cases hi
theorem vr_outer (c : ClassId) (N h0 : Nat) : ∀ i : Nat, Jvm.Free.Multi.outerC c N h0 i = arrV c N (fun j => va_rf (if j < i then some (h0 + 1 + j) else none))
  | 0 => by
    show ({ cls := c, slots := Array.replicate N .null, vm := .none } : Cell) = _
    rw [arrV_new]
    refine congrArg (arrV c N) (funext fun j => ?_)
    simp [va_rf]
  | i + 1 => by
    show (Jvm.Free.Multi.outerC c N h0 i).setSlot i (.ref (h0 + 1 + i)) = _
    rw [vr_outer c N h0 i, arrV_store]
    refine congrArg (arrV c N) (funext fun j => ?_)
    by_cases e : j = i
    · subst e
      simp [updV, va_rf]
    · by_cases h : j < i
      · simp [updV, e, h, Nat.lt_succ_of_lt h]
      · simp [updV, e, h, show ¬ j < i + 1 by omega]
theorem arrV_ext {c : ClassId} {N : Nat} {f g : Nat → Value} (h : ∀ j, j < N → f j = g j) : arrV c N f = arrV c N g := by
  unfold arrV
  congr 1
  apply Array.ext
  · simp
  · intro i h1 h2
    simp at h1
    simp [h i h1]
section SN8
variable {MT : Nat → mM} {y : mM} {P : Nat × Nat → Nat × Nat → Prop} {G : mE → State → Prop} {pc n : Nat}
def mScr (L : Nat) (xs : Nat → Int32) (E : mE) (s : State) : Prop := va_X E.2.1 L xs s s.heap ∧ E.2.1 < s.heap.size ∧ E.2.1 < E.1 ∧ L ≤ 3584
theorem sn_sld {L : Nat} {xs : Nat → Int32} (hd : decode y.2.1 pc = .ok (.iaload, 1)) (hn : pc + 1 = n) : SndT MT y P (mScr L xs) pc (o_sld xs L n) := by
  intro E l p e R s m args below meth c Z C d n0 s0 lim Q X hG hR ls st h H
  obtain ⟨i, r, rfl, h0, h1, k9⟩ := H
  intro H locs arr cl sl hh hl hS e1 e2
  subst hn
  obtain ⟨x1, x2, x3, x4⟩ := hG
  have e : vv E (vr 1) = .ref E.2.1 := rfl
  simp only [List.map_cons, e]
  refine va_sld X.1 X.2.1 x1 x2 (A := mA E) (by show ¬ E.1 ≤ E.2.1; omega) hS (i32_in h0 h1 (by omega)) hd ?_
  rw [i32_clamp h0 (by omega)]
  have k9 := k9 H locs arr cl sl hh hl hS e1 e2
  simp only [List.map_cons, vv, Int32.ofInt_toInt] at k9
  exact k9
theorem sn_slen {L : Nat} {xs : Nat → Int32} (hd : decode y.2.1 pc = .ok (.arraylength, 1)) (hn : pc + 1 = n) : SndT MT y P (mScr L xs) pc (o_slen L n) := by
  intro E l p e R s m args below meth c Z C d n0 s0 lim Q X hG hR ls st h H
  obtain ⟨r, rfl, k9⟩ := H
  intro H locs arr cl sl hh hl hS e1 e2
  subst hn
  obtain ⟨x1, x2, x3, x4⟩ := hG
  have e : vv E (vr 1) = .ref E.2.1 := rfl
  simp only [List.map_cons, e]
  refine va_slen X.1 X.2.1 x1 x2 (A := mA E) (by show ¬ E.1 ≤ E.2.1; omega) hS hd ?_
  have k9 := k9 H locs arr cl sl hh hl hS e1 e2
  simp only [List.map_cons, vv, Int32.ofInt_eq_ofNat] at k9
  exact k9
theorem sn_mna {idx : Nat} (hw0 : Cond.classLink y.1.cls idx ("[" ++ (FieldType.array .int).toString) ∈ mTB) (hw1 : Cond.arrayClass .int ∈ mTB) (hd : decode y.2.1 pc = .ok (.multianewarray idx 2, 4)) (hn : pc + 4 = n) : SndT MT y P G pc (o_mna n) := by
  intro E l p e R s m args below meth c Z C d n0 s0 lim Q X hG hR ls st h H
  obtain ⟨k, z, r, rfl, h0, h1, h2, h3, h4, h5, k9⟩ := H
  intro H locs arr cl sl hh hl hS e1 e2
  subst hn
  refine mW_sz X hh hS e1 (fun hz => ?_)
  obtain ⟨b1, b2, b3, b4⟩ := X.2.2.2.2.2.2.2.2.1
  have cz := i32_clamp h0 (by omega)
  have ck := i32_clamp h2 (by omega)
  have pos : ∀ {i : Int}, 0 ≤ i → i < 2147483648 → ¬ Int32.ofInt i < 0 := fun {i} u v q => by
    have := (i32_lt (a := i) (b := 0) ⟨by omega, v⟩ inR_0).mp q
    omega
  intro T hT Xs
  have hby : componentBytes .int = 4 := rfl
  obtain ⟨vm₁, cA, comp, -, fA, fC, hO, -, X', step⟩ := Xs.multianewarray2F X.1 X.2.2.2.1 (X.word hw0) (va_AOA.use X.2.2.2.2.2.1.2.2.2.2.2.2.2.2.2.2.1) (X.word hw1) (g := F0 m pc arr ((vi k :: vi z :: r).map (vv E))) rfl (by rw [X.2.1]; exact hd) rfl (pos h0 (by omega)) (pos h2 (by omega)) (by rw [cz]; omega) (by rw [ck, hby]; omega) (by rw [ck]; omega) rfl rfl (by rw [cz]; omega) (by rw [cz, ck]; omega)
  rw [cz, ck] at X' step
  generalize hF : Jvm.Free.Multi.fill (T.setVm vm₁) cA comp z.toNat k.toNat (defaultValue .int) z.toNat = F at X' step
  have hTh : (T.setVm vm₁).heap = H := hT
  obtain ⟨f1, f2, -, -⟩ := Jvm.Free.Multi.fill_facts (T.setVm vm₁) cA comp z.toNat k.toNat (defaultValue .int) z.toNat
  rw [hF, hTh] at f1 f2
  have hold : ∀ x : Nat, x < H.size → F.heap[x]? = H[x]? := fun x hx => by
    have := Jvm.Free.Multi.fill_old (T.setVm vm₁) cA comp z.toNat k.toNat (defaultValue .int) (a := x) (by rw [hTh]; exact hx) z.toNat
    rw [hF, hTh] at this
    exact this
  have hrow : ∀ j : Nat, j < z.toNat → F.heap[H.size + 1 + j]? = some (arrV comp k.toNat (fun _ => .int 0)) := fun j hj => by
    have := Jvm.Free.Multi.fill_inner (T.setVm vm₁) cA comp z.toNat k.toNat (defaultValue .int) z.toNat j hj
    rw [hF, hTh] at this
    rw [this, ← arrV_new]
    rfl
  rw [vr_outer] at f2
  have hc0 : comp = mcA E 0 := Option.some.inj (fC.symm.trans (X.2.2.2.2.2.1.1.2 0 (mcA E 0, .int) rfl).2)
  have hc6 : cA = mcA E 6 := Option.some.inj (fA.symm.trans (X.2.2.2.2.2.1.1.2 6 (mcA E 6, .array .int) rfl).2)
  have h16 := hh.1.1
  have et : (mkM h z.toNat k.toNat).1.2.2 h.1.1 = (26, z.toNat) := if_pos rfl
  have hat : va_at (mD E) vwCl (H.size, mce E (mkM h z.toNat k.toNat) h.1.1) F.heap := by
    rw [mce_r (c := 26) (by rw [et]) (by decide), et]
    show F.heap[H.size]? = some (vp_cell _ _)
    rw [vp_cell_q, f2, hc6]
    refine congrArg some (arrV_ext fun j hj => ?_)
    have e8 : (mkM h z.toNat k.toNat).2.2 h.1.1 (j : Int) = h.1.1 + 1 + j := by
      show (if h.1.1 = h.1.1 then (if 0 ≤ (j : Int) ∧ (j : Int) < (z.toNat : Nat) then h.1.1 + 1 + (j : Int).toNat else 0) else _) = _
      rw [if_pos rfl, if_pos (by omega)]
      simp
    rw [if_pos hj, e8]
    have h4 : ¬ (h.1.1 + 1 + j < 16) := by omega
    have h5 : ¬ (h.1.1 + 1 + j = 0) := by omega
    have hz' : H.size = E.1 + (h.1.1 - 16) := hz
    simp only [mro, mra, if_neg h4, if_neg h5]
    congr 2
    omega
  have hin : ∀ j, j < z.toNat → va_at (mD E) vwCl (H.size + 1 + j, mce E (mkM h z.toNat k.toNat) (h.1.1 + 1 + j)) F.heap := fun j hj => by
    have et2 : (mkM h z.toNat k.toNat).1.2.2 (h.1.1 + 1 + j) = (20, k.toNat) := by
      show (if h.1.1 + 1 + j = h.1.1 then _ else if h.1.1 < h.1.1 + 1 + j ∧ _ then _ else _) = _
      rw [if_neg (by omega), if_pos (by omega)]
    rw [mce_i (c := 20) (by rw [et2]) (by decide) (by decide), et2]
    show F.heap[H.size + 1 + j]? = some (vp_cell _ _)
    rw [vp_cell_i, hrow j hj, hc0]
    refine congrArg some (arrV_ext fun i hi => ?_)
    have e8 : (mkM h z.toNat k.toNat).2.1 (h.1.1 + 1 + j) (i : Int) = 0 := if_pos (by omega)
    rw [e8]
    rfl
  have hrel := hh.alM hz (by omega) (by omega) hold hat hin
  obtain ⟨t, a1, b1'⟩ := k9 F.heap locs arr (cl + 1 + z.toNat) (sl + z.toNat + z.toNat * k.toNat) hrel hl ⟨Nat.le_trans hS.1 (by omega), fun q q1 q2 => (hold q (Nat.lt_of_lt_of_le q1 hS.1)).trans (hS.2.1 q q1 q2), hS.2.2⟩ (by show h.1.1 + 1 + z.toNat = _; omega) (by show h.1.2.1 + (z.toNat + z.toNat * k.toNat) = _; omega) F rfl X'
  have hne : h.1.1 ≠ 0 := by omega
  simp only [List.map_cons, vv_ref hne, mra_nx hh hz] at a1
  rw [← hT] at a1
  exact ⟨t, step t a1, b1'⟩
end SN8
