/-! cells -/
theorem mRel.at {E : mE} {h : mH} {H : Heap} (hh : mRel E h H) {a c : Nat} (ha : (h.1.2.2 a).1 = c) (hc : c < 27) : a ≠ 0 ∧ 16 ≤ a ∧ (h.1.2.2 a).2 < 2147483648 ∧ (mws E h)[a - 16]? = some (mra E a, mce E h a) := by
  obtain ⟨⟨-, h1⟩, -⟩ := hh
  obtain ⟨q1, q2, q3⟩ := h1 a (by rw [ha]; exact hc)
  exact ⟨by omega, q1, q3, mws_at q1 q2⟩
theorem mce_o {E : mE} {h : mH} {a c : Nat} (ha : (h.1.2.2 a).1 = c) (hc : c < 11) : mce E h a = .inr (c, mfs E h c a) := by
  unfold mce
  rw [ha, if_pos hc]
theorem mce_i {E : mE} {h : mH} {a c : Nat} (ha : (h.1.2.2 a).1 = c) (h1 : ¬ c < 11) (hc : c < 22) : mce E h a = .inl (mcA E (c - 20), (h.1.2.2 a).2, .inl (fun j => Int32.ofInt (h.2.1 a j))) := by
  unfold mce
  rw [ha, if_neg h1, if_pos hc]
theorem mce_l {E : mE} {h : mH} {a : Nat} (ha : (h.1.2.2 a).1 = 22) : mce E h a = .inl (mcA E 2, (h.1.2.2 a).2, .inr (.inl (fun j => Int64.ofInt (h.2.1 a j)))) := by
  unfold mce
  rw [ha]
  rfl
theorem mce_r {E : mE} {h : mH} {a c : Nat} (ha : (h.1.2.2 a).1 = c) (hc : 22 < c) : mce E h a = .inl (mcA E (c - 20), (h.1.2.2 a).2, .inr (.inr (.inr (.inr (fun j => mro E (h.2.2 a j)))))) := by
  unfold mce
  rw [ha, if_neg (by omega), if_neg (by omega), if_neg (by omega)]
theorem mce_I {E : mE} {h : mH} {a a' : Nat} {k z : Int} (ha : a' ≠ a) : mce E (h.1, upI h.2.1 a k z, h.2.2) a' = mce E h a' := by
  have e : ∀ j, upI h.2.1 a k z a' j = h.2.1 a' j := fun j => if_neg (fun q => ha q.1)
  unfold mce mfs
  simp only [e]
theorem mce_R {E : mE} {h : mH} {a a' z : Nat} {k : Int} (ha : a' ≠ a) : mce E (h.1, h.2.1, upR h.2.2 a k z) a' = mce E h a' := by
  have e : ∀ j, upR h.2.2 a k z a' j = h.2.2 a' j := fun j => if_neg (fun q => ha q.1)
  unfold mce mfs
  simp only [e]
theorem mfs_at {E : mE} {h : mH} {c a k : Nat} (hk : k < mN c) : (mfs E h c a)[k]? = some (mfv E (tyX c k) (h.2.1 a k) (h.2.2 a k)) := by
  unfold mfs
  rw [List.getElem?_map, List.getElem?_range hk]
  rfl
theorem mfs_len {E : mE} {h : mH} {c a : Nat} : (mfs E h c a).length = mN c := by simp [mfs]
theorem mfs_I {E : mE} {h : mH} {c a k : Nat} {z : Int} : (mfs E h c a).set k (mfv E (tyX c k) z (h.2.2 a k)) = mfs E (h.1, upI h.2.1 a k z, h.2.2) c a := by
  apply List.ext_getElem?
  intro i
  rw [List.getElem?_set, mfs_len]
  by_cases hi : i < mN c
  · rw [mfs_at hi, mfs_at hi]
    by_cases e : k = i
    · subst e
      simp [hi, upI]
    · rw [if_neg e]
      have : ¬ ((i : Int) = (k : Int)) := by omega
      simp [upI, this]
  · rw [List.getElem?_eq_none (l := mfs E h c a) (by rw [mfs_len]; omega), List.getElem?_eq_none (by rw [mfs_len]; omega)]
    by_cases e : k = i
    · rw [if_pos e, if_neg (by omega)]
    · rw [if_neg e]
theorem mfs_R {E : mE} {h : mH} {c a k z : Nat} : (mfs E h c a).set k (mfv E (tyX c k) (h.2.1 a k) z) = mfs E (h.1, h.2.1, upR h.2.2 a k z) c a := by
  apply List.ext_getElem?
  intro i
  rw [List.getElem?_set, mfs_len]
  by_cases hi : i < mN c
  · rw [mfs_at hi, mfs_at hi]
    by_cases e : k = i
    · subst e
      simp [hi, upR]
    · rw [if_neg e]
      have : ¬ ((i : Int) = (k : Int)) := by omega
      simp [upR, this]
  · rw [List.getElem?_eq_none (l := mfs E h c a) (by rw [mfs_len]; omega), List.getElem?_eq_none (by rw [mfs_len]; omega)]
    by_cases e : k = i
    · rw [if_pos e, if_neg (by omega)]
    · rw [if_neg e]
/-- the world behind a write to one cell -/
theorem mRel.wr {E : mE} {h h' : mH} {H H1 : Heap} {a : Nat} (hh : mRel E h H) (hs : h'.1 = h.1) (ha : 16 ≤ a) (hk : ∀ a', a' ≠ a → mce E h' a' = mce E h a') (hP : va_P (mD E) vwCl ((mws E h).set (a - 16) (mra E a, mce E h' a)) H1) : mRel E h' H1 := by
  refine ⟨⟨by rw [hs]; exact hh.1.1, by rw [hs]; exact hh.1.2⟩, ?_⟩
  rw [mws_set hs ha hk] at hP
  exact hP
/-- the class rows of the worlds -/
def mCls (c : Nat) (Cn : String) (T : u_T) (N : Nat) : Prop := vwCl[c]? = some (Cn, T, N) ∧ mN c = N ∧ c < 11 ∧ (∀ w ∈ u_ws Cn T N, w ∈ mTB) ∧ (∀ k, k < N → parseFieldDescriptor (T k).2.2.1 = some (tyX c k)) ∧ (∀ a, a < N → ∀ b, b < N → a ≠ b → (T a).2.1 ≠ (T b).2.1) ∧ (∀ k, k < N → (T k).1 = Cn)
section SN3
variable {MT : Nat → mM} {y : mM} {P : Nat × Nat → Nat × Nat → Prop} {G : mE → State → Prop} {pc n : Nat}
theorem sn_getI {ci k idx N : Nat} {Cn : String} {T : u_T} (hc : mCls ci Cn T N) (hk : k < N) (hw : Cond.fieldLink y.1.cls idx Cn (T k).2.1 (T k).2.2.1 ∈ mTB) (hty : tyX ci k = .int ∨ tyX ci k = .boolean) (hd : decode y.2.1 pc = .ok (.getfield idx, 3)) (hn : pc + 3 = n) : SndT MT y P G pc (o_getI ci k n) := by
  intro E l p e R s m args below meth c Z C d n0 s0 lim Q X hG hR ls st h H
  obtain ⟨a, r, rfl, h0, k9⟩ := H
  intro H locs arr cl sl hh hl hS e1 e2
  subst hn
  obtain ⟨g1, g2, g3, g4, g5, g6, g7⟩ := hc
  obtain ⟨q1, q2, q3, q4⟩ := hh.at h0 (by omega)
  rw [mce_o h0 g3] at q4
  simp only [List.map_cons, vv_ref q1]
  refine va_get (C := Cn) (T := T) (N := N) (ref := Cn) X.1 X.2.1 (fun w hw => X.word hw) g4 X.2.2.2.1 X.2.2.2.2.2.1.1 hh.2 (a - 16) q4 g1 k hk (X.word hw) (by rw [g7 k hk]; exact fun _ h => h) (mfs_at (by rw [g2]; exact hk)) hd ?_
  have k9 := k9 H locs arr cl sl hh hl hS e1 e2
  rcases hty with t | t <;> (rw [t]; exact k9)
theorem sn_getL {ci k idx N : Nat} {Cn : String} {T : u_T} (hc : mCls ci Cn T N) (hk : k < N) (hw : Cond.fieldLink y.1.cls idx Cn (T k).2.1 (T k).2.2.1 ∈ mTB) (hty : tyX ci k = .long) (hd : decode y.2.1 pc = .ok (.getfield idx, 3)) (hn : pc + 3 = n) : SndT MT y P G pc (o_getL ci k n) := by
  intro E l p e R s m args below meth c Z C d n0 s0 lim Q X hG hR ls st h H
  obtain ⟨a, r, rfl, h0, k9⟩ := H
  intro H locs arr cl sl hh hl hS e1 e2
  subst hn
  obtain ⟨g1, g2, g3, g4, g5, g6, g7⟩ := hc
  obtain ⟨q1, q2, q3, q4⟩ := hh.at h0 (by omega)
  rw [mce_o h0 g3] at q4
  simp only [List.map_cons, vv_ref q1]
  refine va_get (C := Cn) (T := T) (N := N) (ref := Cn) X.1 X.2.1 (fun w hw => X.word hw) g4 X.2.2.2.1 X.2.2.2.2.2.1.1 hh.2 (a - 16) q4 g1 k hk (X.word hw) (by rw [g7 k hk]; exact fun _ h => h) (mfs_at (by rw [g2]; exact hk)) hd ?_
  have k9 := k9 H locs arr cl sl hh hl hS e1 e2
  rw [hty]; exact k9
theorem sn_getR {ci k idx N : Nat} {Cn : String} {T : u_T} (hc : mCls ci Cn T N) (hk : k < N) (hw : Cond.fieldLink y.1.cls idx Cn (T k).2.1 (T k).2.2.1 ∈ mTB) (hty : (∃ Cx, tyX ci k = .object Cx) ∨ ∃ Tx, tyX ci k = .array Tx) (hd : decode y.2.1 pc = .ok (.getfield idx, 3)) (hn : pc + 3 = n) : SndT MT y P G pc (o_getR ci k n) := by
  intro E l p e R s m args below meth c Z C d n0 s0 lim Q X hG hR ls st h H
  obtain ⟨a, r, rfl, h0, k9⟩ := H
  intro H locs arr cl sl hh hl hS e1 e2
  subst hn
  obtain ⟨g1, g2, g3, g4, g5, g6, g7⟩ := hc
  obtain ⟨q1, q2, q3, q4⟩ := hh.at h0 (by omega)
  rw [mce_o h0 g3] at q4
  simp only [List.map_cons, vv_ref q1]
  refine va_get (C := Cn) (T := T) (N := N) (ref := Cn) X.1 X.2.1 (fun w hw => X.word hw) g4 X.2.2.2.1 X.2.2.2.2.2.1.1 hh.2 (a - 16) q4 g1 k hk (X.word hw) (by rw [g7 k hk]; exact fun _ h => h) (mfs_at (by rw [g2]; exact hk)) hd ?_
  have k9 := k9 H locs arr cl sl hh hl hS e1 e2
  rcases hty with ⟨w, t⟩ | ⟨w, t⟩ <;> (rw [t]; exact k9)
theorem sn_putI {ci k idx N : Nat} {Cn : String} {T : u_T} (hc : mCls ci Cn T N) (hk : k < N) (hw : Cond.fieldLink y.1.cls idx Cn (T k).2.1 (T k).2.2.1 ∈ mTB) (hfin : (T k).2.2.2 = false) (hty : tyX ci k = .int) (hd : decode y.2.1 pc = .ok (.putfield idx, 3)) (hn : pc + 3 = n) : SndT MT y P G pc (o_putI ci k n) := by
  intro E l p e R s m args below meth c Z C d n0 s0 lim Q X hG hR ls st h H
  obtain ⟨z, a, r, rfl, h0, k9⟩ := H
  intro H locs arr cl sl hh hl hS e1 e2
  subst hn
  obtain ⟨g1, g2, g3, g4, g5, g6, g7⟩ := hc
  obtain ⟨q1, q2, q3, q4⟩ := hh.at h0 (by omega)
  rw [mce_o h0 g3] at q4
  simp only [List.map_cons, vv_ref q1]
  refine va_put (v := .int (Int32.ofInt z)) (ty := .int) (C := Cn) (T := T) (N := N) (ref := Cn) X.1 X.2.1 (fun w hw => X.word hw) g4 (tyX ci) g5 g6 X.2.2.2.1 X.2.2.2.2.2.1.1 hh.2 mws_D hS (a - 16) q4 g1 k hk (X.word hw) (by rw [g7 k hk]; exact fun _ h => h) hfin (by rw [g5 k hk, hty]) rfl rfl (by rw [mfs_len, g2]; exact hk) hd (fun H1 locs1 hP1 hD1 hS1 => ?_)
  have hce : (.inr (ci, (mfs E h ci a).set k (.int (Int32.ofInt z))) : va_E) = mce E (h.1, upI h.2.1 a k z, h.2.2) a := by
    rw [mce_o (h := (h.1, upI h.2.1 a k z, h.2.2)) h0 g3, ← mfs_I]
    rw [hty]; rfl
  rw [hce] at hP1
  exact k9 H1 locs1 arr cl sl (hh.wr (h' := (h.1, upI h.2.1 a k z, h.2.2)) rfl q2 (fun _ q => mce_I q) hP1) hl hS1 e1 e2
theorem sn_putIF {ci k idx N : Nat} {Cn : String} {T : u_T} (hc : mCls ci Cn T N) (hk : k < N) (hw : Cond.fieldLink y.1.cls idx Cn (T k).2.1 (T k).2.2.1 ∈ mTB) (hfin : (T k).2.2.2 = true) (hty : tyX ci k = .int) (hin : y.1.name = "<init>") (how : y.1.cls = Cn) (hd : decode y.2.1 pc = .ok (.putfield idx, 3)) (hn : pc + 3 = n) : SndT MT y P G pc (o_putI ci k n) := by
  intro E l p e R s m args below meth c Z C d n0 s0 lim Q X hG hR ls st h H
  obtain ⟨z, a, r, rfl, h0, k9⟩ := H
  intro H locs arr cl sl hh hl hS e1 e2
  subst hn
  obtain ⟨g1, g2, g3, g4, g5, g6, g7⟩ := hc
  obtain ⟨q1, q2, q3, q4⟩ := hh.at h0 (by omega)
  rw [mce_o h0 g3] at q4
  simp only [List.map_cons, vv_ref q1]
  refine va_putF (v := .int (Int32.ofInt z)) (ty := .int) (C := Cn) (T := T) (N := N) (ref := Cn) X.1 X.2.1 (fun w hw => X.word hw) g4 (tyX ci) g5 g6 X.2.2.2.1 X.2.2.2.2.2.1.1 hh.2 mws_D hS (a - 16) q4 g1 k hk (X.word hw) (by rw [g7 k hk]; exact fun _ h => h) hfin (X.2.2.2.2.2.2.2.2.2.2 hin) (by rw [g7 k hk]; exact how.symm) (by rw [g5 k hk, hty]) rfl rfl (by rw [mfs_len, g2]; exact hk) hd (fun H1 locs1 hP1 hD1 hS1 => ?_)
  have hce : (.inr (ci, (mfs E h ci a).set k (.int (Int32.ofInt z))) : va_E) = mce E (h.1, upI h.2.1 a k z, h.2.2) a := by
    rw [mce_o (h := (h.1, upI h.2.1 a k z, h.2.2)) h0 g3, ← mfs_I]
    rw [hty]; rfl
  rw [hce] at hP1
  exact k9 H1 locs1 arr cl sl (hh.wr (h' := (h.1, upI h.2.1 a k z, h.2.2)) rfl q2 (fun _ q => mce_I q) hP1) hl hS1 e1 e2
theorem sn_putZ {ci k idx N : Nat} {Cn : String} {T : u_T} (hc : mCls ci Cn T N) (hk : k < N) (hw : Cond.fieldLink y.1.cls idx Cn (T k).2.1 (T k).2.2.1 ∈ mTB) (hfin : (T k).2.2.2 = false) (hty : tyX ci k = .boolean) (hd : decode y.2.1 pc = .ok (.putfield idx, 3)) (hn : pc + 3 = n) : SndT MT y P G pc (o_putZ ci k n) := by
  intro E l p e R s m args below meth c Z C d n0 s0 lim Q X hG hR ls st h H
  obtain ⟨z, a, r, rfl, h0, hz, k9⟩ := H
  intro H locs arr cl sl hh hl hS e1 e2
  subst hn
  obtain ⟨g1, g2, g3, g4, g5, g6, g7⟩ := hc
  obtain ⟨q1, q2, q3, q4⟩ := hh.at h0 (by omega)
  rw [mce_o h0 g3] at q4
  simp only [List.map_cons, vv_ref q1]
  refine va_put (v := .int (Int32.ofInt z)) (ty := .boolean) (C := Cn) (T := T) (N := N) (ref := Cn) X.1 X.2.1 (fun w hw => X.word hw) g4 (tyX ci) g5 g6 X.2.2.2.1 X.2.2.2.2.2.1.1 hh.2 mws_D hS (a - 16) q4 g1 k hk (X.word hw) (by rw [g7 k hk]; exact fun _ h => h) hfin (by rw [g5 k hk, hty]) (by rcases hz with e | e <;> (rw [e]; rfl)) (by rcases hz with e | e <;> (rw [e]; decide)) (by rw [mfs_len, g2]; exact hk) hd (fun H1 locs1 hP1 hD1 hS1 => ?_)
  have hce : (.inr (ci, (mfs E h ci a).set k (.int (Int32.ofInt z))) : va_E) = mce E (h.1, upI h.2.1 a k z, h.2.2) a := by
    rw [mce_o (h := (h.1, upI h.2.1 a k z, h.2.2)) h0 g3, ← mfs_I]
    rw [hty]; rfl
  rw [hce] at hP1
  exact k9 H1 locs1 arr cl sl (hh.wr (h' := (h.1, upI h.2.1 a k z, h.2.2)) rfl q2 (fun _ q => mce_I q) hP1) hl hS1 e1 e2
theorem sn_putL {ci k idx N : Nat} {Cn : String} {T : u_T} (hc : mCls ci Cn T N) (hk : k < N) (hw : Cond.fieldLink y.1.cls idx Cn (T k).2.1 (T k).2.2.1 ∈ mTB) (hfin : (T k).2.2.2 = false) (hty : tyX ci k = .long) (hd : decode y.2.1 pc = .ok (.putfield idx, 3)) (hn : pc + 3 = n) : SndT MT y P G pc (o_putL ci k n) := by
  intro E l p e R s m args below meth c Z C d n0 s0 lim Q X hG hR ls st h H
  obtain ⟨z, a, r, rfl, h0, k9⟩ := H
  intro H locs arr cl sl hh hl hS e1 e2
  subst hn
  obtain ⟨g1, g2, g3, g4, g5, g6, g7⟩ := hc
  obtain ⟨q1, q2, q3, q4⟩ := hh.at h0 (by omega)
  rw [mce_o h0 g3] at q4
  simp only [List.map_cons, vv_ref q1]
  refine va_put (v := .long (Int64.ofInt z)) (ty := .long) (C := Cn) (T := T) (N := N) (ref := Cn) X.1 X.2.1 (fun w hw => X.word hw) g4 (tyX ci) g5 g6 X.2.2.2.1 X.2.2.2.2.2.1.1 hh.2 mws_D hS (a - 16) q4 g1 k hk (X.word hw) (by rw [g7 k hk]; exact fun _ h => h) hfin (by rw [g5 k hk, hty]) rfl rfl (by rw [mfs_len, g2]; exact hk) hd (fun H1 locs1 hP1 hD1 hS1 => ?_)
  have hce : (.inr (ci, (mfs E h ci a).set k (.long (Int64.ofInt z))) : va_E) = mce E (h.1, upI h.2.1 a k z, h.2.2) a := by
    rw [mce_o (h := (h.1, upI h.2.1 a k z, h.2.2)) h0 g3, ← mfs_I]
    rw [hty]; rfl
  rw [hce] at hP1
  exact k9 H1 locs1 arr cl sl (hh.wr (h' := (h.1, upI h.2.1 a k z, h.2.2)) rfl q2 (fun _ q => mce_I q) hP1) hl hS1 e1 e2
theorem sn_putR {ci k idx N : Nat} {Cn : String} {T : u_T} (hc : mCls ci Cn T N) (hk : k < N) (hw : Cond.fieldLink y.1.cls idx Cn (T k).2.1 (T k).2.2.1 ∈ mTB) (hfin : (T k).2.2.2 = false) (hty : (∃ Cx, tyX ci k = .object Cx) ∨ ∃ Tx, tyX ci k = .array Tx) (hd : decode y.2.1 pc = .ok (.putfield idx, 3)) (hn : pc + 3 = n) : SndT MT y P G pc (o_putR ci k n) := by
  intro E l p e R s m args below meth c Z C d n0 s0 lim Q X hG hR ls st h H
  obtain ⟨z, a, r, rfl, h0, k9⟩ := H
  intro H locs arr cl sl hh hl hS e1 e2
  subst hn
  obtain ⟨g1, g2, g3, g4, g5, g6, g7⟩ := hc
  obtain ⟨q1, q2, q3, q4⟩ := hh.at h0 (by omega)
  rw [mce_o h0 g3] at q4
  simp only [List.map_cons, vv_ref q1]
  refine va_put (v := va_rf (mro E z)) (ty := tyX ci k) (C := Cn) (T := T) (N := N) (ref := Cn) X.1 X.2.1 (fun w hw => X.word hw) g4 (tyX ci) g5 g6 X.2.2.2.1 X.2.2.2.2.2.1.1 hh.2 mws_D hS (a - 16) q4 g1 k hk (X.word hw) (by rw [g7 k hk]; exact fun _ h => h) hfin (g5 k hk) (by rcases hty with ⟨w, t⟩ | ⟨w, t⟩ <;> rw [t] <;> cases mro E z <;> rfl) (by rcases hty with ⟨w, t⟩ | ⟨w, t⟩ <;> rw [t] <;> cases mro E z <;> rfl) (by rw [mfs_len, g2]; exact hk) hd (fun H1 locs1 hP1 hD1 hS1 => ?_)
  have hce : (.inr (ci, (mfs E h ci a).set k (va_rf (mro E z))) : va_E) = mce E (h.1, h.2.1, upR h.2.2 a k z) a := by
    rw [mce_o (h := (h.1, h.2.1, upR h.2.2 a k z)) h0 g3, ← mfs_R]
    rcases hty with ⟨w, t⟩ | ⟨w, t⟩ <;> rw [t] <;> rfl
  rw [hce] at hP1
  exact k9 H1 locs1 arr cl sl (hh.wr (h' := (h.1, h.2.1, upR h.2.2 a k z)) rfl q2 (fun _ q => mce_R q) hP1) hl hS1 e1 e2
theorem sn_putRF {ci k idx N : Nat} {Cn : String} {T : u_T} (hc : mCls ci Cn T N) (hk : k < N) (hw : Cond.fieldLink y.1.cls idx Cn (T k).2.1 (T k).2.2.1 ∈ mTB) (hfin : (T k).2.2.2 = true) (hty : (∃ Cx, tyX ci k = .object Cx) ∨ ∃ Tx, tyX ci k = .array Tx) (hin : y.1.name = "<init>") (how : y.1.cls = Cn) (hd : decode y.2.1 pc = .ok (.putfield idx, 3)) (hn : pc + 3 = n) : SndT MT y P G pc (o_putR ci k n) := by
  intro E l p e R s m args below meth c Z C d n0 s0 lim Q X hG hR ls st h H
  obtain ⟨z, a, r, rfl, h0, k9⟩ := H
  intro H locs arr cl sl hh hl hS e1 e2
  subst hn
  obtain ⟨g1, g2, g3, g4, g5, g6, g7⟩ := hc
  obtain ⟨q1, q2, q3, q4⟩ := hh.at h0 (by omega)
  rw [mce_o h0 g3] at q4
  simp only [List.map_cons, vv_ref q1]
  refine va_putF (v := va_rf (mro E z)) (ty := tyX ci k) (C := Cn) (T := T) (N := N) (ref := Cn) X.1 X.2.1 (fun w hw => X.word hw) g4 (tyX ci) g5 g6 X.2.2.2.1 X.2.2.2.2.2.1.1 hh.2 mws_D hS (a - 16) q4 g1 k hk (X.word hw) (by rw [g7 k hk]; exact fun _ h => h) hfin (X.2.2.2.2.2.2.2.2.2.2 hin) (by rw [g7 k hk]; exact how.symm) (g5 k hk) (by rcases hty with ⟨w, t⟩ | ⟨w, t⟩ <;> rw [t] <;> cases mro E z <;> rfl) (by rcases hty with ⟨w, t⟩ | ⟨w, t⟩ <;> rw [t] <;> cases mro E z <;> rfl) (by rw [mfs_len, g2]; exact hk) hd (fun H1 locs1 hP1 hD1 hS1 => ?_)
  have hce : (.inr (ci, (mfs E h ci a).set k (va_rf (mro E z))) : va_E) = mce E (h.1, h.2.1, upR h.2.2 a k z) a := by
    rw [mce_o (h := (h.1, h.2.1, upR h.2.2 a k z)) h0 g3, ← mfs_R]
    rcases hty with ⟨w, t⟩ | ⟨w, t⟩ <;> rw [t] <;> rfl
  rw [hce] at hP1
  exact k9 H1 locs1 arr cl sl (hh.wr (h' := (h.1, h.2.1, upR h.2.2 a k z)) rfl q2 (fun _ q => mce_R q) hP1) hl hS1 e1 e2
end SN3
