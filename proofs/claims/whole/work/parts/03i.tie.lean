/-! a table of methods, and its soundness -/
def ent : List mV → List mV
  | [] => []
  | .inr (.inl z) :: r => vl z :: vj :: ent r
  | v :: r => v :: ent r
def entL (nL : Nat) (as : List mV) : List mV := ent as ++ List.replicate (nL - (ent as).length) vj
def mcall (MT : Nat → mM) (CD : Nat → Nat → mT) : Nat → mC
  | 0 => fun _ _ _ _ _ => False
  | d + 1 => fun k as h lim Q => (ent as).length ≤ (MT k).2.2.1 ∧ wp (mcall MT CD d) (CD k) lim Q 0 (entL (MT k).2.2.1 as) [] h
theorem ent_len (E : mE) : ∀ as : List mV, (lg_sl (as.map (vv E))).length = (ent as).length
  | [] => rfl
  | .inl z :: r => by
    have e : (vv E (.inl z)).category = 1 := rfl
    rw [show lg_sl ((.inl z :: r).map (vv E)) = (if (vv E (.inl z)).category = 2 then [.val (vv E (.inl z)), .second] else [.val (vv E (.inl z))]) ++ lg_sl (r.map (vv E)) from rfl, List.length_append, ent_len E r, e]
    simp [ent]
    omega
  | .inr (.inl z) :: r => by
    have e : (vv E (.inr (.inl z))).category = 2 := rfl
    rw [show lg_sl ((.inr (.inl z) :: r).map (vv E)) = (if (vv E (.inr (.inl z))).category = 2 then [.val (vv E (.inr (.inl z))), .second] else [.val (vv E (.inr (.inl z)))]) ++ lg_sl (r.map (vv E)) from rfl, List.length_append, ent_len E r, e]
    simp [ent]
    omega
  | .inr (.inr (.inl z)) :: r => by
    have e : (vv E (.inr (.inr (.inl z)))).category = 1 := va_rf_cat _
    rw [show lg_sl ((.inr (.inr (.inl z)) :: r).map (vv E)) = (if (vv E (.inr (.inr (.inl z)))).category = 2 then [.val (vv E (.inr (.inr (.inl z)))), .second] else [.val (vv E (.inr (.inr (.inl z))))]) ++ lg_sl (r.map (vv E)) from rfl, List.length_append, ent_len E r, e]
    simp [ent]
    omega
  | .inr (.inr (.inr z)) :: r => by
    have e : (vv E (.inr (.inr (.inr z)))).category = 1 := rfl
    rw [show lg_sl ((.inr (.inr (.inr z)) :: r).map (vv E)) = (if (vv E (.inr (.inr (.inr z)))).category = 2 then [.val (vv E (.inr (.inr (.inr z)))), .second] else [.val (vv E (.inr (.inr (.inr z))))]) ++ lg_sl (r.map (vv E)) from rfl, List.length_append, ent_len E r, e]
    simp [ent]
    omega
theorem ent_args (E : mE) : ∀ (as : List mV) (k i : Nat) (v : mV), (ent as)[i]? = some v → v ≠ vj → (k + i, vv E v) ∈ lv_args k (as.map (vv E))
  | [], k, i, v, h, _ => by simp [ent] at h
  | .inl z :: r, k, i, v, h, hv => by
    have e : (vv E (.inl z)).category = 1 := rfl
    simp only [List.map_cons, lv_args, e]
    cases i with
    | zero =>
      simp only [ent, List.getElem?_cons_zero, Option.some.injEq] at h
      subst h
      exact List.mem_cons_self
    | succ i =>
      simp only [ent, List.getElem?_cons_succ] at h
      have := ent_args E r (k + 1) i v h hv
      rw [show k + 1 + i = k + (i + 1) by omega] at this
      exact List.mem_cons_of_mem _ (by simpa using this)
  | .inr (.inl z) :: r, k, i, v, h, hv => by
    have e : (vv E (.inr (.inl z))).category = 2 := rfl
    simp only [List.map_cons, lv_args, e]
    match i with
    | 0 =>
      simp only [ent, List.getElem?_cons_zero, Option.some.injEq] at h
      subst h
      exact List.mem_cons_self
    | 1 =>
      simp only [ent, List.getElem?_cons_succ, List.getElem?_cons_zero, Option.some.injEq] at h
      exact absurd h.symm hv
    | i + 2 =>
      simp only [ent, List.getElem?_cons_succ] at h
      have := ent_args E r (k + 2) i v h hv
      rw [show k + 2 + i = k + (i + 2) by omega] at this
      exact List.mem_cons_of_mem _ (by simpa using this)
  | .inr (.inr (.inl z)) :: r, k, i, v, h, hv => by
    have e : (vv E (.inr (.inr (.inl z)))).category = 1 := va_rf_cat _
    simp only [List.map_cons, lv_args, e]
    cases i with
    | zero =>
      simp only [ent, List.getElem?_cons_zero, Option.some.injEq] at h
      subst h
      exact List.mem_cons_self
    | succ i =>
      simp only [ent, List.getElem?_cons_succ] at h
      have := ent_args E r (k + 1) i v h hv
      rw [show k + 1 + i = k + (i + 1) by omega] at this
      exact List.mem_cons_of_mem _ (by simpa using this)
  | .inr (.inr (.inr z)) :: r, k, i, v, h, hv => by
    have e : (vv E (.inr (.inr (.inr z)))).category = 1 := rfl
    simp only [List.map_cons, lv_args, e]
    cases i with
    | zero =>
      simp only [ent, List.getElem?_cons_zero, Option.some.injEq] at h
      exact absurd h.symm hv
    | succ i =>
      simp only [ent, List.getElem?_cons_succ] at h
      have := ent_args E r (k + 1) i v h hv
      rw [show k + 1 + i = k + (i + 1) by omega] at this
      exact List.mem_cons_of_mem _ (by simpa using this)
theorem entL_mL {E : mE} {nL : Nat} {as : List mV} (h : (ent as).length ≤ nL) : mL E nL (entL nL as) ((lg_sl (as.map (vv E)) ++ List.replicate (nL - (lg_sl (as.map (vv E))).length) Slot.unset).toArray) := by
  have hl := lv_entry (as.map (vv E)) (n := nL) (by rw [ent_len]; exact h)
  refine ⟨by simp [entL]; omega, hl.1, hl.2.1, fun i v hi hv => ?_⟩
  unfold entL at hi
  by_cases c1 : i < (ent as).length
  · rw [List.getElem?_append_left c1] at hi
    have := ent_args E as 0 i v hi hv
    rw [Nat.zero_add] at this
    exact hl.2.2 _ this
  · rw [List.getElem?_append_right (by omega)] at hi
    have := List.eq_of_mem_replicate (List.mem_of_getElem? hi)
    exact absurd this hv
set_option maxHeartbeats 1000000 in
theorem mSound {MT : Nat → mM} {CD : Nat → Nat → mT} (hpl : ∀ k, plainName (MT k).1.cls = true) (hall : ∀ k pc, SndT MT (MT k) (fun lim x => x = lim) (fun _ _ => True) pc (CD k pc)) (E : mE) (l : Launch) : ∀ d, mSM E l MT (mcall MT CD d) d
  | 0 => fun y as h lim Q _ _ hc => hc.elim
  | d + 1 => by
    have ih := mSound hpl hall E l d
    intro y as h lim Q l1 l2 hc
    refine Met.ofW (cc := (MT y).2.1) (maxL := (MT y).2.2.1) (ret := (MT y).2.2.2) (hpl y) rfl ?_
    intro p e s m args below meth c s₁ B hml hPc
    obtain ⟨rfl, hE, hh, hz⟩ := hPc
    have hts : ∀ w ∈ mTB, w.before (as.map (vv E)).toArray s = true := fun w hw => atoms_spec (ws := mWs (MT y)) B.pre w (List.mem_cons_of_mem _ hw)
    have X : mCx E MT (MT y) d l p (headSpec (mWs (MT y)) (mRoom (d + 1) (lim.1 - h.1.1) (lim.2 - h.1.2.1))).room s m (as.map (vv E)).toArray meth c (mcall MT CD d) lim h.1.1 h.1.2.1 :=
      ⟨B.exec, B.bytes, hml, findClass_of_methodNamed B.named, hts, hE, ⟨hh.1.1, hz⟩, ⟨by have := mRoom_fr (d + 1) (lim.1 - h.1.1) (lim.2 - h.1.2.1); show _ ≤ (mRoom (d + 1) _ _).frames; omega, by have := mRoom_lo (d + 1) (lim.1 - h.1.1) (lim.2 - h.1.2.1); show _ ≤ (mRoom (d + 1) _ _).locals; omega⟩, ⟨rfl, rfl, l1, l2⟩, ih, fun hi => (name_of_methodNamed B.named B.method).1.trans hi⟩
    have hR := mRet_of (E := E) (y := MT y) (n0 := h.1.1) (s0 := h.1.2.1) (p := p) (l := l) (e := e) (R := (headSpec (mWs (MT y)) (mRoom (d + 1) (lim.1 - h.1.1) (lim.2 - h.1.2.1))).room) (s := s) (m := m) (args := (as.map (vv E)).toArray) (below := below) (meth := meth) (c := c) (lim := lim) (Q := Q) (mc := lim.1 - h.1.1) (ms := lim.2 - h.1.2.1) B.exec B.bytes B.returns B.notSynchronized (by omega) (by omega)
    have K := hc.2 (mW E (MT y).2.2.1 h.1.1 h.1.2.1 p l e (headSpec (mWs (MT y)) (mRoom (d + 1) (lim.1 - h.1.1) (lim.2 - h.1.2.1))).room s m (as.map (vv E)).toArray below meth c (MQ below (mQc E lim Q) (as.map (vv E)).toArray s (lim.1 - h.1.1) (lim.2 - h.1.2.1) (mA E)))
      (fun pc ls st h1 H => hall y pc E l p e _ s m _ below meth c _ (mcall MT CD d) d h.1.1 h.1.2.1 lim Q X trivial hR ls st h1 H)
    rw [lg_entry_eq]
    exact K s.heap [] _ 0 0 hh (entL_mL hc.1) va_S.rf rfl rfl
