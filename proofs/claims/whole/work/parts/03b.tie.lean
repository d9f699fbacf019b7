/-! THE SMALL MACHINE IS THE MACHINE: the tie -/
/-- (first new address, the script's cell, the texts' cells, classes, slots, array classes) -/
abbrev mE : Type := Nat × Nat × (Nat → Nat) × (Nat → ClassId) × (Nat → Nat → Nat) × (Nat → ClassId)
def mra (E : mE) (a : Nat) : Nat := if a < 16 then (if a = 1 then E.2.1 else E.2.2.1 a) else E.1 + (a - 16)
def mro (E : mE) (a : Nat) : Option Nat := if a = 0 then none else some (mra E a)
def vv (E : mE) (v : mV) : Value := match v with
  | .inl z => .int (Int32.ofInt z)
  | .inr (.inl z) => .long (Int64.ofInt z)
  | .inr (.inr (.inl a)) => va_rf (mro E a)
  | .inr (.inr (.inr _)) => .int 0
abbrev mD (E : mE) : va_G := (E.2.2.2.1, E.2.2.2.2.1)
abbrev mcA (E : mE) : Nat → ClassId := E.2.2.2.2.2
def mtys (E : mE) : List (ClassId × FieldType) := [(mcA E 0, .int), (mcA E 1, .boolean), (mcA E 2, .long), (mcA E 3, .object RX5), (mcA E 4, .object RX6), (mcA E 5, .object RX7), (mcA E 6, .array .int)]
def tyX (ci : Nat) : Nat → FieldType := [tyX0, tyX1, tyX2, tyX3, tyX4, tyX5, tyX6, tyX7, tyX8, tyX9, tyX10].getD ci (fun _ => .int)
def mfv (E : mE) (ty : FieldType) (i : Int) (r : Nat) : Value := match ty with
  | .long => .long (Int64.ofInt i)
  | .object _ => va_rf (mro E r)
  | .array _ => va_rf (mro E r)
  | .float => .float 0
  | .double => .double 0
  | _ => .int (Int32.ofInt i)
def mfs (E : mE) (h : mH) (ci a : Nat) : List Value := (List.range (mN ci)).map fun k => mfv E (tyX ci k) (h.2.1 a k) (h.2.2 a k)
def mce (E : mE) (h : mH) (a : Nat) : va_E :=
  if (h.1.2.2 a).1 < 11 then .inr ((h.1.2.2 a).1, mfs E h (h.1.2.2 a).1 a)
  else if (h.1.2.2 a).1 < 22 then .inl (mcA E ((h.1.2.2 a).1 - 20), (h.1.2.2 a).2, .inl (fun j => Int32.ofInt (h.2.1 a j)))
  else if (h.1.2.2 a).1 = 22 then .inl (mcA E 2, (h.1.2.2 a).2, .inr (.inl (fun j => Int64.ofInt (h.2.1 a j))))
  else .inl (mcA E ((h.1.2.2 a).1 - 20), (h.1.2.2 a).2, .inr (.inr (.inr (.inr (fun j => mro E (h.2.2 a j))))))
def mws (E : mE) (h : mH) : va_W := (List.range (h.1.1 - 16)).map fun j => (E.1 + j, mce E h (16 + j))
def mOK (h : mH) : Prop := 16 ≤ h.1.1 ∧ ∀ a, (h.1.2.2 a).1 < 27 → 16 ≤ a ∧ a < h.1.1 ∧ (h.1.2.2 a).2 < 2147483648
def mA (E : mE) : Nat → Prop := fun q => E.1 ≤ q
def mRel (E : mE) (h : mH) (H : Heap) : Prop := mOK h ∧ va_P (mD E) vwCl (mws E h) H
def mSz (E : mE) (n : Nat) (H : Heap) : Prop := H.size = E.1 + (n - 16)
def mTB : List Cond := lw_tbl.filter goodWord
def va_AOA (ty : FieldType) (U : State) : Prop := (Cond.arrayOver (.array ty)).before #[] U = true
theorem va_AOA.use {ty : FieldType} {A : Array Value} {U : State} (h : va_AOA ty U) : (Cond.arrayOver (.array ty)).before A U = true := h
theorem va_AOA.moved {ty : FieldType} {u U : State} (hvm : u.vm.Alike U.vm) (h : va_AOA ty u) : va_AOA ty U := by
  obtain ⟨comp, c, k, h1, h2, h3, h4, h5⟩ := Jvm.Stand.arrayOver_specB h
  obtain ⟨k', hk', he⟩ := hvm.2.2 _ _ h3
  have hi : (U.vm.classes.findIdx? fun (x : Class) => match x.kind with | .array component _ => component == comp | _ => false) = some c := by
    refine (va_idx_bare U.vm comp).symm.trans ?_
    first | rw [hvm.bare_eq] | rw [← hvm.bare_eq]
    exact (va_idx_bare u.vm comp).trans h2
  have hkind : k'.kind = .array comp (.array ty) := by rw [he]; exact h4
  have f1 : U.vm.findClass (FieldType.array ty).toString = some comp := by rw [hvm.findClass]; exact h1
  have f2 : U.vm.findClass ("[" ++ (FieldType.array ty).toString) = some c := by rw [hvm.findClass]; exact h5
  unfold va_AOA Cond.before Cond.holds
  simp only [Cond.value]
  rw [f1, Option.bind_some]
  refine (congrArg (fun o : Option Nat => (o.bind (fun c => (U.vm.classes[c]?).map fun (k : Class) => match k.kind with | .array _ ty' => decide (ty' = FieldType.array ty) && decide (U.vm.findClass ("[" ++ (FieldType.array ty).toString) = some c) | _ => false) == some true)) hi).trans ?_
  simp [hk', hkind, f2]
/-- the texts that the class names, as the start has them -/
def mIdx (i : Nat) : Nat := [128, 130, 132, 134, 136, 138, 140, 142, 143, 145, 147].getD i 0
def mTx (i : Nat) : String := ["land", "with", "at", "worth", "expose", "seeing", "air", "dark", "wait", "to", ""].getD i ""
def mLen : List Nat := [4, 4, 2, 5, 6, 6, 3, 4, 4, 2, 0]
def mByt : List (List Int32) := [[108, 97, 110, 100], [119, 105, 116, 104], [97, 116], [119, 111, 114, 116, 104], [101, 120, 112, 111, 115, 101], [115, 101, 101, 105, 110, 103], [97, 105, 114], [100, 97, 114, 107], [119, 97, 105, 116], [116, 111], []]
def mStE (E : mE) (U : State) : Prop := (∀ i : Nat, i < 11 → vk_R "SharedNights$Form" (mIdx i) (mTx i) (E.2.2.1 (2 + i)) U) ∧ (∃ adV : Nat → Nat, vk_S 11 mLen mByt (fun i => E.2.2.1 (2 + i)) adV (mA E) U U.heap) ∧ va_Z "java/lang/String" "COMPACT_STRINGS" "Z" (.int 1) (mA E) U U.heap ∧ va_Zq "jdk/internal/util/Preconditions" "SIOOBE_FORMATTER" "Ljava/util/function/BiFunction;" (mA E) U U.heap
theorem mStE.warm {E : mE} {s U : State} (hW : s.WarmedH U.vm) (hk : ∀ q : Nat, q < s.heap.size → ¬ mA E q → U.heap[q]? = s.heap[q]?) (h : mStE E s) : mStE E U := by
  obtain ⟨h1, ⟨adV, h2⟩, h3, h4⟩ := h
  exact ⟨fun i hi => (h1 i hi).warm hW, ⟨adV, (h2.moved hW.alike).kept hk⟩, (h3.moved hW.alike).kept hk, (h4.moved hW.alike).kept hk⟩
theorem mStE.calling {E : mE} {U : State} (g : JFrame) (mk : MethodId) (a : Array Value) (h : mStE E U) : mStE E (U.calling g mk a) := by
  obtain ⟨h1, ⟨adV, h2⟩, h3, h4⟩ := h
  exact ⟨fun i hi => (h1 i hi).same rfl, ⟨adV, vk_S.moved (u := U) (U := U.calling g mk a) (Vm.Alike.refl U.vm) h2⟩, va_Z.moved (u := U) (U := U.calling g mk a) (Vm.Alike.refl U.vm) h3, va_Zq.moved (u := U) (U := U.calling g mk a) (Vm.Alike.refl U.vm) h4⟩
/-- what the tables say beside the words: nest mates, arrays over classes -/
def mEnv (E : mE) (U : State) : Prop := va_K (mD E) vwCl (mtys E) U ∧
  va_Nw (.methodLinkNest "SharedNights$Night" 30 yX7_init "SharedNights") U ∧ va_Nw (.methodLinkNest "SharedNights" 18 yX2_init "SharedNights") U ∧ va_Nw (.methodLinkNest "SharedNights$Plan" 17 yX6_init "SharedNights") U ∧ va_Nw (.methodLinkNest "SharedNights" 55 yX6_init "SharedNights") U ∧ va_Nw (.methodLinkNest "SharedNights$BestNight" 103 yX9_hasBit "SharedNights") U ∧ va_Nw (.methodLinkNest "SharedNights$BestNight" 150 yX9_slotBits "SharedNights") U ∧
  va_AO RX5 U ∧ va_AO RX6 U ∧ va_AO RX7 U ∧ va_AOA .int U ∧ mStE E U
theorem mEnv.warm {E : mE} {s U : State} (hW : s.WarmedH U.vm) (hk : ∀ q : Nat, q < s.heap.size → ¬ mA E q → U.heap[q]? = s.heap[q]?) (h : mEnv E s) : mEnv E U := by
  obtain ⟨h1, h2, h3, h4, h5, h6, h7, h8, h9, h10, h11, h12⟩ := h
  exact ⟨va_K.moved hW.alike h1, h2.warmM hW, h3.warmM hW, h4.warmM hW, h5.warmM hW, h6.warmM hW, h7.warmM hW, va_AO.moved hW.alike h8, va_AO.moved hW.alike h9, va_AO.moved hW.alike h10, va_AOA.moved hW.alike h11, h12.warm hW hk⟩
theorem mEnv.calling {E : mE} {U : State} (g : JFrame) (mk : MethodId) (a : Array Value) (h : mEnv E U) : mEnv E (U.calling g mk a) := by
  obtain ⟨h1, h2, h3, h4, h5, h6, h7, h8, h9, h10, h11, h12⟩ := h
  exact ⟨va_K.moved (u := U) (U := U.calling g mk a) (Vm.Alike.refl U.vm) h1, h2.same rfl rfl, h3.same rfl rfl, h4.same rfl rfl, h5.same rfl rfl, h6.same rfl rfl, h7.same rfl rfl, va_AO.moved (u := U) (U := U.calling g mk a) (Vm.Alike.refl U.vm) h8, va_AO.moved (u := U) (U := U.calling g mk a) (Vm.Alike.refl U.vm) h9, va_AO.moved (u := U) (U := U.calling g mk a) (Vm.Alike.refl U.vm) h10, va_AOA.moved (u := U) (U := U.calling g mk a) (Vm.Alike.refl U.vm) h11, h12.calling g mk a⟩
theorem mws_at {E : mE} {h : mH} {a : Nat} (h1 : 16 ≤ a) (h2 : a < h.1.1) : (mws E h)[a - 16]? = some (mra E a, mce E h a) := by
  have h3 : a - 16 < h.1.1 - 16 := by omega
  unfold mws
  rw [List.getElem?_map, List.getElem?_range h3]
  have h4 : 16 + (a - 16) = a := by omega
  have h5 : ¬ a < 16 := by omega
  simp [h4, mra, h5]
theorem mws_D {E : mE} {h : mH} : va_D (mA E) (mws E h) := by
  have key : ∀ (k : Nat) (q : Nat × va_E), (mws E h)[k]? = some q → q.1 = E.1 + k := by
    intro k q hq
    unfold mws at hq
    rw [List.getElem?_map] at hq
    by_cases hk : k < h.1.1 - 16
    · rw [List.getElem?_range hk] at hq
      cases hq
      rfl
    · rw [List.getElem?_eq_none (by simpa using hk)] at hq
      cases hq
  refine ⟨fun i j p q hi hj e => ?_, fun k q hq => ?_⟩
  · have h1 := key i p hi
    have h2 := key j q hj
    omega
  · have h1 := key k q hq
    show E.1 ≤ q.1
    omega
/-- one cell changes -/
theorem mws_set {E : mE} {h h' : mH} {a : Nat} (hs : h'.1 = h.1) (h1 : 16 ≤ a) (hk : ∀ a', a' ≠ a → mce E h' a' = mce E h a') : (mws E h).set (a - 16) (mra E a, mce E h' a) = mws E h' := by
  apply List.ext_getElem?
  intro i
  rw [List.getElem?_set]
  have hlen : (mws E h).length = h.1.1 - 16 := by simp [mws]
  by_cases e : a - 16 = i
  · rw [if_pos e]
    by_cases hi : a - 16 < (mws E h).length
    · rw [if_pos (by omega)]
      subst e
      rw [mws_at h1 (by rw [hs]; omega)]
    · rw [if_neg (by omega)]
      symm
      rw [List.getElem?_eq_none]
      have : (mws E h').length = h'.1.1 - 16 := by simp [mws]
      rw [this, hs]
      omega
  · rw [if_neg e]
    unfold mws
    rw [List.getElem?_map, List.getElem?_map, hs]
    by_cases hi : i < h.1.1 - 16
    · rw [List.getElem?_range hi]
      have := hk (16 + i) (by omega)
      simp [this]
    · rw [List.getElem?_eq_none (by simpa using hi)]
      rfl
/-- the locals -/
def mL (E : mE) (nL : Nat) (ls : List mV) (arr : Array Slot) : Prop := ls.length = nL ∧ arr.size = nL ∧ lv_wf arr ∧ ∀ (i : Nat) (v : mV), ls[i]? = some v → v ≠ vj → arr[i]? = some (.val (vv E v))
theorem mL.has {E : mE} {nL : Nat} {ls : List mV} {arr : Array Slot} (h : mL E nL ls arr) {i : Nat} {v : mV} (hi : ls[i]? = some v) (hv : v ≠ vj) : arr[i]? = some (.val (vv E v)) := h.2.2.2 i v hi hv
/-- the list of what is known of the locals -/
def mlv (E : mE) (ls : List mV) : List (Nat × Value) := (List.range ls.length).filterMap fun i => match ls[i]? with
  | some v => if v = vj then none else some (i, vv E v)
  | none => none
theorem mL.lv {E : mE} {nL : Nat} {ls : List mV} {arr : Array Slot} (h : mL E nL ls arr) : lv_has arr nL (mlv E ls) := by
  refine ⟨h.2.1, h.2.2.1, fun q hq => ?_⟩
  obtain ⟨i, -, hi⟩ := List.mem_filterMap.mp hq
  cases hl : ls[i]? with
  | none => rw [hl] at hi; cases hi
  | some v =>
    rw [hl] at hi
    by_cases hv : v = vj
    · simp [hv] at hi
    · simp only [hv, if_false] at hi
      cases hi
      exact h.2.2.2 i v hl hv
theorem mlv_mem {E : mE} {ls : List mV} {i : Nat} {v : mV} (hi : ls[i]? = some v) (hv : v ≠ vj) : (i, vv E v) ∈ mlv E ls := by
  have hlt : i < ls.length := (List.getElem?_eq_some_iff.mp hi).1
  refine List.mem_filterMap.mpr ⟨i, List.mem_range.mpr hlt, ?_⟩
  simp [hi, hv]
theorem stv_len : ∀ (ls : List mV) (k : Nat) (v : mV), (stv ls k v).length = ls.length
  | [], _, _ => by simp [stv]
  | _ :: t, 0, v => by simp [stv]
  | x :: t, 1, v => by simp [stv, stv_len t 0 v]
  | x :: t, k + 2, v => by simp [stv, stv_len t (k + 1) v]
theorem stw_len : ∀ (ls : List mV) (k : Nat) (v : mV), (stw ls k v).length = ls.length
  | [], _, _ => by simp [stw]
  | _ :: [], 0, v => by simp [stw]
  | _ :: _ :: t, 0, v => by simp [stw]
  | x :: t, 1, v => by simp [stw, stw_len t 0 v]
  | x :: t, k + 2, v => by simp [stw, stw_len t (k + 1) v]
theorem stv_at : ∀ (ls : List mV) (k : Nat) (v : mV) (i : Nat), k < ls.length → (stv ls k v)[i]? = if i = k then some v else if i + 1 = k then (ls[i]?).map mjk else ls[i]?
  | [], k, v, i, h => by simp at h
  | _ :: t, 0, v, i, h => by
    cases i with
    | zero => simp [stv]
    | succ i => simp [stv]
  | x :: t, 1, v, i, h => by
    cases i with
    | zero => simp [stv]
    | succ i =>
      have := stv_at t 0 v i (by simp at h; omega)
      simp only [stv, List.getElem?_cons_succ, this]
      simp
  | x :: t, k + 2, v, i, h => by
    cases i with
    | zero => simp [stv]
    | succ i =>
      have := stv_at t (k + 1) v i (by simp at h; omega)
      simp only [stv, List.getElem?_cons_succ, this]
      simp
theorem stw_at : ∀ (ls : List mV) (k : Nat) (v : mV) (i : Nat), k + 1 < ls.length → (stw ls k v)[i]? = if i = k then some v else if i = k + 1 then some vj else if i + 1 = k then (ls[i]?).map mjk else ls[i]?
  | [], k, v, i, h => by simp at h
  | [_], 0, v, i, h => by simp at h
  | _ :: _ :: t, 0, v, i, h => by
    match i with
    | 0 => simp [stw]
    | 1 => simp [stw]
    | i + 2 => simp [stw]
  | x :: t, 1, v, i, h => by
    cases i with
    | zero => simp [stw]
    | succ i =>
      have := stw_at t 0 v i (by simp at h; omega)
      simp only [stw, List.getElem?_cons_succ, this]
      simp
  | x :: t, k + 2, v, i, h => by
    cases i with
    | zero => simp [stw]
    | succ i =>
      have := stw_at t (k + 1) v i (by simp at h; omega)
      simp only [stw, List.getElem?_cons_succ, this]
      simp
theorem va_rf_cat (o : Option Nat) : (va_rf o).category = 1 := by cases o <;> rfl
theorem mjk_of {x : mV} (h : mjk x ≠ vj) (E : mE) : mjk x = x ∧ (vv E x).category = 1 := by
  match x, h with
  | .inl z, _ => exact ⟨rfl, rfl⟩
  | .inr (.inl z), h => exact absurd rfl h
  | .inr (.inr (.inl a)), _ => exact ⟨rfl, va_rf_cat _⟩
  | .inr (.inr (.inr u)), h => exact absurd rfl h
theorem mL.put1 {E : mE} {nL : Nat} {ls : List mV} {arr arr' : Array Slot} {k : Nat} {v : mV} (h : mL E nL ls arr) (hk : k < nL) (h' : lv_has arr' nL ((k, vv E v) :: (mlv E ls).filter (fun q => !(q.1 == k) && !(q.1 + 1 == k && q.2.category == 2)))) : mL E nL (stv ls k v) arr' := by
  refine ⟨(stv_len ls k v).trans h.1, h'.1, h'.2.1, fun i w hi hw => ?_⟩
  rw [stv_at ls k v i (by rw [h.1]; exact hk)] at hi
  by_cases e : i = k
  · rw [if_pos e] at hi
    cases hi
    subst e
    exact h'.2.2 _ List.mem_cons_self
  · rw [if_neg e] at hi
    by_cases e1 : i + 1 = k
    · rw [if_pos e1] at hi
      cases hl : ls[i]? with
      | none => rw [hl] at hi; cases hi
      | some x =>
        rw [hl] at hi
        have e2 : mjk x = w := Option.some.inj hi
        obtain ⟨e3, e4⟩ := mjk_of (x := x) (by rw [e2]; exact hw) E
        have e5 : x = w := e3.symm.trans e2
        subst e5
        refine h'.2.2 (i, vv E x) (List.mem_cons_of_mem _ (List.mem_filter.mpr ⟨mlv_mem hl hw, ?_⟩))
        simp [e, e4]
    · rw [if_neg e1] at hi
      refine h'.2.2 (i, vv E w) (List.mem_cons_of_mem _ (List.mem_filter.mpr ⟨mlv_mem hi hw, ?_⟩))
      simp [e, e1]
theorem mL.put2 {E : mE} {nL : Nat} {ls : List mV} {arr arr' : Array Slot} {k : Nat} {v : mV} (h : mL E nL ls arr) (hk : k + 1 < nL) (h' : lv_has arr' nL ((k, vv E v) :: (mlv E ls).filter (fun q => !(q.1 == k) && (!(q.1 == k + 1) && !(q.1 + 1 == k && q.2.category == 2))))) : mL E nL (stw ls k v) arr' := by
  refine ⟨(stw_len ls k v).trans h.1, h'.1, h'.2.1, fun i w hi hw => ?_⟩
  rw [stw_at ls k v i (by rw [h.1]; exact hk)] at hi
  by_cases e : i = k
  · rw [if_pos e] at hi
    cases hi
    subst e
    exact h'.2.2 _ List.mem_cons_self
  · rw [if_neg e] at hi
    by_cases e0 : i = k + 1
    · rw [if_pos e0] at hi
      cases hi
      exact absurd rfl hw
    · rw [if_neg e0] at hi
      by_cases e1 : i + 1 = k
      · rw [if_pos e1] at hi
        cases hl : ls[i]? with
        | none => rw [hl] at hi; cases hi
        | some x =>
          rw [hl] at hi
          have e2 : mjk x = w := Option.some.inj hi
          obtain ⟨e3, e4⟩ := mjk_of (x := x) (by rw [e2]; exact hw) E
          have e5 : x = w := e3.symm.trans e2
          subst e5
          refine h'.2.2 (i, vv E x) (List.mem_cons_of_mem _ (List.mem_filter.mpr ⟨mlv_mem hl hw, ?_⟩))
          simp [e, e0, e4]
      · rw [if_neg e1] at hi
        refine h'.2.2 (i, vv E w) (List.mem_cons_of_mem _ (List.mem_filter.mpr ⟨mlv_mem hi hw, ?_⟩))
        simp [e, e0, e1]
