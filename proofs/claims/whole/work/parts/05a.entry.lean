def R_law : String := "SharedNightsLaw"
def lw_P (b : Addr) (xs : List Int32) (args : Array Value) (s : State) : Prop := args = #[.ref b] ∧ s.IntsAt b xs ∧ xs.length ≤ 3584 ∧ (Jvm.Cond.and given_1 narrow_1).before args s = true
def lw_Q (_ : Array Value) (s : State) (o : Outcome) (t : State) : Prop := o = .returned (some (.int 1)) ∧ Framed s o t [] 600000 7302250
def lw_Z (below : List Frame) (a : Array Value) (s : State) : State → Prop := fun t => ∃ o, t.status = .running ∧ Ended t below o ∧ lw_Q a s o t
/-- the law's own end, with 1 on the stack, nothing written that was there before, its room as the claim has it -/
theorem lw_ret {p : Program} {l : Launch} {e : Env} {s : State} {m : MethodId} {below : List Frame} {meth : Method} {c : Code} {b : Nat} (hx : p.tables.exec = Jvm.exec) (hb : c.code = code) (hr : meth.sig.returnType = ret) (hlocks : meth.locks = false) {pc : Nat} {H : Heap} {ls : Array Slot} (hdg : decode code pc = .ok (.ireturn, 1)) : W p l e room_1 s m #[Value.ref b] below meth c H [] 600000 7302250 (lw_Z below #[Value.ref b] s) (F0 m pc ls [.int 1]) := by
  intro T hT X
  obtain ⟨fs, hret, hrun, hended, hW, hframe⟩ := X.leave (v := some (.int 1)) (hlocks := hlocks) (fun h => by rw [hr] at h; cases h)
  have hmeth' : T.vm.method? m = some meth := X.method'
  refine ⟨T.setFrames fs, ?_, .returned (some (.int 1)), hrun, hended, rfl, ⟨_, rfl⟩, hW, hframe⟩
  jvm_step X.here [X.here.top, hx, hb, hdg, hmeth', hr, ret, narrow_b1]
  (try refine ⟨rfl, ?_⟩); (try refine ⟨rfl, ?_⟩)
  first | (intro acts; rw [hret _ acts rfl rfl rfl]) | rw [hret _ _ rfl rfl rfl]
  exact Steps.refl _
/-- what holds at the law's entry: the machine, the code, the tables' words (any of lw_tbl by 'hts w (by decide +kernel)'), the script of L ints xs at the cell b, what the Statement gives of the start (any of its parts by flat_of_before) -/
def lw_At (p : Program) (s : State) (m : MethodId) (meth : Method) (c : Code) (b L : Nat) (xs : Nat → Int32) : Prop :=
  p.tables.exec = Jvm.exec ∧ c.code = code ∧ meth.sig.returnType = ret ∧ c.maxLocals = 4 ∧ s.vm.findClass R_law = some m.cls ∧ (∀ w ∈ lw_tbl, w.before #[Value.ref b] s = true) ∧ va_X b L xs s s.heap ∧ b < s.heap.size ∧ meth.locks = false ∧ (Jvm.Cond.and given_1 narrow_1).before #[Value.ref b] s = true
/-! the law's entry: the small machine's start -/
def hZ : mH := ((16, 0, fun _ => (99, 0)), fun _ _ => 0, fun _ _ => 0)
def limL : Nat × Nat := (600016, 7302250)
def QL : mQ := fun r h => r = some (vi 1) ∧ h.1.1 ≤ 600016 ∧ h.1.2.1 ≤ 7302250
theorem arr_of {args : Array Value} {s : State} {ty : FieldType} (hp : ∀ C, ty ≠ .object C) (h : (Cond.arrayClass ty).before args s = true) : ∃ cA : ClassId, ArrOfT s cA ty ∧ va_RA s cA ty := by
  obtain ⟨c, k, comp, h1, h2, h3⟩ := Cond.arrayClass_spec h
  refine ⟨c, fun n z => ⟨fun k h => (by cases h), k, h2, comp, h3⟩, ?_⟩
  cases ty with
  | object C => exact absurd rfl (hp C)
  | _ => exact h1
theorem arr_ofO {args : Array Value} {s : State} {C : String} (h : (Cond.arrayOver (.object C)).before args s = true) : ∃ cA : ClassId, ArrOfT s cA (.object C) ∧ va_RA s cA (.object C) := by
  obtain ⟨comp, c, k, h1, h2, h3, h4, h5⟩ := Cond.arrayOver_spec h
  exact ⟨c, fun n z => ⟨fun k h => (by cases h), k, h3, comp, h4⟩, k, comp, h3, h4, h1, h5⟩
theorem arr_ofA {args : Array Value} {s : State} {ty : FieldType} (h : (Cond.arrayOver (.array ty)).before args s = true) : ∃ cA : ClassId, ArrOfT s cA (.array ty) ∧ va_RA s cA (.array ty) := by
  obtain ⟨comp, c, k, h1, h2, h3, h4, h5⟩ := Jvm.Stand.arrayOver_specB h
  exact ⟨c, fun n z => ⟨fun k h => (by cases h), k, h3, comp, h4⟩, h5⟩
theorem wN_0 : (Jvm.Cond.methodLinkNest "SharedNights$Night" (30 : Nat) ({ cls := "SharedNights$Target", name := "<init>", desc := "()V" } : Jvm.MethodName) "SharedNights") ∈ lw_tbl := List.mem_of_getElem? (i := 115) (by decide +kernel)
theorem wN_1 : (Jvm.Cond.methodLinkNest "SharedNights" (18 : Nat) ({ cls := "SharedNights$Form", name := "<init>", desc := "()V" } : Jvm.MethodName) "SharedNights") ∈ lw_tbl := List.mem_of_getElem? (i := 182) (by decide +kernel)
theorem wN_2 : (Jvm.Cond.methodLinkNest "SharedNights$Plan" (17 : Nat) ({ cls := "SharedNights$Step", name := "<init>", desc := "()V" } : Jvm.MethodName) "SharedNights") ∈ lw_tbl := List.mem_of_getElem? (i := 195) (by decide +kernel)
theorem wN_3 : (Jvm.Cond.methodLinkNest "SharedNights" (55 : Nat) ({ cls := "SharedNights$Step", name := "<init>", desc := "()V" } : Jvm.MethodName) "SharedNights") ∈ lw_tbl := List.mem_of_getElem? (i := 465) (by decide +kernel)
theorem wN_4 : (Jvm.Cond.methodLinkNest "SharedNights$BestNight" (103 : Nat) ({ cls := "SharedNights", name := "hasBit", desc := "(II)Z" } : Jvm.MethodName) "SharedNights") ∈ lw_tbl := List.mem_of_getElem? (i := 770) (by decide +kernel)
theorem wN_5 : (Jvm.Cond.methodLinkNest "SharedNights$BestNight" (150 : Nat) ({ cls := "SharedNights", name := "slotBits", desc := "(II)I" } : Jvm.MethodName) "SharedNights") ∈ lw_tbl := List.mem_of_getElem? (i := 773) (by decide +kernel)
theorem wO_5 : (Jvm.Cond.arrayOver (Jvm.ClassFile.FieldType.object "SharedNights$Plan")) ∈ lw_tbl := List.mem_of_getElem? (i := 323) (by decide +kernel)
theorem wO_6 : (Jvm.Cond.arrayOver (Jvm.ClassFile.FieldType.object "SharedNights$Step")) ∈ lw_tbl := List.mem_of_getElem? (i := 193) (by decide +kernel)
theorem wO_7 : (Jvm.Cond.arrayOver (Jvm.ClassFile.FieldType.object "SharedNights$Target")) ∈ lw_tbl := List.mem_of_getElem? (i := 111) (by decide +kernel)
theorem wO_A : (Jvm.Cond.arrayOver (Jvm.ClassFile.FieldType.array Jvm.ClassFile.FieldType.int)) ∈ lw_tbl := List.mem_of_getElem? (i := 113) (by decide +kernel)
theorem wA_0 : (Jvm.Cond.arrayClass Jvm.ClassFile.FieldType.int) ∈ lw_tbl := List.mem_of_getElem? (i := 129) (by decide +kernel)
theorem wA_1 : (Jvm.Cond.arrayClass Jvm.ClassFile.FieldType.boolean) ∈ lw_tbl := List.mem_of_getElem? (i := 404) (by decide +kernel)
theorem wA_2 : (Jvm.Cond.arrayClass Jvm.ClassFile.FieldType.long) ∈ lw_tbl := List.mem_of_getElem? (i := 405) (by decide +kernel)
theorem wZ_0 : (Jvm.Cond.laysStatic "java/lang/String" "COMPACT_STRINGS" "Z") ∈ lw_tbl := List.mem_of_getElem? (i := 630) (by decide +kernel)
theorem wZ_1 : (Jvm.Cond.laysStatic "jdk/internal/util/Preconditions" "SIOOBE_FORMATTER" "Ljava/util/function/BiFunction;") ∈ lw_tbl := List.mem_of_getElem? (i := 646) (by decide +kernel)
theorem wZ_2 : (Jvm.Cond.initialized "java/lang/String") ∈ lw_tbl := List.mem_of_getElem? (i := 90) (by decide +kernel)
theorem wZ_3 : (Jvm.Cond.initialized "jdk/internal/util/Preconditions") ∈ lw_tbl := List.mem_of_getElem? (i := 92) (by decide +kernel)
theorem wR_0 : (Jvm.Cond.stringRef "SharedNights$Form" (128 : Nat) "land") ∈ lw_tbl := List.mem_of_getElem? (i := 606) (by decide +kernel)
theorem wR_1 : (Jvm.Cond.stringRef "SharedNights$Form" (130 : Nat) "with") ∈ lw_tbl := List.mem_of_getElem? (i := 607) (by decide +kernel)
theorem wR_2 : (Jvm.Cond.stringRef "SharedNights$Form" (132 : Nat) "at") ∈ lw_tbl := List.mem_of_getElem? (i := 608) (by decide +kernel)
theorem wR_3 : (Jvm.Cond.stringRef "SharedNights$Form" (134 : Nat) "worth") ∈ lw_tbl := List.mem_of_getElem? (i := 609) (by decide +kernel)
theorem wR_4 : (Jvm.Cond.stringRef "SharedNights$Form" (136 : Nat) "expose") ∈ lw_tbl := List.mem_of_getElem? (i := 610) (by decide +kernel)
theorem wR_5 : (Jvm.Cond.stringRef "SharedNights$Form" (138 : Nat) "seeing") ∈ lw_tbl := List.mem_of_getElem? (i := 611) (by decide +kernel)
theorem wR_6 : (Jvm.Cond.stringRef "SharedNights$Form" (140 : Nat) "air") ∈ lw_tbl := List.mem_of_getElem? (i := 612) (by decide +kernel)
theorem wR_7 : (Jvm.Cond.stringRef "SharedNights$Form" (142 : Nat) "dark") ∈ lw_tbl := List.mem_of_getElem? (i := 613) (by decide +kernel)
theorem wR_8 : (Jvm.Cond.stringRef "SharedNights$Form" (143 : Nat) "wait") ∈ lw_tbl := List.mem_of_getElem? (i := 614) (by decide +kernel)
theorem wR_9 : (Jvm.Cond.stringRef "SharedNights$Form" (145 : Nat) "to") ∈ lw_tbl := List.mem_of_getElem? (i := 615) (by decide +kernel)
theorem wR_10 : (Jvm.Cond.stringRef "SharedNights$Form" (147 : Nat) "") ∈ lw_tbl := List.mem_of_getElem? (i := 616) (by decide +kernel)
theorem wR_in : ∀ i, i < 11 → Cond.stringRef "SharedNights$Form" (mIdx i) (mTx i) ∈ lw_tbl := by
  intro i hi
  match i, hi with
  | 0, _ => exact wR_0
  | 1, _ => exact wR_1
  | 2, _ => exact wR_2
  | 3, _ => exact wR_3
  | 4, _ => exact wR_4
  | 5, _ => exact wR_5
  | 6, _ => exact wR_6
  | 7, _ => exact wR_7
  | 8, _ => exact wR_8
  | 9, _ => exact wR_9
  | 10, _ => exact wR_10
  | k + 11, h => exact absurd h (by omega)
theorem wI_0 : (Jvm.Cond.instantiable "SharedNights$BestNight" (18 : Nat)) ∈ lw_tbl := List.mem_of_getElem? (i := 339) (by decide +kernel)
theorem wI_1 : (Jvm.Cond.instantiable "SharedNights$Book" (2 : Nat)) ∈ lw_tbl := List.mem_of_getElem? (i := 317) (by decide +kernel)
theorem wI_2 : (Jvm.Cond.instantiable "SharedNights$Form" (11 : Nat)) ∈ lw_tbl := List.mem_of_getElem? (i := 181) (by decide +kernel)
theorem wI_3 : (Jvm.Cond.instantiable "SharedNights$Ledger" (3 : Nat)) ∈ lw_tbl := List.mem_of_getElem? (i := 447) (by decide +kernel)
theorem wI_4 : (Jvm.Cond.instantiable "SharedNights$Night" (10 : Nat)) ∈ lw_tbl := List.mem_of_getElem? (i := 105) (by decide +kernel)
theorem wI_5 : (Jvm.Cond.instantiable "SharedNights$Plan" (6 : Nat)) ∈ lw_tbl := List.mem_of_getElem? (i := 187) (by decide +kernel)
theorem wI_6 : (Jvm.Cond.instantiable "SharedNights$Step" (6 : Nat)) ∈ lw_tbl := List.mem_of_getElem? (i := 194) (by decide +kernel)
theorem wI_7 : (Jvm.Cond.instantiable "SharedNights$Target" (3 : Nat)) ∈ lw_tbl := List.mem_of_getElem? (i := 114) (by decide +kernel)
theorem wI_8 : (Jvm.Cond.instantiable "SharedNights$Watch" (10 : Nat)) ∈ lw_tbl := List.mem_of_getElem? (i := 407) (by decide +kernel)
theorem wI_9 : (Jvm.Cond.instantiable "SharedNights" (7 : Nat)) ∈ lw_tbl := List.mem_of_getElem? (i := 97) (by decide +kernel)
theorem wI_10 : (Jvm.Cond.instantiable "SharedNightsModel" (44 : Nat)) ∈ lw_tbl := List.mem_of_getElem? (i := 1060) (by decide +kernel)
theorem mTB_lw {w : Cond} (h : w ∈ mTB) : w ∈ lw_tbl := (List.mem_filter.mp h).1
abbrev stT (i : Nat) : Term := .string "SharedNights$Form" (mIdx i)
set_option maxRecDepth 100000 in
theorem st_ex : ∀ i, i < 11 → Cond.exactly (stT i) "java/lang/String" ∈ flatC (Jvm.Cond.and given_1 narrow_1) := by decide +kernel
set_option maxRecDepth 100000 in
theorem st_co : ∀ i, i < 11 → Cond.eq (.field (stT i) "java/lang/String" "coder" "B") (.int 0) ∈ flatC (Jvm.Cond.and given_1 narrow_1) := by decide +kernel
set_option maxRecDepth 100000 in
theorem st_ar : ∀ i, i < 11 → Cond.arrayOf (.field (stT i) "java/lang/String" "value" "[B") .byte ∈ flatC (Jvm.Cond.and given_1 narrow_1) := by decide +kernel
set_option maxRecDepth 100000 in
theorem st_le : ∀ i, i < 11 → Cond.eq (.length (.field (stT i) "java/lang/String" "value" "[B")) (.int (Int32.ofNat (mLen.getD i 0))) ∈ flatC (Jvm.Cond.and given_1 narrow_1) := by decide +kernel
set_option maxRecDepth 100000 in
theorem st_el : ∀ i, i < 11 → ∀ j, j < mLen.getD i 0 → Cond.eq (.elem (.field (stT i) "java/lang/String" "value" "[B") (.int (Int32.ofNat j))) (.int ((mByt.getD i []).getD j 0)) ∈ flatC (Jvm.Cond.and given_1 narrow_1) := by decide +kernel
set_option maxRecDepth 100000 in
theorem st_ne : ∀ i, i < 11 → ∀ j, j < 11 → i ≠ j → Cond.not (Cond.eq (stT i) (stT j)) ∈ flatC (Jvm.Cond.and given_1 narrow_1) ∨ Cond.not (Cond.eq (stT j) (stT i)) ∈ flatC (Jvm.Cond.and given_1 narrow_1) := by decide +kernel
set_option maxRecDepth 100000 in
theorem st_cs : Cond.eq (.static "java/lang/String" "COMPACT_STRINGS" "Z") (.int 1) ∈ flatC (Jvm.Cond.and given_1 narrow_1) := by decide +kernel
set_option maxRecDepth 100000 in
theorem st_fm : Cond.isRef (.static "jdk/internal/util/Preconditions" "SIOOBE_FORMATTER" "Ljava/util/function/BiFunction;") ∈ flatC (Jvm.Cond.and given_1 narrow_1) := by decide +kernel
theorem law_env {s : State} {b : Nat} (hts : ∀ w ∈ lw_tbl, w.before #[Value.ref b] s = true) (hgv : (Jvm.Cond.and given_1 narrow_1).before #[Value.ref b] s = true) : ∃ E : mE, E.1 = s.heap.size ∧ E.2.1 = b ∧ mEnv E s := by
  have hA : ∀ a : Nat, a < s.heap.size → ¬ (fun q : Nat => s.heap.size ≤ q) a := fun a h => Nat.not_le.mpr h
  have hf := flat_of_before _ hgv
  obtain ⟨c0, i0, k0⟩ := u_known (C := RX0) (T := TX0) (N := 18) (n := 18) hts (fun w h => mTB_lw (cls_0.2.2.2.1 w h)) (hts _ wI_0)
  obtain ⟨c1, i1, k1⟩ := u_known (C := RX1) (T := TX1) (N := 2) (n := 2) hts (fun w h => mTB_lw (cls_1.2.2.2.1 w h)) (hts _ wI_1)
  obtain ⟨c2, i2, k2⟩ := u_known (C := RX2) (T := TX2) (N := 11) (n := 11) hts (fun w h => mTB_lw (cls_2.2.2.2.1 w h)) (hts _ wI_2)
  obtain ⟨c3, i3, k3⟩ := u_known (C := RX3) (T := TX3) (N := 3) (n := 3) hts (fun w h => mTB_lw (cls_3.2.2.2.1 w h)) (hts _ wI_3)
  obtain ⟨c4, i4, k4⟩ := u_known (C := RX4) (T := TX4) (N := 10) (n := 10) hts (fun w h => mTB_lw (cls_4.2.2.2.1 w h)) (hts _ wI_4)
  obtain ⟨c5, i5, k5⟩ := u_known (C := RX5) (T := TX5) (N := 6) (n := 6) hts (fun w h => mTB_lw (cls_5.2.2.2.1 w h)) (hts _ wI_5)
  obtain ⟨c6, i6, k6⟩ := u_known (C := RX6) (T := TX6) (N := 6) (n := 6) hts (fun w h => mTB_lw (cls_6.2.2.2.1 w h)) (hts _ wI_6)
  obtain ⟨c7, i7, k7⟩ := u_known (C := RX7) (T := TX7) (N := 3) (n := 3) hts (fun w h => mTB_lw (cls_7.2.2.2.1 w h)) (hts _ wI_7)
  obtain ⟨c8, i8, k8⟩ := u_known (C := RX8) (T := TX8) (N := 10) (n := 10) hts (fun w h => mTB_lw (cls_8.2.2.2.1 w h)) (hts _ wI_8)
  obtain ⟨c9, i9, k9⟩ := u_known (C := RX9) (T := TX9) (N := 7) (n := 7) hts (fun w h => mTB_lw (cls_9.2.2.2.1 w h)) (hts _ wI_9)
  obtain ⟨c10, i10, k10⟩ := u_known (C := RX10) (T := TX10) (N := 44) (n := 44) hts (fun w h => mTB_lw (cls_10.2.2.2.1 w h)) (hts _ wI_10)
  obtain ⟨a0, x0⟩ := arr_of (ty := .int) (fun C h => by cases h) (hts _ wA_0)
  obtain ⟨a1, x1⟩ := arr_of (ty := .boolean) (fun C h => by cases h) (hts _ wA_1)
  obtain ⟨a2, x2⟩ := arr_of (ty := .long) (fun C h => by cases h) (hts _ wA_2)
  obtain ⟨a3, x3⟩ := arr_ofO (C := RX5) (hts _ wO_5)
  obtain ⟨a4, x4⟩ := arr_ofO (C := RX6) (hts _ wO_6)
  obtain ⟨a5, x5⟩ := arr_ofO (C := RX7) (hts _ wO_7)
  obtain ⟨a6, x6⟩ := arr_ofA (ty := .int) (hts _ wO_A)
  obtain ⟨adK, adV, hS, hK⟩ := vk_Sof (N := 11) (tm := stT) (len := mLen) (byt := mByt) (A := fun q : Nat => s.heap.size ≤ q) (by decide) (fun i hi => hf _ (st_ex i hi)) (fun i hi => hf _ (st_co i hi)) (fun i hi => hf _ (st_ar i hi)) (fun i hi => hf _ (st_le i hi)) (fun i hi j hj => hf _ (st_el i hi j hj)) (fun i j hi hj h => (st_ne i hi j hj h).imp (hf _) (hf _)) hA
  let E : mE := (s.heap.size, b, fun a => adK (a - 2), fun k => [c0, c1, c2, c3, c4, c5, c6, c7, c8, c9, c10].getD k c0, fun k => [i0, i1, i2, i3, i4, i5, i6, i7, i8, i9, i10].getD k i0, fun k => [a0, a1, a2, a3, a4, a5, a6].getD k a0)
  have hsub : ∀ i, adK (2 + i - 2) = adK i := fun i => by rw [Nat.add_sub_cancel_left]
  refine ⟨E, rfl, rfl, ⟨?_, ?_⟩, va_Nw.of rfl (hts _ wN_0), va_Nw.of rfl (hts _ wN_1), va_Nw.of rfl (hts _ wN_2), va_Nw.of rfl (hts _ wN_3), va_Nw.of rfl (hts _ wN_4), va_Nw.of rfl (hts _ wN_5), va_AO.of (hts _ wO_5), va_AO.of (hts _ wO_6), va_AO.of (hts _ wO_7), hts _ wO_A, ?_, ⟨adV, ?_⟩, va_Zof (hts _ wZ_0) (hts _ wZ_2) (va_eqi (hf _ st_cs)) hA, va_Zqof (hts _ wZ_1) (hts _ wZ_3) (hf _ st_fm) hA⟩
  · intro k q hq
    match k, hq with
    | 0, hq => cases hq; exact k0
    | 1, hq => cases hq; exact k1
    | 2, hq => cases hq; exact k2
    | 3, hq => cases hq; exact k3
    | 4, hq => cases hq; exact k4
    | 5, hq => cases hq; exact k5
    | 6, hq => cases hq; exact k6
    | 7, hq => cases hq; exact k7
    | 8, hq => cases hq; exact k8
    | 9, hq => cases hq; exact k9
    | 10, hq => cases hq; exact k10
    | k + 11, hq => simp [vwCl] at hq
  · intro k q hq
    match k, hq with
    | 0, hq => cases hq; exact x0
    | 1, hq => cases hq; exact x1
    | 2, hq => cases hq; exact x2
    | 3, hq => cases hq; exact x3
    | 4, hq => cases hq; exact x4
    | 5, hq => cases hq; exact x5
    | 6, hq => cases hq; exact x6
    | k + 7, hq => simp [mtys] at hq
  · intro i hi
    show vk_R _ _ _ (adK (2 + i - 2)) s
    rw [hsub]
    exact vk_R.of (hts _ (wR_in i hi)) (hK i hi)
  · have e : (fun i => E.2.2.1 (2 + i)) = adK := funext hsub
    rw [e]
    exact hS
theorem mRetL {E : mE} {s : State} {b : Nat} {p : Program} {l : Launch} {e : Env} {m : MethodId} {below : List Frame} {meth : Method} {c : Code} (hE : E.1 = s.heap.size) (hx : p.tables.exec = Jvm.exec) (hb : c.code = code) (hr : meth.sig.returnType = ret) (hlocks : meth.locks = false) :
    mRet E 4 16 0 p l e room_1 s m #[Value.ref b] below meth c (lw_Z below #[Value.ref b] s) code (fun _ => True) (some .boolean) QL := by
  intro pc r ls h hk hP hQ
  obtain ⟨hq1, hq2, hq3⟩ := hQ
  subst hq1
  intro H locs arr cl sl hh hl hS e1 e2
  refine va_forget (fun q hq => by have := hS.2.2 q hq; rw [← hE]; exact this) ?_
  refine W.widen (k := 600000) (n := 7302250) (by omega) (by omega) ?_
  exact lw_ret hx hb hr hlocks hk.1
theorem whole_from {p : Program} {e : Env} {s : State} {m : MethodId} {below : List Frame} {meth : Method} {c : Code} (l : Launch) {b L : Nat} {xs : Nat → Int32} (hL : L ≤ 3584) (C0 : lw_At p s m meth c b L xs) (hw : wp (mcall MT CD 100) (lk (clL xs L)) limL QL 0 [vr 1, vj, vj, vj] [] hZ) : W p l e room_1 s m #[Value.ref b] below meth c s.heap [] 0 0 (lw_Z below #[Value.ref b] s) (entryFrame m ([Value.ref b] : List Value).toArray 4) := by
  obtain ⟨hx, hb, hr, hml, hown, hts, hX, hbl, hlocks, hgv⟩ := C0
  obtain ⟨E, hE1, hE2, hE⟩ := law_env hts hgv
  have hh : mRel E hZ s.heap := by
    refine ⟨⟨Nat.le_refl _, fun a h => absurd h (by show ¬ 99 < 27; decide)⟩, fun k q h => ?_⟩
    have e : mws E hZ = [] := rfl
    rw [e] at h
    simp at h
  have X : mCx E MT mmL 100 l p room_1 s m #[Value.ref b] meth c (mcall MT CD 100) limL 16 0 :=
    ⟨hx, hb, hml, hown, fun w hw => hts w (mTB_lw hw), hE, ⟨Nat.le_refl _, by show s.heap.size = E.1 + 0; rw [hE1]; rfl⟩, ⟨by decide, by decide⟩, ⟨rfl, rfl, by decide, by decide⟩, mSound hpl hall E l 100, fun h => absurd h (by decide)⟩
  have K := hw (mW E 4 16 0 p l e room_1 s m #[Value.ref b] below meth c (lw_Z below #[Value.ref b] s))
    (fun pc ls st h H => sdL pc E l p e room_1 s m #[Value.ref b] below meth c (lw_Z below #[Value.ref b] s) (mcall MT CD 100) 100 16 0 limL QL X ⟨by rw [hE2]; exact hX, by rw [hE2]; exact hbl, by rw [hE1, hE2]; exact hbl, hL⟩ (mRetL hE1 hx hb hr hlocks) ls st h H)
  have hv : vv E (vr 1) = .ref b := by rw [vv_ref (by decide)]; show Value.ref E.2.1 = _; rw [hE2]
  have hen := entL_mL (E := E) (nL := 4) (as := [vr 1]) (by decide)
  simp only [List.map_cons, List.map_nil, hv] at hen
  rw [lg_entry_eq]
  exact K s.heap [] _ 0 0 hh hen va_S.rf rfl rfl

