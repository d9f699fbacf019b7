/-! the two methods of String that the class asks, of the texts that it names -/
theorem wS_90 : (Jvm.Cond.initialized "java/lang/String") ∈ mTB := mTB_of 90 (by decide +kernel) rfl
theorem wS_91 : (Jvm.Cond.initialized "java/lang/StringLatin1") ∈ mTB := mTB_of 91 (by decide +kernel) rfl
theorem wS_92 : (Jvm.Cond.initialized "jdk/internal/util/Preconditions") ∈ mTB := mTB_of 92 (by decide +kernel) rfl
theorem wS_621 : (Jvm.Cond.methodLink "SharedNights$Form" (119 : Nat) ({ cls := "java/lang/String", name := "length", desc := "()I" } : Jvm.MethodName)) ∈ mTB := mTB_of 621 (by decide +kernel) rfl
theorem wS_622 : (Jvm.Cond.instanceMethod ({ cls := "java/lang/String", name := "length", desc := "()I" } : Jvm.MethodName)) ∈ mTB := mTB_of 622 (by decide +kernel) rfl
theorem wS_623 : (Jvm.Cond.selects "java/lang/String" ({ cls := "java/lang/String", name := "length", desc := "()I" } : Jvm.MethodName) ({ cls := "java/lang/String", name := "length", desc := "()I" } : Jvm.MethodName)) ∈ mTB := mTB_of 623 (by decide +kernel) rfl
theorem wS_624 : (Jvm.Cond.code ({ cls := "java/lang/String", name := "length", desc := "()I" } : Jvm.MethodName) prog_15_method_54_code (1 : Nat) (Option.some Jvm.ClassFile.FieldType.int)) ∈ mTB := mTB_of 624 (by decide +kernel) rfl
theorem wS_625 : (Jvm.Cond.methodLink "java/lang/String" (335 : Nat) ({ cls := "java/lang/String", name := "coder", desc := "()B" } : Jvm.MethodName)) ∈ mTB := mTB_of 625 (by decide +kernel) rfl
theorem wS_626 : (Jvm.Cond.instanceMethod ({ cls := "java/lang/String", name := "coder", desc := "()B" } : Jvm.MethodName)) ∈ mTB := mTB_of 626 (by decide +kernel) rfl
theorem wS_627 : (Jvm.Cond.selects "java/lang/String" ({ cls := "java/lang/String", name := "coder", desc := "()B" } : Jvm.MethodName) ({ cls := "java/lang/String", name := "coder", desc := "()B" } : Jvm.MethodName)) ∈ mTB := mTB_of 627 (by decide +kernel) rfl
theorem wS_628 : (Jvm.Cond.code ({ cls := "java/lang/String", name := "coder", desc := "()B" } : Jvm.MethodName) prog_15_method_152_code (1 : Nat) (Option.some Jvm.ClassFile.FieldType.byte)) ∈ mTB := mTB_of 628 (by decide +kernel) rfl
theorem wS_629 : (Jvm.Cond.fieldLink "java/lang/String" (38 : Nat) "java/lang/String" "COMPACT_STRINGS" "Z") ∈ mTB := mTB_of 629 (by decide +kernel) rfl
theorem wS_631 : (Jvm.Cond.methodLink "SharedNights$Form" (124 : Nat) ({ cls := "java/lang/String", name := "charAt", desc := "(I)C" } : Jvm.MethodName)) ∈ mTB := mTB_of 631 (by decide +kernel) rfl
theorem wS_632 : (Jvm.Cond.instanceMethod ({ cls := "java/lang/String", name := "charAt", desc := "(I)C" } : Jvm.MethodName)) ∈ mTB := mTB_of 632 (by decide +kernel) rfl
theorem wS_633 : (Jvm.Cond.selects "java/lang/String" ({ cls := "java/lang/String", name := "charAt", desc := "(I)C" } : Jvm.MethodName) ({ cls := "java/lang/String", name := "charAt", desc := "(I)C" } : Jvm.MethodName)) ∈ mTB := mTB_of 633 (by decide +kernel) rfl
theorem wS_634 : (Jvm.Cond.code ({ cls := "java/lang/String", name := "charAt", desc := "(I)C" } : Jvm.MethodName) prog_15_method_56_code (2 : Nat) (Option.some Jvm.ClassFile.FieldType.char)) ∈ mTB := mTB_of 634 (by decide +kernel) rfl
theorem wS_635 : (Jvm.Cond.methodLink "java/lang/String" (492 : Nat) ({ cls := "java/lang/String", name := "isLatin1", desc := "()Z" } : Jvm.MethodName)) ∈ mTB := mTB_of 635 (by decide +kernel) rfl
theorem wS_636 : (Jvm.Cond.instanceMethod ({ cls := "java/lang/String", name := "isLatin1", desc := "()Z" } : Jvm.MethodName)) ∈ mTB := mTB_of 636 (by decide +kernel) rfl
theorem wS_637 : (Jvm.Cond.selects "java/lang/String" ({ cls := "java/lang/String", name := "isLatin1", desc := "()Z" } : Jvm.MethodName) ({ cls := "java/lang/String", name := "isLatin1", desc := "()Z" } : Jvm.MethodName)) ∈ mTB := mTB_of 637 (by decide +kernel) rfl
theorem wS_638 : (Jvm.Cond.code ({ cls := "java/lang/String", name := "isLatin1", desc := "()Z" } : Jvm.MethodName) prog_15_method_154_code (1 : Nat) (Option.some Jvm.ClassFile.FieldType.boolean)) ∈ mTB := mTB_of 638 (by decide +kernel) rfl
theorem wS_639 : (Jvm.Cond.methodLink "java/lang/String" (495 : Nat) ({ cls := "java/lang/StringLatin1", name := "charAt", desc := "([BI)C" } : Jvm.MethodName)) ∈ mTB := mTB_of 639 (by decide +kernel) rfl
theorem wS_640 : (Jvm.Cond.static ({ cls := "java/lang/StringLatin1", name := "charAt", desc := "([BI)C" } : Jvm.MethodName)) ∈ mTB := mTB_of 640 (by decide +kernel) rfl
theorem wS_641 : (Jvm.Cond.code ({ cls := "java/lang/StringLatin1", name := "charAt", desc := "([BI)C" } : Jvm.MethodName) prog_16_method_2_code (2 : Nat) (Option.some Jvm.ClassFile.FieldType.char)) ∈ mTB := mTB_of 641 (by decide +kernel) rfl
theorem wS_642 : (Jvm.Cond.methodLink "java/lang/StringLatin1" (9 : Nat) ({ cls := "java/lang/String", name := "checkIndex", desc := "(II)V" } : Jvm.MethodName)) ∈ mTB := mTB_of 642 (by decide +kernel) rfl
theorem wS_643 : (Jvm.Cond.static ({ cls := "java/lang/String", name := "checkIndex", desc := "(II)V" } : Jvm.MethodName)) ∈ mTB := mTB_of 643 (by decide +kernel) rfl
theorem wS_644 : (Jvm.Cond.code ({ cls := "java/lang/String", name := "checkIndex", desc := "(II)V" } : Jvm.MethodName) prog_15_method_155_code (2 : Nat) (Option.none : Option Jvm.ClassFile.FieldType)) ∈ mTB := mTB_of 644 (by decide +kernel) rfl
theorem wS_645 : (Jvm.Cond.fieldLink "java/lang/String" (1053 : Nat) "jdk/internal/util/Preconditions" "SIOOBE_FORMATTER" "Ljava/util/function/BiFunction;") ∈ mTB := mTB_of 645 (by decide +kernel) rfl
theorem wS_647 : (Jvm.Cond.methodLink "java/lang/String" (1059 : Nat) ({ cls := "jdk/internal/util/Preconditions", name := "checkIndex", desc := "(IILjava/util/function/BiFunction;)I" } : Jvm.MethodName)) ∈ mTB := mTB_of 647 (by decide +kernel) rfl
theorem wS_648 : (Jvm.Cond.static ({ cls := "jdk/internal/util/Preconditions", name := "checkIndex", desc := "(IILjava/util/function/BiFunction;)I" } : Jvm.MethodName)) ∈ mTB := mTB_of 648 (by decide +kernel) rfl
theorem wS_649 : (Jvm.Cond.code ({ cls := "jdk/internal/util/Preconditions", name := "checkIndex", desc := "(IILjava/util/function/BiFunction;)I" } : Jvm.MethodName) prog_19_method_11_code (3 : Nat) (Option.some Jvm.ClassFile.FieldType.int)) ∈ mTB := mTB_of 649 (by decide +kernel) rfl
theorem wS_1501 : (Jvm.Cond.fieldLink "java/lang/String" (9 : Nat) "java/lang/String" "value" "[B") ∈ mTB := mTB_of 1501 (by decide +kernel) rfl
theorem wS_1502 : (Jvm.Cond.fieldLink "java/lang/String" (15 : Nat) "java/lang/String" "coder" "B") ∈ mTB := mTB_of 1502 (by decide +kernel) rfl
abbrev jCoder : mM := (yJ0_coder_7d493, cJ0_coder_7d493, 1, some .byte)
abbrev jLatin : mM := (yJ0_isLatin1_aae02, cJ0_isLatin1_aae02, 1, some .boolean)
abbrev jLen : mM := (yJ0_length_8abf5, cJ0_length_8abf5, 1, some .int)
abbrev jPre : mM := (yJ3_checkIndex_8e157, cJ3_checkIndex_8e157, 3, some .int)
abbrev jChk : mM := (yJ0_checkIndex_df160, cJ0_checkIndex_df160, 2, none)
abbrev jLat : mM := (yJ1_charAt_3b067, cJ1_charAt_3b067, 2, some .char)
abbrev jCh : mM := (yJ0_charAt_5068e, cJ0_charAt_5068e, 2, some .char)
/-- a text: its cell q, its bytes' cell t -/
def sS (q t N : Nat) (f : Nat → Value) (A : Nat → Prop) (U : State) : Prop := va_O "java/lang/String" q A U U.heap ∧ va_OF "java/lang/String" "coder" "B" (.int 0) q A U U.heap ∧ va_OF "java/lang/String" "value" "[B" (.ref t) q A U U.heap ∧ va_T .byte t N f A U U.heap ∧ va_Z "java/lang/String" "COMPACT_STRINGS" "Z" (.int 1) A U U.heap ∧ va_Zq "jdk/internal/util/Preconditions" "SIOOBE_FORMATTER" "Ljava/util/function/BiFunction;" A U U.heap
theorem sS.warm {q t N : Nat} {f : Nat → Value} {A : Nat → Prop} {s U : State} (hvm : s.vm.Alike U.vm) (hk : ∀ a : Nat, a < s.heap.size → ¬ A a → U.heap[a]? = s.heap[a]?) (h : sS q t N f A s) : sS q t N f A U := by
  obtain ⟨h1, h2, h3, h4, h5, h6⟩ := h
  exact ⟨(h1.moved hvm).kept hk, (h2.moved hvm).kept hk, (h3.moved hvm).kept hk, (h4.moved hvm).kept hk, (h5.moved hvm).kept hk, (h6.moved hvm).kept hk⟩
theorem sS.blind {q t N : Nat} {f : Nat → Value} {A : Nat → Prop} {av : List Value} : FrameBlind (va_Pc av (sS q t N f A)) := fun a U g mk h => ⟨h.1, sS.warm (s := U) (U := U.calling g mk a) (Vm.Alike.refl U.vm) (fun _ _ _ => rfl) h.2⟩
theorem sS.pre {q t N : Nat} {f : Nat → Value} {A : Nat → Prop} {av : List Value} {s U : State} {H : Heap} {locs : List Loc} (h : sS q t N f A s) (hS : va_S A s.heap H locs) (hU : U.heap = H) (hW : s.WarmedH U.vm) : va_Pc av (sS q t N f A) av.toArray U := ⟨rfl, h.warm hW.alike (by rw [hU]; exact hS.2.1)⟩
theorem sS.recv {q t N : Nat} {f : Nat → Value} {A : Nat → Prop} {s : State} {H : Heap} {locs : List Loc} (h : sS q t N f A s) (hS : va_S A s.heap H locs) : ∃ cell : Cell, H[q]? = some cell ∧ cell.vm.isStatics = false ∧ s.vm.findClass "java/lang/String" = some cell.cls := by
  obtain ⟨cell, h1, h2, h3, -⟩ := h.1.kept hS.2.1
  exact ⟨cell, h1, h2, h3⟩
def QcVoid : Array Value → State → Outcome → State → Prop := fun _ st o t => o = .returned none ∧ t.heap = st.heap
section WV
variable {p : Program} {l : Launch} {e : Env} {R : Room} {s : State} {m : MethodId} {args : Array Value} {below : List Frame} {meth : Method} {c : Code} {H : Heap} {locs : List Loc} {cells slots : Nat} {Q : State → Prop} {g : JFrame} {rest : List Value} {a : Array Value}
theorem W.callV0 (hr : CallRun p l e R s m args below meth c H locs cells slots 0 0 g rest (QcVoid a) (fun _ => False)) (kk : W p l e R s m args below meth c H locs cells slots Q { g with pc := g.pc + 3, stack := rest }) : W p l e R s m args below meth c H locs cells slots Q g := by
  intro T hT X
  obtain ⟨v, st₀, t, T', L, h0, X', hL, e1, ⟨hv, hh⟩, st⟩ := hr T hT X
  cases hv
  obtain ⟨t2, a1, b1⟩ := kk T' (by rw [e1, hh, h0]) (Stand.forget X' (fun q h => (hL q h).elim))
  exact ⟨t2, st t2 a1, b1⟩
end WV
set_option maxRecDepth 100000 in
set_option maxHeartbeats 4000000 in
theorem c_coder (l : Launch) {q t N : Nat} {f : Nat → Value} {A : Nat → Prop} : Met l jCoder.1 (mWs jCoder) (sRoom 0) (va_Pc [.ref q] (sS q t N f A)) (QcRead 0) 0 0 (fun _ => False) := by
  refine Met.ofW (cc := jCoder.2.1) (maxL := 1) (ret := some .byte) (by decide) rfl ?_
  intro p e s m args below meth c s₁ B hml hv
  obtain ⟨rfl, hs⟩ := hv
  have hx := B.exec
  have hb := B.bytes
  have hr := B.returns
  have hts : ∀ w ∈ mTB, w.before _ s = true := fun w h => atoms_spec (ws := mWs jCoder) B.pre w (List.mem_cons_of_mem _ h)
  have hown := findClass_of_methodNamed B.named
  have hlo := B.notSynchronized
  have hW : ∀ {w : Cond}, w ∈ mTB → w.before _ s = true := fun h => hts _ h
  have hl := lv_entry ([.ref q]) (n := 1) (Nat.le_of_ble_eq_true rfl)
  rw [lg_entry_eq]
  generalize (lg_sl ([.ref q]) ++ List.replicate (1 - (lg_sl ([.ref q])).length) Slot.unset).toArray = ls at hl ⊢
  refine va_gets hx hb hs.2.2.2.2.1 va_S.rf hown (hW wS_629) (fun _ h => h) dJ0_coder_7d493_0 ?_
  refine lv_if_eq (tgt := 13) hx hb dJ0_coder_7d493_3 (by decide) (fun z => absurd z (by decide)) (fun _ => ?_)
  refine lv_aload_n hx hb dJ0_coder_7d493_6 rfl (lv_at hl 0 rfl) ?_
  refine vk_getf hx hb hs.2.1 va_S.rf hown (hW wS_1502) (fun _ h => h) dJ0_coder_7d493_7 ?_
  refine lv_goto (tgt := 14) hx hb dJ0_coder_7d493_10 (by decide) ?_
  exact W.zret hx hb hr rfl (fun t ht _ => ⟨rfl, ht⟩) (fun q h => by cases h) dJ0_coder_7d493_14 hlo
set_option maxRecDepth 100000 in
set_option maxHeartbeats 4000000 in
theorem c_latin (l : Launch) {q t N : Nat} {f : Nat → Value} {A : Nat → Prop} : Met l jLatin.1 (mWs jLatin) (sRoom 0) (va_Pc [.ref q] (sS q t N f A)) (QcRead 1) 0 0 (fun _ => False) := by
  refine Met.ofW (cc := jLatin.2.1) (maxL := 1) (ret := some .boolean) (by decide) rfl ?_
  intro p e s m args below meth c s₁ B hml hv
  obtain ⟨rfl, hs⟩ := hv
  have hx := B.exec
  have hb := B.bytes
  have hr := B.returns
  have hts : ∀ w ∈ mTB, w.before _ s = true := fun w h => atoms_spec (ws := mWs jLatin) B.pre w (List.mem_cons_of_mem _ h)
  have hown := findClass_of_methodNamed B.named
  have hlo := B.notSynchronized
  have hW : ∀ {w : Cond}, w ∈ mTB → w.before _ s = true := fun h => hts _ h
  have hl := lv_entry ([.ref q]) (n := 1) (Nat.le_of_ble_eq_true rfl)
  rw [lg_entry_eq]
  generalize (lg_sl ([.ref q]) ++ List.replicate (1 - (lg_sl ([.ref q])).length) Slot.unset).toArray = ls at hl ⊢
  refine va_gets hx hb hs.2.2.2.2.1 va_S.rf hown (hW wS_629) (fun _ h => h) dJ0_isLatin1_aae02_0 ?_
  refine lv_if_eq (tgt := 17) hx hb dJ0_isLatin1_aae02_3 (by decide) (fun z => absurd z (by decide)) (fun _ => ?_)
  refine lv_aload_n hx hb dJ0_isLatin1_aae02_6 rfl (lv_at hl 0 rfl) ?_
  refine vk_getf hx hb hs.2.1 va_S.rf hown (hW wS_1502) (fun _ h => h) dJ0_isLatin1_aae02_7 ?_
  refine lv_if_ne (tgt := 17) hx hb dJ0_isLatin1_aae02_10 (by decide) (fun z => absurd rfl z) (fun _ => ?_)
  refine lv_iconst (v := 1) hx hb dJ0_isLatin1_aae02_13 (by decide) ?_
  refine lv_goto (tgt := 18) hx hb dJ0_isLatin1_aae02_14 (by decide) ?_
  exact W.zret hx hb hr rfl (fun t ht _ => ⟨rfl, ht⟩) (fun q h => by cases h) dJ0_isLatin1_aae02_18 hlo
set_option maxRecDepth 100000 in
set_option maxHeartbeats 4000000 in
theorem c_len (l : Launch) {q t N : Nat} {f : Nat → Value} {A : Nat → Prop} : Met l jLen.1 (mWs jLen) (sRoom 1) (va_Pc [.ref q] (sS q t N f A)) (QcRead (Int32.ofNat N)) 0 0 (fun _ => False) := by
  refine Met.ofW (cc := jLen.2.1) (maxL := 1) (ret := some .int) (by decide) rfl ?_
  intro p e s m args below meth c s₁ B hml hv
  obtain ⟨rfl, hs⟩ := hv
  have hx := B.exec
  have hb := B.bytes
  have hr := B.returns
  have hts : ∀ w ∈ mTB, w.before _ s = true := fun w h => atoms_spec (ws := mWs jLen) B.pre w (List.mem_cons_of_mem _ h)
  have hown := findClass_of_methodNamed B.named
  have hlo := B.notSynchronized
  have hW : ∀ {w : Cond}, w ∈ mTB → w.before _ s = true := fun h => hts _ h
  have hl := lv_entry ([.ref q]) (n := 1) (Nat.le_of_ble_eq_true rfl)
  rw [lg_entry_eq]
  generalize (lg_sl ([.ref q]) ++ List.replicate (1 - (lg_sl ([.ref q])).length) Slot.unset).toArray = ls at hl ⊢
  refine lv_aload_n hx hb dJ0_length_8abf5_0 rfl (lv_at hl 0 rfl) ?_
  refine vk_getf hx hb hs.2.2.1 va_S.rf hown (hW wS_1501) (fun _ h => h) dJ0_length_8abf5_1 ?_
  refine va_tlen hx hb hs.2.2.2.1 va_S.rf rfl dJ0_length_8abf5_4 ?_
  refine lv_aload_n hx hb dJ0_length_8abf5_5 rfl (lv_at hl 0 rfl) ?_
  refine W.callR (W.runV (C := "java/lang/String") (As := []) (rest := [.int (Int32.ofNat N)]) ⟨hx, hb, hml, hown, hts⟩ (c_coder l (q := q) (t := t) (N := N) (f := f) (A := A)) ⟨callB_of 0 hts (mGood wS_628) rfl rfl rfl (hW wS_90) (hW wS_625) ⟨by decide, by decide, by decide +kernel⟩ ⟨Nat.le_of_ble_eq_true rfl, Nat.le_of_ble_eq_true rfl⟩, hW wS_626, hW wS_627⟩ ⟨sS.blind, hs.recv va_S.rf, fun U hU hw => hs.pre va_S.rf hU hw⟩ rfl rfl hl.1 rfl (lv_room (Nat.le_of_ble_eq_true rfl)) dJ0_length_8abf5_6 ⟨Nat.le_refl _, Nat.le_refl _⟩) ?_
  refine lv_ishr hx hb dJ0_length_8abf5_9 ?_
  have e9 : Int32.ofNat N >>> ((0 : Int32) &&& 31) = Int32.ofNat N := by
    rw [show ((0 : Int32) &&& 31) = 0 by decide]
    simp
  rw [e9]
  exact W.zret hx hb hr rfl (fun t ht _ => ⟨rfl, ht⟩) (fun q h => by cases h) dJ0_length_8abf5_10 hlo
set_option maxRecDepth 100000 in
set_option maxHeartbeats 4000000 in
theorem c_pre (l : Launch) {i n : Int32} {w : Value} (h0 : ¬ i < 0) (h1 : i < n) (hw : w = .null ∨ ∃ a, w = .ref a) : Met l jPre.1 (mWs jPre) (sRoom 0) (va_Pc [.int i, .int n, w] (fun _ => True)) (QcRead i) 0 0 (fun _ => False) := by
  refine Met.ofW (cc := jPre.2.1) (maxL := 3) (ret := some .int) (by decide) rfl ?_
  intro p e s m args below meth c s₁ B hml hv
  obtain ⟨rfl, -⟩ := hv
  have hx := B.exec
  have hb := B.bytes
  have hr := B.returns
  have hlo := B.notSynchronized
  have hlen : (lg_sl [.int i, .int n, w]).length ≤ 3 := by rcases hw with e | ⟨a, e⟩ <;> (rw [e]; exact Nat.le_of_ble_eq_true rfl)
  have hl := lv_entry [.int i, .int n, w] (n := 3) hlen
  rw [lg_entry_eq]
  generalize (lg_sl ([.int i, .int n, w]) ++ List.replicate (3 - (lg_sl ([.int i, .int n, w])).length) Slot.unset).toArray = ls at hl ⊢
  refine lv_iload_n hx hb dJ3_checkIndex_8e157_0 rfl (lv_at hl 0 rfl) ?_
  refine lv_if_lt (tgt := 9) hx hb dJ3_checkIndex_8e157_1 (by decide) (fun z => absurd z h0) (fun _ => ?_)
  refine lv_iload_n hx hb dJ3_checkIndex_8e157_4 rfl (lv_at hl 0 rfl) ?_
  refine lv_iload_n hx hb dJ3_checkIndex_8e157_5 rfl (lv_at hl 1 rfl) ?_
  refine lv_icmp_lt (tgt := 16) hx hb dJ3_checkIndex_8e157_6 (by decide) (fun _ => ?_) (fun z => absurd h1 z)
  refine lv_iload_n hx hb dJ3_checkIndex_8e157_16 rfl (lv_at hl 0 rfl) ?_
  exact W.zret hx hb hr rfl (fun t ht _ => ⟨rfl, ht⟩) (fun q h => by cases h) dJ3_checkIndex_8e157_17 hlo
set_option maxRecDepth 100000 in
set_option maxHeartbeats 4000000 in
theorem c_chk (l : Launch) {i n : Int32} {q t N : Nat} {f : Nat → Value} {A : Nat → Prop} (h0 : ¬ i < 0) (h1 : i < n) : Met l jChk.1 (mWs jChk) (sRoom 1) (va_Pc [.int i, .int n] (sS q t N f A)) QcVoid 0 0 (fun _ => False) := by
  refine Met.ofW (cc := jChk.2.1) (maxL := 2) (ret := none) (by decide) rfl ?_
  intro p e s m args below meth c s₁ B hml hv
  obtain ⟨rfl, hs⟩ := hv
  have hx := B.exec
  have hb := B.bytes
  have hr := B.returns
  have hts : ∀ w ∈ mTB, w.before _ s = true := fun w h => atoms_spec (ws := mWs jChk) B.pre w (List.mem_cons_of_mem _ h)
  have hown := findClass_of_methodNamed B.named
  have hlo := B.notSynchronized
  have hW : ∀ {w : Cond}, w ∈ mTB → w.before _ s = true := fun h => hts _ h
  have hl := lv_entry ([.int i, .int n]) (n := 2) (Nat.le_of_ble_eq_true rfl)
  rw [lg_entry_eq]
  generalize (lg_sl ([.int i, .int n]) ++ List.replicate (2 - (lg_sl ([.int i, .int n])).length) Slot.unset).toArray = ls at hl ⊢
  have go : ∀ w : Value, (w = .null ∨ ∃ a, w = .ref a) → va_Z "jdk/internal/util/Preconditions" "SIOOBE_FORMATTER" "Ljava/util/function/BiFunction;" w A s s.heap → W p l e (headSpec (mWs jChk) (sRoom 1)).room s m [Value.int i, Value.int n].toArray below meth c s.heap [] 0 0 (MQ below QcVoid [Value.int i, Value.int n].toArray s 0 0 (fun _ => False)) (F0 m 0 ls []) := by
    intro w hw hz
    refine lv_iload_n hx hb dJ0_checkIndex_df160_0 rfl (lv_at hl 0 rfl) ?_
    refine lv_iload_n hx hb dJ0_checkIndex_df160_1 rfl (lv_at hl 1 rfl) ?_
    refine va_gets hx hb hz va_S.rf hown (hW wS_645) (fun _ h => h) dJ0_checkIndex_df160_2 ?_
    refine W.callR (W.runS (As := [.int i, .int n, w]) (rest := []) ⟨hx, hb, hml, hown, hts⟩ (c_pre l h0 h1 hw) ⟨callB_of 3 hts (mGood wS_649) rfl rfl rfl (hW wS_92) (hW wS_647) ⟨by decide, by decide, by decide +kernel⟩ ⟨Nat.le_of_ble_eq_true rfl, Nat.le_of_ble_eq_true rfl⟩, hW wS_648⟩ ⟨fun a U g mk h => ⟨h.1, trivial⟩, fun U hU hw => ⟨rfl, trivial⟩⟩ rfl rfl hl.1 rfl (lv_room (Nat.le_of_ble_eq_true rfl)) dJ0_checkIndex_df160_5 ⟨Nat.le_refl _, Nat.le_refl _⟩) ?_
    refine lv_pop hx hb dJ0_checkIndex_df160_8 rfl ?_
    exact W.vret hx hb hr (fun t ht _ => ⟨rfl, ht⟩) (fun q h => by cases h) dJ0_checkIndex_df160_9 hlo
  rcases hs.2.2.2.2.2 with hz | ⟨a, hz⟩
  · exact go _ (Or.inl rfl) hz
  · exact go _ (Or.inr ⟨a, rfl⟩) hz
set_option maxRecDepth 100000 in
set_option maxHeartbeats 4000000 in
theorem c_lat (l : Launch) {i v : Int32} {q t N : Nat} {f : Nat → Value} {A : Nat → Prop} (h0 : ¬ i < 0) (h1 : i < Int32.ofNat N) (hin : vp_in i N) (hf : f i.toNatClampNeg = .int v) (hv : v &&& 255 = v) (hv2 : (v.toUInt32 % 65536).toInt32 = v) (hv3 : narrow .char (.int v) = .int v) : Met l jLat.1 (mWs jLat) (sRoom 2) (va_Pc [.ref t, .int i] (sS q t N f A)) (QcRead v) 0 0 (fun _ => False) := by
  refine Met.ofW (cc := jLat.2.1) (maxL := 2) (ret := some .char) (by decide) rfl ?_
  intro p e s m args below meth c s₁ B hml hv
  obtain ⟨rfl, hs⟩ := hv
  have hx := B.exec
  have hb := B.bytes
  have hr := B.returns
  have hts : ∀ w ∈ mTB, w.before _ s = true := fun w h => atoms_spec (ws := mWs jLat) B.pre w (List.mem_cons_of_mem _ h)
  have hown := findClass_of_methodNamed B.named
  have hlo := B.notSynchronized
  have hW : ∀ {w : Cond}, w ∈ mTB → w.before _ s = true := fun h => hts _ h
  have hl := lv_entry ([.ref t, .int i]) (n := 2) (Nat.le_of_ble_eq_true rfl)
  rw [lg_entry_eq]
  generalize (lg_sl ([.ref t, .int i]) ++ List.replicate (2 - (lg_sl ([.ref t, .int i])).length) Slot.unset).toArray = ls at hl ⊢
  refine lv_iload_n hx hb dJ1_charAt_3b067_0 rfl (lv_at hl 1 rfl) ?_
  refine lv_aload_n hx hb dJ1_charAt_3b067_1 rfl (lv_at hl 0 rfl) ?_
  refine va_tlen hx hb hs.2.2.2.1 va_S.rf rfl dJ1_charAt_3b067_2 ?_
  refine W.callV0 (W.runS (As := [.int i, .int (Int32.ofNat N)]) (rest := []) ⟨hx, hb, hml, hown, hts⟩ (c_chk l (q := q) (t := t) (N := N) (f := f) (A := A) h0 h1) ⟨callB_of 2 hts (mGood wS_644) rfl rfl rfl (hW wS_90) (hW wS_642) ⟨by decide, by decide, by decide +kernel⟩ ⟨Nat.le_of_ble_eq_true rfl, Nat.le_of_ble_eq_true rfl⟩, hW wS_643⟩ ⟨sS.blind, fun U hU hw => hs.pre va_S.rf hU hw⟩ rfl rfl hl.1 rfl (lv_room (Nat.le_of_ble_eq_true rfl)) dJ1_charAt_3b067_3 ⟨Nat.le_refl _, Nat.le_refl _⟩) ?_
  refine lv_aload_n hx hb dJ1_charAt_3b067_6 rfl (lv_at hl 0 rfl) ?_
  refine lv_iload_n hx hb dJ1_charAt_3b067_7 rfl (lv_at hl 1 rfl) ?_
  refine va_tb hx hb hs.2.2.2.1 va_S.rf hin hf dJ1_charAt_3b067_8 ?_
  refine lv_sipush (v := 255) hx hb dJ1_charAt_3b067_9 (by decide) ?_
  refine lv_iand hx hb dJ1_charAt_3b067_12 ?_
  rw [hv]
  refine lv_i2c hx hb dJ1_charAt_3b067_13 hv2 ?_
  exact W.zret hx hb hr hv3 (fun t ht _ => ⟨rfl, ht⟩) (fun q h => by cases h) dJ1_charAt_3b067_14 hlo
set_option maxRecDepth 100000 in
set_option maxHeartbeats 4000000 in
theorem c_ch (l : Launch) {i v : Int32} {q t N : Nat} {f : Nat → Value} {A : Nat → Prop} (h0 : ¬ i < 0) (h1 : i < Int32.ofNat N) (hin : vp_in i N) (hf : f i.toNatClampNeg = .int v) (hv : v &&& 255 = v) (hv2 : (v.toUInt32 % 65536).toInt32 = v) (hv3 : narrow .char (.int v) = .int v) : Met l jCh.1 (mWs jCh) (sRoom 3) (va_Pc [.ref q, .int i] (sS q t N f A)) (QcRead v) 0 0 (fun _ => False) := by
  refine Met.ofW (cc := jCh.2.1) (maxL := 2) (ret := some .char) (by decide) rfl ?_
  intro p e s m args below meth c s₁ B hml hv
  obtain ⟨rfl, hs⟩ := hv
  have hx := B.exec
  have hb := B.bytes
  have hr := B.returns
  have hts : ∀ w ∈ mTB, w.before _ s = true := fun w h => atoms_spec (ws := mWs jCh) B.pre w (List.mem_cons_of_mem _ h)
  have hown := findClass_of_methodNamed B.named
  have hlo := B.notSynchronized
  have hW : ∀ {w : Cond}, w ∈ mTB → w.before _ s = true := fun h => hts _ h
  have hl := lv_entry ([.ref q, .int i]) (n := 2) (Nat.le_of_ble_eq_true rfl)
  rw [lg_entry_eq]
  generalize (lg_sl ([.ref q, .int i]) ++ List.replicate (2 - (lg_sl ([.ref q, .int i])).length) Slot.unset).toArray = ls at hl ⊢
  refine lv_aload_n hx hb dJ0_charAt_5068e_0 rfl (lv_at hl 0 rfl) ?_
  refine W.callR (W.runV (C := "java/lang/String") (As := []) (rest := []) ⟨hx, hb, hml, hown, hts⟩ (c_latin l (q := q) (t := t) (N := N) (f := f) (A := A)) ⟨callB_of 0 hts (mGood wS_638) rfl rfl rfl (hW wS_90) (hW wS_635) ⟨by decide, by decide, by decide +kernel⟩ ⟨Nat.le_of_ble_eq_true rfl, Nat.le_of_ble_eq_true rfl⟩, hW wS_636, hW wS_637⟩ ⟨sS.blind, hs.recv va_S.rf, fun U hU hw => hs.pre va_S.rf hU hw⟩ rfl rfl hl.1 rfl (lv_room (Nat.le_of_ble_eq_true rfl)) dJ0_charAt_5068e_1 ⟨Nat.le_refl _, Nat.le_refl _⟩) ?_
  refine lv_if_eq (tgt := 16) hx hb dJ0_charAt_5068e_4 rfl (fun z => absurd z (by decide)) (fun _ => ?_)
  refine lv_aload_n hx hb dJ0_charAt_5068e_7 rfl (lv_at hl 0 rfl) ?_
  refine vk_getf hx hb hs.2.2.1 va_S.rf hown (hW wS_1501) (fun _ h => h) dJ0_charAt_5068e_8 ?_
  refine lv_iload_n hx hb dJ0_charAt_5068e_11 rfl (lv_at hl 1 rfl) ?_
  refine W.callR (W.runS (As := [.ref t, .int i]) (rest := []) ⟨hx, hb, hml, hown, hts⟩ (c_lat l (q := q) (t := t) (N := N) (f := f) (A := A) h0 h1 hin hf hv hv2 hv3) ⟨callB_of 2 hts (mGood wS_641) rfl rfl rfl (hW wS_91) (hW wS_639) ⟨by decide, by decide, by decide +kernel⟩ ⟨Nat.le_of_ble_eq_true rfl, Nat.le_of_ble_eq_true rfl⟩, hW wS_640⟩ ⟨sS.blind, fun U hU hw => hs.pre va_S.rf hU hw⟩ rfl rfl hl.1 rfl (lv_room (Nat.le_of_ble_eq_true rfl)) dJ0_charAt_5068e_12 ⟨Nat.le_refl _, Nat.le_refl _⟩) ?_
  exact W.zret hx hb hr hv3 (fun t ht _ => ⟨rfl, ht⟩) (fun q h => by cases h) dJ0_charAt_5068e_15 hlo
theorem mStE.at {E : mE} {U : State} (h : mStE E U) {a : Nat} (h1 : 2 ≤ a) (h2 : a ≤ 12) : ∃ t : Nat, sS (mra E a) t (mLen.getD (a - 2) 0) (fun j => .int ((mByt.getD (a - 2) []).getD j 0)) (mA E) U := by
  obtain ⟨-, ⟨adV, hs⟩, hz, hq⟩ := h
  have e9 : mra E a = E.2.2.1 (2 + (a - 2)) := by
    unfold mra
    rw [if_pos (by omega), if_neg (by omega), show 2 + (a - 2) = a by omega]
  obtain ⟨g1, g2, g3, g4⟩ := hs.1 (a - 2) (by omega)
  exact ⟨adV (a - 2), by rw [e9]; exact ⟨g1, g2, g3, g4, hz, hq⟩⟩
theorem mStr_len : ∀ a, a < 11 → (mStr (a + 2)).length = mLen.getD a 0 := by decide
theorem mStr_at : ∀ a, a < 11 → ∀ j, j < 6 → j < mLen.getD a 0 → (mByt.getD a []).getD j 0 = Int32.ofInt ((mStr (a + 2)).getD j 0) ∧ 0 ≤ (mStr (a + 2)).getD j 0 ∧ (mStr (a + 2)).getD j 0 < 128 := by decide
theorem ch_ok : ∀ v : Nat, v < 128 → (Int32.ofInt v &&& 255 = Int32.ofInt v) ∧ ((Int32.ofInt v).toUInt32 % 65536).toInt32 = Int32.ofInt v ∧ vp_nar .char (Int32.ofInt v) = Int32.ofInt v := by decide +kernel
section SN9
variable {MT : Nat → mM} {y : mM} {P : Nat × Nat → Nat × Nat → Prop} {G : mE → State → Prop} {pc n : Nat}
theorem sn_lds {j : Nat} (hj : j < 11) (how : y.1.cls = "SharedNights$Form") (hd : decode y.2.1 pc = .ok (.ldc (mIdx j), 2)) (hn : pc + 2 = n) : SndT MT y P G pc (o_push (vr (2 + j)) n) := by
  intro E l p e R s m args below meth c Z C d n0 s0 lim Q X hG hR ls st h H
  obtain ⟨r, rfl, k9⟩ := H
  intro H locs arr cl sl hh hl hS e1 e2
  subst hn
  have hz := X.2.2.2.2.2.1.2.2.2.2.2.2.2.2.2.2.2.1 j hj
  have k9 := k9 H locs arr cl sl hh hl hS e1 e2
  have e9 : mra E (2 + j) = E.2.2.1 (2 + j) := by
    unfold mra
    rw [if_pos (by omega), if_neg (by omega)]
  simp only [List.map_cons, vv_ref (E := E) (a := 2 + j) (by omega), e9] at k9
  exact va_ldcS X.1 X.2.1 (by rw [← how]; exact X.2.2.2.1) hz hd k9
theorem sn_strlen {idx : Nat} (hw : Cond.methodLink y.1.cls idx yJ0_length_8abf5 ∈ mTB) (hd : decode y.2.1 pc = .ok (.invokevirtual idx, 3)) (hn : pc + 3 = n) : SndT MT y P G pc (o_strlen n) := by
  intro E l p e R s m args below meth c Z C d n0 s0 lim Q X hG hR ls st h H
  obtain ⟨a, r, rfl, h0, h1, h2, l1, l2, l3, k9⟩ := H
  intro H locs arr cl sl hh hl hS e1 e2
  subst hn
  obtain ⟨b1, b2, b3, b4⟩ := X.2.2.2.2.2.2.2.2.1
  obtain ⟨t, hs⟩ := X.2.2.2.2.2.1.2.2.2.2.2.2.2.2.2.2.2.at h0 h1
  have hfr := X.2.2.2.2.2.2.2.1
  simp only [List.map_cons, vv_ref (E := E) (a := a) (by omega)]
  refine W.callR (W.runV (C := "java/lang/String") (As := []) (rest := r.map (vv E)) ⟨X.1, X.2.1, X.2.2.1, X.2.2.2.1, X.2.2.2.2.1⟩ (c_len l) ⟨callB_of 0 X.2.2.2.2.1 (mGood wS_624) rfl rfl rfl (X.word wS_90) (X.word hw) ⟨by decide, by decide, by decide +kernel⟩ ⟨by show 2 + 1 ≤ R.frames; omega, by show 8 + (1 + 11) + 128 ≤ R.locals; omega⟩, X.word wS_622, X.word wS_623⟩ ⟨sS.blind, hs.recv hS, fun U hU hw => hs.pre hS hU hw⟩ rfl rfl hl.2.1 rfl (lv_room (vv_sum4 h2)) hd ⟨by omega, by omega⟩) ?_
  have k9 := k9 H locs arr cl sl hh hl hS e1 e2
  have e8 : (mStr a).length = mLen.getD (a - 2) 0 := by
    have := mStr_len (a - 2) (by omega)
    rwa [show a - 2 + 2 = a by omega] at this
  simp only [List.map_cons, vv, e8, Int32.ofInt_eq_ofNat] at k9
  exact k9
theorem sn_charAt {idx : Nat} (hw : Cond.methodLink y.1.cls idx yJ0_charAt_5068e ∈ mTB) (hd : decode y.2.1 pc = .ok (.invokevirtual idx, 3)) (hn : pc + 3 = n) : SndT MT y P G pc (o_charAt n) := by
  intro E l p e R s m args below meth c Z C d n0 s0 lim Q X hG hR ls st h H
  obtain ⟨i, a, r, rfl, h0, h1, i0, i1, h2, l1, l2, l3, k9⟩ := H
  intro H locs arr cl sl hh hl hS e1 e2
  subst hn
  obtain ⟨b1, b2, b3, b4⟩ := X.2.2.2.2.2.2.2.2.1
  obtain ⟨t, hs⟩ := X.2.2.2.2.2.1.2.2.2.2.2.2.2.2.2.2.2.at h0 h1
  have hfr := X.2.2.2.2.2.2.2.1
  have e8 : (mStr a).length = mLen.getD (a - 2) 0 := by
    have := mStr_len (a - 2) (by omega)
    rwa [show a - 2 + 2 = a by omega] at this
  rw [e8] at i1
  have hle : ∀ a, a < 11 → mLen.getD a 0 ≤ 6 := by decide
  have h6 := hle (a - 2) (by omega)
  obtain ⟨c1, c2, c3⟩ := mStr_at (a - 2) (by omega) i.toNat (by omega) (by omega)
  rw [show a - 2 + 2 = a by omega] at c1 c2 c3
  obtain ⟨v, hv⟩ : ∃ v : Nat, ((mStr a).getD i.toNat 0) = (v : Int) := ⟨_, (Int.toNat_of_nonneg c2).symm⟩
  rw [hv] at c1 c2 c3
  obtain ⟨d1, d2, d3⟩ := ch_ok v (by omega)
  have d4 : narrow .char (.int (Int32.ofInt v)) = .int (Int32.ofInt v) := by
    have : ∀ x : Int32, narrow .char (.int x) = .int (vp_nar .char x) := fun x => rfl
    rw [this, d3]
  have hn0 : ¬ Int32.ofInt i < 0 := fun q => by
    have := (i32_lt (a := i) (b := 0) ⟨by omega, by omega⟩ inR_0).mp q
    omega
  have hn1 : Int32.ofInt i < Int32.ofNat (mLen.getD (a - 2) 0) := by
    rw [← Int32.ofInt_eq_ofNat]
    exact (i32_lt ⟨by omega, by omega⟩ ⟨by omega, by omega⟩).mpr (by omega)
  have hin := i32_in i0 i1 (by omega)
  simp only [List.map_cons, vv_ref (E := E) (a := a) (by omega)]
  refine W.callR (W.runV (C := "java/lang/String") (As := [.int (Int32.ofInt i)]) (rest := r.map (vv E)) ⟨X.1, X.2.1, X.2.2.1, X.2.2.2.1, X.2.2.2.2.1⟩ (c_ch l (v := Int32.ofInt v) hn0 hn1 hin (by rw [i32_clamp i0 (by omega)]; exact congrArg Value.int c1) d1 d2 d4) ⟨callB_of 1 X.2.2.2.2.1 (mGood wS_634) rfl rfl rfl (X.word wS_90) (X.word hw) ⟨by decide, by decide, by decide +kernel⟩ ⟨by show 4 + 1 ≤ R.frames; omega, by show 8 + (2 + 11) + 256 ≤ R.locals; omega⟩, X.word wS_632, X.word wS_633⟩ ⟨sS.blind, hs.recv hS, fun U hU hw => hs.pre hS hU hw⟩ rfl rfl hl.2.1 rfl (lv_room (vv_sum4 h2)) hd ⟨by omega, by omega⟩) ?_
  have k9 := k9 H locs arr cl sl hh hl hS e1 e2
  rw [hv] at k9
  exact k9
end SN9
