theorem mCx.word {E : mE} {MT : Nat → mM} {y : mM} {d : Nat} {l : Launch} {p : Program} {R : Room} {s : State} {m : MethodId} {args : Array Value} {meth : Method} {c : Code} {C : mC} {lim : Nat × Nat} {n0 s0 : Nat} (X : mCx E MT y d l p R s m args meth c C lim n0 s0) {w : Cond} (hw : w ∈ mTB) : w.before args s = true := X.2.2.2.2.1 w hw
theorem mTB_of {w : Cond} (i : Nat) (h : lw_tbl[i]? = some w) (hg : goodWord w = true) : w ∈ mTB := List.mem_filter.mpr ⟨List.mem_of_getElem? h, hg⟩
theorem vv_ref {E : mE} {a : Nat} (h : a ≠ 0) : vv E (vr a) = .ref (mra E a) := by
  show va_rf (mro E a) = _
  simp [mro, h, va_rf]
theorem vv_cat (E : mE) (v : mV) : (vv E v).category ≤ 2 := by
  match v with
  | .inl z => show 1 ≤ 2; decide
  | .inr (.inl z) => show 2 ≤ 2; decide
  | .inr (.inr (.inl a)) => show (va_rf _).category ≤ 2; rw [va_rf_cat]; decide
  | .inr (.inr (.inr u)) => show 1 ≤ 2; decide
theorem vv_sum (E : mE) : ∀ (r : List mV), ((r.map (vv E)).map fun v => v.category).sum ≤ mcat r
  | [] => by simp [mcat]
  | .inl z :: r => by
    have h2 := vv_sum E r
    have e : (vv E (.inl z)).category = 1 := rfl
    simp only [List.map_cons, List.sum_cons, mcat, e]
    omega
  | .inr (.inl z) :: r => by
    have h2 := vv_sum E r
    have e : (vv E (.inr (.inl z))).category = 2 := rfl
    simp only [List.map_cons, List.sum_cons, mcat, e]
    omega
  | .inr (.inr (.inl z)) :: r => by
    have h2 := vv_sum E r
    have e : (vv E (.inr (.inr (.inl z)))).category = 1 := va_rf_cat _
    simp only [List.map_cons, List.sum_cons, mcat, e]
    omega
  | .inr (.inr (.inr z)) :: r => by
    have h2 := vv_sum E r
    have e : (vv E (.inr (.inr (.inr z)))).category = 1 := rfl
    simp only [List.map_cons, List.sum_cons, mcat, e]
    omega
theorem vv_sum4 {E : mE} {r : List mV} (h : mcat r ≤ 8) : ((r.map (vv E)).map fun v => v.category).sum ≤ 8 := by
  have := vv_sum E r
  omega
theorem i64_to {a : Int} (ha : inL a) : (Int64.ofInt a).toInt = a := Int64.toInt_ofInt_of_le ha.1 ha.2
theorem i64_lt {a b : Int} (ha : inL a) (hb : inL b) : Int64.ofInt a < Int64.ofInt b ↔ a < b := Int64.ofInt_lt_iff_lt (inL_lo ha) (inL_hi ha) (inL_lo hb) (inL_hi hb)
theorem i64_eq {a b : Int} (ha : inL a) (hb : inL b) : Int64.ofInt a = Int64.ofInt b ↔ a = b := by
  constructor
  · intro h
    have := congrArg Int64.toInt h
    rwa [i64_to ha, i64_to hb] at this
  · intro h
    rw [h]
theorem inL_0 : inL 0 := by constructor <;> decide
theorem i32_div {a b : Int} (ha : inR a) (hb : inR b) : Int32.ofInt (a.tdiv b) = Int32.ofInt a / Int32.ofInt b := Int32.ofInt_tdiv (inR_lo ha) (inR_hi ha) (inR_lo hb) (inR_hi hb)
theorem i64_div {a b : Int} (ha : inL a) (hb : inL b) : Int64.ofInt (a.tdiv b) = Int64.ofInt a / Int64.ofInt b := Int64.ofInt_tdiv (inL_lo ha) (inL_hi ha) (inL_lo hb) (inL_hi hb)
theorem i32_rem {a b : Int} (ha : inR a) (hb : inR b) : Int32.ofInt (a.tmod b) = Int32.ofInt a - Int32.ofInt a / Int32.ofInt b * Int32.ofInt b := by
  rw [Int.tmod_def, Int32.ofInt_sub, Int.mul_comm, Int32.ofInt_mul, i32_div ha hb]
theorem i64_rem {a b : Int} (ha : inL a) (hb : inL b) : Int64.ofInt (a.tmod b) = Int64.ofInt a - Int64.ofInt a / Int64.ofInt b * Int64.ofInt b := by
  rw [Int.tmod_def, Int64.ofInt_sub, Int.mul_comm, Int64.ofInt_mul, i64_div ha hb]
theorem i64_cmp {a b : Int} (ha : inL a) (hb : inL b) : lg_cmp (Int64.ofInt a) (Int64.ofInt b) = Int32.ofInt (mcmp a b) := by
  unfold lg_cmp mcmp
  by_cases h1 : b < a
  · rw [if_pos h1, if_pos ((i64_lt hb ha).mpr h1)]; rfl
  · rw [if_neg h1, if_neg (fun q => h1 ((i64_lt hb ha).mp q))]
    by_cases h2 : a = b
    · rw [if_pos h2, if_pos ((i64_eq ha hb).mpr h2)]; rfl
    · rw [if_neg h2, if_neg (fun q => h2 ((i64_eq ha hb).mp q))]; rfl
theorem i32_clamp {i : Int} (h0 : 0 ≤ i) (h1 : i < 2147483648) : (Int32.ofInt i).toNatClampNeg = i.toNat := by
  have h : (Int32.ofInt i).toInt = i := i32_to ⟨by omega, h1⟩
  show (Int32.ofInt i).toInt.toNat = i.toNat
  rw [h]
theorem i32_in {i : Int} {n : Nat} (h0 : 0 ≤ i) (h1 : i < n) (hn : n < 2147483648) : vp_in (Int32.ofInt i) n := by
  rw [vp_in_iff, i32_to ⟨by omega, by omega⟩]
  exact ⟨h0, h1⟩
section SN2
variable {MT : Nat → mM} {y : mM} {P : Nat × Nat → Nat × Nat → Prop} {G : mE → State → Prop} {pc n : Nat}
theorem sn_bipush {z k : Int} (hz : (Int8.ofInt k).toInt32 = Int32.ofInt z) (hd : decode y.2.1 pc = .ok (.bipush k, 2)) (hn : pc + 2 = n) : SndT MT y P G pc (o_push (vi z) n) := by
  intro E l p e R s m args below meth c Z C d n0 s0 lim Q X hG hR ls st h H
  obtain ⟨r, rfl, k9⟩ := H
  intro H locs arr cl sl hh hl hS e1 e2
  subst hn
  exact lv_bipush X.1 X.2.1 hd hz (k9 H locs arr cl sl hh hl hS e1 e2)
theorem sn_sipush {z k : Int} (hz : (Int16.ofInt k).toInt32 = Int32.ofInt z) (hd : decode y.2.1 pc = .ok (.sipush k, 3)) (hn : pc + 3 = n) : SndT MT y P G pc (o_push (vi z) n) := by
  intro E l p e R s m args below meth c Z C d n0 s0 lim Q X hG hR ls st h H
  obtain ⟨r, rfl, k9⟩ := H
  intro H locs arr cl sl hh hl hS e1 e2
  subst hn
  exact lv_sipush X.1 X.2.1 hd hz (k9 H locs arr cl sl hh hl hS e1 e2)
theorem sn_lconst {k : Fin 2} (hd : decode y.2.1 pc = .ok (.lconst k, 1)) (hn : pc + 1 = n) : SndT MT y P G pc (o_push (vl (k : Nat)) n) := by
  intro E l p e R s m args below meth c Z C d n0 s0 lim Q X hG hR ls st h H
  obtain ⟨r, rfl, k9⟩ := H
  intro H locs arr cl sl hh hl hS e1 e2
  subst hn
  exact lv_lconst X.1 X.2.1 hd (Int64.ofInt_eq_ofNat (n := (k : Nat))).symm (k9 H locs arr cl sl hh hl hS e1 e2)
theorem sn_ldc {z : Int} {v : Int32} {k : Nat} (hw : Cond.constant y.1.cls k v ∈ mTB) (hz : v = Int32.ofInt z) (hd : decode y.2.1 pc = .ok (.ldc k, 2)) (hn : pc + 2 = n) : SndT MT y P G pc (o_push (vi z) n) := by
  intro E l p e R s m args below meth c Z C d n0 s0 lim Q X hG hR ls st h H
  obtain ⟨r, rfl, k9⟩ := H
  intro H locs arr cl sl hh hl hS e1 e2
  subst hn
  subst hz
  exact lv_ldc X.1 X.2.1 X.2.2.2.1 (X.word hw) hd (k9 H locs arr cl sl hh hl hS e1 e2)
theorem sn_ldcw {z : Int} {v : Int32} {k : Nat} (hw : Cond.constant y.1.cls k v ∈ mTB) (hz : v = Int32.ofInt z) (hd : decode y.2.1 pc = .ok (.ldc_w k, 3)) (hn : pc + 3 = n) : SndT MT y P G pc (o_push (vi z) n) := by
  intro E l p e R s m args below meth c Z C d n0 s0 lim Q X hG hR ls st h H
  obtain ⟨r, rfl, k9⟩ := H
  intro H locs arr cl sl hh hl hS e1 e2
  subst hn
  subst hz
  exact lv_ldcw X.1 X.2.1 X.2.2.2.1 (X.word hw) hd (k9 H locs arr cl sl hh hl hS e1 e2)
theorem sn_ldc2 {z : Int} {v : Int64} {k : Nat} (hw : Cond.constantLong y.1.cls k v ∈ mTB) (hz : v = Int64.ofInt z) (hd : decode y.2.1 pc = .ok (.ldc2_w k, 3)) (hn : pc + 3 = n) : SndT MT y P G pc (o_push (vl z) n) := by
  intro E l p e R s m args below meth c Z C d n0 s0 lim Q X hG hR ls st h H
  obtain ⟨r, rfl, k9⟩ := H
  intro H locs arr cl sl hh hl hS e1 e2
  subst hn
  subst hz
  exact lv_ldc2 X.1 X.2.1 X.2.2.2.1 (X.word hw) hd (k9 H locs arr cl sl hh hl hS e1 e2)
theorem sn_iload_n {k : Fin 4} (hd : decode y.2.1 pc = .ok (.iload_n k, 1)) (hn : pc + 1 = n) : SndT MT y P G pc (o_ild k n) := by
  intro E l p e R s m args below meth c Z C d n0 s0 lim Q X hG hR ls st h H
  obtain ⟨z, h0, k9⟩ := H
  intro H locs arr cl sl hh hl hS e1 e2
  subst hn
  exact lv_iload_n X.1 X.2.1 hd rfl (hl.has h0 (fun q => by cases q)) (k9 H locs arr cl sl hh hl hS e1 e2)
theorem sn_lload_n {k : Fin 4} (hd : decode y.2.1 pc = .ok (.lload_n k, 1)) (hn : pc + 1 = n) : SndT MT y P G pc (o_lld k n) := by
  intro E l p e R s m args below meth c Z C d n0 s0 lim Q X hG hR ls st h H
  obtain ⟨z, h0, k9⟩ := H
  intro H locs arr cl sl hh hl hS e1 e2
  subst hn
  exact lv_lload_n X.1 X.2.1 hd rfl (hl.has h0 (fun q => by cases q)) (k9 H locs arr cl sl hh hl hS e1 e2)
theorem sn_lload {k : Nat} (hd : decode y.2.1 pc = .ok (.lload k, 2)) (hn : pc + 2 = n) : SndT MT y P G pc (o_lld k n) := by
  intro E l p e R s m args below meth c Z C d n0 s0 lim Q X hG hR ls st h H
  obtain ⟨z, h0, k9⟩ := H
  intro H locs arr cl sl hh hl hS e1 e2
  subst hn
  exact lv_lload X.1 X.2.1 hd (hl.has h0 (fun q => by cases q)) (k9 H locs arr cl sl hh hl hS e1 e2)
theorem sn_aload_n {k : Fin 4} (hd : decode y.2.1 pc = .ok (.aload_n k, 1)) (hn : pc + 1 = n) : SndT MT y P G pc (o_ald k n) := by
  intro E l p e R s m args below meth c Z C d n0 s0 lim Q X hG hR ls st h H
  obtain ⟨z, h0, k9⟩ := H
  intro H locs arr cl sl hh hl hS e1 e2
  subst hn
  have q := hl.has h0 (fun q => by cases q)
  have k9 := k9 H locs arr cl sl hh hl hS e1 e2
  by_cases hz : z = 0
  · subst hz
    exact lv_aload_nN X.1 X.2.1 hd rfl q k9
  · rw [vv_ref hz] at q
    simp only [List.map_cons, vv_ref hz] at k9
    exact lv_aload_n X.1 X.2.1 hd rfl q k9
theorem sn_aload {k : Nat} (hd : decode y.2.1 pc = .ok (.aload k, 2)) (hn : pc + 2 = n) : SndT MT y P G pc (o_ald k n) := by
  intro E l p e R s m args below meth c Z C d n0 s0 lim Q X hG hR ls st h H
  obtain ⟨z, h0, k9⟩ := H
  intro H locs arr cl sl hh hl hS e1 e2
  subst hn
  have q := hl.has h0 (fun q => by cases q)
  have k9 := k9 H locs arr cl sl hh hl hS e1 e2
  by_cases hz : z = 0
  · subst hz
    exact lv_aloadN X.1 X.2.1 hd q k9
  · rw [vv_ref hz] at q
    simp only [List.map_cons, vv_ref hz] at k9
    exact lv_aload X.1 X.2.1 hd q k9
theorem sn_istore_n {k : Fin 4} (hk : (k : Nat) < y.2.2.1) (hd : decode y.2.1 pc = .ok (.istore_n k, 1)) (hn : pc + 1 = n) : SndT MT y P G pc (o_ist k n) := by
  intro E l p e R s m args below meth c Z C d n0 s0 lim Q X hG hR ls st h H
  obtain ⟨z, r, rfl, k9⟩ := H
  intro H locs arr cl sl hh hl hS e1 e2
  subst hn
  exact lv_istore_n X.1 X.2.1 hd rfl hl.lv hk rfl (fun arr' h' => k9 H locs arr' cl sl hh (hl.put1 hk h') hS e1 e2)
theorem sn_lstore_n {k : Fin 4} (hk : (k : Nat) + 1 < y.2.2.1) (hd : decode y.2.1 pc = .ok (.lstore_n k, 1)) (hn : pc + 1 = n) : SndT MT y P G pc (o_lst k n) := by
  intro E l p e R s m args below meth c Z C d n0 s0 lim Q X hG hR ls st h H
  obtain ⟨z, r, rfl, k9⟩ := H
  intro H locs arr cl sl hh hl hS e1 e2
  subst hn
  exact lv_lstore_n X.1 X.2.1 hd rfl hl.lv hk rfl (fun arr' h' => k9 H locs arr' cl sl hh (hl.put2 hk h') hS e1 e2)
theorem sn_lstore {k : Nat} (hk : k + 1 < y.2.2.1) (hd : decode y.2.1 pc = .ok (.lstore k, 2)) (hn : pc + 2 = n) : SndT MT y P G pc (o_lst k n) := by
  intro E l p e R s m args below meth c Z C d n0 s0 lim Q X hG hR ls st h H
  obtain ⟨z, r, rfl, k9⟩ := H
  intro H locs arr cl sl hh hl hS e1 e2
  subst hn
  exact lv_lstore X.1 X.2.1 hd hl.lv hk rfl (fun arr' h' => k9 H locs arr' cl sl hh (hl.put2 hk h') hS e1 e2)
theorem sn_astore_n {k : Fin 4} (hk : (k : Nat) < y.2.2.1) (hd : decode y.2.1 pc = .ok (.astore_n k, 1)) (hn : pc + 1 = n) : SndT MT y P G pc (o_ast k n) := by
  intro E l p e R s m args below meth c Z C d n0 s0 lim Q X hG hR ls st h H
  obtain ⟨z, r, rfl, k9⟩ := H
  intro H locs arr cl sl hh hl hS e1 e2
  subst hn
  by_cases hz : z = 0
  · subst hz
    exact lv_astore_nN X.1 X.2.1 hd rfl hl.lv hk rfl (fun arr' h' => k9 H locs arr' cl sl hh (hl.put1 (v := vr 0) hk h') hS e1 e2)
  · simp only [List.map_cons, vv_ref hz]
    exact lv_astore_n X.1 X.2.1 hd rfl hl.lv hk rfl (fun arr' h' => k9 H locs arr' cl sl hh (hl.put1 (v := vr z) hk (by rw [vv_ref hz]; exact h')) hS e1 e2)
theorem sn_astore {k : Nat} (hk : k < y.2.2.1) (hd : decode y.2.1 pc = .ok (.astore k, 2)) (hn : pc + 2 = n) : SndT MT y P G pc (o_ast k n) := by
  intro E l p e R s m args below meth c Z C d n0 s0 lim Q X hG hR ls st h H
  obtain ⟨z, r, rfl, k9⟩ := H
  intro H locs arr cl sl hh hl hS e1 e2
  subst hn
  by_cases hz : z = 0
  · subst hz
    exact lv_astoreN X.1 X.2.1 hd hl.lv hk rfl (fun arr' h' => k9 H locs arr' cl sl hh (hl.put1 (v := vr 0) hk h') hS e1 e2)
  · simp only [List.map_cons, vv_ref hz]
    exact lv_astore X.1 X.2.1 hd hl.lv hk rfl (fun arr' h' => k9 H locs arr' cl sl hh (hl.put1 (v := vr z) hk (by rw [vv_ref hz]; exact h')) hS e1 e2)
theorem sn_iinc {k : Nat} {dz : Int} (hk : k < y.2.2.1) (hd : decode y.2.1 pc = .ok (.iinc k dz, 3)) (hn : pc + 3 = n) : SndT MT y P G pc (o_iinc k dz n) := by
  intro E l p e R s m args below meth c Z C d n0 s0 lim Q X hG hR ls st h H
  obtain ⟨z, h0, k9⟩ := H
  intro H locs arr cl sl hh hl hS e1 e2
  subst hn
  obtain ⟨j, hj⟩ := List.mem_iff_getElem?.mp (mlv_mem (E := E) h0 (fun q => by cases q))
  exact lv_iinc X.1 X.2.1 hd hl.lv hj (Int32.ofInt_add z dz).symm hk rfl (fun arr' h' => k9 H locs arr' cl sl hh (hl.put1 hk h') hS e1 e2)
theorem sn_isub  (hd : decode y.2.1 pc = .ok (.isub, 1)) (hn : pc + 1 = n) : SndT MT y P G pc (o_isub n) := by
  intro E l p e R s m args below meth c Z C d n0 s0 lim Q X hG hR ls st h H
  obtain ⟨a, b, r, rfl, k9⟩ := H
  intro H locs arr cl sl hh hl hS e1 e2
  subst hn
  refine lv_isub X.1 X.2.1 hd ?_
  rw [← Int32.ofInt_sub]
  exact k9 H locs arr cl sl hh hl hS e1 e2
theorem sn_imul  (hd : decode y.2.1 pc = .ok (.imul, 1)) (hn : pc + 1 = n) : SndT MT y P G pc (o_imul n) := by
  intro E l p e R s m args below meth c Z C d n0 s0 lim Q X hG hR ls st h H
  obtain ⟨a, b, r, rfl, k9⟩ := H
  intro H locs arr cl sl hh hl hS e1 e2
  subst hn
  refine lv_imul X.1 X.2.1 hd ?_
  rw [← Int32.ofInt_mul]
  exact k9 H locs arr cl sl hh hl hS e1 e2
theorem sn_iand  (hd : decode y.2.1 pc = .ok (.iand, 1)) (hn : pc + 1 = n) : SndT MT y P G pc (o_iand n) := by
  intro E l p e R s m args below meth c Z C d n0 s0 lim Q X hG hR ls st h H
  obtain ⟨a, b, r, rfl, k9⟩ := H
  intro H locs arr cl sl hh hl hS e1 e2
  subst hn
  refine lv_iand X.1 X.2.1 hd ?_
  have k9 := k9 H locs arr cl sl hh hl hS e1 e2
  simp only [List.map_cons, vv, zand, Int32.ofInt_toInt] at k9
  exact k9
theorem sn_ior  (hd : decode y.2.1 pc = .ok (.ior, 1)) (hn : pc + 1 = n) : SndT MT y P G pc (o_ior n) := by
  intro E l p e R s m args below meth c Z C d n0 s0 lim Q X hG hR ls st h H
  obtain ⟨a, b, r, rfl, k9⟩ := H
  intro H locs arr cl sl hh hl hS e1 e2
  subst hn
  refine lv_ior X.1 X.2.1 hd ?_
  have k9 := k9 H locs arr cl sl hh hl hS e1 e2
  simp only [List.map_cons, vv, zor, Int32.ofInt_toInt] at k9
  exact k9
theorem sn_ixor  (hd : decode y.2.1 pc = .ok (.ixor, 1)) (hn : pc + 1 = n) : SndT MT y P G pc (o_ixor n) := by
  intro E l p e R s m args below meth c Z C d n0 s0 lim Q X hG hR ls st h H
  obtain ⟨a, b, r, rfl, k9⟩ := H
  intro H locs arr cl sl hh hl hS e1 e2
  subst hn
  refine lv_ixor X.1 X.2.1 hd ?_
  have k9 := k9 H locs arr cl sl hh hl hS e1 e2
  simp only [List.map_cons, vv, zxor, Int32.ofInt_toInt] at k9
  exact k9
theorem sn_ishl  (hd : decode y.2.1 pc = .ok (.ishl, 1)) (hn : pc + 1 = n) : SndT MT y P G pc (o_ishl n) := by
  intro E l p e R s m args below meth c Z C d n0 s0 lim Q X hG hR ls st h H
  obtain ⟨a, b, r, rfl, k9⟩ := H
  intro H locs arr cl sl hh hl hS e1 e2
  subst hn
  refine lv_ishl X.1 X.2.1 hd ?_
  have k9 := k9 H locs arr cl sl hh hl hS e1 e2
  simp only [List.map_cons, vv, zshl, Int32.ofInt_toInt] at k9
  exact k9
theorem sn_ishr  (hd : decode y.2.1 pc = .ok (.ishr, 1)) (hn : pc + 1 = n) : SndT MT y P G pc (o_ishr n) := by
  intro E l p e R s m args below meth c Z C d n0 s0 lim Q X hG hR ls st h H
  obtain ⟨a, b, r, rfl, k9⟩ := H
  intro H locs arr cl sl hh hl hS e1 e2
  subst hn
  refine lv_ishr X.1 X.2.1 hd ?_
  have k9 := k9 H locs arr cl sl hh hl hS e1 e2
  simp only [List.map_cons, vv, zshr, Int32.ofInt_toInt] at k9
  exact k9
theorem sn_ineg  (hd : decode y.2.1 pc = .ok (.ineg, 1)) (hn : pc + 1 = n) : SndT MT y P G pc (o_ineg n) := by
  intro E l p e R s m args below meth c Z C d n0 s0 lim Q X hG hR ls st h H
  obtain ⟨a, r, rfl, k9⟩ := H
  intro H locs arr cl sl hh hl hS e1 e2
  subst hn
  refine lv_ineg X.1 X.2.1 hd ?_
  rw [← Int32.ofInt_neg]
  exact k9 H locs arr cl sl hh hl hS e1 e2
theorem sn_idiv  (hd : decode y.2.1 pc = .ok (.idiv, 1)) (hn : pc + 1 = n) : SndT MT y P G pc (o_idiv n) := by
  intro E l p e R s m args below meth c Z C d n0 s0 lim Q X hG hR ls st h H
  obtain ⟨a, b, r, rfl, h0, h1, h2, k9⟩ := H
  intro H locs arr cl sl hh hl hS e1 e2
  subst hn
  refine lv_idiv X.1 X.2.1 hd (fun q => h2 ((i32_eq h1 inR_0).mp q)) ?_
  rw [← i32_div h0 h1]
  exact k9 H locs arr cl sl hh hl hS e1 e2
theorem sn_irem  (hd : decode y.2.1 pc = .ok (.irem, 1)) (hn : pc + 1 = n) : SndT MT y P G pc (o_irem n) := by
  intro E l p e R s m args below meth c Z C d n0 s0 lim Q X hG hR ls st h H
  obtain ⟨a, b, r, rfl, h0, h1, h2, k9⟩ := H
  intro H locs arr cl sl hh hl hS e1 e2
  subst hn
  refine lv_irem X.1 X.2.1 hd (fun q => h2 ((i32_eq h1 inR_0).mp q)) ?_
  rw [← i32_rem h0 h1]
  exact k9 H locs arr cl sl hh hl hS e1 e2
theorem sn_ladd  (hd : decode y.2.1 pc = .ok (.ladd, 1)) (hn : pc + 1 = n) : SndT MT y P G pc (o_ladd n) := by
  intro E l p e R s m args below meth c Z C d n0 s0 lim Q X hG hR ls st h H
  obtain ⟨a, b, r, rfl, k9⟩ := H
  intro H locs arr cl sl hh hl hS e1 e2
  subst hn
  refine lv_ladd X.1 X.2.1 hd ?_
  rw [← Int64.ofInt_add]
  exact k9 H locs arr cl sl hh hl hS e1 e2
theorem sn_lsub  (hd : decode y.2.1 pc = .ok (.lsub, 1)) (hn : pc + 1 = n) : SndT MT y P G pc (o_lsub n) := by
  intro E l p e R s m args below meth c Z C d n0 s0 lim Q X hG hR ls st h H
  obtain ⟨a, b, r, rfl, k9⟩ := H
  intro H locs arr cl sl hh hl hS e1 e2
  subst hn
  refine lv_lsub X.1 X.2.1 hd ?_
  rw [← Int64.ofInt_sub]
  exact k9 H locs arr cl sl hh hl hS e1 e2
theorem sn_lmul  (hd : decode y.2.1 pc = .ok (.lmul, 1)) (hn : pc + 1 = n) : SndT MT y P G pc (o_lmul n) := by
  intro E l p e R s m args below meth c Z C d n0 s0 lim Q X hG hR ls st h H
  obtain ⟨a, b, r, rfl, k9⟩ := H
  intro H locs arr cl sl hh hl hS e1 e2
  subst hn
  refine lv_lmul X.1 X.2.1 hd ?_
  rw [← Int64.ofInt_mul]
  exact k9 H locs arr cl sl hh hl hS e1 e2
theorem sn_land  (hd : decode y.2.1 pc = .ok (.land, 1)) (hn : pc + 1 = n) : SndT MT y P G pc (o_land n) := by
  intro E l p e R s m args below meth c Z C d n0 s0 lim Q X hG hR ls st h H
  obtain ⟨a, b, r, rfl, k9⟩ := H
  intro H locs arr cl sl hh hl hS e1 e2
  subst hn
  refine lv_land X.1 X.2.1 hd ?_
  have k9 := k9 H locs arr cl sl hh hl hS e1 e2
  simp only [List.map_cons, vv, yand, Int64.ofInt_toInt] at k9
  exact k9
theorem sn_lor  (hd : decode y.2.1 pc = .ok (.lor, 1)) (hn : pc + 1 = n) : SndT MT y P G pc (o_lor n) := by
  intro E l p e R s m args below meth c Z C d n0 s0 lim Q X hG hR ls st h H
  obtain ⟨a, b, r, rfl, k9⟩ := H
  intro H locs arr cl sl hh hl hS e1 e2
  subst hn
  refine lv_lor X.1 X.2.1 hd ?_
  have k9 := k9 H locs arr cl sl hh hl hS e1 e2
  simp only [List.map_cons, vv, yor, Int64.ofInt_toInt] at k9
  exact k9
theorem sn_lxor  (hd : decode y.2.1 pc = .ok (.lxor, 1)) (hn : pc + 1 = n) : SndT MT y P G pc (o_lxor n) := by
  intro E l p e R s m args below meth c Z C d n0 s0 lim Q X hG hR ls st h H
  obtain ⟨a, b, r, rfl, k9⟩ := H
  intro H locs arr cl sl hh hl hS e1 e2
  subst hn
  refine lv_lxor X.1 X.2.1 hd ?_
  have k9 := k9 H locs arr cl sl hh hl hS e1 e2
  simp only [List.map_cons, vv, yxor, Int64.ofInt_toInt] at k9
  exact k9
theorem sn_lshl  (hd : decode y.2.1 pc = .ok (.lshl, 1)) (hn : pc + 1 = n) : SndT MT y P G pc (o_lshl n) := by
  intro E l p e R s m args below meth c Z C d n0 s0 lim Q X hG hR ls st h H
  obtain ⟨a, b, r, rfl, k9⟩ := H
  intro H locs arr cl sl hh hl hS e1 e2
  subst hn
  refine lv_lshl X.1 X.2.1 hd rfl ?_
  have k9 := k9 H locs arr cl sl hh hl hS e1 e2
  simp only [List.map_cons, vv, yshl, Int64.ofInt_toInt] at k9
  exact k9
theorem sn_lshr  (hd : decode y.2.1 pc = .ok (.lshr, 1)) (hn : pc + 1 = n) : SndT MT y P G pc (o_lshr n) := by
  intro E l p e R s m args below meth c Z C d n0 s0 lim Q X hG hR ls st h H
  obtain ⟨a, b, r, rfl, k9⟩ := H
  intro H locs arr cl sl hh hl hS e1 e2
  subst hn
  refine lv_lshr X.1 X.2.1 hd rfl ?_
  have k9 := k9 H locs arr cl sl hh hl hS e1 e2
  simp only [List.map_cons, vv, yshr, Int64.ofInt_toInt] at k9
  exact k9
theorem sn_lushr  (hd : decode y.2.1 pc = .ok (.lushr, 1)) (hn : pc + 1 = n) : SndT MT y P G pc (o_lushr n) := by
  intro E l p e R s m args below meth c Z C d n0 s0 lim Q X hG hR ls st h H
  obtain ⟨a, b, r, rfl, k9⟩ := H
  intro H locs arr cl sl hh hl hS e1 e2
  subst hn
  refine lv_lushr X.1 X.2.1 hd rfl ?_
  have k9 := k9 H locs arr cl sl hh hl hS e1 e2
  simp only [List.map_cons, vv, yushr, Int64.ofInt_toInt] at k9
  exact k9
theorem sn_ldiv  (hd : decode y.2.1 pc = .ok (.ldiv, 1)) (hn : pc + 1 = n) : SndT MT y P G pc (o_ldiv n) := by
  intro E l p e R s m args below meth c Z C d n0 s0 lim Q X hG hR ls st h H
  obtain ⟨a, b, r, rfl, h0, h1, h2, k9⟩ := H
  intro H locs arr cl sl hh hl hS e1 e2
  subst hn
  refine lv_ldiv X.1 X.2.1 hd (fun q => h2 ((i64_eq h1 inL_0).mp q)) ?_
  rw [← i64_div h0 h1]
  exact k9 H locs arr cl sl hh hl hS e1 e2
theorem sn_lrem  (hd : decode y.2.1 pc = .ok (.lrem, 1)) (hn : pc + 1 = n) : SndT MT y P G pc (o_lrem n) := by
  intro E l p e R s m args below meth c Z C d n0 s0 lim Q X hG hR ls st h H
  obtain ⟨a, b, r, rfl, h0, h1, h2, k9⟩ := H
  intro H locs arr cl sl hh hl hS e1 e2
  subst hn
  refine lv_lrem X.1 X.2.1 hd (fun q => h2 ((i64_eq h1 inL_0).mp q)) ?_
  rw [← i64_rem h0 h1]
  exact k9 H locs arr cl sl hh hl hS e1 e2
theorem sn_lcmp  (hd : decode y.2.1 pc = .ok (.lcmp, 1)) (hn : pc + 1 = n) : SndT MT y P G pc (o_lcmp n) := by
  intro E l p e R s m args below meth c Z C d n0 s0 lim Q X hG hR ls st h H
  obtain ⟨a, b, r, rfl, h0, h1, k9⟩ := H
  intro H locs arr cl sl hh hl hS e1 e2
  subst hn
  refine W.lcmp X.1 X.2.1 hd ?_
  rw [i64_cmp h0 h1]
  exact k9 H locs arr cl sl hh hl hS e1 e2
theorem sn_i2l  (hd : decode y.2.1 pc = .ok (.i2l, 1)) (hn : pc + 1 = n) : SndT MT y P G pc (o_i2l n) := by
  intro E l p e R s m args below meth c Z C d n0 s0 lim Q X hG hR ls st h H
  obtain ⟨a, r, rfl, h0, k9⟩ := H
  intro H locs arr cl sl hh hl hS e1 e2
  subst hn
  exact lv_i2l X.1 X.2.1 hd (Int32.toInt64_ofInt (inR_lo h0) (inR_hi h0)) (k9 H locs arr cl sl hh hl hS e1 e2)
theorem sn_l2i  (hd : decode y.2.1 pc = .ok (.l2i, 1)) (hn : pc + 1 = n) : SndT MT y P G pc (o_l2i n) := by
  intro E l p e R s m args below meth c Z C d n0 s0 lim Q X hG hR ls st h H
  obtain ⟨a, r, rfl, k9⟩ := H
  intro H locs arr cl sl hh hl hS e1 e2
  subst hn
  exact lv_l2i X.1 X.2.1 hd Int64.toInt32_ofInt (k9 H locs arr cl sl hh hl hS e1 e2)
theorem sn_dupr  (hd : decode y.2.1 pc = .ok (.dup, 1)) (hn : pc + 1 = n) : SndT MT y P G pc (o_dupr n) := by
  intro E l p e R s m args below meth c Z C d n0 s0 lim Q X hG hR ls st h H
  obtain ⟨a, r, rfl, k9⟩ := H
  intro H locs arr cl sl hh hl hS e1 e2
  subst hn
  exact lv_dup X.1 X.2.1 hd (va_rf_cat _) (k9 H locs arr cl sl hh hl hS e1 e2)
theorem sn_dupi  (hd : decode y.2.1 pc = .ok (.dup, 1)) (hn : pc + 1 = n) : SndT MT y P G pc (o_dupi n) := by
  intro E l p e R s m args below meth c Z C d n0 s0 lim Q X hG hR ls st h H
  obtain ⟨a, r, rfl, k9⟩ := H
  intro H locs arr cl sl hh hl hS e1 e2
  subst hn
  exact lv_dup X.1 X.2.1 hd rfl (k9 H locs arr cl sl hh hl hS e1 e2)
theorem sn_dup2ir  (hd : decode y.2.1 pc = .ok (.dup2, 1)) (hn : pc + 1 = n) : SndT MT y P G pc (o_dup2ir n) := by
  intro E l p e R s m args below meth c Z C d n0 s0 lim Q X hG hR ls st h H
  obtain ⟨i, a, r, rfl, k9⟩ := H
  intro H locs arr cl sl hh hl hS e1 e2
  subst hn
  exact lv_dup2_11 X.1 X.2.1 hd rfl (va_rf_cat _) (k9 H locs arr cl sl hh hl hS e1 e2)
theorem sn_goto {off : Int} (hd : decode y.2.1 pc = .ok (.goto off, 3)) (hn : (pc : Int) + off = (n : Int)) : SndT MT y P G pc (o_goto n) := by
  intro E l p e R s m args below meth c Z C d n0 s0 lim Q X hG hR ls st h H
  obtain ⟨r, rfl, k9⟩ := H
  intro H locs arr cl sl hh hl hS e1 e2
  exact lv_goto X.1 X.2.1 hd hn (k9 H locs arr cl sl hh hl hS e1 e2)
theorem sn_ifeq {t : Nat} {off : Int} (hd : decode y.2.1 pc = .ok (.ifCond .eq off, 3)) (ht : (pc : Int) + off = (t : Int)) (hn : pc + 3 = n) : SndT MT y P G pc (o_ifeq t n) := by
  intro E l p e R s m args below meth c Z C d n0 s0 lim Q X hG hR ls st h H
  obtain ⟨a, r, rfl, h0, k8, k9⟩ := H
  intro H locs arr cl sl hh hl hS e1 e2
  subst hn
  refine lv_if_eq X.1 X.2.1 hd ht (fun q => ?_) (fun q => ?_)
  · exact k8 ((i32_eq h0 inR_0).mp q) H locs arr cl sl hh hl hS e1 e2
  · exact k9 (fun z => q ((i32_eq h0 inR_0).mpr z)) H locs arr cl sl hh hl hS e1 e2
theorem sn_icmpeq {t : Nat} {off : Int} (hd : decode y.2.1 pc = .ok (.if_icmp .eq off, 3)) (ht : (pc : Int) + off = (t : Int)) (hn : pc + 3 = n) : SndT MT y P G pc (o_iceq t n) := by
  intro E l p e R s m args below meth c Z C d n0 s0 lim Q X hG hR ls st h H
  obtain ⟨a, b, r, rfl, h0, h1, k8, k9⟩ := H
  intro H locs arr cl sl hh hl hS e1 e2
  subst hn
  refine lv_icmp_eq X.1 X.2.1 hd ht (fun q => ?_) (fun q => ?_)
  · exact k8 ((i32_eq h0 h1).mp q) H locs arr cl sl hh hl hS e1 e2
  · exact k9 (fun z => q ((i32_eq h0 h1).mpr z)) H locs arr cl sl hh hl hS e1 e2
theorem sn_ifne {t : Nat} {off : Int} (hd : decode y.2.1 pc = .ok (.ifCond .ne off, 3)) (ht : (pc : Int) + off = (t : Int)) (hn : pc + 3 = n) : SndT MT y P G pc (o_ifne t n) := by
  intro E l p e R s m args below meth c Z C d n0 s0 lim Q X hG hR ls st h H
  obtain ⟨a, r, rfl, h0, k8, k9⟩ := H
  intro H locs arr cl sl hh hl hS e1 e2
  subst hn
  refine lv_if_ne X.1 X.2.1 hd ht (fun q => ?_) (fun q => ?_)
  · exact k8 (fun z => q ((i32_eq h0 inR_0).mpr z)) H locs arr cl sl hh hl hS e1 e2
  · exact k9 (by first | exact (i32_eq h0 inR_0).mp q | exact (i32_eq h0 inR_0).mp (Classical.not_not.mp q)) H locs arr cl sl hh hl hS e1 e2
theorem sn_icmpne {t : Nat} {off : Int} (hd : decode y.2.1 pc = .ok (.if_icmp .ne off, 3)) (ht : (pc : Int) + off = (t : Int)) (hn : pc + 3 = n) : SndT MT y P G pc (o_icne t n) := by
  intro E l p e R s m args below meth c Z C d n0 s0 lim Q X hG hR ls st h H
  obtain ⟨a, b, r, rfl, h0, h1, k8, k9⟩ := H
  intro H locs arr cl sl hh hl hS e1 e2
  subst hn
  refine lv_icmp_ne X.1 X.2.1 hd ht (fun q => ?_) (fun q => ?_)
  · exact k8 (fun z => q ((i32_eq h0 h1).mpr z)) H locs arr cl sl hh hl hS e1 e2
  · exact k9 (by first | exact (i32_eq h0 h1).mp q | exact (i32_eq h0 h1).mp (Classical.not_not.mp q)) H locs arr cl sl hh hl hS e1 e2
theorem sn_iflt {t : Nat} {off : Int} (hd : decode y.2.1 pc = .ok (.ifCond .lt off, 3)) (ht : (pc : Int) + off = (t : Int)) (hn : pc + 3 = n) : SndT MT y P G pc (o_iflt t n) := by
  intro E l p e R s m args below meth c Z C d n0 s0 lim Q X hG hR ls st h H
  obtain ⟨a, r, rfl, h0, k8, k9⟩ := H
  intro H locs arr cl sl hh hl hS e1 e2
  subst hn
  refine lv_if_lt X.1 X.2.1 hd ht (fun q => ?_) (fun q => ?_)
  · exact k8 ((i32_lt h0 inR_0).mp q) H locs arr cl sl hh hl hS e1 e2
  · exact k9 (by have := mt (i32_lt h0 inR_0).mpr q; omega) H locs arr cl sl hh hl hS e1 e2
theorem sn_ifge {t : Nat} {off : Int} (hd : decode y.2.1 pc = .ok (.ifCond .ge off, 3)) (ht : (pc : Int) + off = (t : Int)) (hn : pc + 3 = n) : SndT MT y P G pc (o_ifge t n) := by
  intro E l p e R s m args below meth c Z C d n0 s0 lim Q X hG hR ls st h H
  obtain ⟨a, r, rfl, h0, k8, k9⟩ := H
  intro H locs arr cl sl hh hl hS e1 e2
  subst hn
  refine lv_if_ge X.1 X.2.1 hd ht (fun q => ?_) (fun q => ?_)
  · exact k8 ((i32_le inR_0 h0).mp q) H locs arr cl sl hh hl hS e1 e2
  · exact k9 (by have := mt (i32_le inR_0 h0).mpr q; omega) H locs arr cl sl hh hl hS e1 e2
theorem sn_icmpge {t : Nat} {off : Int} (hd : decode y.2.1 pc = .ok (.if_icmp .ge off, 3)) (ht : (pc : Int) + off = (t : Int)) (hn : pc + 3 = n) : SndT MT y P G pc (o_icge t n) := by
  intro E l p e R s m args below meth c Z C d n0 s0 lim Q X hG hR ls st h H
  obtain ⟨a, b, r, rfl, h0, h1, k8, k9⟩ := H
  intro H locs arr cl sl hh hl hS e1 e2
  subst hn
  refine lv_icmp_ge X.1 X.2.1 hd ht (fun q => ?_) (fun q => ?_)
  · exact k8 ((i32_le h1 h0).mp q) H locs arr cl sl hh hl hS e1 e2
  · exact k9 (by have := mt (i32_le h1 h0).mpr q; omega) H locs arr cl sl hh hl hS e1 e2
theorem sn_ifgt {t : Nat} {off : Int} (hd : decode y.2.1 pc = .ok (.ifCond .gt off, 3)) (ht : (pc : Int) + off = (t : Int)) (hn : pc + 3 = n) : SndT MT y P G pc (o_ifgt t n) := by
  intro E l p e R s m args below meth c Z C d n0 s0 lim Q X hG hR ls st h H
  obtain ⟨a, r, rfl, h0, k8, k9⟩ := H
  intro H locs arr cl sl hh hl hS e1 e2
  subst hn
  refine lv_if_gt X.1 X.2.1 hd ht (fun q => ?_) (fun q => ?_)
  · exact k8 ((i32_lt inR_0 h0).mp q) H locs arr cl sl hh hl hS e1 e2
  · exact k9 (by have := mt (i32_lt inR_0 h0).mpr q; omega) H locs arr cl sl hh hl hS e1 e2
theorem sn_icmpgt {t : Nat} {off : Int} (hd : decode y.2.1 pc = .ok (.if_icmp .gt off, 3)) (ht : (pc : Int) + off = (t : Int)) (hn : pc + 3 = n) : SndT MT y P G pc (o_icgt t n) := by
  intro E l p e R s m args below meth c Z C d n0 s0 lim Q X hG hR ls st h H
  obtain ⟨a, b, r, rfl, h0, h1, k8, k9⟩ := H
  intro H locs arr cl sl hh hl hS e1 e2
  subst hn
  refine lv_icmp_gt X.1 X.2.1 hd ht (fun q => ?_) (fun q => ?_)
  · exact k8 ((i32_lt h1 h0).mp q) H locs arr cl sl hh hl hS e1 e2
  · exact k9 (by have := mt (i32_lt h1 h0).mpr q; omega) H locs arr cl sl hh hl hS e1 e2
theorem sn_ifle {t : Nat} {off : Int} (hd : decode y.2.1 pc = .ok (.ifCond .le off, 3)) (ht : (pc : Int) + off = (t : Int)) (hn : pc + 3 = n) : SndT MT y P G pc (o_ifle t n) := by
  intro E l p e R s m args below meth c Z C d n0 s0 lim Q X hG hR ls st h H
  obtain ⟨a, r, rfl, h0, k8, k9⟩ := H
  intro H locs arr cl sl hh hl hS e1 e2
  subst hn
  refine lv_if_le X.1 X.2.1 hd ht (fun q => ?_) (fun q => ?_)
  · exact k8 ((i32_le h0 inR_0).mp q) H locs arr cl sl hh hl hS e1 e2
  · exact k9 (by have := mt (i32_le h0 inR_0).mpr q; omega) H locs arr cl sl hh hl hS e1 e2
theorem sn_icmple {t : Nat} {off : Int} (hd : decode y.2.1 pc = .ok (.if_icmp .le off, 3)) (ht : (pc : Int) + off = (t : Int)) (hn : pc + 3 = n) : SndT MT y P G pc (o_icle t n) := by
  intro E l p e R s m args below meth c Z C d n0 s0 lim Q X hG hR ls st h H
  obtain ⟨a, b, r, rfl, h0, h1, k8, k9⟩ := H
  intro H locs arr cl sl hh hl hS e1 e2
  subst hn
  refine lv_icmp_le X.1 X.2.1 hd ht (fun q => ?_) (fun q => ?_)
  · exact k8 ((i32_le h0 h1).mp q) H locs arr cl sl hh hl hS e1 e2
  · exact k9 (by have := mt (i32_le h0 h1).mpr q; omega) H locs arr cl sl hh hl hS e1 e2
end SN2
