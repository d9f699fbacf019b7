/-! what a step owes -/
def mRoom (d mc ms : Nat) : Room := { frames := d + 7, cells := mc, slots := ms, locals := 64 * d + 512 }
theorem mRoom_fr (d mc ms : Nat) : (mRoom d mc ms).frames = d + 7 := rfl
theorem mRoom_lo (d mc ms : Nat) : (mRoom d mc ms).locals = 64 * d + 512 := rfl
def sRoom (d : Nat) : Room := { frames := d + 1, cells := 0, slots := 0, locals := 64 * d + 64 }
def mPc (E : mE) (as : List mV) (h : mH) : Array Value → State → Prop := va_Pc (as.map (vv E)) (fun U => mEnv E U ∧ mRel E h U.heap ∧ mSz E h.1.1 U.heap)
def mQc (E : mE) (lim : Nat × Nat) (Q : mQ) : Array Value → State → Outcome → State → Prop := fun _ st o t =>
  (∃ (r : Option mV) (h1 : mH), o = .returned (r.map (vv E)) ∧ Q r h1 ∧ mRel E h1 t.heap ∧ h1.1.1 = lim.1 ∧ h1.1.2.1 = lim.2) ∧ va_F (mA E) st t
abbrev mM : Type := MethodName × ByteArray × Nat × Option FieldType
abbrev mcode (y : mM) : Cond := .code y.1 y.2.1 y.2.2.1 y.2.2.2
def mWs (y : mM) : List Cond := mcode y :: mTB
/-- a callee's soundness -/
def mSM (E : mE) (l : Launch) (MT : Nat → mM) (C : mC) (d : Nat) : Prop := ∀ (y : Nat) (as : List mV) (h : mH) (lim : Nat × Nat) (Q : mQ), h.1.1 ≤ lim.1 → h.1.2.1 ≤ lim.2 → C y as h lim Q →
  Met l (MT y).1 (mWs (MT y)) (mRoom d (lim.1 - h.1.1) (lim.2 - h.1.2.1)) (mPc E as h) (mQc E lim Q) (lim.1 - h.1.1) (lim.2 - h.1.2.1) (mA E)
/-- what is known at every step of a method's body -/
def mCx (E : mE) (MT : Nat → mM) (y : mM) (d : Nat) (l : Launch) (p : Program) (R : Room) (s : State) (m : MethodId) (args : Array Value) (meth : Method) (c : Code) (C : mC) (lim : Nat × Nat) (n0 s0 : Nat) : Prop :=
  p.tables.exec = Jvm.exec ∧ c.code = y.2.1 ∧ c.maxLocals = y.2.2.1 ∧ s.vm.findClass y.1.cls = some m.cls ∧ (∀ w ∈ mTB, w.before args s = true) ∧ mEnv E s ∧ (16 ≤ n0 ∧ mSz E n0 s.heap) ∧
  (d + 8 ≤ R.frames ∧ 64 * d + 576 ≤ R.locals) ∧ (R.cells = lim.1 - n0 ∧ R.slots = lim.2 - s0 ∧ n0 ≤ lim.1 ∧ s0 ≤ lim.2) ∧ mSM E l MT C d ∧ (y.1.name = "<init>" → meth.name = "<init>")
/-- the machine's judgement, by the small machine's state -/
def mW (E : mE) (nL n0 s0 : Nat) (p : Program) (l : Launch) (e : Env) (R : Room) (s : State) (m : MethodId) (args : Array Value) (below : List Frame) (meth : Method) (c : Code) (Z : State → Prop) : mK := fun pc ls st h =>
  ∀ (H : Heap) (locs : List Loc) (arr : Array Slot) (cl sl : Nat), mRel E h H → mL E nL ls arr → va_S (mA E) s.heap H locs → h.1.1 = n0 + cl → h.1.2.1 = s0 + sl →
    W p l e R s m args below meth c H locs cl sl Z (F0 m pc arr (st.map (vv E)))
def mRet (E : mE) (nL n0 s0 : Nat) (p : Program) (l : Launch) (e : Env) (R : Room) (s : State) (m : MethodId) (args : Array Value) (below : List Frame) (meth : Method) (c : Code) (Z : State → Prop) (cc : ByteArray) (P : Nat × Nat → Prop) (ret : Option FieldType) (Q : mQ) : Prop :=
  ∀ (pc : Nat) (r : Option mV) (ls : List mV) (h : mH), (match r with
    | none => ret = none ∧ decode cc pc = .ok (.return_, 1)
    | some (.inl z) => decode cc pc = .ok (.ireturn, 1) ∧ (ret = some .int ∨ ret = some .boolean ∧ (z = 0 ∨ z = 1))
    | some (.inr (.inl _)) => decode cc pc = .ok (.lreturn, 1) ∧ ret = some .long
    | some (.inr (.inr (.inl _))) => decode cc pc = .ok (.areturn, 1) ∧ (∃ C, ret = some (.object C))
    | some (.inr (.inr (.inr _))) => False) → P (h.1.1, h.1.2.1) → Q r h → mW E nL n0 s0 p l e R s m args below meth c Z pc ls r.toList h
/-- a step of method y at pc is sound -/
def SndT (MT : Nat → mM) (y : mM) (P : Nat × Nat → Nat × Nat → Prop) (G : mE → State → Prop) (pc : Nat) (t : mT) : Prop := ∀ (E : mE) (l : Launch) (p : Program) (e : Env) (R : Room) (s : State) (m : MethodId) (args : Array Value) (below : List Frame) (meth : Method) (c : Code) (Z : State → Prop) (C : mC) (d n0 s0 : Nat) (lim : Nat × Nat) (Q : mQ),
  mCx E MT y d l p R s m args meth c C lim n0 s0 → G E s → mRet E y.2.2.1 n0 s0 p l e R s m args below meth c Z y.2.1 (P lim) y.2.2.2 Q →
  ∀ (ls st : List mV) (h : mH), t C lim Q (mW E y.2.2.1 n0 s0 p l e R s m args below meth c Z) ls st h → mW E y.2.2.1 n0 s0 p l e R s m args below meth c Z pc ls st h
theorem inR_lo {a : Int} (h : inR a) : Int32.minValue.toInt ≤ a := by have := h.1; exact this
theorem inR_hi {a : Int} (h : inR a) : a ≤ Int32.maxValue.toInt := by
  have := h.2
  have e : Int32.maxValue.toInt = 2147483647 := by decide
  omega
theorem inL_lo {a : Int} (h : inL a) : Int64.minValue.toInt ≤ a := by have := h.1; exact this
theorem inL_hi {a : Int} (h : inL a) : a ≤ Int64.maxValue.toInt := by
  have := h.2
  have e : Int64.maxValue.toInt = 9223372036854775807 := by decide
  omega
theorem i32_lt {a b : Int} (ha : inR a) (hb : inR b) : Int32.ofInt a < Int32.ofInt b ↔ a < b := Int32.ofInt_lt_iff_lt (inR_lo ha) (inR_hi ha) (inR_lo hb) (inR_hi hb)
theorem i32_le {a b : Int} (ha : inR a) (hb : inR b) : Int32.ofInt a ≤ Int32.ofInt b ↔ a ≤ b := Int32.ofInt_le_iff_le (inR_lo ha) (inR_hi ha) (inR_lo hb) (inR_hi hb)
theorem i32_to {a : Int} (ha : inR a) : (Int32.ofInt a).toInt = a := Int32.toInt_ofInt_of_le ha.1 ha.2
theorem i32_eq {a b : Int} (ha : inR a) (hb : inR b) : Int32.ofInt a = Int32.ofInt b ↔ a = b := by
  constructor
  · intro h
    have := congrArg Int32.toInt h
    rwa [i32_to ha, i32_to hb] at this
  · intro h
    rw [h]
theorem inR_0 : inR 0 := by constructor <;> decide
section SN
variable {MT : Nat → mM} {y : mM} {P : Nat × Nat → Nat × Nat → Prop} {G : mE → State → Prop} {pc n : Nat}
theorem sn_iconst {z k : Int} (hd : decode y.2.1 pc = .ok (.iconst k, 1)) (hz : Int32.ofInt k = Int32.ofInt z) (hn : pc + 1 = n) : SndT MT y P G pc (o_push (vi z) n) := by
  intro E l p e R s m args below meth c Z C d n0 s0 lim Q X hG hR ls st h H
  obtain ⟨r, rfl, k9⟩ := H
  intro H locs arr cl sl hh hl hS e1 e2
  subst hn
  exact lv_iconst X.1 X.2.1 hd hz (k9 H locs arr cl sl hh hl hS e1 e2)
theorem sn_iload {k : Nat} (hd : decode y.2.1 pc = .ok (.iload k, 2)) (hn : pc + 2 = n) : SndT MT y P G pc (o_ild k n) := by
  intro E l p e R s m args below meth c Z C d n0 s0 lim Q X hG hR ls st h H
  obtain ⟨z, h0, k9⟩ := H
  intro H locs arr cl sl hh hl hS e1 e2
  subst hn
  exact lv_iload X.1 X.2.1 hd (hl.has h0 (fun q => by cases q)) (k9 H locs arr cl sl hh hl hS e1 e2)
theorem sn_istore {k : Nat} (hd : decode y.2.1 pc = .ok (.istore k, 2)) (hk : k < y.2.2.1) (hn : pc + 2 = n) : SndT MT y P G pc (o_ist k n) := by
  intro E l p e R s m args below meth c Z C d n0 s0 lim Q X hG hR ls st h H
  obtain ⟨z, r, rfl, k9⟩ := H
  intro H locs arr cl sl hh hl hS e1 e2
  subst hn
  exact lv_istore X.1 X.2.1 hd hl.lv hk rfl (fun arr' h' => k9 H locs arr' cl sl hh (hl.put1 hk h') hS e1 e2)
theorem sn_iadd (hd : decode y.2.1 pc = .ok (.iadd, 1)) (hn : pc + 1 = n) : SndT MT y P G pc (o_iadd n) := by
  intro E l p e R s m args below meth c Z C d n0 s0 lim Q X hG hR ls st h H
  obtain ⟨a, b, r, rfl, k9⟩ := H
  intro H locs arr cl sl hh hl hS e1 e2
  subst hn
  refine lv_iadd X.1 X.2.1 hd ?_
  rw [← Int32.ofInt_add]
  exact k9 H locs arr cl sl hh hl hS e1 e2
theorem sn_icmplt {t : Nat} {off : Int} (hd : decode y.2.1 pc = .ok (.if_icmp .lt off, 3)) (ht : (pc : Int) + off = (t : Int)) (hn : pc + 3 = n) : SndT MT y P G pc (o_iclt t n) := by
  intro E l p e R s m args below meth c Z C d n0 s0 lim Q X hG hR ls st h H
  obtain ⟨a, b, r, rfl, h0, h1, k8, k9⟩ := H
  intro H locs arr cl sl hh hl hS e1 e2
  subst hn
  refine lv_icmp_lt X.1 X.2.1 hd ht (fun q => ?_) (fun q => ?_)
  · exact k8 ((i32_lt h0 h1).mp q) H locs arr cl sl hh hl hS e1 e2
  · exact k9 (by have := mt (i32_lt h0 h1).mpr q; omega) H locs arr cl sl hh hl hS e1 e2
end SN
