/-! calls and returns -/
theorem mGood {y' : mM} (hc : mcode y' ∈ mTB) : GoodIn mTB (mWs y') := by
  have key : ∀ w, w ∈ mTB → w ∈ mTB ∧ ((w.onTables && w.keeps) = true ∨ ∃ ty, w = .arrayClass ty) := fun w hw => ⟨hw, good_of_word (List.mem_filter.mp hw).2⟩
  intro w hw
  rcases List.mem_cons.mp hw with e | h
  · rw [e]; exact key _ hc
  · exact key w h
theorem mPc_blind {E : mE} {as : List mV} {h : mH} : FrameBlind (mPc E as h) := fun a U g mk q => ⟨q.1, q.2.1.calling g mk a, q.2.2.1, q.2.2.2⟩
theorem mPc_at {E : mE} {as : List mV} {h : mH} {s U : State} {H : Heap} {locs : List Loc} {A : Array Value} (hA : A = (as.map (vv E)).toArray) (hE : mEnv E s) (hS : va_S (mA E) s.heap H locs) (hh : mRel E h H) (hz : mSz E h.1.1 H) (hU : U.heap = H) (hW : s.WarmedH U.vm) : mPc E as h A U := by
  refine ⟨hA, hE.warm hW (by rw [hU]; exact hS.2.1), by rw [hU]; exact hh, by rw [hU]; exact hz⟩
/-- what goes on behind a call -/
theorem mCall {E : mE} {nL n0 s0 : Nat} {p : Program} {l : Launch} {e : Env} {R : Room} {s : State} {m : MethodId} {args : Array Value} {below : List Frame} {meth : Method} {c : Code} {Z : State → Prop} {H : Heap} {locs : List Loc} {cl sl pc : Nat} {arr : Array Slot} {st0 : List Value} {r ls : List mV} {lm : Nat × Nat} {Q1 : mQ} {a : Array Value} {h : mH}
    (hr : va_Run p l e R s m args below meth c H locs cl sl (lm.1 - h.1.1) (lm.2 - h.1.2.1) (F0 m pc arr st0) (r.map (vv E)) (mQc E lm Q1 a) (mA E)) (hS : va_S (mA E) s.heap H locs) (hl : mL E nL ls arr) (e1 : h.1.1 = n0 + cl) (e2 : h.1.2.1 = s0 + sl) (l1 : h.1.1 ≤ lm.1) (l2 : h.1.2.1 ≤ lm.2)
    (k : ∀ o h1, Q1 o h1 → mW E nL n0 s0 p l e R s m args below meth c Z (pc + 3) ls (o.toList ++ r) h1) : W p l e R s m args below meth c H locs cl sl Z (F0 m pc arr st0) := by
  intro T hT X
  obtain ⟨v, st₀, t, T', L, h0, X', hL, f1, f2, ⟨⟨ro, h1, hv, hq, hrel, hn1, hs1⟩, hz, hk⟩, st⟩ := hr T hT X
  cases hv
  rw [h0] at hz hk
  obtain ⟨t2, a1, b1⟩ := k ro h1 hq T'.heap (locs ++ L) arr (cl + (lm.1 - h.1.1)) (sl + (lm.2 - h.1.2.1)) (by rw [f1]; exact hrel) hl
    ⟨Nat.le_trans hS.1 (by rw [f1]; exact hz), fun q q1 q2 => by rw [f1, hk q (Nat.lt_of_lt_of_le q1 hS.1) q2]; exact hS.2.1 q q1 q2, fun q hq => by
      rcases List.mem_append.mp hq with g | g
      · exact hS.2.2 q g
      · exact hL q g⟩ (by omega) (by omega) T' rfl X'
  refine ⟨t2, st t2 ?_, b1⟩
  have e9 : (ro.toList ++ r).map (vv E) = (ro.map (vv E)).toList ++ r.map (vv E) := by cases ro <;> simp
  rw [e9] at a1
  exact a1
/-- a method of the table that may be called: its code's word, its name, its locals -/
def mCan (y : mM) (na : Nat) : Prop := mcode y ∈ mTB ∧ Cond.initialized y.1.cls ∈ mTB ∧ y.2.2.1 ≤ 45 ∧ y.1.cls ≠ "java/lang/invoke/MethodHandle" ∧ y.1.cls ≠ "java/lang/invoke/VarHandle" ∧ (parseMethodDescriptor y.1.desc).map (fun d => d.parameters.length) = some na
section SN6
variable {MT : Nat → mM} {y : mM} {P : Nat × Nat → Nat × Nat → Prop} {G : mE → State → Prop} {pc n : Nat}

theorem sn_inv {ci yn na idx N : Nat} {Cn : String} {T : u_T} (hc : mCls ci Cn T N) (hcan : mCan (MT yn) na) (hw0 : Cond.methodLink y.1.cls idx (MT yn).1 ∈ mTB) (hw1 : Cond.instanceMethod (MT yn).1 ∈ mTB) (hw2 : Cond.selects Cn (MT yn).1 (MT yn).1 ∈ mTB) (hd : decode y.2.1 pc = .ok (.invokevirtual idx, 3)) (hn : pc + 3 = n) : SndT MT y P G pc (o_inv ci yn na n) := by
  intro E l p e R s m args below meth c Z C d n0 s0 lim Q X hG hR ls st h H
  obtain ⟨a, As, r, lm, Q1, rfl, hna, h0, hr4, ⟨l1, l2, l3, l4⟩, h5, k9⟩ := H
  intro H locs arr cl sl hh hl hS e1 e2
  subst hn
  obtain ⟨g1, g2, g3, g4, g5, g6, g7⟩ := hc
  obtain ⟨q1, q2, q3, q4⟩ := hh.at h0 (by omega)
  rw [mce_o h0 g3] at q4
  obtain ⟨b1, b2, b3, b4⟩ := X.2.2.2.2.2.2.2.2.1
  have hM := X.2.2.2.2.2.2.2.2.2.1 yn (vr a :: As) h lm Q1 l1 l2 h5
  refine mW_sz X hh hS e1 (fun hz => ?_)
  refine mCall (h := h) (a := (Value.ref (mra E a) :: As.map (vv E)).toArray) (va_runV (C := Cn) (b := mra E a) (As := As.map (vv E)) ⟨X.1, X.2.1, X.2.2.1, X.2.2.2.1, X.2.2.2.2.1⟩ hM ⟨callB_of na X.2.2.2.2.1 (mGood hcan.1) rfl rfl rfl (X.word hcan.2.1) (X.word hw0) ⟨hcan.2.2.2.1, hcan.2.2.2.2.1, hcan.2.2.2.2.2⟩ ⟨by have := mRoom_fr d (lm.1 - h.1.1) (lm.2 - h.1.2.1); have := X.2.2.2.2.2.2.2.1.1; omega, by have := mRoom_lo d (lm.1 - h.1.1) (lm.2 - h.1.2.1); have := X.2.2.2.2.2.2.2.1.2; have := hcan.2.2.1; omega⟩, X.word hw1, X.word hw2⟩ ⟨mPc_blind, va_recv X.2.2.2.2.2.1.1 hh.2 g1 q4, fun U hU hW => mPc_at (by simp [vv_ref q1]) X.2.2.2.2.2.1 hS hh hz hU hW⟩ rfl (by rw [List.length_map]; exact hna) hl.2.1 (by simp [vv_ref q1]) (lv_room (vv_sum4 hr4)) hd ⟨by omega, by omega⟩) hS hl e1 e2 l1 l2 k9
theorem sn_ini {ci yn na idx N : Nat} {Cn : String} {T : u_T} (hc : mCls ci Cn T N) (hcan : mCan (MT yn) na) (hw0 : Cond.methodLink y.1.cls idx (MT yn).1 ∈ mTB) (hw1 : Cond.instanceMethod (MT yn).1 ∈ mTB) (hi : (MT yn).1.name = "<init>") (hrn : (MT yn).2.2.2 = none) (hd : decode y.2.1 pc = .ok (.invokespecial idx, 3)) (hn : pc + 3 = n) : SndT MT y P G pc (o_inv ci yn na n) := by
  intro E l p e R s m args below meth c Z C d n0 s0 lim Q X hG hR ls st h H
  obtain ⟨a, As, r, lm, Q1, rfl, hna, h0, hr4, ⟨l1, l2, l3, l4⟩, h5, k9⟩ := H
  intro H locs arr cl sl hh hl hS e1 e2
  subst hn
  obtain ⟨g1, g2, g3, g4, g5, g6, g7⟩ := hc
  obtain ⟨q1, q2, q3, q4⟩ := hh.at h0 (by omega)
  rw [mce_o h0 g3] at q4
  obtain ⟨b1, b2, b3, b4⟩ := X.2.2.2.2.2.2.2.2.1
  have hM := X.2.2.2.2.2.2.2.2.2.1 yn (vr a :: As) h lm Q1 l1 l2 h5
  refine mW_sz X hh hS e1 (fun hz => ?_)
  have q : CallB R s args y.1.cls idx (MT yn).1 (MT yn).2.1 (MT yn).2.2.1 (MT yn).2.2.2 (mWs (MT yn)) (mRoom d (lm.1 - h.1.1) (lm.2 - h.1.2.1)) (lm.1 - h.1.1) (lm.2 - h.1.2.1) na := callB_of na X.2.2.2.2.1 (mGood hcan.1) rfl rfl rfl (X.word hcan.2.1) (X.word hw0) ⟨hcan.2.2.2.1, hcan.2.2.2.2.1, hcan.2.2.2.2.2⟩ ⟨by have := mRoom_fr d (lm.1 - h.1.1) (lm.2 - h.1.2.1); have := X.2.2.2.2.2.2.2.1.1; omega, by have := mRoom_lo d (lm.1 - h.1.1) (lm.2 - h.1.2.1); have := X.2.2.2.2.2.2.2.1.2; have := hcan.2.2.1; omega⟩
  rw [hrn] at q
  refine mCall (h := h) (a := (Value.ref (mra E a) :: As.map (vv E)).toArray) (va_runI (b := mra E a) (As := As.map (vv E)) ⟨X.1, X.2.1, X.2.2.1, X.2.2.2.1, X.2.2.2.2.1⟩ hM ⟨q, hi, X.word hw1⟩ ⟨mPc_blind, fun U hU hW => mPc_at (by simp [vv_ref q1]) X.2.2.2.2.2.1 hS hh hz hU hW⟩ rfl (by rw [List.length_map]; exact hna) hl.2.1 (by simp [vv_ref q1]) (lv_room (vv_sum4 hr4)) hd ⟨by omega, by omega⟩) hS hl e1 e2 l1 l2 k9
theorem sn_iniN {ci yn na idx N : Nat} {Cn : String} {T : u_T} (hc : mCls ci Cn T N) (hcan : mCan (MT yn) na) {host : String} (hnw : ∀ (E : mE) (U : State), mEnv E U → va_Nw (.methodLinkNest y.1.cls idx (MT yn).1 host) U) (hw1 : Cond.instanceMethod (MT yn).1 ∈ mTB) (hi : (MT yn).1.name = "<init>") (hrn : (MT yn).2.2.2 = none) (hd : decode y.2.1 pc = .ok (.invokespecial idx, 3)) (hn : pc + 3 = n) : SndT MT y P G pc (o_inv ci yn na n) := by
  intro E l p e R s m args below meth c Z C d n0 s0 lim Q X hG hR ls st h H
  obtain ⟨a, As, r, lm, Q1, rfl, hna, h0, hr4, ⟨l1, l2, l3, l4⟩, h5, k9⟩ := H
  intro H locs arr cl sl hh hl hS e1 e2
  subst hn
  obtain ⟨g1, g2, g3, g4, g5, g6, g7⟩ := hc
  obtain ⟨q1, q2, q3, q4⟩ := hh.at h0 (by omega)
  rw [mce_o h0 g3] at q4
  obtain ⟨b1, b2, b3, b4⟩ := X.2.2.2.2.2.2.2.2.1
  have hM := X.2.2.2.2.2.2.2.2.2.1 yn (vr a :: As) h lm Q1 l1 l2 h5
  refine mW_sz X hh hS e1 (fun hz => ?_)
  have q : va_CN R s args y.1.cls idx (MT yn).1 host (MT yn).2.1 (MT yn).2.2.1 (MT yn).2.2.2 (mWs (MT yn)) (mRoom d (lm.1 - h.1.1) (lm.2 - h.1.2.1)) (lm.1 - h.1.1) (lm.2 - h.1.2.1) na := va_cnB na X.2.2.2.2.1 (mGood hcan.1) rfl rfl rfl (hnw E s X.2.2.2.2.2.1) (X.word hcan.2.1) ⟨hcan.2.2.2.1, hcan.2.2.2.2.1, hcan.2.2.2.2.2⟩ ⟨by have := mRoom_fr d (lm.1 - h.1.1) (lm.2 - h.1.2.1); have := X.2.2.2.2.2.2.2.1.1; omega, by have := mRoom_lo d (lm.1 - h.1.1) (lm.2 - h.1.2.1); have := X.2.2.2.2.2.2.2.1.2; have := hcan.2.2.1; omega⟩
  rw [hrn] at q
  refine mCall (h := h) (a := (Value.ref (mra E a) :: As.map (vv E)).toArray) (va_runIN (b := mra E a) (As := As.map (vv E)) ⟨X.1, X.2.1, X.2.2.1, X.2.2.2.1, X.2.2.2.2.1⟩ hM ⟨q, hi, X.word hw1⟩ ⟨mPc_blind, fun U hU hW => mPc_at (by simp [vv_ref q1]) X.2.2.2.2.2.1 hS hh hz hU hW⟩ rfl (by rw [List.length_map]; exact hna) hl.2.1 (by simp [vv_ref q1]) (lv_room (vv_sum4 hr4)) hd ⟨by omega, by omega⟩) hS hl e1 e2 l1 l2 k9
theorem sn_sta {yn na idx : Nat} (hcan : mCan (MT yn) na) (hw0 : Cond.methodLink y.1.cls idx (MT yn).1 ∈ mTB) (hw1 : Cond.static (MT yn).1 ∈ mTB) (hd : decode y.2.1 pc = .ok (.invokestatic idx, 3)) (hn : pc + 3 = n) : SndT MT y P G pc (o_sta yn na n) := by
  intro E l p e R s m args below meth c Z C d n0 s0 lim Q X hG hR ls st h H
  obtain ⟨As, r, lm, Q1, rfl, hna, hr4, ⟨l1, l2, l3, l4⟩, h5, k9⟩ := H
  intro H locs arr cl sl hh hl hS e1 e2
  subst hn
  obtain ⟨b1, b2, b3, b4⟩ := X.2.2.2.2.2.2.2.2.1
  have hM := X.2.2.2.2.2.2.2.2.2.1 yn As h lm Q1 l1 l2 h5
  refine mW_sz X hh hS e1 (fun hz => ?_)
  refine mCall (h := h) (a := (As.map (vv E)).toArray) (va_runS (As := As.map (vv E)) ⟨X.1, X.2.1, X.2.2.1, X.2.2.2.1, X.2.2.2.2.1⟩ hM ⟨callB_of na X.2.2.2.2.1 (mGood hcan.1) rfl rfl rfl (X.word hcan.2.1) (X.word hw0) ⟨hcan.2.2.2.1, hcan.2.2.2.2.1, hcan.2.2.2.2.2⟩ ⟨by have := mRoom_fr d (lm.1 - h.1.1) (lm.2 - h.1.2.1); have := X.2.2.2.2.2.2.2.1.1; omega, by have := mRoom_lo d (lm.1 - h.1.1) (lm.2 - h.1.2.1); have := X.2.2.2.2.2.2.2.1.2; have := hcan.2.2.1; omega⟩, X.word hw1⟩ ⟨mPc_blind, fun U hU hW => mPc_at rfl X.2.2.2.2.2.1 hS hh hz hU hW⟩ rfl (by rw [List.length_map]; exact hna) hl.2.1 (by simp) (lv_room (vv_sum4 hr4)) hd ⟨by omega, by omega⟩) hS hl e1 e2 l1 l2 k9
theorem sn_staN {yn na idx : Nat} (hcan : mCan (MT yn) na) {host : String} (hnw : ∀ (E : mE) (U : State), mEnv E U → va_Nw (.methodLinkNest y.1.cls idx (MT yn).1 host) U) (hw1 : Cond.static (MT yn).1 ∈ mTB) (hd : decode y.2.1 pc = .ok (.invokestatic idx, 3)) (hn : pc + 3 = n) : SndT MT y P G pc (o_sta yn na n) := by
  intro E l p e R s m args below meth c Z C d n0 s0 lim Q X hG hR ls st h H
  obtain ⟨As, r, lm, Q1, rfl, hna, hr4, ⟨l1, l2, l3, l4⟩, h5, k9⟩ := H
  intro H locs arr cl sl hh hl hS e1 e2
  subst hn
  obtain ⟨b1, b2, b3, b4⟩ := X.2.2.2.2.2.2.2.2.1
  have hM := X.2.2.2.2.2.2.2.2.2.1 yn As h lm Q1 l1 l2 h5
  refine mW_sz X hh hS e1 (fun hz => ?_)
  refine mCall (h := h) (a := (As.map (vv E)).toArray) (va_runSN (As := As.map (vv E)) ⟨X.1, X.2.1, X.2.2.1, X.2.2.2.1, X.2.2.2.2.1⟩ hM ⟨va_cnB na X.2.2.2.2.1 (mGood hcan.1) rfl rfl rfl (hnw E s X.2.2.2.2.2.1) (X.word hcan.2.1) ⟨hcan.2.2.2.1, hcan.2.2.2.2.1, hcan.2.2.2.2.2⟩ ⟨by have := mRoom_fr d (lm.1 - h.1.1) (lm.2 - h.1.2.1); have := X.2.2.2.2.2.2.2.1.1; omega, by have := mRoom_lo d (lm.1 - h.1.1) (lm.2 - h.1.2.1); have := X.2.2.2.2.2.2.2.1.2; have := hcan.2.2.1; omega⟩, X.word hw1, trivial⟩ ⟨mPc_blind, fun U hU hW => mPc_at rfl X.2.2.2.2.2.1 hS hh hz hU hW⟩ rfl (by rw [List.length_map]; exact hna) hl.2.1 (by simp) (lv_room (vv_sum4 hr4)) hd ⟨by omega, by omega⟩) hS hl e1 e2 l1 l2 k9
theorem sn_halt : SndT MT y P G pc o_halt := by
  intro E l p e R s m args below meth c Z C d n0 s0 lim Q X hG hR ls st h H
  exact H.elim
theorem sn_iret (hP : ∀ lim, P lim lim) (hr : y.2.2.2 = some .int) (hd : decode y.2.1 pc = .ok (.ireturn, 1)) : SndT MT y P G pc o_iret := by
  intro E l p e R s m args below meth c Z C d n0 s0 lim Q X hG hR ls st h H
  obtain ⟨a, rfl, f1, f2, k9⟩ := H
  exact hR pc (some (vi a)) ls h ⟨hd, Or.inl hr⟩ (by rw [f1, f2]; exact hP lim) k9
theorem sn_zret (hP : ∀ lim, P lim lim) (hr : y.2.2.2 = some .boolean) (hd : decode y.2.1 pc = .ok (.ireturn, 1)) : SndT MT y P G pc o_zret := by
  intro E l p e R s m args below meth c Z C d n0 s0 lim Q X hG hR ls st h H
  obtain ⟨a, rfl, hz, f1, f2, k9⟩ := H
  exact hR pc (some (vi a)) ls h ⟨hd, Or.inr ⟨hr, hz⟩⟩ (by rw [f1, f2]; exact hP lim) k9
theorem sn_lret (hP : ∀ lim, P lim lim) (hr : y.2.2.2 = some .long) (hd : decode y.2.1 pc = .ok (.lreturn, 1)) : SndT MT y P G pc o_lret := by
  intro E l p e R s m args below meth c Z C d n0 s0 lim Q X hG hR ls st h H
  obtain ⟨a, rfl, f1, f2, k9⟩ := H
  exact hR pc (some (vl a)) ls h ⟨hd, hr⟩ (by rw [f1, f2]; exact hP lim) k9
theorem sn_aret {Cn : String} (hP : ∀ lim, P lim lim) (hr : y.2.2.2 = some (.object Cn)) (hd : decode y.2.1 pc = .ok (.areturn, 1)) : SndT MT y P G pc o_aret := by
  intro E l p e R s m args below meth c Z C d n0 s0 lim Q X hG hR ls st h H
  obtain ⟨a, rfl, f1, f2, k9⟩ := H
  exact hR pc (some (vr a)) ls h ⟨hd, Cn, hr⟩ (by rw [f1, f2]; exact hP lim) k9
theorem sn_vret (hP : ∀ lim, P lim lim) (hr : y.2.2.2 = none) (hd : decode y.2.1 pc = .ok (.return_, 1)) : SndT MT y P G pc o_vret := by
  intro E l p e R s m args below meth c Z C d n0 s0 lim Q X hG hR ls st h H
  obtain ⟨rfl, f1, f2, k9⟩ := H
  exact hR pc none ls h ⟨hr, hd⟩ (by rw [f1, f2]; exact hP lim) k9
theorem sn_end (hP : ∀ lim x, P lim x) (hr : y.2.2.2 = some .boolean) (hd : decode y.2.1 pc = .ok (.ireturn, 1)) : SndT MT y P G pc o_end := by
  intro E l p e R s m args below meth c Z C d n0 s0 lim Q X hG hR ls st h H
  obtain ⟨a, rfl, hz, k9⟩ := H
  exact hR pc (some (vi a)) ls h ⟨hd, Or.inr ⟨hr, hz⟩⟩ (hP lim _) k9
end SN6
/-- a method's body is sound, if its steps are -/
theorem mRet_of {E : mE} {y : mM} {n0 s0 : Nat} {p : Program} {l : Launch} {e : Env} {R : Room} {s : State} {m : MethodId} {args : Array Value} {below : List Frame} {meth : Method} {c : Code} {lim : Nat × Nat} {Q : mQ} {mc ms : Nat} (hx : p.tables.exec = Jvm.exec) (hb : c.code = y.2.1) (hr : meth.sig.returnType = y.2.2.2) (hlocks : meth.locks = false) (h1 : n0 + mc = lim.1) (h2 : s0 + ms = lim.2) :
    mRet E y.2.2.1 n0 s0 p l e R s m args below meth c (MQ below (mQc E lim Q) args s mc ms (mA E)) y.2.1 (fun x => x = lim) y.2.2.2 Q := by
  intro pc r ls h hk hP hQ
  intro H locs arr cl sl hh hl hS e1 e2
  have f1 : h.1.1 = lim.1 := congrArg Prod.fst hP
  have f2 : h.1.2.1 = lim.2 := congrArg Prod.snd hP
  have hcl : cl = mc := by omega
  have hsl : sl = ms := by omega
  subst hcl
  subst hsl
  have hq : ∀ t : State, t.heap = H → s.WarmedH t.vm → mQc E lim Q args s (.returned (r.map (vv E))) t := fun t ht _ => ⟨⟨r, h, rfl, hQ, by rw [ht]; exact hh, f1, f2⟩, hS.F ht⟩
  match r, hk, hq with
  | none, hk, hq => exact W.vret hx hb (hr.trans hk.1) hq hS.2.2 hk.2 hlocks
  | some (.inl z), hk, hq =>
    rcases hk.2 with q | ⟨q, hz⟩
    · exact W.zret hx hb (hr.trans q) rfl hq hS.2.2 hk.1 hlocks
    · exact W.zret hx hb (hr.trans q) (by rcases hz with e | e <;> (rw [e]; rfl)) hq hS.2.2 hk.1 hlocks
  | some (.inr (.inl z)), hk, hq => exact W.lret hx hb (hr.trans hk.2) hq hS.2.2 hk.1 hlocks
  | some (.inr (.inr (.inl a))), hk, hq =>
    obtain ⟨hk1, Cn, hk2⟩ := hk
    have hv : vv E (vr a) = .null ∨ ∃ x, vv E (vr a) = .ref x := by
      by_cases c1 : a = 0
      · subst c1; exact Or.inl rfl
      · exact Or.inr ⟨_, vv_ref c1⟩
    exact W.aret hx hb (hr.trans hk2) (Or.inl ⟨Cn, rfl⟩) hv hq hS.2.2 hk1 hlocks

