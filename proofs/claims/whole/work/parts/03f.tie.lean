/-! arrays, switches -/
theorem toNat_cast {i : Int} (h : 0 ≤ i) : ((i.toNat : Nat) : Int) = i := Int.toNat_of_nonneg h
theorem mce_ist {E : mE} {h : mH} {a c : Nat} {i z : Int} (ha : (h.1.2.2 a).1 = c) (h1 : ¬ c < 11) (hc : c < 22) (hi : 0 ≤ i) : (.inl (mcA E (c - 20), (h.1.2.2 a).2, .inl (upd (fun j => Int32.ofInt (h.2.1 a j)) i.toNat (Int32.ofInt z))) : va_E) = mce E (h.1, upI h.2.1 a i z, h.2.2) a := by
  rw [mce_i (h := (h.1, upI h.2.1 a i z, h.2.2)) ha h1 hc]
  congr 4
  funext j
  by_cases e : j = i.toNat
  · subst e
    simp [upd, upI, toNat_cast hi]
  · have : ¬ ((j : Int) = i) := fun q => e (by omega)
    simp [upd, upI, e, this]
theorem mce_lst {E : mE} {h : mH} {a : Nat} {i z : Int} (ha : (h.1.2.2 a).1 = 22) (hi : 0 ≤ i) : (.inl (mcA E 2, (h.1.2.2 a).2, .inr (.inl (vp_updL (fun j => Int64.ofInt (h.2.1 a j)) i.toNat (Int64.ofInt z)))) : va_E) = mce E (h.1, upI h.2.1 a i z, h.2.2) a := by
  rw [mce_l (h := (h.1, upI h.2.1 a i z, h.2.2)) ha]
  congr 5
  funext j
  by_cases e : j = i.toNat
  · subst e
    simp [vp_updL, upI, toNat_cast hi]
  · have : ¬ ((j : Int) = i) := fun q => e (by omega)
    simp [vp_updL, upI, e, this]
theorem mce_rst {E : mE} {h : mH} {a c z : Nat} {i : Int} (ha : (h.1.2.2 a).1 = c) (hc : 22 < c) (hi : 0 ≤ i) (hz : z ≠ 0) : (.inl (mcA E (c - 20), (h.1.2.2 a).2, .inr (.inr (.inr (.inr (va_up (fun j => mro E (h.2.2 a j)) i.toNat (some (mra E z))))))) : va_E) = mce E (h.1, h.2.1, upR h.2.2 a i z) a := by
  rw [mce_r (h := (h.1, h.2.1, upR h.2.2 a i z)) ha hc]
  congr 8
  funext j
  by_cases e : j = i.toNat
  · subst e
    simp [va_up, upR, toNat_cast hi, mro, hz]
  · have : ¬ ((j : Int) = i) := fun q => e (by omega)
    simp [va_up, upR, e, this]
theorem mce_cp {E : mE} {h : mH} {a b : Nat} {sp dp n : Int} (ha : (h.1.2.2 b).1 = 20) (h1 : 0 ≤ sp) (h2 : 0 ≤ dp) (h3 : 0 ≤ n) : (.inl (mcA E 0, (h.1.2.2 b).2, .inl (va_cpy (fun j => Int32.ofInt (h.2.1 a j)) (fun j => Int32.ofInt (h.2.1 b j)) sp.toNat dp.toNat n.toNat)) : va_E) = mce E (h.1, mcp h.2.1 a b sp dp n, h.2.2) b := by
  rw [mce_i (h := (h.1, mcp h.2.1 a b sp dp n, h.2.2)) ha (by decide) (by decide)]
  congr 4
  funext j
  by_cases e : dp.toNat ≤ j ∧ j < dp.toNat + n.toNat
  · have e2 : dp ≤ (j : Int) ∧ (j : Int) < dp + n := by omega
    have e3 : ((sp.toNat + (j - dp.toNat) : Nat) : Int) = sp + ((j : Int) - dp) := by omega
    simp only [va_cpy, mcp, if_pos e, e3]
    rw [if_pos ⟨trivial, e2⟩]
  · have e2 : ¬ (dp ≤ (j : Int) ∧ (j : Int) < dp + n) := by omega
    simp only [va_cpy, mcp, if_neg e]
    rw [if_neg (fun q => e2 q.2)]
theorem mce_mcp {E : mE} {h : mH} {a b a' : Nat} {sp dp n : Int} (ha : a' ≠ b) : mce E (h.1, mcp h.2.1 a b sp dp n, h.2.2) a' = mce E h a' := by
  have e : ∀ j, mcp h.2.1 a b sp dp n a' j = h.2.1 a' j := fun j => if_neg (fun q => ha q.1)
  unfold mce mfs
  simp only [e]
theorem z01 {z : Int} (h : z = 0 ∨ z = 1) : vp_nar .boolean (Int32.ofInt z) = Int32.ofInt z := by rcases h with e | e <;> (rw [e]; decide)
section SN4
variable {MT : Nat → mM} {y : mM} {P : Nat × Nat → Nat × Nat → Prop} {G : mE → State → Prop} {pc n : Nat}
theorem sn_iald  (hd : decode y.2.1 pc = .ok (.iaload, 1)) (hn : pc + 1 = n) : SndT MT y P G pc (o_iald n) := by
  intro E l p e R s m args below meth c Z C d n0 s0 lim Q X hG hR ls st h H
  obtain ⟨i, a, r, rfl, h0, h1, h2, k9⟩ := H
  intro H locs arr cl sl hh hl hS e1 e2
  subst hn
  obtain ⟨q1, q2, q3, q4⟩ := hh.at h0 (by decide)
  rw [mce_i h0 (by decide) (by decide)] at q4
  simp only [List.map_cons, vv_ref q1]
  refine va_iald X.1 X.2.1 X.2.2.2.2.2.1.1 hh.2 (a - 16) 0 q4 rfl (i32_in h1 h2 q3) hd ?_
  rw [i32_clamp h1 (by omega), toNat_cast h1]
  exact k9 H locs arr cl sl hh hl hS e1 e2
theorem sn_bald  (hd : decode y.2.1 pc = .ok (.baload, 1)) (hn : pc + 1 = n) : SndT MT y P G pc (o_bald n) := by
  intro E l p e R s m args below meth c Z C d n0 s0 lim Q X hG hR ls st h H
  obtain ⟨i, a, r, rfl, h0, h1, h2, k9⟩ := H
  intro H locs arr cl sl hh hl hS e1 e2
  subst hn
  obtain ⟨q1, q2, q3, q4⟩ := hh.at h0 (by decide)
  rw [mce_i h0 (by decide) (by decide)] at q4
  simp only [List.map_cons, vv_ref q1]
  refine va_zald X.1 X.2.1 X.2.2.2.2.2.1.1 hh.2 (a - 16) 1 q4 rfl (i32_in h1 h2 q3) hd ?_
  rw [i32_clamp h1 (by omega), toNat_cast h1]
  exact k9 H locs arr cl sl hh hl hS e1 e2
theorem sn_lald  (hd : decode y.2.1 pc = .ok (.laload, 1)) (hn : pc + 1 = n) : SndT MT y P G pc (o_lald n) := by
  intro E l p e R s m args below meth c Z C d n0 s0 lim Q X hG hR ls st h H
  obtain ⟨i, a, r, rfl, h0, h1, h2, k9⟩ := H
  intro H locs arr cl sl hh hl hS e1 e2
  subst hn
  obtain ⟨q1, q2, q3, q4⟩ := hh.at h0 (by decide)
  rw [mce_l h0] at q4
  simp only [List.map_cons, vv_ref q1]
  refine va_lald X.1 X.2.1 X.2.2.2.2.2.1.1 hh.2 (a - 16) 2 q4 rfl (i32_in h1 h2 q3) hd ?_
  rw [i32_clamp h1 (by omega), toNat_cast h1]
  exact k9 H locs arr cl sl hh hl hS e1 e2
theorem sn_iast  (hd : decode y.2.1 pc = .ok (.iastore, 1)) (hn : pc + 1 = n) : SndT MT y P G pc (o_iast n) := by
  intro E l p e R s m args below meth c Z C d n0 s0 lim Q X hG hR ls st h H
  obtain ⟨z, i, a, r, rfl, h0, h1, h2, k9⟩ := H
  intro H locs arr cl sl hh hl hS e1 e2
  subst hn
  obtain ⟨q1, q2, q3, q4⟩ := hh.at h0 (by decide)
  rw [mce_i h0 (by decide) (by decide)] at q4
  simp only [List.map_cons, vv_ref q1]
  refine va_iast X.1 X.2.1 X.2.2.2.2.2.1.1 hh.2 mws_D hS (a - 16) 0 q4 rfl (i32_in h1 h2 q3) hd (fun H1 locs1 hP1 hD1 hS1 => ?_)
  rw [i32_clamp h1 (by omega), mce_ist (c := 20) h0 (by decide) (by decide) h1] at hP1
  exact k9 H1 locs1 arr cl sl (hh.wr (h' := (h.1, upI h.2.1 a i z, h.2.2)) rfl q2 (fun _ q => mce_I q) hP1) hl hS1 e1 e2
theorem sn_bast  (hd : decode y.2.1 pc = .ok (.bastore, 1)) (hn : pc + 1 = n) : SndT MT y P G pc (o_bast n) := by
  intro E l p e R s m args below meth c Z C d n0 s0 lim Q X hG hR ls st h H
  obtain ⟨z, i, a, r, rfl, h0, h1, h2, hz, k9⟩ := H
  intro H locs arr cl sl hh hl hS e1 e2
  subst hn
  obtain ⟨q1, q2, q3, q4⟩ := hh.at h0 (by decide)
  rw [mce_i h0 (by decide) (by decide)] at q4
  simp only [List.map_cons, vv_ref q1]
  refine va_zast X.1 X.2.1 X.2.2.2.2.2.1.1 hh.2 mws_D hS (a - 16) 1 q4 rfl (i32_in h1 h2 q3) hd (fun H1 locs1 hP1 hD1 hS1 => ?_)
  rw [z01 hz] at hP1
  rw [i32_clamp h1 (by omega), mce_ist (c := 21) h0 (by decide) (by decide) h1] at hP1
  exact k9 H1 locs1 arr cl sl (hh.wr (h' := (h.1, upI h.2.1 a i z, h.2.2)) rfl q2 (fun _ q => mce_I q) hP1) hl hS1 e1 e2
theorem sn_last  (hd : decode y.2.1 pc = .ok (.lastore, 1)) (hn : pc + 1 = n) : SndT MT y P G pc (o_last n) := by
  intro E l p e R s m args below meth c Z C d n0 s0 lim Q X hG hR ls st h H
  obtain ⟨z, i, a, r, rfl, h0, h1, h2, k9⟩ := H
  intro H locs arr cl sl hh hl hS e1 e2
  subst hn
  obtain ⟨q1, q2, q3, q4⟩ := hh.at h0 (by decide)
  rw [mce_l h0] at q4
  simp only [List.map_cons, vv_ref q1]
  refine va_last X.1 X.2.1 X.2.2.2.2.2.1.1 hh.2 mws_D hS (a - 16) 2 q4 rfl (i32_in h1 h2 q3) hd (fun H1 locs1 hP1 hD1 hS1 => ?_)
  rw [i32_clamp h1 (by omega), mce_lst h0 h1] at hP1
  exact k9 H1 locs1 arr cl sl (hh.wr (h' := (h.1, upI h.2.1 a i z, h.2.2)) rfl q2 (fun _ q => mce_I q) hP1) hl hS1 e1 e2
theorem sn_aald {ci : Nat} {ty : FieldType} (hci : 22 < ci ∧ ci < 27) (ht : ∀ E : mE, (mtys E)[ci - 20]? = some (mcA E (ci - 20), ty)) (hty : ty.isReference = true) (hd : decode y.2.1 pc = .ok (.aaload, 1)) (hn : pc + 1 = n) : SndT MT y P G pc (o_aald ci n) := by
  intro E l p e R s m args below meth c Z C d n0 s0 lim Q X hG hR ls st h H
  obtain ⟨i, a, r, rfl, h0, h1, h2, k9⟩ := H
  intro H locs arr cl sl hh hl hS e1 e2
  subst hn
  obtain ⟨q1, q2, q3, q4⟩ := hh.at h0 (by omega)
  rw [mce_r h0 hci.1] at q4
  simp only [List.map_cons, vv_ref q1]
  have hin := i32_in h1 h2 q3
  have hlt : (Int32.ofInt i).toNatClampNeg < (h.1.2.2 a).2 := Nat.not_le.mp fun q => hin (Or.inr q)
  refine W.aald (v := va_rf (mro E (h.2.2 a (Int32.ofInt i).toNatClampNeg))) (ty := ty) X.1 X.2.1 (hh.2 (a - 16) _ q4) ((X.2.2.2.2.2.1.1.2 (ci - 20) _ (ht E)).1 (h.1.2.2 a).2 (fun j => va_rf (mro E (h.2.2 a j)))) hty (fun q => by cases q) (by show ¬ (Int32.ofInt i < 0 ∨ (arrV _ _ _).slots.size ≤ _); rw [arrV_size]; exact hin) (by show (arrV _ _ _).slots[_]? = _; rw [arrV_read _ _ hlt]) rfl rfl hd ?_
  rw [i32_clamp h1 (by omega), toNat_cast h1]
  exact k9 H locs arr cl sl hh hl hS e1 e2
theorem sn_aast {ci : Nat} {r5 : vw_C} (hci : 22 < ci ∧ ci < 26) (ht : ∀ E : mE, (mtys E)[ci - 20]? = some (mcA E (ci - 20), .object r5.1)) (hcl : vwCl[ci - 18]? = some r5) (hd : decode y.2.1 pc = .ok (.aastore, 1)) (hn : pc + 1 = n) : SndT MT y P G pc (o_aast ci n) := by
  intro E l p e R s m args below meth c Z C d n0 s0 lim Q X hG hR ls st h H
  obtain ⟨z, i, a, r, rfl, h0, hz, h1, h2, k9⟩ := H
  intro H locs arr cl sl hh hl hS e1 e2
  subst hn
  obtain ⟨q1, q2, q3, q4⟩ := hh.at h0 (by omega)
  obtain ⟨w1, w2, w3, w4⟩ := hh.at (c := ci - 18) (a := z) (by omega) (by omega)
  rw [mce_r h0 hci.1] at q4
  rw [mce_o (c := ci - 18) (by omega) (by omega)] at w4
  simp only [List.map_cons, vv_ref q1, vv_ref w1]
  refine va_astq X.1 X.2.1 X.2.2.2.2.2.1.1 hh.2 mws_D hS (a - 16) (ci - 20) (z - 16) (ci - 18) (r := r5) q4 (ht E) w4 hcl (i32_in h1 h2 q3) hd (fun H1 locs1 hP1 hD1 hS1 => ?_)
  rw [i32_clamp h1 (by omega), mce_rst (c := ci) h0 hci.1 h1 w1] at hP1
  exact k9 H1 locs1 arr cl sl (hh.wr (h' := (h.1, h.2.1, upR h.2.2 a i z)) rfl q2 (fun _ q => mce_R q) hP1) hl hS1 e1 e2
theorem sn_tsw {l0 hi : Int} {t : List Nat} {dn : Nat} {dflt : Int} {offs : Array Int} {len : Nat} (hd : decode y.2.1 pc = .ok (.tableswitch dflt l0 hi offs, len)) (h1 : hi = l0 + t.length - 1) (h2 : (pc : Int) + dflt = dn) (h3 : offs.toList.map (fun q => (pc : Int) + q) = t.map (fun q : Nat => (q : Int))) : SndT MT y P G pc (o_tsw l0 t dn) := by
  intro E l p e R s m args below meth c Z C d n0 s0 lim Q X hG hR ls st h H
  obtain ⟨a, r, rfl, h0, k9⟩ := H
  intro H locs arr cl sl hh hl hS e1 e2
  have k9 := k9 H locs arr cl sl hh hl hS e1 e2
  have hto : (Int32.ofInt a).toInt = a := i32_to h0
  unfold swt at k9
  by_cases c1 : a < l0
  · rw [if_pos c1] at k9
    exact lv_tableOut X.1 X.2.1 hd (Or.inl (by rw [hto]; exact c1)) h2 k9
  · rw [if_neg c1] at k9
    by_cases c2 : (a - l0).toNat < t.length
    · have hg : t.getD (a - l0).toNat dn = t[(a - l0).toNat] := by simp [List.getD, c2]
      rw [hg] at k9
      have hoff : (offs.toList.map (fun q => (pc : Int) + q))[(a - l0).toNat]? = some ((t[(a - l0).toNat] : Nat) : Int) := by
        rw [h3, List.getElem?_map, List.getElem?_eq_getElem c2]; rfl
      rw [List.getElem?_map] at hoff
      cases ho : offs.toList[(a - l0).toNat]? with
      | none => rw [ho] at hoff; cases hoff
      | some off =>
        rw [ho] at hoff
        have ho' : offs[((Int32.ofInt a).toInt - l0).toNat]? = some off := by rw [hto, ← Array.getElem?_toList]; exact ho
        exact lv_tableIn X.1 X.2.1 hd (by rw [hto]; exact c1) (by rw [hto]; omega) ho' (Option.some.inj hoff) k9
    · have hg : t.getD (a - l0).toNat dn = dn := by simp [List.getD, List.getElem?_eq_none (Nat.not_lt.mp c2)]
      rw [hg] at k9
      exact lv_tableOut X.1 X.2.1 hd (Or.inr (by rw [hto]; omega)) h2 k9
theorem lsw_off {pc : Int} {a dflt : Int} {dn : Nat} (h2 : pc + dflt = dn) : ∀ (ps : List (Int × Int)) (t : List (Int × Nat)), ps.map (fun q => (q.1, pc + q.2)) = t.map (fun q => (q.1, (q.2 : Int))) → pc + Op.lookupswitch.offset ps dflt a = (lsw a t dn : Nat)
  | [], [], _ => by rw [Op.lookupswitch.offset_nil]; exact h2
  | [], _ :: _, h => by simp at h
  | _ :: _, [], h => by simp at h
  | (k, o) :: ps, (k', t) :: ts, h => by
    simp only [List.map_cons, List.cons.injEq, Prod.mk.injEq] at h
    obtain ⟨⟨e1, e2⟩, e3⟩ := h
    subst e1
    rw [Op.lookupswitch.offset_cons]
    unfold lsw
    by_cases c1 : k = a
    · rw [if_pos c1, if_pos c1.symm]; exact e2
    · rw [if_neg c1, if_neg (fun q => c1 q.symm)]
      exact lsw_off h2 ps ts e3
theorem sn_lsw {t : List (Int × Nat)} {dn : Nat} {dflt : Int} {ps : Array (Int × Int)} {len : Nat} (hd : decode y.2.1 pc = .ok (.lookupswitch dflt ps, len)) (hp : (ps.toList.zip (ps.toList.drop 1)).all (fun (a, next) => a.1 < next.1) = true) (h2 : (pc : Int) + dflt = dn) (h3 : ps.toList.map (fun q => (q.1, (pc : Int) + q.2)) = t.map (fun q => (q.1, (q.2 : Int)))) : SndT MT y P G pc (o_lsw t dn) := by
  intro E l p e R s m args below meth c Z C d n0 s0 lim Q X hG hR ls st h H
  obtain ⟨a, r, rfl, h0, k9⟩ := H
  intro H locs arr cl sl hh hl hS e1 e2
  have k9 := k9 H locs arr cl sl hh hl hS e1 e2
  have hto : (Int32.ofInt a).toInt = a := i32_to h0
  exact lv_lookup X.1 X.2.1 hd hp rfl (by rw [hto]; exact lsw_off h2 _ _ h3) k9
theorem sn_mabs {idx : Nat} (hw0 : Cond.methodLink y.1.cls idx Lib.Math.abs.name ∈ mTB) (hw1 : Cond.static Lib.Math.abs.name ∈ mTB) (hw2 : Cond.initialized "java/lang/Math" ∈ mTB) (hw3 : Cond.code Lib.Math.abs.name Lib.Math.abs.code 1 (some .int) ∈ mTB) (hd : decode y.2.1 pc = .ok (.invokestatic idx, 3)) (hn : pc + 3 = n) : SndT MT y P G pc (o_mabs n) := by
  intro E l p e R s m args below meth c Z C d n0 s0 lim Q X hG hR ls st h H
  obtain ⟨a, r, rfl, h0, h1, l1, l2, k9⟩ := H
  intro H locs arr cl sl hh hl hS e1 e2
  subst hn
  have hs := vv_sum4 (E := E) h1
  obtain ⟨b1, b2, b3, b4⟩ := X.2.2.2.2.2.2.2.2.1
  refine va_mabs X.1 X.2.1 (X.2.2.1.trans hl.2.1.symm) X.2.2.2.1 (X.word hw0) (X.word hw1) (X.word hw2) (X.word hw3) (by have := X.2.2.2.2.2.2.2.1.1; omega) (by have := X.2.2.2.2.2.2.2.1.2; omega) (by omega) (by omega) hd ?_
  have k9 := k9 H locs arr cl sl hh hl hS e1 e2
  have e : (if 0 ≤ Int32.ofInt a then Int32.ofInt a else 0 - Int32.ofInt a) = Int32.ofInt (if 0 ≤ a then a else -a) := by
    by_cases c1 : 0 ≤ a
    · have hle : 0 ≤ Int32.ofInt a := (i32_le inR_0 h0).mpr c1
      rw [if_pos c1, if_pos hle]
    · have hle : ¬ 0 ≤ Int32.ofInt a := fun q => c1 ((i32_le inR_0 h0).mp q)
      rw [if_neg c1, if_neg hle, Int32.ofInt_neg]
      simp
  rw [e]
  exact k9
theorem sn_mmin {idx : Nat} (hw0 : Cond.methodLink y.1.cls idx Lib.Math.min.name ∈ mTB) (hw1 : Cond.static Lib.Math.min.name ∈ mTB) (hw2 : Cond.initialized "java/lang/Math" ∈ mTB) (hw3 : Cond.code Lib.Math.min.name Lib.Math.min.code 2 (some .int) ∈ mTB) (hd : decode y.2.1 pc = .ok (.invokestatic idx, 3)) (hn : pc + 3 = n) : SndT MT y P G pc (o_mmin n) := by
  intro E l p e R s m args below meth c Z C d n0 s0 lim Q X hG hR ls st h H
  obtain ⟨a, b, r, rfl, h0, h1, h2, l1, l2, k9⟩ := H
  intro H locs arr cl sl hh hl hS e1 e2
  subst hn
  have hs := vv_sum4 (E := E) h2
  obtain ⟨b1, b2, b3, b4⟩ := X.2.2.2.2.2.2.2.2.1
  refine va_mmin X.1 X.2.1 (X.2.2.1.trans hl.2.1.symm) X.2.2.2.1 (X.word hw0) (X.word hw1) (X.word hw2) (X.word hw3) (by have := X.2.2.2.2.2.2.2.1.1; omega) (by have := X.2.2.2.2.2.2.2.1.2; omega) (by omega) (by omega) hd ?_
  have k9 := k9 H locs arr cl sl hh hl hS e1 e2
  have e : (if Int32.ofInt b < Int32.ofInt a then Int32.ofInt b else Int32.ofInt a) = Int32.ofInt (if b < a then b else a) := by
    by_cases c1 : b < a
    · rw [if_pos c1, if_pos ((i32_lt h1 h0).mpr c1)]
    · rw [if_neg c1, if_neg (fun q => c1 ((i32_lt h1 h0).mp q))]
  rw [e]
  exact k9
theorem sn_copy {idx : Nat} (hw0 : Cond.methodLink y.1.cls idx arraycopyName ∈ mTB) (hw1 : Cond.native arraycopyName ∈ mTB) (hw2 : Cond.static arraycopyName ∈ mTB) (hw3 : Cond.initialized "java/lang/System" ∈ mTB) (hnw : nativeFrameWords "java/lang/System" "arraycopy" 5 ≤ 40) (hd : decode y.2.1 pc = .ok (.invokestatic idx, 3)) (hn : pc + 3 = n) : SndT MT y P G pc (o_copy n) := by
  intro E l p e R s m args below meth c Z C d n0 s0 lim Q X hG hR ls st h H
  obtain ⟨w, dp, b, sp, a, r, rfl, h0, h1, h2, h3, h4, h5, h6, h7, k9⟩ := H
  intro H locs arr cl sl hh hl hS e1 e2
  subst hn
  have hs := vv_sum4 (E := E) h7
  obtain ⟨q1, q2, q3, q4⟩ := hh.at h0 (by decide)
  obtain ⟨w1, w2, w3, w4⟩ := hh.at h1 (by decide)
  rw [mce_i h0 (by decide) (by decide)] at q4
  rw [mce_i h1 (by decide) (by decide)] at w4
  simp only [List.map_cons, vv_ref q1, vv_ref w1]
  have c1 := i32_clamp h2 (by omega)
  have c2 := i32_clamp h3 (by omega)
  have c3 := i32_clamp h4 (by omega)
  have pos : ∀ {i : Int}, 0 ≤ i → i < 2147483648 → ¬ Int32.ofInt i < 0 := fun {i} u v q => by
    have := (i32_lt (a := i) (b := 0) ⟨by omega, v⟩ inR_0).mp q
    omega
  refine va_copyi (ty := .int) X.1 X.2.1 (X.2.2.1.trans hl.2.1.symm) X.2.2.2.1 (X.word hw0) (X.word hw1) (X.word hw2) (X.word hw3) X.2.2.2.2.2.1.1 hh.2 mws_D hS (a - 16) (b - 16) 0 0 q4 w4 rfl rfl rfl (pos h2 (by omega)) (pos h3 (by omega)) (pos h4 (by omega)) (by rw [c1, c3]; omega) (by rw [c2, c3]; omega) (fun _ _ => rfl) (by have := X.2.2.2.2.2.2.2.1.1; omega) (by have := X.2.2.2.2.2.2.2.1.2; omega) hd (fun H1 locs1 hP1 hD1 hS1 => ?_)
  rw [c1, c2, c3] at hP1
  have e := mce_cp (E := E) (a := a) h1 h2 h3 h4
  rw [show mcA E (20 - 20) = mcA E 0 from rfl, e] at hP1
  exact k9 H1 locs1 arr cl sl (hh.wr (h' := (h.1, mcp h.2.1 a b sp dp w, h.2.2)) rfl w2 (fun _ q => mce_mcp q) hP1) hl hS1 e1 e2
theorem sn_objinit {idx : Nat} (hw0 : Cond.methodLink y.1.cls idx Lib.objectInit ∈ mTB) (hw1 : Cond.instanceMethod Lib.objectInit ∈ mTB) (hw2 : Cond.code Lib.objectInit ⟨#[0xb1]⟩ 1 none ∈ mTB) (hd : decode y.2.1 pc = .ok (.invokespecial idx, 3)) (hn : pc + 3 = n) : SndT MT y P G pc (o_objinit n) := by
  intro E l p e R s m args below meth c Z C d n0 s0 lim Q X hG hR ls st h H
  obtain ⟨a, r, rfl, h0, h1, k9⟩ := H
  intro H locs arr cl sl hh hl hS e1 e2
  subst hn
  have hs := vv_sum4 (E := E) h1
  simp only [List.map_cons, vv_ref h0]
  exact W.objInit X.1 X.2.1 X.2.2.2.1 (X.word hw0) (X.word hw1) (X.word hw2) rfl (hl.2.1.trans X.2.2.1.symm) rfl hd (by have := X.2.2.2.2.2.2.2.1.1; omega) (by have := X.2.2.2.2.2.2.2.1.2; show 2 * 0 + _ + 12 ≤ _; omega) (k9 H locs arr cl sl hh hl hS e1 e2)
end SN4
