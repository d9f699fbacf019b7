/-! the law, once more: where both sides gave the same number, the comparison goes on -/
def o_sam (t : Nat) : mT := fun _ _ _ K ls st h => ∃ (a : Int) (r : List mV), st = vi a :: vi a :: r ∧ K t ls r h
theorem mo_sam (t : Nat) : mMono (o_sam t) := by
  intro C lim Q K K' hK ls st h H
  obtain ⟨a, r, h0, k9⟩ := H
  exact ⟨a, r, h0, hK _ _ _ _ k9⟩
theorem s_sam {C : mC} {cd : Nat → mT} {lim : Nat × Nat} {Q : mQ} {pc : Nat} {ls r : List mV} {h : mH} {t : Nat} {a : Int} (hc : cd pc = o_sam t) (k9 : wp C cd lim Q t ls r h) : wp C cd lim Q pc ls (vi a :: vi a :: r) h := wp_step hc (mo_sam t) ⟨a, r, rfl, k9⟩
theorem sn_sam {MT : Nat → mM} {y : mM} {P : Nat × Nat → Nat × Nat → Prop} {G : mE → State → Prop} {pc t : Nat} {off : Int} (hd : decode y.2.1 pc = .ok (.if_icmp .eq off, 3)) (ht : (pc : Int) + off = (t : Int)) : SndT MT y P G pc (o_sam t) := by
  intro E l p e R s m args below meth c Z C d n0 s0 lim Q X hG hR ls st h H
  obtain ⟨a, r, rfl, k9⟩ := H
  intro H locs arr cl sl hh hl hS e1 e2
  refine lv_icmp_eq X.1 X.2.1 hd ht (fun q => ?_) (fun q => ?_)
  · exact k9 H locs arr cl sl hh hl hS e1 e2
  · exact absurd rfl q
def eqL : List Nat := [206, 249, 282, 325, 368, 391, 404, 467, 480, 493, 506, 519, 542, 575, 608, 631, 664, 687, 710, 733, 756, 779, 812, 855, 908, 941, 964, 977, 1052, 1085, 1108, 1131, 1154, 1167, 1190]
def cM (xs : Nat → Int32) (L : Nat) : Nat → mT := fun pc => if eqL.contains pc = true then o_sam 1195 else lk (clL xs L) pc
theorem cn {xs : Nat → Int32} {L pc : Nat} {t : mT} (h : eqL.contains pc = false) (k : lk (clL xs L) pc = t) : cM xs L pc = t := by
  unfold cM
  rw [if_neg (by rw [h]; decide)]
  exact k
theorem cq {xs : Nat → Int32} {L pc : Nat} (h : eqL.contains pc = true) : cM xs L pc = o_sam 1195 := by
  unfold cM
  rw [if_pos h]
theorem sdM {xs : Nat → Int32} {L : Nat} : ∀ pc, SndT MT mmL (fun _ _ => True) (mScr L xs) pc (cM xs L pc) := by
  intro pc
  by_cases h : eqL.contains pc = true
  · rw [cq h]
    have h2 : pc = 206 ∨ pc = 249 ∨ pc = 282 ∨ pc = 325 ∨ pc = 368 ∨ pc = 391 ∨ pc = 404 ∨ pc = 467 ∨ pc = 480 ∨ pc = 493 ∨ pc = 506 ∨ pc = 519 ∨ pc = 542 ∨ pc = 575 ∨ pc = 608 ∨ pc = 631 ∨ pc = 664 ∨ pc = 687 ∨ pc = 710 ∨ pc = 733 ∨ pc = 756 ∨ pc = 779 ∨ pc = 812 ∨ pc = 855 ∨ pc = 908 ∨ pc = 941 ∨ pc = 964 ∨ pc = 977 ∨ pc = 1052 ∨ pc = 1085 ∨ pc = 1108 ∨ pc = 1131 ∨ pc = 1154 ∨ pc = 1167 ∨ pc = 1190 := by simpa [eqL] using h
    rcases h2 with rfl | rfl | rfl | rfl | rfl | rfl | rfl | rfl | rfl | rfl | rfl | rfl | rfl | rfl | rfl | rfl | rfl | rfl | rfl | rfl | rfl | rfl | rfl | rfl | rfl | rfl | rfl | rfl | rfl | rfl | rfl | rfl | rfl | rfl | rfl
    · exact sn_sam dL_law_206 rfl
    · exact sn_sam dL_law_249 rfl
    · exact sn_sam dL_law_282 rfl
    · exact sn_sam dL_law_325 rfl
    · exact sn_sam dL_law_368 rfl
    · exact sn_sam dL_law_391 rfl
    · exact sn_sam dL_law_404 rfl
    · exact sn_sam dL_law_467 rfl
    · exact sn_sam dL_law_480 rfl
    · exact sn_sam dL_law_493 rfl
    · exact sn_sam dL_law_506 rfl
    · exact sn_sam dL_law_519 rfl
    · exact sn_sam dL_law_542 rfl
    · exact sn_sam dL_law_575 rfl
    · exact sn_sam dL_law_608 rfl
    · exact sn_sam dL_law_631 rfl
    · exact sn_sam dL_law_664 rfl
    · exact sn_sam dL_law_687 rfl
    · exact sn_sam dL_law_710 rfl
    · exact sn_sam dL_law_733 rfl
    · exact sn_sam dL_law_756 rfl
    · exact sn_sam dL_law_779 rfl
    · exact sn_sam dL_law_812 rfl
    · exact sn_sam dL_law_855 rfl
    · exact sn_sam dL_law_908 rfl
    · exact sn_sam dL_law_941 rfl
    · exact sn_sam dL_law_964 rfl
    · exact sn_sam dL_law_977 rfl
    · exact sn_sam dL_law_1052 rfl
    · exact sn_sam dL_law_1085 rfl
    · exact sn_sam dL_law_1108 rfl
    · exact sn_sam dL_law_1131 rfl
    · exact sn_sam dL_law_1154 rfl
    · exact sn_sam dL_law_1167 rfl
    · exact sn_sam dL_law_1190 rfl
  · rw [cn (by simpa using h) rfl]
    exact sdL pc
theorem whole_fromM {p : Program} {e : Env} {s : State} {m : MethodId} {below : List Frame} {meth : Method} {c : Code} (l : Launch) {b L : Nat} {xs : Nat → Int32} (hL : L ≤ 3584) (C0 : lw_At p s m meth c b L xs) (hw : wp (mcall MT CD 100) (cM xs L) limL QL 0 [vr 1, vj, vj, vj] [] hZ) : W p l e room_1 s m #[Value.ref b] below meth c s.heap [] 0 0 (lw_Z below #[Value.ref b] s) (entryFrame m ([Value.ref b] : List Value).toArray 4) := by
  obtain ⟨hx, hb, hr, hml, hown, hts, hX, hbl, hlocks, hgv⟩ := C0
  obtain ⟨E, hE1, hE2, hE⟩ := law_env hts hgv
  have hh : mRel E hZ s.heap := by
    refine ⟨⟨Nat.le_refl _, fun a h => absurd h (by show ¬ 99 < 27; decide)⟩, fun k q h => ?_⟩
    have e : mws E hZ = [] := rfl
    rw [e] at h
    simp at h
  have X : mCx E MT mmL 100 l p room_1 s m #[Value.ref b] meth c (mcall MT CD 100) limL 16 0 :=
    ⟨hx, hb, hml, hown, fun w hw => hts w (mTB_lw hw), hE, ⟨Nat.le_refl _, by show s.heap.size = E.1 + 0; rw [hE1]; rfl⟩, ⟨by decide, by decide⟩, ⟨rfl, rfl, by decide, by decide⟩, mSound hpl hall E l 100, fun h => absurd h (by decide)⟩
  have K := hw (mW E 4 16 0 p l e room_1 s m #[Value.ref b] below meth c (lw_Z below #[Value.ref b] s))
    (fun pc ls st h H => sdM pc E l p e room_1 s m #[Value.ref b] below meth c (lw_Z below #[Value.ref b] s) (mcall MT CD 100) 100 16 0 limL QL X ⟨by rw [hE2]; exact hX, by rw [hE2]; exact hbl, by rw [hE1, hE2]; exact hbl, hL⟩ (mRetL hE1 hx hb hr hlocks) ls st h H)
  have hv : vv E (vr 1) = .ref b := by rw [vv_ref (by decide)]; show Value.ref E.2.1 = _; rw [hE2]
  have hen := entL_mL (E := E) (nL := 4) (as := [vr 1]) (by decide)
  simp only [List.map_cons, List.map_nil, hv] at hen
  rw [lg_entry_eq]
  exact K s.heap [] _ 0 0 hh hen va_S.rf rfl rfl
