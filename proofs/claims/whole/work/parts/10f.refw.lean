theorem pick_s {σ w : Nat → Int → Int} {rule wh s : Int} {k : Nat} : pickS σ w rule wh s (k + 1) = if mayS σ w wh s k ∧ (pickS σ w rule wh s k = -1 ∨ rkS σ rule s k < rkS σ rule s (pickS σ w rule wh s k)) then (k : Int) else pickS σ w rule wh s k := rfl
theorem late_s {σ w : Nat → Int → Int} {s : Int} {k : Nat} : lateS σ s w (k + 1) = if latP σ (lateS σ s w k) s k then brkS σ (lateS σ s w k) k else lateS σ s w k := rfl
theorem may_ref {σ J w : Nat → Int → Int} {s wh s' p : Int} (h : RW σ J w s) (h0 : 0 ≤ p) (h1 : p < σ 127 21) : mayS σ J wh s' p = mayS σ w wh s' p := by
  obtain ⟨e1, e2, e3⟩ := h.1 p h0 h1
  unfold mayS fitW
  rw [e1, e2]
set_option maxRecDepth 20000 in
theorem t199 {d : Nat} {I σ : Nat → Int → Int} {P : Int → Nat} {dr : Nat} {Q : mQ} {rule wh slots : Int} (hN : WFn σ) (hP : WFp σ) (ha : 0 ≤ σ 127 31 ∧ σ 127 31 ≤ 1) (r0 : 0 ≤ rule) (r1 : rule ≤ 2) (w0 : 0 ≤ wh) (w1 : wh < 6) (sl : slots ≤ 12) {w J : Nat → Int → Int} {ins rest sc s t : Int} {l9 : mV} (hF : FW I J) (hs : sig J = σ) (hR : RW σ J w s) (hsc : J 127 36 = sc) (hst : ∀ p, 0 ≤ p → p < σ 127 21 → stOK σ w p) (hi : 0 ≤ ins ∧ ins ≤ 2) (ht : t = -1 ∨ (0 ≤ t ∧ t < σ 127 21 ∧ mayS σ w wh s t)) (hB : wOK σ (if t = -1 then (upI w 148 s (if σ 131 (12 * wh + s) = 4 then 21 else 22), ins, -1, rest, sc) else if pf σ t 1 = ins then (w, ins, t, ps σ t (w 145 t) 0, sc) else (upI w 148 s 20, pf σ t 1, -1, rest, sc) : mW4)) (s0 : 0 ≤ s) (s1 : s < slots) (k59 : ∀ (J : Nat → Int → Int) (l8 l9 : mV), FW I J → sig J = σ → RW σ J (goS σ wh s (if t = -1 then (upI w 148 s (if σ 131 (12 * wh + s) = 4 then 21 else 22), ins, -1, rest, sc) else if pf σ t 1 = ins then (w, ins, t, ps σ t (w 145 t) 0, sc) else (upI w 148 s 20, pf σ t 1, -1, rest, sc) : mW4)).1 (s + 1) → J 127 36 = (goS σ wh s (if t = -1 then (upI w 148 s (if σ 131 (12 * wh + s) = 4 then 21 else 22), ins, -1, rest, sc) else if pf σ t 1 = ins then (w, ins, t, ps σ t (w 145 t) 0, sc) else (upI w 148 s 20, pf σ t 1, -1, rest, sc) : mW4)).2.2.2.2 → wp (mcall MT CD (d + 6)) (CD 191) L0 Q 59 [vr 127, vi rule, vi wh, vi slots, vi (goS σ wh s (if t = -1 then (upI w 148 s (if σ 131 (12 * wh + s) = 4 then 21 else 22), ins, -1, rest, sc) else if pf σ t 1 = ins then (w, ins, t, ps σ t (w 145 t) 0, sc) else (upI w 148 s 20, pf σ t 1, -1, rest, sc) : mW4)).2.1, vi (goS σ wh s (if t = -1 then (upI w 148 s (if σ 131 (12 * wh + s) = 4 then 21 else 22), ins, -1, rest, sc) else if pf σ t 1 = ins then (w, ins, t, ps σ t (w 145 t) 0, sc) else (upI w 148 s 20, pf σ t 1, -1, rest, sc) : mW4)).2.2.1, vi (goS σ wh s (if t = -1 then (upI w 148 s (if σ 131 (12 * wh + s) = 4 then 21 else 22), ins, -1, rest, sc) else if pf σ t 1 = ins then (w, ins, t, ps σ t (w 145 t) 0, sc) else (upI w 148 s 20, pf σ t 1, -1, rest, sc) : mW4)).2.2.2.1, vi (s + 1), l8, l9] [] (S0, J, RR P dr)) : wp (mcall MT CD (d + 6)) (CD 191) L0 Q 199 [vr 127, vi rule, vi wh, vi slots, vi ins, vi (-1), vi rest, vi s, vi t, l9] [] (S0, J, RR P dr) := by
  have hpl := hP.1
  refine s_ild k191_199 rfl ?_
  refine z_push k191_201 ?_
  refine s_icne k191_202 ⟨by omega, by omega⟩ (inR_lit rfl) (fun h202 => ?_) (fun h202 => ?_)
  · have ht2 : 0 ≤ t ∧ t < σ 127 21 ∧ mayS σ w wh s t := by
      rcases ht with e | e
      · exact absurd e (by omega)
      · exact e
    have hpt := hP.2 t ht2.1 ht2.2.1
    have hpt1 := hpt.2.1
    have hpt4 := hpt.2.2.2.2.1
    have e145 := (hR.1 t ht2.1 ht2.2.1).1
    have hs5 := (hst t ht2.1 ht2.2.1).1
    have hm5 := ht2.2.2.1
    refine s_ald k191_238 rfl ?_
    refine z_getRe (b := 138) k191_239 rfl rr_127_22 ?_
    refine z_push k191_242 ?_
    refine s_ild k191_244 rfl ?_
    refine z_imul k191_246 ?_
    refine z_push k191_247 ?_
    refine z_iadd k191_248 ?_
    refine z_ialde (z := pf σ t 1) k191_249 rfl (by omega) (show ((23 * t) + 1) < ((138 : Nat) : Int) by omega) (st_s hs rfl) ?_
    refine s_ild k191_250 rfl ?_
    refine s_iceq k191_252 ⟨by omega, by omega⟩ ⟨by omega, by omega⟩ (fun h252 => ?_) (fun h252 => ?_)
    · refine s_ild k191_281 rfl ?_
      refine s_ist5 k191_283 rfl ?_
      refine s_ald k191_285 rfl ?_
      refine s_ild k191_286 rfl ?_
      refine s_ald k191_288 rfl ?_
      refine z_getRe (b := 145) k191_289 rfl rr_127_32 ?_
      refine s_ild k191_292 rfl ?_
      refine z_ialde (z := J 145 t) k191_294 rfl (by omega) (show t < ((5 : Nat) : Int) by omega) rfl ?_
      refine z_push k191_295 ?_
      refine z_inv3A k191_296 rfl (Nat.le_of_ble_eq_true rfl) (c167 hs (by omega) (by omega) (by omega) (by omega) (by decide) (by decide)) ?_
      refine s_ist6 k191_299 rfl ?_
      have e : (if t = -1 then (upI w 148 s (if σ 131 (12 * wh + s) = 4 then 21 else 22), ins, -1, rest, sc) else if pf σ t 1 = ins then (w, ins, t, ps σ t (w 145 t) 0, sc) else (upI w 148 s 20, pf σ t 1, -1, rest, sc) : mW4) = (w, ins, t, ps σ t (w 145 t) 0, sc) := by rw [if_neg (by omega), if_pos (by omega)]
      rw [e] at k59 hB
      rw [(hR.1 t (by omega) (by omega)).1]
      exact t301 hN hP ha r0 r1 w0 w1 sl hF hs hR (fun q => absurd q (by omega)) hsc hB s0 s1 k59
    · refine s_ald k191_255 rfl ?_
      refine z_getRe (b := 138) k191_256 rfl rr_127_22 ?_
      refine z_push k191_259 ?_
      refine s_ild k191_261 rfl ?_
      refine z_imul k191_263 ?_
      refine z_push k191_264 ?_
      refine z_iadd k191_265 ?_
      refine z_ialde (z := pf σ t 1) k191_266 rfl (by omega) (show ((23 * t) + 1) < ((138 : Nat) : Int) by omega) (st_s hs rfl) ?_
      refine s_ist4 k191_267 rfl ?_
      refine s_ald k191_269 rfl ?_
      refine z_getRe (b := 148) k191_270 rfl rr_127_35 ?_
      refine s_ild k191_273 rfl ?_
      refine z_push k191_275 ?_
      refine z_iast k191_277 rfl (by omega) (show s < ((12 : Nat) : Int) by omega) ?_
      refine z_goto k191_278 ?_
      have e : (if t = -1 then (upI w 148 s (if σ 131 (12 * wh + s) = 4 then 21 else 22), ins, -1, rest, sc) else if pf σ t 1 = ins then (w, ins, t, ps σ t (w 145 t) 0, sc) else (upI w 148 s 20, pf σ t 1, -1, rest, sc) : mW4) = (upI w 148 s 20, pf σ t 1, -1, rest, sc) := by rw [if_neg (by omega), if_neg (by omega)]
      rw [e] at k59 hB
      exact t301 hN hP ha r0 r1 w0 w1 sl (hF.up (Or.inr (by decide))) ((sig_no rfl).trans hs) hR.up (fun _ => up_at.trans up_at.symm) (by rw [up_ne (by decide)]; exact hsc) hB s0 s1 k59
  · have hk := hN.sk (i := 12 * wh + s) (by omega) (by omega)
    refine s_ald k191_205 rfl ?_
    refine z_getRe (b := 148) k191_206 rfl rr_127_35 ?_
    refine s_ild k191_209 rfl ?_
    refine s_ald k191_211 rfl ?_
    refine z_getRe (b := 131) k191_212 rfl rr_127_9 ?_
    refine z_push k191_215 ?_
    refine s_ild k191_217 rfl ?_
    refine z_imul k191_218 ?_
    refine s_ild k191_219 rfl ?_
    refine z_iadd k191_221 ?_
    refine z_ialde (z := σ 131 ((12 * wh) + s)) k191_222 rfl (by omega) (show ((12 * wh) + s) < ((72 : Nat) : Int) by omega) (st_s hs rfl) ?_
    refine z_push k191_223 ?_
    refine s_icne k191_224 ⟨by omega, by omega⟩ (inR_lit rfl) (fun h224 => ?_) (fun h224 => ?_)
    · refine z_push k191_232 ?_
      refine z_iast k191_234 rfl (by omega) (show s < ((12 : Nat) : Int) by omega) ?_
      refine z_goto k191_235 ?_
      have e : (if t = -1 then (upI w 148 s (if σ 131 (12 * wh + s) = 4 then 21 else 22), ins, -1, rest, sc) else if pf σ t 1 = ins then (w, ins, t, ps σ t (w 145 t) 0, sc) else (upI w 148 s 20, pf σ t 1, -1, rest, sc) : mW4) = (upI w 148 s 22, ins, -1, rest, sc) := by rw [if_pos (by omega), if_neg (by omega)]
      rw [e] at k59 hB
      exact t301 hN hP ha r0 r1 w0 w1 sl (hF.up (Or.inr (by decide))) ((sig_no rfl).trans hs) hR.up (fun _ => up_at.trans up_at.symm) (by rw [up_ne (by decide)]; exact hsc) hB s0 s1 k59
    · refine z_push k191_227 ?_
      refine z_goto k191_229 ?_
      refine z_iast k191_234 rfl (by omega) (show s < ((12 : Nat) : Int) by omega) ?_
      refine z_goto k191_235 ?_
      have e : (if t = -1 then (upI w 148 s (if σ 131 (12 * wh + s) = 4 then 21 else 22), ins, -1, rest, sc) else if pf σ t 1 = ins then (w, ins, t, ps σ t (w 145 t) 0, sc) else (upI w 148 s 20, pf σ t 1, -1, rest, sc) : mW4) = (upI w 148 s 21, ins, -1, rest, sc) := by rw [if_pos (by omega), if_pos (by omega)]
      rw [e] at k59 hB
      exact t301 hN hP ha r0 r1 w0 w1 sl (hF.up (Or.inr (by decide))) ((sig_no rfl).trans hs) hR.up (fun _ => up_at.trans up_at.symm) (by rw [up_ne (by decide)]; exact hsc) hB s0 s1 k59
set_option maxRecDepth 20000 in
theorem lp143 {d : Nat} {σ : Nat → Int → Int} {P : Int → Nat} {dr : Nat} {Q : mQ} {rule wh slots : Int} (hN : WFn σ) (hP : WFp σ) (r0 : 0 ≤ rule) (r1 : rule ≤ 2) (w0 : 0 ≤ wh) (w1 : wh < 6) (sl : slots ≤ 12) {w J : Nat → Int → Int} {ins rest s : Int} (hs : sig J = σ) (hR : RW σ J w s) (hst : ∀ p, 0 ≤ p → p < σ 127 21 → stOK σ w p) (s0 : 0 ≤ s) (s1 : s < slots) (k199 : ∀ l9 : mV, wp (mcall MT CD (d + 6)) (CD 191) L0 Q 199 [vr 127, vi rule, vi wh, vi slots, vi ins, vi (-1), vi rest, vi s, vi (pickS σ w rule wh s (σ 127 21).toNat), l9] [] (S0, J, RR P dr)) : ∀ (m i : Nat), (i : Int) + m = σ 127 21 → wp (mcall MT CD (d + 6)) (CD 191) L0 (Q) 143 [vr 127, vi rule, vi wh, vi slots, vi ins, vi (-1), vi rest, vi s, vi (pickS σ w rule wh s i), vi (i : Int)] [] (S0, J, RR P dr) := by
  intro m
  induction m with
  | zero => 
    intro i hi
    have hpl := hP.1
    refine s_ild k191_143 rfl ?_
    refine s_ald k191_145 rfl ?_
    refine z_getIe (z := σ 127 21) k191_146 rfl (st_s hs rfl) ?_
    refine s_icge k191_149 ⟨by omega, by omega⟩ ⟨by omega, by omega⟩ (fun h149 => ?_) (fun q => absurd q (by omega))
    have e : (i : Int) = σ 127 21 := by omega
    rw [show (σ 127 21).toNat = i from by omega] at k199
    exact k199 _
  | succ m ih => 
    intro i hi
    have hpl := hP.1
    refine s_ild k191_143 rfl ?_
    refine s_ald k191_145 rfl ?_
    refine z_getIe (z := σ 127 21) k191_146 rfl (st_s hs rfl) ?_
    refine s_icge k191_149 ⟨by omega, by omega⟩ ⟨by omega, by omega⟩ (fun q => absurd q (by omega)) (fun h149 => ?_)
    have hmr := may_ref (wh := wh) (s' := s) (p := (i : Int)) hR (by omega) (by omega)
    have hpk0 := pick_may (σ := σ) (w := w) (rule := rule) (wh := wh) (s := s) i
    have hpkb : -1 ≤ pickS σ w rule wh s i ∧ pickS σ w rule wh s i < 5 := by
      rcases hpk0 with e | e
      · omega
      · have := e.1; have := e.2.1; omega
    refine s_ald k191_152 rfl ?_
    refine s_ild k191_153 rfl ?_
    refine s_ild k191_155 rfl ?_
    refine s_ild k191_157 rfl ?_
    refine z_inv3A k191_158 rfl (Nat.le_of_ble_eq_true rfl) (c189 hs hN (by omega) (by omega) (hP.2 _ (by omega) (by omega)) (stOK.ref hR (by omega) (by omega) (hst _ (by omega) (by omega))) s0 (by omega) w0 w1) ?_
    refine z_ifeqb k191_161 (fun h161 => ?_) (fun h161 => ?_)
    · refine s_ild k191_189 rfl ?_
      refine s_ist8 k191_191 rfl ?_
      refine s_iinc9 k191_193 rfl ?_
      refine z_goto k191_196 ?_
      have e := ih (i + 1) (by omega)
      rw [pick_s, if_neg (fun q => by first | exact h161 (Eq.mpr hmr q.1) | exact (q.2).elim (fun u => h167 u) (fun u => h181 u))] at e
      exact e
    · refine s_ild k191_164 rfl ?_
      refine z_push k191_166 ?_
      refine s_iceq k191_167 ⟨by omega, by omega⟩ (inR_lit rfl) (fun h167 => ?_) (fun h167 => ?_)
      · refine s_ild k191_184 rfl ?_
        refine z_goto k191_186 ?_
        refine s_ist8 k191_191 rfl ?_
        refine s_iinc9 k191_193 rfl ?_
        refine z_goto k191_196 ?_
        have e := ih (i + 1) (by omega)
        rw [pick_s, if_pos ⟨Eq.mp hmr h161, by first | exact Or.inl h167 | exact Or.inr h181⟩] at e
        exact e
      · have hpk := pick_may (σ := σ) (w := w) (rule := rule) (wh := wh) (s := s) i
        have hpk2 : 0 ≤ pickS σ w rule wh s i ∧ pickS σ w rule wh s i < i := by
          rcases hpk with e | e
          · exact absurd e h167
          · exact ⟨e.1, e.2.1⟩
        refine s_ald k191_170 rfl ?_
        refine s_ild k191_171 rfl ?_
        refine s_ild k191_172 rfl ?_
        refine s_ild k191_174 rfl ?_
        refine s_ild k191_176 rfl ?_
        refine z_inv4A k191_178 rfl (Nat.le_of_ble_eq_true rfl) (c190 hs hN r0 r1 (by omega) (by omega) (hP.2 _ (by omega) (by omega)) (by omega) (by omega) (hP.2 _ (by omega) (by omega)) s0 (by omega)) ?_
        refine z_ifeqb k191_181 (fun h181 => ?_) (fun h181 => ?_)
        · refine s_ild k191_189 rfl ?_
          refine s_ist8 k191_191 rfl ?_
          refine s_iinc9 k191_193 rfl ?_
          refine z_goto k191_196 ?_
          have e := ih (i + 1) (by omega)
          rw [pick_s, if_neg (fun q => by first | exact h161 (Eq.mpr hmr q.1) | exact (q.2).elim (fun u => h167 u) (fun u => h181 u))] at e
          exact e
        · refine s_ild k191_184 rfl ?_
          refine z_goto k191_186 ?_
          refine s_ist8 k191_191 rfl ?_
          refine s_iinc9 k191_193 rfl ?_
          refine z_goto k191_196 ?_
          have e := ih (i + 1) (by omega)
          rw [pick_s, if_pos ⟨Eq.mp hmr h161, by first | exact Or.inl h167 | exact Or.inr h181⟩] at e
          exact e
set_option maxRecDepth 20000 in
theorem lp74 {d : Nat} {I σ : Nat → Int → Int} {P : Int → Nat} {dr : Nat} {Q : mQ} {rule wh slots : Int} (hP : WFp σ) (ha : 0 ≤ σ 127 31 ∧ σ 127 31 ≤ 1) (sl : slots ≤ 12) {w : Nat → Int → Int} {ins rest sc s : Int} {l9 : mV} (hst : ∀ p, 0 ≤ p → p < σ 127 21 → stOK σ w p) (s0 : 0 ≤ s) (s1 : s < slots) (k137 : ∀ (J : Nat → Int → Int) (l8 : mV), FW I J → sig J = σ → RW σ J (lateS σ s w (σ 127 21).toNat) s → J 127 36 = sc → wp (mcall MT CD (d + 6)) (CD 191) L0 Q 137 [vr 127, vi rule, vi wh, vi slots, vi ins, vi (-1), vi rest, vi s, l8, l9] [] (S0, J, RR P dr)) : ∀ (m i : Nat) (J : Nat → Int → Int), (i : Int) + m = σ 127 21 → FW I J → sig J = σ → RW σ J (lateS σ s w i) s → J 127 36 = sc → wp (mcall MT CD (d + 6)) (CD 191) L0 (Q) 74 [vr 127, vi rule, vi wh, vi slots, vi ins, vi (-1), vi rest, vi s, vi (i : Int), l9] [] (S0, J, RR P dr) := by
  intro m
  induction m with
  | zero => 
    intro i J hi hF hs hR hsc
    have hpl := hP.1
    refine s_ild k191_74 rfl ?_
    refine s_ald k191_76 rfl ?_
    refine z_getIe (z := σ 127 21) k191_77 rfl (st_s hs rfl) ?_
    refine s_icge k191_80 ⟨by omega, by omega⟩ ⟨by omega, by omega⟩ (fun h80 => ?_) (fun q => absurd q (by omega))
    rw [show (σ 127 21).toNat = i from by omega] at k137
    exact k137 J _ hF hs hR hsc
  | succ m ih => 
    intro i J hi hF hs hR hsc
    have hpl := hP.1
    refine s_ild k191_74 rfl ?_
    refine s_ald k191_76 rfl ?_
    refine z_getIe (z := σ 127 21) k191_77 rfl (st_s hs rfl) ?_
    refine s_icge k191_80 ⟨by omega, by omega⟩ ⟨by omega, by omega⟩ (fun q => absurd q (by omega)) (fun h80 => ?_)
    obtain ⟨e145, e146, e147⟩ := hR.1 i (by omega) (by omega)
    have hpi := hP.2 i (by omega) (by omega)
    have hsti := late_st (s := s) hpi.2.2.2.2.1.1 (hst i (by omega) (by omega)) i
    have hsti1 := hsti.1
    have hsti2 := hsti.2.1
    have hp4 := hpi.2.2.2.2.1
    refine s_ald k191_83 rfl ?_
    refine z_getRe (b := 145) k191_84 rfl rr_127_32 ?_
    refine s_ild k191_87 rfl ?_
    refine z_ialde (z := J 145 (i : Int)) k191_89 rfl (by omega) (show (i : Int) < ((5 : Nat) : Int) by omega) rfl ?_
    refine z_push k191_90 ?_
    refine z_push k191_91 ?_
    refine z_sta3A k191_92 (Nat.le_of_ble_eq_true rfl) (c136 ⟨by omega, by omega⟩ (inR_lit rfl) (inR_lit rfl)) ?_
    refine z_ifeqb k191_95 (fun h95 => ?_) (fun h95 => ?_)
    · refine s_iinc8 k191_131 rfl ?_
      refine z_goto k191_134 ?_
      refine ih (i + 1) J (by omega) hF hs ?_ hsc
      rw [late_s, if_neg (fun q => by rw [latP, ← e145, ← e146] at q; have q1 := q.1; have q2 := q.2; omega)]
      exact hR
    · have hj : 1 ≤ J 145 i ∧ J 145 i ≤ 2 := h95
      have hjs := hpi.st (j := J 145 i) (by omega) (by omega)
      have hj5 := hjs.2.2.2.2.2 (by omega)
      refine s_ild k191_98 rfl ?_
      refine s_ald k191_100 rfl ?_
      refine z_getRe (b := 146) k191_101 rfl rr_127_33 ?_
      refine s_ild k191_104 rfl ?_
      refine z_ialde (z := J 146 (i : Int)) k191_106 rfl (by omega) (show (i : Int) < ((5 : Nat) : Int) by omega) rfl ?_
      refine z_isub k191_107 ?_
      refine s_ald k191_108 rfl ?_
      refine s_ild k191_109 rfl ?_
      refine s_ald k191_111 rfl ?_
      refine z_getRe (b := 145) k191_112 rfl rr_127_32 ?_
      refine s_ild k191_115 rfl ?_
      refine z_ialde (z := J 145 (i : Int)) k191_117 rfl (by omega) (show (i : Int) < ((5 : Nat) : Int) by omega) rfl ?_
      refine z_push k191_118 ?_
      refine z_inv3A k191_119 rfl (Nat.le_of_ble_eq_true rfl) (c167 hs (by omega) (by omega) (by omega) (by omega) (by decide) (by decide)) ?_
      refine s_icle k191_122 ⟨by omega, by omega⟩ ⟨by omega, by omega⟩ (fun h122 => ?_) (fun h122 => ?_)
      · refine s_iinc8 k191_131 rfl ?_
        refine z_goto k191_134 ?_
        refine ih (i + 1) J (by omega) hF hs ?_ hsc
        rw [late_s, if_neg (fun q => by rw [latP, ← e145, ← e146] at q; have q1 := q.1; have q2 := q.2; omega)]
        exact hR
      · refine s_ald k191_125 rfl ?_
        refine s_ild k191_126 rfl ?_
        refine z_inv1 k191_128 rfl (Nat.le_of_ble_eq_true rfl) (c187 hs ha (by omega) (by omega) (by rw [e147]; exact hsti.2.2)) (fun o h1 hq => ?_)
        obtain ⟨rfl, rfl⟩ := hq
        refine s_iinc8 k191_131 rfl ?_
        refine z_goto k191_134 ?_
        have hL : latP σ (lateS σ s w i) s i := ⟨by rw [← e145]; exact h95, by rw [← e145, ← e146]; omega⟩
        refine ih (i + 1) _ (by omega) (FW.brk hF) ((FW.sig (FW.brk FW.rf)).trans hs) ?_ ?_
        · rw [late_s, if_pos hL]
          exact RW.brk hR (by omega) (by omega)
        · unfold brkJ
          rw [up_ne (by decide), up_ne (by decide)]
          exact hsc
set_option maxRecDepth 20000 in
theorem lp59 {d : Nat} {I σ : Nat → Int → Int} {P : Int → Nat} {dr : Nat} {rule wh slots : Int} (hN : WFn σ) (hP : WFp σ) (ha : 0 ≤ σ 127 31 ∧ σ 127 31 ≤ 1) (r0 : 0 ≤ rule) (r1 : rule ≤ 2) (w0 : 0 ≤ wh) (w1 : wh < 6) (sl : slots ≤ 12) : ∀ (m k : Nat) (J : Nat → Int → Int) (l8 l9 : mV), (k : Int) + m = slots → FW I J → sig J = σ → RW σ J (runS σ rule wh k).1 k → J 127 36 = (runS σ rule wh k).2.2.2.2 → wp (mcall MT CD (d + 6)) (CD 191) L0 (fun o h => o = none ∧ ∃ J, h = (S0, J, RR P dr) ∧ FW I J ∧ RW σ J (runS σ rule wh slots.toNat).1 slots ∧ J 127 36 = (runS σ rule wh slots.toNat).2.2.2.2) 59 [vr 127, vi rule, vi wh, vi slots, vi (runS σ rule wh k).2.1, vi (runS σ rule wh k).2.2.1, vi (runS σ rule wh k).2.2.2.1, vi (k : Int), l8, l9] [] (S0, J, RR P dr) := by
  intro m
  induction m with
  | zero =>
    intro k J l8 l9 hk hF hs hR hsc
    have hk2 : slots.toNat = k := by omega
    refine s_ild k191_59 rfl ?_
    refine s_ild k191_61 rfl ?_
    refine s_icge k191_62 ⟨by omega, by omega⟩ ⟨by omega, by omega⟩ (fun _ => ?_) (fun q => absurd q (by omega))
    refine z_vret k191_457 ⟨rfl, J, rfl, hF, ?_, ?_⟩
    · rw [hk2, ← hk]
      simpa using hR
    · rw [hk2]
      exact hsc
  | succ m ih =>
    intro k J l8 l9 hk hF hs hR hsc
    have hok := run_OK (rule := rule) (wh := wh) hP k (by omega)
    have k59 := fun (J : Nat → Int → Int) (l8 l9 : mV) h1 h2 h3 h4 => ih (k + 1) J l8 l9 (by omega) h1 h2 h3 h4
    have hR1 : runS σ rule wh (k + 1) = goS σ wh k (begS σ rule wh k (runS σ rule wh k)) := rfl
    rw [hR1] at k59
    have hbk := beg_OK (rule := rule) (wh := wh) (s := (k : Int)) hP hok
    generalize (runS σ rule wh k) = x at hR hsc hok k59 hbk ⊢
    obtain ⟨w, ins, go, rest, sc⟩ := x
    obtain ⟨ok1, ok2, ok3, ok4⟩ := id hok
    dsimp only at ok1 ok2 ok3 ok4 hR hsc ⊢
    have hpl := hP.1
    have hg1 : -1 ≤ go ∧ go < 5 := by omega
    refine s_ild k191_59 rfl ?_
    refine s_ild k191_61 rfl ?_
    refine s_icge k191_62 ⟨by omega, by omega⟩ ⟨by omega, by omega⟩ (fun q => absurd q (by omega)) (fun _ => ?_)
    refine s_ild k191_65 rfl ?_
    refine z_push k191_67 ?_
    refine s_icne k191_68 ⟨by omega, by omega⟩ (inR_lit rfl) (fun h68 => ?_) (fun h68 => ?_)
    · have e : begS σ rule wh k (w, ins, go, rest, sc) = (w, ins, go, rest, sc) := if_neg h68
      rw [e] at k59
      exact t301 hN hP ha r0 r1 w0 w1 sl hF hs hR (fun q => absurd q h68) hsc hok (by omega) (by omega) k59
    · have hgo : go = -1 := by omega
      subst hgo
      refine z_push k191_71 ?_
      refine s_ist8 k191_72 rfl ?_
      refine lp74 hP ha sl (w := w) ok1 (by omega) (by omega) (fun J l8 hF hs hR hsc => ?_) (σ 127 21).toNat 0 J (by omega) hF hs hR hsc
      refine z_push k191_137 ?_
      refine s_ist8 k191_138 rfl ?_
      refine z_push k191_140 ?_
      refine s_ist9 k191_141 rfl ?_
      have hst2 : ∀ p, 0 ≤ p → p < σ 127 21 → stOK σ (lateS σ k w (σ 127 21).toNat) p := fun p q1 q2 => late_st (hP.2 p q1 q2).2.2.2.2.1.1 (ok1 p q1 q2) _
      refine lp143 hN hP r0 r1 w0 w1 sl hs hR hst2 (by omega) (by omega) (fun l9 => ?_) (σ 127 21).toNat 0 (by omega)
      have hpm := pick_may (σ := σ) (w := lateS σ k w (σ 127 21).toNat) (rule := rule) (wh := wh) (s := k) (σ 127 21).toNat
      rw [show (((σ 127 21).toNat : Nat) : Int) = σ 127 21 from by omega] at hpm
      exact t199 hN hP ha r0 r1 w0 w1 sl hF hs hR hsc hst2 ok2 hpm hbk (by omega) (by omega) k59
set_option maxRecDepth 20000 in
theorem wlp3 {d : Nat} {I σ : Nat → Int → Int} {P : Int → Nat} {dr : Nat} {rule wh slots : Int} (hN : WFn σ) (hP : WFp σ) (ha : 0 ≤ σ 127 31 ∧ σ 127 31 ≤ 1) (r0 : 0 ≤ rule) (r1 : rule ≤ 2) (w0 : 0 ≤ wh) (w1 : wh < 6) (sl : slots ≤ 12) (s0 : 0 ≤ slots) : ∀ (m i : Nat) (J : Nat → Int → Int), (i : Int) + m = σ 127 21 → FW I J → sig J = σ → (∀ p, 0 ≤ p → p < (i : Int) → J 145 p = 0 ∧ J 146 p = 0 ∧ J 147 p = 0) → wp (mcall MT CD (d + 6)) (CD 191) L0 (fun o h => o = none ∧ ∃ J, h = (S0, J, RR P dr) ∧ FW I J ∧ RW σ J (runS σ rule wh slots.toNat).1 slots ∧ J 127 36 = (runS σ rule wh slots.toNat).2.2.2.2) 3 [vr 127, vi rule, vi wh, vi slots, vi (i : Int), vj, vj, vj, vj, vj] [] (S0, J, RR P dr) := by
  intro m
  induction m with
  | zero => 
    intro i J hi hF hs hZ
    have hpl := hP.1
    refine s_ild k191_3 rfl ?_
    refine s_ald k191_5 rfl ?_
    refine z_getIe (z := σ 127 21) k191_6 rfl (st_s hs rfl) ?_
    refine s_icge k191_9 ⟨by omega, by omega⟩ ⟨by omega, by omega⟩ (fun h9 => ?_) (fun q => absurd q (by omega))
    refine s_ald k191_42 rfl ?_
    refine z_push k191_43 ?_
    refine z_putIe (q := 36) k191_44 rfl rfl ?_
    refine z_push k191_47 ?_
    refine s_ist4 k191_48 rfl ?_
    refine z_push k191_50 ?_
    refine s_ist5 k191_51 rfl ?_
    refine z_push k191_53 ?_
    refine s_ist6 k191_54 rfl ?_
    refine z_push k191_56 ?_
    refine s_ist7 k191_57 rfl ?_
    refine lp59 hN hP ha r0 r1 w0 w1 sl slots.toNat 0 _ _ _ (by omega) (hF.up (Or.inl ⟨rfl, rfl⟩)) ((sig_no rfl).trans hs) ⟨fun p p0 p1 => ?_, fun q q0 q1 => absurd q1 (by omega)⟩ up_at
    obtain ⟨q1, q2, q3⟩ := hZ p p0 (by omega)
    exact ⟨(up_ne (by decide)).trans q1, (up_ne (by decide)).trans q2, (up_ne (by decide)).trans q3⟩
  | succ m ih => 
    intro i J hi hF hs hZ
    have hpl := hP.1
    refine s_ild k191_3 rfl ?_
    refine s_ald k191_5 rfl ?_
    refine z_getIe (z := σ 127 21) k191_6 rfl (st_s hs rfl) ?_
    refine s_icge k191_9 ⟨by omega, by omega⟩ ⟨by omega, by omega⟩ (fun q => absurd q (by omega)) (fun h9 => ?_)
    refine s_ald k191_12 rfl ?_
    refine z_getRe (b := 145) k191_13 rfl rr_127_32 ?_
    refine s_ild k191_16 rfl ?_
    refine z_push k191_18 ?_
    refine z_iast k191_19 rfl (by omega) (show (i : Int) < ((5 : Nat) : Int) by omega) ?_
    refine s_ald k191_20 rfl ?_
    refine z_getRe (b := 146) k191_21 rfl rr_127_33 ?_
    refine s_ild k191_24 rfl ?_
    refine z_push k191_26 ?_
    refine z_iast k191_27 rfl (by omega) (show (i : Int) < ((5 : Nat) : Int) by omega) ?_
    refine s_ald k191_28 rfl ?_
    refine z_getRe (b := 147) k191_29 rfl rr_127_34 ?_
    refine s_ild k191_32 rfl ?_
    refine z_push k191_34 ?_
    refine z_bast k191_35 rfl (by omega) (show (i : Int) < ((5 : Nat) : Int) by omega) (Or.inl rfl) ?_
    refine s_iinc4 k191_36 rfl ?_
    refine z_goto k191_39 ?_
    refine ih (i + 1) _ (by omega) (((hF.up (Or.inr (by decide))).up (Or.inr (by decide))).up (Or.inr (by decide))) ((sig_no rfl).trans ((sig_no rfl).trans ((sig_no rfl).trans hs))) (fun p p0 p1 => ?_)
    by_cases c1 : p = i
    · subst c1
      exact ⟨(up_ne (by decide)).trans ((up_ne (by decide)).trans up_at), (up_ne (by decide)).trans up_at, up_at⟩
    · obtain ⟨q1, q2, q3⟩ := hZ p p0 (by omega)
      exact ⟨(up_nk c1).trans ((up_nk c1).trans ((up_nk c1).trans q1)), (up_nk c1).trans ((up_nk c1).trans ((up_nk c1).trans q2)), (up_nk c1).trans ((up_nk c1).trans ((up_nk c1).trans q3))⟩
set_option maxRecDepth 20000 in
theorem c191 {d : Nat} {I : Nat → Int → Int} {P : Int → Nat} {dr : Nat} {σ : Nat → Int → Int} (hs : sig I = σ) {rule wh slots : Int} (hN : WFn σ) (hP : WFp σ) (ha : 0 ≤ σ 127 31 ∧ σ 127 31 ≤ 1) (r0 : 0 ≤ rule) (r1 : rule ≤ 2) (w0 : 0 ≤ wh) (w1 : wh < 6) (s0 : 0 ≤ slots) (sl : slots ≤ 12) : cal (d + 7) 191 [vr 127, vi rule, vi wh, vi slots] I P dr (fun o h => o = none ∧ ∃ J, h = (S0, J, RR P dr) ∧ FW I J ∧ RW σ J (runS σ rule wh slots.toNat).1 slots ∧ J 127 36 = (runS σ rule wh slots.toNat).2.2.2.2) := by
  refine cal_in (Nat.le_of_ble_eq_true rfl) ?_
  show wp _ _ _ _ 0 [vr 127, vi rule, vi wh, vi slots, vj, vj, vj, vj, vj, vj] [] _
  refine z_push k191_0 ?_
  refine s_ist4 k191_1 rfl ?_
  exact wlp3 hN hP ha r0 r1 w0 w1 sl s0 (σ 127 21).toNat 0 I (by have := hP.1; omega) FW.rf hs (fun p p0 p1 => absurd p1 (by omega))
