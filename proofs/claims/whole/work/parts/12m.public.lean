/-! a night is closed -/
abbrev lgV (σ : Nat → Int → Int) (v : Int) : Prop := (0 ≤ v ∧ v < σ 127 21) ∨ (10 ≤ v ∧ v < 10 + σ 127 21) ∨ (20 ≤ v ∧ v ≤ 22)
theorem beg_lv {σ : Nat → Int → Int} {r wh s : Int} {x : mW4} (h : x.2.2.1 = -1) (h2 : (begS σ r wh s x).2.2.1 = -1) : lgV σ ((begS σ r wh s x).1 148 s) := by
  unfold begS at h2 ⊢
  rw [if_pos h] at h2 ⊢
  dsimp only at h2 ⊢
  generalize lateS σ s x.1 (σ 127 21).toNat = w1 at h2 ⊢
  generalize pickS σ w1 r wh s (σ 127 21).toNat = t at h2 ⊢
  by_cases c1 : t = -1
  · rw [if_pos c1]
    dsimp only
    rw [up_at]
    split <;> omega
  · rw [if_neg c1] at h2 ⊢
    by_cases c2 : pf σ t 1 = x.2.1
    · rw [if_pos c2] at h2
      exact absurd h2 c1
    · rw [if_neg c2]
      dsimp only
      rw [up_at]
      omega
theorem go_lv {σ : Nat → Int → Int} {wh s : Int} {x : mW4} (hx : wOK σ x) (h : x.2.2.1 = -1 → lgV σ (x.1 148 s)) : lgV σ ((goS σ wh s x).1 148 s) := by
  unfold goS
  by_cases c1 : x.2.2.1 = -1
  · rw [if_pos c1]
    exact h c1
  · rw [if_neg c1]
    rcases hx.2.2.1 with e | ⟨g0, g1, -⟩
    · exact absurd e c1
    · by_cases c2 : fitW σ x.1 wh s x.2.2.1
      · rw [if_pos c2]
        by_cases c3 : x.2.2.2.1 - 1 = 0
        · rw [if_pos c3]
          dsimp only
          rw [up_ne (by decide), up_ne (by decide), up_at]
          omega
        · rw [if_neg c3]
          dsimp only
          rw [up_at]
          omega
      · rw [if_neg c2]
        dsimp only
        rw [(brk_at (q := s)).2.2.2, up_at]
        omega
theorem run_lv {σ : Nat → Int → Int} {r wh : Int} (hP : WFp σ) : ∀ k : Nat, k ≤ 12 → ∀ q : Nat, q < k → lgV σ ((runS σ r wh k).1 148 q)
  | 0, _, q, hq => absurd hq (by omega)
  | k + 1, hk, q, hq => by
    show lgV σ ((slotS σ r wh k (runS σ r wh k)).1 148 q)
    unfold slotS
    have hok := run_OK (rule := r) (wh := wh) hP k (by omega)
    by_cases c1 : q = k
    · subst c1
      refine go_lv (beg_OK hP hok) (fun h2 => ?_)
      by_cases c2 : (runS σ r wh q).2.2.1 = -1
      · exact beg_lv c2 h2
      · unfold begS at h2
        rw [if_neg c2] at h2
        exact absurd h2 c2
    · rw [go_lg (by omega), beg_lg (by omega)]
      exact run_lv hP k (by omega) q (by omega)
/-- the account of a slot's entry -/
def acI (σ : Nat → Int → Int) (v : Int) : Int := if v < 20 then pf σ (v.tmod 10) 0 else v - 16
def accS (σ w : Nat → Int → Int) : Nat → Nat → Int → Int
  | 0 => σ
  | k + 1 => upI (upI (accS σ w k) 150 (acI σ (w 148 k)) (accS σ w k 150 (acI σ (w 148 k)) + 1)) 150 7 (upI (accS σ w k) 150 (acI σ (w 148 k)) (accS σ w k 150 (acI σ (w 148 k)) + 1) 150 7 + 1)
theorem acc_s {σ w : Nat → Int → Int} {k : Nat} : accS σ w (k + 1) = upI (upI (accS σ w k) 150 (acI σ (w 148 k)) (accS σ w k 150 (acI σ (w 148 k)) + 1)) 150 7 (upI (accS σ w k) 150 (acI σ (w 148 k)) (accS σ w k 150 (acI σ (w 148 k)) + 1) 150 7 + 1) := rfl
theorem acc_o {σ w : Nat → Int → Int} {a : Nat} {q : Int} (h : a ≠ 150) : ∀ k, accS σ w k a q = σ a q
  | 0 => rfl
  | k + 1 => by
    rw [acc_s, up_ne h, up_ne h]
    exact acc_o h k
theorem acI_b {σ : Nat → Int → Int} {v : Int} (hP : WFp σ) (h : lgV σ v) : 0 ≤ acI σ v ∧ acI σ v ≤ 6 := by
  have b := hP.1
  unfold acI
  by_cases c1 : v < 20
  · rw [if_pos c1]
    have hm : v.tmod 10 = v % 10 := Int.tmod_eq_emod_of_nonneg (by omega)
    have := (hP.2 (v.tmod 10) (by omega) (by omega)).1
    omega
  · rw [if_neg c1]
    omega
theorem acc_b {σ w : Nat → Int → Int} (hP : WFp σ) : ∀ k : Nat, (∀ q : Nat, q < k → lgV σ (w 148 q)) → ∀ i, σ 150 i ≤ accS σ w k 150 i ∧ accS σ w k 150 i ≤ σ 150 i + k
  | 0, _, i => ⟨Int.le_refl _, by show σ 150 i ≤ σ 150 i + 0; omega⟩
  | k + 1, h, i => by
    have ih := acc_b hP k (fun q hq => h q (by omega))
    have hb := acI_b hP (h k (by omega))
    rw [acc_s]
    by_cases c1 : i = 7
    · subst c1
      rw [up_at, up_nk (by omega)]
      have := ih 7
      omega
    · rw [up_nk c1]
      by_cases c2 : i = acI σ (w 148 k)
      · rw [← c2, up_at]
        have := ih i
        omega
      · rw [up_nk c2]
        have := ih i
        omega
/-- the plans that are done go, from the last one on -/
def rmD (σ w : Nat → Int → Int) : Nat → Nat → Int → Int
  | 0 => σ
  | k + 1 => if w 145 (σ 127 21 - 1 - k) = 8 then rmS (rmD σ w k) (σ 127 21 - 1 - k) else rmD σ w k
theorem rmD_s {σ w : Nat → Int → Int} {k : Nat} : rmD σ w (k + 1) = if w 145 (σ 127 21 - 1 - k) = 8 then rmS (rmD σ w k) (σ 127 21 - 1 - k) else rmD σ w k := rfl
theorem rmD_o {σ w : Nat → Int → Int} {a : Nat} {q : Int} (h1 : a ≠ 138) (h2 : ¬ (a = 127 ∧ q = 21)) : ∀ k, rmD σ w k a q = σ a q
  | 0 => rfl
  | k + 1 => by
    rw [rmD_s]
    split
    · rw [rm_o h1 h2]
      exact rmD_o h1 h2 k
    · exact rmD_o h1 h2 k
theorem rmD_b {σ w : Nat → Int → Int} (hP : WFp σ) : ∀ k : Nat, (k : Int) ≤ σ 127 21 → WFp (rmD σ w k) ∧ σ 127 21 - k ≤ rmD σ w k 127 21
  | 0, _ => ⟨hP, by show σ 127 21 - 0 ≤ σ 127 21; omega⟩
  | k + 1, h => by
    have ih := rmD_b (w := w) hP k (by omega)
    rw [rmD_s]
    split
    · refine ⟨ih.1.rm (by omega) (by have := ih.2; omega), ?_⟩
      rw [rm_21]
      have := ih.2
      omega
    · exact ⟨ih.1, by have := ih.2; omega⟩
abbrev cloA (σ : Nat → Int → Int) (r : Int) : Nat → Int → Int := accS σ (runS σ r 1 (σ 127 0).toNat).1 (σ 127 0).toNat
abbrev cloD (σ : Nat → Int → Int) (r : Int) : Nat → Int → Int := rmD (cloA σ r) (runS σ r 1 (σ 127 0).toNat).1 (σ 127 21).toNat
def cloS (σ : Nat → Int → Int) (r : Int) : Nat → Int → Int := fillS (upI (upI (upI (cloD σ r) 127 39 (σ 127 39 + scS σ r 1)) 127 1 (σ 127 1 + 1)) 127 6 (-1)) 24
def xClo (σ : Nat → Int → Int) (r : Int) : mX := if 0 ≤ r ∧ r ≤ 2 then (if σ 127 1 = 300 then (-4, σ, false) else (scS σ r 1, cloS σ r, true)) else (-3, σ, false)
theorem WFp.acc {σ w : Nat → Int → Int} (hP : WFp σ) (k : Nat) : WFp (accS σ w k) := by
  have e : ∀ a q, a ≠ 150 → accS σ w k a q = σ a q := fun a q h => acc_o h k
  refine ⟨by rw [e 127 21 (by decide)]; exact hP.1, fun p p0 p1 => ?_⟩
  rw [e 127 21 (by decide)] at p1
  exact (hP.2 p p0 p1).mv (e 127 2 (by decide)) (fun q _ _ => e 138 _ (by decide))
theorem clo_f {σ : Nat → Int → Int} {r k : Int} {a : Nat} (h : a ≠ 131) : cloS σ r a k = upI (upI (upI (cloD σ r) 127 39 (σ 127 39 + scS σ r 1)) 127 1 (σ 127 1 + 1)) 127 6 (-1) a k := by
  unfold cloS fillS
  rw [if_neg (fun q => h q.1)]
theorem clo_o {σ : Nat → Int → Int} {r k : Int} {a : Nat} (h1 : a ≠ 127) (h2 : a ≠ 131) (h3 : a ≠ 138) (h4 : a ≠ 150) : cloS σ r a k = σ a k := by
  rw [clo_f h2, up_ne h1, up_ne h1, up_ne h1]
  exact (rmD_o h3 (by omega) _).trans (acc_o h4 _)
theorem clo_7 {σ : Nat → Int → Int} {r q : Int} (h1 : q ≠ 1) (h2 : q ≠ 6) (h3 : q ≠ 21) (h4 : q ≠ 39) : cloS σ r 127 q = σ 127 q := by
  rw [clo_f (by decide), up_nk h2, up_nk h1, up_nk h4]
  exact (rmD_o (by decide) (by omega) _).trans (acc_o (by decide) _)
theorem clo_1 {σ : Nat → Int → Int} {r : Int} : cloS σ r 127 1 = σ 127 1 + 1 := by rw [clo_f (by decide), up_nk (by decide), up_at]
theorem clo_6 {σ : Nat → Int → Int} {r : Int} : cloS σ r 127 6 = -1 := by rw [clo_f (by decide), up_at]
theorem clo_39 {σ : Nat → Int → Int} {r : Int} : cloS σ r 127 39 = σ 127 39 + scS σ r 1 := by rw [clo_f (by decide), up_nk (by decide), up_nk (by decide), up_at]
theorem clo_p {σ : Nat → Int → Int} {r q : Int} {a : Nat} (h : (a = 127 ∧ q = 21) ∨ a = 138) : cloS σ r a q = cloD σ r a q := by
  rw [clo_f (by omega)]
  unfold upI
  rw [if_neg (by omega), if_neg (by omega), if_neg (by omega)]
theorem clo_150 {σ : Nat → Int → Int} {r q : Int} : cloS σ r 150 q = cloA σ r 150 q := by
  rw [clo_f (by decide), up_ne (by decide), up_ne (by decide), up_ne (by decide)]
  exact rmD_o (by decide) (by omega) _
theorem clo_131 {σ : Nat → Int → Int} {r q : Int} : cloS σ r 131 q = (if 0 ≤ q ∧ q < 24 then 1 else σ 131 q) := by
  unfold cloS fillS
  by_cases c : 0 ≤ q ∧ q < 24
  · rw [if_pos ⟨rfl, c.1, c.2⟩, if_pos c]
  · rw [if_neg (fun u => c u.2), if_neg c, up_ne (by decide), up_ne (by decide), up_ne (by decide)]
    exact (rmD_o (by decide) (by omega) _).trans (acc_o (by decide) _)
set_option maxRecDepth 20000 in
theorem lp203c {d : Nat} {I τ : Nat → Int → Int} {P : Int → Nat} {dr : Nat} {r sc : Int} {l3 : mV} : ∀ (m i : Nat) (J : Nat → Int → Int), (i : Int) + m = 24 → sig J = fillS τ i → (∀ a k, a < 127 → J a k = I a k) → J 127 36 = sc → wp (mcall MT CD (d + 7)) (CD 203) L0 (refQ (sc, fillS τ 24, true) I P dr) 166 [vr 127, vi r, vi (i : Int), l3] [] (S0, J, RR P dr) := by
  intro m
  induction m with
  | zero => 
    intro i J hi hs hlo hsc
    refine s_ild k203_166 rfl ?_
    refine z_push k203_167 ?_
    refine s_icge k203_169 ⟨by omega, by omega⟩ (inR_lit rfl) (fun h169 => ?_) (fun q => absurd q (by omega))
    refine s_ald k203_185 rfl ?_
    refine z_getIe (z := sc) k203_186 rfl hsc ?_
    refine z_iret k203_189 ⟨J, rfl, rfl, ?_, hlo⟩
    rw [hs, show (i : Int) = 24 by omega]
  | succ m ih => 
    intro i J hi hs hlo hsc
    refine s_ild k203_166 rfl ?_
    refine z_push k203_167 ?_
    refine s_icge k203_169 ⟨by omega, by omega⟩ (inR_lit rfl) (fun q => absurd q (by omega)) (fun h169 => ?_)
    refine s_ald k203_172 rfl ?_
    refine z_getRe (b := 131) k203_173 rfl rr_127_9 ?_
    refine s_ild k203_176 rfl ?_
    refine z_push k203_177 ?_
    refine z_iast k203_178 rfl (by omega) (show (i : Int) < ((72 : Nat) : Int) by omega) ?_
    refine s_iinc2 k203_179 rfl ?_
    refine z_goto k203_182 ?_
    exact ih (i + 1) _ (by omega) (by rw [sig_up rfl, hs]; exact fill_s (by omega)) (fun a k hk => (up_ne (by omega)).trans (hlo a k hk)) ((up_ne (by decide)).trans hsc)
set_option maxRecDepth 20000 in
theorem lp203b {d : Nat} {I τ w : Nat → Int → Int} {P : Int → Nat} {dr : Nat} {r sc : Int} {l3 : mV} (hP0 : WFp τ) (hw : ∀ p, 0 ≤ p → p < τ 127 21 → 0 ≤ w 145 p ∧ w 145 p ≤ 9) : ∀ (m i : Nat) (J : Nat → Int → Int), (i : Int) + m = τ 127 21 → sig J = rmD τ w i → (∀ a k, a < 127 → J a k = I a k) → J 127 36 = sc → (∀ p, 0 ≤ p → p < τ 127 21 → J 145 p = w 145 p) → wp (mcall MT CD (d + 7)) (CD 203) L0 (refQ (sc, fillS (upI (upI (upI (rmD τ w (τ 127 21).toNat) 127 39 (τ 127 39 + sc)) 127 1 (τ 127 1 + 1)) 127 6 (-1)) 24, true) I P dr) 110 [vr 127, vi r, vi (τ 127 21 - 1 - (i : Int)), l3] [] (S0, J, RR P dr) := by
  intro m
  induction m with
  | zero => 
    intro i J hi hs hlo hsc hst
    have hpl := hP0.1
    refine s_ild k203_110 rfl ?_
    refine s_iflt k203_111 ⟨by omega, by omega⟩ (fun h111 => ?_) (fun q => absurd q (by omega))
    refine s_ald k203_136 rfl ?_
    refine z_dupr k203_137 ?_
    refine z_getIe (z := τ 127 39) k203_138 rfl ((st_s hs rfl).trans (rmD_o (by decide) (by omega) i)) ?_
    refine s_ald k203_141 rfl ?_
    refine z_getIe (z := sc) k203_142 rfl hsc ?_
    refine z_iadd k203_145 ?_
    refine z_putIe (q := 39) k203_146 rfl rfl ?_
    refine s_ald k203_149 rfl ?_
    refine z_dupr k203_150 ?_
    refine z_getIe (z := τ 127 1) k203_151 rfl ((up_nk (by decide)).trans ((st_s hs rfl).trans (rmD_o (by decide) (by omega) i))) ?_
    refine z_push k203_154 ?_
    refine z_iadd k203_155 ?_
    refine z_putIe (q := 1) k203_156 rfl rfl ?_
    refine s_ald k203_159 rfl ?_
    refine z_push k203_160 ?_
    refine z_putIe (q := 6) k203_161 rfl rfl ?_
    refine z_push k203_164 ?_
    refine s_ist2 k203_165 rfl ?_
    have hi2 : (τ 127 21).toNat = i := by omega
    rw [hi2]
    refine lp203c 24 0 _ (by decide) ?_ (fun a k hk => (up_ne (by omega)).trans ((up_ne (by omega)).trans ((up_ne (by omega)).trans (hlo a k hk)))) ((up_nk (by decide)).trans ((up_nk (by decide)).trans ((up_nk (by decide)).trans hsc)))
    rw [sig_up rfl, sig_up rfl, sig_up rfl, hs]
    exact fill_0.symm
  | succ m ih => 
    intro i J hi hs hlo hsc hst
    have hpl := hP0.1
    refine s_ild k203_110 rfl ?_
    refine s_iflt k203_111 ⟨by omega, by omega⟩ (fun q => absurd q (by omega)) (fun h111 => ?_)
    obtain ⟨hP, hb⟩ := rmD_b (w := w) hP0 i (by omega)
    have hw8 := hw (τ 127 21 - 1 - i) (by omega) (by omega)
    refine s_ald k203_114 rfl ?_
    refine z_getRe (b := 145) k203_115 rfl rr_127_32 ?_
    refine s_ild k203_118 rfl ?_
    refine z_ialde (z := w 145 (τ 127 21 - 1 - i)) k203_119 rfl (by omega) (show (τ 127 21 - 1 - (i : Int)) < ((5 : Nat) : Int) by omega) (hst _ (by omega) (by omega)) ?_
    refine z_push k203_120 ?_
    refine s_icne k203_122 ⟨by omega, by omega⟩ (inR_lit rfl) (fun h122 => ?_) (fun h122 => ?_)
    · refine s_iinc2 k203_130 rfl ?_
      refine z_goto k203_133 ?_
      rw [show τ 127 21 - 1 - i + -1 = τ 127 21 - 1 - ((i + 1 : Nat) : Int) by omega]
      refine (ih (i + 1) J (by omega) (by rw [rmD_s, if_neg (by omega)]; exact hs) hlo hsc hst)
    · refine s_ald k203_125 rfl ?_
      refine s_ild k203_126 rfl ?_
      refine z_inv1 k203_127 rfl (Nat.le_of_ble_eq_true rfl) (c161 (σ := rmD τ w i) hs (by omega) (by omega) (by have := hP.1; omega)) (fun o h1 hq => ?_)
      obtain ⟨rfl, J2, rfl, g1, g2⟩ := hq
      refine s_iinc2 k203_130 rfl ?_
      refine z_goto k203_133 ?_
      rw [show τ 127 21 - 1 - i + -1 = τ 127 21 - 1 - ((i + 1 : Nat) : Int) by omega]
      refine (ih (i + 1) J2 (by omega) (by rw [rmD_s, if_pos (by omega)]; exact g1) (fun a k hk => (g2 a k (st_lo hk)).trans (hlo a k hk)) ((g2 127 36 rfl).trans hsc) (fun p p0 p1 => (g2 145 p rfl).trans (hst p p0 p1)))
set_option maxRecDepth 20000 in
theorem lp203a {d : Nat} {I σ w : Nat → Int → Int} {P : Int → Nat} {dr : Nat} {r sc : Int} (hP : WFp σ) (hn : 4 ≤ σ 127 0 ∧ σ 127 0 ≤ 12) (hw : ∀ p, 0 ≤ p → p < σ 127 21 → 0 ≤ w 145 p ∧ w 145 p ≤ 9) (hlv : ∀ q : Nat, (q : Int) < σ 127 0 → lgV σ (w 148 q)) : ∀ (m i : Nat) (J : Nat → Int → Int) (l3 : mV), (i : Int) + m = σ 127 0 → sig J = accS σ w i → (∀ a k, a < 127 → J a k = I a k) → J 127 36 = sc → (∀ p, 0 ≤ p → p < σ 127 21 → J 145 p = w 145 p) → (∀ q, 0 ≤ q → q < σ 127 0 → J 148 q = w 148 q) → wp (mcall MT CD (d + 7)) (CD 203) L0 (refQ (sc, fillS (upI (upI (upI (rmD (accS σ w (σ 127 0).toNat) w (σ 127 21).toNat) 127 39 (σ 127 39 + sc)) 127 1 (σ 127 1 + 1)) 127 6 (-1)) 24, true) I P dr) 37 [vr 127, vi r, vi (i : Int), l3] [] (S0, J, RR P dr) := by
  intro m
  induction m with
  | zero => 
    intro i J l3 hi hs hlo hsc hst hlg
    have hpl := hP.1
    refine s_ild k203_37 rfl ?_
    refine s_ald k203_38 rfl ?_
    refine z_getIe (z := σ 127 0) k203_39 rfl ((st_s hs rfl).trans (acc_o (by decide) i)) ?_
    refine s_icge k203_42 ⟨by omega, by omega⟩ ⟨by omega, by omega⟩ (fun h42 => ?_) (fun q => absurd q (by omega))
    refine s_ald k203_103 rfl ?_
    refine z_getIe (z := σ 127 21) k203_104 rfl ((st_s hs rfl).trans (acc_o (by decide) i)) ?_
    refine z_push k203_107 ?_
    refine z_isub k203_108 ?_
    refine s_ist2 k203_109 rfl ?_
    have e21 : accS σ w i 127 21 = σ 127 21 := acc_o (by decide) i
    have k := lp203b (d := d) (I := I) (P := P) (dr := dr) (τ := accS σ w i) (w := w) (r := r) (sc := sc) (l3 := l3) (hP.acc i) (fun p p0 p1 => hw p p0 (by omega)) (σ 127 21).toNat 0 J (by omega) hs hlo hsc (fun p p0 p1 => hst p p0 (by omega))
    rw [e21, acc_o (by decide), acc_o (by decide), show σ 127 21 - 1 - ((0 : Nat) : Int) = σ 127 21 - 1 by omega] at k
    rw [show (σ 127 0).toNat = i by omega]
    exact k
  | succ m ih => 
    intro i J l3 hi hs hlo hsc hst hlg
    have hpl := hP.1
    refine s_ild k203_37 rfl ?_
    refine s_ald k203_38 rfl ?_
    refine z_getIe (z := σ 127 0) k203_39 rfl ((st_s hs rfl).trans (acc_o (by decide) i)) ?_
    refine s_icge k203_42 ⟨by omega, by omega⟩ ⟨by omega, by omega⟩ (fun q => absurd q (by omega)) (fun h42 => ?_)
    have hv := hlv i (by omega)
    have h7 : ∀ x, upI J 150 x (accS σ w i 150 x + 1) 150 7 = upI (accS σ w i) 150 x (accS σ w i 150 x + 1) 150 7 := fun x => by
      unfold upI
      split
      · rfl
      · exact st_s hs rfl
    have hpf : ∀ x, J 138 (23 * x) = pf σ x 0 := fun x => (st_s hs rfl).trans ((acc_o (by decide) i).trans (by unfold pf; rw [Int.add_zero]))
    refine s_ald k203_45 rfl ?_
    refine z_getRe (b := 148) k203_46 rfl rr_127_35 ?_
    refine s_ild k203_49 rfl ?_
    refine z_ialde (z := w 148 (i : Int)) k203_50 rfl (by omega) (show (i : Int) < ((12 : Nat) : Int) by omega) (hlg _ (by omega) (by omega)) ?_
    refine s_ist3 k203_51 rfl ?_
    refine s_ald k203_52 rfl ?_
    refine z_getRe (b := 150) k203_53 rfl rr_127_38 ?_
    refine s_ild k203_56 rfl ?_
    refine z_push k203_57 ?_
    refine s_icge k203_59 ⟨by omega, by omega⟩ (inR_lit rfl) (fun h59 => ?_) (fun h59 => ?_)
    · refine s_ild k203_77 rfl ?_
      refine z_push k203_78 ?_
      refine z_isub k203_80 ?_
      refine z_dup2ir k203_81 ?_
      refine z_ialde (z := accS σ w i 150 ((w 148 (i : Int)) - 16)) k203_82 rfl (by omega) (show ((w 148 (i : Int)) - 16) < ((8 : Nat) : Int) by omega) (st_s hs rfl) ?_
      refine z_push k203_83 ?_
      refine z_iadd k203_84 ?_
      refine z_iast k203_85 rfl (by omega) (show ((w 148 (i : Int)) - 16) < ((8 : Nat) : Int) by omega) ?_
      refine s_ald k203_86 rfl ?_
      refine z_getRe (b := 150) k203_87 rfl rr_127_38 ?_
      refine z_push k203_90 ?_
      refine z_dup2ir k203_92 ?_
      refine z_ialde (z := upI (accS σ w i) 150 ((w 148 (i : Int)) - 16) (accS σ w i 150 ((w 148 (i : Int)) - 16) + 1) 150 7) k203_93 rfl (by decide) (show 7 < ((8 : Nat) : Int) by omega) (h7 _) ?_
      refine z_push k203_94 ?_
      refine z_iadd k203_95 ?_
      refine z_iast k203_96 rfl (by decide) (show 7 < ((8 : Nat) : Int) by omega) ?_
      refine s_iinc2 k203_97 rfl ?_
      refine z_goto k203_100 ?_
      refine ih (i + 1) _ _ (by omega) ?_ (fun a k hk => (up_ne (by omega)).trans ((up_ne (by omega)).trans (hlo a k hk))) ((up_ne (by decide)).trans ((up_ne (by decide)).trans hsc)) (fun p p0 p1 => (up_ne (by decide)).trans ((up_ne (by decide)).trans (hst p p0 p1))) (fun q q0 q1 => (up_ne (by decide)).trans ((up_ne (by decide)).trans (hlg q q0 q1)))
      rw [sig_up rfl, sig_up rfl, hs, acc_s]
      unfold acI
      rw [if_neg (by omega)]
    · have hm : (w 148 (i : Int)).tmod 10 = w 148 (i : Int) % 10 := Int.tmod_eq_emod_of_nonneg (by omega)
      have hp0 := (hP.2 ((w 148 (i : Int)).tmod 10) (by omega) (by omega)).1
      refine s_ald k203_62 rfl ?_
      refine z_getRe (b := 138) k203_63 rfl rr_127_22 ?_
      refine z_push k203_66 ?_
      refine s_ild k203_68 rfl ?_
      refine z_push k203_69 ?_
      refine z_irem k203_71 ⟨by omega, by omega⟩ (inR_lit rfl) (by decide) ?_
      refine z_imul k203_72 ?_
      refine z_ialde (z := pf σ ((w 148 (i : Int)).tmod 10) 0) k203_73 rfl (by omega) (show (23 * ((w 148 (i : Int)).tmod 10)) < ((138 : Nat) : Int) by omega) (hpf _) ?_
      refine z_goto k203_74 ?_
      refine z_dup2ir k203_81 ?_
      refine z_ialde (z := accS σ w i 150 (pf σ ((w 148 (i : Int)).tmod 10) 0)) k203_82 rfl (by omega) (show (pf σ ((w 148 (i : Int)).tmod 10) 0) < ((8 : Nat) : Int) by omega) (st_s hs rfl) ?_
      refine z_push k203_83 ?_
      refine z_iadd k203_84 ?_
      refine z_iast k203_85 rfl (by omega) (show (pf σ ((w 148 (i : Int)).tmod 10) 0) < ((8 : Nat) : Int) by omega) ?_
      refine s_ald k203_86 rfl ?_
      refine z_getRe (b := 150) k203_87 rfl rr_127_38 ?_
      refine z_push k203_90 ?_
      refine z_dup2ir k203_92 ?_
      refine z_ialde (z := upI (accS σ w i) 150 (pf σ ((w 148 (i : Int)).tmod 10) 0) (accS σ w i 150 (pf σ ((w 148 (i : Int)).tmod 10) 0) + 1) 150 7) k203_93 rfl (by decide) (show 7 < ((8 : Nat) : Int) by omega) (h7 _) ?_
      refine z_push k203_94 ?_
      refine z_iadd k203_95 ?_
      refine z_iast k203_96 rfl (by decide) (show 7 < ((8 : Nat) : Int) by omega) ?_
      refine s_iinc2 k203_97 rfl ?_
      refine z_goto k203_100 ?_
      refine ih (i + 1) _ _ (by omega) ?_ (fun a k hk => (up_ne (by omega)).trans ((up_ne (by omega)).trans (hlo a k hk))) ((up_ne (by decide)).trans ((up_ne (by decide)).trans hsc)) (fun p p0 p1 => (up_ne (by decide)).trans ((up_ne (by decide)).trans (hst p p0 p1))) (fun q q0 q1 => (up_ne (by decide)).trans ((up_ne (by decide)).trans (hlg q q0 q1)))
      rw [sig_up rfl, sig_up rfl, hs, acc_s]
      unfold acI
      rw [if_pos (by omega)]
set_option maxRecDepth 20000 in
theorem r203 {d : Nat} {I : Nat → Int → Int} {P : Int → Nat} {dr : Nat} {σ : Nat → Int → Int} (hs : sig I = σ) (hW : WFs σ) {r : Int} (i_r : inR r) : cal (d + 8) 203 [vr 127, vi r] I P dr (refQ (xClo σ r) I P dr) := by
  refine cal_in (Nat.le_of_ble_eq_true rfl) ?_
  obtain ⟨hN, hT, hP, hA, hL⟩ := id hW
  have b0 := hN.1
  have b1 := hN.2.1
  have b2 := hN.2.2.1
  have b10 := hN.2.2.2.2.2.2.2.1
  show wp _ _ _ _ 0 [vr 127, vi r, vj, vj] [] _
  refine s_ild k203_0 rfl ?_
  refine z_push k203_1 ?_
  refine z_push k203_2 ?_
  refine z_sta3A k203_3 (Nat.le_of_ble_eq_true rfl) (c136 i_r (inR_lit rfl) (inR_lit rfl)) ?_
  refine z_ifneb k203_6 (fun h6 => ?_) (fun h6 => ?_)
  · refine s_ald k203_12 rfl ?_
    refine z_getIe (z := σ 127 1) k203_13 rfl (st_s hs rfl) ?_
    refine z_push k203_16 ?_
    refine s_icne k203_19 ⟨by omega, by omega⟩ (inR_lit rfl) (fun h19 => ?_) (fun h19 => ?_)
    · refine s_ald k203_25 rfl ?_
      refine s_ild k203_26 rfl ?_
      refine z_push k203_27 ?_
      refine s_ald k203_28 rfl ?_
      refine z_getIe (z := σ 127 0) k203_29 rfl (st_s hs rfl) ?_
      refine z_inv3 k203_32 rfl (Nat.le_of_ble_eq_true rfl) (c191 hs hN hP hA (by omega) (by omega) (by omega) (by omega) (by omega) (by omega)) (fun o h1 hq => ?_)
      obtain ⟨rfl, J2, rfl, gF, gR, gS⟩ := hq
      have hs2 : sig J2 = σ := gF.sig.trans hs
      refine z_push k203_35 ?_
      refine s_ist2 k203_36 rfl ?_
      have hok := run_OK (rule := r) (wh := 1) hP (σ 127 0).toNat (by omega)
      unfold xClo
      rw [if_pos (by omega), if_neg (by omega)]
      refine lp203a hP b0 (fun p p0 p1 => ?_) (fun q hq => run_lv hP _ (by omega) q (by omega)) (σ 127 0).toNat 0 J2 _ (by omega) hs2 (fun a k hk => gF a k (by omega) (by omega)) gS (fun p p0 p1 => (gR.1 p p0 p1).1) gR.2
      have h1 := (hok.1 p p0 p1).1
      have h2 := (hP.2 p p0 p1).2.2.2.2.1
      omega
    · refine z_push k203_22 ?_
      refine z_iret k203_24 ⟨I, ?_, rfl, ?_, fun _ _ _ => rfl⟩
      · unfold xClo
        rw [if_pos (by omega), if_pos (by omega)]
      · unfold xClo
        rw [if_pos (by omega), if_pos (by omega)]
        exact hs
  · refine z_push k203_9 ?_
    refine z_iret k203_11 ⟨I, ?_, rfl, ?_, fun _ _ _ => rfl⟩
    · unfold xClo
      rw [if_neg (by omega)]
    · unfold xClo
      rw [if_neg (by omega)]
      exact hs
set_option maxRecDepth 20000 in
theorem c52 {d : Nat} {I : Nat → Int → Int} {P : Int → Nat} {dr : Nat} {k : Int} (k0 : 0 ≤ k) (k1 : k ≤ 6) : cal (d + 1) 52 [vr 123, vi k] I P dr (fun o h => o = none ∧ h = (S0, upI (upI I 124 k (I 124 k + 1)) 124 7 (upI I 124 k (I 124 k + 1) 124 7 + 1), RR P dr)) := by
  refine cal_in (Nat.le_of_ble_eq_true rfl) ?_
  show wp _ _ _ _ 0 [vr 123, vi k] [] _
  refine s_ald k52_0 rfl ?_
  refine z_getRe (b := 124) k52_1 rfl rr_123_0 ?_
  refine s_ild k52_4 rfl ?_
  refine z_dup2ir k52_5 ?_
  refine z_ialde (z := I 124 k) k52_6 rfl (by omega) (show k < ((8 : Nat) : Int) by omega) rfl ?_
  refine z_push k52_7 ?_
  refine z_iadd k52_8 ?_
  refine z_iast k52_9 rfl (by omega) (show k < ((8 : Nat) : Int) by omega) ?_
  refine s_ald k52_10 rfl ?_
  refine z_getRe (b := 124) k52_11 rfl rr_123_0 ?_
  refine z_push k52_14 ?_
  refine z_dup2ir k52_16 ?_
  refine z_ialde (z := upI I 124 k (I 124 k + 1) 124 7) k52_17 rfl (by decide) (show 7 < ((8 : Nat) : Int) by omega) rfl ?_
  refine z_push k52_18 ?_
  refine z_iadd k52_19 ?_
  refine z_iast k52_20 rfl (by decide) (show 7 < ((8 : Nat) : Int) by omega) ?_
  exact z_vret k52_21 ⟨rfl, rfl⟩
set_option maxRecDepth 20000 in
theorem c78 {d : Nat} {I : Nat → Int → Int} {P : Int → Nat} {dr : Nat} {s v : Int} (s0 : 0 ≤ s) (s1 : s < 12) (hv : I 119 s = v) (v0 : 0 ≤ v) (v1 : v ≤ 22) : cal (d + 1) 78 [vr 118, vi s] I P dr (ans (vi (if 20 ≤ v then -1 else v.tmod 10)) I P dr) := by
  refine cal_in (Nat.le_of_ble_eq_true rfl) ?_
  show wp _ _ _ _ 0 [vr 118, vi s, vj] [] _
  refine s_ald k78_0 rfl ?_
  refine z_getRe (b := 119) k78_1 rfl rr_118_1 ?_
  refine s_ild k78_4 rfl ?_
  refine z_ialde (z := v) k78_5 rfl (by omega) (show s < ((12 : Nat) : Int) by omega) hv ?_
  refine s_ist2 k78_6 rfl ?_
  refine s_ild k78_7 rfl ?_
  refine z_push k78_8 ?_
  refine s_iclt k78_10 ⟨by omega, by omega⟩ (inR_lit rfl) (fun h10 => ?_) (fun h10 => ?_)
  · refine s_ild k78_17 rfl ?_
    refine z_push k78_18 ?_
    refine z_irem k78_20 ⟨by omega, by omega⟩ (inR_lit rfl) (by decide) ?_
    refine z_iret k78_21 (ans_i ?_)
    rw [if_neg (by omega)]
  · refine z_push k78_13 ?_
    refine z_goto k78_14 ?_
    refine z_iret k78_21 (ans_i ?_)
    rw [if_pos (by omega)]
set_option maxRecDepth 20000 in
theorem lp133 {d : Nat} {I σ w : Nat → Int → Int} {P : Int → Nat} {dr : Nat} (hP : WFp σ) (hn : 4 ≤ σ 127 0 ∧ σ 127 0 ≤ 12) (cn : I 17 0 = σ 127 0) (hcp : CRp I σ P dr) (hl : ∀ q, 0 ≤ q → q < σ 127 0 → I 119 q = w 148 q) (hlv : ∀ q : Nat, (q : Int) < σ 127 0 → lgV σ (w 148 q)) : ∀ (m i : Nat) (J : Nat → Int → Int) (l2 l3 : mV), (i : Int) + m = σ 127 0 → (∀ q, 0 ≤ q → q < 8 → J 124 q = accS σ w i 150 q) → (∀ a k, a ≠ 124 → J a k = I a k) → wp (mcall MT CD (d + 1)) (CD 133) L0 (fun o h => o = none ∧ ∃ J, h = (S0, J, RR P dr) ∧ (∀ q, 0 ≤ q → q < 8 → J 124 q = accS σ w (σ 127 0).toNat 150 q) ∧ ∀ a k, a ≠ 124 → J a k = I a k) 2 [vr 16, vi (i : Int), l2, l3] [] (S0, J, RR P dr) := by
  intro m
  induction m with
  | zero =>
    intro i J l2 l3 hi hsum hlo
    have hpl := hP.1
    have hPc : ∀ k, 0 ≤ k → k < 5 → isPl (P k) := hcp.2.1.1
    refine s_ild k133_2 rfl ?_
    refine s_ald k133_3 rfl ?_
    refine z_getRe (b := 17) k133_4 rfl rr_16_0 ?_
    refine z_getIe (z := σ 127 0) k133_7 rfl ((hlo 17 0 (by decide)).trans cn) ?_
    refine s_icge k133_10 ⟨by omega, by omega⟩ ⟨by omega, by omega⟩ (fun h10 => ?_) (fun q => absurd q (by omega))
    refine z_vret k133_101 ⟨rfl, J, rfl, fun q q0 q1 => ?_, hlo⟩
    rw [show (σ 127 0).toNat = i by omega]
    exact hsum q q0 q1
  | succ m ih =>
    intro i J l2 l3 hi hsum hlo
    have hpl := hP.1
    have hPc : ∀ k, 0 ≤ k → k < 5 → isPl (P k) := hcp.2.1.1
    have hlg : ∀ q, 0 ≤ q → q < σ 127 0 → J 119 q = w 148 q := fun q q0 q1 => (hlo 119 q (by decide)).trans (hl q q0 q1)
    have hv := hlv i (by omega)
    by_cases c20 : 20 ≤ w 148 (i : Int)
    · refine s_ild k133_2 rfl ?_
      refine s_ald k133_3 rfl ?_
      refine z_getRe (b := 17) k133_4 rfl rr_16_0 ?_
      refine z_getIe (z := σ 127 0) k133_7 rfl ((hlo 17 0 (by decide)).trans cn) ?_
      refine s_icge k133_10 ⟨by omega, by omega⟩ ⟨by omega, by omega⟩ (fun q => absurd q (by omega)) (fun h10 => ?_)
      refine s_ald k133_13 rfl ?_
      refine z_getRe (b := 118) k133_14 rfl rr_16_4 ?_
      refine s_ild k133_17 rfl ?_
      refine z_inv1A k133_18 rfl (Nat.le_of_ble_eq_true rfl) (c78 (v := w 148 (i : Int)) (by omega) (by omega) (hlg _ (by omega) (by omega)) (by omega) (by omega)) ?_
      refine z_eqi (b := (-1)) (if_pos c20) ?_
      refine s_ist2 k133_21 rfl ?_
      refine s_ald k133_22 rfl ?_
      refine z_getRe (b := 118) k133_23 rfl rr_16_4 ?_
      refine z_getRe (b := 119) k133_26 rfl rr_118_1 ?_
      refine s_ild k133_29 rfl ?_
      refine z_ialde (z := w 148 (i : Int)) k133_30 rfl (by omega) (show (i : Int) < ((12 : Nat) : Int) by omega) (hlg _ (by omega) (by omega)) ?_
      refine s_ist3 k133_31 rfl ?_
      refine s_ild k133_32 rfl ?_
      refine z_push k133_33 ?_
      refine s_iceq k133_34 (inR_lit rfl) (inR_lit rfl) (fun _ => ?_) (fun q => absurd q (by decide))
      refine s_ild k133_59 rfl ?_
      refine z_push k133_60 ?_
      refine s_icne k133_62 ⟨by omega, by omega⟩ (inR_lit rfl) (fun h62 => ?_) (fun h62 => ?_)
      · refine s_ald k133_76 rfl ?_
        refine z_getRe (b := 123) k133_77 rfl rr_16_5 ?_
        refine s_ild k133_80 rfl ?_
        refine z_push k133_81 ?_
        refine s_icne k133_83 ⟨by omega, by omega⟩ (inR_lit rfl) (fun h83 => ?_) (fun h83 => ?_)
        · refine z_push k133_90 ?_
          refine z_inv1 k133_92 rfl (Nat.le_of_ble_eq_true rfl) (c52 (by omega) (by omega)) (fun o h1 hq => ?_)
          obtain ⟨rfl, rfl⟩ := hq
          refine s_iinc1 k133_95 rfl ?_
          refine z_goto k133_98 ?_
          refine ih (i + 1) _ _ _ (by omega) (fun q q0 q1 => ?_) (fun a k h => (up_ne h).trans ((up_ne h).trans (hlo a k h)))
          have ea : acI σ (w 148 (i : Int)) = 6 := by
            unfold acI
            rw [if_neg (by omega)]
            rw [show w 148 (i : Int) - 16 = 6 by omega]
          rw [acc_s, ea]
          by_cases c7 : q = 7
          · rw [c7, up_at, up_at, up_nk (by omega), up_nk (by omega), hsum 7 (by omega) (by omega)]
          · rw [up_nk c7, up_nk c7]
            unfold upI
            split
            · rw [if_pos (by omega), hsum _ (by omega) (by omega)]
            · rw [if_neg (by omega)]
              exact hsum q q0 q1
        · refine z_push k133_86 ?_
          refine z_goto k133_87 ?_
          refine z_inv1 k133_92 rfl (Nat.le_of_ble_eq_true rfl) (c52 (by omega) (by omega)) (fun o h1 hq => ?_)
          obtain ⟨rfl, rfl⟩ := hq
          refine s_iinc1 k133_95 rfl ?_
          refine z_goto k133_98 ?_
          refine ih (i + 1) _ _ _ (by omega) (fun q q0 q1 => ?_) (fun a k h => (up_ne h).trans ((up_ne h).trans (hlo a k h)))
          have ea : acI σ (w 148 (i : Int)) = 5 := by
            unfold acI
            rw [if_neg (by omega)]
            rw [show w 148 (i : Int) - 16 = 5 by omega]
          rw [acc_s, ea]
          by_cases c7 : q = 7
          · rw [c7, up_at, up_at, up_nk (by omega), up_nk (by omega), hsum 7 (by omega) (by omega)]
          · rw [up_nk c7, up_nk c7]
            unfold upI
            split
            · rw [if_pos (by omega), hsum _ (by omega) (by omega)]
            · rw [if_neg (by omega)]
              exact hsum q q0 q1
      · refine s_ald k133_65 rfl ?_
        refine z_getRe (b := 123) k133_66 rfl rr_16_5 ?_
        refine z_push k133_69 ?_
        refine z_inv1 k133_70 rfl (Nat.le_of_ble_eq_true rfl) (c52 (by omega) (by omega)) (fun o h1 hq => ?_)
        obtain ⟨rfl, rfl⟩ := hq
        refine z_goto k133_73 ?_
        refine s_iinc1 k133_95 rfl ?_
        refine z_goto k133_98 ?_
        refine ih (i + 1) _ _ _ (by omega) (fun q q0 q1 => ?_) (fun a k h => (up_ne h).trans ((up_ne h).trans (hlo a k h)))
        have ea : acI σ (w 148 (i : Int)) = 4 := by
          unfold acI
          rw [if_neg (by omega)]
          rw [show w 148 (i : Int) - 16 = 4 by omega]
        rw [acc_s, ea]
        by_cases c7 : q = 7
        · rw [c7, up_at, up_at, up_nk (by omega), up_nk (by omega), hsum 7 (by omega) (by omega)]
        · rw [up_nk c7, up_nk c7]
          unfold upI
          split
          · rw [if_pos (by omega), hsum _ (by omega) (by omega)]
          · rw [if_neg (by omega)]
            exact hsum q q0 q1
    · refine s_ild k133_2 rfl ?_
      refine s_ald k133_3 rfl ?_
      refine z_getRe (b := 17) k133_4 rfl rr_16_0 ?_
      refine z_getIe (z := σ 127 0) k133_7 rfl ((hlo 17 0 (by decide)).trans cn) ?_
      refine s_icge k133_10 ⟨by omega, by omega⟩ ⟨by omega, by omega⟩ (fun q => absurd q (by omega)) (fun h10 => ?_)
      refine s_ald k133_13 rfl ?_
      refine z_getRe (b := 118) k133_14 rfl rr_16_4 ?_
      refine s_ild k133_17 rfl ?_
      refine z_inv1A k133_18 rfl (Nat.le_of_ble_eq_true rfl) (c78 (v := w 148 (i : Int)) (by omega) (by omega) (hlg _ (by omega) (by omega)) (by omega) (by omega)) ?_
      refine z_eqi (b := (w 148 (i : Int)).tmod 10) (if_neg c20) ?_
      refine s_ist2 k133_21 rfl ?_
      refine s_ald k133_22 rfl ?_
      refine z_getRe (b := 118) k133_23 rfl rr_16_4 ?_
      refine z_getRe (b := 119) k133_26 rfl rr_118_1 ?_
      refine s_ild k133_29 rfl ?_
      refine z_ialde (z := w 148 (i : Int)) k133_30 rfl (by omega) (show (i : Int) < ((12 : Nat) : Int) by omega) (hlg _ (by omega) (by omega)) ?_
      refine s_ist3 k133_31 rfl ?_
      have hm : (w 148 (i : Int)).tmod 10 = w 148 (i : Int) % 10 := Int.tmod_eq_emod_of_nonneg (by omega)
      have hp0 := (hP.2 ((w 148 (i : Int)).tmod 10) (by omega) (by omega)).1
      refine s_ild k133_32 rfl ?_
      refine z_push k133_33 ?_
      refine s_iceq k133_34 ⟨by omega, by omega⟩ (inR_lit rfl) (fun q => absurd q (by omega)) (fun h34 => ?_)
      refine s_ald k133_37 rfl ?_
      refine z_getRe (b := 123) k133_38 rfl rr_16_5 ?_
      refine s_ald k133_41 rfl ?_
      refine z_getRe (b := 42) k133_42 rfl rr_16_2 ?_
      refine z_getRe (b := 43) k133_45 rfl rr_42_0 ?_
      refine s_ild k133_48 rfl ?_
      refine z_aalde (b := P ((w 148 (i : Int)).tmod 10)) k133_49 rfl (by omega) (show ((w 148 (i : Int)).tmod 10) < ((5 : Nat) : Int) by omega) rr_P ?_
      refine z_getIe (z := pf σ ((w 148 (i : Int)).tmod 10) 0) k133_50 (pl_sh (hPc _ (by omega) (by omega))) ((hlo _ _ (by have := pl_b (hPc ((w 148 (i : Int)).tmod 10) (by omega) (by omega)); omega)).trans (hcp.f (by omega) (by omega)).1) ?_
      refine z_inv1 k133_53 rfl (Nat.le_of_ble_eq_true rfl) (c52 (by omega) (by omega)) (fun o h1 hq => ?_)
      obtain ⟨rfl, rfl⟩ := hq
      refine z_goto k133_56 ?_
      refine s_iinc1 k133_95 rfl ?_
      refine z_goto k133_98 ?_
      refine ih (i + 1) _ _ _ (by omega) (fun q q0 q1 => ?_) (fun a k h => (up_ne h).trans ((up_ne h).trans (hlo a k h)))
      have ea : acI σ (w 148 (i : Int)) = pf σ ((w 148 (i : Int)).tmod 10) 0 := by
        unfold acI
        rw [if_pos (by omega)]
      rw [acc_s, ea]
      by_cases c7 : q = 7
      · rw [c7, up_at, up_at, up_nk (by omega), up_nk (by omega), hsum 7 (by omega) (by omega)]
      · rw [up_nk c7, up_nk c7]
        unfold upI
        split
        · rw [if_pos (by omega), hsum _ (by omega) (by omega)]
        · rw [if_neg (by omega)]
          exact hsum q q0 q1
set_option maxRecDepth 20000 in
theorem c133 {d : Nat} {I : Nat → Int → Int} {P : Int → Nat} {dr : Nat} {σ w : Nat → Int → Int} (hP : WFp σ) (hn : 4 ≤ σ 127 0 ∧ σ 127 0 ≤ 12) (cn : I 17 0 = σ 127 0) (hcp : CRp I σ P dr) (hl : ∀ q, 0 ≤ q → q < σ 127 0 → I 119 q = w 148 q) (hlv : ∀ q : Nat, (q : Int) < σ 127 0 → lgV σ (w 148 q)) (hs : ∀ q, 0 ≤ q → q < 8 → I 124 q = σ 150 q) : cal (d + 2) 133 [vr 16] I P dr (fun o h => o = none ∧ ∃ J, h = (S0, J, RR P dr) ∧ (∀ q, 0 ≤ q → q < 8 → J 124 q = accS σ w (σ 127 0).toNat 150 q) ∧ ∀ a k, a ≠ 124 → J a k = I a k) := by
  refine cal_in (Nat.le_of_ble_eq_true rfl) ?_
  show wp _ _ _ _ 0 [vr 16, vj, vj, vj] [] _
  refine z_push k133_0 ?_
  refine s_ist1 k133_1 rfl ?_
  exact lp133 hP hn cn hcp hl hlv (σ 127 0).toNat 0 I _ _ (by omega) hs (fun _ _ _ => rfl)
set_option maxRecDepth 20000 in
theorem lp134 {d : Nat} {I τ w : Nat → Int → Int} {dr : Nat} (hP0 : WFp τ) (hw : ∀ p, 0 ≤ p → p < τ 127 21 → 0 ≤ w 145 p ∧ w 145 p ≤ 9) (hst : ∀ p, 0 ≤ p → p < τ 127 21 → I 120 p = w 145 p) : ∀ (m i : Nat) (J : Nat → Int → Int) (P : Int → Nat), (i : Int) + m = τ 127 21 → CRp J (rmD τ w i) P dr → (∀ a k, ¬ (a = 42 ∧ k = 1) → J a k = I a k) → wp (mcall MT CD (d + 2)) (CD 134) L0 (fun o h => o = none ∧ ∃ P2 J, h = (S0, J, RR P2 dr) ∧ CRp J (rmD τ w (τ 127 21).toNat) P2 dr ∧ ∀ a k, ¬ (a = 42 ∧ k = 1) → J a k = I a k) 10 [vr 16, vi (τ 127 21 - 1 - (i : Int))] [] (S0, J, RR P dr) := by
  intro m
  induction m with
  | zero => 
    intro i J P hi hcp hlo
    have hpl := hP0.1
    refine s_ild k134_10 rfl ?_
    refine s_iflt k134_11 ⟨by omega, by omega⟩ (fun h11 => ?_) (fun q => absurd q (by omega))
    refine z_vret k134_42 ⟨rfl, P, J, rfl, ?_, hlo⟩
    rw [show (τ 127 21).toNat = i by omega]
    exact hcp
  | succ m ih => 
    intro i J P hi hcp hlo
    have hpl := hP0.1
    refine s_ild k134_10 rfl ?_
    refine s_iflt k134_11 ⟨by omega, by omega⟩ (fun q => absurd q (by omega)) (fun h11 => ?_)
    obtain ⟨hP, hb⟩ := rmD_b (w := w) hP0 i (by omega)
    have hPc : ∀ k, 0 ≤ k → k < 5 → isPl (P k) := hcp.2.1.1
    have hw8 := hw (τ 127 21 - 1 - i) (by omega) (by omega)
    refine s_ald k134_14 rfl ?_
    refine z_getRe (b := 118) k134_15 rfl rr_16_4 ?_
    refine z_getRe (b := 120) k134_18 rfl rr_118_2 ?_
    refine s_ild k134_21 rfl ?_
    refine z_ialde (z := w 145 (τ 127 21 - 1 - i)) k134_22 rfl (by omega) (show (τ 127 21 - 1 - (i : Int)) < ((5 : Nat) : Int) by omega) ((hlo 120 _ (by omega)).trans (hst _ (by omega) (by omega))) ?_
    refine z_push k134_23 ?_
    refine s_icne k134_25 ⟨by omega, by omega⟩ (inR_lit rfl) (fun h25 => ?_) (fun h25 => ?_)
    · refine s_iinc1 k134_36 rfl ?_
      refine z_goto k134_39 ?_
      rw [show τ 127 21 - 1 - i + -1 = τ 127 21 - 1 - ((i + 1 : Nat) : Int) by omega]
      refine (ih (i + 1) J P (by omega) (by rw [rmD_s, if_neg (by omega)]; exact hcp) hlo)
    · refine s_ald k134_28 rfl ?_
      refine z_getRe (b := 42) k134_29 rfl rr_16_2 ?_
      refine s_ild k134_32 rfl ?_
      refine z_inv1 k134_33 rfl (Nat.le_of_ble_eq_true rfl) (c31 (σ := rmD τ w i) hcp.1 hPc (by omega) (by omega) (by have := hP.1; omega)) (fun o h1 hq => ?_)
      obtain ⟨rfl, rfl⟩ := hq
      refine s_iinc1 k134_36 rfl ?_
      refine z_goto k134_39 ?_
      rw [show τ 127 21 - 1 - i + -1 = τ 127 21 - 1 - ((i + 1 : Nat) : Int) by omega]
      refine (ih (i + 1) _ _ (by omega) (by rw [rmD_s, if_pos (by omega)]; exact CRp.rm hP hcp (by omega) (by omega) up_at (fun a q h1 h2 h3 => up_ne h3)) (fun a k h => (if_neg h).trans (hlo a k h)))
set_option maxRecDepth 20000 in
theorem c134 {d : Nat} {I : Nat → Int → Int} {P : Int → Nat} {dr : Nat} {τ w : Nat → Int → Int} (hP0 : WFp τ) (hcp : CRp I τ P dr) (hw : ∀ p, 0 ≤ p → p < τ 127 21 → 0 ≤ w 145 p ∧ w 145 p ≤ 9) (hst : ∀ p, 0 ≤ p → p < τ 127 21 → I 120 p = w 145 p) : cal (d + 3) 134 [vr 16] I P dr (fun o h => o = none ∧ ∃ P2 J, h = (S0, J, RR P2 dr) ∧ CRp J (rmD τ w (τ 127 21).toNat) P2 dr ∧ ∀ a k, ¬ (a = 42 ∧ k = 1) → J a k = I a k) := by
  refine cal_in (Nat.le_of_ble_eq_true rfl) ?_
  show wp _ _ _ _ 0 [vr 16, vj] [] _
  refine s_ald k134_0 rfl ?_
  refine z_getRe (b := 42) k134_1 rfl rr_16_2 ?_
  refine z_getIe (z := τ 127 21) k134_4 rfl hcp.1 ?_
  refine z_push k134_7 ?_
  refine z_isub k134_8 ?_
  refine s_ist1 k134_9 rfl ?_
  have k := lp134 (d := d) (I := I) (dr := dr) hP0 hw hst (τ 127 21).toNat 0 I P (by have := hP0.1; omega) hcp (fun _ _ _ => rfl)
  rw [show τ 127 21 - 1 - ((0 : Nat) : Int) = τ 127 21 - 1 by omega] at k
  exact k
set_option maxRecDepth 20000 in
theorem k121 {d : Nat} {I : Nat → Int → Int} {P : Int → Nat} {dr : Nat} {σ : Nat → Int → Int} (hG : CG I σ P dr) (hW : WFs σ) {r : Int} (i_r : inR r) : cal (d + 7) 121 [vr 16, vi r] I P dr (fun o h => ∃ P2 dr2, clsQ (xClo σ r) I P2 dr2 o h) := by
  refine cal_in (Nat.le_of_ble_eq_true rfl) ?_
  obtain ⟨hN, hT, hP, hA, hL⟩ := id hW
  have b0 := hN.1
  have b1 := hN.2.1
  have b2 := hN.2.2.1
  have b10 := hN.2.2.2.2.2.2.2.1
  obtain ⟨hC, hCt, hcp, hCl, hca⟩ := id hG
  obtain ⟨cn, ct, cg, cmr, cmf, cmt, cw, cT, cS, cW⟩ := id hC
  have bp := hP.1
  have hPc : ∀ k, 0 ≤ k → k < 5 → isPl (P k) := hcp.2.1.1
  show wp _ _ _ _ 0 [vr 16, vi r, vj] [] _
  refine s_ild k121_0 rfl ?_
  refine z_sta1A k121_1 (Nat.le_of_ble_eq_true rfl) (c127 i_r) ?_
  refine z_ifneb k121_4 (fun h4 => ?_) (fun h4 => ?_)
  · refine s_ald k121_10 rfl ?_
    refine z_getRe (b := 17) k121_11 rfl rr_16_0 ?_
    refine z_getIe (z := σ 127 1) k121_14 rfl ct ?_
    refine z_push k121_17 ?_
    refine s_iclt k121_20 ⟨by omega, by omega⟩ (inR_lit rfl) (fun h20 => ?_) (fun h20 => ?_)
    · refine s_ald k121_26 rfl ?_
      refine z_getRe (b := 118) k121_27 rfl rr_16_4 ?_
      refine s_ild k121_30 rfl ?_
      refine z_push k121_31 ?_
      refine s_ald k121_32 rfl ?_
      refine z_getRe (b := 17) k121_33 rfl rr_16_0 ?_
      refine z_getIe (z := σ 127 0) k121_36 rfl cn ?_
      refine z_inv3 k121_39 rfl (Nat.le_of_ble_eq_true rfl) (c76 hN hP hG.x hA (by omega) (by omega) (by omega) (by omega) (by omega) (by omega)) (fun o h1 hq => ?_)
      obtain ⟨rfl, J2, rfl, gF, gW, gL⟩ := hq
      have hG2 := hG.fc hN hP gF
      have hok := run_OK (rule := r) (wh := 1) hP (σ 127 0).toNat (by omega)
      refine s_ald k121_42 rfl ?_
      refine z_getRe (b := 118) k121_43 rfl rr_16_4 ?_
      refine z_inv0A k121_46 rfl (Nat.le_of_ble_eq_true rfl) (c77s hN hP hG2.x gW hok) ?_
      refine s_ist2 k121_49 rfl ?_
      refine s_ald k121_50 rfl ?_
      refine z_getRe (b := 123) k121_51 rfl rr_16_5 ?_
      refine z_dupr k121_54 ?_
      refine z_getIe (z := σ 127 39) k121_55 rfl hG2.2.2.2.1.2.2 ?_
      refine s_ild k121_58 rfl ?_
      refine z_iadd k121_59 ?_
      refine z_putIe (q := 2) k121_60 rfl rfl ?_
      refine s_ald k121_63 rfl ?_
      refine z_inv0 k121_64 rfl (Nat.le_of_ble_eq_true rfl) (c133 (w := (runS σ r 1 (σ 127 0).toNat).1) hP b0 ((up_ne (by decide)).trans hG2.1.1) (hG2.2.2.1.keep hP (fun a q _ _ => up_ne (by omega))) (fun q q0 q1 => (up_ne (by decide)).trans (gL q q0 q1)) (fun q hq => run_lv hP _ (by omega) q (by omega)) (fun q q0 q1 => (up_ne (by decide)).trans (hG2.2.2.2.1.2.1 q q0 q1))) (fun o h1 hq => ?_)
      obtain ⟨rfl, J4, rfl, g124, g4⟩ := hq
      have f4 : ∀ a k, a ≠ 124 → ¬ (a = 123 ∧ k = 2) → J4 a k = J2 a k := fun a k h1 h2 => (g4 a k h1).trans (if_neg h2)
      have e21 : cloA σ r 127 21 = σ 127 21 := acc_o (by decide) _
      have hcp4 : CRp J4 (cloA σ r) P dr := (hG2.2.2.1.keep hP (fun a q _ _ => f4 a q (by omega) (by omega))).sg (fun a q h => acc_o (by omega) _)
      have hw4 : ∀ p, 0 ≤ p → p < cloA σ r 127 21 → 0 ≤ (runS σ r 1 (σ 127 0).toNat).1 145 p ∧ (runS σ r 1 (σ 127 0).toNat).1 145 p ≤ 9 := fun p p0 p1 => by
        rw [e21] at p1
        have h1 := (hok.1 p p0 p1).1
        have h2 := (hP.2 p p0 p1).2.2.2.2.1
        omega
      have hst4 : ∀ p, 0 ≤ p → p < cloA σ r 127 21 → J4 120 p = (runS σ r 1 (σ 127 0).toNat).1 145 p := fun p p0 p1 => (f4 120 p (by decide) (by omega)).trans (gW p p0 (by rw [e21] at p1; exact p1)).1
      refine s_ald k121_67 rfl ?_
      refine z_inv0 k121_68 rfl (Nat.le_of_ble_eq_true rfl) (c134 (τ := cloA σ r) (w := (runS σ r 1 (σ 127 0).toNat).1) (hP.acc _) hcp4 hw4 hst4) (fun o h1 hq => ?_)
      obtain ⟨rfl, P2, J5, rfl, hcp5, g5⟩ := hq
      refine s_ald k121_71 rfl ?_
      refine z_getRe (b := 17) k121_72 rfl rr_16_0 ?_
      refine z_dupr k121_75 ?_
      refine z_getIe (z := σ 127 1) k121_76 rfl ((g5 17 1 (by omega)).trans ((f4 17 1 (by decide) (by omega)).trans hG2.1.2.1)) ?_
      refine z_push k121_79 ?_
      refine z_iadd k121_80 ?_
      refine z_putIe (q := 1) k121_81 rfl rfl ?_
      refine s_ald k121_84 rfl ?_
      refine z_getRe (b := 17) k121_85 rfl rr_16_0 ?_
      refine z_inv0 k121_88 rfl (Nat.le_of_ble_eq_true rfl) (c56) (fun o h1 hq => ?_)
      obtain ⟨rfl, J7, rfl, g74, g7z, g7⟩ := hq
      refine s_ald k121_91 rfl ?_
      refine z_getRe (b := 69) k121_92 rfl rr_16_3 ?_
      refine z_inv0 k121_95 rfl (Nat.le_of_ble_eq_true rfl) (c1) (fun o h1 hq => ?_)
      obtain ⟨rfl, rfl⟩ := hq
      refine s_ild k121_98 rfl ?_
      have k7 : ∀ a k, ¬ (a = 17 ∧ k = 4) → a ≠ 20 → a ≠ 21 → ¬ (a = 17 ∧ k = 1) → ¬ (a = 42 ∧ k = 1) → a ≠ 124 → ¬ (a = 123 ∧ k = 2) → J7 a k = J2 a k := fun a k h1 h2 h3 h4 h5 h6 h7 => (g7 a k h1 h2 h3).trans ((if_neg h4).trans ((g5 a k h5).trans (f4 a k h6 h7)))
      have kI : ∀ a k, ¬ (a = 17 ∧ k = 4) → a ≠ 20 → a ≠ 21 → ¬ (a = 17 ∧ k = 1) → ¬ (a = 42 ∧ k = 1) → a ≠ 124 → ¬ (a = 123 ∧ k = 2) → ¬ (118 ≤ a ∧ a ≤ 122) → J7 a k = I a k := fun a k h1 h2 h3 h4 h5 h6 h7 h8 => (k7 a k h1 h2 h3 h4 h5 h6 h7).trans (gF a k (by omega) (by omega))
      refine z_iret k121_99 ⟨P2, dr, _, ?_, rfl, ?_⟩
      · unfold xClo
        rw [if_pos (by omega), if_neg (by omega)]
      · unfold xClo
        rw [if_pos (by omega), if_neg (by omega)]
        dsimp only
        have so : ∀ a q, a ≠ 127 → a ≠ 131 → a ≠ 138 → a ≠ 150 → cloS σ r a q = σ a q := fun a q h1 h2 h3 h4 => clo_o h1 h2 h3 h4
        have s7 : ∀ q, q ≠ 1 → q ≠ 6 → q ≠ 21 → q ≠ 39 → cloS σ r 127 q = σ 127 q := fun q h1 h2 h3 h4 => clo_7 h1 h2 h3 h4
        refine ⟨⟨⟨?_, ?_, ?_, ?_, ?_, ?_, ?_, fun t t0 t1 => ?_, fun k s k0 k1 s0 s1 => ?_, fun w w0 w1 => ?_⟩, ⟨?_, fun i i0 i1 => ?_⟩, ?_, ⟨fun l l0 l1 => ?_, fun k k0 k1 => ?_, ?_⟩, ?_⟩, ⟨fun a k h1 h2 h3 => (if_neg h3).trans (kI a k (by omega) (by omega) (by omega) (by omega) (by omega) (by omega) (by omega) (by omega)), up_at, fun a k h1 => (up_ne (by omega)).trans (kI a k (by omega) (by omega) (by omega) (by omega) (by omega) (by omega) (by omega) (by omega))⟩⟩
        · exact (up_ne (by decide)).trans ((kI 17 0 (by omega) (by omega) (by omega) (by omega) (by omega) (by omega) (by omega) (by omega)).trans (cn.trans (s7 0 (by decide) (by decide) (by decide) (by decide)).symm))
        · exact (up_ne (by decide)).trans ((g7 17 1 (by omega) (by omega) (by omega)).trans (up_at.trans clo_1.symm))
        · exact (up_ne (by decide)).trans ((kI 17 3 (by omega) (by omega) (by omega) (by omega) (by omega) (by omega) (by omega) (by omega)).trans (cg.trans (s7 2 (by decide) (by decide) (by decide) (by decide)).symm))
        · exact (up_ne (by decide)).trans (g74.trans clo_6.symm)
        · exact (up_ne (by decide)).trans ((kI 17 5 (by omega) (by omega) (by omega) (by omega) (by omega) (by omega) (by omega) (by omega)).trans (cmf.trans (s7 7 (by decide) (by decide) (by decide) (by decide)).symm))
        · exact (up_ne (by decide)).trans ((kI 17 6 (by omega) (by omega) (by omega) (by omega) (by omega) (by omega) (by omega) (by omega)).trans (cmt.trans (s7 8 (by decide) (by decide) (by decide) (by decide)).symm))
        · exact (up_ne (by decide)).trans ((kI 17 9 (by omega) (by omega) (by omega) (by omega) (by omega) (by omega) (by omega) (by omega)).trans (cw.trans (s7 10 (by decide) (by decide) (by decide) (by decide)).symm))
        · rw [s7 2 (by decide) (by decide) (by decide) (by decide)] at t1
          have jt : ∀ q, upI J7 69 17 0 (27 + t.toNat) q = I (27 + t.toNat) q := fun q => (up_ne (by omega)).trans (kI _ _ (by omega) (by omega) (by omega) (by omega) (by omega) (by omega) (by omega) (by omega))
          rw [jt, jt, jt, so 128 _ (by decide) (by decide) (by decide) (by decide), so 129 _ (by decide) (by decide) (by decide) (by decide), so 130 _ (by decide) (by decide) (by decide) (by decide)]
          exact cT t t0 t1
        · rw [s7 10 (by decide) (by decide) (by decide) (by decide)] at k1
          rw [up_ne (by omega)]
          by_cases c2 : k < 2
          · have e1 : cloS σ r 131 (12 * k + s) = 1 := by rw [clo_131, if_pos (by omega)]
            rw [e1]
            rcases (show k = 0 ∨ k = 1 by omega) with e | e
            · rw [e]
              exact (g7z s s0 s1).1
            · rw [e]
              exact (g7z s s0 s1).2
          · have e1 : cloS σ r 131 (12 * k + s) = σ 131 (12 * k + s) := by rw [clo_131, if_neg (by omega)]
            rw [e1, kI _ _ (by omega) (by omega) (by omega) (by omega) (by omega) (by omega) (by omega) (by omega)]
            exact cS k s k0 k1 s0 s1
        · rw [s7 10 (by decide) (by decide) (by decide) (by decide)] at w1
          rw [so 132 _ (by decide) (by decide) (by decide) (by decide), up_ne (by decide), kI _ _ (by omega) (by omega) (by omega) (by omega) (by omega) (by omega) (by omega) (by omega)]
          exact cW w w0 w1
        · exact (up_ne (by decide)).trans ((kI 35 1 (by omega) (by omega) (by omega) (by omega) (by omega) (by omega) (by omega) (by omega)).trans (hCt.1.trans (s7 12 (by decide) (by decide) (by decide) (by decide)).symm))
        · rw [s7 12 (by decide) (by decide) (by decide) (by decide)] at i1
          rw [so 133 _ (by decide) (by decide) (by decide) (by decide), up_ne (by decide), kI _ _ (by omega) (by omega) (by omega) (by omega) (by omega) (by omega) (by omega) (by omega)]
          exact hCt.2 i i0 i1
        · have hb := (rmD_b (w := (runS σ r 1 (σ 127 0).toNat).1) (hP.acc (w := (runS σ r 1 (σ 127 0).toNat).1) (σ 127 0).toNat) (σ 127 21).toNat (by rw [acc_o (by decide)]; omega)).1
          rw [e21] at hcp5
          refine (hcp5.keep hb (fun a q h1 h2 => (up_ne (by omega)).trans ((g7 a q (by omega) (by omega) (by omega)).trans (up_ne (by omega))))).sg (fun a q h => clo_p h)
        · rw [so 149 _ (by decide) (by decide) (by decide) (by decide), up_ne (by decide), kI _ _ (by omega) (by omega) (by omega) (by omega) (by omega) (by omega) (by omega) (by omega)]
          exact hCl.1 l l0 l1
        · have e1 : cloS σ r 150 k = cloA σ r 150 k := clo_150
          rw [e1, up_ne (by decide), g7 124 k (by omega) (by decide) (by decide), up_ne (by decide), g5 124 k (by omega)]
          exact g124 k k0 k1
        · have e1 : cloS σ r 127 39 = σ 127 39 + scS σ r 1 := clo_39
          rw [e1, up_ne (by decide), g7 123 2 (by omega) (by decide) (by decide), up_ne (by decide), g5 123 2 (by omega), g4 123 2 (by decide), up_at]
        · rw [s7 31 (by decide) (by decide) (by decide) (by decide), up_ne (by decide), k7 118 0 (by omega) (by omega) (by omega) (by omega) (by omega) (by omega) (by omega)]
          exact hG2.2.2.2.2
    · refine z_push k121_23 ?_
      refine z_iret k121_25 ⟨P, dr, I, ?_, rfl, ?_⟩
      · unfold xClo
        rw [if_pos (by omega), if_pos (by omega)]
      · unfold xClo
        rw [if_pos (by omega), if_pos (by omega)]
        exact ⟨hG, KC.rf⟩
  · refine z_push k121_7 ?_
    refine z_iret k121_9 ⟨P, dr, I, ?_, rfl, ?_⟩
    · unfold xClo
      rw [if_neg (by omega)]
    · unfold xClo
      rw [if_neg (by omega)]
      exact ⟨hG, KC.rf⟩
