/-! WATCHES, purely: w 145 p the step of plan p, w 146 p where it ended, w 147 p whether it was broken, w 148 s the log -/
abbrev mW4 : Type := (Nat → Int → Int) × Int × Int × Int × Int
def brkS (σ w : Nat → Int → Int) (p : Int) : Nat → Int → Int := upI (upI w 147 p 1) 145 p (if σ 127 31 = 1 ∧ w 147 p = 0 then 0 else 9)
abbrev latP (σ w : Nat → Int → Int) (s p : Int) : Prop := (1 ≤ w 145 p ∧ w 145 p ≤ 2) ∧ ps σ p (w 145 p) 5 < s - w 146 p
def lateS (σ : Nat → Int → Int) (s : Int) (w : Nat → Int → Int) : Nat → Nat → Int → Int
  | 0 => w
  | k + 1 => if latP σ (lateS σ s w k) s k then brkS σ (lateS σ s w k) k else lateS σ s w k
/-- the step's fitting, as the watch is -/
abbrev fitW (σ w : Nat → Int → Int) (wh s p : Int) : Prop := fitS σ wh (pf σ p 2) s (ps σ p (w 145 p) 1) (ps σ p (w 145 p) 2) (ps σ p (w 145 p) 3)
abbrev mayS (σ w : Nat → Int → Int) (wh s p : Int) : Prop := w 145 p ≤ 2 ∧ s + ps σ p (w 145 p) 0 ≤ σ 127 0 ∧ fitW σ w wh s p ∧ (w 145 p = 0 ∨ ps σ p (w 145 p) 4 ≤ s - w 146 p)
def lastS (σ : Nat → Int → Int) (t : Int) : Nat → Int
  | 0 => -1
  | k + 1 => if airS σ t k ≤ σ 129 t then (k : Int) else lastS σ t k
def rkS (σ : Nat → Int → Int) (rule s p : Int) : Int := if rule = 0 then -(pf σ p 3) else if rule = 1 then airS σ (pf σ p 2) s else lastS σ (pf σ p 2) (σ 127 0).toNat
def pickS (σ w : Nat → Int → Int) (rule wh s : Int) : Nat → Int
  | 0 => -1
  | k + 1 => if mayS σ w wh s k ∧ (pickS σ w rule wh s k = -1 ∨ rkS σ rule s k < rkS σ rule s (pickS σ w rule wh s k)) then (k : Int) else pickS σ w rule wh s k
/-- the first half of a slot: what begins -/
def begS (σ : Nat → Int → Int) (rule wh s : Int) (x : mW4) : mW4 :=
  if x.2.2.1 = -1 then
    let w1 := lateS σ s x.1 (σ 127 21).toNat
    let t := pickS σ w1 rule wh s (σ 127 21).toNat
    if t = -1 then (upI w1 148 s (if σ 131 (12 * wh + s) = 4 then 21 else 22), x.2.1, -1, x.2.2.2.1, x.2.2.2.2)
    else if pf σ t 1 = x.2.1 then (w1, x.2.1, t, ps σ t (w1 145 t) 0, x.2.2.2.2)
    else (upI w1 148 s 20, pf σ t 1, -1, x.2.2.2.1, x.2.2.2.2)
  else x
/-- the second half: what goes on -/
def goS (σ : Nat → Int → Int) (wh s : Int) (x : mW4) : mW4 :=
  if x.2.2.1 = -1 then x
  else if fitW σ x.1 wh s x.2.2.1 then
    (if x.2.2.2.1 - 1 = 0 then
      (upI (upI (upI x.1 148 s x.2.2.1) 146 x.2.2.1 (s + 1)) 145 x.2.2.1 (if x.1 145 x.2.2.1 + 1 = pf σ x.2.2.1 4 then 8 else x.1 145 x.2.2.1 + 1), x.2.1, -1, 0, x.2.2.2.2 + (if x.1 145 x.2.2.1 + 1 = pf σ x.2.2.1 4 then pf σ x.2.2.1 3 else 0))
    else (upI x.1 148 s x.2.2.1, x.2.1, x.2.2.1, x.2.2.2.1 - 1, x.2.2.2.2))
  else (brkS σ (upI x.1 148 s (10 + x.2.2.1)) x.2.2.1, x.2.1, -1, x.2.2.2.1, x.2.2.2.2)
def slotS (σ : Nat → Int → Int) (rule wh s : Int) (x : mW4) : mW4 := goS σ wh s (begS σ rule wh s x)
def runS (σ : Nat → Int → Int) (rule wh : Int) : Nat → mW4
  | 0 => (fun _ _ => 0, 0, -1, 0, 0)
  | k + 1 => slotS σ rule wh k (runS σ rule wh k)
/-- what stays true of a watch -/
def stOK (σ w : Nat → Int → Int) (p : Int) : Prop := ((0 ≤ w 145 p ∧ w 145 p < pf σ p 4) ∨ w 145 p = 8 ∨ w 145 p = 9) ∧ (0 ≤ w 146 p ∧ w 146 p ≤ 12) ∧ (w 147 p = 0 ∨ w 147 p = 1)
def doneS (σ w : Nat → Int → Int) : Nat → Int
  | 0 => 0
  | k + 1 => doneS σ w k + (if w 145 k = 8 then pf σ k 3 else 0)
def wOK (σ : Nat → Int → Int) (x : mW4) : Prop := (∀ p, 0 ≤ p → p < σ 127 21 → stOK σ x.1 p) ∧ (0 ≤ x.2.1 ∧ x.2.1 ≤ 2) ∧ (x.2.2.1 = -1 ∨ (0 ≤ x.2.2.1 ∧ x.2.2.1 < σ 127 21 ∧ (0 ≤ x.1 145 x.2.2.1 ∧ x.1 145 x.2.2.1 < pf σ x.2.2.1 4) ∧ (1 ≤ x.2.2.2.1 ∧ x.2.2.2.1 ≤ 4))) ∧ x.2.2.2.2 = doneS σ x.1 (σ 127 21).toNat
theorem brk_at {σ w : Nat → Int → Int} {p q : Int} : brkS σ w p 145 q = (if q = p then (if σ 127 31 = 1 ∧ w 147 p = 0 then 0 else 9) else w 145 q) ∧ brkS σ w p 146 q = w 146 q ∧ brkS σ w p 147 q = (if q = p then 1 else w 147 q) ∧ ∀ s, brkS σ w p 148 s = w 148 s := by
  unfold brkS
  refine ⟨?_, ?_, ?_, fun s => ?_⟩
  · by_cases c1 : q = p
    · rw [if_pos c1, up_eq rfl c1]
    · rw [if_neg c1, up_nk c1, up_ne (by decide)]
  · rw [up_ne (by decide), up_ne (by decide)]
  · rw [up_ne (by decide)]
    by_cases c1 : q = p
    · rw [if_pos c1, up_eq rfl c1]
    · rw [if_neg c1, up_nk c1]
  · rw [up_ne (by decide), up_ne (by decide)]
theorem brk_st {σ w : Nat → Int → Int} {p q : Int} (hp : 1 ≤ pf σ q 4) (h : stOK σ w q) : stOK σ (brkS σ w p) q := by
  obtain ⟨b1, b2, b3, -⟩ := brk_at (σ := σ) (w := w) (p := p) (q := q)
  unfold stOK at h ⊢
  rw [b1, b2, b3]
  obtain ⟨h1, h2, h3⟩ := h
  refine ⟨?_, h2, ?_⟩
  · by_cases c1 : q = p
    · rw [if_pos c1]
      by_cases c2 : σ 127 31 = 1 ∧ w 147 p = 0
      · rw [if_pos c2]; omega
      · rw [if_neg c2]; omega
    · rw [if_neg c1]; exact h1
  · by_cases c1 : q = p
    · rw [if_pos c1]; omega
    · rw [if_neg c1]; exact h3
theorem late_st {σ w : Nat → Int → Int} {s q : Int} (hp : 1 ≤ pf σ q 4) (h : stOK σ w q) : ∀ k, stOK σ (lateS σ s w k) q
  | 0 => h
  | k + 1 => by
    unfold lateS
    by_cases c1 : latP σ (lateS σ s w k) s k
    · rw [if_pos c1]; exact brk_st hp (late_st hp h k)
    · rw [if_neg c1]; exact late_st hp h k
theorem late_lg {σ w : Nat → Int → Int} {s q : Int} : ∀ k, lateS σ s w k 148 q = w 148 q
  | 0 => rfl
  | k + 1 => by
    unfold lateS
    by_cases c1 : latP σ (lateS σ s w k) s k
    · rw [if_pos c1, (brk_at (q := q)).2.2.2]; exact late_lg k
    · rw [if_neg c1]; exact late_lg k
theorem done_congr {σ w w' : Nat → Int → Int} : ∀ k : Nat, (∀ p : Int, 0 ≤ p → p < k → (w' 145 p = 8 ↔ w 145 p = 8)) → doneS σ w' k = doneS σ w k
  | 0, _ => rfl
  | k + 1, h => by
    unfold doneS
    rw [done_congr k (fun p h0 h1 => h p h0 (by omega))]
    have := h k (by omega) (by omega)
    by_cases c1 : w 145 k = 8
    · rw [if_pos c1, if_pos (this.mpr c1)]
    · rw [if_neg c1, if_neg (fun q => c1 (this.mp q))]
theorem brk_done {σ w : Nat → Int → Int} {p : Int} (h8 : w 145 p ≠ 8) (k : Nat) : doneS σ (brkS σ w p) k = doneS σ w k := by
  refine done_congr k (fun q h0 h1 => ?_)
  rw [brk_at.1]
  by_cases c1 : q = p
  · rw [if_pos c1, c1]
    by_cases c2 : σ 127 31 = 1 ∧ w 147 p = 0
    · rw [if_pos c2]; omega
    · rw [if_neg c2]; omega
  · rw [if_neg c1]
theorem late_done {σ w : Nat → Int → Int} {s : Int} (m : Nat) : ∀ k, doneS σ (lateS σ s w k) m = doneS σ w m
  | 0 => rfl
  | k + 1 => by
    unfold lateS
    by_cases c1 : latP σ (lateS σ s w k) s k
    · rw [if_pos c1, brk_done (by omega)]; exact late_done m k
    · rw [if_neg c1]; exact late_done m k
theorem pick_may {σ w : Nat → Int → Int} {rule wh s : Int} : ∀ k : Nat, pickS σ w rule wh s k = -1 ∨ (0 ≤ pickS σ w rule wh s k ∧ pickS σ w rule wh s k < k ∧ mayS σ w wh s (pickS σ w rule wh s k))
  | 0 => Or.inl rfl
  | k + 1 => by
    unfold pickS
    by_cases c1 : mayS σ w wh s k ∧ (pickS σ w rule wh s k = -1 ∨ rkS σ rule s k < rkS σ rule s (pickS σ w rule wh s k))
    · rw [if_pos c1]
      exact Or.inr ⟨by omega, by omega, c1.1⟩
    · rw [if_neg c1]
      rcases pick_may (σ := σ) (w := w) (rule := rule) (wh := wh) (s := s) k with h | ⟨h1, h2, h3⟩
      · exact Or.inl h
      · exact Or.inr ⟨h1, by omega, h3⟩
theorem done_set {σ w : Nat → Int → Int} {g z : Int} (h8 : w 145 g ≠ 8) (h0 : 0 ≤ g) : ∀ k : Nat, doneS σ (upI w 145 g z) k = doneS σ w k + (if z = 8 ∧ g < k then pf σ g 3 else 0)
  | 0 => by rw [if_neg (by omega)]; rfl
  | k + 1 => by
    unfold doneS
    rw [done_set h8 h0 k]
    by_cases c1 : (k : Int) = g
    · subst c1
      rw [up_at, if_neg h8]
      (repeat' split) <;> omega
    · rw [up_nk c1]
      (repeat' split) <;> omega
