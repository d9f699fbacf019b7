/-! THE SMALL MACHINE: whole numbers without bounds, cells by numbers; a step is a predicate transformer -/
abbrev mV : Type := Int ⊕ Int ⊕ Nat ⊕ Unit
abbrev vi (z : Int) : mV := .inl z
abbrev vl (z : Int) : mV := .inr (.inl z)
abbrev vr (a : Nat) : mV := .inr (.inr (.inl a))
abbrev vj : mV := .inr (.inr (.inr ()))
/-- a heap: (next cell, slots used, what a cell is (kind, length)), numbers, references -/
abbrev mS : Type := Nat × Nat × (Nat → Nat × Nat)
abbrev mH : Type := mS × (Nat → Int → Int) × (Nat → Int → Nat)
abbrev mK : Type := Nat → List mV → List mV → mH → Prop
abbrev mQ : Type := Option mV → mH → Prop
abbrev mC : Type := Nat → List mV → mH → Nat × Nat → mQ → Prop
abbrev mT : Type := mC → Nat × Nat → mQ → mK → List mV → List mV → mH → Prop
/-- how many words a stack has -/
def mcat : List mV → Nat
  | [] => 0
  | .inr (.inl _) :: r => mcat r + 2
  | .inl _ :: r => mcat r + 1
  | .inr (.inr _) :: r => mcat r + 1
def inR (z : Int) : Prop := -2147483648 ≤ z ∧ z < 2147483648
def inL (z : Int) : Prop := -9223372036854775808 ≤ z ∧ z < 9223372036854775808
def upI (I : Nat → Int → Int) (a : Nat) (k z : Int) : Nat → Int → Int := fun a' k' => if a' = a ∧ k' = k then z else I a' k'
def upR (R : Nat → Int → Nat) (a : Nat) (k : Int) (z : Nat) : Nat → Int → Nat := fun a' k' => if a' = a ∧ k' = k then z else R a' k'
def mjk (v : mV) : mV := match v with
  | .inr (.inl _) => vj
  | v => v
def stv : List mV → Nat → mV → List mV
  | [], _, _ => []
  | _ :: t, 0, v => v :: t
  | x :: t, 1, v => mjk x :: stv t 0 v
  | x :: t, k + 2, v => x :: stv t (k + 1) v
def stw : List mV → Nat → mV → List mV
  | [], _, _ => []
  | _ :: [], 0, v => [v]
  | _ :: _ :: t, 0, v => v :: vj :: t
  | x :: t, 1, v => mjk x :: stw t 0 v
  | x :: t, k + 2, v => x :: stw t (k + 1) v
def zand (a b : Int) : Int := (Int32.ofInt a &&& Int32.ofInt b).toInt
def zor (a b : Int) : Int := (Int32.ofInt a ||| Int32.ofInt b).toInt
def zxor (a b : Int) : Int := (Int32.ofInt a ^^^ Int32.ofInt b).toInt
def zshl (a b : Int) : Int := (Int32.ofInt a <<< (Int32.ofInt b &&& 31)).toInt
def zshr (a b : Int) : Int := (Int32.ofInt a >>> (Int32.ofInt b &&& 31)).toInt
def yand (a b : Int) : Int := (Int64.ofInt a &&& Int64.ofInt b).toInt
def yor (a b : Int) : Int := (Int64.ofInt a ||| Int64.ofInt b).toInt
def yxor (a b : Int) : Int := (Int64.ofInt a ^^^ Int64.ofInt b).toInt
def yshl (a b : Int) : Int := (Int64.ofInt a <<< ((Int32.ofInt b).toInt64 &&& 63)).toInt
def yshr (a b : Int) : Int := (Int64.ofInt a >>> ((Int32.ofInt b).toInt64 &&& 63)).toInt
def yushr (a b : Int) : Int := (((Int64.ofInt a).toUInt64 >>> ((Int32.ofInt b).toInt64.toUInt64 &&& Int64.toUInt64 63)).toInt64).toInt
def mcmp (a b : Int) : Int := if b < a then 1 else if a = b then 0 else -1
def swt (a l : Int) (t : List Nat) (d : Nat) : Nat := if a < l then d else t.getD (a - l).toNat d
def lsw (a : Int) : List (Int × Nat) → Nat → Nat
  | [], d => d
  | (k, t) :: r, d => if a = k then t else lsw a r d
/-- the texts that wordAt answers, by their cells 2 .. 12 -/
def mStr (a : Nat) : List Int := ([[108, 97, 110, 100], [119, 105, 116, 104], [97, 116], [119, 111, 114, 116, 104], [101, 120, 112, 111, 115, 101], [115, 101, 101, 105, 110, 103], [97, 105, 114], [100, 97, 114, 107], [119, 97, 105, 116], [116, 111]] : List (List Int)).getD (a - 2) []
/-- how many slots a thing of a class has -/
def mN (ci : Nat) : Nat := [18, 2, 11, 3, 10, 6, 6, 3, 10, 7, 44].getD ci 0
def shN (sh : Nat → Nat × Nat) (a : Nat) (v : Nat × Nat) : Nat → Nat × Nat := fun a' => if a' = a then v else sh a'
def zeI (I : Nat → Int → Int) (a : Nat) : Nat → Int → Int := fun a' k' => if a' = a then 0 else I a' k'
def zeR (R : Nat → Int → Nat) (a : Nat) : Nat → Int → Nat := fun a' k' => if a' = a then 0 else R a' k'
/-- a new cell -/
def mkC (h : mH) (t n s : Nat) : mH := ((h.1.1 + 1, h.1.2.1 + s, shN h.1.2.2 h.1.1 (t, n)), zeI h.2.1 h.1.1, zeR h.2.2 h.1.1)
/-- n inner rows of k, cells b, b + 1, ..; the row's cell is a -/
def mkM (h : mH) (n k : Nat) : mH := ((h.1.1 + 1 + n, h.1.2.1 + (n + n * k), fun a => if a = h.1.1 then (26, n) else if h.1.1 < a ∧ a < h.1.1 + 1 + n then (20, k) else h.1.2.2 a),
  (fun a j => if h.1.1 ≤ a ∧ a < h.1.1 + 1 + n then 0 else h.2.1 a j), (fun a j => if a = h.1.1 then (if 0 ≤ j ∧ j < n then h.1.1 + 1 + j.toNat else 0) else if h.1.1 < a ∧ a < h.1.1 + 1 + n then 0 else h.2.2 a j))
def mcp (I : Nat → Int → Int) (a b : Nat) (sp dp n : Int) : Nat → Int → Int := fun a' k => if a' = b ∧ dp ≤ k ∧ k < dp + n then I a (sp + (k - dp)) else I a' k
/-- the least predicate that is closed under the steps -/
def wp (C : mC) (cd : Nat → mT) (lim : Nat × Nat) (Q : mQ) : mK := fun pc ls st h => ∀ P : mK, (∀ pc ls st h, cd pc C lim Q P ls st h → P pc ls st h) → P pc ls st h
def mMono (t : mT) : Prop := ∀ (C : mC) (lim : Nat × Nat) (Q : mQ) (K K' : mK), (∀ pc ls st h, K pc ls st h → K' pc ls st h) → ∀ ls st h, t C lim Q K ls st h → t C lim Q K' ls st h
theorem wp_step {C : mC} {cd : Nat → mT} {lim : Nat × Nat} {Q : mQ} {pc : Nat} {ls st : List mV} {h : mH} {t : mT} (hc : cd pc = t) (hm : mMono t) (k : t C lim Q (wp C cd lim Q) ls st h) : wp C cd lim Q pc ls st h := by
  subst hc
  exact fun P hP => hP _ _ _ _ (hm _ _ _ _ _ (fun _ _ _ _ w => w P hP) _ _ _ k)
def o_halt : mT := fun _ _ _ _ _ _ _ => False
theorem mo_halt : mMono o_halt := fun _ _ _ _ _ _ _ _ _ h => h

def o_push (v : mV) (n : Nat) : mT := fun _ lim _ K ls st h => ∃ (r : List mV), st = r ∧ K n ls (v :: r) h
theorem mo_push (v : mV) (n : Nat) : mMono (o_push v n) := by
  intro C lim Q K K' hK ls st h H
  obtain ⟨r, h0, k9⟩ := H
  exact ⟨r, h0, hK _ _ _ _ k9⟩
theorem s_push {C : mC} {cd : Nat → mT} {lim : Nat × Nat} {Q : mQ} {pc : Nat} {ls r : List mV} {h : mH} {v : mV} {n : Nat}  (hc : cd pc = o_push v n)  (k9 : wp C cd lim Q n ls (v :: r) h) : wp C cd lim Q pc ls (r) h := wp_step hc (mo_push v n) ⟨r, rfl, k9⟩
def o_iadd (n : Nat) : mT := fun _ lim _ K ls st h => ∃ (a : Int) (b : Int) (r : List mV), st = vi b :: vi a :: r ∧ K n ls (vi (a + b) :: r) h
theorem mo_iadd (n : Nat) : mMono (o_iadd n) := by
  intro C lim Q K K' hK ls st h H
  obtain ⟨a, b, r, h0, k9⟩ := H
  exact ⟨a, b, r, h0, hK _ _ _ _ k9⟩
theorem s_iadd {C : mC} {cd : Nat → mT} {lim : Nat × Nat} {Q : mQ} {pc : Nat} {ls r : List mV} {h : mH} {n : Nat} {a : Int} {b : Int} (hc : cd pc = o_iadd n)  (k9 : wp C cd lim Q n ls (vi (a + b) :: r) h) : wp C cd lim Q pc ls (vi b :: vi a :: r) h := wp_step hc (mo_iadd n) ⟨a, b, r, rfl, k9⟩
def o_isub (n : Nat) : mT := fun _ lim _ K ls st h => ∃ (a : Int) (b : Int) (r : List mV), st = vi b :: vi a :: r ∧ K n ls (vi (a - b) :: r) h
theorem mo_isub (n : Nat) : mMono (o_isub n) := by
  intro C lim Q K K' hK ls st h H
  obtain ⟨a, b, r, h0, k9⟩ := H
  exact ⟨a, b, r, h0, hK _ _ _ _ k9⟩
theorem s_isub {C : mC} {cd : Nat → mT} {lim : Nat × Nat} {Q : mQ} {pc : Nat} {ls r : List mV} {h : mH} {n : Nat} {a : Int} {b : Int} (hc : cd pc = o_isub n)  (k9 : wp C cd lim Q n ls (vi (a - b) :: r) h) : wp C cd lim Q pc ls (vi b :: vi a :: r) h := wp_step hc (mo_isub n) ⟨a, b, r, rfl, k9⟩
def o_imul (n : Nat) : mT := fun _ lim _ K ls st h => ∃ (a : Int) (b : Int) (r : List mV), st = vi b :: vi a :: r ∧ K n ls (vi (a * b) :: r) h
theorem mo_imul (n : Nat) : mMono (o_imul n) := by
  intro C lim Q K K' hK ls st h H
  obtain ⟨a, b, r, h0, k9⟩ := H
  exact ⟨a, b, r, h0, hK _ _ _ _ k9⟩
theorem s_imul {C : mC} {cd : Nat → mT} {lim : Nat × Nat} {Q : mQ} {pc : Nat} {ls r : List mV} {h : mH} {n : Nat} {a : Int} {b : Int} (hc : cd pc = o_imul n)  (k9 : wp C cd lim Q n ls (vi (a * b) :: r) h) : wp C cd lim Q pc ls (vi b :: vi a :: r) h := wp_step hc (mo_imul n) ⟨a, b, r, rfl, k9⟩
def o_iand (n : Nat) : mT := fun _ lim _ K ls st h => ∃ (a : Int) (b : Int) (r : List mV), st = vi b :: vi a :: r ∧ K n ls (vi (zand a b) :: r) h
theorem mo_iand (n : Nat) : mMono (o_iand n) := by
  intro C lim Q K K' hK ls st h H
  obtain ⟨a, b, r, h0, k9⟩ := H
  exact ⟨a, b, r, h0, hK _ _ _ _ k9⟩
theorem s_iand {C : mC} {cd : Nat → mT} {lim : Nat × Nat} {Q : mQ} {pc : Nat} {ls r : List mV} {h : mH} {n : Nat} {a : Int} {b : Int} (hc : cd pc = o_iand n)  (k9 : wp C cd lim Q n ls (vi (zand a b) :: r) h) : wp C cd lim Q pc ls (vi b :: vi a :: r) h := wp_step hc (mo_iand n) ⟨a, b, r, rfl, k9⟩
def o_ior (n : Nat) : mT := fun _ lim _ K ls st h => ∃ (a : Int) (b : Int) (r : List mV), st = vi b :: vi a :: r ∧ K n ls (vi (zor a b) :: r) h
theorem mo_ior (n : Nat) : mMono (o_ior n) := by
  intro C lim Q K K' hK ls st h H
  obtain ⟨a, b, r, h0, k9⟩ := H
  exact ⟨a, b, r, h0, hK _ _ _ _ k9⟩
theorem s_ior {C : mC} {cd : Nat → mT} {lim : Nat × Nat} {Q : mQ} {pc : Nat} {ls r : List mV} {h : mH} {n : Nat} {a : Int} {b : Int} (hc : cd pc = o_ior n)  (k9 : wp C cd lim Q n ls (vi (zor a b) :: r) h) : wp C cd lim Q pc ls (vi b :: vi a :: r) h := wp_step hc (mo_ior n) ⟨a, b, r, rfl, k9⟩
def o_ixor (n : Nat) : mT := fun _ lim _ K ls st h => ∃ (a : Int) (b : Int) (r : List mV), st = vi b :: vi a :: r ∧ K n ls (vi (zxor a b) :: r) h
theorem mo_ixor (n : Nat) : mMono (o_ixor n) := by
  intro C lim Q K K' hK ls st h H
  obtain ⟨a, b, r, h0, k9⟩ := H
  exact ⟨a, b, r, h0, hK _ _ _ _ k9⟩
theorem s_ixor {C : mC} {cd : Nat → mT} {lim : Nat × Nat} {Q : mQ} {pc : Nat} {ls r : List mV} {h : mH} {n : Nat} {a : Int} {b : Int} (hc : cd pc = o_ixor n)  (k9 : wp C cd lim Q n ls (vi (zxor a b) :: r) h) : wp C cd lim Q pc ls (vi b :: vi a :: r) h := wp_step hc (mo_ixor n) ⟨a, b, r, rfl, k9⟩
def o_ishl (n : Nat) : mT := fun _ lim _ K ls st h => ∃ (a : Int) (b : Int) (r : List mV), st = vi b :: vi a :: r ∧ K n ls (vi (zshl a b) :: r) h
theorem mo_ishl (n : Nat) : mMono (o_ishl n) := by
  intro C lim Q K K' hK ls st h H
  obtain ⟨a, b, r, h0, k9⟩ := H
  exact ⟨a, b, r, h0, hK _ _ _ _ k9⟩
theorem s_ishl {C : mC} {cd : Nat → mT} {lim : Nat × Nat} {Q : mQ} {pc : Nat} {ls r : List mV} {h : mH} {n : Nat} {a : Int} {b : Int} (hc : cd pc = o_ishl n)  (k9 : wp C cd lim Q n ls (vi (zshl a b) :: r) h) : wp C cd lim Q pc ls (vi b :: vi a :: r) h := wp_step hc (mo_ishl n) ⟨a, b, r, rfl, k9⟩
def o_ishr (n : Nat) : mT := fun _ lim _ K ls st h => ∃ (a : Int) (b : Int) (r : List mV), st = vi b :: vi a :: r ∧ K n ls (vi (zshr a b) :: r) h
theorem mo_ishr (n : Nat) : mMono (o_ishr n) := by
  intro C lim Q K K' hK ls st h H
  obtain ⟨a, b, r, h0, k9⟩ := H
  exact ⟨a, b, r, h0, hK _ _ _ _ k9⟩
theorem s_ishr {C : mC} {cd : Nat → mT} {lim : Nat × Nat} {Q : mQ} {pc : Nat} {ls r : List mV} {h : mH} {n : Nat} {a : Int} {b : Int} (hc : cd pc = o_ishr n)  (k9 : wp C cd lim Q n ls (vi (zshr a b) :: r) h) : wp C cd lim Q pc ls (vi b :: vi a :: r) h := wp_step hc (mo_ishr n) ⟨a, b, r, rfl, k9⟩
def o_idiv (n : Nat) : mT := fun _ lim _ K ls st h => ∃ (a : Int) (b : Int) (r : List mV), st = vi b :: vi a :: r ∧ (inR a) ∧ (inR b) ∧ (b ≠ 0) ∧ K n ls (vi (a.tdiv b) :: r) h
theorem mo_idiv (n : Nat) : mMono (o_idiv n) := by
  intro C lim Q K K' hK ls st h H
  obtain ⟨a, b, r, h0, h1, h2, h3, k9⟩ := H
  exact ⟨a, b, r, h0, h1, h2, h3, hK _ _ _ _ k9⟩
theorem s_idiv {C : mC} {cd : Nat → mT} {lim : Nat × Nat} {Q : mQ} {pc : Nat} {ls r : List mV} {h : mH} {n : Nat} {a : Int} {b : Int} (hc : cd pc = o_idiv n) (h0 : inR a) (h1 : inR b) (h2 : b ≠ 0) (k9 : wp C cd lim Q n ls (vi (a.tdiv b) :: r) h) : wp C cd lim Q pc ls (vi b :: vi a :: r) h := wp_step hc (mo_idiv n) ⟨a, b, r, rfl, h0, h1, h2, k9⟩
def o_irem (n : Nat) : mT := fun _ lim _ K ls st h => ∃ (a : Int) (b : Int) (r : List mV), st = vi b :: vi a :: r ∧ (inR a) ∧ (inR b) ∧ (b ≠ 0) ∧ K n ls (vi (a.tmod b) :: r) h
theorem mo_irem (n : Nat) : mMono (o_irem n) := by
  intro C lim Q K K' hK ls st h H
  obtain ⟨a, b, r, h0, h1, h2, h3, k9⟩ := H
  exact ⟨a, b, r, h0, h1, h2, h3, hK _ _ _ _ k9⟩
theorem s_irem {C : mC} {cd : Nat → mT} {lim : Nat × Nat} {Q : mQ} {pc : Nat} {ls r : List mV} {h : mH} {n : Nat} {a : Int} {b : Int} (hc : cd pc = o_irem n) (h0 : inR a) (h1 : inR b) (h2 : b ≠ 0) (k9 : wp C cd lim Q n ls (vi (a.tmod b) :: r) h) : wp C cd lim Q pc ls (vi b :: vi a :: r) h := wp_step hc (mo_irem n) ⟨a, b, r, rfl, h0, h1, h2, k9⟩
def o_ineg (n : Nat) : mT := fun _ lim _ K ls st h => ∃ (a : Int) (r : List mV), st = vi a :: r ∧ K n ls (vi (-a) :: r) h
theorem mo_ineg (n : Nat) : mMono (o_ineg n) := by
  intro C lim Q K K' hK ls st h H
  obtain ⟨a, r, h0, k9⟩ := H
  exact ⟨a, r, h0, hK _ _ _ _ k9⟩
theorem s_ineg {C : mC} {cd : Nat → mT} {lim : Nat × Nat} {Q : mQ} {pc : Nat} {ls r : List mV} {h : mH} {n : Nat} {a : Int} (hc : cd pc = o_ineg n)  (k9 : wp C cd lim Q n ls (vi (-a) :: r) h) : wp C cd lim Q pc ls (vi a :: r) h := wp_step hc (mo_ineg n) ⟨a, r, rfl, k9⟩
def o_ladd (n : Nat) : mT := fun _ lim _ K ls st h => ∃ (a : Int) (b : Int) (r : List mV), st = vl b :: vl a :: r ∧ K n ls (vl (a + b) :: r) h
theorem mo_ladd (n : Nat) : mMono (o_ladd n) := by
  intro C lim Q K K' hK ls st h H
  obtain ⟨a, b, r, h0, k9⟩ := H
  exact ⟨a, b, r, h0, hK _ _ _ _ k9⟩
theorem s_ladd {C : mC} {cd : Nat → mT} {lim : Nat × Nat} {Q : mQ} {pc : Nat} {ls r : List mV} {h : mH} {n : Nat} {a : Int} {b : Int} (hc : cd pc = o_ladd n)  (k9 : wp C cd lim Q n ls (vl (a + b) :: r) h) : wp C cd lim Q pc ls (vl b :: vl a :: r) h := wp_step hc (mo_ladd n) ⟨a, b, r, rfl, k9⟩
def o_lsub (n : Nat) : mT := fun _ lim _ K ls st h => ∃ (a : Int) (b : Int) (r : List mV), st = vl b :: vl a :: r ∧ K n ls (vl (a - b) :: r) h
theorem mo_lsub (n : Nat) : mMono (o_lsub n) := by
  intro C lim Q K K' hK ls st h H
  obtain ⟨a, b, r, h0, k9⟩ := H
  exact ⟨a, b, r, h0, hK _ _ _ _ k9⟩
theorem s_lsub {C : mC} {cd : Nat → mT} {lim : Nat × Nat} {Q : mQ} {pc : Nat} {ls r : List mV} {h : mH} {n : Nat} {a : Int} {b : Int} (hc : cd pc = o_lsub n)  (k9 : wp C cd lim Q n ls (vl (a - b) :: r) h) : wp C cd lim Q pc ls (vl b :: vl a :: r) h := wp_step hc (mo_lsub n) ⟨a, b, r, rfl, k9⟩
def o_lmul (n : Nat) : mT := fun _ lim _ K ls st h => ∃ (a : Int) (b : Int) (r : List mV), st = vl b :: vl a :: r ∧ K n ls (vl (a * b) :: r) h
theorem mo_lmul (n : Nat) : mMono (o_lmul n) := by
  intro C lim Q K K' hK ls st h H
  obtain ⟨a, b, r, h0, k9⟩ := H
  exact ⟨a, b, r, h0, hK _ _ _ _ k9⟩
theorem s_lmul {C : mC} {cd : Nat → mT} {lim : Nat × Nat} {Q : mQ} {pc : Nat} {ls r : List mV} {h : mH} {n : Nat} {a : Int} {b : Int} (hc : cd pc = o_lmul n)  (k9 : wp C cd lim Q n ls (vl (a * b) :: r) h) : wp C cd lim Q pc ls (vl b :: vl a :: r) h := wp_step hc (mo_lmul n) ⟨a, b, r, rfl, k9⟩
def o_land (n : Nat) : mT := fun _ lim _ K ls st h => ∃ (a : Int) (b : Int) (r : List mV), st = vl b :: vl a :: r ∧ K n ls (vl (yand a b) :: r) h
theorem mo_land (n : Nat) : mMono (o_land n) := by
  intro C lim Q K K' hK ls st h H
  obtain ⟨a, b, r, h0, k9⟩ := H
  exact ⟨a, b, r, h0, hK _ _ _ _ k9⟩
theorem s_land {C : mC} {cd : Nat → mT} {lim : Nat × Nat} {Q : mQ} {pc : Nat} {ls r : List mV} {h : mH} {n : Nat} {a : Int} {b : Int} (hc : cd pc = o_land n)  (k9 : wp C cd lim Q n ls (vl (yand a b) :: r) h) : wp C cd lim Q pc ls (vl b :: vl a :: r) h := wp_step hc (mo_land n) ⟨a, b, r, rfl, k9⟩
def o_lor (n : Nat) : mT := fun _ lim _ K ls st h => ∃ (a : Int) (b : Int) (r : List mV), st = vl b :: vl a :: r ∧ K n ls (vl (yor a b) :: r) h
theorem mo_lor (n : Nat) : mMono (o_lor n) := by
  intro C lim Q K K' hK ls st h H
  obtain ⟨a, b, r, h0, k9⟩ := H
  exact ⟨a, b, r, h0, hK _ _ _ _ k9⟩
theorem s_lor {C : mC} {cd : Nat → mT} {lim : Nat × Nat} {Q : mQ} {pc : Nat} {ls r : List mV} {h : mH} {n : Nat} {a : Int} {b : Int} (hc : cd pc = o_lor n)  (k9 : wp C cd lim Q n ls (vl (yor a b) :: r) h) : wp C cd lim Q pc ls (vl b :: vl a :: r) h := wp_step hc (mo_lor n) ⟨a, b, r, rfl, k9⟩
def o_lxor (n : Nat) : mT := fun _ lim _ K ls st h => ∃ (a : Int) (b : Int) (r : List mV), st = vl b :: vl a :: r ∧ K n ls (vl (yxor a b) :: r) h
theorem mo_lxor (n : Nat) : mMono (o_lxor n) := by
  intro C lim Q K K' hK ls st h H
  obtain ⟨a, b, r, h0, k9⟩ := H
  exact ⟨a, b, r, h0, hK _ _ _ _ k9⟩
theorem s_lxor {C : mC} {cd : Nat → mT} {lim : Nat × Nat} {Q : mQ} {pc : Nat} {ls r : List mV} {h : mH} {n : Nat} {a : Int} {b : Int} (hc : cd pc = o_lxor n)  (k9 : wp C cd lim Q n ls (vl (yxor a b) :: r) h) : wp C cd lim Q pc ls (vl b :: vl a :: r) h := wp_step hc (mo_lxor n) ⟨a, b, r, rfl, k9⟩
def o_lshl (n : Nat) : mT := fun _ lim _ K ls st h => ∃ (a : Int) (b : Int) (r : List mV), st = vi b :: vl a :: r ∧ K n ls (vl (yshl a b) :: r) h
theorem mo_lshl (n : Nat) : mMono (o_lshl n) := by
  intro C lim Q K K' hK ls st h H
  obtain ⟨a, b, r, h0, k9⟩ := H
  exact ⟨a, b, r, h0, hK _ _ _ _ k9⟩
theorem s_lshl {C : mC} {cd : Nat → mT} {lim : Nat × Nat} {Q : mQ} {pc : Nat} {ls r : List mV} {h : mH} {n : Nat} {a : Int} {b : Int} (hc : cd pc = o_lshl n)  (k9 : wp C cd lim Q n ls (vl (yshl a b) :: r) h) : wp C cd lim Q pc ls (vi b :: vl a :: r) h := wp_step hc (mo_lshl n) ⟨a, b, r, rfl, k9⟩
def o_lshr (n : Nat) : mT := fun _ lim _ K ls st h => ∃ (a : Int) (b : Int) (r : List mV), st = vi b :: vl a :: r ∧ K n ls (vl (yshr a b) :: r) h
theorem mo_lshr (n : Nat) : mMono (o_lshr n) := by
  intro C lim Q K K' hK ls st h H
  obtain ⟨a, b, r, h0, k9⟩ := H
  exact ⟨a, b, r, h0, hK _ _ _ _ k9⟩
theorem s_lshr {C : mC} {cd : Nat → mT} {lim : Nat × Nat} {Q : mQ} {pc : Nat} {ls r : List mV} {h : mH} {n : Nat} {a : Int} {b : Int} (hc : cd pc = o_lshr n)  (k9 : wp C cd lim Q n ls (vl (yshr a b) :: r) h) : wp C cd lim Q pc ls (vi b :: vl a :: r) h := wp_step hc (mo_lshr n) ⟨a, b, r, rfl, k9⟩
def o_lushr (n : Nat) : mT := fun _ lim _ K ls st h => ∃ (a : Int) (b : Int) (r : List mV), st = vi b :: vl a :: r ∧ K n ls (vl (yushr a b) :: r) h
theorem mo_lushr (n : Nat) : mMono (o_lushr n) := by
  intro C lim Q K K' hK ls st h H
  obtain ⟨a, b, r, h0, k9⟩ := H
  exact ⟨a, b, r, h0, hK _ _ _ _ k9⟩
theorem s_lushr {C : mC} {cd : Nat → mT} {lim : Nat × Nat} {Q : mQ} {pc : Nat} {ls r : List mV} {h : mH} {n : Nat} {a : Int} {b : Int} (hc : cd pc = o_lushr n)  (k9 : wp C cd lim Q n ls (vl (yushr a b) :: r) h) : wp C cd lim Q pc ls (vi b :: vl a :: r) h := wp_step hc (mo_lushr n) ⟨a, b, r, rfl, k9⟩
def o_ldiv (n : Nat) : mT := fun _ lim _ K ls st h => ∃ (a : Int) (b : Int) (r : List mV), st = vl b :: vl a :: r ∧ (inL a) ∧ (inL b) ∧ (b ≠ 0) ∧ K n ls (vl (a.tdiv b) :: r) h
theorem mo_ldiv (n : Nat) : mMono (o_ldiv n) := by
  intro C lim Q K K' hK ls st h H
  obtain ⟨a, b, r, h0, h1, h2, h3, k9⟩ := H
  exact ⟨a, b, r, h0, h1, h2, h3, hK _ _ _ _ k9⟩
theorem s_ldiv {C : mC} {cd : Nat → mT} {lim : Nat × Nat} {Q : mQ} {pc : Nat} {ls r : List mV} {h : mH} {n : Nat} {a : Int} {b : Int} (hc : cd pc = o_ldiv n) (h0 : inL a) (h1 : inL b) (h2 : b ≠ 0) (k9 : wp C cd lim Q n ls (vl (a.tdiv b) :: r) h) : wp C cd lim Q pc ls (vl b :: vl a :: r) h := wp_step hc (mo_ldiv n) ⟨a, b, r, rfl, h0, h1, h2, k9⟩
def o_lrem (n : Nat) : mT := fun _ lim _ K ls st h => ∃ (a : Int) (b : Int) (r : List mV), st = vl b :: vl a :: r ∧ (inL a) ∧ (inL b) ∧ (b ≠ 0) ∧ K n ls (vl (a.tmod b) :: r) h
theorem mo_lrem (n : Nat) : mMono (o_lrem n) := by
  intro C lim Q K K' hK ls st h H
  obtain ⟨a, b, r, h0, h1, h2, h3, k9⟩ := H
  exact ⟨a, b, r, h0, h1, h2, h3, hK _ _ _ _ k9⟩
theorem s_lrem {C : mC} {cd : Nat → mT} {lim : Nat × Nat} {Q : mQ} {pc : Nat} {ls r : List mV} {h : mH} {n : Nat} {a : Int} {b : Int} (hc : cd pc = o_lrem n) (h0 : inL a) (h1 : inL b) (h2 : b ≠ 0) (k9 : wp C cd lim Q n ls (vl (a.tmod b) :: r) h) : wp C cd lim Q pc ls (vl b :: vl a :: r) h := wp_step hc (mo_lrem n) ⟨a, b, r, rfl, h0, h1, h2, k9⟩
def o_lcmp (n : Nat) : mT := fun _ lim _ K ls st h => ∃ (a : Int) (b : Int) (r : List mV), st = vl b :: vl a :: r ∧ (inL a) ∧ (inL b) ∧ K n ls (vi (mcmp a b) :: r) h
theorem mo_lcmp (n : Nat) : mMono (o_lcmp n) := by
  intro C lim Q K K' hK ls st h H
  obtain ⟨a, b, r, h0, h1, h2, k9⟩ := H
  exact ⟨a, b, r, h0, h1, h2, hK _ _ _ _ k9⟩
theorem s_lcmp {C : mC} {cd : Nat → mT} {lim : Nat × Nat} {Q : mQ} {pc : Nat} {ls r : List mV} {h : mH} {n : Nat} {a : Int} {b : Int} (hc : cd pc = o_lcmp n) (h0 : inL a) (h1 : inL b) (k9 : wp C cd lim Q n ls (vi (mcmp a b) :: r) h) : wp C cd lim Q pc ls (vl b :: vl a :: r) h := wp_step hc (mo_lcmp n) ⟨a, b, r, rfl, h0, h1, k9⟩
def o_i2l (n : Nat) : mT := fun _ lim _ K ls st h => ∃ (a : Int) (r : List mV), st = vi a :: r ∧ (inR a) ∧ K n ls (vl a :: r) h
theorem mo_i2l (n : Nat) : mMono (o_i2l n) := by
  intro C lim Q K K' hK ls st h H
  obtain ⟨a, r, h0, h1, k9⟩ := H
  exact ⟨a, r, h0, h1, hK _ _ _ _ k9⟩
theorem s_i2l {C : mC} {cd : Nat → mT} {lim : Nat × Nat} {Q : mQ} {pc : Nat} {ls r : List mV} {h : mH} {n : Nat} {a : Int} (hc : cd pc = o_i2l n) (h0 : inR a) (k9 : wp C cd lim Q n ls (vl a :: r) h) : wp C cd lim Q pc ls (vi a :: r) h := wp_step hc (mo_i2l n) ⟨a, r, rfl, h0, k9⟩
def o_l2i (n : Nat) : mT := fun _ lim _ K ls st h => ∃ (a : Int) (r : List mV), st = vl a :: r ∧ K n ls (vi a :: r) h
theorem mo_l2i (n : Nat) : mMono (o_l2i n) := by
  intro C lim Q K K' hK ls st h H
  obtain ⟨a, r, h0, k9⟩ := H
  exact ⟨a, r, h0, hK _ _ _ _ k9⟩
theorem s_l2i {C : mC} {cd : Nat → mT} {lim : Nat × Nat} {Q : mQ} {pc : Nat} {ls r : List mV} {h : mH} {n : Nat} {a : Int} (hc : cd pc = o_l2i n)  (k9 : wp C cd lim Q n ls (vi a :: r) h) : wp C cd lim Q pc ls (vl a :: r) h := wp_step hc (mo_l2i n) ⟨a, r, rfl, k9⟩
def o_dupr (n : Nat) : mT := fun _ lim _ K ls st h => ∃ (a : Nat) (r : List mV), st = vr a :: r ∧ K n ls (vr a :: vr a :: r) h
theorem mo_dupr (n : Nat) : mMono (o_dupr n) := by
  intro C lim Q K K' hK ls st h H
  obtain ⟨a, r, h0, k9⟩ := H
  exact ⟨a, r, h0, hK _ _ _ _ k9⟩
theorem s_dupr {C : mC} {cd : Nat → mT} {lim : Nat × Nat} {Q : mQ} {pc : Nat} {ls r : List mV} {h : mH} {n : Nat} {a : Nat} (hc : cd pc = o_dupr n)  (k9 : wp C cd lim Q n ls (vr a :: vr a :: r) h) : wp C cd lim Q pc ls (vr a :: r) h := wp_step hc (mo_dupr n) ⟨a, r, rfl, k9⟩
def o_dupi (n : Nat) : mT := fun _ lim _ K ls st h => ∃ (a : Int) (r : List mV), st = vi a :: r ∧ K n ls (vi a :: vi a :: r) h
theorem mo_dupi (n : Nat) : mMono (o_dupi n) := by
  intro C lim Q K K' hK ls st h H
  obtain ⟨a, r, h0, k9⟩ := H
  exact ⟨a, r, h0, hK _ _ _ _ k9⟩
theorem s_dupi {C : mC} {cd : Nat → mT} {lim : Nat × Nat} {Q : mQ} {pc : Nat} {ls r : List mV} {h : mH} {n : Nat} {a : Int} (hc : cd pc = o_dupi n)  (k9 : wp C cd lim Q n ls (vi a :: vi a :: r) h) : wp C cd lim Q pc ls (vi a :: r) h := wp_step hc (mo_dupi n) ⟨a, r, rfl, k9⟩
def o_dup2ir (n : Nat) : mT := fun _ lim _ K ls st h => ∃ (i : Int) (a : Nat) (r : List mV), st = vi i :: vr a :: r ∧ K n ls (vi i :: vr a :: vi i :: vr a :: r) h
theorem mo_dup2ir (n : Nat) : mMono (o_dup2ir n) := by
  intro C lim Q K K' hK ls st h H
  obtain ⟨i, a, r, h0, k9⟩ := H
  exact ⟨i, a, r, h0, hK _ _ _ _ k9⟩
theorem s_dup2ir {C : mC} {cd : Nat → mT} {lim : Nat × Nat} {Q : mQ} {pc : Nat} {ls r : List mV} {h : mH} {n : Nat} {i : Int} {a : Nat} (hc : cd pc = o_dup2ir n)  (k9 : wp C cd lim Q n ls (vi i :: vr a :: vi i :: vr a :: r) h) : wp C cd lim Q pc ls (vi i :: vr a :: r) h := wp_step hc (mo_dup2ir n) ⟨i, a, r, rfl, k9⟩
def o_goto (n : Nat) : mT := fun _ lim _ K ls st h => ∃ (r : List mV), st = r ∧ K n ls r h
theorem mo_goto (n : Nat) : mMono (o_goto n) := by
  intro C lim Q K K' hK ls st h H
  obtain ⟨r, h0, k9⟩ := H
  exact ⟨r, h0, hK _ _ _ _ k9⟩
theorem s_goto {C : mC} {cd : Nat → mT} {lim : Nat × Nat} {Q : mQ} {pc : Nat} {ls r : List mV} {h : mH} {n : Nat}  (hc : cd pc = o_goto n)  (k9 : wp C cd lim Q n ls r h) : wp C cd lim Q pc ls (r) h := wp_step hc (mo_goto n) ⟨r, rfl, k9⟩
def o_mabs (n : Nat) : mT := fun _ lim _ K ls st h => ∃ (a : Int) (r : List mV), st = vi a :: r ∧ (inR a) ∧ (mcat r ≤ 8) ∧ (h.1.1 ≤ lim.1) ∧ (h.1.2.1 ≤ lim.2) ∧ K n ls (vi (if 0 ≤ a then a else -a) :: r) h
theorem mo_mabs (n : Nat) : mMono (o_mabs n) := by
  intro C lim Q K K' hK ls st h H
  obtain ⟨a, r, h0, h1, h2, h3, h4, k9⟩ := H
  exact ⟨a, r, h0, h1, h2, h3, h4, hK _ _ _ _ k9⟩
theorem s_mabs {C : mC} {cd : Nat → mT} {lim : Nat × Nat} {Q : mQ} {pc : Nat} {ls r : List mV} {h : mH} {n : Nat} {a : Int} (hc : cd pc = o_mabs n) (h0 : inR a) (h1 : mcat r ≤ 8) (h2 : h.1.1 ≤ lim.1) (h3 : h.1.2.1 ≤ lim.2) (k9 : wp C cd lim Q n ls (vi (if 0 ≤ a then a else -a) :: r) h) : wp C cd lim Q pc ls (vi a :: r) h := wp_step hc (mo_mabs n) ⟨a, r, rfl, h0, h1, h2, h3, k9⟩
def o_mmin (n : Nat) : mT := fun _ lim _ K ls st h => ∃ (a : Int) (b : Int) (r : List mV), st = vi b :: vi a :: r ∧ (inR a) ∧ (inR b) ∧ (mcat r ≤ 8) ∧ (h.1.1 ≤ lim.1) ∧ (h.1.2.1 ≤ lim.2) ∧ K n ls (vi (if b < a then b else a) :: r) h
theorem mo_mmin (n : Nat) : mMono (o_mmin n) := by
  intro C lim Q K K' hK ls st h H
  obtain ⟨a, b, r, h0, h1, h2, h3, h4, h5, k9⟩ := H
  exact ⟨a, b, r, h0, h1, h2, h3, h4, h5, hK _ _ _ _ k9⟩
theorem s_mmin {C : mC} {cd : Nat → mT} {lim : Nat × Nat} {Q : mQ} {pc : Nat} {ls r : List mV} {h : mH} {n : Nat} {a : Int} {b : Int} (hc : cd pc = o_mmin n) (h0 : inR a) (h1 : inR b) (h2 : mcat r ≤ 8) (h3 : h.1.1 ≤ lim.1) (h4 : h.1.2.1 ≤ lim.2) (k9 : wp C cd lim Q n ls (vi (if b < a then b else a) :: r) h) : wp C cd lim Q pc ls (vi b :: vi a :: r) h := wp_step hc (mo_mmin n) ⟨a, b, r, rfl, h0, h1, h2, h3, h4, k9⟩
def o_getI (c : Nat) (k : Nat) (n : Nat) : mT := fun _ lim _ K ls st h => ∃ (a : Nat) (r : List mV), st = vr a :: r ∧ ((h.1.2.2 a).1 = c) ∧ K n ls (vi (h.2.1 a k) :: r) h
theorem mo_getI (c : Nat) (k : Nat) (n : Nat) : mMono (o_getI c k n) := by
  intro C lim Q K K' hK ls st h H
  obtain ⟨a, r, h0, h1, k9⟩ := H
  exact ⟨a, r, h0, h1, hK _ _ _ _ k9⟩
theorem s_getI {C : mC} {cd : Nat → mT} {lim : Nat × Nat} {Q : mQ} {pc : Nat} {ls r : List mV} {h : mH} {c : Nat} {k : Nat} {n : Nat} {a : Nat} (hc : cd pc = o_getI c k n) (h0 : (h.1.2.2 a).1 = c) (k9 : wp C cd lim Q n ls (vi (h.2.1 a k) :: r) h) : wp C cd lim Q pc ls (vr a :: r) h := wp_step hc (mo_getI c k n) ⟨a, r, rfl, h0, k9⟩
def o_getL (c : Nat) (k : Nat) (n : Nat) : mT := fun _ lim _ K ls st h => ∃ (a : Nat) (r : List mV), st = vr a :: r ∧ ((h.1.2.2 a).1 = c) ∧ K n ls (vl (h.2.1 a k) :: r) h
theorem mo_getL (c : Nat) (k : Nat) (n : Nat) : mMono (o_getL c k n) := by
  intro C lim Q K K' hK ls st h H
  obtain ⟨a, r, h0, h1, k9⟩ := H
  exact ⟨a, r, h0, h1, hK _ _ _ _ k9⟩
theorem s_getL {C : mC} {cd : Nat → mT} {lim : Nat × Nat} {Q : mQ} {pc : Nat} {ls r : List mV} {h : mH} {c : Nat} {k : Nat} {n : Nat} {a : Nat} (hc : cd pc = o_getL c k n) (h0 : (h.1.2.2 a).1 = c) (k9 : wp C cd lim Q n ls (vl (h.2.1 a k) :: r) h) : wp C cd lim Q pc ls (vr a :: r) h := wp_step hc (mo_getL c k n) ⟨a, r, rfl, h0, k9⟩
def o_getR (c : Nat) (k : Nat) (n : Nat) : mT := fun _ lim _ K ls st h => ∃ (a : Nat) (r : List mV), st = vr a :: r ∧ ((h.1.2.2 a).1 = c) ∧ K n ls (vr (h.2.2 a k) :: r) h
theorem mo_getR (c : Nat) (k : Nat) (n : Nat) : mMono (o_getR c k n) := by
  intro C lim Q K K' hK ls st h H
  obtain ⟨a, r, h0, h1, k9⟩ := H
  exact ⟨a, r, h0, h1, hK _ _ _ _ k9⟩
theorem s_getR {C : mC} {cd : Nat → mT} {lim : Nat × Nat} {Q : mQ} {pc : Nat} {ls r : List mV} {h : mH} {c : Nat} {k : Nat} {n : Nat} {a : Nat} (hc : cd pc = o_getR c k n) (h0 : (h.1.2.2 a).1 = c) (k9 : wp C cd lim Q n ls (vr (h.2.2 a k) :: r) h) : wp C cd lim Q pc ls (vr a :: r) h := wp_step hc (mo_getR c k n) ⟨a, r, rfl, h0, k9⟩
def o_putI (c : Nat) (k : Nat) (n : Nat) : mT := fun _ lim _ K ls st h => ∃ (z : Int) (a : Nat) (r : List mV), st = vi z :: vr a :: r ∧ ((h.1.2.2 a).1 = c) ∧ K n ls r (h.1, upI h.2.1 a k z, h.2.2)
theorem mo_putI (c : Nat) (k : Nat) (n : Nat) : mMono (o_putI c k n) := by
  intro C lim Q K K' hK ls st h H
  obtain ⟨z, a, r, h0, h1, k9⟩ := H
  exact ⟨z, a, r, h0, h1, hK _ _ _ _ k9⟩
theorem s_putI {C : mC} {cd : Nat → mT} {lim : Nat × Nat} {Q : mQ} {pc : Nat} {ls r : List mV} {h : mH} {c : Nat} {k : Nat} {n : Nat} {z : Int} {a : Nat} (hc : cd pc = o_putI c k n) (h0 : (h.1.2.2 a).1 = c) (k9 : wp C cd lim Q n ls r (h.1, upI h.2.1 a k z, h.2.2)) : wp C cd lim Q pc ls (vi z :: vr a :: r) h := wp_step hc (mo_putI c k n) ⟨z, a, r, rfl, h0, k9⟩
def o_putZ (c : Nat) (k : Nat) (n : Nat) : mT := fun _ lim _ K ls st h => ∃ (z : Int) (a : Nat) (r : List mV), st = vi z :: vr a :: r ∧ ((h.1.2.2 a).1 = c) ∧ (z = 0 ∨ z = 1) ∧ K n ls r (h.1, upI h.2.1 a k z, h.2.2)
theorem mo_putZ (c : Nat) (k : Nat) (n : Nat) : mMono (o_putZ c k n) := by
  intro C lim Q K K' hK ls st h H
  obtain ⟨z, a, r, h0, h1, h2, k9⟩ := H
  exact ⟨z, a, r, h0, h1, h2, hK _ _ _ _ k9⟩
theorem s_putZ {C : mC} {cd : Nat → mT} {lim : Nat × Nat} {Q : mQ} {pc : Nat} {ls r : List mV} {h : mH} {c : Nat} {k : Nat} {n : Nat} {z : Int} {a : Nat} (hc : cd pc = o_putZ c k n) (h0 : (h.1.2.2 a).1 = c) (h1 : z = 0 ∨ z = 1) (k9 : wp C cd lim Q n ls r (h.1, upI h.2.1 a k z, h.2.2)) : wp C cd lim Q pc ls (vi z :: vr a :: r) h := wp_step hc (mo_putZ c k n) ⟨z, a, r, rfl, h0, h1, k9⟩
def o_putL (c : Nat) (k : Nat) (n : Nat) : mT := fun _ lim _ K ls st h => ∃ (z : Int) (a : Nat) (r : List mV), st = vl z :: vr a :: r ∧ ((h.1.2.2 a).1 = c) ∧ K n ls r (h.1, upI h.2.1 a k z, h.2.2)
theorem mo_putL (c : Nat) (k : Nat) (n : Nat) : mMono (o_putL c k n) := by
  intro C lim Q K K' hK ls st h H
  obtain ⟨z, a, r, h0, h1, k9⟩ := H
  exact ⟨z, a, r, h0, h1, hK _ _ _ _ k9⟩
theorem s_putL {C : mC} {cd : Nat → mT} {lim : Nat × Nat} {Q : mQ} {pc : Nat} {ls r : List mV} {h : mH} {c : Nat} {k : Nat} {n : Nat} {z : Int} {a : Nat} (hc : cd pc = o_putL c k n) (h0 : (h.1.2.2 a).1 = c) (k9 : wp C cd lim Q n ls r (h.1, upI h.2.1 a k z, h.2.2)) : wp C cd lim Q pc ls (vl z :: vr a :: r) h := wp_step hc (mo_putL c k n) ⟨z, a, r, rfl, h0, k9⟩
def o_putR (c : Nat) (k : Nat) (n : Nat) : mT := fun _ lim _ K ls st h => ∃ (z : Nat) (a : Nat) (r : List mV), st = vr z :: vr a :: r ∧ ((h.1.2.2 a).1 = c) ∧ K n ls r (h.1, h.2.1, upR h.2.2 a k z)
theorem mo_putR (c : Nat) (k : Nat) (n : Nat) : mMono (o_putR c k n) := by
  intro C lim Q K K' hK ls st h H
  obtain ⟨z, a, r, h0, h1, k9⟩ := H
  exact ⟨z, a, r, h0, h1, hK _ _ _ _ k9⟩
theorem s_putR {C : mC} {cd : Nat → mT} {lim : Nat × Nat} {Q : mQ} {pc : Nat} {ls r : List mV} {h : mH} {c : Nat} {k : Nat} {n : Nat} {z : Nat} {a : Nat} (hc : cd pc = o_putR c k n) (h0 : (h.1.2.2 a).1 = c) (k9 : wp C cd lim Q n ls r (h.1, h.2.1, upR h.2.2 a k z)) : wp C cd lim Q pc ls (vr z :: vr a :: r) h := wp_step hc (mo_putR c k n) ⟨z, a, r, rfl, h0, k9⟩
def o_iald (n : Nat) : mT := fun _ lim _ K ls st h => ∃ (i : Int) (a : Nat) (r : List mV), st = vi i :: vr a :: r ∧ ((h.1.2.2 a).1 = 20) ∧ (0 ≤ i) ∧ (i < (h.1.2.2 a).2) ∧ K n ls (vi (h.2.1 a i) :: r) h
theorem mo_iald (n : Nat) : mMono (o_iald n) := by
  intro C lim Q K K' hK ls st h H
  obtain ⟨i, a, r, h0, h1, h2, h3, k9⟩ := H
  exact ⟨i, a, r, h0, h1, h2, h3, hK _ _ _ _ k9⟩
theorem s_iald {C : mC} {cd : Nat → mT} {lim : Nat × Nat} {Q : mQ} {pc : Nat} {ls r : List mV} {h : mH} {n : Nat} {i : Int} {a : Nat} (hc : cd pc = o_iald n) (h0 : (h.1.2.2 a).1 = 20) (h1 : 0 ≤ i) (h2 : i < (h.1.2.2 a).2) (k9 : wp C cd lim Q n ls (vi (h.2.1 a i) :: r) h) : wp C cd lim Q pc ls (vi i :: vr a :: r) h := wp_step hc (mo_iald n) ⟨i, a, r, rfl, h0, h1, h2, k9⟩
def o_iast (n : Nat) : mT := fun _ lim _ K ls st h => ∃ (z : Int) (i : Int) (a : Nat) (r : List mV), st = vi z :: vi i :: vr a :: r ∧ ((h.1.2.2 a).1 = 20) ∧ (0 ≤ i) ∧ (i < (h.1.2.2 a).2) ∧ K n ls r (h.1, upI h.2.1 a i z, h.2.2)
theorem mo_iast (n : Nat) : mMono (o_iast n) := by
  intro C lim Q K K' hK ls st h H
  obtain ⟨z, i, a, r, h0, h1, h2, h3, k9⟩ := H
  exact ⟨z, i, a, r, h0, h1, h2, h3, hK _ _ _ _ k9⟩
theorem s_iast {C : mC} {cd : Nat → mT} {lim : Nat × Nat} {Q : mQ} {pc : Nat} {ls r : List mV} {h : mH} {n : Nat} {z : Int} {i : Int} {a : Nat} (hc : cd pc = o_iast n) (h0 : (h.1.2.2 a).1 = 20) (h1 : 0 ≤ i) (h2 : i < (h.1.2.2 a).2) (k9 : wp C cd lim Q n ls r (h.1, upI h.2.1 a i z, h.2.2)) : wp C cd lim Q pc ls (vi z :: vi i :: vr a :: r) h := wp_step hc (mo_iast n) ⟨z, i, a, r, rfl, h0, h1, h2, k9⟩
def o_bald (n : Nat) : mT := fun _ lim _ K ls st h => ∃ (i : Int) (a : Nat) (r : List mV), st = vi i :: vr a :: r ∧ ((h.1.2.2 a).1 = 21) ∧ (0 ≤ i) ∧ (i < (h.1.2.2 a).2) ∧ K n ls (vi (h.2.1 a i) :: r) h
theorem mo_bald (n : Nat) : mMono (o_bald n) := by
  intro C lim Q K K' hK ls st h H
  obtain ⟨i, a, r, h0, h1, h2, h3, k9⟩ := H
  exact ⟨i, a, r, h0, h1, h2, h3, hK _ _ _ _ k9⟩
theorem s_bald {C : mC} {cd : Nat → mT} {lim : Nat × Nat} {Q : mQ} {pc : Nat} {ls r : List mV} {h : mH} {n : Nat} {i : Int} {a : Nat} (hc : cd pc = o_bald n) (h0 : (h.1.2.2 a).1 = 21) (h1 : 0 ≤ i) (h2 : i < (h.1.2.2 a).2) (k9 : wp C cd lim Q n ls (vi (h.2.1 a i) :: r) h) : wp C cd lim Q pc ls (vi i :: vr a :: r) h := wp_step hc (mo_bald n) ⟨i, a, r, rfl, h0, h1, h2, k9⟩
def o_bast (n : Nat) : mT := fun _ lim _ K ls st h => ∃ (z : Int) (i : Int) (a : Nat) (r : List mV), st = vi z :: vi i :: vr a :: r ∧ ((h.1.2.2 a).1 = 21) ∧ (0 ≤ i) ∧ (i < (h.1.2.2 a).2) ∧ (z = 0 ∨ z = 1) ∧ K n ls r (h.1, upI h.2.1 a i z, h.2.2)
theorem mo_bast (n : Nat) : mMono (o_bast n) := by
  intro C lim Q K K' hK ls st h H
  obtain ⟨z, i, a, r, h0, h1, h2, h3, h4, k9⟩ := H
  exact ⟨z, i, a, r, h0, h1, h2, h3, h4, hK _ _ _ _ k9⟩
theorem s_bast {C : mC} {cd : Nat → mT} {lim : Nat × Nat} {Q : mQ} {pc : Nat} {ls r : List mV} {h : mH} {n : Nat} {z : Int} {i : Int} {a : Nat} (hc : cd pc = o_bast n) (h0 : (h.1.2.2 a).1 = 21) (h1 : 0 ≤ i) (h2 : i < (h.1.2.2 a).2) (h3 : z = 0 ∨ z = 1) (k9 : wp C cd lim Q n ls r (h.1, upI h.2.1 a i z, h.2.2)) : wp C cd lim Q pc ls (vi z :: vi i :: vr a :: r) h := wp_step hc (mo_bast n) ⟨z, i, a, r, rfl, h0, h1, h2, h3, k9⟩
def o_lald (n : Nat) : mT := fun _ lim _ K ls st h => ∃ (i : Int) (a : Nat) (r : List mV), st = vi i :: vr a :: r ∧ ((h.1.2.2 a).1 = 22) ∧ (0 ≤ i) ∧ (i < (h.1.2.2 a).2) ∧ K n ls (vl (h.2.1 a i) :: r) h
theorem mo_lald (n : Nat) : mMono (o_lald n) := by
  intro C lim Q K K' hK ls st h H
  obtain ⟨i, a, r, h0, h1, h2, h3, k9⟩ := H
  exact ⟨i, a, r, h0, h1, h2, h3, hK _ _ _ _ k9⟩
theorem s_lald {C : mC} {cd : Nat → mT} {lim : Nat × Nat} {Q : mQ} {pc : Nat} {ls r : List mV} {h : mH} {n : Nat} {i : Int} {a : Nat} (hc : cd pc = o_lald n) (h0 : (h.1.2.2 a).1 = 22) (h1 : 0 ≤ i) (h2 : i < (h.1.2.2 a).2) (k9 : wp C cd lim Q n ls (vl (h.2.1 a i) :: r) h) : wp C cd lim Q pc ls (vi i :: vr a :: r) h := wp_step hc (mo_lald n) ⟨i, a, r, rfl, h0, h1, h2, k9⟩
def o_last (n : Nat) : mT := fun _ lim _ K ls st h => ∃ (z : Int) (i : Int) (a : Nat) (r : List mV), st = vl z :: vi i :: vr a :: r ∧ ((h.1.2.2 a).1 = 22) ∧ (0 ≤ i) ∧ (i < (h.1.2.2 a).2) ∧ K n ls r (h.1, upI h.2.1 a i z, h.2.2)
theorem mo_last (n : Nat) : mMono (o_last n) := by
  intro C lim Q K K' hK ls st h H
  obtain ⟨z, i, a, r, h0, h1, h2, h3, k9⟩ := H
  exact ⟨z, i, a, r, h0, h1, h2, h3, hK _ _ _ _ k9⟩
theorem s_last {C : mC} {cd : Nat → mT} {lim : Nat × Nat} {Q : mQ} {pc : Nat} {ls r : List mV} {h : mH} {n : Nat} {z : Int} {i : Int} {a : Nat} (hc : cd pc = o_last n) (h0 : (h.1.2.2 a).1 = 22) (h1 : 0 ≤ i) (h2 : i < (h.1.2.2 a).2) (k9 : wp C cd lim Q n ls r (h.1, upI h.2.1 a i z, h.2.2)) : wp C cd lim Q pc ls (vl z :: vi i :: vr a :: r) h := wp_step hc (mo_last n) ⟨z, i, a, r, rfl, h0, h1, h2, k9⟩
def o_aald (c : Nat) (n : Nat) : mT := fun _ lim _ K ls st h => ∃ (i : Int) (a : Nat) (r : List mV), st = vi i :: vr a :: r ∧ ((h.1.2.2 a).1 = c) ∧ (0 ≤ i) ∧ (i < (h.1.2.2 a).2) ∧ K n ls (vr (h.2.2 a i) :: r) h
theorem mo_aald (c : Nat) (n : Nat) : mMono (o_aald c n) := by
  intro C lim Q K K' hK ls st h H
  obtain ⟨i, a, r, h0, h1, h2, h3, k9⟩ := H
  exact ⟨i, a, r, h0, h1, h2, h3, hK _ _ _ _ k9⟩
theorem s_aald {C : mC} {cd : Nat → mT} {lim : Nat × Nat} {Q : mQ} {pc : Nat} {ls r : List mV} {h : mH} {c : Nat} {n : Nat} {i : Int} {a : Nat} (hc : cd pc = o_aald c n) (h0 : (h.1.2.2 a).1 = c) (h1 : 0 ≤ i) (h2 : i < (h.1.2.2 a).2) (k9 : wp C cd lim Q n ls (vr (h.2.2 a i) :: r) h) : wp C cd lim Q pc ls (vi i :: vr a :: r) h := wp_step hc (mo_aald c n) ⟨i, a, r, rfl, h0, h1, h2, k9⟩
def o_aast (c : Nat) (n : Nat) : mT := fun _ lim _ K ls st h => ∃ (z : Nat) (i : Int) (a : Nat) (r : List mV), st = vr z :: vi i :: vr a :: r ∧ ((h.1.2.2 a).1 = c) ∧ ((h.1.2.2 z).1 + 18 = c) ∧ (0 ≤ i) ∧ (i < (h.1.2.2 a).2) ∧ K n ls r (h.1, h.2.1, upR h.2.2 a i z)
theorem mo_aast (c : Nat) (n : Nat) : mMono (o_aast c n) := by
  intro C lim Q K K' hK ls st h H
  obtain ⟨z, i, a, r, h0, h1, h2, h3, h4, k9⟩ := H
  exact ⟨z, i, a, r, h0, h1, h2, h3, h4, hK _ _ _ _ k9⟩
theorem s_aast {C : mC} {cd : Nat → mT} {lim : Nat × Nat} {Q : mQ} {pc : Nat} {ls r : List mV} {h : mH} {c : Nat} {n : Nat} {z : Nat} {i : Int} {a : Nat} (hc : cd pc = o_aast c n) (h0 : (h.1.2.2 a).1 = c) (h1 : (h.1.2.2 z).1 + 18 = c) (h2 : 0 ≤ i) (h3 : i < (h.1.2.2 a).2) (k9 : wp C cd lim Q n ls r (h.1, h.2.1, upR h.2.2 a i z)) : wp C cd lim Q pc ls (vr z :: vi i :: vr a :: r) h := wp_step hc (mo_aast c n) ⟨z, i, a, r, rfl, h0, h1, h2, h3, k9⟩
def o_copy (n : Nat) : mT := fun _ lim _ K ls st h => ∃ (m : Int) (dp : Int) (b : Nat) (sp : Int) (a : Nat) (r : List mV), st = vi m :: vi dp :: vr b :: vi sp :: vr a :: r ∧ ((h.1.2.2 a).1 = 20) ∧ ((h.1.2.2 b).1 = 20) ∧ (0 ≤ sp) ∧ (0 ≤ dp) ∧ (0 ≤ m) ∧ (sp + m ≤ (h.1.2.2 a).2) ∧ (dp + m ≤ (h.1.2.2 b).2) ∧ (mcat r ≤ 8) ∧ K n ls r (h.1, mcp h.2.1 a b sp dp m, h.2.2)
theorem mo_copy (n : Nat) : mMono (o_copy n) := by
  intro C lim Q K K' hK ls st h H
  obtain ⟨m, dp, b, sp, a, r, h0, h1, h2, h3, h4, h5, h6, h7, h8, k9⟩ := H
  exact ⟨m, dp, b, sp, a, r, h0, h1, h2, h3, h4, h5, h6, h7, h8, hK _ _ _ _ k9⟩
theorem s_copy {C : mC} {cd : Nat → mT} {lim : Nat × Nat} {Q : mQ} {pc : Nat} {ls r : List mV} {h : mH} {n : Nat} {m : Int} {dp : Int} {b : Nat} {sp : Int} {a : Nat} (hc : cd pc = o_copy n) (h0 : (h.1.2.2 a).1 = 20) (h1 : (h.1.2.2 b).1 = 20) (h2 : 0 ≤ sp) (h3 : 0 ≤ dp) (h4 : 0 ≤ m) (h5 : sp + m ≤ (h.1.2.2 a).2) (h6 : dp + m ≤ (h.1.2.2 b).2) (h7 : mcat r ≤ 8) (k9 : wp C cd lim Q n ls r (h.1, mcp h.2.1 a b sp dp m, h.2.2)) : wp C cd lim Q pc ls (vi m :: vi dp :: vr b :: vi sp :: vr a :: r) h := wp_step hc (mo_copy n) ⟨m, dp, b, sp, a, r, rfl, h0, h1, h2, h3, h4, h5, h6, h7, k9⟩
def o_objinit (n : Nat) : mT := fun _ lim _ K ls st h => ∃ (a : Nat) (r : List mV), st = vr a :: r ∧ (a ≠ 0) ∧ (mcat r ≤ 8) ∧ K n ls r h
theorem mo_objinit (n : Nat) : mMono (o_objinit n) := by
  intro C lim Q K K' hK ls st h H
  obtain ⟨a, r, h0, h1, h2, k9⟩ := H
  exact ⟨a, r, h0, h1, h2, hK _ _ _ _ k9⟩
theorem s_objinit {C : mC} {cd : Nat → mT} {lim : Nat × Nat} {Q : mQ} {pc : Nat} {ls r : List mV} {h : mH} {n : Nat} {a : Nat} (hc : cd pc = o_objinit n) (h0 : a ≠ 0) (h1 : mcat r ≤ 8) (k9 : wp C cd lim Q n ls r h) : wp C cd lim Q pc ls (vr a :: r) h := wp_step hc (mo_objinit n) ⟨a, r, rfl, h0, h1, k9⟩
def o_new (c : Nat) (n : Nat) : mT := fun _ lim _ K ls st h => ∃ (r : List mV), st = r ∧ (h.1.1 + 1 ≤ lim.1) ∧ (h.1.2.1 + mN c ≤ lim.2) ∧ K n ls (vr h.1.1 :: r) (mkC h c 0 (mN c))
theorem mo_new (c : Nat) (n : Nat) : mMono (o_new c n) := by
  intro C lim Q K K' hK ls st h H
  obtain ⟨r, h0, h1, h2, k9⟩ := H
  exact ⟨r, h0, h1, h2, hK _ _ _ _ k9⟩
theorem s_new {C : mC} {cd : Nat → mT} {lim : Nat × Nat} {Q : mQ} {pc : Nat} {ls r : List mV} {h : mH} {c : Nat} {n : Nat}  (hc : cd pc = o_new c n) (h0 : h.1.1 + 1 ≤ lim.1) (h1 : h.1.2.1 + mN c ≤ lim.2) (k9 : wp C cd lim Q n ls (vr h.1.1 :: r) (mkC h c 0 (mN c))) : wp C cd lim Q pc ls (r) h := wp_step hc (mo_new c n) ⟨r, rfl, h0, h1, k9⟩
def o_newa (c : Nat) (n : Nat) : mT := fun _ lim _ K ls st h => ∃ (z : Int) (r : List mV), st = vi z :: r ∧ (0 ≤ z) ∧ (z < 1000000) ∧ (h.1.1 + 1 ≤ lim.1) ∧ (h.1.2.1 + z.toNat ≤ lim.2) ∧ K n ls (vr h.1.1 :: r) (mkC h c z.toNat z.toNat)
theorem mo_newa (c : Nat) (n : Nat) : mMono (o_newa c n) := by
  intro C lim Q K K' hK ls st h H
  obtain ⟨z, r, h0, h1, h2, h3, h4, k9⟩ := H
  exact ⟨z, r, h0, h1, h2, h3, h4, hK _ _ _ _ k9⟩
theorem s_newa {C : mC} {cd : Nat → mT} {lim : Nat × Nat} {Q : mQ} {pc : Nat} {ls r : List mV} {h : mH} {c : Nat} {n : Nat} {z : Int} (hc : cd pc = o_newa c n) (h0 : 0 ≤ z) (h1 : z < 1000000) (h2 : h.1.1 + 1 ≤ lim.1) (h3 : h.1.2.1 + z.toNat ≤ lim.2) (k9 : wp C cd lim Q n ls (vr h.1.1 :: r) (mkC h c z.toNat z.toNat)) : wp C cd lim Q pc ls (vi z :: r) h := wp_step hc (mo_newa c n) ⟨z, r, rfl, h0, h1, h2, h3, k9⟩
def o_anew (c : Nat) (n : Nat) : mT := fun _ lim _ K ls st h => ∃ (z : Int) (r : List mV), st = vi z :: r ∧ (0 ≤ z) ∧ (z < 1000000) ∧ (h.1.1 + 1 ≤ lim.1) ∧ (h.1.2.1 + z.toNat ≤ lim.2) ∧ K n ls (vr h.1.1 :: r) (mkC h c z.toNat z.toNat)
theorem mo_anew (c : Nat) (n : Nat) : mMono (o_anew c n) := by
  intro C lim Q K K' hK ls st h H
  obtain ⟨z, r, h0, h1, h2, h3, h4, k9⟩ := H
  exact ⟨z, r, h0, h1, h2, h3, h4, hK _ _ _ _ k9⟩
theorem s_anew {C : mC} {cd : Nat → mT} {lim : Nat × Nat} {Q : mQ} {pc : Nat} {ls r : List mV} {h : mH} {c : Nat} {n : Nat} {z : Int} (hc : cd pc = o_anew c n) (h0 : 0 ≤ z) (h1 : z < 1000000) (h2 : h.1.1 + 1 ≤ lim.1) (h3 : h.1.2.1 + z.toNat ≤ lim.2) (k9 : wp C cd lim Q n ls (vr h.1.1 :: r) (mkC h c z.toNat z.toNat)) : wp C cd lim Q pc ls (vi z :: r) h := wp_step hc (mo_anew c n) ⟨z, r, rfl, h0, h1, h2, h3, k9⟩
def o_mna (n : Nat) : mT := fun _ lim _ K ls st h => ∃ (k : Int) (z : Int) (r : List mV), st = vi k :: vi z :: r ∧ (0 ≤ z) ∧ (z < 1000000) ∧ (0 ≤ k) ∧ (k < 1000000) ∧ (h.1.1 + (1 + z.toNat) ≤ lim.1) ∧ (h.1.2.1 + (z.toNat + z.toNat * k.toNat) ≤ lim.2) ∧ K n ls (vr h.1.1 :: r) (mkM h z.toNat k.toNat)
theorem mo_mna (n : Nat) : mMono (o_mna n) := by
  intro C lim Q K K' hK ls st h H
  obtain ⟨k, z, r, h0, h1, h2, h3, h4, h5, h6, k9⟩ := H
  exact ⟨k, z, r, h0, h1, h2, h3, h4, h5, h6, hK _ _ _ _ k9⟩
theorem s_mna {C : mC} {cd : Nat → mT} {lim : Nat × Nat} {Q : mQ} {pc : Nat} {ls r : List mV} {h : mH} {n : Nat} {k : Int} {z : Int} (hc : cd pc = o_mna n) (h0 : 0 ≤ z) (h1 : z < 1000000) (h2 : 0 ≤ k) (h3 : k < 1000000) (h4 : h.1.1 + (1 + z.toNat) ≤ lim.1) (h5 : h.1.2.1 + (z.toNat + z.toNat * k.toNat) ≤ lim.2) (k9 : wp C cd lim Q n ls (vr h.1.1 :: r) (mkM h z.toNat k.toNat)) : wp C cd lim Q pc ls (vi k :: vi z :: r) h := wp_step hc (mo_mna n) ⟨k, z, r, rfl, h0, h1, h2, h3, h4, h5, k9⟩
def o_sld (xs : Nat → Int32) (L : Nat) (n : Nat) : mT := fun _ lim _ K ls st h => ∃ (i : Int) (r : List mV), st = vi i :: vr 1 :: r ∧ (0 ≤ i) ∧ (i < L) ∧ K n ls (vi (xs i.toNat).toInt :: r) h
theorem mo_sld (xs : Nat → Int32) (L : Nat) (n : Nat) : mMono (o_sld xs L n) := by
  intro C lim Q K K' hK ls st h H
  obtain ⟨i, r, h0, h1, h2, k9⟩ := H
  exact ⟨i, r, h0, h1, h2, hK _ _ _ _ k9⟩
theorem s_sld {C : mC} {cd : Nat → mT} {lim : Nat × Nat} {Q : mQ} {pc : Nat} {ls r : List mV} {h : mH} {xs : Nat → Int32} {L : Nat} {n : Nat} {i : Int} (hc : cd pc = o_sld xs L n) (h0 : 0 ≤ i) (h1 : i < L) (k9 : wp C cd lim Q n ls (vi (xs i.toNat).toInt :: r) h) : wp C cd lim Q pc ls (vi i :: vr 1 :: r) h := wp_step hc (mo_sld xs L n) ⟨i, r, rfl, h0, h1, k9⟩
def o_slen (L : Nat) (n : Nat) : mT := fun _ lim _ K ls st h => ∃ (r : List mV), st = vr 1 :: r ∧ K n ls (vi L :: r) h
theorem mo_slen (L : Nat) (n : Nat) : mMono (o_slen L n) := by
  intro C lim Q K K' hK ls st h H
  obtain ⟨r, h0, k9⟩ := H
  exact ⟨r, h0, hK _ _ _ _ k9⟩
theorem s_slen {C : mC} {cd : Nat → mT} {lim : Nat × Nat} {Q : mQ} {pc : Nat} {ls r : List mV} {h : mH} {L : Nat} {n : Nat}  (hc : cd pc = o_slen L n)  (k9 : wp C cd lim Q n ls (vi L :: r) h) : wp C cd lim Q pc ls (vr 1 :: r) h := wp_step hc (mo_slen L n) ⟨r, rfl, k9⟩
def o_strlen (n : Nat) : mT := fun _ lim _ K ls st h => ∃ (a : Nat) (r : List mV), st = vr a :: r ∧ (2 ≤ a) ∧ (a ≤ 12) ∧ (mcat r ≤ 8) ∧ (h.1.1 ≤ lim.1) ∧ (h.1.2.1 ≤ lim.2) ∧ (True) ∧ K n ls (vi (mStr a).length :: r) h
theorem mo_strlen (n : Nat) : mMono (o_strlen n) := by
  intro C lim Q K K' hK ls st h H
  obtain ⟨a, r, h0, h1, h2, h3, h4, h5, h6, k9⟩ := H
  exact ⟨a, r, h0, h1, h2, h3, h4, h5, h6, hK _ _ _ _ k9⟩
theorem s_strlen {C : mC} {cd : Nat → mT} {lim : Nat × Nat} {Q : mQ} {pc : Nat} {ls r : List mV} {h : mH} {n : Nat} {a : Nat} (hc : cd pc = o_strlen n) (h0 : 2 ≤ a) (h1 : a ≤ 12) (h2 : mcat r ≤ 8) (h3 : h.1.1 ≤ lim.1) (h4 : h.1.2.1 ≤ lim.2) (h5 : True) (k9 : wp C cd lim Q n ls (vi (mStr a).length :: r) h) : wp C cd lim Q pc ls (vr a :: r) h := wp_step hc (mo_strlen n) ⟨a, r, rfl, h0, h1, h2, h3, h4, h5, k9⟩
def o_charAt (n : Nat) : mT := fun _ lim _ K ls st h => ∃ (i : Int) (a : Nat) (r : List mV), st = vi i :: vr a :: r ∧ (2 ≤ a) ∧ (a ≤ 12) ∧ (0 ≤ i) ∧ (i < (mStr a).length) ∧ (mcat r ≤ 8) ∧ (h.1.1 ≤ lim.1) ∧ (h.1.2.1 ≤ lim.2) ∧ (True) ∧ K n ls (vi ((mStr a).getD i.toNat 0) :: r) h
theorem mo_charAt (n : Nat) : mMono (o_charAt n) := by
  intro C lim Q K K' hK ls st h H
  obtain ⟨i, a, r, h0, h1, h2, h3, h4, h5, h6, h7, h8, k9⟩ := H
  exact ⟨i, a, r, h0, h1, h2, h3, h4, h5, h6, h7, h8, hK _ _ _ _ k9⟩
theorem s_charAt {C : mC} {cd : Nat → mT} {lim : Nat × Nat} {Q : mQ} {pc : Nat} {ls r : List mV} {h : mH} {n : Nat} {i : Int} {a : Nat} (hc : cd pc = o_charAt n) (h0 : 2 ≤ a) (h1 : a ≤ 12) (h2 : 0 ≤ i) (h3 : i < (mStr a).length) (h4 : mcat r ≤ 8) (h5 : h.1.1 ≤ lim.1) (h6 : h.1.2.1 ≤ lim.2) (h7 : True) (k9 : wp C cd lim Q n ls (vi ((mStr a).getD i.toNat 0) :: r) h) : wp C cd lim Q pc ls (vi i :: vr a :: r) h := wp_step hc (mo_charAt n) ⟨i, a, r, rfl, h0, h1, h2, h3, h4, h5, h6, h7, k9⟩
def o_ild (k n : Nat) : mT := fun _ _ _ K ls st h => ∃ z : Int, ls[k]? = some (vi z) ∧ K n ls (vi z :: st) h
theorem mo_ild (k n : Nat) : mMono (o_ild k n) := by
  intro C lim Q K K' hK ls st h H
  obtain ⟨z, h0, k9⟩ := H
  exact ⟨z, h0, hK _ _ _ _ k9⟩
theorem s_ild {C : mC} {cd : Nat → mT} {lim : Nat × Nat} {Q : mQ} {pc : Nat} {ls r : List mV} {h : mH} {k n : Nat} {z : Int} (hc : cd pc = o_ild k n) (h0 : ls[k]? = some (vi z)) (k9 : wp C cd lim Q n ls (vi z :: r) h) : wp C cd lim Q pc ls r h := wp_step hc (mo_ild k n) ⟨z, h0, k9⟩
def o_lld (k n : Nat) : mT := fun _ _ _ K ls st h => ∃ z : Int, ls[k]? = some (vl z) ∧ K n ls (vl z :: st) h
theorem mo_lld (k n : Nat) : mMono (o_lld k n) := by
  intro C lim Q K K' hK ls st h H
  obtain ⟨z, h0, k9⟩ := H
  exact ⟨z, h0, hK _ _ _ _ k9⟩
theorem s_lld {C : mC} {cd : Nat → mT} {lim : Nat × Nat} {Q : mQ} {pc : Nat} {ls r : List mV} {h : mH} {k n : Nat} {z : Int} (hc : cd pc = o_lld k n) (h0 : ls[k]? = some (vl z)) (k9 : wp C cd lim Q n ls (vl z :: r) h) : wp C cd lim Q pc ls r h := wp_step hc (mo_lld k n) ⟨z, h0, k9⟩
def o_ald (k n : Nat) : mT := fun _ _ _ K ls st h => ∃ z : Nat, ls[k]? = some (vr z) ∧ K n ls (vr z :: st) h
theorem mo_ald (k n : Nat) : mMono (o_ald k n) := by
  intro C lim Q K K' hK ls st h H
  obtain ⟨z, h0, k9⟩ := H
  exact ⟨z, h0, hK _ _ _ _ k9⟩
theorem s_ald {C : mC} {cd : Nat → mT} {lim : Nat × Nat} {Q : mQ} {pc : Nat} {ls r : List mV} {h : mH} {k n : Nat} {z : Nat} (hc : cd pc = o_ald k n) (h0 : ls[k]? = some (vr z)) (k9 : wp C cd lim Q n ls (vr z :: r) h) : wp C cd lim Q pc ls r h := wp_step hc (mo_ald k n) ⟨z, h0, k9⟩
def o_ist (k n : Nat) : mT := fun _ _ _ K ls st h => ∃ (z : Int) (r : List mV), st = vi z :: r ∧ K n (stv ls k (vi z)) r h
theorem mo_ist (k n : Nat) : mMono (o_ist k n) := by
  intro C lim Q K K' hK ls st h H
  obtain ⟨z, r, h0, k9⟩ := H
  exact ⟨z, r, h0, hK _ _ _ _ k9⟩
theorem s_ist0 {C : mC} {cd : Nat → mT} {lim : Nat × Nat} {Q : mQ} {pc n : Nat} {tl r : List mV} {l0 : mV} {h : mH} {z : Int} (hc : cd pc = o_ist 0 n)  (k9 : wp C cd lim Q n (vi z :: tl) r h) : wp C cd lim Q pc (l0 :: tl) (vi z :: r) h := wp_step hc (mo_ist 0 n) ⟨z, r, rfl, k9⟩
theorem s_ist1 {C : mC} {cd : Nat → mT} {lim : Nat × Nat} {Q : mQ} {pc n : Nat} {tl r : List mV} {l0 l1 : mV} {h : mH} {z : Int} (hc : cd pc = o_ist 1 n) (hj : mjk l0 = l0) (k9 : wp C cd lim Q n (l0 :: vi z :: tl) r h) : wp C cd lim Q pc (l0 :: l1 :: tl) (vi z :: r) h := wp_step hc (mo_ist 1 n) ⟨z, r, rfl, by
  show wp C cd lim Q n (mjk l0 :: vi z :: tl) r h
  rw [hj]; exact k9⟩
theorem s_ist1K {C : mC} {cd : Nat → mT} {lim : Nat × Nat} {Q : mQ} {pc n : Nat} {tl r : List mV} {l1 : mV} {y : Int} {h : mH} {z : Int} (hc : cd pc = o_ist 1 n) (k9 : wp C cd lim Q n (vj :: vi z :: tl) r h) : wp C cd lim Q pc (vl y :: l1 :: tl) (vi z :: r) h := wp_step hc (mo_ist 1 n) ⟨z, r, rfl, k9⟩
theorem s_ist2 {C : mC} {cd : Nat → mT} {lim : Nat × Nat} {Q : mQ} {pc n : Nat} {tl r : List mV} {l0 l1 l2 : mV} {h : mH} {z : Int} (hc : cd pc = o_ist 2 n) (hj : mjk l1 = l1) (k9 : wp C cd lim Q n (l0 :: l1 :: vi z :: tl) r h) : wp C cd lim Q pc (l0 :: l1 :: l2 :: tl) (vi z :: r) h := wp_step hc (mo_ist 2 n) ⟨z, r, rfl, by
  show wp C cd lim Q n (l0 :: mjk l1 :: vi z :: tl) r h
  rw [hj]; exact k9⟩
theorem s_ist2K {C : mC} {cd : Nat → mT} {lim : Nat × Nat} {Q : mQ} {pc n : Nat} {tl r : List mV} {l0 l2 : mV} {y : Int} {h : mH} {z : Int} (hc : cd pc = o_ist 2 n) (k9 : wp C cd lim Q n (l0 :: vj :: vi z :: tl) r h) : wp C cd lim Q pc (l0 :: vl y :: l2 :: tl) (vi z :: r) h := wp_step hc (mo_ist 2 n) ⟨z, r, rfl, k9⟩
theorem s_ist3 {C : mC} {cd : Nat → mT} {lim : Nat × Nat} {Q : mQ} {pc n : Nat} {tl r : List mV} {l0 l1 l2 l3 : mV} {h : mH} {z : Int} (hc : cd pc = o_ist 3 n) (hj : mjk l2 = l2) (k9 : wp C cd lim Q n (l0 :: l1 :: l2 :: vi z :: tl) r h) : wp C cd lim Q pc (l0 :: l1 :: l2 :: l3 :: tl) (vi z :: r) h := wp_step hc (mo_ist 3 n) ⟨z, r, rfl, by
  show wp C cd lim Q n (l0 :: l1 :: mjk l2 :: vi z :: tl) r h
  rw [hj]; exact k9⟩
theorem s_ist3K {C : mC} {cd : Nat → mT} {lim : Nat × Nat} {Q : mQ} {pc n : Nat} {tl r : List mV} {l0 l1 l3 : mV} {y : Int} {h : mH} {z : Int} (hc : cd pc = o_ist 3 n) (k9 : wp C cd lim Q n (l0 :: l1 :: vj :: vi z :: tl) r h) : wp C cd lim Q pc (l0 :: l1 :: vl y :: l3 :: tl) (vi z :: r) h := wp_step hc (mo_ist 3 n) ⟨z, r, rfl, k9⟩
theorem s_ist4 {C : mC} {cd : Nat → mT} {lim : Nat × Nat} {Q : mQ} {pc n : Nat} {tl r : List mV} {l0 l1 l2 l3 l4 : mV} {h : mH} {z : Int} (hc : cd pc = o_ist 4 n) (hj : mjk l3 = l3) (k9 : wp C cd lim Q n (l0 :: l1 :: l2 :: l3 :: vi z :: tl) r h) : wp C cd lim Q pc (l0 :: l1 :: l2 :: l3 :: l4 :: tl) (vi z :: r) h := wp_step hc (mo_ist 4 n) ⟨z, r, rfl, by
  show wp C cd lim Q n (l0 :: l1 :: l2 :: mjk l3 :: vi z :: tl) r h
  rw [hj]; exact k9⟩
theorem s_ist4K {C : mC} {cd : Nat → mT} {lim : Nat × Nat} {Q : mQ} {pc n : Nat} {tl r : List mV} {l0 l1 l2 l4 : mV} {y : Int} {h : mH} {z : Int} (hc : cd pc = o_ist 4 n) (k9 : wp C cd lim Q n (l0 :: l1 :: l2 :: vj :: vi z :: tl) r h) : wp C cd lim Q pc (l0 :: l1 :: l2 :: vl y :: l4 :: tl) (vi z :: r) h := wp_step hc (mo_ist 4 n) ⟨z, r, rfl, k9⟩
theorem s_ist5 {C : mC} {cd : Nat → mT} {lim : Nat × Nat} {Q : mQ} {pc n : Nat} {tl r : List mV} {l0 l1 l2 l3 l4 l5 : mV} {h : mH} {z : Int} (hc : cd pc = o_ist 5 n) (hj : mjk l4 = l4) (k9 : wp C cd lim Q n (l0 :: l1 :: l2 :: l3 :: l4 :: vi z :: tl) r h) : wp C cd lim Q pc (l0 :: l1 :: l2 :: l3 :: l4 :: l5 :: tl) (vi z :: r) h := wp_step hc (mo_ist 5 n) ⟨z, r, rfl, by
  show wp C cd lim Q n (l0 :: l1 :: l2 :: l3 :: mjk l4 :: vi z :: tl) r h
  rw [hj]; exact k9⟩
theorem s_ist5K {C : mC} {cd : Nat → mT} {lim : Nat × Nat} {Q : mQ} {pc n : Nat} {tl r : List mV} {l0 l1 l2 l3 l5 : mV} {y : Int} {h : mH} {z : Int} (hc : cd pc = o_ist 5 n) (k9 : wp C cd lim Q n (l0 :: l1 :: l2 :: l3 :: vj :: vi z :: tl) r h) : wp C cd lim Q pc (l0 :: l1 :: l2 :: l3 :: vl y :: l5 :: tl) (vi z :: r) h := wp_step hc (mo_ist 5 n) ⟨z, r, rfl, k9⟩
theorem s_ist6 {C : mC} {cd : Nat → mT} {lim : Nat × Nat} {Q : mQ} {pc n : Nat} {tl r : List mV} {l0 l1 l2 l3 l4 l5 l6 : mV} {h : mH} {z : Int} (hc : cd pc = o_ist 6 n) (hj : mjk l5 = l5) (k9 : wp C cd lim Q n (l0 :: l1 :: l2 :: l3 :: l4 :: l5 :: vi z :: tl) r h) : wp C cd lim Q pc (l0 :: l1 :: l2 :: l3 :: l4 :: l5 :: l6 :: tl) (vi z :: r) h := wp_step hc (mo_ist 6 n) ⟨z, r, rfl, by
  show wp C cd lim Q n (l0 :: l1 :: l2 :: l3 :: l4 :: mjk l5 :: vi z :: tl) r h
  rw [hj]; exact k9⟩
theorem s_ist6K {C : mC} {cd : Nat → mT} {lim : Nat × Nat} {Q : mQ} {pc n : Nat} {tl r : List mV} {l0 l1 l2 l3 l4 l6 : mV} {y : Int} {h : mH} {z : Int} (hc : cd pc = o_ist 6 n) (k9 : wp C cd lim Q n (l0 :: l1 :: l2 :: l3 :: l4 :: vj :: vi z :: tl) r h) : wp C cd lim Q pc (l0 :: l1 :: l2 :: l3 :: l4 :: vl y :: l6 :: tl) (vi z :: r) h := wp_step hc (mo_ist 6 n) ⟨z, r, rfl, k9⟩
theorem s_ist7 {C : mC} {cd : Nat → mT} {lim : Nat × Nat} {Q : mQ} {pc n : Nat} {tl r : List mV} {l0 l1 l2 l3 l4 l5 l6 l7 : mV} {h : mH} {z : Int} (hc : cd pc = o_ist 7 n) (hj : mjk l6 = l6) (k9 : wp C cd lim Q n (l0 :: l1 :: l2 :: l3 :: l4 :: l5 :: l6 :: vi z :: tl) r h) : wp C cd lim Q pc (l0 :: l1 :: l2 :: l3 :: l4 :: l5 :: l6 :: l7 :: tl) (vi z :: r) h := wp_step hc (mo_ist 7 n) ⟨z, r, rfl, by
  show wp C cd lim Q n (l0 :: l1 :: l2 :: l3 :: l4 :: l5 :: mjk l6 :: vi z :: tl) r h
  rw [hj]; exact k9⟩
theorem s_ist7K {C : mC} {cd : Nat → mT} {lim : Nat × Nat} {Q : mQ} {pc n : Nat} {tl r : List mV} {l0 l1 l2 l3 l4 l5 l7 : mV} {y : Int} {h : mH} {z : Int} (hc : cd pc = o_ist 7 n) (k9 : wp C cd lim Q n (l0 :: l1 :: l2 :: l3 :: l4 :: l5 :: vj :: vi z :: tl) r h) : wp C cd lim Q pc (l0 :: l1 :: l2 :: l3 :: l4 :: l5 :: vl y :: l7 :: tl) (vi z :: r) h := wp_step hc (mo_ist 7 n) ⟨z, r, rfl, k9⟩
theorem s_ist8 {C : mC} {cd : Nat → mT} {lim : Nat × Nat} {Q : mQ} {pc n : Nat} {tl r : List mV} {l0 l1 l2 l3 l4 l5 l6 l7 l8 : mV} {h : mH} {z : Int} (hc : cd pc = o_ist 8 n) (hj : mjk l7 = l7) (k9 : wp C cd lim Q n (l0 :: l1 :: l2 :: l3 :: l4 :: l5 :: l6 :: l7 :: vi z :: tl) r h) : wp C cd lim Q pc (l0 :: l1 :: l2 :: l3 :: l4 :: l5 :: l6 :: l7 :: l8 :: tl) (vi z :: r) h := wp_step hc (mo_ist 8 n) ⟨z, r, rfl, by
  show wp C cd lim Q n (l0 :: l1 :: l2 :: l3 :: l4 :: l5 :: l6 :: mjk l7 :: vi z :: tl) r h
  rw [hj]; exact k9⟩
theorem s_ist8K {C : mC} {cd : Nat → mT} {lim : Nat × Nat} {Q : mQ} {pc n : Nat} {tl r : List mV} {l0 l1 l2 l3 l4 l5 l6 l8 : mV} {y : Int} {h : mH} {z : Int} (hc : cd pc = o_ist 8 n) (k9 : wp C cd lim Q n (l0 :: l1 :: l2 :: l3 :: l4 :: l5 :: l6 :: vj :: vi z :: tl) r h) : wp C cd lim Q pc (l0 :: l1 :: l2 :: l3 :: l4 :: l5 :: l6 :: vl y :: l8 :: tl) (vi z :: r) h := wp_step hc (mo_ist 8 n) ⟨z, r, rfl, k9⟩
theorem s_ist9 {C : mC} {cd : Nat → mT} {lim : Nat × Nat} {Q : mQ} {pc n : Nat} {tl r : List mV} {l0 l1 l2 l3 l4 l5 l6 l7 l8 l9 : mV} {h : mH} {z : Int} (hc : cd pc = o_ist 9 n) (hj : mjk l8 = l8) (k9 : wp C cd lim Q n (l0 :: l1 :: l2 :: l3 :: l4 :: l5 :: l6 :: l7 :: l8 :: vi z :: tl) r h) : wp C cd lim Q pc (l0 :: l1 :: l2 :: l3 :: l4 :: l5 :: l6 :: l7 :: l8 :: l9 :: tl) (vi z :: r) h := wp_step hc (mo_ist 9 n) ⟨z, r, rfl, by
  show wp C cd lim Q n (l0 :: l1 :: l2 :: l3 :: l4 :: l5 :: l6 :: l7 :: mjk l8 :: vi z :: tl) r h
  rw [hj]; exact k9⟩
theorem s_ist9K {C : mC} {cd : Nat → mT} {lim : Nat × Nat} {Q : mQ} {pc n : Nat} {tl r : List mV} {l0 l1 l2 l3 l4 l5 l6 l7 l9 : mV} {y : Int} {h : mH} {z : Int} (hc : cd pc = o_ist 9 n) (k9 : wp C cd lim Q n (l0 :: l1 :: l2 :: l3 :: l4 :: l5 :: l6 :: l7 :: vj :: vi z :: tl) r h) : wp C cd lim Q pc (l0 :: l1 :: l2 :: l3 :: l4 :: l5 :: l6 :: l7 :: vl y :: l9 :: tl) (vi z :: r) h := wp_step hc (mo_ist 9 n) ⟨z, r, rfl, k9⟩
theorem s_ist10 {C : mC} {cd : Nat → mT} {lim : Nat × Nat} {Q : mQ} {pc n : Nat} {tl r : List mV} {l0 l1 l2 l3 l4 l5 l6 l7 l8 l9 l10 : mV} {h : mH} {z : Int} (hc : cd pc = o_ist 10 n) (hj : mjk l9 = l9) (k9 : wp C cd lim Q n (l0 :: l1 :: l2 :: l3 :: l4 :: l5 :: l6 :: l7 :: l8 :: l9 :: vi z :: tl) r h) : wp C cd lim Q pc (l0 :: l1 :: l2 :: l3 :: l4 :: l5 :: l6 :: l7 :: l8 :: l9 :: l10 :: tl) (vi z :: r) h := wp_step hc (mo_ist 10 n) ⟨z, r, rfl, by
  show wp C cd lim Q n (l0 :: l1 :: l2 :: l3 :: l4 :: l5 :: l6 :: l7 :: l8 :: mjk l9 :: vi z :: tl) r h
  rw [hj]; exact k9⟩
theorem s_ist10K {C : mC} {cd : Nat → mT} {lim : Nat × Nat} {Q : mQ} {pc n : Nat} {tl r : List mV} {l0 l1 l2 l3 l4 l5 l6 l7 l8 l10 : mV} {y : Int} {h : mH} {z : Int} (hc : cd pc = o_ist 10 n) (k9 : wp C cd lim Q n (l0 :: l1 :: l2 :: l3 :: l4 :: l5 :: l6 :: l7 :: l8 :: vj :: vi z :: tl) r h) : wp C cd lim Q pc (l0 :: l1 :: l2 :: l3 :: l4 :: l5 :: l6 :: l7 :: l8 :: vl y :: l10 :: tl) (vi z :: r) h := wp_step hc (mo_ist 10 n) ⟨z, r, rfl, k9⟩
theorem s_ist11 {C : mC} {cd : Nat → mT} {lim : Nat × Nat} {Q : mQ} {pc n : Nat} {tl r : List mV} {l0 l1 l2 l3 l4 l5 l6 l7 l8 l9 l10 l11 : mV} {h : mH} {z : Int} (hc : cd pc = o_ist 11 n) (hj : mjk l10 = l10) (k9 : wp C cd lim Q n (l0 :: l1 :: l2 :: l3 :: l4 :: l5 :: l6 :: l7 :: l8 :: l9 :: l10 :: vi z :: tl) r h) : wp C cd lim Q pc (l0 :: l1 :: l2 :: l3 :: l4 :: l5 :: l6 :: l7 :: l8 :: l9 :: l10 :: l11 :: tl) (vi z :: r) h := wp_step hc (mo_ist 11 n) ⟨z, r, rfl, by
  show wp C cd lim Q n (l0 :: l1 :: l2 :: l3 :: l4 :: l5 :: l6 :: l7 :: l8 :: l9 :: mjk l10 :: vi z :: tl) r h
  rw [hj]; exact k9⟩
theorem s_ist11K {C : mC} {cd : Nat → mT} {lim : Nat × Nat} {Q : mQ} {pc n : Nat} {tl r : List mV} {l0 l1 l2 l3 l4 l5 l6 l7 l8 l9 l11 : mV} {y : Int} {h : mH} {z : Int} (hc : cd pc = o_ist 11 n) (k9 : wp C cd lim Q n (l0 :: l1 :: l2 :: l3 :: l4 :: l5 :: l6 :: l7 :: l8 :: l9 :: vj :: vi z :: tl) r h) : wp C cd lim Q pc (l0 :: l1 :: l2 :: l3 :: l4 :: l5 :: l6 :: l7 :: l8 :: l9 :: vl y :: l11 :: tl) (vi z :: r) h := wp_step hc (mo_ist 11 n) ⟨z, r, rfl, k9⟩
theorem s_ist12 {C : mC} {cd : Nat → mT} {lim : Nat × Nat} {Q : mQ} {pc n : Nat} {tl r : List mV} {l0 l1 l2 l3 l4 l5 l6 l7 l8 l9 l10 l11 l12 : mV} {h : mH} {z : Int} (hc : cd pc = o_ist 12 n) (hj : mjk l11 = l11) (k9 : wp C cd lim Q n (l0 :: l1 :: l2 :: l3 :: l4 :: l5 :: l6 :: l7 :: l8 :: l9 :: l10 :: l11 :: vi z :: tl) r h) : wp C cd lim Q pc (l0 :: l1 :: l2 :: l3 :: l4 :: l5 :: l6 :: l7 :: l8 :: l9 :: l10 :: l11 :: l12 :: tl) (vi z :: r) h := wp_step hc (mo_ist 12 n) ⟨z, r, rfl, by
  show wp C cd lim Q n (l0 :: l1 :: l2 :: l3 :: l4 :: l5 :: l6 :: l7 :: l8 :: l9 :: l10 :: mjk l11 :: vi z :: tl) r h
  rw [hj]; exact k9⟩
theorem s_ist12K {C : mC} {cd : Nat → mT} {lim : Nat × Nat} {Q : mQ} {pc n : Nat} {tl r : List mV} {l0 l1 l2 l3 l4 l5 l6 l7 l8 l9 l10 l12 : mV} {y : Int} {h : mH} {z : Int} (hc : cd pc = o_ist 12 n) (k9 : wp C cd lim Q n (l0 :: l1 :: l2 :: l3 :: l4 :: l5 :: l6 :: l7 :: l8 :: l9 :: l10 :: vj :: vi z :: tl) r h) : wp C cd lim Q pc (l0 :: l1 :: l2 :: l3 :: l4 :: l5 :: l6 :: l7 :: l8 :: l9 :: l10 :: vl y :: l12 :: tl) (vi z :: r) h := wp_step hc (mo_ist 12 n) ⟨z, r, rfl, k9⟩
theorem s_ist13 {C : mC} {cd : Nat → mT} {lim : Nat × Nat} {Q : mQ} {pc n : Nat} {tl r : List mV} {l0 l1 l2 l3 l4 l5 l6 l7 l8 l9 l10 l11 l12 l13 : mV} {h : mH} {z : Int} (hc : cd pc = o_ist 13 n) (hj : mjk l12 = l12) (k9 : wp C cd lim Q n (l0 :: l1 :: l2 :: l3 :: l4 :: l5 :: l6 :: l7 :: l8 :: l9 :: l10 :: l11 :: l12 :: vi z :: tl) r h) : wp C cd lim Q pc (l0 :: l1 :: l2 :: l3 :: l4 :: l5 :: l6 :: l7 :: l8 :: l9 :: l10 :: l11 :: l12 :: l13 :: tl) (vi z :: r) h := wp_step hc (mo_ist 13 n) ⟨z, r, rfl, by
  show wp C cd lim Q n (l0 :: l1 :: l2 :: l3 :: l4 :: l5 :: l6 :: l7 :: l8 :: l9 :: l10 :: l11 :: mjk l12 :: vi z :: tl) r h
  rw [hj]; exact k9⟩
theorem s_ist13K {C : mC} {cd : Nat → mT} {lim : Nat × Nat} {Q : mQ} {pc n : Nat} {tl r : List mV} {l0 l1 l2 l3 l4 l5 l6 l7 l8 l9 l10 l11 l13 : mV} {y : Int} {h : mH} {z : Int} (hc : cd pc = o_ist 13 n) (k9 : wp C cd lim Q n (l0 :: l1 :: l2 :: l3 :: l4 :: l5 :: l6 :: l7 :: l8 :: l9 :: l10 :: l11 :: vj :: vi z :: tl) r h) : wp C cd lim Q pc (l0 :: l1 :: l2 :: l3 :: l4 :: l5 :: l6 :: l7 :: l8 :: l9 :: l10 :: l11 :: vl y :: l13 :: tl) (vi z :: r) h := wp_step hc (mo_ist 13 n) ⟨z, r, rfl, k9⟩
theorem s_ist14 {C : mC} {cd : Nat → mT} {lim : Nat × Nat} {Q : mQ} {pc n : Nat} {tl r : List mV} {l0 l1 l2 l3 l4 l5 l6 l7 l8 l9 l10 l11 l12 l13 l14 : mV} {h : mH} {z : Int} (hc : cd pc = o_ist 14 n) (hj : mjk l13 = l13) (k9 : wp C cd lim Q n (l0 :: l1 :: l2 :: l3 :: l4 :: l5 :: l6 :: l7 :: l8 :: l9 :: l10 :: l11 :: l12 :: l13 :: vi z :: tl) r h) : wp C cd lim Q pc (l0 :: l1 :: l2 :: l3 :: l4 :: l5 :: l6 :: l7 :: l8 :: l9 :: l10 :: l11 :: l12 :: l13 :: l14 :: tl) (vi z :: r) h := wp_step hc (mo_ist 14 n) ⟨z, r, rfl, by
  show wp C cd lim Q n (l0 :: l1 :: l2 :: l3 :: l4 :: l5 :: l6 :: l7 :: l8 :: l9 :: l10 :: l11 :: l12 :: mjk l13 :: vi z :: tl) r h
  rw [hj]; exact k9⟩
theorem s_ist14K {C : mC} {cd : Nat → mT} {lim : Nat × Nat} {Q : mQ} {pc n : Nat} {tl r : List mV} {l0 l1 l2 l3 l4 l5 l6 l7 l8 l9 l10 l11 l12 l14 : mV} {y : Int} {h : mH} {z : Int} (hc : cd pc = o_ist 14 n) (k9 : wp C cd lim Q n (l0 :: l1 :: l2 :: l3 :: l4 :: l5 :: l6 :: l7 :: l8 :: l9 :: l10 :: l11 :: l12 :: vj :: vi z :: tl) r h) : wp C cd lim Q pc (l0 :: l1 :: l2 :: l3 :: l4 :: l5 :: l6 :: l7 :: l8 :: l9 :: l10 :: l11 :: l12 :: vl y :: l14 :: tl) (vi z :: r) h := wp_step hc (mo_ist 14 n) ⟨z, r, rfl, k9⟩
def o_ast (k n : Nat) : mT := fun _ _ _ K ls st h => ∃ (z : Nat) (r : List mV), st = vr z :: r ∧ K n (stv ls k (vr z)) r h
theorem mo_ast (k n : Nat) : mMono (o_ast k n) := by
  intro C lim Q K K' hK ls st h H
  obtain ⟨z, r, h0, k9⟩ := H
  exact ⟨z, r, h0, hK _ _ _ _ k9⟩
theorem s_ast0 {C : mC} {cd : Nat → mT} {lim : Nat × Nat} {Q : mQ} {pc n : Nat} {tl r : List mV} {l0 : mV} {h : mH} {z : Nat} (hc : cd pc = o_ast 0 n)  (k9 : wp C cd lim Q n (vr z :: tl) r h) : wp C cd lim Q pc (l0 :: tl) (vr z :: r) h := wp_step hc (mo_ast 0 n) ⟨z, r, rfl, k9⟩
theorem s_ast1 {C : mC} {cd : Nat → mT} {lim : Nat × Nat} {Q : mQ} {pc n : Nat} {tl r : List mV} {l0 l1 : mV} {h : mH} {z : Nat} (hc : cd pc = o_ast 1 n) (hj : mjk l0 = l0) (k9 : wp C cd lim Q n (l0 :: vr z :: tl) r h) : wp C cd lim Q pc (l0 :: l1 :: tl) (vr z :: r) h := wp_step hc (mo_ast 1 n) ⟨z, r, rfl, by
  show wp C cd lim Q n (mjk l0 :: vr z :: tl) r h
  rw [hj]; exact k9⟩
theorem s_ast1K {C : mC} {cd : Nat → mT} {lim : Nat × Nat} {Q : mQ} {pc n : Nat} {tl r : List mV} {l1 : mV} {y : Int} {h : mH} {z : Nat} (hc : cd pc = o_ast 1 n) (k9 : wp C cd lim Q n (vj :: vr z :: tl) r h) : wp C cd lim Q pc (vl y :: l1 :: tl) (vr z :: r) h := wp_step hc (mo_ast 1 n) ⟨z, r, rfl, k9⟩
theorem s_ast2 {C : mC} {cd : Nat → mT} {lim : Nat × Nat} {Q : mQ} {pc n : Nat} {tl r : List mV} {l0 l1 l2 : mV} {h : mH} {z : Nat} (hc : cd pc = o_ast 2 n) (hj : mjk l1 = l1) (k9 : wp C cd lim Q n (l0 :: l1 :: vr z :: tl) r h) : wp C cd lim Q pc (l0 :: l1 :: l2 :: tl) (vr z :: r) h := wp_step hc (mo_ast 2 n) ⟨z, r, rfl, by
  show wp C cd lim Q n (l0 :: mjk l1 :: vr z :: tl) r h
  rw [hj]; exact k9⟩
theorem s_ast2K {C : mC} {cd : Nat → mT} {lim : Nat × Nat} {Q : mQ} {pc n : Nat} {tl r : List mV} {l0 l2 : mV} {y : Int} {h : mH} {z : Nat} (hc : cd pc = o_ast 2 n) (k9 : wp C cd lim Q n (l0 :: vj :: vr z :: tl) r h) : wp C cd lim Q pc (l0 :: vl y :: l2 :: tl) (vr z :: r) h := wp_step hc (mo_ast 2 n) ⟨z, r, rfl, k9⟩
theorem s_ast3 {C : mC} {cd : Nat → mT} {lim : Nat × Nat} {Q : mQ} {pc n : Nat} {tl r : List mV} {l0 l1 l2 l3 : mV} {h : mH} {z : Nat} (hc : cd pc = o_ast 3 n) (hj : mjk l2 = l2) (k9 : wp C cd lim Q n (l0 :: l1 :: l2 :: vr z :: tl) r h) : wp C cd lim Q pc (l0 :: l1 :: l2 :: l3 :: tl) (vr z :: r) h := wp_step hc (mo_ast 3 n) ⟨z, r, rfl, by
  show wp C cd lim Q n (l0 :: l1 :: mjk l2 :: vr z :: tl) r h
  rw [hj]; exact k9⟩
theorem s_ast3K {C : mC} {cd : Nat → mT} {lim : Nat × Nat} {Q : mQ} {pc n : Nat} {tl r : List mV} {l0 l1 l3 : mV} {y : Int} {h : mH} {z : Nat} (hc : cd pc = o_ast 3 n) (k9 : wp C cd lim Q n (l0 :: l1 :: vj :: vr z :: tl) r h) : wp C cd lim Q pc (l0 :: l1 :: vl y :: l3 :: tl) (vr z :: r) h := wp_step hc (mo_ast 3 n) ⟨z, r, rfl, k9⟩
theorem s_ast4 {C : mC} {cd : Nat → mT} {lim : Nat × Nat} {Q : mQ} {pc n : Nat} {tl r : List mV} {l0 l1 l2 l3 l4 : mV} {h : mH} {z : Nat} (hc : cd pc = o_ast 4 n) (hj : mjk l3 = l3) (k9 : wp C cd lim Q n (l0 :: l1 :: l2 :: l3 :: vr z :: tl) r h) : wp C cd lim Q pc (l0 :: l1 :: l2 :: l3 :: l4 :: tl) (vr z :: r) h := wp_step hc (mo_ast 4 n) ⟨z, r, rfl, by
  show wp C cd lim Q n (l0 :: l1 :: l2 :: mjk l3 :: vr z :: tl) r h
  rw [hj]; exact k9⟩
theorem s_ast4K {C : mC} {cd : Nat → mT} {lim : Nat × Nat} {Q : mQ} {pc n : Nat} {tl r : List mV} {l0 l1 l2 l4 : mV} {y : Int} {h : mH} {z : Nat} (hc : cd pc = o_ast 4 n) (k9 : wp C cd lim Q n (l0 :: l1 :: l2 :: vj :: vr z :: tl) r h) : wp C cd lim Q pc (l0 :: l1 :: l2 :: vl y :: l4 :: tl) (vr z :: r) h := wp_step hc (mo_ast 4 n) ⟨z, r, rfl, k9⟩
theorem s_ast5 {C : mC} {cd : Nat → mT} {lim : Nat × Nat} {Q : mQ} {pc n : Nat} {tl r : List mV} {l0 l1 l2 l3 l4 l5 : mV} {h : mH} {z : Nat} (hc : cd pc = o_ast 5 n) (hj : mjk l4 = l4) (k9 : wp C cd lim Q n (l0 :: l1 :: l2 :: l3 :: l4 :: vr z :: tl) r h) : wp C cd lim Q pc (l0 :: l1 :: l2 :: l3 :: l4 :: l5 :: tl) (vr z :: r) h := wp_step hc (mo_ast 5 n) ⟨z, r, rfl, by
  show wp C cd lim Q n (l0 :: l1 :: l2 :: l3 :: mjk l4 :: vr z :: tl) r h
  rw [hj]; exact k9⟩
theorem s_ast5K {C : mC} {cd : Nat → mT} {lim : Nat × Nat} {Q : mQ} {pc n : Nat} {tl r : List mV} {l0 l1 l2 l3 l5 : mV} {y : Int} {h : mH} {z : Nat} (hc : cd pc = o_ast 5 n) (k9 : wp C cd lim Q n (l0 :: l1 :: l2 :: l3 :: vj :: vr z :: tl) r h) : wp C cd lim Q pc (l0 :: l1 :: l2 :: l3 :: vl y :: l5 :: tl) (vr z :: r) h := wp_step hc (mo_ast 5 n) ⟨z, r, rfl, k9⟩
theorem s_ast6 {C : mC} {cd : Nat → mT} {lim : Nat × Nat} {Q : mQ} {pc n : Nat} {tl r : List mV} {l0 l1 l2 l3 l4 l5 l6 : mV} {h : mH} {z : Nat} (hc : cd pc = o_ast 6 n) (hj : mjk l5 = l5) (k9 : wp C cd lim Q n (l0 :: l1 :: l2 :: l3 :: l4 :: l5 :: vr z :: tl) r h) : wp C cd lim Q pc (l0 :: l1 :: l2 :: l3 :: l4 :: l5 :: l6 :: tl) (vr z :: r) h := wp_step hc (mo_ast 6 n) ⟨z, r, rfl, by
  show wp C cd lim Q n (l0 :: l1 :: l2 :: l3 :: l4 :: mjk l5 :: vr z :: tl) r h
  rw [hj]; exact k9⟩
theorem s_ast6K {C : mC} {cd : Nat → mT} {lim : Nat × Nat} {Q : mQ} {pc n : Nat} {tl r : List mV} {l0 l1 l2 l3 l4 l6 : mV} {y : Int} {h : mH} {z : Nat} (hc : cd pc = o_ast 6 n) (k9 : wp C cd lim Q n (l0 :: l1 :: l2 :: l3 :: l4 :: vj :: vr z :: tl) r h) : wp C cd lim Q pc (l0 :: l1 :: l2 :: l3 :: l4 :: vl y :: l6 :: tl) (vr z :: r) h := wp_step hc (mo_ast 6 n) ⟨z, r, rfl, k9⟩
theorem s_ast7 {C : mC} {cd : Nat → mT} {lim : Nat × Nat} {Q : mQ} {pc n : Nat} {tl r : List mV} {l0 l1 l2 l3 l4 l5 l6 l7 : mV} {h : mH} {z : Nat} (hc : cd pc = o_ast 7 n) (hj : mjk l6 = l6) (k9 : wp C cd lim Q n (l0 :: l1 :: l2 :: l3 :: l4 :: l5 :: l6 :: vr z :: tl) r h) : wp C cd lim Q pc (l0 :: l1 :: l2 :: l3 :: l4 :: l5 :: l6 :: l7 :: tl) (vr z :: r) h := wp_step hc (mo_ast 7 n) ⟨z, r, rfl, by
  show wp C cd lim Q n (l0 :: l1 :: l2 :: l3 :: l4 :: l5 :: mjk l6 :: vr z :: tl) r h
  rw [hj]; exact k9⟩
theorem s_ast7K {C : mC} {cd : Nat → mT} {lim : Nat × Nat} {Q : mQ} {pc n : Nat} {tl r : List mV} {l0 l1 l2 l3 l4 l5 l7 : mV} {y : Int} {h : mH} {z : Nat} (hc : cd pc = o_ast 7 n) (k9 : wp C cd lim Q n (l0 :: l1 :: l2 :: l3 :: l4 :: l5 :: vj :: vr z :: tl) r h) : wp C cd lim Q pc (l0 :: l1 :: l2 :: l3 :: l4 :: l5 :: vl y :: l7 :: tl) (vr z :: r) h := wp_step hc (mo_ast 7 n) ⟨z, r, rfl, k9⟩
theorem s_ast8 {C : mC} {cd : Nat → mT} {lim : Nat × Nat} {Q : mQ} {pc n : Nat} {tl r : List mV} {l0 l1 l2 l3 l4 l5 l6 l7 l8 : mV} {h : mH} {z : Nat} (hc : cd pc = o_ast 8 n) (hj : mjk l7 = l7) (k9 : wp C cd lim Q n (l0 :: l1 :: l2 :: l3 :: l4 :: l5 :: l6 :: l7 :: vr z :: tl) r h) : wp C cd lim Q pc (l0 :: l1 :: l2 :: l3 :: l4 :: l5 :: l6 :: l7 :: l8 :: tl) (vr z :: r) h := wp_step hc (mo_ast 8 n) ⟨z, r, rfl, by
  show wp C cd lim Q n (l0 :: l1 :: l2 :: l3 :: l4 :: l5 :: l6 :: mjk l7 :: vr z :: tl) r h
  rw [hj]; exact k9⟩
theorem s_ast8K {C : mC} {cd : Nat → mT} {lim : Nat × Nat} {Q : mQ} {pc n : Nat} {tl r : List mV} {l0 l1 l2 l3 l4 l5 l6 l8 : mV} {y : Int} {h : mH} {z : Nat} (hc : cd pc = o_ast 8 n) (k9 : wp C cd lim Q n (l0 :: l1 :: l2 :: l3 :: l4 :: l5 :: l6 :: vj :: vr z :: tl) r h) : wp C cd lim Q pc (l0 :: l1 :: l2 :: l3 :: l4 :: l5 :: l6 :: vl y :: l8 :: tl) (vr z :: r) h := wp_step hc (mo_ast 8 n) ⟨z, r, rfl, k9⟩
theorem s_ast9 {C : mC} {cd : Nat → mT} {lim : Nat × Nat} {Q : mQ} {pc n : Nat} {tl r : List mV} {l0 l1 l2 l3 l4 l5 l6 l7 l8 l9 : mV} {h : mH} {z : Nat} (hc : cd pc = o_ast 9 n) (hj : mjk l8 = l8) (k9 : wp C cd lim Q n (l0 :: l1 :: l2 :: l3 :: l4 :: l5 :: l6 :: l7 :: l8 :: vr z :: tl) r h) : wp C cd lim Q pc (l0 :: l1 :: l2 :: l3 :: l4 :: l5 :: l6 :: l7 :: l8 :: l9 :: tl) (vr z :: r) h := wp_step hc (mo_ast 9 n) ⟨z, r, rfl, by
  show wp C cd lim Q n (l0 :: l1 :: l2 :: l3 :: l4 :: l5 :: l6 :: l7 :: mjk l8 :: vr z :: tl) r h
  rw [hj]; exact k9⟩
theorem s_ast9K {C : mC} {cd : Nat → mT} {lim : Nat × Nat} {Q : mQ} {pc n : Nat} {tl r : List mV} {l0 l1 l2 l3 l4 l5 l6 l7 l9 : mV} {y : Int} {h : mH} {z : Nat} (hc : cd pc = o_ast 9 n) (k9 : wp C cd lim Q n (l0 :: l1 :: l2 :: l3 :: l4 :: l5 :: l6 :: l7 :: vj :: vr z :: tl) r h) : wp C cd lim Q pc (l0 :: l1 :: l2 :: l3 :: l4 :: l5 :: l6 :: l7 :: vl y :: l9 :: tl) (vr z :: r) h := wp_step hc (mo_ast 9 n) ⟨z, r, rfl, k9⟩
theorem s_ast10 {C : mC} {cd : Nat → mT} {lim : Nat × Nat} {Q : mQ} {pc n : Nat} {tl r : List mV} {l0 l1 l2 l3 l4 l5 l6 l7 l8 l9 l10 : mV} {h : mH} {z : Nat} (hc : cd pc = o_ast 10 n) (hj : mjk l9 = l9) (k9 : wp C cd lim Q n (l0 :: l1 :: l2 :: l3 :: l4 :: l5 :: l6 :: l7 :: l8 :: l9 :: vr z :: tl) r h) : wp C cd lim Q pc (l0 :: l1 :: l2 :: l3 :: l4 :: l5 :: l6 :: l7 :: l8 :: l9 :: l10 :: tl) (vr z :: r) h := wp_step hc (mo_ast 10 n) ⟨z, r, rfl, by
  show wp C cd lim Q n (l0 :: l1 :: l2 :: l3 :: l4 :: l5 :: l6 :: l7 :: l8 :: mjk l9 :: vr z :: tl) r h
  rw [hj]; exact k9⟩
theorem s_ast10K {C : mC} {cd : Nat → mT} {lim : Nat × Nat} {Q : mQ} {pc n : Nat} {tl r : List mV} {l0 l1 l2 l3 l4 l5 l6 l7 l8 l10 : mV} {y : Int} {h : mH} {z : Nat} (hc : cd pc = o_ast 10 n) (k9 : wp C cd lim Q n (l0 :: l1 :: l2 :: l3 :: l4 :: l5 :: l6 :: l7 :: l8 :: vj :: vr z :: tl) r h) : wp C cd lim Q pc (l0 :: l1 :: l2 :: l3 :: l4 :: l5 :: l6 :: l7 :: l8 :: vl y :: l10 :: tl) (vr z :: r) h := wp_step hc (mo_ast 10 n) ⟨z, r, rfl, k9⟩
theorem s_ast11 {C : mC} {cd : Nat → mT} {lim : Nat × Nat} {Q : mQ} {pc n : Nat} {tl r : List mV} {l0 l1 l2 l3 l4 l5 l6 l7 l8 l9 l10 l11 : mV} {h : mH} {z : Nat} (hc : cd pc = o_ast 11 n) (hj : mjk l10 = l10) (k9 : wp C cd lim Q n (l0 :: l1 :: l2 :: l3 :: l4 :: l5 :: l6 :: l7 :: l8 :: l9 :: l10 :: vr z :: tl) r h) : wp C cd lim Q pc (l0 :: l1 :: l2 :: l3 :: l4 :: l5 :: l6 :: l7 :: l8 :: l9 :: l10 :: l11 :: tl) (vr z :: r) h := wp_step hc (mo_ast 11 n) ⟨z, r, rfl, by
  show wp C cd lim Q n (l0 :: l1 :: l2 :: l3 :: l4 :: l5 :: l6 :: l7 :: l8 :: l9 :: mjk l10 :: vr z :: tl) r h
  rw [hj]; exact k9⟩
theorem s_ast11K {C : mC} {cd : Nat → mT} {lim : Nat × Nat} {Q : mQ} {pc n : Nat} {tl r : List mV} {l0 l1 l2 l3 l4 l5 l6 l7 l8 l9 l11 : mV} {y : Int} {h : mH} {z : Nat} (hc : cd pc = o_ast 11 n) (k9 : wp C cd lim Q n (l0 :: l1 :: l2 :: l3 :: l4 :: l5 :: l6 :: l7 :: l8 :: l9 :: vj :: vr z :: tl) r h) : wp C cd lim Q pc (l0 :: l1 :: l2 :: l3 :: l4 :: l5 :: l6 :: l7 :: l8 :: l9 :: vl y :: l11 :: tl) (vr z :: r) h := wp_step hc (mo_ast 11 n) ⟨z, r, rfl, k9⟩
theorem s_ast12 {C : mC} {cd : Nat → mT} {lim : Nat × Nat} {Q : mQ} {pc n : Nat} {tl r : List mV} {l0 l1 l2 l3 l4 l5 l6 l7 l8 l9 l10 l11 l12 : mV} {h : mH} {z : Nat} (hc : cd pc = o_ast 12 n) (hj : mjk l11 = l11) (k9 : wp C cd lim Q n (l0 :: l1 :: l2 :: l3 :: l4 :: l5 :: l6 :: l7 :: l8 :: l9 :: l10 :: l11 :: vr z :: tl) r h) : wp C cd lim Q pc (l0 :: l1 :: l2 :: l3 :: l4 :: l5 :: l6 :: l7 :: l8 :: l9 :: l10 :: l11 :: l12 :: tl) (vr z :: r) h := wp_step hc (mo_ast 12 n) ⟨z, r, rfl, by
  show wp C cd lim Q n (l0 :: l1 :: l2 :: l3 :: l4 :: l5 :: l6 :: l7 :: l8 :: l9 :: l10 :: mjk l11 :: vr z :: tl) r h
  rw [hj]; exact k9⟩
theorem s_ast12K {C : mC} {cd : Nat → mT} {lim : Nat × Nat} {Q : mQ} {pc n : Nat} {tl r : List mV} {l0 l1 l2 l3 l4 l5 l6 l7 l8 l9 l10 l12 : mV} {y : Int} {h : mH} {z : Nat} (hc : cd pc = o_ast 12 n) (k9 : wp C cd lim Q n (l0 :: l1 :: l2 :: l3 :: l4 :: l5 :: l6 :: l7 :: l8 :: l9 :: l10 :: vj :: vr z :: tl) r h) : wp C cd lim Q pc (l0 :: l1 :: l2 :: l3 :: l4 :: l5 :: l6 :: l7 :: l8 :: l9 :: l10 :: vl y :: l12 :: tl) (vr z :: r) h := wp_step hc (mo_ast 12 n) ⟨z, r, rfl, k9⟩
theorem s_ast13 {C : mC} {cd : Nat → mT} {lim : Nat × Nat} {Q : mQ} {pc n : Nat} {tl r : List mV} {l0 l1 l2 l3 l4 l5 l6 l7 l8 l9 l10 l11 l12 l13 : mV} {h : mH} {z : Nat} (hc : cd pc = o_ast 13 n) (hj : mjk l12 = l12) (k9 : wp C cd lim Q n (l0 :: l1 :: l2 :: l3 :: l4 :: l5 :: l6 :: l7 :: l8 :: l9 :: l10 :: l11 :: l12 :: vr z :: tl) r h) : wp C cd lim Q pc (l0 :: l1 :: l2 :: l3 :: l4 :: l5 :: l6 :: l7 :: l8 :: l9 :: l10 :: l11 :: l12 :: l13 :: tl) (vr z :: r) h := wp_step hc (mo_ast 13 n) ⟨z, r, rfl, by
  show wp C cd lim Q n (l0 :: l1 :: l2 :: l3 :: l4 :: l5 :: l6 :: l7 :: l8 :: l9 :: l10 :: l11 :: mjk l12 :: vr z :: tl) r h
  rw [hj]; exact k9⟩
theorem s_ast13K {C : mC} {cd : Nat → mT} {lim : Nat × Nat} {Q : mQ} {pc n : Nat} {tl r : List mV} {l0 l1 l2 l3 l4 l5 l6 l7 l8 l9 l10 l11 l13 : mV} {y : Int} {h : mH} {z : Nat} (hc : cd pc = o_ast 13 n) (k9 : wp C cd lim Q n (l0 :: l1 :: l2 :: l3 :: l4 :: l5 :: l6 :: l7 :: l8 :: l9 :: l10 :: l11 :: vj :: vr z :: tl) r h) : wp C cd lim Q pc (l0 :: l1 :: l2 :: l3 :: l4 :: l5 :: l6 :: l7 :: l8 :: l9 :: l10 :: l11 :: vl y :: l13 :: tl) (vr z :: r) h := wp_step hc (mo_ast 13 n) ⟨z, r, rfl, k9⟩
theorem s_ast14 {C : mC} {cd : Nat → mT} {lim : Nat × Nat} {Q : mQ} {pc n : Nat} {tl r : List mV} {l0 l1 l2 l3 l4 l5 l6 l7 l8 l9 l10 l11 l12 l13 l14 : mV} {h : mH} {z : Nat} (hc : cd pc = o_ast 14 n) (hj : mjk l13 = l13) (k9 : wp C cd lim Q n (l0 :: l1 :: l2 :: l3 :: l4 :: l5 :: l6 :: l7 :: l8 :: l9 :: l10 :: l11 :: l12 :: l13 :: vr z :: tl) r h) : wp C cd lim Q pc (l0 :: l1 :: l2 :: l3 :: l4 :: l5 :: l6 :: l7 :: l8 :: l9 :: l10 :: l11 :: l12 :: l13 :: l14 :: tl) (vr z :: r) h := wp_step hc (mo_ast 14 n) ⟨z, r, rfl, by
  show wp C cd lim Q n (l0 :: l1 :: l2 :: l3 :: l4 :: l5 :: l6 :: l7 :: l8 :: l9 :: l10 :: l11 :: l12 :: mjk l13 :: vr z :: tl) r h
  rw [hj]; exact k9⟩
theorem s_ast14K {C : mC} {cd : Nat → mT} {lim : Nat × Nat} {Q : mQ} {pc n : Nat} {tl r : List mV} {l0 l1 l2 l3 l4 l5 l6 l7 l8 l9 l10 l11 l12 l14 : mV} {y : Int} {h : mH} {z : Nat} (hc : cd pc = o_ast 14 n) (k9 : wp C cd lim Q n (l0 :: l1 :: l2 :: l3 :: l4 :: l5 :: l6 :: l7 :: l8 :: l9 :: l10 :: l11 :: l12 :: vj :: vr z :: tl) r h) : wp C cd lim Q pc (l0 :: l1 :: l2 :: l3 :: l4 :: l5 :: l6 :: l7 :: l8 :: l9 :: l10 :: l11 :: l12 :: vl y :: l14 :: tl) (vr z :: r) h := wp_step hc (mo_ast 14 n) ⟨z, r, rfl, k9⟩
def o_lst (k n : Nat) : mT := fun _ _ _ K ls st h => ∃ (z : Int) (r : List mV), st = vl z :: r ∧ K n (stw ls k (vl z)) r h
theorem mo_lst (k n : Nat) : mMono (o_lst k n) := by
  intro C lim Q K K' hK ls st h H
  obtain ⟨z, r, h0, k9⟩ := H
  exact ⟨z, r, h0, hK _ _ _ _ k9⟩
theorem s_lst0 {C : mC} {cd : Nat → mT} {lim : Nat × Nat} {Q : mQ} {pc n : Nat} {tl r : List mV} {l0 l1 : mV} {h : mH} {z : Int} (hc : cd pc = o_lst 0 n)  (k9 : wp C cd lim Q n (vl z :: vj :: tl) r h) : wp C cd lim Q pc (l0 :: l1 :: tl) (vl z :: r) h := wp_step hc (mo_lst 0 n) ⟨z, r, rfl, k9⟩
theorem s_lst1 {C : mC} {cd : Nat → mT} {lim : Nat × Nat} {Q : mQ} {pc n : Nat} {tl r : List mV} {l0 l1 l2 : mV} {h : mH} {z : Int} (hc : cd pc = o_lst 1 n) (hj : mjk l0 = l0) (k9 : wp C cd lim Q n (l0 :: vl z :: vj :: tl) r h) : wp C cd lim Q pc (l0 :: l1 :: l2 :: tl) (vl z :: r) h := wp_step hc (mo_lst 1 n) ⟨z, r, rfl, by
  show wp C cd lim Q n (mjk l0 :: vl z :: vj :: tl) r h
  rw [hj]; exact k9⟩
theorem s_lst2 {C : mC} {cd : Nat → mT} {lim : Nat × Nat} {Q : mQ} {pc n : Nat} {tl r : List mV} {l0 l1 l2 l3 : mV} {h : mH} {z : Int} (hc : cd pc = o_lst 2 n) (hj : mjk l1 = l1) (k9 : wp C cd lim Q n (l0 :: l1 :: vl z :: vj :: tl) r h) : wp C cd lim Q pc (l0 :: l1 :: l2 :: l3 :: tl) (vl z :: r) h := wp_step hc (mo_lst 2 n) ⟨z, r, rfl, by
  show wp C cd lim Q n (l0 :: mjk l1 :: vl z :: vj :: tl) r h
  rw [hj]; exact k9⟩
theorem s_lst3 {C : mC} {cd : Nat → mT} {lim : Nat × Nat} {Q : mQ} {pc n : Nat} {tl r : List mV} {l0 l1 l2 l3 l4 : mV} {h : mH} {z : Int} (hc : cd pc = o_lst 3 n) (hj : mjk l2 = l2) (k9 : wp C cd lim Q n (l0 :: l1 :: l2 :: vl z :: vj :: tl) r h) : wp C cd lim Q pc (l0 :: l1 :: l2 :: l3 :: l4 :: tl) (vl z :: r) h := wp_step hc (mo_lst 3 n) ⟨z, r, rfl, by
  show wp C cd lim Q n (l0 :: l1 :: mjk l2 :: vl z :: vj :: tl) r h
  rw [hj]; exact k9⟩
theorem s_lst4 {C : mC} {cd : Nat → mT} {lim : Nat × Nat} {Q : mQ} {pc n : Nat} {tl r : List mV} {l0 l1 l2 l3 l4 l5 : mV} {h : mH} {z : Int} (hc : cd pc = o_lst 4 n) (hj : mjk l3 = l3) (k9 : wp C cd lim Q n (l0 :: l1 :: l2 :: l3 :: vl z :: vj :: tl) r h) : wp C cd lim Q pc (l0 :: l1 :: l2 :: l3 :: l4 :: l5 :: tl) (vl z :: r) h := wp_step hc (mo_lst 4 n) ⟨z, r, rfl, by
  show wp C cd lim Q n (l0 :: l1 :: l2 :: mjk l3 :: vl z :: vj :: tl) r h
  rw [hj]; exact k9⟩
theorem s_lst5 {C : mC} {cd : Nat → mT} {lim : Nat × Nat} {Q : mQ} {pc n : Nat} {tl r : List mV} {l0 l1 l2 l3 l4 l5 l6 : mV} {h : mH} {z : Int} (hc : cd pc = o_lst 5 n) (hj : mjk l4 = l4) (k9 : wp C cd lim Q n (l0 :: l1 :: l2 :: l3 :: l4 :: vl z :: vj :: tl) r h) : wp C cd lim Q pc (l0 :: l1 :: l2 :: l3 :: l4 :: l5 :: l6 :: tl) (vl z :: r) h := wp_step hc (mo_lst 5 n) ⟨z, r, rfl, by
  show wp C cd lim Q n (l0 :: l1 :: l2 :: l3 :: mjk l4 :: vl z :: vj :: tl) r h
  rw [hj]; exact k9⟩
theorem s_lst6 {C : mC} {cd : Nat → mT} {lim : Nat × Nat} {Q : mQ} {pc n : Nat} {tl r : List mV} {l0 l1 l2 l3 l4 l5 l6 l7 : mV} {h : mH} {z : Int} (hc : cd pc = o_lst 6 n) (hj : mjk l5 = l5) (k9 : wp C cd lim Q n (l0 :: l1 :: l2 :: l3 :: l4 :: l5 :: vl z :: vj :: tl) r h) : wp C cd lim Q pc (l0 :: l1 :: l2 :: l3 :: l4 :: l5 :: l6 :: l7 :: tl) (vl z :: r) h := wp_step hc (mo_lst 6 n) ⟨z, r, rfl, by
  show wp C cd lim Q n (l0 :: l1 :: l2 :: l3 :: l4 :: mjk l5 :: vl z :: vj :: tl) r h
  rw [hj]; exact k9⟩
theorem s_lst7 {C : mC} {cd : Nat → mT} {lim : Nat × Nat} {Q : mQ} {pc n : Nat} {tl r : List mV} {l0 l1 l2 l3 l4 l5 l6 l7 l8 : mV} {h : mH} {z : Int} (hc : cd pc = o_lst 7 n) (hj : mjk l6 = l6) (k9 : wp C cd lim Q n (l0 :: l1 :: l2 :: l3 :: l4 :: l5 :: l6 :: vl z :: vj :: tl) r h) : wp C cd lim Q pc (l0 :: l1 :: l2 :: l3 :: l4 :: l5 :: l6 :: l7 :: l8 :: tl) (vl z :: r) h := wp_step hc (mo_lst 7 n) ⟨z, r, rfl, by
  show wp C cd lim Q n (l0 :: l1 :: l2 :: l3 :: l4 :: l5 :: mjk l6 :: vl z :: vj :: tl) r h
  rw [hj]; exact k9⟩
theorem s_lst8 {C : mC} {cd : Nat → mT} {lim : Nat × Nat} {Q : mQ} {pc n : Nat} {tl r : List mV} {l0 l1 l2 l3 l4 l5 l6 l7 l8 l9 : mV} {h : mH} {z : Int} (hc : cd pc = o_lst 8 n) (hj : mjk l7 = l7) (k9 : wp C cd lim Q n (l0 :: l1 :: l2 :: l3 :: l4 :: l5 :: l6 :: l7 :: vl z :: vj :: tl) r h) : wp C cd lim Q pc (l0 :: l1 :: l2 :: l3 :: l4 :: l5 :: l6 :: l7 :: l8 :: l9 :: tl) (vl z :: r) h := wp_step hc (mo_lst 8 n) ⟨z, r, rfl, by
  show wp C cd lim Q n (l0 :: l1 :: l2 :: l3 :: l4 :: l5 :: l6 :: mjk l7 :: vl z :: vj :: tl) r h
  rw [hj]; exact k9⟩
theorem s_lst9 {C : mC} {cd : Nat → mT} {lim : Nat × Nat} {Q : mQ} {pc n : Nat} {tl r : List mV} {l0 l1 l2 l3 l4 l5 l6 l7 l8 l9 l10 : mV} {h : mH} {z : Int} (hc : cd pc = o_lst 9 n) (hj : mjk l8 = l8) (k9 : wp C cd lim Q n (l0 :: l1 :: l2 :: l3 :: l4 :: l5 :: l6 :: l7 :: l8 :: vl z :: vj :: tl) r h) : wp C cd lim Q pc (l0 :: l1 :: l2 :: l3 :: l4 :: l5 :: l6 :: l7 :: l8 :: l9 :: l10 :: tl) (vl z :: r) h := wp_step hc (mo_lst 9 n) ⟨z, r, rfl, by
  show wp C cd lim Q n (l0 :: l1 :: l2 :: l3 :: l4 :: l5 :: l6 :: l7 :: mjk l8 :: vl z :: vj :: tl) r h
  rw [hj]; exact k9⟩
theorem s_lst10 {C : mC} {cd : Nat → mT} {lim : Nat × Nat} {Q : mQ} {pc n : Nat} {tl r : List mV} {l0 l1 l2 l3 l4 l5 l6 l7 l8 l9 l10 l11 : mV} {h : mH} {z : Int} (hc : cd pc = o_lst 10 n) (hj : mjk l9 = l9) (k9 : wp C cd lim Q n (l0 :: l1 :: l2 :: l3 :: l4 :: l5 :: l6 :: l7 :: l8 :: l9 :: vl z :: vj :: tl) r h) : wp C cd lim Q pc (l0 :: l1 :: l2 :: l3 :: l4 :: l5 :: l6 :: l7 :: l8 :: l9 :: l10 :: l11 :: tl) (vl z :: r) h := wp_step hc (mo_lst 10 n) ⟨z, r, rfl, by
  show wp C cd lim Q n (l0 :: l1 :: l2 :: l3 :: l4 :: l5 :: l6 :: l7 :: l8 :: mjk l9 :: vl z :: vj :: tl) r h
  rw [hj]; exact k9⟩
theorem s_lst11 {C : mC} {cd : Nat → mT} {lim : Nat × Nat} {Q : mQ} {pc n : Nat} {tl r : List mV} {l0 l1 l2 l3 l4 l5 l6 l7 l8 l9 l10 l11 l12 : mV} {h : mH} {z : Int} (hc : cd pc = o_lst 11 n) (hj : mjk l10 = l10) (k9 : wp C cd lim Q n (l0 :: l1 :: l2 :: l3 :: l4 :: l5 :: l6 :: l7 :: l8 :: l9 :: l10 :: vl z :: vj :: tl) r h) : wp C cd lim Q pc (l0 :: l1 :: l2 :: l3 :: l4 :: l5 :: l6 :: l7 :: l8 :: l9 :: l10 :: l11 :: l12 :: tl) (vl z :: r) h := wp_step hc (mo_lst 11 n) ⟨z, r, rfl, by
  show wp C cd lim Q n (l0 :: l1 :: l2 :: l3 :: l4 :: l5 :: l6 :: l7 :: l8 :: l9 :: mjk l10 :: vl z :: vj :: tl) r h
  rw [hj]; exact k9⟩
theorem s_lst12 {C : mC} {cd : Nat → mT} {lim : Nat × Nat} {Q : mQ} {pc n : Nat} {tl r : List mV} {l0 l1 l2 l3 l4 l5 l6 l7 l8 l9 l10 l11 l12 l13 : mV} {h : mH} {z : Int} (hc : cd pc = o_lst 12 n) (hj : mjk l11 = l11) (k9 : wp C cd lim Q n (l0 :: l1 :: l2 :: l3 :: l4 :: l5 :: l6 :: l7 :: l8 :: l9 :: l10 :: l11 :: vl z :: vj :: tl) r h) : wp C cd lim Q pc (l0 :: l1 :: l2 :: l3 :: l4 :: l5 :: l6 :: l7 :: l8 :: l9 :: l10 :: l11 :: l12 :: l13 :: tl) (vl z :: r) h := wp_step hc (mo_lst 12 n) ⟨z, r, rfl, by
  show wp C cd lim Q n (l0 :: l1 :: l2 :: l3 :: l4 :: l5 :: l6 :: l7 :: l8 :: l9 :: l10 :: mjk l11 :: vl z :: vj :: tl) r h
  rw [hj]; exact k9⟩
theorem s_lst13 {C : mC} {cd : Nat → mT} {lim : Nat × Nat} {Q : mQ} {pc n : Nat} {tl r : List mV} {l0 l1 l2 l3 l4 l5 l6 l7 l8 l9 l10 l11 l12 l13 l14 : mV} {h : mH} {z : Int} (hc : cd pc = o_lst 13 n) (hj : mjk l12 = l12) (k9 : wp C cd lim Q n (l0 :: l1 :: l2 :: l3 :: l4 :: l5 :: l6 :: l7 :: l8 :: l9 :: l10 :: l11 :: l12 :: vl z :: vj :: tl) r h) : wp C cd lim Q pc (l0 :: l1 :: l2 :: l3 :: l4 :: l5 :: l6 :: l7 :: l8 :: l9 :: l10 :: l11 :: l12 :: l13 :: l14 :: tl) (vl z :: r) h := wp_step hc (mo_lst 13 n) ⟨z, r, rfl, by
  show wp C cd lim Q n (l0 :: l1 :: l2 :: l3 :: l4 :: l5 :: l6 :: l7 :: l8 :: l9 :: l10 :: l11 :: mjk l12 :: vl z :: vj :: tl) r h
  rw [hj]; exact k9⟩
theorem s_lst14 {C : mC} {cd : Nat → mT} {lim : Nat × Nat} {Q : mQ} {pc n : Nat} {tl r : List mV} {l0 l1 l2 l3 l4 l5 l6 l7 l8 l9 l10 l11 l12 l13 l14 l15 : mV} {h : mH} {z : Int} (hc : cd pc = o_lst 14 n) (hj : mjk l13 = l13) (k9 : wp C cd lim Q n (l0 :: l1 :: l2 :: l3 :: l4 :: l5 :: l6 :: l7 :: l8 :: l9 :: l10 :: l11 :: l12 :: l13 :: vl z :: vj :: tl) r h) : wp C cd lim Q pc (l0 :: l1 :: l2 :: l3 :: l4 :: l5 :: l6 :: l7 :: l8 :: l9 :: l10 :: l11 :: l12 :: l13 :: l14 :: l15 :: tl) (vl z :: r) h := wp_step hc (mo_lst 14 n) ⟨z, r, rfl, by
  show wp C cd lim Q n (l0 :: l1 :: l2 :: l3 :: l4 :: l5 :: l6 :: l7 :: l8 :: l9 :: l10 :: l11 :: l12 :: mjk l13 :: vl z :: vj :: tl) r h
  rw [hj]; exact k9⟩
def o_iinc (k : Nat) (d : Int) (n : Nat) : mT := fun _ _ _ K ls st h => ∃ z : Int, ls[k]? = some (vi z) ∧ K n (stv ls k (vi (z + d))) st h
theorem mo_iinc (k : Nat) (d : Int) (n : Nat) : mMono (o_iinc k d n) := by
  intro C lim Q K K' hK ls st h H
  obtain ⟨z, h0, k9⟩ := H
  exact ⟨z, h0, hK _ _ _ _ k9⟩
theorem s_iinc0 {C : mC} {cd : Nat → mT} {lim : Nat × Nat} {Q : mQ} {pc n : Nat} {d : Int} {tl r : List mV}  {h : mH} {z : Int} (hc : cd pc = o_iinc 0 d n)  (k9 : wp C cd lim Q n (vi (z + d) :: tl) r h) : wp C cd lim Q pc (vi z :: tl) r h := wp_step hc (mo_iinc 0 d n) ⟨z, rfl, k9⟩
theorem s_iinc1 {C : mC} {cd : Nat → mT} {lim : Nat × Nat} {Q : mQ} {pc n : Nat} {d : Int} {tl r : List mV} {l0 : mV} {h : mH} {z : Int} (hc : cd pc = o_iinc 1 d n) (hj : mjk l0 = l0) (k9 : wp C cd lim Q n (l0 :: vi (z + d) :: tl) r h) : wp C cd lim Q pc (l0 :: vi z :: tl) r h := wp_step hc (mo_iinc 1 d n) ⟨z, rfl, by
  show wp C cd lim Q n (mjk l0 :: vi (z + d) :: tl) r h
  rw [hj]; exact k9⟩
theorem s_iinc2 {C : mC} {cd : Nat → mT} {lim : Nat × Nat} {Q : mQ} {pc n : Nat} {d : Int} {tl r : List mV} {l0 l1 : mV} {h : mH} {z : Int} (hc : cd pc = o_iinc 2 d n) (hj : mjk l1 = l1) (k9 : wp C cd lim Q n (l0 :: l1 :: vi (z + d) :: tl) r h) : wp C cd lim Q pc (l0 :: l1 :: vi z :: tl) r h := wp_step hc (mo_iinc 2 d n) ⟨z, rfl, by
  show wp C cd lim Q n (l0 :: mjk l1 :: vi (z + d) :: tl) r h
  rw [hj]; exact k9⟩
theorem s_iinc3 {C : mC} {cd : Nat → mT} {lim : Nat × Nat} {Q : mQ} {pc n : Nat} {d : Int} {tl r : List mV} {l0 l1 l2 : mV} {h : mH} {z : Int} (hc : cd pc = o_iinc 3 d n) (hj : mjk l2 = l2) (k9 : wp C cd lim Q n (l0 :: l1 :: l2 :: vi (z + d) :: tl) r h) : wp C cd lim Q pc (l0 :: l1 :: l2 :: vi z :: tl) r h := wp_step hc (mo_iinc 3 d n) ⟨z, rfl, by
  show wp C cd lim Q n (l0 :: l1 :: mjk l2 :: vi (z + d) :: tl) r h
  rw [hj]; exact k9⟩
theorem s_iinc4 {C : mC} {cd : Nat → mT} {lim : Nat × Nat} {Q : mQ} {pc n : Nat} {d : Int} {tl r : List mV} {l0 l1 l2 l3 : mV} {h : mH} {z : Int} (hc : cd pc = o_iinc 4 d n) (hj : mjk l3 = l3) (k9 : wp C cd lim Q n (l0 :: l1 :: l2 :: l3 :: vi (z + d) :: tl) r h) : wp C cd lim Q pc (l0 :: l1 :: l2 :: l3 :: vi z :: tl) r h := wp_step hc (mo_iinc 4 d n) ⟨z, rfl, by
  show wp C cd lim Q n (l0 :: l1 :: l2 :: mjk l3 :: vi (z + d) :: tl) r h
  rw [hj]; exact k9⟩
theorem s_iinc5 {C : mC} {cd : Nat → mT} {lim : Nat × Nat} {Q : mQ} {pc n : Nat} {d : Int} {tl r : List mV} {l0 l1 l2 l3 l4 : mV} {h : mH} {z : Int} (hc : cd pc = o_iinc 5 d n) (hj : mjk l4 = l4) (k9 : wp C cd lim Q n (l0 :: l1 :: l2 :: l3 :: l4 :: vi (z + d) :: tl) r h) : wp C cd lim Q pc (l0 :: l1 :: l2 :: l3 :: l4 :: vi z :: tl) r h := wp_step hc (mo_iinc 5 d n) ⟨z, rfl, by
  show wp C cd lim Q n (l0 :: l1 :: l2 :: l3 :: mjk l4 :: vi (z + d) :: tl) r h
  rw [hj]; exact k9⟩
theorem s_iinc6 {C : mC} {cd : Nat → mT} {lim : Nat × Nat} {Q : mQ} {pc n : Nat} {d : Int} {tl r : List mV} {l0 l1 l2 l3 l4 l5 : mV} {h : mH} {z : Int} (hc : cd pc = o_iinc 6 d n) (hj : mjk l5 = l5) (k9 : wp C cd lim Q n (l0 :: l1 :: l2 :: l3 :: l4 :: l5 :: vi (z + d) :: tl) r h) : wp C cd lim Q pc (l0 :: l1 :: l2 :: l3 :: l4 :: l5 :: vi z :: tl) r h := wp_step hc (mo_iinc 6 d n) ⟨z, rfl, by
  show wp C cd lim Q n (l0 :: l1 :: l2 :: l3 :: l4 :: mjk l5 :: vi (z + d) :: tl) r h
  rw [hj]; exact k9⟩
theorem s_iinc7 {C : mC} {cd : Nat → mT} {lim : Nat × Nat} {Q : mQ} {pc n : Nat} {d : Int} {tl r : List mV} {l0 l1 l2 l3 l4 l5 l6 : mV} {h : mH} {z : Int} (hc : cd pc = o_iinc 7 d n) (hj : mjk l6 = l6) (k9 : wp C cd lim Q n (l0 :: l1 :: l2 :: l3 :: l4 :: l5 :: l6 :: vi (z + d) :: tl) r h) : wp C cd lim Q pc (l0 :: l1 :: l2 :: l3 :: l4 :: l5 :: l6 :: vi z :: tl) r h := wp_step hc (mo_iinc 7 d n) ⟨z, rfl, by
  show wp C cd lim Q n (l0 :: l1 :: l2 :: l3 :: l4 :: l5 :: mjk l6 :: vi (z + d) :: tl) r h
  rw [hj]; exact k9⟩
theorem s_iinc8 {C : mC} {cd : Nat → mT} {lim : Nat × Nat} {Q : mQ} {pc n : Nat} {d : Int} {tl r : List mV} {l0 l1 l2 l3 l4 l5 l6 l7 : mV} {h : mH} {z : Int} (hc : cd pc = o_iinc 8 d n) (hj : mjk l7 = l7) (k9 : wp C cd lim Q n (l0 :: l1 :: l2 :: l3 :: l4 :: l5 :: l6 :: l7 :: vi (z + d) :: tl) r h) : wp C cd lim Q pc (l0 :: l1 :: l2 :: l3 :: l4 :: l5 :: l6 :: l7 :: vi z :: tl) r h := wp_step hc (mo_iinc 8 d n) ⟨z, rfl, by
  show wp C cd lim Q n (l0 :: l1 :: l2 :: l3 :: l4 :: l5 :: l6 :: mjk l7 :: vi (z + d) :: tl) r h
  rw [hj]; exact k9⟩
theorem s_iinc9 {C : mC} {cd : Nat → mT} {lim : Nat × Nat} {Q : mQ} {pc n : Nat} {d : Int} {tl r : List mV} {l0 l1 l2 l3 l4 l5 l6 l7 l8 : mV} {h : mH} {z : Int} (hc : cd pc = o_iinc 9 d n) (hj : mjk l8 = l8) (k9 : wp C cd lim Q n (l0 :: l1 :: l2 :: l3 :: l4 :: l5 :: l6 :: l7 :: l8 :: vi (z + d) :: tl) r h) : wp C cd lim Q pc (l0 :: l1 :: l2 :: l3 :: l4 :: l5 :: l6 :: l7 :: l8 :: vi z :: tl) r h := wp_step hc (mo_iinc 9 d n) ⟨z, rfl, by
  show wp C cd lim Q n (l0 :: l1 :: l2 :: l3 :: l4 :: l5 :: l6 :: l7 :: mjk l8 :: vi (z + d) :: tl) r h
  rw [hj]; exact k9⟩
theorem s_iinc10 {C : mC} {cd : Nat → mT} {lim : Nat × Nat} {Q : mQ} {pc n : Nat} {d : Int} {tl r : List mV} {l0 l1 l2 l3 l4 l5 l6 l7 l8 l9 : mV} {h : mH} {z : Int} (hc : cd pc = o_iinc 10 d n) (hj : mjk l9 = l9) (k9 : wp C cd lim Q n (l0 :: l1 :: l2 :: l3 :: l4 :: l5 :: l6 :: l7 :: l8 :: l9 :: vi (z + d) :: tl) r h) : wp C cd lim Q pc (l0 :: l1 :: l2 :: l3 :: l4 :: l5 :: l6 :: l7 :: l8 :: l9 :: vi z :: tl) r h := wp_step hc (mo_iinc 10 d n) ⟨z, rfl, by
  show wp C cd lim Q n (l0 :: l1 :: l2 :: l3 :: l4 :: l5 :: l6 :: l7 :: l8 :: mjk l9 :: vi (z + d) :: tl) r h
  rw [hj]; exact k9⟩
theorem s_iinc11 {C : mC} {cd : Nat → mT} {lim : Nat × Nat} {Q : mQ} {pc n : Nat} {d : Int} {tl r : List mV} {l0 l1 l2 l3 l4 l5 l6 l7 l8 l9 l10 : mV} {h : mH} {z : Int} (hc : cd pc = o_iinc 11 d n) (hj : mjk l10 = l10) (k9 : wp C cd lim Q n (l0 :: l1 :: l2 :: l3 :: l4 :: l5 :: l6 :: l7 :: l8 :: l9 :: l10 :: vi (z + d) :: tl) r h) : wp C cd lim Q pc (l0 :: l1 :: l2 :: l3 :: l4 :: l5 :: l6 :: l7 :: l8 :: l9 :: l10 :: vi z :: tl) r h := wp_step hc (mo_iinc 11 d n) ⟨z, rfl, by
  show wp C cd lim Q n (l0 :: l1 :: l2 :: l3 :: l4 :: l5 :: l6 :: l7 :: l8 :: l9 :: mjk l10 :: vi (z + d) :: tl) r h
  rw [hj]; exact k9⟩
theorem s_iinc12 {C : mC} {cd : Nat → mT} {lim : Nat × Nat} {Q : mQ} {pc n : Nat} {d : Int} {tl r : List mV} {l0 l1 l2 l3 l4 l5 l6 l7 l8 l9 l10 l11 : mV} {h : mH} {z : Int} (hc : cd pc = o_iinc 12 d n) (hj : mjk l11 = l11) (k9 : wp C cd lim Q n (l0 :: l1 :: l2 :: l3 :: l4 :: l5 :: l6 :: l7 :: l8 :: l9 :: l10 :: l11 :: vi (z + d) :: tl) r h) : wp C cd lim Q pc (l0 :: l1 :: l2 :: l3 :: l4 :: l5 :: l6 :: l7 :: l8 :: l9 :: l10 :: l11 :: vi z :: tl) r h := wp_step hc (mo_iinc 12 d n) ⟨z, rfl, by
  show wp C cd lim Q n (l0 :: l1 :: l2 :: l3 :: l4 :: l5 :: l6 :: l7 :: l8 :: l9 :: l10 :: mjk l11 :: vi (z + d) :: tl) r h
  rw [hj]; exact k9⟩
theorem s_iinc13 {C : mC} {cd : Nat → mT} {lim : Nat × Nat} {Q : mQ} {pc n : Nat} {d : Int} {tl r : List mV} {l0 l1 l2 l3 l4 l5 l6 l7 l8 l9 l10 l11 l12 : mV} {h : mH} {z : Int} (hc : cd pc = o_iinc 13 d n) (hj : mjk l12 = l12) (k9 : wp C cd lim Q n (l0 :: l1 :: l2 :: l3 :: l4 :: l5 :: l6 :: l7 :: l8 :: l9 :: l10 :: l11 :: l12 :: vi (z + d) :: tl) r h) : wp C cd lim Q pc (l0 :: l1 :: l2 :: l3 :: l4 :: l5 :: l6 :: l7 :: l8 :: l9 :: l10 :: l11 :: l12 :: vi z :: tl) r h := wp_step hc (mo_iinc 13 d n) ⟨z, rfl, by
  show wp C cd lim Q n (l0 :: l1 :: l2 :: l3 :: l4 :: l5 :: l6 :: l7 :: l8 :: l9 :: l10 :: l11 :: mjk l12 :: vi (z + d) :: tl) r h
  rw [hj]; exact k9⟩
theorem s_iinc14 {C : mC} {cd : Nat → mT} {lim : Nat × Nat} {Q : mQ} {pc n : Nat} {d : Int} {tl r : List mV} {l0 l1 l2 l3 l4 l5 l6 l7 l8 l9 l10 l11 l12 l13 : mV} {h : mH} {z : Int} (hc : cd pc = o_iinc 14 d n) (hj : mjk l13 = l13) (k9 : wp C cd lim Q n (l0 :: l1 :: l2 :: l3 :: l4 :: l5 :: l6 :: l7 :: l8 :: l9 :: l10 :: l11 :: l12 :: l13 :: vi (z + d) :: tl) r h) : wp C cd lim Q pc (l0 :: l1 :: l2 :: l3 :: l4 :: l5 :: l6 :: l7 :: l8 :: l9 :: l10 :: l11 :: l12 :: l13 :: vi z :: tl) r h := wp_step hc (mo_iinc 14 d n) ⟨z, rfl, by
  show wp C cd lim Q n (l0 :: l1 :: l2 :: l3 :: l4 :: l5 :: l6 :: l7 :: l8 :: l9 :: l10 :: l11 :: l12 :: mjk l13 :: vi (z + d) :: tl) r h
  rw [hj]; exact k9⟩
def o_ifeq (t n : Nat) : mT := fun _ _ _ K ls st h => ∃ (a : Int) (r : List mV), st = vi a :: r ∧ inR a ∧ (a = 0 → K t ls r h) ∧ (a ≠ 0 → K n ls r h)
theorem mo_ifeq (t n : Nat) : mMono (o_ifeq t n) := by
  intro C lim Q K K' hK ls st h H
  obtain ⟨a, r, h0, h1, k8, k9⟩ := H
  exact ⟨a, r, h0, h1, fun x => hK _ _ _ _ (k8 x), fun x => hK _ _ _ _ (k9 x)⟩
theorem s_ifeq {C : mC} {cd : Nat → mT} {lim : Nat × Nat} {Q : mQ} {pc : Nat} {ls r : List mV} {h : mH} {t n : Nat} {a : Int} (hc : cd pc = o_ifeq t n) (h0 : inR a) (k8 : a = 0 → wp C cd lim Q t ls r h) (k9 : a ≠ 0 → wp C cd lim Q n ls r h) : wp C cd lim Q pc ls (vi a :: r) h := wp_step hc (mo_ifeq t n) ⟨a, r, rfl, h0, k8, k9⟩
def o_iceq (t n : Nat) : mT := fun _ _ _ K ls st h => ∃ (a b : Int) (r : List mV), st = vi b :: vi a :: r ∧ inR a ∧ inR b ∧ (a = b → K t ls r h) ∧ (a ≠ b → K n ls r h)
theorem mo_iceq (t n : Nat) : mMono (o_iceq t n) := by
  intro C lim Q K K' hK ls st h H
  obtain ⟨a, b, r, h0, h1, h2, k8, k9⟩ := H
  exact ⟨a, b, r, h0, h1, h2, fun x => hK _ _ _ _ (k8 x), fun x => hK _ _ _ _ (k9 x)⟩
theorem s_iceq {C : mC} {cd : Nat → mT} {lim : Nat × Nat} {Q : mQ} {pc : Nat} {ls r : List mV} {h : mH} {t n : Nat} {a b : Int} (hc : cd pc = o_iceq t n) (h0 : inR a) (h1 : inR b) (k8 : a = b → wp C cd lim Q t ls r h) (k9 : a ≠ b → wp C cd lim Q n ls r h) : wp C cd lim Q pc ls (vi b :: vi a :: r) h := wp_step hc (mo_iceq t n) ⟨a, b, r, rfl, h0, h1, k8, k9⟩
def o_ifne (t n : Nat) : mT := fun _ _ _ K ls st h => ∃ (a : Int) (r : List mV), st = vi a :: r ∧ inR a ∧ (a ≠ 0 → K t ls r h) ∧ (a = 0 → K n ls r h)
theorem mo_ifne (t n : Nat) : mMono (o_ifne t n) := by
  intro C lim Q K K' hK ls st h H
  obtain ⟨a, r, h0, h1, k8, k9⟩ := H
  exact ⟨a, r, h0, h1, fun x => hK _ _ _ _ (k8 x), fun x => hK _ _ _ _ (k9 x)⟩
theorem s_ifne {C : mC} {cd : Nat → mT} {lim : Nat × Nat} {Q : mQ} {pc : Nat} {ls r : List mV} {h : mH} {t n : Nat} {a : Int} (hc : cd pc = o_ifne t n) (h0 : inR a) (k8 : a ≠ 0 → wp C cd lim Q t ls r h) (k9 : a = 0 → wp C cd lim Q n ls r h) : wp C cd lim Q pc ls (vi a :: r) h := wp_step hc (mo_ifne t n) ⟨a, r, rfl, h0, k8, k9⟩
def o_icne (t n : Nat) : mT := fun _ _ _ K ls st h => ∃ (a b : Int) (r : List mV), st = vi b :: vi a :: r ∧ inR a ∧ inR b ∧ (a ≠ b → K t ls r h) ∧ (a = b → K n ls r h)
theorem mo_icne (t n : Nat) : mMono (o_icne t n) := by
  intro C lim Q K K' hK ls st h H
  obtain ⟨a, b, r, h0, h1, h2, k8, k9⟩ := H
  exact ⟨a, b, r, h0, h1, h2, fun x => hK _ _ _ _ (k8 x), fun x => hK _ _ _ _ (k9 x)⟩
theorem s_icne {C : mC} {cd : Nat → mT} {lim : Nat × Nat} {Q : mQ} {pc : Nat} {ls r : List mV} {h : mH} {t n : Nat} {a b : Int} (hc : cd pc = o_icne t n) (h0 : inR a) (h1 : inR b) (k8 : a ≠ b → wp C cd lim Q t ls r h) (k9 : a = b → wp C cd lim Q n ls r h) : wp C cd lim Q pc ls (vi b :: vi a :: r) h := wp_step hc (mo_icne t n) ⟨a, b, r, rfl, h0, h1, k8, k9⟩
def o_iflt (t n : Nat) : mT := fun _ _ _ K ls st h => ∃ (a : Int) (r : List mV), st = vi a :: r ∧ inR a ∧ (a < 0 → K t ls r h) ∧ (0 ≤ a → K n ls r h)
theorem mo_iflt (t n : Nat) : mMono (o_iflt t n) := by
  intro C lim Q K K' hK ls st h H
  obtain ⟨a, r, h0, h1, k8, k9⟩ := H
  exact ⟨a, r, h0, h1, fun x => hK _ _ _ _ (k8 x), fun x => hK _ _ _ _ (k9 x)⟩
theorem s_iflt {C : mC} {cd : Nat → mT} {lim : Nat × Nat} {Q : mQ} {pc : Nat} {ls r : List mV} {h : mH} {t n : Nat} {a : Int} (hc : cd pc = o_iflt t n) (h0 : inR a) (k8 : a < 0 → wp C cd lim Q t ls r h) (k9 : 0 ≤ a → wp C cd lim Q n ls r h) : wp C cd lim Q pc ls (vi a :: r) h := wp_step hc (mo_iflt t n) ⟨a, r, rfl, h0, k8, k9⟩
def o_iclt (t n : Nat) : mT := fun _ _ _ K ls st h => ∃ (a b : Int) (r : List mV), st = vi b :: vi a :: r ∧ inR a ∧ inR b ∧ (a < b → K t ls r h) ∧ (b ≤ a → K n ls r h)
theorem mo_iclt (t n : Nat) : mMono (o_iclt t n) := by
  intro C lim Q K K' hK ls st h H
  obtain ⟨a, b, r, h0, h1, h2, k8, k9⟩ := H
  exact ⟨a, b, r, h0, h1, h2, fun x => hK _ _ _ _ (k8 x), fun x => hK _ _ _ _ (k9 x)⟩
theorem s_iclt {C : mC} {cd : Nat → mT} {lim : Nat × Nat} {Q : mQ} {pc : Nat} {ls r : List mV} {h : mH} {t n : Nat} {a b : Int} (hc : cd pc = o_iclt t n) (h0 : inR a) (h1 : inR b) (k8 : a < b → wp C cd lim Q t ls r h) (k9 : b ≤ a → wp C cd lim Q n ls r h) : wp C cd lim Q pc ls (vi b :: vi a :: r) h := wp_step hc (mo_iclt t n) ⟨a, b, r, rfl, h0, h1, k8, k9⟩
def o_ifge (t n : Nat) : mT := fun _ _ _ K ls st h => ∃ (a : Int) (r : List mV), st = vi a :: r ∧ inR a ∧ (0 ≤ a → K t ls r h) ∧ (a < 0 → K n ls r h)
theorem mo_ifge (t n : Nat) : mMono (o_ifge t n) := by
  intro C lim Q K K' hK ls st h H
  obtain ⟨a, r, h0, h1, k8, k9⟩ := H
  exact ⟨a, r, h0, h1, fun x => hK _ _ _ _ (k8 x), fun x => hK _ _ _ _ (k9 x)⟩
theorem s_ifge {C : mC} {cd : Nat → mT} {lim : Nat × Nat} {Q : mQ} {pc : Nat} {ls r : List mV} {h : mH} {t n : Nat} {a : Int} (hc : cd pc = o_ifge t n) (h0 : inR a) (k8 : 0 ≤ a → wp C cd lim Q t ls r h) (k9 : a < 0 → wp C cd lim Q n ls r h) : wp C cd lim Q pc ls (vi a :: r) h := wp_step hc (mo_ifge t n) ⟨a, r, rfl, h0, k8, k9⟩
def o_icge (t n : Nat) : mT := fun _ _ _ K ls st h => ∃ (a b : Int) (r : List mV), st = vi b :: vi a :: r ∧ inR a ∧ inR b ∧ (b ≤ a → K t ls r h) ∧ (a < b → K n ls r h)
theorem mo_icge (t n : Nat) : mMono (o_icge t n) := by
  intro C lim Q K K' hK ls st h H
  obtain ⟨a, b, r, h0, h1, h2, k8, k9⟩ := H
  exact ⟨a, b, r, h0, h1, h2, fun x => hK _ _ _ _ (k8 x), fun x => hK _ _ _ _ (k9 x)⟩
theorem s_icge {C : mC} {cd : Nat → mT} {lim : Nat × Nat} {Q : mQ} {pc : Nat} {ls r : List mV} {h : mH} {t n : Nat} {a b : Int} (hc : cd pc = o_icge t n) (h0 : inR a) (h1 : inR b) (k8 : b ≤ a → wp C cd lim Q t ls r h) (k9 : a < b → wp C cd lim Q n ls r h) : wp C cd lim Q pc ls (vi b :: vi a :: r) h := wp_step hc (mo_icge t n) ⟨a, b, r, rfl, h0, h1, k8, k9⟩
def o_ifgt (t n : Nat) : mT := fun _ _ _ K ls st h => ∃ (a : Int) (r : List mV), st = vi a :: r ∧ inR a ∧ (0 < a → K t ls r h) ∧ (a ≤ 0 → K n ls r h)
theorem mo_ifgt (t n : Nat) : mMono (o_ifgt t n) := by
  intro C lim Q K K' hK ls st h H
  obtain ⟨a, r, h0, h1, k8, k9⟩ := H
  exact ⟨a, r, h0, h1, fun x => hK _ _ _ _ (k8 x), fun x => hK _ _ _ _ (k9 x)⟩
theorem s_ifgt {C : mC} {cd : Nat → mT} {lim : Nat × Nat} {Q : mQ} {pc : Nat} {ls r : List mV} {h : mH} {t n : Nat} {a : Int} (hc : cd pc = o_ifgt t n) (h0 : inR a) (k8 : 0 < a → wp C cd lim Q t ls r h) (k9 : a ≤ 0 → wp C cd lim Q n ls r h) : wp C cd lim Q pc ls (vi a :: r) h := wp_step hc (mo_ifgt t n) ⟨a, r, rfl, h0, k8, k9⟩
def o_icgt (t n : Nat) : mT := fun _ _ _ K ls st h => ∃ (a b : Int) (r : List mV), st = vi b :: vi a :: r ∧ inR a ∧ inR b ∧ (b < a → K t ls r h) ∧ (a ≤ b → K n ls r h)
theorem mo_icgt (t n : Nat) : mMono (o_icgt t n) := by
  intro C lim Q K K' hK ls st h H
  obtain ⟨a, b, r, h0, h1, h2, k8, k9⟩ := H
  exact ⟨a, b, r, h0, h1, h2, fun x => hK _ _ _ _ (k8 x), fun x => hK _ _ _ _ (k9 x)⟩
theorem s_icgt {C : mC} {cd : Nat → mT} {lim : Nat × Nat} {Q : mQ} {pc : Nat} {ls r : List mV} {h : mH} {t n : Nat} {a b : Int} (hc : cd pc = o_icgt t n) (h0 : inR a) (h1 : inR b) (k8 : b < a → wp C cd lim Q t ls r h) (k9 : a ≤ b → wp C cd lim Q n ls r h) : wp C cd lim Q pc ls (vi b :: vi a :: r) h := wp_step hc (mo_icgt t n) ⟨a, b, r, rfl, h0, h1, k8, k9⟩
def o_ifle (t n : Nat) : mT := fun _ _ _ K ls st h => ∃ (a : Int) (r : List mV), st = vi a :: r ∧ inR a ∧ (a ≤ 0 → K t ls r h) ∧ (0 < a → K n ls r h)
theorem mo_ifle (t n : Nat) : mMono (o_ifle t n) := by
  intro C lim Q K K' hK ls st h H
  obtain ⟨a, r, h0, h1, k8, k9⟩ := H
  exact ⟨a, r, h0, h1, fun x => hK _ _ _ _ (k8 x), fun x => hK _ _ _ _ (k9 x)⟩
theorem s_ifle {C : mC} {cd : Nat → mT} {lim : Nat × Nat} {Q : mQ} {pc : Nat} {ls r : List mV} {h : mH} {t n : Nat} {a : Int} (hc : cd pc = o_ifle t n) (h0 : inR a) (k8 : a ≤ 0 → wp C cd lim Q t ls r h) (k9 : 0 < a → wp C cd lim Q n ls r h) : wp C cd lim Q pc ls (vi a :: r) h := wp_step hc (mo_ifle t n) ⟨a, r, rfl, h0, k8, k9⟩
def o_icle (t n : Nat) : mT := fun _ _ _ K ls st h => ∃ (a b : Int) (r : List mV), st = vi b :: vi a :: r ∧ inR a ∧ inR b ∧ (a ≤ b → K t ls r h) ∧ (b < a → K n ls r h)
theorem mo_icle (t n : Nat) : mMono (o_icle t n) := by
  intro C lim Q K K' hK ls st h H
  obtain ⟨a, b, r, h0, h1, h2, k8, k9⟩ := H
  exact ⟨a, b, r, h0, h1, h2, fun x => hK _ _ _ _ (k8 x), fun x => hK _ _ _ _ (k9 x)⟩
theorem s_icle {C : mC} {cd : Nat → mT} {lim : Nat × Nat} {Q : mQ} {pc : Nat} {ls r : List mV} {h : mH} {t n : Nat} {a b : Int} (hc : cd pc = o_icle t n) (h0 : inR a) (h1 : inR b) (k8 : a ≤ b → wp C cd lim Q t ls r h) (k9 : b < a → wp C cd lim Q n ls r h) : wp C cd lim Q pc ls (vi b :: vi a :: r) h := wp_step hc (mo_icle t n) ⟨a, b, r, rfl, h0, h1, k8, k9⟩
def o_tsw (l : Int) (t : List Nat) (d : Nat) : mT := fun _ _ _ K ls st h => ∃ (a : Int) (r : List mV), st = vi a :: r ∧ inR a ∧ K (swt a l t d) ls r h
theorem mo_tsw (l : Int) (t : List Nat) (d : Nat) : mMono (o_tsw l t d) := by
  intro C lim Q K K' hK ls st h H
  obtain ⟨a, r, h0, h1, k9⟩ := H
  exact ⟨a, r, h0, h1, hK _ _ _ _ k9⟩
theorem s_tsw {C : mC} {cd : Nat → mT} {lim : Nat × Nat} {Q : mQ} {pc : Nat} {ls r : List mV} {h : mH} {l a : Int} {t : List Nat} {d u : Nat} (hc : cd pc = o_tsw l t d) (h0 : inR a) (hu : swt a l t d = u) (k9 : wp C cd lim Q u ls r h) : wp C cd lim Q pc ls (vi a :: r) h := wp_step hc (mo_tsw l t d) ⟨a, r, rfl, h0, by rw [hu]; exact k9⟩
def o_lsw (t : List (Int × Nat)) (d : Nat) : mT := fun _ _ _ K ls st h => ∃ (a : Int) (r : List mV), st = vi a :: r ∧ inR a ∧ K (lsw a t d) ls r h
theorem mo_lsw (t : List (Int × Nat)) (d : Nat) : mMono (o_lsw t d) := by
  intro C lim Q K K' hK ls st h H
  obtain ⟨a, r, h0, h1, k9⟩ := H
  exact ⟨a, r, h0, h1, hK _ _ _ _ k9⟩
theorem s_lsw {C : mC} {cd : Nat → mT} {lim : Nat × Nat} {Q : mQ} {pc : Nat} {ls r : List mV} {h : mH} {a : Int} {t : List (Int × Nat)} {d u : Nat} (hc : cd pc = o_lsw t d) (h0 : inR a) (hu : lsw a t d = u) (k9 : wp C cd lim Q u ls r h) : wp C cd lim Q pc ls (vi a :: r) h := wp_step hc (mo_lsw t d) ⟨a, r, rfl, h0, by rw [hu]; exact k9⟩
def o_inv (c y na n : Nat) : mT := fun C lim _ K ls st h => ∃ (a : Nat) (As r : List mV) (lm : Nat × Nat) (Q1 : mQ), st = As.reverse ++ vr a :: r ∧ As.length = na ∧ (h.1.2.2 a).1 = c ∧ mcat r ≤ 8 ∧ (h.1.1 ≤ lm.1 ∧ h.1.2.1 ≤ lm.2 ∧ lm.1 ≤ lim.1 ∧ lm.2 ≤ lim.2) ∧ C y (vr a :: As) h lm Q1 ∧ ∀ o h1, Q1 o h1 → K n ls (o.toList ++ r) h1
theorem mo_inv (c y na n : Nat) : mMono (o_inv c y na n) := by
  intro C lim Q K K' hK ls st h H
  obtain ⟨a, As, r, lm, Q1, h0, h1, h2, h3, h4, h5, k9⟩ := H
  exact ⟨a, As, r, lm, Q1, h0, h1, h2, h3, h4, h5, fun o h1 q => hK _ _ _ _ (k9 o h1 q)⟩
def o_sta (y na n : Nat) : mT := fun C lim _ K ls st h => ∃ (As r : List mV) (lm : Nat × Nat) (Q1 : mQ), st = As.reverse ++ r ∧ As.length = na ∧ mcat r ≤ 8 ∧ (h.1.1 ≤ lm.1 ∧ h.1.2.1 ≤ lm.2 ∧ lm.1 ≤ lim.1 ∧ lm.2 ≤ lim.2) ∧ C y As h lm Q1 ∧ ∀ o h1, Q1 o h1 → K n ls (o.toList ++ r) h1
theorem mo_sta (y na n : Nat) : mMono (o_sta y na n) := by
  intro C lim Q K K' hK ls st h H
  obtain ⟨As, r, lm, Q1, h0, h1, h3, h4, h5, k9⟩ := H
  exact ⟨As, r, lm, Q1, h0, h1, h3, h4, h5, fun o h1 q => hK _ _ _ _ (k9 o h1 q)⟩
theorem s_inv0 {C : mC} {cd : Nat → mT} {lim : Nat × Nat} {Q : mQ} {pc : Nat} {ls r : List mV} {h : mH} {c y n a : Nat}  {lm : Nat × Nat} {Q1 : mQ} (hc : cd pc = o_inv c y 0 n) (h0 : (h.1.2.2 a).1 = c) (hr : mcat r ≤ 8) (hl : h.1.1 ≤ lm.1 ∧ h.1.2.1 ≤ lm.2 ∧ lm.1 ≤ lim.1 ∧ lm.2 ≤ lim.2) (h5 : C y (vr a :: []) h lm Q1) (k9 : ∀ o h1, Q1 o h1 → wp C cd lim Q n ls (o.toList ++ r) h1) : wp C cd lim Q pc ls (vr a :: r) h := wp_step hc (mo_inv c y 0 n) ⟨a, [], r, lm, Q1, rfl, rfl, h0, hr, hl, h5, k9⟩
theorem s_sta0 {C : mC} {cd : Nat → mT} {lim : Nat × Nat} {Q : mQ} {pc : Nat} {ls r : List mV} {h : mH} {y n : Nat}  {lm : Nat × Nat} {Q1 : mQ} (hc : cd pc = o_sta y 0 n) (hr : mcat r ≤ 8) (hl : h.1.1 ≤ lm.1 ∧ h.1.2.1 ≤ lm.2 ∧ lm.1 ≤ lim.1 ∧ lm.2 ≤ lim.2) (h5 : C y [] h lm Q1) (k9 : ∀ o h1, Q1 o h1 → wp C cd lim Q n ls (o.toList ++ r) h1) : wp C cd lim Q pc ls (r) h := wp_step hc (mo_sta y 0 n) ⟨[], r, lm, Q1, rfl, rfl, hr, hl, h5, k9⟩
theorem s_inv0S {C : mC} {cd : Nat → mT} {Q : mQ} {pc : Nat} {ls r : List mV} {h : mH} {c y n a : Nat}  {Q1 : mQ} (hc : cd pc = o_inv c y 0 n) (h0 : (h.1.2.2 a).1 = c) (hr : mcat r ≤ 8)  (h5 : C y (vr a :: []) h (h.1.1, h.1.2.1) Q1) (k9 : ∀ o h1, Q1 o h1 → wp C cd (h.1.1, h.1.2.1) Q n ls (o.toList ++ r) h1) : wp C cd (h.1.1, h.1.2.1) Q pc ls (vr a :: r) h := wp_step hc (mo_inv c y 0 n) ⟨a, [], r, (h.1.1, h.1.2.1), Q1, rfl, rfl, h0, hr, ⟨Nat.le_refl _, Nat.le_refl _, Nat.le_refl _, Nat.le_refl _⟩, h5, k9⟩
theorem s_sta0S {C : mC} {cd : Nat → mT} {Q : mQ} {pc : Nat} {ls r : List mV} {h : mH} {y n : Nat}  {Q1 : mQ} (hc : cd pc = o_sta y 0 n) (hr : mcat r ≤ 8)  (h5 : C y [] h (h.1.1, h.1.2.1) Q1) (k9 : ∀ o h1, Q1 o h1 → wp C cd (h.1.1, h.1.2.1) Q n ls (o.toList ++ r) h1) : wp C cd (h.1.1, h.1.2.1) Q pc ls (r) h := wp_step hc (mo_sta y 0 n) ⟨[], r, (h.1.1, h.1.2.1), Q1, rfl, rfl, hr, ⟨Nat.le_refl _, Nat.le_refl _, Nat.le_refl _, Nat.le_refl _⟩, h5, k9⟩
theorem s_inv1 {C : mC} {cd : Nat → mT} {lim : Nat × Nat} {Q : mQ} {pc : Nat} {ls r : List mV} {h : mH} {c y n a : Nat} {a0 : mV} {lm : Nat × Nat} {Q1 : mQ} (hc : cd pc = o_inv c y 1 n) (h0 : (h.1.2.2 a).1 = c) (hr : mcat r ≤ 8) (hl : h.1.1 ≤ lm.1 ∧ h.1.2.1 ≤ lm.2 ∧ lm.1 ≤ lim.1 ∧ lm.2 ≤ lim.2) (h5 : C y (vr a :: [a0]) h lm Q1) (k9 : ∀ o h1, Q1 o h1 → wp C cd lim Q n ls (o.toList ++ r) h1) : wp C cd lim Q pc ls (a0 :: vr a :: r) h := wp_step hc (mo_inv c y 1 n) ⟨a, [a0], r, lm, Q1, rfl, rfl, h0, hr, hl, h5, k9⟩
theorem s_sta1 {C : mC} {cd : Nat → mT} {lim : Nat × Nat} {Q : mQ} {pc : Nat} {ls r : List mV} {h : mH} {y n : Nat} {a0 : mV} {lm : Nat × Nat} {Q1 : mQ} (hc : cd pc = o_sta y 1 n) (hr : mcat r ≤ 8) (hl : h.1.1 ≤ lm.1 ∧ h.1.2.1 ≤ lm.2 ∧ lm.1 ≤ lim.1 ∧ lm.2 ≤ lim.2) (h5 : C y [a0] h lm Q1) (k9 : ∀ o h1, Q1 o h1 → wp C cd lim Q n ls (o.toList ++ r) h1) : wp C cd lim Q pc ls (a0 :: r) h := wp_step hc (mo_sta y 1 n) ⟨[a0], r, lm, Q1, rfl, rfl, hr, hl, h5, k9⟩
theorem s_inv1S {C : mC} {cd : Nat → mT} {Q : mQ} {pc : Nat} {ls r : List mV} {h : mH} {c y n a : Nat} {a0 : mV} {Q1 : mQ} (hc : cd pc = o_inv c y 1 n) (h0 : (h.1.2.2 a).1 = c) (hr : mcat r ≤ 8)  (h5 : C y (vr a :: [a0]) h (h.1.1, h.1.2.1) Q1) (k9 : ∀ o h1, Q1 o h1 → wp C cd (h.1.1, h.1.2.1) Q n ls (o.toList ++ r) h1) : wp C cd (h.1.1, h.1.2.1) Q pc ls (a0 :: vr a :: r) h := wp_step hc (mo_inv c y 1 n) ⟨a, [a0], r, (h.1.1, h.1.2.1), Q1, rfl, rfl, h0, hr, ⟨Nat.le_refl _, Nat.le_refl _, Nat.le_refl _, Nat.le_refl _⟩, h5, k9⟩
theorem s_sta1S {C : mC} {cd : Nat → mT} {Q : mQ} {pc : Nat} {ls r : List mV} {h : mH} {y n : Nat} {a0 : mV} {Q1 : mQ} (hc : cd pc = o_sta y 1 n) (hr : mcat r ≤ 8)  (h5 : C y [a0] h (h.1.1, h.1.2.1) Q1) (k9 : ∀ o h1, Q1 o h1 → wp C cd (h.1.1, h.1.2.1) Q n ls (o.toList ++ r) h1) : wp C cd (h.1.1, h.1.2.1) Q pc ls (a0 :: r) h := wp_step hc (mo_sta y 1 n) ⟨[a0], r, (h.1.1, h.1.2.1), Q1, rfl, rfl, hr, ⟨Nat.le_refl _, Nat.le_refl _, Nat.le_refl _, Nat.le_refl _⟩, h5, k9⟩
theorem s_inv2 {C : mC} {cd : Nat → mT} {lim : Nat × Nat} {Q : mQ} {pc : Nat} {ls r : List mV} {h : mH} {c y n a : Nat} {a0 a1 : mV} {lm : Nat × Nat} {Q1 : mQ} (hc : cd pc = o_inv c y 2 n) (h0 : (h.1.2.2 a).1 = c) (hr : mcat r ≤ 8) (hl : h.1.1 ≤ lm.1 ∧ h.1.2.1 ≤ lm.2 ∧ lm.1 ≤ lim.1 ∧ lm.2 ≤ lim.2) (h5 : C y (vr a :: [a0, a1]) h lm Q1) (k9 : ∀ o h1, Q1 o h1 → wp C cd lim Q n ls (o.toList ++ r) h1) : wp C cd lim Q pc ls (a1 :: a0 :: vr a :: r) h := wp_step hc (mo_inv c y 2 n) ⟨a, [a0, a1], r, lm, Q1, rfl, rfl, h0, hr, hl, h5, k9⟩
theorem s_sta2 {C : mC} {cd : Nat → mT} {lim : Nat × Nat} {Q : mQ} {pc : Nat} {ls r : List mV} {h : mH} {y n : Nat} {a0 a1 : mV} {lm : Nat × Nat} {Q1 : mQ} (hc : cd pc = o_sta y 2 n) (hr : mcat r ≤ 8) (hl : h.1.1 ≤ lm.1 ∧ h.1.2.1 ≤ lm.2 ∧ lm.1 ≤ lim.1 ∧ lm.2 ≤ lim.2) (h5 : C y [a0, a1] h lm Q1) (k9 : ∀ o h1, Q1 o h1 → wp C cd lim Q n ls (o.toList ++ r) h1) : wp C cd lim Q pc ls (a1 :: a0 :: r) h := wp_step hc (mo_sta y 2 n) ⟨[a0, a1], r, lm, Q1, rfl, rfl, hr, hl, h5, k9⟩
theorem s_inv2S {C : mC} {cd : Nat → mT} {Q : mQ} {pc : Nat} {ls r : List mV} {h : mH} {c y n a : Nat} {a0 a1 : mV} {Q1 : mQ} (hc : cd pc = o_inv c y 2 n) (h0 : (h.1.2.2 a).1 = c) (hr : mcat r ≤ 8)  (h5 : C y (vr a :: [a0, a1]) h (h.1.1, h.1.2.1) Q1) (k9 : ∀ o h1, Q1 o h1 → wp C cd (h.1.1, h.1.2.1) Q n ls (o.toList ++ r) h1) : wp C cd (h.1.1, h.1.2.1) Q pc ls (a1 :: a0 :: vr a :: r) h := wp_step hc (mo_inv c y 2 n) ⟨a, [a0, a1], r, (h.1.1, h.1.2.1), Q1, rfl, rfl, h0, hr, ⟨Nat.le_refl _, Nat.le_refl _, Nat.le_refl _, Nat.le_refl _⟩, h5, k9⟩
theorem s_sta2S {C : mC} {cd : Nat → mT} {Q : mQ} {pc : Nat} {ls r : List mV} {h : mH} {y n : Nat} {a0 a1 : mV} {Q1 : mQ} (hc : cd pc = o_sta y 2 n) (hr : mcat r ≤ 8)  (h5 : C y [a0, a1] h (h.1.1, h.1.2.1) Q1) (k9 : ∀ o h1, Q1 o h1 → wp C cd (h.1.1, h.1.2.1) Q n ls (o.toList ++ r) h1) : wp C cd (h.1.1, h.1.2.1) Q pc ls (a1 :: a0 :: r) h := wp_step hc (mo_sta y 2 n) ⟨[a0, a1], r, (h.1.1, h.1.2.1), Q1, rfl, rfl, hr, ⟨Nat.le_refl _, Nat.le_refl _, Nat.le_refl _, Nat.le_refl _⟩, h5, k9⟩
theorem s_inv3 {C : mC} {cd : Nat → mT} {lim : Nat × Nat} {Q : mQ} {pc : Nat} {ls r : List mV} {h : mH} {c y n a : Nat} {a0 a1 a2 : mV} {lm : Nat × Nat} {Q1 : mQ} (hc : cd pc = o_inv c y 3 n) (h0 : (h.1.2.2 a).1 = c) (hr : mcat r ≤ 8) (hl : h.1.1 ≤ lm.1 ∧ h.1.2.1 ≤ lm.2 ∧ lm.1 ≤ lim.1 ∧ lm.2 ≤ lim.2) (h5 : C y (vr a :: [a0, a1, a2]) h lm Q1) (k9 : ∀ o h1, Q1 o h1 → wp C cd lim Q n ls (o.toList ++ r) h1) : wp C cd lim Q pc ls (a2 :: a1 :: a0 :: vr a :: r) h := wp_step hc (mo_inv c y 3 n) ⟨a, [a0, a1, a2], r, lm, Q1, rfl, rfl, h0, hr, hl, h5, k9⟩
theorem s_sta3 {C : mC} {cd : Nat → mT} {lim : Nat × Nat} {Q : mQ} {pc : Nat} {ls r : List mV} {h : mH} {y n : Nat} {a0 a1 a2 : mV} {lm : Nat × Nat} {Q1 : mQ} (hc : cd pc = o_sta y 3 n) (hr : mcat r ≤ 8) (hl : h.1.1 ≤ lm.1 ∧ h.1.2.1 ≤ lm.2 ∧ lm.1 ≤ lim.1 ∧ lm.2 ≤ lim.2) (h5 : C y [a0, a1, a2] h lm Q1) (k9 : ∀ o h1, Q1 o h1 → wp C cd lim Q n ls (o.toList ++ r) h1) : wp C cd lim Q pc ls (a2 :: a1 :: a0 :: r) h := wp_step hc (mo_sta y 3 n) ⟨[a0, a1, a2], r, lm, Q1, rfl, rfl, hr, hl, h5, k9⟩
theorem s_inv3S {C : mC} {cd : Nat → mT} {Q : mQ} {pc : Nat} {ls r : List mV} {h : mH} {c y n a : Nat} {a0 a1 a2 : mV} {Q1 : mQ} (hc : cd pc = o_inv c y 3 n) (h0 : (h.1.2.2 a).1 = c) (hr : mcat r ≤ 8)  (h5 : C y (vr a :: [a0, a1, a2]) h (h.1.1, h.1.2.1) Q1) (k9 : ∀ o h1, Q1 o h1 → wp C cd (h.1.1, h.1.2.1) Q n ls (o.toList ++ r) h1) : wp C cd (h.1.1, h.1.2.1) Q pc ls (a2 :: a1 :: a0 :: vr a :: r) h := wp_step hc (mo_inv c y 3 n) ⟨a, [a0, a1, a2], r, (h.1.1, h.1.2.1), Q1, rfl, rfl, h0, hr, ⟨Nat.le_refl _, Nat.le_refl _, Nat.le_refl _, Nat.le_refl _⟩, h5, k9⟩
theorem s_sta3S {C : mC} {cd : Nat → mT} {Q : mQ} {pc : Nat} {ls r : List mV} {h : mH} {y n : Nat} {a0 a1 a2 : mV} {Q1 : mQ} (hc : cd pc = o_sta y 3 n) (hr : mcat r ≤ 8)  (h5 : C y [a0, a1, a2] h (h.1.1, h.1.2.1) Q1) (k9 : ∀ o h1, Q1 o h1 → wp C cd (h.1.1, h.1.2.1) Q n ls (o.toList ++ r) h1) : wp C cd (h.1.1, h.1.2.1) Q pc ls (a2 :: a1 :: a0 :: r) h := wp_step hc (mo_sta y 3 n) ⟨[a0, a1, a2], r, (h.1.1, h.1.2.1), Q1, rfl, rfl, hr, ⟨Nat.le_refl _, Nat.le_refl _, Nat.le_refl _, Nat.le_refl _⟩, h5, k9⟩
theorem s_inv4 {C : mC} {cd : Nat → mT} {lim : Nat × Nat} {Q : mQ} {pc : Nat} {ls r : List mV} {h : mH} {c y n a : Nat} {a0 a1 a2 a3 : mV} {lm : Nat × Nat} {Q1 : mQ} (hc : cd pc = o_inv c y 4 n) (h0 : (h.1.2.2 a).1 = c) (hr : mcat r ≤ 8) (hl : h.1.1 ≤ lm.1 ∧ h.1.2.1 ≤ lm.2 ∧ lm.1 ≤ lim.1 ∧ lm.2 ≤ lim.2) (h5 : C y (vr a :: [a0, a1, a2, a3]) h lm Q1) (k9 : ∀ o h1, Q1 o h1 → wp C cd lim Q n ls (o.toList ++ r) h1) : wp C cd lim Q pc ls (a3 :: a2 :: a1 :: a0 :: vr a :: r) h := wp_step hc (mo_inv c y 4 n) ⟨a, [a0, a1, a2, a3], r, lm, Q1, rfl, rfl, h0, hr, hl, h5, k9⟩
theorem s_sta4 {C : mC} {cd : Nat → mT} {lim : Nat × Nat} {Q : mQ} {pc : Nat} {ls r : List mV} {h : mH} {y n : Nat} {a0 a1 a2 a3 : mV} {lm : Nat × Nat} {Q1 : mQ} (hc : cd pc = o_sta y 4 n) (hr : mcat r ≤ 8) (hl : h.1.1 ≤ lm.1 ∧ h.1.2.1 ≤ lm.2 ∧ lm.1 ≤ lim.1 ∧ lm.2 ≤ lim.2) (h5 : C y [a0, a1, a2, a3] h lm Q1) (k9 : ∀ o h1, Q1 o h1 → wp C cd lim Q n ls (o.toList ++ r) h1) : wp C cd lim Q pc ls (a3 :: a2 :: a1 :: a0 :: r) h := wp_step hc (mo_sta y 4 n) ⟨[a0, a1, a2, a3], r, lm, Q1, rfl, rfl, hr, hl, h5, k9⟩
theorem s_inv4S {C : mC} {cd : Nat → mT} {Q : mQ} {pc : Nat} {ls r : List mV} {h : mH} {c y n a : Nat} {a0 a1 a2 a3 : mV} {Q1 : mQ} (hc : cd pc = o_inv c y 4 n) (h0 : (h.1.2.2 a).1 = c) (hr : mcat r ≤ 8)  (h5 : C y (vr a :: [a0, a1, a2, a3]) h (h.1.1, h.1.2.1) Q1) (k9 : ∀ o h1, Q1 o h1 → wp C cd (h.1.1, h.1.2.1) Q n ls (o.toList ++ r) h1) : wp C cd (h.1.1, h.1.2.1) Q pc ls (a3 :: a2 :: a1 :: a0 :: vr a :: r) h := wp_step hc (mo_inv c y 4 n) ⟨a, [a0, a1, a2, a3], r, (h.1.1, h.1.2.1), Q1, rfl, rfl, h0, hr, ⟨Nat.le_refl _, Nat.le_refl _, Nat.le_refl _, Nat.le_refl _⟩, h5, k9⟩
theorem s_sta4S {C : mC} {cd : Nat → mT} {Q : mQ} {pc : Nat} {ls r : List mV} {h : mH} {y n : Nat} {a0 a1 a2 a3 : mV} {Q1 : mQ} (hc : cd pc = o_sta y 4 n) (hr : mcat r ≤ 8)  (h5 : C y [a0, a1, a2, a3] h (h.1.1, h.1.2.1) Q1) (k9 : ∀ o h1, Q1 o h1 → wp C cd (h.1.1, h.1.2.1) Q n ls (o.toList ++ r) h1) : wp C cd (h.1.1, h.1.2.1) Q pc ls (a3 :: a2 :: a1 :: a0 :: r) h := wp_step hc (mo_sta y 4 n) ⟨[a0, a1, a2, a3], r, (h.1.1, h.1.2.1), Q1, rfl, rfl, hr, ⟨Nat.le_refl _, Nat.le_refl _, Nat.le_refl _, Nat.le_refl _⟩, h5, k9⟩
theorem s_inv5 {C : mC} {cd : Nat → mT} {lim : Nat × Nat} {Q : mQ} {pc : Nat} {ls r : List mV} {h : mH} {c y n a : Nat} {a0 a1 a2 a3 a4 : mV} {lm : Nat × Nat} {Q1 : mQ} (hc : cd pc = o_inv c y 5 n) (h0 : (h.1.2.2 a).1 = c) (hr : mcat r ≤ 8) (hl : h.1.1 ≤ lm.1 ∧ h.1.2.1 ≤ lm.2 ∧ lm.1 ≤ lim.1 ∧ lm.2 ≤ lim.2) (h5 : C y (vr a :: [a0, a1, a2, a3, a4]) h lm Q1) (k9 : ∀ o h1, Q1 o h1 → wp C cd lim Q n ls (o.toList ++ r) h1) : wp C cd lim Q pc ls (a4 :: a3 :: a2 :: a1 :: a0 :: vr a :: r) h := wp_step hc (mo_inv c y 5 n) ⟨a, [a0, a1, a2, a3, a4], r, lm, Q1, rfl, rfl, h0, hr, hl, h5, k9⟩
theorem s_sta5 {C : mC} {cd : Nat → mT} {lim : Nat × Nat} {Q : mQ} {pc : Nat} {ls r : List mV} {h : mH} {y n : Nat} {a0 a1 a2 a3 a4 : mV} {lm : Nat × Nat} {Q1 : mQ} (hc : cd pc = o_sta y 5 n) (hr : mcat r ≤ 8) (hl : h.1.1 ≤ lm.1 ∧ h.1.2.1 ≤ lm.2 ∧ lm.1 ≤ lim.1 ∧ lm.2 ≤ lim.2) (h5 : C y [a0, a1, a2, a3, a4] h lm Q1) (k9 : ∀ o h1, Q1 o h1 → wp C cd lim Q n ls (o.toList ++ r) h1) : wp C cd lim Q pc ls (a4 :: a3 :: a2 :: a1 :: a0 :: r) h := wp_step hc (mo_sta y 5 n) ⟨[a0, a1, a2, a3, a4], r, lm, Q1, rfl, rfl, hr, hl, h5, k9⟩
theorem s_inv5S {C : mC} {cd : Nat → mT} {Q : mQ} {pc : Nat} {ls r : List mV} {h : mH} {c y n a : Nat} {a0 a1 a2 a3 a4 : mV} {Q1 : mQ} (hc : cd pc = o_inv c y 5 n) (h0 : (h.1.2.2 a).1 = c) (hr : mcat r ≤ 8)  (h5 : C y (vr a :: [a0, a1, a2, a3, a4]) h (h.1.1, h.1.2.1) Q1) (k9 : ∀ o h1, Q1 o h1 → wp C cd (h.1.1, h.1.2.1) Q n ls (o.toList ++ r) h1) : wp C cd (h.1.1, h.1.2.1) Q pc ls (a4 :: a3 :: a2 :: a1 :: a0 :: vr a :: r) h := wp_step hc (mo_inv c y 5 n) ⟨a, [a0, a1, a2, a3, a4], r, (h.1.1, h.1.2.1), Q1, rfl, rfl, h0, hr, ⟨Nat.le_refl _, Nat.le_refl _, Nat.le_refl _, Nat.le_refl _⟩, h5, k9⟩
theorem s_sta5S {C : mC} {cd : Nat → mT} {Q : mQ} {pc : Nat} {ls r : List mV} {h : mH} {y n : Nat} {a0 a1 a2 a3 a4 : mV} {Q1 : mQ} (hc : cd pc = o_sta y 5 n) (hr : mcat r ≤ 8)  (h5 : C y [a0, a1, a2, a3, a4] h (h.1.1, h.1.2.1) Q1) (k9 : ∀ o h1, Q1 o h1 → wp C cd (h.1.1, h.1.2.1) Q n ls (o.toList ++ r) h1) : wp C cd (h.1.1, h.1.2.1) Q pc ls (a4 :: a3 :: a2 :: a1 :: a0 :: r) h := wp_step hc (mo_sta y 5 n) ⟨[a0, a1, a2, a3, a4], r, (h.1.1, h.1.2.1), Q1, rfl, rfl, hr, ⟨Nat.le_refl _, Nat.le_refl _, Nat.le_refl _, Nat.le_refl _⟩, h5, k9⟩
theorem s_inv6 {C : mC} {cd : Nat → mT} {lim : Nat × Nat} {Q : mQ} {pc : Nat} {ls r : List mV} {h : mH} {c y n a : Nat} {a0 a1 a2 a3 a4 a5 : mV} {lm : Nat × Nat} {Q1 : mQ} (hc : cd pc = o_inv c y 6 n) (h0 : (h.1.2.2 a).1 = c) (hr : mcat r ≤ 8) (hl : h.1.1 ≤ lm.1 ∧ h.1.2.1 ≤ lm.2 ∧ lm.1 ≤ lim.1 ∧ lm.2 ≤ lim.2) (h5 : C y (vr a :: [a0, a1, a2, a3, a4, a5]) h lm Q1) (k9 : ∀ o h1, Q1 o h1 → wp C cd lim Q n ls (o.toList ++ r) h1) : wp C cd lim Q pc ls (a5 :: a4 :: a3 :: a2 :: a1 :: a0 :: vr a :: r) h := wp_step hc (mo_inv c y 6 n) ⟨a, [a0, a1, a2, a3, a4, a5], r, lm, Q1, rfl, rfl, h0, hr, hl, h5, k9⟩
theorem s_sta6 {C : mC} {cd : Nat → mT} {lim : Nat × Nat} {Q : mQ} {pc : Nat} {ls r : List mV} {h : mH} {y n : Nat} {a0 a1 a2 a3 a4 a5 : mV} {lm : Nat × Nat} {Q1 : mQ} (hc : cd pc = o_sta y 6 n) (hr : mcat r ≤ 8) (hl : h.1.1 ≤ lm.1 ∧ h.1.2.1 ≤ lm.2 ∧ lm.1 ≤ lim.1 ∧ lm.2 ≤ lim.2) (h5 : C y [a0, a1, a2, a3, a4, a5] h lm Q1) (k9 : ∀ o h1, Q1 o h1 → wp C cd lim Q n ls (o.toList ++ r) h1) : wp C cd lim Q pc ls (a5 :: a4 :: a3 :: a2 :: a1 :: a0 :: r) h := wp_step hc (mo_sta y 6 n) ⟨[a0, a1, a2, a3, a4, a5], r, lm, Q1, rfl, rfl, hr, hl, h5, k9⟩
theorem s_inv6S {C : mC} {cd : Nat → mT} {Q : mQ} {pc : Nat} {ls r : List mV} {h : mH} {c y n a : Nat} {a0 a1 a2 a3 a4 a5 : mV} {Q1 : mQ} (hc : cd pc = o_inv c y 6 n) (h0 : (h.1.2.2 a).1 = c) (hr : mcat r ≤ 8)  (h5 : C y (vr a :: [a0, a1, a2, a3, a4, a5]) h (h.1.1, h.1.2.1) Q1) (k9 : ∀ o h1, Q1 o h1 → wp C cd (h.1.1, h.1.2.1) Q n ls (o.toList ++ r) h1) : wp C cd (h.1.1, h.1.2.1) Q pc ls (a5 :: a4 :: a3 :: a2 :: a1 :: a0 :: vr a :: r) h := wp_step hc (mo_inv c y 6 n) ⟨a, [a0, a1, a2, a3, a4, a5], r, (h.1.1, h.1.2.1), Q1, rfl, rfl, h0, hr, ⟨Nat.le_refl _, Nat.le_refl _, Nat.le_refl _, Nat.le_refl _⟩, h5, k9⟩
theorem s_sta6S {C : mC} {cd : Nat → mT} {Q : mQ} {pc : Nat} {ls r : List mV} {h : mH} {y n : Nat} {a0 a1 a2 a3 a4 a5 : mV} {Q1 : mQ} (hc : cd pc = o_sta y 6 n) (hr : mcat r ≤ 8)  (h5 : C y [a0, a1, a2, a3, a4, a5] h (h.1.1, h.1.2.1) Q1) (k9 : ∀ o h1, Q1 o h1 → wp C cd (h.1.1, h.1.2.1) Q n ls (o.toList ++ r) h1) : wp C cd (h.1.1, h.1.2.1) Q pc ls (a5 :: a4 :: a3 :: a2 :: a1 :: a0 :: r) h := wp_step hc (mo_sta y 6 n) ⟨[a0, a1, a2, a3, a4, a5], r, (h.1.1, h.1.2.1), Q1, rfl, rfl, hr, ⟨Nat.le_refl _, Nat.le_refl _, Nat.le_refl _, Nat.le_refl _⟩, h5, k9⟩
theorem s_inv7 {C : mC} {cd : Nat → mT} {lim : Nat × Nat} {Q : mQ} {pc : Nat} {ls r : List mV} {h : mH} {c y n a : Nat} {a0 a1 a2 a3 a4 a5 a6 : mV} {lm : Nat × Nat} {Q1 : mQ} (hc : cd pc = o_inv c y 7 n) (h0 : (h.1.2.2 a).1 = c) (hr : mcat r ≤ 8) (hl : h.1.1 ≤ lm.1 ∧ h.1.2.1 ≤ lm.2 ∧ lm.1 ≤ lim.1 ∧ lm.2 ≤ lim.2) (h5 : C y (vr a :: [a0, a1, a2, a3, a4, a5, a6]) h lm Q1) (k9 : ∀ o h1, Q1 o h1 → wp C cd lim Q n ls (o.toList ++ r) h1) : wp C cd lim Q pc ls (a6 :: a5 :: a4 :: a3 :: a2 :: a1 :: a0 :: vr a :: r) h := wp_step hc (mo_inv c y 7 n) ⟨a, [a0, a1, a2, a3, a4, a5, a6], r, lm, Q1, rfl, rfl, h0, hr, hl, h5, k9⟩
theorem s_sta7 {C : mC} {cd : Nat → mT} {lim : Nat × Nat} {Q : mQ} {pc : Nat} {ls r : List mV} {h : mH} {y n : Nat} {a0 a1 a2 a3 a4 a5 a6 : mV} {lm : Nat × Nat} {Q1 : mQ} (hc : cd pc = o_sta y 7 n) (hr : mcat r ≤ 8) (hl : h.1.1 ≤ lm.1 ∧ h.1.2.1 ≤ lm.2 ∧ lm.1 ≤ lim.1 ∧ lm.2 ≤ lim.2) (h5 : C y [a0, a1, a2, a3, a4, a5, a6] h lm Q1) (k9 : ∀ o h1, Q1 o h1 → wp C cd lim Q n ls (o.toList ++ r) h1) : wp C cd lim Q pc ls (a6 :: a5 :: a4 :: a3 :: a2 :: a1 :: a0 :: r) h := wp_step hc (mo_sta y 7 n) ⟨[a0, a1, a2, a3, a4, a5, a6], r, lm, Q1, rfl, rfl, hr, hl, h5, k9⟩
theorem s_inv7S {C : mC} {cd : Nat → mT} {Q : mQ} {pc : Nat} {ls r : List mV} {h : mH} {c y n a : Nat} {a0 a1 a2 a3 a4 a5 a6 : mV} {Q1 : mQ} (hc : cd pc = o_inv c y 7 n) (h0 : (h.1.2.2 a).1 = c) (hr : mcat r ≤ 8)  (h5 : C y (vr a :: [a0, a1, a2, a3, a4, a5, a6]) h (h.1.1, h.1.2.1) Q1) (k9 : ∀ o h1, Q1 o h1 → wp C cd (h.1.1, h.1.2.1) Q n ls (o.toList ++ r) h1) : wp C cd (h.1.1, h.1.2.1) Q pc ls (a6 :: a5 :: a4 :: a3 :: a2 :: a1 :: a0 :: vr a :: r) h := wp_step hc (mo_inv c y 7 n) ⟨a, [a0, a1, a2, a3, a4, a5, a6], r, (h.1.1, h.1.2.1), Q1, rfl, rfl, h0, hr, ⟨Nat.le_refl _, Nat.le_refl _, Nat.le_refl _, Nat.le_refl _⟩, h5, k9⟩
theorem s_sta7S {C : mC} {cd : Nat → mT} {Q : mQ} {pc : Nat} {ls r : List mV} {h : mH} {y n : Nat} {a0 a1 a2 a3 a4 a5 a6 : mV} {Q1 : mQ} (hc : cd pc = o_sta y 7 n) (hr : mcat r ≤ 8)  (h5 : C y [a0, a1, a2, a3, a4, a5, a6] h (h.1.1, h.1.2.1) Q1) (k9 : ∀ o h1, Q1 o h1 → wp C cd (h.1.1, h.1.2.1) Q n ls (o.toList ++ r) h1) : wp C cd (h.1.1, h.1.2.1) Q pc ls (a6 :: a5 :: a4 :: a3 :: a2 :: a1 :: a0 :: r) h := wp_step hc (mo_sta y 7 n) ⟨[a0, a1, a2, a3, a4, a5, a6], r, (h.1.1, h.1.2.1), Q1, rfl, rfl, hr, ⟨Nat.le_refl _, Nat.le_refl _, Nat.le_refl _, Nat.le_refl _⟩, h5, k9⟩
def o_iret : mT := fun _ lim Q _ _ st h => ∃ (a : Int), st = [vi a] ∧ h.1.1 = lim.1 ∧ h.1.2.1 = lim.2 ∧ Q (some (vi a)) h
theorem mo_iret : mMono o_iret := fun _ _ _ _ _ _ _ _ _ h => h
theorem s_iret {C : mC} {cd : Nat → mT} {lim : Nat × Nat} {Q : mQ} {pc : Nat} {ls : List mV} {h : mH} {a : Int} (hc : cd pc = o_iret) (e1 : h.1.1 = lim.1) (e2 : h.1.2.1 = lim.2) (k9 : Q (some (vi a)) h) : wp C cd lim Q pc ls [vi a] h := wp_step hc mo_iret ⟨a, rfl, e1, e2, k9⟩
def o_zret : mT := fun _ lim Q _ _ st h => ∃ (a : Int), st = [vi a] ∧ (a = 0 ∨ a = 1) ∧ h.1.1 = lim.1 ∧ h.1.2.1 = lim.2 ∧ Q (some (vi a)) h
theorem mo_zret : mMono o_zret := fun _ _ _ _ _ _ _ _ _ h => h
theorem s_zret {C : mC} {cd : Nat → mT} {lim : Nat × Nat} {Q : mQ} {pc : Nat} {ls : List mV} {h : mH} {a : Int} (hc : cd pc = o_zret) (hz : a = 0 ∨ a = 1) (e1 : h.1.1 = lim.1) (e2 : h.1.2.1 = lim.2) (k9 : Q (some (vi a)) h) : wp C cd lim Q pc ls [vi a] h := wp_step hc mo_zret ⟨a, rfl, hz, e1, e2, k9⟩
def o_lret : mT := fun _ lim Q _ _ st h => ∃ (a : Int), st = [vl a] ∧ h.1.1 = lim.1 ∧ h.1.2.1 = lim.2 ∧ Q (some (vl a)) h
theorem mo_lret : mMono o_lret := fun _ _ _ _ _ _ _ _ _ h => h
theorem s_lret {C : mC} {cd : Nat → mT} {lim : Nat × Nat} {Q : mQ} {pc : Nat} {ls : List mV} {h : mH} {a : Int} (hc : cd pc = o_lret) (e1 : h.1.1 = lim.1) (e2 : h.1.2.1 = lim.2) (k9 : Q (some (vl a)) h) : wp C cd lim Q pc ls [vl a] h := wp_step hc mo_lret ⟨a, rfl, e1, e2, k9⟩
def o_aret : mT := fun _ lim Q _ _ st h => ∃ (b : Nat), st = [vr b] ∧ h.1.1 = lim.1 ∧ h.1.2.1 = lim.2 ∧ Q (some (vr b)) h
theorem mo_aret : mMono o_aret := fun _ _ _ _ _ _ _ _ _ h => h
theorem s_aret {C : mC} {cd : Nat → mT} {lim : Nat × Nat} {Q : mQ} {pc : Nat} {ls : List mV} {h : mH} {b : Nat} (hc : cd pc = o_aret) (e1 : h.1.1 = lim.1) (e2 : h.1.2.1 = lim.2) (k9 : Q (some (vr b)) h) : wp C cd lim Q pc ls [vr b] h := wp_step hc mo_aret ⟨b, rfl, e1, e2, k9⟩
def o_vret : mT := fun _ lim Q _ _ st h => st = [] ∧ h.1.1 = lim.1 ∧ h.1.2.1 = lim.2 ∧ Q none h
theorem mo_vret : mMono o_vret := fun _ _ _ _ _ _ _ _ _ h => h
theorem s_vret {C : mC} {cd : Nat → mT} {lim : Nat × Nat} {Q : mQ} {pc : Nat} {ls : List mV} {h : mH} (hc : cd pc = o_vret) (e1 : h.1.1 = lim.1) (e2 : h.1.2.1 = lim.2) (k9 : Q none h) : wp C cd lim Q pc ls [] h := wp_step hc mo_vret ⟨rfl, e1, e2, k9⟩
def o_end : mT := fun _ _ Q _ _ st h => ∃ a : Int, st = [vi a] ∧ (a = 0 ∨ a = 1) ∧ Q (some (vi a)) h
theorem mo_end : mMono o_end := fun _ _ _ _ _ _ _ _ _ h => h
theorem s_end {C : mC} {cd : Nat → mT} {lim : Nat × Nat} {Q : mQ} {pc : Nat} {ls : List mV} {h : mH} {a : Int} (hc : cd pc = o_end) (hz : a = 0 ∨ a = 1) (k9 : Q (some (vi a)) h) : wp C cd lim Q pc ls [vi a] h := wp_step hc mo_end ⟨a, rfl, hz, k9⟩
