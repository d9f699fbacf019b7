section SN9
variable {MT : Nat → mM} {y : mM} {P : Nat × Nat → Nat × Nat → Prop} {G : mE → State → Prop} {pc n : Nat}
theorem sn_lds {j : Nat} (hj : j < 11) (how : y.1.cls = "SharedNights$Form") (hd : decode y.2.1 pc = .ok (.ldc (mIdx j), 2)) (hn : pc + 2 = n) : SndT MT y P G pc (o_push (vr (2 + j)) n) := by
  intro E l p e R s m args below meth c Z C d n0 s0 lim Q X hG hR ls st h H
  obtain ⟨r, rfl, k9⟩ := H
  intro H locs arr cl sl hh hl hS e1 e2
  subst hn
  have hz := X.2.2.2.2.2.1.2.2.2.2.2.2.2.2.2.2.2.1 j hj
  have k9 := k9 H locs arr cl sl hh hl hS e1 e2
  have e9 : mra E (2 + j) = E.2.2.1 (2 + j) := by
    unfold mra
    rw [if_pos (by omega), if_neg (by omega)]
  simp only [List.map_cons, vv_ref (E := E) (a := 2 + j) (by omega), e9] at k9
  exact va_ldcS X.1 X.2.1 (by rw [← how]; exact X.2.2.2.1) hz hd k9
theorem sn_strlen {idx : Nat} (hw : Cond.methodLink y.1.cls idx yJ0_length_8abf5 ∈ mTB) (hd : decode y.2.1 pc = .ok (.invokevirtual idx, 3)) (hn : pc + 3 = n) : SndT MT y P G pc (o_strlen n) := sorry
theorem sn_charAt {idx : Nat} (hw : Cond.methodLink y.1.cls idx yJ0_charAt_5068e ∈ mTB) (hd : decode y.2.1 pc = .ok (.invokevirtual idx, 3)) (hn : pc + 3 = n) : SndT MT y P G pc (o_charAt n) := sorry
end SN9
