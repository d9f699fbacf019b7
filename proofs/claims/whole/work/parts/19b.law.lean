/-! the law: what holds between two steps -/
abbrev agL (xs : Nat → Int32) (i k : Int) : Int := (xs (i + k).toNat).toInt
theorem agR {xs : Nat → Int32} {i k : Int} : inR (agL xs i k) := by
  have h1 := Int32.le_toInt (xs (i + k).toNat)
  have h2 := Int32.toInt_lt (xs (i + k).toNat)
  show inR (xs (i + k).toNat).toInt
  exact ⟨by omega, by omega⟩
theorem argL {C : mC} {cd : Nat → mT} {lim : Nat × Nat} {Q : mQ} {p p1 p2 p3 p4 p5 : Nat} {r : List mV} {h : mH} {xs : Nat → Int32} {L : Nat} {i k : Int} (h1 : cd p = o_ald 0 p1) (h2 : cd p1 = o_ild 3 p2) (h3 : cd p2 = o_push (vi k) p3) (h4 : cd p3 = o_iadd p4) (h5 : cd p4 = o_sld xs L p5) (b0 : 0 ≤ i + k) (b1 : i + k < L) (k9 : wp C cd lim Q p5 [vr 1, vr 16, vr 127, vi i] (vi (agL xs i k) :: r) h) : wp C cd lim Q p [vr 1, vr 16, vr 127, vi i] r h :=
  s_ald h1 rfl (s_ild h2 rfl (s_push h3 (s_iadd h4 (s_sld h5 b0 b1 k9))))
theorem isSt_b {a : Nat} {k : Int} (h : isSt a k = true) : 127 ≤ a := by
  unfold isSt at h
  simp only [Bool.or_eq_true, Bool.and_eq_true, beq_iff_eq, decide_eq_true_eq] at h
  omega
theorem sig_hi {I J : Nat → Int → Int} (k : ∀ a q, 127 ≤ a → J a q = I a q) : sig J = sig I := sig_eq (fun a q h => k a q (isSt_b h))
theorem CG.lo {I J σ : Nat → Int → Int} {P : Int → Nat} {dr : Nat} (hN : WFn σ) (hP : WFp σ) (h : CG I σ P dr) (k : ∀ a q, a < 127 → J a q = I a q) : CG J σ P dr :=
  h.led hN hP (h.2.2.2.1.sg (fun a q _ _ => k a q (by omega)) (fun _ _ _ => rfl)) (fun a q u => k a q (by omega)) (fun _ _ _ _ _ => rfl)
/-- what holds between two steps of the law -/
def InvL (I σ : Nat → Int → Int) (P : Int → Nat) (dr g : Nat) : Prop := sig I = σ ∧ WFs σ ∧ CG I σ P dr ∧ CC σ I g
section IV
variable {I J J2 σ : Nat → Int → Int} {P P2 : Int → Nat} {dr dr2 g : Nat}
theorem InvL.sk {f : Bool} (h : InvL I σ P dr g) (qK : KC f I J) : sig J = σ := (sig_hi qK.2.2).trans h.1
theorem InvL.sb (h : InvL I σ P dr g) (qF : FCb I J) : sig J = σ := (sig_hi (fun a q u => qF a q (by omega) (by omega) (by omega))).trans h.1
theorem InvL.nx {x : mX} (h : InvL I σ P dr g) (hO : GO σ x) (qG : CG J x.2.1 P2 dr2) (qK : KC x.2.2 I J) (q1 : sig J2 = x.2.1) (q2 : ∀ a k, a < 127 → J2 a k = J a k) : InvL J2 x.2.1 P2 dr2 (g + 1) :=
  ⟨q1, hO.1, CG.lo hO.1.1 hO.1.2.2.1 qG q2, ((h.2.2.2.kc h.2.1.1 h.2.1.2.2.1 qK hO.2).k hO.1.2.2.1 (fun a q _ _ => q2 a q (by omega))).up (Nat.le_succ _)⟩
theorem InvL.nd (h : InvL I σ P dr g) (qF : FCb I J) (qC : CC σ J (g + 1)) (q1 : sig J2 = σ) (q2 : ∀ a k, a < 127 → J2 a k = J a k) : InvL J2 σ P dr (g + 1) :=
  ⟨q1, h.2.1, CG.lo h.2.1.1 h.2.1.2.2.1 (CG.b h.2.1.1 h.2.1.2.2.1 h.2.2.1 qF) q2, qC.k h.2.1.2.2.1 (fun a q _ _ => q2 a q (by omega))⟩
end IV
theorem limL_ok : S0.1 ≤ L0.1 ∧ S0.2.1 ≤ L0.2 ∧ L0.1 ≤ limL.1 ∧ L0.2 ≤ limL.2 := ⟨Nat.le_refl _, Nat.le_refl _, Nat.le_of_ble_eq_true rfl, Nat.le_of_ble_eq_true rfl⟩
