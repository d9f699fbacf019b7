/-! phase 2: both objects stand -/
def S0 : mS := Sx 151 6477
abbrev L0 : Nat × Nat := (S0.1, S0.2.1)
/-- the references: all are final but the places of the PLANS and the draft -/
def RR (P : Int → Nat) (dr : Nat) : Nat → Int → Nat := fun a k => if a = 43 then P k else if a = 35 ∧ k = 2 then dr else Rx lR137 a k
def P00 : Int → Nat := fun k => Rx lR137 43 k
theorem RR_0 : Rx lR137 = RR P00 37 := by
  funext a k
  unfold RR P00
  by_cases c1 : a = 43
  · rw [if_pos c1, c1]
  · rw [if_neg c1]
    by_cases c2 : a = 35 ∧ k = 2
    · rw [if_pos c2, c2.1, c2.2]
      decide +kernel
    · rw [if_neg c2]
theorem RR_pl {P : Int → Nat} {dr z : Nat} {k : Int} : upR (RR P dr) 43 k z = RR (fun j => if j = k then z else P j) dr := by
  funext a j
  unfold upR RR
  by_cases c1 : a = 43
  · simp [c1]
  · simp [c1]
theorem RR_dr {P : Int → Nat} {dr z : Nat} : upR (RR P dr) 35 2 z = RR P z := by
  funext a j
  unfold upR RR
  by_cases c1 : a = 43
  · subst c1
    simp
  · simp only [c1, if_false]
    by_cases c2 : a = 35 ∧ j = 2
    · simp [c2]
    · simp [c2]
theorem rr_P {P : Int → Nat} {dr : Nat} {k : Int} : RR P dr 43 k = P k := if_pos rfl
theorem rr_dr {P : Int → Nat} {dr : Nat} : RR P dr 35 2 = dr := rfl
theorem rr_16_0 {P : Int → Nat} {dr : Nat} : RR P dr 16 0 = 17 := by
  show (if 16 = 43 then _ else if 16 = 35 ∧ (0 : Int) = 2 then _ else Rx lR137 16 0) = 17
  rw [if_neg (by decide), if_neg (by decide)]
  decide +kernel
theorem rr_16_1 {P : Int → Nat} {dr : Nat} : RR P dr 16 1 = 35 := by
  show (if 16 = 43 then _ else if 16 = 35 ∧ (1 : Int) = 2 then _ else Rx lR137 16 1) = 35
  rw [if_neg (by decide), if_neg (by decide)]
  decide +kernel
theorem rr_16_2 {P : Int → Nat} {dr : Nat} : RR P dr 16 2 = 42 := by
  show (if 16 = 43 then _ else if 16 = 35 ∧ (2 : Int) = 2 then _ else Rx lR137 16 2) = 42
  rw [if_neg (by decide), if_neg (by decide)]
  decide +kernel
theorem rr_16_3 {P : Int → Nat} {dr : Nat} : RR P dr 16 3 = 69 := by
  show (if 16 = 43 then _ else if 16 = 35 ∧ (3 : Int) = 2 then _ else Rx lR137 16 3) = 69
  rw [if_neg (by decide), if_neg (by decide)]
  decide +kernel
theorem rr_16_4 {P : Int → Nat} {dr : Nat} : RR P dr 16 4 = 118 := by
  show (if 16 = 43 then _ else if 16 = 35 ∧ (4 : Int) = 2 then _ else Rx lR137 16 4) = 118
  rw [if_neg (by decide), if_neg (by decide)]
  decide +kernel
theorem rr_16_5 {P : Int → Nat} {dr : Nat} : RR P dr 16 5 = 123 := by
  show (if 16 = 43 then _ else if 16 = 35 ∧ (5 : Int) = 2 then _ else Rx lR137 16 5) = 123
  rw [if_neg (by decide), if_neg (by decide)]
  decide +kernel
theorem rr_16_6 {P : Int → Nat} {dr : Nat} : RR P dr 16 6 = 126 := by
  show (if 16 = 43 then _ else if 16 = 35 ∧ (6 : Int) = 2 then _ else Rx lR137 16 6) = 126
  rw [if_neg (by decide), if_neg (by decide)]
  decide +kernel
theorem rr_17_2 {P : Int → Nat} {dr : Nat} : RR P dr 17 2 = 18 := by
  show (if 17 = 43 then _ else if 17 = 35 ∧ (2 : Int) = 2 then _ else Rx lR137 17 2) = 18
  rw [if_neg (by decide), if_neg (by decide)]
  decide +kernel
theorem rr_17_7 {P : Int → Nat} {dr : Nat} : RR P dr 17 7 = 19 := by
  show (if 17 = 43 then _ else if 17 = 35 ∧ (7 : Int) = 2 then _ else Rx lR137 17 7) = 19
  rw [if_neg (by decide), if_neg (by decide)]
  decide +kernel
theorem rr_17_8 {P : Int → Nat} {dr : Nat} : RR P dr 17 8 = 26 := by
  show (if 17 = 43 then _ else if 17 = 35 ∧ (8 : Int) = 2 then _ else Rx lR137 17 8) = 26
  rw [if_neg (by decide), if_neg (by decide)]
  decide +kernel
theorem rr_35_0 {P : Int → Nat} {dr : Nat} : RR P dr 35 0 = 36 := by
  show (if 35 = 43 then _ else if 35 = 35 ∧ (0 : Int) = 2 then _ else Rx lR137 35 0) = 36
  rw [if_neg (by decide), if_neg (by decide)]
  decide +kernel
theorem rr_42_0 {P : Int → Nat} {dr : Nat} : RR P dr 42 0 = 43 := by
  show (if 42 = 43 then _ else if 42 = 35 ∧ (0 : Int) = 2 then _ else Rx lR137 42 0) = 43
  rw [if_neg (by decide), if_neg (by decide)]
  decide +kernel
theorem rr_69_0 {P : Int → Nat} {dr : Nat} : RR P dr 69 0 = 70 := by
  show (if 69 = 43 then _ else if 69 = 35 ∧ (0 : Int) = 2 then _ else Rx lR137 69 0) = 70
  rw [if_neg (by decide), if_neg (by decide)]
  decide +kernel
theorem rr_69_1 {P : Int → Nat} {dr : Nat} : RR P dr 69 1 = 76 := by
  show (if 69 = 43 then _ else if 69 = 35 ∧ (1 : Int) = 2 then _ else Rx lR137 69 1) = 76
  rw [if_neg (by decide), if_neg (by decide)]
  decide +kernel
theorem rr_69_4 {P : Int → Nat} {dr : Nat} : RR P dr 69 4 = 17 := by
  show (if 69 = 43 then _ else if 69 = 35 ∧ (4 : Int) = 2 then _ else Rx lR137 69 4) = 17
  rw [if_neg (by decide), if_neg (by decide)]
  decide +kernel
theorem rr_69_5 {P : Int → Nat} {dr : Nat} : RR P dr 69 5 = 42 := by
  show (if 69 = 43 then _ else if 69 = 35 ∧ (5 : Int) = 2 then _ else Rx lR137 69 5) = 42
  rw [if_neg (by decide), if_neg (by decide)]
  decide +kernel
theorem rr_69_6 {P : Int → Nat} {dr : Nat} : RR P dr 69 6 = 77 := by
  show (if 69 = 43 then _ else if 69 = 35 ∧ (6 : Int) = 2 then _ else Rx lR137 69 6) = 77
  rw [if_neg (by decide), if_neg (by decide)]
  decide +kernel
theorem rr_69_7 {P : Int → Nat} {dr : Nat} : RR P dr 69 7 = 78 := by
  show (if 69 = 43 then _ else if 69 = 35 ∧ (7 : Int) = 2 then _ else Rx lR137 69 7) = 78
  rw [if_neg (by decide), if_neg (by decide)]
  decide +kernel
theorem rr_69_8 {P : Int → Nat} {dr : Nat} : RR P dr 69 8 = 79 := by
  show (if 69 = 43 then _ else if 69 = 35 ∧ (8 : Int) = 2 then _ else Rx lR137 69 8) = 79
  rw [if_neg (by decide), if_neg (by decide)]
  decide +kernel
theorem rr_69_9 {P : Int → Nat} {dr : Nat} : RR P dr 69 9 = 80 := by
  show (if 69 = 43 then _ else if 69 = 35 ∧ (9 : Int) = 2 then _ else Rx lR137 69 9) = 80
  rw [if_neg (by decide), if_neg (by decide)]
  decide +kernel
theorem rr_69_10 {P : Int → Nat} {dr : Nat} : RR P dr 69 10 = 81 := by
  show (if 69 = 43 then _ else if 69 = 35 ∧ (10 : Int) = 2 then _ else Rx lR137 69 10) = 81
  rw [if_neg (by decide), if_neg (by decide)]
  decide +kernel
theorem rr_69_11 {P : Int → Nat} {dr : Nat} : RR P dr 69 11 = 114 := by
  show (if 69 = 43 then _ else if 69 = 35 ∧ (11 : Int) = 2 then _ else Rx lR137 69 11) = 114
  rw [if_neg (by decide), if_neg (by decide)]
  decide +kernel
theorem rr_69_12 {P : Int → Nat} {dr : Nat} : RR P dr 69 12 = 115 := by
  show (if 69 = 43 then _ else if 69 = 35 ∧ (12 : Int) = 2 then _ else Rx lR137 69 12) = 115
  rw [if_neg (by decide), if_neg (by decide)]
  decide +kernel
theorem rr_69_13 {P : Int → Nat} {dr : Nat} : RR P dr 69 13 = 116 := by
  show (if 69 = 43 then _ else if 69 = 35 ∧ (13 : Int) = 2 then _ else Rx lR137 69 13) = 116
  rw [if_neg (by decide), if_neg (by decide)]
  decide +kernel
theorem rr_69_14 {P : Int → Nat} {dr : Nat} : RR P dr 69 14 = 117 := by
  show (if 69 = 43 then _ else if 69 = 35 ∧ (14 : Int) = 2 then _ else Rx lR137 69 14) = 117
  rw [if_neg (by decide), if_neg (by decide)]
  decide +kernel
theorem rr_118_1 {P : Int → Nat} {dr : Nat} : RR P dr 118 1 = 119 := by
  show (if 118 = 43 then _ else if 118 = 35 ∧ (1 : Int) = 2 then _ else Rx lR137 118 1) = 119
  rw [if_neg (by decide), if_neg (by decide)]
  decide +kernel
theorem rr_118_2 {P : Int → Nat} {dr : Nat} : RR P dr 118 2 = 120 := by
  show (if 118 = 43 then _ else if 118 = 35 ∧ (2 : Int) = 2 then _ else Rx lR137 118 2) = 120
  rw [if_neg (by decide), if_neg (by decide)]
  decide +kernel
theorem rr_118_3 {P : Int → Nat} {dr : Nat} : RR P dr 118 3 = 17 := by
  show (if 118 = 43 then _ else if 118 = 35 ∧ (3 : Int) = 2 then _ else Rx lR137 118 3) = 17
  rw [if_neg (by decide), if_neg (by decide)]
  decide +kernel
theorem rr_118_4 {P : Int → Nat} {dr : Nat} : RR P dr 118 4 = 42 := by
  show (if 118 = 43 then _ else if 118 = 35 ∧ (4 : Int) = 2 then _ else Rx lR137 118 4) = 42
  rw [if_neg (by decide), if_neg (by decide)]
  decide +kernel
theorem rr_118_5 {P : Int → Nat} {dr : Nat} : RR P dr 118 5 = 121 := by
  show (if 118 = 43 then _ else if 118 = 35 ∧ (5 : Int) = 2 then _ else Rx lR137 118 5) = 121
  rw [if_neg (by decide), if_neg (by decide)]
  decide +kernel
theorem rr_118_6 {P : Int → Nat} {dr : Nat} : RR P dr 118 6 = 122 := by
  show (if 118 = 43 then _ else if 118 = 35 ∧ (6 : Int) = 2 then _ else Rx lR137 118 6) = 122
  rw [if_neg (by decide), if_neg (by decide)]
  decide +kernel
theorem rr_123_0 {P : Int → Nat} {dr : Nat} : RR P dr 123 0 = 124 := by
  show (if 123 = 43 then _ else if 123 = 35 ∧ (0 : Int) = 2 then _ else Rx lR137 123 0) = 124
  rw [if_neg (by decide), if_neg (by decide)]
  decide +kernel
theorem rr_123_1 {P : Int → Nat} {dr : Nat} : RR P dr 123 1 = 125 := by
  show (if 123 = 43 then _ else if 123 = 35 ∧ (1 : Int) = 2 then _ else Rx lR137 123 1) = 125
  rw [if_neg (by decide), if_neg (by decide)]
  decide +kernel
theorem rr_127_3 {P : Int → Nat} {dr : Nat} : RR P dr 127 3 = 128 := by
  show (if 127 = 43 then _ else if 127 = 35 ∧ (3 : Int) = 2 then _ else Rx lR137 127 3) = 128
  rw [if_neg (by decide), if_neg (by decide)]
  decide +kernel
theorem rr_127_4 {P : Int → Nat} {dr : Nat} : RR P dr 127 4 = 129 := by
  show (if 127 = 43 then _ else if 127 = 35 ∧ (4 : Int) = 2 then _ else Rx lR137 127 4) = 129
  rw [if_neg (by decide), if_neg (by decide)]
  decide +kernel
theorem rr_127_5 {P : Int → Nat} {dr : Nat} : RR P dr 127 5 = 130 := by
  show (if 127 = 43 then _ else if 127 = 35 ∧ (5 : Int) = 2 then _ else Rx lR137 127 5) = 130
  rw [if_neg (by decide), if_neg (by decide)]
  decide +kernel
theorem rr_127_9 {P : Int → Nat} {dr : Nat} : RR P dr 127 9 = 131 := by
  show (if 127 = 43 then _ else if 127 = 35 ∧ (9 : Int) = 2 then _ else Rx lR137 127 9) = 131
  rw [if_neg (by decide), if_neg (by decide)]
  decide +kernel
theorem rr_127_11 {P : Int → Nat} {dr : Nat} : RR P dr 127 11 = 132 := by
  show (if 127 = 43 then _ else if 127 = 35 ∧ (11 : Int) = 2 then _ else Rx lR137 127 11) = 132
  rw [if_neg (by decide), if_neg (by decide)]
  decide +kernel
theorem rr_127_13 {P : Int → Nat} {dr : Nat} : RR P dr 127 13 = 133 := by
  show (if 127 = 43 then _ else if 127 = 35 ∧ (13 : Int) = 2 then _ else Rx lR137 127 13) = 133
  rw [if_neg (by decide), if_neg (by decide)]
  decide +kernel
theorem rr_127_15 {P : Int → Nat} {dr : Nat} : RR P dr 127 15 = 134 := by
  show (if 127 = 43 then _ else if 127 = 35 ∧ (15 : Int) = 2 then _ else Rx lR137 127 15) = 134
  rw [if_neg (by decide), if_neg (by decide)]
  decide +kernel
theorem rr_127_16 {P : Int → Nat} {dr : Nat} : RR P dr 127 16 = 135 := by
  show (if 127 = 43 then _ else if 127 = 35 ∧ (16 : Int) = 2 then _ else Rx lR137 127 16) = 135
  rw [if_neg (by decide), if_neg (by decide)]
  decide +kernel
theorem rr_127_17 {P : Int → Nat} {dr : Nat} : RR P dr 127 17 = 136 := by
  show (if 127 = 43 then _ else if 127 = 35 ∧ (17 : Int) = 2 then _ else Rx lR137 127 17) = 136
  rw [if_neg (by decide), if_neg (by decide)]
  decide +kernel
theorem rr_127_20 {P : Int → Nat} {dr : Nat} : RR P dr 127 20 = 137 := by
  show (if 127 = 43 then _ else if 127 = 35 ∧ (20 : Int) = 2 then _ else Rx lR137 127 20) = 137
  rw [if_neg (by decide), if_neg (by decide)]
  decide +kernel
theorem rr_127_22 {P : Int → Nat} {dr : Nat} : RR P dr 127 22 = 138 := by
  show (if 127 = 43 then _ else if 127 = 35 ∧ (22 : Int) = 2 then _ else Rx lR137 127 22) = 138
  rw [if_neg (by decide), if_neg (by decide)]
  decide +kernel
theorem rr_127_23 {P : Int → Nat} {dr : Nat} : RR P dr 127 23 = 139 := by
  show (if 127 = 43 then _ else if 127 = 35 ∧ (23 : Int) = 2 then _ else Rx lR137 127 23) = 139
  rw [if_neg (by decide), if_neg (by decide)]
  decide +kernel
theorem rr_127_24 {P : Int → Nat} {dr : Nat} : RR P dr 127 24 = 140 := by
  show (if 127 = 43 then _ else if 127 = 35 ∧ (24 : Int) = 2 then _ else Rx lR137 127 24) = 140
  rw [if_neg (by decide), if_neg (by decide)]
  decide +kernel
theorem rr_127_25 {P : Int → Nat} {dr : Nat} : RR P dr 127 25 = 141 := by
  show (if 127 = 43 then _ else if 127 = 35 ∧ (25 : Int) = 2 then _ else Rx lR137 127 25) = 141
  rw [if_neg (by decide), if_neg (by decide)]
  decide +kernel
theorem rr_127_26 {P : Int → Nat} {dr : Nat} : RR P dr 127 26 = 142 := by
  show (if 127 = 43 then _ else if 127 = 35 ∧ (26 : Int) = 2 then _ else Rx lR137 127 26) = 142
  rw [if_neg (by decide), if_neg (by decide)]
  decide +kernel
theorem rr_127_29 {P : Int → Nat} {dr : Nat} : RR P dr 127 29 = 143 := by
  show (if 127 = 43 then _ else if 127 = 35 ∧ (29 : Int) = 2 then _ else Rx lR137 127 29) = 143
  rw [if_neg (by decide), if_neg (by decide)]
  decide +kernel
theorem rr_127_30 {P : Int → Nat} {dr : Nat} : RR P dr 127 30 = 144 := by
  show (if 127 = 43 then _ else if 127 = 35 ∧ (30 : Int) = 2 then _ else Rx lR137 127 30) = 144
  rw [if_neg (by decide), if_neg (by decide)]
  decide +kernel
theorem rr_127_32 {P : Int → Nat} {dr : Nat} : RR P dr 127 32 = 145 := by
  show (if 127 = 43 then _ else if 127 = 35 ∧ (32 : Int) = 2 then _ else Rx lR137 127 32) = 145
  rw [if_neg (by decide), if_neg (by decide)]
  decide +kernel
theorem rr_127_33 {P : Int → Nat} {dr : Nat} : RR P dr 127 33 = 146 := by
  show (if 127 = 43 then _ else if 127 = 35 ∧ (33 : Int) = 2 then _ else Rx lR137 127 33) = 146
  rw [if_neg (by decide), if_neg (by decide)]
  decide +kernel
theorem rr_127_34 {P : Int → Nat} {dr : Nat} : RR P dr 127 34 = 147 := by
  show (if 127 = 43 then _ else if 127 = 35 ∧ (34 : Int) = 2 then _ else Rx lR137 127 34) = 147
  rw [if_neg (by decide), if_neg (by decide)]
  decide +kernel
theorem rr_127_35 {P : Int → Nat} {dr : Nat} : RR P dr 127 35 = 148 := by
  show (if 127 = 43 then _ else if 127 = 35 ∧ (35 : Int) = 2 then _ else Rx lR137 127 35) = 148
  rw [if_neg (by decide), if_neg (by decide)]
  decide +kernel
theorem rr_127_37 {P : Int → Nat} {dr : Nat} : RR P dr 127 37 = 149 := by
  show (if 127 = 43 then _ else if 127 = 35 ∧ (37 : Int) = 2 then _ else Rx lR137 127 37) = 149
  rw [if_neg (by decide), if_neg (by decide)]
  decide +kernel
theorem rr_127_38 {P : Int → Nat} {dr : Nat} : RR P dr 127 38 = 150 := by
  show (if 127 = 43 then _ else if 127 = 35 ∧ (38 : Int) = 2 then _ else Rx lR137 127 38) = 150
  rw [if_neg (by decide), if_neg (by decide)]
  decide +kernel
theorem rr_tg {P : Int → Nat} {dr : Nat} {k : Int} (h0 : 0 ≤ k) (h1 : k < 8) : RR P dr 18 k = 27 + k.toNat := by
  have key : ∀ j, j < 8 → Rx lR137 18 (j : Nat) = 27 + j := by decide +kernel
  have := key k.toNat (by omega)
  rw [Int.toNat_of_nonneg h0] at this
  show (if 18 = 43 then _ else if 18 = 35 ∧ k = 2 then _ else Rx lR137 18 k) = _
  rw [if_neg (by decide), if_neg (fun q => absurd q.1 (by decide))]
  exact this
theorem rr_sk {P : Int → Nat} {dr : Nat} {k : Int} (h0 : 0 ≤ k) (h1 : k < 6) : RR P dr 19 k = 20 + k.toNat := by
  have key : ∀ j, j < 6 → Rx lR137 19 (j : Nat) = 20 + j := by decide +kernel
  have := key k.toNat (by omega)
  rw [Int.toNat_of_nonneg h0] at this
  show (if 19 = 43 then _ else if 19 = 35 ∧ k = 2 then _ else Rx lR137 19 k) = _
  rw [if_neg (by decide), if_neg (fun q => absurd q.1 (by decide))]
  exact this
theorem rr_mk {P : Int → Nat} {dr : Nat} {k : Int} (h0 : 0 ≤ k) (h1 : k < 5) : RR P dr 70 k = 71 + k.toNat := by
  have key : ∀ j, j < 5 → Rx lR137 70 (j : Nat) = 71 + j := by decide +kernel
  have := key k.toNat (by omega)
  rw [Int.toNat_of_nonneg h0] at this
  show (if 70 = 43 then _ else if 70 = 35 ∧ k = 2 then _ else Rx lR137 70 k) = _
  rw [if_neg (by decide), if_neg (fun q => absurd q.1 (by decide))]
  exact this
theorem rr_fi {P : Int → Nat} {dr : Nat} {k : Int} (h0 : 0 ≤ k) (h1 : k < 32) : RR P dr 81 k = 82 + k.toNat := by
  have key : ∀ j, j < 32 → Rx lR137 81 (j : Nat) = 82 + j := by decide +kernel
  have := key k.toNat (by omega)
  rw [Int.toNat_of_nonneg h0] at this
  show (if 81 = 43 then _ else if 81 = 35 ∧ k = 2 then _ else Rx lR137 81 k) = _
  rw [if_neg (by decide), if_neg (fun q => absurd q.1 (by decide))]
  exact this
/-- the cells of PLANS -/
def isPl (a : Nat) : Prop := a = 37 ∨ a = 44 ∨ a = 49 ∨ a = 54 ∨ a = 59 ∨ a = 64
theorem pl_sh {a : Nat} (h : isPl a) : (S0.2.2 a).1 = 5 := by rcases h with e | e | e | e | e | e <;> (rw [e]; rfl)
theorem pl_sa {a : Nat} (h : isPl a) : S0.2.2 (a + 1) = (24, 3) := by rcases h with e | e | e | e | e | e <;> (rw [e]; rfl)
theorem pl_st {a j : Nat} (h : isPl a) (hj : j < 3) : (S0.2.2 (a + 2 + j)).1 = 6 := by
  have key : ∀ j, j < 3 → (S0.2.2 (37 + 2 + j)).1 = 6 ∧ (S0.2.2 (44 + 2 + j)).1 = 6 ∧ (S0.2.2 (49 + 2 + j)).1 = 6 ∧ (S0.2.2 (54 + 2 + j)).1 = 6 ∧ (S0.2.2 (59 + 2 + j)).1 = 6 ∧ (S0.2.2 (64 + 2 + j)).1 = 6 := by decide +kernel
  obtain ⟨k1, k2, k3, k4, k5, k6⟩ := key j hj
  rcases h with e | e | e | e | e | e <;> (rw [e]; assumption)
theorem rr_st5 {P : Int → Nat} {dr a : Nat} (h : isPl a) : RR P dr a 5 = a + 1 := by
  have key : Rx lR137 37 5 = 38 ∧ Rx lR137 44 5 = 45 ∧ Rx lR137 49 5 = 50 ∧ Rx lR137 54 5 = 55 ∧ Rx lR137 59 5 = 60 ∧ Rx lR137 64 5 = 65 := by decide +kernel
  obtain ⟨k1, k2, k3, k4, k5, k6⟩ := key
  rcases h with e | e | e | e | e | e <;> (subst e; show (if _ = 43 then _ else if _ = 35 ∧ (5 : Int) = 2 then _ else Rx lR137 _ 5) = _; rw [if_neg (by decide), if_neg (by decide)]; assumption)
theorem rr_stj {P : Int → Nat} {dr a : Nat} {k : Int} (h : isPl a) (h0 : 0 ≤ k) (h1 : k < 3) : RR P dr (a + 1) k = a + 2 + k.toNat := by
  have key : ∀ j, j < 3 → Rx lR137 38 (j : Nat) = 39 + j ∧ Rx lR137 45 (j : Nat) = 46 + j ∧ Rx lR137 50 (j : Nat) = 51 + j ∧ Rx lR137 55 (j : Nat) = 56 + j ∧ Rx lR137 60 (j : Nat) = 61 + j ∧ Rx lR137 65 (j : Nat) = 66 + j := by decide +kernel
  obtain ⟨k1, k2, k3, k4, k5, k6⟩ := key k.toNat (by omega)
  rw [Int.toNat_of_nonneg h0] at k1 k2 k3 k4 k5 k6
  rcases h with e | e | e | e | e | e <;> (subst e; show (if _ = 43 then _ else if _ = 35 ∧ k = 2 then _ else Rx lR137 _ k) = _; rw [if_neg (by decide), if_neg (fun q => absurd q.1 (by decide))]; assumption)
theorem tg_sh {t : Nat} (h : t < 8) : (S0.2.2 (27 + t)).1 = 7 := by
  have key : ∀ t, t < 8 → (S0.2.2 (27 + t)).1 = 7 := by decide +kernel
  exact key t h
theorem sk_sh {t : Nat} (h : t < 6) : S0.2.2 (20 + t) = (20, 12) := by
  have key : ∀ t, t < 6 → S0.2.2 (20 + t) = (20, 12) := by decide +kernel
  exact key t h
theorem mk_sh {t : Nat} (h : t < 5) : S0.2.2 (71 + t) = (20, 112) := by
  have key : ∀ t, t < 5 → S0.2.2 (71 + t) = (20, 112) := by decide +kernel
  exact key t h
theorem fi_sh {t : Nat} (h : t < 32) : S0.2.2 (82 + t) = (20, 5) := by
  have key : ∀ t, t < 32 → S0.2.2 (82 + t) = (20, 5) := by decide +kernel
  exact key t h
/-- a truth as a number -/
def b2i (p : Prop) [Decidable p] : Int := if p then 1 else 0
theorem b2i_01 (p : Prop) [Decidable p] : b2i p = 0 ∨ b2i p = 1 := by unfold b2i; by_cases h : p <;> simp [h]
theorem b2i_R (p : Prop) [Decidable p] : inR (b2i p) := by rcases b2i_01 p with e | e <;> (rw [e]; constructor <;> decide)
theorem b2i_t {p : Prop} [Decidable p] (h : p) : b2i p = 1 := if_pos h
theorem b2i_f {p : Prop} [Decidable p] (h : ¬ p) : b2i p = 0 := if_neg h
theorem b2i_congr {p q : Prop} [Decidable p] [Decidable q] (h : p ↔ q) : b2i p = b2i q := by unfold b2i; by_cases c1 : p <;> simp [c1, h.symm] <;> simp [h.mp] <;> simp_all
section ZB
variable {C : mC} {cd : Nat → mT} {lim : Nat × Nat} {Q : mQ} {pc t n : Nat} {ls r : List mV} {h : mH} {p : Prop}
theorem z_ifeqb [Decidable p] (hc : cd pc = o_ifeq t n) (k8 : ¬ p → wp C cd lim Q t ls r h) (k9 : p → wp C cd lim Q n ls r h) : wp C cd lim Q pc ls (vi (b2i p) :: r) h :=
  s_ifeq hc (b2i_R p) (fun e => k8 (fun q => by rw [b2i_t q] at e; exact absurd e (by decide))) (fun e => k9 (by
    by_cases q : p
    · exact q
    · exact absurd (b2i_f q) e))
theorem z_ifneb [Decidable p] (hc : cd pc = o_ifne t n) (k8 : p → wp C cd lim Q t ls r h) (k9 : ¬ p → wp C cd lim Q n ls r h) : wp C cd lim Q pc ls (vi (b2i p) :: r) h :=
  s_ifne hc (b2i_R p) (fun e => k8 (by
    by_cases q : p
    · exact q
    · exact absurd (b2i_f q) e)) (fun e => k9 (fun q => by rw [b2i_t q] at e; exact absurd e (by decide)))
end ZB
/-- the number on top gets another form -/
theorem z_eqi {C : mC} {cd : Nat → mT} {lim : Nat × Nat} {Q : mQ} {pc : Nat} {ls r : List mV} {h : mH} {a b : Int} (e : a = b) (k : wp C cd lim Q pc ls (vi b :: r) h) : wp C cd lim Q pc ls (vi a :: r) h := e ▸ k
theorem z_eqr {C : mC} {cd : Nat → mT} {lim : Nat × Nat} {Q : mQ} {pc : Nat} {ls r : List mV} {h : mH} {a b : Nat} (e : a = b) (k : wp C cd lim Q pc ls (vr b :: r) h) : wp C cd lim Q pc ls (vr a :: r) h := e ▸ k
/-- a call in phase 2 -/
abbrev cal (d y : Nat) (as : List mV) (I : Nat → Int → Int) (P : Int → Nat) (dr : Nat) (Q : mQ) : Prop := mcall MT CD d y as (S0, I, RR P dr) L0 Q
/-- a contract of a method that only answers -/
abbrev ans (v : mV) (I : Nat → Int → Int) (P : Int → Nat) (dr : Nat) : mQ := fun o h => o = some v ∧ h = (S0, I, RR P dr)
theorem cal_in {d y : Nat} {as : List mV} {I : Nat → Int → Int} {P : Int → Nat} {dr : Nat} {Q : mQ} (h : (ent as).length ≤ (MT y).2.2.1) (k : wp (mcall MT CD d) (CD y) L0 Q 0 (entL (MT y).2.2.1 as) [] (S0, I, RR P dr)) : cal (d + 1) y as I P dr Q := ⟨h, k⟩
theorem inR_lit {z : Int} (h : (decide (-2147483648 ≤ z) && decide (z < 2147483648)) = true) : inR z := by
  simp only [Bool.and_eq_true, decide_eq_true_eq] at h
  exact h
