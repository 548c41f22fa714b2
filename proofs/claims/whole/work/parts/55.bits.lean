/-! ===== how many bits are set ===== -/
/-- how many of the first bits -/
def pcs (X : Nat) : Nat → Nat
  | 0 => 0
  | m + 1 => pcs X m + (if X.testBit m = true then 1 else 0)
theorem bc_land {a b c d : Nat} (hb : b < 256) (hd : d < 256) : (256 * a + b) &&& (256 * c + d) = 256 * (a &&& c) + (b &&& d) := by
  have hbd : (b &&& d) < 2 ^ 8 := Nat.and_lt_two_pow b hd
  apply Nat.eq_of_testBit_eq
  intro j
  rw [Nat.testBit_and, show (256 : Nat) = 2 ^ 8 from rfl, Nat.testBit_two_pow_mul_add a hb, Nat.testBit_two_pow_mul_add c hd, Nat.testBit_two_pow_mul_add (a &&& c) hbd]
  split
  · rw [Nat.testBit_and]
  · rw [Nat.testBit_and]
theorem bc_land4 {a0 a1 a2 a3 m : Nat} (h0 : a0 < 256) (h1 : a1 < 256) (h2 : a2 < 256) (h3 : a3 < 256) (hm : m < 256) : (a0 + 256 * a1 + 65536 * a2 + 16777216 * a3) &&& (m + 256 * m + 65536 * m + 16777216 * m) = (a0 &&& m) + 256 * (a1 &&& m) + 65536 * (a2 &&& m) + 16777216 * (a3 &&& m) := by
  rw [show a0 + 256 * a1 + 65536 * a2 + 16777216 * a3 = 256 * (256 * (256 * a3 + a2) + a1) + a0 by omega, show m + 256 * m + 65536 * m + 16777216 * m = 256 * (256 * (256 * m + m) + m) + m by omega, bc_land h0 hm, bc_land h1 hm, bc_land h2 hm]
  omega
def b1 (d : Nat) : Nat := (d / 2) &&& 85
def b2 (d : Nat) : Nat := ((d - b1 d) &&& 51) + (((d - b1 d) / 4) &&& 51)
def b3 (d : Nat) : Nat := (b2 d + b2 d / 16) &&& 15
theorem bc_tab : ∀ d < 256, b1 d ≤ d ∧ d - b1 d < 256 ∧ b2 d % 16 ≤ 4 ∧ b2 d / 16 ≤ 4 ∧ b2 d % 16 + b2 d / 16 = pcs d 8 := by decide +kernel
theorem bc_85 : ∀ q < 128, ∀ c < 2, (q + 128 * c) &&& 85 = q &&& 85 := by decide +kernel
theorem bc_51 : ∀ q < 64, ∀ c < 4, (q + 64 * c) &&& 51 = q &&& 51 := by decide +kernel
theorem bc_51b : ∀ q < 256, (q &&& 51) ≤ 51 := by decide +kernel
theorem bc_15 : ∀ q < 256, (q &&& 15) = q % 16 := by decide +kernel
theorem pcs_8 {X d : Nat} {i : Nat} (h : d = X / 2 ^ i % 256) : pcs X (i + 8) = pcs X i + pcs d 8 := by
  have e : ∀ j, j < 8 → d.testBit j = X.testBit (i + j) := by
    intro j hj
    rw [h, show (256 : Nat) = 2 ^ 8 from rfl, Nat.testBit_mod_two_pow, Nat.testBit_div_two_pow]
    simp [hj, Nat.add_comm]
  simp only [pcs, e 0 (by omega), e 1 (by omega), e 2 (by omega), e 3 (by omega), e 4 (by omega), e 5 (by omega), e 6 (by omega), e 7 (by omega), Nat.add_zero, Nat.zero_add]
  omega
/-- what the library's count answers, of the number's 32 bits -/
def bcn (X : Nat) : Nat :=
  let a := X - ((X / 2) &&& 1431655765)
  let b := (a &&& 858993459) + ((a / 4) &&& 858993459)
  let c := (b + b / 16) &&& 252645135
  let d := c + c / 256
  let e := d + d / 65536
  e &&& 63
theorem bcn_eq {X : Nat} (hX : X < 4294967296) : bcn X = pcs X 32 ∧ ((X / 2) &&& 1431655765) ≤ X ∧ X - ((X / 2) &&& 1431655765) < 4294967296 := by
  obtain ⟨a0, e0⟩ : ∃ a, a = X % 256 := ⟨_, rfl⟩
  obtain ⟨a1, e1⟩ : ∃ a, a = X / 256 % 256 := ⟨_, rfl⟩
  obtain ⟨a2, e2⟩ : ∃ a, a = X / 65536 % 256 := ⟨_, rfl⟩
  obtain ⟨a3, e3⟩ : ∃ a, a = X / 16777216 % 256 := ⟨_, rfl⟩
  have hp : pcs X 32 = pcs a0 8 + pcs a1 8 + pcs a2 8 + pcs a3 8 := by
    rw [show 32 = 24 + 8 from rfl, pcs_8 (d := a3) (by rw [e3]), show 24 = 16 + 8 from rfl, pcs_8 (d := a2) (by rw [e2]), show 16 = 8 + 8 from rfl, pcs_8 (d := a1) (by rw [e1]), show pcs X 8 = pcs X (0 + 8) from rfl, pcs_8 (d := a0) (by rw [e0, Nat.pow_zero, Nat.div_one])]
    simp [pcs]
  have x : X = a0 + 256 * a1 + 65536 * a2 + 16777216 * a3 := by omega
  have h0 : a0 < 256 := by omega
  have h1 : a1 < 256 := by omega
  have h2 : a2 < 256 := by omega
  have h3 : a3 < 256 := by omega
  clear e0 e1 e2 e3
  obtain ⟨t01, t02, t03, t04, t05⟩ := bc_tab a0 h0
  obtain ⟨t11, t12, t13, t14, t15⟩ := bc_tab a1 h1
  obtain ⟨t21, t22, t23, t24, t25⟩ := bc_tab a2 h2
  obtain ⟨t31, t32, t33, t34, t35⟩ := bc_tab a3 h3
  have s1 : (X / 2) &&& 1431655765 = b1 a0 + 256 * b1 a1 + 65536 * b1 a2 + 16777216 * b1 a3 := by
    rw [show X / 2 = (a0 / 2 + 128 * (a1 % 2)) + 256 * (a1 / 2 + 128 * (a2 % 2)) + 65536 * (a2 / 2 + 128 * (a3 % 2)) + 16777216 * (a3 / 2) by omega,
      show (1431655765 : Nat) = 85 + 256 * 85 + 65536 * 85 + 16777216 * 85 from rfl, bc_land4 (by omega) (by omega) (by omega) (by omega) (by omega),
      bc_85 _ (by omega) _ (by omega), bc_85 _ (by omega) _ (by omega), bc_85 _ (by omega) _ (by omega)]
    rfl
  have sa : X - ((X / 2) &&& 1431655765) = (a0 - b1 a0) + 256 * (a1 - b1 a1) + 65536 * (a2 - b1 a2) + 16777216 * (a3 - b1 a3) := by rw [s1]; omega
  refine ⟨?_, by rw [s1]; omega, by rw [sa]; omega⟩
  unfold bcn
  simp only [sa]
  have b2e : ∀ d, b2 d = ((d - b1 d) &&& 51) + (((d - b1 d) / 4) &&& 51) := fun _ => rfl
  have e0 := b2e a0
  have e1 := b2e a1
  have e2 := b2e a2
  have e3 := b2e a3
  generalize a0 - b1 a0 = c0 at *
  generalize a1 - b1 a1 = c1 at *
  generalize a2 - b1 a2 = c2 at *
  generalize a3 - b1 a3 = c3 at *
  have k1 : (c0 + 256 * c1 + 65536 * c2 + 16777216 * c3) &&& 858993459 = (c0 &&& 51) + 256 * (c1 &&& 51) + 65536 * (c2 &&& 51) + 16777216 * (c3 &&& 51) :=
    bc_land4 (m := 51) t02 t12 t22 t32 (by omega)
  have k2 : ((c0 + 256 * c1 + 65536 * c2 + 16777216 * c3) / 4) &&& 858993459 = ((c0 / 4) &&& 51) + 256 * ((c1 / 4) &&& 51) + 65536 * ((c2 / 4) &&& 51) + 16777216 * ((c3 / 4) &&& 51) := by
    rw [show (c0 + 256 * c1 + 65536 * c2 + 16777216 * c3) / 4 = (c0 / 4 + 64 * (c1 % 4)) + 256 * (c1 / 4 + 64 * (c2 % 4)) + 65536 * (c2 / 4 + 64 * (c3 % 4)) + 16777216 * (c3 / 4) by omega,
      show (858993459 : Nat) = 51 + 256 * 51 + 65536 * 51 + 16777216 * 51 from rfl, bc_land4 (by omega) (by omega) (by omega) (by omega) (by omega),
      bc_51 _ (by omega) _ (by omega), bc_51 _ (by omega) _ (by omega), bc_51 _ (by omega) _ (by omega)]
  rw [k1, k2]
  have k3 : (c0 &&& 51) + 256 * (c1 &&& 51) + 65536 * (c2 &&& 51) + 16777216 * (c3 &&& 51) + (((c0 / 4) &&& 51) + 256 * ((c1 / 4) &&& 51) + 65536 * ((c2 / 4) &&& 51) + 16777216 * ((c3 / 4) &&& 51)) = b2 a0 + 256 * b2 a1 + 65536 * b2 a2 + 16777216 * b2 a3 := by omega
  rw [k3]
  clear k1 k2 k3 e0 e1 e2 e3 b2e sa s1 x
  generalize b2 a0 = q0 at *
  generalize b2 a1 = q1 at *
  generalize b2 a2 = q2 at *
  generalize b2 a3 = q3 at *
  have k4 : (q0 + 256 * q1 + 65536 * q2 + 16777216 * q3 + (q0 + 256 * q1 + 65536 * q2 + 16777216 * q3) / 16) &&& 252645135 = pcs a0 8 + 256 * pcs a1 8 + 65536 * pcs a2 8 + 16777216 * pcs a3 8 := by
    rw [show q0 + 256 * q1 + 65536 * q2 + 16777216 * q3 + (q0 + 256 * q1 + 65536 * q2 + 16777216 * q3) / 16 = (q0 + (q0 / 16 + 16 * (q1 % 16))) + 256 * (q1 + (q1 / 16 + 16 * (q2 % 16))) + 65536 * (q2 + (q2 / 16 + 16 * (q3 % 16))) + 16777216 * (q3 + q3 / 16) by omega,
      show (252645135 : Nat) = 15 + 256 * 15 + 65536 * 15 + 16777216 * 15 from rfl, bc_land4 (by omega) (by omega) (by omega) (by omega) (by omega),
      bc_15 _ (by omega), bc_15 _ (by omega), bc_15 _ (by omega), bc_15 _ (by omega), ← t05, ← t15, ← t25, ← t35]
    have f : ∀ q k : Nat, q % 16 ≤ 4 → q / 16 ≤ 4 → (q + (q / 16 + 16 * k)) % 16 = q % 16 + q / 16 := by intro q k g1 g2; omega
    have f3 := f q3 0 t33 t34
    rw [Nat.mul_zero, Nat.add_zero] at f3
    rw [f q0 _ t03 t04, f q1 _ t13 t14, f q2 _ t23 t24, f3]
  rw [k4, hp, ← t05, ← t15, ← t25, ← t35]
  have n0 : q0 % 16 + q0 / 16 ≤ 8 := by omega
  have n1 : q1 % 16 + q1 / 16 ≤ 8 := by omega
  have n2 : q2 % 16 + q2 / 16 ≤ 8 := by omega
  have n3 : q3 % 16 + q3 / 16 ≤ 8 := by omega
  clear k4 hp t05 t15 t25 t35
  generalize q0 % 16 + q0 / 16 = p0 at *
  generalize q1 % 16 + q1 / 16 = p1 at *
  generalize q2 % 16 + q2 / 16 = p2 at *
  generalize q3 % 16 + q3 / 16 = p3 at *
  rw [show (63 : Nat) = 2 ^ 6 - 1 from rfl, Nat.and_two_pow_sub_one_eq_mod]
  have m1 : (p0 + 256 * p1 + 65536 * p2 + 16777216 * p3) / 256 = p1 + 256 * p2 + 65536 * p3 := by omega
  rw [m1]
  have m2 : (p0 + 256 * p1 + 65536 * p2 + 16777216 * p3 + (p1 + 256 * p2 + 65536 * p3)) / 65536 = p2 + p3 + 256 * p3 := by omega
  rw [m2]
  omega
