/-! Own rows: bits counted; powers of two. -/
def bc1 (x : Int64) : Int64 := x - (((x.toUInt64 >>> ((1 : Int32).toInt64.toUInt64 &&& Int64.toUInt64 63)).toInt64) &&& 6148914691236517205)
def bc2 (x : Int64) : Int64 := (x &&& 3689348814741910323) + (((x.toUInt64 >>> ((2 : Int32).toInt64.toUInt64 &&& Int64.toUInt64 63)).toInt64) &&& 3689348814741910323)
def bc3 (x : Int64) : Int64 := (x + ((x.toUInt64 >>> ((4 : Int32).toInt64.toUInt64 &&& Int64.toUInt64 63)).toInt64)) &&& 1085102592571150095
def bc4 (x : Int64) : Int64 := x + ((x.toUInt64 >>> ((8 : Int32).toInt64.toUInt64 &&& Int64.toUInt64 63)).toInt64)
def bc5 (x : Int64) : Int64 := x + ((x.toUInt64 >>> ((16 : Int32).toInt64.toUInt64 &&& Int64.toUInt64 63)).toInt64)
def bc6 (x : Int64) : Int64 := x + ((x.toUInt64 >>> ((32 : Int32).toInt64.toUInt64 &&& Int64.toUInt64 63)).toInt64)
theorem bc_eq (x : Int64) : M_J13_bitCount_95d88 x = (bc6 (bc5 (bc4 (bc3 (bc2 (bc1 x)))))).toInt32 &&& 127 := rfl
theorem and_byte (a M m : Nat) (hm : m < 256) : a &&& (256 * M + m) = 256 * (a / 256 &&& M) + (a % 256 &&& m) := by
  have h1 : (a &&& (256 * M + m)) / 2 ^ 8 = a / 256 &&& M := by
    rw [Nat.and_div_two_pow, show (256 * M + m) / 2 ^ 8 = M by omega]
  have h2 : (a &&& (256 * M + m)) % 2 ^ 8 = a % 256 &&& m := by
    rw [Nat.and_mod_two_pow, show (256 * M + m) % 2 ^ 8 = m by omega]
  have h3 := Nat.div_add_mod (a &&& (256 * M + m)) (2 ^ 8)
  rw [h1, h2] at h3
  omega
def c1 (b : Nat) : Nat := b - (b / 2 &&& 85)
def c2 (c : Nat) : Nat := (c &&& 51) + (c / 4 &&& 51)
def N1 (M x : Nat) : Nat := x - (x / 2 &&& M)
def N2 (M x : Nat) : Nat := (x &&& M) + (x / 4 &&& M)
def N3 (M x : Nat) : Nat := (x + x / 16) &&& M
theorem and85 : ∀ a, a < 128 → ∀ c, c < 2 → (a + 128 * c) &&& 85 = a &&& 85 := by decide +kernel
theorem and51 : ∀ a, a < 64 → ∀ c, c < 4 → (a + 64 * c) &&& 51 = a &&& 51 := by decide +kernel
theorem N1_s {e X M : Nat} (he : e < 256) : N1 (256 * M + 85) (256 * X + e) = 256 * N1 M X + c1 e := by
  have h1 := and_byte ((256 * X + e) / 2) M 85 (by omega)
  have h2 := and85 (e / 2) (by omega) (X % 2) (by omega)
  have h3 : (X / 2 &&& M) ≤ X / 2 := Nat.and_le_left
  have h4 : (e / 2 &&& 85) ≤ e / 2 := Nat.and_le_left
  rw [show (256 * X + e) / 2 / 256 = X / 2 by omega, show (256 * X + e) / 2 % 256 = e / 2 + 128 * (X % 2) by omega, h2] at h1
  unfold N1 c1
  rw [h1]
  omega
theorem N2_s {e X M : Nat} (he : e < 256) : N2 (256 * M + 51) (256 * X + e) = 256 * N2 M X + c2 e := by
  have h1 := and_byte ((256 * X + e) / 4) M 51 (by omega)
  have h0 := and_byte (256 * X + e) M 51 (by omega)
  have h2 := and51 (e / 4) (by omega) (X % 4) (by omega)
  rw [show (256 * X + e) / 4 / 256 = X / 4 by omega, show (256 * X + e) / 4 % 256 = e / 4 + 64 * (X % 4) by omega, h2] at h1
  rw [show (256 * X + e) / 256 = X by omega, show (256 * X + e) % 256 = e by omega] at h0
  unfold N2 c2
  rw [h1, h0]
  omega
theorem N3_s {e X M : Nat} (he : e < 256) (h4 : e + e / 16 + 16 * (X % 16) < 256) : N3 (256 * M + 15) (256 * X + e) = 256 * N3 M X + (e + e / 16) % 16 := by
  have h1 := and_byte ((256 * X + e) + (256 * X + e) / 16) M 15 (by omega)
  rw [show ((256 * X + e) + (256 * X + e) / 16) / 256 = X + X / 16 by omega, show ((256 * X + e) + (256 * X + e) / 16) % 256 = e + e / 16 + 16 * (X % 16) by omega, show (15 : Nat) = 2 ^ 4 - 1 from rfl, Nat.and_two_pow_sub_one_eq_mod] at h1
  unfold N3
  rw [show (2 : Nat) ^ 4 - 1 = 15 from rfl] at h1
  rw [h1]
  omega
def p8 (b : Nat) : Nat := (c2 (c1 b) + c2 (c1 b) / 16) % 16
theorem p8_k : ∀ b, b < 256 → c1 b < 256 ∧ c2 (c1 b) < 69 ∧ c2 (c1 b) % 16 ≤ 4 ∧ p8 b ≤ 8 ∧ (p8 b = 0 → b = 0) ∧ (p8 b = 1 → b = 1 ∨ b = 2 ∨ b = 4 ∨ b = 8 ∨ b = 16 ∨ b = 32 ∨ b = 64 ∨ b = 128) := by decide +kernel
theorem N1_le (M x : Nat) : N1 M x ≤ x := Nat.sub_le _ _
theorem N1_0 (M : Nat) : N1 M 0 = 0 := by simp [N1]
theorem N2_0 (M : Nat) : N2 M 0 = 0 := by simp [N2]
theorem N3_0 (M : Nat) : N3 M 0 = 0 := by simp [N3]
theorem n123 {b0 b1 b2 b3 : Nat} (h0 : b0 < 256) (h1 : b1 < 256) (h2 : b2 < 256) (h3 : b3 < 256) :
    N1 6148914691236517205 (256 * (256 * (256 * b3 + b2) + b1) + b0) = 256 * (256 * (256 * c1 b3 + c1 b2) + c1 b1) + c1 b0 ∧
    N2 3689348814741910323 (256 * (256 * (256 * c1 b3 + c1 b2) + c1 b1) + c1 b0) = 256 * (256 * (256 * c2 (c1 b3) + c2 (c1 b2)) + c2 (c1 b1)) + c2 (c1 b0) ∧
    N3 1085102592571150095 (256 * (256 * (256 * c2 (c1 b3) + c2 (c1 b2)) + c2 (c1 b1)) + c2 (c1 b0)) = 256 * (256 * (256 * p8 b3 + p8 b2) + p8 b1) + p8 b0 := by
  have k0 := p8_k b0 h0
  have k1 := p8_k b1 h1
  have k2 := p8_k b2 h2
  have k3 := p8_k b3 h3
  refine ⟨?_, ?_, ?_⟩
  · have e4 := N1_s (X := 0) (M := 1431655765) h3
    have e3 := N1_s (X := b3) (M := 366503875925) h2
    have e2 := N1_s (X := 256 * b3 + b2) (M := 93824992236885) h1
    have e1 := N1_s (X := 256 * (256 * b3 + b2) + b1) (M := 24019198012642645) h0
    rw [N1_0] at e4
    simp only [Nat.mul_zero, Nat.zero_add] at e4
    rw [show 256 * 24019198012642645 + 85 = 6148914691236517205 from rfl] at e1
    rw [show 256 * 93824992236885 + 85 = 24019198012642645 from rfl] at e2
    rw [show 256 * 366503875925 + 85 = 93824992236885 from rfl] at e3
    rw [show 256 * 1431655765 + 85 = 366503875925 from rfl] at e4
    rw [e1, e2, e3, e4]
  · have e4 := N2_s (X := 0) (M := 858993459) k3.1
    have e3 := N2_s (X := c1 b3) (M := 219902325555) k2.1
    have e2 := N2_s (X := 256 * c1 b3 + c1 b2) (M := 56294995342131) k1.1
    have e1 := N2_s (X := 256 * (256 * c1 b3 + c1 b2) + c1 b1) (M := 14411518807585587) k0.1
    rw [N2_0] at e4
    simp only [Nat.mul_zero, Nat.zero_add] at e4
    rw [show 256 * 14411518807585587 + 51 = 3689348814741910323 from rfl] at e1
    rw [show 256 * 56294995342131 + 51 = 14411518807585587 from rfl] at e2
    rw [show 256 * 219902325555 + 51 = 56294995342131 from rfl] at e3
    rw [show 256 * 858993459 + 51 = 219902325555 from rfl] at e4
    rw [e1, e2, e3, e4]
  · have e4 := N3_s (e := c2 (c1 b3)) (X := 0) (M := 252645135) (by omega) (by omega)
    have e3 := N3_s (e := c2 (c1 b2)) (X := c2 (c1 b3)) (M := 64677154575) (by omega) (by omega)
    have e2 := N3_s (e := c2 (c1 b1)) (X := 256 * c2 (c1 b3) + c2 (c1 b2)) (M := 16557351571215) (by omega) (by omega)
    have e1 := N3_s (e := c2 (c1 b0)) (X := 256 * (256 * c2 (c1 b3) + c2 (c1 b2)) + c2 (c1 b1)) (M := 4238682002231055) (by omega) (by omega)
    rw [N3_0] at e4
    simp only [Nat.mul_zero, Nat.zero_add] at e4
    rw [show 256 * 4238682002231055 + 15 = 1085102592571150095 from rfl] at e1
    rw [show 256 * 16557351571215 + 15 = 4238682002231055 from rfl] at e2
    rw [show 256 * 64677154575 + 15 = 16557351571215 from rfl] at e3
    rw [show 256 * 252645135 + 15 = 64677154575 from rfl] at e4
    rw [e1, e2, e3, e4]
    rfl
theorem l_M5 : (6148914691236517205 : Int64) = lN 6148914691236517205 := rfl
theorem l_M3 : (3689348814741910323 : Int64) = lN 3689348814741910323 := rfl
theorem l_MF : (1085102592571150095 : Int64) = lN 1085102592571150095 := rfl
theorem bc_fin {p0 p1 p2 p3 : Nat} (h0 : p0 ≤ 8) (h1 : p1 ≤ 8) (h2 : p2 ≤ 8) (h3 : p3 ≤ 8) :
    (256 * (256 * (256 * p3 + p2) + p1) + p0 + (256 * (256 * (256 * p3 + p2) + p1) + p0) / 256 + (256 * (256 * (256 * p3 + p2) + p1) + p0 + (256 * (256 * (256 * p3 + p2) + p1) + p0) / 256) / 65536 + (256 * (256 * (256 * p3 + p2) + p1) + p0 + (256 * (256 * (256 * p3 + p2) + p1) + p0) / 256 + (256 * (256 * (256 * p3 + p2) + p1) + p0 + (256 * (256 * (256 * p3 + p2) + p1) + p0) / 256) / 65536) / 4294967296) % 128 = p0 + p1 + p2 + p3 := by
  rw [show (256 * (256 * (256 * p3 + p2) + p1) + p0) / 256 = 256 * (256 * p3 + p2) + p1 by omega]
  rw [show (256 * (256 * (256 * p3 + p2) + p1) + p0 + (256 * (256 * p3 + p2) + p1)) / 65536 = 256 * p3 + (p2 + p3) by omega]
  rw [show (256 * (256 * (256 * p3 + p2) + p1) + p0 + (256 * (256 * p3 + p2) + p1) + (256 * p3 + (p2 + p3))) / 4294967296 = 0 by omega]
  omega
theorem bitCount_n {b0 b1 b2 b3 : Nat} (h0 : b0 < 256) (h1 : b1 < 256) (h2 : b2 < 256) (h3 : b3 < 256) : M_J13_bitCount_95d88 (lN (256 * (256 * (256 * b3 + b2) + b1) + b0)) = nI (p8 b0 + p8 b1 + p8 b2 + p8 b3) := by
  obtain ⟨e1, e2, e3⟩ := n123 h0 h1 h2 h3
  have k0 := p8_k b0 h0
  have k1 := p8_k b1 h1
  have k2 := p8_k b2 h2
  have k3 := p8_k b3 h3
  have s1 : ∀ x, x < 2 ^ 32 → bc1 (lN x) = lN (N1 6148914691236517205 x) := fun x hx => by
    have h9 : (x / 2 &&& 6148914691236517205) ≤ x := Nat.le_trans Nat.and_le_left (Nat.div_le_self _ _)
    unfold bc1 N1
    simp (disch := omega) only [i_0, i_1, i_2, i_3, i_4, i_5, i_6, i_7, i_8, i_10, i_12, i_16, i_31, i_32, i_64, i_100, i_128, i_255, i_256, i_512, i_1000, i_1128, i_65535, i_65536, l_0, l_1, l_2, l_3, l_4, l_5, l_6, l_7, l_8, l_10, l_12, l_16, l_32, l_63, l_64, l_255, l_256, l_1000, l_65535, l_65536, nI_l, l_and, l_or, l_xor, and_63, l_shl, l_shr, l_ushr, lN_add, lN_mul, lN_sub, pk_lEQ, pk_lLT, pk_lLE, Nat.one_mul, Nat.pow_one, l_M5]
  have s2 : ∀ x, x < 2 ^ 32 → bc2 (lN x) = lN (N2 3689348814741910323 x) := fun x hx => by
    unfold bc2 N2
    simp (disch := omega) only [i_0, i_1, i_2, i_3, i_4, i_5, i_6, i_7, i_8, i_10, i_12, i_16, i_31, i_32, i_64, i_100, i_128, i_255, i_256, i_512, i_1000, i_1128, i_65535, i_65536, l_0, l_1, l_2, l_3, l_4, l_5, l_6, l_7, l_8, l_10, l_12, l_16, l_32, l_63, l_64, l_255, l_256, l_1000, l_65535, l_65536, nI_l, l_and, l_or, l_xor, and_63, l_shl, l_shr, l_ushr, lN_add, lN_mul, lN_sub, pk_lEQ, pk_lLT, pk_lLE, Nat.one_mul, Nat.pow_one, l_M3, show (2 : Nat) ^ 2 = 4 from rfl]
  have s3 : ∀ x, x < 2 ^ 36 → bc3 (lN x) = lN (N3 1085102592571150095 x) := fun x hx => by
    unfold bc3 N3
    simp (disch := omega) only [i_0, i_1, i_2, i_3, i_4, i_5, i_6, i_7, i_8, i_10, i_12, i_16, i_31, i_32, i_64, i_100, i_128, i_255, i_256, i_512, i_1000, i_1128, i_65535, i_65536, l_0, l_1, l_2, l_3, l_4, l_5, l_6, l_7, l_8, l_10, l_12, l_16, l_32, l_63, l_64, l_255, l_256, l_1000, l_65535, l_65536, nI_l, l_and, l_or, l_xor, and_63, l_shl, l_shr, l_ushr, lN_add, lN_mul, lN_sub, pk_lEQ, pk_lLT, pk_lLE, Nat.one_mul, Nat.pow_one, l_MF, show (2 : Nat) ^ 4 = 16 from rfl]
  have s4 : ∀ x, x < 2 ^ 36 → bc4 (lN x) = lN (x + x / 256) := fun x hx => by
    unfold bc4
    simp (disch := omega) only [i_0, i_1, i_2, i_3, i_4, i_5, i_6, i_7, i_8, i_10, i_12, i_16, i_31, i_32, i_64, i_100, i_128, i_255, i_256, i_512, i_1000, i_1128, i_65535, i_65536, l_0, l_1, l_2, l_3, l_4, l_5, l_6, l_7, l_8, l_10, l_12, l_16, l_32, l_63, l_64, l_255, l_256, l_1000, l_65535, l_65536, nI_l, l_and, l_or, l_xor, and_63, l_shl, l_shr, l_ushr, lN_add, lN_mul, lN_sub, pk_lEQ, pk_lLT, pk_lLE, Nat.one_mul, Nat.pow_one, show (2 : Nat) ^ 8 = 256 from rfl]
  have s5 : ∀ x, x < 2 ^ 37 → bc5 (lN x) = lN (x + x / 65536) := fun x hx => by
    unfold bc5
    simp (disch := omega) only [i_0, i_1, i_2, i_3, i_4, i_5, i_6, i_7, i_8, i_10, i_12, i_16, i_31, i_32, i_64, i_100, i_128, i_255, i_256, i_512, i_1000, i_1128, i_65535, i_65536, l_0, l_1, l_2, l_3, l_4, l_5, l_6, l_7, l_8, l_10, l_12, l_16, l_32, l_63, l_64, l_255, l_256, l_1000, l_65535, l_65536, nI_l, l_and, l_or, l_xor, and_63, l_shl, l_shr, l_ushr, lN_add, lN_mul, lN_sub, pk_lEQ, pk_lLT, pk_lLE, Nat.one_mul, Nat.pow_one, show (2 : Nat) ^ 16 = 65536 from rfl]
  have s6 : ∀ x, x < 2 ^ 38 → bc6 (lN x) = lN (x + x / 4294967296) := fun x hx => by
    unfold bc6
    simp (disch := omega) only [i_0, i_1, i_2, i_3, i_4, i_5, i_6, i_7, i_8, i_10, i_12, i_16, i_31, i_32, i_64, i_100, i_128, i_255, i_256, i_512, i_1000, i_1128, i_65535, i_65536, l_0, l_1, l_2, l_3, l_4, l_5, l_6, l_7, l_8, l_10, l_12, l_16, l_32, l_63, l_64, l_255, l_256, l_1000, l_65535, l_65536, nI_l, l_and, l_or, l_xor, and_63, l_shl, l_shr, l_ushr, lN_add, lN_mul, lN_sub, pk_lEQ, pk_lLT, pk_lLE, Nat.one_mul, Nat.pow_one, show (2 : Nat) ^ 32 = 4294967296 from rfl]
  rw [bc_eq, s1 _ (by omega), e1, s2 _ (by omega), e2, s3 _ (by omega), e3, s4 _ (by omega), s5 _ (by omega), s6 _ (by omega), lN_i, show (127 : Int32) = nI 127 from rfl, n_and, show (127 : Nat) = 2 ^ 7 - 1 from rfl, Nat.and_two_pow_sub_one_eq_mod]
  exact congrArg nI (bc_fin k0.2.2.2.1 k1.2.2.2.1 k2.2.2.2.1 k3.2.2.2.1)
def isP (d : Nat) : Prop := d = 0 ∨ ∃ k, k < 32 ∧ d = 2 ^ k
theorem pw_k : ∀ k, k < 32 → 2 ^ k = 256 * (256 * (256 * (2 ^ k / 16777216) + 2 ^ k / 65536 % 256) + 2 ^ k / 256 % 256) + 2 ^ k % 256 ∧ p8 (2 ^ k % 256) + p8 (2 ^ k / 256 % 256) + p8 (2 ^ k / 65536 % 256) + p8 (2 ^ k / 16777216) = 1 := by decide +kernel
theorem bitCount_lt {d : Nat} (hd : d < 2 ^ 32) : ∃ t, t ≤ 32 ∧ M_J13_bitCount_95d88 (lN d) = nI t ∧ (t < 2 ↔ isP d) ∧ (t = 0 ↔ d = 0) := by
  have e : d = 256 * (256 * (256 * (d / 16777216) + d / 65536 % 256) + d / 256 % 256) + d % 256 := by omega
  have k0 := p8_k (d % 256) (by omega)
  have k1 := p8_k (d / 256 % 256) (by omega)
  have k2 := p8_k (d / 65536 % 256) (by omega)
  have k3 := p8_k (d / 16777216) (by omega)
  have z0 : p8 0 = 0 := rfl
  refine ⟨p8 (d % 256) + p8 (d / 256 % 256) + p8 (d / 65536 % 256) + p8 (d / 16777216), by omega, ?_, ⟨fun h => ?_, fun h => ?_⟩, ⟨fun h => ?_, fun h => ?_⟩⟩
  · have := bitCount_n (b0 := d % 256) (b1 := d / 256 % 256) (b2 := d / 65536 % 256) (b3 := d / 16777216) (by omega) (by omega) (by omega) (by omega)
    rw [← e] at this
    exact this
  · obtain ⟨-, -, -, -, a0, a1⟩ := k0
    obtain ⟨-, -, -, -, b0, b1⟩ := k1
    obtain ⟨-, -, -, -, c0, c1⟩ := k2
    obtain ⟨-, -, -, -, d0, d1⟩ := k3
    by_cases x0 : p8 (d % 256) = 1
    · have y1 := b0 (by omega)
      have y2 := c0 (by omega)
      have y3 := d0 (by omega)
      right
      rcases a1 x0 with h9 | h9 | h9 | h9 | h9 | h9 | h9 | h9
      · exact ⟨0, by omega, by omega⟩
      · exact ⟨1, by omega, by omega⟩
      · exact ⟨2, by omega, by omega⟩
      · exact ⟨3, by omega, by omega⟩
      · exact ⟨4, by omega, by omega⟩
      · exact ⟨5, by omega, by omega⟩
      · exact ⟨6, by omega, by omega⟩
      · exact ⟨7, by omega, by omega⟩
    · have y0 := a0 (by omega)
      by_cases x1 : p8 (d / 256 % 256) = 1
      · have y2 := c0 (by omega)
        have y3 := d0 (by omega)
        right
        rcases b1 x1 with h9 | h9 | h9 | h9 | h9 | h9 | h9 | h9
        · exact ⟨8, by omega, by omega⟩
        · exact ⟨9, by omega, by omega⟩
        · exact ⟨10, by omega, by omega⟩
        · exact ⟨11, by omega, by omega⟩
        · exact ⟨12, by omega, by omega⟩
        · exact ⟨13, by omega, by omega⟩
        · exact ⟨14, by omega, by omega⟩
        · exact ⟨15, by omega, by omega⟩
      · have y1 := b0 (by omega)
        by_cases x2 : p8 (d / 65536 % 256) = 1
        · have y3 := d0 (by omega)
          right
          rcases c1 x2 with h9 | h9 | h9 | h9 | h9 | h9 | h9 | h9
          · exact ⟨16, by omega, by omega⟩
          · exact ⟨17, by omega, by omega⟩
          · exact ⟨18, by omega, by omega⟩
          · exact ⟨19, by omega, by omega⟩
          · exact ⟨20, by omega, by omega⟩
          · exact ⟨21, by omega, by omega⟩
          · exact ⟨22, by omega, by omega⟩
          · exact ⟨23, by omega, by omega⟩
        · have y2 := c0 (by omega)
          by_cases x3 : p8 (d / 16777216) = 1
          · right
            rcases d1 x3 with h9 | h9 | h9 | h9 | h9 | h9 | h9 | h9
            · exact ⟨24, by omega, by omega⟩
            · exact ⟨25, by omega, by omega⟩
            · exact ⟨26, by omega, by omega⟩
            · exact ⟨27, by omega, by omega⟩
            · exact ⟨28, by omega, by omega⟩
            · exact ⟨29, by omega, by omega⟩
            · exact ⟨30, by omega, by omega⟩
            · exact ⟨31, by omega, by omega⟩
          · left
            have y3 := d0 (by omega)
            omega
  · rcases h with h | ⟨k, hk, h⟩
    · subst h
      decide
    · have := (pw_k k hk).2
      rw [h]
      omega
  · have y0 := k0.2.2.2.2.1 (by omega)
    have y1 := k1.2.2.2.2.1 (by omega)
    have y2 := k2.2.2.2.2.1 (by omega)
    have y3 := k3.2.2.2.2.1 (by omega)
    omega
  · subst h
    rfl
theorem and_pred {d : Nat} (h0 : d ≠ 0) : d &&& (d - 1) = 0 ↔ ∃ k, d = 2 ^ k := by
  induction d using Nat.strongRecOn with
  | ind d ih =>
    constructor
    · intro h
      have h1 : (d &&& (d - 1)) / 2 ^ 1 = d / 2 ^ 1 &&& (d - 1) / 2 ^ 1 := Nat.and_div_two_pow ..
      rw [h, Nat.zero_div, Nat.pow_one] at h1
      rcases Nat.mod_two_eq_zero_or_one d with h2 | h2
      · rw [show (d - 1) / 2 = d / 2 - 1 by omega] at h1
        obtain ⟨k, hk⟩ := (ih (d / 2) (by omega) (by omega)).mp h1.symm
        exact ⟨k + 1, by rw [Nat.pow_succ]; omega⟩
      · rw [show (d - 1) / 2 = d / 2 by omega, Nat.and_self] at h1
        exact ⟨0, by omega⟩
    · intro ⟨k, hk⟩
      rw [hk, Nat.and_two_pow_sub_one_eq_mod, Nat.mod_self]
theorem pw_lt {k n : Nat} (h : 2 ^ k < 2 ^ n) : k < n := (Nat.pow_lt_pow_iff_right (by decide)).mp h
theorem and_pred_i {d : Nat} (hd : d < 2 ^ 32) : (lN d &&& (lN d - 1)) = 0 ↔ isP d := by
  by_cases h0 : d = 0
  · subst h0
    exact ⟨fun _ => Or.inl rfl, fun _ => by decide⟩
  · have hle : d &&& (d - 1) ≤ d := Nat.and_le_left
    rw [l_1, lN_sub (by omega), l_and, l_0, pk_lEQ (by omega) (by omega), and_pred h0]
    constructor
    · intro ⟨k, hk⟩
      exact Or.inr ⟨k, pw_lt (by omega), hk⟩
    · intro h
      rcases h with h | ⟨k, -, h⟩
      · exact absurd h h0
      · exact ⟨k, h⟩
theorem ntz_k : ∀ k, k < 32 → M_J13_numberOfTrailingZeros_95d88 (lN (2 ^ k)) = nI k := by decide +kernel
