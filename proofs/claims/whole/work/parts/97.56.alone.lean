/-! Own rows: amounts by which sums change; sums from sums alone. -/
def lZ (z : Int) : Int64 := Int64.ofInt z
theorem lZ_n (k : Nat) : lZ (k : Int) = lN k := Int64.ofInt_eq_ofNat ..
theorem lZ_add (a b : Int) : lZ a + lZ b = lZ (a + b) := (Int64.ofInt_add a b).symm
theorem lZ_sub (a b : Int) : lZ a - lZ b = lZ (a - b) := (Int64.ofInt_sub a b).symm
theorem lZ_mul (a b : Int) : lZ a * lZ b = lZ (a * b) := (Int64.ofInt_mul a b).symm
theorem lZ_t {z : Int} (h1 : -2 ^ 63 ≤ z) (h2 : z < 2 ^ 63) : (lZ z).toInt = z := Int64.toInt_ofInt_of_le h1 h2
theorem nI_d {a b : Nat} (ha : a < 2 ^ 30) (hb : b < 2 ^ 30) : (nI a - nI b).toInt64 = lZ ((a : Int) - b) := by
  apply Int64.toInt_inj.mp
  rw [Int32.toInt_toInt64, pk_sub_toInt ha hb, lZ_t (by omega) (by omega)]
def md (z : Int) (m : Nat) : Nat := (z % (m : Int)).toNat
theorem md_i {z : Int} {m : Nat} (hm : 0 < m) : ((md z m : Nat) : Int) = z % m := Int.toNat_of_nonneg (Int.emod_nonneg _ (by omega))
theorem md_lt {z : Int} {m : Nat} (hm : 0 < m) : md z m < m := by
  have h1 := md_i (z := z) hm
  have h2 := Int.emod_lt_of_pos z (show (0 : Int) < m by omega)
  omega
theorem md_n (k : Nat) {m : Nat} (hm : 0 < m) : md (k : Int) m = k % m := by
  have h1 := md_i (z := k) hm
  apply Int.ofNat_inj.mp
  show ((md k m : Nat) : Int) = ((k % m : Nat) : Int)
  rw [h1, Int.natCast_emod]
theorem md_add (s : Nat) (z : Int) {m : Nat} (hm : 0 < m) : (s + md z m) % m = md (s + z) m := by
  rw [← md_n _ hm]
  unfold md
  congr 1
  rw [Int.natCast_add]
  have h1 := md_i (z := z) hm
  unfold md at h1
  rw [h1, Int.add_emod, Int.emod_emod_of_dvd _ (Int.dvd_refl _), ← Int.add_emod]
theorem xor_sgn (x : Int64) {m : Nat} (hm : m < 2 ^ 63) : 0 ≤ x ^^^ lN m ↔ 0 ≤ x := by
  have h : ∀ y : Int64, 0 ≤ y ↔ y.toBitVec.msb = false := fun y => by
    rw [Int64.le_iff_toInt_le, BitVec.msb_eq_toInt]
    have e0 : (0 : Int64).toInt = 0 := by decide
    have e1 : y.toInt = y.toBitVec.toInt := rfl
    rw [e0, e1, decide_eq_false_iff_not]
    omega
  have h2 : (lN m).toBitVec.msb = false := by
    rw [← h, ← l_0.symm]
    exact (pk_lLE (a := 0) (by omega) hm).mpr (Nat.zero_le _)
  rw [h, h, Int64.toBitVec_xor, BitVec.msb_xor, h2, Bool.xor_false]
theorem rem_z {z : Int} {m : Nat} (h1 : -2 ^ 62 ≤ z) (h2 : z < 2 ^ 62) (hm : 0 < m) (hm2 : m < 2 ^ 31) : (lZ z - lZ z / lN m * lN m) = lZ (z.tmod m) := by
  apply Int64.toInt_inj.mp
  have h3 := Int.tmod_lt_of_pos z (show (0 : Int) < m by omega)
  have h4 : -(m : Int) < z.tmod m := Int.lt_tmod_of_pos z (by omega)
  rw [Kit.i64_rem, lZ_t (by omega) (by omega), pk_lT (by omega), lZ_t (by omega) (by omega)]
theorem tm_pos {z : Int} {m : Nat} (h : 0 ≤ z) : z.tmod m = z % m := Int.tmod_eq_emod_of_nonneg h
theorem tm_neg {z : Int} {m : Nat} (hm : 0 < m) (h : z < 0) : (z.tmod m = 0 ∧ z % m = 0) ∨ (z.tmod m < 0 ∧ z % m = z.tmod m + m) := by
  rw [Int.tmod_eq_emod]
  by_cases hd : (m : Int) ∣ z
  · left
    rw [if_pos (Or.inr hd)]
    have := Int.emod_eq_zero_of_dvd hd
    omega
  · right
    rw [if_neg (by
      intro h9
      rcases h9 with h9 | h9
      · omega
      · exact hd h9)]
    have h2 := Int.emod_lt_of_pos z (show (0 : Int) < m by omega)
    omega
theorem floorMod_n {z : Int} {m : Nat} (h1 : -2 ^ 62 ≤ z) (h2 : z < 2 ^ 62) (hm : 0 < m) (hm2 : m < 2 ^ 31) : M_J9_floorMod_f86c9 (lZ z) (lN m) = some (lN (md z m)) := by
  have hlt := md_lt (z := z) hm
  have hmi := md_i (z := z) hm
  have h0 : ¬ lN m = 0 := by rw [l_0, pk_lEQ (by omega) (by omega)]; omega
  have hs : (0 ≤ lZ z) ↔ 0 ≤ z := by
    have e0 : (0 : Int64).toInt = 0 := by decide
    rw [Int64.le_iff_toInt_le, e0, lZ_t (by omega) (by omega)]
  unfold M_J9_floorMod_f86c9
  rw [if_neg h0, rem_z h1 h2 hm hm2]
  by_cases hz : 0 ≤ z
  · rw [if_pos ((xor_sgn _ (by omega)).mpr (hs.mpr hz)), tm_pos hz, ← hmi, lZ_n]
  · rw [if_neg (fun h => hz (hs.mp ((xor_sgn _ (by omega)).mp h)))]
    rcases tm_neg (z := z) hm (by omega) with ⟨h3, h4⟩ | ⟨h3, h4⟩
    · have e : md z m = 0 := by omega
      rw [h3, e]
      rfl
    · have h5 := Int.emod_nonneg z (show (m : Int) ≠ 0 by omega)
      have hne : ¬ lZ (z.tmod m) = 0 := fun h => by
        have := congrArg Int64.toInt h
        rw [lZ_t (by omega) (by omega)] at this
        have e0 : (0 : Int64).toInt = 0 := by decide
        omega
      rw [if_neg hne, ← lZ_n m, lZ_add, ← lZ_n (md z m), hmi, h4]
theorem modulo_n {z : Int} {m : Nat} (h1 : -2 ^ 62 ≤ z) (h2 : z < 2 ^ 62) (hm : 0 < m) (hm2 : m < 2 ^ 31) : M_X12_modulo (lZ z) (lN m) = some (lN (md z m)) := by
  have hlt := md_lt (z := z) hm
  have hmi := md_i (z := z) hm
  have h0 : ¬ lN m = 0 := by rw [l_0, pk_lEQ (by omega) (by omega)]; omega
  have e0 : (0 : Int64).toInt = 0 := by decide
  unfold M_X12_modulo
  rw [if_neg h0, rem_z h1 h2 hm hm2]
  by_cases hz : 0 ≤ z
  · have h5 := Int.emod_nonneg z (show (m : Int) ≠ 0 by omega)
    rw [tm_pos hz, ← hmi, lZ_n, if_pos]
    rw [l_0]
    exact (pk_lLE (by omega) (by omega)).mpr (Nat.zero_le _)
  · rcases tm_neg (z := z) hm (by omega) with ⟨h3, h4⟩ | ⟨h3, h4⟩
    · have e : md z m = 0 := by omega
      rw [h3, e]
      rfl
    · have h5 := Int.emod_nonneg z (show (m : Int) ≠ 0 by omega)
      rw [if_neg, ← lZ_n m, lZ_add, ← lZ_n (md z m), hmi, h4]
      rw [Int64.le_iff_toInt_le, e0, lZ_t (by omega) (by omega)]
      omega
-- amounts
def mgT (m x y : Nat) : Nat := 65536 * ((x / 65536 + y / 65536) % m) + (x % 65536 + y % 65536) % m
theorem partA_n {k : Nat} : M_X9_partA (lN k) = lN (k % 65536) := by
  unfold M_X9_partA
  rw [l_65535, l_and, show (65535 : Nat) = 2 ^ 16 - 1 from rfl, Nat.and_two_pow_sub_one_eq_mod]
theorem partB_n {k : Nat} (h : k < 2 ^ 63) : M_X9_partB (lN k) = lN (k / 65536) := by
  unfold M_X9_partB
  simp (disch := omega) only [i_0, i_1, i_2, i_3, i_4, i_5, i_6, i_7, i_8, i_10, i_12, i_16, i_31, i_32, i_64, i_100, i_128, i_255, i_256, i_512, i_1000, i_1128, i_65535, i_65536, l_0, l_1, l_2, l_3, l_4, l_5, l_6, l_7, l_8, l_10, l_12, l_16, l_32, l_63, l_64, l_255, l_256, l_1000, l_65535, l_65536, nI_l, l_and, l_or, l_xor, and_63, l_shl, l_shr, l_ushr, lN_add, lN_mul, lN_sub, pk_lEQ, pk_lLT, pk_lLE, Nat.one_mul, Nat.pow_one]
theorem merged10 {x y m : Nat} (hx : x < 2 ^ 61) (hy : y < 2 ^ 61) (hm : 2 ≤ m) (hm' : m ≤ 65536) : M_X10_merged (lN x) (lN y) (nI m) = some (lN ((x + y) % m)) := by
  unfold M_X10_merged
  simp (disch := omega) only [l_0, l_1, l_2, l_3, l_4, l_5, l_6, l_7, l_8, l_10, l_12, l_16, l_32, l_63, l_64, l_255, l_256, l_1000, l_65535, l_65536, nI_l, l_and, l_or, l_xor, and_63, l_shl, l_shr, l_ushr, lN_add, lN_mul, lN_sub, pk_lEQ, pk_lLT, pk_lLE, Nat.one_mul, Nat.pow_one, if_neg, pk_lRem]
theorem merged9 {x y m : Nat} (hx : x < 2 ^ 61) (hy : y < 2 ^ 61) (hm : 2 ≤ m) (hm' : m ≤ 65536) : M_X9_merged (lN x) (lN y) (nI m) = some (lN (mgT m x y)) := by
  unfold M_X9_merged M_X9_packed mgT
  rw [partA_n, partA_n, partB_n (by omega), partB_n (by omega)]
  simp (disch := omega) only [l_0, l_1, l_2, l_3, l_4, l_5, l_6, l_7, l_8, l_10, l_12, l_16, l_32, l_63, l_64, l_255, l_256, l_1000, l_65535, l_65536, nI_l, l_and, l_or, l_xor, and_63, l_shl, l_shr, l_ushr, lN_add, lN_mul, lN_sub, pk_lEQ, pk_lLT, pk_lLE, Nat.one_mul, Nat.pow_one, if_neg, pk_lRem]
theorem changed10 {n i a b m wl : Nat} {u : Nat → Nat} {wf : Nat → Int32} (h1 : 1 ≤ wl) (h2 : wl ≤ 12) (hu : ∀ i, i < wl → wf i = nI (u i)) (hu2 : ∀ i, i < wl → u i < 65536) (hi : i < 2 ^ 20) (ha : a < 256) (hb : b < 256) (hm : 2 ≤ m) (hm' : m ≤ 65536) : M_X10_changed (nI n) (nI i) (nI a) (nI b) (nI m) wl wf = some (lN (md ((u (i % wl) : Int) * ((b : Int) - a)) m)) := by
  have hu3 := hu2 _ (Nat.mod_lt i (show wl > 0 from h1))
  have e1 : -(65536 * 256 : Int) ≤ (u (i % wl) : Int) * ((b : Int) - a) ∧ (u (i % wl) : Int) * ((b : Int) - a) ≤ 65536 * 256 := by
    constructor
    · have := Int.mul_le_mul_of_nonneg_left (show -(256 : Int) ≤ (b : Int) - a by omega) (show (0 : Int) ≤ u (i % wl) by omega)
      have := Int.mul_le_mul_of_nonneg_right (show (u (i % wl) : Int) ≤ 65536 by omega) (show (0 : Int) ≤ 256 by omega)
      omega
    · have := Int.mul_le_mul_of_nonneg_left (show (b : Int) - a ≤ 256 by omega) (show (0 : Int) ≤ u (i % wl) by omega)
      have := Int.mul_le_mul_of_nonneg_right (show (u (i % wl) : Int) ≤ 65536 by omega) (show (0 : Int) ≤ 256 by omega)
      omega
  unfold M_X10_changed
  rw [weightAt_n h1 h2 hu (by omega), Option.bind_some, nI_l (by omega), nI_d (by omega) (by omega), ← lZ_n, lZ_mul, nI_l (by omega), floorMod_n (by omega) (by omega) (by omega) (by omega)]
  rfl
theorem changed9 {n i a b m : Nat} (hi : i ≤ n) (hn : n ≤ 1000) (ha : a < 256) (hb : b < 256) (hm : 2 ≤ m) (hm' : m ≤ 65536) : M_X9_changed (nI n) (nI i) (nI a) (nI b) (nI m) = some (lN (65536 * md (((n : Int) - i) * ((b : Int) - a)) m + md ((b : Int) - a) m)) := by
  have e1 : -(1000 * 256 : Int) ≤ ((n : Int) - i) * ((b : Int) - a) ∧ ((n : Int) - i) * ((b : Int) - a) ≤ 1000 * 256 := by
    constructor
    · have := Int.mul_le_mul_of_nonneg_left (show -(256 : Int) ≤ (b : Int) - a by omega) (show (0 : Int) ≤ (n : Int) - i by omega)
      omega
    · have := Int.mul_le_mul_of_nonneg_left (show (b : Int) - a ≤ 256 by omega) (show (0 : Int) ≤ (n : Int) - i by omega)
      omega
  unfold M_X9_changed M_X9_packed
  rw [nI_d (by omega) (by omega), nI_d (by omega) (by omega), nI_l (by omega), floorMod_n (by omega) (by omega) (by omega) (by omega), Option.bind_some, lZ_mul, floorMod_n (by omega) (by omega) (by omega) (by omega), Option.bind_some, l_65536, lN_mul, lN_add]
theorem changed8 {n i a b w t : Nat} (hi : i < n) (hn : n ≤ 1000) (ha : a < 256) (hb : b < 256) (hw : 8 ≤ w) (hw' : w ≤ 32) (ht : t < w) : M_X8_changed (nI n) (nI i) (nI a) (nI b) (nI w) (nI t) = some (lN (rol w (t * (n - 1 - i) % w) (a ^^^ b))) := by
  have h1 : a ^^^ b < 2 ^ 8 := Nat.xor_lt_two_pow ha hb
  have h2 : 2 ^ 8 ≤ 2 ^ w := Nat.pow_le_pow_right (by decide) hw
  have hc := carried8 (w := w) (t := t) (k := n - 1 - i) (s := a ^^^ b) (by omega) hw' ht (by omega) (by omega)
  unfold M_X8_changed
  simp (disch := omega) only [i_0, i_1, i_2, i_3, i_4, i_5, i_6, i_7, i_8, i_10, i_12, i_16, i_31, i_32, i_64, i_100, i_128, i_255, i_256, i_512, i_1000, i_1128, i_65535, i_65536, nI_add, pk_mul, pk_sub, nI_ltI, nI_leI, nI_eq, nI_clamp, if_pos, if_neg, ite_true, ite_false, Option.bind_some, Option.elim_some, Option.elim_none, Sum.elim_inl, Sum.elim_inr, n_xor, nI_l, hc]
theorem changed1 {N n i a b w p l : Nat} (hN : 10000 < N) (hi : i < n) (hn : n ≤ 1000) (ha : a < 256) (hb : b < 256) (hw : 3 ≤ w) (hw' : w ≤ 32) (hp : p < 2 ^ w) (hl : l < 2) : M_X1_changed N (nI n) (nI i) (nI a) (nI b) (nI w) (lN p) (nI l) = some (lN (dn w p (8 * (n - 1 - i)) (byt w p l (a ^^^ b) 8 0))) := by
  have h1 : a ^^^ b < 2 ^ 8 := Nat.xor_lt_two_pow ha hb
  have h0 : (0 : Nat) < 2 ^ w := Nat.two_pow_pos w
  have e1 := afterByte_n (n := N) (w := w) (p := p) (l := l) (s := 0) (b := a ^^^ b) (by omega) (by omega) hw' hp h0 hl (by omega)
  have e2 := afterZeros_n (n := N) (w := w) (p := p) (k := n - 1 - i) hN (by omega) hw' hp (byt_lt hp l (a ^^^ b) 8 h0) (by omega)
  unfold M_X1_changed
  rw [show (0 : Int64) = lN 0 from rfl]
  simp (disch := omega) only [i_0, i_1, i_2, i_3, i_4, i_5, i_6, i_7, i_8, i_10, i_12, i_16, i_31, i_32, i_64, i_100, i_128, i_255, i_256, i_512, i_1000, i_1128, i_65535, i_65536, nI_add, pk_mul, pk_sub, nI_ltI, nI_leI, nI_eq, nI_clamp, if_pos, if_neg, ite_true, ite_false, Option.bind_some, Option.elim_some, Option.elim_none, Sum.elim_inl, Sum.elim_inr, n_xor, e1, e2]
section AL
variable {j : Nat} {kd mo bi tu : Nat → Int32} {po be fi : Nat → Int64} {lo wo wt ce : Nat → Int32}
theorem hold0 (x : Int64) {m : Nat} (hj : j < 16) (hm : 2 ≤ m) (hm' : m ≤ 65536) (hkd : kd j = nI 0 ∨ kd j = nI 2) (hmo : mo j = nI m) : (M_X10_holds x (nI m) = 0 ∧ M_X12_bears (nI j) x kd mo bi = some 0) ∨ (M_X10_holds x (nI m) = 1 ∧ M_X12_bears (nI j) x kd mo bi = some 1 ∧ ∃ s, s < m ∧ x = lN s) := by
  have key : (M_X10_holds x (nI m) = 0 ∧ M_X12_in x 0 ((nI m).toInt64 - 1) = 0) ∨ (M_X10_holds x (nI m) = 1 ∧ M_X12_in x 0 ((nI m).toInt64 - 1) = 1 ∧ ∃ s, s < m ∧ x = lN s) := by
    unfold M_X10_holds M_X12_in
    by_cases h0 : x < 0
    · exact Or.inl ⟨if_pos h0, if_pos h0⟩
    · obtain ⟨s, hs, rfl⟩ := pk_lOf h0
      have e1 : (nI m).toInt64 - 1 = lN (m - 1) := by
        rw [nI_l (by omega), l_1, lN_sub (by omega)]
      rw [if_neg h0, if_neg h0, e1, nI_l (by omega)]
      by_cases h1 : m ≤ s
      · exact Or.inl ⟨if_pos ((pk_lLE (by omega) hs).mpr h1), if_pos ((pk_lLT (by omega) hs).mpr (by omega))⟩
      · exact Or.inr ⟨if_neg (fun h => h1 ((pk_lLE (by omega) hs).mp h)), if_neg (fun h => h1 (by have := (pk_lLT (by omega) hs).mp h; omega)), s, by omega, rfl⟩
  have e : M_X12_bears (nI j) x kd mo bi = some (M_X12_in x 0 ((nI m).toInt64 - 1)) := by
    unfold M_X12_bears
    rcases hkd with hkd | hkd <;> simp (disch := omega) only [i_0, i_1, i_2, i_3, i_4, i_5, i_6, i_7, i_8, i_10, i_12, i_16, i_31, i_32, i_64, i_100, i_128, i_255, i_256, i_512, i_1000, i_1128, i_65535, i_65536, nI_add, pk_mul, pk_sub, nI_ltI, nI_leI, nI_eq, nI_clamp, if_pos, if_neg, ite_true, ite_false, Option.bind_some, Option.elim_some, Option.elim_none, Sum.elim_inl, Sum.elim_inr, hkd, hmo]
  rw [e]
  rcases key with ⟨h1, h2⟩ | ⟨h1, h2, h3⟩
  · exact Or.inl ⟨h1, by rw [h2]⟩
  · exact Or.inr ⟨h1, by rw [h2], h3⟩
theorem hold1 (x : Int64) {m : Nat} (hj : j < 16) (hm : 2 ≤ m) (hm' : m ≤ 65536) (hkd : kd j = nI 1) (hmo : mo j = nI m) : (M_X9_holds x (nI m) = 0 ∧ M_X12_bears (nI j) x kd mo bi = some 0) ∨ (M_X9_holds x (nI m) = 1 ∧ M_X12_bears (nI j) x kd mo bi = some 1 ∧ ∃ s, s < 2 ^ 32 ∧ s % 65536 < m ∧ s / 65536 < m ∧ x = lN s) := by
  unfold M_X9_holds M_X12_bears
  by_cases h0 : x < 0
  · left
    refine ⟨if_pos h0, ?_⟩
    simp (disch := omega) only [i_0, i_1, i_2, i_3, i_4, i_5, i_6, i_7, i_8, i_10, i_12, i_16, i_31, i_32, i_64, i_100, i_128, i_255, i_256, i_512, i_1000, i_1128, i_65535, i_65536, nI_add, pk_mul, pk_sub, nI_ltI, nI_leI, nI_eq, nI_clamp, if_pos, if_neg, ite_true, ite_false, Option.bind_some, Option.elim_some, Option.elim_none, Sum.elim_inl, Sum.elim_inr, hkd]
  · obtain ⟨s, hs, rfl⟩ := pk_lOf h0
    rw [if_neg h0, partA_n, partB_n hs]
    have e1 : (lN s < lN 0) = False := eq_false h0
    by_cases h1 : m ≤ s % 65536
    · left
      constructor
      · simp (disch := omega) only [i_0, i_1, i_2, i_3, i_4, i_5, i_6, i_7, i_8, i_10, i_12, i_16, i_31, i_32, i_64, i_100, i_128, i_255, i_256, i_512, i_1000, i_1128, i_65535, i_65536, nI_add, pk_mul, pk_sub, nI_ltI, nI_leI, nI_eq, nI_clamp, if_pos, if_neg, ite_true, ite_false, Option.bind_some, Option.elim_some, Option.elim_none, Sum.elim_inl, Sum.elim_inr, l_0, l_1, l_2, l_3, l_4, l_5, l_6, l_7, l_8, l_10, l_12, l_16, l_32, l_63, l_64, l_255, l_256, l_1000, l_65535, l_65536, nI_l, l_and, l_or, l_xor, and_63, l_shl, l_shr, l_ushr, lN_add, lN_mul, lN_sub, pk_lEQ, pk_lLT, pk_lLE, Nat.one_mul, Nat.pow_one]
      · simp (disch := omega) only [i_0, i_1, i_2, i_3, i_4, i_5, i_6, i_7, i_8, i_10, i_12, i_16, i_31, i_32, i_64, i_100, i_128, i_255, i_256, i_512, i_1000, i_1128, i_65535, i_65536, nI_add, pk_mul, pk_sub, nI_ltI, nI_leI, nI_eq, nI_clamp, if_pos, if_neg, ite_true, ite_false, Option.bind_some, Option.elim_some, Option.elim_none, Sum.elim_inl, Sum.elim_inr, l_0, l_1, l_2, l_3, l_4, l_5, l_6, l_7, l_8, l_10, l_12, l_16, l_32, l_63, l_64, l_255, l_256, l_1000, l_65535, l_65536, nI_l, l_and, l_or, l_xor, and_63, l_shl, l_shr, l_ushr, lN_add, lN_mul, lN_sub, pk_lEQ, pk_lLT, pk_lLE, Nat.one_mul, Nat.pow_one, hkd, hmo, e1, pk_lRem]
    · by_cases h2 : m ≤ s / 65536
      · left
        constructor
        · simp (disch := omega) only [i_0, i_1, i_2, i_3, i_4, i_5, i_6, i_7, i_8, i_10, i_12, i_16, i_31, i_32, i_64, i_100, i_128, i_255, i_256, i_512, i_1000, i_1128, i_65535, i_65536, nI_add, pk_mul, pk_sub, nI_ltI, nI_leI, nI_eq, nI_clamp, if_pos, if_neg, ite_true, ite_false, Option.bind_some, Option.elim_some, Option.elim_none, Sum.elim_inl, Sum.elim_inr, l_0, l_1, l_2, l_3, l_4, l_5, l_6, l_7, l_8, l_10, l_12, l_16, l_32, l_63, l_64, l_255, l_256, l_1000, l_65535, l_65536, nI_l, l_and, l_or, l_xor, and_63, l_shl, l_shr, l_ushr, lN_add, lN_mul, lN_sub, pk_lEQ, pk_lLT, pk_lLE, Nat.one_mul, Nat.pow_one]
        · simp (disch := omega) only [i_0, i_1, i_2, i_3, i_4, i_5, i_6, i_7, i_8, i_10, i_12, i_16, i_31, i_32, i_64, i_100, i_128, i_255, i_256, i_512, i_1000, i_1128, i_65535, i_65536, nI_add, pk_mul, pk_sub, nI_ltI, nI_leI, nI_eq, nI_clamp, if_pos, if_neg, ite_true, ite_false, Option.bind_some, Option.elim_some, Option.elim_none, Sum.elim_inl, Sum.elim_inr, l_0, l_1, l_2, l_3, l_4, l_5, l_6, l_7, l_8, l_10, l_12, l_16, l_32, l_63, l_64, l_255, l_256, l_1000, l_65535, l_65536, nI_l, l_and, l_or, l_xor, and_63, l_shl, l_shr, l_ushr, lN_add, lN_mul, lN_sub, pk_lEQ, pk_lLT, pk_lLE, Nat.one_mul, Nat.pow_one, hkd, hmo, e1, pk_lRem, pk_lDiv]
      · right
        refine ⟨?_, ?_, s, by omega, by omega, by omega, rfl⟩
        · simp (disch := omega) only [i_0, i_1, i_2, i_3, i_4, i_5, i_6, i_7, i_8, i_10, i_12, i_16, i_31, i_32, i_64, i_100, i_128, i_255, i_256, i_512, i_1000, i_1128, i_65535, i_65536, nI_add, pk_mul, pk_sub, nI_ltI, nI_leI, nI_eq, nI_clamp, if_pos, if_neg, ite_true, ite_false, Option.bind_some, Option.elim_some, Option.elim_none, Sum.elim_inl, Sum.elim_inr, l_0, l_1, l_2, l_3, l_4, l_5, l_6, l_7, l_8, l_10, l_12, l_16, l_32, l_63, l_64, l_255, l_256, l_1000, l_65535, l_65536, nI_l, l_and, l_or, l_xor, and_63, l_shl, l_shr, l_ushr, lN_add, lN_mul, lN_sub, pk_lEQ, pk_lLT, pk_lLE, Nat.one_mul, Nat.pow_one]
        · simp (disch := omega) only [i_0, i_1, i_2, i_3, i_4, i_5, i_6, i_7, i_8, i_10, i_12, i_16, i_31, i_32, i_64, i_100, i_128, i_255, i_256, i_512, i_1000, i_1128, i_65535, i_65536, nI_add, pk_mul, pk_sub, nI_ltI, nI_leI, nI_eq, nI_clamp, if_pos, if_neg, ite_true, ite_false, Option.bind_some, Option.elim_some, Option.elim_none, Sum.elim_inl, Sum.elim_inr, l_0, l_1, l_2, l_3, l_4, l_5, l_6, l_7, l_8, l_10, l_12, l_16, l_32, l_63, l_64, l_255, l_256, l_1000, l_65535, l_65536, nI_l, l_and, l_or, l_xor, and_63, l_shl, l_shr, l_ushr, lN_add, lN_mul, lN_sub, pk_lEQ, pk_lLT, pk_lLE, Nat.one_mul, Nat.pow_one, hkd, hmo, e1, pk_lRem, pk_lDiv]
theorem hold3 (x : Int64) {w k : Nat} (hj : j < 16) (hw' : w ≤ 32) (hk : k = 3 ∨ k = 4 ∨ k = 5) (hkd : kd j = nI k) (hbi : bi j = nI w) : (M_X11_fits x (nI w) = 0 ∧ M_X12_bears (nI j) x kd mo bi = some 0) ∨ (M_X11_fits x (nI w) = 1 ∧ M_X12_bears (nI j) x kd mo bi = some 1 ∧ ∃ s, s < 2 ^ w ∧ x = lN s) := by
  have e : M_X12_bears (nI j) x kd mo bi = some (M_X11_fits x (nI w)) := by
    unfold M_X12_bears M_X12_mask
    rcases hk with rfl | rfl | rfl <;> simp (disch := omega) only [i_0, i_1, i_2, i_3, i_4, i_5, i_6, i_7, i_8, i_10, i_12, i_16, i_31, i_32, i_64, i_100, i_128, i_255, i_256, i_512, i_1000, i_1128, i_65535, i_65536, nI_add, pk_mul, pk_sub, nI_ltI, nI_leI, nI_eq, nI_clamp, if_pos, if_neg, ite_true, ite_false, Option.bind_some, Option.elim_some, Option.elim_none, Sum.elim_inl, Sum.elim_inr, hkd, hbi] <;> rfl
  rw [e]
  rcases fits_c x hw' with h | ⟨h, h2⟩
  · exact Or.inl ⟨h, by rw [h]⟩
  · exact Or.inr ⟨h, by rw [h], h2⟩
end AL
