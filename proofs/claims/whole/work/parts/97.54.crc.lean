/-! Own rows: division of bits, as naturals. -/
def dbl (w p a : Nat) : Nat := ((a <<< 1) % 2 ^ w) ^^^ (if a.testBit (w - 1) then p else 0)
theorem dbl_lt {w p : Nat} (hp : p < 2 ^ w) (a : Nat) : dbl w p a < 2 ^ w := by
  unfold dbl
  refine Nat.xor_lt_two_pow (Nat.mod_lt _ (Nat.two_pow_pos w)) ?_
  split
  · exact hp
  · exact Nat.two_pow_pos w
theorem dbl_xor (w p a b : Nat) : dbl w p (a ^^^ b) = dbl w p a ^^^ dbl w p b := by
  unfold dbl
  rw [Nat.shiftLeft_xor_distrib, Nat.xor_mod_two_pow, Nat.testBit_xor]
  cases h1 : a.testBit (w - 1) <;> cases h2 : b.testBit (w - 1) <;> simp [Nat.xor_assoc, Nat.xor_comm, xlc, xcl]
theorem dbl_0 (w p : Nat) : dbl w p 0 = 0 := by simp [dbl]
def dn (w p : Nat) : Nat → Nat → Nat
  | 0, a => a
  | k + 1, a => dbl w p (dn w p k a)
theorem dn_lt {w p : Nat} (hp : p < 2 ^ w) (k : Nat) {a : Nat} (ha : a < 2 ^ w) : dn w p k a < 2 ^ w := by
  cases k with
  | zero => exact ha
  | succ k => exact dbl_lt hp _
theorem dn_xor (w p k a b : Nat) : dn w p k (a ^^^ b) = dn w p k a ^^^ dn w p k b := by
  induction k with
  | zero => rfl
  | succ k ih => show dbl w p _ = dbl w p _ ^^^ dbl w p _; rw [ih, dbl_xor]
theorem dn_0 (w p k : Nat) : dn w p k 0 = 0 := by
  induction k with
  | zero => rfl
  | succ k ih => show dbl w p _ = 0; rw [ih, dbl_0]
theorem dn_dn (w p j k a : Nat) : dn w p j (dn w p k a) = dn w p (j + k) a := by
  induction j with
  | zero => rw [Nat.zero_add]; rfl
  | succ j ih =>
    rw [show j + 1 + k = (j + k) + 1 from by omega]
    show dbl w p _ = dbl w p _
    rw [ih]
/-- one bit more -/
def stp (w p a : Nat) (b : Bool) : Nat := dbl w p (a ^^^ (b.toNat <<< (w - 1)))
theorem stp_lt {w p : Nat} (hp : p < 2 ^ w) (a : Nat) (b : Bool) : stp w p a b < 2 ^ w := dbl_lt hp _
theorem stp_f (w p a : Nat) : stp w p a false = dbl w p a := by simp [stp]
theorem stp_xor (w p a a' : Nat) (b b' : Bool) : stp w p (a ^^^ a') (b ^^ b') = stp w p a b ^^^ stp w p a' b' := by
  unfold stp
  rw [← dbl_xor]
  congr 1
  cases b <;> cases b' <;> simp [Nat.xor_assoc, Nat.xor_comm, xlc, xcl]
def bitAt (l b j : Nat) : Bool := if l = 0 then b.testBit (7 - j) else b.testBit j
theorem bitAt_xor (l b b' j : Nat) : bitAt l (b ^^^ b') j = (bitAt l b j ^^ bitAt l b' j) := by
  unfold bitAt
  split <;> exact Nat.testBit_xor ..
def byt (w p l b : Nat) : Nat → Nat → Nat
  | 0, s => s
  | j + 1, s => stp w p (byt w p l b j s) (bitAt l b j)
theorem byt_lt {w p : Nat} (hp : p < 2 ^ w) (l b j : Nat) {s : Nat} (hs : s < 2 ^ w) : byt w p l b j s < 2 ^ w := by
  cases j with
  | zero => exact hs
  | succ j => exact stp_lt hp _ _
theorem byt_xor (w p l b b' j s s' : Nat) : byt w p l (b ^^^ b') j (s ^^^ s') = byt w p l b j s ^^^ byt w p l b' j s' := by
  induction j with
  | zero => rfl
  | succ j ih => show stp w p _ _ = stp w p _ _ ^^^ stp w p _ _; rw [ih, bitAt_xor, stp_xor]
theorem stp_0t {w p : Nat} (hw : 1 ≤ w) : stp w p 0 true = p := by
  have e : 2 ^ (w - 1) * 2 ^ 1 = 2 ^ w := by rw [← Nat.pow_add]; congr 1; omega
  unfold stp dbl
  rw [Nat.zero_xor, show true.toNat = 1 from rfl, Nat.one_shiftLeft, Nat.testBit_two_pow_self, if_pos rfl, Nat.shiftLeft_eq, e, Nat.mod_self, Nat.zero_xor]
theorem stp_0f (w p : Nat) : stp w p 0 false = 0 := by rw [stp_f, dbl_0]
/-- the share of one bit -/
theorem byt_bit {w p l j : Nat} (hw : 1 ≤ w) (hl : l < 2) (hj : j < 8) : byt w p l (128 / 2 ^ j) 8 0 = dn w p (if l = 0 then 7 - j else j) p := by
  have h2 : l = 0 ∨ l = 1 := by omega
  have h8 : j = 0 ∨ j = 1 ∨ j = 2 ∨ j = 3 ∨ j = 4 ∨ j = 5 ∨ j = 6 ∨ j = 7 := by omega
  rcases h2 with rfl | rfl <;> rcases h8 with rfl | rfl | rfl | rfl | rfl | rfl | rfl | rfl <;>
    simp [byt, bitAt, dn, dbl_0, stp_0f, stp_0t hw, stp_f, Nat.testBit_eq_decide_div_mod_eq]
theorem pw1 {w : Nat} (hw : 1 ≤ w) : 2 ^ w = 2 * 2 ^ (w - 1) := by
  rw [← Nat.pow_succ']; congr 1; omega
theorem doubled_n {w p s : Nat} (hw : 1 ≤ w) (hw' : w ≤ 32) (hp : p < 2 ^ w) (hs : s < 2 ^ w) : M_X1_doubled (lN s) (nI w) (lN p) = lN (dbl w p s) := by
  have hq := pow_le hw'
  have h1 : s / 2 ^ (w - 1) ≤ s := Nat.div_le_self _ _
  unfold M_X1_doubled dbl
  rw [mask_n hw']
  simp (disch := omega) only [i_0, i_1, i_2, i_3, i_4, i_5, i_6, i_7, i_8, i_10, i_12, i_16, i_31, i_32, i_64, i_100, i_128, i_255, i_256, i_512, i_1000, i_1128, i_65535, i_65536, nI_add, pk_mul, pk_sub, n_and, n_or, n_xor, and_31, n_shl, n_shr, nI_ltI, nI_leI, nI_eq, nI_clamp, if_pos, if_neg, ite_true, ite_false, Option.bind_some, Option.elim_some, Option.elim_none, Sum.elim_inl, Sum.elim_inr, l_0, l_1, l_2, l_3, l_4, l_5, l_6, l_7, l_8, l_10, l_12, l_16, l_32, l_63, l_64, l_255, l_256, l_1000, l_65535, l_65536, nI_l, l_and, l_or, l_xor, and_63, l_shl, l_shr, l_ushr, lN_add, lN_mul, lN_sub, pk_lEQ, pk_lLT, pk_lLE, Nat.one_mul, Nat.pow_one, and_1, Nat.and_two_pow_sub_one_eq_mod, Nat.testBit_eq_decide_div_mod_eq, decide_eq_true_eq, Nat.shiftLeft_eq]
  split
  · rfl
  · rw [Nat.xor_zero]
theorem step_n {w p s : Nat} {b : Bool} (hw : 1 ≤ w) (hw' : w ≤ 32) (hp : p < 2 ^ w) (hs : s < 2 ^ w) : M_X12_step (lN s) (nI b.toNat) (nI w) (lN p) = lN (stp w p s b) := by
  have hq := pow_le hw'
  have hm : (((1 : Int64) <<< ((nI w).toInt64 &&& 63)) - 1) = lN (2 ^ w - 1) := mask_n hw'
  have h2 : s / 2 ^ (w - 1) < 2 := by
    rw [Nat.div_lt_iff_lt_mul (Nat.two_pow_pos _), ← pw1 hw]; exact hs
  have hb : b.toNat < 2 := by cases b <;> decide
  have h3 : s / 2 ^ (w - 1) ^^^ b.toNat < 2 := Nat.xor_lt_two_pow (n := 1) h2 hb
  have e1 : s.testBit (w - 1) = decide (s / 2 ^ (w - 1) = 1) := by
    rw [Nat.testBit_eq_decide_div_mod_eq, Nat.mod_eq_of_lt h2]
  have e2 : ((s ^^^ (b.toNat <<< (w - 1))) <<< 1) % 2 ^ w = (s * 2) % 2 ^ w := by
    rw [Nat.shiftLeft_xor_distrib, Nat.xor_mod_two_pow, Nat.shiftLeft_eq, Nat.shiftLeft_eq, Nat.shiftLeft_eq, Nat.mul_assoc, ← Nat.pow_add, show w - 1 + 1 = w from by omega, Nat.mul_mod_left, Nat.xor_zero, Nat.pow_one]
  have e3 : (s ^^^ (b.toNat <<< (w - 1))).testBit (w - 1) = decide (s / 2 ^ (w - 1) ^^^ b.toNat = 1) := by
    rw [Nat.testBit_xor, e1]
    have h4 := z01 h2
    cases b
    · rcases h4 with h4 | h4 <;> simp [h4]
    · rcases h4 with h4 | h4 <;> simp [h4]
  unfold M_X12_step stp dbl
  rw [hm, e2, e3]
  simp (disch := omega) only [i_0, i_1, i_2, i_3, i_4, i_5, i_6, i_7, i_8, i_10, i_12, i_16, i_31, i_32, i_64, i_100, i_128, i_255, i_256, i_512, i_1000, i_1128, i_65535, i_65536, nI_add, pk_mul, pk_sub, n_and, n_or, n_xor, and_31, n_shl, n_shr, nI_ltI, nI_leI, nI_eq, nI_clamp, if_pos, if_neg, ite_true, ite_false, Option.bind_some, Option.elim_some, Option.elim_none, Sum.elim_inl, Sum.elim_inr, l_0, l_1, l_2, l_3, l_4, l_5, l_6, l_7, l_8, l_10, l_12, l_16, l_32, l_63, l_64, l_255, l_256, l_1000, l_65535, l_65536, nI_l, l_and, l_or, l_xor, and_63, l_shl, l_shr, l_ushr, lN_add, lN_mul, lN_sub, pk_lEQ, pk_lLT, pk_lLE, Nat.one_mul, Nat.pow_one, Nat.and_two_pow_sub_one_eq_mod, decide_eq_true_eq]
  split
  · rfl
  · rw [Nat.xor_zero]
theorem bit_n {b : Nat} (hb : b < 2 ^ 31) {j : Nat} (hj : j < 32) : (nI b >>> (nI j &&& 31)) &&& 1 = nI (b.testBit j).toNat := by
  have h1 : b / 2 ^ j ≤ b := Nat.div_le_self _ _
  simp (disch := omega) only [i_0, i_1, i_2, i_3, i_4, i_5, i_6, i_7, i_8, i_10, i_12, i_16, i_31, i_32, i_64, i_100, i_128, i_255, i_256, i_512, i_1000, i_1128, i_65535, i_65536, nI_add, pk_mul, pk_sub, n_and, n_or, n_xor, and_31, n_shl, n_shr, nI_ltI, nI_leI, nI_eq, nI_clamp, if_pos, if_neg, ite_true, ite_false, Option.bind_some, Option.elim_some, Option.elim_none, Sum.elim_inl, Sum.elim_inr, and_1, Nat.testBit_eq_decide_div_mod_eq]
  congr 1
  have h2 : b / 2 ^ j % 2 = 0 ∨ b / 2 ^ j % 2 = 1 := by omega
  rcases h2 with h2 | h2 <;> simp [h2]
theorem bit_C {w : Nat} (hw : 1 ≤ w) (hw' : w ≤ 32) (b : Bool) : ((nI b.toNat).toInt64 <<< ((nI w - 1).toInt64 &&& 63)) = lN (b.toNat <<< (w - 1)) := by
  have hb : b.toNat < 2 := by cases b <;> decide
  simp (disch := omega) only [i_0, i_1, i_2, i_3, i_4, i_5, i_6, i_7, i_8, i_10, i_12, i_16, i_31, i_32, i_64, i_100, i_128, i_255, i_256, i_512, i_1000, i_1128, i_65535, i_65536, nI_add, pk_mul, pk_sub, n_and, n_or, n_xor, and_31, n_shl, n_shr, nI_ltI, nI_leI, nI_eq, nI_clamp, if_pos, if_neg, ite_true, ite_false, Option.bind_some, Option.elim_some, Option.elim_none, Sum.elim_inl, Sum.elim_inr, l_0, l_1, l_2, l_3, l_4, l_5, l_6, l_7, l_8, l_10, l_12, l_16, l_32, l_63, l_64, l_255, l_256, l_1000, l_65535, l_65536, nI_l, l_and, l_or, l_xor, and_63, l_shl, l_shr, l_ushr, lN_add, lN_mul, lN_sub, pk_lEQ, pk_lLT, pk_lLE, Nat.one_mul, Nat.pow_one, Nat.shiftLeft_eq]
theorem tb_lt {w : Nat} (hw : 1 ≤ w) (b : Bool) : b.toNat <<< (w - 1) < 2 ^ w := by
  have h := Nat.two_pow_pos (w - 1)
  rw [Nat.shiftLeft_eq, pw1 hw]
  cases b
  · simp; exact Nat.pow_pos (by decide)
  · show 1 * _ < _; omega
theorem afterByte_n {n : Nat} (hn : 100 < n) {w p l s b : Nat} (hw : 1 ≤ w) (hw' : w ≤ 32) (hp : p < 2 ^ w) (hs : s < 2 ^ w) (hl : l < 2) (hb : b < 2 ^ 31) : M_X1_afterByte n (lN s) (nI b) (nI w) (lN p) (nI l) = some (lN (byt w p l b 8 s)) := by
  unfold M_X1_afterByte
  refine lp_b (lp_seq (f := fun x : (Int64 × Int32) => M_X1_afterByte_b6 n (nI b) (nI w) (lN p) (nI l) x.1 x.2) (fun i => (lN (byt w p l b i s), nI i)) (r := lN (byt w p l b 8 s)) (N := 8) ?_ n 0 (by omega) (by omega) ?_) rfl
  · rfl
  · intro i _ hi
    have hlt := byt_lt hp l b i hs
    have hx : ∀ c : Bool, byt w p l b i s ^^^ (c.toNat <<< (w - 1)) < 2 ^ w := fun c => Nat.xor_lt_two_pow hlt (tb_lt hw c)
    have h8 : ¬ (8 : Int32) ≤ nI i := by rw [i_8, nI_leI (by omega) (by omega)]; omega
    have e7 : (7 : Int32) - nI i = nI (7 - i) := pk_sub (a := 7) (by omega)
    have hl2 : l = 0 ∨ l = 1 := by omega
    show M_X1_afterByte_b6 n (nI b) (nI w) (lN p) (nI l) (lN (byt w p l b i s)) (nI i) = _
    unfold M_X1_afterByte_b6
    rw [if_neg h8, e7, bit_n hb (by omega), bit_n hb (by omega), bit_C hw hw', bit_C hw hw', l_xor, l_xor, doubled_n hw hw' hp (hx _), doubled_n hw hw' hp (hx _), nI_1]
    rcases hl2 with rfl | rfl
    · rw [if_pos (show nI 0 = 0 from rfl)]
      show _ = some (Sum.inl (lN (stp w p _ (bitAt 0 b i)), _))
      rfl
    · rw [if_neg (show ¬ nI 1 = 0 by decide)]
      show _ = some (Sum.inl (lN (stp w p _ (bitAt 1 b i)), _))
      rfl
theorem stepByte_n {n : Nat} (hn : 100 < n) {w p l s b : Nat} (hw : 1 ≤ w) (hw' : w ≤ 32) (hp : p < 2 ^ w) (hs : s < 2 ^ w) (hl : l < 2) (hb : b < 2 ^ 31) : M_X12_stepByte n (lN s) (nI b) (nI w) (lN p) (nI l) = some (lN (byt w p l b 8 s)) := by
  unfold M_X12_stepByte
  refine lp_b (lp_seq (f := fun x : (Int64 × Int32) => M_X12_stepByte_b6 n (nI b) (nI w) (lN p) (nI l) x.1 x.2) (fun i => (lN (byt w p l b i s), nI i)) (r := lN (byt w p l b 8 s)) (N := 8) ?_ n 0 (by omega) (by omega) ?_) rfl
  · rfl
  · intro i _ hi
    have hlt := byt_lt hp l b i hs
    have h8 : ¬ (8 : Int32) ≤ nI i := by rw [i_8, nI_leI (by omega) (by omega)]; omega
    have e7 : (7 : Int32) - nI i = nI (7 - i) := pk_sub (a := 7) (by omega)
    have hl2 : l = 0 ∨ l = 1 := by omega
    show M_X12_stepByte_b6 n (nI b) (nI w) (lN p) (nI l) (lN (byt w p l b i s)) (nI i) = _
    unfold M_X12_stepByte_b6
    rw [if_neg h8, e7, bit_n hb (by omega), bit_n hb (by omega), step_n hw hw' hp hlt, step_n hw hw' hp hlt, nI_1]
    rcases hl2 with rfl | rfl
    · rw [if_pos (show nI 0 = 0 from rfl)]
      rfl
    · rw [if_neg (show ¬ nI 1 = 0 by decide)]
      rfl
theorem afterZeros_n {n : Nat} (hn : 10000 < n) {w p s k : Nat} (hw : 1 ≤ w) (hw' : w ≤ 32) (hp : p < 2 ^ w) (hs : s < 2 ^ w) (hk : k ≤ 1000) : M_X1_afterZeros n (lN s) (nI k) (nI w) (lN p) = some (lN (dn w p (8 * k) s)) := by
  unfold M_X1_afterZeros
  refine lp_b (lp_seq (f := fun x : (Int64 × Int32) => M_X1_afterZeros_b6 n (nI k) (nI w) (lN p) x.1 x.2) (fun i => (lN (dn w p i s), nI i)) (r := lN (dn w p (8 * k) s)) (N := 8 * k) ?_ n 0 (by omega) (by omega) ?_) rfl
  · unfold M_X1_afterZeros_b6
    simp (disch := omega) only [i_0, i_1, i_2, i_3, i_4, i_5, i_6, i_7, i_8, i_10, i_12, i_16, i_31, i_32, i_64, i_100, i_128, i_255, i_256, i_512, i_1000, i_1128, i_65535, i_65536, nI_add, pk_mul, pk_sub, nI_ltI, nI_leI, nI_eq, nI_clamp, if_pos, if_neg, ite_true, ite_false, Option.bind_some, Option.elim_some, Option.elim_none, Sum.elim_inl, Sum.elim_inr]
  · intro i _ hi
    unfold M_X1_afterZeros_b6
    simp (disch := omega) only [i_0, i_1, i_2, i_3, i_4, i_5, i_6, i_7, i_8, i_10, i_12, i_16, i_31, i_32, i_64, i_100, i_128, i_255, i_256, i_512, i_1000, i_1128, i_65535, i_65536, nI_add, pk_mul, pk_sub, nI_ltI, nI_leI, nI_eq, nI_clamp, if_pos, if_neg, ite_true, ite_false, Option.bind_some, Option.elim_some, Option.elim_none, Sum.elim_inl, Sum.elim_inr]
    rw [doubled_n hw hw' hp (dn_lt hp i hs)]
    rfl
theorem step0_n {w p s : Nat} (hw : 1 ≤ w) (hw' : w ≤ 32) (hp : p < 2 ^ w) (hs : s < 2 ^ w) : M_X12_step (lN s) 0 (nI w) (lN p) = lN (dbl w p s) := by
  have := step_n (b := false) hw hw' hp hs
  rw [stp_f] at this
  exact this
theorem passed_n {n : Nat} (hn : 10000 < n) {w p s k j : Nat} {bi : Nat → Int32} {po : Nat → Int64} (hj : j < 16) (hbi : bi j = nI w) (hpo : po j = lN p) (hw : 1 ≤ w) (hw' : w ≤ 32) (hp : p < 2 ^ w) (hs : s < 2 ^ w) (hk : k ≤ 1000) : M_X12_passed n (nI j) (lN s) (nI k) bi po = some (lN (dn w p (8 * k) s)) := by
  unfold M_X12_passed
  refine lp_b (lp_seq (f := fun x : (Int64 × Int32) => M_X12_passed_b6 n (nI j) (nI k) bi po x.1 x.2) (fun i => (lN (dn w p i s), nI i)) (r := lN (dn w p (8 * k) s)) (N := 8 * k) ?_ n 0 (by omega) (by omega) ?_) rfl
  · unfold M_X12_passed_b6
    simp (disch := omega) only [i_0, i_1, i_2, i_3, i_4, i_5, i_6, i_7, i_8, i_10, i_12, i_16, i_31, i_32, i_64, i_100, i_128, i_255, i_256, i_512, i_1000, i_1128, i_65535, i_65536, nI_add, pk_mul, pk_sub, nI_ltI, nI_leI, nI_eq, nI_clamp, if_pos, if_neg, ite_true, ite_false, Option.bind_some, Option.elim_some, Option.elim_none, Sum.elim_inl, Sum.elim_inr]
  · intro i _ hi
    unfold M_X12_passed_b6
    have hs0 := step0_n hw hw' hp (dn_lt hp i hs)
    rw [i_0] at hs0
    simp (disch := omega) only [i_0, i_1, i_2, i_3, i_4, i_5, i_6, i_7, i_8, i_10, i_12, i_16, i_31, i_32, i_64, i_100, i_128, i_255, i_256, i_512, i_1000, i_1128, i_65535, i_65536, nI_add, pk_mul, pk_sub, nI_ltI, nI_leI, nI_eq, nI_clamp, if_pos, if_neg, ite_true, ite_false, Option.bind_some, Option.elim_some, Option.elim_none, Sum.elim_inl, Sum.elim_inr, hbi, hpo, hs0]
    rfl
