/-! Own rows: THE SUM of a row, by all makes. -/
theorem ofn (n : Nat) : Int32.ofNat n = nI n := rfl
def bv (f : Nat → Int32) (j : Nat) : Nat := (f j).toNatClampNeg
theorem bv_of {f : Nat → Int32} {j B : Nat} (hB : B ≤ 2 ^ 31) (h : ∃ v, v < B ∧ f j = nI v) : f j = nI (bv f j) ∧ bv f j < B := by
  obtain ⟨v, hv, e⟩ := h
  unfold bv
  rw [e, nI_clamp (by omega)]
  exact ⟨rfl, hv⟩
/-- weighted sums, not reduced -/
def wsm (u b : Nat → Nat) : Nat → Nat
  | 0 => 0
  | i + 1 => wsm u b i + u i * b i
theorem wsm_le {u b : Nat → Nat} {L : Nat} (hu : ∀ i, i < L → u i < 65536) (hb : ∀ i, i < L → b i < 256) : ∀ i, i ≤ L → wsm u b i ≤ i * 16777216 := by
  intro i
  induction i with
  | zero => intro _; exact Nat.zero_le _
  | succ i ih =>
    intro h
    have h1 := ih (by omega)
    have h2 : u i * b i ≤ 65536 * 256 := Nat.mul_le_mul (Nat.le_of_lt (hu i h)) (Nat.le_of_lt (hb i h))
    show wsm u b i + u i * b i ≤ _
    omega
def tw (m : Nat) (b : Nat → Nat) : Nat → Nat × Nat
  | 0 => (0, 0)
  | i + 1 => (((tw m b i).1 + b i) % m, ((tw m b i).2 + ((tw m b i).1 + b i) % m) % m)
theorem tw_lt {m : Nat} (hm : 0 < m) (b : Nat → Nat) (i : Nat) : (tw m b i).1 < m ∧ (tw m b i).2 < m := by
  cases i with
  | zero => exact ⟨hm, hm⟩
  | succ i => exact ⟨Nat.mod_lt _ hm, Nat.mod_lt _ hm⟩
def rol (w t s : Nat) : Nat := ((s * 2 ^ t) ||| (s / 2 ^ (w - t))) % 2 ^ w
theorem rol_0 {w s : Nat} (hs : s < 2 ^ w) : rol w 0 s = s := by
  unfold rol
  rw [Nat.sub_zero, Nat.div_eq_of_lt hs, Nat.or_zero, Nat.pow_zero, Nat.mul_one, Nat.mod_eq_of_lt hs]
theorem rol_lt (w t s : Nat) : rol w t s < 2 ^ w := Nat.mod_lt _ (Nat.two_pow_pos w)
theorem carried8 {w t k s : Nat} (hw : 1 ≤ w) (hw' : w ≤ 32) (ht : t < w) (hk : k ≤ 1000) (hs : s < 2 ^ w) : M_X8_carried (lN s) (nI k) (nI w) (nI t) = some (lN (rol w (t * k % w) s)) := by
  have hq := pow_le hw'
  have hm := Nat.mod_lt (t * k) (show w > 0 from hw)
  have h1 : t * k ≤ 32 * 1000 := Nat.mul_le_mul (by omega) hk
  unfold M_X8_carried rol
  rw [mask_n hw']
  simp (disch := omega) only [i_0, i_1, i_2, i_3, i_4, i_5, i_6, i_7, i_8, i_10, i_12, i_16, i_31, i_32, i_64, i_100, i_128, i_255, i_256, i_512, i_1000, i_1128, i_65535, i_65536, nI_add, pk_mul, pk_sub, nI_ltI, nI_leI, nI_eq, nI_clamp, if_pos, if_neg, ite_true, ite_false, Option.bind_some, Option.elim_some, Option.elim_none, Sum.elim_inl, Sum.elim_inr, pk_rem, l_0, l_1, l_2, l_3, l_4, l_5, l_6, l_7, l_8, l_10, l_12, l_16, l_32, l_63, l_64, l_255, l_256, l_1000, l_65535, l_65536, nI_l, l_and, l_or, l_xor, and_63, l_shl, l_shr, l_ushr, lN_add, lN_mul, lN_sub, pk_lEQ, pk_lLT, pk_lLE, Nat.one_mul, Nat.pow_one, Nat.and_two_pow_sub_one_eq_mod]
theorem rolled_n {w k s : Nat} (hw : 1 ≤ w) (hw' : w ≤ 32) (hk : k < 2 ^ 30) (hs : s < 2 ^ w) : M_X12_rolled (lN s) (nI k) (nI w) = some (lN (rol w (k % w) s)) := by
  have hq := pow_le hw'
  have hm := Nat.mod_lt k (show w > 0 from hw)
  have hmk : (((1 : Int64) <<< ((nI w).toInt64 &&& 63)) - 1) = lN (2 ^ w - 1) := mask_n hw'
  unfold M_X12_rolled
  rw [hmk]
  by_cases e : k % w = 0
  · simp (disch := omega) only [i_0, i_1, i_2, i_3, i_4, i_5, i_6, i_7, i_8, i_10, i_12, i_16, i_31, i_32, i_64, i_100, i_128, i_255, i_256, i_512, i_1000, i_1128, i_65535, i_65536, nI_add, pk_mul, pk_sub, nI_ltI, nI_leI, nI_eq, nI_clamp, if_pos, if_neg, ite_true, ite_false, Option.bind_some, Option.elim_some, Option.elim_none, Sum.elim_inl, Sum.elim_inr, pk_rem, e]
    rw [rol_0 hs]
  · unfold rol
    simp (disch := omega) only [i_0, i_1, i_2, i_3, i_4, i_5, i_6, i_7, i_8, i_10, i_12, i_16, i_31, i_32, i_64, i_100, i_128, i_255, i_256, i_512, i_1000, i_1128, i_65535, i_65536, nI_add, pk_mul, pk_sub, nI_ltI, nI_leI, nI_eq, nI_clamp, if_pos, if_neg, ite_true, ite_false, Option.bind_some, Option.elim_some, Option.elim_none, Sum.elim_inl, Sum.elim_inr, pk_rem, l_0, l_1, l_2, l_3, l_4, l_5, l_6, l_7, l_8, l_10, l_12, l_16, l_32, l_63, l_64, l_255, l_256, l_1000, l_65535, l_65536, nI_l, l_and, l_or, l_xor, and_63, l_shl, l_shr, l_ushr, lN_add, lN_mul, lN_sub, pk_lEQ, pk_lLT, pk_lLE, Nat.one_mul, Nat.pow_one, Nat.and_two_pow_sub_one_eq_mod]
def trn (w t : Nat) (b : Nat → Nat) : Nat → Nat
  | 0 => 0
  | i + 1 => rol w (t % w) (trn w t b i) ^^^ b i
theorem trn_lt {w t : Nat} (hw : 8 ≤ w) {b : Nat → Nat} {L : Nat} (hb : ∀ i, i < L → b i < 256) : ∀ i, i ≤ L → trn w t b i < 2 ^ w := by
  intro i h
  cases i with
  | zero => exact Nat.two_pow_pos w
  | succ i =>
    refine Nat.xor_lt_two_pow (rol_lt _ _ _) ?_
    have h1 : 2 ^ 8 ≤ 2 ^ w := Nat.pow_le_pow_right (by decide) hw
    have := hb i h
    omega
def crc (w p l s : Nat) (b : Nat → Nat) : Nat → Nat
  | 0 => s
  | i + 1 => byt w p l (b i) 8 (crc w p l s b i)
theorem crc_lt {w p l s : Nat} (hp : p < 2 ^ w) (hs : s < 2 ^ w) (b : Nat → Nat) (i : Nat) : crc w p l s b i < 2 ^ w := by
  cases i with
  | zero => exact hs
  | succ i => exact byt_lt hp _ _ _ (crc_lt hp hs b i)
section RW
variable {n : Nat} (hn : 10000 < n) {L : Nat} (hL : L ≤ 64) {b : Nat → Nat} {f f2 : Nat → Int32} (hb : ∀ i, i < L → b i < 256) (hf : ∀ i, i < L → f i = nI (b i)) (hf2 : ∀ i, i < L → f2 i = nI (b i))
variable {j : Nat} (hj : j < 16) {kd mo bi tu : Nat → Int32} {po be fi : Nat → Int64} {lo wo wt ce : Nat → Int32}
theorem weightAt_n {wl i : Nat} {u : Nat → Nat} {wf : Nat → Int32} (h1 : 1 ≤ wl) (h2 : wl ≤ 12) (hu : ∀ i, i < wl → wf i = nI (u i)) (hi : i < 2 ^ 30) : M_X10_weightAt (nI i) wl wf = some (nI (u (i % wl))) := by
  have hm := Nat.mod_lt i (show wl > 0 from h1)
  unfold M_X10_weightAt
  simp (disch := omega) only [i_0, i_1, i_2, i_3, i_4, i_5, i_6, i_7, i_8, i_10, i_12, i_16, i_31, i_32, i_64, i_100, i_128, i_255, i_256, i_512, i_1000, i_1128, i_65535, i_65536, nI_add, pk_mul, pk_sub, nI_ltI, nI_leI, nI_eq, nI_clamp, if_pos, if_neg, ite_true, ite_false, Option.bind_some, Option.elim_some, Option.elim_none, Sum.elim_inl, Sum.elim_inr, ofn, pk_rem, hu]
theorem ofRow10 (hn : 10000 < n) (hL : L ≤ 64) (hb : ∀ i, i < L → b i < 256) (hf : ∀ i, i < L → f i = nI (b i)) {m wl : Nat} (hm : 2 ≤ m) (hm' : m ≤ 65536) {u : Nat → Nat} {wf : Nat → Int32} (h1 : 1 ≤ wl) (h2 : wl ≤ 12) (hu : ∀ i, i < wl → wf i = nI (u i)) (hu2 : ∀ i, i < wl → u i < 65536) : M_X10_ofRow n (nI L) f 64 (nI m) wl wf = some (lN (wsm (fun i => u (i % wl)) b L % m)) := by
  have hu3 : ∀ i, i < L → u (i % wl) < 65536 := fun i _ => hu2 _ (Nat.mod_lt i (show wl > 0 from h1))
  have hle := wsm_le (u := fun i => u (i % wl)) hu3 hb
  unfold M_X10_ofRow
  refine lp_b (lp_seq (f := fun x : (Int64 × Int32) => M_X10_ofRow_b5 n (nI L) f 64 wl wf x.1 x.2) (fun i => (lN (wsm (fun i => u (i % wl)) b i), nI i)) (r := lN (wsm (fun i => u (i % wl)) b L)) (N := L) ?_ n 0 (by omega) (by omega) ?_) ?_
  · unfold M_X10_ofRow_b5
    simp (disch := omega) only [i_0, i_1, i_2, i_3, i_4, i_5, i_6, i_7, i_8, i_10, i_12, i_16, i_31, i_32, i_64, i_100, i_128, i_255, i_256, i_512, i_1000, i_1128, i_65535, i_65536, nI_add, pk_mul, pk_sub, nI_ltI, nI_leI, nI_eq, nI_clamp, if_pos, if_neg, ite_true, ite_false, Option.bind_some, Option.elim_some, Option.elim_none, Sum.elim_inl, Sum.elim_inr]
  · intro i _ hi
    have := hb i hi
    have := hu3 i hi
    unfold M_X10_ofRow_b5
    simp (disch := omega) only [i_0, i_1, i_2, i_3, i_4, i_5, i_6, i_7, i_8, i_10, i_12, i_16, i_31, i_32, i_64, i_100, i_128, i_255, i_256, i_512, i_1000, i_1128, i_65535, i_65536, nI_add, pk_mul, pk_sub, nI_ltI, nI_leI, nI_eq, nI_clamp, if_pos, if_neg, ite_true, ite_false, Option.bind_some, Option.elim_some, Option.elim_none, Sum.elim_inl, Sum.elim_inr, weightAt_n h1 h2 hu, hf, l_0, l_1, l_2, l_3, l_4, l_5, l_6, l_7, l_8, l_10, l_12, l_16, l_32, l_63, l_64, l_255, l_256, l_1000, l_65535, l_65536, nI_l, l_and, l_or, l_xor, and_63, l_shl, l_shr, l_ushr, lN_add, lN_mul, lN_sub, pk_lEQ, pk_lLT, pk_lLE, Nat.one_mul, Nat.pow_one]
    rfl
  · have := hle L (Nat.le_refl L)
    simp (disch := omega) only [l_0, l_1, l_2, l_3, l_4, l_5, l_6, l_7, l_8, l_10, l_12, l_16, l_32, l_63, l_64, l_255, l_256, l_1000, l_65535, l_65536, nI_l, l_and, l_or, l_xor, and_63, l_shl, l_shr, l_ushr, lN_add, lN_mul, lN_sub, pk_lEQ, pk_lLT, pk_lLE, Nat.one_mul, Nat.pow_one, if_neg, pk_lRem]
theorem sumOf0 (hn : 10000 < n) (hL : L ≤ 64) (hb : ∀ i, i < L → b i < 256) (hf2 : ∀ i, i < L → f2 i = nI (b i)) (hj : j < 16) {m : Nat} (hm : 2 ≤ m) (hm' : m ≤ 65536) (hkd : kd j = nI 0) (hmo : mo j = nI m) : M_X12_sumOf n (nI j) (nI L) kd mo bi tu po be fi lo wo wt ce f2 = some (lN (wsm (fun _ => 1) b L % m)) := by
  have hle := wsm_le (u := fun _ => 1) (fun i _ => by omega) hb
  unfold M_X12_sumOf
  simp (disch := omega) only [i_0, i_1, i_2, i_3, i_4, i_5, i_6, i_7, i_8, i_10, i_12, i_16, i_31, i_32, i_64, i_100, i_128, i_255, i_256, i_512, i_1000, i_1128, i_65535, i_65536, nI_add, pk_mul, pk_sub, nI_ltI, nI_leI, nI_eq, nI_clamp, if_pos, if_neg, ite_true, ite_false, Option.bind_some, Option.elim_some, Option.elim_none, Sum.elim_inl, Sum.elim_inr, hkd, hmo]
  refine lp_b (lp_seq (f := fun x : (Int64 × Int64 × Int32) => M_X12_sumOf_b46 n (nI j) (nI L) (nI 0) (nI m) bi tu po lo wo wt ce f2 x.1 x.2.1 x.2.2) (fun i => (lN (wsm (fun _ => 1) b i % m), lN 0, nI i)) (r := Sum.inl (lN (wsm (fun _ => 1) b L % m), lN 0)) (N := L) ?_ n 0 (by omega) (by omega) ?_) rfl
  · unfold M_X12_sumOf_b46
    simp (disch := omega) only [i_0, i_1, i_2, i_3, i_4, i_5, i_6, i_7, i_8, i_10, i_12, i_16, i_31, i_32, i_64, i_100, i_128, i_255, i_256, i_512, i_1000, i_1128, i_65535, i_65536, nI_add, pk_mul, pk_sub, nI_ltI, nI_leI, nI_eq, nI_clamp, if_pos, if_neg, ite_true, ite_false, Option.bind_some, Option.elim_some, Option.elim_none, Sum.elim_inl, Sum.elim_inr]
  · intro i _ hi
    have := hb i hi
    have := Nat.mod_lt (wsm (fun _ => 1) b i) (show m > 0 by omega)
    unfold M_X12_sumOf_b46
    simp (disch := omega) only [i_0, i_1, i_2, i_3, i_4, i_5, i_6, i_7, i_8, i_10, i_12, i_16, i_31, i_32, i_64, i_100, i_128, i_255, i_256, i_512, i_1000, i_1128, i_65535, i_65536, nI_add, pk_mul, pk_sub, nI_ltI, nI_leI, nI_eq, nI_clamp, if_pos, if_neg, ite_true, ite_false, Option.bind_some, Option.elim_some, Option.elim_none, Sum.elim_inl, Sum.elim_inr, hf2, l_0, l_1, l_2, l_3, l_4, l_5, l_6, l_7, l_8, l_10, l_12, l_16, l_32, l_63, l_64, l_255, l_256, l_1000, l_65535, l_65536, nI_l, l_and, l_or, l_xor, and_63, l_shl, l_shr, l_ushr, lN_add, lN_mul, lN_sub, pk_lEQ, pk_lLT, pk_lLE, Nat.one_mul, Nat.pow_one, pk_lRem, Nat.mod_add_mod]
    show _ = some (Sum.inl (lN ((wsm (fun _ => 1) b i + 1 * b i) % m), _))
    rw [Nat.one_mul]
theorem sumOf2 (hn : 10000 < n) (hL : L ≤ 64) (hb : ∀ i, i < L → b i < 256) (hf2 : ∀ i, i < L → f2 i = nI (b i)) (hj : j < 16) {m wl : Nat} (hm : 2 ≤ m) (hm' : m ≤ 65536) {u : Nat → Nat} (h1 : 1 ≤ wl) (h2 : wl ≤ 12) (hu : ∀ i, i < wl → wt (12 * j + i) = nI (u i)) (hu2 : ∀ i, i < wl → u i < 65536) (hkd : kd j = nI 2) (hmo : mo j = nI m) (hwo : wo j = nI wl) : M_X12_sumOf n (nI j) (nI L) kd mo bi tu po be fi lo wo wt ce f2 = some (lN (wsm (fun i => u (i % wl)) b L % m)) := by
  have hu3 : ∀ i, i < L → u (i % wl) < 65536 := fun i _ => hu2 _ (Nat.mod_lt i (show wl > 0 from h1))
  have hle := wsm_le (u := fun i => u (i % wl)) hu3 hb
  unfold M_X12_sumOf
  simp (disch := omega) only [i_0, i_1, i_2, i_3, i_4, i_5, i_6, i_7, i_8, i_10, i_12, i_16, i_31, i_32, i_64, i_100, i_128, i_255, i_256, i_512, i_1000, i_1128, i_65535, i_65536, nI_add, pk_mul, pk_sub, nI_ltI, nI_leI, nI_eq, nI_clamp, if_pos, if_neg, ite_true, ite_false, Option.bind_some, Option.elim_some, Option.elim_none, Sum.elim_inl, Sum.elim_inr, hkd, hmo]
  refine lp_b (lp_seq (f := fun x : (Int64 × Int64 × Int32) => M_X12_sumOf_b46 n (nI j) (nI L) (nI 2) (nI m) bi tu po lo wo wt ce f2 x.1 x.2.1 x.2.2) (fun i => (lN (wsm (fun i => u (i % wl)) b i % m), lN 0, nI i)) (r := Sum.inl (lN (wsm (fun i => u (i % wl)) b L % m), lN 0)) (N := L) ?_ n 0 (by omega) (by omega) ?_) rfl
  · unfold M_X12_sumOf_b46
    simp (disch := omega) only [i_0, i_1, i_2, i_3, i_4, i_5, i_6, i_7, i_8, i_10, i_12, i_16, i_31, i_32, i_64, i_100, i_128, i_255, i_256, i_512, i_1000, i_1128, i_65535, i_65536, nI_add, pk_mul, pk_sub, nI_ltI, nI_leI, nI_eq, nI_clamp, if_pos, if_neg, ite_true, ite_false, Option.bind_some, Option.elim_some, Option.elim_none, Sum.elim_inl, Sum.elim_inr]
  · intro i _ hi
    have := hb i hi
    have := hu3 i hi
    have h4 : u (i % wl) * b i ≤ 65536 * 256 := Nat.mul_le_mul (by omega) (by omega)
    have := Nat.mod_lt i (show wl > 0 from h1)
    have := Nat.mod_lt (wsm (fun i => u (i % wl)) b i) (show m > 0 by omega)
    unfold M_X12_sumOf_b46
    simp (disch := omega) only [i_0, i_1, i_2, i_3, i_4, i_5, i_6, i_7, i_8, i_10, i_12, i_16, i_31, i_32, i_64, i_100, i_128, i_255, i_256, i_512, i_1000, i_1128, i_65535, i_65536, nI_add, pk_mul, pk_sub, nI_ltI, nI_leI, nI_eq, nI_clamp, if_pos, if_neg, ite_true, ite_false, Option.bind_some, Option.elim_some, Option.elim_none, Sum.elim_inl, Sum.elim_inr, hwo, pk_rem, hf2, hu, l_0, l_1, l_2, l_3, l_4, l_5, l_6, l_7, l_8, l_10, l_12, l_16, l_32, l_63, l_64, l_255, l_256, l_1000, l_65535, l_65536, nI_l, l_and, l_or, l_xor, and_63, l_shl, l_shr, l_ushr, lN_add, lN_mul, lN_sub, pk_lEQ, pk_lLT, pk_lLE, Nat.one_mul, Nat.pow_one, pk_lRem, Nat.mod_add_mod]
    rfl
theorem ofRow9 (hn : 10000 < n) (hL : L ≤ 64) (hb : ∀ i, i < L → b i < 256) (hf : ∀ i, i < L → f i = nI (b i)) {m : Nat} (hm : 2 ≤ m) (hm' : m ≤ 65536) : M_X9_ofRow n (nI L) f 64 (nI m) = some (lN (65536 * (tw m b L).2 + (tw m b L).1)) := by
  unfold M_X9_ofRow
  refine lp_b (lp_seq (f := fun x : (Int64 × Int64 × Int32) => M_X9_ofRow_b8 n (nI L) f 64 (nI m) x.1 x.2.1 x.2.2) (fun i => (lN (tw m b i).1, lN (tw m b i).2, nI i)) (r := (lN (tw m b L).1, lN (tw m b L).2)) (N := L) ?_ n 0 (by omega) (by omega) ?_) ?_
  · unfold M_X9_ofRow_b8
    simp (disch := omega) only [i_0, i_1, i_2, i_3, i_4, i_5, i_6, i_7, i_8, i_10, i_12, i_16, i_31, i_32, i_64, i_100, i_128, i_255, i_256, i_512, i_1000, i_1128, i_65535, i_65536, nI_add, pk_mul, pk_sub, nI_ltI, nI_leI, nI_eq, nI_clamp, if_pos, if_neg, ite_true, ite_false, Option.bind_some, Option.elim_some, Option.elim_none, Sum.elim_inl, Sum.elim_inr]
  · intro i _ hi
    have := hb i hi
    have ⟨h1, h2⟩ := tw_lt (show 0 < m by omega) b i
    have := Nat.mod_lt ((tw m b i).1 + b i) (show m > 0 by omega)
    unfold M_X9_ofRow_b8
    simp (disch := omega) only [i_0, i_1, i_2, i_3, i_4, i_5, i_6, i_7, i_8, i_10, i_12, i_16, i_31, i_32, i_64, i_100, i_128, i_255, i_256, i_512, i_1000, i_1128, i_65535, i_65536, nI_add, pk_mul, pk_sub, nI_ltI, nI_leI, nI_eq, nI_clamp, if_pos, if_neg, ite_true, ite_false, Option.bind_some, Option.elim_some, Option.elim_none, Sum.elim_inl, Sum.elim_inr, hf, l_0, l_1, l_2, l_3, l_4, l_5, l_6, l_7, l_8, l_10, l_12, l_16, l_32, l_63, l_64, l_255, l_256, l_1000, l_65535, l_65536, nI_l, l_and, l_or, l_xor, and_63, l_shl, l_shr, l_ushr, lN_add, lN_mul, lN_sub, pk_lEQ, pk_lLT, pk_lLE, Nat.one_mul, Nat.pow_one, pk_lRem]
    rfl
  · unfold M_X9_packed
    simp (disch := omega) only [l_0, l_1, l_2, l_3, l_4, l_5, l_6, l_7, l_8, l_10, l_12, l_16, l_32, l_63, l_64, l_255, l_256, l_1000, l_65535, l_65536, nI_l, l_and, l_or, l_xor, and_63, l_shl, l_shr, l_ushr, lN_add, lN_mul, lN_sub, pk_lEQ, pk_lLT, pk_lLE, Nat.one_mul, Nat.pow_one]
theorem sumOf1 (hn : 10000 < n) (hL : L ≤ 64) (hb : ∀ i, i < L → b i < 256) (hf2 : ∀ i, i < L → f2 i = nI (b i)) (hj : j < 16) {m : Nat} (hm : 2 ≤ m) (hm' : m ≤ 65536) (hkd : kd j = nI 1) (hmo : mo j = nI m) : M_X12_sumOf n (nI j) (nI L) kd mo bi tu po be fi lo wo wt ce f2 = some (lN (65536 * (tw m b L).2 + (tw m b L).1)) := by
  unfold M_X12_sumOf
  simp (disch := omega) only [i_0, i_1, i_2, i_3, i_4, i_5, i_6, i_7, i_8, i_10, i_12, i_16, i_31, i_32, i_64, i_100, i_128, i_255, i_256, i_512, i_1000, i_1128, i_65535, i_65536, nI_add, pk_mul, pk_sub, nI_ltI, nI_leI, nI_eq, nI_clamp, if_pos, if_neg, ite_true, ite_false, Option.bind_some, Option.elim_some, Option.elim_none, Sum.elim_inl, Sum.elim_inr, hkd, hmo]
  refine lp_b (lp_seq (f := fun x : (Int64 × Int64 × Int32) => M_X12_sumOf_b46 n (nI j) (nI L) (nI 1) (nI m) bi tu po lo wo wt ce f2 x.1 x.2.1 x.2.2) (fun i => (lN (tw m b i).1, lN (tw m b i).2, nI i)) (r := Sum.inl (lN (tw m b L).1, lN (tw m b L).2)) (N := L) ?_ n 0 (by omega) (by omega) ?_) ?_
  · unfold M_X12_sumOf_b46
    simp (disch := omega) only [i_0, i_1, i_2, i_3, i_4, i_5, i_6, i_7, i_8, i_10, i_12, i_16, i_31, i_32, i_64, i_100, i_128, i_255, i_256, i_512, i_1000, i_1128, i_65535, i_65536, nI_add, pk_mul, pk_sub, nI_ltI, nI_leI, nI_eq, nI_clamp, if_pos, if_neg, ite_true, ite_false, Option.bind_some, Option.elim_some, Option.elim_none, Sum.elim_inl, Sum.elim_inr]
  · intro i _ hi
    have := hb i hi
    have ⟨h1, h2⟩ := tw_lt (show 0 < m by omega) b i
    have := Nat.mod_lt ((tw m b i).1 + b i) (show m > 0 by omega)
    unfold M_X12_sumOf_b46
    simp (disch := omega) only [i_0, i_1, i_2, i_3, i_4, i_5, i_6, i_7, i_8, i_10, i_12, i_16, i_31, i_32, i_64, i_100, i_128, i_255, i_256, i_512, i_1000, i_1128, i_65535, i_65536, nI_add, pk_mul, pk_sub, nI_ltI, nI_leI, nI_eq, nI_clamp, if_pos, if_neg, ite_true, ite_false, Option.bind_some, Option.elim_some, Option.elim_none, Sum.elim_inl, Sum.elim_inr, hf2, l_0, l_1, l_2, l_3, l_4, l_5, l_6, l_7, l_8, l_10, l_12, l_16, l_32, l_63, l_64, l_255, l_256, l_1000, l_65535, l_65536, nI_l, l_and, l_or, l_xor, and_63, l_shl, l_shr, l_ushr, lN_add, lN_mul, lN_sub, pk_lEQ, pk_lLT, pk_lLE, Nat.one_mul, Nat.pow_one, pk_lRem]
    rfl
  · simp (disch := omega) only [i_0, i_1, i_2, i_3, i_4, i_5, i_6, i_7, i_8, i_10, i_12, i_16, i_31, i_32, i_64, i_100, i_128, i_255, i_256, i_512, i_1000, i_1128, i_65535, i_65536, nI_add, pk_mul, pk_sub, nI_ltI, nI_leI, nI_eq, nI_clamp, if_pos, if_neg, ite_true, ite_false, Option.bind_some, Option.elim_some, Option.elim_none, Sum.elim_inl, Sum.elim_inr, l_0, l_1, l_2, l_3, l_4, l_5, l_6, l_7, l_8, l_10, l_12, l_16, l_32, l_63, l_64, l_255, l_256, l_1000, l_65535, l_65536, nI_l, l_and, l_or, l_xor, and_63, l_shl, l_shr, l_ushr, lN_add, lN_mul, lN_sub, pk_lEQ, pk_lLT, pk_lLE, Nat.one_mul, Nat.pow_one]
theorem ofRow8 (hn : 10000 < n) (hL : L ≤ 64) (hb : ∀ i, i < L → b i < 256) (hf : ∀ i, i < L → f i = nI (b i)) {w t : Nat} (hw : 8 ≤ w) (hw' : w ≤ 32) (ht : t < w) : M_X8_ofRow n (nI L) f 64 (nI w) (nI t) = some (lN (trn w t b L)) := by
  unfold M_X8_ofRow
  refine lp_b (lp_seq (f := fun x : (Int64 × Int32) => M_X8_ofRow_b5 n (nI L) f 64 (nI w) (nI t) x.1 x.2) (fun i => (lN (trn w t b i), nI i)) (r := lN (trn w t b L)) (N := L) ?_ n 0 (by omega) (by omega) ?_) rfl
  · unfold M_X8_ofRow_b5
    simp (disch := omega) only [i_0, i_1, i_2, i_3, i_4, i_5, i_6, i_7, i_8, i_10, i_12, i_16, i_31, i_32, i_64, i_100, i_128, i_255, i_256, i_512, i_1000, i_1128, i_65535, i_65536, nI_add, pk_mul, pk_sub, nI_ltI, nI_leI, nI_eq, nI_clamp, if_pos, if_neg, ite_true, ite_false, Option.bind_some, Option.elim_some, Option.elim_none, Sum.elim_inl, Sum.elim_inr]
  · intro i _ hi
    have := hb i hi
    have hs := trn_lt (t := t) hw hb i (by omega)
    have hc := carried8 (k := 1) (by omega) hw' ht (by omega) hs
    unfold M_X8_ofRow_b5
    simp (disch := omega) only [i_0, i_1, i_2, i_3, i_4, i_5, i_6, i_7, i_8, i_10, i_12, i_16, i_31, i_32, i_64, i_100, i_128, i_255, i_256, i_512, i_1000, i_1128, i_65535, i_65536, nI_add, pk_mul, pk_sub, nI_ltI, nI_leI, nI_eq, nI_clamp, if_pos, if_neg, ite_true, ite_false, Option.bind_some, Option.elim_some, Option.elim_none, Sum.elim_inl, Sum.elim_inr, hc, hf, l_0, l_1, l_2, l_3, l_4, l_5, l_6, l_7, l_8, l_10, l_12, l_16, l_32, l_63, l_64, l_255, l_256, l_1000, l_65535, l_65536, nI_l, l_and, l_or, l_xor, and_63, l_shl, l_shr, l_ushr, lN_add, lN_mul, lN_sub, pk_lEQ, pk_lLT, pk_lLE, Nat.one_mul, Nat.pow_one, Nat.mul_one]
    rfl
theorem sumOf3 (hn : 10000 < n) (hL : L ≤ 64) (hb : ∀ i, i < L → b i < 256) (hf2 : ∀ i, i < L → f2 i = nI (b i)) (hj : j < 16) {w t : Nat} (hw : 8 ≤ w) (hw' : w ≤ 32) (ht : t < w) (hkd : kd j = nI 3) (hbi : bi j = nI w) (htu : tu j = nI t) : M_X12_sumOf n (nI j) (nI L) kd mo bi tu po be fi lo wo wt ce f2 = some (lN (trn w t b L)) := by
  unfold M_X12_sumOf
  simp (disch := omega) only [i_0, i_1, i_2, i_3, i_4, i_5, i_6, i_7, i_8, i_10, i_12, i_16, i_31, i_32, i_64, i_100, i_128, i_255, i_256, i_512, i_1000, i_1128, i_65535, i_65536, nI_add, pk_mul, pk_sub, nI_ltI, nI_leI, nI_eq, nI_clamp, if_pos, if_neg, ite_true, ite_false, Option.bind_some, Option.elim_some, Option.elim_none, Sum.elim_inl, Sum.elim_inr, hkd]
  refine lp_b (lp_seq (f := fun x : (Int64 × Int64 × Int32) => M_X12_sumOf_b46 n (nI j) (nI L) (nI 3) (mo j) bi tu po lo wo wt ce f2 x.1 x.2.1 x.2.2) (fun i => (lN (trn w t b i), lN 0, nI i)) (r := Sum.inl (lN (trn w t b L), lN 0)) (N := L) ?_ n 0 (by omega) (by omega) ?_) rfl
  · unfold M_X12_sumOf_b46
    simp (disch := omega) only [i_0, i_1, i_2, i_3, i_4, i_5, i_6, i_7, i_8, i_10, i_12, i_16, i_31, i_32, i_64, i_100, i_128, i_255, i_256, i_512, i_1000, i_1128, i_65535, i_65536, nI_add, pk_mul, pk_sub, nI_ltI, nI_leI, nI_eq, nI_clamp, if_pos, if_neg, ite_true, ite_false, Option.bind_some, Option.elim_some, Option.elim_none, Sum.elim_inl, Sum.elim_inr]
  · intro i _ hi
    have := hb i hi
    have hs := trn_lt (t := t) hw hb i (by omega)
    have hc := rolled_n (k := t) (by omega) hw' (by omega) hs
    unfold M_X12_sumOf_b46
    simp (disch := omega) only [i_0, i_1, i_2, i_3, i_4, i_5, i_6, i_7, i_8, i_10, i_12, i_16, i_31, i_32, i_64, i_100, i_128, i_255, i_256, i_512, i_1000, i_1128, i_65535, i_65536, nI_add, pk_mul, pk_sub, nI_ltI, nI_leI, nI_eq, nI_clamp, if_pos, if_neg, ite_true, ite_false, Option.bind_some, Option.elim_some, Option.elim_none, Sum.elim_inl, Sum.elim_inr, hbi, htu, hc, hf2, l_0, l_1, l_2, l_3, l_4, l_5, l_6, l_7, l_8, l_10, l_12, l_16, l_32, l_63, l_64, l_255, l_256, l_1000, l_65535, l_65536, nI_l, l_and, l_or, l_xor, and_63, l_shl, l_shr, l_ushr, lN_add, lN_mul, lN_sub, pk_lEQ, pk_lLT, pk_lLE, Nat.one_mul, Nat.pow_one]
    rfl
theorem ofRow1 (hn : 10000 < n) (hL : L ≤ 64) (hb : ∀ i, i < L → b i < 256) (hf : ∀ i, i < L → f i = nI (b i)) {w p s t l : Nat} (hw : 3 ≤ w) (hw' : w ≤ 32) (hp : p < 2 ^ w) (hs : s < 2 ^ w) (hl : l < 2) : M_X1_ofRow n (nI L) f 64 (nI w) (lN p) (lN s) (lN t) (nI l) = some (lN (crc w p l s b L ^^^ t)) := by
  unfold M_X1_ofRow
  refine lp_b (lp_seq (f := fun x : (Int64 × Int32) => M_X1_ofRow_b8 n (nI L) f 64 (nI w) (lN p) (nI l) x.1 x.2) (fun i => (lN (crc w p l s b i), nI i)) (r := lN (crc w p l s b L)) (N := L) ?_ n 0 (by omega) (by omega) ?_) ?_
  · unfold M_X1_ofRow_b8
    simp (disch := omega) only [i_0, i_1, i_2, i_3, i_4, i_5, i_6, i_7, i_8, i_10, i_12, i_16, i_31, i_32, i_64, i_100, i_128, i_255, i_256, i_512, i_1000, i_1128, i_65535, i_65536, nI_add, pk_mul, pk_sub, nI_ltI, nI_leI, nI_eq, nI_clamp, if_pos, if_neg, ite_true, ite_false, Option.bind_some, Option.elim_some, Option.elim_none, Sum.elim_inl, Sum.elim_inr]
  · intro i _ hi
    have := hb i hi
    have hc := afterByte_n (n := n) (b := b i) (by omega) (show 1 ≤ w by omega) hw' hp (crc_lt (l := l) hp hs b i) hl (by omega)
    unfold M_X1_ofRow_b8
    simp (disch := omega) only [i_0, i_1, i_2, i_3, i_4, i_5, i_6, i_7, i_8, i_10, i_12, i_16, i_31, i_32, i_64, i_100, i_128, i_255, i_256, i_512, i_1000, i_1128, i_65535, i_65536, nI_add, pk_mul, pk_sub, nI_ltI, nI_leI, nI_eq, nI_clamp, if_pos, if_neg, ite_true, ite_false, Option.bind_some, Option.elim_some, Option.elim_none, Sum.elim_inl, Sum.elim_inr, hf, hc]
    rfl
  · rw [l_xor]
theorem sumOf4 (hn : 10000 < n) (hL : L ≤ 64) (hb : ∀ i, i < L → b i < 256) (hf2 : ∀ i, i < L → f2 i = nI (b i)) (hj : j < 16) {k w p s t l : Nat} (hk : k = 4 ∨ k = 5) (hw : 3 ≤ w) (hw' : w ≤ 32) (hp : p < 2 ^ w) (hs : s < 2 ^ w) (hl : l < 2) (hkd : kd j = nI k) (hbi : bi j = nI w) (hpo : po j = lN p) (hbe : be j = lN s) (hfi : fi j = lN t) (hlo : lo j = nI l) : M_X12_sumOf n (nI j) (nI L) kd mo bi tu po be fi lo wo wt ce f2 = some (lN (crc w p l s b L ^^^ t)) := by
  have key : lp (fun x : (Int64 × Int64 × Int32) => M_X12_sumOf_b46 n (nI j) (nI L) (nI k) (mo j) bi tu po lo wo wt ce f2 x.1 x.2.1 x.2.2) n (lN s, (0 : Int64), nI 0) = some (Sum.inl (lN (crc w p l s b L), lN 0)) := by
    refine lp_seq (f := fun x : (Int64 × Int64 × Int32) => M_X12_sumOf_b46 n (nI j) (nI L) (nI k) (mo j) bi tu po lo wo wt ce f2 x.1 x.2.1 x.2.2) (fun i => (lN (crc w p l s b i), lN 0, nI i)) (r := Sum.inl (lN (crc w p l s b L), lN 0)) (N := L) ?_ n 0 (by omega) (by omega) ?_
    · unfold M_X12_sumOf_b46
      simp (disch := omega) only [i_0, i_1, i_2, i_3, i_4, i_5, i_6, i_7, i_8, i_10, i_12, i_16, i_31, i_32, i_64, i_100, i_128, i_255, i_256, i_512, i_1000, i_1128, i_65535, i_65536, nI_add, pk_mul, pk_sub, nI_ltI, nI_leI, nI_eq, nI_clamp, if_pos, if_neg, ite_true, ite_false, Option.bind_some, Option.elim_some, Option.elim_none, Sum.elim_inl, Sum.elim_inr]
    · intro i _ hi
      have := hb i hi
      have hc := stepByte_n (n := n) (b := b i) (by omega) (show 1 ≤ w by omega) hw' hp (crc_lt (l := l) hp hs b i) hl (by omega)
      unfold M_X12_sumOf_b46
      rcases hk with rfl | rfl <;> simp (disch := omega) only [i_0, i_1, i_2, i_3, i_4, i_5, i_6, i_7, i_8, i_10, i_12, i_16, i_31, i_32, i_64, i_100, i_128, i_255, i_256, i_512, i_1000, i_1128, i_65535, i_65536, nI_add, pk_mul, pk_sub, nI_ltI, nI_leI, nI_eq, nI_clamp, if_pos, if_neg, ite_true, ite_false, Option.bind_some, Option.elim_some, Option.elim_none, Sum.elim_inl, Sum.elim_inr, hf2, hbi, hpo, hlo, hc] <;> rfl
  unfold M_X12_sumOf
  rcases hk with rfl | rfl
  · simp (disch := omega) only [i_0, i_1, i_2, i_3, i_4, i_5, i_6, i_7, i_8, i_10, i_12, i_16, i_31, i_32, i_64, i_100, i_128, i_255, i_256, i_512, i_1000, i_1128, i_65535, i_65536, nI_add, pk_mul, pk_sub, nI_ltI, nI_leI, nI_eq, nI_clamp, if_pos, if_neg, ite_true, ite_false, Option.bind_some, Option.elim_some, Option.elim_none, Sum.elim_inl, Sum.elim_inr, hkd, hbe, hfi, key]
    rw [l_xor]
  · simp (disch := omega) only [i_0, i_1, i_2, i_3, i_4, i_5, i_6, i_7, i_8, i_10, i_12, i_16, i_31, i_32, i_64, i_100, i_128, i_255, i_256, i_512, i_1000, i_1128, i_65535, i_65536, nI_add, pk_mul, pk_sub, nI_ltI, nI_leI, nI_eq, nI_clamp, if_pos, if_neg, ite_true, ite_false, Option.bind_some, Option.elim_some, Option.elim_none, Sum.elim_inl, Sum.elim_inr, hkd, hbe, hfi, key]
    rw [l_xor]
/-- squares: the state behind i bytes, if all of them are signs -/
def sqs (q : Nat) (g b : Nat → Nat) : Nat → Nat
  | 0 => 0
  | i + 1 => g (q * sqs q g b i + b i)
theorem sqs_lt {q : Nat} (hq : 2 ≤ q) {g b : Nat → Nat} {i : Nat} (hb : ∀ k, k < i → b k < q) (hg : ∀ x, x < q * q → g x < q) : sqs q g b i < q := by
  induction i with
  | zero => show 0 < q; omega
  | succ i ih =>
    have h1 := ih (fun k hk => hb k (by omega))
    have h2 := hb i (by omega)
    have h3 : q * (sqs q g b i + 1) ≤ q * q := Nat.mul_le_mul_left q h1
    rw [Nat.mul_add, Nat.mul_one] at h3
    exact hg _ (by omega)
theorem sqx_lt {q s x : Nat} (hs : s < q) (hx : x < q) : q * s + x < q * q := by
  have h3 : q * (s + 1) ≤ q * q := Nat.mul_le_mul_left q hs
  rw [Nat.mul_add, Nat.mul_one] at h3
  omega
theorem sq_rows (hn : 10000 < n) (hL : L ≤ 64) (hb : ∀ i, i < L → b i < 256) (hf : ∀ i, i < L → f i = nI (b i)) (hf2 : ∀ i, i < L → f2 i = nI (b i)) (hj : j < 16) {q : Nat} {g : Nat → Nat} {wf : Nat → Int32} (hq : 2 ≤ q) (hq' : q ≤ 10) (hg : ∀ x, x < q * q → g x < q) (hwf : ∀ x, x < q * q → wf x = nI (g x)) (hce : ∀ x, x < q * q → ce (100 * j + x) = nI (g x)) (hkd : kd j = nI 6) (hmo : mo j = nI q) :
    ∃ v, M_X5_ofRow n (nI L) f 64 (nI q) (q * q) wf = some v ∧ M_X12_sumOf n (nI j) (nI L) kd mo bi tu po be fi lo wo wt ce f2 = some v := by
  have hqq : q * q ≤ 10 * 10 := Nat.mul_le_mul hq' hq'
  -- how far all bytes are signs
  have hfar : ∃ N, N ≤ L ∧ (∀ k, k < N → b k < q) ∧ (N < L → q ≤ b N) := by
    clear hf hf2
    induction L with
    | zero => exact ⟨0, by omega, fun k hk => by omega, fun h => by omega⟩
    | succ L ih =>
      obtain ⟨N, h1, h2, h3⟩ := ih (by omega) (fun i hi => hb i (by omega))
      rcases Nat.lt_or_ge N L with h | h
      · exact ⟨N, by omega, h2, fun _ => h3 h⟩
      · rcases Nat.lt_or_ge (b L) q with h4 | h4
        · refine ⟨L + 1, by omega, fun k hk => ?_, fun h => by omega⟩
          by_cases e : k = L
          · rw [e]; exact h4
          · exact h2 k (by omega)
        · have e : N = L := by omega
          subst e
          exact ⟨N, by omega, h2, fun _ => h4⟩
  obtain ⟨N, hN, hsig, hstop⟩ := hfar
  have hst : ∀ i, i ≤ N → sqs q g b i < q := fun i hi => sqs_lt hq (fun k hk => hsig k (by omega)) hg
  refine ⟨if N = L then lN (sqs q g b L) else -5, ?_, ?_⟩
  · unfold M_X5_ofRow
    refine lp_b (lp_seq (f := fun x : (Int32 × Int32) => M_X5_ofRow_b5 n (nI L) f 64 (nI q) (q * q) wf x.1 x.2) (fun i => (nI (sqs q g b i), nI i)) (r := if N = L then Sum.inl (nI (sqs q g b L)) else Sum.inr (-5)) (N := N) ?_ n 0 (by omega) (by omega) ?_) ?_
    · unfold M_X5_ofRow_b5
      by_cases e : N = L
      · rw [if_pos e, e]
        simp (disch := omega) only [i_0, i_1, i_2, i_3, i_4, i_5, i_6, i_7, i_8, i_10, i_12, i_16, i_31, i_32, i_64, i_100, i_128, i_255, i_256, i_512, i_1000, i_1128, i_65535, i_65536, nI_add, pk_mul, pk_sub, nI_ltI, nI_leI, nI_eq, nI_clamp, if_pos, if_neg, ite_true, ite_false, Option.bind_some, Option.elim_some, Option.elim_none, Sum.elim_inl, Sum.elim_inr]
      · have h5 := hb N (by omega)
        have h6 := hstop (by omega)
        rw [if_neg e]
        simp (disch := omega) only [i_0, i_1, i_2, i_3, i_4, i_5, i_6, i_7, i_8, i_10, i_12, i_16, i_31, i_32, i_64, i_100, i_128, i_255, i_256, i_512, i_1000, i_1128, i_65535, i_65536, nI_add, pk_mul, pk_sub, nI_ltI, nI_leI, nI_eq, nI_clamp, if_pos, if_neg, ite_true, ite_false, Option.bind_some, Option.elim_some, Option.elim_none, Sum.elim_inl, Sum.elim_inr, hf]
    · intro i _ hi
      have h4 := hsig i hi
      have h5 := hst i (by omega)
      have h6 := sqx_lt h5 h4
      have h7 := hg _ h6
      unfold M_X5_ofRow_b5 M_X5_cell
      simp (disch := omega) only [i_0, i_1, i_2, i_3, i_4, i_5, i_6, i_7, i_8, i_10, i_12, i_16, i_31, i_32, i_64, i_100, i_128, i_255, i_256, i_512, i_1000, i_1128, i_65535, i_65536, nI_add, pk_mul, pk_sub, nI_ltI, nI_leI, nI_eq, nI_clamp, if_pos, if_neg, ite_true, ite_false, Option.bind_some, Option.elim_some, Option.elim_none, Sum.elim_inl, Sum.elim_inr, hf, hwf]
      rfl
    · by_cases e : N = L
      · have h5 := hst N (by omega)
        rw [e] at h5
        rw [if_pos e, if_pos e, Sum.elim_inl, nI_l (by omega)]
      · rw [if_neg e, if_neg e]; rfl
  · unfold M_X12_sumOf
    simp (disch := omega) only [i_0, i_1, i_2, i_3, i_4, i_5, i_6, i_7, i_8, i_10, i_12, i_16, i_31, i_32, i_64, i_100, i_128, i_255, i_256, i_512, i_1000, i_1128, i_65535, i_65536, nI_add, pk_mul, pk_sub, nI_ltI, nI_leI, nI_eq, nI_clamp, if_pos, if_neg, ite_true, ite_false, Option.bind_some, Option.elim_some, Option.elim_none, Sum.elim_inl, Sum.elim_inr, hkd, hmo]
    refine lp_b (lp_seq (f := fun x : (Int64 × Int64 × Int32) => M_X12_sumOf_b46 n (nI j) (nI L) (nI 6) (nI q) bi tu po lo wo wt ce f2 x.1 x.2.1 x.2.2) (fun i => (lN (sqs q g b i), lN 0, nI i)) (r := if N = L then Sum.inl (lN (sqs q g b L), lN 0) else Sum.inr (-5)) (N := N) ?_ n 0 (by omega) (by omega) ?_) ?_
    · unfold M_X12_sumOf_b46
      by_cases e : N = L
      · rw [if_pos e, e]
        simp (disch := omega) only [i_0, i_1, i_2, i_3, i_4, i_5, i_6, i_7, i_8, i_10, i_12, i_16, i_31, i_32, i_64, i_100, i_128, i_255, i_256, i_512, i_1000, i_1128, i_65535, i_65536, nI_add, pk_mul, pk_sub, nI_ltI, nI_leI, nI_eq, nI_clamp, if_pos, if_neg, ite_true, ite_false, Option.bind_some, Option.elim_some, Option.elim_none, Sum.elim_inl, Sum.elim_inr]
      · have h5 := hb N (by omega)
        have h6 := hstop (by omega)
        rw [if_neg e]
        simp (disch := omega) only [i_0, i_1, i_2, i_3, i_4, i_5, i_6, i_7, i_8, i_10, i_12, i_16, i_31, i_32, i_64, i_100, i_128, i_255, i_256, i_512, i_1000, i_1128, i_65535, i_65536, nI_add, pk_mul, pk_sub, nI_ltI, nI_leI, nI_eq, nI_clamp, if_pos, if_neg, ite_true, ite_false, Option.bind_some, Option.elim_some, Option.elim_none, Sum.elim_inl, Sum.elim_inr, hf2]
    · intro i _ hi
      have h4 := hsig i hi
      have h5 := hst i (by omega)
      have h6 := sqx_lt h5 h4
      have h7 := hg _ h6
      have e1 : 100 * j + sqs q g b i * q + b i = 100 * j + (q * sqs q g b i + b i) := by rw [Nat.mul_comm (sqs q g b i) q]; omega
      unfold M_X12_sumOf_b46
      simp (disch := omega) only [i_0, i_1, i_2, i_3, i_4, i_5, i_6, i_7, i_8, i_10, i_12, i_16, i_31, i_32, i_64, i_100, i_128, i_255, i_256, i_512, i_1000, i_1128, i_65535, i_65536, nI_add, pk_mul, pk_sub, nI_ltI, nI_leI, nI_eq, nI_clamp, if_pos, if_neg, ite_true, ite_false, Option.bind_some, Option.elim_some, Option.elim_none, Sum.elim_inl, Sum.elim_inr, hf2, lN_i, e1, hce, nI_l]
      rfl
    · by_cases e : N = L
      · rw [if_pos e, if_pos e]; rfl
      · rw [if_neg e, if_neg e]; rfl
end RW
