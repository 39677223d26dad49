/-! Own rows: aim. -/
def ntzY (y : Int32) : Int32 :=
  if 0 < y then (if y ≤ 65536 then (if y ≤ 256 then (if y ≤ 16 then (if y ≤ 4 then ((1 + ((y.toUInt32 >>> ((1 : Int32).toUInt32 &&& Int32.toUInt32 31)).toInt32))) else (((1 + 2) + ((((y.toUInt32 >>> ((2 : Int32).toUInt32 &&& Int32.toUInt32 31)).toInt32).toUInt32 >>> ((1 : Int32).toUInt32 &&& Int32.toUInt32 31)).toInt32)))) else (if ((y.toUInt32 >>> ((4 : Int32).toUInt32 &&& Int32.toUInt32 31)).toInt32) ≤ 4 then (((1 + 4) + ((((y.toUInt32 >>> ((4 : Int32).toUInt32 &&& Int32.toUInt32 31)).toInt32).toUInt32 >>> ((1 : Int32).toUInt32 &&& Int32.toUInt32 31)).toInt32))) else ((((1 + 4) + 2) + ((((((y.toUInt32 >>> ((4 : Int32).toUInt32 &&& Int32.toUInt32 31)).toInt32).toUInt32 >>> ((2 : Int32).toUInt32 &&& Int32.toUInt32 31)).toInt32).toUInt32 >>> ((1 : Int32).toUInt32 &&& Int32.toUInt32 31)).toInt32))))) else (if ((y.toUInt32 >>> ((8 : Int32).toUInt32 &&& Int32.toUInt32 31)).toInt32) ≤ 16 then (if ((y.toUInt32 >>> ((8 : Int32).toUInt32 &&& Int32.toUInt32 31)).toInt32) ≤ 4 then (((1 + 8) + ((((y.toUInt32 >>> ((8 : Int32).toUInt32 &&& Int32.toUInt32 31)).toInt32).toUInt32 >>> ((1 : Int32).toUInt32 &&& Int32.toUInt32 31)).toInt32))) else ((((1 + 8) + 2) + ((((((y.toUInt32 >>> ((8 : Int32).toUInt32 &&& Int32.toUInt32 31)).toInt32).toUInt32 >>> ((2 : Int32).toUInt32 &&& Int32.toUInt32 31)).toInt32).toUInt32 >>> ((1 : Int32).toUInt32 &&& Int32.toUInt32 31)).toInt32)))) else (if ((((y.toUInt32 >>> ((8 : Int32).toUInt32 &&& Int32.toUInt32 31)).toInt32).toUInt32 >>> ((4 : Int32).toUInt32 &&& Int32.toUInt32 31)).toInt32) ≤ 4 then ((((1 + 8) + 4) + ((((((y.toUInt32 >>> ((8 : Int32).toUInt32 &&& Int32.toUInt32 31)).toInt32).toUInt32 >>> ((4 : Int32).toUInt32 &&& Int32.toUInt32 31)).toInt32).toUInt32 >>> ((1 : Int32).toUInt32 &&& Int32.toUInt32 31)).toInt32))) else (((((1 + 8) + 4) + 2) + ((((((((y.toUInt32 >>> ((8 : Int32).toUInt32 &&& Int32.toUInt32 31)).toInt32).toUInt32 >>> ((4 : Int32).toUInt32 &&& Int32.toUInt32 31)).toInt32).toUInt32 >>> ((2 : Int32).toUInt32 &&& Int32.toUInt32 31)).toInt32).toUInt32 >>> ((1 : Int32).toUInt32 &&& Int32.toUInt32 31)).toInt32)))))) else (if ((y.toUInt32 >>> ((16 : Int32).toUInt32 &&& Int32.toUInt32 31)).toInt32) ≤ 256 then (if ((y.toUInt32 >>> ((16 : Int32).toUInt32 &&& Int32.toUInt32 31)).toInt32) ≤ 16 then (if ((y.toUInt32 >>> ((16 : Int32).toUInt32 &&& Int32.toUInt32 31)).toInt32) ≤ 4 then (((1 + 16) + ((((y.toUInt32 >>> ((16 : Int32).toUInt32 &&& Int32.toUInt32 31)).toInt32).toUInt32 >>> ((1 : Int32).toUInt32 &&& Int32.toUInt32 31)).toInt32))) else ((((1 + 16) + 2) + ((((((y.toUInt32 >>> ((16 : Int32).toUInt32 &&& Int32.toUInt32 31)).toInt32).toUInt32 >>> ((2 : Int32).toUInt32 &&& Int32.toUInt32 31)).toInt32).toUInt32 >>> ((1 : Int32).toUInt32 &&& Int32.toUInt32 31)).toInt32)))) else (if ((((y.toUInt32 >>> ((16 : Int32).toUInt32 &&& Int32.toUInt32 31)).toInt32).toUInt32 >>> ((4 : Int32).toUInt32 &&& Int32.toUInt32 31)).toInt32) ≤ 4 then ((((1 + 16) + 4) + ((((((y.toUInt32 >>> ((16 : Int32).toUInt32 &&& Int32.toUInt32 31)).toInt32).toUInt32 >>> ((4 : Int32).toUInt32 &&& Int32.toUInt32 31)).toInt32).toUInt32 >>> ((1 : Int32).toUInt32 &&& Int32.toUInt32 31)).toInt32))) else (((((1 + 16) + 4) + 2) + ((((((((y.toUInt32 >>> ((16 : Int32).toUInt32 &&& Int32.toUInt32 31)).toInt32).toUInt32 >>> ((4 : Int32).toUInt32 &&& Int32.toUInt32 31)).toInt32).toUInt32 >>> ((2 : Int32).toUInt32 &&& Int32.toUInt32 31)).toInt32).toUInt32 >>> ((1 : Int32).toUInt32 &&& Int32.toUInt32 31)).toInt32))))) else (if ((((y.toUInt32 >>> ((16 : Int32).toUInt32 &&& Int32.toUInt32 31)).toInt32).toUInt32 >>> ((8 : Int32).toUInt32 &&& Int32.toUInt32 31)).toInt32) ≤ 16 then (if ((((y.toUInt32 >>> ((16 : Int32).toUInt32 &&& Int32.toUInt32 31)).toInt32).toUInt32 >>> ((8 : Int32).toUInt32 &&& Int32.toUInt32 31)).toInt32) ≤ 4 then ((((1 + 16) + 8) + ((((((y.toUInt32 >>> ((16 : Int32).toUInt32 &&& Int32.toUInt32 31)).toInt32).toUInt32 >>> ((8 : Int32).toUInt32 &&& Int32.toUInt32 31)).toInt32).toUInt32 >>> ((1 : Int32).toUInt32 &&& Int32.toUInt32 31)).toInt32))) else (((((1 + 16) + 8) + 2) + ((((((((y.toUInt32 >>> ((16 : Int32).toUInt32 &&& Int32.toUInt32 31)).toInt32).toUInt32 >>> ((8 : Int32).toUInt32 &&& Int32.toUInt32 31)).toInt32).toUInt32 >>> ((2 : Int32).toUInt32 &&& Int32.toUInt32 31)).toInt32).toUInt32 >>> ((1 : Int32).toUInt32 &&& Int32.toUInt32 31)).toInt32)))) else (if ((((((y.toUInt32 >>> ((16 : Int32).toUInt32 &&& Int32.toUInt32 31)).toInt32).toUInt32 >>> ((8 : Int32).toUInt32 &&& Int32.toUInt32 31)).toInt32).toUInt32 >>> ((4 : Int32).toUInt32 &&& Int32.toUInt32 31)).toInt32) ≤ 4 then (((((1 + 16) + 8) + 4) + ((((((((y.toUInt32 >>> ((16 : Int32).toUInt32 &&& Int32.toUInt32 31)).toInt32).toUInt32 >>> ((8 : Int32).toUInt32 &&& Int32.toUInt32 31)).toInt32).toUInt32 >>> ((4 : Int32).toUInt32 &&& Int32.toUInt32 31)).toInt32).toUInt32 >>> ((1 : Int32).toUInt32 &&& Int32.toUInt32 31)).toInt32))) else ((((((1 + 16) + 8) + 4) + 2) + ((((((((((y.toUInt32 >>> ((16 : Int32).toUInt32 &&& Int32.toUInt32 31)).toInt32).toUInt32 >>> ((8 : Int32).toUInt32 &&& Int32.toUInt32 31)).toInt32).toUInt32 >>> ((4 : Int32).toUInt32 &&& Int32.toUInt32 31)).toInt32).toUInt32 >>> ((2 : Int32).toUInt32 &&& Int32.toUInt32 31)).toInt32).toUInt32 >>> ((1 : Int32).toUInt32 &&& Int32.toUInt32 31)).toInt32))))))) else ((y &&& 32))
theorem ntz_eq (x : Int32) : M_J6_numberOfTrailingZeros_0f7a4 x = ntzY ((x ^^^ (-1)) &&& (x - 1)) := rfl
theorem ntzY_k : ∀ t, t < 16 → ntzY (nI (2 ^ t - 1)) = nI t := by decide +kernel
theorem odd_part : ∀ x, 0 < x → ∃ t m, x = 2 ^ t * (2 * m + 1) := by
  intro x
  induction x using Nat.strongRecOn with
  | ind x ih =>
    intro h
    rcases Nat.mod_two_eq_zero_or_one x with h2 | h2
    · obtain ⟨t, m, e⟩ := ih (x / 2) (by omega) (by omega)
      refine ⟨t + 1, m, ?_⟩
      rw [Nat.pow_succ, Nat.mul_comm (2 ^ t) 2, Nat.mul_assoc, ← e]
      omega
    · exact ⟨0, x / 2, by rw [Nat.pow_zero]; omega⟩
/-- the bits of a number and of the one before it -/
theorem bits_succ {t m j : Nat} : (2 ^ t * (2 * m + 1)).testBit j = (if j < t then false else if j = t then true else (2 ^ t * (2 * m + 1) - 1).testBit j) ∧ (j < t → (2 ^ t * (2 * m + 1) - 1).testBit j = true) ∧ (2 ^ t * (2 * m + 1) - 1).testBit t = false := by
  have hp := Nat.two_pow_pos t
  have e1 : 2 ^ t * (2 * m + 1) = 2 ^ t * (2 * m + 1) + 0 := rfl
  have e2 : 2 ^ t * (2 * m + 1) - 1 = 2 ^ t * (2 * m) + (2 ^ t - 1) := by rw [Nat.mul_add, Nat.mul_one]; omega
  have b1 : ∀ j, (2 ^ t * (2 * m + 1)).testBit j = if j < t then (0 : Nat).testBit j else (2 * m + 1).testBit (j - t) := fun j => by
    rw [e1, Nat.testBit_two_pow_mul_add _ hp]
  have b2 : ∀ j, (2 ^ t * (2 * m + 1) - 1).testBit j = if j < t then (2 ^ t - 1).testBit j else (2 * m).testBit (j - t) := fun j => by
    rw [e2, Nat.testBit_two_pow_mul_add _ (by omega)]
  refine ⟨?_, ?_, ?_⟩
  · rw [b1]
    by_cases h1 : j < t
    · rw [if_pos h1, if_pos h1, Nat.zero_testBit]
    · rw [if_neg h1, if_neg h1]
      by_cases h2 : j = t
      · rw [if_pos h2, h2, Nat.sub_self]
        simp
      · rw [if_neg h2, b2, if_neg h1]
        obtain ⟨d, hd⟩ : ∃ d, j - t = d + 1 := ⟨j - t - 1, by omega⟩
        rw [hd, Nat.testBit_succ, Nat.testBit_succ]
        congr 1
        omega
  · intro h1
    rw [b2, if_pos h1, Nat.testBit_two_pow_sub_one]
    simp [h1]
  · rw [b2, if_neg (by omega), Nat.sub_self]
    simp
theorem ntz_n {t m : Nat} (hx : 2 ^ t * (2 * m + 1) < 65536) : M_J6_numberOfTrailingZeros_0f7a4 (nI (2 ^ t * (2 * m + 1))) = nI t ∧ t < 16 := by
  have hp := Nat.two_pow_pos t
  have ht : t < 16 := by
    have h1 : 2 ^ t * 1 ≤ 2 ^ t * (2 * m + 1) := Nat.mul_le_mul_left _ (by omega)
    exact pw_lt (n := 16) (by omega)
  have h0 : 0 < 2 ^ t * (2 * m + 1) := Nat.mul_pos hp (by omega)
  refine ⟨?_, ht⟩
  have key : (2 ^ t * (2 * m + 1) ^^^ (2 ^ 32 - 1)) &&& (2 ^ t * (2 * m + 1) - 1) = 2 ^ t - 1 := by
    apply Nat.eq_of_testBit_eq
    intro j
    obtain ⟨a1, a2, a3⟩ := bits_succ (t := t) (m := m) (j := j)
    rw [Nat.testBit_and, Nat.testBit_xor, Nat.testBit_two_pow_sub_one, Nat.testBit_two_pow_sub_one, a1]
    by_cases h1 : j < t
    · rw [if_pos h1, a2 h1]
      simp [h1]
      omega
    · rw [if_neg h1]
      by_cases h2 : j = t
      · subst h2
        rw [a3]
        simp
      · rw [if_neg h2]
        have : decide (j < t) = false := by simp [h1]
        rw [this]
        by_cases h3 : j < 32
        · simp [h3]
        · have : (2 ^ t * (2 * m + 1) - 1).testBit j = false := by
            refine Nat.testBit_lt_two_pow (Nat.lt_of_lt_of_le (show _ < 2 ^ 16 by omega) (Nat.pow_le_pow_right (by decide) (by omega)))
          rw [this]
          simp
  rw [ntz_eq, show (-1 : Int32) = nI (2 ^ 32 - 1) from by decide, n_xor, i_1, pk_sub (by omega), n_and, key]
  exact ntzY_k t ht
/-! the places that are used -/
def uset (f : Nat → Nat) (k v : Nat) : Nat → Nat := fun i => if i = k then v else f i
def Uu (us : Nat → Bool) : Nat → Nat × (Nat → Nat)
  | 0 => (0, fun _ => 0)
  | j + 1 => if us j then ((Uu us j).1 + 1, uset (Uu us j).2 (Uu us j).1 j) else Uu us j
theorem Uu_t {us : Nat → Bool} {j : Nat} (h : us j = true) : Uu us (j + 1) = ((Uu us j).1 + 1, uset (Uu us j).2 (Uu us j).1 j) := if_pos h
theorem Uu_f {us : Nat → Bool} {j : Nat} (h : us j = false) : Uu us (j + 1) = Uu us j := if_neg (by rw [h]; decide)
theorem Uu_r (us : Nat → Bool) : ∀ j, (Uu us j).1 ≤ j ∧ (∀ i, i < (Uu us j).1 → (Uu us j).2 i < j ∧ us ((Uu us j).2 i) = true) ∧ ∀ i i', i < i' → i' < (Uu us j).1 → (Uu us j).2 i < (Uu us j).2 i' := by
  intro j
  induction j with
  | zero => exact ⟨Nat.le_refl 0, fun i hi => absurd hi (Nat.not_lt_zero i), fun i i' _ hi' => absurd hi' (Nat.not_lt_zero i')⟩
  | succ j ih =>
    obtain ⟨h1, h2, h3⟩ := ih
    cases hu : us j with
    | true =>
      rw [Uu_t hu]
      refine ⟨by show _ + 1 ≤ _; omega, fun i hi => ?_, fun i i' hii hi' => ?_⟩
      · show uset _ _ _ i < j + 1 ∧ us (uset _ _ _ i) = true
        unfold uset
        by_cases e : i = (Uu us j).1
        · rw [if_pos e]; exact ⟨by omega, hu⟩
        · rw [if_neg e]
          have hi9 : i < (Uu us j).1 := by
            have : i < (Uu us j).1 + 1 := hi
            omega
          have := h2 i hi9
          exact ⟨by omega, this.2⟩
      · have hi9 : i' < (Uu us j).1 + 1 := hi'
        show uset _ _ _ i < uset _ _ _ i'
        unfold uset
        rw [if_neg (show ¬ i = (Uu us j).1 by omega)]
        by_cases e : i' = (Uu us j).1
        · rw [if_pos e]
          exact (h2 i (by omega)).1
        · rw [if_neg e]
          exact h3 i i' hii (by omega)
    | false =>
      rw [Uu_f hu]
      exact ⟨by omega, fun i hi => ⟨by have := (h2 i hi).1; omega, (h2 i hi).2⟩, h3⟩
def wy (ux : Nat → Nat) : Nat → Nat → Nat
  | 0, _ => 0
  | i + 1, c => wy ux i c + (if c.testBit i then 2 ^ ux i else 0)
def tt (ux sv : Nat → Nat) : Nat → Nat → Nat
  | 0, _ => 0
  | i + 1, c => tt ux sv i c ^^^ (if c.testBit i then sv (ux i) else 0)
def pre (ux sv : Nat → Nat) : Nat → Nat
  | 0 => 0
  | i + 1 => pre ux sv i ^^^ sv (ux i)
def vm (fs : Nat → Nat) : Nat → Nat → Nat
  | 0, _ => 0
  | j + 1, t => vm fs j t ^^^ (if t.testBit j then fs j else 0)
def okb (us : Nat → Bool) : Nat → Nat → Bool
  | 0, _ => true
  | j + 1, t => okb us j t && (us j || !t.testBit j)
def lst (us : Nat → Bool) : Nat → Nat
  | 0 => 0
  | j + 1 => lst us j ||| (if us j then 0 else 2 ^ j)
theorem wy_lt {ux : Nat → Nat} {u c : Nat} (hux : ∀ i i', i < i' → i' < u → ux i < ux i') : ∀ i b, i ≤ u → (∀ i', i' < i → ux i' < b) → wy ux i c < 2 ^ b := by
  intro i
  induction i with
  | zero => intro b _ _; exact Nat.two_pow_pos b
  | succ i ih =>
    intro b hi hb
    have h1 := ih (ux i) (by omega) (fun i' hi' => hux i' i hi' (by omega))
    have h2 : 2 ^ (ux i + 1) ≤ 2 ^ b := Nat.pow_le_pow_right (by decide) (hb i (by omega))
    rw [Nat.pow_succ] at h2
    show wy ux i c + (if c.testBit i then 2 ^ ux i else 0) < 2 ^ b
    split <;> omega
theorem wy_congr {ux ux' : Nat → Nat} {c c' : Nat} : ∀ i, (∀ k, k < i → ux' k = ux k) → (∀ k, k < i → c'.testBit k = c.testBit k) → wy ux' i c' = wy ux i c := by
  intro i
  induction i with
  | zero => intro _ _; rfl
  | succ i ih =>
    intro h1 h2
    show wy ux' i c' + _ = wy ux i c + _
    rw [ih (fun k hk => h1 k (by omega)) (fun k hk => h2 k (by omega)), h1 i (by omega), h2 i (by omega)]
theorem tt_congr {ux ux' sv : Nat → Nat} {c c' : Nat} : ∀ i, (∀ k, k < i → ux' k = ux k) → (∀ k, k < i → c'.testBit k = c.testBit k) → tt ux' sv i c' = tt ux sv i c := by
  intro i
  induction i with
  | zero => intro _ _; rfl
  | succ i ih =>
    intro h1 h2
    show tt ux' sv i c' ^^^ _ = tt ux sv i c ^^^ _
    rw [ih (fun k hk => h1 k (by omega)) (fun k hk => h2 k (by omega)), h1 i (by omega), h2 i (by omega)]
theorem vm_congr {fs : Nat → Nat} {t t' : Nat} : ∀ j, (∀ k, k < j → t'.testBit k = t.testBit k) → vm fs j t' = vm fs j t := by
  intro j
  induction j with
  | zero => intro _; rfl
  | succ j ih =>
    intro h2
    show vm fs j t' ^^^ _ = vm fs j t ^^^ _
    rw [ih (fun k hk => h2 k (by omega)), h2 j (by omega)]
theorem okb_congr {us : Nat → Bool} {t t' : Nat} : ∀ j, (∀ k, k < j → t'.testBit k = t.testBit k) → okb us j t' = okb us j t := by
  intro j
  induction j with
  | zero => intro _; rfl
  | succ j ih =>
    intro h2
    show (okb us j t' && _) = (okb us j t && _)
    rw [ih (fun k hk => h2 k (by omega)), h2 j (by omega)]
theorem tb_add {u c k : Nat} (hk : k < u) : (2 ^ u + c).testBit k = c.testBit k := by
  have := Nat.testBit_two_pow_add_gt hk c
  exact this
theorem tb_top {u c : Nat} (hc : c < 2 ^ u) : (2 ^ u + c).testBit u = true := by
  rw [Nat.testBit_two_pow_add_eq, Nat.testBit_lt_two_pow hc]
  rfl
theorem range_2 (m : Nat) : List.range (2 ^ (m + 1)) = List.range (2 ^ m) ++ (List.range (2 ^ m)).map (2 ^ m + ·) := by
  rw [show 2 ^ (m + 1) = 2 ^ m + 2 ^ m by rw [Nat.pow_succ]; omega, List.range_add]
/-- the program's ways are the reference's -/
theorem ways_eq (us : Nat → Bool) (sv fs : Nat → Nat) (hfs : ∀ j, us j = true → fs j = sv j) : ∀ j, (List.range (2 ^ (Uu us j).1)).map (fun c => (wy (Uu us j).2 (Uu us j).1 c, tt (Uu us j).2 sv (Uu us j).1 c)) = ((List.range (2 ^ j)).filter (okb us j)).map (fun t => (t, vm fs j t)) := by
  intro j
  induction j with
  | zero => rfl
  | succ j ih =>
    have hlow : ((List.range (2 ^ j)).filter (okb us (j + 1))).map (fun t => (t, vm fs (j + 1) t)) = ((List.range (2 ^ j)).filter (okb us j)).map (fun t => (t, vm fs j t)) := by
      have e1 : (List.range (2 ^ j)).filter (okb us (j + 1)) = (List.range (2 ^ j)).filter (okb us j) := by
        refine List.filter_congr (fun t ht => ?_)
        rw [List.mem_range] at ht
        show (okb us j t && (us j || !t.testBit j)) = _
        rw [Nat.testBit_lt_two_pow ht]
        simp
      rw [e1]
      refine List.map_congr_left (fun t ht => ?_)
      have ht' := List.mem_range.mp (List.mem_filter.mp ht).1
      show (t, vm fs j t ^^^ (if t.testBit j then fs j else 0)) = _
      rw [Nat.testBit_lt_two_pow ht', if_neg (by decide), Nat.xor_zero]
    rw [range_2 j, List.filter_append, List.map_append, hlow]
    cases hu : us j with
    | false =>
      have e2 : ((List.range (2 ^ j)).map (2 ^ j + ·)).filter (okb us (j + 1)) = [] := by
        rw [List.filter_eq_nil_iff]
        intro t ht
        obtain ⟨c, hc, rfl⟩ := List.mem_map.mp ht
        rw [List.mem_range] at hc
        show ¬ (okb us j (2 ^ j + c) && (us j || !(2 ^ j + c).testBit j)) = true
        rw [hu, tb_top hc]
        simp
      rw [e2, Uu_f hu, ih, List.map_nil, List.append_nil]
    | true =>
      have e2 : (((List.range (2 ^ j)).map (2 ^ j + ·)).filter (okb us (j + 1))).map (fun t => (t, vm fs (j + 1) t)) = (((List.range (2 ^ j)).filter (okb us j)).map (fun t => (t, vm fs j t))).map (fun z => (2 ^ j + z.1, z.2 ^^^ sv j)) := by
        rw [List.filter_map, List.map_map, List.map_map]
        have e3 : (List.range (2 ^ j)).filter (okb us (j + 1) ∘ (2 ^ j + ·)) = (List.range (2 ^ j)).filter (okb us j) := by
          refine List.filter_congr (fun t ht => ?_)
          rw [List.mem_range] at ht
          show (okb us j (2 ^ j + t) && (us j || !(2 ^ j + t).testBit j)) = _
          rw [hu, okb_congr (t := t) j (fun k hk => tb_add hk)]
          simp
        rw [e3]
        refine List.map_congr_left (fun t ht => ?_)
        have ht' := List.mem_range.mp (List.mem_filter.mp ht).1
        show (2 ^ j + t, vm fs j (2 ^ j + t) ^^^ (if (2 ^ j + t).testBit j then fs j else 0)) = (2 ^ j + t, vm fs j t ^^^ sv j)
        rw [tb_top ht', if_pos rfl, vm_congr (t := t) j (fun k hk => tb_add hk), hfs j hu]
      rw [e2, ← ih, Uu_t hu]
      show (List.range (2 ^ ((Uu us j).1 + 1))).map (fun c => (wy (uset (Uu us j).2 (Uu us j).1 j) ((Uu us j).1 + 1) c, tt (uset (Uu us j).2 (Uu us j).1 j) sv ((Uu us j).1 + 1) c)) = _
      generalize (Uu us j).1 = u
      generalize (Uu us j).2 = ux
      have hset : ∀ k, k < u → uset ux u j k = ux k := fun k hk => if_neg (by omega)
      have hset2 : uset ux u j u = j := if_pos rfl
      rw [range_2 u, List.map_append, List.map_map, List.map_map]
      congr 1
      · refine List.map_congr_left (fun c hc => ?_)
        rw [List.mem_range] at hc
        show (wy (uset ux u j) u c + (if c.testBit u then 2 ^ uset ux u j u else 0), tt (uset ux u j) sv u c ^^^ (if c.testBit u then sv (uset ux u j u) else 0)) = _
        rw [Nat.testBit_lt_two_pow hc, if_neg (by decide), if_neg (by decide), Nat.xor_zero, Nat.add_zero, wy_congr (c := c) u hset (fun _ _ => rfl), tt_congr (c := c) u hset (fun _ _ => rfl)]
      · refine List.map_congr_left (fun c hc => ?_)
        rw [List.mem_range] at hc
        show (wy (uset ux u j) u (2 ^ u + c) + (if (2 ^ u + c).testBit u then 2 ^ uset ux u j u else 0), tt (uset ux u j) sv u (2 ^ u + c) ^^^ (if (2 ^ u + c).testBit u then sv (uset ux u j u) else 0)) = (2 ^ j + wy ux u c, tt ux sv u c ^^^ sv j)
        rw [tb_top hc, if_pos rfl, if_pos rfl, hset2, wy_congr (c := c) u hset (fun k hk => tb_add hk), tt_congr (c := c) u hset (fun k hk => tb_add hk), Nat.add_comm]
/-- counting on by 1 -/
theorem tt_succ {ux sv : Nat → Nat} {t m : Nat} : ∀ i, tt ux sv i (2 ^ t * (2 * m + 1)) = tt ux sv i (2 ^ t * (2 * m + 1) - 1) ^^^ pre ux sv (if i ≤ t + 1 then i else t + 1) := by
  intro i
  induction i with
  | zero =>
    rw [if_pos (Nat.zero_le _)]
    show 0 = 0 ^^^ 0
    rfl
  | succ i ih =>
    obtain ⟨a1, a2, a3⟩ := bits_succ (t := t) (m := m) (j := i)
    show tt ux sv i _ ^^^ (if (2 ^ t * (2 * m + 1)).testBit i then sv (ux i) else 0) = (tt ux sv i _ ^^^ (if (2 ^ t * (2 * m + 1) - 1).testBit i then sv (ux i) else 0)) ^^^ _
    rw [ih, a1]
    by_cases h1 : i < t
    · rw [if_pos h1, a2 h1, if_pos (show i ≤ t + 1 by omega), if_neg (show ¬ (false = true) by decide), if_pos rfl, if_pos (show i + 1 ≤ t + 1 by omega), Nat.xor_zero]
      show _ = (_ ^^^ sv (ux i)) ^^^ (pre ux sv i ^^^ sv (ux i))
      rw [Nat.xor_comm (pre ux sv i), Nat.xor_assoc, xcl]
    · by_cases h2 : i = t
      · subst h2
        rw [if_neg h1, if_pos rfl, a3, if_pos rfl, if_pos (show i ≤ i + 1 by omega), if_neg (show ¬ (false = true) by decide), if_pos (Nat.le_refl (i + 1)), Nat.xor_zero, Nat.xor_assoc]
        rfl
      · rw [if_neg h1, if_neg h2]
        have e1 : (if i ≤ t + 1 then i else t + 1) = t + 1 := by split <;> omega
        rw [e1, if_neg (show ¬ i + 1 ≤ t + 1 by omega), Nat.xor_assoc, Nat.xor_assoc, Nat.xor_comm (pre ux sv (t + 1))]
theorem tt_0 (ux sv : Nat → Nat) : ∀ i, tt ux sv i 0 = 0 := by
  intro i
  induction i with
  | zero => rfl
  | succ i ih =>
    show tt ux sv i 0 ^^^ (if (0 : Nat).testBit i then sv (ux i) else 0) = 0
    rw [ih, Nat.zero_testBit, if_neg (show ¬ (false = true) by decide)]
    rfl
theorem lst_ok (us : Nat → Bool) (t : Nat) : ∀ j, (t &&& lst us j = 0 ↔ okb us j t = true) := by
  intro j
  induction j with
  | zero => exact ⟨fun _ => rfl, fun _ => Nat.and_zero t⟩
  | succ j ih =>
    show t &&& (lst us j ||| (if us j then 0 else 2 ^ j)) = 0 ↔ (okb us j t && (us j || !t.testBit j)) = true
    rw [Nat.and_or_distrib_left, Nat.or_eq_zero_iff, ih]
    cases hu : us j with
    | true => simp
    | false =>
      rw [if_neg (by decide)]
      have hb : (t &&& 2 ^ j = 0) ↔ t.testBit j = false := by
        constructor
        · intro h
          have h2 : (t &&& 2 ^ j).testBit j = false := by rw [h, Nat.zero_testBit]
          rw [Nat.testBit_and, Nat.testBit_two_pow_self, Bool.and_true] at h2
          exact h2
        · intro h
          apply Nat.eq_of_testBit_eq
          intro i
          rw [Nat.testBit_and, Nat.zero_testBit, Nat.testBit_two_pow]
          by_cases e : j = i
          · rw [← e, h, Bool.false_and]
          · rw [decide_eq_false e, Bool.and_false]
      rw [hb]
      cases ht : t.testBit j <;> simp
theorem lst_lt (us : Nat → Bool) : ∀ j, lst us j < 2 ^ j := by
  intro j
  induction j with
  | zero => exact Nat.one_pos
  | succ j ih =>
    show lst us j ||| (if us j then 0 else 2 ^ j) < 2 ^ (j + 1)
    have h1 : 2 ^ j < 2 ^ (j + 1) := Nat.pow_lt_pow_right (by decide) (by omega)
    refine Nat.or_lt_two_pow (by omega) ?_
    split
    · exact Nat.two_pow_pos _
    · exact h1
/-! what is kept -/
def Wk (ways : Nat → Int32) (H : List Nat) : Prop := ∀ i v, i < 64 → H[i]? = some v → ways i = nI v
theorem Wk.push {ways : Nat → Int32} {H : List Nat} (h : Wk ways H) (x : Nat) : Wk (upd ways H.length (nI x)) (H ++ [x]) := by
  intro i v hi hv
  by_cases e : i = H.length
  · subst e
    rw [List.getElem?_concat_length] at hv
    cases hv
    exact up_at _ _ _
  · have hlt : i < H.length := by
      have := (List.getElem?_eq_some_iff.mp hv).1
      rw [List.length_append, List.length_singleton] at this
      omega
    rw [List.getElem?_append_left hlt] at hv
    rw [up_ne _ _ e]
    exact h i v hi hv
theorem Wk.full {ways : Nat → Int32} {H : List Nat} (h : Wk ways H) (x : Nat) (h64 : 64 ≤ H.length) : Wk ways (H ++ [x]) := by
  intro i v hi hv
  rw [List.getElem?_append_left (by omega)] at hv
  exact h i v hi hv
def hits (wd : Nat) (l : List (Nat × Nat)) : List Nat := (l.filter (fun z => z.2 == wd)).map (·.1)
theorem hits_app (wd : Nat) (l l' : List (Nat × Nat)) : hits wd (l ++ l') = hits wd l ++ hits wd l' := by
  unfold hits
  rw [List.filter_append, List.map_append]
theorem hits_1 (wd a v : Nat) : hits wd [(a, v)] = if v = wd then [a] else [] := by
  unfold hits
  by_cases h : v = wd
  · rw [if_pos h, h]; simp
  · rw [if_neg h]
    simp [h]
theorem hits_len (wd : Nat) (l : List (Nat × Nat)) : (hits wd l).length ≤ l.length := by
  unfold hits
  rw [List.length_map]
  exact List.length_filter_le _ _
theorem pre_congr {ux ux' sv : Nat → Nat} : ∀ i, (∀ k, k < i → ux' k = ux k) → pre ux' sv i = pre ux sv i := by
  intro i
  induction i with
  | zero => intro _; rfl
  | succ i ih =>
    intro h1
    show pre ux' sv i ^^^ _ = pre ux sv i ^^^ _
    rw [ih (fun k hk => h1 k (by omega)), h1 i (by omega)]
theorem tt_lt {ux sv : Nat → Nat} {c : Nat} : ∀ i, (∀ k, k < i → sv (ux k) < 2 ^ 32) → tt ux sv i c < 2 ^ 32 := by
  intro i
  induction i with
  | zero => intro _; show 0 < _; omega
  | succ i ih =>
    intro h
    show tt ux sv i c ^^^ (if c.testBit i then sv (ux i) else 0) < 2 ^ 32
    refine Nat.xor_lt_two_pow (ih (fun k hk => h k (by omega))) ?_
    split
    · exact h i (by omega)
    · omega
theorem vm_lt {fs : Nat → Nat} {t : Nat} : ∀ j, (∀ k, k < j → fs k < 2 ^ 32) → vm fs j t < 2 ^ 32 := by
  intro j
  induction j with
  | zero => intro _; show 0 < _; omega
  | succ j ih =>
    intro h
    show vm fs j t ^^^ (if t.testBit j then fs j else 0) < 2 ^ 32
    refine Nat.xor_lt_two_pow (ih (fun k hk => h k (by omega))) ?_
    split
    · exact h j (by omega)
    · omega
theorem fillU_n {n F R : Nat} {tp : Nat → Int32} {pl S : Nat → Nat} {f : Nat → Int64} (hn : 1000 < n) (hF : F ≤ 16) (hR : R ≤ 512) (hpl : ∀ j, j < F → pl j < 512 ∧ tp j = nI (pl j)) (hf : ∀ q, q < R → f q = lN (S q)) (ub : Nat → Int32) (up : Nat → Int64) :
    ∃ ub' up', M_X0_fillUsable n (nI R) tp (nI F) ub up f 512 = some (nI (Uu (fun j => decide (pl j < R)) F).1, ub', up') ∧ (∀ i, i < (Uu (fun j => decide (pl j < R)) F).1 → ub' i = nI ((Uu (fun j => decide (pl j < R)) F).2 i)) ∧ (∀ i, i < (Uu (fun j => decide (pl j < R)) F).1 → up' i = lN (pre (Uu (fun j => decide (pl j < R)) F).2 (fun j => S (pl j)) (i + 1))) := by
  unfold M_X0_fillUsable
  obtain ⟨⟨r0, r1, r2⟩, h1, h2, h3, h4⟩ := lp_run (f := fun x : (Int32 × Int64 × Int32 × (Nat → Int32) × (Nat → Int64)) => M_X0_fillUsable_b8 n (nI R) tp (nI F) f 512 x.1 x.2.1 x.2.2.1 x.2.2.2.1 x.2.2.2.2)
    (fun j x => x.1 = nI (Uu (fun j => decide (pl j < R)) j).1 ∧ x.2.1 = lN (pre (Uu (fun j => decide (pl j < R)) j).2 (fun j => S (pl j)) (Uu (fun j => decide (pl j < R)) j).1) ∧ x.2.2.1 = nI j ∧ (∀ i, i < (Uu (fun j => decide (pl j < R)) j).1 → x.2.2.2.1 i = nI ((Uu (fun j => decide (pl j < R)) j).2 i)) ∧ (∀ i, i < (Uu (fun j => decide (pl j < R)) j).1 → x.2.2.2.2 i = lN (pre (Uu (fun j => decide (pl j < R)) j).2 (fun j => S (pl j)) (i + 1))))
    (fun r => r.1 = nI (Uu (fun j => decide (pl j < R)) F).1 ∧ (∀ i, i < (Uu (fun j => decide (pl j < R)) F).1 → r.2.1 i = nI ((Uu (fun j => decide (pl j < R)) F).2 i)) ∧ (∀ i, i < (Uu (fun j => decide (pl j < R)) F).1 → r.2.2 i = lN (pre (Uu (fun j => decide (pl j < R)) F).2 (fun j => S (pl j)) (i + 1)))) F
    (by
      rintro j ⟨x0, x1, x2, x3, x4⟩ hj ⟨e0, e1, e2, h3, h4⟩
      replace e0 : x0 = _ := e0
      replace e1 : x1 = _ := e1
      replace e2 : x2 = nI j := e2
      subst e0; subst e1; subst e2
      left
      obtain ⟨hp, ep⟩ := hpl j hj
      have hu := (Uu_r (fun j => decide (pl j < R)) j).1
      show ∃ y, M_X0_fillUsable_b8 n (nI R) tp (nI F) f 512 (nI (Uu (fun j => decide (pl j < R)) j).1) (lN (pre (Uu (fun j => decide (pl j < R)) j).2 (fun j => S (pl j)) (Uu (fun j => decide (pl j < R)) j).1)) (nI j) x3 x4 = some (.inl y) ∧ _
      by_cases e : pl j < R
      · have hd : (fun j => decide (pl j < R)) j = true := decide_eq_true e
        rw [Uu_t hd]
        replace h3 : ∀ i, i < (Uu (fun j => decide (pl j < R)) j).1 → x3 i = nI ((Uu (fun j => decide (pl j < R)) j).2 i) := h3
        replace h4 : ∀ i, i < (Uu (fun j => decide (pl j < R)) j).1 → x4 i = lN (pre (Uu (fun j => decide (pl j < R)) j).2 (fun j => S (pl j)) (i + 1)) := h4
        generalize (Uu (fun j => decide (pl j < R)) j).1 = u at *
        generalize (Uu (fun j => decide (pl j < R)) j).2 = ux at *
        have hset : ∀ k, k < u → uset ux u j k = ux k := fun k hk => if_neg (by omega)
        have hset2 : uset ux u j u = j := if_pos rfl
        have hpre : pre (uset ux u j) (fun j => S (pl j)) (u + 1) = pre ux (fun j => S (pl j)) u ^^^ S (pl j) := by
          show pre (uset ux u j) (fun j => S (pl j)) u ^^^ S (pl (uset ux u j u)) = _
          rw [hset2, pre_congr u hset]
        refine ⟨(nI (u + 1), lN (pre (uset ux u j) (fun j => S (pl j)) (u + 1)), nI (j + 1), upd x3 u (nI j), vp_updL x4 u (lN (pre (uset ux u j) (fun j => S (pl j)) (u + 1)))), ?_, rfl, rfl, rfl, fun i hi => ?_, fun i hi => ?_⟩
        · rw [hpre]
          unfold M_X0_fillUsable_b8
          simp (disch := omega) only [i_0, i_1, i_2, i_3, i_4, i_5, i_6, i_7, i_8, i_10, i_12, i_16, i_31, i_32, i_64, i_100, i_128, i_255, i_256, i_512, i_1000, i_1128, i_65535, i_65536, nI_add, pk_mul, pk_sub, nI_ltI, nI_leI, nI_eq, nI_clamp, if_pos, if_neg, ite_true, ite_false, Option.bind_some, Option.elim_some, Option.elim_none, Sum.elim_inl, Sum.elim_inr, ep, hf, l_xor]
        · show upd x3 u (nI j) i = nI (uset ux u j i)
          have hi9 : i < u + 1 := hi
          by_cases ei : i = u
          · subst ei
            rw [up_at, hset2]
          · rw [up_ne _ _ ei, hset i (by omega)]
            exact h3 i (by omega)
        · show vp_updL x4 u _ i = lN (pre (uset ux u j) (fun j => S (pl j)) (i + 1))
          have hi9 : i < u + 1 := hi
          by_cases ei : i = u
          · subst ei
            rw [ul_at]
          · rw [ul_ne _ _ ei, pre_congr (i + 1) (fun k hk => hset k (by omega))]
            exact h4 i (by omega)
      · have hd : (fun j => decide (pl j < R)) j = false := decide_eq_false e
        rw [Uu_f hd]
        refine ⟨(_, _, nI (j + 1), x3, x4), ?_, rfl, rfl, rfl, h3, h4⟩
        unfold M_X0_fillUsable_b8
        simp (disch := omega) only [i_0, i_1, i_2, i_3, i_4, i_5, i_6, i_7, i_8, i_10, i_12, i_16, i_31, i_32, i_64, i_100, i_128, i_255, i_256, i_512, i_1000, i_1128, i_65535, i_65536, nI_add, pk_mul, pk_sub, nI_ltI, nI_leI, nI_eq, nI_clamp, if_pos, if_neg, ite_true, ite_false, Option.bind_some, Option.elim_some, Option.elim_none, Sum.elim_inl, Sum.elim_inr, ep]
        rfl)
    (by
      rintro ⟨x0, x1, x2, x3, x4⟩ ⟨e0, e1, e2, h3, h4⟩
      replace e2 : x2 = nI F := e2
      subst e2
      refine ⟨(x0, x3, x4), ?_, e0, h3, h4⟩
      show M_X0_fillUsable_b8 n (nI R) tp (nI F) f 512 x0 x1 (nI F) x3 x4 = _
      unfold M_X0_fillUsable_b8
      rw [if_pos (show nI F ≤ nI F by rw [nI_leI (by omega) (by omega)]; omega)]) n 0 ((0 : Int32), (0 : Int64), (0 : Int32), ub, up) (by omega) (by omega) ⟨rfl, rfl, rfl, fun i hi => absurd hi (Nat.not_lt_zero i), fun i hi => absurd hi (Nat.not_lt_zero i)⟩
  replace h2 : r0 = _ := h2
  subst h2
  exact ⟨r1, r2, lp_b h1 rfl, h3, h4⟩
theorem or_pow {a k : Nat} (h : a < 2 ^ k) : a ||| 2 ^ k = a + 2 ^ k := by
  have := Nat.two_pow_add_eq_or_of_lt h 1
  rw [Nat.mul_one] at this
  rw [Nat.or_comm, ← this, Nat.add_comm]
theorem wayOf_n {n u c : Nat} {ux : Nat → Nat} {ub : Nat → Int32} (hn : 1000 < n) (hu : u ≤ 16) (hc : c < 2 ^ 16) (hub : ∀ i, i < u → ub i = nI (ux i)) (hx : ∀ i, i < u → ux i < 16) (hinc : ∀ i i', i < i' → i' < u → ux i < ux i') : M_X0_wayOf n (nI c) (nI u) ub = some (nI (wy ux u c)) := by
  unfold M_X0_wayOf
  refine lp_b (lp_seq (f := fun x : (Int32 × Int32) => M_X0_wayOf_b5 n (nI c) (nI u) ub x.1 x.2) (fun i => (nI (wy ux i c), nI i)) (r := nI (wy ux u c)) (N := u) ?_ n 0 (by omega) (by omega) ?_) rfl
  · unfold M_X0_wayOf_b5
    rw [if_pos (show nI u ≤ nI u by rw [nI_leI (by omega) (by omega)]; omega)]
  · intro i _ hi
    have hxi := hx i hi
    have hlt := wy_lt (c := c) hinc i (ux i) (by omega) (fun i' hi' => hinc i' i hi' hi)
    show M_X0_wayOf_b5 n (nI c) (nI u) ub (nI (wy ux i c)) (nI i) = some (Sum.inl (nI (wy ux i c + (if c.testBit i then 2 ^ ux i else 0)), nI (i + 1)))
    unfold M_X0_wayOf_b5
    rw [if_neg (show ¬ nI u ≤ nI i by rw [nI_leI (by omega) (by omega)]; omega), bit_n (by omega) (by omega), nI_1]
    cases hb : c.testBit i with
    | true =>
      rw [if_pos (show nI true.toNat = 1 from rfl), if_neg (nI_in (show i < 16 by omega) (by omega)), nI_clamp (by omega), hub i hi]
      have e1 : ((1 : Int32) <<< (nI (ux i) &&& 31)) = nI (2 ^ ux i) := by
        simp (disch := omega) only [i_0, i_1, i_2, i_3, i_4, i_5, i_6, i_7, i_8, i_10, i_12, i_16, i_31, i_32, i_64, i_100, i_128, i_255, i_256, i_512, i_1000, i_1128, i_65535, i_65536, nI_add, pk_mul, pk_sub, n_and, n_or, n_xor, and_31, n_shl, n_shr, nI_ltI, nI_leI, nI_eq, nI_clamp, if_pos, if_neg, ite_true, ite_false, Option.bind_some, Option.elim_some, Option.elim_none, Sum.elim_inl, Sum.elim_inr, Nat.one_mul]
      rw [e1, n_or, or_pow hlt, if_pos rfl]
    | false =>
      rw [if_neg (show ¬ nI false.toNat = 1 by decide), if_neg (show ¬ (false = true) by decide)]
      rfl
theorem len_hits {wd u : Nat} (g : Nat → Nat × Nat) {c : Nat} (hc : c ≤ 2 ^ u) (hu : u ≤ 16) : (hits wd ((List.range c).map g)).length ≤ 65536 := by
  have h1 := hits_len wd ((List.range c).map g)
  rw [List.length_map, List.length_range] at h1
  have : 2 ^ u ≤ 2 ^ 16 := Nat.pow_le_pow_right (by decide) hu
  omega
theorem findWays_loop {n u wd : Nat} {ux sv : Nat → Nat} {ub : Nat → Int32} {up : Nat → Int64} (hn : 70000 < n) (hu : u ≤ 16) (hwd : wd < 2 ^ 32) (hub : ∀ i, i < u → ub i = nI (ux i)) (hup : ∀ i, i < u → up i = lN (pre ux sv (i + 1))) (hx : ∀ i, i < u → ux i < 16) (hsv : ∀ i, i < u → sv (ux i) < 2 ^ 32) (hinc : ∀ i i', i < i' → i' < u → ux i < ux i') (ways : Nat → Int32) :
    ∃ ways', lp (fun x : (Int32 × Int64 × Int32 × (Nat → Int32)) => M_X0_findWays_b17 n (lN wd) (nI u) ub up x.1 x.2.1 x.2.2.1 x.2.2.2) n ((0 : Int32), (0 : Int64), (0 : Int32), ways) = some (nI (hits wd ((List.range (2 ^ u)).map (fun c => (wy ux u c, tt ux sv u c)))).length, ways') ∧ Wk ways' (hits wd ((List.range (2 ^ u)).map (fun c => (wy ux u c, tt ux sv u c)))) := by
  have hp16 : 2 ^ u ≤ 2 ^ 16 := Nat.pow_le_pow_right (by decide) hu
  have hsh : ((1 : Int32) <<< (nI u &&& 31)) = nI (2 ^ u) := by
    simp (disch := omega) only [i_0, i_1, i_2, i_3, i_4, i_5, i_6, i_7, i_8, i_10, i_12, i_16, i_31, i_32, i_64, i_100, i_128, i_255, i_256, i_512, i_1000, i_1128, i_65535, i_65536, nI_add, pk_mul, pk_sub, n_and, n_or, n_xor, and_31, n_shl, n_shr, nI_ltI, nI_leI, nI_eq, nI_clamp, if_pos, if_neg, ite_true, ite_false, Option.bind_some, Option.elim_some, Option.elim_none, Sum.elim_inl, Sum.elim_inr, Nat.one_mul]
  obtain ⟨⟨r0, r1⟩, h1, h2, h3⟩ := lp_run (f := fun x : (Int32 × Int64 × Int32 × (Nat → Int32)) => M_X0_findWays_b17 n (lN wd) (nI u) ub up x.1 x.2.1 x.2.2.1 x.2.2.2)
    (fun c x => x.1 = nI (hits wd ((List.range c).map (fun c => (wy ux u c, tt ux sv u c)))).length ∧ x.2.1 = lN (tt ux sv u (c - 1)) ∧ x.2.2.1 = nI c ∧ Wk x.2.2.2 (hits wd ((List.range c).map (fun c => (wy ux u c, tt ux sv u c)))))
    (fun r => r.1 = nI (hits wd ((List.range (2 ^ u)).map (fun c => (wy ux u c, tt ux sv u c)))).length ∧ Wk r.2 (hits wd ((List.range (2 ^ u)).map (fun c => (wy ux u c, tt ux sv u c))))) (2 ^ u)
    (by
      rintro c ⟨x0, x1, x2, x3⟩ hc ⟨e0, e1, e2, hW⟩
      replace e0 : x0 = _ := e0
      replace e1 : x1 = _ := e1
      replace e2 : x2 = nI c := e2
      replace hW : Wk x3 (hits wd ((List.range c).map (fun c => (wy ux u c, tt ux sv u c)))) := hW
      subst e0; subst e1; subst e2
      left
      have hT := tt_lt (ux := ux) (sv := sv) (c := c) u hsv
      have hlen := len_hits (wd := wd) (u := u) (fun c => (wy ux u c, tt ux sv u c)) (c := c) (by omega) hu
      have hway := wayOf_n (n := n) (u := u) (c := c) (by omega) hu (by omega) hub hx hinc
      have hnext : hits wd ((List.range (c + 1)).map (fun c => (wy ux u c, tt ux sv u c))) = hits wd ((List.range c).map (fun c => (wy ux u c, tt ux sv u c))) ++ (if tt ux sv u c = wd then [wy ux u c] else []) := by
        rw [List.range_succ, List.map_append, hits_app]
        congr 1
        exact hits_1 _ _ _
      show ∃ y, M_X0_findWays_b17 n (lN wd) (nI u) ub up (nI (hits wd ((List.range c).map (fun c => (wy ux u c, tt ux sv u c)))).length) (lN (tt ux sv u (c - 1))) (nI c) x3 = some (.inl y) ∧ y.1 = nI (hits wd ((List.range (c + 1)).map (fun c => (wy ux u c, tt ux sv u c)))).length ∧ y.2.1 = lN (tt ux sv u (c + 1 - 1)) ∧ y.2.2.1 = nI (c + 1) ∧ Wk y.2.2.2 (hits wd ((List.range (c + 1)).map (fun c => (wy ux u c, tt ux sv u c))))
      rw [hnext]
      generalize hits wd ((List.range c).map (fun c => (wy ux u c, tt ux sv u c))) = H at *
      have key : M_X0_findWays_b17 n (lN wd) (nI u) ub up (nI H.length) (lN (tt ux sv u (c - 1))) (nI c) x3 = if tt ux sv u c = wd then (if 64 ≤ H.length then some (Sum.inl (nI (H.length + 1), lN (tt ux sv u c), nI (c + 1), x3)) else some (Sum.inl (nI (H.length + 1), lN (tt ux sv u c), nI (c + 1), upd x3 H.length (nI (wy ux u c))))) else some (Sum.inl (nI H.length, lN (tt ux sv u c), nI (c + 1), x3)) := by
        unfold M_X0_findWays_b17
        rw [hsh, if_neg (show ¬ nI (2 ^ u) ≤ nI c by rw [nI_leI (by omega) (by omega)]; omega)]
        rcases Nat.eq_zero_or_pos c with h0 | h0
        · subst h0
          rw [if_pos (show nI 0 ≤ 0 by decide), hway]
          by_cases e : tt ux sv u 0 = wd
          · rw [if_pos (show lN (tt ux sv u (0 - 1)) = lN wd by rw [Nat.zero_sub, e]), if_pos e]
            by_cases e64 : 64 ≤ H.length
            · simp (disch := omega) only [i_0, i_1, i_2, i_3, i_4, i_5, i_6, i_7, i_8, i_10, i_12, i_16, i_31, i_32, i_64, i_100, i_128, i_255, i_256, i_512, i_1000, i_1128, i_65535, i_65536, nI_add, pk_mul, pk_sub, nI_ltI, nI_leI, nI_eq, nI_clamp, if_pos, if_neg, ite_true, ite_false, Option.bind_some, Option.elim_some, Option.elim_none, Sum.elim_inl, Sum.elim_inr]
            · simp (disch := omega) only [i_0, i_1, i_2, i_3, i_4, i_5, i_6, i_7, i_8, i_10, i_12, i_16, i_31, i_32, i_64, i_100, i_128, i_255, i_256, i_512, i_1000, i_1128, i_65535, i_65536, nI_add, pk_mul, pk_sub, nI_ltI, nI_leI, nI_eq, nI_clamp, if_pos, if_neg, ite_true, ite_false, Option.bind_some, Option.elim_some, Option.elim_none, Sum.elim_inl, Sum.elim_inr]
          · rw [if_neg (show ¬ lN (tt ux sv u (0 - 1)) = lN wd by rw [Nat.zero_sub, pk_lEQ (by omega) (by omega)]; exact e), if_neg e]
            rfl
        · obtain ⟨t, m, ec⟩ := odd_part c h0
          have hcc : 2 ^ t * (2 * m + 1) < 65536 := by omega
          obtain ⟨hz, ht16⟩ := ntz_n hcc
          rw [← ec] at hz
          have htu : t < u := by
            have h9 : 2 ^ t * 1 ≤ 2 ^ t * (2 * m + 1) := Nat.mul_le_mul_left _ (by omega)
            exact pw_lt (n := u) (by omega)
          have hsucc := tt_succ (ux := ux) (sv := sv) (t := t) (m := m) u
          rw [← ec] at hsucc
          have e9 : (if u ≤ t + 1 then u else t + 1) = t + 1 := by split <;> omega
          rw [e9] at hsucc
          rw [if_neg (show ¬ nI c ≤ 0 by rw [i_0, nI_leI (by omega) (by omega)]; omega), hz, if_neg (nI_in ht16 (by omega)), nI_clamp (by omega), hup t htu, l_xor, ← hsucc, hway]
          by_cases e : tt ux sv u c = wd
          · rw [if_pos (show lN (tt ux sv u c) = lN wd by rw [e]), if_pos e]
            by_cases e64 : 64 ≤ H.length
            · simp (disch := omega) only [i_0, i_1, i_2, i_3, i_4, i_5, i_6, i_7, i_8, i_10, i_12, i_16, i_31, i_32, i_64, i_100, i_128, i_255, i_256, i_512, i_1000, i_1128, i_65535, i_65536, nI_add, pk_mul, pk_sub, nI_ltI, nI_leI, nI_eq, nI_clamp, if_pos, if_neg, ite_true, ite_false, Option.bind_some, Option.elim_some, Option.elim_none, Sum.elim_inl, Sum.elim_inr]
            · simp (disch := omega) only [i_0, i_1, i_2, i_3, i_4, i_5, i_6, i_7, i_8, i_10, i_12, i_16, i_31, i_32, i_64, i_100, i_128, i_255, i_256, i_512, i_1000, i_1128, i_65535, i_65536, nI_add, pk_mul, pk_sub, nI_ltI, nI_leI, nI_eq, nI_clamp, if_pos, if_neg, ite_true, ite_false, Option.bind_some, Option.elim_some, Option.elim_none, Sum.elim_inl, Sum.elim_inr]
          · rw [if_neg (show ¬ lN (tt ux sv u c) = lN wd by rw [pk_lEQ (by omega) (by omega)]; exact e), if_neg e, nI_1]
      rw [key]
      by_cases e : tt ux sv u c = wd
      · rw [if_pos e, if_pos e]
        by_cases e64 : 64 ≤ H.length
        · rw [if_pos e64]
          exact ⟨_, rfl, by rw [List.length_append, List.length_singleton], rfl, rfl, hW.full _ e64⟩
        · rw [if_neg e64]
          exact ⟨_, rfl, by rw [List.length_append, List.length_singleton], rfl, rfl, hW.push _⟩
      · rw [if_neg e, if_neg e, List.append_nil]
        exact ⟨_, rfl, rfl, rfl, rfl, hW⟩)
    (by
      rintro ⟨x0, x1, x2, x3⟩ ⟨e0, e1, e2, hW⟩
      replace e2 : x2 = nI (2 ^ u) := e2
      subst e2
      refine ⟨(x0, x3), ?_, e0, hW⟩
      show M_X0_findWays_b17 n (lN wd) (nI u) ub up x0 x1 (nI (2 ^ u)) x3 = _
      unfold M_X0_findWays_b17
      rw [hsh, if_pos (show nI (2 ^ u) ≤ nI (2 ^ u) by rw [nI_leI (by omega) (by omega)]; omega)]) n 0 ((0 : Int32), (0 : Int64), (0 : Int32), ways) (Nat.zero_le _) (by omega) ⟨rfl, (by show (0 : Int64) = lN (tt ux sv u 0); rw [tt_0]; rfl), rfl, fun i v _ hv => by simp [hits] at hv⟩
  replace h2 : r0 = _ := h2
  subst h2
  exact ⟨r1, h1, h3⟩
theorem aimM_loop {n F wd : Nat} {us : Nat → Bool} {fs : Nat → Nat} {fsy : Nat → Int64} (hn : 70000 < n) (hF : F ≤ 16) (hwd : wd < 2 ^ 32) (hfs : ∀ i, i < F → fsy i = lN (fs i)) (hfl : ∀ i, i < F → fs i < 2 ^ 32) (ways : Nat → Int32) :
    ∃ ways', lp (fun x : (Int32 × Int32 × (Nat → Int32) × Int32) => M_X12_aim_b154 n (lN wd) (nI (lst us F)) (nI F) fsy x.1 x.2.1 x.2.2.1 x.2.2.2) n ((0 : Int32), (0 : Int32), ways, (0 : Int32)) = some (nI (hits wd (((List.range (2 ^ F)).filter (okb us F)).map (fun t => (t, vm fs F t)))).length, ways', nI (min (hits wd (((List.range (2 ^ F)).filter (okb us F)).map (fun t => (t, vm fs F t)))).length 64)) ∧ Wk ways' (hits wd (((List.range (2 ^ F)).filter (okb us F)).map (fun t => (t, vm fs F t)))) := by
  have hp16 : 2 ^ F ≤ 2 ^ 16 := Nat.pow_le_pow_right (by decide) hF
  have hsh : ((1 : Int32) <<< (nI F &&& 31)) = nI (2 ^ F) := by
    simp (disch := omega) only [i_0, i_1, i_2, i_3, i_4, i_5, i_6, i_7, i_8, i_10, i_12, i_16, i_31, i_32, i_64, i_100, i_128, i_255, i_256, i_512, i_1000, i_1128, i_65535, i_65536, nI_add, pk_mul, pk_sub, n_and, n_or, n_xor, and_31, n_shl, n_shr, nI_ltI, nI_leI, nI_eq, nI_clamp, if_pos, if_neg, ite_true, ite_false, Option.bind_some, Option.elim_some, Option.elim_none, Sum.elim_inl, Sum.elim_inr, Nat.one_mul]
  have hlo := lst_lt us F
  obtain ⟨⟨r0, r1, r2⟩, h1, h2, h3, h4⟩ := lp_run (f := fun x : (Int32 × Int32 × (Nat → Int32) × Int32) => M_X12_aim_b154 n (lN wd) (nI (lst us F)) (nI F) fsy x.1 x.2.1 x.2.2.1 x.2.2.2)
    (fun t x => x.1 = nI (hits wd (((List.range t).filter (okb us F)).map (fun t => (t, vm fs F t)))).length ∧ x.2.1 = nI t ∧ Wk x.2.2.1 (hits wd (((List.range t).filter (okb us F)).map (fun t => (t, vm fs F t)))) ∧ x.2.2.2 = nI (min (hits wd (((List.range t).filter (okb us F)).map (fun t => (t, vm fs F t)))).length 64))
    (fun r => r.1 = nI (hits wd (((List.range (2 ^ F)).filter (okb us F)).map (fun t => (t, vm fs F t)))).length ∧ Wk r.2.1 (hits wd (((List.range (2 ^ F)).filter (okb us F)).map (fun t => (t, vm fs F t)))) ∧ r.2.2 = nI (min (hits wd (((List.range (2 ^ F)).filter (okb us F)).map (fun t => (t, vm fs F t)))).length 64)) (2 ^ F)
    (by
      rintro t ⟨x0, x1, x2, x3⟩ ht ⟨e0, e1, hW, e3⟩
      replace e0 : x0 = _ := e0
      replace e1 : x1 = nI t := e1
      replace e3 : x3 = _ := e3
      replace hW : Wk x2 (hits wd (((List.range t).filter (okb us F)).map (fun t => (t, vm fs F t)))) := hW
      subst e0; subst e1; subst e3
      left
      have hT := vm_lt (fs := fs) (t := t) F hfl
      have hlen : (hits wd (((List.range t).filter (okb us F)).map (fun t => (t, vm fs F t)))).length ≤ 65536 := by
        have h9 := hits_len wd (((List.range t).filter (okb us F)).map (fun t => (t, vm fs F t)))
        rw [List.length_map] at h9
        have h8 := List.length_filter_le (okb us F) (List.range t)
        rw [List.length_range] at h8
        omega
      have hin : lp (fun x : (Int64 × Int32) => M_X12_aim_b171 n (nI t) (nI F) fsy x.1 x.2) n ((0 : Int64), (0 : Int32)) = some (lN (vm fs F t)) := by
        refine lp_seq (f := fun x : (Int64 × Int32) => M_X12_aim_b171 n (nI t) (nI F) fsy x.1 x.2) (fun i => (lN (vm fs i t), nI i)) (N := F) ?_ n 0 (by omega) (by omega) ?_
        · unfold M_X12_aim_b171
          rw [if_pos (show nI F ≤ nI F by rw [nI_leI (by omega) (by omega)]; omega)]
        · intro i _ hi
          show M_X12_aim_b171 n (nI t) (nI F) fsy (lN (vm fs i t)) (nI i) = some (Sum.inl (lN (vm fs i t ^^^ (if t.testBit i then fs i else 0)), nI (i + 1)))
          unfold M_X12_aim_b171
          rw [if_neg (show ¬ nI F ≤ nI i by rw [nI_leI (by omega) (by omega)]; omega), bit_n (by omega) (by omega), nI_1]
          cases hb : t.testBit i with
          | true =>
            rw [if_pos (show nI true.toNat = 1 from rfl), if_neg (nI_in (show i < 16 by omega) (by omega)), nI_clamp (by omega), hfs i hi, l_xor, if_pos rfl]
          | false =>
            rw [if_neg (show ¬ nI false.toNat = 1 by decide), if_neg (by decide), Nat.xor_zero]
      have hnext : hits wd (((List.range (t + 1)).filter (okb us F)).map (fun t => (t, vm fs F t))) = hits wd (((List.range t).filter (okb us F)).map (fun t => (t, vm fs F t))) ++ (if okb us F t = true ∧ vm fs F t = wd then [t] else []) := by
        rw [List.range_succ, List.filter_append, List.map_append, hits_app]
        congr 1
        cases ho : okb us F t with
        | true =>
          rw [List.filter_cons_of_pos ho, List.filter_nil, List.map_cons, List.map_nil, hits_1]
          simp
        | false =>
          rw [List.filter_cons_of_neg (by rw [ho]; decide), List.filter_nil, List.map_nil, if_neg (by simp)]
          rfl
      have hand : (nI t &&& nI (lst us F)) = 0 ↔ okb us F t = true := by
        have hle : t &&& lst us F ≤ t := Nat.and_le_left
        rw [n_and, i_0, nI_eq (by omega) (by omega)]
        exact lst_ok us t F
      show ∃ y, M_X12_aim_b154 n (lN wd) (nI (lst us F)) (nI F) fsy (nI (hits wd (((List.range t).filter (okb us F)).map (fun t => (t, vm fs F t)))).length) (nI t) x2 (nI (min (hits wd (((List.range t).filter (okb us F)).map (fun t => (t, vm fs F t)))).length 64)) = some (.inl y) ∧ y.1 = nI (hits wd (((List.range (t + 1)).filter (okb us F)).map (fun t => (t, vm fs F t)))).length ∧ y.2.1 = nI (t + 1) ∧ Wk y.2.2.1 (hits wd (((List.range (t + 1)).filter (okb us F)).map (fun t => (t, vm fs F t)))) ∧ y.2.2.2 = nI (min (hits wd (((List.range (t + 1)).filter (okb us F)).map (fun t => (t, vm fs F t)))).length 64)
      rw [hnext]
      generalize hits wd (((List.range t).filter (okb us F)).map (fun t => (t, vm fs F t))) = H at *
      unfold M_X12_aim_b154
      rw [hsh, if_neg (show ¬ nI (2 ^ F) ≤ nI t by rw [nI_leI (by omega) (by omega)]; omega), hin, Option.bind_some]
      by_cases e1 : okb us F t = true
      · rw [if_pos (hand.mpr e1)]
        by_cases e2 : vm fs F t = wd
        · rw [if_pos (show lN (vm fs F t) = lN wd by rw [e2]), if_pos (show okb us F t = true ∧ vm fs F t = wd from ⟨e1, e2⟩)]
          by_cases e64 : 64 ≤ H.length
          · rw [if_pos (show (64 : Int32) ≤ nI H.length by rw [i_64, nI_leI (by omega) (by omega)]; exact e64), nI_1, nI_1]
            refine ⟨_, rfl, by rw [List.length_append, List.length_singleton], rfl, hW.full _ e64, ?_⟩
            show nI (min H.length 64) = _
            rw [List.length_append, List.length_singleton]
            congr 1
            omega
          · rw [if_neg (show ¬ (64 : Int32) ≤ nI H.length by rw [i_64, nI_leI (by omega) (by omega)]; exact e64), if_neg (nI_in (show H.length < 64 by omega) (by omega)), nI_clamp (by omega), nI_1, nI_1, nI_1]
            refine ⟨_, rfl, by rw [List.length_append, List.length_singleton], rfl, hW.push _, ?_⟩
            show nI (min H.length 64 + 1) = _
            rw [List.length_append, List.length_singleton]
            congr 1
            omega
        · rw [if_neg (show ¬ lN (vm fs F t) = lN wd by rw [pk_lEQ (by omega) (by omega)]; exact e2), if_neg (show ¬ (okb us F t = true ∧ vm fs F t = wd) from fun h9 => e2 h9.2), List.append_nil, nI_1]
          exact ⟨_, rfl, rfl, rfl, hW, rfl⟩
      · rw [if_neg (fun h9 => e1 (hand.mp h9)), if_neg (show ¬ (okb us F t = true ∧ vm fs F t = wd) from fun h9 => e1 h9.1), List.append_nil, nI_1]
        exact ⟨_, rfl, rfl, rfl, hW, rfl⟩)
    (by
      rintro ⟨x0, x1, x2, x3⟩ ⟨e0, e1, hW, e3⟩
      replace e1 : x1 = nI (2 ^ F) := e1
      subst e1
      refine ⟨(x0, x2, x3), ?_, e0, hW, e3⟩
      show M_X12_aim_b154 n (lN wd) (nI (lst us F)) (nI F) fsy x0 (nI (2 ^ F)) x2 x3 = _
      unfold M_X12_aim_b154
      rw [hsh, if_pos (show nI (2 ^ F) ≤ nI (2 ^ F) by rw [nI_leI (by omega) (by omega)]; omega)]) n 0 ((0 : Int32), (0 : Int32), ways, (0 : Int32)) (by omega) (by omega) ⟨rfl, rfl, fun i v _ hv => by simp [hits] at hv, rfl⟩
  replace h2 : r0 = _ := h2
  replace h4 : r2 = _ := h4
  subst h2; subst h4
  exact ⟨r1, h1, h3⟩
section AI
variable {ro : RF} {c c2 : Int32} {kd mo bi tu : Nat → Int32} {po be fi : Nat → Int64} {lo wo wt ce : Nat → Int32}
theorem aimS_M {n F L w p l j : Nat} {fp : Nat → Int32} {pl : Nat → Nat} (hn : 10000 < n) (hF : F ≤ 16) (hL : L ≤ 64) (hj : j < 16) (hw : 3 ≤ w) (hw' : w ≤ 32) (hp : p < 2 ^ w) (hl : l < 2) (hbi : bi j = nI w) (hpo : po j = lN p) (hlo : lo j = nI l) (hpl : ∀ i, i < F → pl i < 512 ∧ fp i = nI (pl i)) (fsy : Nat → Int64) :
    ∃ fsy', lp (fun x : (Int32 × Int32 × (Nat → Int64)) => M_X12_aim_b54 n (nI j) bi po lo (nI L) (nI F) fp x.1 x.2.1 x.2.2) n ((0 : Int32), (0 : Int32), fsy) = some (nI (lst (fun i => decide (pl i < 8 * L)) F), fsy') ∧ ∀ i, i < F → fsy' i = lN (if pl i < 8 * L then syn w p l L (pl i) else 0) := by
  obtain ⟨⟨r0, r1⟩, h1, h2, h3⟩ := lp_run (f := fun x : (Int32 × Int32 × (Nat → Int64)) => M_X12_aim_b54 n (nI j) bi po lo (nI L) (nI F) fp x.1 x.2.1 x.2.2)
    (fun i x => x.1 = nI (lst (fun i => decide (pl i < 8 * L)) i) ∧ x.2.1 = nI i ∧ ∀ k, k < i → x.2.2 k = lN (if pl k < 8 * L then syn w p l L (pl k) else 0))
    (fun r => r.1 = nI (lst (fun i => decide (pl i < 8 * L)) F) ∧ ∀ i, i < F → r.2 i = lN (if pl i < 8 * L then syn w p l L (pl i) else 0)) F
    (by
      rintro i ⟨x0, x1, x2⟩ hi ⟨e0, e1, h3⟩
      replace e0 : x0 = _ := e0
      replace e1 : x1 = nI i := e1
      replace h3 : ∀ k, k < i → x2 k = lN (if pl k < 8 * L then syn w p l L (pl k) else 0) := h3
      subst e0; subst e1
      left
      obtain ⟨hp5, ep⟩ := hpl i hi
      have e8 : (8 : Int32) * nI L = nI (8 * L) := pk_mul 8 L
      have hst : ∀ v, v = lN (if pl i < 8 * L then syn w p l L (pl i) else 0) → ∀ k, k < i + 1 → vp_updL x2 i v k = lN (if pl k < 8 * L then syn w p l L (pl k) else 0) := by
        intro v hv k hk
        by_cases ek : k = i
        · rw [ek, ul_at, hv]
        · rw [ul_ne _ _ ek]
          exact h3 k (by omega)
      show ∃ y, M_X12_aim_b54 n (nI j) bi po lo (nI L) (nI F) fp (nI (lst (fun i => decide (pl i < 8 * L)) i)) (nI i) x2 = some (.inl y) ∧ y.1 = nI (lst (fun i => decide (pl i < 8 * L)) i ||| (if decide (pl i < 8 * L) then 0 else 2 ^ i)) ∧ y.2.1 = nI (i + 1) ∧ ∀ k, k < i + 1 → y.2.2 k = lN (if pl k < 8 * L then syn w p l L (pl k) else 0)
      generalize lst (fun i => decide (pl i < 8 * L)) i = lo9
      unfold M_X12_aim_b54
      rw [if_neg (show ¬ nI F ≤ nI i by rw [nI_leI (by omega) (by omega)]; omega), if_neg (nI_in (show i < 16 by omega) (by omega)), if_neg (nI_in (show i < 16 by omega) (by omega)), if_neg (nI_in (show i < 16 by omega) (by omega)), nI_clamp (n := i) (by omega), ep, e8, nI_1]
      by_cases e : pl i < 8 * L
      · have hs := syndromeOf_n (bi := bi) (po := po) (lo := lo) hn e hL hj hw hw' hp hl hbi hpo hlo
        rw [if_neg (show ¬ nI (8 * L) ≤ nI (pl i) by rw [nI_leI (by omega) (by omega)]; omega), hs, Option.bind_some, if_neg (show ¬ (nI i < 0 ∨ 16 ≤ i) by have := nI_in (show i < 16 by omega) (by omega); rw [nI_clamp (by omega)] at this; exact this), if_pos (decide_eq_true e), i_0, n_or]
        exact ⟨_, rfl, rfl, rfl, hst _ (by rw [if_pos e])⟩
      · have e1 : ((1 : Int32) <<< (nI i &&& 31)) = nI (2 ^ i) := by
          simp (disch := omega) only [i_0, i_1, i_2, i_3, i_4, i_5, i_6, i_7, i_8, i_10, i_12, i_16, i_31, i_32, i_64, i_100, i_128, i_255, i_256, i_512, i_1000, i_1128, i_65535, i_65536, nI_add, pk_mul, pk_sub, n_and, n_or, n_xor, and_31, n_shl, n_shr, nI_ltI, nI_leI, nI_eq, nI_clamp, if_pos, if_neg, ite_true, ite_false, Option.bind_some, Option.elim_some, Option.elim_none, Sum.elim_inl, Sum.elim_inr, Nat.one_mul]
        rw [if_pos (show nI (8 * L) ≤ nI (pl i) by rw [nI_leI (by omega) (by omega)]; omega), e1, n_or, if_neg (by simp [e])]
        exact ⟨_, rfl, rfl, rfl, hst _ (by rw [if_neg e]; rfl)⟩)
    (by
      rintro ⟨x0, x1, x2⟩ ⟨e0, e1, h3⟩
      replace e1 : x1 = nI F := e1
      subst e1
      refine ⟨(x0, x2), ?_, e0, h3⟩
      show M_X12_aim_b54 n (nI j) bi po lo (nI L) (nI F) fp x0 (nI F) x2 = _
      unfold M_X12_aim_b54
      rw [if_pos (show nI F ≤ nI F by rw [nI_leI (by omega) (by omega)]; omega)]) n 0 ((0 : Int32), (0 : Int32), fsy) (by omega) (by omega) ⟨rfl, rfl, fun k hk => by omega⟩
  replace h2 : r0 = _ := h2
  subst h2
  exact ⟨r1, h1, h3⟩
theorem free_nat {fc : Int32} {tp : Nat → Int32} {fm : Int32} {fp : Nat → Int32} (h : I_free fc tp fm fp) : ∃ F, F ≤ 16 ∧ fc = nI F ∧ fm = nI F ∧ (∀ i, i < F → bv tp i < 512 ∧ tp i = nI (bv tp i)) ∧ (∀ i, i < F → bv tp i < 512 ∧ fp i = nI (bv tp i)) := by
  obtain ⟨F, hF, h1, h2, h3⟩ := h
  refine ⟨F, hF, h1, h2, fun i hi => ?_, fun i hi => ?_⟩
  · have := bv_of (B := 512) (by omega) (h3 i hi).2
    exact ⟨this.2, this.1⟩
  · have := bv_of (B := 512) (by omega) (h3 i hi).2
    exact ⟨this.2, by rw [(h3 i hi).1]; exact this.1⟩
theorem o_aim {n : Nat} (hn : 70000 < n) {rc : Int32} {rf : Nat → Int32} {rc2 : Int32} {rf2 : Nat → Int32} (hr : I_row rc rf rc2 rf2) (h : I_sums ro c c2 kd mo bi tu po be fi lo wo wt ce) {fc : Int32} {tp : Nat → Int32} {fm : Int32} {fp : Nat → Int32} (hfr : I_free fc tp fm fp) {wc : Int32} {ways : Nat → Int32} {mk : Int32} {mways : Nat → Int32} (hwy : I_ways wc ways mk mways) (x1 : Int32) (x2 : Int64) (sy : Nat → Int64) (pl : Int32) (ub : Nat → Int32) (up fsy : Nat → Int64) :
    ∃ r r2, M_X11_aim n x1 x2 ro c rf rc sy pl tp fc ways wc ub up = some r ∧ M_X12_aim n x1 x2 c2 kd mo bi tu po be fi lo wo wt ce rc2 rf2 fm fp fsy mways mk = some r2 ∧ r.1 = r2.1 ∧ I_ways r.2.2.2.2.1 r.2.2.2.1 r2.2.2.2 r2.2.2.1 := by
  obtain ⟨L, hL, e1, e2, hb, hf, hf2⟩ := row_nat hr
  obtain ⟨F, hF, f1, f2, hpl, hpl2⟩ := free_nat hfr
  unfold M_X11_aim M_X12_aim
  rcases div_at h x1 with ⟨h1, h2, h3⟩ | ⟨j, a, w, sd, k, h1, h2, h3, h4, h5, hj, rfl, hk, hk7, hk45⟩ | ⟨j, a, w', k, w, p, s, t, l, h1, h2, h3, hj, rfl, g1, g2, g3, g4, g5, g6, g7, g9, g10, g11, g12, g13, g14⟩
  · rw [h1, h3]
    exact ⟨_, _, rfl, rfl, rfl, hwy⟩
  · rw [h1, h4]
    exact ⟨_, _, nd1 h2 h3 _ _, rfl, rfl, hwy⟩
  · have ej : (nI j).toNatClampNeg = j := nI_clamp (by omega)
    have em : M_X12_mask (nI j) bi = some (((1 : Int64) <<< ((nI w).toInt64 &&& 63)) - 1) := by
      unfold M_X12_mask
      rw [ej, if_neg (ixn hj), g10]
    rw [h1, h2]
    dsimp only [Option.bind_some, Option.elim_some]
    rw [if_pos (show (1 : Nat) = 8 ∨ (1 : Nat) = 7 ∨ (1 : Nat) = 6 ∨ (1 : Nat) = 1 ∨ (1 : Nat) = 4 by omega), if_pos (show (1 : Nat) = 1 from rfl), if_pos z_eq, em]
    dsimp only [Option.bind_some]
    rw [fits_eq, show M_X1_holds x2 (nI w) = M_X11_fits x2 (nI w) from rfl]
    rcases fits_c x2 g3 with q1 | ⟨q1, u, hu, rfl⟩
    · rw [q1]
      exact ⟨_, _, rfl, rfl, rfl, hwy⟩
    · rw [q1, if_neg one_ne, if_neg one_ne]
      have hS := Nat.xor_lt_two_pow (crc_lt (l := l) g4 g5 (bv rf) L) g6
      have hq := pow_le g3
      obtain ⟨f, hl1, hl2⟩ := load_n (N := n) (n := L) (by omega) hL g2 g3 g4 g7 sy pl
      rw [e1, e2, f1, f2, hl1, ofRow1 (by omega) hL hb hf g2 g3 g4 g5 g7, sumOf4 (by omega) hL hb hf2 hj g1 g2 g3 g4 g5 g7 g9 g10 g11 g12 g13 g14]
      have hd : (crc w p l s (bv rf) L ^^^ t) ^^^ u < 2 ^ w := Nat.xor_lt_two_pow hS hu
      dsimp only [Option.bind_some]
      rw [l_xor]
      generalize (crc w p l s (bv rf) L ^^^ t) ^^^ u = wd at hd
      obtain ⟨fsy', k1, k2⟩ := aimS_M (bi := bi) (po := po) (lo := lo) (n := n) (F := F) (pl := bv tp) (by omega) hF hL hj g2 g3 g4 g7 g10 g11 g14 hpl2 fsy
      obtain ⟨ub', up', k3, k4, k5⟩ := fillU_n (n := n) (R := 8 * L) (S := syn w p l L) (by omega) hF (by omega) hpl hl2 ub up
      have hU := Uu_r (fun j => decide (bv tp j < 8 * L)) F
      obtain ⟨ways', k6, k7⟩ := findWays_loop (n := n) (wd := wd) (sv := fun j => syn w p l L (bv tp j)) hn (by omega) (by omega) k4 k5 (fun i hi => by have := (hU.2.1 i hi).1; omega) (fun i _ => by have := syn_lt g4 l L (bv tp ((Uu (fun j => decide (bv tp j < 8 * L)) F).2 i)); omega) hU.2.2 ways
      obtain ⟨mways', k8, k9⟩ := aimM_loop (n := n) (wd := wd) (us := fun j => decide (bv tp j < 8 * L)) (fs := fun i => if bv tp i < 8 * L then syn w p l L (bv tp i) else 0) hn hF (by omega) k2 (fun i _ => by
        show (if bv tp i < 8 * L then syn w p l L (bv tp i) else 0) < 2 ^ 32
        have := syn_lt g4 l L (bv tp i)
        split <;> omega) mways
      have heq := ways_eq (fun j => decide (bv tp j < 8 * L)) (fun j => syn w p l L (bv tp j)) (fun i => if bv tp i < 8 * L then syn w p l L (bv tp i) else 0) (fun j hj9 => if_pos (of_decide_eq_true hj9)) F
      rw [heq] at k6 k7
      rw [k1]
      dsimp only [Option.bind_some]
      rw [k8]
      unfold M_X0_findWays
      rw [k3]
      dsimp only [Option.bind_some]
      rw [k6]
      have hlen : (hits wd (((List.range (2 ^ F)).filter (okb (fun j => decide (bv tp j < 8 * L)) F)).map (fun t => (t, vm (fun i => if bv tp i < 8 * L then syn w p l L (bv tp i) else 0) F t)))).length ≤ 65536 := by
        have h9 := hits_len wd (((List.range (2 ^ F)).filter (okb (fun j => decide (bv tp j < 8 * L)) F)).map (fun t => (t, vm (fun i => if bv tp i < 8 * L then syn w p l L (bv tp i) else 0) F t)))
        rw [List.length_map] at h9
        have h8 := List.length_filter_le (okb (fun j => decide (bv tp j < 8 * L)) F) (List.range (2 ^ F))
        rw [List.length_range] at h8
        have : 2 ^ F ≤ 2 ^ 16 := Nat.pow_le_pow_right (by decide) hF
        omega
      generalize hits wd (((List.range (2 ^ F)).filter (okb (fun j => decide (bv tp j < 8 * L)) F)).map (fun t => (t, vm (fun i => if bv tp i < 8 * L then syn w p l L (bv tp i) else 0) F t))) = H at *
      refine ⟨_, _, rfl, rfl, rfl, min H.length 64, by omega, ?_, rfl, fun i hi => ?_⟩
      · show (if (64 : Int32) < nI H.length then (64 : Int32) else nI H.length) = _
        by_cases e64 : 64 < H.length
        · rw [if_pos (show (64 : Int32) < nI H.length by rw [i_64, nI_ltI (by omega) (by omega)]; exact e64), show min H.length 64 = 64 by omega]
          rfl
        · rw [if_neg (show ¬ (64 : Int32) < nI H.length by rw [i_64, nI_ltI (by omega) (by omega)]; exact e64), show min H.length 64 = H.length by omega]
      · have hi1 : i < H.length := by omega
        have hv : H[i]? = some H[i] := List.getElem?_eq_getElem hi1
        show ways' i = mways' i
        rw [k7 i _ (by omega) hv, k9 i _ (by omega) hv]
end AI
