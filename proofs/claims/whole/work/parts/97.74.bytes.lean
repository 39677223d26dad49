/-! Own rows: slips of bytes. -/
/-- byte i is no more a, but b: t of its bits looked at -/
theorem and_pow0 {t j : Nat} : (t &&& 2 ^ j = 0) ↔ t.testBit j = false := by
  constructor
  · intro h
    have h2 : (t &&& 2 ^ j).testBit j = false := by rw [h, Nat.zero_testBit]
    rw [Nat.testBit_and, Nat.testBit_two_pow_self, Bool.and_true] at h2
    exact h2
  · intro h
    apply Nat.eq_of_testBit_eq
    intro i
    rw [Nat.testBit_and, Nat.zero_testBit, Nat.testBit_two_pow]
    by_cases e : j = i
    · rw [← e, h, Bool.false_and]
    · rw [decide_eq_false e, Bool.and_false]
def df (mg : Nat → Nat → Nat) (rise fall : Nat → Nat) (i a b : Nat) : Nat → Nat → Nat
  | 0, x => x
  | t + 1, x => if a.testBit (7 - t) = b.testBit (7 - t) then df mg rise fall i a b t x else mg (df mg rise fall i a b t x) (if a.testBit (7 - t) then fall (8 * i + t) else rise (8 * i + t))
def chs (mg : Nat → Nat → Nat) (rise fall : Nat → Nat) (slip g i a b : Nat) : Nat := if g = 0 then df mg rise fall i a b 8 0 else if slip = 5 then df mg rise fall (i + g) a b 8 (df mg rise fall i a b 8 0) else df mg rise fall (i + g) b a 8 (df mg rise fall i a b 8 0)
def yL (mg : Nat → Nat → Nat) (rise fall : Nat → Nat) (slip g i b : Nat) : Option (Nat × Nat) := if 1 ≤ b ∧ chs mg rise fall slip g i 0 b = 0 then some (i, b) else none
def yAll (mg : Nat → Nat → Nat) (rise fall : Nat → Nat) (slip g nb : Nat) : Option (Nat × Nat) := fS (fun i => fS (fun b => yL mg rise fall slip g i b) 256) (nb - g)
def Hred (mg : Nat → Nat → Nat) (rise fall : Nat → Nat) (nb : Nat) : Prop := ∀ slip g i a b, i + g < nb → a < 256 → b < 256 → a ≠ b → chs mg rise fall slip g i a b = 0 → ∃ d, 1 ≤ d ∧ d < 256 ∧ chs mg rise fall slip g i 0 d = 0
def yb (slip g i b t : Nat) : Nat := if g ≠ 0 ∧ slip ≠ 5 ∧ t = i + g then b else 0
def ya (slip g i b t : Nat) : Nat := if t = i then b else if slip = 5 ∧ t = i + g then b else 0
def OutY (o : Option (Nat × Nat)) (slip g nb : Nat) (ks : Int32) (b0 a0 : Nat → Int32) (res ks' : Int32) (b' a' : Nat → Int32) : Prop := match o with
  | none => res = 0 ∧ ks' = ks ∧ b' = b0 ∧ a' = a0
  | some z => res = 1 ∧ ks' = nI nb ∧ ∀ t, t < 8 → b' t = nI (yb slip g z.1 z.2 t) ∧ a' t = nI (ya slip g z.1 z.2 t)
theorem fS_shift {Z : Type} {S : Nat → Option Z} (h0 : S 0 = none) : ∀ M, fS S (M + 1) = fS (fun p => S (p + 1)) M := by
  intro M
  induction M with
  | zero => exact h0
  | succ M ih =>
    show (match fS S (M + 1) with | some z => some z | none => S (M + 1)) = (match fS (fun p => S (p + 1)) M with | some z => some z | none => S (M + 1))
    rw [ih]
theorem fS_inv {Z : Type} {S : Nat → Option Z} : ∀ M, fS S M = none → ∀ p, p < M → S p = none := by
  intro M
  induction M with
  | zero => intro _ p hp; omega
  | succ M ih =>
    intro h p hp
    have h' : (match fS S M with | some z => some z | none => S M) = none := h
    cases hf : fS S M with
    | some z => rw [hf] at h'; cases h'
    | none =>
      rw [hf] at h'
      by_cases e : p = M
      · rw [e]; exact h'
      · exact ih hf p (by omega)
section DF
variable {mg : Nat → Nat → Nat} {V : Nat → Prop} {rise fall : Nat → Nat} {N : Nat}
theorem df_V (hG : GP mg V rise fall N) {i a b : Nat} (hi : 8 * i + 8 ≤ N) : ∀ t x, t ≤ 8 → V x → V (df mg rise fall i a b t x) := by
  intro t
  induction t with
  | zero => intro x _ hx; exact hx
  | succ t ih =>
    intro x ht hx
    have h1 := ih x (by omega) hx
    show V (if a.testBit (7 - t) = b.testBit (7 - t) then df mg rise fall i a b t x else mg (df mg rise fall i a b t x) (if a.testBit (7 - t) then fall (8 * i + t) else rise (8 * i + t)))
    split
    · exact h1
    · exact hG.2.1 _ _ h1 (hG.rf (show 8 * i + t < N by omega) _)
theorem df_start (hG : GP mg V rise fall N) {i a b : Nat} (hi : 8 * i + 8 ≤ N) : ∀ t x, t ≤ 8 → V x → df mg rise fall i a b t x = mg x (df mg rise fall i a b t 0) := by
  intro t
  have hG' := hG
  obtain ⟨g0, g1, g2, g3, g4, g5, g6⟩ := hG'
  induction t with
  | zero =>
    intro x _ hx
    show x = mg x 0
    rw [g3 x 0 hx g0, g2 x hx]
  | succ t ih =>
    intro x ht hx
    have h1 := ih x (by omega) hx
    have h2 := df_V hG (a := a) (b := b) hi t 0 (by omega) g0
    show (if a.testBit (7 - t) = b.testBit (7 - t) then df mg rise fall i a b t x else mg (df mg rise fall i a b t x) (if a.testBit (7 - t) then fall (8 * i + t) else rise (8 * i + t))) = mg x (if a.testBit (7 - t) = b.testBit (7 - t) then df mg rise fall i a b t 0 else mg (df mg rise fall i a b t 0) (if a.testBit (7 - t) then fall (8 * i + t) else rise (8 * i + t)))
    by_cases e : a.testBit (7 - t) = b.testBit (7 - t)
    · rw [if_pos e, if_pos e]
      exact h1
    · rw [if_neg e, if_neg e, h1, g4 x _ _ hx h2 (hG.rf (show 8 * i + t < N by omega) _)]
end DF
section YC
variable {mg : Nat → Nat → Nat} {V : Nat → Prop} {rise fall : Nat → Nat} {N : Nat} {sd : SD} {ris fal : Nat → Int64} {xr : Bool} {n : Nat}
theorem bit_and {b t : Nat} (ht : t < 8) (hb : b < 256) : (nI b &&& ((128 : Int32) >>> (nI t &&& 31))) = 0 ↔ b.testBit (7 - t) = false := by
  have e1 : ((128 : Int32) >>> (nI t &&& 31)) = nI (2 ^ (7 - t)) := by
    have : 128 / 2 ^ t = 2 ^ (7 - t) := by
      rw [show (128 : Nat) = 2 ^ 7 from rfl, Nat.pow_div (by omega) (by decide)]
    rw [← this]
    simp (disch := omega) only [i_0, i_1, i_2, i_3, i_4, i_5, i_6, i_7, i_8, i_10, i_12, i_16, i_31, i_32, i_64, i_100, i_128, i_255, i_256, i_512, i_1000, i_1128, i_65535, i_65536, nI_add, pk_mul, pk_sub, n_and, n_or, n_xor, and_31, n_shl, n_shr, nI_ltI, nI_leI, nI_eq, nI_clamp, if_pos, if_neg, ite_true, ite_false, Option.bind_some, Option.elim_some, Option.elim_none, Sum.elim_inl, Sum.elim_inr]
  have hle : b &&& 2 ^ (7 - t) ≤ b := Nat.and_le_left
  have hp := Nat.two_pow_pos (7 - t)
  rw [e1, n_and, i_0, nI_eq (by omega) (by omega)]
  exact and_pow0
/-- a byte's bits, merged: up = false: b comes to where 0 was; up = true: b goes -/
theorem mergedBits_n (hG : GP mg V rise fall N) (hC : CI sd mg V rise fall N ris fal xr) (hn : 1000 < n) (hN : N ≤ 64) {i b : Nat} (hi : 8 * i + 8 ≤ N) (hb : b < 256) :
    M_X4_mergedBits n (nI i) (nI b) ris 64 sd = some (lN (df mg rise fall i 0 b 8 0)) ∧ M_X4_mergedBits n (nI i) (nI b) fal 64 sd = some (lN (df mg rise fall i b 0 8 0)) := by
  have z0 : ∀ t, (0 : Nat).testBit t = false := fun t => Nat.zero_testBit t
  constructor
  · unfold M_X4_mergedBits
    refine lp_b (lp_seq (f := fun x : (Int64 × Int32) => M_X4_mergedBits_b6 n (nI i) (nI b) ris 64 sd x.1 x.2) (fun t => (lN (df mg rise fall i 0 b t 0), nI t)) (r := lN (df mg rise fall i 0 b 8 0)) (N := 8) ?_ n 0 (by omega) (by omega) ?_) rfl
    · rfl
    · intro t _ ht
      have hV := df_V hG (a := 0) (b := b) hi t 0 (by omega) hG.1
      have hq : 8 * i + t < N := by omega
      have m1 := hC.1 _ _ hV (hG.2.2.2.2.2.1 _ hq).1
      show M_X4_mergedBits_b6 n (nI i) (nI b) ris 64 sd (lN (df mg rise fall i 0 b t 0)) (nI t) = some (Sum.inl (lN (if (0 : Nat).testBit (7 - t) = b.testBit (7 - t) then df mg rise fall i 0 b t 0 else mg (df mg rise fall i 0 b t 0) (if (0 : Nat).testBit (7 - t) then fall (8 * i + t) else rise (8 * i + t))), nI (t + 1)))
      unfold M_X4_mergedBits_b6
      rw [z0, if_neg (show ¬ (8 : Int32) ≤ nI t by rw [i_8, nI_leI (by omega) (by omega)]; omega), nI_1]
      cases hbt : b.testBit (7 - t) with
      | false =>
        rw [if_pos ((bit_and ht hb).mpr hbt), if_pos rfl]
      | true =>
        rw [if_neg (fun h => by rw [(bit_and ht hb).mp h] at hbt; cases hbt), i_8, pk_mul, nI_add, if_neg (nI_in (show 8 * i + t < 64 by omega) (by omega)), nI_clamp (by omega), (hC.2.2.1 _ hq).1, m1, if_neg (by decide), if_neg (by decide)]
        rfl
  · unfold M_X4_mergedBits
    refine lp_b (lp_seq (f := fun x : (Int64 × Int32) => M_X4_mergedBits_b6 n (nI i) (nI b) fal 64 sd x.1 x.2) (fun t => (lN (df mg rise fall i b 0 t 0), nI t)) (r := lN (df mg rise fall i b 0 8 0)) (N := 8) ?_ n 0 (by omega) (by omega) ?_) rfl
    · rfl
    · intro t _ ht
      have hV := df_V hG (a := b) (b := 0) hi t 0 (by omega) hG.1
      have hq : 8 * i + t < N := by omega
      have m1 := hC.1 _ _ hV (hG.2.2.2.2.2.1 _ hq).2.1
      show M_X4_mergedBits_b6 n (nI i) (nI b) fal 64 sd (lN (df mg rise fall i b 0 t 0)) (nI t) = some (Sum.inl (lN (if b.testBit (7 - t) = (0 : Nat).testBit (7 - t) then df mg rise fall i b 0 t 0 else mg (df mg rise fall i b 0 t 0) (if b.testBit (7 - t) then fall (8 * i + t) else rise (8 * i + t))), nI (t + 1)))
      unfold M_X4_mergedBits_b6
      rw [z0, if_neg (show ¬ (8 : Int32) ≤ nI t by rw [i_8, nI_leI (by omega) (by omega)]; omega), nI_1]
      cases hbt : b.testBit (7 - t) with
      | false =>
        rw [if_pos ((bit_and ht hb).mpr hbt), if_pos rfl]
      | true =>
        rw [if_neg (fun h => by rw [(bit_and ht hb).mp h] at hbt; cases hbt), i_8, pk_mul, nI_add, if_neg (nI_in (show 8 * i + t < 64 by omega) (by omega)), nI_clamp (by omega), (hC.2.2.1 _ hq).2, m1, if_neg (by decide), if_pos rfl]
        rfl
theorem chg_C (hG : GP mg V rise fall N) (hC : CI sd mg V rise fall N ris fal xr) (hn : 1000 < n) (hN : N ≤ 64) {slip g i b : Nat} (hs : slip = 2 ∧ g = 0 ∨ slip = 3 ∧ g = 1 ∨ slip = 4 ∧ g = 2 ∨ slip = 5 ∧ g = 1) (hi : 8 * (i + g) + 8 ≤ N) (hb : b < 256) :
    M_X4_byteSlipChange n (nI slip) (nI i) (nI (i + g)) (nI b) ris fal sd = some (lN (chs mg rise fall slip g i 0 b)) := by
  have hi0 : 8 * i + 8 ≤ N := by omega
  obtain ⟨a1, a2⟩ := mergedBits_n (n := n) hG hC hn hN hi0 hb
  obtain ⟨b1, b2⟩ := mergedBits_n (n := n) hG hC hn hN hi hb
  have hX := df_V hG (a := 0) (b := b) hi0 8 0 (by omega) hG.1
  unfold M_X4_byteSlipChange chs
  rw [a1, Option.bind_some]
  rcases hs with ⟨rfl, rfl⟩ | ⟨rfl, rfl⟩ | ⟨rfl, rfl⟩ | ⟨rfl, rfl⟩
  · rw [if_pos (show nI 2 = 2 from rfl), if_pos rfl]
  · have m1 := hC.1 _ _ hX (df_V hG (a := b) (b := 0) hi 8 0 (by omega) hG.1)
    rw [if_neg (show ¬ nI 3 = 2 by decide), if_neg (show ¬ nI 3 = 5 by decide), b2, Option.bind_some, m1, if_neg (by omega), if_neg (by omega), df_start hG hi 8 _ (by omega) hX]
    rfl
  · have m1 := hC.1 _ _ hX (df_V hG (a := b) (b := 0) hi 8 0 (by omega) hG.1)
    rw [if_neg (show ¬ nI 4 = 2 by decide), if_neg (show ¬ nI 4 = 5 by decide), b2, Option.bind_some, m1, if_neg (by omega), if_neg (by omega), df_start hG hi 8 _ (by omega) hX]
    rfl
  · have m1 := hC.1 _ _ hX (df_V hG (a := 0) (b := b) hi 8 0 (by omega) hG.1)
    rw [if_neg (show ¬ nI 5 = 2 by decide), if_pos (show nI 5 = 5 from rfl), b1, Option.bind_some, m1, if_neg (by omega), if_pos rfl, df_start hG hi 8 _ (by omega) hX]
    rfl
theorem chs_V (hG : GP mg V rise fall N) {slip g i a b : Nat} (hi : 8 * (i + g) + 8 ≤ N) : V (chs mg rise fall slip g i a b) := by
  have hX := df_V hG (a := a) (b := b) (show 8 * i + 8 ≤ N by omega) 8 0 (by omega) hG.1
  unfold chs
  split
  · exact hX
  · split
    · exact df_V hG hi 8 _ (by omega) hX
    · exact df_V hG hi 8 _ (by omega) hX
theorem keepB_n {n slip g nb i b : Nat} (hn : 1000 < n) (hs : slip = 2 ∧ g = 0 ∨ slip = 3 ∧ g = 1 ∨ slip = 4 ∧ g = 2 ∨ slip = 5 ∧ g = 1) (hi : i + g < 8) (b0 a0 : Nat → Int32) (ks : Int32) :
    ∃ b' a', M_X4_keepByteSlip n (nI slip) (nI nb) (nI i) (nI (i + g)) (nI b) b0 a0 ks = some (b', a', nI nb) ∧ ∀ t, t < 8 → b' t = nI (yb slip g i b t) ∧ a' t = nI (ya slip g i b t) := by
  unfold M_X4_keepByteSlip M_X4_keepZeros
  obtain ⟨z1, hz1, hz1'⟩ := fill_n (n := n) (L := 8) (by omega) (by omega) 0 b0
  obtain ⟨z2, hz2, hz2'⟩ := fill_n (n := n) (L := 8) (by omega) (by omega) 0 a0
  rw [hz1, Option.bind_some, hz2, Option.bind_some, Option.bind_some, if_neg (nI_in (show i < 8 by omega) (by omega)), if_neg (nI_in (show i + g < 8 by omega) (by omega)), if_neg (nI_in (show i + g < 8 by omega) (by omega)), nI_clamp (n := i) (by omega), nI_clamp (n := i + g) (by omega)]
  have ups : ∀ (f : Nat → Int32) (p v t : Nat), upd f p (nI v) t = if t = p then nI v else f t := fun f p v t => rfl
  rcases hs with ⟨rfl, rfl⟩ | ⟨rfl, rfl⟩ | ⟨rfl, rfl⟩ | ⟨rfl, rfl⟩
  · rw [if_neg (show ¬ nI 2 = 5 by decide), if_pos (show nI 2 = 2 from rfl)]
    refine ⟨_, _, rfl, fun t ht => ⟨?_, ?_⟩⟩
    · unfold yb
      rw [if_neg (by omega)]
      exact hz1' t ht
    · unfold ya
      rw [ups, show (z1, z2, nI nb).2.1 t = 0 from hz2' t ht]
      by_cases e : t = i
      · rw [if_pos e, if_pos e]
      · rw [if_neg e, if_neg e, if_neg (by omega)]; rfl
  · rw [if_neg (show ¬ nI 3 = 5 by decide), if_neg (show ¬ nI 3 = 2 by decide)]
    refine ⟨_, _, rfl, fun t ht => ⟨?_, ?_⟩⟩
    · unfold yb
      rw [ups, show (z1, z2, nI nb).1 t = 0 from hz1' t ht]
      by_cases e : t = i + 1
      · rw [if_pos e, if_pos (by omega)]
      · rw [if_neg e, if_neg (by omega)]; rfl
    · unfold ya
      rw [ups, show (z1, z2, nI nb).2.1 t = 0 from hz2' t ht]
      by_cases e : t = i
      · rw [if_pos e, if_pos e]
      · rw [if_neg e, if_neg e, if_neg (by omega)]; rfl
  · rw [if_neg (show ¬ nI 4 = 5 by decide), if_neg (show ¬ nI 4 = 2 by decide)]
    refine ⟨_, _, rfl, fun t ht => ⟨?_, ?_⟩⟩
    · unfold yb
      rw [ups, show (z1, z2, nI nb).1 t = 0 from hz1' t ht]
      by_cases e : t = i + 2
      · rw [if_pos e, if_pos (by omega)]
      · rw [if_neg e, if_neg (by omega)]; rfl
    · unfold ya
      rw [ups, show (z1, z2, nI nb).2.1 t = 0 from hz2' t ht]
      by_cases e : t = i
      · rw [if_pos e, if_pos e]
      · rw [if_neg e, if_neg e, if_neg (by omega)]; rfl
  · rw [if_pos (show nI 5 = 5 from rfl)]
    refine ⟨_, _, rfl, fun t ht => ⟨?_, ?_⟩⟩
    · unfold yb
      rw [if_neg (by omega)]
      exact hz1' t ht
    · unfold ya
      rw [ups, ups, show (z1, z2, nI nb).2.1 t = 0 from hz2' t ht]
      by_cases e : t = i
      · rw [if_pos e, if_pos e, if_neg (by omega)]
      · rw [if_neg e, if_neg e]
        by_cases e2 : t = i + 1
        · rw [if_pos e2, if_pos ⟨rfl, e2⟩]
        · rw [if_neg e2, if_neg (by omega)]; rfl
theorem bytes_C (hG : GP mg V rise fall N) (hC : CI sd mg V rise fall N ris fal xr) (hn : 1000 < n) {slip g nb : Nat} (hNb : N = 8 * nb) (hN : N ≤ 64) (hs : slip = 2 ∧ g = 0 ∨ slip = 3 ∧ g = 1 ∨ slip = 4 ∧ g = 2 ∨ slip = 5 ∧ g = 1) (b0 a0 : Nat → Int32) (ks : Int32) :
    ∃ res b' a' ks', M_X4_findByteSlip n (nI slip) (nI nb) ris fal b0 a0 ks sd = some (res, b', a', ks') ∧ OutY (yAll mg rise fall slip g nb) slip g nb ks b0 a0 res ks' b' a' := by
  have hB := hG.2.2.2.2.2.2
  have inner : ∀ i, i + g < nb → ∃ out, lp (fun x : Int32 => M_X4_findByteSlip_b36 n (nI slip) (nI nb) (nI g) (nI i) ris fal b0 a0 ks sd x) n (1 : Int32) = some out ∧
      ((fS (fun b => yL mg rise fall slip g i b) 256 = none ∧ out = Sum.inl ()) ∨ (∃ z, fS (fun b => yL mg rise fall slip g i b) 256 = some z ∧ ∃ b' a', out = Sum.inr (1, b', a', nI nb) ∧ ∀ t, t < 8 → b' t = nI (yb slip g z.1 z.2 t) ∧ a' t = nI (ya slip g z.1 z.2 t))) := by
    intro i hi
    rw [fS_shift (S := fun b => yL mg rise fall slip g i b) (by show yL mg rise fall slip g i 0 = none; unfold yL; rw [if_neg (by omega)]) 255]
    refine lp_sr (σ := Int32) (ρ := Unit ⊕ (Int32 × (Nat → Int32) × (Nat → Int32) × Int32)) (fun p x => x = nI (p + 1)) (fun p => yL mg rise fall slip g i (p + 1)) (fun z r => ∃ b' a', r = Sum.inr (1, b', a', nI nb) ∧ ∀ t, t < 8 → b' t = nI (yb slip g z.1 z.2 t) ∧ a' t = nI (ya slip g z.1 z.2 t)) (fun r => r = Sum.inl ()) 255 ?_ ?_ n _ (by omega) rfl
    · rintro x rfl
      refine ⟨Sum.inl (), ?_, rfl⟩
      unfold M_X4_findByteSlip_b36
      rw [if_pos (show (255 : Int32) < nI (255 + 1) by decide)]
    · rintro p x hp rfl
      have hc := chg_C (n := n) hG hC hn hN (i := i) (b := p + 1) hs (by omega) (by omega)
      have hlt := hB _ (chs_V hG (slip := slip) (g := g) (i := i) (a := 0) (b := p + 1) (by omega))
      unfold M_X4_findByteSlip_b36 yL
      rw [if_neg (show ¬ (255 : Int32) < nI (p + 1) by rw [i_255, nI_ltI (by omega) (by omega)]; omega), nI_add, hc, Option.bind_some]
      by_cases e : chs mg rise fall slip g i 0 (p + 1) = 0
      · right
        obtain ⟨b', a', q1, q2⟩ := keepB_n (n := n) (nb := nb) (i := i) (b := p + 1) hn hs (by omega) b0 a0 ks
        rw [if_pos (show lN (chs mg rise fall slip g i 0 (p + 1)) = 0 by rw [e]; rfl), q1, if_pos ⟨by omega, e⟩]
        exact ⟨_, _, rfl, rfl, b', a', rfl, q2⟩
      · left
        rw [if_neg (show ¬ lN (chs mg rise fall slip g i 0 (p + 1)) = 0 by rw [l_0, pk_lEQ (by omega) (by omega)]; exact e), if_neg (fun h => e h.2), nI_1]
        exact ⟨rfl, _, rfl, rfl⟩
  have outer : ∃ out, lp (fun x : Int32 => M_X4_findByteSlip_b24 n (nI slip) (nI nb) (nI g) ris fal b0 a0 ks sd x) n (0 : Int32) = some out ∧
      ((yAll mg rise fall slip g nb = none ∧ out = Sum.inl ()) ∨ (∃ z, yAll mg rise fall slip g nb = some z ∧ ∃ b' a', out = Sum.inr (1, b', a', nI nb) ∧ ∀ t, t < 8 → b' t = nI (yb slip g z.1 z.2 t) ∧ a' t = nI (ya slip g z.1 z.2 t))) := by
    refine lp_sr (σ := Int32) (ρ := Unit ⊕ (Int32 × (Nat → Int32) × (Nat → Int32) × Int32)) (fun p x => x = nI p) (fun i => fS (fun b => yL mg rise fall slip g i b) 256) (fun z r => ∃ b' a', r = Sum.inr (1, b', a', nI nb) ∧ ∀ t, t < 8 → b' t = nI (yb slip g z.1 z.2 t) ∧ a' t = nI (ya slip g z.1 z.2 t)) (fun r => r = Sum.inl ()) (nb - g) ?_ ?_ n _ (by omega) rfl
    · rintro x rfl
      refine ⟨Sum.inl (), ?_, rfl⟩
      unfold M_X4_findByteSlip_b24
      rw [nI_add, if_pos (show nI nb ≤ nI (nb - g + g) by rw [nI_leI (by omega) (by omega)]; omega)]
    · rintro i x hi rfl
      obtain ⟨out, k1, k2⟩ := inner i (by omega)
      unfold M_X4_findByteSlip_b24
      rw [if_neg (show ¬ nI nb ≤ nI i + nI g by rw [nI_add, nI_leI (by omega) (by omega)]; omega), k1]
      dsimp only [Option.bind_some]
      rcases k2 with ⟨k2, rfl⟩ | ⟨z, k2, b', a', rfl, k3⟩
      · left
        refine ⟨k2, _, rfl, ?_⟩
        rw [nI_1]
      · right
        exact ⟨z, _, k2, rfl, b', a', rfl, k3⟩
  obtain ⟨out, k1, k2⟩ := outer
  unfold M_X4_findByteSlip
  have fin : ∀ o, o = out → ∃ res b' a' ks', ((some o).bind (Sum.elim (fun o11 => some (0, b0, a0, ks)) (fun r => some r)) : Option (Int32 × (Nat → Int32) × (Nat → Int32) × Int32)) = some (res, b', a', ks') ∧ OutY (yAll mg rise fall slip g nb) slip g nb ks b0 a0 res ks' b' a' := by
    rintro o rfl
    rcases k2 with ⟨k2, rfl⟩ | ⟨z, k2, b', a', rfl, k3⟩
    · rw [k2]
      exact ⟨_, _, _, _, rfl, rfl, rfl, rfl, rfl⟩
    · rw [k2]
      exact ⟨_, _, _, _, rfl, rfl, rfl, k3⟩
  rcases hs with ⟨rfl, rfl⟩ | ⟨rfl, rfl⟩ | ⟨rfl, rfl⟩ | ⟨rfl, rfl⟩
  · rw [if_pos (show nI 2 = 2 from rfl)]
    have k1' : lp (fun x : Int32 => M_X4_findByteSlip_b24 n (nI 2) (nI nb) 0 ris fal b0 a0 ks sd x) n (0 : Int32) = some out := k1
    rw [k1']
    exact fin out rfl
  · rw [if_neg (show ¬ nI 3 = 2 by decide), if_neg (show ¬ nI 3 = 4 by decide)]
    have k1' : lp (fun x : Int32 => M_X4_findByteSlip_b24 n (nI 3) (nI nb) 1 ris fal b0 a0 ks sd x) n (0 : Int32) = some out := k1
    rw [k1']
    exact fin out rfl
  · rw [if_neg (show ¬ nI 4 = 2 by decide), if_pos (show nI 4 = 4 from rfl)]
    have k1' : lp (fun x : Int32 => M_X4_findByteSlip_b24 n (nI 4) (nI nb) 2 ris fal b0 a0 ks sd x) n (0 : Int32) = some out := k1
    rw [k1']
    exact fin out rfl
  · rw [if_neg (show ¬ nI 5 = 2 by decide), if_neg (show ¬ nI 5 = 4 by decide)]
    have k1' : lp (fun x : Int32 => M_X4_findByteSlip_b24 n (nI 5) (nI nb) 1 ris fal b0 a0 ks sd x) n (0 : Int32) = some out := k1
    rw [k1']
    exact fin out rfl
end YC
section YM
variable {mg : Nat → Nat → Nat} {V : Nat → Prop} {rise fall : Nat → Nat} {N : Nat} {xr : Bool} {n j : Nat} {kd mo : Nat → Int32} {pA pB : Nat → Int64} {Rl : Nat → Int64 → Int64 → Nat → Prop}
theorem alter_n (hM : MI j kd mo pA pB mg V rise fall N xr Rl) (hn : 1000 < n) (hN : N ≤ 64) {i a b k x : Nat} {A B : Int64} (hi : 8 * i + 8 ≤ N) (ha : a < 256) (hb : b < 256) (hk : k ≤ 8) (hR : Rl k A B x) :
    ∃ A' B' k', k' ≤ k + 8 ∧ M_X12_alter n (nI j) (nI i) (nI a) (nI b) kd pA pB A B = some (A', B') ∧ Rl k' A' B' (df mg rise fall i a b 8 x) := by
  unfold M_X12_alter
  obtain ⟨⟨r0, r1⟩, h1, k', h2, h3⟩ := lp_run (f := fun y : (Int32 × Int64 × Int64) => M_X12_alter_b3 n (nI j) (nI i) (nI a) (nI b) kd pA pB y.1 y.2.1 y.2.2)
    (fun t y => y.1 = nI t ∧ ∃ k', k' ≤ k + t ∧ Rl k' y.2.1 y.2.2 (df mg rise fall i a b t x)) (fun r => ∃ k', k' ≤ k + 8 ∧ Rl k' r.1 r.2 (df mg rise fall i a b 8 x)) 8
    (by
      rintro t ⟨y0, y1, y2⟩ ht ⟨e0, k', hk', hR'⟩
      replace e0 : y0 = nI t := e0
      replace hR' : Rl k' y1 y2 (df mg rise fall i a b t x) := hR'
      subst e0
      left
      have e7 : (7 : Int32) - nI t = nI (7 - t) := pk_sub (a := 7) (by omega)
      show ∃ y, M_X12_alter_b3 n (nI j) (nI i) (nI a) (nI b) kd pA pB (nI t) y1 y2 = some (.inl y) ∧ y.1 = nI (t + 1) ∧ ∃ k', k' ≤ k + (t + 1) ∧ Rl k' y.2.1 y.2.2 (if a.testBit (7 - t) = b.testBit (7 - t) then df mg rise fall i a b t x else mg (df mg rise fall i a b t x) (if a.testBit (7 - t) then fall (8 * i + t) else rise (8 * i + t)))
      unfold M_X12_alter_b3
      rw [if_neg (show ¬ (8 : Int32) ≤ nI t by rw [i_8, nI_leI (by omega) (by omega)]; omega), e7, bit_n (by omega) (by omega), bit_n (by omega) (by omega), i_8, pk_mul, nI_add, nI_1]
      obtain ⟨A', B', q1, q2⟩ := hM.2.1 k' y1 y2 _ (8 * i + t) (a.testBit (7 - t)) (by omega) hR' (by omega)
      cases hat : a.testBit (7 - t) with
      | true =>
        rw [hat] at q1 q2
        cases hbt : b.testBit (7 - t) with
        | true =>
          rw [if_pos rfl, if_pos rfl]
          exact ⟨_, rfl, rfl, k', by omega, hR'⟩
        | false =>
          have q1' : M_X12_turn (nI j) (nI (8 * i + t)) 1 kd pA pB y1 y2 = some (A', B') := q1
          rw [if_neg (show ¬ nI true.toNat = nI false.toNat by decide), if_pos (show nI true.toNat = 1 from rfl), q1', if_neg (by decide)]
          exact ⟨_, rfl, rfl, k' + 1, by omega, q2⟩
      | false =>
        rw [hat] at q1 q2
        cases hbt : b.testBit (7 - t) with
        | true =>
          have q1' : M_X12_turn (nI j) (nI (8 * i + t)) 0 kd pA pB y1 y2 = some (A', B') := q1
          rw [if_neg (show ¬ nI false.toNat = nI true.toNat by decide), if_neg (show ¬ nI false.toNat = 1 by decide), q1', if_neg (by decide)]
          exact ⟨_, rfl, rfl, k' + 1, by omega, q2⟩
        | false =>
          rw [if_pos rfl, if_pos rfl]
          exact ⟨_, rfl, rfl, k', by omega, hR'⟩)
    (by
      rintro ⟨y0, y1, y2⟩ ⟨e0, hR'⟩
      replace e0 : y0 = nI 8 := e0
      subst e0
      refine ⟨(y1, y2), ?_, hR'⟩
      show M_X12_alter_b3 n (nI j) (nI i) (nI a) (nI b) kd pA pB (nI 8) y1 y2 = _
      unfold M_X12_alter_b3
      rw [if_pos (show (8 : Int32) ≤ nI 8 by decide)]) n 0 ((0 : Int32), A, B) (by omega) (by omega) ⟨rfl, k, by omega, hR⟩
  exact ⟨r0, r1, k', h2, lp_b h1 rfl, h3⟩
theorem bytes_M (hM : MI j kd mo pA pB mg V rise fall N xr Rl) (hn : 1000 < n) {slip g nb : Nat} (hNb : N = 8 * nb) (hN : N ≤ 64) (hH : Hred mg rise fall nb) (hs : slip = 2 ∧ g = 0 ∨ slip = 3 ∧ g = 1 ∨ slip = 4 ∧ g = 2 ∨ slip = 5 ∧ g = 1) (ks : Int32) (b0 a0 : Nat → Int32) (A0 B0 : Int64) :
    ∃ res ks' b' a' rest, M_X12_passesBytes n (nI j) (nI slip) (nI nb) kd mo ks b0 a0 pA pB A0 B0 = some (res, ks', b', a', rest) ∧ OutY (yAll mg rise fall slip g nb) slip g nb ks b0 a0 res ks' b' a' := by
  have ups : ∀ (f : Nat → Int32) (p v t : Nat), upd f p (nI v) t = if t = p then nI v else f t := fun f p v t => rfl
  -- one pair of bytes
  have step : ∀ i a b A B, i + g < nb → a < 256 → b < 256 → a ≠ b → ∃ A' B', (chs mg rise fall slip g i a b ≠ 0 ∧ M_X12_passesBytes_b47 n (nI j) (nI slip) (nI nb) (nI g) (nI i) (nI a) kd mo ks b0 a0 pA pB (nI b) A B = some (Sum.inl (nI (b + 1), A', B'))) ∨
      (chs mg rise fall slip g i a b = 0 ∧ ∃ b' a', M_X12_passesBytes_b47 n (nI j) (nI slip) (nI nb) (nI g) (nI i) (nI a) kd mo ks b0 a0 pA pB (nI b) A B = some (Sum.inr (Sum.inr (1, nI nb, b', a', A', B'))) ∧ (a = 0 → ∀ t, t < 8 → b' t = nI (yb slip g i b t) ∧ a' t = nI (ya slip g i b t))) := by
    intro i a b A B hi ha hb hab
    obtain ⟨A1, B1, k1, hk1, q1, q2⟩ := alter_n (n := n) (i := i) (a := a) (b := b) (k := 0) (x := 0) hM hn hN (by omega) ha hb (by omega) hM.1
    obtain ⟨z1, z2, z3, z4⟩ := beginKept_n (n := n) (nb := nb) hn ks b0 a0
    unfold M_X12_passesBytes_b47
    rw [if_neg (show ¬ (256 : Int32) ≤ nI b by rw [i_256, nI_leI (by omega) (by omega)]; omega), if_neg (show ¬ nI a = nI b by rw [nI_eq (by omega) (by omega)]; exact hab), q1, nI_add, nI_1]
    dsimp only [Option.bind_some]
    have nix : ¬ (nI i < 0 ∨ 8 ≤ (nI i).toNatClampNeg) := nI_in (show i < 8 by omega) (by omega)
    have nixg : ¬ (nI (i + g) < 0 ∨ 8 ≤ (nI (i + g)).toNatClampNeg) := nI_in (show i + g < 8 by omega) (by omega)
    by_cases g0 : g = 0
    · have hsl : slip = 2 := by omega
      subst g0
      subst hsl
      have hch : chs mg rise fall 2 0 i a b = df mg rise fall i a b 8 0 := by unfold chs; rw [if_pos rfl]
      have q3 := hM.2.2.1 k1 A1 B1 _ (by omega) q2
      rw [← hch] at q3
      rw [if_neg (show ¬ nI 2 = 5 by decide), if_neg (show ¬ nI 2 = 5 by decide), if_pos (show nI 0 ≤ 0 by decide), q3]
      dsimp only [Option.bind_some]
      by_cases e : chs mg rise fall 2 0 i a b = 0
      · rw [if_pos e, if_neg one_ne, z3]
        dsimp only [Option.bind_some]
        rw [if_neg nix, if_neg nix, if_pos (show nI 0 ≤ 0 by decide), nI_clamp (n := i) (by omega)]
        refine ⟨A1, B1, Or.inr ⟨e, _, _, rfl, fun ha0 t ht => ?_⟩⟩
        subst ha0
        obtain ⟨y1, y2⟩ := z4 t ht
        rw [ups, ups, y1, y2]
        unfold yb ya
        rw [if_neg (show ¬ ((0 : Nat) ≠ 0 ∧ (2 : Nat) ≠ 5 ∧ t = i + 0) by omega)]
        refine ⟨?_, ?_⟩
        · split <;> rfl
        · by_cases et : t = i
          · rw [if_pos et, if_pos et]
          · rw [if_neg et, if_neg et, if_neg (by omega)]; rfl
      · rw [if_neg e, if_pos z_eq]
        exact ⟨A1, B1, Or.inl ⟨e, rfl⟩⟩
    · have gle : ¬ nI g ≤ 0 := by rw [i_0, nI_leI (by omega) (by omega)]; omega
      by_cases h5 : slip = 5
      · subst h5
        obtain ⟨A2, B2, k2, hk2, q4, q5⟩ := alter_n (n := n) (i := i + g) (a := a) (b := b) hM hn hN (by omega) ha hb (by omega) q2
        have hch : chs mg rise fall 5 g i a b = df mg rise fall (i + g) a b 8 (df mg rise fall i a b 8 0) := by unfold chs; rw [if_neg g0, if_pos rfl]
        have q3 := hM.2.2.1 k2 A2 B2 _ (by omega) q5
        rw [← hch] at q3
        rw [if_pos (show nI 5 = 5 from rfl), if_pos (show nI 5 = 5 from rfl), if_neg gle, q4]
        dsimp only [Option.bind_some]
        rw [q3]
        dsimp only [Option.bind_some]
        by_cases e : chs mg rise fall 5 g i a b = 0
        · rw [if_pos e, if_neg one_ne, z3]
          dsimp only [Option.bind_some]
          rw [if_neg nix, if_neg nix, if_neg gle, if_neg nixg, if_neg nixg, nI_clamp (n := i) (by omega), nI_clamp (n := i + g) (by omega)]
          refine ⟨A2, B2, Or.inr ⟨e, _, _, rfl, fun ha0 t ht => ?_⟩⟩
          subst ha0
          obtain ⟨y1, y2⟩ := z4 t ht
          rw [ups, ups, ups, ups, y1, y2]
          unfold yb ya
          rw [if_neg (show ¬ (g ≠ 0 ∧ (5 : Nat) ≠ 5 ∧ t = i + g) by omega)]
          refine ⟨?_, ?_⟩
          · split <;> (try split) <;> rfl
          · by_cases et : t = i
            · rw [if_neg (show ¬ t = i + g by omega), if_pos et, if_pos et]
            · rw [if_neg et, if_neg et]
              by_cases e2 : t = i + g
              · rw [if_pos e2, if_pos ⟨rfl, e2⟩]
              · rw [if_neg e2, if_neg (fun h => e2 h.2)]; rfl
        · rw [if_neg e, if_pos z_eq]
          exact ⟨A2, B2, Or.inl ⟨e, rfl⟩⟩
      · obtain ⟨A2, B2, k2, hk2, q4, q5⟩ := alter_n (n := n) (i := i + g) (a := b) (b := a) hM hn hN (by omega) hb ha (by omega) q2
        have hch : chs mg rise fall slip g i a b = df mg rise fall (i + g) b a 8 (df mg rise fall i a b 8 0) := by unfold chs; rw [if_neg g0, if_neg h5]
        have q3 := hM.2.2.1 k2 A2 B2 _ (by omega) q5
        rw [← hch] at q3
        have ns : ¬ nI slip = 5 := by rw [i_5, nI_eq (by omega) (by omega)]; exact h5
        rw [if_neg ns, if_neg ns, if_neg gle, q4]
        dsimp only [Option.bind_some]
        rw [q3]
        dsimp only [Option.bind_some]
        by_cases e : chs mg rise fall slip g i a b = 0
        · rw [if_pos e, if_neg one_ne, z3]
          dsimp only [Option.bind_some]
          rw [if_neg nix, if_neg nix, if_neg gle, if_neg nixg, if_neg nixg, nI_clamp (n := i) (by omega), nI_clamp (n := i + g) (by omega)]
          refine ⟨A2, B2, Or.inr ⟨e, _, _, rfl, fun ha0 t ht => ?_⟩⟩
          subst ha0
          obtain ⟨y1, y2⟩ := z4 t ht
          rw [ups, ups, ups, ups, y1, y2]
          unfold yb ya
          refine ⟨?_, ?_⟩
          · by_cases e2 : t = i + g
            · rw [if_pos e2, if_pos ⟨g0, h5, e2⟩]
            · rw [if_neg e2, if_neg (show ¬ (g ≠ 0 ∧ slip ≠ 5 ∧ t = i + g) from fun h => e2 h.2.2)]
              split <;> rfl
          · by_cases et : t = i
            · rw [if_neg (show ¬ t = i + g by omega), if_pos et, if_pos et]
            · rw [if_neg et, if_neg et, if_neg (show ¬ (slip = 5 ∧ t = i + g) from fun h => h5 h.1)]
              split <;> rfl
        · rw [if_neg e, if_pos z_eq]
          exact ⟨A2, B2, Or.inl ⟨e, rfl⟩⟩
  have noHit : ∀ i a b, i + g < nb → a < 256 → b < 256 → a ≠ b → fS (fun b => yL mg rise fall slip g i b) 256 = none → chs mg rise fall slip g i a b ≠ 0 := by
    intro i a b hi ha hb hab hn0 h0
    obtain ⟨d, hd1, hd2, hd3⟩ := hH slip g i a b hi ha hb hab h0
    have := fS_inv 256 hn0 d hd2
    have h9 : yL mg rise fall slip g i d = none := this
    unfold yL at h9
    rw [if_pos ⟨hd1, hd3⟩] at h9
    cases h9
  -- the loop over b
  have lb : ∀ i a A B, i + g < nb → a < 256 → (1 ≤ a → fS (fun b => yL mg rise fall slip g i b) 256 = none) → ∃ out, lp (fun x : (Int32 × Int64 × Int64) => M_X12_passesBytes_b47 n (nI j) (nI slip) (nI nb) (nI g) (nI i) (nI a) kd mo ks b0 a0 pA pB x.1 x.2.1 x.2.2) n ((0 : Int32), A, B) = some out ∧
      ((fS (fun b => if a = 0 then yL mg rise fall slip g i b else none) 256 = none ∧ ∃ A' B', out = Sum.inl (A', B')) ∨ (∃ z, fS (fun b => if a = 0 then yL mg rise fall slip g i b else none) 256 = some z ∧ ∃ b' a' A' B', out = Sum.inr (1, nI nb, b', a', A', B') ∧ ∀ t, t < 8 → b' t = nI (yb slip g z.1 z.2 t) ∧ a' t = nI (ya slip g z.1 z.2 t))) := by
    intro i a A B hi ha hnone
    refine lp_sr (σ := Int32 × Int64 × Int64) (ρ := (Int64 × Int64) ⊕ (Int32 × Int32 × (Nat → Int32) × (Nat → Int32) × Int64 × Int64)) (fun b x => x.1 = nI b) (fun b => if a = 0 then yL mg rise fall slip g i b else none) (fun z r => ∃ b' a' A' B', r = Sum.inr (1, nI nb, b', a', A', B') ∧ ∀ t, t < 8 → b' t = nI (yb slip g z.1 z.2 t) ∧ a' t = nI (ya slip g z.1 z.2 t)) (fun r => ∃ A' B', r = Sum.inl (A', B')) 256 ?_ ?_ n _ (by omega) rfl
    · rintro ⟨x0, x1, x2⟩ e0
      replace e0 : x0 = nI 256 := e0
      subst e0
      refine ⟨Sum.inl (x1, x2), ?_, x1, x2, rfl⟩
      show M_X12_passesBytes_b47 n (nI j) (nI slip) (nI nb) (nI g) (nI i) (nI a) kd mo ks b0 a0 pA pB (nI 256) x1 x2 = _
      unfold M_X12_passesBytes_b47
      rw [if_pos (show (256 : Int32) ≤ nI 256 by decide)]
    · rintro b ⟨x0, x1, x2⟩ hb e0
      replace e0 : x0 = nI b := e0
      subst e0
      show (_ ∧ ∃ y, M_X12_passesBytes_b47 n (nI j) (nI slip) (nI nb) (nI g) (nI i) (nI a) kd mo ks b0 a0 pA pB (nI b) x1 x2 = some (.inl y) ∧ y.1 = nI (b + 1)) ∨ (∃ z r, _ ∧ M_X12_passesBytes_b47 n (nI j) (nI slip) (nI nb) (nI g) (nI i) (nI a) kd mo ks b0 a0 pA pB (nI b) x1 x2 = some (.inr r) ∧ _)
      by_cases hab : a = b
      · left
        refine ⟨?_, (nI (b + 1), x1, x2), ?_, rfl⟩
        · by_cases ha0 : a = 0
          · rw [if_pos ha0, ← hab, ha0]
            unfold yL
            rw [if_neg (by omega)]
          · rw [if_neg ha0]
        · unfold M_X12_passesBytes_b47
          rw [if_neg (show ¬ (256 : Int32) ≤ nI b by rw [i_256, nI_leI (by omega) (by omega)]; omega), if_pos (show nI a = nI b by rw [hab]), nI_1]
      · obtain ⟨A', B', hst⟩ := step i a b x1 x2 hi ha hb hab
        rcases hst with ⟨hne, hst⟩ | ⟨h0, b', a', hst, hkp⟩
        · left
          refine ⟨?_, _, hst, rfl⟩
          by_cases ha0 : a = 0
          · rw [if_pos ha0]
            unfold yL
            rw [ha0] at hne
            rw [if_neg (fun h => hne h.2)]
          · rw [if_neg ha0]
        · right
          by_cases ha0 : a = 0
          · refine ⟨(i, b), _, ?_, hst, b', a', A', B', rfl, hkp ha0⟩
            rw [if_pos ha0]
            unfold yL
            rw [ha0] at h0
            rw [if_pos ⟨by omega, h0⟩]
          · exact absurd h0 (noHit i a b hi ha hb hab (hnone (by omega)))
  -- the loop over a
  have la : ∀ i A B, i + g < nb → ∃ out, lp (fun x : (Int32 × Int64 × Int64) => M_X12_passesBytes_b36 n (nI j) (nI slip) (nI nb) (nI g) (nI i) kd mo ks b0 a0 pA pB x.1 x.2.1 x.2.2) n ((0 : Int32), A, B) = some out ∧
      ((fS (fun b => yL mg rise fall slip g i b) 256 = none ∧ ∃ A' B', out = Sum.inl (A', B')) ∨ (∃ z, fS (fun b => yL mg rise fall slip g i b) 256 = some z ∧ ∃ b' a' A' B', out = Sum.inr (1, nI nb, b', a', A', B') ∧ ∀ t, t < 8 → b' t = nI (yb slip g z.1 z.2 t) ∧ a' t = nI (ya slip g z.1 z.2 t))) := by
    intro i A B hi
    have hfs : ∀ a, fS (fun b => if a = 0 then yL mg rise fall slip g i b else none) 256 = if a = 0 then fS (fun b => yL mg rise fall slip g i b) 256 else none := fun a => by
      by_cases ha0 : a = 0
      · rw [if_pos ha0]
        simp only [if_pos ha0]
      · rw [if_neg ha0]
        exact fS_n 256 (fun p _ => if_neg ha0)
    have hall : fS (fun a => if a = 0 then fS (fun b => yL mg rise fall slip g i b) 256 else none) 256 = fS (fun b => yL mg rise fall slip g i b) 256 := by
      cases hy : fS (fun b => yL mg rise fall slip g i b) 256 with
      | none => exact fS_n 256 (fun p _ => by split <;> rfl)
      | some z => exact fS_s (p := 0) (by rw [if_pos rfl]) (fun p' hp' => by omega) 256 (by omega)
    rw [← hall]
    refine lp_sr (σ := Int32 × Int64 × Int64) (ρ := (Int64 × Int64) ⊕ (Int32 × Int32 × (Nat → Int32) × (Nat → Int32) × Int64 × Int64)) (fun a x => x.1 = nI a ∧ (1 ≤ a → fS (fun b => yL mg rise fall slip g i b) 256 = none)) (fun a => if a = 0 then fS (fun b => yL mg rise fall slip g i b) 256 else none) (fun z r => ∃ b' a' A' B', r = Sum.inr (1, nI nb, b', a', A', B') ∧ ∀ t, t < 8 → b' t = nI (yb slip g z.1 z.2 t) ∧ a' t = nI (ya slip g z.1 z.2 t)) (fun r => ∃ A' B', r = Sum.inl (A', B')) 256 ?_ ?_ n _ (by omega) ⟨rfl, fun h => by omega⟩
    · rintro ⟨x0, x1, x2⟩ ⟨e0, -⟩
      replace e0 : x0 = nI 256 := e0
      subst e0
      refine ⟨Sum.inl (x1, x2), ?_, x1, x2, rfl⟩
      show M_X12_passesBytes_b36 n (nI j) (nI slip) (nI nb) (nI g) (nI i) kd mo ks b0 a0 pA pB (nI 256) x1 x2 = _
      unfold M_X12_passesBytes_b36
      rw [if_pos (show (256 : Int32) ≤ nI 256 by decide)]
    · rintro a ⟨x0, x1, x2⟩ ha ⟨e0, hnone⟩
      replace e0 : x0 = nI a := e0
      subst e0
      obtain ⟨out, k1, k2⟩ := lb i a x1 x2 hi ha hnone
      rw [hfs] at k2
      show (_ ∧ ∃ y, M_X12_passesBytes_b36 n (nI j) (nI slip) (nI nb) (nI g) (nI i) kd mo ks b0 a0 pA pB (nI a) x1 x2 = some (.inl y) ∧ y.1 = nI (a + 1) ∧ _) ∨ (∃ z r, _ ∧ M_X12_passesBytes_b36 n (nI j) (nI slip) (nI nb) (nI g) (nI i) kd mo ks b0 a0 pA pB (nI a) x1 x2 = some (.inr r) ∧ _)
      unfold M_X12_passesBytes_b36
      rw [if_neg (show ¬ (256 : Int32) ≤ nI a by rw [i_256, nI_leI (by omega) (by omega)]; omega), k1]
      dsimp only [Option.bind_some]
      rcases k2 with ⟨k2, A', B', rfl⟩ | ⟨z, k2, b', a', A', B', rfl, k3⟩
      · left
        refine ⟨k2, _, rfl, nI_1 a, fun _ => ?_⟩
        by_cases ha0 : a = 0
        · rw [if_pos ha0] at k2; exact k2
        · exact hnone (by omega)
      · right
        exact ⟨z, _, k2, rfl, b', a', A', B', rfl, k3⟩
  -- the loop over i
  have li : ∃ out, lp (fun x : (Int32 × Int64 × Int64) => M_X12_passesBytes_b24 n (nI j) (nI slip) (nI nb) (nI g) kd mo ks b0 a0 pA pB x.1 x.2.1 x.2.2) n ((0 : Int32), A0, B0) = some out ∧
      ((yAll mg rise fall slip g nb = none ∧ ∃ A' B', out = Sum.inl (A', B')) ∨ (∃ z, yAll mg rise fall slip g nb = some z ∧ ∃ b' a' A' B', out = Sum.inr (1, nI nb, b', a', A', B') ∧ ∀ t, t < 8 → b' t = nI (yb slip g z.1 z.2 t) ∧ a' t = nI (ya slip g z.1 z.2 t))) := by
    refine lp_sr (σ := Int32 × Int64 × Int64) (ρ := (Int64 × Int64) ⊕ (Int32 × Int32 × (Nat → Int32) × (Nat → Int32) × Int64 × Int64)) (fun i x => x.1 = nI i) (fun i => fS (fun b => yL mg rise fall slip g i b) 256) (fun z r => ∃ b' a' A' B', r = Sum.inr (1, nI nb, b', a', A', B') ∧ ∀ t, t < 8 → b' t = nI (yb slip g z.1 z.2 t) ∧ a' t = nI (ya slip g z.1 z.2 t)) (fun r => ∃ A' B', r = Sum.inl (A', B')) (nb - g) ?_ ?_ n _ (by omega) rfl
    · rintro ⟨x0, x1, x2⟩ e0
      replace e0 : x0 = nI (nb - g) := e0
      subst e0
      refine ⟨Sum.inl (x1, x2), ?_, x1, x2, rfl⟩
      show M_X12_passesBytes_b24 n (nI j) (nI slip) (nI nb) (nI g) kd mo ks b0 a0 pA pB (nI (nb - g)) x1 x2 = _
      unfold M_X12_passesBytes_b24
      rw [nI_add, if_pos (show nI nb ≤ nI (nb - g + g) by rw [nI_leI (by omega) (by omega)]; omega)]
    · rintro i ⟨x0, x1, x2⟩ hi e0
      replace e0 : x0 = nI i := e0
      subst e0
      obtain ⟨out, k1, k2⟩ := la i x1 x2 (by omega)
      show (_ ∧ ∃ y, M_X12_passesBytes_b24 n (nI j) (nI slip) (nI nb) (nI g) kd mo ks b0 a0 pA pB (nI i) x1 x2 = some (.inl y) ∧ _) ∨ (∃ z r, _ ∧ M_X12_passesBytes_b24 n (nI j) (nI slip) (nI nb) (nI g) kd mo ks b0 a0 pA pB (nI i) x1 x2 = some (.inr r) ∧ _)
      unfold M_X12_passesBytes_b24
      rw [if_neg (show ¬ nI nb ≤ nI i + nI g by rw [nI_add, nI_leI (by omega) (by omega)]; omega), k1]
      dsimp only [Option.bind_some]
      rcases k2 with ⟨k2, A', B', rfl⟩ | ⟨z, k2, b', a', A', B', rfl, k3⟩
      · left
        exact ⟨k2, _, rfl, nI_1 i⟩
      · right
        exact ⟨z, _, k2, rfl, b', a', A', B', rfl, k3⟩
  obtain ⟨out, k1, k2⟩ := li
  unfold M_X12_passesBytes
  have fin : ∀ o, o = out → ∃ res ks' b' a' rest, ((some o).bind (Sum.elim (fun o98 => some (0, ks, b0, a0, o98.1, o98.2)) (fun r => some r)) : Option (Int32 × Int32 × (Nat → Int32) × (Nat → Int32) × Int64 × Int64)) = some (res, ks', b', a', rest) ∧ OutY (yAll mg rise fall slip g nb) slip g nb ks b0 a0 res ks' b' a' := by
    rintro o rfl
    rcases k2 with ⟨k2, A', B', rfl⟩ | ⟨z, k2, b', a', A', B', rfl, k3⟩
    · rw [k2]
      exact ⟨_, _, _, _, _, rfl, rfl, rfl, rfl, rfl⟩
    · rw [k2]
      exact ⟨_, _, _, _, _, rfl, rfl, rfl, k3⟩
  rcases hs with ⟨rfl, rfl⟩ | ⟨rfl, rfl⟩ | ⟨rfl, rfl⟩ | ⟨rfl, rfl⟩
  · rw [if_pos (show nI 2 = 2 from rfl)]
    have k1' : lp (fun x : (Int32 × Int64 × Int64) => M_X12_passesBytes_b24 n (nI j) (nI 2) (nI nb) 0 kd mo ks b0 a0 pA pB x.1 x.2.1 x.2.2) n ((0 : Int32), A0, B0) = some out := k1
    rw [k1']
    exact fin out rfl
  · rw [if_neg (show ¬ nI 3 = 2 by decide), if_neg (show ¬ nI 3 = 4 by decide)]
    have k1' : lp (fun x : (Int32 × Int64 × Int64) => M_X12_passesBytes_b24 n (nI j) (nI 3) (nI nb) 1 kd mo ks b0 a0 pA pB x.1 x.2.1 x.2.2) n ((0 : Int32), A0, B0) = some out := k1
    rw [k1']
    exact fin out rfl
  · rw [if_neg (show ¬ nI 4 = 2 by decide), if_pos (show nI 4 = 4 from rfl)]
    have k1' : lp (fun x : (Int32 × Int64 × Int64) => M_X12_passesBytes_b24 n (nI j) (nI 4) (nI nb) 2 kd mo ks b0 a0 pA pB x.1 x.2.1 x.2.2) n ((0 : Int32), A0, B0) = some out := k1
    rw [k1']
    exact fin out rfl
  · rw [if_neg (show ¬ nI 5 = 2 by decide), if_neg (show ¬ nI 5 = 4 by decide)]
    have k1' : lp (fun x : (Int32 × Int64 × Int64) => M_X12_passesBytes_b24 n (nI j) (nI 5) (nI nb) 1 kd mo ks b0 a0 pA pB x.1 x.2.1 x.2.2) n ((0 : Int32), A0, B0) = some out := k1
    rw [k1']
    exact fin out rfl
end YM
