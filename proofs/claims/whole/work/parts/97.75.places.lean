/-! Own rows: the changes of the places on both sides; the sums by exclusive or. -/
section PL
variable {n nb j : Nat} {kd mo bi tu : Nat → Int32} {po : Nat → Int64} {lo wo wt : Nat → Int32} {sd : SD}
theorem fillBC_n {rise fall : Nat → Nat} (hn : 1000 < n) (hnb : nb ≤ 8)
    (hch : ∀ q, q < 8 * nb → V_changed n sd (nI nb) (nI (q / 8)) (nI 0) (nI (128 / 2 ^ (q % 8))) = some (lN (rise q)) ∧ V_changed n sd (nI nb) (nI (q / 8)) (nI (128 / 2 ^ (q % 8))) (nI 0) = some (lN (fall q))) (r0 f0 : Nat → Int64) :
    ∃ ris fal, M_X4_fillBitChanges n (nI nb) r0 f0 sd = some (ris, fal) ∧ ∀ q, q < 8 * nb → ris q = lN (rise q) ∧ fal q = lN (fall q) := by
  have e8 : (8 : Int32) * nI nb = nI (8 * nb) := pk_mul 8 nb
  unfold M_X4_fillBitChanges
  obtain ⟨⟨a, b⟩, h1, h2⟩ := lp_run (f := fun x : (Int32 × (Nat → Int64) × (Nat → Int64)) => M_X4_fillBitChanges_b2 n (nI nb) sd x.1 x.2.1 x.2.2)
    (fun q x => x.1 = nI q ∧ ∀ i, i < q → x.2.1 i = lN (rise i) ∧ x.2.2 i = lN (fall i)) (fun r => ∀ i, i < 8 * nb → r.1 i = lN (rise i) ∧ r.2 i = lN (fall i)) (8 * nb)
    (by
      rintro q ⟨x0, x1, x2⟩ hq ⟨e0, hx⟩
      replace e0 : x0 = nI q := e0
      replace hx : ∀ i, i < q → x1 i = lN (rise i) ∧ x2 i = lN (fall i) := hx
      subst e0
      left
      obtain ⟨c1, c2⟩ := hch q hq
      refine ⟨(nI (q + 1), vp_updL x1 q (lN (rise q)), vp_updL x2 q (lN (fall q))), ?_, rfl, fun i hi => ?_⟩
      · show M_X4_fillBitChanges_b2 n (nI nb) sd (nI q) x1 x2 = _
        unfold M_X4_fillBitChanges_b2
        rw [e8, if_neg (show ¬ nI (8 * nb) ≤ nI q by rw [nI_leI (by omega) (by omega)]; omega), byteOf_n (by omega), bitOf_n (by omega)]
        generalize nI (128 / 2 ^ (q % 8)) = bt at c1 c2 ⊢
        have c1' : V_changed n sd (nI nb) (nI (q / 8)) 0 bt = some (lN (rise q)) := c1
        have c2' : V_changed n sd (nI nb) (nI (q / 8)) bt 0 = some (lN (fall q)) := c2
        generalize nI (q / 8) = by8 at c1' c2' ⊢
        rw [c1']
        dsimp only [Option.bind_some]
        rw [if_neg (nI_in (show q < 64 by omega) (by omega)), c2']
        dsimp only [Option.bind_some]
        rw [if_neg (nI_in (show q < 64 by omega) (by omega)), nI_clamp (n := q) (by omega), nI_1]
      · show vp_updL x1 q (lN (rise q)) i = lN (rise i) ∧ vp_updL x2 q (lN (fall q)) i = lN (fall i)
        by_cases e : i = q
        · rw [e, ul_at, ul_at]
          exact ⟨rfl, rfl⟩
        · rw [ul_ne _ _ e, ul_ne _ _ e]
          exact hx i (by have : i < q + 1 := hi; omega))
    (by
      rintro ⟨x0, x1, x2⟩ ⟨e0, hx⟩
      replace e0 : x0 = nI (8 * nb) := e0
      subst e0
      refine ⟨(x1, x2), ?_, hx⟩
      show M_X4_fillBitChanges_b2 n (nI nb) sd (nI (8 * nb)) x1 x2 = _
      unfold M_X4_fillBitChanges_b2
      rw [e8, if_pos (show nI (8 * nb) ≤ nI (8 * nb) by rw [nI_leI (by omega) (by omega)]; omega)]) n 0 ((0 : Int32), r0, f0) (by omega) (by omega) ⟨rfl, fun i hi => by omega⟩
  exact ⟨a, b, lp_b h1 rfl, h2⟩
theorem findPl_n {PA PB : Nat → Int64} (hn : 1000 < n) (hnb : nb ≤ 8)
    (hp : ∀ q, q < 8 * nb → M_X12_byteA n (nI j) (nI nb) (nI (q / 8)) (nI (128 / 2 ^ (q % 8))) kd bi tu po lo wo wt = some (PA q) ∧ M_X12_byteB (nI j) (nI nb) (nI (q / 8)) (nI (128 / 2 ^ (q % 8))) kd = some (PB q)) (a0 b0 : Nat → Int64) :
    ∃ pA pB, M_X12_findPlaces n (nI j) (nI nb) kd bi tu po lo wo wt a0 b0 = some (pA, pB) ∧ ∀ q, q < 8 * nb → pA q = PA q ∧ pB q = PB q := by
  have e8 : (8 : Int32) * nI nb = nI (8 * nb) := pk_mul 8 nb
  unfold M_X12_findPlaces
  obtain ⟨⟨a, b⟩, h1, h2⟩ := lp_run (f := fun x : (Int32 × (Nat → Int64) × (Nat → Int64)) => M_X12_findPlaces_b2 n (nI j) (nI nb) kd bi tu po lo wo wt x.1 x.2.1 x.2.2)
    (fun q x => x.1 = nI q ∧ ∀ i, i < q → x.2.1 i = PA i ∧ x.2.2 i = PB i) (fun r => ∀ i, i < 8 * nb → r.1 i = PA i ∧ r.2 i = PB i) (8 * nb)
    (by
      rintro q ⟨x0, x1, x2⟩ hq ⟨e0, hx⟩
      replace e0 : x0 = nI q := e0
      replace hx : ∀ i, i < q → x1 i = PA i ∧ x2 i = PB i := hx
      subst e0
      left
      obtain ⟨c1, c2⟩ := hp q hq
      have hq8 : nI q - nI q / 8 * 8 = nI (q % 8) := pk_rem (d := 8) (by omega) (by omega) (by omega)
      have hd8 : nI q / 8 = nI (q / 8) := pk_div (d := 8) (by omega) (by omega) (by omega)
      have hbt : ((128 : Int32) >>> (nI (q % 8) &&& 31)) = nI (128 / 2 ^ (q % 8)) := by
        simp (disch := omega) only [i_0, i_1, i_2, i_3, i_4, i_5, i_6, i_7, i_8, i_10, i_12, i_16, i_31, i_32, i_64, i_100, i_128, i_255, i_256, i_512, i_1000, i_1128, i_65535, i_65536, nI_add, pk_mul, pk_sub, n_and, n_or, n_xor, and_31, n_shl, n_shr, nI_ltI, nI_leI, nI_eq, nI_clamp, if_pos, if_neg, ite_true, ite_false, Option.bind_some, Option.elim_some, Option.elim_none, Sum.elim_inl, Sum.elim_inr]
      refine ⟨(nI (q + 1), vp_updL x1 q (PA q), vp_updL x2 q (PB q)), ?_, rfl, fun i hi => ?_⟩
      · show M_X12_findPlaces_b2 n (nI j) (nI nb) kd bi tu po lo wo wt (nI q) x1 x2 = _
        unfold M_X12_findPlaces_b2
        rw [e8, if_neg (show ¬ nI (8 * nb) ≤ nI q by rw [nI_leI (by omega) (by omega)]; omega), hq8, hd8, hbt, c1]
        dsimp only [Option.bind_some]
        rw [if_neg (nI_in (show q < 64 by omega) (by omega)), c2]
        dsimp only [Option.bind_some]
        rw [if_neg (nI_in (show q < 64 by omega) (by omega)), nI_clamp (n := q) (by omega), nI_1]
      · show vp_updL x1 q (PA q) i = PA i ∧ vp_updL x2 q (PB q) i = PB i
        by_cases e : i = q
        · rw [e, ul_at, ul_at]
          exact ⟨rfl, rfl⟩
        · rw [ul_ne _ _ e, ul_ne _ _ e]
          exact hx i (by have : i < q + 1 := hi; omega))
    (by
      rintro ⟨x0, x1, x2⟩ ⟨e0, hx⟩
      replace e0 : x0 = nI (8 * nb) := e0
      subst e0
      refine ⟨(x1, x2), ?_, hx⟩
      show M_X12_findPlaces_b2 n (nI j) (nI nb) kd bi tu po lo wo wt (nI (8 * nb)) x1 x2 = _
      unfold M_X12_findPlaces_b2
      rw [e8, if_pos (show nI (8 * nb) ≤ nI (8 * nb) by rw [nI_leI (by omega) (by omega)]; omega)]) n 0 ((0 : Int32), a0, b0) (by omega) (by omega) ⟨rfl, fun i hi => by omega⟩
  exact ⟨a, b, lp_b h1 rfl, h2⟩
/-- all that the search of slips wants of a kind of sum -/
def KD (n j nb : Nat) (sd : SD) (kd mo bi tu : Nat → Int32) (po : Nat → Int64) (lo wo wt : Nat → Int32) : Prop :=
  ∃ (mg : Nat → Nat → Nat) (V : Nat → Prop) (rise fall : Nat → Nat) (xr : Bool) (Rl : Nat → Int64 → Int64 → Nat → Prop), GP mg V rise fall (8 * nb) ∧ Hred mg rise fall nb ∧
    (∀ r0 f0, ∃ ris fal, M_X4_fillBitChanges n (nI nb) r0 f0 sd = some (ris, fal) ∧ CI sd mg V rise fall (8 * nb) ris fal xr) ∧
    (∀ a0 b0, ∃ pA pB, M_X12_findPlaces n (nI j) (nI nb) kd bi tu po lo wo wt a0 b0 = some (pA, pB) ∧ MI j kd mo pA pB mg V rise fall (8 * nb) xr Rl)
/-! by exclusive or -/
theorem df_xor {P : Nat → Nat} {i a b a' b' : Nat} (h : a ^^^ b = a' ^^^ b') : ∀ t x, df (· ^^^ ·) P P i a b t x = df (· ^^^ ·) P P i a' b' t x := by
  intro t
  induction t with
  | zero => intro x; rfl
  | succ t ih =>
    intro x
    show (if a.testBit (7 - t) = b.testBit (7 - t) then df (· ^^^ ·) P P i a b t x else (df (· ^^^ ·) P P i a b t x) ^^^ (if a.testBit (7 - t) then P (8 * i + t) else P (8 * i + t))) = (if a'.testBit (7 - t) = b'.testBit (7 - t) then df (· ^^^ ·) P P i a' b' t x else (df (· ^^^ ·) P P i a' b' t x) ^^^ (if a'.testBit (7 - t) then P (8 * i + t) else P (8 * i + t)))
    have hb := congrArg (fun z => z.testBit (7 - t)) h
    simp only [Nat.testBit_xor] at hb
    rw [ih, ite_self, ite_self]
    revert hb
    cases a.testBit (7 - t) <;> cases b.testBit (7 - t) <;> cases a'.testBit (7 - t) <;> cases b'.testBit (7 - t) <;> simp
theorem hred_xor (P : Nat → Nat) (nb : Nat) : Hred (· ^^^ ·) P P nb := by
  intro slip g i a b _ ha hb hab h
  refine ⟨a ^^^ b, ?_, Nat.xor_lt_two_pow (n := 8) ha hb, ?_⟩
  · rcases Nat.eq_zero_or_pos (a ^^^ b) with e | e
    · exact absurd (by
        have h9 : (a ^^^ b) ^^^ b = b := by rw [e, Nat.zero_xor]
        rw [Nat.xor_assoc, Nat.xor_self, Nat.xor_zero] at h9
        exact h9) hab
    · exact e
  · have e1 : a ^^^ b = 0 ^^^ (a ^^^ b) := (Nat.zero_xor _).symm
    have e2 : b ^^^ a = (a ^^^ b) ^^^ 0 := by rw [Nat.xor_zero, Nat.xor_comm]
    unfold chs at h ⊢
    rw [df_xor (i := i) e1, df_xor (i := i + g) e1, df_xor (i := i + g) e2] at h
    exact h
theorem gp_xor {P : Nat → Nat} {N : Nat} (hP : ∀ q, q < N → P q < 2 ^ 32) : GP (· ^^^ ·) (fun x => x < 2 ^ 32) P P N :=
  ⟨by decide, fun x y hx hy => Nat.xor_lt_two_pow (n := 32) hx hy, fun x _ => Nat.zero_xor x, fun x y _ _ => Nat.xor_comm x y, fun x y z _ _ _ => Nat.xor_assoc x y z, fun q hq => ⟨hP q hq, hP q hq, Nat.xor_self _⟩, fun x hx => by have : x < 2 ^ 32 := hx; omega⟩
end PL
