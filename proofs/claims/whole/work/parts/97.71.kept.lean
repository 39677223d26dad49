/-! Own rows: what is kept of a slip; the reference's turned places. -/
def kb (T : Nat → Nat) (k v : Nat) : Nat → Nat → Nat
  | 0, _ => 0
  | d + 1, i => if v.testBit (k - 1 - d) = true ∧ T d / 8 = i then kb T k v d i ||| (128 / 2 ^ (T d % 8)) else kb T k v d i
def ka (T : Nat → Nat) (k v : Nat) : Nat → Nat → Nat
  | 0, _ => 0
  | d + 1, i => if v.testBit (k - 1 - d) = false ∧ T d / 8 = i then ka T k v d i ||| (128 / 2 ^ (T d % 8)) else ka T k v d i
theorem nI_in2 {i B : Nat} (h : i < B) (hB : B ≤ 2 ^ 30) : ¬ (nI i < 0 ∨ B ≤ i) := by
  have := nI_in h (by omega)
  rw [nI_clamp (by omega)] at this
  exact this
theorem kb_congr {T T' : Nat → Nat} {k v : Nat} : ∀ d i, (∀ e, e < d → T' e = T e) → kb T' k v d i = kb T k v d i := by
  intro d
  induction d with
  | zero => intro i _; rfl
  | succ d ih =>
    intro i h
    show (if v.testBit (k - 1 - d) = true ∧ T' d / 8 = i then kb T' k v d i ||| (128 / 2 ^ (T' d % 8)) else kb T' k v d i) = (if v.testBit (k - 1 - d) = true ∧ T d / 8 = i then kb T k v d i ||| (128 / 2 ^ (T d % 8)) else kb T k v d i)
    rw [ih i (fun e he => h e (by omega)), h d (by omega)]
theorem ka_congr {T T' : Nat → Nat} {k v : Nat} : ∀ d i, (∀ e, e < d → T' e = T e) → ka T' k v d i = ka T k v d i := by
  intro d
  induction d with
  | zero => intro i _; rfl
  | succ d ih =>
    intro i h
    show (if v.testBit (k - 1 - d) = false ∧ T' d / 8 = i then ka T' k v d i ||| (128 / 2 ^ (T' d % 8)) else ka T' k v d i) = (if v.testBit (k - 1 - d) = false ∧ T d / 8 = i then ka T k v d i ||| (128 / 2 ^ (T d % 8)) else ka T k v d i)
    rw [ih i (fun e he => h e (by omega)), h d (by omega)]
theorem up_or {f : Nat → Int32} {g : Nat → Nat} {p b : Nat} (h : ∀ i, i < 8 → f i = nI (g i)) (hp : p < 8) : ∀ i, i < 8 → upd f p (f p ||| nI b) i = nI (if p = i then g i ||| b else g i) := by
  intro i hi
  by_cases e : i = p
  · subst e
    rw [up_at, h i hi, n_or, if_pos rfl]
  · rw [up_ne _ _ e, if_neg (fun e' => e e'.symm)]
    exact h i hi
theorem keepTurned_n {n nb k v : Nat} {T : Nat → Nat} {tu : Nat → Int32} (hn : 1000 < n) (hk : k ≤ 8) (hv : v < 2 ^ 30) (hT : ∀ i, i < k → T i < 64) (htu : ∀ i, i < k → tu i = nI (T i)) (b0 a0 : Nat → Int32) (ks : Int32) :
    ∃ b' a', M_X4_keepTurned n (nI nb) (nI k) (nI v) tu b0 a0 ks = some (b', a', nI nb) ∧ ∀ i, i < 8 → b' i = nI (kb T k v k i) ∧ a' i = nI (ka T k v k i) := by
  unfold M_X4_keepTurned M_X4_keepZeros
  obtain ⟨z1, hz1, hz1'⟩ := fill_n (n := n) (L := 8) (by omega) (by omega) 0 b0
  obtain ⟨z2, hz2, hz2'⟩ := fill_n (n := n) (L := 8) (by omega) (by omega) 0 a0
  rw [hz1, Option.bind_some, hz2, Option.bind_some, Option.bind_some]
  obtain ⟨⟨r0, r1⟩, h1, h2, h3⟩ := lp_run (f := fun x : (Int32 × (Nat → Int32) × (Nat → Int32)) => M_X4_keepTurned_b8 n (nI k) (nI v) tu x.1 x.2.1 x.2.2)
    (fun d x => x.1 = nI d ∧ (∀ i, i < 8 → x.2.1 i = nI (kb T k v d i)) ∧ ∀ i, i < 8 → x.2.2 i = nI (ka T k v d i))
    (fun r => (∀ i, i < 8 → r.1 i = nI (kb T k v k i)) ∧ ∀ i, i < 8 → r.2 i = nI (ka T k v k i)) k
    (by
      rintro d ⟨x0, x1, x2⟩ hd ⟨e0, hx1, hx2⟩
      replace e0 : x0 = nI d := e0
      replace hx1 : ∀ i, i < 8 → x1 i = nI (kb T k v d i) := hx1
      replace hx2 : ∀ i, i < 8 → x2 i = nI (ka T k v d i) := hx2
      subst e0
      left
      have hTd := hT d hd
      have e1 : nI k - 1 - nI d = nI (k - 1 - d) := by
        simp (disch := omega) only [i_0, i_1, i_2, i_3, i_4, i_5, i_6, i_7, i_8, i_10, i_12, i_16, i_31, i_32, i_64, i_100, i_128, i_255, i_256, i_512, i_1000, i_1128, i_65535, i_65536, nI_add, pk_mul, pk_sub, nI_ltI, nI_leI, nI_eq, nI_clamp, if_pos, if_neg, ite_true, ite_false, Option.bind_some, Option.elim_some, Option.elim_none, Sum.elim_inl, Sum.elim_inr]
      show ∃ y, M_X4_keepTurned_b8 n (nI k) (nI v) tu (nI d) x1 x2 = some (.inl y) ∧ y.1 = nI (d + 1) ∧ (∀ i, i < 8 → y.2.1 i = nI (if v.testBit (k - 1 - d) = true ∧ T d / 8 = i then kb T k v d i ||| (128 / 2 ^ (T d % 8)) else kb T k v d i)) ∧ ∀ i, i < 8 → y.2.2 i = nI (if v.testBit (k - 1 - d) = false ∧ T d / 8 = i then ka T k v d i ||| (128 / 2 ^ (T d % 8)) else ka T k v d i)
      unfold M_X4_keepTurned_b8
      rw [if_neg (show ¬ nI k ≤ nI d by rw [nI_leI (by omega) (by omega)]; omega), if_neg (nI_in (show d < 8 by omega) (by omega)), if_neg (nI_in (show d < 8 by omega) (by omega)), e1, bit_n (by omega) (by omega), nI_clamp (n := d) (by omega), htu d hd, byteOf_n (by omega), bitOf_n (by omega), if_neg (nI_in (show T d / 8 < 8 by omega) (by omega)), if_neg (nI_in (show T d / 8 < 8 by omega) (by omega)), nI_clamp (n := T d / 8) (by omega), nI_1]
      cases hb : v.testBit (k - 1 - d) with
      | true =>
        rw [if_pos (show nI true.toNat = 1 from rfl)]
        refine ⟨_, rfl, rfl, fun i hi => ?_, fun i hi => ?_⟩
        · have := up_or (b := 128 / 2 ^ (T d % 8)) hx1 (show T d / 8 < 8 by omega) i hi
          simp only [true_and]
          exact this
        · rw [if_neg (by simp)]
          exact hx2 i hi
      | false =>
        rw [if_neg (show ¬ nI false.toNat = 1 by decide), if_neg (nI_in2 (show T d / 8 < 8 by omega) (by omega)), if_neg (nI_in2 (show T d / 8 < 8 by omega) (by omega))]
        refine ⟨_, rfl, rfl, fun i hi => ?_, fun i hi => ?_⟩
        · rw [if_neg (by simp)]
          exact hx1 i hi
        · have := up_or (b := 128 / 2 ^ (T d % 8)) hx2 (show T d / 8 < 8 by omega) i hi
          simp only [true_and]
          exact this)
    (by
      rintro ⟨x0, x1, x2⟩ ⟨e0, hx1, hx2⟩
      replace e0 : x0 = nI k := e0
      subst e0
      refine ⟨(x1, x2), ?_, hx1, hx2⟩
      show M_X4_keepTurned_b8 n (nI k) (nI v) tu (nI k) x1 x2 = _
      unfold M_X4_keepTurned_b8
      rw [if_pos (show nI k ≤ nI k by rw [nI_leI (by omega) (by omega)]; omega)]) n 0 ((0 : Int32), z1, z2) (by omega) (by omega) ⟨rfl, fun i hi => hz1' i hi, fun i hi => hz2' i hi⟩
  exact ⟨r0, r1, lp_b h1 rfl, fun i hi => ⟨h2 i hi, h3 i hi⟩⟩
theorem beginKept_n {n nb : Nat} (hn : 1000 < n) (ks : Int32) (b0 a0 : Nat → Int32) : ∃ b' a', M_X12_beginKept n (nI nb) ks b0 a0 = some (nI nb, b', a') ∧ ∀ i, i < 8 → b' i = 0 ∧ a' i = 0 := by
  unfold M_X12_beginKept
  obtain ⟨⟨r0, r1⟩, h1, h2⟩ := lp_run (f := fun x : (Int32 × (Nat → Int32) × (Nat → Int32)) => M_X12_beginKept_b7 n x.1 x.2.1 x.2.2)
    (fun d x => x.1 = nI d ∧ ∀ i, i < d → x.2.1 i = 0 ∧ x.2.2 i = 0) (fun r => ∀ i, i < 8 → r.1 i = 0 ∧ r.2 i = 0) 8
    (by
      rintro d ⟨x0, x1, x2⟩ hd ⟨e0, hx⟩
      replace e0 : x0 = nI d := e0
      replace hx : ∀ i, i < d → x1 i = 0 ∧ x2 i = 0 := hx
      subst e0
      left
      refine ⟨(nI (d + 1), upd x1 d 0, upd x2 d 0), ?_, rfl, fun i hi => ?_⟩
      · show M_X12_beginKept_b7 n (nI d) x1 x2 = _
        unfold M_X12_beginKept_b7
        rw [if_neg (show ¬ (8 : Int32) ≤ nI d by rw [i_8, nI_leI (by omega) (by omega)]; omega), if_neg (nI_in (show d < 8 by omega) (by omega)), if_neg (nI_in (show d < 8 by omega) (by omega)), nI_clamp (by omega), nI_1]
      · show upd x1 d 0 i = 0 ∧ upd x2 d 0 i = 0
        by_cases e : i = d
        · rw [e, up_at, up_at]; exact ⟨rfl, rfl⟩
        · rw [up_ne _ _ e, up_ne _ _ e]
          exact hx i (by omega))
    (by
      rintro ⟨x0, x1, x2⟩ ⟨e0, hx⟩
      replace e0 : x0 = nI 8 := e0
      subst e0
      refine ⟨(x1, x2), ?_, hx⟩
      show M_X12_beginKept_b7 n (nI 8) x1 x2 = _
      unfold M_X12_beginKept_b7
      rw [if_pos (show (8 : Int32) ≤ nI 8 by decide)]) n 0 ((0 : Int32), b0, a0) (by omega) (by omega) ⟨rfl, fun i hi => by omega⟩
  exact ⟨r0, r1, lp_b h1 rfl, h2⟩
section PT
variable {mg : Nat → Nat → Nat} {V : Nat → Prop} {rise fall : Nat → Nat} {N : Nat} {xr : Bool} {n j : Nat} {kd mo : Nat → Int32} {pA pB : Nat → Int64} {Rl : Nat → Int64 → Int64 → Nat → Prop}
theorem comes_n (hM : MI j kd mo pA pB mg V rise fall N xr Rl) (hn : 1000 < n) (hN : N ≤ 64) {T : Nat → Nat} {k v : Nat} {tu : Nat → Int32} (hk : k ≤ 8) (hv : v < 2 ^ k) (hT : ∀ i, i < k → T i < N) (htu : ∀ i, i < k → tu i = nI (T i)) :
    ∃ A B, lp (fun x : (Int32 × Int64 × Int64) => M_X12_passesTurned_b25 n (nI j) (nI v) kd pA pB tu (nI k) x.1 x.2.1 x.2.2) n ((0 : Int32), (0 : Int64), (0 : Int64)) = some (A, B) ∧ Rl k A B (tv mg rise fall T k v) := by
  have hp8 : 2 ^ k ≤ 2 ^ 8 := Nat.pow_le_pow_right (by decide) hk
  obtain ⟨⟨A, B⟩, h1, h2⟩ := lp_run (f := fun x : (Int32 × Int64 × Int64) => M_X12_passesTurned_b25 n (nI j) (nI v) kd pA pB tu (nI k) x.1 x.2.1 x.2.2)
    (fun i x => x.1 = nI i ∧ Rl i x.2.1 x.2.2 (tv mg rise fall T i (v / 2 ^ (k - i)))) (fun r => Rl k r.1 r.2 (tv mg rise fall T k v)) k
    (by
      rintro i ⟨x0, x1, x2⟩ hi ⟨e0, hR⟩
      replace e0 : x0 = nI i := e0
      replace hR : Rl i x1 x2 (tv mg rise fall T i (v / 2 ^ (k - i))) := hR
      subst e0
      left
      have hTi := hT i hi
      have e1 : nI k - 1 - nI i = nI (k - 1 - i) := by
        simp (disch := omega) only [i_0, i_1, i_2, i_3, i_4, i_5, i_6, i_7, i_8, i_10, i_12, i_16, i_31, i_32, i_64, i_100, i_128, i_255, i_256, i_512, i_1000, i_1128, i_65535, i_65536, nI_add, pk_mul, pk_sub, nI_ltI, nI_leI, nI_eq, nI_clamp, if_pos, if_neg, ite_true, ite_false, Option.bind_some, Option.elim_some, Option.elim_none, Sum.elim_inl, Sum.elim_inr]
      obtain ⟨A', B', k1, k2⟩ := hM.2.1 i x1 x2 _ (T i) (v.testBit (k - 1 - i)) (by omega) hR hTi
      refine ⟨(nI (i + 1), A', B'), ?_, rfl, ?_⟩
      · show M_X12_passesTurned_b25 n (nI j) (nI v) kd pA pB tu (nI k) (nI i) x1 x2 = _
        unfold M_X12_passesTurned_b25
        rw [if_neg (show ¬ nI k ≤ nI i by rw [nI_leI (by omega) (by omega)]; omega), if_neg (nI_in (show i < 8 by omega) (by omega)), e1, bit_n (by omega) (by omega), nI_clamp (n := i) (by omega), htu i hi, nI_1]
        cases hb : v.testBit (k - 1 - i) with
        | true =>
          rw [hb] at k1
          have k1' : M_X12_turn (nI j) (nI (T i)) 1 kd pA pB x1 x2 = some (A', B') := k1
          rw [if_pos (show nI true.toNat = 1 from rfl), k1']
          rfl
        | false =>
          rw [hb] at k1
          have k1' : M_X12_turn (nI j) (nI (T i)) 0 kd pA pB x1 x2 = some (A', B') := k1
          rw [if_neg (show ¬ nI false.toNat = 1 by decide), k1']
          rfl
      · show Rl (i + 1) A' B' (tv mg rise fall T (i + 1) (v / 2 ^ (k - (i + 1))))
        rw [tv_s, Nat.div_div_eq_div_mul, ← Nat.pow_succ, show (k - (i + 1)).succ = k - i by omega]
        rw [Nat.testBit_eq_decide_div_mod_eq, show k - 1 - i = k - (i + 1) by omega] at k2
        simp only [decide_eq_true_eq] at k2
        exact k2)
    (by
      rintro ⟨x0, x1, x2⟩ ⟨e0, hR⟩
      replace e0 : x0 = nI k := e0
      replace hR : Rl k x1 x2 (tv mg rise fall T k (v / 2 ^ (k - k))) := hR
      subst e0
      rw [Nat.sub_self, Nat.pow_zero, Nat.div_one] at hR
      refine ⟨(x1, x2), ?_, hR⟩
      show M_X12_passesTurned_b25 n (nI j) (nI v) kd pA pB tu (nI k) (nI k) x1 x2 = _
      unfold M_X12_passesTurned_b25
      rw [if_pos (show nI k ≤ nI k by rw [nI_leI (by omega) (by omega)]; omega)]) n 0 ((0 : Int32), (0 : Int64), (0 : Int64)) (by omega) (by omega) ⟨rfl, hM.1⟩
  exact ⟨A, B, h1, h2⟩
theorem keptM_n (hn : 1000 < n) {T : Nat → Nat} {k v : Nat} {tu : Nat → Int32} (hk : k ≤ 8) (hv : v < 2 ^ 30) (hT : ∀ i, i < k → T i < 64) (htu : ∀ i, i < k → tu i = nI (T i)) {z1 z2 : Nat → Int32} (hz : ∀ i, i < 8 → z1 i = 0 ∧ z2 i = 0) :
    ∃ b' a', lp (fun x : (Int32 × (Nat → Int32) × (Nat → Int32)) => M_X12_passesTurned_b90 n (nI v) tu (nI k) x.1 x.2.1 x.2.2) n ((0 : Int32), z1, z2) = some (b', a') ∧ ∀ i, i < 8 → b' i = nI (kb T k v k i) ∧ a' i = nI (ka T k v k i) := by
  obtain ⟨⟨r0, r1⟩, h1, h2, h3⟩ := lp_run (f := fun x : (Int32 × (Nat → Int32) × (Nat → Int32)) => M_X12_passesTurned_b90 n (nI v) tu (nI k) x.1 x.2.1 x.2.2)
    (fun d x => x.1 = nI d ∧ (∀ i, i < 8 → x.2.1 i = nI (kb T k v d i)) ∧ ∀ i, i < 8 → x.2.2 i = nI (ka T k v d i))
    (fun r => (∀ i, i < 8 → r.1 i = nI (kb T k v k i)) ∧ ∀ i, i < 8 → r.2 i = nI (ka T k v k i)) k
    (by
      rintro d ⟨x0, x1, x2⟩ hd ⟨e0, hx1, hx2⟩
      replace e0 : x0 = nI d := e0
      replace hx1 : ∀ i, i < 8 → x1 i = nI (kb T k v d i) := hx1
      replace hx2 : ∀ i, i < 8 → x2 i = nI (ka T k v d i) := hx2
      subst e0
      left
      have hTd := hT d hd
      have e1 : nI k - 1 - nI d = nI (k - 1 - d) := by
        simp (disch := omega) only [i_0, i_1, i_2, i_3, i_4, i_5, i_6, i_7, i_8, i_10, i_12, i_16, i_31, i_32, i_64, i_100, i_128, i_255, i_256, i_512, i_1000, i_1128, i_65535, i_65536, nI_add, pk_mul, pk_sub, nI_ltI, nI_leI, nI_eq, nI_clamp, if_pos, if_neg, ite_true, ite_false, Option.bind_some, Option.elim_some, Option.elim_none, Sum.elim_inl, Sum.elim_inr]
      have e128 : ((128 : Int32) >>> (nI (T d % 8) &&& 31)) = nI (128 / 2 ^ (T d % 8)) := by
        simp (disch := omega) only [i_0, i_1, i_2, i_3, i_4, i_5, i_6, i_7, i_8, i_10, i_12, i_16, i_31, i_32, i_64, i_100, i_128, i_255, i_256, i_512, i_1000, i_1128, i_65535, i_65536, nI_add, pk_mul, pk_sub, n_and, n_or, n_xor, and_31, n_shl, n_shr, nI_ltI, nI_leI, nI_eq, nI_clamp, if_pos, if_neg, ite_true, ite_false, Option.bind_some, Option.elim_some, Option.elim_none, Sum.elim_inl, Sum.elim_inr]
      have nixd : ¬ (nI d < 0 ∨ 8 ≤ (nI d).toNatClampNeg) := nI_in (show d < 8 by omega) (by omega)
      have nixT : ¬ (nI (T d / 8) < 0 ∨ 8 ≤ (nI (T d / 8)).toNatClampNeg) := nI_in (show T d / 8 < 8 by omega) (by omega)
      show ∃ y, M_X12_passesTurned_b90 n (nI v) tu (nI k) (nI d) x1 x2 = some (.inl y) ∧ y.1 = nI (d + 1) ∧ (∀ i, i < 8 → y.2.1 i = nI (if v.testBit (k - 1 - d) = true ∧ T d / 8 = i then kb T k v d i ||| (128 / 2 ^ (T d % 8)) else kb T k v d i)) ∧ ∀ i, i < 8 → y.2.2 i = nI (if v.testBit (k - 1 - d) = false ∧ T d / 8 = i then ka T k v d i ||| (128 / 2 ^ (T d % 8)) else ka T k v d i)
      have etd : tu (nI d).toNatClampNeg = nI (T d) := by rw [nI_clamp (by omega)]; exact htu d hd
      have hor0 : ∀ (f : Nat → Int32) (g : Nat → Nat), (∀ i, i < 8 → f i = nI (g i)) → ∀ i, i < 8 → upd f (T d / 8) (f (T d / 8) ||| 0) i = nI (g i) := fun f g hf i hi => by
        have := up_or (b := 0) hf (show T d / 8 < 8 by omega) i hi
        rw [show nI 0 = 0 from rfl] at this
        rw [this]
        split
        · rw [Nat.or_zero]
        · rfl
      unfold M_X12_passesTurned_b90
      rw [if_neg (show ¬ nI k ≤ nI d by rw [nI_leI (by omega) (by omega)]; omega), etd, x_rem8 (by omega), x_div8 (by omega), e128, e1, bit_n (by omega) (by omega)]
      simp only [if_neg nixd, if_neg nixT]
      rw [nI_clamp (n := T d / 8) (by omega), nI_1]
      cases hb : v.testBit (k - 1 - d) with
      | true =>
        rw [if_pos (show nI true.toNat = 1 from rfl)]
        refine ⟨_, rfl, rfl, fun i hi => ?_, fun i hi => ?_⟩
        · have := up_or (b := 128 / 2 ^ (T d % 8)) hx1 (show T d / 8 < 8 by omega) i hi
          simp only [true_and]
          exact this
        · rw [if_neg (by simp)]
          exact hor0 x2 _ hx2 i hi
      | false =>
        rw [if_neg (show ¬ nI false.toNat = 1 by decide)]
        refine ⟨_, rfl, rfl, fun i hi => ?_, fun i hi => ?_⟩
        · rw [if_neg (by simp)]
          exact hor0 x1 _ hx1 i hi
        · have := up_or (b := 128 / 2 ^ (T d % 8)) hx2 (show T d / 8 < 8 by omega) i hi
          simp only [true_and]
          exact this)
    (by
      rintro ⟨x0, x1, x2⟩ ⟨e0, hx1, hx2⟩
      replace e0 : x0 = nI k := e0
      subst e0
      refine ⟨(x1, x2), ?_, hx1, hx2⟩
      show M_X12_passesTurned_b90 n (nI v) tu (nI k) (nI k) x1 x2 = _
      unfold M_X12_passesTurned_b90
      rw [if_pos (show nI k ≤ nI k by rw [nI_leI (by omega) (by omega)]; omega)]) n 0 ((0 : Int32), z1, z2) (by omega) (by omega) ⟨rfl, fun i hi => (hz i hi).1, fun i hi => (hz i hi).2⟩
  exact ⟨r0, r1, h1, fun i hi => ⟨h2 i hi, h3 i hi⟩⟩
/-- the reference's passesTurned -/
theorem passesT_n (hM : MI j kd mo pA pB mg V rise fall N xr Rl) (hn : 1000 < n) (hN : N ≤ 64) {T : Nat → Nat} {k nb : Nat} {tu : Nat → Int32} (hk : k ≤ 8) (hT : ∀ i, i < k → T i < N) (htu : ∀ i, i < k → tu i = nI (T i)) (ks : Int32) (b0 a0 : Nat → Int32) (A0 B0 : Int64) :
    (fvn mg rise fall xr T k ∧ ∃ A B, M_X12_passesTurned n (nI j) (nI nb) kd mo ks b0 a0 pA pB tu (nI k) A0 B0 = some (0, ks, b0, a0, A, B)) ∨
    (∃ v, fvs mg rise fall xr T k v ∧ ∃ b' a' A B, M_X12_passesTurned n (nI j) (nI nb) kd mo ks b0 a0 pA pB tu (nI k) A0 B0 = some (1, nI nb, b', a', A, B) ∧ ∀ i, i < 8 → b' i = nI (kb T k v k i) ∧ a' i = nI (ka T k v k i)) := by
  have hp8 : 2 ^ k ≤ 2 ^ 8 := Nat.pow_le_pow_right (by decide) hk
  have hpk := Nat.two_pow_pos k
  have hsh : ((1 : Int32) <<< (nI k &&& 31)) = nI (2 ^ k) := by
    simp (disch := omega) only [i_0, i_1, i_2, i_3, i_4, i_5, i_6, i_7, i_8, i_10, i_12, i_16, i_31, i_32, i_64, i_100, i_128, i_255, i_256, i_512, i_1000, i_1128, i_65535, i_65536, nI_add, pk_mul, pk_sub, n_and, n_or, n_xor, and_31, n_shl, n_shr, nI_ltI, nI_leI, nI_eq, nI_clamp, if_pos, if_neg, ite_true, ite_false, Option.bind_some, Option.elim_some, Option.elim_none, Sum.elim_inl, Sum.elim_inr, Nat.one_mul]
  unfold M_X12_passesTurned
  obtain ⟨out, h1, h2⟩ := lp_run (f := fun x : (Int32 × Int64 × Int64) => M_X12_passesTurned_b2 n (nI j) (nI nb) kd mo ks b0 a0 pA pB tu (nI k) x.1 x.2.1 x.2.2)
    (fun v x => x.1 = nI v ∧ (xr = true → v = 0) ∧ ∀ v', v' < v → tv mg rise fall T k v' ≠ 0)
    (fun out => (fvn mg rise fall xr T k ∧ ((∃ A B, out = Sum.inl (A, B)) ∨ ∃ A B, out = Sum.inr (0, ks, b0, a0, A, B))) ∨ (∃ v, fvs mg rise fall xr T k v ∧ ∃ b' a' A B, out = Sum.inr (1, nI nb, b', a', A, B) ∧ ∀ i, i < 8 → b' i = nI (kb T k v k i) ∧ a' i = nI (ka T k v k i))) (2 ^ k)
    (by
      rintro v ⟨x0, x1, x2⟩ hv ⟨e0, hxv, hno⟩
      replace e0 : x0 = nI v := e0
      subst e0
      obtain ⟨A, B, k1, k2⟩ := comes_n (n := n) hM hn hN hk hv hT htu
      have k3 := hM.2.2.1 k A B _ (by omega) k2
      show (∃ y, M_X12_passesTurned_b2 n (nI j) (nI nb) kd mo ks b0 a0 pA pB tu (nI k) (nI v) x1 x2 = some (.inl y) ∧ _) ∨ (∃ r, M_X12_passesTurned_b2 n (nI j) (nI nb) kd mo ks b0 a0 pA pB tu (nI k) (nI v) x1 x2 = some (.inr r) ∧ _)
      unfold M_X12_passesTurned_b2
      rw [hsh, if_neg (show ¬ nI (2 ^ k) ≤ nI v by rw [nI_leI (by omega) (by omega)]; omega), k1]
      dsimp only [Option.bind_some]
      rw [k3]
      dsimp only [Option.bind_some]
      by_cases e : tv mg rise fall T k v = 0
      · right
        obtain ⟨z1, z2, z3, z4⟩ := beginKept_n (n := n) (nb := nb) hn ks b0 a0
        obtain ⟨b', a', q1, q2⟩ := keptM_n (n := n) (T := T) (k := k) (v := v) (tu := tu) hn hk (by omega) (fun i hi => by have := hT i hi; omega) htu z4
        rw [if_pos e, if_neg one_ne, z3]
        dsimp only [Option.bind_some]
        rw [q1]
        refine ⟨_, rfl, Or.inr ⟨v, ⟨?_, e, hno⟩, b', a', A, B, rfl, q2⟩⟩
        cases hx : xr with
        | true => rw [if_pos rfl, hxv hx]; omega
        | false => rw [if_neg (by decide)]; exact hv
      · rw [if_neg e, if_pos z_eq, hM.2.2.2]
        dsimp only [Option.bind_some]
        cases hx : xr with
        | true =>
          right
          rw [if_neg (show ¬ kI true = 0 by decide)]
          refine ⟨_, rfl, Or.inl ⟨fun v' hv' => ?_, Or.inr ⟨A, B, rfl⟩⟩⟩
          rw [if_pos rfl] at hv'
          have h9 : v' = v := by rw [hxv hx]; omega
          rw [h9]; exact e
        | false =>
          left
          rw [if_pos (show kI false = 0 from rfl), nI_1]
          refine ⟨_, rfl, rfl, fun h9 => (by cases h9), fun v' hv' => ?_⟩
          by_cases e9 : v' = v
          · rw [e9]; exact e
          · exact hno v' (by omega))
    (by
      rintro ⟨x0, x1, x2⟩ ⟨e0, hxv, hno⟩
      replace e0 : x0 = nI (2 ^ k) := e0
      subst e0
      refine ⟨Sum.inl (x1, x2), ?_, Or.inl ⟨fun v' hv' => hno v' ?_, Or.inl ⟨x1, x2, rfl⟩⟩⟩
      · show M_X12_passesTurned_b2 n (nI j) (nI nb) kd mo ks b0 a0 pA pB tu (nI k) (nI (2 ^ k)) x1 x2 = _
        unfold M_X12_passesTurned_b2
        rw [hsh, if_pos (show nI (2 ^ k) ≤ nI (2 ^ k) by rw [nI_leI (by omega) (by omega)]; omega)]
      · cases hx : xr with
        | true => rw [hx, if_pos rfl] at hv'; omega
        | false => rw [hx, if_neg (by decide)] at hv'; exact hv') n 0 ((0 : Int32), A0, B0) (by omega) (by omega) ⟨rfl, fun _ => rfl, fun v' hv' => by omega⟩
  rcases h2 with ⟨h2, h3⟩ | ⟨v, h2, b', a', A, B, rfl, h3⟩
  · left
    refine ⟨h2, ?_⟩
    rcases h3 with ⟨A, B, rfl⟩ | ⟨A, B, rfl⟩
    · exact ⟨A, B, lp_b h1 rfl⟩
    · exact ⟨A, B, lp_b h1 rfl⟩
  · right
    exact ⟨v, h2, b', a', A, B, lp_b h1 rfl, h3⟩
end PT
theorem fv_uniq {mg : Nat → Nat → Nat} {rise fall : Nat → Nat} {xr : Bool} {T : Nat → Nat} {k v v' : Nat} (h : fvs mg rise fall xr T k v) (h' : fvs mg rise fall xr T k v') : v = v' := by
  rcases Nat.lt_trichotomy v v' with h9 | h9 | h9
  · exact absurd h.2.1 (h'.2.2 v h9)
  · exact h9
  · exact absurd h'.2.1 (h.2.2 v' h9)
theorem fv_not {mg : Nat → Nat → Nat} {rise fall : Nat → Nat} {xr : Bool} {T : Nat → Nat} {k v : Nat} (h : fvs mg rise fall xr T k v) (h' : fvn mg rise fall xr T k) : False := h' v h.1 h.2.1
