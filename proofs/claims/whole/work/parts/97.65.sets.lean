/-! Own rows: the reference's sets. -/
theorem keep3 {α : Type} (F : Int32 → α) (kp : Bool) {c : Nat} (hc : c < 2 ^ 31) : (if kI kp = 0 then F 0 else (if nI c = 0 then F 1 else F 0)) = F (kI (kp && decide (c = 0))) := by
  cases kp
  · rw [if_pos (show kI false = 0 from rfl)]; rfl
  · rw [if_neg (show ¬ kI true = 0 by decide)]
    by_cases e : c = 0
    · subst e
      rw [if_pos (show nI 0 = 0 from rfl)]; rfl
    · rw [if_neg (show ¬ nI c = 0 by rw [i_0, nI_eq (by omega) (by omega)]; exact e)]
      simp [e, kI]
theorem Res.le {s : Nat → Nat} {N : Nat} {kp : Bool} {pre : List Nat} {k r x c c' : Nat} {lf lf' : Nat → Int32} (h : Res s N kp pre k r x c lf c' lf') : c' = c + cnt s N k r x := h.1
section ST
variable {n N : Nat} {s : Nat → Nat} {f : Nat → Int64} {kp : Bool}
theorem lvD0 {k : Nat} (hk : k ≤ 3) (hN : N ≤ 48) {fu : Nat} (hfu : 0 < fu) (x3 x5 x6 x9 : Int32) (x10 : Int64) (c p : Nat) (hp : p ≤ N) (lf : Nat → Int32) : lp (fun y : (Int32 × Int32 × (Nat → Int32)) => M_X12_setsOf_b194 n (nI k) (nI N) x3 x5 x6 x9 x10 f y.1 y.2.1 y.2.2) fu (nI c, nI p, lf) = some (nI c, lf) := by
  obtain ⟨m, rfl⟩ : ∃ m, fu = m + 1 := ⟨fu - 1, by omega⟩
  refine lp_inr ?_
  unfold M_X12_setsOf_b194
  by_cases e : N ≤ p
  · simp (disch := omega) only [i_0, i_1, i_2, i_3, i_4, i_5, i_6, i_7, i_8, i_10, i_12, i_16, i_31, i_32, i_64, i_100, i_128, i_255, i_256, i_512, i_1000, i_1128, i_65535, i_65536, nI_add, pk_mul, pk_sub, nI_ltI, nI_leI, nI_eq, nI_clamp, if_pos, if_neg, ite_true, ite_false, Option.bind_some, Option.elim_some, Option.elim_none, Sum.elim_inl, Sum.elim_inr]
  · simp (disch := omega) only [i_0, i_1, i_2, i_3, i_4, i_5, i_6, i_7, i_8, i_10, i_12, i_16, i_31, i_32, i_64, i_100, i_128, i_255, i_256, i_512, i_1000, i_1128, i_65535, i_65536, nI_add, pk_mul, pk_sub, nI_ltI, nI_leI, nI_eq, nI_clamp, if_pos, if_neg, ite_true, ite_false, Option.bind_some, Option.elim_some, Option.elim_none, Sum.elim_inl, Sum.elim_inr]
theorem lvC0 {k : Nat} (hk : k ≤ 2) (hN : N ≤ 48) {fu : Nat} (hfu : 0 < fu) (x3 x5 x6 : Int32) (x7 : Int64) (c p : Nat) (hp : p ≤ N) (lf : Nat → Int32) : lp (fun y : (Int32 × Int32 × (Nat → Int32)) => M_X12_setsOf_b128 n (nI k) (nI N) x3 x5 x6 x7 f y.1 y.2.1 y.2.2) fu (nI c, nI p, lf) = some (nI c, lf) := by
  obtain ⟨m, rfl⟩ : ∃ m, fu = m + 1 := ⟨fu - 1, by omega⟩
  refine lp_inr ?_
  show M_X12_setsOf_b128 n (nI k) (nI N) x3 x5 x6 x7 f (nI c) (nI p) lf = _
  unfold M_X12_setsOf_b128
  by_cases e : N ≤ p
  · rw [if_pos ((nI_leI (by omega) (by omega)).mpr e)]
  · rw [if_neg (fun h => e ((nI_leI (by omega) (by omega)).mp h)), if_pos (show nI k ≤ 2 by rw [i_2, nI_leI (by omega) (by omega)]; exact hk)]
theorem lvB0 {k : Nat} (hk : k ≤ 1) (hN : N ≤ 48) {fu : Nat} (hfu : 0 < fu) (x3 x5 : Int32) (c p : Nat) (hp : p ≤ N) (lf : Nat → Int32) : lp (fun y : (Int32 × Int32 × (Nat → Int32)) => M_X12_setsOf_b58 n (nI k) (nI N) x3 x5 f y.1 y.2.1 y.2.2) fu (nI c, nI p, lf) = some (nI c, lf) := by
  obtain ⟨m, rfl⟩ : ∃ m, fu = m + 1 := ⟨fu - 1, by omega⟩
  refine lp_inr ?_
  show M_X12_setsOf_b58 n (nI k) (nI N) x3 x5 f (nI c) (nI p) lf = _
  unfold M_X12_setsOf_b58
  by_cases e : N ≤ p
  · rw [if_pos ((nI_leI (by omega) (by omega)).mpr e)]
  · rw [if_neg (fun h => e ((nI_leI (by omega) (by omega)).mp h)), if_pos (show nI k ≤ 1 by rw [i_1, nI_leI (by omega) (by omega)]; exact hk)]
theorem lvD (hN : N ≤ 48) (hs : ∀ q, q < N → s q < 2 ^ 32) (hf : ∀ q, q < N → f q = lN (s q)) {a b cc x : Nat} (hx : x < 2 ^ 32) : ∀ r c lf fu, r ≤ N → r < fu → c + cnt s N 1 r x < 2 ^ 31 →
    ∃ c' lf', lp (fun y : (Int32 × Int32 × (Nat → Int32)) => M_X12_setsOf_b194 n (nI 4) (nI N) (kI kp) (nI a) (nI b) (nI cc) (lN x) f y.1 y.2.1 y.2.2) fu (nI c, nI (N - r), lf) = some (nI c', lf') ∧ Res s N kp [a, b, cc] 1 r x c lf c' lf' := by
  intro r
  induction r with
  | zero =>
    intro c lf fu hr hfu hc
    obtain ⟨m, rfl⟩ : ∃ m, fu = m + 1 := ⟨fu - 1, by omega⟩
    refine ⟨c, lf, lp_inr ?_, Res.nil⟩
    unfold M_X12_setsOf_b194
    simp (disch := omega) only [i_0, i_1, i_2, i_3, i_4, i_5, i_6, i_7, i_8, i_10, i_12, i_16, i_31, i_32, i_64, i_100, i_128, i_255, i_256, i_512, i_1000, i_1128, i_65535, i_65536, nI_add, pk_mul, pk_sub, nI_ltI, nI_leI, nI_eq, nI_clamp, if_pos, if_neg, ite_true, ite_false, Option.bind_some, Option.elim_some, Option.elim_none, Sum.elim_inl, Sum.elim_inr]
  | succ r ih =>
    intro c lf fu hr hfu hc
    obtain ⟨m, rfl⟩ : ∃ m, fu = m + 1 := ⟨fu - 1, by omega⟩
    replace hc : c + (cnt s N 0 r (x ^^^ s (N - (r + 1))) + cnt s N 1 r x) < 2 ^ 31 := hc
    have hsq := hs (N - (r + 1)) (by omega)
    have hx3 : x ^^^ s (N - (r + 1)) < 2 ^ 32 := Nat.xor_lt_two_pow hx hsq
    obtain ⟨v, lf1, hz, hR1⟩ := isZero_n (s := s) (N := N) (kp := kp) (pre := [a, b, cc] ++ [N - (r + 1)]) (r := r) (c := c) lf hx3 rfl rfl rfl rfl
    have hv : c + v = c + cnt s N 0 r (x ^^^ s (N - (r + 1))) := hR1.le
    obtain ⟨c2, lf2, h2, hR2⟩ := ih (c + v) lf1 m (by omega) (by omega) (by omega)
    refine ⟨c2, lf2, ?_, Res.cons hR1 hR2⟩
    rw [lp_inl (y := (nI (c + v), nI (N - r), lf1)) ?_]
    · exact h2
    · show M_X12_setsOf_b194 n (nI 4) (nI N) (kI kp) (nI a) (nI b) (nI cc) (lN x) f (nI c) (nI (N - (r + 1))) lf = _
      unfold M_X12_setsOf_b194
      rw [if_neg (show ¬ nI N ≤ nI (N - (r + 1)) by rw [nI_leI (by omega) (by omega)]; omega), if_neg (show ¬ nI 4 ≤ 3 by decide), if_neg (nI_in (show N - (r + 1) < 512 by omega) (by omega)), nI_clamp (by omega), hf _ (by omega), l_xor]
      refine (keep3 (fun z => (M_X12_isZero (lN (x ^^^ s (N - (r + 1)))) z (nI a) (nI b) (nI cc) (nI (N - (r + 1))) lf).bind fun r16 => some (Sum.inl (nI c + r16.1, nI (N - (r + 1)) + 1, r16.2))) kp (by omega)).trans ?_
      have hz' : M_X12_isZero (lN (x ^^^ s (N - (r + 1)))) (kI (kp && decide (c = 0))) (nI a) (nI b) (nI cc) (nI (N - (r + 1))) lf = some (nI v, lf1) := hz
      show (M_X12_isZero (lN (x ^^^ s (N - (r + 1)))) (kI (kp && decide (c = 0))) (nI a) (nI b) (nI cc) (nI (N - (r + 1))) lf).bind _ = _
      rw [hz', Option.bind_some, nI_add, nI_1, show N - (r + 1) + 1 = N - r by omega]
theorem lvC (hn : 1000 < n) (hN : N ≤ 48) (hs : ∀ q, q < N → s q < 2 ^ 32) (hf : ∀ q, q < N → f q = lN (s q)) {k a b x : Nat} (hk : k = 3 ∨ k = 4) (hx : x < 2 ^ 32) : ∀ r c lf fu, r ≤ N → r < fu → c + cnt s N (k - 2) r x < 2 ^ 31 →
    ∃ c' lf', lp (fun y : (Int32 × Int32 × (Nat → Int32)) => M_X12_setsOf_b128 n (nI k) (nI N) (kI kp) (nI a) (nI b) (lN x) f y.1 y.2.1 y.2.2) fu (nI c, nI (N - r), lf) = some (nI c', lf') ∧ Res s N kp [a, b] (k - 2) r x c lf c' lf' := by
  intro r
  obtain ⟨k', hk'⟩ : ∃ k', k - 2 = k' + 1 := ⟨k - 3, by omega⟩
  rw [hk']
  induction r with
  | zero =>
    intro c lf fu hr hfu hc
    obtain ⟨m, rfl⟩ : ∃ m, fu = m + 1 := ⟨fu - 1, by omega⟩
    refine ⟨c, lf, lp_inr ?_, Res.nil⟩
    show M_X12_setsOf_b128 n (nI k) (nI N) (kI kp) (nI a) (nI b) (lN x) f (nI c) (nI N) lf = _
    unfold M_X12_setsOf_b128
    rw [if_pos (show nI N ≤ nI N by rw [nI_leI (by omega) (by omega)]; omega)]
  | succ r ih =>
    intro c lf fu hr hfu hc
    obtain ⟨m, rfl⟩ : ∃ m, fu = m + 1 := ⟨fu - 1, by omega⟩
    rw [cnt_s] at hc
    have hsq := hs (N - (r + 1)) (by omega)
    have hx3 : x ^^^ s (N - (r + 1)) < 2 ^ 32 := Nat.xor_lt_two_pow hx hsq
    have key : ∃ c1 lf1, M_X12_setsOf_b128 n (nI k) (nI N) (kI kp) (nI a) (nI b) (lN x) f (nI c) (nI (N - (r + 1))) lf = some (Sum.inl (nI c1, nI (N - r), lf1)) ∧ Res s N kp ([a, b] ++ [N - (r + 1)]) k' r (x ^^^ s (N - (r + 1))) c lf c1 lf1 := by
      unfold M_X12_setsOf_b128
      rw [if_neg (show ¬ nI N ≤ nI (N - (r + 1)) by rw [nI_leI (by omega) (by omega)]; omega), if_neg (show ¬ nI k ≤ 2 by rw [i_2, nI_leI (by omega) (by omega)]; omega), if_neg (nI_in (show N - (r + 1) < 512 by omega) (by omega)), nI_clamp (by omega), hf _ (by omega), l_xor, nI_1, show N - (r + 1) + 1 = N - r by omega]
      rcases hk with rfl | rfl
      · obtain rfl : k' = 0 := by omega
        obtain ⟨v, lf1, hz, hR1⟩ := isZero_n (s := s) (N := N) (kp := kp) (pre := [a, b] ++ [N - (r + 1)]) (r := r) (c := c) lf hx3 rfl rfl rfl rfl
        have hz' : M_X12_isZero (lN (x ^^^ s (N - (r + 1)))) (kI (kp && decide (c = 0))) (nI a) (nI b) (nI (N - (r + 1))) (-1) lf = some (nI v, lf1) := hz
        refine ⟨c + v, lf1, ?_, hR1⟩
        rw [if_pos (show nI 3 = 3 from rfl)]
        refine (keep3 (fun z => (M_X12_isZero (lN (x ^^^ s (N - (r + 1)))) z (nI a) (nI b) (nI (N - (r + 1))) (-1 : Int32) lf).bind fun r25 => (lp (fun y : (Int32 × Int32 × (Nat → Int32)) => M_X12_setsOf_b194 n (nI 3) (nI N) (kI kp) (nI a) (nI b) (nI (N - (r + 1))) (lN (x ^^^ s (N - (r + 1)))) f y.1 y.2.1 y.2.2) n ((nI c + r25.1), nI (N - r), r25.2)).bind fun o27 => some (Sum.inl (o27.1, nI (N - r), o27.2))) kp (by omega)).trans ?_
        show (M_X12_isZero (lN (x ^^^ s (N - (r + 1)))) (kI (kp && decide (c = 0))) (nI a) (nI b) (nI (N - (r + 1))) (-1) lf).bind _ = _
        rw [hz', Option.bind_some]
        show (lp _ n (nI c + nI v, nI (N - r), lf1)).bind _ = _
        rw [nI_add, lvD0 (by omega) hN (by omega) _ _ _ _ _ _ _ (by omega)]
        rfl
      · obtain rfl : k' = 1 := by omega
        obtain ⟨c1, lf1, hz, hR1⟩ := lvD (n := n) (kp := kp) (a := a) (b := b) (cc := N - (r + 1)) hN hs hf hx3 r c lf n (by omega) (by omega) (by omega)
        refine ⟨c1, lf1, ?_, hR1⟩
        rw [if_neg (show ¬ nI 4 = 3 by decide), hz]
        rfl
    obtain ⟨c1, lf1, hstep, hR1⟩ := key
    have hv := hR1.le
    obtain ⟨c2, lf2, h2, hR2⟩ := ih c1 lf1 m (by omega) (by omega) (by omega)
    refine ⟨c2, lf2, ?_, Res.cons hR1 hR2⟩
    rw [lp_inl (y := (nI c1, nI (N - r), lf1)) hstep]
    exact h2
theorem lvB (hn : 1000 < n) (hN : N ≤ 48) (hs : ∀ q, q < N → s q < 2 ^ 32) (hf : ∀ q, q < N → f q = lN (s q)) {k a : Nat} (hk : k = 2 ∨ k = 3 ∨ k = 4) (ha : a < N) : ∀ r c lf fu, r ≤ N → r < fu → c + cnt s N (k - 1) r (s a) < 2 ^ 31 →
    ∃ c' lf', lp (fun y : (Int32 × Int32 × (Nat → Int32)) => M_X12_setsOf_b58 n (nI k) (nI N) (kI kp) (nI a) f y.1 y.2.1 y.2.2) fu (nI c, nI (N - r), lf) = some (nI c', lf') ∧ Res s N kp [a] (k - 1) r (s a) c lf c' lf' := by
  intro r
  obtain ⟨k', hk'⟩ : ∃ k', k - 1 = k' + 1 := ⟨k - 2, by omega⟩
  rw [hk']
  induction r with
  | zero =>
    intro c lf fu hr hfu hc
    obtain ⟨m, rfl⟩ : ∃ m, fu = m + 1 := ⟨fu - 1, by omega⟩
    refine ⟨c, lf, lp_inr ?_, Res.nil⟩
    show M_X12_setsOf_b58 n (nI k) (nI N) (kI kp) (nI a) f (nI c) (nI N) lf = _
    unfold M_X12_setsOf_b58
    rw [if_pos (show nI N ≤ nI N by rw [nI_leI (by omega) (by omega)]; omega)]
  | succ r ih =>
    intro c lf fu hr hfu hc
    obtain ⟨m, rfl⟩ : ∃ m, fu = m + 1 := ⟨fu - 1, by omega⟩
    rw [cnt_s] at hc
    have hsq := hs (N - (r + 1)) (by omega)
    have hx3 : s a ^^^ s (N - (r + 1)) < 2 ^ 32 := Nat.xor_lt_two_pow (hs a ha) hsq
    have key : ∃ c1 lf1, M_X12_setsOf_b58 n (nI k) (nI N) (kI kp) (nI a) f (nI c) (nI (N - (r + 1))) lf = some (Sum.inl (nI c1, nI (N - r), lf1)) ∧ Res s N kp ([a] ++ [N - (r + 1)]) k' r (s a ^^^ s (N - (r + 1))) c lf c1 lf1 := by
      unfold M_X12_setsOf_b58
      rw [if_neg (show ¬ nI N ≤ nI (N - (r + 1)) by rw [nI_leI (by omega) (by omega)]; omega), if_neg (show ¬ nI k ≤ 1 by rw [i_1, nI_leI (by omega) (by omega)]; omega), if_neg (nI_in (show a < 512 by omega) (by omega)), if_neg (nI_in (show N - (r + 1) < 512 by omega) (by omega)), nI_clamp (n := a) (by omega), nI_clamp (n := N - (r + 1)) (by omega), hf _ (show N - (r + 1) < N by omega), hf a ha, l_xor, nI_1, show N - (r + 1) + 1 = N - r by omega]
      by_cases e2 : k = 2
      · subst e2
        obtain rfl : k' = 0 := by omega
        obtain ⟨v, lf1, hz, hR1⟩ := isZero_n (s := s) (N := N) (kp := kp) (pre := [a] ++ [N - (r + 1)]) (r := r) (c := c) lf hx3 rfl rfl rfl rfl
        have hz' : M_X12_isZero (lN (s a ^^^ s (N - (r + 1)))) (kI (kp && decide (c = 0))) (nI a) (nI (N - (r + 1))) (-1) (-1) lf = some (nI v, lf1) := hz
        refine ⟨c + v, lf1, ?_, hR1⟩
        rw [if_pos (show nI 2 = 2 from rfl)]
        refine (keep3 (fun z => (M_X12_isZero (lN (s a ^^^ s (N - (r + 1)))) z (nI a) (nI (N - (r + 1))) (-1 : Int32) (-1 : Int32) lf).bind fun r25 => (lp (fun y : (Int32 × Int32 × (Nat → Int32)) => M_X12_setsOf_b128 n (nI 2) (nI N) (kI kp) (nI a) (nI (N - (r + 1))) (lN (s a ^^^ s (N - (r + 1)))) f y.1 y.2.1 y.2.2) n ((nI c + r25.1), nI (N - r), r25.2)).bind fun o27 => some (Sum.inl (o27.1, nI (N - r), o27.2))) kp (by omega)).trans ?_
        show (M_X12_isZero (lN (s a ^^^ s (N - (r + 1)))) (kI (kp && decide (c = 0))) (nI a) (nI (N - (r + 1))) (-1) (-1) lf).bind _ = _
        rw [hz', Option.bind_some]
        show (lp _ n (nI c + nI v, nI (N - r), lf1)).bind _ = _
        rw [nI_add, lvC0 (by omega) hN (by omega) _ _ _ _ _ _ (by omega)]
        rfl
      · obtain ⟨c1, lf1, hz, hR1⟩ := lvC (kp := kp) (a := a) (b := N - (r + 1)) (k := k) hn hN hs hf (by omega) hx3 r c lf n (by omega) (by omega) (by rw [show k - 2 = k' by omega]; omega)
        rw [show k - 2 = k' by omega] at hR1
        refine ⟨c1, lf1, ?_, hR1⟩
        rw [if_neg (show ¬ nI k = 2 by rw [i_2, nI_eq (by omega) (by omega)]; exact e2), hz]
        rfl
    obtain ⟨c1, lf1, hstep, hR1⟩ := key
    have hv := hR1.le
    obtain ⟨c2, lf2, h2, hR2⟩ := ih c1 lf1 m (by omega) (by omega) (by omega)
    refine ⟨c2, lf2, ?_, Res.cons hR1 hR2⟩
    rw [lp_inl (y := (nI c1, nI (N - r), lf1)) hstep]
    exact h2
theorem lvA (hn : 1000 < n) (hN : N ≤ 48) (hs : ∀ q, q < N → s q < 2 ^ 32) (hf : ∀ q, q < N → f q = lN (s q)) {k : Nat} (hk1 : 1 ≤ k) (hk4 : k ≤ 4) : ∀ r c lf fu, r ≤ N → r < fu → c + cnt s N k r 0 < 2 ^ 31 →
    ∃ c' lf', lp (fun y : (Int32 × Int32 × (Nat → Int32)) => M_X12_setsOf_b6 n (nI k) (nI N) (kI kp) f y.1 y.2.1 y.2.2) fu (nI c, nI (N - r), lf) = some (nI c', lf') ∧ Res s N kp [] k r 0 c lf c' lf' := by
  intro r
  obtain ⟨k', hk'⟩ : ∃ k', k = k' + 1 := ⟨k - 1, by omega⟩
  subst hk'
  induction r with
  | zero =>
    intro c lf fu hr hfu hc
    obtain ⟨m, rfl⟩ : ∃ m, fu = m + 1 := ⟨fu - 1, by omega⟩
    refine ⟨c, lf, lp_inr ?_, Res.nil⟩
    show M_X12_setsOf_b6 n (nI (k' + 1)) (nI N) (kI kp) f (nI c) (nI N) lf = _
    unfold M_X12_setsOf_b6
    rw [if_pos (show nI N ≤ nI N by rw [nI_leI (by omega) (by omega)]; omega)]
  | succ r ih =>
    intro c lf fu hr hfu hc
    obtain ⟨m, rfl⟩ : ∃ m, fu = m + 1 := ⟨fu - 1, by omega⟩
    rw [cnt_s, Nat.zero_xor] at hc
    have hsq := hs (N - (r + 1)) (by omega)
    have key : ∃ c1 lf1, M_X12_setsOf_b6 n (nI (k' + 1)) (nI N) (kI kp) f (nI c) (nI (N - (r + 1))) lf = some (Sum.inl (nI c1, nI (N - r), lf1)) ∧ Res s N kp ([] ++ [N - (r + 1)]) k' r (0 ^^^ s (N - (r + 1))) c lf c1 lf1 := by
      rw [Nat.zero_xor]
      unfold M_X12_setsOf_b6
      rw [if_neg (show ¬ nI N ≤ nI (N - (r + 1)) by rw [nI_leI (by omega) (by omega)]; omega), if_neg (nI_in (show N - (r + 1) < 512 by omega) (by omega)), nI_clamp (n := N - (r + 1)) (by omega), hf _ (show N - (r + 1) < N by omega), nI_1 (N - (r + 1)), show N - (r + 1) + 1 = N - r by omega]
      by_cases e2 : k' = 0
      · subst e2
        obtain ⟨v, lf1, hz, hR1⟩ := isZero_n (s := s) (N := N) (kp := kp) (pre := [] ++ [N - (r + 1)]) (r := r) (c := c) lf hsq rfl rfl rfl rfl
        have hz' : M_X12_isZero (lN (s (N - (r + 1)))) (kI (kp && decide (c = 0))) (nI (N - (r + 1))) (-1) (-1) (-1) lf = some (nI v, lf1) := hz
        refine ⟨c + v, lf1, ?_, hR1⟩
        rw [if_pos (show nI (0 + 1) = 1 from rfl)]
        refine (keep3 (fun z => (M_X12_isZero (lN (s (N - (r + 1)))) z (nI (N - (r + 1))) (-1 : Int32) (-1 : Int32) (-1 : Int32) lf).bind fun r25 => (lp (fun y : (Int32 × Int32 × (Nat → Int32)) => M_X12_setsOf_b58 n (nI (0 + 1)) (nI N) (kI kp) (nI (N - (r + 1))) f y.1 y.2.1 y.2.2) n ((nI c + r25.1), nI (N - r), r25.2)).bind fun o27 => some (Sum.inl (o27.1, nI (N - r), o27.2))) kp (by omega)).trans ?_
        show (M_X12_isZero (lN (s (N - (r + 1)))) (kI (kp && decide (c = 0))) (nI (N - (r + 1))) (-1) (-1) (-1) lf).bind _ = _
        rw [hz', Option.bind_some]
        show (lp _ n (nI c + nI v, nI (N - r), lf1)).bind _ = _
        rw [nI_add, lvB0 (by omega) hN (by omega) _ _ _ _ (by omega)]
        rfl
      · obtain ⟨c1, lf1, hz, hR1⟩ := lvB (kp := kp) (a := N - (r + 1)) (k := k' + 1) hn hN hs hf (by omega) (by omega) r c lf n (by omega) (by omega) (by rw [show k' + 1 - 1 = k' by omega]; omega)
        rw [show k' + 1 - 1 = k' by omega] at hR1
        refine ⟨c1, lf1, ?_, hR1⟩
        rw [if_neg (show ¬ nI (k' + 1) = 1 by rw [i_1, nI_eq (by omega) (by omega)]; omega), hz]
        rfl
    obtain ⟨c1, lf1, hstep, hR1⟩ := key
    have hv := hR1.le
    rw [Nat.zero_xor] at hv
    obtain ⟨c2, lf2, h2, hR2⟩ := ih c1 lf1 m (by omega) (by omega) (by omega)
    refine ⟨c2, lf2, ?_, Res.cons hR1 hR2⟩
    rw [lp_inl (y := (nI c1, nI (N - r), lf1)) hstep]
    exact h2
/-- the reference's count of sets -/
theorem setsOf_n (hn : 1000 < n) (hN : N ≤ 48) (hs : ∀ q, q < N → s q < 2 ^ 32) (hf : ∀ q, q < N → f q = lN (s q)) {k : Nat} (hk1 : 1 ≤ k) (hk4 : k ≤ 4) (lf : Nat → Int32) :
    ∃ lf', M_X12_setsOf n (nI k) (nI N) (kI kp) f lf = some (nI (cnt s N k N 0), lf') ∧ ∀ i, i < 4 → lf' i = if kp = true then (match fst s N k N 0 with | some l => T4 l i | none => lf i) else lf i := by
  have hle := cnt_le s N k N 0 hN
  have h48 : 48 ^ k ≤ 48 ^ 4 := Nat.pow_le_pow_right (by decide) hk4
  obtain ⟨c', lf', h1, h2, h3⟩ := lvA (kp := kp) hn hN hs hf hk1 hk4 N 0 lf n (by omega) (by omega) (by omega)
  rw [Nat.sub_self] at h1
  refine ⟨lf', ?_, fun i hi => ?_⟩
  · unfold M_X12_setsOf
    refine lp_b h1 ?_
    rw [h2, Nat.zero_add]
  · rw [h3 i hi]
    cases kp
    · rfl
    · rw [if_pos ⟨rfl, rfl⟩, if_pos rfl]
      rfl
end ST
