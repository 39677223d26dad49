/-! Own rows: the first set; weight, count, best. -/
section FF
variable {s : Nat → Nat} {N n : Nat} {f : Nat → Int64}
theorem ffb (hn : 1000 < n) (hN : N ≤ 48) (hs : ∀ q, q < N → s q < 2 ^ 32) (hf : ∀ q, q < N → f q = lN (s q)) {sz : Nat} (hsz : sz ≤ 4) : ∀ k d D, sz = d + k → k < D → ∀ r x p2, r ≤ N → x < 2 ^ 32 →
    ∃ p2' res, M_X3_findFirstBehind n D (nI sz) (nI d) (nI (N - r)) (lN x) f (nI N) p2 4 = some (res, p2') ∧ (∀ i, i < d → p2' i = p2 i) ∧ ((fst s N k r x = none ∧ res = 0) ∨ (∃ l, fst s N k r x = some l ∧ res = 1 ∧ ∀ i v, l[i]? = some v → p2' (d + i) = nI v)) := by
  intro k
  induction k with
  | zero =>
    intro d D hd hD r x p2 hr hx
    obtain ⟨D', rfl⟩ : ∃ D', D = D' + 1 := ⟨D - 1, by omega⟩
    show ∃ p2' res, M_X3_findFirstBehind_F n (M_X3_findFirstBehind n D') (nI sz) (nI d) (nI (N - r)) (lN x) f (nI N) p2 4 = some (res, p2') ∧ _
    unfold M_X3_findFirstBehind_F
    rw [if_pos (show nI sz ≤ nI d by rw [nI_leI (by omega) (by omega)]; omega), fst_0]
    by_cases e : x = 0
    · rw [if_pos (show lN x = 0 by rw [e]; rfl), if_pos e]
      exact ⟨p2, 1, rfl, fun _ _ => rfl, Or.inr ⟨[], rfl, rfl, fun i v h => by simp at h⟩⟩
    · rw [if_neg (show ¬ lN x = 0 by rw [l_0, pk_lEQ (by omega) (by omega)]; exact e), if_neg e]
      exact ⟨p2, 0, rfl, fun _ _ => rfl, Or.inl ⟨rfl, rfl⟩⟩
  | succ k ih =>
    intro d D hd hD r x p2 hr hx
    obtain ⟨D', rfl⟩ : ∃ D', D = D' + 1 := ⟨D - 1, by omega⟩
    have loop : ∀ r p2 fu, r ≤ N → r < fu → ∃ out, lp (fun y : (Int32 × (Nat → Int32)) => M_X3_findFirstBehind_b28 n (M_X3_findFirstBehind n D') (nI sz) (nI d) (lN x) f (nI N) 4 y.1 y.2) fu (nI (N - r), p2) = some out ∧
        ((fst s N (k + 1) r x = none ∧ ∃ p2', out = Sum.inl p2' ∧ ∀ i, i < d → p2' i = p2 i) ∨ (∃ l p2', fst s N (k + 1) r x = some l ∧ out = Sum.inr (1, p2') ∧ (∀ i, i < d → p2' i = p2 i) ∧ ∀ i v, l[i]? = some v → p2' (d + i) = nI v)) := by
      intro r
      induction r with
      | zero =>
        intro p2 fu hr hfu
        obtain ⟨m, rfl⟩ : ∃ m, fu = m + 1 := ⟨fu - 1, by omega⟩
        refine ⟨Sum.inl p2, lp_inr ?_, Or.inl ⟨rfl, p2, rfl, fun _ _ => rfl⟩⟩
        show M_X3_findFirstBehind_b28 n (M_X3_findFirstBehind n D') (nI sz) (nI d) (lN x) f (nI N) 4 (nI N) p2 = _
        unfold M_X3_findFirstBehind_b28
        rw [if_pos (show nI N ≤ nI N by rw [nI_leI (by omega) (by omega)]; omega)]
      | succ r ihr =>
        intro p2 fu hr hfu
        obtain ⟨m, rfl⟩ : ∃ m, fu = m + 1 := ⟨fu - 1, by omega⟩
        have hsq := hs (N - (r + 1)) (by omega)
        have hx3 : x ^^^ s (N - (r + 1)) < 2 ^ 32 := Nat.xor_lt_two_pow hx hsq
        obtain ⟨p3, res, h1, h2, h3⟩ := ih (d + 1) D' (by omega) (by omega) r (x ^^^ s (N - (r + 1))) (upd p2 d (nI (N - (r + 1)))) (by omega) hx3
        have step : M_X3_findFirstBehind_b28 n (M_X3_findFirstBehind n D') (nI sz) (nI d) (lN x) f (nI N) 4 (nI (N - (r + 1))) p2 = if res = 0 then some (Sum.inl (nI (N - r), p3)) else some (Sum.inr (Sum.inr (1, p3))) := by
          unfold M_X3_findFirstBehind_b28
          rw [if_neg (show ¬ nI N ≤ nI (N - (r + 1)) by rw [nI_leI (by omega) (by omega)]; omega), if_neg (nI_in (show d < 4 by omega) (by omega)), if_neg (nI_in (show N - (r + 1) < 512 by omega) (by omega)), nI_clamp (n := d) (by omega), nI_clamp (n := N - (r + 1)) (by omega), hf _ (by omega), l_xor, nI_1, nI_1, show N - (r + 1) + 1 = N - r by omega, h1, Option.bind_some]
        rcases h3 with ⟨h3, rfl⟩ | ⟨l, h3, rfl, h4⟩
        · obtain ⟨out, k1, k2⟩ := ihr p3 m (by omega) (by omega)
          rw [if_pos z_eq] at step
          have hp : ∀ i, i < d → p3 i = p2 i := fun i hi => by rw [h2 i (by omega), up_ne _ _ (by omega)]
          refine ⟨out, by rw [lp_inl (y := (nI (N - r), p3)) step]; exact k1, ?_⟩
          rw [fst_s, h3]
          rcases k2 with ⟨k2, p4, k3, k4⟩ | ⟨l, p4, k2, k3, k4, k5⟩
          · exact Or.inl ⟨k2, p4, k3, fun i hi => by rw [k4 i hi, hp i hi]⟩
          · exact Or.inr ⟨l, p4, k2, k3, fun i hi => by rw [k4 i hi, hp i hi], k5⟩
        · rw [if_neg one_ne] at step
          refine ⟨Sum.inr (1, p3), lp_inr step, Or.inr ⟨(N - (r + 1)) :: l, p3, ?_, rfl, fun i hi => by rw [h2 i (by omega), up_ne _ _ (by omega)], fun i v hv => ?_⟩⟩
          · rw [fst_s, h3]
          · cases i with
            | zero =>
              simp at hv
              rw [Nat.add_zero, h2 d (by omega), up_at, hv]
            | succ i =>
              rw [List.getElem?_cons_succ] at hv
              rw [show d + (i + 1) = d + 1 + i by omega]
              exact h4 i v hv
    show ∃ p2' res, M_X3_findFirstBehind_F n (M_X3_findFirstBehind n D') (nI sz) (nI d) (nI (N - r)) (lN x) f (nI N) p2 4 = some (res, p2') ∧ _
    unfold M_X3_findFirstBehind_F
    rw [if_neg (show ¬ nI sz ≤ nI d by rw [nI_leI (by omega) (by omega)]; omega), if_pos (show nI d < Int32.ofNat 4 by rw [ofn, nI_ltI (by omega) (by omega)]; omega)]
    obtain ⟨out, k1, k2⟩ := loop r p2 n hr (by omega)
    rw [k1, Option.bind_some]
    rcases k2 with ⟨k2, p4, rfl, k4⟩ | ⟨l, p4, k2, rfl, k4, k5⟩
    · exact ⟨p4, 0, rfl, k4, Or.inl ⟨k2, rfl⟩⟩
    · exact ⟨p4, 1, rfl, k4, Or.inr ⟨l, k2, rfl, k5⟩⟩
end FF
def wOf (s : Nat → Nat) (N : Nat) : Nat := if cnt s N 1 N 0 ≠ 0 then 1 else if cnt s N 2 N 0 ≠ 0 then 2 else if cnt s N 3 N 0 ≠ 0 then 3 else if cnt s N 4 N 0 ≠ 0 then 4 else 5
def cOf (s : Nat → Nat) (N : Nat) : Nat := if wOf s N ≤ 4 then cnt s N (wOf s N) N 0 else 0
theorem wOf_r (s : Nat → Nat) (N : Nat) : 1 ≤ wOf s N ∧ wOf s N ≤ 5 := by
  unfold wOf
  split
  · omega
  · split
    · omega
    · split
      · omega
      · split <;> omega
theorem wOf_lo (s : Nat → Nat) (N k : Nat) (h1 : 1 ≤ k) (h2 : k < wOf s N) : cnt s N k N 0 = 0 := by
  unfold wOf at h2
  by_cases e1 : cnt s N 1 N 0 ≠ 0
  · rw [if_pos e1] at h2; omega
  · rw [if_neg e1] at h2
    by_cases e2 : cnt s N 2 N 0 ≠ 0
    · rw [if_pos e2] at h2
      have : k = 1 := by omega
      subst this; omega
    · rw [if_neg e2] at h2
      by_cases e3 : cnt s N 3 N 0 ≠ 0
      · rw [if_pos e3] at h2
        have : k = 1 ∨ k = 2 := by omega
        rcases this with rfl | rfl <;> omega
      · rw [if_neg e3] at h2
        by_cases e4 : cnt s N 4 N 0 ≠ 0
        · rw [if_pos e4] at h2
          have : k = 1 ∨ k = 2 ∨ k = 3 := by omega
          rcases this with rfl | rfl | rfl <;> omega
        · rw [if_neg e4] at h2
          have : k = 1 ∨ k = 2 ∨ k = 3 ∨ k = 4 := by omega
          rcases this with rfl | rfl | rfl | rfl <;> omega
theorem wOf_is {s : Nat → Nat} {N k : Nat} (h1 : 1 ≤ k) (h5 : k ≤ 5) (hlo : ∀ j, 1 ≤ j → j < k → cnt s N j N 0 = 0) (hhi : k ≤ 4 → cnt s N k N 0 ≠ 0) : wOf s N = k := by
  have hr := wOf_r s N
  rcases Nat.lt_trichotomy (wOf s N) k with h | h | h
  · have h9 := hlo _ hr.1 h
    -- the one below is no zero
    have : cnt s N (wOf s N) N 0 ≠ 0 := by
      unfold wOf
      split
      · assumption
      · split
        · assumption
        · split
          · assumption
          · split
            · assumption
            · rename_i a b c d
              have : wOf s N = 5 := by unfold wOf; rw [if_neg a, if_neg b, if_neg c, if_neg d]
              omega
    exact absurd h9 this
  · exact h
  · have := wOf_lo s N k h1 h
    exact absurd this (hhi (by omega))
theorem cnt_31 {s : Nat → Nat} {N k : Nat} (hN : N ≤ 48) (hk : k ≤ 4) : cnt s N k N 0 < 2 ^ 24 := by
  have hle := cnt_le s N k N 0 hN
  have h48 : 48 ^ k ≤ 48 ^ 4 := Nat.pow_le_pow_right (by decide) hk
  omega
section LS
variable {s : Nat → Nat} {N n : Nat} {f : Nat → Int64}
theorem least_n (hn : 10000 < n) (hN : N ≤ 48) (hs : ∀ q, q < N → s q < 2 ^ 32) (hf : ∀ q, q < N → f q = lN (s q)) (fe ne : Nat → Int32) (nu : Nat → Int64) (co : Nat → Int32) (sz : Int32) : ∃ r, M_X3_leastSize n f (nI N) fe ne nu co sz = some (nI (wOf s N), r) := by
  unfold M_X3_leastSize
  obtain ⟨⟨r0, r1⟩, h1, h2⟩ := lp_run (f := fun x : (Int32 × (Nat → Int32) × (Nat → Int32) × (Nat → Int64) × (Nat → Int32) × Int32) => M_X3_leastSize_b2 n f (nI N) x.1 x.2.1 x.2.2.1 x.2.2.2.1 x.2.2.2.2.1 x.2.2.2.2.2)
    (fun i x => x.1 = nI (i + 1) ∧ ∀ k, 1 ≤ k → k < i + 1 → cnt s N k N 0 = 0) (fun r => r.1 = nI (wOf s N)) 4
    (by
      rintro i ⟨x0, x1, x2, x3, x4, x5⟩ hi ⟨rfl, hz⟩
      obtain ⟨r, hr⟩ := howMany_n (s := s) (N := N) (f := f) (fe := x1) (ne := x2) (nu := x3) (co := x4) (sz := x5) (k := i + 1) hn hN hs hf (by omega) (by omega)
      have hb := cnt_31 (s := s) (k := i + 1) hN (by omega)
      show (∃ y, M_X3_leastSize_b2 n f (nI N) (nI (i + 1)) x1 x2 x3 x4 x5 = some (.inl y) ∧ _) ∨ (∃ r, M_X3_leastSize_b2 n f (nI N) (nI (i + 1)) x1 x2 x3 x4 x5 = some (.inr r) ∧ _)
      unfold M_X3_leastSize_b2
      rw [if_neg (show ¬ (4 : Int32) < nI (i + 1) by rw [i_4, nI_ltI (by omega) (by omega)]; omega), hr, Option.bind_some]
      by_cases e : cnt s N (i + 1) N 0 = 0
      · left
        rw [if_pos (show nI (cnt s N (i + 1) N 0) = 0 by rw [e]; rfl), nI_1]
        refine ⟨_, rfl, rfl, fun k hk1 hk => ?_⟩
        by_cases ek : k = i + 1
        · rw [ek]; exact e
        · exact hz k hk1 (by omega)
      · right
        rw [if_neg (show ¬ nI (cnt s N (i + 1) N 0) = 0 by rw [i_0, nI_eq (by omega) (by omega)]; exact e)]
        refine ⟨_, rfl, ?_⟩
        show nI (i + 1) = _
        rw [wOf_is (by omega) (by omega) hz (fun _ => e)])
    (by
      rintro ⟨x0, x1, x2, x3, x4, x5⟩ ⟨rfl, hz⟩
      refine ⟨(nI 5, x1, x2, x3, x4, x5), ?_, ?_⟩
      · show M_X3_leastSize_b2 n f (nI N) (nI 5) x1 x2 x3 x4 x5 = _
        unfold M_X3_leastSize_b2
        rw [if_pos (show (4 : Int32) < nI 5 by decide)]
      · show nI 5 = _
        rw [wOf_is (k := 5) (by omega) (by omega) hz (fun h => by omega)]) n 0 ((1 : Int32), fe, ne, nu, co, sz) (by omega) (by omega) ⟨rfl, fun k h1 h2 => by omega⟩
  replace h2 : r0 = _ := h2
  subst h2
  exact ⟨_, lp_b h1 rfl⟩
end LS
theorem I_light.congr {c : Int32} {f g g' : Nat → Int32} (h : I_light c f g) (hg : ∀ i, i < 4 → g' i = g i) : I_light c f g' := by
  obtain ⟨k, hk, e, h2⟩ := h
  exact ⟨k, hk, e, fun j hj => by rw [hg j hj]; exact h2 j hj⟩
theorem weight_M {s : Nat → Nat} {n m : Nat} {f : Nat → Int64} (hn : 10000 < n) (hm : m ≤ 6) (hs : ∀ q, q < 8 * m → s q < 2 ^ 32) (hf : ∀ q, q < 8 * m → f q = lN (s q)) (lg : Nat → Int32) :
    (wOf s (8 * m) ≤ 4 ∧ ∃ l lf2, fst s (8 * m) (wOf s (8 * m)) (8 * m) 0 = some l ∧ (∀ i, i < 4 → lf2 i = T4 l i) ∧ lp (fun x : (Int32 × (Nat → Int32)) => M_X12_weight_b36 n (nI m) f x.1 x.2) n ((1 : Int32), lg) = some (Sum.inr (nI (wOf s (8 * m)), f, lf2))) ∨
    (wOf s (8 * m) = 5 ∧ ∃ lf2, (∀ i, i < 4 → lf2 i = lg i) ∧ lp (fun x : (Int32 × (Nat → Int32)) => M_X12_weight_b36 n (nI m) f x.1 x.2) n ((1 : Int32), lg) = some (Sum.inl lf2)) := by
  have e8 : (8 : Int32) * nI m = nI (8 * m) := pk_mul 8 m
  obtain ⟨out, k1, k2⟩ := lp_run (f := fun x : (Int32 × (Nat → Int32)) => M_X12_weight_b36 n (nI m) f x.1 x.2)
    (fun i x => x.1 = nI (i + 1) ∧ (∀ k, 1 ≤ k → k < i + 1 → cnt s (8 * m) k (8 * m) 0 = 0) ∧ ∀ j, j < 4 → x.2 j = lg j)
    (fun out => (wOf s (8 * m) ≤ 4 ∧ ∃ l lf2, fst s (8 * m) (wOf s (8 * m)) (8 * m) 0 = some l ∧ (∀ i, i < 4 → lf2 i = T4 l i) ∧ out = Sum.inr (nI (wOf s (8 * m)), f, lf2)) ∨ (wOf s (8 * m) = 5 ∧ ∃ lf2, (∀ i, i < 4 → lf2 i = lg i) ∧ out = Sum.inl lf2)) 4
    (by
      rintro i ⟨x0, x1⟩ hi ⟨rfl, hz, hx1⟩
      replace hx1 : ∀ j, j < 4 → x1 j = lg j := hx1
      obtain ⟨lf', hS1, hS2⟩ := setsOf_n (n := n) (kp := true) (k := i + 1) (by omega) (show 8 * m ≤ 48 by omega) hs hf (by omega) (by omega) x1
      have hb := cnt_31 (s := s) (N := 8 * m) (k := i + 1) (by omega) (by omega)
      have hS1' : M_X12_setsOf n (nI (i + 1)) (nI (8 * m)) 1 f x1 = some (nI (cnt s (8 * m) (i + 1) (8 * m) 0), lf') := hS1
      show (∃ y, M_X12_weight_b36 n (nI m) f (nI (i + 1)) x1 = some (.inl y) ∧ _) ∨ (∃ r, M_X12_weight_b36 n (nI m) f (nI (i + 1)) x1 = some (.inr r) ∧ _)
      unfold M_X12_weight_b36
      rw [if_neg (show ¬ (5 : Int32) ≤ nI (i + 1) by rw [i_5, nI_leI (by omega) (by omega)]; omega), e8, hS1', Option.bind_some]
      by_cases e : cnt s (8 * m) (i + 1) (8 * m) 0 = 0
      · left
        rw [if_pos (show nI (cnt s (8 * m) (i + 1) (8 * m) 0) ≤ 0 by rw [e]; decide), nI_1]
        refine ⟨_, rfl, rfl, fun k hk1 hk => ?_, fun j hj => ?_⟩
        · by_cases ek : k = i + 1
          · rw [ek]; exact e
          · exact hz k hk1 (by omega)
        · show lf' j = _
          rw [hS2 j hj, if_pos rfl, (fst_cnt _ _ _ _ _).mp e]
          exact hx1 j hj
      · right
        rw [if_neg (show ¬ nI (cnt s (8 * m) (i + 1) (8 * m) 0) ≤ 0 by rw [i_0, nI_leI (by omega) (by omega)]; omega)]
        have hwi : wOf s (8 * m) = i + 1 := wOf_is (by omega) (by omega) hz (fun _ => e)
        have hne : fst s (8 * m) (i + 1) (8 * m) 0 ≠ none := fun h9 => e ((fst_cnt _ _ _ _ _).mpr h9)
        refine ⟨_, rfl, Or.inl ⟨by omega, ?_⟩⟩
        rw [hwi]
        cases hfs : fst s (8 * m) (i + 1) (8 * m) 0 with
        | none => exact absurd hfs hne
        | some l =>
          refine ⟨l, lf', rfl, fun j hj => ?_, rfl⟩
          rw [hS2 j hj, if_pos rfl, hfs])
    (by
      rintro ⟨x0, x1⟩ ⟨rfl, hz, hx1⟩
      have hwi : wOf s (8 * m) = 5 := wOf_is (by omega) (by omega) hz (fun h => by omega)
      refine ⟨Sum.inl x1, ?_, Or.inr ⟨hwi, x1, hx1, rfl⟩⟩
      show M_X12_weight_b36 n (nI m) f (nI 5) x1 = _
      unfold M_X12_weight_b36
      rw [if_pos (show (5 : Int32) ≤ nI 5 by decide)]) n 0 ((1 : Int32), lg) (by omega) (by omega) ⟨rfl, fun k h1 h2 => by omega, fun _ _ => rfl⟩
  rcases k2 with ⟨k2, l, lf2, k3, k4, rfl⟩ | ⟨k2, lf2, k3, rfl⟩
  · exact Or.inl ⟨k2, l, lf2, k3, k4, k1⟩
  · exact Or.inr ⟨k2, lf2, k3, k1⟩
theorem findFirst_n {s : Nat → Nat} {n N k : Nat} {f : Nat → Int64} {l : List Nat} (hn : 1000 < n) (hN : N ≤ 48) (hs : ∀ q, q < N → s q < 2 ^ 32) (hf : ∀ q, q < N → f q = lN (s q)) (hk : k ≤ 4) (hl : fst s N k N 0 = some l) (p2 : Nat → Int32) :
    ∃ p3, M_X3_findFirst n (nI k) f (nI N) p2 4 = some p3 ∧ ∀ i v, l[i]? = some v → p3 i = nI v := by
  obtain ⟨p3, res, h1, -, h3⟩ := ffb hn hN hs hf hk k 0 6 (by omega) (by omega) N 0 p2 (by omega) (by omega)
  rw [Nat.sub_self] at h1
  rcases h3 with ⟨h3, -⟩ | ⟨l', h3, -, h4⟩
  · rw [hl] at h3; cases h3
  · rw [hl] at h3
    cases h3
    refine ⟨p3, ?_, fun i v hv => by have := h4 i v hv; rw [Nat.zero_add] at this; exact this⟩
    unfold M_X3_findFirst
    have h1' : M_X3_findFirstBehind n 6 (nI k) 0 0 0 f (nI N) p2 4 = some (res, p3) := h1
    rw [h1']
    rfl
theorem light_n {l : List Nat} {p3 lf2 : Nat → Int32} (hk : l.length ≤ 4) (h1 : ∀ i v, l[i]? = some v → p3 i = nI v) (h2 : ∀ i, i < 4 → lf2 i = T4 l i) : I_light (nI l.length) p3 lf2 := by
  refine ⟨l.length, hk, rfl, fun j hj => ?_⟩
  rw [h2 j hj]
  unfold T4
  by_cases e : j < l.length
  · have hv : l[j]? = some l[j] := List.getElem?_eq_getElem e
    rw [hv, if_pos e, h1 j _ hv]
  · rw [List.getElem?_eq_none (by omega), if_neg e]
section WO
variable {ro : RF} {c c2 : Int32} {kd mo bi tu : Nat → Int32} {po be fi : Nat → Int64} {lo wo wt ce : Nat → Int32}
theorem o_weight {n : Nat} (hn : 10000 < n) (h : I_sums ro c c2 kd mo bi tu po be fi lo wo wt ce) {lc : Int32} {lf lg : Nat → Int32} (hl : I_light lc lf lg) (x1 x2 : Int32) (sy : Nat → Int64) (pl : Int32) (fe ne : Nat → Int32) (nu : Nat → Int64) (co : Nat → Int32) (sz : Int32) (ms : Nat → Int64) :
    ∃ r r2, M_X11_weight n x1 x2 ro c sy pl fe ne nu co sz lf lc = some r ∧ M_X12_weight n x1 x2 c2 kd bi po lo ms lg = some r2 ∧ r.1 = r2.1 ∧ I_light r.2.2.2.2.2.2.2.2.2 r.2.2.2.2.2.2.2.2.1 r2.2.2 := by
  unfold M_X11_weight M_X12_weight
  rw [in_eq x2 1 6 (by decide) (by decide)]
  rcases div_at h x1 with ⟨h1, h2, h3⟩ | ⟨j, a, w, sd, k, h1, h2, h3, h4, h5, -⟩ | ⟨j, a, w', k, w, p, s, t, l, h1, h2, h3, hj, rfl, g1, g2, g3, g4, g5, g6, g7, g9, g10, g11, g12, g13, g14⟩
  · rw [h1, h3]
    exact ⟨_, _, rfl, rfl, rfl, hl⟩
  · rw [h1, h4]
    exact ⟨_, _, nd1 h2 h3 _ _, rfl, rfl, hl⟩
  · rw [h1, h2]
    dsimp only [Option.bind_some, Option.elim_some]
    rw [if_pos (show (1 : Nat) = 8 ∨ (1 : Nat) = 7 ∨ (1 : Nat) = 6 ∨ (1 : Nat) = 1 ∨ (1 : Nat) = 4 by omega), if_pos (show (1 : Nat) = 1 from rfl), if_pos z_eq]
    rcases wi_c x2 (a := 1) (b := 6) 1 6 rfl rfl (by omega) (by omega) with ⟨e1, -⟩ | ⟨e1, m, hm, hm', rfl⟩
    · rw [e1]
      exact ⟨_, _, rfl, rfl, rfl, hl⟩
    · rw [e1, if_neg one_ne, if_neg one_ne]
      have hq := pow_le g3
      obtain ⟨f, hf1, hf2⟩ := load_n (n := m) hn (by omega) g2 g3 g4 g7 sy pl
      obtain ⟨f', hf1', hf2'⟩ := findSyn_n (bi := bi) (po := po) (lo := lo) (n := m) hn (by omega) hj g2 g3 g4 g7 g10 g11 g14 ms
      obtain ⟨S, hS⟩ : ∃ S : Nat → Nat, ∀ q, S q = syn w p l m q := ⟨_, fun _ => rfl⟩
      have hs : ∀ q, q < 8 * m → S q < 2 ^ 32 := fun q _ => by have := syn_lt g4 l m q; rw [hS]; omega
      replace hf2 : ∀ q, q < 8 * m → f q = lN (S q) := fun q hq' => by rw [hS]; exact hf2 q hq'
      replace hf2' : ∀ q, q < 8 * m → f' q = lN (S q) := fun q hq' => by rw [hS]; exact hf2' q hq'
      rw [hf1, hf1']
      dsimp only [Option.bind_some]
      obtain ⟨r6, hr6⟩ := least_n (s := S) (N := 8 * m) (f := f) hn (by omega) hs hf2 fe ne nu co sz
      rw [hr6]
      dsimp only [Option.bind_some]
      rcases weight_M (n := n) (m := m) (f := f') hn hm' hs hf2' lg with ⟨k1, ll, lf2, k2, k3, k4⟩ | ⟨k1, lf2, k2, k3⟩
      · have hlen := fst_len _ _ _ _ _ _ k2
        obtain ⟨p3, q1, q2⟩ := findFirst_n (n := n) (by omega) (show 8 * m ≤ 48 by omega) hs hf2 k1 k2 lf
        rw [if_pos (show nI (wOf S (8 * m)) ≤ 4 by rw [i_4, nI_leI (by omega) (by omega)]; exact k1), q1, k4]
        dsimp only [Option.bind_some, Sum.elim_inr]
        have hL := light_n (by omega) q2 k3
        rw [hlen] at hL
        exact ⟨_, _, rfl, rfl, rfl, hL⟩
      · rw [if_neg (show ¬ nI (wOf S (8 * m)) ≤ 4 by rw [i_4, nI_leI (by omega) (by omega)]; omega), k3]
        dsimp only [Option.bind_some, Sum.elim_inl]
        exact ⟨_, _, rfl, rfl, rfl, hl.congr k2⟩
theorem o_count {n : Nat} (hn : 10000 < n) (h : I_sums ro c c2 kd mo bi tu po be fi lo wo wt ce) {lc : Int32} {lf lg : Nat → Int32} (hl : I_light lc lf lg) (x1 x2 x3 : Int32) (sy : Nat → Int64) (pl : Int32) (fe ne : Nat → Int32) (nu : Nat → Int64) (co : Nat → Int32) (sz : Int32) (ms : Nat → Int64) :
    ∃ r r2, M_X11_count n x1 x2 x3 ro c sy pl fe ne nu co sz = some r ∧ M_X12_count n x1 x2 x3 c2 kd bi po lo ms lg = some r2 ∧ r.1 = r2.1 ∧ I_light lc lf r2.2.2 := by
  unfold M_X11_count M_X12_count
  rw [in_eq x2 1 4 (by decide) (by decide), in_eq x3 1 6 (by decide) (by decide)]
  rcases div_at h x1 with ⟨h1, h2, h3⟩ | ⟨j, a, w, sd, k, h1, h2, h3, h4, h5, -⟩ | ⟨j, a, w', k, w, p, s, t, l, h1, h2, h3, hj, rfl, g1, g2, g3, g4, g5, g6, g7, g9, g10, g11, g12, g13, g14⟩
  · rw [h1, h3]
    exact ⟨_, _, rfl, rfl, rfl, hl⟩
  · rw [h1, h4]
    exact ⟨_, _, nd1 h2 h3 _ _, rfl, rfl, hl⟩
  · rw [h1, h2]
    dsimp only [Option.bind_some, Option.elim_some]
    rw [if_pos (show (1 : Nat) = 8 ∨ (1 : Nat) = 7 ∨ (1 : Nat) = 6 ∨ (1 : Nat) = 1 ∨ (1 : Nat) = 4 by omega), if_pos (show (1 : Nat) = 1 from rfl), if_pos z_eq]
    rcases wi_c x2 (a := 1) (b := 4) 1 4 rfl rfl (by omega) (by omega) with ⟨e1, -⟩ | ⟨e1, b, hb, hb', rfl⟩
    · rw [e1]
      exact ⟨_, _, rfl, rfl, rfl, hl⟩
    rw [e1, if_neg one_ne, if_neg one_ne]
    rcases wi_c x3 (a := 1) (b := 6) 1 6 rfl rfl (by omega) (by omega) with ⟨e2, -⟩ | ⟨e2, m, hm, hm', rfl⟩
    · rw [e2]
      exact ⟨_, _, rfl, rfl, rfl, hl⟩
    rw [e2, if_neg one_ne, if_neg one_ne]
    have hq := pow_le g3
    have e8 : (8 : Int32) * nI m = nI (8 * m) := pk_mul 8 m
    obtain ⟨f, hf1, hf2⟩ := load_n (n := m) hn (by omega) g2 g3 g4 g7 sy pl
    obtain ⟨f', hf1', hf2'⟩ := findSyn_n (bi := bi) (po := po) (lo := lo) (n := m) hn (by omega) hj g2 g3 g4 g7 g10 g11 g14 ms
    obtain ⟨S, hS⟩ : ∃ S : Nat → Nat, ∀ q, S q = syn w p l m q := ⟨_, fun _ => rfl⟩
    have hs : ∀ q, q < 8 * m → S q < 2 ^ 32 := fun q _ => by have := syn_lt g4 l m q; rw [hS]; omega
    replace hf2 : ∀ q, q < 8 * m → f q = lN (S q) := fun q hq' => by rw [hS]; exact hf2 q hq'
    replace hf2' : ∀ q, q < 8 * m → f' q = lN (S q) := fun q hq' => by rw [hS]; exact hf2' q hq'
    obtain ⟨r, hr⟩ := howMany_n (s := S) (N := 8 * m) (f := f) (fe := fe) (ne := ne) (nu := nu) (co := co) (sz := sz) hn (by omega) hs hf2 hb hb'
    obtain ⟨lf', hS1, hS2⟩ := setsOf_n (n := n) (kp := false) (k := b) (by omega) (show 8 * m ≤ 48 by omega) hs hf2' hb hb' lg
    have hS1' : M_X12_setsOf n (nI b) (nI (8 * m)) 0 f' lg = some (nI (cnt S (8 * m) b (8 * m) 0), lf') := hS1
    rw [hf1, hf1', e8]
    dsimp only [Option.bind_some]
    rw [hr, hS1']
    exact ⟨_, _, rfl, rfl, rfl, hl.congr (fun i hi => (hS2 i hi).trans rfl)⟩
end WO
/-! best -/
def bst (w k : Nat) : Nat → Int32 × Nat × Nat
  | 0 => (-1, 0, 0)
  | i + 1 => if (bst w k i).2.1 < wOf (syn w (2 * i + 1) 0 k) (8 * k) ∨ (wOf (syn w (2 * i + 1) 0 k) (8 * k) = (bst w k i).2.1 ∧ cOf (syn w (2 * i + 1) 0 k) (8 * k) < (bst w k i).2.2) then (nI (2 * i + 1), wOf (syn w (2 * i + 1) 0 k) (8 * k), cOf (syn w (2 * i + 1) 0 k) (8 * k)) else bst w k i
theorem bst_r {w k : Nat} (hk : k ≤ 3) : ∀ i, (bst w k i).2.1 ≤ 5 ∧ (bst w k i).2.2 < 2 ^ 24 ∧ ((bst w k i).2.1 = 5 → (bst w k i).2.2 = 0) ∧ (0 < i → 1 ≤ (bst w k i).2.1) ∧ (i < 200 → 0 < i → (bst w k i).1 ≠ -1) := by
  intro i
  induction i with
  | zero => exact ⟨by show (0 : Nat) ≤ 5; omega, by show (0 : Nat) < _; omega, fun h => (by cases h), fun h => (by omega), fun _ h => (by omega)⟩
  | succ i ih =>
    obtain ⟨h1, h2, h3, h4, h5⟩ := ih
    have hw := wOf_r (syn w (2 * i + 1) 0 k) (8 * k)
    have hc : cOf (syn w (2 * i + 1) 0 k) (8 * k) < 2 ^ 24 := by
      unfold cOf
      split
      · rename_i h9
        exact cnt_31 (by omega) h9
      · omega
    have hc5 : wOf (syn w (2 * i + 1) 0 k) (8 * k) = 5 → cOf (syn w (2 * i + 1) 0 k) (8 * k) = 0 := fun e => by
      unfold cOf
      rw [if_neg (by omega)]
    have e1 : bst w k (i + 1) = if (bst w k i).2.1 < wOf (syn w (2 * i + 1) 0 k) (8 * k) ∨ (wOf (syn w (2 * i + 1) 0 k) (8 * k) = (bst w k i).2.1 ∧ cOf (syn w (2 * i + 1) 0 k) (8 * k) < (bst w k i).2.2) then (nI (2 * i + 1), wOf (syn w (2 * i + 1) 0 k) (8 * k), cOf (syn w (2 * i + 1) 0 k) (8 * k)) else bst w k i := rfl
    rw [e1]
    split
    · refine ⟨hw.2, hc, hc5, fun _ => hw.1, fun h200 _ e => ?_⟩
      have e' : nI (2 * i + 1) = -1 := e
      have h9 := congrArg Int32.toInt e'
      rw [nI_toInt (by omega)] at h9
      have : (-1 : Int32).toInt = -1 := by decide
      omega
    · rename_i hno
      refine ⟨h1, h2, h3, fun _ => ?_, fun h200 _ => ?_⟩
      · rcases Nat.eq_zero_or_pos i with rfl | h0
        · exact absurd (Or.inl (by show 0 < _; omega)) hno
        · exact h4 h0
      · rcases Nat.eq_zero_or_pos i with rfl | h0
        · exact absurd (Or.inl (by show 0 < _; omega)) hno
        · exact h5 (by omega) h0
/-- with none up to 4 nothing more changes -/
theorem bst_end {w k i : Nat} (hk : k ≤ 3) (h5 : (bst w k i).2.1 = 5) : ∀ d, bst w k (i + d) = bst w k i := by
  intro d
  induction d with
  | zero => rfl
  | succ d ih =>
    have hw := wOf_r (syn w (2 * (i + d) + 1) 0 k) (8 * k)
    have h0 := (bst_r (w := w) hk i).2.2.1 h5
    show (if (bst w k (i + d)).2.1 < wOf (syn w (2 * (i + d) + 1) 0 k) (8 * k) ∨ (wOf (syn w (2 * (i + d) + 1) 0 k) (8 * k) = (bst w k (i + d)).2.1 ∧ cOf (syn w (2 * (i + d) + 1) 0 k) (8 * k) < (bst w k (i + d)).2.2) then _ else bst w k (i + d)) = _
    rw [ih, if_neg (by rw [h5, h0]; omega)]
theorem pw38 {w : Nat} (h3 : 3 ≤ w) (h8 : w ≤ 8) : 2 ^ w = 2 * 2 ^ (w - 1) ∧ 2 ^ (w - 1) ≤ 128 := by
  refine ⟨pw1 (by omega), ?_⟩
  have : 2 ^ (w - 1) ≤ 2 ^ 7 := Nat.pow_le_pow_right (by decide) (by omega)
  exact this
theorem best_C {n w k : Nat} (hn : 10000 < n) (h3 : 3 ≤ w) (h8 : w ≤ 8) (hk1 : 1 ≤ k) (hk : k ≤ 3) (sy : Nat → Int64) (pl : Int32) (fe ne : Nat → Int32) (nu : Nat → Int64) (co : Nat → Int32) (sz : Int32) :
    ∃ r, M_X3_findBest n (nI w) (nI k) sy pl fe ne nu co sz = some ((bst w k (2 ^ (w - 1))).1, r) := by
  obtain ⟨hp1, hp2⟩ := pw38 h3 h8
  have hsh : ((1 : Int32) <<< (nI w &&& 31)) = nI (2 ^ w) := by
    simp (disch := omega) only [i_0, i_1, i_2, i_3, i_4, i_5, i_6, i_7, i_8, i_10, i_12, i_16, i_31, i_32, i_64, i_100, i_128, i_255, i_256, i_512, i_1000, i_1128, i_65535, i_65536, nI_add, pk_mul, pk_sub, n_and, n_or, n_xor, and_31, n_shl, n_shr, nI_ltI, nI_leI, nI_eq, nI_clamp, if_pos, if_neg, ite_true, ite_false, Option.bind_some, Option.elim_some, Option.elim_none, Sum.elim_inl, Sum.elim_inr, Nat.one_mul]
  unfold M_X3_findBest
  obtain ⟨⟨r0, r1⟩, h1, h2⟩ := lp_run (f := fun x : (Int32 × Int32 × Int32 × Int32 × (Nat → Int64) × Int32 × (Nat → Int32) × (Nat → Int32) × (Nat → Int64) × (Nat → Int32) × Int32) => M_X3_findBest_b11 n (nI w) (nI k) x.1 x.2.1 x.2.2.1 x.2.2.2.1 x.2.2.2.2.1 x.2.2.2.2.2.1 x.2.2.2.2.2.2.1 x.2.2.2.2.2.2.2.1 x.2.2.2.2.2.2.2.2.1 x.2.2.2.2.2.2.2.2.2.1 x.2.2.2.2.2.2.2.2.2.2)
    (fun i x => x.1 = (bst w k i).1 ∧ x.2.1 = nI (bst w k i).2.1 ∧ x.2.2.1 = nI (bst w k i).2.2 ∧ x.2.2.2.1 = nI (2 * i + 1)) (fun r => r.1 = (bst w k (2 ^ (w - 1))).1) (2 ^ (w - 1))
    (by
      rintro i ⟨x0, x1, x2, x3, x4, x5, x6, x7, x8, x9, x10⟩ hi ⟨e0, e1, e2, e3⟩
      replace e0 : x0 = (bst w k i).1 := e0
      replace e1 : x1 = nI (bst w k i).2.1 := e1
      replace e2 : x2 = nI (bst w k i).2.2 := e2
      replace e3 : x3 = nI (2 * i + 1) := e3
      subst e0; subst e1; subst e2; subst e3
      obtain ⟨b1, b2, b3, -, -⟩ := bst_r (w := w) hk i
      show (∃ y, M_X3_findBest_b11 n (nI w) (nI k) (bst w k i).1 (nI (bst w k i).2.1) (nI (bst w k i).2.2) (nI (2 * i + 1)) x4 x5 x6 x7 x8 x9 x10 = some (.inl y) ∧ _) ∨ (∃ r, M_X3_findBest_b11 n (nI w) (nI k) (bst w k i).1 (nI (bst w k i).2.1) (nI (bst w k i).2.2) (nI (2 * i + 1)) x4 x5 x6 x7 x8 x9 x10 = some (.inr r) ∧ _)
      have es : bst w k (i + 1) = if (bst w k i).2.1 < wOf (syn w (2 * i + 1) 0 k) (8 * k) ∨ (wOf (syn w (2 * i + 1) 0 k) (8 * k) = (bst w k i).2.1 ∧ cOf (syn w (2 * i + 1) 0 k) (8 * k) < (bst w k i).2.2) then (nI (2 * i + 1), wOf (syn w (2 * i + 1) 0 k) (8 * k), cOf (syn w (2 * i + 1) 0 k) (8 * k)) else bst w k i := rfl
      have hend := bst_end (w := w) (i := i) hk
      generalize hBB : bst w k i = BB at *
      obtain ⟨B, bw, bc⟩ := BB
      dsimp only at b1 b2 b3 es hend ⊢
      unfold M_X3_findBest_b11
      rw [hsh, if_neg (show ¬ nI (2 ^ w) ≤ nI (2 * i + 1) by rw [nI_leI (by omega) (by omega)]; omega)]
      by_cases h5 : bw = 5
      · right
        rw [if_pos (show (4 : Int32) < nI bw by rw [h5]; decide)]
        refine ⟨_, rfl, ?_⟩
        have := hend h5 (2 ^ (w - 1) - i)
        rw [show i + (2 ^ (w - 1) - i) = 2 ^ (w - 1) by omega] at this
        show B = _
        rw [this]
      · left
        have hp : 2 * i + 1 < 2 ^ w := by omega
        obtain ⟨f, hf1, hf2⟩ := load_n (N := n) (n := k) (l := 0) hn (by omega) h3 (by omega) hp (by omega) x4 x5
        have hq := pow_le (show w ≤ 32 by omega)
        have hf1' : M_X3_load n (nI k) (nI w) (nI (2 * i + 1)).toInt64 0 x4 x5 = some (f, nI (8 * k)) := by rw [nI_l (by omega)]; exact hf1
        have hs : ∀ q, q < 8 * k → syn w (2 * i + 1) 0 k q < 2 ^ 32 := fun q _ => by have := syn_lt hp 0 k q; omega
        obtain ⟨⟨r6, r7, r8, r9, r10⟩, hr6⟩ := least_n (s := syn w (2 * i + 1) 0 k) (N := 8 * k) (f := f) hn (by omega) hs hf2 x6 x7 x8 x9 x10
        have hw := wOf_r (syn w (2 * i + 1) 0 k) (8 * k)
        have hcd : cOf (syn w (2 * i + 1) 0 k) (8 * k) = if wOf (syn w (2 * i + 1) 0 k) (8 * k) ≤ 4 then cnt (syn w (2 * i + 1) 0 k) (8 * k) (wOf (syn w (2 * i + 1) 0 k) (8 * k)) (8 * k) 0 else 0 := rfl
        have hMany : wOf (syn w (2 * i + 1) 0 k) (8 * k) ≤ 4 → ∃ r, M_X3_howMany n (nI (wOf (syn w (2 * i + 1) 0 k) (8 * k))) f (nI (8 * k)) r6 r7 r8 r9 r10 = some (nI (cnt (syn w (2 * i + 1) 0 k) (8 * k) (wOf (syn w (2 * i + 1) 0 k) (8 * k)) (8 * k) 0), r) ∧ cnt (syn w (2 * i + 1) 0 k) (8 * k) (wOf (syn w (2 * i + 1) 0 k) (8 * k)) (8 * k) 0 < 2 ^ 24 := fun h9 => by
          obtain ⟨r, hr⟩ := howMany_n (s := syn w (2 * i + 1) 0 k) (N := 8 * k) (f := f) (fe := r6) (ne := r7) (nu := r8) (co := r9) (sz := r10) hn (by omega) hs hf2 hw.1 h9
          exact ⟨r, hr, cnt_31 (by omega) h9⟩
        rw [if_neg (show ¬ (4 : Int32) < nI bw by rw [i_4, nI_ltI (by omega) (by omega)]; omega), hf1']
        dsimp only [Option.bind_some]
        rw [hr6]
        dsimp only [Option.bind_some]
        generalize wOf (syn w (2 * i + 1) 0 k) (8 * k) = W at *
        generalize cOf (syn w (2 * i + 1) 0 k) (8 * k) = CC at *
        have hst : ∀ (z : Int32) (a b : Nat) (rest : (Nat → Int64) × Int32 × (Nat → Int32) × (Nat → Int32) × (Nat → Int64) × (Nat → Int32) × Int32) (o : Option ((Int32 × Int32 × Int32 × Int32 × (Nat → Int64) × Int32 × (Nat → Int32) × (Nat → Int32) × (Nat → Int64) × (Nat → Int32) × Int32) ⊕ (Int32 × (Nat → Int64) × Int32 × (Nat → Int32) × (Nat → Int32) × (Nat → Int64) × (Nat → Int32) × Int32))), bst w k (i + 1) = (z, a, b) → o = some (Sum.inl (z, nI a, nI b, nI (2 * i + 1) + 2, rest)) →
            ∃ y, o = some (.inl y) ∧ y.1 = (bst w k (i + 1)).1 ∧ y.2.1 = nI (bst w k (i + 1)).2.1 ∧ y.2.2.1 = nI (bst w k (i + 1)).2.2 ∧ y.2.2.2.1 = nI (2 * (i + 1) + 1) := by
          intro z a b rest o hb ho
          refine ⟨_, ho, by rw [hb], by rw [hb], by rw [hb], ?_⟩
          show nI (2 * i + 1) + 2 = _
          rw [i_2, nI_add]
          congr 1
        by_cases hW4 : W ≤ 4
        · obtain ⟨⟨s1, s2, s3, s4, s5⟩, hr14, hb14⟩ := hMany hW4
          rw [if_pos hW4] at hcd
          rw [hcd] at es
          rw [if_neg (show ¬ (4 : Int32) < nI W by rw [i_4, nI_ltI (by omega) (by omega)]; omega)]
          by_cases hWb : W < bw
          · rw [if_neg (by omega)] at es
            rw [if_pos ((nI_ltI (by omega) (by omega)).mpr hWb), if_neg (show ¬ nI bw < nI W by rw [nI_ltI (by omega) (by omega)]; omega), if_neg (show ¬ nI W = nI bw by rw [nI_eq (by omega) (by omega)]; omega)]
            exact hst B bw bc _ _ es rfl
          · rw [if_neg (show ¬ nI W < nI bw by rw [nI_ltI (by omega) (by omega)]; exact hWb), hr14]
            dsimp only [Option.bind_some]
            by_cases hgt : bw < W
            · rw [if_pos (Or.inl hgt)] at es
              rw [if_pos ((nI_ltI (by omega) (by omega)).mpr hgt)]
              exact hst _ _ _ _ _ es rfl
            · have heq : W = bw := by omega
              rw [if_neg (show ¬ nI bw < nI W by rw [nI_ltI (by omega) (by omega)]; exact hgt), if_pos (show nI W = nI bw by rw [heq])]
              by_cases hcc : bc ≤ cnt (syn w (2 * i + 1) 0 k) (8 * k) W (8 * k) 0
              · rw [if_neg (by omega)] at es
                rw [if_pos ((nI_leI (by omega) (by omega)).mpr hcc)]
                exact hst B bw bc _ _ es rfl
              · rw [if_pos (Or.inr ⟨heq, by omega⟩)] at es
                rw [if_neg (fun h => hcc ((nI_leI (by omega) (by omega)).mp h))]
                exact hst _ _ _ _ _ es rfl
        · have hW5 : W = 5 := by omega
          rw [if_neg hW4] at hcd
          rw [hcd] at es
          rw [if_pos (Or.inl (by omega))] at es
          rw [if_pos (show (4 : Int32) < nI W by rw [hW5]; decide), if_pos (show nI bw < nI W by rw [nI_ltI (by omega) (by omega)]; omega)]
          exact hst _ _ _ _ _ es rfl)
    (by
      rintro ⟨x0, x1, x2, x3, x4, x5, x6, x7, x8, x9, x10⟩ ⟨e0, e1, e2, e3⟩
      replace e0 : x0 = _ := e0
      replace e3 : x3 = nI (2 * 2 ^ (w - 1) + 1) := e3
      subst e0; subst e3
      refine ⟨((bst w k (2 ^ (w - 1))).1, x4, x5, x6, x7, x8, x9, x10), ?_, rfl⟩
      show M_X3_findBest_b11 n (nI w) (nI k) (bst w k (2 ^ (w - 1))).1 x1 x2 (nI (2 * 2 ^ (w - 1) + 1)) x4 x5 x6 x7 x8 x9 x10 = _
      unfold M_X3_findBest_b11
      rw [hsh, if_pos (show nI (2 ^ w) ≤ nI (2 * 2 ^ (w - 1) + 1) by rw [nI_leI (by omega) (by omega)]; omega)]) n 0 ((-1 : Int32), (0 : Int32), (0 : Int32), (1 : Int32), sy, pl, fe, ne, nu, co, sz) (by omega) (by omega) ⟨rfl, rfl, rfl, rfl⟩
  replace h2 : r0 = _ := h2
  subst h2
  exact ⟨_, lp_b h1 rfl⟩
