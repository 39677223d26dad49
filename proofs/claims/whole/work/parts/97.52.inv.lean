/-! Own rows: the invariant's parts, and the calls that need no SUM's own work. -/
def I_told (c : Int32) (f : Nat → Int32) (c2 : Int32) (f2 : Nat → Int32) : Prop := ∃ k, k ≤ 100 ∧ c = nI k ∧ c2 = nI k ∧ ∀ j, j < k → f2 j = f j ∧ ∃ v, v < 65536 ∧ f j = nI v
def I_row (c : Int32) (f : Nat → Int32) (c2 : Int32) (f2 : Nat → Int32) : Prop := ∃ k, k ≤ 64 ∧ c = nI k ∧ c2 = nI k ∧ ∀ j, j < k → f2 j = f j ∧ ∃ v, v < 256 ∧ f j = nI v
def I_trace (f f2 : Nat → Int32) : Prop := ∀ j, j < 7 → f j = f2 j
def I_kept (c : Int32) (fb fa : Nat → Int32) (c2 : Int32) (gb ga : Nat → Int32) : Prop := ∃ k, k ≤ 8 ∧ c = nI k ∧ c2 = nI k ∧ ∀ j, j < 8 → fb j = gb j ∧ fa j = ga j
def I_light (c : Int32) (f g : Nat → Int32) : Prop := ∃ k, k ≤ 4 ∧ c = nI k ∧ ∀ j, j < 4 → g j = if j < k then f j else -1
def I_free (c : Int32) (f : Nat → Int32) (c2 : Int32) (f2 : Nat → Int32) : Prop := ∃ k, k ≤ 16 ∧ c = nI k ∧ c2 = nI k ∧ ∀ j, j < k → f2 j = f j ∧ ∃ v, v < 512 ∧ f j = nI v
def I_ways (c : Int32) (f : Nat → Int32) (c2 : Int32) (f2 : Nat → Int32) : Prop := ∃ k, k ≤ 64 ∧ c = nI k ∧ c2 = nI k ∧ ∀ j, j < k → f j = f2 j
/-- a SUM's data against the reference's numbers -/
def SKv (sd : SD) (kd mo bi tu : Int32) (po be fi : Int64) (lo wo : Int32) (wt ce : Nat → Int32) : Prop :=
  (∃ m, 2 ≤ m ∧ m ≤ 65536 ∧ sd = (8, 0, nI m, 0, 0, 0, 0, 0, 1, fun _ => 1) ∧ kd = nI 0 ∧ mo = nI m) ∨
  (∃ m, 2 ≤ m ∧ m ≤ 65536 ∧ sd = (7, 1, nI m, 0, 0, 0, 0, 0, 0, fun _ => 0) ∧ kd = nI 1 ∧ mo = nI m) ∨
  (∃ m L f, 2 ≤ m ∧ m ≤ 65536 ∧ 1 ≤ L ∧ L ≤ 12 ∧ sd = (8, 2, nI m, 0, 0, 0, 0, 0, L, f) ∧ kd = nI 2 ∧ mo = nI m ∧ wo = nI L ∧ ∀ i, i < L → wt i = f i ∧ ∃ v, v < 65536 ∧ f i = nI v) ∨
  (∃ n t, 8 ≤ n ∧ n ≤ 32 ∧ t < n ∧ sd = (6, 3, nI n, nI t, 0, 0, 0, 0, 0, fun _ => 0) ∧ kd = nI 3 ∧ bi = nI n ∧ tu = nI t) ∨
  (∃ k n p b f l, (k = 4 ∨ k = 5) ∧ 3 ≤ n ∧ n ≤ 32 ∧ p < 2 ^ n ∧ b < 2 ^ n ∧ f < 2 ^ n ∧ l < 2 ∧ sd = (1, nI k, nI n, 0, lN p, lN b, lN f, nI l, 0, fun _ => 0) ∧ kd = nI k ∧ bi = nI n ∧ po = lN p ∧ be = lN b ∧ fi = lN f ∧ lo = nI l) ∨
  (∃ q f, 2 ≤ q ∧ q ≤ 10 ∧ sd = (4, 6, nI q, 0, 0, 0, 0, 0, q * q, f) ∧ kd = nI 6 ∧ mo = nI q ∧ ∀ i, i < q * q → ce i = f i ∧ ∃ v, v < q ∧ f i = nI v)
def I_sums (ro : RF) (c c2 : Int32) (kd mo bi tu : Nat → Int32) (po be fi : Nat → Int64) (lo wo wt ce : Nat → Int32) : Prop :=
  ∃ k, k ≤ 16 ∧ c = nI k ∧ c2 = nI k ∧ ∀ j, j < k → ∃ a w sd, ro j = some (a, w, sd) ∧ SKv sd (kd j) (mo j) (bi j) (tu j) (po j) (be j) (fi j) (lo j) (wo j) (fun i => wt (12 * j + i)) (fun i => ce (100 * j + i))
theorem wi_c (x : Int32) {a b : Int32} (p q : Nat) (ha : a = nI p) (hb : b = nI q) (hq : q < 2 ^ 31) (hp : p < 2 ^ 31) : (M_X11_within x a b = 0 ∧ ∀ j, p ≤ j → j ≤ q → x ≠ nI j) ∨ (M_X11_within x a b = 1 ∧ ∃ j, p ≤ j ∧ j ≤ q ∧ x = nI j) := by
  subst ha; subst hb
  exact wi_cases x hq hp
theorem chg_ok {B k K i v : Nat} {f f2 : Nat → Int32} (hf : ∀ j, j < k → f2 j = f j ∧ ∃ w, w < B ∧ f j = nI w) (hv : v < B) (hK : ∀ j, j < K → j ≠ i → j < k) : ∀ j, j < K → upd f2 i (nI v) j = upd f i (nI v) j ∧ ∃ w, w < B ∧ upd f i (nI v) j = nI w := by
  intro j hj
  by_cases e : j = i
  · subst e
    rw [up_at, up_at]
    exact ⟨rfl, v, hv, rfl⟩
  · rw [up_ne _ _ e, up_ne _ _ e]
    exact hf j (hK j hj e)
theorem o_tell {c : Int32} {f : Nat → Int32} {c2 : Int32} {f2 : Nat → Int32} (h : I_told c f c2 f2) (x1 : Int32) :
    ∃ r r2, M_X11_tell x1 f c = some r ∧ M_X12_tell x1 c2 f2 = some r2 ∧ r.1 = r2.1 ∧ I_told r.2.2 r.2.1 r2.2.1 r2.2.2 := by
  obtain ⟨k, hk, rfl, rfl, hf⟩ := h
  unfold M_X11_tell M_X12_tell
  rw [in_eq x1 0 65535 (by decide) (by decide)]
  rcases wi_cases x1 (p := 0) (q := 65535) (by omega) (by omega) with ⟨h1, -⟩ | ⟨h1, v, -, hv, rfl⟩
  · simp (disch := omega) only [h1, i_0, i_1, i_2, i_3, i_4, i_5, i_6, i_7, i_8, i_10, i_12, i_16, i_31, i_32, i_64, i_100, i_128, i_255, i_256, i_512, i_1000, i_1128, i_65535, i_65536, nI_add, pk_mul, pk_sub, nI_ltI, nI_leI, nI_eq, nI_clamp, if_pos, if_neg, ite_true, ite_false, Option.bind_some, Option.elim_some, Option.elim_none, Sum.elim_inl, Sum.elim_inr]
    exact ⟨_, _, rfl, rfl, rfl, k, hk, rfl, rfl, hf⟩
  · rcases Nat.lt_or_ge k 100 with hlt | hge
    · simp (disch := omega) only [h1, i_0, i_1, i_2, i_3, i_4, i_5, i_6, i_7, i_8, i_10, i_12, i_16, i_31, i_32, i_64, i_100, i_128, i_255, i_256, i_512, i_1000, i_1128, i_65535, i_65536, nI_add, pk_mul, pk_sub, nI_ltI, nI_leI, nI_eq, nI_clamp, if_pos, if_neg, ite_true, ite_false, Option.bind_some, Option.elim_some, Option.elim_none, Sum.elim_inl, Sum.elim_inr]
      refine ⟨_, _, rfl, rfl, rfl, k + 1, hlt, rfl, rfl, chg_ok hf (by omega) (fun j _ _ => by omega)⟩
    · simp (disch := omega) only [h1, i_0, i_1, i_2, i_3, i_4, i_5, i_6, i_7, i_8, i_10, i_12, i_16, i_31, i_32, i_64, i_100, i_128, i_255, i_256, i_512, i_1000, i_1128, i_65535, i_65536, nI_add, pk_mul, pk_sub, nI_ltI, nI_leI, nI_eq, nI_clamp, if_pos, if_neg, ite_true, ite_false, Option.bind_some, Option.elim_some, Option.elim_none, Sum.elim_inl, Sum.elim_inr]
      exact ⟨_, _, rfl, rfl, rfl, k, hk, rfl, rfl, hf⟩
theorem o_untell {c : Int32} {f : Nat → Int32} {c2 : Int32} {f2 : Nat → Int32} (h : I_told c f c2 f2) :
    ∃ r r2, M_X11_untell c = r ∧ M_X12_untell c2 = r2 ∧ r.1 = r2.1 ∧ I_told r.2 f r2.2 f2 := by
  obtain ⟨k, hk, rfl, rfl, hf⟩ := h
  exact ⟨_, _, rfl, rfl, rfl, 0, by omega, rfl, rfl, fun j hj => by omega⟩
theorem o_put {c : Int32} {f : Nat → Int32} {c2 : Int32} {f2 : Nat → Int32} (h : I_row c f c2 f2) (x1 : Int32) :
    ∃ r r2, M_X11_put x1 f c = some r ∧ M_X12_put x1 c2 f2 = some r2 ∧ r.1 = r2.1 ∧ I_row r.2.2 r.2.1 r2.2.1 r2.2.2 := by
  obtain ⟨k, hk, rfl, rfl, hf⟩ := h
  unfold M_X11_put M_X12_put M_X11_isByte
  rw [in_eq x1 0 255 (by decide) (by decide)]
  rcases wi_cases x1 (p := 0) (q := 255) (by omega) (by omega) with ⟨h1, -⟩ | ⟨h1, v, -, hv, rfl⟩
  · simp (disch := omega) only [h1, i_0, i_1, i_2, i_3, i_4, i_5, i_6, i_7, i_8, i_10, i_12, i_16, i_31, i_32, i_64, i_100, i_128, i_255, i_256, i_512, i_1000, i_1128, i_65535, i_65536, nI_add, pk_mul, pk_sub, nI_ltI, nI_leI, nI_eq, nI_clamp, if_pos, if_neg, ite_true, ite_false, Option.bind_some, Option.elim_some, Option.elim_none, Sum.elim_inl, Sum.elim_inr]
    exact ⟨_, _, rfl, rfl, rfl, k, hk, rfl, rfl, hf⟩
  · rcases Nat.lt_or_ge k 64 with hlt | hge
    · simp (disch := omega) only [h1, i_0, i_1, i_2, i_3, i_4, i_5, i_6, i_7, i_8, i_10, i_12, i_16, i_31, i_32, i_64, i_100, i_128, i_255, i_256, i_512, i_1000, i_1128, i_65535, i_65536, nI_add, pk_mul, pk_sub, nI_ltI, nI_leI, nI_eq, nI_clamp, if_pos, if_neg, ite_true, ite_false, Option.bind_some, Option.elim_some, Option.elim_none, Sum.elim_inl, Sum.elim_inr]
      refine ⟨_, _, rfl, rfl, rfl, k + 1, hlt, rfl, rfl, chg_ok hf (by omega) (fun j _ _ => by omega)⟩
    · simp (disch := omega) only [h1, i_0, i_1, i_2, i_3, i_4, i_5, i_6, i_7, i_8, i_10, i_12, i_16, i_31, i_32, i_64, i_100, i_128, i_255, i_256, i_512, i_1000, i_1128, i_65535, i_65536, nI_add, pk_mul, pk_sub, nI_ltI, nI_leI, nI_eq, nI_clamp, if_pos, if_neg, ite_true, ite_false, Option.bind_some, Option.elim_some, Option.elim_none, Sum.elim_inl, Sum.elim_inr]
      exact ⟨_, _, rfl, rfl, rfl, k, hk, rfl, rfl, hf⟩
theorem o_set {c : Int32} {f : Nat → Int32} {c2 : Int32} {f2 : Nat → Int32} (h : I_row c f c2 f2) (x1 x2 : Int32) :
    ∃ r r2, M_X11_set x1 x2 f c = some r ∧ M_X12_set x1 x2 c2 f2 = some r2 ∧ r.1 = r2.1 ∧ I_row c r.2 c2 r2.2 := by
  obtain ⟨k, hk, rfl, rfl, hf⟩ := h
  unfold M_X11_set M_X12_set M_X11_isByte
  rw [in_eq x1 0 (nI k - 1) (by decide) rfl, in_eq x2 0 255 (by decide) (by decide)]
  rcases wi_lt x1 (k := k) (by omega) with ⟨h1, -⟩ | ⟨h1, i, hi, rfl⟩
  · rw [h1, if_pos rfl, if_pos rfl]
    exact ⟨_, _, rfl, rfl, rfl, k, hk, rfl, rfl, hf⟩
  · rw [h1]
    rcases wi_cases x2 (p := 0) (q := 255) (by omega) (by omega) with ⟨h2, -⟩ | ⟨h2, v, -, hv, rfl⟩
    · simp (disch := omega) only [h2, i_0, i_1, i_2, i_3, i_4, i_5, i_6, i_7, i_8, i_10, i_12, i_16, i_31, i_32, i_64, i_100, i_128, i_255, i_256, i_512, i_1000, i_1128, i_65535, i_65536, nI_add, pk_mul, pk_sub, nI_ltI, nI_leI, nI_eq, nI_clamp, if_pos, if_neg, ite_true, ite_false, Option.bind_some, Option.elim_some, Option.elim_none, Sum.elim_inl, Sum.elim_inr]
      exact ⟨_, _, rfl, rfl, rfl, k, hk, rfl, rfl, hf⟩
    · simp (disch := omega) only [h2, i_0, i_1, i_2, i_3, i_4, i_5, i_6, i_7, i_8, i_10, i_12, i_16, i_31, i_32, i_64, i_100, i_128, i_255, i_256, i_512, i_1000, i_1128, i_65535, i_65536, nI_add, pk_mul, pk_sub, nI_ltI, nI_leI, nI_eq, nI_clamp, if_pos, if_neg, ite_true, ite_false, Option.bind_some, Option.elim_some, Option.elim_none, Sum.elim_inl, Sum.elim_inr]
      refine ⟨_, _, rfl, rfl, (hf i hi).1.symm, k, hk, rfl, rfl, chg_ok hf (by omega) (fun j _ _ => by omega)⟩
theorem o_at {c : Int32} {f : Nat → Int32} {c2 : Int32} {f2 : Nat → Int32} (h : I_row c f c2 f2) (x1 : Int32) :
    ∃ r r2, M_X11_at x1 f c = some r ∧ M_X12_at x1 c2 f2 = some r2 ∧ r = r2 := by
  obtain ⟨k, hk, rfl, rfl, hf⟩ := h
  unfold M_X11_at M_X12_at
  rw [in_eq x1 0 (nI k - 1) (by decide) rfl]
  rcases wi_lt x1 (k := k) (by omega) with ⟨h1, -⟩ | ⟨h1, i, hi, rfl⟩
  · rw [h1, if_pos rfl, if_pos rfl]
    exact ⟨_, _, rfl, rfl, rfl⟩
  · rw [h1]
    simp (disch := omega) only [i_0, i_1, i_2, i_3, i_4, i_5, i_6, i_7, i_8, i_10, i_12, i_16, i_31, i_32, i_64, i_100, i_128, i_255, i_256, i_512, i_1000, i_1128, i_65535, i_65536, nI_add, pk_mul, pk_sub, nI_ltI, nI_leI, nI_eq, nI_clamp, if_pos, if_neg, ite_true, ite_false, Option.bind_some, Option.elim_some, Option.elim_none, Sum.elim_inl, Sum.elim_inr]
    exact ⟨_, _, rfl, rfl, (hf i hi).1.symm⟩
theorem o_cut {c : Int32} {f : Nat → Int32} {c2 : Int32} {f2 : Nat → Int32} (h : I_row c f c2 f2) (x1 : Int32) :
    ∃ r r2, M_X11_cut x1 c = r ∧ M_X12_cut x1 c2 = r2 ∧ r.1 = r2.1 ∧ I_row r.2 f r2.2 f2 := by
  obtain ⟨k, hk, rfl, rfl, hf⟩ := h
  unfold M_X11_cut M_X12_cut
  rw [in_eq x1 0 (nI k) (by decide) rfl]
  rcases wi_c x1 (b := nI k) 0 k i_0 rfl (by omega) (by omega) with ⟨h1, -⟩ | ⟨h1, i, -, hi, rfl⟩
  · rw [h1]
    exact ⟨_, _, rfl, rfl, rfl, k, hk, rfl, rfl, hf⟩
  · rw [h1]
    refine ⟨_, _, rfl, rfl, rfl, i, by omega, rfl, rfl, fun j hj => hf j (by omega)⟩
theorem o_passes {c : Int32} {fb fa : Nat → Int32} {c2 : Int32} {gb ga : Nat → Int32} (h : I_kept c fb fa c2 gb ga) (x1 x2 : Int32) :
    ∃ r r2, M_X11_passes x1 x2 fb fa c = some r ∧ M_X12_passes x1 x2 c2 gb ga = some r2 ∧ r = r2 := by
  obtain ⟨k, hk, rfl, rfl, hf⟩ := h
  unfold M_X11_passes M_X12_passes
  rw [in_eq x1 0 (nI k - 1) (by decide) rfl]
  rcases wi_lt x1 (k := k) (by omega) with ⟨h1, -⟩ | ⟨h1, i, hi, rfl⟩
  · rw [h1, if_pos rfl, if_pos rfl]
    exact ⟨_, _, rfl, rfl, rfl⟩
  · rw [h1]
    by_cases e : x2 = 0
    · subst e
      simp (disch := omega) only [i_0, i_1, i_2, i_3, i_4, i_5, i_6, i_7, i_8, i_10, i_12, i_16, i_31, i_32, i_64, i_100, i_128, i_255, i_256, i_512, i_1000, i_1128, i_65535, i_65536, nI_add, pk_mul, pk_sub, nI_ltI, nI_leI, nI_eq, nI_clamp, if_pos, if_neg, ite_true, ite_false, Option.bind_some, Option.elim_some, Option.elim_none, Sum.elim_inl, Sum.elim_inr]
      exact ⟨_, _, rfl, rfl, (hf i (by omega)).1⟩
    · rw [if_neg e, if_neg e]
      simp (disch := omega) only [i_0, i_1, i_2, i_3, i_4, i_5, i_6, i_7, i_8, i_10, i_12, i_16, i_31, i_32, i_64, i_100, i_128, i_255, i_256, i_512, i_1000, i_1128, i_65535, i_65536, nI_add, pk_mul, pk_sub, nI_ltI, nI_leI, nI_eq, nI_clamp, if_pos, if_neg, ite_true, ite_false, Option.bind_some, Option.elim_some, Option.elim_none, Sum.elim_inl, Sum.elim_inr]
      exact ⟨_, _, rfl, rfl, (hf i (by omega)).2⟩
theorem o_lightest {c : Int32} {f g : Nat → Int32} (h : I_light c f g) (x1 : Int32) :
    ∃ r r2, M_X11_lightest x1 f c = some r ∧ M_X12_lightest x1 g = some r2 ∧ r = r2 := by
  obtain ⟨k, hk, rfl, hf⟩ := h
  unfold M_X11_lightest M_X12_lightest
  rw [in_eq x1 0 3 (by decide) (by decide)]
  rcases wi_cases x1 (p := 0) (q := 3) (by omega) (by omega) with ⟨h1, -⟩ | ⟨h1, i, -, hi, rfl⟩
  · simp (disch := omega) only [h1, i_0, i_1, i_2, i_3, i_4, i_5, i_6, i_7, i_8, i_10, i_12, i_16, i_31, i_32, i_64, i_100, i_128, i_255, i_256, i_512, i_1000, i_1128, i_65535, i_65536, nI_add, pk_mul, pk_sub, nI_ltI, nI_leI, nI_eq, nI_clamp, if_pos, if_neg, ite_true, ite_false, Option.bind_some, Option.elim_some, Option.elim_none, Sum.elim_inl, Sum.elim_inr]
    exact ⟨_, _, rfl, rfl, rfl⟩
  · have hg := hf i (by omega)
    rcases Nat.lt_or_ge i k with hlt | hge
    · rw [if_pos hlt] at hg
      simp (disch := omega) only [h1, i_0, i_1, i_2, i_3, i_4, i_5, i_6, i_7, i_8, i_10, i_12, i_16, i_31, i_32, i_64, i_100, i_128, i_255, i_256, i_512, i_1000, i_1128, i_65535, i_65536, nI_add, pk_mul, pk_sub, nI_ltI, nI_leI, nI_eq, nI_clamp, if_pos, if_neg, ite_true, ite_false, Option.bind_some, Option.elim_some, Option.elim_none, Sum.elim_inl, Sum.elim_inr]
      exact ⟨_, _, rfl, rfl, hg.symm⟩
    · rw [if_neg (by omega)] at hg
      simp (disch := omega) only [h1, i_0, i_1, i_2, i_3, i_4, i_5, i_6, i_7, i_8, i_10, i_12, i_16, i_31, i_32, i_64, i_100, i_128, i_255, i_256, i_512, i_1000, i_1128, i_65535, i_65536, nI_add, pk_mul, pk_sub, nI_ltI, nI_leI, nI_eq, nI_clamp, if_pos, if_neg, ite_true, ite_false, Option.bind_some, Option.elim_some, Option.elim_none, Sum.elim_inl, Sum.elim_inr]
      exact ⟨_, _, rfl, rfl, hg.symm⟩
theorem o_way {c : Int32} {f : Nat → Int32} {c2 : Int32} {f2 : Nat → Int32} (h : I_ways c f c2 f2) (x1 : Int32) :
    ∃ r r2, M_X11_way x1 f c = some r ∧ M_X12_way x1 f2 c2 = some r2 ∧ r = r2 := by
  obtain ⟨k, hk, rfl, rfl, hf⟩ := h
  unfold M_X11_way M_X12_way
  rw [in_eq x1 0 (nI k - 1) (by decide) rfl]
  rcases wi_lt x1 (k := k) (by omega) with ⟨h1, -⟩ | ⟨h1, i, hi, rfl⟩
  · rw [h1, if_pos rfl, if_pos rfl]
    exact ⟨_, _, rfl, rfl, rfl⟩
  · rw [h1]
    simp (disch := omega) only [i_0, i_1, i_2, i_3, i_4, i_5, i_6, i_7, i_8, i_10, i_12, i_16, i_31, i_32, i_64, i_100, i_128, i_255, i_256, i_512, i_1000, i_1128, i_65535, i_65536, nI_add, pk_mul, pk_sub, nI_ltI, nI_leI, nI_eq, nI_clamp, if_pos, if_neg, ite_true, ite_false, Option.bind_some, Option.elim_some, Option.elim_none, Sum.elim_inl, Sum.elim_inr]
    exact ⟨_, _, rfl, rfl, hf i hi⟩
theorem o_trace {f f2 : Nat → Int32} (h : I_trace f f2) (x1 : Int32) :
    ∃ r r2, M_X11_trace x1 f = some r ∧ M_X12_trace x1 f2 = some r2 ∧ r = r2 := by
  unfold M_X11_trace M_X12_trace
  rw [in_eq x1 0 6 (by decide) (by decide)]
  rcases wi_cases x1 (p := 0) (q := 6) (by omega) (by omega) with ⟨h1, -⟩ | ⟨h1, i, -, hi, rfl⟩
  · simp (disch := omega) only [h1, i_0, i_1, i_2, i_3, i_4, i_5, i_6, i_7, i_8, i_10, i_12, i_16, i_31, i_32, i_64, i_100, i_128, i_255, i_256, i_512, i_1000, i_1128, i_65535, i_65536, nI_add, pk_mul, pk_sub, nI_ltI, nI_leI, nI_eq, nI_clamp, if_pos, if_neg, ite_true, ite_false, Option.bind_some, Option.elim_some, Option.elim_none, Sum.elim_inl, Sum.elim_inr]
    exact ⟨_, _, rfl, rfl, rfl⟩
  · simp (disch := omega) only [h1, i_0, i_1, i_2, i_3, i_4, i_5, i_6, i_7, i_8, i_10, i_12, i_16, i_31, i_32, i_64, i_100, i_128, i_255, i_256, i_512, i_1000, i_1128, i_65535, i_65536, nI_add, pk_mul, pk_sub, nI_ltI, nI_leI, nI_eq, nI_clamp, if_pos, if_neg, ite_true, ite_false, Option.bind_some, Option.elim_some, Option.elim_none, Sum.elim_inl, Sum.elim_inr]
    exact ⟨_, _, rfl, rfl, h i (by omega)⟩
theorem o_bind {c : Int32} {f : Nat → Int32} {c2 : Int32} {f2 : Nat → Int32} (h : I_free c f c2 f2) :
    ∃ r r2, M_X11_bind c = r ∧ M_X12_bind c2 = r2 ∧ r.1 = r2.1 ∧ I_free r.2 f r2.2 f2 := by
  obtain ⟨k, hk, rfl, rfl, hf⟩ := h
  exact ⟨_, _, rfl, rfl, rfl, 0, by omega, rfl, rfl, fun j hj => by omega⟩
theorem told_C {n : Nat} (hn : 100 < n) {k : Nat} (hk : k ≤ 16) (x : Int32) (f : Nat → Int32) :
    (M_X0_isTold n x f (nI k) = some 1 ∧ ∃ j, j < k ∧ f j = x) ∨ (M_X0_isTold n x f (nI k) = some 0 ∧ ∀ j, j < k → f j ≠ x) := by
  unfold M_X0_isTold
  rcases lp_find (f := fun y : Int32 => M_X0_isTold_b2 n x f (nI k) y) (fun i => nI i) (fun i => f i = x) (fun _ => Sum.inr 1) (Sum.inl ()) k
    (fun i hi h => by unfold M_X0_isTold_b2; simp (disch := omega) only [h, i_0, i_1, i_2, i_3, i_4, i_5, i_6, i_7, i_8, i_10, i_12, i_16, i_31, i_32, i_64, i_100, i_128, i_255, i_256, i_512, i_1000, i_1128, i_65535, i_65536, nI_add, pk_mul, pk_sub, nI_ltI, nI_leI, nI_eq, nI_clamp, if_pos, if_neg, ite_true, ite_false, Option.bind_some, Option.elim_some, Option.elim_none, Sum.elim_inl, Sum.elim_inr])
    (fun i hi h => by unfold M_X0_isTold_b2; simp (disch := omega) only [h, i_0, i_1, i_2, i_3, i_4, i_5, i_6, i_7, i_8, i_10, i_12, i_16, i_31, i_32, i_64, i_100, i_128, i_255, i_256, i_512, i_1000, i_1128, i_65535, i_65536, nI_add, pk_mul, pk_sub, nI_ltI, nI_leI, nI_eq, nI_clamp, if_pos, if_neg, ite_true, ite_false, Option.bind_some, Option.elim_some, Option.elim_none, Sum.elim_inl, Sum.elim_inr])
    (by unfold M_X0_isTold_b2; simp (disch := omega) only [i_0, i_1, i_2, i_3, i_4, i_5, i_6, i_7, i_8, i_10, i_12, i_16, i_31, i_32, i_64, i_100, i_128, i_255, i_256, i_512, i_1000, i_1128, i_65535, i_65536, nI_add, pk_mul, pk_sub, nI_ltI, nI_leI, nI_eq, nI_clamp, if_pos, if_neg, ite_true, ite_false, Option.bind_some, Option.elim_some, Option.elim_none, Sum.elim_inl, Sum.elim_inr]) n 0 (by omega) (by omega) with ⟨i, -, h2, h3, -, h5⟩ | ⟨h1, h2⟩
  · left
    refine ⟨?_, i, h2, h3⟩
    rw [show (0 : Int32) = nI 0 from rfl, h5]; rfl
  · right
    refine ⟨?_, fun j hj => h1 j (by omega) hj⟩
    rw [show (0 : Int32) = nI 0 from rfl, h2]; rfl
def tgood (g : Int32) (f : Nat → Int32) (x : Int32) : Nat → Int32
  | 0 => g
  | i + 1 => if tgood g f x i = 0 then 0 else if f i = x then 0 else 1
theorem told_M {n : Nat} (hn : 100 < n) {k : Nat} (hk : k ≤ 16) (x : Int32) (f : Nat → Int32) (g : Int32) :
    lp (fun y : (Int32 × Int32) => M_X12_free_b19 n x (nI k) f y.1 y.2) n (g, (0 : Int32)) = some (tgood g f x k) := by
  refine lp_seq (f := fun y : (Int32 × Int32) => M_X12_free_b19 n x (nI k) f y.1 y.2) (fun i => (tgood g f x i, nI i)) (N := k) ?_ n 0 (by omega) (by omega) ?_
  · unfold M_X12_free_b19
    simp (disch := omega) only [i_0, i_1, i_2, i_3, i_4, i_5, i_6, i_7, i_8, i_10, i_12, i_16, i_31, i_32, i_64, i_100, i_128, i_255, i_256, i_512, i_1000, i_1128, i_65535, i_65536, nI_add, pk_mul, pk_sub, nI_ltI, nI_leI, nI_eq, nI_clamp, if_pos, if_neg, ite_true, ite_false, Option.bind_some, Option.elim_some, Option.elim_none, Sum.elim_inl, Sum.elim_inr]
  · intro i _ hi
    unfold M_X12_free_b19
    show _ = some (Sum.inl ((if tgood g f x i = 0 then 0 else if f i = x then 0 else 1), _))
    by_cases h : tgood g f x i = 0
    · simp (disch := omega) only [h, i_0, i_1, i_2, i_3, i_4, i_5, i_6, i_7, i_8, i_10, i_12, i_16, i_31, i_32, i_64, i_100, i_128, i_255, i_256, i_512, i_1000, i_1128, i_65535, i_65536, nI_add, pk_mul, pk_sub, nI_ltI, nI_leI, nI_eq, nI_clamp, if_pos, if_neg, ite_true, ite_false, Option.bind_some, Option.elim_some, Option.elim_none, Sum.elim_inl, Sum.elim_inr]
    · have h' : (tgood g f x i = nI 0) = False := eq_false h
      by_cases e : f i = x
      · simp (disch := omega) only [h', e, i_0, i_1, i_2, i_3, i_4, i_5, i_6, i_7, i_8, i_10, i_12, i_16, i_31, i_32, i_64, i_100, i_128, i_255, i_256, i_512, i_1000, i_1128, i_65535, i_65536, nI_add, pk_mul, pk_sub, nI_ltI, nI_leI, nI_eq, nI_clamp, if_pos, if_neg, ite_true, ite_false, Option.bind_some, Option.elim_some, Option.elim_none, Sum.elim_inl, Sum.elim_inr]
      · simp (disch := omega) only [h', e, i_0, i_1, i_2, i_3, i_4, i_5, i_6, i_7, i_8, i_10, i_12, i_16, i_31, i_32, i_64, i_100, i_128, i_255, i_256, i_512, i_1000, i_1128, i_65535, i_65536, nI_add, pk_mul, pk_sub, nI_ltI, nI_leI, nI_eq, nI_clamp, if_pos, if_neg, ite_true, ite_false, Option.bind_some, Option.elim_some, Option.elim_none, Sum.elim_inl, Sum.elim_inr]
theorem tgood_0 (f : Nat → Int32) (x : Int32) (k : Nat) : tgood 0 f x k = 0 := by
  induction k with
  | zero => rfl
  | succ k ih => show (if tgood 0 f x k = 0 then 0 else _) = _; rw [if_pos ih]
theorem tgood_1 (f : Nat → Int32) (x : Int32) (k : Nat) : (tgood 1 f x k = 1 ∧ ∀ j, j < k → f j ≠ x) ∨ (tgood 1 f x k = 0 ∧ ∃ j, j < k ∧ f j = x) := by
  induction k with
  | zero => exact Or.inl ⟨rfl, fun j hj => by omega⟩
  | succ k ih =>
    rcases ih with ⟨h1, h2⟩ | ⟨h1, j, h2, h3⟩
    · have e1 : tgood 1 f x (k + 1) = if f k = x then 0 else 1 := by
        show (if tgood 1 f x k = 0 then 0 else if f k = x then 0 else 1) = _
        rw [h1, if_neg (by decide)]
      by_cases e : f k = x
      · exact Or.inr ⟨by rw [e1, if_pos e], k, by omega, e⟩
      · refine Or.inl ⟨by rw [e1, if_neg e], fun j hj => ?_⟩
        by_cases ej : j = k
        · rw [ej]; exact e
        · exact h2 j (by omega)
    · refine Or.inr ⟨?_, j, by omega, h3⟩
      show (if tgood 1 f x k = 0 then 0 else _) = _
      rw [if_pos h1]
theorem o_free {n : Nat} (hn : 100 < n) {rc : Int32} {rf : Nat → Int32} {rc2 : Int32} {rf2 : Nat → Int32} (hr : I_row rc rf rc2 rf2) {c : Int32} {f : Nat → Int32} {c2 : Int32} {f2 : Nat → Int32} (h : I_free c f c2 f2) (x1 : Int32) :
    ∃ r r2, M_X11_free n x1 rc f c = some r ∧ M_X12_free n x1 rc2 c2 f2 = some r2 ∧ r.1 = r2.1 ∧ I_free r.2.2 r.2.1 r2.2.1 r2.2.2 := by
  obtain ⟨L, hL, rfl, rfl, -⟩ := hr
  obtain ⟨k, hk, rfl, rfl, hf⟩ := h
  unfold M_X11_free M_X12_free
  have e8 : (8 : Int32) * nI L = nI (8 * L) := pk_mul 8 L
  rw [e8, in_eq x1 0 (nI (8 * L) - 1) (by decide) rfl]
  rcases wi_lt x1 (k := 8 * L) (by omega) with ⟨h1, -⟩ | ⟨h1, i, hi, rfl⟩
  · rw [h1, if_pos rfl, told_M hn hk, tgood_0]
    exact ⟨_, _, rfl, rfl, rfl, k, hk, rfl, rfl, hf⟩
  · rw [h1, if_neg (by decide), told_M hn hk]
    rcases told_C hn hk (nI i) f with ⟨h2, j, hj, e⟩ | ⟨h2, h3⟩
    · have h4 : tgood 1 f2 (nI i) k = 0 := by
        rcases tgood_1 f2 (nI i) k with ⟨-, h4⟩ | ⟨h4, -⟩
        · exact absurd (by rw [(hf j hj).1, e]) (h4 j hj)
        · exact h4
      rw [h2, h4]
      exact ⟨_, _, rfl, rfl, rfl, k, hk, rfl, rfl, hf⟩
    · have h4 : tgood 1 f2 (nI i) k = 1 := by
        rcases tgood_1 f2 (nI i) k with ⟨h4, -⟩ | ⟨-, j, hj, h4⟩
        · exact h4
        · exact absurd (by rw [← (hf j hj).1, h4]) (h3 j hj)
      rw [h2, h4]
      unfold M_X0_isFull M_X0_addPlace
      rcases Nat.lt_or_ge k 16 with hlt | hge
      · simp (disch := omega) only [i_0, i_1, i_2, i_3, i_4, i_5, i_6, i_7, i_8, i_10, i_12, i_16, i_31, i_32, i_64, i_100, i_128, i_255, i_256, i_512, i_1000, i_1128, i_65535, i_65536, nI_add, pk_mul, pk_sub, nI_ltI, nI_leI, nI_eq, nI_clamp, if_pos, if_neg, ite_true, ite_false, Option.bind_some, Option.elim_some, Option.elim_none, Sum.elim_inl, Sum.elim_inr]
        refine ⟨_, _, rfl, rfl, rfl, k + 1, hlt, rfl, rfl, chg_ok hf (by omega) (fun j _ _ => by omega)⟩
      · simp (disch := omega) only [i_0, i_1, i_2, i_3, i_4, i_5, i_6, i_7, i_8, i_10, i_12, i_16, i_31, i_32, i_64, i_100, i_128, i_255, i_256, i_512, i_1000, i_1128, i_65535, i_65536, nI_add, pk_mul, pk_sub, nI_ltI, nI_leI, nI_eq, nI_clamp, if_pos, if_neg, ite_true, ite_false, Option.bind_some, Option.elim_some, Option.elim_none, Sum.elim_inl, Sum.elim_inr]
        exact ⟨_, _, rfl, rfl, rfl, k, hk, rfl, rfl, hf⟩
theorem o_about {x1 a b c d e a' b' c' d' e' : Int32} (ha : a = a') (hb : b = b') (hc : c = c') (hd : d = d') (he : e = e') :
    ∃ r r2, M_X11_about x1 a b c d e = r ∧ M_X12_about x1 b' a' c' d' e' = r2 ∧ r = r2 := by
  subst ha; subst hb; subst hc; subst hd; subst he
  exact ⟨_, _, rfl, rfl, rfl⟩
