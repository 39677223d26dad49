/-! Own rows: the calls that make a SUM. -/
theorem SKv.congr {sd : SD} {kd mo bi tu : Int32} {po be fi : Int64} {lo wo : Int32} {wt ce wt' ce' : Nat → Int32} (h : SKv sd kd mo bi tu po be fi lo wo wt ce) (hw : ∀ i, i < 12 → wt' i = wt i) (hc : ∀ i, i < 100 → ce' i = ce i) : SKv sd kd mo bi tu po be fi lo wo wt' ce' := by
  rcases h with h | h | ⟨m, L, f, h1, h2, h3, h4, h5, h6, h7, h8, h9⟩ | h | h | ⟨q, f, h1, h2, h3, h4, h5, h6⟩
  · exact Or.inl h
  · exact Or.inr (Or.inl h)
  · exact Or.inr (Or.inr (Or.inl ⟨m, L, f, h1, h2, h3, h4, h5, h6, h7, h8, fun i hi => by rw [hw i (by omega)]; exact h9 i hi⟩))
  · exact Or.inr (Or.inr (Or.inr (Or.inl h)))
  · exact Or.inr (Or.inr (Or.inr (Or.inr (Or.inl h))))
  · refine Or.inr (Or.inr (Or.inr (Or.inr (Or.inr ⟨q, f, h1, h2, h3, h4, h5, fun i hi => ?_⟩))))
    have h9 : q * q ≤ 10 * 10 := Nat.mul_le_mul h2 h2
    rw [hc i (by omega)]
    exact h6 i hi
theorem new_sum {k : Nat} (hk : k < 16) {ro : RF} {kd mo bi tu kd' mo' bi' tu' : Nat → Int32} {po be fi po' be' fi' : Nat → Int64} {lo wo wt ce lo' wo' wt' ce' : Nat → Int32}
    (old : ∀ j, j < k → ∃ a w sd, ro j = some (a, w, sd) ∧ SKv sd (kd j) (mo j) (bi j) (tu j) (po j) (be j) (fi j) (lo j) (wo j) (fun i => wt (12 * j + i)) (fun i => ce (100 * j + i)))
    (h1 : ∀ j, j < k → kd' j = kd j) (h2 : ∀ j, j < k → mo' j = mo j) (h3 : ∀ j, j < k → bi' j = bi j) (h4 : ∀ j, j < k → tu' j = tu j) (h5 : ∀ j, j < k → po' j = po j) (h6 : ∀ j, j < k → be' j = be j) (h7 : ∀ j, j < k → fi' j = fi j) (h8 : ∀ j, j < k → lo' j = lo j) (h9 : ∀ j, j < k → wo' j = wo j)
    (hw : ∀ x, x < 12 * k → wt' x = wt x) (hc : ∀ x, x < 100 * k → ce' x = ce x) {sd : SD} (hs : SKv sd (kd' k) (mo' k) (bi' k) (tu' k) (po' k) (be' k) (fi' k) (lo' k) (wo' k) (fun i => wt' (12 * k + i)) (fun i => ce' (100 * k + i))) (a w : Nat) :
    I_sums (va_up ro k (some (a, w, sd))) (nI (k + 1)) (nI (k + 1)) kd' mo' bi' tu' po' be' fi' lo' wo' wt' ce' := by
  refine ⟨k + 1, by omega, rfl, rfl, fun j hj => ?_⟩
  by_cases e : j = k
  · subst e
    exact ⟨a, w, sd, vu_at _ _ _, hs⟩
  · obtain ⟨a', w', sd', e1, e2⟩ := old j (by omega)
    refine ⟨a', w', sd', by rw [vu_ne _ _ e]; exact e1, ?_⟩
    rw [h1 j (by omega), h2 j (by omega), h3 j (by omega), h4 j (by omega), h5 j (by omega), h6 j (by omega), h7 j (by omega), h8 j (by omega), h9 j (by omega)]
    exact e2.congr (fun i hi => hw _ (by omega)) (fun i hi => hc _ (by omega))
section CR
variable {ro : RF} {c c2 : Int32} {kd mo bi tu : Nat → Int32} {po be fi : Nat → Int64} {lo wo wt ce : Nat → Int32}
theorem o_plain (h : I_sums ro c c2 kd mo bi tu po be fi lo wo wt ce) (x1 : Int32) :
    ∃ r r2, M_X11_plain x1 c = some r ∧ M_X12_plain x1 c2 kd mo = some r2 ∧ r.1 = r2.1 ∧ ∀ a w, I_sums (upRo ro c.toNatClampNeg r.2.1 a w) r.2.2 r2.2.1 r2.2.2.1 r2.2.2.2 bi tu po be fi lo wo wt ce := by
  obtain ⟨k, hk, rfl, rfl, hf⟩ := h
  unfold M_X11_plain M_X12_plain M_X11_isModulus M_X12_modular M_X12_made M_X11_isFull
  rw [in_eq x1 2 65536 (by decide) (by decide)]
  rcases wi_cases x1 (p := 2) (q := 65536) (by omega) (by omega) with ⟨h1, -⟩ | ⟨h1, m, hm, hm', rfl⟩
  · simp (disch := omega) only [h1, i_0, i_1, i_2, i_3, i_4, i_5, i_6, i_7, i_8, i_10, i_12, i_16, i_31, i_32, i_64, i_100, i_128, i_255, i_256, i_512, i_1000, i_1128, i_65535, i_65536, nI_add, pk_mul, pk_sub, nI_ltI, nI_leI, nI_eq, nI_clamp, if_pos, if_neg, ite_true, ite_false, Option.bind_some, Option.elim_some, Option.elim_none, Sum.elim_inl, Sum.elim_inr]
    exact ⟨_, _, rfl, rfl, rfl, fun a w => ⟨k, hk, rfl, rfl, hf⟩⟩
  · rcases Nat.lt_or_ge k 16 with hlt | hge
    · simp (disch := omega) only [h1, i_0, i_1, i_2, i_3, i_4, i_5, i_6, i_7, i_8, i_10, i_12, i_16, i_31, i_32, i_64, i_100, i_128, i_255, i_256, i_512, i_1000, i_1128, i_65535, i_65536, nI_add, pk_mul, pk_sub, nI_ltI, nI_leI, nI_eq, nI_clamp, if_pos, if_neg, ite_true, ite_false, Option.bind_some, Option.elim_some, Option.elim_none, Sum.elim_inl, Sum.elim_inr, nI_pred]
      refine ⟨_, _, rfl, rfl, rfl, fun a w => new_sum hlt hf (fun j hj => up_ne _ _ (by omega)) (fun j hj => up_ne _ _ (by omega)) (fun _ _ => rfl) (fun _ _ => rfl) (fun _ _ => rfl) (fun _ _ => rfl) (fun _ _ => rfl) (fun _ _ => rfl) (fun _ _ => rfl) (fun _ _ => rfl) (fun _ _ => rfl) ?_ a w⟩
      exact Or.inl ⟨m, hm, hm', rfl, up_at _ _ _, up_at _ _ _⟩
    · simp (disch := omega) only [h1, i_0, i_1, i_2, i_3, i_4, i_5, i_6, i_7, i_8, i_10, i_12, i_16, i_31, i_32, i_64, i_100, i_128, i_255, i_256, i_512, i_1000, i_1128, i_65535, i_65536, nI_add, pk_mul, pk_sub, nI_ltI, nI_leI, nI_eq, nI_clamp, if_pos, if_neg, ite_true, ite_false, Option.bind_some, Option.elim_some, Option.elim_none, Sum.elim_inl, Sum.elim_inr]
      exact ⟨_, _, rfl, rfl, rfl, fun a w => ⟨k, hk, rfl, rfl, hf⟩⟩
theorem o_twofold (h : I_sums ro c c2 kd mo bi tu po be fi lo wo wt ce) (x1 : Int32) :
    ∃ r r2, M_X11_twofold x1 c = some r ∧ M_X12_twofold x1 c2 kd mo = some r2 ∧ r.1 = r2.1 ∧ ∀ a w, I_sums (upRo ro c.toNatClampNeg r.2.1 a w) r.2.2 r2.2.1 r2.2.2.1 r2.2.2.2 bi tu po be fi lo wo wt ce := by
  obtain ⟨k, hk, rfl, rfl, hf⟩ := h
  unfold M_X11_twofold M_X12_twofold M_X11_isModulus M_X12_modular M_X12_made M_X11_isFull
  rw [in_eq x1 2 65536 (by decide) (by decide)]
  rcases wi_cases x1 (p := 2) (q := 65536) (by omega) (by omega) with ⟨h1, -⟩ | ⟨h1, m, hm, hm', rfl⟩
  · simp (disch := omega) only [h1, i_0, i_1, i_2, i_3, i_4, i_5, i_6, i_7, i_8, i_10, i_12, i_16, i_31, i_32, i_64, i_100, i_128, i_255, i_256, i_512, i_1000, i_1128, i_65535, i_65536, nI_add, pk_mul, pk_sub, nI_ltI, nI_leI, nI_eq, nI_clamp, if_pos, if_neg, ite_true, ite_false, Option.bind_some, Option.elim_some, Option.elim_none, Sum.elim_inl, Sum.elim_inr]
    exact ⟨_, _, rfl, rfl, rfl, fun a w => ⟨k, hk, rfl, rfl, hf⟩⟩
  · rcases Nat.lt_or_ge k 16 with hlt | hge
    · simp (disch := omega) only [h1, i_0, i_1, i_2, i_3, i_4, i_5, i_6, i_7, i_8, i_10, i_12, i_16, i_31, i_32, i_64, i_100, i_128, i_255, i_256, i_512, i_1000, i_1128, i_65535, i_65536, nI_add, pk_mul, pk_sub, nI_ltI, nI_leI, nI_eq, nI_clamp, if_pos, if_neg, ite_true, ite_false, Option.bind_some, Option.elim_some, Option.elim_none, Sum.elim_inl, Sum.elim_inr, nI_pred]
      refine ⟨_, _, rfl, rfl, rfl, fun a w => new_sum hlt hf (fun j hj => up_ne _ _ (by omega)) (fun j hj => up_ne _ _ (by omega)) (fun _ _ => rfl) (fun _ _ => rfl) (fun _ _ => rfl) (fun _ _ => rfl) (fun _ _ => rfl) (fun _ _ => rfl) (fun _ _ => rfl) (fun _ _ => rfl) (fun _ _ => rfl) ?_ a w⟩
      exact Or.inr (Or.inl ⟨m, hm, hm', rfl, up_at _ _ _, up_at _ _ _⟩)
    · simp (disch := omega) only [h1, i_0, i_1, i_2, i_3, i_4, i_5, i_6, i_7, i_8, i_10, i_12, i_16, i_31, i_32, i_64, i_100, i_128, i_255, i_256, i_512, i_1000, i_1128, i_65535, i_65536, nI_add, pk_mul, pk_sub, nI_ltI, nI_leI, nI_eq, nI_clamp, if_pos, if_neg, ite_true, ite_false, Option.bind_some, Option.elim_some, Option.elim_none, Sum.elim_inl, Sum.elim_inr]
      exact ⟨_, _, rfl, rfl, rfl, fun a w => ⟨k, hk, rfl, rfl, hf⟩⟩
theorem o_turning (h : I_sums ro c c2 kd mo bi tu po be fi lo wo wt ce) (x1 x2 : Int32) :
    ∃ r r2, M_X11_turning x1 x2 c = some r ∧ M_X12_turning x1 x2 c2 kd bi tu = some r2 ∧ r.1 = r2.1 ∧ ∀ a w, I_sums (upRo ro c.toNatClampNeg r.2.1 a w) r.2.2 r2.2.1 r2.2.2.1 mo r2.2.2.2.1 r2.2.2.2.2 po be fi lo wo wt ce := by
  obtain ⟨k, hk, rfl, rfl, hf⟩ := h
  unfold M_X11_turning M_X12_turning M_X12_made M_X11_isFull
  rw [in_eq x1 8 32 (by decide) (by decide), in_eq x2 0 (x1 - 1) (by decide) rfl]
  rcases wi_cases x1 (p := 8) (q := 32) (by omega) (by omega) with ⟨h1, -⟩ | ⟨h1, n, hn, hn', rfl⟩
  · simp (disch := omega) only [h1, i_0, i_1, i_2, i_3, i_4, i_5, i_6, i_7, i_8, i_10, i_12, i_16, i_31, i_32, i_64, i_100, i_128, i_255, i_256, i_512, i_1000, i_1128, i_65535, i_65536, nI_add, pk_mul, pk_sub, nI_ltI, nI_leI, nI_eq, nI_clamp, if_pos, if_neg, ite_true, ite_false, Option.bind_some, Option.elim_some, Option.elim_none, Sum.elim_inl, Sum.elim_inr]
    exact ⟨_, _, rfl, rfl, rfl, fun a w => ⟨k, hk, rfl, rfl, hf⟩⟩
  · rcases wi_lt x2 (k := n) (by omega) with ⟨h2, -⟩ | ⟨h2, t, ht, rfl⟩
    · rw [h2]
      simp (disch := omega) only [h1, i_0, i_1, i_2, i_3, i_4, i_5, i_6, i_7, i_8, i_10, i_12, i_16, i_31, i_32, i_64, i_100, i_128, i_255, i_256, i_512, i_1000, i_1128, i_65535, i_65536, nI_add, pk_mul, pk_sub, nI_ltI, nI_leI, nI_eq, nI_clamp, if_pos, if_neg, ite_true, ite_false, Option.bind_some, Option.elim_some, Option.elim_none, Sum.elim_inl, Sum.elim_inr]
      exact ⟨_, _, rfl, rfl, rfl, fun a w => ⟨k, hk, rfl, rfl, hf⟩⟩
    · rw [h2]
      rcases Nat.lt_or_ge k 16 with hlt | hge
      · simp (disch := omega) only [h1, i_0, i_1, i_2, i_3, i_4, i_5, i_6, i_7, i_8, i_10, i_12, i_16, i_31, i_32, i_64, i_100, i_128, i_255, i_256, i_512, i_1000, i_1128, i_65535, i_65536, nI_add, pk_mul, pk_sub, nI_ltI, nI_leI, nI_eq, nI_clamp, if_pos, if_neg, ite_true, ite_false, Option.bind_some, Option.elim_some, Option.elim_none, Sum.elim_inl, Sum.elim_inr, nI_pred]
        refine ⟨_, _, rfl, rfl, rfl, fun a w => new_sum hlt hf (fun j hj => up_ne _ _ (by omega)) (fun _ _ => rfl) (fun j hj => up_ne _ _ (by omega)) (fun j hj => up_ne _ _ (by omega)) (fun _ _ => rfl) (fun _ _ => rfl) (fun _ _ => rfl) (fun _ _ => rfl) (fun _ _ => rfl) (fun _ _ => rfl) (fun _ _ => rfl) ?_ a w⟩
        exact Or.inr (Or.inr (Or.inr (Or.inl ⟨n, t, hn, hn', ht, rfl, up_at _ _ _, up_at _ _ _, up_at _ _ _⟩)))
      · simp (disch := omega) only [h1, i_0, i_1, i_2, i_3, i_4, i_5, i_6, i_7, i_8, i_10, i_12, i_16, i_31, i_32, i_64, i_100, i_128, i_255, i_256, i_512, i_1000, i_1128, i_65535, i_65536, nI_add, pk_mul, pk_sub, nI_ltI, nI_leI, nI_eq, nI_clamp, if_pos, if_neg, ite_true, ite_false, Option.bind_some, Option.elim_some, Option.elim_none, Sum.elim_inl, Sum.elim_inr]
        exact ⟨_, _, rfl, rfl, rfl, fun a w => ⟨k, hk, rfl, rfl, hf⟩⟩
theorem mask_n {n : Nat} (hn : n ≤ 32) : M_X11_maskOf (nI n) = lN (2 ^ n - 1) := by
  unfold M_X11_maskOf
  simp (disch := omega) only [l_0, l_1, l_2, l_3, l_4, l_5, l_6, l_7, l_8, l_10, l_12, l_16, l_32, l_63, l_64, l_255, l_256, l_1000, l_65535, l_65536, nI_l, l_and, and_63, l_shl, Nat.one_mul]
  exact lN_sub (Nat.two_pow_pos n)
theorem fits_eq (x : Int64) (n : Int32) : M_X12_in x 0 (((1 : Int64) <<< (n.toInt64 &&& 63)) - 1) = M_X11_fits x n := rfl
theorem pow_le {n : Nat} (hn : n ≤ 32) : 2 ^ n ≤ 2 ^ 32 := Nat.pow_le_pow_right (by decide) hn
theorem fits_c (x : Int64) {n : Nat} (hn : n ≤ 32) : (M_X11_fits x (nI n) = 0) ∨ (M_X11_fits x (nI n) = 1 ∧ ∃ s, s < 2 ^ n ∧ x = lN s) := by
  unfold M_X11_fits
  rw [mask_n hn]
  have hp := pow_le hn
  have hp0 := Nat.two_pow_pos n
  by_cases h0 : x < 0
  · exact Or.inl (if_pos h0)
  · obtain ⟨s, hs, rfl⟩ := pk_lOf h0
    rw [if_neg h0]
    by_cases h : lN (2 ^ n - 1) < lN s
    · exact Or.inl (if_pos h)
    · refine Or.inr ⟨if_neg h, s, ?_, rfl⟩
      rw [pk_lLT (by omega) hs] at h
      omega
theorem o_divided (h : I_sums ro c c2 kd mo bi tu po be fi lo wo wt ce) (x1 : Int32) (x2 x4 x6 : Int64) (x8 x9 : Int32) (h8 : x8 = 0 ∨ x8 = 1) (h9 : x9 = 0 ∨ x9 = 1) :
    ∃ r r2, M_X11_divided x1 x2 x4 x6 x8 x9 c = some r ∧ M_X12_divided x1 x2 x4 x6 x8 x9 c2 kd bi po be fi lo = some r2 ∧ r.1 = r2.1 ∧ ∀ a w, I_sums (upRo ro c.toNatClampNeg r.2.1 a w) r.2.2 r2.2.1 r2.2.2.1 mo r2.2.2.2.1 tu r2.2.2.2.2.1 r2.2.2.2.2.2.1 r2.2.2.2.2.2.2.1 r2.2.2.2.2.2.2.2 wo wt ce := by
  obtain ⟨k, hk, rfl, rfl, hf⟩ := h
  have hx8 : ∃ l, l < 2 ∧ x8 = nI l := by rcases h8 with rfl | rfl; exact ⟨0, by omega, rfl⟩; exact ⟨1, by omega, rfl⟩
  unfold M_X11_divided M_X12_divided M_X12_made M_X11_isFull
  rw [in_eq x1 3 32 (by decide) (by decide), fits_eq, fits_eq, fits_eq, nar_b h8]
  rcases wi_c x1 (a := 3) (b := 32) 3 32 rfl rfl (by omega) (by omega) with ⟨h1, -⟩ | ⟨h1, n, hn, hn', rfl⟩
  · rw [h1, if_pos z_eq, if_pos z_eq]
    exact ⟨_, _, rfl, rfl, rfl, fun a w => ⟨k, hk, rfl, rfl, hf⟩⟩
  rw [h1, if_neg one_ne, if_neg one_ne]
  rcases fits_c x2 hn' with h2 | ⟨h2, p, hp, rfl⟩
  · rw [h2, if_pos z_eq, if_pos z_eq]
    exact ⟨_, _, rfl, rfl, rfl, fun a w => ⟨k, hk, rfl, rfl, hf⟩⟩
  rw [h2, if_neg one_ne, if_neg one_ne]
  rcases fits_c x4 hn' with h4 | ⟨h4, b, hb, rfl⟩
  · rw [h4, if_pos z_eq, if_pos z_eq]
    exact ⟨_, _, rfl, rfl, rfl, fun a w => ⟨k, hk, rfl, rfl, hf⟩⟩
  rw [h4, if_neg one_ne, if_neg one_ne]
  rcases fits_c x6 hn' with h6 | ⟨h6, f, hff, rfl⟩
  · rw [h6, if_pos z_eq, if_pos z_eq]
    exact ⟨_, _, rfl, rfl, rfl, fun a w => ⟨k, hk, rfl, rfl, hf⟩⟩
  rw [h6, if_neg one_ne, if_neg one_ne]
  rcases Nat.lt_or_ge k 16 with hlt | hge
  · rcases h9 with rfl | rfl
    · rw [if_pos h8]
      obtain ⟨l, hl, rfl⟩ := hx8
      simp (disch := omega) only [i_0, i_1, i_2, i_3, i_4, i_5, i_6, i_7, i_8, i_10, i_12, i_16, i_31, i_32, i_64, i_100, i_128, i_255, i_256, i_512, i_1000, i_1128, i_65535, i_65536, nI_add, pk_mul, pk_sub, nI_ltI, nI_leI, nI_eq, nI_clamp, if_pos, if_neg, ite_true, ite_false, Option.bind_some, Option.elim_some, Option.elim_none, Sum.elim_inl, Sum.elim_inr, nI_pred]
      refine ⟨_, _, rfl, rfl, rfl, fun a w => new_sum hlt hf (fun j hj => up_ne _ _ (by omega)) (fun _ _ => rfl) (fun j hj => up_ne _ _ (by omega)) (fun _ _ => rfl) (fun j hj => ul_ne _ _ (by omega)) (fun j hj => ul_ne _ _ (by omega)) (fun j hj => ul_ne _ _ (by omega)) (fun j hj => up_ne _ _ (by omega)) (fun _ _ => rfl) (fun _ _ => rfl) (fun _ _ => rfl) ?_ a w⟩
      exact Or.inr (Or.inr (Or.inr (Or.inr (Or.inl ⟨4, n, p, b, f, l, Or.inl rfl, hn, hn', hp, hb, hff, hl, rfl, up_at _ _ _, up_at _ _ _, ul_at _ _ _, ul_at _ _ _, ul_at _ _ _, up_at _ _ _⟩))))
    · rw [if_pos h8]
      obtain ⟨l, hl, rfl⟩ := hx8
      simp (disch := omega) only [i_0, i_1, i_2, i_3, i_4, i_5, i_6, i_7, i_8, i_10, i_12, i_16, i_31, i_32, i_64, i_100, i_128, i_255, i_256, i_512, i_1000, i_1128, i_65535, i_65536, nI_add, pk_mul, pk_sub, nI_ltI, nI_leI, nI_eq, nI_clamp, if_pos, if_neg, ite_true, ite_false, Option.bind_some, Option.elim_some, Option.elim_none, Sum.elim_inl, Sum.elim_inr, nI_pred]
      refine ⟨_, _, rfl, rfl, rfl, fun a w => new_sum hlt hf (fun j hj => up_ne _ _ (by omega)) (fun _ _ => rfl) (fun j hj => up_ne _ _ (by omega)) (fun _ _ => rfl) (fun j hj => ul_ne _ _ (by omega)) (fun j hj => ul_ne _ _ (by omega)) (fun j hj => ul_ne _ _ (by omega)) (fun j hj => up_ne _ _ (by omega)) (fun _ _ => rfl) (fun _ _ => rfl) (fun _ _ => rfl) ?_ a w⟩
      exact Or.inr (Or.inr (Or.inr (Or.inr (Or.inl ⟨5, n, p, b, f, l, Or.inr rfl, hn, hn', hp, hb, hff, hl, rfl, up_at _ _ _, up_at _ _ _, ul_at _ _ _, ul_at _ _ _, ul_at _ _ _, up_at _ _ _⟩))))
  · have e16 : k = 16 := by omega
    subst e16
    exact ⟨_, _, rfl, rfl, rfl, fun a w => ⟨16, hk, rfl, rfl, hf⟩⟩
def fillA (f g : Nat → Int32) (o i : Nat) : Nat → Int32 := fun x => if o ≤ x ∧ x < o + i then f (x - o) else g x
theorem fillA_0 (f g : Nat → Int32) (o : Nat) : fillA f g o 0 = g := by
  funext x
  exact if_neg (by omega)
theorem fillA_s (f g : Nat → Int32) (o i : Nat) : upd (fillA f g o i) (o + i) (f i) = fillA f g o (i + 1) := by
  funext x
  unfold upd fillA
  by_cases e : x = o + i
  · rw [if_pos e, if_pos (by omega)]
    congr 1; omega
  · rw [if_neg e]
    by_cases h : o ≤ x ∧ x < o + i
    · rw [if_pos h, if_pos (by omega)]
    · rw [if_neg h, if_neg (by omega)]
theorem fillA_lt (f g : Nat → Int32) {o i x : Nat} (h : x < o) : fillA f g o i x = g x := if_neg (by omega)
theorem fillA_in (f g : Nat → Int32) {o i x : Nat} (h : x < i) : fillA f g o i (o + x) = f x := by
  unfold fillA
  rw [if_pos (by omega)]
  congr 1; omega
theorem wfill {n : Nat} (hn : 100 < n) {t k : Nat} (ht : t ≤ 12) (hk : k < 16) (f g : Nat → Int32) :
    lp (fun x : (Int32 × (Nat → Int32)) => M_X12_weighted_b62 n (nI t) f (nI k) x.1 x.2) n ((0 : Int32), g) = some (fillA f g (12 * k) t) := by
  refine (congrArg (fun z => lp _ n ((0 : Int32), z)) (fillA_0 f g (12 * k)).symm).trans (lp_seq (f := fun x : (Int32 × (Nat → Int32)) => M_X12_weighted_b62 n (nI t) f (nI k) x.1 x.2) (fun i => (nI i, fillA f g (12 * k) i)) (N := t) ?_ n 0 (by omega) (by omega) ?_)
  · unfold M_X12_weighted_b62
    simp (disch := omega) only [i_0, i_1, i_2, i_3, i_4, i_5, i_6, i_7, i_8, i_10, i_12, i_16, i_31, i_32, i_64, i_100, i_128, i_255, i_256, i_512, i_1000, i_1128, i_65535, i_65536, nI_add, pk_mul, pk_sub, nI_ltI, nI_leI, nI_eq, nI_clamp, if_pos, if_neg, ite_true, ite_false, Option.bind_some, Option.elim_some, Option.elim_none, Sum.elim_inl, Sum.elim_inr]
  · intro i _ hi
    unfold M_X12_weighted_b62
    simp (disch := omega) only [i_0, i_1, i_2, i_3, i_4, i_5, i_6, i_7, i_8, i_10, i_12, i_16, i_31, i_32, i_64, i_100, i_128, i_255, i_256, i_512, i_1000, i_1128, i_65535, i_65536, nI_add, pk_mul, pk_sub, nI_ltI, nI_leI, nI_eq, nI_clamp, if_pos, if_neg, ite_true, ite_false, Option.bind_some, Option.elim_some, Option.elim_none, Sum.elim_inl, Sum.elim_inr, fillA_s]
theorem o_weighted {n : Nat} (hn : 100 < n) {tc : Int32} {tf : Nat → Int32} {tc2 : Int32} {tf2 : Nat → Int32} (ht : I_told tc tf tc2 tf2) (h : I_sums ro c c2 kd mo bi tu po be fi lo wo wt ce) (x1 : Int32) :
    ∃ r r2, M_X11_weighted x1 c tf tc = some r ∧ M_X12_weighted n x1 tc2 tf2 c2 kd mo wo wt = some r2 ∧ r.1 = r2.1 ∧ (∀ a w, I_sums (upRo ro c.toNatClampNeg r.2.1 a w) r.2.2.1 r2.2.2.1 r2.2.2.2.1 r2.2.2.2.2.1 bi tu po be fi lo r2.2.2.2.2.2.1 r2.2.2.2.2.2.2 ce) ∧ I_told r.2.2.2 tf r2.2.1 tf2 := by
  obtain ⟨k, hk, rfl, rfl, hf⟩ := h
  obtain ⟨t, htk, rfl, rfl, htf⟩ := ht
  unfold M_X11_weighted M_X12_weighted M_X12_made M_X11_isFull M_X11_isModulus
  rw [in_eq x1 2 65536 (by decide) (by decide), in_eq (nI t) 1 12 (by decide) (by decide)]
  rcases wi_cases x1 (p := 2) (q := 65536) (by omega) (by omega) with ⟨h1, -⟩ | ⟨h1, m, hm, hm', rfl⟩
  · simp (disch := omega) only [h1, i_0, i_1, i_2, i_3, i_4, i_5, i_6, i_7, i_8, i_10, i_12, i_16, i_31, i_32, i_64, i_100, i_128, i_255, i_256, i_512, i_1000, i_1128, i_65535, i_65536, nI_add, pk_mul, pk_sub, nI_ltI, nI_leI, nI_eq, nI_clamp, if_pos, if_neg, ite_true, ite_false, Option.bind_some, Option.elim_some, Option.elim_none, Sum.elim_inl, Sum.elim_inr]
    exact ⟨_, _, rfl, rfl, rfl, fun a w => ⟨k, hk, rfl, rfl, hf⟩, t, htk, rfl, rfl, htf⟩
  rcases wi_cases (nI t) (p := 1) (q := 12) (by omega) (by omega) with ⟨h2, -⟩ | ⟨h2, t', ht1, ht2, et⟩
  · simp (disch := omega) only [h1, h2, i_0, i_1, i_2, i_3, i_4, i_5, i_6, i_7, i_8, i_10, i_12, i_16, i_31, i_32, i_64, i_100, i_128, i_255, i_256, i_512, i_1000, i_1128, i_65535, i_65536, nI_add, pk_mul, pk_sub, nI_ltI, nI_leI, nI_eq, nI_clamp, if_pos, if_neg, ite_true, ite_false, Option.bind_some, Option.elim_some, Option.elim_none, Sum.elim_inl, Sum.elim_inr]
    exact ⟨_, _, rfl, rfl, rfl, fun a w => ⟨k, hk, rfl, rfl, hf⟩, t, htk, rfl, rfl, htf⟩
  rw [nI_eq (by omega) (by omega)] at et
  subst et
  rcases Nat.lt_or_ge k 16 with hlt | hge
  · rw [wfill hn ht2 hlt]
    simp (disch := omega) only [h1, h2, i_0, i_1, i_2, i_3, i_4, i_5, i_6, i_7, i_8, i_10, i_12, i_16, i_31, i_32, i_64, i_100, i_128, i_255, i_256, i_512, i_1000, i_1128, i_65535, i_65536, nI_add, pk_mul, pk_sub, nI_ltI, nI_leI, nI_eq, nI_clamp, if_pos, if_neg, ite_true, ite_false, Option.bind_some, Option.elim_some, Option.elim_none, Sum.elim_inl, Sum.elim_inr, nI_pred]
    refine ⟨_, _, rfl, rfl, rfl, fun a w => new_sum hlt hf (fun j hj => up_ne _ _ (by omega)) (fun j hj => up_ne _ _ (by omega)) (fun _ _ => rfl) (fun _ _ => rfl) (fun _ _ => rfl) (fun _ _ => rfl) (fun _ _ => rfl) (fun _ _ => rfl) (fun j hj => up_ne _ _ (by omega)) (fun x hx => fillA_lt _ _ hx) (fun _ _ => rfl) ?_ a w, 0, by omega, rfl, rfl, fun j hj => by omega⟩
    exact Or.inr (Or.inr (Or.inl ⟨m, t, tf, hm, hm', ht1, ht2, rfl, up_at _ _ _, up_at _ _ _, up_at _ _ _, fun i hi => ⟨by rw [← (htf i hi).1]; exact fillA_in _ _ hi, (htf i hi).2⟩⟩))
  · simp (disch := omega) only [h1, h2, i_0, i_1, i_2, i_3, i_4, i_5, i_6, i_7, i_8, i_10, i_12, i_16, i_31, i_32, i_64, i_100, i_128, i_255, i_256, i_512, i_1000, i_1128, i_65535, i_65536, nI_add, pk_mul, pk_sub, nI_ltI, nI_leI, nI_eq, nI_clamp, if_pos, if_neg, ite_true, ite_false, Option.bind_some, Option.elim_some, Option.elim_none, Sum.elim_inl, Sum.elim_inr]
    exact ⟨_, _, rfl, rfl, rfl, fun a w => ⟨k, hk, rfl, rfl, hf⟩, t, htk, rfl, rfl, htf⟩
theorem cfill {n : Nat} (hn : 100 < n) {t k : Nat} (ht : t ≤ 100) (hk : k < 16) (f g : Nat → Int32) :
    lp (fun x : (Int32 × (Nat → Int32)) => M_X12_square_b90 n (nI t) f (nI k) x.1 x.2) n ((0 : Int32), g) = some (fillA f g (100 * k) t) := by
  refine (congrArg (fun z => lp _ n ((0 : Int32), z)) (fillA_0 f g (100 * k)).symm).trans (lp_seq (f := fun x : (Int32 × (Nat → Int32)) => M_X12_square_b90 n (nI t) f (nI k) x.1 x.2) (fun i => (nI i, fillA f g (100 * k) i)) (N := t) ?_ n 0 (by omega) (by omega) ?_)
  · unfold M_X12_square_b90
    simp (disch := omega) only [i_0, i_1, i_2, i_3, i_4, i_5, i_6, i_7, i_8, i_10, i_12, i_16, i_31, i_32, i_64, i_100, i_128, i_255, i_256, i_512, i_1000, i_1128, i_65535, i_65536, nI_add, pk_mul, pk_sub, nI_ltI, nI_leI, nI_eq, nI_clamp, if_pos, if_neg, ite_true, ite_false, Option.bind_some, Option.elim_some, Option.elim_none, Sum.elim_inl, Sum.elim_inr]
  · intro i _ hi
    unfold M_X12_square_b90
    simp (disch := omega) only [i_0, i_1, i_2, i_3, i_4, i_5, i_6, i_7, i_8, i_10, i_12, i_16, i_31, i_32, i_64, i_100, i_128, i_255, i_256, i_512, i_1000, i_1128, i_65535, i_65536, nI_add, pk_mul, pk_sub, nI_ltI, nI_leI, nI_eq, nI_clamp, if_pos, if_neg, ite_true, ite_false, Option.bind_some, Option.elim_some, Option.elim_none, Sum.elim_inl, Sum.elim_inr, fillA_s]
def qgood (g : Int32) (f : Nat → Int32) (q : Int32) : Nat → Int32
  | 0 => g
  | i + 1 => if qgood g f q i = 0 then 0 else if q ≤ f i then 0 else 1
theorem qgood_M {n : Nat} (hn : 100 < n) {k : Nat} (hk : k ≤ 100) (q : Int32) (f : Nat → Int32) (g : Int32) :
    lp (fun x : (Int32 × Int32) => M_X12_square_b35 n q (nI k) f x.1 x.2) n (g, (0 : Int32)) = some (qgood g f q k) := by
  refine lp_seq (f := fun x : (Int32 × Int32) => M_X12_square_b35 n q (nI k) f x.1 x.2) (fun i => (qgood g f q i, nI i)) (N := k) ?_ n 0 (by omega) (by omega) ?_
  · unfold M_X12_square_b35
    simp (disch := omega) only [i_0, i_1, i_2, i_3, i_4, i_5, i_6, i_7, i_8, i_10, i_12, i_16, i_31, i_32, i_64, i_100, i_128, i_255, i_256, i_512, i_1000, i_1128, i_65535, i_65536, nI_add, pk_mul, pk_sub, nI_ltI, nI_leI, nI_eq, nI_clamp, if_pos, if_neg, ite_true, ite_false, Option.bind_some, Option.elim_some, Option.elim_none, Sum.elim_inl, Sum.elim_inr]
  · intro i _ hi
    unfold M_X12_square_b35
    show _ = some (Sum.inl ((if qgood g f q i = 0 then 0 else if q ≤ f i then 0 else 1), _))
    by_cases h : qgood g f q i = 0
    · simp (disch := omega) only [h, i_0, i_1, i_2, i_3, i_4, i_5, i_6, i_7, i_8, i_10, i_12, i_16, i_31, i_32, i_64, i_100, i_128, i_255, i_256, i_512, i_1000, i_1128, i_65535, i_65536, nI_add, pk_mul, pk_sub, nI_ltI, nI_leI, nI_eq, nI_clamp, if_pos, if_neg, ite_true, ite_false, Option.bind_some, Option.elim_some, Option.elim_none, Sum.elim_inl, Sum.elim_inr]
    · have h' : (qgood g f q i = nI 0) = False := eq_false h
      by_cases e : q ≤ f i
      · simp (disch := omega) only [h', e, i_0, i_1, i_2, i_3, i_4, i_5, i_6, i_7, i_8, i_10, i_12, i_16, i_31, i_32, i_64, i_100, i_128, i_255, i_256, i_512, i_1000, i_1128, i_65535, i_65536, nI_add, pk_mul, pk_sub, nI_ltI, nI_leI, nI_eq, nI_clamp, if_pos, if_neg, ite_true, ite_false, Option.bind_some, Option.elim_some, Option.elim_none, Sum.elim_inl, Sum.elim_inr]
      · simp (disch := omega) only [h', e, i_0, i_1, i_2, i_3, i_4, i_5, i_6, i_7, i_8, i_10, i_12, i_16, i_31, i_32, i_64, i_100, i_128, i_255, i_256, i_512, i_1000, i_1128, i_65535, i_65536, nI_add, pk_mul, pk_sub, nI_ltI, nI_leI, nI_eq, nI_clamp, if_pos, if_neg, ite_true, ite_false, Option.bind_some, Option.elim_some, Option.elim_none, Sum.elim_inl, Sum.elim_inr]
theorem qgood_0 (f : Nat → Int32) (q : Int32) (k : Nat) : qgood 0 f q k = 0 := by
  induction k with
  | zero => rfl
  | succ k ih => show (if qgood 0 f q k = 0 then 0 else _) = _; rw [if_pos ih]
theorem qgood_1 (f : Nat → Int32) (q : Int32) (k : Nat) : (qgood 1 f q k = 1 ∧ ∀ j, j < k → ¬ q ≤ f j) ∨ (qgood 1 f q k = 0 ∧ ∃ j, j < k ∧ q ≤ f j) := by
  induction k with
  | zero => exact Or.inl ⟨rfl, fun j hj => by omega⟩
  | succ k ih =>
    rcases ih with ⟨h1, h2⟩ | ⟨h1, j, h2, h3⟩
    · have e1 : qgood 1 f q (k + 1) = if q ≤ f k then 0 else 1 := by
        show (if qgood 1 f q k = 0 then 0 else if q ≤ f k then 0 else 1) = _
        rw [h1, if_neg one_ne]
      by_cases e : q ≤ f k
      · exact Or.inr ⟨by rw [e1, if_pos e], k, by omega, e⟩
      · refine Or.inl ⟨by rw [e1, if_neg e], fun j hj => ?_⟩
        by_cases ej : j = k
        · rw [ej]; exact e
        · exact h2 j (by omega)
    · refine Or.inr ⟨?_, j, by omega, h3⟩
      show (if qgood 1 f q k = 0 then 0 else _) = _
      rw [if_pos h1]
theorem sq_C {n : Nat} (hn : 100 < n) {k q : Nat} (hk : k ≤ 100) (hq : q ≤ 10) (f : Nat → Int32) (hf : ∀ j, j < k → ∃ v, v < 65536 ∧ f j = nI v) :
    (M_X11_toldIsSquare n (nI q) f (nI k) = some 1 ∧ k = q * q ∧ ∀ j, j < k → ¬ nI q ≤ f j) ∨ (M_X11_toldIsSquare n (nI q) f (nI k) = some 0 ∧ (k ≠ q * q ∨ ∃ j, j < k ∧ nI q ≤ f j)) := by
  unfold M_X11_toldIsSquare
  have h9 : q * q ≤ 10 * 10 := Nat.mul_le_mul hq hq
  rw [pk_mul]
  by_cases e : k = q * q
  · rw [if_pos (by rw [← e])]
    rcases lp_find (f := fun x : Int32 => M_X11_toldIsSquare_b14 n (nI q) f (nI k) x) (fun i => nI i) (fun i => nI q ≤ f i) (fun _ => Sum.inr 0) (Sum.inl ()) k
      (fun i hi h => by
        obtain ⟨v, hv, ev⟩ := hf i hi
        rw [ev, nI_leI (by omega) (by omega)] at h
        unfold M_X11_toldIsSquare_b14; simp (disch := omega) only [ev, i_0, i_1, i_2, i_3, i_4, i_5, i_6, i_7, i_8, i_10, i_12, i_16, i_31, i_32, i_64, i_100, i_128, i_255, i_256, i_512, i_1000, i_1128, i_65535, i_65536, nI_add, pk_mul, pk_sub, nI_ltI, nI_leI, nI_eq, nI_clamp, if_pos, if_neg, ite_true, ite_false, Option.bind_some, Option.elim_some, Option.elim_none, Sum.elim_inl, Sum.elim_inr])
      (fun i hi h => by
        obtain ⟨v, hv, ev⟩ := hf i hi
        rw [ev, nI_leI (by omega) (by omega)] at h
        unfold M_X11_toldIsSquare_b14; simp (disch := omega) only [ev, i_0, i_1, i_2, i_3, i_4, i_5, i_6, i_7, i_8, i_10, i_12, i_16, i_31, i_32, i_64, i_100, i_128, i_255, i_256, i_512, i_1000, i_1128, i_65535, i_65536, nI_add, pk_mul, pk_sub, nI_ltI, nI_leI, nI_eq, nI_clamp, if_pos, if_neg, ite_true, ite_false, Option.bind_some, Option.elim_some, Option.elim_none, Sum.elim_inl, Sum.elim_inr])
      (by unfold M_X11_toldIsSquare_b14; simp (disch := omega) only [i_0, i_1, i_2, i_3, i_4, i_5, i_6, i_7, i_8, i_10, i_12, i_16, i_31, i_32, i_64, i_100, i_128, i_255, i_256, i_512, i_1000, i_1128, i_65535, i_65536, nI_add, pk_mul, pk_sub, nI_ltI, nI_leI, nI_eq, nI_clamp, if_pos, if_neg, ite_true, ite_false, Option.bind_some, Option.elim_some, Option.elim_none, Sum.elim_inl, Sum.elim_inr]) n 0 (by omega) (by omega) with ⟨i, -, h2, h3, -, h5⟩ | ⟨h1, h2⟩
    · right
      refine ⟨?_, Or.inr ⟨i, h2, h3⟩⟩
      rw [show (0 : Int32) = nI 0 from rfl, h5]; rfl
    · left
      refine ⟨?_, e, fun j hj => h1 j (by omega) hj⟩
      rw [show (0 : Int32) = nI 0 from rfl, h2]; rfl
  · rw [if_neg (by rw [nI_eq (by omega) (by omega)]; exact e)]
    exact Or.inr ⟨rfl, Or.inl e⟩
theorem o_square {n : Nat} (hn : 100 < n) {tc : Int32} {tf : Nat → Int32} {tc2 : Int32} {tf2 : Nat → Int32} (ht : I_told tc tf tc2 tf2) (h : I_sums ro c c2 kd mo bi tu po be fi lo wo wt ce) (x1 : Int32) :
    ∃ r r2, M_X11_square n x1 c tf tc = some r ∧ M_X12_square n x1 tc2 tf2 c2 kd mo ce = some r2 ∧ r.1 = r2.1 ∧ (∀ a w, I_sums (upRo ro c.toNatClampNeg r.2.1 a w) r.2.2.1 r2.2.2.1 r2.2.2.2.1 r2.2.2.2.2.1 bi tu po be fi lo wo wt r2.2.2.2.2.2) ∧ I_told r.2.2.2 tf r2.2.1 tf2 := by
  obtain ⟨k, hk, rfl, rfl, hf⟩ := h
  obtain ⟨t, htk, rfl, rfl, htf⟩ := ht
  unfold M_X11_square M_X12_square M_X12_made M_X11_isFull
  rw [in_eq x1 2 10 (by decide) (by decide)]
  rcases wi_cases x1 (p := 2) (q := 10) (by omega) (by omega) with ⟨h1, -⟩ | ⟨h1, q, hq, hq', rfl⟩
  · simp (disch := omega) only [h1, i_0, i_1, i_2, i_3, i_4, i_5, i_6, i_7, i_8, i_10, i_12, i_16, i_31, i_32, i_64, i_100, i_128, i_255, i_256, i_512, i_1000, i_1128, i_65535, i_65536, nI_add, pk_mul, pk_sub, nI_ltI, nI_leI, nI_eq, nI_clamp, if_pos, if_neg, ite_true, ite_false, Option.bind_some, Option.elim_some, Option.elim_none, Sum.elim_inl, Sum.elim_inr]
    exact ⟨_, _, rfl, rfl, rfl, fun a w => ⟨k, hk, rfl, rfl, hf⟩, t, htk, rfl, rfl, htf⟩
  have h9 : q * q ≤ 10 * 10 := Nat.mul_le_mul hq' hq'
  have h1' : M_X11_within (nI q) 2 10 = 1 := h1
  rw [h1', pk_mul, if_neg one_ne, if_neg one_ne, qgood_M hn htk, qgood_M hn htk, qgood_0]
  rcases sq_C hn htk hq' tf (fun j hj => (htf j hj).2) with ⟨h2, h3, h4⟩ | ⟨h2, h3⟩
  · have h5 : qgood 1 tf2 (nI q) t = 1 := by
      rcases qgood_1 tf2 (nI q) t with ⟨h5, -⟩ | ⟨-, j, hj, h5⟩
      · exact h5
      · rw [(htf j hj).1] at h5
        exact absurd h5 (h4 j hj)
    rw [h2, h5, if_pos (show nI t = nI (q * q) by rw [h3])]
    rcases Nat.lt_or_ge k 16 with hlt | hge
    · rw [cfill hn htk hlt]
      simp (disch := omega) only [i_0, i_1, i_2, i_3, i_4, i_5, i_6, i_7, i_8, i_10, i_12, i_16, i_31, i_32, i_64, i_100, i_128, i_255, i_256, i_512, i_1000, i_1128, i_65535, i_65536, nI_add, pk_mul, pk_sub, nI_ltI, nI_leI, nI_eq, nI_clamp, if_pos, if_neg, ite_true, ite_false, Option.bind_some, Option.elim_some, Option.elim_none, Sum.elim_inl, Sum.elim_inr, nI_pred]
      refine ⟨_, _, rfl, rfl, rfl, fun a w => new_sum hlt hf (fun j hj => up_ne _ _ (by omega)) (fun j hj => up_ne _ _ (by omega)) (fun _ _ => rfl) (fun _ _ => rfl) (fun _ _ => rfl) (fun _ _ => rfl) (fun _ _ => rfl) (fun _ _ => rfl) (fun _ _ => rfl) (fun _ _ => rfl) (fun x hx => fillA_lt _ _ hx) ?_ a w, 0, by omega, rfl, rfl, fun j hj => by omega⟩
      refine Or.inr (Or.inr (Or.inr (Or.inr (Or.inr ⟨q, tf, hq, hq', by rw [h3]; rfl, up_at _ _ _, up_at _ _ _, fun i hi => ?_⟩))))
      have hi' : i < t := by omega
      refine ⟨by rw [← (htf i hi').1]; exact fillA_in _ _ hi', ?_⟩
      obtain ⟨v, hv, ev⟩ := (htf i hi').2
      refine ⟨v, ?_, ev⟩
      have := h4 i hi'
      rw [ev, nI_leI (by omega) (by omega)] at this
      omega
    · simp (disch := omega) only [i_0, i_1, i_2, i_3, i_4, i_5, i_6, i_7, i_8, i_10, i_12, i_16, i_31, i_32, i_64, i_100, i_128, i_255, i_256, i_512, i_1000, i_1128, i_65535, i_65536, nI_add, pk_mul, pk_sub, nI_ltI, nI_leI, nI_eq, nI_clamp, if_pos, if_neg, ite_true, ite_false, Option.bind_some, Option.elim_some, Option.elim_none, Sum.elim_inl, Sum.elim_inr]
      exact ⟨_, _, rfl, rfl, rfl, fun a w => ⟨k, hk, rfl, rfl, hf⟩, t, htk, rfl, rfl, htf⟩
  · rw [h2]
    by_cases e : t = q * q
    · have h5 : qgood 1 tf2 (nI q) t = 0 := by
        rcases qgood_1 tf2 (nI q) t with ⟨-, h5⟩ | ⟨h5, -⟩
        · rcases h3 with h3 | ⟨j, hj, h3⟩
          · exact absurd e h3
          · rw [← (htf j hj).1] at h3
            exact absurd h3 (h5 j hj)
        · exact h5
      rw [if_pos (show nI t = nI (q * q) by rw [e]), h5]
      exact ⟨_, _, rfl, rfl, rfl, fun a w => ⟨k, hk, rfl, rfl, hf⟩, t, htk, rfl, rfl, htf⟩
    · rw [if_neg (show ¬ nI t = nI (q * q) by rw [nI_eq (by omega) (by omega)]; exact e)]
      exact ⟨_, _, rfl, rfl, rfl, fun a w => ⟨k, hk, rfl, rfl, hf⟩, t, htk, rfl, rfl, htf⟩
/-- which SUM a number names -/
theorem sum_at (h : I_sums ro c c2 kd mo bi tu po be fi lo wo wt ce) (x1 : Int32) : (M_X11_sumAt x1 ro c = some none ∧ M_X12_isSum x1 c2 = 0) ∨
    ∃ j a w sd, j < 16 ∧ x1 = nI j ∧ M_X11_sumAt x1 ro c = some (some (a, w, sd)) ∧ M_X12_isSum x1 c2 = 1 ∧ SKv sd (kd j) (mo j) (bi j) (tu j) (po j) (be j) (fi j) (lo j) (wo j) (fun i => wt (12 * j + i)) (fun i => ce (100 * j + i)) := by
  obtain ⟨k, hk, rfl, rfl, hf⟩ := h
  unfold M_X11_sumAt M_X12_isSum
  rw [in_eq x1 0 (nI k - 1) (by decide) rfl]
  rcases wi_lt x1 (k := k) (by omega) with ⟨h1, -⟩ | ⟨h1, j, hj, rfl⟩
  · exact Or.inl ⟨by rw [h1, if_pos z_eq], h1⟩
  · obtain ⟨a, w, sd, h2, h3⟩ := hf j hj
    refine Or.inr ⟨j, a, w, sd, by omega, rfl, ?_, h1, h3⟩
    rw [h1]
    simp (disch := omega) only [i_0, i_1, i_2, i_3, i_4, i_5, i_6, i_7, i_8, i_10, i_12, i_16, i_31, i_32, i_64, i_100, i_128, i_255, i_256, i_512, i_1000, i_1128, i_65535, i_65536, nI_add, pk_mul, pk_sub, nI_ltI, nI_leI, nI_eq, nI_clamp, if_pos, if_neg, ite_true, ite_false, Option.bind_some, Option.elim_some, Option.elim_none, Sum.elim_inl, Sum.elim_inr]
    rw [h2]
theorem o_kind (h : I_sums ro c c2 kd mo bi tu po be fi lo wo wt ce) (x1 : Int32) :
    ∃ r r2, M_X11_kind x1 ro c = some r ∧ M_X12_kind x1 c2 kd = some r2 ∧ r = r2 := by
  unfold M_X11_kind M_X12_kind
  rcases sum_at h x1 with ⟨h1, h2⟩ | ⟨j, a, w, sd, hj, rfl, h1, h2, h3⟩
  · rw [h1, h2]
    exact ⟨_, _, rfl, rfl, rfl⟩
  · rw [h1, h2]
    rcases h3 with ⟨m, -, -, rfl, e, -⟩ | ⟨m, -, -, rfl, e, -⟩ | ⟨m, L, f, -, -, -, -, rfl, e, -⟩ | ⟨n, t, -, -, -, rfl, e, -⟩ | ⟨k, n, p, b, f, l, -, -, -, -, -, -, -, rfl, e, -⟩ | ⟨q, f, -, -, rfl, e, -⟩ <;>
    · simp (disch := omega) only [i_0, i_1, i_2, i_3, i_4, i_5, i_6, i_7, i_8, i_10, i_12, i_16, i_31, i_32, i_64, i_100, i_128, i_255, i_256, i_512, i_1000, i_1128, i_65535, i_65536, nI_add, pk_mul, pk_sub, nI_ltI, nI_leI, nI_eq, nI_clamp, if_pos, if_neg, ite_true, ite_false, Option.bind_some, Option.elim_some, Option.elim_none, Sum.elim_inl, Sum.elim_inr, e]
      exact ⟨_, _, rfl, rfl, rfl⟩
end CR
