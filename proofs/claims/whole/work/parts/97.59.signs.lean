/-! Own rows: squares judged. -/
theorem lp_ex {σ ρ : Type} {f : σ → Option (σ ⊕ ρ)} (st : Nat → σ) (P : Nat → Prop) (hit miss : ρ) (N : Nat)
    (go : ∀ i, i < N → ¬ P i → f (st i) = some (.inl (st (i + 1)))) (got : ∀ i, i < N → P i → f (st i) = some (.inr hit)) (last : f (st N) = some (.inr miss)) (n a : Nat) (ha : a ≤ N) (hn : N - a < n) :
    ((∃ i, a ≤ i ∧ i < N ∧ P i) ∧ lp f n (st a) = some hit) ∨ ((∀ i, a ≤ i → i < N → ¬ P i) ∧ lp f n (st a) = some miss) := by
  rcases lp_find st P (fun _ => hit) miss N go got last n a ha hn with ⟨i, h1, h2, h3, -, h5⟩ | h
  · exact Or.inl ⟨⟨i, h1, h2, h3⟩, h5⟩
  · exact Or.inr h
def cl (q : Nat) (g : Nat → Nat) (s a : Nat) : Nat := g (q * s + a)
def alk (q : Nat) (g : Nat → Nat) (what s a b : Nat) : Prop :=
  if what = 0 then cl q g s a = cl q g s b ∨ cl q g a s = cl q g b s else if what = 1 then cl q g (cl q g s a) b = cl q g (cl q g s b) a else cl q g (cl q g s a) a = cl q g (cl q g s b) b
theorem alk_comm {q : Nat} {g : Nat → Nat} {what s a b : Nat} (h : alk q g what s a b) : alk q g what s b a := by
  unfold alk at h ⊢
  by_cases e0 : what = 0
  · rw [if_pos e0] at h ⊢
    rcases h with h | h
    · exact Or.inl h.symm
    · exact Or.inr h.symm
  · rw [if_neg e0] at h ⊢
    by_cases e1 : what = 1
    · rw [if_pos e1] at h ⊢
      exact h.symm
    · rw [if_neg e1] at h ⊢
      exact h.symm
section SG
variable {n : Nat} {q : Nat} {g : Nat → Nat}
theorem cell_C {wf : Nat → Int32} (hq' : q ≤ 10) (hg : ∀ x, x < q * q → g x < q) (hwf : ∀ x, x < q * q → wf x = nI (g x)) {s a : Nat} (hs : s < q) (ha : a < q) : M_X5_cell (nI s) (nI a) (nI q) (q * q) wf = some (nI (cl q g s a)) := by
  have h1 := sqx_lt hs ha
  have hqq : q * q ≤ 10 * 10 := Nat.mul_le_mul hq' hq'
  unfold M_X5_cell cl
  simp (disch := omega) only [i_0, i_1, i_2, i_3, i_4, i_5, i_6, i_7, i_8, i_10, i_12, i_16, i_31, i_32, i_64, i_100, i_128, i_255, i_256, i_512, i_1000, i_1128, i_65535, i_65536, nI_add, pk_mul, pk_sub, nI_ltI, nI_leI, nI_eq, nI_clamp, if_pos, if_neg, ite_true, ite_false, Option.bind_some, Option.elim_some, Option.elim_none, Sum.elim_inl, Sum.elim_inr, hwf]
theorem cl_lt (hg : ∀ x, x < q * q → g x < q) {s a : Nat} (hs : s < q) (ha : a < q) : cl q g s a < q := hg _ (sqx_lt hs ha)
theorem cell_M {mo ce : Nat → Int32} {j : Nat} (hj : j < 16) (hq' : q ≤ 10) (hmo : mo j = nI q) (hce : ∀ x, x < q * q → ce (100 * j + x) = nI (g x)) {s a : Nat} (hs : s < q) (ha : a < q) : M_X12_cellOf (nI j) (nI s) (nI a) mo ce = some (nI (cl q g s a)) := by
  have h1 := sqx_lt hs ha
  have hqq : q * q ≤ 10 * 10 := Nat.mul_le_mul hq' hq'
  have e1 : 100 * j + s * q + a = 100 * j + (q * s + a) := by rw [Nat.mul_comm s q]; omega
  unfold M_X12_cellOf cl
  simp (disch := omega) only [i_0, i_1, i_2, i_3, i_4, i_5, i_6, i_7, i_8, i_10, i_12, i_16, i_31, i_32, i_64, i_100, i_128, i_255, i_256, i_512, i_1000, i_1128, i_65535, i_65536, nI_add, pk_mul, pk_sub, nI_ltI, nI_leI, nI_eq, nI_clamp, if_pos, if_neg, ite_true, ite_false, Option.bind_some, Option.elim_some, Option.elim_none, Sum.elim_inl, Sum.elim_inr, hmo, e1, hce]
theorem seesSingles_C {wf : Nat → Int32} (hn : 100 < n) (hq' : q ≤ 10) (hg : ∀ x, x < q * q → g x < q) (hwf : ∀ x, x < q * q → wf x = nI (g x)) :
    ((∃ s a b, s < q ∧ a < q ∧ b < q ∧ a ≠ b ∧ alk q g 0 s a b) ∧ M_X5_seesSingles n (nI q) (q * q) wf = some 0) ∨ ((∀ s a b, s < q → a < q → b < q → a ≠ b → ¬ alk q g 0 s a b) ∧ M_X5_seesSingles n (nI q) (q * q) wf = some 1) := by
  have hqq : q * q ≤ 10 * 10 := Nat.mul_le_mul hq' hq'
  have in3 : ∀ s a, s < q → a < q → ((∃ b, a + 1 ≤ b ∧ b < q ∧ alk q g 0 s a b) ∧ lp (fun x : Int32 => M_X5_seesSingles_b24 n (nI s) (nI a) (nI q) (q * q) wf x) n (nI (a + 1)) = some (Sum.inr 0)) ∨ ((∀ b, a + 1 ≤ b → b < q → ¬ alk q g 0 s a b) ∧ lp (fun x : Int32 => M_X5_seesSingles_b24 n (nI s) (nI a) (nI q) (q * q) wf x) n (nI (a + 1)) = some (Sum.inl ())) := by
    intro s a hs ha
    refine lp_ex (f := fun x : Int32 => M_X5_seesSingles_b24 n (nI s) (nI a) (nI q) (q * q) wf x) (fun i => nI i) (fun b => alk q g 0 s a b) (Sum.inr 0) (Sum.inl ()) q ?_ ?_ ?_ n (a + 1) (by omega) (by omega)
    · intro b hb h
      replace h : ¬ (cl q g s a = cl q g s b ∨ cl q g a s = cl q g b s) := h
      have k1 := cl_lt hg hs ha
      have k2 := cl_lt hg hs hb
      have k3 := cl_lt hg ha hs
      have k4 := cl_lt hg hb hs
      have k5 := cl_lt hg k1 hb
      have k6 := cl_lt hg k2 ha
      have k7 := cl_lt hg k1 ha
      have k8 := cl_lt hg k2 hb
      by_cases e1 : cl q g s a = cl q g s b
      · exact absurd (Or.inl e1) h
      · by_cases e2 : cl q g a s = cl q g b s
        · exact absurd (Or.inr e2) h
        · unfold M_X5_seesSingles_b24
          simp (disch := omega) only [i_0, i_1, i_2, i_3, i_4, i_5, i_6, i_7, i_8, i_10, i_12, i_16, i_31, i_32, i_64, i_100, i_128, i_255, i_256, i_512, i_1000, i_1128, i_65535, i_65536, nI_add, pk_mul, pk_sub, nI_ltI, nI_leI, nI_eq, nI_clamp, if_pos, if_neg, ite_true, ite_false, Option.bind_some, Option.elim_some, Option.elim_none, Sum.elim_inl, Sum.elim_inr, cell_C hq' hg hwf, e1, e2]
    · intro b hb h
      replace h : cl q g s a = cl q g s b ∨ cl q g a s = cl q g b s := h
      have k1 := cl_lt hg hs ha
      have k2 := cl_lt hg hs hb
      have k3 := cl_lt hg ha hs
      have k4 := cl_lt hg hb hs
      have k5 := cl_lt hg k1 hb
      have k6 := cl_lt hg k2 ha
      have k7 := cl_lt hg k1 ha
      have k8 := cl_lt hg k2 hb
      unfold M_X5_seesSingles_b24
      by_cases e1 : cl q g s a = cl q g s b
      · simp (disch := omega) only [i_0, i_1, i_2, i_3, i_4, i_5, i_6, i_7, i_8, i_10, i_12, i_16, i_31, i_32, i_64, i_100, i_128, i_255, i_256, i_512, i_1000, i_1128, i_65535, i_65536, nI_add, pk_mul, pk_sub, nI_ltI, nI_leI, nI_eq, nI_clamp, if_pos, if_neg, ite_true, ite_false, Option.bind_some, Option.elim_some, Option.elim_none, Sum.elim_inl, Sum.elim_inr, cell_C hq' hg hwf, e1]
      · rcases h with h | h
        · exact absurd h e1
        · simp (disch := omega) only [i_0, i_1, i_2, i_3, i_4, i_5, i_6, i_7, i_8, i_10, i_12, i_16, i_31, i_32, i_64, i_100, i_128, i_255, i_256, i_512, i_1000, i_1128, i_65535, i_65536, nI_add, pk_mul, pk_sub, nI_ltI, nI_leI, nI_eq, nI_clamp, if_pos, if_neg, ite_true, ite_false, Option.bind_some, Option.elim_some, Option.elim_none, Sum.elim_inl, Sum.elim_inr, cell_C hq' hg hwf, e1, h]
    · unfold M_X5_seesSingles_b24
      simp (disch := omega) only [i_0, i_1, i_2, i_3, i_4, i_5, i_6, i_7, i_8, i_10, i_12, i_16, i_31, i_32, i_64, i_100, i_128, i_255, i_256, i_512, i_1000, i_1128, i_65535, i_65536, nI_add, pk_mul, pk_sub, nI_ltI, nI_leI, nI_eq, nI_clamp, if_pos, if_neg, ite_true, ite_false, Option.bind_some, Option.elim_some, Option.elim_none, Sum.elim_inl, Sum.elim_inr]
  have in2 : ∀ s, s < q → ((∃ a, 0 ≤ a ∧ a < q ∧ ∃ b, a + 1 ≤ b ∧ b < q ∧ alk q g 0 s a b) ∧ lp (fun x : Int32 => M_X5_seesSingles_b12 n (nI s) (nI q) (q * q) wf x) n (nI 0) = some (Sum.inr 0)) ∨ ((∀ a, 0 ≤ a → a < q → ¬ ∃ b, a + 1 ≤ b ∧ b < q ∧ alk q g 0 s a b) ∧ lp (fun x : Int32 => M_X5_seesSingles_b12 n (nI s) (nI q) (q * q) wf x) n (nI 0) = some (Sum.inl ())) := by
    intro s hs
    refine lp_ex (f := fun x : Int32 => M_X5_seesSingles_b12 n (nI s) (nI q) (q * q) wf x) (fun i => nI i) (fun a => ∃ b, a + 1 ≤ b ∧ b < q ∧ alk q g 0 s a b) (Sum.inr 0) (Sum.inl ()) q ?_ ?_ ?_ n 0 (by omega) (by omega)
    · intro a ha h
      rcases in3 s a hs ha with ⟨h1, h2⟩ | ⟨h1, h2⟩
      · exact absurd h1 h
      · unfold M_X5_seesSingles_b12
        simp (disch := omega) only [i_0, i_1, i_2, i_3, i_4, i_5, i_6, i_7, i_8, i_10, i_12, i_16, i_31, i_32, i_64, i_100, i_128, i_255, i_256, i_512, i_1000, i_1128, i_65535, i_65536, nI_add, pk_mul, pk_sub, nI_ltI, nI_leI, nI_eq, nI_clamp, if_pos, if_neg, ite_true, ite_false, Option.bind_some, Option.elim_some, Option.elim_none, Sum.elim_inl, Sum.elim_inr, h2]
    · intro a ha h
      rcases in3 s a hs ha with ⟨h1, h2⟩ | ⟨h1, h2⟩
      · unfold M_X5_seesSingles_b12
        simp (disch := omega) only [i_0, i_1, i_2, i_3, i_4, i_5, i_6, i_7, i_8, i_10, i_12, i_16, i_31, i_32, i_64, i_100, i_128, i_255, i_256, i_512, i_1000, i_1128, i_65535, i_65536, nI_add, pk_mul, pk_sub, nI_ltI, nI_leI, nI_eq, nI_clamp, if_pos, if_neg, ite_true, ite_false, Option.bind_some, Option.elim_some, Option.elim_none, Sum.elim_inl, Sum.elim_inr, show ((Sum.inr 0 : Unit ⊕ Int32)) = Sum.inr (nI 0) from rfl] at h2 ⊢
        rw [h2]; rfl
      · obtain ⟨b, hb1, hb2, hb3⟩ := h
        exact absurd hb3 (h1 b hb1 hb2)
    · unfold M_X5_seesSingles_b12
      simp (disch := omega) only [i_0, i_1, i_2, i_3, i_4, i_5, i_6, i_7, i_8, i_10, i_12, i_16, i_31, i_32, i_64, i_100, i_128, i_255, i_256, i_512, i_1000, i_1128, i_65535, i_65536, nI_add, pk_mul, pk_sub, nI_ltI, nI_leI, nI_eq, nI_clamp, if_pos, if_neg, ite_true, ite_false, Option.bind_some, Option.elim_some, Option.elim_none, Sum.elim_inl, Sum.elim_inr]
  have in1 := lp_ex (f := fun x : Int32 => M_X5_seesSingles_b2 n (nI q) (q * q) wf x) (fun i => nI i) (fun s => ∃ a, 0 ≤ a ∧ a < q ∧ ∃ b, a + 1 ≤ b ∧ b < q ∧ alk q g 0 s a b) (Sum.inr 0) (Sum.inl ()) q (by
      intro s hs h
      rcases in2 s hs with ⟨h1, h2⟩ | ⟨h1, h2⟩
      · exact absurd h1 h
      · unfold M_X5_seesSingles_b2
        simp (disch := omega) only [i_0, i_1, i_2, i_3, i_4, i_5, i_6, i_7, i_8, i_10, i_12, i_16, i_31, i_32, i_64, i_100, i_128, i_255, i_256, i_512, i_1000, i_1128, i_65535, i_65536, nI_add, pk_mul, pk_sub, nI_ltI, nI_leI, nI_eq, nI_clamp, if_pos, if_neg, ite_true, ite_false, Option.bind_some, Option.elim_some, Option.elim_none, Sum.elim_inl, Sum.elim_inr, h2]) (by
      intro s hs h
      rcases in2 s hs with ⟨h1, h2⟩ | ⟨h1, h2⟩
      · unfold M_X5_seesSingles_b2
        simp (disch := omega) only [i_0, i_1, i_2, i_3, i_4, i_5, i_6, i_7, i_8, i_10, i_12, i_16, i_31, i_32, i_64, i_100, i_128, i_255, i_256, i_512, i_1000, i_1128, i_65535, i_65536, nI_add, pk_mul, pk_sub, nI_ltI, nI_leI, nI_eq, nI_clamp, if_pos, if_neg, ite_true, ite_false, Option.bind_some, Option.elim_some, Option.elim_none, Sum.elim_inl, Sum.elim_inr] at h2 ⊢
        rw [h2]; rfl
      · obtain ⟨a, ha1, ha2, ha3⟩ := h
        exact absurd ha3 (h1 a ha1 ha2)) (by
      unfold M_X5_seesSingles_b2
      simp (disch := omega) only [i_0, i_1, i_2, i_3, i_4, i_5, i_6, i_7, i_8, i_10, i_12, i_16, i_31, i_32, i_64, i_100, i_128, i_255, i_256, i_512, i_1000, i_1128, i_65535, i_65536, nI_add, pk_mul, pk_sub, nI_ltI, nI_leI, nI_eq, nI_clamp, if_pos, if_neg, ite_true, ite_false, Option.bind_some, Option.elim_some, Option.elim_none, Sum.elim_inl, Sum.elim_inr]) n 0 (by omega) (by omega)
  unfold M_X5_seesSingles
  rcases in1 with ⟨⟨s, -, hs, a, -, ha, b, hb1, hb2, hb3⟩, h2⟩ | ⟨h1, h2⟩
  · exact Or.inl ⟨⟨s, a, b, hs, ha, hb2, by omega, hb3⟩, lp_b h2 rfl⟩
  · refine Or.inr ⟨fun s a b hs ha hb hne h => ?_, lp_b h2 rfl⟩
    rcases Nat.lt_or_ge a b with h9 | h9
    · exact h1 s (by omega) hs ⟨a, by omega, ha, b, h9, hb, h⟩
    · exact h1 s (by omega) hs ⟨b, by omega, hb, a, by omega, ha, alk_comm h⟩
theorem seesSwaps_C {wf : Nat → Int32} (hn : 100 < n) (hq' : q ≤ 10) (hg : ∀ x, x < q * q → g x < q) (hwf : ∀ x, x < q * q → wf x = nI (g x)) :
    ((∃ s a b, s < q ∧ a < q ∧ b < q ∧ a ≠ b ∧ alk q g 1 s a b) ∧ M_X5_seesSwaps n (nI q) (q * q) wf = some 0) ∨ ((∀ s a b, s < q → a < q → b < q → a ≠ b → ¬ alk q g 1 s a b) ∧ M_X5_seesSwaps n (nI q) (q * q) wf = some 1) := by
  have hqq : q * q ≤ 10 * 10 := Nat.mul_le_mul hq' hq'
  have in3 : ∀ s a, s < q → a < q → ((∃ b, a + 1 ≤ b ∧ b < q ∧ alk q g 1 s a b) ∧ lp (fun x : Int32 => M_X5_seesSwaps_b24 n (nI s) (nI a) (nI q) (q * q) wf x) n (nI (a + 1)) = some (Sum.inr 0)) ∨ ((∀ b, a + 1 ≤ b → b < q → ¬ alk q g 1 s a b) ∧ lp (fun x : Int32 => M_X5_seesSwaps_b24 n (nI s) (nI a) (nI q) (q * q) wf x) n (nI (a + 1)) = some (Sum.inl ())) := by
    intro s a hs ha
    refine lp_ex (f := fun x : Int32 => M_X5_seesSwaps_b24 n (nI s) (nI a) (nI q) (q * q) wf x) (fun i => nI i) (fun b => alk q g 1 s a b) (Sum.inr 0) (Sum.inl ()) q ?_ ?_ ?_ n (a + 1) (by omega) (by omega)
    · intro b hb h
      replace h : ¬ (cl q g (cl q g s a) b = cl q g (cl q g s b) a) := h
      have k1 := cl_lt hg hs ha
      have k2 := cl_lt hg hs hb
      have k3 := cl_lt hg ha hs
      have k4 := cl_lt hg hb hs
      have k5 := cl_lt hg k1 hb
      have k6 := cl_lt hg k2 ha
      have k7 := cl_lt hg k1 ha
      have k8 := cl_lt hg k2 hb
      unfold M_X5_seesSwaps_b24
      simp (disch := omega) only [i_0, i_1, i_2, i_3, i_4, i_5, i_6, i_7, i_8, i_10, i_12, i_16, i_31, i_32, i_64, i_100, i_128, i_255, i_256, i_512, i_1000, i_1128, i_65535, i_65536, nI_add, pk_mul, pk_sub, nI_ltI, nI_leI, nI_eq, nI_clamp, if_pos, if_neg, ite_true, ite_false, Option.bind_some, Option.elim_some, Option.elim_none, Sum.elim_inl, Sum.elim_inr, cell_C hq' hg hwf, h]
    · intro b hb h
      replace h : cl q g (cl q g s a) b = cl q g (cl q g s b) a := h
      have k1 := cl_lt hg hs ha
      have k2 := cl_lt hg hs hb
      have k3 := cl_lt hg ha hs
      have k4 := cl_lt hg hb hs
      have k5 := cl_lt hg k1 hb
      have k6 := cl_lt hg k2 ha
      have k7 := cl_lt hg k1 ha
      have k8 := cl_lt hg k2 hb
      unfold M_X5_seesSwaps_b24
      simp (disch := omega) only [i_0, i_1, i_2, i_3, i_4, i_5, i_6, i_7, i_8, i_10, i_12, i_16, i_31, i_32, i_64, i_100, i_128, i_255, i_256, i_512, i_1000, i_1128, i_65535, i_65536, nI_add, pk_mul, pk_sub, nI_ltI, nI_leI, nI_eq, nI_clamp, if_pos, if_neg, ite_true, ite_false, Option.bind_some, Option.elim_some, Option.elim_none, Sum.elim_inl, Sum.elim_inr, cell_C hq' hg hwf, h]
    · unfold M_X5_seesSwaps_b24
      simp (disch := omega) only [i_0, i_1, i_2, i_3, i_4, i_5, i_6, i_7, i_8, i_10, i_12, i_16, i_31, i_32, i_64, i_100, i_128, i_255, i_256, i_512, i_1000, i_1128, i_65535, i_65536, nI_add, pk_mul, pk_sub, nI_ltI, nI_leI, nI_eq, nI_clamp, if_pos, if_neg, ite_true, ite_false, Option.bind_some, Option.elim_some, Option.elim_none, Sum.elim_inl, Sum.elim_inr]
  have in2 : ∀ s, s < q → ((∃ a, 0 ≤ a ∧ a < q ∧ ∃ b, a + 1 ≤ b ∧ b < q ∧ alk q g 1 s a b) ∧ lp (fun x : Int32 => M_X5_seesSwaps_b12 n (nI s) (nI q) (q * q) wf x) n (nI 0) = some (Sum.inr 0)) ∨ ((∀ a, 0 ≤ a → a < q → ¬ ∃ b, a + 1 ≤ b ∧ b < q ∧ alk q g 1 s a b) ∧ lp (fun x : Int32 => M_X5_seesSwaps_b12 n (nI s) (nI q) (q * q) wf x) n (nI 0) = some (Sum.inl ())) := by
    intro s hs
    refine lp_ex (f := fun x : Int32 => M_X5_seesSwaps_b12 n (nI s) (nI q) (q * q) wf x) (fun i => nI i) (fun a => ∃ b, a + 1 ≤ b ∧ b < q ∧ alk q g 1 s a b) (Sum.inr 0) (Sum.inl ()) q ?_ ?_ ?_ n 0 (by omega) (by omega)
    · intro a ha h
      rcases in3 s a hs ha with ⟨h1, h2⟩ | ⟨h1, h2⟩
      · exact absurd h1 h
      · unfold M_X5_seesSwaps_b12
        simp (disch := omega) only [i_0, i_1, i_2, i_3, i_4, i_5, i_6, i_7, i_8, i_10, i_12, i_16, i_31, i_32, i_64, i_100, i_128, i_255, i_256, i_512, i_1000, i_1128, i_65535, i_65536, nI_add, pk_mul, pk_sub, nI_ltI, nI_leI, nI_eq, nI_clamp, if_pos, if_neg, ite_true, ite_false, Option.bind_some, Option.elim_some, Option.elim_none, Sum.elim_inl, Sum.elim_inr, h2]
    · intro a ha h
      rcases in3 s a hs ha with ⟨h1, h2⟩ | ⟨h1, h2⟩
      · unfold M_X5_seesSwaps_b12
        simp (disch := omega) only [i_0, i_1, i_2, i_3, i_4, i_5, i_6, i_7, i_8, i_10, i_12, i_16, i_31, i_32, i_64, i_100, i_128, i_255, i_256, i_512, i_1000, i_1128, i_65535, i_65536, nI_add, pk_mul, pk_sub, nI_ltI, nI_leI, nI_eq, nI_clamp, if_pos, if_neg, ite_true, ite_false, Option.bind_some, Option.elim_some, Option.elim_none, Sum.elim_inl, Sum.elim_inr, show ((Sum.inr 0 : Unit ⊕ Int32)) = Sum.inr (nI 0) from rfl] at h2 ⊢
        rw [h2]; rfl
      · obtain ⟨b, hb1, hb2, hb3⟩ := h
        exact absurd hb3 (h1 b hb1 hb2)
    · unfold M_X5_seesSwaps_b12
      simp (disch := omega) only [i_0, i_1, i_2, i_3, i_4, i_5, i_6, i_7, i_8, i_10, i_12, i_16, i_31, i_32, i_64, i_100, i_128, i_255, i_256, i_512, i_1000, i_1128, i_65535, i_65536, nI_add, pk_mul, pk_sub, nI_ltI, nI_leI, nI_eq, nI_clamp, if_pos, if_neg, ite_true, ite_false, Option.bind_some, Option.elim_some, Option.elim_none, Sum.elim_inl, Sum.elim_inr]
  have in1 := lp_ex (f := fun x : Int32 => M_X5_seesSwaps_b2 n (nI q) (q * q) wf x) (fun i => nI i) (fun s => ∃ a, 0 ≤ a ∧ a < q ∧ ∃ b, a + 1 ≤ b ∧ b < q ∧ alk q g 1 s a b) (Sum.inr 0) (Sum.inl ()) q (by
      intro s hs h
      rcases in2 s hs with ⟨h1, h2⟩ | ⟨h1, h2⟩
      · exact absurd h1 h
      · unfold M_X5_seesSwaps_b2
        simp (disch := omega) only [i_0, i_1, i_2, i_3, i_4, i_5, i_6, i_7, i_8, i_10, i_12, i_16, i_31, i_32, i_64, i_100, i_128, i_255, i_256, i_512, i_1000, i_1128, i_65535, i_65536, nI_add, pk_mul, pk_sub, nI_ltI, nI_leI, nI_eq, nI_clamp, if_pos, if_neg, ite_true, ite_false, Option.bind_some, Option.elim_some, Option.elim_none, Sum.elim_inl, Sum.elim_inr, h2]) (by
      intro s hs h
      rcases in2 s hs with ⟨h1, h2⟩ | ⟨h1, h2⟩
      · unfold M_X5_seesSwaps_b2
        simp (disch := omega) only [i_0, i_1, i_2, i_3, i_4, i_5, i_6, i_7, i_8, i_10, i_12, i_16, i_31, i_32, i_64, i_100, i_128, i_255, i_256, i_512, i_1000, i_1128, i_65535, i_65536, nI_add, pk_mul, pk_sub, nI_ltI, nI_leI, nI_eq, nI_clamp, if_pos, if_neg, ite_true, ite_false, Option.bind_some, Option.elim_some, Option.elim_none, Sum.elim_inl, Sum.elim_inr] at h2 ⊢
        rw [h2]; rfl
      · obtain ⟨a, ha1, ha2, ha3⟩ := h
        exact absurd ha3 (h1 a ha1 ha2)) (by
      unfold M_X5_seesSwaps_b2
      simp (disch := omega) only [i_0, i_1, i_2, i_3, i_4, i_5, i_6, i_7, i_8, i_10, i_12, i_16, i_31, i_32, i_64, i_100, i_128, i_255, i_256, i_512, i_1000, i_1128, i_65535, i_65536, nI_add, pk_mul, pk_sub, nI_ltI, nI_leI, nI_eq, nI_clamp, if_pos, if_neg, ite_true, ite_false, Option.bind_some, Option.elim_some, Option.elim_none, Sum.elim_inl, Sum.elim_inr]) n 0 (by omega) (by omega)
  unfold M_X5_seesSwaps
  rcases in1 with ⟨⟨s, -, hs, a, -, ha, b, hb1, hb2, hb3⟩, h2⟩ | ⟨h1, h2⟩
  · exact Or.inl ⟨⟨s, a, b, hs, ha, hb2, by omega, hb3⟩, lp_b h2 rfl⟩
  · refine Or.inr ⟨fun s a b hs ha hb hne h => ?_, lp_b h2 rfl⟩
    rcases Nat.lt_or_ge a b with h9 | h9
    · exact h1 s (by omega) hs ⟨a, by omega, ha, b, h9, hb, h⟩
    · exact h1 s (by omega) hs ⟨b, by omega, hb, a, by omega, ha, alk_comm h⟩
theorem seesTwins_C {wf : Nat → Int32} (hn : 100 < n) (hq' : q ≤ 10) (hg : ∀ x, x < q * q → g x < q) (hwf : ∀ x, x < q * q → wf x = nI (g x)) :
    ((∃ s a b, s < q ∧ a < q ∧ b < q ∧ a ≠ b ∧ alk q g 2 s a b) ∧ M_X5_seesTwins n (nI q) (q * q) wf = some 0) ∨ ((∀ s a b, s < q → a < q → b < q → a ≠ b → ¬ alk q g 2 s a b) ∧ M_X5_seesTwins n (nI q) (q * q) wf = some 1) := by
  have hqq : q * q ≤ 10 * 10 := Nat.mul_le_mul hq' hq'
  have in3 : ∀ s a, s < q → a < q → ((∃ b, a + 1 ≤ b ∧ b < q ∧ alk q g 2 s a b) ∧ lp (fun x : Int32 => M_X5_seesTwins_b24 n (nI s) (nI a) (nI q) (q * q) wf x) n (nI (a + 1)) = some (Sum.inr 0)) ∨ ((∀ b, a + 1 ≤ b → b < q → ¬ alk q g 2 s a b) ∧ lp (fun x : Int32 => M_X5_seesTwins_b24 n (nI s) (nI a) (nI q) (q * q) wf x) n (nI (a + 1)) = some (Sum.inl ())) := by
    intro s a hs ha
    refine lp_ex (f := fun x : Int32 => M_X5_seesTwins_b24 n (nI s) (nI a) (nI q) (q * q) wf x) (fun i => nI i) (fun b => alk q g 2 s a b) (Sum.inr 0) (Sum.inl ()) q ?_ ?_ ?_ n (a + 1) (by omega) (by omega)
    · intro b hb h
      replace h : ¬ (cl q g (cl q g s a) a = cl q g (cl q g s b) b) := h
      have k1 := cl_lt hg hs ha
      have k2 := cl_lt hg hs hb
      have k3 := cl_lt hg ha hs
      have k4 := cl_lt hg hb hs
      have k5 := cl_lt hg k1 hb
      have k6 := cl_lt hg k2 ha
      have k7 := cl_lt hg k1 ha
      have k8 := cl_lt hg k2 hb
      unfold M_X5_seesTwins_b24
      simp (disch := omega) only [i_0, i_1, i_2, i_3, i_4, i_5, i_6, i_7, i_8, i_10, i_12, i_16, i_31, i_32, i_64, i_100, i_128, i_255, i_256, i_512, i_1000, i_1128, i_65535, i_65536, nI_add, pk_mul, pk_sub, nI_ltI, nI_leI, nI_eq, nI_clamp, if_pos, if_neg, ite_true, ite_false, Option.bind_some, Option.elim_some, Option.elim_none, Sum.elim_inl, Sum.elim_inr, cell_C hq' hg hwf, h]
    · intro b hb h
      replace h : cl q g (cl q g s a) a = cl q g (cl q g s b) b := h
      have k1 := cl_lt hg hs ha
      have k2 := cl_lt hg hs hb
      have k3 := cl_lt hg ha hs
      have k4 := cl_lt hg hb hs
      have k5 := cl_lt hg k1 hb
      have k6 := cl_lt hg k2 ha
      have k7 := cl_lt hg k1 ha
      have k8 := cl_lt hg k2 hb
      unfold M_X5_seesTwins_b24
      simp (disch := omega) only [i_0, i_1, i_2, i_3, i_4, i_5, i_6, i_7, i_8, i_10, i_12, i_16, i_31, i_32, i_64, i_100, i_128, i_255, i_256, i_512, i_1000, i_1128, i_65535, i_65536, nI_add, pk_mul, pk_sub, nI_ltI, nI_leI, nI_eq, nI_clamp, if_pos, if_neg, ite_true, ite_false, Option.bind_some, Option.elim_some, Option.elim_none, Sum.elim_inl, Sum.elim_inr, cell_C hq' hg hwf, h]
    · unfold M_X5_seesTwins_b24
      simp (disch := omega) only [i_0, i_1, i_2, i_3, i_4, i_5, i_6, i_7, i_8, i_10, i_12, i_16, i_31, i_32, i_64, i_100, i_128, i_255, i_256, i_512, i_1000, i_1128, i_65535, i_65536, nI_add, pk_mul, pk_sub, nI_ltI, nI_leI, nI_eq, nI_clamp, if_pos, if_neg, ite_true, ite_false, Option.bind_some, Option.elim_some, Option.elim_none, Sum.elim_inl, Sum.elim_inr]
  have in2 : ∀ s, s < q → ((∃ a, 0 ≤ a ∧ a < q ∧ ∃ b, a + 1 ≤ b ∧ b < q ∧ alk q g 2 s a b) ∧ lp (fun x : Int32 => M_X5_seesTwins_b12 n (nI s) (nI q) (q * q) wf x) n (nI 0) = some (Sum.inr 0)) ∨ ((∀ a, 0 ≤ a → a < q → ¬ ∃ b, a + 1 ≤ b ∧ b < q ∧ alk q g 2 s a b) ∧ lp (fun x : Int32 => M_X5_seesTwins_b12 n (nI s) (nI q) (q * q) wf x) n (nI 0) = some (Sum.inl ())) := by
    intro s hs
    refine lp_ex (f := fun x : Int32 => M_X5_seesTwins_b12 n (nI s) (nI q) (q * q) wf x) (fun i => nI i) (fun a => ∃ b, a + 1 ≤ b ∧ b < q ∧ alk q g 2 s a b) (Sum.inr 0) (Sum.inl ()) q ?_ ?_ ?_ n 0 (by omega) (by omega)
    · intro a ha h
      rcases in3 s a hs ha with ⟨h1, h2⟩ | ⟨h1, h2⟩
      · exact absurd h1 h
      · unfold M_X5_seesTwins_b12
        simp (disch := omega) only [i_0, i_1, i_2, i_3, i_4, i_5, i_6, i_7, i_8, i_10, i_12, i_16, i_31, i_32, i_64, i_100, i_128, i_255, i_256, i_512, i_1000, i_1128, i_65535, i_65536, nI_add, pk_mul, pk_sub, nI_ltI, nI_leI, nI_eq, nI_clamp, if_pos, if_neg, ite_true, ite_false, Option.bind_some, Option.elim_some, Option.elim_none, Sum.elim_inl, Sum.elim_inr, h2]
    · intro a ha h
      rcases in3 s a hs ha with ⟨h1, h2⟩ | ⟨h1, h2⟩
      · unfold M_X5_seesTwins_b12
        simp (disch := omega) only [i_0, i_1, i_2, i_3, i_4, i_5, i_6, i_7, i_8, i_10, i_12, i_16, i_31, i_32, i_64, i_100, i_128, i_255, i_256, i_512, i_1000, i_1128, i_65535, i_65536, nI_add, pk_mul, pk_sub, nI_ltI, nI_leI, nI_eq, nI_clamp, if_pos, if_neg, ite_true, ite_false, Option.bind_some, Option.elim_some, Option.elim_none, Sum.elim_inl, Sum.elim_inr, show ((Sum.inr 0 : Unit ⊕ Int32)) = Sum.inr (nI 0) from rfl] at h2 ⊢
        rw [h2]; rfl
      · obtain ⟨b, hb1, hb2, hb3⟩ := h
        exact absurd hb3 (h1 b hb1 hb2)
    · unfold M_X5_seesTwins_b12
      simp (disch := omega) only [i_0, i_1, i_2, i_3, i_4, i_5, i_6, i_7, i_8, i_10, i_12, i_16, i_31, i_32, i_64, i_100, i_128, i_255, i_256, i_512, i_1000, i_1128, i_65535, i_65536, nI_add, pk_mul, pk_sub, nI_ltI, nI_leI, nI_eq, nI_clamp, if_pos, if_neg, ite_true, ite_false, Option.bind_some, Option.elim_some, Option.elim_none, Sum.elim_inl, Sum.elim_inr]
  have in1 := lp_ex (f := fun x : Int32 => M_X5_seesTwins_b2 n (nI q) (q * q) wf x) (fun i => nI i) (fun s => ∃ a, 0 ≤ a ∧ a < q ∧ ∃ b, a + 1 ≤ b ∧ b < q ∧ alk q g 2 s a b) (Sum.inr 0) (Sum.inl ()) q (by
      intro s hs h
      rcases in2 s hs with ⟨h1, h2⟩ | ⟨h1, h2⟩
      · exact absurd h1 h
      · unfold M_X5_seesTwins_b2
        simp (disch := omega) only [i_0, i_1, i_2, i_3, i_4, i_5, i_6, i_7, i_8, i_10, i_12, i_16, i_31, i_32, i_64, i_100, i_128, i_255, i_256, i_512, i_1000, i_1128, i_65535, i_65536, nI_add, pk_mul, pk_sub, nI_ltI, nI_leI, nI_eq, nI_clamp, if_pos, if_neg, ite_true, ite_false, Option.bind_some, Option.elim_some, Option.elim_none, Sum.elim_inl, Sum.elim_inr, h2]) (by
      intro s hs h
      rcases in2 s hs with ⟨h1, h2⟩ | ⟨h1, h2⟩
      · unfold M_X5_seesTwins_b2
        simp (disch := omega) only [i_0, i_1, i_2, i_3, i_4, i_5, i_6, i_7, i_8, i_10, i_12, i_16, i_31, i_32, i_64, i_100, i_128, i_255, i_256, i_512, i_1000, i_1128, i_65535, i_65536, nI_add, pk_mul, pk_sub, nI_ltI, nI_leI, nI_eq, nI_clamp, if_pos, if_neg, ite_true, ite_false, Option.bind_some, Option.elim_some, Option.elim_none, Sum.elim_inl, Sum.elim_inr] at h2 ⊢
        rw [h2]; rfl
      · obtain ⟨a, ha1, ha2, ha3⟩ := h
        exact absurd ha3 (h1 a ha1 ha2)) (by
      unfold M_X5_seesTwins_b2
      simp (disch := omega) only [i_0, i_1, i_2, i_3, i_4, i_5, i_6, i_7, i_8, i_10, i_12, i_16, i_31, i_32, i_64, i_100, i_128, i_255, i_256, i_512, i_1000, i_1128, i_65535, i_65536, nI_add, pk_mul, pk_sub, nI_ltI, nI_leI, nI_eq, nI_clamp, if_pos, if_neg, ite_true, ite_false, Option.bind_some, Option.elim_some, Option.elim_none, Sum.elim_inl, Sum.elim_inr]) n 0 (by omega) (by omega)
  unfold M_X5_seesTwins
  rcases in1 with ⟨⟨s, -, hs, a, -, ha, b, hb1, hb2, hb3⟩, h2⟩ | ⟨h1, h2⟩
  · exact Or.inl ⟨⟨s, a, b, hs, ha, hb2, by omega, hb3⟩, lp_b h2 rfl⟩
  · refine Or.inr ⟨fun s a b hs ha hb hne h => ?_, lp_b h2 rfl⟩
    rcases Nat.lt_or_ge a b with h9 | h9
    · exact h1 s (by omega) hs ⟨a, by omega, ha, b, h9, hb, h⟩
    · exact h1 s (by omega) hs ⟨b, by omega, hb, a, by omega, ha, alk_comm h⟩
theorem signs_M {mo ce : Nat → Int32} {j what : Nat} (hn : 100 < n) (hj : j < 16) (hq' : q ≤ 10) (hw : what < 3) (hg : ∀ x, x < q * q → g x < q) (hmo : mo j = nI q) (hce : ∀ x, x < q * q → ce (100 * j + x) = nI (g x)) :
    ((∃ s a b, s < q ∧ a < q ∧ b < q ∧ a ≠ b ∧ alk q g what s a b) ∧ lp (fun x : Int32 => M_X12_signs_b50 n (nI j) (nI what) (nI q) mo ce x) n (nI 0) = some (Sum.inr 0)) ∨ ((∀ s a b, s < q → a < q → b < q → a ≠ b → ¬ alk q g what s a b) ∧ lp (fun x : Int32 => M_X12_signs_b50 n (nI j) (nI what) (nI q) mo ce x) n (nI 0) = some (Sum.inl ())) := by
  have in3 : ∀ s a, s < q → a < q → ((∃ b, 0 ≤ b ∧ b < q ∧ a ≠ b ∧ alk q g what s a b) ∧ lp (fun x : Int32 => M_X12_signs_b68 n (nI j) (nI what) (nI q) (nI s) (nI a) mo ce x) n (nI 0) = some (Sum.inr 0)) ∨ ((∀ b, 0 ≤ b → b < q → ¬ (a ≠ b ∧ alk q g what s a b)) ∧ lp (fun x : Int32 => M_X12_signs_b68 n (nI j) (nI what) (nI q) (nI s) (nI a) mo ce x) n (nI 0) = some (Sum.inl ())) := by
    intro s a hs ha
    refine lp_ex (f := fun x : Int32 => M_X12_signs_b68 n (nI j) (nI what) (nI q) (nI s) (nI a) mo ce x) (fun i => nI i) (fun b => a ≠ b ∧ alk q g what s a b) (Sum.inr 0) (Sum.inl ()) q ?_ ?_ ?_ n 0 (by omega) (by omega)
    · intro b hb h
      have k1 := cl_lt hg hs ha
      have k2 := cl_lt hg hs hb
      have k3 := cl_lt hg ha hs
      have k4 := cl_lt hg hb hs
      have k5 := cl_lt hg k1 hb
      have k6 := cl_lt hg k2 ha
      have k7 := cl_lt hg k1 ha
      have k8 := cl_lt hg k2 hb
      have w3 : what = 0 ∨ what = 1 ∨ what = 2 := by omega
      unfold M_X12_signs_b68
      by_cases eab : a = b
      · subst eab
        rcases w3 with rfl | rfl | rfl <;> simp (disch := omega) only [i_0, i_1, i_2, i_3, i_4, i_5, i_6, i_7, i_8, i_10, i_12, i_16, i_31, i_32, i_64, i_100, i_128, i_255, i_256, i_512, i_1000, i_1128, i_65535, i_65536, nI_add, pk_mul, pk_sub, nI_ltI, nI_leI, nI_eq, nI_clamp, if_pos, if_neg, ite_true, ite_false, Option.bind_some, Option.elim_some, Option.elim_none, Sum.elim_inl, Sum.elim_inr, cell_M hj hq' hmo hce]
      · have h' : ¬ alk q g what s a b := fun h9 => h ⟨eab, h9⟩
        rcases w3 with rfl | rfl | rfl
        · replace h' : ¬ (cl q g s a = cl q g s b ∨ cl q g a s = cl q g b s) := h'
          have e1 : ¬ cl q g s a = cl q g s b := fun e => h' (Or.inl e)
          have e2 : ¬ cl q g a s = cl q g b s := fun e => h' (Or.inr e)
          simp (disch := omega) only [i_0, i_1, i_2, i_3, i_4, i_5, i_6, i_7, i_8, i_10, i_12, i_16, i_31, i_32, i_64, i_100, i_128, i_255, i_256, i_512, i_1000, i_1128, i_65535, i_65536, nI_add, pk_mul, pk_sub, nI_ltI, nI_leI, nI_eq, nI_clamp, if_pos, if_neg, ite_true, ite_false, Option.bind_some, Option.elim_some, Option.elim_none, Sum.elim_inl, Sum.elim_inr, cell_M hj hq' hmo hce, eab, e1, e2]
        · replace h' : ¬ (cl q g (cl q g s a) b = cl q g (cl q g s b) a) := h'
          simp (disch := omega) only [i_0, i_1, i_2, i_3, i_4, i_5, i_6, i_7, i_8, i_10, i_12, i_16, i_31, i_32, i_64, i_100, i_128, i_255, i_256, i_512, i_1000, i_1128, i_65535, i_65536, nI_add, pk_mul, pk_sub, nI_ltI, nI_leI, nI_eq, nI_clamp, if_pos, if_neg, ite_true, ite_false, Option.bind_some, Option.elim_some, Option.elim_none, Sum.elim_inl, Sum.elim_inr, cell_M hj hq' hmo hce, eab, h']
        · replace h' : ¬ (cl q g (cl q g s a) a = cl q g (cl q g s b) b) := h'
          simp (disch := omega) only [i_0, i_1, i_2, i_3, i_4, i_5, i_6, i_7, i_8, i_10, i_12, i_16, i_31, i_32, i_64, i_100, i_128, i_255, i_256, i_512, i_1000, i_1128, i_65535, i_65536, nI_add, pk_mul, pk_sub, nI_ltI, nI_leI, nI_eq, nI_clamp, if_pos, if_neg, ite_true, ite_false, Option.bind_some, Option.elim_some, Option.elim_none, Sum.elim_inl, Sum.elim_inr, cell_M hj hq' hmo hce, eab, h']
    · intro b hb h
      obtain ⟨eab, h'⟩ := h
      have k1 := cl_lt hg hs ha
      have k2 := cl_lt hg hs hb
      have k3 := cl_lt hg ha hs
      have k4 := cl_lt hg hb hs
      have k5 := cl_lt hg k1 hb
      have k6 := cl_lt hg k2 ha
      have k7 := cl_lt hg k1 ha
      have k8 := cl_lt hg k2 hb
      have w3 : what = 0 ∨ what = 1 ∨ what = 2 := by omega
      unfold M_X12_signs_b68
      rcases w3 with rfl | rfl | rfl
      · replace h' : cl q g s a = cl q g s b ∨ cl q g a s = cl q g b s := h'
        by_cases e1 : cl q g s a = cl q g s b
        · simp (disch := omega) only [i_0, i_1, i_2, i_3, i_4, i_5, i_6, i_7, i_8, i_10, i_12, i_16, i_31, i_32, i_64, i_100, i_128, i_255, i_256, i_512, i_1000, i_1128, i_65535, i_65536, nI_add, pk_mul, pk_sub, nI_ltI, nI_leI, nI_eq, nI_clamp, if_pos, if_neg, ite_true, ite_false, Option.bind_some, Option.elim_some, Option.elim_none, Sum.elim_inl, Sum.elim_inr, cell_M hj hq' hmo hce, eab, e1]
        · have e2 : cl q g a s = cl q g b s := by
            rcases h' with h' | h'
            · exact absurd h' e1
            · exact h'
          simp (disch := omega) only [i_0, i_1, i_2, i_3, i_4, i_5, i_6, i_7, i_8, i_10, i_12, i_16, i_31, i_32, i_64, i_100, i_128, i_255, i_256, i_512, i_1000, i_1128, i_65535, i_65536, nI_add, pk_mul, pk_sub, nI_ltI, nI_leI, nI_eq, nI_clamp, if_pos, if_neg, ite_true, ite_false, Option.bind_some, Option.elim_some, Option.elim_none, Sum.elim_inl, Sum.elim_inr, cell_M hj hq' hmo hce, eab, e1, e2]
      · replace h' : cl q g (cl q g s a) b = cl q g (cl q g s b) a := h'
        simp (disch := omega) only [i_0, i_1, i_2, i_3, i_4, i_5, i_6, i_7, i_8, i_10, i_12, i_16, i_31, i_32, i_64, i_100, i_128, i_255, i_256, i_512, i_1000, i_1128, i_65535, i_65536, nI_add, pk_mul, pk_sub, nI_ltI, nI_leI, nI_eq, nI_clamp, if_pos, if_neg, ite_true, ite_false, Option.bind_some, Option.elim_some, Option.elim_none, Sum.elim_inl, Sum.elim_inr, cell_M hj hq' hmo hce, eab, h']
      · replace h' : cl q g (cl q g s a) a = cl q g (cl q g s b) b := h'
        simp (disch := omega) only [i_0, i_1, i_2, i_3, i_4, i_5, i_6, i_7, i_8, i_10, i_12, i_16, i_31, i_32, i_64, i_100, i_128, i_255, i_256, i_512, i_1000, i_1128, i_65535, i_65536, nI_add, pk_mul, pk_sub, nI_ltI, nI_leI, nI_eq, nI_clamp, if_pos, if_neg, ite_true, ite_false, Option.bind_some, Option.elim_some, Option.elim_none, Sum.elim_inl, Sum.elim_inr, cell_M hj hq' hmo hce, eab, h']
    · unfold M_X12_signs_b68
      simp (disch := omega) only [i_0, i_1, i_2, i_3, i_4, i_5, i_6, i_7, i_8, i_10, i_12, i_16, i_31, i_32, i_64, i_100, i_128, i_255, i_256, i_512, i_1000, i_1128, i_65535, i_65536, nI_add, pk_mul, pk_sub, nI_ltI, nI_leI, nI_eq, nI_clamp, if_pos, if_neg, ite_true, ite_false, Option.bind_some, Option.elim_some, Option.elim_none, Sum.elim_inl, Sum.elim_inr]
  have in2 : ∀ s, s < q → ((∃ a, 0 ≤ a ∧ a < q ∧ ∃ b, 0 ≤ b ∧ b < q ∧ a ≠ b ∧ alk q g what s a b) ∧ lp (fun x : Int32 => M_X12_signs_b59 n (nI j) (nI what) (nI q) (nI s) mo ce x) n (nI 0) = some (Sum.inr 0)) ∨ ((∀ a, 0 ≤ a → a < q → ¬ ∃ b, 0 ≤ b ∧ b < q ∧ a ≠ b ∧ alk q g what s a b) ∧ lp (fun x : Int32 => M_X12_signs_b59 n (nI j) (nI what) (nI q) (nI s) mo ce x) n (nI 0) = some (Sum.inl ())) := by
    intro s hs
    refine lp_ex (f := fun x : Int32 => M_X12_signs_b59 n (nI j) (nI what) (nI q) (nI s) mo ce x) (fun i => nI i) (fun a => ∃ b, 0 ≤ b ∧ b < q ∧ a ≠ b ∧ alk q g what s a b) (Sum.inr 0) (Sum.inl ()) q ?_ ?_ ?_ n 0 (by omega) (by omega)
    · intro a ha h
      rcases in3 s a hs ha with ⟨h1, h2⟩ | ⟨h1, h2⟩
      · exact absurd h1 h
      · unfold M_X12_signs_b59
        simp (disch := omega) only [i_0, i_1, i_2, i_3, i_4, i_5, i_6, i_7, i_8, i_10, i_12, i_16, i_31, i_32, i_64, i_100, i_128, i_255, i_256, i_512, i_1000, i_1128, i_65535, i_65536, nI_add, pk_mul, pk_sub, nI_ltI, nI_leI, nI_eq, nI_clamp, if_pos, if_neg, ite_true, ite_false, Option.bind_some, Option.elim_some, Option.elim_none, Sum.elim_inl, Sum.elim_inr, h2]
    · intro a ha h
      rcases in3 s a hs ha with ⟨h1, h2⟩ | ⟨h1, h2⟩
      · unfold M_X12_signs_b59
        simp (disch := omega) only [i_0, i_1, i_2, i_3, i_4, i_5, i_6, i_7, i_8, i_10, i_12, i_16, i_31, i_32, i_64, i_100, i_128, i_255, i_256, i_512, i_1000, i_1128, i_65535, i_65536, nI_add, pk_mul, pk_sub, nI_ltI, nI_leI, nI_eq, nI_clamp, if_pos, if_neg, ite_true, ite_false, Option.bind_some, Option.elim_some, Option.elim_none, Sum.elim_inl, Sum.elim_inr] at h2 ⊢
        rw [h2]; rfl
      · obtain ⟨b, hb1, hb2, hb3⟩ := h
        exact absurd hb3 (h1 b hb1 hb2)
    · unfold M_X12_signs_b59
      simp (disch := omega) only [i_0, i_1, i_2, i_3, i_4, i_5, i_6, i_7, i_8, i_10, i_12, i_16, i_31, i_32, i_64, i_100, i_128, i_255, i_256, i_512, i_1000, i_1128, i_65535, i_65536, nI_add, pk_mul, pk_sub, nI_ltI, nI_leI, nI_eq, nI_clamp, if_pos, if_neg, ite_true, ite_false, Option.bind_some, Option.elim_some, Option.elim_none, Sum.elim_inl, Sum.elim_inr]
  have in1 := lp_ex (f := fun x : Int32 => M_X12_signs_b50 n (nI j) (nI what) (nI q) mo ce x) (fun i => nI i) (fun s => ∃ a, 0 ≤ a ∧ a < q ∧ ∃ b, 0 ≤ b ∧ b < q ∧ a ≠ b ∧ alk q g what s a b) (Sum.inr 0) (Sum.inl ()) q (by
      intro s hs h
      rcases in2 s hs with ⟨h1, h2⟩ | ⟨h1, h2⟩
      · exact absurd h1 h
      · unfold M_X12_signs_b50
        simp (disch := omega) only [i_0, i_1, i_2, i_3, i_4, i_5, i_6, i_7, i_8, i_10, i_12, i_16, i_31, i_32, i_64, i_100, i_128, i_255, i_256, i_512, i_1000, i_1128, i_65535, i_65536, nI_add, pk_mul, pk_sub, nI_ltI, nI_leI, nI_eq, nI_clamp, if_pos, if_neg, ite_true, ite_false, Option.bind_some, Option.elim_some, Option.elim_none, Sum.elim_inl, Sum.elim_inr, h2]) (by
      intro s hs h
      rcases in2 s hs with ⟨h1, h2⟩ | ⟨h1, h2⟩
      · unfold M_X12_signs_b50
        simp (disch := omega) only [i_0, i_1, i_2, i_3, i_4, i_5, i_6, i_7, i_8, i_10, i_12, i_16, i_31, i_32, i_64, i_100, i_128, i_255, i_256, i_512, i_1000, i_1128, i_65535, i_65536, nI_add, pk_mul, pk_sub, nI_ltI, nI_leI, nI_eq, nI_clamp, if_pos, if_neg, ite_true, ite_false, Option.bind_some, Option.elim_some, Option.elim_none, Sum.elim_inl, Sum.elim_inr] at h2 ⊢
        rw [h2]; rfl
      · obtain ⟨a, ha1, ha2, ha3⟩ := h
        exact absurd ha3 (h1 a ha1 ha2)) (by
      unfold M_X12_signs_b50
      simp (disch := omega) only [i_0, i_1, i_2, i_3, i_4, i_5, i_6, i_7, i_8, i_10, i_12, i_16, i_31, i_32, i_64, i_100, i_128, i_255, i_256, i_512, i_1000, i_1128, i_65535, i_65536, nI_add, pk_mul, pk_sub, nI_ltI, nI_leI, nI_eq, nI_clamp, if_pos, if_neg, ite_true, ite_false, Option.bind_some, Option.elim_some, Option.elim_none, Sum.elim_inl, Sum.elim_inr]) n 0 (by omega) (by omega)
  rcases in1 with ⟨⟨s, -, hs, a, -, ha, b, -, hb2, hb3, hb4⟩, h2⟩ | ⟨h1, h2⟩
  · exact Or.inl ⟨⟨s, a, b, hs, ha, hb2, hb3, hb4⟩, h2⟩
  · exact Or.inr ⟨fun s a b hs ha hb hne h => h1 s (by omega) hs ⟨a, by omega, ha, b, by omega, hb, hne, h⟩, h2⟩
end SG
section SO
variable {ro : RF} {c c2 : Int32} {kd mo bi tu : Nat → Int32} {po be fi : Nat → Int64} {lo wo wt ce : Nat → Int32}
theorem o_signs {n : Nat} (hn : 100 < n) (h : I_sums ro c c2 kd mo bi tu po be fi lo wo wt ce) (x1 x2 : Int32) :
    ∃ r r2, M_X11_signs n x1 x2 ro c = some r ∧ M_X12_signs n x1 x2 c2 kd mo ce = some r2 ∧ r = r2 := by
  unfold M_X11_signs M_X12_signs
  rw [in_eq x2 0 2 (by decide) (by decide)]
  rcases sum_at h x1 with ⟨q1, q2⟩ | ⟨j, a', w', sd, hj, rfl, q1, q2, q3⟩
  · rw [q1, q2]
    exact ⟨_, _, rfl, rfl, rfl⟩
  have ej : (nI j).toNatClampNeg = j := nI_clamp (by omega)
  obtain ⟨k, hk, ek, es, hs5, hsq, -⟩ := SKv.kn q3
  rw [q1, q2]
  dsimp only [Option.bind_some, Option.elim_some]
  rw [if_pos hs5, ej, if_neg one_ne, if_neg (ixn hj)]
  by_cases e6 : k = 6
  · have hs4 : sd.1 = 4 := hsq.mp e6
    have hk6 : kd j = 6 := by rw [ek, e6]; rfl
    rw [if_pos hs4, if_pos hk6]
    rcases q3 with ⟨m, _, _, rfl, h4, _⟩ | ⟨m, _, _, rfl, h4, _⟩ | ⟨m, wl, g, _, _, _, _, rfl, h4, _⟩ | ⟨w, t, _, _, _, rfl, h4, _⟩ | ⟨k', w', p, s, t, l, g1, g2, g3, g4, g5, g6, g7, rfl, g9, g10, g11, g12, g13, g14⟩ | ⟨q, g, h1, h2, hsd, hkd, hmo, h6⟩
    · exact absurd hs4 (by simp)
    · exact absurd hs4 (by simp)
    · exact absurd hs4 (by simp)
    · exact absurd hs4 (by simp)
    · exact absurd hs4 (by simp)
    · have hg : ∀ i, i < q * q → g i = nI (bv g i) ∧ bv g i < q := fun i hi => bv_of (by omega) (h6 i hi).2
      have hg2 : ∀ x, x < q * q → bv g x < q := fun x hx => (hg x hx).2
      have hwf : ∀ x, x < q * q → g x = nI (bv g x) := fun x hx => (hg x hx).1
      have hce : ∀ x, x < q * q → ce (100 * j + x) = nI (bv g x) := fun x hx => (h6 x hx).1.trans (hg x hx).1
      subst hsd
      dsimp only
      rw [if_neg (ixn hj), hmo]
      rcases wi_c x2 (a := 0) (b := 2) 0 2 rfl rfl (by omega) (by omega) with ⟨e1, e2⟩ | ⟨e1, w, -, hw, rfl⟩
      · rw [e1, if_pos z_eq, if_neg (show ¬ x2 = 0 from e2 0 (by omega) (by omega)), if_neg (show ¬ x2 = 1 from e2 1 (by omega) (by omega)), if_neg (show ¬ x2 = 2 from e2 2 (by omega) (by omega))]
        exact ⟨_, _, rfl, rfl, rfl⟩
      · rw [e1, if_neg one_ne]
        have w3 : w = 0 ∨ w = 1 ∨ w = 2 := by omega
        have hM := signs_M (n := n) (q := q) (g := bv g) (mo := mo) (ce := ce) (what := w) hn hj h2 (by omega) hg2 hmo hce
        rcases w3 with rfl | rfl | rfl
        · rw [if_pos (show nI 0 = 0 from rfl)]
          rcases seesSingles_C (n := n) hn h2 hg2 hwf with ⟨⟨s, a, b, b1, b2, b3, b4, b5⟩, c1⟩ | ⟨b1, c1⟩ <;> rcases hM with ⟨⟨s', a', b', d1, d2, d3, d4, d5⟩, m1⟩ | ⟨d1, m1⟩
          · exact ⟨0, 0, by rw [c1]; rfl, lp_b m1 rfl, rfl⟩
          · exact absurd b5 (d1 s a b b1 b2 b3 b4)
          · exact absurd d5 (b1 s' a' b' d1 d2 d3 d4)
          · exact ⟨1, 1, by rw [c1]; rfl, lp_b m1 rfl, rfl⟩
        · rw [if_neg (show ¬ nI 1 = 0 by decide), if_pos (show nI 1 = 1 from rfl)]
          rcases seesSwaps_C (n := n) hn h2 hg2 hwf with ⟨⟨s, a, b, b1, b2, b3, b4, b5⟩, c1⟩ | ⟨b1, c1⟩ <;> rcases hM with ⟨⟨s', a', b', d1, d2, d3, d4, d5⟩, m1⟩ | ⟨d1, m1⟩
          · exact ⟨0, 0, by rw [c1]; rfl, lp_b m1 rfl, rfl⟩
          · exact absurd b5 (d1 s a b b1 b2 b3 b4)
          · exact absurd d5 (b1 s' a' b' d1 d2 d3 d4)
          · exact ⟨1, 1, by rw [c1]; rfl, lp_b m1 rfl, rfl⟩
        · rw [if_neg (show ¬ nI 2 = 0 by decide), if_neg (show ¬ nI 2 = 1 by decide), if_pos (show nI 2 = 2 from rfl)]
          rcases seesTwins_C (n := n) hn h2 hg2 hwf with ⟨⟨s, a, b, b1, b2, b3, b4, b5⟩, c1⟩ | ⟨b1, c1⟩ <;> rcases hM with ⟨⟨s', a', b', d1, d2, d3, d4, d5⟩, m1⟩ | ⟨d1, m1⟩
          · exact ⟨0, 0, by rw [c1]; rfl, lp_b m1 rfl, rfl⟩
          · exact absurd b5 (d1 s a b b1 b2 b3 b4)
          · exact absurd d5 (b1 s' a' b' d1 d2 d3 d4)
          · exact ⟨1, 1, by rw [c1]; rfl, lp_b m1 rfl, rfl⟩
  · have hs4 : ¬ sd.1 = 4 := fun h9 => e6 (hsq.mpr h9)
    have hk6 : ¬ kd j = 6 := by rw [ek, i_6, nI_eq (by omega) (by omega)]; exact e6
    rw [if_neg hs4, if_neg hk6]
    exact ⟨_, _, rfl, rfl, rfl⟩
end SO
