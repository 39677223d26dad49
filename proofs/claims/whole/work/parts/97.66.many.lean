/-! Own rows: the program's counts of sets, and its first one. -/
def one (P : Prop) [Decidable P] : Nat := if P then 1 else 0
theorem one_c {P Q : Prop} [Decidable P] [Decidable Q] (h : P ↔ Q) : one P = one Q := by
  unfold one
  by_cases hp : P
  · rw [if_pos hp, if_pos (h.mp hp)]
  · rw [if_neg hp, if_neg (fun hq => hp (h.mpr hq))]
theorem xor0 (a b : Nat) : a ^^^ b = 0 ↔ a = b := by
  constructor
  · intro h
    have := congrArg (fun z => a ^^^ z) h
    simp only [xcl, Nat.xor_zero] at this
    exact this.symm
  · intro h
    rw [h, Nat.xor_self]
section CM
variable {s : Nat → Nat} {N : Nat}
theorem cnt1 (x a : Nat) (ha : a < N) : cnt s N 1 (N - 1 - a) x = sg N (fun i => if a + 1 ≤ i then one (x ^^^ s i = 0) else 0) := by
  rw [cnt_sg s 0 x (N - 1 - a) (by omega), show N - (N - 1 - a) = a + 1 by omega]
  exact sg_congr (fun i _ => by rw [cnt_0]; rfl)
theorem cntS (k x a : Nat) (ha : a < N) : cnt s N (k + 1) (N - 1 - a) x = sg N (fun i => if a + 1 ≤ i then cnt s N k (N - 1 - i) (x ^^^ s i) else 0) := by
  rw [cnt_sg s k x (N - 1 - a) (by omega), show N - (N - 1 - a) = a + 1 by omega]
theorem cntN (k : Nat) : cnt s N (k + 1) N 0 = sg N (fun i => cnt s N k (N - 1 - i) (s i)) := by
  rw [cnt_sg s k 0 N (Nat.le_refl N)]
  exact sg_congr (fun i _ => by rw [if_pos (by omega), Nat.zero_xor])
theorem tot1 : cnt s N 1 N 0 = sg N (fun a => one (s a = 0)) := by
  rw [cntN]
  exact sg_congr (fun i _ => by rw [cnt_0]; rfl)
theorem tot2 : cnt s N 2 N 0 = sg N (fun a => sg N (fun b => if a + 1 ≤ b then one (s a = s b) else 0)) := by
  rw [cntN]
  refine sg_congr (fun a ha => ?_)
  rw [cnt1 _ _ ha]
  refine sg_congr (fun b _ => ?_)
  rw [one_c (xor0 (s a) (s b))]
/-- tallies -/
theorem tseq_sg (x : Nat) : ∀ i, tseq s i x = sg i (fun a => one (s a = x)) := by
  intro i
  induction i with
  | zero => rfl
  | succ i ih =>
    show tadd (tseq s i) (s i) x = sg i _ + one (s i = x)
    by_cases e : x = s i
    · have h1 : one (s i = x) = 1 := if_pos e.symm
      rw [h1, ← ih, e, tadd_at]
    · rw [tadd_ne _ e, ih]
      unfold one
      rw [if_neg (fun h => e h.symm)]
      rfl
def t4a (s : Nat → Nat) (c : Nat) (t : Nat → Nat) : Nat → Nat → Nat
  | 0 => t
  | a + 1 => tadd (t4a s c t a) (s a ^^^ s c)
def t4 (s : Nat → Nat) : Nat → Nat → Nat
  | 0 => fun _ => 0
  | c + 1 => t4a s c (t4 s c) c
theorem t4a_sg (c x : Nat) (t : Nat → Nat) : ∀ a, t4a s c t a x = t x + sg a (fun i => one (s i ^^^ s c = x)) := by
  intro a
  induction a with
  | zero => rfl
  | succ a ih =>
    show tadd (t4a s c t a) (s a ^^^ s c) x = t x + (sg a _ + one (s a ^^^ s c = x))
    by_cases e : x = s a ^^^ s c
    · have h1 : one (s a ^^^ s c = x) = 1 := if_pos e.symm
      rw [h1, ← Nat.add_assoc, ← ih, e, tadd_at]
    · rw [tadd_ne _ e, ih]
      unfold one
      rw [if_neg (fun h => e h.symm)]
      rfl
theorem t4_sg (x : Nat) : ∀ c, t4 s c x = sg c (fun b => sg b (fun a => one (s a ^^^ s b = x))) := by
  intro c
  induction c with
  | zero => rfl
  | succ c ih =>
    show t4a s c (t4 s c) c x = sg c _ + sg c _
    rw [t4a_sg, ih]
theorem tot3 : cnt s N 3 N 0 = sg N (fun b => sg N (fun c => if b + 1 ≤ c then tseq s b (s b ^^^ s c) else 0)) := by
  have h1 : cnt s N 3 N 0 = sg N (fun a => sg N (fun b => sg N (fun c => if a + 1 ≤ b then (if b + 1 ≤ c then one ((s a ^^^ s b) ^^^ s c = 0) else 0) else 0))) := by
    rw [cntN]
    refine sg_congr (fun a ha => ?_)
    rw [cntS 1 _ _ ha]
    refine sg_congr (fun b hb => ?_)
    rw [cnt1 _ _ hb, sg_if]
  have h2 : sg N (fun b => sg N (fun c => if b + 1 ≤ c then tseq s b (s b ^^^ s c) else 0)) = sg N (fun b => sg N (fun c => sg N (fun a => if b + 1 ≤ c then (if a < b then one (s a = s b ^^^ s c) else 0) else 0))) := by
    refine sg_congr (fun b hb => sg_congr (fun c _ => ?_))
    rw [tseq_sg, sg_lt (n := N) (by omega), sg_if]
  rw [h1, h2, sg_comm]
  refine sg_congr (fun b _ => ?_)
  rw [sg_comm]
  refine sg_congr (fun c _ => sg_congr (fun a _ => ?_))
  by_cases e1 : a < b
  · rw [if_pos (show a + 1 ≤ b from e1), if_pos e1, Nat.xor_assoc, one_c (xor0 (s a) (s b ^^^ s c))]
  · rw [if_neg (show ¬ a + 1 ≤ b from e1), if_neg e1]
    split <;> rfl
theorem tot4 : cnt s N 4 N 0 = sg N (fun c => sg N (fun d => if c + 1 ≤ d then t4 s c (s c ^^^ s d) else 0)) := by
  have h1 : cnt s N 4 N 0 = sg N (fun a => sg N (fun b => sg N (fun c => sg N (fun d => if a + 1 ≤ b then (if b + 1 ≤ c then (if c + 1 ≤ d then one (((s a ^^^ s b) ^^^ s c) ^^^ s d = 0) else 0) else 0) else 0)))) := by
    rw [cntN]
    refine sg_congr (fun a ha => ?_)
    rw [cntS 2 _ _ ha]
    refine sg_congr (fun b hb => ?_)
    rw [cntS 1 _ _ hb, sg_if]
    refine sg_congr (fun c hc => ?_)
    rw [cnt1 _ _ hc, sg_if, sg_if]
  have h2 : sg N (fun c => sg N (fun d => if c + 1 ≤ d then t4 s c (s c ^^^ s d) else 0)) = sg N (fun c => sg N (fun d => sg N (fun b => sg N (fun a => if c + 1 ≤ d then (if b < c then (if a < b then one (s a ^^^ s b = s c ^^^ s d) else 0) else 0) else 0)))) := by
    refine sg_congr (fun c hc => sg_congr (fun d _ => ?_))
    rw [t4_sg, sg_lt (n := N) (by omega), sg_if]
    refine sg_congr (fun b hb => ?_)
    rw [sg_lt (n := N) (by omega), sg_if, sg_if]
  rw [h1, h2]
  have h3 : ∀ h : Nat → Nat → Nat → Nat → Nat, sg N (fun a => sg N (fun b => sg N (fun c => sg N (fun d => h a b c d)))) = sg N (fun c => sg N (fun d => sg N (fun b => sg N (fun a => h a b c d)))) := by
    intro h
    have e1 : ∀ a, sg N (fun b => sg N (fun c => sg N (fun d => h a b c d))) = sg N (fun c => sg N (fun d => sg N (fun b => h a b c d))) := by
      intro a
      rw [sg_comm]
      exact sg_congr (fun c _ => sg_comm N N _)
    rw [sg_congr (fun a _ => e1 a), sg_comm]
    refine sg_congr (fun c _ => ?_)
    rw [sg_comm]
    exact sg_congr (fun d _ => sg_comm N N _)
  rw [h3]
  refine sg_congr (fun c _ => sg_congr (fun d _ => sg_congr (fun b _ => sg_congr (fun a _ => ?_))))
  by_cases e1 : a < b
  · rw [if_pos (show a + 1 ≤ b from e1)]
    by_cases e2 : b < c
    · rw [if_pos (show b + 1 ≤ c from e2), if_pos e1, if_pos e2, Nat.xor_assoc, one_c (xor0 (s a ^^^ s b) (s c ^^^ s d))]
    · rw [if_neg (show ¬ b + 1 ≤ c from e2), if_neg e2]
      split <;> rfl
  · rw [if_neg (show ¬ a + 1 ≤ b from e1), if_neg e1]
    split <;> (try split) <;> rfl
theorem sg_pre {b : Nat} (g : Nat → Nat) : sg (b + 1) (fun i => if b + 1 ≤ i then g i else 0) = 0 :=
  (sg_congr (fun i hi => if_neg (by omega))).trans (sg_0 _)
theorem tri_b : ∀ c, c < 48 → c * (c - 1) / 2 + c ≤ 1128 ∧ (c + 1) * (c + 1 - 1) / 2 = c * (c - 1) / 2 + c := by decide +kernel
variable {n : Nat} {f : Nat → Int64}
theorem singles_n (hn : 1000 < n) (hN : N ≤ 48) (hs : ∀ q, q < N → s q < 2 ^ 32) (hf : ∀ q, q < N → f q = lN (s q)) : M_X3_howManySingles n f (nI N) = some (nI (cnt s N 1 N 0)) := by
  rw [tot1]
  unfold M_X3_howManySingles
  refine lp_b (lp_seq (f := fun x : (Int32 × Int32) => M_X3_howManySingles_b4 n f (nI N) x.1 x.2) (fun a => (nI (sg a (fun a => one (s a = 0))), nI a)) (r := nI (sg N (fun a => one (s a = 0)))) (N := N) ?_ n 0 (by omega) (by omega) ?_) rfl
  · unfold M_X3_howManySingles_b4
    simp (disch := omega) only [i_0, i_1, i_2, i_3, i_4, i_5, i_6, i_7, i_8, i_10, i_12, i_16, i_31, i_32, i_64, i_100, i_128, i_255, i_256, i_512, i_1000, i_1128, i_65535, i_65536, nI_add, pk_mul, pk_sub, nI_ltI, nI_leI, nI_eq, nI_clamp, if_pos, if_neg, ite_true, ite_false, Option.bind_some, Option.elim_some, Option.elim_none, Sum.elim_inl, Sum.elim_inr]
  · intro a _ ha
    have := hs a ha
    unfold M_X3_howManySingles_b4
    show _ = some (Sum.inl (nI (sg a _ + one (s a = 0)), _))
    by_cases e : s a = 0
    · simp (disch := omega) only [i_0, i_1, i_2, i_3, i_4, i_5, i_6, i_7, i_8, i_10, i_12, i_16, i_31, i_32, i_64, i_100, i_128, i_255, i_256, i_512, i_1000, i_1128, i_65535, i_65536, nI_add, pk_mul, pk_sub, nI_ltI, nI_leI, nI_eq, nI_clamp, if_pos, if_neg, ite_true, ite_false, Option.bind_some, Option.elim_some, Option.elim_none, Sum.elim_inl, Sum.elim_inr, hf, l_0, l_1, l_2, l_3, l_4, l_5, l_6, l_7, l_8, l_10, l_12, l_16, l_32, l_63, l_64, l_255, l_256, l_1000, l_65535, l_65536, pk_lEQ, e, one]
    · simp (disch := omega) only [i_0, i_1, i_2, i_3, i_4, i_5, i_6, i_7, i_8, i_10, i_12, i_16, i_31, i_32, i_64, i_100, i_128, i_255, i_256, i_512, i_1000, i_1128, i_65535, i_65536, nI_add, pk_mul, pk_sub, nI_ltI, nI_leI, nI_eq, nI_clamp, if_pos, if_neg, ite_true, ite_false, Option.bind_some, Option.elim_some, Option.elim_none, Sum.elim_inl, Sum.elim_inr, hf, l_0, l_1, l_2, l_3, l_4, l_5, l_6, l_7, l_8, l_10, l_12, l_16, l_32, l_63, l_64, l_255, l_256, l_1000, l_65535, l_65536, pk_lEQ, e, one, Nat.add_zero]
theorem pairs_n (hn : 1000 < n) (hN : N ≤ 48) (hs : ∀ q, q < N → s q < 2 ^ 32) (hf : ∀ q, q < N → f q = lN (s q)) : M_X3_howManyPairs n f (nI N) = some (nI (cnt s N 2 N 0)) := by
  rw [tot2]
  unfold M_X3_howManyPairs
  refine lp_b (lp_seq (f := fun x : (Int32 × Int32) => M_X3_howManyPairs_b4 n f (nI N) x.1 x.2) (fun a => (nI (sg a (fun a => sg N (fun b => if a + 1 ≤ b then one (s a = s b) else 0))), nI a)) (r := nI (sg N (fun a => sg N (fun b => if a + 1 ≤ b then one (s a = s b) else 0)))) (N := N) ?_ n 0 (by omega) (by omega) ?_) rfl
  · unfold M_X3_howManyPairs_b4
    rw [if_pos (show nI N ≤ nI N by rw [nI_leI (by omega) (by omega)]; omega)]
  · intro a _ ha
    have hsa := hs a ha
    show M_X3_howManyPairs_b4 n f (nI N) (nI (sg a (fun a => sg N (fun b => if a + 1 ≤ b then one (s a = s b) else 0)))) (nI a) = some (Sum.inl (nI (sg a (fun a => sg N (fun b => if a + 1 ≤ b then one (s a = s b) else 0)) + sg N (fun b => if a + 1 ≤ b then one (s a = s b) else 0)), nI (a + 1)))
    generalize sg a (fun a => sg N (fun b => if a + 1 ≤ b then one (s a = s b) else 0)) = c0
    unfold M_X3_howManyPairs_b4
    rw [if_neg (show ¬ nI N ≤ nI a by rw [nI_leI (by omega) (by omega)]; omega), nI_1]
    have hin : lp (fun x : (Int32 × Int32) => M_X3_howManyPairs_b16 n (nI a) f (nI N) x.1 x.2) n (nI c0, nI (a + 1)) = some (nI (c0 + sg N (fun b => if a + 1 ≤ b then one (s a = s b) else 0))) := by
      have h0 := lp_seq (f := fun x : (Int32 × Int32) => M_X3_howManyPairs_b16 n (nI a) f (nI N) x.1 x.2) (fun b => (nI (c0 + sg b (fun b => if a + 1 ≤ b then one (s a = s b) else 0)), nI b)) (r := nI (c0 + sg N (fun b => if a + 1 ≤ b then one (s a = s b) else 0))) (N := N) (by
        unfold M_X3_howManyPairs_b16
        simp (disch := omega) only [i_0, i_1, i_2, i_3, i_4, i_5, i_6, i_7, i_8, i_10, i_12, i_16, i_31, i_32, i_64, i_100, i_128, i_255, i_256, i_512, i_1000, i_1128, i_65535, i_65536, nI_add, pk_mul, pk_sub, nI_ltI, nI_leI, nI_eq, nI_clamp, if_pos, if_neg, ite_true, ite_false, Option.bind_some, Option.elim_some, Option.elim_none, Sum.elim_inl, Sum.elim_inr]) n (a + 1) (by omega) (by omega) (by
        intro b hb1 hb
        have := hs b hb
        unfold M_X3_howManyPairs_b16
        show _ = some (Sum.inl (nI (c0 + (sg b _ + (if a + 1 ≤ b then one (s a = s b) else 0))), _))
        rw [if_pos hb1]
        by_cases e : s a = s b
        · simp (disch := omega) only [i_0, i_1, i_2, i_3, i_4, i_5, i_6, i_7, i_8, i_10, i_12, i_16, i_31, i_32, i_64, i_100, i_128, i_255, i_256, i_512, i_1000, i_1128, i_65535, i_65536, nI_add, pk_mul, pk_sub, nI_ltI, nI_leI, nI_eq, nI_clamp, if_pos, if_neg, ite_true, ite_false, Option.bind_some, Option.elim_some, Option.elim_none, Sum.elim_inl, Sum.elim_inr, hf, pk_lEQ, e, one, Nat.add_assoc]
        · simp (disch := omega) only [i_0, i_1, i_2, i_3, i_4, i_5, i_6, i_7, i_8, i_10, i_12, i_16, i_31, i_32, i_64, i_100, i_128, i_255, i_256, i_512, i_1000, i_1128, i_65535, i_65536, nI_add, pk_mul, pk_sub, nI_ltI, nI_leI, nI_eq, nI_clamp, if_pos, if_neg, ite_true, ite_false, Option.bind_some, Option.elim_some, Option.elim_none, Sum.elim_inl, Sum.elim_inr, hf, pk_lEQ, e, one, Nat.add_zero])
      simp only [sg_pre, Nat.add_zero] at h0
      exact h0
    rw [hin]
    rfl
section TL
variable {fe ne : Nat → Int32} {nu : Nat → Int64} {co : Nat → Int32} {sz : Int32}
theorem TI.cast {t t' : Nat → Nat} {m m' : Nat} (h : TI fe ne nu co sz t m) (ht : t = t') (hm : m = m') : TI fe ne nu co sz t' m' := by
  subst ht; subst hm; exact h
theorem inT3 (hn : 10000 < n) (hN : N ≤ 48) (hs : ∀ q, q < N → s q < 2 ^ 32) (hf : ∀ q, q < N → f q = lN (s q)) {b c0 m : Nat} {t : Nat → Nat} (hb : b < N) (hT : TI fe ne nu co sz t m) : lp (fun x : (Int32 × Int32) => M_X3_howManyThrees_b23 n (nI b) f (nI N) fe ne nu co sz x.1 x.2) n (nI c0, nI (b + 1)) = some (nI (c0 + sg N (fun c => if b + 1 ≤ c then t (s b ^^^ s c) else 0))) := by
  have h0 := lp_seq (f := fun x : (Int32 × Int32) => M_X3_howManyThrees_b23 n (nI b) f (nI N) fe ne nu co sz x.1 x.2) (fun c => (nI (c0 + sg c (fun c => if b + 1 ≤ c then t (s b ^^^ s c) else 0)), nI c)) (r := nI (c0 + sg N (fun c => if b + 1 ≤ c then t (s b ^^^ s c) else 0))) (N := N) (by
    unfold M_X3_howManyThrees_b23
    simp (disch := omega) only [i_0, i_1, i_2, i_3, i_4, i_5, i_6, i_7, i_8, i_10, i_12, i_16, i_31, i_32, i_64, i_100, i_128, i_255, i_256, i_512, i_1000, i_1128, i_65535, i_65536, nI_add, pk_mul, pk_sub, nI_ltI, nI_leI, nI_eq, nI_clamp, if_pos, if_neg, ite_true, ite_false, Option.bind_some, Option.elim_some, Option.elim_none, Sum.elim_inl, Sum.elim_inr]) n (b + 1) (by omega) (by omega) (by
    intro c hc1 hc
    have ht := timesOf_n (n := n) (x := s b ^^^ s c) (by omega) (Nat.xor_lt_two_pow (hs b hb) (hs c hc)) hT
    unfold M_X3_howManyThrees_b23
    show _ = some (Sum.inl (nI (c0 + (sg c _ + (if b + 1 ≤ c then t (s b ^^^ s c) else 0))), _))
    rw [if_pos hc1]
    simp (disch := omega) only [i_0, i_1, i_2, i_3, i_4, i_5, i_6, i_7, i_8, i_10, i_12, i_16, i_31, i_32, i_64, i_100, i_128, i_255, i_256, i_512, i_1000, i_1128, i_65535, i_65536, nI_add, pk_mul, pk_sub, nI_ltI, nI_leI, nI_eq, nI_clamp, if_pos, if_neg, ite_true, ite_false, Option.bind_some, Option.elim_some, Option.elim_none, Sum.elim_inl, Sum.elim_inr, hf, l_xor, ht, Nat.add_assoc])
  simp only [sg_pre, Nat.add_zero] at h0
  exact h0
theorem inT4 (hn : 10000 < n) (hN : N ≤ 48) (hs : ∀ q, q < N → s q < 2 ^ 32) (hf : ∀ q, q < N → f q = lN (s q)) {b c0 m : Nat} {t : Nat → Nat} (hb : b < N) (hT : TI fe ne nu co sz t m) : lp (fun x : (Int32 × Int32) => M_X3_howManyFours_b23 n (nI b) f (nI N) fe ne nu co sz x.1 x.2) n (nI c0, nI (b + 1)) = some (nI (c0 + sg N (fun c => if b + 1 ≤ c then t (s b ^^^ s c) else 0))) := by
  have h0 := lp_seq (f := fun x : (Int32 × Int32) => M_X3_howManyFours_b23 n (nI b) f (nI N) fe ne nu co sz x.1 x.2) (fun c => (nI (c0 + sg c (fun c => if b + 1 ≤ c then t (s b ^^^ s c) else 0)), nI c)) (r := nI (c0 + sg N (fun c => if b + 1 ≤ c then t (s b ^^^ s c) else 0))) (N := N) (by
    unfold M_X3_howManyFours_b23
    simp (disch := omega) only [i_0, i_1, i_2, i_3, i_4, i_5, i_6, i_7, i_8, i_10, i_12, i_16, i_31, i_32, i_64, i_100, i_128, i_255, i_256, i_512, i_1000, i_1128, i_65535, i_65536, nI_add, pk_mul, pk_sub, nI_ltI, nI_leI, nI_eq, nI_clamp, if_pos, if_neg, ite_true, ite_false, Option.bind_some, Option.elim_some, Option.elim_none, Sum.elim_inl, Sum.elim_inr]) n (b + 1) (by omega) (by omega) (by
    intro c hc1 hc
    have ht := timesOf_n (n := n) (x := s b ^^^ s c) (by omega) (Nat.xor_lt_two_pow (hs b hb) (hs c hc)) hT
    unfold M_X3_howManyFours_b23
    show _ = some (Sum.inl (nI (c0 + (sg c _ + (if b + 1 ≤ c then t (s b ^^^ s c) else 0))), _))
    rw [if_pos hc1]
    simp (disch := omega) only [i_0, i_1, i_2, i_3, i_4, i_5, i_6, i_7, i_8, i_10, i_12, i_16, i_31, i_32, i_64, i_100, i_128, i_255, i_256, i_512, i_1000, i_1128, i_65535, i_65536, nI_add, pk_mul, pk_sub, nI_ltI, nI_leI, nI_eq, nI_clamp, if_pos, if_neg, ite_true, ite_false, Option.bind_some, Option.elim_some, Option.elim_none, Sum.elim_inl, Sum.elim_inr, hf, l_xor, ht, Nat.add_assoc])
  simp only [sg_pre, Nat.add_zero] at h0
  exact h0
theorem noteAll (hn : 10000 < n) (hN : N ≤ 48) (hs : ∀ q, q < N → s q < 2 ^ 32) (hf : ∀ q, q < N → f q = lN (s q)) {c m : Nat} {t : Nat → Nat} (hc : c < N) (hm : m + c ≤ 1128) (hT : TI fe ne nu co sz t m) :
    ∃ fe' ne' nu' co' sz', lp (fun x : (Int32 × (Nat → Int32) × (Nat → Int32) × (Nat → Int64) × (Nat → Int32) × Int32) => M_X3_howManyFours_b62 n (nI c) f x.1 x.2.1 x.2.2.1 x.2.2.2.1 x.2.2.2.2.1 x.2.2.2.2.2) n ((0 : Int32), fe, ne, nu, co, sz) = some (fe', ne', nu', co', sz') ∧ TI fe' ne' nu' co' sz' (t4a s c t c) (m + c) := by
  obtain ⟨⟨fe', ne', nu', co', sz'⟩, h1, h2⟩ := lp_run (f := fun x : (Int32 × (Nat → Int32) × (Nat → Int32) × (Nat → Int64) × (Nat → Int32) × Int32) => M_X3_howManyFours_b62 n (nI c) f x.1 x.2.1 x.2.2.1 x.2.2.2.1 x.2.2.2.2.1 x.2.2.2.2.2)
    (fun a x => x.1 = nI a ∧ TI x.2.1 x.2.2.1 x.2.2.2.1 x.2.2.2.2.1 x.2.2.2.2.2 (t4a s c t a) (m + a)) (fun r => TI r.1 r.2.1 r.2.2.1 r.2.2.2.1 r.2.2.2.2 (t4a s c t c) (m + c)) c
    (by
      rintro a ⟨x1, x2, x3, x4, x5, x6⟩ ha ⟨rfl, hT'⟩
      left
      obtain ⟨fe2, ne2, nu2, co2, sz2, hno, hT2⟩ := note_n (n := n) (x := s a ^^^ s c) (by omega) (Nat.xor_lt_two_pow (hs a (by omega)) (hs c hc)) (by omega) hT'
      refine ⟨(nI (a + 1), fe2, ne2, nu2, co2, sz2), ?_, rfl, hT2⟩
      show M_X3_howManyFours_b62 n (nI c) f (nI a) x2 x3 x4 x5 x6 = _
      unfold M_X3_howManyFours_b62
      rw [if_neg (show ¬ nI c ≤ nI a by rw [nI_leI (by omega) (by omega)]; omega), if_neg (nI_in (show a < 512 by omega) (by omega)), if_neg (nI_in (show c < 512 by omega) (by omega)), nI_clamp (n := a) (by omega), nI_clamp (n := c) (by omega), hf a (by omega), hf c hc, l_xor]
      have hno' : M_X7_note n (lN (s a ^^^ s c)) x2 x3 x4 x5 x6 = some (fe2, ne2, nu2, co2, sz2) := hno
      rw [hno', Option.bind_some, nI_1])
    (by
      rintro ⟨x1, x2, x3, x4, x5, x6⟩ ⟨rfl, hT'⟩
      refine ⟨(x2, x3, x4, x5, x6), ?_, hT'⟩
      show M_X3_howManyFours_b62 n (nI c) f (nI c) x2 x3 x4 x5 x6 = _
      unfold M_X3_howManyFours_b62
      rw [if_pos (show nI c ≤ nI c by rw [nI_leI (by omega) (by omega)]; omega)]) n 0 ((0 : Int32), fe, ne, nu, co, sz) (by omega) (by omega) ⟨rfl, hT⟩
  exact ⟨fe', ne', nu', co', sz', h1, h2⟩
theorem threes_n (hn : 10000 < n) (hN : N ≤ 48) (hs : ∀ q, q < N → s q < 2 ^ 32) (hf : ∀ q, q < N → f q = lN (s q)) : ∃ r, M_X3_howManyThrees n f (nI N) fe ne nu co sz = some (nI (cnt s N 3 N 0), r) := by
  rw [tot3]
  unfold M_X3_howManyThrees
  obtain ⟨fe0, hf1, hf2⟩ := forget_n (n := n) (by omega) fe ne nu co sz
  rw [hf1, Option.bind_some]
  obtain ⟨⟨r0, r1⟩, h1, h2⟩ := lp_run (f := fun x : (Int32 × Int32 × (Nat → Int32) × (Nat → Int32) × (Nat → Int64) × (Nat → Int32) × Int32) => M_X3_howManyThrees_b11 n f (nI N) x.1 x.2.1 x.2.2.1 x.2.2.2.1 x.2.2.2.2.1 x.2.2.2.2.2.1 x.2.2.2.2.2.2)
    (fun b x => x.1 = nI (sg b (fun b => sg N (fun c => if b + 1 ≤ c then tseq s b (s b ^^^ s c) else 0))) ∧ x.2.1 = nI b ∧ TI x.2.2.1 x.2.2.2.1 x.2.2.2.2.1 x.2.2.2.2.2.1 x.2.2.2.2.2.2 (tseq s b) b)
    (fun r => r.1 = nI (sg N (fun b => sg N (fun c => if b + 1 ≤ c then tseq s b (s b ^^^ s c) else 0)))) N
    (by
      rintro b ⟨x0, x1, x2, x3, x4, x5, x6⟩ hb ⟨rfl, rfl, hT⟩
      left
      obtain ⟨fe2, ne2, nu2, co2, sz2, hno, hT2⟩ := note_n (n := n) (x := s b) (by omega) (hs b hb) (by omega) hT
      refine ⟨(nI (sg b (fun b => sg N (fun c => if b + 1 ≤ c then tseq s b (s b ^^^ s c) else 0)) + sg N (fun c => if b + 1 ≤ c then tseq s b (s b ^^^ s c) else 0)), nI (b + 1), fe2, ne2, nu2, co2, sz2), ?_, rfl, rfl, hT2⟩
      show M_X3_howManyThrees_b11 n f (nI N) _ (nI b) x2 x3 x4 x5 x6 = _
      generalize sg b (fun b => sg N (fun c => if b + 1 ≤ c then tseq s b (s b ^^^ s c) else 0)) = c0
      unfold M_X3_howManyThrees_b11
      have hin := inT3 (c0 := c0) hn hN hs hf hb hT
      have hno' : M_X7_note n (lN (s b)) x2 x3 x4 x5 x6 = some (fe2, ne2, nu2, co2, sz2) := hno
      rw [if_neg (show ¬ nI N ≤ nI b by rw [nI_leI (by omega) (by omega)]; omega), nI_1]
      show (lp (fun x : (Int32 × Int32) => M_X3_howManyThrees_b23 n (nI b) f (nI N) x2 x3 x4 x5 x6 x.1 x.2) n (nI c0, nI (b + 1))).bind _ = _
      have hin' : lp (fun x : (Int32 × Int32) => M_X3_howManyThrees_b23 n (nI b) f (nI N) x2 x3 x4 x5 x6 x.1 x.2) n (nI c0, nI (b + 1)) = _ := hin
      rw [hin', Option.bind_some, if_neg (nI_in (show b < 512 by omega) (by omega)), nI_clamp (n := b) (by omega), hf b hb, hno', Option.bind_some])
    (by
      rintro ⟨x0, x1, x2, x3, x4, x5, x6⟩ ⟨rfl, rfl, hT⟩
      refine ⟨(nI (sg N (fun b => sg N (fun c => if b + 1 ≤ c then tseq s b (s b ^^^ s c) else 0))), x2, x3, x4, x5, x6), ?_, rfl⟩
      show M_X3_howManyThrees_b11 n f (nI N) _ (nI N) x2 x3 x4 x5 x6 = _
      unfold M_X3_howManyThrees_b11
      rw [if_pos (show nI N ≤ nI N by rw [nI_leI (by omega) (by omega)]; omega)]) n 0 ((0 : Int32), (0 : Int32), fe0, ne, nu, co, (0 : Int32)) (by omega) (by omega) ⟨rfl, rfl, hf2⟩
  replace h2 : r0 = _ := h2
  subst h2
  exact ⟨_, lp_b h1 rfl⟩
theorem fours_n (hn : 10000 < n) (hN : N ≤ 48) (hs : ∀ q, q < N → s q < 2 ^ 32) (hf : ∀ q, q < N → f q = lN (s q)) : ∃ r, M_X3_howManyFours n f (nI N) fe ne nu co sz = some (nI (cnt s N 4 N 0), r) := by
  rw [tot4]
  unfold M_X3_howManyFours
  obtain ⟨fe0, hf1, hf2⟩ := forget_n (n := n) (by omega) fe ne nu co sz
  rw [hf1, Option.bind_some]
  obtain ⟨⟨r0, r1⟩, h1, h2⟩ := lp_run (f := fun x : (Int32 × Int32 × (Nat → Int32) × (Nat → Int32) × (Nat → Int64) × (Nat → Int32) × Int32) => M_X3_howManyFours_b11 n f (nI N) x.1 x.2.1 x.2.2.1 x.2.2.2.1 x.2.2.2.2.1 x.2.2.2.2.2.1 x.2.2.2.2.2.2)
    (fun b x => x.1 = nI (sg b (fun b => sg N (fun c => if b + 1 ≤ c then t4 s b (s b ^^^ s c) else 0))) ∧ x.2.1 = nI b ∧ TI x.2.2.1 x.2.2.2.1 x.2.2.2.2.1 x.2.2.2.2.2.1 x.2.2.2.2.2.2 (t4 s b) (b * (b - 1) / 2))
    (fun r => r.1 = nI (sg N (fun b => sg N (fun c => if b + 1 ≤ c then t4 s b (s b ^^^ s c) else 0)))) N
    (by
      rintro b ⟨x0, x1, x2, x3, x4, x5, x6⟩ hb ⟨rfl, rfl, hT⟩
      left
      obtain ⟨tr1, tr2⟩ := tri_b b (by omega)
      obtain ⟨fe2, ne2, nu2, co2, sz2, hno, hT2⟩ := noteAll (n := n) hn hN hs hf hb tr1 hT
      rw [← tr2] at hT2
      refine ⟨(nI (sg b (fun b => sg N (fun c => if b + 1 ≤ c then t4 s b (s b ^^^ s c) else 0)) + sg N (fun c => if b + 1 ≤ c then t4 s b (s b ^^^ s c) else 0)), nI (b + 1), fe2, ne2, nu2, co2, sz2), ?_, rfl, rfl, hT2⟩
      show M_X3_howManyFours_b11 n f (nI N) _ (nI b) x2 x3 x4 x5 x6 = _
      generalize sg b (fun b => sg N (fun c => if b + 1 ≤ c then t4 s b (s b ^^^ s c) else 0)) = c0
      unfold M_X3_howManyFours_b11
      have hin := inT4 (c0 := c0) hn hN hs hf hb hT
      have hno' : lp (fun x : (Int32 × (Nat → Int32) × (Nat → Int32) × (Nat → Int64) × (Nat → Int32) × Int32) => M_X3_howManyFours_b62 n (nI b) f x.1 x.2.1 x.2.2.1 x.2.2.2.1 x.2.2.2.2.1 x.2.2.2.2.2) n ((0 : Int32), x2, x3, x4, x5, x6) = some (fe2, ne2, nu2, co2, sz2) := hno
      have hin' : lp (fun x : (Int32 × Int32) => M_X3_howManyFours_b23 n (nI b) f (nI N) x2 x3 x4 x5 x6 x.1 x.2) n (nI c0, nI (b + 1)) = _ := hin
      rw [if_neg (show ¬ nI N ≤ nI b by rw [nI_leI (by omega) (by omega)]; omega), nI_1, hin', Option.bind_some, hno', Option.bind_some])
    (by
      rintro ⟨x0, x1, x2, x3, x4, x5, x6⟩ ⟨rfl, rfl, hT⟩
      refine ⟨(nI (sg N (fun b => sg N (fun c => if b + 1 ≤ c then t4 s b (s b ^^^ s c) else 0))), x2, x3, x4, x5, x6), ?_, rfl⟩
      show M_X3_howManyFours_b11 n f (nI N) _ (nI N) x2 x3 x4 x5 x6 = _
      unfold M_X3_howManyFours_b11
      rw [if_pos (show nI N ≤ nI N by rw [nI_leI (by omega) (by omega)]; omega)]) n 0 ((0 : Int32), (0 : Int32), fe0, ne, nu, co, (0 : Int32)) (by omega) (by omega) ⟨rfl, rfl, TI.cast hf2 rfl rfl⟩
  replace h2 : r0 = _ := h2
  subst h2
  exact ⟨_, lp_b h1 rfl⟩
theorem howMany_n (hn : 10000 < n) (hN : N ≤ 48) (hs : ∀ q, q < N → s q < 2 ^ 32) (hf : ∀ q, q < N → f q = lN (s q)) {k : Nat} (hk1 : 1 ≤ k) (hk4 : k ≤ 4) : ∃ r, M_X3_howMany n (nI k) f (nI N) fe ne nu co sz = some (nI (cnt s N k N 0), r) := by
  have h4 : k = 1 ∨ k = 2 ∨ k = 3 ∨ k = 4 := by omega
  unfold M_X3_howMany
  rcases h4 with rfl | rfl | rfl | rfl
  · rw [if_pos (show nI 1 = 1 from rfl), singles_n (by omega) hN hs hf]
    exact ⟨_, rfl⟩
  · rw [if_neg (show ¬ nI 2 = 1 by decide), if_pos (show nI 2 = 2 from rfl), pairs_n (by omega) hN hs hf]
    exact ⟨_, rfl⟩
  · obtain ⟨r, hr⟩ := threes_n (fe := fe) (ne := ne) (nu := nu) (co := co) (sz := sz) hn hN hs hf
    rw [if_neg (show ¬ nI 3 = 1 by decide), if_neg (show ¬ nI 3 = 2 by decide), if_pos (show nI 3 = 3 from rfl), hr]
    exact ⟨_, rfl⟩
  · obtain ⟨r, hr⟩ := fours_n (fe := fe) (ne := ne) (nu := nu) (co := co) (sz := sz) hn hN hs hf
    rw [if_neg (show ¬ nI 4 = 1 by decide), if_neg (show ¬ nI 4 = 2 by decide), if_neg (show ¬ nI 4 = 3 by decide), hr]
    exact ⟨_, rfl⟩
end TL
end CM
