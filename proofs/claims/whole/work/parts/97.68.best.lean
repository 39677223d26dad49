/-! Own rows: best, the reference's side. -/
theorem bestSyn_M {n w p k : Nat} (hn : 10000 < n) (h3 : 3 ≤ w) (h8 : w ≤ 8) (hp : p < 2 ^ w) (hk : k ≤ 3) (sy : Nat → Int64) :
    ∃ f, lp (fun x : (Int32 × (Nat → Int64)) => M_X12_best_b51 n (nI w) (nI k) (nI p) x.1 x.2) n ((0 : Int32), sy) = some f ∧ ∀ q, q < 8 * k → f q = lN (syn w p 0 k q) := by
  have hp8 : 2 ^ w ≤ 2 ^ 8 := Nat.pow_le_pow_right (by decide) h8
  have h0 : (0 : Nat) < 2 ^ w := Nat.two_pow_pos w
  obtain ⟨f, h1, h2⟩ := lp_run (f := fun x : (Int32 × (Nat → Int64)) => M_X12_best_b51 n (nI w) (nI k) (nI p) x.1 x.2)
    (fun i x => x.1 = nI i ∧ ∀ q, q < i → x.2 q = lN (syn w p 0 k q))
    (fun f => ∀ q, q < 8 * k → f q = lN (syn w p 0 k q)) (8 * k) (by
      rintro i ⟨x1, x2⟩ hi ⟨rfl, h4⟩
      left
      have hb := bit128 i
      have e1 := stepByte_n (n := n) (w := w) (p := p) (l := 0) (s := 0) (b := 128 / 2 ^ (i % 8)) (by omega) (by omega) (by omega) hp h0 (by omega) (by omega)
      have hbl := byt_lt hp 0 (128 / 2 ^ (i % 8)) 8 h0
      have e2 : lp (fun x : (Int64 × Int32) => M_X12_best_b83 n (nI w) (nI k) (nI p) (nI i) x.1 x.2) n (lN (byt w p 0 (128 / 2 ^ (i % 8)) 8 0), (0 : Int32)) = some (lN (syn w p 0 k i)) := by
        refine lp_seq (f := fun x : (Int64 × Int32) => M_X12_best_b83 n (nI w) (nI k) (nI p) (nI i) x.1 x.2) (fun t => (lN (dn w p t (byt w p 0 (128 / 2 ^ (i % 8)) 8 0)), nI t)) (N := 8 * (k - 1 - i / 8)) ?_ n 0 (by omega) (by omega) ?_
        · unfold M_X12_best_b83
          rw [x_div8 (by omega)]
          simp (disch := omega) only [i_0, i_1, i_2, i_3, i_4, i_5, i_6, i_7, i_8, i_10, i_12, i_16, i_31, i_32, i_64, i_100, i_128, i_255, i_256, i_512, i_1000, i_1128, i_65535, i_65536, nI_add, pk_mul, pk_sub, nI_ltI, nI_leI, nI_eq, nI_clamp, if_pos, if_neg, ite_true, ite_false, Option.bind_some, Option.elim_some, Option.elim_none, Sum.elim_inl, Sum.elim_inr]
          rfl
        · intro t _ ht
          have hs0 := step0_n (p := p) (by omega) (by omega) hp (dn_lt hp t hbl)
          rw [i_0] at hs0
          unfold M_X12_best_b83
          rw [x_div8 (by omega)]
          simp (disch := omega) only [i_0, i_1, i_2, i_3, i_4, i_5, i_6, i_7, i_8, i_10, i_12, i_16, i_31, i_32, i_64, i_100, i_128, i_255, i_256, i_512, i_1000, i_1128, i_65535, i_65536, nI_add, pk_mul, pk_sub, nI_ltI, nI_leI, nI_eq, nI_clamp, if_pos, if_neg, ite_true, ite_false, Option.bind_some, Option.elim_some, Option.elim_none, Sum.elim_inl, Sum.elim_inr, nI_l, hs0]
          rfl
      refine ⟨(nI (i + 1), vp_updL x2 i (lN (syn w p 0 k i))), ?_, rfl, ?_⟩
      · show M_X12_best_b51 n (nI w) (nI k) (nI p) (nI i) x2 = _
        unfold M_X12_best_b51
        have e128 : ((128 : Int32) >>> (nI (i % 8) &&& 31)) = nI (128 / 2 ^ (i % 8)) := by
          simp (disch := omega) only [i_0, i_1, i_2, i_3, i_4, i_5, i_6, i_7, i_8, i_10, i_12, i_16, i_31, i_32, i_64, i_100, i_128, i_255, i_256, i_512, i_1000, i_1128, i_65535, i_65536, nI_add, pk_mul, pk_sub, n_and, n_or, n_xor, and_31, n_shl, n_shr, nI_ltI, nI_leI, nI_eq, nI_clamp, if_pos, if_neg, ite_true, ite_false, Option.bind_some, Option.elim_some, Option.elim_none, Sum.elim_inl, Sum.elim_inr]
        have e1' : M_X12_stepByte n 0 (nI (128 / 2 ^ (i % 8))) (nI w) (nI p).toInt64 0 = some (lN (byt w p 0 (128 / 2 ^ (i % 8)) 8 0)) := by
          rw [nI_l (by omega)]; exact e1
        rw [x_rem8 (by omega), e128, e1']
        dsimp only [Option.bind_some]
        rw [e2]
        simp (disch := omega) only [i_0, i_1, i_2, i_3, i_4, i_5, i_6, i_7, i_8, i_10, i_12, i_16, i_31, i_32, i_64, i_100, i_128, i_255, i_256, i_512, i_1000, i_1128, i_65535, i_65536, nI_add, pk_mul, pk_sub, nI_ltI, nI_leI, nI_eq, nI_clamp, if_pos, if_neg, ite_true, ite_false, Option.bind_some, Option.elim_some, Option.elim_none, Sum.elim_inl, Sum.elim_inr]
      · intro q hq
        show vp_updL _ _ _ q = _
        by_cases e : q = i
        · rw [e, ul_at]
        · rw [ul_ne _ _ e]
          exact h4 q (by omega))
    (by
      rintro ⟨x1, x2⟩ ⟨rfl, h4⟩
      refine ⟨x2, ?_, h4⟩
      show M_X12_best_b51 n (nI w) (nI k) (nI p) (nI (8 * k)) x2 = _
      unfold M_X12_best_b51
      rw [show (8 : Int32) * nI k = nI (8 * k) from pk_mul 8 k, if_pos (show nI (8 * k) ≤ nI (8 * k) by rw [nI_leI (by omega) (by omega)]; omega)]) n 0 ((0 : Int32), sy) (by omega) (by omega) ⟨rfl, fun q h => by omega⟩
  exact ⟨f, h1, h2⟩
theorem bestW_M {s : Nat → Nat} {n k : Nat} {f : Nat → Int64} (hn : 10000 < n) (hk : k ≤ 3) (hs : ∀ q, q < 8 * k → s q < 2 ^ 32) (hf : ∀ q, q < 8 * k → f q = lN (s q)) (lg : Nat → Int32) :
    ∃ lf, lp (fun x : (Int32 × Int32 × (Nat → Int32)) => M_X12_best_b139 n (nI k) f x.1 x.2.1 x.2.2) n ((0 : Int32), (0 : Int32), lg) = some (nI (wOf s (8 * k)), nI (cOf s (8 * k)), lf) ∧ ∀ i, i < 4 → lf i = lg i := by
  have e8 : (8 : Int32) * nI k = nI (8 * k) := pk_mul 8 k
  obtain ⟨⟨r0, r1, r2⟩, h1, h2⟩ := lp_run (f := fun x : (Int32 × Int32 × (Nat → Int32)) => M_X12_best_b139 n (nI k) f x.1 x.2.1 x.2.2)
    (fun i x => x.1 = nI i ∧ x.2.1 = nI (if 1 ≤ i ∧ i ≤ 4 then cnt s (8 * k) i (8 * k) 0 else 0) ∧ (∀ j, 1 ≤ j → j < i → cnt s (8 * k) j (8 * k) 0 = 0) ∧ ∀ j, j < 4 → x.2.2 j = lg j)
    (fun r => r.1 = nI (wOf s (8 * k)) ∧ r.2.1 = nI (cOf s (8 * k)) ∧ ∀ i, i < 4 → r.2.2 i = lg i) 5
    (by
      rintro i ⟨x0, x1, x2⟩ hi ⟨rfl, e1, hz, hx2⟩
      replace e1 : x1 = nI (if 1 ≤ i ∧ i ≤ 4 then cnt s (8 * k) i (8 * k) 0 else 0) := e1
      replace hx2 : ∀ j, j < 4 → x2 j = lg j := hx2
      subst e1
      have hbi : (if 1 ≤ i ∧ i ≤ 4 then cnt s (8 * k) i (8 * k) 0 else 0) < 2 ^ 24 := by
        split
        · rename_i h9
          exact cnt_31 (by omega) h9.2
        · omega
      show (∃ y, M_X12_best_b139 n (nI k) f (nI i) (nI (if 1 ≤ i ∧ i ≤ 4 then cnt s (8 * k) i (8 * k) 0 else 0)) x2 = some (.inl y) ∧ _) ∨ (∃ r, M_X12_best_b139 n (nI k) f (nI i) (nI (if 1 ≤ i ∧ i ≤ 4 then cnt s (8 * k) i (8 * k) 0 else 0)) x2 = some (.inr r) ∧ _)
      unfold M_X12_best_b139
      by_cases e0 : (if 1 ≤ i ∧ i ≤ 4 then cnt s (8 * k) i (8 * k) 0 else 0) = 0
      · left
        have hz' : ∀ j, 1 ≤ j → j < i + 1 → cnt s (8 * k) j (8 * k) 0 = 0 := fun j hj1 hj => by
          by_cases ej : j = i
          · rw [if_pos (by omega)] at e0
            rw [ej]; exact e0
          · exact hz j hj1 (by omega)
        rw [e0, if_pos (show nI 0 = 0 from rfl), if_neg (show ¬ (5 : Int32) ≤ nI i by rw [i_5, nI_leI (by omega) (by omega)]; omega), nI_1]
        by_cases e4 : i = 4
        · subst e4
          rw [if_pos (show (5 : Int32) ≤ nI (4 + 1) by decide)]
          exact ⟨_, rfl, rfl, rfl, hz', hx2⟩
        · obtain ⟨lf', hS1, hS2⟩ := setsOf_n (n := n) (kp := false) (k := i + 1) (by omega) (show 8 * k ≤ 48 by omega) hs hf (by omega) (by omega) x2
          have hS1' : M_X12_setsOf n (nI (i + 1)) (nI (8 * k)) 0 f x2 = some (nI (cnt s (8 * k) (i + 1) (8 * k) 0), lf') := hS1
          rw [if_neg (show ¬ (5 : Int32) ≤ nI (i + 1) by rw [i_5, nI_leI (by omega) (by omega)]; omega), e8, hS1', Option.bind_some]
          refine ⟨_, rfl, rfl, ?_, hz', fun j hj => ?_⟩
          · show nI (cnt s (8 * k) (i + 1) (8 * k) 0) = _
            rw [if_pos (by omega)]
          · show lf' j = _
            rw [(hS2 j hj).trans rfl]
            exact hx2 j hj
      · right
        have h14 : 1 ≤ i ∧ i ≤ 4 := by
          by_cases h9 : 1 ≤ i ∧ i ≤ 4
          · exact h9
          · rw [if_neg h9] at e0; exact absurd rfl e0
        rw [if_pos h14] at e0 hbi ⊢
        have hwi : wOf s (8 * k) = i := wOf_is h14.1 (by omega) hz (fun _ => e0)
        rw [if_neg (show ¬ nI (cnt s (8 * k) i (8 * k) 0) = 0 by rw [i_0, nI_eq (by omega) (by omega)]; exact e0)]
        refine ⟨_, rfl, ?_, ?_, hx2⟩
        · show nI i = _
          rw [hwi]
        · show nI (cnt s (8 * k) i (8 * k) 0) = _
          unfold cOf
          rw [hwi, if_pos h14.2])
    (by
      rintro ⟨x0, x1, x2⟩ ⟨rfl, e1, hz, hx2⟩
      replace e1 : x1 = nI 0 := e1
      subst e1
      have hwi : wOf s (8 * k) = 5 := wOf_is (by omega) (by omega) hz (fun h => by omega)
      refine ⟨(nI 5, nI 0, x2), ?_, ?_, ?_, hx2⟩
      · show M_X12_best_b139 n (nI k) f (nI 5) (nI 0) x2 = _
        unfold M_X12_best_b139
        rw [if_pos (show nI 0 = 0 from rfl), if_pos (show (5 : Int32) ≤ nI 5 by decide)]
      · show nI 5 = _
        rw [hwi]
      · show nI 0 = _
        unfold cOf
        rw [hwi, if_neg (by omega)]) n 0 ((0 : Int32), (0 : Int32), lg) (by omega) (by omega) ⟨rfl, rfl, fun j h1 h2 => by omega, fun _ _ => rfl⟩
  obtain ⟨a1, a2, a3⟩ := h2
  replace a1 : r0 = _ := a1
  replace a2 : r1 = _ := a2
  subst a1; subst a2
  exact ⟨r2, h1, a3⟩
theorem best_M {n w k : Nat} (hn : 10000 < n) (h3 : 3 ≤ w) (h8 : w ≤ 8) (hk1 : 1 ≤ k) (hk : k ≤ 3) (sy : Nat → Int64) (lg : Nat → Int32) :
    ∃ r lf, lp (fun x : (Int32 × Int32 × Int32 × Int32 × (Nat → Int64) × (Nat → Int32)) => M_X12_best_b40 n (nI w) (nI k) x.1 x.2.1 x.2.2.1 x.2.2.2.1 x.2.2.2.2.1 x.2.2.2.2.2) n ((-1 : Int32), (0 : Int32), (0 : Int32), (1 : Int32), sy, lg) = some ((bst w k (2 ^ (w - 1))).1, r, lf) ∧ ∀ i, i < 4 → lf i = lg i := by
  obtain ⟨hp1, hp2⟩ := pw38 h3 h8
  have hsh : ((1 : Int32) <<< (nI w &&& 31)) = nI (2 ^ w) := by
    simp (disch := omega) only [i_0, i_1, i_2, i_3, i_4, i_5, i_6, i_7, i_8, i_10, i_12, i_16, i_31, i_32, i_64, i_100, i_128, i_255, i_256, i_512, i_1000, i_1128, i_65535, i_65536, nI_add, pk_mul, pk_sub, n_and, n_or, n_xor, and_31, n_shl, n_shr, nI_ltI, nI_leI, nI_eq, nI_clamp, if_pos, if_neg, ite_true, ite_false, Option.bind_some, Option.elim_some, Option.elim_none, Sum.elim_inl, Sum.elim_inr, Nat.one_mul]
  obtain ⟨⟨r0, r1, r2⟩, h1, h2, h2'⟩ := lp_run (f := fun x : (Int32 × Int32 × Int32 × Int32 × (Nat → Int64) × (Nat → Int32)) => M_X12_best_b40 n (nI w) (nI k) x.1 x.2.1 x.2.2.1 x.2.2.2.1 x.2.2.2.2.1 x.2.2.2.2.2)
    (fun i x => x.1 = (bst w k i).1 ∧ x.2.1 = nI (bst w k i).2.1 ∧ x.2.2.1 = nI (bst w k i).2.2 ∧ x.2.2.2.1 = nI (2 * i + 1) ∧ ∀ j, j < 4 → x.2.2.2.2.2 j = lg j) (fun r => r.1 = (bst w k (2 ^ (w - 1))).1 ∧ ∀ j, j < 4 → r.2.2 j = lg j) (2 ^ (w - 1))
    (by
      rintro i ⟨x0, x1, x2, x3, x4, x5⟩ hi ⟨e0, e1, e2, e3, hx5⟩
      replace e0 : x0 = (bst w k i).1 := e0
      replace e1 : x1 = nI (bst w k i).2.1 := e1
      replace e2 : x2 = nI (bst w k i).2.2 := e2
      replace e3 : x3 = nI (2 * i + 1) := e3
      replace hx5 : ∀ j, j < 4 → x5 j = lg j := hx5
      subst e0; subst e1; subst e2; subst e3
      left
      obtain ⟨b1, b2, b3, b4, b5⟩ := bst_r (w := w) hk i
      show ∃ y, M_X12_best_b40 n (nI w) (nI k) (bst w k i).1 (nI (bst w k i).2.1) (nI (bst w k i).2.2) (nI (2 * i + 1)) x4 x5 = some (.inl y) ∧ _
      have es : bst w k (i + 1) = if (bst w k i).2.1 < wOf (syn w (2 * i + 1) 0 k) (8 * k) ∨ (wOf (syn w (2 * i + 1) 0 k) (8 * k) = (bst w k i).2.1 ∧ cOf (syn w (2 * i + 1) 0 k) (8 * k) < (bst w k i).2.2) then (nI (2 * i + 1), wOf (syn w (2 * i + 1) 0 k) (8 * k), cOf (syn w (2 * i + 1) 0 k) (8 * k)) else bst w k i := rfl
      have hfirst : (bst w k i).1 = -1 → i = 0 := fun h9 => by
        rcases Nat.eq_zero_or_pos i with h0 | h0
        · exact h0
        · exact absurd h9 (b5 (by omega) h0)
      have hzero : i = 0 → (bst w k i).2.1 = 0 := fun h9 => by rw [h9]; rfl
      have hp : 2 * i + 1 < 2 ^ w := by omega
      have hq := pow_le (show w ≤ 32 by omega)
      have hs : ∀ q, q < 8 * k → syn w (2 * i + 1) 0 k q < 2 ^ 32 := fun q _ => by have := syn_lt hp 0 k q; omega
      obtain ⟨f, hf1, hf2⟩ := bestSyn_M (n := n) hn h3 h8 hp hk x4
      obtain ⟨lf, hl1, hl2⟩ := bestW_M (n := n) (s := syn w (2 * i + 1) 0 k) (f := f) hn hk hs hf2 x5
      have hw := wOf_r (syn w (2 * i + 1) 0 k) (8 * k)
      have hc : cOf (syn w (2 * i + 1) 0 k) (8 * k) < 2 ^ 24 := by
        unfold cOf
        split
        · rename_i h9
          exact cnt_31 (by omega) h9
        · omega
      generalize bst w k i = BB at *
      obtain ⟨B, bw, bc⟩ := BB
      dsimp only at b1 b2 b3 es hfirst hzero ⊢
      unfold M_X12_best_b40
      rw [hsh, if_neg (show ¬ nI (2 ^ w) ≤ nI (2 * i + 1) by rw [nI_leI (by omega) (by omega)]; omega), hf1, Option.bind_some, hl1, Option.bind_some]
      dsimp only
      generalize wOf (syn w (2 * i + 1) 0 k) (8 * k) = W at *
      generalize cOf (syn w (2 * i + 1) 0 k) (8 * k) = CC at *
      have hst : ∀ (z : Int32) (a b : Nat) (o : Option ((Int32 × Int32 × Int32 × Int32 × (Nat → Int64) × (Nat → Int32)) ⊕ (Int32 × (Nat → Int64) × (Nat → Int32)))), bst w k (i + 1) = (z, a, b) → o = some (Sum.inl (z, nI a, nI b, nI (2 * i + 1) + 2, f, lf)) →
          ∃ y, o = some (.inl y) ∧ y.1 = (bst w k (i + 1)).1 ∧ y.2.1 = nI (bst w k (i + 1)).2.1 ∧ y.2.2.1 = nI (bst w k (i + 1)).2.2 ∧ y.2.2.2.1 = nI (2 * (i + 1) + 1) ∧ ∀ j, j < 4 → y.2.2.2.2.2 j = lg j := by
        intro z a b o hb ho
        refine ⟨_, ho, by rw [hb], by rw [hb], by rw [hb], ?_, fun j hj => ?_⟩
        · show nI (2 * i + 1) + 2 = _
          rw [i_2, nI_add]
          congr 1
        · show lf j = _
          rw [hl2 j hj, hx5 j hj]
      by_cases hB : B = -1
      · rw [if_pos hB]
        rw [if_pos (Or.inl (by rw [hzero (hfirst hB)]; omega))] at es
        exact hst _ _ _ _ es rfl
      · rw [if_neg hB]
        by_cases hgt : bw < W
        · rw [if_pos (Or.inl hgt)] at es
          rw [if_pos ((nI_ltI (by omega) (by omega)).mpr hgt)]
          exact hst _ _ _ _ es rfl
        · rw [if_neg (show ¬ nI bw < nI W by rw [nI_ltI (by omega) (by omega)]; exact hgt)]
          by_cases heq : W = bw
          · rw [if_pos (show nI W = nI bw by rw [heq])]
            by_cases hcc : bc ≤ CC
            · rw [if_neg (by omega)] at es
              rw [if_pos ((nI_leI (by omega) (by omega)).mpr hcc)]
              exact hst B bw bc _ es rfl
            · rw [if_pos (Or.inr ⟨heq, by omega⟩)] at es
              rw [if_neg (fun h => hcc ((nI_leI (by omega) (by omega)).mp h))]
              exact hst _ _ _ _ es rfl
          · rw [if_neg (by omega)] at es
            rw [if_neg (show ¬ nI W = nI bw by rw [nI_eq (by omega) (by omega)]; exact heq)]
            exact hst B bw bc _ es rfl)
    (by
      rintro ⟨x0, x1, x2, x3, x4, x5⟩ ⟨e0, e1, e2, e3, hx5⟩
      replace e0 : x0 = _ := e0
      replace e3 : x3 = nI (2 * 2 ^ (w - 1) + 1) := e3
      subst e0; subst e3
      refine ⟨((bst w k (2 ^ (w - 1))).1, x4, x5), ?_, rfl, hx5⟩
      show M_X12_best_b40 n (nI w) (nI k) (bst w k (2 ^ (w - 1))).1 x1 x2 (nI (2 * 2 ^ (w - 1) + 1)) x4 x5 = _
      unfold M_X12_best_b40
      rw [hsh, if_pos (show nI (2 ^ w) ≤ nI (2 * 2 ^ (w - 1) + 1) by rw [nI_leI (by omega) (by omega)]; omega)]) n 0 ((-1 : Int32), (0 : Int32), (0 : Int32), (1 : Int32), sy, lg) (by omega) (by omega) ⟨rfl, rfl, rfl, rfl, fun _ _ => rfl⟩
  replace h2 : r0 = _ := h2
  subst h2
  exact ⟨r1, r2, h1, h2'⟩
theorem o_best {n : Nat} (hn : 10000 < n) {lc : Int32} {lf lg : Nat → Int32} (hl : I_light lc lf lg) (x1 x2 : Int32) (sy : Nat → Int64) (pl : Int32) (fe ne : Nat → Int32) (nu : Nat → Int64) (co : Nat → Int32) (sz : Int32) (ms : Nat → Int64) :
    ∃ r r2, M_X11_best n x1 x2 sy pl fe ne nu co sz = some r ∧ M_X12_best n x1 x2 ms lg = some r2 ∧ r.1 = r2.1 ∧ I_light lc lf r2.2.2 := by
  unfold M_X11_best M_X12_best
  rw [in_eq x1 3 8 (by decide) (by decide), in_eq x2 1 3 (by decide) (by decide)]
  rcases wi_c x1 (a := 3) (b := 8) 3 8 rfl rfl (by omega) (by omega) with ⟨e1, -⟩ | ⟨e1, w, h3, h8, rfl⟩
  · rw [e1]
    exact ⟨_, _, rfl, rfl, rfl, hl⟩
  rw [e1, if_neg one_ne, if_neg one_ne]
  rcases wi_c x2 (a := 1) (b := 3) 1 3 rfl rfl (by omega) (by omega) with ⟨e2, -⟩ | ⟨e2, k, hk1, hk, rfl⟩
  · rw [e2]
    exact ⟨_, _, rfl, rfl, rfl, hl⟩
  rw [e2, if_neg one_ne, if_neg one_ne]
  obtain ⟨r, hr⟩ := best_C hn h3 h8 hk1 hk sy pl fe ne nu co sz
  obtain ⟨r', lf', hr', hlf⟩ := best_M hn h3 h8 hk1 hk ms lg
  rw [hr, hr']
  exact ⟨_, _, rfl, rfl, rfl, hl.congr hlf⟩
