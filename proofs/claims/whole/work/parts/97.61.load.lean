/-! Own rows: SYNDROMES of all PLACES; mend. -/
def tk (l q : Nat) : Nat := if l = 0 then q else 8 * (q / 8) + (7 - q % 8)
theorem tk_tk (l q : Nat) : tk l (tk l q) = q := by
  unfold tk
  split
  · rfl
  · omega
theorem tk_lt {l q n : Nat} (h : q < 8 * n) : tk l q < 8 * n := by
  unfold tk
  split
  · exact h
  · omega
theorem xor7 : ∀ q, q < 512 → q ^^^ 7 = 8 * (q / 8) + (7 - q % 8) := by decide +kernel
/-- the share of a bit with k bits behind it -/
theorem syn_dn {w p l n q : Nat} (hw : 1 ≤ w) (hl : l < 2) (hq : q < 8 * n) : syn w p l n q = dn w p (8 * n - 1 - tk l q) p := by
  unfold syn
  rw [byt_bit hw hl (by omega), dn_dn]
  congr 1
  unfold tk
  split
  · omega
  · omega
theorem load_n {N n w p l : Nat} (hN : 10000 < N) (hn : n ≤ 64) (hw : 3 ≤ w) (hw' : w ≤ 32) (hp : p < 2 ^ w) (hl : l < 2) (f0 : Nat → Int64) (pl : Int32) :
    ∃ f, M_X3_load N (nI n) (nI w) (lN p) (nI l) f0 pl = some (f, nI (8 * n)) ∧ ∀ q, q < 8 * n → f q = lN (syn w p l n q) := by
  unfold M_X3_load
  have e8 : (8 : Int32) * nI n = nI (8 * n) := pk_mul 8 n
  rw [e8]
  obtain ⟨f, h1, h2⟩ := lp_run (f := fun x : (Int64 × Int32 × (Nat → Int64)) => M_X3_load_b14 N (nI w) (lN p) (nI l) (nI (8 * n)) x.1 x.2.1 x.2.2)
    (fun i x => x.1 = lN (dn w p i p) ∧ x.2.1 = nI i ∧ ∀ q, q < 8 * n → 8 * n - 1 - tk l q < i → x.2.2 q = lN (dn w p (8 * n - 1 - tk l q) p))
    (fun f => ∀ q, q < 8 * n → f q = lN (syn w p l n q)) (8 * n) (by
      rintro i ⟨x1, x2, x3⟩ hi ⟨rfl, rfl, h3⟩
      left
      have e1 : nI (8 * n) - 1 - nI i = nI (8 * n - 1 - i) := by
        simp (disch := omega) only [i_0, i_1, i_2, i_3, i_4, i_5, i_6, i_7, i_8, i_10, i_12, i_16, i_31, i_32, i_64, i_100, i_128, i_255, i_256, i_512, i_1000, i_1128, i_65535, i_65536, nI_add, pk_mul, pk_sub, nI_ltI, nI_leI, nI_eq, nI_clamp, if_pos, if_neg, ite_true, ite_false, Option.bind_some, Option.elim_some, Option.elim_none, Sum.elim_inl, Sum.elim_inr]
      have hd := doubled_n (p := p) (by omega) hw' hp (dn_lt hp i hp)
      have hidx : tk l (8 * n - 1 - i) < 512 := by
        have := tk_lt (l := l) (q := 8 * n - 1 - i) (n := n) (by omega)
        omega
      have e2 : (nI l = 0 → nI (8 * n - 1 - i) = nI (tk l (8 * n - 1 - i))) ∧ (¬ nI l = 0 → nI (8 * n - 1 - i) ^^^ 7 = nI (tk l (8 * n - 1 - i))) := by
        constructor
        · intro h
          rw [i_0, nI_eq (by omega) (by omega)] at h
          unfold tk
          rw [if_pos h]
        · intro h
          have h' : ¬ l = 0 := fun e => h (by rw [e]; rfl)
          unfold tk
          rw [if_neg h', i_7, n_xor, xor7 _ (by omega)]
      refine ⟨(lN (dn w p (i + 1) p), nI (i + 1), vp_updL x3 (tk l (8 * n - 1 - i)) (lN (dn w p i p))), ?_, rfl, rfl, ?_⟩
      · show M_X3_load_b14 N (nI w) (lN p) (nI l) (nI (8 * n)) (lN (dn w p i p)) (nI i) x3 = _
        unfold M_X3_load_b14
        rw [e1, hd]
        by_cases hl0 : nI l = 0
        · rw [e2.1 hl0, if_pos hl0]
          simp (disch := omega) only [i_0, i_1, i_2, i_3, i_4, i_5, i_6, i_7, i_8, i_10, i_12, i_16, i_31, i_32, i_64, i_100, i_128, i_255, i_256, i_512, i_1000, i_1128, i_65535, i_65536, nI_add, pk_mul, pk_sub, nI_ltI, nI_leI, nI_eq, nI_clamp, if_pos, if_neg, ite_true, ite_false, Option.bind_some, Option.elim_some, Option.elim_none, Sum.elim_inl, Sum.elim_inr]
          rfl
        · rw [e2.2 hl0, if_neg hl0]
          simp (disch := omega) only [i_0, i_1, i_2, i_3, i_4, i_5, i_6, i_7, i_8, i_10, i_12, i_16, i_31, i_32, i_64, i_100, i_128, i_255, i_256, i_512, i_1000, i_1128, i_65535, i_65536, nI_add, pk_mul, pk_sub, nI_ltI, nI_leI, nI_eq, nI_clamp, if_pos, if_neg, ite_true, ite_false, Option.bind_some, Option.elim_some, Option.elim_none, Sum.elim_inl, Sum.elim_inr]
          rfl
      · intro q hq hlt
        have hq2 := tk_lt (l := l) hq
        by_cases e : q = tk l (8 * n - 1 - i)
        · show vp_updL _ _ _ q = _
          rw [e, ul_at, tk_tk, show 8 * n - 1 - (8 * n - 1 - i) = i by omega]
        · show vp_updL _ _ _ q = _
          rw [ul_ne _ _ e]
          refine h3 q hq ?_
          have : 8 * n - 1 - tk l q ≠ i := fun e' => e (by
            have : 8 * n - 1 - i = tk l q := by omega
            rw [this, tk_tk])
          omega)
    (by
      rintro ⟨x1, x2, x3⟩ ⟨rfl, rfl, h3⟩
      refine ⟨x3, ?_, fun q hq => ?_⟩
      · show M_X3_load_b14 N (nI w) (lN p) (nI l) (nI (8 * n)) (lN (dn w p (8 * n) p)) (nI (8 * n)) x3 = _
        unfold M_X3_load_b14
        simp (disch := omega) only [i_0, i_1, i_2, i_3, i_4, i_5, i_6, i_7, i_8, i_10, i_12, i_16, i_31, i_32, i_64, i_100, i_128, i_255, i_256, i_512, i_1000, i_1128, i_65535, i_65536, nI_add, pk_mul, pk_sub, nI_ltI, nI_leI, nI_eq, nI_clamp, if_pos, if_neg, ite_true, ite_false, Option.bind_some, Option.elim_some, Option.elim_none, Sum.elim_inl, Sum.elim_inr]
      · have hq2 := tk_lt (l := l) hq
        have h4 : x3 q = _ := h3 q hq (by omega)
        rw [h4, syn_dn (by omega) hl hq]) N 0 (lN p, (0 : Int32), f0) (by omega) (by omega) ⟨rfl, rfl, fun q _ h => by omega⟩
  exact ⟨f, lp_b h1 rfl, h2⟩
section LD
variable {ro : RF} {c c2 : Int32} {kd mo bi tu : Nat → Int32} {po be fi : Nat → Int64} {lo wo wt ce : Nat → Int32}
theorem findSyn_n {N n w p l j : Nat} (hN : 10000 < N) (hn : n ≤ 64) (hj : j < 16) (hw : 3 ≤ w) (hw' : w ≤ 32) (hp : p < 2 ^ w) (hl : l < 2) (hbi : bi j = nI w) (hpo : po j = lN p) (hlo : lo j = nI l) (f0 : Nat → Int64) :
    ∃ f, M_X12_findSyndromes N (nI j) (nI n) bi po lo f0 = some f ∧ ∀ q, q < 8 * n → f q = lN (syn w p l n q) := by
  unfold M_X12_findSyndromes
  obtain ⟨f, h1, h2⟩ := lp_run (f := fun x : (Int32 × (Nat → Int64)) => M_X12_findSyndromes_b2 N (nI j) (nI n) bi po lo x.1 x.2)
    (fun i x => x.1 = nI i ∧ ∀ q, q < i → x.2 q = lN (syn w p l n q))
    (fun f => ∀ q, q < 8 * n → f q = lN (syn w p l n q)) (8 * n) (by
      rintro i ⟨x1, x2⟩ hi ⟨rfl, h3⟩
      left
      have hs := syndromeOf_n (bi := bi) (po := po) (lo := lo) hN hi hn hj hw hw' hp hl hbi hpo hlo
      refine ⟨(nI (i + 1), vp_updL x2 i (lN (syn w p l n i))), ?_, rfl, ?_⟩
      · show M_X12_findSyndromes_b2 N (nI j) (nI n) bi po lo (nI i) x2 = _
        unfold M_X12_findSyndromes_b2
        rw [hs]
        simp (disch := omega) only [i_0, i_1, i_2, i_3, i_4, i_5, i_6, i_7, i_8, i_10, i_12, i_16, i_31, i_32, i_64, i_100, i_128, i_255, i_256, i_512, i_1000, i_1128, i_65535, i_65536, nI_add, pk_mul, pk_sub, nI_ltI, nI_leI, nI_eq, nI_clamp, if_pos, if_neg, ite_true, ite_false, Option.bind_some, Option.elim_some, Option.elim_none, Sum.elim_inl, Sum.elim_inr]
      · intro q hq
        by_cases e : q = i
        · show vp_updL _ _ _ q = _
          rw [e, ul_at]
        · show vp_updL _ _ _ q = _
          rw [ul_ne _ _ e]
          exact h3 q (by omega))
    (by
      rintro ⟨x1, x2⟩ ⟨rfl, h3⟩
      refine ⟨x2, ?_, h3⟩
      show M_X12_findSyndromes_b2 N (nI j) (nI n) bi po lo (nI (8 * n)) x2 = _
      unfold M_X12_findSyndromes_b2
      simp (disch := omega) only [i_0, i_1, i_2, i_3, i_4, i_5, i_6, i_7, i_8, i_10, i_12, i_16, i_31, i_32, i_64, i_100, i_128, i_255, i_256, i_512, i_1000, i_1128, i_65535, i_65536, nI_add, pk_mul, pk_sub, nI_ltI, nI_leI, nI_eq, nI_clamp, if_pos, if_neg, ite_true, ite_false, Option.bind_some, Option.elim_some, Option.elim_none, Sum.elim_inl, Sum.elim_inr]) N 0 ((0 : Int32), f0) (by omega) (by omega) ⟨rfl, fun q h => by omega⟩
  exact ⟨f, lp_b h1 rfl, h2⟩
theorem x_div8 {q : Nat} (h : q < 2 ^ 31) : nI q / 8 = nI (q / 8) := pk_div (d := 8) h (by omega) (by omega)
theorem x_rem8 {q : Nat} (h : q < 2 ^ 31) : nI q - nI q / 8 * 8 = nI (q % 8) := pk_rem (d := 8) h (by omega) (by omega)
theorem row_flip {rf rf2 : Nat → Int32} {L i bit : Nat} (hf : ∀ j, j < L → rf2 j = rf j ∧ ∃ v, v < 256 ∧ rf j = nI v) (hi : i < L) (hb : bit < 256) : ∀ j, j < L → upd rf2 i (rf2 i ^^^ nI bit) j = upd rf i (rf i ^^^ nI bit) j ∧ ∃ v, v < 256 ∧ upd rf i (rf i ^^^ nI bit) j = nI v := by
  obtain ⟨e, v, hv, ev⟩ := hf i hi
  rw [e, ev, n_xor]
  exact chg_ok hf (Nat.xor_lt_two_pow (n := 8) hv hb) (fun j hj _ => hj)
theorem o_mend {n : Nat} (hn : 10000 < n) {rc : Int32} {rf : Nat → Int32} {rc2 : Int32} {rf2 : Nat → Int32} (hr : I_row rc rf rc2 rf2) (h : I_sums ro c c2 kd mo bi tu po be fi lo wo wt ce) (x1 : Int32) (x2 : Int64) (sy : Nat → Int64) (pl : Int32) :
    ∃ r r2, M_X11_mend n x1 x2 ro c rf rc sy pl = some r ∧ M_X12_mend n x1 x2 c2 kd mo bi tu po be fi lo wo wt ce rc2 rf2 = some r2 ∧ r.1 = r2.1 ∧ I_row rc r.2.1 rc2 r2.2 := by
  obtain ⟨L, hL, e1, e2, hb, hf, hf2⟩ := row_nat hr
  unfold M_X11_mend M_X12_mend
  rcases div_at h x1 with ⟨h1, h2, h3⟩ | ⟨j, a, w, sd, k, h1, h2, h3, h4, h5, hj, rfl, hk, hk7, hk45⟩ | ⟨j, a, w', k, w, p, s, t, l, h1, h2, h3, hj, rfl, g1, g2, g3, g4, g5, g6, g7, g9, g10, g11, g12, g13, g14⟩
  · rw [h1, h2]
    exact ⟨_, _, rfl, rfl, rfl, hr⟩
  · have hk5 : ¬ kd j = 5 := by rw [hk, i_5, nI_eq (by omega) (by omega)]; omega
    have ej : (nI j).toNatClampNeg = j := nI_clamp (by omega)
    rw [h1, h5, ej, if_neg one_ne, if_neg (ixn hj), if_neg hk5]
    exact ⟨_, _, nd1 h2 h3 _ _, rfl, rfl, hr⟩
  · have ej : (nI j).toNatClampNeg = j := nI_clamp (by omega)
    rw [h1, h3, ej, if_neg one_ne, if_neg (ixn hj)]
    rcases g1 with rfl | rfl
    · rw [if_neg (show ¬ kd j = 5 by rw [g9]; decide)]
      exact ⟨_, _, rfl, rfl, rfl, hr⟩
    · rw [if_pos (show kd j = 5 from g9)]
      have em : M_X12_mask (nI j) bi = some (((1 : Int64) <<< ((nI w).toInt64 &&& 63)) - 1) := by
        unfold M_X12_mask
        rw [ej, if_neg (ixn hj), g10]
      rw [em]
      dsimp only [Option.bind_some, Option.elim_some]
      rw [if_pos (show (1 : Nat) = 8 ∨ (1 : Nat) = 7 ∨ (1 : Nat) = 6 ∨ (1 : Nat) = 1 ∨ (1 : Nat) = 4 by omega), if_pos (show (1 : Nat) = 1 from rfl), if_pos (show nI 5 = 5 from rfl), fits_eq, show M_X1_holds x2 (nI w) = M_X11_fits x2 (nI w) from rfl]
      rcases fits_c x2 g3 with f1 | ⟨f1, u, hu, rfl⟩
      · rw [f1]
        exact ⟨_, _, rfl, rfl, rfl, hr⟩
      · rw [f1, if_neg one_ne, if_neg one_ne]
        have hS := Nat.xor_lt_two_pow (crc_lt (l := l) g4 g5 (bv rf) L) g6
        have hq := pow_le g3
        have hr' := hr
        rw [e1, e2] at hr'
        rw [e1, e2, ofRow1 hn hL hb hf g2 g3 g4 g5 g7, sumOf4 hn hL hb hf2 hj (Or.inr rfl) g2 g3 g4 g5 g7 g9 g10 g11 g12 g13 g14]
        generalize hSd : crc w p l s (bv rf) L ^^^ t = S at hS
        have hd : S ^^^ u < 2 ^ w := Nat.xor_lt_two_pow hS hu
        dsimp only [Option.bind_some]
        rw [l_xor]
        generalize S ^^^ u = d at hd
        by_cases hd0 : d = 0
        · subst hd0
          rw [if_pos (show lN 0 = 0 from rfl), if_pos (show lN 0 = 0 from rfl)]
          exact ⟨_, _, rfl, rfl, rfl, hr'⟩
        have hdn : ¬ lN d = 0 := by rw [l_0, pk_lEQ (by omega) (by omega)]; exact hd0
        rw [if_neg hdn, if_neg hdn]
        obtain ⟨f, hl1, hl2⟩ := load_n (n := L) hn hL g2 g3 g4 g7 sy pl
        rw [hl1]
        dsimp only [Option.bind_some]
        have hsl := fun q => syn_lt (w := w) (p := p) g4 l L q
        have hC := lp_find (f := fun x : Int32 => M_X3_firstPlaceOf_b2 n (lN d) f (nI (8 * L)) x) (fun i => nI i) (fun i => syn w p l L i = d) (fun i => Sum.inr (nI i)) (Sum.inl ()) (8 * L)
          (fun i hi h => by
            have h9 := hsl i
            unfold M_X3_firstPlaceOf_b2
            simp (disch := omega) only [i_0, i_1, i_2, i_3, i_4, i_5, i_6, i_7, i_8, i_10, i_12, i_16, i_31, i_32, i_64, i_100, i_128, i_255, i_256, i_512, i_1000, i_1128, i_65535, i_65536, nI_add, pk_mul, pk_sub, nI_ltI, nI_leI, nI_eq, nI_clamp, if_pos, if_neg, ite_true, ite_false, Option.bind_some, Option.elim_some, Option.elim_none, Sum.elim_inl, Sum.elim_inr, hl2, pk_lEQ, h])
          (fun i hi h => by
            have h9 := hsl i
            unfold M_X3_firstPlaceOf_b2
            simp (disch := omega) only [i_0, i_1, i_2, i_3, i_4, i_5, i_6, i_7, i_8, i_10, i_12, i_16, i_31, i_32, i_64, i_100, i_128, i_255, i_256, i_512, i_1000, i_1128, i_65535, i_65536, nI_add, pk_mul, pk_sub, nI_ltI, nI_leI, nI_eq, nI_clamp, if_pos, if_neg, ite_true, ite_false, Option.bind_some, Option.elim_some, Option.elim_none, Sum.elim_inl, Sum.elim_inr, hl2, pk_lEQ, h])
          (by
            unfold M_X3_firstPlaceOf_b2
            simp (disch := omega) only [i_0, i_1, i_2, i_3, i_4, i_5, i_6, i_7, i_8, i_10, i_12, i_16, i_31, i_32, i_64, i_100, i_128, i_255, i_256, i_512, i_1000, i_1128, i_65535, i_65536, nI_add, pk_mul, pk_sub, nI_ltI, nI_leI, nI_eq, nI_clamp, if_pos, if_neg, ite_true, ite_false, Option.bind_some, Option.elim_some, Option.elim_none, Sum.elim_inl, Sum.elim_inr]) n 0 (by omega) (by omega)
        have hM := lp_find (f := fun x : Int32 => M_X12_mend_b69 n (nI j) (lN d) bi po lo (nI L) rf2 x) (fun i => nI i) (fun i => syn w p l L i = d) (fun i => Sum.inr (nI (1 + i), upd rf2 (i / 8) (rf2 (i / 8) ^^^ nI (128 / 2 ^ (i % 8))))) (Sum.inl ()) (8 * L)
          (fun i hi h => by
            have h9 := hsl i
            have hs := syndromeOf_n (bi := bi) (po := po) (lo := lo) hn hi hL hj g2 g3 g4 g7 g10 g11 g14
            unfold M_X12_mend_b69
            rw [hs]
            simp (disch := omega) only [i_0, i_1, i_2, i_3, i_4, i_5, i_6, i_7, i_8, i_10, i_12, i_16, i_31, i_32, i_64, i_100, i_128, i_255, i_256, i_512, i_1000, i_1128, i_65535, i_65536, nI_add, pk_mul, pk_sub, nI_ltI, nI_leI, nI_eq, nI_clamp, if_pos, if_neg, ite_true, ite_false, Option.bind_some, Option.elim_some, Option.elim_none, Sum.elim_inl, Sum.elim_inr, pk_lEQ, h])
          (fun i hi h => by
            have h9 := hsl i
            have hs := syndromeOf_n (bi := bi) (po := po) (lo := lo) hn hi hL hj g2 g3 g4 g7 g10 g11 g14
            unfold M_X12_mend_b69
            rw [hs, x_rem8 (by omega), x_div8 (by omega)]
            simp (disch := omega) only [i_0, i_1, i_2, i_3, i_4, i_5, i_6, i_7, i_8, i_10, i_12, i_16, i_31, i_32, i_64, i_100, i_128, i_255, i_256, i_512, i_1000, i_1128, i_65535, i_65536, nI_add, pk_mul, pk_sub, n_and, n_or, n_xor, and_31, n_shl, n_shr, nI_ltI, nI_leI, nI_eq, nI_clamp, if_pos, if_neg, ite_true, ite_false, Option.bind_some, Option.elim_some, Option.elim_none, Sum.elim_inl, Sum.elim_inr, pk_lEQ, h])
          (by
            unfold M_X12_mend_b69
            simp (disch := omega) only [i_0, i_1, i_2, i_3, i_4, i_5, i_6, i_7, i_8, i_10, i_12, i_16, i_31, i_32, i_64, i_100, i_128, i_255, i_256, i_512, i_1000, i_1128, i_65535, i_65536, nI_add, pk_mul, pk_sub, nI_ltI, nI_leI, nI_eq, nI_clamp, if_pos, if_neg, ite_true, ite_false, Option.bind_some, Option.elim_some, Option.elim_none, Sum.elim_inl, Sum.elim_inr]) n 0 (by omega) (by omega)
        unfold M_X3_firstPlaceOf
        rcases hC with ⟨i, -, hi, ci, cj, c3⟩ | ⟨c1, c3⟩ <;> rcases hM with ⟨i', -, hi', mi, mj, m3⟩ | ⟨m1, m3⟩
        · have ei : i' = i := by
            rcases Nat.lt_trichotomy i i' with h9 | h9 | h9
            · exact absurd ci (mj i (by omega) h9)
            · exact h9.symm
            · exact absurd mi (cj i' (by omega) h9)
          subst ei
          have hne : ¬ nI i' = -1 := fun e => by
            have h9 := congrArg Int32.toInt e
            rw [nI_toInt (by omega)] at h9
            have : (-1 : Int32).toInt = -1 := by decide
            omega
          obtain ⟨L', hL', eL, eL2, hff⟩ := hr
          have eLL : L' = L := by rw [e1, nI_eq (by omega) (by omega)] at eL; exact eL.symm
          subst eLL
          have c3' : lp (fun x : Int32 => M_X3_firstPlaceOf_b2 n (lN d) f (nI (8 * L')) x) n (0 : Int32) = some (Sum.inr (nI i')) := c3
          have m3' : lp (fun x : Int32 => M_X12_mend_b69 n (nI j) (lN d) bi po lo (nI L') rf2 x) n (0 : Int32) = some (Sum.inr (nI (1 + i'), upd rf2 (i' / 8) (rf2 (i' / 8) ^^^ nI (128 / 2 ^ (i' % 8))))) := m3
          rw [c3', m3']
          dsimp only [Option.bind_some, Sum.elim_inr]
          rw [if_neg hne, byteOf_n (by omega), bitOf_n (by omega), nI_clamp (by omega)]
          simp (disch := omega) only [i_0, i_1, i_2, i_3, i_4, i_5, i_6, i_7, i_8, i_10, i_12, i_16, i_31, i_32, i_64, i_100, i_128, i_255, i_256, i_512, i_1000, i_1128, i_65535, i_65536, nI_add, pk_mul, pk_sub, nI_ltI, nI_leI, nI_eq, nI_clamp, if_pos, if_neg, ite_true, ite_false, Option.bind_some, Option.elim_some, Option.elim_none, Sum.elim_inl, Sum.elim_inr]
          refine ⟨_, _, rfl, rfl, rfl, L', hL', rfl, rfl, row_flip hff (by omega) (bit128 i')⟩
        · exact absurd ci (m1 i (by omega) hi)
        · exact absurd mi (c1 i' (by omega) hi')
        · have c3' : lp (fun x : Int32 => M_X3_firstPlaceOf_b2 n (lN d) f (nI (8 * L)) x) n (0 : Int32) = some (Sum.inl ()) := c3
          have m3' : lp (fun x : Int32 => M_X12_mend_b69 n (nI j) (lN d) bi po lo (nI L) rf2 x) n (0 : Int32) = some (Sum.inl ()) := m3
          rw [c3', m3']
          dsimp only [Option.bind_some, Sum.elim_inl]
          rw [if_pos (show (-1 : Int32) = -1 from rfl)]
          obtain ⟨tt, ht, hbc, hP, h00⟩ := bitCount_lt (d := d) (by omega)
          by_cases hp9 : isP d
          · have ht1 : tt = 1 := by
              have := hP.mpr hp9
              have : ¬ tt = 0 := fun e => hd0 (h00.mp e)
              omega
            rcases hp9 with hp9 | ⟨k9, hk9, hp9⟩
            · exact absurd hp9 hd0
            · rw [hbc, ht1, if_pos (show nI 1 = 1 from rfl), if_pos ((and_pred_i (by omega)).mpr (Or.inr ⟨k9, hk9, hp9⟩)), hp9, ntz_k k9 hk9]
              have hlp : lp (fun x : Int32 => M_X12_mend_b156 n (lN (2 ^ k9)) x) n (0 : Int32) = some (nI k9) := by
                have hk31 : 2 ^ k9 ≤ 2 ^ 31 := Nat.pow_le_pow_right (by decide) (by omega)
                refine lp_seq (f := fun x : Int32 => M_X12_mend_b156 n (lN (2 ^ k9)) x) (fun i => nI i) (N := k9) ?_ n 0 (by omega) (by omega) ?_
                · unfold M_X12_mend_b156
                  simp (disch := omega) only [i_0, i_1, i_2, i_3, i_4, i_5, i_6, i_7, i_8, i_10, i_12, i_16, i_31, i_32, i_64, i_100, i_128, i_255, i_256, i_512, i_1000, i_1128, i_65535, i_65536, nI_add, pk_mul, pk_sub, nI_ltI, nI_leI, nI_eq, nI_clamp, if_pos, if_neg, ite_true, ite_false, Option.bind_some, Option.elim_some, Option.elim_none, Sum.elim_inl, Sum.elim_inr, l_0, l_1, l_2, l_3, l_4, l_5, l_6, l_7, l_8, l_10, l_12, l_16, l_32, l_63, l_64, l_255, l_256, l_1000, l_65535, l_65536, nI_l, l_and, l_or, l_xor, and_63, l_shl, l_shr, l_ushr, lN_add, lN_mul, lN_sub, pk_lEQ, pk_lLT, pk_lLE, Nat.one_mul, Nat.pow_one]
                  rw [if_pos]
                  rw [Nat.div_self (Nat.two_pow_pos k9)]
                · intro i _ hi
                  have hdv : 2 ^ k9 / 2 ^ i = 2 ^ (k9 - i) := Nat.pow_div (by omega) (by decide)
                  have hle : 2 ^ (k9 - i) ≤ 2 ^ k9 := Nat.pow_le_pow_right (by decide) (by omega)
                  have h1l : 2 ^ 1 ≤ 2 ^ (k9 - i) := Nat.pow_le_pow_right (by decide) (by omega)
                  unfold M_X12_mend_b156
                  simp (disch := omega) only [i_0, i_1, i_2, i_3, i_4, i_5, i_6, i_7, i_8, i_10, i_12, i_16, i_31, i_32, i_64, i_100, i_128, i_255, i_256, i_512, i_1000, i_1128, i_65535, i_65536, nI_add, pk_mul, pk_sub, nI_ltI, nI_leI, nI_eq, nI_clamp, if_pos, if_neg, ite_true, ite_false, Option.bind_some, Option.elim_some, Option.elim_none, Sum.elim_inl, Sum.elim_inr, l_0, l_1, l_2, l_3, l_4, l_5, l_6, l_7, l_8, l_10, l_12, l_16, l_32, l_63, l_64, l_255, l_256, l_1000, l_65535, l_65536, nI_l, l_and, l_or, l_xor, and_63, l_shl, l_shr, l_ushr, lN_add, lN_mul, lN_sub, pk_lEQ, pk_lLT, pk_lLE, Nat.one_mul, Nat.pow_one, hdv]
              rw [hlp]
              exact ⟨_, _, rfl, rfl, rfl, hr'⟩
          · have ht2 : ¬ tt = 1 := fun e => hp9 (hP.mp (by omega))
            rw [hbc, if_neg (show ¬ nI tt = 1 by rw [i_1, nI_eq (by omega) (by omega)]; exact ht2), if_neg (fun e => hp9 ((and_pred_i (by omega)).mp e))]
            exact ⟨_, _, rfl, rfl, rfl, hr'⟩
end LD
