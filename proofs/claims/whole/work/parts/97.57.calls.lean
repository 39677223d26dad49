/-! Own rows: sum, syndrome, period, joined, other, less. -/
theorem row_nat {rc : Int32} {rf : Nat → Int32} {rc2 : Int32} {rf2 : Nat → Int32} (h : I_row rc rf rc2 rf2) : ∃ L, L ≤ 64 ∧ rc = nI L ∧ rc2 = nI L ∧ (∀ i, i < L → bv rf i < 256) ∧ (∀ i, i < L → rf i = nI (bv rf i)) ∧ (∀ i, i < L → rf2 i = nI (bv rf i)) := by
  obtain ⟨L, hL, h1, h2, h3⟩ := h
  refine ⟨L, hL, h1, h2, fun i hi => ?_, fun i hi => ?_, fun i hi => ?_⟩
  · exact (bv_of (by omega) (h3 i hi).2).2
  · exact (bv_of (B := 256) (by omega) (h3 i hi).2).1
  · rw [(h3 i hi).1]; exact (bv_of (B := 256) (by omega) (h3 i hi).2).1
section SM
variable {ro : RF} {c c2 : Int32} {kd mo bi tu : Nat → Int32} {po be fi : Nat → Int64} {lo wo wt ce : Nat → Int32}
theorem sum_val {n : Nat} (hn : 10000 < n) {L : Nat} (hL : L ≤ 64) {b : Nat → Nat} {f f2 : Nat → Int32} (hb : ∀ i, i < L → b i < 256) (hf : ∀ i, i < L → f i = nI (b i)) (hf2 : ∀ i, i < L → f2 i = nI (b i)) {j : Nat} (hj : j < 16) {sd : SD}
    (h : SKv sd (kd j) (mo j) (bi j) (tu j) (po j) (be j) (fi j) (lo j) (wo j) (fun i => wt (12 * j + i)) (fun i => ce (100 * j + i))) : ∃ v, V_ofRow n sd (nI L) f 64 = some v ∧ M_X12_sumOf n (nI j) (nI L) kd mo bi tu po be fi lo wo wt ce f2 = some v := by
  unfold V_ofRow
  rcases h with ⟨m, h1, h2, rfl, h4, h5⟩ | ⟨m, h1, h2, rfl, h4, h5⟩ | ⟨m, wl, g, h1, h2, h3, h4, rfl, h6, h7, h8, h9⟩ | ⟨w, t, h1, h2, h3, rfl, h5, h6, h7⟩ | ⟨k, w, p, s, t, l, h1, h2, h3, h4, h5, h6, h7, rfl, h9, h10, h11, h12, h13, h14⟩ | ⟨q, g, h1, h2, rfl, h4, h5, h6⟩
  · exact ⟨_, ofRow10 (wl := 1) (u := fun _ => 1) hn hL hb hf h1 h2 (by omega) (by omega) (fun _ _ => rfl) (fun _ _ => by omega), sumOf0 hn hL hb hf2 hj h1 h2 h4 h5⟩
  · exact ⟨_, ofRow9 hn hL hb hf h1 h2, sumOf1 hn hL hb hf2 hj h1 h2 h4 h5⟩
  · have hg : ∀ i, i < wl → g i = nI (bv g i) ∧ bv g i < 65536 := fun i hi => bv_of (by omega) (h9 i hi).2
    exact ⟨_, ofRow10 (u := bv g) hn hL hb hf h1 h2 h3 h4 (fun i hi => (hg i hi).1) (fun i hi => (hg i hi).2), sumOf2 hn hL hb hf2 hj h1 h2 h3 h4 (fun i hi => (h9 i hi).1.trans (hg i hi).1) (fun i hi => (hg i hi).2) h6 h7 h8⟩
  · exact ⟨_, ofRow8 hn hL hb hf h1 h2 h3, sumOf3 hn hL hb hf2 hj h1 h2 h3 h5 h6 h7⟩
  · exact ⟨_, ofRow1 hn hL hb hf h2 h3 h4 h5 h7, sumOf4 hn hL hb hf2 hj h1 h2 h3 h4 h5 h7 h9 h10 h11 h12 h13 h14⟩
  · have hg : ∀ i, i < q * q → g i = nI (bv g i) ∧ bv g i < q := fun i hi => bv_of (by omega) (h6 i hi).2
    exact sq_rows hn hL hb hf hf2 hj h1 h2 (fun x hx => (hg x hx).2) (fun x hx => (hg x hx).1) (fun x hx => (h6 x hx).1.trans (hg x hx).1) h4 h5
theorem SKv.kn {sd : SD} {kd mo bi tu : Int32} {po be fi : Int64} {lo wo : Int32} {wt ce : Nat → Int32} (h : SKv sd kd mo bi tu po be fi lo wo wt ce) : ∃ k, k < 7 ∧ kd = nI k ∧ sd.2.1 = nI k ∧ (sd.1 = 8 ∨ sd.1 = 7 ∨ sd.1 = 6 ∨ sd.1 = 1 ∨ sd.1 = 4) ∧ (k = 6 ↔ sd.1 = 4) ∧ ((k = 4 ∨ k = 5) ↔ sd.1 = 1) := by
  rcases h with ⟨m, h1, h2, rfl, h4, h5⟩ | ⟨m, h1, h2, rfl, h4, h5⟩ | ⟨m, wl, g, h1, h2, h3, h4, rfl, h6, h7, h8, h9⟩ | ⟨w, t, h1, h2, h3, rfl, h5, h6, h7⟩ | ⟨k, w, p, s, t, l, h1, h2, h3, h4, h5, h6, h7, rfl, h9, h10, h11, h12, h13, h14⟩ | ⟨q, g, h1, h2, rfl, h4, h5, h6⟩
  · exact ⟨0, by omega, h4, rfl, by simp, by simp, by simp⟩
  · exact ⟨1, by omega, h4, rfl, by simp, by simp, by simp⟩
  · exact ⟨2, by omega, h6, rfl, by simp, by simp, by simp⟩
  · exact ⟨3, by omega, h5, rfl, by simp, by simp, by simp⟩
  · exact ⟨k, by omega, h9, rfl, by simp, by show k = 6 ↔ 1 = 4; omega, by show (k = 4 ∨ k = 5) ↔ 1 = 1; omega⟩
  · exact ⟨6, by omega, h4, rfl, by simp, by simp, by simp⟩
theorem nd1 {sd : SD} (h2 : sd.1 = 8 ∨ sd.1 = 7 ∨ sd.1 = 6 ∨ sd.1 = 1 ∨ sd.1 = 4) (h3 : ¬ sd.1 = 1) {α : Type} (A B : Option α) : (if sd.1 = 8 ∨ sd.1 = 7 ∨ sd.1 = 6 ∨ sd.1 = 1 ∨ sd.1 = 4 then (if sd.1 = 1 then A else B) else none) = B := by
  rw [if_pos h2, if_neg h3]
theorem tr_up {f g : Nat → Int32} (h : I_trace f g) {k : Nat} (hk : k < 7) : I_trace (upd f k (f k + 1)) (upd g k (g k + 1)) := by
  intro j hj
  by_cases e : j = k
  · subst e
    rw [up_at, up_at, h j hj]
  · rw [up_ne _ _ e, up_ne _ _ e]
    exact h j hj
theorem o_sum {n : Nat} (hn : 10000 < n) {rc : Int32} {rf : Nat → Int32} {rc2 : Int32} {rf2 : Nat → Int32} (hr : I_row rc rf rc2 rf2) (h : I_sums ro c c2 kd mo bi tu po be fi lo wo wt ce) {as tr : Nat → Int32} (ht : I_trace as tr) (x1 : Int32) :
    ∃ r r2, M_X11_sum n x1 ro c rf rc as = some r ∧ M_X12_sum n x1 c2 kd mo bi tu po be fi lo wo wt ce rc2 rf2 tr = some r2 ∧ r.1 = r2.1 ∧ I_trace r.2 r2.2 := by
  obtain ⟨L, hL, rfl, rfl, hb, hf, hf2⟩ := row_nat hr
  unfold M_X11_sum M_X12_sum
  rcases sum_at h x1 with ⟨h1, h2⟩ | ⟨j, a, w, sd, hj, rfl, h1, h2, h3⟩
  · rw [h1, h2]
    exact ⟨_, _, rfl, rfl, rfl, ht⟩
  · rw [h1, h2]
    obtain ⟨v, e1, e2⟩ := sum_val hn hL hb hf hf2 hj h3
    obtain ⟨k, hk, ek, es, hs, -, -⟩ := (SKv.kn h3)
    by_cases e5 : k = 5
    · subst e5
      simp (disch := omega) only [i_0, i_1, i_2, i_3, i_4, i_5, i_6, i_7, i_8, i_10, i_12, i_16, i_31, i_32, i_64, i_100, i_128, i_255, i_256, i_512, i_1000, i_1128, i_65535, i_65536, nI_add, pk_mul, pk_sub, nI_ltI, nI_leI, nI_eq, nI_clamp, if_pos, if_neg, ite_true, ite_false, Option.bind_some, Option.elim_some, Option.elim_none, Sum.elim_inl, Sum.elim_inr, hs, es, ek, e1, e2]
      exact ⟨_, _, rfl, rfl, rfl, tr_up (tr_up ht (by omega)) (by omega)⟩
    · simp (disch := omega) only [i_0, i_1, i_2, i_3, i_4, i_5, i_6, i_7, i_8, i_10, i_12, i_16, i_31, i_32, i_64, i_100, i_128, i_255, i_256, i_512, i_1000, i_1128, i_65535, i_65536, nI_add, pk_mul, pk_sub, nI_ltI, nI_leI, nI_eq, nI_clamp, if_pos, if_neg, ite_true, ite_false, Option.bind_some, Option.elim_some, Option.elim_none, Sum.elim_inl, Sum.elim_inr, hs, es, ek, e1, e2]
      exact ⟨_, _, rfl, rfl, rfl, tr_up ht (by omega)⟩
/-- which of them are DIVIDED -/
theorem div_at (h : I_sums ro c c2 kd mo bi tu po be fi lo wo wt ce) (x1 : Int32) : (M_X11_sumAt x1 ro c = some none ∧ M_X12_isSum x1 c2 = 0 ∧ M_X12_against x1 c2 kd = some (-2)) ∨
    (∃ j a w sd k, M_X11_sumAt x1 ro c = some (some (a, w, sd)) ∧ (sd.1 = 8 ∨ sd.1 = 7 ∨ sd.1 = 6 ∨ sd.1 = 1 ∨ sd.1 = 4) ∧ ¬ sd.1 = 1 ∧ M_X12_against x1 c2 kd = some (-4) ∧ M_X12_isSum x1 c2 = 1 ∧ j < 16 ∧ x1 = nI j ∧ kd j = nI k ∧ k < 7 ∧ ¬ (k = 4 ∨ k = 5)) ∨
    (∃ j a w' k w p s t l, M_X11_sumAt x1 ro c = some (some (a, w', ((1, nI k, nI w, 0, lN p, lN s, lN t, nI l, 0, fun _ => 0) : SD))) ∧ M_X12_against x1 c2 kd = some 0 ∧ M_X12_isSum x1 c2 = 1 ∧ j < 16 ∧ x1 = nI j ∧ (k = 4 ∨ k = 5) ∧ 3 ≤ w ∧ w ≤ 32 ∧ p < 2 ^ w ∧ s < 2 ^ w ∧ t < 2 ^ w ∧ l < 2 ∧ kd j = nI k ∧ bi j = nI w ∧ po j = lN p ∧ be j = lN s ∧ fi j = lN t ∧ lo j = nI l) := by
  unfold M_X12_against
  rcases sum_at h x1 with ⟨h1, h2⟩ | ⟨j, a, w, sd, hj, rfl, h1, h2, h3⟩
  · left
    exact ⟨h1, h2, by rw [h2, if_pos z_eq]⟩
  · right
    obtain ⟨k, hk, ek, es, hs, -, hd⟩ := (SKv.kn h3)
    by_cases e : k = 4 ∨ k = 5
    · right
      rcases h3 with ⟨m, _, _, rfl, h4, _⟩ | ⟨m, _, _, rfl, h4, _⟩ | ⟨m, wl, g, _, _, _, _, rfl, h4, _⟩ | ⟨w, t, _, _, _, rfl, h4, _⟩ | ⟨k', w', p, s, t, l, g1, g2, g3, g4, g5, g6, g7, rfl, g9, g10, g11, g12, g13, g14⟩ | ⟨q, g, _, _, rfl, h4, _⟩
      · exact absurd (hd.mp e) (by simp)
      · exact absurd (hd.mp e) (by simp)
      · exact absurd (hd.mp e) (by simp)
      · exact absurd (hd.mp e) (by simp)
      · refine ⟨j, a, w, k', w', p, s, t, l, h1, ?_, h2, hj, rfl, g1, g2, g3, g4, g5, g6, g7, g9, g10, g11, g12, g13, g14⟩
        rw [h2]
        rcases g1 with rfl | rfl <;> simp (disch := omega) only [i_0, i_1, i_2, i_3, i_4, i_5, i_6, i_7, i_8, i_10, i_12, i_16, i_31, i_32, i_64, i_100, i_128, i_255, i_256, i_512, i_1000, i_1128, i_65535, i_65536, nI_add, pk_mul, pk_sub, nI_ltI, nI_leI, nI_eq, nI_clamp, if_pos, if_neg, ite_true, ite_false, Option.bind_some, Option.elim_some, Option.elim_none, Sum.elim_inl, Sum.elim_inr, g9]
      · exact absurd (hd.mp e) (by simp)
    · left
      refine ⟨j, a, w, sd, k, h1, hs, fun h9 => e (hd.mpr h9), ?_, h2, hj, rfl, ek, hk, e⟩
      rw [h2]
      simp (disch := omega) only [i_0, i_1, i_2, i_3, i_4, i_5, i_6, i_7, i_8, i_10, i_12, i_16, i_31, i_32, i_64, i_100, i_128, i_255, i_256, i_512, i_1000, i_1128, i_65535, i_65536, nI_add, pk_mul, pk_sub, nI_ltI, nI_leI, nI_eq, nI_clamp, if_pos, if_neg, ite_true, ite_false, Option.bind_some, Option.elim_some, Option.elim_none, Sum.elim_inl, Sum.elim_inr, ek]
theorem byteOf_n {q : Nat} (h : q < 2 ^ 31) : M_X11_byteOfPlace (nI q) = nI (q / 8) := by
  unfold M_X11_byteOfPlace
  simp (disch := omega) only [i_0, i_1, i_2, i_3, i_4, i_5, i_6, i_7, i_8, i_10, i_12, i_16, i_31, i_32, i_64, i_100, i_128, i_255, i_256, i_512, i_1000, i_1128, i_65535, i_65536, nI_add, pk_mul, pk_sub, n_and, n_or, n_xor, and_31, n_shl, n_shr, nI_ltI, nI_leI, nI_eq, nI_clamp, if_pos, if_neg, ite_true, ite_false, Option.bind_some, Option.elim_some, Option.elim_none, Sum.elim_inl, Sum.elim_inr, show (3 : Nat) &&& 31 = 3 from rfl, show (2 : Nat) ^ 3 = 8 from rfl]
theorem bitOf_n {q : Nat} (h : q < 2 ^ 31) : M_X11_bitOfPlace (nI q) = nI (128 / 2 ^ (q % 8)) := by
  unfold M_X11_bitOfPlace
  simp (disch := omega) only [i_0, i_1, i_2, i_3, i_4, i_5, i_6, i_7, i_8, i_10, i_12, i_16, i_31, i_32, i_64, i_100, i_128, i_255, i_256, i_512, i_1000, i_1128, i_65535, i_65536, nI_add, pk_mul, pk_sub, n_and, n_or, n_xor, and_31, n_shl, n_shr, nI_ltI, nI_leI, nI_eq, nI_clamp, if_pos, if_neg, ite_true, ite_false, Option.bind_some, Option.elim_some, Option.elim_none, Sum.elim_inl, Sum.elim_inr, and_7]
theorem bit128 (q : Nat) : 128 / 2 ^ (q % 8) < 256 := Nat.lt_of_le_of_lt (Nat.div_le_self _ _) (by decide)
/-- the SYNDROME at a PLACE, for n bytes -/
def syn (w p l n q : Nat) : Nat := dn w p (8 * (n - 1 - q / 8)) (byt w p l (128 / 2 ^ (q % 8)) 8 0)
theorem syn_lt {w p : Nat} (hp : p < 2 ^ w) (l n q : Nat) : syn w p l n q < 2 ^ w := dn_lt hp _ (byt_lt hp _ _ _ (Nat.two_pow_pos w))
theorem syndromeOf_n {N n q w p l j : Nat} (hN : 10000 < N) (hq : q < 8 * n) (hn : n ≤ 64) (hj : j < 16) (hw : 3 ≤ w) (hw' : w ≤ 32) (hp : p < 2 ^ w) (hl : l < 2) (hbi : bi j = nI w) (hpo : po j = lN p) (hlo : lo j = nI l) : M_X12_syndromeOf N (nI j) (nI q) (nI n) bi po lo = some (lN (syn w p l n q)) := by
  have h0 : (0 : Nat) < 2 ^ w := Nat.two_pow_pos w
  have hb := bit128 q
  have e1 := stepByte_n (n := N) (w := w) (p := p) (l := l) (s := 0) (b := 128 / 2 ^ (q % 8)) (by omega) (by omega) hw' hp h0 hl (by omega)
  have e2 := passed_n (n := N) (w := w) (p := p) (k := n - 1 - q / 8) hN hj hbi hpo (by omega) hw' hp (byt_lt hp l (128 / 2 ^ (q % 8)) 8 h0) (by omega)
  have hq8 : nI q - nI q / 8 * 8 = nI (q % 8) := pk_rem (d := 8) (by omega) (by omega) (by omega)
  have hd8 : nI q / 8 = nI (q / 8) := pk_div (d := 8) (by omega) (by omega) (by omega)
  unfold M_X12_syndromeOf syn
  rw [show (0 : Int64) = lN 0 from rfl, hq8, hd8]
  simp (disch := omega) only [i_0, i_1, i_2, i_3, i_4, i_5, i_6, i_7, i_8, i_10, i_12, i_16, i_31, i_32, i_64, i_100, i_128, i_255, i_256, i_512, i_1000, i_1128, i_65535, i_65536, nI_add, pk_mul, pk_sub, n_and, n_or, n_xor, and_31, n_shl, n_shr, nI_ltI, nI_leI, nI_eq, nI_clamp, if_pos, if_neg, ite_true, ite_false, Option.bind_some, Option.elim_some, Option.elim_none, Sum.elim_inl, Sum.elim_inr, hbi, hpo, hlo, e1, e2]
theorem o_syndrome {n : Nat} (hn : 10000 < n) (h : I_sums ro c c2 kd mo bi tu po be fi lo wo wt ce) (x1 x2 x3 : Int32) :
    ∃ r r2, M_X11_syndrome n x1 x2 x3 ro c = some r ∧ M_X12_syndrome n x1 x2 x3 c2 kd bi po lo = some r2 ∧ r = r2 := by
  unfold M_X11_syndrome M_X12_syndrome
  rw [in_eq x3 1 64 (by decide) (by decide), in_eq x2 0 (8 * x3 - 1) (by decide) rfl]
  rcases div_at h x1 with ⟨h1, h2, h3⟩ | ⟨j, a, w, sd, k, h1, h2, h3, h4, h5, -⟩ | ⟨j, a, w', k, w, p, s, t, l, h1, h2, h3, hj, rfl, g1, g2, g3, g4, g5, g6, g7, g9, g10, g11, g12, g13, g14⟩
  · rw [h1, h3]
    exact ⟨_, _, rfl, rfl, rfl⟩
  · rw [h1, h4]
    exact ⟨_, _, nd1 h2 h3 _ _, rfl, rfl⟩
  · rw [h1, h2]
    rcases wi_c x3 (a := 1) (b := 64) 1 64 rfl rfl (by omega) (by omega) with ⟨e1, -⟩ | ⟨e1, m, hm, hm', rfl⟩
    · rw [e1]
      exact ⟨_, _, rfl, rfl, rfl⟩
    · rw [e1, i_8, pk_mul]
      rcases wi_lt x2 (k := 8 * m) (by omega) with ⟨e2, -⟩ | ⟨e2, q, hq, rfl⟩
      · rw [e2]
        exact ⟨_, _, rfl, rfl, rfl⟩
      · rw [e2, byteOf_n (by omega), bitOf_n (by omega)]
        have hb := bit128 q
        have e3 := changed1 (N := n) (n := m) (i := q / 8) (a := 0) (b := 128 / 2 ^ (q % 8)) hn (by omega) (by omega) (by omega) hb g2 g3 g4 g7
        have e4 := syndromeOf_n (bi := bi) (po := po) (lo := lo) hn hq hm' hj g2 g3 g4 g7 g10 g11 g14
        rw [Nat.zero_xor] at e3
        refine ⟨lN (syn w p l m q), lN (syn w p l m q), ?_, ?_, rfl⟩
        · simp (disch := omega) only [i_0, i_1, i_2, i_3, i_4, i_5, i_6, i_7, i_8, i_10, i_12, i_16, i_31, i_32, i_64, i_100, i_128, i_255, i_256, i_512, i_1000, i_1128, i_65535, i_65536, nI_add, pk_mul, pk_sub, nI_ltI, nI_leI, nI_eq, nI_clamp, if_pos, if_neg, ite_true, ite_false, Option.bind_some, Option.elim_some, Option.elim_none, Sum.elim_inl, Sum.elim_inr, e3, true_or, or_true]
          rfl
        · simp (disch := omega) only [i_0, i_1, i_2, i_3, i_4, i_5, i_6, i_7, i_8, i_10, i_12, i_16, i_31, i_32, i_64, i_100, i_128, i_255, i_256, i_512, i_1000, i_1128, i_65535, i_65536, nI_add, pk_mul, pk_sub, nI_ltI, nI_leI, nI_eq, nI_clamp, if_pos, if_neg, ite_true, ite_false, Option.bind_some, Option.elim_some, Option.elim_none, Sum.elim_inl, Sum.elim_inr, e4]
theorem dn_1_0 {w p i : Nat} (h : dn w p i 1 = 0) : ∀ k, dn w p (i + k) 1 = 0 := fun k => by
  rw [Nat.add_comm, ← dn_dn, h, dn_0]
theorem o_period {n : Nat} (hn : 70000 < n) (h : I_sums ro c c2 kd mo bi tu po be fi lo wo wt ce) (x1 : Int32) :
    ∃ r r2, M_X11_period n x1 ro c = some r ∧ M_X12_period n x1 c2 kd bi po = some r2 ∧ r = r2 := by
  unfold M_X11_period M_X12_period
  rcases div_at h x1 with ⟨h1, h2, h3⟩ | ⟨j, a, w, sd, k, h1, h2, h3, h4, h5, -⟩ | ⟨j, a, w', k, w, p, s, t, l, h1, h2, h3, hj, rfl, g1, g2, g3, g4, g5, g6, g7, g9, g10, g11, g12, g13, g14⟩
  · rw [h1, h3]
    exact ⟨_, _, rfl, rfl, rfl⟩
  · rw [h1, h4]
    exact ⟨_, _, nd1 h2 h3 _ _, rfl, rfl⟩
  · rw [h1, h2]
    have h1w : (1 : Nat) < 2 ^ w := Nat.one_lt_two_pow (by omega)
    have hq := pow_le g3
    have hlt : ∀ i, dn w p i 1 < 2 ^ w := fun i => dn_lt g4 i h1w
    have hM := lp_find (f := fun x : (Int64 × Int32) => M_X12_period_b17 n (nI j) bi po x.1 x.2) (fun i => (lN (dn w p i 1), nI (i + 1))) (fun i => dn w p (i + 1) 1 = 1) (fun i => Sum.inr (nI (i + 1))) (Sum.inl ()) 65535
      (fun i hi h => by
        have hs0 := step0_n (p := p) (by omega) g3 g4 (hlt i)
        have h9 := hlt (i + 1)
        rw [i_0] at hs0
        unfold M_X12_period_b17
        simp (disch := omega) only [i_0, i_1, i_2, i_3, i_4, i_5, i_6, i_7, i_8, i_10, i_12, i_16, i_31, i_32, i_64, i_100, i_128, i_255, i_256, i_512, i_1000, i_1128, i_65535, i_65536, nI_add, pk_mul, pk_sub, nI_ltI, nI_leI, nI_eq, nI_clamp, if_pos, if_neg, ite_true, ite_false, Option.bind_some, Option.elim_some, Option.elim_none, Sum.elim_inl, Sum.elim_inr, g10, g11, hs0, l_1]
        rw [if_neg (by
          rw [pk_lEQ (by show dn w p (i + 1) 1 < _; omega) (by omega)]; exact h)]
        rfl)
      (fun i hi h => by
        have hs0 := step0_n (p := p) (by omega) g3 g4 (hlt i)
        rw [i_0] at hs0
        unfold M_X12_period_b17
        simp (disch := omega) only [i_0, i_1, i_2, i_3, i_4, i_5, i_6, i_7, i_8, i_10, i_12, i_16, i_31, i_32, i_64, i_100, i_128, i_255, i_256, i_512, i_1000, i_1128, i_65535, i_65536, nI_add, pk_mul, pk_sub, nI_ltI, nI_leI, nI_eq, nI_clamp, if_pos, if_neg, ite_true, ite_false, Option.bind_some, Option.elim_some, Option.elim_none, Sum.elim_inl, Sum.elim_inr, g10, g11, hs0, l_1]
        rw [if_pos (by show lN (dn w p (i + 1) 1) = _; rw [h])])
      (by
        unfold M_X12_period_b17
        simp (disch := omega) only [i_0, i_1, i_2, i_3, i_4, i_5, i_6, i_7, i_8, i_10, i_12, i_16, i_31, i_32, i_64, i_100, i_128, i_255, i_256, i_512, i_1000, i_1128, i_65535, i_65536, nI_add, pk_mul, pk_sub, nI_ltI, nI_leI, nI_eq, nI_clamp, if_pos, if_neg, ite_true, ite_false, Option.bind_some, Option.elim_some, Option.elim_none, Sum.elim_inl, Sum.elim_inr]) n 0 (by omega) (by omega)
    have hC := lp_find (f := fun x : (Int64 × Int32) => M_X1_findPeriod_b4 n (nI w) (lN p) x.1 x.2) (fun i => (lN (dn w p i 1), nI (i + 1))) (fun i => dn w p (i + 1) 1 = 1 ∨ dn w p i 1 = 0) (fun i => if dn w p i 1 = 0 then Sum.inl () else Sum.inr (nI (i + 1))) (Sum.inl ()) 65535
      (fun i hi h => by
        have hs0 := doubled_n (p := p) (by omega) g3 g4 (hlt i)
        have h9 := hlt (i + 1)
        have h8 := hlt i
        unfold M_X1_findPeriod_b4
        have e0 : ¬ lN (dn w p i 1) = 0 := by rw [l_0, pk_lEQ (by omega) (by omega)]; exact fun e => h (Or.inr e)
        have e1 : ¬ lN (dbl w p (dn w p i 1)) = 1 := by rw [l_1, pk_lEQ (by show dn w p (i + 1) 1 < _; omega) (by omega)]; exact fun e => h (Or.inl e)
        simp (disch := omega) only [i_0, i_1, i_2, i_3, i_4, i_5, i_6, i_7, i_8, i_10, i_12, i_16, i_31, i_32, i_64, i_100, i_128, i_255, i_256, i_512, i_1000, i_1128, i_65535, i_65536, nI_add, pk_mul, pk_sub, nI_ltI, nI_leI, nI_eq, nI_clamp, if_pos, if_neg, ite_true, ite_false, Option.bind_some, Option.elim_some, Option.elim_none, Sum.elim_inl, Sum.elim_inr, hs0, e0, e1]
        rfl)
      (fun i hi h => by
        have hs0 := doubled_n (p := p) (by omega) g3 g4 (hlt i)
        have h9 := hlt (i + 1)
        have h8 := hlt i
        unfold M_X1_findPeriod_b4
        by_cases e0 : dn w p i 1 = 0
        · rw [if_pos e0, e0]
          simp (disch := omega) only [i_0, i_1, i_2, i_3, i_4, i_5, i_6, i_7, i_8, i_10, i_12, i_16, i_31, i_32, i_64, i_100, i_128, i_255, i_256, i_512, i_1000, i_1128, i_65535, i_65536, nI_add, pk_mul, pk_sub, nI_ltI, nI_leI, nI_eq, nI_clamp, if_pos, if_neg, ite_true, ite_false, Option.bind_some, Option.elim_some, Option.elim_none, Sum.elim_inl, Sum.elim_inr]
          rfl
        · have e1 : dn w p (i + 1) 1 = 1 := by
            rcases h with h | h
            · exact h
            · exact absurd h e0
          have e0' : ¬ lN (dn w p i 1) = 0 := by rw [l_0, pk_lEQ (by omega) (by omega)]; exact e0
          have e1' : lN (dbl w p (dn w p i 1)) = 1 := by show lN (dn w p (i + 1) 1) = 1; rw [e1]; rfl
          rw [if_neg e0]
          simp (disch := omega) only [i_0, i_1, i_2, i_3, i_4, i_5, i_6, i_7, i_8, i_10, i_12, i_16, i_31, i_32, i_64, i_100, i_128, i_255, i_256, i_512, i_1000, i_1128, i_65535, i_65536, nI_add, pk_mul, pk_sub, nI_ltI, nI_leI, nI_eq, nI_clamp, if_pos, if_neg, ite_true, ite_false, Option.bind_some, Option.elim_some, Option.elim_none, Sum.elim_inl, Sum.elim_inr, hs0, e0', e1'])
      (by
        unfold M_X1_findPeriod_b4
        simp (disch := omega) only [i_0, i_1, i_2, i_3, i_4, i_5, i_6, i_7, i_8, i_10, i_12, i_16, i_31, i_32, i_64, i_100, i_128, i_255, i_256, i_512, i_1000, i_1128, i_65535, i_65536, nI_add, pk_mul, pk_sub, nI_ltI, nI_leI, nI_eq, nI_clamp, if_pos, if_neg, ite_true, ite_false, Option.bind_some, Option.elim_some, Option.elim_none, Sum.elim_inl, Sum.elim_inr]) n 0 (by omega) (by omega)
    have key : ∃ r, M_X1_findPeriod n (nI w) (lN p) = some r ∧ (lp (fun x : (Int64 × Int32) => M_X12_period_b17 n (nI j) bi po x.1 x.2) n ((1 : Int64), (1 : Int32))).bind (Sum.elim (fun o8 => some (-1)) (fun r => some r)) = some r := by
      unfold M_X1_findPeriod
      rcases hM with ⟨i, -, hi, m1, m2, m3⟩ | ⟨m1, m2⟩
      · refine ⟨nI (i + 1), ?_, lp_b m3 rfl⟩
        rcases hC with ⟨i', -, hi', c1, c2, c3⟩ | ⟨c1, c2⟩
        · have hz : ¬ dn w p i' 1 = 0 := fun e => by
            rcases Nat.lt_or_ge i i' with h9 | h9
            · exact c2 i (by omega) h9 (Or.inl m1)
            · have := dn_1_0 e (i + 1 - i')
              rw [show i' + (i + 1 - i') = i + 1 from by omega, m1] at this
              omega
          have e1 : dn w p (i' + 1) 1 = 1 := by
            rcases c1 with c1 | c1
            · exact c1
            · exact absurd c1 hz
          have e2 : i' = i := by
            rcases Nat.lt_trichotomy i i' with h9 | h9 | h9
            · exact absurd (Or.inl m1) (c2 i (by omega) h9)
            · exact h9.symm
            · exact absurd e1 (m2 i' (by omega) h9)
          refine lp_b c3 ?_
          rw [if_neg hz, e2]; rfl
        · exact absurd (Or.inl m1) (c1 i (by omega) hi)
      · refine ⟨-1, ?_, lp_b m2 rfl⟩
        rcases hC with ⟨i', -, hi', c1, c2, c3⟩ | ⟨c1, c2⟩
        · have hz : dn w p i' 1 = 0 := by
            rcases c1 with c1 | c1
            · exact absurd c1 (m1 i' (by omega) hi')
            · exact c1
          refine lp_b c3 ?_
          rw [if_pos hz]; rfl
        · exact lp_b c2 rfl
    obtain ⟨r, k1, k2⟩ := key
    refine ⟨r, r, ?_, ?_, rfl⟩
    · simp (disch := omega) only [i_0, i_1, i_2, i_3, i_4, i_5, i_6, i_7, i_8, i_10, i_12, i_16, i_31, i_32, i_64, i_100, i_128, i_255, i_256, i_512, i_1000, i_1128, i_65535, i_65536, nI_add, pk_mul, pk_sub, nI_ltI, nI_leI, nI_eq, nI_clamp, if_pos, if_neg, ite_true, ite_false, Option.bind_some, Option.elim_some, Option.elim_none, Sum.elim_inl, Sum.elim_inr, k1, true_or, or_true]
    · rw [Option.bind_some, if_pos z_eq]; exact k2
end SM
