/-! Own rows: all kinds; sees. -/
section SE
variable {n nb j : Nat} {kd mo bi tu : Nat → Int32} {po be fi : Nat → Int64} {lo wo wt ce : Nat → Int32} {sd : SD}
theorem V10 {m x y : Nat} (hm : 2 ≤ m) (hm' : m ≤ 65536) (hx : Vm m false x) (hy : Vm m false y) : (x + y) % m = mgT m x y ∧ x < 2 ^ 32 ∧ y < 2 ^ 32 := by
  obtain ⟨a, b, rfl, h1⟩ := hx
  obtain ⟨c, d, rfl, h2⟩ := hy
  have p1 := amt_lt (show 0 < m by omega) hm' a b
  have p2 := amt_lt (show 0 < m by omega) hm' c d
  refine ⟨?_, p1, p2⟩
  rw [h1 rfl, h2 rfl, amt_add (by omega) hm']
  unfold amt
  rw [Int.add_zero, md_z (by omega), Nat.mul_zero, Nat.zero_add, Nat.zero_add, Nat.zero_add, md_md (by omega)]
theorem kd_weighted {m L : Nat} {f : Nat → Int32} {k : Nat} (hn : 1000 < n) (h1 : 1 ≤ nb) (hnb : nb ≤ 8) (hj : j < 16) (hk : k = 0 ∨ k = 2) (h2 : 2 ≤ m) (hm' : m ≤ 65536) (hL1 : 1 ≤ L) (hL : L ≤ 12) (hsd : sd = (8, nI k, nI m, 0, 0, 0, 0, 0, L, f)) (hkd : kd j = nI k) (hmo : mo j = nI m) (hf : ∀ i, i < L → ∃ v, v < 65536 ∧ f i = nI v)
    (h0 : k = 0 → L = 1 ∧ f = fun _ => 1) (hw : k = 2 → wo j = nI L ∧ ∀ i, i < L → wt (12 * j + i) = f i) :
    KD n j nb sd kd mo bi tu po lo wo wt := by
  have hu : ∀ i, i < L → f i = nI (bv f i) ∧ bv f i < 65536 := fun i hi => bv_of (by omega) (hf i hi)
  have ej : (nI j).toNatClampNeg = j := nI_clamp (by omega)
  have hlt : ∀ i, i % L < L := fun i => Nat.mod_lt i (by omega)
  refine kd_mod (m := m) (wA := fun i => bv f (i % L)) (wB := fun _ => 0) (k := k) (tf := false) hn hnb hj (by omega) hkd hmo h2 hm' (fun _ _ => rfl) (fun i _ => (hu _ (hlt i)).2) (fun _ _ => Nat.zero_le 8) (by rw [hsd]; exact Or.inl rfl) (fun x y hx hy => ?_) (fun q hq => ?_) (fun q hq => ?_)
  · obtain ⟨e1, e2, e3⟩ := V10 h2 hm' hx hy
    have := merged10 (x := x) (y := y) (m := m) (by omega) (by omega) h2 hm'
    rw [e1] at this
    rw [hsd]
    exact this
  · have hb := bit128 q
    constructor
    · have := changed10 (n := nb) (i := q / 8) (a := 0) (b := 128 / 2 ^ (q % 8)) (wl := L) (u := bv f) (wf := f) hL1 hL (fun i hi => (hu i hi).1) (fun i hi => (hu i hi).2) (by omega) (by omega) hb h2 hm'
      rw [hsd]
      refine this.trans ?_
      unfold rs amt
      rw [show ((0 : Nat) : Int) * ((128 / 2 ^ (q % 8) : Nat) : Int) = 0 from Int.zero_mul _, md_z (by omega), Nat.mul_zero, Nat.zero_add, show ((128 / 2 ^ (q % 8) : Nat) : Int) - ((0 : Nat) : Int) = ((128 / 2 ^ (q % 8) : Nat) : Int) from Int.sub_zero _]
    · have := changed10 (n := nb) (i := q / 8) (a := 128 / 2 ^ (q % 8)) (b := 0) (wl := L) (u := bv f) (wf := f) hL1 hL (fun i hi => (hu i hi).1) (fun i hi => (hu i hi).2) (by omega) hb (by omega) h2 hm'
      rw [hsd]
      refine this.trans ?_
      unfold fa amt
      rw [show ((0 : Nat) : Int) * (-((128 / 2 ^ (q % 8) : Nat) : Int)) = 0 from Int.zero_mul _, md_z (by omega), Nat.mul_zero, Nat.zero_add, show ((0 : Nat) : Int) - ((128 / 2 ^ (q % 8) : Nat) : Int) = -((128 / 2 ^ (q % 8) : Nat) : Int) from Int.zero_sub _]
  · have hb := bit128 q
    constructor
    · unfold M_X12_byteA
      rcases hk with rfl | rfl
      · obtain ⟨e1, e2⟩ := h0 rfl
        have e3 : bv f (q / 8 % L) = 1 := by rw [e2]; rfl
        show _ = some (lN (bv f (q / 8 % L) * (128 / 2 ^ (q % 8))))
        rw [e3, ej, if_neg (ixn hj), hkd, if_neg (show ¬ nI 0 = 2 by decide), if_neg (show ¬ nI 0 = 3 by decide), if_neg (show ¬ nI 0 = 4 by decide), if_neg (show ¬ nI 0 = 5 by decide), Nat.one_mul, nI_l (by omega)]
      · obtain ⟨e1, e2⟩ := hw rfl
        have hz := hlt (q / 8)
        have e3 : wt (12 * j + q / 8 % L) = nI (bv f (q / 8 % L)) := (e2 _ hz).trans (hu _ hz).1
        have e4 := (hu _ hz).2
        rw [ej, if_neg (ixn hj), hkd, if_pos (show nI 2 = 2 from rfl), if_neg (ixn hj), e1]
        have e5 : nI (q / 8) - nI (q / 8) / nI L * nI L = nI (q / 8 % L) := pk_rem (by omega) (by omega) (by omega)
        have e6 : (12 : Int32) * nI j + nI (q / 8 % L) = nI (12 * j + q / 8 % L) := by
          simp (disch := omega) only [i_0, i_1, i_2, i_3, i_4, i_5, i_6, i_7, i_8, i_10, i_12, i_16, i_31, i_32, i_64, i_100, i_128, i_255, i_256, i_512, i_1000, i_1128, i_65535, i_65536, nI_add, pk_mul, pk_sub, nI_ltI, nI_leI, nI_eq, nI_clamp, if_pos, if_neg, ite_true, ite_false, Option.bind_some, Option.elim_some, Option.elim_none, Sum.elim_inl, Sum.elim_inr]
        rw [if_neg (show ¬ nI L = 0 by rw [i_0, nI_eq (by omega) (by omega)]; omega), e5, e6, if_neg (nI_in (show 12 * j + q / 8 % L < 192 by omega) (by omega)), nI_clamp (by omega), e3, nI_l (by omega), nI_l (by omega), lN_mul]
    · unfold M_X12_byteB
      rw [ej, if_neg (ixn hj), hkd, if_neg (show ¬ nI k = 1 by rw [i_1, nI_eq (by omega) (by omega)]; omega)]
      show some (0 : Int64) = some (lN (0 * _))
      rw [Nat.zero_mul]
      rfl
theorem kd_twofold {m : Nat} (hn : 1000 < n) (h1 : 1 ≤ nb) (hnb : nb ≤ 8) (hj : j < 16) (h2 : 2 ≤ m) (hm' : m ≤ 65536) (hsd : sd = (7, 1, nI m, 0, 0, 0, 0, 0, 0, fun _ => 0)) (hkd : kd j = nI 1) (hmo : mo j = nI m) :
    KD n j nb sd kd mo bi tu po lo wo wt := by
  have ej : (nI j).toNatClampNeg = j := nI_clamp (by omega)
  refine kd_mod (m := m) (wA := fun _ => 1) (wB := fun i => nb - i) (k := 1) (tf := true) hn hnb hj (by omega) hkd hmo h2 hm' (fun h => by cases h) (fun i _ => by omega) (fun i _ => by omega) (by rw [hsd]; exact Or.inr rfl) (fun x y hx hy => ?_) (fun q hq => ?_) (fun q hq => ?_)
  · obtain ⟨a, b, rfl, -⟩ := hx
    obtain ⟨c, d, rfl, -⟩ := hy
    have p1 := amt_lt (show 0 < m by omega) hm' a b
    have p2 := amt_lt (show 0 < m by omega) hm' c d
    rw [hsd]
    exact merged9 (m := m) (by omega) (by omega) h2 hm'
  · have hb := bit128 q
    have e9 : ((nb - q / 8 : Nat) : Int) = (nb : Int) - ((q / 8 : Nat) : Int) := by omega
    constructor
    · have := changed9 (n := nb) (i := q / 8) (a := 0) (b := 128 / 2 ^ (q % 8)) (by omega) (by omega) (by omega) hb h2 hm'
      rw [hsd]
      refine this.trans ?_
      unfold rs amt
      rw [show (((1 : Nat) : Int) * ((128 / 2 ^ (q % 8) : Nat) : Int)) = ((128 / 2 ^ (q % 8) : Nat) : Int) from Int.one_mul _, show ((128 / 2 ^ (q % 8) : Nat) : Int) - ((0 : Nat) : Int) = ((128 / 2 ^ (q % 8) : Nat) : Int) from Int.sub_zero _, e9]
    · have := changed9 (n := nb) (i := q / 8) (a := 128 / 2 ^ (q % 8)) (b := 0) (by omega) (by omega) hb (by omega) h2 hm'
      rw [hsd]
      refine this.trans ?_
      unfold fa amt
      rw [show (((1 : Nat) : Int) * (-((128 / 2 ^ (q % 8) : Nat) : Int))) = -((128 / 2 ^ (q % 8) : Nat) : Int) from Int.one_mul _, show ((0 : Nat) : Int) - ((128 / 2 ^ (q % 8) : Nat) : Int) = -((128 / 2 ^ (q % 8) : Nat) : Int) from Int.zero_sub _, e9]
  · have hb := bit128 q
    constructor
    · unfold M_X12_byteA
      show _ = some (lN (1 * (128 / 2 ^ (q % 8))))
      rw [ej, if_neg (ixn hj), hkd, if_neg (show ¬ nI 1 = 2 by decide), if_neg (show ¬ nI 1 = 3 by decide), if_neg (show ¬ nI 1 = 4 by decide), if_neg (show ¬ nI 1 = 5 by decide), Nat.one_mul, nI_l (by omega)]
    · unfold M_X12_byteB
      rw [ej, if_neg (ixn hj), hkd, if_pos (show nI 1 = 1 from rfl), pk_sub (by omega), nI_l (by omega), nI_l (by omega), lN_mul]
theorem kd_all (hn : 10000 < n) (h1 : 1 ≤ nb) (hnb : nb ≤ 8) (hj : j < 16) (h : SKv sd (kd j) (mo j) (bi j) (tu j) (po j) (be j) (fi j) (lo j) (wo j) (fun i => wt (12 * j + i)) (fun i => ce (100 * j + i))) (h4 : ¬ sd.1 = 4) : KD n j nb sd kd mo bi tu po lo wo wt := by
  rcases h with ⟨m, a1, a2, a3, a4, a5⟩ | ⟨m, a1, a2, a3, a4, a5⟩ | ⟨m, L, f, a1, a2, a3, a4, a5, a6, a7, a8, a9⟩ | ⟨w, t, a1, a2, a3, a4, a5, a6, a7⟩ | ⟨k, w, p, b, f, l, a1, a2, a3, a4, a5, a6, a7, a8, a9, b1, b2, b3, b4, b5⟩ | ⟨q, f, a1, a2, a3, a4⟩
  · exact kd_weighted (m := m) (L := 1) (f := fun _ => 1) (k := 0) (by omega) h1 hnb hj (Or.inl rfl) a1 a2 (by omega) (by omega) a3 a4 a5 (fun i _ => ⟨1, by omega, rfl⟩) (fun _ => ⟨rfl, rfl⟩) (fun h => by cases h)
  · exact kd_twofold (m := m) (by omega) h1 hnb hj a1 a2 a3 a4 a5
  · exact kd_weighted (m := m) (L := L) (f := f) (k := 2) (by omega) h1 hnb hj (Or.inr rfl) a1 a2 a3 a4 a5 a6 a7 (fun i hi => (a9 i hi).2) (fun h => by cases h) (fun _ => ⟨a8, fun i hi => (a9 i hi).1⟩)
  · exact kd_turn (w := w) (t := t) (by omega) h1 hnb hj a1 a2 a3 a4 a5 a6 a7
  · exact kd_div (k := k) (w := w) (p := p) (s := b) (t := f) (l := l) hn h1 hnb hj a1 a2 a3 a4 a7 a8 a9 b1 b2 b5
  · exact absurd (by rw [a3]) h4
end SE
