/-! Own rows: the kinds by exclusive or. -/
section PK
variable {n nb j : Nat} {kd mo bi tu : Nat → Int32} {po : Nat → Int64} {lo wo wt : Nat → Int32} {sd : SD}
theorem kd_xor {P : Nat → Nat} {k : Nat} (hn : 1000 < n) (hnb : nb ≤ 8) (hj : j < 16) (hk : k = 3 ∨ k = 4 ∨ k = 5) (hkd : kd j = nI k) (hs : sd.1 = 6 ∨ sd.1 = 1) (hP : ∀ q, q < 8 * nb → P q < 2 ^ 32)
    (hch : ∀ q, q < 8 * nb → V_changed n sd (nI nb) (nI (q / 8)) (nI 0) (nI (128 / 2 ^ (q % 8))) = some (lN (P q)) ∧ V_changed n sd (nI nb) (nI (q / 8)) (nI (128 / 2 ^ (q % 8))) (nI 0) = some (lN (P q)))
    (hp : ∀ q, q < 8 * nb → M_X12_byteA n (nI j) (nI nb) (nI (q / 8)) (nI (128 / 2 ^ (q % 8))) kd bi tu po lo wo wt = some (lN (P q))) :
    KD n j nb sd kd mo bi tu po lo wo wt := by
  have ej : (nI j).toNatClampNeg = j := nI_clamp (by omega)
  have hx : M_X12_isXor (nI j) kd = some (kI true) := by
    unfold M_X12_isXor
    rw [ej, if_neg (ixn hj), if_neg (ixn hj), if_neg (ixn hj), hkd]
    rcases hk with rfl | rfl | rfl
    · rw [if_pos (show nI 3 = 3 from rfl)]
      rfl
    · rw [if_neg (show ¬ nI 4 = 3 by decide), if_pos (show nI 4 = 4 from rfl)]
      rfl
    · rw [if_neg (show ¬ nI 5 = 3 by decide), if_neg (show ¬ nI 5 = 4 by decide), if_pos (show nI 5 = 5 from rfl)]
      rfl
  refine ⟨(· ^^^ ·), fun x => x < 2 ^ 32, P, P, true, fun _ A B x => A = lN x ∧ B = 0 ∧ x < 2 ^ 32, gp_xor hP, hred_xor P nb, fun r0 f0 => ?_, fun a0 b0 => ?_⟩
  · obtain ⟨ris, fal, h1, h2⟩ := fillBC_n hn hnb hch r0 f0
    refine ⟨ris, fal, h1, ?_, ?_, h2, fun _ _ _ => rfl⟩
    · intro x y _ _
      unfold V_merged
      rcases hs with e | e <;> rw [e]
      · exact congrArg some (l_xor _ _)
      · exact congrArg some (l_xor _ _)
    · unfold V_isByExclusiveOr
      rcases hs with e | e <;> rw [e] <;> rfl
  · obtain ⟨pA, pB, h1, h2⟩ := findPl_n (n := n) (nb := nb) (j := j) (kd := kd) (bi := bi) (tu := tu) (po := po) (lo := lo) (wo := wo) (wt := wt) (PA := fun q => lN (P q)) (PB := fun _ => 0) hn hnb (fun q hq => ⟨hp q hq, by
      unfold M_X12_byteB
      rw [ej, if_neg (ixn hj), hkd]
      rcases hk with rfl | rfl | rfl
      · rw [if_neg (show ¬ nI 3 = 1 by decide)]
      · rw [if_neg (show ¬ nI 4 = 1 by decide)]
      · rw [if_neg (show ¬ nI 5 = 1 by decide)]⟩) a0 b0
    refine ⟨pA, pB, h1, ⟨rfl, rfl, by decide⟩, ?_, ?_, hx⟩
    · rintro k9 A B x q b - ⟨rfl, rfl, hx9⟩ hq
      have hPq := hP q hq
      refine ⟨lN (x ^^^ P q), 0, ?_, ?_⟩
      · unfold M_X12_turn
        rw [hx]
        dsimp only [Option.bind_some]
        rw [if_neg (show ¬ kI true = 0 by decide), if_neg (nI_in (show q < 64 by omega) (by omega)), nI_clamp (n := q) (by omega), (h2 q hq).1, l_xor]
      · rw [ite_self]
        exact ⟨rfl, rfl, Nat.xor_lt_two_pow hx9 hPq⟩
    · rintro k9 A B x - ⟨rfl, rfl, hx9⟩
      unfold M_X12_isNothing
      rw [hx]
      dsimp only [Option.bind_some]
      rw [if_neg (show ¬ kI true = 0 by decide), l_0]
      by_cases e : x = 0
      · rw [if_pos e, if_pos (show lN x = lN 0 by rw [e])]
      · rw [if_neg e, if_neg (show ¬ lN x = lN 0 by rw [pk_lEQ (by omega) (by omega)]; exact e)]
theorem kd_turn {w t : Nat} (hn : 1000 < n) (h1 : 1 ≤ nb) (hnb : nb ≤ 8) (hj : j < 16) (hw : 8 ≤ w) (hw' : w ≤ 32) (ht : t < w) (hsd : sd = (6, 3, nI w, nI t, 0, 0, 0, 0, 0, fun _ => 0)) (hkd : kd j = nI 3) (hbi : bi j = nI w) (htu : tu j = nI t) :
    KD n j nb sd kd mo bi tu po lo wo wt := by
  have h8 : 2 ^ 8 ≤ 2 ^ w := Nat.pow_le_pow_right (by decide) hw
  have hq2 := pow_le hw'
  refine kd_xor (P := fun q => rol w (t * (nb - 1 - q / 8) % w) (128 / 2 ^ (q % 8))) (k := 3) hn hnb hj (Or.inl rfl) hkd (by rw [hsd]; exact Or.inl rfl) (fun q _ => Nat.lt_of_lt_of_le (rol_lt _ _ _) hq2) (fun q hq => ?_) (fun q hq => ?_)
  · have hb := bit128 q
    constructor
    · have := changed8 (n := nb) (i := q / 8) (a := 0) (b := 128 / 2 ^ (q % 8)) (by omega) (by omega) (by omega) hb hw hw' ht
      rw [Nat.zero_xor] at this
      rw [hsd]
      exact this
    · have := changed8 (n := nb) (i := q / 8) (a := 128 / 2 ^ (q % 8)) (b := 0) (by omega) (by omega) hb (by omega) hw hw' ht
      rw [Nat.xor_zero] at this
      rw [hsd]
      exact this
  · have hb := bit128 q
    have ej : (nI j).toNatClampNeg = j := nI_clamp (by omega)
    have hle : t * (nb - 1 - q / 8) ≤ 32 * 8 := Nat.mul_le_mul (by omega) (by omega)
    have hr := rolled_n (w := w) (k := t * (nb - 1 - q / 8)) (s := 128 / 2 ^ (q % 8)) (by omega) hw' (by omega) (by omega)
    unfold M_X12_byteA
    have hk2 : ¬ kd j = 2 := by rw [hkd]; decide
    rw [ej, if_neg (ixn hj), if_neg hk2, if_pos (show kd j = 3 from hkd), if_neg (ixn hj), if_neg (ixn hj), htu, hbi]
    have e1 : nI t * (nI nb - 1 - nI (q / 8)) = nI (t * (nb - 1 - q / 8)) := by
      simp (disch := omega) only [i_0, i_1, i_2, i_3, i_4, i_5, i_6, i_7, i_8, i_10, i_12, i_16, i_31, i_32, i_64, i_100, i_128, i_255, i_256, i_512, i_1000, i_1128, i_65535, i_65536, nI_add, pk_mul, pk_sub, nI_ltI, nI_leI, nI_eq, nI_clamp, if_pos, if_neg, ite_true, ite_false, Option.bind_some, Option.elim_some, Option.elim_none, Sum.elim_inl, Sum.elim_inr]
    rw [e1, nI_l (by omega), hr]
    rfl
theorem kd_div {k w p s t l : Nat} (hn : 10000 < n) (h1 : 1 ≤ nb) (hnb : nb ≤ 8) (hj : j < 16) (hk : k = 4 ∨ k = 5) (hw : 3 ≤ w) (hw' : w ≤ 32) (hp : p < 2 ^ w) (hl : l < 2) (hsd : sd = (1, nI k, nI w, 0, lN p, lN s, lN t, nI l, 0, fun _ => 0)) (hkd : kd j = nI k) (hbi : bi j = nI w) (hpo : po j = lN p) (hlo : lo j = nI l) :
    KD n j nb sd kd mo bi tu po lo wo wt := by
  have hq2 := pow_le hw'
  have h0 : (0 : Nat) < 2 ^ w := Nat.two_pow_pos w
  refine kd_xor (P := fun q => dn w p (8 * (nb - 1 - q / 8)) (byt w p l (128 / 2 ^ (q % 8)) 8 0)) (k := k) (by omega) hnb hj (Or.inr hk) hkd (by rw [hsd]; exact Or.inr rfl) (fun q _ => Nat.lt_of_lt_of_le (dn_lt hp _ (byt_lt hp _ _ _ h0)) hq2) (fun q hq => ?_) (fun q hq => ?_)
  · have hb := bit128 q
    constructor
    · have := changed1 (N := n) (n := nb) (i := q / 8) (a := 0) (b := 128 / 2 ^ (q % 8)) hn (by omega) (by omega) (by omega) hb hw hw' hp hl
      rw [Nat.zero_xor] at this
      rw [hsd]
      exact this
    · have := changed1 (N := n) (n := nb) (i := q / 8) (a := 128 / 2 ^ (q % 8)) (b := 0) hn (by omega) (by omega) hb (by omega) hw hw' hp hl
      rw [Nat.xor_zero] at this
      rw [hsd]
      exact this
  · have hb := bit128 q
    have ej : (nI j).toNatClampNeg = j := nI_clamp (by omega)
    have e1 := stepByte_n (n := n) (w := w) (p := p) (l := l) (s := 0) (b := 128 / 2 ^ (q % 8)) (by omega) (by omega) hw' hp h0 hl (by omega)
    have e2 := passed_n (n := n) (w := w) (p := p) (k := nb - 1 - q / 8) hn hj hbi hpo (by omega) hw' hp (byt_lt hp l (128 / 2 ^ (q % 8)) 8 h0) (by omega)
    have e3 : nI nb - 1 - nI (q / 8) = nI (nb - 1 - q / 8) := by
      simp (disch := omega) only [i_0, i_1, i_2, i_3, i_4, i_5, i_6, i_7, i_8, i_10, i_12, i_16, i_31, i_32, i_64, i_100, i_128, i_255, i_256, i_512, i_1000, i_1128, i_65535, i_65536, nI_add, pk_mul, pk_sub, nI_ltI, nI_leI, nI_eq, nI_clamp, if_pos, if_neg, ite_true, ite_false, Option.bind_some, Option.elim_some, Option.elim_none, Sum.elim_inl, Sum.elim_inr]
    unfold M_X12_byteA
    rw [ej, show (0 : Int64) = lN 0 from rfl, e3, hbi, hpo, hlo, hkd, e1]
    dsimp only [Option.bind_some]
    rw [e2]
    rcases hk with rfl | rfl
    · rw [if_neg (ixn hj), if_neg (by decide), if_neg (by decide), if_pos (by decide), if_neg (ixn hj), if_neg (ixn hj), if_neg (ixn hj)]
      rfl
    · rw [if_neg (ixn hj), if_neg (by decide), if_neg (by decide), if_neg (by decide), if_pos (by decide), if_neg (ixn hj), if_neg (ixn hj), if_neg (ixn hj)]
      rfl
end PK
