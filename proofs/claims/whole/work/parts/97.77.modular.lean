/-! Own rows: the sums by remainders: amounts of places. -/
def amt (m : Nat) (a b : Int) : Nat := 65536 * md b m + md a m
theorem md_z {m : Nat} (hm : 0 < m) : md 0 m = 0 := by
  have := md_n 0 hm
  rw [Nat.zero_mod] at this
  exact this
theorem md_md {m : Nat} (hm : 0 < m) (a c : Int) : (md a m + md c m) % m = md (a + c) m := by
  rw [md_add _ _ hm]
  unfold md
  congr 1
  have h1 := md_i (z := a) hm
  unfold md at h1
  rw [h1, Int.add_emod, Int.emod_emod_of_dvd _ (Int.dvd_refl _), ← Int.add_emod]
theorem md_neg0 {m : Nat} (hm : 0 < m) {z : Int} (h : md z m = 0) : md (-z) m = 0 := by
  have h1 := md_i (z := z) hm
  rw [h] at h1
  have h2 : (m : Int) ∣ z := Int.dvd_of_emod_eq_zero h1.symm
  have h3 : (m : Int) ∣ -z := Int.dvd_neg.mpr h2
  have h4 := Int.emod_eq_zero_of_dvd h3
  have h5 := md_i (z := -z) hm
  omega
theorem amt_0 {m : Nat} (hm : 0 < m) {a b : Int} : amt m a b = 0 ↔ md a m = 0 ∧ md b m = 0 := by
  unfold amt
  omega
theorem amt_00 {m : Nat} (hm : 0 < m) : amt m 0 0 = 0 := (amt_0 hm).mpr ⟨md_z hm, md_z hm⟩
theorem amt_lt {m : Nat} (hm : 0 < m) (hm' : m ≤ 65536) (a b : Int) : amt m a b < 2 ^ 32 := by
  have h1 := md_lt (z := a) hm
  have h2 := md_lt (z := b) hm
  unfold amt
  omega
theorem amt_add {m : Nat} (hm : 0 < m) (hm' : m ≤ 65536) (a b c d : Int) : mgT m (amt m a b) (amt m c d) = amt m (a + c) (b + d) := by
  have h1 := md_lt (z := a) hm
  have h2 := md_lt (z := c) hm
  unfold amt
  rw [mgT_pk (by omega), show (65536 * md b m + md a m) / 65536 = md b m by omega, show (65536 * md b m + md a m) % 65536 = md a m by omega, md_md hm, md_md hm]
/-- the byte's bits count up to the byte -/
def sB (a : Nat) : Nat → Nat
  | 0 => 0
  | t + 1 => sB a t + (if a.testBit (7 - t) then 128 / 2 ^ t else 0)
theorem sB_8 : ∀ a, a < 256 → sB a 8 = a := by decide +kernel
section MK
variable {n nb j m : Nat} {kd mo bi tu : Nat → Int32} {po : Nat → Int64} {lo wo wt : Nat → Int32} {sd : SD} {wA wB : Nat → Nat}
def rs (m : Nat) (wA wB : Nat → Nat) (q : Nat) : Nat := amt m ((wA (q / 8) : Int) * ((128 / 2 ^ (q % 8) : Nat) : Int)) ((wB (q / 8) : Int) * ((128 / 2 ^ (q % 8) : Nat) : Int))
def fa (m : Nat) (wA wB : Nat → Nat) (q : Nat) : Nat := amt m ((wA (q / 8) : Int) * (-((128 / 2 ^ (q % 8) : Nat) : Int))) ((wB (q / 8) : Int) * (-((128 / 2 ^ (q % 8) : Nat) : Int)))
theorem df_mod (hm : 0 < m) (hm' : m ≤ 65536) {i a b : Nat} (A B : Int) : ∀ t, t ≤ 8 → df (mgT m) (rs m wA wB) (fa m wA wB) i a b t (amt m A B) = amt m (A + (wA i : Int) * ((sB b t : Int) - sB a t)) (B + (wB i : Int) * ((sB b t : Int) - sB a t)) := by
  intro t
  induction t with
  | zero =>
    intro _
    show amt m A B = amt m (A + (wA i : Int) * (((0 : Nat) : Int) - ((0 : Nat) : Int))) (B + (wB i : Int) * (((0 : Nat) : Int) - ((0 : Nat) : Int)))
    rw [Int.sub_self, Int.mul_zero, Int.mul_zero, Int.add_zero, Int.add_zero]
  | succ t ih =>
    intro ht
    have ih' := ih (by omega)
    have e8 : (8 * i + t) / 8 = i := by omega
    have e9 : (8 * i + t) % 8 = t := by omega
    show (if a.testBit (7 - t) = b.testBit (7 - t) then df (mgT m) (rs m wA wB) (fa m wA wB) i a b t (amt m A B) else mgT m (df (mgT m) (rs m wA wB) (fa m wA wB) i a b t (amt m A B)) (if a.testBit (7 - t) then fa m wA wB (8 * i + t) else rs m wA wB (8 * i + t))) = amt m (A + (wA i : Int) * (((sB b t + (if b.testBit (7 - t) then 128 / 2 ^ t else 0) : Nat) : Int) - ((sB a t + (if a.testBit (7 - t) then 128 / 2 ^ t else 0) : Nat) : Int))) (B + (wB i : Int) * (((sB b t + (if b.testBit (7 - t) then 128 / 2 ^ t else 0) : Nat) : Int) - ((sB a t + (if a.testBit (7 - t) then 128 / 2 ^ t else 0) : Nat) : Int)))
    rw [ih']
    unfold rs fa
    rw [e8, e9]
    generalize 128 / 2 ^ t = bt
    generalize sB a t = sa
    generalize sB b t = sb
    generalize (wA i : Int) = p
    generalize (wB i : Int) = r
    have k1 : ∀ (X p : Int), X + p * ((sb : Int) - sa) + p * (-(bt : Int)) = X + p * (((sb + 0 : Nat) : Int) - ((sa + bt : Nat) : Int)) := fun X p => by
      rw [Int.add_assoc, ← Int.mul_add]
      congr 2
      omega
    have k2 : ∀ (X p : Int), X + p * ((sb : Int) - sa) + p * (bt : Int) = X + p * (((sb + bt : Nat) : Int) - ((sa + 0 : Nat) : Int)) := fun X p => by
      rw [Int.add_assoc, ← Int.mul_add]
      congr 2
      omega
    cases a.testBit (7 - t) <;> cases b.testBit (7 - t)
    · rfl
    · rw [if_neg (by decide), if_neg (by decide), if_pos rfl, amt_add hm hm', k2, k2]
      rfl
    · rw [if_neg (by decide), if_pos rfl, amt_add hm hm', k1, k1]
      rfl
    · rw [if_pos rfl, if_pos rfl]
      congr 3
      · omega
      · omega
theorem chs_mod (hm : 0 < m) (hm' : m ≤ 65536) (slip g i : Nat) : ∃ c e : Int, ∀ a b, a < 256 → b < 256 → chs (mgT m) (rs m wA wB) (fa m wA wB) slip g i a b = amt m (c * ((b : Int) - a)) (e * ((b : Int) - a)) := by
  have h0 := amt_00 hm
  unfold chs
  by_cases g0 : g = 0
  · refine ⟨wA i, wB i, fun a b ha hb => ?_⟩
    rw [if_pos g0, ← h0, df_mod hm hm' 0 0 8 (Nat.le_refl 8), sB_8 a ha, sB_8 b hb, Int.zero_add, Int.zero_add]
  · by_cases h5 : slip = 5
    · refine ⟨(wA i : Int) + wA (i + g), (wB i : Int) + wB (i + g), fun a b ha hb => ?_⟩
      rw [if_neg g0, if_pos h5, ← h0, df_mod hm hm' 0 0 8 (Nat.le_refl 8), df_mod hm hm' _ _ 8 (Nat.le_refl 8), sB_8 a ha, sB_8 b hb, Int.zero_add, Int.zero_add, ← Int.add_mul, ← Int.add_mul]
    · refine ⟨(wA i : Int) - wA (i + g), (wB i : Int) - wB (i + g), fun a b ha hb => ?_⟩
      have k : ∀ p r : Int, p * ((b : Int) - a) + r * ((a : Int) - b) = (p - r) * ((b : Int) - a) := fun p r => by
        rw [Int.sub_mul, show (a : Int) - b = -((b : Int) - a) by omega, Int.mul_neg]
        rfl
      rw [if_neg g0, if_neg h5, ← h0, df_mod hm hm' 0 0 8 (Nat.le_refl 8), df_mod hm hm' _ _ 8 (Nat.le_refl 8), sB_8 a ha, sB_8 b hb, Int.zero_add, Int.zero_add, k, k]
theorem hred_mod (hm : 0 < m) (hm' : m ≤ 65536) : Hred (mgT m) (rs m wA wB) (fa m wA wB) nb := by
  intro slip g i a b _ ha hb hab h
  obtain ⟨c, e, hc⟩ := chs_mod (wA := wA) (wB := wB) hm hm' slip g i
  rw [hc a b ha hb, amt_0 hm] at h
  rcases Nat.lt_or_ge a b with hlt | hge
  · refine ⟨b - a, by omega, by omega, ?_⟩
    rw [hc 0 (b - a) (by omega) (by omega), show (((b - a : Nat) : Int) - ((0 : Nat) : Int)) = (b : Int) - a by omega]
    exact (amt_0 hm).mpr h
  · refine ⟨a - b, by omega, by omega, ?_⟩
    rw [hc 0 (a - b) (by omega) (by omega), show (((a - b : Nat) : Int) - ((0 : Nat) : Int)) = -((b : Int) - a) by omega, Int.mul_neg, Int.mul_neg]
    exact (amt_0 hm).mpr ⟨md_neg0 hm h.1, md_neg0 hm h.2⟩
def Vm (m : Nat) (tf : Bool) (x : Nat) : Prop := ∃ a b : Int, x = amt m a b ∧ (tf = false → b = 0)
theorem gp_mod {tf : Bool} {N : Nat} (hm : 0 < m) (hm' : m ≤ 65536) (hB : tf = false → ∀ i, wB i = 0) : GP (mgT m) (Vm m tf) (rs m wA wB) (fa m wA wB) N := by
  have hz : ∀ i (z : Int), tf = false → (wB i : Int) * z = 0 := fun i z h => by rw [hB h i]; exact Int.zero_mul z
  refine ⟨⟨0, 0, (amt_00 hm).symm, fun _ => rfl⟩, ?_, ?_, ?_, ?_, ?_, ?_⟩
  · rintro x y ⟨a, b, rfl, h1⟩ ⟨c, d, rfl, h2⟩
    exact ⟨a + c, b + d, amt_add hm hm' _ _ _ _, fun h => by rw [h1 h, h2 h]; rfl⟩
  · rintro x ⟨a, b, rfl, h1⟩
    have := amt_add hm hm' 0 0 a b
    rw [amt_00 hm, Int.zero_add, Int.zero_add] at this
    exact this
  · rintro x y ⟨a, b, rfl, h1⟩ ⟨c, d, rfl, h2⟩
    rw [amt_add hm hm', amt_add hm hm', Int.add_comm a, Int.add_comm b]
  · rintro x y z ⟨a, b, rfl, h1⟩ ⟨c, d, rfl, h2⟩ ⟨e, f, rfl, h3⟩
    rw [amt_add hm hm', amt_add hm hm', amt_add hm hm', amt_add hm hm', Int.add_assoc, Int.add_assoc]
  · intro q _
    refine ⟨⟨_, _, rfl, hz _ _⟩, ⟨_, _, rfl, hz _ _⟩, ?_⟩
    unfold rs fa
    rw [amt_add hm hm', ← Int.mul_add, ← Int.mul_add, Int.add_right_neg, Int.mul_zero, Int.mul_zero, amt_00 hm]
  · rintro x ⟨a, b, rfl, -⟩
    have := amt_lt hm hm' a b
    omega
theorem lZ_z {z : Int} (h1 : -2 ^ 62 ≤ z) (h2 : z < 2 ^ 62) : lZ z = 0 ↔ z = 0 := by
  constructor
  · intro h
    have := congrArg Int64.toInt h
    rw [lZ_t (by omega) (by omega)] at this
    exact this
  · intro h
    rw [h]; rfl
theorem tm_md {z : Int} (hm : 0 < m) : z.tmod m = 0 ↔ md z m = 0 := by
  have hi := md_i (z := z) hm
  constructor
  · intro h
    have h2 := Int.emod_eq_zero_of_dvd (Int.dvd_of_tmod_eq_zero h)
    omega
  · intro h
    rw [h] at hi
    exact Int.tmod_eq_zero_of_dvd (Int.dvd_of_emod_eq_zero hi.symm)
theorem kd_mod {k : Nat} {tf : Bool} (hn : 1000 < n) (hnb : nb ≤ 8) (hj : j < 16) (hk : k < 3) (hkd : kd j = nI k) (hmo : mo j = nI m) (h2 : 2 ≤ m) (hm' : m ≤ 65536) (hB : tf = false → ∀ i, wB i = 0) (hA9 : ∀ i, i < nb → wA i < 65536) (hB9 : ∀ i, i < nb → wB i ≤ 8) (hs : sd.1 = 8 ∨ sd.1 = 7)
    (hmg : ∀ x y, Vm m tf x → Vm m tf y → V_merged sd (lN x) (lN y) = some (lN (mgT m x y)))
    (hch : ∀ q, q < 8 * nb → V_changed n sd (nI nb) (nI (q / 8)) (nI 0) (nI (128 / 2 ^ (q % 8))) = some (lN (rs m wA wB q)) ∧ V_changed n sd (nI nb) (nI (q / 8)) (nI (128 / 2 ^ (q % 8))) (nI 0) = some (lN (fa m wA wB q)))
    (hp : ∀ q, q < 8 * nb → M_X12_byteA n (nI j) (nI nb) (nI (q / 8)) (nI (128 / 2 ^ (q % 8))) kd bi tu po lo wo wt = some (lN (wA (q / 8) * (128 / 2 ^ (q % 8)))) ∧ M_X12_byteB (nI j) (nI nb) (nI (q / 8)) (nI (128 / 2 ^ (q % 8))) kd = some (lN (wB (q / 8) * (128 / 2 ^ (q % 8))))) :
    KD n j nb sd kd mo bi tu po lo wo wt := by
  have hm : 0 < m := by omega
  have ej : (nI j).toNatClampNeg = j := nI_clamp (by omega)
  have hx : M_X12_isXor (nI j) kd = some (kI false) := by
    unfold M_X12_isXor
    rw [ej, if_neg (ixn hj), if_neg (ixn hj), if_neg (ixn hj), hkd, if_neg (show ¬ nI k = 3 by rw [i_3, nI_eq (by omega) (by omega)]; omega), if_neg (show ¬ nI k = 4 by rw [i_4, nI_eq (by omega) (by omega)]; omega), if_neg (show ¬ nI k = 5 by rw [i_5, nI_eq (by omega) (by omega)]; omega)]
    rfl
  refine ⟨mgT m, Vm m tf, rs m wA wB, fa m wA wB, false, fun k A B x => ∃ a b : Int, A = lZ a ∧ B = lZ b ∧ -(k * 2 ^ 24 : Int) ≤ a ∧ a ≤ k * 2 ^ 24 ∧ -(k * 2 ^ 24 : Int) ≤ b ∧ b ≤ k * 2 ^ 24 ∧ x = amt m a b, gp_mod hm hm' hB, hred_mod hm hm', fun r0 f0 => ?_, fun a0 b0 => ?_⟩
  · obtain ⟨ris, fal, h1, h3⟩ := fillBC_n hn hnb hch r0 f0
    refine ⟨ris, fal, h1, hmg, ?_, h3, fun h => by cases h⟩
    unfold V_isByExclusiveOr
    rcases hs with e | e <;> rw [e] <;> rfl
  · obtain ⟨pA, pB, h1, h3⟩ := findPl_n (n := n) (nb := nb) (j := j) (kd := kd) (bi := bi) (tu := tu) (po := po) (lo := lo) (wo := wo) (wt := wt) hn hnb hp a0 b0
    refine ⟨pA, pB, h1, ⟨0, 0, rfl, rfl, by omega, by omega, by omega, by omega, (amt_00 hm).symm⟩, ?_, ?_, hx⟩
    · rintro k9 A B x q b hk9 ⟨a, c, rfl, rfl, b1, b2, b3, b4, rfl⟩ hq
      obtain ⟨pa, pb⟩ := h3 q hq
      have hbt := bit128 q
      have hwa := hA9 (q / 8) (by omega)
      have hwb := hB9 (q / 8) (by omega)
      have la : wA (q / 8) * (128 / 2 ^ (q % 8)) ≤ 65536 * 256 := Nat.mul_le_mul (by omega) (by omega)
      have lb : wB (q / 8) * (128 / 2 ^ (q % 8)) ≤ 65536 * 256 := Nat.mul_le_mul (by omega) (by omega)
      have ea : ((wA (q / 8) : Int) * ((128 / 2 ^ (q % 8) : Nat) : Int)) = ((wA (q / 8) * (128 / 2 ^ (q % 8)) : Nat) : Int) := (Int.natCast_mul _ _).symm
      have eb : ((wB (q / 8) : Int) * ((128 / 2 ^ (q % 8) : Nat) : Int)) = ((wB (q / 8) * (128 / 2 ^ (q % 8)) : Nat) : Int) := (Int.natCast_mul _ _).symm
      have er : rs m wA wB q = amt m ((wA (q / 8) * (128 / 2 ^ (q % 8)) : Nat) : Int) ((wB (q / 8) * (128 / 2 ^ (q % 8)) : Nat) : Int) := by
        unfold rs
        rw [ea, eb]
      have ef : fa m wA wB q = amt m (-((wA (q / 8) * (128 / 2 ^ (q % 8)) : Nat) : Int)) (-((wB (q / 8) * (128 / 2 ^ (q % 8)) : Nat) : Int)) := by
        unfold fa
        rw [Int.mul_neg, Int.mul_neg, ea, eb]
      rw [er, ef]
      generalize wA (q / 8) * (128 / 2 ^ (q % 8)) = ua at *
      generalize wB (q / 8) * (128 / 2 ^ (q % 8)) = ub at *
      unfold M_X12_turn
      rw [hx]
      dsimp only [Option.bind_some]
      rw [if_pos (show kI false = 0 from rfl), nI_clamp (n := q) (by omega), if_neg (nI_in2 (show q < 64 by omega) (by omega)), if_neg (nI_in2 (show q < 64 by omega) (by omega)), if_neg (nI_in2 (show q < 64 by omega) (by omega)), if_neg (nI_in2 (show q < 64 by omega) (by omega)), if_neg (nI_in2 (show q < 64 by omega) (by omega)), if_neg (nI_in2 (show q < 64 by omega) (by omega)), pa, pb, ← lZ_n ua, ← lZ_n ub]
      cases b with
      | false =>
        rw [if_pos (show kI false = 0 from rfl), if_pos (show kI false = 0 from rfl), lZ_add, lZ_add]
        refine ⟨_, _, rfl, _, _, rfl, rfl, ?_, ?_, ?_, ?_, ?_⟩
        · omega
        · omega
        · omega
        · omega
        · rw [if_neg (by decide), amt_add hm hm']
      | true =>
        rw [if_neg (show ¬ kI true = 0 by decide), if_neg (show ¬ kI true = 0 by decide), lZ_sub, lZ_sub]
        refine ⟨_, _, rfl, _, _, rfl, rfl, ?_, ?_, ?_, ?_, ?_⟩
        · omega
        · omega
        · omega
        · omega
        · rw [if_pos rfl, amt_add hm hm']
          rfl
    · rintro k9 A B x hk9 ⟨a, c, rfl, rfl, b1, b2, b3, b4, rfl⟩
      have g1 := lZ_z (z := a.tmod m)
      have hta : -2 ^ 62 ≤ a.tmod m ∧ a.tmod m < 2 ^ 62 := by
        rcases Int.lt_or_le a 0 with h | h
        · rcases tm_neg (z := a) hm h with ⟨q1, q2⟩ | ⟨q1, q2⟩
          · omega
          · have := Int.emod_nonneg a (show (m : Int) ≠ 0 by omega)
            omega
        · rw [tm_pos h]
          have := Int.emod_nonneg a (show (m : Int) ≠ 0 by omega)
          have := Int.emod_lt_of_pos a (show (0 : Int) < m by omega)
          omega
      have htc : -2 ^ 62 ≤ c.tmod m ∧ c.tmod m < 2 ^ 62 := by
        rcases Int.lt_or_le c 0 with h | h
        · rcases tm_neg (z := c) hm h with ⟨q1, q2⟩ | ⟨q1, q2⟩
          · omega
          · have := Int.emod_nonneg c (show (m : Int) ≠ 0 by omega)
            omega
        · rw [tm_pos h]
          have := Int.emod_nonneg c (show (m : Int) ≠ 0 by omega)
          have := Int.emod_lt_of_pos c (show (0 : Int) < m by omega)
          omega
      have hm0 : ¬ lN m = 0 := by rw [l_0, pk_lEQ (by omega) (by omega)]; omega
      unfold M_X12_isNothing
      rw [hx]
      dsimp only [Option.bind_some]
      rw [if_pos (show kI false = 0 from rfl), ej, if_neg (ixn hj), if_neg (ixn hj), hmo, nI_l (by omega), if_neg hm0, if_neg hm0, rem_z (by omega) (by omega) hm (by omega), rem_z (by omega) (by omega) hm (by omega)]
      by_cases ha : md a m = 0
      · rw [if_pos ((lZ_z hta.1 hta.2).mpr ((tm_md hm).mpr ha))]
        by_cases hc : md c m = 0
        · rw [if_pos ((lZ_z htc.1 htc.2).mpr ((tm_md hm).mpr hc)), if_pos ((amt_0 hm).mpr ⟨ha, hc⟩)]
        · rw [if_neg (fun h => hc ((tm_md hm).mp ((lZ_z htc.1 htc.2).mp h))), if_neg (fun h => hc ((amt_0 hm).mp h).2)]
      · rw [if_neg (fun h => ha ((tm_md hm).mp ((lZ_z hta.1 hta.2).mp h))), if_neg (fun h => ha ((amt_0 hm).mp h).1)]
end MK
