/-! Own rows: how often each number was noted. -/
theorem fill_n {n L : Nat} (hn : L < n) (hL : L < 2 ^ 30) (x : Int32) (f : Nat → Int32) : ∃ g, M_J7_fill_53178 n x f L = some g ∧ ∀ i, i < L → g i = x := by
  unfold M_J7_fill_53178
  obtain ⟨g, h1, h2⟩ := lp_run (f := fun y : (Int32 × (Nat → Int32)) => M_J7_fill_53178_b5 n x (Int32.ofNat L) L y.1 y.2) (fun i y => y.1 = nI i ∧ ∀ k, k < i → y.2 k = x) (fun g => ∀ i, i < L → g i = x) L
    (by
      rintro i ⟨y1, y2⟩ hi ⟨rfl, h⟩
      left
      refine ⟨(nI (i + 1), upd y2 i x), ?_, rfl, fun k hk => ?_⟩
      · show M_J7_fill_53178_b5 n x (Int32.ofNat L) L (nI i) y2 = _
        unfold M_J7_fill_53178_b5
        simp (disch := omega) only [i_0, i_1, i_2, i_3, i_4, i_5, i_6, i_7, i_8, i_10, i_12, i_16, i_31, i_32, i_64, i_100, i_128, i_255, i_256, i_512, i_1000, i_1128, i_65535, i_65536, nI_add, pk_mul, pk_sub, nI_ltI, nI_leI, nI_eq, nI_clamp, if_pos, if_neg, ite_true, ite_false, Option.bind_some, Option.elim_some, Option.elim_none, Sum.elim_inl, Sum.elim_inr, ofn]
      · show upd _ _ _ k = _
        by_cases e : k = i
        · rw [e, up_at]
        · rw [up_ne _ _ e]; exact h k (by omega))
    (by
      rintro ⟨y1, y2⟩ ⟨rfl, h⟩
      refine ⟨y2, ?_, h⟩
      show M_J7_fill_53178_b5 n x (Int32.ofNat L) L (nI L) y2 = _
      unfold M_J7_fill_53178_b5
      simp (disch := omega) only [i_0, i_1, i_2, i_3, i_4, i_5, i_6, i_7, i_8, i_10, i_12, i_16, i_31, i_32, i_64, i_100, i_128, i_255, i_256, i_512, i_1000, i_1128, i_65535, i_65536, nI_add, pk_mul, pk_sub, nI_ltI, nI_leI, nI_eq, nI_clamp, if_pos, if_neg, ite_true, ite_false, Option.bind_some, Option.elim_some, Option.elim_none, Sum.elim_inl, Sum.elim_inr, ofn]) n 0 ((0 : Int32), f) (by omega) (by omega) ⟨rfl, fun k hk => by omega⟩
  exact ⟨g, lp_b h1 rfl, h2⟩
theorem all_lN (y : Int64) : ∃ z, z < 2 ^ 64 ∧ y = lN z := by
  refine ⟨y.toBitVec.toNat, y.toBitVec.isLt, ?_⟩
  apply Int64.toBitVec_inj.1
  show y.toBitVec = BitVec.ofNat 64 y.toBitVec.toNat
  rw [BitVec.ofNat_toNat, BitVec.setWidth_eq]
theorem bucket_ex (y : Int64) : ∃ b, b < 512 ∧ M_X7_bucketOf y = nI b := by
  unfold M_X7_bucketOf
  obtain ⟨z, hz, e⟩ := all_lN (y * (-7046029254386353131))
  rw [e]
  have h1 : (((55 : Int32).toInt64.toUInt64 &&& Int64.toUInt64 63)) = ((lN 55).toUInt64 &&& (lN 63).toUInt64) := by decide
  rw [h1, l_ushr hz (by omega), lN_i]
  exact ⟨z / 2 ^ 55, by omega, rfl⟩
def bk (x : Nat) : Nat := (M_X7_bucketOf (lN x)).toNatClampNeg
theorem bk_n (x : Nat) : bk x < 512 ∧ M_X7_bucketOf (lN x) = nI (bk x) := by
  obtain ⟨b, hb, e⟩ := bucket_ex (lN x)
  unfold bk
  rw [e, nI_clamp (by omega)]
  exact ⟨hb, rfl⟩
def lastIn (v : Nat → Nat) (b : Nat) : Nat → Int32
  | 0 => -1
  | t + 1 => if bk (v t) = b then nI t else lastIn v b t
theorem lastIn_c (v : Nat → Nat) (b : Nat) : ∀ t, (lastIn v b t = -1 ∧ ∀ e, e < t → bk (v e) ≠ b) ∨ (∃ e, e < t ∧ lastIn v b t = nI e ∧ bk (v e) = b ∧ ∀ e', e < e' → e' < t → bk (v e') ≠ b) := by
  intro t
  induction t with
  | zero => exact Or.inl ⟨rfl, fun e he => by omega⟩
  | succ t ih =>
    by_cases h : bk (v t) = b
    · exact Or.inr ⟨t, by omega, if_pos h, h, fun e' h1 h2 => by omega⟩
    · have e1 : lastIn v b (t + 1) = lastIn v b t := if_neg h
      rw [e1]
      rcases ih with ⟨h1, h2⟩ | ⟨e, h1, h2, h3, h4⟩
      · refine Or.inl ⟨h1, fun e he => ?_⟩
        by_cases e9 : e = t
        · rw [e9]; exact h
        · exact h2 e (by omega)
      · refine Or.inr ⟨e, by omega, h2, h3, fun e' h5 h6 => ?_⟩
        by_cases e9 : e' = t
        · rw [e9]; exact h
        · exact h4 e' h5 (by omega)
theorem lastIn_congr {v v' : Nat → Nat} {b : Nat} : ∀ t, (∀ e, e < t → v' e = v e) → lastIn v' b t = lastIn v b t := by
  intro t
  induction t with
  | zero => intro _; rfl
  | succ t ih =>
    intro h
    show (if bk (v' t) = b then _ else _) = (if bk (v t) = b then _ else _)
    rw [h t (by omega), ih (fun e he => h e (by omega))]
/-- the tally: t x is how often x was noted, in m notes -/
def TI (fe ne : Nat → Int32) (nu : Nat → Int64) (co : Nat → Int32) (sz : Int32) (t : Nat → Nat) (m : Nat) : Prop :=
  ∃ (S : Nat) (v : Nat → Nat), S ≤ m ∧ S ≤ 1128 ∧ sz = nI S ∧ (∀ e, e < S → nu e = lN (v e) ∧ v e < 2 ^ 32 ∧ co e = nI (t (v e)) ∧ 0 < t (v e)) ∧ (∀ e e', e < S → e' < S → v e = v e' → e = e') ∧ (∀ x, (∀ e, e < S → v e ≠ x) → t x = 0) ∧
    (∀ b, b < 512 → fe b = lastIn v b S) ∧ (∀ e, e < S → ne e = lastIn v (bk (v e)) e) ∧ ∀ x, t x ≤ m
theorem entryOf_n {n S x : Nat} (hn : 2000 < n) (hx : x < 2 ^ 32) {fe ne : Nat → Int32} {nu : Nat → Int64} {v : Nat → Nat} (hS : S ≤ 1128) (hv : ∀ e, e < S → nu e = lN (v e) ∧ v e < 2 ^ 32) (hfe : ∀ b, b < 512 → fe b = lastIn v b S) (hne : ∀ e, e < S → ne e = lastIn v (bk (v e)) e) :
    (M_X7_entryOf n (lN x) (M_X7_bucketOf (lN x)) fe ne nu (nI S) = some (-1) ∧ ∀ e, e < S → v e ≠ x) ∨ (∃ e, e < S ∧ v e = x ∧ M_X7_entryOf n (lN x) (M_X7_bucketOf (lN x)) fe ne nu (nI S) = some (nI e)) := by
  obtain ⟨hb, eb⟩ := bk_n x
  rw [eb]
  obtain ⟨r, h1, h2⟩ := lp_run (f := fun y : (Int32 × Int32) => M_X7_entryOf_b11 n (lN x) ne nu (nI S) y.1 y.2)
    (fun i y => y.2 = nI i ∧ ∃ t, t + i ≤ S ∧ y.1 = lastIn v (bk x) t ∧ ∀ e, t ≤ e → e < S → v e ≠ x)
    (fun r => (r = Sum.inl () ∧ ∀ e, e < S → v e ≠ x) ∨ (∃ e, e < S ∧ v e = x ∧ r = Sum.inr (nI e))) S
    (by
      rintro i ⟨y1, y2⟩ hi ⟨rfl, t, ht, rfl, hno⟩
      show (∃ y, M_X7_entryOf_b11 n (lN x) ne nu (nI S) (lastIn v (bk x) t) (nI i) = some (.inl y) ∧ _) ∨ (∃ r, M_X7_entryOf_b11 n (lN x) ne nu (nI S) (lastIn v (bk x) t) (nI i) = some (.inr r) ∧ _)
      unfold M_X7_entryOf_b11
      rw [if_neg (show ¬ nI S ≤ nI i by rw [nI_leI (by omega) (by omega)]; omega)]
      rcases lastIn_c v (bk x) t with ⟨e1, e2⟩ | ⟨e, he, e1, e2, e3⟩
      · right
        rw [e1, if_pos (by decide)]
        refine ⟨_, rfl, Or.inl ⟨rfl, fun e he h => ?_⟩⟩
        rcases Nat.lt_or_ge e t with h9 | h9
        · exact e2 e h9 (by rw [h])
        · exact hno e h9 he h
      · rw [e1]
        have hve := hv e (by omega)
        have hlt := hve.2
        by_cases hvx : v e = x
        · right
          refine ⟨Sum.inr (nI e), ?_, Or.inr ⟨e, by omega, hvx, rfl⟩⟩
          simp (disch := omega) only [i_0, i_1, i_2, i_3, i_4, i_5, i_6, i_7, i_8, i_10, i_12, i_16, i_31, i_32, i_64, i_100, i_128, i_255, i_256, i_512, i_1000, i_1128, i_65535, i_65536, nI_add, pk_mul, pk_sub, nI_ltI, nI_leI, nI_eq, nI_clamp, if_pos, if_neg, ite_true, ite_false, Option.bind_some, Option.elim_some, Option.elim_none, Sum.elim_inl, Sum.elim_inr, hve.1, hvx, pk_lEQ]
        · left
          refine ⟨(ne e, nI (i + 1)), ?_, rfl, e, by omega, ?_, fun e' h5 h6 h7 => ?_⟩
          · simp (disch := omega) only [i_0, i_1, i_2, i_3, i_4, i_5, i_6, i_7, i_8, i_10, i_12, i_16, i_31, i_32, i_64, i_100, i_128, i_255, i_256, i_512, i_1000, i_1128, i_65535, i_65536, nI_add, pk_mul, pk_sub, nI_ltI, nI_leI, nI_eq, nI_clamp, if_pos, if_neg, ite_true, ite_false, Option.bind_some, Option.elim_some, Option.elim_none, Sum.elim_inl, Sum.elim_inr, hve.1, hvx, pk_lEQ]
          · show ne e = _
            rw [hne e (by omega), e2]
          · rcases Nat.lt_or_ge e' t with h9 | h9
            · by_cases ee : e' = e
              · rw [ee] at h7; exact hvx h7
              · exact e3 e' (by omega) h9 (by rw [h7])
            · exact hno e' h9 h6 h7)
    (by
      rintro ⟨y1, y2⟩ ⟨rfl, t, ht, rfl, hno⟩
      refine ⟨Sum.inl (), ?_, Or.inl ⟨rfl, fun e he => hno e (by omega) he⟩⟩
      show M_X7_entryOf_b11 n (lN x) ne nu (nI S) (lastIn v (bk x) t) (nI S) = _
      unfold M_X7_entryOf_b11
      simp (disch := omega) only [i_0, i_1, i_2, i_3, i_4, i_5, i_6, i_7, i_8, i_10, i_12, i_16, i_31, i_32, i_64, i_100, i_128, i_255, i_256, i_512, i_1000, i_1128, i_65535, i_65536, nI_add, pk_mul, pk_sub, nI_ltI, nI_leI, nI_eq, nI_clamp, if_pos, if_neg, ite_true, ite_false, Option.bind_some, Option.elim_some, Option.elim_none, Sum.elim_inl, Sum.elim_inr]) n 0 (lastIn v (bk x) S, (0 : Int32)) (by omega) (by omega) ⟨rfl, S, by omega, rfl, fun e h5 h6 => by omega⟩
  unfold M_X7_entryOf
  have hix : ¬ (nI (bk x) < 0 ∨ 512 ≤ (nI (bk x)).toNatClampNeg) := nI_in hb (by omega)
  rw [if_neg hix, nI_clamp (by omega), hfe _ hb]
  rcases h2 with ⟨rfl, h2⟩ | ⟨e, he, h2, rfl⟩
  · exact Or.inl ⟨lp_b h1 rfl, h2⟩
  · exact Or.inr ⟨e, he, h2, lp_b h1 rfl⟩
def vset (v : Nat → Nat) (S x : Nat) : Nat → Nat := fun e => if e = S then x else v e
theorem vset_at (v : Nat → Nat) (S x : Nat) : vset v S x S = x := if_pos rfl
theorem vset_ne (v : Nat → Nat) {S e : Nat} (x : Nat) (h : e ≠ S) : vset v S x e = v e := if_neg h
def tadd (t : Nat → Nat) (x : Nat) : Nat → Nat := fun y => if y = x then t y + 1 else t y
theorem tadd_at (t : Nat → Nat) (x : Nat) : tadd t x x = t x + 1 := if_pos rfl
theorem tadd_ne (t : Nat → Nat) {x y : Nat} (h : y ≠ x) : tadd t x y = t y := if_neg h
section TA
variable {fe ne : Nat → Int32} {nu : Nat → Int64} {co : Nat → Int32} {sz : Int32} {t : Nat → Nat} {m : Nat}
theorem timesOf_n {n x : Nat} (hn : 2000 < n) (hx : x < 2 ^ 32) (h : TI fe ne nu co sz t m) : M_X7_timesOf n (lN x) fe ne nu co sz = some (nI (t x)) := by
  obtain ⟨S, v, h1, h2, rfl, h3, h4, h5, h6, h7, h8⟩ := h
  unfold M_X7_timesOf
  rcases entryOf_n hn hx h2 (fun e he => ⟨(h3 e he).1, (h3 e he).2.1⟩) h6 h7 with ⟨e1, e2⟩ | ⟨e, he, e1, e2⟩
  · rw [e1, h5 x e2]
    rfl
  · rw [e2]
    simp (disch := omega) only [i_0, i_1, i_2, i_3, i_4, i_5, i_6, i_7, i_8, i_10, i_12, i_16, i_31, i_32, i_64, i_100, i_128, i_255, i_256, i_512, i_1000, i_1128, i_65535, i_65536, nI_add, pk_mul, pk_sub, nI_ltI, nI_leI, nI_eq, nI_clamp, if_pos, if_neg, ite_true, ite_false, Option.bind_some, Option.elim_some, Option.elim_none, Sum.elim_inl, Sum.elim_inr, (h3 e he).2.2.1, e1]
theorem note_n {n x : Nat} (hn : 2000 < n) (hx : x < 2 ^ 32) (hm : m < 1128) (h : TI fe ne nu co sz t m) : ∃ fe' ne' nu' co' sz', M_X7_note n (lN x) fe ne nu co sz = some (fe', ne', nu', co', sz') ∧ TI fe' ne' nu' co' sz' (tadd t x) (m + 1) := by
  obtain ⟨S, v, h1, h2, rfl, h3, h4, h5, h6, h7, h8⟩ := h
  obtain ⟨hb, eb⟩ := bk_n x
  unfold M_X7_note
  rcases entryOf_n hn hx h2 (fun e he => ⟨(h3 e he).1, (h3 e he).2.1⟩) h6 h7 with ⟨e1, e2⟩ | ⟨e, he, e1, e2⟩
  · rw [e1, eb]
    have hn1 : (-1 : Int32) < 0 := by decide
    rw [Option.bind_some, if_pos hn1]
    simp (disch := omega) only [i_0, i_1, i_2, i_3, i_4, i_5, i_6, i_7, i_8, i_10, i_12, i_16, i_31, i_32, i_64, i_100, i_128, i_255, i_256, i_512, i_1000, i_1128, i_65535, i_65536, nI_add, pk_mul, pk_sub, nI_ltI, nI_leI, nI_eq, nI_clamp, if_pos, if_neg, ite_true, ite_false, Option.bind_some, Option.elim_some, Option.elim_none, Sum.elim_inl, Sum.elim_inr]
    refine ⟨_, _, _, _, _, rfl, S + 1, vset v S x, by omega, by omega, rfl, ?_, ?_, ?_, ?_, ?_, ?_⟩
    · intro e he
      by_cases ee : e = S
      · subst ee
        rw [vset_at, ul_at, up_at, tadd_at, h5 x e2]
        exact ⟨rfl, hx, rfl, by omega⟩
      · have hv := h3 e (by omega)
        have hne := e2 e (by omega)
        rw [vset_ne _ _ ee, ul_ne _ _ ee, up_ne _ _ ee, tadd_ne _ hne]
        exact hv
    · intro e e' he he' hee
      by_cases ee : e = S
      · by_cases ee' : e' = S
        · omega
        · rw [ee, vset_at, vset_ne _ _ ee'] at hee
          exact absurd hee.symm (e2 e' (by omega))
      · by_cases ee' : e' = S
        · rw [vset_ne _ _ ee, ee', vset_at] at hee
          exact absurd hee (e2 e (by omega))
        · rw [vset_ne _ _ ee, vset_ne _ _ ee'] at hee
          exact h4 e e' (by omega) (by omega) hee
    · intro y hy
      have hyx : ¬ y = x := fun e9 => by
        have := hy S (by omega)
        rw [vset_at] at this
        exact this e9.symm
      rw [tadd_ne _ hyx]
      refine h5 y (fun e he => ?_)
      have := hy e (by omega)
      rw [vset_ne _ _ (by omega)] at this
      exact this
    · intro b hb'
      have hc : lastIn (vset v S x) b S = lastIn v b S := lastIn_congr S (fun e he => vset_ne _ _ (by omega))
      show upd fe (bk x) (nI S) b = (if bk (vset v S x S) = b then nI S else lastIn (vset v S x) b S)
      rw [vset_at, hc]
      by_cases ebb : b = bk x
      · subst ebb
        rw [up_at, if_pos rfl]
      · rw [up_ne _ _ ebb, if_neg (fun e9 => ebb e9.symm)]
        exact h6 b hb'
    · intro e he
      by_cases ee : e = S
      · subst ee
        rw [up_at, vset_at, lastIn_congr (v := v) _ (fun e' he' => vset_ne _ _ (by omega))]
        exact h6 _ hb
      · rw [up_ne _ _ ee, vset_ne _ _ ee, lastIn_congr (v := v) _ (fun e' he' => vset_ne _ _ (by omega))]
        exact h7 e (by omega)
    · intro y
      have := h8 y
      show (if y = x then t y + 1 else t y) ≤ _
      split <;> omega
  · rw [e2]
    have hv := h3 e he
    have h8x := h8 x
    simp (disch := omega) only [i_0, i_1, i_2, i_3, i_4, i_5, i_6, i_7, i_8, i_10, i_12, i_16, i_31, i_32, i_64, i_100, i_128, i_255, i_256, i_512, i_1000, i_1128, i_65535, i_65536, nI_add, pk_mul, pk_sub, nI_ltI, nI_leI, nI_eq, nI_clamp, if_pos, if_neg, ite_true, ite_false, Option.bind_some, Option.elim_some, Option.elim_none, Sum.elim_inl, Sum.elim_inr, hv.2.2.1, e1]
    refine ⟨_, _, _, _, _, rfl, S, v, by omega, h2, rfl, ?_, h4, ?_, h6, h7, ?_⟩
    · intro e' he'
      have hv' := h3 e' he'
      by_cases ee : e' = e
      · subst ee
        rw [up_at, e1, tadd_at]
        rw [e1] at hv'
        exact ⟨hv'.1, hx, rfl, by omega⟩
      · rw [up_ne _ _ ee, tadd_ne _ (fun e9 => ee (h4 e' e he' he (by rw [e9, e1])))]
        exact hv'
    · intro y hy
      have hyx : ¬ y = x := fun e9 => hy e he (by rw [e1, e9])
      rw [tadd_ne _ hyx]
      exact h5 y hy
    · intro y
      have := h8 y
      show (if y = x then t y + 1 else t y) ≤ _
      split <;> omega
end TA
theorem forget_n {n : Nat} (hn : 2000 < n) (fe ne : Nat → Int32) (nu : Nat → Int64) (co : Nat → Int32) (sz : Int32) : ∃ fe', M_X7_forget n fe sz = some (fe', 0) ∧ TI fe' ne nu co 0 (fun _ => 0) 0 := by
  unfold M_X7_forget
  obtain ⟨g, h1, h2⟩ := fill_n (n := n) (L := 512) (by omega) (by omega) (-1) fe
  rw [h1]
  exact ⟨g, rfl, 0, fun _ => 0, by omega, by omega, rfl, fun e he => by omega, fun e e' he => by omega, fun _ _ => rfl, fun b hb => h2 b hb, fun e he => by omega, fun _ => Nat.le_refl 0⟩
