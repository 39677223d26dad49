/-! Own rows: reach. -/
def tseq (s : Nat → Nat) : Nat → Nat → Nat
  | 0 => fun _ => 0
  | i + 1 => tadd (tseq s i) (s i)
theorem tseq_pos (s : Nat → Nat) (x : Nat) : ∀ i, 0 < tseq s i x ↔ ∃ j, j < i ∧ s j = x := by
  intro i
  induction i with
  | zero => exact ⟨fun h => absurd h (Nat.lt_irrefl 0), fun ⟨j, hj, _⟩ => by omega⟩
  | succ i ih =>
    show 0 < tadd (tseq s i) (s i) x ↔ _
    by_cases e : x = s i
    · rw [e, tadd_at]
      exact ⟨fun _ => ⟨i, by omega, rfl⟩, fun _ => by omega⟩
    · rw [tadd_ne _ e, ih]
      constructor
      · rintro ⟨j, hj, h⟩
        exact ⟨j, by omega, h⟩
      · rintro ⟨j, hj, h⟩
        by_cases ej : j = i
        · rw [ej] at h; exact absurd h.symm e
        · exact ⟨j, by omega, h⟩
def bad (s : Nat → Nat) (t : Nat) : Prop := isP (s t) ∨ ∃ u, u < t ∧ s u = s t
def badB (s : Nat → Nat) (n : Nat) : Prop := ∃ t, 8 * n ≤ t ∧ t < 8 * n + 8 ∧ bad s t
def isR (s : Nat → Nat) (R : Nat) : Prop := R ≤ 64 ∧ (∀ n, n < R → ¬ badB s n) ∧ (R < 64 → badB s R)
theorem isR_uniq {s : Nat → Nat} {R R' : Nat} (h : isR s R) (h' : isR s R') : R = R' := by
  rcases Nat.lt_trichotomy R R' with h9 | h9 | h9
  · exact absurd (h.2.2 (by have := h'.1; omega)) (h'.2.1 R h9)
  · exact h9
  · exact absurd (h'.2.2 (by have := h.1; omega)) (h.2.1 R' h9)
theorem reach_C {n w p : Nat} (hn : 10000 < n) (hw : 3 ≤ w) (hw' : w ≤ 32) (hp : p < 2 ^ w) (sy : Nat → Int64) (pl : Int32) (fe ne : Nat → Int32) (nu : Nat → Int64) (co : Nat → Int32) (sz : Int32) :
    ∃ R r, isR (fun t => dn w p t p) R ∧ M_X3_findReach n (nI w) (lN p) sy pl fe ne nu co sz = some (nI R, r) := by
  have hq := pow_le hw'
  obtain ⟨f, hl1, hl2⟩ := load_n (n := 64) (l := 0) hn (by omega) hw hw' hp (by omega) sy pl
  obtain ⟨fe', hf1, hf2⟩ := forget_n (n := n) (by omega) fe ne nu co sz
  have hs : ∀ i, i < 512 → f (511 - i) = lN (dn w p i p) := fun i hi => by
    rw [hl2 _ (by omega), syn_dn (by omega) (by omega) (by omega)]
    congr 2
    unfold tk
    rw [if_pos rfl]
    omega
  have hlt : ∀ i, dn w p i p < 2 ^ w := fun i => dn_lt hp i hp
  unfold M_X3_findReach
  have hl1' : M_X3_load n 64 (nI w) (lN p) 0 sy pl = some (f, nI 512) := hl1
  rw [hl1', Option.bind_some, hf1, Option.bind_some]
  obtain ⟨r, h1, h2⟩ := lp_run (f := fun x : (Int32 × (Nat → Int32) × (Nat → Int32) × (Nat → Int64) × (Nat → Int32) × Int32) => M_X3_findReach_b19 n f (nI 512) x.1 x.2.1 x.2.2.1 x.2.2.2.1 x.2.2.2.2.1 x.2.2.2.2.2)
    (fun i x => x.1 = nI i ∧ TI x.2.1 x.2.2.1 x.2.2.2.1 x.2.2.2.2.1 x.2.2.2.2.2 (tseq (fun t => dn w p t p) i) i ∧ ∀ t, t < i → ¬ bad (fun t => dn w p t p) t)
    (fun r => (∃ y, r = Sum.inl y ∧ ∀ t, t < 512 → ¬ bad (fun t => dn w p t p) t) ∨ (∃ i y, i < 512 ∧ r = Sum.inr (nI (i / 8), y) ∧ bad (fun t => dn w p t p) i ∧ ∀ t, t < i → ¬ bad (fun t => dn w p t p) t)) 512
    (by
      rintro i ⟨x1, x2, x3, x4, x5, x6⟩ hi ⟨rfl, hT, hnb⟩
      replace hT : TI x2 x3 x4 x5 x6 (tseq (fun t => dn w p t p) i) i := hT
      have hli := hlt i
      have e1 : nI 512 - 1 - nI i = nI (511 - i) := by
        simp (disch := omega) only [i_0, i_1, i_2, i_3, i_4, i_5, i_6, i_7, i_8, i_10, i_12, i_16, i_31, i_32, i_64, i_100, i_128, i_255, i_256, i_512, i_1000, i_1128, i_65535, i_65536, nI_add, pk_mul, pk_sub, nI_ltI, nI_leI, nI_eq, nI_clamp, if_pos, if_neg, ite_true, ite_false, Option.bind_some, Option.elim_some, Option.elim_none, Sum.elim_inl, Sum.elim_inr]
      have ht := timesOf_n (n := n) (x := dn w p i p) (by omega) (by omega) hT
      obtain ⟨tt, ht32, hbc, hP, -⟩ := bitCount_lt (d := dn w p i p) (by omega)
      have htm : tseq (fun t => dn w p t p) i (dn w p i p) ≤ i := by
        obtain ⟨S, v, -, -, -, -, -, -, -, -, h8⟩ := hT
        exact h8 _
      show (∃ y, M_X3_findReach_b19 n f (nI 512) (nI i) x2 x3 x4 x5 x6 = some (.inl y) ∧ _) ∨ (∃ r, M_X3_findReach_b19 n f (nI 512) (nI i) x2 x3 x4 x5 x6 = some (.inr r) ∧ _)
      unfold M_X3_findReach_b19
      rw [e1, if_neg (show ¬ nI 512 ≤ nI i by rw [nI_leI (by omega) (by omega)]; omega), if_neg (nI_in (show 511 - i < 512 by omega) (by omega)), nI_clamp (show 511 - i < 2 ^ 31 by omega), hs i hi, hbc, ht]
      by_cases hp9 : isP (dn w p i p)
      · right
        rw [if_pos (show nI tt < 2 by rw [i_2, nI_ltI (by omega) (by omega)]; exact hP.mpr hp9), x_div8 (by omega)]
        exact ⟨_, rfl, Or.inr ⟨i, _, hi, rfl, Or.inl hp9, hnb⟩⟩
      · rw [if_neg (show ¬ nI tt < 2 by rw [i_2, nI_ltI (by omega) (by omega)]; exact fun h => hp9 (hP.mp h)), Option.bind_some]
        by_cases h0 : 0 < tseq (fun t => dn w p t p) i (dn w p i p)
        · right
          rw [if_neg (show ¬ nI (tseq (fun t => dn w p t p) i (dn w p i p)) ≤ 0 by rw [i_0, nI_leI (by omega) (by omega)]; omega), x_div8 (by omega)]
          obtain ⟨j, hj, ej⟩ := (tseq_pos _ _ i).mp h0
          exact ⟨_, rfl, Or.inr ⟨i, _, hi, rfl, Or.inr ⟨j, hj, ej⟩, hnb⟩⟩
        · left
          rw [if_pos (show nI (tseq (fun t => dn w p t p) i (dn w p i p)) ≤ 0 by rw [i_0, nI_leI (by omega) (by omega)]; omega)]
          obtain ⟨fe2, ne2, nu2, co2, sz2, hno, hT2⟩ := note_n (n := n) (x := dn w p i p) (by omega) (by omega) (by omega) hT
          rw [hno, Option.bind_some, nI_1]
          refine ⟨_, rfl, rfl, hT2, fun t ht2 => ?_⟩
          by_cases et : t = i
          · rw [et]
            rintro (h9 | ⟨u, hu, h9⟩)
            · exact hp9 h9
            · exact h0 ((tseq_pos _ _ i).mpr ⟨u, hu, h9⟩)
          · exact hnb t (by omega))
    (by
      rintro ⟨x1, x2, x3, x4, x5, x6⟩ ⟨rfl, hT, hnb⟩
      refine ⟨Sum.inl (x2, x3, x4, x5, x6), ?_, Or.inl ⟨_, rfl, hnb⟩⟩
      show M_X3_findReach_b19 n f (nI 512) (nI 512) x2 x3 x4 x5 x6 = _
      unfold M_X3_findReach_b19
      rw [if_pos (show nI 512 ≤ nI 512 by decide)]) n 0 ((0 : Int32), fe', ne, nu, co, (0 : Int32)) (by omega) (by omega) ⟨rfl, hf2, fun t ht => by omega⟩
  rcases h2 with ⟨y, rfl, hnb⟩ | ⟨i, y, hi, rfl, hb, hnb⟩
  · exact ⟨64, _, ⟨by omega, fun m hm ⟨t, h3, h4, h5⟩ => hnb t (by omega) h5, fun h => by omega⟩, lp_b h1 rfl⟩
  · exact ⟨i / 8, _, ⟨by omega, fun m hm ⟨t, h3, h4, h5⟩ => hnb t (by omega) h5, fun _ => ⟨i, by omega, by omega, hb⟩⟩, lp_b h1 rfl⟩
def tgL (g : Int32) (f : Nat → Int64) (x : Int64) : Nat → Int32
  | 0 => g
  | i + 1 => if tgL g f x i = 0 then 0 else if f i = x then 0 else 1
theorem tgL_0 (f : Nat → Int64) (x : Int64) (k : Nat) : tgL 0 f x k = 0 := by
  induction k with
  | zero => rfl
  | succ k ih => show (if tgL 0 f x k = 0 then 0 else _) = _; rw [if_pos ih]
theorem tgL_1 (f : Nat → Int64) (x : Int64) (k : Nat) : (tgL 1 f x k = 1 ∧ ∀ j, j < k → f j ≠ x) ∨ (tgL 1 f x k = 0 ∧ ∃ j, j < k ∧ f j = x) := by
  induction k with
  | zero => exact Or.inl ⟨rfl, fun j hj => by omega⟩
  | succ k ih =>
    rcases ih with ⟨h1, h2⟩ | ⟨h1, j, h2, h3⟩
    · have e1 : tgL 1 f x (k + 1) = if f k = x then 0 else 1 := by
        show (if tgL 1 f x k = 0 then 0 else if f k = x then 0 else 1) = _
        rw [h1, if_neg one_ne]
      by_cases e : f k = x
      · exact Or.inr ⟨by rw [e1, if_pos e], k, by omega, e⟩
      · refine Or.inl ⟨by rw [e1, if_neg e], fun j hj => ?_⟩
        by_cases ej : j = k
        · rw [ej]; exact e
        · exact h2 j (by omega)
    · refine Or.inr ⟨?_, j, by omega, h3⟩
      show (if tgL 1 f x k = 0 then 0 else _) = _
      rw [if_pos h1]
theorem b85_n {n a b : Nat} (hn : 10000 < n) (hab : 8 * a + b ≤ 512) (v : Int64) (f : Nat → Int64) (g : Int32) :
    lp (fun y : (Int32 × Int32) => M_X12_reach_b85 n (nI a) (nI b) v f y.1 y.2) n (g, (0 : Int32)) = some (tgL g f v (8 * a + b)) := by
  refine lp_seq (f := fun y : (Int32 × Int32) => M_X12_reach_b85 n (nI a) (nI b) v f y.1 y.2) (fun i => (tgL g f v i, nI i)) (N := 8 * a + b) ?_ n 0 (by omega) (by omega) ?_
  · unfold M_X12_reach_b85
    simp (disch := omega) only [i_0, i_1, i_2, i_3, i_4, i_5, i_6, i_7, i_8, i_10, i_12, i_16, i_31, i_32, i_64, i_100, i_128, i_255, i_256, i_512, i_1000, i_1128, i_65535, i_65536, nI_add, pk_mul, pk_sub, nI_ltI, nI_leI, nI_eq, nI_clamp, if_pos, if_neg, ite_true, ite_false, Option.bind_some, Option.elim_some, Option.elim_none, Sum.elim_inl, Sum.elim_inr]
  · intro i _ hi
    unfold M_X12_reach_b85
    show _ = some (Sum.inl ((if tgL g f v i = 0 then 0 else if f i = v then 0 else 1), _))
    by_cases h : tgL g f v i = 0
    · simp (disch := omega) only [h, i_0, i_1, i_2, i_3, i_4, i_5, i_6, i_7, i_8, i_10, i_12, i_16, i_31, i_32, i_64, i_100, i_128, i_255, i_256, i_512, i_1000, i_1128, i_65535, i_65536, nI_add, pk_mul, pk_sub, nI_ltI, nI_leI, nI_eq, nI_clamp, if_pos, if_neg, ite_true, ite_false, Option.bind_some, Option.elim_some, Option.elim_none, Sum.elim_inl, Sum.elim_inr]
    · have h' : (tgL g f v i = nI 0) = False := eq_false h
      by_cases e : f i = v
      · simp (disch := omega) only [h', e, i_0, i_1, i_2, i_3, i_4, i_5, i_6, i_7, i_8, i_10, i_12, i_16, i_31, i_32, i_64, i_100, i_128, i_255, i_256, i_512, i_1000, i_1128, i_65535, i_65536, nI_add, pk_mul, pk_sub, nI_ltI, nI_leI, nI_eq, nI_clamp, if_pos, if_neg, ite_true, ite_false, Option.bind_some, Option.elim_some, Option.elim_none, Sum.elim_inl, Sum.elim_inr]
      · simp (disch := omega) only [h', e, i_0, i_1, i_2, i_3, i_4, i_5, i_6, i_7, i_8, i_10, i_12, i_16, i_31, i_32, i_64, i_100, i_128, i_255, i_256, i_512, i_1000, i_1128, i_65535, i_65536, nI_add, pk_mul, pk_sub, nI_ltI, nI_leI, nI_eq, nI_clamp, if_pos, if_neg, ite_true, ite_false, Option.bind_some, Option.elim_some, Option.elim_none, Sum.elim_inl, Sum.elim_inr]
/-- which share the reference's place q has -/
def rpi (l q : Nat) : Nat := 8 * (q / 8) + (7 - tk l (q % 8))
theorem tk8 {l j : Nat} (hj : j < 8) : tk l j < 8 := by
  unfold tk
  split <;> omega
theorem rpi_B {l q : Nat} : rpi l q / 8 = q / 8 := by
  have := tk8 (l := l) (j := q % 8) (by omega)
  unfold rpi
  omega
theorem rpi_rpi {l q : Nat} : rpi l (rpi l q) = q := by
  have h1 := tk8 (l := l) (j := q % 8) (by omega)
  have h2 : rpi l q % 8 = 7 - tk l (q % 8) := by unfold rpi; omega
  have h3 := rpi_B (l := l) (q := q)
  show 8 * (rpi l q / 8) + (7 - tk l (rpi l q % 8)) = q
  rw [h2, h3]
  unfold tk at *
  split <;> rename_i hl
  · rw [if_pos hl] at *
    omega
  · rw [if_neg hl] at *
    omega
section RE
variable {ro : RF} {c c2 : Int32} {kd mo bi tu : Nat → Int32} {po be fi : Nat → Int64} {lo wo wt ce : Nat → Int32}
theorem reach_B {n w p l j a : Nat} (hn : 10000 < n) (hj : j < 16) (hw : 3 ≤ w) (hw' : w ≤ 32) (hp : p < 2 ^ w) (hl : l < 2) (hbi : bi j = nI w) (hpo : po j = lN p) (hlo : lo j = nI l) (ha : a < 64) (f : Nat → Int64)
    (hf : ∀ q, q < 8 * a → f q = lN (dn w p (rpi l q) p)) (hnb : ∀ m, m < a → ¬ badB (fun t => dn w p t p) m) :
    ∃ g f', lp (fun x : (Int32 × Int32 × (Nat → Int64)) => M_X12_reach_b41 n (nI j) (nI a) bi po lo x.1 x.2.1 x.2.2) n ((1 : Int32), (0 : Int32), f) = some (g, f') ∧ ((g = 1 ∧ ¬ badB (fun t => dn w p t p) a ∧ ∀ q, q < 8 * (a + 1) → f' q = lN (dn w p (rpi l q) p)) ∨ (g = 0 ∧ badB (fun t => dn w p t p) a)) := by
  have hq := pow_le hw'
  have hlt : ∀ i, dn w p i p < 2 ^ w := fun i => dn_lt hp i hp
  obtain ⟨⟨g, f'⟩, h1, h2⟩ := lp_run (f := fun x : (Int32 × Int32 × (Nat → Int64)) => M_X12_reach_b41 n (nI j) (nI a) bi po lo x.1 x.2.1 x.2.2)
    (fun i x => x.2.1 = nI i ∧ (∀ q, q < 8 * a + i → x.2.2 q = lN (dn w p (rpi l q) p)) ∧ ((x.1 = 1 ∧ ∀ b, b < i → ¬ isP (dn w p (rpi l (8 * a + b)) p) ∧ ∀ q, q < 8 * a + b → dn w p (rpi l q) p ≠ dn w p (rpi l (8 * a + b)) p) ∨ (x.1 = 0 ∧ badB (fun t => dn w p t p) a)))
    (fun r => (∀ q, q < 8 * a + 8 → r.2 q = lN (dn w p (rpi l q) p)) ∧ ((r.1 = 1 ∧ ∀ b, b < 8 → ¬ isP (dn w p (rpi l (8 * a + b)) p) ∧ ∀ q, q < 8 * a + b → dn w p (rpi l q) p ≠ dn w p (rpi l (8 * a + b)) p) ∨ (r.1 = 0 ∧ badB (fun t => dn w p t p) a))) 8
    (by
      rintro i ⟨x1, x2, x3⟩ hi ⟨rfl, hx3, hg⟩
      left
      replace hx3 : ∀ q, q < 8 * a + i → x3 q = lN (dn w p (rpi l q) p) := hx3
      replace hg : (x1 = 1 ∧ ∀ b, b < i → ¬ isP (dn w p (rpi l (8 * a + b)) p) ∧ ∀ q, q < 8 * a + b → dn w p (rpi l q) p ≠ dn w p (rpi l (8 * a + b)) p) ∨ (x1 = 0 ∧ badB (fun t => dn w p t p) a) := hg
      have hB := rpi_B (l := l) (q := 8 * a + i)
      have hv := syndromeOf_n (bi := bi) (po := po) (lo := lo) (n := a + 1) (q := i) hn (by omega) (by omega) hj hw hw' hp hl hbi hpo hlo
      have ev : syn w p l (a + 1) i = dn w p (rpi l (8 * a + i)) p := by
        rw [syn_dn (by omega) hl (by omega)]
        have h9 := tk8 (l := l) (j := i) hi
        unfold rpi
        rw [show (8 * a + i) / 8 = a by omega, show (8 * a + i) % 8 = i by omega]
        congr 1
        omega
      rw [ev] at hv
      have hlv := hlt (rpi l (8 * a + i))
      -- what this step does
      have key : ∀ g', M_X12_reach_b41 n (nI j) (nI a) bi po lo x1 (nI i) x3 = some (Sum.inl (g', nI (i + 1), vp_updL x3 (8 * a + i) (lN (dn w p (rpi l (8 * a + i)) p)))) →
          ((g' = 1 ∧ ∀ b, b < i + 1 → ¬ isP (dn w p (rpi l (8 * a + b)) p) ∧ ∀ q, q < 8 * a + b → dn w p (rpi l q) p ≠ dn w p (rpi l (8 * a + b)) p) ∨ (g' = 0 ∧ badB (fun t => dn w p t p) a)) →
          ∃ y, M_X12_reach_b41 n (nI j) (nI a) bi po lo x1 (nI i) x3 = some (.inl y) ∧ y.2.1 = nI (i + 1) ∧ (∀ q, q < 8 * a + (i + 1) → y.2.2 q = lN (dn w p (rpi l q) p)) ∧ ((y.1 = 1 ∧ ∀ b, b < i + 1 → ¬ isP (dn w p (rpi l (8 * a + b)) p) ∧ ∀ q, q < 8 * a + b → dn w p (rpi l q) p ≠ dn w p (rpi l (8 * a + b)) p) ∨ (y.1 = 0 ∧ badB (fun t => dn w p t p) a)) := by
        intro g' hk hgg
        refine ⟨_, hk, rfl, fun q hq' => ?_, hgg⟩
        show vp_updL _ _ _ q = _
        by_cases e : q = 8 * a + i
        · rw [e, ul_at]
        · rw [ul_ne _ _ e]; exact hx3 q (by omega)
      have h8 : ¬ (8 : Int32) ≤ nI i := by rw [i_8, nI_leI (by omega) (by omega)]; omega
      have e1 : (8 : Int32) * nI a + nI i = nI (8 * a + i) := by rw [i_8, pk_mul, nI_add]
      have e2 : nI a + 1 = nI (a + 1) := nI_1 a
      rcases hg with ⟨rfl, hg⟩ | ⟨rfl, hg⟩
      · by_cases hP : isP (dn w p (rpi l (8 * a + i)) p)
        · refine key 0 ?_ (Or.inr ⟨rfl, rpi l (8 * a + i), by omega, by omega, Or.inl hP⟩)
          unfold M_X12_reach_b41
          rw [if_neg h8, e2, hv, Option.bind_some, if_neg one_ne, if_pos ((and_pred_i (by omega)).mpr hP), b85_n hn (by omega), tgL_0, Option.bind_some, e1, if_neg (nI_in (show 8 * a + i < 512 by omega) (by omega)), nI_clamp (by omega), nI_1]
        · rcases tgL_1 x3 (lN (dn w p (rpi l (8 * a + i)) p)) (8 * a + i) with ⟨t1, t2⟩ | ⟨t1, q', t2, t3⟩
          · refine key 1 ?_ (Or.inl ⟨rfl, fun b hb => ?_⟩)
            · unfold M_X12_reach_b41
              rw [if_neg h8, e2, hv, Option.bind_some, if_neg one_ne, if_neg (fun h9 => hP ((and_pred_i (by omega)).mp h9)), b85_n hn (by omega), t1, Option.bind_some, e1, if_neg (nI_in (show 8 * a + i < 512 by omega) (by omega)), nI_clamp (by omega), nI_1]
            · by_cases eb : b = i
              · rw [eb]
                refine ⟨hP, fun q hq' h9 => ?_⟩
                exact t2 q hq' (by rw [hx3 q hq', h9])
              · exact hg b (by omega)
          · refine key 0 ?_ (Or.inr ⟨rfl, ?_⟩)
            · unfold M_X12_reach_b41
              rw [if_neg h8, e2, hv, Option.bind_some, if_neg one_ne, if_neg (fun h9 => hP ((and_pred_i (by omega)).mp h9)), b85_n hn (by omega), t1, Option.bind_some, e1, if_neg (nI_in (show 8 * a + i < 512 by omega) (by omega)), nI_clamp (by omega), nI_1]
            · have hlq := hlt (rpi l q')
              rw [hx3 q' t2, pk_lEQ (by omega) (by omega)] at t3
              have hBq := rpi_B (l := l) (q := q')
              have hne : rpi l q' ≠ rpi l (8 * a + i) := fun h9 => by
                have := congrArg (rpi l) h9
                rw [rpi_rpi, rpi_rpi] at this
                omega
              rcases Nat.lt_or_ge (rpi l q') (rpi l (8 * a + i)) with h9 | h9
              · exact ⟨rpi l (8 * a + i), by omega, by omega, Or.inr ⟨rpi l q', h9, t3⟩⟩
              · exact ⟨rpi l q', by omega, by omega, Or.inr ⟨rpi l (8 * a + i), by omega, t3.symm⟩⟩
      · refine key 0 ?_ (Or.inr ⟨rfl, hg⟩)
        unfold M_X12_reach_b41
        rw [if_neg h8, e2, hv, Option.bind_some, if_pos z_eq, b85_n hn (by omega), tgL_0, Option.bind_some, e1, if_neg (nI_in (show 8 * a + i < 512 by omega) (by omega)), nI_clamp (by omega), nI_1])
    (by
      rintro ⟨x1, x2, x3⟩ ⟨rfl, hx3, hg⟩
      refine ⟨(x1, x3), ?_, hx3, hg⟩
      show M_X12_reach_b41 n (nI j) (nI a) bi po lo x1 (nI 8) x3 = _
      unfold M_X12_reach_b41
      rw [if_pos (show (8 : Int32) ≤ nI 8 by decide)]) n 0 ((1 : Int32), (0 : Int32), f) (by omega) (by omega) ⟨rfl, fun q hq' => hf q (by omega), Or.inl ⟨rfl, fun b hb => by omega⟩⟩
  refine ⟨g, f', h1, ?_⟩
  obtain ⟨h3, ⟨h4, h5⟩ | ⟨h4, h5⟩⟩ := h2
  · refine Or.inl ⟨h4, ?_, fun q hq' => h3 q (by omega)⟩
    rintro ⟨t, ht1, ht2, ht⟩
    have hBt := rpi_B (l := l) (q := t)
    have h6 := h5 (rpi l t - 8 * a) (by omega)
    rw [show 8 * a + (rpi l t - 8 * a) = rpi l t by omega, rpi_rpi] at h6
    rcases ht with ht | ⟨u, hu, hut⟩
    · exact h6.1 ht
    · have hBu := rpi_B (l := l) (q := u)
      have hne : rpi l u ≠ rpi l t := fun h9 => by
        have := congrArg (rpi l) h9
        rw [rpi_rpi, rpi_rpi] at this
        omega
      rcases Nat.lt_or_ge (rpi l u) (rpi l t) with h9 | h9
      · have := h6.2 (rpi l u) h9
        rw [rpi_rpi] at this
        exact this hut
      · have h7 := h5 (rpi l u - 8 * a) (by omega)
        rw [show 8 * a + (rpi l u - 8 * a) = rpi l u by omega, rpi_rpi] at h7
        have := h7.2 (rpi l t) (by omega)
        rw [rpi_rpi] at this
        exact this hut.symm
  · exact Or.inr ⟨h4, h5⟩
theorem reach_M {n w p l j : Nat} (hn : 10000 < n) (hj : j < 16) (hw : 3 ≤ w) (hw' : w ≤ 32) (hp : p < 2 ^ w) (hl : l < 2) (hbi : bi j = nI w) (hpo : po j = lN p) (hlo : lo j = nI l) (sy : Nat → Int64) :
    ∃ R f, isR (fun t => dn w p t p) R ∧ lp (fun x : (Int32 × Int32 × (Nat → Int64)) => M_X12_reach_b28 n (nI j) bi po lo x.1 x.2.1 x.2.2) n ((0 : Int32), (1 : Int32), sy) = some (nI R, f) := by
  obtain ⟨r, h1, R, f, h2, rfl⟩ := lp_run (f := fun x : (Int32 × Int32 × (Nat → Int64)) => M_X12_reach_b28 n (nI j) bi po lo x.1 x.2.1 x.2.2)
    (fun i x => (∃ f, x = (nI i, 1, f) ∧ i ≤ 64 ∧ (∀ m, m < i → ¬ badB (fun t => dn w p t p) m) ∧ ∀ q, q < 8 * i → f q = lN (dn w p (rpi l q) p)) ∨ (∃ m f, m ≤ 64 ∧ x = (nI m, 0, f) ∧ isR (fun t => dn w p t p) m))
    (fun r => ∃ R f, isR (fun t => dn w p t p) R ∧ r = (nI R, f)) 65
    (by
      rintro i x hi (⟨f, rfl, h64, hnb, hf⟩ | ⟨m, f, hm, rfl, hR⟩)
      · by_cases e64 : i = 64
        · right
          refine ⟨(nI i, f), ?_, i, f, ⟨by omega, hnb, fun h => by omega⟩, rfl⟩
          show M_X12_reach_b28 n (nI j) bi po lo (nI i) 1 f = _
          unfold M_X12_reach_b28
          rw [if_neg one_ne, if_pos (show (64 : Int32) ≤ nI i by rw [e64]; decide)]
        · left
          obtain ⟨g, f', k1, k2⟩ := reach_B (a := i) hn hj hw hw' hp hl hbi hpo hlo (by omega) f hf hnb
          rcases k2 with ⟨rfl, k2, k3⟩ | ⟨rfl, k2⟩
          · refine ⟨(nI (i + 1), 1, f'), ?_, Or.inl ⟨f', rfl, by omega, fun m hm => ?_, k3⟩⟩
            · show M_X12_reach_b28 n (nI j) bi po lo (nI i) 1 f = _
              unfold M_X12_reach_b28
              rw [if_neg one_ne, if_neg (show ¬ (64 : Int32) ≤ nI i by rw [i_64, nI_leI (by omega) (by omega)]; omega), k1, Option.bind_some, if_neg one_ne, nI_1]
            · by_cases em : m = i
              · rw [em]; exact k2
              · exact hnb m (by omega)
          · refine ⟨(nI i, 0, f'), ?_, Or.inr ⟨i, f', h64, rfl, h64, hnb, fun _ => k2⟩⟩
            show M_X12_reach_b28 n (nI j) bi po lo (nI i) 1 f = _
            unfold M_X12_reach_b28
            rw [if_neg one_ne, if_neg (show ¬ (64 : Int32) ≤ nI i by rw [i_64, nI_leI (by omega) (by omega)]; omega), k1, Option.bind_some, if_pos z_eq, i_0, nI_add]
            rfl
      · right
        refine ⟨(nI m, f), ?_, m, f, hR, rfl⟩
        show M_X12_reach_b28 n (nI j) bi po lo (nI m) 0 f = _
        unfold M_X12_reach_b28
        rw [if_pos z_eq])
    (by
      rintro x (⟨f, rfl, h64, hnb, hf⟩ | ⟨m, f, hm, rfl, hR⟩)
      · omega
      · refine ⟨(nI m, f), ?_, m, f, hR, rfl⟩
        show M_X12_reach_b28 n (nI j) bi po lo (nI m) 0 f = _
        unfold M_X12_reach_b28
        rw [if_pos z_eq]) n 0 ((0 : Int32), (1 : Int32), sy) (by omega) (by omega) (Or.inl ⟨sy, rfl, by omega, fun m hm => by omega, fun q hq' => by omega⟩)
  exact ⟨R, f, h2, h1⟩
theorem o_reach {n : Nat} (hn : 10000 < n) (h : I_sums ro c c2 kd mo bi tu po be fi lo wo wt ce) (x1 : Int32) (sy : Nat → Int64) (pl : Int32) (fe ne : Nat → Int32) (nu : Nat → Int64) (co : Nat → Int32) (sz : Int32) (ms : Nat → Int64) :
    ∃ r r2, M_X11_reach n x1 ro c sy pl fe ne nu co sz = some r ∧ M_X12_reach n x1 c2 kd bi po lo ms = some r2 ∧ r.1 = r2.1 := by
  unfold M_X11_reach M_X12_reach
  rcases div_at h x1 with ⟨h1, h2, h3⟩ | ⟨j, a, w, sd, k, h1, h2, h3, h4, h5, hj, rfl, hk, hk7, hk45⟩ | ⟨j, a, w', k, w, p, s, t, l, h1, h2, h3, hj, rfl, g1, g2, g3, g4, g5, g6, g7, g9, g10, g11, g12, g13, g14⟩
  · rw [h1, h2]
    exact ⟨_, _, rfl, rfl, rfl⟩
  · have hk5 : ¬ kd j = 5 := by rw [hk, i_5, nI_eq (by omega) (by omega)]; omega
    have ej : (nI j).toNatClampNeg = j := nI_clamp (by omega)
    rw [h1, h5, ej, if_neg one_ne, if_neg (ixn hj), if_neg hk5]
    exact ⟨_, _, nd1 h2 h3 _ _, rfl, rfl⟩
  · have ej : (nI j).toNatClampNeg = j := nI_clamp (by omega)
    rw [h1, h3, ej, if_neg one_ne, if_neg (ixn hj)]
    rcases g1 with rfl | rfl
    · rw [if_neg (show ¬ kd j = 5 by rw [g9]; decide)]
      exact ⟨_, _, rfl, rfl, rfl⟩
    · rw [if_pos (show kd j = 5 from g9)]
      obtain ⟨R, r, hR, hC⟩ := reach_C hn g2 g3 g4 sy pl fe ne nu co sz
      obtain ⟨R', f, hR', hM⟩ := reach_M (bi := bi) (po := po) (lo := lo) hn hj g2 g3 g4 g7 g10 g11 g14 ms
      have e := isR_uniq hR hR'
      subst e
      dsimp only [Option.bind_some, Option.elim_some]
      rw [if_pos (show (1 : Nat) = 8 ∨ (1 : Nat) = 7 ∨ (1 : Nat) = 6 ∨ (1 : Nat) = 1 ∨ (1 : Nat) = 4 by omega), if_pos (show (1 : Nat) = 1 from rfl), if_pos (show nI 5 = 5 from rfl), hC, hM]
      exact ⟨_, _, rfl, rfl, rfl⟩
end RE
