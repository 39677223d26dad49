/-! Own rows: amounts of turned places, on both sides. -/
def GP (mg : Nat → Nat → Nat) (V : Nat → Prop) (rise fall : Nat → Nat) (N : Nat) : Prop :=
  V 0 ∧ (∀ x y, V x → V y → V (mg x y)) ∧ (∀ x, V x → mg 0 x = x) ∧ (∀ x y, V x → V y → mg x y = mg y x) ∧ (∀ x y z, V x → V y → V z → mg (mg x y) z = mg x (mg y z)) ∧ (∀ q, q < N → V (rise q) ∧ V (fall q) ∧ mg (rise q) (fall q) = 0) ∧ ∀ x, V x → x < 2 ^ 60
def CI (sd : SD) (mg : Nat → Nat → Nat) (V : Nat → Prop) (rise fall : Nat → Nat) (N : Nat) (ris fal : Nat → Int64) (xr : Bool) : Prop :=
  (∀ x y, V x → V y → V_merged sd (lN x) (lN y) = some (lN (mg x y))) ∧ V_isByExclusiveOr sd = some (kI xr) ∧ (∀ q, q < N → ris q = lN (rise q) ∧ fal q = lN (fall q)) ∧ (xr = true → ∀ q, q < N → rise q = fall q)
def MI (j : Nat) (kd mo : Nat → Int32) (pA pB : Nat → Int64) (mg : Nat → Nat → Nat) (V : Nat → Prop) (rise fall : Nat → Nat) (N : Nat) (xr : Bool) (Rl : Nat → Int64 → Int64 → Nat → Prop) : Prop :=
  Rl 0 0 0 0 ∧ (∀ k A B x q (b : Bool), k < 64 → Rl k A B x → q < N → ∃ A' B', M_X12_turn (nI j) (nI q) (kI b) kd pA pB A B = some (A', B') ∧ Rl (k + 1) A' B' (mg x (if b then fall q else rise q))) ∧ (∀ k A B x, k ≤ 64 → Rl k A B x → M_X12_isNothing (nI j) kd mo A B = some (if x = 0 then 1 else 0)) ∧ M_X12_isXor (nI j) kd = some (kI xr)
theorem kI_0 (b : Bool) : kI b = 0 ↔ b = false := by cases b <;> decide
/-- what turning the first d of T comes to, v being the bits before -/
def tv (mg : Nat → Nat → Nat) (rise fall : Nat → Nat) (T : Nat → Nat) : Nat → Nat → Nat
  | 0, _ => 0
  | d + 1, v => mg (tv mg rise fall T d (v / 2)) (if v % 2 = 1 then fall (T d) else rise (T d))
section TV
variable {mg : Nat → Nat → Nat} {V : Nat → Prop} {rise fall : Nat → Nat} {N : Nat}
theorem tv_s (T : Nat → Nat) (d v : Nat) : tv mg rise fall T (d + 1) v = mg (tv mg rise fall T d (v / 2)) (if v % 2 = 1 then fall (T d) else rise (T d)) := rfl
theorem GP.rf (h : GP mg V rise fall N) {q : Nat} (hq : q < N) (P : Prop) [Decidable P] : V (if P then fall q else rise q) := by
  obtain ⟨-, -, -, -, -, h6, -⟩ := h
  split
  · exact (h6 q hq).2.1
  · exact (h6 q hq).1
theorem tv_V (h : GP mg V rise fall N) {T : Nat → Nat} : ∀ d v, (∀ i, i < d → T i < N) → V (tv mg rise fall T d v) := by
  intro d
  induction d with
  | zero => intro v _; exact h.1
  | succ d ih =>
    intro v hT
    exact h.2.1 _ _ (ih (v / 2) (fun i hi => hT i (by omega))) (h.rf (hT d (by omega)) _)
theorem tv_congr {T T' : Nat → Nat} : ∀ d v, (∀ i, i < d → T' i = T i) → tv mg rise fall T' d v = tv mg rise fall T d v := by
  intro d
  induction d with
  | zero => intro v _; rfl
  | succ d ih =>
    intro v hT
    rw [tv_s, tv_s, ih _ (fun i hi => hT i (by omega)), hT d (by omega)]
/-- all bits the other way round: the change is undone -/
theorem tv_inv (h : GP mg V rise fall N) {T : Nat → Nat} : ∀ d v, v < 2 ^ d → (∀ i, i < d → T i < N) → mg (tv mg rise fall T d v) (tv mg rise fall T d (2 ^ d - 1 - v)) = 0 := by
  intro d
  have hG := h
  obtain ⟨g0, g1, g2, g3, g4, g5, -⟩ := h
  have h := hG
  induction d with
  | zero => intro v _ _; exact g2 0 g0
  | succ d ih =>
    intro v hv hT
    have hp := Nat.two_pow_pos d
    rw [Nat.pow_succ] at hv ⊢
    have hT' : ∀ i, i < d → T i < N := fun i hi => hT i (by omega)
    have h1 := ih (v / 2) (by omega) hT'
    rw [tv_s, tv_s, show (2 ^ d * 2 - 1 - v) / 2 = 2 ^ d - 1 - v / 2 by omega]
    have hX := tv_V h d (v / 2) hT'
    have hY := tv_V h d (2 ^ d - 1 - v / 2) hT'
    have hq := hT d (by omega)
    obtain ⟨hr, hf, hrf⟩ := g5 (T d) hq
    generalize tv mg rise fall T d (v / 2) = X at *
    generalize tv mg rise fall T d (2 ^ d - 1 - v / 2) = Y at *
    have key : ∀ a b, V a → V b → mg a b = 0 → mg (mg X a) (mg Y b) = 0 := fun a b ha hb hab => by
      rw [g4 X a _ hX ha (g1 _ _ hY hb), ← g4 a Y b ha hY hb, g3 a Y ha hY, g4 Y a b hY ha hb, hab, g3 Y 0 hY g0, g2 Y hY, h1]
    rcases Nat.mod_two_eq_zero_or_one v with e | e
    · rw [if_neg (by omega), if_pos (by omega)]
      exact key _ _ hr hf hrf
    · rw [if_pos e, if_neg (by omega)]
      exact key _ _ hf hr (by rw [g3 _ _ hf hr, hrf])
theorem tv_inv0 (h : GP mg V rise fall N) {T : Nat → Nat} {d v : Nat} (hv : v < 2 ^ d) (hT : ∀ i, i < d → T i < N) (h0 : tv mg rise fall T d v = 0) : tv mg rise fall T d (2 ^ d - 1 - v) = 0 := by
  have h1 := tv_inv h d v hv hT
  rw [h0, h.2.2.1 _ (tv_V h d _ hT)] at h1
  exact h1
theorem last_iff (h : GP mg V rise fall N) {x q : Nat} (hx : V x) (hq : q < N) : (x = fall q ↔ mg x (rise q) = 0) ∧ (x = rise q ↔ mg x (fall q) = 0) := by
  obtain ⟨g0, g1, g2, g3, g4, g5, -⟩ := h
  obtain ⟨hr, hf, hrf⟩ := g5 q hq
  have hx0 : mg x 0 = x := by rw [g3 x 0 hx g0, g2 x hx]
  refine ⟨⟨fun e => by rw [e, g3 _ _ hf hr, hrf], fun e => ?_⟩, ⟨fun e => by rw [e, hrf], fun e => ?_⟩⟩
  · rw [← hx0, ← hrf, ← g4 x _ _ hx hr hf, e, g2 _ hf]
  · rw [← hx0, ← hrf, g3 _ _ hr hf, ← g4 x _ _ hx hf hr, e, g2 _ hr]
/-- the first bits before with which the turned places pass: none, or the least -/
def fvn (mg : Nat → Nat → Nat) (rise fall : Nat → Nat) (xr : Bool) (T : Nat → Nat) (k : Nat) : Prop := ∀ v, v < (if xr then 1 else 2 ^ k) → tv mg rise fall T k v ≠ 0
def fvs (mg : Nat → Nat → Nat) (rise fall : Nat → Nat) (xr : Bool) (T : Nat → Nat) (k v : Nat) : Prop := v < (if xr then 1 else 2 ^ k) ∧ tv mg rise fall T k v = 0 ∧ ∀ v', v' < v → tv mg rise fall T k v' ≠ 0
end TV
/-! the program -/
section TC
variable {mg : Nat → Nat → Nat} {V : Nat → Prop} {rise fall : Nat → Nat} {N : Nat} {sd : SD} {ris fal : Nat → Int64} {xr : Bool} {n : Nat}
theorem dbl_tot (hG : GP mg V rise fall N) (hC : CI sd mg V rise fall N ris fal xr) (hn : 1000 < n) (hN : N ≤ 64) {T : Nat → Nat} {d q : Nat} (hd : d ≤ 6) (hT : ∀ i, i < d → T i < N) (hq : q < N) (hTd : T d = q) (tot : Nat → Int64) {s : Nat} (hs : s ≤ 32) (htot : ∀ i, i < s → tot i = lN (tv mg rise fall T d i)) :
    ∃ tot', lp (fun x : (Int32 × (Nat → Int64)) => M_X4_fillTotals_b70 n (nI q) ris fal sd x.1 x.2) n (nI s - 1, tot) = some tot' ∧ ∀ i, i < 2 * s → tot' i = lN (tv mg rise fall T (d + 1) i) := by
  have hrV := fun P [Decidable P] => hG.rf hq (P := P)
  have key : ∀ r fu tot, r ≤ s → r < fu → (∀ i, i < r → tot i = lN (tv mg rise fall T d i)) → (∀ i, 2 * r ≤ i → i < 2 * s → tot i = lN (tv mg rise fall T (d + 1) i)) →
      ∃ tot', lp (fun x : (Int32 × (Nat → Int64)) => M_X4_fillTotals_b70 n (nI q) ris fal sd x.1 x.2) fu (nI r - 1, tot) = some tot' ∧ ∀ i, i < 2 * s → tot' i = lN (tv mg rise fall T (d + 1) i) := by
    intro r
    induction r with
    | zero =>
      intro fu tot _ hfu _ h2
      obtain ⟨m, rfl⟩ : ∃ m, fu = m + 1 := ⟨fu - 1, by omega⟩
      refine ⟨tot, lp_inr ?_, fun i hi => h2 i (by omega) hi⟩
      show M_X4_fillTotals_b70 n (nI q) ris fal sd (nI 0 - 1) tot = _
      unfold M_X4_fillTotals_b70
      rw [if_pos (show nI 0 - 1 < 0 by decide)]
    | succ r ih =>
      intro fu tot hr hfu h1 h2
      obtain ⟨m, rfl⟩ : ∃ m, fu = m + 1 := ⟨fu - 1, by omega⟩
      have e1 : nI (r + 1) - 1 = nI r := nI_pred r
      have hVr := tv_V hG d r hT
      have m1 := hC.1 _ _ hVr (hrV False)
      have m2 := hC.1 _ _ hVr (hrV True)
      rw [if_neg (fun h : False => h)] at m1
      rw [if_pos trivial] at m2
      have hrq := (hC.2.2.1 q hq).1
      have hfq := (hC.2.2.1 q hq).2
      have t0 : tv mg rise fall T (d + 1) (2 * r) = mg (tv mg rise fall T d r) (rise q) := by
        rw [tv_s, show 2 * r / 2 = r by omega, if_neg (by omega), hTd]
      have t1 : tv mg rise fall T (d + 1) (2 * r + 1) = mg (tv mg rise fall T d r) (fall q) := by
        rw [tv_s, show (2 * r + 1) / 2 = r by omega, if_pos (by omega), hTd]
      have step : M_X4_fillTotals_b70 n (nI q) ris fal sd (nI (r + 1) - 1) tot = some (Sum.inl (nI r - 1, vp_updL (vp_updL tot (2 * r + 1) (lN (mg (tv mg rise fall T d r) (fall q)))) (2 * r) (lN (mg (tv mg rise fall T d r) (rise q))))) := by
        unfold M_X4_fillTotals_b70
        rw [e1, if_neg (nI_pos (by omega)), if_neg (nI_in (show r < 64 by omega) (by omega)), if_neg (nI_in (show q < 64 by omega) (by omega)), nI_clamp (n := r) (by omega), nI_clamp (n := q) (by omega), h1 r (by omega), hfq, hrq, m2]
        dsimp only [Option.bind_some]
        rw [m1, i_2, pk_mul, nI_1, if_neg (nI_in (show 2 * r + 1 < 64 by omega) (by omega)), if_neg (show ¬ (nI q < 0 ∨ 64 ≤ q) by have := nI_in (show q < 64 by omega) (by omega); rw [nI_clamp (by omega)] at this; exact this), Option.bind_some, if_neg (nI_in (show 2 * r < 64 by omega) (by omega)), nI_clamp (n := 2 * r + 1) (by omega), nI_clamp (n := 2 * r) (by omega), ← Int32.sub_eq_add_neg]
      have hnew : ∀ i, i < r → (vp_updL (vp_updL tot (2 * r + 1) (lN (mg (tv mg rise fall T d r) (fall q)))) (2 * r) (lN (mg (tv mg rise fall T d r) (rise q)))) i = lN (tv mg rise fall T d i) := fun i hi => by
        rw [ul_ne _ _ (by omega), ul_ne _ _ (by omega)]
        exact h1 i (by omega)
      obtain ⟨tot', k1, k2⟩ := ih m (vp_updL (vp_updL tot (2 * r + 1) (lN (mg (tv mg rise fall T d r) (fall q)))) (2 * r) (lN (mg (tv mg rise fall T d r) (rise q)))) (by omega) (by omega) hnew (fun i hi1 hi2 => by
        by_cases e0 : i = 2 * r
        · rw [e0, ul_at, t0]
        · rw [ul_ne _ _ e0]
          by_cases e9 : i = 2 * r + 1
          · rw [e9, ul_at, t1]
          · rw [ul_ne _ _ e9]
            exact h2 i (by omega) hi2)
      exact ⟨tot', by rw [lp_inl step]; exact k1, k2⟩
  exact key s n tot (Nat.le_refl s) (by omega) htot (fun i h1 h2 => by omega)
/-- how many totals there are -/
def tsz (xr : Bool) (h : Nat) : Nat := if xr then 1 else 2 ^ (h - 1)
theorem fillTotals_n (hG : GP mg V rise fall N) (hC : CI sd mg V rise fall N ris fal xr) (hn : 1000 < n) (hN : N ≤ 64) {T : Nat → Nat} {h : Nat} (hh : h ≤ 7) (hT : ∀ i, i < h → T i < N) {tu : Nat → Int32} (htu : ∀ i, i < h → tu i = nI (T i)) (tot : Nat → Int64) :
    ∃ tot', M_X4_fillTotals n (nI h) ris fal tu tot sd = some (nI (tsz xr h), tot') ∧ ∀ i, i < tsz xr h → tot' i = lN (tv mg rise fall T h i) := by
  unfold M_X4_fillTotals
  obtain ⟨⟨r0, r1⟩, h1, h2, h3⟩ := lp_run (f := fun x : (Int32 × Int32 × (Nat → Int64)) => M_X4_fillTotals_b12 n (nI h) ris fal tu sd x.1 x.2.1 x.2.2)
    (fun d x => x.1 = nI (tsz xr d) ∧ x.2.1 = nI d ∧ ∀ i, i < tsz xr d → x.2.2 i = lN (tv mg rise fall T d i))
    (fun r => r.1 = nI (tsz xr h) ∧ ∀ i, i < tsz xr h → r.2 i = lN (tv mg rise fall T h i)) h
    (by
      rintro d ⟨x0, x1, x2⟩ hd ⟨e0, e1, h3⟩
      replace e0 : x0 = nI (tsz xr d) := e0
      replace e1 : x1 = nI d := e1
      replace h3 : ∀ i, i < tsz xr d → x2 i = lN (tv mg rise fall T d i) := h3
      subst e0; subst e1
      left
      have hq := hT d hd
      have hT' : ∀ i, i < d → T i < N := fun i hi => hT i (by omega)
      have hrq := (hC.2.2.1 _ hq).1
      have one1 : ∀ (hx : xr = true ∨ d = 0), tsz xr (d + 1) = 1 ∧ tsz xr d = 1 := fun hx => by
        unfold tsz
        rcases hx with hx | hx
        · rw [hx]; exact ⟨rfl, rfl⟩
        · subst hx
          cases xr <;> exact ⟨rfl, rfl⟩
      have single : (xr = true ∨ d = 0) → V_merged sd (x2 0) (ris (T d)) = some (lN (tv mg rise fall T (d + 1) 0)) := fun hx => by
        have h9 := h3 0 (by rw [(one1 hx).2]; omega)
        have m1 := hC.1 _ _ (tv_V hG d 0 hT') (hG.rf hq False)
        rw [if_neg (fun h : False => h)] at m1
        rw [h9, hrq, m1]
        rfl
      show ∃ y, M_X4_fillTotals_b12 n (nI h) ris fal tu sd (nI (tsz xr d)) (nI d) x2 = some (.inl y) ∧ y.1 = nI (tsz xr (d + 1)) ∧ y.2.1 = nI (d + 1) ∧ ∀ i, i < tsz xr (d + 1) → y.2.2 i = lN (tv mg rise fall T (d + 1) i)
      unfold M_X4_fillTotals_b12
      rw [if_neg (show ¬ nI h ≤ nI d by rw [nI_leI (by omega) (by omega)]; omega), if_neg (nI_in (show d < 8 by omega) (by omega)), nI_clamp (n := d) (by omega), htu d hd, if_neg (nI_in (show T d < 64 by omega) (by omega)), nI_clamp (n := T d) (by omega), nI_1]
      have fin : (xr = true ∨ d = 0) → ∃ y, (some (Sum.inl (nI (tsz xr d), nI (d + 1), vp_updL x2 (0 : Int32).toNatClampNeg (lN (tv mg rise fall T (d + 1) 0)))) : Option ((Int32 × Int32 × (Nat → Int64)) ⊕ (Int32 × (Nat → Int64)))) = some (.inl y) ∧ y.1 = nI (tsz xr (d + 1)) ∧ y.2.1 = nI (d + 1) ∧ ∀ i, i < tsz xr (d + 1) → y.2.2 i = lN (tv mg rise fall T (d + 1) i) := fun hx => by
        refine ⟨_, rfl, ?_, rfl, fun i hi => ?_⟩
        · show nI (tsz xr d) = _
          rw [(one1 hx).1, (one1 hx).2]
        · rw [(one1 hx).1] at hi
          have : i = 0 := by omega
          subst this
          show vp_updL x2 0 _ 0 = _
          exact ul_at _ _ _
      have z0 : x2 (0 : Int32).toNatClampNeg = x2 0 := rfl
      by_cases d0 : d = 0
      · rw [if_pos (show nI d = 0 by rw [d0]; rfl), z0, single (Or.inr d0)]
        exact fin (Or.inr d0)
      · rw [if_neg (show ¬ nI d = 0 by rw [i_0, nI_eq (by omega) (by omega)]; exact d0), hC.2.1]
        dsimp only [Option.bind_some]
        cases hx : xr with
        | true =>
          rw [if_neg (show ¬ kI true = 0 by decide), z0, single (Or.inl hx)]
          have := fin (Or.inl hx)
          rw [hx] at this
          exact this
        | false =>
          rw [hx] at h3
          have hs : tsz false d = 2 ^ (d - 1) := rfl
          have hs2 : tsz false (d + 1) = 2 * 2 ^ (d - 1) := by
            show 2 ^ (d + 1 - 1) = _
            rw [← Nat.pow_succ']
            congr 1
            omega
          have h32 : 2 ^ (d - 1) ≤ 2 ^ 5 := Nat.pow_le_pow_right (by decide) (by omega)
          obtain ⟨tot', k1, k2⟩ := dbl_tot hG hC hn hN (T := T) (d := d) (q := T d) (by omega) hT' hq rfl x2 (s := 2 ^ (d - 1)) h32 h3
          rw [if_pos (show kI false = 0 from rfl), hs, k1]
          refine ⟨_, rfl, ?_, rfl, fun i hi => ?_⟩
          · show nI (2 ^ (d - 1)) * 2 = _
            rw [i_2, pk_mul, hs2, Nat.mul_comm]
          · rw [hs2] at hi
            exact k2 i hi)
    (by
      rintro ⟨x0, x1, x2⟩ ⟨e0, e1, h3⟩
      replace e1 : x1 = nI h := e1
      subst e1
      refine ⟨(x0, x2), ?_, e0, h3⟩
      show M_X4_fillTotals_b12 n (nI h) ris fal tu sd x0 (nI h) x2 = _
      unfold M_X4_fillTotals_b12
      rw [if_pos (show nI h ≤ nI h by rw [nI_leI (by omega) (by omega)]; omega)]) n 0 ((1 : Int32), (0 : Int32), vp_updL tot (0 : Int32).toNatClampNeg 0) (by omega) (by omega) ⟨by cases xr <;> rfl, rfl, fun i hi => by
        have hi' : i < 1 := by cases xr <;> exact hi
        have : i = 0 := by omega
        subst this
        show vp_updL tot 0 _ 0 = _
        exact ul_at _ _ _⟩
  replace h2 : r0 = _ := h2
  subst h2
  exact ⟨r1, lp_b h1 rfl, h3⟩
theorem bitsPass_n (hG : GP mg V rise fall N) (hC : CI sd mg V rise fall N ris fal xr) (hn : 1000 < n) (hN : N ≤ 64) {T : Nat → Nat} {h q : Nat} (hh : h ≤ 7) (hT : ∀ i, i < h → T i < N) (hq : q < N) (hTh : T h = q) {tot : Nat → Int64} (htot : ∀ i, i < tsz xr h → tot i = lN (tv mg rise fall T h i)) :
    (fvn mg rise fall xr T (h + 1) ∧ M_X4_bitsThatPass n (nI q) (nI (tsz xr h)) ris fal tot = some (-1)) ∨ (∃ v, fvs mg rise fall xr T (h + 1) v ∧ v < 2 ^ (h + 1) ∧ M_X4_bitsThatPass n (nI q) (nI (tsz xr h)) ris fal tot = some (nI v)) := by
  have hsz : tsz xr h ≤ 64 := by
    unfold tsz
    split
    · omega
    · exact (Nat.pow_le_pow_right (by decide) (show h - 1 ≤ 6 by omega) : 2 ^ (h - 1) ≤ 2 ^ 6)
  have hsz1 : tsz xr h ≤ 2 ^ h := by
    unfold tsz
    split
    · exact Nat.two_pow_pos h
    · exact Nat.pow_le_pow_right (by decide) (by omega)
  have hrq := (hC.2.2.1 q hq).1
  have hfq := (hC.2.2.1 q hq).2
  obtain ⟨hrV, hfV, -⟩ := hG.2.2.2.2.2.1 q hq
  have hB := hG.2.2.2.2.2.2
  have t0 : ∀ i, tv mg rise fall T (h + 1) (2 * i) = mg (tv mg rise fall T h i) (rise q) := fun i => by
    rw [tv_s, show 2 * i / 2 = i by omega, if_neg (by omega), hTh]
  have t1 : ∀ i, tv mg rise fall T (h + 1) (2 * i + 1) = mg (tv mg rise fall T h i) (fall q) := fun i => by
    rw [tv_s, show (2 * i + 1) / 2 = i by omega, if_pos (by omega), hTh]
  have hl := fun i => last_iff hG (x := tv mg rise fall T h i) (q := q) (tv_V hG h i hT) hq
  have hfind := lp_find (f := fun x : Int32 => M_X4_bitsThatPass_b18 n (nI (tsz xr h)) (ris q) (fal q) tot x) (fun i => nI i) (fun i => tv mg rise fall T (h + 1) (2 * i) = 0 ∨ tv mg rise fall T (h + 1) (2 * i + 1) = 0) (fun i => if tv mg rise fall T (h + 1) (2 * i) = 0 then Sum.inr (nI (2 * i)) else Sum.inr (nI (2 * i + 1))) (Sum.inl ()) (tsz xr h)
    (fun i hi hP => by
      have hVi := hB _ (tv_V hG h i hT)
      have hVr := hB _ hrV
      have hVf := hB _ hfV
      have n0 : ¬ tv mg rise fall T h i = fall q := fun e => hP (Or.inl (by rw [t0]; exact (hl i).1.mp e))
      have n1 : ¬ tv mg rise fall T h i = rise q := fun e => hP (Or.inr (by rw [t1]; exact (hl i).2.mp e))
      unfold M_X4_bitsThatPass_b18
      rw [hrq, hfq]
      simp (disch := omega) only [i_0, i_1, i_2, i_3, i_4, i_5, i_6, i_7, i_8, i_10, i_12, i_16, i_31, i_32, i_64, i_100, i_128, i_255, i_256, i_512, i_1000, i_1128, i_65535, i_65536, nI_add, pk_mul, pk_sub, nI_ltI, nI_leI, nI_eq, nI_clamp, if_pos, if_neg, ite_true, ite_false, Option.bind_some, Option.elim_some, Option.elim_none, Sum.elim_inl, Sum.elim_inr, htot, pk_lEQ, n0, n1])
    (fun i hi hP => by
      have hVi := hB _ (tv_V hG h i hT)
      have hVr := hB _ hrV
      have hVf := hB _ hfV
      unfold M_X4_bitsThatPass_b18
      rw [hrq, hfq]
      by_cases e0 : tv mg rise fall T (h + 1) (2 * i) = 0
      · have n0 : tv mg rise fall T h i = fall q := (hl i).1.mpr (by rw [← t0]; exact e0)
        rw [if_pos e0]
        simp (disch := omega) only [i_0, i_1, i_2, i_3, i_4, i_5, i_6, i_7, i_8, i_10, i_12, i_16, i_31, i_32, i_64, i_100, i_128, i_255, i_256, i_512, i_1000, i_1128, i_65535, i_65536, nI_add, pk_mul, pk_sub, nI_ltI, nI_leI, nI_eq, nI_clamp, if_pos, if_neg, ite_true, ite_false, Option.bind_some, Option.elim_some, Option.elim_none, Sum.elim_inl, Sum.elim_inr, htot, n0]
      · have e1 : tv mg rise fall T (h + 1) (2 * i + 1) = 0 := by
          rcases hP with hP | hP
          · exact absurd hP e0
          · exact hP
        have n0 : ¬ tv mg rise fall T h i = fall q := fun e => e0 (by rw [t0]; exact (hl i).1.mp e)
        have n1 : tv mg rise fall T h i = rise q := (hl i).2.mpr (by rw [← t1]; exact e1)
        rw [if_neg e0]
        have n2 : ¬ rise q = fall q := by rw [← n1]; exact n0
        simp (disch := omega) only [i_0, i_1, i_2, i_3, i_4, i_5, i_6, i_7, i_8, i_10, i_12, i_16, i_31, i_32, i_64, i_100, i_128, i_255, i_256, i_512, i_1000, i_1128, i_65535, i_65536, nI_add, pk_mul, pk_sub, nI_ltI, nI_leI, nI_eq, nI_clamp, if_pos, if_neg, ite_true, ite_false, Option.bind_some, Option.elim_some, Option.elim_none, Sum.elim_inl, Sum.elim_inr, htot, pk_lEQ, n1, n2])
    (by
      unfold M_X4_bitsThatPass_b18
      simp (disch := omega) only [i_0, i_1, i_2, i_3, i_4, i_5, i_6, i_7, i_8, i_10, i_12, i_16, i_31, i_32, i_64, i_100, i_128, i_255, i_256, i_512, i_1000, i_1128, i_65535, i_65536, nI_add, pk_mul, pk_sub, nI_ltI, nI_leI, nI_eq, nI_clamp, if_pos, if_neg, ite_true, ite_false, Option.bind_some, Option.elim_some, Option.elim_none, Sum.elim_inl, Sum.elim_inr]) n 0 (by omega) (by omega)
  unfold M_X4_bitsThatPass
  rw [if_neg (nI_in (show q < 64 by omega) (by omega)), if_neg (nI_in (show q < 64 by omega) (by omega)), nI_clamp (n := q) (by omega)]
  have hTq : ∀ i, i < h + 1 → T i < N := fun i hi => by
    by_cases e : i = h
    · rw [e, hTh]; exact hq
    · exact hT i (by omega)
  have hxr : xr = true → ∀ v, v < 2 → tv mg rise fall T (h + 1) v = mg (tv mg rise fall T h 0) (rise q) := fun hx v hv => by
    have := hC.2.2.2 hx q hq
    have h2 : v = 0 ∨ v = 1 := by omega
    rcases h2 with rfl | rfl
    · exact t0 0
    · rw [t1 0, ← this]
  rcases hfind with ⟨i, -, hi, hP, hno, hl2⟩ | ⟨hno, hl2⟩
  · right
    have hlow : ∀ v, v < 2 * i → tv mg rise fall T (h + 1) v ≠ 0 := fun v hv e => by
      have h9 := hno (v / 2) (by omega) (by omega)
      rcases Nat.mod_two_eq_zero_or_one v with e2 | e2
      · exact h9 (Or.inl (by rw [show 2 * (v / 2) = v by omega]; exact e))
      · exact h9 (Or.inr (by rw [show 2 * (v / 2) + 1 = v by omega]; exact e))
    have hp2 : 2 ^ (h + 1) = 2 * 2 ^ h := Nat.pow_succ'
    by_cases e0 : tv mg rise fall T (h + 1) (2 * i) = 0
    · rw [if_pos e0] at hl2
      refine ⟨2 * i, ⟨?_, e0, hlow⟩, by omega, lp_b hl2 rfl⟩
      cases hx : xr with
      | true =>
        rw [hx] at hi
        have : i < 1 := hi
        rw [if_pos rfl]
        omega
      | false =>
        rw [if_neg (by decide)]
        omega
    · rw [if_neg e0] at hl2
      have e1 : tv mg rise fall T (h + 1) (2 * i + 1) = 0 := by
        rcases hP with hP | hP
        · exact absurd hP e0
        · exact hP
      cases hx : xr with
      | true =>
        rw [hx] at hi
        have hi1 : i < 1 := hi
        have : i = 0 := by omega
        subst this
        exact absurd (by rw [hxr hx 0 (by omega), ← hxr hx 1 (by omega)]; exact e1) e0
      | false =>
        rw [hx] at hl2
        refine ⟨2 * i + 1, ⟨?_, e1, fun v hv => ?_⟩, by omega, lp_b hl2 rfl⟩
        · rw [if_neg (by decide)]
          omega
        · by_cases ev : v = 2 * i
          · rw [ev]; exact e0
          · exact hlow v (by omega)
  · left
    refine ⟨fun v hv e => ?_, lp_b hl2 rfl⟩
    have hlow : ∀ v, v < 2 * tsz xr h → tv mg rise fall T (h + 1) v ≠ 0 := fun v hv e => by
      have h9 := hno (v / 2) (by omega) (by omega)
      rcases Nat.mod_two_eq_zero_or_one v with e2 | e2
      · exact h9 (Or.inl (by rw [show 2 * (v / 2) = v by omega]; exact e))
      · exact h9 (Or.inr (by rw [show 2 * (v / 2) + 1 = v by omega]; exact e))
    cases hx : xr with
    | true =>
      rw [hx, if_pos rfl] at hv
      rw [hx] at hlow
      exact hlow v (by show v < 2 * 1; omega) e
    | false =>
      rw [hx, if_neg (by decide)] at hv
      rw [hx] at hlow
      rcases Nat.eq_zero_or_pos h with h0 | h0
      · subst h0
        exact hlow v (by show v < 2 * 2 ^ (0 - 1); exact hv) e
      · have hp2 : 2 ^ (h + 1) = 2 * 2 ^ h := Nat.pow_succ'
        have hp3 : 2 ^ h = 2 * 2 ^ (h - 1) := by
          rw [← Nat.pow_succ']
          congr 1
          omega
        have hts : tsz false h = 2 ^ (h - 1) := rfl
        rw [hts] at hlow
        rcases Nat.lt_or_ge v (2 ^ h) with h9 | h9
        · exact hlow v (by omega) e
        · have h8 := tv_inv0 hG (T := T) (d := h + 1) hv hTq e
          exact hlow (2 ^ (h + 1) - 1 - v) (by omega) h8
end TC
