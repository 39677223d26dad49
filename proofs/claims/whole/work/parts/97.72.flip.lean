/-! Own rows: flips and bursts, on both sides. -/
noncomputable def fvo (mg : Nat → Nat → Nat) (rise fall : Nat → Nat) (xr : Bool) (T : Nat → Nat) (k : Nat) : Option Nat := @dite _ (∃ v, fvs mg rise fall xr T k v) (Classical.propDecidable _) (fun h => some h.choose) (fun _ => none)
theorem fvo_s {mg : Nat → Nat → Nat} {rise fall : Nat → Nat} {xr : Bool} {T : Nat → Nat} {k v : Nat} (h : fvs mg rise fall xr T k v) : fvo mg rise fall xr T k = some v := by
  unfold fvo
  have hx : ∃ v, fvs mg rise fall xr T k v := ⟨v, h⟩
  rw [dif_pos hx]
  exact congrArg some (fv_uniq hx.choose_spec h)
theorem fvo_n {mg : Nat → Nat → Nat} {rise fall : Nat → Nat} {xr : Bool} {T : Nat → Nat} {k : Nat} (h : fvn mg rise fall xr T k) : fvo mg rise fall xr T k = none := by
  unfold fvo
  exact dif_neg (fun ⟨v, hv⟩ => fv_not hv h)
/-- the search over k places, m of them still to be chosen, r places being left -/
noncomputable def srch (mg : Nat → Nat → Nat) (rise fall : Nat → Nat) (xr : Bool) (N k : Nat) : Nat → Nat → (Nat → Nat) → Option ((Nat → Nat) × Nat)
  | 0, 0, T => (fvo mg rise fall xr T k).map (fun v => (T, v))
  | 0, _ + 1, T => (fvo mg rise fall xr T k).map (fun v => (T, v))
  | _ + 1, 0, _ => none
  | m + 1, r + 1, T => match srch mg rise fall xr N k m r (uset T (k - (m + 1)) (N - (r + 1))) with
    | some x => some x
    | none => srch mg rise fall xr N k (m + 1) r T
theorem srch_0 (mg : Nat → Nat → Nat) (rise fall : Nat → Nat) (xr : Bool) (N k r : Nat) (T : Nat → Nat) : srch mg rise fall xr N k 0 r T = (fvo mg rise fall xr T k).map (fun v => (T, v)) := by cases r <;> rfl
theorem srch_s (mg : Nat → Nat → Nat) (rise fall : Nat → Nat) (xr : Bool) (N k m r : Nat) (T : Nat → Nat) : srch mg rise fall xr N k (m + 1) (r + 1) T = (match srch mg rise fall xr N k m r (uset T (k - (m + 1)) (N - (r + 1))) with | some x => some x | none => srch mg rise fall xr N k (m + 1) r T) := rfl
/-- what a search leaves behind -/
def OutOK (o : Option ((Nat → Nat) × Nat)) (k nb : Nat) (ks : Int32) (b0 a0 : Nat → Int32) (res ks' : Int32) (b' a' : Nat → Int32) : Prop := match o with
  | none => res = 0 ∧ ks' = ks ∧ b' = b0 ∧ a' = a0
  | some z => res = 1 ∧ ks' = nI nb ∧ ∀ i, i < 8 → b' i = nI (kb z.1 k z.2 k i) ∧ a' i = nI (ka z.1 k z.2 k i)
theorem uset_at (T : Nat → Nat) (d q : Nat) : uset T d q d = q := if_pos rfl
theorem uset_ne (T : Nat → Nat) {d q i : Nat} (h : i ≠ d) : uset T d q i = T i := if_neg h
theorem tu_set {T : Nat → Nat} {tu : Nat → Int32} {d q N : Nat} (hq : q < N) (h : ∀ i, i < d → T i < N ∧ tu i = nI (T i)) : ∀ i, i < d + 1 → uset T d q i < N ∧ upd tu d (nI q) i = nI (uset T d q i) := by
  intro i hi
  by_cases e : i = d
  · subst e
    rw [uset_at, up_at]
    exact ⟨hq, rfl⟩
  · rw [uset_ne _ e, up_ne _ _ e]
    exact h i (by omega)
section FC
variable {mg : Nat → Nat → Nat} {V : Nat → Prop} {rise fall : Nat → Nat} {N : Nat} {sd : SD} {ris fal : Nat → Int64} {xr : Bool} {n : Nat}
/-- the last place of a flip -/
theorem lastFlip_n (hG : GP mg V rise fall N) (hC : CI sd mg V rise fall N ris fal xr) (hn : 1000 < n) {k nb : Nat} (hNb : N = 8 * nb) (hN : N ≤ 64) (hk1 : 1 ≤ k) (hk : k ≤ 3) {T : Nat → Nat} {tu : Nat → Int32} (hT : ∀ i, i < k - 1 → T i < N ∧ tu i = nI (T i)) {r : Nat} (hr : r ≤ N) (tot : Nat → Int64) (b0 a0 : Nat → Int32) (ks : Int32) :
    ∃ res tu' tot' b' a' ks', M_X4_findLastFlip n (nI k) (nI nb) (nI (N - r)) ris fal tu tot b0 a0 ks sd = some (res, tu', tot', b', a', ks') ∧ OutOK (srch mg rise fall xr N k 1 r T) k nb ks b0 a0 res ks' b' a' ∧ ∀ i, i < k - 1 → tu' i = tu i := by
  have ek : nI k - 1 = nI (k - 1) := pk_sub (b := 1) (by omega)
  have e8 : (8 : Int32) * nI nb = nI N := by rw [hNb]; exact pk_mul 8 nb
  obtain ⟨tot', t1, t2⟩ := fillTotals_n hG hC hn hN (T := T) (h := k - 1) (by omega) (fun i hi => (hT i hi).1) (fun i hi => (hT i hi).2) tot
  unfold M_X4_findLastFlip
  rw [ek, t1]
  dsimp only [Option.bind_some]
  have loop : ∀ r fu, r ≤ N → r < fu → ∃ out, lp (fun x : Int32 => M_X4_findLastFlip_b14 n (nI k) (nI nb) (nI (tsz xr (k - 1))) ris fal tu tot' b0 a0 ks x) fu (nI (N - r)) = some out ∧
      ((srch mg rise fall xr N k 1 r T = none ∧ out = Sum.inl ()) ∨ (∃ z tu' b' a', srch mg rise fall xr N k 1 r T = some z ∧ out = Sum.inr (1, tu', tot', b', a', nI nb) ∧ (∀ i, i < 8 → b' i = nI (kb z.1 k z.2 k i) ∧ a' i = nI (ka z.1 k z.2 k i)) ∧ ∀ i, i < k - 1 → tu' i = tu i)) := by
    intro r
    induction r with
    | zero =>
      intro fu _ hfu
      obtain ⟨m, rfl⟩ : ∃ m, fu = m + 1 := ⟨fu - 1, by omega⟩
      refine ⟨Sum.inl (), lp_inr ?_, Or.inl ⟨rfl, rfl⟩⟩
      unfold M_X4_findLastFlip_b14
      rw [e8, if_pos (show nI N ≤ nI (N - 0) by rw [nI_leI (by omega) (by omega)]; omega)]
    | succ r ih =>
      intro fu hr hfu
      obtain ⟨m, rfl⟩ : ∃ m, fu = m + 1 := ⟨fu - 1, by omega⟩
      have hq : N - (r + 1) < N := by omega
      have hT' := tu_set hq hT
      rw [show k - 1 + 1 = k by omega] at hT'
      have htot : ∀ i, i < tsz xr (k - 1) → tot' i = lN (tv mg rise fall (uset T (k - 1) (N - (r + 1))) (k - 1) i) := fun i hi => by
        rw [t2 i hi, tv_congr (T := T) (T' := uset T (k - 1) (N - (r + 1))) (k - 1) i (fun e he => uset_ne _ (by omega))]
      have hb := bitsPass_n hG hC hn hN (T := uset T (k - 1) (N - (r + 1))) (h := k - 1) (q := N - (r + 1)) (by omega) (fun i hi => by rw [uset_ne _ (by omega)]; exact (hT i hi).1) hq (uset_at _ _ _) htot
      rw [show k - 1 + 1 = k by omega] at hb
      rw [srch_s, srch_0, show k - (0 + 1) = k - 1 from rfl]
      rcases hb with ⟨f1, f2⟩ | ⟨v, f1, f3, f2⟩
      · obtain ⟨out, k1, k2⟩ := ih m (by omega) (by omega)
        refine ⟨out, ?_, ?_⟩
        · rw [lp_inl (y := nI (N - r)) ?_]
          · exact k1
          · unfold M_X4_findLastFlip_b14
            rw [e8, if_neg (show ¬ nI N ≤ nI (N - (r + 1)) by rw [nI_leI (by omega) (by omega)]; omega), f2]
            dsimp only [Option.bind_some]
            rw [if_pos rfl, nI_1, show N - (r + 1) + 1 = N - r by omega]
        · rw [fvo_n f1]
          exact k2
      · have hp8 : 2 ^ k ≤ 2 ^ 8 := Nat.pow_le_pow_right (by decide) (by omega)
        obtain ⟨b', a', q1, q2⟩ := keepTurned_n (n := n) (nb := nb) (k := k) (v := v) (T := uset T (k - 1) (N - (r + 1))) (tu := upd tu (k - 1) (nI (N - (r + 1)))) hn (by omega) (by omega) (fun i hi => by have := (hT' i hi).1; omega) (fun i hi => (hT' i hi).2) b0 a0 ks
        have hne : ¬ nI v = -1 := fun e => by
          have h9 := congrArg Int32.toInt e
          rw [nI_toInt (by omega)] at h9
          have : (-1 : Int32).toInt = -1 := by decide
          omega
        rw [fvo_s f1]
        refine ⟨Sum.inr (1, upd tu (k - 1) (nI (N - (r + 1))), tot', b', a', nI nb), lp_inr ?_, Or.inr ⟨_, _, _, _, rfl, rfl, q2, fun i hi => up_ne _ _ (by omega)⟩⟩
        unfold M_X4_findLastFlip_b14
        rw [e8, if_neg (show ¬ nI N ≤ nI (N - (r + 1)) by rw [nI_leI (by omega) (by omega)]; omega), f2]
        dsimp only [Option.bind_some]
        rw [if_neg hne, ek, if_neg (nI_in (show k - 1 < 8 by omega) (by omega)), nI_clamp (n := k - 1) (by omega), q1]
        rfl
  obtain ⟨out, k1, k2⟩ := loop r n hr (by omega)
  rw [k1]
  rcases k2 with ⟨k2, rfl⟩ | ⟨z, tu', b', a', k2, rfl, k3, k4⟩
  · rw [k2]
    exact ⟨_, _, _, _, _, _, rfl, ⟨rfl, rfl, rfl, rfl⟩, fun _ _ => rfl⟩
  · rw [k2]
    exact ⟨_, _, _, _, _, _, rfl, ⟨rfl, rfl, k3⟩, k4⟩
theorem flip_C (hG : GP mg V rise fall N) (hC : CI sd mg V rise fall N ris fal xr) (hn : 1000 < n) {k nb : Nat} (hNb : N = 8 * nb) (hN : N ≤ 64) (hk1 : 1 ≤ k) (hk : k ≤ 3) (b0 a0 : Nat → Int32) (ks : Int32) : ∀ m D, m + 1 ≤ k → m < D → ∀ r T tu tot, r ≤ N → (∀ i, i < k - (m + 1) → T i < N ∧ tu i = nI (T i)) →
    ∃ res tu' tot' b' a' ks', M_X4_findFlip n D (nI k) (nI nb) (nI (k - (m + 1))) (nI (N - r)) ris fal tu tot b0 a0 ks sd = some (res, tu', tot', b', a', ks') ∧ OutOK (srch mg rise fall xr N k (m + 1) r T) k nb ks b0 a0 res ks' b' a' ∧ ∀ i, i < k - (m + 1) → tu' i = tu i := by
  have ek : nI k - 1 = nI (k - 1) := pk_sub (b := 1) (by omega)
  have e8 : (8 : Int32) * nI nb = nI N := by rw [hNb]; exact pk_mul 8 nb
  intro m
  induction m with
  | zero =>
    intro D hm hD r T tu tot hr hT
    obtain ⟨D', rfl⟩ : ∃ D', D = D' + 1 := ⟨D - 1, by omega⟩
    obtain ⟨res, tu', tot', b', a', ks', h1, h2, h3⟩ := lastFlip_n hG hC hn hNb hN hk1 hk (T := T) (tu := tu) hT hr tot b0 a0 ks
    refine ⟨res, tu', tot', b', a', ks', ?_, h2, h3⟩
    show M_X4_findFlip_F n (M_X4_findFlip n D') (nI k) (nI nb) (nI (k - 1)) (nI (N - r)) ris fal tu tot b0 a0 ks sd = _
    unfold M_X4_findFlip_F
    rw [ek, if_neg (show ¬ nI (k - 1) < nI (k - 1) by rw [nI_ltI (by omega) (by omega)]; omega), h1]
    rfl
  | succ m ih =>
    intro D hm hD r T tu tot hr hT
    obtain ⟨D', rfl⟩ : ∃ D', D = D' + 1 := ⟨D - 1, by omega⟩
    have ed : k - (m + 1 + 1) + 1 = k - (m + 1) := by omega
    have loop : ∀ r tu tot fu, r ≤ N → r < fu → (∀ i, i < k - (m + 1 + 1) → T i < N ∧ tu i = nI (T i)) → ∃ out, lp (fun x : (Int32 × (Nat → Int32) × (Nat → Int64) × (Nat → Int32) × (Nat → Int32) × Int32) => M_X4_findFlip_b22 n (M_X4_findFlip n D') (nI k) (nI nb) (nI (k - (m + 1 + 1))) ris fal sd x.1 x.2.1 x.2.2.1 x.2.2.2.1 x.2.2.2.2.1 x.2.2.2.2.2) fu (nI (N - r), tu, tot, b0, a0, ks) = some out ∧
        ((srch mg rise fall xr N k (m + 1 + 1) r T = none ∧ ∃ tu' tot', out = Sum.inl (tu', tot', b0, a0, ks) ∧ ∀ i, i < k - (m + 1 + 1) → tu' i = tu i) ∨ (∃ z tu' tot' b' a', srch mg rise fall xr N k (m + 1 + 1) r T = some z ∧ out = Sum.inr (1, tu', tot', b', a', nI nb) ∧ (∀ i, i < 8 → b' i = nI (kb z.1 k z.2 k i) ∧ a' i = nI (ka z.1 k z.2 k i)) ∧ ∀ i, i < k - (m + 1 + 1) → tu' i = tu i)) := by
      intro r
      induction r with
      | zero =>
        intro tu tot fu _ hfu hT
        obtain ⟨g, rfl⟩ : ∃ g, fu = g + 1 := ⟨fu - 1, by omega⟩
        refine ⟨Sum.inl (tu, tot, b0, a0, ks), lp_inr ?_, Or.inl ⟨rfl, tu, tot, rfl, fun _ _ => rfl⟩⟩
        show M_X4_findFlip_b22 n (M_X4_findFlip n D') (nI k) (nI nb) (nI (k - (m + 1 + 1))) ris fal sd (nI (N - 0)) tu tot b0 a0 ks = _
        unfold M_X4_findFlip_b22
        rw [e8, if_pos (show nI N ≤ nI (N - 0) by rw [nI_leI (by omega) (by omega)]; omega)]
      | succ r ihr =>
        intro tu tot fu hr hfu hT
        obtain ⟨g, rfl⟩ : ∃ g, fu = g + 1 := ⟨fu - 1, by omega⟩
        have hT' := tu_set (show N - (r + 1) < N by omega) hT
        rw [ed] at hT'
        obtain ⟨res, tu', tot', b', a', ks', h1, h2, h3⟩ := ih D' (by omega) (by omega) r (uset T (k - (m + 1 + 1)) (N - (r + 1))) (upd tu (k - (m + 1 + 1)) (nI (N - (r + 1)))) tot (by omega) hT'
        have step : M_X4_findFlip_b22 n (M_X4_findFlip n D') (nI k) (nI nb) (nI (k - (m + 1 + 1))) ris fal sd (nI (N - (r + 1))) tu tot b0 a0 ks = if res = 0 then some (Sum.inl (nI (N - r), tu', tot', b', a', ks')) else some (Sum.inr (Sum.inr (1, tu', tot', b', a', ks'))) := by
          unfold M_X4_findFlip_b22
          rw [e8, if_neg (show ¬ nI N ≤ nI (N - (r + 1)) by rw [nI_leI (by omega) (by omega)]; omega), if_neg (nI_in (show k - (m + 1 + 1) < 8 by omega) (by omega)), nI_clamp (n := k - (m + 1 + 1)) (by omega), nI_1, nI_1, ed, show N - (r + 1) + 1 = N - r by omega, h1]
          rfl
        have hpre : ∀ i, i < k - (m + 1 + 1) → tu' i = tu i := fun i hi => by rw [h3 i (by omega), up_ne _ _ (by omega)]
        rw [srch_s]
        cases hs : srch mg rise fall xr N k (m + 1) r (uset T (k - (m + 1 + 1)) (N - (r + 1))) with
        | none =>
          rw [hs] at h2
          obtain ⟨rfl, rfl, rfl, rfl⟩ := h2
          rw [if_pos z_eq] at step
          obtain ⟨out, k1, k2⟩ := ihr tu' tot' g (by omega) (by omega) (fun i hi => by rw [hpre i hi]; exact hT i hi)
          refine ⟨out, by rw [lp_inl (y := (nI (N - r), tu', tot', b', a', ks')) step]; exact k1, ?_⟩
          rcases k2 with ⟨k2, tu2, tot2, k3, k4⟩ | ⟨z, tu2, tot2, b2, a2, k2, k3, k4, k5⟩
          · exact Or.inl ⟨k2, tu2, tot2, k3, fun i hi => by rw [k4 i hi, hpre i hi]⟩
          · exact Or.inr ⟨z, tu2, tot2, b2, a2, k2, k3, k4, fun i hi => by rw [k5 i hi, hpre i hi]⟩
        | some z =>
          rw [hs] at h2
          obtain ⟨rfl, rfl, h4⟩ := h2
          rw [if_neg one_ne] at step
          exact ⟨_, lp_inr step, Or.inr ⟨z, tu', tot', b', a', rfl, rfl, h4, hpre⟩⟩
    obtain ⟨out, k1, k2⟩ := loop r tu tot n hr (by omega) hT
    have hF : M_X4_findFlip n (D' + 1) (nI k) (nI nb) (nI (k - (m + 1 + 1))) (nI (N - r)) ris fal tu tot b0 a0 ks sd = (some out).bind (Sum.elim (fun o7 => some (0, o7.1, o7.2.1, o7.2.2.1, o7.2.2.2.1, o7.2.2.2.2)) (fun r => some r)) := by
      show M_X4_findFlip_F n (M_X4_findFlip n D') (nI k) (nI nb) (nI (k - (m + 1 + 1))) (nI (N - r)) ris fal tu tot b0 a0 ks sd = _
      unfold M_X4_findFlip_F
      rw [ek, if_pos (show nI (k - (m + 1 + 1)) < nI (k - 1) by rw [nI_ltI (by omega) (by omega)]; omega), k1]
    rw [hF]
    rcases k2 with ⟨k2, tu2, tot2, rfl, k4⟩ | ⟨z, tu2, tot2, b2, a2, k2, rfl, k4, k5⟩
    · rw [k2]
      exact ⟨_, _, _, _, _, _, rfl, ⟨rfl, rfl, rfl, rfl⟩, k4⟩
    · rw [k2]
      exact ⟨_, _, _, _, _, _, rfl, ⟨rfl, rfl, k4⟩, k5⟩
end FC
section FM
variable {mg : Nat → Nat → Nat} {V : Nat → Prop} {rise fall : Nat → Nat} {N : Nat} {xr : Bool} {n j : Nat} {kd mo : Nat → Int32} {pA pB : Nat → Int64} {Rl : Nat → Int64 → Int64 → Nat → Prop}
/-- one leaf of the reference's search -/
theorem leaf_M (hM : MI j kd mo pA pB mg V rise fall N xr Rl) (hn : 1000 < n) (hN : N ≤ 64) {T : Nat → Nat} {k nb : Nat} {tu : Nat → Int32} (hk : k ≤ 8) (hT : ∀ i, i < k → T i < N ∧ tu i = nI (T i)) (ks : Int32) (b0 a0 : Nat → Int32) (A0 B0 : Int64) (r : Nat) :
    ∃ res ks' b' a' A B, M_X12_passesTurned n (nI j) (nI nb) kd mo ks b0 a0 pA pB tu (nI k) A0 B0 = some (res, ks', b', a', A, B) ∧ OutOK (srch mg rise fall xr N k 0 r T) k nb ks b0 a0 res ks' b' a' := by
  rw [srch_0]
  rcases passesT_n (n := n) (nb := nb) hM hn hN hk (fun i hi => (hT i hi).1) (fun i hi => (hT i hi).2) ks b0 a0 A0 B0 with ⟨h1, A, B, h2⟩ | ⟨v, h1, b', a', A, B, h2, h3⟩
  · rw [fvo_n h1]
    exact ⟨_, _, _, _, _, _, h2, rfl, rfl, rfl, rfl⟩
  · rw [fvo_s h1]
    exact ⟨_, _, _, _, _, _, h2, rfl, rfl, h3⟩
theorem b93_0 {k : Nat} (hk : k ≤ 2) (hN : N ≤ 64) {fu : Nat} (hfu : 0 < fu) (x3 tm : Int32) (p : Nat) (hp : p ≤ N) (ks : Int32) (b0 a0 tu : Nat → Int32) (A0 B0 : Int64) : lp (fun x : (Int32 × Int32 × (Nat → Int32) × (Nat → Int32) × (Nat → Int32) × Int64 × Int64) => M_X12_passesFlip_b93 n (nI j) (nI k) x3 (nI N) kd mo pA pB tm x.1 x.2.1 x.2.2.1 x.2.2.2.1 x.2.2.2.2.1 x.2.2.2.2.2.1 x.2.2.2.2.2.2) fu (nI p, ks, b0, a0, tu, A0, B0) = some (Sum.inl (ks, b0, a0, tu, A0, B0)) := by
  obtain ⟨m, rfl⟩ : ∃ m, fu = m + 1 := ⟨fu - 1, by omega⟩
  refine lp_inr ?_
  show M_X12_passesFlip_b93 n (nI j) (nI k) x3 (nI N) kd mo pA pB tm (nI p) ks b0 a0 tu A0 B0 = _
  unfold M_X12_passesFlip_b93
  by_cases e : N ≤ p
  · rw [if_pos ((nI_leI (by omega) (by omega)).mpr e)]
  · rw [if_neg (fun h => e ((nI_leI (by omega) (by omega)).mp h)), if_pos (show nI k ≤ 2 by rw [i_2, nI_leI (by omega) (by omega)]; exact hk)]
theorem b51_0 {k : Nat} (hk : k ≤ 1) (hN : N ≤ 64) {fu : Nat} (hfu : 0 < fu) (x3 tm : Int32) (p : Nat) (hp : p ≤ N) (ks : Int32) (b0 a0 tu : Nat → Int32) (A0 B0 : Int64) : lp (fun x : (Int32 × Int32 × (Nat → Int32) × (Nat → Int32) × (Nat → Int32) × Int64 × Int64) => M_X12_passesFlip_b51 n (nI j) (nI k) x3 (nI N) kd mo pA pB tm x.1 x.2.1 x.2.2.1 x.2.2.2.1 x.2.2.2.2.1 x.2.2.2.2.2.1 x.2.2.2.2.2.2) fu (nI p, ks, b0, a0, tu, A0, B0) = some (Sum.inl (ks, b0, a0, tu, A0, B0)) := by
  obtain ⟨m, rfl⟩ : ∃ m, fu = m + 1 := ⟨fu - 1, by omega⟩
  refine lp_inr ?_
  show M_X12_passesFlip_b51 n (nI j) (nI k) x3 (nI N) kd mo pA pB tm (nI p) ks b0 a0 tu A0 B0 = _
  unfold M_X12_passesFlip_b51
  by_cases e : N ≤ p
  · rw [if_pos ((nI_leI (by omega) (by omega)).mpr e)]
  · rw [if_neg (fun h => e ((nI_leI (by omega) (by omega)).mp h)), if_pos (show nI k ≤ 1 by rw [i_1, nI_leI (by omega) (by omega)]; exact hk)]
/-- what a loop of the reference's search says, at m places to be chosen -/
def LpM (mg : Nat → Nat → Nat) (rise fall : Nat → Nat) (xr : Bool) (N k nb m r : Nat) (T : Nat → Nat) (ks : Int32) (b0 a0 tu : Nat → Int32) (out : (Int32 × (Nat → Int32) × (Nat → Int32) × (Nat → Int32) × Int64 × Int64) ⊕ (Int32 × Int32 × (Nat → Int32) × (Nat → Int32) × (Nat → Int32) × Int32 × Int64 × Int64)) : Prop :=
  (srch mg rise fall xr N k m r T = none ∧ ∃ tu' A B, out = Sum.inl (ks, b0, a0, tu', A, B) ∧ ∀ i, i < k - m → tu' i = tu i) ∨ (∃ z b' a' tu' tm A B, srch mg rise fall xr N k m r T = some z ∧ out = Sum.inr (1, nI nb, b', a', tu', tm, A, B) ∧ ∀ i, i < 8 → b' i = nI (kb z.1 k z.2 k i) ∧ a' i = nI (ka z.1 k z.2 k i))
/-- a loop of that search, its body's work on one place given -/
theorem loopM {k nb m : Nat} (hN : N ≤ 64) (hm : m + 1 ≤ k) (hk : k ≤ 3) {T : Nat → Nat} {f : (Int32 × Int32 × (Nat → Int32) × (Nat → Int32) × (Nat → Int32) × Int64 × Int64) → Option ((Int32 × Int32 × (Nat → Int32) × (Nat → Int32) × (Nat → Int32) × Int64 × Int64) ⊕ ((Int32 × (Nat → Int32) × (Nat → Int32) × (Nat → Int32) × Int64 × Int64) ⊕ (Int32 × Int32 × (Nat → Int32) × (Nat → Int32) × (Nat → Int32) × Int32 × Int64 × Int64)))} {ks : Int32} {b0 a0 : Nat → Int32}
    (hend : ∀ tu A B, f (nI N, ks, b0, a0, tu, A, B) = some (Sum.inr (Sum.inl (ks, b0, a0, tu, A, B))))
    (hbody : ∀ r tu A B, r < N → (∀ i, i < k - (m + 1) → T i < N ∧ tu i = nI (T i)) → (srch mg rise fall xr N k m r (uset T (k - (m + 1)) (N - (r + 1))) = none ∧ ∃ tu' A' B', f (nI (N - (r + 1)), ks, b0, a0, tu, A, B) = some (Sum.inl (nI (N - r), ks, b0, a0, tu', A', B')) ∧ ∀ i, i < k - (m + 1) → tu' i = tu i) ∨ (∃ z b' a' tu' tm A' B', srch mg rise fall xr N k m r (uset T (k - (m + 1)) (N - (r + 1))) = some z ∧ f (nI (N - (r + 1)), ks, b0, a0, tu, A, B) = some (Sum.inr (Sum.inr (1, nI nb, b', a', tu', tm, A', B'))) ∧ ∀ i, i < 8 → b' i = nI (kb z.1 k z.2 k i) ∧ a' i = nI (ka z.1 k z.2 k i))) :
    ∀ r tu A B fu, r ≤ N → r < fu → (∀ i, i < k - (m + 1) → T i < N ∧ tu i = nI (T i)) → ∃ out, lp f fu (nI (N - r), ks, b0, a0, tu, A, B) = some out ∧ LpM mg rise fall xr N k nb (m + 1) r T ks b0 a0 tu out := by
  intro r
  induction r with
  | zero =>
    intro tu A B fu _ hfu hT
    obtain ⟨g, rfl⟩ : ∃ g, fu = g + 1 := ⟨fu - 1, by omega⟩
    exact ⟨_, lp_inr (hend tu A B), Or.inl ⟨rfl, tu, A, B, rfl, fun _ _ => rfl⟩⟩
  | succ r ih =>
    intro tu A B fu hr hfu hT
    obtain ⟨g, rfl⟩ : ∃ g, fu = g + 1 := ⟨fu - 1, by omega⟩
    unfold LpM
    rw [srch_s]
    rcases hbody r tu A B (by omega) hT with ⟨h1, tu', A', B', h2, h3⟩ | ⟨z, b', a', tu', tm, A', B', h1, h2, h3⟩
    · obtain ⟨out, k1, k2⟩ := ih tu' A' B' g (by omega) (by omega) (fun i hi => by rw [h3 i hi]; exact hT i hi)
      refine ⟨out, by rw [lp_inl h2]; exact k1, ?_⟩
      rw [h1]
      rcases k2 with ⟨k2, tu2, A2, B2, k3, k4⟩ | k2
      · exact Or.inl ⟨k2, tu2, A2, B2, k3, fun i hi => by rw [k4 i hi, h3 i hi]⟩
      · exact Or.inr k2
    · rw [h1]
      exact ⟨_, lp_inr h2, Or.inr ⟨z, b', a', tu', tm, A', B', rfl, rfl, h3⟩⟩
theorem flip_M (hM : MI j kd mo pA pB mg V rise fall N xr Rl) (hn : 1000 < n) {k nb : Nat} (hNb : N = 8 * nb) (hN : N ≤ 64) (hk1 : 1 ≤ k) (hk : k ≤ 3) (T : Nat → Nat) (ks : Int32) (b0 a0 tu : Nat → Int32) (tm : Int32) (A0 B0 : Int64) :
    ∃ res ks' b' a' rest, M_X12_passesFlip n (nI j) (nI k) (nI nb) kd mo ks b0 a0 pA pB tu tm A0 B0 = some (res, ks', b', a', rest) ∧ OutOK (srch mg rise fall xr N k k N T) k nb ks b0 a0 res ks' b' a' := by
  have e8 : (8 : Int32) * nI nb = nI N := by rw [hNb]; exact pk_mul 8 nb
  -- level c
  have lvc : k = 3 → ∀ T r tu A B fu, r ≤ N → r < fu → (∀ i, i < 2 → T i < N ∧ tu i = nI (T i)) → ∃ out, lp (fun x : (Int32 × Int32 × (Nat → Int32) × (Nat → Int32) × (Nat → Int32) × Int64 × Int64) => M_X12_passesFlip_b93 n (nI j) (nI k) (nI nb) (nI N) kd mo pA pB (nI k) x.1 x.2.1 x.2.2.1 x.2.2.2.1 x.2.2.2.2.1 x.2.2.2.2.2.1 x.2.2.2.2.2.2) fu (nI (N - r), ks, b0, a0, tu, A, B) = some out ∧ LpM mg rise fall xr N k nb 1 r T ks b0 a0 tu out := by
    intro e3 T
    subst e3
    refine loopM (m := 0) hN (by omega) hk ?_ ?_
    · intro tu A B
      show M_X12_passesFlip_b93 n (nI j) (nI 3) (nI nb) (nI N) kd mo pA pB (nI 3) (nI N) ks b0 a0 tu A B = _
      unfold M_X12_passesFlip_b93
      rw [if_pos (show nI N ≤ nI N by rw [nI_leI (by omega) (by omega)]; omega)]
    · intro r tu A B hr hT
      obtain ⟨res, ks', b', a', A', B', h1, h2⟩ := leaf_M (n := n) (nb := nb) (k := 3) (T := uset T 2 (N - (r + 1))) (tu := upd tu 2 (nI (N - (r + 1)))) hM hn hN (by omega) (tu_set (show N - (r + 1) < N by omega) hT) ks b0 a0 A B r
      have step : M_X12_passesFlip_b93 n (nI j) (nI 3) (nI nb) (nI N) kd mo pA pB (nI 3) (nI (N - (r + 1))) ks b0 a0 tu A B = if res = 0 then some (Sum.inl (nI (N - r), ks', b', a', upd tu 2 (nI (N - (r + 1))), A', B')) else some (Sum.inr (Sum.inr (1, ks', b', a', upd tu 2 (nI (N - (r + 1))), nI 3, A', B'))) := by
        unfold M_X12_passesFlip_b93
        rw [if_neg (show ¬ nI N ≤ nI (N - (r + 1)) by rw [nI_leI (by omega) (by omega)]; omega), if_neg (show ¬ nI 3 ≤ 2 by decide), show (2 : Int32).toNatClampNeg = 2 from rfl, h1, nI_1, show N - (r + 1) + 1 = N - r by omega]
        rfl
      show (srch mg rise fall xr N 3 0 r (uset T 2 (N - (r + 1))) = none ∧ _) ∨ _
      cases hs : srch mg rise fall xr N 3 0 r (uset T 2 (N - (r + 1))) with
      | none =>
        rw [hs] at h2
        obtain ⟨rfl, rfl, rfl, rfl⟩ := h2
        rw [if_pos z_eq] at step
        exact Or.inl ⟨rfl, _, _, _, step, fun i hi => up_ne _ _ (by omega)⟩
      | some z =>
        rw [hs] at h2
        obtain ⟨rfl, rfl, h4⟩ := h2
        rw [if_neg one_ne] at step
        exact Or.inr ⟨z, b', a', _, _, A', B', rfl, step, h4⟩
  -- level b
  have lvb : 2 ≤ k → ∀ T r tu A B fu, r ≤ N → r < fu → (∀ i, i < 1 → T i < N ∧ tu i = nI (T i)) → ∃ out, lp (fun x : (Int32 × Int32 × (Nat → Int32) × (Nat → Int32) × (Nat → Int32) × Int64 × Int64) => M_X12_passesFlip_b51 n (nI j) (nI k) (nI nb) (nI N) kd mo pA pB (nI k) x.1 x.2.1 x.2.2.1 x.2.2.2.1 x.2.2.2.2.1 x.2.2.2.2.2.1 x.2.2.2.2.2.2) fu (nI (N - r), ks, b0, a0, tu, A, B) = some out ∧ LpM mg rise fall xr N k nb (k - 1) r T ks b0 a0 tu out := by
    intro e2 T
    obtain ⟨m, hm⟩ : ∃ m, k - 1 = m + 1 := ⟨k - 2, by omega⟩
    rw [hm]
    have ekm : k - (m + 1) = 1 := by omega
    have key := loopM (mg := mg) (rise := rise) (fall := fall) (xr := xr) (nb := nb) (m := m) (T := T) (ks := ks) (b0 := b0) (a0 := a0) (f := fun x : (Int32 × Int32 × (Nat → Int32) × (Nat → Int32) × (Nat → Int32) × Int64 × Int64) => M_X12_passesFlip_b51 n (nI j) (nI k) (nI nb) (nI N) kd mo pA pB (nI k) x.1 x.2.1 x.2.2.1 x.2.2.2.1 x.2.2.2.2.1 x.2.2.2.2.2.1 x.2.2.2.2.2.2) hN (show m + 1 ≤ k by omega) hk (by
      intro tu A B
      show M_X12_passesFlip_b51 n (nI j) (nI k) (nI nb) (nI N) kd mo pA pB (nI k) (nI N) ks b0 a0 tu A B = _
      unfold M_X12_passesFlip_b51
      rw [if_pos (show nI N ≤ nI N by rw [nI_leI (by omega) (by omega)]; omega)]) (by
      intro r tu A B hr hT
      rw [ekm] at hT ⊢
      have hT' := tu_set (show N - (r + 1) < N by omega) hT
      show (_ ∧ ∃ tu' A' B', M_X12_passesFlip_b51 n (nI j) (nI k) (nI nb) (nI N) kd mo pA pB (nI k) (nI (N - (r + 1))) ks b0 a0 tu A B = _ ∧ _) ∨ (∃ z b' a' tu' tm A' B', _ ∧ M_X12_passesFlip_b51 n (nI j) (nI k) (nI nb) (nI N) kd mo pA pB (nI k) (nI (N - (r + 1))) ks b0 a0 tu A B = _ ∧ _)
      unfold M_X12_passesFlip_b51
      rw [if_neg (show ¬ nI N ≤ nI (N - (r + 1)) by rw [nI_leI (by omega) (by omega)]; omega), if_neg (show ¬ nI k ≤ 1 by rw [i_1, nI_leI (by omega) (by omega)]; omega), show (1 : Int32).toNatClampNeg = 1 from rfl, nI_1, show N - (r + 1) + 1 = N - r by omega]
      by_cases ek2 : k = 2
      · subst ek2
        obtain rfl : m = 0 := by omega
        obtain ⟨res, ks', b', a', A', B', h1, h2⟩ := leaf_M (n := n) (nb := nb) (k := 2) (T := uset T 1 (N - (r + 1))) (tu := upd tu 1 (nI (N - (r + 1)))) hM hn hN (by omega) hT' ks b0 a0 A B r
        rw [if_pos (show nI 2 = 2 from rfl), h1]
        dsimp only [Option.bind_some]
        cases hs : srch mg rise fall xr N 2 0 r (uset T 1 (N - (r + 1))) with
        | none =>
          rw [hs] at h2
          obtain ⟨rfl, rfl, rfl, rfl⟩ := h2
          rw [if_pos z_eq, b93_0 (by omega) hN (by omega) _ _ _ (by omega)]
          exact Or.inl ⟨rfl, _, _, _, rfl, fun i hi => up_ne _ _ (by omega)⟩
        | some z =>
          rw [hs] at h2
          obtain ⟨rfl, rfl, h4⟩ := h2
          rw [if_neg one_ne]
          exact Or.inr ⟨z, b', a', _, _, A', B', rfl, rfl, h4⟩
      · obtain rfl : k = 3 := by omega
        obtain rfl : m = 1 := by omega
        obtain ⟨out, k1, k2⟩ := lvc rfl (uset T 1 (N - (r + 1))) r (upd tu 1 (nI (N - (r + 1)))) A B n (by omega) (by omega) hT'
        rw [if_neg (show ¬ nI 3 = 2 by decide), k1]
        dsimp only [Option.bind_some]
        rcases k2 with ⟨k2, tu2, A2, B2, rfl, k4⟩ | ⟨z, b', a', tu2, tm2, A2, B2, k2, rfl, k4⟩
        · exact Or.inl ⟨k2, tu2, A2, B2, rfl, fun i hi => by rw [k4 i (by omega), up_ne _ _ (by omega)]⟩
        · exact Or.inr ⟨z, b', a', tu2, tm2, A2, B2, k2, rfl, k4⟩)
    rw [ekm] at key
    exact key
  -- level a
  obtain ⟨m, hm⟩ : ∃ m, k = m + 1 := ⟨k - 1, by omega⟩
  have ekm : k - (m + 1) = 0 := by omega
  have key := loopM (mg := mg) (rise := rise) (fall := fall) (xr := xr) (nb := nb) (m := m) (T := T) (ks := ks) (b0 := b0) (a0 := a0) (f := fun x : (Int32 × Int32 × (Nat → Int32) × (Nat → Int32) × (Nat → Int32) × Int64 × Int64) => M_X12_passesFlip_b14 n (nI j) (nI k) (nI nb) (nI N) kd mo pA pB (nI k) x.1 x.2.1 x.2.2.1 x.2.2.2.1 x.2.2.2.2.1 x.2.2.2.2.2.1 x.2.2.2.2.2.2) hN (show m + 1 ≤ k by omega) hk (by
    intro tu A B
    show M_X12_passesFlip_b14 n (nI j) (nI k) (nI nb) (nI N) kd mo pA pB (nI k) (nI N) ks b0 a0 tu A B = _
    unfold M_X12_passesFlip_b14
    rw [if_pos (show nI N ≤ nI N by rw [nI_leI (by omega) (by omega)]; omega)]) (by
    intro r tu A B hr hT
    rw [ekm] at hT ⊢
    have hT' := tu_set (show N - (r + 1) < N by omega) hT
    show (_ ∧ ∃ tu' A' B', M_X12_passesFlip_b14 n (nI j) (nI k) (nI nb) (nI N) kd mo pA pB (nI k) (nI (N - (r + 1))) ks b0 a0 tu A B = _ ∧ _) ∨ (∃ z b' a' tu' tm A' B', _ ∧ M_X12_passesFlip_b14 n (nI j) (nI k) (nI nb) (nI N) kd mo pA pB (nI k) (nI (N - (r + 1))) ks b0 a0 tu A B = _ ∧ _)
    unfold M_X12_passesFlip_b14
    rw [if_neg (show ¬ nI N ≤ nI (N - (r + 1)) by rw [nI_leI (by omega) (by omega)]; omega), show (0 : Int32).toNatClampNeg = 0 from rfl, nI_1, show N - (r + 1) + 1 = N - r by omega]
    by_cases ek1 : k = 1
    · subst ek1
      obtain rfl : m = 0 := by omega
      obtain ⟨res, ks', b', a', A', B', h1, h2⟩ := leaf_M (n := n) (nb := nb) (k := 1) (T := uset T 0 (N - (r + 1))) (tu := upd tu 0 (nI (N - (r + 1)))) hM hn hN (by omega) hT' ks b0 a0 A B r
      rw [if_pos (show nI 1 = 1 from rfl), h1]
      dsimp only [Option.bind_some]
      cases hs : srch mg rise fall xr N 1 0 r (uset T 0 (N - (r + 1))) with
      | none =>
        rw [hs] at h2
        obtain ⟨rfl, rfl, rfl, rfl⟩ := h2
        rw [if_pos z_eq, b51_0 (by omega) hN (by omega) _ _ _ (by omega)]
        exact Or.inl ⟨rfl, _, _, _, rfl, fun i hi => by omega⟩
      | some z =>
        rw [hs] at h2
        obtain ⟨rfl, rfl, h4⟩ := h2
        rw [if_neg one_ne]
        exact Or.inr ⟨z, b', a', _, _, A', B', rfl, rfl, h4⟩
    · obtain ⟨out, k1, k2⟩ := lvb (by omega) (uset T 0 (N - (r + 1))) r (upd tu 0 (nI (N - (r + 1)))) A B n (by omega) (by omega) hT'
      rw [show k - 1 = m by omega] at k2
      rw [if_neg (show ¬ nI k = 1 by rw [i_1, nI_eq (by omega) (by omega)]; exact ek1), k1]
      dsimp only [Option.bind_some]
      rcases k2 with ⟨k2, tu2, A2, B2, rfl, k4⟩ | ⟨z, b', a', tu2, tm2, A2, B2, k2, rfl, k4⟩
      · exact Or.inl ⟨k2, tu2, A2, B2, rfl, fun i hi => by omega⟩
      · exact Or.inr ⟨z, b', a', tu2, tm2, A2, B2, k2, rfl, k4⟩)
  rw [ekm] at key
  obtain ⟨out, k1, k2⟩ := key N tu A0 B0 n (Nat.le_refl N) (by omega) (fun i hi => by omega)
  rw [Nat.sub_self] at k1
  rw [← hm] at k2
  unfold M_X12_passesFlip
  rw [e8]
  have k1' : lp (fun x : (Int32 × Int32 × (Nat → Int32) × (Nat → Int32) × (Nat → Int32) × Int64 × Int64) => M_X12_passesFlip_b14 n (nI j) (nI k) (nI nb) (nI N) kd mo pA pB (nI k) x.1 x.2.1 x.2.2.1 x.2.2.2.1 x.2.2.2.2.1 x.2.2.2.2.2.1 x.2.2.2.2.2.2) n ((0 : Int32), ks, b0, a0, tu, A0, B0) = some out := k1
  rw [k1']
  rcases k2 with ⟨k2, tu2, A2, B2, rfl, k4⟩ | ⟨z, b', a', tu2, tm2, A2, B2, k2, rfl, k4⟩
  · rw [k2]
    exact ⟨_, _, _, _, _, rfl, rfl, rfl, rfl, rfl⟩
  · rw [k2]
    exact ⟨_, _, _, _, _, rfl, rfl, rfl, k4⟩
end FM
