/-! Own rows: bursts. -/
def fS {Z : Type} (S : Nat → Option Z) : Nat → Option Z
  | 0 => none
  | m + 1 => match fS S m with
    | some z => some z
    | none => S m
theorem fS_n {Z : Type} {S : Nat → Option Z} : ∀ M, (∀ p, p < M → S p = none) → fS S M = none := by
  intro M
  induction M with
  | zero => intro _; rfl
  | succ M ih =>
    intro h
    show (match fS S M with | some z => some z | none => S M) = none
    rw [ih (fun p hp => h p (by omega))]
    exact h M (by omega)
theorem fS_s {Z : Type} {S : Nat → Option Z} {p : Nat} {z : Z} (hz : S p = some z) (hlo : ∀ p', p' < p → S p' = none) : ∀ M, p < M → fS S M = some z := by
  intro M
  induction M with
  | zero => intro h; omega
  | succ M ih =>
    intro h
    show (match fS S M with | some z => some z | none => S M) = some z
    by_cases e : p = M
    · rw [fS_n M (fun p' hp' => hlo p' (by omega))]
      rw [← e]; exact hz
    · rw [ih (by omega)]
/-- a loop that looks for the first place at which something is found -/
theorem lp_sr {σ ρ Z : Type} {f : σ → Option (σ ⊕ ρ)} (P : Nat → σ → Prop) (S : Nat → Option Z) (Q : Z → ρ → Prop) (E : ρ → Prop) (M : Nat)
    (hend : ∀ x, P M x → ∃ r, f x = some (.inr r) ∧ E r)
    (hbody : ∀ p x, p < M → P p x → (S p = none ∧ ∃ y, f x = some (.inl y) ∧ P (p + 1) y) ∨ (∃ z r, S p = some z ∧ f x = some (.inr r) ∧ Q z r)) (n : Nat) (x : σ) (hn : M < n) (hx : P 0 x) :
    ∃ r, lp f n x = some r ∧ ((fS S M = none ∧ E r) ∨ ∃ z, fS S M = some z ∧ Q z r) := by
  refine lp_run (fun p x => P p x ∧ ∀ p', p' < p → S p' = none) (fun r => (fS S M = none ∧ E r) ∨ ∃ z, fS S M = some z ∧ Q z r) M ?_ ?_ n 0 x (by omega) (by omega) ⟨hx, fun p' hp' => by omega⟩
  · rintro p x hp ⟨h1, h2⟩
    rcases hbody p x hp h1 with ⟨h3, y, h4, h5⟩ | ⟨z, r, h3, h4, h5⟩
    · left
      refine ⟨y, h4, h5, fun p' hp' => ?_⟩
      by_cases e : p' = p
      · rw [e]; exact h3
      · exact h2 p' (by omega)
    · right
      exact ⟨r, h4, Or.inr ⟨z, fS_s h3 h2 M hp, h5⟩⟩
  · rintro x ⟨h1, h2⟩
    obtain ⟨r, h3, h4⟩ := hend x h1
    exact ⟨r, h3, Or.inl ⟨fS_n M h2, h4⟩⟩
/-- the turned places of a burst but for the last one, i places between looked at -/
def bh (p b u : Nat) : Nat → Nat × (Nat → Nat)
  | 0 => (1, fun _ => p)
  | i + 1 => if u.testBit (b - 1 - i) then ((bh p b u i).1 + 1, uset (bh p b u i).2 (bh p b u i).1 (p + 1 + i)) else bh p b u i
theorem bh_r (p b u : Nat) : ∀ i, 1 ≤ (bh p b u i).1 ∧ (bh p b u i).1 ≤ i + 1 ∧ ∀ e, e < (bh p b u i).1 → (bh p b u i).2 e ≤ p + i := by
  intro i
  induction i with
  | zero => exact ⟨Nat.le_refl 1, Nat.le_refl 1, fun e _ => Nat.le_refl p⟩
  | succ i ih =>
    obtain ⟨h1, h2, h3⟩ := ih
    show 1 ≤ (if u.testBit (b - 1 - i) then ((bh p b u i).1 + 1, uset (bh p b u i).2 (bh p b u i).1 (p + 1 + i)) else bh p b u i).1 ∧ (if u.testBit (b - 1 - i) then ((bh p b u i).1 + 1, uset (bh p b u i).2 (bh p b u i).1 (p + 1 + i)) else bh p b u i).1 ≤ i + 1 + 1 ∧ ∀ e, e < (if u.testBit (b - 1 - i) then ((bh p b u i).1 + 1, uset (bh p b u i).2 (bh p b u i).1 (p + 1 + i)) else bh p b u i).1 → (if u.testBit (b - 1 - i) then ((bh p b u i).1 + 1, uset (bh p b u i).2 (bh p b u i).1 (p + 1 + i)) else bh p b u i).2 e ≤ p + (i + 1)
    split
    · refine ⟨by show 1 ≤ _ + 1; omega, by show _ + 1 ≤ _; omega, fun e he => ?_⟩
      have he9 : e < (bh p b u i).1 + 1 := he
      show uset (bh p b u i).2 (bh p b u i).1 (p + 1 + i) e ≤ _
      by_cases ee : e = (bh p b u i).1
      · rw [ee, uset_at]; omega
      · rw [uset_ne _ ee]
        have := h3 e (by omega)
        omega
    · exact ⟨h1, by omega, fun e he => by have := h3 e he; omega⟩
/-- how many places a burst turns, and which -/
def bk9 (bits p u : Nat) : Nat := if bits = 1 then 1 else (bh p (bits - 2) u (bits - 2)).1 + 1
def bT (bits p u : Nat) : Nat → Nat := if bits = 1 then (fun _ => p) else uset (bh p (bits - 2) u (bits - 2)).2 (bh p (bits - 2) u (bits - 2)).1 (p + bits - 1)
theorem bT_r {bits p u N : Nat} (h1 : 1 ≤ bits) (h8 : bits ≤ 8) (hp : p + bits ≤ N) : 1 ≤ bk9 bits p u ∧ bk9 bits p u ≤ 8 ∧ (∀ e, e < bk9 bits p u → bT bits p u e < N) ∧ bT bits p u (bk9 bits p u - 1) = p + bits - 1 := by
  unfold bk9 bT
  by_cases e1 : bits = 1
  · rw [if_pos e1, if_pos e1]
    exact ⟨by omega, by omega, fun e _ => by show p < N; omega, by show p = _; omega⟩
  · rw [if_neg e1, if_neg e1]
    obtain ⟨g1, g2, g3⟩ := bh_r p (bits - 2) u (bits - 2)
    refine ⟨by omega, by omega, fun e he => ?_, ?_⟩
    · by_cases ee : e = (bh p (bits - 2) u (bits - 2)).1
      · rw [ee, uset_at]; omega
      · rw [uset_ne _ ee]
        have := g3 e (by omega)
        omega
    · rw [Nat.add_sub_cancel, uset_at]
noncomputable def bLeaf (mg : Nat → Nat → Nat) (rise fall : Nat → Nat) (xr : Bool) (bits p u : Nat) : Option ((Nat → Nat) × Nat × Nat) := (fvo mg rise fall xr (bT bits p u) (bk9 bits p u)).map (fun v => (bT bits p u, bk9 bits p u, v))
noncomputable def bAll (mg : Nat → Nat → Nat) (rise fall : Nat → Nat) (xr : Bool) (bits N : Nat) : Option ((Nat → Nat) × Nat × Nat) := fS (fun p => fS (fun u => bLeaf mg rise fall xr bits p u) (2 ^ (bits - 2))) (N + 1 - bits)
def OutB (o : Option ((Nat → Nat) × Nat × Nat)) (nb : Nat) (ks : Int32) (b0 a0 : Nat → Int32) (res ks' : Int32) (b' a' : Nat → Int32) : Prop := match o with
  | none => res = 0 ∧ ks' = ks ∧ b' = b0 ∧ a' = a0
  | some z => res = 1 ∧ ks' = nI nb ∧ ∀ i, i < 8 → b' i = nI (kb z.1 z.2.1 z.2.2 z.2.1 i) ∧ a' i = nI (ka z.1 z.2.1 z.2.2 z.2.1 i)
section BC
variable {mg : Nat → Nat → Nat} {V : Nat → Prop} {rise fall : Nat → Nat} {N : Nat} {sd : SD} {ris fal : Nat → Int64} {xr : Bool} {n : Nat}
theorem heads_C (hn : 1000 < n) {bits p u : Nat} (h1 : 1 ≤ bits) (h8 : bits ≤ 8) (hp : p ≤ 64) (hu : u < 2 ^ 8) (tu : Nat → Int32) :
    ∃ tu', M_X4_fillBurstHeads n (nI p) (nI bits) (nI u) tu = some (nI (bk9 bits p u - 1), tu') ∧ ∀ e, e < bk9 bits p u - 1 → tu' e = nI (bT bits p u e) := by
  have ek : nI bits - 1 = nI (bits - 1) := pk_sub (b := 1) (by omega)
  unfold M_X4_fillBurstHeads
  by_cases e1 : bits = 1
  · subst e1
    refine ⟨tu, ?_, fun e he => by unfold bk9 at he; rw [if_pos rfl] at he; omega⟩
    obtain ⟨m, rfl⟩ : ∃ m, n = m + 1 := ⟨n - 1, by omega⟩
    refine lp_b (r := ((0 : Int32), tu)) (lp_inr ?_) rfl
    show M_X4_fillBurstHeads_b6 (m + 1) (nI p) (nI 1) (nI u) 0 0 tu = _
    unfold M_X4_fillBurstHeads_b6
    rw [if_pos (show nI 1 - 1 ≤ 0 by decide)]
  · have hbk : bk9 bits p u - 1 = (bh p (bits - 2) u (bits - 2)).1 := by unfold bk9; rw [if_neg e1]; rfl
    have hbT : ∀ e, e < (bh p (bits - 2) u (bits - 2)).1 → bT bits p u e = (bh p (bits - 2) u (bits - 2)).2 e := fun e he => by
      unfold bT
      rw [if_neg e1, uset_ne _ (by omega)]
    rw [hbk]
    obtain ⟨⟨r0, r1⟩, k1, k2, k3⟩ := lp_run (f := fun x : (Int32 × Int32 × (Nat → Int32)) => M_X4_fillBurstHeads_b6 n (nI p) (nI bits) (nI u) x.1 x.2.1 x.2.2)
      (fun i x => x.2.1 = nI i ∧ ((i = 0 ∧ x.1 = 0) ∨ (1 ≤ i ∧ x.1 = nI (bh p (bits - 2) u (i - 1)).1 ∧ ∀ e, e < (bh p (bits - 2) u (i - 1)).1 → x.2.2 e = nI ((bh p (bits - 2) u (i - 1)).2 e))))
      (fun r => r.1 = nI (bh p (bits - 2) u (bits - 2)).1 ∧ ∀ e, e < (bh p (bits - 2) u (bits - 2)).1 → r.2 e = nI ((bh p (bits - 2) u (bits - 2)).2 e)) (bits - 1)
      (by
        rintro i ⟨x0, x1, x2⟩ hi ⟨e0, hx⟩
        replace e0 : x1 = nI i := e0
        subst e0
        left
        show ∃ y, M_X4_fillBurstHeads_b6 n (nI p) (nI bits) (nI u) x0 (nI i) x2 = some (.inl y) ∧ _
        unfold M_X4_fillBurstHeads_b6
        rw [ek, if_neg (show ¬ nI (bits - 1) ≤ nI i by rw [nI_leI (by omega) (by omega)]; omega), nI_add, nI_1]
        rcases hx with ⟨rfl, hx0⟩ | ⟨hi1, hx0, hx2⟩
        · replace hx0 : x0 = 0 := hx0
          subst hx0
          rw [if_pos (show nI 0 = 0 from rfl), if_neg (show ¬ ((0 : Int32) < 0 ∨ 8 ≤ (0 : Int32).toNatClampNeg) by decide)]
          refine ⟨_, rfl, rfl, Or.inr ⟨Nat.le_refl 1, rfl, fun e he => ?_⟩⟩
          have he1 : e < 1 := he
          have : e = 0 := by omega
          subst this
          show upd x2 0 (nI (p + 0)) 0 = nI p
          exact up_at _ _ _
        · replace hx0 : x0 = nI (bh p (bits - 2) u (i - 1)).1 := hx0
          replace hx2 : ∀ e, e < (bh p (bits - 2) u (i - 1)).1 → x2 e = nI ((bh p (bits - 2) u (i - 1)).2 e) := hx2
          subst hx0
          obtain ⟨g1, g2, g3⟩ := bh_r p (bits - 2) u (i - 1)
          have e2 : nI bits - 2 - nI i = nI (bits - 2 - i) := by
            simp (disch := omega) only [i_0, i_1, i_2, i_3, i_4, i_5, i_6, i_7, i_8, i_10, i_12, i_16, i_31, i_32, i_64, i_100, i_128, i_255, i_256, i_512, i_1000, i_1128, i_65535, i_65536, nI_add, pk_mul, pk_sub, nI_ltI, nI_leI, nI_eq, nI_clamp, if_pos, if_neg, ite_true, ite_false, Option.bind_some, Option.elim_some, Option.elim_none, Sum.elim_inl, Sum.elim_inr]
          have hs : bh p (bits - 2) u (i + 1 - 1) = if u.testBit (bits - 2 - i) then ((bh p (bits - 2) u (i - 1)).1 + 1, uset (bh p (bits - 2) u (i - 1)).2 (bh p (bits - 2) u (i - 1)).1 (p + i)) else bh p (bits - 2) u (i - 1) := by
            obtain ⟨i', rfl⟩ : ∃ i', i = i' + 1 := ⟨i - 1, by omega⟩
            show (if u.testBit (bits - 2 - 1 - i') then ((bh p (bits - 2) u i').1 + 1, uset (bh p (bits - 2) u i').2 (bh p (bits - 2) u i').1 (p + 1 + i')) else bh p (bits - 2) u i') = _
            rw [show bits - 2 - 1 - i' = bits - 2 - (i' + 1) by omega, show p + 1 + i' = p + (i' + 1) by omega]
            rfl
          rw [if_neg (show ¬ nI i = 0 by rw [i_0, nI_eq (by omega) (by omega)]; omega), e2, bit_n (by omega) (by omega)]
          cases hb : u.testBit (bits - 2 - i) with
          | true =>
            rw [hb, if_pos rfl] at hs
            rw [if_pos (show nI true.toNat = 1 from rfl), if_neg (nI_in (show (bh p (bits - 2) u (i - 1)).1 < 8 by omega) (by omega)), nI_clamp (n := (bh p (bits - 2) u (i - 1)).1) (by omega), nI_1]
            refine ⟨_, rfl, rfl, Or.inr ⟨by omega, by rw [hs], fun e he => ?_⟩⟩
            rw [hs] at he ⊢
            have he9 : e < (bh p (bits - 2) u (i - 1)).1 + 1 := he
            show upd x2 _ _ e = nI (uset (bh p (bits - 2) u (i - 1)).2 (bh p (bits - 2) u (i - 1)).1 (p + i) e)
            by_cases ee : e = (bh p (bits - 2) u (i - 1)).1
            · rw [ee, up_at, uset_at]
            · rw [up_ne _ _ ee, uset_ne _ ee]
              exact hx2 e (by omega)
          | false =>
            rw [hb, if_neg (by decide)] at hs
            rw [if_neg (show ¬ nI false.toNat = 1 by decide)]
            refine ⟨_, rfl, rfl, Or.inr ⟨by omega, by rw [hs], fun e he => ?_⟩⟩
            rw [hs] at he ⊢
            exact hx2 e he)
      (by
        rintro ⟨x0, x1, x2⟩ ⟨e0, hx⟩
        replace e0 : x1 = nI (bits - 1) := e0
        subst e0
        rcases hx with ⟨hi, -⟩ | ⟨-, hx0, hx2⟩
        · omega
        · rw [show bits - 1 - 1 = bits - 2 by omega] at hx0 hx2
          refine ⟨(x0, x2), ?_, hx0, hx2⟩
          show M_X4_fillBurstHeads_b6 n (nI p) (nI bits) (nI u) x0 (nI (bits - 1)) x2 = _
          unfold M_X4_fillBurstHeads_b6
          rw [ek, if_pos (show nI (bits - 1) ≤ nI (bits - 1) by rw [nI_leI (by omega) (by omega)]; omega)]) n 0 ((0 : Int32), (0 : Int32), tu) (by omega) (by omega) ⟨rfl, Or.inl ⟨rfl, rfl⟩⟩
    replace k2 : r0 = _ := k2
    subst k2
    exact ⟨r1, lp_b k1 rfl, fun e he => by rw [hbT e he]; exact k3 e he⟩
theorem burst_C (hG : GP mg V rise fall N) (hC : CI sd mg V rise fall N ris fal xr) (hn : 1000 < n) {bits nb : Nat} (hNb : N = 8 * nb) (hN : N ≤ 64) (h1 : 1 ≤ bits) (h8 : bits ≤ 8) (b0 a0 : Nat → Int32) (ks : Int32) (tu : Nat → Int32) (tot : Nat → Int64) :
    ∃ res tu' tot' b' a' ks', M_X4_findBurst n (nI bits) (nI nb) ris fal tu tot b0 a0 ks sd = some (res, tu', tot', b', a', ks') ∧ OutB (bAll mg rise fall xr bits N) nb ks b0 a0 res ks' b' a' := by
  have e8 : (8 : Int32) * nI nb = nI N := by rw [hNb]; exact pk_mul 8 nb
  have hp6 : 2 ^ (bits - 2) ≤ 2 ^ 6 := Nat.pow_le_pow_right (by decide) (by omega)
  -- the loop over what is turned between
  have inner : ∀ p, p + bits ≤ N → ∀ tu tot, ∃ out, lp (fun x : (Int32 × (Nat → Int32) × (Nat → Int64)) => M_X4_findBurst_b41 n (nI bits) (nI nb) (nI (2 ^ (bits - 2))) (nI p) ((nI p + nI bits) - 1) ris fal b0 a0 ks sd x.1 x.2.1 x.2.2) n ((0 : Int32), tu, tot) = some out ∧
      ((fS (fun u => bLeaf mg rise fall xr bits p u) (2 ^ (bits - 2)) = none ∧ ∃ tu' tot', out = Sum.inl (tu', tot')) ∨ (∃ z, fS (fun u => bLeaf mg rise fall xr bits p u) (2 ^ (bits - 2)) = some z ∧ ∃ tu' tot' b' a', out = Sum.inr (1, tu', tot', b', a', nI nb) ∧ ∀ i, i < 8 → b' i = nI (kb z.1 z.2.1 z.2.2 z.2.1 i) ∧ a' i = nI (ka z.1 z.2.1 z.2.2 z.2.1 i))) := by
    intro p hp tu tot
    have elast : (nI p + nI bits) - 1 = nI (p + bits - 1) := by
      rw [nI_add]
      exact pk_sub (b := 1) (by omega)
    rw [elast]
    refine lp_sr (σ := Int32 × (Nat → Int32) × (Nat → Int64)) (ρ := ((Nat → Int32) × (Nat → Int64)) ⊕ (Int32 × (Nat → Int32) × (Nat → Int64) × (Nat → Int32) × (Nat → Int32) × Int32)) (fun u x => x.1 = nI u) (fun u => bLeaf mg rise fall xr bits p u) (fun z r => ∃ tu' tot' b' a', r = Sum.inr (1, tu', tot', b', a', nI nb) ∧ ∀ i, i < 8 → b' i = nI (kb z.1 z.2.1 z.2.2 z.2.1 i) ∧ a' i = nI (ka z.1 z.2.1 z.2.2 z.2.1 i)) (fun r => ∃ tu' tot', r = Sum.inl (tu', tot')) (2 ^ (bits - 2)) ?_ ?_ n _ (by omega) rfl
    · rintro ⟨x0, x1, x2⟩ e0
      replace e0 : x0 = nI (2 ^ (bits - 2)) := e0
      subst e0
      refine ⟨Sum.inl (x1, x2), ?_, x1, x2, rfl⟩
      show M_X4_findBurst_b41 n (nI bits) (nI nb) (nI (2 ^ (bits - 2))) (nI p) (nI (p + bits - 1)) ris fal b0 a0 ks sd (nI (2 ^ (bits - 2))) x1 x2 = _
      unfold M_X4_findBurst_b41
      rw [if_pos (show nI (2 ^ (bits - 2)) ≤ nI (2 ^ (bits - 2)) by rw [nI_leI (by omega) (by omega)]; omega)]
    · rintro u ⟨x0, x1, x2⟩ hu e0
      replace e0 : x0 = nI u := e0
      subst e0
      obtain ⟨g1, g2, g3, g4⟩ := bT_r (u := u) h1 h8 hp
      obtain ⟨tu', q1, q2⟩ := heads_C hn h1 h8 (show p ≤ 64 by omega) (show u < 2 ^ 8 by omega) x1
      obtain ⟨tot', q3, q4⟩ := fillTotals_n hG hC hn hN (T := bT bits p u) (h := bk9 bits p u - 1) (by omega) (fun i hi => g3 i (by omega)) q2 x2
      have hb := bitsPass_n hG hC hn hN (T := bT bits p u) (h := bk9 bits p u - 1) (q := p + bits - 1) (by omega) (fun i hi => g3 i (by omega)) (by omega) g4 q4
      rw [show bk9 bits p u - 1 + 1 = bk9 bits p u by omega] at hb
      show (bLeaf mg rise fall xr bits p u = none ∧ ∃ y, M_X4_findBurst_b41 n (nI bits) (nI nb) (nI (2 ^ (bits - 2))) (nI p) (nI (p + bits - 1)) ris fal b0 a0 ks sd (nI u) x1 x2 = some (.inl y) ∧ _) ∨ (∃ z r, bLeaf mg rise fall xr bits p u = some z ∧ M_X4_findBurst_b41 n (nI bits) (nI nb) (nI (2 ^ (bits - 2))) (nI p) (nI (p + bits - 1)) ris fal b0 a0 ks sd (nI u) x1 x2 = some (.inr r) ∧ _)
      unfold M_X4_findBurst_b41 bLeaf
      rw [if_neg (show ¬ nI (2 ^ (bits - 2)) ≤ nI u by rw [nI_leI (by omega) (by omega)]; omega), q1]
      dsimp only [Option.bind_some]
      rw [q3]
      dsimp only [Option.bind_some]
      rcases hb with ⟨f1, f2⟩ | ⟨v, f1, f3, f2⟩
      · left
        rw [fvo_n f1, f2]
        dsimp only [Option.bind_some]
        rw [if_pos rfl, nI_1]
        exact ⟨rfl, _, rfl, rfl⟩
      · right
        have hp8 : 2 ^ bk9 bits p u ≤ 2 ^ 8 := Nat.pow_le_pow_right (by decide) g2
        have hne : ¬ nI v = -1 := fun e => by
          have h9 := congrArg Int32.toInt e
          rw [nI_toInt (by omega)] at h9
          have : (-1 : Int32).toInt = -1 := by decide
          omega
        have htu : ∀ i, i < bk9 bits p u → upd tu' (bk9 bits p u - 1) (nI (p + bits - 1)) i = nI (bT bits p u i) := fun i hi => by
          by_cases e : i = bk9 bits p u - 1
          · rw [e, up_at, g4]
          · rw [up_ne _ _ e]
            exact q2 i (by omega)
        obtain ⟨b', a', q5, q6⟩ := keepTurned_n (n := n) (nb := nb) (k := bk9 bits p u) (v := v) (T := bT bits p u) (tu := upd tu' (bk9 bits p u - 1) (nI (p + bits - 1))) hn g2 (by omega) (fun i hi => by have := g3 i hi; omega) htu b0 a0 ks
        rw [fvo_s f1, f2]
        dsimp only [Option.bind_some]
        rw [if_neg hne, if_neg (nI_in (show bk9 bits p u - 1 < 8 by omega) (by omega)), nI_clamp (n := bk9 bits p u - 1) (by omega), nI_1, show bk9 bits p u - 1 + 1 = bk9 bits p u by omega, q5]
        exact ⟨_, _, rfl, rfl, _, _, _, _, rfl, q6⟩
  have outer : ∃ out, lp (fun x : (Int32 × (Nat → Int32) × (Nat → Int64)) => M_X4_findBurst_b19 n (nI bits) (nI nb) (nI (2 ^ (bits - 2))) ris fal b0 a0 ks sd x.1 x.2.1 x.2.2) n ((0 : Int32), tu, tot) = some out ∧
      ((bAll mg rise fall xr bits N = none ∧ ∃ tu' tot', out = Sum.inl (tu', tot')) ∨ (∃ z, bAll mg rise fall xr bits N = some z ∧ ∃ tu' tot' b' a', out = Sum.inr (1, tu', tot', b', a', nI nb) ∧ ∀ i, i < 8 → b' i = nI (kb z.1 z.2.1 z.2.2 z.2.1 i) ∧ a' i = nI (ka z.1 z.2.1 z.2.2 z.2.1 i))) := by
    refine lp_sr (σ := Int32 × (Nat → Int32) × (Nat → Int64)) (ρ := ((Nat → Int32) × (Nat → Int64)) ⊕ (Int32 × (Nat → Int32) × (Nat → Int64) × (Nat → Int32) × (Nat → Int32) × Int32)) (fun p x => x.1 = nI p) (fun p => fS (fun u => bLeaf mg rise fall xr bits p u) (2 ^ (bits - 2))) (fun z r => ∃ tu' tot' b' a', r = Sum.inr (1, tu', tot', b', a', nI nb) ∧ ∀ i, i < 8 → b' i = nI (kb z.1 z.2.1 z.2.2 z.2.1 i) ∧ a' i = nI (ka z.1 z.2.1 z.2.2 z.2.1 i)) (fun r => ∃ tu' tot', r = Sum.inl (tu', tot')) (N + 1 - bits) ?_ ?_ n _ (by omega) rfl
    · rintro ⟨x0, x1, x2⟩ e0
      replace e0 : x0 = nI (N + 1 - bits) := e0
      subst e0
      refine ⟨Sum.inl (x1, x2), ?_, x1, x2, rfl⟩
      show M_X4_findBurst_b19 n (nI bits) (nI nb) (nI (2 ^ (bits - 2))) ris fal b0 a0 ks sd (nI (N + 1 - bits)) x1 x2 = _
      unfold M_X4_findBurst_b19
      rw [e8, nI_add, if_pos (show nI N < nI (N + 1 - bits + bits) by rw [nI_ltI (by omega) (by omega)]; omega)]
    · rintro p ⟨x0, x1, x2⟩ hp e0
      replace e0 : x0 = nI p := e0
      subst e0
      obtain ⟨out, k1, k2⟩ := inner p (by omega) x1 x2
      show (_ ∧ ∃ y, M_X4_findBurst_b19 n (nI bits) (nI nb) (nI (2 ^ (bits - 2))) ris fal b0 a0 ks sd (nI p) x1 x2 = some (.inl y) ∧ _) ∨ (∃ z r, _ ∧ M_X4_findBurst_b19 n (nI bits) (nI nb) (nI (2 ^ (bits - 2))) ris fal b0 a0 ks sd (nI p) x1 x2 = some (.inr r) ∧ _)
      unfold M_X4_findBurst_b19
      rw [e8, if_neg (show ¬ nI N < nI p + nI bits by rw [nI_add, nI_ltI (by omega) (by omega)]; omega), k1]
      dsimp only [Option.bind_some]
      rcases k2 with ⟨k2, tu', tot', rfl⟩ | ⟨z, k2, tu', tot', b', a', rfl, k3⟩
      · left
        refine ⟨k2, _, rfl, ?_⟩
        show nI p + 1 = _
        rw [nI_1]
      · right
        exact ⟨z, _, k2, rfl, tu', tot', b', a', rfl, k3⟩
  obtain ⟨out, k1, k2⟩ := outer
  unfold M_X4_findBurst
  by_cases e2 : bits ≤ 2
  · have hone : nI (2 ^ (bits - 2)) = 1 := by rw [show bits - 2 = 0 by omega]; rfl
    rw [hone] at k1
    rw [if_pos (show nI bits ≤ 2 by rw [i_2, nI_leI (by omega) (by omega)]; exact e2), k1]
    rcases k2 with ⟨k2, tu', tot', rfl⟩ | ⟨z, k2, tu', tot', b', a', rfl, k3⟩
    · rw [k2]
      exact ⟨_, _, _, _, _, _, rfl, rfl, rfl, rfl, rfl⟩
    · rw [k2]
      exact ⟨_, _, _, _, _, _, rfl, rfl, rfl, k3⟩
  · have hsh : ((1 : Int32) <<< ((nI bits - 2) &&& 31)) = nI (2 ^ (bits - 2)) := by
      rw [show nI bits - 2 = nI (bits - 2) from pk_sub (b := 2) (by omega)]
      simp (disch := omega) only [i_0, i_1, i_2, i_3, i_4, i_5, i_6, i_7, i_8, i_10, i_12, i_16, i_31, i_32, i_64, i_100, i_128, i_255, i_256, i_512, i_1000, i_1128, i_65535, i_65536, nI_add, pk_mul, pk_sub, n_and, n_or, n_xor, and_31, n_shl, n_shr, nI_ltI, nI_leI, nI_eq, nI_clamp, if_pos, if_neg, ite_true, ite_false, Option.bind_some, Option.elim_some, Option.elim_none, Sum.elim_inl, Sum.elim_inr, Nat.one_mul]
    rw [if_neg (show ¬ nI bits ≤ 2 by rw [i_2, nI_leI (by omega) (by omega)]; exact e2), hsh, k1]
    rcases k2 with ⟨k2, tu', tot', rfl⟩ | ⟨z, k2, tu', tot', b', a', rfl, k3⟩
    · rw [k2]
      exact ⟨_, _, _, _, _, _, rfl, rfl, rfl, rfl, rfl⟩
    · rw [k2]
      exact ⟨_, _, _, _, _, _, rfl, rfl, rfl, k3⟩
end BC
section BM
variable {mg : Nat → Nat → Nat} {V : Nat → Prop} {rise fall : Nat → Nat} {N : Nat} {xr : Bool} {n j : Nat} {kd mo : Nat → Int32} {pA pB : Nat → Int64} {Rl : Nat → Int64 → Int64 → Nat → Prop}
theorem heads_M (hn : 1000 < n) {b p u : Nat} (hb : b ≤ 6) (hp : p ≤ 64) (hu : u < 2 ^ 8) (tu : Nat → Int32) :
    ∃ tu', lp (fun x : (Int32 × (Nat → Int32) × Int32) => M_X12_passesBurst_b56 n (nI b) (nI p) (nI u) x.1 x.2.1 x.2.2) n ((0 : Int32), upd tu (0 : Int32).toNatClampNeg (nI p), (1 : Int32)) = some (tu', nI (bh p b u b).1) ∧ ∀ e, e < (bh p b u b).1 → tu' e = nI ((bh p b u b).2 e) := by
  obtain ⟨⟨r0, r1⟩, k1, k2, k3⟩ := lp_run (f := fun x : (Int32 × (Nat → Int32) × Int32) => M_X12_passesBurst_b56 n (nI b) (nI p) (nI u) x.1 x.2.1 x.2.2)
    (fun i x => x.1 = nI i ∧ x.2.2 = nI (bh p b u i).1 ∧ ∀ e, e < (bh p b u i).1 → x.2.1 e = nI ((bh p b u i).2 e))
    (fun r => r.2 = nI (bh p b u b).1 ∧ ∀ e, e < (bh p b u b).1 → r.1 e = nI ((bh p b u b).2 e)) b
    (by
      rintro i ⟨x0, x1, x2⟩ hi ⟨e0, e2, hx⟩
      replace e0 : x0 = nI i := e0
      replace e2 : x2 = nI (bh p b u i).1 := e2
      replace hx : ∀ e, e < (bh p b u i).1 → x1 e = nI ((bh p b u i).2 e) := hx
      subst e0; subst e2
      left
      obtain ⟨g1, g2, g3⟩ := bh_r p b u i
      have e3 : nI b - 1 - nI i = nI (b - 1 - i) := by
        simp (disch := omega) only [i_0, i_1, i_2, i_3, i_4, i_5, i_6, i_7, i_8, i_10, i_12, i_16, i_31, i_32, i_64, i_100, i_128, i_255, i_256, i_512, i_1000, i_1128, i_65535, i_65536, nI_add, pk_mul, pk_sub, nI_ltI, nI_leI, nI_eq, nI_clamp, if_pos, if_neg, ite_true, ite_false, Option.bind_some, Option.elim_some, Option.elim_none, Sum.elim_inl, Sum.elim_inr]
      have hs : bh p b u (i + 1) = if u.testBit (b - 1 - i) then ((bh p b u i).1 + 1, uset (bh p b u i).2 (bh p b u i).1 (p + 1 + i)) else bh p b u i := rfl
      show ∃ y, M_X12_passesBurst_b56 n (nI b) (nI p) (nI u) (nI i) x1 (nI (bh p b u i).1) = some (.inl y) ∧ _
      unfold M_X12_passesBurst_b56
      rw [if_neg (show ¬ nI b ≤ nI i by rw [nI_leI (by omega) (by omega)]; omega), e3, bit_n (by omega) (by omega), nI_1 i]
      cases hb : u.testBit (b - 1 - i) with
      | true =>
        rw [hb, if_pos rfl] at hs
        rw [if_pos (show nI true.toNat = 1 from rfl), if_neg (nI_in (show (bh p b u i).1 < 8 by omega) (by omega)), nI_clamp (n := (bh p b u i).1) (by omega), nI_1, nI_1, nI_add]
        refine ⟨_, rfl, rfl, by rw [hs], fun e he => ?_⟩
        rw [hs] at he ⊢
        have he9 : e < (bh p b u i).1 + 1 := he
        show upd x1 _ _ e = nI (uset (bh p b u i).2 (bh p b u i).1 (p + 1 + i) e)
        by_cases ee : e = (bh p b u i).1
        · rw [ee, up_at, uset_at]
        · rw [up_ne _ _ ee, uset_ne _ ee]
          exact hx e (by omega)
      | false =>
        rw [hb, if_neg (by decide)] at hs
        rw [if_neg (show ¬ nI false.toNat = 1 by decide)]
        refine ⟨_, rfl, rfl, by rw [hs], fun e he => ?_⟩
        rw [hs] at he ⊢
        exact hx e he)
    (by
      rintro ⟨x0, x1, x2⟩ ⟨e0, e2, hx⟩
      replace e0 : x0 = nI b := e0
      subst e0
      refine ⟨(x1, x2), ?_, e2, hx⟩
      show M_X12_passesBurst_b56 n (nI b) (nI p) (nI u) (nI b) x1 x2 = _
      unfold M_X12_passesBurst_b56
      rw [if_pos (show nI b ≤ nI b by rw [nI_leI (by omega) (by omega)]; omega)]) n 0 ((0 : Int32), upd tu (0 : Int32).toNatClampNeg (nI p), (1 : Int32)) (by omega) (by omega) ⟨rfl, rfl, fun e he => by
        have he1 : e < 1 := he
        have : e = 0 := by omega
        subst this
        show upd tu 0 (nI p) 0 = nI p
        exact up_at _ _ _⟩
  replace k2 : r1 = _ := k2
  subst k2
  exact ⟨r0, k1, k3⟩
theorem burst_M (hM : MI j kd mo pA pB mg V rise fall N xr Rl) (hn : 1000 < n) {bits nb : Nat} (hNb : N = 8 * nb) (hN : N ≤ 64) (h1 : 1 ≤ bits) (h8 : bits ≤ 8) (ks : Int32) (b0 a0 tu : Nat → Int32) (tm : Int32) (A0 B0 : Int64) :
    ∃ res ks' b' a' rest, M_X12_passesBurst n (nI j) (nI bits) (nI nb) kd mo ks b0 a0 pA pB tu tm A0 B0 = some (res, ks', b', a', rest) ∧ OutB (bAll mg rise fall xr bits N) nb ks b0 a0 res ks' b' a' := by
  have e8 : (8 : Int32) * nI nb = nI N := by rw [hNb]; exact pk_mul 8 nb
  have hp6 : 2 ^ (bits - 2) ≤ 2 ^ 6 := Nat.pow_le_pow_right (by decide) (by omega)
  have hsh : ((1 : Int32) <<< (nI (bits - 2) &&& 31)) = nI (2 ^ (bits - 2)) := by
    simp (disch := omega) only [i_0, i_1, i_2, i_3, i_4, i_5, i_6, i_7, i_8, i_10, i_12, i_16, i_31, i_32, i_64, i_100, i_128, i_255, i_256, i_512, i_1000, i_1128, i_65535, i_65536, nI_add, pk_mul, pk_sub, n_and, n_or, n_xor, and_31, n_shl, n_shr, nI_ltI, nI_leI, nI_eq, nI_clamp, if_pos, if_neg, ite_true, ite_false, Option.bind_some, Option.elim_some, Option.elim_none, Sum.elim_inl, Sum.elim_inr, Nat.one_mul]
  have inner : ∀ p, p + bits ≤ N → ∀ tu tm A B, ∃ out, lp (fun x : (Int32 × Int32 × (Nat → Int32) × (Nat → Int32) × (Nat → Int32) × Int32 × Int64 × Int64) => M_X12_passesBurst_b31 n (nI j) (nI bits) (nI nb) (nI (bits - 2)) (nI p) kd mo pA pB x.1 x.2.1 x.2.2.1 x.2.2.2.1 x.2.2.2.2.1 x.2.2.2.2.2.1 x.2.2.2.2.2.2.1 x.2.2.2.2.2.2.2) n ((0 : Int32), ks, b0, a0, tu, tm, A, B) = some out ∧
      ((fS (fun u => bLeaf mg rise fall xr bits p u) (2 ^ (bits - 2)) = none ∧ ∃ rest, out = Sum.inl (ks, b0, a0, rest)) ∨ (∃ z, fS (fun u => bLeaf mg rise fall xr bits p u) (2 ^ (bits - 2)) = some z ∧ ∃ b' a' rest, out = Sum.inr (1, nI nb, b', a', rest) ∧ ∀ i, i < 8 → b' i = nI (kb z.1 z.2.1 z.2.2 z.2.1 i) ∧ a' i = nI (ka z.1 z.2.1 z.2.2 z.2.1 i))) := by
    intro p hp tu tm A B
    refine lp_sr (σ := Int32 × Int32 × (Nat → Int32) × (Nat → Int32) × (Nat → Int32) × Int32 × Int64 × Int64) (ρ := (Int32 × (Nat → Int32) × (Nat → Int32) × (Nat → Int32) × Int32 × Int64 × Int64) ⊕ (Int32 × Int32 × (Nat → Int32) × (Nat → Int32) × (Nat → Int32) × Int32 × Int64 × Int64)) (fun u x => x.1 = nI u ∧ x.2.1 = ks ∧ x.2.2.1 = b0 ∧ x.2.2.2.1 = a0) (fun u => bLeaf mg rise fall xr bits p u) (fun z r => ∃ b' a' rest, r = Sum.inr (1, nI nb, b', a', rest) ∧ ∀ i, i < 8 → b' i = nI (kb z.1 z.2.1 z.2.2 z.2.1 i) ∧ a' i = nI (ka z.1 z.2.1 z.2.2 z.2.1 i)) (fun r => ∃ rest, r = Sum.inl (ks, b0, a0, rest)) (2 ^ (bits - 2)) ?_ ?_ n _ (by omega) ⟨rfl, rfl, rfl, rfl⟩
    · rintro ⟨x0, x1, x2, x3, x4, x5, x6, x7⟩ ⟨e0, e1, e2, e3⟩
      replace e0 : x0 = nI (2 ^ (bits - 2)) := e0
      replace e1 : x1 = ks := e1
      replace e2 : x2 = b0 := e2
      replace e3 : x3 = a0 := e3
      subst e0; subst e1; subst e2; subst e3
      refine ⟨Sum.inl (x1, x2, x3, x4, x5, x6, x7), ?_, _, rfl⟩
      show M_X12_passesBurst_b31 n (nI j) (nI bits) (nI nb) (nI (bits - 2)) (nI p) kd mo pA pB (nI (2 ^ (bits - 2))) x1 x2 x3 x4 x5 x6 x7 = _
      unfold M_X12_passesBurst_b31
      rw [hsh, if_pos (show nI (2 ^ (bits - 2)) ≤ nI (2 ^ (bits - 2)) by rw [nI_leI (by omega) (by omega)]; omega)]
    · rintro u ⟨x0, x1, x2, x3, x4, x5, x6, x7⟩ hu ⟨e0, e1, e2, e3⟩
      replace e0 : x0 = nI u := e0
      replace e1 : x1 = ks := e1
      replace e2 : x2 = b0 := e2
      replace e3 : x3 = a0 := e3
      subst e0; subst e1; subst e2; subst e3
      obtain ⟨g1, g2, g3, g4⟩ := bT_r (u := u) h1 h8 hp
      obtain ⟨tu', q1, q2⟩ := heads_M (n := n) (b := bits - 2) (p := p) (u := u) hn (by omega) (by omega) (by omega) x4
      show (bLeaf mg rise fall xr bits p u = none ∧ ∃ y, M_X12_passesBurst_b31 n (nI j) (nI bits) (nI nb) (nI (bits - 2)) (nI p) kd mo pA pB (nI u) x1 x2 x3 x4 x5 x6 x7 = some (.inl y) ∧ _) ∨ (∃ z r, bLeaf mg rise fall xr bits p u = some z ∧ M_X12_passesBurst_b31 n (nI j) (nI bits) (nI nb) (nI (bits - 2)) (nI p) kd mo pA pB (nI u) x1 x2 x3 x4 x5 x6 x7 = some (.inr r) ∧ _)
      unfold M_X12_passesBurst_b31
      rw [hsh, if_neg (show ¬ nI (2 ^ (bits - 2)) ≤ nI u by rw [nI_leI (by omega) (by omega)]; omega), q1]
      dsimp only [Option.bind_some]
      -- the turned places, whichever branch
      have fin : ∀ (tu2 : Nat → Int32) (k9 : Int32), k9 = nI (bk9 bits p u) → (∀ i, i < bk9 bits p u → tu2 i = nI (bT bits p u i)) →
          (bLeaf mg rise fall xr bits p u = none ∧ ∃ A' B', M_X12_passesTurned n (nI j) (nI nb) kd mo x1 x2 x3 pA pB tu2 k9 x6 x7 = some (0, x1, x2, x3, A', B')) ∨ (∃ z b' a' A' B', bLeaf mg rise fall xr bits p u = some z ∧ M_X12_passesTurned n (nI j) (nI nb) kd mo x1 x2 x3 pA pB tu2 k9 x6 x7 = some (1, nI nb, b', a', A', B') ∧ ∀ i, i < 8 → b' i = nI (kb z.1 z.2.1 z.2.2 z.2.1 i) ∧ a' i = nI (ka z.1 z.2.1 z.2.2 z.2.1 i)) := by
        rintro tu2 k9 rfl htu
        unfold bLeaf
        rcases passesT_n (n := n) (nb := nb) (T := bT bits p u) (k := bk9 bits p u) (tu := tu2) hM hn hN g2 g3 htu x1 x2 x3 x6 x7 with ⟨f1, A', B', f2⟩ | ⟨v, f1, b', a', A', B', f2, f3⟩
        · left
          rw [fvo_n f1]
          exact ⟨rfl, A', B', f2⟩
        · right
          rw [fvo_s f1]
          exact ⟨_, b', a', A', B', rfl, f2, f3⟩
      by_cases e9 : bits = 1
      · have hk1 : bk9 bits p u = 1 := by unfold bk9; rw [if_pos e9]
        have hbh : (bh p (bits - 2) u (bits - 2)).1 = 1 := by rw [show bits - 2 = 0 by omega]; rfl
        rw [if_pos (show nI bits ≤ 1 by rw [e9]; decide)]
        rcases fin tu' (nI (bh p (bits - 2) u (bits - 2)).1) (by rw [hbh, hk1]) (fun i hi => by
          rw [hk1] at hi
          rw [q2 i (by rw [hbh]; exact hi)]
          unfold bT
          rw [if_pos e9, show bits - 2 = 0 by omega]
          rfl) with ⟨f1, A', B', f2⟩ | ⟨z, b', a', A', B', f1, f2, f3⟩
        · left
          rw [f2]
          dsimp only [Option.bind_some]
          rw [if_pos z_eq, nI_1]
          exact ⟨f1, _, rfl, rfl, rfl, rfl, rfl⟩
        · right
          rw [f2]
          dsimp only [Option.bind_some]
          rw [if_neg one_ne]
          exact ⟨z, _, f1, rfl, b', a', _, rfl, f3⟩
      · have hk1 : bk9 bits p u = (bh p (bits - 2) u (bits - 2)).1 + 1 := by unfold bk9; rw [if_neg e9]
        have elast : (nI p + nI bits) - 1 = nI (p + bits - 1) := by
          rw [nI_add]
          exact pk_sub (b := 1) (by omega)
        rw [if_neg (show ¬ nI bits ≤ 1 by rw [i_1, nI_leI (by omega) (by omega)]; omega), if_neg (nI_in (show (bh p (bits - 2) u (bits - 2)).1 < 8 by omega) (by omega)), nI_clamp (n := (bh p (bits - 2) u (bits - 2)).1) (by omega), elast, nI_1 (bh p (bits - 2) u (bits - 2)).1]
        rcases fin (upd tu' (bh p (bits - 2) u (bits - 2)).1 (nI (p + bits - 1))) (nI ((bh p (bits - 2) u (bits - 2)).1 + 1)) (by rw [hk1]) (fun i hi => by
          rw [hk1] at hi
          unfold bT
          rw [if_neg e9]
          by_cases ee : i = (bh p (bits - 2) u (bits - 2)).1
          · rw [ee, up_at, uset_at]
          · rw [up_ne _ _ ee, uset_ne _ ee]
            exact q2 i (by omega)) with ⟨f1, A', B', f2⟩ | ⟨z, b', a', A', B', f1, f2, f3⟩
        · left
          rw [f2]
          dsimp only [Option.bind_some]
          rw [if_pos z_eq, nI_1]
          exact ⟨f1, _, rfl, rfl, rfl, rfl, rfl⟩
        · right
          rw [f2]
          dsimp only [Option.bind_some]
          rw [if_neg one_ne]
          exact ⟨z, _, f1, rfl, b', a', _, rfl, f3⟩
  have outer : ∃ out, lp (fun x : (Int32 × Int32 × (Nat → Int32) × (Nat → Int32) × (Nat → Int32) × Int32 × Int64 × Int64) => M_X12_passesBurst_b17 n (nI j) (nI bits) (nI nb) (nI (bits - 2)) kd mo pA pB x.1 x.2.1 x.2.2.1 x.2.2.2.1 x.2.2.2.2.1 x.2.2.2.2.2.1 x.2.2.2.2.2.2.1 x.2.2.2.2.2.2.2) n ((0 : Int32), ks, b0, a0, tu, tm, A0, B0) = some out ∧
      ((bAll mg rise fall xr bits N = none ∧ ∃ rest, out = Sum.inl (ks, b0, a0, rest)) ∨ (∃ z, bAll mg rise fall xr bits N = some z ∧ ∃ b' a' rest, out = Sum.inr (1, nI nb, b', a', rest) ∧ ∀ i, i < 8 → b' i = nI (kb z.1 z.2.1 z.2.2 z.2.1 i) ∧ a' i = nI (ka z.1 z.2.1 z.2.2 z.2.1 i))) := by
    refine lp_sr (σ := Int32 × Int32 × (Nat → Int32) × (Nat → Int32) × (Nat → Int32) × Int32 × Int64 × Int64) (ρ := (Int32 × (Nat → Int32) × (Nat → Int32) × (Nat → Int32) × Int32 × Int64 × Int64) ⊕ (Int32 × Int32 × (Nat → Int32) × (Nat → Int32) × (Nat → Int32) × Int32 × Int64 × Int64)) (fun p x => x.1 = nI p ∧ x.2.1 = ks ∧ x.2.2.1 = b0 ∧ x.2.2.2.1 = a0) (fun p => fS (fun u => bLeaf mg rise fall xr bits p u) (2 ^ (bits - 2))) (fun z r => ∃ b' a' rest, r = Sum.inr (1, nI nb, b', a', rest) ∧ ∀ i, i < 8 → b' i = nI (kb z.1 z.2.1 z.2.2 z.2.1 i) ∧ a' i = nI (ka z.1 z.2.1 z.2.2 z.2.1 i)) (fun r => ∃ rest, r = Sum.inl (ks, b0, a0, rest)) (N + 1 - bits) ?_ ?_ n _ (by omega) ⟨rfl, rfl, rfl, rfl⟩
    · rintro ⟨x0, x1, x2, x3, x4, x5, x6, x7⟩ ⟨e0, e1, e2, e3⟩
      replace e0 : x0 = nI (N + 1 - bits) := e0
      replace e1 : x1 = ks := e1
      replace e2 : x2 = b0 := e2
      replace e3 : x3 = a0 := e3
      subst e0; subst e1; subst e2; subst e3
      refine ⟨Sum.inl (x1, x2, x3, x4, x5, x6, x7), ?_, _, rfl⟩
      show M_X12_passesBurst_b17 n (nI j) (nI bits) (nI nb) (nI (bits - 2)) kd mo pA pB (nI (N + 1 - bits)) x1 x2 x3 x4 x5 x6 x7 = _
      unfold M_X12_passesBurst_b17
      rw [e8, nI_add, if_pos (show nI N < nI (N + 1 - bits + bits) by rw [nI_ltI (by omega) (by omega)]; omega)]
    · rintro p ⟨x0, x1, x2, x3, x4, x5, x6, x7⟩ hp ⟨e0, e1, e2, e3⟩
      replace e0 : x0 = nI p := e0
      replace e1 : x1 = ks := e1
      replace e2 : x2 = b0 := e2
      replace e3 : x3 = a0 := e3
      subst e0; subst e1; subst e2; subst e3
      obtain ⟨out, k1, k2⟩ := inner p (by omega) x4 x5 x6 x7
      show (_ ∧ ∃ y, M_X12_passesBurst_b17 n (nI j) (nI bits) (nI nb) (nI (bits - 2)) kd mo pA pB (nI p) x1 x2 x3 x4 x5 x6 x7 = some (.inl y) ∧ _) ∨ (∃ z r, _ ∧ M_X12_passesBurst_b17 n (nI j) (nI bits) (nI nb) (nI (bits - 2)) kd mo pA pB (nI p) x1 x2 x3 x4 x5 x6 x7 = some (.inr r) ∧ _)
      unfold M_X12_passesBurst_b17
      rw [e8, if_neg (show ¬ nI N < nI p + nI bits by rw [nI_add, nI_ltI (by omega) (by omega)]; omega), k1]
      dsimp only [Option.bind_some]
      rcases k2 with ⟨k2, rest, rfl⟩ | ⟨z, k2, b', a', rest, rfl, k3⟩
      · left
        refine ⟨k2, _, rfl, ?_, rfl, rfl, rfl⟩
        show nI p + 1 = _
        rw [nI_1]
      · right
        exact ⟨z, _, k2, rfl, b', a', rest, rfl, k3⟩
  obtain ⟨out, k1, k2⟩ := outer
  unfold M_X12_passesBurst
  by_cases e2 : bits ≤ 2
  · have hz : nI (bits - 2) = 0 := by rw [show bits - 2 = 0 by omega]; rfl
    rw [hz] at k1
    rw [if_pos (show nI bits ≤ 2 by rw [i_2, nI_leI (by omega) (by omega)]; exact e2), k1]
    rcases k2 with ⟨k2, rest, rfl⟩ | ⟨z, k2, b', a', rest, rfl, k3⟩
    · rw [k2]
      exact ⟨_, _, _, _, _, rfl, rfl, rfl, rfl, rfl⟩
    · rw [k2]
      exact ⟨_, _, _, _, _, rfl, rfl, rfl, k3⟩
  · rw [if_neg (show ¬ nI bits ≤ 2 by rw [i_2, nI_leI (by omega) (by omega)]; exact e2), show nI bits - 2 = nI (bits - 2) from pk_sub (b := 2) (by omega), k1]
    rcases k2 with ⟨k2, rest, rfl⟩ | ⟨z, k2, b', a', rest, rfl, k3⟩
    · rw [k2]
      exact ⟨_, _, _, _, _, rfl, rfl, rfl, rfl, rfl⟩
    · rw [k2]
      exact ⟨_, _, _, _, _, rfl, rfl, rfl, k3⟩
end BM
