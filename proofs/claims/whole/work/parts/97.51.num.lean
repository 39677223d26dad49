/-! Own rows: loops of mirrors run to their ends; ints and longs that are naturals. -/
theorem i_0 : (0 : Int32) = nI 0 := rfl
theorem i_1 : (1 : Int32) = nI 1 := rfl
theorem i_2 : (2 : Int32) = nI 2 := rfl
theorem i_3 : (3 : Int32) = nI 3 := rfl
theorem i_4 : (4 : Int32) = nI 4 := rfl
theorem i_5 : (5 : Int32) = nI 5 := rfl
theorem i_6 : (6 : Int32) = nI 6 := rfl
theorem i_7 : (7 : Int32) = nI 7 := rfl
theorem i_8 : (8 : Int32) = nI 8 := rfl
theorem i_10 : (10 : Int32) = nI 10 := rfl
theorem i_12 : (12 : Int32) = nI 12 := rfl
theorem i_16 : (16 : Int32) = nI 16 := rfl
theorem i_31 : (31 : Int32) = nI 31 := rfl
theorem i_32 : (32 : Int32) = nI 32 := rfl
theorem i_64 : (64 : Int32) = nI 64 := rfl
theorem i_100 : (100 : Int32) = nI 100 := rfl
theorem i_128 : (128 : Int32) = nI 128 := rfl
theorem i_255 : (255 : Int32) = nI 255 := rfl
theorem i_256 : (256 : Int32) = nI 256 := rfl
theorem i_512 : (512 : Int32) = nI 512 := rfl
theorem i_1000 : (1000 : Int32) = nI 1000 := rfl
theorem i_1128 : (1128 : Int32) = nI 1128 := rfl
theorem i_65535 : (65535 : Int32) = nI 65535 := rfl
theorem i_65536 : (65536 : Int32) = nI 65536 := rfl
theorem l_0 : (0 : Int64) = lN 0 := rfl
theorem l_1 : (1 : Int64) = lN 1 := rfl
theorem l_2 : (2 : Int64) = lN 2 := rfl
theorem l_3 : (3 : Int64) = lN 3 := rfl
theorem l_4 : (4 : Int64) = lN 4 := rfl
theorem l_5 : (5 : Int64) = lN 5 := rfl
theorem l_6 : (6 : Int64) = lN 6 := rfl
theorem l_7 : (7 : Int64) = lN 7 := rfl
theorem l_8 : (8 : Int64) = lN 8 := rfl
theorem l_10 : (10 : Int64) = lN 10 := rfl
theorem l_12 : (12 : Int64) = lN 12 := rfl
theorem l_16 : (16 : Int64) = lN 16 := rfl
theorem l_32 : (32 : Int64) = lN 32 := rfl
theorem l_63 : (63 : Int64) = lN 63 := rfl
theorem l_64 : (64 : Int64) = lN 64 := rfl
theorem l_255 : (255 : Int64) = lN 255 := rfl
theorem l_256 : (256 : Int64) = lN 256 := rfl
theorem l_1000 : (1000 : Int64) = lN 1000 := rfl
theorem l_65535 : (65535 : Int64) = lN 65535 := rfl
theorem l_65536 : (65536 : Int64) = lN 65536 := rfl

theorem lp_inl {σ ρ : Type} {f : σ → Option (σ ⊕ ρ)} {n : Nat} {x y : σ} (h : f x = some (.inl y)) : lp f (n + 1) x = lp f n y := by
  show (f x).bind _ = _
  rw [h]; rfl
theorem lp_inr {σ ρ : Type} {f : σ → Option (σ ⊕ ρ)} {n : Nat} {x : σ} {r : ρ} (h : f x = some (.inr r)) : lp f (n + 1) x = some r := by
  show (f x).bind _ = _
  rw [h]; rfl
/-- a loop whose states are known -/
theorem lp_seq {σ ρ : Type} {f : σ → Option (σ ⊕ ρ)} (st : Nat → σ) {r : ρ} {N : Nat} (last : f (st N) = some (.inr r)) :
    ∀ (n a : Nat), a ≤ N → N - a < n → (∀ i, a ≤ i → i < N → f (st i) = some (.inl (st (i + 1)))) → lp f n (st a) = some r := by
  intro n
  induction n with
  | zero => intro a _ h; omega
  | succ n ih =>
    intro a ha hn step
    rcases Nat.lt_or_ge a N with h | h
    · rw [lp_inl (step a (Nat.le_refl a) h)]
      exact ih (a + 1) h (by omega) (fun i h1 h2 => step i (by omega) h2)
    · have e : a = N := by omega
      subst e
      exact lp_inr last
/-- a loop under an invariant -/
theorem lp_run {σ ρ : Type} {f : σ → Option (σ ⊕ ρ)} (I : Nat → σ → Prop) (post : ρ → Prop) (N : Nat)
    (step : ∀ i x, i < N → I i x → (∃ y, f x = some (.inl y) ∧ I (i + 1) y) ∨ (∃ r, f x = some (.inr r) ∧ post r))
    (last : ∀ x, I N x → ∃ r, f x = some (.inr r) ∧ post r) :
    ∀ (n a : Nat) (x : σ), a ≤ N → N - a < n → I a x → ∃ r, lp f n x = some r ∧ post r := by
  intro n
  induction n with
  | zero => intro a x _ h; omega
  | succ n ih =>
    intro a x ha hn hI
    rcases Nat.lt_or_ge a N with h | h
    · rcases step a x h hI with ⟨y, h1, h2⟩ | ⟨r, h1, h2⟩
      · rw [lp_inl h1]
        exact ih (a + 1) y h (by omega) h2
      · exact ⟨r, lp_inr h1, h2⟩
    · have e : a = N := by omega
      subst e
      obtain ⟨r, h1, h2⟩ := last x hI
      exact ⟨r, lp_inr h1, h2⟩
/-- a loop that looks for the first -/
theorem lp_find {σ ρ : Type} {f : σ → Option (σ ⊕ ρ)} (st : Nat → σ) (P : Nat → Prop) (hit : Nat → ρ) (miss : ρ) (N : Nat)
    (go : ∀ i, i < N → ¬ P i → f (st i) = some (.inl (st (i + 1)))) (got : ∀ i, i < N → P i → f (st i) = some (.inr (hit i))) (last : f (st N) = some (.inr miss)) :
    ∀ (n a : Nat), a ≤ N → N - a < n → (∃ i, a ≤ i ∧ i < N ∧ P i ∧ (∀ j, a ≤ j → j < i → ¬ P j) ∧ lp f n (st a) = some (hit i)) ∨ ((∀ j, a ≤ j → j < N → ¬ P j) ∧ lp f n (st a) = some miss) := by
  intro n
  induction n with
  | zero => intro a _ h; omega
  | succ n ih =>
    intro a ha hn
    rcases Nat.lt_or_ge a N with h | h
    · by_cases hp : P a
      · exact Or.inl ⟨a, Nat.le_refl a, h, hp, fun j h1 h2 => by omega, lp_inr (got a h hp)⟩
      · have hne : ∀ j, a ≤ j → ¬ a + 1 ≤ j → ¬ P j := fun j h1 h2 => by
          have e : j = a := by omega
          rw [e]; exact hp
        rw [lp_inl (go a h hp)]
        rcases ih (a + 1) h (by omega) with ⟨i, h1, h2, h3, h4, h5⟩ | ⟨h1, h2⟩
        · exact Or.inl ⟨i, by omega, h2, h3, fun j k1 k2 => if hj : a + 1 ≤ j then h4 j hj k2 else hne j k1 hj, h5⟩
        · exact Or.inr ⟨fun j k1 k2 => if hj : a + 1 ≤ j then h1 j hj k2 else hne j k1 hj, h2⟩
    · have e : a = N := by omega
      subst e
      exact Or.inr ⟨fun j h1 h2 => by omega, lp_inr last⟩
theorem n_and (a b : Nat) : nI a &&& nI b = nI (a &&& b) := by
  apply Int32.toBitVec_inj.1
  show BitVec.ofNat 32 a &&& BitVec.ofNat 32 b = BitVec.ofNat 32 (a &&& b)
  apply BitVec.eq_of_getLsbD_eq
  intro i hi
  simp [hi]
theorem n_or (a b : Nat) : nI a ||| nI b = nI (a ||| b) := by
  apply Int32.toBitVec_inj.1
  show BitVec.ofNat 32 a ||| BitVec.ofNat 32 b = BitVec.ofNat 32 (a ||| b)
  apply BitVec.eq_of_getLsbD_eq
  intro i hi
  simp [hi]
theorem n_xor (a b : Nat) : nI a ^^^ nI b = nI (a ^^^ b) := by
  apply Int32.toBitVec_inj.1
  show BitVec.ofNat 32 a ^^^ BitVec.ofNat 32 b = BitVec.ofNat 32 (a ^^^ b)
  apply BitVec.eq_of_getLsbD_eq
  intro i hi
  simp [hi]
theorem l_and (a b : Nat) : lN a &&& lN b = lN (a &&& b) := by
  apply Int64.toBitVec_inj.1
  show BitVec.ofNat 64 a &&& BitVec.ofNat 64 b = BitVec.ofNat 64 (a &&& b)
  apply BitVec.eq_of_getLsbD_eq
  intro i hi
  simp [hi]
theorem l_or (a b : Nat) : lN a ||| lN b = lN (a ||| b) := by
  apply Int64.toBitVec_inj.1
  show BitVec.ofNat 64 a ||| BitVec.ofNat 64 b = BitVec.ofNat 64 (a ||| b)
  apply BitVec.eq_of_getLsbD_eq
  intro i hi
  simp [hi]
theorem l_xor (a b : Nat) : lN a ^^^ lN b = lN (a ^^^ b) := by
  apply Int64.toBitVec_inj.1
  show BitVec.ofNat 64 a ^^^ BitVec.ofNat 64 b = BitVec.ofNat 64 (a ^^^ b)
  apply BitVec.eq_of_getLsbD_eq
  intro i hi
  simp [hi]
theorem and_31 {k : Nat} (h : k < 32) : k &&& 31 = k := by
  rw [show (31 : Nat) = 2 ^ 5 - 1 from rfl, Nat.and_two_pow_sub_one_eq_mod]; omega
theorem and_63 {k : Nat} (h : k < 64) : k &&& 63 = k := by
  rw [show (63 : Nat) = 2 ^ 6 - 1 from rfl, Nat.and_two_pow_sub_one_eq_mod]; omega
theorem and_7 (k : Nat) : k &&& 7 = k % 8 := by
  rw [show (7 : Nat) = 2 ^ 3 - 1 from rfl, Nat.and_two_pow_sub_one_eq_mod]
theorem and_1 (k : Nat) : k &&& 1 = k % 2 := by
  rw [show (1 : Nat) = 2 ^ 1 - 1 from rfl, Nat.and_two_pow_sub_one_eq_mod]
theorem n_sk : ∀ k, k < 32 → ((nI k).toBitVec.smod 32).toNat = k := by decide +kernel
theorem l_sk : ∀ k, k < 64 → ((lN k).toBitVec.smod 64).toNat = k := by decide +kernel
theorem n_shl (a : Nat) {k : Nat} (hk : k < 32) : nI a <<< nI k = nI (a * 2 ^ k) := by
  apply Int32.toBitVec_inj.1
  apply BitVec.eq_of_toNat_eq
  show (BitVec.ofNat 32 a <<< ((nI k).toBitVec.smod 32).toNat).toNat = (BitVec.ofNat 32 (a * 2 ^ k)).toNat
  rw [n_sk k hk, BitVec.toNat_shiftLeft, Nat.shiftLeft_eq, BitVec.toNat_ofNat, BitVec.toNat_ofNat, Nat.mul_mod, Nat.mod_mod, ← Nat.mul_mod]
theorem l_shl (a : Nat) {k : Nat} (hk : k < 64) : lN a <<< lN k = lN (a * 2 ^ k) := by
  apply Int64.toBitVec_inj.1
  apply BitVec.eq_of_toNat_eq
  show (BitVec.ofNat 64 a <<< ((lN k).toBitVec.smod 64).toNat).toNat = (BitVec.ofNat 64 (a * 2 ^ k)).toNat
  rw [l_sk k hk, BitVec.toNat_shiftLeft, Nat.shiftLeft_eq, BitVec.toNat_ofNat, BitVec.toNat_ofNat, Nat.mul_mod, Nat.mod_mod, ← Nat.mul_mod]
theorem n_shr {a k : Nat} (ha : a < 2 ^ 31) (hk : k < 32) : nI a >>> nI k = nI (a / 2 ^ k) := pk_shrN ha _ k (n_sk k hk)
theorem l_shr {a k : Nat} (ha : a < 2 ^ 63) (hk : k < 64) : lN a >>> lN k = lN (a / 2 ^ k) := by
  apply Int64.toInt_inj.mp
  have h2 : a / 2 ^ k ≤ a := Nat.div_le_self _ _
  rw [Kit.i64_shr _ _ (l_sk k hk), pk_lT ha, pk_lT (by omega)]
  norm_cast
theorem l_su : ∀ k, k < 64 → (((lN k).toUInt64 &&& (lN 63).toUInt64).toBitVec % 64).toNat = k := by decide +kernel
theorem l_ushr {a k : Nat} (ha : a < 2 ^ 64) (hk : k < 64) : ((lN a).toUInt64 >>> ((lN k).toUInt64 &&& (lN 63).toUInt64)).toInt64 = lN (a / 2 ^ k) := by
  apply Int64.toBitVec_inj.1
  have e : ((lN a).toUInt64 >>> ((lN k).toUInt64 &&& (lN 63).toUInt64)).toInt64.toBitVec = (lN a).toBitVec >>> k := by
    have h := UInt64.toBitVec_shiftRight (lN a).toUInt64 ((lN k).toUInt64 &&& (lN 63).toUInt64)
    refine Eq.trans h ?_
    show (lN a).toBitVec >>> (((lN k).toUInt64 &&& (lN 63).toUInt64).toBitVec % 64).toNat = _
    rw [l_su k hk]
  rw [e]
  apply BitVec.eq_of_toNat_eq
  show (BitVec.ofNat 64 a >>> k).toNat = (BitVec.ofNat 64 (a / 2 ^ k)).toNat
  have h2 : a / 2 ^ k ≤ a := Nat.div_le_self _ _
  rw [BitVec.toNat_ushiftRight, BitVec.toNat_ofNat, BitVec.toNat_ofNat, Nat.shiftRight_eq_div_pow, Nat.mod_eq_of_lt ha, Nat.mod_eq_of_lt (by omega)]
theorem in_eq (x a b : Int32) {a' b' : Int64} (ha : a.toInt64 = a') (hb : b.toInt64 = b') : M_X12_in x.toInt64 a' b' = M_X11_within x a b := by
  subst ha; subst hb
  have h : ∀ y z : Int32, (y.toInt64 < z.toInt64) = (y < z) := fun y z => by
    rw [Int64.lt_iff_toInt_lt, Int32.lt_iff_toInt_lt, Int32.toInt_toInt64, Int32.toInt_toInt64]
  simp only [M_X12_in, M_X11_within, h]
theorem wi_cases (x : Int32) {p q : Nat} (hq : q < 2 ^ 31) (hp : p < 2 ^ 31) : (M_X11_within x (nI p) (nI q) = 0 ∧ ∀ j, p ≤ j → j ≤ q → x ≠ nI j) ∨ (M_X11_within x (nI p) (nI q) = 1 ∧ ∃ j, p ≤ j ∧ j ≤ q ∧ x = nI j) := by
  unfold M_X11_within
  by_cases h1 : x < nI p
  · left
    refine ⟨if_pos h1, fun j h2 h3 e => ?_⟩
    rw [e, nI_ltI (by omega) hp] at h1
    omega
  · have h0 : ¬ x < 0 := fun h0 => h1 (by
      rw [Int32.lt_iff_toInt_lt] at h0 ⊢
      rw [nI_toInt hp]
      have : (0 : Int32).toInt = 0 := by decide
      omega)
    obtain ⟨j, hj, rfl⟩ := nI_of h0
    rw [if_neg h1]
    rw [nI_ltI hj hp] at h1
    by_cases h2 : nI q < nI j
    · left
      refine ⟨if_pos h2, fun i h3 h4 e => ?_⟩
      rw [nI_ltI hq hj] at h2
      rw [nI_eq hj (by omega)] at e
      omega
    · right
      refine ⟨if_neg h2, j, by omega, ?_, rfl⟩
      rw [nI_ltI hq hj] at h2
      omega
theorem wi_lt (x : Int32) {k : Nat} (hk : k < 2 ^ 31) : (M_X11_within x 0 (nI k - 1) = 0 ∧ ∀ j, j < k → x ≠ nI j) ∨ (M_X11_within x 0 (nI k - 1) = 1 ∧ ∃ j, j < k ∧ x = nI j) := by
  rcases Nat.eq_zero_or_pos k with h0 | h0
  · left
    subst h0
    refine ⟨?_, fun j hj => by omega⟩
    unfold M_X11_within
    by_cases h1 : x < 0
    · exact if_pos h1
    · rw [if_neg h1, if_pos]
      rw [Int32.lt_iff_toInt_lt] at h1 ⊢
      have e1 : (0 : Int32).toInt = 0 := by decide
      have e2 : (nI 0 - 1).toInt = -1 := by decide
      omega
  · have e : nI k - 1 = nI (k - 1) := pk_sub (b := 1) (by omega)
    rw [e]
    rcases wi_cases x (p := 0) (q := k - 1) (by omega) (by omega) with ⟨h1, h2⟩ | ⟨h1, j, h2, h3, h4⟩
    · exact Or.inl ⟨h1, fun j hj => h2 j (by omega) (by omega)⟩
    · exact Or.inr ⟨h1, j, by omega, h4⟩
theorem up_at (f : Nat → Int32) (k : Nat) (x : Int32) : upd f k x k = x := if_pos rfl
theorem up_ne (f : Nat → Int32) {k j : Nat} (x : Int32) (h : j ≠ k) : upd f k x j = f j := if_neg h
theorem ul_at (f : Nat → Int64) (k : Nat) (x : Int64) : vp_updL f k x k = x := if_pos rfl
theorem ul_ne (f : Nat → Int64) {k j : Nat} (x : Int64) (h : j ≠ k) : vp_updL f k x j = f j := if_neg h
theorem vu_at {α : Type} (f : Nat → α) (k : Nat) (x : α) : va_up f k x k = x := if_pos rfl
theorem vu_ne {α : Type} (f : Nat → α) {k j : Nat} (x : α) (h : j ≠ k) : va_up f k x j = f j := if_neg h
theorem nar_b {x : Int32} (h : x = 0 ∨ x = 1) : vp_nar .boolean x = x := by rcases h with rfl | rfl <;> decide
theorem one_ne : ¬ (1 : Int32) = 0 := by decide
theorem z_eq : (0 : Int32) = 0 := rfl
theorem xlc (a b c : Nat) : a ^^^ (b ^^^ c) = b ^^^ (a ^^^ c) := by rw [← Nat.xor_assoc, Nat.xor_comm a b, Nat.xor_assoc]
theorem xcl (a b : Nat) : a ^^^ (a ^^^ b) = b := by rw [← Nat.xor_assoc, Nat.xor_self, Nat.zero_xor]
theorem lp_b {σ ρ τ : Type} {f : σ → Option (σ ⊕ ρ)} {n : Nat} {x : σ} {r : ρ} {g : ρ → Option τ} {out : Option τ} (h : lp f n x = some r) (hg : g r = out) : (lp f n x).bind g = out := by rw [h]; exact hg
theorem z01 {z : Nat} (h : z < 2) : z = 0 ∨ z = 1 := by omega
