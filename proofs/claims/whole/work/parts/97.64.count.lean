/-! Own rows: sets of places, counted and the first one. -/
def sg : Nat → (Nat → Nat) → Nat
  | 0, _ => 0
  | n + 1, f => sg n f + f n
theorem sg_congr {n : Nat} {f g : Nat → Nat} (h : ∀ i, i < n → f i = g i) : sg n f = sg n g := by
  induction n with
  | zero => rfl
  | succ n ih =>
    show sg n f + f n = sg n g + g n
    rw [ih (fun i hi => h i (by omega)), h n (by omega)]
theorem sg_0 (n : Nat) : sg n (fun _ => 0) = 0 := by
  induction n with
  | zero => rfl
  | succ n ih => show sg n _ + 0 = 0; rw [ih]
theorem sg_add (n : Nat) (f g : Nat → Nat) : sg n (fun i => f i + g i) = sg n f + sg n g := by
  induction n with
  | zero => rfl
  | succ n ih =>
    show sg n _ + (f n + g n) = (sg n f + f n) + (sg n g + g n)
    rw [ih]; omega
theorem sg_comm (n m : Nat) (h : Nat → Nat → Nat) : sg n (fun i => sg m (fun j => h i j)) = sg m (fun j => sg n (fun i => h i j)) := by
  induction n with
  | zero => exact (sg_0 m).symm
  | succ n ih =>
    show sg n _ + sg m _ = sg m (fun j => sg n (fun i => h i j) + h n j)
    rw [sg_add, ih]
theorem sg_if (n : Nat) (P : Prop) [Decidable P] (f : Nat → Nat) : (if P then sg n f else 0) = sg n (fun i => if P then f i else 0) := by
  by_cases h : P
  · rw [if_pos h]
    exact sg_congr (fun i _ => (if_pos h).symm)
  · rw [if_neg h]
    exact (sg_0 n).symm.trans (sg_congr (fun i _ => (if_neg h).symm))
/-- the sum over i < a, within n -/
theorem sg_lt {a n : Nat} (h : a ≤ n) (f : Nat → Nat) : sg a f = sg n (fun i => if i < a then f i else 0) := by
  induction n with
  | zero =>
    have : a = 0 := by omega
    subst this
    rfl
  | succ n ih =>
    by_cases e : a = n + 1
    · subst e
      exact sg_congr (fun i hi => (if_pos hi).symm)
    · rw [ih (by omega)]
      show _ = sg n _ + (if n < a then f n else 0)
      rw [if_neg (by omega)]
      rfl
/-- one taken out at the beginning -/
theorem sg_ge {a n : Nat} (h : a < n) (f : Nat → Nat) : sg n (fun i => if a ≤ i then f i else 0) = f a + sg n (fun i => if a + 1 ≤ i then f i else 0) := by
  induction n with
  | zero => omega
  | succ n ih =>
    show sg n _ + (if a ≤ n then f n else 0) = f a + (sg n _ + (if a + 1 ≤ n then f n else 0))
    by_cases e : a = n
    · subst e
      have h1 : sg a (fun i => if a ≤ i then f i else 0) = sg a (fun i => if a + 1 ≤ i then f i else 0) := sg_congr (fun i hi => by rw [if_neg (by omega), if_neg (by omega)])
      rw [h1, if_pos (by omega), if_neg (by omega)]
      omega
    · rw [ih (by omega), if_pos (by omega), if_pos (by omega)]
      omega
/-- how many sets of k places, r places being left, come to x -/
def cnt (s : Nat → Nat) (N : Nat) : Nat → Nat → Nat → Nat
  | 0, 0, x => if x = 0 then 1 else 0
  | 0, _ + 1, x => if x = 0 then 1 else 0
  | _ + 1, 0, _ => 0
  | k + 1, r + 1, x => cnt s N k r (x ^^^ s (N - (r + 1))) + cnt s N (k + 1) r x
theorem cnt_0 (s : Nat → Nat) (N r x : Nat) : cnt s N 0 r x = if x = 0 then 1 else 0 := by
  cases r <;> rfl
theorem cnt_le (s : Nat → Nat) (N : Nat) : ∀ k r x, r ≤ 48 → cnt s N k r x ≤ 48 ^ k := by
  have key : ∀ k r x, r ≤ 48 → cnt s N k r x ≤ 48 ^ k ∧ cnt s N (k + 1) r x ≤ r * 48 ^ k := by
    intro k
    induction k with
    | zero =>
      intro r
      induction r with
      | zero =>
        intro x _
        refine ⟨?_, Nat.zero_le _⟩
        rw [cnt_0]
        split <;> decide
      | succ r ih =>
        intro x hr
        have h1 := (ih (x ^^^ s (N - (r + 1))) (by omega)).1
        have h2 := (ih x (by omega)).2
        constructor
        · rw [cnt_0]
          split <;> decide
        · show cnt s N 0 r _ + cnt s N (0 + 1) r x ≤ _
          rw [Nat.add_mul]
          omega
    | succ k ihk =>
      intro r
      induction r with
      | zero => intro x _; exact ⟨Nat.zero_le _, Nat.zero_le _⟩
      | succ r ih =>
        intro x hr
        have h1 := (ih (x ^^^ s (N - (r + 1))) (by omega)).1
        have h2 := (ih x (by omega)).2
        have h3 := (ihk (r + 1) x hr).2
        constructor
        · have : (r + 1) * 48 ^ k ≤ 48 * 48 ^ k := Nat.mul_le_mul_right _ hr
          rw [Nat.pow_succ, Nat.mul_comm (48 ^ k) 48]
          omega
        · show cnt s N (k + 1) r _ + cnt s N (k + 1 + 1) r x ≤ _
          rw [Nat.add_mul]
          omega
  intro k r x hr
  exact (key k r x hr).1
theorem cnt_sg (s : Nat → Nat) {N : Nat} (k x : Nat) : ∀ r, r ≤ N → cnt s N (k + 1) r x = sg N (fun i => if N - r ≤ i then cnt s N k (N - 1 - i) (x ^^^ s i) else 0) := by
  intro r
  induction r with
  | zero =>
    intro _
    show 0 = _
    exact (sg_0 N).symm.trans (sg_congr (fun i hi => (if_neg (by omega)).symm))
  | succ r ih =>
    intro h
    rw [sg_ge (a := N - (r + 1)) (by omega)]
    show cnt s N k r (x ^^^ s (N - (r + 1))) + cnt s N (k + 1) r x = _
    rw [ih (by omega), show N - 1 - (N - (r + 1)) = r by omega, show N - (r + 1) + 1 = N - r by omega]
/-- the first set of k places, r places being left, that comes to x -/
def fst (s : Nat → Nat) (N : Nat) : Nat → Nat → Nat → Option (List Nat)
  | 0, 0, x => if x = 0 then some [] else none
  | 0, _ + 1, x => if x = 0 then some [] else none
  | _ + 1, 0, _ => none
  | k + 1, r + 1, x => match fst s N k r (x ^^^ s (N - (r + 1))) with
    | some l => some ((N - (r + 1)) :: l)
    | none => fst s N (k + 1) r x
theorem fst_0 (s : Nat → Nat) (N r x : Nat) : fst s N 0 r x = if x = 0 then some [] else none := by
  cases r <;> rfl
theorem fst_s (s : Nat → Nat) (N k r x : Nat) : fst s N (k + 1) (r + 1) x = (match fst s N k r (x ^^^ s (N - (r + 1))) with | some l => some ((N - (r + 1)) :: l) | none => fst s N (k + 1) r x) := rfl
theorem cnt_s (s : Nat → Nat) (N k r x : Nat) : cnt s N (k + 1) (r + 1) x = cnt s N k r (x ^^^ s (N - (r + 1))) + cnt s N (k + 1) r x := rfl
theorem fst_cnt (s : Nat → Nat) (N : Nat) : ∀ k r x, (cnt s N k r x = 0 ↔ fst s N k r x = none) := by
  intro k
  induction k with
  | zero =>
    intro r x
    rw [cnt_0, fst_0]
    by_cases h : x = 0
    · rw [if_pos h, if_pos h]; simp
    · rw [if_neg h, if_neg h]; simp
  | succ k ihk =>
    intro r
    induction r with
    | zero => intro x; exact ⟨fun _ => rfl, fun _ => rfl⟩
    | succ r ih =>
      intro x
      rw [cnt_s, fst_s]
      have h1 := ihk r (x ^^^ s (N - (r + 1)))
      cases hf : fst s N k r (x ^^^ s (N - (r + 1))) with
      | none =>
        rw [hf] at h1
        rw [h1.mpr rfl, Nat.zero_add]
        exact ih x
      | some l =>
        rw [hf] at h1
        constructor
        · intro h
          have := h1.mp (by omega)
          cases this
        · intro h; cases h
theorem fst_len (s : Nat → Nat) (N : Nat) : ∀ k r x l, fst s N k r x = some l → l.length = k := by
  intro k
  induction k with
  | zero =>
    intro r x l h
    rw [fst_0] at h
    split at h
    · cases h; rfl
    · cases h
  | succ k ihk =>
    intro r
    induction r with
    | zero => intro x l h; cases h
    | succ r ih =>
      intro x l h
      rw [fst_s] at h
      cases hf : fst s N k r (x ^^^ s (N - (r + 1))) with
      | none => rw [hf] at h; exact ih x l h
      | some l' =>
        rw [hf] at h
        cases h
        rw [List.length_cons, ihk _ _ _ hf]
/-- what is kept of a set -/
def T4 (l : List Nat) (i : Nat) : Int32 := match l[i]? with
  | some v => nI v
  | none => -1
/-- what the reference's search leaves: how many, and LIGHTEST -/
def Res (s : Nat → Nat) (N : Nat) (kp : Bool) (pre : List Nat) (k r x c : Nat) (lf : Nat → Int32) (c' : Nat) (lf' : Nat → Int32) : Prop :=
  c' = c + cnt s N k r x ∧ ∀ i, i < 4 → lf' i = if kp = true ∧ c = 0 then (match fst s N k r x with | some l => T4 (pre ++ l) i | none => lf i) else lf i
theorem Res.nil {s : Nat → Nat} {N : Nat} {kp : Bool} {pre : List Nat} {k x c : Nat} {lf : Nat → Int32} : Res s N kp pre (k + 1) 0 x c lf c lf := by
  refine ⟨rfl, fun i _ => ?_⟩
  show _ = if kp = true ∧ c = 0 then lf i else lf i
  split <;> rfl
theorem Res.cons {s : Nat → Nat} {N : Nat} {kp : Bool} {pre : List Nat} {k r x c c1 c2 : Nat} {lf lf1 lf2 : Nat → Int32}
    (h1 : Res s N kp (pre ++ [N - (r + 1)]) k r (x ^^^ s (N - (r + 1))) c lf c1 lf1) (h2 : Res s N kp pre (k + 1) r x c1 lf1 c2 lf2) : Res s N kp pre (k + 1) (r + 1) x c lf c2 lf2 := by
  obtain ⟨a1, a2⟩ := h1
  obtain ⟨b1, b2⟩ := h2
  refine ⟨by rw [b1, a1, cnt_s]; omega, fun i hi => ?_⟩
  rw [b2 i hi, fst_s]
  have hc := fst_cnt s N k r (x ^^^ s (N - (r + 1)))
  have a2i := a2 i hi
  cases hf : fst s N k r (x ^^^ s (N - (r + 1))) with
  | none =>
    rw [hf] at a2i hc
    have : c1 = c := by rw [a1, hc.mpr rfl]; rfl
    rw [this]
    have e1 : lf1 i = lf i := by
      rw [a2i]
      split <;> rfl
    rw [e1]
  | some l =>
    rw [hf] at a2i hc
    have hne : ¬ c1 = 0 := fun h => by
      have := hc.mp (by omega)
      cases this
    rw [if_neg (fun h => hne h.2), a2i]
    show (if kp = true ∧ c = 0 then T4 (pre ++ [N - (r + 1)] ++ l) i else lf i) = (if kp = true ∧ c = 0 then T4 (pre ++ (N - (r + 1)) :: l) i else lf i)
    rw [List.append_assoc]
    rfl
def kI (b : Bool) : Int32 := if b then 1 else 0
theorem T4_4 {a b c d : Int32} {l : List Nat} {lf : Nat → Int32} (h0 : T4 l 0 = a) (h1 : T4 l 1 = b) (h2 : T4 l 2 = c) (h3 : T4 l 3 = d) : ∀ i, i < 4 → (upd (upd (upd (upd lf (0 : Int32).toNatClampNeg a) (1 : Int32).toNatClampNeg b) (2 : Int32).toNatClampNeg c) (3 : Int32).toNatClampNeg d) i = T4 l i := by
  have e0 : (0 : Int32).toNatClampNeg = 0 := rfl
  have e1 : (1 : Int32).toNatClampNeg = 1 := rfl
  have e2 : (2 : Int32).toNatClampNeg = 2 := rfl
  have e3 : (3 : Int32).toNatClampNeg = 3 := rfl
  rw [e0, e1, e2, e3]
  intro i hi
  have h4 : i = 0 ∨ i = 1 ∨ i = 2 ∨ i = 3 := by omega
  rcases h4 with rfl | rfl | rfl | rfl
  · rw [up_ne _ _ (by omega), up_ne _ _ (by omega), up_ne _ _ (by omega), up_at, h0]
  · rw [up_ne _ _ (by omega), up_ne _ _ (by omega), up_at, h1]
  · rw [up_ne _ _ (by omega), up_at, h2]
  · rw [up_at, h3]
/-- one set looked at -/
theorem isZero_n {s : Nat → Nat} {N : Nat} {kp : Bool} {pre : List Nat} {r x c : Nat} (lf : Nat → Int32) {a b cc d : Int32} (hx : x < 2 ^ 32) (h0 : T4 pre 0 = a) (h1 : T4 pre 1 = b) (h2 : T4 pre 2 = cc) (h3 : T4 pre 3 = d) :
    ∃ v lf', M_X12_isZero (lN x) (kI (kp && decide (c = 0))) a b cc d lf = some (nI v, lf') ∧ Res s N kp pre 0 r x c lf (c + v) lf' := by
  unfold M_X12_isZero
  by_cases e : x = 0
  · subst e
    rw [if_pos (show lN 0 = 0 from rfl)]
    by_cases hk : kp = true ∧ c = 0
    · rw [show kI (kp && decide (c = 0)) = 1 by rw [hk.1, hk.2]; rfl, if_neg one_ne]
      refine ⟨1, _, rfl, by rw [cnt_0, if_pos rfl], fun i hi => ?_⟩
      rw [if_pos hk, fst_0, if_pos rfl]
      show _ = T4 (pre ++ []) i
      rw [List.append_nil]
      exact T4_4 h0 h1 h2 h3 i hi
    · have : (kp && decide (c = 0)) = false := by
        cases kp
        · rfl
        · simp at hk
          simp [hk]
      rw [this, if_pos (show kI false = 0 from rfl)]
      refine ⟨1, _, rfl, by rw [cnt_0, if_pos rfl], fun i hi => ?_⟩
      rw [if_neg hk]
  · rw [if_neg (show ¬ lN x = 0 by rw [l_0, pk_lEQ (by omega) (by omega)]; exact e)]
    refine ⟨0, _, rfl, by rw [cnt_0, if_neg e], fun i hi => ?_⟩
    rw [fst_0, if_neg e]
    split <;> rfl
