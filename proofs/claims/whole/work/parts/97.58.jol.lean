/-! Own rows: joined, other, less. -/
theorem mgT_pk {m x A B : Nat} (hA : A < 65536) : mgT m x (65536 * B + A) = 65536 * ((x / 65536 + B) % m) + (x % 65536 + A) % m := by
  unfold mgT
  rw [show (65536 * B + A) / 65536 = B by omega, show (65536 * B + A) % 65536 = A by omega]
theorem carried9 {s o m : Nat} (hs : s < 2 ^ 32) (ho : o ≤ 1000) (hm : 2 ≤ m) (hm' : m ≤ 65536) : M_X9_carried (lN s) (nI o) (nI m) = some (lN (65536 * ((s / 65536 + o * (s % 65536)) % m) + s % 65536)) := by
  have h1 : o * (s % 65536) ≤ 1000 * 65536 := Nat.mul_le_mul ho (by omega)
  have h2 := Nat.mod_lt (s / 65536 + o * (s % 65536)) (show m > 0 by omega)
  unfold M_X9_carried M_X9_packed
  rw [partA_n, partB_n (by omega)]
  simp (disch := omega) only [l_0, l_1, l_2, l_3, l_4, l_5, l_6, l_7, l_8, l_10, l_12, l_16, l_32, l_63, l_64, l_255, l_256, l_1000, l_65535, l_65536, nI_l, l_and, l_or, l_xor, and_63, l_shl, l_shr, l_ushr, lN_add, lN_mul, lN_sub, pk_lEQ, pk_lLT, pk_lLE, Nat.one_mul, Nat.pow_one, if_neg, pk_lRem]
theorem canJoin_n {a wl : Nat} (ha : a < 2 ^ 30) (h1 : 1 ≤ wl) (h2 : wl ≤ 12) : M_X10_canJoinBehind (nI a) wl = some (if a % wl = 0 then 1 else 0) := by
  have hm := Nat.mod_lt a (show wl > 0 from h1)
  unfold M_X10_canJoinBehind
  simp (disch := omega) only [i_0, i_1, i_2, i_3, i_4, i_5, i_6, i_7, i_8, i_10, i_12, i_16, i_31, i_32, i_64, i_100, i_128, i_255, i_256, i_512, i_1000, i_1128, i_65535, i_65536, nI_add, pk_mul, pk_sub, nI_ltI, nI_leI, nI_eq, nI_clamp, if_pos, if_neg, ite_true, ite_false, Option.bind_some, Option.elim_some, Option.elim_none, Sum.elim_inl, Sum.elim_inr, ofn, pk_rem]
  split <;> rfl
theorem ixn {j : Nat} (hj : j < 16) : ¬ (nI j < 0 ∨ 16 ≤ j) := by
  intro h
  rcases h with h | h
  · exact nI_pos (n := j) (by omega) h
  · omega
section JO
variable {ro : RF} {c c2 : Int32} {kd mo bi tu : Nat → Int32} {po be fi : Nat → Int64} {lo wo wt ce : Nat → Int32}
set_option maxHeartbeats 4000000 in
theorem o_joined0 {n : Nat} (hn : 10000 < n) {j a' w' : Nat} {sd : SD} (hj : j < 16) (x2 : Int64) (x4 : Int32) (x5 : Int64) (x7 : Int32) (q1 : M_X11_sumAt (nI j) ro c = some (some (a', w', sd))) (q2 : M_X12_isSum (nI j) c2 = 1)
    {m : Nat} (h1 : 2 ≤ m) (h2 : m ≤ 65536) (hsd : sd = (8, 0, nI m, 0, 0, 0, 0, 0, 1, fun _ => 1)) (hkd : kd j = nI 0) (hmo : mo j = nI m) :
    ∃ r r2, M_X11_joined n (nI j) x2 x4 x5 x7 ro c = some r ∧ M_X12_joined n (nI j) x2 x4 x5 x7 c2 kd mo bi tu po be fi wo = some r2 ∧ r = r2 := by
  unfold M_X11_joined M_X12_joined
  rw [in_eq x4 0 1000 (by decide) (by decide), in_eq x7 0 1000 (by decide) (by decide)]
  rw [q1, q2]
  have hs5 : sd.1 = 8 ∨ sd.1 = 7 ∨ sd.1 = 6 ∨ sd.1 = 1 ∨ sd.1 = 4 := by rw [hsd]; simp
  have hs4 : sd.1 = 8 ∨ sd.1 = 7 ∨ sd.1 = 6 ∨ sd.1 = 1 := by rw [hsd]; simp
  have hk6 : ¬ kd j = 6 := by rw [hkd]; decide
  have hk0 : kd j = 0 := hkd
  have ej : (nI j).toNatClampNeg = j := nI_clamp (by omega)
  dsimp only [Option.bind_some, Option.elim_some]
  rw [if_pos hs5, if_pos hs4, ej, if_neg one_ne, if_neg (ixn hj), if_neg hk6]
  rcases hold0 (bi := bi) x2 hj h1 h2 (Or.inl hkd) hmo with ⟨a1, a2⟩ | ⟨a1, a2, s, hs, rfl⟩
  · have v1 : V_holds sd x2 = some 0 := by rw [hsd]; exact congrArg some a1
    rw [v1, a2]
    exact ⟨_, _, rfl, rfl, rfl⟩
  have va1 : V_holds sd (lN s) = some 1 := by rw [hsd]; exact congrArg some a1
  rw [va1, a2]
  dsimp only [Option.bind_some]
  rw [if_neg one_ne, if_neg one_ne]
  rcases hold0 (bi := bi) x5 hj h1 h2 (Or.inl hkd) hmo with ⟨b1, b2⟩ | ⟨b1, b2, u, hu, rfl⟩
  · have v1 : V_holds sd x5 = some 0 := by rw [hsd]; exact congrArg some b1
    rw [v1, b2]
    exact ⟨_, _, rfl, rfl, rfl⟩
  have vb1 : V_holds sd (lN u) = some 1 := by rw [hsd]; exact congrArg some b1
  rw [vb1, b2]
  dsimp only [Option.bind_some]
  rw [if_neg one_ne, if_neg one_ne]
  rcases wi_c x4 (a := 0) (b := 1000) 0 1000 rfl rfl (by omega) (by omega) with ⟨c1, -⟩ | ⟨c1, d, d1, d2, rfl⟩
  · rw [c1]
    exact ⟨_, _, rfl, rfl, rfl⟩
  rw [c1]
  rw [if_neg one_ne, if_neg one_ne]
  rcases wi_c x7 (a := 0) (b := 1000) 0 1000 rfl rfl (by omega) (by omega) with ⟨d3, -⟩ | ⟨d3, e, e1, e2, rfl⟩
  · rw [d3]
    exact ⟨_, _, rfl, rfl, rfl⟩
  rw [d3]
  rw [if_neg one_ne, if_neg one_ne]
  rw [if_neg (ixn hj), if_pos hk0]
  have t1 : V_canJoinBehind sd (nI d) = some 1 := by rw [hsd]; exact (canJoin_n (a := d) (wl := 1) (by omega) (by omega) (by omega)).trans (by rw [Nat.mod_one]; rfl)
  have t2 : V_carried n sd (lN s) (nI e) = some (lN s) := by rw [hsd]; rfl
  have t3 : V_merged sd (lN u) (lN s) = some (lN ((u + s) % m)) := by rw [hsd]; exact merged10 (by omega) (by omega) h1 h2
  rw [t1, Option.bind_some, if_neg one_ne, t2, Option.bind_some, t3]
  simp (disch := omega) only [i_0, i_1, i_2, i_3, i_4, i_5, i_6, i_7, i_8, i_10, i_12, i_16, i_31, i_32, i_64, i_100, i_128, i_255, i_256, i_512, i_1000, i_1128, i_65535, i_65536, nI_add, pk_mul, pk_sub, nI_ltI, nI_leI, nI_eq, nI_clamp, if_pos, if_neg, ite_true, ite_false, Option.bind_some, Option.elim_some, Option.elim_none, Sum.elim_inl, Sum.elim_inr, l_0, l_1, l_2, l_3, l_4, l_5, l_6, l_7, l_8, l_10, l_12, l_16, l_32, l_63, l_64, l_255, l_256, l_1000, l_65535, l_65536, nI_l, l_and, l_or, l_xor, and_63, l_shl, l_shr, l_ushr, lN_add, lN_mul, lN_sub, pk_lEQ, pk_lLT, pk_lLE, Nat.one_mul, Nat.pow_one, hkd, hmo, pk_lRem]
  exact ⟨_, _, rfl, rfl, by rw [Nat.add_comm]⟩
set_option maxHeartbeats 4000000 in
theorem o_joined1 {n : Nat} (hn : 10000 < n) {j a' w' : Nat} {sd : SD} (hj : j < 16) (x2 : Int64) (x4 : Int32) (x5 : Int64) (x7 : Int32) (q1 : M_X11_sumAt (nI j) ro c = some (some (a', w', sd))) (q2 : M_X12_isSum (nI j) c2 = 1)
    {m : Nat} (h1 : 2 ≤ m) (h2 : m ≤ 65536) (hsd : sd = (7, 1, nI m, 0, 0, 0, 0, 0, 0, fun _ => 0)) (hkd : kd j = nI 1) (hmo : mo j = nI m) :
    ∃ r r2, M_X11_joined n (nI j) x2 x4 x5 x7 ro c = some r ∧ M_X12_joined n (nI j) x2 x4 x5 x7 c2 kd mo bi tu po be fi wo = some r2 ∧ r = r2 := by
  unfold M_X11_joined M_X12_joined
  rw [in_eq x4 0 1000 (by decide) (by decide), in_eq x7 0 1000 (by decide) (by decide)]
  rw [q1, q2]
  have hs5 : sd.1 = 8 ∨ sd.1 = 7 ∨ sd.1 = 6 ∨ sd.1 = 1 ∨ sd.1 = 4 := by rw [hsd]; simp
  have hs4 : sd.1 = 8 ∨ sd.1 = 7 ∨ sd.1 = 6 ∨ sd.1 = 1 := by rw [hsd]; simp
  have hk6 : ¬ kd j = 6 := by rw [hkd]; decide
  have hk0 : ¬ kd j = 0 := by rw [hkd]; decide
  have hk1 : kd j = 1 := hkd
  have ej : (nI j).toNatClampNeg = j := nI_clamp (by omega)
  dsimp only [Option.bind_some, Option.elim_some]
  rw [if_pos hs5, if_pos hs4, ej, if_neg one_ne, if_neg (ixn hj), if_neg hk6]
  rcases hold1 (bi := bi) x2 hj h1 h2 hkd hmo with ⟨a1, a2⟩ | ⟨a1, a2, s, hs, hsa, hsb, rfl⟩
  · have v1 : V_holds sd x2 = some 0 := by rw [hsd]; exact congrArg some a1
    rw [v1, a2]
    exact ⟨_, _, rfl, rfl, rfl⟩
  have va1 : V_holds sd (lN s) = some 1 := by rw [hsd]; exact congrArg some a1
  rw [va1, a2]
  dsimp only [Option.bind_some]
  rw [if_neg one_ne, if_neg one_ne]
  rcases hold1 (bi := bi) x5 hj h1 h2 hkd hmo with ⟨b1, b2⟩ | ⟨b1, b2, u, hu, hua, hub, rfl⟩
  · have v1 : V_holds sd x5 = some 0 := by rw [hsd]; exact congrArg some b1
    rw [v1, b2]
    exact ⟨_, _, rfl, rfl, rfl⟩
  have vb1 : V_holds sd (lN u) = some 1 := by rw [hsd]; exact congrArg some b1
  rw [vb1, b2]
  dsimp only [Option.bind_some]
  rw [if_neg one_ne, if_neg one_ne]
  rcases wi_c x4 (a := 0) (b := 1000) 0 1000 rfl rfl (by omega) (by omega) with ⟨c1, -⟩ | ⟨c1, d, d1, d2, rfl⟩
  · rw [c1]
    exact ⟨_, _, rfl, rfl, rfl⟩
  rw [c1]
  rw [if_neg one_ne, if_neg one_ne]
  rcases wi_c x7 (a := 0) (b := 1000) 0 1000 rfl rfl (by omega) (by omega) with ⟨d3, -⟩ | ⟨d3, e, e1, e2, rfl⟩
  · rw [d3]
    exact ⟨_, _, rfl, rfl, rfl⟩
  rw [d3]
  rw [if_neg one_ne, if_neg one_ne]
  rw [if_neg (ixn hj), if_neg hk0, if_pos hk1]
  have h8 : e * (s % 65536) ≤ 1000 * 65536 := Nat.mul_le_mul (by omega) (by omega)
  have h8' : s % 65536 * e = e * (s % 65536) := Nat.mul_comm _ _
  have h9 := Nat.mod_lt (s / 65536 + e * (s % 65536)) (show m > 0 by omega)
  have t1 : V_canJoinBehind sd (nI d) = some 1 := by rw [hsd]; rfl
  have t2 : V_carried n sd (lN s) (nI e) = some (lN (65536 * ((s / 65536 + e * (s % 65536)) % m) + s % 65536)) := by rw [hsd]; exact carried9 hs (by omega) h1 h2
  have t3 : V_merged sd (lN u) (lN (65536 * ((s / 65536 + e * (s % 65536)) % m) + s % 65536)) = some (lN (mgT m u (65536 * ((s / 65536 + e * (s % 65536)) % m) + s % 65536))) := by rw [hsd]; exact merged9 (by omega) (by omega) h1 h2
  rw [t1, Option.bind_some, if_neg one_ne, t2, Option.bind_some, t3, mgT_pk (by omega), Nat.add_mod_mod]
  have r1 : lN s - lN s / 65536 * 65536 = lN (s % 65536) := pk_lRem (b := 65536) (by omega) (by omega) (by omega)
  have r2 : lN s / 65536 = lN (s / 65536) := pk_lDiv (b := 65536) (by omega) (by omega) (by omega)
  have r3 : lN u - lN u / 65536 * 65536 = lN (u % 65536) := pk_lRem (b := 65536) (by omega) (by omega) (by omega)
  have r4 : lN u / 65536 = lN (u / 65536) := pk_lDiv (b := 65536) (by omega) (by omega) (by omega)
  rw [r1, r2, r3, r4]
  simp (disch := omega) only [i_0, i_1, i_2, i_3, i_4, i_5, i_6, i_7, i_8, i_10, i_12, i_16, i_31, i_32, i_64, i_100, i_128, i_255, i_256, i_512, i_1000, i_1128, i_65535, i_65536, nI_add, pk_mul, pk_sub, nI_ltI, nI_leI, nI_eq, nI_clamp, if_pos, if_neg, ite_true, ite_false, Option.bind_some, Option.elim_some, Option.elim_none, Sum.elim_inl, Sum.elim_inr, l_0, l_1, l_2, l_3, l_4, l_5, l_6, l_7, l_8, l_10, l_12, l_16, l_32, l_63, l_64, l_255, l_256, l_1000, l_65535, l_65536, nI_l, l_and, l_or, l_xor, and_63, l_shl, l_shr, l_ushr, lN_add, lN_mul, lN_sub, pk_lEQ, pk_lLT, pk_lLE, Nat.one_mul, Nat.pow_one, hmo, pk_lRem, h8']
  refine ⟨_, _, rfl, rfl, ?_⟩
  rw [show u / 65536 + (s / 65536 + e * (s % 65536)) = s / 65536 + u / 65536 + e * (s % 65536) by omega, Nat.add_comm (u % 65536)]
set_option maxHeartbeats 4000000 in
theorem o_joined2 {n : Nat} (hn : 10000 < n) {j a' w' : Nat} {sd : SD} (hj : j < 16) (x2 : Int64) (x4 : Int32) (x5 : Int64) (x7 : Int32) (q1 : M_X11_sumAt (nI j) ro c = some (some (a', w', sd))) (q2 : M_X12_isSum (nI j) c2 = 1)
    {m wl : Nat} {g : Nat → Int32} (h1 : 2 ≤ m) (h2 : m ≤ 65536) (h3 : 1 ≤ wl) (h4 : wl ≤ 12) (hsd : sd = (8, 2, nI m, 0, 0, 0, 0, 0, wl, g)) (hkd : kd j = nI 2) (hmo : mo j = nI m) (hwo : wo j = nI wl) (h9 : ∀ i, i < wl → wt (12 * j + i) = g i ∧ ∃ v, v < 65536 ∧ g i = nI v) :
    ∃ r r2, M_X11_joined n (nI j) x2 x4 x5 x7 ro c = some r ∧ M_X12_joined n (nI j) x2 x4 x5 x7 c2 kd mo bi tu po be fi wo = some r2 ∧ r = r2 := by
  unfold M_X11_joined M_X12_joined
  rw [in_eq x4 0 1000 (by decide) (by decide), in_eq x7 0 1000 (by decide) (by decide)]
  rw [q1, q2]
  have hs5 : sd.1 = 8 ∨ sd.1 = 7 ∨ sd.1 = 6 ∨ sd.1 = 1 ∨ sd.1 = 4 := by rw [hsd]; simp
  have hs4 : sd.1 = 8 ∨ sd.1 = 7 ∨ sd.1 = 6 ∨ sd.1 = 1 := by rw [hsd]; simp
  have hk6 : ¬ kd j = 6 := by rw [hkd]; decide
  have hk0 : ¬ kd j = 0 := by rw [hkd]; decide
  have hk1 : ¬ kd j = 1 := by rw [hkd]; decide
  have hk2 : kd j = 2 := hkd
  have ej : (nI j).toNatClampNeg = j := nI_clamp (by omega)
  dsimp only [Option.bind_some, Option.elim_some]
  rw [if_pos hs5, if_pos hs4, ej, if_neg one_ne, if_neg (ixn hj), if_neg hk6]
  rcases hold0 (bi := bi) x2 hj h1 h2 (Or.inr hkd) hmo with ⟨a1, a2⟩ | ⟨a1, a2, s, hs, rfl⟩
  · have v1 : V_holds sd x2 = some 0 := by rw [hsd]; exact congrArg some a1
    rw [v1, a2]
    exact ⟨_, _, rfl, rfl, rfl⟩
  have va1 : V_holds sd (lN s) = some 1 := by rw [hsd]; exact congrArg some a1
  rw [va1, a2]
  dsimp only [Option.bind_some]
  rw [if_neg one_ne, if_neg one_ne]
  rcases hold0 (bi := bi) x5 hj h1 h2 (Or.inr hkd) hmo with ⟨b1, b2⟩ | ⟨b1, b2, u, hu, rfl⟩
  · have v1 : V_holds sd x5 = some 0 := by rw [hsd]; exact congrArg some b1
    rw [v1, b2]
    exact ⟨_, _, rfl, rfl, rfl⟩
  have vb1 : V_holds sd (lN u) = some 1 := by rw [hsd]; exact congrArg some b1
  rw [vb1, b2]
  dsimp only [Option.bind_some]
  rw [if_neg one_ne, if_neg one_ne]
  rcases wi_c x4 (a := 0) (b := 1000) 0 1000 rfl rfl (by omega) (by omega) with ⟨c1, -⟩ | ⟨c1, d, d1, d2, rfl⟩
  · rw [c1]
    exact ⟨_, _, rfl, rfl, rfl⟩
  rw [c1]
  rw [if_neg one_ne, if_neg one_ne]
  rcases wi_c x7 (a := 0) (b := 1000) 0 1000 rfl rfl (by omega) (by omega) with ⟨d3, -⟩ | ⟨d3, e, e1, e2, rfl⟩
  · rw [d3]
    exact ⟨_, _, rfl, rfl, rfl⟩
  rw [d3]
  rw [if_neg one_ne, if_neg one_ne]
  rw [if_neg (ixn hj), if_neg hk0, if_neg hk1, if_pos hk2]
  have hz := Nat.mod_lt d (show wl > 0 by omega)
  have t1 : V_canJoinBehind sd (nI d) = some (if d % wl = 0 then 1 else 0) := by rw [hsd]; exact canJoin_n (by omega) (by omega) (by omega)
  have t2 : V_carried n sd (lN s) (nI e) = some (lN s) := by rw [hsd]; rfl
  have t3 : V_merged sd (lN u) (lN s) = some (lN ((u + s) % m)) := by rw [hsd]; exact merged10 (by omega) (by omega) h1 h2
  rw [t1, Option.bind_some]
  by_cases e9 : d % wl = 0
  · rw [if_pos e9, if_neg one_ne, t2, Option.bind_some, t3]
    simp (disch := omega) only [i_0, i_1, i_2, i_3, i_4, i_5, i_6, i_7, i_8, i_10, i_12, i_16, i_31, i_32, i_64, i_100, i_128, i_255, i_256, i_512, i_1000, i_1128, i_65535, i_65536, nI_add, pk_mul, pk_sub, nI_ltI, nI_leI, nI_eq, nI_clamp, if_pos, if_neg, ite_true, ite_false, Option.bind_some, Option.elim_some, Option.elim_none, Sum.elim_inl, Sum.elim_inr, l_0, l_1, l_2, l_3, l_4, l_5, l_6, l_7, l_8, l_10, l_12, l_16, l_32, l_63, l_64, l_255, l_256, l_1000, l_65535, l_65536, nI_l, l_and, l_or, l_xor, and_63, l_shl, l_shr, l_ushr, lN_add, lN_mul, lN_sub, pk_lEQ, pk_lLT, pk_lLE, Nat.one_mul, Nat.pow_one, hkd, hmo, hwo, pk_rem, pk_lRem, e9]
    exact ⟨_, _, rfl, rfl, by rw [Nat.add_comm]⟩
  · rw [if_neg e9, if_pos z_eq]
    simp (disch := omega) only [i_0, i_1, i_2, i_3, i_4, i_5, i_6, i_7, i_8, i_10, i_12, i_16, i_31, i_32, i_64, i_100, i_128, i_255, i_256, i_512, i_1000, i_1128, i_65535, i_65536, nI_add, pk_mul, pk_sub, nI_ltI, nI_leI, nI_eq, nI_clamp, if_pos, if_neg, ite_true, ite_false, Option.bind_some, Option.elim_some, Option.elim_none, Sum.elim_inl, Sum.elim_inr, hkd, hwo, pk_rem, e9]
    exact ⟨_, _, rfl, rfl, rfl⟩
set_option maxHeartbeats 4000000 in
theorem o_joined3 {n : Nat} (hn : 10000 < n) {j a' w' : Nat} {sd : SD} (hj : j < 16) (x2 : Int64) (x4 : Int32) (x5 : Int64) (x7 : Int32) (q1 : M_X11_sumAt (nI j) ro c = some (some (a', w', sd))) (q2 : M_X12_isSum (nI j) c2 = 1)
    {w t : Nat} (h1 : 8 ≤ w) (h2 : w ≤ 32) (h3 : t < w) (hsd : sd = (6, 3, nI w, nI t, 0, 0, 0, 0, 0, fun _ => 0)) (hkd : kd j = nI 3) (hbi : bi j = nI w) (htu : tu j = nI t) :
    ∃ r r2, M_X11_joined n (nI j) x2 x4 x5 x7 ro c = some r ∧ M_X12_joined n (nI j) x2 x4 x5 x7 c2 kd mo bi tu po be fi wo = some r2 ∧ r = r2 := by
  unfold M_X11_joined M_X12_joined
  rw [in_eq x4 0 1000 (by decide) (by decide), in_eq x7 0 1000 (by decide) (by decide)]
  rw [q1, q2]
  have hs5 : sd.1 = 8 ∨ sd.1 = 7 ∨ sd.1 = 6 ∨ sd.1 = 1 ∨ sd.1 = 4 := by rw [hsd]; simp
  have hs4 : sd.1 = 8 ∨ sd.1 = 7 ∨ sd.1 = 6 ∨ sd.1 = 1 := by rw [hsd]; simp
  have hk6 : ¬ kd j = 6 := by rw [hkd]; decide
  have hk0 : ¬ kd j = 0 := by rw [hkd]; decide
  have hk1 : ¬ kd j = 1 := by rw [hkd]; decide
  have hk2 : ¬ kd j = 2 := by rw [hkd]; decide
  have hk3 : kd j = 3 := hkd
  have ej : (nI j).toNatClampNeg = j := nI_clamp (by omega)
  dsimp only [Option.bind_some, Option.elim_some]
  rw [if_pos hs5, if_pos hs4, ej, if_neg one_ne, if_neg (ixn hj), if_neg hk6]
  rcases hold3 (mo := mo) x2 hj h2 (Or.inl rfl) hkd hbi with ⟨a1, a2⟩ | ⟨a1, a2, s, hs, rfl⟩
  · have v1 : V_holds sd x2 = some 0 := by rw [hsd]; exact congrArg some a1
    rw [v1, a2]
    exact ⟨_, _, rfl, rfl, rfl⟩
  have va1 : V_holds sd (lN s) = some 1 := by rw [hsd]; exact congrArg some a1
  rw [va1, a2]
  dsimp only [Option.bind_some]
  rw [if_neg one_ne, if_neg one_ne]
  rcases hold3 (mo := mo) x5 hj h2 (Or.inl rfl) hkd hbi with ⟨b1, b2⟩ | ⟨b1, b2, u, hu, rfl⟩
  · have v1 : V_holds sd x5 = some 0 := by rw [hsd]; exact congrArg some b1
    rw [v1, b2]
    exact ⟨_, _, rfl, rfl, rfl⟩
  have vb1 : V_holds sd (lN u) = some 1 := by rw [hsd]; exact congrArg some b1
  rw [vb1, b2]
  dsimp only [Option.bind_some]
  rw [if_neg one_ne, if_neg one_ne]
  rcases wi_c x4 (a := 0) (b := 1000) 0 1000 rfl rfl (by omega) (by omega) with ⟨c1, -⟩ | ⟨c1, d, d1, d2, rfl⟩
  · rw [c1]
    exact ⟨_, _, rfl, rfl, rfl⟩
  rw [c1]
  rw [if_neg one_ne, if_neg one_ne]
  rcases wi_c x7 (a := 0) (b := 1000) 0 1000 rfl rfl (by omega) (by omega) with ⟨d3, -⟩ | ⟨d3, e, e1, e2, rfl⟩
  · rw [d3]
    exact ⟨_, _, rfl, rfl, rfl⟩
  rw [d3]
  rw [if_neg one_ne, if_neg one_ne]
  rw [if_neg (ixn hj), if_neg hk0, if_neg hk1, if_neg hk2, if_pos hk3]
  have h8 : t * e ≤ 32 * 1000 := Nat.mul_le_mul (by omega) (by omega)
  have c2 := rolled_n (k := t * e) (by omega) h2 (by omega) hs
  have t1 : V_canJoinBehind sd (nI d) = some 1 := by rw [hsd]; rfl
  have t2 : V_carried n sd (lN s) (nI e) = some (lN (rol w (t * e % w) s)) := by rw [hsd]; exact carried8 (by omega) h2 h3 (by omega) hs
  have t3 : V_merged sd (lN u) (lN (rol w (t * e % w) s)) = some (lN (u ^^^ rol w (t * e % w) s)) := by rw [hsd]; exact congrArg some (l_xor _ _)
  rw [t1, Option.bind_some, if_neg one_ne, t2, Option.bind_some, t3]
  simp (disch := omega) only [i_0, i_1, i_2, i_3, i_4, i_5, i_6, i_7, i_8, i_10, i_12, i_16, i_31, i_32, i_64, i_100, i_128, i_255, i_256, i_512, i_1000, i_1128, i_65535, i_65536, nI_add, pk_mul, pk_sub, nI_ltI, nI_leI, nI_eq, nI_clamp, if_pos, if_neg, ite_true, ite_false, Option.bind_some, Option.elim_some, Option.elim_none, Sum.elim_inl, Sum.elim_inr, hkd, hbi, htu, c2, l_xor]
  exact ⟨_, _, rfl, rfl, by rw [Nat.xor_comm]⟩
set_option maxHeartbeats 4000000 in
theorem o_joined4 {n : Nat} (hn : 10000 < n) {j a' w' : Nat} {sd : SD} (hj : j < 16) (x2 : Int64) (x4 : Int32) (x5 : Int64) (x7 : Int32) (q1 : M_X11_sumAt (nI j) ro c = some (some (a', w', sd))) (q2 : M_X12_isSum (nI j) c2 = 1)
    {k w p b f l : Nat} (h1 : k = 4 ∨ k = 5) (h2 : 3 ≤ w) (h3 : w ≤ 32) (h4 : p < 2 ^ w) (h5 : b < 2 ^ w) (h6 : f < 2 ^ w) (h7 : l < 2) (hsd : sd = (1, nI k, nI w, 0, lN p, lN b, lN f, nI l, 0, fun _ => 0)) (hkd : kd j = nI k) (hbi : bi j = nI w) (hpo : po j = lN p) (hbe : be j = lN b) (hfi : fi j = lN f) (hlo : lo j = nI l) :
    ∃ r r2, M_X11_joined n (nI j) x2 x4 x5 x7 ro c = some r ∧ M_X12_joined n (nI j) x2 x4 x5 x7 c2 kd mo bi tu po be fi wo = some r2 ∧ r = r2 := by
  unfold M_X11_joined M_X12_joined
  rw [in_eq x4 0 1000 (by decide) (by decide), in_eq x7 0 1000 (by decide) (by decide)]
  rw [q1, q2]
  have hs5 : sd.1 = 8 ∨ sd.1 = 7 ∨ sd.1 = 6 ∨ sd.1 = 1 ∨ sd.1 = 4 := by rw [hsd]; simp
  have hs4 : sd.1 = 8 ∨ sd.1 = 7 ∨ sd.1 = 6 ∨ sd.1 = 1 := by rw [hsd]; simp
  have hk6 : ¬ kd j = 6 := by rw [hkd]; rcases h1 with rfl | rfl <;> decide
  have hk0 : ¬ kd j = 0 := by rw [hkd]; rcases h1 with rfl | rfl <;> decide
  have hk1 : ¬ kd j = 1 := by rw [hkd]; rcases h1 with rfl | rfl <;> decide
  have hk2 : ¬ kd j = 2 := by rw [hkd]; rcases h1 with rfl | rfl <;> decide
  have hk3 : ¬ kd j = 3 := by rw [hkd]; rcases h1 with rfl | rfl <;> decide
  have ej : (nI j).toNatClampNeg = j := nI_clamp (by omega)
  dsimp only [Option.bind_some, Option.elim_some]
  rw [if_pos hs5, if_pos hs4, ej, if_neg one_ne, if_neg (ixn hj), if_neg hk6]
  rcases hold3 (mo := mo) x2 hj h3 (Or.inr h1) hkd hbi with ⟨a1, a2⟩ | ⟨a1, a2, s, hs, rfl⟩
  · have v1 : V_holds sd x2 = some 0 := by rw [hsd]; exact congrArg some a1
    rw [v1, a2]
    exact ⟨_, _, rfl, rfl, rfl⟩
  have va1 : V_holds sd (lN s) = some 1 := by rw [hsd]; exact congrArg some a1
  rw [va1, a2]
  dsimp only [Option.bind_some]
  rw [if_neg one_ne, if_neg one_ne]
  rcases hold3 (mo := mo) x5 hj h3 (Or.inr h1) hkd hbi with ⟨b1, b2⟩ | ⟨b1, b2, u, hu, rfl⟩
  · have v1 : V_holds sd x5 = some 0 := by rw [hsd]; exact congrArg some b1
    rw [v1, b2]
    exact ⟨_, _, rfl, rfl, rfl⟩
  have vb1 : V_holds sd (lN u) = some 1 := by rw [hsd]; exact congrArg some b1
  rw [vb1, b2]
  dsimp only [Option.bind_some]
  rw [if_neg one_ne, if_neg one_ne]
  rcases wi_c x4 (a := 0) (b := 1000) 0 1000 rfl rfl (by omega) (by omega) with ⟨c1, -⟩ | ⟨c1, d, d1, d2, rfl⟩
  · rw [c1]
    exact ⟨_, _, rfl, rfl, rfl⟩
  rw [c1]
  rw [if_neg one_ne, if_neg one_ne]
  rcases wi_c x7 (a := 0) (b := 1000) 0 1000 rfl rfl (by omega) (by omega) with ⟨d3, -⟩ | ⟨d3, e, e1, e2, rfl⟩
  · rw [d3]
    exact ⟨_, _, rfl, rfl, rfl⟩
  rw [d3]
  rw [if_neg one_ne, if_neg one_ne]
  rw [if_neg (ixn hj), if_neg hk0, if_neg hk1, if_neg hk2, if_neg hk3]
  have hx : (s ^^^ f) ^^^ b < 2 ^ w := Nat.xor_lt_two_pow (Nat.xor_lt_two_pow hs h6) h5
  have c1 := afterZeros_n (n := n) (k := e) hn (by omega) h3 h4 hx (by omega)
  have c2 := passed_n (n := n) (k := e) hn hj hbi hpo (by omega) h3 h4 hx (by omega)
  have t1 : V_canJoinBehind sd (nI d) = some 1 := by rw [hsd]; rfl
  have t2 : V_carried n sd (lN s) (nI e) = some (lN (dn w p (8 * e) ((s ^^^ f) ^^^ b))) := by
    rw [hsd]
    show M_X1_carried n (lN s) (nI e) (nI w) (lN p) (lN b) (lN f) = _
    unfold M_X1_carried
    rw [l_xor, l_xor, c1]; rfl
  have t3 : V_merged sd (lN u) (lN (dn w p (8 * e) ((s ^^^ f) ^^^ b))) = some (lN (u ^^^ dn w p (8 * e) ((s ^^^ f) ^^^ b))) := by rw [hsd]; exact congrArg some (l_xor _ _)
  rw [t1, Option.bind_some, if_neg one_ne, t2, Option.bind_some, t3]
  rcases h1 with rfl | rfl <;> simp (disch := omega) only [i_0, i_1, i_2, i_3, i_4, i_5, i_6, i_7, i_8, i_10, i_12, i_16, i_31, i_32, i_64, i_100, i_128, i_255, i_256, i_512, i_1000, i_1128, i_65535, i_65536, nI_add, pk_mul, pk_sub, nI_ltI, nI_leI, nI_eq, nI_clamp, if_pos, if_neg, ite_true, ite_false, Option.bind_some, Option.elim_some, Option.elim_none, Sum.elim_inl, Sum.elim_inr, hkd, hbi, hpo, hbe, hfi, l_xor, c2] <;> exact ⟨_, _, rfl, rfl, rfl⟩
theorem o_joined {n : Nat} (hn : 10000 < n) (h : I_sums ro c c2 kd mo bi tu po be fi lo wo wt ce) (x1 : Int32) (x2 : Int64) (x4 : Int32) (x5 : Int64) (x7 : Int32) :
    ∃ r r2, M_X11_joined n x1 x2 x4 x5 x7 ro c = some r ∧ M_X12_joined n x1 x2 x4 x5 x7 c2 kd mo bi tu po be fi wo = some r2 ∧ r = r2 := by
  rcases sum_at h x1 with ⟨q1, q2⟩ | ⟨j, a', w', sd, hj, rfl, q1, q2, q3⟩
  · unfold M_X11_joined M_X12_joined
    rw [q1, q2]
    exact ⟨_, _, rfl, rfl, rfl⟩
  rcases q3 with ⟨m, h1, h2, hsd, hkd, hmo⟩ | ⟨m, h1, h2, hsd, hkd, hmo⟩ | ⟨m, wl, g, h1, h2, h3, h4, hsd, hkd, hmo, hwo, h9⟩ | ⟨w, t, h1, h2, h3, hsd, hkd, hbi, htu⟩ | ⟨k, w, p, b, f, l, h1, h2, h3, h4, h5, h6, h7, hsd, hkd, hbi, hpo, hbe, hfi, hlo⟩ | ⟨q, g, h1, h2, hsd, hkd, hmo, h6⟩
  · exact o_joined0 hn hj x2 x4 x5 x7 q1 q2 h1 h2 hsd hkd hmo
  · exact o_joined1 hn hj x2 x4 x5 x7 q1 q2 h1 h2 hsd hkd hmo
  · exact o_joined2 hn hj x2 x4 x5 x7 q1 q2 h1 h2 h3 h4 hsd hkd hmo hwo h9
  · exact o_joined3 hn hj x2 x4 x5 x7 q1 q2 h1 h2 h3 hsd hkd hbi htu
  · exact o_joined4 hn hj x2 x4 x5 x7 q1 q2 h1 h2 h3 h4 h5 h6 h7 hsd hkd hbi hpo hbe hfi hlo
  · unfold M_X11_joined M_X12_joined
    rw [q1, q2]
    have hs5 : sd.1 = 8 ∨ sd.1 = 7 ∨ sd.1 = 6 ∨ sd.1 = 1 ∨ sd.1 = 4 := by rw [hsd]; simp
    have hs4 : ¬ (sd.1 = 8 ∨ sd.1 = 7 ∨ sd.1 = 6 ∨ sd.1 = 1) := by rw [hsd]; simp
    have hk6 : kd j = 6 := hkd
    have ej : (nI j).toNatClampNeg = j := nI_clamp (by omega)
    dsimp only [Option.bind_some, Option.elim_some]
    rw [if_pos hs5, if_neg hs4, ej, if_neg one_ne, if_neg (ixn hj), if_pos hk6]
    exact ⟨_, _, rfl, rfl, rfl⟩
set_option maxHeartbeats 4000000 in
theorem o_other0 {n : Nat} (hn : 10000 < n) {j a' w' : Nat} {sd : SD} (hj : j < 16) (x2 : Int64) (x4 x5 x6 x7 : Int32) (q1 : M_X11_sumAt (nI j) ro c = some (some (a', w', sd))) (q2 : M_X12_isSum (nI j) c2 = 1)
    {m : Nat} (h1 : 2 ≤ m) (h2 : m ≤ 65536) (hsd : sd = (8, 0, nI m, 0, 0, 0, 0, 0, 1, fun _ => 1)) (hkd : kd j = nI 0) (hmo : mo j = nI m) :
    ∃ r r2, M_X11_other n (nI j) x2 x4 x5 x6 x7 ro c = some r ∧ M_X12_other n (nI j) x2 x4 x5 x6 x7 c2 kd mo bi tu po lo wo wt = some r2 ∧ r = r2 := by
  unfold M_X11_other M_X12_other
  unfold M_X11_isByte M_X12_isByte
  rw [in_eq x4 1 1000 (by decide) (by decide), in_eq x5 0 (x4 - 1) (by decide) rfl, in_eq x6 0 255 (by decide) (by decide), in_eq x7 0 255 (by decide) (by decide)]
  rw [q1, q2]
  have hs5 : sd.1 = 8 ∨ sd.1 = 7 ∨ sd.1 = 6 ∨ sd.1 = 1 ∨ sd.1 = 4 := by rw [hsd]; simp
  have hs4 : sd.1 = 8 ∨ sd.1 = 7 ∨ sd.1 = 6 ∨ sd.1 = 1 := by rw [hsd]; simp
  have hk6 : ¬ kd j = 6 := by rw [hkd]; decide
  have hk0 : kd j = 0 := hkd
  have ej : (nI j).toNatClampNeg = j := nI_clamp (by omega)
  dsimp only [Option.bind_some, Option.elim_some]
  rw [if_pos hs5, if_pos hs4, ej, if_neg one_ne, if_neg (ixn hj), if_neg hk6]
  rcases hold0 (bi := bi) x2 hj h1 h2 (Or.inl hkd) hmo with ⟨a1, a2⟩ | ⟨a1, a2, s, hs, rfl⟩
  · have v1 : V_holds sd x2 = some 0 := by rw [hsd]; exact congrArg some a1
    rw [v1, a2]
    exact ⟨_, _, rfl, rfl, rfl⟩
  have va1 : V_holds sd (lN s) = some 1 := by rw [hsd]; exact congrArg some a1
  rw [va1, a2]
  dsimp only [Option.bind_some]
  rw [if_neg one_ne, if_neg one_ne]
  rcases wi_c x4 (a := 1) (b := 1000) 1 1000 rfl rfl (by omega) (by omega) with ⟨c1, -⟩ | ⟨c1, d, d1, d2, rfl⟩
  · rw [c1]
    exact ⟨_, _, rfl, rfl, rfl⟩
  rw [c1]
  rw [if_neg one_ne, if_neg one_ne]
  rcases wi_lt x5 (k := d) (by omega) with ⟨c3, -⟩ | ⟨c3, i, ei, rfl⟩
  · rw [c3]
    exact ⟨_, _, rfl, rfl, rfl⟩
  rw [c3]
  rw [if_neg one_ne, if_neg one_ne]
  rcases wi_c x6 (a := 0) (b := 255) 0 255 rfl rfl (by omega) (by omega) with ⟨c4, -⟩ | ⟨c4, y, y1, y2, rfl⟩
  · rw [c4]
    exact ⟨_, _, rfl, rfl, rfl⟩
  rw [c4]
  rw [if_neg one_ne, if_neg one_ne]
  rcases wi_c x7 (a := 0) (b := 255) 0 255 rfl rfl (by omega) (by omega) with ⟨c5, -⟩ | ⟨c5, z, z1, z2, rfl⟩
  · rw [c5]
    exact ⟨_, _, rfl, rfl, rfl⟩
  rw [c5]
  rw [if_neg one_ne, if_neg one_ne]
  rw [if_neg (ixn hj), if_pos hk0]
  have hC : V_changed n sd (nI d) (nI i) (nI y) (nI z) = some (lN (md (((1 : Nat) : Int) * ((z : Int) - y)) m)) := by
    rw [hsd]
    exact changed10 (n := d) (i := i) (a := y) (b := z) (wl := 1) (u := fun _ => 1) (wf := fun _ => 1) (by omega) (by omega) (fun _ _ => rfl) (fun _ _ => by omega) (by omega) (by omega) (by omega) h1 h2
  have hM := modulo_n (z := (s : Int) + ((z : Int) - y)) (m := m) (by omega) (by omega) (by omega) (by omega)
  have hmd := md_lt (z := ((1 : Nat) : Int) * ((z : Int) - y)) (m := m) (by omega)
  have t3 : V_merged sd (lN s) (lN (md (((1 : Nat) : Int) * ((z : Int) - y)) m)) = some (lN ((s + md (((1 : Nat) : Int) * ((z : Int) - y)) m) % m)) := by rw [hsd]; exact merged10 (by omega) (by omega) h1 h2
  rw [← lZ_add, lZ_n] at hM
  rw [hC, Option.bind_some, t3, md_add _ _ (by omega), nI_d (a := z) (b := y) (by omega) (by omega)]
  simp (disch := omega) only [i_0, i_1, i_2, i_3, i_4, i_5, i_6, i_7, i_8, i_10, i_12, i_16, i_31, i_32, i_64, i_100, i_128, i_255, i_256, i_512, i_1000, i_1128, i_65535, i_65536, nI_add, pk_mul, pk_sub, nI_ltI, nI_leI, nI_eq, nI_clamp, if_pos, if_neg, ite_true, ite_false, Option.bind_some, Option.elim_some, Option.elim_none, Sum.elim_inl, Sum.elim_inr, hkd, hmo, nI_l, hM]
  refine ⟨_, _, rfl, rfl, ?_⟩
  congr 2
  omega
set_option maxHeartbeats 4000000 in
theorem o_other1 {n : Nat} (hn : 10000 < n) {j a' w' : Nat} {sd : SD} (hj : j < 16) (x2 : Int64) (x4 x5 x6 x7 : Int32) (q1 : M_X11_sumAt (nI j) ro c = some (some (a', w', sd))) (q2 : M_X12_isSum (nI j) c2 = 1)
    {m : Nat} (h1 : 2 ≤ m) (h2 : m ≤ 65536) (hsd : sd = (7, 1, nI m, 0, 0, 0, 0, 0, 0, fun _ => 0)) (hkd : kd j = nI 1) (hmo : mo j = nI m) :
    ∃ r r2, M_X11_other n (nI j) x2 x4 x5 x6 x7 ro c = some r ∧ M_X12_other n (nI j) x2 x4 x5 x6 x7 c2 kd mo bi tu po lo wo wt = some r2 ∧ r = r2 := by
  unfold M_X11_other M_X12_other
  unfold M_X11_isByte M_X12_isByte
  rw [in_eq x4 1 1000 (by decide) (by decide), in_eq x5 0 (x4 - 1) (by decide) rfl, in_eq x6 0 255 (by decide) (by decide), in_eq x7 0 255 (by decide) (by decide)]
  rw [q1, q2]
  have hs5 : sd.1 = 8 ∨ sd.1 = 7 ∨ sd.1 = 6 ∨ sd.1 = 1 ∨ sd.1 = 4 := by rw [hsd]; simp
  have hs4 : sd.1 = 8 ∨ sd.1 = 7 ∨ sd.1 = 6 ∨ sd.1 = 1 := by rw [hsd]; simp
  have hk6 : ¬ kd j = 6 := by rw [hkd]; decide
  have hk0 : ¬ kd j = 0 := by rw [hkd]; decide
  have hk1 : kd j = 1 := hkd
  have ej : (nI j).toNatClampNeg = j := nI_clamp (by omega)
  dsimp only [Option.bind_some, Option.elim_some]
  rw [if_pos hs5, if_pos hs4, ej, if_neg one_ne, if_neg (ixn hj), if_neg hk6]
  rcases hold1 (bi := bi) x2 hj h1 h2 hkd hmo with ⟨a1, a2⟩ | ⟨a1, a2, s, hs, hsa, hsb, rfl⟩
  · have v1 : V_holds sd x2 = some 0 := by rw [hsd]; exact congrArg some a1
    rw [v1, a2]
    exact ⟨_, _, rfl, rfl, rfl⟩
  have va1 : V_holds sd (lN s) = some 1 := by rw [hsd]; exact congrArg some a1
  rw [va1, a2]
  dsimp only [Option.bind_some]
  rw [if_neg one_ne, if_neg one_ne]
  rcases wi_c x4 (a := 1) (b := 1000) 1 1000 rfl rfl (by omega) (by omega) with ⟨c1, -⟩ | ⟨c1, d, d1, d2, rfl⟩
  · rw [c1]
    exact ⟨_, _, rfl, rfl, rfl⟩
  rw [c1]
  rw [if_neg one_ne, if_neg one_ne]
  rcases wi_lt x5 (k := d) (by omega) with ⟨c3, -⟩ | ⟨c3, i, ei, rfl⟩
  · rw [c3]
    exact ⟨_, _, rfl, rfl, rfl⟩
  rw [c3]
  rw [if_neg one_ne, if_neg one_ne]
  rcases wi_c x6 (a := 0) (b := 255) 0 255 rfl rfl (by omega) (by omega) with ⟨c4, -⟩ | ⟨c4, y, y1, y2, rfl⟩
  · rw [c4]
    exact ⟨_, _, rfl, rfl, rfl⟩
  rw [c4]
  rw [if_neg one_ne, if_neg one_ne]
  rcases wi_c x7 (a := 0) (b := 255) 0 255 rfl rfl (by omega) (by omega) with ⟨c5, -⟩ | ⟨c5, z, z1, z2, rfl⟩
  · rw [c5]
    exact ⟨_, _, rfl, rfl, rfl⟩
  rw [c5]
  rw [if_neg one_ne, if_neg one_ne]
  rw [if_neg (ixn hj), if_neg hk0, if_pos hk1]
  have e0 := Int.mul_le_mul_of_nonneg_left (show (z : Int) - y ≤ 256 by omega) (show (0 : Int) ≤ (d : Int) - i by omega)
  have e9 := Int.mul_le_mul_of_nonneg_left (show -(256 : Int) ≤ (z : Int) - y by omega) (show (0 : Int) ≤ (d : Int) - i by omega)
  have hC : V_changed n sd (nI d) (nI i) (nI y) (nI z) = some (lN (65536 * md (((d : Int) - i) * ((z : Int) - y)) m + md ((z : Int) - y) m)) := by
    rw [hsd]
    exact changed9 (n := d) (i := i) (a := y) (b := z) (by omega) (by omega) (by omega) (by omega) h1 h2
  have hM1 := modulo_n (z := ((s / 65536 : Nat) : Int) + ((d : Int) - i) * ((z : Int) - y)) (m := m) (by omega) (by omega) (by omega) (by omega)
  have hM2 := modulo_n (z := ((s % 65536 : Nat) : Int) + ((z : Int) - y)) (m := m) (by omega) (by omega) (by omega) (by omega)
  have hmd := md_lt (z := (z : Int) - y) (m := m) (by omega)
  have hmd2 := md_lt (z := ((d : Int) - i) * ((z : Int) - y)) (m := m) (by omega)
  have t3 : V_merged sd (lN s) (lN (65536 * md (((d : Int) - i) * ((z : Int) - y)) m + md ((z : Int) - y) m)) = some (lN (mgT m s (65536 * md (((d : Int) - i) * ((z : Int) - y)) m + md ((z : Int) - y) m))) := by rw [hsd]; exact merged9 (by omega) (by omega) h1 h2
  rw [Int.mul_comm, ← lZ_add, lZ_n, ← lZ_mul] at hM1
  rw [← lZ_add, lZ_n] at hM2
  rw [hC, Option.bind_some, t3, mgT_pk (by omega), md_add _ _ (by omega), md_add _ _ (by omega), nI_d (a := z) (b := y) (by omega) (by omega), nI_d (a := d) (b := i) (by omega) (by omega)]
  have r1 : lN s - lN s / 65536 * 65536 = lN (s % 65536) := pk_lRem (b := 65536) (by omega) (by omega) (by omega)
  have r2 : lN s / 65536 = lN (s / 65536) := pk_lDiv (b := 65536) (by omega) (by omega) (by omega)
  rw [r1, r2]
  simp (disch := omega) only [i_0, i_1, i_2, i_3, i_4, i_5, i_6, i_7, i_8, i_10, i_12, i_16, i_31, i_32, i_64, i_100, i_128, i_255, i_256, i_512, i_1000, i_1128, i_65535, i_65536, nI_add, pk_mul, pk_sub, nI_ltI, nI_leI, nI_eq, nI_clamp, if_pos, if_neg, ite_true, ite_false, Option.bind_some, Option.elim_some, Option.elim_none, Sum.elim_inl, Sum.elim_inr, hkd, hmo, nI_l, l_0, l_1, l_2, l_3, l_4, l_5, l_6, l_7, l_8, l_10, l_12, l_16, l_32, l_63, l_64, l_255, l_256, l_1000, l_65535, l_65536, hM1, hM2, lN_mul, lN_add]
  exact ⟨_, _, rfl, rfl, by rw [Int.mul_comm]⟩
set_option maxHeartbeats 4000000 in
theorem o_other2 {n : Nat} (hn : 10000 < n) {j a' w' : Nat} {sd : SD} (hj : j < 16) (x2 : Int64) (x4 x5 x6 x7 : Int32) (q1 : M_X11_sumAt (nI j) ro c = some (some (a', w', sd))) (q2 : M_X12_isSum (nI j) c2 = 1)
    {m wl : Nat} {g : Nat → Int32} (h1 : 2 ≤ m) (h2 : m ≤ 65536) (h3 : 1 ≤ wl) (h4 : wl ≤ 12) (hsd : sd = (8, 2, nI m, 0, 0, 0, 0, 0, wl, g)) (hkd : kd j = nI 2) (hmo : mo j = nI m) (hwo : wo j = nI wl) (h9 : ∀ i, i < wl → wt (12 * j + i) = g i ∧ ∃ v, v < 65536 ∧ g i = nI v) :
    ∃ r r2, M_X11_other n (nI j) x2 x4 x5 x6 x7 ro c = some r ∧ M_X12_other n (nI j) x2 x4 x5 x6 x7 c2 kd mo bi tu po lo wo wt = some r2 ∧ r = r2 := by
  unfold M_X11_other M_X12_other
  unfold M_X11_isByte M_X12_isByte
  rw [in_eq x4 1 1000 (by decide) (by decide), in_eq x5 0 (x4 - 1) (by decide) rfl, in_eq x6 0 255 (by decide) (by decide), in_eq x7 0 255 (by decide) (by decide)]
  rw [q1, q2]
  have hs5 : sd.1 = 8 ∨ sd.1 = 7 ∨ sd.1 = 6 ∨ sd.1 = 1 ∨ sd.1 = 4 := by rw [hsd]; simp
  have hs4 : sd.1 = 8 ∨ sd.1 = 7 ∨ sd.1 = 6 ∨ sd.1 = 1 := by rw [hsd]; simp
  have hk6 : ¬ kd j = 6 := by rw [hkd]; decide
  have hk0 : ¬ kd j = 0 := by rw [hkd]; decide
  have hk1 : ¬ kd j = 1 := by rw [hkd]; decide
  have hk2 : kd j = 2 := hkd
  have ej : (nI j).toNatClampNeg = j := nI_clamp (by omega)
  dsimp only [Option.bind_some, Option.elim_some]
  rw [if_pos hs5, if_pos hs4, ej, if_neg one_ne, if_neg (ixn hj), if_neg hk6]
  rcases hold0 (bi := bi) x2 hj h1 h2 (Or.inr hkd) hmo with ⟨a1, a2⟩ | ⟨a1, a2, s, hs, rfl⟩
  · have v1 : V_holds sd x2 = some 0 := by rw [hsd]; exact congrArg some a1
    rw [v1, a2]
    exact ⟨_, _, rfl, rfl, rfl⟩
  have va1 : V_holds sd (lN s) = some 1 := by rw [hsd]; exact congrArg some a1
  rw [va1, a2]
  dsimp only [Option.bind_some]
  rw [if_neg one_ne, if_neg one_ne]
  rcases wi_c x4 (a := 1) (b := 1000) 1 1000 rfl rfl (by omega) (by omega) with ⟨c1, -⟩ | ⟨c1, d, d1, d2, rfl⟩
  · rw [c1]
    exact ⟨_, _, rfl, rfl, rfl⟩
  rw [c1]
  rw [if_neg one_ne, if_neg one_ne]
  rcases wi_lt x5 (k := d) (by omega) with ⟨c3, -⟩ | ⟨c3, i, ei, rfl⟩
  · rw [c3]
    exact ⟨_, _, rfl, rfl, rfl⟩
  rw [c3]
  rw [if_neg one_ne, if_neg one_ne]
  rcases wi_c x6 (a := 0) (b := 255) 0 255 rfl rfl (by omega) (by omega) with ⟨c4, -⟩ | ⟨c4, y, y1, y2, rfl⟩
  · rw [c4]
    exact ⟨_, _, rfl, rfl, rfl⟩
  rw [c4]
  rw [if_neg one_ne, if_neg one_ne]
  rcases wi_c x7 (a := 0) (b := 255) 0 255 rfl rfl (by omega) (by omega) with ⟨c5, -⟩ | ⟨c5, z, z1, z2, rfl⟩
  · rw [c5]
    exact ⟨_, _, rfl, rfl, rfl⟩
  rw [c5]
  rw [if_neg one_ne, if_neg one_ne]
  rw [if_neg (ixn hj), if_neg hk0, if_neg hk1, if_pos hk2]
  have hg : ∀ i, i < wl → g i = nI (bv g i) ∧ bv g i < 65536 := fun i hi => bv_of (by omega) (h9 i hi).2
  have hz := Nat.mod_lt i (show wl > 0 by omega)
  have hgi := (hg _ hz).2
  have hwt : wt (12 * j + i % wl) = nI (bv g (i % wl)) := ((h9 _ hz).1).trans (hg _ hz).1
  have e0 := Int.mul_le_mul_of_nonneg_left (show (z : Int) - y ≤ 256 by omega) (show (0 : Int) ≤ (bv g (i % wl) : Int) by omega)
  have e9 := Int.mul_le_mul_of_nonneg_left (show -(256 : Int) ≤ (z : Int) - y by omega) (show (0 : Int) ≤ (bv g (i % wl) : Int) by omega)
  have hC : V_changed n sd (nI d) (nI i) (nI y) (nI z) = some (lN (md ((bv g (i % wl) : Int) * ((z : Int) - y)) m)) := by
    rw [hsd]
    exact changed10 (n := d) (i := i) (a := y) (b := z) (wl := wl) (u := bv g) (wf := g) h3 h4 (fun i hi => (hg i hi).1) (fun i hi => (hg i hi).2) (by omega) (by omega) (by omega) h1 h2
  have hM := modulo_n (z := (s : Int) + (bv g (i % wl) : Int) * ((z : Int) - y)) (m := m) (by omega) (by omega) (by omega) (by omega)
  have hmd := md_lt (z := (bv g (i % wl) : Int) * ((z : Int) - y)) (m := m) (by omega)
  have t3 : V_merged sd (lN s) (lN (md ((bv g (i % wl) : Int) * ((z : Int) - y)) m)) = some (lN ((s + md ((bv g (i % wl) : Int) * ((z : Int) - y)) m) % m)) := by rw [hsd]; exact merged10 (by omega) (by omega) h1 h2
  rw [Int.mul_comm, ← lZ_add, lZ_n, ← lZ_mul, lZ_n] at hM
  rw [hC, Option.bind_some, t3, md_add _ _ (by omega), nI_d (a := z) (b := y) (by omega) (by omega)]
  simp (disch := omega) only [i_0, i_1, i_2, i_3, i_4, i_5, i_6, i_7, i_8, i_10, i_12, i_16, i_31, i_32, i_64, i_100, i_128, i_255, i_256, i_512, i_1000, i_1128, i_65535, i_65536, nI_add, pk_mul, pk_sub, nI_ltI, nI_leI, nI_eq, nI_clamp, if_pos, if_neg, ite_true, ite_false, Option.bind_some, Option.elim_some, Option.elim_none, Sum.elim_inl, Sum.elim_inr, hkd, hmo, hwo, pk_rem, hwt, nI_l, hM]
  exact ⟨_, _, rfl, rfl, by rw [Int.mul_comm]⟩
set_option maxHeartbeats 4000000 in
theorem o_other3 {n : Nat} (hn : 10000 < n) {j a' w' : Nat} {sd : SD} (hj : j < 16) (x2 : Int64) (x4 x5 x6 x7 : Int32) (q1 : M_X11_sumAt (nI j) ro c = some (some (a', w', sd))) (q2 : M_X12_isSum (nI j) c2 = 1)
    {w t : Nat} (h1 : 8 ≤ w) (h2 : w ≤ 32) (h3 : t < w) (hsd : sd = (6, 3, nI w, nI t, 0, 0, 0, 0, 0, fun _ => 0)) (hkd : kd j = nI 3) (hbi : bi j = nI w) (htu : tu j = nI t) :
    ∃ r r2, M_X11_other n (nI j) x2 x4 x5 x6 x7 ro c = some r ∧ M_X12_other n (nI j) x2 x4 x5 x6 x7 c2 kd mo bi tu po lo wo wt = some r2 ∧ r = r2 := by
  unfold M_X11_other M_X12_other
  unfold M_X11_isByte M_X12_isByte
  rw [in_eq x4 1 1000 (by decide) (by decide), in_eq x5 0 (x4 - 1) (by decide) rfl, in_eq x6 0 255 (by decide) (by decide), in_eq x7 0 255 (by decide) (by decide)]
  rw [q1, q2]
  have hs5 : sd.1 = 8 ∨ sd.1 = 7 ∨ sd.1 = 6 ∨ sd.1 = 1 ∨ sd.1 = 4 := by rw [hsd]; simp
  have hs4 : sd.1 = 8 ∨ sd.1 = 7 ∨ sd.1 = 6 ∨ sd.1 = 1 := by rw [hsd]; simp
  have hk6 : ¬ kd j = 6 := by rw [hkd]; decide
  have hk0 : ¬ kd j = 0 := by rw [hkd]; decide
  have hk1 : ¬ kd j = 1 := by rw [hkd]; decide
  have hk2 : ¬ kd j = 2 := by rw [hkd]; decide
  have hk3 : kd j = 3 := hkd
  have ej : (nI j).toNatClampNeg = j := nI_clamp (by omega)
  dsimp only [Option.bind_some, Option.elim_some]
  rw [if_pos hs5, if_pos hs4, ej, if_neg one_ne, if_neg (ixn hj), if_neg hk6]
  rcases hold3 (mo := mo) x2 hj h2 (Or.inl rfl) hkd hbi with ⟨a1, a2⟩ | ⟨a1, a2, s, hs, rfl⟩
  · have v1 : V_holds sd x2 = some 0 := by rw [hsd]; exact congrArg some a1
    rw [v1, a2]
    exact ⟨_, _, rfl, rfl, rfl⟩
  have va1 : V_holds sd (lN s) = some 1 := by rw [hsd]; exact congrArg some a1
  rw [va1, a2]
  dsimp only [Option.bind_some]
  rw [if_neg one_ne, if_neg one_ne]
  rcases wi_c x4 (a := 1) (b := 1000) 1 1000 rfl rfl (by omega) (by omega) with ⟨c1, -⟩ | ⟨c1, d, d1, d2, rfl⟩
  · rw [c1]
    exact ⟨_, _, rfl, rfl, rfl⟩
  rw [c1]
  rw [if_neg one_ne, if_neg one_ne]
  rcases wi_lt x5 (k := d) (by omega) with ⟨c3, -⟩ | ⟨c3, i, ei, rfl⟩
  · rw [c3]
    exact ⟨_, _, rfl, rfl, rfl⟩
  rw [c3]
  rw [if_neg one_ne, if_neg one_ne]
  rcases wi_c x6 (a := 0) (b := 255) 0 255 rfl rfl (by omega) (by omega) with ⟨c4, -⟩ | ⟨c4, y, y1, y2, rfl⟩
  · rw [c4]
    exact ⟨_, _, rfl, rfl, rfl⟩
  rw [c4]
  rw [if_neg one_ne, if_neg one_ne]
  rcases wi_c x7 (a := 0) (b := 255) 0 255 rfl rfl (by omega) (by omega) with ⟨c5, -⟩ | ⟨c5, z, z1, z2, rfl⟩
  · rw [c5]
    exact ⟨_, _, rfl, rfl, rfl⟩
  rw [c5]
  rw [if_neg one_ne, if_neg one_ne]
  rw [if_neg (ixn hj), if_neg hk0, if_neg hk1, if_neg hk2, if_pos hk3]
  have h8 : t * (d - 1 - i) ≤ 32 * 1000 := Nat.mul_le_mul (by omega) (by omega)
  have hx : y ^^^ z < 2 ^ 8 := Nat.xor_lt_two_pow (by omega) (by omega)
  have hp8 : 2 ^ 8 ≤ 2 ^ w := Nat.pow_le_pow_right (by decide) h1
  have hC : V_changed n sd (nI d) (nI i) (nI y) (nI z) = some (lN (rol w (t * (d - 1 - i) % w) (y ^^^ z))) := by
    rw [hsd]
    exact changed8 (n := d) (i := i) (a := y) (b := z) ei (by omega) (by omega) (by omega) h1 h2 h3
  have hM := rolled_n (k := t * (d - 1 - i)) (s := y ^^^ z) (by omega) h2 (by omega) (show y ^^^ z < 2 ^ w by omega)
  have t3 : V_merged sd (lN s) (lN (rol w (t * (d - 1 - i) % w) (y ^^^ z))) = some (lN (s ^^^ rol w (t * (d - 1 - i) % w) (y ^^^ z))) := by rw [hsd]; exact congrArg some (l_xor _ _)
  rw [hC, Option.bind_some, t3]
  simp (disch := omega) only [i_0, i_1, i_2, i_3, i_4, i_5, i_6, i_7, i_8, i_10, i_12, i_16, i_31, i_32, i_64, i_100, i_128, i_255, i_256, i_512, i_1000, i_1128, i_65535, i_65536, nI_add, pk_mul, pk_sub, nI_ltI, nI_leI, nI_eq, nI_clamp, if_pos, if_neg, ite_true, ite_false, Option.bind_some, Option.elim_some, Option.elim_none, Sum.elim_inl, Sum.elim_inr, hkd, hbi, htu, n_xor, nI_l, hM, l_xor]
  exact ⟨_, _, rfl, rfl, rfl⟩
set_option maxHeartbeats 4000000 in
theorem o_other4 {n : Nat} (hn : 10000 < n) {j a' w' : Nat} {sd : SD} (hj : j < 16) (x2 : Int64) (x4 x5 x6 x7 : Int32) (q1 : M_X11_sumAt (nI j) ro c = some (some (a', w', sd))) (q2 : M_X12_isSum (nI j) c2 = 1)
    {k w p b f l : Nat} (h1 : k = 4 ∨ k = 5) (h2 : 3 ≤ w) (h3 : w ≤ 32) (h4 : p < 2 ^ w) (h5 : b < 2 ^ w) (h6 : f < 2 ^ w) (h7 : l < 2) (hsd : sd = (1, nI k, nI w, 0, lN p, lN b, lN f, nI l, 0, fun _ => 0)) (hkd : kd j = nI k) (hbi : bi j = nI w) (hpo : po j = lN p) (hbe : be j = lN b) (hfi : fi j = lN f) (hlo : lo j = nI l) :
    ∃ r r2, M_X11_other n (nI j) x2 x4 x5 x6 x7 ro c = some r ∧ M_X12_other n (nI j) x2 x4 x5 x6 x7 c2 kd mo bi tu po lo wo wt = some r2 ∧ r = r2 := by
  unfold M_X11_other M_X12_other
  unfold M_X11_isByte M_X12_isByte
  rw [in_eq x4 1 1000 (by decide) (by decide), in_eq x5 0 (x4 - 1) (by decide) rfl, in_eq x6 0 255 (by decide) (by decide), in_eq x7 0 255 (by decide) (by decide)]
  rw [q1, q2]
  have hs5 : sd.1 = 8 ∨ sd.1 = 7 ∨ sd.1 = 6 ∨ sd.1 = 1 ∨ sd.1 = 4 := by rw [hsd]; simp
  have hs4 : sd.1 = 8 ∨ sd.1 = 7 ∨ sd.1 = 6 ∨ sd.1 = 1 := by rw [hsd]; simp
  have hk6 : ¬ kd j = 6 := by rw [hkd]; rcases h1 with rfl | rfl <;> decide
  have hk0 : ¬ kd j = 0 := by rw [hkd]; rcases h1 with rfl | rfl <;> decide
  have hk1 : ¬ kd j = 1 := by rw [hkd]; rcases h1 with rfl | rfl <;> decide
  have hk2 : ¬ kd j = 2 := by rw [hkd]; rcases h1 with rfl | rfl <;> decide
  have hk3 : ¬ kd j = 3 := by rw [hkd]; rcases h1 with rfl | rfl <;> decide
  have ej : (nI j).toNatClampNeg = j := nI_clamp (by omega)
  dsimp only [Option.bind_some, Option.elim_some]
  rw [if_pos hs5, if_pos hs4, ej, if_neg one_ne, if_neg (ixn hj), if_neg hk6]
  rcases hold3 (mo := mo) x2 hj h3 (Or.inr h1) hkd hbi with ⟨a1, a2⟩ | ⟨a1, a2, s, hs, rfl⟩
  · have v1 : V_holds sd x2 = some 0 := by rw [hsd]; exact congrArg some a1
    rw [v1, a2]
    exact ⟨_, _, rfl, rfl, rfl⟩
  have va1 : V_holds sd (lN s) = some 1 := by rw [hsd]; exact congrArg some a1
  rw [va1, a2]
  dsimp only [Option.bind_some]
  rw [if_neg one_ne, if_neg one_ne]
  rcases wi_c x4 (a := 1) (b := 1000) 1 1000 rfl rfl (by omega) (by omega) with ⟨c1, -⟩ | ⟨c1, d, d1, d2, rfl⟩
  · rw [c1]
    exact ⟨_, _, rfl, rfl, rfl⟩
  rw [c1]
  rw [if_neg one_ne, if_neg one_ne]
  rcases wi_lt x5 (k := d) (by omega) with ⟨c3, -⟩ | ⟨c3, i, ei, rfl⟩
  · rw [c3]
    exact ⟨_, _, rfl, rfl, rfl⟩
  rw [c3]
  rw [if_neg one_ne, if_neg one_ne]
  rcases wi_c x6 (a := 0) (b := 255) 0 255 rfl rfl (by omega) (by omega) with ⟨c4, -⟩ | ⟨c4, y, y1, y2, rfl⟩
  · rw [c4]
    exact ⟨_, _, rfl, rfl, rfl⟩
  rw [c4]
  rw [if_neg one_ne, if_neg one_ne]
  rcases wi_c x7 (a := 0) (b := 255) 0 255 rfl rfl (by omega) (by omega) with ⟨c5, -⟩ | ⟨c5, z, z1, z2, rfl⟩
  · rw [c5]
    exact ⟨_, _, rfl, rfl, rfl⟩
  rw [c5]
  rw [if_neg one_ne, if_neg one_ne]
  rw [if_neg (ixn hj), if_neg hk0, if_neg hk1, if_neg hk2, if_neg hk3]
  have hx : y ^^^ z < 2 ^ 8 := Nat.xor_lt_two_pow (by omega) (by omega)
  have h0 : (0 : Nat) < 2 ^ w := Nat.two_pow_pos w
  have hC : V_changed n sd (nI d) (nI i) (nI y) (nI z) = some (lN (dn w p (8 * (d - 1 - i)) (byt w p l (y ^^^ z) 8 0))) := by
    rw [hsd]
    exact changed1 (N := n) (n := d) (i := i) (a := y) (b := z) (l := l) hn ei (by omega) (by omega) (by omega) h2 h3 h4 h7
  have hM1 := stepByte_n (n := n) (w := w) (p := p) (l := l) (s := 0) (b := y ^^^ z) (by omega) (by omega) h3 h4 h0 h7 (by omega)
  have hM2 := passed_n (n := n) (w := w) (p := p) (k := d - 1 - i) hn hj hbi hpo (by omega) h3 h4 (byt_lt h4 l (y ^^^ z) 8 h0) (by omega)
  have t3 : V_merged sd (lN s) (lN (dn w p (8 * (d - 1 - i)) (byt w p l (y ^^^ z) 8 0))) = some (lN (s ^^^ dn w p (8 * (d - 1 - i)) (byt w p l (y ^^^ z) 8 0))) := by rw [hsd]; exact congrArg some (l_xor _ _)
  rw [hC, Option.bind_some, t3, show (0 : Int64) = lN 0 from rfl]
  rcases h1 with rfl | rfl <;> simp (disch := omega) only [i_0, i_1, i_2, i_3, i_4, i_5, i_6, i_7, i_8, i_10, i_12, i_16, i_31, i_32, i_64, i_100, i_128, i_255, i_256, i_512, i_1000, i_1128, i_65535, i_65536, nI_add, pk_mul, pk_sub, nI_ltI, nI_leI, nI_eq, nI_clamp, if_pos, if_neg, ite_true, ite_false, Option.bind_some, Option.elim_some, Option.elim_none, Sum.elim_inl, Sum.elim_inr, hkd, hbi, hpo, hlo, n_xor, hM1, hM2, l_xor] <;> exact ⟨_, _, rfl, rfl, rfl⟩
theorem o_other {n : Nat} (hn : 10000 < n) (h : I_sums ro c c2 kd mo bi tu po be fi lo wo wt ce) (x1 : Int32) (x2 : Int64) (x4 x5 x6 x7 : Int32) :
    ∃ r r2, M_X11_other n x1 x2 x4 x5 x6 x7 ro c = some r ∧ M_X12_other n x1 x2 x4 x5 x6 x7 c2 kd mo bi tu po lo wo wt = some r2 ∧ r = r2 := by
  rcases sum_at h x1 with ⟨q1, q2⟩ | ⟨j, a', w', sd, hj, rfl, q1, q2, q3⟩
  · unfold M_X11_other M_X12_other
    rw [q1, q2]
    exact ⟨_, _, rfl, rfl, rfl⟩
  rcases q3 with ⟨m, h1, h2, hsd, hkd, hmo⟩ | ⟨m, h1, h2, hsd, hkd, hmo⟩ | ⟨m, wl, g, h1, h2, h3, h4, hsd, hkd, hmo, hwo, h9⟩ | ⟨w, t, h1, h2, h3, hsd, hkd, hbi, htu⟩ | ⟨k, w, p, b, f, l, h1, h2, h3, h4, h5, h6, h7, hsd, hkd, hbi, hpo, hbe, hfi, hlo⟩ | ⟨q, g, h1, h2, hsd, hkd, hmo, h6⟩
  · exact o_other0 hn hj x2 x4 x5 x6 x7 q1 q2 h1 h2 hsd hkd hmo
  · exact o_other1 hn hj x2 x4 x5 x6 x7 q1 q2 h1 h2 hsd hkd hmo
  · exact o_other2 hn hj x2 x4 x5 x6 x7 q1 q2 h1 h2 h3 h4 hsd hkd hmo hwo h9
  · exact o_other3 hn hj x2 x4 x5 x6 x7 q1 q2 h1 h2 h3 hsd hkd hbi htu
  · exact o_other4 hn hj x2 x4 x5 x6 x7 q1 q2 h1 h2 h3 h4 h5 h6 h7 hsd hkd hbi hpo hbe hfi hlo
  · unfold M_X11_other M_X12_other
    rw [q1, q2]
    have hs5 : sd.1 = 8 ∨ sd.1 = 7 ∨ sd.1 = 6 ∨ sd.1 = 1 ∨ sd.1 = 4 := by rw [hsd]; simp
    have hs4 : ¬ (sd.1 = 8 ∨ sd.1 = 7 ∨ sd.1 = 6 ∨ sd.1 = 1) := by rw [hsd]; simp
    have hk6 : kd j = 6 := hkd
    have ej : (nI j).toNatClampNeg = j := nI_clamp (by omega)
    dsimp only [Option.bind_some, Option.elim_some]
    rw [if_pos hs5, if_neg hs4, ej, if_neg one_ne, if_neg (ixn hj), if_pos hk6]
    exact ⟨_, _, rfl, rfl, rfl⟩
set_option maxHeartbeats 4000000 in
theorem o_less0 {n : Nat} (hn : 10000 < n) {j a' w' : Nat} {sd : SD} (hj : j < 16) (x2 : Int64) (x4 x5 : Int32) (q1 : M_X11_sumAt (nI j) ro c = some (some (a', w', sd))) (q2 : M_X12_isSum (nI j) c2 = 1)
    {m : Nat} (h1 : 2 ≤ m) (h2 : m ≤ 65536) (hsd : sd = (8, 0, nI m, 0, 0, 0, 0, 0, 1, fun _ => 1)) (hkd : kd j = nI 0) (hmo : mo j = nI m) :
    ∃ r r2, M_X11_less n (nI j) x2 x4 x5 ro c = some r ∧ M_X12_less n (nI j) x2 x4 x5 c2 kd mo bi tu po be lo wo wt = some r2 ∧ r = r2 := by
  unfold M_X11_less M_X12_less
  unfold M_X11_isByte M_X12_isByte
  rw [in_eq x4 1 1000 (by decide) (by decide), in_eq x5 0 255 (by decide) (by decide)]
  rw [q1, q2]
  have hs5 : sd.1 = 8 ∨ sd.1 = 7 ∨ sd.1 = 6 ∨ sd.1 = 1 ∨ sd.1 = 4 := by rw [hsd]; simp
  have hs4 : sd.1 = 8 ∨ sd.1 = 7 ∨ sd.1 = 6 ∨ sd.1 = 1 := by rw [hsd]; simp
  have hk6 : ¬ kd j = 6 := by rw [hkd]; decide
  have hk0 : kd j = 0 := hkd
  have ej : (nI j).toNatClampNeg = j := nI_clamp (by omega)
  dsimp only [Option.bind_some, Option.elim_some]
  rw [if_pos hs5, if_pos hs4, ej, if_neg one_ne, if_neg (ixn hj), if_neg hk6]
  rcases hold0 (bi := bi) x2 hj h1 h2 (Or.inl hkd) hmo with ⟨a1, a2⟩ | ⟨a1, a2, s, hs, rfl⟩
  · have v1 : V_holds sd x2 = some 0 := by rw [hsd]; exact congrArg some a1
    rw [v1, a2]
    exact ⟨_, _, rfl, rfl, rfl⟩
  have va1 : V_holds sd (lN s) = some 1 := by rw [hsd]; exact congrArg some a1
  rw [va1, a2]
  dsimp only [Option.bind_some]
  rw [if_neg one_ne, if_neg one_ne]
  rcases wi_c x4 (a := 1) (b := 1000) 1 1000 rfl rfl (by omega) (by omega) with ⟨c1, -⟩ | ⟨c1, d, d1, d2, rfl⟩
  · rw [c1]
    exact ⟨_, _, rfl, rfl, rfl⟩
  rw [c1]
  rw [if_neg one_ne, if_neg one_ne]
  rcases wi_c x5 (a := 0) (b := 255) 0 255 rfl rfl (by omega) (by omega) with ⟨c4, -⟩ | ⟨c4, y, y1, y2, rfl⟩
  · rw [c4]
    exact ⟨_, _, rfl, rfl, rfl⟩
  rw [c4]
  rw [if_neg one_ne, if_neg one_ne]
  rw [if_neg (ixn hj), if_pos hk0]
  have hC : V_changed n sd (nI d) 0 (nI y) 0 = some (lN (md (((1 : Nat) : Int) * (((0 : Nat) : Int) - y)) m)) := by
    rw [hsd]
    exact changed10 (n := d) (i := 0) (a := y) (b := 0) (wl := 1) (u := fun _ => 1) (wf := fun _ => 1) (by omega) (by omega) (fun _ _ => rfl) (fun _ _ => by omega) (by omega) (by omega) (by omega) h1 h2
  have hM := modulo_n (z := (s : Int) - (y : Int)) (m := m) (by omega) (by omega) (by omega) (by omega)
  have hmd := md_lt (z := ((1 : Nat) : Int) * (((0 : Nat) : Int) - y)) (m := m) (by omega)
  have t1 : V_canDropFirst sd = some 1 := by rw [hsd]; rfl
  have t3 : V_merged sd (lN s) (lN (md (((1 : Nat) : Int) * (((0 : Nat) : Int) - y)) m)) = some (lN ((s + md (((1 : Nat) : Int) * (((0 : Nat) : Int) - y)) m) % m)) := by rw [hsd]; exact merged10 (by omega) (by omega) h1 h2
  have t4 : ∀ v, V_withoutLeadingZero n sd v (nI d) = some v := fun v => by rw [hsd]; rfl
  rw [← lZ_sub, lZ_n, lZ_n] at hM
  rw [t1, Option.bind_some, if_neg one_ne, hC, Option.bind_some, t3, md_add _ _ (by omega), Option.bind_some, t4]
  simp (disch := omega) only [i_0, i_1, i_2, i_3, i_4, i_5, i_6, i_7, i_8, i_10, i_12, i_16, i_31, i_32, i_64, i_100, i_128, i_255, i_256, i_512, i_1000, i_1128, i_65535, i_65536, nI_add, pk_mul, pk_sub, nI_ltI, nI_leI, nI_eq, nI_clamp, if_pos, if_neg, ite_true, ite_false, Option.bind_some, Option.elim_some, Option.elim_none, Sum.elim_inl, Sum.elim_inr, hkd, hmo, nI_l, hM]
  refine ⟨_, _, rfl, rfl, ?_⟩
  congr 2
  omega
set_option maxHeartbeats 4000000 in
theorem o_less1 {n : Nat} (hn : 10000 < n) {j a' w' : Nat} {sd : SD} (hj : j < 16) (x2 : Int64) (x4 x5 : Int32) (q1 : M_X11_sumAt (nI j) ro c = some (some (a', w', sd))) (q2 : M_X12_isSum (nI j) c2 = 1)
    {m : Nat} (h1 : 2 ≤ m) (h2 : m ≤ 65536) (hsd : sd = (7, 1, nI m, 0, 0, 0, 0, 0, 0, fun _ => 0)) (hkd : kd j = nI 1) (hmo : mo j = nI m) :
    ∃ r r2, M_X11_less n (nI j) x2 x4 x5 ro c = some r ∧ M_X12_less n (nI j) x2 x4 x5 c2 kd mo bi tu po be lo wo wt = some r2 ∧ r = r2 := by
  unfold M_X11_less M_X12_less
  unfold M_X11_isByte M_X12_isByte
  rw [in_eq x4 1 1000 (by decide) (by decide), in_eq x5 0 255 (by decide) (by decide)]
  rw [q1, q2]
  have hs5 : sd.1 = 8 ∨ sd.1 = 7 ∨ sd.1 = 6 ∨ sd.1 = 1 ∨ sd.1 = 4 := by rw [hsd]; simp
  have hs4 : sd.1 = 8 ∨ sd.1 = 7 ∨ sd.1 = 6 ∨ sd.1 = 1 := by rw [hsd]; simp
  have hk6 : ¬ kd j = 6 := by rw [hkd]; decide
  have hk0 : ¬ kd j = 0 := by rw [hkd]; decide
  have hk1 : kd j = 1 := hkd
  have ej : (nI j).toNatClampNeg = j := nI_clamp (by omega)
  dsimp only [Option.bind_some, Option.elim_some]
  rw [if_pos hs5, if_pos hs4, ej, if_neg one_ne, if_neg (ixn hj), if_neg hk6]
  rcases hold1 (bi := bi) x2 hj h1 h2 hkd hmo with ⟨a1, a2⟩ | ⟨a1, a2, s, hs, hsa, hsb, rfl⟩
  · have v1 : V_holds sd x2 = some 0 := by rw [hsd]; exact congrArg some a1
    rw [v1, a2]
    exact ⟨_, _, rfl, rfl, rfl⟩
  have va1 : V_holds sd (lN s) = some 1 := by rw [hsd]; exact congrArg some a1
  rw [va1, a2]
  dsimp only [Option.bind_some]
  rw [if_neg one_ne, if_neg one_ne]
  rcases wi_c x4 (a := 1) (b := 1000) 1 1000 rfl rfl (by omega) (by omega) with ⟨c1, -⟩ | ⟨c1, d, d1, d2, rfl⟩
  · rw [c1]
    exact ⟨_, _, rfl, rfl, rfl⟩
  rw [c1]
  rw [if_neg one_ne, if_neg one_ne]
  rcases wi_c x5 (a := 0) (b := 255) 0 255 rfl rfl (by omega) (by omega) with ⟨c4, -⟩ | ⟨c4, y, y1, y2, rfl⟩
  · rw [c4]
    exact ⟨_, _, rfl, rfl, rfl⟩
  rw [c4]
  rw [if_neg one_ne, if_neg one_ne]
  rw [if_neg (ixn hj), if_neg hk0, if_pos hk1]
  have e0 : (d : Int) * (y : Int) ≤ 1000 * 256 := by
    have h8 := Nat.mul_le_mul (show d ≤ 1000 by omega) (show y ≤ 256 by omega)
    have h9 : ((d * y : Nat) : Int) = (d : Int) * y := Int.natCast_mul d y
    omega
  have e1 : 0 ≤ (d : Int) * (y : Int) := Int.mul_nonneg (by omega) (by omega)
  have e2 : ((d : Int) - ((0 : Nat) : Int)) * (((0 : Nat) : Int) - (y : Int)) = -((d : Int) * y) := by
    rw [show ((d : Int) - ((0 : Nat) : Int)) = d by omega, show (((0 : Nat) : Int) - (y : Int)) = -y by omega, Int.mul_neg]
  have hC : V_changed n sd (nI d) 0 (nI y) 0 = some (lN (65536 * md (-((d : Int) * y)) m + md (((0 : Nat) : Int) - y) m)) := by
    rw [hsd, ← e2]
    exact changed9 (n := d) (i := 0) (a := y) (b := 0) (by omega) (by omega) (by omega) (by omega) h1 h2
  have hM1 := modulo_n (z := ((s / 65536 : Nat) : Int) - (d : Int) * (y : Int)) (m := m) (by omega) (by omega) (by omega) (by omega)
  have hM2 := modulo_n (z := ((s % 65536 : Nat) : Int) - (y : Int)) (m := m) (by omega) (by omega) (by omega) (by omega)
  have hmd := md_lt (z := ((0 : Nat) : Int) - y) (m := m) (by omega)
  have hmd2 := md_lt (z := -((d : Int) * y)) (m := m) (by omega)
  have t1 : V_canDropFirst sd = some 1 := by rw [hsd]; rfl
  have t3 : V_merged sd (lN s) (lN (65536 * md (-((d : Int) * y)) m + md (((0 : Nat) : Int) - y) m)) = some (lN (mgT m s (65536 * md (-((d : Int) * y)) m + md (((0 : Nat) : Int) - y) m))) := by rw [hsd]; exact merged9 (by omega) (by omega) h1 h2
  have t4 : ∀ v, V_withoutLeadingZero n sd v (nI d) = some v := fun v => by rw [hsd]; rfl
  rw [← lZ_sub, lZ_n, ← lZ_mul, lZ_n, lZ_n, lN_mul] at hM1
  rw [← lZ_sub, lZ_n, lZ_n] at hM2
  rw [t1, Option.bind_some, if_neg one_ne, hC, Option.bind_some, t3, mgT_pk (by omega), md_add _ _ (by omega), md_add _ _ (by omega), ← Int.sub_eq_add_neg, Option.bind_some, t4]
  have r1 : lN s - lN s / 65536 * 65536 = lN (s % 65536) := pk_lRem (b := 65536) (by omega) (by omega) (by omega)
  have r2 : lN s / 65536 = lN (s / 65536) := pk_lDiv (b := 65536) (by omega) (by omega) (by omega)
  rw [r1, r2]
  simp (disch := omega) only [i_0, i_1, i_2, i_3, i_4, i_5, i_6, i_7, i_8, i_10, i_12, i_16, i_31, i_32, i_64, i_100, i_128, i_255, i_256, i_512, i_1000, i_1128, i_65535, i_65536, nI_add, pk_mul, pk_sub, nI_ltI, nI_leI, nI_eq, nI_clamp, if_pos, if_neg, ite_true, ite_false, Option.bind_some, Option.elim_some, Option.elim_none, Sum.elim_inl, Sum.elim_inr, hkd, hmo, nI_l, l_0, l_1, l_2, l_3, l_4, l_5, l_6, l_7, l_8, l_10, l_12, l_16, l_32, l_63, l_64, l_255, l_256, l_1000, l_65535, l_65536, lN_mul, hM1, hM2, lN_add]
  refine ⟨_, _, rfl, rfl, ?_⟩
  rw [show ((s % 65536 : Nat) : Int) + (((0 : Nat) : Int) - (y : Int)) = ((s % 65536 : Nat) : Int) - y by omega]
set_option maxHeartbeats 4000000 in
theorem o_less2 {n : Nat} (hn : 10000 < n) {j a' w' : Nat} {sd : SD} (hj : j < 16) (x2 : Int64) (x4 x5 : Int32) (q1 : M_X11_sumAt (nI j) ro c = some (some (a', w', sd))) (q2 : M_X12_isSum (nI j) c2 = 1)
    {m wl : Nat} {g : Nat → Int32} (h1 : 2 ≤ m) (h2 : m ≤ 65536) (h3 : 1 ≤ wl) (h4 : wl ≤ 12) (hsd : sd = (8, 2, nI m, 0, 0, 0, 0, 0, wl, g)) (hkd : kd j = nI 2) (hmo : mo j = nI m) (hwo : wo j = nI wl) (h9 : ∀ i, i < wl → wt (12 * j + i) = g i ∧ ∃ v, v < 65536 ∧ g i = nI v) :
    ∃ r r2, M_X11_less n (nI j) x2 x4 x5 ro c = some r ∧ M_X12_less n (nI j) x2 x4 x5 c2 kd mo bi tu po be lo wo wt = some r2 ∧ r = r2 := by
  unfold M_X11_less M_X12_less
  unfold M_X11_isByte M_X12_isByte
  rw [in_eq x4 1 1000 (by decide) (by decide), in_eq x5 0 255 (by decide) (by decide)]
  rw [q1, q2]
  have hs5 : sd.1 = 8 ∨ sd.1 = 7 ∨ sd.1 = 6 ∨ sd.1 = 1 ∨ sd.1 = 4 := by rw [hsd]; simp
  have hs4 : sd.1 = 8 ∨ sd.1 = 7 ∨ sd.1 = 6 ∨ sd.1 = 1 := by rw [hsd]; simp
  have hk6 : ¬ kd j = 6 := by rw [hkd]; decide
  have hk0 : ¬ kd j = 0 := by rw [hkd]; decide
  have hk1 : ¬ kd j = 1 := by rw [hkd]; decide
  have hk2 : kd j = 2 := hkd
  have ej : (nI j).toNatClampNeg = j := nI_clamp (by omega)
  dsimp only [Option.bind_some, Option.elim_some]
  rw [if_pos hs5, if_pos hs4, ej, if_neg one_ne, if_neg (ixn hj), if_neg hk6]
  rcases hold0 (bi := bi) x2 hj h1 h2 (Or.inr hkd) hmo with ⟨a1, a2⟩ | ⟨a1, a2, s, hs, rfl⟩
  · have v1 : V_holds sd x2 = some 0 := by rw [hsd]; exact congrArg some a1
    rw [v1, a2]
    exact ⟨_, _, rfl, rfl, rfl⟩
  have va1 : V_holds sd (lN s) = some 1 := by rw [hsd]; exact congrArg some a1
  rw [va1, a2]
  dsimp only [Option.bind_some]
  rw [if_neg one_ne, if_neg one_ne]
  rcases wi_c x4 (a := 1) (b := 1000) 1 1000 rfl rfl (by omega) (by omega) with ⟨c1, -⟩ | ⟨c1, d, d1, d2, rfl⟩
  · rw [c1]
    exact ⟨_, _, rfl, rfl, rfl⟩
  rw [c1]
  rw [if_neg one_ne, if_neg one_ne]
  rcases wi_c x5 (a := 0) (b := 255) 0 255 rfl rfl (by omega) (by omega) with ⟨c4, -⟩ | ⟨c4, y, y1, y2, rfl⟩
  · rw [c4]
    exact ⟨_, _, rfl, rfl, rfl⟩
  rw [c4]
  rw [if_neg one_ne, if_neg one_ne]
  rw [if_neg (ixn hj), if_neg hk0, if_neg hk1, if_pos hk2]
  have t1 : V_canDropFirst sd = some (if nI wl = 1 then 1 else 0) := by rw [hsd]; rfl
  rw [t1, Option.bind_some]
  by_cases e9 : wl = 1
  · subst e9
    have hg : ∀ i, i < 1 → g i = nI (bv g i) ∧ bv g i < 65536 := fun i hi => bv_of (by omega) (h9 i hi).2
    have hgi := (hg 0 (by omega)).2
    have hwt : wt (12 * j) = nI (bv g 0) := ((h9 0 (by omega)).1).trans (hg 0 (by omega)).1
    have e0 : (bv g 0 : Int) * (y : Int) ≤ 65536 * 256 := by
      have h8 := Nat.mul_le_mul (show bv g 0 ≤ 65536 by omega) (show y ≤ 256 by omega)
      have h9 : ((bv g 0 * y : Nat) : Int) = (bv g 0 : Int) * y := Int.natCast_mul _ y
      omega
    have e1 : 0 ≤ (bv g 0 : Int) * (y : Int) := Int.mul_nonneg (by omega) (by omega)
    have e2 : (bv g (0 % 1) : Int) * (((0 : Nat) : Int) - (y : Int)) = -((bv g 0 : Int) * y) := by
      rw [show (((0 : Nat) : Int) - (y : Int)) = -y by omega, Int.mul_neg]
    have hC : V_changed n sd (nI d) 0 (nI y) 0 = some (lN (md (-((bv g 0 : Int) * y)) m)) := by
      rw [hsd, ← e2]
      exact changed10 (n := d) (i := 0) (a := y) (b := 0) (wl := 1) (u := bv g) (wf := g) h3 h4 (fun i hi => (hg i hi).1) (fun i hi => (hg i hi).2) (by omega) (by omega) (by omega) h1 h2
    have hM := modulo_n (z := (s : Int) - (bv g 0 : Int) * (y : Int)) (m := m) (by omega) (by omega) (by omega) (by omega)
    have hmd := md_lt (z := -((bv g 0 : Int) * y)) (m := m) (by omega)
    have t3 : V_merged sd (lN s) (lN (md (-((bv g 0 : Int) * y)) m)) = some (lN ((s + md (-((bv g 0 : Int) * y)) m) % m)) := by rw [hsd]; exact merged10 (by omega) (by omega) h1 h2
    have t4 : ∀ v, V_withoutLeadingZero n sd v (nI d) = some v := fun v => by rw [hsd]; rfl
    rw [← lZ_sub, lZ_n, ← lZ_mul, lZ_n, lZ_n, lN_mul] at hM
    rw [if_pos (show nI 1 = 1 from rfl), if_neg one_ne, hC, Option.bind_some, t3, md_add _ _ (by omega), ← Int.sub_eq_add_neg, Option.bind_some, t4]
    simp (disch := omega) only [i_0, i_1, i_2, i_3, i_4, i_5, i_6, i_7, i_8, i_10, i_12, i_16, i_31, i_32, i_64, i_100, i_128, i_255, i_256, i_512, i_1000, i_1128, i_65535, i_65536, nI_add, pk_mul, pk_sub, nI_ltI, nI_leI, nI_eq, nI_clamp, if_pos, if_neg, ite_true, ite_false, Option.bind_some, Option.elim_some, Option.elim_none, Sum.elim_inl, Sum.elim_inr, hkd, hmo, hwo, hwt, nI_l, lN_mul, hM]
    exact ⟨_, _, rfl, rfl, rfl⟩
  · rw [if_neg (show ¬ nI wl = 1 by rw [i_1, nI_eq (by omega) (by omega)]; exact e9), if_pos z_eq]
    simp (disch := omega) only [i_0, i_1, i_2, i_3, i_4, i_5, i_6, i_7, i_8, i_10, i_12, i_16, i_31, i_32, i_64, i_100, i_128, i_255, i_256, i_512, i_1000, i_1128, i_65535, i_65536, nI_add, pk_mul, pk_sub, nI_ltI, nI_leI, nI_eq, nI_clamp, if_pos, if_neg, ite_true, ite_false, Option.bind_some, Option.elim_some, Option.elim_none, Sum.elim_inl, Sum.elim_inr, hkd, hwo]
    exact ⟨_, _, rfl, rfl, rfl⟩
set_option maxHeartbeats 4000000 in
theorem o_less3 {n : Nat} (hn : 10000 < n) {j a' w' : Nat} {sd : SD} (hj : j < 16) (x2 : Int64) (x4 x5 : Int32) (q1 : M_X11_sumAt (nI j) ro c = some (some (a', w', sd))) (q2 : M_X12_isSum (nI j) c2 = 1)
    {w t : Nat} (h1 : 8 ≤ w) (h2 : w ≤ 32) (h3 : t < w) (hsd : sd = (6, 3, nI w, nI t, 0, 0, 0, 0, 0, fun _ => 0)) (hkd : kd j = nI 3) (hbi : bi j = nI w) (htu : tu j = nI t) :
    ∃ r r2, M_X11_less n (nI j) x2 x4 x5 ro c = some r ∧ M_X12_less n (nI j) x2 x4 x5 c2 kd mo bi tu po be lo wo wt = some r2 ∧ r = r2 := by
  unfold M_X11_less M_X12_less
  unfold M_X11_isByte M_X12_isByte
  rw [in_eq x4 1 1000 (by decide) (by decide), in_eq x5 0 255 (by decide) (by decide)]
  rw [q1, q2]
  have hs5 : sd.1 = 8 ∨ sd.1 = 7 ∨ sd.1 = 6 ∨ sd.1 = 1 ∨ sd.1 = 4 := by rw [hsd]; simp
  have hs4 : sd.1 = 8 ∨ sd.1 = 7 ∨ sd.1 = 6 ∨ sd.1 = 1 := by rw [hsd]; simp
  have hk6 : ¬ kd j = 6 := by rw [hkd]; decide
  have hk0 : ¬ kd j = 0 := by rw [hkd]; decide
  have hk1 : ¬ kd j = 1 := by rw [hkd]; decide
  have hk2 : ¬ kd j = 2 := by rw [hkd]; decide
  have hk3 : kd j = 3 := hkd
  have ej : (nI j).toNatClampNeg = j := nI_clamp (by omega)
  dsimp only [Option.bind_some, Option.elim_some]
  rw [if_pos hs5, if_pos hs4, ej, if_neg one_ne, if_neg (ixn hj), if_neg hk6]
  rcases hold3 (mo := mo) x2 hj h2 (Or.inl rfl) hkd hbi with ⟨a1, a2⟩ | ⟨a1, a2, s, hs, rfl⟩
  · have v1 : V_holds sd x2 = some 0 := by rw [hsd]; exact congrArg some a1
    rw [v1, a2]
    exact ⟨_, _, rfl, rfl, rfl⟩
  have va1 : V_holds sd (lN s) = some 1 := by rw [hsd]; exact congrArg some a1
  rw [va1, a2]
  dsimp only [Option.bind_some]
  rw [if_neg one_ne, if_neg one_ne]
  rcases wi_c x4 (a := 1) (b := 1000) 1 1000 rfl rfl (by omega) (by omega) with ⟨c1, -⟩ | ⟨c1, d, d1, d2, rfl⟩
  · rw [c1]
    exact ⟨_, _, rfl, rfl, rfl⟩
  rw [c1]
  rw [if_neg one_ne, if_neg one_ne]
  rcases wi_c x5 (a := 0) (b := 255) 0 255 rfl rfl (by omega) (by omega) with ⟨c4, -⟩ | ⟨c4, y, y1, y2, rfl⟩
  · rw [c4]
    exact ⟨_, _, rfl, rfl, rfl⟩
  rw [c4]
  rw [if_neg one_ne, if_neg one_ne]
  rw [if_neg (ixn hj), if_neg hk0, if_neg hk1, if_neg hk2, if_pos hk3]
  have h8 : t * (d - 1) ≤ 32 * 1000 := Nat.mul_le_mul (by omega) (by omega)
  have hp8 : 2 ^ 8 ≤ 2 ^ w := Nat.pow_le_pow_right (by decide) h1
  have hC : V_changed n sd (nI d) 0 (nI y) 0 = some (lN (rol w (t * (d - 1) % w) y)) := by
    rw [hsd]
    have hC := changed8 (n := d) (i := 0) (a := y) (b := 0) (by omega) (by omega) (by omega) (by omega) h1 h2 h3
    rw [Nat.xor_zero, Nat.sub_zero] at hC
    exact hC
  have hM := rolled_n (k := t * (d - 1)) (s := y) (by omega) h2 (by omega) (show y < 2 ^ w by omega)
  have t1 : V_canDropFirst sd = some 1 := by rw [hsd]; rfl
  have t3 : V_merged sd (lN s) (lN (rol w (t * (d - 1) % w) y)) = some (lN (s ^^^ rol w (t * (d - 1) % w) y)) := by rw [hsd]; exact congrArg some (l_xor _ _)
  have t4 : ∀ v, V_withoutLeadingZero n sd v (nI d) = some v := fun v => by rw [hsd]; rfl
  rw [t1, Option.bind_some, if_neg one_ne, hC, Option.bind_some, t3, Option.bind_some, t4]
  simp (disch := omega) only [i_0, i_1, i_2, i_3, i_4, i_5, i_6, i_7, i_8, i_10, i_12, i_16, i_31, i_32, i_64, i_100, i_128, i_255, i_256, i_512, i_1000, i_1128, i_65535, i_65536, nI_add, pk_mul, pk_sub, nI_ltI, nI_leI, nI_eq, nI_clamp, if_pos, if_neg, ite_true, ite_false, Option.bind_some, Option.elim_some, Option.elim_none, Sum.elim_inl, Sum.elim_inr, hkd, hbi, htu, nI_l, hM, l_xor]
  exact ⟨_, _, rfl, rfl, rfl⟩
set_option maxHeartbeats 4000000 in
theorem o_less4 {n : Nat} (hn : 10000 < n) {j a' w' : Nat} {sd : SD} (hj : j < 16) (x2 : Int64) (x4 x5 : Int32) (q1 : M_X11_sumAt (nI j) ro c = some (some (a', w', sd))) (q2 : M_X12_isSum (nI j) c2 = 1)
    {k w p b f l : Nat} (h1 : k = 4 ∨ k = 5) (h2 : 3 ≤ w) (h3 : w ≤ 32) (h4 : p < 2 ^ w) (h5 : b < 2 ^ w) (h6 : f < 2 ^ w) (h7 : l < 2) (hsd : sd = (1, nI k, nI w, 0, lN p, lN b, lN f, nI l, 0, fun _ => 0)) (hkd : kd j = nI k) (hbi : bi j = nI w) (hpo : po j = lN p) (hbe : be j = lN b) (hfi : fi j = lN f) (hlo : lo j = nI l) :
    ∃ r r2, M_X11_less n (nI j) x2 x4 x5 ro c = some r ∧ M_X12_less n (nI j) x2 x4 x5 c2 kd mo bi tu po be lo wo wt = some r2 ∧ r = r2 := by
  unfold M_X11_less M_X12_less
  unfold M_X11_isByte M_X12_isByte
  rw [in_eq x4 1 1000 (by decide) (by decide), in_eq x5 0 255 (by decide) (by decide)]
  rw [q1, q2]
  have hs5 : sd.1 = 8 ∨ sd.1 = 7 ∨ sd.1 = 6 ∨ sd.1 = 1 ∨ sd.1 = 4 := by rw [hsd]; simp
  have hs4 : sd.1 = 8 ∨ sd.1 = 7 ∨ sd.1 = 6 ∨ sd.1 = 1 := by rw [hsd]; simp
  have hk6 : ¬ kd j = 6 := by rw [hkd]; rcases h1 with rfl | rfl <;> decide
  have hk0 : ¬ kd j = 0 := by rw [hkd]; rcases h1 with rfl | rfl <;> decide
  have hk1 : ¬ kd j = 1 := by rw [hkd]; rcases h1 with rfl | rfl <;> decide
  have hk2 : ¬ kd j = 2 := by rw [hkd]; rcases h1 with rfl | rfl <;> decide
  have hk3 : ¬ kd j = 3 := by rw [hkd]; rcases h1 with rfl | rfl <;> decide
  have ej : (nI j).toNatClampNeg = j := nI_clamp (by omega)
  dsimp only [Option.bind_some, Option.elim_some]
  rw [if_pos hs5, if_pos hs4, ej, if_neg one_ne, if_neg (ixn hj), if_neg hk6]
  rcases hold3 (mo := mo) x2 hj h3 (Or.inr h1) hkd hbi with ⟨a1, a2⟩ | ⟨a1, a2, s, hs, rfl⟩
  · have v1 : V_holds sd x2 = some 0 := by rw [hsd]; exact congrArg some a1
    rw [v1, a2]
    exact ⟨_, _, rfl, rfl, rfl⟩
  have va1 : V_holds sd (lN s) = some 1 := by rw [hsd]; exact congrArg some a1
  rw [va1, a2]
  dsimp only [Option.bind_some]
  rw [if_neg one_ne, if_neg one_ne]
  rcases wi_c x4 (a := 1) (b := 1000) 1 1000 rfl rfl (by omega) (by omega) with ⟨c1, -⟩ | ⟨c1, d, d1, d2, rfl⟩
  · rw [c1]
    exact ⟨_, _, rfl, rfl, rfl⟩
  rw [c1]
  rw [if_neg one_ne, if_neg one_ne]
  rcases wi_c x5 (a := 0) (b := 255) 0 255 rfl rfl (by omega) (by omega) with ⟨c4, -⟩ | ⟨c4, y, y1, y2, rfl⟩
  · rw [c4]
    exact ⟨_, _, rfl, rfl, rfl⟩
  rw [c4]
  rw [if_neg one_ne, if_neg one_ne]
  rw [if_neg (ixn hj), if_neg hk0, if_neg hk1, if_neg hk2, if_neg hk3]
  have h0 : (0 : Nat) < 2 ^ w := Nat.two_pow_pos w
  have hC : V_changed n sd (nI d) 0 (nI y) 0 = some (lN (dn w p (8 * (d - 1)) (byt w p l y 8 0))) := by
    rw [hsd]
    have hC := changed1 (N := n) (n := d) (i := 0) (a := y) (b := 0) (l := l) hn (by omega) (by omega) (by omega) (by omega) h2 h3 h4 h7
    rw [Nat.xor_zero, Nat.sub_zero] at hC
    exact hC
  have hB0 := byt_lt h4 l 0 8 h5
  have hBy := byt_lt h4 l y 8 h5
  have hC1 := afterByte_n (n := n) (w := w) (p := p) (l := l) (s := b) (b := 0) (by omega) (by omega) h3 h4 h5 h7 (by omega)
  have hC2 := afterZeros_n (n := n) (w := w) (p := p) (k := d - 1) hn (by omega) h3 h4 (Nat.xor_lt_two_pow hB0 h5) (by omega)
  have hM1 := stepByte_n (n := n) (w := w) (p := p) (l := l) (s := b) (b := y) (by omega) (by omega) h3 h4 h5 h7 (by omega)
  have hM2 := passed_n (n := n) (w := w) (p := p) (k := d - 1) hn hj hbi hpo (by omega) h3 h4 (Nat.xor_lt_two_pow hBy h5) (by omega)
  have hl2 : byt w p l y 8 b = byt w p l y 8 0 ^^^ byt w p l 0 8 b := by
    rw [← byt_xor, Nat.xor_zero, Nat.zero_xor]
  have key : (s ^^^ dn w p (8 * (d - 1)) (byt w p l y 8 0)) ^^^ dn w p (8 * (d - 1)) (byt w p l 0 8 b ^^^ b) = s ^^^ dn w p (8 * (d - 1)) (byt w p l y 8 b ^^^ b) := by
    rw [hl2, Nat.xor_assoc, ← dn_xor, Nat.xor_assoc]
  have t1 : V_canDropFirst sd = some 1 := by rw [hsd]; rfl
  have t3 : V_merged sd (lN s) (lN (dn w p (8 * (d - 1)) (byt w p l y 8 0))) = some (lN (s ^^^ dn w p (8 * (d - 1)) (byt w p l y 8 0))) := by rw [hsd]; exact congrArg some (l_xor _ _)
  have e1 : nI d - 1 = nI (d - 1) := pk_sub (b := 1) (by omega)
  have t4 : V_withoutLeadingZero n sd (lN (s ^^^ dn w p (8 * (d - 1)) (byt w p l y 8 0))) (nI d) = some (lN (s ^^^ dn w p (8 * (d - 1)) (byt w p l y 8 b ^^^ b))) := by
    rw [hsd, ← key]
    show M_X1_withoutLeadingZero n _ (nI d) (nI w) (lN p) (lN b) (nI l) = _
    unfold M_X1_withoutLeadingZero
    rw [show (0 : Int32) = nI 0 from rfl, hC1, Option.bind_some, l_xor, e1, hC2, Option.bind_some, l_xor]
  rw [t1, Option.bind_some, if_neg one_ne, hC, Option.bind_some, t3, Option.bind_some, t4]
  rcases h1 with rfl | rfl <;> simp (disch := omega) only [i_0, i_1, i_2, i_3, i_4, i_5, i_6, i_7, i_8, i_10, i_12, i_16, i_31, i_32, i_64, i_100, i_128, i_255, i_256, i_512, i_1000, i_1128, i_65535, i_65536, nI_add, pk_mul, pk_sub, nI_ltI, nI_leI, nI_eq, nI_clamp, if_pos, if_neg, ite_true, ite_false, Option.bind_some, Option.elim_some, Option.elim_none, Sum.elim_inl, Sum.elim_inr, hkd, hbi, hpo, hbe, hlo, hM1, l_xor, hM2] <;> exact ⟨_, _, rfl, rfl, rfl⟩
theorem o_less {n : Nat} (hn : 10000 < n) (h : I_sums ro c c2 kd mo bi tu po be fi lo wo wt ce) (x1 : Int32) (x2 : Int64) (x4 x5 : Int32) :
    ∃ r r2, M_X11_less n x1 x2 x4 x5 ro c = some r ∧ M_X12_less n x1 x2 x4 x5 c2 kd mo bi tu po be lo wo wt = some r2 ∧ r = r2 := by
  rcases sum_at h x1 with ⟨q1, q2⟩ | ⟨j, a', w', sd, hj, rfl, q1, q2, q3⟩
  · unfold M_X11_less M_X12_less
    rw [q1, q2]
    exact ⟨_, _, rfl, rfl, rfl⟩
  rcases q3 with ⟨m, h1, h2, hsd, hkd, hmo⟩ | ⟨m, h1, h2, hsd, hkd, hmo⟩ | ⟨m, wl, g, h1, h2, h3, h4, hsd, hkd, hmo, hwo, h9⟩ | ⟨w, t, h1, h2, h3, hsd, hkd, hbi, htu⟩ | ⟨k, w, p, b, f, l, h1, h2, h3, h4, h5, h6, h7, hsd, hkd, hbi, hpo, hbe, hfi, hlo⟩ | ⟨q, g, h1, h2, hsd, hkd, hmo, h6⟩
  · exact o_less0 hn hj x2 x4 x5 q1 q2 h1 h2 hsd hkd hmo
  · exact o_less1 hn hj x2 x4 x5 q1 q2 h1 h2 hsd hkd hmo
  · exact o_less2 hn hj x2 x4 x5 q1 q2 h1 h2 h3 h4 hsd hkd hmo hwo h9
  · exact o_less3 hn hj x2 x4 x5 q1 q2 h1 h2 h3 hsd hkd hbi htu
  · exact o_less4 hn hj x2 x4 x5 q1 q2 h1 h2 h3 h4 h5 h6 h7 hsd hkd hbi hpo hbe hfi hlo
  · unfold M_X11_less M_X12_less
    rw [q1, q2]
    have hs5 : sd.1 = 8 ∨ sd.1 = 7 ∨ sd.1 = 6 ∨ sd.1 = 1 ∨ sd.1 = 4 := by rw [hsd]; simp
    have hs4 : ¬ (sd.1 = 8 ∨ sd.1 = 7 ∨ sd.1 = 6 ∨ sd.1 = 1) := by rw [hsd]; simp
    have hk6 : kd j = 6 := hkd
    have ej : (nI j).toNatClampNeg = j := nI_clamp (by omega)
    dsimp only [Option.bind_some, Option.elim_some]
    rw [if_pos hs5, if_neg hs4, ej, if_neg one_ne, if_neg (ixn hj), if_pos hk6]
    exact ⟨_, _, rfl, rfl, rfl⟩
end JO
