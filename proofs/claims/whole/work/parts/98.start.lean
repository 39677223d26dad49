/-! Own rows: the law's entry. -/
theorem len_small {args : Array Value} {s : State} {t : Term} {v : Value} {b : Addr} {cell : Cell} (hv : (Term.length t).eval args s none [] s = some v) (ht : t.eval args s none [] s = some (.ref b)) (harr : s.arrayAt? b = some cell) : cell.slots.size < 2 ^ 31 := by
  simp only [Term.eval, ht, harr, Option.bind_eq_bind, Option.bind_some] at hv
  by_cases hlt : cell.slots.size < 2147483648
  · exact hlt
  · simp [hlt] at hv
theorem whole_one {s : State} {b : Nat} (hts0 : ∀ w ∈ lw_tbl, w.before #[Value.ref b] s = true) (hgv : (Jvm.Cond.and given_1 narrow_1).before #[Value.ref b] s = true) : ∃ tw : Nat, va_Z "SumSmith" "WEIGHT_ONE" "[I" (.ref tw) (fun q => s.heap.size ≤ q) s s.heap ∧ (va_X tw 1 (fun _ => 1) s s.heap ∧ ¬ (fun q => s.heap.size ≤ q) tw) := by
  have hs := flat_of_before _ hgv
  have harr : (Cond.arrayOf (.static "SumSmith" "WEIGHT_ONE" "[I") .int).before #[Value.ref b] s = true := hs _ (by decide +kernel)
  have hl0 : (Cond.eq (.length (.static "SumSmith" "WEIGHT_ONE" "[I")) (.int 1)).before #[Value.ref b] s = true := hs _ (by decide +kernel)
  have he0 : (Cond.eq (.elem (.static "SumSmith" "WEIGHT_ONE" "[I") (.int 0)) (.int 1)).before #[Value.ref b] s = true := hs _ (by decide +kernel)
  have hlen := va_eqt hl0
  have hel := va_eqt he0
  have hA : ∀ a : Nat, a < s.heap.size → ¬ (fun q : Nat => s.heap.size ≤ q) a := fun a h => Nat.not_le.mpr h
  obtain ⟨t, ht, cell, h1, h2, h3, h4, h5, h6, h7⟩ := va_Tof (N := 1) (f := fun _ => .int 1) (A := fun q : Nat => s.heap.size ≤ q) (by decide) harr hlen (fun j hj => by
    have : j = 0 := by omega
    subst this
    exact hel) hA
  refine ⟨t, va_Zref (hts0 (.laysStatic "SumSmith" "WEIGHT_ONE" "[I") (by decide +kernel)) (hts0 (.initialized "SumSmith") (by decide +kernel)) ht hA, ⟨cell, h1, h2, h3, ?_, fun j hj => h6 j hj⟩, h7⟩
  obtain ⟨a, cell2, q1, q2, -⟩ := Term.length_spec hlen
  cases ht.symm.trans q1
  have q3 := (State.arrayAt?_spec q2).1
  cases h1.symm.trans q3
  have hsz := len_small hlen ht q2
  have h9 := congrArg Int32.toNatClampNeg h5
  rw [show cell.slots.size.toInt32 = Int32.ofNat cell.slots.size from rfl, Int32.toNatClampNeg_ofNat_of_lt hsz, Int32.toNatClampNeg_ofNat_of_lt (by decide)] at h9
  exact h9
theorem whole_kk {s : State} {b : Nat} (hts0 : ∀ w ∈ lw_tbl, w.before #[Value.ref b] s = true) (hgv : (Jvm.Cond.and given_1 narrow_1).before #[Value.ref b] s = true) : ∃ (G : va_G) (cs : CS), KK G cs s := by
  have hts : ∀ w ∈ wsL_law, w.before #[Value.ref b] s = true := fun w hw => hts0 w (wsL_law_in w hw)
  have hs := flat_of_before _ hgv
  obtain ⟨c0, i0, k0⟩ := u_known (C := RX0) (T := TX0) (N := 6) (n := 6) hts inlX0 (hts0 (.instantiable RX0 6) (by decide +kernel))
  obtain ⟨c1, i1, k1⟩ := u_known (C := RX1) (T := TX1) (N := 6) (n := 6) hts inlX1 (hts0 (.instantiable RX1 6) (by decide +kernel))
  obtain ⟨c2, i2, k2⟩ := u_known (C := RX3) (T := TX3) (N := 3) (n := 3) hts inlX3 (hts0 (.instantiable RX3 3) (by decide +kernel))
  obtain ⟨c3, i3, k3⟩ := u_known (C := RX4) (T := TX4) (N := 7) (n := 7) hts inlX4 (hts0 (.instantiable RX4 7) (by decide +kernel))
  obtain ⟨c4, i4, k4⟩ := u_known (C := RX5) (T := TX5) (N := 3) (n := 3) hts inlX5 (hts0 (.instantiable RX5 3) (by decide +kernel))
  obtain ⟨c5, i5, k5⟩ := u_known (C := RX7) (T := TX7) (N := 5) (n := 5) hts inlX7 (hts0 (.instantiable RX7 5) (by decide +kernel))
  obtain ⟨c6, i6, k6⟩ := u_known (C := RX8) (T := TX8) (N := 3) (n := 3) hts inlX8 (hts0 (.instantiable RX8 3) (by decide +kernel))
  obtain ⟨c7, i7, k7⟩ := u_known (C := RX9) (T := TX9) (N := 2) (n := 2) hts inlX9 (hts0 (.instantiable RX9 2) (by decide +kernel))
  obtain ⟨c8, i8, k8⟩ := u_known (C := RX10) (T := TX10) (N := 3) (n := 3) hts inlX10 (hts0 (.instantiable RX10 3) (by decide +kernel))
  obtain ⟨c9, i9, k9⟩ := u_known (C := RX11) (T := TX11) (N := 12) (n := 12) hts inlX11 (hts0 (.instantiable RX11 12) (by decide +kernel))
  obtain ⟨c10, i10, k10⟩ := u_known (C := RX12) (T := TX12) (N := 33) (n := 33) hts inlX12 (hts0 (.instantiable RX12 33) (by decide +kernel))
  obtain ⟨aI, yI, mI, fI, gI, eI⟩ := Cond.arrayClass_spec (hts0 (.arrayClass .int) (by decide +kernel))
  obtain ⟨aJ, yJ, mJ, fJ, gJ, eJ⟩ := Cond.arrayClass_spec (hts0 (.arrayClass .long) (by decide +kernel))
  obtain ⟨aZ, yZ, mZ, fZ, gZ, eZ⟩ := Cond.arrayClass_spec (hts0 (.arrayClass .boolean) (by decide +kernel))
  have hAO := hts0 (.arrayOver (.object "SumSmith$Sum")) (by decide +kernel)
  obtain ⟨cS, aS, yS, q1, q2, q3, q4, q5⟩ := Cond.arrayOver_spec hAO
  have wM : ∀ q ∈ nestM, (Cond.methodLinkNest q.1 q.2.1 q.2.2.1 q.2.2.2) ∈ lw_tbl := by decide +kernel
  have wC : ∀ q ∈ nestC, (Cond.castable q.1 q.2) ∈ lw_tbl := by decide +kernel
  have wD : ∀ q ∈ nestD, (Cond.declares q) ∈ lw_tbl := by decide +kernel
  have wN : ∀ q ∈ nestN, (Cond.not (.castable q.1 q.2)).before #[Value.ref b] s = true := by
    intro q hq
    simp only [nestN, List.mem_cons, List.not_mem_nil, or_false] at hq
    rcases hq with rfl | rfl | rfl | rfl | rfl | rfl | rfl | rfl | rfl <;> exact hs _ (by decide +kernel)
  refine ⟨(fun k => ([c0, c1, c2, c3, c4, c5, c6, c7, c8, c9, c10] : List ClassId).getD k c0, fun k => ([i0, i1, i2, i3, i4, i5, i6, i7, i8, i9, i10] : List (Nat → Nat)).getD k i0), (aI, aJ, aZ, aS), ⟨fun k q hq => ?_, fun k q hq => ?_⟩, fun q hq => va_Nw.of rfl (hts0 _ (wM q hq)), fun q hq => va_Nw.of rfl (hts0 _ (wC q hq)), fun q hq => va_Nc.of (wN q hq), fun q hq => va_Nw.of rfl (hts0 _ (wD q hq)), va_AO.of hAO⟩
  · match k, hq with
    | 0, hq => cases hq; exact k0
    | 1, hq => cases hq; exact k1
    | 2, hq => cases hq; exact k2
    | 3, hq => cases hq; exact k3
    | 4, hq => cases hq; exact k4
    | 5, hq => cases hq; exact k5
    | 6, hq => cases hq; exact k6
    | 7, hq => cases hq; exact k7
    | 8, hq => cases hq; exact k8
    | 9, hq => cases hq; exact k9
    | 10, hq => cases hq; exact k10
    | k + 11, hq => simp at hq
  · match k, hq with
    | 0, hq => cases hq; exact ⟨fun n z => ⟨fun k h => (by cases h), yI, gI, mI, eI⟩, fI⟩
    | 1, hq => cases hq; exact ⟨fun n z => ⟨fun k h => (by cases h), yJ, gJ, mJ, eJ⟩, fJ⟩
    | 2, hq => cases hq; exact ⟨fun n z => ⟨fun k h => (by cases h), yZ, gZ, mZ, eZ⟩, fZ⟩
    | 3, hq => cases hq; exact ⟨fun n z => ⟨fun k h => (by cases h), yS, q3, cS, q4⟩, ⟨yS, cS, q3, q4, q1, q5⟩⟩
    | k + 4, hq => simp at hq
set_option maxHeartbeats 4000000 in
set_option maxRecDepth 100000 in
theorem whole_of (INV : CT → MT → Prop) (hst : LawOK INV) (h0 : INV (RN, 0, (fun _ => 0), 0, (fun _ => 0), 0, (fun _ => 0), (fun _ => 0), (fun _ => 0), (fun _ => 0), (fun _ => 0), (fun _ => 0), (fun _ => 0), 0, (fun _ => 0), 0, (fun _ => 0), (fun _ => 0), (fun _ => 0), (fun _ => 0), 0, (fun _ => 0), 0, (fun _ => 0), 0, (fun _ => 0), 0, (fun _ => 0), (fun _ => 0)) (0, (fun _ => 0), 0, (fun _ => 0), (fun _ => 0), (fun _ => 0), (fun _ => 0), (fun _ => 0), (fun _ => 0), (fun _ => 0), (fun _ => 0), (fun _ => 0), (fun _ => 0), (fun _ => 0), 0, (fun _ => 0), 0, (fun _ => 0), (fun _ => 0), (fun _ => 0), (fun _ => 0), (fun _ => 0), 0, (fun _ => 0), (upd (upd (upd (upd (fun _ => 0) (0 : Int32).toNatClampNeg (-1)) (1 : Int32).toNatClampNeg (-1)) (2 : Int32).toNatClampNeg (-1)) (3 : Int32).toNatClampNeg (-1)), 0, (fun _ => 0), (fun _ => 0), (fun _ => 0), 0, (fun _ => 0), 0, 0)) {p : Program} {e : Env} {s : State} {m : MethodId} {below : List Frame} {meth : Method} {c : Code} (l : Launch) {b L : Nat} {xs : Nat → Int32} (hL : L ≤ 5120) (A0 : lw_At p s m meth c b L xs) : W p l e room_1 s m #[Value.ref b] below meth c s.heap [] 0 0 (lw_Z below #[Value.ref b] s) (entryFrame m ([Value.ref b] : List Value).toArray 4) := by
  obtain ⟨hx, hb, hr, hml, hown, hts0, hX, hbl, hlocks, hgv⟩ := id A0
  have hts : ∀ w ∈ wsL_law, w.before #[Value.ref b] s = true := fun w hw => hts0 w (wsL_law_in w hw)
  obtain ⟨G, cs, hK⟩ := whole_kk hts0 hgv
  obtain ⟨tw, hZ, hXs⟩ := whole_one hts0 hgv
  have C0 : LC p s m meth c b L xs G cs tw := ⟨hx, hb, hr, hml, hown, hts, hX, hbl, hlocks, hK, hZ, hXs, by omega⟩
  have hA : ∀ q : Nat, s.heap.size ≤ q → (fun q : Nat => s.heap.size ≤ q) q := fun _ h => h
  have hS : va_S (fun q : Nat => s.heap.size ≤ q) s.heap s.heap [] := va_S.rf
  have hP : va_P G vwCl [] s.heap := fun k q h => by simp at h
  have hD : va_D (fun q : Nat => s.heap.size ≤ q) [] := ⟨fun i j p q h => by simp at h, fun k q h => by simp at h⟩
  have hl := lv_entry ([.ref b]) (n := 4) (Nat.le_of_ble_eq_true rfl)
  rw [lg_entry_eq]
  generalize (lg_sl ([.ref b]) ++ List.replicate (4 - (lg_sl ([.ref b])).length) Slot.unset).toArray = ls at hl ⊢
  have hl : lv_has ls 4 [(0, .ref b)] := hl
  refine va_new (ci := 9) (fs := [.null, .int 0, .null, .int 0, .null, .int 0, .null, .null, .null, .null, .int 0, .null]) (C := RX11) (T := TX11) (N := 12) hx hb hts inlX11 tyX11 tyX11_ok hown (hts0 (.classLink RL 7 RX11) (by decide +kernel)) (hts0 (.instantiable RX11 12) (by decide +kernel)) (hts0 (.initialized RX11) (by decide +kernel)) hK.1 hP hD hS hA rfl (fun j hj => by rcases (show j = 0 ∨ j = 1 ∨ j = 2 ∨ j = 3 ∨ j = 4 ∨ j = 5 ∨ j = 6 ∨ j = 7 ∨ j = 8 ∨ j = 9 ∨ j = 10 ∨ j = 11 by omega) with rfl | rfl | rfl | rfl | rfl | rfl | rfl | rfl | rfl | rfl | rfl | rfl <;> rfl) (Nat.le_of_ble_eq_true rfl) (Nat.le_of_ble_eq_true rfl) dL_law_0 (fun k1 H hP hD hS => ?_)
  have hP : va_P G vwCl [(k1, .inr (9, [.null, .int 0, .null, .int 0, .null, .int 0, .null, .null, .null, .null, .int 0, .null]))] H := hP
  have hD : va_D (fun q : Nat => s.heap.size ≤ q) [(k1, .inr (9, [.null, .int 0, .null, .int 0, .null, .int 0, .null, .null, .null, .null, .int 0, .null]))] := hD
  refine W.widen (k := 1) (n := 12) (Nat.le_of_ble_eq_true rfl) (Nat.le_of_ble_eq_true rfl) ?_
  refine lv_dup hx hb dL_law_3 rfl ?_
  refine k_callcj (wr := []) (va_runI (As := []) (rest := [.ref k1]) ⟨hx, hb, hml, hown, hts⟩ (c_X11_init l G cs H.size k1) (cwI 0 hts gL_law_X11_init rfl rfl rfl (hts0 (.initialized RX11) (by decide +kernel)) (hts0 (.methodLink RL 9 yX11_init) (by decide +kernel)) (hts0 (.instanceMethod yX11_init) (by decide +kernel)) rfl hd_X11_init ⟨(Nat.le_of_ble_eq_true rfl), (Nat.le_of_ble_eq_true rfl)⟩) ⟨pre_blind, pre_w hK RO.nil (P_by hP [0] rfl) (hD.sub [0] (by decide) rfl) (va_free hD hS hA [0] rfl)⟩ rfl rfl hl.1 rfl (lv_room (Nat.le_of_ble_eq_true rfl)) dL_law_4 ⟨(Nat.le_of_ble_eq_true rfl), (Nat.le_of_ble_eq_true rfl)⟩) hP hD hS hA [0] [] rfl rfl (by decide) (by decide) (fun u1 H locs hw hP9 hD9 hS9 => ?_)
  subst hw
  have hP : va_P G vwCl (ww_C u1 cs RN 0 (fun _ => 0) 0 (fun _ => 0) 0 (fun _ => 0) (fun _ => 0) (fun _ => 0) (fun _ => 0) (fun _ => 0) (fun _ => 0) (fun _ => 0) 0 (fun _ => 0) 0 (fun _ => 0) (fun _ => 0) (fun _ => 0) (fun _ => 0) 0 (fun _ => 0) 0 (fun _ => 0) 0 (fun _ => 0) 0 (fun _ => 0) (fun _ => 0)) H := hP9
  have hD : va_D (fun q : Nat => s.heap.size ≤ q) (ww_C u1 cs RN 0 (fun _ => 0) 0 (fun _ => 0) 0 (fun _ => 0) (fun _ => 0) (fun _ => 0) (fun _ => 0) (fun _ => 0) (fun _ => 0) (fun _ => 0) 0 (fun _ => 0) 0 (fun _ => 0) (fun _ => 0) (fun _ => 0) (fun _ => 0) 0 (fun _ => 0) 0 (fun _ => 0) 0 (fun _ => 0) 0 (fun _ => 0) (fun _ => 0)) := hD9
  have hS := hS9
  refine W.widen (k := 25) (n := 4960) (Nat.le_of_ble_eq_true rfl) (Nat.le_of_ble_eq_true rfl) ?_
  refine lv_astore_n (lv' := [(1, .ref (u1 0)), (0, .ref b)]) hx hb dL_law_7 rfl hl (by decide) rfl (fun ls hl => ?_)
  refine va_new (ci := 10) (fs := [.int 0, .null, .int 0, .null, .null, .null, .null, .null, .null, .null, .null, .null, .null, .null, .int 0, .null, .int 0, .null, .null, .null, .null, .null, .int 0, .null, .null, .int 0, .null, .null, .null, .int 0, .null, .long 0, .long 0]) (C := RX12) (T := TX12) (N := 33) hx hb hts inlX12 tyX12 tyX12_ok hown (hts0 (.classLink RL 10 RX12) (by decide +kernel)) (hts0 (.instantiable RX12 33) (by decide +kernel)) (hts0 (.initialized RX12) (by decide +kernel)) hK.1 hP hD hS hA rfl (fun j hj => by rcases (show j = 0 ∨ j = 1 ∨ j = 2 ∨ j = 3 ∨ j = 4 ∨ j = 5 ∨ j = 6 ∨ j = 7 ∨ j = 8 ∨ j = 9 ∨ j = 10 ∨ j = 11 ∨ j = 12 ∨ j = 13 ∨ j = 14 ∨ j = 15 ∨ j = 16 ∨ j = 17 ∨ j = 18 ∨ j = 19 ∨ j = 20 ∨ j = 21 ∨ j = 22 ∨ j = 23 ∨ j = 24 ∨ j = 25 ∨ j = 26 ∨ j = 27 ∨ j = 28 ∨ j = 29 ∨ j = 30 ∨ j = 31 ∨ j = 32 by omega) with rfl | rfl | rfl | rfl | rfl | rfl | rfl | rfl | rfl | rfl | rfl | rfl | rfl | rfl | rfl | rfl | rfl | rfl | rfl | rfl | rfl | rfl | rfl | rfl | rfl | rfl | rfl | rfl | rfl | rfl | rfl | rfl | rfl <;> rfl) (Nat.le_of_ble_eq_true rfl) (Nat.le_of_ble_eq_true rfl) dL_law_8 (fun k2 H hP hD hS => ?_)
  have hP : va_P G vwCl ((ww_C u1 cs RN 0 (fun _ => 0) 0 (fun _ => 0) 0 (fun _ => 0) (fun _ => 0) (fun _ => 0) (fun _ => 0) (fun _ => 0) (fun _ => 0) (fun _ => 0) 0 (fun _ => 0) 0 (fun _ => 0) (fun _ => 0) (fun _ => 0) (fun _ => 0) 0 (fun _ => 0) 0 (fun _ => 0) 0 (fun _ => 0) 0 (fun _ => 0) (fun _ => 0)) ++ [(k2, .inr (10, [.int 0, .null, .int 0, .null, .null, .null, .null, .null, .null, .null, .null, .null, .null, .null, .int 0, .null, .int 0, .null, .null, .null, .null, .null, .int 0, .null, .null, .int 0, .null, .null, .null, .int 0, .null, .long 0, .long 0]))] : va_W) H := hP
  have hD : va_D (fun q : Nat => s.heap.size ≤ q) ((ww_C u1 cs RN 0 (fun _ => 0) 0 (fun _ => 0) 0 (fun _ => 0) (fun _ => 0) (fun _ => 0) (fun _ => 0) (fun _ => 0) (fun _ => 0) (fun _ => 0) 0 (fun _ => 0) 0 (fun _ => 0) (fun _ => 0) (fun _ => 0) (fun _ => 0) 0 (fun _ => 0) 0 (fun _ => 0) 0 (fun _ => 0) 0 (fun _ => 0) (fun _ => 0)) ++ [(k2, .inr (10, [.int 0, .null, .int 0, .null, .null, .null, .null, .null, .null, .null, .null, .null, .null, .null, .int 0, .null, .int 0, .null, .null, .null, .null, .null, .int 0, .null, .null, .int 0, .null, .null, .null, .int 0, .null, .long 0, .long 0]))] : va_W) := hD
  refine W.widen (k := 26) (n := 4993) (Nat.le_of_ble_eq_true rfl) (Nat.le_of_ble_eq_true rfl) ?_
  refine lv_dup hx hb dL_law_11 rfl ?_
  refine k_callcj (wr := (ww_C u1 cs RN 0 (fun _ => 0) 0 (fun _ => 0) 0 (fun _ => 0) (fun _ => 0) (fun _ => 0) (fun _ => 0) (fun _ => 0) (fun _ => 0) (fun _ => 0) 0 (fun _ => 0) 0 (fun _ => 0) (fun _ => 0) (fun _ => 0) (fun _ => 0) 0 (fun _ => 0) 0 (fun _ => 0) 0 (fun _ => 0) 0 (fun _ => 0) (fun _ => 0))) (va_runI (As := []) (rest := [.ref k2]) ⟨hx, hb, hml, hown, hts⟩ (c_X12_init l G cs H.size k2) (cwI 0 hts gL_law_X12_init rfl rfl rfl (hts0 (.initialized RX12) (by decide +kernel)) (hts0 (.methodLink RL 12 yX12_init) (by decide +kernel)) (hts0 (.instanceMethod yX12_init) (by decide +kernel)) rfl hd_X12_init ⟨(Nat.le_of_ble_eq_true rfl), (Nat.le_of_ble_eq_true rfl)⟩) ⟨pre_blind, pre_w hK RO.nil (P_by hP [25] rfl) (hD.sub [25] (by decide) rfl) (va_free hD hS hA [25] rfl)⟩ rfl rfl hl.1 rfl (lv_room (Nat.le_of_ble_eq_true rfl)) dL_law_12 ⟨(Nat.le_of_ble_eq_true rfl), (Nat.le_of_ble_eq_true rfl)⟩) hP hD hS hA [25] [0, 1, 2, 3, 4, 5, 6, 7, 8, 9, 10, 11, 12, 13, 14, 15, 16, 17, 18, 19, 20, 21, 22, 23, 24] rfl rfl (by decide) (by decide) (fun u2 H locs hw hP9 hD9 hS9 => ?_)
  subst hw
  refine W.widen (k := 100) (n := 20000) (Nat.le_of_ble_eq_true rfl) (Nat.le_of_ble_eq_true rfl) ?_
  refine lv_astore_n (lv' := [(2, .ref (u2 0)), (1, .ref (u1 0)), (0, .ref b)]) hx hb dL_law_15 rfl hl (by decide) rfl (fun ls hl => ?_)
  refine lv_iconst (v := 0) hx hb dL_law_16 (by decide) ?_
  refine lv_istore_n (lv' := [(3, .int 0), (2, .ref (u2 0)), (1, .ref (u1 0)), (0, .ref b)]) hx hb dL_law_17 rfl hl (by decide) rfl (fun ls hl => ?_)
  have key : LW G (fun q => s.heap.size ≤ q) s RN (ww_C u1 cs RN 0 (fun _ => 0) 0 (fun _ => 0) 0 (fun _ => 0) (fun _ => 0) (fun _ => 0) (fun _ => 0) (fun _ => 0) (fun _ => 0) (fun _ => 0) 0 (fun _ => 0) 0 (fun _ => 0) (fun _ => 0) (fun _ => 0) (fun _ => 0) 0 (fun _ => 0) 0 (fun _ => 0) 0 (fun _ => 0) 0 (fun _ => 0) (fun _ => 0)) (ww_M u2 cs 0 (fun _ => 0) 0 (fun _ => 0) (fun _ => 0) (fun _ => 0) (fun _ => 0) (fun _ => 0) (fun _ => 0) (fun _ => 0) (fun _ => 0) (fun _ => 0) (fun _ => 0) (fun _ => 0) 0 (fun _ => 0) 0 (fun _ => 0) (fun _ => 0) (fun _ => 0) (fun _ => 0) (fun _ => 0) 0 (fun _ => 0) (upd (upd (upd (upd (fun _ => 0) (0 : Int32).toNatClampNeg (-1)) (1 : Int32).toNatClampNeg (-1)) (2 : Int32).toNatClampNeg (-1)) (3 : Int32).toNatClampNeg (-1)) 0 (fun _ => 0) (fun _ => 0) (fun _ => 0) 0 (fun _ => 0) 0 0) H locs := by
    generalize (ww_C u1 cs RN 0 (fun _ => 0) 0 (fun _ => 0) 0 (fun _ => 0) (fun _ => 0) (fun _ => 0) (fun _ => 0) (fun _ => 0) (fun _ => 0) (fun _ => 0) 0 (fun _ => 0) 0 (fun _ => 0) (fun _ => 0) (fun _ => 0) (fun _ => 0) 0 (fun _ => 0) 0 (fun _ => 0) 0 (fun _ => 0) 0 (fun _ => 0) (fun _ => 0)) = w1 at hP9 hD9 ⊢
    generalize (ww_M u2 cs 0 (fun _ => 0) 0 (fun _ => 0) (fun _ => 0) (fun _ => 0) (fun _ => 0) (fun _ => 0) (fun _ => 0) (fun _ => 0) (fun _ => 0) (fun _ => 0) (fun _ => 0) (fun _ => 0) 0 (fun _ => 0) 0 (fun _ => 0) (fun _ => 0) (fun _ => 0) (fun _ => 0) (fun _ => 0) 0 (fun _ => 0) (upd (upd (upd (upd (fun _ => 0) (0 : Int32).toNatClampNeg (-1)) (1 : Int32).toNatClampNeg (-1)) (2 : Int32).toNatClampNeg (-1)) (3 : Int32).toNatClampNeg (-1)) 0 (fun _ => 0) (fun _ => 0) (fun _ => 0) 0 (fun _ => 0) 0 0) = w2 at hP9 hD9 ⊢
    have e1 : ∀ (k : Nat) (q : Nat × va_E), w1[k]? = some q → (w1 ++ w2)[k]? = some q := fun k q h => by
      rw [List.getElem?_append_left (List.getElem?_eq_some_iff.mp h).1]; exact h
    have e2 : ∀ (k : Nat) (q : Nat × va_E), w2[k]? = some q → (w1 ++ w2)[w1.length + k]? = some q := fun k q h => by
      rw [List.getElem?_append_right (Nat.le_add_right _ _), Nat.add_sub_cancel_left]; exact h
    refine ⟨fun k q h => hP9 k q (e1 k q h), fun k q h => hP9 _ q (e2 k q h), ⟨fun i j p q hp hq e => hD9.1 i j p q (e1 i p hp) (e1 j q hq) e, fun k q h => hD9.2 k q (e1 k q h)⟩, ⟨fun i j p q hp hq e => ?_, fun k q h => hD9.2 _ q (e2 k q h)⟩, fun i j p q hp hq e => ?_, hS9, RO.nil⟩
    · have := hD9.1 _ _ p q (e2 i p hp) (e2 j q hq) e
      omega
    · have h1 := hD9.1 _ _ p q (e1 i p hp) (e2 j q hq) e
      have h2 := (List.getElem?_eq_some_iff.mp hp).1
      omega
  exact law_loop (qC := u1) (qM := u2) hL C0 INV hst 513 0 (by omega) (by omega) RN 0 (fun _ => 0) 0 (fun _ => 0) 0 (fun _ => 0) (fun _ => 0) (fun _ => 0) (fun _ => 0) (fun _ => 0) (fun _ => 0) (fun _ => 0) 0 (fun _ => 0) 0 (fun _ => 0) (fun _ => 0) (fun _ => 0) (fun _ => 0) 0 (fun _ => 0) 0 (fun _ => 0) 0 (fun _ => 0) 0 (fun _ => 0) (fun _ => 0) 0 (fun _ => 0) 0 (fun _ => 0) (fun _ => 0) (fun _ => 0) (fun _ => 0) (fun _ => 0) (fun _ => 0) (fun _ => 0) (fun _ => 0) (fun _ => 0) (fun _ => 0) (fun _ => 0) 0 (fun _ => 0) 0 (fun _ => 0) (fun _ => 0) (fun _ => 0) (fun _ => 0) (fun _ => 0) 0 (fun _ => 0) (upd (upd (upd (upd (fun _ => 0) (0 : Int32).toNatClampNeg (-1)) (1 : Int32).toNatClampNeg (-1)) (2 : Int32).toNatClampNeg (-1)) (3 : Int32).toNatClampNeg (-1)) 0 (fun _ => 0) (fun _ => 0) (fun _ => 0) 0 (fun _ => 0) 0 0 h0 H locs key ls (lv_sub hl [3, 2, 1, 0] rfl)
