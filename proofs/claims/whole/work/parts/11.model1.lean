abbrev ww_M (q : Nat → Nat) (cs : CS) (v_told : Int32) (v_tell : (Nat → Int32)) (v_sums : Int32) (v_kindOf : (Nat → Int32)) (v_modOf : (Nat → Int32)) (v_bitsOf : (Nat → Int32)) (v_turnOf : (Nat → Int32)) (v_polyOf : (Nat → Int64)) (v_beginOf : (Nat → Int64)) (v_finishOf : (Nat → Int64)) (v_isLow : (Nat → Int32)) (v_weightsOf : (Nat → Int32)) (v_weight : (Nat → Int32)) (v_cell : (Nat → Int32)) (v_size : Int32) (v_row : (Nat → Int32)) (v_keptSize : Int32) (v_keptBefore : (Nat → Int32)) (v_keptAfter : (Nat → Int32)) (v_placeA : (Nat → Int64)) (v_placeB : (Nat → Int64)) (v_turned : (Nat → Int32)) (v_turnedMany : Int32) (v_syndromes : (Nat → Int64)) (v_lightest : (Nat → Int32)) (v_freeMany : Int32) (v_freePlace : (Nat → Int32)) (v_freeSyndrome : (Nat → Int64)) (v_ways : (Nat → Int32)) (v_waysKept : Int32) (v_trace : (Nat → Int32)) (v_comesA : Int64) (v_comesB : Int64) : va_W := [((q 0), .inr (10, [.int v_told, .ref (q 1), .int v_sums, .ref (q 2), .ref (q 3), .ref (q 4), .ref (q 5), .ref (q 6), .ref (q 7), .ref (q 8), .ref (q 9), .ref (q 10), .ref (q 11), .ref (q 12), .int v_size, .ref (q 13), .int v_keptSize, .ref (q 14), .ref (q 15), .ref (q 16), .ref (q 17), .ref (q 18), .int v_turnedMany, .ref (q 19), .ref (q 20), .int v_freeMany, .ref (q 21), .ref (q 22), .ref (q 23), .int v_waysKept, .ref (q 24), .long v_comesA, .long v_comesB])), ((q 1), .inl (cs.1, 100, .inl v_tell)), ((q 2), .inl (cs.1, 16, .inl v_kindOf)), ((q 3), .inl (cs.1, 16, .inl v_modOf)), ((q 4), .inl (cs.1, 16, .inl v_bitsOf)), ((q 5), .inl (cs.1, 16, .inl v_turnOf)), ((q 6), .inl (cs.2.1, 16, .inr (.inl v_polyOf))), ((q 7), .inl (cs.2.1, 16, .inr (.inl v_beginOf))), ((q 8), .inl (cs.2.1, 16, .inr (.inl v_finishOf))), ((q 9), .inl (cs.2.2.1, 16, .inl v_isLow)), ((q 10), .inl (cs.1, 16, .inl v_weightsOf)), ((q 11), .inl (cs.1, 192, .inl v_weight)), ((q 12), .inl (cs.1, 1600, .inl v_cell)), ((q 13), .inl (cs.1, 64, .inl v_row)), ((q 14), .inl (cs.1, 8, .inl v_keptBefore)), ((q 15), .inl (cs.1, 8, .inl v_keptAfter)), ((q 16), .inl (cs.2.1, 64, .inr (.inl v_placeA))), ((q 17), .inl (cs.2.1, 64, .inr (.inl v_placeB))), ((q 18), .inl (cs.1, 8, .inl v_turned)), ((q 19), .inl (cs.2.1, 512, .inr (.inl v_syndromes))), ((q 20), .inl (cs.1, 4, .inl v_lightest)), ((q 21), .inl (cs.1, 16, .inl v_freePlace)), ((q 22), .inl (cs.2.1, 16, .inr (.inl v_freeSyndrome))), ((q 23), .inl (cs.1, 64, .inl v_ways)), ((q 24), .inl (cs.1, 7, .inl v_trace))]
theorem hd_X12_in : yX12_in.cls ≠ "java/lang/invoke/MethodHandle" ∧ yX12_in.cls ≠ "java/lang/invoke/VarHandle" ∧ (parseMethodDescriptor yX12_in.desc).map (fun d => d.parameters.length) = some 3 := by decide +kernel

def M_X12_in (x0 : Int64) (x2 : Int64) (x4 : Int64)  : Int32 :=
  if x0 < x2 then 0 else (if x4 < x0 then 0 else 1)

abbrev rmX12_in : Room := { frames := 0, cells := 0, slots := 0, locals := 0 }
set_option maxHeartbeats 4000000 in
set_option maxRecDepth 100000 in
theorem c_X12_in (l : Launch) (G : va_G) (cs : CS) (sz : Nat)  (x0 : Int64) (x2 : Int64) (x4 : Int64) (res : Int32) (hm : M_X12_in x0 x2 x4  = res) : Met l yX12_in wsX12_in rmX12_in (va_Pc [.long x0, .long x2, .long x4] (PreW G cs sz [] [] [])) (QI G res (res = 0 ∨ res = 1) [] (va_A [] sz)) 0 0 (va_A [] sz) := by
  refine k_enter (Qf := fun A => QI G res (res = 0 ∨ res = 1) [] A) (cc := cX12_in) (maxL := 6) (ret := (some .boolean)) (by decide) rfl (Nat.le_of_ble_eq_true rfl) ?_
  intro p e s m args below meth c A Q ls H locs hx hb hr hml hown hts hlocks hname hK hA hRo hP hD hS hQ hl
  have hl : lv_has ls 6 [(0, .long x0), (2, .long x2), (4, .long x4)] := hl
  unfold M_X12_in at hm
  refine lv_lload_n hx hb dX12_in_0 rfl (lv_at hl 0 rfl) ?_
  refine lv_lload_n hx hb dX12_in_1 rfl (lv_at hl 1 rfl) ?_
  refine W.lcmp hx hb dX12_in_2 ?_
  refine lv_if_lt (tgt := 17) hx hb dX12_in_3 (by decide) (fun b1 => ?_) (fun b1 => ?_)
  · have b1 := (lg_cmp_lt _ _).mp b1
    have hm := i_t b1 hm
    refine lv_iconst (v := 0) hx hb dX12_in_17 (by decide) ?_
    have hq := hm
    subst hq; subst hQ
    exact k_zret hx hb hr hlocks hP hD hS rfl (by decide) dX12_in_18
  · have b1 := fun h9 => b1 ((lg_cmp_lt _ _).mpr h9)
    have hm := i_f b1 hm
    refine lv_lload_n hx hb dX12_in_6 rfl (lv_at hl 0 rfl) ?_
    refine lv_lload hx hb dX12_in_7 (lv_at hl 2 rfl) ?_
    refine W.lcmp hx hb dX12_in_9 ?_
    refine lv_if_gt (tgt := 17) hx hb dX12_in_10 (by decide) (fun b2 => ?_) (fun b2 => ?_)
    · have b2 := (lg_cmp_gt _ _).mp b2
      have hm := i_t b2 hm
      refine lv_iconst (v := 0) hx hb dX12_in_17 (by decide) ?_
      have hq := hm
      subst hq; subst hQ
      exact k_zret hx hb hr hlocks hP hD hS rfl (by decide) dX12_in_18
    · have b2 := fun h9 => b2 ((lg_cmp_gt _ _).mpr h9)
      have hm := i_f b2 hm
      refine lv_iconst (v := 1) hx hb dX12_in_13 (by decide) ?_
      refine lv_goto (tgt := 18) hx hb dX12_in_14 (by decide) ?_
      have hq := hm
      subst hq; subst hQ
      exact k_zret hx hb hr hlocks hP hD hS rfl (by decide) dX12_in_18

theorem hd_X12_isSum : yX12_isSum.cls ≠ "java/lang/invoke/MethodHandle" ∧ yX12_isSum.cls ≠ "java/lang/invoke/VarHandle" ∧ (parseMethodDescriptor yX12_isSum.desc).map (fun d => d.parameters.length) = some 1 := by decide +kernel

def M_X12_isSum (x1 : Int32) (v_sums : Int32) : Int32 :=
  (M_X12_in x1.toInt64 (0 : Int64) ((v_sums - 1).toInt64))

abbrev rmX12_isSum : Room := { frames := 1, cells := 0, slots := 0, locals := 25 }
set_option maxHeartbeats 4000000 in
set_option maxRecDepth 100000 in
theorem c_X12_isSum (l : Launch) (G : va_G) (cs : CS) (q : Nat → Nat) (sz : Nat) (v_told : Int32) (v_tell : (Nat → Int32)) (v_sums : Int32) (v_kindOf : (Nat → Int32)) (v_modOf : (Nat → Int32)) (v_bitsOf : (Nat → Int32)) (v_turnOf : (Nat → Int32)) (v_polyOf : (Nat → Int64)) (v_beginOf : (Nat → Int64)) (v_finishOf : (Nat → Int64)) (v_isLow : (Nat → Int32)) (v_weightsOf : (Nat → Int32)) (v_weight : (Nat → Int32)) (v_cell : (Nat → Int32)) (v_size : Int32) (v_row : (Nat → Int32)) (v_keptSize : Int32) (v_keptBefore : (Nat → Int32)) (v_keptAfter : (Nat → Int32)) (v_placeA : (Nat → Int64)) (v_placeB : (Nat → Int64)) (v_turned : (Nat → Int32)) (v_turnedMany : Int32) (v_syndromes : (Nat → Int64)) (v_lightest : (Nat → Int32)) (v_freeMany : Int32) (v_freePlace : (Nat → Int32)) (v_freeSyndrome : (Nat → Int64)) (v_ways : (Nat → Int32)) (v_waysKept : Int32) (v_trace : (Nat → Int32)) (v_comesA : Int64) (v_comesB : Int64) (x1 : Int32) (res : Int32) (hm : M_X12_isSum x1 v_sums = res) : Met l yX12_isSum wsX12_isSum rmX12_isSum (va_Pc [.ref (q 0), .int x1] (PreW G cs sz (ww_M q cs v_told v_tell v_sums v_kindOf v_modOf v_bitsOf v_turnOf v_polyOf v_beginOf v_finishOf v_isLow v_weightsOf v_weight v_cell v_size v_row v_keptSize v_keptBefore v_keptAfter v_placeA v_placeB v_turned v_turnedMany v_syndromes v_lightest v_freeMany v_freePlace v_freeSyndrome v_ways v_waysKept v_trace v_comesA v_comesB) [] [])) (QI G res (res = 0 ∨ res = 1) (ww_M q cs v_told v_tell v_sums v_kindOf v_modOf v_bitsOf v_turnOf v_polyOf v_beginOf v_finishOf v_isLow v_weightsOf v_weight v_cell v_size v_row v_keptSize v_keptBefore v_keptAfter v_placeA v_placeB v_turned v_turnedMany v_syndromes v_lightest v_freeMany v_freePlace v_freeSyndrome v_ways v_waysKept v_trace v_comesA v_comesB) (va_A (ww_M q cs v_told v_tell v_sums v_kindOf v_modOf v_bitsOf v_turnOf v_polyOf v_beginOf v_finishOf v_isLow v_weightsOf v_weight v_cell v_size v_row v_keptSize v_keptBefore v_keptAfter v_placeA v_placeB v_turned v_turnedMany v_syndromes v_lightest v_freeMany v_freePlace v_freeSyndrome v_ways v_waysKept v_trace v_comesA v_comesB) sz)) 0 0 (va_A (ww_M q cs v_told v_tell v_sums v_kindOf v_modOf v_bitsOf v_turnOf v_polyOf v_beginOf v_finishOf v_isLow v_weightsOf v_weight v_cell v_size v_row v_keptSize v_keptBefore v_keptAfter v_placeA v_placeB v_turned v_turnedMany v_syndromes v_lightest v_freeMany v_freePlace v_freeSyndrome v_ways v_waysKept v_trace v_comesA v_comesB) sz) := by
  refine k_enter (Qf := fun A => QI G res (res = 0 ∨ res = 1) (ww_M q cs v_told v_tell v_sums v_kindOf v_modOf v_bitsOf v_turnOf v_polyOf v_beginOf v_finishOf v_isLow v_weightsOf v_weight v_cell v_size v_row v_keptSize v_keptBefore v_keptAfter v_placeA v_placeB v_turned v_turnedMany v_syndromes v_lightest v_freeMany v_freePlace v_freeSyndrome v_ways v_waysKept v_trace v_comesA v_comesB) A) (cc := cX12_isSum) (maxL := 2) (ret := (some .boolean)) (by decide) rfl (Nat.le_of_ble_eq_true rfl) ?_
  intro p e s m args below meth c A Q ls H locs hx hb hr hml hown hts hlocks hname hK hA hRo hP hD hS hQ hl
  have hl : lv_has ls 2 [(0, .ref (q 0)), (1, .int x1)] := hl
  have wd1 := hts (.fieldLink RX12 84 "SumSmithModel" "sums" "I") (List.mem_of_getElem? (i := 1) rfl)
  have hinX12 : ∀ w ∈ wsX120, w ∈ wsX12_isSum := fun w h => List.mem_cons_of_mem _ (List.mem_append_right _ h)
  unfold M_X12_isSum at hm
  refine lv_iload_n hx hb dX12_isSum_0 rfl (lv_at hl 1 rfl) ?_
  refine lv_i2l (v := x1.toInt64) hx hb dX12_isSum_1 rfl ?_
  refine lv_lconst (v := 0) hx hb dX12_isSum_2 (by decide) ?_
  refine lv_aload_n hx hb dX12_isSum_3 rfl (lv_at hl 0 rfl) ?_
  refine va_get (D := G) (ci := 10) (v := .int v_sums) (C := RX12) (T := TX12) (N := 33) hx hb hts hinX12 hown hK.1 hP 0 rfl rfl 2 (by decide) wd1 (fun _ h9 => h9) rfl dX12_isSum_4 ?_
  refine lv_iconst (v := 1) hx hb dX12_isSum_7 (by decide) ?_
  refine lv_isub hx hb dX12_isSum_8 ?_
  refine lv_i2l (v := (v_sums - 1).toInt64) hx hb dX12_isSum_9 rfl ?_
  refine k_calli0 (va_runS (As := [.long x1.toInt64, .long 0, .long ((v_sums - 1).toInt64)]) (rest := []) ⟨hx, hb, hml, hown, hts⟩ (c_X12_in l G cs H.size  x1.toInt64 (0 : Int64) ((v_sums - 1).toInt64) _ rfl) (va_cwS 3 hts gX12_isSum_X12_in rfl rfl rfl hd_X12_in ⟨Nat.le_of_ble_eq_true rfl, Nat.le_of_ble_eq_true rfl⟩) ⟨pre_blind, pre_w hK RO.nil P0 D0 (va_new0 hS hA)⟩ rfl rfl hl.1 rfl (lv_room (Nat.le_of_ble_eq_true rfl)) dX12_isSum_10 ⟨Nat.zero_le _, Nat.zero_le _⟩) hP hS hA (fun hE1 H locs hP hS => ?_)
  have hq := hm
  subst hq; subst hQ
  exact k_zret hx hb hr hlocks hP hD hS rfl hE1 dX12_isSum_13

theorem hd_X12_mask : yX12_mask.cls ≠ "java/lang/invoke/MethodHandle" ∧ yX12_mask.cls ≠ "java/lang/invoke/VarHandle" ∧ (parseMethodDescriptor yX12_mask.desc).map (fun d => d.parameters.length) = some 1 := by decide +kernel

def M_X12_mask (x1 : Int32) (v_bitsOf : (Nat → Int32)) : Option Int64 :=
  if x1 < 0 ∨ 16 ≤ x1.toNatClampNeg then none else some (((1 : Int64) <<< ((v_bitsOf x1.toNatClampNeg).toInt64 &&& 63)) - 1)

abbrev rmX12_mask : Room := { frames := 0, cells := 0, slots := 0, locals := 0 }
set_option maxHeartbeats 4000000 in
set_option maxRecDepth 100000 in
theorem c_X12_mask (l : Launch) (G : va_G) (cs : CS) (q : Nat → Nat) (sz : Nat) (v_told : Int32) (v_tell : (Nat → Int32)) (v_sums : Int32) (v_kindOf : (Nat → Int32)) (v_modOf : (Nat → Int32)) (v_bitsOf : (Nat → Int32)) (v_turnOf : (Nat → Int32)) (v_polyOf : (Nat → Int64)) (v_beginOf : (Nat → Int64)) (v_finishOf : (Nat → Int64)) (v_isLow : (Nat → Int32)) (v_weightsOf : (Nat → Int32)) (v_weight : (Nat → Int32)) (v_cell : (Nat → Int32)) (v_size : Int32) (v_row : (Nat → Int32)) (v_keptSize : Int32) (v_keptBefore : (Nat → Int32)) (v_keptAfter : (Nat → Int32)) (v_placeA : (Nat → Int64)) (v_placeB : (Nat → Int64)) (v_turned : (Nat → Int32)) (v_turnedMany : Int32) (v_syndromes : (Nat → Int64)) (v_lightest : (Nat → Int32)) (v_freeMany : Int32) (v_freePlace : (Nat → Int32)) (v_freeSyndrome : (Nat → Int64)) (v_ways : (Nat → Int32)) (v_waysKept : Int32) (v_trace : (Nat → Int32)) (v_comesA : Int64) (v_comesB : Int64) (x1 : Int32) (res : Int64) (hm : M_X12_mask x1 v_bitsOf = some res) : Met l yX12_mask wsX12_mask rmX12_mask (va_Pc [.ref (q 0), .int x1] (PreW G cs sz (ww_M q cs v_told v_tell v_sums v_kindOf v_modOf v_bitsOf v_turnOf v_polyOf v_beginOf v_finishOf v_isLow v_weightsOf v_weight v_cell v_size v_row v_keptSize v_keptBefore v_keptAfter v_placeA v_placeB v_turned v_turnedMany v_syndromes v_lightest v_freeMany v_freePlace v_freeSyndrome v_ways v_waysKept v_trace v_comesA v_comesB) [] [])) (QL G res (ww_M q cs v_told v_tell v_sums v_kindOf v_modOf v_bitsOf v_turnOf v_polyOf v_beginOf v_finishOf v_isLow v_weightsOf v_weight v_cell v_size v_row v_keptSize v_keptBefore v_keptAfter v_placeA v_placeB v_turned v_turnedMany v_syndromes v_lightest v_freeMany v_freePlace v_freeSyndrome v_ways v_waysKept v_trace v_comesA v_comesB) (va_A (ww_M q cs v_told v_tell v_sums v_kindOf v_modOf v_bitsOf v_turnOf v_polyOf v_beginOf v_finishOf v_isLow v_weightsOf v_weight v_cell v_size v_row v_keptSize v_keptBefore v_keptAfter v_placeA v_placeB v_turned v_turnedMany v_syndromes v_lightest v_freeMany v_freePlace v_freeSyndrome v_ways v_waysKept v_trace v_comesA v_comesB) sz)) 0 0 (va_A (ww_M q cs v_told v_tell v_sums v_kindOf v_modOf v_bitsOf v_turnOf v_polyOf v_beginOf v_finishOf v_isLow v_weightsOf v_weight v_cell v_size v_row v_keptSize v_keptBefore v_keptAfter v_placeA v_placeB v_turned v_turnedMany v_syndromes v_lightest v_freeMany v_freePlace v_freeSyndrome v_ways v_waysKept v_trace v_comesA v_comesB) sz) := by
  refine k_enter (Qf := fun A => QL G res (ww_M q cs v_told v_tell v_sums v_kindOf v_modOf v_bitsOf v_turnOf v_polyOf v_beginOf v_finishOf v_isLow v_weightsOf v_weight v_cell v_size v_row v_keptSize v_keptBefore v_keptAfter v_placeA v_placeB v_turned v_turnedMany v_syndromes v_lightest v_freeMany v_freePlace v_freeSyndrome v_ways v_waysKept v_trace v_comesA v_comesB) A) (cc := cX12_mask) (maxL := 2) (ret := (some .long)) (by decide) rfl (Nat.le_of_ble_eq_true rfl) ?_
  intro p e s m args below meth c A Q ls H locs hx hb hr hml hown hts hlocks hname hK hA hRo hP hD hS hQ hl
  have hl : lv_has ls 2 [(0, .ref (q 0)), (1, .int x1)] := hl
  have wd1 := hts (.fieldLink RX12 19 "SumSmithModel" "bitsOf" "[I") (List.mem_of_getElem? (i := 1) rfl)
  have hinX12 : ∀ w ∈ wsX120, w ∈ wsX12_mask := fun w h => List.mem_cons_of_mem _ (List.mem_append_right _ h)
  unfold M_X12_mask at hm
  refine lv_lconst (v := 1) hx hb dX12_mask_0 (by decide) ?_
  refine lv_aload_n hx hb dX12_mask_1 rfl (lv_at hl 0 rfl) ?_
  refine va_get (D := G) (ci := 10) (v := .ref (q 4)) (C := RX12) (T := TX12) (N := 33) hx hb hts hinX12 hown hK.1 hP 0 rfl rfl 5 (by decide) wd1 (fun _ h9 => h9) rfl dX12_mask_2 ?_
  refine lv_iload_n hx hb dX12_mask_5 rfl (lv_at hl 1 rfl) ?_
  obtain ⟨h1, hm⟩ := g_in hm
  refine va_iald hx hb hK.1 hP 4 0 rfl rfl h1 dX12_mask_6 ?_
  refine lv_lshl (v := (1 : Int64) <<< ((v_bitsOf x1.toNatClampNeg).toInt64 &&& 63)) hx hb dX12_mask_7 rfl ?_
  refine lv_lconst (v := 1) hx hb dX12_mask_8 (by decide) ?_
  refine lv_lsub hx hb dX12_mask_9 ?_
  have hq := Option.some.inj hm
  subst hq; subst hQ
  exact k_lret hx hb hr hlocks hP hD hS rfl dX12_mask_10

theorem hd_X12_tell : yX12_tell.cls ≠ "java/lang/invoke/MethodHandle" ∧ yX12_tell.cls ≠ "java/lang/invoke/VarHandle" ∧ (parseMethodDescriptor yX12_tell.desc).map (fun d => d.parameters.length) = some 1 := by decide +kernel

def M_X12_tell (x1 : Int32) (v_told : Int32) (v_tell : (Nat → Int32)) : Option (Int32 × Int32 × (Nat → Int32)) :=
  if (M_X12_in x1.toInt64 (0 : Int64) (65535 : Int64)) = 0 then (some ((-3), v_told, v_tell)) else (if v_told = 100 then (some ((-6), v_told, v_tell)) else (if v_told < 0 ∨ 100 ≤ v_told.toNatClampNeg then none else some ((v_told + 1), (v_told + 1), (upd v_tell v_told.toNatClampNeg x1))))

abbrev rmX12_tell : Room := { frames := 1, cells := 0, slots := 0, locals := 25 }
set_option maxHeartbeats 4000000 in
set_option maxRecDepth 100000 in
theorem c_X12_tell (l : Launch) (G : va_G) (cs : CS) (q : Nat → Nat) (sz : Nat) (v_told : Int32) (v_tell : (Nat → Int32)) (v_sums : Int32) (v_kindOf : (Nat → Int32)) (v_modOf : (Nat → Int32)) (v_bitsOf : (Nat → Int32)) (v_turnOf : (Nat → Int32)) (v_polyOf : (Nat → Int64)) (v_beginOf : (Nat → Int64)) (v_finishOf : (Nat → Int64)) (v_isLow : (Nat → Int32)) (v_weightsOf : (Nat → Int32)) (v_weight : (Nat → Int32)) (v_cell : (Nat → Int32)) (v_size : Int32) (v_row : (Nat → Int32)) (v_keptSize : Int32) (v_keptBefore : (Nat → Int32)) (v_keptAfter : (Nat → Int32)) (v_placeA : (Nat → Int64)) (v_placeB : (Nat → Int64)) (v_turned : (Nat → Int32)) (v_turnedMany : Int32) (v_syndromes : (Nat → Int64)) (v_lightest : (Nat → Int32)) (v_freeMany : Int32) (v_freePlace : (Nat → Int32)) (v_freeSyndrome : (Nat → Int64)) (v_ways : (Nat → Int32)) (v_waysKept : Int32) (v_trace : (Nat → Int32)) (v_comesA : Int64) (v_comesB : Int64) (x1 : Int32) (res : (Int32 × Int32 × (Nat → Int32))) (hm : M_X12_tell x1 v_told v_tell = some res) : Met l yX12_tell wsX12_tell rmX12_tell (va_Pc [.ref (q 0), .int x1] (PreW G cs sz (ww_M q cs v_told v_tell v_sums v_kindOf v_modOf v_bitsOf v_turnOf v_polyOf v_beginOf v_finishOf v_isLow v_weightsOf v_weight v_cell v_size v_row v_keptSize v_keptBefore v_keptAfter v_placeA v_placeB v_turned v_turnedMany v_syndromes v_lightest v_freeMany v_freePlace v_freeSyndrome v_ways v_waysKept v_trace v_comesA v_comesB) [] [])) (QI G res.1 True (ww_M q cs res.2.1 res.2.2 v_sums v_kindOf v_modOf v_bitsOf v_turnOf v_polyOf v_beginOf v_finishOf v_isLow v_weightsOf v_weight v_cell v_size v_row v_keptSize v_keptBefore v_keptAfter v_placeA v_placeB v_turned v_turnedMany v_syndromes v_lightest v_freeMany v_freePlace v_freeSyndrome v_ways v_waysKept v_trace v_comesA v_comesB) (va_A (ww_M q cs v_told v_tell v_sums v_kindOf v_modOf v_bitsOf v_turnOf v_polyOf v_beginOf v_finishOf v_isLow v_weightsOf v_weight v_cell v_size v_row v_keptSize v_keptBefore v_keptAfter v_placeA v_placeB v_turned v_turnedMany v_syndromes v_lightest v_freeMany v_freePlace v_freeSyndrome v_ways v_waysKept v_trace v_comesA v_comesB) sz)) 0 0 (va_A (ww_M q cs v_told v_tell v_sums v_kindOf v_modOf v_bitsOf v_turnOf v_polyOf v_beginOf v_finishOf v_isLow v_weightsOf v_weight v_cell v_size v_row v_keptSize v_keptBefore v_keptAfter v_placeA v_placeB v_turned v_turnedMany v_syndromes v_lightest v_freeMany v_freePlace v_freeSyndrome v_ways v_waysKept v_trace v_comesA v_comesB) sz) := by
  refine k_enter (Qf := fun A => QI G res.1 True (ww_M q cs res.2.1 res.2.2 v_sums v_kindOf v_modOf v_bitsOf v_turnOf v_polyOf v_beginOf v_finishOf v_isLow v_weightsOf v_weight v_cell v_size v_row v_keptSize v_keptBefore v_keptAfter v_placeA v_placeB v_turned v_turnedMany v_syndromes v_lightest v_freeMany v_freePlace v_freeSyndrome v_ways v_waysKept v_trace v_comesA v_comesB) A) (cc := cX12_tell) (maxL := 2) (ret := (some .int)) (by decide) rfl (Nat.le_of_ble_eq_true rfl) ?_
  intro p e s m args below meth c A Q ls H locs hx hb hr hml hown hts hlocks hname hK hA hRo hP hD hS hQ hl
  have hl : lv_has ls 2 [(0, .ref (q 0)), (1, .int x1)] := hl
  have wd1 := hts (.constantLong RX12 92 (65535)) (List.mem_of_getElem? (i := 1) rfl)
  have wd2 := hts (.fieldLink RX12 94 "SumSmithModel" "told" "I") (List.mem_of_getElem? (i := 2) rfl)
  have wd3 := hts (.fieldLink RX12 7 "SumSmithModel" "tell" "[I") (List.mem_of_getElem? (i := 3) rfl)
  have hinX12 : ∀ w ∈ wsX120, w ∈ wsX12_tell := fun w h => List.mem_cons_of_mem _ (List.mem_append_right _ h)
  unfold M_X12_tell at hm
  refine lv_iload_n hx hb dX12_tell_0 rfl (lv_at hl 1 rfl) ?_
  refine lv_i2l (v := x1.toInt64) hx hb dX12_tell_1 rfl ?_
  refine lv_lconst (v := 0) hx hb dX12_tell_2 (by decide) ?_
  refine lv_ldc2 (own := RX12) (v := 65535) hx hb hown wd1 dX12_tell_3 ?_
  refine k_calli0 (va_runS (As := [.long x1.toInt64, .long 0, .long 65535]) (rest := []) ⟨hx, hb, hml, hown, hts⟩ (c_X12_in l G cs H.size  x1.toInt64 (0 : Int64) (65535 : Int64) _ rfl) (va_cwS 3 hts gX12_tell_X12_in rfl rfl rfl hd_X12_in ⟨Nat.le_of_ble_eq_true rfl, Nat.le_of_ble_eq_true rfl⟩) ⟨pre_blind, pre_w hK RO.nil P0 D0 (va_new0 hS hA)⟩ rfl rfl hl.1 rfl (lv_room (Nat.le_of_ble_eq_true rfl)) dX12_tell_6 ⟨Nat.zero_le _, Nat.zero_le _⟩) hP hS hA (fun hE1 H locs hP hS => ?_)
  refine lv_if_ne (tgt := 15) hx hb dX12_tell_9 (by decide) (fun b2 => ?_) (fun b2 => ?_)
  · have hm := i_f b2 hm
    refine lv_aload_n hx hb dX12_tell_15 rfl (lv_at hl 0 rfl) ?_
    refine va_get (D := G) (ci := 10) (v := .int v_told) (C := RX12) (T := TX12) (N := 33) hx hb hts hinX12 hown hK.1 hP 0 rfl rfl 0 (by decide) wd2 (fun _ h9 => h9) rfl dX12_tell_16 ?_
    refine lv_bipush (v := 100) hx hb dX12_tell_19 (by decide) ?_
    refine lv_icmp_ne (tgt := 27) hx hb dX12_tell_21 (by decide) (fun b3 => ?_) (fun b3 => ?_)
    · have hm := i_f b3 hm
      refine lv_aload_n hx hb dX12_tell_27 rfl (lv_at hl 0 rfl) ?_
      refine va_get (D := G) (ci := 10) (v := .ref (q 1)) (C := RX12) (T := TX12) (N := 33) hx hb hts hinX12 hown hK.1 hP 0 rfl rfl 1 (by decide) wd3 (fun _ h9 => h9) rfl dX12_tell_28 ?_
      refine lv_aload_n hx hb dX12_tell_31 rfl (lv_at hl 0 rfl) ?_
      refine va_get (D := G) (ci := 10) (v := .int v_told) (C := RX12) (T := TX12) (N := 33) hx hb hts hinX12 hown hK.1 hP 0 rfl rfl 0 (by decide) wd2 (fun _ h9 => h9) rfl dX12_tell_32 ?_
      refine lv_iload_n hx hb dX12_tell_35 rfl (lv_at hl 1 rfl) ?_
      obtain ⟨h4, hm⟩ := g_in hm
      refine va_iast hx hb hK.1 hP hD hS 1 0 rfl rfl h4 dX12_tell_36 (fun H locs hP hD hS => ?_)
      have hP : va_P G vwCl (ww_M q cs v_told (upd v_tell v_told.toNatClampNeg x1) v_sums v_kindOf v_modOf v_bitsOf v_turnOf v_polyOf v_beginOf v_finishOf v_isLow v_weightsOf v_weight v_cell v_size v_row v_keptSize v_keptBefore v_keptAfter v_placeA v_placeB v_turned v_turnedMany v_syndromes v_lightest v_freeMany v_freePlace v_freeSyndrome v_ways v_waysKept v_trace v_comesA v_comesB) H := hP
      have hD : va_D A (ww_M q cs v_told (upd v_tell v_told.toNatClampNeg x1) v_sums v_kindOf v_modOf v_bitsOf v_turnOf v_polyOf v_beginOf v_finishOf v_isLow v_weightsOf v_weight v_cell v_size v_row v_keptSize v_keptBefore v_keptAfter v_placeA v_placeB v_turned v_turnedMany v_syndromes v_lightest v_freeMany v_freePlace v_freeSyndrome v_ways v_waysKept v_trace v_comesA v_comesB) := hD
      refine lv_aload_n hx hb dX12_tell_37 rfl (lv_at hl 0 rfl) ?_
      refine lv_dup hx hb dX12_tell_38 rfl ?_
      refine va_get (D := G) (ci := 10) (v := .int v_told) (C := RX12) (T := TX12) (N := 33) hx hb hts hinX12 hown hK.1 hP 0 rfl rfl 0 (by decide) wd2 (fun _ h9 => h9) rfl dX12_tell_39 ?_
      refine lv_iconst (v := 1) hx hb dX12_tell_42 (by decide) ?_
      refine lv_iadd hx hb dX12_tell_43 ?_
      refine va_put (D := G) (ci := 10) (v := .int (v_told + 1)) (ty := .int) (C := RX12) (T := TX12) (N := 33) hx hb hts hinX12 tyX12 tyX12_ok nmX12 hown hK.1 hP hD hS 0 rfl rfl 0 (by decide) wd2 (fun _ h9 => h9) rfl (by decide +kernel) rfl rfl (Nat.le_of_ble_eq_true rfl) dX12_tell_44 (fun H locs hP hD hS => ?_)
      have hP : va_P G vwCl (ww_M q cs (v_told + 1) (upd v_tell v_told.toNatClampNeg x1) v_sums v_kindOf v_modOf v_bitsOf v_turnOf v_polyOf v_beginOf v_finishOf v_isLow v_weightsOf v_weight v_cell v_size v_row v_keptSize v_keptBefore v_keptAfter v_placeA v_placeB v_turned v_turnedMany v_syndromes v_lightest v_freeMany v_freePlace v_freeSyndrome v_ways v_waysKept v_trace v_comesA v_comesB) H := hP
      have hD : va_D A (ww_M q cs (v_told + 1) (upd v_tell v_told.toNatClampNeg x1) v_sums v_kindOf v_modOf v_bitsOf v_turnOf v_polyOf v_beginOf v_finishOf v_isLow v_weightsOf v_weight v_cell v_size v_row v_keptSize v_keptBefore v_keptAfter v_placeA v_placeB v_turned v_turnedMany v_syndromes v_lightest v_freeMany v_freePlace v_freeSyndrome v_ways v_waysKept v_trace v_comesA v_comesB) := hD
      refine lv_aload_n hx hb dX12_tell_47 rfl (lv_at hl 0 rfl) ?_
      refine va_get (D := G) (ci := 10) (v := .int (v_told + 1)) (C := RX12) (T := TX12) (N := 33) hx hb hts hinX12 hown hK.1 hP 0 rfl rfl 0 (by decide) wd2 (fun _ h9 => h9) rfl dX12_tell_48 ?_
      have hq := Option.some.inj hm
      subst hq; subst hQ
      exact k_iret hx hb hr hlocks hP hD hS rfl trivial dX12_tell_51
    · have hm := i_t b3 hm
      refine lv_bipush (v := (-6)) hx hb dX12_tell_24 (by decide) ?_
      have hq := Option.some.inj hm
      subst hq; subst hQ
      exact k_iret hx hb hr hlocks hP hD hS rfl trivial dX12_tell_26
  · have hm := i_t b2 hm
    refine lv_bipush (v := (-3)) hx hb dX12_tell_12 (by decide) ?_
    have hq := Option.some.inj hm
    subst hq; subst hQ
    exact k_iret hx hb hr hlocks hP hD hS rfl trivial dX12_tell_14

theorem hd_X12_untell : yX12_untell.cls ≠ "java/lang/invoke/MethodHandle" ∧ yX12_untell.cls ≠ "java/lang/invoke/VarHandle" ∧ (parseMethodDescriptor yX12_untell.desc).map (fun d => d.parameters.length) = some 0 := by decide +kernel

def M_X12_untell  (v_told : Int32) : (Int32 × Int32) :=
  (v_told, 0)

abbrev rmX12_untell : Room := { frames := 0, cells := 0, slots := 0, locals := 0 }
set_option maxHeartbeats 4000000 in
set_option maxRecDepth 100000 in
theorem c_X12_untell (l : Launch) (G : va_G) (cs : CS) (q : Nat → Nat) (sz : Nat) (v_told : Int32) (v_tell : (Nat → Int32)) (v_sums : Int32) (v_kindOf : (Nat → Int32)) (v_modOf : (Nat → Int32)) (v_bitsOf : (Nat → Int32)) (v_turnOf : (Nat → Int32)) (v_polyOf : (Nat → Int64)) (v_beginOf : (Nat → Int64)) (v_finishOf : (Nat → Int64)) (v_isLow : (Nat → Int32)) (v_weightsOf : (Nat → Int32)) (v_weight : (Nat → Int32)) (v_cell : (Nat → Int32)) (v_size : Int32) (v_row : (Nat → Int32)) (v_keptSize : Int32) (v_keptBefore : (Nat → Int32)) (v_keptAfter : (Nat → Int32)) (v_placeA : (Nat → Int64)) (v_placeB : (Nat → Int64)) (v_turned : (Nat → Int32)) (v_turnedMany : Int32) (v_syndromes : (Nat → Int64)) (v_lightest : (Nat → Int32)) (v_freeMany : Int32) (v_freePlace : (Nat → Int32)) (v_freeSyndrome : (Nat → Int64)) (v_ways : (Nat → Int32)) (v_waysKept : Int32) (v_trace : (Nat → Int32)) (v_comesA : Int64) (v_comesB : Int64)  (res : (Int32 × Int32)) (hm : M_X12_untell  v_told = res) : Met l yX12_untell wsX12_untell rmX12_untell (va_Pc [.ref (q 0)] (PreW G cs sz (ww_M q cs v_told v_tell v_sums v_kindOf v_modOf v_bitsOf v_turnOf v_polyOf v_beginOf v_finishOf v_isLow v_weightsOf v_weight v_cell v_size v_row v_keptSize v_keptBefore v_keptAfter v_placeA v_placeB v_turned v_turnedMany v_syndromes v_lightest v_freeMany v_freePlace v_freeSyndrome v_ways v_waysKept v_trace v_comesA v_comesB) [] [])) (QI G res.1 True (ww_M q cs res.2 v_tell v_sums v_kindOf v_modOf v_bitsOf v_turnOf v_polyOf v_beginOf v_finishOf v_isLow v_weightsOf v_weight v_cell v_size v_row v_keptSize v_keptBefore v_keptAfter v_placeA v_placeB v_turned v_turnedMany v_syndromes v_lightest v_freeMany v_freePlace v_freeSyndrome v_ways v_waysKept v_trace v_comesA v_comesB) (va_A (ww_M q cs v_told v_tell v_sums v_kindOf v_modOf v_bitsOf v_turnOf v_polyOf v_beginOf v_finishOf v_isLow v_weightsOf v_weight v_cell v_size v_row v_keptSize v_keptBefore v_keptAfter v_placeA v_placeB v_turned v_turnedMany v_syndromes v_lightest v_freeMany v_freePlace v_freeSyndrome v_ways v_waysKept v_trace v_comesA v_comesB) sz)) 0 0 (va_A (ww_M q cs v_told v_tell v_sums v_kindOf v_modOf v_bitsOf v_turnOf v_polyOf v_beginOf v_finishOf v_isLow v_weightsOf v_weight v_cell v_size v_row v_keptSize v_keptBefore v_keptAfter v_placeA v_placeB v_turned v_turnedMany v_syndromes v_lightest v_freeMany v_freePlace v_freeSyndrome v_ways v_waysKept v_trace v_comesA v_comesB) sz) := by
  refine k_enter (Qf := fun A => QI G res.1 True (ww_M q cs res.2 v_tell v_sums v_kindOf v_modOf v_bitsOf v_turnOf v_polyOf v_beginOf v_finishOf v_isLow v_weightsOf v_weight v_cell v_size v_row v_keptSize v_keptBefore v_keptAfter v_placeA v_placeB v_turned v_turnedMany v_syndromes v_lightest v_freeMany v_freePlace v_freeSyndrome v_ways v_waysKept v_trace v_comesA v_comesB) A) (cc := cX12_untell) (maxL := 2) (ret := (some .int)) (by decide) rfl (Nat.le_of_ble_eq_true rfl) ?_
  intro p e s m args below meth c A Q ls H locs hx hb hr hml hown hts hlocks hname hK hA hRo hP hD hS hQ hl
  have hl : lv_has ls 2 [(0, .ref (q 0))] := hl
  have wd1 := hts (.fieldLink RX12 94 "SumSmithModel" "told" "I") (List.mem_of_getElem? (i := 1) rfl)
  have hinX12 : ∀ w ∈ wsX120, w ∈ wsX12_untell := fun w h => List.mem_cons_of_mem _ (List.mem_append_right _ h)
  unfold M_X12_untell at hm
  refine lv_aload_n hx hb dX12_untell_0 rfl (lv_at hl 0 rfl) ?_
  refine va_get (D := G) (ci := 10) (v := .int v_told) (C := RX12) (T := TX12) (N := 33) hx hb hts hinX12 hown hK.1 hP 0 rfl rfl 0 (by decide) wd1 (fun _ h9 => h9) rfl dX12_untell_1 ?_
  refine lv_istore_n (lv' := [(1, .int v_told), (0, .ref (q 0))]) hx hb dX12_untell_4 rfl hl (by decide) rfl (fun ls hl => ?_)
  refine lv_aload_n hx hb dX12_untell_5 rfl (lv_at hl 1 rfl) ?_
  refine lv_iconst (v := 0) hx hb dX12_untell_6 (by decide) ?_
  refine va_put (D := G) (ci := 10) (v := .int 0) (ty := .int) (C := RX12) (T := TX12) (N := 33) hx hb hts hinX12 tyX12 tyX12_ok nmX12 hown hK.1 hP hD hS 0 rfl rfl 0 (by decide) wd1 (fun _ h9 => h9) rfl (by decide +kernel) rfl rfl (Nat.le_of_ble_eq_true rfl) dX12_untell_7 (fun H locs hP hD hS => ?_)
  have hP : va_P G vwCl (ww_M q cs 0 v_tell v_sums v_kindOf v_modOf v_bitsOf v_turnOf v_polyOf v_beginOf v_finishOf v_isLow v_weightsOf v_weight v_cell v_size v_row v_keptSize v_keptBefore v_keptAfter v_placeA v_placeB v_turned v_turnedMany v_syndromes v_lightest v_freeMany v_freePlace v_freeSyndrome v_ways v_waysKept v_trace v_comesA v_comesB) H := hP
  have hD : va_D A (ww_M q cs 0 v_tell v_sums v_kindOf v_modOf v_bitsOf v_turnOf v_polyOf v_beginOf v_finishOf v_isLow v_weightsOf v_weight v_cell v_size v_row v_keptSize v_keptBefore v_keptAfter v_placeA v_placeB v_turned v_turnedMany v_syndromes v_lightest v_freeMany v_freePlace v_freeSyndrome v_ways v_waysKept v_trace v_comesA v_comesB) := hD
  refine lv_iload_n hx hb dX12_untell_10 rfl (lv_at hl 0 rfl) ?_
  have hq := hm
  subst hq; subst hQ
  exact k_iret hx hb hr hlocks hP hD hS rfl trivial dX12_untell_11

theorem hd_X12_made : yX12_made.cls ≠ "java/lang/invoke/MethodHandle" ∧ yX12_made.cls ≠ "java/lang/invoke/VarHandle" ∧ (parseMethodDescriptor yX12_made.desc).map (fun d => d.parameters.length) = some 1 := by decide +kernel

def M_X12_made (x1 : Int32) (v_sums : Int32) (v_kindOf : (Nat → Int32)) : Option (Int32 × Int32 × (Nat → Int32)) :=
  if v_sums < 0 ∨ 16 ≤ v_sums.toNatClampNeg then none else some ((v_sums + 1) - 1, (v_sums + 1), (upd v_kindOf v_sums.toNatClampNeg x1))

abbrev rmX12_made : Room := { frames := 0, cells := 0, slots := 0, locals := 0 }
set_option maxHeartbeats 4000000 in
set_option maxRecDepth 100000 in
theorem c_X12_made (l : Launch) (G : va_G) (cs : CS) (q : Nat → Nat) (sz : Nat) (v_told : Int32) (v_tell : (Nat → Int32)) (v_sums : Int32) (v_kindOf : (Nat → Int32)) (v_modOf : (Nat → Int32)) (v_bitsOf : (Nat → Int32)) (v_turnOf : (Nat → Int32)) (v_polyOf : (Nat → Int64)) (v_beginOf : (Nat → Int64)) (v_finishOf : (Nat → Int64)) (v_isLow : (Nat → Int32)) (v_weightsOf : (Nat → Int32)) (v_weight : (Nat → Int32)) (v_cell : (Nat → Int32)) (v_size : Int32) (v_row : (Nat → Int32)) (v_keptSize : Int32) (v_keptBefore : (Nat → Int32)) (v_keptAfter : (Nat → Int32)) (v_placeA : (Nat → Int64)) (v_placeB : (Nat → Int64)) (v_turned : (Nat → Int32)) (v_turnedMany : Int32) (v_syndromes : (Nat → Int64)) (v_lightest : (Nat → Int32)) (v_freeMany : Int32) (v_freePlace : (Nat → Int32)) (v_freeSyndrome : (Nat → Int64)) (v_ways : (Nat → Int32)) (v_waysKept : Int32) (v_trace : (Nat → Int32)) (v_comesA : Int64) (v_comesB : Int64) (x1 : Int32) (res : (Int32 × Int32 × (Nat → Int32))) (hm : M_X12_made x1 v_sums v_kindOf = some res) : Met l yX12_made wsX12_made rmX12_made (va_Pc [.ref (q 0), .int x1] (PreW G cs sz (ww_M q cs v_told v_tell v_sums v_kindOf v_modOf v_bitsOf v_turnOf v_polyOf v_beginOf v_finishOf v_isLow v_weightsOf v_weight v_cell v_size v_row v_keptSize v_keptBefore v_keptAfter v_placeA v_placeB v_turned v_turnedMany v_syndromes v_lightest v_freeMany v_freePlace v_freeSyndrome v_ways v_waysKept v_trace v_comesA v_comesB) [] [])) (QI G res.1 True (ww_M q cs v_told v_tell res.2.1 res.2.2 v_modOf v_bitsOf v_turnOf v_polyOf v_beginOf v_finishOf v_isLow v_weightsOf v_weight v_cell v_size v_row v_keptSize v_keptBefore v_keptAfter v_placeA v_placeB v_turned v_turnedMany v_syndromes v_lightest v_freeMany v_freePlace v_freeSyndrome v_ways v_waysKept v_trace v_comesA v_comesB) (va_A (ww_M q cs v_told v_tell v_sums v_kindOf v_modOf v_bitsOf v_turnOf v_polyOf v_beginOf v_finishOf v_isLow v_weightsOf v_weight v_cell v_size v_row v_keptSize v_keptBefore v_keptAfter v_placeA v_placeB v_turned v_turnedMany v_syndromes v_lightest v_freeMany v_freePlace v_freeSyndrome v_ways v_waysKept v_trace v_comesA v_comesB) sz)) 0 0 (va_A (ww_M q cs v_told v_tell v_sums v_kindOf v_modOf v_bitsOf v_turnOf v_polyOf v_beginOf v_finishOf v_isLow v_weightsOf v_weight v_cell v_size v_row v_keptSize v_keptBefore v_keptAfter v_placeA v_placeB v_turned v_turnedMany v_syndromes v_lightest v_freeMany v_freePlace v_freeSyndrome v_ways v_waysKept v_trace v_comesA v_comesB) sz) := by
  refine k_enter (Qf := fun A => QI G res.1 True (ww_M q cs v_told v_tell res.2.1 res.2.2 v_modOf v_bitsOf v_turnOf v_polyOf v_beginOf v_finishOf v_isLow v_weightsOf v_weight v_cell v_size v_row v_keptSize v_keptBefore v_keptAfter v_placeA v_placeB v_turned v_turnedMany v_syndromes v_lightest v_freeMany v_freePlace v_freeSyndrome v_ways v_waysKept v_trace v_comesA v_comesB) A) (cc := cX12_made) (maxL := 2) (ret := (some .int)) (by decide) rfl (Nat.le_of_ble_eq_true rfl) ?_
  intro p e s m args below meth c A Q ls H locs hx hb hr hml hown hts hlocks hname hK hA hRo hP hD hS hQ hl
  have hl : lv_has ls 2 [(0, .ref (q 0)), (1, .int x1)] := hl
  have wd1 := hts (.fieldLink RX12 13 "SumSmithModel" "kindOf" "[I") (List.mem_of_getElem? (i := 1) rfl)
  have wd2 := hts (.fieldLink RX12 84 "SumSmithModel" "sums" "I") (List.mem_of_getElem? (i := 2) rfl)
  have hinX12 : ∀ w ∈ wsX120, w ∈ wsX12_made := fun w h => List.mem_cons_of_mem _ (List.mem_append_right _ h)
  unfold M_X12_made at hm
  refine lv_aload_n hx hb dX12_made_0 rfl (lv_at hl 0 rfl) ?_
  refine va_get (D := G) (ci := 10) (v := .ref (q 2)) (C := RX12) (T := TX12) (N := 33) hx hb hts hinX12 hown hK.1 hP 0 rfl rfl 3 (by decide) wd1 (fun _ h9 => h9) rfl dX12_made_1 ?_
  refine lv_aload_n hx hb dX12_made_4 rfl (lv_at hl 0 rfl) ?_
  refine va_get (D := G) (ci := 10) (v := .int v_sums) (C := RX12) (T := TX12) (N := 33) hx hb hts hinX12 hown hK.1 hP 0 rfl rfl 2 (by decide) wd2 (fun _ h9 => h9) rfl dX12_made_5 ?_
  refine lv_iload_n hx hb dX12_made_8 rfl (lv_at hl 1 rfl) ?_
  obtain ⟨h1, hm⟩ := g_in hm
  refine va_iast hx hb hK.1 hP hD hS 2 0 rfl rfl h1 dX12_made_9 (fun H locs hP hD hS => ?_)
  have hP : va_P G vwCl (ww_M q cs v_told v_tell v_sums (upd v_kindOf v_sums.toNatClampNeg x1) v_modOf v_bitsOf v_turnOf v_polyOf v_beginOf v_finishOf v_isLow v_weightsOf v_weight v_cell v_size v_row v_keptSize v_keptBefore v_keptAfter v_placeA v_placeB v_turned v_turnedMany v_syndromes v_lightest v_freeMany v_freePlace v_freeSyndrome v_ways v_waysKept v_trace v_comesA v_comesB) H := hP
  have hD : va_D A (ww_M q cs v_told v_tell v_sums (upd v_kindOf v_sums.toNatClampNeg x1) v_modOf v_bitsOf v_turnOf v_polyOf v_beginOf v_finishOf v_isLow v_weightsOf v_weight v_cell v_size v_row v_keptSize v_keptBefore v_keptAfter v_placeA v_placeB v_turned v_turnedMany v_syndromes v_lightest v_freeMany v_freePlace v_freeSyndrome v_ways v_waysKept v_trace v_comesA v_comesB) := hD
  refine lv_aload_n hx hb dX12_made_10 rfl (lv_at hl 0 rfl) ?_
  refine lv_dup hx hb dX12_made_11 rfl ?_
  refine va_get (D := G) (ci := 10) (v := .int v_sums) (C := RX12) (T := TX12) (N := 33) hx hb hts hinX12 hown hK.1 hP 0 rfl rfl 2 (by decide) wd2 (fun _ h9 => h9) rfl dX12_made_12 ?_
  refine lv_iconst (v := 1) hx hb dX12_made_15 (by decide) ?_
  refine lv_iadd hx hb dX12_made_16 ?_
  refine va_put (D := G) (ci := 10) (v := .int (v_sums + 1)) (ty := .int) (C := RX12) (T := TX12) (N := 33) hx hb hts hinX12 tyX12 tyX12_ok nmX12 hown hK.1 hP hD hS 0 rfl rfl 2 (by decide) wd2 (fun _ h9 => h9) rfl (by decide +kernel) rfl rfl (Nat.le_of_ble_eq_true rfl) dX12_made_17 (fun H locs hP hD hS => ?_)
  have hP : va_P G vwCl (ww_M q cs v_told v_tell (v_sums + 1) (upd v_kindOf v_sums.toNatClampNeg x1) v_modOf v_bitsOf v_turnOf v_polyOf v_beginOf v_finishOf v_isLow v_weightsOf v_weight v_cell v_size v_row v_keptSize v_keptBefore v_keptAfter v_placeA v_placeB v_turned v_turnedMany v_syndromes v_lightest v_freeMany v_freePlace v_freeSyndrome v_ways v_waysKept v_trace v_comesA v_comesB) H := hP
  have hD : va_D A (ww_M q cs v_told v_tell (v_sums + 1) (upd v_kindOf v_sums.toNatClampNeg x1) v_modOf v_bitsOf v_turnOf v_polyOf v_beginOf v_finishOf v_isLow v_weightsOf v_weight v_cell v_size v_row v_keptSize v_keptBefore v_keptAfter v_placeA v_placeB v_turned v_turnedMany v_syndromes v_lightest v_freeMany v_freePlace v_freeSyndrome v_ways v_waysKept v_trace v_comesA v_comesB) := hD
  refine lv_aload_n hx hb dX12_made_20 rfl (lv_at hl 0 rfl) ?_
  refine va_get (D := G) (ci := 10) (v := .int (v_sums + 1)) (C := RX12) (T := TX12) (N := 33) hx hb hts hinX12 hown hK.1 hP 0 rfl rfl 2 (by decide) wd2 (fun _ h9 => h9) rfl dX12_made_21 ?_
  refine lv_iconst (v := 1) hx hb dX12_made_24 (by decide) ?_
  refine lv_isub hx hb dX12_made_25 ?_
  have hq := Option.some.inj hm
  subst hq; subst hQ
  exact k_iret hx hb hr hlocks hP hD hS rfl trivial dX12_made_26

theorem hd_X12_modular : yX12_modular.cls ≠ "java/lang/invoke/MethodHandle" ∧ yX12_modular.cls ≠ "java/lang/invoke/VarHandle" ∧ (parseMethodDescriptor yX12_modular.desc).map (fun d => d.parameters.length) = some 2 := by decide +kernel

def M_X12_modular (x1 : Int32) (x2 : Int32) (v_sums : Int32) (v_kindOf : (Nat → Int32)) (v_modOf : (Nat → Int32)) : Option (Int32 × Int32 × (Nat → Int32) × (Nat → Int32)) :=
  if (M_X12_in x2.toInt64 (2 : Int64) (65536 : Int64)) = 0 then (some ((-3), v_sums, v_kindOf, v_modOf)) else (if v_sums = 16 then (some ((-6), v_sums, v_kindOf, v_modOf)) else (if v_sums < 0 ∨ 16 ≤ v_sums.toNatClampNeg then none else (M_X12_made x1 v_sums v_kindOf).bind fun r5 => some (r5.1, r5.2.1, r5.2.2, (upd v_modOf v_sums.toNatClampNeg x2))))

abbrev rmX12_modular : Room := { frames := 1, cells := 0, slots := 0, locals := 25 }
set_option maxHeartbeats 4000000 in
set_option maxRecDepth 100000 in
theorem c_X12_modular (l : Launch) (G : va_G) (cs : CS) (q : Nat → Nat) (sz : Nat) (v_told : Int32) (v_tell : (Nat → Int32)) (v_sums : Int32) (v_kindOf : (Nat → Int32)) (v_modOf : (Nat → Int32)) (v_bitsOf : (Nat → Int32)) (v_turnOf : (Nat → Int32)) (v_polyOf : (Nat → Int64)) (v_beginOf : (Nat → Int64)) (v_finishOf : (Nat → Int64)) (v_isLow : (Nat → Int32)) (v_weightsOf : (Nat → Int32)) (v_weight : (Nat → Int32)) (v_cell : (Nat → Int32)) (v_size : Int32) (v_row : (Nat → Int32)) (v_keptSize : Int32) (v_keptBefore : (Nat → Int32)) (v_keptAfter : (Nat → Int32)) (v_placeA : (Nat → Int64)) (v_placeB : (Nat → Int64)) (v_turned : (Nat → Int32)) (v_turnedMany : Int32) (v_syndromes : (Nat → Int64)) (v_lightest : (Nat → Int32)) (v_freeMany : Int32) (v_freePlace : (Nat → Int32)) (v_freeSyndrome : (Nat → Int64)) (v_ways : (Nat → Int32)) (v_waysKept : Int32) (v_trace : (Nat → Int32)) (v_comesA : Int64) (v_comesB : Int64) (x1 : Int32) (x2 : Int32) (res : (Int32 × Int32 × (Nat → Int32) × (Nat → Int32))) (hm : M_X12_modular x1 x2 v_sums v_kindOf v_modOf = some res) : Met l yX12_modular wsX12_modular rmX12_modular (va_Pc [.ref (q 0), .int x1, .int x2] (PreW G cs sz (ww_M q cs v_told v_tell v_sums v_kindOf v_modOf v_bitsOf v_turnOf v_polyOf v_beginOf v_finishOf v_isLow v_weightsOf v_weight v_cell v_size v_row v_keptSize v_keptBefore v_keptAfter v_placeA v_placeB v_turned v_turnedMany v_syndromes v_lightest v_freeMany v_freePlace v_freeSyndrome v_ways v_waysKept v_trace v_comesA v_comesB) [] [])) (QI G res.1 True (ww_M q cs v_told v_tell res.2.1 res.2.2.1 res.2.2.2 v_bitsOf v_turnOf v_polyOf v_beginOf v_finishOf v_isLow v_weightsOf v_weight v_cell v_size v_row v_keptSize v_keptBefore v_keptAfter v_placeA v_placeB v_turned v_turnedMany v_syndromes v_lightest v_freeMany v_freePlace v_freeSyndrome v_ways v_waysKept v_trace v_comesA v_comesB) (va_A (ww_M q cs v_told v_tell v_sums v_kindOf v_modOf v_bitsOf v_turnOf v_polyOf v_beginOf v_finishOf v_isLow v_weightsOf v_weight v_cell v_size v_row v_keptSize v_keptBefore v_keptAfter v_placeA v_placeB v_turned v_turnedMany v_syndromes v_lightest v_freeMany v_freePlace v_freeSyndrome v_ways v_waysKept v_trace v_comesA v_comesB) sz)) 0 0 (va_A (ww_M q cs v_told v_tell v_sums v_kindOf v_modOf v_bitsOf v_turnOf v_polyOf v_beginOf v_finishOf v_isLow v_weightsOf v_weight v_cell v_size v_row v_keptSize v_keptBefore v_keptAfter v_placeA v_placeB v_turned v_turnedMany v_syndromes v_lightest v_freeMany v_freePlace v_freeSyndrome v_ways v_waysKept v_trace v_comesA v_comesB) sz) := by
  refine k_enter (Qf := fun A => QI G res.1 True (ww_M q cs v_told v_tell res.2.1 res.2.2.1 res.2.2.2 v_bitsOf v_turnOf v_polyOf v_beginOf v_finishOf v_isLow v_weightsOf v_weight v_cell v_size v_row v_keptSize v_keptBefore v_keptAfter v_placeA v_placeB v_turned v_turnedMany v_syndromes v_lightest v_freeMany v_freePlace v_freeSyndrome v_ways v_waysKept v_trace v_comesA v_comesB) A) (cc := cX12_modular) (maxL := 3) (ret := (some .int)) (by decide) rfl (Nat.le_of_ble_eq_true rfl) ?_
  intro p e s m args below meth c A Q ls H locs hx hb hr hml hown hts hlocks hname hK hA hRo hP hD hS hQ hl
  have hl : lv_has ls 3 [(0, .ref (q 0)), (1, .int x1), (2, .int x2)] := hl
  have wd1 := hts (.constantLong RX12 97 (2)) (List.mem_of_getElem? (i := 1) rfl)
  have wd2 := hts (.constantLong RX12 99 (65536)) (List.mem_of_getElem? (i := 2) rfl)
  have wd3 := hts (.fieldLink RX12 84 "SumSmithModel" "sums" "I") (List.mem_of_getElem? (i := 3) rfl)
  have wd4 := hts (.fieldLink RX12 16 "SumSmithModel" "modOf" "[I") (List.mem_of_getElem? (i := 4) rfl)
  have hinX12 : ∀ w ∈ wsX120, w ∈ wsX12_modular := fun w h => List.mem_cons_of_mem _ (List.mem_append_right _ h)
  unfold M_X12_modular at hm
  refine lv_iload_n hx hb dX12_modular_0 rfl (lv_at hl 2 rfl) ?_
  refine lv_i2l (v := x2.toInt64) hx hb dX12_modular_1 rfl ?_
  refine lv_ldc2 (own := RX12) (v := 2) hx hb hown wd1 dX12_modular_2 ?_
  refine lv_ldc2 (own := RX12) (v := 65536) hx hb hown wd2 dX12_modular_5 ?_
  refine k_calli0 (va_runS (As := [.long x2.toInt64, .long 2, .long 65536]) (rest := []) ⟨hx, hb, hml, hown, hts⟩ (c_X12_in l G cs H.size  x2.toInt64 (2 : Int64) (65536 : Int64) _ rfl) (va_cwS 3 hts gX12_modular_X12_in rfl rfl rfl hd_X12_in ⟨Nat.le_of_ble_eq_true rfl, Nat.le_of_ble_eq_true rfl⟩) ⟨pre_blind, pre_w hK RO.nil P0 D0 (va_new0 hS hA)⟩ rfl rfl hl.1 rfl (lv_room (Nat.le_of_ble_eq_true rfl)) dX12_modular_8 ⟨Nat.zero_le _, Nat.zero_le _⟩) hP hS hA (fun hE1 H locs hP hS => ?_)
  refine lv_if_ne (tgt := 17) hx hb dX12_modular_11 (by decide) (fun b2 => ?_) (fun b2 => ?_)
  · have hm := i_f b2 hm
    refine lv_aload_n hx hb dX12_modular_17 rfl (lv_at hl 0 rfl) ?_
    refine va_get (D := G) (ci := 10) (v := .int v_sums) (C := RX12) (T := TX12) (N := 33) hx hb hts hinX12 hown hK.1 hP 0 rfl rfl 2 (by decide) wd3 (fun _ h9 => h9) rfl dX12_modular_18 ?_
    refine lv_bipush (v := 16) hx hb dX12_modular_21 (by decide) ?_
    refine lv_icmp_ne (tgt := 29) hx hb dX12_modular_23 (by decide) (fun b3 => ?_) (fun b3 => ?_)
    · have hm := i_f b3 hm
      refine lv_aload_n hx hb dX12_modular_29 rfl (lv_at hl 0 rfl) ?_
      refine va_get (D := G) (ci := 10) (v := .ref (q 3)) (C := RX12) (T := TX12) (N := 33) hx hb hts hinX12 hown hK.1 hP 0 rfl rfl 4 (by decide) wd4 (fun _ h9 => h9) rfl dX12_modular_30 ?_
      refine lv_aload_n hx hb dX12_modular_33 rfl (lv_at hl 0 rfl) ?_
      refine va_get (D := G) (ci := 10) (v := .int v_sums) (C := RX12) (T := TX12) (N := 33) hx hb hts hinX12 hown hK.1 hP 0 rfl rfl 2 (by decide) wd3 (fun _ h9 => h9) rfl dX12_modular_34 ?_
      refine lv_iload_n hx hb dX12_modular_37 rfl (lv_at hl 2 rfl) ?_
      obtain ⟨h4, hm⟩ := g_in hm
      refine va_iast hx hb hK.1 hP hD hS 3 0 rfl rfl h4 dX12_modular_38 (fun H locs hP hD hS => ?_)
      have hP : va_P G vwCl (ww_M q cs v_told v_tell v_sums v_kindOf (upd v_modOf v_sums.toNatClampNeg x2) v_bitsOf v_turnOf v_polyOf v_beginOf v_finishOf v_isLow v_weightsOf v_weight v_cell v_size v_row v_keptSize v_keptBefore v_keptAfter v_placeA v_placeB v_turned v_turnedMany v_syndromes v_lightest v_freeMany v_freePlace v_freeSyndrome v_ways v_waysKept v_trace v_comesA v_comesB) H := hP
      have hD : va_D A (ww_M q cs v_told v_tell v_sums v_kindOf (upd v_modOf v_sums.toNatClampNeg x2) v_bitsOf v_turnOf v_polyOf v_beginOf v_finishOf v_isLow v_weightsOf v_weight v_cell v_size v_row v_keptSize v_keptBefore v_keptAfter v_placeA v_placeB v_turned v_turnedMany v_syndromes v_lightest v_freeMany v_freePlace v_freeSyndrome v_ways v_waysKept v_trace v_comesA v_comesB) := hD
      refine lv_aload_n hx hb dX12_modular_39 rfl (lv_at hl 0 rfl) ?_
      refine lv_iload_n hx hb dX12_modular_40 rfl (lv_at hl 1 rfl) ?_
      obtain ⟨r5, hc_r5, hm⟩ := bs hm
      refine k_calli (va_runV (As := [.int x1]) (rest := []) ⟨hx, hb, hml, hown, hts⟩ (c_X12_made l G cs q H.size v_told v_tell v_sums v_kindOf (upd v_modOf v_sums.toNatClampNeg x2) v_bitsOf v_turnOf v_polyOf v_beginOf v_finishOf v_isLow v_weightsOf v_weight v_cell v_size v_row v_keptSize v_keptBefore v_keptAfter v_placeA v_placeB v_turned v_turnedMany v_syndromes v_lightest v_freeMany v_freePlace v_freeSyndrome v_ways v_waysKept v_trace v_comesA v_comesB x1 r5 hc_r5) (cwV 1 hts gX12_modular_X12_made rfl rfl rfl ⟨rfl, hd_X12_made⟩ ⟨Nat.le_of_ble_eq_true rfl, Nat.le_of_ble_eq_true rfl⟩) ⟨pre_blind, va_recv hK.1 hP (ci := 10) (q0 := 0) rfl rfl, pre_w hK RO.nil hP hD (va_all hD hS hA)⟩ rfl rfl hl.1 rfl (lv_room (Nat.le_of_ble_eq_true rfl)) dX12_modular_41 ⟨Nat.zero_le _, Nat.zero_le _⟩) hS (va_all hD hS hA) (fun hE6 H locs hP hD hS => ?_)
      have hP : va_P G vwCl (ww_M q cs v_told v_tell r5.2.1 r5.2.2 (upd v_modOf v_sums.toNatClampNeg x2) v_bitsOf v_turnOf v_polyOf v_beginOf v_finishOf v_isLow v_weightsOf v_weight v_cell v_size v_row v_keptSize v_keptBefore v_keptAfter v_placeA v_placeB v_turned v_turnedMany v_syndromes v_lightest v_freeMany v_freePlace v_freeSyndrome v_ways v_waysKept v_trace v_comesA v_comesB) H := hP
      have hD : va_D A (ww_M q cs v_told v_tell r5.2.1 r5.2.2 (upd v_modOf v_sums.toNatClampNeg x2) v_bitsOf v_turnOf v_polyOf v_beginOf v_finishOf v_isLow v_weightsOf v_weight v_cell v_size v_row v_keptSize v_keptBefore v_keptAfter v_placeA v_placeB v_turned v_turnedMany v_syndromes v_lightest v_freeMany v_freePlace v_freeSyndrome v_ways v_waysKept v_trace v_comesA v_comesB) := hD
      have hq := Option.some.inj hm
      subst hq; subst hQ
      exact k_iret hx hb hr hlocks hP hD hS rfl trivial dX12_modular_44
    · have hm := i_t b3 hm
      refine lv_bipush (v := (-6)) hx hb dX12_modular_26 (by decide) ?_
      have hq := Option.some.inj hm
      subst hq; subst hQ
      exact k_iret hx hb hr hlocks hP hD hS rfl trivial dX12_modular_28
  · have hm := i_t b2 hm
    refine lv_bipush (v := (-3)) hx hb dX12_modular_14 (by decide) ?_
    have hq := Option.some.inj hm
    subst hq; subst hQ
    exact k_iret hx hb hr hlocks hP hD hS rfl trivial dX12_modular_16

theorem hd_X12_plain : yX12_plain.cls ≠ "java/lang/invoke/MethodHandle" ∧ yX12_plain.cls ≠ "java/lang/invoke/VarHandle" ∧ (parseMethodDescriptor yX12_plain.desc).map (fun d => d.parameters.length) = some 1 := by decide +kernel

def M_X12_plain (x1 : Int32) (v_sums : Int32) (v_kindOf : (Nat → Int32)) (v_modOf : (Nat → Int32)) : Option (Int32 × Int32 × (Nat → Int32) × (Nat → Int32)) :=
  (M_X12_modular (0 : Int32) x1 v_sums v_kindOf v_modOf).bind fun r1 => some (r1.1, r1.2.1, r1.2.2.1, r1.2.2.2)

abbrev rmX12_plain : Room := { frames := 2, cells := 0, slots := 0, locals := 47 }
set_option maxHeartbeats 4000000 in
set_option maxRecDepth 100000 in
theorem c_X12_plain (l : Launch) (G : va_G) (cs : CS) (q : Nat → Nat) (sz : Nat) (v_told : Int32) (v_tell : (Nat → Int32)) (v_sums : Int32) (v_kindOf : (Nat → Int32)) (v_modOf : (Nat → Int32)) (v_bitsOf : (Nat → Int32)) (v_turnOf : (Nat → Int32)) (v_polyOf : (Nat → Int64)) (v_beginOf : (Nat → Int64)) (v_finishOf : (Nat → Int64)) (v_isLow : (Nat → Int32)) (v_weightsOf : (Nat → Int32)) (v_weight : (Nat → Int32)) (v_cell : (Nat → Int32)) (v_size : Int32) (v_row : (Nat → Int32)) (v_keptSize : Int32) (v_keptBefore : (Nat → Int32)) (v_keptAfter : (Nat → Int32)) (v_placeA : (Nat → Int64)) (v_placeB : (Nat → Int64)) (v_turned : (Nat → Int32)) (v_turnedMany : Int32) (v_syndromes : (Nat → Int64)) (v_lightest : (Nat → Int32)) (v_freeMany : Int32) (v_freePlace : (Nat → Int32)) (v_freeSyndrome : (Nat → Int64)) (v_ways : (Nat → Int32)) (v_waysKept : Int32) (v_trace : (Nat → Int32)) (v_comesA : Int64) (v_comesB : Int64) (x1 : Int32) (res : (Int32 × Int32 × (Nat → Int32) × (Nat → Int32))) (hm : M_X12_plain x1 v_sums v_kindOf v_modOf = some res) : Met l yX12_plain wsX12_plain rmX12_plain (va_Pc [.ref (q 0), .int x1] (PreW G cs sz (ww_M q cs v_told v_tell v_sums v_kindOf v_modOf v_bitsOf v_turnOf v_polyOf v_beginOf v_finishOf v_isLow v_weightsOf v_weight v_cell v_size v_row v_keptSize v_keptBefore v_keptAfter v_placeA v_placeB v_turned v_turnedMany v_syndromes v_lightest v_freeMany v_freePlace v_freeSyndrome v_ways v_waysKept v_trace v_comesA v_comesB) [] [])) (QI G res.1 True (ww_M q cs v_told v_tell res.2.1 res.2.2.1 res.2.2.2 v_bitsOf v_turnOf v_polyOf v_beginOf v_finishOf v_isLow v_weightsOf v_weight v_cell v_size v_row v_keptSize v_keptBefore v_keptAfter v_placeA v_placeB v_turned v_turnedMany v_syndromes v_lightest v_freeMany v_freePlace v_freeSyndrome v_ways v_waysKept v_trace v_comesA v_comesB) (va_A (ww_M q cs v_told v_tell v_sums v_kindOf v_modOf v_bitsOf v_turnOf v_polyOf v_beginOf v_finishOf v_isLow v_weightsOf v_weight v_cell v_size v_row v_keptSize v_keptBefore v_keptAfter v_placeA v_placeB v_turned v_turnedMany v_syndromes v_lightest v_freeMany v_freePlace v_freeSyndrome v_ways v_waysKept v_trace v_comesA v_comesB) sz)) 0 0 (va_A (ww_M q cs v_told v_tell v_sums v_kindOf v_modOf v_bitsOf v_turnOf v_polyOf v_beginOf v_finishOf v_isLow v_weightsOf v_weight v_cell v_size v_row v_keptSize v_keptBefore v_keptAfter v_placeA v_placeB v_turned v_turnedMany v_syndromes v_lightest v_freeMany v_freePlace v_freeSyndrome v_ways v_waysKept v_trace v_comesA v_comesB) sz) := by
  refine k_enter (Qf := fun A => QI G res.1 True (ww_M q cs v_told v_tell res.2.1 res.2.2.1 res.2.2.2 v_bitsOf v_turnOf v_polyOf v_beginOf v_finishOf v_isLow v_weightsOf v_weight v_cell v_size v_row v_keptSize v_keptBefore v_keptAfter v_placeA v_placeB v_turned v_turnedMany v_syndromes v_lightest v_freeMany v_freePlace v_freeSyndrome v_ways v_waysKept v_trace v_comesA v_comesB) A) (cc := cX12_plain) (maxL := 2) (ret := (some .int)) (by decide) rfl (Nat.le_of_ble_eq_true rfl) ?_
  intro p e s m args below meth c A Q ls H locs hx hb hr hml hown hts hlocks hname hK hA hRo hP hD hS hQ hl
  have hl : lv_has ls 2 [(0, .ref (q 0)), (1, .int x1)] := hl
  unfold M_X12_plain at hm
  refine lv_aload_n hx hb dX12_plain_0 rfl (lv_at hl 0 rfl) ?_
  refine lv_iconst (v := 0) hx hb dX12_plain_1 (by decide) ?_
  refine lv_iload_n hx hb dX12_plain_2 rfl (lv_at hl 1 rfl) ?_
  obtain ⟨r1, hc_r1, hm⟩ := bs hm
  refine k_calli (va_runV (As := [.int 0, .int x1]) (rest := []) ⟨hx, hb, hml, hown, hts⟩ (c_X12_modular l G cs q H.size v_told v_tell v_sums v_kindOf v_modOf v_bitsOf v_turnOf v_polyOf v_beginOf v_finishOf v_isLow v_weightsOf v_weight v_cell v_size v_row v_keptSize v_keptBefore v_keptAfter v_placeA v_placeB v_turned v_turnedMany v_syndromes v_lightest v_freeMany v_freePlace v_freeSyndrome v_ways v_waysKept v_trace v_comesA v_comesB (0 : Int32) x1 r1 hc_r1) (cwV 2 hts gX12_plain_X12_modular rfl rfl rfl ⟨rfl, hd_X12_modular⟩ ⟨Nat.le_of_ble_eq_true rfl, Nat.le_of_ble_eq_true rfl⟩) ⟨pre_blind, va_recv hK.1 hP (ci := 10) (q0 := 0) rfl rfl, pre_w hK RO.nil hP hD (va_all hD hS hA)⟩ rfl rfl hl.1 rfl (lv_room (Nat.le_of_ble_eq_true rfl)) dX12_plain_3 ⟨Nat.zero_le _, Nat.zero_le _⟩) hS (va_all hD hS hA) (fun hE2 H locs hP hD hS => ?_)
  have hP : va_P G vwCl (ww_M q cs v_told v_tell r1.2.1 r1.2.2.1 r1.2.2.2 v_bitsOf v_turnOf v_polyOf v_beginOf v_finishOf v_isLow v_weightsOf v_weight v_cell v_size v_row v_keptSize v_keptBefore v_keptAfter v_placeA v_placeB v_turned v_turnedMany v_syndromes v_lightest v_freeMany v_freePlace v_freeSyndrome v_ways v_waysKept v_trace v_comesA v_comesB) H := hP
  have hD : va_D A (ww_M q cs v_told v_tell r1.2.1 r1.2.2.1 r1.2.2.2 v_bitsOf v_turnOf v_polyOf v_beginOf v_finishOf v_isLow v_weightsOf v_weight v_cell v_size v_row v_keptSize v_keptBefore v_keptAfter v_placeA v_placeB v_turned v_turnedMany v_syndromes v_lightest v_freeMany v_freePlace v_freeSyndrome v_ways v_waysKept v_trace v_comesA v_comesB) := hD
  have hq := Option.some.inj hm
  subst hq; subst hQ
  exact k_iret hx hb hr hlocks hP hD hS rfl trivial dX12_plain_6

theorem hd_X12_step : yX12_step.cls ≠ "java/lang/invoke/MethodHandle" ∧ yX12_step.cls ≠ "java/lang/invoke/VarHandle" ∧ (parseMethodDescriptor yX12_step.desc).map (fun d => d.parameters.length) = some 4 := by decide +kernel

def M_X12_step (x0 : Int64) (x2 : Int32) (x3 : Int32) (x4 : Int64)  : Int64 :=
  if (((x0.toUInt64 >>> ((x3 - 1).toInt64.toUInt64 &&& Int64.toUInt64 63)).toInt64) ^^^ x2.toInt64) = 1 then ((((x0 <<< ((1 : Int32).toInt64 &&& 63)) &&& (((1 : Int64) <<< (x3.toInt64 &&& 63)) - 1)) ^^^ x4)) else (((x0 <<< ((1 : Int32).toInt64 &&& 63)) &&& (((1 : Int64) <<< (x3.toInt64 &&& 63)) - 1)))

abbrev rmX12_step : Room := { frames := 0, cells := 0, slots := 0, locals := 0 }
set_option maxHeartbeats 4000000 in
set_option maxRecDepth 100000 in
theorem c_X12_step (l : Launch) (G : va_G) (cs : CS) (sz : Nat)  (x0 : Int64) (x2 : Int32) (x3 : Int32) (x4 : Int64) (res : Int64) (hm : M_X12_step x0 x2 x3 x4  = res) : Met l yX12_step wsX12_step rmX12_step (va_Pc [.long x0, .int x2, .int x3, .long x4] (PreW G cs sz [] [] [])) (QL G res [] (va_A [] sz)) 0 0 (va_A [] sz) := by
  refine k_enter (Qf := fun A => QL G res [] A) (cc := cX12_step) (maxL := 10) (ret := (some .long)) (by decide) rfl (Nat.le_of_ble_eq_true rfl) ?_
  intro p e s m args below meth c A Q ls H locs hx hb hr hml hown hts hlocks hname hK hA hRo hP hD hS hQ hl
  have hl : lv_has ls 10 [(0, .long x0), (2, .int x2), (3, .int x3), (4, .long x4)] := hl
  unfold M_X12_step at hm
  refine lv_lload_n hx hb dX12_step_0 rfl (lv_at hl 0 rfl) ?_
  refine lv_iload_n hx hb dX12_step_1 rfl (lv_at hl 2 rfl) ?_
  refine lv_iconst (v := 1) hx hb dX12_step_2 (by decide) ?_
  refine lv_isub hx hb dX12_step_3 ?_
  refine lv_lushr (v := (x0.toUInt64 >>> ((x3 - 1).toInt64.toUInt64 &&& Int64.toUInt64 63)).toInt64) hx hb dX12_step_4 rfl ?_
  refine lv_iload_n hx hb dX12_step_5 rfl (lv_at hl 1 rfl) ?_
  refine lv_i2l (v := x2.toInt64) hx hb dX12_step_6 rfl ?_
  refine lv_lxor hx hb dX12_step_7 ?_
  refine lv_lstore (lv' := [(6, .long (((x0.toUInt64 >>> ((x3 - 1).toInt64.toUInt64 &&& Int64.toUInt64 63)).toInt64) ^^^ x2.toInt64)), (0, .long x0), (2, .int x2), (3, .int x3), (4, .long x4)]) hx hb dX12_step_8 hl (by decide) rfl (fun ls hl => ?_)
  refine lv_lload_n hx hb dX12_step_10 rfl (lv_at hl 1 rfl) ?_
  refine lv_iconst (v := 1) hx hb dX12_step_11 (by decide) ?_
  refine lv_lshl (v := x0 <<< ((1 : Int32).toInt64 &&& 63)) hx hb dX12_step_12 rfl ?_
  refine lv_lconst (v := 1) hx hb dX12_step_13 (by decide) ?_
  refine lv_iload_n hx hb dX12_step_14 rfl (lv_at hl 3 rfl) ?_
  refine lv_lshl (v := (1 : Int64) <<< (x3.toInt64 &&& 63)) hx hb dX12_step_15 rfl ?_
  refine lv_lconst (v := 1) hx hb dX12_step_16 (by decide) ?_
  refine lv_lsub hx hb dX12_step_17 ?_
  refine lv_land hx hb dX12_step_18 ?_
  refine lv_lstore (lv' := [(8, .long ((x0 <<< ((1 : Int32).toInt64 &&& 63)) &&& (((1 : Int64) <<< (x3.toInt64 &&& 63)) - 1))), (6, .long (((x0.toUInt64 >>> ((x3 - 1).toInt64.toUInt64 &&& Int64.toUInt64 63)).toInt64) ^^^ x2.toInt64)), (0, .long x0), (2, .int x2), (3, .int x3), (4, .long x4)]) hx hb dX12_step_19 hl (by decide) rfl (fun ls hl => ?_)
  refine lv_lload hx hb dX12_step_21 (lv_at hl 1 rfl) ?_
  refine lv_lconst (v := 1) hx hb dX12_step_23 (by decide) ?_
  refine W.lcmp hx hb dX12_step_24 ?_
  refine lv_if_ne (tgt := 36) hx hb dX12_step_25 (by decide) (fun b1 => ?_) (fun b1 => ?_)
  · have b1 := fun h9 => b1 ((lg_cmp_eq _ _).mpr h9)
    have hm := i_f b1 hm
    refine lv_lload hx hb dX12_step_36 (lv_at hl 0 rfl) ?_
    have hq := hm
    subst hq; subst hQ
    exact k_lret hx hb hr hlocks hP hD hS rfl dX12_step_38
  · have b1 := (lg_cmp_eq _ _).mp b1
    have hm := i_t b1 hm
    refine lv_lload hx hb dX12_step_28 (lv_at hl 0 rfl) ?_
    refine lv_lload hx hb dX12_step_30 (lv_at hl 5 rfl) ?_
    refine lv_lxor hx hb dX12_step_32 ?_
    refine lv_goto (tgt := 38) hx hb dX12_step_33 (by decide) ?_
    have hq := hm
    subst hq; subst hQ
    exact k_lret hx hb hr hlocks hP hD hS rfl dX12_step_38

theorem hd_X12_stepByte : yX12_stepByte.cls ≠ "java/lang/invoke/MethodHandle" ∧ yX12_stepByte.cls ≠ "java/lang/invoke/VarHandle" ∧ (parseMethodDescriptor yX12_stepByte.desc).map (fun d => d.parameters.length) = some 5 := by decide +kernel

def M_X12_stepByte_b6 (n : Nat) (x2 : Int32) (x3 : Int32) (x4 : Int64) (x6 : Int32) (x7 : Int64) (x9 : Int32) : Option ((Int64 × Int32) ⊕ Int64) :=
  if 8 ≤ x9 then (some (.inr x7)) else (if x6 = 0 then (some (.inl ((M_X12_step x7 ((x2 >>> ((7 - x9) &&& 31)) &&& 1) x3 x4), x9 + 1))) else (some (.inl ((M_X12_step x7 ((x2 >>> (x9 &&& 31)) &&& 1) x3 x4), x9 + 1))))

def M_X12_stepByte (n : Nat) (x0 : Int64) (x2 : Int32) (x3 : Int32) (x4 : Int64) (x6 : Int32)  : Option Int64 :=
  (lp (fun x : (Int64 × Int32) => M_X12_stepByte_b6 n x2 x3 x4 x6 x.1 x.2) n (x0, (0 : Int32))).bind fun o3 => some o3

abbrev rmX12_stepByte : Room := { frames := 1, cells := 0, slots := 0, locals := 29 }
set_option maxHeartbeats 4000000 in
set_option maxRecDepth 100000 in
theorem c_X12_stepByte (l : Launch) (G : va_G) (cs : CS) (sz : Nat)  (x0 : Int64) (x2 : Int32) (x3 : Int32) (x4 : Int64) (x6 : Int32) (n : Nat) (res : Int64) (hm : M_X12_stepByte n x0 x2 x3 x4 x6  = some res) : Met l yX12_stepByte wsX12_stepByte rmX12_stepByte (va_Pc [.long x0, .int x2, .int x3, .long x4, .int x6] (PreW G cs sz [] [] [])) (QL G res [] (va_A [] sz)) 0 0 (va_A [] sz) := by
  refine k_enter (Qf := fun A => QL G res [] A) (cc := cX12_stepByte) (maxL := 11) (ret := (some .long)) (by decide) rfl (Nat.le_of_ble_eq_true rfl) ?_
  intro p e s m args below meth c A Q ls H locs hx hb hr hml hown hts hlocks hname hK hA hRo hP hD hS hQ hl
  have hl : lv_has ls 11 [(0, .long x0), (2, .int x2), (3, .int x3), (4, .long x4), (6, .int x6)] := hl
  have L6 : ∀ (x2 : Int32) (x3 : Int32) (x4 : Int64) (x6 : Int32) (x7 : Int64) (x9 : Int32) (out : Int64), lp (fun x : (Int64 × Int32) => M_X12_stepByte_b6 n x2 x3 x4 x6 x.1 x.2) n (x7, x9) = some out → (∀ (o : Int64), out = o → ∀ (H : Heap) (locs : List Loc), va_P G vwCl [] H → va_D A [] → va_S A s.heap H locs → ∀ (ls : Array Slot), lv_has ls 11 [(7, .long o)] → W p l e rmX12_stepByte s m args below meth c H locs 0 0 Q (F0 m 56 ls [])) → ∀ (H : Heap) (locs : List Loc), va_P G vwCl [] H → va_D A [] → va_S A s.heap H locs → ∀ (ls : Array Slot), lv_has ls 11 [(2, .int x2), (3, .int x3), (4, .long x4), (6, .int x6), (7, .long x7), (9, .int x9)] → W p l e rmX12_stepByte s m args below meth c H locs 0 0 Q (F0 m 6 ls []) := by
    intro x2 x3 x4 x6 x7 x9 out hlp hX
    refine lp_ind (fun x => ∀ (H : Heap) (locs : List Loc), va_P G vwCl [] H → va_D A [] → va_S A s.heap H locs → ∀ (ls : Array Slot), lv_has ls 11 [(2, .int x2), (3, .int x3), (4, .long x4), (6, .int x6), (7, .long x.1), (9, .int x.2)] → W p l e rmX12_stepByte s m args below meth c H locs 0 0 Q (F0 m 6 ls [])) ?_ n (x7, x9) hlp
    clear hlp hP hD hS hl
    rintro ⟨x7, x9⟩ ob hm hst H locs hP hD hS ls hl
    have hm : M_X12_stepByte_b6 n x2 x3 x4 x6 x7 x9 = some ob := hm
    have hl : lv_has ls 11 [(2, .int x2), (3, .int x3), (4, .long x4), (6, .int x6), (7, .long x7), (9, .int x9)] := hl
    have hP : va_P G vwCl [] H := hP
    have hD : va_D A [] := hD
    unfold M_X12_stepByte_b6 at hm
    refine lv_iload hx hb dX12_stepByte_6 (lv_at hl 5 rfl) ?_
    refine lv_bipush (v := 8) hx hb dX12_stepByte_8 (by decide) ?_
    refine lv_icmp_ge (tgt := 56) hx hb dX12_stepByte_10 (by decide) (fun b1 => ?_) (fun b1 => ?_)
    · have hm := i_t b1 hm
      exact hX _ (st_exit hm hst) H locs hP hD hS ls (lv_sub hl [4] rfl)
    · have hm := i_f b1 hm
      refine lv_iload hx hb dX12_stepByte_13 (lv_at hl 3 rfl) ?_
      refine lv_if_eq (tgt := 27) hx hb dX12_stepByte_15 (by decide) (fun b2 => ?_) (fun b2 => ?_)
      · have hm := i_t b2 hm
        refine lv_iload_n hx hb dX12_stepByte_27 rfl (lv_at hl 0 rfl) ?_
        refine lv_bipush (v := 7) hx hb dX12_stepByte_28 (by decide) ?_
        refine lv_iload hx hb dX12_stepByte_30 (lv_at hl 5 rfl) ?_
        refine lv_isub hx hb dX12_stepByte_32 ?_
        refine lv_ishr hx hb dX12_stepByte_33 ?_
        refine lv_iconst (v := 1) hx hb dX12_stepByte_34 (by decide) ?_
        refine lv_iand hx hb dX12_stepByte_35 ?_
        refine lv_istore (lv' := [(10, .int ((x2 >>> ((7 - x9) &&& 31)) &&& 1)), (2, .int x2), (3, .int x3), (4, .long x4), (6, .int x6), (7, .long x7), (9, .int x9)]) hx hb dX12_stepByte_36 hl (by decide) rfl (fun ls hl => ?_)
        refine lv_lload hx hb dX12_stepByte_38 (lv_at hl 5 rfl) ?_
        refine lv_iload hx hb dX12_stepByte_40 (lv_at hl 0 rfl) ?_
        refine lv_iload_n hx hb dX12_stepByte_42 rfl (lv_at hl 2 rfl) ?_
        refine lv_lload hx hb dX12_stepByte_43 (lv_at hl 3 rfl) ?_
        refine k_calll0 (va_runS (As := [.long x7, .int ((x2 >>> ((7 - x9) &&& 31)) &&& 1), .int x3, .long x4]) (rest := []) ⟨hx, hb, hml, hown, hts⟩ (c_X12_step l G cs H.size  x7 ((x2 >>> ((7 - x9) &&& 31)) &&& 1) x3 x4 _ rfl) (va_cwS 4 hts gX12_stepByte_X12_step rfl rfl rfl hd_X12_step ⟨Nat.le_of_ble_eq_true rfl, Nat.le_of_ble_eq_true rfl⟩) ⟨pre_blind, pre_w hK RO.nil P0 D0 (va_new0 hS hA)⟩ rfl rfl hl.1 rfl (lv_room (Nat.le_of_ble_eq_true rfl)) dX12_stepByte_45 ⟨Nat.zero_le _, Nat.zero_le _⟩) hP hS hA (fun H locs hP hS => ?_)
        refine lv_lstore (lv' := [(7, .long (M_X12_step x7 ((x2 >>> ((7 - x9) &&& 31)) &&& 1) x3 x4)), (10, .int ((x2 >>> ((7 - x9) &&& 31)) &&& 1)), (2, .int x2), (3, .int x3), (4, .long x4), (6, .int x6), (9, .int x9)]) hx hb dX12_stepByte_48 hl (by decide) rfl (fun ls hl => ?_)
        refine lv_iinc (v := x9 + 1) (lv' := [(9, .int (x9 + 1)), (7, .long (M_X12_step x7 ((x2 >>> ((7 - x9) &&& 31)) &&& 1) x3 x4)), (10, .int ((x2 >>> ((7 - x9) &&& 31)) &&& 1)), (2, .int x2), (3, .int x3), (4, .long x4), (6, .int x6)]) hx hb dX12_stepByte_50 hl (k := 6) rfl rfl (by decide) rfl (fun ls hl => ?_)
        refine lv_goto (tgt := 6) hx hb dX12_stepByte_53 (by decide) ?_
        exact st_next hm hst H locs hP hD hS ls (lv_sub hl [3, 4, 5, 6, 1, 0] rfl)
      · have hm := i_f b2 hm
        refine lv_iload_n hx hb dX12_stepByte_18 rfl (lv_at hl 0 rfl) ?_
        refine lv_iload hx hb dX12_stepByte_19 (lv_at hl 5 rfl) ?_
        refine lv_ishr hx hb dX12_stepByte_21 ?_
        refine lv_iconst (v := 1) hx hb dX12_stepByte_22 (by decide) ?_
        refine lv_iand hx hb dX12_stepByte_23 ?_
        refine lv_goto (tgt := 36) hx hb dX12_stepByte_24 (by decide) ?_
        refine lv_istore (lv' := [(10, .int ((x2 >>> (x9 &&& 31)) &&& 1)), (2, .int x2), (3, .int x3), (4, .long x4), (6, .int x6), (7, .long x7), (9, .int x9)]) hx hb dX12_stepByte_36 hl (by decide) rfl (fun ls hl => ?_)
        refine lv_lload hx hb dX12_stepByte_38 (lv_at hl 5 rfl) ?_
        refine lv_iload hx hb dX12_stepByte_40 (lv_at hl 0 rfl) ?_
        refine lv_iload_n hx hb dX12_stepByte_42 rfl (lv_at hl 2 rfl) ?_
        refine lv_lload hx hb dX12_stepByte_43 (lv_at hl 3 rfl) ?_
        refine k_calll0 (va_runS (As := [.long x7, .int ((x2 >>> (x9 &&& 31)) &&& 1), .int x3, .long x4]) (rest := []) ⟨hx, hb, hml, hown, hts⟩ (c_X12_step l G cs H.size  x7 ((x2 >>> (x9 &&& 31)) &&& 1) x3 x4 _ rfl) (va_cwS 4 hts gX12_stepByte_X12_step rfl rfl rfl hd_X12_step ⟨Nat.le_of_ble_eq_true rfl, Nat.le_of_ble_eq_true rfl⟩) ⟨pre_blind, pre_w hK RO.nil P0 D0 (va_new0 hS hA)⟩ rfl rfl hl.1 rfl (lv_room (Nat.le_of_ble_eq_true rfl)) dX12_stepByte_45 ⟨Nat.zero_le _, Nat.zero_le _⟩) hP hS hA (fun H locs hP hS => ?_)
        refine lv_lstore (lv' := [(7, .long (M_X12_step x7 ((x2 >>> (x9 &&& 31)) &&& 1) x3 x4)), (10, .int ((x2 >>> (x9 &&& 31)) &&& 1)), (2, .int x2), (3, .int x3), (4, .long x4), (6, .int x6), (9, .int x9)]) hx hb dX12_stepByte_48 hl (by decide) rfl (fun ls hl => ?_)
        refine lv_iinc (v := x9 + 1) (lv' := [(9, .int (x9 + 1)), (7, .long (M_X12_step x7 ((x2 >>> (x9 &&& 31)) &&& 1) x3 x4)), (10, .int ((x2 >>> (x9 &&& 31)) &&& 1)), (2, .int x2), (3, .int x3), (4, .long x4), (6, .int x6)]) hx hb dX12_stepByte_50 hl (k := 6) rfl rfl (by decide) rfl (fun ls hl => ?_)
        refine lv_goto (tgt := 6) hx hb dX12_stepByte_53 (by decide) ?_
        exact st_next hm hst H locs hP hD hS ls (lv_sub hl [3, 4, 5, 6, 1, 0] rfl)
  unfold M_X12_stepByte at hm
  refine lv_lload_n hx hb dX12_stepByte_0 rfl (lv_at hl 0 rfl) ?_
  refine lv_lstore (lv' := [(7, .long x0), (0, .long x0), (2, .int x2), (3, .int x3), (4, .long x4), (6, .int x6)]) hx hb dX12_stepByte_1 hl (by decide) rfl (fun ls hl => ?_)
  refine lv_iconst (v := 0) hx hb dX12_stepByte_3 (by decide) ?_
  refine lv_istore (lv' := [(9, .int 0), (7, .long x0), (0, .long x0), (2, .int x2), (3, .int x3), (4, .long x4), (6, .int x6)]) hx hb dX12_stepByte_4 hl (by decide) rfl (fun ls hl => ?_)
  obtain ⟨o3, hlp3, hm⟩ := bs hm
  refine L6 x2 x3 x4 x6 x0 (0 : Int32) o3 hlp3 (fun oo ho => ?_) H locs hP hD hS ls (lv_sub hl [3, 4, 5, 6, 1, 0] rfl)
  subst ho
  intro H locs hP hD hS ls hl
  have hl : lv_has ls 11 [(7, .long o3)] := hl
  have hP : va_P G vwCl [] H := hP
  have hD : va_D A [] := hD
  refine lv_lload hx hb dX12_stepByte_56 (lv_at hl 0 rfl) ?_
  have hq := Option.some.inj hm
  subst hq; subst hQ
  exact k_lret hx hb hr hlocks hP hD hS rfl dX12_stepByte_58

theorem hd_X12_passed : yX12_passed.cls ≠ "java/lang/invoke/MethodHandle" ∧ yX12_passed.cls ≠ "java/lang/invoke/VarHandle" ∧ (parseMethodDescriptor yX12_passed.desc).map (fun d => d.parameters.length) = some 3 := by decide +kernel

def M_X12_passed_b6 (n : Nat) (x1 : Int32) (x4 : Int32) (v_bitsOf : (Nat → Int32)) (v_polyOf : (Nat → Int64)) (x5 : Int64) (x7 : Int32) : Option ((Int64 × Int32) ⊕ Int64) :=
  if (8 * x4) ≤ x7 then (some (.inr x5)) else (if x1 < 0 ∨ 16 ≤ x1.toNatClampNeg then none else if x1 < 0 ∨ 16 ≤ x1.toNatClampNeg then none else some (.inl ((M_X12_step x5 (0 : Int32) (v_bitsOf x1.toNatClampNeg) (v_polyOf x1.toNatClampNeg)), x7 + 1)))

def M_X12_passed (n : Nat) (x1 : Int32) (x2 : Int64) (x4 : Int32) (v_bitsOf : (Nat → Int32)) (v_polyOf : (Nat → Int64)) : Option Int64 :=
  (lp (fun x : (Int64 × Int32) => M_X12_passed_b6 n x1 x4 v_bitsOf v_polyOf x.1 x.2) n (x2, (0 : Int32))).bind fun o4 => some o4

abbrev rmX12_passed : Room := { frames := 1, cells := 0, slots := 0, locals := 29 }
set_option maxHeartbeats 4000000 in
set_option maxRecDepth 100000 in
theorem c_X12_passed (l : Launch) (G : va_G) (cs : CS) (q : Nat → Nat) (sz : Nat) (v_told : Int32) (v_tell : (Nat → Int32)) (v_sums : Int32) (v_kindOf : (Nat → Int32)) (v_modOf : (Nat → Int32)) (v_bitsOf : (Nat → Int32)) (v_turnOf : (Nat → Int32)) (v_polyOf : (Nat → Int64)) (v_beginOf : (Nat → Int64)) (v_finishOf : (Nat → Int64)) (v_isLow : (Nat → Int32)) (v_weightsOf : (Nat → Int32)) (v_weight : (Nat → Int32)) (v_cell : (Nat → Int32)) (v_size : Int32) (v_row : (Nat → Int32)) (v_keptSize : Int32) (v_keptBefore : (Nat → Int32)) (v_keptAfter : (Nat → Int32)) (v_placeA : (Nat → Int64)) (v_placeB : (Nat → Int64)) (v_turned : (Nat → Int32)) (v_turnedMany : Int32) (v_syndromes : (Nat → Int64)) (v_lightest : (Nat → Int32)) (v_freeMany : Int32) (v_freePlace : (Nat → Int32)) (v_freeSyndrome : (Nat → Int64)) (v_ways : (Nat → Int32)) (v_waysKept : Int32) (v_trace : (Nat → Int32)) (v_comesA : Int64) (v_comesB : Int64) (x1 : Int32) (x2 : Int64) (x4 : Int32) (n : Nat) (res : Int64) (hm : M_X12_passed n x1 x2 x4 v_bitsOf v_polyOf = some res) : Met l yX12_passed wsX12_passed rmX12_passed (va_Pc [.ref (q 0), .int x1, .long x2, .int x4] (PreW G cs sz (ww_M q cs v_told v_tell v_sums v_kindOf v_modOf v_bitsOf v_turnOf v_polyOf v_beginOf v_finishOf v_isLow v_weightsOf v_weight v_cell v_size v_row v_keptSize v_keptBefore v_keptAfter v_placeA v_placeB v_turned v_turnedMany v_syndromes v_lightest v_freeMany v_freePlace v_freeSyndrome v_ways v_waysKept v_trace v_comesA v_comesB) [] [])) (QL G res (ww_M q cs v_told v_tell v_sums v_kindOf v_modOf v_bitsOf v_turnOf v_polyOf v_beginOf v_finishOf v_isLow v_weightsOf v_weight v_cell v_size v_row v_keptSize v_keptBefore v_keptAfter v_placeA v_placeB v_turned v_turnedMany v_syndromes v_lightest v_freeMany v_freePlace v_freeSyndrome v_ways v_waysKept v_trace v_comesA v_comesB) (va_A (ww_M q cs v_told v_tell v_sums v_kindOf v_modOf v_bitsOf v_turnOf v_polyOf v_beginOf v_finishOf v_isLow v_weightsOf v_weight v_cell v_size v_row v_keptSize v_keptBefore v_keptAfter v_placeA v_placeB v_turned v_turnedMany v_syndromes v_lightest v_freeMany v_freePlace v_freeSyndrome v_ways v_waysKept v_trace v_comesA v_comesB) sz)) 0 0 (va_A (ww_M q cs v_told v_tell v_sums v_kindOf v_modOf v_bitsOf v_turnOf v_polyOf v_beginOf v_finishOf v_isLow v_weightsOf v_weight v_cell v_size v_row v_keptSize v_keptBefore v_keptAfter v_placeA v_placeB v_turned v_turnedMany v_syndromes v_lightest v_freeMany v_freePlace v_freeSyndrome v_ways v_waysKept v_trace v_comesA v_comesB) sz) := by
  refine k_enter (Qf := fun A => QL G res (ww_M q cs v_told v_tell v_sums v_kindOf v_modOf v_bitsOf v_turnOf v_polyOf v_beginOf v_finishOf v_isLow v_weightsOf v_weight v_cell v_size v_row v_keptSize v_keptBefore v_keptAfter v_placeA v_placeB v_turned v_turnedMany v_syndromes v_lightest v_freeMany v_freePlace v_freeSyndrome v_ways v_waysKept v_trace v_comesA v_comesB) A) (cc := cX12_passed) (maxL := 8) (ret := (some .long)) (by decide) rfl (Nat.le_of_ble_eq_true rfl) ?_
  intro p e s m args below meth c A Q ls H locs hx hb hr hml hown hts hlocks hname hK hA hRo hP hD hS hQ hl
  have hl : lv_has ls 8 [(0, .ref (q 0)), (1, .int x1), (2, .long x2), (4, .int x4)] := hl
  have wd1 := hts (.fieldLink RX12 19 "SumSmithModel" "bitsOf" "[I") (List.mem_of_getElem? (i := 1) rfl)
  have wd2 := hts (.fieldLink RX12 25 "SumSmithModel" "polyOf" "[J") (List.mem_of_getElem? (i := 2) rfl)
  have hinX12 : ∀ w ∈ wsX120, w ∈ wsX12_passed := fun w h => List.mem_cons_of_mem _ (List.mem_append_right _ h)
  have L6 : ∀ (x1 : Int32) (x4 : Int32) (x5 : Int64) (x7 : Int32) (out : Int64), lp (fun x : (Int64 × Int32) => M_X12_passed_b6 n x1 x4 v_bitsOf v_polyOf x.1 x.2) n (x5, x7) = some out → (∀ (o : Int64), out = o → ∀ (H : Heap) (locs : List Loc), va_P G vwCl (ww_M q cs v_told v_tell v_sums v_kindOf v_modOf v_bitsOf v_turnOf v_polyOf v_beginOf v_finishOf v_isLow v_weightsOf v_weight v_cell v_size v_row v_keptSize v_keptBefore v_keptAfter v_placeA v_placeB v_turned v_turnedMany v_syndromes v_lightest v_freeMany v_freePlace v_freeSyndrome v_ways v_waysKept v_trace v_comesA v_comesB) H → va_D A (ww_M q cs v_told v_tell v_sums v_kindOf v_modOf v_bitsOf v_turnOf v_polyOf v_beginOf v_finishOf v_isLow v_weightsOf v_weight v_cell v_size v_row v_keptSize v_keptBefore v_keptAfter v_placeA v_placeB v_turned v_turnedMany v_syndromes v_lightest v_freeMany v_freePlace v_freeSyndrome v_ways v_waysKept v_trace v_comesA v_comesB) → va_S A s.heap H locs → ∀ (ls : Array Slot), lv_has ls 8 [(5, .long o)] → W p l e rmX12_passed s m args below meth c H locs 0 0 Q (F0 m 42 ls [])) → ∀ (H : Heap) (locs : List Loc), va_P G vwCl (ww_M q cs v_told v_tell v_sums v_kindOf v_modOf v_bitsOf v_turnOf v_polyOf v_beginOf v_finishOf v_isLow v_weightsOf v_weight v_cell v_size v_row v_keptSize v_keptBefore v_keptAfter v_placeA v_placeB v_turned v_turnedMany v_syndromes v_lightest v_freeMany v_freePlace v_freeSyndrome v_ways v_waysKept v_trace v_comesA v_comesB) H → va_D A (ww_M q cs v_told v_tell v_sums v_kindOf v_modOf v_bitsOf v_turnOf v_polyOf v_beginOf v_finishOf v_isLow v_weightsOf v_weight v_cell v_size v_row v_keptSize v_keptBefore v_keptAfter v_placeA v_placeB v_turned v_turnedMany v_syndromes v_lightest v_freeMany v_freePlace v_freeSyndrome v_ways v_waysKept v_trace v_comesA v_comesB) → va_S A s.heap H locs → ∀ (ls : Array Slot), lv_has ls 8 [(0, .ref (q 0)), (1, .int x1), (4, .int x4), (5, .long x5), (7, .int x7)] → W p l e rmX12_passed s m args below meth c H locs 0 0 Q (F0 m 6 ls []) := by
    intro x1 x4 x5 x7 out hlp hX
    refine lp_ind (fun x => ∀ (H : Heap) (locs : List Loc), va_P G vwCl (ww_M q cs v_told v_tell v_sums v_kindOf v_modOf v_bitsOf v_turnOf v_polyOf v_beginOf v_finishOf v_isLow v_weightsOf v_weight v_cell v_size v_row v_keptSize v_keptBefore v_keptAfter v_placeA v_placeB v_turned v_turnedMany v_syndromes v_lightest v_freeMany v_freePlace v_freeSyndrome v_ways v_waysKept v_trace v_comesA v_comesB) H → va_D A (ww_M q cs v_told v_tell v_sums v_kindOf v_modOf v_bitsOf v_turnOf v_polyOf v_beginOf v_finishOf v_isLow v_weightsOf v_weight v_cell v_size v_row v_keptSize v_keptBefore v_keptAfter v_placeA v_placeB v_turned v_turnedMany v_syndromes v_lightest v_freeMany v_freePlace v_freeSyndrome v_ways v_waysKept v_trace v_comesA v_comesB) → va_S A s.heap H locs → ∀ (ls : Array Slot), lv_has ls 8 [(0, .ref (q 0)), (1, .int x1), (4, .int x4), (5, .long x.1), (7, .int x.2)] → W p l e rmX12_passed s m args below meth c H locs 0 0 Q (F0 m 6 ls [])) ?_ n (x5, x7) hlp
    clear hlp hP hD hS hl
    rintro ⟨x5, x7⟩ ob hm hst H locs hP hD hS ls hl
    have hm : M_X12_passed_b6 n x1 x4 v_bitsOf v_polyOf x5 x7 = some ob := hm
    have hl : lv_has ls 8 [(0, .ref (q 0)), (1, .int x1), (4, .int x4), (5, .long x5), (7, .int x7)] := hl
    have hP : va_P G vwCl (ww_M q cs v_told v_tell v_sums v_kindOf v_modOf v_bitsOf v_turnOf v_polyOf v_beginOf v_finishOf v_isLow v_weightsOf v_weight v_cell v_size v_row v_keptSize v_keptBefore v_keptAfter v_placeA v_placeB v_turned v_turnedMany v_syndromes v_lightest v_freeMany v_freePlace v_freeSyndrome v_ways v_waysKept v_trace v_comesA v_comesB) H := hP
    have hD : va_D A (ww_M q cs v_told v_tell v_sums v_kindOf v_modOf v_bitsOf v_turnOf v_polyOf v_beginOf v_finishOf v_isLow v_weightsOf v_weight v_cell v_size v_row v_keptSize v_keptBefore v_keptAfter v_placeA v_placeB v_turned v_turnedMany v_syndromes v_lightest v_freeMany v_freePlace v_freeSyndrome v_ways v_waysKept v_trace v_comesA v_comesB) := hD
    unfold M_X12_passed_b6 at hm
    refine lv_iload hx hb dX12_passed_6 (lv_at hl 4 rfl) ?_
    refine lv_bipush (v := 8) hx hb dX12_passed_8 (by decide) ?_
    refine lv_iload hx hb dX12_passed_10 (lv_at hl 2 rfl) ?_
    refine lv_imul hx hb dX12_passed_12 ?_
    refine lv_icmp_ge (tgt := 42) hx hb dX12_passed_13 (by decide) (fun b1 => ?_) (fun b1 => ?_)
    · have hm := i_t b1 hm
      exact hX _ (st_exit hm hst) H locs hP hD hS ls (lv_sub hl [3] rfl)
    · have hm := i_f b1 hm
      refine lv_lload hx hb dX12_passed_16 (lv_at hl 3 rfl) ?_
      refine lv_iconst (v := 0) hx hb dX12_passed_18 (by decide) ?_
      refine lv_aload_n hx hb dX12_passed_19 rfl (lv_at hl 0 rfl) ?_
      refine va_get (D := G) (ci := 10) (v := .ref (q 4)) (C := RX12) (T := TX12) (N := 33) hx hb hts hinX12 hown hK.1 hP 0 rfl rfl 5 (by decide) wd1 (fun _ h9 => h9) rfl dX12_passed_20 ?_
      refine lv_iload_n hx hb dX12_passed_23 rfl (lv_at hl 1 rfl) ?_
      obtain ⟨h2, hm⟩ := g_in hm
      refine va_iald hx hb hK.1 hP 4 0 rfl rfl h2 dX12_passed_24 ?_
      refine lv_aload_n hx hb dX12_passed_25 rfl (lv_at hl 0 rfl) ?_
      refine va_get (D := G) (ci := 10) (v := .ref (q 6)) (C := RX12) (T := TX12) (N := 33) hx hb hts hinX12 hown hK.1 hP 0 rfl rfl 7 (by decide) wd2 (fun _ h9 => h9) rfl dX12_passed_26 ?_
      refine lv_iload_n hx hb dX12_passed_29 rfl (lv_at hl 1 rfl) ?_
      obtain ⟨h3, hm⟩ := g_in hm
      refine va_lald hx hb hK.1 hP 6 1 rfl rfl h3 dX12_passed_30 ?_
      refine k_calll0 (va_runS (As := [.long x5, .int 0, .int (v_bitsOf x1.toNatClampNeg), .long (v_polyOf x1.toNatClampNeg)]) (rest := []) ⟨hx, hb, hml, hown, hts⟩ (c_X12_step l G cs H.size  x5 (0 : Int32) (v_bitsOf x1.toNatClampNeg) (v_polyOf x1.toNatClampNeg) _ rfl) (va_cwS 4 hts gX12_passed_X12_step rfl rfl rfl hd_X12_step ⟨Nat.le_of_ble_eq_true rfl, Nat.le_of_ble_eq_true rfl⟩) ⟨pre_blind, pre_w hK RO.nil P0 D0 (va_new0 hS hA)⟩ rfl rfl hl.1 rfl (lv_room (Nat.le_of_ble_eq_true rfl)) dX12_passed_31 ⟨Nat.zero_le _, Nat.zero_le _⟩) hP hS hA (fun H locs hP hS => ?_)
      refine lv_lstore (lv' := [(5, .long (M_X12_step x5 (0 : Int32) (v_bitsOf x1.toNatClampNeg) (v_polyOf x1.toNatClampNeg))), (0, .ref (q 0)), (1, .int x1), (4, .int x4), (7, .int x7)]) hx hb dX12_passed_34 hl (by decide) rfl (fun ls hl => ?_)
      refine lv_iinc (v := x7 + 1) (lv' := [(7, .int (x7 + 1)), (5, .long (M_X12_step x5 (0 : Int32) (v_bitsOf x1.toNatClampNeg) (v_polyOf x1.toNatClampNeg))), (0, .ref (q 0)), (1, .int x1), (4, .int x4)]) hx hb dX12_passed_36 hl (k := 4) rfl rfl (by decide) rfl (fun ls hl => ?_)
      refine lv_goto (tgt := 6) hx hb dX12_passed_39 (by decide) ?_
      exact st_next hm hst H locs hP hD hS ls (lv_sub hl [2, 3, 4, 1, 0] rfl)
  unfold M_X12_passed at hm
  refine lv_lload_n hx hb dX12_passed_0 rfl (lv_at hl 2 rfl) ?_
  refine lv_lstore (lv' := [(5, .long x2), (0, .ref (q 0)), (1, .int x1), (2, .long x2), (4, .int x4)]) hx hb dX12_passed_1 hl (by decide) rfl (fun ls hl => ?_)
  refine lv_iconst (v := 0) hx hb dX12_passed_3 (by decide) ?_
  refine lv_istore (lv' := [(7, .int 0), (5, .long x2), (0, .ref (q 0)), (1, .int x1), (2, .long x2), (4, .int x4)]) hx hb dX12_passed_4 hl (by decide) rfl (fun ls hl => ?_)
  obtain ⟨o4, hlp4, hm⟩ := bs hm
  refine L6 x1 x4 x2 (0 : Int32) o4 hlp4 (fun oo ho => ?_) H locs hP hD hS ls (lv_sub hl [2, 3, 5, 1, 0] rfl)
  subst ho
  intro H locs hP hD hS ls hl
  have hl : lv_has ls 8 [(5, .long o4)] := hl
  have hP : va_P G vwCl (ww_M q cs v_told v_tell v_sums v_kindOf v_modOf v_bitsOf v_turnOf v_polyOf v_beginOf v_finishOf v_isLow v_weightsOf v_weight v_cell v_size v_row v_keptSize v_keptBefore v_keptAfter v_placeA v_placeB v_turned v_turnedMany v_syndromes v_lightest v_freeMany v_freePlace v_freeSyndrome v_ways v_waysKept v_trace v_comesA v_comesB) H := hP
  have hD : va_D A (ww_M q cs v_told v_tell v_sums v_kindOf v_modOf v_bitsOf v_turnOf v_polyOf v_beginOf v_finishOf v_isLow v_weightsOf v_weight v_cell v_size v_row v_keptSize v_keptBefore v_keptAfter v_placeA v_placeB v_turned v_turnedMany v_syndromes v_lightest v_freeMany v_freePlace v_freeSyndrome v_ways v_waysKept v_trace v_comesA v_comesB) := hD
  refine lv_lload hx hb dX12_passed_42 (lv_at hl 0 rfl) ?_
  have hq := Option.some.inj hm
  subst hq; subst hQ
  exact k_lret hx hb hr hlocks hP hD hS rfl dX12_passed_44

theorem hd_X12_weighted : yX12_weighted.cls ≠ "java/lang/invoke/MethodHandle" ∧ yX12_weighted.cls ≠ "java/lang/invoke/VarHandle" ∧ (parseMethodDescriptor yX12_weighted.desc).map (fun d => d.parameters.length) = some 1 := by decide +kernel

def M_X12_weighted_b62 (n : Nat) (v_told : Int32) (v_tell : (Nat → Int32)) (v_sums : Int32) (x2 : Int32) (v_weight : (Nat → Int32)) : Option ((Int32 × (Nat → Int32)) ⊕ (Nat → Int32)) :=
  if v_told ≤ x2 then (some (.inr v_weight)) else (if x2 < 0 ∨ 100 ≤ x2.toNatClampNeg then none else if ((12 * v_sums) + x2) < 0 ∨ 192 ≤ ((12 * v_sums) + x2).toNatClampNeg then none else some (.inl (x2 + 1, (upd v_weight ((12 * v_sums) + x2).toNatClampNeg (v_tell x2.toNatClampNeg)))))

def M_X12_weighted (n : Nat) (x1 : Int32) (v_told : Int32) (v_tell : (Nat → Int32)) (v_sums : Int32) (v_kindOf : (Nat → Int32)) (v_modOf : (Nat → Int32)) (v_weightsOf : (Nat → Int32)) (v_weight : (Nat → Int32)) : Option (Int32 × Int32 × Int32 × (Nat → Int32) × (Nat → Int32) × (Nat → Int32) × (Nat → Int32)) :=
  if (M_X12_in x1.toInt64 (2 : Int64) (65536 : Int64)) = 0 then (some ((-3), v_told, v_sums, v_kindOf, v_modOf, v_weightsOf, v_weight)) else (if (M_X12_in v_told.toInt64 (1 : Int64) (12 : Int64)) = 0 then (some ((-5), v_told, v_sums, v_kindOf, v_modOf, v_weightsOf, v_weight)) else (if v_sums = 16 then (some ((-6), v_told, v_sums, v_kindOf, v_modOf, v_weightsOf, v_weight)) else (if v_sums < 0 ∨ 16 ≤ v_sums.toNatClampNeg then none else (lp (fun x : (Int32 × (Nat → Int32)) => M_X12_weighted_b62 n v_told v_tell v_sums x.1 x.2) n ((0 : Int32), v_weight)).bind fun o10 => if v_sums < 0 ∨ 16 ≤ v_sums.toNatClampNeg then none else (M_X12_made (2 : Int32) v_sums v_kindOf).bind fun r12 => some (r12.1, 0, r12.2.1, r12.2.2, (upd v_modOf v_sums.toNatClampNeg x1), (upd v_weightsOf v_sums.toNatClampNeg v_told), o10))))

abbrev rmX12_weighted : Room := { frames := 1, cells := 0, slots := 0, locals := 25 }
set_option maxHeartbeats 4000000 in
set_option maxRecDepth 100000 in
theorem c_X12_weighted (l : Launch) (G : va_G) (cs : CS) (q : Nat → Nat) (sz : Nat) (v_told : Int32) (v_tell : (Nat → Int32)) (v_sums : Int32) (v_kindOf : (Nat → Int32)) (v_modOf : (Nat → Int32)) (v_bitsOf : (Nat → Int32)) (v_turnOf : (Nat → Int32)) (v_polyOf : (Nat → Int64)) (v_beginOf : (Nat → Int64)) (v_finishOf : (Nat → Int64)) (v_isLow : (Nat → Int32)) (v_weightsOf : (Nat → Int32)) (v_weight : (Nat → Int32)) (v_cell : (Nat → Int32)) (v_size : Int32) (v_row : (Nat → Int32)) (v_keptSize : Int32) (v_keptBefore : (Nat → Int32)) (v_keptAfter : (Nat → Int32)) (v_placeA : (Nat → Int64)) (v_placeB : (Nat → Int64)) (v_turned : (Nat → Int32)) (v_turnedMany : Int32) (v_syndromes : (Nat → Int64)) (v_lightest : (Nat → Int32)) (v_freeMany : Int32) (v_freePlace : (Nat → Int32)) (v_freeSyndrome : (Nat → Int64)) (v_ways : (Nat → Int32)) (v_waysKept : Int32) (v_trace : (Nat → Int32)) (v_comesA : Int64) (v_comesB : Int64) (x1 : Int32) (n : Nat) (res : (Int32 × Int32 × Int32 × (Nat → Int32) × (Nat → Int32) × (Nat → Int32) × (Nat → Int32))) (hm : M_X12_weighted n x1 v_told v_tell v_sums v_kindOf v_modOf v_weightsOf v_weight = some res) : Met l yX12_weighted wsX12_weighted rmX12_weighted (va_Pc [.ref (q 0), .int x1] (PreW G cs sz (ww_M q cs v_told v_tell v_sums v_kindOf v_modOf v_bitsOf v_turnOf v_polyOf v_beginOf v_finishOf v_isLow v_weightsOf v_weight v_cell v_size v_row v_keptSize v_keptBefore v_keptAfter v_placeA v_placeB v_turned v_turnedMany v_syndromes v_lightest v_freeMany v_freePlace v_freeSyndrome v_ways v_waysKept v_trace v_comesA v_comesB) [] [])) (QI G res.1 True (ww_M q cs res.2.1 v_tell res.2.2.1 res.2.2.2.1 res.2.2.2.2.1 v_bitsOf v_turnOf v_polyOf v_beginOf v_finishOf v_isLow res.2.2.2.2.2.1 res.2.2.2.2.2.2 v_cell v_size v_row v_keptSize v_keptBefore v_keptAfter v_placeA v_placeB v_turned v_turnedMany v_syndromes v_lightest v_freeMany v_freePlace v_freeSyndrome v_ways v_waysKept v_trace v_comesA v_comesB) (va_A (ww_M q cs v_told v_tell v_sums v_kindOf v_modOf v_bitsOf v_turnOf v_polyOf v_beginOf v_finishOf v_isLow v_weightsOf v_weight v_cell v_size v_row v_keptSize v_keptBefore v_keptAfter v_placeA v_placeB v_turned v_turnedMany v_syndromes v_lightest v_freeMany v_freePlace v_freeSyndrome v_ways v_waysKept v_trace v_comesA v_comesB) sz)) 0 0 (va_A (ww_M q cs v_told v_tell v_sums v_kindOf v_modOf v_bitsOf v_turnOf v_polyOf v_beginOf v_finishOf v_isLow v_weightsOf v_weight v_cell v_size v_row v_keptSize v_keptBefore v_keptAfter v_placeA v_placeB v_turned v_turnedMany v_syndromes v_lightest v_freeMany v_freePlace v_freeSyndrome v_ways v_waysKept v_trace v_comesA v_comesB) sz) := by
  refine k_enter (Qf := fun A => QI G res.1 True (ww_M q cs res.2.1 v_tell res.2.2.1 res.2.2.2.1 res.2.2.2.2.1 v_bitsOf v_turnOf v_polyOf v_beginOf v_finishOf v_isLow res.2.2.2.2.2.1 res.2.2.2.2.2.2 v_cell v_size v_row v_keptSize v_keptBefore v_keptAfter v_placeA v_placeB v_turned v_turnedMany v_syndromes v_lightest v_freeMany v_freePlace v_freeSyndrome v_ways v_waysKept v_trace v_comesA v_comesB) A) (cc := cX12_weighted) (maxL := 3) (ret := (some .int)) (by decide) rfl (Nat.le_of_ble_eq_true rfl) ?_
  intro p e s m args below meth c A Q ls H locs hx hb hr hml hown hts hlocks hname hK hA hRo hP hD hS hQ hl
  have hl : lv_has ls 3 [(0, .ref (q 0)), (1, .int x1)] := hl
  have wd1 := hts (.constantLong RX12 97 (2)) (List.mem_of_getElem? (i := 1) rfl)
  have wd2 := hts (.constantLong RX12 99 (65536)) (List.mem_of_getElem? (i := 2) rfl)
  have wd3 := hts (.fieldLink RX12 94 "SumSmithModel" "told" "I") (List.mem_of_getElem? (i := 3) rfl)
  have wd4 := hts (.constantLong RX12 109 (12)) (List.mem_of_getElem? (i := 4) rfl)
  have wd5 := hts (.fieldLink RX12 84 "SumSmithModel" "sums" "I") (List.mem_of_getElem? (i := 5) rfl)
  have wd6 := hts (.fieldLink RX12 39 "SumSmithModel" "weightsOf" "[I") (List.mem_of_getElem? (i := 6) rfl)
  have wd7 := hts (.fieldLink RX12 42 "SumSmithModel" "weight" "[I") (List.mem_of_getElem? (i := 7) rfl)
  have wd8 := hts (.fieldLink RX12 7 "SumSmithModel" "tell" "[I") (List.mem_of_getElem? (i := 8) rfl)
  have wd9 := hts (.fieldLink RX12 16 "SumSmithModel" "modOf" "[I") (List.mem_of_getElem? (i := 9) rfl)
  have hinX12 : ∀ w ∈ wsX120, w ∈ wsX12_weighted := fun w h => List.mem_cons_of_mem _ (List.mem_append_right _ h)
  have L62 : ∀ (x1 : Int32) (x2 : Int32) (v_told : Int32) (v_sums : Int32) (v_kindOf : (Nat → Int32)) (v_modOf : (Nat → Int32)) (v_weightsOf : (Nat → Int32)) (v_weight : (Nat → Int32)) (out : (Nat → Int32)), lp (fun x : (Int32 × (Nat → Int32)) => M_X12_weighted_b62 n v_told v_tell v_sums x.1 x.2) n (x2, v_weight) = some out → (∀ (o : (Nat → Int32)), out = o → ∀ (H : Heap) (locs : List Loc), va_P G vwCl (ww_M q cs v_told v_tell v_sums v_kindOf v_modOf v_bitsOf v_turnOf v_polyOf v_beginOf v_finishOf v_isLow v_weightsOf o v_cell v_size v_row v_keptSize v_keptBefore v_keptAfter v_placeA v_placeB v_turned v_turnedMany v_syndromes v_lightest v_freeMany v_freePlace v_freeSyndrome v_ways v_waysKept v_trace v_comesA v_comesB) H → va_D A (ww_M q cs v_told v_tell v_sums v_kindOf v_modOf v_bitsOf v_turnOf v_polyOf v_beginOf v_finishOf v_isLow v_weightsOf o v_cell v_size v_row v_keptSize v_keptBefore v_keptAfter v_placeA v_placeB v_turned v_turnedMany v_syndromes v_lightest v_freeMany v_freePlace v_freeSyndrome v_ways v_waysKept v_trace v_comesA v_comesB) → va_S A s.heap H locs → ∀ (ls : Array Slot), lv_has ls 3 [(0, .ref (q 0)), (1, .int x1)] → W p l e rmX12_weighted s m args below meth c H locs 0 0 Q (F0 m 96 ls [])) → ∀ (H : Heap) (locs : List Loc), va_P G vwCl (ww_M q cs v_told v_tell v_sums v_kindOf v_modOf v_bitsOf v_turnOf v_polyOf v_beginOf v_finishOf v_isLow v_weightsOf v_weight v_cell v_size v_row v_keptSize v_keptBefore v_keptAfter v_placeA v_placeB v_turned v_turnedMany v_syndromes v_lightest v_freeMany v_freePlace v_freeSyndrome v_ways v_waysKept v_trace v_comesA v_comesB) H → va_D A (ww_M q cs v_told v_tell v_sums v_kindOf v_modOf v_bitsOf v_turnOf v_polyOf v_beginOf v_finishOf v_isLow v_weightsOf v_weight v_cell v_size v_row v_keptSize v_keptBefore v_keptAfter v_placeA v_placeB v_turned v_turnedMany v_syndromes v_lightest v_freeMany v_freePlace v_freeSyndrome v_ways v_waysKept v_trace v_comesA v_comesB) → va_S A s.heap H locs → ∀ (ls : Array Slot), lv_has ls 3 [(0, .ref (q 0)), (1, .int x1), (2, .int x2)] → W p l e rmX12_weighted s m args below meth c H locs 0 0 Q (F0 m 62 ls []) := by
    intro x1 x2 v_told v_sums v_kindOf v_modOf v_weightsOf v_weight out hlp hX
    refine lp_ind (fun x => ∀ (H : Heap) (locs : List Loc), va_P G vwCl (ww_M q cs v_told v_tell v_sums v_kindOf v_modOf v_bitsOf v_turnOf v_polyOf v_beginOf v_finishOf v_isLow v_weightsOf x.2 v_cell v_size v_row v_keptSize v_keptBefore v_keptAfter v_placeA v_placeB v_turned v_turnedMany v_syndromes v_lightest v_freeMany v_freePlace v_freeSyndrome v_ways v_waysKept v_trace v_comesA v_comesB) H → va_D A (ww_M q cs v_told v_tell v_sums v_kindOf v_modOf v_bitsOf v_turnOf v_polyOf v_beginOf v_finishOf v_isLow v_weightsOf x.2 v_cell v_size v_row v_keptSize v_keptBefore v_keptAfter v_placeA v_placeB v_turned v_turnedMany v_syndromes v_lightest v_freeMany v_freePlace v_freeSyndrome v_ways v_waysKept v_trace v_comesA v_comesB) → va_S A s.heap H locs → ∀ (ls : Array Slot), lv_has ls 3 [(0, .ref (q 0)), (1, .int x1), (2, .int x.1)] → W p l e rmX12_weighted s m args below meth c H locs 0 0 Q (F0 m 62 ls [])) ?_ n (x2, v_weight) hlp
    clear hlp hP hD hS hl
    rintro ⟨x2, v_weight⟩ ob hm hst H locs hP hD hS ls hl
    have hm : M_X12_weighted_b62 n v_told v_tell v_sums x2 v_weight = some ob := hm
    have hl : lv_has ls 3 [(0, .ref (q 0)), (1, .int x1), (2, .int x2)] := hl
    have hP : va_P G vwCl (ww_M q cs v_told v_tell v_sums v_kindOf v_modOf v_bitsOf v_turnOf v_polyOf v_beginOf v_finishOf v_isLow v_weightsOf v_weight v_cell v_size v_row v_keptSize v_keptBefore v_keptAfter v_placeA v_placeB v_turned v_turnedMany v_syndromes v_lightest v_freeMany v_freePlace v_freeSyndrome v_ways v_waysKept v_trace v_comesA v_comesB) H := hP
    have hD : va_D A (ww_M q cs v_told v_tell v_sums v_kindOf v_modOf v_bitsOf v_turnOf v_polyOf v_beginOf v_finishOf v_isLow v_weightsOf v_weight v_cell v_size v_row v_keptSize v_keptBefore v_keptAfter v_placeA v_placeB v_turned v_turnedMany v_syndromes v_lightest v_freeMany v_freePlace v_freeSyndrome v_ways v_waysKept v_trace v_comesA v_comesB) := hD
    unfold M_X12_weighted_b62 at hm
    refine lv_iload_n hx hb dX12_weighted_62 rfl (lv_at hl 2 rfl) ?_
    refine lv_aload_n hx hb dX12_weighted_63 rfl (lv_at hl 0 rfl) ?_
    refine va_get (D := G) (ci := 10) (v := .int v_told) (C := RX12) (T := TX12) (N := 33) hx hb hts hinX12 hown hK.1 hP 0 rfl rfl 0 (by decide) wd3 (fun _ h9 => h9) rfl dX12_weighted_64 ?_
    refine lv_icmp_ge (tgt := 96) hx hb dX12_weighted_67 (by decide) (fun b7 => ?_) (fun b7 => ?_)
    · have hm := i_t b7 hm
      exact hX _ (st_exit hm hst) H locs hP hD hS ls (lv_sub hl [0, 1] rfl)
    · have hm := i_f b7 hm
      refine lv_aload_n hx hb dX12_weighted_70 rfl (lv_at hl 0 rfl) ?_
      refine va_get (D := G) (ci := 10) (v := .ref (q 11)) (C := RX12) (T := TX12) (N := 33) hx hb hts hinX12 hown hK.1 hP 0 rfl rfl 12 (by decide) wd7 (fun _ h9 => h9) rfl dX12_weighted_71 ?_
      refine lv_bipush (v := 12) hx hb dX12_weighted_74 (by decide) ?_
      refine lv_aload_n hx hb dX12_weighted_76 rfl (lv_at hl 0 rfl) ?_
      refine va_get (D := G) (ci := 10) (v := .int v_sums) (C := RX12) (T := TX12) (N := 33) hx hb hts hinX12 hown hK.1 hP 0 rfl rfl 2 (by decide) wd5 (fun _ h9 => h9) rfl dX12_weighted_77 ?_
      refine lv_imul hx hb dX12_weighted_80 ?_
      refine lv_iload_n hx hb dX12_weighted_81 rfl (lv_at hl 2 rfl) ?_
      refine lv_iadd hx hb dX12_weighted_82 ?_
      refine lv_aload_n hx hb dX12_weighted_83 rfl (lv_at hl 0 rfl) ?_
      refine va_get (D := G) (ci := 10) (v := .ref (q 1)) (C := RX12) (T := TX12) (N := 33) hx hb hts hinX12 hown hK.1 hP 0 rfl rfl 1 (by decide) wd8 (fun _ h9 => h9) rfl dX12_weighted_84 ?_
      refine lv_iload_n hx hb dX12_weighted_87 rfl (lv_at hl 2 rfl) ?_
      obtain ⟨h8, hm⟩ := g_in hm
      refine va_iald hx hb hK.1 hP 1 0 rfl rfl h8 dX12_weighted_88 ?_
      obtain ⟨h9, hm⟩ := g_in hm
      refine va_iast hx hb hK.1 hP hD hS 11 0 rfl rfl h9 dX12_weighted_89 (fun H locs hP hD hS => ?_)
      have hP : va_P G vwCl (ww_M q cs v_told v_tell v_sums v_kindOf v_modOf v_bitsOf v_turnOf v_polyOf v_beginOf v_finishOf v_isLow v_weightsOf (upd v_weight ((12 * v_sums) + x2).toNatClampNeg (v_tell x2.toNatClampNeg)) v_cell v_size v_row v_keptSize v_keptBefore v_keptAfter v_placeA v_placeB v_turned v_turnedMany v_syndromes v_lightest v_freeMany v_freePlace v_freeSyndrome v_ways v_waysKept v_trace v_comesA v_comesB) H := hP
      have hD : va_D A (ww_M q cs v_told v_tell v_sums v_kindOf v_modOf v_bitsOf v_turnOf v_polyOf v_beginOf v_finishOf v_isLow v_weightsOf (upd v_weight ((12 * v_sums) + x2).toNatClampNeg (v_tell x2.toNatClampNeg)) v_cell v_size v_row v_keptSize v_keptBefore v_keptAfter v_placeA v_placeB v_turned v_turnedMany v_syndromes v_lightest v_freeMany v_freePlace v_freeSyndrome v_ways v_waysKept v_trace v_comesA v_comesB) := hD
      refine lv_iinc (v := x2 + 1) (lv' := [(2, .int (x2 + 1)), (0, .ref (q 0)), (1, .int x1)]) hx hb dX12_weighted_90 hl (k := 2) rfl rfl (by decide) rfl (fun ls hl => ?_)
      refine lv_goto (tgt := 62) hx hb dX12_weighted_93 (by decide) ?_
      exact st_next hm hst H locs hP hD hS ls (lv_sub hl [1, 2, 0] rfl)
  unfold M_X12_weighted at hm
  refine lv_iload_n hx hb dX12_weighted_0 rfl (lv_at hl 1 rfl) ?_
  refine lv_i2l (v := x1.toInt64) hx hb dX12_weighted_1 rfl ?_
  refine lv_ldc2 (own := RX12) (v := 2) hx hb hown wd1 dX12_weighted_2 ?_
  refine lv_ldc2 (own := RX12) (v := 65536) hx hb hown wd2 dX12_weighted_5 ?_
  refine k_calli0 (va_runS (As := [.long x1.toInt64, .long 2, .long 65536]) (rest := []) ⟨hx, hb, hml, hown, hts⟩ (c_X12_in l G cs H.size  x1.toInt64 (2 : Int64) (65536 : Int64) _ rfl) (va_cwS 3 hts gX12_weighted_X12_in rfl rfl rfl hd_X12_in ⟨Nat.le_of_ble_eq_true rfl, Nat.le_of_ble_eq_true rfl⟩) ⟨pre_blind, pre_w hK RO.nil P0 D0 (va_new0 hS hA)⟩ rfl rfl hl.1 rfl (lv_room (Nat.le_of_ble_eq_true rfl)) dX12_weighted_8 ⟨Nat.zero_le _, Nat.zero_le _⟩) hP hS hA (fun hE1 H locs hP hS => ?_)
  refine lv_if_ne (tgt := 17) hx hb dX12_weighted_11 (by decide) (fun b2 => ?_) (fun b2 => ?_)
  · have hm := i_f b2 hm
    refine lv_aload_n hx hb dX12_weighted_17 rfl (lv_at hl 0 rfl) ?_
    refine va_get (D := G) (ci := 10) (v := .int v_told) (C := RX12) (T := TX12) (N := 33) hx hb hts hinX12 hown hK.1 hP 0 rfl rfl 0 (by decide) wd3 (fun _ h9 => h9) rfl dX12_weighted_18 ?_
    refine lv_i2l (v := v_told.toInt64) hx hb dX12_weighted_21 rfl ?_
    refine lv_lconst (v := 1) hx hb dX12_weighted_22 (by decide) ?_
    refine lv_ldc2 (own := RX12) (v := 12) hx hb hown wd4 dX12_weighted_23 ?_
    refine k_calli0 (va_runS (As := [.long v_told.toInt64, .long 1, .long 12]) (rest := []) ⟨hx, hb, hml, hown, hts⟩ (c_X12_in l G cs H.size  v_told.toInt64 (1 : Int64) (12 : Int64) _ rfl) (va_cwS 3 hts gX12_weighted_X12_in rfl rfl rfl hd_X12_in ⟨Nat.le_of_ble_eq_true rfl, Nat.le_of_ble_eq_true rfl⟩) ⟨pre_blind, pre_w hK RO.nil P0 D0 (va_new0 hS hA)⟩ rfl rfl hl.1 rfl (lv_room (Nat.le_of_ble_eq_true rfl)) dX12_weighted_26 ⟨Nat.zero_le _, Nat.zero_le _⟩) hP hS hA (fun hE3 H locs hP hS => ?_)
    refine lv_if_ne (tgt := 35) hx hb dX12_weighted_29 (by decide) (fun b4 => ?_) (fun b4 => ?_)
    · have hm := i_f b4 hm
      refine lv_aload_n hx hb dX12_weighted_35 rfl (lv_at hl 0 rfl) ?_
      refine va_get (D := G) (ci := 10) (v := .int v_sums) (C := RX12) (T := TX12) (N := 33) hx hb hts hinX12 hown hK.1 hP 0 rfl rfl 2 (by decide) wd5 (fun _ h9 => h9) rfl dX12_weighted_36 ?_
      refine lv_bipush (v := 16) hx hb dX12_weighted_39 (by decide) ?_
      refine lv_icmp_ne (tgt := 47) hx hb dX12_weighted_41 (by decide) (fun b5 => ?_) (fun b5 => ?_)
      · have hm := i_f b5 hm
        refine lv_aload_n hx hb dX12_weighted_47 rfl (lv_at hl 0 rfl) ?_
        refine va_get (D := G) (ci := 10) (v := .ref (q 10)) (C := RX12) (T := TX12) (N := 33) hx hb hts hinX12 hown hK.1 hP 0 rfl rfl 11 (by decide) wd6 (fun _ h9 => h9) rfl dX12_weighted_48 ?_
        refine lv_aload_n hx hb dX12_weighted_51 rfl (lv_at hl 0 rfl) ?_
        refine va_get (D := G) (ci := 10) (v := .int v_sums) (C := RX12) (T := TX12) (N := 33) hx hb hts hinX12 hown hK.1 hP 0 rfl rfl 2 (by decide) wd5 (fun _ h9 => h9) rfl dX12_weighted_52 ?_
        refine lv_aload_n hx hb dX12_weighted_55 rfl (lv_at hl 0 rfl) ?_
        refine va_get (D := G) (ci := 10) (v := .int v_told) (C := RX12) (T := TX12) (N := 33) hx hb hts hinX12 hown hK.1 hP 0 rfl rfl 0 (by decide) wd3 (fun _ h9 => h9) rfl dX12_weighted_56 ?_
        obtain ⟨h6, hm⟩ := g_in hm
        refine va_iast hx hb hK.1 hP hD hS 10 0 rfl rfl h6 dX12_weighted_59 (fun H locs hP hD hS => ?_)
        have hP : va_P G vwCl (ww_M q cs v_told v_tell v_sums v_kindOf v_modOf v_bitsOf v_turnOf v_polyOf v_beginOf v_finishOf v_isLow (upd v_weightsOf v_sums.toNatClampNeg v_told) v_weight v_cell v_size v_row v_keptSize v_keptBefore v_keptAfter v_placeA v_placeB v_turned v_turnedMany v_syndromes v_lightest v_freeMany v_freePlace v_freeSyndrome v_ways v_waysKept v_trace v_comesA v_comesB) H := hP
        have hD : va_D A (ww_M q cs v_told v_tell v_sums v_kindOf v_modOf v_bitsOf v_turnOf v_polyOf v_beginOf v_finishOf v_isLow (upd v_weightsOf v_sums.toNatClampNeg v_told) v_weight v_cell v_size v_row v_keptSize v_keptBefore v_keptAfter v_placeA v_placeB v_turned v_turnedMany v_syndromes v_lightest v_freeMany v_freePlace v_freeSyndrome v_ways v_waysKept v_trace v_comesA v_comesB) := hD
        refine lv_iconst (v := 0) hx hb dX12_weighted_60 (by decide) ?_
        refine lv_istore_n (lv' := [(2, .int 0), (0, .ref (q 0)), (1, .int x1)]) hx hb dX12_weighted_61 rfl hl (by decide) rfl (fun ls hl => ?_)
        obtain ⟨o10, hlp10, hm⟩ := bs hm
        refine L62 x1 (0 : Int32) v_told v_sums v_kindOf v_modOf (upd v_weightsOf v_sums.toNatClampNeg v_told) v_weight o10 hlp10 (fun oo ho => ?_) H locs hP hD hS ls (lv_sub hl [1, 2, 0] rfl)
        subst ho
        intro H locs hP hD hS ls hl
        have hl : lv_has ls 3 [(0, .ref (q 0)), (1, .int x1)] := hl
        have hP : va_P G vwCl (ww_M q cs v_told v_tell v_sums v_kindOf v_modOf v_bitsOf v_turnOf v_polyOf v_beginOf v_finishOf v_isLow (upd v_weightsOf v_sums.toNatClampNeg v_told) o10 v_cell v_size v_row v_keptSize v_keptBefore v_keptAfter v_placeA v_placeB v_turned v_turnedMany v_syndromes v_lightest v_freeMany v_freePlace v_freeSyndrome v_ways v_waysKept v_trace v_comesA v_comesB) H := hP
        have hD : va_D A (ww_M q cs v_told v_tell v_sums v_kindOf v_modOf v_bitsOf v_turnOf v_polyOf v_beginOf v_finishOf v_isLow (upd v_weightsOf v_sums.toNatClampNeg v_told) o10 v_cell v_size v_row v_keptSize v_keptBefore v_keptAfter v_placeA v_placeB v_turned v_turnedMany v_syndromes v_lightest v_freeMany v_freePlace v_freeSyndrome v_ways v_waysKept v_trace v_comesA v_comesB) := hD
        refine lv_aload_n hx hb dX12_weighted_96 rfl (lv_at hl 0 rfl) ?_
        refine lv_iconst (v := 0) hx hb dX12_weighted_97 (by decide) ?_
        refine va_put (D := G) (ci := 10) (v := .int 0) (ty := .int) (C := RX12) (T := TX12) (N := 33) hx hb hts hinX12 tyX12 tyX12_ok nmX12 hown hK.1 hP hD hS 0 rfl rfl 0 (by decide) wd3 (fun _ h9 => h9) rfl (by decide +kernel) rfl rfl (Nat.le_of_ble_eq_true rfl) dX12_weighted_98 (fun H locs hP hD hS => ?_)
        have hP : va_P G vwCl (ww_M q cs 0 v_tell v_sums v_kindOf v_modOf v_bitsOf v_turnOf v_polyOf v_beginOf v_finishOf v_isLow (upd v_weightsOf v_sums.toNatClampNeg v_told) o10 v_cell v_size v_row v_keptSize v_keptBefore v_keptAfter v_placeA v_placeB v_turned v_turnedMany v_syndromes v_lightest v_freeMany v_freePlace v_freeSyndrome v_ways v_waysKept v_trace v_comesA v_comesB) H := hP
        have hD : va_D A (ww_M q cs 0 v_tell v_sums v_kindOf v_modOf v_bitsOf v_turnOf v_polyOf v_beginOf v_finishOf v_isLow (upd v_weightsOf v_sums.toNatClampNeg v_told) o10 v_cell v_size v_row v_keptSize v_keptBefore v_keptAfter v_placeA v_placeB v_turned v_turnedMany v_syndromes v_lightest v_freeMany v_freePlace v_freeSyndrome v_ways v_waysKept v_trace v_comesA v_comesB) := hD
        refine lv_aload_n hx hb dX12_weighted_101 rfl (lv_at hl 0 rfl) ?_
        refine va_get (D := G) (ci := 10) (v := .ref (q 3)) (C := RX12) (T := TX12) (N := 33) hx hb hts hinX12 hown hK.1 hP 0 rfl rfl 4 (by decide) wd9 (fun _ h9 => h9) rfl dX12_weighted_102 ?_
        refine lv_aload_n hx hb dX12_weighted_105 rfl (lv_at hl 0 rfl) ?_
        refine va_get (D := G) (ci := 10) (v := .int v_sums) (C := RX12) (T := TX12) (N := 33) hx hb hts hinX12 hown hK.1 hP 0 rfl rfl 2 (by decide) wd5 (fun _ h9 => h9) rfl dX12_weighted_106 ?_
        refine lv_iload_n hx hb dX12_weighted_109 rfl (lv_at hl 1 rfl) ?_
        obtain ⟨h11, hm⟩ := g_in hm
        refine va_iast hx hb hK.1 hP hD hS 3 0 rfl rfl h11 dX12_weighted_110 (fun H locs hP hD hS => ?_)
        have hP : va_P G vwCl (ww_M q cs 0 v_tell v_sums v_kindOf (upd v_modOf v_sums.toNatClampNeg x1) v_bitsOf v_turnOf v_polyOf v_beginOf v_finishOf v_isLow (upd v_weightsOf v_sums.toNatClampNeg v_told) o10 v_cell v_size v_row v_keptSize v_keptBefore v_keptAfter v_placeA v_placeB v_turned v_turnedMany v_syndromes v_lightest v_freeMany v_freePlace v_freeSyndrome v_ways v_waysKept v_trace v_comesA v_comesB) H := hP
        have hD : va_D A (ww_M q cs 0 v_tell v_sums v_kindOf (upd v_modOf v_sums.toNatClampNeg x1) v_bitsOf v_turnOf v_polyOf v_beginOf v_finishOf v_isLow (upd v_weightsOf v_sums.toNatClampNeg v_told) o10 v_cell v_size v_row v_keptSize v_keptBefore v_keptAfter v_placeA v_placeB v_turned v_turnedMany v_syndromes v_lightest v_freeMany v_freePlace v_freeSyndrome v_ways v_waysKept v_trace v_comesA v_comesB) := hD
        refine lv_aload_n hx hb dX12_weighted_111 rfl (lv_at hl 0 rfl) ?_
        refine lv_iconst (v := 2) hx hb dX12_weighted_112 (by decide) ?_
        obtain ⟨r12, hc_r12, hm⟩ := bs hm
        refine k_calli (va_runV (As := [.int 2]) (rest := []) ⟨hx, hb, hml, hown, hts⟩ (c_X12_made l G cs q H.size 0 v_tell v_sums v_kindOf (upd v_modOf v_sums.toNatClampNeg x1) v_bitsOf v_turnOf v_polyOf v_beginOf v_finishOf v_isLow (upd v_weightsOf v_sums.toNatClampNeg v_told) o10 v_cell v_size v_row v_keptSize v_keptBefore v_keptAfter v_placeA v_placeB v_turned v_turnedMany v_syndromes v_lightest v_freeMany v_freePlace v_freeSyndrome v_ways v_waysKept v_trace v_comesA v_comesB (2 : Int32) r12 hc_r12) (cwV 1 hts gX12_weighted_X12_made rfl rfl rfl ⟨rfl, hd_X12_made⟩ ⟨Nat.le_of_ble_eq_true rfl, Nat.le_of_ble_eq_true rfl⟩) ⟨pre_blind, va_recv hK.1 hP (ci := 10) (q0 := 0) rfl rfl, pre_w hK RO.nil hP hD (va_all hD hS hA)⟩ rfl rfl hl.1 rfl (lv_room (Nat.le_of_ble_eq_true rfl)) dX12_weighted_113 ⟨Nat.zero_le _, Nat.zero_le _⟩) hS (va_all hD hS hA) (fun hE13 H locs hP hD hS => ?_)
        have hP : va_P G vwCl (ww_M q cs 0 v_tell r12.2.1 r12.2.2 (upd v_modOf v_sums.toNatClampNeg x1) v_bitsOf v_turnOf v_polyOf v_beginOf v_finishOf v_isLow (upd v_weightsOf v_sums.toNatClampNeg v_told) o10 v_cell v_size v_row v_keptSize v_keptBefore v_keptAfter v_placeA v_placeB v_turned v_turnedMany v_syndromes v_lightest v_freeMany v_freePlace v_freeSyndrome v_ways v_waysKept v_trace v_comesA v_comesB) H := hP
        have hD : va_D A (ww_M q cs 0 v_tell r12.2.1 r12.2.2 (upd v_modOf v_sums.toNatClampNeg x1) v_bitsOf v_turnOf v_polyOf v_beginOf v_finishOf v_isLow (upd v_weightsOf v_sums.toNatClampNeg v_told) o10 v_cell v_size v_row v_keptSize v_keptBefore v_keptAfter v_placeA v_placeB v_turned v_turnedMany v_syndromes v_lightest v_freeMany v_freePlace v_freeSyndrome v_ways v_waysKept v_trace v_comesA v_comesB) := hD
        have hq := Option.some.inj hm
        subst hq; subst hQ
        exact k_iret hx hb hr hlocks hP hD hS rfl trivial dX12_weighted_116
      · have hm := i_t b5 hm
        refine lv_bipush (v := (-6)) hx hb dX12_weighted_44 (by decide) ?_
        have hq := Option.some.inj hm
        subst hq; subst hQ
        exact k_iret hx hb hr hlocks hP hD hS rfl trivial dX12_weighted_46
    · have hm := i_t b4 hm
      refine lv_bipush (v := (-5)) hx hb dX12_weighted_32 (by decide) ?_
      have hq := Option.some.inj hm
      subst hq; subst hQ
      exact k_iret hx hb hr hlocks hP hD hS rfl trivial dX12_weighted_34
  · have hm := i_t b2 hm
    refine lv_bipush (v := (-3)) hx hb dX12_weighted_14 (by decide) ?_
    have hq := Option.some.inj hm
    subst hq; subst hQ
    exact k_iret hx hb hr hlocks hP hD hS rfl trivial dX12_weighted_16
