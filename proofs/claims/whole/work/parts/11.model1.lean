theorem hd_X12_in : yX12_in.cls ≠ "java/lang/invoke/MethodHandle" ∧ yX12_in.cls ≠ "java/lang/invoke/VarHandle" ∧ (parseMethodDescriptor yX12_in.desc).map (fun d => d.parameters.length) = some 3 := by decide +kernel

def M_X12_in (x0 : Int64) (x2 : Int64) (x4 : Int64)  : Int32 :=
  if x0 < x2 then 0 else (if x4 < x0 then 0 else 1)

abbrev rmX12_in : Room := { frames := 0, cells := 0, slots := 0, locals := 0 }
set_option maxHeartbeats 4000000 in
set_option maxRecDepth 100000 in
theorem c_X12_in (l : Launch) (G : va_G) (cs : CS) (sz : Nat)    (x0 : Int64) (x2 : Int64) (x4 : Int64) (res : Int32) (hm : M_X12_in x0 x2 x4 = res) : Met l yX12_in wsX12_in rmX12_in (va_Pc [.long x0, .long x2, .long x4] (PreW G cs sz [] RN)) (QI G res (res = 0 ∨ res = 1) [] (va_A [] sz)) 0 0 (va_A [] sz) := by
  refine k_enter (Qf := fun A => QI G res (res = 0 ∨ res = 1) [] A) (cc := cX12_in) (maxL := 6) (ret := (some .boolean)) (plainFor_of_name (by decide)) rfl (Nat.le_of_ble_eq_true rfl) ?_
  intro p e s m args below meth c A Q ls H locs hx hb hr hml hown hts hlocks hname hK hA hRo hP hD hS hQ hl
  have hl : lv_has ls 6 [(0, .long x0), (2, .long x2), (4, .long x4)] := hl
  unfold M_X12_in at hm
  refine lv_lload_n hx hb dX12_in_0 rfl (lv_at hl 0 rfl) ?_
  refine lv_lload_n hx hb dX12_in_1 rfl (lv_at hl 1 rfl) ?_
  refine W.lcmp hx hb dX12_in_2 ?_
  refine lv_if_lt (tgt := 17) hx hb dX12_in_3 (by decide) (fun b1 => ?_) (fun b1 => ?_)
  · have b1 := (lg_cmp_lt _ _).mp b1
    have hm := i_t b1 hm
    refine lv_iconst (v := 0) hx hb dX12_in_17 (by decide) ?_
    have hq := hm
    subst hq; subst hQ
    exact k_zret hx hb hr hlocks hP hD hS rfl (by decide) dX12_in_18
  · have b1 := fun h9 => b1 ((lg_cmp_lt _ _).mpr h9)
    have hm := i_f b1 hm
    refine lv_lload_n hx hb dX12_in_6 rfl (lv_at hl 0 rfl) ?_
    refine lv_lload hx hb dX12_in_7 (lv_at hl 2 rfl) ?_
    refine W.lcmp hx hb dX12_in_9 ?_
    refine lv_if_gt (tgt := 17) hx hb dX12_in_10 (by decide) (fun b2 => ?_) (fun b2 => ?_)
    · have b2 := (lg_cmp_gt _ _).mp b2
      have hm := i_t b2 hm
      refine lv_iconst (v := 0) hx hb dX12_in_17 (by decide) ?_
      have hq := hm
      subst hq; subst hQ
      exact k_zret hx hb hr hlocks hP hD hS rfl (by decide) dX12_in_18
    · have b2 := fun h9 => b2 ((lg_cmp_gt _ _).mpr h9)
      have hm := i_f b2 hm
      refine lv_iconst (v := 1) hx hb dX12_in_13 (by decide) ?_
      refine lv_goto (tgt := 18) hx hb dX12_in_14 (by decide) ?_
      have hq := hm
      subst hq; subst hQ
      exact k_zret hx hb hr hlocks hP hD hS rfl (by decide) dX12_in_18

theorem hd_X12_isSum : yX12_isSum.cls ≠ "java/lang/invoke/MethodHandle" ∧ yX12_isSum.cls ≠ "java/lang/invoke/VarHandle" ∧ (parseMethodDescriptor yX12_isSum.desc).map (fun d => d.parameters.length) = some 1 := by decide +kernel

def M_X12_isSum (x1 : Int32) (v_sums : Int32) : Int32 :=
  (M_X12_in x1.toInt64 (0 : Int64) ((v_sums - 1).toInt64))

abbrev ww_M (q : Nat → Nat) (cs : CS) (v_told : Int32) (v_tell : (Nat → Int32)) (v_sums : Int32) (v_kindOf : (Nat → Int32)) (v_modOf : (Nat → Int32)) (v_bitsOf : (Nat → Int32)) (v_turnOf : (Nat → Int32)) (v_polyOf : (Nat → Int64)) (v_beginOf : (Nat → Int64)) (v_finishOf : (Nat → Int64)) (v_isLow : (Nat → Int32)) (v_weightsOf : (Nat → Int32)) (v_weight : (Nat → Int32)) (v_cell : (Nat → Int32)) (v_size : Int32) (v_row : (Nat → Int32)) (v_keptSize : Int32) (v_keptBefore : (Nat → Int32)) (v_keptAfter : (Nat → Int32)) (v_placeA : (Nat → Int64)) (v_placeB : (Nat → Int64)) (v_turned : (Nat → Int32)) (v_turnedMany : Int32) (v_syndromes : (Nat → Int64)) (v_lightest : (Nat → Int32)) (v_freeMany : Int32) (v_freePlace : (Nat → Int32)) (v_freeSyndrome : (Nat → Int64)) (v_ways : (Nat → Int32)) (v_waysKept : Int32) (v_trace : (Nat → Int32)) (v_comesA : Int64) (v_comesB : Int64)   : va_W := [((q 0), .inr (10, [.int v_told, .ref (q 1), .int v_sums, .ref (q 2), .ref (q 3), .ref (q 4), .ref (q 5), .ref (q 6), .ref (q 7), .ref (q 8), .ref (q 9), .ref (q 10), .ref (q 11), .ref (q 12), .int v_size, .ref (q 13), .int v_keptSize, .ref (q 14), .ref (q 15), .ref (q 16), .ref (q 17), .ref (q 18), .int v_turnedMany, .ref (q 19), .ref (q 20), .int v_freeMany, .ref (q 21), .ref (q 22), .ref (q 23), .int v_waysKept, .ref (q 24), .long v_comesA, .long v_comesB])), ((q 1), .inl (cs.1, 100, .inl v_tell)), ((q 2), .inl (cs.1, 16, .inl v_kindOf)), ((q 3), .inl (cs.1, 16, .inl v_modOf)), ((q 4), .inl (cs.1, 16, .inl v_bitsOf)), ((q 5), .inl (cs.1, 16, .inl v_turnOf)), ((q 6), .inl (cs.2.1, 16, .inr (.inl v_polyOf))), ((q 7), .inl (cs.2.1, 16, .inr (.inl v_beginOf))), ((q 8), .inl (cs.2.1, 16, .inr (.inl v_finishOf))), ((q 9), .inl (cs.2.2.1, 16, .inl v_isLow)), ((q 10), .inl (cs.1, 16, .inl v_weightsOf)), ((q 11), .inl (cs.1, 192, .inl v_weight)), ((q 12), .inl (cs.1, 1600, .inl v_cell)), ((q 13), .inl (cs.1, 64, .inl v_row)), ((q 14), .inl (cs.1, 8, .inl v_keptBefore)), ((q 15), .inl (cs.1, 8, .inl v_keptAfter)), ((q 16), .inl (cs.2.1, 64, .inr (.inl v_placeA))), ((q 17), .inl (cs.2.1, 64, .inr (.inl v_placeB))), ((q 18), .inl (cs.1, 8, .inl v_turned)), ((q 19), .inl (cs.2.1, 512, .inr (.inl v_syndromes))), ((q 20), .inl (cs.1, 4, .inl v_lightest)), ((q 21), .inl (cs.1, 16, .inl v_freePlace)), ((q 22), .inl (cs.2.1, 16, .inr (.inl v_freeSyndrome))), ((q 23), .inl (cs.1, 64, .inl v_ways)), ((q 24), .inl (cs.1, 7, .inl v_trace))]

abbrev rmX12_isSum : Room := { frames := 1, cells := 0, slots := 0, locals := 25 }
set_option maxHeartbeats 4000000 in
set_option maxRecDepth 100000 in
theorem c_X12_isSum (l : Launch) (G : va_G) (cs : CS) (q : Nat → Nat) (sz : Nat) (v_told : Int32) (v_tell : (Nat → Int32)) (v_sums : Int32) (v_kindOf : (Nat → Int32)) (v_modOf : (Nat → Int32)) (v_bitsOf : (Nat → Int32)) (v_turnOf : (Nat → Int32)) (v_polyOf : (Nat → Int64)) (v_beginOf : (Nat → Int64)) (v_finishOf : (Nat → Int64)) (v_isLow : (Nat → Int32)) (v_weightsOf : (Nat → Int32)) (v_weight : (Nat → Int32)) (v_cell : (Nat → Int32)) (v_size : Int32) (v_row : (Nat → Int32)) (v_keptSize : Int32) (v_keptBefore : (Nat → Int32)) (v_keptAfter : (Nat → Int32)) (v_placeA : (Nat → Int64)) (v_placeB : (Nat → Int64)) (v_turned : (Nat → Int32)) (v_turnedMany : Int32) (v_syndromes : (Nat → Int64)) (v_lightest : (Nat → Int32)) (v_freeMany : Int32) (v_freePlace : (Nat → Int32)) (v_freeSyndrome : (Nat → Int64)) (v_ways : (Nat → Int32)) (v_waysKept : Int32) (v_trace : (Nat → Int32)) (v_comesA : Int64) (v_comesB : Int64)   (x1 : Int32) (res : Int32) (hm : M_X12_isSum x1 v_sums = res) : Met l yX12_isSum wsX12_isSum rmX12_isSum (va_Pc [.ref (q 0), .int x1] (PreW G cs sz (ww_M q cs v_told v_tell v_sums v_kindOf v_modOf v_bitsOf v_turnOf v_polyOf v_beginOf v_finishOf v_isLow v_weightsOf v_weight v_cell v_size v_row v_keptSize v_keptBefore v_keptAfter v_placeA v_placeB v_turned v_turnedMany v_syndromes v_lightest v_freeMany v_freePlace v_freeSyndrome v_ways v_waysKept v_trace v_comesA v_comesB) RN)) (QI G res (res = 0 ∨ res = 1) (ww_M q cs v_told v_tell v_sums v_kindOf v_modOf v_bitsOf v_turnOf v_polyOf v_beginOf v_finishOf v_isLow v_weightsOf v_weight v_cell v_size v_row v_keptSize v_keptBefore v_keptAfter v_placeA v_placeB v_turned v_turnedMany v_syndromes v_lightest v_freeMany v_freePlace v_freeSyndrome v_ways v_waysKept v_trace v_comesA v_comesB) (va_A (ww_M q cs v_told v_tell v_sums v_kindOf v_modOf v_bitsOf v_turnOf v_polyOf v_beginOf v_finishOf v_isLow v_weightsOf v_weight v_cell v_size v_row v_keptSize v_keptBefore v_keptAfter v_placeA v_placeB v_turned v_turnedMany v_syndromes v_lightest v_freeMany v_freePlace v_freeSyndrome v_ways v_waysKept v_trace v_comesA v_comesB) sz)) 0 0 (va_A (ww_M q cs v_told v_tell v_sums v_kindOf v_modOf v_bitsOf v_turnOf v_polyOf v_beginOf v_finishOf v_isLow v_weightsOf v_weight v_cell v_size v_row v_keptSize v_keptBefore v_keptAfter v_placeA v_placeB v_turned v_turnedMany v_syndromes v_lightest v_freeMany v_freePlace v_freeSyndrome v_ways v_waysKept v_trace v_comesA v_comesB) sz) := by
  refine k_enter (Qf := fun A => QI G res (res = 0 ∨ res = 1) (ww_M q cs v_told v_tell v_sums v_kindOf v_modOf v_bitsOf v_turnOf v_polyOf v_beginOf v_finishOf v_isLow v_weightsOf v_weight v_cell v_size v_row v_keptSize v_keptBefore v_keptAfter v_placeA v_placeB v_turned v_turnedMany v_syndromes v_lightest v_freeMany v_freePlace v_freeSyndrome v_ways v_waysKept v_trace v_comesA v_comesB) A) (cc := cX12_isSum) (maxL := 2) (ret := (some .boolean)) (plainFor_of_name (by decide)) rfl (Nat.le_of_ble_eq_true rfl) ?_
  intro p e s m args below meth c A Q ls H locs hx hb hr hml hown hts hlocks hname hK hA hRo hP hD hS hQ hl
  have hl : lv_has ls 2 [(0, .ref (q 0)), (1, .int x1)] := hl
  have wd1 := hts (.fieldLink RX12 84 "SumSmithModel" "sums" "I") (List.mem_of_getElem? (i := 1) rfl)
  have hinX12 : ∀ w ∈ wsX120, w ∈ wsX12_isSum := fun w h => List.mem_cons_of_mem _ (List.mem_append_right _ h)
  unfold M_X12_isSum at hm
  refine lv_iload_n hx hb dX12_isSum_0 rfl (lv_at hl 1 rfl) ?_
  refine lv_i2l (v := x1.toInt64) hx hb dX12_isSum_1 rfl ?_
  refine lv_lconst (v := 0) hx hb dX12_isSum_2 (by decide) ?_
  refine lv_aload_n hx hb dX12_isSum_3 rfl (lv_at hl 0 rfl) ?_
  refine va_get (D := G) (ci := 10) (v := .int v_sums) (C := RX12) (T := TX12) (N := 33) hx hb hts hinX12 hown hK.1 hP 0 rfl rfl 2 (by decide) wd1 (fun _ h9 => h9) rfl dX12_isSum_4 ?_
  refine lv_iconst (v := 1) hx hb dX12_isSum_7 (by decide) ?_
  refine lv_isub hx hb dX12_isSum_8 ?_
  refine lv_i2l (v := (v_sums - 1).toInt64) hx hb dX12_isSum_9 rfl ?_
  refine k_calli0 (va_runS (As := [.long x1.toInt64, .long 0, .long ((v_sums - 1).toInt64)]) (rest := []) ⟨hx, hb, hml, hown, hts⟩ (c_X12_in l G cs H.size    x1.toInt64 (0 : Int64) ((v_sums - 1).toInt64) _ rfl) (va_cwS 3 hts gX12_isSum_X12_in rfl rfl rfl hd_X12_in ⟨Nat.le_of_ble_eq_true rfl, Nat.le_of_ble_eq_true rfl⟩) ⟨pre_blind, pre_w hK RO.nil P0 D0 (va_new0 hS hA)⟩ rfl rfl hl.1 rfl (lv_room (Nat.le_of_ble_eq_true rfl)) dX12_isSum_10 ⟨Nat.zero_le _, Nat.zero_le _⟩) hP hS hA (fun hE1 H locs hP hS => ?_)
  have hq := hm
  subst hq; subst hQ
  exact k_zret hx hb hr hlocks hP hD hS rfl hE1 dX12_isSum_13

theorem hd_X12_mask : yX12_mask.cls ≠ "java/lang/invoke/MethodHandle" ∧ yX12_mask.cls ≠ "java/lang/invoke/VarHandle" ∧ (parseMethodDescriptor yX12_mask.desc).map (fun d => d.parameters.length) = some 1 := by decide +kernel

def M_X12_mask (x1 : Int32) (v_bitsOf : (Nat → Int32)) : Option Int64 :=
  if x1 < 0 ∨ 16 ≤ x1.toNatClampNeg then none else some (((1 : Int64) <<< ((v_bitsOf x1.toNatClampNeg).toInt64 &&& 63)) - 1)

abbrev rmX12_mask : Room := { frames := 0, cells := 0, slots := 0, locals := 0 }
set_option maxHeartbeats 4000000 in
set_option maxRecDepth 100000 in
theorem c_X12_mask (l : Launch) (G : va_G) (cs : CS) (q : Nat → Nat) (sz : Nat) (v_told : Int32) (v_tell : (Nat → Int32)) (v_sums : Int32) (v_kindOf : (Nat → Int32)) (v_modOf : (Nat → Int32)) (v_bitsOf : (Nat → Int32)) (v_turnOf : (Nat → Int32)) (v_polyOf : (Nat → Int64)) (v_beginOf : (Nat → Int64)) (v_finishOf : (Nat → Int64)) (v_isLow : (Nat → Int32)) (v_weightsOf : (Nat → Int32)) (v_weight : (Nat → Int32)) (v_cell : (Nat → Int32)) (v_size : Int32) (v_row : (Nat → Int32)) (v_keptSize : Int32) (v_keptBefore : (Nat → Int32)) (v_keptAfter : (Nat → Int32)) (v_placeA : (Nat → Int64)) (v_placeB : (Nat → Int64)) (v_turned : (Nat → Int32)) (v_turnedMany : Int32) (v_syndromes : (Nat → Int64)) (v_lightest : (Nat → Int32)) (v_freeMany : Int32) (v_freePlace : (Nat → Int32)) (v_freeSyndrome : (Nat → Int64)) (v_ways : (Nat → Int32)) (v_waysKept : Int32) (v_trace : (Nat → Int32)) (v_comesA : Int64) (v_comesB : Int64)   (x1 : Int32) (res : Int64) (hm : M_X12_mask x1 v_bitsOf = some res) : Met l yX12_mask wsX12_mask rmX12_mask (va_Pc [.ref (q 0), .int x1] (PreW G cs sz (ww_M q cs v_told v_tell v_sums v_kindOf v_modOf v_bitsOf v_turnOf v_polyOf v_beginOf v_finishOf v_isLow v_weightsOf v_weight v_cell v_size v_row v_keptSize v_keptBefore v_keptAfter v_placeA v_placeB v_turned v_turnedMany v_syndromes v_lightest v_freeMany v_freePlace v_freeSyndrome v_ways v_waysKept v_trace v_comesA v_comesB) RN)) (QL G res (ww_M q cs v_told v_tell v_sums v_kindOf v_modOf v_bitsOf v_turnOf v_polyOf v_beginOf v_finishOf v_isLow v_weightsOf v_weight v_cell v_size v_row v_keptSize v_keptBefore v_keptAfter v_placeA v_placeB v_turned v_turnedMany v_syndromes v_lightest v_freeMany v_freePlace v_freeSyndrome v_ways v_waysKept v_trace v_comesA v_comesB) (va_A (ww_M q cs v_told v_tell v_sums v_kindOf v_modOf v_bitsOf v_turnOf v_polyOf v_beginOf v_finishOf v_isLow v_weightsOf v_weight v_cell v_size v_row v_keptSize v_keptBefore v_keptAfter v_placeA v_placeB v_turned v_turnedMany v_syndromes v_lightest v_freeMany v_freePlace v_freeSyndrome v_ways v_waysKept v_trace v_comesA v_comesB) sz)) 0 0 (va_A (ww_M q cs v_told v_tell v_sums v_kindOf v_modOf v_bitsOf v_turnOf v_polyOf v_beginOf v_finishOf v_isLow v_weightsOf v_weight v_cell v_size v_row v_keptSize v_keptBefore v_keptAfter v_placeA v_placeB v_turned v_turnedMany v_syndromes v_lightest v_freeMany v_freePlace v_freeSyndrome v_ways v_waysKept v_trace v_comesA v_comesB) sz) := by
  refine k_enter (Qf := fun A => QL G res (ww_M q cs v_told v_tell v_sums v_kindOf v_modOf v_bitsOf v_turnOf v_polyOf v_beginOf v_finishOf v_isLow v_weightsOf v_weight v_cell v_size v_row v_keptSize v_keptBefore v_keptAfter v_placeA v_placeB v_turned v_turnedMany v_syndromes v_lightest v_freeMany v_freePlace v_freeSyndrome v_ways v_waysKept v_trace v_comesA v_comesB) A) (cc := cX12_mask) (maxL := 2) (ret := (some .long)) (plainFor_of_name (by decide)) rfl (Nat.le_of_ble_eq_true rfl) ?_
  intro p e s m args below meth c A Q ls H locs hx hb hr hml hown hts hlocks hname hK hA hRo hP hD hS hQ hl
  have hl : lv_has ls 2 [(0, .ref (q 0)), (1, .int x1)] := hl
  have wd1 := hts (.fieldLink RX12 19 "SumSmithModel" "bitsOf" "[I") (List.mem_of_getElem? (i := 1) rfl)
  have hinX12 : ∀ w ∈ wsX120, w ∈ wsX12_mask := fun w h => List.mem_cons_of_mem _ (List.mem_append_right _ h)
  unfold M_X12_mask at hm
  refine lv_lconst (v := 1) hx hb dX12_mask_0 (by decide) ?_
  refine lv_aload_n hx hb dX12_mask_1 rfl (lv_at hl 0 rfl) ?_
  refine va_get (D := G) (ci := 10) (v := .ref (q 4)) (C := RX12) (T := TX12) (N := 33) hx hb hts hinX12 hown hK.1 hP 0 rfl rfl 5 (by decide) wd1 (fun _ h9 => h9) rfl dX12_mask_2 ?_
  refine lv_iload_n hx hb dX12_mask_5 rfl (lv_at hl 1 rfl) ?_
  obtain ⟨h1, hm⟩ := g_in hm
  refine va_iald hx hb hK.1 hP 4 0 rfl rfl h1 dX12_mask_6 ?_
  refine lv_lshl (v := (1 : Int64) <<< ((v_bitsOf x1.toNatClampNeg).toInt64 &&& 63)) hx hb dX12_mask_7 rfl ?_
  refine lv_lconst (v := 1) hx hb dX12_mask_8 (by decide) ?_
  refine lv_lsub hx hb dX12_mask_9 ?_
  have hq := Option.some.inj hm
  subst hq; subst hQ
  exact k_lret hx hb hr hlocks hP hD hS rfl dX12_mask_10

theorem hd_X12_tell : yX12_tell.cls ≠ "java/lang/invoke/MethodHandle" ∧ yX12_tell.cls ≠ "java/lang/invoke/VarHandle" ∧ (parseMethodDescriptor yX12_tell.desc).map (fun d => d.parameters.length) = some 1 := by decide +kernel

def M_X12_tell (x1 : Int32) (v_told : Int32) (v_tell : (Nat → Int32)) : Option (Int32 × Int32 × (Nat → Int32)) :=
  if (M_X12_in x1.toInt64 (0 : Int64) (65535 : Int64)) = 0 then (some ((-3), v_told, v_tell)) else (if v_told = 100 then (some ((-6), v_told, v_tell)) else (if v_told < 0 ∨ 100 ≤ v_told.toNatClampNeg then none else some ((v_told + 1), (v_told + 1), (upd v_tell v_told.toNatClampNeg x1))))

abbrev rmX12_tell : Room := { frames := 1, cells := 0, slots := 0, locals := 25 }
set_option maxHeartbeats 4000000 in
set_option maxRecDepth 100000 in
theorem c_X12_tell (l : Launch) (G : va_G) (cs : CS) (q : Nat → Nat) (sz : Nat) (v_told : Int32) (v_tell : (Nat → Int32)) (v_sums : Int32) (v_kindOf : (Nat → Int32)) (v_modOf : (Nat → Int32)) (v_bitsOf : (Nat → Int32)) (v_turnOf : (Nat → Int32)) (v_polyOf : (Nat → Int64)) (v_beginOf : (Nat → Int64)) (v_finishOf : (Nat → Int64)) (v_isLow : (Nat → Int32)) (v_weightsOf : (Nat → Int32)) (v_weight : (Nat → Int32)) (v_cell : (Nat → Int32)) (v_size : Int32) (v_row : (Nat → Int32)) (v_keptSize : Int32) (v_keptBefore : (Nat → Int32)) (v_keptAfter : (Nat → Int32)) (v_placeA : (Nat → Int64)) (v_placeB : (Nat → Int64)) (v_turned : (Nat → Int32)) (v_turnedMany : Int32) (v_syndromes : (Nat → Int64)) (v_lightest : (Nat → Int32)) (v_freeMany : Int32) (v_freePlace : (Nat → Int32)) (v_freeSyndrome : (Nat → Int64)) (v_ways : (Nat → Int32)) (v_waysKept : Int32) (v_trace : (Nat → Int32)) (v_comesA : Int64) (v_comesB : Int64)   (x1 : Int32) (res : (Int32 × Int32 × (Nat → Int32))) (hm : M_X12_tell x1 v_told v_tell = some res) : Met l yX12_tell wsX12_tell rmX12_tell (va_Pc [.ref (q 0), .int x1] (PreW G cs sz (ww_M q cs v_told v_tell v_sums v_kindOf v_modOf v_bitsOf v_turnOf v_polyOf v_beginOf v_finishOf v_isLow v_weightsOf v_weight v_cell v_size v_row v_keptSize v_keptBefore v_keptAfter v_placeA v_placeB v_turned v_turnedMany v_syndromes v_lightest v_freeMany v_freePlace v_freeSyndrome v_ways v_waysKept v_trace v_comesA v_comesB) RN)) (QI G res.1 True (ww_M q cs res.2.1 res.2.2 v_sums v_kindOf v_modOf v_bitsOf v_turnOf v_polyOf v_beginOf v_finishOf v_isLow v_weightsOf v_weight v_cell v_size v_row v_keptSize v_keptBefore v_keptAfter v_placeA v_placeB v_turned v_turnedMany v_syndromes v_lightest v_freeMany v_freePlace v_freeSyndrome v_ways v_waysKept v_trace v_comesA v_comesB) (va_A (ww_M q cs v_told v_tell v_sums v_kindOf v_modOf v_bitsOf v_turnOf v_polyOf v_beginOf v_finishOf v_isLow v_weightsOf v_weight v_cell v_size v_row v_keptSize v_keptBefore v_keptAfter v_placeA v_placeB v_turned v_turnedMany v_syndromes v_lightest v_freeMany v_freePlace v_freeSyndrome v_ways v_waysKept v_trace v_comesA v_comesB) sz)) 0 0 (va_A (ww_M q cs v_told v_tell v_sums v_kindOf v_modOf v_bitsOf v_turnOf v_polyOf v_beginOf v_finishOf v_isLow v_weightsOf v_weight v_cell v_size v_row v_keptSize v_keptBefore v_keptAfter v_placeA v_placeB v_turned v_turnedMany v_syndromes v_lightest v_freeMany v_freePlace v_freeSyndrome v_ways v_waysKept v_trace v_comesA v_comesB) sz) := by
  refine k_enter (Qf := fun A => QI G res.1 True (ww_M q cs res.2.1 res.2.2 v_sums v_kindOf v_modOf v_bitsOf v_turnOf v_polyOf v_beginOf v_finishOf v_isLow v_weightsOf v_weight v_cell v_size v_row v_keptSize v_keptBefore v_keptAfter v_placeA v_placeB v_turned v_turnedMany v_syndromes v_lightest v_freeMany v_freePlace v_freeSyndrome v_ways v_waysKept v_trace v_comesA v_comesB) A) (cc := cX12_tell) (maxL := 2) (ret := (some .int)) (plainFor_of_name (by decide)) rfl (Nat.le_of_ble_eq_true rfl) ?_
  intro p e s m args below meth c A Q ls H locs hx hb hr hml hown hts hlocks hname hK hA hRo hP hD hS hQ hl
  have hl : lv_has ls 2 [(0, .ref (q 0)), (1, .int x1)] := hl
  have wd1 := hts (.constantLong RX12 92 (65535)) (List.mem_of_getElem? (i := 1) rfl)
  have wd2 := hts (.fieldLink RX12 94 "SumSmithModel" "told" "I") (List.mem_of_getElem? (i := 2) rfl)
  have wd3 := hts (.fieldLink RX12 7 "SumSmithModel" "tell" "[I") (List.mem_of_getElem? (i := 3) rfl)
  have hinX12 : ∀ w ∈ wsX120, w ∈ wsX12_tell := fun w h => List.mem_cons_of_mem _ (List.mem_append_right _ h)
  unfold M_X12_tell at hm
  refine lv_iload_n hx hb dX12_tell_0 rfl (lv_at hl 1 rfl) ?_
  refine lv_i2l (v := x1.toInt64) hx hb dX12_tell_1 rfl ?_
  refine lv_lconst (v := 0) hx hb dX12_tell_2 (by decide) ?_
  refine lv_ldc2 (own := RX12) (v := 65535) hx hb hown wd1 dX12_tell_3 ?_
  refine k_calli0 (va_runS (As := [.long x1.toInt64, .long 0, .long 65535]) (rest := []) ⟨hx, hb, hml, hown, hts⟩ (c_X12_in l G cs H.size    x1.toInt64 (0 : Int64) (65535 : Int64) _ rfl) (va_cwS 3 hts gX12_tell_X12_in rfl rfl rfl hd_X12_in ⟨Nat.le_of_ble_eq_true rfl, Nat.le_of_ble_eq_true rfl⟩) ⟨pre_blind, pre_w hK RO.nil P0 D0 (va_new0 hS hA)⟩ rfl rfl hl.1 rfl (lv_room (Nat.le_of_ble_eq_true rfl)) dX12_tell_6 ⟨Nat.zero_le _, Nat.zero_le _⟩) hP hS hA (fun hE1 H locs hP hS => ?_)
  refine lv_if_ne (tgt := 15) hx hb dX12_tell_9 (by decide) (fun b2 => ?_) (fun b2 => ?_)
  · have hm := i_f b2 hm
    refine lv_aload_n hx hb dX12_tell_15 rfl (lv_at hl 0 rfl) ?_
    refine va_get (D := G) (ci := 10) (v := .int v_told) (C := RX12) (T := TX12) (N := 33) hx hb hts hinX12 hown hK.1 hP 0 rfl rfl 0 (by decide) wd2 (fun _ h9 => h9) rfl dX12_tell_16 ?_
    refine lv_bipush (v := 100) hx hb dX12_tell_19 (by decide) ?_
    refine lv_icmp_ne (tgt := 27) hx hb dX12_tell_21 (by decide) (fun b3 => ?_) (fun b3 => ?_)
    · have hm := i_f b3 hm
      refine lv_aload_n hx hb dX12_tell_27 rfl (lv_at hl 0 rfl) ?_
      refine va_get (D := G) (ci := 10) (v := .ref (q 1)) (C := RX12) (T := TX12) (N := 33) hx hb hts hinX12 hown hK.1 hP 0 rfl rfl 1 (by decide) wd3 (fun _ h9 => h9) rfl dX12_tell_28 ?_
      refine lv_aload_n hx hb dX12_tell_31 rfl (lv_at hl 0 rfl) ?_
      refine va_get (D := G) (ci := 10) (v := .int v_told) (C := RX12) (T := TX12) (N := 33) hx hb hts hinX12 hown hK.1 hP 0 rfl rfl 0 (by decide) wd2 (fun _ h9 => h9) rfl dX12_tell_32 ?_
      refine lv_iload_n hx hb dX12_tell_35 rfl (lv_at hl 1 rfl) ?_
      obtain ⟨h4, hm⟩ := g_in hm
      refine va_iast hx hb hK.1 hP hD hS 1 0 rfl rfl h4 dX12_tell_36 (fun H locs hP hD hS => ?_)
      have hP : va_P G vwCl (ww_M q cs v_told (upd v_tell v_told.toNatClampNeg x1) v_sums v_kindOf v_modOf v_bitsOf v_turnOf v_polyOf v_beginOf v_finishOf v_isLow v_weightsOf v_weight v_cell v_size v_row v_keptSize v_keptBefore v_keptAfter v_placeA v_placeB v_turned v_turnedMany v_syndromes v_lightest v_freeMany v_freePlace v_freeSyndrome v_ways v_waysKept v_trace v_comesA v_comesB) H := hP
      have hD : va_D A (ww_M q cs v_told (upd v_tell v_told.toNatClampNeg x1) v_sums v_kindOf v_modOf v_bitsOf v_turnOf v_polyOf v_beginOf v_finishOf v_isLow v_weightsOf v_weight v_cell v_size v_row v_keptSize v_keptBefore v_keptAfter v_placeA v_placeB v_turned v_turnedMany v_syndromes v_lightest v_freeMany v_freePlace v_freeSyndrome v_ways v_waysKept v_trace v_comesA v_comesB) := hD
      refine lv_aload_n hx hb dX12_tell_37 rfl (lv_at hl 0 rfl) ?_
      refine lv_dup hx hb dX12_tell_38 rfl ?_
      refine va_get (D := G) (ci := 10) (v := .int v_told) (C := RX12) (T := TX12) (N := 33) hx hb hts hinX12 hown hK.1 hP 0 rfl rfl 0 (by decide) wd2 (fun _ h9 => h9) rfl dX12_tell_39 ?_
      refine lv_iconst (v := 1) hx hb dX12_tell_42 (by decide) ?_
      refine lv_iadd hx hb dX12_tell_43 ?_
      refine va_put (D := G) (ci := 10) (v := .int (v_told + 1)) (ty := .int) (C := RX12) (T := TX12) (N := 33) hx hb hts hinX12 tyX12 tyX12_ok nmX12 hown hK.1 hP hD hS 0 rfl rfl 0 (by decide) wd2 (fun _ h9 => h9) rfl (by decide +kernel) rfl rfl (Nat.le_of_ble_eq_true rfl) dX12_tell_44 (fun H locs hP hD hS => ?_)
      have hP : va_P G vwCl (ww_M q cs (v_told + 1) (upd v_tell v_told.toNatClampNeg x1) v_sums v_kindOf v_modOf v_bitsOf v_turnOf v_polyOf v_beginOf v_finishOf v_isLow v_weightsOf v_weight v_cell v_size v_row v_keptSize v_keptBefore v_keptAfter v_placeA v_placeB v_turned v_turnedMany v_syndromes v_lightest v_freeMany v_freePlace v_freeSyndrome v_ways v_waysKept v_trace v_comesA v_comesB) H := hP
      have hD : va_D A (ww_M q cs (v_told + 1) (upd v_tell v_told.toNatClampNeg x1) v_sums v_kindOf v_modOf v_bitsOf v_turnOf v_polyOf v_beginOf v_finishOf v_isLow v_weightsOf v_weight v_cell v_size v_row v_keptSize v_keptBefore v_keptAfter v_placeA v_placeB v_turned v_turnedMany v_syndromes v_lightest v_freeMany v_freePlace v_freeSyndrome v_ways v_waysKept v_trace v_comesA v_comesB) := hD
      refine lv_aload_n hx hb dX12_tell_47 rfl (lv_at hl 0 rfl) ?_
      refine va_get (D := G) (ci := 10) (v := .int (v_told + 1)) (C := RX12) (T := TX12) (N := 33) hx hb hts hinX12 hown hK.1 hP 0 rfl rfl 0 (by decide) wd2 (fun _ h9 => h9) rfl dX12_tell_48 ?_
      have hq := Option.some.inj hm
      subst hq; subst hQ
      exact k_iret hx hb hr hlocks hP hD hS rfl trivial dX12_tell_51
    · have hm := i_t b3 hm
      refine lv_bipush (v := (-6)) hx hb dX12_tell_24 (by decide) ?_
      have hq := Option.some.inj hm
      subst hq; subst hQ
      exact k_iret hx hb hr hlocks hP hD hS rfl trivial dX12_tell_26
  · have hm := i_t b2 hm
    refine lv_bipush (v := (-3)) hx hb dX12_tell_12 (by decide) ?_
    have hq := Option.some.inj hm
    subst hq; subst hQ
    exact k_iret hx hb hr hlocks hP hD hS rfl trivial dX12_tell_14

theorem hd_X12_untell : yX12_untell.cls ≠ "java/lang/invoke/MethodHandle" ∧ yX12_untell.cls ≠ "java/lang/invoke/VarHandle" ∧ (parseMethodDescriptor yX12_untell.desc).map (fun d => d.parameters.length) = some 0 := by decide +kernel

def M_X12_untell  (v_told : Int32) : (Int32 × Int32) :=
  (v_told, 0)

abbrev rmX12_untell : Room := { frames := 0, cells := 0, slots := 0, locals := 0 }
set_option maxHeartbeats 4000000 in
set_option maxRecDepth 100000 in
theorem c_X12_untell (l : Launch) (G : va_G) (cs : CS) (q : Nat → Nat) (sz : Nat) (v_told : Int32) (v_tell : (Nat → Int32)) (v_sums : Int32) (v_kindOf : (Nat → Int32)) (v_modOf : (Nat → Int32)) (v_bitsOf : (Nat → Int32)) (v_turnOf : (Nat → Int32)) (v_polyOf : (Nat → Int64)) (v_beginOf : (Nat → Int64)) (v_finishOf : (Nat → Int64)) (v_isLow : (Nat → Int32)) (v_weightsOf : (Nat → Int32)) (v_weight : (Nat → Int32)) (v_cell : (Nat → Int32)) (v_size : Int32) (v_row : (Nat → Int32)) (v_keptSize : Int32) (v_keptBefore : (Nat → Int32)) (v_keptAfter : (Nat → Int32)) (v_placeA : (Nat → Int64)) (v_placeB : (Nat → Int64)) (v_turned : (Nat → Int32)) (v_turnedMany : Int32) (v_syndromes : (Nat → Int64)) (v_lightest : (Nat → Int32)) (v_freeMany : Int32) (v_freePlace : (Nat → Int32)) (v_freeSyndrome : (Nat → Int64)) (v_ways : (Nat → Int32)) (v_waysKept : Int32) (v_trace : (Nat → Int32)) (v_comesA : Int64) (v_comesB : Int64)    (res : (Int32 × Int32)) (hm : M_X12_untell v_told = res) : Met l yX12_untell wsX12_untell rmX12_untell (va_Pc [.ref (q 0)] (PreW G cs sz (ww_M q cs v_told v_tell v_sums v_kindOf v_modOf v_bitsOf v_turnOf v_polyOf v_beginOf v_finishOf v_isLow v_weightsOf v_weight v_cell v_size v_row v_keptSize v_keptBefore v_keptAfter v_placeA v_placeB v_turned v_turnedMany v_syndromes v_lightest v_freeMany v_freePlace v_freeSyndrome v_ways v_waysKept v_trace v_comesA v_comesB) RN)) (QI G res.1 True (ww_M q cs res.2 v_tell v_sums v_kindOf v_modOf v_bitsOf v_turnOf v_polyOf v_beginOf v_finishOf v_isLow v_weightsOf v_weight v_cell v_size v_row v_keptSize v_keptBefore v_keptAfter v_placeA v_placeB v_turned v_turnedMany v_syndromes v_lightest v_freeMany v_freePlace v_freeSyndrome v_ways v_waysKept v_trace v_comesA v_comesB) (va_A (ww_M q cs v_told v_tell v_sums v_kindOf v_modOf v_bitsOf v_turnOf v_polyOf v_beginOf v_finishOf v_isLow v_weightsOf v_weight v_cell v_size v_row v_keptSize v_keptBefore v_keptAfter v_placeA v_placeB v_turned v_turnedMany v_syndromes v_lightest v_freeMany v_freePlace v_freeSyndrome v_ways v_waysKept v_trace v_comesA v_comesB) sz)) 0 0 (va_A (ww_M q cs v_told v_tell v_sums v_kindOf v_modOf v_bitsOf v_turnOf v_polyOf v_beginOf v_finishOf v_isLow v_weightsOf v_weight v_cell v_size v_row v_keptSize v_keptBefore v_keptAfter v_placeA v_placeB v_turned v_turnedMany v_syndromes v_lightest v_freeMany v_freePlace v_freeSyndrome v_ways v_waysKept v_trace v_comesA v_comesB) sz) := by
  refine k_enter (Qf := fun A => QI G res.1 True (ww_M q cs res.2 v_tell v_sums v_kindOf v_modOf v_bitsOf v_turnOf v_polyOf v_beginOf v_finishOf v_isLow v_weightsOf v_weight v_cell v_size v_row v_keptSize v_keptBefore v_keptAfter v_placeA v_placeB v_turned v_turnedMany v_syndromes v_lightest v_freeMany v_freePlace v_freeSyndrome v_ways v_waysKept v_trace v_comesA v_comesB) A) (cc := cX12_untell) (maxL := 2) (ret := (some .int)) (plainFor_of_name (by decide)) rfl (Nat.le_of_ble_eq_true rfl) ?_
  intro p e s m args below meth c A Q ls H locs hx hb hr hml hown hts hlocks hname hK hA hRo hP hD hS hQ hl
  have hl : lv_has ls 2 [(0, .ref (q 0))] := hl
  have wd1 := hts (.fieldLink RX12 94 "SumSmithModel" "told" "I") (List.mem_of_getElem? (i := 1) rfl)
  have hinX12 : ∀ w ∈ wsX120, w ∈ wsX12_untell := fun w h => List.mem_cons_of_mem _ (List.mem_append_right _ h)
  unfold M_X12_untell at hm
  refine lv_aload_n hx hb dX12_untell_0 rfl (lv_at hl 0 rfl) ?_
  refine va_get (D := G) (ci := 10) (v := .int v_told) (C := RX12) (T := TX12) (N := 33) hx hb hts hinX12 hown hK.1 hP 0 rfl rfl 0 (by decide) wd1 (fun _ h9 => h9) rfl dX12_untell_1 ?_
  refine lv_istore_n (lv' := [(1, .int v_told), (0, .ref (q 0))]) hx hb dX12_untell_4 rfl hl (by decide) rfl (fun ls hl => ?_)
  refine lv_aload_n hx hb dX12_untell_5 rfl (lv_at hl 1 rfl) ?_
  refine lv_iconst (v := 0) hx hb dX12_untell_6 (by decide) ?_
  refine va_put (D := G) (ci := 10) (v := .int 0) (ty := .int) (C := RX12) (T := TX12) (N := 33) hx hb hts hinX12 tyX12 tyX12_ok nmX12 hown hK.1 hP hD hS 0 rfl rfl 0 (by decide) wd1 (fun _ h9 => h9) rfl (by decide +kernel) rfl rfl (Nat.le_of_ble_eq_true rfl) dX12_untell_7 (fun H locs hP hD hS => ?_)
  have hP : va_P G vwCl (ww_M q cs 0 v_tell v_sums v_kindOf v_modOf v_bitsOf v_turnOf v_polyOf v_beginOf v_finishOf v_isLow v_weightsOf v_weight v_cell v_size v_row v_keptSize v_keptBefore v_keptAfter v_placeA v_placeB v_turned v_turnedMany v_syndromes v_lightest v_freeMany v_freePlace v_freeSyndrome v_ways v_waysKept v_trace v_comesA v_comesB) H := hP
  have hD : va_D A (ww_M q cs 0 v_tell v_sums v_kindOf v_modOf v_bitsOf v_turnOf v_polyOf v_beginOf v_finishOf v_isLow v_weightsOf v_weight v_cell v_size v_row v_keptSize v_keptBefore v_keptAfter v_placeA v_placeB v_turned v_turnedMany v_syndromes v_lightest v_freeMany v_freePlace v_freeSyndrome v_ways v_waysKept v_trace v_comesA v_comesB) := hD
  refine lv_iload_n hx hb dX12_untell_10 rfl (lv_at hl 0 rfl) ?_
  have hq := hm
  subst hq; subst hQ
  exact k_iret hx hb hr hlocks hP hD hS rfl trivial dX12_untell_11

theorem hd_X12_made : yX12_made.cls ≠ "java/lang/invoke/MethodHandle" ∧ yX12_made.cls ≠ "java/lang/invoke/VarHandle" ∧ (parseMethodDescriptor yX12_made.desc).map (fun d => d.parameters.length) = some 1 := by decide +kernel

def M_X12_made (x1 : Int32) (v_sums : Int32) (v_kindOf : (Nat → Int32)) : Option (Int32 × Int32 × (Nat → Int32)) :=
  if v_sums < 0 ∨ 16 ≤ v_sums.toNatClampNeg then none else some ((v_sums + 1) - 1, (v_sums + 1), (upd v_kindOf v_sums.toNatClampNeg x1))

abbrev rmX12_made : Room := { frames := 0, cells := 0, slots := 0, locals := 0 }
set_option maxHeartbeats 4000000 in
set_option maxRecDepth 100000 in
theorem c_X12_made (l : Launch) (G : va_G) (cs : CS) (q : Nat → Nat) (sz : Nat) (v_told : Int32) (v_tell : (Nat → Int32)) (v_sums : Int32) (v_kindOf : (Nat → Int32)) (v_modOf : (Nat → Int32)) (v_bitsOf : (Nat → Int32)) (v_turnOf : (Nat → Int32)) (v_polyOf : (Nat → Int64)) (v_beginOf : (Nat → Int64)) (v_finishOf : (Nat → Int64)) (v_isLow : (Nat → Int32)) (v_weightsOf : (Nat → Int32)) (v_weight : (Nat → Int32)) (v_cell : (Nat → Int32)) (v_size : Int32) (v_row : (Nat → Int32)) (v_keptSize : Int32) (v_keptBefore : (Nat → Int32)) (v_keptAfter : (Nat → Int32)) (v_placeA : (Nat → Int64)) (v_placeB : (Nat → Int64)) (v_turned : (Nat → Int32)) (v_turnedMany : Int32) (v_syndromes : (Nat → Int64)) (v_lightest : (Nat → Int32)) (v_freeMany : Int32) (v_freePlace : (Nat → Int32)) (v_freeSyndrome : (Nat → Int64)) (v_ways : (Nat → Int32)) (v_waysKept : Int32) (v_trace : (Nat → Int32)) (v_comesA : Int64) (v_comesB : Int64)   (x1 : Int32) (res : (Int32 × Int32 × (Nat → Int32))) (hm : M_X12_made x1 v_sums v_kindOf = some res) : Met l yX12_made wsX12_made rmX12_made (va_Pc [.ref (q 0), .int x1] (PreW G cs sz (ww_M q cs v_told v_tell v_sums v_kindOf v_modOf v_bitsOf v_turnOf v_polyOf v_beginOf v_finishOf v_isLow v_weightsOf v_weight v_cell v_size v_row v_keptSize v_keptBefore v_keptAfter v_placeA v_placeB v_turned v_turnedMany v_syndromes v_lightest v_freeMany v_freePlace v_freeSyndrome v_ways v_waysKept v_trace v_comesA v_comesB) RN)) (QI G res.1 True (ww_M q cs v_told v_tell res.2.1 res.2.2 v_modOf v_bitsOf v_turnOf v_polyOf v_beginOf v_finishOf v_isLow v_weightsOf v_weight v_cell v_size v_row v_keptSize v_keptBefore v_keptAfter v_placeA v_placeB v_turned v_turnedMany v_syndromes v_lightest v_freeMany v_freePlace v_freeSyndrome v_ways v_waysKept v_trace v_comesA v_comesB) (va_A (ww_M q cs v_told v_tell v_sums v_kindOf v_modOf v_bitsOf v_turnOf v_polyOf v_beginOf v_finishOf v_isLow v_weightsOf v_weight v_cell v_size v_row v_keptSize v_keptBefore v_keptAfter v_placeA v_placeB v_turned v_turnedMany v_syndromes v_lightest v_freeMany v_freePlace v_freeSyndrome v_ways v_waysKept v_trace v_comesA v_comesB) sz)) 0 0 (va_A (ww_M q cs v_told v_tell v_sums v_kindOf v_modOf v_bitsOf v_turnOf v_polyOf v_beginOf v_finishOf v_isLow v_weightsOf v_weight v_cell v_size v_row v_keptSize v_keptBefore v_keptAfter v_placeA v_placeB v_turned v_turnedMany v_syndromes v_lightest v_freeMany v_freePlace v_freeSyndrome v_ways v_waysKept v_trace v_comesA v_comesB) sz) := by
  refine k_enter (Qf := fun A => QI G res.1 True (ww_M q cs v_told v_tell res.2.1 res.2.2 v_modOf v_bitsOf v_turnOf v_polyOf v_beginOf v_finishOf v_isLow v_weightsOf v_weight v_cell v_size v_row v_keptSize v_keptBefore v_keptAfter v_placeA v_placeB v_turned v_turnedMany v_syndromes v_lightest v_freeMany v_freePlace v_freeSyndrome v_ways v_waysKept v_trace v_comesA v_comesB) A) (cc := cX12_made) (maxL := 2) (ret := (some .int)) (plainFor_of_name (by decide)) rfl (Nat.le_of_ble_eq_true rfl) ?_
  intro p e s m args below meth c A Q ls H locs hx hb hr hml hown hts hlocks hname hK hA hRo hP hD hS hQ hl
  have hl : lv_has ls 2 [(0, .ref (q 0)), (1, .int x1)] := hl
  have wd1 := hts (.fieldLink RX12 13 "SumSmithModel" "kindOf" "[I") (List.mem_of_getElem? (i := 1) rfl)
  have wd2 := hts (.fieldLink RX12 84 "SumSmithModel" "sums" "I") (List.mem_of_getElem? (i := 2) rfl)
  have hinX12 : ∀ w ∈ wsX120, w ∈ wsX12_made := fun w h => List.mem_cons_of_mem _ (List.mem_append_right _ h)
  unfold M_X12_made at hm
  refine lv_aload_n hx hb dX12_made_0 rfl (lv_at hl 0 rfl) ?_
  refine va_get (D := G) (ci := 10) (v := .ref (q 2)) (C := RX12) (T := TX12) (N := 33) hx hb hts hinX12 hown hK.1 hP 0 rfl rfl 3 (by decide) wd1 (fun _ h9 => h9) rfl dX12_made_1 ?_
  refine lv_aload_n hx hb dX12_made_4 rfl (lv_at hl 0 rfl) ?_
  refine va_get (D := G) (ci := 10) (v := .int v_sums) (C := RX12) (T := TX12) (N := 33) hx hb hts hinX12 hown hK.1 hP 0 rfl rfl 2 (by decide) wd2 (fun _ h9 => h9) rfl dX12_made_5 ?_
  refine lv_iload_n hx hb dX12_made_8 rfl (lv_at hl 1 rfl) ?_
  obtain ⟨h1, hm⟩ := g_in hm
  refine va_iast hx hb hK.1 hP hD hS 2 0 rfl rfl h1 dX12_made_9 (fun H locs hP hD hS => ?_)
  have hP : va_P G vwCl (ww_M q cs v_told v_tell v_sums (upd v_kindOf v_sums.toNatClampNeg x1) v_modOf v_bitsOf v_turnOf v_polyOf v_beginOf v_finishOf v_isLow v_weightsOf v_weight v_cell v_size v_row v_keptSize v_keptBefore v_keptAfter v_placeA v_placeB v_turned v_turnedMany v_syndromes v_lightest v_freeMany v_freePlace v_freeSyndrome v_ways v_waysKept v_trace v_comesA v_comesB) H := hP
  have hD : va_D A (ww_M q cs v_told v_tell v_sums (upd v_kindOf v_sums.toNatClampNeg x1) v_modOf v_bitsOf v_turnOf v_polyOf v_beginOf v_finishOf v_isLow v_weightsOf v_weight v_cell v_size v_row v_keptSize v_keptBefore v_keptAfter v_placeA v_placeB v_turned v_turnedMany v_syndromes v_lightest v_freeMany v_freePlace v_freeSyndrome v_ways v_waysKept v_trace v_comesA v_comesB) := hD
  refine lv_aload_n hx hb dX12_made_10 rfl (lv_at hl 0 rfl) ?_
  refine lv_dup hx hb dX12_made_11 rfl ?_
  refine va_get (D := G) (ci := 10) (v := .int v_sums) (C := RX12) (T := TX12) (N := 33) hx hb hts hinX12 hown hK.1 hP 0 rfl rfl 2 (by decide) wd2 (fun _ h9 => h9) rfl dX12_made_12 ?_
  refine lv_iconst (v := 1) hx hb dX12_made_15 (by decide) ?_
  refine lv_iadd hx hb dX12_made_16 ?_
  refine va_put (D := G) (ci := 10) (v := .int (v_sums + 1)) (ty := .int) (C := RX12) (T := TX12) (N := 33) hx hb hts hinX12 tyX12 tyX12_ok nmX12 hown hK.1 hP hD hS 0 rfl rfl 2 (by decide) wd2 (fun _ h9 => h9) rfl (by decide +kernel) rfl rfl (Nat.le_of_ble_eq_true rfl) dX12_made_17 (fun H locs hP hD hS => ?_)
  have hP : va_P G vwCl (ww_M q cs v_told v_tell (v_sums + 1) (upd v_kindOf v_sums.toNatClampNeg x1) v_modOf v_bitsOf v_turnOf v_polyOf v_beginOf v_finishOf v_isLow v_weightsOf v_weight v_cell v_size v_row v_keptSize v_keptBefore v_keptAfter v_placeA v_placeB v_turned v_turnedMany v_syndromes v_lightest v_freeMany v_freePlace v_freeSyndrome v_ways v_waysKept v_trace v_comesA v_comesB) H := hP
  have hD : va_D A (ww_M q cs v_told v_tell (v_sums + 1) (upd v_kindOf v_sums.toNatClampNeg x1) v_modOf v_bitsOf v_turnOf v_polyOf v_beginOf v_finishOf v_isLow v_weightsOf v_weight v_cell v_size v_row v_keptSize v_keptBefore v_keptAfter v_placeA v_placeB v_turned v_turnedMany v_syndromes v_lightest v_freeMany v_freePlace v_freeSyndrome v_ways v_waysKept v_trace v_comesA v_comesB) := hD
  refine lv_aload_n hx hb dX12_made_20 rfl (lv_at hl 0 rfl) ?_
  refine va_get (D := G) (ci := 10) (v := .int (v_sums + 1)) (C := RX12) (T := TX12) (N := 33) hx hb hts hinX12 hown hK.1 hP 0 rfl rfl 2 (by decide) wd2 (fun _ h9 => h9) rfl dX12_made_21 ?_
  refine lv_iconst (v := 1) hx hb dX12_made_24 (by decide) ?_
  refine lv_isub hx hb dX12_made_25 ?_
  have hq := Option.some.inj hm
  subst hq; subst hQ
  exact k_iret hx hb hr hlocks hP hD hS rfl trivial dX12_made_26

theorem hd_X12_modular : yX12_modular.cls ≠ "java/lang/invoke/MethodHandle" ∧ yX12_modular.cls ≠ "java/lang/invoke/VarHandle" ∧ (parseMethodDescriptor yX12_modular.desc).map (fun d => d.parameters.length) = some 2 := by decide +kernel

def M_X12_modular (x1 : Int32) (x2 : Int32) (v_sums : Int32) (v_kindOf : (Nat → Int32)) (v_modOf : (Nat → Int32)) : Option (Int32 × Int32 × (Nat → Int32) × (Nat → Int32)) :=
  if (M_X12_in x2.toInt64 (2 : Int64) (65536 : Int64)) = 0 then (some ((-3), v_sums, v_kindOf, v_modOf)) else (if v_sums = 16 then (some ((-6), v_sums, v_kindOf, v_modOf)) else (if v_sums < 0 ∨ 16 ≤ v_sums.toNatClampNeg then none else (M_X12_made x1 v_sums v_kindOf).bind fun r5 => some (r5.1, r5.2.1, r5.2.2, (upd v_modOf v_sums.toNatClampNeg x2))))

abbrev rmX12_modular : Room := { frames := 1, cells := 0, slots := 0, locals := 25 }
set_option maxHeartbeats 4000000 in
set_option maxRecDepth 100000 in
theorem c_X12_modular (l : Launch) (G : va_G) (cs : CS) (q : Nat → Nat) (sz : Nat) (v_told : Int32) (v_tell : (Nat → Int32)) (v_sums : Int32) (v_kindOf : (Nat → Int32)) (v_modOf : (Nat → Int32)) (v_bitsOf : (Nat → Int32)) (v_turnOf : (Nat → Int32)) (v_polyOf : (Nat → Int64)) (v_beginOf : (Nat → Int64)) (v_finishOf : (Nat → Int64)) (v_isLow : (Nat → Int32)) (v_weightsOf : (Nat → Int32)) (v_weight : (Nat → Int32)) (v_cell : (Nat → Int32)) (v_size : Int32) (v_row : (Nat → Int32)) (v_keptSize : Int32) (v_keptBefore : (Nat → Int32)) (v_keptAfter : (Nat → Int32)) (v_placeA : (Nat → Int64)) (v_placeB : (Nat → Int64)) (v_turned : (Nat → Int32)) (v_turnedMany : Int32) (v_syndromes : (Nat → Int64)) (v_lightest : (Nat → Int32)) (v_freeMany : Int32) (v_freePlace : (Nat → Int32)) (v_freeSyndrome : (Nat → Int64)) (v_ways : (Nat → Int32)) (v_waysKept : Int32) (v_trace : (Nat → Int32)) (v_comesA : Int64) (v_comesB : Int64)   (x1 : Int32) (x2 : Int32) (res : (Int32 × Int32 × (Nat → Int32) × (Nat → Int32))) (hm : M_X12_modular x1 x2 v_sums v_kindOf v_modOf = some res) : Met l yX12_modular wsX12_modular rmX12_modular (va_Pc [.ref (q 0), .int x1, .int x2] (PreW G cs sz (ww_M q cs v_told v_tell v_sums v_kindOf v_modOf v_bitsOf v_turnOf v_polyOf v_beginOf v_finishOf v_isLow v_weightsOf v_weight v_cell v_size v_row v_keptSize v_keptBefore v_keptAfter v_placeA v_placeB v_turned v_turnedMany v_syndromes v_lightest v_freeMany v_freePlace v_freeSyndrome v_ways v_waysKept v_trace v_comesA v_comesB) RN)) (QI G res.1 True (ww_M q cs v_told v_tell res.2.1 res.2.2.1 res.2.2.2 v_bitsOf v_turnOf v_polyOf v_beginOf v_finishOf v_isLow v_weightsOf v_weight v_cell v_size v_row v_keptSize v_keptBefore v_keptAfter v_placeA v_placeB v_turned v_turnedMany v_syndromes v_lightest v_freeMany v_freePlace v_freeSyndrome v_ways v_waysKept v_trace v_comesA v_comesB) (va_A (ww_M q cs v_told v_tell v_sums v_kindOf v_modOf v_bitsOf v_turnOf v_polyOf v_beginOf v_finishOf v_isLow v_weightsOf v_weight v_cell v_size v_row v_keptSize v_keptBefore v_keptAfter v_placeA v_placeB v_turned v_turnedMany v_syndromes v_lightest v_freeMany v_freePlace v_freeSyndrome v_ways v_waysKept v_trace v_comesA v_comesB) sz)) 0 0 (va_A (ww_M q cs v_told v_tell v_sums v_kindOf v_modOf v_bitsOf v_turnOf v_polyOf v_beginOf v_finishOf v_isLow v_weightsOf v_weight v_cell v_size v_row v_keptSize v_keptBefore v_keptAfter v_placeA v_placeB v_turned v_turnedMany v_syndromes v_lightest v_freeMany v_freePlace v_freeSyndrome v_ways v_waysKept v_trace v_comesA v_comesB) sz) := by
  refine k_enter (Qf := fun A => QI G res.1 True (ww_M q cs v_told v_tell res.2.1 res.2.2.1 res.2.2.2 v_bitsOf v_turnOf v_polyOf v_beginOf v_finishOf v_isLow v_weightsOf v_weight v_cell v_size v_row v_keptSize v_keptBefore v_keptAfter v_placeA v_placeB v_turned v_turnedMany v_syndromes v_lightest v_freeMany v_freePlace v_freeSyndrome v_ways v_waysKept v_trace v_comesA v_comesB) A) (cc := cX12_modular) (maxL := 3) (ret := (some .int)) (plainFor_of_name (by decide)) rfl (Nat.le_of_ble_eq_true rfl) ?_
  intro p e s m args below meth c A Q ls H locs hx hb hr hml hown hts hlocks hname hK hA hRo hP hD hS hQ hl
  have hl : lv_has ls 3 [(0, .ref (q 0)), (1, .int x1), (2, .int x2)] := hl
  have wd1 := hts (.constantLong RX12 97 (2)) (List.mem_of_getElem? (i := 1) rfl)
  have wd2 := hts (.constantLong RX12 99 (65536)) (List.mem_of_getElem? (i := 2) rfl)
  have wd3 := hts (.fieldLink RX12 84 "SumSmithModel" "sums" "I") (List.mem_of_getElem? (i := 3) rfl)
  have wd4 := hts (.fieldLink RX12 16 "SumSmithModel" "modOf" "[I") (List.mem_of_getElem? (i := 4) rfl)
  have hinX12 : ∀ w ∈ wsX120, w ∈ wsX12_modular := fun w h => List.mem_cons_of_mem _ (List.mem_append_right _ h)
  unfold M_X12_modular at hm
  refine lv_iload_n hx hb dX12_modular_0 rfl (lv_at hl 2 rfl) ?_
  refine lv_i2l (v := x2.toInt64) hx hb dX12_modular_1 rfl ?_
  refine lv_ldc2 (own := RX12) (v := 2) hx hb hown wd1 dX12_modular_2 ?_
  refine lv_ldc2 (own := RX12) (v := 65536) hx hb hown wd2 dX12_modular_5 ?_
  refine k_calli0 (va_runS (As := [.long x2.toInt64, .long 2, .long 65536]) (rest := []) ⟨hx, hb, hml, hown, hts⟩ (c_X12_in l G cs H.size    x2.toInt64 (2 : Int64) (65536 : Int64) _ rfl) (va_cwS 3 hts gX12_modular_X12_in rfl rfl rfl hd_X12_in ⟨Nat.le_of_ble_eq_true rfl, Nat.le_of_ble_eq_true rfl⟩) ⟨pre_blind, pre_w hK RO.nil P0 D0 (va_new0 hS hA)⟩ rfl rfl hl.1 rfl (lv_room (Nat.le_of_ble_eq_true rfl)) dX12_modular_8 ⟨Nat.zero_le _, Nat.zero_le _⟩) hP hS hA (fun hE1 H locs hP hS => ?_)
  refine lv_if_ne (tgt := 17) hx hb dX12_modular_11 (by decide) (fun b2 => ?_) (fun b2 => ?_)
  · have hm := i_f b2 hm
    refine lv_aload_n hx hb dX12_modular_17 rfl (lv_at hl 0 rfl) ?_
    refine va_get (D := G) (ci := 10) (v := .int v_sums) (C := RX12) (T := TX12) (N := 33) hx hb hts hinX12 hown hK.1 hP 0 rfl rfl 2 (by decide) wd3 (fun _ h9 => h9) rfl dX12_modular_18 ?_
    refine lv_bipush (v := 16) hx hb dX12_modular_21 (by decide) ?_
    refine lv_icmp_ne (tgt := 29) hx hb dX12_modular_23 (by decide) (fun b3 => ?_) (fun b3 => ?_)
    · have hm := i_f b3 hm
      refine lv_aload_n hx hb dX12_modular_29 rfl (lv_at hl 0 rfl) ?_
      refine va_get (D := G) (ci := 10) (v := .ref (q 3)) (C := RX12) (T := TX12) (N := 33) hx hb hts hinX12 hown hK.1 hP 0 rfl rfl 4 (by decide) wd4 (fun _ h9 => h9) rfl dX12_modular_30 ?_
      refine lv_aload_n hx hb dX12_modular_33 rfl (lv_at hl 0 rfl) ?_
      refine va_get (D := G) (ci := 10) (v := .int v_sums) (C := RX12) (T := TX12) (N := 33) hx hb hts hinX12 hown hK.1 hP 0 rfl rfl 2 (by decide) wd3 (fun _ h9 => h9) rfl dX12_modular_34 ?_
      refine lv_iload_n hx hb dX12_modular_37 rfl (lv_at hl 2 rfl) ?_
      obtain ⟨h4, hm⟩ := g_in hm
      refine va_iast hx hb hK.1 hP hD hS 3 0 rfl rfl h4 dX12_modular_38 (fun H locs hP hD hS => ?_)
      have hP : va_P G vwCl (ww_M q cs v_told v_tell v_sums v_kindOf (upd v_modOf v_sums.toNatClampNeg x2) v_bitsOf v_turnOf v_polyOf v_beginOf v_finishOf v_isLow v_weightsOf v_weight v_cell v_size v_row v_keptSize v_keptBefore v_keptAfter v_placeA v_placeB v_turned v_turnedMany v_syndromes v_lightest v_freeMany v_freePlace v_freeSyndrome v_ways v_waysKept v_trace v_comesA v_comesB) H := hP
      have hD : va_D A (ww_M q cs v_told v_tell v_sums v_kindOf (upd v_modOf v_sums.toNatClampNeg x2) v_bitsOf v_turnOf v_polyOf v_beginOf v_finishOf v_isLow v_weightsOf v_weight v_cell v_size v_row v_keptSize v_keptBefore v_keptAfter v_placeA v_placeB v_turned v_turnedMany v_syndromes v_lightest v_freeMany v_freePlace v_freeSyndrome v_ways v_waysKept v_trace v_comesA v_comesB) := hD
      refine lv_aload_n hx hb dX12_modular_39 rfl (lv_at hl 0 rfl) ?_
      refine lv_iload_n hx hb dX12_modular_40 rfl (lv_at hl 1 rfl) ?_
      obtain ⟨r5, hc_r5, hm⟩ := bs hm
      refine k_calli (va_runV (As := [.int x1]) (rest := []) ⟨hx, hb, hml, hown, hts⟩ (c_X12_made l G cs q H.size v_told v_tell v_sums v_kindOf (upd v_modOf v_sums.toNatClampNeg x2) v_bitsOf v_turnOf v_polyOf v_beginOf v_finishOf v_isLow v_weightsOf v_weight v_cell v_size v_row v_keptSize v_keptBefore v_keptAfter v_placeA v_placeB v_turned v_turnedMany v_syndromes v_lightest v_freeMany v_freePlace v_freeSyndrome v_ways v_waysKept v_trace v_comesA v_comesB   x1 r5 hc_r5) (cwV 1 hts gX12_modular_X12_made rfl rfl rfl ⟨rfl, hd_X12_made⟩ ⟨Nat.le_of_ble_eq_true rfl, Nat.le_of_ble_eq_true rfl⟩) ⟨pre_blind, va_recv hK.1 hP (ci := 10) (q0 := 0) rfl rfl, pre_w hK RO.nil hP hD (va_all hD hS hA)⟩ rfl rfl hl.1 rfl (lv_room (Nat.le_of_ble_eq_true rfl)) dX12_modular_41 ⟨Nat.zero_le _, Nat.zero_le _⟩) hS (va_all hD hS hA) (fun hE6 H locs hP hD hS => ?_)
      have hP : va_P G vwCl (ww_M q cs v_told v_tell r5.2.1 r5.2.2 (upd v_modOf v_sums.toNatClampNeg x2) v_bitsOf v_turnOf v_polyOf v_beginOf v_finishOf v_isLow v_weightsOf v_weight v_cell v_size v_row v_keptSize v_keptBefore v_keptAfter v_placeA v_placeB v_turned v_turnedMany v_syndromes v_lightest v_freeMany v_freePlace v_freeSyndrome v_ways v_waysKept v_trace v_comesA v_comesB) H := hP
      have hD : va_D A (ww_M q cs v_told v_tell r5.2.1 r5.2.2 (upd v_modOf v_sums.toNatClampNeg x2) v_bitsOf v_turnOf v_polyOf v_beginOf v_finishOf v_isLow v_weightsOf v_weight v_cell v_size v_row v_keptSize v_keptBefore v_keptAfter v_placeA v_placeB v_turned v_turnedMany v_syndromes v_lightest v_freeMany v_freePlace v_freeSyndrome v_ways v_waysKept v_trace v_comesA v_comesB) := hD
      have hq := Option.some.inj hm
      subst hq; subst hQ
      exact k_iret hx hb hr hlocks hP hD hS rfl trivial dX12_modular_44
    · have hm := i_t b3 hm
      refine lv_bipush (v := (-6)) hx hb dX12_modular_26 (by decide) ?_
      have hq := Option.some.inj hm
      subst hq; subst hQ
      exact k_iret hx hb hr hlocks hP hD hS rfl trivial dX12_modular_28
  · have hm := i_t b2 hm
    refine lv_bipush (v := (-3)) hx hb dX12_modular_14 (by decide) ?_
    have hq := Option.some.inj hm
    subst hq; subst hQ
    exact k_iret hx hb hr hlocks hP hD hS rfl trivial dX12_modular_16

theorem hd_X12_plain : yX12_plain.cls ≠ "java/lang/invoke/MethodHandle" ∧ yX12_plain.cls ≠ "java/lang/invoke/VarHandle" ∧ (parseMethodDescriptor yX12_plain.desc).map (fun d => d.parameters.length) = some 1 := by decide +kernel

def M_X12_plain (x1 : Int32) (v_sums : Int32) (v_kindOf : (Nat → Int32)) (v_modOf : (Nat → Int32)) : Option (Int32 × Int32 × (Nat → Int32) × (Nat → Int32)) :=
  (M_X12_modular (0 : Int32) x1 v_sums v_kindOf v_modOf).bind fun r1 => some (r1.1, r1.2.1, r1.2.2.1, r1.2.2.2)

abbrev rmX12_plain : Room := { frames := 2, cells := 0, slots := 0, locals := 47 }
set_option maxHeartbeats 4000000 in
set_option maxRecDepth 100000 in
theorem c_X12_plain (l : Launch) (G : va_G) (cs : CS) (q : Nat → Nat) (sz : Nat) (v_told : Int32) (v_tell : (Nat → Int32)) (v_sums : Int32) (v_kindOf : (Nat → Int32)) (v_modOf : (Nat → Int32)) (v_bitsOf : (Nat → Int32)) (v_turnOf : (Nat → Int32)) (v_polyOf : (Nat → Int64)) (v_beginOf : (Nat → Int64)) (v_finishOf : (Nat → Int64)) (v_isLow : (Nat → Int32)) (v_weightsOf : (Nat → Int32)) (v_weight : (Nat → Int32)) (v_cell : (Nat → Int32)) (v_size : Int32) (v_row : (Nat → Int32)) (v_keptSize : Int32) (v_keptBefore : (Nat → Int32)) (v_keptAfter : (Nat → Int32)) (v_placeA : (Nat → Int64)) (v_placeB : (Nat → Int64)) (v_turned : (Nat → Int32)) (v_turnedMany : Int32) (v_syndromes : (Nat → Int64)) (v_lightest : (Nat → Int32)) (v_freeMany : Int32) (v_freePlace : (Nat → Int32)) (v_freeSyndrome : (Nat → Int64)) (v_ways : (Nat → Int32)) (v_waysKept : Int32) (v_trace : (Nat → Int32)) (v_comesA : Int64) (v_comesB : Int64)   (x1 : Int32) (res : (Int32 × Int32 × (Nat → Int32) × (Nat → Int32))) (hm : M_X12_plain x1 v_sums v_kindOf v_modOf = some res) : Met l yX12_plain wsX12_plain rmX12_plain (va_Pc [.ref (q 0), .int x1] (PreW G cs sz (ww_M q cs v_told v_tell v_sums v_kindOf v_modOf v_bitsOf v_turnOf v_polyOf v_beginOf v_finishOf v_isLow v_weightsOf v_weight v_cell v_size v_row v_keptSize v_keptBefore v_keptAfter v_placeA v_placeB v_turned v_turnedMany v_syndromes v_lightest v_freeMany v_freePlace v_freeSyndrome v_ways v_waysKept v_trace v_comesA v_comesB) RN)) (QI G res.1 True (ww_M q cs v_told v_tell res.2.1 res.2.2.1 res.2.2.2 v_bitsOf v_turnOf v_polyOf v_beginOf v_finishOf v_isLow v_weightsOf v_weight v_cell v_size v_row v_keptSize v_keptBefore v_keptAfter v_placeA v_placeB v_turned v_turnedMany v_syndromes v_lightest v_freeMany v_freePlace v_freeSyndrome v_ways v_waysKept v_trace v_comesA v_comesB) (va_A (ww_M q cs v_told v_tell v_sums v_kindOf v_modOf v_bitsOf v_turnOf v_polyOf v_beginOf v_finishOf v_isLow v_weightsOf v_weight v_cell v_size v_row v_keptSize v_keptBefore v_keptAfter v_placeA v_placeB v_turned v_turnedMany v_syndromes v_lightest v_freeMany v_freePlace v_freeSyndrome v_ways v_waysKept v_trace v_comesA v_comesB) sz)) 0 0 (va_A (ww_M q cs v_told v_tell v_sums v_kindOf v_modOf v_bitsOf v_turnOf v_polyOf v_beginOf v_finishOf v_isLow v_weightsOf v_weight v_cell v_size v_row v_keptSize v_keptBefore v_keptAfter v_placeA v_placeB v_turned v_turnedMany v_syndromes v_lightest v_freeMany v_freePlace v_freeSyndrome v_ways v_waysKept v_trace v_comesA v_comesB) sz) := by
  refine k_enter (Qf := fun A => QI G res.1 True (ww_M q cs v_told v_tell res.2.1 res.2.2.1 res.2.2.2 v_bitsOf v_turnOf v_polyOf v_beginOf v_finishOf v_isLow v_weightsOf v_weight v_cell v_size v_row v_keptSize v_keptBefore v_keptAfter v_placeA v_placeB v_turned v_turnedMany v_syndromes v_lightest v_freeMany v_freePlace v_freeSyndrome v_ways v_waysKept v_trace v_comesA v_comesB) A) (cc := cX12_plain) (maxL := 2) (ret := (some .int)) (plainFor_of_name (by decide)) rfl (Nat.le_of_ble_eq_true rfl) ?_
  intro p e s m args below meth c A Q ls H locs hx hb hr hml hown hts hlocks hname hK hA hRo hP hD hS hQ hl
  have hl : lv_has ls 2 [(0, .ref (q 0)), (1, .int x1)] := hl
  unfold M_X12_plain at hm
  refine lv_aload_n hx hb dX12_plain_0 rfl (lv_at hl 0 rfl) ?_
  refine lv_iconst (v := 0) hx hb dX12_plain_1 (by decide) ?_
  refine lv_iload_n hx hb dX12_plain_2 rfl (lv_at hl 1 rfl) ?_
  obtain ⟨r1, hc_r1, hm⟩ := bs hm
  refine k_calli (va_runV (As := [.int 0, .int x1]) (rest := []) ⟨hx, hb, hml, hown, hts⟩ (c_X12_modular l G cs q H.size v_told v_tell v_sums v_kindOf v_modOf v_bitsOf v_turnOf v_polyOf v_beginOf v_finishOf v_isLow v_weightsOf v_weight v_cell v_size v_row v_keptSize v_keptBefore v_keptAfter v_placeA v_placeB v_turned v_turnedMany v_syndromes v_lightest v_freeMany v_freePlace v_freeSyndrome v_ways v_waysKept v_trace v_comesA v_comesB   (0 : Int32) x1 r1 hc_r1) (cwV 2 hts gX12_plain_X12_modular rfl rfl rfl ⟨rfl, hd_X12_modular⟩ ⟨Nat.le_of_ble_eq_true rfl, Nat.le_of_ble_eq_true rfl⟩) ⟨pre_blind, va_recv hK.1 hP (ci := 10) (q0 := 0) rfl rfl, pre_w hK RO.nil hP hD (va_all hD hS hA)⟩ rfl rfl hl.1 rfl (lv_room (Nat.le_of_ble_eq_true rfl)) dX12_plain_3 ⟨Nat.zero_le _, Nat.zero_le _⟩) hS (va_all hD hS hA) (fun hE2 H locs hP hD hS => ?_)
  have hP : va_P G vwCl (ww_M q cs v_told v_tell r1.2.1 r1.2.2.1 r1.2.2.2 v_bitsOf v_turnOf v_polyOf v_beginOf v_finishOf v_isLow v_weightsOf v_weight v_cell v_size v_row v_keptSize v_keptBefore v_keptAfter v_placeA v_placeB v_turned v_turnedMany v_syndromes v_lightest v_freeMany v_freePlace v_freeSyndrome v_ways v_waysKept v_trace v_comesA v_comesB) H := hP
  have hD : va_D A (ww_M q cs v_told v_tell r1.2.1 r1.2.2.1 r1.2.2.2 v_bitsOf v_turnOf v_polyOf v_beginOf v_finishOf v_isLow v_weightsOf v_weight v_cell v_size v_row v_keptSize v_keptBefore v_keptAfter v_placeA v_placeB v_turned v_turnedMany v_syndromes v_lightest v_freeMany v_freePlace v_freeSyndrome v_ways v_waysKept v_trace v_comesA v_comesB) := hD
  have hq := Option.some.inj hm
  subst hq; subst hQ
  exact k_iret hx hb hr hlocks hP hD hS rfl trivial dX12_plain_6

theorem hd_X12_twofold : yX12_twofold.cls ≠ "java/lang/invoke/MethodHandle" ∧ yX12_twofold.cls ≠ "java/lang/invoke/VarHandle" ∧ (parseMethodDescriptor yX12_twofold.desc).map (fun d => d.parameters.length) = some 1 := by decide +kernel

def M_X12_twofold (x1 : Int32) (v_sums : Int32) (v_kindOf : (Nat → Int32)) (v_modOf : (Nat → Int32)) : Option (Int32 × Int32 × (Nat → Int32) × (Nat → Int32)) :=
  (M_X12_modular (1 : Int32) x1 v_sums v_kindOf v_modOf).bind fun r1 => some (r1.1, r1.2.1, r1.2.2.1, r1.2.2.2)

abbrev rmX12_twofold : Room := { frames := 2, cells := 0, slots := 0, locals := 47 }
set_option maxHeartbeats 4000000 in
set_option maxRecDepth 100000 in
theorem c_X12_twofold (l : Launch) (G : va_G) (cs : CS) (q : Nat → Nat) (sz : Nat) (v_told : Int32) (v_tell : (Nat → Int32)) (v_sums : Int32) (v_kindOf : (Nat → Int32)) (v_modOf : (Nat → Int32)) (v_bitsOf : (Nat → Int32)) (v_turnOf : (Nat → Int32)) (v_polyOf : (Nat → Int64)) (v_beginOf : (Nat → Int64)) (v_finishOf : (Nat → Int64)) (v_isLow : (Nat → Int32)) (v_weightsOf : (Nat → Int32)) (v_weight : (Nat → Int32)) (v_cell : (Nat → Int32)) (v_size : Int32) (v_row : (Nat → Int32)) (v_keptSize : Int32) (v_keptBefore : (Nat → Int32)) (v_keptAfter : (Nat → Int32)) (v_placeA : (Nat → Int64)) (v_placeB : (Nat → Int64)) (v_turned : (Nat → Int32)) (v_turnedMany : Int32) (v_syndromes : (Nat → Int64)) (v_lightest : (Nat → Int32)) (v_freeMany : Int32) (v_freePlace : (Nat → Int32)) (v_freeSyndrome : (Nat → Int64)) (v_ways : (Nat → Int32)) (v_waysKept : Int32) (v_trace : (Nat → Int32)) (v_comesA : Int64) (v_comesB : Int64)   (x1 : Int32) (res : (Int32 × Int32 × (Nat → Int32) × (Nat → Int32))) (hm : M_X12_twofold x1 v_sums v_kindOf v_modOf = some res) : Met l yX12_twofold wsX12_twofold rmX12_twofold (va_Pc [.ref (q 0), .int x1] (PreW G cs sz (ww_M q cs v_told v_tell v_sums v_kindOf v_modOf v_bitsOf v_turnOf v_polyOf v_beginOf v_finishOf v_isLow v_weightsOf v_weight v_cell v_size v_row v_keptSize v_keptBefore v_keptAfter v_placeA v_placeB v_turned v_turnedMany v_syndromes v_lightest v_freeMany v_freePlace v_freeSyndrome v_ways v_waysKept v_trace v_comesA v_comesB) RN)) (QI G res.1 True (ww_M q cs v_told v_tell res.2.1 res.2.2.1 res.2.2.2 v_bitsOf v_turnOf v_polyOf v_beginOf v_finishOf v_isLow v_weightsOf v_weight v_cell v_size v_row v_keptSize v_keptBefore v_keptAfter v_placeA v_placeB v_turned v_turnedMany v_syndromes v_lightest v_freeMany v_freePlace v_freeSyndrome v_ways v_waysKept v_trace v_comesA v_comesB) (va_A (ww_M q cs v_told v_tell v_sums v_kindOf v_modOf v_bitsOf v_turnOf v_polyOf v_beginOf v_finishOf v_isLow v_weightsOf v_weight v_cell v_size v_row v_keptSize v_keptBefore v_keptAfter v_placeA v_placeB v_turned v_turnedMany v_syndromes v_lightest v_freeMany v_freePlace v_freeSyndrome v_ways v_waysKept v_trace v_comesA v_comesB) sz)) 0 0 (va_A (ww_M q cs v_told v_tell v_sums v_kindOf v_modOf v_bitsOf v_turnOf v_polyOf v_beginOf v_finishOf v_isLow v_weightsOf v_weight v_cell v_size v_row v_keptSize v_keptBefore v_keptAfter v_placeA v_placeB v_turned v_turnedMany v_syndromes v_lightest v_freeMany v_freePlace v_freeSyndrome v_ways v_waysKept v_trace v_comesA v_comesB) sz) := by
  refine k_enter (Qf := fun A => QI G res.1 True (ww_M q cs v_told v_tell res.2.1 res.2.2.1 res.2.2.2 v_bitsOf v_turnOf v_polyOf v_beginOf v_finishOf v_isLow v_weightsOf v_weight v_cell v_size v_row v_keptSize v_keptBefore v_keptAfter v_placeA v_placeB v_turned v_turnedMany v_syndromes v_lightest v_freeMany v_freePlace v_freeSyndrome v_ways v_waysKept v_trace v_comesA v_comesB) A) (cc := cX12_twofold) (maxL := 2) (ret := (some .int)) (plainFor_of_name (by decide)) rfl (Nat.le_of_ble_eq_true rfl) ?_
  intro p e s m args below meth c A Q ls H locs hx hb hr hml hown hts hlocks hname hK hA hRo hP hD hS hQ hl
  have hl : lv_has ls 2 [(0, .ref (q 0)), (1, .int x1)] := hl
  unfold M_X12_twofold at hm
  refine lv_aload_n hx hb dX12_twofold_0 rfl (lv_at hl 0 rfl) ?_
  refine lv_iconst (v := 1) hx hb dX12_twofold_1 (by decide) ?_
  refine lv_iload_n hx hb dX12_twofold_2 rfl (lv_at hl 1 rfl) ?_
  obtain ⟨r1, hc_r1, hm⟩ := bs hm
  refine k_calli (va_runV (As := [.int 1, .int x1]) (rest := []) ⟨hx, hb, hml, hown, hts⟩ (c_X12_modular l G cs q H.size v_told v_tell v_sums v_kindOf v_modOf v_bitsOf v_turnOf v_polyOf v_beginOf v_finishOf v_isLow v_weightsOf v_weight v_cell v_size v_row v_keptSize v_keptBefore v_keptAfter v_placeA v_placeB v_turned v_turnedMany v_syndromes v_lightest v_freeMany v_freePlace v_freeSyndrome v_ways v_waysKept v_trace v_comesA v_comesB   (1 : Int32) x1 r1 hc_r1) (cwV 2 hts gX12_twofold_X12_modular rfl rfl rfl ⟨rfl, hd_X12_modular⟩ ⟨Nat.le_of_ble_eq_true rfl, Nat.le_of_ble_eq_true rfl⟩) ⟨pre_blind, va_recv hK.1 hP (ci := 10) (q0 := 0) rfl rfl, pre_w hK RO.nil hP hD (va_all hD hS hA)⟩ rfl rfl hl.1 rfl (lv_room (Nat.le_of_ble_eq_true rfl)) dX12_twofold_3 ⟨Nat.zero_le _, Nat.zero_le _⟩) hS (va_all hD hS hA) (fun hE2 H locs hP hD hS => ?_)
  have hP : va_P G vwCl (ww_M q cs v_told v_tell r1.2.1 r1.2.2.1 r1.2.2.2 v_bitsOf v_turnOf v_polyOf v_beginOf v_finishOf v_isLow v_weightsOf v_weight v_cell v_size v_row v_keptSize v_keptBefore v_keptAfter v_placeA v_placeB v_turned v_turnedMany v_syndromes v_lightest v_freeMany v_freePlace v_freeSyndrome v_ways v_waysKept v_trace v_comesA v_comesB) H := hP
  have hD : va_D A (ww_M q cs v_told v_tell r1.2.1 r1.2.2.1 r1.2.2.2 v_bitsOf v_turnOf v_polyOf v_beginOf v_finishOf v_isLow v_weightsOf v_weight v_cell v_size v_row v_keptSize v_keptBefore v_keptAfter v_placeA v_placeB v_turned v_turnedMany v_syndromes v_lightest v_freeMany v_freePlace v_freeSyndrome v_ways v_waysKept v_trace v_comesA v_comesB) := hD
  have hq := Option.some.inj hm
  subst hq; subst hQ
  exact k_iret hx hb hr hlocks hP hD hS rfl trivial dX12_twofold_6

theorem hd_X12_weighted : yX12_weighted.cls ≠ "java/lang/invoke/MethodHandle" ∧ yX12_weighted.cls ≠ "java/lang/invoke/VarHandle" ∧ (parseMethodDescriptor yX12_weighted.desc).map (fun d => d.parameters.length) = some 1 := by decide +kernel

def M_X12_weighted_b62 (n : Nat) (v_told : Int32) (v_tell : (Nat → Int32)) (v_sums : Int32) (x2 : Int32) (v_weight : (Nat → Int32)) : Option ((Int32 × (Nat → Int32)) ⊕ (Nat → Int32)) :=
  if v_told ≤ x2 then (some (.inr v_weight)) else (if x2 < 0 ∨ 100 ≤ x2.toNatClampNeg then none else if ((12 * v_sums) + x2) < 0 ∨ 192 ≤ ((12 * v_sums) + x2).toNatClampNeg then none else some (.inl (x2 + 1, (upd v_weight ((12 * v_sums) + x2).toNatClampNeg (v_tell x2.toNatClampNeg)))))

def M_X12_weighted (n : Nat) (x1 : Int32) (v_told : Int32) (v_tell : (Nat → Int32)) (v_sums : Int32) (v_kindOf : (Nat → Int32)) (v_modOf : (Nat → Int32)) (v_weightsOf : (Nat → Int32)) (v_weight : (Nat → Int32)) : Option (Int32 × Int32 × Int32 × (Nat → Int32) × (Nat → Int32) × (Nat → Int32) × (Nat → Int32)) :=
  if (M_X12_in x1.toInt64 (2 : Int64) (65536 : Int64)) = 0 then (some ((-3), v_told, v_sums, v_kindOf, v_modOf, v_weightsOf, v_weight)) else (if (M_X12_in v_told.toInt64 (1 : Int64) (12 : Int64)) = 0 then (some ((-5), v_told, v_sums, v_kindOf, v_modOf, v_weightsOf, v_weight)) else (if v_sums = 16 then (some ((-6), v_told, v_sums, v_kindOf, v_modOf, v_weightsOf, v_weight)) else (if v_sums < 0 ∨ 16 ≤ v_sums.toNatClampNeg then none else (lp (fun x : (Int32 × (Nat → Int32)) => M_X12_weighted_b62 n v_told v_tell v_sums x.1 x.2) n ((0 : Int32), v_weight)).bind fun o10 => if v_sums < 0 ∨ 16 ≤ v_sums.toNatClampNeg then none else (M_X12_made (2 : Int32) v_sums v_kindOf).bind fun r12 => some (r12.1, 0, r12.2.1, r12.2.2, (upd v_modOf v_sums.toNatClampNeg x1), (upd v_weightsOf v_sums.toNatClampNeg v_told), o10))))

abbrev rmX12_weighted : Room := { frames := 1, cells := 0, slots := 0, locals := 25 }
set_option maxHeartbeats 4000000 in
set_option maxRecDepth 100000 in
theorem c_X12_weighted (l : Launch) (G : va_G) (cs : CS) (q : Nat → Nat) (sz : Nat) (v_told : Int32) (v_tell : (Nat → Int32)) (v_sums : Int32) (v_kindOf : (Nat → Int32)) (v_modOf : (Nat → Int32)) (v_bitsOf : (Nat → Int32)) (v_turnOf : (Nat → Int32)) (v_polyOf : (Nat → Int64)) (v_beginOf : (Nat → Int64)) (v_finishOf : (Nat → Int64)) (v_isLow : (Nat → Int32)) (v_weightsOf : (Nat → Int32)) (v_weight : (Nat → Int32)) (v_cell : (Nat → Int32)) (v_size : Int32) (v_row : (Nat → Int32)) (v_keptSize : Int32) (v_keptBefore : (Nat → Int32)) (v_keptAfter : (Nat → Int32)) (v_placeA : (Nat → Int64)) (v_placeB : (Nat → Int64)) (v_turned : (Nat → Int32)) (v_turnedMany : Int32) (v_syndromes : (Nat → Int64)) (v_lightest : (Nat → Int32)) (v_freeMany : Int32) (v_freePlace : (Nat → Int32)) (v_freeSyndrome : (Nat → Int64)) (v_ways : (Nat → Int32)) (v_waysKept : Int32) (v_trace : (Nat → Int32)) (v_comesA : Int64) (v_comesB : Int64)   (x1 : Int32) (n : Nat) (res : (Int32 × Int32 × Int32 × (Nat → Int32) × (Nat → Int32) × (Nat → Int32) × (Nat → Int32))) (hm : M_X12_weighted n x1 v_told v_tell v_sums v_kindOf v_modOf v_weightsOf v_weight = some res) : Met l yX12_weighted wsX12_weighted rmX12_weighted (va_Pc [.ref (q 0), .int x1] (PreW G cs sz (ww_M q cs v_told v_tell v_sums v_kindOf v_modOf v_bitsOf v_turnOf v_polyOf v_beginOf v_finishOf v_isLow v_weightsOf v_weight v_cell v_size v_row v_keptSize v_keptBefore v_keptAfter v_placeA v_placeB v_turned v_turnedMany v_syndromes v_lightest v_freeMany v_freePlace v_freeSyndrome v_ways v_waysKept v_trace v_comesA v_comesB) RN)) (QI G res.1 True (ww_M q cs res.2.1 v_tell res.2.2.1 res.2.2.2.1 res.2.2.2.2.1 v_bitsOf v_turnOf v_polyOf v_beginOf v_finishOf v_isLow res.2.2.2.2.2.1 res.2.2.2.2.2.2 v_cell v_size v_row v_keptSize v_keptBefore v_keptAfter v_placeA v_placeB v_turned v_turnedMany v_syndromes v_lightest v_freeMany v_freePlace v_freeSyndrome v_ways v_waysKept v_trace v_comesA v_comesB) (va_A (ww_M q cs v_told v_tell v_sums v_kindOf v_modOf v_bitsOf v_turnOf v_polyOf v_beginOf v_finishOf v_isLow v_weightsOf v_weight v_cell v_size v_row v_keptSize v_keptBefore v_keptAfter v_placeA v_placeB v_turned v_turnedMany v_syndromes v_lightest v_freeMany v_freePlace v_freeSyndrome v_ways v_waysKept v_trace v_comesA v_comesB) sz)) 0 0 (va_A (ww_M q cs v_told v_tell v_sums v_kindOf v_modOf v_bitsOf v_turnOf v_polyOf v_beginOf v_finishOf v_isLow v_weightsOf v_weight v_cell v_size v_row v_keptSize v_keptBefore v_keptAfter v_placeA v_placeB v_turned v_turnedMany v_syndromes v_lightest v_freeMany v_freePlace v_freeSyndrome v_ways v_waysKept v_trace v_comesA v_comesB) sz) := by
  refine k_enter (Qf := fun A => QI G res.1 True (ww_M q cs res.2.1 v_tell res.2.2.1 res.2.2.2.1 res.2.2.2.2.1 v_bitsOf v_turnOf v_polyOf v_beginOf v_finishOf v_isLow res.2.2.2.2.2.1 res.2.2.2.2.2.2 v_cell v_size v_row v_keptSize v_keptBefore v_keptAfter v_placeA v_placeB v_turned v_turnedMany v_syndromes v_lightest v_freeMany v_freePlace v_freeSyndrome v_ways v_waysKept v_trace v_comesA v_comesB) A) (cc := cX12_weighted) (maxL := 3) (ret := (some .int)) (plainFor_of_name (by decide)) rfl (Nat.le_of_ble_eq_true rfl) ?_
  intro p e s m args below meth c A Q ls H locs hx hb hr hml hown hts hlocks hname hK hA hRo hP hD hS hQ hl
  have hl : lv_has ls 3 [(0, .ref (q 0)), (1, .int x1)] := hl
  have wd1 := hts (.constantLong RX12 97 (2)) (List.mem_of_getElem? (i := 1) rfl)
  have wd2 := hts (.constantLong RX12 99 (65536)) (List.mem_of_getElem? (i := 2) rfl)
  have wd3 := hts (.fieldLink RX12 94 "SumSmithModel" "told" "I") (List.mem_of_getElem? (i := 3) rfl)
  have wd4 := hts (.constantLong RX12 109 (12)) (List.mem_of_getElem? (i := 4) rfl)
  have wd5 := hts (.fieldLink RX12 84 "SumSmithModel" "sums" "I") (List.mem_of_getElem? (i := 5) rfl)
  have wd6 := hts (.fieldLink RX12 39 "SumSmithModel" "weightsOf" "[I") (List.mem_of_getElem? (i := 6) rfl)
  have wd7 := hts (.fieldLink RX12 42 "SumSmithModel" "weight" "[I") (List.mem_of_getElem? (i := 7) rfl)
  have wd8 := hts (.fieldLink RX12 7 "SumSmithModel" "tell" "[I") (List.mem_of_getElem? (i := 8) rfl)
  have wd9 := hts (.fieldLink RX12 16 "SumSmithModel" "modOf" "[I") (List.mem_of_getElem? (i := 9) rfl)
  have hinX12 : ∀ w ∈ wsX120, w ∈ wsX12_weighted := fun w h => List.mem_cons_of_mem _ (List.mem_append_right _ h)
  have L62 : ∀ (x1 : Int32) (x2 : Int32) (v_told : Int32) (v_sums : Int32) (v_kindOf : (Nat → Int32)) (v_modOf : (Nat → Int32)) (v_weightsOf : (Nat → Int32)) (v_weight : (Nat → Int32)) (out : (Nat → Int32)), lp (fun x : (Int32 × (Nat → Int32)) => M_X12_weighted_b62 n v_told v_tell v_sums x.1 x.2) n (x2, v_weight) = some out → (∀ (o : (Nat → Int32)), out = o → ∀ (H : Heap) (locs : List Loc), va_P G vwCl (ww_M q cs v_told v_tell v_sums v_kindOf v_modOf v_bitsOf v_turnOf v_polyOf v_beginOf v_finishOf v_isLow v_weightsOf o v_cell v_size v_row v_keptSize v_keptBefore v_keptAfter v_placeA v_placeB v_turned v_turnedMany v_syndromes v_lightest v_freeMany v_freePlace v_freeSyndrome v_ways v_waysKept v_trace v_comesA v_comesB) H → va_D A (ww_M q cs v_told v_tell v_sums v_kindOf v_modOf v_bitsOf v_turnOf v_polyOf v_beginOf v_finishOf v_isLow v_weightsOf o v_cell v_size v_row v_keptSize v_keptBefore v_keptAfter v_placeA v_placeB v_turned v_turnedMany v_syndromes v_lightest v_freeMany v_freePlace v_freeSyndrome v_ways v_waysKept v_trace v_comesA v_comesB) → va_S A s.heap H locs → ∀ (ls : Array Slot), lv_has ls 3 [(0, .ref (q 0)), (1, .int x1)] → W p l e rmX12_weighted s m args below meth c H locs 0 0 Q (F0 m 96 ls [])) → ∀ (H : Heap) (locs : List Loc), va_P G vwCl (ww_M q cs v_told v_tell v_sums v_kindOf v_modOf v_bitsOf v_turnOf v_polyOf v_beginOf v_finishOf v_isLow v_weightsOf v_weight v_cell v_size v_row v_keptSize v_keptBefore v_keptAfter v_placeA v_placeB v_turned v_turnedMany v_syndromes v_lightest v_freeMany v_freePlace v_freeSyndrome v_ways v_waysKept v_trace v_comesA v_comesB) H → va_D A (ww_M q cs v_told v_tell v_sums v_kindOf v_modOf v_bitsOf v_turnOf v_polyOf v_beginOf v_finishOf v_isLow v_weightsOf v_weight v_cell v_size v_row v_keptSize v_keptBefore v_keptAfter v_placeA v_placeB v_turned v_turnedMany v_syndromes v_lightest v_freeMany v_freePlace v_freeSyndrome v_ways v_waysKept v_trace v_comesA v_comesB) → va_S A s.heap H locs → ∀ (ls : Array Slot), lv_has ls 3 [(0, .ref (q 0)), (1, .int x1), (2, .int x2)] → W p l e rmX12_weighted s m args below meth c H locs 0 0 Q (F0 m 62 ls []) := by
    intro x1 x2 v_told v_sums v_kindOf v_modOf v_weightsOf v_weight out hlp hX
    refine lp_ind (fun x => ∀ (H : Heap) (locs : List Loc), va_P G vwCl (ww_M q cs v_told v_tell v_sums v_kindOf v_modOf v_bitsOf v_turnOf v_polyOf v_beginOf v_finishOf v_isLow v_weightsOf x.2 v_cell v_size v_row v_keptSize v_keptBefore v_keptAfter v_placeA v_placeB v_turned v_turnedMany v_syndromes v_lightest v_freeMany v_freePlace v_freeSyndrome v_ways v_waysKept v_trace v_comesA v_comesB) H → va_D A (ww_M q cs v_told v_tell v_sums v_kindOf v_modOf v_bitsOf v_turnOf v_polyOf v_beginOf v_finishOf v_isLow v_weightsOf x.2 v_cell v_size v_row v_keptSize v_keptBefore v_keptAfter v_placeA v_placeB v_turned v_turnedMany v_syndromes v_lightest v_freeMany v_freePlace v_freeSyndrome v_ways v_waysKept v_trace v_comesA v_comesB) → va_S A s.heap H locs → ∀ (ls : Array Slot), lv_has ls 3 [(0, .ref (q 0)), (1, .int x1), (2, .int x.1)] → W p l e rmX12_weighted s m args below meth c H locs 0 0 Q (F0 m 62 ls [])) ?_ n (x2, v_weight) hlp
    clear hlp hP hD hS hl
    rintro ⟨x2, v_weight⟩ ob hm hst H locs hP hD hS ls hl
    have hm : M_X12_weighted_b62 n v_told v_tell v_sums x2 v_weight = some ob := hm
    have hl : lv_has ls 3 [(0, .ref (q 0)), (1, .int x1), (2, .int x2)] := hl
    have hP : va_P G vwCl (ww_M q cs v_told v_tell v_sums v_kindOf v_modOf v_bitsOf v_turnOf v_polyOf v_beginOf v_finishOf v_isLow v_weightsOf v_weight v_cell v_size v_row v_keptSize v_keptBefore v_keptAfter v_placeA v_placeB v_turned v_turnedMany v_syndromes v_lightest v_freeMany v_freePlace v_freeSyndrome v_ways v_waysKept v_trace v_comesA v_comesB) H := hP
    have hD : va_D A (ww_M q cs v_told v_tell v_sums v_kindOf v_modOf v_bitsOf v_turnOf v_polyOf v_beginOf v_finishOf v_isLow v_weightsOf v_weight v_cell v_size v_row v_keptSize v_keptBefore v_keptAfter v_placeA v_placeB v_turned v_turnedMany v_syndromes v_lightest v_freeMany v_freePlace v_freeSyndrome v_ways v_waysKept v_trace v_comesA v_comesB) := hD
    unfold M_X12_weighted_b62 at hm
    refine lv_iload_n hx hb dX12_weighted_62 rfl (lv_at hl 2 rfl) ?_
    refine lv_aload_n hx hb dX12_weighted_63 rfl (lv_at hl 0 rfl) ?_
    refine va_get (D := G) (ci := 10) (v := .int v_told) (C := RX12) (T := TX12) (N := 33) hx hb hts hinX12 hown hK.1 hP 0 rfl rfl 0 (by decide) wd3 (fun _ h9 => h9) rfl dX12_weighted_64 ?_
    refine lv_icmp_ge (tgt := 96) hx hb dX12_weighted_67 (by decide) (fun b7 => ?_) (fun b7 => ?_)
    · have hm := i_t b7 hm
      exact hX _ (st_exit hm hst) H locs hP hD hS ls (lv_sub hl [0, 1] rfl)
    · have hm := i_f b7 hm
      refine lv_aload_n hx hb dX12_weighted_70 rfl (lv_at hl 0 rfl) ?_
      refine va_get (D := G) (ci := 10) (v := .ref (q 11)) (C := RX12) (T := TX12) (N := 33) hx hb hts hinX12 hown hK.1 hP 0 rfl rfl 12 (by decide) wd7 (fun _ h9 => h9) rfl dX12_weighted_71 ?_
      refine lv_bipush (v := 12) hx hb dX12_weighted_74 (by decide) ?_
      refine lv_aload_n hx hb dX12_weighted_76 rfl (lv_at hl 0 rfl) ?_
      refine va_get (D := G) (ci := 10) (v := .int v_sums) (C := RX12) (T := TX12) (N := 33) hx hb hts hinX12 hown hK.1 hP 0 rfl rfl 2 (by decide) wd5 (fun _ h9 => h9) rfl dX12_weighted_77 ?_
      refine lv_imul hx hb dX12_weighted_80 ?_
      refine lv_iload_n hx hb dX12_weighted_81 rfl (lv_at hl 2 rfl) ?_
      refine lv_iadd hx hb dX12_weighted_82 ?_
      refine lv_aload_n hx hb dX12_weighted_83 rfl (lv_at hl 0 rfl) ?_
      refine va_get (D := G) (ci := 10) (v := .ref (q 1)) (C := RX12) (T := TX12) (N := 33) hx hb hts hinX12 hown hK.1 hP 0 rfl rfl 1 (by decide) wd8 (fun _ h9 => h9) rfl dX12_weighted_84 ?_
      refine lv_iload_n hx hb dX12_weighted_87 rfl (lv_at hl 2 rfl) ?_
      obtain ⟨h8, hm⟩ := g_in hm
      refine va_iald hx hb hK.1 hP 1 0 rfl rfl h8 dX12_weighted_88 ?_
      obtain ⟨h9, hm⟩ := g_in hm
      refine va_iast hx hb hK.1 hP hD hS 11 0 rfl rfl h9 dX12_weighted_89 (fun H locs hP hD hS => ?_)
      have hP : va_P G vwCl (ww_M q cs v_told v_tell v_sums v_kindOf v_modOf v_bitsOf v_turnOf v_polyOf v_beginOf v_finishOf v_isLow v_weightsOf (upd v_weight ((12 * v_sums) + x2).toNatClampNeg (v_tell x2.toNatClampNeg)) v_cell v_size v_row v_keptSize v_keptBefore v_keptAfter v_placeA v_placeB v_turned v_turnedMany v_syndromes v_lightest v_freeMany v_freePlace v_freeSyndrome v_ways v_waysKept v_trace v_comesA v_comesB) H := hP
      have hD : va_D A (ww_M q cs v_told v_tell v_sums v_kindOf v_modOf v_bitsOf v_turnOf v_polyOf v_beginOf v_finishOf v_isLow v_weightsOf (upd v_weight ((12 * v_sums) + x2).toNatClampNeg (v_tell x2.toNatClampNeg)) v_cell v_size v_row v_keptSize v_keptBefore v_keptAfter v_placeA v_placeB v_turned v_turnedMany v_syndromes v_lightest v_freeMany v_freePlace v_freeSyndrome v_ways v_waysKept v_trace v_comesA v_comesB) := hD
      refine lv_iinc (v := x2 + 1) (lv' := [(2, .int (x2 + 1)), (0, .ref (q 0)), (1, .int x1)]) hx hb dX12_weighted_90 hl (k := 2) rfl rfl (by decide) rfl (fun ls hl => ?_)
      refine lv_goto (tgt := 62) hx hb dX12_weighted_93 (by decide) ?_
      exact st_next hm hst H locs hP hD hS ls (lv_sub hl [1, 2, 0] rfl)
  unfold M_X12_weighted at hm
  refine lv_iload_n hx hb dX12_weighted_0 rfl (lv_at hl 1 rfl) ?_
  refine lv_i2l (v := x1.toInt64) hx hb dX12_weighted_1 rfl ?_
  refine lv_ldc2 (own := RX12) (v := 2) hx hb hown wd1 dX12_weighted_2 ?_
  refine lv_ldc2 (own := RX12) (v := 65536) hx hb hown wd2 dX12_weighted_5 ?_
  refine k_calli0 (va_runS (As := [.long x1.toInt64, .long 2, .long 65536]) (rest := []) ⟨hx, hb, hml, hown, hts⟩ (c_X12_in l G cs H.size    x1.toInt64 (2 : Int64) (65536 : Int64) _ rfl) (va_cwS 3 hts gX12_weighted_X12_in rfl rfl rfl hd_X12_in ⟨Nat.le_of_ble_eq_true rfl, Nat.le_of_ble_eq_true rfl⟩) ⟨pre_blind, pre_w hK RO.nil P0 D0 (va_new0 hS hA)⟩ rfl rfl hl.1 rfl (lv_room (Nat.le_of_ble_eq_true rfl)) dX12_weighted_8 ⟨Nat.zero_le _, Nat.zero_le _⟩) hP hS hA (fun hE1 H locs hP hS => ?_)
  refine lv_if_ne (tgt := 17) hx hb dX12_weighted_11 (by decide) (fun b2 => ?_) (fun b2 => ?_)
  · have hm := i_f b2 hm
    refine lv_aload_n hx hb dX12_weighted_17 rfl (lv_at hl 0 rfl) ?_
    refine va_get (D := G) (ci := 10) (v := .int v_told) (C := RX12) (T := TX12) (N := 33) hx hb hts hinX12 hown hK.1 hP 0 rfl rfl 0 (by decide) wd3 (fun _ h9 => h9) rfl dX12_weighted_18 ?_
    refine lv_i2l (v := v_told.toInt64) hx hb dX12_weighted_21 rfl ?_
    refine lv_lconst (v := 1) hx hb dX12_weighted_22 (by decide) ?_
    refine lv_ldc2 (own := RX12) (v := 12) hx hb hown wd4 dX12_weighted_23 ?_
    refine k_calli0 (va_runS (As := [.long v_told.toInt64, .long 1, .long 12]) (rest := []) ⟨hx, hb, hml, hown, hts⟩ (c_X12_in l G cs H.size    v_told.toInt64 (1 : Int64) (12 : Int64) _ rfl) (va_cwS 3 hts gX12_weighted_X12_in rfl rfl rfl hd_X12_in ⟨Nat.le_of_ble_eq_true rfl, Nat.le_of_ble_eq_true rfl⟩) ⟨pre_blind, pre_w hK RO.nil P0 D0 (va_new0 hS hA)⟩ rfl rfl hl.1 rfl (lv_room (Nat.le_of_ble_eq_true rfl)) dX12_weighted_26 ⟨Nat.zero_le _, Nat.zero_le _⟩) hP hS hA (fun hE3 H locs hP hS => ?_)
    refine lv_if_ne (tgt := 35) hx hb dX12_weighted_29 (by decide) (fun b4 => ?_) (fun b4 => ?_)
    · have hm := i_f b4 hm
      refine lv_aload_n hx hb dX12_weighted_35 rfl (lv_at hl 0 rfl) ?_
      refine va_get (D := G) (ci := 10) (v := .int v_sums) (C := RX12) (T := TX12) (N := 33) hx hb hts hinX12 hown hK.1 hP 0 rfl rfl 2 (by decide) wd5 (fun _ h9 => h9) rfl dX12_weighted_36 ?_
      refine lv_bipush (v := 16) hx hb dX12_weighted_39 (by decide) ?_
      refine lv_icmp_ne (tgt := 47) hx hb dX12_weighted_41 (by decide) (fun b5 => ?_) (fun b5 => ?_)
      · have hm := i_f b5 hm
        refine lv_aload_n hx hb dX12_weighted_47 rfl (lv_at hl 0 rfl) ?_
        refine va_get (D := G) (ci := 10) (v := .ref (q 10)) (C := RX12) (T := TX12) (N := 33) hx hb hts hinX12 hown hK.1 hP 0 rfl rfl 11 (by decide) wd6 (fun _ h9 => h9) rfl dX12_weighted_48 ?_
        refine lv_aload_n hx hb dX12_weighted_51 rfl (lv_at hl 0 rfl) ?_
        refine va_get (D := G) (ci := 10) (v := .int v_sums) (C := RX12) (T := TX12) (N := 33) hx hb hts hinX12 hown hK.1 hP 0 rfl rfl 2 (by decide) wd5 (fun _ h9 => h9) rfl dX12_weighted_52 ?_
        refine lv_aload_n hx hb dX12_weighted_55 rfl (lv_at hl 0 rfl) ?_
        refine va_get (D := G) (ci := 10) (v := .int v_told) (C := RX12) (T := TX12) (N := 33) hx hb hts hinX12 hown hK.1 hP 0 rfl rfl 0 (by decide) wd3 (fun _ h9 => h9) rfl dX12_weighted_56 ?_
        obtain ⟨h6, hm⟩ := g_in hm
        refine va_iast hx hb hK.1 hP hD hS 10 0 rfl rfl h6 dX12_weighted_59 (fun H locs hP hD hS => ?_)
        have hP : va_P G vwCl (ww_M q cs v_told v_tell v_sums v_kindOf v_modOf v_bitsOf v_turnOf v_polyOf v_beginOf v_finishOf v_isLow (upd v_weightsOf v_sums.toNatClampNeg v_told) v_weight v_cell v_size v_row v_keptSize v_keptBefore v_keptAfter v_placeA v_placeB v_turned v_turnedMany v_syndromes v_lightest v_freeMany v_freePlace v_freeSyndrome v_ways v_waysKept v_trace v_comesA v_comesB) H := hP
        have hD : va_D A (ww_M q cs v_told v_tell v_sums v_kindOf v_modOf v_bitsOf v_turnOf v_polyOf v_beginOf v_finishOf v_isLow (upd v_weightsOf v_sums.toNatClampNeg v_told) v_weight v_cell v_size v_row v_keptSize v_keptBefore v_keptAfter v_placeA v_placeB v_turned v_turnedMany v_syndromes v_lightest v_freeMany v_freePlace v_freeSyndrome v_ways v_waysKept v_trace v_comesA v_comesB) := hD
        refine lv_iconst (v := 0) hx hb dX12_weighted_60 (by decide) ?_
        refine lv_istore_n (lv' := [(2, .int 0), (0, .ref (q 0)), (1, .int x1)]) hx hb dX12_weighted_61 rfl hl (by decide) rfl (fun ls hl => ?_)
        obtain ⟨o10, hlp10, hm⟩ := bs hm
        refine L62 x1 (0 : Int32) v_told v_sums v_kindOf v_modOf (upd v_weightsOf v_sums.toNatClampNeg v_told) v_weight o10 hlp10 (fun oo ho => ?_) H locs hP hD hS ls (lv_sub hl [1, 2, 0] rfl)
        subst ho
        intro H locs hP hD hS ls hl
        have hl : lv_has ls 3 [(0, .ref (q 0)), (1, .int x1)] := hl
        have hP : va_P G vwCl (ww_M q cs v_told v_tell v_sums v_kindOf v_modOf v_bitsOf v_turnOf v_polyOf v_beginOf v_finishOf v_isLow (upd v_weightsOf v_sums.toNatClampNeg v_told) o10 v_cell v_size v_row v_keptSize v_keptBefore v_keptAfter v_placeA v_placeB v_turned v_turnedMany v_syndromes v_lightest v_freeMany v_freePlace v_freeSyndrome v_ways v_waysKept v_trace v_comesA v_comesB) H := hP
        have hD : va_D A (ww_M q cs v_told v_tell v_sums v_kindOf v_modOf v_bitsOf v_turnOf v_polyOf v_beginOf v_finishOf v_isLow (upd v_weightsOf v_sums.toNatClampNeg v_told) o10 v_cell v_size v_row v_keptSize v_keptBefore v_keptAfter v_placeA v_placeB v_turned v_turnedMany v_syndromes v_lightest v_freeMany v_freePlace v_freeSyndrome v_ways v_waysKept v_trace v_comesA v_comesB) := hD
        refine lv_aload_n hx hb dX12_weighted_96 rfl (lv_at hl 0 rfl) ?_
        refine lv_iconst (v := 0) hx hb dX12_weighted_97 (by decide) ?_
        refine va_put (D := G) (ci := 10) (v := .int 0) (ty := .int) (C := RX12) (T := TX12) (N := 33) hx hb hts hinX12 tyX12 tyX12_ok nmX12 hown hK.1 hP hD hS 0 rfl rfl 0 (by decide) wd3 (fun _ h9 => h9) rfl (by decide +kernel) rfl rfl (Nat.le_of_ble_eq_true rfl) dX12_weighted_98 (fun H locs hP hD hS => ?_)
        have hP : va_P G vwCl (ww_M q cs 0 v_tell v_sums v_kindOf v_modOf v_bitsOf v_turnOf v_polyOf v_beginOf v_finishOf v_isLow (upd v_weightsOf v_sums.toNatClampNeg v_told) o10 v_cell v_size v_row v_keptSize v_keptBefore v_keptAfter v_placeA v_placeB v_turned v_turnedMany v_syndromes v_lightest v_freeMany v_freePlace v_freeSyndrome v_ways v_waysKept v_trace v_comesA v_comesB) H := hP
        have hD : va_D A (ww_M q cs 0 v_tell v_sums v_kindOf v_modOf v_bitsOf v_turnOf v_polyOf v_beginOf v_finishOf v_isLow (upd v_weightsOf v_sums.toNatClampNeg v_told) o10 v_cell v_size v_row v_keptSize v_keptBefore v_keptAfter v_placeA v_placeB v_turned v_turnedMany v_syndromes v_lightest v_freeMany v_freePlace v_freeSyndrome v_ways v_waysKept v_trace v_comesA v_comesB) := hD
        refine lv_aload_n hx hb dX12_weighted_101 rfl (lv_at hl 0 rfl) ?_
        refine va_get (D := G) (ci := 10) (v := .ref (q 3)) (C := RX12) (T := TX12) (N := 33) hx hb hts hinX12 hown hK.1 hP 0 rfl rfl 4 (by decide) wd9 (fun _ h9 => h9) rfl dX12_weighted_102 ?_
        refine lv_aload_n hx hb dX12_weighted_105 rfl (lv_at hl 0 rfl) ?_
        refine va_get (D := G) (ci := 10) (v := .int v_sums) (C := RX12) (T := TX12) (N := 33) hx hb hts hinX12 hown hK.1 hP 0 rfl rfl 2 (by decide) wd5 (fun _ h9 => h9) rfl dX12_weighted_106 ?_
        refine lv_iload_n hx hb dX12_weighted_109 rfl (lv_at hl 1 rfl) ?_
        obtain ⟨h11, hm⟩ := g_in hm
        refine va_iast hx hb hK.1 hP hD hS 3 0 rfl rfl h11 dX12_weighted_110 (fun H locs hP hD hS => ?_)
        have hP : va_P G vwCl (ww_M q cs 0 v_tell v_sums v_kindOf (upd v_modOf v_sums.toNatClampNeg x1) v_bitsOf v_turnOf v_polyOf v_beginOf v_finishOf v_isLow (upd v_weightsOf v_sums.toNatClampNeg v_told) o10 v_cell v_size v_row v_keptSize v_keptBefore v_keptAfter v_placeA v_placeB v_turned v_turnedMany v_syndromes v_lightest v_freeMany v_freePlace v_freeSyndrome v_ways v_waysKept v_trace v_comesA v_comesB) H := hP
        have hD : va_D A (ww_M q cs 0 v_tell v_sums v_kindOf (upd v_modOf v_sums.toNatClampNeg x1) v_bitsOf v_turnOf v_polyOf v_beginOf v_finishOf v_isLow (upd v_weightsOf v_sums.toNatClampNeg v_told) o10 v_cell v_size v_row v_keptSize v_keptBefore v_keptAfter v_placeA v_placeB v_turned v_turnedMany v_syndromes v_lightest v_freeMany v_freePlace v_freeSyndrome v_ways v_waysKept v_trace v_comesA v_comesB) := hD
        refine lv_aload_n hx hb dX12_weighted_111 rfl (lv_at hl 0 rfl) ?_
        refine lv_iconst (v := 2) hx hb dX12_weighted_112 (by decide) ?_
        obtain ⟨r12, hc_r12, hm⟩ := bs hm
        refine k_calli (va_runV (As := [.int 2]) (rest := []) ⟨hx, hb, hml, hown, hts⟩ (c_X12_made l G cs q H.size 0 v_tell v_sums v_kindOf (upd v_modOf v_sums.toNatClampNeg x1) v_bitsOf v_turnOf v_polyOf v_beginOf v_finishOf v_isLow (upd v_weightsOf v_sums.toNatClampNeg v_told) o10 v_cell v_size v_row v_keptSize v_keptBefore v_keptAfter v_placeA v_placeB v_turned v_turnedMany v_syndromes v_lightest v_freeMany v_freePlace v_freeSyndrome v_ways v_waysKept v_trace v_comesA v_comesB   (2 : Int32) r12 hc_r12) (cwV 1 hts gX12_weighted_X12_made rfl rfl rfl ⟨rfl, hd_X12_made⟩ ⟨Nat.le_of_ble_eq_true rfl, Nat.le_of_ble_eq_true rfl⟩) ⟨pre_blind, va_recv hK.1 hP (ci := 10) (q0 := 0) rfl rfl, pre_w hK RO.nil hP hD (va_all hD hS hA)⟩ rfl rfl hl.1 rfl (lv_room (Nat.le_of_ble_eq_true rfl)) dX12_weighted_113 ⟨Nat.zero_le _, Nat.zero_le _⟩) hS (va_all hD hS hA) (fun hE13 H locs hP hD hS => ?_)
        have hP : va_P G vwCl (ww_M q cs 0 v_tell r12.2.1 r12.2.2 (upd v_modOf v_sums.toNatClampNeg x1) v_bitsOf v_turnOf v_polyOf v_beginOf v_finishOf v_isLow (upd v_weightsOf v_sums.toNatClampNeg v_told) o10 v_cell v_size v_row v_keptSize v_keptBefore v_keptAfter v_placeA v_placeB v_turned v_turnedMany v_syndromes v_lightest v_freeMany v_freePlace v_freeSyndrome v_ways v_waysKept v_trace v_comesA v_comesB) H := hP
        have hD : va_D A (ww_M q cs 0 v_tell r12.2.1 r12.2.2 (upd v_modOf v_sums.toNatClampNeg x1) v_bitsOf v_turnOf v_polyOf v_beginOf v_finishOf v_isLow (upd v_weightsOf v_sums.toNatClampNeg v_told) o10 v_cell v_size v_row v_keptSize v_keptBefore v_keptAfter v_placeA v_placeB v_turned v_turnedMany v_syndromes v_lightest v_freeMany v_freePlace v_freeSyndrome v_ways v_waysKept v_trace v_comesA v_comesB) := hD
        have hq := Option.some.inj hm
        subst hq; subst hQ
        exact k_iret hx hb hr hlocks hP hD hS rfl trivial dX12_weighted_116
      · have hm := i_t b5 hm
        refine lv_bipush (v := (-6)) hx hb dX12_weighted_44 (by decide) ?_
        have hq := Option.some.inj hm
        subst hq; subst hQ
        exact k_iret hx hb hr hlocks hP hD hS rfl trivial dX12_weighted_46
    · have hm := i_t b4 hm
      refine lv_bipush (v := (-5)) hx hb dX12_weighted_32 (by decide) ?_
      have hq := Option.some.inj hm
      subst hq; subst hQ
      exact k_iret hx hb hr hlocks hP hD hS rfl trivial dX12_weighted_34
  · have hm := i_t b2 hm
    refine lv_bipush (v := (-3)) hx hb dX12_weighted_14 (by decide) ?_
    have hq := Option.some.inj hm
    subst hq; subst hQ
    exact k_iret hx hb hr hlocks hP hD hS rfl trivial dX12_weighted_16

theorem hd_X12_turning : yX12_turning.cls ≠ "java/lang/invoke/MethodHandle" ∧ yX12_turning.cls ≠ "java/lang/invoke/VarHandle" ∧ (parseMethodDescriptor yX12_turning.desc).map (fun d => d.parameters.length) = some 2 := by decide +kernel

def M_X12_turning (x1 : Int32) (x2 : Int32) (v_sums : Int32) (v_kindOf : (Nat → Int32)) (v_bitsOf : (Nat → Int32)) (v_turnOf : (Nat → Int32)) : Option (Int32 × Int32 × (Nat → Int32) × (Nat → Int32) × (Nat → Int32)) :=
  if (M_X12_in x1.toInt64 (8 : Int64) (32 : Int64)) = 0 then (some ((-3), v_sums, v_kindOf, v_bitsOf, v_turnOf)) else (if (M_X12_in x2.toInt64 (0 : Int64) ((x1 - 1).toInt64)) = 0 then (some ((-3), v_sums, v_kindOf, v_bitsOf, v_turnOf)) else (if v_sums = 16 then (some ((-6), v_sums, v_kindOf, v_bitsOf, v_turnOf)) else (if v_sums < 0 ∨ 16 ≤ v_sums.toNatClampNeg then none else if v_sums < 0 ∨ 16 ≤ v_sums.toNatClampNeg then none else (M_X12_made (3 : Int32) v_sums v_kindOf).bind fun r8 => some (r8.1, r8.2.1, r8.2.2, (upd v_bitsOf v_sums.toNatClampNeg x1), (upd v_turnOf v_sums.toNatClampNeg x2)))))

abbrev rmX12_turning : Room := { frames := 1, cells := 0, slots := 0, locals := 25 }
set_option maxHeartbeats 4000000 in
set_option maxRecDepth 100000 in
theorem c_X12_turning (l : Launch) (G : va_G) (cs : CS) (q : Nat → Nat) (sz : Nat) (v_told : Int32) (v_tell : (Nat → Int32)) (v_sums : Int32) (v_kindOf : (Nat → Int32)) (v_modOf : (Nat → Int32)) (v_bitsOf : (Nat → Int32)) (v_turnOf : (Nat → Int32)) (v_polyOf : (Nat → Int64)) (v_beginOf : (Nat → Int64)) (v_finishOf : (Nat → Int64)) (v_isLow : (Nat → Int32)) (v_weightsOf : (Nat → Int32)) (v_weight : (Nat → Int32)) (v_cell : (Nat → Int32)) (v_size : Int32) (v_row : (Nat → Int32)) (v_keptSize : Int32) (v_keptBefore : (Nat → Int32)) (v_keptAfter : (Nat → Int32)) (v_placeA : (Nat → Int64)) (v_placeB : (Nat → Int64)) (v_turned : (Nat → Int32)) (v_turnedMany : Int32) (v_syndromes : (Nat → Int64)) (v_lightest : (Nat → Int32)) (v_freeMany : Int32) (v_freePlace : (Nat → Int32)) (v_freeSyndrome : (Nat → Int64)) (v_ways : (Nat → Int32)) (v_waysKept : Int32) (v_trace : (Nat → Int32)) (v_comesA : Int64) (v_comesB : Int64)   (x1 : Int32) (x2 : Int32) (res : (Int32 × Int32 × (Nat → Int32) × (Nat → Int32) × (Nat → Int32))) (hm : M_X12_turning x1 x2 v_sums v_kindOf v_bitsOf v_turnOf = some res) : Met l yX12_turning wsX12_turning rmX12_turning (va_Pc [.ref (q 0), .int x1, .int x2] (PreW G cs sz (ww_M q cs v_told v_tell v_sums v_kindOf v_modOf v_bitsOf v_turnOf v_polyOf v_beginOf v_finishOf v_isLow v_weightsOf v_weight v_cell v_size v_row v_keptSize v_keptBefore v_keptAfter v_placeA v_placeB v_turned v_turnedMany v_syndromes v_lightest v_freeMany v_freePlace v_freeSyndrome v_ways v_waysKept v_trace v_comesA v_comesB) RN)) (QI G res.1 True (ww_M q cs v_told v_tell res.2.1 res.2.2.1 v_modOf res.2.2.2.1 res.2.2.2.2 v_polyOf v_beginOf v_finishOf v_isLow v_weightsOf v_weight v_cell v_size v_row v_keptSize v_keptBefore v_keptAfter v_placeA v_placeB v_turned v_turnedMany v_syndromes v_lightest v_freeMany v_freePlace v_freeSyndrome v_ways v_waysKept v_trace v_comesA v_comesB) (va_A (ww_M q cs v_told v_tell v_sums v_kindOf v_modOf v_bitsOf v_turnOf v_polyOf v_beginOf v_finishOf v_isLow v_weightsOf v_weight v_cell v_size v_row v_keptSize v_keptBefore v_keptAfter v_placeA v_placeB v_turned v_turnedMany v_syndromes v_lightest v_freeMany v_freePlace v_freeSyndrome v_ways v_waysKept v_trace v_comesA v_comesB) sz)) 0 0 (va_A (ww_M q cs v_told v_tell v_sums v_kindOf v_modOf v_bitsOf v_turnOf v_polyOf v_beginOf v_finishOf v_isLow v_weightsOf v_weight v_cell v_size v_row v_keptSize v_keptBefore v_keptAfter v_placeA v_placeB v_turned v_turnedMany v_syndromes v_lightest v_freeMany v_freePlace v_freeSyndrome v_ways v_waysKept v_trace v_comesA v_comesB) sz) := by
  refine k_enter (Qf := fun A => QI G res.1 True (ww_M q cs v_told v_tell res.2.1 res.2.2.1 v_modOf res.2.2.2.1 res.2.2.2.2 v_polyOf v_beginOf v_finishOf v_isLow v_weightsOf v_weight v_cell v_size v_row v_keptSize v_keptBefore v_keptAfter v_placeA v_placeB v_turned v_turnedMany v_syndromes v_lightest v_freeMany v_freePlace v_freeSyndrome v_ways v_waysKept v_trace v_comesA v_comesB) A) (cc := cX12_turning) (maxL := 3) (ret := (some .int)) (plainFor_of_name (by decide)) rfl (Nat.le_of_ble_eq_true rfl) ?_
  intro p e s m args below meth c A Q ls H locs hx hb hr hml hown hts hlocks hname hK hA hRo hP hD hS hQ hl
  have hl : lv_has ls 3 [(0, .ref (q 0)), (1, .int x1), (2, .int x2)] := hl
  have wd1 := hts (.constantLong RX12 111 (8)) (List.mem_of_getElem? (i := 1) rfl)
  have wd2 := hts (.constantLong RX12 113 (32)) (List.mem_of_getElem? (i := 2) rfl)
  have wd3 := hts (.fieldLink RX12 84 "SumSmithModel" "sums" "I") (List.mem_of_getElem? (i := 3) rfl)
  have wd4 := hts (.fieldLink RX12 19 "SumSmithModel" "bitsOf" "[I") (List.mem_of_getElem? (i := 4) rfl)
  have wd5 := hts (.fieldLink RX12 22 "SumSmithModel" "turnOf" "[I") (List.mem_of_getElem? (i := 5) rfl)
  have hinX12 : ∀ w ∈ wsX120, w ∈ wsX12_turning := fun w h => List.mem_cons_of_mem _ (List.mem_append_right _ h)
  unfold M_X12_turning at hm
  refine lv_iload_n hx hb dX12_turning_0 rfl (lv_at hl 1 rfl) ?_
  refine lv_i2l (v := x1.toInt64) hx hb dX12_turning_1 rfl ?_
  refine lv_ldc2 (own := RX12) (v := 8) hx hb hown wd1 dX12_turning_2 ?_
  refine lv_ldc2 (own := RX12) (v := 32) hx hb hown wd2 dX12_turning_5 ?_
  refine k_calli0 (va_runS (As := [.long x1.toInt64, .long 8, .long 32]) (rest := []) ⟨hx, hb, hml, hown, hts⟩ (c_X12_in l G cs H.size    x1.toInt64 (8 : Int64) (32 : Int64) _ rfl) (va_cwS 3 hts gX12_turning_X12_in rfl rfl rfl hd_X12_in ⟨Nat.le_of_ble_eq_true rfl, Nat.le_of_ble_eq_true rfl⟩) ⟨pre_blind, pre_w hK RO.nil P0 D0 (va_new0 hS hA)⟩ rfl rfl hl.1 rfl (lv_room (Nat.le_of_ble_eq_true rfl)) dX12_turning_8 ⟨Nat.zero_le _, Nat.zero_le _⟩) hP hS hA (fun hE1 H locs hP hS => ?_)
  refine lv_if_eq (tgt := 27) hx hb dX12_turning_11 (by decide) (fun b2 => ?_) (fun b2 => ?_)
  · have hm := i_t b2 hm
    refine lv_bipush (v := (-3)) hx hb dX12_turning_27 (by decide) ?_
    have hq := Option.some.inj hm
    subst hq; subst hQ
    exact k_iret hx hb hr hlocks hP hD hS rfl trivial dX12_turning_29
  · have hm := i_f b2 hm
    refine lv_iload_n hx hb dX12_turning_14 rfl (lv_at hl 2 rfl) ?_
    refine lv_i2l (v := x2.toInt64) hx hb dX12_turning_15 rfl ?_
    refine lv_lconst (v := 0) hx hb dX12_turning_16 (by decide) ?_
    refine lv_iload_n hx hb dX12_turning_17 rfl (lv_at hl 1 rfl) ?_
    refine lv_iconst (v := 1) hx hb dX12_turning_18 (by decide) ?_
    refine lv_isub hx hb dX12_turning_19 ?_
    refine lv_i2l (v := (x1 - 1).toInt64) hx hb dX12_turning_20 rfl ?_
    refine k_calli0 (va_runS (As := [.long x2.toInt64, .long 0, .long ((x1 - 1).toInt64)]) (rest := []) ⟨hx, hb, hml, hown, hts⟩ (c_X12_in l G cs H.size    x2.toInt64 (0 : Int64) ((x1 - 1).toInt64) _ rfl) (va_cwS 3 hts gX12_turning_X12_in rfl rfl rfl hd_X12_in ⟨Nat.le_of_ble_eq_true rfl, Nat.le_of_ble_eq_true rfl⟩) ⟨pre_blind, pre_w hK RO.nil P0 D0 (va_new0 hS hA)⟩ rfl rfl hl.1 rfl (lv_room (Nat.le_of_ble_eq_true rfl)) dX12_turning_21 ⟨Nat.zero_le _, Nat.zero_le _⟩) hP hS hA (fun hE3 H locs hP hS => ?_)
    refine lv_if_ne (tgt := 30) hx hb dX12_turning_24 (by decide) (fun b4 => ?_) (fun b4 => ?_)
    · have hm := i_f b4 hm
      refine lv_aload_n hx hb dX12_turning_30 rfl (lv_at hl 0 rfl) ?_
      refine va_get (D := G) (ci := 10) (v := .int v_sums) (C := RX12) (T := TX12) (N := 33) hx hb hts hinX12 hown hK.1 hP 0 rfl rfl 2 (by decide) wd3 (fun _ h9 => h9) rfl dX12_turning_31 ?_
      refine lv_bipush (v := 16) hx hb dX12_turning_34 (by decide) ?_
      refine lv_icmp_ne (tgt := 42) hx hb dX12_turning_36 (by decide) (fun b5 => ?_) (fun b5 => ?_)
      · have hm := i_f b5 hm
        refine lv_aload_n hx hb dX12_turning_42 rfl (lv_at hl 0 rfl) ?_
        refine va_get (D := G) (ci := 10) (v := .ref (q 4)) (C := RX12) (T := TX12) (N := 33) hx hb hts hinX12 hown hK.1 hP 0 rfl rfl 5 (by decide) wd4 (fun _ h9 => h9) rfl dX12_turning_43 ?_
        refine lv_aload_n hx hb dX12_turning_46 rfl (lv_at hl 0 rfl) ?_
        refine va_get (D := G) (ci := 10) (v := .int v_sums) (C := RX12) (T := TX12) (N := 33) hx hb hts hinX12 hown hK.1 hP 0 rfl rfl 2 (by decide) wd3 (fun _ h9 => h9) rfl dX12_turning_47 ?_
        refine lv_iload_n hx hb dX12_turning_50 rfl (lv_at hl 1 rfl) ?_
        obtain ⟨h6, hm⟩ := g_in hm
        refine va_iast hx hb hK.1 hP hD hS 4 0 rfl rfl h6 dX12_turning_51 (fun H locs hP hD hS => ?_)
        have hP : va_P G vwCl (ww_M q cs v_told v_tell v_sums v_kindOf v_modOf (upd v_bitsOf v_sums.toNatClampNeg x1) v_turnOf v_polyOf v_beginOf v_finishOf v_isLow v_weightsOf v_weight v_cell v_size v_row v_keptSize v_keptBefore v_keptAfter v_placeA v_placeB v_turned v_turnedMany v_syndromes v_lightest v_freeMany v_freePlace v_freeSyndrome v_ways v_waysKept v_trace v_comesA v_comesB) H := hP
        have hD : va_D A (ww_M q cs v_told v_tell v_sums v_kindOf v_modOf (upd v_bitsOf v_sums.toNatClampNeg x1) v_turnOf v_polyOf v_beginOf v_finishOf v_isLow v_weightsOf v_weight v_cell v_size v_row v_keptSize v_keptBefore v_keptAfter v_placeA v_placeB v_turned v_turnedMany v_syndromes v_lightest v_freeMany v_freePlace v_freeSyndrome v_ways v_waysKept v_trace v_comesA v_comesB) := hD
        refine lv_aload_n hx hb dX12_turning_52 rfl (lv_at hl 0 rfl) ?_
        refine va_get (D := G) (ci := 10) (v := .ref (q 5)) (C := RX12) (T := TX12) (N := 33) hx hb hts hinX12 hown hK.1 hP 0 rfl rfl 6 (by decide) wd5 (fun _ h9 => h9) rfl dX12_turning_53 ?_
        refine lv_aload_n hx hb dX12_turning_56 rfl (lv_at hl 0 rfl) ?_
        refine va_get (D := G) (ci := 10) (v := .int v_sums) (C := RX12) (T := TX12) (N := 33) hx hb hts hinX12 hown hK.1 hP 0 rfl rfl 2 (by decide) wd3 (fun _ h9 => h9) rfl dX12_turning_57 ?_
        refine lv_iload_n hx hb dX12_turning_60 rfl (lv_at hl 2 rfl) ?_
        obtain ⟨h7, hm⟩ := g_in hm
        refine va_iast hx hb hK.1 hP hD hS 5 0 rfl rfl h7 dX12_turning_61 (fun H locs hP hD hS => ?_)
        have hP : va_P G vwCl (ww_M q cs v_told v_tell v_sums v_kindOf v_modOf (upd v_bitsOf v_sums.toNatClampNeg x1) (upd v_turnOf v_sums.toNatClampNeg x2) v_polyOf v_beginOf v_finishOf v_isLow v_weightsOf v_weight v_cell v_size v_row v_keptSize v_keptBefore v_keptAfter v_placeA v_placeB v_turned v_turnedMany v_syndromes v_lightest v_freeMany v_freePlace v_freeSyndrome v_ways v_waysKept v_trace v_comesA v_comesB) H := hP
        have hD : va_D A (ww_M q cs v_told v_tell v_sums v_kindOf v_modOf (upd v_bitsOf v_sums.toNatClampNeg x1) (upd v_turnOf v_sums.toNatClampNeg x2) v_polyOf v_beginOf v_finishOf v_isLow v_weightsOf v_weight v_cell v_size v_row v_keptSize v_keptBefore v_keptAfter v_placeA v_placeB v_turned v_turnedMany v_syndromes v_lightest v_freeMany v_freePlace v_freeSyndrome v_ways v_waysKept v_trace v_comesA v_comesB) := hD
        refine lv_aload_n hx hb dX12_turning_62 rfl (lv_at hl 0 rfl) ?_
        refine lv_iconst (v := 3) hx hb dX12_turning_63 (by decide) ?_
        obtain ⟨r8, hc_r8, hm⟩ := bs hm
        refine k_calli (va_runV (As := [.int 3]) (rest := []) ⟨hx, hb, hml, hown, hts⟩ (c_X12_made l G cs q H.size v_told v_tell v_sums v_kindOf v_modOf (upd v_bitsOf v_sums.toNatClampNeg x1) (upd v_turnOf v_sums.toNatClampNeg x2) v_polyOf v_beginOf v_finishOf v_isLow v_weightsOf v_weight v_cell v_size v_row v_keptSize v_keptBefore v_keptAfter v_placeA v_placeB v_turned v_turnedMany v_syndromes v_lightest v_freeMany v_freePlace v_freeSyndrome v_ways v_waysKept v_trace v_comesA v_comesB   (3 : Int32) r8 hc_r8) (cwV 1 hts gX12_turning_X12_made rfl rfl rfl ⟨rfl, hd_X12_made⟩ ⟨Nat.le_of_ble_eq_true rfl, Nat.le_of_ble_eq_true rfl⟩) ⟨pre_blind, va_recv hK.1 hP (ci := 10) (q0 := 0) rfl rfl, pre_w hK RO.nil hP hD (va_all hD hS hA)⟩ rfl rfl hl.1 rfl (lv_room (Nat.le_of_ble_eq_true rfl)) dX12_turning_64 ⟨Nat.zero_le _, Nat.zero_le _⟩) hS (va_all hD hS hA) (fun hE9 H locs hP hD hS => ?_)
        have hP : va_P G vwCl (ww_M q cs v_told v_tell r8.2.1 r8.2.2 v_modOf (upd v_bitsOf v_sums.toNatClampNeg x1) (upd v_turnOf v_sums.toNatClampNeg x2) v_polyOf v_beginOf v_finishOf v_isLow v_weightsOf v_weight v_cell v_size v_row v_keptSize v_keptBefore v_keptAfter v_placeA v_placeB v_turned v_turnedMany v_syndromes v_lightest v_freeMany v_freePlace v_freeSyndrome v_ways v_waysKept v_trace v_comesA v_comesB) H := hP
        have hD : va_D A (ww_M q cs v_told v_tell r8.2.1 r8.2.2 v_modOf (upd v_bitsOf v_sums.toNatClampNeg x1) (upd v_turnOf v_sums.toNatClampNeg x2) v_polyOf v_beginOf v_finishOf v_isLow v_weightsOf v_weight v_cell v_size v_row v_keptSize v_keptBefore v_keptAfter v_placeA v_placeB v_turned v_turnedMany v_syndromes v_lightest v_freeMany v_freePlace v_freeSyndrome v_ways v_waysKept v_trace v_comesA v_comesB) := hD
        have hq := Option.some.inj hm
        subst hq; subst hQ
        exact k_iret hx hb hr hlocks hP hD hS rfl trivial dX12_turning_67
      · have hm := i_t b5 hm
        refine lv_bipush (v := (-6)) hx hb dX12_turning_39 (by decide) ?_
        have hq := Option.some.inj hm
        subst hq; subst hQ
        exact k_iret hx hb hr hlocks hP hD hS rfl trivial dX12_turning_41
    · have hm := i_t b4 hm
      refine lv_bipush (v := (-3)) hx hb dX12_turning_27 (by decide) ?_
      have hq := Option.some.inj hm
      subst hq; subst hQ
      exact k_iret hx hb hr hlocks hP hD hS rfl trivial dX12_turning_29

theorem hd_X12_divided : yX12_divided.cls ≠ "java/lang/invoke/MethodHandle" ∧ yX12_divided.cls ≠ "java/lang/invoke/VarHandle" ∧ (parseMethodDescriptor yX12_divided.desc).map (fun d => d.parameters.length) = some 6 := by decide +kernel

def M_X12_divided (x1 : Int32) (x2 : Int64) (x4 : Int64) (x6 : Int64) (x8 : Int32) (x9 : Int32) (v_sums : Int32) (v_kindOf : (Nat → Int32)) (v_bitsOf : (Nat → Int32)) (v_polyOf : (Nat → Int64)) (v_beginOf : (Nat → Int64)) (v_finishOf : (Nat → Int64)) (v_isLow : (Nat → Int32)) : Option (Int32 × Int32 × (Nat → Int32) × (Nat → Int32) × (Nat → Int64) × (Nat → Int64) × (Nat → Int64) × (Nat → Int32)) :=
  if (M_X12_in x1.toInt64 (3 : Int64) (32 : Int64)) = 0 then (some ((-3), v_sums, v_kindOf, v_bitsOf, v_polyOf, v_beginOf, v_finishOf, v_isLow)) else (if (M_X12_in x2 (0 : Int64) (((1 : Int64) <<< (x1.toInt64 &&& 63)) - 1)) = 0 then (some ((-3), v_sums, v_kindOf, v_bitsOf, v_polyOf, v_beginOf, v_finishOf, v_isLow)) else (if (M_X12_in x4 (0 : Int64) (((1 : Int64) <<< (x1.toInt64 &&& 63)) - 1)) = 0 then (some ((-3), v_sums, v_kindOf, v_bitsOf, v_polyOf, v_beginOf, v_finishOf, v_isLow)) else (if (M_X12_in x6 (0 : Int64) (((1 : Int64) <<< (x1.toInt64 &&& 63)) - 1)) = 0 then (some ((-3), v_sums, v_kindOf, v_bitsOf, v_polyOf, v_beginOf, v_finishOf, v_isLow)) else (if v_sums = 16 then (some ((-6), v_sums, v_kindOf, v_bitsOf, v_polyOf, v_beginOf, v_finishOf, v_isLow)) else (if v_sums < 0 ∨ 16 ≤ v_sums.toNatClampNeg then none else if v_sums < 0 ∨ 16 ≤ v_sums.toNatClampNeg then none else if v_sums < 0 ∨ 16 ≤ v_sums.toNatClampNeg then none else if v_sums < 0 ∨ 16 ≤ v_sums.toNatClampNeg then none else if v_sums < 0 ∨ 16 ≤ v_sums.toNatClampNeg then none else if x9 = 0 then ((M_X12_made (4 : Int32) v_sums v_kindOf).bind fun r16 => some (r16.1, r16.2.1, r16.2.2, (upd v_bitsOf v_sums.toNatClampNeg x1), (vp_updL v_polyOf v_sums.toNatClampNeg x2), (vp_updL v_beginOf v_sums.toNatClampNeg x4), (vp_updL v_finishOf v_sums.toNatClampNeg x6), (upd v_isLow v_sums.toNatClampNeg (vp_nar .boolean x8)))) else ((M_X12_made (5 : Int32) v_sums v_kindOf).bind fun r18 => some (r18.1, r18.2.1, r18.2.2, (upd v_bitsOf v_sums.toNatClampNeg x1), (vp_updL v_polyOf v_sums.toNatClampNeg x2), (vp_updL v_beginOf v_sums.toNatClampNeg x4), (vp_updL v_finishOf v_sums.toNatClampNeg x6), (upd v_isLow v_sums.toNatClampNeg (vp_nar .boolean x8)))))))))

abbrev rmX12_divided : Room := { frames := 1, cells := 0, slots := 0, locals := 25 }
set_option maxHeartbeats 4000000 in
set_option maxRecDepth 100000 in
theorem c_X12_divided (l : Launch) (G : va_G) (cs : CS) (q : Nat → Nat) (sz : Nat) (v_told : Int32) (v_tell : (Nat → Int32)) (v_sums : Int32) (v_kindOf : (Nat → Int32)) (v_modOf : (Nat → Int32)) (v_bitsOf : (Nat → Int32)) (v_turnOf : (Nat → Int32)) (v_polyOf : (Nat → Int64)) (v_beginOf : (Nat → Int64)) (v_finishOf : (Nat → Int64)) (v_isLow : (Nat → Int32)) (v_weightsOf : (Nat → Int32)) (v_weight : (Nat → Int32)) (v_cell : (Nat → Int32)) (v_size : Int32) (v_row : (Nat → Int32)) (v_keptSize : Int32) (v_keptBefore : (Nat → Int32)) (v_keptAfter : (Nat → Int32)) (v_placeA : (Nat → Int64)) (v_placeB : (Nat → Int64)) (v_turned : (Nat → Int32)) (v_turnedMany : Int32) (v_syndromes : (Nat → Int64)) (v_lightest : (Nat → Int32)) (v_freeMany : Int32) (v_freePlace : (Nat → Int32)) (v_freeSyndrome : (Nat → Int64)) (v_ways : (Nat → Int32)) (v_waysKept : Int32) (v_trace : (Nat → Int32)) (v_comesA : Int64) (v_comesB : Int64)   (x1 : Int32) (x2 : Int64) (x4 : Int64) (x6 : Int64) (x8 : Int32) (x9 : Int32) (res : (Int32 × Int32 × (Nat → Int32) × (Nat → Int32) × (Nat → Int64) × (Nat → Int64) × (Nat → Int64) × (Nat → Int32))) (hm : M_X12_divided x1 x2 x4 x6 x8 x9 v_sums v_kindOf v_bitsOf v_polyOf v_beginOf v_finishOf v_isLow = some res) : Met l yX12_divided wsX12_divided rmX12_divided (va_Pc [.ref (q 0), .int x1, .long x2, .long x4, .long x6, .int x8, .int x9] (PreW G cs sz (ww_M q cs v_told v_tell v_sums v_kindOf v_modOf v_bitsOf v_turnOf v_polyOf v_beginOf v_finishOf v_isLow v_weightsOf v_weight v_cell v_size v_row v_keptSize v_keptBefore v_keptAfter v_placeA v_placeB v_turned v_turnedMany v_syndromes v_lightest v_freeMany v_freePlace v_freeSyndrome v_ways v_waysKept v_trace v_comesA v_comesB) RN)) (QI G res.1 True (ww_M q cs v_told v_tell res.2.1 res.2.2.1 v_modOf res.2.2.2.1 v_turnOf res.2.2.2.2.1 res.2.2.2.2.2.1 res.2.2.2.2.2.2.1 res.2.2.2.2.2.2.2 v_weightsOf v_weight v_cell v_size v_row v_keptSize v_keptBefore v_keptAfter v_placeA v_placeB v_turned v_turnedMany v_syndromes v_lightest v_freeMany v_freePlace v_freeSyndrome v_ways v_waysKept v_trace v_comesA v_comesB) (va_A (ww_M q cs v_told v_tell v_sums v_kindOf v_modOf v_bitsOf v_turnOf v_polyOf v_beginOf v_finishOf v_isLow v_weightsOf v_weight v_cell v_size v_row v_keptSize v_keptBefore v_keptAfter v_placeA v_placeB v_turned v_turnedMany v_syndromes v_lightest v_freeMany v_freePlace v_freeSyndrome v_ways v_waysKept v_trace v_comesA v_comesB) sz)) 0 0 (va_A (ww_M q cs v_told v_tell v_sums v_kindOf v_modOf v_bitsOf v_turnOf v_polyOf v_beginOf v_finishOf v_isLow v_weightsOf v_weight v_cell v_size v_row v_keptSize v_keptBefore v_keptAfter v_placeA v_placeB v_turned v_turnedMany v_syndromes v_lightest v_freeMany v_freePlace v_freeSyndrome v_ways v_waysKept v_trace v_comesA v_comesB) sz) := by
  refine k_enter (Qf := fun A => QI G res.1 True (ww_M q cs v_told v_tell res.2.1 res.2.2.1 v_modOf res.2.2.2.1 v_turnOf res.2.2.2.2.1 res.2.2.2.2.2.1 res.2.2.2.2.2.2.1 res.2.2.2.2.2.2.2 v_weightsOf v_weight v_cell v_size v_row v_keptSize v_keptBefore v_keptAfter v_placeA v_placeB v_turned v_turnedMany v_syndromes v_lightest v_freeMany v_freePlace v_freeSyndrome v_ways v_waysKept v_trace v_comesA v_comesB) A) (cc := cX12_divided) (maxL := 12) (ret := (some .int)) (plainFor_of_name (by decide)) rfl (Nat.le_of_ble_eq_true rfl) ?_
  intro p e s m args below meth c A Q ls H locs hx hb hr hml hown hts hlocks hname hK hA hRo hP hD hS hQ hl
  have hl : lv_has ls 12 [(0, .ref (q 0)), (1, .int x1), (2, .long x2), (4, .long x4), (6, .long x6), (8, .int x8), (9, .int x9)] := hl
  have wd1 := hts (.constantLong RX12 115 (3)) (List.mem_of_getElem? (i := 1) rfl)
  have wd2 := hts (.constantLong RX12 113 (32)) (List.mem_of_getElem? (i := 2) rfl)
  have wd3 := hts (.fieldLink RX12 84 "SumSmithModel" "sums" "I") (List.mem_of_getElem? (i := 3) rfl)
  have wd4 := hts (.fieldLink RX12 19 "SumSmithModel" "bitsOf" "[I") (List.mem_of_getElem? (i := 4) rfl)
  have wd5 := hts (.fieldLink RX12 25 "SumSmithModel" "polyOf" "[J") (List.mem_of_getElem? (i := 5) rfl)
  have wd6 := hts (.fieldLink RX12 29 "SumSmithModel" "beginOf" "[J") (List.mem_of_getElem? (i := 6) rfl)
  have wd7 := hts (.fieldLink RX12 32 "SumSmithModel" "finishOf" "[J") (List.mem_of_getElem? (i := 7) rfl)
  have wd8 := hts (.fieldLink RX12 35 "SumSmithModel" "isLow" "[Z") (List.mem_of_getElem? (i := 8) rfl)
  have hinX12 : ∀ w ∈ wsX120, w ∈ wsX12_divided := fun w h => List.mem_cons_of_mem _ (List.mem_append_right _ h)
  unfold M_X12_divided at hm
  refine lv_iload_n hx hb dX12_divided_0 rfl (lv_at hl 1 rfl) ?_
  refine lv_i2l (v := x1.toInt64) hx hb dX12_divided_1 rfl ?_
  refine lv_ldc2 (own := RX12) (v := 3) hx hb hown wd1 dX12_divided_2 ?_
  refine lv_ldc2 (own := RX12) (v := 32) hx hb hown wd2 dX12_divided_5 ?_
  refine k_calli0 (va_runS (As := [.long x1.toInt64, .long 3, .long 32]) (rest := []) ⟨hx, hb, hml, hown, hts⟩ (c_X12_in l G cs H.size    x1.toInt64 (3 : Int64) (32 : Int64) _ rfl) (va_cwS 3 hts gX12_divided_X12_in rfl rfl rfl hd_X12_in ⟨Nat.le_of_ble_eq_true rfl, Nat.le_of_ble_eq_true rfl⟩) ⟨pre_blind, pre_w hK RO.nil P0 D0 (va_new0 hS hA)⟩ rfl rfl hl.1 rfl (lv_room (Nat.le_of_ble_eq_true rfl)) dX12_divided_8 ⟨Nat.zero_le _, Nat.zero_le _⟩) hP hS hA (fun hE1 H locs hP hS => ?_)
  refine lv_if_ne (tgt := 17) hx hb dX12_divided_11 (by decide) (fun b2 => ?_) (fun b2 => ?_)
  · have hm := i_f b2 hm
    refine lv_lconst (v := 1) hx hb dX12_divided_17 (by decide) ?_
    refine lv_iload_n hx hb dX12_divided_18 rfl (lv_at hl 1 rfl) ?_
    refine lv_lshl (v := (1 : Int64) <<< (x1.toInt64 &&& 63)) hx hb dX12_divided_19 rfl ?_
    refine lv_lconst (v := 1) hx hb dX12_divided_20 (by decide) ?_
    refine lv_lsub hx hb dX12_divided_21 ?_
    refine lv_lstore (lv' := [(10, .long (((1 : Int64) <<< (x1.toInt64 &&& 63)) - 1)), (0, .ref (q 0)), (1, .int x1), (2, .long x2), (4, .long x4), (6, .long x6), (8, .int x8), (9, .int x9)]) hx hb dX12_divided_22 hl (by decide) rfl (fun ls hl => ?_)
    refine lv_lload_n hx hb dX12_divided_24 rfl (lv_at hl 3 rfl) ?_
    refine lv_lconst (v := 0) hx hb dX12_divided_25 (by decide) ?_
    refine lv_lload hx hb dX12_divided_26 (lv_at hl 0 rfl) ?_
    refine k_calli0 (va_runS (As := [.long x2, .long 0, .long (((1 : Int64) <<< (x1.toInt64 &&& 63)) - 1)]) (rest := []) ⟨hx, hb, hml, hown, hts⟩ (c_X12_in l G cs H.size    x2 (0 : Int64) (((1 : Int64) <<< (x1.toInt64 &&& 63)) - 1) _ rfl) (va_cwS 3 hts gX12_divided_X12_in rfl rfl rfl hd_X12_in ⟨Nat.le_of_ble_eq_true rfl, Nat.le_of_ble_eq_true rfl⟩) ⟨pre_blind, pre_w hK RO.nil P0 D0 (va_new0 hS hA)⟩ rfl rfl hl.1 rfl (lv_room (Nat.le_of_ble_eq_true rfl)) dX12_divided_28 ⟨Nat.zero_le _, Nat.zero_le _⟩) hP hS hA (fun hE3 H locs hP hS => ?_)
    refine lv_if_eq (tgt := 56) hx hb dX12_divided_31 (by decide) (fun b4 => ?_) (fun b4 => ?_)
    · have hm := i_t b4 hm
      refine lv_bipush (v := (-3)) hx hb dX12_divided_56 (by decide) ?_
      have hq := Option.some.inj hm
      subst hq; subst hQ
      exact k_iret hx hb hr hlocks hP hD hS rfl trivial dX12_divided_58
    · have hm := i_f b4 hm
      refine lv_lload hx hb dX12_divided_34 (lv_at hl 4 rfl) ?_
      refine lv_lconst (v := 0) hx hb dX12_divided_36 (by decide) ?_
      refine lv_lload hx hb dX12_divided_37 (lv_at hl 0 rfl) ?_
      refine k_calli0 (va_runS (As := [.long x4, .long 0, .long (((1 : Int64) <<< (x1.toInt64 &&& 63)) - 1)]) (rest := []) ⟨hx, hb, hml, hown, hts⟩ (c_X12_in l G cs H.size    x4 (0 : Int64) (((1 : Int64) <<< (x1.toInt64 &&& 63)) - 1) _ rfl) (va_cwS 3 hts gX12_divided_X12_in rfl rfl rfl hd_X12_in ⟨Nat.le_of_ble_eq_true rfl, Nat.le_of_ble_eq_true rfl⟩) ⟨pre_blind, pre_w hK RO.nil P0 D0 (va_new0 hS hA)⟩ rfl rfl hl.1 rfl (lv_room (Nat.le_of_ble_eq_true rfl)) dX12_divided_39 ⟨Nat.zero_le _, Nat.zero_le _⟩) hP hS hA (fun hE5 H locs hP hS => ?_)
      refine lv_if_eq (tgt := 56) hx hb dX12_divided_42 (by decide) (fun b6 => ?_) (fun b6 => ?_)
      · have hm := i_t b6 hm
        refine lv_bipush (v := (-3)) hx hb dX12_divided_56 (by decide) ?_
        have hq := Option.some.inj hm
        subst hq; subst hQ
        exact k_iret hx hb hr hlocks hP hD hS rfl trivial dX12_divided_58
      · have hm := i_f b6 hm
        refine lv_lload hx hb dX12_divided_45 (lv_at hl 5 rfl) ?_
        refine lv_lconst (v := 0) hx hb dX12_divided_47 (by decide) ?_
        refine lv_lload hx hb dX12_divided_48 (lv_at hl 0 rfl) ?_
        refine k_calli0 (va_runS (As := [.long x6, .long 0, .long (((1 : Int64) <<< (x1.toInt64 &&& 63)) - 1)]) (rest := []) ⟨hx, hb, hml, hown, hts⟩ (c_X12_in l G cs H.size    x6 (0 : Int64) (((1 : Int64) <<< (x1.toInt64 &&& 63)) - 1) _ rfl) (va_cwS 3 hts gX12_divided_X12_in rfl rfl rfl hd_X12_in ⟨Nat.le_of_ble_eq_true rfl, Nat.le_of_ble_eq_true rfl⟩) ⟨pre_blind, pre_w hK RO.nil P0 D0 (va_new0 hS hA)⟩ rfl rfl hl.1 rfl (lv_room (Nat.le_of_ble_eq_true rfl)) dX12_divided_50 ⟨Nat.zero_le _, Nat.zero_le _⟩) hP hS hA (fun hE7 H locs hP hS => ?_)
        refine lv_if_ne (tgt := 59) hx hb dX12_divided_53 (by decide) (fun b8 => ?_) (fun b8 => ?_)
        · have hm := i_f b8 hm
          refine lv_aload_n hx hb dX12_divided_59 rfl (lv_at hl 1 rfl) ?_
          refine va_get (D := G) (ci := 10) (v := .int v_sums) (C := RX12) (T := TX12) (N := 33) hx hb hts hinX12 hown hK.1 hP 0 rfl rfl 2 (by decide) wd3 (fun _ h9 => h9) rfl dX12_divided_60 ?_
          refine lv_bipush (v := 16) hx hb dX12_divided_63 (by decide) ?_
          refine lv_icmp_ne (tgt := 71) hx hb dX12_divided_65 (by decide) (fun b9 => ?_) (fun b9 => ?_)
          · have hm := i_f b9 hm
            refine lv_aload_n hx hb dX12_divided_71 rfl (lv_at hl 1 rfl) ?_
            refine va_get (D := G) (ci := 10) (v := .ref (q 4)) (C := RX12) (T := TX12) (N := 33) hx hb hts hinX12 hown hK.1 hP 0 rfl rfl 5 (by decide) wd4 (fun _ h9 => h9) rfl dX12_divided_72 ?_
            refine lv_aload_n hx hb dX12_divided_75 rfl (lv_at hl 1 rfl) ?_
            refine va_get (D := G) (ci := 10) (v := .int v_sums) (C := RX12) (T := TX12) (N := 33) hx hb hts hinX12 hown hK.1 hP 0 rfl rfl 2 (by decide) wd3 (fun _ h9 => h9) rfl dX12_divided_76 ?_
            refine lv_iload_n hx hb dX12_divided_79 rfl (lv_at hl 2 rfl) ?_
            obtain ⟨h10, hm⟩ := g_in hm
            refine va_iast hx hb hK.1 hP hD hS 4 0 rfl rfl h10 dX12_divided_80 (fun H locs hP hD hS => ?_)
            have hP : va_P G vwCl (ww_M q cs v_told v_tell v_sums v_kindOf v_modOf (upd v_bitsOf v_sums.toNatClampNeg x1) v_turnOf v_polyOf v_beginOf v_finishOf v_isLow v_weightsOf v_weight v_cell v_size v_row v_keptSize v_keptBefore v_keptAfter v_placeA v_placeB v_turned v_turnedMany v_syndromes v_lightest v_freeMany v_freePlace v_freeSyndrome v_ways v_waysKept v_trace v_comesA v_comesB) H := hP
            have hD : va_D A (ww_M q cs v_told v_tell v_sums v_kindOf v_modOf (upd v_bitsOf v_sums.toNatClampNeg x1) v_turnOf v_polyOf v_beginOf v_finishOf v_isLow v_weightsOf v_weight v_cell v_size v_row v_keptSize v_keptBefore v_keptAfter v_placeA v_placeB v_turned v_turnedMany v_syndromes v_lightest v_freeMany v_freePlace v_freeSyndrome v_ways v_waysKept v_trace v_comesA v_comesB) := hD
            refine lv_aload_n hx hb dX12_divided_81 rfl (lv_at hl 1 rfl) ?_
            refine va_get (D := G) (ci := 10) (v := .ref (q 6)) (C := RX12) (T := TX12) (N := 33) hx hb hts hinX12 hown hK.1 hP 0 rfl rfl 7 (by decide) wd5 (fun _ h9 => h9) rfl dX12_divided_82 ?_
            refine lv_aload_n hx hb dX12_divided_85 rfl (lv_at hl 1 rfl) ?_
            refine va_get (D := G) (ci := 10) (v := .int v_sums) (C := RX12) (T := TX12) (N := 33) hx hb hts hinX12 hown hK.1 hP 0 rfl rfl 2 (by decide) wd3 (fun _ h9 => h9) rfl dX12_divided_86 ?_
            refine lv_lload_n hx hb dX12_divided_89 rfl (lv_at hl 3 rfl) ?_
            obtain ⟨h11, hm⟩ := g_in hm
            refine va_last hx hb hK.1 hP hD hS 6 1 rfl rfl h11 dX12_divided_90 (fun H locs hP hD hS => ?_)
            have hP : va_P G vwCl (ww_M q cs v_told v_tell v_sums v_kindOf v_modOf (upd v_bitsOf v_sums.toNatClampNeg x1) v_turnOf (vp_updL v_polyOf v_sums.toNatClampNeg x2) v_beginOf v_finishOf v_isLow v_weightsOf v_weight v_cell v_size v_row v_keptSize v_keptBefore v_keptAfter v_placeA v_placeB v_turned v_turnedMany v_syndromes v_lightest v_freeMany v_freePlace v_freeSyndrome v_ways v_waysKept v_trace v_comesA v_comesB) H := hP
            have hD : va_D A (ww_M q cs v_told v_tell v_sums v_kindOf v_modOf (upd v_bitsOf v_sums.toNatClampNeg x1) v_turnOf (vp_updL v_polyOf v_sums.toNatClampNeg x2) v_beginOf v_finishOf v_isLow v_weightsOf v_weight v_cell v_size v_row v_keptSize v_keptBefore v_keptAfter v_placeA v_placeB v_turned v_turnedMany v_syndromes v_lightest v_freeMany v_freePlace v_freeSyndrome v_ways v_waysKept v_trace v_comesA v_comesB) := hD
            refine lv_aload_n hx hb dX12_divided_91 rfl (lv_at hl 1 rfl) ?_
            refine va_get (D := G) (ci := 10) (v := .ref (q 7)) (C := RX12) (T := TX12) (N := 33) hx hb hts hinX12 hown hK.1 hP 0 rfl rfl 8 (by decide) wd6 (fun _ h9 => h9) rfl dX12_divided_92 ?_
            refine lv_aload_n hx hb dX12_divided_95 rfl (lv_at hl 1 rfl) ?_
            refine va_get (D := G) (ci := 10) (v := .int v_sums) (C := RX12) (T := TX12) (N := 33) hx hb hts hinX12 hown hK.1 hP 0 rfl rfl 2 (by decide) wd3 (fun _ h9 => h9) rfl dX12_divided_96 ?_
            refine lv_lload hx hb dX12_divided_99 (lv_at hl 4 rfl) ?_
            obtain ⟨h12, hm⟩ := g_in hm
            refine va_last hx hb hK.1 hP hD hS 7 1 rfl rfl h12 dX12_divided_101 (fun H locs hP hD hS => ?_)
            have hP : va_P G vwCl (ww_M q cs v_told v_tell v_sums v_kindOf v_modOf (upd v_bitsOf v_sums.toNatClampNeg x1) v_turnOf (vp_updL v_polyOf v_sums.toNatClampNeg x2) (vp_updL v_beginOf v_sums.toNatClampNeg x4) v_finishOf v_isLow v_weightsOf v_weight v_cell v_size v_row v_keptSize v_keptBefore v_keptAfter v_placeA v_placeB v_turned v_turnedMany v_syndromes v_lightest v_freeMany v_freePlace v_freeSyndrome v_ways v_waysKept v_trace v_comesA v_comesB) H := hP
            have hD : va_D A (ww_M q cs v_told v_tell v_sums v_kindOf v_modOf (upd v_bitsOf v_sums.toNatClampNeg x1) v_turnOf (vp_updL v_polyOf v_sums.toNatClampNeg x2) (vp_updL v_beginOf v_sums.toNatClampNeg x4) v_finishOf v_isLow v_weightsOf v_weight v_cell v_size v_row v_keptSize v_keptBefore v_keptAfter v_placeA v_placeB v_turned v_turnedMany v_syndromes v_lightest v_freeMany v_freePlace v_freeSyndrome v_ways v_waysKept v_trace v_comesA v_comesB) := hD
            refine lv_aload_n hx hb dX12_divided_102 rfl (lv_at hl 1 rfl) ?_
            refine va_get (D := G) (ci := 10) (v := .ref (q 8)) (C := RX12) (T := TX12) (N := 33) hx hb hts hinX12 hown hK.1 hP 0 rfl rfl 9 (by decide) wd7 (fun _ h9 => h9) rfl dX12_divided_103 ?_
            refine lv_aload_n hx hb dX12_divided_106 rfl (lv_at hl 1 rfl) ?_
            refine va_get (D := G) (ci := 10) (v := .int v_sums) (C := RX12) (T := TX12) (N := 33) hx hb hts hinX12 hown hK.1 hP 0 rfl rfl 2 (by decide) wd3 (fun _ h9 => h9) rfl dX12_divided_107 ?_
            refine lv_lload hx hb dX12_divided_110 (lv_at hl 5 rfl) ?_
            obtain ⟨h13, hm⟩ := g_in hm
            refine va_last hx hb hK.1 hP hD hS 8 1 rfl rfl h13 dX12_divided_112 (fun H locs hP hD hS => ?_)
            have hP : va_P G vwCl (ww_M q cs v_told v_tell v_sums v_kindOf v_modOf (upd v_bitsOf v_sums.toNatClampNeg x1) v_turnOf (vp_updL v_polyOf v_sums.toNatClampNeg x2) (vp_updL v_beginOf v_sums.toNatClampNeg x4) (vp_updL v_finishOf v_sums.toNatClampNeg x6) v_isLow v_weightsOf v_weight v_cell v_size v_row v_keptSize v_keptBefore v_keptAfter v_placeA v_placeB v_turned v_turnedMany v_syndromes v_lightest v_freeMany v_freePlace v_freeSyndrome v_ways v_waysKept v_trace v_comesA v_comesB) H := hP
            have hD : va_D A (ww_M q cs v_told v_tell v_sums v_kindOf v_modOf (upd v_bitsOf v_sums.toNatClampNeg x1) v_turnOf (vp_updL v_polyOf v_sums.toNatClampNeg x2) (vp_updL v_beginOf v_sums.toNatClampNeg x4) (vp_updL v_finishOf v_sums.toNatClampNeg x6) v_isLow v_weightsOf v_weight v_cell v_size v_row v_keptSize v_keptBefore v_keptAfter v_placeA v_placeB v_turned v_turnedMany v_syndromes v_lightest v_freeMany v_freePlace v_freeSyndrome v_ways v_waysKept v_trace v_comesA v_comesB) := hD
            refine lv_aload_n hx hb dX12_divided_113 rfl (lv_at hl 1 rfl) ?_
            refine va_get (D := G) (ci := 10) (v := .ref (q 9)) (C := RX12) (T := TX12) (N := 33) hx hb hts hinX12 hown hK.1 hP 0 rfl rfl 10 (by decide) wd8 (fun _ h9 => h9) rfl dX12_divided_114 ?_
            refine lv_aload_n hx hb dX12_divided_117 rfl (lv_at hl 1 rfl) ?_
            refine va_get (D := G) (ci := 10) (v := .int v_sums) (C := RX12) (T := TX12) (N := 33) hx hb hts hinX12 hown hK.1 hP 0 rfl rfl 2 (by decide) wd3 (fun _ h9 => h9) rfl dX12_divided_118 ?_
            refine lv_iload hx hb dX12_divided_121 (lv_at hl 6 rfl) ?_
            obtain ⟨h14, hm⟩ := g_in hm
            refine va_zast hx hb hK.1 hP hD hS 9 2 rfl rfl h14 dX12_divided_123 (fun H locs hP hD hS => ?_)
            have hP : va_P G vwCl (ww_M q cs v_told v_tell v_sums v_kindOf v_modOf (upd v_bitsOf v_sums.toNatClampNeg x1) v_turnOf (vp_updL v_polyOf v_sums.toNatClampNeg x2) (vp_updL v_beginOf v_sums.toNatClampNeg x4) (vp_updL v_finishOf v_sums.toNatClampNeg x6) (upd v_isLow v_sums.toNatClampNeg (vp_nar .boolean x8)) v_weightsOf v_weight v_cell v_size v_row v_keptSize v_keptBefore v_keptAfter v_placeA v_placeB v_turned v_turnedMany v_syndromes v_lightest v_freeMany v_freePlace v_freeSyndrome v_ways v_waysKept v_trace v_comesA v_comesB) H := hP
            have hD : va_D A (ww_M q cs v_told v_tell v_sums v_kindOf v_modOf (upd v_bitsOf v_sums.toNatClampNeg x1) v_turnOf (vp_updL v_polyOf v_sums.toNatClampNeg x2) (vp_updL v_beginOf v_sums.toNatClampNeg x4) (vp_updL v_finishOf v_sums.toNatClampNeg x6) (upd v_isLow v_sums.toNatClampNeg (vp_nar .boolean x8)) v_weightsOf v_weight v_cell v_size v_row v_keptSize v_keptBefore v_keptAfter v_placeA v_placeB v_turned v_turnedMany v_syndromes v_lightest v_freeMany v_freePlace v_freeSyndrome v_ways v_waysKept v_trace v_comesA v_comesB) := hD
            refine lv_aload_n hx hb dX12_divided_124 rfl (lv_at hl 1 rfl) ?_
            refine lv_iload hx hb dX12_divided_125 (lv_at hl 7 rfl) ?_
            refine lv_if_eq (tgt := 134) hx hb dX12_divided_127 (by decide) (fun b15 => ?_) (fun b15 => ?_)
            · have hm := i_t b15 hm
              refine lv_iconst (v := 4) hx hb dX12_divided_134 (by decide) ?_
              obtain ⟨r16, hc_r16, hm⟩ := bs hm
              refine k_calli (va_runV (As := [.int 4]) (rest := []) ⟨hx, hb, hml, hown, hts⟩ (c_X12_made l G cs q H.size v_told v_tell v_sums v_kindOf v_modOf (upd v_bitsOf v_sums.toNatClampNeg x1) v_turnOf (vp_updL v_polyOf v_sums.toNatClampNeg x2) (vp_updL v_beginOf v_sums.toNatClampNeg x4) (vp_updL v_finishOf v_sums.toNatClampNeg x6) (upd v_isLow v_sums.toNatClampNeg (vp_nar .boolean x8)) v_weightsOf v_weight v_cell v_size v_row v_keptSize v_keptBefore v_keptAfter v_placeA v_placeB v_turned v_turnedMany v_syndromes v_lightest v_freeMany v_freePlace v_freeSyndrome v_ways v_waysKept v_trace v_comesA v_comesB   (4 : Int32) r16 hc_r16) (cwV 1 hts gX12_divided_X12_made rfl rfl rfl ⟨rfl, hd_X12_made⟩ ⟨Nat.le_of_ble_eq_true rfl, Nat.le_of_ble_eq_true rfl⟩) ⟨pre_blind, va_recv hK.1 hP (ci := 10) (q0 := 0) rfl rfl, pre_w hK RO.nil hP hD (va_all hD hS hA)⟩ rfl rfl hl.1 rfl (lv_room (Nat.le_of_ble_eq_true rfl)) dX12_divided_135 ⟨Nat.zero_le _, Nat.zero_le _⟩) hS (va_all hD hS hA) (fun hE17 H locs hP hD hS => ?_)
              have hP : va_P G vwCl (ww_M q cs v_told v_tell r16.2.1 r16.2.2 v_modOf (upd v_bitsOf v_sums.toNatClampNeg x1) v_turnOf (vp_updL v_polyOf v_sums.toNatClampNeg x2) (vp_updL v_beginOf v_sums.toNatClampNeg x4) (vp_updL v_finishOf v_sums.toNatClampNeg x6) (upd v_isLow v_sums.toNatClampNeg (vp_nar .boolean x8)) v_weightsOf v_weight v_cell v_size v_row v_keptSize v_keptBefore v_keptAfter v_placeA v_placeB v_turned v_turnedMany v_syndromes v_lightest v_freeMany v_freePlace v_freeSyndrome v_ways v_waysKept v_trace v_comesA v_comesB) H := hP
              have hD : va_D A (ww_M q cs v_told v_tell r16.2.1 r16.2.2 v_modOf (upd v_bitsOf v_sums.toNatClampNeg x1) v_turnOf (vp_updL v_polyOf v_sums.toNatClampNeg x2) (vp_updL v_beginOf v_sums.toNatClampNeg x4) (vp_updL v_finishOf v_sums.toNatClampNeg x6) (upd v_isLow v_sums.toNatClampNeg (vp_nar .boolean x8)) v_weightsOf v_weight v_cell v_size v_row v_keptSize v_keptBefore v_keptAfter v_placeA v_placeB v_turned v_turnedMany v_syndromes v_lightest v_freeMany v_freePlace v_freeSyndrome v_ways v_waysKept v_trace v_comesA v_comesB) := hD
              have hq := Option.some.inj hm
              subst hq; subst hQ
              exact k_iret hx hb hr hlocks hP hD hS rfl trivial dX12_divided_138
            · have hm := i_f b15 hm
              refine lv_iconst (v := 5) hx hb dX12_divided_130 (by decide) ?_
              refine lv_goto (tgt := 135) hx hb dX12_divided_131 (by decide) ?_
              obtain ⟨r18, hc_r18, hm⟩ := bs hm
              refine k_calli (va_runV (As := [.int 5]) (rest := []) ⟨hx, hb, hml, hown, hts⟩ (c_X12_made l G cs q H.size v_told v_tell v_sums v_kindOf v_modOf (upd v_bitsOf v_sums.toNatClampNeg x1) v_turnOf (vp_updL v_polyOf v_sums.toNatClampNeg x2) (vp_updL v_beginOf v_sums.toNatClampNeg x4) (vp_updL v_finishOf v_sums.toNatClampNeg x6) (upd v_isLow v_sums.toNatClampNeg (vp_nar .boolean x8)) v_weightsOf v_weight v_cell v_size v_row v_keptSize v_keptBefore v_keptAfter v_placeA v_placeB v_turned v_turnedMany v_syndromes v_lightest v_freeMany v_freePlace v_freeSyndrome v_ways v_waysKept v_trace v_comesA v_comesB   (5 : Int32) r18 hc_r18) (cwV 1 hts gX12_divided_X12_made rfl rfl rfl ⟨rfl, hd_X12_made⟩ ⟨Nat.le_of_ble_eq_true rfl, Nat.le_of_ble_eq_true rfl⟩) ⟨pre_blind, va_recv hK.1 hP (ci := 10) (q0 := 0) rfl rfl, pre_w hK RO.nil hP hD (va_all hD hS hA)⟩ rfl rfl hl.1 rfl (lv_room (Nat.le_of_ble_eq_true rfl)) dX12_divided_135 ⟨Nat.zero_le _, Nat.zero_le _⟩) hS (va_all hD hS hA) (fun hE19 H locs hP hD hS => ?_)
              have hP : va_P G vwCl (ww_M q cs v_told v_tell r18.2.1 r18.2.2 v_modOf (upd v_bitsOf v_sums.toNatClampNeg x1) v_turnOf (vp_updL v_polyOf v_sums.toNatClampNeg x2) (vp_updL v_beginOf v_sums.toNatClampNeg x4) (vp_updL v_finishOf v_sums.toNatClampNeg x6) (upd v_isLow v_sums.toNatClampNeg (vp_nar .boolean x8)) v_weightsOf v_weight v_cell v_size v_row v_keptSize v_keptBefore v_keptAfter v_placeA v_placeB v_turned v_turnedMany v_syndromes v_lightest v_freeMany v_freePlace v_freeSyndrome v_ways v_waysKept v_trace v_comesA v_comesB) H := hP
              have hD : va_D A (ww_M q cs v_told v_tell r18.2.1 r18.2.2 v_modOf (upd v_bitsOf v_sums.toNatClampNeg x1) v_turnOf (vp_updL v_polyOf v_sums.toNatClampNeg x2) (vp_updL v_beginOf v_sums.toNatClampNeg x4) (vp_updL v_finishOf v_sums.toNatClampNeg x6) (upd v_isLow v_sums.toNatClampNeg (vp_nar .boolean x8)) v_weightsOf v_weight v_cell v_size v_row v_keptSize v_keptBefore v_keptAfter v_placeA v_placeB v_turned v_turnedMany v_syndromes v_lightest v_freeMany v_freePlace v_freeSyndrome v_ways v_waysKept v_trace v_comesA v_comesB) := hD
              have hq := Option.some.inj hm
              subst hq; subst hQ
              exact k_iret hx hb hr hlocks hP hD hS rfl trivial dX12_divided_138
          · have hm := i_t b9 hm
            refine lv_bipush (v := (-6)) hx hb dX12_divided_68 (by decide) ?_
            have hq := Option.some.inj hm
            subst hq; subst hQ
            exact k_iret hx hb hr hlocks hP hD hS rfl trivial dX12_divided_70
        · have hm := i_t b8 hm
          refine lv_bipush (v := (-3)) hx hb dX12_divided_56 (by decide) ?_
          have hq := Option.some.inj hm
          subst hq; subst hQ
          exact k_iret hx hb hr hlocks hP hD hS rfl trivial dX12_divided_58
  · have hm := i_t b2 hm
    refine lv_bipush (v := (-3)) hx hb dX12_divided_14 (by decide) ?_
    have hq := Option.some.inj hm
    subst hq; subst hQ
    exact k_iret hx hb hr hlocks hP hD hS rfl trivial dX12_divided_16

theorem hd_X12_square : yX12_square.cls ≠ "java/lang/invoke/MethodHandle" ∧ yX12_square.cls ≠ "java/lang/invoke/VarHandle" ∧ (parseMethodDescriptor yX12_square.desc).map (fun d => d.parameters.length) = some 1 := by decide +kernel

def M_X12_square_b35 (n : Nat) (x1 : Int32) (v_told : Int32) (v_tell : (Nat → Int32)) (x2 : Int32) (x3 : Int32) : Option ((Int32 × Int32) ⊕ Int32) :=
  if v_told ≤ x3 then (some (.inr x2)) else (if x2 = 0 then (some (.inl (0, x3 + 1))) else (if x3 < 0 ∨ 100 ≤ x3.toNatClampNeg then none else if x1 ≤ (v_tell x3.toNatClampNeg) then (some (.inl (0, x3 + 1))) else (some (.inl (1, x3 + 1)))))

def M_X12_square_b90 (n : Nat) (v_told : Int32) (v_tell : (Nat → Int32)) (v_sums : Int32) (x3 : Int32) (v_cell : (Nat → Int32)) : Option ((Int32 × (Nat → Int32)) ⊕ (Nat → Int32)) :=
  if v_told ≤ x3 then (some (.inr v_cell)) else (if x3 < 0 ∨ 100 ≤ x3.toNatClampNeg then none else if ((100 * v_sums) + x3) < 0 ∨ 1600 ≤ ((100 * v_sums) + x3).toNatClampNeg then none else some (.inl (x3 + 1, (upd v_cell ((100 * v_sums) + x3).toNatClampNeg (v_tell x3.toNatClampNeg)))))

def M_X12_square (n : Nat) (x1 : Int32) (v_told : Int32) (v_tell : (Nat → Int32)) (v_sums : Int32) (v_kindOf : (Nat → Int32)) (v_modOf : (Nat → Int32)) (v_cell : (Nat → Int32)) : Option (Int32 × Int32 × Int32 × (Nat → Int32) × (Nat → Int32) × (Nat → Int32)) :=
  if (M_X12_in x1.toInt64 (2 : Int64) (10 : Int64)) = 0 then (some ((-3), v_told, v_sums, v_kindOf, v_modOf, v_cell)) else (if v_told = (x1 * x1) then ((lp (fun x : (Int32 × Int32) => M_X12_square_b35 n x1 v_told v_tell x.1 x.2) n ((1 : Int32), (0 : Int32))).bind fun o18 => if o18 = 0 then (some ((-5), v_told, v_sums, v_kindOf, v_modOf, v_cell)) else (if v_sums = 16 then (some ((-6), v_told, v_sums, v_kindOf, v_modOf, v_cell)) else ((lp (fun x : (Int32 × (Nat → Int32)) => M_X12_square_b90 n v_told v_tell v_sums x.1 x.2) n ((0 : Int32), v_cell)).bind fun o21 => if v_sums < 0 ∨ 16 ≤ v_sums.toNatClampNeg then none else (M_X12_made (6 : Int32) v_sums v_kindOf).bind fun r23 => some (r23.1, 0, r23.2.1, r23.2.2, (upd v_modOf v_sums.toNatClampNeg x1), o21)))) else ((lp (fun x : (Int32 × Int32) => M_X12_square_b35 n x1 v_told v_tell x.1 x.2) n ((0 : Int32), (0 : Int32))).bind fun o8 => if o8 = 0 then (some ((-5), v_told, v_sums, v_kindOf, v_modOf, v_cell)) else (if v_sums = 16 then (some ((-6), v_told, v_sums, v_kindOf, v_modOf, v_cell)) else ((lp (fun x : (Int32 × (Nat → Int32)) => M_X12_square_b90 n v_told v_tell v_sums x.1 x.2) n ((0 : Int32), v_cell)).bind fun o14 => if v_sums < 0 ∨ 16 ≤ v_sums.toNatClampNeg then none else (M_X12_made (6 : Int32) v_sums v_kindOf).bind fun r16 => some (r16.1, 0, r16.2.1, r16.2.2, (upd v_modOf v_sums.toNatClampNeg x1), o14)))))

abbrev rmX12_square : Room := { frames := 1, cells := 0, slots := 0, locals := 25 }
set_option maxHeartbeats 4000000 in
set_option maxRecDepth 100000 in
theorem c_X12_square (l : Launch) (G : va_G) (cs : CS) (q : Nat → Nat) (sz : Nat) (v_told : Int32) (v_tell : (Nat → Int32)) (v_sums : Int32) (v_kindOf : (Nat → Int32)) (v_modOf : (Nat → Int32)) (v_bitsOf : (Nat → Int32)) (v_turnOf : (Nat → Int32)) (v_polyOf : (Nat → Int64)) (v_beginOf : (Nat → Int64)) (v_finishOf : (Nat → Int64)) (v_isLow : (Nat → Int32)) (v_weightsOf : (Nat → Int32)) (v_weight : (Nat → Int32)) (v_cell : (Nat → Int32)) (v_size : Int32) (v_row : (Nat → Int32)) (v_keptSize : Int32) (v_keptBefore : (Nat → Int32)) (v_keptAfter : (Nat → Int32)) (v_placeA : (Nat → Int64)) (v_placeB : (Nat → Int64)) (v_turned : (Nat → Int32)) (v_turnedMany : Int32) (v_syndromes : (Nat → Int64)) (v_lightest : (Nat → Int32)) (v_freeMany : Int32) (v_freePlace : (Nat → Int32)) (v_freeSyndrome : (Nat → Int64)) (v_ways : (Nat → Int32)) (v_waysKept : Int32) (v_trace : (Nat → Int32)) (v_comesA : Int64) (v_comesB : Int64)   (x1 : Int32) (n : Nat) (res : (Int32 × Int32 × Int32 × (Nat → Int32) × (Nat → Int32) × (Nat → Int32))) (hm : M_X12_square n x1 v_told v_tell v_sums v_kindOf v_modOf v_cell = some res) : Met l yX12_square wsX12_square rmX12_square (va_Pc [.ref (q 0), .int x1] (PreW G cs sz (ww_M q cs v_told v_tell v_sums v_kindOf v_modOf v_bitsOf v_turnOf v_polyOf v_beginOf v_finishOf v_isLow v_weightsOf v_weight v_cell v_size v_row v_keptSize v_keptBefore v_keptAfter v_placeA v_placeB v_turned v_turnedMany v_syndromes v_lightest v_freeMany v_freePlace v_freeSyndrome v_ways v_waysKept v_trace v_comesA v_comesB) RN)) (QI G res.1 True (ww_M q cs res.2.1 v_tell res.2.2.1 res.2.2.2.1 res.2.2.2.2.1 v_bitsOf v_turnOf v_polyOf v_beginOf v_finishOf v_isLow v_weightsOf v_weight res.2.2.2.2.2 v_size v_row v_keptSize v_keptBefore v_keptAfter v_placeA v_placeB v_turned v_turnedMany v_syndromes v_lightest v_freeMany v_freePlace v_freeSyndrome v_ways v_waysKept v_trace v_comesA v_comesB) (va_A (ww_M q cs v_told v_tell v_sums v_kindOf v_modOf v_bitsOf v_turnOf v_polyOf v_beginOf v_finishOf v_isLow v_weightsOf v_weight v_cell v_size v_row v_keptSize v_keptBefore v_keptAfter v_placeA v_placeB v_turned v_turnedMany v_syndromes v_lightest v_freeMany v_freePlace v_freeSyndrome v_ways v_waysKept v_trace v_comesA v_comesB) sz)) 0 0 (va_A (ww_M q cs v_told v_tell v_sums v_kindOf v_modOf v_bitsOf v_turnOf v_polyOf v_beginOf v_finishOf v_isLow v_weightsOf v_weight v_cell v_size v_row v_keptSize v_keptBefore v_keptAfter v_placeA v_placeB v_turned v_turnedMany v_syndromes v_lightest v_freeMany v_freePlace v_freeSyndrome v_ways v_waysKept v_trace v_comesA v_comesB) sz) := by
  refine k_enter (Qf := fun A => QI G res.1 True (ww_M q cs res.2.1 v_tell res.2.2.1 res.2.2.2.1 res.2.2.2.2.1 v_bitsOf v_turnOf v_polyOf v_beginOf v_finishOf v_isLow v_weightsOf v_weight res.2.2.2.2.2 v_size v_row v_keptSize v_keptBefore v_keptAfter v_placeA v_placeB v_turned v_turnedMany v_syndromes v_lightest v_freeMany v_freePlace v_freeSyndrome v_ways v_waysKept v_trace v_comesA v_comesB) A) (cc := cX12_square) (maxL := 4) (ret := (some .int)) (plainFor_of_name (by decide)) rfl (Nat.le_of_ble_eq_true rfl) ?_
  intro p e s m args below meth c A Q ls H locs hx hb hr hml hown hts hlocks hname hK hA hRo hP hD hS hQ hl
  have hl : lv_has ls 4 [(0, .ref (q 0)), (1, .int x1)] := hl
  have wd1 := hts (.constantLong RX12 97 (2)) (List.mem_of_getElem? (i := 1) rfl)
  have wd2 := hts (.constantLong RX12 117 (10)) (List.mem_of_getElem? (i := 2) rfl)
  have wd3 := hts (.fieldLink RX12 94 "SumSmithModel" "told" "I") (List.mem_of_getElem? (i := 3) rfl)
  have wd4 := hts (.fieldLink RX12 7 "SumSmithModel" "tell" "[I") (List.mem_of_getElem? (i := 4) rfl)
  have wd5 := hts (.fieldLink RX12 84 "SumSmithModel" "sums" "I") (List.mem_of_getElem? (i := 5) rfl)
  have wd6 := hts (.fieldLink RX12 45 "SumSmithModel" "cell" "[I") (List.mem_of_getElem? (i := 6) rfl)
  have wd7 := hts (.fieldLink RX12 16 "SumSmithModel" "modOf" "[I") (List.mem_of_getElem? (i := 7) rfl)
  have hinX12 : ∀ w ∈ wsX120, w ∈ wsX12_square := fun w h => List.mem_cons_of_mem _ (List.mem_append_right _ h)
  have L35 : ∀ (x1 : Int32) (x2 : Int32) (x3 : Int32) (v_told : Int32) (v_sums : Int32) (v_kindOf : (Nat → Int32)) (v_modOf : (Nat → Int32)) (v_cell : (Nat → Int32)) (out : Int32), lp (fun x : (Int32 × Int32) => M_X12_square_b35 n x1 v_told v_tell x.1 x.2) n (x2, x3) = some out → (∀ (o : Int32), out = o → ∀ (H : Heap) (locs : List Loc), va_P G vwCl (ww_M q cs v_told v_tell v_sums v_kindOf v_modOf v_bitsOf v_turnOf v_polyOf v_beginOf v_finishOf v_isLow v_weightsOf v_weight v_cell v_size v_row v_keptSize v_keptBefore v_keptAfter v_placeA v_placeB v_turned v_turnedMany v_syndromes v_lightest v_freeMany v_freePlace v_freeSyndrome v_ways v_waysKept v_trace v_comesA v_comesB) H → va_D A (ww_M q cs v_told v_tell v_sums v_kindOf v_modOf v_bitsOf v_turnOf v_polyOf v_beginOf v_finishOf v_isLow v_weightsOf v_weight v_cell v_size v_row v_keptSize v_keptBefore v_keptAfter v_placeA v_placeB v_turned v_turnedMany v_syndromes v_lightest v_freeMany v_freePlace v_freeSyndrome v_ways v_waysKept v_trace v_comesA v_comesB) → va_S A s.heap H locs → ∀ (ls : Array Slot), lv_has ls 4 [(0, .ref (q 0)), (1, .int x1), (2, .int o)] → W p l e rmX12_square s m args below meth c H locs 0 0 Q (F0 m 69 ls [])) → ∀ (H : Heap) (locs : List Loc), va_P G vwCl (ww_M q cs v_told v_tell v_sums v_kindOf v_modOf v_bitsOf v_turnOf v_polyOf v_beginOf v_finishOf v_isLow v_weightsOf v_weight v_cell v_size v_row v_keptSize v_keptBefore v_keptAfter v_placeA v_placeB v_turned v_turnedMany v_syndromes v_lightest v_freeMany v_freePlace v_freeSyndrome v_ways v_waysKept v_trace v_comesA v_comesB) H → va_D A (ww_M q cs v_told v_tell v_sums v_kindOf v_modOf v_bitsOf v_turnOf v_polyOf v_beginOf v_finishOf v_isLow v_weightsOf v_weight v_cell v_size v_row v_keptSize v_keptBefore v_keptAfter v_placeA v_placeB v_turned v_turnedMany v_syndromes v_lightest v_freeMany v_freePlace v_freeSyndrome v_ways v_waysKept v_trace v_comesA v_comesB) → va_S A s.heap H locs → ∀ (ls : Array Slot), lv_has ls 4 [(0, .ref (q 0)), (1, .int x1), (2, .int x2), (3, .int x3)] → W p l e rmX12_square s m args below meth c H locs 0 0 Q (F0 m 35 ls []) := by
    intro x1 x2 x3 v_told v_sums v_kindOf v_modOf v_cell out hlp hX
    refine lp_ind (fun x => ∀ (H : Heap) (locs : List Loc), va_P G vwCl (ww_M q cs v_told v_tell v_sums v_kindOf v_modOf v_bitsOf v_turnOf v_polyOf v_beginOf v_finishOf v_isLow v_weightsOf v_weight v_cell v_size v_row v_keptSize v_keptBefore v_keptAfter v_placeA v_placeB v_turned v_turnedMany v_syndromes v_lightest v_freeMany v_freePlace v_freeSyndrome v_ways v_waysKept v_trace v_comesA v_comesB) H → va_D A (ww_M q cs v_told v_tell v_sums v_kindOf v_modOf v_bitsOf v_turnOf v_polyOf v_beginOf v_finishOf v_isLow v_weightsOf v_weight v_cell v_size v_row v_keptSize v_keptBefore v_keptAfter v_placeA v_placeB v_turned v_turnedMany v_syndromes v_lightest v_freeMany v_freePlace v_freeSyndrome v_ways v_waysKept v_trace v_comesA v_comesB) → va_S A s.heap H locs → ∀ (ls : Array Slot), lv_has ls 4 [(0, .ref (q 0)), (1, .int x1), (2, .int x.1), (3, .int x.2)] → W p l e rmX12_square s m args below meth c H locs 0 0 Q (F0 m 35 ls [])) ?_ n (x2, x3) hlp
    clear hlp hP hD hS hl
    rintro ⟨x2, x3⟩ ob hm hst H locs hP hD hS ls hl
    have hm : M_X12_square_b35 n x1 v_told v_tell x2 x3 = some ob := hm
    have hl : lv_has ls 4 [(0, .ref (q 0)), (1, .int x1), (2, .int x2), (3, .int x3)] := hl
    have hP : va_P G vwCl (ww_M q cs v_told v_tell v_sums v_kindOf v_modOf v_bitsOf v_turnOf v_polyOf v_beginOf v_finishOf v_isLow v_weightsOf v_weight v_cell v_size v_row v_keptSize v_keptBefore v_keptAfter v_placeA v_placeB v_turned v_turnedMany v_syndromes v_lightest v_freeMany v_freePlace v_freeSyndrome v_ways v_waysKept v_trace v_comesA v_comesB) H := hP
    have hD : va_D A (ww_M q cs v_told v_tell v_sums v_kindOf v_modOf v_bitsOf v_turnOf v_polyOf v_beginOf v_finishOf v_isLow v_weightsOf v_weight v_cell v_size v_row v_keptSize v_keptBefore v_keptAfter v_placeA v_placeB v_turned v_turnedMany v_syndromes v_lightest v_freeMany v_freePlace v_freeSyndrome v_ways v_waysKept v_trace v_comesA v_comesB) := hD
    unfold M_X12_square_b35 at hm
    refine lv_iload_n hx hb dX12_square_35 rfl (lv_at hl 3 rfl) ?_
    refine lv_aload_n hx hb dX12_square_36 rfl (lv_at hl 0 rfl) ?_
    refine va_get (D := G) (ci := 10) (v := .int v_told) (C := RX12) (T := TX12) (N := 33) hx hb hts hinX12 hown hK.1 hP 0 rfl rfl 0 (by decide) wd3 (fun _ h9 => h9) rfl dX12_square_37 ?_
    refine lv_icmp_ge (tgt := 69) hx hb dX12_square_40 (by decide) (fun b4 => ?_) (fun b4 => ?_)
    · have hm := i_t b4 hm
      exact hX _ (st_exit hm hst) H locs hP hD hS ls (lv_sub hl [0, 1, 2] rfl)
    · have hm := i_f b4 hm
      refine lv_iload_n hx hb dX12_square_43 rfl (lv_at hl 2 rfl) ?_
      refine lv_if_eq (tgt := 61) hx hb dX12_square_44 (by decide) (fun b5 => ?_) (fun b5 => ?_)
      · have hm := i_t b5 hm
        refine lv_iconst (v := 0) hx hb dX12_square_61 (by decide) ?_
        refine lv_istore_n (lv' := [(2, .int 0), (0, .ref (q 0)), (1, .int x1), (3, .int x3)]) hx hb dX12_square_62 rfl hl (by decide) rfl (fun ls hl => ?_)
        refine lv_iinc (v := x3 + 1) (lv' := [(3, .int (x3 + 1)), (2, .int 0), (0, .ref (q 0)), (1, .int x1)]) hx hb dX12_square_63 hl (k := 3) rfl rfl (by decide) rfl (fun ls hl => ?_)
        refine lv_goto (tgt := 35) hx hb dX12_square_66 (by decide) ?_
        exact st_next hm hst H locs hP hD hS ls (lv_sub hl [2, 3, 1, 0] rfl)
      · have hm := i_f b5 hm
        refine lv_aload_n hx hb dX12_square_47 rfl (lv_at hl 0 rfl) ?_
        refine va_get (D := G) (ci := 10) (v := .ref (q 1)) (C := RX12) (T := TX12) (N := 33) hx hb hts hinX12 hown hK.1 hP 0 rfl rfl 1 (by decide) wd4 (fun _ h9 => h9) rfl dX12_square_48 ?_
        refine lv_iload_n hx hb dX12_square_51 rfl (lv_at hl 3 rfl) ?_
        obtain ⟨h6, hm⟩ := g_in hm
        refine va_iald hx hb hK.1 hP 1 0 rfl rfl h6 dX12_square_52 ?_
        refine lv_iload_n hx hb dX12_square_53 rfl (lv_at hl 1 rfl) ?_
        refine lv_icmp_ge (tgt := 61) hx hb dX12_square_54 (by decide) (fun b7 => ?_) (fun b7 => ?_)
        · have hm := i_t b7 hm
          refine lv_iconst (v := 0) hx hb dX12_square_61 (by decide) ?_
          refine lv_istore_n (lv' := [(2, .int 0), (0, .ref (q 0)), (1, .int x1), (3, .int x3)]) hx hb dX12_square_62 rfl hl (by decide) rfl (fun ls hl => ?_)
          refine lv_iinc (v := x3 + 1) (lv' := [(3, .int (x3 + 1)), (2, .int 0), (0, .ref (q 0)), (1, .int x1)]) hx hb dX12_square_63 hl (k := 3) rfl rfl (by decide) rfl (fun ls hl => ?_)
          refine lv_goto (tgt := 35) hx hb dX12_square_66 (by decide) ?_
          exact st_next hm hst H locs hP hD hS ls (lv_sub hl [2, 3, 1, 0] rfl)
        · have hm := i_f b7 hm
          refine lv_iconst (v := 1) hx hb dX12_square_57 (by decide) ?_
          refine lv_goto (tgt := 62) hx hb dX12_square_58 (by decide) ?_
          refine lv_istore_n (lv' := [(2, .int 1), (0, .ref (q 0)), (1, .int x1), (3, .int x3)]) hx hb dX12_square_62 rfl hl (by decide) rfl (fun ls hl => ?_)
          refine lv_iinc (v := x3 + 1) (lv' := [(3, .int (x3 + 1)), (2, .int 1), (0, .ref (q 0)), (1, .int x1)]) hx hb dX12_square_63 hl (k := 3) rfl rfl (by decide) rfl (fun ls hl => ?_)
          refine lv_goto (tgt := 35) hx hb dX12_square_66 (by decide) ?_
          exact st_next hm hst H locs hP hD hS ls (lv_sub hl [2, 3, 1, 0] rfl)
  have L90 : ∀ (x1 : Int32) (x3 : Int32) (v_told : Int32) (v_sums : Int32) (v_kindOf : (Nat → Int32)) (v_modOf : (Nat → Int32)) (v_cell : (Nat → Int32)) (out : (Nat → Int32)), lp (fun x : (Int32 × (Nat → Int32)) => M_X12_square_b90 n v_told v_tell v_sums x.1 x.2) n (x3, v_cell) = some out → (∀ (o : (Nat → Int32)), out = o → ∀ (H : Heap) (locs : List Loc), va_P G vwCl (ww_M q cs v_told v_tell v_sums v_kindOf v_modOf v_bitsOf v_turnOf v_polyOf v_beginOf v_finishOf v_isLow v_weightsOf v_weight o v_size v_row v_keptSize v_keptBefore v_keptAfter v_placeA v_placeB v_turned v_turnedMany v_syndromes v_lightest v_freeMany v_freePlace v_freeSyndrome v_ways v_waysKept v_trace v_comesA v_comesB) H → va_D A (ww_M q cs v_told v_tell v_sums v_kindOf v_modOf v_bitsOf v_turnOf v_polyOf v_beginOf v_finishOf v_isLow v_weightsOf v_weight o v_size v_row v_keptSize v_keptBefore v_keptAfter v_placeA v_placeB v_turned v_turnedMany v_syndromes v_lightest v_freeMany v_freePlace v_freeSyndrome v_ways v_waysKept v_trace v_comesA v_comesB) → va_S A s.heap H locs → ∀ (ls : Array Slot), lv_has ls 4 [(0, .ref (q 0)), (1, .int x1)] → W p l e rmX12_square s m args below meth c H locs 0 0 Q (F0 m 124 ls [])) → ∀ (H : Heap) (locs : List Loc), va_P G vwCl (ww_M q cs v_told v_tell v_sums v_kindOf v_modOf v_bitsOf v_turnOf v_polyOf v_beginOf v_finishOf v_isLow v_weightsOf v_weight v_cell v_size v_row v_keptSize v_keptBefore v_keptAfter v_placeA v_placeB v_turned v_turnedMany v_syndromes v_lightest v_freeMany v_freePlace v_freeSyndrome v_ways v_waysKept v_trace v_comesA v_comesB) H → va_D A (ww_M q cs v_told v_tell v_sums v_kindOf v_modOf v_bitsOf v_turnOf v_polyOf v_beginOf v_finishOf v_isLow v_weightsOf v_weight v_cell v_size v_row v_keptSize v_keptBefore v_keptAfter v_placeA v_placeB v_turned v_turnedMany v_syndromes v_lightest v_freeMany v_freePlace v_freeSyndrome v_ways v_waysKept v_trace v_comesA v_comesB) → va_S A s.heap H locs → ∀ (ls : Array Slot), lv_has ls 4 [(0, .ref (q 0)), (1, .int x1), (3, .int x3)] → W p l e rmX12_square s m args below meth c H locs 0 0 Q (F0 m 90 ls []) := by
    intro x1 x3 v_told v_sums v_kindOf v_modOf v_cell out hlp hX
    refine lp_ind (fun x => ∀ (H : Heap) (locs : List Loc), va_P G vwCl (ww_M q cs v_told v_tell v_sums v_kindOf v_modOf v_bitsOf v_turnOf v_polyOf v_beginOf v_finishOf v_isLow v_weightsOf v_weight x.2 v_size v_row v_keptSize v_keptBefore v_keptAfter v_placeA v_placeB v_turned v_turnedMany v_syndromes v_lightest v_freeMany v_freePlace v_freeSyndrome v_ways v_waysKept v_trace v_comesA v_comesB) H → va_D A (ww_M q cs v_told v_tell v_sums v_kindOf v_modOf v_bitsOf v_turnOf v_polyOf v_beginOf v_finishOf v_isLow v_weightsOf v_weight x.2 v_size v_row v_keptSize v_keptBefore v_keptAfter v_placeA v_placeB v_turned v_turnedMany v_syndromes v_lightest v_freeMany v_freePlace v_freeSyndrome v_ways v_waysKept v_trace v_comesA v_comesB) → va_S A s.heap H locs → ∀ (ls : Array Slot), lv_has ls 4 [(0, .ref (q 0)), (1, .int x1), (3, .int x.1)] → W p l e rmX12_square s m args below meth c H locs 0 0 Q (F0 m 90 ls [])) ?_ n (x3, v_cell) hlp
    clear hlp hP hD hS hl
    rintro ⟨x3, v_cell⟩ ob hm hst H locs hP hD hS ls hl
    have hm : M_X12_square_b90 n v_told v_tell v_sums x3 v_cell = some ob := hm
    have hl : lv_has ls 4 [(0, .ref (q 0)), (1, .int x1), (3, .int x3)] := hl
    have hP : va_P G vwCl (ww_M q cs v_told v_tell v_sums v_kindOf v_modOf v_bitsOf v_turnOf v_polyOf v_beginOf v_finishOf v_isLow v_weightsOf v_weight v_cell v_size v_row v_keptSize v_keptBefore v_keptAfter v_placeA v_placeB v_turned v_turnedMany v_syndromes v_lightest v_freeMany v_freePlace v_freeSyndrome v_ways v_waysKept v_trace v_comesA v_comesB) H := hP
    have hD : va_D A (ww_M q cs v_told v_tell v_sums v_kindOf v_modOf v_bitsOf v_turnOf v_polyOf v_beginOf v_finishOf v_isLow v_weightsOf v_weight v_cell v_size v_row v_keptSize v_keptBefore v_keptAfter v_placeA v_placeB v_turned v_turnedMany v_syndromes v_lightest v_freeMany v_freePlace v_freeSyndrome v_ways v_waysKept v_trace v_comesA v_comesB) := hD
    unfold M_X12_square_b90 at hm
    refine lv_iload_n hx hb dX12_square_90 rfl (lv_at hl 2 rfl) ?_
    refine lv_aload_n hx hb dX12_square_91 rfl (lv_at hl 0 rfl) ?_
    refine va_get (D := G) (ci := 10) (v := .int v_told) (C := RX12) (T := TX12) (N := 33) hx hb hts hinX12 hown hK.1 hP 0 rfl rfl 0 (by decide) wd3 (fun _ h9 => h9) rfl dX12_square_92 ?_
    refine lv_icmp_ge (tgt := 124) hx hb dX12_square_95 (by decide) (fun b11 => ?_) (fun b11 => ?_)
    · have hm := i_t b11 hm
      exact hX _ (st_exit hm hst) H locs hP hD hS ls (lv_sub hl [0, 1] rfl)
    · have hm := i_f b11 hm
      refine lv_aload_n hx hb dX12_square_98 rfl (lv_at hl 0 rfl) ?_
      refine va_get (D := G) (ci := 10) (v := .ref (q 12)) (C := RX12) (T := TX12) (N := 33) hx hb hts hinX12 hown hK.1 hP 0 rfl rfl 13 (by decide) wd6 (fun _ h9 => h9) rfl dX12_square_99 ?_
      refine lv_bipush (v := 100) hx hb dX12_square_102 (by decide) ?_
      refine lv_aload_n hx hb dX12_square_104 rfl (lv_at hl 0 rfl) ?_
      refine va_get (D := G) (ci := 10) (v := .int v_sums) (C := RX12) (T := TX12) (N := 33) hx hb hts hinX12 hown hK.1 hP 0 rfl rfl 2 (by decide) wd5 (fun _ h9 => h9) rfl dX12_square_105 ?_
      refine lv_imul hx hb dX12_square_108 ?_
      refine lv_iload_n hx hb dX12_square_109 rfl (lv_at hl 2 rfl) ?_
      refine lv_iadd hx hb dX12_square_110 ?_
      refine lv_aload_n hx hb dX12_square_111 rfl (lv_at hl 0 rfl) ?_
      refine va_get (D := G) (ci := 10) (v := .ref (q 1)) (C := RX12) (T := TX12) (N := 33) hx hb hts hinX12 hown hK.1 hP 0 rfl rfl 1 (by decide) wd4 (fun _ h9 => h9) rfl dX12_square_112 ?_
      refine lv_iload_n hx hb dX12_square_115 rfl (lv_at hl 2 rfl) ?_
      obtain ⟨h12, hm⟩ := g_in hm
      refine va_iald hx hb hK.1 hP 1 0 rfl rfl h12 dX12_square_116 ?_
      obtain ⟨h13, hm⟩ := g_in hm
      refine va_iast hx hb hK.1 hP hD hS 12 0 rfl rfl h13 dX12_square_117 (fun H locs hP hD hS => ?_)
      have hP : va_P G vwCl (ww_M q cs v_told v_tell v_sums v_kindOf v_modOf v_bitsOf v_turnOf v_polyOf v_beginOf v_finishOf v_isLow v_weightsOf v_weight (upd v_cell ((100 * v_sums) + x3).toNatClampNeg (v_tell x3.toNatClampNeg)) v_size v_row v_keptSize v_keptBefore v_keptAfter v_placeA v_placeB v_turned v_turnedMany v_syndromes v_lightest v_freeMany v_freePlace v_freeSyndrome v_ways v_waysKept v_trace v_comesA v_comesB) H := hP
      have hD : va_D A (ww_M q cs v_told v_tell v_sums v_kindOf v_modOf v_bitsOf v_turnOf v_polyOf v_beginOf v_finishOf v_isLow v_weightsOf v_weight (upd v_cell ((100 * v_sums) + x3).toNatClampNeg (v_tell x3.toNatClampNeg)) v_size v_row v_keptSize v_keptBefore v_keptAfter v_placeA v_placeB v_turned v_turnedMany v_syndromes v_lightest v_freeMany v_freePlace v_freeSyndrome v_ways v_waysKept v_trace v_comesA v_comesB) := hD
      refine lv_iinc (v := x3 + 1) (lv' := [(3, .int (x3 + 1)), (0, .ref (q 0)), (1, .int x1)]) hx hb dX12_square_118 hl (k := 2) rfl rfl (by decide) rfl (fun ls hl => ?_)
      refine lv_goto (tgt := 90) hx hb dX12_square_121 (by decide) ?_
      exact st_next hm hst H locs hP hD hS ls (lv_sub hl [1, 2, 0] rfl)
  unfold M_X12_square at hm
  refine lv_iload_n hx hb dX12_square_0 rfl (lv_at hl 1 rfl) ?_
  refine lv_i2l (v := x1.toInt64) hx hb dX12_square_1 rfl ?_
  refine lv_ldc2 (own := RX12) (v := 2) hx hb hown wd1 dX12_square_2 ?_
  refine lv_ldc2 (own := RX12) (v := 10) hx hb hown wd2 dX12_square_5 ?_
  refine k_calli0 (va_runS (As := [.long x1.toInt64, .long 2, .long 10]) (rest := []) ⟨hx, hb, hml, hown, hts⟩ (c_X12_in l G cs H.size    x1.toInt64 (2 : Int64) (10 : Int64) _ rfl) (va_cwS 3 hts gX12_square_X12_in rfl rfl rfl hd_X12_in ⟨Nat.le_of_ble_eq_true rfl, Nat.le_of_ble_eq_true rfl⟩) ⟨pre_blind, pre_w hK RO.nil P0 D0 (va_new0 hS hA)⟩ rfl rfl hl.1 rfl (lv_room (Nat.le_of_ble_eq_true rfl)) dX12_square_8 ⟨Nat.zero_le _, Nat.zero_le _⟩) hP hS hA (fun hE1 H locs hP hS => ?_)
  refine lv_if_ne (tgt := 17) hx hb dX12_square_11 (by decide) (fun b2 => ?_) (fun b2 => ?_)
  · have hm := i_f b2 hm
    refine lv_aload_n hx hb dX12_square_17 rfl (lv_at hl 0 rfl) ?_
    refine va_get (D := G) (ci := 10) (v := .int v_told) (C := RX12) (T := TX12) (N := 33) hx hb hts hinX12 hown hK.1 hP 0 rfl rfl 0 (by decide) wd3 (fun _ h9 => h9) rfl dX12_square_18 ?_
    refine lv_iload_n hx hb dX12_square_21 rfl (lv_at hl 1 rfl) ?_
    refine lv_iload_n hx hb dX12_square_22 rfl (lv_at hl 1 rfl) ?_
    refine lv_imul hx hb dX12_square_23 ?_
    refine lv_icmp_ne (tgt := 31) hx hb dX12_square_24 (by decide) (fun b3 => ?_) (fun b3 => ?_)
    · have hm := i_f b3 hm
      refine lv_iconst (v := 0) hx hb dX12_square_31 (by decide) ?_
      refine lv_istore_n (lv' := [(2, .int 0), (0, .ref (q 0)), (1, .int x1)]) hx hb dX12_square_32 rfl hl (by decide) rfl (fun ls hl => ?_)
      refine lv_iconst (v := 0) hx hb dX12_square_33 (by decide) ?_
      refine lv_istore_n (lv' := [(3, .int 0), (2, .int 0), (0, .ref (q 0)), (1, .int x1)]) hx hb dX12_square_34 rfl hl (by decide) rfl (fun ls hl => ?_)
      obtain ⟨o8, hlp8, hm⟩ := bs hm
      refine L35 x1 (0 : Int32) (0 : Int32) v_told v_sums v_kindOf v_modOf v_cell o8 hlp8 (fun oo ho => ?_) H locs hP hD hS ls (lv_sub hl [2, 3, 1, 0] rfl)
      subst ho
      intro H locs hP hD hS ls hl
      have hl : lv_has ls 4 [(0, .ref (q 0)), (1, .int x1), (2, .int o8)] := hl
      have hP : va_P G vwCl (ww_M q cs v_told v_tell v_sums v_kindOf v_modOf v_bitsOf v_turnOf v_polyOf v_beginOf v_finishOf v_isLow v_weightsOf v_weight v_cell v_size v_row v_keptSize v_keptBefore v_keptAfter v_placeA v_placeB v_turned v_turnedMany v_syndromes v_lightest v_freeMany v_freePlace v_freeSyndrome v_ways v_waysKept v_trace v_comesA v_comesB) H := hP
      have hD : va_D A (ww_M q cs v_told v_tell v_sums v_kindOf v_modOf v_bitsOf v_turnOf v_polyOf v_beginOf v_finishOf v_isLow v_weightsOf v_weight v_cell v_size v_row v_keptSize v_keptBefore v_keptAfter v_placeA v_placeB v_turned v_turnedMany v_syndromes v_lightest v_freeMany v_freePlace v_freeSyndrome v_ways v_waysKept v_trace v_comesA v_comesB) := hD
      refine lv_iload_n hx hb dX12_square_69 rfl (lv_at hl 2 rfl) ?_
      refine lv_if_ne (tgt := 76) hx hb dX12_square_70 (by decide) (fun b9 => ?_) (fun b9 => ?_)
      · have hm := i_f b9 hm
        refine lv_aload_n hx hb dX12_square_76 rfl (lv_at hl 0 rfl) ?_
        refine va_get (D := G) (ci := 10) (v := .int v_sums) (C := RX12) (T := TX12) (N := 33) hx hb hts hinX12 hown hK.1 hP 0 rfl rfl 2 (by decide) wd5 (fun _ h9 => h9) rfl dX12_square_77 ?_
        refine lv_bipush (v := 16) hx hb dX12_square_80 (by decide) ?_
        refine lv_icmp_ne (tgt := 88) hx hb dX12_square_82 (by decide) (fun b10 => ?_) (fun b10 => ?_)
        · have hm := i_f b10 hm
          refine lv_iconst (v := 0) hx hb dX12_square_88 (by decide) ?_
          refine lv_istore_n (lv' := [(3, .int 0), (0, .ref (q 0)), (1, .int x1), (2, .int o8)]) hx hb dX12_square_89 rfl hl (by decide) rfl (fun ls hl => ?_)
          obtain ⟨o14, hlp14, hm⟩ := bs hm
          refine L90 x1 (0 : Int32) v_told v_sums v_kindOf v_modOf v_cell o14 hlp14 (fun oo ho => ?_) H locs hP hD hS ls (lv_sub hl [1, 2, 0] rfl)
          subst ho
          intro H locs hP hD hS ls hl
          have hl : lv_has ls 4 [(0, .ref (q 0)), (1, .int x1)] := hl
          have hP : va_P G vwCl (ww_M q cs v_told v_tell v_sums v_kindOf v_modOf v_bitsOf v_turnOf v_polyOf v_beginOf v_finishOf v_isLow v_weightsOf v_weight o14 v_size v_row v_keptSize v_keptBefore v_keptAfter v_placeA v_placeB v_turned v_turnedMany v_syndromes v_lightest v_freeMany v_freePlace v_freeSyndrome v_ways v_waysKept v_trace v_comesA v_comesB) H := hP
          have hD : va_D A (ww_M q cs v_told v_tell v_sums v_kindOf v_modOf v_bitsOf v_turnOf v_polyOf v_beginOf v_finishOf v_isLow v_weightsOf v_weight o14 v_size v_row v_keptSize v_keptBefore v_keptAfter v_placeA v_placeB v_turned v_turnedMany v_syndromes v_lightest v_freeMany v_freePlace v_freeSyndrome v_ways v_waysKept v_trace v_comesA v_comesB) := hD
          refine lv_aload_n hx hb dX12_square_124 rfl (lv_at hl 0 rfl) ?_
          refine lv_iconst (v := 0) hx hb dX12_square_125 (by decide) ?_
          refine va_put (D := G) (ci := 10) (v := .int 0) (ty := .int) (C := RX12) (T := TX12) (N := 33) hx hb hts hinX12 tyX12 tyX12_ok nmX12 hown hK.1 hP hD hS 0 rfl rfl 0 (by decide) wd3 (fun _ h9 => h9) rfl (by decide +kernel) rfl rfl (Nat.le_of_ble_eq_true rfl) dX12_square_126 (fun H locs hP hD hS => ?_)
          have hP : va_P G vwCl (ww_M q cs 0 v_tell v_sums v_kindOf v_modOf v_bitsOf v_turnOf v_polyOf v_beginOf v_finishOf v_isLow v_weightsOf v_weight o14 v_size v_row v_keptSize v_keptBefore v_keptAfter v_placeA v_placeB v_turned v_turnedMany v_syndromes v_lightest v_freeMany v_freePlace v_freeSyndrome v_ways v_waysKept v_trace v_comesA v_comesB) H := hP
          have hD : va_D A (ww_M q cs 0 v_tell v_sums v_kindOf v_modOf v_bitsOf v_turnOf v_polyOf v_beginOf v_finishOf v_isLow v_weightsOf v_weight o14 v_size v_row v_keptSize v_keptBefore v_keptAfter v_placeA v_placeB v_turned v_turnedMany v_syndromes v_lightest v_freeMany v_freePlace v_freeSyndrome v_ways v_waysKept v_trace v_comesA v_comesB) := hD
          refine lv_aload_n hx hb dX12_square_129 rfl (lv_at hl 0 rfl) ?_
          refine va_get (D := G) (ci := 10) (v := .ref (q 3)) (C := RX12) (T := TX12) (N := 33) hx hb hts hinX12 hown hK.1 hP 0 rfl rfl 4 (by decide) wd7 (fun _ h9 => h9) rfl dX12_square_130 ?_
          refine lv_aload_n hx hb dX12_square_133 rfl (lv_at hl 0 rfl) ?_
          refine va_get (D := G) (ci := 10) (v := .int v_sums) (C := RX12) (T := TX12) (N := 33) hx hb hts hinX12 hown hK.1 hP 0 rfl rfl 2 (by decide) wd5 (fun _ h9 => h9) rfl dX12_square_134 ?_
          refine lv_iload_n hx hb dX12_square_137 rfl (lv_at hl 1 rfl) ?_
          obtain ⟨h15, hm⟩ := g_in hm
          refine va_iast hx hb hK.1 hP hD hS 3 0 rfl rfl h15 dX12_square_138 (fun H locs hP hD hS => ?_)
          have hP : va_P G vwCl (ww_M q cs 0 v_tell v_sums v_kindOf (upd v_modOf v_sums.toNatClampNeg x1) v_bitsOf v_turnOf v_polyOf v_beginOf v_finishOf v_isLow v_weightsOf v_weight o14 v_size v_row v_keptSize v_keptBefore v_keptAfter v_placeA v_placeB v_turned v_turnedMany v_syndromes v_lightest v_freeMany v_freePlace v_freeSyndrome v_ways v_waysKept v_trace v_comesA v_comesB) H := hP
          have hD : va_D A (ww_M q cs 0 v_tell v_sums v_kindOf (upd v_modOf v_sums.toNatClampNeg x1) v_bitsOf v_turnOf v_polyOf v_beginOf v_finishOf v_isLow v_weightsOf v_weight o14 v_size v_row v_keptSize v_keptBefore v_keptAfter v_placeA v_placeB v_turned v_turnedMany v_syndromes v_lightest v_freeMany v_freePlace v_freeSyndrome v_ways v_waysKept v_trace v_comesA v_comesB) := hD
          refine lv_aload_n hx hb dX12_square_139 rfl (lv_at hl 0 rfl) ?_
          refine lv_bipush (v := 6) hx hb dX12_square_140 (by decide) ?_
          obtain ⟨r16, hc_r16, hm⟩ := bs hm
          refine k_calli (va_runV (As := [.int 6]) (rest := []) ⟨hx, hb, hml, hown, hts⟩ (c_X12_made l G cs q H.size 0 v_tell v_sums v_kindOf (upd v_modOf v_sums.toNatClampNeg x1) v_bitsOf v_turnOf v_polyOf v_beginOf v_finishOf v_isLow v_weightsOf v_weight o14 v_size v_row v_keptSize v_keptBefore v_keptAfter v_placeA v_placeB v_turned v_turnedMany v_syndromes v_lightest v_freeMany v_freePlace v_freeSyndrome v_ways v_waysKept v_trace v_comesA v_comesB   (6 : Int32) r16 hc_r16) (cwV 1 hts gX12_square_X12_made rfl rfl rfl ⟨rfl, hd_X12_made⟩ ⟨Nat.le_of_ble_eq_true rfl, Nat.le_of_ble_eq_true rfl⟩) ⟨pre_blind, va_recv hK.1 hP (ci := 10) (q0 := 0) rfl rfl, pre_w hK RO.nil hP hD (va_all hD hS hA)⟩ rfl rfl hl.1 rfl (lv_room (Nat.le_of_ble_eq_true rfl)) dX12_square_142 ⟨Nat.zero_le _, Nat.zero_le _⟩) hS (va_all hD hS hA) (fun hE17 H locs hP hD hS => ?_)
          have hP : va_P G vwCl (ww_M q cs 0 v_tell r16.2.1 r16.2.2 (upd v_modOf v_sums.toNatClampNeg x1) v_bitsOf v_turnOf v_polyOf v_beginOf v_finishOf v_isLow v_weightsOf v_weight o14 v_size v_row v_keptSize v_keptBefore v_keptAfter v_placeA v_placeB v_turned v_turnedMany v_syndromes v_lightest v_freeMany v_freePlace v_freeSyndrome v_ways v_waysKept v_trace v_comesA v_comesB) H := hP
          have hD : va_D A (ww_M q cs 0 v_tell r16.2.1 r16.2.2 (upd v_modOf v_sums.toNatClampNeg x1) v_bitsOf v_turnOf v_polyOf v_beginOf v_finishOf v_isLow v_weightsOf v_weight o14 v_size v_row v_keptSize v_keptBefore v_keptAfter v_placeA v_placeB v_turned v_turnedMany v_syndromes v_lightest v_freeMany v_freePlace v_freeSyndrome v_ways v_waysKept v_trace v_comesA v_comesB) := hD
          have hq := Option.some.inj hm
          subst hq; subst hQ
          exact k_iret hx hb hr hlocks hP hD hS rfl trivial dX12_square_145
        · have hm := i_t b10 hm
          refine lv_bipush (v := (-6)) hx hb dX12_square_85 (by decide) ?_
          have hq := Option.some.inj hm
          subst hq; subst hQ
          exact k_iret hx hb hr hlocks hP hD hS rfl trivial dX12_square_87
      · have hm := i_t b9 hm
        refine lv_bipush (v := (-5)) hx hb dX12_square_73 (by decide) ?_
        have hq := Option.some.inj hm
        subst hq; subst hQ
        exact k_iret hx hb hr hlocks hP hD hS rfl trivial dX12_square_75
    · have hm := i_t b3 hm
      refine lv_iconst (v := 1) hx hb dX12_square_27 (by decide) ?_
      refine lv_goto (tgt := 32) hx hb dX12_square_28 (by decide) ?_
      refine lv_istore_n (lv' := [(2, .int 1), (0, .ref (q 0)), (1, .int x1)]) hx hb dX12_square_32 rfl hl (by decide) rfl (fun ls hl => ?_)
      refine lv_iconst (v := 0) hx hb dX12_square_33 (by decide) ?_
      refine lv_istore_n (lv' := [(3, .int 0), (2, .int 1), (0, .ref (q 0)), (1, .int x1)]) hx hb dX12_square_34 rfl hl (by decide) rfl (fun ls hl => ?_)
      obtain ⟨o18, hlp18, hm⟩ := bs hm
      refine L35 x1 (1 : Int32) (0 : Int32) v_told v_sums v_kindOf v_modOf v_cell o18 hlp18 (fun oo ho => ?_) H locs hP hD hS ls (lv_sub hl [2, 3, 1, 0] rfl)
      subst ho
      intro H locs hP hD hS ls hl
      have hl : lv_has ls 4 [(0, .ref (q 0)), (1, .int x1), (2, .int o18)] := hl
      have hP : va_P G vwCl (ww_M q cs v_told v_tell v_sums v_kindOf v_modOf v_bitsOf v_turnOf v_polyOf v_beginOf v_finishOf v_isLow v_weightsOf v_weight v_cell v_size v_row v_keptSize v_keptBefore v_keptAfter v_placeA v_placeB v_turned v_turnedMany v_syndromes v_lightest v_freeMany v_freePlace v_freeSyndrome v_ways v_waysKept v_trace v_comesA v_comesB) H := hP
      have hD : va_D A (ww_M q cs v_told v_tell v_sums v_kindOf v_modOf v_bitsOf v_turnOf v_polyOf v_beginOf v_finishOf v_isLow v_weightsOf v_weight v_cell v_size v_row v_keptSize v_keptBefore v_keptAfter v_placeA v_placeB v_turned v_turnedMany v_syndromes v_lightest v_freeMany v_freePlace v_freeSyndrome v_ways v_waysKept v_trace v_comesA v_comesB) := hD
      refine lv_iload_n hx hb dX12_square_69 rfl (lv_at hl 2 rfl) ?_
      refine lv_if_ne (tgt := 76) hx hb dX12_square_70 (by decide) (fun b19 => ?_) (fun b19 => ?_)
      · have hm := i_f b19 hm
        refine lv_aload_n hx hb dX12_square_76 rfl (lv_at hl 0 rfl) ?_
        refine va_get (D := G) (ci := 10) (v := .int v_sums) (C := RX12) (T := TX12) (N := 33) hx hb hts hinX12 hown hK.1 hP 0 rfl rfl 2 (by decide) wd5 (fun _ h9 => h9) rfl dX12_square_77 ?_
        refine lv_bipush (v := 16) hx hb dX12_square_80 (by decide) ?_
        refine lv_icmp_ne (tgt := 88) hx hb dX12_square_82 (by decide) (fun b20 => ?_) (fun b20 => ?_)
        · have hm := i_f b20 hm
          refine lv_iconst (v := 0) hx hb dX12_square_88 (by decide) ?_
          refine lv_istore_n (lv' := [(3, .int 0), (0, .ref (q 0)), (1, .int x1), (2, .int o18)]) hx hb dX12_square_89 rfl hl (by decide) rfl (fun ls hl => ?_)
          obtain ⟨o21, hlp21, hm⟩ := bs hm
          refine L90 x1 (0 : Int32) v_told v_sums v_kindOf v_modOf v_cell o21 hlp21 (fun oo ho => ?_) H locs hP hD hS ls (lv_sub hl [1, 2, 0] rfl)
          subst ho
          intro H locs hP hD hS ls hl
          have hl : lv_has ls 4 [(0, .ref (q 0)), (1, .int x1)] := hl
          have hP : va_P G vwCl (ww_M q cs v_told v_tell v_sums v_kindOf v_modOf v_bitsOf v_turnOf v_polyOf v_beginOf v_finishOf v_isLow v_weightsOf v_weight o21 v_size v_row v_keptSize v_keptBefore v_keptAfter v_placeA v_placeB v_turned v_turnedMany v_syndromes v_lightest v_freeMany v_freePlace v_freeSyndrome v_ways v_waysKept v_trace v_comesA v_comesB) H := hP
          have hD : va_D A (ww_M q cs v_told v_tell v_sums v_kindOf v_modOf v_bitsOf v_turnOf v_polyOf v_beginOf v_finishOf v_isLow v_weightsOf v_weight o21 v_size v_row v_keptSize v_keptBefore v_keptAfter v_placeA v_placeB v_turned v_turnedMany v_syndromes v_lightest v_freeMany v_freePlace v_freeSyndrome v_ways v_waysKept v_trace v_comesA v_comesB) := hD
          refine lv_aload_n hx hb dX12_square_124 rfl (lv_at hl 0 rfl) ?_
          refine lv_iconst (v := 0) hx hb dX12_square_125 (by decide) ?_
          refine va_put (D := G) (ci := 10) (v := .int 0) (ty := .int) (C := RX12) (T := TX12) (N := 33) hx hb hts hinX12 tyX12 tyX12_ok nmX12 hown hK.1 hP hD hS 0 rfl rfl 0 (by decide) wd3 (fun _ h9 => h9) rfl (by decide +kernel) rfl rfl (Nat.le_of_ble_eq_true rfl) dX12_square_126 (fun H locs hP hD hS => ?_)
          have hP : va_P G vwCl (ww_M q cs 0 v_tell v_sums v_kindOf v_modOf v_bitsOf v_turnOf v_polyOf v_beginOf v_finishOf v_isLow v_weightsOf v_weight o21 v_size v_row v_keptSize v_keptBefore v_keptAfter v_placeA v_placeB v_turned v_turnedMany v_syndromes v_lightest v_freeMany v_freePlace v_freeSyndrome v_ways v_waysKept v_trace v_comesA v_comesB) H := hP
          have hD : va_D A (ww_M q cs 0 v_tell v_sums v_kindOf v_modOf v_bitsOf v_turnOf v_polyOf v_beginOf v_finishOf v_isLow v_weightsOf v_weight o21 v_size v_row v_keptSize v_keptBefore v_keptAfter v_placeA v_placeB v_turned v_turnedMany v_syndromes v_lightest v_freeMany v_freePlace v_freeSyndrome v_ways v_waysKept v_trace v_comesA v_comesB) := hD
          refine lv_aload_n hx hb dX12_square_129 rfl (lv_at hl 0 rfl) ?_
          refine va_get (D := G) (ci := 10) (v := .ref (q 3)) (C := RX12) (T := TX12) (N := 33) hx hb hts hinX12 hown hK.1 hP 0 rfl rfl 4 (by decide) wd7 (fun _ h9 => h9) rfl dX12_square_130 ?_
          refine lv_aload_n hx hb dX12_square_133 rfl (lv_at hl 0 rfl) ?_
          refine va_get (D := G) (ci := 10) (v := .int v_sums) (C := RX12) (T := TX12) (N := 33) hx hb hts hinX12 hown hK.1 hP 0 rfl rfl 2 (by decide) wd5 (fun _ h9 => h9) rfl dX12_square_134 ?_
          refine lv_iload_n hx hb dX12_square_137 rfl (lv_at hl 1 rfl) ?_
          obtain ⟨h22, hm⟩ := g_in hm
          refine va_iast hx hb hK.1 hP hD hS 3 0 rfl rfl h22 dX12_square_138 (fun H locs hP hD hS => ?_)
          have hP : va_P G vwCl (ww_M q cs 0 v_tell v_sums v_kindOf (upd v_modOf v_sums.toNatClampNeg x1) v_bitsOf v_turnOf v_polyOf v_beginOf v_finishOf v_isLow v_weightsOf v_weight o21 v_size v_row v_keptSize v_keptBefore v_keptAfter v_placeA v_placeB v_turned v_turnedMany v_syndromes v_lightest v_freeMany v_freePlace v_freeSyndrome v_ways v_waysKept v_trace v_comesA v_comesB) H := hP
          have hD : va_D A (ww_M q cs 0 v_tell v_sums v_kindOf (upd v_modOf v_sums.toNatClampNeg x1) v_bitsOf v_turnOf v_polyOf v_beginOf v_finishOf v_isLow v_weightsOf v_weight o21 v_size v_row v_keptSize v_keptBefore v_keptAfter v_placeA v_placeB v_turned v_turnedMany v_syndromes v_lightest v_freeMany v_freePlace v_freeSyndrome v_ways v_waysKept v_trace v_comesA v_comesB) := hD
          refine lv_aload_n hx hb dX12_square_139 rfl (lv_at hl 0 rfl) ?_
          refine lv_bipush (v := 6) hx hb dX12_square_140 (by decide) ?_
          obtain ⟨r23, hc_r23, hm⟩ := bs hm
          refine k_calli (va_runV (As := [.int 6]) (rest := []) ⟨hx, hb, hml, hown, hts⟩ (c_X12_made l G cs q H.size 0 v_tell v_sums v_kindOf (upd v_modOf v_sums.toNatClampNeg x1) v_bitsOf v_turnOf v_polyOf v_beginOf v_finishOf v_isLow v_weightsOf v_weight o21 v_size v_row v_keptSize v_keptBefore v_keptAfter v_placeA v_placeB v_turned v_turnedMany v_syndromes v_lightest v_freeMany v_freePlace v_freeSyndrome v_ways v_waysKept v_trace v_comesA v_comesB   (6 : Int32) r23 hc_r23) (cwV 1 hts gX12_square_X12_made rfl rfl rfl ⟨rfl, hd_X12_made⟩ ⟨Nat.le_of_ble_eq_true rfl, Nat.le_of_ble_eq_true rfl⟩) ⟨pre_blind, va_recv hK.1 hP (ci := 10) (q0 := 0) rfl rfl, pre_w hK RO.nil hP hD (va_all hD hS hA)⟩ rfl rfl hl.1 rfl (lv_room (Nat.le_of_ble_eq_true rfl)) dX12_square_142 ⟨Nat.zero_le _, Nat.zero_le _⟩) hS (va_all hD hS hA) (fun hE24 H locs hP hD hS => ?_)
          have hP : va_P G vwCl (ww_M q cs 0 v_tell r23.2.1 r23.2.2 (upd v_modOf v_sums.toNatClampNeg x1) v_bitsOf v_turnOf v_polyOf v_beginOf v_finishOf v_isLow v_weightsOf v_weight o21 v_size v_row v_keptSize v_keptBefore v_keptAfter v_placeA v_placeB v_turned v_turnedMany v_syndromes v_lightest v_freeMany v_freePlace v_freeSyndrome v_ways v_waysKept v_trace v_comesA v_comesB) H := hP
          have hD : va_D A (ww_M q cs 0 v_tell r23.2.1 r23.2.2 (upd v_modOf v_sums.toNatClampNeg x1) v_bitsOf v_turnOf v_polyOf v_beginOf v_finishOf v_isLow v_weightsOf v_weight o21 v_size v_row v_keptSize v_keptBefore v_keptAfter v_placeA v_placeB v_turned v_turnedMany v_syndromes v_lightest v_freeMany v_freePlace v_freeSyndrome v_ways v_waysKept v_trace v_comesA v_comesB) := hD
          have hq := Option.some.inj hm
          subst hq; subst hQ
          exact k_iret hx hb hr hlocks hP hD hS rfl trivial dX12_square_145
        · have hm := i_t b20 hm
          refine lv_bipush (v := (-6)) hx hb dX12_square_85 (by decide) ?_
          have hq := Option.some.inj hm
          subst hq; subst hQ
          exact k_iret hx hb hr hlocks hP hD hS rfl trivial dX12_square_87
      · have hm := i_t b19 hm
        refine lv_bipush (v := (-5)) hx hb dX12_square_73 (by decide) ?_
        have hq := Option.some.inj hm
        subst hq; subst hQ
        exact k_iret hx hb hr hlocks hP hD hS rfl trivial dX12_square_75
  · have hm := i_t b2 hm
    refine lv_bipush (v := (-3)) hx hb dX12_square_14 (by decide) ?_
    have hq := Option.some.inj hm
    subst hq; subst hQ
    exact k_iret hx hb hr hlocks hP hD hS rfl trivial dX12_square_16

theorem hd_X12_kind : yX12_kind.cls ≠ "java/lang/invoke/MethodHandle" ∧ yX12_kind.cls ≠ "java/lang/invoke/VarHandle" ∧ (parseMethodDescriptor yX12_kind.desc).map (fun d => d.parameters.length) = some 1 := by decide +kernel

def M_X12_kind (x1 : Int32) (v_sums : Int32) (v_kindOf : (Nat → Int32)) : Option Int32 :=
  if (M_X12_isSum x1 v_sums) = 0 then (some (-2)) else (if x1 < 0 ∨ 16 ≤ x1.toNatClampNeg then none else some (v_kindOf x1.toNatClampNeg))

abbrev rmX12_kind : Room := { frames := 2, cells := 0, slots := 0, locals := 46 }
set_option maxHeartbeats 4000000 in
set_option maxRecDepth 100000 in
theorem c_X12_kind (l : Launch) (G : va_G) (cs : CS) (q : Nat → Nat) (sz : Nat) (v_told : Int32) (v_tell : (Nat → Int32)) (v_sums : Int32) (v_kindOf : (Nat → Int32)) (v_modOf : (Nat → Int32)) (v_bitsOf : (Nat → Int32)) (v_turnOf : (Nat → Int32)) (v_polyOf : (Nat → Int64)) (v_beginOf : (Nat → Int64)) (v_finishOf : (Nat → Int64)) (v_isLow : (Nat → Int32)) (v_weightsOf : (Nat → Int32)) (v_weight : (Nat → Int32)) (v_cell : (Nat → Int32)) (v_size : Int32) (v_row : (Nat → Int32)) (v_keptSize : Int32) (v_keptBefore : (Nat → Int32)) (v_keptAfter : (Nat → Int32)) (v_placeA : (Nat → Int64)) (v_placeB : (Nat → Int64)) (v_turned : (Nat → Int32)) (v_turnedMany : Int32) (v_syndromes : (Nat → Int64)) (v_lightest : (Nat → Int32)) (v_freeMany : Int32) (v_freePlace : (Nat → Int32)) (v_freeSyndrome : (Nat → Int64)) (v_ways : (Nat → Int32)) (v_waysKept : Int32) (v_trace : (Nat → Int32)) (v_comesA : Int64) (v_comesB : Int64)   (x1 : Int32) (res : Int32) (hm : M_X12_kind x1 v_sums v_kindOf = some res) : Met l yX12_kind wsX12_kind rmX12_kind (va_Pc [.ref (q 0), .int x1] (PreW G cs sz (ww_M q cs v_told v_tell v_sums v_kindOf v_modOf v_bitsOf v_turnOf v_polyOf v_beginOf v_finishOf v_isLow v_weightsOf v_weight v_cell v_size v_row v_keptSize v_keptBefore v_keptAfter v_placeA v_placeB v_turned v_turnedMany v_syndromes v_lightest v_freeMany v_freePlace v_freeSyndrome v_ways v_waysKept v_trace v_comesA v_comesB) RN)) (QI G res True (ww_M q cs v_told v_tell v_sums v_kindOf v_modOf v_bitsOf v_turnOf v_polyOf v_beginOf v_finishOf v_isLow v_weightsOf v_weight v_cell v_size v_row v_keptSize v_keptBefore v_keptAfter v_placeA v_placeB v_turned v_turnedMany v_syndromes v_lightest v_freeMany v_freePlace v_freeSyndrome v_ways v_waysKept v_trace v_comesA v_comesB) (va_A (ww_M q cs v_told v_tell v_sums v_kindOf v_modOf v_bitsOf v_turnOf v_polyOf v_beginOf v_finishOf v_isLow v_weightsOf v_weight v_cell v_size v_row v_keptSize v_keptBefore v_keptAfter v_placeA v_placeB v_turned v_turnedMany v_syndromes v_lightest v_freeMany v_freePlace v_freeSyndrome v_ways v_waysKept v_trace v_comesA v_comesB) sz)) 0 0 (va_A (ww_M q cs v_told v_tell v_sums v_kindOf v_modOf v_bitsOf v_turnOf v_polyOf v_beginOf v_finishOf v_isLow v_weightsOf v_weight v_cell v_size v_row v_keptSize v_keptBefore v_keptAfter v_placeA v_placeB v_turned v_turnedMany v_syndromes v_lightest v_freeMany v_freePlace v_freeSyndrome v_ways v_waysKept v_trace v_comesA v_comesB) sz) := by
  refine k_enter (Qf := fun A => QI G res True (ww_M q cs v_told v_tell v_sums v_kindOf v_modOf v_bitsOf v_turnOf v_polyOf v_beginOf v_finishOf v_isLow v_weightsOf v_weight v_cell v_size v_row v_keptSize v_keptBefore v_keptAfter v_placeA v_placeB v_turned v_turnedMany v_syndromes v_lightest v_freeMany v_freePlace v_freeSyndrome v_ways v_waysKept v_trace v_comesA v_comesB) A) (cc := cX12_kind) (maxL := 2) (ret := (some .int)) (plainFor_of_name (by decide)) rfl (Nat.le_of_ble_eq_true rfl) ?_
  intro p e s m args below meth c A Q ls H locs hx hb hr hml hown hts hlocks hname hK hA hRo hP hD hS hQ hl
  have hl : lv_has ls 2 [(0, .ref (q 0)), (1, .int x1)] := hl
  have wd1 := hts (.fieldLink RX12 13 "SumSmithModel" "kindOf" "[I") (List.mem_of_getElem? (i := 1) rfl)
  have hinX12 : ∀ w ∈ wsX120, w ∈ wsX12_kind := fun w h => List.mem_cons_of_mem _ (List.mem_append_right _ h)
  unfold M_X12_kind at hm
  refine lv_aload_n hx hb dX12_kind_0 rfl (lv_at hl 0 rfl) ?_
  refine lv_iload_n hx hb dX12_kind_1 rfl (lv_at hl 1 rfl) ?_
  refine k_calli (va_runV (As := [.int x1]) (rest := []) ⟨hx, hb, hml, hown, hts⟩ (c_X12_isSum l G cs q H.size v_told v_tell v_sums v_kindOf v_modOf v_bitsOf v_turnOf v_polyOf v_beginOf v_finishOf v_isLow v_weightsOf v_weight v_cell v_size v_row v_keptSize v_keptBefore v_keptAfter v_placeA v_placeB v_turned v_turnedMany v_syndromes v_lightest v_freeMany v_freePlace v_freeSyndrome v_ways v_waysKept v_trace v_comesA v_comesB   x1 _ rfl) (cwV 1 hts gX12_kind_X12_isSum rfl rfl rfl ⟨rfl, hd_X12_isSum⟩ ⟨Nat.le_of_ble_eq_true rfl, Nat.le_of_ble_eq_true rfl⟩) ⟨pre_blind, va_recv hK.1 hP (ci := 10) (q0 := 0) rfl rfl, pre_w hK RO.nil hP hD (va_all hD hS hA)⟩ rfl rfl hl.1 rfl (lv_room (Nat.le_of_ble_eq_true rfl)) dX12_kind_2 ⟨Nat.zero_le _, Nat.zero_le _⟩) hS (va_all hD hS hA) (fun hE1 H locs hP hD hS => ?_)
  have hP : va_P G vwCl (ww_M q cs v_told v_tell v_sums v_kindOf v_modOf v_bitsOf v_turnOf v_polyOf v_beginOf v_finishOf v_isLow v_weightsOf v_weight v_cell v_size v_row v_keptSize v_keptBefore v_keptAfter v_placeA v_placeB v_turned v_turnedMany v_syndromes v_lightest v_freeMany v_freePlace v_freeSyndrome v_ways v_waysKept v_trace v_comesA v_comesB) H := hP
  have hD : va_D A (ww_M q cs v_told v_tell v_sums v_kindOf v_modOf v_bitsOf v_turnOf v_polyOf v_beginOf v_finishOf v_isLow v_weightsOf v_weight v_cell v_size v_row v_keptSize v_keptBefore v_keptAfter v_placeA v_placeB v_turned v_turnedMany v_syndromes v_lightest v_freeMany v_freePlace v_freeSyndrome v_ways v_waysKept v_trace v_comesA v_comesB) := hD
  refine lv_if_eq (tgt := 17) hx hb dX12_kind_5 (by decide) (fun b2 => ?_) (fun b2 => ?_)
  · have hm := i_t b2 hm
    refine lv_bipush (v := (-2)) hx hb dX12_kind_17 (by decide) ?_
    have hq := Option.some.inj hm
    subst hq; subst hQ
    exact k_iret hx hb hr hlocks hP hD hS rfl trivial dX12_kind_19
  · have hm := i_f b2 hm
    refine lv_aload_n hx hb dX12_kind_8 rfl (lv_at hl 0 rfl) ?_
    refine va_get (D := G) (ci := 10) (v := .ref (q 2)) (C := RX12) (T := TX12) (N := 33) hx hb hts hinX12 hown hK.1 hP 0 rfl rfl 3 (by decide) wd1 (fun _ h9 => h9) rfl dX12_kind_9 ?_
    refine lv_iload_n hx hb dX12_kind_12 rfl (lv_at hl 1 rfl) ?_
    obtain ⟨h3, hm⟩ := g_in hm
    refine va_iald hx hb hK.1 hP 2 0 rfl rfl h3 dX12_kind_13 ?_
    refine lv_goto (tgt := 19) hx hb dX12_kind_14 (by decide) ?_
    have hq := Option.some.inj hm
    subst hq; subst hQ
    exact k_iret hx hb hr hlocks hP hD hS rfl trivial dX12_kind_19

theorem hd_X12_put : yX12_put.cls ≠ "java/lang/invoke/MethodHandle" ∧ yX12_put.cls ≠ "java/lang/invoke/VarHandle" ∧ (parseMethodDescriptor yX12_put.desc).map (fun d => d.parameters.length) = some 1 := by decide +kernel

def M_X12_put (x1 : Int32) (v_size : Int32) (v_row : (Nat → Int32)) : Option (Int32 × Int32 × (Nat → Int32)) :=
  if (M_X12_in x1.toInt64 (0 : Int64) (255 : Int64)) = 0 then (some ((-3), v_size, v_row)) else (if v_size = 64 then (some ((-6), v_size, v_row)) else (if v_size < 0 ∨ 64 ≤ v_size.toNatClampNeg then none else some ((v_size + 1), (v_size + 1), (upd v_row v_size.toNatClampNeg x1))))

abbrev rmX12_put : Room := { frames := 1, cells := 0, slots := 0, locals := 25 }
set_option maxHeartbeats 4000000 in
set_option maxRecDepth 100000 in
theorem c_X12_put (l : Launch) (G : va_G) (cs : CS) (q : Nat → Nat) (sz : Nat) (v_told : Int32) (v_tell : (Nat → Int32)) (v_sums : Int32) (v_kindOf : (Nat → Int32)) (v_modOf : (Nat → Int32)) (v_bitsOf : (Nat → Int32)) (v_turnOf : (Nat → Int32)) (v_polyOf : (Nat → Int64)) (v_beginOf : (Nat → Int64)) (v_finishOf : (Nat → Int64)) (v_isLow : (Nat → Int32)) (v_weightsOf : (Nat → Int32)) (v_weight : (Nat → Int32)) (v_cell : (Nat → Int32)) (v_size : Int32) (v_row : (Nat → Int32)) (v_keptSize : Int32) (v_keptBefore : (Nat → Int32)) (v_keptAfter : (Nat → Int32)) (v_placeA : (Nat → Int64)) (v_placeB : (Nat → Int64)) (v_turned : (Nat → Int32)) (v_turnedMany : Int32) (v_syndromes : (Nat → Int64)) (v_lightest : (Nat → Int32)) (v_freeMany : Int32) (v_freePlace : (Nat → Int32)) (v_freeSyndrome : (Nat → Int64)) (v_ways : (Nat → Int32)) (v_waysKept : Int32) (v_trace : (Nat → Int32)) (v_comesA : Int64) (v_comesB : Int64)   (x1 : Int32) (res : (Int32 × Int32 × (Nat → Int32))) (hm : M_X12_put x1 v_size v_row = some res) : Met l yX12_put wsX12_put rmX12_put (va_Pc [.ref (q 0), .int x1] (PreW G cs sz (ww_M q cs v_told v_tell v_sums v_kindOf v_modOf v_bitsOf v_turnOf v_polyOf v_beginOf v_finishOf v_isLow v_weightsOf v_weight v_cell v_size v_row v_keptSize v_keptBefore v_keptAfter v_placeA v_placeB v_turned v_turnedMany v_syndromes v_lightest v_freeMany v_freePlace v_freeSyndrome v_ways v_waysKept v_trace v_comesA v_comesB) RN)) (QI G res.1 True (ww_M q cs v_told v_tell v_sums v_kindOf v_modOf v_bitsOf v_turnOf v_polyOf v_beginOf v_finishOf v_isLow v_weightsOf v_weight v_cell res.2.1 res.2.2 v_keptSize v_keptBefore v_keptAfter v_placeA v_placeB v_turned v_turnedMany v_syndromes v_lightest v_freeMany v_freePlace v_freeSyndrome v_ways v_waysKept v_trace v_comesA v_comesB) (va_A (ww_M q cs v_told v_tell v_sums v_kindOf v_modOf v_bitsOf v_turnOf v_polyOf v_beginOf v_finishOf v_isLow v_weightsOf v_weight v_cell v_size v_row v_keptSize v_keptBefore v_keptAfter v_placeA v_placeB v_turned v_turnedMany v_syndromes v_lightest v_freeMany v_freePlace v_freeSyndrome v_ways v_waysKept v_trace v_comesA v_comesB) sz)) 0 0 (va_A (ww_M q cs v_told v_tell v_sums v_kindOf v_modOf v_bitsOf v_turnOf v_polyOf v_beginOf v_finishOf v_isLow v_weightsOf v_weight v_cell v_size v_row v_keptSize v_keptBefore v_keptAfter v_placeA v_placeB v_turned v_turnedMany v_syndromes v_lightest v_freeMany v_freePlace v_freeSyndrome v_ways v_waysKept v_trace v_comesA v_comesB) sz) := by
  refine k_enter (Qf := fun A => QI G res.1 True (ww_M q cs v_told v_tell v_sums v_kindOf v_modOf v_bitsOf v_turnOf v_polyOf v_beginOf v_finishOf v_isLow v_weightsOf v_weight v_cell res.2.1 res.2.2 v_keptSize v_keptBefore v_keptAfter v_placeA v_placeB v_turned v_turnedMany v_syndromes v_lightest v_freeMany v_freePlace v_freeSyndrome v_ways v_waysKept v_trace v_comesA v_comesB) A) (cc := cX12_put) (maxL := 2) (ret := (some .int)) (plainFor_of_name (by decide)) rfl (Nat.le_of_ble_eq_true rfl) ?_
  intro p e s m args below meth c A Q ls H locs hx hb hr hml hown hts hlocks hname hK hA hRo hP hD hS hQ hl
  have hl : lv_has ls 2 [(0, .ref (q 0)), (1, .int x1)] := hl
  have wd1 := hts (.constantLong RX12 123 (255)) (List.mem_of_getElem? (i := 1) rfl)
  have wd2 := hts (.fieldLink RX12 125 "SumSmithModel" "size" "I") (List.mem_of_getElem? (i := 2) rfl)
  have wd3 := hts (.fieldLink RX12 48 "SumSmithModel" "row" "[I") (List.mem_of_getElem? (i := 3) rfl)
  have hinX12 : ∀ w ∈ wsX120, w ∈ wsX12_put := fun w h => List.mem_cons_of_mem _ (List.mem_append_right _ h)
  unfold M_X12_put at hm
  refine lv_iload_n hx hb dX12_put_0 rfl (lv_at hl 1 rfl) ?_
  refine lv_i2l (v := x1.toInt64) hx hb dX12_put_1 rfl ?_
  refine lv_lconst (v := 0) hx hb dX12_put_2 (by decide) ?_
  refine lv_ldc2 (own := RX12) (v := 255) hx hb hown wd1 dX12_put_3 ?_
  refine k_calli0 (va_runS (As := [.long x1.toInt64, .long 0, .long 255]) (rest := []) ⟨hx, hb, hml, hown, hts⟩ (c_X12_in l G cs H.size    x1.toInt64 (0 : Int64) (255 : Int64) _ rfl) (va_cwS 3 hts gX12_put_X12_in rfl rfl rfl hd_X12_in ⟨Nat.le_of_ble_eq_true rfl, Nat.le_of_ble_eq_true rfl⟩) ⟨pre_blind, pre_w hK RO.nil P0 D0 (va_new0 hS hA)⟩ rfl rfl hl.1 rfl (lv_room (Nat.le_of_ble_eq_true rfl)) dX12_put_6 ⟨Nat.zero_le _, Nat.zero_le _⟩) hP hS hA (fun hE1 H locs hP hS => ?_)
  refine lv_if_ne (tgt := 15) hx hb dX12_put_9 (by decide) (fun b2 => ?_) (fun b2 => ?_)
  · have hm := i_f b2 hm
    refine lv_aload_n hx hb dX12_put_15 rfl (lv_at hl 0 rfl) ?_
    refine va_get (D := G) (ci := 10) (v := .int v_size) (C := RX12) (T := TX12) (N := 33) hx hb hts hinX12 hown hK.1 hP 0 rfl rfl 14 (by decide) wd2 (fun _ h9 => h9) rfl dX12_put_16 ?_
    refine lv_bipush (v := 64) hx hb dX12_put_19 (by decide) ?_
    refine lv_icmp_ne (tgt := 27) hx hb dX12_put_21 (by decide) (fun b3 => ?_) (fun b3 => ?_)
    · have hm := i_f b3 hm
      refine lv_aload_n hx hb dX12_put_27 rfl (lv_at hl 0 rfl) ?_
      refine va_get (D := G) (ci := 10) (v := .ref (q 13)) (C := RX12) (T := TX12) (N := 33) hx hb hts hinX12 hown hK.1 hP 0 rfl rfl 15 (by decide) wd3 (fun _ h9 => h9) rfl dX12_put_28 ?_
      refine lv_aload_n hx hb dX12_put_31 rfl (lv_at hl 0 rfl) ?_
      refine va_get (D := G) (ci := 10) (v := .int v_size) (C := RX12) (T := TX12) (N := 33) hx hb hts hinX12 hown hK.1 hP 0 rfl rfl 14 (by decide) wd2 (fun _ h9 => h9) rfl dX12_put_32 ?_
      refine lv_iload_n hx hb dX12_put_35 rfl (lv_at hl 1 rfl) ?_
      obtain ⟨h4, hm⟩ := g_in hm
      refine va_iast hx hb hK.1 hP hD hS 13 0 rfl rfl h4 dX12_put_36 (fun H locs hP hD hS => ?_)
      have hP : va_P G vwCl (ww_M q cs v_told v_tell v_sums v_kindOf v_modOf v_bitsOf v_turnOf v_polyOf v_beginOf v_finishOf v_isLow v_weightsOf v_weight v_cell v_size (upd v_row v_size.toNatClampNeg x1) v_keptSize v_keptBefore v_keptAfter v_placeA v_placeB v_turned v_turnedMany v_syndromes v_lightest v_freeMany v_freePlace v_freeSyndrome v_ways v_waysKept v_trace v_comesA v_comesB) H := hP
      have hD : va_D A (ww_M q cs v_told v_tell v_sums v_kindOf v_modOf v_bitsOf v_turnOf v_polyOf v_beginOf v_finishOf v_isLow v_weightsOf v_weight v_cell v_size (upd v_row v_size.toNatClampNeg x1) v_keptSize v_keptBefore v_keptAfter v_placeA v_placeB v_turned v_turnedMany v_syndromes v_lightest v_freeMany v_freePlace v_freeSyndrome v_ways v_waysKept v_trace v_comesA v_comesB) := hD
      refine lv_aload_n hx hb dX12_put_37 rfl (lv_at hl 0 rfl) ?_
      refine lv_dup hx hb dX12_put_38 rfl ?_
      refine va_get (D := G) (ci := 10) (v := .int v_size) (C := RX12) (T := TX12) (N := 33) hx hb hts hinX12 hown hK.1 hP 0 rfl rfl 14 (by decide) wd2 (fun _ h9 => h9) rfl dX12_put_39 ?_
      refine lv_iconst (v := 1) hx hb dX12_put_42 (by decide) ?_
      refine lv_iadd hx hb dX12_put_43 ?_
      refine va_put (D := G) (ci := 10) (v := .int (v_size + 1)) (ty := .int) (C := RX12) (T := TX12) (N := 33) hx hb hts hinX12 tyX12 tyX12_ok nmX12 hown hK.1 hP hD hS 0 rfl rfl 14 (by decide) wd2 (fun _ h9 => h9) rfl (by decide +kernel) rfl rfl (Nat.le_of_ble_eq_true rfl) dX12_put_44 (fun H locs hP hD hS => ?_)
      have hP : va_P G vwCl (ww_M q cs v_told v_tell v_sums v_kindOf v_modOf v_bitsOf v_turnOf v_polyOf v_beginOf v_finishOf v_isLow v_weightsOf v_weight v_cell (v_size + 1) (upd v_row v_size.toNatClampNeg x1) v_keptSize v_keptBefore v_keptAfter v_placeA v_placeB v_turned v_turnedMany v_syndromes v_lightest v_freeMany v_freePlace v_freeSyndrome v_ways v_waysKept v_trace v_comesA v_comesB) H := hP
      have hD : va_D A (ww_M q cs v_told v_tell v_sums v_kindOf v_modOf v_bitsOf v_turnOf v_polyOf v_beginOf v_finishOf v_isLow v_weightsOf v_weight v_cell (v_size + 1) (upd v_row v_size.toNatClampNeg x1) v_keptSize v_keptBefore v_keptAfter v_placeA v_placeB v_turned v_turnedMany v_syndromes v_lightest v_freeMany v_freePlace v_freeSyndrome v_ways v_waysKept v_trace v_comesA v_comesB) := hD
      refine lv_aload_n hx hb dX12_put_47 rfl (lv_at hl 0 rfl) ?_
      refine va_get (D := G) (ci := 10) (v := .int (v_size + 1)) (C := RX12) (T := TX12) (N := 33) hx hb hts hinX12 hown hK.1 hP 0 rfl rfl 14 (by decide) wd2 (fun _ h9 => h9) rfl dX12_put_48 ?_
      have hq := Option.some.inj hm
      subst hq; subst hQ
      exact k_iret hx hb hr hlocks hP hD hS rfl trivial dX12_put_51
    · have hm := i_t b3 hm
      refine lv_bipush (v := (-6)) hx hb dX12_put_24 (by decide) ?_
      have hq := Option.some.inj hm
      subst hq; subst hQ
      exact k_iret hx hb hr hlocks hP hD hS rfl trivial dX12_put_26
  · have hm := i_t b2 hm
    refine lv_bipush (v := (-3)) hx hb dX12_put_12 (by decide) ?_
    have hq := Option.some.inj hm
    subst hq; subst hQ
    exact k_iret hx hb hr hlocks hP hD hS rfl trivial dX12_put_14

theorem hd_X12_set : yX12_set.cls ≠ "java/lang/invoke/MethodHandle" ∧ yX12_set.cls ≠ "java/lang/invoke/VarHandle" ∧ (parseMethodDescriptor yX12_set.desc).map (fun d => d.parameters.length) = some 2 := by decide +kernel

def M_X12_set (x1 : Int32) (x2 : Int32) (v_size : Int32) (v_row : (Nat → Int32)) : Option (Int32 × (Nat → Int32)) :=
  if (M_X12_in x1.toInt64 (0 : Int64) ((v_size - 1).toInt64)) = 0 then (some ((-2), v_row)) else (if (M_X12_in x2.toInt64 (0 : Int64) (255 : Int64)) = 0 then (some ((-3), v_row)) else (if x1 < 0 ∨ 64 ≤ x1.toNatClampNeg then none else if x1 < 0 ∨ 64 ≤ x1.toNatClampNeg then none else some (v_row x1.toNatClampNeg, (upd v_row x1.toNatClampNeg x2))))

abbrev rmX12_set : Room := { frames := 1, cells := 0, slots := 0, locals := 25 }
set_option maxHeartbeats 4000000 in
set_option maxRecDepth 100000 in
theorem c_X12_set (l : Launch) (G : va_G) (cs : CS) (q : Nat → Nat) (sz : Nat) (v_told : Int32) (v_tell : (Nat → Int32)) (v_sums : Int32) (v_kindOf : (Nat → Int32)) (v_modOf : (Nat → Int32)) (v_bitsOf : (Nat → Int32)) (v_turnOf : (Nat → Int32)) (v_polyOf : (Nat → Int64)) (v_beginOf : (Nat → Int64)) (v_finishOf : (Nat → Int64)) (v_isLow : (Nat → Int32)) (v_weightsOf : (Nat → Int32)) (v_weight : (Nat → Int32)) (v_cell : (Nat → Int32)) (v_size : Int32) (v_row : (Nat → Int32)) (v_keptSize : Int32) (v_keptBefore : (Nat → Int32)) (v_keptAfter : (Nat → Int32)) (v_placeA : (Nat → Int64)) (v_placeB : (Nat → Int64)) (v_turned : (Nat → Int32)) (v_turnedMany : Int32) (v_syndromes : (Nat → Int64)) (v_lightest : (Nat → Int32)) (v_freeMany : Int32) (v_freePlace : (Nat → Int32)) (v_freeSyndrome : (Nat → Int64)) (v_ways : (Nat → Int32)) (v_waysKept : Int32) (v_trace : (Nat → Int32)) (v_comesA : Int64) (v_comesB : Int64)   (x1 : Int32) (x2 : Int32) (res : (Int32 × (Nat → Int32))) (hm : M_X12_set x1 x2 v_size v_row = some res) : Met l yX12_set wsX12_set rmX12_set (va_Pc [.ref (q 0), .int x1, .int x2] (PreW G cs sz (ww_M q cs v_told v_tell v_sums v_kindOf v_modOf v_bitsOf v_turnOf v_polyOf v_beginOf v_finishOf v_isLow v_weightsOf v_weight v_cell v_size v_row v_keptSize v_keptBefore v_keptAfter v_placeA v_placeB v_turned v_turnedMany v_syndromes v_lightest v_freeMany v_freePlace v_freeSyndrome v_ways v_waysKept v_trace v_comesA v_comesB) RN)) (QI G res.1 True (ww_M q cs v_told v_tell v_sums v_kindOf v_modOf v_bitsOf v_turnOf v_polyOf v_beginOf v_finishOf v_isLow v_weightsOf v_weight v_cell v_size res.2 v_keptSize v_keptBefore v_keptAfter v_placeA v_placeB v_turned v_turnedMany v_syndromes v_lightest v_freeMany v_freePlace v_freeSyndrome v_ways v_waysKept v_trace v_comesA v_comesB) (va_A (ww_M q cs v_told v_tell v_sums v_kindOf v_modOf v_bitsOf v_turnOf v_polyOf v_beginOf v_finishOf v_isLow v_weightsOf v_weight v_cell v_size v_row v_keptSize v_keptBefore v_keptAfter v_placeA v_placeB v_turned v_turnedMany v_syndromes v_lightest v_freeMany v_freePlace v_freeSyndrome v_ways v_waysKept v_trace v_comesA v_comesB) sz)) 0 0 (va_A (ww_M q cs v_told v_tell v_sums v_kindOf v_modOf v_bitsOf v_turnOf v_polyOf v_beginOf v_finishOf v_isLow v_weightsOf v_weight v_cell v_size v_row v_keptSize v_keptBefore v_keptAfter v_placeA v_placeB v_turned v_turnedMany v_syndromes v_lightest v_freeMany v_freePlace v_freeSyndrome v_ways v_waysKept v_trace v_comesA v_comesB) sz) := by
  refine k_enter (Qf := fun A => QI G res.1 True (ww_M q cs v_told v_tell v_sums v_kindOf v_modOf v_bitsOf v_turnOf v_polyOf v_beginOf v_finishOf v_isLow v_weightsOf v_weight v_cell v_size res.2 v_keptSize v_keptBefore v_keptAfter v_placeA v_placeB v_turned v_turnedMany v_syndromes v_lightest v_freeMany v_freePlace v_freeSyndrome v_ways v_waysKept v_trace v_comesA v_comesB) A) (cc := cX12_set) (maxL := 4) (ret := (some .int)) (plainFor_of_name (by decide)) rfl (Nat.le_of_ble_eq_true rfl) ?_
  intro p e s m args below meth c A Q ls H locs hx hb hr hml hown hts hlocks hname hK hA hRo hP hD hS hQ hl
  have hl : lv_has ls 4 [(0, .ref (q 0)), (1, .int x1), (2, .int x2)] := hl
  have wd1 := hts (.fieldLink RX12 125 "SumSmithModel" "size" "I") (List.mem_of_getElem? (i := 1) rfl)
  have wd2 := hts (.constantLong RX12 123 (255)) (List.mem_of_getElem? (i := 2) rfl)
  have wd3 := hts (.fieldLink RX12 48 "SumSmithModel" "row" "[I") (List.mem_of_getElem? (i := 3) rfl)
  have hinX12 : ∀ w ∈ wsX120, w ∈ wsX12_set := fun w h => List.mem_cons_of_mem _ (List.mem_append_right _ h)
  unfold M_X12_set at hm
  refine lv_iload_n hx hb dX12_set_0 rfl (lv_at hl 1 rfl) ?_
  refine lv_i2l (v := x1.toInt64) hx hb dX12_set_1 rfl ?_
  refine lv_lconst (v := 0) hx hb dX12_set_2 (by decide) ?_
  refine lv_aload_n hx hb dX12_set_3 rfl (lv_at hl 0 rfl) ?_
  refine va_get (D := G) (ci := 10) (v := .int v_size) (C := RX12) (T := TX12) (N := 33) hx hb hts hinX12 hown hK.1 hP 0 rfl rfl 14 (by decide) wd1 (fun _ h9 => h9) rfl dX12_set_4 ?_
  refine lv_iconst (v := 1) hx hb dX12_set_7 (by decide) ?_
  refine lv_isub hx hb dX12_set_8 ?_
  refine lv_i2l (v := (v_size - 1).toInt64) hx hb dX12_set_9 rfl ?_
  refine k_calli0 (va_runS (As := [.long x1.toInt64, .long 0, .long ((v_size - 1).toInt64)]) (rest := []) ⟨hx, hb, hml, hown, hts⟩ (c_X12_in l G cs H.size    x1.toInt64 (0 : Int64) ((v_size - 1).toInt64) _ rfl) (va_cwS 3 hts gX12_set_X12_in rfl rfl rfl hd_X12_in ⟨Nat.le_of_ble_eq_true rfl, Nat.le_of_ble_eq_true rfl⟩) ⟨pre_blind, pre_w hK RO.nil P0 D0 (va_new0 hS hA)⟩ rfl rfl hl.1 rfl (lv_room (Nat.le_of_ble_eq_true rfl)) dX12_set_10 ⟨Nat.zero_le _, Nat.zero_le _⟩) hP hS hA (fun hE1 H locs hP hS => ?_)
  refine lv_if_ne (tgt := 19) hx hb dX12_set_13 (by decide) (fun b2 => ?_) (fun b2 => ?_)
  · have hm := i_f b2 hm
    refine lv_iload_n hx hb dX12_set_19 rfl (lv_at hl 2 rfl) ?_
    refine lv_i2l (v := x2.toInt64) hx hb dX12_set_20 rfl ?_
    refine lv_lconst (v := 0) hx hb dX12_set_21 (by decide) ?_
    refine lv_ldc2 (own := RX12) (v := 255) hx hb hown wd2 dX12_set_22 ?_
    refine k_calli0 (va_runS (As := [.long x2.toInt64, .long 0, .long 255]) (rest := []) ⟨hx, hb, hml, hown, hts⟩ (c_X12_in l G cs H.size    x2.toInt64 (0 : Int64) (255 : Int64) _ rfl) (va_cwS 3 hts gX12_set_X12_in rfl rfl rfl hd_X12_in ⟨Nat.le_of_ble_eq_true rfl, Nat.le_of_ble_eq_true rfl⟩) ⟨pre_blind, pre_w hK RO.nil P0 D0 (va_new0 hS hA)⟩ rfl rfl hl.1 rfl (lv_room (Nat.le_of_ble_eq_true rfl)) dX12_set_25 ⟨Nat.zero_le _, Nat.zero_le _⟩) hP hS hA (fun hE3 H locs hP hS => ?_)
    refine lv_if_ne (tgt := 34) hx hb dX12_set_28 (by decide) (fun b4 => ?_) (fun b4 => ?_)
    · have hm := i_f b4 hm
      refine lv_aload_n hx hb dX12_set_34 rfl (lv_at hl 0 rfl) ?_
      refine va_get (D := G) (ci := 10) (v := .ref (q 13)) (C := RX12) (T := TX12) (N := 33) hx hb hts hinX12 hown hK.1 hP 0 rfl rfl 15 (by decide) wd3 (fun _ h9 => h9) rfl dX12_set_35 ?_
      refine lv_iload_n hx hb dX12_set_38 rfl (lv_at hl 1 rfl) ?_
      obtain ⟨h5, hm⟩ := g_in hm
      refine va_iald hx hb hK.1 hP 13 0 rfl rfl h5 dX12_set_39 ?_
      refine lv_istore_n (lv' := [(3, .int (v_row x1.toNatClampNeg)), (0, .ref (q 0)), (1, .int x1), (2, .int x2)]) hx hb dX12_set_40 rfl hl (by decide) rfl (fun ls hl => ?_)
      refine lv_aload_n hx hb dX12_set_41 rfl (lv_at hl 1 rfl) ?_
      refine va_get (D := G) (ci := 10) (v := .ref (q 13)) (C := RX12) (T := TX12) (N := 33) hx hb hts hinX12 hown hK.1 hP 0 rfl rfl 15 (by decide) wd3 (fun _ h9 => h9) rfl dX12_set_42 ?_
      refine lv_iload_n hx hb dX12_set_45 rfl (lv_at hl 2 rfl) ?_
      refine lv_iload_n hx hb dX12_set_46 rfl (lv_at hl 3 rfl) ?_
      obtain ⟨h6, hm⟩ := g_in hm
      refine va_iast hx hb hK.1 hP hD hS 13 0 rfl rfl h6 dX12_set_47 (fun H locs hP hD hS => ?_)
      have hP : va_P G vwCl (ww_M q cs v_told v_tell v_sums v_kindOf v_modOf v_bitsOf v_turnOf v_polyOf v_beginOf v_finishOf v_isLow v_weightsOf v_weight v_cell v_size (upd v_row x1.toNatClampNeg x2) v_keptSize v_keptBefore v_keptAfter v_placeA v_placeB v_turned v_turnedMany v_syndromes v_lightest v_freeMany v_freePlace v_freeSyndrome v_ways v_waysKept v_trace v_comesA v_comesB) H := hP
      have hD : va_D A (ww_M q cs v_told v_tell v_sums v_kindOf v_modOf v_bitsOf v_turnOf v_polyOf v_beginOf v_finishOf v_isLow v_weightsOf v_weight v_cell v_size (upd v_row x1.toNatClampNeg x2) v_keptSize v_keptBefore v_keptAfter v_placeA v_placeB v_turned v_turnedMany v_syndromes v_lightest v_freeMany v_freePlace v_freeSyndrome v_ways v_waysKept v_trace v_comesA v_comesB) := hD
      refine lv_iload_n hx hb dX12_set_48 rfl (lv_at hl 0 rfl) ?_
      have hq := Option.some.inj hm
      subst hq; subst hQ
      exact k_iret hx hb hr hlocks hP hD hS rfl trivial dX12_set_49
    · have hm := i_t b4 hm
      refine lv_bipush (v := (-3)) hx hb dX12_set_31 (by decide) ?_
      have hq := Option.some.inj hm
      subst hq; subst hQ
      exact k_iret hx hb hr hlocks hP hD hS rfl trivial dX12_set_33
  · have hm := i_t b2 hm
    refine lv_bipush (v := (-2)) hx hb dX12_set_16 (by decide) ?_
    have hq := Option.some.inj hm
    subst hq; subst hQ
    exact k_iret hx hb hr hlocks hP hD hS rfl trivial dX12_set_18

theorem hd_X12_at : yX12_at.cls ≠ "java/lang/invoke/MethodHandle" ∧ yX12_at.cls ≠ "java/lang/invoke/VarHandle" ∧ (parseMethodDescriptor yX12_at.desc).map (fun d => d.parameters.length) = some 1 := by decide +kernel

def M_X12_at (x1 : Int32) (v_size : Int32) (v_row : (Nat → Int32)) : Option Int32 :=
  if (M_X12_in x1.toInt64 (0 : Int64) ((v_size - 1).toInt64)) = 0 then (some (-2)) else (if x1 < 0 ∨ 64 ≤ x1.toNatClampNeg then none else some (v_row x1.toNatClampNeg))

abbrev rmX12_at : Room := { frames := 1, cells := 0, slots := 0, locals := 25 }
set_option maxHeartbeats 4000000 in
set_option maxRecDepth 100000 in
theorem c_X12_at (l : Launch) (G : va_G) (cs : CS) (q : Nat → Nat) (sz : Nat) (v_told : Int32) (v_tell : (Nat → Int32)) (v_sums : Int32) (v_kindOf : (Nat → Int32)) (v_modOf : (Nat → Int32)) (v_bitsOf : (Nat → Int32)) (v_turnOf : (Nat → Int32)) (v_polyOf : (Nat → Int64)) (v_beginOf : (Nat → Int64)) (v_finishOf : (Nat → Int64)) (v_isLow : (Nat → Int32)) (v_weightsOf : (Nat → Int32)) (v_weight : (Nat → Int32)) (v_cell : (Nat → Int32)) (v_size : Int32) (v_row : (Nat → Int32)) (v_keptSize : Int32) (v_keptBefore : (Nat → Int32)) (v_keptAfter : (Nat → Int32)) (v_placeA : (Nat → Int64)) (v_placeB : (Nat → Int64)) (v_turned : (Nat → Int32)) (v_turnedMany : Int32) (v_syndromes : (Nat → Int64)) (v_lightest : (Nat → Int32)) (v_freeMany : Int32) (v_freePlace : (Nat → Int32)) (v_freeSyndrome : (Nat → Int64)) (v_ways : (Nat → Int32)) (v_waysKept : Int32) (v_trace : (Nat → Int32)) (v_comesA : Int64) (v_comesB : Int64)   (x1 : Int32) (res : Int32) (hm : M_X12_at x1 v_size v_row = some res) : Met l yX12_at wsX12_at rmX12_at (va_Pc [.ref (q 0), .int x1] (PreW G cs sz (ww_M q cs v_told v_tell v_sums v_kindOf v_modOf v_bitsOf v_turnOf v_polyOf v_beginOf v_finishOf v_isLow v_weightsOf v_weight v_cell v_size v_row v_keptSize v_keptBefore v_keptAfter v_placeA v_placeB v_turned v_turnedMany v_syndromes v_lightest v_freeMany v_freePlace v_freeSyndrome v_ways v_waysKept v_trace v_comesA v_comesB) RN)) (QI G res True (ww_M q cs v_told v_tell v_sums v_kindOf v_modOf v_bitsOf v_turnOf v_polyOf v_beginOf v_finishOf v_isLow v_weightsOf v_weight v_cell v_size v_row v_keptSize v_keptBefore v_keptAfter v_placeA v_placeB v_turned v_turnedMany v_syndromes v_lightest v_freeMany v_freePlace v_freeSyndrome v_ways v_waysKept v_trace v_comesA v_comesB) (va_A (ww_M q cs v_told v_tell v_sums v_kindOf v_modOf v_bitsOf v_turnOf v_polyOf v_beginOf v_finishOf v_isLow v_weightsOf v_weight v_cell v_size v_row v_keptSize v_keptBefore v_keptAfter v_placeA v_placeB v_turned v_turnedMany v_syndromes v_lightest v_freeMany v_freePlace v_freeSyndrome v_ways v_waysKept v_trace v_comesA v_comesB) sz)) 0 0 (va_A (ww_M q cs v_told v_tell v_sums v_kindOf v_modOf v_bitsOf v_turnOf v_polyOf v_beginOf v_finishOf v_isLow v_weightsOf v_weight v_cell v_size v_row v_keptSize v_keptBefore v_keptAfter v_placeA v_placeB v_turned v_turnedMany v_syndromes v_lightest v_freeMany v_freePlace v_freeSyndrome v_ways v_waysKept v_trace v_comesA v_comesB) sz) := by
  refine k_enter (Qf := fun A => QI G res True (ww_M q cs v_told v_tell v_sums v_kindOf v_modOf v_bitsOf v_turnOf v_polyOf v_beginOf v_finishOf v_isLow v_weightsOf v_weight v_cell v_size v_row v_keptSize v_keptBefore v_keptAfter v_placeA v_placeB v_turned v_turnedMany v_syndromes v_lightest v_freeMany v_freePlace v_freeSyndrome v_ways v_waysKept v_trace v_comesA v_comesB) A) (cc := cX12_at) (maxL := 2) (ret := (some .int)) (plainFor_of_name (by decide)) rfl (Nat.le_of_ble_eq_true rfl) ?_
  intro p e s m args below meth c A Q ls H locs hx hb hr hml hown hts hlocks hname hK hA hRo hP hD hS hQ hl
  have hl : lv_has ls 2 [(0, .ref (q 0)), (1, .int x1)] := hl
  have wd1 := hts (.fieldLink RX12 125 "SumSmithModel" "size" "I") (List.mem_of_getElem? (i := 1) rfl)
  have wd2 := hts (.fieldLink RX12 48 "SumSmithModel" "row" "[I") (List.mem_of_getElem? (i := 2) rfl)
  have hinX12 : ∀ w ∈ wsX120, w ∈ wsX12_at := fun w h => List.mem_cons_of_mem _ (List.mem_append_right _ h)
  unfold M_X12_at at hm
  refine lv_iload_n hx hb dX12_at_0 rfl (lv_at hl 1 rfl) ?_
  refine lv_i2l (v := x1.toInt64) hx hb dX12_at_1 rfl ?_
  refine lv_lconst (v := 0) hx hb dX12_at_2 (by decide) ?_
  refine lv_aload_n hx hb dX12_at_3 rfl (lv_at hl 0 rfl) ?_
  refine va_get (D := G) (ci := 10) (v := .int v_size) (C := RX12) (T := TX12) (N := 33) hx hb hts hinX12 hown hK.1 hP 0 rfl rfl 14 (by decide) wd1 (fun _ h9 => h9) rfl dX12_at_4 ?_
  refine lv_iconst (v := 1) hx hb dX12_at_7 (by decide) ?_
  refine lv_isub hx hb dX12_at_8 ?_
  refine lv_i2l (v := (v_size - 1).toInt64) hx hb dX12_at_9 rfl ?_
  refine k_calli0 (va_runS (As := [.long x1.toInt64, .long 0, .long ((v_size - 1).toInt64)]) (rest := []) ⟨hx, hb, hml, hown, hts⟩ (c_X12_in l G cs H.size    x1.toInt64 (0 : Int64) ((v_size - 1).toInt64) _ rfl) (va_cwS 3 hts gX12_at_X12_in rfl rfl rfl hd_X12_in ⟨Nat.le_of_ble_eq_true rfl, Nat.le_of_ble_eq_true rfl⟩) ⟨pre_blind, pre_w hK RO.nil P0 D0 (va_new0 hS hA)⟩ rfl rfl hl.1 rfl (lv_room (Nat.le_of_ble_eq_true rfl)) dX12_at_10 ⟨Nat.zero_le _, Nat.zero_le _⟩) hP hS hA (fun hE1 H locs hP hS => ?_)
  refine lv_if_eq (tgt := 25) hx hb dX12_at_13 (by decide) (fun b2 => ?_) (fun b2 => ?_)
  · have hm := i_t b2 hm
    refine lv_bipush (v := (-2)) hx hb dX12_at_25 (by decide) ?_
    have hq := Option.some.inj hm
    subst hq; subst hQ
    exact k_iret hx hb hr hlocks hP hD hS rfl trivial dX12_at_27
  · have hm := i_f b2 hm
    refine lv_aload_n hx hb dX12_at_16 rfl (lv_at hl 0 rfl) ?_
    refine va_get (D := G) (ci := 10) (v := .ref (q 13)) (C := RX12) (T := TX12) (N := 33) hx hb hts hinX12 hown hK.1 hP 0 rfl rfl 15 (by decide) wd2 (fun _ h9 => h9) rfl dX12_at_17 ?_
    refine lv_iload_n hx hb dX12_at_20 rfl (lv_at hl 1 rfl) ?_
    obtain ⟨h3, hm⟩ := g_in hm
    refine va_iald hx hb hK.1 hP 13 0 rfl rfl h3 dX12_at_21 ?_
    refine lv_goto (tgt := 27) hx hb dX12_at_22 (by decide) ?_
    have hq := Option.some.inj hm
    subst hq; subst hQ
    exact k_iret hx hb hr hlocks hP hD hS rfl trivial dX12_at_27

theorem hd_X12_cut : yX12_cut.cls ≠ "java/lang/invoke/MethodHandle" ∧ yX12_cut.cls ≠ "java/lang/invoke/VarHandle" ∧ (parseMethodDescriptor yX12_cut.desc).map (fun d => d.parameters.length) = some 1 := by decide +kernel

def M_X12_cut (x1 : Int32) (v_size : Int32) : (Int32 × Int32) :=
  if (M_X12_in x1.toInt64 (0 : Int64) v_size.toInt64) = 0 then (((-3), v_size)) else ((v_size - x1, x1))

abbrev rmX12_cut : Room := { frames := 1, cells := 0, slots := 0, locals := 25 }
set_option maxHeartbeats 4000000 in
set_option maxRecDepth 100000 in
theorem c_X12_cut (l : Launch) (G : va_G) (cs : CS) (q : Nat → Nat) (sz : Nat) (v_told : Int32) (v_tell : (Nat → Int32)) (v_sums : Int32) (v_kindOf : (Nat → Int32)) (v_modOf : (Nat → Int32)) (v_bitsOf : (Nat → Int32)) (v_turnOf : (Nat → Int32)) (v_polyOf : (Nat → Int64)) (v_beginOf : (Nat → Int64)) (v_finishOf : (Nat → Int64)) (v_isLow : (Nat → Int32)) (v_weightsOf : (Nat → Int32)) (v_weight : (Nat → Int32)) (v_cell : (Nat → Int32)) (v_size : Int32) (v_row : (Nat → Int32)) (v_keptSize : Int32) (v_keptBefore : (Nat → Int32)) (v_keptAfter : (Nat → Int32)) (v_placeA : (Nat → Int64)) (v_placeB : (Nat → Int64)) (v_turned : (Nat → Int32)) (v_turnedMany : Int32) (v_syndromes : (Nat → Int64)) (v_lightest : (Nat → Int32)) (v_freeMany : Int32) (v_freePlace : (Nat → Int32)) (v_freeSyndrome : (Nat → Int64)) (v_ways : (Nat → Int32)) (v_waysKept : Int32) (v_trace : (Nat → Int32)) (v_comesA : Int64) (v_comesB : Int64)   (x1 : Int32) (res : (Int32 × Int32)) (hm : M_X12_cut x1 v_size = res) : Met l yX12_cut wsX12_cut rmX12_cut (va_Pc [.ref (q 0), .int x1] (PreW G cs sz (ww_M q cs v_told v_tell v_sums v_kindOf v_modOf v_bitsOf v_turnOf v_polyOf v_beginOf v_finishOf v_isLow v_weightsOf v_weight v_cell v_size v_row v_keptSize v_keptBefore v_keptAfter v_placeA v_placeB v_turned v_turnedMany v_syndromes v_lightest v_freeMany v_freePlace v_freeSyndrome v_ways v_waysKept v_trace v_comesA v_comesB) RN)) (QI G res.1 True (ww_M q cs v_told v_tell v_sums v_kindOf v_modOf v_bitsOf v_turnOf v_polyOf v_beginOf v_finishOf v_isLow v_weightsOf v_weight v_cell res.2 v_row v_keptSize v_keptBefore v_keptAfter v_placeA v_placeB v_turned v_turnedMany v_syndromes v_lightest v_freeMany v_freePlace v_freeSyndrome v_ways v_waysKept v_trace v_comesA v_comesB) (va_A (ww_M q cs v_told v_tell v_sums v_kindOf v_modOf v_bitsOf v_turnOf v_polyOf v_beginOf v_finishOf v_isLow v_weightsOf v_weight v_cell v_size v_row v_keptSize v_keptBefore v_keptAfter v_placeA v_placeB v_turned v_turnedMany v_syndromes v_lightest v_freeMany v_freePlace v_freeSyndrome v_ways v_waysKept v_trace v_comesA v_comesB) sz)) 0 0 (va_A (ww_M q cs v_told v_tell v_sums v_kindOf v_modOf v_bitsOf v_turnOf v_polyOf v_beginOf v_finishOf v_isLow v_weightsOf v_weight v_cell v_size v_row v_keptSize v_keptBefore v_keptAfter v_placeA v_placeB v_turned v_turnedMany v_syndromes v_lightest v_freeMany v_freePlace v_freeSyndrome v_ways v_waysKept v_trace v_comesA v_comesB) sz) := by
  refine k_enter (Qf := fun A => QI G res.1 True (ww_M q cs v_told v_tell v_sums v_kindOf v_modOf v_bitsOf v_turnOf v_polyOf v_beginOf v_finishOf v_isLow v_weightsOf v_weight v_cell res.2 v_row v_keptSize v_keptBefore v_keptAfter v_placeA v_placeB v_turned v_turnedMany v_syndromes v_lightest v_freeMany v_freePlace v_freeSyndrome v_ways v_waysKept v_trace v_comesA v_comesB) A) (cc := cX12_cut) (maxL := 3) (ret := (some .int)) (plainFor_of_name (by decide)) rfl (Nat.le_of_ble_eq_true rfl) ?_
  intro p e s m args below meth c A Q ls H locs hx hb hr hml hown hts hlocks hname hK hA hRo hP hD hS hQ hl
  have hl : lv_has ls 3 [(0, .ref (q 0)), (1, .int x1)] := hl
  have wd1 := hts (.fieldLink RX12 125 "SumSmithModel" "size" "I") (List.mem_of_getElem? (i := 1) rfl)
  have hinX12 : ∀ w ∈ wsX120, w ∈ wsX12_cut := fun w h => List.mem_cons_of_mem _ (List.mem_append_right _ h)
  unfold M_X12_cut at hm
  refine lv_iload_n hx hb dX12_cut_0 rfl (lv_at hl 1 rfl) ?_
  refine lv_i2l (v := x1.toInt64) hx hb dX12_cut_1 rfl ?_
  refine lv_lconst (v := 0) hx hb dX12_cut_2 (by decide) ?_
  refine lv_aload_n hx hb dX12_cut_3 rfl (lv_at hl 0 rfl) ?_
  refine va_get (D := G) (ci := 10) (v := .int v_size) (C := RX12) (T := TX12) (N := 33) hx hb hts hinX12 hown hK.1 hP 0 rfl rfl 14 (by decide) wd1 (fun _ h9 => h9) rfl dX12_cut_4 ?_
  refine lv_i2l (v := v_size.toInt64) hx hb dX12_cut_7 rfl ?_
  refine k_calli0 (va_runS (As := [.long x1.toInt64, .long 0, .long v_size.toInt64]) (rest := []) ⟨hx, hb, hml, hown, hts⟩ (c_X12_in l G cs H.size    x1.toInt64 (0 : Int64) v_size.toInt64 _ rfl) (va_cwS 3 hts gX12_cut_X12_in rfl rfl rfl hd_X12_in ⟨Nat.le_of_ble_eq_true rfl, Nat.le_of_ble_eq_true rfl⟩) ⟨pre_blind, pre_w hK RO.nil P0 D0 (va_new0 hS hA)⟩ rfl rfl hl.1 rfl (lv_room (Nat.le_of_ble_eq_true rfl)) dX12_cut_8 ⟨Nat.zero_le _, Nat.zero_le _⟩) hP hS hA (fun hE1 H locs hP hS => ?_)
  refine lv_if_ne (tgt := 17) hx hb dX12_cut_11 (by decide) (fun b2 => ?_) (fun b2 => ?_)
  · have hm := i_f b2 hm
    refine lv_aload_n hx hb dX12_cut_17 rfl (lv_at hl 0 rfl) ?_
    refine va_get (D := G) (ci := 10) (v := .int v_size) (C := RX12) (T := TX12) (N := 33) hx hb hts hinX12 hown hK.1 hP 0 rfl rfl 14 (by decide) wd1 (fun _ h9 => h9) rfl dX12_cut_18 ?_
    refine lv_iload_n hx hb dX12_cut_21 rfl (lv_at hl 1 rfl) ?_
    refine lv_isub hx hb dX12_cut_22 ?_
    refine lv_istore_n (lv' := [(2, .int (v_size - x1)), (0, .ref (q 0)), (1, .int x1)]) hx hb dX12_cut_23 rfl hl (by decide) rfl (fun ls hl => ?_)
    refine lv_aload_n hx hb dX12_cut_24 rfl (lv_at hl 1 rfl) ?_
    refine lv_iload_n hx hb dX12_cut_25 rfl (lv_at hl 2 rfl) ?_
    refine va_put (D := G) (ci := 10) (v := .int x1) (ty := .int) (C := RX12) (T := TX12) (N := 33) hx hb hts hinX12 tyX12 tyX12_ok nmX12 hown hK.1 hP hD hS 0 rfl rfl 14 (by decide) wd1 (fun _ h9 => h9) rfl (by decide +kernel) rfl rfl (Nat.le_of_ble_eq_true rfl) dX12_cut_26 (fun H locs hP hD hS => ?_)
    have hP : va_P G vwCl (ww_M q cs v_told v_tell v_sums v_kindOf v_modOf v_bitsOf v_turnOf v_polyOf v_beginOf v_finishOf v_isLow v_weightsOf v_weight v_cell x1 v_row v_keptSize v_keptBefore v_keptAfter v_placeA v_placeB v_turned v_turnedMany v_syndromes v_lightest v_freeMany v_freePlace v_freeSyndrome v_ways v_waysKept v_trace v_comesA v_comesB) H := hP
    have hD : va_D A (ww_M q cs v_told v_tell v_sums v_kindOf v_modOf v_bitsOf v_turnOf v_polyOf v_beginOf v_finishOf v_isLow v_weightsOf v_weight v_cell x1 v_row v_keptSize v_keptBefore v_keptAfter v_placeA v_placeB v_turned v_turnedMany v_syndromes v_lightest v_freeMany v_freePlace v_freeSyndrome v_ways v_waysKept v_trace v_comesA v_comesB) := hD
    refine lv_iload_n hx hb dX12_cut_29 rfl (lv_at hl 0 rfl) ?_
    have hq := hm
    subst hq; subst hQ
    exact k_iret hx hb hr hlocks hP hD hS rfl trivial dX12_cut_30
  · have hm := i_t b2 hm
    refine lv_bipush (v := (-3)) hx hb dX12_cut_14 (by decide) ?_
    have hq := hm
    subst hq; subst hQ
    exact k_iret hx hb hr hlocks hP hD hS rfl trivial dX12_cut_16

theorem hd_X12_rolled : yX12_rolled.cls ≠ "java/lang/invoke/MethodHandle" ∧ yX12_rolled.cls ≠ "java/lang/invoke/VarHandle" ∧ (parseMethodDescriptor yX12_rolled.desc).map (fun d => d.parameters.length) = some 3 := by decide +kernel

def M_X12_rolled (x0 : Int64) (x2 : Int32) (x3 : Int32)  : Option Int64 :=
  if x3 = 0 then none else if (x2 - x2 / x3 * x3) = 0 then (some x0) else (some (((x0 <<< ((x2 - x2 / x3 * x3).toInt64 &&& 63)) ||| ((x0.toUInt64 >>> ((x3 - (x2 - x2 / x3 * x3)).toInt64.toUInt64 &&& Int64.toUInt64 63)).toInt64)) &&& (((1 : Int64) <<< (x3.toInt64 &&& 63)) - 1)))

abbrev rmX12_rolled : Room := { frames := 0, cells := 0, slots := 0, locals := 0 }
set_option maxHeartbeats 4000000 in
set_option maxRecDepth 100000 in
theorem c_X12_rolled (l : Launch) (G : va_G) (cs : CS) (sz : Nat)    (x0 : Int64) (x2 : Int32) (x3 : Int32) (res : Int64) (hm : M_X12_rolled x0 x2 x3 = some res) : Met l yX12_rolled wsX12_rolled rmX12_rolled (va_Pc [.long x0, .int x2, .int x3] (PreW G cs sz [] RN)) (QL G res [] (va_A [] sz)) 0 0 (va_A [] sz) := by
  refine k_enter (Qf := fun A => QL G res [] A) (cc := cX12_rolled) (maxL := 7) (ret := (some .long)) (plainFor_of_name (by decide)) rfl (Nat.le_of_ble_eq_true rfl) ?_
  intro p e s m args below meth c A Q ls H locs hx hb hr hml hown hts hlocks hname hK hA hRo hP hD hS hQ hl
  have hl : lv_has ls 7 [(0, .long x0), (2, .int x2), (3, .int x3)] := hl
  unfold M_X12_rolled at hm
  refine lv_iload_n hx hb dX12_rolled_0 rfl (lv_at hl 1 rfl) ?_
  refine lv_iload_n hx hb dX12_rolled_1 rfl (lv_at hl 2 rfl) ?_
  obtain ⟨h1, hm⟩ := g_in hm
  refine lv_irem hx hb dX12_rolled_2 h1 ?_
  refine lv_istore (lv' := [(4, .int (x2 - x2 / x3 * x3)), (0, .long x0), (2, .int x2), (3, .int x3)]) hx hb dX12_rolled_3 hl (by decide) rfl (fun ls hl => ?_)
  refine lv_lconst (v := 1) hx hb dX12_rolled_5 (by decide) ?_
  refine lv_iload_n hx hb dX12_rolled_6 rfl (lv_at hl 3 rfl) ?_
  refine lv_lshl (v := (1 : Int64) <<< (x3.toInt64 &&& 63)) hx hb dX12_rolled_7 rfl ?_
  refine lv_lconst (v := 1) hx hb dX12_rolled_8 (by decide) ?_
  refine lv_lsub hx hb dX12_rolled_9 ?_
  refine lv_lstore (lv' := [(5, .long (((1 : Int64) <<< (x3.toInt64 &&& 63)) - 1)), (4, .int (x2 - x2 / x3 * x3)), (0, .long x0), (2, .int x2), (3, .int x3)]) hx hb dX12_rolled_10 hl (by decide) rfl (fun ls hl => ?_)
  refine lv_iload hx hb dX12_rolled_12 (lv_at hl 1 rfl) ?_
  refine lv_if_ne (tgt := 21) hx hb dX12_rolled_14 (by decide) (fun b2 => ?_) (fun b2 => ?_)
  · have hm := i_f b2 hm
    refine lv_lload_n hx hb dX12_rolled_21 rfl (lv_at hl 2 rfl) ?_
    refine lv_iload hx hb dX12_rolled_22 (lv_at hl 1 rfl) ?_
    refine lv_lshl (v := x0 <<< ((x2 - x2 / x3 * x3).toInt64 &&& 63)) hx hb dX12_rolled_24 rfl ?_
    refine lv_lload_n hx hb dX12_rolled_25 rfl (lv_at hl 2 rfl) ?_
    refine lv_iload_n hx hb dX12_rolled_26 rfl (lv_at hl 4 rfl) ?_
    refine lv_iload hx hb dX12_rolled_27 (lv_at hl 1 rfl) ?_
    refine lv_isub hx hb dX12_rolled_29 ?_
    refine lv_lushr (v := (x0.toUInt64 >>> ((x3 - (x2 - x2 / x3 * x3)).toInt64.toUInt64 &&& Int64.toUInt64 63)).toInt64) hx hb dX12_rolled_30 rfl ?_
    refine lv_lor hx hb dX12_rolled_31 ?_
    refine lv_lload hx hb dX12_rolled_32 (lv_at hl 0 rfl) ?_
    refine lv_land hx hb dX12_rolled_34 ?_
    have hq := Option.some.inj hm
    subst hq; subst hQ
    exact k_lret hx hb hr hlocks hP hD hS rfl dX12_rolled_35
  · have hm := i_t b2 hm
    refine lv_lload_n hx hb dX12_rolled_17 rfl (lv_at hl 2 rfl) ?_
    refine lv_goto (tgt := 35) hx hb dX12_rolled_18 (by decide) ?_
    have hq := Option.some.inj hm
    subst hq; subst hQ
    exact k_lret hx hb hr hlocks hP hD hS rfl dX12_rolled_35

theorem hd_X12_step : yX12_step.cls ≠ "java/lang/invoke/MethodHandle" ∧ yX12_step.cls ≠ "java/lang/invoke/VarHandle" ∧ (parseMethodDescriptor yX12_step.desc).map (fun d => d.parameters.length) = some 4 := by decide +kernel

def M_X12_step (x0 : Int64) (x2 : Int32) (x3 : Int32) (x4 : Int64)  : Int64 :=
  if (((x0.toUInt64 >>> ((x3 - 1).toInt64.toUInt64 &&& Int64.toUInt64 63)).toInt64) ^^^ x2.toInt64) = 1 then ((((x0 <<< ((1 : Int32).toInt64 &&& 63)) &&& (((1 : Int64) <<< (x3.toInt64 &&& 63)) - 1)) ^^^ x4)) else (((x0 <<< ((1 : Int32).toInt64 &&& 63)) &&& (((1 : Int64) <<< (x3.toInt64 &&& 63)) - 1)))

abbrev rmX12_step : Room := { frames := 0, cells := 0, slots := 0, locals := 0 }
set_option maxHeartbeats 4000000 in
set_option maxRecDepth 100000 in
theorem c_X12_step (l : Launch) (G : va_G) (cs : CS) (sz : Nat)    (x0 : Int64) (x2 : Int32) (x3 : Int32) (x4 : Int64) (res : Int64) (hm : M_X12_step x0 x2 x3 x4 = res) : Met l yX12_step wsX12_step rmX12_step (va_Pc [.long x0, .int x2, .int x3, .long x4] (PreW G cs sz [] RN)) (QL G res [] (va_A [] sz)) 0 0 (va_A [] sz) := by
  refine k_enter (Qf := fun A => QL G res [] A) (cc := cX12_step) (maxL := 10) (ret := (some .long)) (plainFor_of_name (by decide)) rfl (Nat.le_of_ble_eq_true rfl) ?_
  intro p e s m args below meth c A Q ls H locs hx hb hr hml hown hts hlocks hname hK hA hRo hP hD hS hQ hl
  have hl : lv_has ls 10 [(0, .long x0), (2, .int x2), (3, .int x3), (4, .long x4)] := hl
  unfold M_X12_step at hm
  refine lv_lload_n hx hb dX12_step_0 rfl (lv_at hl 0 rfl) ?_
  refine lv_iload_n hx hb dX12_step_1 rfl (lv_at hl 2 rfl) ?_
  refine lv_iconst (v := 1) hx hb dX12_step_2 (by decide) ?_
  refine lv_isub hx hb dX12_step_3 ?_
  refine lv_lushr (v := (x0.toUInt64 >>> ((x3 - 1).toInt64.toUInt64 &&& Int64.toUInt64 63)).toInt64) hx hb dX12_step_4 rfl ?_
  refine lv_iload_n hx hb dX12_step_5 rfl (lv_at hl 1 rfl) ?_
  refine lv_i2l (v := x2.toInt64) hx hb dX12_step_6 rfl ?_
  refine lv_lxor hx hb dX12_step_7 ?_
  refine lv_lstore (lv' := [(6, .long (((x0.toUInt64 >>> ((x3 - 1).toInt64.toUInt64 &&& Int64.toUInt64 63)).toInt64) ^^^ x2.toInt64)), (0, .long x0), (2, .int x2), (3, .int x3), (4, .long x4)]) hx hb dX12_step_8 hl (by decide) rfl (fun ls hl => ?_)
  refine lv_lload_n hx hb dX12_step_10 rfl (lv_at hl 1 rfl) ?_
  refine lv_iconst (v := 1) hx hb dX12_step_11 (by decide) ?_
  refine lv_lshl (v := x0 <<< ((1 : Int32).toInt64 &&& 63)) hx hb dX12_step_12 rfl ?_
  refine lv_lconst (v := 1) hx hb dX12_step_13 (by decide) ?_
  refine lv_iload_n hx hb dX12_step_14 rfl (lv_at hl 3 rfl) ?_
  refine lv_lshl (v := (1 : Int64) <<< (x3.toInt64 &&& 63)) hx hb dX12_step_15 rfl ?_
  refine lv_lconst (v := 1) hx hb dX12_step_16 (by decide) ?_
  refine lv_lsub hx hb dX12_step_17 ?_
  refine lv_land hx hb dX12_step_18 ?_
  refine lv_lstore (lv' := [(8, .long ((x0 <<< ((1 : Int32).toInt64 &&& 63)) &&& (((1 : Int64) <<< (x3.toInt64 &&& 63)) - 1))), (6, .long (((x0.toUInt64 >>> ((x3 - 1).toInt64.toUInt64 &&& Int64.toUInt64 63)).toInt64) ^^^ x2.toInt64)), (0, .long x0), (2, .int x2), (3, .int x3), (4, .long x4)]) hx hb dX12_step_19 hl (by decide) rfl (fun ls hl => ?_)
  refine lv_lload hx hb dX12_step_21 (lv_at hl 1 rfl) ?_
  refine lv_lconst (v := 1) hx hb dX12_step_23 (by decide) ?_
  refine W.lcmp hx hb dX12_step_24 ?_
  refine lv_if_ne (tgt := 36) hx hb dX12_step_25 (by decide) (fun b1 => ?_) (fun b1 => ?_)
  · have b1 := fun h9 => b1 ((lg_cmp_eq _ _).mpr h9)
    have hm := i_f b1 hm
    refine lv_lload hx hb dX12_step_36 (lv_at hl 0 rfl) ?_
    have hq := hm
    subst hq; subst hQ
    exact k_lret hx hb hr hlocks hP hD hS rfl dX12_step_38
  · have b1 := (lg_cmp_eq _ _).mp b1
    have hm := i_t b1 hm
    refine lv_lload hx hb dX12_step_28 (lv_at hl 0 rfl) ?_
    refine lv_lload hx hb dX12_step_30 (lv_at hl 5 rfl) ?_
    refine lv_lxor hx hb dX12_step_32 ?_
    refine lv_goto (tgt := 38) hx hb dX12_step_33 (by decide) ?_
    have hq := hm
    subst hq; subst hQ
    exact k_lret hx hb hr hlocks hP hD hS rfl dX12_step_38

theorem hd_X12_stepByte : yX12_stepByte.cls ≠ "java/lang/invoke/MethodHandle" ∧ yX12_stepByte.cls ≠ "java/lang/invoke/VarHandle" ∧ (parseMethodDescriptor yX12_stepByte.desc).map (fun d => d.parameters.length) = some 5 := by decide +kernel

def M_X12_stepByte_b6 (n : Nat) (x2 : Int32) (x3 : Int32) (x4 : Int64) (x6 : Int32) (x7 : Int64) (x9 : Int32) : Option ((Int64 × Int32) ⊕ Int64) :=
  if 8 ≤ x9 then (some (.inr x7)) else (if x6 = 0 then (some (.inl ((M_X12_step x7 ((x2 >>> ((7 - x9) &&& 31)) &&& 1) x3 x4), x9 + 1))) else (some (.inl ((M_X12_step x7 ((x2 >>> (x9 &&& 31)) &&& 1) x3 x4), x9 + 1))))

def M_X12_stepByte (n : Nat) (x0 : Int64) (x2 : Int32) (x3 : Int32) (x4 : Int64) (x6 : Int32)  : Option Int64 :=
  (lp (fun x : (Int64 × Int32) => M_X12_stepByte_b6 n x2 x3 x4 x6 x.1 x.2) n (x0, (0 : Int32))).bind fun o3 => some o3

abbrev rmX12_stepByte : Room := { frames := 1, cells := 0, slots := 0, locals := 29 }
set_option maxHeartbeats 4000000 in
set_option maxRecDepth 100000 in
theorem c_X12_stepByte (l : Launch) (G : va_G) (cs : CS) (sz : Nat)    (x0 : Int64) (x2 : Int32) (x3 : Int32) (x4 : Int64) (x6 : Int32) (n : Nat) (res : Int64) (hm : M_X12_stepByte n x0 x2 x3 x4 x6 = some res) : Met l yX12_stepByte wsX12_stepByte rmX12_stepByte (va_Pc [.long x0, .int x2, .int x3, .long x4, .int x6] (PreW G cs sz [] RN)) (QL G res [] (va_A [] sz)) 0 0 (va_A [] sz) := by
  refine k_enter (Qf := fun A => QL G res [] A) (cc := cX12_stepByte) (maxL := 11) (ret := (some .long)) (plainFor_of_name (by decide)) rfl (Nat.le_of_ble_eq_true rfl) ?_
  intro p e s m args below meth c A Q ls H locs hx hb hr hml hown hts hlocks hname hK hA hRo hP hD hS hQ hl
  have hl : lv_has ls 11 [(0, .long x0), (2, .int x2), (3, .int x3), (4, .long x4), (6, .int x6)] := hl
  have L6 : ∀ (x2 : Int32) (x3 : Int32) (x4 : Int64) (x6 : Int32) (x7 : Int64) (x9 : Int32) (out : Int64), lp (fun x : (Int64 × Int32) => M_X12_stepByte_b6 n x2 x3 x4 x6 x.1 x.2) n (x7, x9) = some out → (∀ (o : Int64), out = o → ∀ (H : Heap) (locs : List Loc), va_P G vwCl [] H → va_D A [] → va_S A s.heap H locs → ∀ (ls : Array Slot), lv_has ls 11 [(7, .long o)] → W p l e rmX12_stepByte s m args below meth c H locs 0 0 Q (F0 m 56 ls [])) → ∀ (H : Heap) (locs : List Loc), va_P G vwCl [] H → va_D A [] → va_S A s.heap H locs → ∀ (ls : Array Slot), lv_has ls 11 [(2, .int x2), (3, .int x3), (4, .long x4), (6, .int x6), (7, .long x7), (9, .int x9)] → W p l e rmX12_stepByte s m args below meth c H locs 0 0 Q (F0 m 6 ls []) := by
    intro x2 x3 x4 x6 x7 x9 out hlp hX
    refine lp_ind (fun x => ∀ (H : Heap) (locs : List Loc), va_P G vwCl [] H → va_D A [] → va_S A s.heap H locs → ∀ (ls : Array Slot), lv_has ls 11 [(2, .int x2), (3, .int x3), (4, .long x4), (6, .int x6), (7, .long x.1), (9, .int x.2)] → W p l e rmX12_stepByte s m args below meth c H locs 0 0 Q (F0 m 6 ls [])) ?_ n (x7, x9) hlp
    clear hlp hP hD hS hl
    rintro ⟨x7, x9⟩ ob hm hst H locs hP hD hS ls hl
    have hm : M_X12_stepByte_b6 n x2 x3 x4 x6 x7 x9 = some ob := hm
    have hl : lv_has ls 11 [(2, .int x2), (3, .int x3), (4, .long x4), (6, .int x6), (7, .long x7), (9, .int x9)] := hl
    have hP : va_P G vwCl [] H := hP
    have hD : va_D A [] := hD
    unfold M_X12_stepByte_b6 at hm
    refine lv_iload hx hb dX12_stepByte_6 (lv_at hl 5 rfl) ?_
    refine lv_bipush (v := 8) hx hb dX12_stepByte_8 (by decide) ?_
    refine lv_icmp_ge (tgt := 56) hx hb dX12_stepByte_10 (by decide) (fun b1 => ?_) (fun b1 => ?_)
    · have hm := i_t b1 hm
      exact hX _ (st_exit hm hst) H locs hP hD hS ls (lv_sub hl [4] rfl)
    · have hm := i_f b1 hm
      refine lv_iload hx hb dX12_stepByte_13 (lv_at hl 3 rfl) ?_
      refine lv_if_eq (tgt := 27) hx hb dX12_stepByte_15 (by decide) (fun b2 => ?_) (fun b2 => ?_)
      · have hm := i_t b2 hm
        refine lv_iload_n hx hb dX12_stepByte_27 rfl (lv_at hl 0 rfl) ?_
        refine lv_bipush (v := 7) hx hb dX12_stepByte_28 (by decide) ?_
        refine lv_iload hx hb dX12_stepByte_30 (lv_at hl 5 rfl) ?_
        refine lv_isub hx hb dX12_stepByte_32 ?_
        refine lv_ishr hx hb dX12_stepByte_33 ?_
        refine lv_iconst (v := 1) hx hb dX12_stepByte_34 (by decide) ?_
        refine lv_iand hx hb dX12_stepByte_35 ?_
        refine lv_istore (lv' := [(10, .int ((x2 >>> ((7 - x9) &&& 31)) &&& 1)), (2, .int x2), (3, .int x3), (4, .long x4), (6, .int x6), (7, .long x7), (9, .int x9)]) hx hb dX12_stepByte_36 hl (by decide) rfl (fun ls hl => ?_)
        refine lv_lload hx hb dX12_stepByte_38 (lv_at hl 5 rfl) ?_
        refine lv_iload hx hb dX12_stepByte_40 (lv_at hl 0 rfl) ?_
        refine lv_iload_n hx hb dX12_stepByte_42 rfl (lv_at hl 2 rfl) ?_
        refine lv_lload hx hb dX12_stepByte_43 (lv_at hl 3 rfl) ?_
        refine k_calll0 (va_runS (As := [.long x7, .int ((x2 >>> ((7 - x9) &&& 31)) &&& 1), .int x3, .long x4]) (rest := []) ⟨hx, hb, hml, hown, hts⟩ (c_X12_step l G cs H.size    x7 ((x2 >>> ((7 - x9) &&& 31)) &&& 1) x3 x4 _ rfl) (va_cwS 4 hts gX12_stepByte_X12_step rfl rfl rfl hd_X12_step ⟨Nat.le_of_ble_eq_true rfl, Nat.le_of_ble_eq_true rfl⟩) ⟨pre_blind, pre_w hK RO.nil P0 D0 (va_new0 hS hA)⟩ rfl rfl hl.1 rfl (lv_room (Nat.le_of_ble_eq_true rfl)) dX12_stepByte_45 ⟨Nat.zero_le _, Nat.zero_le _⟩) hP hS hA (fun H locs hP hS => ?_)
        refine lv_lstore (lv' := [(7, .long (M_X12_step x7 ((x2 >>> ((7 - x9) &&& 31)) &&& 1) x3 x4)), (10, .int ((x2 >>> ((7 - x9) &&& 31)) &&& 1)), (2, .int x2), (3, .int x3), (4, .long x4), (6, .int x6), (9, .int x9)]) hx hb dX12_stepByte_48 hl (by decide) rfl (fun ls hl => ?_)
        refine lv_iinc (v := x9 + 1) (lv' := [(9, .int (x9 + 1)), (7, .long (M_X12_step x7 ((x2 >>> ((7 - x9) &&& 31)) &&& 1) x3 x4)), (10, .int ((x2 >>> ((7 - x9) &&& 31)) &&& 1)), (2, .int x2), (3, .int x3), (4, .long x4), (6, .int x6)]) hx hb dX12_stepByte_50 hl (k := 6) rfl rfl (by decide) rfl (fun ls hl => ?_)
        refine lv_goto (tgt := 6) hx hb dX12_stepByte_53 (by decide) ?_
        exact st_next hm hst H locs hP hD hS ls (lv_sub hl [3, 4, 5, 6, 1, 0] rfl)
      · have hm := i_f b2 hm
        refine lv_iload_n hx hb dX12_stepByte_18 rfl (lv_at hl 0 rfl) ?_
        refine lv_iload hx hb dX12_stepByte_19 (lv_at hl 5 rfl) ?_
        refine lv_ishr hx hb dX12_stepByte_21 ?_
        refine lv_iconst (v := 1) hx hb dX12_stepByte_22 (by decide) ?_
        refine lv_iand hx hb dX12_stepByte_23 ?_
        refine lv_goto (tgt := 36) hx hb dX12_stepByte_24 (by decide) ?_
        refine lv_istore (lv' := [(10, .int ((x2 >>> (x9 &&& 31)) &&& 1)), (2, .int x2), (3, .int x3), (4, .long x4), (6, .int x6), (7, .long x7), (9, .int x9)]) hx hb dX12_stepByte_36 hl (by decide) rfl (fun ls hl => ?_)
        refine lv_lload hx hb dX12_stepByte_38 (lv_at hl 5 rfl) ?_
        refine lv_iload hx hb dX12_stepByte_40 (lv_at hl 0 rfl) ?_
        refine lv_iload_n hx hb dX12_stepByte_42 rfl (lv_at hl 2 rfl) ?_
        refine lv_lload hx hb dX12_stepByte_43 (lv_at hl 3 rfl) ?_
        refine k_calll0 (va_runS (As := [.long x7, .int ((x2 >>> (x9 &&& 31)) &&& 1), .int x3, .long x4]) (rest := []) ⟨hx, hb, hml, hown, hts⟩ (c_X12_step l G cs H.size    x7 ((x2 >>> (x9 &&& 31)) &&& 1) x3 x4 _ rfl) (va_cwS 4 hts gX12_stepByte_X12_step rfl rfl rfl hd_X12_step ⟨Nat.le_of_ble_eq_true rfl, Nat.le_of_ble_eq_true rfl⟩) ⟨pre_blind, pre_w hK RO.nil P0 D0 (va_new0 hS hA)⟩ rfl rfl hl.1 rfl (lv_room (Nat.le_of_ble_eq_true rfl)) dX12_stepByte_45 ⟨Nat.zero_le _, Nat.zero_le _⟩) hP hS hA (fun H locs hP hS => ?_)
        refine lv_lstore (lv' := [(7, .long (M_X12_step x7 ((x2 >>> (x9 &&& 31)) &&& 1) x3 x4)), (10, .int ((x2 >>> (x9 &&& 31)) &&& 1)), (2, .int x2), (3, .int x3), (4, .long x4), (6, .int x6), (9, .int x9)]) hx hb dX12_stepByte_48 hl (by decide) rfl (fun ls hl => ?_)
        refine lv_iinc (v := x9 + 1) (lv' := [(9, .int (x9 + 1)), (7, .long (M_X12_step x7 ((x2 >>> (x9 &&& 31)) &&& 1) x3 x4)), (10, .int ((x2 >>> (x9 &&& 31)) &&& 1)), (2, .int x2), (3, .int x3), (4, .long x4), (6, .int x6)]) hx hb dX12_stepByte_50 hl (k := 6) rfl rfl (by decide) rfl (fun ls hl => ?_)
        refine lv_goto (tgt := 6) hx hb dX12_stepByte_53 (by decide) ?_
        exact st_next hm hst H locs hP hD hS ls (lv_sub hl [3, 4, 5, 6, 1, 0] rfl)
  unfold M_X12_stepByte at hm
  refine lv_lload_n hx hb dX12_stepByte_0 rfl (lv_at hl 0 rfl) ?_
  refine lv_lstore (lv' := [(7, .long x0), (0, .long x0), (2, .int x2), (3, .int x3), (4, .long x4), (6, .int x6)]) hx hb dX12_stepByte_1 hl (by decide) rfl (fun ls hl => ?_)
  refine lv_iconst (v := 0) hx hb dX12_stepByte_3 (by decide) ?_
  refine lv_istore (lv' := [(9, .int 0), (7, .long x0), (0, .long x0), (2, .int x2), (3, .int x3), (4, .long x4), (6, .int x6)]) hx hb dX12_stepByte_4 hl (by decide) rfl (fun ls hl => ?_)
  obtain ⟨o3, hlp3, hm⟩ := bs hm
  refine L6 x2 x3 x4 x6 x0 (0 : Int32) o3 hlp3 (fun oo ho => ?_) H locs hP hD hS ls (lv_sub hl [3, 4, 5, 6, 1, 0] rfl)
  subst ho
  intro H locs hP hD hS ls hl
  have hl : lv_has ls 11 [(7, .long o3)] := hl
  have hP : va_P G vwCl [] H := hP
  have hD : va_D A [] := hD
  refine lv_lload hx hb dX12_stepByte_56 (lv_at hl 0 rfl) ?_
  have hq := Option.some.inj hm
  subst hq; subst hQ
  exact k_lret hx hb hr hlocks hP hD hS rfl dX12_stepByte_58

theorem hd_X12_passed : yX12_passed.cls ≠ "java/lang/invoke/MethodHandle" ∧ yX12_passed.cls ≠ "java/lang/invoke/VarHandle" ∧ (parseMethodDescriptor yX12_passed.desc).map (fun d => d.parameters.length) = some 3 := by decide +kernel

def M_X12_passed_b6 (n : Nat) (x1 : Int32) (x4 : Int32) (v_bitsOf : (Nat → Int32)) (v_polyOf : (Nat → Int64)) (x5 : Int64) (x7 : Int32) : Option ((Int64 × Int32) ⊕ Int64) :=
  if (8 * x4) ≤ x7 then (some (.inr x5)) else (if x1 < 0 ∨ 16 ≤ x1.toNatClampNeg then none else if x1 < 0 ∨ 16 ≤ x1.toNatClampNeg then none else some (.inl ((M_X12_step x5 (0 : Int32) (v_bitsOf x1.toNatClampNeg) (v_polyOf x1.toNatClampNeg)), x7 + 1)))

def M_X12_passed (n : Nat) (x1 : Int32) (x2 : Int64) (x4 : Int32) (v_bitsOf : (Nat → Int32)) (v_polyOf : (Nat → Int64)) : Option Int64 :=
  (lp (fun x : (Int64 × Int32) => M_X12_passed_b6 n x1 x4 v_bitsOf v_polyOf x.1 x.2) n (x2, (0 : Int32))).bind fun o4 => some o4

abbrev rmX12_passed : Room := { frames := 1, cells := 0, slots := 0, locals := 29 }
set_option maxHeartbeats 4000000 in
set_option maxRecDepth 100000 in
theorem c_X12_passed (l : Launch) (G : va_G) (cs : CS) (q : Nat → Nat) (sz : Nat) (v_told : Int32) (v_tell : (Nat → Int32)) (v_sums : Int32) (v_kindOf : (Nat → Int32)) (v_modOf : (Nat → Int32)) (v_bitsOf : (Nat → Int32)) (v_turnOf : (Nat → Int32)) (v_polyOf : (Nat → Int64)) (v_beginOf : (Nat → Int64)) (v_finishOf : (Nat → Int64)) (v_isLow : (Nat → Int32)) (v_weightsOf : (Nat → Int32)) (v_weight : (Nat → Int32)) (v_cell : (Nat → Int32)) (v_size : Int32) (v_row : (Nat → Int32)) (v_keptSize : Int32) (v_keptBefore : (Nat → Int32)) (v_keptAfter : (Nat → Int32)) (v_placeA : (Nat → Int64)) (v_placeB : (Nat → Int64)) (v_turned : (Nat → Int32)) (v_turnedMany : Int32) (v_syndromes : (Nat → Int64)) (v_lightest : (Nat → Int32)) (v_freeMany : Int32) (v_freePlace : (Nat → Int32)) (v_freeSyndrome : (Nat → Int64)) (v_ways : (Nat → Int32)) (v_waysKept : Int32) (v_trace : (Nat → Int32)) (v_comesA : Int64) (v_comesB : Int64)   (x1 : Int32) (x2 : Int64) (x4 : Int32) (n : Nat) (res : Int64) (hm : M_X12_passed n x1 x2 x4 v_bitsOf v_polyOf = some res) : Met l yX12_passed wsX12_passed rmX12_passed (va_Pc [.ref (q 0), .int x1, .long x2, .int x4] (PreW G cs sz (ww_M q cs v_told v_tell v_sums v_kindOf v_modOf v_bitsOf v_turnOf v_polyOf v_beginOf v_finishOf v_isLow v_weightsOf v_weight v_cell v_size v_row v_keptSize v_keptBefore v_keptAfter v_placeA v_placeB v_turned v_turnedMany v_syndromes v_lightest v_freeMany v_freePlace v_freeSyndrome v_ways v_waysKept v_trace v_comesA v_comesB) RN)) (QL G res (ww_M q cs v_told v_tell v_sums v_kindOf v_modOf v_bitsOf v_turnOf v_polyOf v_beginOf v_finishOf v_isLow v_weightsOf v_weight v_cell v_size v_row v_keptSize v_keptBefore v_keptAfter v_placeA v_placeB v_turned v_turnedMany v_syndromes v_lightest v_freeMany v_freePlace v_freeSyndrome v_ways v_waysKept v_trace v_comesA v_comesB) (va_A (ww_M q cs v_told v_tell v_sums v_kindOf v_modOf v_bitsOf v_turnOf v_polyOf v_beginOf v_finishOf v_isLow v_weightsOf v_weight v_cell v_size v_row v_keptSize v_keptBefore v_keptAfter v_placeA v_placeB v_turned v_turnedMany v_syndromes v_lightest v_freeMany v_freePlace v_freeSyndrome v_ways v_waysKept v_trace v_comesA v_comesB) sz)) 0 0 (va_A (ww_M q cs v_told v_tell v_sums v_kindOf v_modOf v_bitsOf v_turnOf v_polyOf v_beginOf v_finishOf v_isLow v_weightsOf v_weight v_cell v_size v_row v_keptSize v_keptBefore v_keptAfter v_placeA v_placeB v_turned v_turnedMany v_syndromes v_lightest v_freeMany v_freePlace v_freeSyndrome v_ways v_waysKept v_trace v_comesA v_comesB) sz) := by
  refine k_enter (Qf := fun A => QL G res (ww_M q cs v_told v_tell v_sums v_kindOf v_modOf v_bitsOf v_turnOf v_polyOf v_beginOf v_finishOf v_isLow v_weightsOf v_weight v_cell v_size v_row v_keptSize v_keptBefore v_keptAfter v_placeA v_placeB v_turned v_turnedMany v_syndromes v_lightest v_freeMany v_freePlace v_freeSyndrome v_ways v_waysKept v_trace v_comesA v_comesB) A) (cc := cX12_passed) (maxL := 8) (ret := (some .long)) (plainFor_of_name (by decide)) rfl (Nat.le_of_ble_eq_true rfl) ?_
  intro p e s m args below meth c A Q ls H locs hx hb hr hml hown hts hlocks hname hK hA hRo hP hD hS hQ hl
  have hl : lv_has ls 8 [(0, .ref (q 0)), (1, .int x1), (2, .long x2), (4, .int x4)] := hl
  have wd1 := hts (.fieldLink RX12 19 "SumSmithModel" "bitsOf" "[I") (List.mem_of_getElem? (i := 1) rfl)
  have wd2 := hts (.fieldLink RX12 25 "SumSmithModel" "polyOf" "[J") (List.mem_of_getElem? (i := 2) rfl)
  have hinX12 : ∀ w ∈ wsX120, w ∈ wsX12_passed := fun w h => List.mem_cons_of_mem _ (List.mem_append_right _ h)
  have L6 : ∀ (x1 : Int32) (x4 : Int32) (x5 : Int64) (x7 : Int32) (out : Int64), lp (fun x : (Int64 × Int32) => M_X12_passed_b6 n x1 x4 v_bitsOf v_polyOf x.1 x.2) n (x5, x7) = some out → (∀ (o : Int64), out = o → ∀ (H : Heap) (locs : List Loc), va_P G vwCl (ww_M q cs v_told v_tell v_sums v_kindOf v_modOf v_bitsOf v_turnOf v_polyOf v_beginOf v_finishOf v_isLow v_weightsOf v_weight v_cell v_size v_row v_keptSize v_keptBefore v_keptAfter v_placeA v_placeB v_turned v_turnedMany v_syndromes v_lightest v_freeMany v_freePlace v_freeSyndrome v_ways v_waysKept v_trace v_comesA v_comesB) H → va_D A (ww_M q cs v_told v_tell v_sums v_kindOf v_modOf v_bitsOf v_turnOf v_polyOf v_beginOf v_finishOf v_isLow v_weightsOf v_weight v_cell v_size v_row v_keptSize v_keptBefore v_keptAfter v_placeA v_placeB v_turned v_turnedMany v_syndromes v_lightest v_freeMany v_freePlace v_freeSyndrome v_ways v_waysKept v_trace v_comesA v_comesB) → va_S A s.heap H locs → ∀ (ls : Array Slot), lv_has ls 8 [(5, .long o)] → W p l e rmX12_passed s m args below meth c H locs 0 0 Q (F0 m 42 ls [])) → ∀ (H : Heap) (locs : List Loc), va_P G vwCl (ww_M q cs v_told v_tell v_sums v_kindOf v_modOf v_bitsOf v_turnOf v_polyOf v_beginOf v_finishOf v_isLow v_weightsOf v_weight v_cell v_size v_row v_keptSize v_keptBefore v_keptAfter v_placeA v_placeB v_turned v_turnedMany v_syndromes v_lightest v_freeMany v_freePlace v_freeSyndrome v_ways v_waysKept v_trace v_comesA v_comesB) H → va_D A (ww_M q cs v_told v_tell v_sums v_kindOf v_modOf v_bitsOf v_turnOf v_polyOf v_beginOf v_finishOf v_isLow v_weightsOf v_weight v_cell v_size v_row v_keptSize v_keptBefore v_keptAfter v_placeA v_placeB v_turned v_turnedMany v_syndromes v_lightest v_freeMany v_freePlace v_freeSyndrome v_ways v_waysKept v_trace v_comesA v_comesB) → va_S A s.heap H locs → ∀ (ls : Array Slot), lv_has ls 8 [(0, .ref (q 0)), (1, .int x1), (4, .int x4), (5, .long x5), (7, .int x7)] → W p l e rmX12_passed s m args below meth c H locs 0 0 Q (F0 m 6 ls []) := by
    intro x1 x4 x5 x7 out hlp hX
    refine lp_ind (fun x => ∀ (H : Heap) (locs : List Loc), va_P G vwCl (ww_M q cs v_told v_tell v_sums v_kindOf v_modOf v_bitsOf v_turnOf v_polyOf v_beginOf v_finishOf v_isLow v_weightsOf v_weight v_cell v_size v_row v_keptSize v_keptBefore v_keptAfter v_placeA v_placeB v_turned v_turnedMany v_syndromes v_lightest v_freeMany v_freePlace v_freeSyndrome v_ways v_waysKept v_trace v_comesA v_comesB) H → va_D A (ww_M q cs v_told v_tell v_sums v_kindOf v_modOf v_bitsOf v_turnOf v_polyOf v_beginOf v_finishOf v_isLow v_weightsOf v_weight v_cell v_size v_row v_keptSize v_keptBefore v_keptAfter v_placeA v_placeB v_turned v_turnedMany v_syndromes v_lightest v_freeMany v_freePlace v_freeSyndrome v_ways v_waysKept v_trace v_comesA v_comesB) → va_S A s.heap H locs → ∀ (ls : Array Slot), lv_has ls 8 [(0, .ref (q 0)), (1, .int x1), (4, .int x4), (5, .long x.1), (7, .int x.2)] → W p l e rmX12_passed s m args below meth c H locs 0 0 Q (F0 m 6 ls [])) ?_ n (x5, x7) hlp
    clear hlp hP hD hS hl
    rintro ⟨x5, x7⟩ ob hm hst H locs hP hD hS ls hl
    have hm : M_X12_passed_b6 n x1 x4 v_bitsOf v_polyOf x5 x7 = some ob := hm
    have hl : lv_has ls 8 [(0, .ref (q 0)), (1, .int x1), (4, .int x4), (5, .long x5), (7, .int x7)] := hl
    have hP : va_P G vwCl (ww_M q cs v_told v_tell v_sums v_kindOf v_modOf v_bitsOf v_turnOf v_polyOf v_beginOf v_finishOf v_isLow v_weightsOf v_weight v_cell v_size v_row v_keptSize v_keptBefore v_keptAfter v_placeA v_placeB v_turned v_turnedMany v_syndromes v_lightest v_freeMany v_freePlace v_freeSyndrome v_ways v_waysKept v_trace v_comesA v_comesB) H := hP
    have hD : va_D A (ww_M q cs v_told v_tell v_sums v_kindOf v_modOf v_bitsOf v_turnOf v_polyOf v_beginOf v_finishOf v_isLow v_weightsOf v_weight v_cell v_size v_row v_keptSize v_keptBefore v_keptAfter v_placeA v_placeB v_turned v_turnedMany v_syndromes v_lightest v_freeMany v_freePlace v_freeSyndrome v_ways v_waysKept v_trace v_comesA v_comesB) := hD
    unfold M_X12_passed_b6 at hm
    refine lv_iload hx hb dX12_passed_6 (lv_at hl 4 rfl) ?_
    refine lv_bipush (v := 8) hx hb dX12_passed_8 (by decide) ?_
    refine lv_iload hx hb dX12_passed_10 (lv_at hl 2 rfl) ?_
    refine lv_imul hx hb dX12_passed_12 ?_
    refine lv_icmp_ge (tgt := 42) hx hb dX12_passed_13 (by decide) (fun b1 => ?_) (fun b1 => ?_)
    · have hm := i_t b1 hm
      exact hX _ (st_exit hm hst) H locs hP hD hS ls (lv_sub hl [3] rfl)
    · have hm := i_f b1 hm
      refine lv_lload hx hb dX12_passed_16 (lv_at hl 3 rfl) ?_
      refine lv_iconst (v := 0) hx hb dX12_passed_18 (by decide) ?_
      refine lv_aload_n hx hb dX12_passed_19 rfl (lv_at hl 0 rfl) ?_
      refine va_get (D := G) (ci := 10) (v := .ref (q 4)) (C := RX12) (T := TX12) (N := 33) hx hb hts hinX12 hown hK.1 hP 0 rfl rfl 5 (by decide) wd1 (fun _ h9 => h9) rfl dX12_passed_20 ?_
      refine lv_iload_n hx hb dX12_passed_23 rfl (lv_at hl 1 rfl) ?_
      obtain ⟨h2, hm⟩ := g_in hm
      refine va_iald hx hb hK.1 hP 4 0 rfl rfl h2 dX12_passed_24 ?_
      refine lv_aload_n hx hb dX12_passed_25 rfl (lv_at hl 0 rfl) ?_
      refine va_get (D := G) (ci := 10) (v := .ref (q 6)) (C := RX12) (T := TX12) (N := 33) hx hb hts hinX12 hown hK.1 hP 0 rfl rfl 7 (by decide) wd2 (fun _ h9 => h9) rfl dX12_passed_26 ?_
      refine lv_iload_n hx hb dX12_passed_29 rfl (lv_at hl 1 rfl) ?_
      obtain ⟨h3, hm⟩ := g_in hm
      refine va_lald hx hb hK.1 hP 6 1 rfl rfl h3 dX12_passed_30 ?_
      refine k_calll0 (va_runS (As := [.long x5, .int 0, .int (v_bitsOf x1.toNatClampNeg), .long (v_polyOf x1.toNatClampNeg)]) (rest := []) ⟨hx, hb, hml, hown, hts⟩ (c_X12_step l G cs H.size    x5 (0 : Int32) (v_bitsOf x1.toNatClampNeg) (v_polyOf x1.toNatClampNeg) _ rfl) (va_cwS 4 hts gX12_passed_X12_step rfl rfl rfl hd_X12_step ⟨Nat.le_of_ble_eq_true rfl, Nat.le_of_ble_eq_true rfl⟩) ⟨pre_blind, pre_w hK RO.nil P0 D0 (va_new0 hS hA)⟩ rfl rfl hl.1 rfl (lv_room (Nat.le_of_ble_eq_true rfl)) dX12_passed_31 ⟨Nat.zero_le _, Nat.zero_le _⟩) hP hS hA (fun H locs hP hS => ?_)
      refine lv_lstore (lv' := [(5, .long (M_X12_step x5 (0 : Int32) (v_bitsOf x1.toNatClampNeg) (v_polyOf x1.toNatClampNeg))), (0, .ref (q 0)), (1, .int x1), (4, .int x4), (7, .int x7)]) hx hb dX12_passed_34 hl (by decide) rfl (fun ls hl => ?_)
      refine lv_iinc (v := x7 + 1) (lv' := [(7, .int (x7 + 1)), (5, .long (M_X12_step x5 (0 : Int32) (v_bitsOf x1.toNatClampNeg) (v_polyOf x1.toNatClampNeg))), (0, .ref (q 0)), (1, .int x1), (4, .int x4)]) hx hb dX12_passed_36 hl (k := 4) rfl rfl (by decide) rfl (fun ls hl => ?_)
      refine lv_goto (tgt := 6) hx hb dX12_passed_39 (by decide) ?_
      exact st_next hm hst H locs hP hD hS ls (lv_sub hl [2, 3, 4, 1, 0] rfl)
  unfold M_X12_passed at hm
  refine lv_lload_n hx hb dX12_passed_0 rfl (lv_at hl 2 rfl) ?_
  refine lv_lstore (lv' := [(5, .long x2), (0, .ref (q 0)), (1, .int x1), (2, .long x2), (4, .int x4)]) hx hb dX12_passed_1 hl (by decide) rfl (fun ls hl => ?_)
  refine lv_iconst (v := 0) hx hb dX12_passed_3 (by decide) ?_
  refine lv_istore (lv' := [(7, .int 0), (5, .long x2), (0, .ref (q 0)), (1, .int x1), (2, .long x2), (4, .int x4)]) hx hb dX12_passed_4 hl (by decide) rfl (fun ls hl => ?_)
  obtain ⟨o4, hlp4, hm⟩ := bs hm
  refine L6 x1 x4 x2 (0 : Int32) o4 hlp4 (fun oo ho => ?_) H locs hP hD hS ls (lv_sub hl [2, 3, 5, 1, 0] rfl)
  subst ho
  intro H locs hP hD hS ls hl
  have hl : lv_has ls 8 [(5, .long o4)] := hl
  have hP : va_P G vwCl (ww_M q cs v_told v_tell v_sums v_kindOf v_modOf v_bitsOf v_turnOf v_polyOf v_beginOf v_finishOf v_isLow v_weightsOf v_weight v_cell v_size v_row v_keptSize v_keptBefore v_keptAfter v_placeA v_placeB v_turned v_turnedMany v_syndromes v_lightest v_freeMany v_freePlace v_freeSyndrome v_ways v_waysKept v_trace v_comesA v_comesB) H := hP
  have hD : va_D A (ww_M q cs v_told v_tell v_sums v_kindOf v_modOf v_bitsOf v_turnOf v_polyOf v_beginOf v_finishOf v_isLow v_weightsOf v_weight v_cell v_size v_row v_keptSize v_keptBefore v_keptAfter v_placeA v_placeB v_turned v_turnedMany v_syndromes v_lightest v_freeMany v_freePlace v_freeSyndrome v_ways v_waysKept v_trace v_comesA v_comesB) := hD
  refine lv_lload hx hb dX12_passed_42 (lv_at hl 0 rfl) ?_
  have hq := Option.some.inj hm
  subst hq; subst hQ
  exact k_lret hx hb hr hlocks hP hD hS rfl dX12_passed_44

theorem hd_X12_sumOf : yX12_sumOf.cls ≠ "java/lang/invoke/MethodHandle" ∧ yX12_sumOf.cls ≠ "java/lang/invoke/VarHandle" ∧ (parseMethodDescriptor yX12_sumOf.desc).map (fun d => d.parameters.length) = some 3 := by decide +kernel

def M_X12_sumOf_b46 (n : Nat) (x1 : Int32) (x3 : Int32) (x4 : Int32) (x5 : Int32) (v_bitsOf : (Nat → Int32)) (v_turnOf : (Nat → Int32)) (v_polyOf : (Nat → Int64)) (v_isLow : (Nat → Int32)) (v_weightsOf : (Nat → Int32)) (v_weight : (Nat → Int32)) (v_cell : (Nat → Int32)) (v_row : (Nat → Int32)) (x6 : Int64) (x8 : Int64) (x10 : Int32) : Option ((Int64 × Int64 × Int32) ⊕ ((Int64 × Int64) ⊕ Int64)) :=
  if x3 ≤ x10 then (some (.inr (.inl (x6, x8)))) else (if x4 = 0 then (if x10 < 0 ∨ 64 ≤ x10.toNatClampNeg then none else if x5.toInt64 = 0 then none else some (.inl ((x6 + ((v_row x10.toNatClampNeg).toInt64)) - (x6 + ((v_row x10.toNatClampNeg).toInt64)) / x5.toInt64 * x5.toInt64, x8, x10 + 1))) else (if x4 = 1 then (if x10 < 0 ∨ 64 ≤ x10.toNatClampNeg then none else if x5.toInt64 = 0 then none else if x5.toInt64 = 0 then none else some (.inl ((x6 + ((v_row x10.toNatClampNeg).toInt64)) - (x6 + ((v_row x10.toNatClampNeg).toInt64)) / x5.toInt64 * x5.toInt64, (x8 + ((x6 + ((v_row x10.toNatClampNeg).toInt64)) - (x6 + ((v_row x10.toNatClampNeg).toInt64)) / x5.toInt64 * x5.toInt64)) - (x8 + ((x6 + ((v_row x10.toNatClampNeg).toInt64)) - (x6 + ((v_row x10.toNatClampNeg).toInt64)) / x5.toInt64 * x5.toInt64)) / x5.toInt64 * x5.toInt64, x10 + 1))) else (if x4 = 2 then (if x1 < 0 ∨ 16 ≤ x1.toNatClampNeg then none else if (v_weightsOf x1.toNatClampNeg) = 0 then none else if ((12 * x1) + (x10 - x10 / (v_weightsOf x1.toNatClampNeg) * (v_weightsOf x1.toNatClampNeg))) < 0 ∨ 192 ≤ ((12 * x1) + (x10 - x10 / (v_weightsOf x1.toNatClampNeg) * (v_weightsOf x1.toNatClampNeg))).toNatClampNeg then none else if x10 < 0 ∨ 64 ≤ x10.toNatClampNeg then none else if x5.toInt64 = 0 then none else some (.inl ((x6 + (((v_weight ((12 * x1) + (x10 - x10 / (v_weightsOf x1.toNatClampNeg) * (v_weightsOf x1.toNatClampNeg))).toNatClampNeg).toInt64) * ((v_row x10.toNatClampNeg).toInt64))) - (x6 + (((v_weight ((12 * x1) + (x10 - x10 / (v_weightsOf x1.toNatClampNeg) * (v_weightsOf x1.toNatClampNeg))).toNatClampNeg).toInt64) * ((v_row x10.toNatClampNeg).toInt64))) / x5.toInt64 * x5.toInt64, x8, x10 + 1))) else (if x4 = 3 then (if x1 < 0 ∨ 16 ≤ x1.toNatClampNeg then none else if x1 < 0 ∨ 16 ≤ x1.toNatClampNeg then none else (M_X12_rolled x6 (v_turnOf x1.toNatClampNeg) (v_bitsOf x1.toNatClampNeg)).bind fun r22 => if x10 < 0 ∨ 64 ≤ x10.toNatClampNeg then none else some (.inl (r22 ^^^ ((v_row x10.toNatClampNeg).toInt64), x8, x10 + 1))) else (if x4 = 4 then (if x10 < 0 ∨ 64 ≤ x10.toNatClampNeg then none else if x1 < 0 ∨ 16 ≤ x1.toNatClampNeg then none else if x1 < 0 ∨ 16 ≤ x1.toNatClampNeg then none else if x1 < 0 ∨ 16 ≤ x1.toNatClampNeg then none else (M_X12_stepByte n x6 (v_row x10.toNatClampNeg) (v_bitsOf x1.toNatClampNeg) (v_polyOf x1.toNatClampNeg) (v_isLow x1.toNatClampNeg)).bind fun r29 => some (.inl (r29, x8, x10 + 1))) else (if x4 = 5 then (if x10 < 0 ∨ 64 ≤ x10.toNatClampNeg then none else if x1 < 0 ∨ 16 ≤ x1.toNatClampNeg then none else if x1 < 0 ∨ 16 ≤ x1.toNatClampNeg then none else if x1 < 0 ∨ 16 ≤ x1.toNatClampNeg then none else (M_X12_stepByte n x6 (v_row x10.toNatClampNeg) (v_bitsOf x1.toNatClampNeg) (v_polyOf x1.toNatClampNeg) (v_isLow x1.toNatClampNeg)).bind fun r35 => some (.inl (r35, x8, x10 + 1))) else (if x4 = 6 then (if x10 < 0 ∨ 64 ≤ x10.toNatClampNeg then none else if (v_row x10.toNatClampNeg) < x5 then (if x10 < 0 ∨ 64 ≤ x10.toNatClampNeg then none else if (((100 * x1) + (x6.toInt32 * x5)) + (v_row x10.toNatClampNeg)) < 0 ∨ 1600 ≤ (((100 * x1) + (x6.toInt32 * x5)) + (v_row x10.toNatClampNeg)).toNatClampNeg then none else some (.inl ((v_cell (((100 * x1) + (x6.toInt32 * x5)) + (v_row x10.toNatClampNeg)).toNatClampNeg).toInt64, x8, x10 + 1))) else (some (.inr (.inr (-5))))) else (if x10 < 0 ∨ 64 ≤ x10.toNatClampNeg then none else if x1 < 0 ∨ 16 ≤ x1.toNatClampNeg then none else if x1 < 0 ∨ 16 ≤ x1.toNatClampNeg then none else if x1 < 0 ∨ 16 ≤ x1.toNatClampNeg then none else (M_X12_stepByte n x6 (v_row x10.toNatClampNeg) (v_bitsOf x1.toNatClampNeg) (v_polyOf x1.toNatClampNeg) (v_isLow x1.toNatClampNeg)).bind fun r45 => some (.inl (r45, x8, x10 + 1))))))))))

def M_X12_sumOf (n : Nat) (x1 : Int32) (x3 : Int32) (v_kindOf : (Nat → Int32)) (v_modOf : (Nat → Int32)) (v_bitsOf : (Nat → Int32)) (v_turnOf : (Nat → Int32)) (v_polyOf : (Nat → Int64)) (v_beginOf : (Nat → Int64)) (v_finishOf : (Nat → Int64)) (v_isLow : (Nat → Int32)) (v_weightsOf : (Nat → Int32)) (v_weight : (Nat → Int32)) (v_cell : (Nat → Int32)) (v_row : (Nat → Int32)) : Option Int64 :=
  if x1 < 0 ∨ 16 ≤ x1.toNatClampNeg then none else if x1 < 0 ∨ 16 ≤ x1.toNatClampNeg then none else if (v_kindOf x1.toNatClampNeg) = 4 then (if x1 < 0 ∨ 16 ≤ x1.toNatClampNeg then none else (lp (fun x : (Int64 × Int64 × Int32) => M_X12_sumOf_b46 n x1 x3 (v_kindOf x1.toNatClampNeg) (v_modOf x1.toNatClampNeg) v_bitsOf v_turnOf v_polyOf v_isLow v_weightsOf v_weight v_cell v_row x.1 x.2.1 x.2.2) n ((v_beginOf x1.toNatClampNeg), (0 : Int64), (0 : Int32))).bind (Sum.elim (fun o46 => if (v_kindOf x1.toNatClampNeg) = 1 then (some ((65536 * o46.2) + o46.1)) else (if (v_kindOf x1.toNatClampNeg) = 4 then (if x1 < 0 ∨ 16 ≤ x1.toNatClampNeg then none else some (o46.1 ^^^ (v_finishOf x1.toNatClampNeg))) else (if (v_kindOf x1.toNatClampNeg) = 5 then (if x1 < 0 ∨ 16 ≤ x1.toNatClampNeg then none else some (o46.1 ^^^ (v_finishOf x1.toNatClampNeg))) else (some o46.1)))) (fun r => some r))) else (if (v_kindOf x1.toNatClampNeg) = 5 then (if x1 < 0 ∨ 16 ≤ x1.toNatClampNeg then none else (lp (fun x : (Int64 × Int64 × Int32) => M_X12_sumOf_b46 n x1 x3 (v_kindOf x1.toNatClampNeg) (v_modOf x1.toNatClampNeg) v_bitsOf v_turnOf v_polyOf v_isLow v_weightsOf v_weight v_cell v_row x.1 x.2.1 x.2.2) n ((v_beginOf x1.toNatClampNeg), (0 : Int64), (0 : Int32))).bind (Sum.elim (fun o60 => if (v_kindOf x1.toNatClampNeg) = 1 then (some ((65536 * o60.2) + o60.1)) else (if (v_kindOf x1.toNatClampNeg) = 4 then (if x1 < 0 ∨ 16 ≤ x1.toNatClampNeg then none else some (o60.1 ^^^ (v_finishOf x1.toNatClampNeg))) else (if (v_kindOf x1.toNatClampNeg) = 5 then (if x1 < 0 ∨ 16 ≤ x1.toNatClampNeg then none else some (o60.1 ^^^ (v_finishOf x1.toNatClampNeg))) else (some o60.1)))) (fun r => some r))) else ((lp (fun x : (Int64 × Int64 × Int32) => M_X12_sumOf_b46 n x1 x3 (v_kindOf x1.toNatClampNeg) (v_modOf x1.toNatClampNeg) v_bitsOf v_turnOf v_polyOf v_isLow v_weightsOf v_weight v_cell v_row x.1 x.2.1 x.2.2) n ((0 : Int64), (0 : Int64), (0 : Int32))).bind (Sum.elim (fun o53 => if (v_kindOf x1.toNatClampNeg) = 1 then (some ((65536 * o53.2) + o53.1)) else (if (v_kindOf x1.toNatClampNeg) = 4 then (if x1 < 0 ∨ 16 ≤ x1.toNatClampNeg then none else some (o53.1 ^^^ (v_finishOf x1.toNatClampNeg))) else (if (v_kindOf x1.toNatClampNeg) = 5 then (if x1 < 0 ∨ 16 ≤ x1.toNatClampNeg then none else some (o53.1 ^^^ (v_finishOf x1.toNatClampNeg))) else (some o53.1)))) (fun r => some r))))

abbrev rmX12_sumOf : Room := { frames := 2, cells := 0, slots := 0, locals := 59 }
set_option maxHeartbeats 4000000 in
set_option maxRecDepth 100000 in
theorem c_X12_sumOf (l : Launch) (G : va_G) (cs : CS) (q : Nat → Nat) (sz : Nat) (v_told : Int32) (v_tell : (Nat → Int32)) (v_sums : Int32) (v_kindOf : (Nat → Int32)) (v_modOf : (Nat → Int32)) (v_bitsOf : (Nat → Int32)) (v_turnOf : (Nat → Int32)) (v_polyOf : (Nat → Int64)) (v_beginOf : (Nat → Int64)) (v_finishOf : (Nat → Int64)) (v_isLow : (Nat → Int32)) (v_weightsOf : (Nat → Int32)) (v_weight : (Nat → Int32)) (v_cell : (Nat → Int32)) (v_size : Int32) (v_row : (Nat → Int32)) (v_keptSize : Int32) (v_keptBefore : (Nat → Int32)) (v_keptAfter : (Nat → Int32)) (v_placeA : (Nat → Int64)) (v_placeB : (Nat → Int64)) (v_turned : (Nat → Int32)) (v_turnedMany : Int32) (v_syndromes : (Nat → Int64)) (v_lightest : (Nat → Int32)) (v_freeMany : Int32) (v_freePlace : (Nat → Int32)) (v_freeSyndrome : (Nat → Int64)) (v_ways : (Nat → Int32)) (v_waysKept : Int32) (v_trace : (Nat → Int32)) (v_comesA : Int64) (v_comesB : Int64)   (x1 : Int32) (x3 : Int32) (n : Nat) (res : Int64) (hm : M_X12_sumOf n x1 x3 v_kindOf v_modOf v_bitsOf v_turnOf v_polyOf v_beginOf v_finishOf v_isLow v_weightsOf v_weight v_cell v_row = some res) : Met l yX12_sumOf wsX12_sumOf rmX12_sumOf (va_Pc [.ref (q 0), .int x1, .ref (q 13), .int x3] (PreW G cs sz (ww_M q cs v_told v_tell v_sums v_kindOf v_modOf v_bitsOf v_turnOf v_polyOf v_beginOf v_finishOf v_isLow v_weightsOf v_weight v_cell v_size v_row v_keptSize v_keptBefore v_keptAfter v_placeA v_placeB v_turned v_turnedMany v_syndromes v_lightest v_freeMany v_freePlace v_freeSyndrome v_ways v_waysKept v_trace v_comesA v_comesB) RN)) (QL G res (ww_M q cs v_told v_tell v_sums v_kindOf v_modOf v_bitsOf v_turnOf v_polyOf v_beginOf v_finishOf v_isLow v_weightsOf v_weight v_cell v_size v_row v_keptSize v_keptBefore v_keptAfter v_placeA v_placeB v_turned v_turnedMany v_syndromes v_lightest v_freeMany v_freePlace v_freeSyndrome v_ways v_waysKept v_trace v_comesA v_comesB) (va_A (ww_M q cs v_told v_tell v_sums v_kindOf v_modOf v_bitsOf v_turnOf v_polyOf v_beginOf v_finishOf v_isLow v_weightsOf v_weight v_cell v_size v_row v_keptSize v_keptBefore v_keptAfter v_placeA v_placeB v_turned v_turnedMany v_syndromes v_lightest v_freeMany v_freePlace v_freeSyndrome v_ways v_waysKept v_trace v_comesA v_comesB) sz)) 0 0 (va_A (ww_M q cs v_told v_tell v_sums v_kindOf v_modOf v_bitsOf v_turnOf v_polyOf v_beginOf v_finishOf v_isLow v_weightsOf v_weight v_cell v_size v_row v_keptSize v_keptBefore v_keptAfter v_placeA v_placeB v_turned v_turnedMany v_syndromes v_lightest v_freeMany v_freePlace v_freeSyndrome v_ways v_waysKept v_trace v_comesA v_comesB) sz) := by
  refine k_enter (Qf := fun A => QL G res (ww_M q cs v_told v_tell v_sums v_kindOf v_modOf v_bitsOf v_turnOf v_polyOf v_beginOf v_finishOf v_isLow v_weightsOf v_weight v_cell v_size v_row v_keptSize v_keptBefore v_keptAfter v_placeA v_placeB v_turned v_turnedMany v_syndromes v_lightest v_freeMany v_freePlace v_freeSyndrome v_ways v_waysKept v_trace v_comesA v_comesB) A) (cc := cX12_sumOf) (maxL := 11) (ret := (some .long)) (plainFor_of_name (by decide)) rfl (Nat.le_of_ble_eq_true rfl) ?_
  intro p e s m args below meth c A Q ls H locs hx hb hr hml hown hts hlocks hname hK hA hRo hP hD hS hQ hl
  have hl : lv_has ls 11 [(0, .ref (q 0)), (1, .int x1), (2, .ref (q 13)), (3, .int x3)] := hl
  have wd1 := hts (.fieldLink RX12 13 "SumSmithModel" "kindOf" "[I") (List.mem_of_getElem? (i := 1) rfl)
  have wd2 := hts (.fieldLink RX12 16 "SumSmithModel" "modOf" "[I") (List.mem_of_getElem? (i := 2) rfl)
  have wd3 := hts (.fieldLink RX12 29 "SumSmithModel" "beginOf" "[J") (List.mem_of_getElem? (i := 3) rfl)
  have wd4 := hts (.fieldLink RX12 42 "SumSmithModel" "weight" "[I") (List.mem_of_getElem? (i := 4) rfl)
  have wd5 := hts (.fieldLink RX12 39 "SumSmithModel" "weightsOf" "[I") (List.mem_of_getElem? (i := 5) rfl)
  have wd6 := hts (.fieldLink RX12 22 "SumSmithModel" "turnOf" "[I") (List.mem_of_getElem? (i := 6) rfl)
  have wd7 := hts (.fieldLink RX12 19 "SumSmithModel" "bitsOf" "[I") (List.mem_of_getElem? (i := 7) rfl)
  have wd10 := hts (.fieldLink RX12 25 "SumSmithModel" "polyOf" "[J") (List.mem_of_getElem? (i := 10) rfl)
  have wd11 := hts (.fieldLink RX12 35 "SumSmithModel" "isLow" "[Z") (List.mem_of_getElem? (i := 11) rfl)
  have wd9 := hts (.fieldLink RX12 45 "SumSmithModel" "cell" "[I") (List.mem_of_getElem? (i := 9) rfl)
  have wd8 := hts (.constantLong RX12 136 (-5)) (List.mem_of_getElem? (i := 8) rfl)
  have wd13 := hts (.fieldLink RX12 32 "SumSmithModel" "finishOf" "[J") (List.mem_of_getElem? (i := 13) rfl)
  have wd12 := hts (.constantLong RX12 99 (65536)) (List.mem_of_getElem? (i := 12) rfl)
  have hinX12 : ∀ w ∈ wsX120, w ∈ wsX12_sumOf := fun w h => List.mem_cons_of_mem _ (List.mem_append_right _ h)
  have L46 : ∀ (x1 : Int32) (x3 : Int32) (x4 : Int32) (x5 : Int32) (x6 : Int64) (x8 : Int64) (x10 : Int32) (out : ((Int64 × Int64) ⊕ Int64)), lp (fun x : (Int64 × Int64 × Int32) => M_X12_sumOf_b46 n x1 x3 x4 x5 v_bitsOf v_turnOf v_polyOf v_isLow v_weightsOf v_weight v_cell v_row x.1 x.2.1 x.2.2) n (x6, x8, x10) = some out → (∀ r, out = .inr r → r = res) → (∀ (o : (Int64 × Int64)), out = .inl o → ∀ (H : Heap) (locs : List Loc), va_P G vwCl (ww_M q cs v_told v_tell v_sums v_kindOf v_modOf v_bitsOf v_turnOf v_polyOf v_beginOf v_finishOf v_isLow v_weightsOf v_weight v_cell v_size v_row v_keptSize v_keptBefore v_keptAfter v_placeA v_placeB v_turned v_turnedMany v_syndromes v_lightest v_freeMany v_freePlace v_freeSyndrome v_ways v_waysKept v_trace v_comesA v_comesB) H → va_D A (ww_M q cs v_told v_tell v_sums v_kindOf v_modOf v_bitsOf v_turnOf v_polyOf v_beginOf v_finishOf v_isLow v_weightsOf v_weight v_cell v_size v_row v_keptSize v_keptBefore v_keptAfter v_placeA v_placeB v_turned v_turnedMany v_syndromes v_lightest v_freeMany v_freePlace v_freeSyndrome v_ways v_waysKept v_trace v_comesA v_comesB) → va_S A s.heap H locs → ∀ (ls : Array Slot), lv_has ls 11 [(0, .ref (q 0)), (1, .int x1), (4, .int x4), (6, .long o.1), (8, .long o.2)] → W p l e rmX12_sumOf s m args below meth c H locs 0 0 Q (F0 m 282 ls [])) → ∀ (H : Heap) (locs : List Loc), va_P G vwCl (ww_M q cs v_told v_tell v_sums v_kindOf v_modOf v_bitsOf v_turnOf v_polyOf v_beginOf v_finishOf v_isLow v_weightsOf v_weight v_cell v_size v_row v_keptSize v_keptBefore v_keptAfter v_placeA v_placeB v_turned v_turnedMany v_syndromes v_lightest v_freeMany v_freePlace v_freeSyndrome v_ways v_waysKept v_trace v_comesA v_comesB) H → va_D A (ww_M q cs v_told v_tell v_sums v_kindOf v_modOf v_bitsOf v_turnOf v_polyOf v_beginOf v_finishOf v_isLow v_weightsOf v_weight v_cell v_size v_row v_keptSize v_keptBefore v_keptAfter v_placeA v_placeB v_turned v_turnedMany v_syndromes v_lightest v_freeMany v_freePlace v_freeSyndrome v_ways v_waysKept v_trace v_comesA v_comesB) → va_S A s.heap H locs → ∀ (ls : Array Slot), lv_has ls 11 [(0, .ref (q 0)), (1, .int x1), (2, .ref (q 13)), (3, .int x3), (4, .int x4), (5, .int x5), (6, .long x6), (8, .long x8), (10, .int x10)] → W p l e rmX12_sumOf s m args below meth c H locs 0 0 Q (F0 m 46 ls []) := by
    intro x1 x3 x4 x5 x6 x8 x10 out hlp hret hX
    refine lp_ind (fun x => ∀ (H : Heap) (locs : List Loc), va_P G vwCl (ww_M q cs v_told v_tell v_sums v_kindOf v_modOf v_bitsOf v_turnOf v_polyOf v_beginOf v_finishOf v_isLow v_weightsOf v_weight v_cell v_size v_row v_keptSize v_keptBefore v_keptAfter v_placeA v_placeB v_turned v_turnedMany v_syndromes v_lightest v_freeMany v_freePlace v_freeSyndrome v_ways v_waysKept v_trace v_comesA v_comesB) H → va_D A (ww_M q cs v_told v_tell v_sums v_kindOf v_modOf v_bitsOf v_turnOf v_polyOf v_beginOf v_finishOf v_isLow v_weightsOf v_weight v_cell v_size v_row v_keptSize v_keptBefore v_keptAfter v_placeA v_placeB v_turned v_turnedMany v_syndromes v_lightest v_freeMany v_freePlace v_freeSyndrome v_ways v_waysKept v_trace v_comesA v_comesB) → va_S A s.heap H locs → ∀ (ls : Array Slot), lv_has ls 11 [(0, .ref (q 0)), (1, .int x1), (2, .ref (q 13)), (3, .int x3), (4, .int x4), (5, .int x5), (6, .long x.1), (8, .long x.2.1), (10, .int x.2.2)] → W p l e rmX12_sumOf s m args below meth c H locs 0 0 Q (F0 m 46 ls [])) ?_ n (x6, x8, x10) hlp
    clear hlp hP hD hS hl
    rintro ⟨x6, x8, x10⟩ ob hm hst H locs hP hD hS ls hl
    have hm : M_X12_sumOf_b46 n x1 x3 x4 x5 v_bitsOf v_turnOf v_polyOf v_isLow v_weightsOf v_weight v_cell v_row x6 x8 x10 = some ob := hm
    have hl : lv_has ls 11 [(0, .ref (q 0)), (1, .int x1), (2, .ref (q 13)), (3, .int x3), (4, .int x4), (5, .int x5), (6, .long x6), (8, .long x8), (10, .int x10)] := hl
    have hP : va_P G vwCl (ww_M q cs v_told v_tell v_sums v_kindOf v_modOf v_bitsOf v_turnOf v_polyOf v_beginOf v_finishOf v_isLow v_weightsOf v_weight v_cell v_size v_row v_keptSize v_keptBefore v_keptAfter v_placeA v_placeB v_turned v_turnedMany v_syndromes v_lightest v_freeMany v_freePlace v_freeSyndrome v_ways v_waysKept v_trace v_comesA v_comesB) H := hP
    have hD : va_D A (ww_M q cs v_told v_tell v_sums v_kindOf v_modOf v_bitsOf v_turnOf v_polyOf v_beginOf v_finishOf v_isLow v_weightsOf v_weight v_cell v_size v_row v_keptSize v_keptBefore v_keptAfter v_placeA v_placeB v_turned v_turnedMany v_syndromes v_lightest v_freeMany v_freePlace v_freeSyndrome v_ways v_waysKept v_trace v_comesA v_comesB) := hD
    unfold M_X12_sumOf_b46 at hm
    refine lv_iload hx hb dX12_sumOf_46 (lv_at hl 8 rfl) ?_
    refine lv_iload_n hx hb dX12_sumOf_48 rfl (lv_at hl 3 rfl) ?_
    refine lv_icmp_ge (tgt := 282) hx hb dX12_sumOf_49 (by decide) (fun b5 => ?_) (fun b5 => ?_)
    · have hm := i_t b5 hm
      exact hX _ (st_exit hm hst) H locs hP hD hS ls (lv_sub hl [0, 1, 4, 6, 7] rfl)
    · have hm := i_f b5 hm
      refine lv_iload hx hb dX12_sumOf_52 (lv_at hl 4 rfl) ?_
      by_cases b6 : x4 = 0
      · have hm := i_t b6 hm
        refine lv_tableIn (tgt := 96) hx hb dX12_sumOf_54 (by rw [b6]; decide) (by rw [b6]; decide) (by rw [b6]; rfl) (by decide) ?_
        refine lv_lload hx hb dX12_sumOf_96 (lv_at hl 6 rfl) ?_
        refine lv_aload_n hx hb dX12_sumOf_98 rfl (lv_at hl 2 rfl) ?_
        refine lv_iload hx hb dX12_sumOf_99 (lv_at hl 8 rfl) ?_
        obtain ⟨h7, hm⟩ := g_in hm
        refine va_iald hx hb hK.1 hP 13 0 rfl rfl h7 dX12_sumOf_101 ?_
        refine lv_i2l (v := (v_row x10.toNatClampNeg).toInt64) hx hb dX12_sumOf_102 rfl ?_
        refine lv_ladd hx hb dX12_sumOf_103 ?_
        refine lv_iload hx hb dX12_sumOf_104 (lv_at hl 5 rfl) ?_
        refine lv_i2l (v := x5.toInt64) hx hb dX12_sumOf_106 rfl ?_
        obtain ⟨h8, hm⟩ := g_in hm
        refine lv_lrem hx hb dX12_sumOf_107 h8 ?_
        refine lv_lstore (lv' := [(6, .long ((x6 + ((v_row x10.toNatClampNeg).toInt64)) - (x6 + ((v_row x10.toNatClampNeg).toInt64)) / x5.toInt64 * x5.toInt64)), (0, .ref (q 0)), (1, .int x1), (2, .ref (q 13)), (3, .int x3), (4, .int x4), (5, .int x5), (8, .long x8), (10, .int x10)]) hx hb dX12_sumOf_108 hl (by decide) rfl (fun ls hl => ?_)
        refine lv_goto (tgt := 276) hx hb dX12_sumOf_110 (by decide) ?_
        refine lv_iinc (v := x10 + 1) (lv' := [(10, .int (x10 + 1)), (6, .long ((x6 + ((v_row x10.toNatClampNeg).toInt64)) - (x6 + ((v_row x10.toNatClampNeg).toInt64)) / x5.toInt64 * x5.toInt64)), (0, .ref (q 0)), (1, .int x1), (2, .ref (q 13)), (3, .int x3), (4, .int x4), (5, .int x5), (8, .long x8)]) hx hb dX12_sumOf_276 hl (k := 8) rfl rfl (by decide) rfl (fun ls hl => ?_)
        refine lv_goto (tgt := 46) hx hb dX12_sumOf_279 (by decide) ?_
        exact st_next hm hst H locs hP hD hS ls (lv_sub hl [2, 3, 4, 5, 6, 7, 1, 8, 0] rfl)
      have hm := i_f b6 hm
      by_cases b9 : x4 = 1
      · have hm := i_t b9 hm
        refine lv_tableIn (tgt := 113) hx hb dX12_sumOf_54 (by rw [b9]; decide) (by rw [b9]; decide) (by rw [b9]; rfl) (by decide) ?_
        refine lv_lload hx hb dX12_sumOf_113 (lv_at hl 6 rfl) ?_
        refine lv_aload_n hx hb dX12_sumOf_115 rfl (lv_at hl 2 rfl) ?_
        refine lv_iload hx hb dX12_sumOf_116 (lv_at hl 8 rfl) ?_
        obtain ⟨h10, hm⟩ := g_in hm
        refine va_iald hx hb hK.1 hP 13 0 rfl rfl h10 dX12_sumOf_118 ?_
        refine lv_i2l (v := (v_row x10.toNatClampNeg).toInt64) hx hb dX12_sumOf_119 rfl ?_
        refine lv_ladd hx hb dX12_sumOf_120 ?_
        refine lv_iload hx hb dX12_sumOf_121 (lv_at hl 5 rfl) ?_
        refine lv_i2l (v := x5.toInt64) hx hb dX12_sumOf_123 rfl ?_
        obtain ⟨h11, hm⟩ := g_in hm
        refine lv_lrem hx hb dX12_sumOf_124 h11 ?_
        refine lv_lstore (lv' := [(6, .long ((x6 + ((v_row x10.toNatClampNeg).toInt64)) - (x6 + ((v_row x10.toNatClampNeg).toInt64)) / x5.toInt64 * x5.toInt64)), (0, .ref (q 0)), (1, .int x1), (2, .ref (q 13)), (3, .int x3), (4, .int x4), (5, .int x5), (8, .long x8), (10, .int x10)]) hx hb dX12_sumOf_125 hl (by decide) rfl (fun ls hl => ?_)
        refine lv_lload hx hb dX12_sumOf_127 (lv_at hl 7 rfl) ?_
        refine lv_lload hx hb dX12_sumOf_129 (lv_at hl 0 rfl) ?_
        refine lv_ladd hx hb dX12_sumOf_131 ?_
        refine lv_iload hx hb dX12_sumOf_132 (lv_at hl 6 rfl) ?_
        refine lv_i2l (v := x5.toInt64) hx hb dX12_sumOf_134 rfl ?_
        obtain ⟨h12, hm⟩ := g_in hm
        refine lv_lrem hx hb dX12_sumOf_135 h12 ?_
        refine lv_lstore (lv' := [(8, .long ((x8 + ((x6 + ((v_row x10.toNatClampNeg).toInt64)) - (x6 + ((v_row x10.toNatClampNeg).toInt64)) / x5.toInt64 * x5.toInt64)) - (x8 + ((x6 + ((v_row x10.toNatClampNeg).toInt64)) - (x6 + ((v_row x10.toNatClampNeg).toInt64)) / x5.toInt64 * x5.toInt64)) / x5.toInt64 * x5.toInt64)), (6, .long ((x6 + ((v_row x10.toNatClampNeg).toInt64)) - (x6 + ((v_row x10.toNatClampNeg).toInt64)) / x5.toInt64 * x5.toInt64)), (0, .ref (q 0)), (1, .int x1), (2, .ref (q 13)), (3, .int x3), (4, .int x4), (5, .int x5), (10, .int x10)]) hx hb dX12_sumOf_136 hl (by decide) rfl (fun ls hl => ?_)
        refine lv_goto (tgt := 276) hx hb dX12_sumOf_138 (by decide) ?_
        refine lv_iinc (v := x10 + 1) (lv' := [(10, .int (x10 + 1)), (8, .long ((x8 + ((x6 + ((v_row x10.toNatClampNeg).toInt64)) - (x6 + ((v_row x10.toNatClampNeg).toInt64)) / x5.toInt64 * x5.toInt64)) - (x8 + ((x6 + ((v_row x10.toNatClampNeg).toInt64)) - (x6 + ((v_row x10.toNatClampNeg).toInt64)) / x5.toInt64 * x5.toInt64)) / x5.toInt64 * x5.toInt64)), (6, .long ((x6 + ((v_row x10.toNatClampNeg).toInt64)) - (x6 + ((v_row x10.toNatClampNeg).toInt64)) / x5.toInt64 * x5.toInt64)), (0, .ref (q 0)), (1, .int x1), (2, .ref (q 13)), (3, .int x3), (4, .int x4), (5, .int x5)]) hx hb dX12_sumOf_276 hl (k := 8) rfl rfl (by decide) rfl (fun ls hl => ?_)
        refine lv_goto (tgt := 46) hx hb dX12_sumOf_279 (by decide) ?_
        exact st_next hm hst H locs hP hD hS ls (lv_sub hl [3, 4, 5, 6, 7, 8, 2, 1, 0] rfl)
      have hm := i_f b9 hm
      by_cases b13 : x4 = 2
      · have hm := i_t b13 hm
        refine lv_tableIn (tgt := 141) hx hb dX12_sumOf_54 (by rw [b13]; decide) (by rw [b13]; decide) (by rw [b13]; rfl) (by decide) ?_
        refine lv_lload hx hb dX12_sumOf_141 (lv_at hl 6 rfl) ?_
        refine lv_aload_n hx hb dX12_sumOf_143 rfl (lv_at hl 0 rfl) ?_
        refine va_get (D := G) (ci := 10) (v := .ref (q 11)) (C := RX12) (T := TX12) (N := 33) hx hb hts hinX12 hown hK.1 hP 0 rfl rfl 12 (by decide) wd4 (fun _ h9 => h9) rfl dX12_sumOf_144 ?_
        refine lv_bipush (v := 12) hx hb dX12_sumOf_147 (by decide) ?_
        refine lv_iload_n hx hb dX12_sumOf_149 rfl (lv_at hl 1 rfl) ?_
        refine lv_imul hx hb dX12_sumOf_150 ?_
        refine lv_iload hx hb dX12_sumOf_151 (lv_at hl 8 rfl) ?_
        refine lv_aload_n hx hb dX12_sumOf_153 rfl (lv_at hl 0 rfl) ?_
        refine va_get (D := G) (ci := 10) (v := .ref (q 10)) (C := RX12) (T := TX12) (N := 33) hx hb hts hinX12 hown hK.1 hP 0 rfl rfl 11 (by decide) wd5 (fun _ h9 => h9) rfl dX12_sumOf_154 ?_
        refine lv_iload_n hx hb dX12_sumOf_157 rfl (lv_at hl 1 rfl) ?_
        obtain ⟨h14, hm⟩ := g_in hm
        refine va_iald hx hb hK.1 hP 10 0 rfl rfl h14 dX12_sumOf_158 ?_
        obtain ⟨h15, hm⟩ := g_in hm
        refine lv_irem hx hb dX12_sumOf_159 h15 ?_
        refine lv_iadd hx hb dX12_sumOf_160 ?_
        obtain ⟨h16, hm⟩ := g_in hm
        refine va_iald hx hb hK.1 hP 11 0 rfl rfl h16 dX12_sumOf_161 ?_
        refine lv_i2l (v := (v_weight ((12 * x1) + (x10 - x10 / (v_weightsOf x1.toNatClampNeg) * (v_weightsOf x1.toNatClampNeg))).toNatClampNeg).toInt64) hx hb dX12_sumOf_162 rfl ?_
        refine lv_aload_n hx hb dX12_sumOf_163 rfl (lv_at hl 2 rfl) ?_
        refine lv_iload hx hb dX12_sumOf_164 (lv_at hl 8 rfl) ?_
        obtain ⟨h17, hm⟩ := g_in hm
        refine va_iald hx hb hK.1 hP 13 0 rfl rfl h17 dX12_sumOf_166 ?_
        refine lv_i2l (v := (v_row x10.toNatClampNeg).toInt64) hx hb dX12_sumOf_167 rfl ?_
        refine lv_lmul hx hb dX12_sumOf_168 ?_
        refine lv_ladd hx hb dX12_sumOf_169 ?_
        refine lv_iload hx hb dX12_sumOf_170 (lv_at hl 5 rfl) ?_
        refine lv_i2l (v := x5.toInt64) hx hb dX12_sumOf_172 rfl ?_
        obtain ⟨h18, hm⟩ := g_in hm
        refine lv_lrem hx hb dX12_sumOf_173 h18 ?_
        refine lv_lstore (lv' := [(6, .long ((x6 + (((v_weight ((12 * x1) + (x10 - x10 / (v_weightsOf x1.toNatClampNeg) * (v_weightsOf x1.toNatClampNeg))).toNatClampNeg).toInt64) * ((v_row x10.toNatClampNeg).toInt64))) - (x6 + (((v_weight ((12 * x1) + (x10 - x10 / (v_weightsOf x1.toNatClampNeg) * (v_weightsOf x1.toNatClampNeg))).toNatClampNeg).toInt64) * ((v_row x10.toNatClampNeg).toInt64))) / x5.toInt64 * x5.toInt64)), (0, .ref (q 0)), (1, .int x1), (2, .ref (q 13)), (3, .int x3), (4, .int x4), (5, .int x5), (8, .long x8), (10, .int x10)]) hx hb dX12_sumOf_174 hl (by decide) rfl (fun ls hl => ?_)
        refine lv_goto (tgt := 276) hx hb dX12_sumOf_176 (by decide) ?_
        refine lv_iinc (v := x10 + 1) (lv' := [(10, .int (x10 + 1)), (6, .long ((x6 + (((v_weight ((12 * x1) + (x10 - x10 / (v_weightsOf x1.toNatClampNeg) * (v_weightsOf x1.toNatClampNeg))).toNatClampNeg).toInt64) * ((v_row x10.toNatClampNeg).toInt64))) - (x6 + (((v_weight ((12 * x1) + (x10 - x10 / (v_weightsOf x1.toNatClampNeg) * (v_weightsOf x1.toNatClampNeg))).toNatClampNeg).toInt64) * ((v_row x10.toNatClampNeg).toInt64))) / x5.toInt64 * x5.toInt64)), (0, .ref (q 0)), (1, .int x1), (2, .ref (q 13)), (3, .int x3), (4, .int x4), (5, .int x5), (8, .long x8)]) hx hb dX12_sumOf_276 hl (k := 8) rfl rfl (by decide) rfl (fun ls hl => ?_)
        refine lv_goto (tgt := 46) hx hb dX12_sumOf_279 (by decide) ?_
        exact st_next hm hst H locs hP hD hS ls (lv_sub hl [2, 3, 4, 5, 6, 7, 1, 8, 0] rfl)
      have hm := i_f b13 hm
      by_cases b19 : x4 = 3
      · have hm := i_t b19 hm
        refine lv_tableIn (tgt := 179) hx hb dX12_sumOf_54 (by rw [b19]; decide) (by rw [b19]; decide) (by rw [b19]; rfl) (by decide) ?_
        refine lv_lload hx hb dX12_sumOf_179 (lv_at hl 6 rfl) ?_
        refine lv_aload_n hx hb dX12_sumOf_181 rfl (lv_at hl 0 rfl) ?_
        refine va_get (D := G) (ci := 10) (v := .ref (q 5)) (C := RX12) (T := TX12) (N := 33) hx hb hts hinX12 hown hK.1 hP 0 rfl rfl 6 (by decide) wd6 (fun _ h9 => h9) rfl dX12_sumOf_182 ?_
        refine lv_iload_n hx hb dX12_sumOf_185 rfl (lv_at hl 1 rfl) ?_
        obtain ⟨h20, hm⟩ := g_in hm
        refine va_iald hx hb hK.1 hP 5 0 rfl rfl h20 dX12_sumOf_186 ?_
        refine lv_aload_n hx hb dX12_sumOf_187 rfl (lv_at hl 0 rfl) ?_
        refine va_get (D := G) (ci := 10) (v := .ref (q 4)) (C := RX12) (T := TX12) (N := 33) hx hb hts hinX12 hown hK.1 hP 0 rfl rfl 5 (by decide) wd7 (fun _ h9 => h9) rfl dX12_sumOf_188 ?_
        refine lv_iload_n hx hb dX12_sumOf_191 rfl (lv_at hl 1 rfl) ?_
        obtain ⟨h21, hm⟩ := g_in hm
        refine va_iald hx hb hK.1 hP 4 0 rfl rfl h21 dX12_sumOf_192 ?_
        obtain ⟨r22, hc_r22, hm⟩ := bs hm
        refine k_calll0 (va_runS (As := [.long x6, .int (v_turnOf x1.toNatClampNeg), .int (v_bitsOf x1.toNatClampNeg)]) (rest := []) ⟨hx, hb, hml, hown, hts⟩ (c_X12_rolled l G cs H.size    x6 (v_turnOf x1.toNatClampNeg) (v_bitsOf x1.toNatClampNeg) r22 hc_r22) (va_cwS 3 hts gX12_sumOf_X12_rolled rfl rfl rfl hd_X12_rolled ⟨Nat.le_of_ble_eq_true rfl, Nat.le_of_ble_eq_true rfl⟩) ⟨pre_blind, pre_w hK RO.nil P0 D0 (va_new0 hS hA)⟩ rfl rfl hl.1 rfl (lv_room (Nat.le_of_ble_eq_true rfl)) dX12_sumOf_193 ⟨Nat.zero_le _, Nat.zero_le _⟩) hP hS hA (fun H locs hP hS => ?_)
        refine lv_aload_n hx hb dX12_sumOf_196 rfl (lv_at hl 2 rfl) ?_
        refine lv_iload hx hb dX12_sumOf_197 (lv_at hl 8 rfl) ?_
        obtain ⟨h23, hm⟩ := g_in hm
        refine va_iald hx hb hK.1 hP 13 0 rfl rfl h23 dX12_sumOf_199 ?_
        refine lv_i2l (v := (v_row x10.toNatClampNeg).toInt64) hx hb dX12_sumOf_200 rfl ?_
        refine lv_lxor hx hb dX12_sumOf_201 ?_
        refine lv_lstore (lv' := [(6, .long (r22 ^^^ ((v_row x10.toNatClampNeg).toInt64))), (0, .ref (q 0)), (1, .int x1), (2, .ref (q 13)), (3, .int x3), (4, .int x4), (5, .int x5), (8, .long x8), (10, .int x10)]) hx hb dX12_sumOf_202 hl (by decide) rfl (fun ls hl => ?_)
        refine lv_goto (tgt := 276) hx hb dX12_sumOf_204 (by decide) ?_
        refine lv_iinc (v := x10 + 1) (lv' := [(10, .int (x10 + 1)), (6, .long (r22 ^^^ ((v_row x10.toNatClampNeg).toInt64))), (0, .ref (q 0)), (1, .int x1), (2, .ref (q 13)), (3, .int x3), (4, .int x4), (5, .int x5), (8, .long x8)]) hx hb dX12_sumOf_276 hl (k := 8) rfl rfl (by decide) rfl (fun ls hl => ?_)
        refine lv_goto (tgt := 46) hx hb dX12_sumOf_279 (by decide) ?_
        exact st_next hm hst H locs hP hD hS ls (lv_sub hl [2, 3, 4, 5, 6, 7, 1, 8, 0] rfl)
      have hm := i_f b19 hm
      by_cases b24 : x4 = 4
      · have hm := i_t b24 hm
        refine lv_tableIn (tgt := 247) hx hb dX12_sumOf_54 (by rw [b24]; decide) (by rw [b24]; decide) (by rw [b24]; rfl) (by decide) ?_
        refine lv_lload hx hb dX12_sumOf_247 (lv_at hl 6 rfl) ?_
        refine lv_aload_n hx hb dX12_sumOf_249 rfl (lv_at hl 2 rfl) ?_
        refine lv_iload hx hb dX12_sumOf_250 (lv_at hl 8 rfl) ?_
        obtain ⟨h25, hm⟩ := g_in hm
        refine va_iald hx hb hK.1 hP 13 0 rfl rfl h25 dX12_sumOf_252 ?_
        refine lv_aload_n hx hb dX12_sumOf_253 rfl (lv_at hl 0 rfl) ?_
        refine va_get (D := G) (ci := 10) (v := .ref (q 4)) (C := RX12) (T := TX12) (N := 33) hx hb hts hinX12 hown hK.1 hP 0 rfl rfl 5 (by decide) wd7 (fun _ h9 => h9) rfl dX12_sumOf_254 ?_
        refine lv_iload_n hx hb dX12_sumOf_257 rfl (lv_at hl 1 rfl) ?_
        obtain ⟨h26, hm⟩ := g_in hm
        refine va_iald hx hb hK.1 hP 4 0 rfl rfl h26 dX12_sumOf_258 ?_
        refine lv_aload_n hx hb dX12_sumOf_259 rfl (lv_at hl 0 rfl) ?_
        refine va_get (D := G) (ci := 10) (v := .ref (q 6)) (C := RX12) (T := TX12) (N := 33) hx hb hts hinX12 hown hK.1 hP 0 rfl rfl 7 (by decide) wd10 (fun _ h9 => h9) rfl dX12_sumOf_260 ?_
        refine lv_iload_n hx hb dX12_sumOf_263 rfl (lv_at hl 1 rfl) ?_
        obtain ⟨h27, hm⟩ := g_in hm
        refine va_lald hx hb hK.1 hP 6 1 rfl rfl h27 dX12_sumOf_264 ?_
        refine lv_aload_n hx hb dX12_sumOf_265 rfl (lv_at hl 0 rfl) ?_
        refine va_get (D := G) (ci := 10) (v := .ref (q 9)) (C := RX12) (T := TX12) (N := 33) hx hb hts hinX12 hown hK.1 hP 0 rfl rfl 10 (by decide) wd11 (fun _ h9 => h9) rfl dX12_sumOf_266 ?_
        refine lv_iload_n hx hb dX12_sumOf_269 rfl (lv_at hl 1 rfl) ?_
        obtain ⟨h28, hm⟩ := g_in hm
        refine va_zald hx hb hK.1 hP 9 2 rfl rfl h28 dX12_sumOf_270 ?_
        obtain ⟨r29, hc_r29, hm⟩ := bs hm
        refine k_calll0 (va_runS (As := [.long x6, .int (v_row x10.toNatClampNeg), .int (v_bitsOf x1.toNatClampNeg), .long (v_polyOf x1.toNatClampNeg), .int (v_isLow x1.toNatClampNeg)]) (rest := []) ⟨hx, hb, hml, hown, hts⟩ (c_X12_stepByte l G cs H.size    x6 (v_row x10.toNatClampNeg) (v_bitsOf x1.toNatClampNeg) (v_polyOf x1.toNatClampNeg) (v_isLow x1.toNatClampNeg) n r29 hc_r29) (va_cwS 5 hts gX12_sumOf_X12_stepByte rfl rfl rfl hd_X12_stepByte ⟨Nat.le_of_ble_eq_true rfl, Nat.le_of_ble_eq_true rfl⟩) ⟨pre_blind, pre_w hK RO.nil P0 D0 (va_new0 hS hA)⟩ rfl rfl hl.1 rfl (lv_room (Nat.le_of_ble_eq_true rfl)) dX12_sumOf_271 ⟨Nat.zero_le _, Nat.zero_le _⟩) hP hS hA (fun H locs hP hS => ?_)
        refine lv_lstore (lv' := [(6, .long r29), (0, .ref (q 0)), (1, .int x1), (2, .ref (q 13)), (3, .int x3), (4, .int x4), (5, .int x5), (8, .long x8), (10, .int x10)]) hx hb dX12_sumOf_274 hl (by decide) rfl (fun ls hl => ?_)
        refine lv_iinc (v := x10 + 1) (lv' := [(10, .int (x10 + 1)), (6, .long r29), (0, .ref (q 0)), (1, .int x1), (2, .ref (q 13)), (3, .int x3), (4, .int x4), (5, .int x5), (8, .long x8)]) hx hb dX12_sumOf_276 hl (k := 8) rfl rfl (by decide) rfl (fun ls hl => ?_)
        refine lv_goto (tgt := 46) hx hb dX12_sumOf_279 (by decide) ?_
        exact st_next hm hst H locs hP hD hS ls (lv_sub hl [2, 3, 4, 5, 6, 7, 1, 8, 0] rfl)
      have hm := i_f b24 hm
      by_cases b30 : x4 = 5
      · have hm := i_t b30 hm
        refine lv_tableIn (tgt := 247) hx hb dX12_sumOf_54 (by rw [b30]; decide) (by rw [b30]; decide) (by rw [b30]; rfl) (by decide) ?_
        refine lv_lload hx hb dX12_sumOf_247 (lv_at hl 6 rfl) ?_
        refine lv_aload_n hx hb dX12_sumOf_249 rfl (lv_at hl 2 rfl) ?_
        refine lv_iload hx hb dX12_sumOf_250 (lv_at hl 8 rfl) ?_
        obtain ⟨h31, hm⟩ := g_in hm
        refine va_iald hx hb hK.1 hP 13 0 rfl rfl h31 dX12_sumOf_252 ?_
        refine lv_aload_n hx hb dX12_sumOf_253 rfl (lv_at hl 0 rfl) ?_
        refine va_get (D := G) (ci := 10) (v := .ref (q 4)) (C := RX12) (T := TX12) (N := 33) hx hb hts hinX12 hown hK.1 hP 0 rfl rfl 5 (by decide) wd7 (fun _ h9 => h9) rfl dX12_sumOf_254 ?_
        refine lv_iload_n hx hb dX12_sumOf_257 rfl (lv_at hl 1 rfl) ?_
        obtain ⟨h32, hm⟩ := g_in hm
        refine va_iald hx hb hK.1 hP 4 0 rfl rfl h32 dX12_sumOf_258 ?_
        refine lv_aload_n hx hb dX12_sumOf_259 rfl (lv_at hl 0 rfl) ?_
        refine va_get (D := G) (ci := 10) (v := .ref (q 6)) (C := RX12) (T := TX12) (N := 33) hx hb hts hinX12 hown hK.1 hP 0 rfl rfl 7 (by decide) wd10 (fun _ h9 => h9) rfl dX12_sumOf_260 ?_
        refine lv_iload_n hx hb dX12_sumOf_263 rfl (lv_at hl 1 rfl) ?_
        obtain ⟨h33, hm⟩ := g_in hm
        refine va_lald hx hb hK.1 hP 6 1 rfl rfl h33 dX12_sumOf_264 ?_
        refine lv_aload_n hx hb dX12_sumOf_265 rfl (lv_at hl 0 rfl) ?_
        refine va_get (D := G) (ci := 10) (v := .ref (q 9)) (C := RX12) (T := TX12) (N := 33) hx hb hts hinX12 hown hK.1 hP 0 rfl rfl 10 (by decide) wd11 (fun _ h9 => h9) rfl dX12_sumOf_266 ?_
        refine lv_iload_n hx hb dX12_sumOf_269 rfl (lv_at hl 1 rfl) ?_
        obtain ⟨h34, hm⟩ := g_in hm
        refine va_zald hx hb hK.1 hP 9 2 rfl rfl h34 dX12_sumOf_270 ?_
        obtain ⟨r35, hc_r35, hm⟩ := bs hm
        refine k_calll0 (va_runS (As := [.long x6, .int (v_row x10.toNatClampNeg), .int (v_bitsOf x1.toNatClampNeg), .long (v_polyOf x1.toNatClampNeg), .int (v_isLow x1.toNatClampNeg)]) (rest := []) ⟨hx, hb, hml, hown, hts⟩ (c_X12_stepByte l G cs H.size    x6 (v_row x10.toNatClampNeg) (v_bitsOf x1.toNatClampNeg) (v_polyOf x1.toNatClampNeg) (v_isLow x1.toNatClampNeg) n r35 hc_r35) (va_cwS 5 hts gX12_sumOf_X12_stepByte rfl rfl rfl hd_X12_stepByte ⟨Nat.le_of_ble_eq_true rfl, Nat.le_of_ble_eq_true rfl⟩) ⟨pre_blind, pre_w hK RO.nil P0 D0 (va_new0 hS hA)⟩ rfl rfl hl.1 rfl (lv_room (Nat.le_of_ble_eq_true rfl)) dX12_sumOf_271 ⟨Nat.zero_le _, Nat.zero_le _⟩) hP hS hA (fun H locs hP hS => ?_)
        refine lv_lstore (lv' := [(6, .long r35), (0, .ref (q 0)), (1, .int x1), (2, .ref (q 13)), (3, .int x3), (4, .int x4), (5, .int x5), (8, .long x8), (10, .int x10)]) hx hb dX12_sumOf_274 hl (by decide) rfl (fun ls hl => ?_)
        refine lv_iinc (v := x10 + 1) (lv' := [(10, .int (x10 + 1)), (6, .long r35), (0, .ref (q 0)), (1, .int x1), (2, .ref (q 13)), (3, .int x3), (4, .int x4), (5, .int x5), (8, .long x8)]) hx hb dX12_sumOf_276 hl (k := 8) rfl rfl (by decide) rfl (fun ls hl => ?_)
        refine lv_goto (tgt := 46) hx hb dX12_sumOf_279 (by decide) ?_
        exact st_next hm hst H locs hP hD hS ls (lv_sub hl [2, 3, 4, 5, 6, 7, 1, 8, 0] rfl)
      have hm := i_f b30 hm
      by_cases b36 : x4 = 6
      · have hm := i_t b36 hm
        refine lv_tableIn (tgt := 207) hx hb dX12_sumOf_54 (by rw [b36]; decide) (by rw [b36]; decide) (by rw [b36]; rfl) (by decide) ?_
        refine lv_aload_n hx hb dX12_sumOf_207 rfl (lv_at hl 2 rfl) ?_
        refine lv_iload hx hb dX12_sumOf_208 (lv_at hl 8 rfl) ?_
        obtain ⟨h37, hm⟩ := g_in hm
        refine va_iald hx hb hK.1 hP 13 0 rfl rfl h37 dX12_sumOf_210 ?_
        refine lv_iload hx hb dX12_sumOf_211 (lv_at hl 5 rfl) ?_
        refine lv_icmp_lt (tgt := 220) hx hb dX12_sumOf_213 (by decide) (fun b38 => ?_) (fun b38 => ?_)
        · have hm := i_t b38 hm
          refine lv_aload_n hx hb dX12_sumOf_220 rfl (lv_at hl 0 rfl) ?_
          refine va_get (D := G) (ci := 10) (v := .ref (q 12)) (C := RX12) (T := TX12) (N := 33) hx hb hts hinX12 hown hK.1 hP 0 rfl rfl 13 (by decide) wd9 (fun _ h9 => h9) rfl dX12_sumOf_221 ?_
          refine lv_bipush (v := 100) hx hb dX12_sumOf_224 (by decide) ?_
          refine lv_iload_n hx hb dX12_sumOf_226 rfl (lv_at hl 1 rfl) ?_
          refine lv_imul hx hb dX12_sumOf_227 ?_
          refine lv_lload hx hb dX12_sumOf_228 (lv_at hl 6 rfl) ?_
          refine lv_l2i (v := x6.toInt32) hx hb dX12_sumOf_230 rfl ?_
          refine lv_iload hx hb dX12_sumOf_231 (lv_at hl 5 rfl) ?_
          refine lv_imul hx hb dX12_sumOf_233 ?_
          refine lv_iadd hx hb dX12_sumOf_234 ?_
          refine lv_aload_n hx hb dX12_sumOf_235 rfl (lv_at hl 2 rfl) ?_
          refine lv_iload hx hb dX12_sumOf_236 (lv_at hl 8 rfl) ?_
          obtain ⟨h39, hm⟩ := g_in hm
          refine va_iald hx hb hK.1 hP 13 0 rfl rfl h39 dX12_sumOf_238 ?_
          refine lv_iadd hx hb dX12_sumOf_239 ?_
          obtain ⟨h40, hm⟩ := g_in hm
          refine va_iald hx hb hK.1 hP 12 0 rfl rfl h40 dX12_sumOf_240 ?_
          refine lv_i2l (v := (v_cell (((100 * x1) + (x6.toInt32 * x5)) + (v_row x10.toNatClampNeg)).toNatClampNeg).toInt64) hx hb dX12_sumOf_241 rfl ?_
          refine lv_lstore (lv' := [(6, .long ((v_cell (((100 * x1) + (x6.toInt32 * x5)) + (v_row x10.toNatClampNeg)).toNatClampNeg).toInt64)), (0, .ref (q 0)), (1, .int x1), (2, .ref (q 13)), (3, .int x3), (4, .int x4), (5, .int x5), (8, .long x8), (10, .int x10)]) hx hb dX12_sumOf_242 hl (by decide) rfl (fun ls hl => ?_)
          refine lv_goto (tgt := 276) hx hb dX12_sumOf_244 (by decide) ?_
          refine lv_iinc (v := x10 + 1) (lv' := [(10, .int (x10 + 1)), (6, .long ((v_cell (((100 * x1) + (x6.toInt32 * x5)) + (v_row x10.toNatClampNeg)).toNatClampNeg).toInt64)), (0, .ref (q 0)), (1, .int x1), (2, .ref (q 13)), (3, .int x3), (4, .int x4), (5, .int x5), (8, .long x8)]) hx hb dX12_sumOf_276 hl (k := 8) rfl rfl (by decide) rfl (fun ls hl => ?_)
          refine lv_goto (tgt := 46) hx hb dX12_sumOf_279 (by decide) ?_
          exact st_next hm hst H locs hP hD hS ls (lv_sub hl [2, 3, 4, 5, 6, 7, 1, 8, 0] rfl)
        · have hm := i_f b38 hm
          refine lv_ldc2 (own := RX12) (v := (-5)) hx hb hown wd8 dX12_sumOf_216 ?_
          have hq := hret _ (st_exit hm hst)
          subst hq; subst hQ
          exact k_lret hx hb hr hlocks hP hD hS rfl dX12_sumOf_219
      have hm := i_f b36 hm
      have b6 : ¬ (x4).toInt = 0 := fun e9 => ne_ti b6 (e9.trans (by decide))
      have b9 : ¬ (x4).toInt = 1 := fun e9 => ne_ti b9 (e9.trans (by decide))
      have b13 : ¬ (x4).toInt = 2 := fun e9 => ne_ti b13 (e9.trans (by decide))
      have b19 : ¬ (x4).toInt = 3 := fun e9 => ne_ti b19 (e9.trans (by decide))
      have b24 : ¬ (x4).toInt = 4 := fun e9 => ne_ti b24 (e9.trans (by decide))
      have b30 : ¬ (x4).toInt = 5 := fun e9 => ne_ti b30 (e9.trans (by decide))
      have b36 : ¬ (x4).toInt = 6 := fun e9 => ne_ti b36 (e9.trans (by decide))
      refine lv_tableOut (tgt := 247) hx hb dX12_sumOf_54 (by omega) (by decide) ?_
      refine lv_lload hx hb dX12_sumOf_247 (lv_at hl 6 rfl) ?_
      refine lv_aload_n hx hb dX12_sumOf_249 rfl (lv_at hl 2 rfl) ?_
      refine lv_iload hx hb dX12_sumOf_250 (lv_at hl 8 rfl) ?_
      obtain ⟨h41, hm⟩ := g_in hm
      refine va_iald hx hb hK.1 hP 13 0 rfl rfl h41 dX12_sumOf_252 ?_
      refine lv_aload_n hx hb dX12_sumOf_253 rfl (lv_at hl 0 rfl) ?_
      refine va_get (D := G) (ci := 10) (v := .ref (q 4)) (C := RX12) (T := TX12) (N := 33) hx hb hts hinX12 hown hK.1 hP 0 rfl rfl 5 (by decide) wd7 (fun _ h9 => h9) rfl dX12_sumOf_254 ?_
      refine lv_iload_n hx hb dX12_sumOf_257 rfl (lv_at hl 1 rfl) ?_
      obtain ⟨h42, hm⟩ := g_in hm
      refine va_iald hx hb hK.1 hP 4 0 rfl rfl h42 dX12_sumOf_258 ?_
      refine lv_aload_n hx hb dX12_sumOf_259 rfl (lv_at hl 0 rfl) ?_
      refine va_get (D := G) (ci := 10) (v := .ref (q 6)) (C := RX12) (T := TX12) (N := 33) hx hb hts hinX12 hown hK.1 hP 0 rfl rfl 7 (by decide) wd10 (fun _ h9 => h9) rfl dX12_sumOf_260 ?_
      refine lv_iload_n hx hb dX12_sumOf_263 rfl (lv_at hl 1 rfl) ?_
      obtain ⟨h43, hm⟩ := g_in hm
      refine va_lald hx hb hK.1 hP 6 1 rfl rfl h43 dX12_sumOf_264 ?_
      refine lv_aload_n hx hb dX12_sumOf_265 rfl (lv_at hl 0 rfl) ?_
      refine va_get (D := G) (ci := 10) (v := .ref (q 9)) (C := RX12) (T := TX12) (N := 33) hx hb hts hinX12 hown hK.1 hP 0 rfl rfl 10 (by decide) wd11 (fun _ h9 => h9) rfl dX12_sumOf_266 ?_
      refine lv_iload_n hx hb dX12_sumOf_269 rfl (lv_at hl 1 rfl) ?_
      obtain ⟨h44, hm⟩ := g_in hm
      refine va_zald hx hb hK.1 hP 9 2 rfl rfl h44 dX12_sumOf_270 ?_
      obtain ⟨r45, hc_r45, hm⟩ := bs hm
      refine k_calll0 (va_runS (As := [.long x6, .int (v_row x10.toNatClampNeg), .int (v_bitsOf x1.toNatClampNeg), .long (v_polyOf x1.toNatClampNeg), .int (v_isLow x1.toNatClampNeg)]) (rest := []) ⟨hx, hb, hml, hown, hts⟩ (c_X12_stepByte l G cs H.size    x6 (v_row x10.toNatClampNeg) (v_bitsOf x1.toNatClampNeg) (v_polyOf x1.toNatClampNeg) (v_isLow x1.toNatClampNeg) n r45 hc_r45) (va_cwS 5 hts gX12_sumOf_X12_stepByte rfl rfl rfl hd_X12_stepByte ⟨Nat.le_of_ble_eq_true rfl, Nat.le_of_ble_eq_true rfl⟩) ⟨pre_blind, pre_w hK RO.nil P0 D0 (va_new0 hS hA)⟩ rfl rfl hl.1 rfl (lv_room (Nat.le_of_ble_eq_true rfl)) dX12_sumOf_271 ⟨Nat.zero_le _, Nat.zero_le _⟩) hP hS hA (fun H locs hP hS => ?_)
      refine lv_lstore (lv' := [(6, .long r45), (0, .ref (q 0)), (1, .int x1), (2, .ref (q 13)), (3, .int x3), (4, .int x4), (5, .int x5), (8, .long x8), (10, .int x10)]) hx hb dX12_sumOf_274 hl (by decide) rfl (fun ls hl => ?_)
      refine lv_iinc (v := x10 + 1) (lv' := [(10, .int (x10 + 1)), (6, .long r45), (0, .ref (q 0)), (1, .int x1), (2, .ref (q 13)), (3, .int x3), (4, .int x4), (5, .int x5), (8, .long x8)]) hx hb dX12_sumOf_276 hl (k := 8) rfl rfl (by decide) rfl (fun ls hl => ?_)
      refine lv_goto (tgt := 46) hx hb dX12_sumOf_279 (by decide) ?_
      exact st_next hm hst H locs hP hD hS ls (lv_sub hl [2, 3, 4, 5, 6, 7, 1, 8, 0] rfl)
  unfold M_X12_sumOf at hm
  refine lv_aload_n hx hb dX12_sumOf_0 rfl (lv_at hl 0 rfl) ?_
  refine va_get (D := G) (ci := 10) (v := .ref (q 2)) (C := RX12) (T := TX12) (N := 33) hx hb hts hinX12 hown hK.1 hP 0 rfl rfl 3 (by decide) wd1 (fun _ h9 => h9) rfl dX12_sumOf_1 ?_
  refine lv_iload_n hx hb dX12_sumOf_4 rfl (lv_at hl 1 rfl) ?_
  obtain ⟨h1, hm⟩ := g_in hm
  refine va_iald hx hb hK.1 hP 2 0 rfl rfl h1 dX12_sumOf_5 ?_
  refine lv_istore (lv' := [(4, .int (v_kindOf x1.toNatClampNeg)), (0, .ref (q 0)), (1, .int x1), (2, .ref (q 13)), (3, .int x3)]) hx hb dX12_sumOf_6 hl (by decide) rfl (fun ls hl => ?_)
  refine lv_aload_n hx hb dX12_sumOf_8 rfl (lv_at hl 1 rfl) ?_
  refine va_get (D := G) (ci := 10) (v := .ref (q 3)) (C := RX12) (T := TX12) (N := 33) hx hb hts hinX12 hown hK.1 hP 0 rfl rfl 4 (by decide) wd2 (fun _ h9 => h9) rfl dX12_sumOf_9 ?_
  refine lv_iload_n hx hb dX12_sumOf_12 rfl (lv_at hl 2 rfl) ?_
  obtain ⟨h2, hm⟩ := g_in hm
  refine va_iald hx hb hK.1 hP 3 0 rfl rfl h2 dX12_sumOf_13 ?_
  refine lv_istore (lv' := [(5, .int (v_modOf x1.toNatClampNeg)), (4, .int (v_kindOf x1.toNatClampNeg)), (0, .ref (q 0)), (1, .int x1), (2, .ref (q 13)), (3, .int x3)]) hx hb dX12_sumOf_14 hl (by decide) rfl (fun ls hl => ?_)
  refine lv_iload hx hb dX12_sumOf_16 (lv_at hl 1 rfl) ?_
  refine lv_iconst (v := 4) hx hb dX12_sumOf_18 (by decide) ?_
  refine lv_icmp_eq (tgt := 28) hx hb dX12_sumOf_19 (by decide) (fun b3 => ?_) (fun b3 => ?_)
  · have hm := i_t b3 hm
    refine lv_aload_n hx hb dX12_sumOf_28 rfl (lv_at hl 2 rfl) ?_
    refine va_get (D := G) (ci := 10) (v := .ref (q 7)) (C := RX12) (T := TX12) (N := 33) hx hb hts hinX12 hown hK.1 hP 0 rfl rfl 8 (by decide) wd3 (fun _ h9 => h9) rfl dX12_sumOf_29 ?_
    refine lv_iload_n hx hb dX12_sumOf_32 rfl (lv_at hl 3 rfl) ?_
    obtain ⟨h4, hm⟩ := g_in hm
    refine va_lald hx hb hK.1 hP 7 1 rfl rfl h4 dX12_sumOf_33 ?_
    refine lv_goto (tgt := 38) hx hb dX12_sumOf_34 (by decide) ?_
    refine lv_lstore (lv' := [(6, .long (v_beginOf x1.toNatClampNeg)), (5, .int (v_modOf x1.toNatClampNeg)), (4, .int (v_kindOf x1.toNatClampNeg)), (0, .ref (q 0)), (1, .int x1), (2, .ref (q 13)), (3, .int x3)]) hx hb dX12_sumOf_38 hl (by decide) rfl (fun ls hl => ?_)
    refine lv_lconst (v := 0) hx hb dX12_sumOf_40 (by decide) ?_
    refine lv_lstore (lv' := [(8, .long 0), (6, .long (v_beginOf x1.toNatClampNeg)), (5, .int (v_modOf x1.toNatClampNeg)), (4, .int (v_kindOf x1.toNatClampNeg)), (0, .ref (q 0)), (1, .int x1), (2, .ref (q 13)), (3, .int x3)]) hx hb dX12_sumOf_41 hl (by decide) rfl (fun ls hl => ?_)
    refine lv_iconst (v := 0) hx hb dX12_sumOf_43 (by decide) ?_
    refine lv_istore (lv' := [(10, .int 0), (8, .long 0), (6, .long (v_beginOf x1.toNatClampNeg)), (5, .int (v_modOf x1.toNatClampNeg)), (4, .int (v_kindOf x1.toNatClampNeg)), (0, .ref (q 0)), (1, .int x1), (2, .ref (q 13)), (3, .int x3)]) hx hb dX12_sumOf_44 hl (by decide) rfl (fun ls hl => ?_)
    obtain ⟨u46, hlp46, hm⟩ := bs hm
    refine L46 x1 x3 (v_kindOf x1.toNatClampNeg) (v_modOf x1.toNatClampNeg) (v_beginOf x1.toNatClampNeg) (0 : Int64) (0 : Int32) u46 hlp46 (fun r h => Option.some.inj (se_r h hm)) (fun o46 ho => ?_) H locs hP hD hS ls (lv_sub hl [5, 6, 7, 8, 4, 3, 2, 1, 0] rfl)
    have hm := se_l ho hm
    intro H locs hP hD hS ls hl
    have hl : lv_has ls 11 [(0, .ref (q 0)), (1, .int x1), (4, .int (v_kindOf x1.toNatClampNeg)), (6, .long o46.1), (8, .long o46.2)] := hl
    have hP : va_P G vwCl (ww_M q cs v_told v_tell v_sums v_kindOf v_modOf v_bitsOf v_turnOf v_polyOf v_beginOf v_finishOf v_isLow v_weightsOf v_weight v_cell v_size v_row v_keptSize v_keptBefore v_keptAfter v_placeA v_placeB v_turned v_turnedMany v_syndromes v_lightest v_freeMany v_freePlace v_freeSyndrome v_ways v_waysKept v_trace v_comesA v_comesB) H := hP
    have hD : va_D A (ww_M q cs v_told v_tell v_sums v_kindOf v_modOf v_bitsOf v_turnOf v_polyOf v_beginOf v_finishOf v_isLow v_weightsOf v_weight v_cell v_size v_row v_keptSize v_keptBefore v_keptAfter v_placeA v_placeB v_turned v_turnedMany v_syndromes v_lightest v_freeMany v_freePlace v_freeSyndrome v_ways v_waysKept v_trace v_comesA v_comesB) := hD
    refine lv_iload hx hb dX12_sumOf_282 (lv_at hl 2 rfl) ?_
    refine lv_iconst (v := 1) hx hb dX12_sumOf_284 (by decide) ?_
    refine lv_icmp_ne (tgt := 300) hx hb dX12_sumOf_285 (by decide) (fun b47 => ?_) (fun b47 => ?_)
    · have hm := i_f b47 hm
      refine lv_iload hx hb dX12_sumOf_300 (lv_at hl 2 rfl) ?_
      refine lv_iconst (v := 4) hx hb dX12_sumOf_302 (by decide) ?_
      refine lv_icmp_eq (tgt := 312) hx hb dX12_sumOf_303 (by decide) (fun b48 => ?_) (fun b48 => ?_)
      · have hm := i_t b48 hm
        refine lv_lload hx hb dX12_sumOf_312 (lv_at hl 3 rfl) ?_
        refine lv_aload_n hx hb dX12_sumOf_314 rfl (lv_at hl 0 rfl) ?_
        refine va_get (D := G) (ci := 10) (v := .ref (q 8)) (C := RX12) (T := TX12) (N := 33) hx hb hts hinX12 hown hK.1 hP 0 rfl rfl 9 (by decide) wd13 (fun _ h9 => h9) rfl dX12_sumOf_315 ?_
        refine lv_iload_n hx hb dX12_sumOf_318 rfl (lv_at hl 1 rfl) ?_
        obtain ⟨h49, hm⟩ := g_in hm
        refine va_lald hx hb hK.1 hP 8 1 rfl rfl h49 dX12_sumOf_319 ?_
        refine lv_lxor hx hb dX12_sumOf_320 ?_
        refine lv_goto (tgt := 326) hx hb dX12_sumOf_321 (by decide) ?_
        have hq := Option.some.inj hm
        subst hq; subst hQ
        exact k_lret hx hb hr hlocks hP hD hS rfl dX12_sumOf_326
      · have hm := i_f b48 hm
        refine lv_iload hx hb dX12_sumOf_306 (lv_at hl 2 rfl) ?_
        refine lv_iconst (v := 5) hx hb dX12_sumOf_308 (by decide) ?_
        refine lv_icmp_ne (tgt := 324) hx hb dX12_sumOf_309 (by decide) (fun b50 => ?_) (fun b50 => ?_)
        · have hm := i_f b50 hm
          refine lv_lload hx hb dX12_sumOf_324 (lv_at hl 3 rfl) ?_
          have hq := Option.some.inj hm
          subst hq; subst hQ
          exact k_lret hx hb hr hlocks hP hD hS rfl dX12_sumOf_326
        · have hm := i_t b50 hm
          refine lv_lload hx hb dX12_sumOf_312 (lv_at hl 3 rfl) ?_
          refine lv_aload_n hx hb dX12_sumOf_314 rfl (lv_at hl 0 rfl) ?_
          refine va_get (D := G) (ci := 10) (v := .ref (q 8)) (C := RX12) (T := TX12) (N := 33) hx hb hts hinX12 hown hK.1 hP 0 rfl rfl 9 (by decide) wd13 (fun _ h9 => h9) rfl dX12_sumOf_315 ?_
          refine lv_iload_n hx hb dX12_sumOf_318 rfl (lv_at hl 1 rfl) ?_
          obtain ⟨h51, hm⟩ := g_in hm
          refine va_lald hx hb hK.1 hP 8 1 rfl rfl h51 dX12_sumOf_319 ?_
          refine lv_lxor hx hb dX12_sumOf_320 ?_
          refine lv_goto (tgt := 326) hx hb dX12_sumOf_321 (by decide) ?_
          have hq := Option.some.inj hm
          subst hq; subst hQ
          exact k_lret hx hb hr hlocks hP hD hS rfl dX12_sumOf_326
    · have hm := i_t b47 hm
      refine lv_ldc2 (own := RX12) (v := 65536) hx hb hown wd12 dX12_sumOf_288 ?_
      refine lv_lload hx hb dX12_sumOf_291 (lv_at hl 4 rfl) ?_
      refine lv_lmul hx hb dX12_sumOf_293 ?_
      refine lv_lload hx hb dX12_sumOf_294 (lv_at hl 3 rfl) ?_
      refine lv_ladd hx hb dX12_sumOf_296 ?_
      refine lv_goto (tgt := 326) hx hb dX12_sumOf_297 (by decide) ?_
      have hq := Option.some.inj hm
      subst hq; subst hQ
      exact k_lret hx hb hr hlocks hP hD hS rfl dX12_sumOf_326
  · have hm := i_f b3 hm
    refine lv_iload hx hb dX12_sumOf_22 (lv_at hl 1 rfl) ?_
    refine lv_iconst (v := 5) hx hb dX12_sumOf_24 (by decide) ?_
    refine lv_icmp_ne (tgt := 37) hx hb dX12_sumOf_25 (by decide) (fun b52 => ?_) (fun b52 => ?_)
    · have hm := i_f b52 hm
      refine lv_lconst (v := 0) hx hb dX12_sumOf_37 (by decide) ?_
      refine lv_lstore (lv' := [(6, .long 0), (5, .int (v_modOf x1.toNatClampNeg)), (4, .int (v_kindOf x1.toNatClampNeg)), (0, .ref (q 0)), (1, .int x1), (2, .ref (q 13)), (3, .int x3)]) hx hb dX12_sumOf_38 hl (by decide) rfl (fun ls hl => ?_)
      refine lv_lconst (v := 0) hx hb dX12_sumOf_40 (by decide) ?_
      refine lv_lstore (lv' := [(8, .long 0), (6, .long 0), (5, .int (v_modOf x1.toNatClampNeg)), (4, .int (v_kindOf x1.toNatClampNeg)), (0, .ref (q 0)), (1, .int x1), (2, .ref (q 13)), (3, .int x3)]) hx hb dX12_sumOf_41 hl (by decide) rfl (fun ls hl => ?_)
      refine lv_iconst (v := 0) hx hb dX12_sumOf_43 (by decide) ?_
      refine lv_istore (lv' := [(10, .int 0), (8, .long 0), (6, .long 0), (5, .int (v_modOf x1.toNatClampNeg)), (4, .int (v_kindOf x1.toNatClampNeg)), (0, .ref (q 0)), (1, .int x1), (2, .ref (q 13)), (3, .int x3)]) hx hb dX12_sumOf_44 hl (by decide) rfl (fun ls hl => ?_)
      obtain ⟨u53, hlp53, hm⟩ := bs hm
      refine L46 x1 x3 (v_kindOf x1.toNatClampNeg) (v_modOf x1.toNatClampNeg) (0 : Int64) (0 : Int64) (0 : Int32) u53 hlp53 (fun r h => Option.some.inj (se_r h hm)) (fun o53 ho => ?_) H locs hP hD hS ls (lv_sub hl [5, 6, 7, 8, 4, 3, 2, 1, 0] rfl)
      have hm := se_l ho hm
      intro H locs hP hD hS ls hl
      have hl : lv_has ls 11 [(0, .ref (q 0)), (1, .int x1), (4, .int (v_kindOf x1.toNatClampNeg)), (6, .long o53.1), (8, .long o53.2)] := hl
      have hP : va_P G vwCl (ww_M q cs v_told v_tell v_sums v_kindOf v_modOf v_bitsOf v_turnOf v_polyOf v_beginOf v_finishOf v_isLow v_weightsOf v_weight v_cell v_size v_row v_keptSize v_keptBefore v_keptAfter v_placeA v_placeB v_turned v_turnedMany v_syndromes v_lightest v_freeMany v_freePlace v_freeSyndrome v_ways v_waysKept v_trace v_comesA v_comesB) H := hP
      have hD : va_D A (ww_M q cs v_told v_tell v_sums v_kindOf v_modOf v_bitsOf v_turnOf v_polyOf v_beginOf v_finishOf v_isLow v_weightsOf v_weight v_cell v_size v_row v_keptSize v_keptBefore v_keptAfter v_placeA v_placeB v_turned v_turnedMany v_syndromes v_lightest v_freeMany v_freePlace v_freeSyndrome v_ways v_waysKept v_trace v_comesA v_comesB) := hD
      refine lv_iload hx hb dX12_sumOf_282 (lv_at hl 2 rfl) ?_
      refine lv_iconst (v := 1) hx hb dX12_sumOf_284 (by decide) ?_
      refine lv_icmp_ne (tgt := 300) hx hb dX12_sumOf_285 (by decide) (fun b54 => ?_) (fun b54 => ?_)
      · have hm := i_f b54 hm
        refine lv_iload hx hb dX12_sumOf_300 (lv_at hl 2 rfl) ?_
        refine lv_iconst (v := 4) hx hb dX12_sumOf_302 (by decide) ?_
        refine lv_icmp_eq (tgt := 312) hx hb dX12_sumOf_303 (by decide) (fun b55 => ?_) (fun b55 => ?_)
        · have hm := i_t b55 hm
          refine lv_lload hx hb dX12_sumOf_312 (lv_at hl 3 rfl) ?_
          refine lv_aload_n hx hb dX12_sumOf_314 rfl (lv_at hl 0 rfl) ?_
          refine va_get (D := G) (ci := 10) (v := .ref (q 8)) (C := RX12) (T := TX12) (N := 33) hx hb hts hinX12 hown hK.1 hP 0 rfl rfl 9 (by decide) wd13 (fun _ h9 => h9) rfl dX12_sumOf_315 ?_
          refine lv_iload_n hx hb dX12_sumOf_318 rfl (lv_at hl 1 rfl) ?_
          obtain ⟨h56, hm⟩ := g_in hm
          refine va_lald hx hb hK.1 hP 8 1 rfl rfl h56 dX12_sumOf_319 ?_
          refine lv_lxor hx hb dX12_sumOf_320 ?_
          refine lv_goto (tgt := 326) hx hb dX12_sumOf_321 (by decide) ?_
          have hq := Option.some.inj hm
          subst hq; subst hQ
          exact k_lret hx hb hr hlocks hP hD hS rfl dX12_sumOf_326
        · have hm := i_f b55 hm
          refine lv_iload hx hb dX12_sumOf_306 (lv_at hl 2 rfl) ?_
          refine lv_iconst (v := 5) hx hb dX12_sumOf_308 (by decide) ?_
          refine lv_icmp_ne (tgt := 324) hx hb dX12_sumOf_309 (by decide) (fun b57 => ?_) (fun b57 => ?_)
          · have hm := i_f b57 hm
            refine lv_lload hx hb dX12_sumOf_324 (lv_at hl 3 rfl) ?_
            have hq := Option.some.inj hm
            subst hq; subst hQ
            exact k_lret hx hb hr hlocks hP hD hS rfl dX12_sumOf_326
          · have hm := i_t b57 hm
            refine lv_lload hx hb dX12_sumOf_312 (lv_at hl 3 rfl) ?_
            refine lv_aload_n hx hb dX12_sumOf_314 rfl (lv_at hl 0 rfl) ?_
            refine va_get (D := G) (ci := 10) (v := .ref (q 8)) (C := RX12) (T := TX12) (N := 33) hx hb hts hinX12 hown hK.1 hP 0 rfl rfl 9 (by decide) wd13 (fun _ h9 => h9) rfl dX12_sumOf_315 ?_
            refine lv_iload_n hx hb dX12_sumOf_318 rfl (lv_at hl 1 rfl) ?_
            obtain ⟨h58, hm⟩ := g_in hm
            refine va_lald hx hb hK.1 hP 8 1 rfl rfl h58 dX12_sumOf_319 ?_
            refine lv_lxor hx hb dX12_sumOf_320 ?_
            refine lv_goto (tgt := 326) hx hb dX12_sumOf_321 (by decide) ?_
            have hq := Option.some.inj hm
            subst hq; subst hQ
            exact k_lret hx hb hr hlocks hP hD hS rfl dX12_sumOf_326
      · have hm := i_t b54 hm
        refine lv_ldc2 (own := RX12) (v := 65536) hx hb hown wd12 dX12_sumOf_288 ?_
        refine lv_lload hx hb dX12_sumOf_291 (lv_at hl 4 rfl) ?_
        refine lv_lmul hx hb dX12_sumOf_293 ?_
        refine lv_lload hx hb dX12_sumOf_294 (lv_at hl 3 rfl) ?_
        refine lv_ladd hx hb dX12_sumOf_296 ?_
        refine lv_goto (tgt := 326) hx hb dX12_sumOf_297 (by decide) ?_
        have hq := Option.some.inj hm
        subst hq; subst hQ
        exact k_lret hx hb hr hlocks hP hD hS rfl dX12_sumOf_326
    · have hm := i_t b52 hm
      refine lv_aload_n hx hb dX12_sumOf_28 rfl (lv_at hl 2 rfl) ?_
      refine va_get (D := G) (ci := 10) (v := .ref (q 7)) (C := RX12) (T := TX12) (N := 33) hx hb hts hinX12 hown hK.1 hP 0 rfl rfl 8 (by decide) wd3 (fun _ h9 => h9) rfl dX12_sumOf_29 ?_
      refine lv_iload_n hx hb dX12_sumOf_32 rfl (lv_at hl 3 rfl) ?_
      obtain ⟨h59, hm⟩ := g_in hm
      refine va_lald hx hb hK.1 hP 7 1 rfl rfl h59 dX12_sumOf_33 ?_
      refine lv_goto (tgt := 38) hx hb dX12_sumOf_34 (by decide) ?_
      refine lv_lstore (lv' := [(6, .long (v_beginOf x1.toNatClampNeg)), (5, .int (v_modOf x1.toNatClampNeg)), (4, .int (v_kindOf x1.toNatClampNeg)), (0, .ref (q 0)), (1, .int x1), (2, .ref (q 13)), (3, .int x3)]) hx hb dX12_sumOf_38 hl (by decide) rfl (fun ls hl => ?_)
      refine lv_lconst (v := 0) hx hb dX12_sumOf_40 (by decide) ?_
      refine lv_lstore (lv' := [(8, .long 0), (6, .long (v_beginOf x1.toNatClampNeg)), (5, .int (v_modOf x1.toNatClampNeg)), (4, .int (v_kindOf x1.toNatClampNeg)), (0, .ref (q 0)), (1, .int x1), (2, .ref (q 13)), (3, .int x3)]) hx hb dX12_sumOf_41 hl (by decide) rfl (fun ls hl => ?_)
      refine lv_iconst (v := 0) hx hb dX12_sumOf_43 (by decide) ?_
      refine lv_istore (lv' := [(10, .int 0), (8, .long 0), (6, .long (v_beginOf x1.toNatClampNeg)), (5, .int (v_modOf x1.toNatClampNeg)), (4, .int (v_kindOf x1.toNatClampNeg)), (0, .ref (q 0)), (1, .int x1), (2, .ref (q 13)), (3, .int x3)]) hx hb dX12_sumOf_44 hl (by decide) rfl (fun ls hl => ?_)
      obtain ⟨u60, hlp60, hm⟩ := bs hm
      refine L46 x1 x3 (v_kindOf x1.toNatClampNeg) (v_modOf x1.toNatClampNeg) (v_beginOf x1.toNatClampNeg) (0 : Int64) (0 : Int32) u60 hlp60 (fun r h => Option.some.inj (se_r h hm)) (fun o60 ho => ?_) H locs hP hD hS ls (lv_sub hl [5, 6, 7, 8, 4, 3, 2, 1, 0] rfl)
      have hm := se_l ho hm
      intro H locs hP hD hS ls hl
      have hl : lv_has ls 11 [(0, .ref (q 0)), (1, .int x1), (4, .int (v_kindOf x1.toNatClampNeg)), (6, .long o60.1), (8, .long o60.2)] := hl
      have hP : va_P G vwCl (ww_M q cs v_told v_tell v_sums v_kindOf v_modOf v_bitsOf v_turnOf v_polyOf v_beginOf v_finishOf v_isLow v_weightsOf v_weight v_cell v_size v_row v_keptSize v_keptBefore v_keptAfter v_placeA v_placeB v_turned v_turnedMany v_syndromes v_lightest v_freeMany v_freePlace v_freeSyndrome v_ways v_waysKept v_trace v_comesA v_comesB) H := hP
      have hD : va_D A (ww_M q cs v_told v_tell v_sums v_kindOf v_modOf v_bitsOf v_turnOf v_polyOf v_beginOf v_finishOf v_isLow v_weightsOf v_weight v_cell v_size v_row v_keptSize v_keptBefore v_keptAfter v_placeA v_placeB v_turned v_turnedMany v_syndromes v_lightest v_freeMany v_freePlace v_freeSyndrome v_ways v_waysKept v_trace v_comesA v_comesB) := hD
      refine lv_iload hx hb dX12_sumOf_282 (lv_at hl 2 rfl) ?_
      refine lv_iconst (v := 1) hx hb dX12_sumOf_284 (by decide) ?_
      refine lv_icmp_ne (tgt := 300) hx hb dX12_sumOf_285 (by decide) (fun b61 => ?_) (fun b61 => ?_)
      · have hm := i_f b61 hm
        refine lv_iload hx hb dX12_sumOf_300 (lv_at hl 2 rfl) ?_
        refine lv_iconst (v := 4) hx hb dX12_sumOf_302 (by decide) ?_
        refine lv_icmp_eq (tgt := 312) hx hb dX12_sumOf_303 (by decide) (fun b62 => ?_) (fun b62 => ?_)
        · have hm := i_t b62 hm
          refine lv_lload hx hb dX12_sumOf_312 (lv_at hl 3 rfl) ?_
          refine lv_aload_n hx hb dX12_sumOf_314 rfl (lv_at hl 0 rfl) ?_
          refine va_get (D := G) (ci := 10) (v := .ref (q 8)) (C := RX12) (T := TX12) (N := 33) hx hb hts hinX12 hown hK.1 hP 0 rfl rfl 9 (by decide) wd13 (fun _ h9 => h9) rfl dX12_sumOf_315 ?_
          refine lv_iload_n hx hb dX12_sumOf_318 rfl (lv_at hl 1 rfl) ?_
          obtain ⟨h63, hm⟩ := g_in hm
          refine va_lald hx hb hK.1 hP 8 1 rfl rfl h63 dX12_sumOf_319 ?_
          refine lv_lxor hx hb dX12_sumOf_320 ?_
          refine lv_goto (tgt := 326) hx hb dX12_sumOf_321 (by decide) ?_
          have hq := Option.some.inj hm
          subst hq; subst hQ
          exact k_lret hx hb hr hlocks hP hD hS rfl dX12_sumOf_326
        · have hm := i_f b62 hm
          refine lv_iload hx hb dX12_sumOf_306 (lv_at hl 2 rfl) ?_
          refine lv_iconst (v := 5) hx hb dX12_sumOf_308 (by decide) ?_
          refine lv_icmp_ne (tgt := 324) hx hb dX12_sumOf_309 (by decide) (fun b64 => ?_) (fun b64 => ?_)
          · have hm := i_f b64 hm
            refine lv_lload hx hb dX12_sumOf_324 (lv_at hl 3 rfl) ?_
            have hq := Option.some.inj hm
            subst hq; subst hQ
            exact k_lret hx hb hr hlocks hP hD hS rfl dX12_sumOf_326
          · have hm := i_t b64 hm
            refine lv_lload hx hb dX12_sumOf_312 (lv_at hl 3 rfl) ?_
            refine lv_aload_n hx hb dX12_sumOf_314 rfl (lv_at hl 0 rfl) ?_
            refine va_get (D := G) (ci := 10) (v := .ref (q 8)) (C := RX12) (T := TX12) (N := 33) hx hb hts hinX12 hown hK.1 hP 0 rfl rfl 9 (by decide) wd13 (fun _ h9 => h9) rfl dX12_sumOf_315 ?_
            refine lv_iload_n hx hb dX12_sumOf_318 rfl (lv_at hl 1 rfl) ?_
            obtain ⟨h65, hm⟩ := g_in hm
            refine va_lald hx hb hK.1 hP 8 1 rfl rfl h65 dX12_sumOf_319 ?_
            refine lv_lxor hx hb dX12_sumOf_320 ?_
            refine lv_goto (tgt := 326) hx hb dX12_sumOf_321 (by decide) ?_
            have hq := Option.some.inj hm
            subst hq; subst hQ
            exact k_lret hx hb hr hlocks hP hD hS rfl dX12_sumOf_326
      · have hm := i_t b61 hm
        refine lv_ldc2 (own := RX12) (v := 65536) hx hb hown wd12 dX12_sumOf_288 ?_
        refine lv_lload hx hb dX12_sumOf_291 (lv_at hl 4 rfl) ?_
        refine lv_lmul hx hb dX12_sumOf_293 ?_
        refine lv_lload hx hb dX12_sumOf_294 (lv_at hl 3 rfl) ?_
        refine lv_ladd hx hb dX12_sumOf_296 ?_
        refine lv_goto (tgt := 326) hx hb dX12_sumOf_297 (by decide) ?_
        have hq := Option.some.inj hm
        subst hq; subst hQ
        exact k_lret hx hb hr hlocks hP hD hS rfl dX12_sumOf_326

theorem hd_X12_sum : yX12_sum.cls ≠ "java/lang/invoke/MethodHandle" ∧ yX12_sum.cls ≠ "java/lang/invoke/VarHandle" ∧ (parseMethodDescriptor yX12_sum.desc).map (fun d => d.parameters.length) = some 1 := by decide +kernel

def M_X12_sum (n : Nat) (x1 : Int32) (v_sums : Int32) (v_kindOf : (Nat → Int32)) (v_modOf : (Nat → Int32)) (v_bitsOf : (Nat → Int32)) (v_turnOf : (Nat → Int32)) (v_polyOf : (Nat → Int64)) (v_beginOf : (Nat → Int64)) (v_finishOf : (Nat → Int64)) (v_isLow : (Nat → Int32)) (v_weightsOf : (Nat → Int32)) (v_weight : (Nat → Int32)) (v_cell : (Nat → Int32)) (v_size : Int32) (v_row : (Nat → Int32)) (v_trace : (Nat → Int32)) : Option (Int64 × (Nat → Int32)) :=
  if (M_X12_isSum x1 v_sums) = 0 then (some ((-2), v_trace)) else (if x1 < 0 ∨ 16 ≤ x1.toNatClampNeg then none else if (v_kindOf x1.toNatClampNeg) < 0 ∨ 7 ≤ (v_kindOf x1.toNatClampNeg).toNatClampNeg then none else if (v_kindOf x1.toNatClampNeg) < 0 ∨ 7 ≤ (v_kindOf x1.toNatClampNeg).toNatClampNeg then none else if x1 < 0 ∨ 16 ≤ x1.toNatClampNeg then none else if (v_kindOf x1.toNatClampNeg) = 5 then ((M_X12_sumOf n x1 v_size v_kindOf v_modOf v_bitsOf v_turnOf v_polyOf v_beginOf v_finishOf v_isLow v_weightsOf v_weight v_cell v_row).bind fun r9 => some (r9, (upd (upd v_trace (v_kindOf x1.toNatClampNeg).toNatClampNeg ((v_trace (v_kindOf x1.toNatClampNeg).toNatClampNeg) + 1)) (4 : Int32).toNatClampNeg (((upd v_trace (v_kindOf x1.toNatClampNeg).toNatClampNeg ((v_trace (v_kindOf x1.toNatClampNeg).toNatClampNeg) + 1)) (4 : Int32).toNatClampNeg) + 1)))) else ((M_X12_sumOf n x1 v_size v_kindOf v_modOf v_bitsOf v_turnOf v_polyOf v_beginOf v_finishOf v_isLow v_weightsOf v_weight v_cell v_row).bind fun r8 => some (r8, (upd v_trace (v_kindOf x1.toNatClampNeg).toNatClampNeg ((v_trace (v_kindOf x1.toNatClampNeg).toNatClampNeg) + 1)))))

abbrev rmX12_sum : Room := { frames := 3, cells := 0, slots := 0, locals := 89 }
set_option maxHeartbeats 4000000 in
set_option maxRecDepth 100000 in
theorem c_X12_sum (l : Launch) (G : va_G) (cs : CS) (q : Nat → Nat) (sz : Nat) (v_told : Int32) (v_tell : (Nat → Int32)) (v_sums : Int32) (v_kindOf : (Nat → Int32)) (v_modOf : (Nat → Int32)) (v_bitsOf : (Nat → Int32)) (v_turnOf : (Nat → Int32)) (v_polyOf : (Nat → Int64)) (v_beginOf : (Nat → Int64)) (v_finishOf : (Nat → Int64)) (v_isLow : (Nat → Int32)) (v_weightsOf : (Nat → Int32)) (v_weight : (Nat → Int32)) (v_cell : (Nat → Int32)) (v_size : Int32) (v_row : (Nat → Int32)) (v_keptSize : Int32) (v_keptBefore : (Nat → Int32)) (v_keptAfter : (Nat → Int32)) (v_placeA : (Nat → Int64)) (v_placeB : (Nat → Int64)) (v_turned : (Nat → Int32)) (v_turnedMany : Int32) (v_syndromes : (Nat → Int64)) (v_lightest : (Nat → Int32)) (v_freeMany : Int32) (v_freePlace : (Nat → Int32)) (v_freeSyndrome : (Nat → Int64)) (v_ways : (Nat → Int32)) (v_waysKept : Int32) (v_trace : (Nat → Int32)) (v_comesA : Int64) (v_comesB : Int64)   (x1 : Int32) (n : Nat) (res : (Int64 × (Nat → Int32))) (hm : M_X12_sum n x1 v_sums v_kindOf v_modOf v_bitsOf v_turnOf v_polyOf v_beginOf v_finishOf v_isLow v_weightsOf v_weight v_cell v_size v_row v_trace = some res) : Met l yX12_sum wsX12_sum rmX12_sum (va_Pc [.ref (q 0), .int x1] (PreW G cs sz (ww_M q cs v_told v_tell v_sums v_kindOf v_modOf v_bitsOf v_turnOf v_polyOf v_beginOf v_finishOf v_isLow v_weightsOf v_weight v_cell v_size v_row v_keptSize v_keptBefore v_keptAfter v_placeA v_placeB v_turned v_turnedMany v_syndromes v_lightest v_freeMany v_freePlace v_freeSyndrome v_ways v_waysKept v_trace v_comesA v_comesB) RN)) (QL G res.1 (ww_M q cs v_told v_tell v_sums v_kindOf v_modOf v_bitsOf v_turnOf v_polyOf v_beginOf v_finishOf v_isLow v_weightsOf v_weight v_cell v_size v_row v_keptSize v_keptBefore v_keptAfter v_placeA v_placeB v_turned v_turnedMany v_syndromes v_lightest v_freeMany v_freePlace v_freeSyndrome v_ways v_waysKept res.2 v_comesA v_comesB) (va_A (ww_M q cs v_told v_tell v_sums v_kindOf v_modOf v_bitsOf v_turnOf v_polyOf v_beginOf v_finishOf v_isLow v_weightsOf v_weight v_cell v_size v_row v_keptSize v_keptBefore v_keptAfter v_placeA v_placeB v_turned v_turnedMany v_syndromes v_lightest v_freeMany v_freePlace v_freeSyndrome v_ways v_waysKept v_trace v_comesA v_comesB) sz)) 0 0 (va_A (ww_M q cs v_told v_tell v_sums v_kindOf v_modOf v_bitsOf v_turnOf v_polyOf v_beginOf v_finishOf v_isLow v_weightsOf v_weight v_cell v_size v_row v_keptSize v_keptBefore v_keptAfter v_placeA v_placeB v_turned v_turnedMany v_syndromes v_lightest v_freeMany v_freePlace v_freeSyndrome v_ways v_waysKept v_trace v_comesA v_comesB) sz) := by
  refine k_enter (Qf := fun A => QL G res.1 (ww_M q cs v_told v_tell v_sums v_kindOf v_modOf v_bitsOf v_turnOf v_polyOf v_beginOf v_finishOf v_isLow v_weightsOf v_weight v_cell v_size v_row v_keptSize v_keptBefore v_keptAfter v_placeA v_placeB v_turned v_turnedMany v_syndromes v_lightest v_freeMany v_freePlace v_freeSyndrome v_ways v_waysKept res.2 v_comesA v_comesB) A) (cc := cX12_sum) (maxL := 2) (ret := (some .long)) (plainFor_of_name (by decide)) rfl (Nat.le_of_ble_eq_true rfl) ?_
  intro p e s m args below meth c A Q ls H locs hx hb hr hml hown hts hlocks hname hK hA hRo hP hD hS hQ hl
  have hl : lv_has ls 2 [(0, .ref (q 0)), (1, .int x1)] := hl
  have wd2 := hts (.fieldLink RX12 81 "SumSmithModel" "trace" "[I") (List.mem_of_getElem? (i := 2) rfl)
  have wd3 := hts (.fieldLink RX12 13 "SumSmithModel" "kindOf" "[I") (List.mem_of_getElem? (i := 3) rfl)
  have wd4 := hts (.fieldLink RX12 48 "SumSmithModel" "row" "[I") (List.mem_of_getElem? (i := 4) rfl)
  have wd5 := hts (.fieldLink RX12 125 "SumSmithModel" "size" "I") (List.mem_of_getElem? (i := 5) rfl)
  have wd1 := hts (.constantLong RX12 142 (-2)) (List.mem_of_getElem? (i := 1) rfl)
  have hinX12 : ∀ w ∈ wsX120, w ∈ wsX12_sum := fun w h => List.mem_cons_of_mem _ (List.mem_append_right _ h)
  unfold M_X12_sum at hm
  refine lv_aload_n hx hb dX12_sum_0 rfl (lv_at hl 0 rfl) ?_
  refine lv_iload_n hx hb dX12_sum_1 rfl (lv_at hl 1 rfl) ?_
  refine k_calli (va_runV (As := [.int x1]) (rest := []) ⟨hx, hb, hml, hown, hts⟩ (c_X12_isSum l G cs q H.size v_told v_tell v_sums v_kindOf v_modOf v_bitsOf v_turnOf v_polyOf v_beginOf v_finishOf v_isLow v_weightsOf v_weight v_cell v_size v_row v_keptSize v_keptBefore v_keptAfter v_placeA v_placeB v_turned v_turnedMany v_syndromes v_lightest v_freeMany v_freePlace v_freeSyndrome v_ways v_waysKept v_trace v_comesA v_comesB   x1 _ rfl) (cwV 1 hts gX12_sum_X12_isSum rfl rfl rfl ⟨rfl, hd_X12_isSum⟩ ⟨Nat.le_of_ble_eq_true rfl, Nat.le_of_ble_eq_true rfl⟩) ⟨pre_blind, va_recv hK.1 hP (ci := 10) (q0 := 0) rfl rfl, pre_w hK RO.nil hP hD (va_all hD hS hA)⟩ rfl rfl hl.1 rfl (lv_room (Nat.le_of_ble_eq_true rfl)) dX12_sum_2 ⟨Nat.zero_le _, Nat.zero_le _⟩) hS (va_all hD hS hA) (fun hE1 H locs hP hD hS => ?_)
  have hP : va_P G vwCl (ww_M q cs v_told v_tell v_sums v_kindOf v_modOf v_bitsOf v_turnOf v_polyOf v_beginOf v_finishOf v_isLow v_weightsOf v_weight v_cell v_size v_row v_keptSize v_keptBefore v_keptAfter v_placeA v_placeB v_turned v_turnedMany v_syndromes v_lightest v_freeMany v_freePlace v_freeSyndrome v_ways v_waysKept v_trace v_comesA v_comesB) H := hP
  have hD : va_D A (ww_M q cs v_told v_tell v_sums v_kindOf v_modOf v_bitsOf v_turnOf v_polyOf v_beginOf v_finishOf v_isLow v_weightsOf v_weight v_cell v_size v_row v_keptSize v_keptBefore v_keptAfter v_placeA v_placeB v_turned v_turnedMany v_syndromes v_lightest v_freeMany v_freePlace v_freeSyndrome v_ways v_waysKept v_trace v_comesA v_comesB) := hD
  refine lv_if_ne (tgt := 12) hx hb dX12_sum_5 (by decide) (fun b2 => ?_) (fun b2 => ?_)
  · have hm := i_f b2 hm
    refine lv_aload_n hx hb dX12_sum_12 rfl (lv_at hl 0 rfl) ?_
    refine va_get (D := G) (ci := 10) (v := .ref (q 24)) (C := RX12) (T := TX12) (N := 33) hx hb hts hinX12 hown hK.1 hP 0 rfl rfl 30 (by decide) wd2 (fun _ h9 => h9) rfl dX12_sum_13 ?_
    refine lv_aload_n hx hb dX12_sum_16 rfl (lv_at hl 0 rfl) ?_
    refine va_get (D := G) (ci := 10) (v := .ref (q 2)) (C := RX12) (T := TX12) (N := 33) hx hb hts hinX12 hown hK.1 hP 0 rfl rfl 3 (by decide) wd3 (fun _ h9 => h9) rfl dX12_sum_17 ?_
    refine lv_iload_n hx hb dX12_sum_20 rfl (lv_at hl 1 rfl) ?_
    obtain ⟨h3, hm⟩ := g_in hm
    refine va_iald hx hb hK.1 hP 2 0 rfl rfl h3 dX12_sum_21 ?_
    refine lv_dup2_11 hx hb dX12_sum_22 rfl rfl ?_
    obtain ⟨h4, hm⟩ := g_in hm
    refine va_iald hx hb hK.1 hP 24 0 rfl rfl h4 dX12_sum_23 ?_
    refine lv_iconst (v := 1) hx hb dX12_sum_24 (by decide) ?_
    refine lv_iadd hx hb dX12_sum_25 ?_
    obtain ⟨h5, hm⟩ := g_in hm
    refine va_iast hx hb hK.1 hP hD hS 24 0 rfl rfl h5 dX12_sum_26 (fun H locs hP hD hS => ?_)
    have hP : va_P G vwCl (ww_M q cs v_told v_tell v_sums v_kindOf v_modOf v_bitsOf v_turnOf v_polyOf v_beginOf v_finishOf v_isLow v_weightsOf v_weight v_cell v_size v_row v_keptSize v_keptBefore v_keptAfter v_placeA v_placeB v_turned v_turnedMany v_syndromes v_lightest v_freeMany v_freePlace v_freeSyndrome v_ways v_waysKept (upd v_trace (v_kindOf x1.toNatClampNeg).toNatClampNeg ((v_trace (v_kindOf x1.toNatClampNeg).toNatClampNeg) + 1)) v_comesA v_comesB) H := hP
    have hD : va_D A (ww_M q cs v_told v_tell v_sums v_kindOf v_modOf v_bitsOf v_turnOf v_polyOf v_beginOf v_finishOf v_isLow v_weightsOf v_weight v_cell v_size v_row v_keptSize v_keptBefore v_keptAfter v_placeA v_placeB v_turned v_turnedMany v_syndromes v_lightest v_freeMany v_freePlace v_freeSyndrome v_ways v_waysKept (upd v_trace (v_kindOf x1.toNatClampNeg).toNatClampNeg ((v_trace (v_kindOf x1.toNatClampNeg).toNatClampNeg) + 1)) v_comesA v_comesB) := hD
    refine lv_aload_n hx hb dX12_sum_27 rfl (lv_at hl 0 rfl) ?_
    refine va_get (D := G) (ci := 10) (v := .ref (q 2)) (C := RX12) (T := TX12) (N := 33) hx hb hts hinX12 hown hK.1 hP 0 rfl rfl 3 (by decide) wd3 (fun _ h9 => h9) rfl dX12_sum_28 ?_
    refine lv_iload_n hx hb dX12_sum_31 rfl (lv_at hl 1 rfl) ?_
    obtain ⟨h6, hm⟩ := g_in hm
    refine va_iald hx hb hK.1 hP 2 0 rfl rfl h6 dX12_sum_32 ?_
    refine lv_iconst (v := 5) hx hb dX12_sum_33 (by decide) ?_
    refine lv_icmp_ne (tgt := 47) hx hb dX12_sum_34 (by decide) (fun b7 => ?_) (fun b7 => ?_)
    · have hm := i_f b7 hm
      refine lv_aload_n hx hb dX12_sum_47 rfl (lv_at hl 0 rfl) ?_
      refine lv_iload_n hx hb dX12_sum_48 rfl (lv_at hl 1 rfl) ?_
      refine lv_aload_n hx hb dX12_sum_49 rfl (lv_at hl 0 rfl) ?_
      refine va_get (D := G) (ci := 10) (v := .ref (q 13)) (C := RX12) (T := TX12) (N := 33) hx hb hts hinX12 hown hK.1 hP 0 rfl rfl 15 (by decide) wd4 (fun _ h9 => h9) rfl dX12_sum_50 ?_
      refine lv_aload_n hx hb dX12_sum_53 rfl (lv_at hl 0 rfl) ?_
      refine va_get (D := G) (ci := 10) (v := .int v_size) (C := RX12) (T := TX12) (N := 33) hx hb hts hinX12 hown hK.1 hP 0 rfl rfl 14 (by decide) wd5 (fun _ h9 => h9) rfl dX12_sum_54 ?_
      obtain ⟨r8, hc_r8, hm⟩ := bs hm
      refine k_calll (va_runV (As := [.int x1, .ref (q 13), .int v_size]) (rest := []) ⟨hx, hb, hml, hown, hts⟩ (c_X12_sumOf l G cs q H.size v_told v_tell v_sums v_kindOf v_modOf v_bitsOf v_turnOf v_polyOf v_beginOf v_finishOf v_isLow v_weightsOf v_weight v_cell v_size v_row v_keptSize v_keptBefore v_keptAfter v_placeA v_placeB v_turned v_turnedMany v_syndromes v_lightest v_freeMany v_freePlace v_freeSyndrome v_ways v_waysKept (upd v_trace (v_kindOf x1.toNatClampNeg).toNatClampNeg ((v_trace (v_kindOf x1.toNatClampNeg).toNatClampNeg) + 1)) v_comesA v_comesB   x1 v_size n r8 hc_r8) (cwV 3 hts gX12_sum_X12_sumOf rfl rfl rfl ⟨rfl, hd_X12_sumOf⟩ ⟨Nat.le_of_ble_eq_true rfl, Nat.le_of_ble_eq_true rfl⟩) ⟨pre_blind, va_recv hK.1 hP (ci := 10) (q0 := 0) rfl rfl, pre_w hK RO.nil hP hD (va_all hD hS hA)⟩ rfl rfl hl.1 rfl (lv_room (Nat.le_of_ble_eq_true rfl)) dX12_sum_57 ⟨Nat.zero_le _, Nat.zero_le _⟩) hS (va_all hD hS hA) (fun H locs hP hD hS => ?_)
      have hP : va_P G vwCl (ww_M q cs v_told v_tell v_sums v_kindOf v_modOf v_bitsOf v_turnOf v_polyOf v_beginOf v_finishOf v_isLow v_weightsOf v_weight v_cell v_size v_row v_keptSize v_keptBefore v_keptAfter v_placeA v_placeB v_turned v_turnedMany v_syndromes v_lightest v_freeMany v_freePlace v_freeSyndrome v_ways v_waysKept (upd v_trace (v_kindOf x1.toNatClampNeg).toNatClampNeg ((v_trace (v_kindOf x1.toNatClampNeg).toNatClampNeg) + 1)) v_comesA v_comesB) H := hP
      have hD : va_D A (ww_M q cs v_told v_tell v_sums v_kindOf v_modOf v_bitsOf v_turnOf v_polyOf v_beginOf v_finishOf v_isLow v_weightsOf v_weight v_cell v_size v_row v_keptSize v_keptBefore v_keptAfter v_placeA v_placeB v_turned v_turnedMany v_syndromes v_lightest v_freeMany v_freePlace v_freeSyndrome v_ways v_waysKept (upd v_trace (v_kindOf x1.toNatClampNeg).toNatClampNeg ((v_trace (v_kindOf x1.toNatClampNeg).toNatClampNeg) + 1)) v_comesA v_comesB) := hD
      have hq := Option.some.inj hm
      subst hq; subst hQ
      exact k_lret hx hb hr hlocks hP hD hS rfl dX12_sum_60
    · have hm := i_t b7 hm
      refine lv_aload_n hx hb dX12_sum_37 rfl (lv_at hl 0 rfl) ?_
      refine va_get (D := G) (ci := 10) (v := .ref (q 24)) (C := RX12) (T := TX12) (N := 33) hx hb hts hinX12 hown hK.1 hP 0 rfl rfl 30 (by decide) wd2 (fun _ h9 => h9) rfl dX12_sum_38 ?_
      refine lv_iconst (v := 4) hx hb dX12_sum_41 (by decide) ?_
      refine lv_dup2_11 hx hb dX12_sum_42 rfl rfl ?_
      refine va_iald hx hb hK.1 hP 24 0 rfl rfl (by unfold vp_in; decide) dX12_sum_43 ?_
      refine lv_iconst (v := 1) hx hb dX12_sum_44 (by decide) ?_
      refine lv_iadd hx hb dX12_sum_45 ?_
      refine va_iast hx hb hK.1 hP hD hS 24 0 rfl rfl (by unfold vp_in; decide) dX12_sum_46 (fun H locs hP hD hS => ?_)
      have hP : va_P G vwCl (ww_M q cs v_told v_tell v_sums v_kindOf v_modOf v_bitsOf v_turnOf v_polyOf v_beginOf v_finishOf v_isLow v_weightsOf v_weight v_cell v_size v_row v_keptSize v_keptBefore v_keptAfter v_placeA v_placeB v_turned v_turnedMany v_syndromes v_lightest v_freeMany v_freePlace v_freeSyndrome v_ways v_waysKept (upd (upd v_trace (v_kindOf x1.toNatClampNeg).toNatClampNeg ((v_trace (v_kindOf x1.toNatClampNeg).toNatClampNeg) + 1)) (4 : Int32).toNatClampNeg (((upd v_trace (v_kindOf x1.toNatClampNeg).toNatClampNeg ((v_trace (v_kindOf x1.toNatClampNeg).toNatClampNeg) + 1)) (4 : Int32).toNatClampNeg) + 1)) v_comesA v_comesB) H := hP
      have hD : va_D A (ww_M q cs v_told v_tell v_sums v_kindOf v_modOf v_bitsOf v_turnOf v_polyOf v_beginOf v_finishOf v_isLow v_weightsOf v_weight v_cell v_size v_row v_keptSize v_keptBefore v_keptAfter v_placeA v_placeB v_turned v_turnedMany v_syndromes v_lightest v_freeMany v_freePlace v_freeSyndrome v_ways v_waysKept (upd (upd v_trace (v_kindOf x1.toNatClampNeg).toNatClampNeg ((v_trace (v_kindOf x1.toNatClampNeg).toNatClampNeg) + 1)) (4 : Int32).toNatClampNeg (((upd v_trace (v_kindOf x1.toNatClampNeg).toNatClampNeg ((v_trace (v_kindOf x1.toNatClampNeg).toNatClampNeg) + 1)) (4 : Int32).toNatClampNeg) + 1)) v_comesA v_comesB) := hD
      refine lv_aload_n hx hb dX12_sum_47 rfl (lv_at hl 0 rfl) ?_
      refine lv_iload_n hx hb dX12_sum_48 rfl (lv_at hl 1 rfl) ?_
      refine lv_aload_n hx hb dX12_sum_49 rfl (lv_at hl 0 rfl) ?_
      refine va_get (D := G) (ci := 10) (v := .ref (q 13)) (C := RX12) (T := TX12) (N := 33) hx hb hts hinX12 hown hK.1 hP 0 rfl rfl 15 (by decide) wd4 (fun _ h9 => h9) rfl dX12_sum_50 ?_
      refine lv_aload_n hx hb dX12_sum_53 rfl (lv_at hl 0 rfl) ?_
      refine va_get (D := G) (ci := 10) (v := .int v_size) (C := RX12) (T := TX12) (N := 33) hx hb hts hinX12 hown hK.1 hP 0 rfl rfl 14 (by decide) wd5 (fun _ h9 => h9) rfl dX12_sum_54 ?_
      obtain ⟨r9, hc_r9, hm⟩ := bs hm
      refine k_calll (va_runV (As := [.int x1, .ref (q 13), .int v_size]) (rest := []) ⟨hx, hb, hml, hown, hts⟩ (c_X12_sumOf l G cs q H.size v_told v_tell v_sums v_kindOf v_modOf v_bitsOf v_turnOf v_polyOf v_beginOf v_finishOf v_isLow v_weightsOf v_weight v_cell v_size v_row v_keptSize v_keptBefore v_keptAfter v_placeA v_placeB v_turned v_turnedMany v_syndromes v_lightest v_freeMany v_freePlace v_freeSyndrome v_ways v_waysKept (upd (upd v_trace (v_kindOf x1.toNatClampNeg).toNatClampNeg ((v_trace (v_kindOf x1.toNatClampNeg).toNatClampNeg) + 1)) (4 : Int32).toNatClampNeg (((upd v_trace (v_kindOf x1.toNatClampNeg).toNatClampNeg ((v_trace (v_kindOf x1.toNatClampNeg).toNatClampNeg) + 1)) (4 : Int32).toNatClampNeg) + 1)) v_comesA v_comesB   x1 v_size n r9 hc_r9) (cwV 3 hts gX12_sum_X12_sumOf rfl rfl rfl ⟨rfl, hd_X12_sumOf⟩ ⟨Nat.le_of_ble_eq_true rfl, Nat.le_of_ble_eq_true rfl⟩) ⟨pre_blind, va_recv hK.1 hP (ci := 10) (q0 := 0) rfl rfl, pre_w hK RO.nil hP hD (va_all hD hS hA)⟩ rfl rfl hl.1 rfl (lv_room (Nat.le_of_ble_eq_true rfl)) dX12_sum_57 ⟨Nat.zero_le _, Nat.zero_le _⟩) hS (va_all hD hS hA) (fun H locs hP hD hS => ?_)
      have hP : va_P G vwCl (ww_M q cs v_told v_tell v_sums v_kindOf v_modOf v_bitsOf v_turnOf v_polyOf v_beginOf v_finishOf v_isLow v_weightsOf v_weight v_cell v_size v_row v_keptSize v_keptBefore v_keptAfter v_placeA v_placeB v_turned v_turnedMany v_syndromes v_lightest v_freeMany v_freePlace v_freeSyndrome v_ways v_waysKept (upd (upd v_trace (v_kindOf x1.toNatClampNeg).toNatClampNeg ((v_trace (v_kindOf x1.toNatClampNeg).toNatClampNeg) + 1)) (4 : Int32).toNatClampNeg (((upd v_trace (v_kindOf x1.toNatClampNeg).toNatClampNeg ((v_trace (v_kindOf x1.toNatClampNeg).toNatClampNeg) + 1)) (4 : Int32).toNatClampNeg) + 1)) v_comesA v_comesB) H := hP
      have hD : va_D A (ww_M q cs v_told v_tell v_sums v_kindOf v_modOf v_bitsOf v_turnOf v_polyOf v_beginOf v_finishOf v_isLow v_weightsOf v_weight v_cell v_size v_row v_keptSize v_keptBefore v_keptAfter v_placeA v_placeB v_turned v_turnedMany v_syndromes v_lightest v_freeMany v_freePlace v_freeSyndrome v_ways v_waysKept (upd (upd v_trace (v_kindOf x1.toNatClampNeg).toNatClampNeg ((v_trace (v_kindOf x1.toNatClampNeg).toNatClampNeg) + 1)) (4 : Int32).toNatClampNeg (((upd v_trace (v_kindOf x1.toNatClampNeg).toNatClampNeg ((v_trace (v_kindOf x1.toNatClampNeg).toNatClampNeg) + 1)) (4 : Int32).toNatClampNeg) + 1)) v_comesA v_comesB) := hD
      have hq := Option.some.inj hm
      subst hq; subst hQ
      exact k_lret hx hb hr hlocks hP hD hS rfl dX12_sum_60
  · have hm := i_t b2 hm
    refine lv_ldc2 (own := RX12) (v := (-2)) hx hb hown wd1 dX12_sum_8 ?_
    have hq := Option.some.inj hm
    subst hq; subst hQ
    exact k_lret hx hb hr hlocks hP hD hS rfl dX12_sum_11

theorem hd_X12_bears : yX12_bears.cls ≠ "java/lang/invoke/MethodHandle" ∧ yX12_bears.cls ≠ "java/lang/invoke/VarHandle" ∧ (parseMethodDescriptor yX12_bears.desc).map (fun d => d.parameters.length) = some 2 := by decide +kernel

def M_X12_bears (x1 : Int32) (x2 : Int64) (v_kindOf : (Nat → Int32)) (v_modOf : (Nat → Int32)) (v_bitsOf : (Nat → Int32)) : Option Int32 :=
  if x1 < 0 ∨ 16 ≤ x1.toNatClampNeg then none else if (v_kindOf x1.toNatClampNeg) = 0 then (if x1 < 0 ∨ 16 ≤ x1.toNatClampNeg then none else some (M_X12_in x2 (0 : Int64) (((v_modOf x1.toNatClampNeg).toInt64) - 1))) else (if (v_kindOf x1.toNatClampNeg) = 2 then (if x1 < 0 ∨ 16 ≤ x1.toNatClampNeg then none else some (M_X12_in x2 (0 : Int64) (((v_modOf x1.toNatClampNeg).toInt64) - 1))) else (if (v_kindOf x1.toNatClampNeg) = 1 then (if x2 < 0 then (some 0) else (if x1 < 0 ∨ 16 ≤ x1.toNatClampNeg then none else if ((v_modOf x1.toNatClampNeg).toInt64) ≤ (x2 - x2 / 65536 * 65536) then (some 0) else (if x1 < 0 ∨ 16 ≤ x1.toNatClampNeg then none else if ((v_modOf x1.toNatClampNeg).toInt64) ≤ (x2 / 65536) then (some 0) else (some 1)))) else ((M_X12_mask x1 v_bitsOf).bind fun r7 => some (M_X12_in x2 (0 : Int64) r7))))

abbrev rmX12_bears : Room := { frames := 1, cells := 0, slots := 0, locals := 25 }
set_option maxHeartbeats 4000000 in
set_option maxRecDepth 100000 in
theorem c_X12_bears (l : Launch) (G : va_G) (cs : CS) (q : Nat → Nat) (sz : Nat) (v_told : Int32) (v_tell : (Nat → Int32)) (v_sums : Int32) (v_kindOf : (Nat → Int32)) (v_modOf : (Nat → Int32)) (v_bitsOf : (Nat → Int32)) (v_turnOf : (Nat → Int32)) (v_polyOf : (Nat → Int64)) (v_beginOf : (Nat → Int64)) (v_finishOf : (Nat → Int64)) (v_isLow : (Nat → Int32)) (v_weightsOf : (Nat → Int32)) (v_weight : (Nat → Int32)) (v_cell : (Nat → Int32)) (v_size : Int32) (v_row : (Nat → Int32)) (v_keptSize : Int32) (v_keptBefore : (Nat → Int32)) (v_keptAfter : (Nat → Int32)) (v_placeA : (Nat → Int64)) (v_placeB : (Nat → Int64)) (v_turned : (Nat → Int32)) (v_turnedMany : Int32) (v_syndromes : (Nat → Int64)) (v_lightest : (Nat → Int32)) (v_freeMany : Int32) (v_freePlace : (Nat → Int32)) (v_freeSyndrome : (Nat → Int64)) (v_ways : (Nat → Int32)) (v_waysKept : Int32) (v_trace : (Nat → Int32)) (v_comesA : Int64) (v_comesB : Int64)   (x1 : Int32) (x2 : Int64) (res : Int32) (hm : M_X12_bears x1 x2 v_kindOf v_modOf v_bitsOf = some res) : Met l yX12_bears wsX12_bears rmX12_bears (va_Pc [.ref (q 0), .int x1, .long x2] (PreW G cs sz (ww_M q cs v_told v_tell v_sums v_kindOf v_modOf v_bitsOf v_turnOf v_polyOf v_beginOf v_finishOf v_isLow v_weightsOf v_weight v_cell v_size v_row v_keptSize v_keptBefore v_keptAfter v_placeA v_placeB v_turned v_turnedMany v_syndromes v_lightest v_freeMany v_freePlace v_freeSyndrome v_ways v_waysKept v_trace v_comesA v_comesB) RN)) (QI G res (res = 0 ∨ res = 1) (ww_M q cs v_told v_tell v_sums v_kindOf v_modOf v_bitsOf v_turnOf v_polyOf v_beginOf v_finishOf v_isLow v_weightsOf v_weight v_cell v_size v_row v_keptSize v_keptBefore v_keptAfter v_placeA v_placeB v_turned v_turnedMany v_syndromes v_lightest v_freeMany v_freePlace v_freeSyndrome v_ways v_waysKept v_trace v_comesA v_comesB) (va_A (ww_M q cs v_told v_tell v_sums v_kindOf v_modOf v_bitsOf v_turnOf v_polyOf v_beginOf v_finishOf v_isLow v_weightsOf v_weight v_cell v_size v_row v_keptSize v_keptBefore v_keptAfter v_placeA v_placeB v_turned v_turnedMany v_syndromes v_lightest v_freeMany v_freePlace v_freeSyndrome v_ways v_waysKept v_trace v_comesA v_comesB) sz)) 0 0 (va_A (ww_M q cs v_told v_tell v_sums v_kindOf v_modOf v_bitsOf v_turnOf v_polyOf v_beginOf v_finishOf v_isLow v_weightsOf v_weight v_cell v_size v_row v_keptSize v_keptBefore v_keptAfter v_placeA v_placeB v_turned v_turnedMany v_syndromes v_lightest v_freeMany v_freePlace v_freeSyndrome v_ways v_waysKept v_trace v_comesA v_comesB) sz) := by
  refine k_enter (Qf := fun A => QI G res (res = 0 ∨ res = 1) (ww_M q cs v_told v_tell v_sums v_kindOf v_modOf v_bitsOf v_turnOf v_polyOf v_beginOf v_finishOf v_isLow v_weightsOf v_weight v_cell v_size v_row v_keptSize v_keptBefore v_keptAfter v_placeA v_placeB v_turned v_turnedMany v_syndromes v_lightest v_freeMany v_freePlace v_freeSyndrome v_ways v_waysKept v_trace v_comesA v_comesB) A) (cc := cX12_bears) (maxL := 5) (ret := (some .boolean)) (plainFor_of_name (by decide)) rfl (Nat.le_of_ble_eq_true rfl) ?_
  intro p e s m args below meth c A Q ls H locs hx hb hr hml hown hts hlocks hname hK hA hRo hP hD hS hQ hl
  have hl : lv_has ls 5 [(0, .ref (q 0)), (1, .int x1), (2, .long x2)] := hl
  have wd1 := hts (.fieldLink RX12 13 "SumSmithModel" "kindOf" "[I") (List.mem_of_getElem? (i := 1) rfl)
  have wd2 := hts (.fieldLink RX12 16 "SumSmithModel" "modOf" "[I") (List.mem_of_getElem? (i := 2) rfl)
  have wd3 := hts (.constantLong RX12 99 (65536)) (List.mem_of_getElem? (i := 3) rfl)
  have hinX12 : ∀ w ∈ wsX120, w ∈ wsX12_bears := fun w h => List.mem_cons_of_mem _ (List.mem_append_right _ h)
  unfold M_X12_bears at hm
  refine lv_aload_n hx hb dX12_bears_0 rfl (lv_at hl 0 rfl) ?_
  refine va_get (D := G) (ci := 10) (v := .ref (q 2)) (C := RX12) (T := TX12) (N := 33) hx hb hts hinX12 hown hK.1 hP 0 rfl rfl 3 (by decide) wd1 (fun _ h9 => h9) rfl dX12_bears_1 ?_
  refine lv_iload_n hx hb dX12_bears_4 rfl (lv_at hl 1 rfl) ?_
  obtain ⟨h1, hm⟩ := g_in hm
  refine va_iald hx hb hK.1 hP 2 0 rfl rfl h1 dX12_bears_5 ?_
  refine lv_istore (lv' := [(4, .int (v_kindOf x1.toNatClampNeg)), (0, .ref (q 0)), (1, .int x1), (2, .long x2)]) hx hb dX12_bears_6 hl (by decide) rfl (fun ls hl => ?_)
  refine lv_iload hx hb dX12_bears_8 (lv_at hl 0 rfl) ?_
  refine lv_if_eq (tgt := 19) hx hb dX12_bears_10 (by decide) (fun b2 => ?_) (fun b2 => ?_)
  · have hm := i_t b2 hm
    refine lv_lload_n hx hb dX12_bears_19 rfl (lv_at hl 3 rfl) ?_
    refine lv_lconst (v := 0) hx hb dX12_bears_20 (by decide) ?_
    refine lv_aload_n hx hb dX12_bears_21 rfl (lv_at hl 1 rfl) ?_
    refine va_get (D := G) (ci := 10) (v := .ref (q 3)) (C := RX12) (T := TX12) (N := 33) hx hb hts hinX12 hown hK.1 hP 0 rfl rfl 4 (by decide) wd2 (fun _ h9 => h9) rfl dX12_bears_22 ?_
    refine lv_iload_n hx hb dX12_bears_25 rfl (lv_at hl 2 rfl) ?_
    obtain ⟨h3, hm⟩ := g_in hm
    refine va_iald hx hb hK.1 hP 3 0 rfl rfl h3 dX12_bears_26 ?_
    refine lv_i2l (v := (v_modOf x1.toNatClampNeg).toInt64) hx hb dX12_bears_27 rfl ?_
    refine lv_lconst (v := 1) hx hb dX12_bears_28 (by decide) ?_
    refine lv_lsub hx hb dX12_bears_29 ?_
    refine k_calli0 (va_runS (As := [.long x2, .long 0, .long (((v_modOf x1.toNatClampNeg).toInt64) - 1)]) (rest := []) ⟨hx, hb, hml, hown, hts⟩ (c_X12_in l G cs H.size    x2 (0 : Int64) (((v_modOf x1.toNatClampNeg).toInt64) - 1) _ rfl) (va_cwS 3 hts gX12_bears_X12_in rfl rfl rfl hd_X12_in ⟨Nat.le_of_ble_eq_true rfl, Nat.le_of_ble_eq_true rfl⟩) ⟨pre_blind, pre_w hK RO.nil P0 D0 (va_new0 hS hA)⟩ rfl rfl hl.1 rfl (lv_room (Nat.le_of_ble_eq_true rfl)) dX12_bears_30 ⟨Nat.zero_le _, Nat.zero_le _⟩) hP hS hA (fun hE4 H locs hP hS => ?_)
    have hq := Option.some.inj hm
    subst hq; subst hQ
    exact k_zret hx hb hr hlocks hP hD hS rfl hE4 dX12_bears_33
  · have hm := i_f b2 hm
    refine lv_iload hx hb dX12_bears_13 (lv_at hl 0 rfl) ?_
    refine lv_iconst (v := 2) hx hb dX12_bears_15 (by decide) ?_
    refine lv_icmp_ne (tgt := 34) hx hb dX12_bears_16 (by decide) (fun b5 => ?_) (fun b5 => ?_)
    · have hm := i_f b5 hm
      refine lv_iload hx hb dX12_bears_34 (lv_at hl 0 rfl) ?_
      refine lv_iconst (v := 1) hx hb dX12_bears_36 (by decide) ?_
      refine lv_icmp_ne (tgt := 84) hx hb dX12_bears_37 (by decide) (fun b6 => ?_) (fun b6 => ?_)
      · have hm := i_f b6 hm
        refine lv_lload_n hx hb dX12_bears_84 rfl (lv_at hl 3 rfl) ?_
        refine lv_lconst (v := 0) hx hb dX12_bears_85 (by decide) ?_
        refine lv_aload_n hx hb dX12_bears_86 rfl (lv_at hl 1 rfl) ?_
        refine lv_iload_n hx hb dX12_bears_87 rfl (lv_at hl 2 rfl) ?_
        obtain ⟨r7, hc_r7, hm⟩ := bs hm
        refine k_calll (va_runV (As := [.int x1]) (rest := [.long 0, .long x2]) ⟨hx, hb, hml, hown, hts⟩ (c_X12_mask l G cs q H.size v_told v_tell v_sums v_kindOf v_modOf v_bitsOf v_turnOf v_polyOf v_beginOf v_finishOf v_isLow v_weightsOf v_weight v_cell v_size v_row v_keptSize v_keptBefore v_keptAfter v_placeA v_placeB v_turned v_turnedMany v_syndromes v_lightest v_freeMany v_freePlace v_freeSyndrome v_ways v_waysKept v_trace v_comesA v_comesB   x1 r7 hc_r7) (cwV 1 hts gX12_bears_X12_mask rfl rfl rfl ⟨rfl, hd_X12_mask⟩ ⟨Nat.le_of_ble_eq_true rfl, Nat.le_of_ble_eq_true rfl⟩) ⟨pre_blind, va_recv hK.1 hP (ci := 10) (q0 := 0) rfl rfl, pre_w hK RO.nil hP hD (va_all hD hS hA)⟩ rfl rfl hl.1 rfl (lv_room (Nat.le_of_ble_eq_true rfl)) dX12_bears_88 ⟨Nat.zero_le _, Nat.zero_le _⟩) hS (va_all hD hS hA) (fun H locs hP hD hS => ?_)
        have hP : va_P G vwCl (ww_M q cs v_told v_tell v_sums v_kindOf v_modOf v_bitsOf v_turnOf v_polyOf v_beginOf v_finishOf v_isLow v_weightsOf v_weight v_cell v_size v_row v_keptSize v_keptBefore v_keptAfter v_placeA v_placeB v_turned v_turnedMany v_syndromes v_lightest v_freeMany v_freePlace v_freeSyndrome v_ways v_waysKept v_trace v_comesA v_comesB) H := hP
        have hD : va_D A (ww_M q cs v_told v_tell v_sums v_kindOf v_modOf v_bitsOf v_turnOf v_polyOf v_beginOf v_finishOf v_isLow v_weightsOf v_weight v_cell v_size v_row v_keptSize v_keptBefore v_keptAfter v_placeA v_placeB v_turned v_turnedMany v_syndromes v_lightest v_freeMany v_freePlace v_freeSyndrome v_ways v_waysKept v_trace v_comesA v_comesB) := hD
        refine k_calli0 (va_runS (As := [.long x2, .long 0, .long r7]) (rest := []) ⟨hx, hb, hml, hown, hts⟩ (c_X12_in l G cs H.size    x2 (0 : Int64) r7 _ rfl) (va_cwS 3 hts gX12_bears_X12_in rfl rfl rfl hd_X12_in ⟨Nat.le_of_ble_eq_true rfl, Nat.le_of_ble_eq_true rfl⟩) ⟨pre_blind, pre_w hK RO.nil P0 D0 (va_new0 hS hA)⟩ rfl rfl hl.1 rfl (lv_room (Nat.le_of_ble_eq_true rfl)) dX12_bears_91 ⟨Nat.zero_le _, Nat.zero_le _⟩) hP hS hA (fun hE8 H locs hP hS => ?_)
        have hq := Option.some.inj hm
        subst hq; subst hQ
        exact k_zret hx hb hr hlocks hP hD hS rfl hE8 dX12_bears_94
      · have hm := i_t b6 hm
        refine lv_lload_n hx hb dX12_bears_40 rfl (lv_at hl 3 rfl) ?_
        refine lv_lconst (v := 0) hx hb dX12_bears_41 (by decide) ?_
        refine W.lcmp hx hb dX12_bears_42 ?_
        refine lv_if_lt (tgt := 82) hx hb dX12_bears_43 (by decide) (fun b9 => ?_) (fun b9 => ?_)
        · have b9 := (lg_cmp_lt _ _).mp b9
          have hm := i_t b9 hm
          refine lv_iconst (v := 0) hx hb dX12_bears_82 (by decide) ?_
          have hq := Option.some.inj hm
          subst hq; subst hQ
          exact k_zret hx hb hr hlocks hP hD hS rfl (by decide) dX12_bears_83
        · have b9 := fun h9 => b9 ((lg_cmp_lt _ _).mpr h9)
          have hm := i_f b9 hm
          refine lv_lload_n hx hb dX12_bears_46 rfl (lv_at hl 3 rfl) ?_
          refine lv_ldc2 (own := RX12) (v := 65536) hx hb hown wd3 dX12_bears_47 ?_
          refine lv_lrem hx hb dX12_bears_50 (by decide) ?_
          refine lv_aload_n hx hb dX12_bears_51 rfl (lv_at hl 1 rfl) ?_
          refine va_get (D := G) (ci := 10) (v := .ref (q 3)) (C := RX12) (T := TX12) (N := 33) hx hb hts hinX12 hown hK.1 hP 0 rfl rfl 4 (by decide) wd2 (fun _ h9 => h9) rfl dX12_bears_52 ?_
          refine lv_iload_n hx hb dX12_bears_55 rfl (lv_at hl 2 rfl) ?_
          obtain ⟨h10, hm⟩ := g_in hm
          refine va_iald hx hb hK.1 hP 3 0 rfl rfl h10 dX12_bears_56 ?_
          refine lv_i2l (v := (v_modOf x1.toNatClampNeg).toInt64) hx hb dX12_bears_57 rfl ?_
          refine W.lcmp hx hb dX12_bears_58 ?_
          refine lv_if_ge (tgt := 82) hx hb dX12_bears_59 (by decide) (fun b11 => ?_) (fun b11 => ?_)
          · have b11 := (lg_cmp_ge _ _).mp b11
            have hm := i_t b11 hm
            refine lv_iconst (v := 0) hx hb dX12_bears_82 (by decide) ?_
            have hq := Option.some.inj hm
            subst hq; subst hQ
            exact k_zret hx hb hr hlocks hP hD hS rfl (by decide) dX12_bears_83
          · have b11 := fun h9 => b11 ((lg_cmp_ge _ _).mpr h9)
            have hm := i_f b11 hm
            refine lv_lload_n hx hb dX12_bears_62 rfl (lv_at hl 3 rfl) ?_
            refine lv_ldc2 (own := RX12) (v := 65536) hx hb hown wd3 dX12_bears_63 ?_
            refine lv_ldiv hx hb dX12_bears_66 (by decide) ?_
            refine lv_aload_n hx hb dX12_bears_67 rfl (lv_at hl 1 rfl) ?_
            refine va_get (D := G) (ci := 10) (v := .ref (q 3)) (C := RX12) (T := TX12) (N := 33) hx hb hts hinX12 hown hK.1 hP 0 rfl rfl 4 (by decide) wd2 (fun _ h9 => h9) rfl dX12_bears_68 ?_
            refine lv_iload_n hx hb dX12_bears_71 rfl (lv_at hl 2 rfl) ?_
            obtain ⟨h12, hm⟩ := g_in hm
            refine va_iald hx hb hK.1 hP 3 0 rfl rfl h12 dX12_bears_72 ?_
            refine lv_i2l (v := (v_modOf x1.toNatClampNeg).toInt64) hx hb dX12_bears_73 rfl ?_
            refine W.lcmp hx hb dX12_bears_74 ?_
            refine lv_if_ge (tgt := 82) hx hb dX12_bears_75 (by decide) (fun b13 => ?_) (fun b13 => ?_)
            · have b13 := (lg_cmp_ge _ _).mp b13
              have hm := i_t b13 hm
              refine lv_iconst (v := 0) hx hb dX12_bears_82 (by decide) ?_
              have hq := Option.some.inj hm
              subst hq; subst hQ
              exact k_zret hx hb hr hlocks hP hD hS rfl (by decide) dX12_bears_83
            · have b13 := fun h9 => b13 ((lg_cmp_ge _ _).mpr h9)
              have hm := i_f b13 hm
              refine lv_iconst (v := 1) hx hb dX12_bears_78 (by decide) ?_
              refine lv_goto (tgt := 83) hx hb dX12_bears_79 (by decide) ?_
              have hq := Option.some.inj hm
              subst hq; subst hQ
              exact k_zret hx hb hr hlocks hP hD hS rfl (by decide) dX12_bears_83
    · have hm := i_t b5 hm
      refine lv_lload_n hx hb dX12_bears_19 rfl (lv_at hl 3 rfl) ?_
      refine lv_lconst (v := 0) hx hb dX12_bears_20 (by decide) ?_
      refine lv_aload_n hx hb dX12_bears_21 rfl (lv_at hl 1 rfl) ?_
      refine va_get (D := G) (ci := 10) (v := .ref (q 3)) (C := RX12) (T := TX12) (N := 33) hx hb hts hinX12 hown hK.1 hP 0 rfl rfl 4 (by decide) wd2 (fun _ h9 => h9) rfl dX12_bears_22 ?_
      refine lv_iload_n hx hb dX12_bears_25 rfl (lv_at hl 2 rfl) ?_
      obtain ⟨h14, hm⟩ := g_in hm
      refine va_iald hx hb hK.1 hP 3 0 rfl rfl h14 dX12_bears_26 ?_
      refine lv_i2l (v := (v_modOf x1.toNatClampNeg).toInt64) hx hb dX12_bears_27 rfl ?_
      refine lv_lconst (v := 1) hx hb dX12_bears_28 (by decide) ?_
      refine lv_lsub hx hb dX12_bears_29 ?_
      refine k_calli0 (va_runS (As := [.long x2, .long 0, .long (((v_modOf x1.toNatClampNeg).toInt64) - 1)]) (rest := []) ⟨hx, hb, hml, hown, hts⟩ (c_X12_in l G cs H.size    x2 (0 : Int64) (((v_modOf x1.toNatClampNeg).toInt64) - 1) _ rfl) (va_cwS 3 hts gX12_bears_X12_in rfl rfl rfl hd_X12_in ⟨Nat.le_of_ble_eq_true rfl, Nat.le_of_ble_eq_true rfl⟩) ⟨pre_blind, pre_w hK RO.nil P0 D0 (va_new0 hS hA)⟩ rfl rfl hl.1 rfl (lv_room (Nat.le_of_ble_eq_true rfl)) dX12_bears_30 ⟨Nat.zero_le _, Nat.zero_le _⟩) hP hS hA (fun hE15 H locs hP hS => ?_)
      have hq := Option.some.inj hm
      subst hq; subst hQ
      exact k_zret hx hb hr hlocks hP hD hS rfl hE15 dX12_bears_33

theorem hd_X12_modulo : yX12_modulo.cls ≠ "java/lang/invoke/MethodHandle" ∧ yX12_modulo.cls ≠ "java/lang/invoke/VarHandle" ∧ (parseMethodDescriptor yX12_modulo.desc).map (fun d => d.parameters.length) = some 2 := by decide +kernel

def M_X12_modulo (x0 : Int64) (x2 : Int64)  : Option Int64 :=
  if x2 = 0 then none else if 0 ≤ (x0 - x0 / x2 * x2) then (some (x0 - x0 / x2 * x2)) else (some ((x0 - x0 / x2 * x2) + x2))

abbrev rmX12_modulo : Room := { frames := 0, cells := 0, slots := 0, locals := 0 }
set_option maxHeartbeats 4000000 in
set_option maxRecDepth 100000 in
theorem c_X12_modulo (l : Launch) (G : va_G) (cs : CS) (sz : Nat)    (x0 : Int64) (x2 : Int64) (res : Int64) (hm : M_X12_modulo x0 x2 = some res) : Met l yX12_modulo wsX12_modulo rmX12_modulo (va_Pc [.long x0, .long x2] (PreW G cs sz [] RN)) (QL G res [] (va_A [] sz)) 0 0 (va_A [] sz) := by
  refine k_enter (Qf := fun A => QL G res [] A) (cc := cX12_modulo) (maxL := 6) (ret := (some .long)) (plainFor_of_name (by decide)) rfl (Nat.le_of_ble_eq_true rfl) ?_
  intro p e s m args below meth c A Q ls H locs hx hb hr hml hown hts hlocks hname hK hA hRo hP hD hS hQ hl
  have hl : lv_has ls 6 [(0, .long x0), (2, .long x2)] := hl
  unfold M_X12_modulo at hm
  refine lv_lload_n hx hb dX12_modulo_0 rfl (lv_at hl 0 rfl) ?_
  refine lv_lload_n hx hb dX12_modulo_1 rfl (lv_at hl 1 rfl) ?_
  obtain ⟨h1, hm⟩ := g_in hm
  refine lv_lrem hx hb dX12_modulo_2 h1 ?_
  refine lv_lstore (lv' := [(4, .long (x0 - x0 / x2 * x2)), (0, .long x0), (2, .long x2)]) hx hb dX12_modulo_3 hl (by decide) rfl (fun ls hl => ?_)
  refine lv_lload hx hb dX12_modulo_5 (lv_at hl 0 rfl) ?_
  refine lv_lconst (v := 0) hx hb dX12_modulo_7 (by decide) ?_
  refine W.lcmp hx hb dX12_modulo_8 ?_
  refine lv_if_ge (tgt := 19) hx hb dX12_modulo_9 (by decide) (fun b2 => ?_) (fun b2 => ?_)
  · have b2 := (lg_cmp_ge _ _).mp b2
    have hm := i_t b2 hm
    refine lv_lload hx hb dX12_modulo_19 (lv_at hl 0 rfl) ?_
    have hq := Option.some.inj hm
    subst hq; subst hQ
    exact k_lret hx hb hr hlocks hP hD hS rfl dX12_modulo_21
  · have b2 := fun h9 => b2 ((lg_cmp_ge _ _).mpr h9)
    have hm := i_f b2 hm
    refine lv_lload hx hb dX12_modulo_12 (lv_at hl 0 rfl) ?_
    refine lv_lload_n hx hb dX12_modulo_14 rfl (lv_at hl 2 rfl) ?_
    refine lv_ladd hx hb dX12_modulo_15 ?_
    refine lv_goto (tgt := 21) hx hb dX12_modulo_16 (by decide) ?_
    have hq := Option.some.inj hm
    subst hq; subst hQ
    exact k_lret hx hb hr hlocks hP hD hS rfl dX12_modulo_21

theorem hd_X12_isByte : yX12_isByte.cls ≠ "java/lang/invoke/MethodHandle" ∧ yX12_isByte.cls ≠ "java/lang/invoke/VarHandle" ∧ (parseMethodDescriptor yX12_isByte.desc).map (fun d => d.parameters.length) = some 1 := by decide +kernel

def M_X12_isByte (x0 : Int32)  : Int32 :=
  (M_X12_in x0.toInt64 (0 : Int64) (255 : Int64))

abbrev rmX12_isByte : Room := { frames := 1, cells := 0, slots := 0, locals := 25 }
set_option maxHeartbeats 4000000 in
set_option maxRecDepth 100000 in
theorem c_X12_isByte (l : Launch) (G : va_G) (cs : CS) (sz : Nat)    (x0 : Int32) (res : Int32) (hm : M_X12_isByte x0 = res) : Met l yX12_isByte wsX12_isByte rmX12_isByte (va_Pc [.int x0] (PreW G cs sz [] RN)) (QI G res (res = 0 ∨ res = 1) [] (va_A [] sz)) 0 0 (va_A [] sz) := by
  refine k_enter (Qf := fun A => QI G res (res = 0 ∨ res = 1) [] A) (cc := cX12_isByte) (maxL := 1) (ret := (some .boolean)) (plainFor_of_name (by decide)) rfl (Nat.le_of_ble_eq_true rfl) ?_
  intro p e s m args below meth c A Q ls H locs hx hb hr hml hown hts hlocks hname hK hA hRo hP hD hS hQ hl
  have hl : lv_has ls 1 [(0, .int x0)] := hl
  have wd1 := hts (.constantLong RX12 123 (255)) (List.mem_of_getElem? (i := 1) rfl)
  unfold M_X12_isByte at hm
  refine lv_iload_n hx hb dX12_isByte_0 rfl (lv_at hl 0 rfl) ?_
  refine lv_i2l (v := x0.toInt64) hx hb dX12_isByte_1 rfl ?_
  refine lv_lconst (v := 0) hx hb dX12_isByte_2 (by decide) ?_
  refine lv_ldc2 (own := RX12) (v := 255) hx hb hown wd1 dX12_isByte_3 ?_
  refine k_calli0 (va_runS (As := [.long x0.toInt64, .long 0, .long 255]) (rest := []) ⟨hx, hb, hml, hown, hts⟩ (c_X12_in l G cs H.size    x0.toInt64 (0 : Int64) (255 : Int64) _ rfl) (va_cwS 3 hts gX12_isByte_X12_in rfl rfl rfl hd_X12_in ⟨Nat.le_of_ble_eq_true rfl, Nat.le_of_ble_eq_true rfl⟩) ⟨pre_blind, pre_w hK RO.nil P0 D0 (va_new0 hS hA)⟩ rfl rfl hl.1 rfl (lv_room (Nat.le_of_ble_eq_true rfl)) dX12_isByte_6 ⟨Nat.zero_le _, Nat.zero_le _⟩) hP hS hA (fun hE1 H locs hP hS => ?_)
  have hq := hm
  subst hq; subst hQ
  exact k_zret hx hb hr hlocks hP hD hS rfl hE1 dX12_isByte_9
