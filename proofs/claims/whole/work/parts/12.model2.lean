theorem hd_X12_joined : yX12_joined.cls ≠ "java/lang/invoke/MethodHandle" ∧ yX12_joined.cls ≠ "java/lang/invoke/VarHandle" ∧ (parseMethodDescriptor yX12_joined.desc).map (fun d => d.parameters.length) = some 5 := by decide +kernel

def M_X12_joined (n : Nat) (x1 : Int32) (x2 : Int64) (x4 : Int32) (x5 : Int64) (x7 : Int32) (v_sums : Int32) (v_kindOf : (Nat → Int32)) (v_modOf : (Nat → Int32)) (v_bitsOf : (Nat → Int32)) (v_turnOf : (Nat → Int32)) (v_polyOf : (Nat → Int64)) (v_beginOf : (Nat → Int64)) (v_finishOf : (Nat → Int64)) (v_weightsOf : (Nat → Int32)) : Option Int64 :=
  if (M_X12_isSum x1 v_sums) = 0 then (some (-2)) else (if x1 < 0 ∨ 16 ≤ x1.toNatClampNeg then none else if (v_kindOf x1.toNatClampNeg) = 6 then (some (-4)) else ((M_X12_bears x1 x2 v_kindOf v_modOf v_bitsOf).bind fun r5 => if r5 = 0 then (some (-3)) else ((M_X12_bears x1 x5 v_kindOf v_modOf v_bitsOf).bind fun r8 => if r8 = 0 then (some (-3)) else (if (M_X12_in x4.toInt64 (0 : Int64) (1000 : Int64)) = 0 then (some (-3)) else (if (M_X12_in x7.toInt64 (0 : Int64) (1000 : Int64)) = 0 then (some (-3)) else (if x1 < 0 ∨ 16 ≤ x1.toNatClampNeg then none else if (v_kindOf x1.toNatClampNeg) = 0 then (if ((v_modOf x1.toNatClampNeg).toInt64) = 0 then none else some ((x2 + x5) - (x2 + x5) / ((v_modOf x1.toNatClampNeg).toInt64) * ((v_modOf x1.toNatClampNeg).toInt64))) else (if (v_kindOf x1.toNatClampNeg) = 1 then (if ((v_modOf x1.toNatClampNeg).toInt64) = 0 then none else if ((v_modOf x1.toNatClampNeg).toInt64) = 0 then none else some ((65536 * ((((x2 / 65536) + (x5 / 65536)) + ((x2 - x2 / 65536 * 65536) * x7.toInt64)) - (((x2 / 65536) + (x5 / 65536)) + ((x2 - x2 / 65536 * 65536) * x7.toInt64)) / ((v_modOf x1.toNatClampNeg).toInt64) * ((v_modOf x1.toNatClampNeg).toInt64))) + (((x2 - x2 / 65536 * 65536) + (x5 - x5 / 65536 * 65536)) - ((x2 - x2 / 65536 * 65536) + (x5 - x5 / 65536 * 65536)) / ((v_modOf x1.toNatClampNeg).toInt64) * ((v_modOf x1.toNatClampNeg).toInt64)))) else (if (v_kindOf x1.toNatClampNeg) = 2 then (if x1 < 0 ∨ 16 ≤ x1.toNatClampNeg then none else if (v_weightsOf x1.toNatClampNeg) = 0 then none else if (x4 - x4 / (v_weightsOf x1.toNatClampNeg) * (v_weightsOf x1.toNatClampNeg)) = 0 then (if ((v_modOf x1.toNatClampNeg).toInt64) = 0 then none else some ((x2 + x5) - (x2 + x5) / ((v_modOf x1.toNatClampNeg).toInt64) * ((v_modOf x1.toNatClampNeg).toInt64))) else (some (-5))) else (if (v_kindOf x1.toNatClampNeg) = 3 then (if x1 < 0 ∨ 16 ≤ x1.toNatClampNeg then none else if x1 < 0 ∨ 16 ≤ x1.toNatClampNeg then none else (M_X12_rolled x2 ((v_turnOf x1.toNatClampNeg) * x7) (v_bitsOf x1.toNatClampNeg)).bind fun r29 => some (r29 ^^^ x5)) else (if x1 < 0 ∨ 16 ≤ x1.toNatClampNeg then none else if x1 < 0 ∨ 16 ≤ x1.toNatClampNeg then none else (M_X12_passed n x1 ((x2 ^^^ (v_finishOf x1.toNatClampNeg)) ^^^ (v_beginOf x1.toNatClampNeg)) x7 v_bitsOf v_polyOf).bind fun r32 => some (x5 ^^^ r32)))))))))))

abbrev rmX12_joined : Room := { frames := 2, cells := 0, slots := 0, locals := 56 }
set_option maxHeartbeats 4000000 in
set_option maxRecDepth 100000 in
theorem c_X12_joined (l : Launch) (G : va_G) (cs : CS) (q : Nat → Nat) (sz : Nat) (v_told : Int32) (v_tell : (Nat → Int32)) (v_sums : Int32) (v_kindOf : (Nat → Int32)) (v_modOf : (Nat → Int32)) (v_bitsOf : (Nat → Int32)) (v_turnOf : (Nat → Int32)) (v_polyOf : (Nat → Int64)) (v_beginOf : (Nat → Int64)) (v_finishOf : (Nat → Int64)) (v_isLow : (Nat → Int32)) (v_weightsOf : (Nat → Int32)) (v_weight : (Nat → Int32)) (v_cell : (Nat → Int32)) (v_size : Int32) (v_row : (Nat → Int32)) (v_keptSize : Int32) (v_keptBefore : (Nat → Int32)) (v_keptAfter : (Nat → Int32)) (v_placeA : (Nat → Int64)) (v_placeB : (Nat → Int64)) (v_turned : (Nat → Int32)) (v_turnedMany : Int32) (v_syndromes : (Nat → Int64)) (v_lightest : (Nat → Int32)) (v_freeMany : Int32) (v_freePlace : (Nat → Int32)) (v_freeSyndrome : (Nat → Int64)) (v_ways : (Nat → Int32)) (v_waysKept : Int32) (v_trace : (Nat → Int32)) (v_comesA : Int64) (v_comesB : Int64)   (x1 : Int32) (x2 : Int64) (x4 : Int32) (x5 : Int64) (x7 : Int32) (n : Nat) (res : Int64) (hm : M_X12_joined n x1 x2 x4 x5 x7 v_sums v_kindOf v_modOf v_bitsOf v_turnOf v_polyOf v_beginOf v_finishOf v_weightsOf = some res) : Met l yX12_joined wsX12_joined rmX12_joined (va_Pc [.ref (q 0), .int x1, .long x2, .int x4, .long x5, .int x7] (PreW G cs sz (ww_M q cs v_told v_tell v_sums v_kindOf v_modOf v_bitsOf v_turnOf v_polyOf v_beginOf v_finishOf v_isLow v_weightsOf v_weight v_cell v_size v_row v_keptSize v_keptBefore v_keptAfter v_placeA v_placeB v_turned v_turnedMany v_syndromes v_lightest v_freeMany v_freePlace v_freeSyndrome v_ways v_waysKept v_trace v_comesA v_comesB) RN)) (QL G res (ww_M q cs v_told v_tell v_sums v_kindOf v_modOf v_bitsOf v_turnOf v_polyOf v_beginOf v_finishOf v_isLow v_weightsOf v_weight v_cell v_size v_row v_keptSize v_keptBefore v_keptAfter v_placeA v_placeB v_turned v_turnedMany v_syndromes v_lightest v_freeMany v_freePlace v_freeSyndrome v_ways v_waysKept v_trace v_comesA v_comesB) (va_A (ww_M q cs v_told v_tell v_sums v_kindOf v_modOf v_bitsOf v_turnOf v_polyOf v_beginOf v_finishOf v_isLow v_weightsOf v_weight v_cell v_size v_row v_keptSize v_keptBefore v_keptAfter v_placeA v_placeB v_turned v_turnedMany v_syndromes v_lightest v_freeMany v_freePlace v_freeSyndrome v_ways v_waysKept v_trace v_comesA v_comesB) sz)) 0 0 (va_A (ww_M q cs v_told v_tell v_sums v_kindOf v_modOf v_bitsOf v_turnOf v_polyOf v_beginOf v_finishOf v_isLow v_weightsOf v_weight v_cell v_size v_row v_keptSize v_keptBefore v_keptAfter v_placeA v_placeB v_turned v_turnedMany v_syndromes v_lightest v_freeMany v_freePlace v_freeSyndrome v_ways v_waysKept v_trace v_comesA v_comesB) sz) := by
  refine k_enter (Qf := fun A => QL G res (ww_M q cs v_told v_tell v_sums v_kindOf v_modOf v_bitsOf v_turnOf v_polyOf v_beginOf v_finishOf v_isLow v_weightsOf v_weight v_cell v_size v_row v_keptSize v_keptBefore v_keptAfter v_placeA v_placeB v_turned v_turnedMany v_syndromes v_lightest v_freeMany v_freePlace v_freeSyndrome v_ways v_waysKept v_trace v_comesA v_comesB) A) (cc := cX12_joined) (maxL := 14) (ret := (some .long)) (plainFor_of_name (by decide)) rfl (Nat.le_of_ble_eq_true rfl) ?_
  intro p e s m args below meth c A Q ls H locs hx hb hr hml hown hts hlocks hname hK hA hRo hP hD hS hQ hl
  have hl : lv_has ls 14 [(0, .ref (q 0)), (1, .int x1), (2, .long x2), (4, .int x4), (5, .long x5), (7, .int x7)] := hl
  have wd2 := hts (.fieldLink RX12 13 "SumSmithModel" "kindOf" "[I") (List.mem_of_getElem? (i := 2) rfl)
  have wd5 := hts (.constantLong RX12 160 (-3)) (List.mem_of_getElem? (i := 5) rfl)
  have wd4 := hts (.constantLong RX12 158 (1000)) (List.mem_of_getElem? (i := 4) rfl)
  have wd6 := hts (.fieldLink RX12 16 "SumSmithModel" "modOf" "[I") (List.mem_of_getElem? (i := 6) rfl)
  have wd7 := hts (.constantLong RX12 99 (65536)) (List.mem_of_getElem? (i := 7) rfl)
  have wd8 := hts (.fieldLink RX12 39 "SumSmithModel" "weightsOf" "[I") (List.mem_of_getElem? (i := 8) rfl)
  have wd9 := hts (.constantLong RX12 136 (-5)) (List.mem_of_getElem? (i := 9) rfl)
  have wd10 := hts (.fieldLink RX12 22 "SumSmithModel" "turnOf" "[I") (List.mem_of_getElem? (i := 10) rfl)
  have wd11 := hts (.fieldLink RX12 19 "SumSmithModel" "bitsOf" "[I") (List.mem_of_getElem? (i := 11) rfl)
  have wd12 := hts (.fieldLink RX12 32 "SumSmithModel" "finishOf" "[J") (List.mem_of_getElem? (i := 12) rfl)
  have wd13 := hts (.fieldLink RX12 29 "SumSmithModel" "beginOf" "[J") (List.mem_of_getElem? (i := 13) rfl)
  have wd3 := hts (.constantLong RX12 152 (-4)) (List.mem_of_getElem? (i := 3) rfl)
  have wd1 := hts (.constantLong RX12 142 (-2)) (List.mem_of_getElem? (i := 1) rfl)
  have hinX12 : ∀ w ∈ wsX120, w ∈ wsX12_joined := fun w h => List.mem_cons_of_mem _ (List.mem_append_right _ h)
  unfold M_X12_joined at hm
  refine lv_aload_n hx hb dX12_joined_0 rfl (lv_at hl 0 rfl) ?_
  refine lv_iload_n hx hb dX12_joined_1 rfl (lv_at hl 1 rfl) ?_
  refine k_calli (va_runV (As := [.int x1]) (rest := []) ⟨hx, hb, hml, hown, hts⟩ (c_X12_isSum l G cs q H.size v_told v_tell v_sums v_kindOf v_modOf v_bitsOf v_turnOf v_polyOf v_beginOf v_finishOf v_isLow v_weightsOf v_weight v_cell v_size v_row v_keptSize v_keptBefore v_keptAfter v_placeA v_placeB v_turned v_turnedMany v_syndromes v_lightest v_freeMany v_freePlace v_freeSyndrome v_ways v_waysKept v_trace v_comesA v_comesB   x1 _ rfl) (cwV 1 hts gX12_joined_X12_isSum rfl rfl rfl ⟨rfl, hd_X12_isSum⟩ ⟨Nat.le_of_ble_eq_true rfl, Nat.le_of_ble_eq_true rfl⟩) ⟨pre_blind, va_recv hK.1 hP (ci := 10) (q0 := 0) rfl rfl, pre_w hK RO.nil hP hD (va_all hD hS hA)⟩ rfl rfl hl.1 rfl (lv_room (Nat.le_of_ble_eq_true rfl)) dX12_joined_2 ⟨Nat.zero_le _, Nat.zero_le _⟩) hS (va_all hD hS hA) (fun hE1 H locs hP hD hS => ?_)
  have hP : va_P G vwCl (ww_M q cs v_told v_tell v_sums v_kindOf v_modOf v_bitsOf v_turnOf v_polyOf v_beginOf v_finishOf v_isLow v_weightsOf v_weight v_cell v_size v_row v_keptSize v_keptBefore v_keptAfter v_placeA v_placeB v_turned v_turnedMany v_syndromes v_lightest v_freeMany v_freePlace v_freeSyndrome v_ways v_waysKept v_trace v_comesA v_comesB) H := hP
  have hD : va_D A (ww_M q cs v_told v_tell v_sums v_kindOf v_modOf v_bitsOf v_turnOf v_polyOf v_beginOf v_finishOf v_isLow v_weightsOf v_weight v_cell v_size v_row v_keptSize v_keptBefore v_keptAfter v_placeA v_placeB v_turned v_turnedMany v_syndromes v_lightest v_freeMany v_freePlace v_freeSyndrome v_ways v_waysKept v_trace v_comesA v_comesB) := hD
  refine lv_if_ne (tgt := 12) hx hb dX12_joined_5 (by decide) (fun b2 => ?_) (fun b2 => ?_)
  · have hm := i_f b2 hm
    refine lv_aload_n hx hb dX12_joined_12 rfl (lv_at hl 0 rfl) ?_
    refine va_get (D := G) (ci := 10) (v := .ref (q 2)) (C := RX12) (T := TX12) (N := 33) hx hb hts hinX12 hown hK.1 hP 0 rfl rfl 3 (by decide) wd2 (fun _ h9 => h9) rfl dX12_joined_13 ?_
    refine lv_iload_n hx hb dX12_joined_16 rfl (lv_at hl 1 rfl) ?_
    obtain ⟨h3, hm⟩ := g_in hm
    refine va_iald hx hb hK.1 hP 2 0 rfl rfl h3 dX12_joined_17 ?_
    refine lv_istore (lv' := [(8, .int (v_kindOf x1.toNatClampNeg)), (0, .ref (q 0)), (1, .int x1), (2, .long x2), (4, .int x4), (5, .long x5), (7, .int x7)]) hx hb dX12_joined_18 hl (by decide) rfl (fun ls hl => ?_)
    refine lv_iload hx hb dX12_joined_20 (lv_at hl 0 rfl) ?_
    refine lv_bipush (v := 6) hx hb dX12_joined_22 (by decide) ?_
    refine lv_icmp_ne (tgt := 31) hx hb dX12_joined_24 (by decide) (fun b4 => ?_) (fun b4 => ?_)
    · have hm := i_f b4 hm
      refine lv_aload_n hx hb dX12_joined_31 rfl (lv_at hl 1 rfl) ?_
      refine lv_iload_n hx hb dX12_joined_32 rfl (lv_at hl 2 rfl) ?_
      refine lv_lload_n hx hb dX12_joined_33 rfl (lv_at hl 3 rfl) ?_
      obtain ⟨r5, hc_r5, hm⟩ := bs hm
      refine k_calli (va_runV (As := [.int x1, .long x2]) (rest := []) ⟨hx, hb, hml, hown, hts⟩ (c_X12_bears l G cs q H.size v_told v_tell v_sums v_kindOf v_modOf v_bitsOf v_turnOf v_polyOf v_beginOf v_finishOf v_isLow v_weightsOf v_weight v_cell v_size v_row v_keptSize v_keptBefore v_keptAfter v_placeA v_placeB v_turned v_turnedMany v_syndromes v_lightest v_freeMany v_freePlace v_freeSyndrome v_ways v_waysKept v_trace v_comesA v_comesB   x1 x2 r5 hc_r5) (cwV 2 hts gX12_joined_X12_bears rfl rfl rfl ⟨rfl, hd_X12_bears⟩ ⟨Nat.le_of_ble_eq_true rfl, Nat.le_of_ble_eq_true rfl⟩) ⟨pre_blind, va_recv hK.1 hP (ci := 10) (q0 := 0) rfl rfl, pre_w hK RO.nil hP hD (va_all hD hS hA)⟩ rfl rfl hl.1 rfl (lv_room (Nat.le_of_ble_eq_true rfl)) dX12_joined_34 ⟨Nat.zero_le _, Nat.zero_le _⟩) hS (va_all hD hS hA) (fun hE6 H locs hP hD hS => ?_)
      have hP : va_P G vwCl (ww_M q cs v_told v_tell v_sums v_kindOf v_modOf v_bitsOf v_turnOf v_polyOf v_beginOf v_finishOf v_isLow v_weightsOf v_weight v_cell v_size v_row v_keptSize v_keptBefore v_keptAfter v_placeA v_placeB v_turned v_turnedMany v_syndromes v_lightest v_freeMany v_freePlace v_freeSyndrome v_ways v_waysKept v_trace v_comesA v_comesB) H := hP
      have hD : va_D A (ww_M q cs v_told v_tell v_sums v_kindOf v_modOf v_bitsOf v_turnOf v_polyOf v_beginOf v_finishOf v_isLow v_weightsOf v_weight v_cell v_size v_row v_keptSize v_keptBefore v_keptAfter v_placeA v_placeB v_turned v_turnedMany v_syndromes v_lightest v_freeMany v_freePlace v_freeSyndrome v_ways v_waysKept v_trace v_comesA v_comesB) := hD
      refine lv_if_eq (tgt := 76) hx hb dX12_joined_37 (by decide) (fun b7 => ?_) (fun b7 => ?_)
      · have hm := i_t b7 hm
        refine lv_ldc2 (own := RX12) (v := (-3)) hx hb hown wd5 dX12_joined_76 ?_
        have hq := Option.some.inj hm
        subst hq; subst hQ
        exact k_lret hx hb hr hlocks hP hD hS rfl dX12_joined_79
      · have hm := i_f b7 hm
        refine lv_aload_n hx hb dX12_joined_40 rfl (lv_at hl 1 rfl) ?_
        refine lv_iload_n hx hb dX12_joined_41 rfl (lv_at hl 2 rfl) ?_
        refine lv_lload hx hb dX12_joined_42 (lv_at hl 5 rfl) ?_
        obtain ⟨r8, hc_r8, hm⟩ := bs hm
        refine k_calli (va_runV (As := [.int x1, .long x5]) (rest := []) ⟨hx, hb, hml, hown, hts⟩ (c_X12_bears l G cs q H.size v_told v_tell v_sums v_kindOf v_modOf v_bitsOf v_turnOf v_polyOf v_beginOf v_finishOf v_isLow v_weightsOf v_weight v_cell v_size v_row v_keptSize v_keptBefore v_keptAfter v_placeA v_placeB v_turned v_turnedMany v_syndromes v_lightest v_freeMany v_freePlace v_freeSyndrome v_ways v_waysKept v_trace v_comesA v_comesB   x1 x5 r8 hc_r8) (cwV 2 hts gX12_joined_X12_bears rfl rfl rfl ⟨rfl, hd_X12_bears⟩ ⟨Nat.le_of_ble_eq_true rfl, Nat.le_of_ble_eq_true rfl⟩) ⟨pre_blind, va_recv hK.1 hP (ci := 10) (q0 := 0) rfl rfl, pre_w hK RO.nil hP hD (va_all hD hS hA)⟩ rfl rfl hl.1 rfl (lv_room (Nat.le_of_ble_eq_true rfl)) dX12_joined_44 ⟨Nat.zero_le _, Nat.zero_le _⟩) hS (va_all hD hS hA) (fun hE9 H locs hP hD hS => ?_)
        have hP : va_P G vwCl (ww_M q cs v_told v_tell v_sums v_kindOf v_modOf v_bitsOf v_turnOf v_polyOf v_beginOf v_finishOf v_isLow v_weightsOf v_weight v_cell v_size v_row v_keptSize v_keptBefore v_keptAfter v_placeA v_placeB v_turned v_turnedMany v_syndromes v_lightest v_freeMany v_freePlace v_freeSyndrome v_ways v_waysKept v_trace v_comesA v_comesB) H := hP
        have hD : va_D A (ww_M q cs v_told v_tell v_sums v_kindOf v_modOf v_bitsOf v_turnOf v_polyOf v_beginOf v_finishOf v_isLow v_weightsOf v_weight v_cell v_size v_row v_keptSize v_keptBefore v_keptAfter v_placeA v_placeB v_turned v_turnedMany v_syndromes v_lightest v_freeMany v_freePlace v_freeSyndrome v_ways v_waysKept v_trace v_comesA v_comesB) := hD
        refine lv_if_eq (tgt := 76) hx hb dX12_joined_47 (by decide) (fun b10 => ?_) (fun b10 => ?_)
        · have hm := i_t b10 hm
          refine lv_ldc2 (own := RX12) (v := (-3)) hx hb hown wd5 dX12_joined_76 ?_
          have hq := Option.some.inj hm
          subst hq; subst hQ
          exact k_lret hx hb hr hlocks hP hD hS rfl dX12_joined_79
        · have hm := i_f b10 hm
          refine lv_iload hx hb dX12_joined_50 (lv_at hl 4 rfl) ?_
          refine lv_i2l (v := x4.toInt64) hx hb dX12_joined_52 rfl ?_
          refine lv_lconst (v := 0) hx hb dX12_joined_53 (by decide) ?_
          refine lv_ldc2 (own := RX12) (v := 1000) hx hb hown wd4 dX12_joined_54 ?_
          refine k_calli0 (va_runS (As := [.long x4.toInt64, .long 0, .long 1000]) (rest := []) ⟨hx, hb, hml, hown, hts⟩ (c_X12_in l G cs H.size    x4.toInt64 (0 : Int64) (1000 : Int64) _ rfl) (va_cwS 3 hts gX12_joined_X12_in rfl rfl rfl hd_X12_in ⟨Nat.le_of_ble_eq_true rfl, Nat.le_of_ble_eq_true rfl⟩) ⟨pre_blind, pre_w hK RO.nil P0 D0 (va_new0 hS hA)⟩ rfl rfl hl.1 rfl (lv_room (Nat.le_of_ble_eq_true rfl)) dX12_joined_57 ⟨Nat.zero_le _, Nat.zero_le _⟩) hP hS hA (fun hE11 H locs hP hS => ?_)
          refine lv_if_eq (tgt := 76) hx hb dX12_joined_60 (by decide) (fun b12 => ?_) (fun b12 => ?_)
          · have hm := i_t b12 hm
            refine lv_ldc2 (own := RX12) (v := (-3)) hx hb hown wd5 dX12_joined_76 ?_
            have hq := Option.some.inj hm
            subst hq; subst hQ
            exact k_lret hx hb hr hlocks hP hD hS rfl dX12_joined_79
          · have hm := i_f b12 hm
            refine lv_iload hx hb dX12_joined_63 (lv_at hl 6 rfl) ?_
            refine lv_i2l (v := x7.toInt64) hx hb dX12_joined_65 rfl ?_
            refine lv_lconst (v := 0) hx hb dX12_joined_66 (by decide) ?_
            refine lv_ldc2 (own := RX12) (v := 1000) hx hb hown wd4 dX12_joined_67 ?_
            refine k_calli0 (va_runS (As := [.long x7.toInt64, .long 0, .long 1000]) (rest := []) ⟨hx, hb, hml, hown, hts⟩ (c_X12_in l G cs H.size    x7.toInt64 (0 : Int64) (1000 : Int64) _ rfl) (va_cwS 3 hts gX12_joined_X12_in rfl rfl rfl hd_X12_in ⟨Nat.le_of_ble_eq_true rfl, Nat.le_of_ble_eq_true rfl⟩) ⟨pre_blind, pre_w hK RO.nil P0 D0 (va_new0 hS hA)⟩ rfl rfl hl.1 rfl (lv_room (Nat.le_of_ble_eq_true rfl)) dX12_joined_70 ⟨Nat.zero_le _, Nat.zero_le _⟩) hP hS hA (fun hE13 H locs hP hS => ?_)
            refine lv_if_ne (tgt := 80) hx hb dX12_joined_73 (by decide) (fun b14 => ?_) (fun b14 => ?_)
            · have hm := i_f b14 hm
              refine lv_aload_n hx hb dX12_joined_80 rfl (lv_at hl 1 rfl) ?_
              refine va_get (D := G) (ci := 10) (v := .ref (q 3)) (C := RX12) (T := TX12) (N := 33) hx hb hts hinX12 hown hK.1 hP 0 rfl rfl 4 (by decide) wd6 (fun _ h9 => h9) rfl dX12_joined_81 ?_
              refine lv_iload_n hx hb dX12_joined_84 rfl (lv_at hl 2 rfl) ?_
              obtain ⟨h15, hm⟩ := g_in hm
              refine va_iald hx hb hK.1 hP 3 0 rfl rfl h15 dX12_joined_85 ?_
              refine lv_istore (lv' := [(9, .int (v_modOf x1.toNatClampNeg)), (8, .int (v_kindOf x1.toNatClampNeg)), (0, .ref (q 0)), (1, .int x1), (2, .long x2), (4, .int x4), (5, .long x5), (7, .int x7)]) hx hb dX12_joined_86 hl (by decide) rfl (fun ls hl => ?_)
              refine lv_iload hx hb dX12_joined_88 (lv_at hl 1 rfl) ?_
              by_cases b16 : (v_kindOf x1.toNatClampNeg) = 0
              · have hm := i_t b16 hm
                refine lv_tableIn (tgt := 120) hx hb dX12_joined_90 (by rw [b16]; decide) (by rw [b16]; decide) (by rw [b16]; rfl) (by decide) ?_
                refine lv_lload_n hx hb dX12_joined_120 rfl (lv_at hl 4 rfl) ?_
                refine lv_lload hx hb dX12_joined_121 (lv_at hl 6 rfl) ?_
                refine lv_ladd hx hb dX12_joined_123 ?_
                refine lv_iload hx hb dX12_joined_124 (lv_at hl 0 rfl) ?_
                refine lv_i2l (v := (v_modOf x1.toNatClampNeg).toInt64) hx hb dX12_joined_126 rfl ?_
                obtain ⟨h17, hm⟩ := g_in hm
                refine lv_lrem hx hb dX12_joined_127 h17 ?_
                have hq := Option.some.inj hm
                subst hq; subst hQ
                exact k_lret hx hb hr hlocks hP hD hS rfl dX12_joined_128
              have hm := i_f b16 hm
              by_cases b18 : (v_kindOf x1.toNatClampNeg) = 1
              · have hm := i_t b18 hm
                refine lv_tableIn (tgt := 129) hx hb dX12_joined_90 (by rw [b18]; decide) (by rw [b18]; decide) (by rw [b18]; rfl) (by decide) ?_
                refine lv_lload_n hx hb dX12_joined_129 rfl (lv_at hl 4 rfl) ?_
                refine lv_ldc2 (own := RX12) (v := 65536) hx hb hown wd7 dX12_joined_130 ?_
                refine lv_lrem hx hb dX12_joined_133 (by decide) ?_
                refine lv_lload hx hb dX12_joined_134 (lv_at hl 6 rfl) ?_
                refine lv_ldc2 (own := RX12) (v := 65536) hx hb hown wd7 dX12_joined_136 ?_
                refine lv_lrem hx hb dX12_joined_139 (by decide) ?_
                refine lv_ladd hx hb dX12_joined_140 ?_
                refine lv_iload hx hb dX12_joined_141 (lv_at hl 0 rfl) ?_
                refine lv_i2l (v := (v_modOf x1.toNatClampNeg).toInt64) hx hb dX12_joined_143 rfl ?_
                obtain ⟨h19, hm⟩ := g_in hm
                refine lv_lrem hx hb dX12_joined_144 h19 ?_
                refine lv_lstore (lv' := [(10, .long (((x2 - x2 / 65536 * 65536) + (x5 - x5 / 65536 * 65536)) - ((x2 - x2 / 65536 * 65536) + (x5 - x5 / 65536 * 65536)) / ((v_modOf x1.toNatClampNeg).toInt64) * ((v_modOf x1.toNatClampNeg).toInt64))), (9, .int (v_modOf x1.toNatClampNeg)), (8, .int (v_kindOf x1.toNatClampNeg)), (0, .ref (q 0)), (1, .int x1), (2, .long x2), (4, .int x4), (5, .long x5), (7, .int x7)]) hx hb dX12_joined_145 hl (by decide) rfl (fun ls hl => ?_)
                refine lv_lload_n hx hb dX12_joined_147 rfl (lv_at hl 5 rfl) ?_
                refine lv_ldc2 (own := RX12) (v := 65536) hx hb hown wd7 dX12_joined_148 ?_
                refine lv_ldiv hx hb dX12_joined_151 (by decide) ?_
                refine lv_lload hx hb dX12_joined_152 (lv_at hl 7 rfl) ?_
                refine lv_ldc2 (own := RX12) (v := 65536) hx hb hown wd7 dX12_joined_154 ?_
                refine lv_ldiv hx hb dX12_joined_157 (by decide) ?_
                refine lv_ladd hx hb dX12_joined_158 ?_
                refine lv_lload_n hx hb dX12_joined_159 rfl (lv_at hl 5 rfl) ?_
                refine lv_ldc2 (own := RX12) (v := 65536) hx hb hown wd7 dX12_joined_160 ?_
                refine lv_lrem hx hb dX12_joined_163 (by decide) ?_
                refine lv_iload hx hb dX12_joined_164 (lv_at hl 8 rfl) ?_
                refine lv_i2l (v := x7.toInt64) hx hb dX12_joined_166 rfl ?_
                refine lv_lmul hx hb dX12_joined_167 ?_
                refine lv_ladd hx hb dX12_joined_168 ?_
                refine lv_iload hx hb dX12_joined_169 (lv_at hl 1 rfl) ?_
                refine lv_i2l (v := (v_modOf x1.toNatClampNeg).toInt64) hx hb dX12_joined_171 rfl ?_
                obtain ⟨h20, hm⟩ := g_in hm
                refine lv_lrem hx hb dX12_joined_172 h20 ?_
                refine lv_lstore (lv' := [(12, .long ((((x2 / 65536) + (x5 / 65536)) + ((x2 - x2 / 65536 * 65536) * x7.toInt64)) - (((x2 / 65536) + (x5 / 65536)) + ((x2 - x2 / 65536 * 65536) * x7.toInt64)) / ((v_modOf x1.toNatClampNeg).toInt64) * ((v_modOf x1.toNatClampNeg).toInt64))), (10, .long (((x2 - x2 / 65536 * 65536) + (x5 - x5 / 65536 * 65536)) - ((x2 - x2 / 65536 * 65536) + (x5 - x5 / 65536 * 65536)) / ((v_modOf x1.toNatClampNeg).toInt64) * ((v_modOf x1.toNatClampNeg).toInt64))), (9, .int (v_modOf x1.toNatClampNeg)), (8, .int (v_kindOf x1.toNatClampNeg)), (0, .ref (q 0)), (1, .int x1), (2, .long x2), (4, .int x4), (5, .long x5), (7, .int x7)]) hx hb dX12_joined_173 hl (by decide) rfl (fun ls hl => ?_)
                refine lv_ldc2 (own := RX12) (v := 65536) hx hb hown wd7 dX12_joined_175 ?_
                refine lv_lload hx hb dX12_joined_178 (lv_at hl 0 rfl) ?_
                refine lv_lmul hx hb dX12_joined_180 ?_
                refine lv_lload hx hb dX12_joined_181 (lv_at hl 1 rfl) ?_
                refine lv_ladd hx hb dX12_joined_183 ?_
                have hq := Option.some.inj hm
                subst hq; subst hQ
                exact k_lret hx hb hr hlocks hP hD hS rfl dX12_joined_184
              have hm := i_f b18 hm
              by_cases b21 : (v_kindOf x1.toNatClampNeg) = 2
              · have hm := i_t b21 hm
                refine lv_tableIn (tgt := 185) hx hb dX12_joined_90 (by rw [b21]; decide) (by rw [b21]; decide) (by rw [b21]; rfl) (by decide) ?_
                refine lv_iload hx hb dX12_joined_185 (lv_at hl 5 rfl) ?_
                refine lv_aload_n hx hb dX12_joined_187 rfl (lv_at hl 2 rfl) ?_
                refine va_get (D := G) (ci := 10) (v := .ref (q 10)) (C := RX12) (T := TX12) (N := 33) hx hb hts hinX12 hown hK.1 hP 0 rfl rfl 11 (by decide) wd8 (fun _ h9 => h9) rfl dX12_joined_188 ?_
                refine lv_iload_n hx hb dX12_joined_191 rfl (lv_at hl 3 rfl) ?_
                obtain ⟨h22, hm⟩ := g_in hm
                refine va_iald hx hb hK.1 hP 10 0 rfl rfl h22 dX12_joined_192 ?_
                obtain ⟨h23, hm⟩ := g_in hm
                refine lv_irem hx hb dX12_joined_193 h23 ?_
                refine lv_if_eq (tgt := 203) hx hb dX12_joined_194 (by decide) (fun b24 => ?_) (fun b24 => ?_)
                · have hm := i_t b24 hm
                  refine lv_lload_n hx hb dX12_joined_203 rfl (lv_at hl 4 rfl) ?_
                  refine lv_lload hx hb dX12_joined_204 (lv_at hl 6 rfl) ?_
                  refine lv_ladd hx hb dX12_joined_206 ?_
                  refine lv_iload hx hb dX12_joined_207 (lv_at hl 0 rfl) ?_
                  refine lv_i2l (v := (v_modOf x1.toNatClampNeg).toInt64) hx hb dX12_joined_209 rfl ?_
                  obtain ⟨h25, hm⟩ := g_in hm
                  refine lv_lrem hx hb dX12_joined_210 h25 ?_
                  have hq := Option.some.inj hm
                  subst hq; subst hQ
                  exact k_lret hx hb hr hlocks hP hD hS rfl dX12_joined_211
                · have hm := i_f b24 hm
                  refine lv_ldc2 (own := RX12) (v := (-5)) hx hb hown wd9 dX12_joined_197 ?_
                  refine lv_goto (tgt := 211) hx hb dX12_joined_200 (by decide) ?_
                  have hq := Option.some.inj hm
                  subst hq; subst hQ
                  exact k_lret hx hb hr hlocks hP hD hS rfl dX12_joined_211
              have hm := i_f b21 hm
              by_cases b26 : (v_kindOf x1.toNatClampNeg) = 3
              · have hm := i_t b26 hm
                refine lv_tableIn (tgt := 212) hx hb dX12_joined_90 (by rw [b26]; decide) (by rw [b26]; decide) (by rw [b26]; rfl) (by decide) ?_
                refine lv_lload_n hx hb dX12_joined_212 rfl (lv_at hl 4 rfl) ?_
                refine lv_aload_n hx hb dX12_joined_213 rfl (lv_at hl 2 rfl) ?_
                refine va_get (D := G) (ci := 10) (v := .ref (q 5)) (C := RX12) (T := TX12) (N := 33) hx hb hts hinX12 hown hK.1 hP 0 rfl rfl 6 (by decide) wd10 (fun _ h9 => h9) rfl dX12_joined_214 ?_
                refine lv_iload_n hx hb dX12_joined_217 rfl (lv_at hl 3 rfl) ?_
                obtain ⟨h27, hm⟩ := g_in hm
                refine va_iald hx hb hK.1 hP 5 0 rfl rfl h27 dX12_joined_218 ?_
                refine lv_iload hx hb dX12_joined_219 (lv_at hl 7 rfl) ?_
                refine lv_imul hx hb dX12_joined_221 ?_
                refine lv_aload_n hx hb dX12_joined_222 rfl (lv_at hl 2 rfl) ?_
                refine va_get (D := G) (ci := 10) (v := .ref (q 4)) (C := RX12) (T := TX12) (N := 33) hx hb hts hinX12 hown hK.1 hP 0 rfl rfl 5 (by decide) wd11 (fun _ h9 => h9) rfl dX12_joined_223 ?_
                refine lv_iload_n hx hb dX12_joined_226 rfl (lv_at hl 3 rfl) ?_
                obtain ⟨h28, hm⟩ := g_in hm
                refine va_iald hx hb hK.1 hP 4 0 rfl rfl h28 dX12_joined_227 ?_
                obtain ⟨r29, hc_r29, hm⟩ := bs hm
                refine k_calll0 (va_runS (As := [.long x2, .int ((v_turnOf x1.toNatClampNeg) * x7), .int (v_bitsOf x1.toNatClampNeg)]) (rest := []) ⟨hx, hb, hml, hown, hts⟩ (c_X12_rolled l G cs H.size    x2 ((v_turnOf x1.toNatClampNeg) * x7) (v_bitsOf x1.toNatClampNeg) r29 hc_r29) (va_cwS 3 hts gX12_joined_X12_rolled rfl rfl rfl hd_X12_rolled ⟨Nat.le_of_ble_eq_true rfl, Nat.le_of_ble_eq_true rfl⟩) ⟨pre_blind, pre_w hK RO.nil P0 D0 (va_new0 hS hA)⟩ rfl rfl hl.1 rfl (lv_room (Nat.le_of_ble_eq_true rfl)) dX12_joined_228 ⟨Nat.zero_le _, Nat.zero_le _⟩) hP hS hA (fun H locs hP hS => ?_)
                refine lv_lload hx hb dX12_joined_231 (lv_at hl 6 rfl) ?_
                refine lv_lxor hx hb dX12_joined_233 ?_
                have hq := Option.some.inj hm
                subst hq; subst hQ
                exact k_lret hx hb hr hlocks hP hD hS rfl dX12_joined_234
              have hm := i_f b26 hm
              have b16 : ¬ ((v_kindOf x1.toNatClampNeg)).toInt = 0 := fun e9 => ne_ti b16 (e9.trans (by decide))
              have b18 : ¬ ((v_kindOf x1.toNatClampNeg)).toInt = 1 := fun e9 => ne_ti b18 (e9.trans (by decide))
              have b21 : ¬ ((v_kindOf x1.toNatClampNeg)).toInt = 2 := fun e9 => ne_ti b21 (e9.trans (by decide))
              have b26 : ¬ ((v_kindOf x1.toNatClampNeg)).toInt = 3 := fun e9 => ne_ti b26 (e9.trans (by decide))
              refine lv_tableOut (tgt := 235) hx hb dX12_joined_90 (by omega) (by decide) ?_
              refine lv_lload hx hb dX12_joined_235 (lv_at hl 6 rfl) ?_
              refine lv_aload_n hx hb dX12_joined_237 rfl (lv_at hl 2 rfl) ?_
              refine lv_iload_n hx hb dX12_joined_238 rfl (lv_at hl 3 rfl) ?_
              refine lv_lload_n hx hb dX12_joined_239 rfl (lv_at hl 4 rfl) ?_
              refine lv_aload_n hx hb dX12_joined_240 rfl (lv_at hl 2 rfl) ?_
              refine va_get (D := G) (ci := 10) (v := .ref (q 8)) (C := RX12) (T := TX12) (N := 33) hx hb hts hinX12 hown hK.1 hP 0 rfl rfl 9 (by decide) wd12 (fun _ h9 => h9) rfl dX12_joined_241 ?_
              refine lv_iload_n hx hb dX12_joined_244 rfl (lv_at hl 3 rfl) ?_
              obtain ⟨h30, hm⟩ := g_in hm
              refine va_lald hx hb hK.1 hP 8 1 rfl rfl h30 dX12_joined_245 ?_
              refine lv_lxor hx hb dX12_joined_246 ?_
              refine lv_aload_n hx hb dX12_joined_247 rfl (lv_at hl 2 rfl) ?_
              refine va_get (D := G) (ci := 10) (v := .ref (q 7)) (C := RX12) (T := TX12) (N := 33) hx hb hts hinX12 hown hK.1 hP 0 rfl rfl 8 (by decide) wd13 (fun _ h9 => h9) rfl dX12_joined_248 ?_
              refine lv_iload_n hx hb dX12_joined_251 rfl (lv_at hl 3 rfl) ?_
              obtain ⟨h31, hm⟩ := g_in hm
              refine va_lald hx hb hK.1 hP 7 1 rfl rfl h31 dX12_joined_252 ?_
              refine lv_lxor hx hb dX12_joined_253 ?_
              refine lv_iload hx hb dX12_joined_254 (lv_at hl 7 rfl) ?_
              obtain ⟨r32, hc_r32, hm⟩ := bs hm
              refine k_calll (va_runV (As := [.int x1, .long ((x2 ^^^ (v_finishOf x1.toNatClampNeg)) ^^^ (v_beginOf x1.toNatClampNeg)), .int x7]) (rest := [.long x5]) ⟨hx, hb, hml, hown, hts⟩ (c_X12_passed l G cs q H.size v_told v_tell v_sums v_kindOf v_modOf v_bitsOf v_turnOf v_polyOf v_beginOf v_finishOf v_isLow v_weightsOf v_weight v_cell v_size v_row v_keptSize v_keptBefore v_keptAfter v_placeA v_placeB v_turned v_turnedMany v_syndromes v_lightest v_freeMany v_freePlace v_freeSyndrome v_ways v_waysKept v_trace v_comesA v_comesB   x1 ((x2 ^^^ (v_finishOf x1.toNatClampNeg)) ^^^ (v_beginOf x1.toNatClampNeg)) x7 n r32 hc_r32) (cwV 3 hts gX12_joined_X12_passed rfl rfl rfl ⟨rfl, hd_X12_passed⟩ ⟨Nat.le_of_ble_eq_true rfl, Nat.le_of_ble_eq_true rfl⟩) ⟨pre_blind, va_recv hK.1 hP (ci := 10) (q0 := 0) rfl rfl, pre_w hK RO.nil hP hD (va_all hD hS hA)⟩ rfl rfl hl.1 rfl (lv_room (Nat.le_of_ble_eq_true rfl)) dX12_joined_256 ⟨Nat.zero_le _, Nat.zero_le _⟩) hS (va_all hD hS hA) (fun H locs hP hD hS => ?_)
              have hP : va_P G vwCl (ww_M q cs v_told v_tell v_sums v_kindOf v_modOf v_bitsOf v_turnOf v_polyOf v_beginOf v_finishOf v_isLow v_weightsOf v_weight v_cell v_size v_row v_keptSize v_keptBefore v_keptAfter v_placeA v_placeB v_turned v_turnedMany v_syndromes v_lightest v_freeMany v_freePlace v_freeSyndrome v_ways v_waysKept v_trace v_comesA v_comesB) H := hP
              have hD : va_D A (ww_M q cs v_told v_tell v_sums v_kindOf v_modOf v_bitsOf v_turnOf v_polyOf v_beginOf v_finishOf v_isLow v_weightsOf v_weight v_cell v_size v_row v_keptSize v_keptBefore v_keptAfter v_placeA v_placeB v_turned v_turnedMany v_syndromes v_lightest v_freeMany v_freePlace v_freeSyndrome v_ways v_waysKept v_trace v_comesA v_comesB) := hD
              refine lv_lxor hx hb dX12_joined_259 ?_
              have hq := Option.some.inj hm
              subst hq; subst hQ
              exact k_lret hx hb hr hlocks hP hD hS rfl dX12_joined_260
            · have hm := i_t b14 hm
              refine lv_ldc2 (own := RX12) (v := (-3)) hx hb hown wd5 dX12_joined_76 ?_
              have hq := Option.some.inj hm
              subst hq; subst hQ
              exact k_lret hx hb hr hlocks hP hD hS rfl dX12_joined_79
    · have hm := i_t b4 hm
      refine lv_ldc2 (own := RX12) (v := (-4)) hx hb hown wd3 dX12_joined_27 ?_
      have hq := Option.some.inj hm
      subst hq; subst hQ
      exact k_lret hx hb hr hlocks hP hD hS rfl dX12_joined_30
  · have hm := i_t b2 hm
    refine lv_ldc2 (own := RX12) (v := (-2)) hx hb hown wd1 dX12_joined_8 ?_
    have hq := Option.some.inj hm
    subst hq; subst hQ
    exact k_lret hx hb hr hlocks hP hD hS rfl dX12_joined_11

theorem hd_X12_other : yX12_other.cls ≠ "java/lang/invoke/MethodHandle" ∧ yX12_other.cls ≠ "java/lang/invoke/VarHandle" ∧ (parseMethodDescriptor yX12_other.desc).map (fun d => d.parameters.length) = some 6 := by decide +kernel

def M_X12_other (n : Nat) (x1 : Int32) (x2 : Int64) (x4 : Int32) (x5 : Int32) (x6 : Int32) (x7 : Int32) (v_sums : Int32) (v_kindOf : (Nat → Int32)) (v_modOf : (Nat → Int32)) (v_bitsOf : (Nat → Int32)) (v_turnOf : (Nat → Int32)) (v_polyOf : (Nat → Int64)) (v_isLow : (Nat → Int32)) (v_weightsOf : (Nat → Int32)) (v_weight : (Nat → Int32)) : Option Int64 :=
  if (M_X12_isSum x1 v_sums) = 0 then (some (-2)) else (if x1 < 0 ∨ 16 ≤ x1.toNatClampNeg then none else if (v_kindOf x1.toNatClampNeg) = 6 then (some (-4)) else ((M_X12_bears x1 x2 v_kindOf v_modOf v_bitsOf).bind fun r5 => if r5 = 0 then (some (-3)) else (if (M_X12_in x4.toInt64 (1 : Int64) (1000 : Int64)) = 0 then (some (-3)) else (if (M_X12_in x5.toInt64 (0 : Int64) ((x4 - 1).toInt64)) = 0 then (some (-3)) else (if (M_X12_isByte x6) = 0 then (some (-3)) else (if (M_X12_isByte x7) = 0 then (some (-3)) else (if x1 < 0 ∨ 16 ≤ x1.toNatClampNeg then none else if (v_kindOf x1.toNatClampNeg) = 0 then ((M_X12_modulo (x2 + ((x7 - x6).toInt64)) ((v_modOf x1.toNatClampNeg).toInt64)).bind fun r18 => some r18) else (if (v_kindOf x1.toNatClampNeg) = 1 then ((M_X12_modulo ((x2 / 65536) + (((x7 - x6).toInt64) * ((x4 - x5).toInt64))) ((v_modOf x1.toNatClampNeg).toInt64)).bind fun r20 => (M_X12_modulo ((x2 - x2 / 65536 * 65536) + ((x7 - x6).toInt64)) ((v_modOf x1.toNatClampNeg).toInt64)).bind fun r21 => some ((65536 * r20) + r21)) else (if (v_kindOf x1.toNatClampNeg) = 2 then (if x1 < 0 ∨ 16 ≤ x1.toNatClampNeg then none else if (v_weightsOf x1.toNatClampNeg) = 0 then none else if ((12 * x1) + (x5 - x5 / (v_weightsOf x1.toNatClampNeg) * (v_weightsOf x1.toNatClampNeg))) < 0 ∨ 192 ≤ ((12 * x1) + (x5 - x5 / (v_weightsOf x1.toNatClampNeg) * (v_weightsOf x1.toNatClampNeg))).toNatClampNeg then none else (M_X12_modulo (x2 + (((x7 - x6).toInt64) * ((v_weight ((12 * x1) + (x5 - x5 / (v_weightsOf x1.toNatClampNeg) * (v_weightsOf x1.toNatClampNeg))).toNatClampNeg).toInt64))) ((v_modOf x1.toNatClampNeg).toInt64)).bind fun r26 => some r26) else (if (v_kindOf x1.toNatClampNeg) = 3 then (if x1 < 0 ∨ 16 ≤ x1.toNatClampNeg then none else if x1 < 0 ∨ 16 ≤ x1.toNatClampNeg then none else (M_X12_rolled ((x6 ^^^ x7).toInt64) ((v_turnOf x1.toNatClampNeg) * ((x4 - 1) - x5)) (v_bitsOf x1.toNatClampNeg)).bind fun r30 => some (x2 ^^^ r30)) else (if x1 < 0 ∨ 16 ≤ x1.toNatClampNeg then none else if x1 < 0 ∨ 16 ≤ x1.toNatClampNeg then none else if x1 < 0 ∨ 16 ≤ x1.toNatClampNeg then none else (M_X12_stepByte n (0 : Int64) (x6 ^^^ x7) (v_bitsOf x1.toNatClampNeg) (v_polyOf x1.toNatClampNeg) (v_isLow x1.toNatClampNeg)).bind fun r34 => (M_X12_passed n x1 r34 ((x4 - 1) - x5) v_bitsOf v_polyOf).bind fun r35 => some (x2 ^^^ r35))))))))))))

abbrev rmX12_other : Room := { frames := 2, cells := 0, slots := 0, locals := 59 }
set_option maxHeartbeats 4000000 in
set_option maxRecDepth 100000 in
theorem c_X12_other (l : Launch) (G : va_G) (cs : CS) (q : Nat → Nat) (sz : Nat) (v_told : Int32) (v_tell : (Nat → Int32)) (v_sums : Int32) (v_kindOf : (Nat → Int32)) (v_modOf : (Nat → Int32)) (v_bitsOf : (Nat → Int32)) (v_turnOf : (Nat → Int32)) (v_polyOf : (Nat → Int64)) (v_beginOf : (Nat → Int64)) (v_finishOf : (Nat → Int64)) (v_isLow : (Nat → Int32)) (v_weightsOf : (Nat → Int32)) (v_weight : (Nat → Int32)) (v_cell : (Nat → Int32)) (v_size : Int32) (v_row : (Nat → Int32)) (v_keptSize : Int32) (v_keptBefore : (Nat → Int32)) (v_keptAfter : (Nat → Int32)) (v_placeA : (Nat → Int64)) (v_placeB : (Nat → Int64)) (v_turned : (Nat → Int32)) (v_turnedMany : Int32) (v_syndromes : (Nat → Int64)) (v_lightest : (Nat → Int32)) (v_freeMany : Int32) (v_freePlace : (Nat → Int32)) (v_freeSyndrome : (Nat → Int64)) (v_ways : (Nat → Int32)) (v_waysKept : Int32) (v_trace : (Nat → Int32)) (v_comesA : Int64) (v_comesB : Int64)   (x1 : Int32) (x2 : Int64) (x4 : Int32) (x5 : Int32) (x6 : Int32) (x7 : Int32) (n : Nat) (res : Int64) (hm : M_X12_other n x1 x2 x4 x5 x6 x7 v_sums v_kindOf v_modOf v_bitsOf v_turnOf v_polyOf v_isLow v_weightsOf v_weight = some res) : Met l yX12_other wsX12_other rmX12_other (va_Pc [.ref (q 0), .int x1, .long x2, .int x4, .int x5, .int x6, .int x7] (PreW G cs sz (ww_M q cs v_told v_tell v_sums v_kindOf v_modOf v_bitsOf v_turnOf v_polyOf v_beginOf v_finishOf v_isLow v_weightsOf v_weight v_cell v_size v_row v_keptSize v_keptBefore v_keptAfter v_placeA v_placeB v_turned v_turnedMany v_syndromes v_lightest v_freeMany v_freePlace v_freeSyndrome v_ways v_waysKept v_trace v_comesA v_comesB) RN)) (QL G res (ww_M q cs v_told v_tell v_sums v_kindOf v_modOf v_bitsOf v_turnOf v_polyOf v_beginOf v_finishOf v_isLow v_weightsOf v_weight v_cell v_size v_row v_keptSize v_keptBefore v_keptAfter v_placeA v_placeB v_turned v_turnedMany v_syndromes v_lightest v_freeMany v_freePlace v_freeSyndrome v_ways v_waysKept v_trace v_comesA v_comesB) (va_A (ww_M q cs v_told v_tell v_sums v_kindOf v_modOf v_bitsOf v_turnOf v_polyOf v_beginOf v_finishOf v_isLow v_weightsOf v_weight v_cell v_size v_row v_keptSize v_keptBefore v_keptAfter v_placeA v_placeB v_turned v_turnedMany v_syndromes v_lightest v_freeMany v_freePlace v_freeSyndrome v_ways v_waysKept v_trace v_comesA v_comesB) sz)) 0 0 (va_A (ww_M q cs v_told v_tell v_sums v_kindOf v_modOf v_bitsOf v_turnOf v_polyOf v_beginOf v_finishOf v_isLow v_weightsOf v_weight v_cell v_size v_row v_keptSize v_keptBefore v_keptAfter v_placeA v_placeB v_turned v_turnedMany v_syndromes v_lightest v_freeMany v_freePlace v_freeSyndrome v_ways v_waysKept v_trace v_comesA v_comesB) sz) := by
  refine k_enter (Qf := fun A => QL G res (ww_M q cs v_told v_tell v_sums v_kindOf v_modOf v_bitsOf v_turnOf v_polyOf v_beginOf v_finishOf v_isLow v_weightsOf v_weight v_cell v_size v_row v_keptSize v_keptBefore v_keptAfter v_placeA v_placeB v_turned v_turnedMany v_syndromes v_lightest v_freeMany v_freePlace v_freeSyndrome v_ways v_waysKept v_trace v_comesA v_comesB) A) (cc := cX12_other) (maxL := 12) (ret := (some .long)) (plainFor_of_name (by decide)) rfl (Nat.le_of_ble_eq_true rfl) ?_
  intro p e s m args below meth c A Q ls H locs hx hb hr hml hown hts hlocks hname hK hA hRo hP hD hS hQ hl
  have hl : lv_has ls 12 [(0, .ref (q 0)), (1, .int x1), (2, .long x2), (4, .int x4), (5, .int x5), (6, .int x6), (7, .int x7)] := hl
  have wd2 := hts (.fieldLink RX12 13 "SumSmithModel" "kindOf" "[I") (List.mem_of_getElem? (i := 2) rfl)
  have wd5 := hts (.constantLong RX12 160 (-3)) (List.mem_of_getElem? (i := 5) rfl)
  have wd4 := hts (.constantLong RX12 158 (1000)) (List.mem_of_getElem? (i := 4) rfl)
  have wd6 := hts (.fieldLink RX12 16 "SumSmithModel" "modOf" "[I") (List.mem_of_getElem? (i := 6) rfl)
  have wd7 := hts (.constantLong RX12 99 (65536)) (List.mem_of_getElem? (i := 7) rfl)
  have wd8 := hts (.fieldLink RX12 42 "SumSmithModel" "weight" "[I") (List.mem_of_getElem? (i := 8) rfl)
  have wd9 := hts (.fieldLink RX12 39 "SumSmithModel" "weightsOf" "[I") (List.mem_of_getElem? (i := 9) rfl)
  have wd10 := hts (.fieldLink RX12 22 "SumSmithModel" "turnOf" "[I") (List.mem_of_getElem? (i := 10) rfl)
  have wd11 := hts (.fieldLink RX12 19 "SumSmithModel" "bitsOf" "[I") (List.mem_of_getElem? (i := 11) rfl)
  have wd12 := hts (.fieldLink RX12 25 "SumSmithModel" "polyOf" "[J") (List.mem_of_getElem? (i := 12) rfl)
  have wd13 := hts (.fieldLink RX12 35 "SumSmithModel" "isLow" "[Z") (List.mem_of_getElem? (i := 13) rfl)
  have wd3 := hts (.constantLong RX12 152 (-4)) (List.mem_of_getElem? (i := 3) rfl)
  have wd1 := hts (.constantLong RX12 142 (-2)) (List.mem_of_getElem? (i := 1) rfl)
  have hinX12 : ∀ w ∈ wsX120, w ∈ wsX12_other := fun w h => List.mem_cons_of_mem _ (List.mem_append_right _ h)
  unfold M_X12_other at hm
  refine lv_aload_n hx hb dX12_other_0 rfl (lv_at hl 0 rfl) ?_
  refine lv_iload_n hx hb dX12_other_1 rfl (lv_at hl 1 rfl) ?_
  refine k_calli (va_runV (As := [.int x1]) (rest := []) ⟨hx, hb, hml, hown, hts⟩ (c_X12_isSum l G cs q H.size v_told v_tell v_sums v_kindOf v_modOf v_bitsOf v_turnOf v_polyOf v_beginOf v_finishOf v_isLow v_weightsOf v_weight v_cell v_size v_row v_keptSize v_keptBefore v_keptAfter v_placeA v_placeB v_turned v_turnedMany v_syndromes v_lightest v_freeMany v_freePlace v_freeSyndrome v_ways v_waysKept v_trace v_comesA v_comesB   x1 _ rfl) (cwV 1 hts gX12_other_X12_isSum rfl rfl rfl ⟨rfl, hd_X12_isSum⟩ ⟨Nat.le_of_ble_eq_true rfl, Nat.le_of_ble_eq_true rfl⟩) ⟨pre_blind, va_recv hK.1 hP (ci := 10) (q0 := 0) rfl rfl, pre_w hK RO.nil hP hD (va_all hD hS hA)⟩ rfl rfl hl.1 rfl (lv_room (Nat.le_of_ble_eq_true rfl)) dX12_other_2 ⟨Nat.zero_le _, Nat.zero_le _⟩) hS (va_all hD hS hA) (fun hE1 H locs hP hD hS => ?_)
  have hP : va_P G vwCl (ww_M q cs v_told v_tell v_sums v_kindOf v_modOf v_bitsOf v_turnOf v_polyOf v_beginOf v_finishOf v_isLow v_weightsOf v_weight v_cell v_size v_row v_keptSize v_keptBefore v_keptAfter v_placeA v_placeB v_turned v_turnedMany v_syndromes v_lightest v_freeMany v_freePlace v_freeSyndrome v_ways v_waysKept v_trace v_comesA v_comesB) H := hP
  have hD : va_D A (ww_M q cs v_told v_tell v_sums v_kindOf v_modOf v_bitsOf v_turnOf v_polyOf v_beginOf v_finishOf v_isLow v_weightsOf v_weight v_cell v_size v_row v_keptSize v_keptBefore v_keptAfter v_placeA v_placeB v_turned v_turnedMany v_syndromes v_lightest v_freeMany v_freePlace v_freeSyndrome v_ways v_waysKept v_trace v_comesA v_comesB) := hD
  refine lv_if_ne (tgt := 12) hx hb dX12_other_5 (by decide) (fun b2 => ?_) (fun b2 => ?_)
  · have hm := i_f b2 hm
    refine lv_aload_n hx hb dX12_other_12 rfl (lv_at hl 0 rfl) ?_
    refine va_get (D := G) (ci := 10) (v := .ref (q 2)) (C := RX12) (T := TX12) (N := 33) hx hb hts hinX12 hown hK.1 hP 0 rfl rfl 3 (by decide) wd2 (fun _ h9 => h9) rfl dX12_other_13 ?_
    refine lv_iload_n hx hb dX12_other_16 rfl (lv_at hl 1 rfl) ?_
    obtain ⟨h3, hm⟩ := g_in hm
    refine va_iald hx hb hK.1 hP 2 0 rfl rfl h3 dX12_other_17 ?_
    refine lv_istore (lv' := [(8, .int (v_kindOf x1.toNatClampNeg)), (0, .ref (q 0)), (1, .int x1), (2, .long x2), (4, .int x4), (5, .int x5), (6, .int x6), (7, .int x7)]) hx hb dX12_other_18 hl (by decide) rfl (fun ls hl => ?_)
    refine lv_iload hx hb dX12_other_20 (lv_at hl 0 rfl) ?_
    refine lv_bipush (v := 6) hx hb dX12_other_22 (by decide) ?_
    refine lv_icmp_ne (tgt := 31) hx hb dX12_other_24 (by decide) (fun b4 => ?_) (fun b4 => ?_)
    · have hm := i_f b4 hm
      refine lv_aload_n hx hb dX12_other_31 rfl (lv_at hl 1 rfl) ?_
      refine lv_iload_n hx hb dX12_other_32 rfl (lv_at hl 2 rfl) ?_
      refine lv_lload_n hx hb dX12_other_33 rfl (lv_at hl 3 rfl) ?_
      obtain ⟨r5, hc_r5, hm⟩ := bs hm
      refine k_calli (va_runV (As := [.int x1, .long x2]) (rest := []) ⟨hx, hb, hml, hown, hts⟩ (c_X12_bears l G cs q H.size v_told v_tell v_sums v_kindOf v_modOf v_bitsOf v_turnOf v_polyOf v_beginOf v_finishOf v_isLow v_weightsOf v_weight v_cell v_size v_row v_keptSize v_keptBefore v_keptAfter v_placeA v_placeB v_turned v_turnedMany v_syndromes v_lightest v_freeMany v_freePlace v_freeSyndrome v_ways v_waysKept v_trace v_comesA v_comesB   x1 x2 r5 hc_r5) (cwV 2 hts gX12_other_X12_bears rfl rfl rfl ⟨rfl, hd_X12_bears⟩ ⟨Nat.le_of_ble_eq_true rfl, Nat.le_of_ble_eq_true rfl⟩) ⟨pre_blind, va_recv hK.1 hP (ci := 10) (q0 := 0) rfl rfl, pre_w hK RO.nil hP hD (va_all hD hS hA)⟩ rfl rfl hl.1 rfl (lv_room (Nat.le_of_ble_eq_true rfl)) dX12_other_34 ⟨Nat.zero_le _, Nat.zero_le _⟩) hS (va_all hD hS hA) (fun hE6 H locs hP hD hS => ?_)
      have hP : va_P G vwCl (ww_M q cs v_told v_tell v_sums v_kindOf v_modOf v_bitsOf v_turnOf v_polyOf v_beginOf v_finishOf v_isLow v_weightsOf v_weight v_cell v_size v_row v_keptSize v_keptBefore v_keptAfter v_placeA v_placeB v_turned v_turnedMany v_syndromes v_lightest v_freeMany v_freePlace v_freeSyndrome v_ways v_waysKept v_trace v_comesA v_comesB) H := hP
      have hD : va_D A (ww_M q cs v_told v_tell v_sums v_kindOf v_modOf v_bitsOf v_turnOf v_polyOf v_beginOf v_finishOf v_isLow v_weightsOf v_weight v_cell v_size v_row v_keptSize v_keptBefore v_keptAfter v_placeA v_placeB v_turned v_turnedMany v_syndromes v_lightest v_freeMany v_freePlace v_freeSyndrome v_ways v_waysKept v_trace v_comesA v_comesB) := hD
      refine lv_if_eq (tgt := 84) hx hb dX12_other_37 (by decide) (fun b7 => ?_) (fun b7 => ?_)
      · have hm := i_t b7 hm
        refine lv_ldc2 (own := RX12) (v := (-3)) hx hb hown wd5 dX12_other_84 ?_
        have hq := Option.some.inj hm
        subst hq; subst hQ
        exact k_lret hx hb hr hlocks hP hD hS rfl dX12_other_87
      · have hm := i_f b7 hm
        refine lv_iload hx hb dX12_other_40 (lv_at hl 4 rfl) ?_
        refine lv_i2l (v := x4.toInt64) hx hb dX12_other_42 rfl ?_
        refine lv_lconst (v := 1) hx hb dX12_other_43 (by decide) ?_
        refine lv_ldc2 (own := RX12) (v := 1000) hx hb hown wd4 dX12_other_44 ?_
        refine k_calli0 (va_runS (As := [.long x4.toInt64, .long 1, .long 1000]) (rest := []) ⟨hx, hb, hml, hown, hts⟩ (c_X12_in l G cs H.size    x4.toInt64 (1 : Int64) (1000 : Int64) _ rfl) (va_cwS 3 hts gX12_other_X12_in rfl rfl rfl hd_X12_in ⟨Nat.le_of_ble_eq_true rfl, Nat.le_of_ble_eq_true rfl⟩) ⟨pre_blind, pre_w hK RO.nil P0 D0 (va_new0 hS hA)⟩ rfl rfl hl.1 rfl (lv_room (Nat.le_of_ble_eq_true rfl)) dX12_other_47 ⟨Nat.zero_le _, Nat.zero_le _⟩) hP hS hA (fun hE8 H locs hP hS => ?_)
        refine lv_if_eq (tgt := 84) hx hb dX12_other_50 (by decide) (fun b9 => ?_) (fun b9 => ?_)
        · have hm := i_t b9 hm
          refine lv_ldc2 (own := RX12) (v := (-3)) hx hb hown wd5 dX12_other_84 ?_
          have hq := Option.some.inj hm
          subst hq; subst hQ
          exact k_lret hx hb hr hlocks hP hD hS rfl dX12_other_87
        · have hm := i_f b9 hm
          refine lv_iload hx hb dX12_other_53 (lv_at hl 5 rfl) ?_
          refine lv_i2l (v := x5.toInt64) hx hb dX12_other_55 rfl ?_
          refine lv_lconst (v := 0) hx hb dX12_other_56 (by decide) ?_
          refine lv_iload hx hb dX12_other_57 (lv_at hl 4 rfl) ?_
          refine lv_iconst (v := 1) hx hb dX12_other_59 (by decide) ?_
          refine lv_isub hx hb dX12_other_60 ?_
          refine lv_i2l (v := (x4 - 1).toInt64) hx hb dX12_other_61 rfl ?_
          refine k_calli0 (va_runS (As := [.long x5.toInt64, .long 0, .long ((x4 - 1).toInt64)]) (rest := []) ⟨hx, hb, hml, hown, hts⟩ (c_X12_in l G cs H.size    x5.toInt64 (0 : Int64) ((x4 - 1).toInt64) _ rfl) (va_cwS 3 hts gX12_other_X12_in rfl rfl rfl hd_X12_in ⟨Nat.le_of_ble_eq_true rfl, Nat.le_of_ble_eq_true rfl⟩) ⟨pre_blind, pre_w hK RO.nil P0 D0 (va_new0 hS hA)⟩ rfl rfl hl.1 rfl (lv_room (Nat.le_of_ble_eq_true rfl)) dX12_other_62 ⟨Nat.zero_le _, Nat.zero_le _⟩) hP hS hA (fun hE10 H locs hP hS => ?_)
          refine lv_if_eq (tgt := 84) hx hb dX12_other_65 (by decide) (fun b11 => ?_) (fun b11 => ?_)
          · have hm := i_t b11 hm
            refine lv_ldc2 (own := RX12) (v := (-3)) hx hb hown wd5 dX12_other_84 ?_
            have hq := Option.some.inj hm
            subst hq; subst hQ
            exact k_lret hx hb hr hlocks hP hD hS rfl dX12_other_87
          · have hm := i_f b11 hm
            refine lv_iload hx hb dX12_other_68 (lv_at hl 6 rfl) ?_
            refine k_calli0 (va_runS (As := [.int x6]) (rest := []) ⟨hx, hb, hml, hown, hts⟩ (c_X12_isByte l G cs H.size    x6 _ rfl) (va_cwS 1 hts gX12_other_X12_isByte rfl rfl rfl hd_X12_isByte ⟨Nat.le_of_ble_eq_true rfl, Nat.le_of_ble_eq_true rfl⟩) ⟨pre_blind, pre_w hK RO.nil P0 D0 (va_new0 hS hA)⟩ rfl rfl hl.1 rfl (lv_room (Nat.le_of_ble_eq_true rfl)) dX12_other_70 ⟨Nat.zero_le _, Nat.zero_le _⟩) hP hS hA (fun hE12 H locs hP hS => ?_)
            refine lv_if_eq (tgt := 84) hx hb dX12_other_73 (by decide) (fun b13 => ?_) (fun b13 => ?_)
            · have hm := i_t b13 hm
              refine lv_ldc2 (own := RX12) (v := (-3)) hx hb hown wd5 dX12_other_84 ?_
              have hq := Option.some.inj hm
              subst hq; subst hQ
              exact k_lret hx hb hr hlocks hP hD hS rfl dX12_other_87
            · have hm := i_f b13 hm
              refine lv_iload hx hb dX12_other_76 (lv_at hl 7 rfl) ?_
              refine k_calli0 (va_runS (As := [.int x7]) (rest := []) ⟨hx, hb, hml, hown, hts⟩ (c_X12_isByte l G cs H.size    x7 _ rfl) (va_cwS 1 hts gX12_other_X12_isByte rfl rfl rfl hd_X12_isByte ⟨Nat.le_of_ble_eq_true rfl, Nat.le_of_ble_eq_true rfl⟩) ⟨pre_blind, pre_w hK RO.nil P0 D0 (va_new0 hS hA)⟩ rfl rfl hl.1 rfl (lv_room (Nat.le_of_ble_eq_true rfl)) dX12_other_78 ⟨Nat.zero_le _, Nat.zero_le _⟩) hP hS hA (fun hE14 H locs hP hS => ?_)
              refine lv_if_ne (tgt := 88) hx hb dX12_other_81 (by decide) (fun b15 => ?_) (fun b15 => ?_)
              · have hm := i_f b15 hm
                refine lv_aload_n hx hb dX12_other_88 rfl (lv_at hl 1 rfl) ?_
                refine va_get (D := G) (ci := 10) (v := .ref (q 3)) (C := RX12) (T := TX12) (N := 33) hx hb hts hinX12 hown hK.1 hP 0 rfl rfl 4 (by decide) wd6 (fun _ h9 => h9) rfl dX12_other_89 ?_
                refine lv_iload_n hx hb dX12_other_92 rfl (lv_at hl 2 rfl) ?_
                obtain ⟨h16, hm⟩ := g_in hm
                refine va_iald hx hb hK.1 hP 3 0 rfl rfl h16 dX12_other_93 ?_
                refine lv_istore (lv' := [(9, .int (v_modOf x1.toNatClampNeg)), (8, .int (v_kindOf x1.toNatClampNeg)), (0, .ref (q 0)), (1, .int x1), (2, .long x2), (4, .int x4), (5, .int x5), (6, .int x6), (7, .int x7)]) hx hb dX12_other_94 hl (by decide) rfl (fun ls hl => ?_)
                refine lv_iload hx hb dX12_other_96 (lv_at hl 8 rfl) ?_
                refine lv_iload hx hb dX12_other_98 (lv_at hl 7 rfl) ?_
                refine lv_isub hx hb dX12_other_100 ?_
                refine lv_i2l (v := (x7 - x6).toInt64) hx hb dX12_other_101 rfl ?_
                refine lv_lstore (lv' := [(10, .long ((x7 - x6).toInt64)), (9, .int (v_modOf x1.toNatClampNeg)), (8, .int (v_kindOf x1.toNatClampNeg)), (0, .ref (q 0)), (1, .int x1), (2, .long x2), (4, .int x4), (5, .int x5), (6, .int x6), (7, .int x7)]) hx hb dX12_other_102 hl (by decide) rfl (fun ls hl => ?_)
                refine lv_iload hx hb dX12_other_104 (lv_at hl 2 rfl) ?_
                by_cases b17 : (v_kindOf x1.toNatClampNeg) = 0
                · have hm := i_t b17 hm
                  refine lv_tableIn (tgt := 136) hx hb dX12_other_106 (by rw [b17]; decide) (by rw [b17]; decide) (by rw [b17]; rfl) (by decide) ?_
                  refine lv_lload_n hx hb dX12_other_136 rfl (lv_at hl 5 rfl) ?_
                  refine lv_lload hx hb dX12_other_137 (lv_at hl 0 rfl) ?_
                  refine lv_ladd hx hb dX12_other_139 ?_
                  refine lv_iload hx hb dX12_other_140 (lv_at hl 1 rfl) ?_
                  refine lv_i2l (v := (v_modOf x1.toNatClampNeg).toInt64) hx hb dX12_other_142 rfl ?_
                  obtain ⟨r18, hc_r18, hm⟩ := bs hm
                  refine k_calll0 (va_runS (As := [.long (x2 + ((x7 - x6).toInt64)), .long ((v_modOf x1.toNatClampNeg).toInt64)]) (rest := []) ⟨hx, hb, hml, hown, hts⟩ (c_X12_modulo l G cs H.size    (x2 + ((x7 - x6).toInt64)) ((v_modOf x1.toNatClampNeg).toInt64) r18 hc_r18) (va_cwS 2 hts gX12_other_X12_modulo rfl rfl rfl hd_X12_modulo ⟨Nat.le_of_ble_eq_true rfl, Nat.le_of_ble_eq_true rfl⟩) ⟨pre_blind, pre_w hK RO.nil P0 D0 (va_new0 hS hA)⟩ rfl rfl hl.1 rfl (lv_room (Nat.le_of_ble_eq_true rfl)) dX12_other_143 ⟨Nat.zero_le _, Nat.zero_le _⟩) hP hS hA (fun H locs hP hS => ?_)
                  have hq := Option.some.inj hm
                  subst hq; subst hQ
                  exact k_lret hx hb hr hlocks hP hD hS rfl dX12_other_146
                have hm := i_f b17 hm
                by_cases b19 : (v_kindOf x1.toNatClampNeg) = 1
                · have hm := i_t b19 hm
                  refine lv_tableIn (tgt := 147) hx hb dX12_other_106 (by rw [b19]; decide) (by rw [b19]; decide) (by rw [b19]; rfl) (by decide) ?_
                  refine lv_ldc2 (own := RX12) (v := 65536) hx hb hown wd7 dX12_other_147 ?_
                  refine lv_lload_n hx hb dX12_other_150 rfl (lv_at hl 5 rfl) ?_
                  refine lv_ldc2 (own := RX12) (v := 65536) hx hb hown wd7 dX12_other_151 ?_
                  refine lv_ldiv hx hb dX12_other_154 (by decide) ?_
                  refine lv_lload hx hb dX12_other_155 (lv_at hl 0 rfl) ?_
                  refine lv_iload hx hb dX12_other_157 (lv_at hl 6 rfl) ?_
                  refine lv_iload hx hb dX12_other_159 (lv_at hl 7 rfl) ?_
                  refine lv_isub hx hb dX12_other_161 ?_
                  refine lv_i2l (v := (x4 - x5).toInt64) hx hb dX12_other_162 rfl ?_
                  refine lv_lmul hx hb dX12_other_163 ?_
                  refine lv_ladd hx hb dX12_other_164 ?_
                  refine lv_iload hx hb dX12_other_165 (lv_at hl 1 rfl) ?_
                  refine lv_i2l (v := (v_modOf x1.toNatClampNeg).toInt64) hx hb dX12_other_167 rfl ?_
                  obtain ⟨r20, hc_r20, hm⟩ := bs hm
                  refine k_calll0 (va_runS (As := [.long ((x2 / 65536) + (((x7 - x6).toInt64) * ((x4 - x5).toInt64))), .long ((v_modOf x1.toNatClampNeg).toInt64)]) (rest := [.long 65536]) ⟨hx, hb, hml, hown, hts⟩ (c_X12_modulo l G cs H.size    ((x2 / 65536) + (((x7 - x6).toInt64) * ((x4 - x5).toInt64))) ((v_modOf x1.toNatClampNeg).toInt64) r20 hc_r20) (va_cwS 2 hts gX12_other_X12_modulo rfl rfl rfl hd_X12_modulo ⟨Nat.le_of_ble_eq_true rfl, Nat.le_of_ble_eq_true rfl⟩) ⟨pre_blind, pre_w hK RO.nil P0 D0 (va_new0 hS hA)⟩ rfl rfl hl.1 rfl (lv_room (Nat.le_of_ble_eq_true rfl)) dX12_other_168 ⟨Nat.zero_le _, Nat.zero_le _⟩) hP hS hA (fun H locs hP hS => ?_)
                  refine lv_lmul hx hb dX12_other_171 ?_
                  refine lv_lload_n hx hb dX12_other_172 rfl (lv_at hl 5 rfl) ?_
                  refine lv_ldc2 (own := RX12) (v := 65536) hx hb hown wd7 dX12_other_173 ?_
                  refine lv_lrem hx hb dX12_other_176 (by decide) ?_
                  refine lv_lload hx hb dX12_other_177 (lv_at hl 0 rfl) ?_
                  refine lv_ladd hx hb dX12_other_179 ?_
                  refine lv_iload hx hb dX12_other_180 (lv_at hl 1 rfl) ?_
                  refine lv_i2l (v := (v_modOf x1.toNatClampNeg).toInt64) hx hb dX12_other_182 rfl ?_
                  obtain ⟨r21, hc_r21, hm⟩ := bs hm
                  refine k_calll0 (va_runS (As := [.long ((x2 - x2 / 65536 * 65536) + ((x7 - x6).toInt64)), .long ((v_modOf x1.toNatClampNeg).toInt64)]) (rest := [.long (65536 * r20)]) ⟨hx, hb, hml, hown, hts⟩ (c_X12_modulo l G cs H.size    ((x2 - x2 / 65536 * 65536) + ((x7 - x6).toInt64)) ((v_modOf x1.toNatClampNeg).toInt64) r21 hc_r21) (va_cwS 2 hts gX12_other_X12_modulo rfl rfl rfl hd_X12_modulo ⟨Nat.le_of_ble_eq_true rfl, Nat.le_of_ble_eq_true rfl⟩) ⟨pre_blind, pre_w hK RO.nil P0 D0 (va_new0 hS hA)⟩ rfl rfl hl.1 rfl (lv_room (Nat.le_of_ble_eq_true rfl)) dX12_other_183 ⟨Nat.zero_le _, Nat.zero_le _⟩) hP hS hA (fun H locs hP hS => ?_)
                  refine lv_ladd hx hb dX12_other_186 ?_
                  have hq := Option.some.inj hm
                  subst hq; subst hQ
                  exact k_lret hx hb hr hlocks hP hD hS rfl dX12_other_187
                have hm := i_f b19 hm
                by_cases b22 : (v_kindOf x1.toNatClampNeg) = 2
                · have hm := i_t b22 hm
                  refine lv_tableIn (tgt := 188) hx hb dX12_other_106 (by rw [b22]; decide) (by rw [b22]; decide) (by rw [b22]; rfl) (by decide) ?_
                  refine lv_lload_n hx hb dX12_other_188 rfl (lv_at hl 5 rfl) ?_
                  refine lv_lload hx hb dX12_other_189 (lv_at hl 0 rfl) ?_
                  refine lv_aload_n hx hb dX12_other_191 rfl (lv_at hl 3 rfl) ?_
                  refine va_get (D := G) (ci := 10) (v := .ref (q 11)) (C := RX12) (T := TX12) (N := 33) hx hb hts hinX12 hown hK.1 hP 0 rfl rfl 12 (by decide) wd8 (fun _ h9 => h9) rfl dX12_other_192 ?_
                  refine lv_bipush (v := 12) hx hb dX12_other_195 (by decide) ?_
                  refine lv_iload_n hx hb dX12_other_197 rfl (lv_at hl 4 rfl) ?_
                  refine lv_imul hx hb dX12_other_198 ?_
                  refine lv_iload hx hb dX12_other_199 (lv_at hl 7 rfl) ?_
                  refine lv_aload_n hx hb dX12_other_201 rfl (lv_at hl 3 rfl) ?_
                  refine va_get (D := G) (ci := 10) (v := .ref (q 10)) (C := RX12) (T := TX12) (N := 33) hx hb hts hinX12 hown hK.1 hP 0 rfl rfl 11 (by decide) wd9 (fun _ h9 => h9) rfl dX12_other_202 ?_
                  refine lv_iload_n hx hb dX12_other_205 rfl (lv_at hl 4 rfl) ?_
                  obtain ⟨h23, hm⟩ := g_in hm
                  refine va_iald hx hb hK.1 hP 10 0 rfl rfl h23 dX12_other_206 ?_
                  obtain ⟨h24, hm⟩ := g_in hm
                  refine lv_irem hx hb dX12_other_207 h24 ?_
                  refine lv_iadd hx hb dX12_other_208 ?_
                  obtain ⟨h25, hm⟩ := g_in hm
                  refine va_iald hx hb hK.1 hP 11 0 rfl rfl h25 dX12_other_209 ?_
                  refine lv_i2l (v := (v_weight ((12 * x1) + (x5 - x5 / (v_weightsOf x1.toNatClampNeg) * (v_weightsOf x1.toNatClampNeg))).toNatClampNeg).toInt64) hx hb dX12_other_210 rfl ?_
                  refine lv_lmul hx hb dX12_other_211 ?_
                  refine lv_ladd hx hb dX12_other_212 ?_
                  refine lv_iload hx hb dX12_other_213 (lv_at hl 1 rfl) ?_
                  refine lv_i2l (v := (v_modOf x1.toNatClampNeg).toInt64) hx hb dX12_other_215 rfl ?_
                  obtain ⟨r26, hc_r26, hm⟩ := bs hm
                  refine k_calll0 (va_runS (As := [.long (x2 + (((x7 - x6).toInt64) * ((v_weight ((12 * x1) + (x5 - x5 / (v_weightsOf x1.toNatClampNeg) * (v_weightsOf x1.toNatClampNeg))).toNatClampNeg).toInt64))), .long ((v_modOf x1.toNatClampNeg).toInt64)]) (rest := []) ⟨hx, hb, hml, hown, hts⟩ (c_X12_modulo l G cs H.size    (x2 + (((x7 - x6).toInt64) * ((v_weight ((12 * x1) + (x5 - x5 / (v_weightsOf x1.toNatClampNeg) * (v_weightsOf x1.toNatClampNeg))).toNatClampNeg).toInt64))) ((v_modOf x1.toNatClampNeg).toInt64) r26 hc_r26) (va_cwS 2 hts gX12_other_X12_modulo rfl rfl rfl hd_X12_modulo ⟨Nat.le_of_ble_eq_true rfl, Nat.le_of_ble_eq_true rfl⟩) ⟨pre_blind, pre_w hK RO.nil P0 D0 (va_new0 hS hA)⟩ rfl rfl hl.1 rfl (lv_room (Nat.le_of_ble_eq_true rfl)) dX12_other_216 ⟨Nat.zero_le _, Nat.zero_le _⟩) hP hS hA (fun H locs hP hS => ?_)
                  have hq := Option.some.inj hm
                  subst hq; subst hQ
                  exact k_lret hx hb hr hlocks hP hD hS rfl dX12_other_219
                have hm := i_f b22 hm
                by_cases b27 : (v_kindOf x1.toNatClampNeg) = 3
                · have hm := i_t b27 hm
                  refine lv_tableIn (tgt := 220) hx hb dX12_other_106 (by rw [b27]; decide) (by rw [b27]; decide) (by rw [b27]; rfl) (by decide) ?_
                  refine lv_lload_n hx hb dX12_other_220 rfl (lv_at hl 5 rfl) ?_
                  refine lv_iload hx hb dX12_other_221 (lv_at hl 8 rfl) ?_
                  refine lv_iload hx hb dX12_other_223 (lv_at hl 9 rfl) ?_
                  refine lv_ixor hx hb dX12_other_225 ?_
                  refine lv_i2l (v := (x6 ^^^ x7).toInt64) hx hb dX12_other_226 rfl ?_
                  refine lv_aload_n hx hb dX12_other_227 rfl (lv_at hl 3 rfl) ?_
                  refine va_get (D := G) (ci := 10) (v := .ref (q 5)) (C := RX12) (T := TX12) (N := 33) hx hb hts hinX12 hown hK.1 hP 0 rfl rfl 6 (by decide) wd10 (fun _ h9 => h9) rfl dX12_other_228 ?_
                  refine lv_iload_n hx hb dX12_other_231 rfl (lv_at hl 4 rfl) ?_
                  obtain ⟨h28, hm⟩ := g_in hm
                  refine va_iald hx hb hK.1 hP 5 0 rfl rfl h28 dX12_other_232 ?_
                  refine lv_iload hx hb dX12_other_233 (lv_at hl 6 rfl) ?_
                  refine lv_iconst (v := 1) hx hb dX12_other_235 (by decide) ?_
                  refine lv_isub hx hb dX12_other_236 ?_
                  refine lv_iload hx hb dX12_other_237 (lv_at hl 7 rfl) ?_
                  refine lv_isub hx hb dX12_other_239 ?_
                  refine lv_imul hx hb dX12_other_240 ?_
                  refine lv_aload_n hx hb dX12_other_241 rfl (lv_at hl 3 rfl) ?_
                  refine va_get (D := G) (ci := 10) (v := .ref (q 4)) (C := RX12) (T := TX12) (N := 33) hx hb hts hinX12 hown hK.1 hP 0 rfl rfl 5 (by decide) wd11 (fun _ h9 => h9) rfl dX12_other_242 ?_
                  refine lv_iload_n hx hb dX12_other_245 rfl (lv_at hl 4 rfl) ?_
                  obtain ⟨h29, hm⟩ := g_in hm
                  refine va_iald hx hb hK.1 hP 4 0 rfl rfl h29 dX12_other_246 ?_
                  obtain ⟨r30, hc_r30, hm⟩ := bs hm
                  refine k_calll0 (va_runS (As := [.long ((x6 ^^^ x7).toInt64), .int ((v_turnOf x1.toNatClampNeg) * ((x4 - 1) - x5)), .int (v_bitsOf x1.toNatClampNeg)]) (rest := [.long x2]) ⟨hx, hb, hml, hown, hts⟩ (c_X12_rolled l G cs H.size    ((x6 ^^^ x7).toInt64) ((v_turnOf x1.toNatClampNeg) * ((x4 - 1) - x5)) (v_bitsOf x1.toNatClampNeg) r30 hc_r30) (va_cwS 3 hts gX12_other_X12_rolled rfl rfl rfl hd_X12_rolled ⟨Nat.le_of_ble_eq_true rfl, Nat.le_of_ble_eq_true rfl⟩) ⟨pre_blind, pre_w hK RO.nil P0 D0 (va_new0 hS hA)⟩ rfl rfl hl.1 rfl (lv_room (Nat.le_of_ble_eq_true rfl)) dX12_other_247 ⟨Nat.zero_le _, Nat.zero_le _⟩) hP hS hA (fun H locs hP hS => ?_)
                  refine lv_lxor hx hb dX12_other_250 ?_
                  have hq := Option.some.inj hm
                  subst hq; subst hQ
                  exact k_lret hx hb hr hlocks hP hD hS rfl dX12_other_251
                have hm := i_f b27 hm
                have b17 : ¬ ((v_kindOf x1.toNatClampNeg)).toInt = 0 := fun e9 => ne_ti b17 (e9.trans (by decide))
                have b19 : ¬ ((v_kindOf x1.toNatClampNeg)).toInt = 1 := fun e9 => ne_ti b19 (e9.trans (by decide))
                have b22 : ¬ ((v_kindOf x1.toNatClampNeg)).toInt = 2 := fun e9 => ne_ti b22 (e9.trans (by decide))
                have b27 : ¬ ((v_kindOf x1.toNatClampNeg)).toInt = 3 := fun e9 => ne_ti b27 (e9.trans (by decide))
                refine lv_tableOut (tgt := 252) hx hb dX12_other_106 (by omega) (by decide) ?_
                refine lv_lload_n hx hb dX12_other_252 rfl (lv_at hl 5 rfl) ?_
                refine lv_aload_n hx hb dX12_other_253 rfl (lv_at hl 3 rfl) ?_
                refine lv_iload_n hx hb dX12_other_254 rfl (lv_at hl 4 rfl) ?_
                refine lv_lconst (v := 0) hx hb dX12_other_255 (by decide) ?_
                refine lv_iload hx hb dX12_other_256 (lv_at hl 8 rfl) ?_
                refine lv_iload hx hb dX12_other_258 (lv_at hl 9 rfl) ?_
                refine lv_ixor hx hb dX12_other_260 ?_
                refine lv_aload_n hx hb dX12_other_261 rfl (lv_at hl 3 rfl) ?_
                refine va_get (D := G) (ci := 10) (v := .ref (q 4)) (C := RX12) (T := TX12) (N := 33) hx hb hts hinX12 hown hK.1 hP 0 rfl rfl 5 (by decide) wd11 (fun _ h9 => h9) rfl dX12_other_262 ?_
                refine lv_iload_n hx hb dX12_other_265 rfl (lv_at hl 4 rfl) ?_
                obtain ⟨h31, hm⟩ := g_in hm
                refine va_iald hx hb hK.1 hP 4 0 rfl rfl h31 dX12_other_266 ?_
                refine lv_aload_n hx hb dX12_other_267 rfl (lv_at hl 3 rfl) ?_
                refine va_get (D := G) (ci := 10) (v := .ref (q 6)) (C := RX12) (T := TX12) (N := 33) hx hb hts hinX12 hown hK.1 hP 0 rfl rfl 7 (by decide) wd12 (fun _ h9 => h9) rfl dX12_other_268 ?_
                refine lv_iload_n hx hb dX12_other_271 rfl (lv_at hl 4 rfl) ?_
                obtain ⟨h32, hm⟩ := g_in hm
                refine va_lald hx hb hK.1 hP 6 1 rfl rfl h32 dX12_other_272 ?_
                refine lv_aload_n hx hb dX12_other_273 rfl (lv_at hl 3 rfl) ?_
                refine va_get (D := G) (ci := 10) (v := .ref (q 9)) (C := RX12) (T := TX12) (N := 33) hx hb hts hinX12 hown hK.1 hP 0 rfl rfl 10 (by decide) wd13 (fun _ h9 => h9) rfl dX12_other_274 ?_
                refine lv_iload_n hx hb dX12_other_277 rfl (lv_at hl 4 rfl) ?_
                obtain ⟨h33, hm⟩ := g_in hm
                refine va_zald hx hb hK.1 hP 9 2 rfl rfl h33 dX12_other_278 ?_
                obtain ⟨r34, hc_r34, hm⟩ := bs hm
                refine k_calll0 (va_runS (As := [.long 0, .int (x6 ^^^ x7), .int (v_bitsOf x1.toNatClampNeg), .long (v_polyOf x1.toNatClampNeg), .int (v_isLow x1.toNatClampNeg)]) (rest := [.int x1, .ref (q 0), .long x2]) ⟨hx, hb, hml, hown, hts⟩ (c_X12_stepByte l G cs H.size    (0 : Int64) (x6 ^^^ x7) (v_bitsOf x1.toNatClampNeg) (v_polyOf x1.toNatClampNeg) (v_isLow x1.toNatClampNeg) n r34 hc_r34) (va_cwS 5 hts gX12_other_X12_stepByte rfl rfl rfl hd_X12_stepByte ⟨Nat.le_of_ble_eq_true rfl, Nat.le_of_ble_eq_true rfl⟩) ⟨pre_blind, pre_w hK RO.nil P0 D0 (va_new0 hS hA)⟩ rfl rfl hl.1 rfl (lv_room (Nat.le_of_ble_eq_true rfl)) dX12_other_279 ⟨Nat.zero_le _, Nat.zero_le _⟩) hP hS hA (fun H locs hP hS => ?_)
                refine lv_iload hx hb dX12_other_282 (lv_at hl 6 rfl) ?_
                refine lv_iconst (v := 1) hx hb dX12_other_284 (by decide) ?_
                refine lv_isub hx hb dX12_other_285 ?_
                refine lv_iload hx hb dX12_other_286 (lv_at hl 7 rfl) ?_
                refine lv_isub hx hb dX12_other_288 ?_
                obtain ⟨r35, hc_r35, hm⟩ := bs hm
                refine k_calll (va_runV (As := [.int x1, .long r34, .int ((x4 - 1) - x5)]) (rest := [.long x2]) ⟨hx, hb, hml, hown, hts⟩ (c_X12_passed l G cs q H.size v_told v_tell v_sums v_kindOf v_modOf v_bitsOf v_turnOf v_polyOf v_beginOf v_finishOf v_isLow v_weightsOf v_weight v_cell v_size v_row v_keptSize v_keptBefore v_keptAfter v_placeA v_placeB v_turned v_turnedMany v_syndromes v_lightest v_freeMany v_freePlace v_freeSyndrome v_ways v_waysKept v_trace v_comesA v_comesB   x1 r34 ((x4 - 1) - x5) n r35 hc_r35) (cwV 3 hts gX12_other_X12_passed rfl rfl rfl ⟨rfl, hd_X12_passed⟩ ⟨Nat.le_of_ble_eq_true rfl, Nat.le_of_ble_eq_true rfl⟩) ⟨pre_blind, va_recv hK.1 hP (ci := 10) (q0 := 0) rfl rfl, pre_w hK RO.nil hP hD (va_all hD hS hA)⟩ rfl rfl hl.1 rfl (lv_room (Nat.le_of_ble_eq_true rfl)) dX12_other_289 ⟨Nat.zero_le _, Nat.zero_le _⟩) hS (va_all hD hS hA) (fun H locs hP hD hS => ?_)
                have hP : va_P G vwCl (ww_M q cs v_told v_tell v_sums v_kindOf v_modOf v_bitsOf v_turnOf v_polyOf v_beginOf v_finishOf v_isLow v_weightsOf v_weight v_cell v_size v_row v_keptSize v_keptBefore v_keptAfter v_placeA v_placeB v_turned v_turnedMany v_syndromes v_lightest v_freeMany v_freePlace v_freeSyndrome v_ways v_waysKept v_trace v_comesA v_comesB) H := hP
                have hD : va_D A (ww_M q cs v_told v_tell v_sums v_kindOf v_modOf v_bitsOf v_turnOf v_polyOf v_beginOf v_finishOf v_isLow v_weightsOf v_weight v_cell v_size v_row v_keptSize v_keptBefore v_keptAfter v_placeA v_placeB v_turned v_turnedMany v_syndromes v_lightest v_freeMany v_freePlace v_freeSyndrome v_ways v_waysKept v_trace v_comesA v_comesB) := hD
                refine lv_lxor hx hb dX12_other_292 ?_
                have hq := Option.some.inj hm
                subst hq; subst hQ
                exact k_lret hx hb hr hlocks hP hD hS rfl dX12_other_293
              · have hm := i_t b15 hm
                refine lv_ldc2 (own := RX12) (v := (-3)) hx hb hown wd5 dX12_other_84 ?_
                have hq := Option.some.inj hm
                subst hq; subst hQ
                exact k_lret hx hb hr hlocks hP hD hS rfl dX12_other_87
    · have hm := i_t b4 hm
      refine lv_ldc2 (own := RX12) (v := (-4)) hx hb hown wd3 dX12_other_27 ?_
      have hq := Option.some.inj hm
      subst hq; subst hQ
      exact k_lret hx hb hr hlocks hP hD hS rfl dX12_other_30
  · have hm := i_t b2 hm
    refine lv_ldc2 (own := RX12) (v := (-2)) hx hb hown wd1 dX12_other_8 ?_
    have hq := Option.some.inj hm
    subst hq; subst hQ
    exact k_lret hx hb hr hlocks hP hD hS rfl dX12_other_11

theorem hd_X12_less : yX12_less.cls ≠ "java/lang/invoke/MethodHandle" ∧ yX12_less.cls ≠ "java/lang/invoke/VarHandle" ∧ (parseMethodDescriptor yX12_less.desc).map (fun d => d.parameters.length) = some 4 := by decide +kernel

def M_X12_less (n : Nat) (x1 : Int32) (x2 : Int64) (x4 : Int32) (x5 : Int32) (v_sums : Int32) (v_kindOf : (Nat → Int32)) (v_modOf : (Nat → Int32)) (v_bitsOf : (Nat → Int32)) (v_turnOf : (Nat → Int32)) (v_polyOf : (Nat → Int64)) (v_beginOf : (Nat → Int64)) (v_isLow : (Nat → Int32)) (v_weightsOf : (Nat → Int32)) (v_weight : (Nat → Int32)) : Option Int64 :=
  if (M_X12_isSum x1 v_sums) = 0 then (some (-2)) else (if x1 < 0 ∨ 16 ≤ x1.toNatClampNeg then none else if (v_kindOf x1.toNatClampNeg) = 6 then (some (-4)) else ((M_X12_bears x1 x2 v_kindOf v_modOf v_bitsOf).bind fun r5 => if r5 = 0 then (some (-3)) else (if (M_X12_in x4.toInt64 (1 : Int64) (1000 : Int64)) = 0 then (some (-3)) else (if (M_X12_isByte x5) = 0 then (some (-3)) else (if x1 < 0 ∨ 16 ≤ x1.toNatClampNeg then none else if (v_kindOf x1.toNatClampNeg) = 0 then ((M_X12_modulo (x2 - x5.toInt64) ((v_modOf x1.toNatClampNeg).toInt64)).bind fun r14 => some r14) else (if (v_kindOf x1.toNatClampNeg) = 1 then ((M_X12_modulo ((x2 / 65536) - (x4.toInt64 * x5.toInt64)) ((v_modOf x1.toNatClampNeg).toInt64)).bind fun r16 => (M_X12_modulo ((x2 - x2 / 65536 * 65536) - x5.toInt64) ((v_modOf x1.toNatClampNeg).toInt64)).bind fun r17 => some ((65536 * r16) + r17)) else (if (v_kindOf x1.toNatClampNeg) = 2 then (if x1 < 0 ∨ 16 ≤ x1.toNatClampNeg then none else if (v_weightsOf x1.toNatClampNeg) = 1 then (if (12 * x1) < 0 ∨ 192 ≤ (12 * x1).toNatClampNeg then none else (M_X12_modulo (x2 - (((v_weight (12 * x1).toNatClampNeg).toInt64) * x5.toInt64)) ((v_modOf x1.toNatClampNeg).toInt64)).bind fun r22 => some r22) else (some (-5))) else (if (v_kindOf x1.toNatClampNeg) = 3 then (if x1 < 0 ∨ 16 ≤ x1.toNatClampNeg then none else if x1 < 0 ∨ 16 ≤ x1.toNatClampNeg then none else (M_X12_rolled x5.toInt64 ((v_turnOf x1.toNatClampNeg) * (x4 - 1)) (v_bitsOf x1.toNatClampNeg)).bind fun r26 => some (x2 ^^^ r26)) else (if x1 < 0 ∨ 16 ≤ x1.toNatClampNeg then none else if x1 < 0 ∨ 16 ≤ x1.toNatClampNeg then none else if x1 < 0 ∨ 16 ≤ x1.toNatClampNeg then none else if x1 < 0 ∨ 16 ≤ x1.toNatClampNeg then none else (M_X12_stepByte n (v_beginOf x1.toNatClampNeg) x5 (v_bitsOf x1.toNatClampNeg) (v_polyOf x1.toNatClampNeg) (v_isLow x1.toNatClampNeg)).bind fun r31 => if x1 < 0 ∨ 16 ≤ x1.toNatClampNeg then none else (M_X12_passed n x1 (r31 ^^^ (v_beginOf x1.toNatClampNeg)) (x4 - 1) v_bitsOf v_polyOf).bind fun r33 => some (x2 ^^^ r33))))))))))

abbrev rmX12_less : Room := { frames := 2, cells := 0, slots := 0, locals := 59 }
set_option maxHeartbeats 4000000 in
set_option maxRecDepth 100000 in
theorem c_X12_less (l : Launch) (G : va_G) (cs : CS) (q : Nat → Nat) (sz : Nat) (v_told : Int32) (v_tell : (Nat → Int32)) (v_sums : Int32) (v_kindOf : (Nat → Int32)) (v_modOf : (Nat → Int32)) (v_bitsOf : (Nat → Int32)) (v_turnOf : (Nat → Int32)) (v_polyOf : (Nat → Int64)) (v_beginOf : (Nat → Int64)) (v_finishOf : (Nat → Int64)) (v_isLow : (Nat → Int32)) (v_weightsOf : (Nat → Int32)) (v_weight : (Nat → Int32)) (v_cell : (Nat → Int32)) (v_size : Int32) (v_row : (Nat → Int32)) (v_keptSize : Int32) (v_keptBefore : (Nat → Int32)) (v_keptAfter : (Nat → Int32)) (v_placeA : (Nat → Int64)) (v_placeB : (Nat → Int64)) (v_turned : (Nat → Int32)) (v_turnedMany : Int32) (v_syndromes : (Nat → Int64)) (v_lightest : (Nat → Int32)) (v_freeMany : Int32) (v_freePlace : (Nat → Int32)) (v_freeSyndrome : (Nat → Int64)) (v_ways : (Nat → Int32)) (v_waysKept : Int32) (v_trace : (Nat → Int32)) (v_comesA : Int64) (v_comesB : Int64)   (x1 : Int32) (x2 : Int64) (x4 : Int32) (x5 : Int32) (n : Nat) (res : Int64) (hm : M_X12_less n x1 x2 x4 x5 v_sums v_kindOf v_modOf v_bitsOf v_turnOf v_polyOf v_beginOf v_isLow v_weightsOf v_weight = some res) : Met l yX12_less wsX12_less rmX12_less (va_Pc [.ref (q 0), .int x1, .long x2, .int x4, .int x5] (PreW G cs sz (ww_M q cs v_told v_tell v_sums v_kindOf v_modOf v_bitsOf v_turnOf v_polyOf v_beginOf v_finishOf v_isLow v_weightsOf v_weight v_cell v_size v_row v_keptSize v_keptBefore v_keptAfter v_placeA v_placeB v_turned v_turnedMany v_syndromes v_lightest v_freeMany v_freePlace v_freeSyndrome v_ways v_waysKept v_trace v_comesA v_comesB) RN)) (QL G res (ww_M q cs v_told v_tell v_sums v_kindOf v_modOf v_bitsOf v_turnOf v_polyOf v_beginOf v_finishOf v_isLow v_weightsOf v_weight v_cell v_size v_row v_keptSize v_keptBefore v_keptAfter v_placeA v_placeB v_turned v_turnedMany v_syndromes v_lightest v_freeMany v_freePlace v_freeSyndrome v_ways v_waysKept v_trace v_comesA v_comesB) (va_A (ww_M q cs v_told v_tell v_sums v_kindOf v_modOf v_bitsOf v_turnOf v_polyOf v_beginOf v_finishOf v_isLow v_weightsOf v_weight v_cell v_size v_row v_keptSize v_keptBefore v_keptAfter v_placeA v_placeB v_turned v_turnedMany v_syndromes v_lightest v_freeMany v_freePlace v_freeSyndrome v_ways v_waysKept v_trace v_comesA v_comesB) sz)) 0 0 (va_A (ww_M q cs v_told v_tell v_sums v_kindOf v_modOf v_bitsOf v_turnOf v_polyOf v_beginOf v_finishOf v_isLow v_weightsOf v_weight v_cell v_size v_row v_keptSize v_keptBefore v_keptAfter v_placeA v_placeB v_turned v_turnedMany v_syndromes v_lightest v_freeMany v_freePlace v_freeSyndrome v_ways v_waysKept v_trace v_comesA v_comesB) sz) := by
  refine k_enter (Qf := fun A => QL G res (ww_M q cs v_told v_tell v_sums v_kindOf v_modOf v_bitsOf v_turnOf v_polyOf v_beginOf v_finishOf v_isLow v_weightsOf v_weight v_cell v_size v_row v_keptSize v_keptBefore v_keptAfter v_placeA v_placeB v_turned v_turnedMany v_syndromes v_lightest v_freeMany v_freePlace v_freeSyndrome v_ways v_waysKept v_trace v_comesA v_comesB) A) (cc := cX12_less) (maxL := 8) (ret := (some .long)) (plainFor_of_name (by decide)) rfl (Nat.le_of_ble_eq_true rfl) ?_
  intro p e s m args below meth c A Q ls H locs hx hb hr hml hown hts hlocks hname hK hA hRo hP hD hS hQ hl
  have hl : lv_has ls 8 [(0, .ref (q 0)), (1, .int x1), (2, .long x2), (4, .int x4), (5, .int x5)] := hl
  have wd2 := hts (.fieldLink RX12 13 "SumSmithModel" "kindOf" "[I") (List.mem_of_getElem? (i := 2) rfl)
  have wd5 := hts (.constantLong RX12 160 (-3)) (List.mem_of_getElem? (i := 5) rfl)
  have wd4 := hts (.constantLong RX12 158 (1000)) (List.mem_of_getElem? (i := 4) rfl)
  have wd6 := hts (.fieldLink RX12 16 "SumSmithModel" "modOf" "[I") (List.mem_of_getElem? (i := 6) rfl)
  have wd7 := hts (.constantLong RX12 99 (65536)) (List.mem_of_getElem? (i := 7) rfl)
  have wd8 := hts (.fieldLink RX12 39 "SumSmithModel" "weightsOf" "[I") (List.mem_of_getElem? (i := 8) rfl)
  have wd10 := hts (.fieldLink RX12 42 "SumSmithModel" "weight" "[I") (List.mem_of_getElem? (i := 10) rfl)
  have wd9 := hts (.constantLong RX12 136 (-5)) (List.mem_of_getElem? (i := 9) rfl)
  have wd11 := hts (.fieldLink RX12 22 "SumSmithModel" "turnOf" "[I") (List.mem_of_getElem? (i := 11) rfl)
  have wd12 := hts (.fieldLink RX12 19 "SumSmithModel" "bitsOf" "[I") (List.mem_of_getElem? (i := 12) rfl)
  have wd13 := hts (.fieldLink RX12 29 "SumSmithModel" "beginOf" "[J") (List.mem_of_getElem? (i := 13) rfl)
  have wd14 := hts (.fieldLink RX12 25 "SumSmithModel" "polyOf" "[J") (List.mem_of_getElem? (i := 14) rfl)
  have wd15 := hts (.fieldLink RX12 35 "SumSmithModel" "isLow" "[Z") (List.mem_of_getElem? (i := 15) rfl)
  have wd3 := hts (.constantLong RX12 152 (-4)) (List.mem_of_getElem? (i := 3) rfl)
  have wd1 := hts (.constantLong RX12 142 (-2)) (List.mem_of_getElem? (i := 1) rfl)
  have hinX12 : ∀ w ∈ wsX120, w ∈ wsX12_less := fun w h => List.mem_cons_of_mem _ (List.mem_append_right _ h)
  unfold M_X12_less at hm
  refine lv_aload_n hx hb dX12_less_0 rfl (lv_at hl 0 rfl) ?_
  refine lv_iload_n hx hb dX12_less_1 rfl (lv_at hl 1 rfl) ?_
  refine k_calli (va_runV (As := [.int x1]) (rest := []) ⟨hx, hb, hml, hown, hts⟩ (c_X12_isSum l G cs q H.size v_told v_tell v_sums v_kindOf v_modOf v_bitsOf v_turnOf v_polyOf v_beginOf v_finishOf v_isLow v_weightsOf v_weight v_cell v_size v_row v_keptSize v_keptBefore v_keptAfter v_placeA v_placeB v_turned v_turnedMany v_syndromes v_lightest v_freeMany v_freePlace v_freeSyndrome v_ways v_waysKept v_trace v_comesA v_comesB   x1 _ rfl) (cwV 1 hts gX12_less_X12_isSum rfl rfl rfl ⟨rfl, hd_X12_isSum⟩ ⟨Nat.le_of_ble_eq_true rfl, Nat.le_of_ble_eq_true rfl⟩) ⟨pre_blind, va_recv hK.1 hP (ci := 10) (q0 := 0) rfl rfl, pre_w hK RO.nil hP hD (va_all hD hS hA)⟩ rfl rfl hl.1 rfl (lv_room (Nat.le_of_ble_eq_true rfl)) dX12_less_2 ⟨Nat.zero_le _, Nat.zero_le _⟩) hS (va_all hD hS hA) (fun hE1 H locs hP hD hS => ?_)
  have hP : va_P G vwCl (ww_M q cs v_told v_tell v_sums v_kindOf v_modOf v_bitsOf v_turnOf v_polyOf v_beginOf v_finishOf v_isLow v_weightsOf v_weight v_cell v_size v_row v_keptSize v_keptBefore v_keptAfter v_placeA v_placeB v_turned v_turnedMany v_syndromes v_lightest v_freeMany v_freePlace v_freeSyndrome v_ways v_waysKept v_trace v_comesA v_comesB) H := hP
  have hD : va_D A (ww_M q cs v_told v_tell v_sums v_kindOf v_modOf v_bitsOf v_turnOf v_polyOf v_beginOf v_finishOf v_isLow v_weightsOf v_weight v_cell v_size v_row v_keptSize v_keptBefore v_keptAfter v_placeA v_placeB v_turned v_turnedMany v_syndromes v_lightest v_freeMany v_freePlace v_freeSyndrome v_ways v_waysKept v_trace v_comesA v_comesB) := hD
  refine lv_if_ne (tgt := 12) hx hb dX12_less_5 (by decide) (fun b2 => ?_) (fun b2 => ?_)
  · have hm := i_f b2 hm
    refine lv_aload_n hx hb dX12_less_12 rfl (lv_at hl 0 rfl) ?_
    refine va_get (D := G) (ci := 10) (v := .ref (q 2)) (C := RX12) (T := TX12) (N := 33) hx hb hts hinX12 hown hK.1 hP 0 rfl rfl 3 (by decide) wd2 (fun _ h9 => h9) rfl dX12_less_13 ?_
    refine lv_iload_n hx hb dX12_less_16 rfl (lv_at hl 1 rfl) ?_
    obtain ⟨h3, hm⟩ := g_in hm
    refine va_iald hx hb hK.1 hP 2 0 rfl rfl h3 dX12_less_17 ?_
    refine lv_istore (lv' := [(6, .int (v_kindOf x1.toNatClampNeg)), (0, .ref (q 0)), (1, .int x1), (2, .long x2), (4, .int x4), (5, .int x5)]) hx hb dX12_less_18 hl (by decide) rfl (fun ls hl => ?_)
    refine lv_iload hx hb dX12_less_20 (lv_at hl 0 rfl) ?_
    refine lv_bipush (v := 6) hx hb dX12_less_22 (by decide) ?_
    refine lv_icmp_ne (tgt := 31) hx hb dX12_less_24 (by decide) (fun b4 => ?_) (fun b4 => ?_)
    · have hm := i_f b4 hm
      refine lv_aload_n hx hb dX12_less_31 rfl (lv_at hl 1 rfl) ?_
      refine lv_iload_n hx hb dX12_less_32 rfl (lv_at hl 2 rfl) ?_
      refine lv_lload_n hx hb dX12_less_33 rfl (lv_at hl 3 rfl) ?_
      obtain ⟨r5, hc_r5, hm⟩ := bs hm
      refine k_calli (va_runV (As := [.int x1, .long x2]) (rest := []) ⟨hx, hb, hml, hown, hts⟩ (c_X12_bears l G cs q H.size v_told v_tell v_sums v_kindOf v_modOf v_bitsOf v_turnOf v_polyOf v_beginOf v_finishOf v_isLow v_weightsOf v_weight v_cell v_size v_row v_keptSize v_keptBefore v_keptAfter v_placeA v_placeB v_turned v_turnedMany v_syndromes v_lightest v_freeMany v_freePlace v_freeSyndrome v_ways v_waysKept v_trace v_comesA v_comesB   x1 x2 r5 hc_r5) (cwV 2 hts gX12_less_X12_bears rfl rfl rfl ⟨rfl, hd_X12_bears⟩ ⟨Nat.le_of_ble_eq_true rfl, Nat.le_of_ble_eq_true rfl⟩) ⟨pre_blind, va_recv hK.1 hP (ci := 10) (q0 := 0) rfl rfl, pre_w hK RO.nil hP hD (va_all hD hS hA)⟩ rfl rfl hl.1 rfl (lv_room (Nat.le_of_ble_eq_true rfl)) dX12_less_34 ⟨Nat.zero_le _, Nat.zero_le _⟩) hS (va_all hD hS hA) (fun hE6 H locs hP hD hS => ?_)
      have hP : va_P G vwCl (ww_M q cs v_told v_tell v_sums v_kindOf v_modOf v_bitsOf v_turnOf v_polyOf v_beginOf v_finishOf v_isLow v_weightsOf v_weight v_cell v_size v_row v_keptSize v_keptBefore v_keptAfter v_placeA v_placeB v_turned v_turnedMany v_syndromes v_lightest v_freeMany v_freePlace v_freeSyndrome v_ways v_waysKept v_trace v_comesA v_comesB) H := hP
      have hD : va_D A (ww_M q cs v_told v_tell v_sums v_kindOf v_modOf v_bitsOf v_turnOf v_polyOf v_beginOf v_finishOf v_isLow v_weightsOf v_weight v_cell v_size v_row v_keptSize v_keptBefore v_keptAfter v_placeA v_placeB v_turned v_turnedMany v_syndromes v_lightest v_freeMany v_freePlace v_freeSyndrome v_ways v_waysKept v_trace v_comesA v_comesB) := hD
      refine lv_if_eq (tgt := 61) hx hb dX12_less_37 (by decide) (fun b7 => ?_) (fun b7 => ?_)
      · have hm := i_t b7 hm
        refine lv_ldc2 (own := RX12) (v := (-3)) hx hb hown wd5 dX12_less_61 ?_
        have hq := Option.some.inj hm
        subst hq; subst hQ
        exact k_lret hx hb hr hlocks hP hD hS rfl dX12_less_64
      · have hm := i_f b7 hm
        refine lv_iload hx hb dX12_less_40 (lv_at hl 4 rfl) ?_
        refine lv_i2l (v := x4.toInt64) hx hb dX12_less_42 rfl ?_
        refine lv_lconst (v := 1) hx hb dX12_less_43 (by decide) ?_
        refine lv_ldc2 (own := RX12) (v := 1000) hx hb hown wd4 dX12_less_44 ?_
        refine k_calli0 (va_runS (As := [.long x4.toInt64, .long 1, .long 1000]) (rest := []) ⟨hx, hb, hml, hown, hts⟩ (c_X12_in l G cs H.size    x4.toInt64 (1 : Int64) (1000 : Int64) _ rfl) (va_cwS 3 hts gX12_less_X12_in rfl rfl rfl hd_X12_in ⟨Nat.le_of_ble_eq_true rfl, Nat.le_of_ble_eq_true rfl⟩) ⟨pre_blind, pre_w hK RO.nil P0 D0 (va_new0 hS hA)⟩ rfl rfl hl.1 rfl (lv_room (Nat.le_of_ble_eq_true rfl)) dX12_less_47 ⟨Nat.zero_le _, Nat.zero_le _⟩) hP hS hA (fun hE8 H locs hP hS => ?_)
        refine lv_if_eq (tgt := 61) hx hb dX12_less_50 (by decide) (fun b9 => ?_) (fun b9 => ?_)
        · have hm := i_t b9 hm
          refine lv_ldc2 (own := RX12) (v := (-3)) hx hb hown wd5 dX12_less_61 ?_
          have hq := Option.some.inj hm
          subst hq; subst hQ
          exact k_lret hx hb hr hlocks hP hD hS rfl dX12_less_64
        · have hm := i_f b9 hm
          refine lv_iload hx hb dX12_less_53 (lv_at hl 5 rfl) ?_
          refine k_calli0 (va_runS (As := [.int x5]) (rest := []) ⟨hx, hb, hml, hown, hts⟩ (c_X12_isByte l G cs H.size    x5 _ rfl) (va_cwS 1 hts gX12_less_X12_isByte rfl rfl rfl hd_X12_isByte ⟨Nat.le_of_ble_eq_true rfl, Nat.le_of_ble_eq_true rfl⟩) ⟨pre_blind, pre_w hK RO.nil P0 D0 (va_new0 hS hA)⟩ rfl rfl hl.1 rfl (lv_room (Nat.le_of_ble_eq_true rfl)) dX12_less_55 ⟨Nat.zero_le _, Nat.zero_le _⟩) hP hS hA (fun hE10 H locs hP hS => ?_)
          refine lv_if_ne (tgt := 65) hx hb dX12_less_58 (by decide) (fun b11 => ?_) (fun b11 => ?_)
          · have hm := i_f b11 hm
            refine lv_aload_n hx hb dX12_less_65 rfl (lv_at hl 1 rfl) ?_
            refine va_get (D := G) (ci := 10) (v := .ref (q 3)) (C := RX12) (T := TX12) (N := 33) hx hb hts hinX12 hown hK.1 hP 0 rfl rfl 4 (by decide) wd6 (fun _ h9 => h9) rfl dX12_less_66 ?_
            refine lv_iload_n hx hb dX12_less_69 rfl (lv_at hl 2 rfl) ?_
            obtain ⟨h12, hm⟩ := g_in hm
            refine va_iald hx hb hK.1 hP 3 0 rfl rfl h12 dX12_less_70 ?_
            refine lv_istore (lv' := [(7, .int (v_modOf x1.toNatClampNeg)), (6, .int (v_kindOf x1.toNatClampNeg)), (0, .ref (q 0)), (1, .int x1), (2, .long x2), (4, .int x4), (5, .int x5)]) hx hb dX12_less_71 hl (by decide) rfl (fun ls hl => ?_)
            refine lv_iload hx hb dX12_less_73 (lv_at hl 1 rfl) ?_
            by_cases b13 : (v_kindOf x1.toNatClampNeg) = 0
            · have hm := i_t b13 hm
              refine lv_tableIn (tgt := 104) hx hb dX12_less_75 (by rw [b13]; decide) (by rw [b13]; decide) (by rw [b13]; rfl) (by decide) ?_
              refine lv_lload_n hx hb dX12_less_104 rfl (lv_at hl 4 rfl) ?_
              refine lv_iload hx hb dX12_less_105 (lv_at hl 6 rfl) ?_
              refine lv_i2l (v := x5.toInt64) hx hb dX12_less_107 rfl ?_
              refine lv_lsub hx hb dX12_less_108 ?_
              refine lv_iload hx hb dX12_less_109 (lv_at hl 0 rfl) ?_
              refine lv_i2l (v := (v_modOf x1.toNatClampNeg).toInt64) hx hb dX12_less_111 rfl ?_
              obtain ⟨r14, hc_r14, hm⟩ := bs hm
              refine k_calll0 (va_runS (As := [.long (x2 - x5.toInt64), .long ((v_modOf x1.toNatClampNeg).toInt64)]) (rest := []) ⟨hx, hb, hml, hown, hts⟩ (c_X12_modulo l G cs H.size    (x2 - x5.toInt64) ((v_modOf x1.toNatClampNeg).toInt64) r14 hc_r14) (va_cwS 2 hts gX12_less_X12_modulo rfl rfl rfl hd_X12_modulo ⟨Nat.le_of_ble_eq_true rfl, Nat.le_of_ble_eq_true rfl⟩) ⟨pre_blind, pre_w hK RO.nil P0 D0 (va_new0 hS hA)⟩ rfl rfl hl.1 rfl (lv_room (Nat.le_of_ble_eq_true rfl)) dX12_less_112 ⟨Nat.zero_le _, Nat.zero_le _⟩) hP hS hA (fun H locs hP hS => ?_)
              have hq := Option.some.inj hm
              subst hq; subst hQ
              exact k_lret hx hb hr hlocks hP hD hS rfl dX12_less_115
            have hm := i_f b13 hm
            by_cases b15 : (v_kindOf x1.toNatClampNeg) = 1
            · have hm := i_t b15 hm
              refine lv_tableIn (tgt := 116) hx hb dX12_less_75 (by rw [b15]; decide) (by rw [b15]; decide) (by rw [b15]; rfl) (by decide) ?_
              refine lv_ldc2 (own := RX12) (v := 65536) hx hb hown wd7 dX12_less_116 ?_
              refine lv_lload_n hx hb dX12_less_119 rfl (lv_at hl 4 rfl) ?_
              refine lv_ldc2 (own := RX12) (v := 65536) hx hb hown wd7 dX12_less_120 ?_
              refine lv_ldiv hx hb dX12_less_123 (by decide) ?_
              refine lv_iload hx hb dX12_less_124 (lv_at hl 5 rfl) ?_
              refine lv_i2l (v := x4.toInt64) hx hb dX12_less_126 rfl ?_
              refine lv_iload hx hb dX12_less_127 (lv_at hl 6 rfl) ?_
              refine lv_i2l (v := x5.toInt64) hx hb dX12_less_129 rfl ?_
              refine lv_lmul hx hb dX12_less_130 ?_
              refine lv_lsub hx hb dX12_less_131 ?_
              refine lv_iload hx hb dX12_less_132 (lv_at hl 0 rfl) ?_
              refine lv_i2l (v := (v_modOf x1.toNatClampNeg).toInt64) hx hb dX12_less_134 rfl ?_
              obtain ⟨r16, hc_r16, hm⟩ := bs hm
              refine k_calll0 (va_runS (As := [.long ((x2 / 65536) - (x4.toInt64 * x5.toInt64)), .long ((v_modOf x1.toNatClampNeg).toInt64)]) (rest := [.long 65536]) ⟨hx, hb, hml, hown, hts⟩ (c_X12_modulo l G cs H.size    ((x2 / 65536) - (x4.toInt64 * x5.toInt64)) ((v_modOf x1.toNatClampNeg).toInt64) r16 hc_r16) (va_cwS 2 hts gX12_less_X12_modulo rfl rfl rfl hd_X12_modulo ⟨Nat.le_of_ble_eq_true rfl, Nat.le_of_ble_eq_true rfl⟩) ⟨pre_blind, pre_w hK RO.nil P0 D0 (va_new0 hS hA)⟩ rfl rfl hl.1 rfl (lv_room (Nat.le_of_ble_eq_true rfl)) dX12_less_135 ⟨Nat.zero_le _, Nat.zero_le _⟩) hP hS hA (fun H locs hP hS => ?_)
              refine lv_lmul hx hb dX12_less_138 ?_
              refine lv_lload_n hx hb dX12_less_139 rfl (lv_at hl 4 rfl) ?_
              refine lv_ldc2 (own := RX12) (v := 65536) hx hb hown wd7 dX12_less_140 ?_
              refine lv_lrem hx hb dX12_less_143 (by decide) ?_
              refine lv_iload hx hb dX12_less_144 (lv_at hl 6 rfl) ?_
              refine lv_i2l (v := x5.toInt64) hx hb dX12_less_146 rfl ?_
              refine lv_lsub hx hb dX12_less_147 ?_
              refine lv_iload hx hb dX12_less_148 (lv_at hl 0 rfl) ?_
              refine lv_i2l (v := (v_modOf x1.toNatClampNeg).toInt64) hx hb dX12_less_150 rfl ?_
              obtain ⟨r17, hc_r17, hm⟩ := bs hm
              refine k_calll0 (va_runS (As := [.long ((x2 - x2 / 65536 * 65536) - x5.toInt64), .long ((v_modOf x1.toNatClampNeg).toInt64)]) (rest := [.long (65536 * r16)]) ⟨hx, hb, hml, hown, hts⟩ (c_X12_modulo l G cs H.size    ((x2 - x2 / 65536 * 65536) - x5.toInt64) ((v_modOf x1.toNatClampNeg).toInt64) r17 hc_r17) (va_cwS 2 hts gX12_less_X12_modulo rfl rfl rfl hd_X12_modulo ⟨Nat.le_of_ble_eq_true rfl, Nat.le_of_ble_eq_true rfl⟩) ⟨pre_blind, pre_w hK RO.nil P0 D0 (va_new0 hS hA)⟩ rfl rfl hl.1 rfl (lv_room (Nat.le_of_ble_eq_true rfl)) dX12_less_151 ⟨Nat.zero_le _, Nat.zero_le _⟩) hP hS hA (fun H locs hP hS => ?_)
              refine lv_ladd hx hb dX12_less_154 ?_
              have hq := Option.some.inj hm
              subst hq; subst hQ
              exact k_lret hx hb hr hlocks hP hD hS rfl dX12_less_155
            have hm := i_f b15 hm
            by_cases b18 : (v_kindOf x1.toNatClampNeg) = 2
            · have hm := i_t b18 hm
              refine lv_tableIn (tgt := 156) hx hb dX12_less_75 (by rw [b18]; decide) (by rw [b18]; decide) (by rw [b18]; rfl) (by decide) ?_
              refine lv_aload_n hx hb dX12_less_156 rfl (lv_at hl 2 rfl) ?_
              refine va_get (D := G) (ci := 10) (v := .ref (q 10)) (C := RX12) (T := TX12) (N := 33) hx hb hts hinX12 hown hK.1 hP 0 rfl rfl 11 (by decide) wd8 (fun _ h9 => h9) rfl dX12_less_157 ?_
              refine lv_iload_n hx hb dX12_less_160 rfl (lv_at hl 3 rfl) ?_
              obtain ⟨h19, hm⟩ := g_in hm
              refine va_iald hx hb hK.1 hP 10 0 rfl rfl h19 dX12_less_161 ?_
              refine lv_iconst (v := 1) hx hb dX12_less_162 (by decide) ?_
              refine lv_icmp_eq (tgt := 172) hx hb dX12_less_163 (by decide) (fun b20 => ?_) (fun b20 => ?_)
              · have hm := i_t b20 hm
                refine lv_lload_n hx hb dX12_less_172 rfl (lv_at hl 4 rfl) ?_
                refine lv_aload_n hx hb dX12_less_173 rfl (lv_at hl 2 rfl) ?_
                refine va_get (D := G) (ci := 10) (v := .ref (q 11)) (C := RX12) (T := TX12) (N := 33) hx hb hts hinX12 hown hK.1 hP 0 rfl rfl 12 (by decide) wd10 (fun _ h9 => h9) rfl dX12_less_174 ?_
                refine lv_bipush (v := 12) hx hb dX12_less_177 (by decide) ?_
                refine lv_iload_n hx hb dX12_less_179 rfl (lv_at hl 3 rfl) ?_
                refine lv_imul hx hb dX12_less_180 ?_
                obtain ⟨h21, hm⟩ := g_in hm
                refine va_iald hx hb hK.1 hP 11 0 rfl rfl h21 dX12_less_181 ?_
                refine lv_i2l (v := (v_weight (12 * x1).toNatClampNeg).toInt64) hx hb dX12_less_182 rfl ?_
                refine lv_iload hx hb dX12_less_183 (lv_at hl 6 rfl) ?_
                refine lv_i2l (v := x5.toInt64) hx hb dX12_less_185 rfl ?_
                refine lv_lmul hx hb dX12_less_186 ?_
                refine lv_lsub hx hb dX12_less_187 ?_
                refine lv_iload hx hb dX12_less_188 (lv_at hl 0 rfl) ?_
                refine lv_i2l (v := (v_modOf x1.toNatClampNeg).toInt64) hx hb dX12_less_190 rfl ?_
                obtain ⟨r22, hc_r22, hm⟩ := bs hm
                refine k_calll0 (va_runS (As := [.long (x2 - (((v_weight (12 * x1).toNatClampNeg).toInt64) * x5.toInt64)), .long ((v_modOf x1.toNatClampNeg).toInt64)]) (rest := []) ⟨hx, hb, hml, hown, hts⟩ (c_X12_modulo l G cs H.size    (x2 - (((v_weight (12 * x1).toNatClampNeg).toInt64) * x5.toInt64)) ((v_modOf x1.toNatClampNeg).toInt64) r22 hc_r22) (va_cwS 2 hts gX12_less_X12_modulo rfl rfl rfl hd_X12_modulo ⟨Nat.le_of_ble_eq_true rfl, Nat.le_of_ble_eq_true rfl⟩) ⟨pre_blind, pre_w hK RO.nil P0 D0 (va_new0 hS hA)⟩ rfl rfl hl.1 rfl (lv_room (Nat.le_of_ble_eq_true rfl)) dX12_less_191 ⟨Nat.zero_le _, Nat.zero_le _⟩) hP hS hA (fun H locs hP hS => ?_)
                have hq := Option.some.inj hm
                subst hq; subst hQ
                exact k_lret hx hb hr hlocks hP hD hS rfl dX12_less_194
              · have hm := i_f b20 hm
                refine lv_ldc2 (own := RX12) (v := (-5)) hx hb hown wd9 dX12_less_166 ?_
                refine lv_goto (tgt := 194) hx hb dX12_less_169 (by decide) ?_
                have hq := Option.some.inj hm
                subst hq; subst hQ
                exact k_lret hx hb hr hlocks hP hD hS rfl dX12_less_194
            have hm := i_f b18 hm
            by_cases b23 : (v_kindOf x1.toNatClampNeg) = 3
            · have hm := i_t b23 hm
              refine lv_tableIn (tgt := 195) hx hb dX12_less_75 (by rw [b23]; decide) (by rw [b23]; decide) (by rw [b23]; rfl) (by decide) ?_
              refine lv_lload_n hx hb dX12_less_195 rfl (lv_at hl 4 rfl) ?_
              refine lv_iload hx hb dX12_less_196 (lv_at hl 6 rfl) ?_
              refine lv_i2l (v := x5.toInt64) hx hb dX12_less_198 rfl ?_
              refine lv_aload_n hx hb dX12_less_199 rfl (lv_at hl 2 rfl) ?_
              refine va_get (D := G) (ci := 10) (v := .ref (q 5)) (C := RX12) (T := TX12) (N := 33) hx hb hts hinX12 hown hK.1 hP 0 rfl rfl 6 (by decide) wd11 (fun _ h9 => h9) rfl dX12_less_200 ?_
              refine lv_iload_n hx hb dX12_less_203 rfl (lv_at hl 3 rfl) ?_
              obtain ⟨h24, hm⟩ := g_in hm
              refine va_iald hx hb hK.1 hP 5 0 rfl rfl h24 dX12_less_204 ?_
              refine lv_iload hx hb dX12_less_205 (lv_at hl 5 rfl) ?_
              refine lv_iconst (v := 1) hx hb dX12_less_207 (by decide) ?_
              refine lv_isub hx hb dX12_less_208 ?_
              refine lv_imul hx hb dX12_less_209 ?_
              refine lv_aload_n hx hb dX12_less_210 rfl (lv_at hl 2 rfl) ?_
              refine va_get (D := G) (ci := 10) (v := .ref (q 4)) (C := RX12) (T := TX12) (N := 33) hx hb hts hinX12 hown hK.1 hP 0 rfl rfl 5 (by decide) wd12 (fun _ h9 => h9) rfl dX12_less_211 ?_
              refine lv_iload_n hx hb dX12_less_214 rfl (lv_at hl 3 rfl) ?_
              obtain ⟨h25, hm⟩ := g_in hm
              refine va_iald hx hb hK.1 hP 4 0 rfl rfl h25 dX12_less_215 ?_
              obtain ⟨r26, hc_r26, hm⟩ := bs hm
              refine k_calll0 (va_runS (As := [.long x5.toInt64, .int ((v_turnOf x1.toNatClampNeg) * (x4 - 1)), .int (v_bitsOf x1.toNatClampNeg)]) (rest := [.long x2]) ⟨hx, hb, hml, hown, hts⟩ (c_X12_rolled l G cs H.size    x5.toInt64 ((v_turnOf x1.toNatClampNeg) * (x4 - 1)) (v_bitsOf x1.toNatClampNeg) r26 hc_r26) (va_cwS 3 hts gX12_less_X12_rolled rfl rfl rfl hd_X12_rolled ⟨Nat.le_of_ble_eq_true rfl, Nat.le_of_ble_eq_true rfl⟩) ⟨pre_blind, pre_w hK RO.nil P0 D0 (va_new0 hS hA)⟩ rfl rfl hl.1 rfl (lv_room (Nat.le_of_ble_eq_true rfl)) dX12_less_216 ⟨Nat.zero_le _, Nat.zero_le _⟩) hP hS hA (fun H locs hP hS => ?_)
              refine lv_lxor hx hb dX12_less_219 ?_
              have hq := Option.some.inj hm
              subst hq; subst hQ
              exact k_lret hx hb hr hlocks hP hD hS rfl dX12_less_220
            have hm := i_f b23 hm
            have b13 : ¬ ((v_kindOf x1.toNatClampNeg)).toInt = 0 := fun e9 => ne_ti b13 (e9.trans (by decide))
            have b15 : ¬ ((v_kindOf x1.toNatClampNeg)).toInt = 1 := fun e9 => ne_ti b15 (e9.trans (by decide))
            have b18 : ¬ ((v_kindOf x1.toNatClampNeg)).toInt = 2 := fun e9 => ne_ti b18 (e9.trans (by decide))
            have b23 : ¬ ((v_kindOf x1.toNatClampNeg)).toInt = 3 := fun e9 => ne_ti b23 (e9.trans (by decide))
            refine lv_tableOut (tgt := 221) hx hb dX12_less_75 (by omega) (by decide) ?_
            refine lv_lload_n hx hb dX12_less_221 rfl (lv_at hl 4 rfl) ?_
            refine lv_aload_n hx hb dX12_less_222 rfl (lv_at hl 2 rfl) ?_
            refine lv_iload_n hx hb dX12_less_223 rfl (lv_at hl 3 rfl) ?_
            refine lv_aload_n hx hb dX12_less_224 rfl (lv_at hl 2 rfl) ?_
            refine va_get (D := G) (ci := 10) (v := .ref (q 7)) (C := RX12) (T := TX12) (N := 33) hx hb hts hinX12 hown hK.1 hP 0 rfl rfl 8 (by decide) wd13 (fun _ h9 => h9) rfl dX12_less_225 ?_
            refine lv_iload_n hx hb dX12_less_228 rfl (lv_at hl 3 rfl) ?_
            obtain ⟨h27, hm⟩ := g_in hm
            refine va_lald hx hb hK.1 hP 7 1 rfl rfl h27 dX12_less_229 ?_
            refine lv_iload hx hb dX12_less_230 (lv_at hl 6 rfl) ?_
            refine lv_aload_n hx hb dX12_less_232 rfl (lv_at hl 2 rfl) ?_
            refine va_get (D := G) (ci := 10) (v := .ref (q 4)) (C := RX12) (T := TX12) (N := 33) hx hb hts hinX12 hown hK.1 hP 0 rfl rfl 5 (by decide) wd12 (fun _ h9 => h9) rfl dX12_less_233 ?_
            refine lv_iload_n hx hb dX12_less_236 rfl (lv_at hl 3 rfl) ?_
            obtain ⟨h28, hm⟩ := g_in hm
            refine va_iald hx hb hK.1 hP 4 0 rfl rfl h28 dX12_less_237 ?_
            refine lv_aload_n hx hb dX12_less_238 rfl (lv_at hl 2 rfl) ?_
            refine va_get (D := G) (ci := 10) (v := .ref (q 6)) (C := RX12) (T := TX12) (N := 33) hx hb hts hinX12 hown hK.1 hP 0 rfl rfl 7 (by decide) wd14 (fun _ h9 => h9) rfl dX12_less_239 ?_
            refine lv_iload_n hx hb dX12_less_242 rfl (lv_at hl 3 rfl) ?_
            obtain ⟨h29, hm⟩ := g_in hm
            refine va_lald hx hb hK.1 hP 6 1 rfl rfl h29 dX12_less_243 ?_
            refine lv_aload_n hx hb dX12_less_244 rfl (lv_at hl 2 rfl) ?_
            refine va_get (D := G) (ci := 10) (v := .ref (q 9)) (C := RX12) (T := TX12) (N := 33) hx hb hts hinX12 hown hK.1 hP 0 rfl rfl 10 (by decide) wd15 (fun _ h9 => h9) rfl dX12_less_245 ?_
            refine lv_iload_n hx hb dX12_less_248 rfl (lv_at hl 3 rfl) ?_
            obtain ⟨h30, hm⟩ := g_in hm
            refine va_zald hx hb hK.1 hP 9 2 rfl rfl h30 dX12_less_249 ?_
            obtain ⟨r31, hc_r31, hm⟩ := bs hm
            refine k_calll0 (va_runS (As := [.long (v_beginOf x1.toNatClampNeg), .int x5, .int (v_bitsOf x1.toNatClampNeg), .long (v_polyOf x1.toNatClampNeg), .int (v_isLow x1.toNatClampNeg)]) (rest := [.int x1, .ref (q 0), .long x2]) ⟨hx, hb, hml, hown, hts⟩ (c_X12_stepByte l G cs H.size    (v_beginOf x1.toNatClampNeg) x5 (v_bitsOf x1.toNatClampNeg) (v_polyOf x1.toNatClampNeg) (v_isLow x1.toNatClampNeg) n r31 hc_r31) (va_cwS 5 hts gX12_less_X12_stepByte rfl rfl rfl hd_X12_stepByte ⟨Nat.le_of_ble_eq_true rfl, Nat.le_of_ble_eq_true rfl⟩) ⟨pre_blind, pre_w hK RO.nil P0 D0 (va_new0 hS hA)⟩ rfl rfl hl.1 rfl (lv_room (Nat.le_of_ble_eq_true rfl)) dX12_less_250 ⟨Nat.zero_le _, Nat.zero_le _⟩) hP hS hA (fun H locs hP hS => ?_)
            refine lv_aload_n hx hb dX12_less_253 rfl (lv_at hl 2 rfl) ?_
            refine va_get (D := G) (ci := 10) (v := .ref (q 7)) (C := RX12) (T := TX12) (N := 33) hx hb hts hinX12 hown hK.1 hP 0 rfl rfl 8 (by decide) wd13 (fun _ h9 => h9) rfl dX12_less_254 ?_
            refine lv_iload_n hx hb dX12_less_257 rfl (lv_at hl 3 rfl) ?_
            obtain ⟨h32, hm⟩ := g_in hm
            refine va_lald hx hb hK.1 hP 7 1 rfl rfl h32 dX12_less_258 ?_
            refine lv_lxor hx hb dX12_less_259 ?_
            refine lv_iload hx hb dX12_less_260 (lv_at hl 5 rfl) ?_
            refine lv_iconst (v := 1) hx hb dX12_less_262 (by decide) ?_
            refine lv_isub hx hb dX12_less_263 ?_
            obtain ⟨r33, hc_r33, hm⟩ := bs hm
            refine k_calll (va_runV (As := [.int x1, .long (r31 ^^^ (v_beginOf x1.toNatClampNeg)), .int (x4 - 1)]) (rest := [.long x2]) ⟨hx, hb, hml, hown, hts⟩ (c_X12_passed l G cs q H.size v_told v_tell v_sums v_kindOf v_modOf v_bitsOf v_turnOf v_polyOf v_beginOf v_finishOf v_isLow v_weightsOf v_weight v_cell v_size v_row v_keptSize v_keptBefore v_keptAfter v_placeA v_placeB v_turned v_turnedMany v_syndromes v_lightest v_freeMany v_freePlace v_freeSyndrome v_ways v_waysKept v_trace v_comesA v_comesB   x1 (r31 ^^^ (v_beginOf x1.toNatClampNeg)) (x4 - 1) n r33 hc_r33) (cwV 3 hts gX12_less_X12_passed rfl rfl rfl ⟨rfl, hd_X12_passed⟩ ⟨Nat.le_of_ble_eq_true rfl, Nat.le_of_ble_eq_true rfl⟩) ⟨pre_blind, va_recv hK.1 hP (ci := 10) (q0 := 0) rfl rfl, pre_w hK RO.nil hP hD (va_all hD hS hA)⟩ rfl rfl hl.1 rfl (lv_room (Nat.le_of_ble_eq_true rfl)) dX12_less_264 ⟨Nat.zero_le _, Nat.zero_le _⟩) hS (va_all hD hS hA) (fun H locs hP hD hS => ?_)
            have hP : va_P G vwCl (ww_M q cs v_told v_tell v_sums v_kindOf v_modOf v_bitsOf v_turnOf v_polyOf v_beginOf v_finishOf v_isLow v_weightsOf v_weight v_cell v_size v_row v_keptSize v_keptBefore v_keptAfter v_placeA v_placeB v_turned v_turnedMany v_syndromes v_lightest v_freeMany v_freePlace v_freeSyndrome v_ways v_waysKept v_trace v_comesA v_comesB) H := hP
            have hD : va_D A (ww_M q cs v_told v_tell v_sums v_kindOf v_modOf v_bitsOf v_turnOf v_polyOf v_beginOf v_finishOf v_isLow v_weightsOf v_weight v_cell v_size v_row v_keptSize v_keptBefore v_keptAfter v_placeA v_placeB v_turned v_turnedMany v_syndromes v_lightest v_freeMany v_freePlace v_freeSyndrome v_ways v_waysKept v_trace v_comesA v_comesB) := hD
            refine lv_lxor hx hb dX12_less_267 ?_
            have hq := Option.some.inj hm
            subst hq; subst hQ
            exact k_lret hx hb hr hlocks hP hD hS rfl dX12_less_268
          · have hm := i_t b11 hm
            refine lv_ldc2 (own := RX12) (v := (-3)) hx hb hown wd5 dX12_less_61 ?_
            have hq := Option.some.inj hm
            subst hq; subst hQ
            exact k_lret hx hb hr hlocks hP hD hS rfl dX12_less_64
    · have hm := i_t b4 hm
      refine lv_ldc2 (own := RX12) (v := (-4)) hx hb hown wd3 dX12_less_27 ?_
      have hq := Option.some.inj hm
      subst hq; subst hQ
      exact k_lret hx hb hr hlocks hP hD hS rfl dX12_less_30
  · have hm := i_t b2 hm
    refine lv_ldc2 (own := RX12) (v := (-2)) hx hb hown wd1 dX12_less_8 ?_
    have hq := Option.some.inj hm
    subst hq; subst hQ
    exact k_lret hx hb hr hlocks hP hD hS rfl dX12_less_11

theorem hd_X12_isXor : yX12_isXor.cls ≠ "java/lang/invoke/MethodHandle" ∧ yX12_isXor.cls ≠ "java/lang/invoke/VarHandle" ∧ (parseMethodDescriptor yX12_isXor.desc).map (fun d => d.parameters.length) = some 1 := by decide +kernel

def M_X12_isXor (x1 : Int32) (v_kindOf : (Nat → Int32)) : Option Int32 :=
  if x1 < 0 ∨ 16 ≤ x1.toNatClampNeg then none else if (v_kindOf x1.toNatClampNeg) = 3 then (some 1) else (if x1 < 0 ∨ 16 ≤ x1.toNatClampNeg then none else if (v_kindOf x1.toNatClampNeg) = 4 then (some 1) else (if x1 < 0 ∨ 16 ≤ x1.toNatClampNeg then none else if (v_kindOf x1.toNatClampNeg) = 5 then (some 1) else (some 0)))

abbrev rmX12_isXor : Room := { frames := 0, cells := 0, slots := 0, locals := 0 }
set_option maxHeartbeats 4000000 in
set_option maxRecDepth 100000 in
theorem c_X12_isXor (l : Launch) (G : va_G) (cs : CS) (q : Nat → Nat) (sz : Nat) (v_told : Int32) (v_tell : (Nat → Int32)) (v_sums : Int32) (v_kindOf : (Nat → Int32)) (v_modOf : (Nat → Int32)) (v_bitsOf : (Nat → Int32)) (v_turnOf : (Nat → Int32)) (v_polyOf : (Nat → Int64)) (v_beginOf : (Nat → Int64)) (v_finishOf : (Nat → Int64)) (v_isLow : (Nat → Int32)) (v_weightsOf : (Nat → Int32)) (v_weight : (Nat → Int32)) (v_cell : (Nat → Int32)) (v_size : Int32) (v_row : (Nat → Int32)) (v_keptSize : Int32) (v_keptBefore : (Nat → Int32)) (v_keptAfter : (Nat → Int32)) (v_placeA : (Nat → Int64)) (v_placeB : (Nat → Int64)) (v_turned : (Nat → Int32)) (v_turnedMany : Int32) (v_syndromes : (Nat → Int64)) (v_lightest : (Nat → Int32)) (v_freeMany : Int32) (v_freePlace : (Nat → Int32)) (v_freeSyndrome : (Nat → Int64)) (v_ways : (Nat → Int32)) (v_waysKept : Int32) (v_trace : (Nat → Int32)) (v_comesA : Int64) (v_comesB : Int64)   (x1 : Int32) (res : Int32) (hm : M_X12_isXor x1 v_kindOf = some res) : Met l yX12_isXor wsX12_isXor rmX12_isXor (va_Pc [.ref (q 0), .int x1] (PreW G cs sz (ww_M q cs v_told v_tell v_sums v_kindOf v_modOf v_bitsOf v_turnOf v_polyOf v_beginOf v_finishOf v_isLow v_weightsOf v_weight v_cell v_size v_row v_keptSize v_keptBefore v_keptAfter v_placeA v_placeB v_turned v_turnedMany v_syndromes v_lightest v_freeMany v_freePlace v_freeSyndrome v_ways v_waysKept v_trace v_comesA v_comesB) RN)) (QI G res (res = 0 ∨ res = 1) (ww_M q cs v_told v_tell v_sums v_kindOf v_modOf v_bitsOf v_turnOf v_polyOf v_beginOf v_finishOf v_isLow v_weightsOf v_weight v_cell v_size v_row v_keptSize v_keptBefore v_keptAfter v_placeA v_placeB v_turned v_turnedMany v_syndromes v_lightest v_freeMany v_freePlace v_freeSyndrome v_ways v_waysKept v_trace v_comesA v_comesB) (va_A (ww_M q cs v_told v_tell v_sums v_kindOf v_modOf v_bitsOf v_turnOf v_polyOf v_beginOf v_finishOf v_isLow v_weightsOf v_weight v_cell v_size v_row v_keptSize v_keptBefore v_keptAfter v_placeA v_placeB v_turned v_turnedMany v_syndromes v_lightest v_freeMany v_freePlace v_freeSyndrome v_ways v_waysKept v_trace v_comesA v_comesB) sz)) 0 0 (va_A (ww_M q cs v_told v_tell v_sums v_kindOf v_modOf v_bitsOf v_turnOf v_polyOf v_beginOf v_finishOf v_isLow v_weightsOf v_weight v_cell v_size v_row v_keptSize v_keptBefore v_keptAfter v_placeA v_placeB v_turned v_turnedMany v_syndromes v_lightest v_freeMany v_freePlace v_freeSyndrome v_ways v_waysKept v_trace v_comesA v_comesB) sz) := by
  refine k_enter (Qf := fun A => QI G res (res = 0 ∨ res = 1) (ww_M q cs v_told v_tell v_sums v_kindOf v_modOf v_bitsOf v_turnOf v_polyOf v_beginOf v_finishOf v_isLow v_weightsOf v_weight v_cell v_size v_row v_keptSize v_keptBefore v_keptAfter v_placeA v_placeB v_turned v_turnedMany v_syndromes v_lightest v_freeMany v_freePlace v_freeSyndrome v_ways v_waysKept v_trace v_comesA v_comesB) A) (cc := cX12_isXor) (maxL := 2) (ret := (some .boolean)) (plainFor_of_name (by decide)) rfl (Nat.le_of_ble_eq_true rfl) ?_
  intro p e s m args below meth c A Q ls H locs hx hb hr hml hown hts hlocks hname hK hA hRo hP hD hS hQ hl
  have hl : lv_has ls 2 [(0, .ref (q 0)), (1, .int x1)] := hl
  have wd1 := hts (.fieldLink RX12 13 "SumSmithModel" "kindOf" "[I") (List.mem_of_getElem? (i := 1) rfl)
  have hinX12 : ∀ w ∈ wsX120, w ∈ wsX12_isXor := fun w h => List.mem_cons_of_mem _ (List.mem_append_right _ h)
  unfold M_X12_isXor at hm
  refine lv_aload_n hx hb dX12_isXor_0 rfl (lv_at hl 0 rfl) ?_
  refine va_get (D := G) (ci := 10) (v := .ref (q 2)) (C := RX12) (T := TX12) (N := 33) hx hb hts hinX12 hown hK.1 hP 0 rfl rfl 3 (by decide) wd1 (fun _ h9 => h9) rfl dX12_isXor_1 ?_
  refine lv_iload_n hx hb dX12_isXor_4 rfl (lv_at hl 1 rfl) ?_
  obtain ⟨h1, hm⟩ := g_in hm
  refine va_iald hx hb hK.1 hP 2 0 rfl rfl h1 dX12_isXor_5 ?_
  refine lv_iconst (v := 3) hx hb dX12_isXor_6 (by decide) ?_
  refine lv_icmp_eq (tgt := 30) hx hb dX12_isXor_7 (by decide) (fun b2 => ?_) (fun b2 => ?_)
  · have hm := i_t b2 hm
    refine lv_iconst (v := 1) hx hb dX12_isXor_30 (by decide) ?_
    refine lv_goto (tgt := 35) hx hb dX12_isXor_31 (by decide) ?_
    have hq := Option.some.inj hm
    subst hq; subst hQ
    exact k_zret hx hb hr hlocks hP hD hS rfl (by decide) dX12_isXor_35
  · have hm := i_f b2 hm
    refine lv_aload_n hx hb dX12_isXor_10 rfl (lv_at hl 0 rfl) ?_
    refine va_get (D := G) (ci := 10) (v := .ref (q 2)) (C := RX12) (T := TX12) (N := 33) hx hb hts hinX12 hown hK.1 hP 0 rfl rfl 3 (by decide) wd1 (fun _ h9 => h9) rfl dX12_isXor_11 ?_
    refine lv_iload_n hx hb dX12_isXor_14 rfl (lv_at hl 1 rfl) ?_
    obtain ⟨h3, hm⟩ := g_in hm
    refine va_iald hx hb hK.1 hP 2 0 rfl rfl h3 dX12_isXor_15 ?_
    refine lv_iconst (v := 4) hx hb dX12_isXor_16 (by decide) ?_
    refine lv_icmp_eq (tgt := 30) hx hb dX12_isXor_17 (by decide) (fun b4 => ?_) (fun b4 => ?_)
    · have hm := i_t b4 hm
      refine lv_iconst (v := 1) hx hb dX12_isXor_30 (by decide) ?_
      refine lv_goto (tgt := 35) hx hb dX12_isXor_31 (by decide) ?_
      have hq := Option.some.inj hm
      subst hq; subst hQ
      exact k_zret hx hb hr hlocks hP hD hS rfl (by decide) dX12_isXor_35
    · have hm := i_f b4 hm
      refine lv_aload_n hx hb dX12_isXor_20 rfl (lv_at hl 0 rfl) ?_
      refine va_get (D := G) (ci := 10) (v := .ref (q 2)) (C := RX12) (T := TX12) (N := 33) hx hb hts hinX12 hown hK.1 hP 0 rfl rfl 3 (by decide) wd1 (fun _ h9 => h9) rfl dX12_isXor_21 ?_
      refine lv_iload_n hx hb dX12_isXor_24 rfl (lv_at hl 1 rfl) ?_
      obtain ⟨h5, hm⟩ := g_in hm
      refine va_iald hx hb hK.1 hP 2 0 rfl rfl h5 dX12_isXor_25 ?_
      refine lv_iconst (v := 5) hx hb dX12_isXor_26 (by decide) ?_
      refine lv_icmp_ne (tgt := 34) hx hb dX12_isXor_27 (by decide) (fun b6 => ?_) (fun b6 => ?_)
      · have hm := i_f b6 hm
        refine lv_iconst (v := 0) hx hb dX12_isXor_34 (by decide) ?_
        have hq := Option.some.inj hm
        subst hq; subst hQ
        exact k_zret hx hb hr hlocks hP hD hS rfl (by decide) dX12_isXor_35
      · have hm := i_t b6 hm
        refine lv_iconst (v := 1) hx hb dX12_isXor_30 (by decide) ?_
        refine lv_goto (tgt := 35) hx hb dX12_isXor_31 (by decide) ?_
        have hq := Option.some.inj hm
        subst hq; subst hQ
        exact k_zret hx hb hr hlocks hP hD hS rfl (by decide) dX12_isXor_35

theorem hd_X12_byteA : yX12_byteA.cls ≠ "java/lang/invoke/MethodHandle" ∧ yX12_byteA.cls ≠ "java/lang/invoke/VarHandle" ∧ (parseMethodDescriptor yX12_byteA.desc).map (fun d => d.parameters.length) = some 4 := by decide +kernel

def M_X12_byteA (n : Nat) (x1 : Int32) (x2 : Int32) (x3 : Int32) (x4 : Int32) (v_kindOf : (Nat → Int32)) (v_bitsOf : (Nat → Int32)) (v_turnOf : (Nat → Int32)) (v_polyOf : (Nat → Int64)) (v_isLow : (Nat → Int32)) (v_weightsOf : (Nat → Int32)) (v_weight : (Nat → Int32)) : Option Int64 :=
  if x1 < 0 ∨ 16 ≤ x1.toNatClampNeg then none else if (v_kindOf x1.toNatClampNeg) = 2 then (if x1 < 0 ∨ 16 ≤ x1.toNatClampNeg then none else if (v_weightsOf x1.toNatClampNeg) = 0 then none else if ((12 * x1) + (x3 - x3 / (v_weightsOf x1.toNatClampNeg) * (v_weightsOf x1.toNatClampNeg))) < 0 ∨ 192 ≤ ((12 * x1) + (x3 - x3 / (v_weightsOf x1.toNatClampNeg) * (v_weightsOf x1.toNatClampNeg))).toNatClampNeg then none else some (((v_weight ((12 * x1) + (x3 - x3 / (v_weightsOf x1.toNatClampNeg) * (v_weightsOf x1.toNatClampNeg))).toNatClampNeg).toInt64) * x4.toInt64)) else (if (v_kindOf x1.toNatClampNeg) = 3 then (if x1 < 0 ∨ 16 ≤ x1.toNatClampNeg then none else if x1 < 0 ∨ 16 ≤ x1.toNatClampNeg then none else (M_X12_rolled x4.toInt64 ((v_turnOf x1.toNatClampNeg) * ((x2 - 1) - x3)) (v_bitsOf x1.toNatClampNeg)).bind fun r9 => some r9) else (if (v_kindOf x1.toNatClampNeg) = 4 then (if x1 < 0 ∨ 16 ≤ x1.toNatClampNeg then none else if x1 < 0 ∨ 16 ≤ x1.toNatClampNeg then none else if x1 < 0 ∨ 16 ≤ x1.toNatClampNeg then none else (M_X12_stepByte n (0 : Int64) x4 (v_bitsOf x1.toNatClampNeg) (v_polyOf x1.toNatClampNeg) (v_isLow x1.toNatClampNeg)).bind fun r14 => (M_X12_passed n x1 r14 ((x2 - 1) - x3) v_bitsOf v_polyOf).bind fun r15 => some r15) else (if (v_kindOf x1.toNatClampNeg) = 5 then (if x1 < 0 ∨ 16 ≤ x1.toNatClampNeg then none else if x1 < 0 ∨ 16 ≤ x1.toNatClampNeg then none else if x1 < 0 ∨ 16 ≤ x1.toNatClampNeg then none else (M_X12_stepByte n (0 : Int64) x4 (v_bitsOf x1.toNatClampNeg) (v_polyOf x1.toNatClampNeg) (v_isLow x1.toNatClampNeg)).bind fun r20 => (M_X12_passed n x1 r20 ((x2 - 1) - x3) v_bitsOf v_polyOf).bind fun r21 => some r21) else (some x4.toInt64))))

abbrev rmX12_byteA : Room := { frames := 2, cells := 0, slots := 0, locals := 59 }
set_option maxHeartbeats 4000000 in
set_option maxRecDepth 100000 in
theorem c_X12_byteA (l : Launch) (G : va_G) (cs : CS) (q : Nat → Nat) (sz : Nat) (v_told : Int32) (v_tell : (Nat → Int32)) (v_sums : Int32) (v_kindOf : (Nat → Int32)) (v_modOf : (Nat → Int32)) (v_bitsOf : (Nat → Int32)) (v_turnOf : (Nat → Int32)) (v_polyOf : (Nat → Int64)) (v_beginOf : (Nat → Int64)) (v_finishOf : (Nat → Int64)) (v_isLow : (Nat → Int32)) (v_weightsOf : (Nat → Int32)) (v_weight : (Nat → Int32)) (v_cell : (Nat → Int32)) (v_size : Int32) (v_row : (Nat → Int32)) (v_keptSize : Int32) (v_keptBefore : (Nat → Int32)) (v_keptAfter : (Nat → Int32)) (v_placeA : (Nat → Int64)) (v_placeB : (Nat → Int64)) (v_turned : (Nat → Int32)) (v_turnedMany : Int32) (v_syndromes : (Nat → Int64)) (v_lightest : (Nat → Int32)) (v_freeMany : Int32) (v_freePlace : (Nat → Int32)) (v_freeSyndrome : (Nat → Int64)) (v_ways : (Nat → Int32)) (v_waysKept : Int32) (v_trace : (Nat → Int32)) (v_comesA : Int64) (v_comesB : Int64)   (x1 : Int32) (x2 : Int32) (x3 : Int32) (x4 : Int32) (n : Nat) (res : Int64) (hm : M_X12_byteA n x1 x2 x3 x4 v_kindOf v_bitsOf v_turnOf v_polyOf v_isLow v_weightsOf v_weight = some res) : Met l yX12_byteA wsX12_byteA rmX12_byteA (va_Pc [.ref (q 0), .int x1, .int x2, .int x3, .int x4] (PreW G cs sz (ww_M q cs v_told v_tell v_sums v_kindOf v_modOf v_bitsOf v_turnOf v_polyOf v_beginOf v_finishOf v_isLow v_weightsOf v_weight v_cell v_size v_row v_keptSize v_keptBefore v_keptAfter v_placeA v_placeB v_turned v_turnedMany v_syndromes v_lightest v_freeMany v_freePlace v_freeSyndrome v_ways v_waysKept v_trace v_comesA v_comesB) RN)) (QL G res (ww_M q cs v_told v_tell v_sums v_kindOf v_modOf v_bitsOf v_turnOf v_polyOf v_beginOf v_finishOf v_isLow v_weightsOf v_weight v_cell v_size v_row v_keptSize v_keptBefore v_keptAfter v_placeA v_placeB v_turned v_turnedMany v_syndromes v_lightest v_freeMany v_freePlace v_freeSyndrome v_ways v_waysKept v_trace v_comesA v_comesB) (va_A (ww_M q cs v_told v_tell v_sums v_kindOf v_modOf v_bitsOf v_turnOf v_polyOf v_beginOf v_finishOf v_isLow v_weightsOf v_weight v_cell v_size v_row v_keptSize v_keptBefore v_keptAfter v_placeA v_placeB v_turned v_turnedMany v_syndromes v_lightest v_freeMany v_freePlace v_freeSyndrome v_ways v_waysKept v_trace v_comesA v_comesB) sz)) 0 0 (va_A (ww_M q cs v_told v_tell v_sums v_kindOf v_modOf v_bitsOf v_turnOf v_polyOf v_beginOf v_finishOf v_isLow v_weightsOf v_weight v_cell v_size v_row v_keptSize v_keptBefore v_keptAfter v_placeA v_placeB v_turned v_turnedMany v_syndromes v_lightest v_freeMany v_freePlace v_freeSyndrome v_ways v_waysKept v_trace v_comesA v_comesB) sz) := by
  refine k_enter (Qf := fun A => QL G res (ww_M q cs v_told v_tell v_sums v_kindOf v_modOf v_bitsOf v_turnOf v_polyOf v_beginOf v_finishOf v_isLow v_weightsOf v_weight v_cell v_size v_row v_keptSize v_keptBefore v_keptAfter v_placeA v_placeB v_turned v_turnedMany v_syndromes v_lightest v_freeMany v_freePlace v_freeSyndrome v_ways v_waysKept v_trace v_comesA v_comesB) A) (cc := cX12_byteA) (maxL := 5) (ret := (some .long)) (plainFor_of_name (by decide)) rfl (Nat.le_of_ble_eq_true rfl) ?_
  intro p e s m args below meth c A Q ls H locs hx hb hr hml hown hts hlocks hname hK hA hRo hP hD hS hQ hl
  have hl : lv_has ls 5 [(0, .ref (q 0)), (1, .int x1), (2, .int x2), (3, .int x3), (4, .int x4)] := hl
  have wd1 := hts (.fieldLink RX12 13 "SumSmithModel" "kindOf" "[I") (List.mem_of_getElem? (i := 1) rfl)
  have wd2 := hts (.fieldLink RX12 42 "SumSmithModel" "weight" "[I") (List.mem_of_getElem? (i := 2) rfl)
  have wd3 := hts (.fieldLink RX12 39 "SumSmithModel" "weightsOf" "[I") (List.mem_of_getElem? (i := 3) rfl)
  have wd4 := hts (.fieldLink RX12 22 "SumSmithModel" "turnOf" "[I") (List.mem_of_getElem? (i := 4) rfl)
  have wd5 := hts (.fieldLink RX12 19 "SumSmithModel" "bitsOf" "[I") (List.mem_of_getElem? (i := 5) rfl)
  have wd6 := hts (.fieldLink RX12 25 "SumSmithModel" "polyOf" "[J") (List.mem_of_getElem? (i := 6) rfl)
  have wd7 := hts (.fieldLink RX12 35 "SumSmithModel" "isLow" "[Z") (List.mem_of_getElem? (i := 7) rfl)
  have hinX12 : ∀ w ∈ wsX120, w ∈ wsX12_byteA := fun w h => List.mem_cons_of_mem _ (List.mem_append_right _ h)
  unfold M_X12_byteA at hm
  refine lv_aload_n hx hb dX12_byteA_0 rfl (lv_at hl 0 rfl) ?_
  refine va_get (D := G) (ci := 10) (v := .ref (q 2)) (C := RX12) (T := TX12) (N := 33) hx hb hts hinX12 hown hK.1 hP 0 rfl rfl 3 (by decide) wd1 (fun _ h9 => h9) rfl dX12_byteA_1 ?_
  refine lv_iload_n hx hb dX12_byteA_4 rfl (lv_at hl 1 rfl) ?_
  obtain ⟨h1, hm⟩ := g_in hm
  refine va_iald hx hb hK.1 hP 2 0 rfl rfl h1 dX12_byteA_5 ?_
  by_cases b2 : (v_kindOf x1.toNatClampNeg) = 2
  · have hm := i_t b2 hm
    refine lv_tableIn (tgt := 36) hx hb dX12_byteA_6 (by rw [b2]; decide) (by rw [b2]; decide) (by rw [b2]; rfl) (by decide) ?_
    refine lv_aload_n hx hb dX12_byteA_36 rfl (lv_at hl 0 rfl) ?_
    refine va_get (D := G) (ci := 10) (v := .ref (q 11)) (C := RX12) (T := TX12) (N := 33) hx hb hts hinX12 hown hK.1 hP 0 rfl rfl 12 (by decide) wd2 (fun _ h9 => h9) rfl dX12_byteA_37 ?_
    refine lv_bipush (v := 12) hx hb dX12_byteA_40 (by decide) ?_
    refine lv_iload_n hx hb dX12_byteA_42 rfl (lv_at hl 1 rfl) ?_
    refine lv_imul hx hb dX12_byteA_43 ?_
    refine lv_iload_n hx hb dX12_byteA_44 rfl (lv_at hl 3 rfl) ?_
    refine lv_aload_n hx hb dX12_byteA_45 rfl (lv_at hl 0 rfl) ?_
    refine va_get (D := G) (ci := 10) (v := .ref (q 10)) (C := RX12) (T := TX12) (N := 33) hx hb hts hinX12 hown hK.1 hP 0 rfl rfl 11 (by decide) wd3 (fun _ h9 => h9) rfl dX12_byteA_46 ?_
    refine lv_iload_n hx hb dX12_byteA_49 rfl (lv_at hl 1 rfl) ?_
    obtain ⟨h3, hm⟩ := g_in hm
    refine va_iald hx hb hK.1 hP 10 0 rfl rfl h3 dX12_byteA_50 ?_
    obtain ⟨h4, hm⟩ := g_in hm
    refine lv_irem hx hb dX12_byteA_51 h4 ?_
    refine lv_iadd hx hb dX12_byteA_52 ?_
    obtain ⟨h5, hm⟩ := g_in hm
    refine va_iald hx hb hK.1 hP 11 0 rfl rfl h5 dX12_byteA_53 ?_
    refine lv_i2l (v := (v_weight ((12 * x1) + (x3 - x3 / (v_weightsOf x1.toNatClampNeg) * (v_weightsOf x1.toNatClampNeg))).toNatClampNeg).toInt64) hx hb dX12_byteA_54 rfl ?_
    refine lv_iload hx hb dX12_byteA_55 (lv_at hl 4 rfl) ?_
    refine lv_i2l (v := x4.toInt64) hx hb dX12_byteA_57 rfl ?_
    refine lv_lmul hx hb dX12_byteA_58 ?_
    have hq := Option.some.inj hm
    subst hq; subst hQ
    exact k_lret hx hb hr hlocks hP hD hS rfl dX12_byteA_59
  have hm := i_f b2 hm
  by_cases b6 : (v_kindOf x1.toNatClampNeg) = 3
  · have hm := i_t b6 hm
    refine lv_tableIn (tgt := 60) hx hb dX12_byteA_6 (by rw [b6]; decide) (by rw [b6]; decide) (by rw [b6]; rfl) (by decide) ?_
    refine lv_iload hx hb dX12_byteA_60 (lv_at hl 4 rfl) ?_
    refine lv_i2l (v := x4.toInt64) hx hb dX12_byteA_62 rfl ?_
    refine lv_aload_n hx hb dX12_byteA_63 rfl (lv_at hl 0 rfl) ?_
    refine va_get (D := G) (ci := 10) (v := .ref (q 5)) (C := RX12) (T := TX12) (N := 33) hx hb hts hinX12 hown hK.1 hP 0 rfl rfl 6 (by decide) wd4 (fun _ h9 => h9) rfl dX12_byteA_64 ?_
    refine lv_iload_n hx hb dX12_byteA_67 rfl (lv_at hl 1 rfl) ?_
    obtain ⟨h7, hm⟩ := g_in hm
    refine va_iald hx hb hK.1 hP 5 0 rfl rfl h7 dX12_byteA_68 ?_
    refine lv_iload_n hx hb dX12_byteA_69 rfl (lv_at hl 2 rfl) ?_
    refine lv_iconst (v := 1) hx hb dX12_byteA_70 (by decide) ?_
    refine lv_isub hx hb dX12_byteA_71 ?_
    refine lv_iload_n hx hb dX12_byteA_72 rfl (lv_at hl 3 rfl) ?_
    refine lv_isub hx hb dX12_byteA_73 ?_
    refine lv_imul hx hb dX12_byteA_74 ?_
    refine lv_aload_n hx hb dX12_byteA_75 rfl (lv_at hl 0 rfl) ?_
    refine va_get (D := G) (ci := 10) (v := .ref (q 4)) (C := RX12) (T := TX12) (N := 33) hx hb hts hinX12 hown hK.1 hP 0 rfl rfl 5 (by decide) wd5 (fun _ h9 => h9) rfl dX12_byteA_76 ?_
    refine lv_iload_n hx hb dX12_byteA_79 rfl (lv_at hl 1 rfl) ?_
    obtain ⟨h8, hm⟩ := g_in hm
    refine va_iald hx hb hK.1 hP 4 0 rfl rfl h8 dX12_byteA_80 ?_
    obtain ⟨r9, hc_r9, hm⟩ := bs hm
    refine k_calll0 (va_runS (As := [.long x4.toInt64, .int ((v_turnOf x1.toNatClampNeg) * ((x2 - 1) - x3)), .int (v_bitsOf x1.toNatClampNeg)]) (rest := []) ⟨hx, hb, hml, hown, hts⟩ (c_X12_rolled l G cs H.size    x4.toInt64 ((v_turnOf x1.toNatClampNeg) * ((x2 - 1) - x3)) (v_bitsOf x1.toNatClampNeg) r9 hc_r9) (va_cwS 3 hts gX12_byteA_X12_rolled rfl rfl rfl hd_X12_rolled ⟨Nat.le_of_ble_eq_true rfl, Nat.le_of_ble_eq_true rfl⟩) ⟨pre_blind, pre_w hK RO.nil P0 D0 (va_new0 hS hA)⟩ rfl rfl hl.1 rfl (lv_room (Nat.le_of_ble_eq_true rfl)) dX12_byteA_81 ⟨Nat.zero_le _, Nat.zero_le _⟩) hP hS hA (fun H locs hP hS => ?_)
    have hq := Option.some.inj hm
    subst hq; subst hQ
    exact k_lret hx hb hr hlocks hP hD hS rfl dX12_byteA_84
  have hm := i_f b6 hm
  by_cases b10 : (v_kindOf x1.toNatClampNeg) = 4
  · have hm := i_t b10 hm
    refine lv_tableIn (tgt := 85) hx hb dX12_byteA_6 (by rw [b10]; decide) (by rw [b10]; decide) (by rw [b10]; rfl) (by decide) ?_
    refine lv_aload_n hx hb dX12_byteA_85 rfl (lv_at hl 0 rfl) ?_
    refine lv_iload_n hx hb dX12_byteA_86 rfl (lv_at hl 1 rfl) ?_
    refine lv_lconst (v := 0) hx hb dX12_byteA_87 (by decide) ?_
    refine lv_iload hx hb dX12_byteA_88 (lv_at hl 4 rfl) ?_
    refine lv_aload_n hx hb dX12_byteA_90 rfl (lv_at hl 0 rfl) ?_
    refine va_get (D := G) (ci := 10) (v := .ref (q 4)) (C := RX12) (T := TX12) (N := 33) hx hb hts hinX12 hown hK.1 hP 0 rfl rfl 5 (by decide) wd5 (fun _ h9 => h9) rfl dX12_byteA_91 ?_
    refine lv_iload_n hx hb dX12_byteA_94 rfl (lv_at hl 1 rfl) ?_
    obtain ⟨h11, hm⟩ := g_in hm
    refine va_iald hx hb hK.1 hP 4 0 rfl rfl h11 dX12_byteA_95 ?_
    refine lv_aload_n hx hb dX12_byteA_96 rfl (lv_at hl 0 rfl) ?_
    refine va_get (D := G) (ci := 10) (v := .ref (q 6)) (C := RX12) (T := TX12) (N := 33) hx hb hts hinX12 hown hK.1 hP 0 rfl rfl 7 (by decide) wd6 (fun _ h9 => h9) rfl dX12_byteA_97 ?_
    refine lv_iload_n hx hb dX12_byteA_100 rfl (lv_at hl 1 rfl) ?_
    obtain ⟨h12, hm⟩ := g_in hm
    refine va_lald hx hb hK.1 hP 6 1 rfl rfl h12 dX12_byteA_101 ?_
    refine lv_aload_n hx hb dX12_byteA_102 rfl (lv_at hl 0 rfl) ?_
    refine va_get (D := G) (ci := 10) (v := .ref (q 9)) (C := RX12) (T := TX12) (N := 33) hx hb hts hinX12 hown hK.1 hP 0 rfl rfl 10 (by decide) wd7 (fun _ h9 => h9) rfl dX12_byteA_103 ?_
    refine lv_iload_n hx hb dX12_byteA_106 rfl (lv_at hl 1 rfl) ?_
    obtain ⟨h13, hm⟩ := g_in hm
    refine va_zald hx hb hK.1 hP 9 2 rfl rfl h13 dX12_byteA_107 ?_
    obtain ⟨r14, hc_r14, hm⟩ := bs hm
    refine k_calll0 (va_runS (As := [.long 0, .int x4, .int (v_bitsOf x1.toNatClampNeg), .long (v_polyOf x1.toNatClampNeg), .int (v_isLow x1.toNatClampNeg)]) (rest := [.int x1, .ref (q 0)]) ⟨hx, hb, hml, hown, hts⟩ (c_X12_stepByte l G cs H.size    (0 : Int64) x4 (v_bitsOf x1.toNatClampNeg) (v_polyOf x1.toNatClampNeg) (v_isLow x1.toNatClampNeg) n r14 hc_r14) (va_cwS 5 hts gX12_byteA_X12_stepByte rfl rfl rfl hd_X12_stepByte ⟨Nat.le_of_ble_eq_true rfl, Nat.le_of_ble_eq_true rfl⟩) ⟨pre_blind, pre_w hK RO.nil P0 D0 (va_new0 hS hA)⟩ rfl rfl hl.1 rfl (lv_room (Nat.le_of_ble_eq_true rfl)) dX12_byteA_108 ⟨Nat.zero_le _, Nat.zero_le _⟩) hP hS hA (fun H locs hP hS => ?_)
    refine lv_iload_n hx hb dX12_byteA_111 rfl (lv_at hl 2 rfl) ?_
    refine lv_iconst (v := 1) hx hb dX12_byteA_112 (by decide) ?_
    refine lv_isub hx hb dX12_byteA_113 ?_
    refine lv_iload_n hx hb dX12_byteA_114 rfl (lv_at hl 3 rfl) ?_
    refine lv_isub hx hb dX12_byteA_115 ?_
    obtain ⟨r15, hc_r15, hm⟩ := bs hm
    refine k_calll (va_runV (As := [.int x1, .long r14, .int ((x2 - 1) - x3)]) (rest := []) ⟨hx, hb, hml, hown, hts⟩ (c_X12_passed l G cs q H.size v_told v_tell v_sums v_kindOf v_modOf v_bitsOf v_turnOf v_polyOf v_beginOf v_finishOf v_isLow v_weightsOf v_weight v_cell v_size v_row v_keptSize v_keptBefore v_keptAfter v_placeA v_placeB v_turned v_turnedMany v_syndromes v_lightest v_freeMany v_freePlace v_freeSyndrome v_ways v_waysKept v_trace v_comesA v_comesB   x1 r14 ((x2 - 1) - x3) n r15 hc_r15) (cwV 3 hts gX12_byteA_X12_passed rfl rfl rfl ⟨rfl, hd_X12_passed⟩ ⟨Nat.le_of_ble_eq_true rfl, Nat.le_of_ble_eq_true rfl⟩) ⟨pre_blind, va_recv hK.1 hP (ci := 10) (q0 := 0) rfl rfl, pre_w hK RO.nil hP hD (va_all hD hS hA)⟩ rfl rfl hl.1 rfl (lv_room (Nat.le_of_ble_eq_true rfl)) dX12_byteA_116 ⟨Nat.zero_le _, Nat.zero_le _⟩) hS (va_all hD hS hA) (fun H locs hP hD hS => ?_)
    have hP : va_P G vwCl (ww_M q cs v_told v_tell v_sums v_kindOf v_modOf v_bitsOf v_turnOf v_polyOf v_beginOf v_finishOf v_isLow v_weightsOf v_weight v_cell v_size v_row v_keptSize v_keptBefore v_keptAfter v_placeA v_placeB v_turned v_turnedMany v_syndromes v_lightest v_freeMany v_freePlace v_freeSyndrome v_ways v_waysKept v_trace v_comesA v_comesB) H := hP
    have hD : va_D A (ww_M q cs v_told v_tell v_sums v_kindOf v_modOf v_bitsOf v_turnOf v_polyOf v_beginOf v_finishOf v_isLow v_weightsOf v_weight v_cell v_size v_row v_keptSize v_keptBefore v_keptAfter v_placeA v_placeB v_turned v_turnedMany v_syndromes v_lightest v_freeMany v_freePlace v_freeSyndrome v_ways v_waysKept v_trace v_comesA v_comesB) := hD
    have hq := Option.some.inj hm
    subst hq; subst hQ
    exact k_lret hx hb hr hlocks hP hD hS rfl dX12_byteA_119
  have hm := i_f b10 hm
  by_cases b16 : (v_kindOf x1.toNatClampNeg) = 5
  · have hm := i_t b16 hm
    refine lv_tableIn (tgt := 85) hx hb dX12_byteA_6 (by rw [b16]; decide) (by rw [b16]; decide) (by rw [b16]; rfl) (by decide) ?_
    refine lv_aload_n hx hb dX12_byteA_85 rfl (lv_at hl 0 rfl) ?_
    refine lv_iload_n hx hb dX12_byteA_86 rfl (lv_at hl 1 rfl) ?_
    refine lv_lconst (v := 0) hx hb dX12_byteA_87 (by decide) ?_
    refine lv_iload hx hb dX12_byteA_88 (lv_at hl 4 rfl) ?_
    refine lv_aload_n hx hb dX12_byteA_90 rfl (lv_at hl 0 rfl) ?_
    refine va_get (D := G) (ci := 10) (v := .ref (q 4)) (C := RX12) (T := TX12) (N := 33) hx hb hts hinX12 hown hK.1 hP 0 rfl rfl 5 (by decide) wd5 (fun _ h9 => h9) rfl dX12_byteA_91 ?_
    refine lv_iload_n hx hb dX12_byteA_94 rfl (lv_at hl 1 rfl) ?_
    obtain ⟨h17, hm⟩ := g_in hm
    refine va_iald hx hb hK.1 hP 4 0 rfl rfl h17 dX12_byteA_95 ?_
    refine lv_aload_n hx hb dX12_byteA_96 rfl (lv_at hl 0 rfl) ?_
    refine va_get (D := G) (ci := 10) (v := .ref (q 6)) (C := RX12) (T := TX12) (N := 33) hx hb hts hinX12 hown hK.1 hP 0 rfl rfl 7 (by decide) wd6 (fun _ h9 => h9) rfl dX12_byteA_97 ?_
    refine lv_iload_n hx hb dX12_byteA_100 rfl (lv_at hl 1 rfl) ?_
    obtain ⟨h18, hm⟩ := g_in hm
    refine va_lald hx hb hK.1 hP 6 1 rfl rfl h18 dX12_byteA_101 ?_
    refine lv_aload_n hx hb dX12_byteA_102 rfl (lv_at hl 0 rfl) ?_
    refine va_get (D := G) (ci := 10) (v := .ref (q 9)) (C := RX12) (T := TX12) (N := 33) hx hb hts hinX12 hown hK.1 hP 0 rfl rfl 10 (by decide) wd7 (fun _ h9 => h9) rfl dX12_byteA_103 ?_
    refine lv_iload_n hx hb dX12_byteA_106 rfl (lv_at hl 1 rfl) ?_
    obtain ⟨h19, hm⟩ := g_in hm
    refine va_zald hx hb hK.1 hP 9 2 rfl rfl h19 dX12_byteA_107 ?_
    obtain ⟨r20, hc_r20, hm⟩ := bs hm
    refine k_calll0 (va_runS (As := [.long 0, .int x4, .int (v_bitsOf x1.toNatClampNeg), .long (v_polyOf x1.toNatClampNeg), .int (v_isLow x1.toNatClampNeg)]) (rest := [.int x1, .ref (q 0)]) ⟨hx, hb, hml, hown, hts⟩ (c_X12_stepByte l G cs H.size    (0 : Int64) x4 (v_bitsOf x1.toNatClampNeg) (v_polyOf x1.toNatClampNeg) (v_isLow x1.toNatClampNeg) n r20 hc_r20) (va_cwS 5 hts gX12_byteA_X12_stepByte rfl rfl rfl hd_X12_stepByte ⟨Nat.le_of_ble_eq_true rfl, Nat.le_of_ble_eq_true rfl⟩) ⟨pre_blind, pre_w hK RO.nil P0 D0 (va_new0 hS hA)⟩ rfl rfl hl.1 rfl (lv_room (Nat.le_of_ble_eq_true rfl)) dX12_byteA_108 ⟨Nat.zero_le _, Nat.zero_le _⟩) hP hS hA (fun H locs hP hS => ?_)
    refine lv_iload_n hx hb dX12_byteA_111 rfl (lv_at hl 2 rfl) ?_
    refine lv_iconst (v := 1) hx hb dX12_byteA_112 (by decide) ?_
    refine lv_isub hx hb dX12_byteA_113 ?_
    refine lv_iload_n hx hb dX12_byteA_114 rfl (lv_at hl 3 rfl) ?_
    refine lv_isub hx hb dX12_byteA_115 ?_
    obtain ⟨r21, hc_r21, hm⟩ := bs hm
    refine k_calll (va_runV (As := [.int x1, .long r20, .int ((x2 - 1) - x3)]) (rest := []) ⟨hx, hb, hml, hown, hts⟩ (c_X12_passed l G cs q H.size v_told v_tell v_sums v_kindOf v_modOf v_bitsOf v_turnOf v_polyOf v_beginOf v_finishOf v_isLow v_weightsOf v_weight v_cell v_size v_row v_keptSize v_keptBefore v_keptAfter v_placeA v_placeB v_turned v_turnedMany v_syndromes v_lightest v_freeMany v_freePlace v_freeSyndrome v_ways v_waysKept v_trace v_comesA v_comesB   x1 r20 ((x2 - 1) - x3) n r21 hc_r21) (cwV 3 hts gX12_byteA_X12_passed rfl rfl rfl ⟨rfl, hd_X12_passed⟩ ⟨Nat.le_of_ble_eq_true rfl, Nat.le_of_ble_eq_true rfl⟩) ⟨pre_blind, va_recv hK.1 hP (ci := 10) (q0 := 0) rfl rfl, pre_w hK RO.nil hP hD (va_all hD hS hA)⟩ rfl rfl hl.1 rfl (lv_room (Nat.le_of_ble_eq_true rfl)) dX12_byteA_116 ⟨Nat.zero_le _, Nat.zero_le _⟩) hS (va_all hD hS hA) (fun H locs hP hD hS => ?_)
    have hP : va_P G vwCl (ww_M q cs v_told v_tell v_sums v_kindOf v_modOf v_bitsOf v_turnOf v_polyOf v_beginOf v_finishOf v_isLow v_weightsOf v_weight v_cell v_size v_row v_keptSize v_keptBefore v_keptAfter v_placeA v_placeB v_turned v_turnedMany v_syndromes v_lightest v_freeMany v_freePlace v_freeSyndrome v_ways v_waysKept v_trace v_comesA v_comesB) H := hP
    have hD : va_D A (ww_M q cs v_told v_tell v_sums v_kindOf v_modOf v_bitsOf v_turnOf v_polyOf v_beginOf v_finishOf v_isLow v_weightsOf v_weight v_cell v_size v_row v_keptSize v_keptBefore v_keptAfter v_placeA v_placeB v_turned v_turnedMany v_syndromes v_lightest v_freeMany v_freePlace v_freeSyndrome v_ways v_waysKept v_trace v_comesA v_comesB) := hD
    have hq := Option.some.inj hm
    subst hq; subst hQ
    exact k_lret hx hb hr hlocks hP hD hS rfl dX12_byteA_119
  have hm := i_f b16 hm
  have b2 : ¬ ((v_kindOf x1.toNatClampNeg)).toInt = 2 := fun e9 => ne_ti b2 (e9.trans (by decide))
  have b6 : ¬ ((v_kindOf x1.toNatClampNeg)).toInt = 3 := fun e9 => ne_ti b6 (e9.trans (by decide))
  have b10 : ¬ ((v_kindOf x1.toNatClampNeg)).toInt = 4 := fun e9 => ne_ti b10 (e9.trans (by decide))
  have b16 : ¬ ((v_kindOf x1.toNatClampNeg)).toInt = 5 := fun e9 => ne_ti b16 (e9.trans (by decide))
  refine lv_tableOut (tgt := 120) hx hb dX12_byteA_6 (by omega) (by decide) ?_
  refine lv_iload hx hb dX12_byteA_120 (lv_at hl 4 rfl) ?_
  refine lv_i2l (v := x4.toInt64) hx hb dX12_byteA_122 rfl ?_
  have hq := Option.some.inj hm
  subst hq; subst hQ
  exact k_lret hx hb hr hlocks hP hD hS rfl dX12_byteA_123

theorem hd_X12_byteB : yX12_byteB.cls ≠ "java/lang/invoke/MethodHandle" ∧ yX12_byteB.cls ≠ "java/lang/invoke/VarHandle" ∧ (parseMethodDescriptor yX12_byteB.desc).map (fun d => d.parameters.length) = some 4 := by decide +kernel

def M_X12_byteB (x1 : Int32) (x2 : Int32) (x3 : Int32) (x4 : Int32) (v_kindOf : (Nat → Int32)) : Option Int64 :=
  if x1 < 0 ∨ 16 ≤ x1.toNatClampNeg then none else if (v_kindOf x1.toNatClampNeg) = 1 then (some (((x2 - x3).toInt64) * x4.toInt64)) else (some 0)

abbrev rmX12_byteB : Room := { frames := 0, cells := 0, slots := 0, locals := 0 }
set_option maxHeartbeats 4000000 in
set_option maxRecDepth 100000 in
theorem c_X12_byteB (l : Launch) (G : va_G) (cs : CS) (q : Nat → Nat) (sz : Nat) (v_told : Int32) (v_tell : (Nat → Int32)) (v_sums : Int32) (v_kindOf : (Nat → Int32)) (v_modOf : (Nat → Int32)) (v_bitsOf : (Nat → Int32)) (v_turnOf : (Nat → Int32)) (v_polyOf : (Nat → Int64)) (v_beginOf : (Nat → Int64)) (v_finishOf : (Nat → Int64)) (v_isLow : (Nat → Int32)) (v_weightsOf : (Nat → Int32)) (v_weight : (Nat → Int32)) (v_cell : (Nat → Int32)) (v_size : Int32) (v_row : (Nat → Int32)) (v_keptSize : Int32) (v_keptBefore : (Nat → Int32)) (v_keptAfter : (Nat → Int32)) (v_placeA : (Nat → Int64)) (v_placeB : (Nat → Int64)) (v_turned : (Nat → Int32)) (v_turnedMany : Int32) (v_syndromes : (Nat → Int64)) (v_lightest : (Nat → Int32)) (v_freeMany : Int32) (v_freePlace : (Nat → Int32)) (v_freeSyndrome : (Nat → Int64)) (v_ways : (Nat → Int32)) (v_waysKept : Int32) (v_trace : (Nat → Int32)) (v_comesA : Int64) (v_comesB : Int64)   (x1 : Int32) (x2 : Int32) (x3 : Int32) (x4 : Int32) (res : Int64) (hm : M_X12_byteB x1 x2 x3 x4 v_kindOf = some res) : Met l yX12_byteB wsX12_byteB rmX12_byteB (va_Pc [.ref (q 0), .int x1, .int x2, .int x3, .int x4] (PreW G cs sz (ww_M q cs v_told v_tell v_sums v_kindOf v_modOf v_bitsOf v_turnOf v_polyOf v_beginOf v_finishOf v_isLow v_weightsOf v_weight v_cell v_size v_row v_keptSize v_keptBefore v_keptAfter v_placeA v_placeB v_turned v_turnedMany v_syndromes v_lightest v_freeMany v_freePlace v_freeSyndrome v_ways v_waysKept v_trace v_comesA v_comesB) RN)) (QL G res (ww_M q cs v_told v_tell v_sums v_kindOf v_modOf v_bitsOf v_turnOf v_polyOf v_beginOf v_finishOf v_isLow v_weightsOf v_weight v_cell v_size v_row v_keptSize v_keptBefore v_keptAfter v_placeA v_placeB v_turned v_turnedMany v_syndromes v_lightest v_freeMany v_freePlace v_freeSyndrome v_ways v_waysKept v_trace v_comesA v_comesB) (va_A (ww_M q cs v_told v_tell v_sums v_kindOf v_modOf v_bitsOf v_turnOf v_polyOf v_beginOf v_finishOf v_isLow v_weightsOf v_weight v_cell v_size v_row v_keptSize v_keptBefore v_keptAfter v_placeA v_placeB v_turned v_turnedMany v_syndromes v_lightest v_freeMany v_freePlace v_freeSyndrome v_ways v_waysKept v_trace v_comesA v_comesB) sz)) 0 0 (va_A (ww_M q cs v_told v_tell v_sums v_kindOf v_modOf v_bitsOf v_turnOf v_polyOf v_beginOf v_finishOf v_isLow v_weightsOf v_weight v_cell v_size v_row v_keptSize v_keptBefore v_keptAfter v_placeA v_placeB v_turned v_turnedMany v_syndromes v_lightest v_freeMany v_freePlace v_freeSyndrome v_ways v_waysKept v_trace v_comesA v_comesB) sz) := by
  refine k_enter (Qf := fun A => QL G res (ww_M q cs v_told v_tell v_sums v_kindOf v_modOf v_bitsOf v_turnOf v_polyOf v_beginOf v_finishOf v_isLow v_weightsOf v_weight v_cell v_size v_row v_keptSize v_keptBefore v_keptAfter v_placeA v_placeB v_turned v_turnedMany v_syndromes v_lightest v_freeMany v_freePlace v_freeSyndrome v_ways v_waysKept v_trace v_comesA v_comesB) A) (cc := cX12_byteB) (maxL := 5) (ret := (some .long)) (plainFor_of_name (by decide)) rfl (Nat.le_of_ble_eq_true rfl) ?_
  intro p e s m args below meth c A Q ls H locs hx hb hr hml hown hts hlocks hname hK hA hRo hP hD hS hQ hl
  have hl : lv_has ls 5 [(0, .ref (q 0)), (1, .int x1), (2, .int x2), (3, .int x3), (4, .int x4)] := hl
  have wd1 := hts (.fieldLink RX12 13 "SumSmithModel" "kindOf" "[I") (List.mem_of_getElem? (i := 1) rfl)
  have hinX12 : ∀ w ∈ wsX120, w ∈ wsX12_byteB := fun w h => List.mem_cons_of_mem _ (List.mem_append_right _ h)
  unfold M_X12_byteB at hm
  refine lv_aload_n hx hb dX12_byteB_0 rfl (lv_at hl 0 rfl) ?_
  refine va_get (D := G) (ci := 10) (v := .ref (q 2)) (C := RX12) (T := TX12) (N := 33) hx hb hts hinX12 hown hK.1 hP 0 rfl rfl 3 (by decide) wd1 (fun _ h9 => h9) rfl dX12_byteB_1 ?_
  refine lv_iload_n hx hb dX12_byteB_4 rfl (lv_at hl 1 rfl) ?_
  obtain ⟨h1, hm⟩ := g_in hm
  refine va_iald hx hb hK.1 hP 2 0 rfl rfl h1 dX12_byteB_5 ?_
  refine lv_iconst (v := 1) hx hb dX12_byteB_6 (by decide) ?_
  refine lv_icmp_ne (tgt := 21) hx hb dX12_byteB_7 (by decide) (fun b2 => ?_) (fun b2 => ?_)
  · have hm := i_f b2 hm
    refine lv_lconst (v := 0) hx hb dX12_byteB_21 (by decide) ?_
    have hq := Option.some.inj hm
    subst hq; subst hQ
    exact k_lret hx hb hr hlocks hP hD hS rfl dX12_byteB_22
  · have hm := i_t b2 hm
    refine lv_iload_n hx hb dX12_byteB_10 rfl (lv_at hl 2 rfl) ?_
    refine lv_iload_n hx hb dX12_byteB_11 rfl (lv_at hl 3 rfl) ?_
    refine lv_isub hx hb dX12_byteB_12 ?_
    refine lv_i2l (v := (x2 - x3).toInt64) hx hb dX12_byteB_13 rfl ?_
    refine lv_iload hx hb dX12_byteB_14 (lv_at hl 4 rfl) ?_
    refine lv_i2l (v := x4.toInt64) hx hb dX12_byteB_16 rfl ?_
    refine lv_lmul hx hb dX12_byteB_17 ?_
    refine lv_goto (tgt := 22) hx hb dX12_byteB_18 (by decide) ?_
    have hq := Option.some.inj hm
    subst hq; subst hQ
    exact k_lret hx hb hr hlocks hP hD hS rfl dX12_byteB_22

theorem hd_X12_findPlaces : yX12_findPlaces.cls ≠ "java/lang/invoke/MethodHandle" ∧ yX12_findPlaces.cls ≠ "java/lang/invoke/VarHandle" ∧ (parseMethodDescriptor yX12_findPlaces.desc).map (fun d => d.parameters.length) = some 2 := by decide +kernel

def M_X12_findPlaces_b2 (n : Nat) (x1 : Int32) (x2 : Int32) (v_kindOf : (Nat → Int32)) (v_bitsOf : (Nat → Int32)) (v_turnOf : (Nat → Int32)) (v_polyOf : (Nat → Int64)) (v_isLow : (Nat → Int32)) (v_weightsOf : (Nat → Int32)) (v_weight : (Nat → Int32)) (x3 : Int32) (v_placeA : (Nat → Int64)) (v_placeB : (Nat → Int64)) : Option ((Int32 × (Nat → Int64) × (Nat → Int64)) ⊕ ((Nat → Int64) × (Nat → Int64))) :=
  if (8 * x2) ≤ x3 then (some (.inr (v_placeA, v_placeB))) else ((M_X12_byteA n x1 x2 (x3 / 8) ((128 : Int32) >>> ((x3 - x3 / 8 * 8) &&& 31)) v_kindOf v_bitsOf v_turnOf v_polyOf v_isLow v_weightsOf v_weight).bind fun r2 => if x3 < 0 ∨ 64 ≤ x3.toNatClampNeg then none else (M_X12_byteB x1 x2 (x3 / 8) ((128 : Int32) >>> ((x3 - x3 / 8 * 8) &&& 31)) v_kindOf).bind fun r4 => if x3 < 0 ∨ 64 ≤ x3.toNatClampNeg then none else some (.inl (x3 + 1, (vp_updL v_placeA x3.toNatClampNeg r2), (vp_updL v_placeB x3.toNatClampNeg r4))))

def M_X12_findPlaces (n : Nat) (x1 : Int32) (x2 : Int32) (v_kindOf : (Nat → Int32)) (v_bitsOf : (Nat → Int32)) (v_turnOf : (Nat → Int32)) (v_polyOf : (Nat → Int64)) (v_isLow : (Nat → Int32)) (v_weightsOf : (Nat → Int32)) (v_weight : (Nat → Int32)) (v_placeA : (Nat → Int64)) (v_placeB : (Nat → Int64)) : Option ((Nat → Int64) × (Nat → Int64)) :=
  (lp (fun x : (Int32 × (Nat → Int64) × (Nat → Int64)) => M_X12_findPlaces_b2 n x1 x2 v_kindOf v_bitsOf v_turnOf v_polyOf v_isLow v_weightsOf v_weight x.1 x.2.1 x.2.2) n ((0 : Int32), v_placeA, v_placeB)).bind fun o6 => some (o6.1, o6.2)

abbrev rmX12_findPlaces : Room := { frames := 3, cells := 0, slots := 0, locals := 83 }
set_option maxHeartbeats 4000000 in
set_option maxRecDepth 100000 in
theorem c_X12_findPlaces (l : Launch) (G : va_G) (cs : CS) (q : Nat → Nat) (sz : Nat) (v_told : Int32) (v_tell : (Nat → Int32)) (v_sums : Int32) (v_kindOf : (Nat → Int32)) (v_modOf : (Nat → Int32)) (v_bitsOf : (Nat → Int32)) (v_turnOf : (Nat → Int32)) (v_polyOf : (Nat → Int64)) (v_beginOf : (Nat → Int64)) (v_finishOf : (Nat → Int64)) (v_isLow : (Nat → Int32)) (v_weightsOf : (Nat → Int32)) (v_weight : (Nat → Int32)) (v_cell : (Nat → Int32)) (v_size : Int32) (v_row : (Nat → Int32)) (v_keptSize : Int32) (v_keptBefore : (Nat → Int32)) (v_keptAfter : (Nat → Int32)) (v_placeA : (Nat → Int64)) (v_placeB : (Nat → Int64)) (v_turned : (Nat → Int32)) (v_turnedMany : Int32) (v_syndromes : (Nat → Int64)) (v_lightest : (Nat → Int32)) (v_freeMany : Int32) (v_freePlace : (Nat → Int32)) (v_freeSyndrome : (Nat → Int64)) (v_ways : (Nat → Int32)) (v_waysKept : Int32) (v_trace : (Nat → Int32)) (v_comesA : Int64) (v_comesB : Int64)   (x1 : Int32) (x2 : Int32) (n : Nat) (res : ((Nat → Int64) × (Nat → Int64))) (hm : M_X12_findPlaces n x1 x2 v_kindOf v_bitsOf v_turnOf v_polyOf v_isLow v_weightsOf v_weight v_placeA v_placeB = some res) : Met l yX12_findPlaces wsX12_findPlaces rmX12_findPlaces (va_Pc [.ref (q 0), .int x1, .int x2] (PreW G cs sz (ww_M q cs v_told v_tell v_sums v_kindOf v_modOf v_bitsOf v_turnOf v_polyOf v_beginOf v_finishOf v_isLow v_weightsOf v_weight v_cell v_size v_row v_keptSize v_keptBefore v_keptAfter v_placeA v_placeB v_turned v_turnedMany v_syndromes v_lightest v_freeMany v_freePlace v_freeSyndrome v_ways v_waysKept v_trace v_comesA v_comesB) RN)) (QV G (ww_M q cs v_told v_tell v_sums v_kindOf v_modOf v_bitsOf v_turnOf v_polyOf v_beginOf v_finishOf v_isLow v_weightsOf v_weight v_cell v_size v_row v_keptSize v_keptBefore v_keptAfter res.1 res.2 v_turned v_turnedMany v_syndromes v_lightest v_freeMany v_freePlace v_freeSyndrome v_ways v_waysKept v_trace v_comesA v_comesB) (va_A (ww_M q cs v_told v_tell v_sums v_kindOf v_modOf v_bitsOf v_turnOf v_polyOf v_beginOf v_finishOf v_isLow v_weightsOf v_weight v_cell v_size v_row v_keptSize v_keptBefore v_keptAfter v_placeA v_placeB v_turned v_turnedMany v_syndromes v_lightest v_freeMany v_freePlace v_freeSyndrome v_ways v_waysKept v_trace v_comesA v_comesB) sz)) 0 0 (va_A (ww_M q cs v_told v_tell v_sums v_kindOf v_modOf v_bitsOf v_turnOf v_polyOf v_beginOf v_finishOf v_isLow v_weightsOf v_weight v_cell v_size v_row v_keptSize v_keptBefore v_keptAfter v_placeA v_placeB v_turned v_turnedMany v_syndromes v_lightest v_freeMany v_freePlace v_freeSyndrome v_ways v_waysKept v_trace v_comesA v_comesB) sz) := by
  refine k_enter (Qf := fun A => QV G (ww_M q cs v_told v_tell v_sums v_kindOf v_modOf v_bitsOf v_turnOf v_polyOf v_beginOf v_finishOf v_isLow v_weightsOf v_weight v_cell v_size v_row v_keptSize v_keptBefore v_keptAfter res.1 res.2 v_turned v_turnedMany v_syndromes v_lightest v_freeMany v_freePlace v_freeSyndrome v_ways v_waysKept v_trace v_comesA v_comesB) A) (cc := cX12_findPlaces) (maxL := 4) (ret := none) (plainFor_of_name (by decide)) rfl (Nat.le_of_ble_eq_true rfl) ?_
  intro p e s m args below meth c A Q ls H locs hx hb hr hml hown hts hlocks hname hK hA hRo hP hD hS hQ hl
  have hl : lv_has ls 4 [(0, .ref (q 0)), (1, .int x1), (2, .int x2)] := hl
  have wd1 := hts (.fieldLink RX12 57 "SumSmithModel" "placeA" "[J") (List.mem_of_getElem? (i := 1) rfl)
  have wd2 := hts (.fieldLink RX12 60 "SumSmithModel" "placeB" "[J") (List.mem_of_getElem? (i := 2) rfl)
  have hinX12 : ∀ w ∈ wsX120, w ∈ wsX12_findPlaces := fun w h => List.mem_cons_of_mem _ (List.mem_append_right _ h)
  have L2 : ∀ (x1 : Int32) (x2 : Int32) (x3 : Int32) (v_placeA : (Nat → Int64)) (v_placeB : (Nat → Int64)) (out : ((Nat → Int64) × (Nat → Int64))), lp (fun x : (Int32 × (Nat → Int64) × (Nat → Int64)) => M_X12_findPlaces_b2 n x1 x2 v_kindOf v_bitsOf v_turnOf v_polyOf v_isLow v_weightsOf v_weight x.1 x.2.1 x.2.2) n (x3, v_placeA, v_placeB) = some out → (∀ (o : ((Nat → Int64) × (Nat → Int64))), out = o → ∀ (H : Heap) (locs : List Loc), va_P G vwCl (ww_M q cs v_told v_tell v_sums v_kindOf v_modOf v_bitsOf v_turnOf v_polyOf v_beginOf v_finishOf v_isLow v_weightsOf v_weight v_cell v_size v_row v_keptSize v_keptBefore v_keptAfter o.1 o.2 v_turned v_turnedMany v_syndromes v_lightest v_freeMany v_freePlace v_freeSyndrome v_ways v_waysKept v_trace v_comesA v_comesB) H → va_D A (ww_M q cs v_told v_tell v_sums v_kindOf v_modOf v_bitsOf v_turnOf v_polyOf v_beginOf v_finishOf v_isLow v_weightsOf v_weight v_cell v_size v_row v_keptSize v_keptBefore v_keptAfter o.1 o.2 v_turned v_turnedMany v_syndromes v_lightest v_freeMany v_freePlace v_freeSyndrome v_ways v_waysKept v_trace v_comesA v_comesB) → va_S A s.heap H locs → ∀ (ls : Array Slot), lv_has ls 4 [] → W p l e rmX12_findPlaces s m args below meth c H locs 0 0 Q (F0 m 64 ls [])) → ∀ (H : Heap) (locs : List Loc), va_P G vwCl (ww_M q cs v_told v_tell v_sums v_kindOf v_modOf v_bitsOf v_turnOf v_polyOf v_beginOf v_finishOf v_isLow v_weightsOf v_weight v_cell v_size v_row v_keptSize v_keptBefore v_keptAfter v_placeA v_placeB v_turned v_turnedMany v_syndromes v_lightest v_freeMany v_freePlace v_freeSyndrome v_ways v_waysKept v_trace v_comesA v_comesB) H → va_D A (ww_M q cs v_told v_tell v_sums v_kindOf v_modOf v_bitsOf v_turnOf v_polyOf v_beginOf v_finishOf v_isLow v_weightsOf v_weight v_cell v_size v_row v_keptSize v_keptBefore v_keptAfter v_placeA v_placeB v_turned v_turnedMany v_syndromes v_lightest v_freeMany v_freePlace v_freeSyndrome v_ways v_waysKept v_trace v_comesA v_comesB) → va_S A s.heap H locs → ∀ (ls : Array Slot), lv_has ls 4 [(0, .ref (q 0)), (1, .int x1), (2, .int x2), (3, .int x3)] → W p l e rmX12_findPlaces s m args below meth c H locs 0 0 Q (F0 m 2 ls []) := by
    intro x1 x2 x3 v_placeA v_placeB out hlp hX
    refine lp_ind (fun x => ∀ (H : Heap) (locs : List Loc), va_P G vwCl (ww_M q cs v_told v_tell v_sums v_kindOf v_modOf v_bitsOf v_turnOf v_polyOf v_beginOf v_finishOf v_isLow v_weightsOf v_weight v_cell v_size v_row v_keptSize v_keptBefore v_keptAfter x.2.1 x.2.2 v_turned v_turnedMany v_syndromes v_lightest v_freeMany v_freePlace v_freeSyndrome v_ways v_waysKept v_trace v_comesA v_comesB) H → va_D A (ww_M q cs v_told v_tell v_sums v_kindOf v_modOf v_bitsOf v_turnOf v_polyOf v_beginOf v_finishOf v_isLow v_weightsOf v_weight v_cell v_size v_row v_keptSize v_keptBefore v_keptAfter x.2.1 x.2.2 v_turned v_turnedMany v_syndromes v_lightest v_freeMany v_freePlace v_freeSyndrome v_ways v_waysKept v_trace v_comesA v_comesB) → va_S A s.heap H locs → ∀ (ls : Array Slot), lv_has ls 4 [(0, .ref (q 0)), (1, .int x1), (2, .int x2), (3, .int x.1)] → W p l e rmX12_findPlaces s m args below meth c H locs 0 0 Q (F0 m 2 ls [])) ?_ n (x3, v_placeA, v_placeB) hlp
    clear hlp hP hD hS hl
    rintro ⟨x3, v_placeA, v_placeB⟩ ob hm hst H locs hP hD hS ls hl
    have hm : M_X12_findPlaces_b2 n x1 x2 v_kindOf v_bitsOf v_turnOf v_polyOf v_isLow v_weightsOf v_weight x3 v_placeA v_placeB = some ob := hm
    have hl : lv_has ls 4 [(0, .ref (q 0)), (1, .int x1), (2, .int x2), (3, .int x3)] := hl
    have hP : va_P G vwCl (ww_M q cs v_told v_tell v_sums v_kindOf v_modOf v_bitsOf v_turnOf v_polyOf v_beginOf v_finishOf v_isLow v_weightsOf v_weight v_cell v_size v_row v_keptSize v_keptBefore v_keptAfter v_placeA v_placeB v_turned v_turnedMany v_syndromes v_lightest v_freeMany v_freePlace v_freeSyndrome v_ways v_waysKept v_trace v_comesA v_comesB) H := hP
    have hD : va_D A (ww_M q cs v_told v_tell v_sums v_kindOf v_modOf v_bitsOf v_turnOf v_polyOf v_beginOf v_finishOf v_isLow v_weightsOf v_weight v_cell v_size v_row v_keptSize v_keptBefore v_keptAfter v_placeA v_placeB v_turned v_turnedMany v_syndromes v_lightest v_freeMany v_freePlace v_freeSyndrome v_ways v_waysKept v_trace v_comesA v_comesB) := hD
    unfold M_X12_findPlaces_b2 at hm
    refine lv_iload_n hx hb dX12_findPlaces_2 rfl (lv_at hl 3 rfl) ?_
    refine lv_bipush (v := 8) hx hb dX12_findPlaces_3 (by decide) ?_
    refine lv_iload_n hx hb dX12_findPlaces_5 rfl (lv_at hl 2 rfl) ?_
    refine lv_imul hx hb dX12_findPlaces_6 ?_
    refine lv_icmp_ge (tgt := 64) hx hb dX12_findPlaces_7 (by decide) (fun b1 => ?_) (fun b1 => ?_)
    · have hm := i_t b1 hm
      exact hX _ (st_exit hm hst) H locs hP hD hS ls (lv_sub hl [] rfl)
    · have hm := i_f b1 hm
      refine lv_aload_n hx hb dX12_findPlaces_10 rfl (lv_at hl 0 rfl) ?_
      refine va_get (D := G) (ci := 10) (v := .ref (q 16)) (C := RX12) (T := TX12) (N := 33) hx hb hts hinX12 hown hK.1 hP 0 rfl rfl 19 (by decide) wd1 (fun _ h9 => h9) rfl dX12_findPlaces_11 ?_
      refine lv_iload_n hx hb dX12_findPlaces_14 rfl (lv_at hl 3 rfl) ?_
      refine lv_aload_n hx hb dX12_findPlaces_15 rfl (lv_at hl 0 rfl) ?_
      refine lv_iload_n hx hb dX12_findPlaces_16 rfl (lv_at hl 1 rfl) ?_
      refine lv_iload_n hx hb dX12_findPlaces_17 rfl (lv_at hl 2 rfl) ?_
      refine lv_iload_n hx hb dX12_findPlaces_18 rfl (lv_at hl 3 rfl) ?_
      refine lv_bipush (v := 8) hx hb dX12_findPlaces_19 (by decide) ?_
      refine lv_idiv hx hb dX12_findPlaces_21 (by decide) ?_
      refine lv_sipush (v := 128) hx hb dX12_findPlaces_22 (by decide) ?_
      refine lv_iload_n hx hb dX12_findPlaces_25 rfl (lv_at hl 3 rfl) ?_
      refine lv_bipush (v := 8) hx hb dX12_findPlaces_26 (by decide) ?_
      refine lv_irem hx hb dX12_findPlaces_28 (by decide) ?_
      refine lv_ishr hx hb dX12_findPlaces_29 ?_
      obtain ⟨r2, hc_r2, hm⟩ := bs hm
      refine k_calll (va_runV (As := [.int x1, .int x2, .int (x3 / 8), .int ((128 : Int32) >>> ((x3 - x3 / 8 * 8) &&& 31))]) (rest := [.int x3, .ref (q 16)]) ⟨hx, hb, hml, hown, hts⟩ (c_X12_byteA l G cs q H.size v_told v_tell v_sums v_kindOf v_modOf v_bitsOf v_turnOf v_polyOf v_beginOf v_finishOf v_isLow v_weightsOf v_weight v_cell v_size v_row v_keptSize v_keptBefore v_keptAfter v_placeA v_placeB v_turned v_turnedMany v_syndromes v_lightest v_freeMany v_freePlace v_freeSyndrome v_ways v_waysKept v_trace v_comesA v_comesB   x1 x2 (x3 / 8) ((128 : Int32) >>> ((x3 - x3 / 8 * 8) &&& 31)) n r2 hc_r2) (cwV 4 hts gX12_findPlaces_X12_byteA rfl rfl rfl ⟨rfl, hd_X12_byteA⟩ ⟨Nat.le_of_ble_eq_true rfl, Nat.le_of_ble_eq_true rfl⟩) ⟨pre_blind, va_recv hK.1 hP (ci := 10) (q0 := 0) rfl rfl, pre_w hK RO.nil hP hD (va_all hD hS hA)⟩ rfl rfl hl.1 rfl (lv_room (Nat.le_of_ble_eq_true rfl)) dX12_findPlaces_30 ⟨Nat.zero_le _, Nat.zero_le _⟩) hS (va_all hD hS hA) (fun H locs hP hD hS => ?_)
      have hP : va_P G vwCl (ww_M q cs v_told v_tell v_sums v_kindOf v_modOf v_bitsOf v_turnOf v_polyOf v_beginOf v_finishOf v_isLow v_weightsOf v_weight v_cell v_size v_row v_keptSize v_keptBefore v_keptAfter v_placeA v_placeB v_turned v_turnedMany v_syndromes v_lightest v_freeMany v_freePlace v_freeSyndrome v_ways v_waysKept v_trace v_comesA v_comesB) H := hP
      have hD : va_D A (ww_M q cs v_told v_tell v_sums v_kindOf v_modOf v_bitsOf v_turnOf v_polyOf v_beginOf v_finishOf v_isLow v_weightsOf v_weight v_cell v_size v_row v_keptSize v_keptBefore v_keptAfter v_placeA v_placeB v_turned v_turnedMany v_syndromes v_lightest v_freeMany v_freePlace v_freeSyndrome v_ways v_waysKept v_trace v_comesA v_comesB) := hD
      obtain ⟨h3, hm⟩ := g_in hm
      refine va_last hx hb hK.1 hP hD hS 16 1 rfl rfl h3 dX12_findPlaces_33 (fun H locs hP hD hS => ?_)
      have hP : va_P G vwCl (ww_M q cs v_told v_tell v_sums v_kindOf v_modOf v_bitsOf v_turnOf v_polyOf v_beginOf v_finishOf v_isLow v_weightsOf v_weight v_cell v_size v_row v_keptSize v_keptBefore v_keptAfter (vp_updL v_placeA x3.toNatClampNeg r2) v_placeB v_turned v_turnedMany v_syndromes v_lightest v_freeMany v_freePlace v_freeSyndrome v_ways v_waysKept v_trace v_comesA v_comesB) H := hP
      have hD : va_D A (ww_M q cs v_told v_tell v_sums v_kindOf v_modOf v_bitsOf v_turnOf v_polyOf v_beginOf v_finishOf v_isLow v_weightsOf v_weight v_cell v_size v_row v_keptSize v_keptBefore v_keptAfter (vp_updL v_placeA x3.toNatClampNeg r2) v_placeB v_turned v_turnedMany v_syndromes v_lightest v_freeMany v_freePlace v_freeSyndrome v_ways v_waysKept v_trace v_comesA v_comesB) := hD
      refine lv_aload_n hx hb dX12_findPlaces_34 rfl (lv_at hl 0 rfl) ?_
      refine va_get (D := G) (ci := 10) (v := .ref (q 17)) (C := RX12) (T := TX12) (N := 33) hx hb hts hinX12 hown hK.1 hP 0 rfl rfl 20 (by decide) wd2 (fun _ h9 => h9) rfl dX12_findPlaces_35 ?_
      refine lv_iload_n hx hb dX12_findPlaces_38 rfl (lv_at hl 3 rfl) ?_
      refine lv_aload_n hx hb dX12_findPlaces_39 rfl (lv_at hl 0 rfl) ?_
      refine lv_iload_n hx hb dX12_findPlaces_40 rfl (lv_at hl 1 rfl) ?_
      refine lv_iload_n hx hb dX12_findPlaces_41 rfl (lv_at hl 2 rfl) ?_
      refine lv_iload_n hx hb dX12_findPlaces_42 rfl (lv_at hl 3 rfl) ?_
      refine lv_bipush (v := 8) hx hb dX12_findPlaces_43 (by decide) ?_
      refine lv_idiv hx hb dX12_findPlaces_45 (by decide) ?_
      refine lv_sipush (v := 128) hx hb dX12_findPlaces_46 (by decide) ?_
      refine lv_iload_n hx hb dX12_findPlaces_49 rfl (lv_at hl 3 rfl) ?_
      refine lv_bipush (v := 8) hx hb dX12_findPlaces_50 (by decide) ?_
      refine lv_irem hx hb dX12_findPlaces_52 (by decide) ?_
      refine lv_ishr hx hb dX12_findPlaces_53 ?_
      obtain ⟨r4, hc_r4, hm⟩ := bs hm
      refine k_calll (va_runV (As := [.int x1, .int x2, .int (x3 / 8), .int ((128 : Int32) >>> ((x3 - x3 / 8 * 8) &&& 31))]) (rest := [.int x3, .ref (q 17)]) ⟨hx, hb, hml, hown, hts⟩ (c_X12_byteB l G cs q H.size v_told v_tell v_sums v_kindOf v_modOf v_bitsOf v_turnOf v_polyOf v_beginOf v_finishOf v_isLow v_weightsOf v_weight v_cell v_size v_row v_keptSize v_keptBefore v_keptAfter (vp_updL v_placeA x3.toNatClampNeg r2) v_placeB v_turned v_turnedMany v_syndromes v_lightest v_freeMany v_freePlace v_freeSyndrome v_ways v_waysKept v_trace v_comesA v_comesB   x1 x2 (x3 / 8) ((128 : Int32) >>> ((x3 - x3 / 8 * 8) &&& 31)) r4 hc_r4) (cwV 4 hts gX12_findPlaces_X12_byteB rfl rfl rfl ⟨rfl, hd_X12_byteB⟩ ⟨Nat.le_of_ble_eq_true rfl, Nat.le_of_ble_eq_true rfl⟩) ⟨pre_blind, va_recv hK.1 hP (ci := 10) (q0 := 0) rfl rfl, pre_w hK RO.nil hP hD (va_all hD hS hA)⟩ rfl rfl hl.1 rfl (lv_room (Nat.le_of_ble_eq_true rfl)) dX12_findPlaces_54 ⟨Nat.zero_le _, Nat.zero_le _⟩) hS (va_all hD hS hA) (fun H locs hP hD hS => ?_)
      have hP : va_P G vwCl (ww_M q cs v_told v_tell v_sums v_kindOf v_modOf v_bitsOf v_turnOf v_polyOf v_beginOf v_finishOf v_isLow v_weightsOf v_weight v_cell v_size v_row v_keptSize v_keptBefore v_keptAfter (vp_updL v_placeA x3.toNatClampNeg r2) v_placeB v_turned v_turnedMany v_syndromes v_lightest v_freeMany v_freePlace v_freeSyndrome v_ways v_waysKept v_trace v_comesA v_comesB) H := hP
      have hD : va_D A (ww_M q cs v_told v_tell v_sums v_kindOf v_modOf v_bitsOf v_turnOf v_polyOf v_beginOf v_finishOf v_isLow v_weightsOf v_weight v_cell v_size v_row v_keptSize v_keptBefore v_keptAfter (vp_updL v_placeA x3.toNatClampNeg r2) v_placeB v_turned v_turnedMany v_syndromes v_lightest v_freeMany v_freePlace v_freeSyndrome v_ways v_waysKept v_trace v_comesA v_comesB) := hD
      obtain ⟨h5, hm⟩ := g_in hm
      refine va_last hx hb hK.1 hP hD hS 17 1 rfl rfl h5 dX12_findPlaces_57 (fun H locs hP hD hS => ?_)
      have hP : va_P G vwCl (ww_M q cs v_told v_tell v_sums v_kindOf v_modOf v_bitsOf v_turnOf v_polyOf v_beginOf v_finishOf v_isLow v_weightsOf v_weight v_cell v_size v_row v_keptSize v_keptBefore v_keptAfter (vp_updL v_placeA x3.toNatClampNeg r2) (vp_updL v_placeB x3.toNatClampNeg r4) v_turned v_turnedMany v_syndromes v_lightest v_freeMany v_freePlace v_freeSyndrome v_ways v_waysKept v_trace v_comesA v_comesB) H := hP
      have hD : va_D A (ww_M q cs v_told v_tell v_sums v_kindOf v_modOf v_bitsOf v_turnOf v_polyOf v_beginOf v_finishOf v_isLow v_weightsOf v_weight v_cell v_size v_row v_keptSize v_keptBefore v_keptAfter (vp_updL v_placeA x3.toNatClampNeg r2) (vp_updL v_placeB x3.toNatClampNeg r4) v_turned v_turnedMany v_syndromes v_lightest v_freeMany v_freePlace v_freeSyndrome v_ways v_waysKept v_trace v_comesA v_comesB) := hD
      refine lv_iinc (v := x3 + 1) (lv' := [(3, .int (x3 + 1)), (0, .ref (q 0)), (1, .int x1), (2, .int x2)]) hx hb dX12_findPlaces_58 hl (k := 3) rfl rfl (by decide) rfl (fun ls hl => ?_)
      refine lv_goto (tgt := 2) hx hb dX12_findPlaces_61 (by decide) ?_
      exact st_next hm hst H locs hP hD hS ls (lv_sub hl [1, 2, 3, 0] rfl)
  unfold M_X12_findPlaces at hm
  refine lv_iconst (v := 0) hx hb dX12_findPlaces_0 (by decide) ?_
  refine lv_istore_n (lv' := [(3, .int 0), (0, .ref (q 0)), (1, .int x1), (2, .int x2)]) hx hb dX12_findPlaces_1 rfl hl (by decide) rfl (fun ls hl => ?_)
  obtain ⟨o6, hlp6, hm⟩ := bs hm
  refine L2 x1 x2 (0 : Int32) v_placeA v_placeB o6 hlp6 (fun oo ho => ?_) H locs hP hD hS ls (lv_sub hl [1, 2, 3, 0] rfl)
  subst ho
  intro H locs hP hD hS ls hl
  have hl : lv_has ls 4 [] := hl
  have hP : va_P G vwCl (ww_M q cs v_told v_tell v_sums v_kindOf v_modOf v_bitsOf v_turnOf v_polyOf v_beginOf v_finishOf v_isLow v_weightsOf v_weight v_cell v_size v_row v_keptSize v_keptBefore v_keptAfter o6.1 o6.2 v_turned v_turnedMany v_syndromes v_lightest v_freeMany v_freePlace v_freeSyndrome v_ways v_waysKept v_trace v_comesA v_comesB) H := hP
  have hD : va_D A (ww_M q cs v_told v_tell v_sums v_kindOf v_modOf v_bitsOf v_turnOf v_polyOf v_beginOf v_finishOf v_isLow v_weightsOf v_weight v_cell v_size v_row v_keptSize v_keptBefore v_keptAfter o6.1 o6.2 v_turned v_turnedMany v_syndromes v_lightest v_freeMany v_freePlace v_freeSyndrome v_ways v_waysKept v_trace v_comesA v_comesB) := hD
  have hq := Option.some.inj hm
  subst hq; subst hQ
  exact k_vret hx hb hr hlocks hP hD hS dX12_findPlaces_64

theorem hd_X12_turn : yX12_turn.cls ≠ "java/lang/invoke/MethodHandle" ∧ yX12_turn.cls ≠ "java/lang/invoke/VarHandle" ∧ (parseMethodDescriptor yX12_turn.desc).map (fun d => d.parameters.length) = some 3 := by decide +kernel

def M_X12_turn (x1 : Int32) (x2 : Int32) (x3 : Int32) (v_kindOf : (Nat → Int32)) (v_placeA : (Nat → Int64)) (v_placeB : (Nat → Int64)) (v_comesA : Int64) (v_comesB : Int64) : Option (Int64 × Int64) :=
  (M_X12_isXor x1 v_kindOf).bind fun r1 => if r1 = 0 then (if x3 = 0 then (if x2 < 0 ∨ 64 ≤ x2.toNatClampNeg then none else if x3 = 0 then (if x2 < 0 ∨ 64 ≤ x2.toNatClampNeg then none else some ((v_comesA + (v_placeA x2.toNatClampNeg)), (v_comesB + (v_placeB x2.toNatClampNeg)))) else (if x2 < 0 ∨ 64 ≤ x2.toNatClampNeg then none else some ((v_comesA + (v_placeA x2.toNatClampNeg)), (v_comesB - (v_placeB x2.toNatClampNeg))))) else (if x2 < 0 ∨ 64 ≤ x2.toNatClampNeg then none else if x3 = 0 then (if x2 < 0 ∨ 64 ≤ x2.toNatClampNeg then none else some ((v_comesA - (v_placeA x2.toNatClampNeg)), (v_comesB + (v_placeB x2.toNatClampNeg)))) else (if x2 < 0 ∨ 64 ≤ x2.toNatClampNeg then none else some ((v_comesA - (v_placeA x2.toNatClampNeg)), (v_comesB - (v_placeB x2.toNatClampNeg)))))) else (if x2 < 0 ∨ 64 ≤ x2.toNatClampNeg then none else some ((v_comesA ^^^ (v_placeA x2.toNatClampNeg)), v_comesB))

abbrev rmX12_turn : Room := { frames := 1, cells := 0, slots := 0, locals := 21 }
set_option maxHeartbeats 4000000 in
set_option maxRecDepth 100000 in
theorem c_X12_turn (l : Launch) (G : va_G) (cs : CS) (q : Nat → Nat) (sz : Nat) (v_told : Int32) (v_tell : (Nat → Int32)) (v_sums : Int32) (v_kindOf : (Nat → Int32)) (v_modOf : (Nat → Int32)) (v_bitsOf : (Nat → Int32)) (v_turnOf : (Nat → Int32)) (v_polyOf : (Nat → Int64)) (v_beginOf : (Nat → Int64)) (v_finishOf : (Nat → Int64)) (v_isLow : (Nat → Int32)) (v_weightsOf : (Nat → Int32)) (v_weight : (Nat → Int32)) (v_cell : (Nat → Int32)) (v_size : Int32) (v_row : (Nat → Int32)) (v_keptSize : Int32) (v_keptBefore : (Nat → Int32)) (v_keptAfter : (Nat → Int32)) (v_placeA : (Nat → Int64)) (v_placeB : (Nat → Int64)) (v_turned : (Nat → Int32)) (v_turnedMany : Int32) (v_syndromes : (Nat → Int64)) (v_lightest : (Nat → Int32)) (v_freeMany : Int32) (v_freePlace : (Nat → Int32)) (v_freeSyndrome : (Nat → Int64)) (v_ways : (Nat → Int32)) (v_waysKept : Int32) (v_trace : (Nat → Int32)) (v_comesA : Int64) (v_comesB : Int64)   (x1 : Int32) (x2 : Int32) (x3 : Int32) (res : (Int64 × Int64)) (hm : M_X12_turn x1 x2 x3 v_kindOf v_placeA v_placeB v_comesA v_comesB = some res) : Met l yX12_turn wsX12_turn rmX12_turn (va_Pc [.ref (q 0), .int x1, .int x2, .int x3] (PreW G cs sz (ww_M q cs v_told v_tell v_sums v_kindOf v_modOf v_bitsOf v_turnOf v_polyOf v_beginOf v_finishOf v_isLow v_weightsOf v_weight v_cell v_size v_row v_keptSize v_keptBefore v_keptAfter v_placeA v_placeB v_turned v_turnedMany v_syndromes v_lightest v_freeMany v_freePlace v_freeSyndrome v_ways v_waysKept v_trace v_comesA v_comesB) RN)) (QV G (ww_M q cs v_told v_tell v_sums v_kindOf v_modOf v_bitsOf v_turnOf v_polyOf v_beginOf v_finishOf v_isLow v_weightsOf v_weight v_cell v_size v_row v_keptSize v_keptBefore v_keptAfter v_placeA v_placeB v_turned v_turnedMany v_syndromes v_lightest v_freeMany v_freePlace v_freeSyndrome v_ways v_waysKept v_trace res.1 res.2) (va_A (ww_M q cs v_told v_tell v_sums v_kindOf v_modOf v_bitsOf v_turnOf v_polyOf v_beginOf v_finishOf v_isLow v_weightsOf v_weight v_cell v_size v_row v_keptSize v_keptBefore v_keptAfter v_placeA v_placeB v_turned v_turnedMany v_syndromes v_lightest v_freeMany v_freePlace v_freeSyndrome v_ways v_waysKept v_trace v_comesA v_comesB) sz)) 0 0 (va_A (ww_M q cs v_told v_tell v_sums v_kindOf v_modOf v_bitsOf v_turnOf v_polyOf v_beginOf v_finishOf v_isLow v_weightsOf v_weight v_cell v_size v_row v_keptSize v_keptBefore v_keptAfter v_placeA v_placeB v_turned v_turnedMany v_syndromes v_lightest v_freeMany v_freePlace v_freeSyndrome v_ways v_waysKept v_trace v_comesA v_comesB) sz) := by
  refine k_enter (Qf := fun A => QV G (ww_M q cs v_told v_tell v_sums v_kindOf v_modOf v_bitsOf v_turnOf v_polyOf v_beginOf v_finishOf v_isLow v_weightsOf v_weight v_cell v_size v_row v_keptSize v_keptBefore v_keptAfter v_placeA v_placeB v_turned v_turnedMany v_syndromes v_lightest v_freeMany v_freePlace v_freeSyndrome v_ways v_waysKept v_trace res.1 res.2) A) (cc := cX12_turn) (maxL := 4) (ret := none) (plainFor_of_name (by decide)) rfl (Nat.le_of_ble_eq_true rfl) ?_
  intro p e s m args below meth c A Q ls H locs hx hb hr hml hown hts hlocks hname hK hA hRo hP hD hS hQ hl
  have hl : lv_has ls 4 [(0, .ref (q 0)), (1, .int x1), (2, .int x2), (3, .int x3)] := hl
  have wd1 := hts (.fieldLink RX12 183 "SumSmithModel" "comesA" "J") (List.mem_of_getElem? (i := 1) rfl)
  have wd2 := hts (.fieldLink RX12 57 "SumSmithModel" "placeA" "[J") (List.mem_of_getElem? (i := 2) rfl)
  have wd3 := hts (.fieldLink RX12 187 "SumSmithModel" "comesB" "J") (List.mem_of_getElem? (i := 3) rfl)
  have wd4 := hts (.fieldLink RX12 60 "SumSmithModel" "placeB" "[J") (List.mem_of_getElem? (i := 4) rfl)
  have hinX12 : ∀ w ∈ wsX120, w ∈ wsX12_turn := fun w h => List.mem_cons_of_mem _ (List.mem_append_right _ h)
  unfold M_X12_turn at hm
  refine lv_aload_n hx hb dX12_turn_0 rfl (lv_at hl 0 rfl) ?_
  refine lv_iload_n hx hb dX12_turn_1 rfl (lv_at hl 1 rfl) ?_
  obtain ⟨r1, hc_r1, hm⟩ := bs hm
  refine k_calli (va_runV (As := [.int x1]) (rest := []) ⟨hx, hb, hml, hown, hts⟩ (c_X12_isXor l G cs q H.size v_told v_tell v_sums v_kindOf v_modOf v_bitsOf v_turnOf v_polyOf v_beginOf v_finishOf v_isLow v_weightsOf v_weight v_cell v_size v_row v_keptSize v_keptBefore v_keptAfter v_placeA v_placeB v_turned v_turnedMany v_syndromes v_lightest v_freeMany v_freePlace v_freeSyndrome v_ways v_waysKept v_trace v_comesA v_comesB   x1 r1 hc_r1) (cwV 1 hts gX12_turn_X12_isXor rfl rfl rfl ⟨rfl, hd_X12_isXor⟩ ⟨Nat.le_of_ble_eq_true rfl, Nat.le_of_ble_eq_true rfl⟩) ⟨pre_blind, va_recv hK.1 hP (ci := 10) (q0 := 0) rfl rfl, pre_w hK RO.nil hP hD (va_all hD hS hA)⟩ rfl rfl hl.1 rfl (lv_room (Nat.le_of_ble_eq_true rfl)) dX12_turn_2 ⟨Nat.zero_le _, Nat.zero_le _⟩) hS (va_all hD hS hA) (fun hE2 H locs hP hD hS => ?_)
  have hP : va_P G vwCl (ww_M q cs v_told v_tell v_sums v_kindOf v_modOf v_bitsOf v_turnOf v_polyOf v_beginOf v_finishOf v_isLow v_weightsOf v_weight v_cell v_size v_row v_keptSize v_keptBefore v_keptAfter v_placeA v_placeB v_turned v_turnedMany v_syndromes v_lightest v_freeMany v_freePlace v_freeSyndrome v_ways v_waysKept v_trace v_comesA v_comesB) H := hP
  have hD : va_D A (ww_M q cs v_told v_tell v_sums v_kindOf v_modOf v_bitsOf v_turnOf v_polyOf v_beginOf v_finishOf v_isLow v_weightsOf v_weight v_cell v_size v_row v_keptSize v_keptBefore v_keptAfter v_placeA v_placeB v_turned v_turnedMany v_syndromes v_lightest v_freeMany v_freePlace v_freeSyndrome v_ways v_waysKept v_trace v_comesA v_comesB) := hD
  refine lv_if_eq (tgt := 26) hx hb dX12_turn_5 (by decide) (fun b3 => ?_) (fun b3 => ?_)
  · have hm := i_t b3 hm
    refine lv_aload_n hx hb dX12_turn_26 rfl (lv_at hl 0 rfl) ?_
    refine lv_iload_n hx hb dX12_turn_27 rfl (lv_at hl 3 rfl) ?_
    refine lv_if_eq (tgt := 45) hx hb dX12_turn_28 (by decide) (fun b4 => ?_) (fun b4 => ?_)
    · have hm := i_t b4 hm
      refine lv_aload_n hx hb dX12_turn_45 rfl (lv_at hl 0 rfl) ?_
      refine va_get (D := G) (ci := 10) (v := .long v_comesA) (C := RX12) (T := TX12) (N := 33) hx hb hts hinX12 hown hK.1 hP 0 rfl rfl 31 (by decide) wd1 (fun _ h9 => h9) rfl dX12_turn_46 ?_
      refine lv_aload_n hx hb dX12_turn_49 rfl (lv_at hl 0 rfl) ?_
      refine va_get (D := G) (ci := 10) (v := .ref (q 16)) (C := RX12) (T := TX12) (N := 33) hx hb hts hinX12 hown hK.1 hP 0 rfl rfl 19 (by decide) wd2 (fun _ h9 => h9) rfl dX12_turn_50 ?_
      refine lv_iload_n hx hb dX12_turn_53 rfl (lv_at hl 2 rfl) ?_
      obtain ⟨h5, hm⟩ := g_in hm
      refine va_lald hx hb hK.1 hP 16 1 rfl rfl h5 dX12_turn_54 ?_
      refine lv_ladd hx hb dX12_turn_55 ?_
      refine va_put (D := G) (ci := 10) (v := .long (v_comesA + (v_placeA x2.toNatClampNeg))) (ty := .long) (C := RX12) (T := TX12) (N := 33) hx hb hts hinX12 tyX12 tyX12_ok nmX12 hown hK.1 hP hD hS 0 rfl rfl 31 (by decide) wd1 (fun _ h9 => h9) rfl (by decide +kernel) rfl rfl (Nat.le_of_ble_eq_true rfl) dX12_turn_56 (fun H locs hP hD hS => ?_)
      have hP : va_P G vwCl (ww_M q cs v_told v_tell v_sums v_kindOf v_modOf v_bitsOf v_turnOf v_polyOf v_beginOf v_finishOf v_isLow v_weightsOf v_weight v_cell v_size v_row v_keptSize v_keptBefore v_keptAfter v_placeA v_placeB v_turned v_turnedMany v_syndromes v_lightest v_freeMany v_freePlace v_freeSyndrome v_ways v_waysKept v_trace (v_comesA + (v_placeA x2.toNatClampNeg)) v_comesB) H := hP
      have hD : va_D A (ww_M q cs v_told v_tell v_sums v_kindOf v_modOf v_bitsOf v_turnOf v_polyOf v_beginOf v_finishOf v_isLow v_weightsOf v_weight v_cell v_size v_row v_keptSize v_keptBefore v_keptAfter v_placeA v_placeB v_turned v_turnedMany v_syndromes v_lightest v_freeMany v_freePlace v_freeSyndrome v_ways v_waysKept v_trace (v_comesA + (v_placeA x2.toNatClampNeg)) v_comesB) := hD
      refine lv_aload_n hx hb dX12_turn_59 rfl (lv_at hl 0 rfl) ?_
      refine lv_iload_n hx hb dX12_turn_60 rfl (lv_at hl 3 rfl) ?_
      refine lv_if_eq (tgt := 78) hx hb dX12_turn_61 (by decide) (fun b6 => ?_) (fun b6 => ?_)
      · have hm := i_t b6 hm
        refine lv_aload_n hx hb dX12_turn_78 rfl (lv_at hl 0 rfl) ?_
        refine va_get (D := G) (ci := 10) (v := .long v_comesB) (C := RX12) (T := TX12) (N := 33) hx hb hts hinX12 hown hK.1 hP 0 rfl rfl 32 (by decide) wd3 (fun _ h9 => h9) rfl dX12_turn_79 ?_
        refine lv_aload_n hx hb dX12_turn_82 rfl (lv_at hl 0 rfl) ?_
        refine va_get (D := G) (ci := 10) (v := .ref (q 17)) (C := RX12) (T := TX12) (N := 33) hx hb hts hinX12 hown hK.1 hP 0 rfl rfl 20 (by decide) wd4 (fun _ h9 => h9) rfl dX12_turn_83 ?_
        refine lv_iload_n hx hb dX12_turn_86 rfl (lv_at hl 2 rfl) ?_
        obtain ⟨h7, hm⟩ := g_in hm
        refine va_lald hx hb hK.1 hP 17 1 rfl rfl h7 dX12_turn_87 ?_
        refine lv_ladd hx hb dX12_turn_88 ?_
        refine va_put (D := G) (ci := 10) (v := .long (v_comesB + (v_placeB x2.toNatClampNeg))) (ty := .long) (C := RX12) (T := TX12) (N := 33) hx hb hts hinX12 tyX12 tyX12_ok nmX12 hown hK.1 hP hD hS 0 rfl rfl 32 (by decide) wd3 (fun _ h9 => h9) rfl (by decide +kernel) rfl rfl (Nat.le_of_ble_eq_true rfl) dX12_turn_89 (fun H locs hP hD hS => ?_)
        have hP : va_P G vwCl (ww_M q cs v_told v_tell v_sums v_kindOf v_modOf v_bitsOf v_turnOf v_polyOf v_beginOf v_finishOf v_isLow v_weightsOf v_weight v_cell v_size v_row v_keptSize v_keptBefore v_keptAfter v_placeA v_placeB v_turned v_turnedMany v_syndromes v_lightest v_freeMany v_freePlace v_freeSyndrome v_ways v_waysKept v_trace (v_comesA + (v_placeA x2.toNatClampNeg)) (v_comesB + (v_placeB x2.toNatClampNeg))) H := hP
        have hD : va_D A (ww_M q cs v_told v_tell v_sums v_kindOf v_modOf v_bitsOf v_turnOf v_polyOf v_beginOf v_finishOf v_isLow v_weightsOf v_weight v_cell v_size v_row v_keptSize v_keptBefore v_keptAfter v_placeA v_placeB v_turned v_turnedMany v_syndromes v_lightest v_freeMany v_freePlace v_freeSyndrome v_ways v_waysKept v_trace (v_comesA + (v_placeA x2.toNatClampNeg)) (v_comesB + (v_placeB x2.toNatClampNeg))) := hD
        have hq := Option.some.inj hm
        subst hq; subst hQ
        exact k_vret hx hb hr hlocks hP hD hS dX12_turn_92
      · have hm := i_f b6 hm
        refine lv_aload_n hx hb dX12_turn_64 rfl (lv_at hl 0 rfl) ?_
        refine va_get (D := G) (ci := 10) (v := .long v_comesB) (C := RX12) (T := TX12) (N := 33) hx hb hts hinX12 hown hK.1 hP 0 rfl rfl 32 (by decide) wd3 (fun _ h9 => h9) rfl dX12_turn_65 ?_
        refine lv_aload_n hx hb dX12_turn_68 rfl (lv_at hl 0 rfl) ?_
        refine va_get (D := G) (ci := 10) (v := .ref (q 17)) (C := RX12) (T := TX12) (N := 33) hx hb hts hinX12 hown hK.1 hP 0 rfl rfl 20 (by decide) wd4 (fun _ h9 => h9) rfl dX12_turn_69 ?_
        refine lv_iload_n hx hb dX12_turn_72 rfl (lv_at hl 2 rfl) ?_
        obtain ⟨h8, hm⟩ := g_in hm
        refine va_lald hx hb hK.1 hP 17 1 rfl rfl h8 dX12_turn_73 ?_
        refine lv_lsub hx hb dX12_turn_74 ?_
        refine lv_goto (tgt := 89) hx hb dX12_turn_75 (by decide) ?_
        refine va_put (D := G) (ci := 10) (v := .long (v_comesB - (v_placeB x2.toNatClampNeg))) (ty := .long) (C := RX12) (T := TX12) (N := 33) hx hb hts hinX12 tyX12 tyX12_ok nmX12 hown hK.1 hP hD hS 0 rfl rfl 32 (by decide) wd3 (fun _ h9 => h9) rfl (by decide +kernel) rfl rfl (Nat.le_of_ble_eq_true rfl) dX12_turn_89 (fun H locs hP hD hS => ?_)
        have hP : va_P G vwCl (ww_M q cs v_told v_tell v_sums v_kindOf v_modOf v_bitsOf v_turnOf v_polyOf v_beginOf v_finishOf v_isLow v_weightsOf v_weight v_cell v_size v_row v_keptSize v_keptBefore v_keptAfter v_placeA v_placeB v_turned v_turnedMany v_syndromes v_lightest v_freeMany v_freePlace v_freeSyndrome v_ways v_waysKept v_trace (v_comesA + (v_placeA x2.toNatClampNeg)) (v_comesB - (v_placeB x2.toNatClampNeg))) H := hP
        have hD : va_D A (ww_M q cs v_told v_tell v_sums v_kindOf v_modOf v_bitsOf v_turnOf v_polyOf v_beginOf v_finishOf v_isLow v_weightsOf v_weight v_cell v_size v_row v_keptSize v_keptBefore v_keptAfter v_placeA v_placeB v_turned v_turnedMany v_syndromes v_lightest v_freeMany v_freePlace v_freeSyndrome v_ways v_waysKept v_trace (v_comesA + (v_placeA x2.toNatClampNeg)) (v_comesB - (v_placeB x2.toNatClampNeg))) := hD
        have hq := Option.some.inj hm
        subst hq; subst hQ
        exact k_vret hx hb hr hlocks hP hD hS dX12_turn_92
    · have hm := i_f b4 hm
      refine lv_aload_n hx hb dX12_turn_31 rfl (lv_at hl 0 rfl) ?_
      refine va_get (D := G) (ci := 10) (v := .long v_comesA) (C := RX12) (T := TX12) (N := 33) hx hb hts hinX12 hown hK.1 hP 0 rfl rfl 31 (by decide) wd1 (fun _ h9 => h9) rfl dX12_turn_32 ?_
      refine lv_aload_n hx hb dX12_turn_35 rfl (lv_at hl 0 rfl) ?_
      refine va_get (D := G) (ci := 10) (v := .ref (q 16)) (C := RX12) (T := TX12) (N := 33) hx hb hts hinX12 hown hK.1 hP 0 rfl rfl 19 (by decide) wd2 (fun _ h9 => h9) rfl dX12_turn_36 ?_
      refine lv_iload_n hx hb dX12_turn_39 rfl (lv_at hl 2 rfl) ?_
      obtain ⟨h9, hm⟩ := g_in hm
      refine va_lald hx hb hK.1 hP 16 1 rfl rfl h9 dX12_turn_40 ?_
      refine lv_lsub hx hb dX12_turn_41 ?_
      refine lv_goto (tgt := 56) hx hb dX12_turn_42 (by decide) ?_
      refine va_put (D := G) (ci := 10) (v := .long (v_comesA - (v_placeA x2.toNatClampNeg))) (ty := .long) (C := RX12) (T := TX12) (N := 33) hx hb hts hinX12 tyX12 tyX12_ok nmX12 hown hK.1 hP hD hS 0 rfl rfl 31 (by decide) wd1 (fun _ h9 => h9) rfl (by decide +kernel) rfl rfl (Nat.le_of_ble_eq_true rfl) dX12_turn_56 (fun H locs hP hD hS => ?_)
      have hP : va_P G vwCl (ww_M q cs v_told v_tell v_sums v_kindOf v_modOf v_bitsOf v_turnOf v_polyOf v_beginOf v_finishOf v_isLow v_weightsOf v_weight v_cell v_size v_row v_keptSize v_keptBefore v_keptAfter v_placeA v_placeB v_turned v_turnedMany v_syndromes v_lightest v_freeMany v_freePlace v_freeSyndrome v_ways v_waysKept v_trace (v_comesA - (v_placeA x2.toNatClampNeg)) v_comesB) H := hP
      have hD : va_D A (ww_M q cs v_told v_tell v_sums v_kindOf v_modOf v_bitsOf v_turnOf v_polyOf v_beginOf v_finishOf v_isLow v_weightsOf v_weight v_cell v_size v_row v_keptSize v_keptBefore v_keptAfter v_placeA v_placeB v_turned v_turnedMany v_syndromes v_lightest v_freeMany v_freePlace v_freeSyndrome v_ways v_waysKept v_trace (v_comesA - (v_placeA x2.toNatClampNeg)) v_comesB) := hD
      refine lv_aload_n hx hb dX12_turn_59 rfl (lv_at hl 0 rfl) ?_
      refine lv_iload_n hx hb dX12_turn_60 rfl (lv_at hl 3 rfl) ?_
      refine lv_if_eq (tgt := 78) hx hb dX12_turn_61 (by decide) (fun b10 => ?_) (fun b10 => ?_)
      · have hm := i_t b10 hm
        refine lv_aload_n hx hb dX12_turn_78 rfl (lv_at hl 0 rfl) ?_
        refine va_get (D := G) (ci := 10) (v := .long v_comesB) (C := RX12) (T := TX12) (N := 33) hx hb hts hinX12 hown hK.1 hP 0 rfl rfl 32 (by decide) wd3 (fun _ h9 => h9) rfl dX12_turn_79 ?_
        refine lv_aload_n hx hb dX12_turn_82 rfl (lv_at hl 0 rfl) ?_
        refine va_get (D := G) (ci := 10) (v := .ref (q 17)) (C := RX12) (T := TX12) (N := 33) hx hb hts hinX12 hown hK.1 hP 0 rfl rfl 20 (by decide) wd4 (fun _ h9 => h9) rfl dX12_turn_83 ?_
        refine lv_iload_n hx hb dX12_turn_86 rfl (lv_at hl 2 rfl) ?_
        obtain ⟨h11, hm⟩ := g_in hm
        refine va_lald hx hb hK.1 hP 17 1 rfl rfl h11 dX12_turn_87 ?_
        refine lv_ladd hx hb dX12_turn_88 ?_
        refine va_put (D := G) (ci := 10) (v := .long (v_comesB + (v_placeB x2.toNatClampNeg))) (ty := .long) (C := RX12) (T := TX12) (N := 33) hx hb hts hinX12 tyX12 tyX12_ok nmX12 hown hK.1 hP hD hS 0 rfl rfl 32 (by decide) wd3 (fun _ h9 => h9) rfl (by decide +kernel) rfl rfl (Nat.le_of_ble_eq_true rfl) dX12_turn_89 (fun H locs hP hD hS => ?_)
        have hP : va_P G vwCl (ww_M q cs v_told v_tell v_sums v_kindOf v_modOf v_bitsOf v_turnOf v_polyOf v_beginOf v_finishOf v_isLow v_weightsOf v_weight v_cell v_size v_row v_keptSize v_keptBefore v_keptAfter v_placeA v_placeB v_turned v_turnedMany v_syndromes v_lightest v_freeMany v_freePlace v_freeSyndrome v_ways v_waysKept v_trace (v_comesA - (v_placeA x2.toNatClampNeg)) (v_comesB + (v_placeB x2.toNatClampNeg))) H := hP
        have hD : va_D A (ww_M q cs v_told v_tell v_sums v_kindOf v_modOf v_bitsOf v_turnOf v_polyOf v_beginOf v_finishOf v_isLow v_weightsOf v_weight v_cell v_size v_row v_keptSize v_keptBefore v_keptAfter v_placeA v_placeB v_turned v_turnedMany v_syndromes v_lightest v_freeMany v_freePlace v_freeSyndrome v_ways v_waysKept v_trace (v_comesA - (v_placeA x2.toNatClampNeg)) (v_comesB + (v_placeB x2.toNatClampNeg))) := hD
        have hq := Option.some.inj hm
        subst hq; subst hQ
        exact k_vret hx hb hr hlocks hP hD hS dX12_turn_92
      · have hm := i_f b10 hm
        refine lv_aload_n hx hb dX12_turn_64 rfl (lv_at hl 0 rfl) ?_
        refine va_get (D := G) (ci := 10) (v := .long v_comesB) (C := RX12) (T := TX12) (N := 33) hx hb hts hinX12 hown hK.1 hP 0 rfl rfl 32 (by decide) wd3 (fun _ h9 => h9) rfl dX12_turn_65 ?_
        refine lv_aload_n hx hb dX12_turn_68 rfl (lv_at hl 0 rfl) ?_
        refine va_get (D := G) (ci := 10) (v := .ref (q 17)) (C := RX12) (T := TX12) (N := 33) hx hb hts hinX12 hown hK.1 hP 0 rfl rfl 20 (by decide) wd4 (fun _ h9 => h9) rfl dX12_turn_69 ?_
        refine lv_iload_n hx hb dX12_turn_72 rfl (lv_at hl 2 rfl) ?_
        obtain ⟨h12, hm⟩ := g_in hm
        refine va_lald hx hb hK.1 hP 17 1 rfl rfl h12 dX12_turn_73 ?_
        refine lv_lsub hx hb dX12_turn_74 ?_
        refine lv_goto (tgt := 89) hx hb dX12_turn_75 (by decide) ?_
        refine va_put (D := G) (ci := 10) (v := .long (v_comesB - (v_placeB x2.toNatClampNeg))) (ty := .long) (C := RX12) (T := TX12) (N := 33) hx hb hts hinX12 tyX12 tyX12_ok nmX12 hown hK.1 hP hD hS 0 rfl rfl 32 (by decide) wd3 (fun _ h9 => h9) rfl (by decide +kernel) rfl rfl (Nat.le_of_ble_eq_true rfl) dX12_turn_89 (fun H locs hP hD hS => ?_)
        have hP : va_P G vwCl (ww_M q cs v_told v_tell v_sums v_kindOf v_modOf v_bitsOf v_turnOf v_polyOf v_beginOf v_finishOf v_isLow v_weightsOf v_weight v_cell v_size v_row v_keptSize v_keptBefore v_keptAfter v_placeA v_placeB v_turned v_turnedMany v_syndromes v_lightest v_freeMany v_freePlace v_freeSyndrome v_ways v_waysKept v_trace (v_comesA - (v_placeA x2.toNatClampNeg)) (v_comesB - (v_placeB x2.toNatClampNeg))) H := hP
        have hD : va_D A (ww_M q cs v_told v_tell v_sums v_kindOf v_modOf v_bitsOf v_turnOf v_polyOf v_beginOf v_finishOf v_isLow v_weightsOf v_weight v_cell v_size v_row v_keptSize v_keptBefore v_keptAfter v_placeA v_placeB v_turned v_turnedMany v_syndromes v_lightest v_freeMany v_freePlace v_freeSyndrome v_ways v_waysKept v_trace (v_comesA - (v_placeA x2.toNatClampNeg)) (v_comesB - (v_placeB x2.toNatClampNeg))) := hD
        have hq := Option.some.inj hm
        subst hq; subst hQ
        exact k_vret hx hb hr hlocks hP hD hS dX12_turn_92
  · have hm := i_f b3 hm
    refine lv_aload_n hx hb dX12_turn_8 rfl (lv_at hl 0 rfl) ?_
    refine lv_aload_n hx hb dX12_turn_9 rfl (lv_at hl 0 rfl) ?_
    refine va_get (D := G) (ci := 10) (v := .long v_comesA) (C := RX12) (T := TX12) (N := 33) hx hb hts hinX12 hown hK.1 hP 0 rfl rfl 31 (by decide) wd1 (fun _ h9 => h9) rfl dX12_turn_10 ?_
    refine lv_aload_n hx hb dX12_turn_13 rfl (lv_at hl 0 rfl) ?_
    refine va_get (D := G) (ci := 10) (v := .ref (q 16)) (C := RX12) (T := TX12) (N := 33) hx hb hts hinX12 hown hK.1 hP 0 rfl rfl 19 (by decide) wd2 (fun _ h9 => h9) rfl dX12_turn_14 ?_
    refine lv_iload_n hx hb dX12_turn_17 rfl (lv_at hl 2 rfl) ?_
    obtain ⟨h13, hm⟩ := g_in hm
    refine va_lald hx hb hK.1 hP 16 1 rfl rfl h13 dX12_turn_18 ?_
    refine lv_lxor hx hb dX12_turn_19 ?_
    refine va_put (D := G) (ci := 10) (v := .long (v_comesA ^^^ (v_placeA x2.toNatClampNeg))) (ty := .long) (C := RX12) (T := TX12) (N := 33) hx hb hts hinX12 tyX12 tyX12_ok nmX12 hown hK.1 hP hD hS 0 rfl rfl 31 (by decide) wd1 (fun _ h9 => h9) rfl (by decide +kernel) rfl rfl (Nat.le_of_ble_eq_true rfl) dX12_turn_20 (fun H locs hP hD hS => ?_)
    have hP : va_P G vwCl (ww_M q cs v_told v_tell v_sums v_kindOf v_modOf v_bitsOf v_turnOf v_polyOf v_beginOf v_finishOf v_isLow v_weightsOf v_weight v_cell v_size v_row v_keptSize v_keptBefore v_keptAfter v_placeA v_placeB v_turned v_turnedMany v_syndromes v_lightest v_freeMany v_freePlace v_freeSyndrome v_ways v_waysKept v_trace (v_comesA ^^^ (v_placeA x2.toNatClampNeg)) v_comesB) H := hP
    have hD : va_D A (ww_M q cs v_told v_tell v_sums v_kindOf v_modOf v_bitsOf v_turnOf v_polyOf v_beginOf v_finishOf v_isLow v_weightsOf v_weight v_cell v_size v_row v_keptSize v_keptBefore v_keptAfter v_placeA v_placeB v_turned v_turnedMany v_syndromes v_lightest v_freeMany v_freePlace v_freeSyndrome v_ways v_waysKept v_trace (v_comesA ^^^ (v_placeA x2.toNatClampNeg)) v_comesB) := hD
    refine lv_goto (tgt := 92) hx hb dX12_turn_23 (by decide) ?_
    have hq := Option.some.inj hm
    subst hq; subst hQ
    exact k_vret hx hb hr hlocks hP hD hS dX12_turn_92

theorem hd_X12_isNothing : yX12_isNothing.cls ≠ "java/lang/invoke/MethodHandle" ∧ yX12_isNothing.cls ≠ "java/lang/invoke/VarHandle" ∧ (parseMethodDescriptor yX12_isNothing.desc).map (fun d => d.parameters.length) = some 1 := by decide +kernel

def M_X12_isNothing (x1 : Int32) (v_kindOf : (Nat → Int32)) (v_modOf : (Nat → Int32)) (v_comesA : Int64) (v_comesB : Int64) : Option Int32 :=
  (M_X12_isXor x1 v_kindOf).bind fun r1 => if r1 = 0 then (if x1 < 0 ∨ 16 ≤ x1.toNatClampNeg then none else if ((v_modOf x1.toNatClampNeg).toInt64) = 0 then none else if (v_comesA - v_comesA / ((v_modOf x1.toNatClampNeg).toInt64) * ((v_modOf x1.toNatClampNeg).toInt64)) = 0 then (if x1 < 0 ∨ 16 ≤ x1.toNatClampNeg then none else if ((v_modOf x1.toNatClampNeg).toInt64) = 0 then none else if (v_comesB - v_comesB / ((v_modOf x1.toNatClampNeg).toInt64) * ((v_modOf x1.toNatClampNeg).toInt64)) = 0 then (some 1) else (some 0)) else (some 0)) else (if v_comesA = 0 then (some 1) else (some 0))

abbrev rmX12_isNothing : Room := { frames := 1, cells := 0, slots := 0, locals := 21 }
set_option maxHeartbeats 4000000 in
set_option maxRecDepth 100000 in
theorem c_X12_isNothing (l : Launch) (G : va_G) (cs : CS) (q : Nat → Nat) (sz : Nat) (v_told : Int32) (v_tell : (Nat → Int32)) (v_sums : Int32) (v_kindOf : (Nat → Int32)) (v_modOf : (Nat → Int32)) (v_bitsOf : (Nat → Int32)) (v_turnOf : (Nat → Int32)) (v_polyOf : (Nat → Int64)) (v_beginOf : (Nat → Int64)) (v_finishOf : (Nat → Int64)) (v_isLow : (Nat → Int32)) (v_weightsOf : (Nat → Int32)) (v_weight : (Nat → Int32)) (v_cell : (Nat → Int32)) (v_size : Int32) (v_row : (Nat → Int32)) (v_keptSize : Int32) (v_keptBefore : (Nat → Int32)) (v_keptAfter : (Nat → Int32)) (v_placeA : (Nat → Int64)) (v_placeB : (Nat → Int64)) (v_turned : (Nat → Int32)) (v_turnedMany : Int32) (v_syndromes : (Nat → Int64)) (v_lightest : (Nat → Int32)) (v_freeMany : Int32) (v_freePlace : (Nat → Int32)) (v_freeSyndrome : (Nat → Int64)) (v_ways : (Nat → Int32)) (v_waysKept : Int32) (v_trace : (Nat → Int32)) (v_comesA : Int64) (v_comesB : Int64)   (x1 : Int32) (res : Int32) (hm : M_X12_isNothing x1 v_kindOf v_modOf v_comesA v_comesB = some res) : Met l yX12_isNothing wsX12_isNothing rmX12_isNothing (va_Pc [.ref (q 0), .int x1] (PreW G cs sz (ww_M q cs v_told v_tell v_sums v_kindOf v_modOf v_bitsOf v_turnOf v_polyOf v_beginOf v_finishOf v_isLow v_weightsOf v_weight v_cell v_size v_row v_keptSize v_keptBefore v_keptAfter v_placeA v_placeB v_turned v_turnedMany v_syndromes v_lightest v_freeMany v_freePlace v_freeSyndrome v_ways v_waysKept v_trace v_comesA v_comesB) RN)) (QI G res (res = 0 ∨ res = 1) (ww_M q cs v_told v_tell v_sums v_kindOf v_modOf v_bitsOf v_turnOf v_polyOf v_beginOf v_finishOf v_isLow v_weightsOf v_weight v_cell v_size v_row v_keptSize v_keptBefore v_keptAfter v_placeA v_placeB v_turned v_turnedMany v_syndromes v_lightest v_freeMany v_freePlace v_freeSyndrome v_ways v_waysKept v_trace v_comesA v_comesB) (va_A (ww_M q cs v_told v_tell v_sums v_kindOf v_modOf v_bitsOf v_turnOf v_polyOf v_beginOf v_finishOf v_isLow v_weightsOf v_weight v_cell v_size v_row v_keptSize v_keptBefore v_keptAfter v_placeA v_placeB v_turned v_turnedMany v_syndromes v_lightest v_freeMany v_freePlace v_freeSyndrome v_ways v_waysKept v_trace v_comesA v_comesB) sz)) 0 0 (va_A (ww_M q cs v_told v_tell v_sums v_kindOf v_modOf v_bitsOf v_turnOf v_polyOf v_beginOf v_finishOf v_isLow v_weightsOf v_weight v_cell v_size v_row v_keptSize v_keptBefore v_keptAfter v_placeA v_placeB v_turned v_turnedMany v_syndromes v_lightest v_freeMany v_freePlace v_freeSyndrome v_ways v_waysKept v_trace v_comesA v_comesB) sz) := by
  refine k_enter (Qf := fun A => QI G res (res = 0 ∨ res = 1) (ww_M q cs v_told v_tell v_sums v_kindOf v_modOf v_bitsOf v_turnOf v_polyOf v_beginOf v_finishOf v_isLow v_weightsOf v_weight v_cell v_size v_row v_keptSize v_keptBefore v_keptAfter v_placeA v_placeB v_turned v_turnedMany v_syndromes v_lightest v_freeMany v_freePlace v_freeSyndrome v_ways v_waysKept v_trace v_comesA v_comesB) A) (cc := cX12_isNothing) (maxL := 2) (ret := (some .boolean)) (plainFor_of_name (by decide)) rfl (Nat.le_of_ble_eq_true rfl) ?_
  intro p e s m args below meth c A Q ls H locs hx hb hr hml hown hts hlocks hname hK hA hRo hP hD hS hQ hl
  have hl : lv_has ls 2 [(0, .ref (q 0)), (1, .int x1)] := hl
  have wd1 := hts (.fieldLink RX12 183 "SumSmithModel" "comesA" "J") (List.mem_of_getElem? (i := 1) rfl)
  have wd2 := hts (.fieldLink RX12 16 "SumSmithModel" "modOf" "[I") (List.mem_of_getElem? (i := 2) rfl)
  have wd3 := hts (.fieldLink RX12 187 "SumSmithModel" "comesB" "J") (List.mem_of_getElem? (i := 3) rfl)
  have hinX12 : ∀ w ∈ wsX120, w ∈ wsX12_isNothing := fun w h => List.mem_cons_of_mem _ (List.mem_append_right _ h)
  unfold M_X12_isNothing at hm
  refine lv_aload_n hx hb dX12_isNothing_0 rfl (lv_at hl 0 rfl) ?_
  refine lv_iload_n hx hb dX12_isNothing_1 rfl (lv_at hl 1 rfl) ?_
  obtain ⟨r1, hc_r1, hm⟩ := bs hm
  refine k_calli (va_runV (As := [.int x1]) (rest := []) ⟨hx, hb, hml, hown, hts⟩ (c_X12_isXor l G cs q H.size v_told v_tell v_sums v_kindOf v_modOf v_bitsOf v_turnOf v_polyOf v_beginOf v_finishOf v_isLow v_weightsOf v_weight v_cell v_size v_row v_keptSize v_keptBefore v_keptAfter v_placeA v_placeB v_turned v_turnedMany v_syndromes v_lightest v_freeMany v_freePlace v_freeSyndrome v_ways v_waysKept v_trace v_comesA v_comesB   x1 r1 hc_r1) (cwV 1 hts gX12_isNothing_X12_isXor rfl rfl rfl ⟨rfl, hd_X12_isXor⟩ ⟨Nat.le_of_ble_eq_true rfl, Nat.le_of_ble_eq_true rfl⟩) ⟨pre_blind, va_recv hK.1 hP (ci := 10) (q0 := 0) rfl rfl, pre_w hK RO.nil hP hD (va_all hD hS hA)⟩ rfl rfl hl.1 rfl (lv_room (Nat.le_of_ble_eq_true rfl)) dX12_isNothing_2 ⟨Nat.zero_le _, Nat.zero_le _⟩) hS (va_all hD hS hA) (fun hE2 H locs hP hD hS => ?_)
  have hP : va_P G vwCl (ww_M q cs v_told v_tell v_sums v_kindOf v_modOf v_bitsOf v_turnOf v_polyOf v_beginOf v_finishOf v_isLow v_weightsOf v_weight v_cell v_size v_row v_keptSize v_keptBefore v_keptAfter v_placeA v_placeB v_turned v_turnedMany v_syndromes v_lightest v_freeMany v_freePlace v_freeSyndrome v_ways v_waysKept v_trace v_comesA v_comesB) H := hP
  have hD : va_D A (ww_M q cs v_told v_tell v_sums v_kindOf v_modOf v_bitsOf v_turnOf v_polyOf v_beginOf v_finishOf v_isLow v_weightsOf v_weight v_cell v_size v_row v_keptSize v_keptBefore v_keptAfter v_placeA v_placeB v_turned v_turnedMany v_syndromes v_lightest v_freeMany v_freePlace v_freeSyndrome v_ways v_waysKept v_trace v_comesA v_comesB) := hD
  refine lv_if_eq (tgt := 25) hx hb dX12_isNothing_5 (by decide) (fun b3 => ?_) (fun b3 => ?_)
  · have hm := i_t b3 hm
    refine lv_aload_n hx hb dX12_isNothing_25 rfl (lv_at hl 0 rfl) ?_
    refine va_get (D := G) (ci := 10) (v := .long v_comesA) (C := RX12) (T := TX12) (N := 33) hx hb hts hinX12 hown hK.1 hP 0 rfl rfl 31 (by decide) wd1 (fun _ h9 => h9) rfl dX12_isNothing_26 ?_
    refine lv_aload_n hx hb dX12_isNothing_29 rfl (lv_at hl 0 rfl) ?_
    refine va_get (D := G) (ci := 10) (v := .ref (q 3)) (C := RX12) (T := TX12) (N := 33) hx hb hts hinX12 hown hK.1 hP 0 rfl rfl 4 (by decide) wd2 (fun _ h9 => h9) rfl dX12_isNothing_30 ?_
    refine lv_iload_n hx hb dX12_isNothing_33 rfl (lv_at hl 1 rfl) ?_
    obtain ⟨h4, hm⟩ := g_in hm
    refine va_iald hx hb hK.1 hP 3 0 rfl rfl h4 dX12_isNothing_34 ?_
    refine lv_i2l (v := (v_modOf x1.toNatClampNeg).toInt64) hx hb dX12_isNothing_35 rfl ?_
    obtain ⟨h5, hm⟩ := g_in hm
    refine lv_lrem hx hb dX12_isNothing_36 h5 ?_
    refine lv_lconst (v := 0) hx hb dX12_isNothing_37 (by decide) ?_
    refine W.lcmp hx hb dX12_isNothing_38 ?_
    refine lv_if_ne (tgt := 63) hx hb dX12_isNothing_39 (by decide) (fun b6 => ?_) (fun b6 => ?_)
    · have b6 := fun h9 => b6 ((lg_cmp_eq _ _).mpr h9)
      have hm := i_f b6 hm
      refine lv_iconst (v := 0) hx hb dX12_isNothing_63 (by decide) ?_
      have hq := Option.some.inj hm
      subst hq; subst hQ
      exact k_zret hx hb hr hlocks hP hD hS rfl (by decide) dX12_isNothing_64
    · have b6 := (lg_cmp_eq _ _).mp b6
      have hm := i_t b6 hm
      refine lv_aload_n hx hb dX12_isNothing_42 rfl (lv_at hl 0 rfl) ?_
      refine va_get (D := G) (ci := 10) (v := .long v_comesB) (C := RX12) (T := TX12) (N := 33) hx hb hts hinX12 hown hK.1 hP 0 rfl rfl 32 (by decide) wd3 (fun _ h9 => h9) rfl dX12_isNothing_43 ?_
      refine lv_aload_n hx hb dX12_isNothing_46 rfl (lv_at hl 0 rfl) ?_
      refine va_get (D := G) (ci := 10) (v := .ref (q 3)) (C := RX12) (T := TX12) (N := 33) hx hb hts hinX12 hown hK.1 hP 0 rfl rfl 4 (by decide) wd2 (fun _ h9 => h9) rfl dX12_isNothing_47 ?_
      refine lv_iload_n hx hb dX12_isNothing_50 rfl (lv_at hl 1 rfl) ?_
      obtain ⟨h7, hm⟩ := g_in hm
      refine va_iald hx hb hK.1 hP 3 0 rfl rfl h7 dX12_isNothing_51 ?_
      refine lv_i2l (v := (v_modOf x1.toNatClampNeg).toInt64) hx hb dX12_isNothing_52 rfl ?_
      obtain ⟨h8, hm⟩ := g_in hm
      refine lv_lrem hx hb dX12_isNothing_53 h8 ?_
      refine lv_lconst (v := 0) hx hb dX12_isNothing_54 (by decide) ?_
      refine W.lcmp hx hb dX12_isNothing_55 ?_
      refine lv_if_ne (tgt := 63) hx hb dX12_isNothing_56 (by decide) (fun b9 => ?_) (fun b9 => ?_)
      · have b9 := fun h9 => b9 ((lg_cmp_eq _ _).mpr h9)
        have hm := i_f b9 hm
        refine lv_iconst (v := 0) hx hb dX12_isNothing_63 (by decide) ?_
        have hq := Option.some.inj hm
        subst hq; subst hQ
        exact k_zret hx hb hr hlocks hP hD hS rfl (by decide) dX12_isNothing_64
      · have b9 := (lg_cmp_eq _ _).mp b9
        have hm := i_t b9 hm
        refine lv_iconst (v := 1) hx hb dX12_isNothing_59 (by decide) ?_
        refine lv_goto (tgt := 64) hx hb dX12_isNothing_60 (by decide) ?_
        have hq := Option.some.inj hm
        subst hq; subst hQ
        exact k_zret hx hb hr hlocks hP hD hS rfl (by decide) dX12_isNothing_64
  · have hm := i_f b3 hm
    refine lv_aload_n hx hb dX12_isNothing_8 rfl (lv_at hl 0 rfl) ?_
    refine va_get (D := G) (ci := 10) (v := .long v_comesA) (C := RX12) (T := TX12) (N := 33) hx hb hts hinX12 hown hK.1 hP 0 rfl rfl 31 (by decide) wd1 (fun _ h9 => h9) rfl dX12_isNothing_9 ?_
    refine lv_lconst (v := 0) hx hb dX12_isNothing_12 (by decide) ?_
    refine W.lcmp hx hb dX12_isNothing_13 ?_
    refine lv_if_ne (tgt := 21) hx hb dX12_isNothing_14 (by decide) (fun b10 => ?_) (fun b10 => ?_)
    · have b10 := fun h9 => b10 ((lg_cmp_eq _ _).mpr h9)
      have hm := i_f b10 hm
      refine lv_iconst (v := 0) hx hb dX12_isNothing_21 (by decide) ?_
      refine lv_goto (tgt := 64) hx hb dX12_isNothing_22 (by decide) ?_
      have hq := Option.some.inj hm
      subst hq; subst hQ
      exact k_zret hx hb hr hlocks hP hD hS rfl (by decide) dX12_isNothing_64
    · have b10 := (lg_cmp_eq _ _).mp b10
      have hm := i_t b10 hm
      refine lv_iconst (v := 1) hx hb dX12_isNothing_17 (by decide) ?_
      refine lv_goto (tgt := 64) hx hb dX12_isNothing_18 (by decide) ?_
      have hq := Option.some.inj hm
      subst hq; subst hQ
      exact k_zret hx hb hr hlocks hP hD hS rfl (by decide) dX12_isNothing_64

theorem hd_X12_beginKept : yX12_beginKept.cls ≠ "java/lang/invoke/MethodHandle" ∧ yX12_beginKept.cls ≠ "java/lang/invoke/VarHandle" ∧ (parseMethodDescriptor yX12_beginKept.desc).map (fun d => d.parameters.length) = some 1 := by decide +kernel

def M_X12_beginKept_b7 (n : Nat)  (x2 : Int32) (v_keptBefore : (Nat → Int32)) (v_keptAfter : (Nat → Int32)) : Option ((Int32 × (Nat → Int32) × (Nat → Int32)) ⊕ ((Nat → Int32) × (Nat → Int32))) :=
  if 8 ≤ x2 then (some (.inr (v_keptBefore, v_keptAfter))) else (if x2 < 0 ∨ 8 ≤ x2.toNatClampNeg then none else if x2 < 0 ∨ 8 ≤ x2.toNatClampNeg then none else some (.inl (x2 + 1, (upd v_keptBefore x2.toNatClampNeg 0), (upd v_keptAfter x2.toNatClampNeg 0))))

def M_X12_beginKept (n : Nat) (x1 : Int32) (v_keptSize : Int32) (v_keptBefore : (Nat → Int32)) (v_keptAfter : (Nat → Int32)) : Option (Int32 × (Nat → Int32) × (Nat → Int32)) :=
  (lp (fun x : (Int32 × (Nat → Int32) × (Nat → Int32)) => M_X12_beginKept_b7 n  x.1 x.2.1 x.2.2) n ((0 : Int32), v_keptBefore, v_keptAfter)).bind fun o4 => some (x1, o4.1, o4.2)

abbrev rmX12_beginKept : Room := { frames := 0, cells := 0, slots := 0, locals := 0 }
set_option maxHeartbeats 4000000 in
set_option maxRecDepth 100000 in
theorem c_X12_beginKept (l : Launch) (G : va_G) (cs : CS) (q : Nat → Nat) (sz : Nat) (v_told : Int32) (v_tell : (Nat → Int32)) (v_sums : Int32) (v_kindOf : (Nat → Int32)) (v_modOf : (Nat → Int32)) (v_bitsOf : (Nat → Int32)) (v_turnOf : (Nat → Int32)) (v_polyOf : (Nat → Int64)) (v_beginOf : (Nat → Int64)) (v_finishOf : (Nat → Int64)) (v_isLow : (Nat → Int32)) (v_weightsOf : (Nat → Int32)) (v_weight : (Nat → Int32)) (v_cell : (Nat → Int32)) (v_size : Int32) (v_row : (Nat → Int32)) (v_keptSize : Int32) (v_keptBefore : (Nat → Int32)) (v_keptAfter : (Nat → Int32)) (v_placeA : (Nat → Int64)) (v_placeB : (Nat → Int64)) (v_turned : (Nat → Int32)) (v_turnedMany : Int32) (v_syndromes : (Nat → Int64)) (v_lightest : (Nat → Int32)) (v_freeMany : Int32) (v_freePlace : (Nat → Int32)) (v_freeSyndrome : (Nat → Int64)) (v_ways : (Nat → Int32)) (v_waysKept : Int32) (v_trace : (Nat → Int32)) (v_comesA : Int64) (v_comesB : Int64)   (x1 : Int32) (n : Nat) (res : (Int32 × (Nat → Int32) × (Nat → Int32))) (hm : M_X12_beginKept n x1 v_keptSize v_keptBefore v_keptAfter = some res) : Met l yX12_beginKept wsX12_beginKept rmX12_beginKept (va_Pc [.ref (q 0), .int x1] (PreW G cs sz (ww_M q cs v_told v_tell v_sums v_kindOf v_modOf v_bitsOf v_turnOf v_polyOf v_beginOf v_finishOf v_isLow v_weightsOf v_weight v_cell v_size v_row v_keptSize v_keptBefore v_keptAfter v_placeA v_placeB v_turned v_turnedMany v_syndromes v_lightest v_freeMany v_freePlace v_freeSyndrome v_ways v_waysKept v_trace v_comesA v_comesB) RN)) (QV G (ww_M q cs v_told v_tell v_sums v_kindOf v_modOf v_bitsOf v_turnOf v_polyOf v_beginOf v_finishOf v_isLow v_weightsOf v_weight v_cell v_size v_row res.1 res.2.1 res.2.2 v_placeA v_placeB v_turned v_turnedMany v_syndromes v_lightest v_freeMany v_freePlace v_freeSyndrome v_ways v_waysKept v_trace v_comesA v_comesB) (va_A (ww_M q cs v_told v_tell v_sums v_kindOf v_modOf v_bitsOf v_turnOf v_polyOf v_beginOf v_finishOf v_isLow v_weightsOf v_weight v_cell v_size v_row v_keptSize v_keptBefore v_keptAfter v_placeA v_placeB v_turned v_turnedMany v_syndromes v_lightest v_freeMany v_freePlace v_freeSyndrome v_ways v_waysKept v_trace v_comesA v_comesB) sz)) 0 0 (va_A (ww_M q cs v_told v_tell v_sums v_kindOf v_modOf v_bitsOf v_turnOf v_polyOf v_beginOf v_finishOf v_isLow v_weightsOf v_weight v_cell v_size v_row v_keptSize v_keptBefore v_keptAfter v_placeA v_placeB v_turned v_turnedMany v_syndromes v_lightest v_freeMany v_freePlace v_freeSyndrome v_ways v_waysKept v_trace v_comesA v_comesB) sz) := by
  refine k_enter (Qf := fun A => QV G (ww_M q cs v_told v_tell v_sums v_kindOf v_modOf v_bitsOf v_turnOf v_polyOf v_beginOf v_finishOf v_isLow v_weightsOf v_weight v_cell v_size v_row res.1 res.2.1 res.2.2 v_placeA v_placeB v_turned v_turnedMany v_syndromes v_lightest v_freeMany v_freePlace v_freeSyndrome v_ways v_waysKept v_trace v_comesA v_comesB) A) (cc := cX12_beginKept) (maxL := 3) (ret := none) (plainFor_of_name (by decide)) rfl (Nat.le_of_ble_eq_true rfl) ?_
  intro p e s m args below meth c A Q ls H locs hx hb hr hml hown hts hlocks hname hK hA hRo hP hD hS hQ hl
  have hl : lv_has ls 3 [(0, .ref (q 0)), (1, .int x1)] := hl
  have wd1 := hts (.fieldLink RX12 190 "SumSmithModel" "keptSize" "I") (List.mem_of_getElem? (i := 1) rfl)
  have wd2 := hts (.fieldLink RX12 51 "SumSmithModel" "keptBefore" "[I") (List.mem_of_getElem? (i := 2) rfl)
  have wd3 := hts (.fieldLink RX12 54 "SumSmithModel" "keptAfter" "[I") (List.mem_of_getElem? (i := 3) rfl)
  have hinX12 : ∀ w ∈ wsX120, w ∈ wsX12_beginKept := fun w h => List.mem_cons_of_mem _ (List.mem_append_right _ h)
  have L7 : ∀ (x2 : Int32) (v_keptSize : Int32) (v_keptBefore : (Nat → Int32)) (v_keptAfter : (Nat → Int32)) (out : ((Nat → Int32) × (Nat → Int32))), lp (fun x : (Int32 × (Nat → Int32) × (Nat → Int32)) => M_X12_beginKept_b7 n  x.1 x.2.1 x.2.2) n (x2, v_keptBefore, v_keptAfter) = some out → (∀ (o : ((Nat → Int32) × (Nat → Int32))), out = o → ∀ (H : Heap) (locs : List Loc), va_P G vwCl (ww_M q cs v_told v_tell v_sums v_kindOf v_modOf v_bitsOf v_turnOf v_polyOf v_beginOf v_finishOf v_isLow v_weightsOf v_weight v_cell v_size v_row v_keptSize o.1 o.2 v_placeA v_placeB v_turned v_turnedMany v_syndromes v_lightest v_freeMany v_freePlace v_freeSyndrome v_ways v_waysKept v_trace v_comesA v_comesB) H → va_D A (ww_M q cs v_told v_tell v_sums v_kindOf v_modOf v_bitsOf v_turnOf v_polyOf v_beginOf v_finishOf v_isLow v_weightsOf v_weight v_cell v_size v_row v_keptSize o.1 o.2 v_placeA v_placeB v_turned v_turnedMany v_syndromes v_lightest v_freeMany v_freePlace v_freeSyndrome v_ways v_waysKept v_trace v_comesA v_comesB) → va_S A s.heap H locs → ∀ (ls : Array Slot), lv_has ls 3 [] → W p l e rmX12_beginKept s m args below meth c H locs 0 0 Q (F0 m 33 ls [])) → ∀ (H : Heap) (locs : List Loc), va_P G vwCl (ww_M q cs v_told v_tell v_sums v_kindOf v_modOf v_bitsOf v_turnOf v_polyOf v_beginOf v_finishOf v_isLow v_weightsOf v_weight v_cell v_size v_row v_keptSize v_keptBefore v_keptAfter v_placeA v_placeB v_turned v_turnedMany v_syndromes v_lightest v_freeMany v_freePlace v_freeSyndrome v_ways v_waysKept v_trace v_comesA v_comesB) H → va_D A (ww_M q cs v_told v_tell v_sums v_kindOf v_modOf v_bitsOf v_turnOf v_polyOf v_beginOf v_finishOf v_isLow v_weightsOf v_weight v_cell v_size v_row v_keptSize v_keptBefore v_keptAfter v_placeA v_placeB v_turned v_turnedMany v_syndromes v_lightest v_freeMany v_freePlace v_freeSyndrome v_ways v_waysKept v_trace v_comesA v_comesB) → va_S A s.heap H locs → ∀ (ls : Array Slot), lv_has ls 3 [(0, .ref (q 0)), (2, .int x2)] → W p l e rmX12_beginKept s m args below meth c H locs 0 0 Q (F0 m 7 ls []) := by
    intro x2 v_keptSize v_keptBefore v_keptAfter out hlp hX
    refine lp_ind (fun x => ∀ (H : Heap) (locs : List Loc), va_P G vwCl (ww_M q cs v_told v_tell v_sums v_kindOf v_modOf v_bitsOf v_turnOf v_polyOf v_beginOf v_finishOf v_isLow v_weightsOf v_weight v_cell v_size v_row v_keptSize x.2.1 x.2.2 v_placeA v_placeB v_turned v_turnedMany v_syndromes v_lightest v_freeMany v_freePlace v_freeSyndrome v_ways v_waysKept v_trace v_comesA v_comesB) H → va_D A (ww_M q cs v_told v_tell v_sums v_kindOf v_modOf v_bitsOf v_turnOf v_polyOf v_beginOf v_finishOf v_isLow v_weightsOf v_weight v_cell v_size v_row v_keptSize x.2.1 x.2.2 v_placeA v_placeB v_turned v_turnedMany v_syndromes v_lightest v_freeMany v_freePlace v_freeSyndrome v_ways v_waysKept v_trace v_comesA v_comesB) → va_S A s.heap H locs → ∀ (ls : Array Slot), lv_has ls 3 [(0, .ref (q 0)), (2, .int x.1)] → W p l e rmX12_beginKept s m args below meth c H locs 0 0 Q (F0 m 7 ls [])) ?_ n (x2, v_keptBefore, v_keptAfter) hlp
    clear hlp hP hD hS hl
    rintro ⟨x2, v_keptBefore, v_keptAfter⟩ ob hm hst H locs hP hD hS ls hl
    have hm : M_X12_beginKept_b7 n  x2 v_keptBefore v_keptAfter = some ob := hm
    have hl : lv_has ls 3 [(0, .ref (q 0)), (2, .int x2)] := hl
    have hP : va_P G vwCl (ww_M q cs v_told v_tell v_sums v_kindOf v_modOf v_bitsOf v_turnOf v_polyOf v_beginOf v_finishOf v_isLow v_weightsOf v_weight v_cell v_size v_row v_keptSize v_keptBefore v_keptAfter v_placeA v_placeB v_turned v_turnedMany v_syndromes v_lightest v_freeMany v_freePlace v_freeSyndrome v_ways v_waysKept v_trace v_comesA v_comesB) H := hP
    have hD : va_D A (ww_M q cs v_told v_tell v_sums v_kindOf v_modOf v_bitsOf v_turnOf v_polyOf v_beginOf v_finishOf v_isLow v_weightsOf v_weight v_cell v_size v_row v_keptSize v_keptBefore v_keptAfter v_placeA v_placeB v_turned v_turnedMany v_syndromes v_lightest v_freeMany v_freePlace v_freeSyndrome v_ways v_waysKept v_trace v_comesA v_comesB) := hD
    unfold M_X12_beginKept_b7 at hm
    refine lv_iload_n hx hb dX12_beginKept_7 rfl (lv_at hl 1 rfl) ?_
    refine lv_bipush (v := 8) hx hb dX12_beginKept_8 (by decide) ?_
    refine lv_icmp_ge (tgt := 33) hx hb dX12_beginKept_10 (by decide) (fun b1 => ?_) (fun b1 => ?_)
    · have hm := i_t b1 hm
      exact hX _ (st_exit hm hst) H locs hP hD hS ls (lv_sub hl [] rfl)
    · have hm := i_f b1 hm
      refine lv_aload_n hx hb dX12_beginKept_13 rfl (lv_at hl 0 rfl) ?_
      refine va_get (D := G) (ci := 10) (v := .ref (q 14)) (C := RX12) (T := TX12) (N := 33) hx hb hts hinX12 hown hK.1 hP 0 rfl rfl 17 (by decide) wd2 (fun _ h9 => h9) rfl dX12_beginKept_14 ?_
      refine lv_iload_n hx hb dX12_beginKept_17 rfl (lv_at hl 1 rfl) ?_
      refine lv_iconst (v := 0) hx hb dX12_beginKept_18 (by decide) ?_
      obtain ⟨h2, hm⟩ := g_in hm
      refine va_iast hx hb hK.1 hP hD hS 14 0 rfl rfl h2 dX12_beginKept_19 (fun H locs hP hD hS => ?_)
      have hP : va_P G vwCl (ww_M q cs v_told v_tell v_sums v_kindOf v_modOf v_bitsOf v_turnOf v_polyOf v_beginOf v_finishOf v_isLow v_weightsOf v_weight v_cell v_size v_row v_keptSize (upd v_keptBefore x2.toNatClampNeg 0) v_keptAfter v_placeA v_placeB v_turned v_turnedMany v_syndromes v_lightest v_freeMany v_freePlace v_freeSyndrome v_ways v_waysKept v_trace v_comesA v_comesB) H := hP
      have hD : va_D A (ww_M q cs v_told v_tell v_sums v_kindOf v_modOf v_bitsOf v_turnOf v_polyOf v_beginOf v_finishOf v_isLow v_weightsOf v_weight v_cell v_size v_row v_keptSize (upd v_keptBefore x2.toNatClampNeg 0) v_keptAfter v_placeA v_placeB v_turned v_turnedMany v_syndromes v_lightest v_freeMany v_freePlace v_freeSyndrome v_ways v_waysKept v_trace v_comesA v_comesB) := hD
      refine lv_aload_n hx hb dX12_beginKept_20 rfl (lv_at hl 0 rfl) ?_
      refine va_get (D := G) (ci := 10) (v := .ref (q 15)) (C := RX12) (T := TX12) (N := 33) hx hb hts hinX12 hown hK.1 hP 0 rfl rfl 18 (by decide) wd3 (fun _ h9 => h9) rfl dX12_beginKept_21 ?_
      refine lv_iload_n hx hb dX12_beginKept_24 rfl (lv_at hl 1 rfl) ?_
      refine lv_iconst (v := 0) hx hb dX12_beginKept_25 (by decide) ?_
      obtain ⟨h3, hm⟩ := g_in hm
      refine va_iast hx hb hK.1 hP hD hS 15 0 rfl rfl h3 dX12_beginKept_26 (fun H locs hP hD hS => ?_)
      have hP : va_P G vwCl (ww_M q cs v_told v_tell v_sums v_kindOf v_modOf v_bitsOf v_turnOf v_polyOf v_beginOf v_finishOf v_isLow v_weightsOf v_weight v_cell v_size v_row v_keptSize (upd v_keptBefore x2.toNatClampNeg 0) (upd v_keptAfter x2.toNatClampNeg 0) v_placeA v_placeB v_turned v_turnedMany v_syndromes v_lightest v_freeMany v_freePlace v_freeSyndrome v_ways v_waysKept v_trace v_comesA v_comesB) H := hP
      have hD : va_D A (ww_M q cs v_told v_tell v_sums v_kindOf v_modOf v_bitsOf v_turnOf v_polyOf v_beginOf v_finishOf v_isLow v_weightsOf v_weight v_cell v_size v_row v_keptSize (upd v_keptBefore x2.toNatClampNeg 0) (upd v_keptAfter x2.toNatClampNeg 0) v_placeA v_placeB v_turned v_turnedMany v_syndromes v_lightest v_freeMany v_freePlace v_freeSyndrome v_ways v_waysKept v_trace v_comesA v_comesB) := hD
      refine lv_iinc (v := x2 + 1) (lv' := [(2, .int (x2 + 1)), (0, .ref (q 0))]) hx hb dX12_beginKept_27 hl (k := 1) rfl rfl (by decide) rfl (fun ls hl => ?_)
      refine lv_goto (tgt := 7) hx hb dX12_beginKept_30 (by decide) ?_
      exact st_next hm hst H locs hP hD hS ls (lv_sub hl [1, 0] rfl)
  unfold M_X12_beginKept at hm
  refine lv_aload_n hx hb dX12_beginKept_0 rfl (lv_at hl 0 rfl) ?_
  refine lv_iload_n hx hb dX12_beginKept_1 rfl (lv_at hl 1 rfl) ?_
  refine va_put (D := G) (ci := 10) (v := .int x1) (ty := .int) (C := RX12) (T := TX12) (N := 33) hx hb hts hinX12 tyX12 tyX12_ok nmX12 hown hK.1 hP hD hS 0 rfl rfl 16 (by decide) wd1 (fun _ h9 => h9) rfl (by decide +kernel) rfl rfl (Nat.le_of_ble_eq_true rfl) dX12_beginKept_2 (fun H locs hP hD hS => ?_)
  have hP : va_P G vwCl (ww_M q cs v_told v_tell v_sums v_kindOf v_modOf v_bitsOf v_turnOf v_polyOf v_beginOf v_finishOf v_isLow v_weightsOf v_weight v_cell v_size v_row x1 v_keptBefore v_keptAfter v_placeA v_placeB v_turned v_turnedMany v_syndromes v_lightest v_freeMany v_freePlace v_freeSyndrome v_ways v_waysKept v_trace v_comesA v_comesB) H := hP
  have hD : va_D A (ww_M q cs v_told v_tell v_sums v_kindOf v_modOf v_bitsOf v_turnOf v_polyOf v_beginOf v_finishOf v_isLow v_weightsOf v_weight v_cell v_size v_row x1 v_keptBefore v_keptAfter v_placeA v_placeB v_turned v_turnedMany v_syndromes v_lightest v_freeMany v_freePlace v_freeSyndrome v_ways v_waysKept v_trace v_comesA v_comesB) := hD
  refine lv_iconst (v := 0) hx hb dX12_beginKept_5 (by decide) ?_
  refine lv_istore_n (lv' := [(2, .int 0), (0, .ref (q 0)), (1, .int x1)]) hx hb dX12_beginKept_6 rfl hl (by decide) rfl (fun ls hl => ?_)
  obtain ⟨o4, hlp4, hm⟩ := bs hm
  refine L7 (0 : Int32) x1 v_keptBefore v_keptAfter o4 hlp4 (fun oo ho => ?_) H locs hP hD hS ls (lv_sub hl [1, 0] rfl)
  subst ho
  intro H locs hP hD hS ls hl
  have hl : lv_has ls 3 [] := hl
  have hP : va_P G vwCl (ww_M q cs v_told v_tell v_sums v_kindOf v_modOf v_bitsOf v_turnOf v_polyOf v_beginOf v_finishOf v_isLow v_weightsOf v_weight v_cell v_size v_row x1 o4.1 o4.2 v_placeA v_placeB v_turned v_turnedMany v_syndromes v_lightest v_freeMany v_freePlace v_freeSyndrome v_ways v_waysKept v_trace v_comesA v_comesB) H := hP
  have hD : va_D A (ww_M q cs v_told v_tell v_sums v_kindOf v_modOf v_bitsOf v_turnOf v_polyOf v_beginOf v_finishOf v_isLow v_weightsOf v_weight v_cell v_size v_row x1 o4.1 o4.2 v_placeA v_placeB v_turned v_turnedMany v_syndromes v_lightest v_freeMany v_freePlace v_freeSyndrome v_ways v_waysKept v_trace v_comesA v_comesB) := hD
  have hq := Option.some.inj hm
  subst hq; subst hQ
  exact k_vret hx hb hr hlocks hP hD hS dX12_beginKept_33

theorem hd_X12_passesTurned : yX12_passesTurned.cls ≠ "java/lang/invoke/MethodHandle" ∧ yX12_passesTurned.cls ≠ "java/lang/invoke/VarHandle" ∧ (parseMethodDescriptor yX12_passesTurned.desc).map (fun d => d.parameters.length) = some 2 := by decide +kernel

def M_X12_passesTurned_b25 (n : Nat) (x1 : Int32) (x3 : Int32) (v_kindOf : (Nat → Int32)) (v_placeA : (Nat → Int64)) (v_placeB : (Nat → Int64)) (v_turned : (Nat → Int32)) (v_turnedMany : Int32) (x4 : Int32) (v_comesA : Int64) (v_comesB : Int64) : Option ((Int32 × Int64 × Int64) ⊕ (Int64 × Int64)) :=
  if v_turnedMany ≤ x4 then (some (.inr (v_comesA, v_comesB))) else (if x4 < 0 ∨ 8 ≤ x4.toNatClampNeg then none else if ((x3 >>> (((v_turnedMany - 1) - x4) &&& 31)) &&& 1) = 1 then ((M_X12_turn x1 (v_turned x4.toNatClampNeg) (1 : Int32) v_kindOf v_placeA v_placeB v_comesA v_comesB).bind fun r6 => some (.inl (x4 + 1, r6.1, r6.2))) else ((M_X12_turn x1 (v_turned x4.toNatClampNeg) (0 : Int32) v_kindOf v_placeA v_placeB v_comesA v_comesB).bind fun r5 => some (.inl (x4 + 1, r5.1, r5.2))))

def M_X12_passesTurned_b90 (n : Nat) (x3 : Int32) (v_turned : (Nat → Int32)) (v_turnedMany : Int32) (x4 : Int32) (v_keptBefore : (Nat → Int32)) (v_keptAfter : (Nat → Int32)) : Option ((Int32 × (Nat → Int32) × (Nat → Int32)) ⊕ ((Nat → Int32) × (Nat → Int32))) :=
  if v_turnedMany ≤ x4 then (some (.inr (v_keptBefore, v_keptAfter))) else (if x4 < 0 ∨ 8 ≤ x4.toNatClampNeg then none else if ((x3 >>> (((v_turnedMany - 1) - x4) &&& 31)) &&& 1) = 1 then (if x4 < 0 ∨ 8 ≤ x4.toNatClampNeg then none else if ((v_turned x4.toNatClampNeg) / 8) < 0 ∨ 8 ≤ ((v_turned x4.toNatClampNeg) / 8).toNatClampNeg then none else if ((v_turned x4.toNatClampNeg) / 8) < 0 ∨ 8 ≤ ((v_turned x4.toNatClampNeg) / 8).toNatClampNeg then none else if x4 < 0 ∨ 8 ≤ x4.toNatClampNeg then none else if ((v_turned x4.toNatClampNeg) / 8) < 0 ∨ 8 ≤ ((v_turned x4.toNatClampNeg) / 8).toNatClampNeg then none else if ((v_turned x4.toNatClampNeg) / 8) < 0 ∨ 8 ≤ ((v_turned x4.toNatClampNeg) / 8).toNatClampNeg then none else some (.inl (x4 + 1, (upd v_keptBefore ((v_turned x4.toNatClampNeg) / 8).toNatClampNeg ((v_keptBefore ((v_turned x4.toNatClampNeg) / 8).toNatClampNeg) ||| ((128 : Int32) >>> (((v_turned x4.toNatClampNeg) - (v_turned x4.toNatClampNeg) / 8 * 8) &&& 31)))), (upd v_keptAfter ((v_turned x4.toNatClampNeg) / 8).toNatClampNeg ((v_keptAfter ((v_turned x4.toNatClampNeg) / 8).toNatClampNeg) ||| 0))))) else (if x4 < 0 ∨ 8 ≤ x4.toNatClampNeg then none else if ((v_turned x4.toNatClampNeg) / 8) < 0 ∨ 8 ≤ ((v_turned x4.toNatClampNeg) / 8).toNatClampNeg then none else if ((v_turned x4.toNatClampNeg) / 8) < 0 ∨ 8 ≤ ((v_turned x4.toNatClampNeg) / 8).toNatClampNeg then none else if x4 < 0 ∨ 8 ≤ x4.toNatClampNeg then none else if ((v_turned x4.toNatClampNeg) / 8) < 0 ∨ 8 ≤ ((v_turned x4.toNatClampNeg) / 8).toNatClampNeg then none else if ((v_turned x4.toNatClampNeg) / 8) < 0 ∨ 8 ≤ ((v_turned x4.toNatClampNeg) / 8).toNatClampNeg then none else some (.inl (x4 + 1, (upd v_keptBefore ((v_turned x4.toNatClampNeg) / 8).toNatClampNeg ((v_keptBefore ((v_turned x4.toNatClampNeg) / 8).toNatClampNeg) ||| 0)), (upd v_keptAfter ((v_turned x4.toNatClampNeg) / 8).toNatClampNeg ((v_keptAfter ((v_turned x4.toNatClampNeg) / 8).toNatClampNeg) ||| ((128 : Int32) >>> (((v_turned x4.toNatClampNeg) - (v_turned x4.toNatClampNeg) / 8 * 8) &&& 31))))))))

def M_X12_passesTurned_b2 (n : Nat) (x1 : Int32) (x2 : Int32) (v_kindOf : (Nat → Int32)) (v_modOf : (Nat → Int32)) (v_keptSize : Int32) (v_keptBefore : (Nat → Int32)) (v_keptAfter : (Nat → Int32)) (v_placeA : (Nat → Int64)) (v_placeB : (Nat → Int64)) (v_turned : (Nat → Int32)) (v_turnedMany : Int32) (x3 : Int32) (v_comesA : Int64) (v_comesB : Int64) : Option ((Int32 × Int64 × Int64) ⊕ ((Int64 × Int64) ⊕ (Int32 × Int32 × (Nat → Int32) × (Nat → Int32) × Int64 × Int64))) :=
  if ((1 : Int32) <<< (v_turnedMany &&& 31)) ≤ x3 then (some (.inr (.inl (v_comesA, v_comesB)))) else ((lp (fun x : (Int32 × Int64 × Int64) => M_X12_passesTurned_b25 n x1 x3 v_kindOf v_placeA v_placeB v_turned v_turnedMany x.1 x.2.1 x.2.2) n ((0 : Int32), (0 : Int64), (0 : Int64))).bind fun o7 => (M_X12_isNothing x1 v_kindOf v_modOf o7.1 o7.2).bind fun r8 => if r8 = 0 then ((M_X12_isXor x1 v_kindOf).bind fun r11 => if r11 = 0 then (some (.inl (x3 + 1, o7.1, o7.2))) else (some (.inr (.inr (0, v_keptSize, v_keptBefore, v_keptAfter, o7.1, o7.2))))) else ((M_X12_beginKept n x2 v_keptSize v_keptBefore v_keptAfter).bind fun r14 => (lp (fun x : (Int32 × (Nat → Int32) × (Nat → Int32)) => M_X12_passesTurned_b90 n x3 v_turned v_turnedMany x.1 x.2.1 x.2.2) n ((0 : Int32), r14.2.1, r14.2.2)).bind fun o30 => some (.inr (.inr (1, r14.1, o30.1, o30.2, o7.1, o7.2)))))

def M_X12_passesTurned (n : Nat) (x1 : Int32) (x2 : Int32) (v_kindOf : (Nat → Int32)) (v_modOf : (Nat → Int32)) (v_keptSize : Int32) (v_keptBefore : (Nat → Int32)) (v_keptAfter : (Nat → Int32)) (v_placeA : (Nat → Int64)) (v_placeB : (Nat → Int64)) (v_turned : (Nat → Int32)) (v_turnedMany : Int32) (v_comesA : Int64) (v_comesB : Int64) : Option (Int32 × Int32 × (Nat → Int32) × (Nat → Int32) × Int64 × Int64) :=
  (lp (fun x : (Int32 × Int64 × Int64) => M_X12_passesTurned_b2 n x1 x2 v_kindOf v_modOf v_keptSize v_keptBefore v_keptAfter v_placeA v_placeB v_turned v_turnedMany x.1 x.2.1 x.2.2) n ((0 : Int32), v_comesA, v_comesB)).bind (Sum.elim (fun o31 => some (0, v_keptSize, v_keptBefore, v_keptAfter, o31.1, o31.2)) (fun r => some r))

abbrev rmX12_passesTurned : Room := { frames := 2, cells := 0, slots := 0, locals := 44 }
set_option maxHeartbeats 4000000 in
set_option maxRecDepth 100000 in
theorem c_X12_passesTurned (l : Launch) (G : va_G) (cs : CS) (q : Nat → Nat) (sz : Nat) (v_told : Int32) (v_tell : (Nat → Int32)) (v_sums : Int32) (v_kindOf : (Nat → Int32)) (v_modOf : (Nat → Int32)) (v_bitsOf : (Nat → Int32)) (v_turnOf : (Nat → Int32)) (v_polyOf : (Nat → Int64)) (v_beginOf : (Nat → Int64)) (v_finishOf : (Nat → Int64)) (v_isLow : (Nat → Int32)) (v_weightsOf : (Nat → Int32)) (v_weight : (Nat → Int32)) (v_cell : (Nat → Int32)) (v_size : Int32) (v_row : (Nat → Int32)) (v_keptSize : Int32) (v_keptBefore : (Nat → Int32)) (v_keptAfter : (Nat → Int32)) (v_placeA : (Nat → Int64)) (v_placeB : (Nat → Int64)) (v_turned : (Nat → Int32)) (v_turnedMany : Int32) (v_syndromes : (Nat → Int64)) (v_lightest : (Nat → Int32)) (v_freeMany : Int32) (v_freePlace : (Nat → Int32)) (v_freeSyndrome : (Nat → Int64)) (v_ways : (Nat → Int32)) (v_waysKept : Int32) (v_trace : (Nat → Int32)) (v_comesA : Int64) (v_comesB : Int64)   (x1 : Int32) (x2 : Int32) (n : Nat) (res : (Int32 × Int32 × (Nat → Int32) × (Nat → Int32) × Int64 × Int64)) (hm : M_X12_passesTurned n x1 x2 v_kindOf v_modOf v_keptSize v_keptBefore v_keptAfter v_placeA v_placeB v_turned v_turnedMany v_comesA v_comesB = some res) : Met l yX12_passesTurned wsX12_passesTurned rmX12_passesTurned (va_Pc [.ref (q 0), .int x1, .int x2] (PreW G cs sz (ww_M q cs v_told v_tell v_sums v_kindOf v_modOf v_bitsOf v_turnOf v_polyOf v_beginOf v_finishOf v_isLow v_weightsOf v_weight v_cell v_size v_row v_keptSize v_keptBefore v_keptAfter v_placeA v_placeB v_turned v_turnedMany v_syndromes v_lightest v_freeMany v_freePlace v_freeSyndrome v_ways v_waysKept v_trace v_comesA v_comesB) RN)) (QI G res.1 (res.1 = 0 ∨ res.1 = 1) (ww_M q cs v_told v_tell v_sums v_kindOf v_modOf v_bitsOf v_turnOf v_polyOf v_beginOf v_finishOf v_isLow v_weightsOf v_weight v_cell v_size v_row res.2.1 res.2.2.1 res.2.2.2.1 v_placeA v_placeB v_turned v_turnedMany v_syndromes v_lightest v_freeMany v_freePlace v_freeSyndrome v_ways v_waysKept v_trace res.2.2.2.2.1 res.2.2.2.2.2) (va_A (ww_M q cs v_told v_tell v_sums v_kindOf v_modOf v_bitsOf v_turnOf v_polyOf v_beginOf v_finishOf v_isLow v_weightsOf v_weight v_cell v_size v_row v_keptSize v_keptBefore v_keptAfter v_placeA v_placeB v_turned v_turnedMany v_syndromes v_lightest v_freeMany v_freePlace v_freeSyndrome v_ways v_waysKept v_trace v_comesA v_comesB) sz)) 0 0 (va_A (ww_M q cs v_told v_tell v_sums v_kindOf v_modOf v_bitsOf v_turnOf v_polyOf v_beginOf v_finishOf v_isLow v_weightsOf v_weight v_cell v_size v_row v_keptSize v_keptBefore v_keptAfter v_placeA v_placeB v_turned v_turnedMany v_syndromes v_lightest v_freeMany v_freePlace v_freeSyndrome v_ways v_waysKept v_trace v_comesA v_comesB) sz) := by
  refine k_enter (Qf := fun A => QI G res.1 (res.1 = 0 ∨ res.1 = 1) (ww_M q cs v_told v_tell v_sums v_kindOf v_modOf v_bitsOf v_turnOf v_polyOf v_beginOf v_finishOf v_isLow v_weightsOf v_weight v_cell v_size v_row res.2.1 res.2.2.1 res.2.2.2.1 v_placeA v_placeB v_turned v_turnedMany v_syndromes v_lightest v_freeMany v_freePlace v_freeSyndrome v_ways v_waysKept v_trace res.2.2.2.2.1 res.2.2.2.2.2) A) (cc := cX12_passesTurned) (maxL := 7) (ret := (some .boolean)) (plainFor_of_name (by decide)) rfl (Nat.le_of_ble_eq_true rfl) ?_
  intro p e s m args below meth c A Q ls H locs hx hb hr hml hown hts hlocks hname hK hA hRo hP hD hS hQ hl
  have hl : lv_has ls 7 [(0, .ref (q 0)), (1, .int x1), (2, .int x2)] := hl
  have wd1 := hts (.fieldLink RX12 193 "SumSmithModel" "turnedMany" "I") (List.mem_of_getElem? (i := 1) rfl)
  have wd2 := hts (.fieldLink RX12 183 "SumSmithModel" "comesA" "J") (List.mem_of_getElem? (i := 2) rfl)
  have wd3 := hts (.fieldLink RX12 187 "SumSmithModel" "comesB" "J") (List.mem_of_getElem? (i := 3) rfl)
  have wd4 := hts (.fieldLink RX12 63 "SumSmithModel" "turned" "[I") (List.mem_of_getElem? (i := 4) rfl)
  have wd5 := hts (.fieldLink RX12 51 "SumSmithModel" "keptBefore" "[I") (List.mem_of_getElem? (i := 5) rfl)
  have wd6 := hts (.fieldLink RX12 54 "SumSmithModel" "keptAfter" "[I") (List.mem_of_getElem? (i := 6) rfl)
  have hinX12 : ∀ w ∈ wsX120, w ∈ wsX12_passesTurned := fun w h => List.mem_cons_of_mem _ (List.mem_append_right _ h)
  have L25 : ∀ (x1 : Int32) (x2 : Int32) (x3 : Int32) (x4 : Int32) (v_keptSize : Int32) (v_keptBefore : (Nat → Int32)) (v_keptAfter : (Nat → Int32)) (v_comesA : Int64) (v_comesB : Int64) (out : (Int64 × Int64)), lp (fun x : (Int32 × Int64 × Int64) => M_X12_passesTurned_b25 n x1 x3 v_kindOf v_placeA v_placeB v_turned v_turnedMany x.1 x.2.1 x.2.2) n (x4, v_comesA, v_comesB) = some out → (∀ (o : (Int64 × Int64)), out = o → ∀ (H : Heap) (locs : List Loc), va_P G vwCl (ww_M q cs v_told v_tell v_sums v_kindOf v_modOf v_bitsOf v_turnOf v_polyOf v_beginOf v_finishOf v_isLow v_weightsOf v_weight v_cell v_size v_row v_keptSize v_keptBefore v_keptAfter v_placeA v_placeB v_turned v_turnedMany v_syndromes v_lightest v_freeMany v_freePlace v_freeSyndrome v_ways v_waysKept v_trace o.1 o.2) H → va_D A (ww_M q cs v_told v_tell v_sums v_kindOf v_modOf v_bitsOf v_turnOf v_polyOf v_beginOf v_finishOf v_isLow v_weightsOf v_weight v_cell v_size v_row v_keptSize v_keptBefore v_keptAfter v_placeA v_placeB v_turned v_turnedMany v_syndromes v_lightest v_freeMany v_freePlace v_freeSyndrome v_ways v_waysKept v_trace o.1 o.2) → va_S A s.heap H locs → ∀ (ls : Array Slot), lv_has ls 7 [(0, .ref (q 0)), (1, .int x1), (2, .int x2), (3, .int x3)] → W p l e rmX12_passesTurned s m args below meth c H locs 0 0 Q (F0 m 74 ls [])) → ∀ (H : Heap) (locs : List Loc), va_P G vwCl (ww_M q cs v_told v_tell v_sums v_kindOf v_modOf v_bitsOf v_turnOf v_polyOf v_beginOf v_finishOf v_isLow v_weightsOf v_weight v_cell v_size v_row v_keptSize v_keptBefore v_keptAfter v_placeA v_placeB v_turned v_turnedMany v_syndromes v_lightest v_freeMany v_freePlace v_freeSyndrome v_ways v_waysKept v_trace v_comesA v_comesB) H → va_D A (ww_M q cs v_told v_tell v_sums v_kindOf v_modOf v_bitsOf v_turnOf v_polyOf v_beginOf v_finishOf v_isLow v_weightsOf v_weight v_cell v_size v_row v_keptSize v_keptBefore v_keptAfter v_placeA v_placeB v_turned v_turnedMany v_syndromes v_lightest v_freeMany v_freePlace v_freeSyndrome v_ways v_waysKept v_trace v_comesA v_comesB) → va_S A s.heap H locs → ∀ (ls : Array Slot), lv_has ls 7 [(0, .ref (q 0)), (1, .int x1), (2, .int x2), (3, .int x3), (4, .int x4)] → W p l e rmX12_passesTurned s m args below meth c H locs 0 0 Q (F0 m 25 ls []) := by
    intro x1 x2 x3 x4 v_keptSize v_keptBefore v_keptAfter v_comesA v_comesB out hlp hX
    refine lp_ind (fun x => ∀ (H : Heap) (locs : List Loc), va_P G vwCl (ww_M q cs v_told v_tell v_sums v_kindOf v_modOf v_bitsOf v_turnOf v_polyOf v_beginOf v_finishOf v_isLow v_weightsOf v_weight v_cell v_size v_row v_keptSize v_keptBefore v_keptAfter v_placeA v_placeB v_turned v_turnedMany v_syndromes v_lightest v_freeMany v_freePlace v_freeSyndrome v_ways v_waysKept v_trace x.2.1 x.2.2) H → va_D A (ww_M q cs v_told v_tell v_sums v_kindOf v_modOf v_bitsOf v_turnOf v_polyOf v_beginOf v_finishOf v_isLow v_weightsOf v_weight v_cell v_size v_row v_keptSize v_keptBefore v_keptAfter v_placeA v_placeB v_turned v_turnedMany v_syndromes v_lightest v_freeMany v_freePlace v_freeSyndrome v_ways v_waysKept v_trace x.2.1 x.2.2) → va_S A s.heap H locs → ∀ (ls : Array Slot), lv_has ls 7 [(0, .ref (q 0)), (1, .int x1), (2, .int x2), (3, .int x3), (4, .int x.1)] → W p l e rmX12_passesTurned s m args below meth c H locs 0 0 Q (F0 m 25 ls [])) ?_ n (x4, v_comesA, v_comesB) hlp
    clear hlp hP hD hS hl
    rintro ⟨x4, v_comesA, v_comesB⟩ ob hm hst H locs hP hD hS ls hl
    have hm : M_X12_passesTurned_b25 n x1 x3 v_kindOf v_placeA v_placeB v_turned v_turnedMany x4 v_comesA v_comesB = some ob := hm
    have hl : lv_has ls 7 [(0, .ref (q 0)), (1, .int x1), (2, .int x2), (3, .int x3), (4, .int x4)] := hl
    have hP : va_P G vwCl (ww_M q cs v_told v_tell v_sums v_kindOf v_modOf v_bitsOf v_turnOf v_polyOf v_beginOf v_finishOf v_isLow v_weightsOf v_weight v_cell v_size v_row v_keptSize v_keptBefore v_keptAfter v_placeA v_placeB v_turned v_turnedMany v_syndromes v_lightest v_freeMany v_freePlace v_freeSyndrome v_ways v_waysKept v_trace v_comesA v_comesB) H := hP
    have hD : va_D A (ww_M q cs v_told v_tell v_sums v_kindOf v_modOf v_bitsOf v_turnOf v_polyOf v_beginOf v_finishOf v_isLow v_weightsOf v_weight v_cell v_size v_row v_keptSize v_keptBefore v_keptAfter v_placeA v_placeB v_turned v_turnedMany v_syndromes v_lightest v_freeMany v_freePlace v_freeSyndrome v_ways v_waysKept v_trace v_comesA v_comesB) := hD
    unfold M_X12_passesTurned_b25 at hm
    refine lv_iload hx hb dX12_passesTurned_25 (lv_at hl 4 rfl) ?_
    refine lv_aload_n hx hb dX12_passesTurned_27 rfl (lv_at hl 0 rfl) ?_
    refine va_get (D := G) (ci := 10) (v := .int v_turnedMany) (C := RX12) (T := TX12) (N := 33) hx hb hts hinX12 hown hK.1 hP 0 rfl rfl 22 (by decide) wd1 (fun _ h9 => h9) rfl dX12_passesTurned_28 ?_
    refine lv_icmp_ge (tgt := 74) hx hb dX12_passesTurned_31 (by decide) (fun b2 => ?_) (fun b2 => ?_)
    · have hm := i_t b2 hm
      exact hX _ (st_exit hm hst) H locs hP hD hS ls (lv_sub hl [0, 1, 2, 3] rfl)
    · have hm := i_f b2 hm
      refine lv_aload_n hx hb dX12_passesTurned_34 rfl (lv_at hl 0 rfl) ?_
      refine lv_iload_n hx hb dX12_passesTurned_35 rfl (lv_at hl 1 rfl) ?_
      refine lv_aload_n hx hb dX12_passesTurned_36 rfl (lv_at hl 0 rfl) ?_
      refine va_get (D := G) (ci := 10) (v := .ref (q 18)) (C := RX12) (T := TX12) (N := 33) hx hb hts hinX12 hown hK.1 hP 0 rfl rfl 21 (by decide) wd4 (fun _ h9 => h9) rfl dX12_passesTurned_37 ?_
      refine lv_iload hx hb dX12_passesTurned_40 (lv_at hl 4 rfl) ?_
      obtain ⟨h3, hm⟩ := g_in hm
      refine va_iald hx hb hK.1 hP 18 0 rfl rfl h3 dX12_passesTurned_42 ?_
      refine lv_iload_n hx hb dX12_passesTurned_43 rfl (lv_at hl 3 rfl) ?_
      refine lv_aload_n hx hb dX12_passesTurned_44 rfl (lv_at hl 0 rfl) ?_
      refine va_get (D := G) (ci := 10) (v := .int v_turnedMany) (C := RX12) (T := TX12) (N := 33) hx hb hts hinX12 hown hK.1 hP 0 rfl rfl 22 (by decide) wd1 (fun _ h9 => h9) rfl dX12_passesTurned_45 ?_
      refine lv_iconst (v := 1) hx hb dX12_passesTurned_48 (by decide) ?_
      refine lv_isub hx hb dX12_passesTurned_49 ?_
      refine lv_iload hx hb dX12_passesTurned_50 (lv_at hl 4 rfl) ?_
      refine lv_isub hx hb dX12_passesTurned_52 ?_
      refine lv_ishr hx hb dX12_passesTurned_53 ?_
      refine lv_iconst (v := 1) hx hb dX12_passesTurned_54 (by decide) ?_
      refine lv_iand hx hb dX12_passesTurned_55 ?_
      refine lv_iconst (v := 1) hx hb dX12_passesTurned_56 (by decide) ?_
      refine lv_icmp_ne (tgt := 64) hx hb dX12_passesTurned_57 (by decide) (fun b4 => ?_) (fun b4 => ?_)
      · have hm := i_f b4 hm
        refine lv_iconst (v := 0) hx hb dX12_passesTurned_64 (by decide) ?_
        obtain ⟨r5, hc_r5, hm⟩ := bs hm
        refine k_callv (va_runV (As := [.int x1, .int (v_turned x4.toNatClampNeg), .int 0]) (rest := []) ⟨hx, hb, hml, hown, hts⟩ (c_X12_turn l G cs q H.size v_told v_tell v_sums v_kindOf v_modOf v_bitsOf v_turnOf v_polyOf v_beginOf v_finishOf v_isLow v_weightsOf v_weight v_cell v_size v_row v_keptSize v_keptBefore v_keptAfter v_placeA v_placeB v_turned v_turnedMany v_syndromes v_lightest v_freeMany v_freePlace v_freeSyndrome v_ways v_waysKept v_trace v_comesA v_comesB   x1 (v_turned x4.toNatClampNeg) (0 : Int32) r5 hc_r5) (cwV 3 hts gX12_passesTurned_X12_turn rfl rfl rfl ⟨rfl, hd_X12_turn⟩ ⟨Nat.le_of_ble_eq_true rfl, Nat.le_of_ble_eq_true rfl⟩) ⟨pre_blind, va_recv hK.1 hP (ci := 10) (q0 := 0) rfl rfl, pre_w hK RO.nil hP hD (va_all hD hS hA)⟩ rfl rfl hl.1 rfl (lv_room (Nat.le_of_ble_eq_true rfl)) dX12_passesTurned_65 ⟨Nat.zero_le _, Nat.zero_le _⟩) hS (va_all hD hS hA) (fun H locs hP hD hS => ?_)
        have hP : va_P G vwCl (ww_M q cs v_told v_tell v_sums v_kindOf v_modOf v_bitsOf v_turnOf v_polyOf v_beginOf v_finishOf v_isLow v_weightsOf v_weight v_cell v_size v_row v_keptSize v_keptBefore v_keptAfter v_placeA v_placeB v_turned v_turnedMany v_syndromes v_lightest v_freeMany v_freePlace v_freeSyndrome v_ways v_waysKept v_trace r5.1 r5.2) H := hP
        have hD : va_D A (ww_M q cs v_told v_tell v_sums v_kindOf v_modOf v_bitsOf v_turnOf v_polyOf v_beginOf v_finishOf v_isLow v_weightsOf v_weight v_cell v_size v_row v_keptSize v_keptBefore v_keptAfter v_placeA v_placeB v_turned v_turnedMany v_syndromes v_lightest v_freeMany v_freePlace v_freeSyndrome v_ways v_waysKept v_trace r5.1 r5.2) := hD
        refine lv_iinc (v := x4 + 1) (lv' := [(4, .int (x4 + 1)), (0, .ref (q 0)), (1, .int x1), (2, .int x2), (3, .int x3)]) hx hb dX12_passesTurned_68 hl (k := 4) rfl rfl (by decide) rfl (fun ls hl => ?_)
        refine lv_goto (tgt := 25) hx hb dX12_passesTurned_71 (by decide) ?_
        exact st_next hm hst H locs hP hD hS ls (lv_sub hl [1, 2, 3, 4, 0] rfl)
      · have hm := i_t b4 hm
        refine lv_iconst (v := 1) hx hb dX12_passesTurned_60 (by decide) ?_
        refine lv_goto (tgt := 65) hx hb dX12_passesTurned_61 (by decide) ?_
        obtain ⟨r6, hc_r6, hm⟩ := bs hm
        refine k_callv (va_runV (As := [.int x1, .int (v_turned x4.toNatClampNeg), .int 1]) (rest := []) ⟨hx, hb, hml, hown, hts⟩ (c_X12_turn l G cs q H.size v_told v_tell v_sums v_kindOf v_modOf v_bitsOf v_turnOf v_polyOf v_beginOf v_finishOf v_isLow v_weightsOf v_weight v_cell v_size v_row v_keptSize v_keptBefore v_keptAfter v_placeA v_placeB v_turned v_turnedMany v_syndromes v_lightest v_freeMany v_freePlace v_freeSyndrome v_ways v_waysKept v_trace v_comesA v_comesB   x1 (v_turned x4.toNatClampNeg) (1 : Int32) r6 hc_r6) (cwV 3 hts gX12_passesTurned_X12_turn rfl rfl rfl ⟨rfl, hd_X12_turn⟩ ⟨Nat.le_of_ble_eq_true rfl, Nat.le_of_ble_eq_true rfl⟩) ⟨pre_blind, va_recv hK.1 hP (ci := 10) (q0 := 0) rfl rfl, pre_w hK RO.nil hP hD (va_all hD hS hA)⟩ rfl rfl hl.1 rfl (lv_room (Nat.le_of_ble_eq_true rfl)) dX12_passesTurned_65 ⟨Nat.zero_le _, Nat.zero_le _⟩) hS (va_all hD hS hA) (fun H locs hP hD hS => ?_)
        have hP : va_P G vwCl (ww_M q cs v_told v_tell v_sums v_kindOf v_modOf v_bitsOf v_turnOf v_polyOf v_beginOf v_finishOf v_isLow v_weightsOf v_weight v_cell v_size v_row v_keptSize v_keptBefore v_keptAfter v_placeA v_placeB v_turned v_turnedMany v_syndromes v_lightest v_freeMany v_freePlace v_freeSyndrome v_ways v_waysKept v_trace r6.1 r6.2) H := hP
        have hD : va_D A (ww_M q cs v_told v_tell v_sums v_kindOf v_modOf v_bitsOf v_turnOf v_polyOf v_beginOf v_finishOf v_isLow v_weightsOf v_weight v_cell v_size v_row v_keptSize v_keptBefore v_keptAfter v_placeA v_placeB v_turned v_turnedMany v_syndromes v_lightest v_freeMany v_freePlace v_freeSyndrome v_ways v_waysKept v_trace r6.1 r6.2) := hD
        refine lv_iinc (v := x4 + 1) (lv' := [(4, .int (x4 + 1)), (0, .ref (q 0)), (1, .int x1), (2, .int x2), (3, .int x3)]) hx hb dX12_passesTurned_68 hl (k := 4) rfl rfl (by decide) rfl (fun ls hl => ?_)
        refine lv_goto (tgt := 25) hx hb dX12_passesTurned_71 (by decide) ?_
        exact st_next hm hst H locs hP hD hS ls (lv_sub hl [1, 2, 3, 4, 0] rfl)
  have L90 : ∀ (x3 : Int32) (x4 : Int32) (v_keptSize : Int32) (v_keptBefore : (Nat → Int32)) (v_keptAfter : (Nat → Int32)) (v_comesA : Int64) (v_comesB : Int64) (out : ((Nat → Int32) × (Nat → Int32))), lp (fun x : (Int32 × (Nat → Int32) × (Nat → Int32)) => M_X12_passesTurned_b90 n x3 v_turned v_turnedMany x.1 x.2.1 x.2.2) n (x4, v_keptBefore, v_keptAfter) = some out → (∀ (o : ((Nat → Int32) × (Nat → Int32))), out = o → ∀ (H : Heap) (locs : List Loc), va_P G vwCl (ww_M q cs v_told v_tell v_sums v_kindOf v_modOf v_bitsOf v_turnOf v_polyOf v_beginOf v_finishOf v_isLow v_weightsOf v_weight v_cell v_size v_row v_keptSize o.1 o.2 v_placeA v_placeB v_turned v_turnedMany v_syndromes v_lightest v_freeMany v_freePlace v_freeSyndrome v_ways v_waysKept v_trace v_comesA v_comesB) H → va_D A (ww_M q cs v_told v_tell v_sums v_kindOf v_modOf v_bitsOf v_turnOf v_polyOf v_beginOf v_finishOf v_isLow v_weightsOf v_weight v_cell v_size v_row v_keptSize o.1 o.2 v_placeA v_placeB v_turned v_turnedMany v_syndromes v_lightest v_freeMany v_freePlace v_freeSyndrome v_ways v_waysKept v_trace v_comesA v_comesB) → va_S A s.heap H locs → ∀ (ls : Array Slot), lv_has ls 7 [] → W p l e rmX12_passesTurned s m args below meth c H locs 0 0 Q (F0 m 203 ls [])) → ∀ (H : Heap) (locs : List Loc), va_P G vwCl (ww_M q cs v_told v_tell v_sums v_kindOf v_modOf v_bitsOf v_turnOf v_polyOf v_beginOf v_finishOf v_isLow v_weightsOf v_weight v_cell v_size v_row v_keptSize v_keptBefore v_keptAfter v_placeA v_placeB v_turned v_turnedMany v_syndromes v_lightest v_freeMany v_freePlace v_freeSyndrome v_ways v_waysKept v_trace v_comesA v_comesB) H → va_D A (ww_M q cs v_told v_tell v_sums v_kindOf v_modOf v_bitsOf v_turnOf v_polyOf v_beginOf v_finishOf v_isLow v_weightsOf v_weight v_cell v_size v_row v_keptSize v_keptBefore v_keptAfter v_placeA v_placeB v_turned v_turnedMany v_syndromes v_lightest v_freeMany v_freePlace v_freeSyndrome v_ways v_waysKept v_trace v_comesA v_comesB) → va_S A s.heap H locs → ∀ (ls : Array Slot), lv_has ls 7 [(0, .ref (q 0)), (3, .int x3), (4, .int x4)] → W p l e rmX12_passesTurned s m args below meth c H locs 0 0 Q (F0 m 90 ls []) := by
    intro x3 x4 v_keptSize v_keptBefore v_keptAfter v_comesA v_comesB out hlp hX
    refine lp_ind (fun x => ∀ (H : Heap) (locs : List Loc), va_P G vwCl (ww_M q cs v_told v_tell v_sums v_kindOf v_modOf v_bitsOf v_turnOf v_polyOf v_beginOf v_finishOf v_isLow v_weightsOf v_weight v_cell v_size v_row v_keptSize x.2.1 x.2.2 v_placeA v_placeB v_turned v_turnedMany v_syndromes v_lightest v_freeMany v_freePlace v_freeSyndrome v_ways v_waysKept v_trace v_comesA v_comesB) H → va_D A (ww_M q cs v_told v_tell v_sums v_kindOf v_modOf v_bitsOf v_turnOf v_polyOf v_beginOf v_finishOf v_isLow v_weightsOf v_weight v_cell v_size v_row v_keptSize x.2.1 x.2.2 v_placeA v_placeB v_turned v_turnedMany v_syndromes v_lightest v_freeMany v_freePlace v_freeSyndrome v_ways v_waysKept v_trace v_comesA v_comesB) → va_S A s.heap H locs → ∀ (ls : Array Slot), lv_has ls 7 [(0, .ref (q 0)), (3, .int x3), (4, .int x.1)] → W p l e rmX12_passesTurned s m args below meth c H locs 0 0 Q (F0 m 90 ls [])) ?_ n (x4, v_keptBefore, v_keptAfter) hlp
    clear hlp hP hD hS hl
    rintro ⟨x4, v_keptBefore, v_keptAfter⟩ ob hm hst H locs hP hD hS ls hl
    have hm : M_X12_passesTurned_b90 n x3 v_turned v_turnedMany x4 v_keptBefore v_keptAfter = some ob := hm
    have hl : lv_has ls 7 [(0, .ref (q 0)), (3, .int x3), (4, .int x4)] := hl
    have hP : va_P G vwCl (ww_M q cs v_told v_tell v_sums v_kindOf v_modOf v_bitsOf v_turnOf v_polyOf v_beginOf v_finishOf v_isLow v_weightsOf v_weight v_cell v_size v_row v_keptSize v_keptBefore v_keptAfter v_placeA v_placeB v_turned v_turnedMany v_syndromes v_lightest v_freeMany v_freePlace v_freeSyndrome v_ways v_waysKept v_trace v_comesA v_comesB) H := hP
    have hD : va_D A (ww_M q cs v_told v_tell v_sums v_kindOf v_modOf v_bitsOf v_turnOf v_polyOf v_beginOf v_finishOf v_isLow v_weightsOf v_weight v_cell v_size v_row v_keptSize v_keptBefore v_keptAfter v_placeA v_placeB v_turned v_turnedMany v_syndromes v_lightest v_freeMany v_freePlace v_freeSyndrome v_ways v_waysKept v_trace v_comesA v_comesB) := hD
    unfold M_X12_passesTurned_b90 at hm
    refine lv_iload hx hb dX12_passesTurned_90 (lv_at hl 2 rfl) ?_
    refine lv_aload_n hx hb dX12_passesTurned_92 rfl (lv_at hl 0 rfl) ?_
    refine va_get (D := G) (ci := 10) (v := .int v_turnedMany) (C := RX12) (T := TX12) (N := 33) hx hb hts hinX12 hown hK.1 hP 0 rfl rfl 22 (by decide) wd1 (fun _ h9 => h9) rfl dX12_passesTurned_93 ?_
    refine lv_icmp_ge (tgt := 203) hx hb dX12_passesTurned_96 (by decide) (fun b15 => ?_) (fun b15 => ?_)
    · have hm := i_t b15 hm
      exact hX _ (st_exit hm hst) H locs hP hD hS ls (lv_sub hl [] rfl)
    · have hm := i_f b15 hm
      refine lv_sipush (v := 128) hx hb dX12_passesTurned_99 (by decide) ?_
      refine lv_aload_n hx hb dX12_passesTurned_102 rfl (lv_at hl 0 rfl) ?_
      refine va_get (D := G) (ci := 10) (v := .ref (q 18)) (C := RX12) (T := TX12) (N := 33) hx hb hts hinX12 hown hK.1 hP 0 rfl rfl 21 (by decide) wd4 (fun _ h9 => h9) rfl dX12_passesTurned_103 ?_
      refine lv_iload hx hb dX12_passesTurned_106 (lv_at hl 2 rfl) ?_
      obtain ⟨h16, hm⟩ := g_in hm
      refine va_iald hx hb hK.1 hP 18 0 rfl rfl h16 dX12_passesTurned_108 ?_
      refine lv_bipush (v := 8) hx hb dX12_passesTurned_109 (by decide) ?_
      refine lv_irem hx hb dX12_passesTurned_111 (by decide) ?_
      refine lv_ishr hx hb dX12_passesTurned_112 ?_
      refine lv_istore (lv' := [(5, .int ((128 : Int32) >>> (((v_turned x4.toNatClampNeg) - (v_turned x4.toNatClampNeg) / 8 * 8) &&& 31))), (0, .ref (q 0)), (3, .int x3), (4, .int x4)]) hx hb dX12_passesTurned_113 hl (by decide) rfl (fun ls hl => ?_)
      refine lv_iload_n hx hb dX12_passesTurned_115 rfl (lv_at hl 2 rfl) ?_
      refine lv_aload_n hx hb dX12_passesTurned_116 rfl (lv_at hl 1 rfl) ?_
      refine va_get (D := G) (ci := 10) (v := .int v_turnedMany) (C := RX12) (T := TX12) (N := 33) hx hb hts hinX12 hown hK.1 hP 0 rfl rfl 22 (by decide) wd1 (fun _ h9 => h9) rfl dX12_passesTurned_117 ?_
      refine lv_iconst (v := 1) hx hb dX12_passesTurned_120 (by decide) ?_
      refine lv_isub hx hb dX12_passesTurned_121 ?_
      refine lv_iload hx hb dX12_passesTurned_122 (lv_at hl 3 rfl) ?_
      refine lv_isub hx hb dX12_passesTurned_124 ?_
      refine lv_ishr hx hb dX12_passesTurned_125 ?_
      refine lv_iconst (v := 1) hx hb dX12_passesTurned_126 (by decide) ?_
      refine lv_iand hx hb dX12_passesTurned_127 ?_
      refine lv_iconst (v := 1) hx hb dX12_passesTurned_128 (by decide) ?_
      refine lv_icmp_ne (tgt := 136) hx hb dX12_passesTurned_129 (by decide) (fun b17 => ?_) (fun b17 => ?_)
      · have hm := i_f b17 hm
        refine lv_iconst (v := 0) hx hb dX12_passesTurned_136 (by decide) ?_
        refine lv_istore (lv' := [(6, .int 0), (5, .int ((128 : Int32) >>> (((v_turned x4.toNatClampNeg) - (v_turned x4.toNatClampNeg) / 8 * 8) &&& 31))), (0, .ref (q 0)), (3, .int x3), (4, .int x4)]) hx hb dX12_passesTurned_137 hl (by decide) rfl (fun ls hl => ?_)
        refine lv_aload_n hx hb dX12_passesTurned_139 rfl (lv_at hl 2 rfl) ?_
        refine va_get (D := G) (ci := 10) (v := .ref (q 14)) (C := RX12) (T := TX12) (N := 33) hx hb hts hinX12 hown hK.1 hP 0 rfl rfl 17 (by decide) wd5 (fun _ h9 => h9) rfl dX12_passesTurned_140 ?_
        refine lv_aload_n hx hb dX12_passesTurned_143 rfl (lv_at hl 2 rfl) ?_
        refine va_get (D := G) (ci := 10) (v := .ref (q 18)) (C := RX12) (T := TX12) (N := 33) hx hb hts hinX12 hown hK.1 hP 0 rfl rfl 21 (by decide) wd4 (fun _ h9 => h9) rfl dX12_passesTurned_144 ?_
        refine lv_iload hx hb dX12_passesTurned_147 (lv_at hl 4 rfl) ?_
        obtain ⟨h18, hm⟩ := g_in hm
        refine va_iald hx hb hK.1 hP 18 0 rfl rfl h18 dX12_passesTurned_149 ?_
        refine lv_bipush (v := 8) hx hb dX12_passesTurned_150 (by decide) ?_
        refine lv_idiv hx hb dX12_passesTurned_152 (by decide) ?_
        refine lv_dup2_11 hx hb dX12_passesTurned_153 rfl rfl ?_
        obtain ⟨h19, hm⟩ := g_in hm
        refine va_iald hx hb hK.1 hP 14 0 rfl rfl h19 dX12_passesTurned_154 ?_
        refine lv_iload hx hb dX12_passesTurned_155 (lv_at hl 0 rfl) ?_
        refine lv_if_eq (tgt := 165) hx hb dX12_passesTurned_157 (by decide) (fun b9 => ?_) (fun b9 => absurd (by decide) b9)
        refine lv_iconst (v := 0) hx hb dX12_passesTurned_165 (by decide) ?_
        refine lv_ior hx hb dX12_passesTurned_166 ?_
        obtain ⟨h20, hm⟩ := g_in hm
        refine va_iast hx hb hK.1 hP hD hS 14 0 rfl rfl h20 dX12_passesTurned_167 (fun H locs hP hD hS => ?_)
        have hP : va_P G vwCl (ww_M q cs v_told v_tell v_sums v_kindOf v_modOf v_bitsOf v_turnOf v_polyOf v_beginOf v_finishOf v_isLow v_weightsOf v_weight v_cell v_size v_row v_keptSize (upd v_keptBefore ((v_turned x4.toNatClampNeg) / 8).toNatClampNeg ((v_keptBefore ((v_turned x4.toNatClampNeg) / 8).toNatClampNeg) ||| 0)) v_keptAfter v_placeA v_placeB v_turned v_turnedMany v_syndromes v_lightest v_freeMany v_freePlace v_freeSyndrome v_ways v_waysKept v_trace v_comesA v_comesB) H := hP
        have hD : va_D A (ww_M q cs v_told v_tell v_sums v_kindOf v_modOf v_bitsOf v_turnOf v_polyOf v_beginOf v_finishOf v_isLow v_weightsOf v_weight v_cell v_size v_row v_keptSize (upd v_keptBefore ((v_turned x4.toNatClampNeg) / 8).toNatClampNeg ((v_keptBefore ((v_turned x4.toNatClampNeg) / 8).toNatClampNeg) ||| 0)) v_keptAfter v_placeA v_placeB v_turned v_turnedMany v_syndromes v_lightest v_freeMany v_freePlace v_freeSyndrome v_ways v_waysKept v_trace v_comesA v_comesB) := hD
        refine lv_aload_n hx hb dX12_passesTurned_168 rfl (lv_at hl 2 rfl) ?_
        refine va_get (D := G) (ci := 10) (v := .ref (q 15)) (C := RX12) (T := TX12) (N := 33) hx hb hts hinX12 hown hK.1 hP 0 rfl rfl 18 (by decide) wd6 (fun _ h9 => h9) rfl dX12_passesTurned_169 ?_
        refine lv_aload_n hx hb dX12_passesTurned_172 rfl (lv_at hl 2 rfl) ?_
        refine va_get (D := G) (ci := 10) (v := .ref (q 18)) (C := RX12) (T := TX12) (N := 33) hx hb hts hinX12 hown hK.1 hP 0 rfl rfl 21 (by decide) wd4 (fun _ h9 => h9) rfl dX12_passesTurned_173 ?_
        refine lv_iload hx hb dX12_passesTurned_176 (lv_at hl 4 rfl) ?_
        obtain ⟨h21, hm⟩ := g_in hm
        refine va_iald hx hb hK.1 hP 18 0 rfl rfl h21 dX12_passesTurned_178 ?_
        refine lv_bipush (v := 8) hx hb dX12_passesTurned_179 (by decide) ?_
        refine lv_idiv hx hb dX12_passesTurned_181 (by decide) ?_
        refine lv_dup2_11 hx hb dX12_passesTurned_182 rfl rfl ?_
        obtain ⟨h22, hm⟩ := g_in hm
        refine va_iald hx hb hK.1 hP 15 0 rfl rfl h22 dX12_passesTurned_183 ?_
        refine lv_iload hx hb dX12_passesTurned_184 (lv_at hl 0 rfl) ?_
        refine lv_if_eq (tgt := 193) hx hb dX12_passesTurned_186 (by decide) (fun b9 => ?_) (fun b9 => absurd (by decide) b9)
        refine lv_iload hx hb dX12_passesTurned_193 (lv_at hl 1 rfl) ?_
        refine lv_ior hx hb dX12_passesTurned_195 ?_
        obtain ⟨h23, hm⟩ := g_in hm
        refine va_iast hx hb hK.1 hP hD hS 15 0 rfl rfl h23 dX12_passesTurned_196 (fun H locs hP hD hS => ?_)
        have hP : va_P G vwCl (ww_M q cs v_told v_tell v_sums v_kindOf v_modOf v_bitsOf v_turnOf v_polyOf v_beginOf v_finishOf v_isLow v_weightsOf v_weight v_cell v_size v_row v_keptSize (upd v_keptBefore ((v_turned x4.toNatClampNeg) / 8).toNatClampNeg ((v_keptBefore ((v_turned x4.toNatClampNeg) / 8).toNatClampNeg) ||| 0)) (upd v_keptAfter ((v_turned x4.toNatClampNeg) / 8).toNatClampNeg ((v_keptAfter ((v_turned x4.toNatClampNeg) / 8).toNatClampNeg) ||| ((128 : Int32) >>> (((v_turned x4.toNatClampNeg) - (v_turned x4.toNatClampNeg) / 8 * 8) &&& 31)))) v_placeA v_placeB v_turned v_turnedMany v_syndromes v_lightest v_freeMany v_freePlace v_freeSyndrome v_ways v_waysKept v_trace v_comesA v_comesB) H := hP
        have hD : va_D A (ww_M q cs v_told v_tell v_sums v_kindOf v_modOf v_bitsOf v_turnOf v_polyOf v_beginOf v_finishOf v_isLow v_weightsOf v_weight v_cell v_size v_row v_keptSize (upd v_keptBefore ((v_turned x4.toNatClampNeg) / 8).toNatClampNeg ((v_keptBefore ((v_turned x4.toNatClampNeg) / 8).toNatClampNeg) ||| 0)) (upd v_keptAfter ((v_turned x4.toNatClampNeg) / 8).toNatClampNeg ((v_keptAfter ((v_turned x4.toNatClampNeg) / 8).toNatClampNeg) ||| ((128 : Int32) >>> (((v_turned x4.toNatClampNeg) - (v_turned x4.toNatClampNeg) / 8 * 8) &&& 31)))) v_placeA v_placeB v_turned v_turnedMany v_syndromes v_lightest v_freeMany v_freePlace v_freeSyndrome v_ways v_waysKept v_trace v_comesA v_comesB) := hD
        refine lv_iinc (v := x4 + 1) (lv' := [(4, .int (x4 + 1)), (6, .int 0), (5, .int ((128 : Int32) >>> (((v_turned x4.toNatClampNeg) - (v_turned x4.toNatClampNeg) / 8 * 8) &&& 31))), (0, .ref (q 0)), (3, .int x3)]) hx hb dX12_passesTurned_197 hl (k := 4) rfl rfl (by decide) rfl (fun ls hl => ?_)
        refine lv_goto (tgt := 90) hx hb dX12_passesTurned_200 (by decide) ?_
        exact st_next hm hst H locs hP hD hS ls (lv_sub hl [3, 4, 0] rfl)
      · have hm := i_t b17 hm
        refine lv_iconst (v := 1) hx hb dX12_passesTurned_132 (by decide) ?_
        refine lv_goto (tgt := 137) hx hb dX12_passesTurned_133 (by decide) ?_
        refine lv_istore (lv' := [(6, .int 1), (5, .int ((128 : Int32) >>> (((v_turned x4.toNatClampNeg) - (v_turned x4.toNatClampNeg) / 8 * 8) &&& 31))), (0, .ref (q 0)), (3, .int x3), (4, .int x4)]) hx hb dX12_passesTurned_137 hl (by decide) rfl (fun ls hl => ?_)
        refine lv_aload_n hx hb dX12_passesTurned_139 rfl (lv_at hl 2 rfl) ?_
        refine va_get (D := G) (ci := 10) (v := .ref (q 14)) (C := RX12) (T := TX12) (N := 33) hx hb hts hinX12 hown hK.1 hP 0 rfl rfl 17 (by decide) wd5 (fun _ h9 => h9) rfl dX12_passesTurned_140 ?_
        refine lv_aload_n hx hb dX12_passesTurned_143 rfl (lv_at hl 2 rfl) ?_
        refine va_get (D := G) (ci := 10) (v := .ref (q 18)) (C := RX12) (T := TX12) (N := 33) hx hb hts hinX12 hown hK.1 hP 0 rfl rfl 21 (by decide) wd4 (fun _ h9 => h9) rfl dX12_passesTurned_144 ?_
        refine lv_iload hx hb dX12_passesTurned_147 (lv_at hl 4 rfl) ?_
        obtain ⟨h24, hm⟩ := g_in hm
        refine va_iald hx hb hK.1 hP 18 0 rfl rfl h24 dX12_passesTurned_149 ?_
        refine lv_bipush (v := 8) hx hb dX12_passesTurned_150 (by decide) ?_
        refine lv_idiv hx hb dX12_passesTurned_152 (by decide) ?_
        refine lv_dup2_11 hx hb dX12_passesTurned_153 rfl rfl ?_
        obtain ⟨h25, hm⟩ := g_in hm
        refine va_iald hx hb hK.1 hP 14 0 rfl rfl h25 dX12_passesTurned_154 ?_
        refine lv_iload hx hb dX12_passesTurned_155 (lv_at hl 0 rfl) ?_
        refine lv_if_eq (tgt := 165) hx hb dX12_passesTurned_157 (by decide) (fun b9 => absurd b9 (by decide)) (fun b9 => ?_)
        refine lv_iload hx hb dX12_passesTurned_160 (lv_at hl 1 rfl) ?_
        refine lv_goto (tgt := 166) hx hb dX12_passesTurned_162 (by decide) ?_
        refine lv_ior hx hb dX12_passesTurned_166 ?_
        obtain ⟨h26, hm⟩ := g_in hm
        refine va_iast hx hb hK.1 hP hD hS 14 0 rfl rfl h26 dX12_passesTurned_167 (fun H locs hP hD hS => ?_)
        have hP : va_P G vwCl (ww_M q cs v_told v_tell v_sums v_kindOf v_modOf v_bitsOf v_turnOf v_polyOf v_beginOf v_finishOf v_isLow v_weightsOf v_weight v_cell v_size v_row v_keptSize (upd v_keptBefore ((v_turned x4.toNatClampNeg) / 8).toNatClampNeg ((v_keptBefore ((v_turned x4.toNatClampNeg) / 8).toNatClampNeg) ||| ((128 : Int32) >>> (((v_turned x4.toNatClampNeg) - (v_turned x4.toNatClampNeg) / 8 * 8) &&& 31)))) v_keptAfter v_placeA v_placeB v_turned v_turnedMany v_syndromes v_lightest v_freeMany v_freePlace v_freeSyndrome v_ways v_waysKept v_trace v_comesA v_comesB) H := hP
        have hD : va_D A (ww_M q cs v_told v_tell v_sums v_kindOf v_modOf v_bitsOf v_turnOf v_polyOf v_beginOf v_finishOf v_isLow v_weightsOf v_weight v_cell v_size v_row v_keptSize (upd v_keptBefore ((v_turned x4.toNatClampNeg) / 8).toNatClampNeg ((v_keptBefore ((v_turned x4.toNatClampNeg) / 8).toNatClampNeg) ||| ((128 : Int32) >>> (((v_turned x4.toNatClampNeg) - (v_turned x4.toNatClampNeg) / 8 * 8) &&& 31)))) v_keptAfter v_placeA v_placeB v_turned v_turnedMany v_syndromes v_lightest v_freeMany v_freePlace v_freeSyndrome v_ways v_waysKept v_trace v_comesA v_comesB) := hD
        refine lv_aload_n hx hb dX12_passesTurned_168 rfl (lv_at hl 2 rfl) ?_
        refine va_get (D := G) (ci := 10) (v := .ref (q 15)) (C := RX12) (T := TX12) (N := 33) hx hb hts hinX12 hown hK.1 hP 0 rfl rfl 18 (by decide) wd6 (fun _ h9 => h9) rfl dX12_passesTurned_169 ?_
        refine lv_aload_n hx hb dX12_passesTurned_172 rfl (lv_at hl 2 rfl) ?_
        refine va_get (D := G) (ci := 10) (v := .ref (q 18)) (C := RX12) (T := TX12) (N := 33) hx hb hts hinX12 hown hK.1 hP 0 rfl rfl 21 (by decide) wd4 (fun _ h9 => h9) rfl dX12_passesTurned_173 ?_
        refine lv_iload hx hb dX12_passesTurned_176 (lv_at hl 4 rfl) ?_
        obtain ⟨h27, hm⟩ := g_in hm
        refine va_iald hx hb hK.1 hP 18 0 rfl rfl h27 dX12_passesTurned_178 ?_
        refine lv_bipush (v := 8) hx hb dX12_passesTurned_179 (by decide) ?_
        refine lv_idiv hx hb dX12_passesTurned_181 (by decide) ?_
        refine lv_dup2_11 hx hb dX12_passesTurned_182 rfl rfl ?_
        obtain ⟨h28, hm⟩ := g_in hm
        refine va_iald hx hb hK.1 hP 15 0 rfl rfl h28 dX12_passesTurned_183 ?_
        refine lv_iload hx hb dX12_passesTurned_184 (lv_at hl 0 rfl) ?_
        refine lv_if_eq (tgt := 193) hx hb dX12_passesTurned_186 (by decide) (fun b9 => absurd b9 (by decide)) (fun b9 => ?_)
        refine lv_iconst (v := 0) hx hb dX12_passesTurned_189 (by decide) ?_
        refine lv_goto (tgt := 195) hx hb dX12_passesTurned_190 (by decide) ?_
        refine lv_ior hx hb dX12_passesTurned_195 ?_
        obtain ⟨h29, hm⟩ := g_in hm
        refine va_iast hx hb hK.1 hP hD hS 15 0 rfl rfl h29 dX12_passesTurned_196 (fun H locs hP hD hS => ?_)
        have hP : va_P G vwCl (ww_M q cs v_told v_tell v_sums v_kindOf v_modOf v_bitsOf v_turnOf v_polyOf v_beginOf v_finishOf v_isLow v_weightsOf v_weight v_cell v_size v_row v_keptSize (upd v_keptBefore ((v_turned x4.toNatClampNeg) / 8).toNatClampNeg ((v_keptBefore ((v_turned x4.toNatClampNeg) / 8).toNatClampNeg) ||| ((128 : Int32) >>> (((v_turned x4.toNatClampNeg) - (v_turned x4.toNatClampNeg) / 8 * 8) &&& 31)))) (upd v_keptAfter ((v_turned x4.toNatClampNeg) / 8).toNatClampNeg ((v_keptAfter ((v_turned x4.toNatClampNeg) / 8).toNatClampNeg) ||| 0)) v_placeA v_placeB v_turned v_turnedMany v_syndromes v_lightest v_freeMany v_freePlace v_freeSyndrome v_ways v_waysKept v_trace v_comesA v_comesB) H := hP
        have hD : va_D A (ww_M q cs v_told v_tell v_sums v_kindOf v_modOf v_bitsOf v_turnOf v_polyOf v_beginOf v_finishOf v_isLow v_weightsOf v_weight v_cell v_size v_row v_keptSize (upd v_keptBefore ((v_turned x4.toNatClampNeg) / 8).toNatClampNeg ((v_keptBefore ((v_turned x4.toNatClampNeg) / 8).toNatClampNeg) ||| ((128 : Int32) >>> (((v_turned x4.toNatClampNeg) - (v_turned x4.toNatClampNeg) / 8 * 8) &&& 31)))) (upd v_keptAfter ((v_turned x4.toNatClampNeg) / 8).toNatClampNeg ((v_keptAfter ((v_turned x4.toNatClampNeg) / 8).toNatClampNeg) ||| 0)) v_placeA v_placeB v_turned v_turnedMany v_syndromes v_lightest v_freeMany v_freePlace v_freeSyndrome v_ways v_waysKept v_trace v_comesA v_comesB) := hD
        refine lv_iinc (v := x4 + 1) (lv' := [(4, .int (x4 + 1)), (6, .int 1), (5, .int ((128 : Int32) >>> (((v_turned x4.toNatClampNeg) - (v_turned x4.toNatClampNeg) / 8 * 8) &&& 31))), (0, .ref (q 0)), (3, .int x3)]) hx hb dX12_passesTurned_197 hl (k := 4) rfl rfl (by decide) rfl (fun ls hl => ?_)
        refine lv_goto (tgt := 90) hx hb dX12_passesTurned_200 (by decide) ?_
        exact st_next hm hst H locs hP hD hS ls (lv_sub hl [3, 4, 0] rfl)
  have L2 : ∀ (x1 : Int32) (x2 : Int32) (x3 : Int32) (v_keptSize : Int32) (v_keptBefore : (Nat → Int32)) (v_keptAfter : (Nat → Int32)) (v_comesA : Int64) (v_comesB : Int64) (out : ((Int64 × Int64) ⊕ (Int32 × Int32 × (Nat → Int32) × (Nat → Int32) × Int64 × Int64))), lp (fun x : (Int32 × Int64 × Int64) => M_X12_passesTurned_b2 n x1 x2 v_kindOf v_modOf v_keptSize v_keptBefore v_keptAfter v_placeA v_placeB v_turned v_turnedMany x.1 x.2.1 x.2.2) n (x3, v_comesA, v_comesB) = some out → (∀ r, out = .inr r → r = res) → (∀ (o : (Int64 × Int64)), out = .inl o → ∀ (H : Heap) (locs : List Loc), va_P G vwCl (ww_M q cs v_told v_tell v_sums v_kindOf v_modOf v_bitsOf v_turnOf v_polyOf v_beginOf v_finishOf v_isLow v_weightsOf v_weight v_cell v_size v_row v_keptSize v_keptBefore v_keptAfter v_placeA v_placeB v_turned v_turnedMany v_syndromes v_lightest v_freeMany v_freePlace v_freeSyndrome v_ways v_waysKept v_trace o.1 o.2) H → va_D A (ww_M q cs v_told v_tell v_sums v_kindOf v_modOf v_bitsOf v_turnOf v_polyOf v_beginOf v_finishOf v_isLow v_weightsOf v_weight v_cell v_size v_row v_keptSize v_keptBefore v_keptAfter v_placeA v_placeB v_turned v_turnedMany v_syndromes v_lightest v_freeMany v_freePlace v_freeSyndrome v_ways v_waysKept v_trace o.1 o.2) → va_S A s.heap H locs → ∀ (ls : Array Slot), lv_has ls 7 [] → W p l e rmX12_passesTurned s m args below meth c H locs 0 0 Q (F0 m 221 ls [])) → ∀ (H : Heap) (locs : List Loc), va_P G vwCl (ww_M q cs v_told v_tell v_sums v_kindOf v_modOf v_bitsOf v_turnOf v_polyOf v_beginOf v_finishOf v_isLow v_weightsOf v_weight v_cell v_size v_row v_keptSize v_keptBefore v_keptAfter v_placeA v_placeB v_turned v_turnedMany v_syndromes v_lightest v_freeMany v_freePlace v_freeSyndrome v_ways v_waysKept v_trace v_comesA v_comesB) H → va_D A (ww_M q cs v_told v_tell v_sums v_kindOf v_modOf v_bitsOf v_turnOf v_polyOf v_beginOf v_finishOf v_isLow v_weightsOf v_weight v_cell v_size v_row v_keptSize v_keptBefore v_keptAfter v_placeA v_placeB v_turned v_turnedMany v_syndromes v_lightest v_freeMany v_freePlace v_freeSyndrome v_ways v_waysKept v_trace v_comesA v_comesB) → va_S A s.heap H locs → ∀ (ls : Array Slot), lv_has ls 7 [(0, .ref (q 0)), (1, .int x1), (2, .int x2), (3, .int x3)] → W p l e rmX12_passesTurned s m args below meth c H locs 0 0 Q (F0 m 2 ls []) := by
    intro x1 x2 x3 v_keptSize v_keptBefore v_keptAfter v_comesA v_comesB out hlp hret hX
    refine lp_ind (fun x => ∀ (H : Heap) (locs : List Loc), va_P G vwCl (ww_M q cs v_told v_tell v_sums v_kindOf v_modOf v_bitsOf v_turnOf v_polyOf v_beginOf v_finishOf v_isLow v_weightsOf v_weight v_cell v_size v_row v_keptSize v_keptBefore v_keptAfter v_placeA v_placeB v_turned v_turnedMany v_syndromes v_lightest v_freeMany v_freePlace v_freeSyndrome v_ways v_waysKept v_trace x.2.1 x.2.2) H → va_D A (ww_M q cs v_told v_tell v_sums v_kindOf v_modOf v_bitsOf v_turnOf v_polyOf v_beginOf v_finishOf v_isLow v_weightsOf v_weight v_cell v_size v_row v_keptSize v_keptBefore v_keptAfter v_placeA v_placeB v_turned v_turnedMany v_syndromes v_lightest v_freeMany v_freePlace v_freeSyndrome v_ways v_waysKept v_trace x.2.1 x.2.2) → va_S A s.heap H locs → ∀ (ls : Array Slot), lv_has ls 7 [(0, .ref (q 0)), (1, .int x1), (2, .int x2), (3, .int x.1)] → W p l e rmX12_passesTurned s m args below meth c H locs 0 0 Q (F0 m 2 ls [])) ?_ n (x3, v_comesA, v_comesB) hlp
    clear hlp hP hD hS hl
    rintro ⟨x3, v_comesA, v_comesB⟩ ob hm hst H locs hP hD hS ls hl
    have hm : M_X12_passesTurned_b2 n x1 x2 v_kindOf v_modOf v_keptSize v_keptBefore v_keptAfter v_placeA v_placeB v_turned v_turnedMany x3 v_comesA v_comesB = some ob := hm
    have hl : lv_has ls 7 [(0, .ref (q 0)), (1, .int x1), (2, .int x2), (3, .int x3)] := hl
    have hP : va_P G vwCl (ww_M q cs v_told v_tell v_sums v_kindOf v_modOf v_bitsOf v_turnOf v_polyOf v_beginOf v_finishOf v_isLow v_weightsOf v_weight v_cell v_size v_row v_keptSize v_keptBefore v_keptAfter v_placeA v_placeB v_turned v_turnedMany v_syndromes v_lightest v_freeMany v_freePlace v_freeSyndrome v_ways v_waysKept v_trace v_comesA v_comesB) H := hP
    have hD : va_D A (ww_M q cs v_told v_tell v_sums v_kindOf v_modOf v_bitsOf v_turnOf v_polyOf v_beginOf v_finishOf v_isLow v_weightsOf v_weight v_cell v_size v_row v_keptSize v_keptBefore v_keptAfter v_placeA v_placeB v_turned v_turnedMany v_syndromes v_lightest v_freeMany v_freePlace v_freeSyndrome v_ways v_waysKept v_trace v_comesA v_comesB) := hD
    unfold M_X12_passesTurned_b2 at hm
    refine lv_iload_n hx hb dX12_passesTurned_2 rfl (lv_at hl 3 rfl) ?_
    refine lv_iconst (v := 1) hx hb dX12_passesTurned_3 (by decide) ?_
    refine lv_aload_n hx hb dX12_passesTurned_4 rfl (lv_at hl 0 rfl) ?_
    refine va_get (D := G) (ci := 10) (v := .int v_turnedMany) (C := RX12) (T := TX12) (N := 33) hx hb hts hinX12 hown hK.1 hP 0 rfl rfl 22 (by decide) wd1 (fun _ h9 => h9) rfl dX12_passesTurned_5 ?_
    refine lv_ishl hx hb dX12_passesTurned_8 ?_
    refine lv_icmp_ge (tgt := 221) hx hb dX12_passesTurned_9 (by decide) (fun b1 => ?_) (fun b1 => ?_)
    · have hm := i_t b1 hm
      exact hX _ (st_exit hm hst) H locs hP hD hS ls (lv_sub hl [] rfl)
    · have hm := i_f b1 hm
      refine lv_aload_n hx hb dX12_passesTurned_12 rfl (lv_at hl 0 rfl) ?_
      refine lv_lconst (v := 0) hx hb dX12_passesTurned_13 (by decide) ?_
      refine va_put (D := G) (ci := 10) (v := .long 0) (ty := .long) (C := RX12) (T := TX12) (N := 33) hx hb hts hinX12 tyX12 tyX12_ok nmX12 hown hK.1 hP hD hS 0 rfl rfl 31 (by decide) wd2 (fun _ h9 => h9) rfl (by decide +kernel) rfl rfl (Nat.le_of_ble_eq_true rfl) dX12_passesTurned_14 (fun H locs hP hD hS => ?_)
      have hP : va_P G vwCl (ww_M q cs v_told v_tell v_sums v_kindOf v_modOf v_bitsOf v_turnOf v_polyOf v_beginOf v_finishOf v_isLow v_weightsOf v_weight v_cell v_size v_row v_keptSize v_keptBefore v_keptAfter v_placeA v_placeB v_turned v_turnedMany v_syndromes v_lightest v_freeMany v_freePlace v_freeSyndrome v_ways v_waysKept v_trace 0 v_comesB) H := hP
      have hD : va_D A (ww_M q cs v_told v_tell v_sums v_kindOf v_modOf v_bitsOf v_turnOf v_polyOf v_beginOf v_finishOf v_isLow v_weightsOf v_weight v_cell v_size v_row v_keptSize v_keptBefore v_keptAfter v_placeA v_placeB v_turned v_turnedMany v_syndromes v_lightest v_freeMany v_freePlace v_freeSyndrome v_ways v_waysKept v_trace 0 v_comesB) := hD
      refine lv_aload_n hx hb dX12_passesTurned_17 rfl (lv_at hl 0 rfl) ?_
      refine lv_lconst (v := 0) hx hb dX12_passesTurned_18 (by decide) ?_
      refine va_put (D := G) (ci := 10) (v := .long 0) (ty := .long) (C := RX12) (T := TX12) (N := 33) hx hb hts hinX12 tyX12 tyX12_ok nmX12 hown hK.1 hP hD hS 0 rfl rfl 32 (by decide) wd3 (fun _ h9 => h9) rfl (by decide +kernel) rfl rfl (Nat.le_of_ble_eq_true rfl) dX12_passesTurned_19 (fun H locs hP hD hS => ?_)
      have hP : va_P G vwCl (ww_M q cs v_told v_tell v_sums v_kindOf v_modOf v_bitsOf v_turnOf v_polyOf v_beginOf v_finishOf v_isLow v_weightsOf v_weight v_cell v_size v_row v_keptSize v_keptBefore v_keptAfter v_placeA v_placeB v_turned v_turnedMany v_syndromes v_lightest v_freeMany v_freePlace v_freeSyndrome v_ways v_waysKept v_trace 0 0) H := hP
      have hD : va_D A (ww_M q cs v_told v_tell v_sums v_kindOf v_modOf v_bitsOf v_turnOf v_polyOf v_beginOf v_finishOf v_isLow v_weightsOf v_weight v_cell v_size v_row v_keptSize v_keptBefore v_keptAfter v_placeA v_placeB v_turned v_turnedMany v_syndromes v_lightest v_freeMany v_freePlace v_freeSyndrome v_ways v_waysKept v_trace 0 0) := hD
      refine lv_iconst (v := 0) hx hb dX12_passesTurned_22 (by decide) ?_
      refine lv_istore (lv' := [(4, .int 0), (0, .ref (q 0)), (1, .int x1), (2, .int x2), (3, .int x3)]) hx hb dX12_passesTurned_23 hl (by decide) rfl (fun ls hl => ?_)
      obtain ⟨o7, hlp7, hm⟩ := bs hm
      refine L25 x1 x2 x3 (0 : Int32) v_keptSize v_keptBefore v_keptAfter (0 : Int64) (0 : Int64) o7 hlp7 (fun oo ho => ?_) H locs hP hD hS ls (lv_sub hl [1, 2, 3, 4, 0] rfl)
      subst ho
      intro H locs hP hD hS ls hl
      have hl : lv_has ls 7 [(0, .ref (q 0)), (1, .int x1), (2, .int x2), (3, .int x3)] := hl
      have hP : va_P G vwCl (ww_M q cs v_told v_tell v_sums v_kindOf v_modOf v_bitsOf v_turnOf v_polyOf v_beginOf v_finishOf v_isLow v_weightsOf v_weight v_cell v_size v_row v_keptSize v_keptBefore v_keptAfter v_placeA v_placeB v_turned v_turnedMany v_syndromes v_lightest v_freeMany v_freePlace v_freeSyndrome v_ways v_waysKept v_trace o7.1 o7.2) H := hP
      have hD : va_D A (ww_M q cs v_told v_tell v_sums v_kindOf v_modOf v_bitsOf v_turnOf v_polyOf v_beginOf v_finishOf v_isLow v_weightsOf v_weight v_cell v_size v_row v_keptSize v_keptBefore v_keptAfter v_placeA v_placeB v_turned v_turnedMany v_syndromes v_lightest v_freeMany v_freePlace v_freeSyndrome v_ways v_waysKept v_trace o7.1 o7.2) := hD
      refine lv_aload_n hx hb dX12_passesTurned_74 rfl (lv_at hl 0 rfl) ?_
      refine lv_iload_n hx hb dX12_passesTurned_75 rfl (lv_at hl 1 rfl) ?_
      obtain ⟨r8, hc_r8, hm⟩ := bs hm
      refine k_calli (va_runV (As := [.int x1]) (rest := []) ⟨hx, hb, hml, hown, hts⟩ (c_X12_isNothing l G cs q H.size v_told v_tell v_sums v_kindOf v_modOf v_bitsOf v_turnOf v_polyOf v_beginOf v_finishOf v_isLow v_weightsOf v_weight v_cell v_size v_row v_keptSize v_keptBefore v_keptAfter v_placeA v_placeB v_turned v_turnedMany v_syndromes v_lightest v_freeMany v_freePlace v_freeSyndrome v_ways v_waysKept v_trace o7.1 o7.2   x1 r8 hc_r8) (cwV 1 hts gX12_passesTurned_X12_isNothing rfl rfl rfl ⟨rfl, hd_X12_isNothing⟩ ⟨Nat.le_of_ble_eq_true rfl, Nat.le_of_ble_eq_true rfl⟩) ⟨pre_blind, va_recv hK.1 hP (ci := 10) (q0 := 0) rfl rfl, pre_w hK RO.nil hP hD (va_all hD hS hA)⟩ rfl rfl hl.1 rfl (lv_room (Nat.le_of_ble_eq_true rfl)) dX12_passesTurned_76 ⟨Nat.zero_le _, Nat.zero_le _⟩) hS (va_all hD hS hA) (fun hE9 H locs hP hD hS => ?_)
      have hP : va_P G vwCl (ww_M q cs v_told v_tell v_sums v_kindOf v_modOf v_bitsOf v_turnOf v_polyOf v_beginOf v_finishOf v_isLow v_weightsOf v_weight v_cell v_size v_row v_keptSize v_keptBefore v_keptAfter v_placeA v_placeB v_turned v_turnedMany v_syndromes v_lightest v_freeMany v_freePlace v_freeSyndrome v_ways v_waysKept v_trace o7.1 o7.2) H := hP
      have hD : va_D A (ww_M q cs v_told v_tell v_sums v_kindOf v_modOf v_bitsOf v_turnOf v_polyOf v_beginOf v_finishOf v_isLow v_weightsOf v_weight v_cell v_size v_row v_keptSize v_keptBefore v_keptAfter v_placeA v_placeB v_turned v_turnedMany v_syndromes v_lightest v_freeMany v_freePlace v_freeSyndrome v_ways v_waysKept v_trace o7.1 o7.2) := hD
      refine lv_if_eq (tgt := 205) hx hb dX12_passesTurned_79 (by decide) (fun b10 => ?_) (fun b10 => ?_)
      · have hm := i_t b10 hm
        refine lv_aload_n hx hb dX12_passesTurned_205 rfl (lv_at hl 0 rfl) ?_
        refine lv_iload_n hx hb dX12_passesTurned_206 rfl (lv_at hl 1 rfl) ?_
        obtain ⟨r11, hc_r11, hm⟩ := bs hm
        refine k_calli (va_runV (As := [.int x1]) (rest := []) ⟨hx, hb, hml, hown, hts⟩ (c_X12_isXor l G cs q H.size v_told v_tell v_sums v_kindOf v_modOf v_bitsOf v_turnOf v_polyOf v_beginOf v_finishOf v_isLow v_weightsOf v_weight v_cell v_size v_row v_keptSize v_keptBefore v_keptAfter v_placeA v_placeB v_turned v_turnedMany v_syndromes v_lightest v_freeMany v_freePlace v_freeSyndrome v_ways v_waysKept v_trace o7.1 o7.2   x1 r11 hc_r11) (cwV 1 hts gX12_passesTurned_X12_isXor rfl rfl rfl ⟨rfl, hd_X12_isXor⟩ ⟨Nat.le_of_ble_eq_true rfl, Nat.le_of_ble_eq_true rfl⟩) ⟨pre_blind, va_recv hK.1 hP (ci := 10) (q0 := 0) rfl rfl, pre_w hK RO.nil hP hD (va_all hD hS hA)⟩ rfl rfl hl.1 rfl (lv_room (Nat.le_of_ble_eq_true rfl)) dX12_passesTurned_207 ⟨Nat.zero_le _, Nat.zero_le _⟩) hS (va_all hD hS hA) (fun hE12 H locs hP hD hS => ?_)
        have hP : va_P G vwCl (ww_M q cs v_told v_tell v_sums v_kindOf v_modOf v_bitsOf v_turnOf v_polyOf v_beginOf v_finishOf v_isLow v_weightsOf v_weight v_cell v_size v_row v_keptSize v_keptBefore v_keptAfter v_placeA v_placeB v_turned v_turnedMany v_syndromes v_lightest v_freeMany v_freePlace v_freeSyndrome v_ways v_waysKept v_trace o7.1 o7.2) H := hP
        have hD : va_D A (ww_M q cs v_told v_tell v_sums v_kindOf v_modOf v_bitsOf v_turnOf v_polyOf v_beginOf v_finishOf v_isLow v_weightsOf v_weight v_cell v_size v_row v_keptSize v_keptBefore v_keptAfter v_placeA v_placeB v_turned v_turnedMany v_syndromes v_lightest v_freeMany v_freePlace v_freeSyndrome v_ways v_waysKept v_trace o7.1 o7.2) := hD
        refine lv_if_eq (tgt := 215) hx hb dX12_passesTurned_210 (by decide) (fun b13 => ?_) (fun b13 => ?_)
        · have hm := i_t b13 hm
          refine lv_iinc (v := x3 + 1) (lv' := [(3, .int (x3 + 1)), (0, .ref (q 0)), (1, .int x1), (2, .int x2)]) hx hb dX12_passesTurned_215 hl (k := 3) rfl rfl (by decide) rfl (fun ls hl => ?_)
          refine lv_goto (tgt := 2) hx hb dX12_passesTurned_218 (by decide) ?_
          exact st_next hm hst H locs hP hD hS ls (lv_sub hl [1, 2, 3, 0] rfl)
        · have hm := i_f b13 hm
          refine lv_iconst (v := 0) hx hb dX12_passesTurned_213 (by decide) ?_
          have hq := hret _ (st_exit hm hst)
          subst hq; subst hQ
          exact k_zret hx hb hr hlocks hP hD hS rfl (by decide) dX12_passesTurned_214
      · have hm := i_f b10 hm
        refine lv_aload_n hx hb dX12_passesTurned_82 rfl (lv_at hl 0 rfl) ?_
        refine lv_iload_n hx hb dX12_passesTurned_83 rfl (lv_at hl 2 rfl) ?_
        obtain ⟨r14, hc_r14, hm⟩ := bs hm
        refine k_callv (va_runV (As := [.int x2]) (rest := []) ⟨hx, hb, hml, hown, hts⟩ (c_X12_beginKept l G cs q H.size v_told v_tell v_sums v_kindOf v_modOf v_bitsOf v_turnOf v_polyOf v_beginOf v_finishOf v_isLow v_weightsOf v_weight v_cell v_size v_row v_keptSize v_keptBefore v_keptAfter v_placeA v_placeB v_turned v_turnedMany v_syndromes v_lightest v_freeMany v_freePlace v_freeSyndrome v_ways v_waysKept v_trace o7.1 o7.2   x2 n r14 hc_r14) (cwV 1 hts gX12_passesTurned_X12_beginKept rfl rfl rfl ⟨rfl, hd_X12_beginKept⟩ ⟨Nat.le_of_ble_eq_true rfl, Nat.le_of_ble_eq_true rfl⟩) ⟨pre_blind, va_recv hK.1 hP (ci := 10) (q0 := 0) rfl rfl, pre_w hK RO.nil hP hD (va_all hD hS hA)⟩ rfl rfl hl.1 rfl (lv_room (Nat.le_of_ble_eq_true rfl)) dX12_passesTurned_84 ⟨Nat.zero_le _, Nat.zero_le _⟩) hS (va_all hD hS hA) (fun H locs hP hD hS => ?_)
        have hP : va_P G vwCl (ww_M q cs v_told v_tell v_sums v_kindOf v_modOf v_bitsOf v_turnOf v_polyOf v_beginOf v_finishOf v_isLow v_weightsOf v_weight v_cell v_size v_row r14.1 r14.2.1 r14.2.2 v_placeA v_placeB v_turned v_turnedMany v_syndromes v_lightest v_freeMany v_freePlace v_freeSyndrome v_ways v_waysKept v_trace o7.1 o7.2) H := hP
        have hD : va_D A (ww_M q cs v_told v_tell v_sums v_kindOf v_modOf v_bitsOf v_turnOf v_polyOf v_beginOf v_finishOf v_isLow v_weightsOf v_weight v_cell v_size v_row r14.1 r14.2.1 r14.2.2 v_placeA v_placeB v_turned v_turnedMany v_syndromes v_lightest v_freeMany v_freePlace v_freeSyndrome v_ways v_waysKept v_trace o7.1 o7.2) := hD
        refine lv_iconst (v := 0) hx hb dX12_passesTurned_87 (by decide) ?_
        refine lv_istore (lv' := [(4, .int 0), (0, .ref (q 0)), (1, .int x1), (2, .int x2), (3, .int x3)]) hx hb dX12_passesTurned_88 hl (by decide) rfl (fun ls hl => ?_)
        obtain ⟨o30, hlp30, hm⟩ := bs hm
        refine L90 x3 (0 : Int32) r14.1 r14.2.1 r14.2.2 o7.1 o7.2 o30 hlp30 (fun oo ho => ?_) H locs hP hD hS ls (lv_sub hl [1, 4, 0] rfl)
        subst ho
        intro H locs hP hD hS ls hl
        have hl : lv_has ls 7 [] := hl
        have hP : va_P G vwCl (ww_M q cs v_told v_tell v_sums v_kindOf v_modOf v_bitsOf v_turnOf v_polyOf v_beginOf v_finishOf v_isLow v_weightsOf v_weight v_cell v_size v_row r14.1 o30.1 o30.2 v_placeA v_placeB v_turned v_turnedMany v_syndromes v_lightest v_freeMany v_freePlace v_freeSyndrome v_ways v_waysKept v_trace o7.1 o7.2) H := hP
        have hD : va_D A (ww_M q cs v_told v_tell v_sums v_kindOf v_modOf v_bitsOf v_turnOf v_polyOf v_beginOf v_finishOf v_isLow v_weightsOf v_weight v_cell v_size v_row r14.1 o30.1 o30.2 v_placeA v_placeB v_turned v_turnedMany v_syndromes v_lightest v_freeMany v_freePlace v_freeSyndrome v_ways v_waysKept v_trace o7.1 o7.2) := hD
        refine lv_iconst (v := 1) hx hb dX12_passesTurned_203 (by decide) ?_
        have hq := hret _ (st_exit hm hst)
        subst hq; subst hQ
        exact k_zret hx hb hr hlocks hP hD hS rfl (by decide) dX12_passesTurned_204
  unfold M_X12_passesTurned at hm
  refine lv_iconst (v := 0) hx hb dX12_passesTurned_0 (by decide) ?_
  refine lv_istore_n (lv' := [(3, .int 0), (0, .ref (q 0)), (1, .int x1), (2, .int x2)]) hx hb dX12_passesTurned_1 rfl hl (by decide) rfl (fun ls hl => ?_)
  obtain ⟨u31, hlp31, hm⟩ := bs hm
  refine L2 x1 x2 (0 : Int32) v_keptSize v_keptBefore v_keptAfter v_comesA v_comesB u31 hlp31 (fun r h => Option.some.inj (se_r h hm)) (fun o31 ho => ?_) H locs hP hD hS ls (lv_sub hl [1, 2, 3, 0] rfl)
  have hm := se_l ho hm
  intro H locs hP hD hS ls hl
  have hl : lv_has ls 7 [] := hl
  have hP : va_P G vwCl (ww_M q cs v_told v_tell v_sums v_kindOf v_modOf v_bitsOf v_turnOf v_polyOf v_beginOf v_finishOf v_isLow v_weightsOf v_weight v_cell v_size v_row v_keptSize v_keptBefore v_keptAfter v_placeA v_placeB v_turned v_turnedMany v_syndromes v_lightest v_freeMany v_freePlace v_freeSyndrome v_ways v_waysKept v_trace o31.1 o31.2) H := hP
  have hD : va_D A (ww_M q cs v_told v_tell v_sums v_kindOf v_modOf v_bitsOf v_turnOf v_polyOf v_beginOf v_finishOf v_isLow v_weightsOf v_weight v_cell v_size v_row v_keptSize v_keptBefore v_keptAfter v_placeA v_placeB v_turned v_turnedMany v_syndromes v_lightest v_freeMany v_freePlace v_freeSyndrome v_ways v_waysKept v_trace o31.1 o31.2) := hD
  refine lv_iconst (v := 0) hx hb dX12_passesTurned_221 (by decide) ?_
  have hq := Option.some.inj hm
  subst hq; subst hQ
  exact k_zret hx hb hr hlocks hP hD hS rfl (by decide) dX12_passesTurned_222
