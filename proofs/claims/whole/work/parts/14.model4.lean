theorem hd_X12_weight : yX12_weight.cls ≠ "java/lang/invoke/MethodHandle" ∧ yX12_weight.cls ≠ "java/lang/invoke/VarHandle" ∧ (parseMethodDescriptor yX12_weight.desc).map (fun d => d.parameters.length) = some 2 := by decide +kernel

def M_X12_weight_b36 (n : Nat) (x2 : Int32) (v_syndromes : (Nat → Int64)) (x4 : Int32) (v_lightest : (Nat → Int32)) : Option ((Int32 × (Nat → Int32)) ⊕ ((Nat → Int32) ⊕ (Int32 × (Nat → Int64) × (Nat → Int32)))) :=
  if 5 ≤ x4 then (some (.inr (.inl v_lightest))) else ((M_X12_setsOf n x4 (8 * x2) (1 : Int32) v_syndromes v_lightest).bind fun r8 => if r8.1 ≤ 0 then (some (.inl (x4 + 1, r8.2))) else (some (.inr (.inr (x4, v_syndromes, r8.2)))))

def M_X12_weight (n : Nat) (x1 : Int32) (x2 : Int32) (v_sums : Int32) (v_kindOf : (Nat → Int32)) (v_bitsOf : (Nat → Int32)) (v_polyOf : (Nat → Int64)) (v_isLow : (Nat → Int32)) (v_syndromes : (Nat → Int64)) (v_lightest : (Nat → Int32)) : Option (Int32 × (Nat → Int64) × (Nat → Int32)) :=
  (M_X12_against x1 v_sums v_kindOf).bind fun r1 => if r1 = 0 then (if (M_X12_in x2.toInt64 (1 : Int64) (6 : Int64)) = 0 then (some ((-3), v_syndromes, v_lightest)) else ((M_X12_findSyndromes n x1 x2 v_bitsOf v_polyOf v_isLow v_syndromes).bind fun r6 => (lp (fun x : (Int32 × (Nat → Int32)) => M_X12_weight_b36 n x2 r6 x.1 x.2) n ((1 : Int32), v_lightest)).bind (Sum.elim (fun o11 => some ((-1), r6, o11)) (fun r => some r)))) else (some (r1, v_syndromes, v_lightest))

abbrev rmX12_weight : Room := { frames := 4, cells := 0, slots := 0, locals := 105 }
set_option maxHeartbeats 4000000 in
set_option maxRecDepth 100000 in
theorem c_X12_weight (l : Launch) (G : va_G) (cs : CS) (q : Nat → Nat) (sz : Nat) (v_told : Int32) (v_tell : (Nat → Int32)) (v_sums : Int32) (v_kindOf : (Nat → Int32)) (v_modOf : (Nat → Int32)) (v_bitsOf : (Nat → Int32)) (v_turnOf : (Nat → Int32)) (v_polyOf : (Nat → Int64)) (v_beginOf : (Nat → Int64)) (v_finishOf : (Nat → Int64)) (v_isLow : (Nat → Int32)) (v_weightsOf : (Nat → Int32)) (v_weight : (Nat → Int32)) (v_cell : (Nat → Int32)) (v_size : Int32) (v_row : (Nat → Int32)) (v_keptSize : Int32) (v_keptBefore : (Nat → Int32)) (v_keptAfter : (Nat → Int32)) (v_placeA : (Nat → Int64)) (v_placeB : (Nat → Int64)) (v_turned : (Nat → Int32)) (v_turnedMany : Int32) (v_syndromes : (Nat → Int64)) (v_lightest : (Nat → Int32)) (v_freeMany : Int32) (v_freePlace : (Nat → Int32)) (v_freeSyndrome : (Nat → Int64)) (v_ways : (Nat → Int32)) (v_waysKept : Int32) (v_trace : (Nat → Int32)) (v_comesA : Int64) (v_comesB : Int64)   (x1 : Int32) (x2 : Int32) (n : Nat) (res : (Int32 × (Nat → Int64) × (Nat → Int32))) (hm : M_X12_weight n x1 x2 v_sums v_kindOf v_bitsOf v_polyOf v_isLow v_syndromes v_lightest = some res) : Met l yX12_weight wsX12_weight rmX12_weight (va_Pc [.ref (q 0), .int x1, .int x2] (PreW G cs sz (ww_M q cs v_told v_tell v_sums v_kindOf v_modOf v_bitsOf v_turnOf v_polyOf v_beginOf v_finishOf v_isLow v_weightsOf v_weight v_cell v_size v_row v_keptSize v_keptBefore v_keptAfter v_placeA v_placeB v_turned v_turnedMany v_syndromes v_lightest v_freeMany v_freePlace v_freeSyndrome v_ways v_waysKept v_trace v_comesA v_comesB) RN)) (QI G res.1 True (ww_M q cs v_told v_tell v_sums v_kindOf v_modOf v_bitsOf v_turnOf v_polyOf v_beginOf v_finishOf v_isLow v_weightsOf v_weight v_cell v_size v_row v_keptSize v_keptBefore v_keptAfter v_placeA v_placeB v_turned v_turnedMany res.2.1 res.2.2 v_freeMany v_freePlace v_freeSyndrome v_ways v_waysKept v_trace v_comesA v_comesB) (va_A (ww_M q cs v_told v_tell v_sums v_kindOf v_modOf v_bitsOf v_turnOf v_polyOf v_beginOf v_finishOf v_isLow v_weightsOf v_weight v_cell v_size v_row v_keptSize v_keptBefore v_keptAfter v_placeA v_placeB v_turned v_turnedMany v_syndromes v_lightest v_freeMany v_freePlace v_freeSyndrome v_ways v_waysKept v_trace v_comesA v_comesB) sz)) 0 0 (va_A (ww_M q cs v_told v_tell v_sums v_kindOf v_modOf v_bitsOf v_turnOf v_polyOf v_beginOf v_finishOf v_isLow v_weightsOf v_weight v_cell v_size v_row v_keptSize v_keptBefore v_keptAfter v_placeA v_placeB v_turned v_turnedMany v_syndromes v_lightest v_freeMany v_freePlace v_freeSyndrome v_ways v_waysKept v_trace v_comesA v_comesB) sz) := by
  refine k_enter (Qf := fun A => QI G res.1 True (ww_M q cs v_told v_tell v_sums v_kindOf v_modOf v_bitsOf v_turnOf v_polyOf v_beginOf v_finishOf v_isLow v_weightsOf v_weight v_cell v_size v_row v_keptSize v_keptBefore v_keptAfter v_placeA v_placeB v_turned v_turnedMany res.2.1 res.2.2 v_freeMany v_freePlace v_freeSyndrome v_ways v_waysKept v_trace v_comesA v_comesB) A) (cc := cX12_weight) (maxL := 5) (ret := (some .int)) (plainFor_of_name (by decide)) rfl (Nat.le_of_ble_eq_true rfl) ?_
  intro p e s m args below meth c A Q ls H locs hx hb hr hml hown hts hlocks hname hK hA hRo hP hD hS hQ hl
  have hl : lv_has ls 5 [(0, .ref (q 0)), (1, .int x1), (2, .int x2)] := hl
  have wd1 := hts (.constantLong RX12 248 (6)) (List.mem_of_getElem? (i := 1) rfl)
  have L36 : ∀ (x2 : Int32) (x4 : Int32) (v_syndromes : (Nat → Int64)) (v_lightest : (Nat → Int32)) (out : ((Nat → Int32) ⊕ (Int32 × (Nat → Int64) × (Nat → Int32)))), lp (fun x : (Int32 × (Nat → Int32)) => M_X12_weight_b36 n x2 v_syndromes x.1 x.2) n (x4, v_lightest) = some out → (∀ r, out = .inr r → r = res) → (∀ (o : (Nat → Int32)), out = .inl o → ∀ (H : Heap) (locs : List Loc), va_P G vwCl (ww_M q cs v_told v_tell v_sums v_kindOf v_modOf v_bitsOf v_turnOf v_polyOf v_beginOf v_finishOf v_isLow v_weightsOf v_weight v_cell v_size v_row v_keptSize v_keptBefore v_keptAfter v_placeA v_placeB v_turned v_turnedMany v_syndromes o v_freeMany v_freePlace v_freeSyndrome v_ways v_waysKept v_trace v_comesA v_comesB) H → va_D A (ww_M q cs v_told v_tell v_sums v_kindOf v_modOf v_bitsOf v_turnOf v_polyOf v_beginOf v_finishOf v_isLow v_weightsOf v_weight v_cell v_size v_row v_keptSize v_keptBefore v_keptAfter v_placeA v_placeB v_turned v_turnedMany v_syndromes o v_freeMany v_freePlace v_freeSyndrome v_ways v_waysKept v_trace v_comesA v_comesB) → va_S A s.heap H locs → ∀ (ls : Array Slot), lv_has ls 5 [] → W p l e rmX12_weight s m args below meth c H locs 0 0 Q (F0 m 65 ls [])) → ∀ (H : Heap) (locs : List Loc), va_P G vwCl (ww_M q cs v_told v_tell v_sums v_kindOf v_modOf v_bitsOf v_turnOf v_polyOf v_beginOf v_finishOf v_isLow v_weightsOf v_weight v_cell v_size v_row v_keptSize v_keptBefore v_keptAfter v_placeA v_placeB v_turned v_turnedMany v_syndromes v_lightest v_freeMany v_freePlace v_freeSyndrome v_ways v_waysKept v_trace v_comesA v_comesB) H → va_D A (ww_M q cs v_told v_tell v_sums v_kindOf v_modOf v_bitsOf v_turnOf v_polyOf v_beginOf v_finishOf v_isLow v_weightsOf v_weight v_cell v_size v_row v_keptSize v_keptBefore v_keptAfter v_placeA v_placeB v_turned v_turnedMany v_syndromes v_lightest v_freeMany v_freePlace v_freeSyndrome v_ways v_waysKept v_trace v_comesA v_comesB) → va_S A s.heap H locs → ∀ (ls : Array Slot), lv_has ls 5 [(0, .ref (q 0)), (2, .int x2), (4, .int x4)] → W p l e rmX12_weight s m args below meth c H locs 0 0 Q (F0 m 36 ls []) := by
    intro x2 x4 v_syndromes v_lightest out hlp hret hX
    refine lp_ind (fun x => ∀ (H : Heap) (locs : List Loc), va_P G vwCl (ww_M q cs v_told v_tell v_sums v_kindOf v_modOf v_bitsOf v_turnOf v_polyOf v_beginOf v_finishOf v_isLow v_weightsOf v_weight v_cell v_size v_row v_keptSize v_keptBefore v_keptAfter v_placeA v_placeB v_turned v_turnedMany v_syndromes x.2 v_freeMany v_freePlace v_freeSyndrome v_ways v_waysKept v_trace v_comesA v_comesB) H → va_D A (ww_M q cs v_told v_tell v_sums v_kindOf v_modOf v_bitsOf v_turnOf v_polyOf v_beginOf v_finishOf v_isLow v_weightsOf v_weight v_cell v_size v_row v_keptSize v_keptBefore v_keptAfter v_placeA v_placeB v_turned v_turnedMany v_syndromes x.2 v_freeMany v_freePlace v_freeSyndrome v_ways v_waysKept v_trace v_comesA v_comesB) → va_S A s.heap H locs → ∀ (ls : Array Slot), lv_has ls 5 [(0, .ref (q 0)), (2, .int x2), (4, .int x.1)] → W p l e rmX12_weight s m args below meth c H locs 0 0 Q (F0 m 36 ls [])) ?_ n (x4, v_lightest) hlp
    clear hlp hP hD hS hl
    rintro ⟨x4, v_lightest⟩ ob hm hst H locs hP hD hS ls hl
    have hm : M_X12_weight_b36 n x2 v_syndromes x4 v_lightest = some ob := hm
    have hl : lv_has ls 5 [(0, .ref (q 0)), (2, .int x2), (4, .int x4)] := hl
    have hP : va_P G vwCl (ww_M q cs v_told v_tell v_sums v_kindOf v_modOf v_bitsOf v_turnOf v_polyOf v_beginOf v_finishOf v_isLow v_weightsOf v_weight v_cell v_size v_row v_keptSize v_keptBefore v_keptAfter v_placeA v_placeB v_turned v_turnedMany v_syndromes v_lightest v_freeMany v_freePlace v_freeSyndrome v_ways v_waysKept v_trace v_comesA v_comesB) H := hP
    have hD : va_D A (ww_M q cs v_told v_tell v_sums v_kindOf v_modOf v_bitsOf v_turnOf v_polyOf v_beginOf v_finishOf v_isLow v_weightsOf v_weight v_cell v_size v_row v_keptSize v_keptBefore v_keptAfter v_placeA v_placeB v_turned v_turnedMany v_syndromes v_lightest v_freeMany v_freePlace v_freeSyndrome v_ways v_waysKept v_trace v_comesA v_comesB) := hD
    unfold M_X12_weight_b36 at hm
    refine lv_iload hx hb dX12_weight_36 (lv_at hl 2 rfl) ?_
    refine lv_iconst (v := 5) hx hb dX12_weight_38 (by decide) ?_
    refine lv_icmp_ge (tgt := 65) hx hb dX12_weight_39 (by decide) (fun b7 => ?_) (fun b7 => ?_)
    · have hm := i_t b7 hm
      exact hX _ (st_exit hm hst) H locs hP hD hS ls (lv_sub hl [] rfl)
    · have hm := i_f b7 hm
      refine lv_aload_n hx hb dX12_weight_42 rfl (lv_at hl 0 rfl) ?_
      refine lv_iload hx hb dX12_weight_43 (lv_at hl 2 rfl) ?_
      refine lv_bipush (v := 8) hx hb dX12_weight_45 (by decide) ?_
      refine lv_iload_n hx hb dX12_weight_47 rfl (lv_at hl 1 rfl) ?_
      refine lv_imul hx hb dX12_weight_48 ?_
      refine lv_iconst (v := 1) hx hb dX12_weight_49 (by decide) ?_
      obtain ⟨r8, hc_r8, hm⟩ := bs hm
      refine k_calli (va_runV (As := [.int x4, .int (8 * x2), .int 1]) (rest := []) ⟨hx, hb, hml, hown, hts⟩ (c_X12_setsOf l G cs q H.size v_told v_tell v_sums v_kindOf v_modOf v_bitsOf v_turnOf v_polyOf v_beginOf v_finishOf v_isLow v_weightsOf v_weight v_cell v_size v_row v_keptSize v_keptBefore v_keptAfter v_placeA v_placeB v_turned v_turnedMany v_syndromes v_lightest v_freeMany v_freePlace v_freeSyndrome v_ways v_waysKept v_trace v_comesA v_comesB   x4 (8 * x2) (1 : Int32) n r8 hc_r8) (cwV 3 hts gX12_weight_X12_setsOf rfl rfl rfl ⟨rfl, hd_X12_setsOf⟩ ⟨Nat.le_of_ble_eq_true rfl, Nat.le_of_ble_eq_true rfl⟩) ⟨pre_blind, va_recv hK.1 hP (ci := 10) (q0 := 0) rfl rfl, pre_w hK RO.nil hP hD (va_all hD hS hA)⟩ rfl rfl hl.1 rfl (lv_room (Nat.le_of_ble_eq_true rfl)) dX12_weight_50 ⟨Nat.zero_le _, Nat.zero_le _⟩) hS (va_all hD hS hA) (fun hE9 H locs hP hD hS => ?_)
      have hP : va_P G vwCl (ww_M q cs v_told v_tell v_sums v_kindOf v_modOf v_bitsOf v_turnOf v_polyOf v_beginOf v_finishOf v_isLow v_weightsOf v_weight v_cell v_size v_row v_keptSize v_keptBefore v_keptAfter v_placeA v_placeB v_turned v_turnedMany v_syndromes r8.2 v_freeMany v_freePlace v_freeSyndrome v_ways v_waysKept v_trace v_comesA v_comesB) H := hP
      have hD : va_D A (ww_M q cs v_told v_tell v_sums v_kindOf v_modOf v_bitsOf v_turnOf v_polyOf v_beginOf v_finishOf v_isLow v_weightsOf v_weight v_cell v_size v_row v_keptSize v_keptBefore v_keptAfter v_placeA v_placeB v_turned v_turnedMany v_syndromes r8.2 v_freeMany v_freePlace v_freeSyndrome v_ways v_waysKept v_trace v_comesA v_comesB) := hD
      refine lv_if_le (tgt := 59) hx hb dX12_weight_53 (by decide) (fun b10 => ?_) (fun b10 => ?_)
      · have hm := i_t b10 hm
        refine lv_iinc (v := x4 + 1) (lv' := [(4, .int (x4 + 1)), (0, .ref (q 0)), (2, .int x2)]) hx hb dX12_weight_59 hl (k := 2) rfl rfl (by decide) rfl (fun ls hl => ?_)
        refine lv_goto (tgt := 36) hx hb dX12_weight_62 (by decide) ?_
        exact st_next hm hst H locs hP hD hS ls (lv_sub hl [1, 2, 0] rfl)
      · have hm := i_f b10 hm
        refine lv_iload hx hb dX12_weight_56 (lv_at hl 2 rfl) ?_
        have hq := hret _ (st_exit hm hst)
        subst hq; subst hQ
        exact k_iret hx hb hr hlocks hP hD hS rfl trivial dX12_weight_58
  unfold M_X12_weight at hm
  refine lv_aload_n hx hb dX12_weight_0 rfl (lv_at hl 0 rfl) ?_
  refine lv_iload_n hx hb dX12_weight_1 rfl (lv_at hl 1 rfl) ?_
  obtain ⟨r1, hc_r1, hm⟩ := bs hm
  refine k_calli (va_runV (As := [.int x1]) (rest := []) ⟨hx, hb, hml, hown, hts⟩ (c_X12_against l G cs q H.size v_told v_tell v_sums v_kindOf v_modOf v_bitsOf v_turnOf v_polyOf v_beginOf v_finishOf v_isLow v_weightsOf v_weight v_cell v_size v_row v_keptSize v_keptBefore v_keptAfter v_placeA v_placeB v_turned v_turnedMany v_syndromes v_lightest v_freeMany v_freePlace v_freeSyndrome v_ways v_waysKept v_trace v_comesA v_comesB   x1 r1 hc_r1) (cwV 1 hts gX12_weight_X12_against rfl rfl rfl ⟨rfl, hd_X12_against⟩ ⟨Nat.le_of_ble_eq_true rfl, Nat.le_of_ble_eq_true rfl⟩) ⟨pre_blind, va_recv hK.1 hP (ci := 10) (q0 := 0) rfl rfl, pre_w hK RO.nil hP hD (va_all hD hS hA)⟩ rfl rfl hl.1 rfl (lv_room (Nat.le_of_ble_eq_true rfl)) dX12_weight_2 ⟨Nat.zero_le _, Nat.zero_le _⟩) hS (va_all hD hS hA) (fun hE2 H locs hP hD hS => ?_)
  have hP : va_P G vwCl (ww_M q cs v_told v_tell v_sums v_kindOf v_modOf v_bitsOf v_turnOf v_polyOf v_beginOf v_finishOf v_isLow v_weightsOf v_weight v_cell v_size v_row v_keptSize v_keptBefore v_keptAfter v_placeA v_placeB v_turned v_turnedMany v_syndromes v_lightest v_freeMany v_freePlace v_freeSyndrome v_ways v_waysKept v_trace v_comesA v_comesB) H := hP
  have hD : va_D A (ww_M q cs v_told v_tell v_sums v_kindOf v_modOf v_bitsOf v_turnOf v_polyOf v_beginOf v_finishOf v_isLow v_weightsOf v_weight v_cell v_size v_row v_keptSize v_keptBefore v_keptAfter v_placeA v_placeB v_turned v_turnedMany v_syndromes v_lightest v_freeMany v_freePlace v_freeSyndrome v_ways v_waysKept v_trace v_comesA v_comesB) := hD
  refine lv_istore_n (lv' := [(3, .int r1), (0, .ref (q 0)), (1, .int x1), (2, .int x2)]) hx hb dX12_weight_5 rfl hl (by decide) rfl (fun ls hl => ?_)
  refine lv_iload_n hx hb dX12_weight_6 rfl (lv_at hl 0 rfl) ?_
  refine lv_if_eq (tgt := 12) hx hb dX12_weight_7 (by decide) (fun b3 => ?_) (fun b3 => ?_)
  · have hm := i_t b3 hm
    refine lv_iload_n hx hb dX12_weight_12 rfl (lv_at hl 3 rfl) ?_
    refine lv_i2l (v := x2.toInt64) hx hb dX12_weight_13 rfl ?_
    refine lv_lconst (v := 1) hx hb dX12_weight_14 (by decide) ?_
    refine lv_ldc2 (own := RX12) (v := 6) hx hb hown wd1 dX12_weight_15 ?_
    refine k_calli0 (va_runS (As := [.long x2.toInt64, .long 1, .long 6]) (rest := []) ⟨hx, hb, hml, hown, hts⟩ (c_X12_in l G cs H.size    x2.toInt64 (1 : Int64) (6 : Int64) _ rfl) (va_cwS 3 hts gX12_weight_X12_in rfl rfl rfl hd_X12_in ⟨Nat.le_of_ble_eq_true rfl, Nat.le_of_ble_eq_true rfl⟩) ⟨pre_blind, pre_w hK RO.nil P0 D0 (va_new0 hS hA)⟩ rfl rfl hl.1 rfl (lv_room (Nat.le_of_ble_eq_true rfl)) dX12_weight_18 ⟨Nat.zero_le _, Nat.zero_le _⟩) hP hS hA (fun hE4 H locs hP hS => ?_)
    refine lv_if_ne (tgt := 27) hx hb dX12_weight_21 (by decide) (fun b5 => ?_) (fun b5 => ?_)
    · have hm := i_f b5 hm
      refine lv_aload_n hx hb dX12_weight_27 rfl (lv_at hl 1 rfl) ?_
      refine lv_iload_n hx hb dX12_weight_28 rfl (lv_at hl 2 rfl) ?_
      refine lv_iload_n hx hb dX12_weight_29 rfl (lv_at hl 3 rfl) ?_
      obtain ⟨r6, hc_r6, hm⟩ := bs hm
      refine k_callv (va_runV (As := [.int x1, .int x2]) (rest := []) ⟨hx, hb, hml, hown, hts⟩ (c_X12_findSyndromes l G cs q H.size v_told v_tell v_sums v_kindOf v_modOf v_bitsOf v_turnOf v_polyOf v_beginOf v_finishOf v_isLow v_weightsOf v_weight v_cell v_size v_row v_keptSize v_keptBefore v_keptAfter v_placeA v_placeB v_turned v_turnedMany v_syndromes v_lightest v_freeMany v_freePlace v_freeSyndrome v_ways v_waysKept v_trace v_comesA v_comesB   x1 x2 n r6 hc_r6) (cwV 2 hts gX12_weight_X12_findSyndromes rfl rfl rfl ⟨rfl, hd_X12_findSyndromes⟩ ⟨Nat.le_of_ble_eq_true rfl, Nat.le_of_ble_eq_true rfl⟩) ⟨pre_blind, va_recv hK.1 hP (ci := 10) (q0 := 0) rfl rfl, pre_w hK RO.nil hP hD (va_all hD hS hA)⟩ rfl rfl hl.1 rfl (lv_room (Nat.le_of_ble_eq_true rfl)) dX12_weight_30 ⟨Nat.zero_le _, Nat.zero_le _⟩) hS (va_all hD hS hA) (fun H locs hP hD hS => ?_)
      have hP : va_P G vwCl (ww_M q cs v_told v_tell v_sums v_kindOf v_modOf v_bitsOf v_turnOf v_polyOf v_beginOf v_finishOf v_isLow v_weightsOf v_weight v_cell v_size v_row v_keptSize v_keptBefore v_keptAfter v_placeA v_placeB v_turned v_turnedMany r6 v_lightest v_freeMany v_freePlace v_freeSyndrome v_ways v_waysKept v_trace v_comesA v_comesB) H := hP
      have hD : va_D A (ww_M q cs v_told v_tell v_sums v_kindOf v_modOf v_bitsOf v_turnOf v_polyOf v_beginOf v_finishOf v_isLow v_weightsOf v_weight v_cell v_size v_row v_keptSize v_keptBefore v_keptAfter v_placeA v_placeB v_turned v_turnedMany r6 v_lightest v_freeMany v_freePlace v_freeSyndrome v_ways v_waysKept v_trace v_comesA v_comesB) := hD
      refine lv_iconst (v := 1) hx hb dX12_weight_33 (by decide) ?_
      refine lv_istore (lv' := [(4, .int 1), (3, .int r1), (0, .ref (q 0)), (1, .int x1), (2, .int x2)]) hx hb dX12_weight_34 hl (by decide) rfl (fun ls hl => ?_)
      obtain ⟨u11, hlp11, hm⟩ := bs hm
      refine L36 x2 (1 : Int32) r6 v_lightest u11 hlp11 (fun r h => Option.some.inj (se_r h hm)) (fun o11 ho => ?_) H locs hP hD hS ls (lv_sub hl [2, 4, 0] rfl)
      have hm := se_l ho hm
      intro H locs hP hD hS ls hl
      have hl : lv_has ls 5 [] := hl
      have hP : va_P G vwCl (ww_M q cs v_told v_tell v_sums v_kindOf v_modOf v_bitsOf v_turnOf v_polyOf v_beginOf v_finishOf v_isLow v_weightsOf v_weight v_cell v_size v_row v_keptSize v_keptBefore v_keptAfter v_placeA v_placeB v_turned v_turnedMany r6 o11 v_freeMany v_freePlace v_freeSyndrome v_ways v_waysKept v_trace v_comesA v_comesB) H := hP
      have hD : va_D A (ww_M q cs v_told v_tell v_sums v_kindOf v_modOf v_bitsOf v_turnOf v_polyOf v_beginOf v_finishOf v_isLow v_weightsOf v_weight v_cell v_size v_row v_keptSize v_keptBefore v_keptAfter v_placeA v_placeB v_turned v_turnedMany r6 o11 v_freeMany v_freePlace v_freeSyndrome v_ways v_waysKept v_trace v_comesA v_comesB) := hD
      refine lv_iconst (v := (-1)) hx hb dX12_weight_65 (by decide) ?_
      have hq := Option.some.inj hm
      subst hq; subst hQ
      exact k_iret hx hb hr hlocks hP hD hS rfl trivial dX12_weight_66
    · have hm := i_t b5 hm
      refine lv_bipush (v := (-3)) hx hb dX12_weight_24 (by decide) ?_
      have hq := Option.some.inj hm
      subst hq; subst hQ
      exact k_iret hx hb hr hlocks hP hD hS rfl trivial dX12_weight_26
  · have hm := i_f b3 hm
    refine lv_iload_n hx hb dX12_weight_10 rfl (lv_at hl 0 rfl) ?_
    have hq := Option.some.inj hm
    subst hq; subst hQ
    exact k_iret hx hb hr hlocks hP hD hS rfl trivial dX12_weight_11

theorem hd_X12_lightest : yX12_lightest.cls ≠ "java/lang/invoke/MethodHandle" ∧ yX12_lightest.cls ≠ "java/lang/invoke/VarHandle" ∧ (parseMethodDescriptor yX12_lightest.desc).map (fun d => d.parameters.length) = some 1 := by decide +kernel

def M_X12_lightest (x1 : Int32) (v_lightest : (Nat → Int32)) : Option Int32 :=
  if (M_X12_in x1.toInt64 (0 : Int64) (3 : Int64)) = 0 then (some (-3)) else (if x1 < 0 ∨ 4 ≤ x1.toNatClampNeg then none else some (v_lightest x1.toNatClampNeg))

abbrev rmX12_lightest : Room := { frames := 1, cells := 0, slots := 0, locals := 25 }
set_option maxHeartbeats 4000000 in
set_option maxRecDepth 100000 in
theorem c_X12_lightest (l : Launch) (G : va_G) (cs : CS) (q : Nat → Nat) (sz : Nat) (v_told : Int32) (v_tell : (Nat → Int32)) (v_sums : Int32) (v_kindOf : (Nat → Int32)) (v_modOf : (Nat → Int32)) (v_bitsOf : (Nat → Int32)) (v_turnOf : (Nat → Int32)) (v_polyOf : (Nat → Int64)) (v_beginOf : (Nat → Int64)) (v_finishOf : (Nat → Int64)) (v_isLow : (Nat → Int32)) (v_weightsOf : (Nat → Int32)) (v_weight : (Nat → Int32)) (v_cell : (Nat → Int32)) (v_size : Int32) (v_row : (Nat → Int32)) (v_keptSize : Int32) (v_keptBefore : (Nat → Int32)) (v_keptAfter : (Nat → Int32)) (v_placeA : (Nat → Int64)) (v_placeB : (Nat → Int64)) (v_turned : (Nat → Int32)) (v_turnedMany : Int32) (v_syndromes : (Nat → Int64)) (v_lightest : (Nat → Int32)) (v_freeMany : Int32) (v_freePlace : (Nat → Int32)) (v_freeSyndrome : (Nat → Int64)) (v_ways : (Nat → Int32)) (v_waysKept : Int32) (v_trace : (Nat → Int32)) (v_comesA : Int64) (v_comesB : Int64)   (x1 : Int32) (res : Int32) (hm : M_X12_lightest x1 v_lightest = some res) : Met l yX12_lightest wsX12_lightest rmX12_lightest (va_Pc [.ref (q 0), .int x1] (PreW G cs sz (ww_M q cs v_told v_tell v_sums v_kindOf v_modOf v_bitsOf v_turnOf v_polyOf v_beginOf v_finishOf v_isLow v_weightsOf v_weight v_cell v_size v_row v_keptSize v_keptBefore v_keptAfter v_placeA v_placeB v_turned v_turnedMany v_syndromes v_lightest v_freeMany v_freePlace v_freeSyndrome v_ways v_waysKept v_trace v_comesA v_comesB) RN)) (QI G res True (ww_M q cs v_told v_tell v_sums v_kindOf v_modOf v_bitsOf v_turnOf v_polyOf v_beginOf v_finishOf v_isLow v_weightsOf v_weight v_cell v_size v_row v_keptSize v_keptBefore v_keptAfter v_placeA v_placeB v_turned v_turnedMany v_syndromes v_lightest v_freeMany v_freePlace v_freeSyndrome v_ways v_waysKept v_trace v_comesA v_comesB) (va_A (ww_M q cs v_told v_tell v_sums v_kindOf v_modOf v_bitsOf v_turnOf v_polyOf v_beginOf v_finishOf v_isLow v_weightsOf v_weight v_cell v_size v_row v_keptSize v_keptBefore v_keptAfter v_placeA v_placeB v_turned v_turnedMany v_syndromes v_lightest v_freeMany v_freePlace v_freeSyndrome v_ways v_waysKept v_trace v_comesA v_comesB) sz)) 0 0 (va_A (ww_M q cs v_told v_tell v_sums v_kindOf v_modOf v_bitsOf v_turnOf v_polyOf v_beginOf v_finishOf v_isLow v_weightsOf v_weight v_cell v_size v_row v_keptSize v_keptBefore v_keptAfter v_placeA v_placeB v_turned v_turnedMany v_syndromes v_lightest v_freeMany v_freePlace v_freeSyndrome v_ways v_waysKept v_trace v_comesA v_comesB) sz) := by
  refine k_enter (Qf := fun A => QI G res True (ww_M q cs v_told v_tell v_sums v_kindOf v_modOf v_bitsOf v_turnOf v_polyOf v_beginOf v_finishOf v_isLow v_weightsOf v_weight v_cell v_size v_row v_keptSize v_keptBefore v_keptAfter v_placeA v_placeB v_turned v_turnedMany v_syndromes v_lightest v_freeMany v_freePlace v_freeSyndrome v_ways v_waysKept v_trace v_comesA v_comesB) A) (cc := cX12_lightest) (maxL := 2) (ret := (some .int)) (plainFor_of_name (by decide)) rfl (Nat.le_of_ble_eq_true rfl) ?_
  intro p e s m args below meth c A Q ls H locs hx hb hr hml hown hts hlocks hname hK hA hRo hP hD hS hQ hl
  have hl : lv_has ls 2 [(0, .ref (q 0)), (1, .int x1)] := hl
  have wd1 := hts (.constantLong RX12 115 (3)) (List.mem_of_getElem? (i := 1) rfl)
  have wd2 := hts (.fieldLink RX12 69 "SumSmithModel" "lightest" "[I") (List.mem_of_getElem? (i := 2) rfl)
  have hinX12 : ∀ w ∈ wsX120, w ∈ wsX12_lightest := fun w h => List.mem_cons_of_mem _ (List.mem_append_right _ h)
  unfold M_X12_lightest at hm
  refine lv_iload_n hx hb dX12_lightest_0 rfl (lv_at hl 1 rfl) ?_
  refine lv_i2l (v := x1.toInt64) hx hb dX12_lightest_1 rfl ?_
  refine lv_lconst (v := 0) hx hb dX12_lightest_2 (by decide) ?_
  refine lv_ldc2 (own := RX12) (v := 3) hx hb hown wd1 dX12_lightest_3 ?_
  refine k_calli0 (va_runS (As := [.long x1.toInt64, .long 0, .long 3]) (rest := []) ⟨hx, hb, hml, hown, hts⟩ (c_X12_in l G cs H.size    x1.toInt64 (0 : Int64) (3 : Int64) _ rfl) (va_cwS 3 hts gX12_lightest_X12_in rfl rfl rfl hd_X12_in ⟨Nat.le_of_ble_eq_true rfl, Nat.le_of_ble_eq_true rfl⟩) ⟨pre_blind, pre_w hK RO.nil P0 D0 (va_new0 hS hA)⟩ rfl rfl hl.1 rfl (lv_room (Nat.le_of_ble_eq_true rfl)) dX12_lightest_6 ⟨Nat.zero_le _, Nat.zero_le _⟩) hP hS hA (fun hE1 H locs hP hS => ?_)
  refine lv_if_eq (tgt := 21) hx hb dX12_lightest_9 (by decide) (fun b2 => ?_) (fun b2 => ?_)
  · have hm := i_t b2 hm
    refine lv_bipush (v := (-3)) hx hb dX12_lightest_21 (by decide) ?_
    have hq := Option.some.inj hm
    subst hq; subst hQ
    exact k_iret hx hb hr hlocks hP hD hS rfl trivial dX12_lightest_23
  · have hm := i_f b2 hm
    refine lv_aload_n hx hb dX12_lightest_12 rfl (lv_at hl 0 rfl) ?_
    refine va_get (D := G) (ci := 10) (v := .ref (q 20)) (C := RX12) (T := TX12) (N := 33) hx hb hts hinX12 hown hK.1 hP 0 rfl rfl 24 (by decide) wd2 (fun _ h9 => h9) rfl dX12_lightest_13 ?_
    refine lv_iload_n hx hb dX12_lightest_16 rfl (lv_at hl 1 rfl) ?_
    obtain ⟨h3, hm⟩ := g_in hm
    refine va_iald hx hb hK.1 hP 20 0 rfl rfl h3 dX12_lightest_17 ?_
    refine lv_goto (tgt := 23) hx hb dX12_lightest_18 (by decide) ?_
    have hq := Option.some.inj hm
    subst hq; subst hQ
    exact k_iret hx hb hr hlocks hP hD hS rfl trivial dX12_lightest_23

theorem hd_X12_count : yX12_count.cls ≠ "java/lang/invoke/MethodHandle" ∧ yX12_count.cls ≠ "java/lang/invoke/VarHandle" ∧ (parseMethodDescriptor yX12_count.desc).map (fun d => d.parameters.length) = some 3 := by decide +kernel

def M_X12_count (n : Nat) (x1 : Int32) (x2 : Int32) (x3 : Int32) (v_sums : Int32) (v_kindOf : (Nat → Int32)) (v_bitsOf : (Nat → Int32)) (v_polyOf : (Nat → Int64)) (v_isLow : (Nat → Int32)) (v_syndromes : (Nat → Int64)) (v_lightest : (Nat → Int32)) : Option (Int32 × (Nat → Int64) × (Nat → Int32)) :=
  (M_X12_against x1 v_sums v_kindOf).bind fun r1 => if r1 = 0 then (if (M_X12_in x2.toInt64 (1 : Int64) (4 : Int64)) = 0 then (some ((-3), v_syndromes, v_lightest)) else (if (M_X12_in x3.toInt64 (1 : Int64) (6 : Int64)) = 0 then (some ((-3), v_syndromes, v_lightest)) else ((M_X12_findSyndromes n x1 x3 v_bitsOf v_polyOf v_isLow v_syndromes).bind fun r8 => (M_X12_setsOf n x2 (8 * x3) (0 : Int32) r8 v_lightest).bind fun r9 => some (r9.1, r8, r9.2)))) else (some (r1, v_syndromes, v_lightest))

abbrev rmX12_count : Room := { frames := 4, cells := 0, slots := 0, locals := 105 }
set_option maxHeartbeats 4000000 in
set_option maxRecDepth 100000 in
theorem c_X12_count (l : Launch) (G : va_G) (cs : CS) (q : Nat → Nat) (sz : Nat) (v_told : Int32) (v_tell : (Nat → Int32)) (v_sums : Int32) (v_kindOf : (Nat → Int32)) (v_modOf : (Nat → Int32)) (v_bitsOf : (Nat → Int32)) (v_turnOf : (Nat → Int32)) (v_polyOf : (Nat → Int64)) (v_beginOf : (Nat → Int64)) (v_finishOf : (Nat → Int64)) (v_isLow : (Nat → Int32)) (v_weightsOf : (Nat → Int32)) (v_weight : (Nat → Int32)) (v_cell : (Nat → Int32)) (v_size : Int32) (v_row : (Nat → Int32)) (v_keptSize : Int32) (v_keptBefore : (Nat → Int32)) (v_keptAfter : (Nat → Int32)) (v_placeA : (Nat → Int64)) (v_placeB : (Nat → Int64)) (v_turned : (Nat → Int32)) (v_turnedMany : Int32) (v_syndromes : (Nat → Int64)) (v_lightest : (Nat → Int32)) (v_freeMany : Int32) (v_freePlace : (Nat → Int32)) (v_freeSyndrome : (Nat → Int64)) (v_ways : (Nat → Int32)) (v_waysKept : Int32) (v_trace : (Nat → Int32)) (v_comesA : Int64) (v_comesB : Int64)   (x1 : Int32) (x2 : Int32) (x3 : Int32) (n : Nat) (res : (Int32 × (Nat → Int64) × (Nat → Int32))) (hm : M_X12_count n x1 x2 x3 v_sums v_kindOf v_bitsOf v_polyOf v_isLow v_syndromes v_lightest = some res) : Met l yX12_count wsX12_count rmX12_count (va_Pc [.ref (q 0), .int x1, .int x2, .int x3] (PreW G cs sz (ww_M q cs v_told v_tell v_sums v_kindOf v_modOf v_bitsOf v_turnOf v_polyOf v_beginOf v_finishOf v_isLow v_weightsOf v_weight v_cell v_size v_row v_keptSize v_keptBefore v_keptAfter v_placeA v_placeB v_turned v_turnedMany v_syndromes v_lightest v_freeMany v_freePlace v_freeSyndrome v_ways v_waysKept v_trace v_comesA v_comesB) RN)) (QI G res.1 True (ww_M q cs v_told v_tell v_sums v_kindOf v_modOf v_bitsOf v_turnOf v_polyOf v_beginOf v_finishOf v_isLow v_weightsOf v_weight v_cell v_size v_row v_keptSize v_keptBefore v_keptAfter v_placeA v_placeB v_turned v_turnedMany res.2.1 res.2.2 v_freeMany v_freePlace v_freeSyndrome v_ways v_waysKept v_trace v_comesA v_comesB) (va_A (ww_M q cs v_told v_tell v_sums v_kindOf v_modOf v_bitsOf v_turnOf v_polyOf v_beginOf v_finishOf v_isLow v_weightsOf v_weight v_cell v_size v_row v_keptSize v_keptBefore v_keptAfter v_placeA v_placeB v_turned v_turnedMany v_syndromes v_lightest v_freeMany v_freePlace v_freeSyndrome v_ways v_waysKept v_trace v_comesA v_comesB) sz)) 0 0 (va_A (ww_M q cs v_told v_tell v_sums v_kindOf v_modOf v_bitsOf v_turnOf v_polyOf v_beginOf v_finishOf v_isLow v_weightsOf v_weight v_cell v_size v_row v_keptSize v_keptBefore v_keptAfter v_placeA v_placeB v_turned v_turnedMany v_syndromes v_lightest v_freeMany v_freePlace v_freeSyndrome v_ways v_waysKept v_trace v_comesA v_comesB) sz) := by
  refine k_enter (Qf := fun A => QI G res.1 True (ww_M q cs v_told v_tell v_sums v_kindOf v_modOf v_bitsOf v_turnOf v_polyOf v_beginOf v_finishOf v_isLow v_weightsOf v_weight v_cell v_size v_row v_keptSize v_keptBefore v_keptAfter v_placeA v_placeB v_turned v_turnedMany res.2.1 res.2.2 v_freeMany v_freePlace v_freeSyndrome v_ways v_waysKept v_trace v_comesA v_comesB) A) (cc := cX12_count) (maxL := 5) (ret := (some .int)) (plainFor_of_name (by decide)) rfl (Nat.le_of_ble_eq_true rfl) ?_
  intro p e s m args below meth c A Q ls H locs hx hb hr hml hown hts hlocks hname hK hA hRo hP hD hS hQ hl
  have hl : lv_has ls 5 [(0, .ref (q 0)), (1, .int x1), (2, .int x2), (3, .int x3)] := hl
  have wd1 := hts (.constantLong RX12 257 (4)) (List.mem_of_getElem? (i := 1) rfl)
  have wd2 := hts (.constantLong RX12 248 (6)) (List.mem_of_getElem? (i := 2) rfl)
  unfold M_X12_count at hm
  refine lv_aload_n hx hb dX12_count_0 rfl (lv_at hl 0 rfl) ?_
  refine lv_iload_n hx hb dX12_count_1 rfl (lv_at hl 1 rfl) ?_
  obtain ⟨r1, hc_r1, hm⟩ := bs hm
  refine k_calli (va_runV (As := [.int x1]) (rest := []) ⟨hx, hb, hml, hown, hts⟩ (c_X12_against l G cs q H.size v_told v_tell v_sums v_kindOf v_modOf v_bitsOf v_turnOf v_polyOf v_beginOf v_finishOf v_isLow v_weightsOf v_weight v_cell v_size v_row v_keptSize v_keptBefore v_keptAfter v_placeA v_placeB v_turned v_turnedMany v_syndromes v_lightest v_freeMany v_freePlace v_freeSyndrome v_ways v_waysKept v_trace v_comesA v_comesB   x1 r1 hc_r1) (cwV 1 hts gX12_count_X12_against rfl rfl rfl ⟨rfl, hd_X12_against⟩ ⟨Nat.le_of_ble_eq_true rfl, Nat.le_of_ble_eq_true rfl⟩) ⟨pre_blind, va_recv hK.1 hP (ci := 10) (q0 := 0) rfl rfl, pre_w hK RO.nil hP hD (va_all hD hS hA)⟩ rfl rfl hl.1 rfl (lv_room (Nat.le_of_ble_eq_true rfl)) dX12_count_2 ⟨Nat.zero_le _, Nat.zero_le _⟩) hS (va_all hD hS hA) (fun hE2 H locs hP hD hS => ?_)
  have hP : va_P G vwCl (ww_M q cs v_told v_tell v_sums v_kindOf v_modOf v_bitsOf v_turnOf v_polyOf v_beginOf v_finishOf v_isLow v_weightsOf v_weight v_cell v_size v_row v_keptSize v_keptBefore v_keptAfter v_placeA v_placeB v_turned v_turnedMany v_syndromes v_lightest v_freeMany v_freePlace v_freeSyndrome v_ways v_waysKept v_trace v_comesA v_comesB) H := hP
  have hD : va_D A (ww_M q cs v_told v_tell v_sums v_kindOf v_modOf v_bitsOf v_turnOf v_polyOf v_beginOf v_finishOf v_isLow v_weightsOf v_weight v_cell v_size v_row v_keptSize v_keptBefore v_keptAfter v_placeA v_placeB v_turned v_turnedMany v_syndromes v_lightest v_freeMany v_freePlace v_freeSyndrome v_ways v_waysKept v_trace v_comesA v_comesB) := hD
  refine lv_istore (lv' := [(4, .int r1), (0, .ref (q 0)), (1, .int x1), (2, .int x2), (3, .int x3)]) hx hb dX12_count_5 hl (by decide) rfl (fun ls hl => ?_)
  refine lv_iload hx hb dX12_count_7 (lv_at hl 0 rfl) ?_
  refine lv_if_eq (tgt := 15) hx hb dX12_count_9 (by decide) (fun b3 => ?_) (fun b3 => ?_)
  · have hm := i_t b3 hm
    refine lv_iload_n hx hb dX12_count_15 rfl (lv_at hl 3 rfl) ?_
    refine lv_i2l (v := x2.toInt64) hx hb dX12_count_16 rfl ?_
    refine lv_lconst (v := 1) hx hb dX12_count_17 (by decide) ?_
    refine lv_ldc2 (own := RX12) (v := 4) hx hb hown wd1 dX12_count_18 ?_
    refine k_calli0 (va_runS (As := [.long x2.toInt64, .long 1, .long 4]) (rest := []) ⟨hx, hb, hml, hown, hts⟩ (c_X12_in l G cs H.size    x2.toInt64 (1 : Int64) (4 : Int64) _ rfl) (va_cwS 3 hts gX12_count_X12_in rfl rfl rfl hd_X12_in ⟨Nat.le_of_ble_eq_true rfl, Nat.le_of_ble_eq_true rfl⟩) ⟨pre_blind, pre_w hK RO.nil P0 D0 (va_new0 hS hA)⟩ rfl rfl hl.1 rfl (lv_room (Nat.le_of_ble_eq_true rfl)) dX12_count_21 ⟨Nat.zero_le _, Nat.zero_le _⟩) hP hS hA (fun hE4 H locs hP hS => ?_)
    refine lv_if_eq (tgt := 39) hx hb dX12_count_24 (by decide) (fun b5 => ?_) (fun b5 => ?_)
    · have hm := i_t b5 hm
      refine lv_bipush (v := (-3)) hx hb dX12_count_39 (by decide) ?_
      have hq := Option.some.inj hm
      subst hq; subst hQ
      exact k_iret hx hb hr hlocks hP hD hS rfl trivial dX12_count_41
    · have hm := i_f b5 hm
      refine lv_iload_n hx hb dX12_count_27 rfl (lv_at hl 4 rfl) ?_
      refine lv_i2l (v := x3.toInt64) hx hb dX12_count_28 rfl ?_
      refine lv_lconst (v := 1) hx hb dX12_count_29 (by decide) ?_
      refine lv_ldc2 (own := RX12) (v := 6) hx hb hown wd2 dX12_count_30 ?_
      refine k_calli0 (va_runS (As := [.long x3.toInt64, .long 1, .long 6]) (rest := []) ⟨hx, hb, hml, hown, hts⟩ (c_X12_in l G cs H.size    x3.toInt64 (1 : Int64) (6 : Int64) _ rfl) (va_cwS 3 hts gX12_count_X12_in rfl rfl rfl hd_X12_in ⟨Nat.le_of_ble_eq_true rfl, Nat.le_of_ble_eq_true rfl⟩) ⟨pre_blind, pre_w hK RO.nil P0 D0 (va_new0 hS hA)⟩ rfl rfl hl.1 rfl (lv_room (Nat.le_of_ble_eq_true rfl)) dX12_count_33 ⟨Nat.zero_le _, Nat.zero_le _⟩) hP hS hA (fun hE6 H locs hP hS => ?_)
      refine lv_if_ne (tgt := 42) hx hb dX12_count_36 (by decide) (fun b7 => ?_) (fun b7 => ?_)
      · have hm := i_f b7 hm
        refine lv_aload_n hx hb dX12_count_42 rfl (lv_at hl 1 rfl) ?_
        refine lv_iload_n hx hb dX12_count_43 rfl (lv_at hl 2 rfl) ?_
        refine lv_iload_n hx hb dX12_count_44 rfl (lv_at hl 4 rfl) ?_
        obtain ⟨r8, hc_r8, hm⟩ := bs hm
        refine k_callv (va_runV (As := [.int x1, .int x3]) (rest := []) ⟨hx, hb, hml, hown, hts⟩ (c_X12_findSyndromes l G cs q H.size v_told v_tell v_sums v_kindOf v_modOf v_bitsOf v_turnOf v_polyOf v_beginOf v_finishOf v_isLow v_weightsOf v_weight v_cell v_size v_row v_keptSize v_keptBefore v_keptAfter v_placeA v_placeB v_turned v_turnedMany v_syndromes v_lightest v_freeMany v_freePlace v_freeSyndrome v_ways v_waysKept v_trace v_comesA v_comesB   x1 x3 n r8 hc_r8) (cwV 2 hts gX12_count_X12_findSyndromes rfl rfl rfl ⟨rfl, hd_X12_findSyndromes⟩ ⟨Nat.le_of_ble_eq_true rfl, Nat.le_of_ble_eq_true rfl⟩) ⟨pre_blind, va_recv hK.1 hP (ci := 10) (q0 := 0) rfl rfl, pre_w hK RO.nil hP hD (va_all hD hS hA)⟩ rfl rfl hl.1 rfl (lv_room (Nat.le_of_ble_eq_true rfl)) dX12_count_45 ⟨Nat.zero_le _, Nat.zero_le _⟩) hS (va_all hD hS hA) (fun H locs hP hD hS => ?_)
        have hP : va_P G vwCl (ww_M q cs v_told v_tell v_sums v_kindOf v_modOf v_bitsOf v_turnOf v_polyOf v_beginOf v_finishOf v_isLow v_weightsOf v_weight v_cell v_size v_row v_keptSize v_keptBefore v_keptAfter v_placeA v_placeB v_turned v_turnedMany r8 v_lightest v_freeMany v_freePlace v_freeSyndrome v_ways v_waysKept v_trace v_comesA v_comesB) H := hP
        have hD : va_D A (ww_M q cs v_told v_tell v_sums v_kindOf v_modOf v_bitsOf v_turnOf v_polyOf v_beginOf v_finishOf v_isLow v_weightsOf v_weight v_cell v_size v_row v_keptSize v_keptBefore v_keptAfter v_placeA v_placeB v_turned v_turnedMany r8 v_lightest v_freeMany v_freePlace v_freeSyndrome v_ways v_waysKept v_trace v_comesA v_comesB) := hD
        refine lv_aload_n hx hb dX12_count_48 rfl (lv_at hl 1 rfl) ?_
        refine lv_iload_n hx hb dX12_count_49 rfl (lv_at hl 3 rfl) ?_
        refine lv_bipush (v := 8) hx hb dX12_count_50 (by decide) ?_
        refine lv_iload_n hx hb dX12_count_52 rfl (lv_at hl 4 rfl) ?_
        refine lv_imul hx hb dX12_count_53 ?_
        refine lv_iconst (v := 0) hx hb dX12_count_54 (by decide) ?_
        obtain ⟨r9, hc_r9, hm⟩ := bs hm
        refine k_calli (va_runV (As := [.int x2, .int (8 * x3), .int 0]) (rest := []) ⟨hx, hb, hml, hown, hts⟩ (c_X12_setsOf l G cs q H.size v_told v_tell v_sums v_kindOf v_modOf v_bitsOf v_turnOf v_polyOf v_beginOf v_finishOf v_isLow v_weightsOf v_weight v_cell v_size v_row v_keptSize v_keptBefore v_keptAfter v_placeA v_placeB v_turned v_turnedMany r8 v_lightest v_freeMany v_freePlace v_freeSyndrome v_ways v_waysKept v_trace v_comesA v_comesB   x2 (8 * x3) (0 : Int32) n r9 hc_r9) (cwV 3 hts gX12_count_X12_setsOf rfl rfl rfl ⟨rfl, hd_X12_setsOf⟩ ⟨Nat.le_of_ble_eq_true rfl, Nat.le_of_ble_eq_true rfl⟩) ⟨pre_blind, va_recv hK.1 hP (ci := 10) (q0 := 0) rfl rfl, pre_w hK RO.nil hP hD (va_all hD hS hA)⟩ rfl rfl hl.1 rfl (lv_room (Nat.le_of_ble_eq_true rfl)) dX12_count_55 ⟨Nat.zero_le _, Nat.zero_le _⟩) hS (va_all hD hS hA) (fun hE10 H locs hP hD hS => ?_)
        have hP : va_P G vwCl (ww_M q cs v_told v_tell v_sums v_kindOf v_modOf v_bitsOf v_turnOf v_polyOf v_beginOf v_finishOf v_isLow v_weightsOf v_weight v_cell v_size v_row v_keptSize v_keptBefore v_keptAfter v_placeA v_placeB v_turned v_turnedMany r8 r9.2 v_freeMany v_freePlace v_freeSyndrome v_ways v_waysKept v_trace v_comesA v_comesB) H := hP
        have hD : va_D A (ww_M q cs v_told v_tell v_sums v_kindOf v_modOf v_bitsOf v_turnOf v_polyOf v_beginOf v_finishOf v_isLow v_weightsOf v_weight v_cell v_size v_row v_keptSize v_keptBefore v_keptAfter v_placeA v_placeB v_turned v_turnedMany r8 r9.2 v_freeMany v_freePlace v_freeSyndrome v_ways v_waysKept v_trace v_comesA v_comesB) := hD
        have hq := Option.some.inj hm
        subst hq; subst hQ
        exact k_iret hx hb hr hlocks hP hD hS rfl trivial dX12_count_58
      · have hm := i_t b7 hm
        refine lv_bipush (v := (-3)) hx hb dX12_count_39 (by decide) ?_
        have hq := Option.some.inj hm
        subst hq; subst hQ
        exact k_iret hx hb hr hlocks hP hD hS rfl trivial dX12_count_41
  · have hm := i_f b3 hm
    refine lv_iload hx hb dX12_count_12 (lv_at hl 0 rfl) ?_
    have hq := Option.some.inj hm
    subst hq; subst hQ
    exact k_iret hx hb hr hlocks hP hD hS rfl trivial dX12_count_14

theorem hd_X12_period : yX12_period.cls ≠ "java/lang/invoke/MethodHandle" ∧ yX12_period.cls ≠ "java/lang/invoke/VarHandle" ∧ (parseMethodDescriptor yX12_period.desc).map (fun d => d.parameters.length) = some 1 := by decide +kernel

def M_X12_period_b17 (n : Nat) (x1 : Int32) (v_bitsOf : (Nat → Int32)) (v_polyOf : (Nat → Int64)) (x3 : Int64) (x5 : Int32) : Option ((Int64 × Int32) ⊕ (Unit ⊕ Int32)) :=
  if 65536 ≤ x5 then (some (.inr (.inl ()))) else (if x1 < 0 ∨ 16 ≤ x1.toNatClampNeg then none else if x1 < 0 ∨ 16 ≤ x1.toNatClampNeg then none else if (M_X12_step x3 (0 : Int32) (v_bitsOf x1.toNatClampNeg) (v_polyOf x1.toNatClampNeg)) = 1 then (some (.inr (.inr x5))) else (some (.inl ((M_X12_step x3 (0 : Int32) (v_bitsOf x1.toNatClampNeg) (v_polyOf x1.toNatClampNeg)), x5 + 1))))

def M_X12_period (n : Nat) (x1 : Int32) (v_sums : Int32) (v_kindOf : (Nat → Int32)) (v_bitsOf : (Nat → Int32)) (v_polyOf : (Nat → Int64)) : Option Int32 :=
  (M_X12_against x1 v_sums v_kindOf).bind fun r1 => if r1 = 0 then ((lp (fun x : (Int64 × Int32) => M_X12_period_b17 n x1 v_bitsOf v_polyOf x.1 x.2) n ((1 : Int64), (1 : Int32))).bind (Sum.elim (fun o8 => some (-1)) (fun r => some r))) else (some r1)

abbrev rmX12_period : Room := { frames := 3, cells := 0, slots := 0, locals := 67 }
set_option maxHeartbeats 4000000 in
set_option maxRecDepth 100000 in
theorem c_X12_period (l : Launch) (G : va_G) (cs : CS) (q : Nat → Nat) (sz : Nat) (v_told : Int32) (v_tell : (Nat → Int32)) (v_sums : Int32) (v_kindOf : (Nat → Int32)) (v_modOf : (Nat → Int32)) (v_bitsOf : (Nat → Int32)) (v_turnOf : (Nat → Int32)) (v_polyOf : (Nat → Int64)) (v_beginOf : (Nat → Int64)) (v_finishOf : (Nat → Int64)) (v_isLow : (Nat → Int32)) (v_weightsOf : (Nat → Int32)) (v_weight : (Nat → Int32)) (v_cell : (Nat → Int32)) (v_size : Int32) (v_row : (Nat → Int32)) (v_keptSize : Int32) (v_keptBefore : (Nat → Int32)) (v_keptAfter : (Nat → Int32)) (v_placeA : (Nat → Int64)) (v_placeB : (Nat → Int64)) (v_turned : (Nat → Int32)) (v_turnedMany : Int32) (v_syndromes : (Nat → Int64)) (v_lightest : (Nat → Int32)) (v_freeMany : Int32) (v_freePlace : (Nat → Int32)) (v_freeSyndrome : (Nat → Int64)) (v_ways : (Nat → Int32)) (v_waysKept : Int32) (v_trace : (Nat → Int32)) (v_comesA : Int64) (v_comesB : Int64)   (x1 : Int32) (n : Nat) (res : Int32) (hm : M_X12_period n x1 v_sums v_kindOf v_bitsOf v_polyOf = some res) : Met l yX12_period wsX12_period rmX12_period (va_Pc [.ref (q 0), .int x1] (PreW G cs sz (ww_M q cs v_told v_tell v_sums v_kindOf v_modOf v_bitsOf v_turnOf v_polyOf v_beginOf v_finishOf v_isLow v_weightsOf v_weight v_cell v_size v_row v_keptSize v_keptBefore v_keptAfter v_placeA v_placeB v_turned v_turnedMany v_syndromes v_lightest v_freeMany v_freePlace v_freeSyndrome v_ways v_waysKept v_trace v_comesA v_comesB) RN)) (QI G res True (ww_M q cs v_told v_tell v_sums v_kindOf v_modOf v_bitsOf v_turnOf v_polyOf v_beginOf v_finishOf v_isLow v_weightsOf v_weight v_cell v_size v_row v_keptSize v_keptBefore v_keptAfter v_placeA v_placeB v_turned v_turnedMany v_syndromes v_lightest v_freeMany v_freePlace v_freeSyndrome v_ways v_waysKept v_trace v_comesA v_comesB) (va_A (ww_M q cs v_told v_tell v_sums v_kindOf v_modOf v_bitsOf v_turnOf v_polyOf v_beginOf v_finishOf v_isLow v_weightsOf v_weight v_cell v_size v_row v_keptSize v_keptBefore v_keptAfter v_placeA v_placeB v_turned v_turnedMany v_syndromes v_lightest v_freeMany v_freePlace v_freeSyndrome v_ways v_waysKept v_trace v_comesA v_comesB) sz)) 0 0 (va_A (ww_M q cs v_told v_tell v_sums v_kindOf v_modOf v_bitsOf v_turnOf v_polyOf v_beginOf v_finishOf v_isLow v_weightsOf v_weight v_cell v_size v_row v_keptSize v_keptBefore v_keptAfter v_placeA v_placeB v_turned v_turnedMany v_syndromes v_lightest v_freeMany v_freePlace v_freeSyndrome v_ways v_waysKept v_trace v_comesA v_comesB) sz) := by
  refine k_enter (Qf := fun A => QI G res True (ww_M q cs v_told v_tell v_sums v_kindOf v_modOf v_bitsOf v_turnOf v_polyOf v_beginOf v_finishOf v_isLow v_weightsOf v_weight v_cell v_size v_row v_keptSize v_keptBefore v_keptAfter v_placeA v_placeB v_turned v_turnedMany v_syndromes v_lightest v_freeMany v_freePlace v_freeSyndrome v_ways v_waysKept v_trace v_comesA v_comesB) A) (cc := cX12_period) (maxL := 6) (ret := (some .int)) (plainFor_of_name (by decide)) rfl (Nat.le_of_ble_eq_true rfl) ?_
  intro p e s m args below meth c A Q ls H locs hx hb hr hml hown hts hlocks hname hK hA hRo hP hD hS hQ hl
  have hl : lv_has ls 6 [(0, .ref (q 0)), (1, .int x1)] := hl
  have wd1 := hts (.constant RX12 259 (65536)) (List.mem_of_getElem? (i := 1) rfl)
  have wd2 := hts (.fieldLink RX12 19 "SumSmithModel" "bitsOf" "[I") (List.mem_of_getElem? (i := 2) rfl)
  have wd3 := hts (.fieldLink RX12 25 "SumSmithModel" "polyOf" "[J") (List.mem_of_getElem? (i := 3) rfl)
  have hinX12 : ∀ w ∈ wsX120, w ∈ wsX12_period := fun w h => List.mem_cons_of_mem _ (List.mem_append_right _ h)
  have L17 : ∀ (x1 : Int32) (x3 : Int64) (x5 : Int32) (out : (Unit ⊕ Int32)), lp (fun x : (Int64 × Int32) => M_X12_period_b17 n x1 v_bitsOf v_polyOf x.1 x.2) n (x3, x5) = some out → (∀ r, out = .inr r → r = res) → (∀ (o : Unit), out = .inl o → ∀ (H : Heap) (locs : List Loc), va_P G vwCl (ww_M q cs v_told v_tell v_sums v_kindOf v_modOf v_bitsOf v_turnOf v_polyOf v_beginOf v_finishOf v_isLow v_weightsOf v_weight v_cell v_size v_row v_keptSize v_keptBefore v_keptAfter v_placeA v_placeB v_turned v_turnedMany v_syndromes v_lightest v_freeMany v_freePlace v_freeSyndrome v_ways v_waysKept v_trace v_comesA v_comesB) H → va_D A (ww_M q cs v_told v_tell v_sums v_kindOf v_modOf v_bitsOf v_turnOf v_polyOf v_beginOf v_finishOf v_isLow v_weightsOf v_weight v_cell v_size v_row v_keptSize v_keptBefore v_keptAfter v_placeA v_placeB v_turned v_turnedMany v_syndromes v_lightest v_freeMany v_freePlace v_freeSyndrome v_ways v_waysKept v_trace v_comesA v_comesB) → va_S A s.heap H locs → ∀ (ls : Array Slot), lv_has ls 6 [] → W p l e rmX12_period s m args below meth c H locs 0 0 Q (F0 m 58 ls [])) → ∀ (H : Heap) (locs : List Loc), va_P G vwCl (ww_M q cs v_told v_tell v_sums v_kindOf v_modOf v_bitsOf v_turnOf v_polyOf v_beginOf v_finishOf v_isLow v_weightsOf v_weight v_cell v_size v_row v_keptSize v_keptBefore v_keptAfter v_placeA v_placeB v_turned v_turnedMany v_syndromes v_lightest v_freeMany v_freePlace v_freeSyndrome v_ways v_waysKept v_trace v_comesA v_comesB) H → va_D A (ww_M q cs v_told v_tell v_sums v_kindOf v_modOf v_bitsOf v_turnOf v_polyOf v_beginOf v_finishOf v_isLow v_weightsOf v_weight v_cell v_size v_row v_keptSize v_keptBefore v_keptAfter v_placeA v_placeB v_turned v_turnedMany v_syndromes v_lightest v_freeMany v_freePlace v_freeSyndrome v_ways v_waysKept v_trace v_comesA v_comesB) → va_S A s.heap H locs → ∀ (ls : Array Slot), lv_has ls 6 [(0, .ref (q 0)), (1, .int x1), (3, .long x3), (5, .int x5)] → W p l e rmX12_period s m args below meth c H locs 0 0 Q (F0 m 17 ls []) := by
    intro x1 x3 x5 out hlp hret hX
    refine lp_ind (fun x => ∀ (H : Heap) (locs : List Loc), va_P G vwCl (ww_M q cs v_told v_tell v_sums v_kindOf v_modOf v_bitsOf v_turnOf v_polyOf v_beginOf v_finishOf v_isLow v_weightsOf v_weight v_cell v_size v_row v_keptSize v_keptBefore v_keptAfter v_placeA v_placeB v_turned v_turnedMany v_syndromes v_lightest v_freeMany v_freePlace v_freeSyndrome v_ways v_waysKept v_trace v_comesA v_comesB) H → va_D A (ww_M q cs v_told v_tell v_sums v_kindOf v_modOf v_bitsOf v_turnOf v_polyOf v_beginOf v_finishOf v_isLow v_weightsOf v_weight v_cell v_size v_row v_keptSize v_keptBefore v_keptAfter v_placeA v_placeB v_turned v_turnedMany v_syndromes v_lightest v_freeMany v_freePlace v_freeSyndrome v_ways v_waysKept v_trace v_comesA v_comesB) → va_S A s.heap H locs → ∀ (ls : Array Slot), lv_has ls 6 [(0, .ref (q 0)), (1, .int x1), (3, .long x.1), (5, .int x.2)] → W p l e rmX12_period s m args below meth c H locs 0 0 Q (F0 m 17 ls [])) ?_ n (x3, x5) hlp
    clear hlp hP hD hS hl
    rintro ⟨x3, x5⟩ ob hm hst H locs hP hD hS ls hl
    have hm : M_X12_period_b17 n x1 v_bitsOf v_polyOf x3 x5 = some ob := hm
    have hl : lv_has ls 6 [(0, .ref (q 0)), (1, .int x1), (3, .long x3), (5, .int x5)] := hl
    have hP : va_P G vwCl (ww_M q cs v_told v_tell v_sums v_kindOf v_modOf v_bitsOf v_turnOf v_polyOf v_beginOf v_finishOf v_isLow v_weightsOf v_weight v_cell v_size v_row v_keptSize v_keptBefore v_keptAfter v_placeA v_placeB v_turned v_turnedMany v_syndromes v_lightest v_freeMany v_freePlace v_freeSyndrome v_ways v_waysKept v_trace v_comesA v_comesB) H := hP
    have hD : va_D A (ww_M q cs v_told v_tell v_sums v_kindOf v_modOf v_bitsOf v_turnOf v_polyOf v_beginOf v_finishOf v_isLow v_weightsOf v_weight v_cell v_size v_row v_keptSize v_keptBefore v_keptAfter v_placeA v_placeB v_turned v_turnedMany v_syndromes v_lightest v_freeMany v_freePlace v_freeSyndrome v_ways v_waysKept v_trace v_comesA v_comesB) := hD
    unfold M_X12_period_b17 at hm
    refine lv_iload hx hb dX12_period_17 (lv_at hl 3 rfl) ?_
    refine lv_ldcw (own := RX12) (v := 65536) hx hb hown wd1 dX12_period_19 ?_
    refine lv_icmp_ge (tgt := 58) hx hb dX12_period_22 (by decide) (fun b4 => ?_) (fun b4 => ?_)
    · have hm := i_t b4 hm
      exact hX _ (st_exit hm hst) H locs hP hD hS ls (lv_sub hl [] rfl)
    · have hm := i_f b4 hm
      refine lv_lload_n hx hb dX12_period_25 rfl (lv_at hl 2 rfl) ?_
      refine lv_iconst (v := 0) hx hb dX12_period_26 (by decide) ?_
      refine lv_aload_n hx hb dX12_period_27 rfl (lv_at hl 0 rfl) ?_
      refine va_get (D := G) (ci := 10) (v := .ref (q 4)) (C := RX12) (T := TX12) (N := 33) hx hb hts hinX12 hown hK.1 hP 0 rfl rfl 5 (by decide) wd2 (fun _ h9 => h9) rfl dX12_period_28 ?_
      refine lv_iload_n hx hb dX12_period_31 rfl (lv_at hl 1 rfl) ?_
      obtain ⟨h5, hm⟩ := g_in hm
      refine va_iald hx hb hK.1 hP 4 0 rfl rfl h5 dX12_period_32 ?_
      refine lv_aload_n hx hb dX12_period_33 rfl (lv_at hl 0 rfl) ?_
      refine va_get (D := G) (ci := 10) (v := .ref (q 6)) (C := RX12) (T := TX12) (N := 33) hx hb hts hinX12 hown hK.1 hP 0 rfl rfl 7 (by decide) wd3 (fun _ h9 => h9) rfl dX12_period_34 ?_
      refine lv_iload_n hx hb dX12_period_37 rfl (lv_at hl 1 rfl) ?_
      obtain ⟨h6, hm⟩ := g_in hm
      refine va_lald hx hb hK.1 hP 6 1 rfl rfl h6 dX12_period_38 ?_
      refine k_calll0 (va_runS (As := [.long x3, .int 0, .int (v_bitsOf x1.toNatClampNeg), .long (v_polyOf x1.toNatClampNeg)]) (rest := []) ⟨hx, hb, hml, hown, hts⟩ (c_X12_step l G cs H.size    x3 (0 : Int32) (v_bitsOf x1.toNatClampNeg) (v_polyOf x1.toNatClampNeg) _ rfl) (va_cwS 4 hts gX12_period_X12_step rfl rfl rfl hd_X12_step ⟨Nat.le_of_ble_eq_true rfl, Nat.le_of_ble_eq_true rfl⟩) ⟨pre_blind, pre_w hK RO.nil P0 D0 (va_new0 hS hA)⟩ rfl rfl hl.1 rfl (lv_room (Nat.le_of_ble_eq_true rfl)) dX12_period_39 ⟨Nat.zero_le _, Nat.zero_le _⟩) hP hS hA (fun H locs hP hS => ?_)
      refine lv_lstore_n (lv' := [(3, .long (M_X12_step x3 (0 : Int32) (v_bitsOf x1.toNatClampNeg) (v_polyOf x1.toNatClampNeg))), (0, .ref (q 0)), (1, .int x1), (5, .int x5)]) hx hb dX12_period_42 rfl hl (by decide) rfl (fun ls hl => ?_)
      refine lv_lload_n hx hb dX12_period_43 rfl (lv_at hl 0 rfl) ?_
      refine lv_lconst (v := 1) hx hb dX12_period_44 (by decide) ?_
      refine W.lcmp hx hb dX12_period_45 ?_
      refine lv_if_ne (tgt := 52) hx hb dX12_period_46 (by decide) (fun b7 => ?_) (fun b7 => ?_)
      · have b7 := fun h9 => b7 ((lg_cmp_eq _ _).mpr h9)
        have hm := i_f b7 hm
        refine lv_iinc (v := x5 + 1) (lv' := [(5, .int (x5 + 1)), (3, .long (M_X12_step x3 (0 : Int32) (v_bitsOf x1.toNatClampNeg) (v_polyOf x1.toNatClampNeg))), (0, .ref (q 0)), (1, .int x1)]) hx hb dX12_period_52 hl (k := 3) rfl rfl (by decide) rfl (fun ls hl => ?_)
        refine lv_goto (tgt := 17) hx hb dX12_period_55 (by decide) ?_
        exact st_next hm hst H locs hP hD hS ls (lv_sub hl [2, 3, 1, 0] rfl)
      · have b7 := (lg_cmp_eq _ _).mp b7
        have hm := i_t b7 hm
        refine lv_iload hx hb dX12_period_49 (lv_at hl 3 rfl) ?_
        have hq := hret _ (st_exit hm hst)
        subst hq; subst hQ
        exact k_iret hx hb hr hlocks hP hD hS rfl trivial dX12_period_51
  unfold M_X12_period at hm
  refine lv_aload_n hx hb dX12_period_0 rfl (lv_at hl 0 rfl) ?_
  refine lv_iload_n hx hb dX12_period_1 rfl (lv_at hl 1 rfl) ?_
  obtain ⟨r1, hc_r1, hm⟩ := bs hm
  refine k_calli (va_runV (As := [.int x1]) (rest := []) ⟨hx, hb, hml, hown, hts⟩ (c_X12_against l G cs q H.size v_told v_tell v_sums v_kindOf v_modOf v_bitsOf v_turnOf v_polyOf v_beginOf v_finishOf v_isLow v_weightsOf v_weight v_cell v_size v_row v_keptSize v_keptBefore v_keptAfter v_placeA v_placeB v_turned v_turnedMany v_syndromes v_lightest v_freeMany v_freePlace v_freeSyndrome v_ways v_waysKept v_trace v_comesA v_comesB   x1 r1 hc_r1) (cwV 1 hts gX12_period_X12_against rfl rfl rfl ⟨rfl, hd_X12_against⟩ ⟨Nat.le_of_ble_eq_true rfl, Nat.le_of_ble_eq_true rfl⟩) ⟨pre_blind, va_recv hK.1 hP (ci := 10) (q0 := 0) rfl rfl, pre_w hK RO.nil hP hD (va_all hD hS hA)⟩ rfl rfl hl.1 rfl (lv_room (Nat.le_of_ble_eq_true rfl)) dX12_period_2 ⟨Nat.zero_le _, Nat.zero_le _⟩) hS (va_all hD hS hA) (fun hE2 H locs hP hD hS => ?_)
  have hP : va_P G vwCl (ww_M q cs v_told v_tell v_sums v_kindOf v_modOf v_bitsOf v_turnOf v_polyOf v_beginOf v_finishOf v_isLow v_weightsOf v_weight v_cell v_size v_row v_keptSize v_keptBefore v_keptAfter v_placeA v_placeB v_turned v_turnedMany v_syndromes v_lightest v_freeMany v_freePlace v_freeSyndrome v_ways v_waysKept v_trace v_comesA v_comesB) H := hP
  have hD : va_D A (ww_M q cs v_told v_tell v_sums v_kindOf v_modOf v_bitsOf v_turnOf v_polyOf v_beginOf v_finishOf v_isLow v_weightsOf v_weight v_cell v_size v_row v_keptSize v_keptBefore v_keptAfter v_placeA v_placeB v_turned v_turnedMany v_syndromes v_lightest v_freeMany v_freePlace v_freeSyndrome v_ways v_waysKept v_trace v_comesA v_comesB) := hD
  refine lv_istore_n (lv' := [(2, .int r1), (0, .ref (q 0)), (1, .int x1)]) hx hb dX12_period_5 rfl hl (by decide) rfl (fun ls hl => ?_)
  refine lv_iload_n hx hb dX12_period_6 rfl (lv_at hl 0 rfl) ?_
  refine lv_if_eq (tgt := 12) hx hb dX12_period_7 (by decide) (fun b3 => ?_) (fun b3 => ?_)
  · have hm := i_t b3 hm
    refine lv_lconst (v := 1) hx hb dX12_period_12 (by decide) ?_
    refine lv_lstore_n (lv' := [(3, .long 1), (2, .int r1), (0, .ref (q 0)), (1, .int x1)]) hx hb dX12_period_13 rfl hl (by decide) rfl (fun ls hl => ?_)
    refine lv_iconst (v := 1) hx hb dX12_period_14 (by decide) ?_
    refine lv_istore (lv' := [(5, .int 1), (3, .long 1), (2, .int r1), (0, .ref (q 0)), (1, .int x1)]) hx hb dX12_period_15 hl (by decide) rfl (fun ls hl => ?_)
    obtain ⟨u8, hlp8, hm⟩ := bs hm
    refine L17 x1 (1 : Int64) (1 : Int32) u8 hlp8 (fun r h => Option.some.inj (se_r h hm)) (fun o8 ho => ?_) H locs hP hD hS ls (lv_sub hl [3, 4, 1, 0] rfl)
    have hm := se_l ho hm
    intro H locs hP hD hS ls hl
    have hl : lv_has ls 6 [] := hl
    have hP : va_P G vwCl (ww_M q cs v_told v_tell v_sums v_kindOf v_modOf v_bitsOf v_turnOf v_polyOf v_beginOf v_finishOf v_isLow v_weightsOf v_weight v_cell v_size v_row v_keptSize v_keptBefore v_keptAfter v_placeA v_placeB v_turned v_turnedMany v_syndromes v_lightest v_freeMany v_freePlace v_freeSyndrome v_ways v_waysKept v_trace v_comesA v_comesB) H := hP
    have hD : va_D A (ww_M q cs v_told v_tell v_sums v_kindOf v_modOf v_bitsOf v_turnOf v_polyOf v_beginOf v_finishOf v_isLow v_weightsOf v_weight v_cell v_size v_row v_keptSize v_keptBefore v_keptAfter v_placeA v_placeB v_turned v_turnedMany v_syndromes v_lightest v_freeMany v_freePlace v_freeSyndrome v_ways v_waysKept v_trace v_comesA v_comesB) := hD
    refine lv_iconst (v := (-1)) hx hb dX12_period_58 (by decide) ?_
    have hq := Option.some.inj hm
    subst hq; subst hQ
    exact k_iret hx hb hr hlocks hP hD hS rfl trivial dX12_period_59
  · have hm := i_f b3 hm
    refine lv_iload_n hx hb dX12_period_10 rfl (lv_at hl 0 rfl) ?_
    have hq := Option.some.inj hm
    subst hq; subst hQ
    exact k_iret hx hb hr hlocks hP hD hS rfl trivial dX12_period_11

theorem hd_X12_free : yX12_free.cls ≠ "java/lang/invoke/MethodHandle" ∧ yX12_free.cls ≠ "java/lang/invoke/VarHandle" ∧ (parseMethodDescriptor yX12_free.desc).map (fun d => d.parameters.length) = some 1 := by decide +kernel

def M_X12_free_b19 (n : Nat) (x1 : Int32) (v_freeMany : Int32) (v_freePlace : (Nat → Int32)) (x2 : Int32) (x3 : Int32) : Option ((Int32 × Int32) ⊕ Int32) :=
  if v_freeMany ≤ x3 then (some (.inr x2)) else (if x2 = 0 then (some (.inl (0, x3 + 1))) else (if x3 < 0 ∨ 16 ≤ x3.toNatClampNeg then none else if (v_freePlace x3.toNatClampNeg) = x1 then (some (.inl (0, x3 + 1))) else (some (.inl (1, x3 + 1)))))

def M_X12_free (n : Nat) (x1 : Int32) (v_size : Int32) (v_freeMany : Int32) (v_freePlace : (Nat → Int32)) : Option (Int32 × Int32 × (Nat → Int32)) :=
  (lp (fun x : (Int32 × Int32) => M_X12_free_b19 n x1 v_freeMany v_freePlace x.1 x.2) n ((M_X12_in x1.toInt64 (0 : Int64) (((8 * v_size) - 1).toInt64)), (0 : Int32))).bind fun o6 => if o6 = 0 then (some ((-3), v_freeMany, v_freePlace)) else (if v_freeMany = 16 then (some ((-6), v_freeMany, v_freePlace)) else (if v_freeMany < 0 ∨ 16 ≤ v_freeMany.toNatClampNeg then none else some ((v_freeMany + 1), (v_freeMany + 1), (upd v_freePlace v_freeMany.toNatClampNeg x1))))

abbrev rmX12_free : Room := { frames := 1, cells := 0, slots := 0, locals := 25 }
set_option maxHeartbeats 4000000 in
set_option maxRecDepth 100000 in
theorem c_X12_free (l : Launch) (G : va_G) (cs : CS) (q : Nat → Nat) (sz : Nat) (v_told : Int32) (v_tell : (Nat → Int32)) (v_sums : Int32) (v_kindOf : (Nat → Int32)) (v_modOf : (Nat → Int32)) (v_bitsOf : (Nat → Int32)) (v_turnOf : (Nat → Int32)) (v_polyOf : (Nat → Int64)) (v_beginOf : (Nat → Int64)) (v_finishOf : (Nat → Int64)) (v_isLow : (Nat → Int32)) (v_weightsOf : (Nat → Int32)) (v_weight : (Nat → Int32)) (v_cell : (Nat → Int32)) (v_size : Int32) (v_row : (Nat → Int32)) (v_keptSize : Int32) (v_keptBefore : (Nat → Int32)) (v_keptAfter : (Nat → Int32)) (v_placeA : (Nat → Int64)) (v_placeB : (Nat → Int64)) (v_turned : (Nat → Int32)) (v_turnedMany : Int32) (v_syndromes : (Nat → Int64)) (v_lightest : (Nat → Int32)) (v_freeMany : Int32) (v_freePlace : (Nat → Int32)) (v_freeSyndrome : (Nat → Int64)) (v_ways : (Nat → Int32)) (v_waysKept : Int32) (v_trace : (Nat → Int32)) (v_comesA : Int64) (v_comesB : Int64)   (x1 : Int32) (n : Nat) (res : (Int32 × Int32 × (Nat → Int32))) (hm : M_X12_free n x1 v_size v_freeMany v_freePlace = some res) : Met l yX12_free wsX12_free rmX12_free (va_Pc [.ref (q 0), .int x1] (PreW G cs sz (ww_M q cs v_told v_tell v_sums v_kindOf v_modOf v_bitsOf v_turnOf v_polyOf v_beginOf v_finishOf v_isLow v_weightsOf v_weight v_cell v_size v_row v_keptSize v_keptBefore v_keptAfter v_placeA v_placeB v_turned v_turnedMany v_syndromes v_lightest v_freeMany v_freePlace v_freeSyndrome v_ways v_waysKept v_trace v_comesA v_comesB) RN)) (QI G res.1 True (ww_M q cs v_told v_tell v_sums v_kindOf v_modOf v_bitsOf v_turnOf v_polyOf v_beginOf v_finishOf v_isLow v_weightsOf v_weight v_cell v_size v_row v_keptSize v_keptBefore v_keptAfter v_placeA v_placeB v_turned v_turnedMany v_syndromes v_lightest res.2.1 res.2.2 v_freeSyndrome v_ways v_waysKept v_trace v_comesA v_comesB) (va_A (ww_M q cs v_told v_tell v_sums v_kindOf v_modOf v_bitsOf v_turnOf v_polyOf v_beginOf v_finishOf v_isLow v_weightsOf v_weight v_cell v_size v_row v_keptSize v_keptBefore v_keptAfter v_placeA v_placeB v_turned v_turnedMany v_syndromes v_lightest v_freeMany v_freePlace v_freeSyndrome v_ways v_waysKept v_trace v_comesA v_comesB) sz)) 0 0 (va_A (ww_M q cs v_told v_tell v_sums v_kindOf v_modOf v_bitsOf v_turnOf v_polyOf v_beginOf v_finishOf v_isLow v_weightsOf v_weight v_cell v_size v_row v_keptSize v_keptBefore v_keptAfter v_placeA v_placeB v_turned v_turnedMany v_syndromes v_lightest v_freeMany v_freePlace v_freeSyndrome v_ways v_waysKept v_trace v_comesA v_comesB) sz) := by
  refine k_enter (Qf := fun A => QI G res.1 True (ww_M q cs v_told v_tell v_sums v_kindOf v_modOf v_bitsOf v_turnOf v_polyOf v_beginOf v_finishOf v_isLow v_weightsOf v_weight v_cell v_size v_row v_keptSize v_keptBefore v_keptAfter v_placeA v_placeB v_turned v_turnedMany v_syndromes v_lightest res.2.1 res.2.2 v_freeSyndrome v_ways v_waysKept v_trace v_comesA v_comesB) A) (cc := cX12_free) (maxL := 4) (ret := (some .int)) (plainFor_of_name (by decide)) rfl (Nat.le_of_ble_eq_true rfl) ?_
  intro p e s m args below meth c A Q ls H locs hx hb hr hml hown hts hlocks hname hK hA hRo hP hD hS hQ hl
  have hl : lv_has ls 4 [(0, .ref (q 0)), (1, .int x1)] := hl
  have wd1 := hts (.fieldLink RX12 125 "SumSmithModel" "size" "I") (List.mem_of_getElem? (i := 1) rfl)
  have wd2 := hts (.fieldLink RX12 260 "SumSmithModel" "freeMany" "I") (List.mem_of_getElem? (i := 2) rfl)
  have wd3 := hts (.fieldLink RX12 72 "SumSmithModel" "freePlace" "[I") (List.mem_of_getElem? (i := 3) rfl)
  have hinX12 : ∀ w ∈ wsX120, w ∈ wsX12_free := fun w h => List.mem_cons_of_mem _ (List.mem_append_right _ h)
  have L19 : ∀ (x1 : Int32) (x2 : Int32) (x3 : Int32) (v_freeMany : Int32) (v_freePlace : (Nat → Int32)) (out : Int32), lp (fun x : (Int32 × Int32) => M_X12_free_b19 n x1 v_freeMany v_freePlace x.1 x.2) n (x2, x3) = some out → (∀ (o : Int32), out = o → ∀ (H : Heap) (locs : List Loc), va_P G vwCl (ww_M q cs v_told v_tell v_sums v_kindOf v_modOf v_bitsOf v_turnOf v_polyOf v_beginOf v_finishOf v_isLow v_weightsOf v_weight v_cell v_size v_row v_keptSize v_keptBefore v_keptAfter v_placeA v_placeB v_turned v_turnedMany v_syndromes v_lightest v_freeMany v_freePlace v_freeSyndrome v_ways v_waysKept v_trace v_comesA v_comesB) H → va_D A (ww_M q cs v_told v_tell v_sums v_kindOf v_modOf v_bitsOf v_turnOf v_polyOf v_beginOf v_finishOf v_isLow v_weightsOf v_weight v_cell v_size v_row v_keptSize v_keptBefore v_keptAfter v_placeA v_placeB v_turned v_turnedMany v_syndromes v_lightest v_freeMany v_freePlace v_freeSyndrome v_ways v_waysKept v_trace v_comesA v_comesB) → va_S A s.heap H locs → ∀ (ls : Array Slot), lv_has ls 4 [(0, .ref (q 0)), (1, .int x1), (2, .int o)] → W p l e rmX12_free s m args below meth c H locs 0 0 Q (F0 m 53 ls [])) → ∀ (H : Heap) (locs : List Loc), va_P G vwCl (ww_M q cs v_told v_tell v_sums v_kindOf v_modOf v_bitsOf v_turnOf v_polyOf v_beginOf v_finishOf v_isLow v_weightsOf v_weight v_cell v_size v_row v_keptSize v_keptBefore v_keptAfter v_placeA v_placeB v_turned v_turnedMany v_syndromes v_lightest v_freeMany v_freePlace v_freeSyndrome v_ways v_waysKept v_trace v_comesA v_comesB) H → va_D A (ww_M q cs v_told v_tell v_sums v_kindOf v_modOf v_bitsOf v_turnOf v_polyOf v_beginOf v_finishOf v_isLow v_weightsOf v_weight v_cell v_size v_row v_keptSize v_keptBefore v_keptAfter v_placeA v_placeB v_turned v_turnedMany v_syndromes v_lightest v_freeMany v_freePlace v_freeSyndrome v_ways v_waysKept v_trace v_comesA v_comesB) → va_S A s.heap H locs → ∀ (ls : Array Slot), lv_has ls 4 [(0, .ref (q 0)), (1, .int x1), (2, .int x2), (3, .int x3)] → W p l e rmX12_free s m args below meth c H locs 0 0 Q (F0 m 19 ls []) := by
    intro x1 x2 x3 v_freeMany v_freePlace out hlp hX
    refine lp_ind (fun x => ∀ (H : Heap) (locs : List Loc), va_P G vwCl (ww_M q cs v_told v_tell v_sums v_kindOf v_modOf v_bitsOf v_turnOf v_polyOf v_beginOf v_finishOf v_isLow v_weightsOf v_weight v_cell v_size v_row v_keptSize v_keptBefore v_keptAfter v_placeA v_placeB v_turned v_turnedMany v_syndromes v_lightest v_freeMany v_freePlace v_freeSyndrome v_ways v_waysKept v_trace v_comesA v_comesB) H → va_D A (ww_M q cs v_told v_tell v_sums v_kindOf v_modOf v_bitsOf v_turnOf v_polyOf v_beginOf v_finishOf v_isLow v_weightsOf v_weight v_cell v_size v_row v_keptSize v_keptBefore v_keptAfter v_placeA v_placeB v_turned v_turnedMany v_syndromes v_lightest v_freeMany v_freePlace v_freeSyndrome v_ways v_waysKept v_trace v_comesA v_comesB) → va_S A s.heap H locs → ∀ (ls : Array Slot), lv_has ls 4 [(0, .ref (q 0)), (1, .int x1), (2, .int x.1), (3, .int x.2)] → W p l e rmX12_free s m args below meth c H locs 0 0 Q (F0 m 19 ls [])) ?_ n (x2, x3) hlp
    clear hlp hP hD hS hl
    rintro ⟨x2, x3⟩ ob hm hst H locs hP hD hS ls hl
    have hm : M_X12_free_b19 n x1 v_freeMany v_freePlace x2 x3 = some ob := hm
    have hl : lv_has ls 4 [(0, .ref (q 0)), (1, .int x1), (2, .int x2), (3, .int x3)] := hl
    have hP : va_P G vwCl (ww_M q cs v_told v_tell v_sums v_kindOf v_modOf v_bitsOf v_turnOf v_polyOf v_beginOf v_finishOf v_isLow v_weightsOf v_weight v_cell v_size v_row v_keptSize v_keptBefore v_keptAfter v_placeA v_placeB v_turned v_turnedMany v_syndromes v_lightest v_freeMany v_freePlace v_freeSyndrome v_ways v_waysKept v_trace v_comesA v_comesB) H := hP
    have hD : va_D A (ww_M q cs v_told v_tell v_sums v_kindOf v_modOf v_bitsOf v_turnOf v_polyOf v_beginOf v_finishOf v_isLow v_weightsOf v_weight v_cell v_size v_row v_keptSize v_keptBefore v_keptAfter v_placeA v_placeB v_turned v_turnedMany v_syndromes v_lightest v_freeMany v_freePlace v_freeSyndrome v_ways v_waysKept v_trace v_comesA v_comesB) := hD
    unfold M_X12_free_b19 at hm
    refine lv_iload_n hx hb dX12_free_19 rfl (lv_at hl 3 rfl) ?_
    refine lv_aload_n hx hb dX12_free_20 rfl (lv_at hl 0 rfl) ?_
    refine va_get (D := G) (ci := 10) (v := .int v_freeMany) (C := RX12) (T := TX12) (N := 33) hx hb hts hinX12 hown hK.1 hP 0 rfl rfl 25 (by decide) wd2 (fun _ h9 => h9) rfl dX12_free_21 ?_
    refine lv_icmp_ge (tgt := 53) hx hb dX12_free_24 (by decide) (fun b2 => ?_) (fun b2 => ?_)
    · have hm := i_t b2 hm
      exact hX _ (st_exit hm hst) H locs hP hD hS ls (lv_sub hl [0, 1, 2] rfl)
    · have hm := i_f b2 hm
      refine lv_iload_n hx hb dX12_free_27 rfl (lv_at hl 2 rfl) ?_
      refine lv_if_eq (tgt := 45) hx hb dX12_free_28 (by decide) (fun b3 => ?_) (fun b3 => ?_)
      · have hm := i_t b3 hm
        refine lv_iconst (v := 0) hx hb dX12_free_45 (by decide) ?_
        refine lv_istore_n (lv' := [(2, .int 0), (0, .ref (q 0)), (1, .int x1), (3, .int x3)]) hx hb dX12_free_46 rfl hl (by decide) rfl (fun ls hl => ?_)
        refine lv_iinc (v := x3 + 1) (lv' := [(3, .int (x3 + 1)), (2, .int 0), (0, .ref (q 0)), (1, .int x1)]) hx hb dX12_free_47 hl (k := 3) rfl rfl (by decide) rfl (fun ls hl => ?_)
        refine lv_goto (tgt := 19) hx hb dX12_free_50 (by decide) ?_
        exact st_next hm hst H locs hP hD hS ls (lv_sub hl [2, 3, 1, 0] rfl)
      · have hm := i_f b3 hm
        refine lv_aload_n hx hb dX12_free_31 rfl (lv_at hl 0 rfl) ?_
        refine va_get (D := G) (ci := 10) (v := .ref (q 21)) (C := RX12) (T := TX12) (N := 33) hx hb hts hinX12 hown hK.1 hP 0 rfl rfl 26 (by decide) wd3 (fun _ h9 => h9) rfl dX12_free_32 ?_
        refine lv_iload_n hx hb dX12_free_35 rfl (lv_at hl 3 rfl) ?_
        obtain ⟨h4, hm⟩ := g_in hm
        refine va_iald hx hb hK.1 hP 21 0 rfl rfl h4 dX12_free_36 ?_
        refine lv_iload_n hx hb dX12_free_37 rfl (lv_at hl 1 rfl) ?_
        refine lv_icmp_eq (tgt := 45) hx hb dX12_free_38 (by decide) (fun b5 => ?_) (fun b5 => ?_)
        · have hm := i_t b5 hm
          refine lv_iconst (v := 0) hx hb dX12_free_45 (by decide) ?_
          refine lv_istore_n (lv' := [(2, .int 0), (0, .ref (q 0)), (1, .int x1), (3, .int x3)]) hx hb dX12_free_46 rfl hl (by decide) rfl (fun ls hl => ?_)
          refine lv_iinc (v := x3 + 1) (lv' := [(3, .int (x3 + 1)), (2, .int 0), (0, .ref (q 0)), (1, .int x1)]) hx hb dX12_free_47 hl (k := 3) rfl rfl (by decide) rfl (fun ls hl => ?_)
          refine lv_goto (tgt := 19) hx hb dX12_free_50 (by decide) ?_
          exact st_next hm hst H locs hP hD hS ls (lv_sub hl [2, 3, 1, 0] rfl)
        · have hm := i_f b5 hm
          refine lv_iconst (v := 1) hx hb dX12_free_41 (by decide) ?_
          refine lv_goto (tgt := 46) hx hb dX12_free_42 (by decide) ?_
          refine lv_istore_n (lv' := [(2, .int 1), (0, .ref (q 0)), (1, .int x1), (3, .int x3)]) hx hb dX12_free_46 rfl hl (by decide) rfl (fun ls hl => ?_)
          refine lv_iinc (v := x3 + 1) (lv' := [(3, .int (x3 + 1)), (2, .int 1), (0, .ref (q 0)), (1, .int x1)]) hx hb dX12_free_47 hl (k := 3) rfl rfl (by decide) rfl (fun ls hl => ?_)
          refine lv_goto (tgt := 19) hx hb dX12_free_50 (by decide) ?_
          exact st_next hm hst H locs hP hD hS ls (lv_sub hl [2, 3, 1, 0] rfl)
  unfold M_X12_free at hm
  refine lv_iload_n hx hb dX12_free_0 rfl (lv_at hl 1 rfl) ?_
  refine lv_i2l (v := x1.toInt64) hx hb dX12_free_1 rfl ?_
  refine lv_lconst (v := 0) hx hb dX12_free_2 (by decide) ?_
  refine lv_bipush (v := 8) hx hb dX12_free_3 (by decide) ?_
  refine lv_aload_n hx hb dX12_free_5 rfl (lv_at hl 0 rfl) ?_
  refine va_get (D := G) (ci := 10) (v := .int v_size) (C := RX12) (T := TX12) (N := 33) hx hb hts hinX12 hown hK.1 hP 0 rfl rfl 14 (by decide) wd1 (fun _ h9 => h9) rfl dX12_free_6 ?_
  refine lv_imul hx hb dX12_free_9 ?_
  refine lv_iconst (v := 1) hx hb dX12_free_10 (by decide) ?_
  refine lv_isub hx hb dX12_free_11 ?_
  refine lv_i2l (v := ((8 * v_size) - 1).toInt64) hx hb dX12_free_12 rfl ?_
  refine k_calli0 (va_runS (As := [.long x1.toInt64, .long 0, .long (((8 * v_size) - 1).toInt64)]) (rest := []) ⟨hx, hb, hml, hown, hts⟩ (c_X12_in l G cs H.size    x1.toInt64 (0 : Int64) (((8 * v_size) - 1).toInt64) _ rfl) (va_cwS 3 hts gX12_free_X12_in rfl rfl rfl hd_X12_in ⟨Nat.le_of_ble_eq_true rfl, Nat.le_of_ble_eq_true rfl⟩) ⟨pre_blind, pre_w hK RO.nil P0 D0 (va_new0 hS hA)⟩ rfl rfl hl.1 rfl (lv_room (Nat.le_of_ble_eq_true rfl)) dX12_free_13 ⟨Nat.zero_le _, Nat.zero_le _⟩) hP hS hA (fun hE1 H locs hP hS => ?_)
  refine lv_istore_n (lv' := [(2, .int (M_X12_in x1.toInt64 (0 : Int64) (((8 * v_size) - 1).toInt64))), (0, .ref (q 0)), (1, .int x1)]) hx hb dX12_free_16 rfl hl (by decide) rfl (fun ls hl => ?_)
  refine lv_iconst (v := 0) hx hb dX12_free_17 (by decide) ?_
  refine lv_istore_n (lv' := [(3, .int 0), (2, .int (M_X12_in x1.toInt64 (0 : Int64) (((8 * v_size) - 1).toInt64))), (0, .ref (q 0)), (1, .int x1)]) hx hb dX12_free_18 rfl hl (by decide) rfl (fun ls hl => ?_)
  obtain ⟨o6, hlp6, hm⟩ := bs hm
  refine L19 x1 (M_X12_in x1.toInt64 (0 : Int64) (((8 * v_size) - 1).toInt64)) (0 : Int32) v_freeMany v_freePlace o6 hlp6 (fun oo ho => ?_) H locs hP hD hS ls (lv_sub hl [2, 3, 1, 0] rfl)
  subst ho
  intro H locs hP hD hS ls hl
  have hl : lv_has ls 4 [(0, .ref (q 0)), (1, .int x1), (2, .int o6)] := hl
  have hP : va_P G vwCl (ww_M q cs v_told v_tell v_sums v_kindOf v_modOf v_bitsOf v_turnOf v_polyOf v_beginOf v_finishOf v_isLow v_weightsOf v_weight v_cell v_size v_row v_keptSize v_keptBefore v_keptAfter v_placeA v_placeB v_turned v_turnedMany v_syndromes v_lightest v_freeMany v_freePlace v_freeSyndrome v_ways v_waysKept v_trace v_comesA v_comesB) H := hP
  have hD : va_D A (ww_M q cs v_told v_tell v_sums v_kindOf v_modOf v_bitsOf v_turnOf v_polyOf v_beginOf v_finishOf v_isLow v_weightsOf v_weight v_cell v_size v_row v_keptSize v_keptBefore v_keptAfter v_placeA v_placeB v_turned v_turnedMany v_syndromes v_lightest v_freeMany v_freePlace v_freeSyndrome v_ways v_waysKept v_trace v_comesA v_comesB) := hD
  refine lv_iload_n hx hb dX12_free_53 rfl (lv_at hl 2 rfl) ?_
  refine lv_if_ne (tgt := 60) hx hb dX12_free_54 (by decide) (fun b7 => ?_) (fun b7 => ?_)
  · have hm := i_f b7 hm
    refine lv_aload_n hx hb dX12_free_60 rfl (lv_at hl 0 rfl) ?_
    refine va_get (D := G) (ci := 10) (v := .int v_freeMany) (C := RX12) (T := TX12) (N := 33) hx hb hts hinX12 hown hK.1 hP 0 rfl rfl 25 (by decide) wd2 (fun _ h9 => h9) rfl dX12_free_61 ?_
    refine lv_bipush (v := 16) hx hb dX12_free_64 (by decide) ?_
    refine lv_icmp_ne (tgt := 72) hx hb dX12_free_66 (by decide) (fun b8 => ?_) (fun b8 => ?_)
    · have hm := i_f b8 hm
      refine lv_aload_n hx hb dX12_free_72 rfl (lv_at hl 0 rfl) ?_
      refine va_get (D := G) (ci := 10) (v := .ref (q 21)) (C := RX12) (T := TX12) (N := 33) hx hb hts hinX12 hown hK.1 hP 0 rfl rfl 26 (by decide) wd3 (fun _ h9 => h9) rfl dX12_free_73 ?_
      refine lv_aload_n hx hb dX12_free_76 rfl (lv_at hl 0 rfl) ?_
      refine va_get (D := G) (ci := 10) (v := .int v_freeMany) (C := RX12) (T := TX12) (N := 33) hx hb hts hinX12 hown hK.1 hP 0 rfl rfl 25 (by decide) wd2 (fun _ h9 => h9) rfl dX12_free_77 ?_
      refine lv_iload_n hx hb dX12_free_80 rfl (lv_at hl 1 rfl) ?_
      obtain ⟨h9, hm⟩ := g_in hm
      refine va_iast hx hb hK.1 hP hD hS 21 0 rfl rfl h9 dX12_free_81 (fun H locs hP hD hS => ?_)
      have hP : va_P G vwCl (ww_M q cs v_told v_tell v_sums v_kindOf v_modOf v_bitsOf v_turnOf v_polyOf v_beginOf v_finishOf v_isLow v_weightsOf v_weight v_cell v_size v_row v_keptSize v_keptBefore v_keptAfter v_placeA v_placeB v_turned v_turnedMany v_syndromes v_lightest v_freeMany (upd v_freePlace v_freeMany.toNatClampNeg x1) v_freeSyndrome v_ways v_waysKept v_trace v_comesA v_comesB) H := hP
      have hD : va_D A (ww_M q cs v_told v_tell v_sums v_kindOf v_modOf v_bitsOf v_turnOf v_polyOf v_beginOf v_finishOf v_isLow v_weightsOf v_weight v_cell v_size v_row v_keptSize v_keptBefore v_keptAfter v_placeA v_placeB v_turned v_turnedMany v_syndromes v_lightest v_freeMany (upd v_freePlace v_freeMany.toNatClampNeg x1) v_freeSyndrome v_ways v_waysKept v_trace v_comesA v_comesB) := hD
      refine lv_aload_n hx hb dX12_free_82 rfl (lv_at hl 0 rfl) ?_
      refine lv_dup hx hb dX12_free_83 rfl ?_
      refine va_get (D := G) (ci := 10) (v := .int v_freeMany) (C := RX12) (T := TX12) (N := 33) hx hb hts hinX12 hown hK.1 hP 0 rfl rfl 25 (by decide) wd2 (fun _ h9 => h9) rfl dX12_free_84 ?_
      refine lv_iconst (v := 1) hx hb dX12_free_87 (by decide) ?_
      refine lv_iadd hx hb dX12_free_88 ?_
      refine va_put (D := G) (ci := 10) (v := .int (v_freeMany + 1)) (ty := .int) (C := RX12) (T := TX12) (N := 33) hx hb hts hinX12 tyX12 tyX12_ok nmX12 hown hK.1 hP hD hS 0 rfl rfl 25 (by decide) wd2 (fun _ h9 => h9) rfl (by decide +kernel) rfl rfl (Nat.le_of_ble_eq_true rfl) dX12_free_89 (fun H locs hP hD hS => ?_)
      have hP : va_P G vwCl (ww_M q cs v_told v_tell v_sums v_kindOf v_modOf v_bitsOf v_turnOf v_polyOf v_beginOf v_finishOf v_isLow v_weightsOf v_weight v_cell v_size v_row v_keptSize v_keptBefore v_keptAfter v_placeA v_placeB v_turned v_turnedMany v_syndromes v_lightest (v_freeMany + 1) (upd v_freePlace v_freeMany.toNatClampNeg x1) v_freeSyndrome v_ways v_waysKept v_trace v_comesA v_comesB) H := hP
      have hD : va_D A (ww_M q cs v_told v_tell v_sums v_kindOf v_modOf v_bitsOf v_turnOf v_polyOf v_beginOf v_finishOf v_isLow v_weightsOf v_weight v_cell v_size v_row v_keptSize v_keptBefore v_keptAfter v_placeA v_placeB v_turned v_turnedMany v_syndromes v_lightest (v_freeMany + 1) (upd v_freePlace v_freeMany.toNatClampNeg x1) v_freeSyndrome v_ways v_waysKept v_trace v_comesA v_comesB) := hD
      refine lv_aload_n hx hb dX12_free_92 rfl (lv_at hl 0 rfl) ?_
      refine va_get (D := G) (ci := 10) (v := .int (v_freeMany + 1)) (C := RX12) (T := TX12) (N := 33) hx hb hts hinX12 hown hK.1 hP 0 rfl rfl 25 (by decide) wd2 (fun _ h9 => h9) rfl dX12_free_93 ?_
      have hq := Option.some.inj hm
      subst hq; subst hQ
      exact k_iret hx hb hr hlocks hP hD hS rfl trivial dX12_free_96
    · have hm := i_t b8 hm
      refine lv_bipush (v := (-6)) hx hb dX12_free_69 (by decide) ?_
      have hq := Option.some.inj hm
      subst hq; subst hQ
      exact k_iret hx hb hr hlocks hP hD hS rfl trivial dX12_free_71
  · have hm := i_t b7 hm
    refine lv_bipush (v := (-3)) hx hb dX12_free_57 (by decide) ?_
    have hq := Option.some.inj hm
    subst hq; subst hQ
    exact k_iret hx hb hr hlocks hP hD hS rfl trivial dX12_free_59

theorem hd_X12_bind : yX12_bind.cls ≠ "java/lang/invoke/MethodHandle" ∧ yX12_bind.cls ≠ "java/lang/invoke/VarHandle" ∧ (parseMethodDescriptor yX12_bind.desc).map (fun d => d.parameters.length) = some 0 := by decide +kernel

def M_X12_bind  (v_freeMany : Int32) : (Int32 × Int32) :=
  (v_freeMany, 0)

abbrev rmX12_bind : Room := { frames := 0, cells := 0, slots := 0, locals := 0 }
set_option maxHeartbeats 4000000 in
set_option maxRecDepth 100000 in
theorem c_X12_bind (l : Launch) (G : va_G) (cs : CS) (q : Nat → Nat) (sz : Nat) (v_told : Int32) (v_tell : (Nat → Int32)) (v_sums : Int32) (v_kindOf : (Nat → Int32)) (v_modOf : (Nat → Int32)) (v_bitsOf : (Nat → Int32)) (v_turnOf : (Nat → Int32)) (v_polyOf : (Nat → Int64)) (v_beginOf : (Nat → Int64)) (v_finishOf : (Nat → Int64)) (v_isLow : (Nat → Int32)) (v_weightsOf : (Nat → Int32)) (v_weight : (Nat → Int32)) (v_cell : (Nat → Int32)) (v_size : Int32) (v_row : (Nat → Int32)) (v_keptSize : Int32) (v_keptBefore : (Nat → Int32)) (v_keptAfter : (Nat → Int32)) (v_placeA : (Nat → Int64)) (v_placeB : (Nat → Int64)) (v_turned : (Nat → Int32)) (v_turnedMany : Int32) (v_syndromes : (Nat → Int64)) (v_lightest : (Nat → Int32)) (v_freeMany : Int32) (v_freePlace : (Nat → Int32)) (v_freeSyndrome : (Nat → Int64)) (v_ways : (Nat → Int32)) (v_waysKept : Int32) (v_trace : (Nat → Int32)) (v_comesA : Int64) (v_comesB : Int64)    (res : (Int32 × Int32)) (hm : M_X12_bind v_freeMany = res) : Met l yX12_bind wsX12_bind rmX12_bind (va_Pc [.ref (q 0)] (PreW G cs sz (ww_M q cs v_told v_tell v_sums v_kindOf v_modOf v_bitsOf v_turnOf v_polyOf v_beginOf v_finishOf v_isLow v_weightsOf v_weight v_cell v_size v_row v_keptSize v_keptBefore v_keptAfter v_placeA v_placeB v_turned v_turnedMany v_syndromes v_lightest v_freeMany v_freePlace v_freeSyndrome v_ways v_waysKept v_trace v_comesA v_comesB) RN)) (QI G res.1 True (ww_M q cs v_told v_tell v_sums v_kindOf v_modOf v_bitsOf v_turnOf v_polyOf v_beginOf v_finishOf v_isLow v_weightsOf v_weight v_cell v_size v_row v_keptSize v_keptBefore v_keptAfter v_placeA v_placeB v_turned v_turnedMany v_syndromes v_lightest res.2 v_freePlace v_freeSyndrome v_ways v_waysKept v_trace v_comesA v_comesB) (va_A (ww_M q cs v_told v_tell v_sums v_kindOf v_modOf v_bitsOf v_turnOf v_polyOf v_beginOf v_finishOf v_isLow v_weightsOf v_weight v_cell v_size v_row v_keptSize v_keptBefore v_keptAfter v_placeA v_placeB v_turned v_turnedMany v_syndromes v_lightest v_freeMany v_freePlace v_freeSyndrome v_ways v_waysKept v_trace v_comesA v_comesB) sz)) 0 0 (va_A (ww_M q cs v_told v_tell v_sums v_kindOf v_modOf v_bitsOf v_turnOf v_polyOf v_beginOf v_finishOf v_isLow v_weightsOf v_weight v_cell v_size v_row v_keptSize v_keptBefore v_keptAfter v_placeA v_placeB v_turned v_turnedMany v_syndromes v_lightest v_freeMany v_freePlace v_freeSyndrome v_ways v_waysKept v_trace v_comesA v_comesB) sz) := by
  refine k_enter (Qf := fun A => QI G res.1 True (ww_M q cs v_told v_tell v_sums v_kindOf v_modOf v_bitsOf v_turnOf v_polyOf v_beginOf v_finishOf v_isLow v_weightsOf v_weight v_cell v_size v_row v_keptSize v_keptBefore v_keptAfter v_placeA v_placeB v_turned v_turnedMany v_syndromes v_lightest res.2 v_freePlace v_freeSyndrome v_ways v_waysKept v_trace v_comesA v_comesB) A) (cc := cX12_bind) (maxL := 2) (ret := (some .int)) (plainFor_of_name (by decide)) rfl (Nat.le_of_ble_eq_true rfl) ?_
  intro p e s m args below meth c A Q ls H locs hx hb hr hml hown hts hlocks hname hK hA hRo hP hD hS hQ hl
  have hl : lv_has ls 2 [(0, .ref (q 0))] := hl
  have wd1 := hts (.fieldLink RX12 260 "SumSmithModel" "freeMany" "I") (List.mem_of_getElem? (i := 1) rfl)
  have hinX12 : ∀ w ∈ wsX120, w ∈ wsX12_bind := fun w h => List.mem_cons_of_mem _ (List.mem_append_right _ h)
  unfold M_X12_bind at hm
  refine lv_aload_n hx hb dX12_bind_0 rfl (lv_at hl 0 rfl) ?_
  refine va_get (D := G) (ci := 10) (v := .int v_freeMany) (C := RX12) (T := TX12) (N := 33) hx hb hts hinX12 hown hK.1 hP 0 rfl rfl 25 (by decide) wd1 (fun _ h9 => h9) rfl dX12_bind_1 ?_
  refine lv_istore_n (lv' := [(1, .int v_freeMany), (0, .ref (q 0))]) hx hb dX12_bind_4 rfl hl (by decide) rfl (fun ls hl => ?_)
  refine lv_aload_n hx hb dX12_bind_5 rfl (lv_at hl 1 rfl) ?_
  refine lv_iconst (v := 0) hx hb dX12_bind_6 (by decide) ?_
  refine va_put (D := G) (ci := 10) (v := .int 0) (ty := .int) (C := RX12) (T := TX12) (N := 33) hx hb hts hinX12 tyX12 tyX12_ok nmX12 hown hK.1 hP hD hS 0 rfl rfl 25 (by decide) wd1 (fun _ h9 => h9) rfl (by decide +kernel) rfl rfl (Nat.le_of_ble_eq_true rfl) dX12_bind_7 (fun H locs hP hD hS => ?_)
  have hP : va_P G vwCl (ww_M q cs v_told v_tell v_sums v_kindOf v_modOf v_bitsOf v_turnOf v_polyOf v_beginOf v_finishOf v_isLow v_weightsOf v_weight v_cell v_size v_row v_keptSize v_keptBefore v_keptAfter v_placeA v_placeB v_turned v_turnedMany v_syndromes v_lightest 0 v_freePlace v_freeSyndrome v_ways v_waysKept v_trace v_comesA v_comesB) H := hP
  have hD : va_D A (ww_M q cs v_told v_tell v_sums v_kindOf v_modOf v_bitsOf v_turnOf v_polyOf v_beginOf v_finishOf v_isLow v_weightsOf v_weight v_cell v_size v_row v_keptSize v_keptBefore v_keptAfter v_placeA v_placeB v_turned v_turnedMany v_syndromes v_lightest 0 v_freePlace v_freeSyndrome v_ways v_waysKept v_trace v_comesA v_comesB) := hD
  refine lv_iload_n hx hb dX12_bind_10 rfl (lv_at hl 0 rfl) ?_
  have hq := hm
  subst hq; subst hQ
  exact k_iret hx hb hr hlocks hP hD hS rfl trivial dX12_bind_11

theorem hd_X12_aim : yX12_aim.cls ≠ "java/lang/invoke/MethodHandle" ∧ yX12_aim.cls ≠ "java/lang/invoke/VarHandle" ∧ (parseMethodDescriptor yX12_aim.desc).map (fun d => d.parameters.length) = some 2 := by decide +kernel

def M_X12_aim_b54 (n : Nat) (x1 : Int32) (v_bitsOf : (Nat → Int32)) (v_polyOf : (Nat → Int64)) (v_isLow : (Nat → Int32)) (v_size : Int32) (v_freeMany : Int32) (v_freePlace : (Nat → Int32)) (x7 : Int32) (x8 : Int32) (v_freeSyndrome : (Nat → Int64)) : Option ((Int32 × Int32 × (Nat → Int64)) ⊕ (Int32 × (Nat → Int64))) :=
  if v_freeMany ≤ x8 then (some (.inr (x7, v_freeSyndrome))) else (if x8 < 0 ∨ 16 ≤ x8.toNatClampNeg then none else if (8 * v_size) ≤ (v_freePlace x8.toNatClampNeg) then (if x8 < 0 ∨ 16 ≤ x8.toNatClampNeg then none else some (.inl (x7 ||| ((1 : Int32) <<< (x8 &&& 31)), x8 + 1, (vp_updL v_freeSyndrome x8.toNatClampNeg 0)))) else (if x8 < 0 ∨ 16 ≤ x8.toNatClampNeg then none else (M_X12_syndromeOf n x1 (v_freePlace x8.toNatClampNeg) v_size v_bitsOf v_polyOf v_isLow).bind fun r13 => if x8 < 0 ∨ 16 ≤ x8.toNatClampNeg then none else some (.inl (x7 ||| 0, x8 + 1, (vp_updL v_freeSyndrome x8.toNatClampNeg r13)))))

def M_X12_aim_b171 (n : Nat) (x9 : Int32) (v_freeMany : Int32) (v_freeSyndrome : (Nat → Int64)) (x10 : Int64) (x12 : Int32) : Option ((Int64 × Int32) ⊕ Int64) :=
  if v_freeMany ≤ x12 then (some (.inr x10)) else (if ((x9 >>> (x12 &&& 31)) &&& 1) = 1 then (if x12 < 0 ∨ 16 ≤ x12.toNatClampNeg then none else some (.inl (x10 ^^^ (v_freeSyndrome x12.toNatClampNeg), x12 + 1))) else (some (.inl (x10, x12 + 1))))

def M_X12_aim_b154 (n : Nat) (x5 : Int64) (x7 : Int32) (v_freeMany : Int32) (v_freeSyndrome : (Nat → Int64)) (x8 : Int32) (x9 : Int32) (v_ways : (Nat → Int32)) (v_waysKept : Int32) : Option ((Int32 × Int32 × (Nat → Int32) × Int32) ⊕ (Int32 × (Nat → Int32) × Int32)) :=
  if ((1 : Int32) <<< (v_freeMany &&& 31)) ≤ x9 then (some (.inr (x8, v_ways, v_waysKept))) else ((lp (fun x : (Int64 × Int32) => M_X12_aim_b171 n x9 v_freeMany v_freeSyndrome x.1 x.2) n ((0 : Int64), (0 : Int32))).bind fun o20 => if (x9 &&& x7) = 0 then (if o20 = x5 then (if 64 ≤ x8 then (some (.inl (x8 + 1, x9 + 1, v_ways, v_waysKept))) else (if x8 < 0 ∨ 64 ≤ x8.toNatClampNeg then none else some (.inl (x8 + 1, x9 + 1, (upd v_ways x8.toNatClampNeg x9), (v_waysKept + 1))))) else (some (.inl (x8, x9 + 1, v_ways, v_waysKept)))) else (some (.inl (x8, x9 + 1, v_ways, v_waysKept))))

def M_X12_aim (n : Nat) (x1 : Int32) (x2 : Int64) (v_sums : Int32) (v_kindOf : (Nat → Int32)) (v_modOf : (Nat → Int32)) (v_bitsOf : (Nat → Int32)) (v_turnOf : (Nat → Int32)) (v_polyOf : (Nat → Int64)) (v_beginOf : (Nat → Int64)) (v_finishOf : (Nat → Int64)) (v_isLow : (Nat → Int32)) (v_weightsOf : (Nat → Int32)) (v_weight : (Nat → Int32)) (v_cell : (Nat → Int32)) (v_size : Int32) (v_row : (Nat → Int32)) (v_freeMany : Int32) (v_freePlace : (Nat → Int32)) (v_freeSyndrome : (Nat → Int64)) (v_ways : (Nat → Int32)) (v_waysKept : Int32) : Option (Int32 × (Nat → Int64) × (Nat → Int32) × Int32) :=
  (M_X12_against x1 v_sums v_kindOf).bind fun r1 => if r1 = 0 then ((M_X12_mask x1 v_bitsOf).bind fun r4 => if (M_X12_in x2 (0 : Int64) r4) = 0 then (some ((-3), v_freeSyndrome, v_ways, v_waysKept)) else ((M_X12_sumOf n x1 v_size v_kindOf v_modOf v_bitsOf v_turnOf v_polyOf v_beginOf v_finishOf v_isLow v_weightsOf v_weight v_cell v_row).bind fun r7 => (lp (fun x : (Int32 × Int32 × (Nat → Int64)) => M_X12_aim_b54 n x1 v_bitsOf v_polyOf v_isLow v_size v_freeMany v_freePlace x.1 x.2.1 x.2.2) n ((0 : Int32), (0 : Int32), v_freeSyndrome)).bind fun o15 => (lp (fun x : (Int32 × Int32 × (Nat → Int32) × Int32) => M_X12_aim_b154 n (r7 ^^^ x2) o15.1 v_freeMany o15.2 x.1 x.2.1 x.2.2.1 x.2.2.2) n ((0 : Int32), (0 : Int32), v_ways, (0 : Int32))).bind fun o25 => some (o25.1, o15.2, o25.2.1, o25.2.2))) else (some (r1, v_freeSyndrome, v_ways, v_waysKept))

abbrev rmX12_aim : Room := { frames := 3, cells := 0, slots := 0, locals := 89 }
set_option maxHeartbeats 4000000 in
set_option maxRecDepth 100000 in
theorem c_X12_aim (l : Launch) (G : va_G) (cs : CS) (q : Nat → Nat) (sz : Nat) (v_told : Int32) (v_tell : (Nat → Int32)) (v_sums : Int32) (v_kindOf : (Nat → Int32)) (v_modOf : (Nat → Int32)) (v_bitsOf : (Nat → Int32)) (v_turnOf : (Nat → Int32)) (v_polyOf : (Nat → Int64)) (v_beginOf : (Nat → Int64)) (v_finishOf : (Nat → Int64)) (v_isLow : (Nat → Int32)) (v_weightsOf : (Nat → Int32)) (v_weight : (Nat → Int32)) (v_cell : (Nat → Int32)) (v_size : Int32) (v_row : (Nat → Int32)) (v_keptSize : Int32) (v_keptBefore : (Nat → Int32)) (v_keptAfter : (Nat → Int32)) (v_placeA : (Nat → Int64)) (v_placeB : (Nat → Int64)) (v_turned : (Nat → Int32)) (v_turnedMany : Int32) (v_syndromes : (Nat → Int64)) (v_lightest : (Nat → Int32)) (v_freeMany : Int32) (v_freePlace : (Nat → Int32)) (v_freeSyndrome : (Nat → Int64)) (v_ways : (Nat → Int32)) (v_waysKept : Int32) (v_trace : (Nat → Int32)) (v_comesA : Int64) (v_comesB : Int64)   (x1 : Int32) (x2 : Int64) (n : Nat) (res : (Int32 × (Nat → Int64) × (Nat → Int32) × Int32)) (hm : M_X12_aim n x1 x2 v_sums v_kindOf v_modOf v_bitsOf v_turnOf v_polyOf v_beginOf v_finishOf v_isLow v_weightsOf v_weight v_cell v_size v_row v_freeMany v_freePlace v_freeSyndrome v_ways v_waysKept = some res) : Met l yX12_aim wsX12_aim rmX12_aim (va_Pc [.ref (q 0), .int x1, .long x2] (PreW G cs sz (ww_M q cs v_told v_tell v_sums v_kindOf v_modOf v_bitsOf v_turnOf v_polyOf v_beginOf v_finishOf v_isLow v_weightsOf v_weight v_cell v_size v_row v_keptSize v_keptBefore v_keptAfter v_placeA v_placeB v_turned v_turnedMany v_syndromes v_lightest v_freeMany v_freePlace v_freeSyndrome v_ways v_waysKept v_trace v_comesA v_comesB) RN)) (QI G res.1 True (ww_M q cs v_told v_tell v_sums v_kindOf v_modOf v_bitsOf v_turnOf v_polyOf v_beginOf v_finishOf v_isLow v_weightsOf v_weight v_cell v_size v_row v_keptSize v_keptBefore v_keptAfter v_placeA v_placeB v_turned v_turnedMany v_syndromes v_lightest v_freeMany v_freePlace res.2.1 res.2.2.1 res.2.2.2 v_trace v_comesA v_comesB) (va_A (ww_M q cs v_told v_tell v_sums v_kindOf v_modOf v_bitsOf v_turnOf v_polyOf v_beginOf v_finishOf v_isLow v_weightsOf v_weight v_cell v_size v_row v_keptSize v_keptBefore v_keptAfter v_placeA v_placeB v_turned v_turnedMany v_syndromes v_lightest v_freeMany v_freePlace v_freeSyndrome v_ways v_waysKept v_trace v_comesA v_comesB) sz)) 0 0 (va_A (ww_M q cs v_told v_tell v_sums v_kindOf v_modOf v_bitsOf v_turnOf v_polyOf v_beginOf v_finishOf v_isLow v_weightsOf v_weight v_cell v_size v_row v_keptSize v_keptBefore v_keptAfter v_placeA v_placeB v_turned v_turnedMany v_syndromes v_lightest v_freeMany v_freePlace v_freeSyndrome v_ways v_waysKept v_trace v_comesA v_comesB) sz) := by
  refine k_enter (Qf := fun A => QI G res.1 True (ww_M q cs v_told v_tell v_sums v_kindOf v_modOf v_bitsOf v_turnOf v_polyOf v_beginOf v_finishOf v_isLow v_weightsOf v_weight v_cell v_size v_row v_keptSize v_keptBefore v_keptAfter v_placeA v_placeB v_turned v_turnedMany v_syndromes v_lightest v_freeMany v_freePlace res.2.1 res.2.2.1 res.2.2.2 v_trace v_comesA v_comesB) A) (cc := cX12_aim) (maxL := 13) (ret := (some .int)) (plainFor_of_name (by decide)) rfl (Nat.le_of_ble_eq_true rfl) ?_
  intro p e s m args below meth c A Q ls H locs hx hb hr hml hown hts hlocks hname hK hA hRo hP hD hS hQ hl
  have hl : lv_has ls 13 [(0, .ref (q 0)), (1, .int x1), (2, .long x2)] := hl
  have wd1 := hts (.fieldLink RX12 48 "SumSmithModel" "row" "[I") (List.mem_of_getElem? (i := 1) rfl)
  have wd2 := hts (.fieldLink RX12 125 "SumSmithModel" "size" "I") (List.mem_of_getElem? (i := 2) rfl)
  have wd3 := hts (.fieldLink RX12 260 "SumSmithModel" "freeMany" "I") (List.mem_of_getElem? (i := 3) rfl)
  have wd4 := hts (.fieldLink RX12 72 "SumSmithModel" "freePlace" "[I") (List.mem_of_getElem? (i := 4) rfl)
  have wd5 := hts (.fieldLink RX12 75 "SumSmithModel" "freeSyndrome" "[J") (List.mem_of_getElem? (i := 5) rfl)
  have wd6 := hts (.fieldLink RX12 263 "SumSmithModel" "waysKept" "I") (List.mem_of_getElem? (i := 6) rfl)
  have wd7 := hts (.fieldLink RX12 78 "SumSmithModel" "ways" "[I") (List.mem_of_getElem? (i := 7) rfl)
  have hinX12 : ∀ w ∈ wsX120, w ∈ wsX12_aim := fun w h => List.mem_cons_of_mem _ (List.mem_append_right _ h)
  have L54 : ∀ (x1 : Int32) (x5 : Int64) (x7 : Int32) (x8 : Int32) (v_freeSyndrome : (Nat → Int64)) (v_ways : (Nat → Int32)) (v_waysKept : Int32) (out : (Int32 × (Nat → Int64))), lp (fun x : (Int32 × Int32 × (Nat → Int64)) => M_X12_aim_b54 n x1 v_bitsOf v_polyOf v_isLow v_size v_freeMany v_freePlace x.1 x.2.1 x.2.2) n (x7, x8, v_freeSyndrome) = some out → (∀ (o : (Int32 × (Nat → Int64))), out = o → ∀ (H : Heap) (locs : List Loc), va_P G vwCl (ww_M q cs v_told v_tell v_sums v_kindOf v_modOf v_bitsOf v_turnOf v_polyOf v_beginOf v_finishOf v_isLow v_weightsOf v_weight v_cell v_size v_row v_keptSize v_keptBefore v_keptAfter v_placeA v_placeB v_turned v_turnedMany v_syndromes v_lightest v_freeMany v_freePlace o.2 v_ways v_waysKept v_trace v_comesA v_comesB) H → va_D A (ww_M q cs v_told v_tell v_sums v_kindOf v_modOf v_bitsOf v_turnOf v_polyOf v_beginOf v_finishOf v_isLow v_weightsOf v_weight v_cell v_size v_row v_keptSize v_keptBefore v_keptAfter v_placeA v_placeB v_turned v_turnedMany v_syndromes v_lightest v_freeMany v_freePlace o.2 v_ways v_waysKept v_trace v_comesA v_comesB) → va_S A s.heap H locs → ∀ (ls : Array Slot), lv_has ls 13 [(0, .ref (q 0)), (5, .long x5), (7, .int o.1)] → W p l e rmX12_aim s m args below meth c H locs 0 0 Q (F0 m 143 ls [])) → ∀ (H : Heap) (locs : List Loc), va_P G vwCl (ww_M q cs v_told v_tell v_sums v_kindOf v_modOf v_bitsOf v_turnOf v_polyOf v_beginOf v_finishOf v_isLow v_weightsOf v_weight v_cell v_size v_row v_keptSize v_keptBefore v_keptAfter v_placeA v_placeB v_turned v_turnedMany v_syndromes v_lightest v_freeMany v_freePlace v_freeSyndrome v_ways v_waysKept v_trace v_comesA v_comesB) H → va_D A (ww_M q cs v_told v_tell v_sums v_kindOf v_modOf v_bitsOf v_turnOf v_polyOf v_beginOf v_finishOf v_isLow v_weightsOf v_weight v_cell v_size v_row v_keptSize v_keptBefore v_keptAfter v_placeA v_placeB v_turned v_turnedMany v_syndromes v_lightest v_freeMany v_freePlace v_freeSyndrome v_ways v_waysKept v_trace v_comesA v_comesB) → va_S A s.heap H locs → ∀ (ls : Array Slot), lv_has ls 13 [(0, .ref (q 0)), (1, .int x1), (5, .long x5), (7, .int x7), (8, .int x8)] → W p l e rmX12_aim s m args below meth c H locs 0 0 Q (F0 m 54 ls []) := by
    intro x1 x5 x7 x8 v_freeSyndrome v_ways v_waysKept out hlp hX
    refine lp_ind (fun x => ∀ (H : Heap) (locs : List Loc), va_P G vwCl (ww_M q cs v_told v_tell v_sums v_kindOf v_modOf v_bitsOf v_turnOf v_polyOf v_beginOf v_finishOf v_isLow v_weightsOf v_weight v_cell v_size v_row v_keptSize v_keptBefore v_keptAfter v_placeA v_placeB v_turned v_turnedMany v_syndromes v_lightest v_freeMany v_freePlace x.2.2 v_ways v_waysKept v_trace v_comesA v_comesB) H → va_D A (ww_M q cs v_told v_tell v_sums v_kindOf v_modOf v_bitsOf v_turnOf v_polyOf v_beginOf v_finishOf v_isLow v_weightsOf v_weight v_cell v_size v_row v_keptSize v_keptBefore v_keptAfter v_placeA v_placeB v_turned v_turnedMany v_syndromes v_lightest v_freeMany v_freePlace x.2.2 v_ways v_waysKept v_trace v_comesA v_comesB) → va_S A s.heap H locs → ∀ (ls : Array Slot), lv_has ls 13 [(0, .ref (q 0)), (1, .int x1), (5, .long x5), (7, .int x.1), (8, .int x.2.1)] → W p l e rmX12_aim s m args below meth c H locs 0 0 Q (F0 m 54 ls [])) ?_ n (x7, x8, v_freeSyndrome) hlp
    clear hlp hP hD hS hl
    rintro ⟨x7, x8, v_freeSyndrome⟩ ob hm hst H locs hP hD hS ls hl
    have hm : M_X12_aim_b54 n x1 v_bitsOf v_polyOf v_isLow v_size v_freeMany v_freePlace x7 x8 v_freeSyndrome = some ob := hm
    have hl : lv_has ls 13 [(0, .ref (q 0)), (1, .int x1), (5, .long x5), (7, .int x7), (8, .int x8)] := hl
    have hP : va_P G vwCl (ww_M q cs v_told v_tell v_sums v_kindOf v_modOf v_bitsOf v_turnOf v_polyOf v_beginOf v_finishOf v_isLow v_weightsOf v_weight v_cell v_size v_row v_keptSize v_keptBefore v_keptAfter v_placeA v_placeB v_turned v_turnedMany v_syndromes v_lightest v_freeMany v_freePlace v_freeSyndrome v_ways v_waysKept v_trace v_comesA v_comesB) H := hP
    have hD : va_D A (ww_M q cs v_told v_tell v_sums v_kindOf v_modOf v_bitsOf v_turnOf v_polyOf v_beginOf v_finishOf v_isLow v_weightsOf v_weight v_cell v_size v_row v_keptSize v_keptBefore v_keptAfter v_placeA v_placeB v_turned v_turnedMany v_syndromes v_lightest v_freeMany v_freePlace v_freeSyndrome v_ways v_waysKept v_trace v_comesA v_comesB) := hD
    unfold M_X12_aim_b54 at hm
    refine lv_iload hx hb dX12_aim_54 (lv_at hl 4 rfl) ?_
    refine lv_aload_n hx hb dX12_aim_56 rfl (lv_at hl 0 rfl) ?_
    refine va_get (D := G) (ci := 10) (v := .int v_freeMany) (C := RX12) (T := TX12) (N := 33) hx hb hts hinX12 hown hK.1 hP 0 rfl rfl 25 (by decide) wd3 (fun _ h9 => h9) rfl dX12_aim_57 ?_
    refine lv_icmp_ge (tgt := 143) hx hb dX12_aim_60 (by decide) (fun b8 => ?_) (fun b8 => ?_)
    · have hm := i_t b8 hm
      exact hX _ (st_exit hm hst) H locs hP hD hS ls (lv_sub hl [0, 2, 3] rfl)
    · have hm := i_f b8 hm
      refine lv_aload_n hx hb dX12_aim_63 rfl (lv_at hl 0 rfl) ?_
      refine va_get (D := G) (ci := 10) (v := .ref (q 21)) (C := RX12) (T := TX12) (N := 33) hx hb hts hinX12 hown hK.1 hP 0 rfl rfl 26 (by decide) wd4 (fun _ h9 => h9) rfl dX12_aim_64 ?_
      refine lv_iload hx hb dX12_aim_67 (lv_at hl 4 rfl) ?_
      obtain ⟨h9, hm⟩ := g_in hm
      refine va_iald hx hb hK.1 hP 21 0 rfl rfl h9 dX12_aim_69 ?_
      refine lv_bipush (v := 8) hx hb dX12_aim_70 (by decide) ?_
      refine lv_aload_n hx hb dX12_aim_72 rfl (lv_at hl 0 rfl) ?_
      refine va_get (D := G) (ci := 10) (v := .int v_size) (C := RX12) (T := TX12) (N := 33) hx hb hts hinX12 hown hK.1 hP 0 rfl rfl 14 (by decide) wd2 (fun _ h9 => h9) rfl dX12_aim_73 ?_
      refine lv_imul hx hb dX12_aim_76 ?_
      refine lv_icmp_ge (tgt := 84) hx hb dX12_aim_77 (by decide) (fun b10 => ?_) (fun b10 => ?_)
      · have hm := i_t b10 hm
        refine lv_iconst (v := 0) hx hb dX12_aim_84 (by decide) ?_
        refine lv_istore (lv' := [(9, .int 0), (0, .ref (q 0)), (1, .int x1), (5, .long x5), (7, .int x7), (8, .int x8)]) hx hb dX12_aim_85 hl (by decide) rfl (fun ls hl => ?_)
        refine lv_aload_n hx hb dX12_aim_87 rfl (lv_at hl 1 rfl) ?_
        refine va_get (D := G) (ci := 10) (v := .ref (q 22)) (C := RX12) (T := TX12) (N := 33) hx hb hts hinX12 hown hK.1 hP 0 rfl rfl 27 (by decide) wd5 (fun _ h9 => h9) rfl dX12_aim_88 ?_
        refine lv_iload hx hb dX12_aim_91 (lv_at hl 5 rfl) ?_
        refine lv_iload hx hb dX12_aim_93 (lv_at hl 0 rfl) ?_
        refine lv_if_eq (tgt := 117) hx hb dX12_aim_95 (by decide) (fun b9 => ?_) (fun b9 => absurd (by decide) b9)
        refine lv_lconst (v := 0) hx hb dX12_aim_117 (by decide) ?_
        obtain ⟨h11, hm⟩ := g_in hm
        refine va_last hx hb hK.1 hP hD hS 22 1 rfl rfl h11 dX12_aim_118 (fun H locs hP hD hS => ?_)
        have hP : va_P G vwCl (ww_M q cs v_told v_tell v_sums v_kindOf v_modOf v_bitsOf v_turnOf v_polyOf v_beginOf v_finishOf v_isLow v_weightsOf v_weight v_cell v_size v_row v_keptSize v_keptBefore v_keptAfter v_placeA v_placeB v_turned v_turnedMany v_syndromes v_lightest v_freeMany v_freePlace (vp_updL v_freeSyndrome x8.toNatClampNeg 0) v_ways v_waysKept v_trace v_comesA v_comesB) H := hP
        have hD : va_D A (ww_M q cs v_told v_tell v_sums v_kindOf v_modOf v_bitsOf v_turnOf v_polyOf v_beginOf v_finishOf v_isLow v_weightsOf v_weight v_cell v_size v_row v_keptSize v_keptBefore v_keptAfter v_placeA v_placeB v_turned v_turnedMany v_syndromes v_lightest v_freeMany v_freePlace (vp_updL v_freeSyndrome x8.toNatClampNeg 0) v_ways v_waysKept v_trace v_comesA v_comesB) := hD
        refine lv_iload hx hb dX12_aim_119 (lv_at hl 4 rfl) ?_
        refine lv_iload hx hb dX12_aim_121 (lv_at hl 0 rfl) ?_
        refine lv_if_eq (tgt := 130) hx hb dX12_aim_123 (by decide) (fun b9 => ?_) (fun b9 => absurd (by decide) b9)
        refine lv_iconst (v := 1) hx hb dX12_aim_130 (by decide) ?_
        refine lv_iload hx hb dX12_aim_131 (lv_at hl 5 rfl) ?_
        refine lv_ishl hx hb dX12_aim_133 ?_
        refine lv_ior hx hb dX12_aim_134 ?_
        refine lv_istore (lv' := [(7, .int (x7 ||| ((1 : Int32) <<< (x8 &&& 31)))), (9, .int 0), (0, .ref (q 0)), (1, .int x1), (5, .long x5), (8, .int x8)]) hx hb dX12_aim_135 hl (by decide) rfl (fun ls hl => ?_)
        refine lv_iinc (v := x8 + 1) (lv' := [(8, .int (x8 + 1)), (7, .int (x7 ||| ((1 : Int32) <<< (x8 &&& 31)))), (9, .int 0), (0, .ref (q 0)), (1, .int x1), (5, .long x5)]) hx hb dX12_aim_137 hl (k := 5) rfl rfl (by decide) rfl (fun ls hl => ?_)
        refine lv_goto (tgt := 54) hx hb dX12_aim_140 (by decide) ?_
        exact st_next hm hst H locs hP hD hS ls (lv_sub hl [3, 4, 5, 1, 0] rfl)
      · have hm := i_f b10 hm
        refine lv_iconst (v := 1) hx hb dX12_aim_80 (by decide) ?_
        refine lv_goto (tgt := 85) hx hb dX12_aim_81 (by decide) ?_
        refine lv_istore (lv' := [(9, .int 1), (0, .ref (q 0)), (1, .int x1), (5, .long x5), (7, .int x7), (8, .int x8)]) hx hb dX12_aim_85 hl (by decide) rfl (fun ls hl => ?_)
        refine lv_aload_n hx hb dX12_aim_87 rfl (lv_at hl 1 rfl) ?_
        refine va_get (D := G) (ci := 10) (v := .ref (q 22)) (C := RX12) (T := TX12) (N := 33) hx hb hts hinX12 hown hK.1 hP 0 rfl rfl 27 (by decide) wd5 (fun _ h9 => h9) rfl dX12_aim_88 ?_
        refine lv_iload hx hb dX12_aim_91 (lv_at hl 5 rfl) ?_
        refine lv_iload hx hb dX12_aim_93 (lv_at hl 0 rfl) ?_
        refine lv_if_eq (tgt := 117) hx hb dX12_aim_95 (by decide) (fun b9 => absurd b9 (by decide)) (fun b9 => ?_)
        refine lv_aload_n hx hb dX12_aim_98 rfl (lv_at hl 1 rfl) ?_
        refine lv_iload_n hx hb dX12_aim_99 rfl (lv_at hl 2 rfl) ?_
        refine lv_aload_n hx hb dX12_aim_100 rfl (lv_at hl 1 rfl) ?_
        refine va_get (D := G) (ci := 10) (v := .ref (q 21)) (C := RX12) (T := TX12) (N := 33) hx hb hts hinX12 hown hK.1 hP 0 rfl rfl 26 (by decide) wd4 (fun _ h9 => h9) rfl dX12_aim_101 ?_
        refine lv_iload hx hb dX12_aim_104 (lv_at hl 5 rfl) ?_
        obtain ⟨h12, hm⟩ := g_in hm
        refine va_iald hx hb hK.1 hP 21 0 rfl rfl h12 dX12_aim_106 ?_
        refine lv_aload_n hx hb dX12_aim_107 rfl (lv_at hl 1 rfl) ?_
        refine va_get (D := G) (ci := 10) (v := .int v_size) (C := RX12) (T := TX12) (N := 33) hx hb hts hinX12 hown hK.1 hP 0 rfl rfl 14 (by decide) wd2 (fun _ h9 => h9) rfl dX12_aim_108 ?_
        obtain ⟨r13, hc_r13, hm⟩ := bs hm
        refine k_calll (va_runV (As := [.int x1, .int (v_freePlace x8.toNatClampNeg), .int v_size]) (rest := [.int x8, .ref (q 22)]) ⟨hx, hb, hml, hown, hts⟩ (c_X12_syndromeOf l G cs q H.size v_told v_tell v_sums v_kindOf v_modOf v_bitsOf v_turnOf v_polyOf v_beginOf v_finishOf v_isLow v_weightsOf v_weight v_cell v_size v_row v_keptSize v_keptBefore v_keptAfter v_placeA v_placeB v_turned v_turnedMany v_syndromes v_lightest v_freeMany v_freePlace v_freeSyndrome v_ways v_waysKept v_trace v_comesA v_comesB   x1 (v_freePlace x8.toNatClampNeg) v_size n r13 hc_r13) (cwV 3 hts gX12_aim_X12_syndromeOf rfl rfl rfl ⟨rfl, hd_X12_syndromeOf⟩ ⟨Nat.le_of_ble_eq_true rfl, Nat.le_of_ble_eq_true rfl⟩) ⟨pre_blind, va_recv hK.1 hP (ci := 10) (q0 := 0) rfl rfl, pre_w hK RO.nil hP hD (va_all hD hS hA)⟩ rfl rfl hl.1 rfl (lv_room (Nat.le_of_ble_eq_true rfl)) dX12_aim_111 ⟨Nat.zero_le _, Nat.zero_le _⟩) hS (va_all hD hS hA) (fun H locs hP hD hS => ?_)
        have hP : va_P G vwCl (ww_M q cs v_told v_tell v_sums v_kindOf v_modOf v_bitsOf v_turnOf v_polyOf v_beginOf v_finishOf v_isLow v_weightsOf v_weight v_cell v_size v_row v_keptSize v_keptBefore v_keptAfter v_placeA v_placeB v_turned v_turnedMany v_syndromes v_lightest v_freeMany v_freePlace v_freeSyndrome v_ways v_waysKept v_trace v_comesA v_comesB) H := hP
        have hD : va_D A (ww_M q cs v_told v_tell v_sums v_kindOf v_modOf v_bitsOf v_turnOf v_polyOf v_beginOf v_finishOf v_isLow v_weightsOf v_weight v_cell v_size v_row v_keptSize v_keptBefore v_keptAfter v_placeA v_placeB v_turned v_turnedMany v_syndromes v_lightest v_freeMany v_freePlace v_freeSyndrome v_ways v_waysKept v_trace v_comesA v_comesB) := hD
        refine lv_goto (tgt := 118) hx hb dX12_aim_114 (by decide) ?_
        obtain ⟨h14, hm⟩ := g_in hm
        refine va_last hx hb hK.1 hP hD hS 22 1 rfl rfl h14 dX12_aim_118 (fun H locs hP hD hS => ?_)
        have hP : va_P G vwCl (ww_M q cs v_told v_tell v_sums v_kindOf v_modOf v_bitsOf v_turnOf v_polyOf v_beginOf v_finishOf v_isLow v_weightsOf v_weight v_cell v_size v_row v_keptSize v_keptBefore v_keptAfter v_placeA v_placeB v_turned v_turnedMany v_syndromes v_lightest v_freeMany v_freePlace (vp_updL v_freeSyndrome x8.toNatClampNeg r13) v_ways v_waysKept v_trace v_comesA v_comesB) H := hP
        have hD : va_D A (ww_M q cs v_told v_tell v_sums v_kindOf v_modOf v_bitsOf v_turnOf v_polyOf v_beginOf v_finishOf v_isLow v_weightsOf v_weight v_cell v_size v_row v_keptSize v_keptBefore v_keptAfter v_placeA v_placeB v_turned v_turnedMany v_syndromes v_lightest v_freeMany v_freePlace (vp_updL v_freeSyndrome x8.toNatClampNeg r13) v_ways v_waysKept v_trace v_comesA v_comesB) := hD
        refine lv_iload hx hb dX12_aim_119 (lv_at hl 4 rfl) ?_
        refine lv_iload hx hb dX12_aim_121 (lv_at hl 0 rfl) ?_
        refine lv_if_eq (tgt := 130) hx hb dX12_aim_123 (by decide) (fun b9 => absurd b9 (by decide)) (fun b9 => ?_)
        refine lv_iconst (v := 0) hx hb dX12_aim_126 (by decide) ?_
        refine lv_goto (tgt := 134) hx hb dX12_aim_127 (by decide) ?_
        refine lv_ior hx hb dX12_aim_134 ?_
        refine lv_istore (lv' := [(7, .int (x7 ||| 0)), (9, .int 1), (0, .ref (q 0)), (1, .int x1), (5, .long x5), (8, .int x8)]) hx hb dX12_aim_135 hl (by decide) rfl (fun ls hl => ?_)
        refine lv_iinc (v := x8 + 1) (lv' := [(8, .int (x8 + 1)), (7, .int (x7 ||| 0)), (9, .int 1), (0, .ref (q 0)), (1, .int x1), (5, .long x5)]) hx hb dX12_aim_137 hl (k := 5) rfl rfl (by decide) rfl (fun ls hl => ?_)
        refine lv_goto (tgt := 54) hx hb dX12_aim_140 (by decide) ?_
        exact st_next hm hst H locs hP hD hS ls (lv_sub hl [3, 4, 5, 1, 0] rfl)
  have L171 : ∀ (x5 : Int64) (x7 : Int32) (x8 : Int32) (x9 : Int32) (x10 : Int64) (x12 : Int32) (v_freeSyndrome : (Nat → Int64)) (v_ways : (Nat → Int32)) (v_waysKept : Int32) (out : Int64), lp (fun x : (Int64 × Int32) => M_X12_aim_b171 n x9 v_freeMany v_freeSyndrome x.1 x.2) n (x10, x12) = some out → (∀ (o : Int64), out = o → ∀ (H : Heap) (locs : List Loc), va_P G vwCl (ww_M q cs v_told v_tell v_sums v_kindOf v_modOf v_bitsOf v_turnOf v_polyOf v_beginOf v_finishOf v_isLow v_weightsOf v_weight v_cell v_size v_row v_keptSize v_keptBefore v_keptAfter v_placeA v_placeB v_turned v_turnedMany v_syndromes v_lightest v_freeMany v_freePlace v_freeSyndrome v_ways v_waysKept v_trace v_comesA v_comesB) H → va_D A (ww_M q cs v_told v_tell v_sums v_kindOf v_modOf v_bitsOf v_turnOf v_polyOf v_beginOf v_finishOf v_isLow v_weightsOf v_weight v_cell v_size v_row v_keptSize v_keptBefore v_keptAfter v_placeA v_placeB v_turned v_turnedMany v_syndromes v_lightest v_freeMany v_freePlace v_freeSyndrome v_ways v_waysKept v_trace v_comesA v_comesB) → va_S A s.heap H locs → ∀ (ls : Array Slot), lv_has ls 13 [(0, .ref (q 0)), (5, .long x5), (7, .int x7), (8, .int x8), (9, .int x9), (10, .long o)] → W p l e rmX12_aim s m args below meth c H locs 0 0 Q (F0 m 214 ls [])) → ∀ (H : Heap) (locs : List Loc), va_P G vwCl (ww_M q cs v_told v_tell v_sums v_kindOf v_modOf v_bitsOf v_turnOf v_polyOf v_beginOf v_finishOf v_isLow v_weightsOf v_weight v_cell v_size v_row v_keptSize v_keptBefore v_keptAfter v_placeA v_placeB v_turned v_turnedMany v_syndromes v_lightest v_freeMany v_freePlace v_freeSyndrome v_ways v_waysKept v_trace v_comesA v_comesB) H → va_D A (ww_M q cs v_told v_tell v_sums v_kindOf v_modOf v_bitsOf v_turnOf v_polyOf v_beginOf v_finishOf v_isLow v_weightsOf v_weight v_cell v_size v_row v_keptSize v_keptBefore v_keptAfter v_placeA v_placeB v_turned v_turnedMany v_syndromes v_lightest v_freeMany v_freePlace v_freeSyndrome v_ways v_waysKept v_trace v_comesA v_comesB) → va_S A s.heap H locs → ∀ (ls : Array Slot), lv_has ls 13 [(0, .ref (q 0)), (5, .long x5), (7, .int x7), (8, .int x8), (9, .int x9), (10, .long x10), (12, .int x12)] → W p l e rmX12_aim s m args below meth c H locs 0 0 Q (F0 m 171 ls []) := by
    intro x5 x7 x8 x9 x10 x12 v_freeSyndrome v_ways v_waysKept out hlp hX
    refine lp_ind (fun x => ∀ (H : Heap) (locs : List Loc), va_P G vwCl (ww_M q cs v_told v_tell v_sums v_kindOf v_modOf v_bitsOf v_turnOf v_polyOf v_beginOf v_finishOf v_isLow v_weightsOf v_weight v_cell v_size v_row v_keptSize v_keptBefore v_keptAfter v_placeA v_placeB v_turned v_turnedMany v_syndromes v_lightest v_freeMany v_freePlace v_freeSyndrome v_ways v_waysKept v_trace v_comesA v_comesB) H → va_D A (ww_M q cs v_told v_tell v_sums v_kindOf v_modOf v_bitsOf v_turnOf v_polyOf v_beginOf v_finishOf v_isLow v_weightsOf v_weight v_cell v_size v_row v_keptSize v_keptBefore v_keptAfter v_placeA v_placeB v_turned v_turnedMany v_syndromes v_lightest v_freeMany v_freePlace v_freeSyndrome v_ways v_waysKept v_trace v_comesA v_comesB) → va_S A s.heap H locs → ∀ (ls : Array Slot), lv_has ls 13 [(0, .ref (q 0)), (5, .long x5), (7, .int x7), (8, .int x8), (9, .int x9), (10, .long x.1), (12, .int x.2)] → W p l e rmX12_aim s m args below meth c H locs 0 0 Q (F0 m 171 ls [])) ?_ n (x10, x12) hlp
    clear hlp hP hD hS hl
    rintro ⟨x10, x12⟩ ob hm hst H locs hP hD hS ls hl
    have hm : M_X12_aim_b171 n x9 v_freeMany v_freeSyndrome x10 x12 = some ob := hm
    have hl : lv_has ls 13 [(0, .ref (q 0)), (5, .long x5), (7, .int x7), (8, .int x8), (9, .int x9), (10, .long x10), (12, .int x12)] := hl
    have hP : va_P G vwCl (ww_M q cs v_told v_tell v_sums v_kindOf v_modOf v_bitsOf v_turnOf v_polyOf v_beginOf v_finishOf v_isLow v_weightsOf v_weight v_cell v_size v_row v_keptSize v_keptBefore v_keptAfter v_placeA v_placeB v_turned v_turnedMany v_syndromes v_lightest v_freeMany v_freePlace v_freeSyndrome v_ways v_waysKept v_trace v_comesA v_comesB) H := hP
    have hD : va_D A (ww_M q cs v_told v_tell v_sums v_kindOf v_modOf v_bitsOf v_turnOf v_polyOf v_beginOf v_finishOf v_isLow v_weightsOf v_weight v_cell v_size v_row v_keptSize v_keptBefore v_keptAfter v_placeA v_placeB v_turned v_turnedMany v_syndromes v_lightest v_freeMany v_freePlace v_freeSyndrome v_ways v_waysKept v_trace v_comesA v_comesB) := hD
    unfold M_X12_aim_b171 at hm
    refine lv_iload hx hb dX12_aim_171 (lv_at hl 6 rfl) ?_
    refine lv_aload_n hx hb dX12_aim_173 rfl (lv_at hl 0 rfl) ?_
    refine va_get (D := G) (ci := 10) (v := .int v_freeMany) (C := RX12) (T := TX12) (N := 33) hx hb hts hinX12 hown hK.1 hP 0 rfl rfl 25 (by decide) wd3 (fun _ h9 => h9) rfl dX12_aim_174 ?_
    refine lv_icmp_ge (tgt := 214) hx hb dX12_aim_177 (by decide) (fun b17 => ?_) (fun b17 => ?_)
    · have hm := i_t b17 hm
      exact hX _ (st_exit hm hst) H locs hP hD hS ls (lv_sub hl [0, 1, 2, 3, 4, 5] rfl)
    · have hm := i_f b17 hm
      refine lv_iload hx hb dX12_aim_180 (lv_at hl 4 rfl) ?_
      refine lv_iload hx hb dX12_aim_182 (lv_at hl 6 rfl) ?_
      refine lv_ishr hx hb dX12_aim_184 ?_
      refine lv_iconst (v := 1) hx hb dX12_aim_185 (by decide) ?_
      refine lv_iand hx hb dX12_aim_186 ?_
      refine lv_iconst (v := 1) hx hb dX12_aim_187 (by decide) ?_
      refine lv_icmp_ne (tgt := 204) hx hb dX12_aim_188 (by decide) (fun b18 => ?_) (fun b18 => ?_)
      · have hm := i_f b18 hm
        refine lv_lload hx hb dX12_aim_204 (lv_at hl 5 rfl) ?_
        refine lv_lstore (lv' := [(10, .long x10), (0, .ref (q 0)), (5, .long x5), (7, .int x7), (8, .int x8), (9, .int x9), (12, .int x12)]) hx hb dX12_aim_206 hl (by decide) rfl (fun ls hl => ?_)
        refine lv_iinc (v := x12 + 1) (lv' := [(12, .int (x12 + 1)), (10, .long x10), (0, .ref (q 0)), (5, .long x5), (7, .int x7), (8, .int x8), (9, .int x9)]) hx hb dX12_aim_208 hl (k := 6) rfl rfl (by decide) rfl (fun ls hl => ?_)
        refine lv_goto (tgt := 171) hx hb dX12_aim_211 (by decide) ?_
        exact st_next hm hst H locs hP hD hS ls (lv_sub hl [2, 3, 4, 5, 6, 1, 0] rfl)
      · have hm := i_t b18 hm
        refine lv_lload hx hb dX12_aim_191 (lv_at hl 5 rfl) ?_
        refine lv_aload_n hx hb dX12_aim_193 rfl (lv_at hl 0 rfl) ?_
        refine va_get (D := G) (ci := 10) (v := .ref (q 22)) (C := RX12) (T := TX12) (N := 33) hx hb hts hinX12 hown hK.1 hP 0 rfl rfl 27 (by decide) wd5 (fun _ h9 => h9) rfl dX12_aim_194 ?_
        refine lv_iload hx hb dX12_aim_197 (lv_at hl 6 rfl) ?_
        obtain ⟨h19, hm⟩ := g_in hm
        refine va_lald hx hb hK.1 hP 22 1 rfl rfl h19 dX12_aim_199 ?_
        refine lv_lxor hx hb dX12_aim_200 ?_
        refine lv_goto (tgt := 206) hx hb dX12_aim_201 (by decide) ?_
        refine lv_lstore (lv' := [(10, .long (x10 ^^^ (v_freeSyndrome x12.toNatClampNeg))), (0, .ref (q 0)), (5, .long x5), (7, .int x7), (8, .int x8), (9, .int x9), (12, .int x12)]) hx hb dX12_aim_206 hl (by decide) rfl (fun ls hl => ?_)
        refine lv_iinc (v := x12 + 1) (lv' := [(12, .int (x12 + 1)), (10, .long (x10 ^^^ (v_freeSyndrome x12.toNatClampNeg))), (0, .ref (q 0)), (5, .long x5), (7, .int x7), (8, .int x8), (9, .int x9)]) hx hb dX12_aim_208 hl (k := 6) rfl rfl (by decide) rfl (fun ls hl => ?_)
        refine lv_goto (tgt := 171) hx hb dX12_aim_211 (by decide) ?_
        exact st_next hm hst H locs hP hD hS ls (lv_sub hl [2, 3, 4, 5, 6, 1, 0] rfl)
  have L154 : ∀ (x5 : Int64) (x7 : Int32) (x8 : Int32) (x9 : Int32) (v_freeSyndrome : (Nat → Int64)) (v_ways : (Nat → Int32)) (v_waysKept : Int32) (out : (Int32 × (Nat → Int32) × Int32)), lp (fun x : (Int32 × Int32 × (Nat → Int32) × Int32) => M_X12_aim_b154 n x5 x7 v_freeMany v_freeSyndrome x.1 x.2.1 x.2.2.1 x.2.2.2) n (x8, x9, v_ways, v_waysKept) = some out → (∀ (o : (Int32 × (Nat → Int32) × Int32)), out = o → ∀ (H : Heap) (locs : List Loc), va_P G vwCl (ww_M q cs v_told v_tell v_sums v_kindOf v_modOf v_bitsOf v_turnOf v_polyOf v_beginOf v_finishOf v_isLow v_weightsOf v_weight v_cell v_size v_row v_keptSize v_keptBefore v_keptAfter v_placeA v_placeB v_turned v_turnedMany v_syndromes v_lightest v_freeMany v_freePlace v_freeSyndrome o.2.1 o.2.2 v_trace v_comesA v_comesB) H → va_D A (ww_M q cs v_told v_tell v_sums v_kindOf v_modOf v_bitsOf v_turnOf v_polyOf v_beginOf v_finishOf v_isLow v_weightsOf v_weight v_cell v_size v_row v_keptSize v_keptBefore v_keptAfter v_placeA v_placeB v_turned v_turnedMany v_syndromes v_lightest v_freeMany v_freePlace v_freeSyndrome o.2.1 o.2.2 v_trace v_comesA v_comesB) → va_S A s.heap H locs → ∀ (ls : Array Slot), lv_has ls 13 [(8, .int o.1)] → W p l e rmX12_aim s m args below meth c H locs 0 0 Q (F0 m 265 ls [])) → ∀ (H : Heap) (locs : List Loc), va_P G vwCl (ww_M q cs v_told v_tell v_sums v_kindOf v_modOf v_bitsOf v_turnOf v_polyOf v_beginOf v_finishOf v_isLow v_weightsOf v_weight v_cell v_size v_row v_keptSize v_keptBefore v_keptAfter v_placeA v_placeB v_turned v_turnedMany v_syndromes v_lightest v_freeMany v_freePlace v_freeSyndrome v_ways v_waysKept v_trace v_comesA v_comesB) H → va_D A (ww_M q cs v_told v_tell v_sums v_kindOf v_modOf v_bitsOf v_turnOf v_polyOf v_beginOf v_finishOf v_isLow v_weightsOf v_weight v_cell v_size v_row v_keptSize v_keptBefore v_keptAfter v_placeA v_placeB v_turned v_turnedMany v_syndromes v_lightest v_freeMany v_freePlace v_freeSyndrome v_ways v_waysKept v_trace v_comesA v_comesB) → va_S A s.heap H locs → ∀ (ls : Array Slot), lv_has ls 13 [(0, .ref (q 0)), (5, .long x5), (7, .int x7), (8, .int x8), (9, .int x9)] → W p l e rmX12_aim s m args below meth c H locs 0 0 Q (F0 m 154 ls []) := by
    intro x5 x7 x8 x9 v_freeSyndrome v_ways v_waysKept out hlp hX
    refine lp_ind (fun x => ∀ (H : Heap) (locs : List Loc), va_P G vwCl (ww_M q cs v_told v_tell v_sums v_kindOf v_modOf v_bitsOf v_turnOf v_polyOf v_beginOf v_finishOf v_isLow v_weightsOf v_weight v_cell v_size v_row v_keptSize v_keptBefore v_keptAfter v_placeA v_placeB v_turned v_turnedMany v_syndromes v_lightest v_freeMany v_freePlace v_freeSyndrome x.2.2.1 x.2.2.2 v_trace v_comesA v_comesB) H → va_D A (ww_M q cs v_told v_tell v_sums v_kindOf v_modOf v_bitsOf v_turnOf v_polyOf v_beginOf v_finishOf v_isLow v_weightsOf v_weight v_cell v_size v_row v_keptSize v_keptBefore v_keptAfter v_placeA v_placeB v_turned v_turnedMany v_syndromes v_lightest v_freeMany v_freePlace v_freeSyndrome x.2.2.1 x.2.2.2 v_trace v_comesA v_comesB) → va_S A s.heap H locs → ∀ (ls : Array Slot), lv_has ls 13 [(0, .ref (q 0)), (5, .long x5), (7, .int x7), (8, .int x.1), (9, .int x.2.1)] → W p l e rmX12_aim s m args below meth c H locs 0 0 Q (F0 m 154 ls [])) ?_ n (x8, x9, v_ways, v_waysKept) hlp
    clear hlp hP hD hS hl
    rintro ⟨x8, x9, v_ways, v_waysKept⟩ ob hm hst H locs hP hD hS ls hl
    have hm : M_X12_aim_b154 n x5 x7 v_freeMany v_freeSyndrome x8 x9 v_ways v_waysKept = some ob := hm
    have hl : lv_has ls 13 [(0, .ref (q 0)), (5, .long x5), (7, .int x7), (8, .int x8), (9, .int x9)] := hl
    have hP : va_P G vwCl (ww_M q cs v_told v_tell v_sums v_kindOf v_modOf v_bitsOf v_turnOf v_polyOf v_beginOf v_finishOf v_isLow v_weightsOf v_weight v_cell v_size v_row v_keptSize v_keptBefore v_keptAfter v_placeA v_placeB v_turned v_turnedMany v_syndromes v_lightest v_freeMany v_freePlace v_freeSyndrome v_ways v_waysKept v_trace v_comesA v_comesB) H := hP
    have hD : va_D A (ww_M q cs v_told v_tell v_sums v_kindOf v_modOf v_bitsOf v_turnOf v_polyOf v_beginOf v_finishOf v_isLow v_weightsOf v_weight v_cell v_size v_row v_keptSize v_keptBefore v_keptAfter v_placeA v_placeB v_turned v_turnedMany v_syndromes v_lightest v_freeMany v_freePlace v_freeSyndrome v_ways v_waysKept v_trace v_comesA v_comesB) := hD
    unfold M_X12_aim_b154 at hm
    refine lv_iload hx hb dX12_aim_154 (lv_at hl 4 rfl) ?_
    refine lv_iconst (v := 1) hx hb dX12_aim_156 (by decide) ?_
    refine lv_aload_n hx hb dX12_aim_157 rfl (lv_at hl 0 rfl) ?_
    refine va_get (D := G) (ci := 10) (v := .int v_freeMany) (C := RX12) (T := TX12) (N := 33) hx hb hts hinX12 hown hK.1 hP 0 rfl rfl 25 (by decide) wd3 (fun _ h9 => h9) rfl dX12_aim_158 ?_
    refine lv_ishl hx hb dX12_aim_161 ?_
    refine lv_icmp_ge (tgt := 265) hx hb dX12_aim_162 (by decide) (fun b16 => ?_) (fun b16 => ?_)
    · have hm := i_t b16 hm
      exact hX _ (st_exit hm hst) H locs hP hD hS ls (lv_sub hl [3] rfl)
    · have hm := i_f b16 hm
      refine lv_lconst (v := 0) hx hb dX12_aim_165 (by decide) ?_
      refine lv_lstore (lv' := [(10, .long 0), (0, .ref (q 0)), (5, .long x5), (7, .int x7), (8, .int x8), (9, .int x9)]) hx hb dX12_aim_166 hl (by decide) rfl (fun ls hl => ?_)
      refine lv_iconst (v := 0) hx hb dX12_aim_168 (by decide) ?_
      refine lv_istore (lv' := [(12, .int 0), (10, .long 0), (0, .ref (q 0)), (5, .long x5), (7, .int x7), (8, .int x8), (9, .int x9)]) hx hb dX12_aim_169 hl (by decide) rfl (fun ls hl => ?_)
      obtain ⟨o20, hlp20, hm⟩ := bs hm
      refine L171 x5 x7 x8 x9 (0 : Int64) (0 : Int32) v_freeSyndrome v_ways v_waysKept o20 hlp20 (fun oo ho => ?_) H locs hP hD hS ls (lv_sub hl [2, 3, 4, 5, 6, 1, 0] rfl)
      subst ho
      intro H locs hP hD hS ls hl
      have hl : lv_has ls 13 [(0, .ref (q 0)), (5, .long x5), (7, .int x7), (8, .int x8), (9, .int x9), (10, .long o20)] := hl
      have hP : va_P G vwCl (ww_M q cs v_told v_tell v_sums v_kindOf v_modOf v_bitsOf v_turnOf v_polyOf v_beginOf v_finishOf v_isLow v_weightsOf v_weight v_cell v_size v_row v_keptSize v_keptBefore v_keptAfter v_placeA v_placeB v_turned v_turnedMany v_syndromes v_lightest v_freeMany v_freePlace v_freeSyndrome v_ways v_waysKept v_trace v_comesA v_comesB) H := hP
      have hD : va_D A (ww_M q cs v_told v_tell v_sums v_kindOf v_modOf v_bitsOf v_turnOf v_polyOf v_beginOf v_finishOf v_isLow v_weightsOf v_weight v_cell v_size v_row v_keptSize v_keptBefore v_keptAfter v_placeA v_placeB v_turned v_turnedMany v_syndromes v_lightest v_freeMany v_freePlace v_freeSyndrome v_ways v_waysKept v_trace v_comesA v_comesB) := hD
      refine lv_iload hx hb dX12_aim_214 (lv_at hl 4 rfl) ?_
      refine lv_iload hx hb dX12_aim_216 (lv_at hl 2 rfl) ?_
      refine lv_iand hx hb dX12_aim_218 ?_
      refine lv_if_ne (tgt := 259) hx hb dX12_aim_219 (by decide) (fun b21 => ?_) (fun b21 => ?_)
      · have hm := i_f b21 hm
        refine lv_iinc (v := x9 + 1) (lv' := [(9, .int (x9 + 1)), (0, .ref (q 0)), (5, .long x5), (7, .int x7), (8, .int x8), (10, .long o20)]) hx hb dX12_aim_259 hl (k := 4) rfl rfl (by decide) rfl (fun ls hl => ?_)
        refine lv_goto (tgt := 154) hx hb dX12_aim_262 (by decide) ?_
        exact st_next hm hst H locs hP hD hS ls (lv_sub hl [1, 2, 3, 4, 0] rfl)
      · have hm := i_t b21 hm
        refine lv_lload hx hb dX12_aim_222 (lv_at hl 5 rfl) ?_
        refine lv_lload hx hb dX12_aim_224 (lv_at hl 1 rfl) ?_
        refine W.lcmp hx hb dX12_aim_226 ?_
        refine lv_if_ne (tgt := 259) hx hb dX12_aim_227 (by decide) (fun b22 => ?_) (fun b22 => ?_)
        · have b22 := fun h9 => b22 ((lg_cmp_eq _ _).mpr h9)
          have hm := i_f b22 hm
          refine lv_iinc (v := x9 + 1) (lv' := [(9, .int (x9 + 1)), (0, .ref (q 0)), (5, .long x5), (7, .int x7), (8, .int x8), (10, .long o20)]) hx hb dX12_aim_259 hl (k := 4) rfl rfl (by decide) rfl (fun ls hl => ?_)
          refine lv_goto (tgt := 154) hx hb dX12_aim_262 (by decide) ?_
          exact st_next hm hst H locs hP hD hS ls (lv_sub hl [1, 2, 3, 4, 0] rfl)
        · have b22 := (lg_cmp_eq _ _).mp b22
          have hm := i_t b22 hm
          refine lv_iload hx hb dX12_aim_230 (lv_at hl 3 rfl) ?_
          refine lv_bipush (v := 64) hx hb dX12_aim_232 (by decide) ?_
          refine lv_icmp_ge (tgt := 256) hx hb dX12_aim_234 (by decide) (fun b23 => ?_) (fun b23 => ?_)
          · have hm := i_t b23 hm
            refine lv_iinc (v := x8 + 1) (lv' := [(8, .int (x8 + 1)), (0, .ref (q 0)), (5, .long x5), (7, .int x7), (9, .int x9), (10, .long o20)]) hx hb dX12_aim_256 hl (k := 3) rfl rfl (by decide) rfl (fun ls hl => ?_)
            refine lv_iinc (v := x9 + 1) (lv' := [(9, .int (x9 + 1)), (8, .int (x8 + 1)), (0, .ref (q 0)), (5, .long x5), (7, .int x7), (10, .long o20)]) hx hb dX12_aim_259 hl (k := 4) rfl rfl (by decide) rfl (fun ls hl => ?_)
            refine lv_goto (tgt := 154) hx hb dX12_aim_262 (by decide) ?_
            exact st_next hm hst H locs hP hD hS ls (lv_sub hl [2, 3, 4, 1, 0] rfl)
          · have hm := i_f b23 hm
            refine lv_aload_n hx hb dX12_aim_237 rfl (lv_at hl 0 rfl) ?_
            refine va_get (D := G) (ci := 10) (v := .ref (q 23)) (C := RX12) (T := TX12) (N := 33) hx hb hts hinX12 hown hK.1 hP 0 rfl rfl 28 (by decide) wd7 (fun _ h9 => h9) rfl dX12_aim_238 ?_
            refine lv_iload hx hb dX12_aim_241 (lv_at hl 3 rfl) ?_
            refine lv_iload hx hb dX12_aim_243 (lv_at hl 4 rfl) ?_
            obtain ⟨h24, hm⟩ := g_in hm
            refine va_iast hx hb hK.1 hP hD hS 23 0 rfl rfl h24 dX12_aim_245 (fun H locs hP hD hS => ?_)
            have hP : va_P G vwCl (ww_M q cs v_told v_tell v_sums v_kindOf v_modOf v_bitsOf v_turnOf v_polyOf v_beginOf v_finishOf v_isLow v_weightsOf v_weight v_cell v_size v_row v_keptSize v_keptBefore v_keptAfter v_placeA v_placeB v_turned v_turnedMany v_syndromes v_lightest v_freeMany v_freePlace v_freeSyndrome (upd v_ways x8.toNatClampNeg x9) v_waysKept v_trace v_comesA v_comesB) H := hP
            have hD : va_D A (ww_M q cs v_told v_tell v_sums v_kindOf v_modOf v_bitsOf v_turnOf v_polyOf v_beginOf v_finishOf v_isLow v_weightsOf v_weight v_cell v_size v_row v_keptSize v_keptBefore v_keptAfter v_placeA v_placeB v_turned v_turnedMany v_syndromes v_lightest v_freeMany v_freePlace v_freeSyndrome (upd v_ways x8.toNatClampNeg x9) v_waysKept v_trace v_comesA v_comesB) := hD
            refine lv_aload_n hx hb dX12_aim_246 rfl (lv_at hl 0 rfl) ?_
            refine lv_dup hx hb dX12_aim_247 rfl ?_
            refine va_get (D := G) (ci := 10) (v := .int v_waysKept) (C := RX12) (T := TX12) (N := 33) hx hb hts hinX12 hown hK.1 hP 0 rfl rfl 29 (by decide) wd6 (fun _ h9 => h9) rfl dX12_aim_248 ?_
            refine lv_iconst (v := 1) hx hb dX12_aim_251 (by decide) ?_
            refine lv_iadd hx hb dX12_aim_252 ?_
            refine va_put (D := G) (ci := 10) (v := .int (v_waysKept + 1)) (ty := .int) (C := RX12) (T := TX12) (N := 33) hx hb hts hinX12 tyX12 tyX12_ok nmX12 hown hK.1 hP hD hS 0 rfl rfl 29 (by decide) wd6 (fun _ h9 => h9) rfl (by decide +kernel) rfl rfl (Nat.le_of_ble_eq_true rfl) dX12_aim_253 (fun H locs hP hD hS => ?_)
            have hP : va_P G vwCl (ww_M q cs v_told v_tell v_sums v_kindOf v_modOf v_bitsOf v_turnOf v_polyOf v_beginOf v_finishOf v_isLow v_weightsOf v_weight v_cell v_size v_row v_keptSize v_keptBefore v_keptAfter v_placeA v_placeB v_turned v_turnedMany v_syndromes v_lightest v_freeMany v_freePlace v_freeSyndrome (upd v_ways x8.toNatClampNeg x9) (v_waysKept + 1) v_trace v_comesA v_comesB) H := hP
            have hD : va_D A (ww_M q cs v_told v_tell v_sums v_kindOf v_modOf v_bitsOf v_turnOf v_polyOf v_beginOf v_finishOf v_isLow v_weightsOf v_weight v_cell v_size v_row v_keptSize v_keptBefore v_keptAfter v_placeA v_placeB v_turned v_turnedMany v_syndromes v_lightest v_freeMany v_freePlace v_freeSyndrome (upd v_ways x8.toNatClampNeg x9) (v_waysKept + 1) v_trace v_comesA v_comesB) := hD
            refine lv_iinc (v := x8 + 1) (lv' := [(8, .int (x8 + 1)), (0, .ref (q 0)), (5, .long x5), (7, .int x7), (9, .int x9), (10, .long o20)]) hx hb dX12_aim_256 hl (k := 3) rfl rfl (by decide) rfl (fun ls hl => ?_)
            refine lv_iinc (v := x9 + 1) (lv' := [(9, .int (x9 + 1)), (8, .int (x8 + 1)), (0, .ref (q 0)), (5, .long x5), (7, .int x7), (10, .long o20)]) hx hb dX12_aim_259 hl (k := 4) rfl rfl (by decide) rfl (fun ls hl => ?_)
            refine lv_goto (tgt := 154) hx hb dX12_aim_262 (by decide) ?_
            exact st_next hm hst H locs hP hD hS ls (lv_sub hl [2, 3, 4, 1, 0] rfl)
  unfold M_X12_aim at hm
  refine lv_aload_n hx hb dX12_aim_0 rfl (lv_at hl 0 rfl) ?_
  refine lv_iload_n hx hb dX12_aim_1 rfl (lv_at hl 1 rfl) ?_
  obtain ⟨r1, hc_r1, hm⟩ := bs hm
  refine k_calli (va_runV (As := [.int x1]) (rest := []) ⟨hx, hb, hml, hown, hts⟩ (c_X12_against l G cs q H.size v_told v_tell v_sums v_kindOf v_modOf v_bitsOf v_turnOf v_polyOf v_beginOf v_finishOf v_isLow v_weightsOf v_weight v_cell v_size v_row v_keptSize v_keptBefore v_keptAfter v_placeA v_placeB v_turned v_turnedMany v_syndromes v_lightest v_freeMany v_freePlace v_freeSyndrome v_ways v_waysKept v_trace v_comesA v_comesB   x1 r1 hc_r1) (cwV 1 hts gX12_aim_X12_against rfl rfl rfl ⟨rfl, hd_X12_against⟩ ⟨Nat.le_of_ble_eq_true rfl, Nat.le_of_ble_eq_true rfl⟩) ⟨pre_blind, va_recv hK.1 hP (ci := 10) (q0 := 0) rfl rfl, pre_w hK RO.nil hP hD (va_all hD hS hA)⟩ rfl rfl hl.1 rfl (lv_room (Nat.le_of_ble_eq_true rfl)) dX12_aim_2 ⟨Nat.zero_le _, Nat.zero_le _⟩) hS (va_all hD hS hA) (fun hE2 H locs hP hD hS => ?_)
  have hP : va_P G vwCl (ww_M q cs v_told v_tell v_sums v_kindOf v_modOf v_bitsOf v_turnOf v_polyOf v_beginOf v_finishOf v_isLow v_weightsOf v_weight v_cell v_size v_row v_keptSize v_keptBefore v_keptAfter v_placeA v_placeB v_turned v_turnedMany v_syndromes v_lightest v_freeMany v_freePlace v_freeSyndrome v_ways v_waysKept v_trace v_comesA v_comesB) H := hP
  have hD : va_D A (ww_M q cs v_told v_tell v_sums v_kindOf v_modOf v_bitsOf v_turnOf v_polyOf v_beginOf v_finishOf v_isLow v_weightsOf v_weight v_cell v_size v_row v_keptSize v_keptBefore v_keptAfter v_placeA v_placeB v_turned v_turnedMany v_syndromes v_lightest v_freeMany v_freePlace v_freeSyndrome v_ways v_waysKept v_trace v_comesA v_comesB) := hD
  refine lv_istore (lv' := [(4, .int r1), (0, .ref (q 0)), (1, .int x1), (2, .long x2)]) hx hb dX12_aim_5 hl (by decide) rfl (fun ls hl => ?_)
  refine lv_iload hx hb dX12_aim_7 (lv_at hl 0 rfl) ?_
  refine lv_if_eq (tgt := 15) hx hb dX12_aim_9 (by decide) (fun b3 => ?_) (fun b3 => ?_)
  · have hm := i_t b3 hm
    refine lv_lload_n hx hb dX12_aim_15 rfl (lv_at hl 3 rfl) ?_
    refine lv_lconst (v := 0) hx hb dX12_aim_16 (by decide) ?_
    refine lv_aload_n hx hb dX12_aim_17 rfl (lv_at hl 1 rfl) ?_
    refine lv_iload_n hx hb dX12_aim_18 rfl (lv_at hl 2 rfl) ?_
    obtain ⟨r4, hc_r4, hm⟩ := bs hm
    refine k_calll (va_runV (As := [.int x1]) (rest := [.long 0, .long x2]) ⟨hx, hb, hml, hown, hts⟩ (c_X12_mask l G cs q H.size v_told v_tell v_sums v_kindOf v_modOf v_bitsOf v_turnOf v_polyOf v_beginOf v_finishOf v_isLow v_weightsOf v_weight v_cell v_size v_row v_keptSize v_keptBefore v_keptAfter v_placeA v_placeB v_turned v_turnedMany v_syndromes v_lightest v_freeMany v_freePlace v_freeSyndrome v_ways v_waysKept v_trace v_comesA v_comesB   x1 r4 hc_r4) (cwV 1 hts gX12_aim_X12_mask rfl rfl rfl ⟨rfl, hd_X12_mask⟩ ⟨Nat.le_of_ble_eq_true rfl, Nat.le_of_ble_eq_true rfl⟩) ⟨pre_blind, va_recv hK.1 hP (ci := 10) (q0 := 0) rfl rfl, pre_w hK RO.nil hP hD (va_all hD hS hA)⟩ rfl rfl hl.1 rfl (lv_room (Nat.le_of_ble_eq_true rfl)) dX12_aim_19 ⟨Nat.zero_le _, Nat.zero_le _⟩) hS (va_all hD hS hA) (fun H locs hP hD hS => ?_)
    have hP : va_P G vwCl (ww_M q cs v_told v_tell v_sums v_kindOf v_modOf v_bitsOf v_turnOf v_polyOf v_beginOf v_finishOf v_isLow v_weightsOf v_weight v_cell v_size v_row v_keptSize v_keptBefore v_keptAfter v_placeA v_placeB v_turned v_turnedMany v_syndromes v_lightest v_freeMany v_freePlace v_freeSyndrome v_ways v_waysKept v_trace v_comesA v_comesB) H := hP
    have hD : va_D A (ww_M q cs v_told v_tell v_sums v_kindOf v_modOf v_bitsOf v_turnOf v_polyOf v_beginOf v_finishOf v_isLow v_weightsOf v_weight v_cell v_size v_row v_keptSize v_keptBefore v_keptAfter v_placeA v_placeB v_turned v_turnedMany v_syndromes v_lightest v_freeMany v_freePlace v_freeSyndrome v_ways v_waysKept v_trace v_comesA v_comesB) := hD
    refine k_calli0 (va_runS (As := [.long x2, .long 0, .long r4]) (rest := []) ⟨hx, hb, hml, hown, hts⟩ (c_X12_in l G cs H.size    x2 (0 : Int64) r4 _ rfl) (va_cwS 3 hts gX12_aim_X12_in rfl rfl rfl hd_X12_in ⟨Nat.le_of_ble_eq_true rfl, Nat.le_of_ble_eq_true rfl⟩) ⟨pre_blind, pre_w hK RO.nil P0 D0 (va_new0 hS hA)⟩ rfl rfl hl.1 rfl (lv_room (Nat.le_of_ble_eq_true rfl)) dX12_aim_22 ⟨Nat.zero_le _, Nat.zero_le _⟩) hP hS hA (fun hE5 H locs hP hS => ?_)
    refine lv_if_ne (tgt := 31) hx hb dX12_aim_25 (by decide) (fun b6 => ?_) (fun b6 => ?_)
    · have hm := i_f b6 hm
      refine lv_aload_n hx hb dX12_aim_31 rfl (lv_at hl 1 rfl) ?_
      refine lv_iload_n hx hb dX12_aim_32 rfl (lv_at hl 2 rfl) ?_
      refine lv_aload_n hx hb dX12_aim_33 rfl (lv_at hl 1 rfl) ?_
      refine va_get (D := G) (ci := 10) (v := .ref (q 13)) (C := RX12) (T := TX12) (N := 33) hx hb hts hinX12 hown hK.1 hP 0 rfl rfl 15 (by decide) wd1 (fun _ h9 => h9) rfl dX12_aim_34 ?_
      refine lv_aload_n hx hb dX12_aim_37 rfl (lv_at hl 1 rfl) ?_
      refine va_get (D := G) (ci := 10) (v := .int v_size) (C := RX12) (T := TX12) (N := 33) hx hb hts hinX12 hown hK.1 hP 0 rfl rfl 14 (by decide) wd2 (fun _ h9 => h9) rfl dX12_aim_38 ?_
      obtain ⟨r7, hc_r7, hm⟩ := bs hm
      refine k_calll (va_runV (As := [.int x1, .ref (q 13), .int v_size]) (rest := []) ⟨hx, hb, hml, hown, hts⟩ (c_X12_sumOf l G cs q H.size v_told v_tell v_sums v_kindOf v_modOf v_bitsOf v_turnOf v_polyOf v_beginOf v_finishOf v_isLow v_weightsOf v_weight v_cell v_size v_row v_keptSize v_keptBefore v_keptAfter v_placeA v_placeB v_turned v_turnedMany v_syndromes v_lightest v_freeMany v_freePlace v_freeSyndrome v_ways v_waysKept v_trace v_comesA v_comesB   x1 v_size n r7 hc_r7) (cwV 3 hts gX12_aim_X12_sumOf rfl rfl rfl ⟨rfl, hd_X12_sumOf⟩ ⟨Nat.le_of_ble_eq_true rfl, Nat.le_of_ble_eq_true rfl⟩) ⟨pre_blind, va_recv hK.1 hP (ci := 10) (q0 := 0) rfl rfl, pre_w hK RO.nil hP hD (va_all hD hS hA)⟩ rfl rfl hl.1 rfl (lv_room (Nat.le_of_ble_eq_true rfl)) dX12_aim_41 ⟨Nat.zero_le _, Nat.zero_le _⟩) hS (va_all hD hS hA) (fun H locs hP hD hS => ?_)
      have hP : va_P G vwCl (ww_M q cs v_told v_tell v_sums v_kindOf v_modOf v_bitsOf v_turnOf v_polyOf v_beginOf v_finishOf v_isLow v_weightsOf v_weight v_cell v_size v_row v_keptSize v_keptBefore v_keptAfter v_placeA v_placeB v_turned v_turnedMany v_syndromes v_lightest v_freeMany v_freePlace v_freeSyndrome v_ways v_waysKept v_trace v_comesA v_comesB) H := hP
      have hD : va_D A (ww_M q cs v_told v_tell v_sums v_kindOf v_modOf v_bitsOf v_turnOf v_polyOf v_beginOf v_finishOf v_isLow v_weightsOf v_weight v_cell v_size v_row v_keptSize v_keptBefore v_keptAfter v_placeA v_placeB v_turned v_turnedMany v_syndromes v_lightest v_freeMany v_freePlace v_freeSyndrome v_ways v_waysKept v_trace v_comesA v_comesB) := hD
      refine lv_lload_n hx hb dX12_aim_44 rfl (lv_at hl 3 rfl) ?_
      refine lv_lxor hx hb dX12_aim_45 ?_
      refine lv_lstore (lv' := [(5, .long (r7 ^^^ x2)), (4, .int r1), (0, .ref (q 0)), (1, .int x1), (2, .long x2)]) hx hb dX12_aim_46 hl (by decide) rfl (fun ls hl => ?_)
      refine lv_iconst (v := 0) hx hb dX12_aim_48 (by decide) ?_
      refine lv_istore (lv' := [(7, .int 0), (5, .long (r7 ^^^ x2)), (4, .int r1), (0, .ref (q 0)), (1, .int x1), (2, .long x2)]) hx hb dX12_aim_49 hl (by decide) rfl (fun ls hl => ?_)
      refine lv_iconst (v := 0) hx hb dX12_aim_51 (by decide) ?_
      refine lv_istore (lv' := [(8, .int 0), (7, .int 0), (5, .long (r7 ^^^ x2)), (4, .int r1), (0, .ref (q 0)), (1, .int x1), (2, .long x2)]) hx hb dX12_aim_52 hl (by decide) rfl (fun ls hl => ?_)
      obtain ⟨o15, hlp15, hm⟩ := bs hm
      refine L54 x1 (r7 ^^^ x2) (0 : Int32) (0 : Int32) v_freeSyndrome v_ways v_waysKept o15 hlp15 (fun oo ho => ?_) H locs hP hD hS ls (lv_sub hl [4, 5, 2, 1, 0] rfl)
      subst ho
      intro H locs hP hD hS ls hl
      have hl : lv_has ls 13 [(0, .ref (q 0)), (5, .long (r7 ^^^ x2)), (7, .int o15.1)] := hl
      have hP : va_P G vwCl (ww_M q cs v_told v_tell v_sums v_kindOf v_modOf v_bitsOf v_turnOf v_polyOf v_beginOf v_finishOf v_isLow v_weightsOf v_weight v_cell v_size v_row v_keptSize v_keptBefore v_keptAfter v_placeA v_placeB v_turned v_turnedMany v_syndromes v_lightest v_freeMany v_freePlace o15.2 v_ways v_waysKept v_trace v_comesA v_comesB) H := hP
      have hD : va_D A (ww_M q cs v_told v_tell v_sums v_kindOf v_modOf v_bitsOf v_turnOf v_polyOf v_beginOf v_finishOf v_isLow v_weightsOf v_weight v_cell v_size v_row v_keptSize v_keptBefore v_keptAfter v_placeA v_placeB v_turned v_turnedMany v_syndromes v_lightest v_freeMany v_freePlace o15.2 v_ways v_waysKept v_trace v_comesA v_comesB) := hD
      refine lv_iconst (v := 0) hx hb dX12_aim_143 (by decide) ?_
      refine lv_istore (lv' := [(8, .int 0), (0, .ref (q 0)), (5, .long (r7 ^^^ x2)), (7, .int o15.1)]) hx hb dX12_aim_144 hl (by decide) rfl (fun ls hl => ?_)
      refine lv_aload_n hx hb dX12_aim_146 rfl (lv_at hl 1 rfl) ?_
      refine lv_iconst (v := 0) hx hb dX12_aim_147 (by decide) ?_
      refine va_put (D := G) (ci := 10) (v := .int 0) (ty := .int) (C := RX12) (T := TX12) (N := 33) hx hb hts hinX12 tyX12 tyX12_ok nmX12 hown hK.1 hP hD hS 0 rfl rfl 29 (by decide) wd6 (fun _ h9 => h9) rfl (by decide +kernel) rfl rfl (Nat.le_of_ble_eq_true rfl) dX12_aim_148 (fun H locs hP hD hS => ?_)
      have hP : va_P G vwCl (ww_M q cs v_told v_tell v_sums v_kindOf v_modOf v_bitsOf v_turnOf v_polyOf v_beginOf v_finishOf v_isLow v_weightsOf v_weight v_cell v_size v_row v_keptSize v_keptBefore v_keptAfter v_placeA v_placeB v_turned v_turnedMany v_syndromes v_lightest v_freeMany v_freePlace o15.2 v_ways 0 v_trace v_comesA v_comesB) H := hP
      have hD : va_D A (ww_M q cs v_told v_tell v_sums v_kindOf v_modOf v_bitsOf v_turnOf v_polyOf v_beginOf v_finishOf v_isLow v_weightsOf v_weight v_cell v_size v_row v_keptSize v_keptBefore v_keptAfter v_placeA v_placeB v_turned v_turnedMany v_syndromes v_lightest v_freeMany v_freePlace o15.2 v_ways 0 v_trace v_comesA v_comesB) := hD
      refine lv_iconst (v := 0) hx hb dX12_aim_151 (by decide) ?_
      refine lv_istore (lv' := [(9, .int 0), (8, .int 0), (0, .ref (q 0)), (5, .long (r7 ^^^ x2)), (7, .int o15.1)]) hx hb dX12_aim_152 hl (by decide) rfl (fun ls hl => ?_)
      obtain ⟨o25, hlp25, hm⟩ := bs hm
      refine L154 (r7 ^^^ x2) o15.1 (0 : Int32) (0 : Int32) o15.2 v_ways (0 : Int32) o25 hlp25 (fun oo ho => ?_) H locs hP hD hS ls (lv_sub hl [2, 3, 4, 1, 0] rfl)
      subst ho
      intro H locs hP hD hS ls hl
      have hl : lv_has ls 13 [(8, .int o25.1)] := hl
      have hP : va_P G vwCl (ww_M q cs v_told v_tell v_sums v_kindOf v_modOf v_bitsOf v_turnOf v_polyOf v_beginOf v_finishOf v_isLow v_weightsOf v_weight v_cell v_size v_row v_keptSize v_keptBefore v_keptAfter v_placeA v_placeB v_turned v_turnedMany v_syndromes v_lightest v_freeMany v_freePlace o15.2 o25.2.1 o25.2.2 v_trace v_comesA v_comesB) H := hP
      have hD : va_D A (ww_M q cs v_told v_tell v_sums v_kindOf v_modOf v_bitsOf v_turnOf v_polyOf v_beginOf v_finishOf v_isLow v_weightsOf v_weight v_cell v_size v_row v_keptSize v_keptBefore v_keptAfter v_placeA v_placeB v_turned v_turnedMany v_syndromes v_lightest v_freeMany v_freePlace o15.2 o25.2.1 o25.2.2 v_trace v_comesA v_comesB) := hD
      refine lv_iload hx hb dX12_aim_265 (lv_at hl 0 rfl) ?_
      have hq := Option.some.inj hm
      subst hq; subst hQ
      exact k_iret hx hb hr hlocks hP hD hS rfl trivial dX12_aim_267
    · have hm := i_t b6 hm
      refine lv_bipush (v := (-3)) hx hb dX12_aim_28 (by decide) ?_
      have hq := Option.some.inj hm
      subst hq; subst hQ
      exact k_iret hx hb hr hlocks hP hD hS rfl trivial dX12_aim_30
  · have hm := i_f b3 hm
    refine lv_iload hx hb dX12_aim_12 (lv_at hl 0 rfl) ?_
    have hq := Option.some.inj hm
    subst hq; subst hQ
    exact k_iret hx hb hr hlocks hP hD hS rfl trivial dX12_aim_14

theorem hd_X12_way : yX12_way.cls ≠ "java/lang/invoke/MethodHandle" ∧ yX12_way.cls ≠ "java/lang/invoke/VarHandle" ∧ (parseMethodDescriptor yX12_way.desc).map (fun d => d.parameters.length) = some 1 := by decide +kernel

def M_X12_way (x1 : Int32) (v_ways : (Nat → Int32)) (v_waysKept : Int32) : Option Int32 :=
  if (M_X12_in x1.toInt64 (0 : Int64) ((v_waysKept - 1).toInt64)) = 0 then (some (-1)) else (if x1 < 0 ∨ 64 ≤ x1.toNatClampNeg then none else some (v_ways x1.toNatClampNeg))

abbrev rmX12_way : Room := { frames := 1, cells := 0, slots := 0, locals := 25 }
set_option maxHeartbeats 4000000 in
set_option maxRecDepth 100000 in
theorem c_X12_way (l : Launch) (G : va_G) (cs : CS) (q : Nat → Nat) (sz : Nat) (v_told : Int32) (v_tell : (Nat → Int32)) (v_sums : Int32) (v_kindOf : (Nat → Int32)) (v_modOf : (Nat → Int32)) (v_bitsOf : (Nat → Int32)) (v_turnOf : (Nat → Int32)) (v_polyOf : (Nat → Int64)) (v_beginOf : (Nat → Int64)) (v_finishOf : (Nat → Int64)) (v_isLow : (Nat → Int32)) (v_weightsOf : (Nat → Int32)) (v_weight : (Nat → Int32)) (v_cell : (Nat → Int32)) (v_size : Int32) (v_row : (Nat → Int32)) (v_keptSize : Int32) (v_keptBefore : (Nat → Int32)) (v_keptAfter : (Nat → Int32)) (v_placeA : (Nat → Int64)) (v_placeB : (Nat → Int64)) (v_turned : (Nat → Int32)) (v_turnedMany : Int32) (v_syndromes : (Nat → Int64)) (v_lightest : (Nat → Int32)) (v_freeMany : Int32) (v_freePlace : (Nat → Int32)) (v_freeSyndrome : (Nat → Int64)) (v_ways : (Nat → Int32)) (v_waysKept : Int32) (v_trace : (Nat → Int32)) (v_comesA : Int64) (v_comesB : Int64)   (x1 : Int32) (res : Int32) (hm : M_X12_way x1 v_ways v_waysKept = some res) : Met l yX12_way wsX12_way rmX12_way (va_Pc [.ref (q 0), .int x1] (PreW G cs sz (ww_M q cs v_told v_tell v_sums v_kindOf v_modOf v_bitsOf v_turnOf v_polyOf v_beginOf v_finishOf v_isLow v_weightsOf v_weight v_cell v_size v_row v_keptSize v_keptBefore v_keptAfter v_placeA v_placeB v_turned v_turnedMany v_syndromes v_lightest v_freeMany v_freePlace v_freeSyndrome v_ways v_waysKept v_trace v_comesA v_comesB) RN)) (QI G res True (ww_M q cs v_told v_tell v_sums v_kindOf v_modOf v_bitsOf v_turnOf v_polyOf v_beginOf v_finishOf v_isLow v_weightsOf v_weight v_cell v_size v_row v_keptSize v_keptBefore v_keptAfter v_placeA v_placeB v_turned v_turnedMany v_syndromes v_lightest v_freeMany v_freePlace v_freeSyndrome v_ways v_waysKept v_trace v_comesA v_comesB) (va_A (ww_M q cs v_told v_tell v_sums v_kindOf v_modOf v_bitsOf v_turnOf v_polyOf v_beginOf v_finishOf v_isLow v_weightsOf v_weight v_cell v_size v_row v_keptSize v_keptBefore v_keptAfter v_placeA v_placeB v_turned v_turnedMany v_syndromes v_lightest v_freeMany v_freePlace v_freeSyndrome v_ways v_waysKept v_trace v_comesA v_comesB) sz)) 0 0 (va_A (ww_M q cs v_told v_tell v_sums v_kindOf v_modOf v_bitsOf v_turnOf v_polyOf v_beginOf v_finishOf v_isLow v_weightsOf v_weight v_cell v_size v_row v_keptSize v_keptBefore v_keptAfter v_placeA v_placeB v_turned v_turnedMany v_syndromes v_lightest v_freeMany v_freePlace v_freeSyndrome v_ways v_waysKept v_trace v_comesA v_comesB) sz) := by
  refine k_enter (Qf := fun A => QI G res True (ww_M q cs v_told v_tell v_sums v_kindOf v_modOf v_bitsOf v_turnOf v_polyOf v_beginOf v_finishOf v_isLow v_weightsOf v_weight v_cell v_size v_row v_keptSize v_keptBefore v_keptAfter v_placeA v_placeB v_turned v_turnedMany v_syndromes v_lightest v_freeMany v_freePlace v_freeSyndrome v_ways v_waysKept v_trace v_comesA v_comesB) A) (cc := cX12_way) (maxL := 2) (ret := (some .int)) (plainFor_of_name (by decide)) rfl (Nat.le_of_ble_eq_true rfl) ?_
  intro p e s m args below meth c A Q ls H locs hx hb hr hml hown hts hlocks hname hK hA hRo hP hD hS hQ hl
  have hl : lv_has ls 2 [(0, .ref (q 0)), (1, .int x1)] := hl
  have wd1 := hts (.fieldLink RX12 263 "SumSmithModel" "waysKept" "I") (List.mem_of_getElem? (i := 1) rfl)
  have wd2 := hts (.fieldLink RX12 78 "SumSmithModel" "ways" "[I") (List.mem_of_getElem? (i := 2) rfl)
  have hinX12 : ∀ w ∈ wsX120, w ∈ wsX12_way := fun w h => List.mem_cons_of_mem _ (List.mem_append_right _ h)
  unfold M_X12_way at hm
  refine lv_iload_n hx hb dX12_way_0 rfl (lv_at hl 1 rfl) ?_
  refine lv_i2l (v := x1.toInt64) hx hb dX12_way_1 rfl ?_
  refine lv_lconst (v := 0) hx hb dX12_way_2 (by decide) ?_
  refine lv_aload_n hx hb dX12_way_3 rfl (lv_at hl 0 rfl) ?_
  refine va_get (D := G) (ci := 10) (v := .int v_waysKept) (C := RX12) (T := TX12) (N := 33) hx hb hts hinX12 hown hK.1 hP 0 rfl rfl 29 (by decide) wd1 (fun _ h9 => h9) rfl dX12_way_4 ?_
  refine lv_iconst (v := 1) hx hb dX12_way_7 (by decide) ?_
  refine lv_isub hx hb dX12_way_8 ?_
  refine lv_i2l (v := (v_waysKept - 1).toInt64) hx hb dX12_way_9 rfl ?_
  refine k_calli0 (va_runS (As := [.long x1.toInt64, .long 0, .long ((v_waysKept - 1).toInt64)]) (rest := []) ⟨hx, hb, hml, hown, hts⟩ (c_X12_in l G cs H.size    x1.toInt64 (0 : Int64) ((v_waysKept - 1).toInt64) _ rfl) (va_cwS 3 hts gX12_way_X12_in rfl rfl rfl hd_X12_in ⟨Nat.le_of_ble_eq_true rfl, Nat.le_of_ble_eq_true rfl⟩) ⟨pre_blind, pre_w hK RO.nil P0 D0 (va_new0 hS hA)⟩ rfl rfl hl.1 rfl (lv_room (Nat.le_of_ble_eq_true rfl)) dX12_way_10 ⟨Nat.zero_le _, Nat.zero_le _⟩) hP hS hA (fun hE1 H locs hP hS => ?_)
  refine lv_if_eq (tgt := 25) hx hb dX12_way_13 (by decide) (fun b2 => ?_) (fun b2 => ?_)
  · have hm := i_t b2 hm
    refine lv_iconst (v := (-1)) hx hb dX12_way_25 (by decide) ?_
    have hq := Option.some.inj hm
    subst hq; subst hQ
    exact k_iret hx hb hr hlocks hP hD hS rfl trivial dX12_way_26
  · have hm := i_f b2 hm
    refine lv_aload_n hx hb dX12_way_16 rfl (lv_at hl 0 rfl) ?_
    refine va_get (D := G) (ci := 10) (v := .ref (q 23)) (C := RX12) (T := TX12) (N := 33) hx hb hts hinX12 hown hK.1 hP 0 rfl rfl 28 (by decide) wd2 (fun _ h9 => h9) rfl dX12_way_17 ?_
    refine lv_iload_n hx hb dX12_way_20 rfl (lv_at hl 1 rfl) ?_
    obtain ⟨h3, hm⟩ := g_in hm
    refine va_iald hx hb hK.1 hP 23 0 rfl rfl h3 dX12_way_21 ?_
    refine lv_goto (tgt := 26) hx hb dX12_way_22 (by decide) ?_
    have hq := Option.some.inj hm
    subst hq; subst hQ
    exact k_iret hx hb hr hlocks hP hD hS rfl trivial dX12_way_26

theorem hd_X12_best : yX12_best.cls ≠ "java/lang/invoke/MethodHandle" ∧ yX12_best.cls ≠ "java/lang/invoke/VarHandle" ∧ (parseMethodDescriptor yX12_best.desc).map (fun d => d.parameters.length) = some 2 := by decide +kernel

def M_X12_best_b83 (n : Nat) (x1 : Int32) (x2 : Int32) (x6 : Int32) (x7 : Int32) (x8 : Int64) (x10 : Int32) : Option ((Int64 × Int32) ⊕ Int64) :=
  if (8 * ((x2 - 1) - (x7 / 8))) ≤ x10 then (some (.inr x8)) else (some (.inl ((M_X12_step x8 (0 : Int32) x1 x6.toInt64), x10 + 1)))

def M_X12_best_b51 (n : Nat) (x1 : Int32) (x2 : Int32) (x6 : Int32) (x7 : Int32) (v_syndromes : (Nat → Int64)) : Option ((Int32 × (Nat → Int64)) ⊕ (Nat → Int64)) :=
  if (8 * x2) ≤ x7 then (some (.inr v_syndromes)) else ((M_X12_stepByte n (0 : Int64) ((128 : Int32) >>> ((x7 - x7 / 8 * 8) &&& 31)) x1 x6.toInt64 (0 : Int32)).bind fun r7 => (lp (fun x : (Int64 × Int32) => M_X12_best_b83 n x1 x2 x6 x7 x.1 x.2) n (r7, (0 : Int32))).bind fun o9 => if x7 < 0 ∨ 512 ≤ x7.toNatClampNeg then none else some (.inl (x7 + 1, (vp_updL v_syndromes x7.toNatClampNeg o9))))

def M_X12_best_b139 (n : Nat) (x2 : Int32) (v_syndromes : (Nat → Int64)) (x7 : Int32) (x8 : Int32) (v_lightest : (Nat → Int32)) : Option ((Int32 × Int32 × (Nat → Int32)) ⊕ (Int32 × Int32 × (Nat → Int32))) :=
  if x8 = 0 then (if 5 ≤ x7 then (some (.inr (x7, x8, v_lightest))) else (if 5 ≤ (x7 + 1) then (some (.inl (x7 + 1, 0, v_lightest))) else ((M_X12_setsOf n (x7 + 1) (8 * x2) (0 : Int32) v_syndromes v_lightest).bind fun r15 => some (.inl (x7 + 1, r15.1, r15.2))))) else (some (.inr (x7, x8, v_lightest)))

def M_X12_best_b40 (n : Nat) (x1 : Int32) (x2 : Int32) (x3 : Int32) (x4 : Int32) (x5 : Int32) (x6 : Int32) (v_syndromes : (Nat → Int64)) (v_lightest : (Nat → Int32)) : Option ((Int32 × Int32 × Int32 × Int32 × (Nat → Int64) × (Nat → Int32)) ⊕ (Int32 × (Nat → Int64) × (Nat → Int32))) :=
  if ((1 : Int32) <<< (x1 &&& 31)) ≤ x6 then (some (.inr (x3, v_syndromes, v_lightest))) else ((lp (fun x : (Int32 × (Nat → Int64)) => M_X12_best_b51 n x1 x2 x6 x.1 x.2) n ((0 : Int32), v_syndromes)).bind fun o11 => (lp (fun x : (Int32 × Int32 × (Nat → Int32)) => M_X12_best_b139 n x2 o11 x.1 x.2.1 x.2.2) n ((0 : Int32), (0 : Int32), v_lightest)).bind fun o17 => if x3 = (-1) then (some (.inl (x6, o17.1, o17.2.1, x6 + 2, o11, o17.2.2))) else (if x4 < o17.1 then (some (.inl (x6, o17.1, o17.2.1, x6 + 2, o11, o17.2.2))) else (if o17.1 = x4 then (if x5 ≤ o17.2.1 then (some (.inl (x3, x4, x5, x6 + 2, o11, o17.2.2))) else (some (.inl (x6, o17.1, o17.2.1, x6 + 2, o11, o17.2.2)))) else (some (.inl (x3, x4, x5, x6 + 2, o11, o17.2.2))))))

def M_X12_best (n : Nat) (x1 : Int32) (x2 : Int32) (v_syndromes : (Nat → Int64)) (v_lightest : (Nat → Int32)) : Option (Int32 × (Nat → Int64) × (Nat → Int32)) :=
  if (M_X12_in x1.toInt64 (3 : Int64) (8 : Int64)) = 0 then (some ((-3), v_syndromes, v_lightest)) else (if (M_X12_in x2.toInt64 (1 : Int64) (3 : Int64)) = 0 then (some ((-3), v_syndromes, v_lightest)) else ((lp (fun x : (Int32 × Int32 × Int32 × Int32 × (Nat → Int64) × (Nat → Int32)) => M_X12_best_b40 n x1 x2 x.1 x.2.1 x.2.2.1 x.2.2.2.1 x.2.2.2.2.1 x.2.2.2.2.2) n ((-1 : Int32), (0 : Int32), (0 : Int32), (1 : Int32), v_syndromes, v_lightest)).bind fun o22 => some (o22.1, o22.2.1, o22.2.2)))

abbrev rmX12_best : Room := { frames := 2, cells := 0, slots := 0, locals := 59 }
set_option maxHeartbeats 4000000 in
set_option maxRecDepth 100000 in
theorem c_X12_best (l : Launch) (G : va_G) (cs : CS) (q : Nat → Nat) (sz : Nat) (v_told : Int32) (v_tell : (Nat → Int32)) (v_sums : Int32) (v_kindOf : (Nat → Int32)) (v_modOf : (Nat → Int32)) (v_bitsOf : (Nat → Int32)) (v_turnOf : (Nat → Int32)) (v_polyOf : (Nat → Int64)) (v_beginOf : (Nat → Int64)) (v_finishOf : (Nat → Int64)) (v_isLow : (Nat → Int32)) (v_weightsOf : (Nat → Int32)) (v_weight : (Nat → Int32)) (v_cell : (Nat → Int32)) (v_size : Int32) (v_row : (Nat → Int32)) (v_keptSize : Int32) (v_keptBefore : (Nat → Int32)) (v_keptAfter : (Nat → Int32)) (v_placeA : (Nat → Int64)) (v_placeB : (Nat → Int64)) (v_turned : (Nat → Int32)) (v_turnedMany : Int32) (v_syndromes : (Nat → Int64)) (v_lightest : (Nat → Int32)) (v_freeMany : Int32) (v_freePlace : (Nat → Int32)) (v_freeSyndrome : (Nat → Int64)) (v_ways : (Nat → Int32)) (v_waysKept : Int32) (v_trace : (Nat → Int32)) (v_comesA : Int64) (v_comesB : Int64)   (x1 : Int32) (x2 : Int32) (n : Nat) (res : (Int32 × (Nat → Int64) × (Nat → Int32))) (hm : M_X12_best n x1 x2 v_syndromes v_lightest = some res) : Met l yX12_best wsX12_best rmX12_best (va_Pc [.ref (q 0), .int x1, .int x2] (PreW G cs sz (ww_M q cs v_told v_tell v_sums v_kindOf v_modOf v_bitsOf v_turnOf v_polyOf v_beginOf v_finishOf v_isLow v_weightsOf v_weight v_cell v_size v_row v_keptSize v_keptBefore v_keptAfter v_placeA v_placeB v_turned v_turnedMany v_syndromes v_lightest v_freeMany v_freePlace v_freeSyndrome v_ways v_waysKept v_trace v_comesA v_comesB) RN)) (QI G res.1 True (ww_M q cs v_told v_tell v_sums v_kindOf v_modOf v_bitsOf v_turnOf v_polyOf v_beginOf v_finishOf v_isLow v_weightsOf v_weight v_cell v_size v_row v_keptSize v_keptBefore v_keptAfter v_placeA v_placeB v_turned v_turnedMany res.2.1 res.2.2 v_freeMany v_freePlace v_freeSyndrome v_ways v_waysKept v_trace v_comesA v_comesB) (va_A (ww_M q cs v_told v_tell v_sums v_kindOf v_modOf v_bitsOf v_turnOf v_polyOf v_beginOf v_finishOf v_isLow v_weightsOf v_weight v_cell v_size v_row v_keptSize v_keptBefore v_keptAfter v_placeA v_placeB v_turned v_turnedMany v_syndromes v_lightest v_freeMany v_freePlace v_freeSyndrome v_ways v_waysKept v_trace v_comesA v_comesB) sz)) 0 0 (va_A (ww_M q cs v_told v_tell v_sums v_kindOf v_modOf v_bitsOf v_turnOf v_polyOf v_beginOf v_finishOf v_isLow v_weightsOf v_weight v_cell v_size v_row v_keptSize v_keptBefore v_keptAfter v_placeA v_placeB v_turned v_turnedMany v_syndromes v_lightest v_freeMany v_freePlace v_freeSyndrome v_ways v_waysKept v_trace v_comesA v_comesB) sz) := by
  refine k_enter (Qf := fun A => QI G res.1 True (ww_M q cs v_told v_tell v_sums v_kindOf v_modOf v_bitsOf v_turnOf v_polyOf v_beginOf v_finishOf v_isLow v_weightsOf v_weight v_cell v_size v_row v_keptSize v_keptBefore v_keptAfter v_placeA v_placeB v_turned v_turnedMany res.2.1 res.2.2 v_freeMany v_freePlace v_freeSyndrome v_ways v_waysKept v_trace v_comesA v_comesB) A) (cc := cX12_best) (maxL := 11) (ret := (some .int)) (plainFor_of_name (by decide)) rfl (Nat.le_of_ble_eq_true rfl) ?_
  intro p e s m args below meth c A Q ls H locs hx hb hr hml hown hts hlocks hname hK hA hRo hP hD hS hQ hl
  have hl : lv_has ls 11 [(0, .ref (q 0)), (1, .int x1), (2, .int x2)] := hl
  have wd1 := hts (.constantLong RX12 115 (3)) (List.mem_of_getElem? (i := 1) rfl)
  have wd2 := hts (.constantLong RX12 111 (8)) (List.mem_of_getElem? (i := 2) rfl)
  have wd3 := hts (.fieldLink RX12 66 "SumSmithModel" "syndromes" "[J") (List.mem_of_getElem? (i := 3) rfl)
  have hinX12 : ∀ w ∈ wsX120, w ∈ wsX12_best := fun w h => List.mem_cons_of_mem _ (List.mem_append_right _ h)
  have L83 : ∀ (x1 : Int32) (x2 : Int32) (x3 : Int32) (x4 : Int32) (x5 : Int32) (x6 : Int32) (x7 : Int32) (x8 : Int64) (x10 : Int32) (v_syndromes : (Nat → Int64)) (v_lightest : (Nat → Int32)) (out : Int64), lp (fun x : (Int64 × Int32) => M_X12_best_b83 n x1 x2 x6 x7 x.1 x.2) n (x8, x10) = some out → (∀ (o : Int64), out = o → ∀ (H : Heap) (locs : List Loc), va_P G vwCl (ww_M q cs v_told v_tell v_sums v_kindOf v_modOf v_bitsOf v_turnOf v_polyOf v_beginOf v_finishOf v_isLow v_weightsOf v_weight v_cell v_size v_row v_keptSize v_keptBefore v_keptAfter v_placeA v_placeB v_turned v_turnedMany v_syndromes v_lightest v_freeMany v_freePlace v_freeSyndrome v_ways v_waysKept v_trace v_comesA v_comesB) H → va_D A (ww_M q cs v_told v_tell v_sums v_kindOf v_modOf v_bitsOf v_turnOf v_polyOf v_beginOf v_finishOf v_isLow v_weightsOf v_weight v_cell v_size v_row v_keptSize v_keptBefore v_keptAfter v_placeA v_placeB v_turned v_turnedMany v_syndromes v_lightest v_freeMany v_freePlace v_freeSyndrome v_ways v_waysKept v_trace v_comesA v_comesB) → va_S A s.heap H locs → ∀ (ls : Array Slot), lv_has ls 11 [(0, .ref (q 0)), (1, .int x1), (2, .int x2), (3, .int x3), (4, .int x4), (5, .int x5), (6, .int x6), (7, .int x7), (8, .long o)] → W p l e rmX12_best s m args below meth c H locs 0 0 Q (F0 m 118 ls [])) → ∀ (H : Heap) (locs : List Loc), va_P G vwCl (ww_M q cs v_told v_tell v_sums v_kindOf v_modOf v_bitsOf v_turnOf v_polyOf v_beginOf v_finishOf v_isLow v_weightsOf v_weight v_cell v_size v_row v_keptSize v_keptBefore v_keptAfter v_placeA v_placeB v_turned v_turnedMany v_syndromes v_lightest v_freeMany v_freePlace v_freeSyndrome v_ways v_waysKept v_trace v_comesA v_comesB) H → va_D A (ww_M q cs v_told v_tell v_sums v_kindOf v_modOf v_bitsOf v_turnOf v_polyOf v_beginOf v_finishOf v_isLow v_weightsOf v_weight v_cell v_size v_row v_keptSize v_keptBefore v_keptAfter v_placeA v_placeB v_turned v_turnedMany v_syndromes v_lightest v_freeMany v_freePlace v_freeSyndrome v_ways v_waysKept v_trace v_comesA v_comesB) → va_S A s.heap H locs → ∀ (ls : Array Slot), lv_has ls 11 [(0, .ref (q 0)), (1, .int x1), (2, .int x2), (3, .int x3), (4, .int x4), (5, .int x5), (6, .int x6), (7, .int x7), (8, .long x8), (10, .int x10)] → W p l e rmX12_best s m args below meth c H locs 0 0 Q (F0 m 83 ls []) := by
    intro x1 x2 x3 x4 x5 x6 x7 x8 x10 v_syndromes v_lightest out hlp hX
    refine lp_ind (fun x => ∀ (H : Heap) (locs : List Loc), va_P G vwCl (ww_M q cs v_told v_tell v_sums v_kindOf v_modOf v_bitsOf v_turnOf v_polyOf v_beginOf v_finishOf v_isLow v_weightsOf v_weight v_cell v_size v_row v_keptSize v_keptBefore v_keptAfter v_placeA v_placeB v_turned v_turnedMany v_syndromes v_lightest v_freeMany v_freePlace v_freeSyndrome v_ways v_waysKept v_trace v_comesA v_comesB) H → va_D A (ww_M q cs v_told v_tell v_sums v_kindOf v_modOf v_bitsOf v_turnOf v_polyOf v_beginOf v_finishOf v_isLow v_weightsOf v_weight v_cell v_size v_row v_keptSize v_keptBefore v_keptAfter v_placeA v_placeB v_turned v_turnedMany v_syndromes v_lightest v_freeMany v_freePlace v_freeSyndrome v_ways v_waysKept v_trace v_comesA v_comesB) → va_S A s.heap H locs → ∀ (ls : Array Slot), lv_has ls 11 [(0, .ref (q 0)), (1, .int x1), (2, .int x2), (3, .int x3), (4, .int x4), (5, .int x5), (6, .int x6), (7, .int x7), (8, .long x.1), (10, .int x.2)] → W p l e rmX12_best s m args below meth c H locs 0 0 Q (F0 m 83 ls [])) ?_ n (x8, x10) hlp
    clear hlp hP hD hS hl
    rintro ⟨x8, x10⟩ ob hm hst H locs hP hD hS ls hl
    have hm : M_X12_best_b83 n x1 x2 x6 x7 x8 x10 = some ob := hm
    have hl : lv_has ls 11 [(0, .ref (q 0)), (1, .int x1), (2, .int x2), (3, .int x3), (4, .int x4), (5, .int x5), (6, .int x6), (7, .int x7), (8, .long x8), (10, .int x10)] := hl
    have hP : va_P G vwCl (ww_M q cs v_told v_tell v_sums v_kindOf v_modOf v_bitsOf v_turnOf v_polyOf v_beginOf v_finishOf v_isLow v_weightsOf v_weight v_cell v_size v_row v_keptSize v_keptBefore v_keptAfter v_placeA v_placeB v_turned v_turnedMany v_syndromes v_lightest v_freeMany v_freePlace v_freeSyndrome v_ways v_waysKept v_trace v_comesA v_comesB) H := hP
    have hD : va_D A (ww_M q cs v_told v_tell v_sums v_kindOf v_modOf v_bitsOf v_turnOf v_polyOf v_beginOf v_finishOf v_isLow v_weightsOf v_weight v_cell v_size v_row v_keptSize v_keptBefore v_keptAfter v_placeA v_placeB v_turned v_turnedMany v_syndromes v_lightest v_freeMany v_freePlace v_freeSyndrome v_ways v_waysKept v_trace v_comesA v_comesB) := hD
    unfold M_X12_best_b83 at hm
    refine lv_iload hx hb dX12_best_83 (lv_at hl 9 rfl) ?_
    refine lv_bipush (v := 8) hx hb dX12_best_85 (by decide) ?_
    refine lv_iload_n hx hb dX12_best_87 rfl (lv_at hl 2 rfl) ?_
    refine lv_iconst (v := 1) hx hb dX12_best_88 (by decide) ?_
    refine lv_isub hx hb dX12_best_89 ?_
    refine lv_iload hx hb dX12_best_90 (lv_at hl 7 rfl) ?_
    refine lv_bipush (v := 8) hx hb dX12_best_92 (by decide) ?_
    refine lv_idiv hx hb dX12_best_94 (by decide) ?_
    refine lv_isub hx hb dX12_best_95 ?_
    refine lv_imul hx hb dX12_best_96 ?_
    refine lv_icmp_ge (tgt := 118) hx hb dX12_best_97 (by decide) (fun b8 => ?_) (fun b8 => ?_)
    · have hm := i_t b8 hm
      exact hX _ (st_exit hm hst) H locs hP hD hS ls (lv_sub hl [0, 1, 2, 3, 4, 5, 6, 7, 8] rfl)
    · have hm := i_f b8 hm
      refine lv_lload hx hb dX12_best_100 (lv_at hl 8 rfl) ?_
      refine lv_iconst (v := 0) hx hb dX12_best_102 (by decide) ?_
      refine lv_iload_n hx hb dX12_best_103 rfl (lv_at hl 1 rfl) ?_
      refine lv_iload hx hb dX12_best_104 (lv_at hl 6 rfl) ?_
      refine lv_i2l (v := x6.toInt64) hx hb dX12_best_106 rfl ?_
      refine k_calll0 (va_runS (As := [.long x8, .int 0, .int x1, .long x6.toInt64]) (rest := []) ⟨hx, hb, hml, hown, hts⟩ (c_X12_step l G cs H.size    x8 (0 : Int32) x1 x6.toInt64 _ rfl) (va_cwS 4 hts gX12_best_X12_step rfl rfl rfl hd_X12_step ⟨Nat.le_of_ble_eq_true rfl, Nat.le_of_ble_eq_true rfl⟩) ⟨pre_blind, pre_w hK RO.nil P0 D0 (va_new0 hS hA)⟩ rfl rfl hl.1 rfl (lv_room (Nat.le_of_ble_eq_true rfl)) dX12_best_107 ⟨Nat.zero_le _, Nat.zero_le _⟩) hP hS hA (fun H locs hP hS => ?_)
      refine lv_lstore (lv' := [(8, .long (M_X12_step x8 (0 : Int32) x1 x6.toInt64)), (0, .ref (q 0)), (1, .int x1), (2, .int x2), (3, .int x3), (4, .int x4), (5, .int x5), (6, .int x6), (7, .int x7), (10, .int x10)]) hx hb dX12_best_110 hl (by decide) rfl (fun ls hl => ?_)
      refine lv_iinc (v := x10 + 1) (lv' := [(10, .int (x10 + 1)), (8, .long (M_X12_step x8 (0 : Int32) x1 x6.toInt64)), (0, .ref (q 0)), (1, .int x1), (2, .int x2), (3, .int x3), (4, .int x4), (5, .int x5), (6, .int x6), (7, .int x7)]) hx hb dX12_best_112 hl (k := 9) rfl rfl (by decide) rfl (fun ls hl => ?_)
      refine lv_goto (tgt := 83) hx hb dX12_best_115 (by decide) ?_
      exact st_next hm hst H locs hP hD hS ls (lv_sub hl [2, 3, 4, 5, 6, 7, 8, 9, 1, 0] rfl)
  have L51 : ∀ (x1 : Int32) (x2 : Int32) (x3 : Int32) (x4 : Int32) (x5 : Int32) (x6 : Int32) (x7 : Int32) (v_syndromes : (Nat → Int64)) (v_lightest : (Nat → Int32)) (out : (Nat → Int64)), lp (fun x : (Int32 × (Nat → Int64)) => M_X12_best_b51 n x1 x2 x6 x.1 x.2) n (x7, v_syndromes) = some out → (∀ (o : (Nat → Int64)), out = o → ∀ (H : Heap) (locs : List Loc), va_P G vwCl (ww_M q cs v_told v_tell v_sums v_kindOf v_modOf v_bitsOf v_turnOf v_polyOf v_beginOf v_finishOf v_isLow v_weightsOf v_weight v_cell v_size v_row v_keptSize v_keptBefore v_keptAfter v_placeA v_placeB v_turned v_turnedMany o v_lightest v_freeMany v_freePlace v_freeSyndrome v_ways v_waysKept v_trace v_comesA v_comesB) H → va_D A (ww_M q cs v_told v_tell v_sums v_kindOf v_modOf v_bitsOf v_turnOf v_polyOf v_beginOf v_finishOf v_isLow v_weightsOf v_weight v_cell v_size v_row v_keptSize v_keptBefore v_keptAfter v_placeA v_placeB v_turned v_turnedMany o v_lightest v_freeMany v_freePlace v_freeSyndrome v_ways v_waysKept v_trace v_comesA v_comesB) → va_S A s.heap H locs → ∀ (ls : Array Slot), lv_has ls 11 [(0, .ref (q 0)), (1, .int x1), (2, .int x2), (3, .int x3), (4, .int x4), (5, .int x5), (6, .int x6)] → W p l e rmX12_best s m args below meth c H locs 0 0 Q (F0 m 133 ls [])) → ∀ (H : Heap) (locs : List Loc), va_P G vwCl (ww_M q cs v_told v_tell v_sums v_kindOf v_modOf v_bitsOf v_turnOf v_polyOf v_beginOf v_finishOf v_isLow v_weightsOf v_weight v_cell v_size v_row v_keptSize v_keptBefore v_keptAfter v_placeA v_placeB v_turned v_turnedMany v_syndromes v_lightest v_freeMany v_freePlace v_freeSyndrome v_ways v_waysKept v_trace v_comesA v_comesB) H → va_D A (ww_M q cs v_told v_tell v_sums v_kindOf v_modOf v_bitsOf v_turnOf v_polyOf v_beginOf v_finishOf v_isLow v_weightsOf v_weight v_cell v_size v_row v_keptSize v_keptBefore v_keptAfter v_placeA v_placeB v_turned v_turnedMany v_syndromes v_lightest v_freeMany v_freePlace v_freeSyndrome v_ways v_waysKept v_trace v_comesA v_comesB) → va_S A s.heap H locs → ∀ (ls : Array Slot), lv_has ls 11 [(0, .ref (q 0)), (1, .int x1), (2, .int x2), (3, .int x3), (4, .int x4), (5, .int x5), (6, .int x6), (7, .int x7)] → W p l e rmX12_best s m args below meth c H locs 0 0 Q (F0 m 51 ls []) := by
    intro x1 x2 x3 x4 x5 x6 x7 v_syndromes v_lightest out hlp hX
    refine lp_ind (fun x => ∀ (H : Heap) (locs : List Loc), va_P G vwCl (ww_M q cs v_told v_tell v_sums v_kindOf v_modOf v_bitsOf v_turnOf v_polyOf v_beginOf v_finishOf v_isLow v_weightsOf v_weight v_cell v_size v_row v_keptSize v_keptBefore v_keptAfter v_placeA v_placeB v_turned v_turnedMany x.2 v_lightest v_freeMany v_freePlace v_freeSyndrome v_ways v_waysKept v_trace v_comesA v_comesB) H → va_D A (ww_M q cs v_told v_tell v_sums v_kindOf v_modOf v_bitsOf v_turnOf v_polyOf v_beginOf v_finishOf v_isLow v_weightsOf v_weight v_cell v_size v_row v_keptSize v_keptBefore v_keptAfter v_placeA v_placeB v_turned v_turnedMany x.2 v_lightest v_freeMany v_freePlace v_freeSyndrome v_ways v_waysKept v_trace v_comesA v_comesB) → va_S A s.heap H locs → ∀ (ls : Array Slot), lv_has ls 11 [(0, .ref (q 0)), (1, .int x1), (2, .int x2), (3, .int x3), (4, .int x4), (5, .int x5), (6, .int x6), (7, .int x.1)] → W p l e rmX12_best s m args below meth c H locs 0 0 Q (F0 m 51 ls [])) ?_ n (x7, v_syndromes) hlp
    clear hlp hP hD hS hl
    rintro ⟨x7, v_syndromes⟩ ob hm hst H locs hP hD hS ls hl
    have hm : M_X12_best_b51 n x1 x2 x6 x7 v_syndromes = some ob := hm
    have hl : lv_has ls 11 [(0, .ref (q 0)), (1, .int x1), (2, .int x2), (3, .int x3), (4, .int x4), (5, .int x5), (6, .int x6), (7, .int x7)] := hl
    have hP : va_P G vwCl (ww_M q cs v_told v_tell v_sums v_kindOf v_modOf v_bitsOf v_turnOf v_polyOf v_beginOf v_finishOf v_isLow v_weightsOf v_weight v_cell v_size v_row v_keptSize v_keptBefore v_keptAfter v_placeA v_placeB v_turned v_turnedMany v_syndromes v_lightest v_freeMany v_freePlace v_freeSyndrome v_ways v_waysKept v_trace v_comesA v_comesB) H := hP
    have hD : va_D A (ww_M q cs v_told v_tell v_sums v_kindOf v_modOf v_bitsOf v_turnOf v_polyOf v_beginOf v_finishOf v_isLow v_weightsOf v_weight v_cell v_size v_row v_keptSize v_keptBefore v_keptAfter v_placeA v_placeB v_turned v_turnedMany v_syndromes v_lightest v_freeMany v_freePlace v_freeSyndrome v_ways v_waysKept v_trace v_comesA v_comesB) := hD
    unfold M_X12_best_b51 at hm
    refine lv_iload hx hb dX12_best_51 (lv_at hl 7 rfl) ?_
    refine lv_bipush (v := 8) hx hb dX12_best_53 (by decide) ?_
    refine lv_iload_n hx hb dX12_best_55 rfl (lv_at hl 2 rfl) ?_
    refine lv_imul hx hb dX12_best_56 ?_
    refine lv_icmp_ge (tgt := 133) hx hb dX12_best_57 (by decide) (fun b6 => ?_) (fun b6 => ?_)
    · have hm := i_t b6 hm
      exact hX _ (st_exit hm hst) H locs hP hD hS ls (lv_sub hl [0, 1, 2, 3, 4, 5, 6] rfl)
    · have hm := i_f b6 hm
      refine lv_lconst (v := 0) hx hb dX12_best_60 (by decide) ?_
      refine lv_sipush (v := 128) hx hb dX12_best_61 (by decide) ?_
      refine lv_iload hx hb dX12_best_64 (lv_at hl 7 rfl) ?_
      refine lv_bipush (v := 8) hx hb dX12_best_66 (by decide) ?_
      refine lv_irem hx hb dX12_best_68 (by decide) ?_
      refine lv_ishr hx hb dX12_best_69 ?_
      refine lv_iload_n hx hb dX12_best_70 rfl (lv_at hl 1 rfl) ?_
      refine lv_iload hx hb dX12_best_71 (lv_at hl 6 rfl) ?_
      refine lv_i2l (v := x6.toInt64) hx hb dX12_best_73 rfl ?_
      refine lv_iconst (v := 0) hx hb dX12_best_74 (by decide) ?_
      obtain ⟨r7, hc_r7, hm⟩ := bs hm
      refine k_calll0 (va_runS (As := [.long 0, .int ((128 : Int32) >>> ((x7 - x7 / 8 * 8) &&& 31)), .int x1, .long x6.toInt64, .int 0]) (rest := []) ⟨hx, hb, hml, hown, hts⟩ (c_X12_stepByte l G cs H.size    (0 : Int64) ((128 : Int32) >>> ((x7 - x7 / 8 * 8) &&& 31)) x1 x6.toInt64 (0 : Int32) n r7 hc_r7) (va_cwS 5 hts gX12_best_X12_stepByte rfl rfl rfl hd_X12_stepByte ⟨Nat.le_of_ble_eq_true rfl, Nat.le_of_ble_eq_true rfl⟩) ⟨pre_blind, pre_w hK RO.nil P0 D0 (va_new0 hS hA)⟩ rfl rfl hl.1 rfl (lv_room (Nat.le_of_ble_eq_true rfl)) dX12_best_75 ⟨Nat.zero_le _, Nat.zero_le _⟩) hP hS hA (fun H locs hP hS => ?_)
      refine lv_lstore (lv' := [(8, .long r7), (0, .ref (q 0)), (1, .int x1), (2, .int x2), (3, .int x3), (4, .int x4), (5, .int x5), (6, .int x6), (7, .int x7)]) hx hb dX12_best_78 hl (by decide) rfl (fun ls hl => ?_)
      refine lv_iconst (v := 0) hx hb dX12_best_80 (by decide) ?_
      refine lv_istore (lv' := [(10, .int 0), (8, .long r7), (0, .ref (q 0)), (1, .int x1), (2, .int x2), (3, .int x3), (4, .int x4), (5, .int x5), (6, .int x6), (7, .int x7)]) hx hb dX12_best_81 hl (by decide) rfl (fun ls hl => ?_)
      obtain ⟨o9, hlp9, hm⟩ := bs hm
      refine L83 x1 x2 x3 x4 x5 x6 x7 r7 (0 : Int32) v_syndromes v_lightest o9 hlp9 (fun oo ho => ?_) H locs hP hD hS ls (lv_sub hl [2, 3, 4, 5, 6, 7, 8, 9, 1, 0] rfl)
      subst ho
      intro H locs hP hD hS ls hl
      have hl : lv_has ls 11 [(0, .ref (q 0)), (1, .int x1), (2, .int x2), (3, .int x3), (4, .int x4), (5, .int x5), (6, .int x6), (7, .int x7), (8, .long o9)] := hl
      have hP : va_P G vwCl (ww_M q cs v_told v_tell v_sums v_kindOf v_modOf v_bitsOf v_turnOf v_polyOf v_beginOf v_finishOf v_isLow v_weightsOf v_weight v_cell v_size v_row v_keptSize v_keptBefore v_keptAfter v_placeA v_placeB v_turned v_turnedMany v_syndromes v_lightest v_freeMany v_freePlace v_freeSyndrome v_ways v_waysKept v_trace v_comesA v_comesB) H := hP
      have hD : va_D A (ww_M q cs v_told v_tell v_sums v_kindOf v_modOf v_bitsOf v_turnOf v_polyOf v_beginOf v_finishOf v_isLow v_weightsOf v_weight v_cell v_size v_row v_keptSize v_keptBefore v_keptAfter v_placeA v_placeB v_turned v_turnedMany v_syndromes v_lightest v_freeMany v_freePlace v_freeSyndrome v_ways v_waysKept v_trace v_comesA v_comesB) := hD
      refine lv_aload_n hx hb dX12_best_118 rfl (lv_at hl 0 rfl) ?_
      refine va_get (D := G) (ci := 10) (v := .ref (q 19)) (C := RX12) (T := TX12) (N := 33) hx hb hts hinX12 hown hK.1 hP 0 rfl rfl 23 (by decide) wd3 (fun _ h9 => h9) rfl dX12_best_119 ?_
      refine lv_iload hx hb dX12_best_122 (lv_at hl 7 rfl) ?_
      refine lv_lload hx hb dX12_best_124 (lv_at hl 8 rfl) ?_
      obtain ⟨h10, hm⟩ := g_in hm
      refine va_last hx hb hK.1 hP hD hS 19 1 rfl rfl h10 dX12_best_126 (fun H locs hP hD hS => ?_)
      have hP : va_P G vwCl (ww_M q cs v_told v_tell v_sums v_kindOf v_modOf v_bitsOf v_turnOf v_polyOf v_beginOf v_finishOf v_isLow v_weightsOf v_weight v_cell v_size v_row v_keptSize v_keptBefore v_keptAfter v_placeA v_placeB v_turned v_turnedMany (vp_updL v_syndromes x7.toNatClampNeg o9) v_lightest v_freeMany v_freePlace v_freeSyndrome v_ways v_waysKept v_trace v_comesA v_comesB) H := hP
      have hD : va_D A (ww_M q cs v_told v_tell v_sums v_kindOf v_modOf v_bitsOf v_turnOf v_polyOf v_beginOf v_finishOf v_isLow v_weightsOf v_weight v_cell v_size v_row v_keptSize v_keptBefore v_keptAfter v_placeA v_placeB v_turned v_turnedMany (vp_updL v_syndromes x7.toNatClampNeg o9) v_lightest v_freeMany v_freePlace v_freeSyndrome v_ways v_waysKept v_trace v_comesA v_comesB) := hD
      refine lv_iinc (v := x7 + 1) (lv' := [(7, .int (x7 + 1)), (0, .ref (q 0)), (1, .int x1), (2, .int x2), (3, .int x3), (4, .int x4), (5, .int x5), (6, .int x6), (8, .long o9)]) hx hb dX12_best_127 hl (k := 7) rfl rfl (by decide) rfl (fun ls hl => ?_)
      refine lv_goto (tgt := 51) hx hb dX12_best_130 (by decide) ?_
      exact st_next hm hst H locs hP hD hS ls (lv_sub hl [1, 2, 3, 4, 5, 6, 7, 0] rfl)
  have L139 : ∀ (x1 : Int32) (x2 : Int32) (x3 : Int32) (x4 : Int32) (x5 : Int32) (x6 : Int32) (x7 : Int32) (x8 : Int32) (v_syndromes : (Nat → Int64)) (v_lightest : (Nat → Int32)) (out : (Int32 × Int32 × (Nat → Int32))), lp (fun x : (Int32 × Int32 × (Nat → Int32)) => M_X12_best_b139 n x2 v_syndromes x.1 x.2.1 x.2.2) n (x7, x8, v_lightest) = some out → (∀ (o : (Int32 × Int32 × (Nat → Int32))), out = o → ∀ (H : Heap) (locs : List Loc), va_P G vwCl (ww_M q cs v_told v_tell v_sums v_kindOf v_modOf v_bitsOf v_turnOf v_polyOf v_beginOf v_finishOf v_isLow v_weightsOf v_weight v_cell v_size v_row v_keptSize v_keptBefore v_keptAfter v_placeA v_placeB v_turned v_turnedMany v_syndromes o.2.2 v_freeMany v_freePlace v_freeSyndrome v_ways v_waysKept v_trace v_comesA v_comesB) H → va_D A (ww_M q cs v_told v_tell v_sums v_kindOf v_modOf v_bitsOf v_turnOf v_polyOf v_beginOf v_finishOf v_isLow v_weightsOf v_weight v_cell v_size v_row v_keptSize v_keptBefore v_keptAfter v_placeA v_placeB v_turned v_turnedMany v_syndromes o.2.2 v_freeMany v_freePlace v_freeSyndrome v_ways v_waysKept v_trace v_comesA v_comesB) → va_S A s.heap H locs → ∀ (ls : Array Slot), lv_has ls 11 [(0, .ref (q 0)), (1, .int x1), (2, .int x2), (3, .int x3), (4, .int x4), (5, .int x5), (6, .int x6), (7, .int o.1), (8, .int o.2.1)] → W p l e rmX12_best s m args below meth c H locs 0 0 Q (F0 m 179 ls [])) → ∀ (H : Heap) (locs : List Loc), va_P G vwCl (ww_M q cs v_told v_tell v_sums v_kindOf v_modOf v_bitsOf v_turnOf v_polyOf v_beginOf v_finishOf v_isLow v_weightsOf v_weight v_cell v_size v_row v_keptSize v_keptBefore v_keptAfter v_placeA v_placeB v_turned v_turnedMany v_syndromes v_lightest v_freeMany v_freePlace v_freeSyndrome v_ways v_waysKept v_trace v_comesA v_comesB) H → va_D A (ww_M q cs v_told v_tell v_sums v_kindOf v_modOf v_bitsOf v_turnOf v_polyOf v_beginOf v_finishOf v_isLow v_weightsOf v_weight v_cell v_size v_row v_keptSize v_keptBefore v_keptAfter v_placeA v_placeB v_turned v_turnedMany v_syndromes v_lightest v_freeMany v_freePlace v_freeSyndrome v_ways v_waysKept v_trace v_comesA v_comesB) → va_S A s.heap H locs → ∀ (ls : Array Slot), lv_has ls 11 [(0, .ref (q 0)), (1, .int x1), (2, .int x2), (3, .int x3), (4, .int x4), (5, .int x5), (6, .int x6), (7, .int x7), (8, .int x8)] → W p l e rmX12_best s m args below meth c H locs 0 0 Q (F0 m 139 ls []) := by
    intro x1 x2 x3 x4 x5 x6 x7 x8 v_syndromes v_lightest out hlp hX
    refine lp_ind (fun x => ∀ (H : Heap) (locs : List Loc), va_P G vwCl (ww_M q cs v_told v_tell v_sums v_kindOf v_modOf v_bitsOf v_turnOf v_polyOf v_beginOf v_finishOf v_isLow v_weightsOf v_weight v_cell v_size v_row v_keptSize v_keptBefore v_keptAfter v_placeA v_placeB v_turned v_turnedMany v_syndromes x.2.2 v_freeMany v_freePlace v_freeSyndrome v_ways v_waysKept v_trace v_comesA v_comesB) H → va_D A (ww_M q cs v_told v_tell v_sums v_kindOf v_modOf v_bitsOf v_turnOf v_polyOf v_beginOf v_finishOf v_isLow v_weightsOf v_weight v_cell v_size v_row v_keptSize v_keptBefore v_keptAfter v_placeA v_placeB v_turned v_turnedMany v_syndromes x.2.2 v_freeMany v_freePlace v_freeSyndrome v_ways v_waysKept v_trace v_comesA v_comesB) → va_S A s.heap H locs → ∀ (ls : Array Slot), lv_has ls 11 [(0, .ref (q 0)), (1, .int x1), (2, .int x2), (3, .int x3), (4, .int x4), (5, .int x5), (6, .int x6), (7, .int x.1), (8, .int x.2.1)] → W p l e rmX12_best s m args below meth c H locs 0 0 Q (F0 m 139 ls [])) ?_ n (x7, x8, v_lightest) hlp
    clear hlp hP hD hS hl
    rintro ⟨x7, x8, v_lightest⟩ ob hm hst H locs hP hD hS ls hl
    have hm : M_X12_best_b139 n x2 v_syndromes x7 x8 v_lightest = some ob := hm
    have hl : lv_has ls 11 [(0, .ref (q 0)), (1, .int x1), (2, .int x2), (3, .int x3), (4, .int x4), (5, .int x5), (6, .int x6), (7, .int x7), (8, .int x8)] := hl
    have hP : va_P G vwCl (ww_M q cs v_told v_tell v_sums v_kindOf v_modOf v_bitsOf v_turnOf v_polyOf v_beginOf v_finishOf v_isLow v_weightsOf v_weight v_cell v_size v_row v_keptSize v_keptBefore v_keptAfter v_placeA v_placeB v_turned v_turnedMany v_syndromes v_lightest v_freeMany v_freePlace v_freeSyndrome v_ways v_waysKept v_trace v_comesA v_comesB) H := hP
    have hD : va_D A (ww_M q cs v_told v_tell v_sums v_kindOf v_modOf v_bitsOf v_turnOf v_polyOf v_beginOf v_finishOf v_isLow v_weightsOf v_weight v_cell v_size v_row v_keptSize v_keptBefore v_keptAfter v_placeA v_placeB v_turned v_turnedMany v_syndromes v_lightest v_freeMany v_freePlace v_freeSyndrome v_ways v_waysKept v_trace v_comesA v_comesB) := hD
    unfold M_X12_best_b139 at hm
    refine lv_iload hx hb dX12_best_139 (lv_at hl 8 rfl) ?_
    refine lv_if_ne (tgt := 179) hx hb dX12_best_141 (by decide) (fun b12 => ?_) (fun b12 => ?_)
    · have hm := i_f b12 hm
      exact hX _ (st_exit hm hst) H locs hP hD hS ls (lv_sub hl [0, 1, 2, 3, 4, 5, 6, 7, 8] rfl)
    · have hm := i_t b12 hm
      refine lv_iload hx hb dX12_best_144 (lv_at hl 7 rfl) ?_
      refine lv_iconst (v := 5) hx hb dX12_best_146 (by decide) ?_
      refine lv_icmp_ge (tgt := 179) hx hb dX12_best_147 (by decide) (fun b13 => ?_) (fun b13 => ?_)
      · have hm := i_t b13 hm
        exact hX _ (st_exit hm hst) H locs hP hD hS ls (lv_sub hl [0, 1, 2, 3, 4, 5, 6, 7, 8] rfl)
      · have hm := i_f b13 hm
        refine lv_iinc (v := x7 + 1) (lv' := [(7, .int (x7 + 1)), (0, .ref (q 0)), (1, .int x1), (2, .int x2), (3, .int x3), (4, .int x4), (5, .int x5), (6, .int x6), (8, .int x8)]) hx hb dX12_best_150 hl (k := 7) rfl rfl (by decide) rfl (fun ls hl => ?_)
        refine lv_iload hx hb dX12_best_153 (lv_at hl 0 rfl) ?_
        refine lv_iconst (v := 5) hx hb dX12_best_155 (by decide) ?_
        refine lv_icmp_ge (tgt := 173) hx hb dX12_best_156 (by decide) (fun b14 => ?_) (fun b14 => ?_)
        · have hm := i_t b14 hm
          refine lv_iconst (v := 0) hx hb dX12_best_173 (by decide) ?_
          refine lv_istore (lv' := [(8, .int 0), (7, .int (x7 + 1)), (0, .ref (q 0)), (1, .int x1), (2, .int x2), (3, .int x3), (4, .int x4), (5, .int x5), (6, .int x6)]) hx hb dX12_best_174 hl (by decide) rfl (fun ls hl => ?_)
          refine lv_goto (tgt := 139) hx hb dX12_best_176 (by decide) ?_
          exact st_next hm hst H locs hP hD hS ls (lv_sub hl [2, 3, 4, 5, 6, 7, 8, 1, 0] rfl)
        · have hm := i_f b14 hm
          refine lv_aload_n hx hb dX12_best_159 rfl (lv_at hl 1 rfl) ?_
          refine lv_iload hx hb dX12_best_160 (lv_at hl 0 rfl) ?_
          refine lv_bipush (v := 8) hx hb dX12_best_162 (by decide) ?_
          refine lv_iload_n hx hb dX12_best_164 rfl (lv_at hl 3 rfl) ?_
          refine lv_imul hx hb dX12_best_165 ?_
          refine lv_iconst (v := 0) hx hb dX12_best_166 (by decide) ?_
          obtain ⟨r15, hc_r15, hm⟩ := bs hm
          refine k_calli (va_runV (As := [.int (x7 + 1), .int (8 * x2), .int 0]) (rest := []) ⟨hx, hb, hml, hown, hts⟩ (c_X12_setsOf l G cs q H.size v_told v_tell v_sums v_kindOf v_modOf v_bitsOf v_turnOf v_polyOf v_beginOf v_finishOf v_isLow v_weightsOf v_weight v_cell v_size v_row v_keptSize v_keptBefore v_keptAfter v_placeA v_placeB v_turned v_turnedMany v_syndromes v_lightest v_freeMany v_freePlace v_freeSyndrome v_ways v_waysKept v_trace v_comesA v_comesB   (x7 + 1) (8 * x2) (0 : Int32) n r15 hc_r15) (cwV 3 hts gX12_best_X12_setsOf rfl rfl rfl ⟨rfl, hd_X12_setsOf⟩ ⟨Nat.le_of_ble_eq_true rfl, Nat.le_of_ble_eq_true rfl⟩) ⟨pre_blind, va_recv hK.1 hP (ci := 10) (q0 := 0) rfl rfl, pre_w hK RO.nil hP hD (va_all hD hS hA)⟩ rfl rfl hl.1 rfl (lv_room (Nat.le_of_ble_eq_true rfl)) dX12_best_167 ⟨Nat.zero_le _, Nat.zero_le _⟩) hS (va_all hD hS hA) (fun hE16 H locs hP hD hS => ?_)
          have hP : va_P G vwCl (ww_M q cs v_told v_tell v_sums v_kindOf v_modOf v_bitsOf v_turnOf v_polyOf v_beginOf v_finishOf v_isLow v_weightsOf v_weight v_cell v_size v_row v_keptSize v_keptBefore v_keptAfter v_placeA v_placeB v_turned v_turnedMany v_syndromes r15.2 v_freeMany v_freePlace v_freeSyndrome v_ways v_waysKept v_trace v_comesA v_comesB) H := hP
          have hD : va_D A (ww_M q cs v_told v_tell v_sums v_kindOf v_modOf v_bitsOf v_turnOf v_polyOf v_beginOf v_finishOf v_isLow v_weightsOf v_weight v_cell v_size v_row v_keptSize v_keptBefore v_keptAfter v_placeA v_placeB v_turned v_turnedMany v_syndromes r15.2 v_freeMany v_freePlace v_freeSyndrome v_ways v_waysKept v_trace v_comesA v_comesB) := hD
          refine lv_goto (tgt := 174) hx hb dX12_best_170 (by decide) ?_
          refine lv_istore (lv' := [(8, .int r15.1), (7, .int (x7 + 1)), (0, .ref (q 0)), (1, .int x1), (2, .int x2), (3, .int x3), (4, .int x4), (5, .int x5), (6, .int x6)]) hx hb dX12_best_174 hl (by decide) rfl (fun ls hl => ?_)
          refine lv_goto (tgt := 139) hx hb dX12_best_176 (by decide) ?_
          exact st_next hm hst H locs hP hD hS ls (lv_sub hl [2, 3, 4, 5, 6, 7, 8, 1, 0] rfl)
  have L40 : ∀ (x1 : Int32) (x2 : Int32) (x3 : Int32) (x4 : Int32) (x5 : Int32) (x6 : Int32) (v_syndromes : (Nat → Int64)) (v_lightest : (Nat → Int32)) (out : (Int32 × (Nat → Int64) × (Nat → Int32))), lp (fun x : (Int32 × Int32 × Int32 × Int32 × (Nat → Int64) × (Nat → Int32)) => M_X12_best_b40 n x1 x2 x.1 x.2.1 x.2.2.1 x.2.2.2.1 x.2.2.2.2.1 x.2.2.2.2.2) n (x3, x4, x5, x6, v_syndromes, v_lightest) = some out → (∀ (o : (Int32 × (Nat → Int64) × (Nat → Int32))), out = o → ∀ (H : Heap) (locs : List Loc), va_P G vwCl (ww_M q cs v_told v_tell v_sums v_kindOf v_modOf v_bitsOf v_turnOf v_polyOf v_beginOf v_finishOf v_isLow v_weightsOf v_weight v_cell v_size v_row v_keptSize v_keptBefore v_keptAfter v_placeA v_placeB v_turned v_turnedMany o.2.1 o.2.2 v_freeMany v_freePlace v_freeSyndrome v_ways v_waysKept v_trace v_comesA v_comesB) H → va_D A (ww_M q cs v_told v_tell v_sums v_kindOf v_modOf v_bitsOf v_turnOf v_polyOf v_beginOf v_finishOf v_isLow v_weightsOf v_weight v_cell v_size v_row v_keptSize v_keptBefore v_keptAfter v_placeA v_placeB v_turned v_turnedMany o.2.1 o.2.2 v_freeMany v_freePlace v_freeSyndrome v_ways v_waysKept v_trace v_comesA v_comesB) → va_S A s.heap H locs → ∀ (ls : Array Slot), lv_has ls 11 [(3, .int o.1)] → W p l e rmX12_best s m args below meth c H locs 0 0 Q (F0 m 222 ls [])) → ∀ (H : Heap) (locs : List Loc), va_P G vwCl (ww_M q cs v_told v_tell v_sums v_kindOf v_modOf v_bitsOf v_turnOf v_polyOf v_beginOf v_finishOf v_isLow v_weightsOf v_weight v_cell v_size v_row v_keptSize v_keptBefore v_keptAfter v_placeA v_placeB v_turned v_turnedMany v_syndromes v_lightest v_freeMany v_freePlace v_freeSyndrome v_ways v_waysKept v_trace v_comesA v_comesB) H → va_D A (ww_M q cs v_told v_tell v_sums v_kindOf v_modOf v_bitsOf v_turnOf v_polyOf v_beginOf v_finishOf v_isLow v_weightsOf v_weight v_cell v_size v_row v_keptSize v_keptBefore v_keptAfter v_placeA v_placeB v_turned v_turnedMany v_syndromes v_lightest v_freeMany v_freePlace v_freeSyndrome v_ways v_waysKept v_trace v_comesA v_comesB) → va_S A s.heap H locs → ∀ (ls : Array Slot), lv_has ls 11 [(0, .ref (q 0)), (1, .int x1), (2, .int x2), (3, .int x3), (4, .int x4), (5, .int x5), (6, .int x6)] → W p l e rmX12_best s m args below meth c H locs 0 0 Q (F0 m 40 ls []) := by
    intro x1 x2 x3 x4 x5 x6 v_syndromes v_lightest out hlp hX
    refine lp_ind (fun x => ∀ (H : Heap) (locs : List Loc), va_P G vwCl (ww_M q cs v_told v_tell v_sums v_kindOf v_modOf v_bitsOf v_turnOf v_polyOf v_beginOf v_finishOf v_isLow v_weightsOf v_weight v_cell v_size v_row v_keptSize v_keptBefore v_keptAfter v_placeA v_placeB v_turned v_turnedMany x.2.2.2.2.1 x.2.2.2.2.2 v_freeMany v_freePlace v_freeSyndrome v_ways v_waysKept v_trace v_comesA v_comesB) H → va_D A (ww_M q cs v_told v_tell v_sums v_kindOf v_modOf v_bitsOf v_turnOf v_polyOf v_beginOf v_finishOf v_isLow v_weightsOf v_weight v_cell v_size v_row v_keptSize v_keptBefore v_keptAfter v_placeA v_placeB v_turned v_turnedMany x.2.2.2.2.1 x.2.2.2.2.2 v_freeMany v_freePlace v_freeSyndrome v_ways v_waysKept v_trace v_comesA v_comesB) → va_S A s.heap H locs → ∀ (ls : Array Slot), lv_has ls 11 [(0, .ref (q 0)), (1, .int x1), (2, .int x2), (3, .int x.1), (4, .int x.2.1), (5, .int x.2.2.1), (6, .int x.2.2.2.1)] → W p l e rmX12_best s m args below meth c H locs 0 0 Q (F0 m 40 ls [])) ?_ n (x3, x4, x5, x6, v_syndromes, v_lightest) hlp
    clear hlp hP hD hS hl
    rintro ⟨x3, x4, x5, x6, v_syndromes, v_lightest⟩ ob hm hst H locs hP hD hS ls hl
    have hm : M_X12_best_b40 n x1 x2 x3 x4 x5 x6 v_syndromes v_lightest = some ob := hm
    have hl : lv_has ls 11 [(0, .ref (q 0)), (1, .int x1), (2, .int x2), (3, .int x3), (4, .int x4), (5, .int x5), (6, .int x6)] := hl
    have hP : va_P G vwCl (ww_M q cs v_told v_tell v_sums v_kindOf v_modOf v_bitsOf v_turnOf v_polyOf v_beginOf v_finishOf v_isLow v_weightsOf v_weight v_cell v_size v_row v_keptSize v_keptBefore v_keptAfter v_placeA v_placeB v_turned v_turnedMany v_syndromes v_lightest v_freeMany v_freePlace v_freeSyndrome v_ways v_waysKept v_trace v_comesA v_comesB) H := hP
    have hD : va_D A (ww_M q cs v_told v_tell v_sums v_kindOf v_modOf v_bitsOf v_turnOf v_polyOf v_beginOf v_finishOf v_isLow v_weightsOf v_weight v_cell v_size v_row v_keptSize v_keptBefore v_keptAfter v_placeA v_placeB v_turned v_turnedMany v_syndromes v_lightest v_freeMany v_freePlace v_freeSyndrome v_ways v_waysKept v_trace v_comesA v_comesB) := hD
    unfold M_X12_best_b40 at hm
    refine lv_iload hx hb dX12_best_40 (lv_at hl 6 rfl) ?_
    refine lv_iconst (v := 1) hx hb dX12_best_42 (by decide) ?_
    refine lv_iload_n hx hb dX12_best_43 rfl (lv_at hl 1 rfl) ?_
    refine lv_ishl hx hb dX12_best_44 ?_
    refine lv_icmp_ge (tgt := 222) hx hb dX12_best_45 (by decide) (fun b5 => ?_) (fun b5 => ?_)
    · have hm := i_t b5 hm
      exact hX _ (st_exit hm hst) H locs hP hD hS ls (lv_sub hl [3] rfl)
    · have hm := i_f b5 hm
      refine lv_iconst (v := 0) hx hb dX12_best_48 (by decide) ?_
      refine lv_istore (lv' := [(7, .int 0), (0, .ref (q 0)), (1, .int x1), (2, .int x2), (3, .int x3), (4, .int x4), (5, .int x5), (6, .int x6)]) hx hb dX12_best_49 hl (by decide) rfl (fun ls hl => ?_)
      obtain ⟨o11, hlp11, hm⟩ := bs hm
      refine L51 x1 x2 x3 x4 x5 x6 (0 : Int32) v_syndromes v_lightest o11 hlp11 (fun oo ho => ?_) H locs hP hD hS ls (lv_sub hl [1, 2, 3, 4, 5, 6, 7, 0] rfl)
      subst ho
      intro H locs hP hD hS ls hl
      have hl : lv_has ls 11 [(0, .ref (q 0)), (1, .int x1), (2, .int x2), (3, .int x3), (4, .int x4), (5, .int x5), (6, .int x6)] := hl
      have hP : va_P G vwCl (ww_M q cs v_told v_tell v_sums v_kindOf v_modOf v_bitsOf v_turnOf v_polyOf v_beginOf v_finishOf v_isLow v_weightsOf v_weight v_cell v_size v_row v_keptSize v_keptBefore v_keptAfter v_placeA v_placeB v_turned v_turnedMany o11 v_lightest v_freeMany v_freePlace v_freeSyndrome v_ways v_waysKept v_trace v_comesA v_comesB) H := hP
      have hD : va_D A (ww_M q cs v_told v_tell v_sums v_kindOf v_modOf v_bitsOf v_turnOf v_polyOf v_beginOf v_finishOf v_isLow v_weightsOf v_weight v_cell v_size v_row v_keptSize v_keptBefore v_keptAfter v_placeA v_placeB v_turned v_turnedMany o11 v_lightest v_freeMany v_freePlace v_freeSyndrome v_ways v_waysKept v_trace v_comesA v_comesB) := hD
      refine lv_iconst (v := 0) hx hb dX12_best_133 (by decide) ?_
      refine lv_istore (lv' := [(7, .int 0), (0, .ref (q 0)), (1, .int x1), (2, .int x2), (3, .int x3), (4, .int x4), (5, .int x5), (6, .int x6)]) hx hb dX12_best_134 hl (by decide) rfl (fun ls hl => ?_)
      refine lv_iconst (v := 0) hx hb dX12_best_136 (by decide) ?_
      refine lv_istore (lv' := [(8, .int 0), (7, .int 0), (0, .ref (q 0)), (1, .int x1), (2, .int x2), (3, .int x3), (4, .int x4), (5, .int x5), (6, .int x6)]) hx hb dX12_best_137 hl (by decide) rfl (fun ls hl => ?_)
      obtain ⟨o17, hlp17, hm⟩ := bs hm
      refine L139 x1 x2 x3 x4 x5 x6 (0 : Int32) (0 : Int32) o11 v_lightest o17 hlp17 (fun oo ho => ?_) H locs hP hD hS ls (lv_sub hl [2, 3, 4, 5, 6, 7, 8, 1, 0] rfl)
      subst ho
      intro H locs hP hD hS ls hl
      have hl : lv_has ls 11 [(0, .ref (q 0)), (1, .int x1), (2, .int x2), (3, .int x3), (4, .int x4), (5, .int x5), (6, .int x6), (7, .int o17.1), (8, .int o17.2.1)] := hl
      have hP : va_P G vwCl (ww_M q cs v_told v_tell v_sums v_kindOf v_modOf v_bitsOf v_turnOf v_polyOf v_beginOf v_finishOf v_isLow v_weightsOf v_weight v_cell v_size v_row v_keptSize v_keptBefore v_keptAfter v_placeA v_placeB v_turned v_turnedMany o11 o17.2.2 v_freeMany v_freePlace v_freeSyndrome v_ways v_waysKept v_trace v_comesA v_comesB) H := hP
      have hD : va_D A (ww_M q cs v_told v_tell v_sums v_kindOf v_modOf v_bitsOf v_turnOf v_polyOf v_beginOf v_finishOf v_isLow v_weightsOf v_weight v_cell v_size v_row v_keptSize v_keptBefore v_keptAfter v_placeA v_placeB v_turned v_turnedMany o11 o17.2.2 v_freeMany v_freePlace v_freeSyndrome v_ways v_waysKept v_trace v_comesA v_comesB) := hD
      refine lv_iload_n hx hb dX12_best_179 rfl (lv_at hl 3 rfl) ?_
      refine lv_iconst (v := (-1)) hx hb dX12_best_180 (by decide) ?_
      refine lv_icmp_eq (tgt := 205) hx hb dX12_best_181 (by decide) (fun b18 => ?_) (fun b18 => ?_)
      · have hm := i_t b18 hm
        refine lv_iload hx hb dX12_best_205 (lv_at hl 6 rfl) ?_
        refine lv_istore_n (lv' := [(3, .int x6), (0, .ref (q 0)), (1, .int x1), (2, .int x2), (4, .int x4), (5, .int x5), (6, .int x6), (7, .int o17.1), (8, .int o17.2.1)]) hx hb dX12_best_207 rfl hl (by decide) rfl (fun ls hl => ?_)
        refine lv_iload hx hb dX12_best_208 (lv_at hl 7 rfl) ?_
        refine lv_istore (lv' := [(4, .int o17.1), (3, .int x6), (0, .ref (q 0)), (1, .int x1), (2, .int x2), (5, .int x5), (6, .int x6), (7, .int o17.1), (8, .int o17.2.1)]) hx hb dX12_best_210 hl (by decide) rfl (fun ls hl => ?_)
        refine lv_iload hx hb dX12_best_212 (lv_at hl 8 rfl) ?_
        refine lv_istore (lv' := [(5, .int o17.2.1), (4, .int o17.1), (3, .int x6), (0, .ref (q 0)), (1, .int x1), (2, .int x2), (6, .int x6), (7, .int o17.1), (8, .int o17.2.1)]) hx hb dX12_best_214 hl (by decide) rfl (fun ls hl => ?_)
        refine lv_iinc (v := x6 + 2) (lv' := [(6, .int (x6 + 2)), (5, .int o17.2.1), (4, .int o17.1), (3, .int x6), (0, .ref (q 0)), (1, .int x1), (2, .int x2), (7, .int o17.1), (8, .int o17.2.1)]) hx hb dX12_best_216 hl (k := 6) rfl rfl (by decide) rfl (fun ls hl => ?_)
        refine lv_goto (tgt := 40) hx hb dX12_best_219 (by decide) ?_
        exact st_next hm hst H locs hP hD hS ls (lv_sub hl [4, 5, 6, 3, 2, 1, 0] rfl)
      · have hm := i_f b18 hm
        refine lv_iload hx hb dX12_best_184 (lv_at hl 7 rfl) ?_
        refine lv_iload hx hb dX12_best_186 (lv_at hl 4 rfl) ?_
        refine lv_icmp_gt (tgt := 205) hx hb dX12_best_188 (by decide) (fun b19 => ?_) (fun b19 => ?_)
        · have hm := i_t b19 hm
          refine lv_iload hx hb dX12_best_205 (lv_at hl 6 rfl) ?_
          refine lv_istore_n (lv' := [(3, .int x6), (0, .ref (q 0)), (1, .int x1), (2, .int x2), (4, .int x4), (5, .int x5), (6, .int x6), (7, .int o17.1), (8, .int o17.2.1)]) hx hb dX12_best_207 rfl hl (by decide) rfl (fun ls hl => ?_)
          refine lv_iload hx hb dX12_best_208 (lv_at hl 7 rfl) ?_
          refine lv_istore (lv' := [(4, .int o17.1), (3, .int x6), (0, .ref (q 0)), (1, .int x1), (2, .int x2), (5, .int x5), (6, .int x6), (7, .int o17.1), (8, .int o17.2.1)]) hx hb dX12_best_210 hl (by decide) rfl (fun ls hl => ?_)
          refine lv_iload hx hb dX12_best_212 (lv_at hl 8 rfl) ?_
          refine lv_istore (lv' := [(5, .int o17.2.1), (4, .int o17.1), (3, .int x6), (0, .ref (q 0)), (1, .int x1), (2, .int x2), (6, .int x6), (7, .int o17.1), (8, .int o17.2.1)]) hx hb dX12_best_214 hl (by decide) rfl (fun ls hl => ?_)
          refine lv_iinc (v := x6 + 2) (lv' := [(6, .int (x6 + 2)), (5, .int o17.2.1), (4, .int o17.1), (3, .int x6), (0, .ref (q 0)), (1, .int x1), (2, .int x2), (7, .int o17.1), (8, .int o17.2.1)]) hx hb dX12_best_216 hl (k := 6) rfl rfl (by decide) rfl (fun ls hl => ?_)
          refine lv_goto (tgt := 40) hx hb dX12_best_219 (by decide) ?_
          exact st_next hm hst H locs hP hD hS ls (lv_sub hl [4, 5, 6, 3, 2, 1, 0] rfl)
        · have hm := i_f b19 hm
          refine lv_iload hx hb dX12_best_191 (lv_at hl 7 rfl) ?_
          refine lv_iload hx hb dX12_best_193 (lv_at hl 4 rfl) ?_
          refine lv_icmp_ne (tgt := 216) hx hb dX12_best_195 (by decide) (fun b20 => ?_) (fun b20 => ?_)
          · have hm := i_f b20 hm
            refine lv_iinc (v := x6 + 2) (lv' := [(6, .int (x6 + 2)), (0, .ref (q 0)), (1, .int x1), (2, .int x2), (3, .int x3), (4, .int x4), (5, .int x5), (7, .int o17.1), (8, .int o17.2.1)]) hx hb dX12_best_216 hl (k := 6) rfl rfl (by decide) rfl (fun ls hl => ?_)
            refine lv_goto (tgt := 40) hx hb dX12_best_219 (by decide) ?_
            exact st_next hm hst H locs hP hD hS ls (lv_sub hl [1, 2, 3, 4, 5, 6, 0] rfl)
          · have hm := i_t b20 hm
            refine lv_iload hx hb dX12_best_198 (lv_at hl 8 rfl) ?_
            refine lv_iload hx hb dX12_best_200 (lv_at hl 5 rfl) ?_
            refine lv_icmp_ge (tgt := 216) hx hb dX12_best_202 (by decide) (fun b21 => ?_) (fun b21 => ?_)
            · have hm := i_t b21 hm
              refine lv_iinc (v := x6 + 2) (lv' := [(6, .int (x6 + 2)), (0, .ref (q 0)), (1, .int x1), (2, .int x2), (3, .int x3), (4, .int x4), (5, .int x5), (7, .int o17.1), (8, .int o17.2.1)]) hx hb dX12_best_216 hl (k := 6) rfl rfl (by decide) rfl (fun ls hl => ?_)
              refine lv_goto (tgt := 40) hx hb dX12_best_219 (by decide) ?_
              exact st_next hm hst H locs hP hD hS ls (lv_sub hl [1, 2, 3, 4, 5, 6, 0] rfl)
            · have hm := i_f b21 hm
              refine lv_iload hx hb dX12_best_205 (lv_at hl 6 rfl) ?_
              refine lv_istore_n (lv' := [(3, .int x6), (0, .ref (q 0)), (1, .int x1), (2, .int x2), (4, .int x4), (5, .int x5), (6, .int x6), (7, .int o17.1), (8, .int o17.2.1)]) hx hb dX12_best_207 rfl hl (by decide) rfl (fun ls hl => ?_)
              refine lv_iload hx hb dX12_best_208 (lv_at hl 7 rfl) ?_
              refine lv_istore (lv' := [(4, .int o17.1), (3, .int x6), (0, .ref (q 0)), (1, .int x1), (2, .int x2), (5, .int x5), (6, .int x6), (7, .int o17.1), (8, .int o17.2.1)]) hx hb dX12_best_210 hl (by decide) rfl (fun ls hl => ?_)
              refine lv_iload hx hb dX12_best_212 (lv_at hl 8 rfl) ?_
              refine lv_istore (lv' := [(5, .int o17.2.1), (4, .int o17.1), (3, .int x6), (0, .ref (q 0)), (1, .int x1), (2, .int x2), (6, .int x6), (7, .int o17.1), (8, .int o17.2.1)]) hx hb dX12_best_214 hl (by decide) rfl (fun ls hl => ?_)
              refine lv_iinc (v := x6 + 2) (lv' := [(6, .int (x6 + 2)), (5, .int o17.2.1), (4, .int o17.1), (3, .int x6), (0, .ref (q 0)), (1, .int x1), (2, .int x2), (7, .int o17.1), (8, .int o17.2.1)]) hx hb dX12_best_216 hl (k := 6) rfl rfl (by decide) rfl (fun ls hl => ?_)
              refine lv_goto (tgt := 40) hx hb dX12_best_219 (by decide) ?_
              exact st_next hm hst H locs hP hD hS ls (lv_sub hl [4, 5, 6, 3, 2, 1, 0] rfl)
  unfold M_X12_best at hm
  refine lv_iload_n hx hb dX12_best_0 rfl (lv_at hl 1 rfl) ?_
  refine lv_i2l (v := x1.toInt64) hx hb dX12_best_1 rfl ?_
  refine lv_ldc2 (own := RX12) (v := 3) hx hb hown wd1 dX12_best_2 ?_
  refine lv_ldc2 (own := RX12) (v := 8) hx hb hown wd2 dX12_best_5 ?_
  refine k_calli0 (va_runS (As := [.long x1.toInt64, .long 3, .long 8]) (rest := []) ⟨hx, hb, hml, hown, hts⟩ (c_X12_in l G cs H.size    x1.toInt64 (3 : Int64) (8 : Int64) _ rfl) (va_cwS 3 hts gX12_best_X12_in rfl rfl rfl hd_X12_in ⟨Nat.le_of_ble_eq_true rfl, Nat.le_of_ble_eq_true rfl⟩) ⟨pre_blind, pre_w hK RO.nil P0 D0 (va_new0 hS hA)⟩ rfl rfl hl.1 rfl (lv_room (Nat.le_of_ble_eq_true rfl)) dX12_best_8 ⟨Nat.zero_le _, Nat.zero_le _⟩) hP hS hA (fun hE1 H locs hP hS => ?_)
  refine lv_if_eq (tgt := 26) hx hb dX12_best_11 (by decide) (fun b2 => ?_) (fun b2 => ?_)
  · have hm := i_t b2 hm
    refine lv_bipush (v := (-3)) hx hb dX12_best_26 (by decide) ?_
    have hq := Option.some.inj hm
    subst hq; subst hQ
    exact k_iret hx hb hr hlocks hP hD hS rfl trivial dX12_best_28
  · have hm := i_f b2 hm
    refine lv_iload_n hx hb dX12_best_14 rfl (lv_at hl 2 rfl) ?_
    refine lv_i2l (v := x2.toInt64) hx hb dX12_best_15 rfl ?_
    refine lv_lconst (v := 1) hx hb dX12_best_16 (by decide) ?_
    refine lv_ldc2 (own := RX12) (v := 3) hx hb hown wd1 dX12_best_17 ?_
    refine k_calli0 (va_runS (As := [.long x2.toInt64, .long 1, .long 3]) (rest := []) ⟨hx, hb, hml, hown, hts⟩ (c_X12_in l G cs H.size    x2.toInt64 (1 : Int64) (3 : Int64) _ rfl) (va_cwS 3 hts gX12_best_X12_in rfl rfl rfl hd_X12_in ⟨Nat.le_of_ble_eq_true rfl, Nat.le_of_ble_eq_true rfl⟩) ⟨pre_blind, pre_w hK RO.nil P0 D0 (va_new0 hS hA)⟩ rfl rfl hl.1 rfl (lv_room (Nat.le_of_ble_eq_true rfl)) dX12_best_20 ⟨Nat.zero_le _, Nat.zero_le _⟩) hP hS hA (fun hE3 H locs hP hS => ?_)
    refine lv_if_ne (tgt := 29) hx hb dX12_best_23 (by decide) (fun b4 => ?_) (fun b4 => ?_)
    · have hm := i_f b4 hm
      refine lv_iconst (v := (-1)) hx hb dX12_best_29 (by decide) ?_
      refine lv_istore_n (lv' := [(3, .int (-1)), (0, .ref (q 0)), (1, .int x1), (2, .int x2)]) hx hb dX12_best_30 rfl hl (by decide) rfl (fun ls hl => ?_)
      refine lv_iconst (v := 0) hx hb dX12_best_31 (by decide) ?_
      refine lv_istore (lv' := [(4, .int 0), (3, .int (-1)), (0, .ref (q 0)), (1, .int x1), (2, .int x2)]) hx hb dX12_best_32 hl (by decide) rfl (fun ls hl => ?_)
      refine lv_iconst (v := 0) hx hb dX12_best_34 (by decide) ?_
      refine lv_istore (lv' := [(5, .int 0), (4, .int 0), (3, .int (-1)), (0, .ref (q 0)), (1, .int x1), (2, .int x2)]) hx hb dX12_best_35 hl (by decide) rfl (fun ls hl => ?_)
      refine lv_iconst (v := 1) hx hb dX12_best_37 (by decide) ?_
      refine lv_istore (lv' := [(6, .int 1), (5, .int 0), (4, .int 0), (3, .int (-1)), (0, .ref (q 0)), (1, .int x1), (2, .int x2)]) hx hb dX12_best_38 hl (by decide) rfl (fun ls hl => ?_)
      obtain ⟨o22, hlp22, hm⟩ := bs hm
      refine L40 x1 x2 (-1 : Int32) (0 : Int32) (0 : Int32) (1 : Int32) v_syndromes v_lightest o22 hlp22 (fun oo ho => ?_) H locs hP hD hS ls (lv_sub hl [4, 5, 6, 3, 2, 1, 0] rfl)
      subst ho
      intro H locs hP hD hS ls hl
      have hl : lv_has ls 11 [(3, .int o22.1)] := hl
      have hP : va_P G vwCl (ww_M q cs v_told v_tell v_sums v_kindOf v_modOf v_bitsOf v_turnOf v_polyOf v_beginOf v_finishOf v_isLow v_weightsOf v_weight v_cell v_size v_row v_keptSize v_keptBefore v_keptAfter v_placeA v_placeB v_turned v_turnedMany o22.2.1 o22.2.2 v_freeMany v_freePlace v_freeSyndrome v_ways v_waysKept v_trace v_comesA v_comesB) H := hP
      have hD : va_D A (ww_M q cs v_told v_tell v_sums v_kindOf v_modOf v_bitsOf v_turnOf v_polyOf v_beginOf v_finishOf v_isLow v_weightsOf v_weight v_cell v_size v_row v_keptSize v_keptBefore v_keptAfter v_placeA v_placeB v_turned v_turnedMany o22.2.1 o22.2.2 v_freeMany v_freePlace v_freeSyndrome v_ways v_waysKept v_trace v_comesA v_comesB) := hD
      refine lv_iload_n hx hb dX12_best_222 rfl (lv_at hl 0 rfl) ?_
      have hq := Option.some.inj hm
      subst hq; subst hQ
      exact k_iret hx hb hr hlocks hP hD hS rfl trivial dX12_best_223
    · have hm := i_t b4 hm
      refine lv_bipush (v := (-3)) hx hb dX12_best_26 (by decide) ?_
      have hq := Option.some.inj hm
      subst hq; subst hQ
      exact k_iret hx hb hr hlocks hP hD hS rfl trivial dX12_best_28

theorem hd_X12_mend : yX12_mend.cls ≠ "java/lang/invoke/MethodHandle" ∧ yX12_mend.cls ≠ "java/lang/invoke/VarHandle" ∧ (parseMethodDescriptor yX12_mend.desc).map (fun d => d.parameters.length) = some 2 := by decide +kernel

def M_X12_mend_b69 (n : Nat) (x1 : Int32) (x4 : Int64) (v_bitsOf : (Nat → Int32)) (v_polyOf : (Nat → Int64)) (v_isLow : (Nat → Int32)) (v_size : Int32) (v_row : (Nat → Int32)) (x6 : Int32) : Option (Int32 ⊕ (Unit ⊕ (Int32 × (Nat → Int32)))) :=
  if (8 * v_size) ≤ x6 then (some (.inr (.inl ()))) else ((M_X12_syndromeOf n x1 x6 v_size v_bitsOf v_polyOf v_isLow).bind fun r11 => if r11 = x4 then (if (x6 / 8) < 0 ∨ 64 ≤ (x6 / 8).toNatClampNeg then none else if (x6 / 8) < 0 ∨ 64 ≤ (x6 / 8).toNatClampNeg then none else some (.inr (.inr (1 + x6, (upd v_row (x6 / 8).toNatClampNeg ((v_row (x6 / 8).toNatClampNeg) ^^^ ((128 : Int32) >>> ((x6 - x6 / 8 * 8) &&& 31)))))))) else (some (.inl (x6 + 1))))

def M_X12_mend_b156 (n : Nat) (x4 : Int64) (x6 : Int32) : Option (Int32 ⊕ Int32) :=
  if (x4 >>> (x6.toInt64 &&& 63)) = 1 then (some (.inr x6)) else (some (.inl (x6 + 1)))

def M_X12_mend (n : Nat) (x1 : Int32) (x2 : Int64) (v_sums : Int32) (v_kindOf : (Nat → Int32)) (v_modOf : (Nat → Int32)) (v_bitsOf : (Nat → Int32)) (v_turnOf : (Nat → Int32)) (v_polyOf : (Nat → Int64)) (v_beginOf : (Nat → Int64)) (v_finishOf : (Nat → Int64)) (v_isLow : (Nat → Int32)) (v_weightsOf : (Nat → Int32)) (v_weight : (Nat → Int32)) (v_cell : (Nat → Int32)) (v_size : Int32) (v_row : (Nat → Int32)) : Option (Int32 × (Nat → Int32)) :=
  if (M_X12_isSum x1 v_sums) = 0 then (some ((-2), v_row)) else (if x1 < 0 ∨ 16 ≤ x1.toNatClampNeg then none else if (v_kindOf x1.toNatClampNeg) = 5 then ((M_X12_mask x1 v_bitsOf).bind fun r5 => if (M_X12_in x2 (0 : Int64) r5) = 0 then (some ((-3), v_row)) else ((M_X12_sumOf n x1 v_size v_kindOf v_modOf v_bitsOf v_turnOf v_polyOf v_beginOf v_finishOf v_isLow v_weightsOf v_weight v_cell v_row).bind fun r8 => if (r8 ^^^ x2) = 0 then (some (0, v_row)) else ((lp (fun x : Int32 => M_X12_mend_b69 n x1 (r8 ^^^ x2) v_bitsOf v_polyOf v_isLow v_size v_row x) n (0 : Int32)).bind (Sum.elim (fun o15 => if ((r8 ^^^ x2) &&& ((r8 ^^^ x2) - 1)) = 0 then ((lp (fun x : Int32 => M_X12_mend_b156 n (r8 ^^^ x2) x) n (0 : Int32)).bind fun o18 => some (1000 + o18, v_row)) else (some ((-1), v_row))) (fun r => some r))))) else (some ((-4), v_row)))

abbrev rmX12_mend : Room := { frames := 3, cells := 0, slots := 0, locals := 89 }
set_option maxHeartbeats 4000000 in
set_option maxRecDepth 100000 in
theorem c_X12_mend (l : Launch) (G : va_G) (cs : CS) (q : Nat → Nat) (sz : Nat) (v_told : Int32) (v_tell : (Nat → Int32)) (v_sums : Int32) (v_kindOf : (Nat → Int32)) (v_modOf : (Nat → Int32)) (v_bitsOf : (Nat → Int32)) (v_turnOf : (Nat → Int32)) (v_polyOf : (Nat → Int64)) (v_beginOf : (Nat → Int64)) (v_finishOf : (Nat → Int64)) (v_isLow : (Nat → Int32)) (v_weightsOf : (Nat → Int32)) (v_weight : (Nat → Int32)) (v_cell : (Nat → Int32)) (v_size : Int32) (v_row : (Nat → Int32)) (v_keptSize : Int32) (v_keptBefore : (Nat → Int32)) (v_keptAfter : (Nat → Int32)) (v_placeA : (Nat → Int64)) (v_placeB : (Nat → Int64)) (v_turned : (Nat → Int32)) (v_turnedMany : Int32) (v_syndromes : (Nat → Int64)) (v_lightest : (Nat → Int32)) (v_freeMany : Int32) (v_freePlace : (Nat → Int32)) (v_freeSyndrome : (Nat → Int64)) (v_ways : (Nat → Int32)) (v_waysKept : Int32) (v_trace : (Nat → Int32)) (v_comesA : Int64) (v_comesB : Int64)   (x1 : Int32) (x2 : Int64) (n : Nat) (res : (Int32 × (Nat → Int32))) (hm : M_X12_mend n x1 x2 v_sums v_kindOf v_modOf v_bitsOf v_turnOf v_polyOf v_beginOf v_finishOf v_isLow v_weightsOf v_weight v_cell v_size v_row = some res) : Met l yX12_mend wsX12_mend rmX12_mend (va_Pc [.ref (q 0), .int x1, .long x2] (PreW G cs sz (ww_M q cs v_told v_tell v_sums v_kindOf v_modOf v_bitsOf v_turnOf v_polyOf v_beginOf v_finishOf v_isLow v_weightsOf v_weight v_cell v_size v_row v_keptSize v_keptBefore v_keptAfter v_placeA v_placeB v_turned v_turnedMany v_syndromes v_lightest v_freeMany v_freePlace v_freeSyndrome v_ways v_waysKept v_trace v_comesA v_comesB) RN)) (QI G res.1 True (ww_M q cs v_told v_tell v_sums v_kindOf v_modOf v_bitsOf v_turnOf v_polyOf v_beginOf v_finishOf v_isLow v_weightsOf v_weight v_cell v_size res.2 v_keptSize v_keptBefore v_keptAfter v_placeA v_placeB v_turned v_turnedMany v_syndromes v_lightest v_freeMany v_freePlace v_freeSyndrome v_ways v_waysKept v_trace v_comesA v_comesB) (va_A (ww_M q cs v_told v_tell v_sums v_kindOf v_modOf v_bitsOf v_turnOf v_polyOf v_beginOf v_finishOf v_isLow v_weightsOf v_weight v_cell v_size v_row v_keptSize v_keptBefore v_keptAfter v_placeA v_placeB v_turned v_turnedMany v_syndromes v_lightest v_freeMany v_freePlace v_freeSyndrome v_ways v_waysKept v_trace v_comesA v_comesB) sz)) 0 0 (va_A (ww_M q cs v_told v_tell v_sums v_kindOf v_modOf v_bitsOf v_turnOf v_polyOf v_beginOf v_finishOf v_isLow v_weightsOf v_weight v_cell v_size v_row v_keptSize v_keptBefore v_keptAfter v_placeA v_placeB v_turned v_turnedMany v_syndromes v_lightest v_freeMany v_freePlace v_freeSyndrome v_ways v_waysKept v_trace v_comesA v_comesB) sz) := by
  refine k_enter (Qf := fun A => QI G res.1 True (ww_M q cs v_told v_tell v_sums v_kindOf v_modOf v_bitsOf v_turnOf v_polyOf v_beginOf v_finishOf v_isLow v_weightsOf v_weight v_cell v_size res.2 v_keptSize v_keptBefore v_keptAfter v_placeA v_placeB v_turned v_turnedMany v_syndromes v_lightest v_freeMany v_freePlace v_freeSyndrome v_ways v_waysKept v_trace v_comesA v_comesB) A) (cc := cX12_mend) (maxL := 7) (ret := (some .int)) (plainFor_of_name (by decide)) rfl (Nat.le_of_ble_eq_true rfl) ?_
  intro p e s m args below meth c A Q ls H locs hx hb hr hml hown hts hlocks hname hK hA hRo hP hD hS hQ hl
  have hl : lv_has ls 7 [(0, .ref (q 0)), (1, .int x1), (2, .long x2)] := hl
  have wd1 := hts (.fieldLink RX12 13 "SumSmithModel" "kindOf" "[I") (List.mem_of_getElem? (i := 1) rfl)
  have wd2 := hts (.fieldLink RX12 48 "SumSmithModel" "row" "[I") (List.mem_of_getElem? (i := 2) rfl)
  have wd3 := hts (.fieldLink RX12 125 "SumSmithModel" "size" "I") (List.mem_of_getElem? (i := 3) rfl)
  have hinX12 : ∀ w ∈ wsX120, w ∈ wsX12_mend := fun w h => List.mem_cons_of_mem _ (List.mem_append_right _ h)
  have L69 : ∀ (x1 : Int32) (x4 : Int64) (x6 : Int32) (v_row : (Nat → Int32)) (out : (Unit ⊕ (Int32 × (Nat → Int32)))), lp (fun x : Int32 => M_X12_mend_b69 n x1 x4 v_bitsOf v_polyOf v_isLow v_size v_row x) n x6 = some out → (∀ r, out = .inr r → r = res) → (∀ (o : Unit), out = .inl o → ∀ (H : Heap) (locs : List Loc), va_P G vwCl (ww_M q cs v_told v_tell v_sums v_kindOf v_modOf v_bitsOf v_turnOf v_polyOf v_beginOf v_finishOf v_isLow v_weightsOf v_weight v_cell v_size v_row v_keptSize v_keptBefore v_keptAfter v_placeA v_placeB v_turned v_turnedMany v_syndromes v_lightest v_freeMany v_freePlace v_freeSyndrome v_ways v_waysKept v_trace v_comesA v_comesB) H → va_D A (ww_M q cs v_told v_tell v_sums v_kindOf v_modOf v_bitsOf v_turnOf v_polyOf v_beginOf v_finishOf v_isLow v_weightsOf v_weight v_cell v_size v_row v_keptSize v_keptBefore v_keptAfter v_placeA v_placeB v_turned v_turnedMany v_syndromes v_lightest v_freeMany v_freePlace v_freeSyndrome v_ways v_waysKept v_trace v_comesA v_comesB) → va_S A s.heap H locs → ∀ (ls : Array Slot), lv_has ls 7 [(4, .long x4)] → W p l e rmX12_mend s m args below meth c H locs 0 0 Q (F0 m 139 ls [])) → ∀ (H : Heap) (locs : List Loc), va_P G vwCl (ww_M q cs v_told v_tell v_sums v_kindOf v_modOf v_bitsOf v_turnOf v_polyOf v_beginOf v_finishOf v_isLow v_weightsOf v_weight v_cell v_size v_row v_keptSize v_keptBefore v_keptAfter v_placeA v_placeB v_turned v_turnedMany v_syndromes v_lightest v_freeMany v_freePlace v_freeSyndrome v_ways v_waysKept v_trace v_comesA v_comesB) H → va_D A (ww_M q cs v_told v_tell v_sums v_kindOf v_modOf v_bitsOf v_turnOf v_polyOf v_beginOf v_finishOf v_isLow v_weightsOf v_weight v_cell v_size v_row v_keptSize v_keptBefore v_keptAfter v_placeA v_placeB v_turned v_turnedMany v_syndromes v_lightest v_freeMany v_freePlace v_freeSyndrome v_ways v_waysKept v_trace v_comesA v_comesB) → va_S A s.heap H locs → ∀ (ls : Array Slot), lv_has ls 7 [(0, .ref (q 0)), (1, .int x1), (4, .long x4), (6, .int x6)] → W p l e rmX12_mend s m args below meth c H locs 0 0 Q (F0 m 69 ls []) := by
    intro x1 x4 x6 v_row out hlp hret hX
    refine lp_ind (fun x => ∀ (H : Heap) (locs : List Loc), va_P G vwCl (ww_M q cs v_told v_tell v_sums v_kindOf v_modOf v_bitsOf v_turnOf v_polyOf v_beginOf v_finishOf v_isLow v_weightsOf v_weight v_cell v_size v_row v_keptSize v_keptBefore v_keptAfter v_placeA v_placeB v_turned v_turnedMany v_syndromes v_lightest v_freeMany v_freePlace v_freeSyndrome v_ways v_waysKept v_trace v_comesA v_comesB) H → va_D A (ww_M q cs v_told v_tell v_sums v_kindOf v_modOf v_bitsOf v_turnOf v_polyOf v_beginOf v_finishOf v_isLow v_weightsOf v_weight v_cell v_size v_row v_keptSize v_keptBefore v_keptAfter v_placeA v_placeB v_turned v_turnedMany v_syndromes v_lightest v_freeMany v_freePlace v_freeSyndrome v_ways v_waysKept v_trace v_comesA v_comesB) → va_S A s.heap H locs → ∀ (ls : Array Slot), lv_has ls 7 [(0, .ref (q 0)), (1, .int x1), (4, .long x4), (6, .int x)] → W p l e rmX12_mend s m args below meth c H locs 0 0 Q (F0 m 69 ls [])) ?_ n x6 hlp
    clear hlp hP hD hS hl
    intro x6 ob hm hst H locs hP hD hS ls hl
    have hm : M_X12_mend_b69 n x1 x4 v_bitsOf v_polyOf v_isLow v_size v_row x6 = some ob := hm
    have hl : lv_has ls 7 [(0, .ref (q 0)), (1, .int x1), (4, .long x4), (6, .int x6)] := hl
    have hP : va_P G vwCl (ww_M q cs v_told v_tell v_sums v_kindOf v_modOf v_bitsOf v_turnOf v_polyOf v_beginOf v_finishOf v_isLow v_weightsOf v_weight v_cell v_size v_row v_keptSize v_keptBefore v_keptAfter v_placeA v_placeB v_turned v_turnedMany v_syndromes v_lightest v_freeMany v_freePlace v_freeSyndrome v_ways v_waysKept v_trace v_comesA v_comesB) H := hP
    have hD : va_D A (ww_M q cs v_told v_tell v_sums v_kindOf v_modOf v_bitsOf v_turnOf v_polyOf v_beginOf v_finishOf v_isLow v_weightsOf v_weight v_cell v_size v_row v_keptSize v_keptBefore v_keptAfter v_placeA v_placeB v_turned v_turnedMany v_syndromes v_lightest v_freeMany v_freePlace v_freeSyndrome v_ways v_waysKept v_trace v_comesA v_comesB) := hD
    unfold M_X12_mend_b69 at hm
    refine lv_iload hx hb dX12_mend_69 (lv_at hl 3 rfl) ?_
    refine lv_bipush (v := 8) hx hb dX12_mend_71 (by decide) ?_
    refine lv_aload_n hx hb dX12_mend_73 rfl (lv_at hl 0 rfl) ?_
    refine va_get (D := G) (ci := 10) (v := .int v_size) (C := RX12) (T := TX12) (N := 33) hx hb hts hinX12 hown hK.1 hP 0 rfl rfl 14 (by decide) wd3 (fun _ h9 => h9) rfl dX12_mend_74 ?_
    refine lv_imul hx hb dX12_mend_77 ?_
    refine lv_icmp_ge (tgt := 139) hx hb dX12_mend_78 (by decide) (fun b10 => ?_) (fun b10 => ?_)
    · have hm := i_t b10 hm
      exact hX _ (st_exit hm hst) H locs hP hD hS ls (lv_sub hl [2] rfl)
    · have hm := i_f b10 hm
      refine lv_aload_n hx hb dX12_mend_81 rfl (lv_at hl 0 rfl) ?_
      refine lv_iload_n hx hb dX12_mend_82 rfl (lv_at hl 1 rfl) ?_
      refine lv_iload hx hb dX12_mend_83 (lv_at hl 3 rfl) ?_
      refine lv_aload_n hx hb dX12_mend_85 rfl (lv_at hl 0 rfl) ?_
      refine va_get (D := G) (ci := 10) (v := .int v_size) (C := RX12) (T := TX12) (N := 33) hx hb hts hinX12 hown hK.1 hP 0 rfl rfl 14 (by decide) wd3 (fun _ h9 => h9) rfl dX12_mend_86 ?_
      obtain ⟨r11, hc_r11, hm⟩ := bs hm
      refine k_calll (va_runV (As := [.int x1, .int x6, .int v_size]) (rest := []) ⟨hx, hb, hml, hown, hts⟩ (c_X12_syndromeOf l G cs q H.size v_told v_tell v_sums v_kindOf v_modOf v_bitsOf v_turnOf v_polyOf v_beginOf v_finishOf v_isLow v_weightsOf v_weight v_cell v_size v_row v_keptSize v_keptBefore v_keptAfter v_placeA v_placeB v_turned v_turnedMany v_syndromes v_lightest v_freeMany v_freePlace v_freeSyndrome v_ways v_waysKept v_trace v_comesA v_comesB   x1 x6 v_size n r11 hc_r11) (cwV 3 hts gX12_mend_X12_syndromeOf rfl rfl rfl ⟨rfl, hd_X12_syndromeOf⟩ ⟨Nat.le_of_ble_eq_true rfl, Nat.le_of_ble_eq_true rfl⟩) ⟨pre_blind, va_recv hK.1 hP (ci := 10) (q0 := 0) rfl rfl, pre_w hK RO.nil hP hD (va_all hD hS hA)⟩ rfl rfl hl.1 rfl (lv_room (Nat.le_of_ble_eq_true rfl)) dX12_mend_89 ⟨Nat.zero_le _, Nat.zero_le _⟩) hS (va_all hD hS hA) (fun H locs hP hD hS => ?_)
      have hP : va_P G vwCl (ww_M q cs v_told v_tell v_sums v_kindOf v_modOf v_bitsOf v_turnOf v_polyOf v_beginOf v_finishOf v_isLow v_weightsOf v_weight v_cell v_size v_row v_keptSize v_keptBefore v_keptAfter v_placeA v_placeB v_turned v_turnedMany v_syndromes v_lightest v_freeMany v_freePlace v_freeSyndrome v_ways v_waysKept v_trace v_comesA v_comesB) H := hP
      have hD : va_D A (ww_M q cs v_told v_tell v_sums v_kindOf v_modOf v_bitsOf v_turnOf v_polyOf v_beginOf v_finishOf v_isLow v_weightsOf v_weight v_cell v_size v_row v_keptSize v_keptBefore v_keptAfter v_placeA v_placeB v_turned v_turnedMany v_syndromes v_lightest v_freeMany v_freePlace v_freeSyndrome v_ways v_waysKept v_trace v_comesA v_comesB) := hD
      refine lv_lload hx hb dX12_mend_92 (lv_at hl 2 rfl) ?_
      refine W.lcmp hx hb dX12_mend_94 ?_
      refine lv_if_ne (tgt := 133) hx hb dX12_mend_95 (by decide) (fun b12 => ?_) (fun b12 => ?_)
      · have b12 := fun h9 => b12 ((lg_cmp_eq _ _).mpr h9)
        have hm := i_f b12 hm
        refine lv_iinc (v := x6 + 1) (lv' := [(6, .int (x6 + 1)), (0, .ref (q 0)), (1, .int x1), (4, .long x4)]) hx hb dX12_mend_133 hl (k := 3) rfl rfl (by decide) rfl (fun ls hl => ?_)
        refine lv_goto (tgt := 69) hx hb dX12_mend_136 (by decide) ?_
        exact st_next hm hst H locs hP hD hS ls (lv_sub hl [1, 2, 3, 0] rfl)
      · have b12 := (lg_cmp_eq _ _).mp b12
        have hm := i_t b12 hm
        refine lv_aload_n hx hb dX12_mend_98 rfl (lv_at hl 0 rfl) ?_
        refine va_get (D := G) (ci := 10) (v := .ref (q 13)) (C := RX12) (T := TX12) (N := 33) hx hb hts hinX12 hown hK.1 hP 0 rfl rfl 15 (by decide) wd2 (fun _ h9 => h9) rfl dX12_mend_99 ?_
        refine lv_iload hx hb dX12_mend_102 (lv_at hl 3 rfl) ?_
        refine lv_bipush (v := 8) hx hb dX12_mend_104 (by decide) ?_
        refine lv_idiv hx hb dX12_mend_106 (by decide) ?_
        refine lv_aload_n hx hb dX12_mend_107 rfl (lv_at hl 0 rfl) ?_
        refine va_get (D := G) (ci := 10) (v := .ref (q 13)) (C := RX12) (T := TX12) (N := 33) hx hb hts hinX12 hown hK.1 hP 0 rfl rfl 15 (by decide) wd2 (fun _ h9 => h9) rfl dX12_mend_108 ?_
        refine lv_iload hx hb dX12_mend_111 (lv_at hl 3 rfl) ?_
        refine lv_bipush (v := 8) hx hb dX12_mend_113 (by decide) ?_
        refine lv_idiv hx hb dX12_mend_115 (by decide) ?_
        obtain ⟨h13, hm⟩ := g_in hm
        refine va_iald hx hb hK.1 hP 13 0 rfl rfl h13 dX12_mend_116 ?_
        refine lv_sipush (v := 128) hx hb dX12_mend_117 (by decide) ?_
        refine lv_iload hx hb dX12_mend_120 (lv_at hl 3 rfl) ?_
        refine lv_bipush (v := 8) hx hb dX12_mend_122 (by decide) ?_
        refine lv_irem hx hb dX12_mend_124 (by decide) ?_
        refine lv_ishr hx hb dX12_mend_125 ?_
        refine lv_ixor hx hb dX12_mend_126 ?_
        obtain ⟨h14, hm⟩ := g_in hm
        refine va_iast hx hb hK.1 hP hD hS 13 0 rfl rfl h14 dX12_mend_127 (fun H locs hP hD hS => ?_)
        have hP : va_P G vwCl (ww_M q cs v_told v_tell v_sums v_kindOf v_modOf v_bitsOf v_turnOf v_polyOf v_beginOf v_finishOf v_isLow v_weightsOf v_weight v_cell v_size (upd v_row (x6 / 8).toNatClampNeg ((v_row (x6 / 8).toNatClampNeg) ^^^ ((128 : Int32) >>> ((x6 - x6 / 8 * 8) &&& 31)))) v_keptSize v_keptBefore v_keptAfter v_placeA v_placeB v_turned v_turnedMany v_syndromes v_lightest v_freeMany v_freePlace v_freeSyndrome v_ways v_waysKept v_trace v_comesA v_comesB) H := hP
        have hD : va_D A (ww_M q cs v_told v_tell v_sums v_kindOf v_modOf v_bitsOf v_turnOf v_polyOf v_beginOf v_finishOf v_isLow v_weightsOf v_weight v_cell v_size (upd v_row (x6 / 8).toNatClampNeg ((v_row (x6 / 8).toNatClampNeg) ^^^ ((128 : Int32) >>> ((x6 - x6 / 8 * 8) &&& 31)))) v_keptSize v_keptBefore v_keptAfter v_placeA v_placeB v_turned v_turnedMany v_syndromes v_lightest v_freeMany v_freePlace v_freeSyndrome v_ways v_waysKept v_trace v_comesA v_comesB) := hD
        refine lv_iconst (v := 1) hx hb dX12_mend_128 (by decide) ?_
        refine lv_iload hx hb dX12_mend_129 (lv_at hl 3 rfl) ?_
        refine lv_iadd hx hb dX12_mend_131 ?_
        have hq := hret _ (st_exit hm hst)
        subst hq; subst hQ
        exact k_iret hx hb hr hlocks hP hD hS rfl trivial dX12_mend_132
  have L156 : ∀ (x4 : Int64) (x6 : Int32) (v_row : (Nat → Int32)) (out : Int32), lp (fun x : Int32 => M_X12_mend_b156 n x4 x) n x6 = some out → (∀ (o : Int32), out = o → ∀ (H : Heap) (locs : List Loc), va_P G vwCl (ww_M q cs v_told v_tell v_sums v_kindOf v_modOf v_bitsOf v_turnOf v_polyOf v_beginOf v_finishOf v_isLow v_weightsOf v_weight v_cell v_size v_row v_keptSize v_keptBefore v_keptAfter v_placeA v_placeB v_turned v_turnedMany v_syndromes v_lightest v_freeMany v_freePlace v_freeSyndrome v_ways v_waysKept v_trace v_comesA v_comesB) H → va_D A (ww_M q cs v_told v_tell v_sums v_kindOf v_modOf v_bitsOf v_turnOf v_polyOf v_beginOf v_finishOf v_isLow v_weightsOf v_weight v_cell v_size v_row v_keptSize v_keptBefore v_keptAfter v_placeA v_placeB v_turned v_turnedMany v_syndromes v_lightest v_freeMany v_freePlace v_freeSyndrome v_ways v_waysKept v_trace v_comesA v_comesB) → va_S A s.heap H locs → ∀ (ls : Array Slot), lv_has ls 7 [(6, .int o)] → W p l e rmX12_mend s m args below meth c H locs 0 0 Q (F0 m 172 ls [])) → ∀ (H : Heap) (locs : List Loc), va_P G vwCl (ww_M q cs v_told v_tell v_sums v_kindOf v_modOf v_bitsOf v_turnOf v_polyOf v_beginOf v_finishOf v_isLow v_weightsOf v_weight v_cell v_size v_row v_keptSize v_keptBefore v_keptAfter v_placeA v_placeB v_turned v_turnedMany v_syndromes v_lightest v_freeMany v_freePlace v_freeSyndrome v_ways v_waysKept v_trace v_comesA v_comesB) H → va_D A (ww_M q cs v_told v_tell v_sums v_kindOf v_modOf v_bitsOf v_turnOf v_polyOf v_beginOf v_finishOf v_isLow v_weightsOf v_weight v_cell v_size v_row v_keptSize v_keptBefore v_keptAfter v_placeA v_placeB v_turned v_turnedMany v_syndromes v_lightest v_freeMany v_freePlace v_freeSyndrome v_ways v_waysKept v_trace v_comesA v_comesB) → va_S A s.heap H locs → ∀ (ls : Array Slot), lv_has ls 7 [(4, .long x4), (6, .int x6)] → W p l e rmX12_mend s m args below meth c H locs 0 0 Q (F0 m 156 ls []) := by
    intro x4 x6 v_row out hlp hX
    refine lp_ind (fun x => ∀ (H : Heap) (locs : List Loc), va_P G vwCl (ww_M q cs v_told v_tell v_sums v_kindOf v_modOf v_bitsOf v_turnOf v_polyOf v_beginOf v_finishOf v_isLow v_weightsOf v_weight v_cell v_size v_row v_keptSize v_keptBefore v_keptAfter v_placeA v_placeB v_turned v_turnedMany v_syndromes v_lightest v_freeMany v_freePlace v_freeSyndrome v_ways v_waysKept v_trace v_comesA v_comesB) H → va_D A (ww_M q cs v_told v_tell v_sums v_kindOf v_modOf v_bitsOf v_turnOf v_polyOf v_beginOf v_finishOf v_isLow v_weightsOf v_weight v_cell v_size v_row v_keptSize v_keptBefore v_keptAfter v_placeA v_placeB v_turned v_turnedMany v_syndromes v_lightest v_freeMany v_freePlace v_freeSyndrome v_ways v_waysKept v_trace v_comesA v_comesB) → va_S A s.heap H locs → ∀ (ls : Array Slot), lv_has ls 7 [(4, .long x4), (6, .int x)] → W p l e rmX12_mend s m args below meth c H locs 0 0 Q (F0 m 156 ls [])) ?_ n x6 hlp
    clear hlp hP hD hS hl
    intro x6 ob hm hst H locs hP hD hS ls hl
    have hm : M_X12_mend_b156 n x4 x6 = some ob := hm
    have hl : lv_has ls 7 [(4, .long x4), (6, .int x6)] := hl
    have hP : va_P G vwCl (ww_M q cs v_told v_tell v_sums v_kindOf v_modOf v_bitsOf v_turnOf v_polyOf v_beginOf v_finishOf v_isLow v_weightsOf v_weight v_cell v_size v_row v_keptSize v_keptBefore v_keptAfter v_placeA v_placeB v_turned v_turnedMany v_syndromes v_lightest v_freeMany v_freePlace v_freeSyndrome v_ways v_waysKept v_trace v_comesA v_comesB) H := hP
    have hD : va_D A (ww_M q cs v_told v_tell v_sums v_kindOf v_modOf v_bitsOf v_turnOf v_polyOf v_beginOf v_finishOf v_isLow v_weightsOf v_weight v_cell v_size v_row v_keptSize v_keptBefore v_keptAfter v_placeA v_placeB v_turned v_turnedMany v_syndromes v_lightest v_freeMany v_freePlace v_freeSyndrome v_ways v_waysKept v_trace v_comesA v_comesB) := hD
    unfold M_X12_mend_b156 at hm
    refine lv_lload hx hb dX12_mend_156 (lv_at hl 0 rfl) ?_
    refine lv_iload hx hb dX12_mend_158 (lv_at hl 1 rfl) ?_
    refine lv_lshr (v := x4 >>> (x6.toInt64 &&& 63)) hx hb dX12_mend_160 rfl ?_
    refine lv_lconst (v := 1) hx hb dX12_mend_161 (by decide) ?_
    refine W.lcmp hx hb dX12_mend_162 ?_
    refine lv_if_eq (tgt := 172) hx hb dX12_mend_163 (by decide) (fun b17 => ?_) (fun b17 => ?_)
    · have b17 := (lg_cmp_eq _ _).mp b17
      have hm := i_t b17 hm
      exact hX _ (st_exit hm hst) H locs hP hD hS ls (lv_sub hl [1] rfl)
    · have b17 := fun h9 => b17 ((lg_cmp_eq _ _).mpr h9)
      have hm := i_f b17 hm
      refine lv_iinc (v := x6 + 1) (lv' := [(6, .int (x6 + 1)), (4, .long x4)]) hx hb dX12_mend_166 hl (k := 1) rfl rfl (by decide) rfl (fun ls hl => ?_)
      refine lv_goto (tgt := 156) hx hb dX12_mend_169 (by decide) ?_
      exact st_next hm hst H locs hP hD hS ls (lv_sub hl [1, 0] rfl)
  unfold M_X12_mend at hm
  refine lv_aload_n hx hb dX12_mend_0 rfl (lv_at hl 0 rfl) ?_
  refine lv_iload_n hx hb dX12_mend_1 rfl (lv_at hl 1 rfl) ?_
  refine k_calli (va_runV (As := [.int x1]) (rest := []) ⟨hx, hb, hml, hown, hts⟩ (c_X12_isSum l G cs q H.size v_told v_tell v_sums v_kindOf v_modOf v_bitsOf v_turnOf v_polyOf v_beginOf v_finishOf v_isLow v_weightsOf v_weight v_cell v_size v_row v_keptSize v_keptBefore v_keptAfter v_placeA v_placeB v_turned v_turnedMany v_syndromes v_lightest v_freeMany v_freePlace v_freeSyndrome v_ways v_waysKept v_trace v_comesA v_comesB   x1 _ rfl) (cwV 1 hts gX12_mend_X12_isSum rfl rfl rfl ⟨rfl, hd_X12_isSum⟩ ⟨Nat.le_of_ble_eq_true rfl, Nat.le_of_ble_eq_true rfl⟩) ⟨pre_blind, va_recv hK.1 hP (ci := 10) (q0 := 0) rfl rfl, pre_w hK RO.nil hP hD (va_all hD hS hA)⟩ rfl rfl hl.1 rfl (lv_room (Nat.le_of_ble_eq_true rfl)) dX12_mend_2 ⟨Nat.zero_le _, Nat.zero_le _⟩) hS (va_all hD hS hA) (fun hE1 H locs hP hD hS => ?_)
  have hP : va_P G vwCl (ww_M q cs v_told v_tell v_sums v_kindOf v_modOf v_bitsOf v_turnOf v_polyOf v_beginOf v_finishOf v_isLow v_weightsOf v_weight v_cell v_size v_row v_keptSize v_keptBefore v_keptAfter v_placeA v_placeB v_turned v_turnedMany v_syndromes v_lightest v_freeMany v_freePlace v_freeSyndrome v_ways v_waysKept v_trace v_comesA v_comesB) H := hP
  have hD : va_D A (ww_M q cs v_told v_tell v_sums v_kindOf v_modOf v_bitsOf v_turnOf v_polyOf v_beginOf v_finishOf v_isLow v_weightsOf v_weight v_cell v_size v_row v_keptSize v_keptBefore v_keptAfter v_placeA v_placeB v_turned v_turnedMany v_syndromes v_lightest v_freeMany v_freePlace v_freeSyndrome v_ways v_waysKept v_trace v_comesA v_comesB) := hD
  refine lv_if_ne (tgt := 11) hx hb dX12_mend_5 (by decide) (fun b2 => ?_) (fun b2 => ?_)
  · have hm := i_f b2 hm
    refine lv_aload_n hx hb dX12_mend_11 rfl (lv_at hl 0 rfl) ?_
    refine va_get (D := G) (ci := 10) (v := .ref (q 2)) (C := RX12) (T := TX12) (N := 33) hx hb hts hinX12 hown hK.1 hP 0 rfl rfl 3 (by decide) wd1 (fun _ h9 => h9) rfl dX12_mend_12 ?_
    refine lv_iload_n hx hb dX12_mend_15 rfl (lv_at hl 1 rfl) ?_
    obtain ⟨h3, hm⟩ := g_in hm
    refine va_iald hx hb hK.1 hP 2 0 rfl rfl h3 dX12_mend_16 ?_
    refine lv_iconst (v := 5) hx hb dX12_mend_17 (by decide) ?_
    refine lv_icmp_eq (tgt := 24) hx hb dX12_mend_18 (by decide) (fun b4 => ?_) (fun b4 => ?_)
    · have hm := i_t b4 hm
      refine lv_lload_n hx hb dX12_mend_24 rfl (lv_at hl 2 rfl) ?_
      refine lv_lconst (v := 0) hx hb dX12_mend_25 (by decide) ?_
      refine lv_aload_n hx hb dX12_mend_26 rfl (lv_at hl 0 rfl) ?_
      refine lv_iload_n hx hb dX12_mend_27 rfl (lv_at hl 1 rfl) ?_
      obtain ⟨r5, hc_r5, hm⟩ := bs hm
      refine k_calll (va_runV (As := [.int x1]) (rest := [.long 0, .long x2]) ⟨hx, hb, hml, hown, hts⟩ (c_X12_mask l G cs q H.size v_told v_tell v_sums v_kindOf v_modOf v_bitsOf v_turnOf v_polyOf v_beginOf v_finishOf v_isLow v_weightsOf v_weight v_cell v_size v_row v_keptSize v_keptBefore v_keptAfter v_placeA v_placeB v_turned v_turnedMany v_syndromes v_lightest v_freeMany v_freePlace v_freeSyndrome v_ways v_waysKept v_trace v_comesA v_comesB   x1 r5 hc_r5) (cwV 1 hts gX12_mend_X12_mask rfl rfl rfl ⟨rfl, hd_X12_mask⟩ ⟨Nat.le_of_ble_eq_true rfl, Nat.le_of_ble_eq_true rfl⟩) ⟨pre_blind, va_recv hK.1 hP (ci := 10) (q0 := 0) rfl rfl, pre_w hK RO.nil hP hD (va_all hD hS hA)⟩ rfl rfl hl.1 rfl (lv_room (Nat.le_of_ble_eq_true rfl)) dX12_mend_28 ⟨Nat.zero_le _, Nat.zero_le _⟩) hS (va_all hD hS hA) (fun H locs hP hD hS => ?_)
      have hP : va_P G vwCl (ww_M q cs v_told v_tell v_sums v_kindOf v_modOf v_bitsOf v_turnOf v_polyOf v_beginOf v_finishOf v_isLow v_weightsOf v_weight v_cell v_size v_row v_keptSize v_keptBefore v_keptAfter v_placeA v_placeB v_turned v_turnedMany v_syndromes v_lightest v_freeMany v_freePlace v_freeSyndrome v_ways v_waysKept v_trace v_comesA v_comesB) H := hP
      have hD : va_D A (ww_M q cs v_told v_tell v_sums v_kindOf v_modOf v_bitsOf v_turnOf v_polyOf v_beginOf v_finishOf v_isLow v_weightsOf v_weight v_cell v_size v_row v_keptSize v_keptBefore v_keptAfter v_placeA v_placeB v_turned v_turnedMany v_syndromes v_lightest v_freeMany v_freePlace v_freeSyndrome v_ways v_waysKept v_trace v_comesA v_comesB) := hD
      refine k_calli0 (va_runS (As := [.long x2, .long 0, .long r5]) (rest := []) ⟨hx, hb, hml, hown, hts⟩ (c_X12_in l G cs H.size    x2 (0 : Int64) r5 _ rfl) (va_cwS 3 hts gX12_mend_X12_in rfl rfl rfl hd_X12_in ⟨Nat.le_of_ble_eq_true rfl, Nat.le_of_ble_eq_true rfl⟩) ⟨pre_blind, pre_w hK RO.nil P0 D0 (va_new0 hS hA)⟩ rfl rfl hl.1 rfl (lv_room (Nat.le_of_ble_eq_true rfl)) dX12_mend_31 ⟨Nat.zero_le _, Nat.zero_le _⟩) hP hS hA (fun hE6 H locs hP hS => ?_)
      refine lv_if_ne (tgt := 40) hx hb dX12_mend_34 (by decide) (fun b7 => ?_) (fun b7 => ?_)
      · have hm := i_f b7 hm
        refine lv_aload_n hx hb dX12_mend_40 rfl (lv_at hl 0 rfl) ?_
        refine lv_iload_n hx hb dX12_mend_41 rfl (lv_at hl 1 rfl) ?_
        refine lv_aload_n hx hb dX12_mend_42 rfl (lv_at hl 0 rfl) ?_
        refine va_get (D := G) (ci := 10) (v := .ref (q 13)) (C := RX12) (T := TX12) (N := 33) hx hb hts hinX12 hown hK.1 hP 0 rfl rfl 15 (by decide) wd2 (fun _ h9 => h9) rfl dX12_mend_43 ?_
        refine lv_aload_n hx hb dX12_mend_46 rfl (lv_at hl 0 rfl) ?_
        refine va_get (D := G) (ci := 10) (v := .int v_size) (C := RX12) (T := TX12) (N := 33) hx hb hts hinX12 hown hK.1 hP 0 rfl rfl 14 (by decide) wd3 (fun _ h9 => h9) rfl dX12_mend_47 ?_
        obtain ⟨r8, hc_r8, hm⟩ := bs hm
        refine k_calll (va_runV (As := [.int x1, .ref (q 13), .int v_size]) (rest := []) ⟨hx, hb, hml, hown, hts⟩ (c_X12_sumOf l G cs q H.size v_told v_tell v_sums v_kindOf v_modOf v_bitsOf v_turnOf v_polyOf v_beginOf v_finishOf v_isLow v_weightsOf v_weight v_cell v_size v_row v_keptSize v_keptBefore v_keptAfter v_placeA v_placeB v_turned v_turnedMany v_syndromes v_lightest v_freeMany v_freePlace v_freeSyndrome v_ways v_waysKept v_trace v_comesA v_comesB   x1 v_size n r8 hc_r8) (cwV 3 hts gX12_mend_X12_sumOf rfl rfl rfl ⟨rfl, hd_X12_sumOf⟩ ⟨Nat.le_of_ble_eq_true rfl, Nat.le_of_ble_eq_true rfl⟩) ⟨pre_blind, va_recv hK.1 hP (ci := 10) (q0 := 0) rfl rfl, pre_w hK RO.nil hP hD (va_all hD hS hA)⟩ rfl rfl hl.1 rfl (lv_room (Nat.le_of_ble_eq_true rfl)) dX12_mend_50 ⟨Nat.zero_le _, Nat.zero_le _⟩) hS (va_all hD hS hA) (fun H locs hP hD hS => ?_)
        have hP : va_P G vwCl (ww_M q cs v_told v_tell v_sums v_kindOf v_modOf v_bitsOf v_turnOf v_polyOf v_beginOf v_finishOf v_isLow v_weightsOf v_weight v_cell v_size v_row v_keptSize v_keptBefore v_keptAfter v_placeA v_placeB v_turned v_turnedMany v_syndromes v_lightest v_freeMany v_freePlace v_freeSyndrome v_ways v_waysKept v_trace v_comesA v_comesB) H := hP
        have hD : va_D A (ww_M q cs v_told v_tell v_sums v_kindOf v_modOf v_bitsOf v_turnOf v_polyOf v_beginOf v_finishOf v_isLow v_weightsOf v_weight v_cell v_size v_row v_keptSize v_keptBefore v_keptAfter v_placeA v_placeB v_turned v_turnedMany v_syndromes v_lightest v_freeMany v_freePlace v_freeSyndrome v_ways v_waysKept v_trace v_comesA v_comesB) := hD
        refine lv_lload_n hx hb dX12_mend_53 rfl (lv_at hl 2 rfl) ?_
        refine lv_lxor hx hb dX12_mend_54 ?_
        refine lv_lstore (lv' := [(4, .long (r8 ^^^ x2)), (0, .ref (q 0)), (1, .int x1), (2, .long x2)]) hx hb dX12_mend_55 hl (by decide) rfl (fun ls hl => ?_)
        refine lv_lload hx hb dX12_mend_57 (lv_at hl 0 rfl) ?_
        refine lv_lconst (v := 0) hx hb dX12_mend_59 (by decide) ?_
        refine W.lcmp hx hb dX12_mend_60 ?_
        refine lv_if_ne (tgt := 66) hx hb dX12_mend_61 (by decide) (fun b9 => ?_) (fun b9 => ?_)
        · have b9 := fun h9 => b9 ((lg_cmp_eq _ _).mpr h9)
          have hm := i_f b9 hm
          refine lv_iconst (v := 0) hx hb dX12_mend_66 (by decide) ?_
          refine lv_istore (lv' := [(6, .int 0), (4, .long (r8 ^^^ x2)), (0, .ref (q 0)), (1, .int x1), (2, .long x2)]) hx hb dX12_mend_67 hl (by decide) rfl (fun ls hl => ?_)
          obtain ⟨u15, hlp15, hm⟩ := bs hm
          refine L69 x1 (r8 ^^^ x2) (0 : Int32) v_row u15 hlp15 (fun r h => Option.some.inj (se_r h hm)) (fun o15 ho => ?_) H locs hP hD hS ls (lv_sub hl [2, 3, 1, 0] rfl)
          have hm := se_l ho hm
          intro H locs hP hD hS ls hl
          have hl : lv_has ls 7 [(4, .long (r8 ^^^ x2))] := hl
          have hP : va_P G vwCl (ww_M q cs v_told v_tell v_sums v_kindOf v_modOf v_bitsOf v_turnOf v_polyOf v_beginOf v_finishOf v_isLow v_weightsOf v_weight v_cell v_size v_row v_keptSize v_keptBefore v_keptAfter v_placeA v_placeB v_turned v_turnedMany v_syndromes v_lightest v_freeMany v_freePlace v_freeSyndrome v_ways v_waysKept v_trace v_comesA v_comesB) H := hP
          have hD : va_D A (ww_M q cs v_told v_tell v_sums v_kindOf v_modOf v_bitsOf v_turnOf v_polyOf v_beginOf v_finishOf v_isLow v_weightsOf v_weight v_cell v_size v_row v_keptSize v_keptBefore v_keptAfter v_placeA v_placeB v_turned v_turnedMany v_syndromes v_lightest v_freeMany v_freePlace v_freeSyndrome v_ways v_waysKept v_trace v_comesA v_comesB) := hD
          refine lv_lload hx hb dX12_mend_139 (lv_at hl 0 rfl) ?_
          refine lv_lload hx hb dX12_mend_141 (lv_at hl 0 rfl) ?_
          refine lv_lconst (v := 1) hx hb dX12_mend_143 (by decide) ?_
          refine lv_lsub hx hb dX12_mend_144 ?_
          refine lv_land hx hb dX12_mend_145 ?_
          refine lv_lconst (v := 0) hx hb dX12_mend_146 (by decide) ?_
          refine W.lcmp hx hb dX12_mend_147 ?_
          refine lv_if_eq (tgt := 153) hx hb dX12_mend_148 (by decide) (fun b16 => ?_) (fun b16 => ?_)
          · have b16 := (lg_cmp_eq _ _).mp b16
            have hm := i_t b16 hm
            refine lv_iconst (v := 0) hx hb dX12_mend_153 (by decide) ?_
            refine lv_istore (lv' := [(6, .int 0), (4, .long (r8 ^^^ x2))]) hx hb dX12_mend_154 hl (by decide) rfl (fun ls hl => ?_)
            obtain ⟨o18, hlp18, hm⟩ := bs hm
            refine L156 (r8 ^^^ x2) (0 : Int32) v_row o18 hlp18 (fun oo ho => ?_) H locs hP hD hS ls (lv_sub hl [1, 0] rfl)
            subst ho
            intro H locs hP hD hS ls hl
            have hl : lv_has ls 7 [(6, .int o18)] := hl
            have hP : va_P G vwCl (ww_M q cs v_told v_tell v_sums v_kindOf v_modOf v_bitsOf v_turnOf v_polyOf v_beginOf v_finishOf v_isLow v_weightsOf v_weight v_cell v_size v_row v_keptSize v_keptBefore v_keptAfter v_placeA v_placeB v_turned v_turnedMany v_syndromes v_lightest v_freeMany v_freePlace v_freeSyndrome v_ways v_waysKept v_trace v_comesA v_comesB) H := hP
            have hD : va_D A (ww_M q cs v_told v_tell v_sums v_kindOf v_modOf v_bitsOf v_turnOf v_polyOf v_beginOf v_finishOf v_isLow v_weightsOf v_weight v_cell v_size v_row v_keptSize v_keptBefore v_keptAfter v_placeA v_placeB v_turned v_turnedMany v_syndromes v_lightest v_freeMany v_freePlace v_freeSyndrome v_ways v_waysKept v_trace v_comesA v_comesB) := hD
            refine lv_sipush (v := 1000) hx hb dX12_mend_172 (by decide) ?_
            refine lv_iload hx hb dX12_mend_175 (lv_at hl 0 rfl) ?_
            refine lv_iadd hx hb dX12_mend_177 ?_
            have hq := Option.some.inj hm
            subst hq; subst hQ
            exact k_iret hx hb hr hlocks hP hD hS rfl trivial dX12_mend_178
          · have b16 := fun h9 => b16 ((lg_cmp_eq _ _).mpr h9)
            have hm := i_f b16 hm
            refine lv_iconst (v := (-1)) hx hb dX12_mend_151 (by decide) ?_
            have hq := Option.some.inj hm
            subst hq; subst hQ
            exact k_iret hx hb hr hlocks hP hD hS rfl trivial dX12_mend_152
        · have b9 := (lg_cmp_eq _ _).mp b9
          have hm := i_t b9 hm
          refine lv_iconst (v := 0) hx hb dX12_mend_64 (by decide) ?_
          have hq := Option.some.inj hm
          subst hq; subst hQ
          exact k_iret hx hb hr hlocks hP hD hS rfl trivial dX12_mend_65
      · have hm := i_t b7 hm
        refine lv_bipush (v := (-3)) hx hb dX12_mend_37 (by decide) ?_
        have hq := Option.some.inj hm
        subst hq; subst hQ
        exact k_iret hx hb hr hlocks hP hD hS rfl trivial dX12_mend_39
    · have hm := i_f b4 hm
      refine lv_bipush (v := (-4)) hx hb dX12_mend_21 (by decide) ?_
      have hq := Option.some.inj hm
      subst hq; subst hQ
      exact k_iret hx hb hr hlocks hP hD hS rfl trivial dX12_mend_23
  · have hm := i_t b2 hm
    refine lv_bipush (v := (-2)) hx hb dX12_mend_8 (by decide) ?_
    have hq := Option.some.inj hm
    subst hq; subst hQ
    exact k_iret hx hb hr hlocks hP hD hS rfl trivial dX12_mend_10

theorem hd_X12_reach : yX12_reach.cls ≠ "java/lang/invoke/MethodHandle" ∧ yX12_reach.cls ≠ "java/lang/invoke/VarHandle" ∧ (parseMethodDescriptor yX12_reach.desc).map (fun d => d.parameters.length) = some 1 := by decide +kernel

def M_X12_reach_b85 (n : Nat) (x2 : Int32) (x4 : Int32) (x5 : Int64) (v_syndromes : (Nat → Int64)) (x3 : Int32) (x7 : Int32) : Option ((Int32 × Int32) ⊕ Int32) :=
  if ((8 * x2) + x4) ≤ x7 then (some (.inr x3)) else (if x3 = 0 then (some (.inl (0, x7 + 1))) else (if x7 < 0 ∨ 512 ≤ x7.toNatClampNeg then none else if (v_syndromes x7.toNatClampNeg) = x5 then (some (.inl (0, x7 + 1))) else (some (.inl (1, x7 + 1)))))

def M_X12_reach_b41 (n : Nat) (x1 : Int32) (x2 : Int32) (v_bitsOf : (Nat → Int32)) (v_polyOf : (Nat → Int64)) (v_isLow : (Nat → Int32)) (x3 : Int32) (x4 : Int32) (v_syndromes : (Nat → Int64)) : Option ((Int32 × Int32 × (Nat → Int64)) ⊕ (Int32 × (Nat → Int64))) :=
  if 8 ≤ x4 then (some (.inr (x3, v_syndromes))) else ((M_X12_syndromeOf n x1 x4 (x2 + 1) v_bitsOf v_polyOf v_isLow).bind fun r8 => if x3 = 0 then ((lp (fun x : (Int32 × Int32) => M_X12_reach_b85 n x2 x4 r8 v_syndromes x.1 x.2) n ((0 : Int32), (0 : Int32))).bind fun o14 => if ((8 * x2) + x4) < 0 ∨ 512 ≤ ((8 * x2) + x4).toNatClampNeg then none else some (.inl (o14, x4 + 1, (vp_updL v_syndromes ((8 * x2) + x4).toNatClampNeg r8)))) else (if (r8 &&& (r8 - 1)) = 0 then ((lp (fun x : (Int32 × Int32) => M_X12_reach_b85 n x2 x4 r8 v_syndromes x.1 x.2) n ((0 : Int32), (0 : Int32))).bind fun o17 => if ((8 * x2) + x4) < 0 ∨ 512 ≤ ((8 * x2) + x4).toNatClampNeg then none else some (.inl (o17, x4 + 1, (vp_updL v_syndromes ((8 * x2) + x4).toNatClampNeg r8)))) else ((lp (fun x : (Int32 × Int32) => M_X12_reach_b85 n x2 x4 r8 v_syndromes x.1 x.2) n ((1 : Int32), (0 : Int32))).bind fun o19 => if ((8 * x2) + x4) < 0 ∨ 512 ≤ ((8 * x2) + x4).toNatClampNeg then none else some (.inl (o19, x4 + 1, (vp_updL v_syndromes ((8 * x2) + x4).toNatClampNeg r8))))))

def M_X12_reach_b28 (n : Nat) (x1 : Int32) (v_bitsOf : (Nat → Int32)) (v_polyOf : (Nat → Int64)) (v_isLow : (Nat → Int32)) (x2 : Int32) (x3 : Int32) (v_syndromes : (Nat → Int64)) : Option ((Int32 × Int32 × (Nat → Int64)) ⊕ (Int32 × (Nat → Int64))) :=
  if x3 = 0 then (some (.inr (x2, v_syndromes))) else (if 64 ≤ x2 then (some (.inr (x2, v_syndromes))) else ((lp (fun x : (Int32 × Int32 × (Nat → Int64)) => M_X12_reach_b41 n x1 x2 v_bitsOf v_polyOf v_isLow x.1 x.2.1 x.2.2) n (x3, (0 : Int32), v_syndromes)).bind fun o21 => if o21.1 = 0 then (some (.inl (x2 + 0, o21.1, o21.2))) else (some (.inl (x2 + 1, o21.1, o21.2)))))

def M_X12_reach (n : Nat) (x1 : Int32) (v_sums : Int32) (v_kindOf : (Nat → Int32)) (v_bitsOf : (Nat → Int32)) (v_polyOf : (Nat → Int64)) (v_isLow : (Nat → Int32)) (v_syndromes : (Nat → Int64)) : Option (Int32 × (Nat → Int64)) :=
  if (M_X12_isSum x1 v_sums) = 0 then (some ((-2), v_syndromes)) else (if x1 < 0 ∨ 16 ≤ x1.toNatClampNeg then none else if (v_kindOf x1.toNatClampNeg) = 5 then ((lp (fun x : (Int32 × Int32 × (Nat → Int64)) => M_X12_reach_b28 n x1 v_bitsOf v_polyOf v_isLow x.1 x.2.1 x.2.2) n ((0 : Int32), (1 : Int32), v_syndromes)).bind fun o23 => some (o23.1, o23.2)) else (some ((-4), v_syndromes)))

abbrev rmX12_reach : Room := { frames := 3, cells := 0, slots := 0, locals := 82 }
set_option maxHeartbeats 4000000 in
set_option maxRecDepth 100000 in
theorem c_X12_reach (l : Launch) (G : va_G) (cs : CS) (q : Nat → Nat) (sz : Nat) (v_told : Int32) (v_tell : (Nat → Int32)) (v_sums : Int32) (v_kindOf : (Nat → Int32)) (v_modOf : (Nat → Int32)) (v_bitsOf : (Nat → Int32)) (v_turnOf : (Nat → Int32)) (v_polyOf : (Nat → Int64)) (v_beginOf : (Nat → Int64)) (v_finishOf : (Nat → Int64)) (v_isLow : (Nat → Int32)) (v_weightsOf : (Nat → Int32)) (v_weight : (Nat → Int32)) (v_cell : (Nat → Int32)) (v_size : Int32) (v_row : (Nat → Int32)) (v_keptSize : Int32) (v_keptBefore : (Nat → Int32)) (v_keptAfter : (Nat → Int32)) (v_placeA : (Nat → Int64)) (v_placeB : (Nat → Int64)) (v_turned : (Nat → Int32)) (v_turnedMany : Int32) (v_syndromes : (Nat → Int64)) (v_lightest : (Nat → Int32)) (v_freeMany : Int32) (v_freePlace : (Nat → Int32)) (v_freeSyndrome : (Nat → Int64)) (v_ways : (Nat → Int32)) (v_waysKept : Int32) (v_trace : (Nat → Int32)) (v_comesA : Int64) (v_comesB : Int64)   (x1 : Int32) (n : Nat) (res : (Int32 × (Nat → Int64))) (hm : M_X12_reach n x1 v_sums v_kindOf v_bitsOf v_polyOf v_isLow v_syndromes = some res) : Met l yX12_reach wsX12_reach rmX12_reach (va_Pc [.ref (q 0), .int x1] (PreW G cs sz (ww_M q cs v_told v_tell v_sums v_kindOf v_modOf v_bitsOf v_turnOf v_polyOf v_beginOf v_finishOf v_isLow v_weightsOf v_weight v_cell v_size v_row v_keptSize v_keptBefore v_keptAfter v_placeA v_placeB v_turned v_turnedMany v_syndromes v_lightest v_freeMany v_freePlace v_freeSyndrome v_ways v_waysKept v_trace v_comesA v_comesB) RN)) (QI G res.1 True (ww_M q cs v_told v_tell v_sums v_kindOf v_modOf v_bitsOf v_turnOf v_polyOf v_beginOf v_finishOf v_isLow v_weightsOf v_weight v_cell v_size v_row v_keptSize v_keptBefore v_keptAfter v_placeA v_placeB v_turned v_turnedMany res.2 v_lightest v_freeMany v_freePlace v_freeSyndrome v_ways v_waysKept v_trace v_comesA v_comesB) (va_A (ww_M q cs v_told v_tell v_sums v_kindOf v_modOf v_bitsOf v_turnOf v_polyOf v_beginOf v_finishOf v_isLow v_weightsOf v_weight v_cell v_size v_row v_keptSize v_keptBefore v_keptAfter v_placeA v_placeB v_turned v_turnedMany v_syndromes v_lightest v_freeMany v_freePlace v_freeSyndrome v_ways v_waysKept v_trace v_comesA v_comesB) sz)) 0 0 (va_A (ww_M q cs v_told v_tell v_sums v_kindOf v_modOf v_bitsOf v_turnOf v_polyOf v_beginOf v_finishOf v_isLow v_weightsOf v_weight v_cell v_size v_row v_keptSize v_keptBefore v_keptAfter v_placeA v_placeB v_turned v_turnedMany v_syndromes v_lightest v_freeMany v_freePlace v_freeSyndrome v_ways v_waysKept v_trace v_comesA v_comesB) sz) := by
  refine k_enter (Qf := fun A => QI G res.1 True (ww_M q cs v_told v_tell v_sums v_kindOf v_modOf v_bitsOf v_turnOf v_polyOf v_beginOf v_finishOf v_isLow v_weightsOf v_weight v_cell v_size v_row v_keptSize v_keptBefore v_keptAfter v_placeA v_placeB v_turned v_turnedMany res.2 v_lightest v_freeMany v_freePlace v_freeSyndrome v_ways v_waysKept v_trace v_comesA v_comesB) A) (cc := cX12_reach) (maxL := 8) (ret := (some .int)) (plainFor_of_name (by decide)) rfl (Nat.le_of_ble_eq_true rfl) ?_
  intro p e s m args below meth c A Q ls H locs hx hb hr hml hown hts hlocks hname hK hA hRo hP hD hS hQ hl
  have hl : lv_has ls 8 [(0, .ref (q 0)), (1, .int x1)] := hl
  have wd1 := hts (.fieldLink RX12 13 "SumSmithModel" "kindOf" "[I") (List.mem_of_getElem? (i := 1) rfl)
  have wd2 := hts (.fieldLink RX12 66 "SumSmithModel" "syndromes" "[J") (List.mem_of_getElem? (i := 2) rfl)
  have hinX12 : ∀ w ∈ wsX120, w ∈ wsX12_reach := fun w h => List.mem_cons_of_mem _ (List.mem_append_right _ h)
  have L85 : ∀ (x1 : Int32) (x2 : Int32) (x3 : Int32) (x4 : Int32) (x5 : Int64) (x7 : Int32) (v_syndromes : (Nat → Int64)) (out : Int32), lp (fun x : (Int32 × Int32) => M_X12_reach_b85 n x2 x4 x5 v_syndromes x.1 x.2) n (x3, x7) = some out → (∀ (o : Int32), out = o → ∀ (H : Heap) (locs : List Loc), va_P G vwCl (ww_M q cs v_told v_tell v_sums v_kindOf v_modOf v_bitsOf v_turnOf v_polyOf v_beginOf v_finishOf v_isLow v_weightsOf v_weight v_cell v_size v_row v_keptSize v_keptBefore v_keptAfter v_placeA v_placeB v_turned v_turnedMany v_syndromes v_lightest v_freeMany v_freePlace v_freeSyndrome v_ways v_waysKept v_trace v_comesA v_comesB) H → va_D A (ww_M q cs v_told v_tell v_sums v_kindOf v_modOf v_bitsOf v_turnOf v_polyOf v_beginOf v_finishOf v_isLow v_weightsOf v_weight v_cell v_size v_row v_keptSize v_keptBefore v_keptAfter v_placeA v_placeB v_turned v_turnedMany v_syndromes v_lightest v_freeMany v_freePlace v_freeSyndrome v_ways v_waysKept v_trace v_comesA v_comesB) → va_S A s.heap H locs → ∀ (ls : Array Slot), lv_has ls 8 [(0, .ref (q 0)), (1, .int x1), (2, .int x2), (3, .int o), (4, .int x4), (5, .long x5)] → W p l e rmX12_reach s m args below meth c H locs 0 0 Q (F0 m 126 ls [])) → ∀ (H : Heap) (locs : List Loc), va_P G vwCl (ww_M q cs v_told v_tell v_sums v_kindOf v_modOf v_bitsOf v_turnOf v_polyOf v_beginOf v_finishOf v_isLow v_weightsOf v_weight v_cell v_size v_row v_keptSize v_keptBefore v_keptAfter v_placeA v_placeB v_turned v_turnedMany v_syndromes v_lightest v_freeMany v_freePlace v_freeSyndrome v_ways v_waysKept v_trace v_comesA v_comesB) H → va_D A (ww_M q cs v_told v_tell v_sums v_kindOf v_modOf v_bitsOf v_turnOf v_polyOf v_beginOf v_finishOf v_isLow v_weightsOf v_weight v_cell v_size v_row v_keptSize v_keptBefore v_keptAfter v_placeA v_placeB v_turned v_turnedMany v_syndromes v_lightest v_freeMany v_freePlace v_freeSyndrome v_ways v_waysKept v_trace v_comesA v_comesB) → va_S A s.heap H locs → ∀ (ls : Array Slot), lv_has ls 8 [(0, .ref (q 0)), (1, .int x1), (2, .int x2), (3, .int x3), (4, .int x4), (5, .long x5), (7, .int x7)] → W p l e rmX12_reach s m args below meth c H locs 0 0 Q (F0 m 85 ls []) := by
    intro x1 x2 x3 x4 x5 x7 v_syndromes out hlp hX
    refine lp_ind (fun x => ∀ (H : Heap) (locs : List Loc), va_P G vwCl (ww_M q cs v_told v_tell v_sums v_kindOf v_modOf v_bitsOf v_turnOf v_polyOf v_beginOf v_finishOf v_isLow v_weightsOf v_weight v_cell v_size v_row v_keptSize v_keptBefore v_keptAfter v_placeA v_placeB v_turned v_turnedMany v_syndromes v_lightest v_freeMany v_freePlace v_freeSyndrome v_ways v_waysKept v_trace v_comesA v_comesB) H → va_D A (ww_M q cs v_told v_tell v_sums v_kindOf v_modOf v_bitsOf v_turnOf v_polyOf v_beginOf v_finishOf v_isLow v_weightsOf v_weight v_cell v_size v_row v_keptSize v_keptBefore v_keptAfter v_placeA v_placeB v_turned v_turnedMany v_syndromes v_lightest v_freeMany v_freePlace v_freeSyndrome v_ways v_waysKept v_trace v_comesA v_comesB) → va_S A s.heap H locs → ∀ (ls : Array Slot), lv_has ls 8 [(0, .ref (q 0)), (1, .int x1), (2, .int x2), (3, .int x.1), (4, .int x4), (5, .long x5), (7, .int x.2)] → W p l e rmX12_reach s m args below meth c H locs 0 0 Q (F0 m 85 ls [])) ?_ n (x3, x7) hlp
    clear hlp hP hD hS hl
    rintro ⟨x3, x7⟩ ob hm hst H locs hP hD hS ls hl
    have hm : M_X12_reach_b85 n x2 x4 x5 v_syndromes x3 x7 = some ob := hm
    have hl : lv_has ls 8 [(0, .ref (q 0)), (1, .int x1), (2, .int x2), (3, .int x3), (4, .int x4), (5, .long x5), (7, .int x7)] := hl
    have hP : va_P G vwCl (ww_M q cs v_told v_tell v_sums v_kindOf v_modOf v_bitsOf v_turnOf v_polyOf v_beginOf v_finishOf v_isLow v_weightsOf v_weight v_cell v_size v_row v_keptSize v_keptBefore v_keptAfter v_placeA v_placeB v_turned v_turnedMany v_syndromes v_lightest v_freeMany v_freePlace v_freeSyndrome v_ways v_waysKept v_trace v_comesA v_comesB) H := hP
    have hD : va_D A (ww_M q cs v_told v_tell v_sums v_kindOf v_modOf v_bitsOf v_turnOf v_polyOf v_beginOf v_finishOf v_isLow v_weightsOf v_weight v_cell v_size v_row v_keptSize v_keptBefore v_keptAfter v_placeA v_placeB v_turned v_turnedMany v_syndromes v_lightest v_freeMany v_freePlace v_freeSyndrome v_ways v_waysKept v_trace v_comesA v_comesB) := hD
    unfold M_X12_reach_b85 at hm
    refine lv_iload hx hb dX12_reach_85 (lv_at hl 6 rfl) ?_
    refine lv_bipush (v := 8) hx hb dX12_reach_87 (by decide) ?_
    refine lv_iload_n hx hb dX12_reach_89 rfl (lv_at hl 2 rfl) ?_
    refine lv_imul hx hb dX12_reach_90 ?_
    refine lv_iload hx hb dX12_reach_91 (lv_at hl 4 rfl) ?_
    refine lv_iadd hx hb dX12_reach_93 ?_
    refine lv_icmp_ge (tgt := 126) hx hb dX12_reach_94 (by decide) (fun b10 => ?_) (fun b10 => ?_)
    · have hm := i_t b10 hm
      exact hX _ (st_exit hm hst) H locs hP hD hS ls (lv_sub hl [0, 1, 2, 3, 4, 5] rfl)
    · have hm := i_f b10 hm
      refine lv_iload_n hx hb dX12_reach_97 rfl (lv_at hl 3 rfl) ?_
      refine lv_if_eq (tgt := 118) hx hb dX12_reach_98 (by decide) (fun b11 => ?_) (fun b11 => ?_)
      · have hm := i_t b11 hm
        refine lv_iconst (v := 0) hx hb dX12_reach_118 (by decide) ?_
        refine lv_istore_n (lv' := [(3, .int 0), (0, .ref (q 0)), (1, .int x1), (2, .int x2), (4, .int x4), (5, .long x5), (7, .int x7)]) hx hb dX12_reach_119 rfl hl (by decide) rfl (fun ls hl => ?_)
        refine lv_iinc (v := x7 + 1) (lv' := [(7, .int (x7 + 1)), (3, .int 0), (0, .ref (q 0)), (1, .int x1), (2, .int x2), (4, .int x4), (5, .long x5)]) hx hb dX12_reach_120 hl (k := 6) rfl rfl (by decide) rfl (fun ls hl => ?_)
        refine lv_goto (tgt := 85) hx hb dX12_reach_123 (by decide) ?_
        exact st_next hm hst H locs hP hD hS ls (lv_sub hl [2, 3, 4, 1, 5, 6, 0] rfl)
      · have hm := i_f b11 hm
        refine lv_aload_n hx hb dX12_reach_101 rfl (lv_at hl 0 rfl) ?_
        refine va_get (D := G) (ci := 10) (v := .ref (q 19)) (C := RX12) (T := TX12) (N := 33) hx hb hts hinX12 hown hK.1 hP 0 rfl rfl 23 (by decide) wd2 (fun _ h9 => h9) rfl dX12_reach_102 ?_
        refine lv_iload hx hb dX12_reach_105 (lv_at hl 6 rfl) ?_
        obtain ⟨h12, hm⟩ := g_in hm
        refine va_lald hx hb hK.1 hP 19 1 rfl rfl h12 dX12_reach_107 ?_
        refine lv_lload hx hb dX12_reach_108 (lv_at hl 5 rfl) ?_
        refine W.lcmp hx hb dX12_reach_110 ?_
        refine lv_if_eq (tgt := 118) hx hb dX12_reach_111 (by decide) (fun b13 => ?_) (fun b13 => ?_)
        · have b13 := (lg_cmp_eq _ _).mp b13
          have hm := i_t b13 hm
          refine lv_iconst (v := 0) hx hb dX12_reach_118 (by decide) ?_
          refine lv_istore_n (lv' := [(3, .int 0), (0, .ref (q 0)), (1, .int x1), (2, .int x2), (4, .int x4), (5, .long x5), (7, .int x7)]) hx hb dX12_reach_119 rfl hl (by decide) rfl (fun ls hl => ?_)
          refine lv_iinc (v := x7 + 1) (lv' := [(7, .int (x7 + 1)), (3, .int 0), (0, .ref (q 0)), (1, .int x1), (2, .int x2), (4, .int x4), (5, .long x5)]) hx hb dX12_reach_120 hl (k := 6) rfl rfl (by decide) rfl (fun ls hl => ?_)
          refine lv_goto (tgt := 85) hx hb dX12_reach_123 (by decide) ?_
          exact st_next hm hst H locs hP hD hS ls (lv_sub hl [2, 3, 4, 1, 5, 6, 0] rfl)
        · have b13 := fun h9 => b13 ((lg_cmp_eq _ _).mpr h9)
          have hm := i_f b13 hm
          refine lv_iconst (v := 1) hx hb dX12_reach_114 (by decide) ?_
          refine lv_goto (tgt := 119) hx hb dX12_reach_115 (by decide) ?_
          refine lv_istore_n (lv' := [(3, .int 1), (0, .ref (q 0)), (1, .int x1), (2, .int x2), (4, .int x4), (5, .long x5), (7, .int x7)]) hx hb dX12_reach_119 rfl hl (by decide) rfl (fun ls hl => ?_)
          refine lv_iinc (v := x7 + 1) (lv' := [(7, .int (x7 + 1)), (3, .int 1), (0, .ref (q 0)), (1, .int x1), (2, .int x2), (4, .int x4), (5, .long x5)]) hx hb dX12_reach_120 hl (k := 6) rfl rfl (by decide) rfl (fun ls hl => ?_)
          refine lv_goto (tgt := 85) hx hb dX12_reach_123 (by decide) ?_
          exact st_next hm hst H locs hP hD hS ls (lv_sub hl [2, 3, 4, 1, 5, 6, 0] rfl)
  have L41 : ∀ (x1 : Int32) (x2 : Int32) (x3 : Int32) (x4 : Int32) (v_syndromes : (Nat → Int64)) (out : (Int32 × (Nat → Int64))), lp (fun x : (Int32 × Int32 × (Nat → Int64)) => M_X12_reach_b41 n x1 x2 v_bitsOf v_polyOf v_isLow x.1 x.2.1 x.2.2) n (x3, x4, v_syndromes) = some out → (∀ (o : (Int32 × (Nat → Int64))), out = o → ∀ (H : Heap) (locs : List Loc), va_P G vwCl (ww_M q cs v_told v_tell v_sums v_kindOf v_modOf v_bitsOf v_turnOf v_polyOf v_beginOf v_finishOf v_isLow v_weightsOf v_weight v_cell v_size v_row v_keptSize v_keptBefore v_keptAfter v_placeA v_placeB v_turned v_turnedMany o.2 v_lightest v_freeMany v_freePlace v_freeSyndrome v_ways v_waysKept v_trace v_comesA v_comesB) H → va_D A (ww_M q cs v_told v_tell v_sums v_kindOf v_modOf v_bitsOf v_turnOf v_polyOf v_beginOf v_finishOf v_isLow v_weightsOf v_weight v_cell v_size v_row v_keptSize v_keptBefore v_keptAfter v_placeA v_placeB v_turned v_turnedMany o.2 v_lightest v_freeMany v_freePlace v_freeSyndrome v_ways v_waysKept v_trace v_comesA v_comesB) → va_S A s.heap H locs → ∀ (ls : Array Slot), lv_has ls 8 [(0, .ref (q 0)), (1, .int x1), (2, .int x2), (3, .int o.1)] → W p l e rmX12_reach s m args below meth c H locs 0 0 Q (F0 m 146 ls [])) → ∀ (H : Heap) (locs : List Loc), va_P G vwCl (ww_M q cs v_told v_tell v_sums v_kindOf v_modOf v_bitsOf v_turnOf v_polyOf v_beginOf v_finishOf v_isLow v_weightsOf v_weight v_cell v_size v_row v_keptSize v_keptBefore v_keptAfter v_placeA v_placeB v_turned v_turnedMany v_syndromes v_lightest v_freeMany v_freePlace v_freeSyndrome v_ways v_waysKept v_trace v_comesA v_comesB) H → va_D A (ww_M q cs v_told v_tell v_sums v_kindOf v_modOf v_bitsOf v_turnOf v_polyOf v_beginOf v_finishOf v_isLow v_weightsOf v_weight v_cell v_size v_row v_keptSize v_keptBefore v_keptAfter v_placeA v_placeB v_turned v_turnedMany v_syndromes v_lightest v_freeMany v_freePlace v_freeSyndrome v_ways v_waysKept v_trace v_comesA v_comesB) → va_S A s.heap H locs → ∀ (ls : Array Slot), lv_has ls 8 [(0, .ref (q 0)), (1, .int x1), (2, .int x2), (3, .int x3), (4, .int x4)] → W p l e rmX12_reach s m args below meth c H locs 0 0 Q (F0 m 41 ls []) := by
    intro x1 x2 x3 x4 v_syndromes out hlp hX
    refine lp_ind (fun x => ∀ (H : Heap) (locs : List Loc), va_P G vwCl (ww_M q cs v_told v_tell v_sums v_kindOf v_modOf v_bitsOf v_turnOf v_polyOf v_beginOf v_finishOf v_isLow v_weightsOf v_weight v_cell v_size v_row v_keptSize v_keptBefore v_keptAfter v_placeA v_placeB v_turned v_turnedMany x.2.2 v_lightest v_freeMany v_freePlace v_freeSyndrome v_ways v_waysKept v_trace v_comesA v_comesB) H → va_D A (ww_M q cs v_told v_tell v_sums v_kindOf v_modOf v_bitsOf v_turnOf v_polyOf v_beginOf v_finishOf v_isLow v_weightsOf v_weight v_cell v_size v_row v_keptSize v_keptBefore v_keptAfter v_placeA v_placeB v_turned v_turnedMany x.2.2 v_lightest v_freeMany v_freePlace v_freeSyndrome v_ways v_waysKept v_trace v_comesA v_comesB) → va_S A s.heap H locs → ∀ (ls : Array Slot), lv_has ls 8 [(0, .ref (q 0)), (1, .int x1), (2, .int x2), (3, .int x.1), (4, .int x.2.1)] → W p l e rmX12_reach s m args below meth c H locs 0 0 Q (F0 m 41 ls [])) ?_ n (x3, x4, v_syndromes) hlp
    clear hlp hP hD hS hl
    rintro ⟨x3, x4, v_syndromes⟩ ob hm hst H locs hP hD hS ls hl
    have hm : M_X12_reach_b41 n x1 x2 v_bitsOf v_polyOf v_isLow x3 x4 v_syndromes = some ob := hm
    have hl : lv_has ls 8 [(0, .ref (q 0)), (1, .int x1), (2, .int x2), (3, .int x3), (4, .int x4)] := hl
    have hP : va_P G vwCl (ww_M q cs v_told v_tell v_sums v_kindOf v_modOf v_bitsOf v_turnOf v_polyOf v_beginOf v_finishOf v_isLow v_weightsOf v_weight v_cell v_size v_row v_keptSize v_keptBefore v_keptAfter v_placeA v_placeB v_turned v_turnedMany v_syndromes v_lightest v_freeMany v_freePlace v_freeSyndrome v_ways v_waysKept v_trace v_comesA v_comesB) H := hP
    have hD : va_D A (ww_M q cs v_told v_tell v_sums v_kindOf v_modOf v_bitsOf v_turnOf v_polyOf v_beginOf v_finishOf v_isLow v_weightsOf v_weight v_cell v_size v_row v_keptSize v_keptBefore v_keptAfter v_placeA v_placeB v_turned v_turnedMany v_syndromes v_lightest v_freeMany v_freePlace v_freeSyndrome v_ways v_waysKept v_trace v_comesA v_comesB) := hD
    unfold M_X12_reach_b41 at hm
    refine lv_iload hx hb dX12_reach_41 (lv_at hl 4 rfl) ?_
    refine lv_bipush (v := 8) hx hb dX12_reach_43 (by decide) ?_
    refine lv_icmp_ge (tgt := 146) hx hb dX12_reach_45 (by decide) (fun b7 => ?_) (fun b7 => ?_)
    · have hm := i_t b7 hm
      exact hX _ (st_exit hm hst) H locs hP hD hS ls (lv_sub hl [0, 1, 2, 3] rfl)
    · have hm := i_f b7 hm
      refine lv_aload_n hx hb dX12_reach_48 rfl (lv_at hl 0 rfl) ?_
      refine lv_iload_n hx hb dX12_reach_49 rfl (lv_at hl 1 rfl) ?_
      refine lv_iload hx hb dX12_reach_50 (lv_at hl 4 rfl) ?_
      refine lv_iload_n hx hb dX12_reach_52 rfl (lv_at hl 2 rfl) ?_
      refine lv_iconst (v := 1) hx hb dX12_reach_53 (by decide) ?_
      refine lv_iadd hx hb dX12_reach_54 ?_
      obtain ⟨r8, hc_r8, hm⟩ := bs hm
      refine k_calll (va_runV (As := [.int x1, .int x4, .int (x2 + 1)]) (rest := []) ⟨hx, hb, hml, hown, hts⟩ (c_X12_syndromeOf l G cs q H.size v_told v_tell v_sums v_kindOf v_modOf v_bitsOf v_turnOf v_polyOf v_beginOf v_finishOf v_isLow v_weightsOf v_weight v_cell v_size v_row v_keptSize v_keptBefore v_keptAfter v_placeA v_placeB v_turned v_turnedMany v_syndromes v_lightest v_freeMany v_freePlace v_freeSyndrome v_ways v_waysKept v_trace v_comesA v_comesB   x1 x4 (x2 + 1) n r8 hc_r8) (cwV 3 hts gX12_reach_X12_syndromeOf rfl rfl rfl ⟨rfl, hd_X12_syndromeOf⟩ ⟨Nat.le_of_ble_eq_true rfl, Nat.le_of_ble_eq_true rfl⟩) ⟨pre_blind, va_recv hK.1 hP (ci := 10) (q0 := 0) rfl rfl, pre_w hK RO.nil hP hD (va_all hD hS hA)⟩ rfl rfl hl.1 rfl (lv_room (Nat.le_of_ble_eq_true rfl)) dX12_reach_55 ⟨Nat.zero_le _, Nat.zero_le _⟩) hS (va_all hD hS hA) (fun H locs hP hD hS => ?_)
      have hP : va_P G vwCl (ww_M q cs v_told v_tell v_sums v_kindOf v_modOf v_bitsOf v_turnOf v_polyOf v_beginOf v_finishOf v_isLow v_weightsOf v_weight v_cell v_size v_row v_keptSize v_keptBefore v_keptAfter v_placeA v_placeB v_turned v_turnedMany v_syndromes v_lightest v_freeMany v_freePlace v_freeSyndrome v_ways v_waysKept v_trace v_comesA v_comesB) H := hP
      have hD : va_D A (ww_M q cs v_told v_tell v_sums v_kindOf v_modOf v_bitsOf v_turnOf v_polyOf v_beginOf v_finishOf v_isLow v_weightsOf v_weight v_cell v_size v_row v_keptSize v_keptBefore v_keptAfter v_placeA v_placeB v_turned v_turnedMany v_syndromes v_lightest v_freeMany v_freePlace v_freeSyndrome v_ways v_waysKept v_trace v_comesA v_comesB) := hD
      refine lv_lstore (lv' := [(5, .long r8), (0, .ref (q 0)), (1, .int x1), (2, .int x2), (3, .int x3), (4, .int x4)]) hx hb dX12_reach_58 hl (by decide) rfl (fun ls hl => ?_)
      refine lv_iload_n hx hb dX12_reach_60 rfl (lv_at hl 4 rfl) ?_
      refine lv_if_eq (tgt := 80) hx hb dX12_reach_61 (by decide) (fun b9 => ?_) (fun b9 => ?_)
      · have hm := i_t b9 hm
        refine lv_iconst (v := 0) hx hb dX12_reach_80 (by decide) ?_
        refine lv_istore_n (lv' := [(3, .int 0), (5, .long r8), (0, .ref (q 0)), (1, .int x1), (2, .int x2), (4, .int x4)]) hx hb dX12_reach_81 rfl hl (by decide) rfl (fun ls hl => ?_)
        refine lv_iconst (v := 0) hx hb dX12_reach_82 (by decide) ?_
        refine lv_istore (lv' := [(7, .int 0), (3, .int 0), (5, .long r8), (0, .ref (q 0)), (1, .int x1), (2, .int x2), (4, .int x4)]) hx hb dX12_reach_83 hl (by decide) rfl (fun ls hl => ?_)
        obtain ⟨o14, hlp14, hm⟩ := bs hm
        refine L85 x1 x2 (0 : Int32) x4 r8 (0 : Int32) v_syndromes o14 hlp14 (fun oo ho => ?_) H locs hP hD hS ls (lv_sub hl [3, 4, 5, 1, 6, 2, 0] rfl)
        subst ho
        intro H locs hP hD hS ls hl
        have hl : lv_has ls 8 [(0, .ref (q 0)), (1, .int x1), (2, .int x2), (3, .int o14), (4, .int x4), (5, .long r8)] := hl
        have hP : va_P G vwCl (ww_M q cs v_told v_tell v_sums v_kindOf v_modOf v_bitsOf v_turnOf v_polyOf v_beginOf v_finishOf v_isLow v_weightsOf v_weight v_cell v_size v_row v_keptSize v_keptBefore v_keptAfter v_placeA v_placeB v_turned v_turnedMany v_syndromes v_lightest v_freeMany v_freePlace v_freeSyndrome v_ways v_waysKept v_trace v_comesA v_comesB) H := hP
        have hD : va_D A (ww_M q cs v_told v_tell v_sums v_kindOf v_modOf v_bitsOf v_turnOf v_polyOf v_beginOf v_finishOf v_isLow v_weightsOf v_weight v_cell v_size v_row v_keptSize v_keptBefore v_keptAfter v_placeA v_placeB v_turned v_turnedMany v_syndromes v_lightest v_freeMany v_freePlace v_freeSyndrome v_ways v_waysKept v_trace v_comesA v_comesB) := hD
        refine lv_aload_n hx hb dX12_reach_126 rfl (lv_at hl 0 rfl) ?_
        refine va_get (D := G) (ci := 10) (v := .ref (q 19)) (C := RX12) (T := TX12) (N := 33) hx hb hts hinX12 hown hK.1 hP 0 rfl rfl 23 (by decide) wd2 (fun _ h9 => h9) rfl dX12_reach_127 ?_
        refine lv_bipush (v := 8) hx hb dX12_reach_130 (by decide) ?_
        refine lv_iload_n hx hb dX12_reach_132 rfl (lv_at hl 2 rfl) ?_
        refine lv_imul hx hb dX12_reach_133 ?_
        refine lv_iload hx hb dX12_reach_134 (lv_at hl 4 rfl) ?_
        refine lv_iadd hx hb dX12_reach_136 ?_
        refine lv_lload hx hb dX12_reach_137 (lv_at hl 5 rfl) ?_
        obtain ⟨h15, hm⟩ := g_in hm
        refine va_last hx hb hK.1 hP hD hS 19 1 rfl rfl h15 dX12_reach_139 (fun H locs hP hD hS => ?_)
        have hP : va_P G vwCl (ww_M q cs v_told v_tell v_sums v_kindOf v_modOf v_bitsOf v_turnOf v_polyOf v_beginOf v_finishOf v_isLow v_weightsOf v_weight v_cell v_size v_row v_keptSize v_keptBefore v_keptAfter v_placeA v_placeB v_turned v_turnedMany (vp_updL v_syndromes ((8 * x2) + x4).toNatClampNeg r8) v_lightest v_freeMany v_freePlace v_freeSyndrome v_ways v_waysKept v_trace v_comesA v_comesB) H := hP
        have hD : va_D A (ww_M q cs v_told v_tell v_sums v_kindOf v_modOf v_bitsOf v_turnOf v_polyOf v_beginOf v_finishOf v_isLow v_weightsOf v_weight v_cell v_size v_row v_keptSize v_keptBefore v_keptAfter v_placeA v_placeB v_turned v_turnedMany (vp_updL v_syndromes ((8 * x2) + x4).toNatClampNeg r8) v_lightest v_freeMany v_freePlace v_freeSyndrome v_ways v_waysKept v_trace v_comesA v_comesB) := hD
        refine lv_iinc (v := x4 + 1) (lv' := [(4, .int (x4 + 1)), (0, .ref (q 0)), (1, .int x1), (2, .int x2), (3, .int o14), (5, .long r8)]) hx hb dX12_reach_140 hl (k := 4) rfl rfl (by decide) rfl (fun ls hl => ?_)
        refine lv_goto (tgt := 41) hx hb dX12_reach_143 (by decide) ?_
        exact st_next hm hst H locs hP hD hS ls (lv_sub hl [1, 2, 3, 4, 0] rfl)
      · have hm := i_f b9 hm
        refine lv_lload hx hb dX12_reach_64 (lv_at hl 0 rfl) ?_
        refine lv_lload hx hb dX12_reach_66 (lv_at hl 0 rfl) ?_
        refine lv_lconst (v := 1) hx hb dX12_reach_68 (by decide) ?_
        refine lv_lsub hx hb dX12_reach_69 ?_
        refine lv_land hx hb dX12_reach_70 ?_
        refine lv_lconst (v := 0) hx hb dX12_reach_71 (by decide) ?_
        refine W.lcmp hx hb dX12_reach_72 ?_
        refine lv_if_eq (tgt := 80) hx hb dX12_reach_73 (by decide) (fun b16 => ?_) (fun b16 => ?_)
        · have b16 := (lg_cmp_eq _ _).mp b16
          have hm := i_t b16 hm
          refine lv_iconst (v := 0) hx hb dX12_reach_80 (by decide) ?_
          refine lv_istore_n (lv' := [(3, .int 0), (5, .long r8), (0, .ref (q 0)), (1, .int x1), (2, .int x2), (4, .int x4)]) hx hb dX12_reach_81 rfl hl (by decide) rfl (fun ls hl => ?_)
          refine lv_iconst (v := 0) hx hb dX12_reach_82 (by decide) ?_
          refine lv_istore (lv' := [(7, .int 0), (3, .int 0), (5, .long r8), (0, .ref (q 0)), (1, .int x1), (2, .int x2), (4, .int x4)]) hx hb dX12_reach_83 hl (by decide) rfl (fun ls hl => ?_)
          obtain ⟨o17, hlp17, hm⟩ := bs hm
          refine L85 x1 x2 (0 : Int32) x4 r8 (0 : Int32) v_syndromes o17 hlp17 (fun oo ho => ?_) H locs hP hD hS ls (lv_sub hl [3, 4, 5, 1, 6, 2, 0] rfl)
          subst ho
          intro H locs hP hD hS ls hl
          have hl : lv_has ls 8 [(0, .ref (q 0)), (1, .int x1), (2, .int x2), (3, .int o17), (4, .int x4), (5, .long r8)] := hl
          have hP : va_P G vwCl (ww_M q cs v_told v_tell v_sums v_kindOf v_modOf v_bitsOf v_turnOf v_polyOf v_beginOf v_finishOf v_isLow v_weightsOf v_weight v_cell v_size v_row v_keptSize v_keptBefore v_keptAfter v_placeA v_placeB v_turned v_turnedMany v_syndromes v_lightest v_freeMany v_freePlace v_freeSyndrome v_ways v_waysKept v_trace v_comesA v_comesB) H := hP
          have hD : va_D A (ww_M q cs v_told v_tell v_sums v_kindOf v_modOf v_bitsOf v_turnOf v_polyOf v_beginOf v_finishOf v_isLow v_weightsOf v_weight v_cell v_size v_row v_keptSize v_keptBefore v_keptAfter v_placeA v_placeB v_turned v_turnedMany v_syndromes v_lightest v_freeMany v_freePlace v_freeSyndrome v_ways v_waysKept v_trace v_comesA v_comesB) := hD
          refine lv_aload_n hx hb dX12_reach_126 rfl (lv_at hl 0 rfl) ?_
          refine va_get (D := G) (ci := 10) (v := .ref (q 19)) (C := RX12) (T := TX12) (N := 33) hx hb hts hinX12 hown hK.1 hP 0 rfl rfl 23 (by decide) wd2 (fun _ h9 => h9) rfl dX12_reach_127 ?_
          refine lv_bipush (v := 8) hx hb dX12_reach_130 (by decide) ?_
          refine lv_iload_n hx hb dX12_reach_132 rfl (lv_at hl 2 rfl) ?_
          refine lv_imul hx hb dX12_reach_133 ?_
          refine lv_iload hx hb dX12_reach_134 (lv_at hl 4 rfl) ?_
          refine lv_iadd hx hb dX12_reach_136 ?_
          refine lv_lload hx hb dX12_reach_137 (lv_at hl 5 rfl) ?_
          obtain ⟨h18, hm⟩ := g_in hm
          refine va_last hx hb hK.1 hP hD hS 19 1 rfl rfl h18 dX12_reach_139 (fun H locs hP hD hS => ?_)
          have hP : va_P G vwCl (ww_M q cs v_told v_tell v_sums v_kindOf v_modOf v_bitsOf v_turnOf v_polyOf v_beginOf v_finishOf v_isLow v_weightsOf v_weight v_cell v_size v_row v_keptSize v_keptBefore v_keptAfter v_placeA v_placeB v_turned v_turnedMany (vp_updL v_syndromes ((8 * x2) + x4).toNatClampNeg r8) v_lightest v_freeMany v_freePlace v_freeSyndrome v_ways v_waysKept v_trace v_comesA v_comesB) H := hP
          have hD : va_D A (ww_M q cs v_told v_tell v_sums v_kindOf v_modOf v_bitsOf v_turnOf v_polyOf v_beginOf v_finishOf v_isLow v_weightsOf v_weight v_cell v_size v_row v_keptSize v_keptBefore v_keptAfter v_placeA v_placeB v_turned v_turnedMany (vp_updL v_syndromes ((8 * x2) + x4).toNatClampNeg r8) v_lightest v_freeMany v_freePlace v_freeSyndrome v_ways v_waysKept v_trace v_comesA v_comesB) := hD
          refine lv_iinc (v := x4 + 1) (lv' := [(4, .int (x4 + 1)), (0, .ref (q 0)), (1, .int x1), (2, .int x2), (3, .int o17), (5, .long r8)]) hx hb dX12_reach_140 hl (k := 4) rfl rfl (by decide) rfl (fun ls hl => ?_)
          refine lv_goto (tgt := 41) hx hb dX12_reach_143 (by decide) ?_
          exact st_next hm hst H locs hP hD hS ls (lv_sub hl [1, 2, 3, 4, 0] rfl)
        · have b16 := fun h9 => b16 ((lg_cmp_eq _ _).mpr h9)
          have hm := i_f b16 hm
          refine lv_iconst (v := 1) hx hb dX12_reach_76 (by decide) ?_
          refine lv_goto (tgt := 81) hx hb dX12_reach_77 (by decide) ?_
          refine lv_istore_n (lv' := [(3, .int 1), (5, .long r8), (0, .ref (q 0)), (1, .int x1), (2, .int x2), (4, .int x4)]) hx hb dX12_reach_81 rfl hl (by decide) rfl (fun ls hl => ?_)
          refine lv_iconst (v := 0) hx hb dX12_reach_82 (by decide) ?_
          refine lv_istore (lv' := [(7, .int 0), (3, .int 1), (5, .long r8), (0, .ref (q 0)), (1, .int x1), (2, .int x2), (4, .int x4)]) hx hb dX12_reach_83 hl (by decide) rfl (fun ls hl => ?_)
          obtain ⟨o19, hlp19, hm⟩ := bs hm
          refine L85 x1 x2 (1 : Int32) x4 r8 (0 : Int32) v_syndromes o19 hlp19 (fun oo ho => ?_) H locs hP hD hS ls (lv_sub hl [3, 4, 5, 1, 6, 2, 0] rfl)
          subst ho
          intro H locs hP hD hS ls hl
          have hl : lv_has ls 8 [(0, .ref (q 0)), (1, .int x1), (2, .int x2), (3, .int o19), (4, .int x4), (5, .long r8)] := hl
          have hP : va_P G vwCl (ww_M q cs v_told v_tell v_sums v_kindOf v_modOf v_bitsOf v_turnOf v_polyOf v_beginOf v_finishOf v_isLow v_weightsOf v_weight v_cell v_size v_row v_keptSize v_keptBefore v_keptAfter v_placeA v_placeB v_turned v_turnedMany v_syndromes v_lightest v_freeMany v_freePlace v_freeSyndrome v_ways v_waysKept v_trace v_comesA v_comesB) H := hP
          have hD : va_D A (ww_M q cs v_told v_tell v_sums v_kindOf v_modOf v_bitsOf v_turnOf v_polyOf v_beginOf v_finishOf v_isLow v_weightsOf v_weight v_cell v_size v_row v_keptSize v_keptBefore v_keptAfter v_placeA v_placeB v_turned v_turnedMany v_syndromes v_lightest v_freeMany v_freePlace v_freeSyndrome v_ways v_waysKept v_trace v_comesA v_comesB) := hD
          refine lv_aload_n hx hb dX12_reach_126 rfl (lv_at hl 0 rfl) ?_
          refine va_get (D := G) (ci := 10) (v := .ref (q 19)) (C := RX12) (T := TX12) (N := 33) hx hb hts hinX12 hown hK.1 hP 0 rfl rfl 23 (by decide) wd2 (fun _ h9 => h9) rfl dX12_reach_127 ?_
          refine lv_bipush (v := 8) hx hb dX12_reach_130 (by decide) ?_
          refine lv_iload_n hx hb dX12_reach_132 rfl (lv_at hl 2 rfl) ?_
          refine lv_imul hx hb dX12_reach_133 ?_
          refine lv_iload hx hb dX12_reach_134 (lv_at hl 4 rfl) ?_
          refine lv_iadd hx hb dX12_reach_136 ?_
          refine lv_lload hx hb dX12_reach_137 (lv_at hl 5 rfl) ?_
          obtain ⟨h20, hm⟩ := g_in hm
          refine va_last hx hb hK.1 hP hD hS 19 1 rfl rfl h20 dX12_reach_139 (fun H locs hP hD hS => ?_)
          have hP : va_P G vwCl (ww_M q cs v_told v_tell v_sums v_kindOf v_modOf v_bitsOf v_turnOf v_polyOf v_beginOf v_finishOf v_isLow v_weightsOf v_weight v_cell v_size v_row v_keptSize v_keptBefore v_keptAfter v_placeA v_placeB v_turned v_turnedMany (vp_updL v_syndromes ((8 * x2) + x4).toNatClampNeg r8) v_lightest v_freeMany v_freePlace v_freeSyndrome v_ways v_waysKept v_trace v_comesA v_comesB) H := hP
          have hD : va_D A (ww_M q cs v_told v_tell v_sums v_kindOf v_modOf v_bitsOf v_turnOf v_polyOf v_beginOf v_finishOf v_isLow v_weightsOf v_weight v_cell v_size v_row v_keptSize v_keptBefore v_keptAfter v_placeA v_placeB v_turned v_turnedMany (vp_updL v_syndromes ((8 * x2) + x4).toNatClampNeg r8) v_lightest v_freeMany v_freePlace v_freeSyndrome v_ways v_waysKept v_trace v_comesA v_comesB) := hD
          refine lv_iinc (v := x4 + 1) (lv' := [(4, .int (x4 + 1)), (0, .ref (q 0)), (1, .int x1), (2, .int x2), (3, .int o19), (5, .long r8)]) hx hb dX12_reach_140 hl (k := 4) rfl rfl (by decide) rfl (fun ls hl => ?_)
          refine lv_goto (tgt := 41) hx hb dX12_reach_143 (by decide) ?_
          exact st_next hm hst H locs hP hD hS ls (lv_sub hl [1, 2, 3, 4, 0] rfl)
  have L28 : ∀ (x1 : Int32) (x2 : Int32) (x3 : Int32) (v_syndromes : (Nat → Int64)) (out : (Int32 × (Nat → Int64))), lp (fun x : (Int32 × Int32 × (Nat → Int64)) => M_X12_reach_b28 n x1 v_bitsOf v_polyOf v_isLow x.1 x.2.1 x.2.2) n (x2, x3, v_syndromes) = some out → (∀ (o : (Int32 × (Nat → Int64))), out = o → ∀ (H : Heap) (locs : List Loc), va_P G vwCl (ww_M q cs v_told v_tell v_sums v_kindOf v_modOf v_bitsOf v_turnOf v_polyOf v_beginOf v_finishOf v_isLow v_weightsOf v_weight v_cell v_size v_row v_keptSize v_keptBefore v_keptAfter v_placeA v_placeB v_turned v_turnedMany o.2 v_lightest v_freeMany v_freePlace v_freeSyndrome v_ways v_waysKept v_trace v_comesA v_comesB) H → va_D A (ww_M q cs v_told v_tell v_sums v_kindOf v_modOf v_bitsOf v_turnOf v_polyOf v_beginOf v_finishOf v_isLow v_weightsOf v_weight v_cell v_size v_row v_keptSize v_keptBefore v_keptAfter v_placeA v_placeB v_turned v_turnedMany o.2 v_lightest v_freeMany v_freePlace v_freeSyndrome v_ways v_waysKept v_trace v_comesA v_comesB) → va_S A s.heap H locs → ∀ (ls : Array Slot), lv_has ls 8 [(2, .int o.1)] → W p l e rmX12_reach s m args below meth c H locs 0 0 Q (F0 m 161 ls [])) → ∀ (H : Heap) (locs : List Loc), va_P G vwCl (ww_M q cs v_told v_tell v_sums v_kindOf v_modOf v_bitsOf v_turnOf v_polyOf v_beginOf v_finishOf v_isLow v_weightsOf v_weight v_cell v_size v_row v_keptSize v_keptBefore v_keptAfter v_placeA v_placeB v_turned v_turnedMany v_syndromes v_lightest v_freeMany v_freePlace v_freeSyndrome v_ways v_waysKept v_trace v_comesA v_comesB) H → va_D A (ww_M q cs v_told v_tell v_sums v_kindOf v_modOf v_bitsOf v_turnOf v_polyOf v_beginOf v_finishOf v_isLow v_weightsOf v_weight v_cell v_size v_row v_keptSize v_keptBefore v_keptAfter v_placeA v_placeB v_turned v_turnedMany v_syndromes v_lightest v_freeMany v_freePlace v_freeSyndrome v_ways v_waysKept v_trace v_comesA v_comesB) → va_S A s.heap H locs → ∀ (ls : Array Slot), lv_has ls 8 [(0, .ref (q 0)), (1, .int x1), (2, .int x2), (3, .int x3)] → W p l e rmX12_reach s m args below meth c H locs 0 0 Q (F0 m 28 ls []) := by
    intro x1 x2 x3 v_syndromes out hlp hX
    refine lp_ind (fun x => ∀ (H : Heap) (locs : List Loc), va_P G vwCl (ww_M q cs v_told v_tell v_sums v_kindOf v_modOf v_bitsOf v_turnOf v_polyOf v_beginOf v_finishOf v_isLow v_weightsOf v_weight v_cell v_size v_row v_keptSize v_keptBefore v_keptAfter v_placeA v_placeB v_turned v_turnedMany x.2.2 v_lightest v_freeMany v_freePlace v_freeSyndrome v_ways v_waysKept v_trace v_comesA v_comesB) H → va_D A (ww_M q cs v_told v_tell v_sums v_kindOf v_modOf v_bitsOf v_turnOf v_polyOf v_beginOf v_finishOf v_isLow v_weightsOf v_weight v_cell v_size v_row v_keptSize v_keptBefore v_keptAfter v_placeA v_placeB v_turned v_turnedMany x.2.2 v_lightest v_freeMany v_freePlace v_freeSyndrome v_ways v_waysKept v_trace v_comesA v_comesB) → va_S A s.heap H locs → ∀ (ls : Array Slot), lv_has ls 8 [(0, .ref (q 0)), (1, .int x1), (2, .int x.1), (3, .int x.2.1)] → W p l e rmX12_reach s m args below meth c H locs 0 0 Q (F0 m 28 ls [])) ?_ n (x2, x3, v_syndromes) hlp
    clear hlp hP hD hS hl
    rintro ⟨x2, x3, v_syndromes⟩ ob hm hst H locs hP hD hS ls hl
    have hm : M_X12_reach_b28 n x1 v_bitsOf v_polyOf v_isLow x2 x3 v_syndromes = some ob := hm
    have hl : lv_has ls 8 [(0, .ref (q 0)), (1, .int x1), (2, .int x2), (3, .int x3)] := hl
    have hP : va_P G vwCl (ww_M q cs v_told v_tell v_sums v_kindOf v_modOf v_bitsOf v_turnOf v_polyOf v_beginOf v_finishOf v_isLow v_weightsOf v_weight v_cell v_size v_row v_keptSize v_keptBefore v_keptAfter v_placeA v_placeB v_turned v_turnedMany v_syndromes v_lightest v_freeMany v_freePlace v_freeSyndrome v_ways v_waysKept v_trace v_comesA v_comesB) H := hP
    have hD : va_D A (ww_M q cs v_told v_tell v_sums v_kindOf v_modOf v_bitsOf v_turnOf v_polyOf v_beginOf v_finishOf v_isLow v_weightsOf v_weight v_cell v_size v_row v_keptSize v_keptBefore v_keptAfter v_placeA v_placeB v_turned v_turnedMany v_syndromes v_lightest v_freeMany v_freePlace v_freeSyndrome v_ways v_waysKept v_trace v_comesA v_comesB) := hD
    unfold M_X12_reach_b28 at hm
    refine lv_iload_n hx hb dX12_reach_28 rfl (lv_at hl 3 rfl) ?_
    refine lv_if_eq (tgt := 161) hx hb dX12_reach_29 (by decide) (fun b5 => ?_) (fun b5 => ?_)
    · have hm := i_t b5 hm
      exact hX _ (st_exit hm hst) H locs hP hD hS ls (lv_sub hl [2] rfl)
    · have hm := i_f b5 hm
      refine lv_iload_n hx hb dX12_reach_32 rfl (lv_at hl 2 rfl) ?_
      refine lv_bipush (v := 64) hx hb dX12_reach_33 (by decide) ?_
      refine lv_icmp_ge (tgt := 161) hx hb dX12_reach_35 (by decide) (fun b6 => ?_) (fun b6 => ?_)
      · have hm := i_t b6 hm
        exact hX _ (st_exit hm hst) H locs hP hD hS ls (lv_sub hl [2] rfl)
      · have hm := i_f b6 hm
        refine lv_iconst (v := 0) hx hb dX12_reach_38 (by decide) ?_
        refine lv_istore (lv' := [(4, .int 0), (0, .ref (q 0)), (1, .int x1), (2, .int x2), (3, .int x3)]) hx hb dX12_reach_39 hl (by decide) rfl (fun ls hl => ?_)
        obtain ⟨o21, hlp21, hm⟩ := bs hm
        refine L41 x1 x2 x3 (0 : Int32) v_syndromes o21 hlp21 (fun oo ho => ?_) H locs hP hD hS ls (lv_sub hl [1, 2, 3, 4, 0] rfl)
        subst ho
        intro H locs hP hD hS ls hl
        have hl : lv_has ls 8 [(0, .ref (q 0)), (1, .int x1), (2, .int x2), (3, .int o21.1)] := hl
        have hP : va_P G vwCl (ww_M q cs v_told v_tell v_sums v_kindOf v_modOf v_bitsOf v_turnOf v_polyOf v_beginOf v_finishOf v_isLow v_weightsOf v_weight v_cell v_size v_row v_keptSize v_keptBefore v_keptAfter v_placeA v_placeB v_turned v_turnedMany o21.2 v_lightest v_freeMany v_freePlace v_freeSyndrome v_ways v_waysKept v_trace v_comesA v_comesB) H := hP
        have hD : va_D A (ww_M q cs v_told v_tell v_sums v_kindOf v_modOf v_bitsOf v_turnOf v_polyOf v_beginOf v_finishOf v_isLow v_weightsOf v_weight v_cell v_size v_row v_keptSize v_keptBefore v_keptAfter v_placeA v_placeB v_turned v_turnedMany o21.2 v_lightest v_freeMany v_freePlace v_freeSyndrome v_ways v_waysKept v_trace v_comesA v_comesB) := hD
        refine lv_iload_n hx hb dX12_reach_146 rfl (lv_at hl 2 rfl) ?_
        refine lv_iload_n hx hb dX12_reach_147 rfl (lv_at hl 3 rfl) ?_
        refine lv_if_eq (tgt := 155) hx hb dX12_reach_148 (by decide) (fun b22 => ?_) (fun b22 => ?_)
        · have hm := i_t b22 hm
          refine lv_iconst (v := 0) hx hb dX12_reach_155 (by decide) ?_
          refine lv_iadd hx hb dX12_reach_156 ?_
          refine lv_istore_n (lv' := [(2, .int (x2 + 0)), (0, .ref (q 0)), (1, .int x1), (3, .int o21.1)]) hx hb dX12_reach_157 rfl hl (by decide) rfl (fun ls hl => ?_)
          refine lv_goto (tgt := 28) hx hb dX12_reach_158 (by decide) ?_
          exact st_next hm hst H locs hP hD hS ls (lv_sub hl [1, 2, 0, 3] rfl)
        · have hm := i_f b22 hm
          refine lv_iconst (v := 1) hx hb dX12_reach_151 (by decide) ?_
          refine lv_goto (tgt := 156) hx hb dX12_reach_152 (by decide) ?_
          refine lv_iadd hx hb dX12_reach_156 ?_
          refine lv_istore_n (lv' := [(2, .int (x2 + 1)), (0, .ref (q 0)), (1, .int x1), (3, .int o21.1)]) hx hb dX12_reach_157 rfl hl (by decide) rfl (fun ls hl => ?_)
          refine lv_goto (tgt := 28) hx hb dX12_reach_158 (by decide) ?_
          exact st_next hm hst H locs hP hD hS ls (lv_sub hl [1, 2, 0, 3] rfl)
  unfold M_X12_reach at hm
  refine lv_aload_n hx hb dX12_reach_0 rfl (lv_at hl 0 rfl) ?_
  refine lv_iload_n hx hb dX12_reach_1 rfl (lv_at hl 1 rfl) ?_
  refine k_calli (va_runV (As := [.int x1]) (rest := []) ⟨hx, hb, hml, hown, hts⟩ (c_X12_isSum l G cs q H.size v_told v_tell v_sums v_kindOf v_modOf v_bitsOf v_turnOf v_polyOf v_beginOf v_finishOf v_isLow v_weightsOf v_weight v_cell v_size v_row v_keptSize v_keptBefore v_keptAfter v_placeA v_placeB v_turned v_turnedMany v_syndromes v_lightest v_freeMany v_freePlace v_freeSyndrome v_ways v_waysKept v_trace v_comesA v_comesB   x1 _ rfl) (cwV 1 hts gX12_reach_X12_isSum rfl rfl rfl ⟨rfl, hd_X12_isSum⟩ ⟨Nat.le_of_ble_eq_true rfl, Nat.le_of_ble_eq_true rfl⟩) ⟨pre_blind, va_recv hK.1 hP (ci := 10) (q0 := 0) rfl rfl, pre_w hK RO.nil hP hD (va_all hD hS hA)⟩ rfl rfl hl.1 rfl (lv_room (Nat.le_of_ble_eq_true rfl)) dX12_reach_2 ⟨Nat.zero_le _, Nat.zero_le _⟩) hS (va_all hD hS hA) (fun hE1 H locs hP hD hS => ?_)
  have hP : va_P G vwCl (ww_M q cs v_told v_tell v_sums v_kindOf v_modOf v_bitsOf v_turnOf v_polyOf v_beginOf v_finishOf v_isLow v_weightsOf v_weight v_cell v_size v_row v_keptSize v_keptBefore v_keptAfter v_placeA v_placeB v_turned v_turnedMany v_syndromes v_lightest v_freeMany v_freePlace v_freeSyndrome v_ways v_waysKept v_trace v_comesA v_comesB) H := hP
  have hD : va_D A (ww_M q cs v_told v_tell v_sums v_kindOf v_modOf v_bitsOf v_turnOf v_polyOf v_beginOf v_finishOf v_isLow v_weightsOf v_weight v_cell v_size v_row v_keptSize v_keptBefore v_keptAfter v_placeA v_placeB v_turned v_turnedMany v_syndromes v_lightest v_freeMany v_freePlace v_freeSyndrome v_ways v_waysKept v_trace v_comesA v_comesB) := hD
  refine lv_if_ne (tgt := 11) hx hb dX12_reach_5 (by decide) (fun b2 => ?_) (fun b2 => ?_)
  · have hm := i_f b2 hm
    refine lv_aload_n hx hb dX12_reach_11 rfl (lv_at hl 0 rfl) ?_
    refine va_get (D := G) (ci := 10) (v := .ref (q 2)) (C := RX12) (T := TX12) (N := 33) hx hb hts hinX12 hown hK.1 hP 0 rfl rfl 3 (by decide) wd1 (fun _ h9 => h9) rfl dX12_reach_12 ?_
    refine lv_iload_n hx hb dX12_reach_15 rfl (lv_at hl 1 rfl) ?_
    obtain ⟨h3, hm⟩ := g_in hm
    refine va_iald hx hb hK.1 hP 2 0 rfl rfl h3 dX12_reach_16 ?_
    refine lv_iconst (v := 5) hx hb dX12_reach_17 (by decide) ?_
    refine lv_icmp_eq (tgt := 24) hx hb dX12_reach_18 (by decide) (fun b4 => ?_) (fun b4 => ?_)
    · have hm := i_t b4 hm
      refine lv_iconst (v := 0) hx hb dX12_reach_24 (by decide) ?_
      refine lv_istore_n (lv' := [(2, .int 0), (0, .ref (q 0)), (1, .int x1)]) hx hb dX12_reach_25 rfl hl (by decide) rfl (fun ls hl => ?_)
      refine lv_iconst (v := 1) hx hb dX12_reach_26 (by decide) ?_
      refine lv_istore_n (lv' := [(3, .int 1), (2, .int 0), (0, .ref (q 0)), (1, .int x1)]) hx hb dX12_reach_27 rfl hl (by decide) rfl (fun ls hl => ?_)
      obtain ⟨o23, hlp23, hm⟩ := bs hm
      refine L28 x1 (0 : Int32) (1 : Int32) v_syndromes o23 hlp23 (fun oo ho => ?_) H locs hP hD hS ls (lv_sub hl [2, 3, 1, 0] rfl)
      subst ho
      intro H locs hP hD hS ls hl
      have hl : lv_has ls 8 [(2, .int o23.1)] := hl
      have hP : va_P G vwCl (ww_M q cs v_told v_tell v_sums v_kindOf v_modOf v_bitsOf v_turnOf v_polyOf v_beginOf v_finishOf v_isLow v_weightsOf v_weight v_cell v_size v_row v_keptSize v_keptBefore v_keptAfter v_placeA v_placeB v_turned v_turnedMany o23.2 v_lightest v_freeMany v_freePlace v_freeSyndrome v_ways v_waysKept v_trace v_comesA v_comesB) H := hP
      have hD : va_D A (ww_M q cs v_told v_tell v_sums v_kindOf v_modOf v_bitsOf v_turnOf v_polyOf v_beginOf v_finishOf v_isLow v_weightsOf v_weight v_cell v_size v_row v_keptSize v_keptBefore v_keptAfter v_placeA v_placeB v_turned v_turnedMany o23.2 v_lightest v_freeMany v_freePlace v_freeSyndrome v_ways v_waysKept v_trace v_comesA v_comesB) := hD
      refine lv_iload_n hx hb dX12_reach_161 rfl (lv_at hl 0 rfl) ?_
      have hq := Option.some.inj hm
      subst hq; subst hQ
      exact k_iret hx hb hr hlocks hP hD hS rfl trivial dX12_reach_162
    · have hm := i_f b4 hm
      refine lv_bipush (v := (-4)) hx hb dX12_reach_21 (by decide) ?_
      have hq := Option.some.inj hm
      subst hq; subst hQ
      exact k_iret hx hb hr hlocks hP hD hS rfl trivial dX12_reach_23
  · have hm := i_t b2 hm
    refine lv_bipush (v := (-2)) hx hb dX12_reach_8 (by decide) ?_
    have hq := Option.some.inj hm
    subst hq; subst hQ
    exact k_iret hx hb hr hlocks hP hD hS rfl trivial dX12_reach_10

theorem hd_X12_trace : yX12_trace.cls ≠ "java/lang/invoke/MethodHandle" ∧ yX12_trace.cls ≠ "java/lang/invoke/VarHandle" ∧ (parseMethodDescriptor yX12_trace.desc).map (fun d => d.parameters.length) = some 1 := by decide +kernel

def M_X12_trace (x1 : Int32) (v_trace : (Nat → Int32)) : Option Int32 :=
  if (M_X12_in x1.toInt64 (0 : Int64) (6 : Int64)) = 0 then (some (-3)) else (if x1 < 0 ∨ 7 ≤ x1.toNatClampNeg then none else some (v_trace x1.toNatClampNeg))

abbrev rmX12_trace : Room := { frames := 1, cells := 0, slots := 0, locals := 25 }
set_option maxHeartbeats 4000000 in
set_option maxRecDepth 100000 in
theorem c_X12_trace (l : Launch) (G : va_G) (cs : CS) (q : Nat → Nat) (sz : Nat) (v_told : Int32) (v_tell : (Nat → Int32)) (v_sums : Int32) (v_kindOf : (Nat → Int32)) (v_modOf : (Nat → Int32)) (v_bitsOf : (Nat → Int32)) (v_turnOf : (Nat → Int32)) (v_polyOf : (Nat → Int64)) (v_beginOf : (Nat → Int64)) (v_finishOf : (Nat → Int64)) (v_isLow : (Nat → Int32)) (v_weightsOf : (Nat → Int32)) (v_weight : (Nat → Int32)) (v_cell : (Nat → Int32)) (v_size : Int32) (v_row : (Nat → Int32)) (v_keptSize : Int32) (v_keptBefore : (Nat → Int32)) (v_keptAfter : (Nat → Int32)) (v_placeA : (Nat → Int64)) (v_placeB : (Nat → Int64)) (v_turned : (Nat → Int32)) (v_turnedMany : Int32) (v_syndromes : (Nat → Int64)) (v_lightest : (Nat → Int32)) (v_freeMany : Int32) (v_freePlace : (Nat → Int32)) (v_freeSyndrome : (Nat → Int64)) (v_ways : (Nat → Int32)) (v_waysKept : Int32) (v_trace : (Nat → Int32)) (v_comesA : Int64) (v_comesB : Int64)   (x1 : Int32) (res : Int32) (hm : M_X12_trace x1 v_trace = some res) : Met l yX12_trace wsX12_trace rmX12_trace (va_Pc [.ref (q 0), .int x1] (PreW G cs sz (ww_M q cs v_told v_tell v_sums v_kindOf v_modOf v_bitsOf v_turnOf v_polyOf v_beginOf v_finishOf v_isLow v_weightsOf v_weight v_cell v_size v_row v_keptSize v_keptBefore v_keptAfter v_placeA v_placeB v_turned v_turnedMany v_syndromes v_lightest v_freeMany v_freePlace v_freeSyndrome v_ways v_waysKept v_trace v_comesA v_comesB) RN)) (QI G res True (ww_M q cs v_told v_tell v_sums v_kindOf v_modOf v_bitsOf v_turnOf v_polyOf v_beginOf v_finishOf v_isLow v_weightsOf v_weight v_cell v_size v_row v_keptSize v_keptBefore v_keptAfter v_placeA v_placeB v_turned v_turnedMany v_syndromes v_lightest v_freeMany v_freePlace v_freeSyndrome v_ways v_waysKept v_trace v_comesA v_comesB) (va_A (ww_M q cs v_told v_tell v_sums v_kindOf v_modOf v_bitsOf v_turnOf v_polyOf v_beginOf v_finishOf v_isLow v_weightsOf v_weight v_cell v_size v_row v_keptSize v_keptBefore v_keptAfter v_placeA v_placeB v_turned v_turnedMany v_syndromes v_lightest v_freeMany v_freePlace v_freeSyndrome v_ways v_waysKept v_trace v_comesA v_comesB) sz)) 0 0 (va_A (ww_M q cs v_told v_tell v_sums v_kindOf v_modOf v_bitsOf v_turnOf v_polyOf v_beginOf v_finishOf v_isLow v_weightsOf v_weight v_cell v_size v_row v_keptSize v_keptBefore v_keptAfter v_placeA v_placeB v_turned v_turnedMany v_syndromes v_lightest v_freeMany v_freePlace v_freeSyndrome v_ways v_waysKept v_trace v_comesA v_comesB) sz) := by
  refine k_enter (Qf := fun A => QI G res True (ww_M q cs v_told v_tell v_sums v_kindOf v_modOf v_bitsOf v_turnOf v_polyOf v_beginOf v_finishOf v_isLow v_weightsOf v_weight v_cell v_size v_row v_keptSize v_keptBefore v_keptAfter v_placeA v_placeB v_turned v_turnedMany v_syndromes v_lightest v_freeMany v_freePlace v_freeSyndrome v_ways v_waysKept v_trace v_comesA v_comesB) A) (cc := cX12_trace) (maxL := 2) (ret := (some .int)) (plainFor_of_name (by decide)) rfl (Nat.le_of_ble_eq_true rfl) ?_
  intro p e s m args below meth c A Q ls H locs hx hb hr hml hown hts hlocks hname hK hA hRo hP hD hS hQ hl
  have hl : lv_has ls 2 [(0, .ref (q 0)), (1, .int x1)] := hl
  have wd1 := hts (.constantLong RX12 248 (6)) (List.mem_of_getElem? (i := 1) rfl)
  have wd2 := hts (.fieldLink RX12 81 "SumSmithModel" "trace" "[I") (List.mem_of_getElem? (i := 2) rfl)
  have hinX12 : ∀ w ∈ wsX120, w ∈ wsX12_trace := fun w h => List.mem_cons_of_mem _ (List.mem_append_right _ h)
  unfold M_X12_trace at hm
  refine lv_iload_n hx hb dX12_trace_0 rfl (lv_at hl 1 rfl) ?_
  refine lv_i2l (v := x1.toInt64) hx hb dX12_trace_1 rfl ?_
  refine lv_lconst (v := 0) hx hb dX12_trace_2 (by decide) ?_
  refine lv_ldc2 (own := RX12) (v := 6) hx hb hown wd1 dX12_trace_3 ?_
  refine k_calli0 (va_runS (As := [.long x1.toInt64, .long 0, .long 6]) (rest := []) ⟨hx, hb, hml, hown, hts⟩ (c_X12_in l G cs H.size    x1.toInt64 (0 : Int64) (6 : Int64) _ rfl) (va_cwS 3 hts gX12_trace_X12_in rfl rfl rfl hd_X12_in ⟨Nat.le_of_ble_eq_true rfl, Nat.le_of_ble_eq_true rfl⟩) ⟨pre_blind, pre_w hK RO.nil P0 D0 (va_new0 hS hA)⟩ rfl rfl hl.1 rfl (lv_room (Nat.le_of_ble_eq_true rfl)) dX12_trace_6 ⟨Nat.zero_le _, Nat.zero_le _⟩) hP hS hA (fun hE1 H locs hP hS => ?_)
  refine lv_if_eq (tgt := 21) hx hb dX12_trace_9 (by decide) (fun b2 => ?_) (fun b2 => ?_)
  · have hm := i_t b2 hm
    refine lv_bipush (v := (-3)) hx hb dX12_trace_21 (by decide) ?_
    have hq := Option.some.inj hm
    subst hq; subst hQ
    exact k_iret hx hb hr hlocks hP hD hS rfl trivial dX12_trace_23
  · have hm := i_f b2 hm
    refine lv_aload_n hx hb dX12_trace_12 rfl (lv_at hl 0 rfl) ?_
    refine va_get (D := G) (ci := 10) (v := .ref (q 24)) (C := RX12) (T := TX12) (N := 33) hx hb hts hinX12 hown hK.1 hP 0 rfl rfl 30 (by decide) wd2 (fun _ h9 => h9) rfl dX12_trace_13 ?_
    refine lv_iload_n hx hb dX12_trace_16 rfl (lv_at hl 1 rfl) ?_
    obtain ⟨h3, hm⟩ := g_in hm
    refine va_iald hx hb hK.1 hP 24 0 rfl rfl h3 dX12_trace_17 ?_
    refine lv_goto (tgt := 23) hx hb dX12_trace_18 (by decide) ?_
    have hq := Option.some.inj hm
    subst hq; subst hQ
    exact k_iret hx hb hr hlocks hP hD hS rfl trivial dX12_trace_23

theorem hd_X12_about : yX12_about.cls ≠ "java/lang/invoke/MethodHandle" ∧ yX12_about.cls ≠ "java/lang/invoke/VarHandle" ∧ (parseMethodDescriptor yX12_about.desc).map (fun d => d.parameters.length) = some 1 := by decide +kernel

def M_X12_about (x1 : Int32) (v_told : Int32) (v_sums : Int32) (v_size : Int32) (v_keptSize : Int32) (v_freeMany : Int32) : Int32 :=
  if x1 = 0 then v_sums else (if x1 = 1 then v_size else (if x1 = 2 then v_told else (if x1 = 3 then v_freeMany else (if x1 = 4 then v_keptSize else ((-3))))))

abbrev rmX12_about : Room := { frames := 0, cells := 0, slots := 0, locals := 0 }
set_option maxHeartbeats 4000000 in
set_option maxRecDepth 100000 in
theorem c_X12_about (l : Launch) (G : va_G) (cs : CS) (q : Nat → Nat) (sz : Nat) (v_told : Int32) (v_tell : (Nat → Int32)) (v_sums : Int32) (v_kindOf : (Nat → Int32)) (v_modOf : (Nat → Int32)) (v_bitsOf : (Nat → Int32)) (v_turnOf : (Nat → Int32)) (v_polyOf : (Nat → Int64)) (v_beginOf : (Nat → Int64)) (v_finishOf : (Nat → Int64)) (v_isLow : (Nat → Int32)) (v_weightsOf : (Nat → Int32)) (v_weight : (Nat → Int32)) (v_cell : (Nat → Int32)) (v_size : Int32) (v_row : (Nat → Int32)) (v_keptSize : Int32) (v_keptBefore : (Nat → Int32)) (v_keptAfter : (Nat → Int32)) (v_placeA : (Nat → Int64)) (v_placeB : (Nat → Int64)) (v_turned : (Nat → Int32)) (v_turnedMany : Int32) (v_syndromes : (Nat → Int64)) (v_lightest : (Nat → Int32)) (v_freeMany : Int32) (v_freePlace : (Nat → Int32)) (v_freeSyndrome : (Nat → Int64)) (v_ways : (Nat → Int32)) (v_waysKept : Int32) (v_trace : (Nat → Int32)) (v_comesA : Int64) (v_comesB : Int64)   (x1 : Int32) (res : Int32) (hm : M_X12_about x1 v_told v_sums v_size v_keptSize v_freeMany = res) : Met l yX12_about wsX12_about rmX12_about (va_Pc [.ref (q 0), .int x1] (PreW G cs sz (ww_M q cs v_told v_tell v_sums v_kindOf v_modOf v_bitsOf v_turnOf v_polyOf v_beginOf v_finishOf v_isLow v_weightsOf v_weight v_cell v_size v_row v_keptSize v_keptBefore v_keptAfter v_placeA v_placeB v_turned v_turnedMany v_syndromes v_lightest v_freeMany v_freePlace v_freeSyndrome v_ways v_waysKept v_trace v_comesA v_comesB) RN)) (QI G res True (ww_M q cs v_told v_tell v_sums v_kindOf v_modOf v_bitsOf v_turnOf v_polyOf v_beginOf v_finishOf v_isLow v_weightsOf v_weight v_cell v_size v_row v_keptSize v_keptBefore v_keptAfter v_placeA v_placeB v_turned v_turnedMany v_syndromes v_lightest v_freeMany v_freePlace v_freeSyndrome v_ways v_waysKept v_trace v_comesA v_comesB) (va_A (ww_M q cs v_told v_tell v_sums v_kindOf v_modOf v_bitsOf v_turnOf v_polyOf v_beginOf v_finishOf v_isLow v_weightsOf v_weight v_cell v_size v_row v_keptSize v_keptBefore v_keptAfter v_placeA v_placeB v_turned v_turnedMany v_syndromes v_lightest v_freeMany v_freePlace v_freeSyndrome v_ways v_waysKept v_trace v_comesA v_comesB) sz)) 0 0 (va_A (ww_M q cs v_told v_tell v_sums v_kindOf v_modOf v_bitsOf v_turnOf v_polyOf v_beginOf v_finishOf v_isLow v_weightsOf v_weight v_cell v_size v_row v_keptSize v_keptBefore v_keptAfter v_placeA v_placeB v_turned v_turnedMany v_syndromes v_lightest v_freeMany v_freePlace v_freeSyndrome v_ways v_waysKept v_trace v_comesA v_comesB) sz) := by
  refine k_enter (Qf := fun A => QI G res True (ww_M q cs v_told v_tell v_sums v_kindOf v_modOf v_bitsOf v_turnOf v_polyOf v_beginOf v_finishOf v_isLow v_weightsOf v_weight v_cell v_size v_row v_keptSize v_keptBefore v_keptAfter v_placeA v_placeB v_turned v_turnedMany v_syndromes v_lightest v_freeMany v_freePlace v_freeSyndrome v_ways v_waysKept v_trace v_comesA v_comesB) A) (cc := cX12_about) (maxL := 2) (ret := (some .int)) (plainFor_of_name (by decide)) rfl (Nat.le_of_ble_eq_true rfl) ?_
  intro p e s m args below meth c A Q ls H locs hx hb hr hml hown hts hlocks hname hK hA hRo hP hD hS hQ hl
  have hl : lv_has ls 2 [(0, .ref (q 0)), (1, .int x1)] := hl
  have wd1 := hts (.fieldLink RX12 84 "SumSmithModel" "sums" "I") (List.mem_of_getElem? (i := 1) rfl)
  have wd2 := hts (.fieldLink RX12 125 "SumSmithModel" "size" "I") (List.mem_of_getElem? (i := 2) rfl)
  have wd3 := hts (.fieldLink RX12 94 "SumSmithModel" "told" "I") (List.mem_of_getElem? (i := 3) rfl)
  have wd4 := hts (.fieldLink RX12 260 "SumSmithModel" "freeMany" "I") (List.mem_of_getElem? (i := 4) rfl)
  have wd5 := hts (.fieldLink RX12 190 "SumSmithModel" "keptSize" "I") (List.mem_of_getElem? (i := 5) rfl)
  have hinX12 : ∀ w ∈ wsX120, w ∈ wsX12_about := fun w h => List.mem_cons_of_mem _ (List.mem_append_right _ h)
  unfold M_X12_about at hm
  refine lv_iload_n hx hb dX12_about_0 rfl (lv_at hl 1 rfl) ?_
  by_cases b1 : x1 = 0
  · have hm := i_t b1 hm
    refine lv_tableIn (tgt := 36) hx hb dX12_about_1 (by rw [b1]; decide) (by rw [b1]; decide) (by rw [b1]; rfl) (by decide) ?_
    refine lv_aload_n hx hb dX12_about_36 rfl (lv_at hl 0 rfl) ?_
    refine va_get (D := G) (ci := 10) (v := .int v_sums) (C := RX12) (T := TX12) (N := 33) hx hb hts hinX12 hown hK.1 hP 0 rfl rfl 2 (by decide) wd1 (fun _ h9 => h9) rfl dX12_about_37 ?_
    have hq := hm
    subst hq; subst hQ
    exact k_iret hx hb hr hlocks hP hD hS rfl trivial dX12_about_40
  have hm := i_f b1 hm
  by_cases b2 : x1 = 1
  · have hm := i_t b2 hm
    refine lv_tableIn (tgt := 41) hx hb dX12_about_1 (by rw [b2]; decide) (by rw [b2]; decide) (by rw [b2]; rfl) (by decide) ?_
    refine lv_aload_n hx hb dX12_about_41 rfl (lv_at hl 0 rfl) ?_
    refine va_get (D := G) (ci := 10) (v := .int v_size) (C := RX12) (T := TX12) (N := 33) hx hb hts hinX12 hown hK.1 hP 0 rfl rfl 14 (by decide) wd2 (fun _ h9 => h9) rfl dX12_about_42 ?_
    have hq := hm
    subst hq; subst hQ
    exact k_iret hx hb hr hlocks hP hD hS rfl trivial dX12_about_45
  have hm := i_f b2 hm
  by_cases b3 : x1 = 2
  · have hm := i_t b3 hm
    refine lv_tableIn (tgt := 46) hx hb dX12_about_1 (by rw [b3]; decide) (by rw [b3]; decide) (by rw [b3]; rfl) (by decide) ?_
    refine lv_aload_n hx hb dX12_about_46 rfl (lv_at hl 0 rfl) ?_
    refine va_get (D := G) (ci := 10) (v := .int v_told) (C := RX12) (T := TX12) (N := 33) hx hb hts hinX12 hown hK.1 hP 0 rfl rfl 0 (by decide) wd3 (fun _ h9 => h9) rfl dX12_about_47 ?_
    have hq := hm
    subst hq; subst hQ
    exact k_iret hx hb hr hlocks hP hD hS rfl trivial dX12_about_50
  have hm := i_f b3 hm
  by_cases b4 : x1 = 3
  · have hm := i_t b4 hm
    refine lv_tableIn (tgt := 51) hx hb dX12_about_1 (by rw [b4]; decide) (by rw [b4]; decide) (by rw [b4]; rfl) (by decide) ?_
    refine lv_aload_n hx hb dX12_about_51 rfl (lv_at hl 0 rfl) ?_
    refine va_get (D := G) (ci := 10) (v := .int v_freeMany) (C := RX12) (T := TX12) (N := 33) hx hb hts hinX12 hown hK.1 hP 0 rfl rfl 25 (by decide) wd4 (fun _ h9 => h9) rfl dX12_about_52 ?_
    have hq := hm
    subst hq; subst hQ
    exact k_iret hx hb hr hlocks hP hD hS rfl trivial dX12_about_55
  have hm := i_f b4 hm
  by_cases b5 : x1 = 4
  · have hm := i_t b5 hm
    refine lv_tableIn (tgt := 56) hx hb dX12_about_1 (by rw [b5]; decide) (by rw [b5]; decide) (by rw [b5]; rfl) (by decide) ?_
    refine lv_aload_n hx hb dX12_about_56 rfl (lv_at hl 0 rfl) ?_
    refine va_get (D := G) (ci := 10) (v := .int v_keptSize) (C := RX12) (T := TX12) (N := 33) hx hb hts hinX12 hown hK.1 hP 0 rfl rfl 16 (by decide) wd5 (fun _ h9 => h9) rfl dX12_about_57 ?_
    have hq := hm
    subst hq; subst hQ
    exact k_iret hx hb hr hlocks hP hD hS rfl trivial dX12_about_60
  have hm := i_f b5 hm
  have b1 : ¬ (x1).toInt = 0 := fun e9 => ne_ti b1 (e9.trans (by decide))
  have b2 : ¬ (x1).toInt = 1 := fun e9 => ne_ti b2 (e9.trans (by decide))
  have b3 : ¬ (x1).toInt = 2 := fun e9 => ne_ti b3 (e9.trans (by decide))
  have b4 : ¬ (x1).toInt = 3 := fun e9 => ne_ti b4 (e9.trans (by decide))
  have b5 : ¬ (x1).toInt = 4 := fun e9 => ne_ti b5 (e9.trans (by decide))
  refine lv_tableOut (tgt := 61) hx hb dX12_about_1 (by omega) (by decide) ?_
  refine lv_bipush (v := (-3)) hx hb dX12_about_61 (by decide) ?_
  have hq := hm
  subst hq; subst hQ
  exact k_iret hx hb hr hlocks hP hD hS rfl trivial dX12_about_63
