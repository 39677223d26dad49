theorem hd_X11_isFull : yX11_isFull.cls ≠ "java/lang/invoke/MethodHandle" ∧ yX11_isFull.cls ≠ "java/lang/invoke/VarHandle" ∧ (parseMethodDescriptor yX11_isFull.desc).map (fun d => d.parameters.length) = some 0 := by decide +kernel

def M_X11_isFull  (v_sumCount : Int32) : Int32 :=
  if v_sumCount < 16 then 0 else 1

abbrev ww_C (q : Nat → Nat) (cs : CS) (v_ro : RF) (v_sumCount : Int32) (v_told : (Nat → Int32)) (v_toldCount : Int32) (v_row : (Nat → Int32)) (v_rowLength : Int32) (v_asked : (Nat → Int32)) (v_rising : (Nat → Int64)) (v_falling : (Nat → Int64)) (v_turned : (Nat → Int32)) (v_totals : (Nat → Int64)) (v_before : (Nat → Int32)) (v_after : (Nat → Int32)) (v_keptBytes : Int32) (v_syndromes : (Nat → Int64)) (v_places : Int32) (v_firstEntry : (Nat → Int32)) (v_nextEntry : (Nat → Int32)) (v_numbers : (Nat → Int64)) (v_counts : (Nat → Int32)) (v_size : Int32) (v_lightestPlaces : (Nat → Int32)) (v_lightestCount : Int32) (v_toldPlaces : (Nat → Int32)) (v_placeCount : Int32) (v_ways : (Nat → Int32)) (v_wayCount : Int32) (v_usable : (Nat → Int32)) (v_upTo : (Nat → Int64))   : va_W := [((q 0), .inr (9, [.ref (q 1), .int v_sumCount, .ref (q 2), .int v_toldCount, .ref (q 3), .int v_rowLength, .ref (q 4), .ref (q 5), .ref (q 12), .ref (q 19), .int v_lightestCount, .ref (q 20)])), ((q 1), .inl (cs.2.2.2, 16, .inr (.inr (.inr (.inr (roA v_ro)))))), ((q 2), .inl (cs.1, 100, .inl v_told)), ((q 3), .inl (cs.1, 64, .inl v_row)), ((q 4), .inl (cs.1, 7, .inl v_asked)), ((q 5), .inr (3, [.ref (q 6), .ref (q 7), .ref (q 8), .ref (q 9), .ref (q 10), .ref (q 11), .int v_keptBytes])), ((q 6), .inl (cs.2.1, 64, .inr (.inl v_rising))), ((q 7), .inl (cs.2.1, 64, .inr (.inl v_falling))), ((q 8), .inl (cs.1, 8, .inl v_turned)), ((q 9), .inl (cs.2.1, 64, .inr (.inl v_totals))), ((q 10), .inl (cs.1, 8, .inl v_before)), ((q 11), .inl (cs.1, 8, .inl v_after)), ((q 12), .inr (2, [.ref (q 13), .int v_places, .ref (q 14)])), ((q 13), .inl (cs.2.1, 512, .inr (.inl v_syndromes))), ((q 14), .inr (5, [.ref (q 15), .ref (q 16), .ref (q 17), .ref (q 18), .int v_size])), ((q 15), .inl (cs.1, 512, .inl v_firstEntry)), ((q 16), .inl (cs.1, 1128, .inl v_nextEntry)), ((q 17), .inl (cs.2.1, 1128, .inr (.inl v_numbers))), ((q 18), .inl (cs.1, 1128, .inl v_counts)), ((q 19), .inl (cs.1, 4, .inl v_lightestPlaces)), ((q 20), .inr (0, [.ref (q 21), .int v_placeCount, .ref (q 22), .int v_wayCount, .ref (q 23), .ref (q 24)])), ((q 21), .inl (cs.1, 16, .inl v_toldPlaces)), ((q 22), .inl (cs.1, 64, .inl v_ways)), ((q 23), .inl (cs.1, 16, .inl v_usable)), ((q 24), .inl (cs.2.1, 16, .inr (.inl v_upTo)))]

abbrev rmX11_isFull : Room := { frames := 0, cells := 0, slots := 0, locals := 0 }
set_option maxHeartbeats 4000000 in
set_option maxRecDepth 100000 in
theorem c_X11_isFull (l : Launch) (G : va_G) (cs : CS) (q : Nat → Nat) (sz : Nat) (v_ro : RF) (v_sumCount : Int32) (v_told : (Nat → Int32)) (v_toldCount : Int32) (v_row : (Nat → Int32)) (v_rowLength : Int32) (v_asked : (Nat → Int32)) (v_rising : (Nat → Int64)) (v_falling : (Nat → Int64)) (v_turned : (Nat → Int32)) (v_totals : (Nat → Int64)) (v_before : (Nat → Int32)) (v_after : (Nat → Int32)) (v_keptBytes : Int32) (v_syndromes : (Nat → Int64)) (v_places : Int32) (v_firstEntry : (Nat → Int32)) (v_nextEntry : (Nat → Int32)) (v_numbers : (Nat → Int64)) (v_counts : (Nat → Int32)) (v_size : Int32) (v_lightestPlaces : (Nat → Int32)) (v_lightestCount : Int32) (v_toldPlaces : (Nat → Int32)) (v_placeCount : Int32) (v_ways : (Nat → Int32)) (v_wayCount : Int32) (v_usable : (Nat → Int32)) (v_upTo : (Nat → Int64))    (res : Int32) (hm : M_X11_isFull v_sumCount = res) : Met l yX11_isFull wsX11_isFull rmX11_isFull (va_Pc [.ref (q 0)] (PreW G cs sz (ww_C q cs v_ro v_sumCount v_told v_toldCount v_row v_rowLength v_asked v_rising v_falling v_turned v_totals v_before v_after v_keptBytes v_syndromes v_places v_firstEntry v_nextEntry v_numbers v_counts v_size v_lightestPlaces v_lightestCount v_toldPlaces v_placeCount v_ways v_wayCount v_usable v_upTo) v_ro)) (QI G res (res = 0 ∨ res = 1) (ww_C q cs v_ro v_sumCount v_told v_toldCount v_row v_rowLength v_asked v_rising v_falling v_turned v_totals v_before v_after v_keptBytes v_syndromes v_places v_firstEntry v_nextEntry v_numbers v_counts v_size v_lightestPlaces v_lightestCount v_toldPlaces v_placeCount v_ways v_wayCount v_usable v_upTo) (va_A (ww_C q cs v_ro v_sumCount v_told v_toldCount v_row v_rowLength v_asked v_rising v_falling v_turned v_totals v_before v_after v_keptBytes v_syndromes v_places v_firstEntry v_nextEntry v_numbers v_counts v_size v_lightestPlaces v_lightestCount v_toldPlaces v_placeCount v_ways v_wayCount v_usable v_upTo) sz)) 0 0 (va_A (ww_C q cs v_ro v_sumCount v_told v_toldCount v_row v_rowLength v_asked v_rising v_falling v_turned v_totals v_before v_after v_keptBytes v_syndromes v_places v_firstEntry v_nextEntry v_numbers v_counts v_size v_lightestPlaces v_lightestCount v_toldPlaces v_placeCount v_ways v_wayCount v_usable v_upTo) sz) := by
  refine k_enter (Qf := fun A => QI G res (res = 0 ∨ res = 1) (ww_C q cs v_ro v_sumCount v_told v_toldCount v_row v_rowLength v_asked v_rising v_falling v_turned v_totals v_before v_after v_keptBytes v_syndromes v_places v_firstEntry v_nextEntry v_numbers v_counts v_size v_lightestPlaces v_lightestCount v_toldPlaces v_placeCount v_ways v_wayCount v_usable v_upTo) A) (cc := cX11_isFull) (maxL := 1) (ret := (some .boolean)) (plainFor_of_name (by decide)) rfl (Nat.le_of_ble_eq_true rfl) ?_
  intro p e s m args below meth c A Q ls H locs hx hb hr hml hown hts hlocks hname hK hA hRo hP hD hS hQ hl
  have hl : lv_has ls 1 [(0, .ref (q 0))] := hl
  have wd1 := hts (.fieldLink RX11 15 "SumSmith" "sumCount" "I") (List.mem_of_getElem? (i := 1) rfl)
  have hinX11 : ∀ w ∈ wsX110, w ∈ wsX11_isFull := fun w h => List.mem_cons_of_mem _ (List.mem_append_right _ h)
  unfold M_X11_isFull at hm
  refine lv_aload_n hx hb dX11_isFull_0 rfl (lv_at hl 0 rfl) ?_
  refine va_get (D := G) (ci := 9) (v := .int v_sumCount) (C := RX11) (T := TX11) (N := 12) hx hb hts hinX11 hown hK.1 hP 0 rfl rfl 1 (by decide) wd1 (fun _ h9 => h9) rfl dX11_isFull_1 ?_
  refine lv_bipush (v := 16) hx hb dX11_isFull_4 (by decide) ?_
  refine lv_icmp_lt (tgt := 13) hx hb dX11_isFull_6 (by decide) (fun b1 => ?_) (fun b1 => ?_)
  · have hm := i_t b1 hm
    refine lv_iconst (v := 0) hx hb dX11_isFull_13 (by decide) ?_
    have hq := hm
    subst hq; subst hQ
    exact k_zret hx hb hr hlocks hP hD hS rfl (by decide) dX11_isFull_14
  · have hm := i_f b1 hm
    refine lv_iconst (v := 1) hx hb dX11_isFull_9 (by decide) ?_
    refine lv_goto (tgt := 14) hx hb dX11_isFull_10 (by decide) ?_
    have hq := hm
    subst hq; subst hQ
    exact k_zret hx hb hr hlocks hP hD hS rfl (by decide) dX11_isFull_14

theorem hd_X11_toldIsSquare : yX11_toldIsSquare.cls ≠ "java/lang/invoke/MethodHandle" ∧ yX11_toldIsSquare.cls ≠ "java/lang/invoke/VarHandle" ∧ (parseMethodDescriptor yX11_toldIsSquare.desc).map (fun d => d.parameters.length) = some 1 := by decide +kernel

def M_X11_toldIsSquare_b14 (n : Nat) (x1 : Int32) (v_told : (Nat → Int32)) (v_toldCount : Int32) (x2 : Int32) : Option (Int32 ⊕ (Unit ⊕ Int32)) :=
  if v_toldCount ≤ x2 then (some (.inr (.inl ()))) else (if x2 < 0 ∨ 100 ≤ x2.toNatClampNeg then none else if (v_told x2.toNatClampNeg) < x1 then (some (.inl (x2 + 1))) else (some (.inr (.inr 0))))

def M_X11_toldIsSquare (n : Nat) (x1 : Int32) (v_told : (Nat → Int32)) (v_toldCount : Int32) : Option Int32 :=
  if v_toldCount = (x1 * x1) then ((lp (fun x : Int32 => M_X11_toldIsSquare_b14 n x1 v_told v_toldCount x) n (0 : Int32)).bind (Sum.elim (fun o5 => some 1) (fun r => some r))) else (some 0)

abbrev rmX11_toldIsSquare : Room := { frames := 0, cells := 0, slots := 0, locals := 0 }
set_option maxHeartbeats 4000000 in
set_option maxRecDepth 100000 in
theorem c_X11_toldIsSquare (l : Launch) (G : va_G) (cs : CS) (q : Nat → Nat) (sz : Nat) (v_ro : RF) (v_sumCount : Int32) (v_told : (Nat → Int32)) (v_toldCount : Int32) (v_row : (Nat → Int32)) (v_rowLength : Int32) (v_asked : (Nat → Int32)) (v_rising : (Nat → Int64)) (v_falling : (Nat → Int64)) (v_turned : (Nat → Int32)) (v_totals : (Nat → Int64)) (v_before : (Nat → Int32)) (v_after : (Nat → Int32)) (v_keptBytes : Int32) (v_syndromes : (Nat → Int64)) (v_places : Int32) (v_firstEntry : (Nat → Int32)) (v_nextEntry : (Nat → Int32)) (v_numbers : (Nat → Int64)) (v_counts : (Nat → Int32)) (v_size : Int32) (v_lightestPlaces : (Nat → Int32)) (v_lightestCount : Int32) (v_toldPlaces : (Nat → Int32)) (v_placeCount : Int32) (v_ways : (Nat → Int32)) (v_wayCount : Int32) (v_usable : (Nat → Int32)) (v_upTo : (Nat → Int64))   (x1 : Int32) (n : Nat) (res : Int32) (hm : M_X11_toldIsSquare n x1 v_told v_toldCount = some res) : Met l yX11_toldIsSquare wsX11_toldIsSquare rmX11_toldIsSquare (va_Pc [.ref (q 0), .int x1] (PreW G cs sz (ww_C q cs v_ro v_sumCount v_told v_toldCount v_row v_rowLength v_asked v_rising v_falling v_turned v_totals v_before v_after v_keptBytes v_syndromes v_places v_firstEntry v_nextEntry v_numbers v_counts v_size v_lightestPlaces v_lightestCount v_toldPlaces v_placeCount v_ways v_wayCount v_usable v_upTo) v_ro)) (QI G res (res = 0 ∨ res = 1) (ww_C q cs v_ro v_sumCount v_told v_toldCount v_row v_rowLength v_asked v_rising v_falling v_turned v_totals v_before v_after v_keptBytes v_syndromes v_places v_firstEntry v_nextEntry v_numbers v_counts v_size v_lightestPlaces v_lightestCount v_toldPlaces v_placeCount v_ways v_wayCount v_usable v_upTo) (va_A (ww_C q cs v_ro v_sumCount v_told v_toldCount v_row v_rowLength v_asked v_rising v_falling v_turned v_totals v_before v_after v_keptBytes v_syndromes v_places v_firstEntry v_nextEntry v_numbers v_counts v_size v_lightestPlaces v_lightestCount v_toldPlaces v_placeCount v_ways v_wayCount v_usable v_upTo) sz)) 0 0 (va_A (ww_C q cs v_ro v_sumCount v_told v_toldCount v_row v_rowLength v_asked v_rising v_falling v_turned v_totals v_before v_after v_keptBytes v_syndromes v_places v_firstEntry v_nextEntry v_numbers v_counts v_size v_lightestPlaces v_lightestCount v_toldPlaces v_placeCount v_ways v_wayCount v_usable v_upTo) sz) := by
  refine k_enter (Qf := fun A => QI G res (res = 0 ∨ res = 1) (ww_C q cs v_ro v_sumCount v_told v_toldCount v_row v_rowLength v_asked v_rising v_falling v_turned v_totals v_before v_after v_keptBytes v_syndromes v_places v_firstEntry v_nextEntry v_numbers v_counts v_size v_lightestPlaces v_lightestCount v_toldPlaces v_placeCount v_ways v_wayCount v_usable v_upTo) A) (cc := cX11_toldIsSquare) (maxL := 3) (ret := (some .boolean)) (plainFor_of_name (by decide)) rfl (Nat.le_of_ble_eq_true rfl) ?_
  intro p e s m args below meth c A Q ls H locs hx hb hr hml hown hts hlocks hname hK hA hRo hP hD hS hQ hl
  have hl : lv_has ls 3 [(0, .ref (q 0)), (1, .int x1)] := hl
  have wd1 := hts (.fieldLink RX11 23 "SumSmith" "toldCount" "I") (List.mem_of_getElem? (i := 1) rfl)
  have wd2 := hts (.fieldLink RX11 19 "SumSmith" "told" "[I") (List.mem_of_getElem? (i := 2) rfl)
  have hinX11 : ∀ w ∈ wsX110, w ∈ wsX11_toldIsSquare := fun w h => List.mem_cons_of_mem _ (List.mem_append_right _ h)
  have L14 : ∀ (x1 : Int32) (x2 : Int32) (out : (Unit ⊕ Int32)), lp (fun x : Int32 => M_X11_toldIsSquare_b14 n x1 v_told v_toldCount x) n x2 = some out → (∀ r, out = .inr r → r = res) → (∀ (o : Unit), out = .inl o → ∀ (H : Heap) (locs : List Loc), va_P G vwCl (ww_C q cs v_ro v_sumCount v_told v_toldCount v_row v_rowLength v_asked v_rising v_falling v_turned v_totals v_before v_after v_keptBytes v_syndromes v_places v_firstEntry v_nextEntry v_numbers v_counts v_size v_lightestPlaces v_lightestCount v_toldPlaces v_placeCount v_ways v_wayCount v_usable v_upTo) H → va_D A (ww_C q cs v_ro v_sumCount v_told v_toldCount v_row v_rowLength v_asked v_rising v_falling v_turned v_totals v_before v_after v_keptBytes v_syndromes v_places v_firstEntry v_nextEntry v_numbers v_counts v_size v_lightestPlaces v_lightestCount v_toldPlaces v_placeCount v_ways v_wayCount v_usable v_upTo) → va_S A s.heap H locs → ∀ (ls : Array Slot), lv_has ls 3 [] → W p l e rmX11_toldIsSquare s m args below meth c H locs 0 0 Q (F0 m 40 ls [])) → ∀ (H : Heap) (locs : List Loc), va_P G vwCl (ww_C q cs v_ro v_sumCount v_told v_toldCount v_row v_rowLength v_asked v_rising v_falling v_turned v_totals v_before v_after v_keptBytes v_syndromes v_places v_firstEntry v_nextEntry v_numbers v_counts v_size v_lightestPlaces v_lightestCount v_toldPlaces v_placeCount v_ways v_wayCount v_usable v_upTo) H → va_D A (ww_C q cs v_ro v_sumCount v_told v_toldCount v_row v_rowLength v_asked v_rising v_falling v_turned v_totals v_before v_after v_keptBytes v_syndromes v_places v_firstEntry v_nextEntry v_numbers v_counts v_size v_lightestPlaces v_lightestCount v_toldPlaces v_placeCount v_ways v_wayCount v_usable v_upTo) → va_S A s.heap H locs → ∀ (ls : Array Slot), lv_has ls 3 [(0, .ref (q 0)), (1, .int x1), (2, .int x2)] → W p l e rmX11_toldIsSquare s m args below meth c H locs 0 0 Q (F0 m 14 ls []) := by
    intro x1 x2 out hlp hret hX
    refine lp_ind (fun x => ∀ (H : Heap) (locs : List Loc), va_P G vwCl (ww_C q cs v_ro v_sumCount v_told v_toldCount v_row v_rowLength v_asked v_rising v_falling v_turned v_totals v_before v_after v_keptBytes v_syndromes v_places v_firstEntry v_nextEntry v_numbers v_counts v_size v_lightestPlaces v_lightestCount v_toldPlaces v_placeCount v_ways v_wayCount v_usable v_upTo) H → va_D A (ww_C q cs v_ro v_sumCount v_told v_toldCount v_row v_rowLength v_asked v_rising v_falling v_turned v_totals v_before v_after v_keptBytes v_syndromes v_places v_firstEntry v_nextEntry v_numbers v_counts v_size v_lightestPlaces v_lightestCount v_toldPlaces v_placeCount v_ways v_wayCount v_usable v_upTo) → va_S A s.heap H locs → ∀ (ls : Array Slot), lv_has ls 3 [(0, .ref (q 0)), (1, .int x1), (2, .int x)] → W p l e rmX11_toldIsSquare s m args below meth c H locs 0 0 Q (F0 m 14 ls [])) ?_ n x2 hlp
    clear hlp hP hD hS hl
    intro x2 ob hm hst H locs hP hD hS ls hl
    have hm : M_X11_toldIsSquare_b14 n x1 v_told v_toldCount x2 = some ob := hm
    have hl : lv_has ls 3 [(0, .ref (q 0)), (1, .int x1), (2, .int x2)] := hl
    have hP : va_P G vwCl (ww_C q cs v_ro v_sumCount v_told v_toldCount v_row v_rowLength v_asked v_rising v_falling v_turned v_totals v_before v_after v_keptBytes v_syndromes v_places v_firstEntry v_nextEntry v_numbers v_counts v_size v_lightestPlaces v_lightestCount v_toldPlaces v_placeCount v_ways v_wayCount v_usable v_upTo) H := hP
    have hD : va_D A (ww_C q cs v_ro v_sumCount v_told v_toldCount v_row v_rowLength v_asked v_rising v_falling v_turned v_totals v_before v_after v_keptBytes v_syndromes v_places v_firstEntry v_nextEntry v_numbers v_counts v_size v_lightestPlaces v_lightestCount v_toldPlaces v_placeCount v_ways v_wayCount v_usable v_upTo) := hD
    unfold M_X11_toldIsSquare_b14 at hm
    refine lv_iload_n hx hb dX11_toldIsSquare_14 rfl (lv_at hl 2 rfl) ?_
    refine lv_aload_n hx hb dX11_toldIsSquare_15 rfl (lv_at hl 0 rfl) ?_
    refine va_get (D := G) (ci := 9) (v := .int v_toldCount) (C := RX11) (T := TX11) (N := 12) hx hb hts hinX11 hown hK.1 hP 0 rfl rfl 3 (by decide) wd1 (fun _ h9 => h9) rfl dX11_toldIsSquare_16 ?_
    refine lv_icmp_ge (tgt := 40) hx hb dX11_toldIsSquare_19 (by decide) (fun b2 => ?_) (fun b2 => ?_)
    · have hm := i_t b2 hm
      exact hX _ (st_exit hm hst) H locs hP hD hS ls (lv_sub hl [] rfl)
    · have hm := i_f b2 hm
      refine lv_aload_n hx hb dX11_toldIsSquare_22 rfl (lv_at hl 0 rfl) ?_
      refine va_get (D := G) (ci := 9) (v := .ref (q 2)) (C := RX11) (T := TX11) (N := 12) hx hb hts hinX11 hown hK.1 hP 0 rfl rfl 2 (by decide) wd2 (fun _ h9 => h9) rfl dX11_toldIsSquare_23 ?_
      refine lv_iload_n hx hb dX11_toldIsSquare_26 rfl (lv_at hl 2 rfl) ?_
      obtain ⟨h3, hm⟩ := g_in hm
      refine va_iald hx hb hK.1 hP 2 0 rfl rfl h3 dX11_toldIsSquare_27 ?_
      refine lv_iload_n hx hb dX11_toldIsSquare_28 rfl (lv_at hl 1 rfl) ?_
      refine lv_icmp_lt (tgt := 34) hx hb dX11_toldIsSquare_29 (by decide) (fun b4 => ?_) (fun b4 => ?_)
      · have hm := i_t b4 hm
        refine lv_iinc (v := x2 + 1) (lv' := [(2, .int (x2 + 1)), (0, .ref (q 0)), (1, .int x1)]) hx hb dX11_toldIsSquare_34 hl (k := 2) rfl rfl (by decide) rfl (fun ls hl => ?_)
        refine lv_goto (tgt := 14) hx hb dX11_toldIsSquare_37 (by decide) ?_
        exact st_next hm hst H locs hP hD hS ls (lv_sub hl [1, 2, 0] rfl)
      · have hm := i_f b4 hm
        refine lv_iconst (v := 0) hx hb dX11_toldIsSquare_32 (by decide) ?_
        have hq := hret _ (st_exit hm hst)
        subst hq; subst hQ
        exact k_zret hx hb hr hlocks hP hD hS rfl (by decide) dX11_toldIsSquare_33
  unfold M_X11_toldIsSquare at hm
  refine lv_aload_n hx hb dX11_toldIsSquare_0 rfl (lv_at hl 0 rfl) ?_
  refine va_get (D := G) (ci := 9) (v := .int v_toldCount) (C := RX11) (T := TX11) (N := 12) hx hb hts hinX11 hown hK.1 hP 0 rfl rfl 3 (by decide) wd1 (fun _ h9 => h9) rfl dX11_toldIsSquare_1 ?_
  refine lv_iload_n hx hb dX11_toldIsSquare_4 rfl (lv_at hl 1 rfl) ?_
  refine lv_iload_n hx hb dX11_toldIsSquare_5 rfl (lv_at hl 1 rfl) ?_
  refine lv_imul hx hb dX11_toldIsSquare_6 ?_
  refine lv_icmp_eq (tgt := 12) hx hb dX11_toldIsSquare_7 (by decide) (fun b1 => ?_) (fun b1 => ?_)
  · have hm := i_t b1 hm
    refine lv_iconst (v := 0) hx hb dX11_toldIsSquare_12 (by decide) ?_
    refine lv_istore_n (lv' := [(2, .int 0), (0, .ref (q 0)), (1, .int x1)]) hx hb dX11_toldIsSquare_13 rfl hl (by decide) rfl (fun ls hl => ?_)
    obtain ⟨u5, hlp5, hm⟩ := bs hm
    refine L14 x1 (0 : Int32) u5 hlp5 (fun r h => Option.some.inj (se_r h hm)) (fun o5 ho => ?_) H locs hP hD hS ls (lv_sub hl [1, 2, 0] rfl)
    have hm := se_l ho hm
    intro H locs hP hD hS ls hl
    have hl : lv_has ls 3 [] := hl
    have hP : va_P G vwCl (ww_C q cs v_ro v_sumCount v_told v_toldCount v_row v_rowLength v_asked v_rising v_falling v_turned v_totals v_before v_after v_keptBytes v_syndromes v_places v_firstEntry v_nextEntry v_numbers v_counts v_size v_lightestPlaces v_lightestCount v_toldPlaces v_placeCount v_ways v_wayCount v_usable v_upTo) H := hP
    have hD : va_D A (ww_C q cs v_ro v_sumCount v_told v_toldCount v_row v_rowLength v_asked v_rising v_falling v_turned v_totals v_before v_after v_keptBytes v_syndromes v_places v_firstEntry v_nextEntry v_numbers v_counts v_size v_lightestPlaces v_lightestCount v_toldPlaces v_placeCount v_ways v_wayCount v_usable v_upTo) := hD
    refine lv_iconst (v := 1) hx hb dX11_toldIsSquare_40 (by decide) ?_
    have hq := Option.some.inj hm
    subst hq; subst hQ
    exact k_zret hx hb hr hlocks hP hD hS rfl (by decide) dX11_toldIsSquare_41
  · have hm := i_f b1 hm
    refine lv_iconst (v := 0) hx hb dX11_toldIsSquare_10 (by decide) ?_
    have hq := Option.some.inj hm
    subst hq; subst hQ
    exact k_zret hx hb hr hlocks hP hD hS rfl (by decide) dX11_toldIsSquare_11

theorem hd_X11_sumAt : yX11_sumAt.cls ≠ "java/lang/invoke/MethodHandle" ∧ yX11_sumAt.cls ≠ "java/lang/invoke/VarHandle" ∧ (parseMethodDescriptor yX11_sumAt.desc).map (fun d => d.parameters.length) = some 1 := by decide +kernel

def M_X11_sumAt (x1 : Int32) (v_ro : RF) (v_sumCount : Int32) : Option (Option (Nat × Nat × SD)) :=
  if (M_X11_within x1 (0 : Int32) (v_sumCount - 1)) = 0 then (some none) else (if x1 < 0 ∨ 16 ≤ x1.toNatClampNeg then none else some (v_ro x1.toNatClampNeg))

abbrev rmX11_sumAt : Room := { frames := 1, cells := 0, slots := 0, locals := 22 }
set_option maxHeartbeats 4000000 in
set_option maxRecDepth 100000 in
theorem c_X11_sumAt (l : Launch) (G : va_G) (cs : CS) (q : Nat → Nat) (sz : Nat) (v_ro : RF) (v_sumCount : Int32) (v_told : (Nat → Int32)) (v_toldCount : Int32) (v_row : (Nat → Int32)) (v_rowLength : Int32) (v_asked : (Nat → Int32)) (v_rising : (Nat → Int64)) (v_falling : (Nat → Int64)) (v_turned : (Nat → Int32)) (v_totals : (Nat → Int64)) (v_before : (Nat → Int32)) (v_after : (Nat → Int32)) (v_keptBytes : Int32) (v_syndromes : (Nat → Int64)) (v_places : Int32) (v_firstEntry : (Nat → Int32)) (v_nextEntry : (Nat → Int32)) (v_numbers : (Nat → Int64)) (v_counts : (Nat → Int32)) (v_size : Int32) (v_lightestPlaces : (Nat → Int32)) (v_lightestCount : Int32) (v_toldPlaces : (Nat → Int32)) (v_placeCount : Int32) (v_ways : (Nat → Int32)) (v_wayCount : Int32) (v_usable : (Nat → Int32)) (v_upTo : (Nat → Int64))   (x1 : Int32) (res : (Option (Nat × Nat × SD))) (hm : M_X11_sumAt x1 v_ro v_sumCount = some res) : Met l yX11_sumAt wsX11_sumAt rmX11_sumAt (va_Pc [.ref (q 0), .int x1] (PreW G cs sz (ww_C q cs v_ro v_sumCount v_told v_toldCount v_row v_rowLength v_asked v_rising v_falling v_turned v_totals v_before v_after v_keptBytes v_syndromes v_places v_firstEntry v_nextEntry v_numbers v_counts v_size v_lightestPlaces v_lightestCount v_toldPlaces v_placeCount v_ways v_wayCount v_usable v_upTo) v_ro)) (QQ G (Option.map (fun z : Nat × Nat × SD => z.1) res) (ww_C q cs v_ro v_sumCount v_told v_toldCount v_row v_rowLength v_asked v_rising v_falling v_turned v_totals v_before v_after v_keptBytes v_syndromes v_places v_firstEntry v_nextEntry v_numbers v_counts v_size v_lightestPlaces v_lightestCount v_toldPlaces v_placeCount v_ways v_wayCount v_usable v_upTo) (va_A (ww_C q cs v_ro v_sumCount v_told v_toldCount v_row v_rowLength v_asked v_rising v_falling v_turned v_totals v_before v_after v_keptBytes v_syndromes v_places v_firstEntry v_nextEntry v_numbers v_counts v_size v_lightestPlaces v_lightestCount v_toldPlaces v_placeCount v_ways v_wayCount v_usable v_upTo) sz)) 0 0 (va_A (ww_C q cs v_ro v_sumCount v_told v_toldCount v_row v_rowLength v_asked v_rising v_falling v_turned v_totals v_before v_after v_keptBytes v_syndromes v_places v_firstEntry v_nextEntry v_numbers v_counts v_size v_lightestPlaces v_lightestCount v_toldPlaces v_placeCount v_ways v_wayCount v_usable v_upTo) sz) := by
  refine k_enter (Qf := fun A => QQ G (Option.map (fun z : Nat × Nat × SD => z.1) res) (ww_C q cs v_ro v_sumCount v_told v_toldCount v_row v_rowLength v_asked v_rising v_falling v_turned v_totals v_before v_after v_keptBytes v_syndromes v_places v_firstEntry v_nextEntry v_numbers v_counts v_size v_lightestPlaces v_lightestCount v_toldPlaces v_placeCount v_ways v_wayCount v_usable v_upTo) A) (cc := cX11_sumAt) (maxL := 2) (ret := (some (.object "SumSmith$Sum"))) (plainFor_of_name (by decide)) rfl (Nat.le_of_ble_eq_true rfl) ?_
  intro p e s m args below meth c A Q ls H locs hx hb hr hml hown hts hlocks hname hK hA hRo hP hD hS hQ hl
  have hl : lv_has ls 2 [(0, .ref (q 0)), (1, .int x1)] := hl
  have wd1 := hts (.fieldLink RX11 15 "SumSmith" "sumCount" "I") (List.mem_of_getElem? (i := 1) rfl)
  have wd2 := hts (.fieldLink RX11 11 "SumSmith" "sums" "[LSumSmith$Sum;") (List.mem_of_getElem? (i := 2) rfl)
  have hinX11 : ∀ w ∈ wsX110, w ∈ wsX11_sumAt := fun w h => List.mem_cons_of_mem _ (List.mem_append_right _ h)
  unfold M_X11_sumAt at hm
  refine lv_iload_n hx hb dX11_sumAt_0 rfl (lv_at hl 1 rfl) ?_
  refine lv_iconst (v := 0) hx hb dX11_sumAt_1 (by decide) ?_
  refine lv_aload_n hx hb dX11_sumAt_2 rfl (lv_at hl 0 rfl) ?_
  refine va_get (D := G) (ci := 9) (v := .int v_sumCount) (C := RX11) (T := TX11) (N := 12) hx hb hts hinX11 hown hK.1 hP 0 rfl rfl 1 (by decide) wd1 (fun _ h9 => h9) rfl dX11_sumAt_3 ?_
  refine lv_iconst (v := 1) hx hb dX11_sumAt_6 (by decide) ?_
  refine lv_isub hx hb dX11_sumAt_7 ?_
  refine k_calli0 (va_runS (As := [.int x1, .int 0, .int (v_sumCount - 1)]) (rest := []) ⟨hx, hb, hml, hown, hts⟩ (c_X11_within l G cs H.size    x1 (0 : Int32) (v_sumCount - 1) _ rfl) (va_cwS 3 hts gX11_sumAt_X11_within rfl rfl rfl hd_X11_within ⟨Nat.le_of_ble_eq_true rfl, Nat.le_of_ble_eq_true rfl⟩) ⟨pre_blind, pre_w hK RO.nil P0 D0 (va_new0 hS hA)⟩ rfl rfl hl.1 rfl (lv_room (Nat.le_of_ble_eq_true rfl)) dX11_sumAt_8 ⟨Nat.zero_le _, Nat.zero_le _⟩) hP hS hA (fun hE1 H locs hP hS => ?_)
  refine lv_if_eq (tgt := 23) hx hb dX11_sumAt_11 (by decide) (fun b2 => ?_) (fun b2 => ?_)
  · have hm := i_t b2 hm
    refine lv_null hx hb dX11_sumAt_23 ?_
    have hq := Option.some.inj hm
    subst hq; subst hQ
    exact k_aret hx hb hr hlocks hP hD hS rfl dX11_sumAt_24
  · have hm := i_f b2 hm
    refine lv_aload_n hx hb dX11_sumAt_14 rfl (lv_at hl 0 rfl) ?_
    refine va_get (D := G) (ci := 9) (v := .ref (q 1)) (C := RX11) (T := TX11) (N := 12) hx hb hts hinX11 hown hK.1 hP 0 rfl rfl 0 (by decide) wd2 (fun _ h9 => h9) rfl dX11_sumAt_15 ?_
    refine lv_iload_n hx hb dX11_sumAt_18 rfl (lv_at hl 1 rfl) ?_
    obtain ⟨h3, hm⟩ := g_in hm
    refine va_aldq hx hb hK.1 hP 1 3 rfl rfl h3 dX11_sumAt_19 ?_
    refine lv_goto (tgt := 24) hx hb dX11_sumAt_20 (by decide) ?_
    have hq := Option.some.inj hm
    subst hq; subst hQ
    exact k_aret hx hb hr hlocks hP hD hS rfl dX11_sumAt_24

theorem sumAt_ro {x1 : Int32} {v_ro : RF} {v_sumCount : Int32} {y : Nat × Nat × SD} (h : M_X11_sumAt x1 v_ro v_sumCount = some (some y)) : ∃ j, v_ro j = some y := by
  unfold M_X11_sumAt at h
  split at h
  · cases h
  · obtain ⟨-, h⟩ := g_in h
    exact ⟨_, Option.some.inj h⟩

def V_ofRow (n : Nat) (sd : SD) (x2 : Int32) (v_p1 : (Nat → Int32)) (n1 : Nat) : Option Int64 :=
  if sd.1 = 8 then M_X10_ofRow n x2 v_p1 n1 sd.2.2.1 sd.2.2.2.2.2.2.2.2.1 sd.2.2.2.2.2.2.2.2.2 else (if sd.1 = 7 then M_X9_ofRow n x2 v_p1 n1 sd.2.2.1 else (if sd.1 = 6 then M_X8_ofRow n x2 v_p1 n1 sd.2.2.1 sd.2.2.2.1 else (if sd.1 = 1 then M_X1_ofRow n x2 v_p1 n1 sd.2.2.1 sd.2.2.2.2.1 sd.2.2.2.2.2.1 sd.2.2.2.2.2.2.1 sd.2.2.2.2.2.2.2.1 else (if sd.1 = 4 then M_X5_ofRow n x2 v_p1 n1 sd.2.2.1 sd.2.2.2.2.2.2.2.2.1 sd.2.2.2.2.2.2.2.2.2 else (none)))))
theorem hdv_ofRow : ("SumSmith$Sum" : String) ≠ "java/lang/invoke/MethodHandle" ∧ ("SumSmith$Sum" : String) ≠ "java/lang/invoke/VarHandle" ∧ (parseMethodDescriptor "([II)J").map (fun d => d.parameters.length) = some 2 := by decide +kernel

theorem hd_X11_tell : yX11_tell.cls ≠ "java/lang/invoke/MethodHandle" ∧ yX11_tell.cls ≠ "java/lang/invoke/VarHandle" ∧ (parseMethodDescriptor yX11_tell.desc).map (fun d => d.parameters.length) = some 1 := by decide +kernel

def M_X11_tell (x1 : Int32) (v_told : (Nat → Int32)) (v_toldCount : Int32) : Option (Int32 × (Nat → Int32) × Int32) :=
  if (M_X11_within x1 (0 : Int32) (65535 : Int32)) = 0 then (some ((-3), v_told, v_toldCount)) else (if v_toldCount < 100 then (if v_toldCount < 0 ∨ 100 ≤ v_toldCount.toNatClampNeg then none else some ((v_toldCount + 1), (upd v_told v_toldCount.toNatClampNeg x1), (v_toldCount + 1))) else (some ((-6), v_told, v_toldCount)))

abbrev rmX11_tell : Room := { frames := 1, cells := 0, slots := 0, locals := 22 }
set_option maxHeartbeats 4000000 in
set_option maxRecDepth 100000 in
theorem c_X11_tell (l : Launch) (G : va_G) (cs : CS) (q : Nat → Nat) (sz : Nat) (v_ro : RF) (v_sumCount : Int32) (v_told : (Nat → Int32)) (v_toldCount : Int32) (v_row : (Nat → Int32)) (v_rowLength : Int32) (v_asked : (Nat → Int32)) (v_rising : (Nat → Int64)) (v_falling : (Nat → Int64)) (v_turned : (Nat → Int32)) (v_totals : (Nat → Int64)) (v_before : (Nat → Int32)) (v_after : (Nat → Int32)) (v_keptBytes : Int32) (v_syndromes : (Nat → Int64)) (v_places : Int32) (v_firstEntry : (Nat → Int32)) (v_nextEntry : (Nat → Int32)) (v_numbers : (Nat → Int64)) (v_counts : (Nat → Int32)) (v_size : Int32) (v_lightestPlaces : (Nat → Int32)) (v_lightestCount : Int32) (v_toldPlaces : (Nat → Int32)) (v_placeCount : Int32) (v_ways : (Nat → Int32)) (v_wayCount : Int32) (v_usable : (Nat → Int32)) (v_upTo : (Nat → Int64))   (x1 : Int32) (res : (Int32 × (Nat → Int32) × Int32)) (hm : M_X11_tell x1 v_told v_toldCount = some res) : Met l yX11_tell wsX11_tell rmX11_tell (va_Pc [.ref (q 0), .int x1] (PreW G cs sz (ww_C q cs v_ro v_sumCount v_told v_toldCount v_row v_rowLength v_asked v_rising v_falling v_turned v_totals v_before v_after v_keptBytes v_syndromes v_places v_firstEntry v_nextEntry v_numbers v_counts v_size v_lightestPlaces v_lightestCount v_toldPlaces v_placeCount v_ways v_wayCount v_usable v_upTo) v_ro)) (QI G res.1 True (ww_C q cs v_ro v_sumCount res.2.1 res.2.2 v_row v_rowLength v_asked v_rising v_falling v_turned v_totals v_before v_after v_keptBytes v_syndromes v_places v_firstEntry v_nextEntry v_numbers v_counts v_size v_lightestPlaces v_lightestCount v_toldPlaces v_placeCount v_ways v_wayCount v_usable v_upTo) (va_A (ww_C q cs v_ro v_sumCount v_told v_toldCount v_row v_rowLength v_asked v_rising v_falling v_turned v_totals v_before v_after v_keptBytes v_syndromes v_places v_firstEntry v_nextEntry v_numbers v_counts v_size v_lightestPlaces v_lightestCount v_toldPlaces v_placeCount v_ways v_wayCount v_usable v_upTo) sz)) 0 0 (va_A (ww_C q cs v_ro v_sumCount v_told v_toldCount v_row v_rowLength v_asked v_rising v_falling v_turned v_totals v_before v_after v_keptBytes v_syndromes v_places v_firstEntry v_nextEntry v_numbers v_counts v_size v_lightestPlaces v_lightestCount v_toldPlaces v_placeCount v_ways v_wayCount v_usable v_upTo) sz) := by
  refine k_enter (Qf := fun A => QI G res.1 True (ww_C q cs v_ro v_sumCount res.2.1 res.2.2 v_row v_rowLength v_asked v_rising v_falling v_turned v_totals v_before v_after v_keptBytes v_syndromes v_places v_firstEntry v_nextEntry v_numbers v_counts v_size v_lightestPlaces v_lightestCount v_toldPlaces v_placeCount v_ways v_wayCount v_usable v_upTo) A) (cc := cX11_tell) (maxL := 2) (ret := (some .int)) (plainFor_of_name (by decide)) rfl (Nat.le_of_ble_eq_true rfl) ?_
  intro p e s m args below meth c A Q ls H locs hx hb hr hml hown hts hlocks hname hK hA hRo hP hD hS hQ hl
  have hl : lv_has ls 2 [(0, .ref (q 0)), (1, .int x1)] := hl
  have wd1 := hts (.constant RX11 62 (65535)) (List.mem_of_getElem? (i := 1) rfl)
  have wd2 := hts (.fieldLink RX11 23 "SumSmith" "toldCount" "I") (List.mem_of_getElem? (i := 2) rfl)
  have wd3 := hts (.fieldLink RX11 19 "SumSmith" "told" "[I") (List.mem_of_getElem? (i := 3) rfl)
  have hinX11 : ∀ w ∈ wsX110, w ∈ wsX11_tell := fun w h => List.mem_cons_of_mem _ (List.mem_append_right _ h)
  unfold M_X11_tell at hm
  refine lv_iload_n hx hb dX11_tell_0 rfl (lv_at hl 1 rfl) ?_
  refine lv_iconst (v := 0) hx hb dX11_tell_1 (by decide) ?_
  refine lv_ldc (own := RX11) (v := 65535) hx hb hown wd1 dX11_tell_2 ?_
  refine k_calli0 (va_runS (As := [.int x1, .int 0, .int 65535]) (rest := []) ⟨hx, hb, hml, hown, hts⟩ (c_X11_within l G cs H.size    x1 (0 : Int32) (65535 : Int32) _ rfl) (va_cwS 3 hts gX11_tell_X11_within rfl rfl rfl hd_X11_within ⟨Nat.le_of_ble_eq_true rfl, Nat.le_of_ble_eq_true rfl⟩) ⟨pre_blind, pre_w hK RO.nil P0 D0 (va_new0 hS hA)⟩ rfl rfl hl.1 rfl (lv_room (Nat.le_of_ble_eq_true rfl)) dX11_tell_4 ⟨Nat.zero_le _, Nat.zero_le _⟩) hP hS hA (fun hE1 H locs hP hS => ?_)
  refine lv_if_ne (tgt := 13) hx hb dX11_tell_7 (by decide) (fun b2 => ?_) (fun b2 => ?_)
  · have hm := i_f b2 hm
    refine lv_aload_n hx hb dX11_tell_13 rfl (lv_at hl 0 rfl) ?_
    refine va_get (D := G) (ci := 9) (v := .int v_toldCount) (C := RX11) (T := TX11) (N := 12) hx hb hts hinX11 hown hK.1 hP 0 rfl rfl 3 (by decide) wd2 (fun _ h9 => h9) rfl dX11_tell_14 ?_
    refine lv_bipush (v := 100) hx hb dX11_tell_17 (by decide) ?_
    refine lv_icmp_lt (tgt := 25) hx hb dX11_tell_19 (by decide) (fun b3 => ?_) (fun b3 => ?_)
    · have hm := i_t b3 hm
      refine lv_aload_n hx hb dX11_tell_25 rfl (lv_at hl 0 rfl) ?_
      refine va_get (D := G) (ci := 9) (v := .ref (q 2)) (C := RX11) (T := TX11) (N := 12) hx hb hts hinX11 hown hK.1 hP 0 rfl rfl 2 (by decide) wd3 (fun _ h9 => h9) rfl dX11_tell_26 ?_
      refine lv_aload_n hx hb dX11_tell_29 rfl (lv_at hl 0 rfl) ?_
      refine va_get (D := G) (ci := 9) (v := .int v_toldCount) (C := RX11) (T := TX11) (N := 12) hx hb hts hinX11 hown hK.1 hP 0 rfl rfl 3 (by decide) wd2 (fun _ h9 => h9) rfl dX11_tell_30 ?_
      refine lv_iload_n hx hb dX11_tell_33 rfl (lv_at hl 1 rfl) ?_
      obtain ⟨h4, hm⟩ := g_in hm
      refine va_iast hx hb hK.1 hP hD hS 2 0 rfl rfl h4 dX11_tell_34 (fun H locs hP hD hS => ?_)
      have hP : va_P G vwCl (ww_C q cs v_ro v_sumCount (upd v_told v_toldCount.toNatClampNeg x1) v_toldCount v_row v_rowLength v_asked v_rising v_falling v_turned v_totals v_before v_after v_keptBytes v_syndromes v_places v_firstEntry v_nextEntry v_numbers v_counts v_size v_lightestPlaces v_lightestCount v_toldPlaces v_placeCount v_ways v_wayCount v_usable v_upTo) H := hP
      have hD : va_D A (ww_C q cs v_ro v_sumCount (upd v_told v_toldCount.toNatClampNeg x1) v_toldCount v_row v_rowLength v_asked v_rising v_falling v_turned v_totals v_before v_after v_keptBytes v_syndromes v_places v_firstEntry v_nextEntry v_numbers v_counts v_size v_lightestPlaces v_lightestCount v_toldPlaces v_placeCount v_ways v_wayCount v_usable v_upTo) := hD
      refine lv_aload_n hx hb dX11_tell_35 rfl (lv_at hl 0 rfl) ?_
      refine lv_dup hx hb dX11_tell_36 rfl ?_
      refine va_get (D := G) (ci := 9) (v := .int v_toldCount) (C := RX11) (T := TX11) (N := 12) hx hb hts hinX11 hown hK.1 hP 0 rfl rfl 3 (by decide) wd2 (fun _ h9 => h9) rfl dX11_tell_37 ?_
      refine lv_iconst (v := 1) hx hb dX11_tell_40 (by decide) ?_
      refine lv_iadd hx hb dX11_tell_41 ?_
      refine va_put (D := G) (ci := 9) (v := .int (v_toldCount + 1)) (ty := .int) (C := RX11) (T := TX11) (N := 12) hx hb hts hinX11 tyX11 tyX11_ok nmX11 hown hK.1 hP hD hS 0 rfl rfl 3 (by decide) wd2 (fun _ h9 => h9) rfl (by decide +kernel) rfl rfl (Nat.le_of_ble_eq_true rfl) dX11_tell_42 (fun H locs hP hD hS => ?_)
      have hP : va_P G vwCl (ww_C q cs v_ro v_sumCount (upd v_told v_toldCount.toNatClampNeg x1) (v_toldCount + 1) v_row v_rowLength v_asked v_rising v_falling v_turned v_totals v_before v_after v_keptBytes v_syndromes v_places v_firstEntry v_nextEntry v_numbers v_counts v_size v_lightestPlaces v_lightestCount v_toldPlaces v_placeCount v_ways v_wayCount v_usable v_upTo) H := hP
      have hD : va_D A (ww_C q cs v_ro v_sumCount (upd v_told v_toldCount.toNatClampNeg x1) (v_toldCount + 1) v_row v_rowLength v_asked v_rising v_falling v_turned v_totals v_before v_after v_keptBytes v_syndromes v_places v_firstEntry v_nextEntry v_numbers v_counts v_size v_lightestPlaces v_lightestCount v_toldPlaces v_placeCount v_ways v_wayCount v_usable v_upTo) := hD
      refine lv_aload_n hx hb dX11_tell_45 rfl (lv_at hl 0 rfl) ?_
      refine va_get (D := G) (ci := 9) (v := .int (v_toldCount + 1)) (C := RX11) (T := TX11) (N := 12) hx hb hts hinX11 hown hK.1 hP 0 rfl rfl 3 (by decide) wd2 (fun _ h9 => h9) rfl dX11_tell_46 ?_
      have hq := Option.some.inj hm
      subst hq; subst hQ
      exact k_iret hx hb hr hlocks hP hD hS rfl trivial dX11_tell_49
    · have hm := i_f b3 hm
      refine lv_bipush (v := (-6)) hx hb dX11_tell_22 (by decide) ?_
      have hq := Option.some.inj hm
      subst hq; subst hQ
      exact k_iret hx hb hr hlocks hP hD hS rfl trivial dX11_tell_24
  · have hm := i_t b2 hm
    refine lv_bipush (v := (-3)) hx hb dX11_tell_10 (by decide) ?_
    have hq := Option.some.inj hm
    subst hq; subst hQ
    exact k_iret hx hb hr hlocks hP hD hS rfl trivial dX11_tell_12

theorem hd_X11_untell : yX11_untell.cls ≠ "java/lang/invoke/MethodHandle" ∧ yX11_untell.cls ≠ "java/lang/invoke/VarHandle" ∧ (parseMethodDescriptor yX11_untell.desc).map (fun d => d.parameters.length) = some 0 := by decide +kernel

def M_X11_untell  (v_toldCount : Int32) : (Int32 × Int32) :=
  (v_toldCount, 0)

abbrev rmX11_untell : Room := { frames := 0, cells := 0, slots := 0, locals := 0 }
set_option maxHeartbeats 4000000 in
set_option maxRecDepth 100000 in
theorem c_X11_untell (l : Launch) (G : va_G) (cs : CS) (q : Nat → Nat) (sz : Nat) (v_ro : RF) (v_sumCount : Int32) (v_told : (Nat → Int32)) (v_toldCount : Int32) (v_row : (Nat → Int32)) (v_rowLength : Int32) (v_asked : (Nat → Int32)) (v_rising : (Nat → Int64)) (v_falling : (Nat → Int64)) (v_turned : (Nat → Int32)) (v_totals : (Nat → Int64)) (v_before : (Nat → Int32)) (v_after : (Nat → Int32)) (v_keptBytes : Int32) (v_syndromes : (Nat → Int64)) (v_places : Int32) (v_firstEntry : (Nat → Int32)) (v_nextEntry : (Nat → Int32)) (v_numbers : (Nat → Int64)) (v_counts : (Nat → Int32)) (v_size : Int32) (v_lightestPlaces : (Nat → Int32)) (v_lightestCount : Int32) (v_toldPlaces : (Nat → Int32)) (v_placeCount : Int32) (v_ways : (Nat → Int32)) (v_wayCount : Int32) (v_usable : (Nat → Int32)) (v_upTo : (Nat → Int64))    (res : (Int32 × Int32)) (hm : M_X11_untell v_toldCount = res) : Met l yX11_untell wsX11_untell rmX11_untell (va_Pc [.ref (q 0)] (PreW G cs sz (ww_C q cs v_ro v_sumCount v_told v_toldCount v_row v_rowLength v_asked v_rising v_falling v_turned v_totals v_before v_after v_keptBytes v_syndromes v_places v_firstEntry v_nextEntry v_numbers v_counts v_size v_lightestPlaces v_lightestCount v_toldPlaces v_placeCount v_ways v_wayCount v_usable v_upTo) v_ro)) (QI G res.1 True (ww_C q cs v_ro v_sumCount v_told res.2 v_row v_rowLength v_asked v_rising v_falling v_turned v_totals v_before v_after v_keptBytes v_syndromes v_places v_firstEntry v_nextEntry v_numbers v_counts v_size v_lightestPlaces v_lightestCount v_toldPlaces v_placeCount v_ways v_wayCount v_usable v_upTo) (va_A (ww_C q cs v_ro v_sumCount v_told v_toldCount v_row v_rowLength v_asked v_rising v_falling v_turned v_totals v_before v_after v_keptBytes v_syndromes v_places v_firstEntry v_nextEntry v_numbers v_counts v_size v_lightestPlaces v_lightestCount v_toldPlaces v_placeCount v_ways v_wayCount v_usable v_upTo) sz)) 0 0 (va_A (ww_C q cs v_ro v_sumCount v_told v_toldCount v_row v_rowLength v_asked v_rising v_falling v_turned v_totals v_before v_after v_keptBytes v_syndromes v_places v_firstEntry v_nextEntry v_numbers v_counts v_size v_lightestPlaces v_lightestCount v_toldPlaces v_placeCount v_ways v_wayCount v_usable v_upTo) sz) := by
  refine k_enter (Qf := fun A => QI G res.1 True (ww_C q cs v_ro v_sumCount v_told res.2 v_row v_rowLength v_asked v_rising v_falling v_turned v_totals v_before v_after v_keptBytes v_syndromes v_places v_firstEntry v_nextEntry v_numbers v_counts v_size v_lightestPlaces v_lightestCount v_toldPlaces v_placeCount v_ways v_wayCount v_usable v_upTo) A) (cc := cX11_untell) (maxL := 2) (ret := (some .int)) (plainFor_of_name (by decide)) rfl (Nat.le_of_ble_eq_true rfl) ?_
  intro p e s m args below meth c A Q ls H locs hx hb hr hml hown hts hlocks hname hK hA hRo hP hD hS hQ hl
  have hl : lv_has ls 2 [(0, .ref (q 0))] := hl
  have wd1 := hts (.fieldLink RX11 23 "SumSmith" "toldCount" "I") (List.mem_of_getElem? (i := 1) rfl)
  have hinX11 : ∀ w ∈ wsX110, w ∈ wsX11_untell := fun w h => List.mem_cons_of_mem _ (List.mem_append_right _ h)
  unfold M_X11_untell at hm
  refine lv_aload_n hx hb dX11_untell_0 rfl (lv_at hl 0 rfl) ?_
  refine va_get (D := G) (ci := 9) (v := .int v_toldCount) (C := RX11) (T := TX11) (N := 12) hx hb hts hinX11 hown hK.1 hP 0 rfl rfl 3 (by decide) wd1 (fun _ h9 => h9) rfl dX11_untell_1 ?_
  refine lv_istore_n (lv' := [(1, .int v_toldCount), (0, .ref (q 0))]) hx hb dX11_untell_4 rfl hl (by decide) rfl (fun ls hl => ?_)
  refine lv_aload_n hx hb dX11_untell_5 rfl (lv_at hl 1 rfl) ?_
  refine lv_iconst (v := 0) hx hb dX11_untell_6 (by decide) ?_
  refine va_put (D := G) (ci := 9) (v := .int 0) (ty := .int) (C := RX11) (T := TX11) (N := 12) hx hb hts hinX11 tyX11 tyX11_ok nmX11 hown hK.1 hP hD hS 0 rfl rfl 3 (by decide) wd1 (fun _ h9 => h9) rfl (by decide +kernel) rfl rfl (Nat.le_of_ble_eq_true rfl) dX11_untell_7 (fun H locs hP hD hS => ?_)
  have hP : va_P G vwCl (ww_C q cs v_ro v_sumCount v_told 0 v_row v_rowLength v_asked v_rising v_falling v_turned v_totals v_before v_after v_keptBytes v_syndromes v_places v_firstEntry v_nextEntry v_numbers v_counts v_size v_lightestPlaces v_lightestCount v_toldPlaces v_placeCount v_ways v_wayCount v_usable v_upTo) H := hP
  have hD : va_D A (ww_C q cs v_ro v_sumCount v_told 0 v_row v_rowLength v_asked v_rising v_falling v_turned v_totals v_before v_after v_keptBytes v_syndromes v_places v_firstEntry v_nextEntry v_numbers v_counts v_size v_lightestPlaces v_lightestCount v_toldPlaces v_placeCount v_ways v_wayCount v_usable v_upTo) := hD
  refine lv_iload_n hx hb dX11_untell_10 rfl (lv_at hl 0 rfl) ?_
  have hq := hm
  subst hq; subst hQ
  exact k_iret hx hb hr hlocks hP hD hS rfl trivial dX11_untell_11

theorem hd_X11_kind : yX11_kind.cls ≠ "java/lang/invoke/MethodHandle" ∧ yX11_kind.cls ≠ "java/lang/invoke/VarHandle" ∧ (parseMethodDescriptor yX11_kind.desc).map (fun d => d.parameters.length) = some 1 := by decide +kernel

def M_X11_kind (x1 : Int32) (v_ro : RF) (v_sumCount : Int32) : Option Int32 :=
  (M_X11_sumAt x1 v_ro v_sumCount).bind fun r1 => Option.elim r1 (some (-2)) (fun y1 => if y1.2.2.1 = 8 ∨ y1.2.2.1 = 7 ∨ y1.2.2.1 = 6 ∨ y1.2.2.1 = 1 ∨ y1.2.2.1 = 4 then (some y1.2.2.2.1) else none)

abbrev rmX11_kind : Room := { frames := 2, cells := 0, slots := 0, locals := 43 }
set_option maxHeartbeats 4000000 in
set_option maxRecDepth 100000 in
theorem c_X11_kind (l : Launch) (G : va_G) (cs : CS) (q : Nat → Nat) (sz : Nat) (v_ro : RF) (v_sumCount : Int32) (v_told : (Nat → Int32)) (v_toldCount : Int32) (v_row : (Nat → Int32)) (v_rowLength : Int32) (v_asked : (Nat → Int32)) (v_rising : (Nat → Int64)) (v_falling : (Nat → Int64)) (v_turned : (Nat → Int32)) (v_totals : (Nat → Int64)) (v_before : (Nat → Int32)) (v_after : (Nat → Int32)) (v_keptBytes : Int32) (v_syndromes : (Nat → Int64)) (v_places : Int32) (v_firstEntry : (Nat → Int32)) (v_nextEntry : (Nat → Int32)) (v_numbers : (Nat → Int64)) (v_counts : (Nat → Int32)) (v_size : Int32) (v_lightestPlaces : (Nat → Int32)) (v_lightestCount : Int32) (v_toldPlaces : (Nat → Int32)) (v_placeCount : Int32) (v_ways : (Nat → Int32)) (v_wayCount : Int32) (v_usable : (Nat → Int32)) (v_upTo : (Nat → Int64))   (x1 : Int32) (res : Int32) (hm : M_X11_kind x1 v_ro v_sumCount = some res) : Met l yX11_kind wsX11_kind rmX11_kind (va_Pc [.ref (q 0), .int x1] (PreW G cs sz (ww_C q cs v_ro v_sumCount v_told v_toldCount v_row v_rowLength v_asked v_rising v_falling v_turned v_totals v_before v_after v_keptBytes v_syndromes v_places v_firstEntry v_nextEntry v_numbers v_counts v_size v_lightestPlaces v_lightestCount v_toldPlaces v_placeCount v_ways v_wayCount v_usable v_upTo) v_ro)) (QI G res True (ww_C q cs v_ro v_sumCount v_told v_toldCount v_row v_rowLength v_asked v_rising v_falling v_turned v_totals v_before v_after v_keptBytes v_syndromes v_places v_firstEntry v_nextEntry v_numbers v_counts v_size v_lightestPlaces v_lightestCount v_toldPlaces v_placeCount v_ways v_wayCount v_usable v_upTo) (va_A (ww_C q cs v_ro v_sumCount v_told v_toldCount v_row v_rowLength v_asked v_rising v_falling v_turned v_totals v_before v_after v_keptBytes v_syndromes v_places v_firstEntry v_nextEntry v_numbers v_counts v_size v_lightestPlaces v_lightestCount v_toldPlaces v_placeCount v_ways v_wayCount v_usable v_upTo) sz)) 0 0 (va_A (ww_C q cs v_ro v_sumCount v_told v_toldCount v_row v_rowLength v_asked v_rising v_falling v_turned v_totals v_before v_after v_keptBytes v_syndromes v_places v_firstEntry v_nextEntry v_numbers v_counts v_size v_lightestPlaces v_lightestCount v_toldPlaces v_placeCount v_ways v_wayCount v_usable v_upTo) sz) := by
  refine k_enter (Qf := fun A => QI G res True (ww_C q cs v_ro v_sumCount v_told v_toldCount v_row v_rowLength v_asked v_rising v_falling v_turned v_totals v_before v_after v_keptBytes v_syndromes v_places v_firstEntry v_nextEntry v_numbers v_counts v_size v_lightestPlaces v_lightestCount v_toldPlaces v_placeCount v_ways v_wayCount v_usable v_upTo) A) (cc := cX11_kind) (maxL := 3) (ret := (some .int)) (plainFor_of_name (by decide)) rfl (Nat.le_of_ble_eq_true rfl) ?_
  intro p e s m args below meth c A Q ls H locs hx hb hr hml hown hts hlocks hname hK hA hRo hP hD hS hQ hl
  have hl : lv_has ls 3 [(0, .ref (q 0)), (1, .int x1)] := hl
  have wd1 := hts (.fieldLink RX11 124 "SumSmith$Sum" "kind" "I") (List.mem_of_getElem? (i := 1) rfl)
  have hinX1 : ∀ w ∈ wsX10, w ∈ wsX11_kind := fun w h => List.mem_cons_of_mem _ (List.mem_append_left _ (List.mem_append_left _ (List.mem_append_left _ (List.mem_append_left _ (List.mem_append_left _ (List.mem_append_right _ h))))))
  have hinX5 : ∀ w ∈ wsX50, w ∈ wsX11_kind := fun w h => List.mem_cons_of_mem _ (List.mem_append_left _ (List.mem_append_left _ (List.mem_append_left _ (List.mem_append_left _ (List.mem_append_right _ h)))))
  have hinX8 : ∀ w ∈ wsX80, w ∈ wsX11_kind := fun w h => List.mem_cons_of_mem _ (List.mem_append_left _ (List.mem_append_left _ (List.mem_append_left _ (List.mem_append_right _ h))))
  have hinX9 : ∀ w ∈ wsX90, w ∈ wsX11_kind := fun w h => List.mem_cons_of_mem _ (List.mem_append_left _ (List.mem_append_left _ (List.mem_append_right _ h)))
  have hinX10 : ∀ w ∈ wsX100, w ∈ wsX11_kind := fun w h => List.mem_cons_of_mem _ (List.mem_append_left _ (List.mem_append_right _ h))
  unfold M_X11_kind at hm
  refine lv_aload_n hx hb dX11_kind_0 rfl (lv_at hl 0 rfl) ?_
  refine lv_iload_n hx hb dX11_kind_1 rfl (lv_at hl 1 rfl) ?_
  obtain ⟨r1, hc_r1, hm⟩ := bs hm
  refine k_callq (va_runV (As := [.int x1]) (rest := []) ⟨hx, hb, hml, hown, hts⟩ (c_X11_sumAt l G cs q H.size v_ro v_sumCount v_told v_toldCount v_row v_rowLength v_asked v_rising v_falling v_turned v_totals v_before v_after v_keptBytes v_syndromes v_places v_firstEntry v_nextEntry v_numbers v_counts v_size v_lightestPlaces v_lightestCount v_toldPlaces v_placeCount v_ways v_wayCount v_usable v_upTo x1 r1 hc_r1) (cwV 1 hts gX11_kind_X11_sumAt rfl rfl rfl ⟨rfl, hd_X11_sumAt⟩ ⟨Nat.le_of_ble_eq_true rfl, Nat.le_of_ble_eq_true rfl⟩) ⟨pre_blind, va_recv hK.1 hP (ci := 9) (q0 := 0) rfl rfl, pre_w hK (RO.at hS hRo) hP hD (va_all hD hS hA)⟩ rfl rfl hl.1 rfl (lv_room (Nat.le_of_ble_eq_true rfl)) dX11_kind_2 ⟨Nat.zero_le _, Nat.zero_le _⟩) hS (va_all hD hS hA) (fun H locs hP hD hS => ?_)
  have hP : va_P G vwCl (ww_C q cs v_ro v_sumCount v_told v_toldCount v_row v_rowLength v_asked v_rising v_falling v_turned v_totals v_before v_after v_keptBytes v_syndromes v_places v_firstEntry v_nextEntry v_numbers v_counts v_size v_lightestPlaces v_lightestCount v_toldPlaces v_placeCount v_ways v_wayCount v_usable v_upTo) H := hP
  have hD : va_D A (ww_C q cs v_ro v_sumCount v_told v_toldCount v_row v_rowLength v_asked v_rising v_falling v_turned v_totals v_before v_after v_keptBytes v_syndromes v_places v_firstEntry v_nextEntry v_numbers v_counts v_size v_lightestPlaces v_lightestCount v_toldPlaces v_placeCount v_ways v_wayCount v_usable v_upTo) := hD
  cases r1 with
  | none =>
    have hm := oe_n hm
    refine lv_astore_nN (lv' := [(2, .null), (0, .ref (q 0)), (1, .int x1)]) hx hb dX11_kind_5 rfl hl (by decide) rfl (fun ls hl => ?_)
    refine lv_aload_nN hx hb dX11_kind_6 rfl (lv_at hl 0 rfl) ?_
    refine lv_ifnonnullN hx hb dX11_kind_7 ?_
    refine lv_bipush (v := (-2)) hx hb dX11_kind_10 (by decide) ?_
    refine lv_goto (tgt := 19) hx hb dX11_kind_12 (by decide) ?_
    have hq := Option.some.inj hm
    subst hq; subst hQ
    exact k_iret hx hb hr hlocks hP hD hS rfl trivial dX11_kind_19
  | some y1 =>
    have hm := oe_s hm
    obtain ⟨j1, hj1⟩ := sumAt_ro hc_r1
    obtain ⟨hv1, hm⟩ := g_pos hm
    refine lv_astore_n (lv' := [(2, .ref y1.1), (0, .ref (q 0)), (1, .int x1)]) hx hb dX11_kind_5 rfl hl (by decide) rfl (fun ls hl => ?_)
    refine lv_aload_n hx hb dX11_kind_6 rfl (lv_at hl 0 rfl) ?_
    refine lv_ifnonnull (tgt := 15) hx hb dX11_kind_7 (by decide) ?_
    refine lv_aload_n hx hb dX11_kind_15 rfl (lv_at hl 0 rfl) ?_
    refine get_kind (own := RX11) hx hb hts hinX1 hinX5 hinX8 hinX9 hinX10 hown hK (RO.at hS hRo j1 _ hj1).1 hv1 wd1 dX11_kind_16 ?_
    have hq := Option.some.inj hm
    subst hq; subst hQ
    exact k_iret hx hb hr hlocks hP hD hS rfl trivial dX11_kind_19

theorem hd_X11_put : yX11_put.cls ≠ "java/lang/invoke/MethodHandle" ∧ yX11_put.cls ≠ "java/lang/invoke/VarHandle" ∧ (parseMethodDescriptor yX11_put.desc).map (fun d => d.parameters.length) = some 1 := by decide +kernel

def M_X11_put (x1 : Int32) (v_row : (Nat → Int32)) (v_rowLength : Int32) : Option (Int32 × (Nat → Int32) × Int32) :=
  if (M_X11_isByte x1) = 0 then (some ((-3), v_row, v_rowLength)) else (if v_rowLength < 64 then (if v_rowLength < 0 ∨ 64 ≤ v_rowLength.toNatClampNeg then none else some ((v_rowLength + 1), (upd v_row v_rowLength.toNatClampNeg x1), (v_rowLength + 1))) else (some ((-6), v_row, v_rowLength)))

abbrev rmX11_put : Room := { frames := 2, cells := 0, slots := 0, locals := 42 }
set_option maxHeartbeats 4000000 in
set_option maxRecDepth 100000 in
theorem c_X11_put (l : Launch) (G : va_G) (cs : CS) (q : Nat → Nat) (sz : Nat) (v_ro : RF) (v_sumCount : Int32) (v_told : (Nat → Int32)) (v_toldCount : Int32) (v_row : (Nat → Int32)) (v_rowLength : Int32) (v_asked : (Nat → Int32)) (v_rising : (Nat → Int64)) (v_falling : (Nat → Int64)) (v_turned : (Nat → Int32)) (v_totals : (Nat → Int64)) (v_before : (Nat → Int32)) (v_after : (Nat → Int32)) (v_keptBytes : Int32) (v_syndromes : (Nat → Int64)) (v_places : Int32) (v_firstEntry : (Nat → Int32)) (v_nextEntry : (Nat → Int32)) (v_numbers : (Nat → Int64)) (v_counts : (Nat → Int32)) (v_size : Int32) (v_lightestPlaces : (Nat → Int32)) (v_lightestCount : Int32) (v_toldPlaces : (Nat → Int32)) (v_placeCount : Int32) (v_ways : (Nat → Int32)) (v_wayCount : Int32) (v_usable : (Nat → Int32)) (v_upTo : (Nat → Int64))   (x1 : Int32) (res : (Int32 × (Nat → Int32) × Int32)) (hm : M_X11_put x1 v_row v_rowLength = some res) : Met l yX11_put wsX11_put rmX11_put (va_Pc [.ref (q 0), .int x1] (PreW G cs sz (ww_C q cs v_ro v_sumCount v_told v_toldCount v_row v_rowLength v_asked v_rising v_falling v_turned v_totals v_before v_after v_keptBytes v_syndromes v_places v_firstEntry v_nextEntry v_numbers v_counts v_size v_lightestPlaces v_lightestCount v_toldPlaces v_placeCount v_ways v_wayCount v_usable v_upTo) v_ro)) (QI G res.1 True (ww_C q cs v_ro v_sumCount v_told v_toldCount res.2.1 res.2.2 v_asked v_rising v_falling v_turned v_totals v_before v_after v_keptBytes v_syndromes v_places v_firstEntry v_nextEntry v_numbers v_counts v_size v_lightestPlaces v_lightestCount v_toldPlaces v_placeCount v_ways v_wayCount v_usable v_upTo) (va_A (ww_C q cs v_ro v_sumCount v_told v_toldCount v_row v_rowLength v_asked v_rising v_falling v_turned v_totals v_before v_after v_keptBytes v_syndromes v_places v_firstEntry v_nextEntry v_numbers v_counts v_size v_lightestPlaces v_lightestCount v_toldPlaces v_placeCount v_ways v_wayCount v_usable v_upTo) sz)) 0 0 (va_A (ww_C q cs v_ro v_sumCount v_told v_toldCount v_row v_rowLength v_asked v_rising v_falling v_turned v_totals v_before v_after v_keptBytes v_syndromes v_places v_firstEntry v_nextEntry v_numbers v_counts v_size v_lightestPlaces v_lightestCount v_toldPlaces v_placeCount v_ways v_wayCount v_usable v_upTo) sz) := by
  refine k_enter (Qf := fun A => QI G res.1 True (ww_C q cs v_ro v_sumCount v_told v_toldCount res.2.1 res.2.2 v_asked v_rising v_falling v_turned v_totals v_before v_after v_keptBytes v_syndromes v_places v_firstEntry v_nextEntry v_numbers v_counts v_size v_lightestPlaces v_lightestCount v_toldPlaces v_placeCount v_ways v_wayCount v_usable v_upTo) A) (cc := cX11_put) (maxL := 2) (ret := (some .int)) (plainFor_of_name (by decide)) rfl (Nat.le_of_ble_eq_true rfl) ?_
  intro p e s m args below meth c A Q ls H locs hx hb hr hml hown hts hlocks hname hK hA hRo hP hD hS hQ hl
  have hl : lv_has ls 2 [(0, .ref (q 0)), (1, .int x1)] := hl
  have wd1 := hts (.fieldLink RX11 29 "SumSmith" "rowLength" "I") (List.mem_of_getElem? (i := 1) rfl)
  have wd2 := hts (.fieldLink RX11 26 "SumSmith" "row" "[I") (List.mem_of_getElem? (i := 2) rfl)
  have hinX11 : ∀ w ∈ wsX110, w ∈ wsX11_put := fun w h => List.mem_cons_of_mem _ (List.mem_append_right _ h)
  unfold M_X11_put at hm
  refine lv_iload_n hx hb dX11_put_0 rfl (lv_at hl 1 rfl) ?_
  refine k_calli0 (va_runS (As := [.int x1]) (rest := []) ⟨hx, hb, hml, hown, hts⟩ (c_X11_isByte l G cs H.size    x1 _ rfl) (va_cwS 1 hts gX11_put_X11_isByte rfl rfl rfl hd_X11_isByte ⟨Nat.le_of_ble_eq_true rfl, Nat.le_of_ble_eq_true rfl⟩) ⟨pre_blind, pre_w hK RO.nil P0 D0 (va_new0 hS hA)⟩ rfl rfl hl.1 rfl (lv_room (Nat.le_of_ble_eq_true rfl)) dX11_put_1 ⟨Nat.zero_le _, Nat.zero_le _⟩) hP hS hA (fun hE1 H locs hP hS => ?_)
  refine lv_if_ne (tgt := 10) hx hb dX11_put_4 (by decide) (fun b2 => ?_) (fun b2 => ?_)
  · have hm := i_f b2 hm
    refine lv_aload_n hx hb dX11_put_10 rfl (lv_at hl 0 rfl) ?_
    refine va_get (D := G) (ci := 9) (v := .int v_rowLength) (C := RX11) (T := TX11) (N := 12) hx hb hts hinX11 hown hK.1 hP 0 rfl rfl 5 (by decide) wd1 (fun _ h9 => h9) rfl dX11_put_11 ?_
    refine lv_bipush (v := 64) hx hb dX11_put_14 (by decide) ?_
    refine lv_icmp_lt (tgt := 22) hx hb dX11_put_16 (by decide) (fun b3 => ?_) (fun b3 => ?_)
    · have hm := i_t b3 hm
      refine lv_aload_n hx hb dX11_put_22 rfl (lv_at hl 0 rfl) ?_
      refine va_get (D := G) (ci := 9) (v := .ref (q 3)) (C := RX11) (T := TX11) (N := 12) hx hb hts hinX11 hown hK.1 hP 0 rfl rfl 4 (by decide) wd2 (fun _ h9 => h9) rfl dX11_put_23 ?_
      refine lv_aload_n hx hb dX11_put_26 rfl (lv_at hl 0 rfl) ?_
      refine va_get (D := G) (ci := 9) (v := .int v_rowLength) (C := RX11) (T := TX11) (N := 12) hx hb hts hinX11 hown hK.1 hP 0 rfl rfl 5 (by decide) wd1 (fun _ h9 => h9) rfl dX11_put_27 ?_
      refine lv_iload_n hx hb dX11_put_30 rfl (lv_at hl 1 rfl) ?_
      obtain ⟨h4, hm⟩ := g_in hm
      refine va_iast hx hb hK.1 hP hD hS 3 0 rfl rfl h4 dX11_put_31 (fun H locs hP hD hS => ?_)
      have hP : va_P G vwCl (ww_C q cs v_ro v_sumCount v_told v_toldCount (upd v_row v_rowLength.toNatClampNeg x1) v_rowLength v_asked v_rising v_falling v_turned v_totals v_before v_after v_keptBytes v_syndromes v_places v_firstEntry v_nextEntry v_numbers v_counts v_size v_lightestPlaces v_lightestCount v_toldPlaces v_placeCount v_ways v_wayCount v_usable v_upTo) H := hP
      have hD : va_D A (ww_C q cs v_ro v_sumCount v_told v_toldCount (upd v_row v_rowLength.toNatClampNeg x1) v_rowLength v_asked v_rising v_falling v_turned v_totals v_before v_after v_keptBytes v_syndromes v_places v_firstEntry v_nextEntry v_numbers v_counts v_size v_lightestPlaces v_lightestCount v_toldPlaces v_placeCount v_ways v_wayCount v_usable v_upTo) := hD
      refine lv_aload_n hx hb dX11_put_32 rfl (lv_at hl 0 rfl) ?_
      refine lv_dup hx hb dX11_put_33 rfl ?_
      refine va_get (D := G) (ci := 9) (v := .int v_rowLength) (C := RX11) (T := TX11) (N := 12) hx hb hts hinX11 hown hK.1 hP 0 rfl rfl 5 (by decide) wd1 (fun _ h9 => h9) rfl dX11_put_34 ?_
      refine lv_iconst (v := 1) hx hb dX11_put_37 (by decide) ?_
      refine lv_iadd hx hb dX11_put_38 ?_
      refine va_put (D := G) (ci := 9) (v := .int (v_rowLength + 1)) (ty := .int) (C := RX11) (T := TX11) (N := 12) hx hb hts hinX11 tyX11 tyX11_ok nmX11 hown hK.1 hP hD hS 0 rfl rfl 5 (by decide) wd1 (fun _ h9 => h9) rfl (by decide +kernel) rfl rfl (Nat.le_of_ble_eq_true rfl) dX11_put_39 (fun H locs hP hD hS => ?_)
      have hP : va_P G vwCl (ww_C q cs v_ro v_sumCount v_told v_toldCount (upd v_row v_rowLength.toNatClampNeg x1) (v_rowLength + 1) v_asked v_rising v_falling v_turned v_totals v_before v_after v_keptBytes v_syndromes v_places v_firstEntry v_nextEntry v_numbers v_counts v_size v_lightestPlaces v_lightestCount v_toldPlaces v_placeCount v_ways v_wayCount v_usable v_upTo) H := hP
      have hD : va_D A (ww_C q cs v_ro v_sumCount v_told v_toldCount (upd v_row v_rowLength.toNatClampNeg x1) (v_rowLength + 1) v_asked v_rising v_falling v_turned v_totals v_before v_after v_keptBytes v_syndromes v_places v_firstEntry v_nextEntry v_numbers v_counts v_size v_lightestPlaces v_lightestCount v_toldPlaces v_placeCount v_ways v_wayCount v_usable v_upTo) := hD
      refine lv_aload_n hx hb dX11_put_42 rfl (lv_at hl 0 rfl) ?_
      refine va_get (D := G) (ci := 9) (v := .int (v_rowLength + 1)) (C := RX11) (T := TX11) (N := 12) hx hb hts hinX11 hown hK.1 hP 0 rfl rfl 5 (by decide) wd1 (fun _ h9 => h9) rfl dX11_put_43 ?_
      have hq := Option.some.inj hm
      subst hq; subst hQ
      exact k_iret hx hb hr hlocks hP hD hS rfl trivial dX11_put_46
    · have hm := i_f b3 hm
      refine lv_bipush (v := (-6)) hx hb dX11_put_19 (by decide) ?_
      have hq := Option.some.inj hm
      subst hq; subst hQ
      exact k_iret hx hb hr hlocks hP hD hS rfl trivial dX11_put_21
  · have hm := i_t b2 hm
    refine lv_bipush (v := (-3)) hx hb dX11_put_7 (by decide) ?_
    have hq := Option.some.inj hm
    subst hq; subst hQ
    exact k_iret hx hb hr hlocks hP hD hS rfl trivial dX11_put_9

theorem hd_X11_set : yX11_set.cls ≠ "java/lang/invoke/MethodHandle" ∧ yX11_set.cls ≠ "java/lang/invoke/VarHandle" ∧ (parseMethodDescriptor yX11_set.desc).map (fun d => d.parameters.length) = some 2 := by decide +kernel

def M_X11_set (x1 : Int32) (x2 : Int32) (v_row : (Nat → Int32)) (v_rowLength : Int32) : Option (Int32 × (Nat → Int32)) :=
  if (M_X11_within x1 (0 : Int32) (v_rowLength - 1)) = 0 then (some ((-2), v_row)) else (if (M_X11_isByte x2) = 0 then (some ((-3), v_row)) else (if x1 < 0 ∨ 64 ≤ x1.toNatClampNeg then none else if x1 < 0 ∨ 64 ≤ x1.toNatClampNeg then none else some (v_row x1.toNatClampNeg, (upd v_row x1.toNatClampNeg x2))))

abbrev rmX11_set : Room := { frames := 2, cells := 0, slots := 0, locals := 42 }
set_option maxHeartbeats 4000000 in
set_option maxRecDepth 100000 in
theorem c_X11_set (l : Launch) (G : va_G) (cs : CS) (q : Nat → Nat) (sz : Nat) (v_ro : RF) (v_sumCount : Int32) (v_told : (Nat → Int32)) (v_toldCount : Int32) (v_row : (Nat → Int32)) (v_rowLength : Int32) (v_asked : (Nat → Int32)) (v_rising : (Nat → Int64)) (v_falling : (Nat → Int64)) (v_turned : (Nat → Int32)) (v_totals : (Nat → Int64)) (v_before : (Nat → Int32)) (v_after : (Nat → Int32)) (v_keptBytes : Int32) (v_syndromes : (Nat → Int64)) (v_places : Int32) (v_firstEntry : (Nat → Int32)) (v_nextEntry : (Nat → Int32)) (v_numbers : (Nat → Int64)) (v_counts : (Nat → Int32)) (v_size : Int32) (v_lightestPlaces : (Nat → Int32)) (v_lightestCount : Int32) (v_toldPlaces : (Nat → Int32)) (v_placeCount : Int32) (v_ways : (Nat → Int32)) (v_wayCount : Int32) (v_usable : (Nat → Int32)) (v_upTo : (Nat → Int64))   (x1 : Int32) (x2 : Int32) (res : (Int32 × (Nat → Int32))) (hm : M_X11_set x1 x2 v_row v_rowLength = some res) : Met l yX11_set wsX11_set rmX11_set (va_Pc [.ref (q 0), .int x1, .int x2] (PreW G cs sz (ww_C q cs v_ro v_sumCount v_told v_toldCount v_row v_rowLength v_asked v_rising v_falling v_turned v_totals v_before v_after v_keptBytes v_syndromes v_places v_firstEntry v_nextEntry v_numbers v_counts v_size v_lightestPlaces v_lightestCount v_toldPlaces v_placeCount v_ways v_wayCount v_usable v_upTo) v_ro)) (QI G res.1 True (ww_C q cs v_ro v_sumCount v_told v_toldCount res.2 v_rowLength v_asked v_rising v_falling v_turned v_totals v_before v_after v_keptBytes v_syndromes v_places v_firstEntry v_nextEntry v_numbers v_counts v_size v_lightestPlaces v_lightestCount v_toldPlaces v_placeCount v_ways v_wayCount v_usable v_upTo) (va_A (ww_C q cs v_ro v_sumCount v_told v_toldCount v_row v_rowLength v_asked v_rising v_falling v_turned v_totals v_before v_after v_keptBytes v_syndromes v_places v_firstEntry v_nextEntry v_numbers v_counts v_size v_lightestPlaces v_lightestCount v_toldPlaces v_placeCount v_ways v_wayCount v_usable v_upTo) sz)) 0 0 (va_A (ww_C q cs v_ro v_sumCount v_told v_toldCount v_row v_rowLength v_asked v_rising v_falling v_turned v_totals v_before v_after v_keptBytes v_syndromes v_places v_firstEntry v_nextEntry v_numbers v_counts v_size v_lightestPlaces v_lightestCount v_toldPlaces v_placeCount v_ways v_wayCount v_usable v_upTo) sz) := by
  refine k_enter (Qf := fun A => QI G res.1 True (ww_C q cs v_ro v_sumCount v_told v_toldCount res.2 v_rowLength v_asked v_rising v_falling v_turned v_totals v_before v_after v_keptBytes v_syndromes v_places v_firstEntry v_nextEntry v_numbers v_counts v_size v_lightestPlaces v_lightestCount v_toldPlaces v_placeCount v_ways v_wayCount v_usable v_upTo) A) (cc := cX11_set) (maxL := 4) (ret := (some .int)) (plainFor_of_name (by decide)) rfl (Nat.le_of_ble_eq_true rfl) ?_
  intro p e s m args below meth c A Q ls H locs hx hb hr hml hown hts hlocks hname hK hA hRo hP hD hS hQ hl
  have hl : lv_has ls 4 [(0, .ref (q 0)), (1, .int x1), (2, .int x2)] := hl
  have wd1 := hts (.fieldLink RX11 29 "SumSmith" "rowLength" "I") (List.mem_of_getElem? (i := 1) rfl)
  have wd2 := hts (.fieldLink RX11 26 "SumSmith" "row" "[I") (List.mem_of_getElem? (i := 2) rfl)
  have hinX11 : ∀ w ∈ wsX110, w ∈ wsX11_set := fun w h => List.mem_cons_of_mem _ (List.mem_append_right _ h)
  unfold M_X11_set at hm
  refine lv_iload_n hx hb dX11_set_0 rfl (lv_at hl 1 rfl) ?_
  refine lv_iconst (v := 0) hx hb dX11_set_1 (by decide) ?_
  refine lv_aload_n hx hb dX11_set_2 rfl (lv_at hl 0 rfl) ?_
  refine va_get (D := G) (ci := 9) (v := .int v_rowLength) (C := RX11) (T := TX11) (N := 12) hx hb hts hinX11 hown hK.1 hP 0 rfl rfl 5 (by decide) wd1 (fun _ h9 => h9) rfl dX11_set_3 ?_
  refine lv_iconst (v := 1) hx hb dX11_set_6 (by decide) ?_
  refine lv_isub hx hb dX11_set_7 ?_
  refine k_calli0 (va_runS (As := [.int x1, .int 0, .int (v_rowLength - 1)]) (rest := []) ⟨hx, hb, hml, hown, hts⟩ (c_X11_within l G cs H.size    x1 (0 : Int32) (v_rowLength - 1) _ rfl) (va_cwS 3 hts gX11_set_X11_within rfl rfl rfl hd_X11_within ⟨Nat.le_of_ble_eq_true rfl, Nat.le_of_ble_eq_true rfl⟩) ⟨pre_blind, pre_w hK RO.nil P0 D0 (va_new0 hS hA)⟩ rfl rfl hl.1 rfl (lv_room (Nat.le_of_ble_eq_true rfl)) dX11_set_8 ⟨Nat.zero_le _, Nat.zero_le _⟩) hP hS hA (fun hE1 H locs hP hS => ?_)
  refine lv_if_ne (tgt := 17) hx hb dX11_set_11 (by decide) (fun b2 => ?_) (fun b2 => ?_)
  · have hm := i_f b2 hm
    refine lv_iload_n hx hb dX11_set_17 rfl (lv_at hl 2 rfl) ?_
    refine k_calli0 (va_runS (As := [.int x2]) (rest := []) ⟨hx, hb, hml, hown, hts⟩ (c_X11_isByte l G cs H.size    x2 _ rfl) (va_cwS 1 hts gX11_set_X11_isByte rfl rfl rfl hd_X11_isByte ⟨Nat.le_of_ble_eq_true rfl, Nat.le_of_ble_eq_true rfl⟩) ⟨pre_blind, pre_w hK RO.nil P0 D0 (va_new0 hS hA)⟩ rfl rfl hl.1 rfl (lv_room (Nat.le_of_ble_eq_true rfl)) dX11_set_18 ⟨Nat.zero_le _, Nat.zero_le _⟩) hP hS hA (fun hE3 H locs hP hS => ?_)
    refine lv_if_ne (tgt := 27) hx hb dX11_set_21 (by decide) (fun b4 => ?_) (fun b4 => ?_)
    · have hm := i_f b4 hm
      refine lv_aload_n hx hb dX11_set_27 rfl (lv_at hl 0 rfl) ?_
      refine va_get (D := G) (ci := 9) (v := .ref (q 3)) (C := RX11) (T := TX11) (N := 12) hx hb hts hinX11 hown hK.1 hP 0 rfl rfl 4 (by decide) wd2 (fun _ h9 => h9) rfl dX11_set_28 ?_
      refine lv_iload_n hx hb dX11_set_31 rfl (lv_at hl 1 rfl) ?_
      obtain ⟨h5, hm⟩ := g_in hm
      refine va_iald hx hb hK.1 hP 3 0 rfl rfl h5 dX11_set_32 ?_
      refine lv_istore_n (lv' := [(3, .int (v_row x1.toNatClampNeg)), (0, .ref (q 0)), (1, .int x1), (2, .int x2)]) hx hb dX11_set_33 rfl hl (by decide) rfl (fun ls hl => ?_)
      refine lv_aload_n hx hb dX11_set_34 rfl (lv_at hl 1 rfl) ?_
      refine va_get (D := G) (ci := 9) (v := .ref (q 3)) (C := RX11) (T := TX11) (N := 12) hx hb hts hinX11 hown hK.1 hP 0 rfl rfl 4 (by decide) wd2 (fun _ h9 => h9) rfl dX11_set_35 ?_
      refine lv_iload_n hx hb dX11_set_38 rfl (lv_at hl 2 rfl) ?_
      refine lv_iload_n hx hb dX11_set_39 rfl (lv_at hl 3 rfl) ?_
      obtain ⟨h6, hm⟩ := g_in hm
      refine va_iast hx hb hK.1 hP hD hS 3 0 rfl rfl h6 dX11_set_40 (fun H locs hP hD hS => ?_)
      have hP : va_P G vwCl (ww_C q cs v_ro v_sumCount v_told v_toldCount (upd v_row x1.toNatClampNeg x2) v_rowLength v_asked v_rising v_falling v_turned v_totals v_before v_after v_keptBytes v_syndromes v_places v_firstEntry v_nextEntry v_numbers v_counts v_size v_lightestPlaces v_lightestCount v_toldPlaces v_placeCount v_ways v_wayCount v_usable v_upTo) H := hP
      have hD : va_D A (ww_C q cs v_ro v_sumCount v_told v_toldCount (upd v_row x1.toNatClampNeg x2) v_rowLength v_asked v_rising v_falling v_turned v_totals v_before v_after v_keptBytes v_syndromes v_places v_firstEntry v_nextEntry v_numbers v_counts v_size v_lightestPlaces v_lightestCount v_toldPlaces v_placeCount v_ways v_wayCount v_usable v_upTo) := hD
      refine lv_iload_n hx hb dX11_set_41 rfl (lv_at hl 0 rfl) ?_
      have hq := Option.some.inj hm
      subst hq; subst hQ
      exact k_iret hx hb hr hlocks hP hD hS rfl trivial dX11_set_42
    · have hm := i_t b4 hm
      refine lv_bipush (v := (-3)) hx hb dX11_set_24 (by decide) ?_
      have hq := Option.some.inj hm
      subst hq; subst hQ
      exact k_iret hx hb hr hlocks hP hD hS rfl trivial dX11_set_26
  · have hm := i_t b2 hm
    refine lv_bipush (v := (-2)) hx hb dX11_set_14 (by decide) ?_
    have hq := Option.some.inj hm
    subst hq; subst hQ
    exact k_iret hx hb hr hlocks hP hD hS rfl trivial dX11_set_16

theorem hd_X11_at : yX11_at.cls ≠ "java/lang/invoke/MethodHandle" ∧ yX11_at.cls ≠ "java/lang/invoke/VarHandle" ∧ (parseMethodDescriptor yX11_at.desc).map (fun d => d.parameters.length) = some 1 := by decide +kernel

def M_X11_at (x1 : Int32) (v_row : (Nat → Int32)) (v_rowLength : Int32) : Option Int32 :=
  if (M_X11_within x1 (0 : Int32) (v_rowLength - 1)) = 0 then (some (-2)) else (if x1 < 0 ∨ 64 ≤ x1.toNatClampNeg then none else some (v_row x1.toNatClampNeg))

abbrev rmX11_at : Room := { frames := 1, cells := 0, slots := 0, locals := 22 }
set_option maxHeartbeats 4000000 in
set_option maxRecDepth 100000 in
theorem c_X11_at (l : Launch) (G : va_G) (cs : CS) (q : Nat → Nat) (sz : Nat) (v_ro : RF) (v_sumCount : Int32) (v_told : (Nat → Int32)) (v_toldCount : Int32) (v_row : (Nat → Int32)) (v_rowLength : Int32) (v_asked : (Nat → Int32)) (v_rising : (Nat → Int64)) (v_falling : (Nat → Int64)) (v_turned : (Nat → Int32)) (v_totals : (Nat → Int64)) (v_before : (Nat → Int32)) (v_after : (Nat → Int32)) (v_keptBytes : Int32) (v_syndromes : (Nat → Int64)) (v_places : Int32) (v_firstEntry : (Nat → Int32)) (v_nextEntry : (Nat → Int32)) (v_numbers : (Nat → Int64)) (v_counts : (Nat → Int32)) (v_size : Int32) (v_lightestPlaces : (Nat → Int32)) (v_lightestCount : Int32) (v_toldPlaces : (Nat → Int32)) (v_placeCount : Int32) (v_ways : (Nat → Int32)) (v_wayCount : Int32) (v_usable : (Nat → Int32)) (v_upTo : (Nat → Int64))   (x1 : Int32) (res : Int32) (hm : M_X11_at x1 v_row v_rowLength = some res) : Met l yX11_at wsX11_at rmX11_at (va_Pc [.ref (q 0), .int x1] (PreW G cs sz (ww_C q cs v_ro v_sumCount v_told v_toldCount v_row v_rowLength v_asked v_rising v_falling v_turned v_totals v_before v_after v_keptBytes v_syndromes v_places v_firstEntry v_nextEntry v_numbers v_counts v_size v_lightestPlaces v_lightestCount v_toldPlaces v_placeCount v_ways v_wayCount v_usable v_upTo) v_ro)) (QI G res True (ww_C q cs v_ro v_sumCount v_told v_toldCount v_row v_rowLength v_asked v_rising v_falling v_turned v_totals v_before v_after v_keptBytes v_syndromes v_places v_firstEntry v_nextEntry v_numbers v_counts v_size v_lightestPlaces v_lightestCount v_toldPlaces v_placeCount v_ways v_wayCount v_usable v_upTo) (va_A (ww_C q cs v_ro v_sumCount v_told v_toldCount v_row v_rowLength v_asked v_rising v_falling v_turned v_totals v_before v_after v_keptBytes v_syndromes v_places v_firstEntry v_nextEntry v_numbers v_counts v_size v_lightestPlaces v_lightestCount v_toldPlaces v_placeCount v_ways v_wayCount v_usable v_upTo) sz)) 0 0 (va_A (ww_C q cs v_ro v_sumCount v_told v_toldCount v_row v_rowLength v_asked v_rising v_falling v_turned v_totals v_before v_after v_keptBytes v_syndromes v_places v_firstEntry v_nextEntry v_numbers v_counts v_size v_lightestPlaces v_lightestCount v_toldPlaces v_placeCount v_ways v_wayCount v_usable v_upTo) sz) := by
  refine k_enter (Qf := fun A => QI G res True (ww_C q cs v_ro v_sumCount v_told v_toldCount v_row v_rowLength v_asked v_rising v_falling v_turned v_totals v_before v_after v_keptBytes v_syndromes v_places v_firstEntry v_nextEntry v_numbers v_counts v_size v_lightestPlaces v_lightestCount v_toldPlaces v_placeCount v_ways v_wayCount v_usable v_upTo) A) (cc := cX11_at) (maxL := 2) (ret := (some .int)) (plainFor_of_name (by decide)) rfl (Nat.le_of_ble_eq_true rfl) ?_
  intro p e s m args below meth c A Q ls H locs hx hb hr hml hown hts hlocks hname hK hA hRo hP hD hS hQ hl
  have hl : lv_has ls 2 [(0, .ref (q 0)), (1, .int x1)] := hl
  have wd1 := hts (.fieldLink RX11 29 "SumSmith" "rowLength" "I") (List.mem_of_getElem? (i := 1) rfl)
  have wd2 := hts (.fieldLink RX11 26 "SumSmith" "row" "[I") (List.mem_of_getElem? (i := 2) rfl)
  have hinX11 : ∀ w ∈ wsX110, w ∈ wsX11_at := fun w h => List.mem_cons_of_mem _ (List.mem_append_right _ h)
  unfold M_X11_at at hm
  refine lv_iload_n hx hb dX11_at_0 rfl (lv_at hl 1 rfl) ?_
  refine lv_iconst (v := 0) hx hb dX11_at_1 (by decide) ?_
  refine lv_aload_n hx hb dX11_at_2 rfl (lv_at hl 0 rfl) ?_
  refine va_get (D := G) (ci := 9) (v := .int v_rowLength) (C := RX11) (T := TX11) (N := 12) hx hb hts hinX11 hown hK.1 hP 0 rfl rfl 5 (by decide) wd1 (fun _ h9 => h9) rfl dX11_at_3 ?_
  refine lv_iconst (v := 1) hx hb dX11_at_6 (by decide) ?_
  refine lv_isub hx hb dX11_at_7 ?_
  refine k_calli0 (va_runS (As := [.int x1, .int 0, .int (v_rowLength - 1)]) (rest := []) ⟨hx, hb, hml, hown, hts⟩ (c_X11_within l G cs H.size    x1 (0 : Int32) (v_rowLength - 1) _ rfl) (va_cwS 3 hts gX11_at_X11_within rfl rfl rfl hd_X11_within ⟨Nat.le_of_ble_eq_true rfl, Nat.le_of_ble_eq_true rfl⟩) ⟨pre_blind, pre_w hK RO.nil P0 D0 (va_new0 hS hA)⟩ rfl rfl hl.1 rfl (lv_room (Nat.le_of_ble_eq_true rfl)) dX11_at_8 ⟨Nat.zero_le _, Nat.zero_le _⟩) hP hS hA (fun hE1 H locs hP hS => ?_)
  refine lv_if_eq (tgt := 23) hx hb dX11_at_11 (by decide) (fun b2 => ?_) (fun b2 => ?_)
  · have hm := i_t b2 hm
    refine lv_bipush (v := (-2)) hx hb dX11_at_23 (by decide) ?_
    have hq := Option.some.inj hm
    subst hq; subst hQ
    exact k_iret hx hb hr hlocks hP hD hS rfl trivial dX11_at_25
  · have hm := i_f b2 hm
    refine lv_aload_n hx hb dX11_at_14 rfl (lv_at hl 0 rfl) ?_
    refine va_get (D := G) (ci := 9) (v := .ref (q 3)) (C := RX11) (T := TX11) (N := 12) hx hb hts hinX11 hown hK.1 hP 0 rfl rfl 4 (by decide) wd2 (fun _ h9 => h9) rfl dX11_at_15 ?_
    refine lv_iload_n hx hb dX11_at_18 rfl (lv_at hl 1 rfl) ?_
    obtain ⟨h3, hm⟩ := g_in hm
    refine va_iald hx hb hK.1 hP 3 0 rfl rfl h3 dX11_at_19 ?_
    refine lv_goto (tgt := 25) hx hb dX11_at_20 (by decide) ?_
    have hq := Option.some.inj hm
    subst hq; subst hQ
    exact k_iret hx hb hr hlocks hP hD hS rfl trivial dX11_at_25

theorem hd_X11_cut : yX11_cut.cls ≠ "java/lang/invoke/MethodHandle" ∧ yX11_cut.cls ≠ "java/lang/invoke/VarHandle" ∧ (parseMethodDescriptor yX11_cut.desc).map (fun d => d.parameters.length) = some 1 := by decide +kernel

def M_X11_cut (x1 : Int32) (v_rowLength : Int32) : (Int32 × Int32) :=
  if (M_X11_within x1 (0 : Int32) v_rowLength) = 0 then (((-3), v_rowLength)) else ((v_rowLength - x1, x1))

abbrev rmX11_cut : Room := { frames := 1, cells := 0, slots := 0, locals := 22 }
set_option maxHeartbeats 4000000 in
set_option maxRecDepth 100000 in
theorem c_X11_cut (l : Launch) (G : va_G) (cs : CS) (q : Nat → Nat) (sz : Nat) (v_ro : RF) (v_sumCount : Int32) (v_told : (Nat → Int32)) (v_toldCount : Int32) (v_row : (Nat → Int32)) (v_rowLength : Int32) (v_asked : (Nat → Int32)) (v_rising : (Nat → Int64)) (v_falling : (Nat → Int64)) (v_turned : (Nat → Int32)) (v_totals : (Nat → Int64)) (v_before : (Nat → Int32)) (v_after : (Nat → Int32)) (v_keptBytes : Int32) (v_syndromes : (Nat → Int64)) (v_places : Int32) (v_firstEntry : (Nat → Int32)) (v_nextEntry : (Nat → Int32)) (v_numbers : (Nat → Int64)) (v_counts : (Nat → Int32)) (v_size : Int32) (v_lightestPlaces : (Nat → Int32)) (v_lightestCount : Int32) (v_toldPlaces : (Nat → Int32)) (v_placeCount : Int32) (v_ways : (Nat → Int32)) (v_wayCount : Int32) (v_usable : (Nat → Int32)) (v_upTo : (Nat → Int64))   (x1 : Int32) (res : (Int32 × Int32)) (hm : M_X11_cut x1 v_rowLength = res) : Met l yX11_cut wsX11_cut rmX11_cut (va_Pc [.ref (q 0), .int x1] (PreW G cs sz (ww_C q cs v_ro v_sumCount v_told v_toldCount v_row v_rowLength v_asked v_rising v_falling v_turned v_totals v_before v_after v_keptBytes v_syndromes v_places v_firstEntry v_nextEntry v_numbers v_counts v_size v_lightestPlaces v_lightestCount v_toldPlaces v_placeCount v_ways v_wayCount v_usable v_upTo) v_ro)) (QI G res.1 True (ww_C q cs v_ro v_sumCount v_told v_toldCount v_row res.2 v_asked v_rising v_falling v_turned v_totals v_before v_after v_keptBytes v_syndromes v_places v_firstEntry v_nextEntry v_numbers v_counts v_size v_lightestPlaces v_lightestCount v_toldPlaces v_placeCount v_ways v_wayCount v_usable v_upTo) (va_A (ww_C q cs v_ro v_sumCount v_told v_toldCount v_row v_rowLength v_asked v_rising v_falling v_turned v_totals v_before v_after v_keptBytes v_syndromes v_places v_firstEntry v_nextEntry v_numbers v_counts v_size v_lightestPlaces v_lightestCount v_toldPlaces v_placeCount v_ways v_wayCount v_usable v_upTo) sz)) 0 0 (va_A (ww_C q cs v_ro v_sumCount v_told v_toldCount v_row v_rowLength v_asked v_rising v_falling v_turned v_totals v_before v_after v_keptBytes v_syndromes v_places v_firstEntry v_nextEntry v_numbers v_counts v_size v_lightestPlaces v_lightestCount v_toldPlaces v_placeCount v_ways v_wayCount v_usable v_upTo) sz) := by
  refine k_enter (Qf := fun A => QI G res.1 True (ww_C q cs v_ro v_sumCount v_told v_toldCount v_row res.2 v_asked v_rising v_falling v_turned v_totals v_before v_after v_keptBytes v_syndromes v_places v_firstEntry v_nextEntry v_numbers v_counts v_size v_lightestPlaces v_lightestCount v_toldPlaces v_placeCount v_ways v_wayCount v_usable v_upTo) A) (cc := cX11_cut) (maxL := 3) (ret := (some .int)) (plainFor_of_name (by decide)) rfl (Nat.le_of_ble_eq_true rfl) ?_
  intro p e s m args below meth c A Q ls H locs hx hb hr hml hown hts hlocks hname hK hA hRo hP hD hS hQ hl
  have hl : lv_has ls 3 [(0, .ref (q 0)), (1, .int x1)] := hl
  have wd1 := hts (.fieldLink RX11 29 "SumSmith" "rowLength" "I") (List.mem_of_getElem? (i := 1) rfl)
  have hinX11 : ∀ w ∈ wsX110, w ∈ wsX11_cut := fun w h => List.mem_cons_of_mem _ (List.mem_append_right _ h)
  unfold M_X11_cut at hm
  refine lv_iload_n hx hb dX11_cut_0 rfl (lv_at hl 1 rfl) ?_
  refine lv_iconst (v := 0) hx hb dX11_cut_1 (by decide) ?_
  refine lv_aload_n hx hb dX11_cut_2 rfl (lv_at hl 0 rfl) ?_
  refine va_get (D := G) (ci := 9) (v := .int v_rowLength) (C := RX11) (T := TX11) (N := 12) hx hb hts hinX11 hown hK.1 hP 0 rfl rfl 5 (by decide) wd1 (fun _ h9 => h9) rfl dX11_cut_3 ?_
  refine k_calli0 (va_runS (As := [.int x1, .int 0, .int v_rowLength]) (rest := []) ⟨hx, hb, hml, hown, hts⟩ (c_X11_within l G cs H.size    x1 (0 : Int32) v_rowLength _ rfl) (va_cwS 3 hts gX11_cut_X11_within rfl rfl rfl hd_X11_within ⟨Nat.le_of_ble_eq_true rfl, Nat.le_of_ble_eq_true rfl⟩) ⟨pre_blind, pre_w hK RO.nil P0 D0 (va_new0 hS hA)⟩ rfl rfl hl.1 rfl (lv_room (Nat.le_of_ble_eq_true rfl)) dX11_cut_6 ⟨Nat.zero_le _, Nat.zero_le _⟩) hP hS hA (fun hE1 H locs hP hS => ?_)
  refine lv_if_ne (tgt := 15) hx hb dX11_cut_9 (by decide) (fun b2 => ?_) (fun b2 => ?_)
  · have hm := i_f b2 hm
    refine lv_aload_n hx hb dX11_cut_15 rfl (lv_at hl 0 rfl) ?_
    refine va_get (D := G) (ci := 9) (v := .int v_rowLength) (C := RX11) (T := TX11) (N := 12) hx hb hts hinX11 hown hK.1 hP 0 rfl rfl 5 (by decide) wd1 (fun _ h9 => h9) rfl dX11_cut_16 ?_
    refine lv_iload_n hx hb dX11_cut_19 rfl (lv_at hl 1 rfl) ?_
    refine lv_isub hx hb dX11_cut_20 ?_
    refine lv_istore_n (lv' := [(2, .int (v_rowLength - x1)), (0, .ref (q 0)), (1, .int x1)]) hx hb dX11_cut_21 rfl hl (by decide) rfl (fun ls hl => ?_)
    refine lv_aload_n hx hb dX11_cut_22 rfl (lv_at hl 1 rfl) ?_
    refine lv_iload_n hx hb dX11_cut_23 rfl (lv_at hl 2 rfl) ?_
    refine va_put (D := G) (ci := 9) (v := .int x1) (ty := .int) (C := RX11) (T := TX11) (N := 12) hx hb hts hinX11 tyX11 tyX11_ok nmX11 hown hK.1 hP hD hS 0 rfl rfl 5 (by decide) wd1 (fun _ h9 => h9) rfl (by decide +kernel) rfl rfl (Nat.le_of_ble_eq_true rfl) dX11_cut_24 (fun H locs hP hD hS => ?_)
    have hP : va_P G vwCl (ww_C q cs v_ro v_sumCount v_told v_toldCount v_row x1 v_asked v_rising v_falling v_turned v_totals v_before v_after v_keptBytes v_syndromes v_places v_firstEntry v_nextEntry v_numbers v_counts v_size v_lightestPlaces v_lightestCount v_toldPlaces v_placeCount v_ways v_wayCount v_usable v_upTo) H := hP
    have hD : va_D A (ww_C q cs v_ro v_sumCount v_told v_toldCount v_row x1 v_asked v_rising v_falling v_turned v_totals v_before v_after v_keptBytes v_syndromes v_places v_firstEntry v_nextEntry v_numbers v_counts v_size v_lightestPlaces v_lightestCount v_toldPlaces v_placeCount v_ways v_wayCount v_usable v_upTo) := hD
    refine lv_iload_n hx hb dX11_cut_27 rfl (lv_at hl 0 rfl) ?_
    have hq := hm
    subst hq; subst hQ
    exact k_iret hx hb hr hlocks hP hD hS rfl trivial dX11_cut_28
  · have hm := i_t b2 hm
    refine lv_bipush (v := (-3)) hx hb dX11_cut_12 (by decide) ?_
    have hq := hm
    subst hq; subst hQ
    exact k_iret hx hb hr hlocks hP hD hS rfl trivial dX11_cut_14

theorem hd_X11_sum : yX11_sum.cls ≠ "java/lang/invoke/MethodHandle" ∧ yX11_sum.cls ≠ "java/lang/invoke/VarHandle" ∧ (parseMethodDescriptor yX11_sum.desc).map (fun d => d.parameters.length) = some 1 := by decide +kernel

def M_X11_sum (n : Nat) (x1 : Int32) (v_ro : RF) (v_sumCount : Int32) (v_row : (Nat → Int32)) (v_rowLength : Int32) (v_asked : (Nat → Int32)) : Option (Int64 × (Nat → Int32)) :=
  (M_X11_sumAt x1 v_ro v_sumCount).bind fun r1 => Option.elim r1 (some ((-2), v_asked)) (fun y1 => if y1.2.2.1 = 8 ∨ y1.2.2.1 = 7 ∨ y1.2.2.1 = 6 ∨ y1.2.2.1 = 1 ∨ y1.2.2.1 = 4 then (if y1.2.2.2.1 < 0 ∨ 7 ≤ y1.2.2.2.1.toNatClampNeg then none else if y1.2.2.2.1 < 0 ∨ 7 ≤ y1.2.2.2.1.toNatClampNeg then none else if y1.2.2.2.1 = 5 then ((V_ofRow n y1.2.2 v_rowLength v_row 64).bind fun r6 => some (r6, (upd (upd v_asked y1.2.2.2.1.toNatClampNeg ((v_asked y1.2.2.2.1.toNatClampNeg) + 1)) (4 : Int32).toNatClampNeg (((upd v_asked y1.2.2.2.1.toNatClampNeg ((v_asked y1.2.2.2.1.toNatClampNeg) + 1)) (4 : Int32).toNatClampNeg) + 1)))) else ((V_ofRow n y1.2.2 v_rowLength v_row 64).bind fun r5 => some (r5, (upd v_asked y1.2.2.2.1.toNatClampNeg ((v_asked y1.2.2.2.1.toNatClampNeg) + 1))))) else none)

abbrev rmX11_sum : Room := { frames := 4, cells := 0, slots := 0, locals := 99 }
set_option maxHeartbeats 4000000 in
set_option maxRecDepth 100000 in
theorem v_X11_sum_ofRow {p : Program} {l : Launch} {e : Env} {s : State} {m : MethodId} {args : Array Value} {below : List Frame} {meth : Method} {c : Code} {H : Heap} {locs : List Loc} {pc : Nat} {Q : State → Prop} {G : va_G} {cs : CS} {q : Nat → Nat} {v_ro : RF} {v_sumCount : Int32} {v_told : (Nat → Int32)} {v_toldCount : Int32} {v_row : (Nat → Int32)} {v_rowLength : Int32} {v_asked : (Nat → Int32)} {v_rising : (Nat → Int64)} {v_falling : (Nat → Int64)} {v_turned : (Nat → Int32)} {v_totals : (Nat → Int64)} {v_before : (Nat → Int32)} {v_after : (Nat → Int32)} {v_keptBytes : Int32} {v_syndromes : (Nat → Int64)} {v_places : Int32} {v_firstEntry : (Nat → Int32)} {v_nextEntry : (Nat → Int32)} {v_numbers : (Nat → Int64)} {v_counts : (Nat → Int32)} {v_size : Int32} {v_lightestPlaces : (Nat → Int32)} {v_lightestCount : Int32} {v_toldPlaces : (Nat → Int32)} {v_placeCount : Int32} {v_ways : (Nat → Int32)} {v_wayCount : Int32} {v_usable : (Nat → Int32)} {v_upTo : (Nat → Int64)} {A : Nat → Prop} {ls : Array Slot} {rest : List Value} {ro : RF} {j sa sw : Nat} {sd : SD} {n : Nat} (hx : p.tables.exec = Jvm.exec) (hb : c.code = cX11_sum) (hml : c.maxLocals = 3) (hown : s.vm.findClass RX11 = some m.cls) (hts : ∀ w ∈ wsX11_sum, w.before args s = true) (hK : KK G cs s) (hA : ∀ q, s.heap.size ≤ q → A q) (hRo : RO G ro A s s.heap) (hj : ro j = some (sa, sw, sd)) (hP : va_P G vwCl (ww_C q cs v_ro v_sumCount v_told v_toldCount v_row v_rowLength v_asked v_rising v_falling v_turned v_totals v_before v_after v_keptBytes v_syndromes v_places v_firstEntry v_nextEntry v_numbers v_counts v_size v_lightestPlaces v_lightestCount v_toldPlaces v_placeCount v_ways v_wayCount v_usable v_upTo) H) (hD : va_D A (ww_C q cs v_ro v_sumCount v_told v_toldCount v_row v_rowLength v_asked v_rising v_falling v_turned v_totals v_before v_after v_keptBytes v_syndromes v_places v_firstEntry v_nextEntry v_numbers v_counts v_size v_lightestPlaces v_lightestCount v_toldPlaces v_placeCount v_ways v_wayCount v_usable v_upTo)) (hS : va_S A s.heap H locs) (hl1 : ls.size = 3) (hrest : (rest.map fun v => v.category).sum ≤ 8) (hdg : decode cX11_sum pc = .ok (.invokevirtual 132, 3)) {x2 : Int32} {r : Int64} (hc : V_ofRow n sd x2 v_row 64 = some r) (kk : ∀ (H1 : Heap) (locs1 : List Loc), va_P G vwCl (ww_C q cs v_ro v_sumCount v_told v_toldCount v_row v_rowLength v_asked v_rising v_falling v_turned v_totals v_before v_after v_keptBytes v_syndromes v_places v_firstEntry v_nextEntry v_numbers v_counts v_size v_lightestPlaces v_lightestCount v_toldPlaces v_placeCount v_ways v_wayCount v_usable v_upTo) H1 → va_D A (ww_C q cs v_ro v_sumCount v_told v_toldCount v_row v_rowLength v_asked v_rising v_falling v_turned v_totals v_before v_after v_keptBytes v_syndromes v_places v_firstEntry v_nextEntry v_numbers v_counts v_size v_lightestPlaces v_lightestCount v_toldPlaces v_placeCount v_ways v_wayCount v_usable v_upTo) → va_S A s.heap H1 locs1 → W p l e rmX11_sum s m args below meth c H1 locs1 0 0 Q (F0 m (pc + 3) ls (.long r :: rest))) : W p l e rmX11_sum s m args below meth c H locs 0 0 Q (F0 m pc ls (.int x2 :: .ref (q 3) :: .ref sa :: rest)) := by
  obtain ⟨c1, s_k, s_m, s_t, s_p, s_b, s_f, s_l, s_wl, s_wf⟩ := sd
  unfold V_ofRow at hc
  dsimp only at hc
  by_cases h8 : c1 = 8
  · have hc := i_t h8 hc
    subst h8
    exact k_calllj (wr := [((q 0), .inr (9, [.ref (q 1), .int v_sumCount, .ref (q 2), .int v_toldCount, .ref (q 3), .int v_rowLength, .ref (q 4), .ref (q 5), .ref (q 12), .ref (q 19), .int v_lightestCount, .ref (q 20)])), ((q 1), .inl (cs.2.2.2, 16, .inr (.inr (.inr (.inr (roA v_ro)))))), ((q 2), .inl (cs.1, 100, .inl v_told)), ((q 4), .inl (cs.1, 7, .inl v_asked)), ((q 5), .inr (3, [.ref (q 6), .ref (q 7), .ref (q 8), .ref (q 9), .ref (q 10), .ref (q 11), .int v_keptBytes])), ((q 6), .inl (cs.2.1, 64, .inr (.inl v_rising))), ((q 7), .inl (cs.2.1, 64, .inr (.inl v_falling))), ((q 8), .inl (cs.1, 8, .inl v_turned)), ((q 9), .inl (cs.2.1, 64, .inr (.inl v_totals))), ((q 10), .inl (cs.1, 8, .inl v_before)), ((q 11), .inl (cs.1, 8, .inl v_after)), ((q 12), .inr (2, [.ref (q 13), .int v_places, .ref (q 14)])), ((q 13), .inl (cs.2.1, 512, .inr (.inl v_syndromes))), ((q 14), .inr (5, [.ref (q 15), .ref (q 16), .ref (q 17), .ref (q 18), .int v_size])), ((q 15), .inl (cs.1, 512, .inl v_firstEntry)), ((q 16), .inl (cs.1, 1128, .inl v_nextEntry)), ((q 17), .inl (cs.2.1, 1128, .inr (.inl v_numbers))), ((q 18), .inl (cs.1, 1128, .inl v_counts)), ((q 19), .inl (cs.1, 4, .inl v_lightestPlaces)), ((q 20), .inr (0, [.ref (q 21), .int v_placeCount, .ref (q 22), .int v_wayCount, .ref (q 23), .ref (q 24)])), ((q 21), .inl (cs.1, 16, .inl v_toldPlaces)), ((q 22), .inl (cs.1, 64, .inl v_ways)), ((q 23), .inl (cs.1, 16, .inl v_usable)), ((q 24), .inl (cs.2.1, 16, .inr (.inl v_upTo)))]) (w2 := (ww_C q cs v_ro v_sumCount v_told v_toldCount v_row v_rowLength v_asked v_rising v_falling v_turned v_totals v_before v_after v_keptBytes v_syndromes v_places v_firstEntry v_nextEntry v_numbers v_counts v_size v_lightestPlaces v_lightestCount v_toldPlaces v_placeCount v_ways v_wayCount v_usable v_upTo)) (va_runU (As := [.ref (q 3), .int x2]) (rest := rest) ⟨hx, hb, hml, hown, hts⟩ (c_X10_ofRow l G cs H.size v_row (q 3) sa sw 64 s_k s_m s_t s_p s_b s_f s_l s_wl s_wf x2 n r hc) (va_cwA 2 hts gX11_sum_X10_ofRow_u132X10 rfl rfl rfl (hK.2.2.2.2.1 _ (List.mem_of_getElem? (i := 0) rfl)) hdv_ofRow ⟨Nat.le_of_ble_eq_true rfl, Nat.le_of_ble_eq_true rfl⟩) ⟨pre_blind, va_recv hK.1 (RO.at hS hRo j _ hj).1 (ci := 8) (q0 := 0) rfl rfl, pre_w hK (RO.one hj (RO.at hS hRo)) (P_by hP [3] rfl) (hD.sub [3] (by decide) rfl) (va_free hD hS hA [3] rfl)⟩ rfl rfl hl1 rfl (lv_room hrest) hdg ⟨Nat.zero_le _, Nat.zero_le _⟩) hP hD hS hA [3] [0, 1, 2, 4, 5, 6, 7, 8, 9, 10, 11, 12, 13, 14, 15, 16, 17, 18, 19, 20, 21, 22, 23, 24] [0, 1, 2, 24, 3, 4, 5, 6, 7, 8, 9, 10, 11, 12, 13, 14, 15, 16, 17, 18, 19, 20, 21, 22, 23] rfl rfl (by decide) (by decide) rfl (by decide) kk
  have hc := i_f h8 hc
  by_cases h7 : c1 = 7
  · have hc := i_t h7 hc
    subst h7
    exact k_calllj (wr := [((q 0), .inr (9, [.ref (q 1), .int v_sumCount, .ref (q 2), .int v_toldCount, .ref (q 3), .int v_rowLength, .ref (q 4), .ref (q 5), .ref (q 12), .ref (q 19), .int v_lightestCount, .ref (q 20)])), ((q 1), .inl (cs.2.2.2, 16, .inr (.inr (.inr (.inr (roA v_ro)))))), ((q 2), .inl (cs.1, 100, .inl v_told)), ((q 4), .inl (cs.1, 7, .inl v_asked)), ((q 5), .inr (3, [.ref (q 6), .ref (q 7), .ref (q 8), .ref (q 9), .ref (q 10), .ref (q 11), .int v_keptBytes])), ((q 6), .inl (cs.2.1, 64, .inr (.inl v_rising))), ((q 7), .inl (cs.2.1, 64, .inr (.inl v_falling))), ((q 8), .inl (cs.1, 8, .inl v_turned)), ((q 9), .inl (cs.2.1, 64, .inr (.inl v_totals))), ((q 10), .inl (cs.1, 8, .inl v_before)), ((q 11), .inl (cs.1, 8, .inl v_after)), ((q 12), .inr (2, [.ref (q 13), .int v_places, .ref (q 14)])), ((q 13), .inl (cs.2.1, 512, .inr (.inl v_syndromes))), ((q 14), .inr (5, [.ref (q 15), .ref (q 16), .ref (q 17), .ref (q 18), .int v_size])), ((q 15), .inl (cs.1, 512, .inl v_firstEntry)), ((q 16), .inl (cs.1, 1128, .inl v_nextEntry)), ((q 17), .inl (cs.2.1, 1128, .inr (.inl v_numbers))), ((q 18), .inl (cs.1, 1128, .inl v_counts)), ((q 19), .inl (cs.1, 4, .inl v_lightestPlaces)), ((q 20), .inr (0, [.ref (q 21), .int v_placeCount, .ref (q 22), .int v_wayCount, .ref (q 23), .ref (q 24)])), ((q 21), .inl (cs.1, 16, .inl v_toldPlaces)), ((q 22), .inl (cs.1, 64, .inl v_ways)), ((q 23), .inl (cs.1, 16, .inl v_usable)), ((q 24), .inl (cs.2.1, 16, .inr (.inl v_upTo)))]) (w2 := (ww_C q cs v_ro v_sumCount v_told v_toldCount v_row v_rowLength v_asked v_rising v_falling v_turned v_totals v_before v_after v_keptBytes v_syndromes v_places v_firstEntry v_nextEntry v_numbers v_counts v_size v_lightestPlaces v_lightestCount v_toldPlaces v_placeCount v_ways v_wayCount v_usable v_upTo)) (va_runU (As := [.ref (q 3), .int x2]) (rest := rest) ⟨hx, hb, hml, hown, hts⟩ (c_X9_ofRow l G cs H.size v_row (q 3) sa sw 64 s_k s_m s_t s_p s_b s_f s_l s_wl s_wf x2 n r hc) (va_cwA 2 hts gX11_sum_X9_ofRow_u132X9 rfl rfl rfl (hK.2.2.2.2.1 _ (List.mem_of_getElem? (i := 0) rfl)) hdv_ofRow ⟨Nat.le_of_ble_eq_true rfl, Nat.le_of_ble_eq_true rfl⟩) ⟨pre_blind, va_recv hK.1 (RO.at hS hRo j _ hj).1 (ci := 7) (q0 := 0) rfl rfl, pre_w hK (RO.one hj (RO.at hS hRo)) (P_by hP [3] rfl) (hD.sub [3] (by decide) rfl) (va_free hD hS hA [3] rfl)⟩ rfl rfl hl1 rfl (lv_room hrest) hdg ⟨Nat.zero_le _, Nat.zero_le _⟩) hP hD hS hA [3] [0, 1, 2, 4, 5, 6, 7, 8, 9, 10, 11, 12, 13, 14, 15, 16, 17, 18, 19, 20, 21, 22, 23, 24] [0, 1, 2, 24, 3, 4, 5, 6, 7, 8, 9, 10, 11, 12, 13, 14, 15, 16, 17, 18, 19, 20, 21, 22, 23] rfl rfl (by decide) (by decide) rfl (by decide) kk
  have hc := i_f h7 hc
  by_cases h6 : c1 = 6
  · have hc := i_t h6 hc
    subst h6
    exact k_calllj (wr := [((q 0), .inr (9, [.ref (q 1), .int v_sumCount, .ref (q 2), .int v_toldCount, .ref (q 3), .int v_rowLength, .ref (q 4), .ref (q 5), .ref (q 12), .ref (q 19), .int v_lightestCount, .ref (q 20)])), ((q 1), .inl (cs.2.2.2, 16, .inr (.inr (.inr (.inr (roA v_ro)))))), ((q 2), .inl (cs.1, 100, .inl v_told)), ((q 4), .inl (cs.1, 7, .inl v_asked)), ((q 5), .inr (3, [.ref (q 6), .ref (q 7), .ref (q 8), .ref (q 9), .ref (q 10), .ref (q 11), .int v_keptBytes])), ((q 6), .inl (cs.2.1, 64, .inr (.inl v_rising))), ((q 7), .inl (cs.2.1, 64, .inr (.inl v_falling))), ((q 8), .inl (cs.1, 8, .inl v_turned)), ((q 9), .inl (cs.2.1, 64, .inr (.inl v_totals))), ((q 10), .inl (cs.1, 8, .inl v_before)), ((q 11), .inl (cs.1, 8, .inl v_after)), ((q 12), .inr (2, [.ref (q 13), .int v_places, .ref (q 14)])), ((q 13), .inl (cs.2.1, 512, .inr (.inl v_syndromes))), ((q 14), .inr (5, [.ref (q 15), .ref (q 16), .ref (q 17), .ref (q 18), .int v_size])), ((q 15), .inl (cs.1, 512, .inl v_firstEntry)), ((q 16), .inl (cs.1, 1128, .inl v_nextEntry)), ((q 17), .inl (cs.2.1, 1128, .inr (.inl v_numbers))), ((q 18), .inl (cs.1, 1128, .inl v_counts)), ((q 19), .inl (cs.1, 4, .inl v_lightestPlaces)), ((q 20), .inr (0, [.ref (q 21), .int v_placeCount, .ref (q 22), .int v_wayCount, .ref (q 23), .ref (q 24)])), ((q 21), .inl (cs.1, 16, .inl v_toldPlaces)), ((q 22), .inl (cs.1, 64, .inl v_ways)), ((q 23), .inl (cs.1, 16, .inl v_usable)), ((q 24), .inl (cs.2.1, 16, .inr (.inl v_upTo)))]) (w2 := (ww_C q cs v_ro v_sumCount v_told v_toldCount v_row v_rowLength v_asked v_rising v_falling v_turned v_totals v_before v_after v_keptBytes v_syndromes v_places v_firstEntry v_nextEntry v_numbers v_counts v_size v_lightestPlaces v_lightestCount v_toldPlaces v_placeCount v_ways v_wayCount v_usable v_upTo)) (va_runU (As := [.ref (q 3), .int x2]) (rest := rest) ⟨hx, hb, hml, hown, hts⟩ (c_X8_ofRow l G cs H.size v_row (q 3) sa sw 64 s_k s_m s_t s_p s_b s_f s_l s_wl s_wf x2 n r hc) (va_cwA 2 hts gX11_sum_X8_ofRow_u132X8 rfl rfl rfl (hK.2.2.2.2.1 _ (List.mem_of_getElem? (i := 0) rfl)) hdv_ofRow ⟨Nat.le_of_ble_eq_true rfl, Nat.le_of_ble_eq_true rfl⟩) ⟨pre_blind, va_recv hK.1 (RO.at hS hRo j _ hj).1 (ci := 6) (q0 := 0) rfl rfl, pre_w hK (RO.one hj (RO.at hS hRo)) (P_by hP [3] rfl) (hD.sub [3] (by decide) rfl) (va_free hD hS hA [3] rfl)⟩ rfl rfl hl1 rfl (lv_room hrest) hdg ⟨Nat.zero_le _, Nat.zero_le _⟩) hP hD hS hA [3] [0, 1, 2, 4, 5, 6, 7, 8, 9, 10, 11, 12, 13, 14, 15, 16, 17, 18, 19, 20, 21, 22, 23, 24] [0, 1, 2, 24, 3, 4, 5, 6, 7, 8, 9, 10, 11, 12, 13, 14, 15, 16, 17, 18, 19, 20, 21, 22, 23] rfl rfl (by decide) (by decide) rfl (by decide) kk
  have hc := i_f h6 hc
  by_cases h1 : c1 = 1
  · have hc := i_t h1 hc
    subst h1
    exact k_calllj (wr := [((q 0), .inr (9, [.ref (q 1), .int v_sumCount, .ref (q 2), .int v_toldCount, .ref (q 3), .int v_rowLength, .ref (q 4), .ref (q 5), .ref (q 12), .ref (q 19), .int v_lightestCount, .ref (q 20)])), ((q 1), .inl (cs.2.2.2, 16, .inr (.inr (.inr (.inr (roA v_ro)))))), ((q 2), .inl (cs.1, 100, .inl v_told)), ((q 4), .inl (cs.1, 7, .inl v_asked)), ((q 5), .inr (3, [.ref (q 6), .ref (q 7), .ref (q 8), .ref (q 9), .ref (q 10), .ref (q 11), .int v_keptBytes])), ((q 6), .inl (cs.2.1, 64, .inr (.inl v_rising))), ((q 7), .inl (cs.2.1, 64, .inr (.inl v_falling))), ((q 8), .inl (cs.1, 8, .inl v_turned)), ((q 9), .inl (cs.2.1, 64, .inr (.inl v_totals))), ((q 10), .inl (cs.1, 8, .inl v_before)), ((q 11), .inl (cs.1, 8, .inl v_after)), ((q 12), .inr (2, [.ref (q 13), .int v_places, .ref (q 14)])), ((q 13), .inl (cs.2.1, 512, .inr (.inl v_syndromes))), ((q 14), .inr (5, [.ref (q 15), .ref (q 16), .ref (q 17), .ref (q 18), .int v_size])), ((q 15), .inl (cs.1, 512, .inl v_firstEntry)), ((q 16), .inl (cs.1, 1128, .inl v_nextEntry)), ((q 17), .inl (cs.2.1, 1128, .inr (.inl v_numbers))), ((q 18), .inl (cs.1, 1128, .inl v_counts)), ((q 19), .inl (cs.1, 4, .inl v_lightestPlaces)), ((q 20), .inr (0, [.ref (q 21), .int v_placeCount, .ref (q 22), .int v_wayCount, .ref (q 23), .ref (q 24)])), ((q 21), .inl (cs.1, 16, .inl v_toldPlaces)), ((q 22), .inl (cs.1, 64, .inl v_ways)), ((q 23), .inl (cs.1, 16, .inl v_usable)), ((q 24), .inl (cs.2.1, 16, .inr (.inl v_upTo)))]) (w2 := (ww_C q cs v_ro v_sumCount v_told v_toldCount v_row v_rowLength v_asked v_rising v_falling v_turned v_totals v_before v_after v_keptBytes v_syndromes v_places v_firstEntry v_nextEntry v_numbers v_counts v_size v_lightestPlaces v_lightestCount v_toldPlaces v_placeCount v_ways v_wayCount v_usable v_upTo)) (va_runU (As := [.ref (q 3), .int x2]) (rest := rest) ⟨hx, hb, hml, hown, hts⟩ (c_X1_ofRow l G cs H.size v_row (q 3) sa sw 64 s_k s_m s_t s_p s_b s_f s_l s_wl s_wf x2 n r hc) (va_cwA 2 hts gX11_sum_X1_ofRow_u132X1 rfl rfl rfl (hK.2.2.2.2.1 _ (List.mem_of_getElem? (i := 0) rfl)) hdv_ofRow ⟨Nat.le_of_ble_eq_true rfl, Nat.le_of_ble_eq_true rfl⟩) ⟨pre_blind, va_recv hK.1 (RO.at hS hRo j _ hj).1 (ci := 1) (q0 := 0) rfl rfl, pre_w hK (RO.one hj (RO.at hS hRo)) (P_by hP [3] rfl) (hD.sub [3] (by decide) rfl) (va_free hD hS hA [3] rfl)⟩ rfl rfl hl1 rfl (lv_room hrest) hdg ⟨Nat.zero_le _, Nat.zero_le _⟩) hP hD hS hA [3] [0, 1, 2, 4, 5, 6, 7, 8, 9, 10, 11, 12, 13, 14, 15, 16, 17, 18, 19, 20, 21, 22, 23, 24] [0, 1, 2, 24, 3, 4, 5, 6, 7, 8, 9, 10, 11, 12, 13, 14, 15, 16, 17, 18, 19, 20, 21, 22, 23] rfl rfl (by decide) (by decide) rfl (by decide) kk
  have hc := i_f h1 hc
  by_cases h4 : c1 = 4
  · have hc := i_t h4 hc
    subst h4
    exact k_calllj (wr := [((q 0), .inr (9, [.ref (q 1), .int v_sumCount, .ref (q 2), .int v_toldCount, .ref (q 3), .int v_rowLength, .ref (q 4), .ref (q 5), .ref (q 12), .ref (q 19), .int v_lightestCount, .ref (q 20)])), ((q 1), .inl (cs.2.2.2, 16, .inr (.inr (.inr (.inr (roA v_ro)))))), ((q 2), .inl (cs.1, 100, .inl v_told)), ((q 4), .inl (cs.1, 7, .inl v_asked)), ((q 5), .inr (3, [.ref (q 6), .ref (q 7), .ref (q 8), .ref (q 9), .ref (q 10), .ref (q 11), .int v_keptBytes])), ((q 6), .inl (cs.2.1, 64, .inr (.inl v_rising))), ((q 7), .inl (cs.2.1, 64, .inr (.inl v_falling))), ((q 8), .inl (cs.1, 8, .inl v_turned)), ((q 9), .inl (cs.2.1, 64, .inr (.inl v_totals))), ((q 10), .inl (cs.1, 8, .inl v_before)), ((q 11), .inl (cs.1, 8, .inl v_after)), ((q 12), .inr (2, [.ref (q 13), .int v_places, .ref (q 14)])), ((q 13), .inl (cs.2.1, 512, .inr (.inl v_syndromes))), ((q 14), .inr (5, [.ref (q 15), .ref (q 16), .ref (q 17), .ref (q 18), .int v_size])), ((q 15), .inl (cs.1, 512, .inl v_firstEntry)), ((q 16), .inl (cs.1, 1128, .inl v_nextEntry)), ((q 17), .inl (cs.2.1, 1128, .inr (.inl v_numbers))), ((q 18), .inl (cs.1, 1128, .inl v_counts)), ((q 19), .inl (cs.1, 4, .inl v_lightestPlaces)), ((q 20), .inr (0, [.ref (q 21), .int v_placeCount, .ref (q 22), .int v_wayCount, .ref (q 23), .ref (q 24)])), ((q 21), .inl (cs.1, 16, .inl v_toldPlaces)), ((q 22), .inl (cs.1, 64, .inl v_ways)), ((q 23), .inl (cs.1, 16, .inl v_usable)), ((q 24), .inl (cs.2.1, 16, .inr (.inl v_upTo)))]) (w2 := (ww_C q cs v_ro v_sumCount v_told v_toldCount v_row v_rowLength v_asked v_rising v_falling v_turned v_totals v_before v_after v_keptBytes v_syndromes v_places v_firstEntry v_nextEntry v_numbers v_counts v_size v_lightestPlaces v_lightestCount v_toldPlaces v_placeCount v_ways v_wayCount v_usable v_upTo)) (va_runU (As := [.ref (q 3), .int x2]) (rest := rest) ⟨hx, hb, hml, hown, hts⟩ (c_X5_ofRow l G cs H.size v_row (q 3) sa sw 64 s_k s_m s_t s_p s_b s_f s_l s_wl s_wf x2 n r hc) (va_cwA 2 hts gX11_sum_X5_ofRow_u132X5 rfl rfl rfl (hK.2.2.2.2.1 _ (List.mem_of_getElem? (i := 0) rfl)) hdv_ofRow ⟨Nat.le_of_ble_eq_true rfl, Nat.le_of_ble_eq_true rfl⟩) ⟨pre_blind, va_recv hK.1 (RO.at hS hRo j _ hj).1 (ci := 4) (q0 := 0) rfl rfl, pre_w hK (RO.one hj (RO.at hS hRo)) (P_by hP [3] rfl) (hD.sub [3] (by decide) rfl) (va_free hD hS hA [3] rfl)⟩ rfl rfl hl1 rfl (lv_room hrest) hdg ⟨Nat.zero_le _, Nat.zero_le _⟩) hP hD hS hA [3] [0, 1, 2, 4, 5, 6, 7, 8, 9, 10, 11, 12, 13, 14, 15, 16, 17, 18, 19, 20, 21, 22, 23, 24] [0, 1, 2, 24, 3, 4, 5, 6, 7, 8, 9, 10, 11, 12, 13, 14, 15, 16, 17, 18, 19, 20, 21, 22, 23] rfl rfl (by decide) (by decide) rfl (by decide) kk
  have hc := i_f h4 hc
  cases hc
set_option maxHeartbeats 4000000 in
set_option maxRecDepth 100000 in
theorem c_X11_sum (l : Launch) (G : va_G) (cs : CS) (q : Nat → Nat) (sz : Nat) (v_ro : RF) (v_sumCount : Int32) (v_told : (Nat → Int32)) (v_toldCount : Int32) (v_row : (Nat → Int32)) (v_rowLength : Int32) (v_asked : (Nat → Int32)) (v_rising : (Nat → Int64)) (v_falling : (Nat → Int64)) (v_turned : (Nat → Int32)) (v_totals : (Nat → Int64)) (v_before : (Nat → Int32)) (v_after : (Nat → Int32)) (v_keptBytes : Int32) (v_syndromes : (Nat → Int64)) (v_places : Int32) (v_firstEntry : (Nat → Int32)) (v_nextEntry : (Nat → Int32)) (v_numbers : (Nat → Int64)) (v_counts : (Nat → Int32)) (v_size : Int32) (v_lightestPlaces : (Nat → Int32)) (v_lightestCount : Int32) (v_toldPlaces : (Nat → Int32)) (v_placeCount : Int32) (v_ways : (Nat → Int32)) (v_wayCount : Int32) (v_usable : (Nat → Int32)) (v_upTo : (Nat → Int64))   (x1 : Int32) (n : Nat) (res : (Int64 × (Nat → Int32))) (hm : M_X11_sum n x1 v_ro v_sumCount v_row v_rowLength v_asked = some res) : Met l yX11_sum wsX11_sum rmX11_sum (va_Pc [.ref (q 0), .int x1] (PreW G cs sz (ww_C q cs v_ro v_sumCount v_told v_toldCount v_row v_rowLength v_asked v_rising v_falling v_turned v_totals v_before v_after v_keptBytes v_syndromes v_places v_firstEntry v_nextEntry v_numbers v_counts v_size v_lightestPlaces v_lightestCount v_toldPlaces v_placeCount v_ways v_wayCount v_usable v_upTo) v_ro)) (QL G res.1 (ww_C q cs v_ro v_sumCount v_told v_toldCount v_row v_rowLength res.2 v_rising v_falling v_turned v_totals v_before v_after v_keptBytes v_syndromes v_places v_firstEntry v_nextEntry v_numbers v_counts v_size v_lightestPlaces v_lightestCount v_toldPlaces v_placeCount v_ways v_wayCount v_usable v_upTo) (va_A (ww_C q cs v_ro v_sumCount v_told v_toldCount v_row v_rowLength v_asked v_rising v_falling v_turned v_totals v_before v_after v_keptBytes v_syndromes v_places v_firstEntry v_nextEntry v_numbers v_counts v_size v_lightestPlaces v_lightestCount v_toldPlaces v_placeCount v_ways v_wayCount v_usable v_upTo) sz)) 0 0 (va_A (ww_C q cs v_ro v_sumCount v_told v_toldCount v_row v_rowLength v_asked v_rising v_falling v_turned v_totals v_before v_after v_keptBytes v_syndromes v_places v_firstEntry v_nextEntry v_numbers v_counts v_size v_lightestPlaces v_lightestCount v_toldPlaces v_placeCount v_ways v_wayCount v_usable v_upTo) sz) := by
  refine k_enter (Qf := fun A => QL G res.1 (ww_C q cs v_ro v_sumCount v_told v_toldCount v_row v_rowLength res.2 v_rising v_falling v_turned v_totals v_before v_after v_keptBytes v_syndromes v_places v_firstEntry v_nextEntry v_numbers v_counts v_size v_lightestPlaces v_lightestCount v_toldPlaces v_placeCount v_ways v_wayCount v_usable v_upTo) A) (cc := cX11_sum) (maxL := 3) (ret := (some .long)) (plainFor_of_name (by decide)) rfl (Nat.le_of_ble_eq_true rfl) ?_
  intro p e s m args below meth c A Q ls H locs hx hb hr hml hown hts hlocks hname hK hA hRo hP hD hS hQ hl
  have hl : lv_has ls 3 [(0, .ref (q 0)), (1, .int x1)] := hl
  have wd1 := hts (.constantLong RX11 130 (-2)) (List.mem_of_getElem? (i := 1) rfl)
  have wd2 := hts (.fieldLink RX11 32 "SumSmith" "asked" "[I") (List.mem_of_getElem? (i := 2) rfl)
  have wd3 := hts (.fieldLink RX11 124 "SumSmith$Sum" "kind" "I") (List.mem_of_getElem? (i := 3) rfl)
  have wd4 := hts (.fieldLink RX11 26 "SumSmith" "row" "[I") (List.mem_of_getElem? (i := 4) rfl)
  have wd5 := hts (.fieldLink RX11 29 "SumSmith" "rowLength" "I") (List.mem_of_getElem? (i := 5) rfl)
  have hinX11 : ∀ w ∈ wsX110, w ∈ wsX11_sum := fun w h => List.mem_cons_of_mem _ (List.mem_append_left _ (List.mem_append_left _ (List.mem_append_left _ (List.mem_append_left _ (List.mem_append_left _ (List.mem_append_right _ h))))))
  have hinX1 : ∀ w ∈ wsX10, w ∈ wsX11_sum := fun w h => List.mem_cons_of_mem _ (List.mem_append_left _ (List.mem_append_left _ (List.mem_append_left _ (List.mem_append_left _ (List.mem_append_right _ h)))))
  have hinX5 : ∀ w ∈ wsX50, w ∈ wsX11_sum := fun w h => List.mem_cons_of_mem _ (List.mem_append_left _ (List.mem_append_left _ (List.mem_append_left _ (List.mem_append_right _ h))))
  have hinX8 : ∀ w ∈ wsX80, w ∈ wsX11_sum := fun w h => List.mem_cons_of_mem _ (List.mem_append_left _ (List.mem_append_left _ (List.mem_append_right _ h)))
  have hinX9 : ∀ w ∈ wsX90, w ∈ wsX11_sum := fun w h => List.mem_cons_of_mem _ (List.mem_append_left _ (List.mem_append_right _ h))
  have hinX10 : ∀ w ∈ wsX100, w ∈ wsX11_sum := fun w h => List.mem_cons_of_mem _ (List.mem_append_right _ h)
  unfold M_X11_sum at hm
  refine lv_aload_n hx hb dX11_sum_0 rfl (lv_at hl 0 rfl) ?_
  refine lv_iload_n hx hb dX11_sum_1 rfl (lv_at hl 1 rfl) ?_
  obtain ⟨r1, hc_r1, hm⟩ := bs hm
  refine k_callq (va_runV (As := [.int x1]) (rest := []) ⟨hx, hb, hml, hown, hts⟩ (c_X11_sumAt l G cs q H.size v_ro v_sumCount v_told v_toldCount v_row v_rowLength v_asked v_rising v_falling v_turned v_totals v_before v_after v_keptBytes v_syndromes v_places v_firstEntry v_nextEntry v_numbers v_counts v_size v_lightestPlaces v_lightestCount v_toldPlaces v_placeCount v_ways v_wayCount v_usable v_upTo x1 r1 hc_r1) (cwV 1 hts gX11_sum_X11_sumAt rfl rfl rfl ⟨rfl, hd_X11_sumAt⟩ ⟨Nat.le_of_ble_eq_true rfl, Nat.le_of_ble_eq_true rfl⟩) ⟨pre_blind, va_recv hK.1 hP (ci := 9) (q0 := 0) rfl rfl, pre_w hK (RO.at hS hRo) hP hD (va_all hD hS hA)⟩ rfl rfl hl.1 rfl (lv_room (Nat.le_of_ble_eq_true rfl)) dX11_sum_2 ⟨Nat.zero_le _, Nat.zero_le _⟩) hS (va_all hD hS hA) (fun H locs hP hD hS => ?_)
  have hP : va_P G vwCl (ww_C q cs v_ro v_sumCount v_told v_toldCount v_row v_rowLength v_asked v_rising v_falling v_turned v_totals v_before v_after v_keptBytes v_syndromes v_places v_firstEntry v_nextEntry v_numbers v_counts v_size v_lightestPlaces v_lightestCount v_toldPlaces v_placeCount v_ways v_wayCount v_usable v_upTo) H := hP
  have hD : va_D A (ww_C q cs v_ro v_sumCount v_told v_toldCount v_row v_rowLength v_asked v_rising v_falling v_turned v_totals v_before v_after v_keptBytes v_syndromes v_places v_firstEntry v_nextEntry v_numbers v_counts v_size v_lightestPlaces v_lightestCount v_toldPlaces v_placeCount v_ways v_wayCount v_usable v_upTo) := hD
  cases r1 with
  | none =>
    have hm := oe_n hm
    refine lv_astore_nN (lv' := [(2, .null), (0, .ref (q 0)), (1, .int x1)]) hx hb dX11_sum_5 rfl hl (by decide) rfl (fun ls hl => ?_)
    refine lv_aload_nN hx hb dX11_sum_6 rfl (lv_at hl 0 rfl) ?_
    refine lv_ifnonnullN hx hb dX11_sum_7 ?_
    refine lv_ldc2 (own := RX11) (v := (-2)) hx hb hown wd1 dX11_sum_10 ?_
    have hq := Option.some.inj hm
    subst hq; subst hQ
    exact k_lret hx hb hr hlocks hP hD hS rfl dX11_sum_13
  | some y1 =>
    have hm := oe_s hm
    obtain ⟨j1, hj1⟩ := sumAt_ro hc_r1
    obtain ⟨hv1, hm⟩ := g_pos hm
    refine lv_astore_n (lv' := [(2, .ref y1.1), (0, .ref (q 0)), (1, .int x1)]) hx hb dX11_sum_5 rfl hl (by decide) rfl (fun ls hl => ?_)
    refine lv_aload_n hx hb dX11_sum_6 rfl (lv_at hl 0 rfl) ?_
    refine lv_ifnonnull (tgt := 14) hx hb dX11_sum_7 (by decide) ?_
    refine lv_aload_n hx hb dX11_sum_14 rfl (lv_at hl 1 rfl) ?_
    refine va_get (D := G) (ci := 9) (v := .ref (q 4)) (C := RX11) (T := TX11) (N := 12) hx hb hts hinX11 hown hK.1 hP 0 rfl rfl 6 (by decide) wd2 (fun _ h9 => h9) rfl dX11_sum_15 ?_
    refine lv_aload_n hx hb dX11_sum_18 rfl (lv_at hl 0 rfl) ?_
    refine get_kind (own := RX11) hx hb hts hinX1 hinX5 hinX8 hinX9 hinX10 hown hK (RO.at hS hRo j1 _ hj1).1 hv1 wd3 dX11_sum_19 ?_
    refine lv_dup2_11 hx hb dX11_sum_22 rfl rfl ?_
    obtain ⟨h2, hm⟩ := g_in hm
    refine va_iald hx hb hK.1 hP 4 0 rfl rfl h2 dX11_sum_23 ?_
    refine lv_iconst (v := 1) hx hb dX11_sum_24 (by decide) ?_
    refine lv_iadd hx hb dX11_sum_25 ?_
    obtain ⟨h3, hm⟩ := g_in hm
    refine va_iast hx hb hK.1 hP hD hS 4 0 rfl rfl h3 dX11_sum_26 (fun H locs hP hD hS => ?_)
    have hP : va_P G vwCl (ww_C q cs v_ro v_sumCount v_told v_toldCount v_row v_rowLength (upd v_asked y1.2.2.2.1.toNatClampNeg ((v_asked y1.2.2.2.1.toNatClampNeg) + 1)) v_rising v_falling v_turned v_totals v_before v_after v_keptBytes v_syndromes v_places v_firstEntry v_nextEntry v_numbers v_counts v_size v_lightestPlaces v_lightestCount v_toldPlaces v_placeCount v_ways v_wayCount v_usable v_upTo) H := hP
    have hD : va_D A (ww_C q cs v_ro v_sumCount v_told v_toldCount v_row v_rowLength (upd v_asked y1.2.2.2.1.toNatClampNeg ((v_asked y1.2.2.2.1.toNatClampNeg) + 1)) v_rising v_falling v_turned v_totals v_before v_after v_keptBytes v_syndromes v_places v_firstEntry v_nextEntry v_numbers v_counts v_size v_lightestPlaces v_lightestCount v_toldPlaces v_placeCount v_ways v_wayCount v_usable v_upTo) := hD
    refine lv_aload_n hx hb dX11_sum_27 rfl (lv_at hl 0 rfl) ?_
    refine get_kind (own := RX11) hx hb hts hinX1 hinX5 hinX8 hinX9 hinX10 hown hK (RO.at hS hRo j1 _ hj1).1 hv1 wd3 dX11_sum_28 ?_
    refine lv_iconst (v := 5) hx hb dX11_sum_31 (by decide) ?_
    refine lv_icmp_ne (tgt := 45) hx hb dX11_sum_32 (by decide) (fun b4 => ?_) (fun b4 => ?_)
    · have hm := i_f b4 hm
      refine lv_aload_n hx hb dX11_sum_45 rfl (lv_at hl 0 rfl) ?_
      refine lv_aload_n hx hb dX11_sum_46 rfl (lv_at hl 1 rfl) ?_
      refine va_get (D := G) (ci := 9) (v := .ref (q 3)) (C := RX11) (T := TX11) (N := 12) hx hb hts hinX11 hown hK.1 hP 0 rfl rfl 4 (by decide) wd4 (fun _ h9 => h9) rfl dX11_sum_47 ?_
      refine lv_aload_n hx hb dX11_sum_50 rfl (lv_at hl 1 rfl) ?_
      refine va_get (D := G) (ci := 9) (v := .int v_rowLength) (C := RX11) (T := TX11) (N := 12) hx hb hts hinX11 hown hK.1 hP 0 rfl rfl 5 (by decide) wd5 (fun _ h9 => h9) rfl dX11_sum_51 ?_
      obtain ⟨r5, hc_r5, hm⟩ := bs hm
      refine v_X11_sum_ofRow (j := j1) (sa := y1.1) (sw := y1.2.1) (sd := y1.2.2) (n := n) hx hb hml hown hts hK hA hRo hj1 hP hD hS hl.1 (Nat.le_of_ble_eq_true rfl) dX11_sum_54 hc_r5 (fun H locs hP hD hS => ?_)
      have hq := Option.some.inj hm
      subst hq; subst hQ
      exact k_lret hx hb hr hlocks hP hD hS rfl dX11_sum_57
    · have hm := i_t b4 hm
      refine lv_aload_n hx hb dX11_sum_35 rfl (lv_at hl 1 rfl) ?_
      refine va_get (D := G) (ci := 9) (v := .ref (q 4)) (C := RX11) (T := TX11) (N := 12) hx hb hts hinX11 hown hK.1 hP 0 rfl rfl 6 (by decide) wd2 (fun _ h9 => h9) rfl dX11_sum_36 ?_
      refine lv_iconst (v := 4) hx hb dX11_sum_39 (by decide) ?_
      refine lv_dup2_11 hx hb dX11_sum_40 rfl rfl ?_
      refine va_iald hx hb hK.1 hP 4 0 rfl rfl (by unfold vp_in; decide) dX11_sum_41 ?_
      refine lv_iconst (v := 1) hx hb dX11_sum_42 (by decide) ?_
      refine lv_iadd hx hb dX11_sum_43 ?_
      refine va_iast hx hb hK.1 hP hD hS 4 0 rfl rfl (by unfold vp_in; decide) dX11_sum_44 (fun H locs hP hD hS => ?_)
      have hP : va_P G vwCl (ww_C q cs v_ro v_sumCount v_told v_toldCount v_row v_rowLength (upd (upd v_asked y1.2.2.2.1.toNatClampNeg ((v_asked y1.2.2.2.1.toNatClampNeg) + 1)) (4 : Int32).toNatClampNeg (((upd v_asked y1.2.2.2.1.toNatClampNeg ((v_asked y1.2.2.2.1.toNatClampNeg) + 1)) (4 : Int32).toNatClampNeg) + 1)) v_rising v_falling v_turned v_totals v_before v_after v_keptBytes v_syndromes v_places v_firstEntry v_nextEntry v_numbers v_counts v_size v_lightestPlaces v_lightestCount v_toldPlaces v_placeCount v_ways v_wayCount v_usable v_upTo) H := hP
      have hD : va_D A (ww_C q cs v_ro v_sumCount v_told v_toldCount v_row v_rowLength (upd (upd v_asked y1.2.2.2.1.toNatClampNeg ((v_asked y1.2.2.2.1.toNatClampNeg) + 1)) (4 : Int32).toNatClampNeg (((upd v_asked y1.2.2.2.1.toNatClampNeg ((v_asked y1.2.2.2.1.toNatClampNeg) + 1)) (4 : Int32).toNatClampNeg) + 1)) v_rising v_falling v_turned v_totals v_before v_after v_keptBytes v_syndromes v_places v_firstEntry v_nextEntry v_numbers v_counts v_size v_lightestPlaces v_lightestCount v_toldPlaces v_placeCount v_ways v_wayCount v_usable v_upTo) := hD
      refine lv_aload_n hx hb dX11_sum_45 rfl (lv_at hl 0 rfl) ?_
      refine lv_aload_n hx hb dX11_sum_46 rfl (lv_at hl 1 rfl) ?_
      refine va_get (D := G) (ci := 9) (v := .ref (q 3)) (C := RX11) (T := TX11) (N := 12) hx hb hts hinX11 hown hK.1 hP 0 rfl rfl 4 (by decide) wd4 (fun _ h9 => h9) rfl dX11_sum_47 ?_
      refine lv_aload_n hx hb dX11_sum_50 rfl (lv_at hl 1 rfl) ?_
      refine va_get (D := G) (ci := 9) (v := .int v_rowLength) (C := RX11) (T := TX11) (N := 12) hx hb hts hinX11 hown hK.1 hP 0 rfl rfl 5 (by decide) wd5 (fun _ h9 => h9) rfl dX11_sum_51 ?_
      obtain ⟨r6, hc_r6, hm⟩ := bs hm
      refine v_X11_sum_ofRow (j := j1) (sa := y1.1) (sw := y1.2.1) (sd := y1.2.2) (n := n) hx hb hml hown hts hK hA hRo hj1 hP hD hS hl.1 (Nat.le_of_ble_eq_true rfl) dX11_sum_54 hc_r6 (fun H locs hP hD hS => ?_)
      have hq := Option.some.inj hm
      subst hq; subst hQ
      exact k_lret hx hb hr hlocks hP hD hS rfl dX11_sum_57

theorem hd_X11_joined : yX11_joined.cls ≠ "java/lang/invoke/MethodHandle" ∧ yX11_joined.cls ≠ "java/lang/invoke/VarHandle" ∧ (parseMethodDescriptor yX11_joined.desc).map (fun d => d.parameters.length) = some 5 := by decide +kernel

def M_X11_joined (n : Nat) (x1 : Int32) (x2 : Int64) (x4 : Int32) (x5 : Int64) (x7 : Int32) (v_ro : RF) (v_sumCount : Int32) : Option Int64 :=
  (M_X11_sumAt x1 v_ro v_sumCount).bind fun r1 => Option.elim r1 (some (-2)) (fun y1 => if y1.2.2.1 = 8 ∨ y1.2.2.1 = 7 ∨ y1.2.2.1 = 6 ∨ y1.2.2.1 = 1 ∨ y1.2.2.1 = 4 then (if (y1.2.2.1 = 8 ∨ y1.2.2.1 = 7 ∨ y1.2.2.1 = 6 ∨ y1.2.2.1 = 1) then ((V_holds y1.2.2 x2).bind fun r3 => if r3 = 0 then (some (-3)) else ((V_holds y1.2.2 x5).bind fun r6 => if r6 = 0 then (some (-3)) else (if (M_X11_within x4 (0 : Int32) (1000 : Int32)) = 0 then (some (-3)) else (if (M_X11_within x7 (0 : Int32) (1000 : Int32)) = 0 then (some (-3)) else ((V_canJoinBehind y1.2.2 x4).bind fun r13 => if r13 = 0 then (some (-5)) else ((V_carried n y1.2.2 x2 x7).bind fun r16 => (V_merged y1.2.2 x5 r16).bind fun r17 => some r17)))))) else (some (-4))) else none)

abbrev rmX11_joined : Room := { frames := 4, cells := 0, slots := 0, locals := 95 }
set_option maxHeartbeats 4000000 in
set_option maxRecDepth 100000 in
theorem v_X11_joined_holds {p : Program} {l : Launch} {e : Env} {s : State} {m : MethodId} {args : Array Value} {below : List Frame} {meth : Method} {c : Code} {H : Heap} {locs : List Loc} {pc : Nat} {Q : State → Prop} {G : va_G} {cs : CS} {A : Nat → Prop} {ws : va_W} {ls : Array Slot} {rest : List Value} {ro : RF} {j sa sw : Nat} {sd : SD} (hx : p.tables.exec = Jvm.exec) (hb : c.code = cX11_joined) (hml : c.maxLocals = 10) (hown : s.vm.findClass RX11 = some m.cls) (hts : ∀ w ∈ wsX11_joined, w.before args s = true) (hK : KK G cs s) (hA : ∀ q, s.heap.size ≤ q → A q) (hRo : RO G ro A s s.heap) (hj : ro j = some (sa, sw, sd)) (hP : va_P G vwCl ws H) (hS : va_S A s.heap H locs) (hl1 : ls.size = 10) (hrest : (rest.map fun v => v.category).sum ≤ 8) (hdg : decode cX11_joined pc = .ok (.invokevirtual 140, 3)) {x1 : Int64} {r : Int32} (hc : V_holds sd x1 = some r) (kk : (r = 0 ∨ r = 1) → ∀ (H1 : Heap) (locs1 : List Loc), va_P G vwCl ws H1 → va_S A s.heap H1 locs1 → W p l e rmX11_joined s m args below meth c H1 locs1 0 0 Q (F0 m (pc + 3) ls (.int r :: rest))) : W p l e rmX11_joined s m args below meth c H locs 0 0 Q (F0 m pc ls (.long x1 :: .ref sa :: rest)) := by
  obtain ⟨c1, s_k, s_m, s_t, s_p, s_b, s_f, s_l, s_wl, s_wf⟩ := sd
  unfold V_holds at hc
  dsimp only at hc
  by_cases h8 : c1 = 8
  · have hc := i_t h8 hc
    subst h8
    exact k_calli0 (va_runU (As := [.long x1]) (rest := rest) ⟨hx, hb, hml, hown, hts⟩ (c_X10_holds l G cs H.size sa sw s_k s_m s_t s_p s_b s_f s_l s_wl s_wf x1 r (Option.some.inj hc)) (va_cwA 1 hts gX11_joined_X10_holds_u140X10 rfl rfl rfl (hK.2.2.2.2.1 _ (List.mem_of_getElem? (i := 1) rfl)) hdv_holds ⟨Nat.le_of_ble_eq_true rfl, Nat.le_of_ble_eq_true rfl⟩) ⟨pre_blind, va_recv hK.1 (RO.at hS hRo j _ hj).1 (ci := 8) (q0 := 0) rfl rfl, pre_w hK (RO.one hj (RO.at hS hRo)) P0 D0 (va_new0 hS hA)⟩ rfl rfl hl1 rfl (lv_room hrest) hdg ⟨Nat.zero_le _, Nat.zero_le _⟩) hP hS hA (fun hE => kk hE)
  have hc := i_f h8 hc
  by_cases h7 : c1 = 7
  · have hc := i_t h7 hc
    subst h7
    exact k_calli0 (va_runU (As := [.long x1]) (rest := rest) ⟨hx, hb, hml, hown, hts⟩ (c_X9_holds l G cs H.size sa sw s_k s_m s_t s_p s_b s_f s_l s_wl s_wf x1 r (Option.some.inj hc)) (va_cwA 1 hts gX11_joined_X9_holds_u140X9 rfl rfl rfl (hK.2.2.2.2.1 _ (List.mem_of_getElem? (i := 1) rfl)) hdv_holds ⟨Nat.le_of_ble_eq_true rfl, Nat.le_of_ble_eq_true rfl⟩) ⟨pre_blind, va_recv hK.1 (RO.at hS hRo j _ hj).1 (ci := 7) (q0 := 0) rfl rfl, pre_w hK (RO.one hj (RO.at hS hRo)) P0 D0 (va_new0 hS hA)⟩ rfl rfl hl1 rfl (lv_room hrest) hdg ⟨Nat.zero_le _, Nat.zero_le _⟩) hP hS hA (fun hE => kk hE)
  have hc := i_f h7 hc
  by_cases h6 : c1 = 6
  · have hc := i_t h6 hc
    subst h6
    exact k_calli0 (va_runU (As := [.long x1]) (rest := rest) ⟨hx, hb, hml, hown, hts⟩ (c_X8_holds l G cs H.size sa sw s_k s_m s_t s_p s_b s_f s_l s_wl s_wf x1 r (Option.some.inj hc)) (va_cwA 1 hts gX11_joined_X8_holds_u140X8 rfl rfl rfl (hK.2.2.2.2.1 _ (List.mem_of_getElem? (i := 1) rfl)) hdv_holds ⟨Nat.le_of_ble_eq_true rfl, Nat.le_of_ble_eq_true rfl⟩) ⟨pre_blind, va_recv hK.1 (RO.at hS hRo j _ hj).1 (ci := 6) (q0 := 0) rfl rfl, pre_w hK (RO.one hj (RO.at hS hRo)) P0 D0 (va_new0 hS hA)⟩ rfl rfl hl1 rfl (lv_room hrest) hdg ⟨Nat.zero_le _, Nat.zero_le _⟩) hP hS hA (fun hE => kk hE)
  have hc := i_f h6 hc
  by_cases h1 : c1 = 1
  · have hc := i_t h1 hc
    subst h1
    exact k_calli0 (va_runU (As := [.long x1]) (rest := rest) ⟨hx, hb, hml, hown, hts⟩ (c_X1_holds l G cs H.size sa sw s_k s_m s_t s_p s_b s_f s_l s_wl s_wf x1 r (Option.some.inj hc)) (va_cwA 1 hts gX11_joined_X1_holds_u140X1 rfl rfl rfl (hK.2.2.2.2.1 _ (List.mem_of_getElem? (i := 1) rfl)) hdv_holds ⟨Nat.le_of_ble_eq_true rfl, Nat.le_of_ble_eq_true rfl⟩) ⟨pre_blind, va_recv hK.1 (RO.at hS hRo j _ hj).1 (ci := 1) (q0 := 0) rfl rfl, pre_w hK (RO.one hj (RO.at hS hRo)) P0 D0 (va_new0 hS hA)⟩ rfl rfl hl1 rfl (lv_room hrest) hdg ⟨Nat.zero_le _, Nat.zero_le _⟩) hP hS hA (fun hE => kk hE)
  have hc := i_f h1 hc
  cases hc
set_option maxHeartbeats 4000000 in
set_option maxRecDepth 100000 in
theorem v_X11_joined_canJoinBehind {p : Program} {l : Launch} {e : Env} {s : State} {m : MethodId} {args : Array Value} {below : List Frame} {meth : Method} {c : Code} {H : Heap} {locs : List Loc} {pc : Nat} {Q : State → Prop} {G : va_G} {cs : CS} {A : Nat → Prop} {ws : va_W} {ls : Array Slot} {rest : List Value} {ro : RF} {j sa sw : Nat} {sd : SD} (hx : p.tables.exec = Jvm.exec) (hb : c.code = cX11_joined) (hml : c.maxLocals = 10) (hown : s.vm.findClass RX11 = some m.cls) (hts : ∀ w ∈ wsX11_joined, w.before args s = true) (hK : KK G cs s) (hA : ∀ q, s.heap.size ≤ q → A q) (hRo : RO G ro A s s.heap) (hj : ro j = some (sa, sw, sd)) (hP : va_P G vwCl ws H) (hS : va_S A s.heap H locs) (hl1 : ls.size = 10) (hrest : (rest.map fun v => v.category).sum ≤ 8) (hdg : decode cX11_joined pc = .ok (.invokevirtual 146, 3)) {x1 : Int32} {r : Int32} (hc : V_canJoinBehind sd x1 = some r) (kk : (r = 0 ∨ r = 1) → ∀ (H1 : Heap) (locs1 : List Loc), va_P G vwCl ws H1 → va_S A s.heap H1 locs1 → W p l e rmX11_joined s m args below meth c H1 locs1 0 0 Q (F0 m (pc + 3) ls (.int r :: rest))) : W p l e rmX11_joined s m args below meth c H locs 0 0 Q (F0 m pc ls (.int x1 :: .ref sa :: rest)) := by
  obtain ⟨c1, s_k, s_m, s_t, s_p, s_b, s_f, s_l, s_wl, s_wf⟩ := sd
  unfold V_canJoinBehind at hc
  dsimp only at hc
  by_cases h8 : c1 = 8
  · have hc := i_t h8 hc
    subst h8
    exact k_calli0 (va_runU (As := [.int x1]) (rest := rest) ⟨hx, hb, hml, hown, hts⟩ (c_X10_canJoinBehind l G cs H.size sa sw s_k s_m s_t s_p s_b s_f s_l s_wl s_wf x1 r hc) (va_cwO 1 hts gX11_joined_X10_canJoinBehind_u146X10 rfl rfl rfl (b0 := cX2_canJoinBehind) (m0 := 2) (r0 := some .boolean) (List.mem_of_getElem? (i := 55) rfl) hdv_canJoinBehind ⟨Nat.le_of_ble_eq_true rfl, Nat.le_of_ble_eq_true rfl⟩) ⟨pre_blind, va_recv hK.1 (RO.at hS hRo j _ hj).1 (ci := 8) (q0 := 0) rfl rfl, pre_w hK (RO.one hj (RO.at hS hRo)) P0 D0 (va_new0 hS hA)⟩ rfl rfl hl1 rfl (lv_room hrest) hdg ⟨Nat.zero_le _, Nat.zero_le _⟩) hP hS hA (fun hE => kk hE)
  have hc := i_f h8 hc
  by_cases h7 : c1 = 7
  · have hc := i_t h7 hc
    subst h7
    exact k_calli0 (va_runU (As := [.int x1]) (rest := rest) ⟨hx, hb, hml, hown, hts⟩ (c_X2_canJoinBehind l G cs H.size sa x1 r (Option.some.inj hc)) (va_cwU 1 hts gX11_joined_X2_canJoinBehind_u146X9 rfl rfl rfl rfl hdv_canJoinBehind ⟨Nat.le_of_ble_eq_true rfl, Nat.le_of_ble_eq_true rfl⟩) ⟨pre_blind, va_recv hK.1 (RO.at hS hRo j _ hj).1 (ci := 7) (q0 := 0) rfl rfl, pre_w hK RO.nil P0 D0 (va_new0 hS hA)⟩ rfl rfl hl1 rfl (lv_room hrest) hdg ⟨Nat.zero_le _, Nat.zero_le _⟩) hP hS hA (fun hE => kk hE)
  have hc := i_f h7 hc
  by_cases h6 : c1 = 6
  · have hc := i_t h6 hc
    subst h6
    exact k_calli0 (va_runU (As := [.int x1]) (rest := rest) ⟨hx, hb, hml, hown, hts⟩ (c_X2_canJoinBehind l G cs H.size sa x1 r (Option.some.inj hc)) (va_cwU 1 hts gX11_joined_X2_canJoinBehind_u146X8 rfl rfl rfl rfl hdv_canJoinBehind ⟨Nat.le_of_ble_eq_true rfl, Nat.le_of_ble_eq_true rfl⟩) ⟨pre_blind, va_recv hK.1 (RO.at hS hRo j _ hj).1 (ci := 6) (q0 := 0) rfl rfl, pre_w hK RO.nil P0 D0 (va_new0 hS hA)⟩ rfl rfl hl1 rfl (lv_room hrest) hdg ⟨Nat.zero_le _, Nat.zero_le _⟩) hP hS hA (fun hE => kk hE)
  have hc := i_f h6 hc
  by_cases h1 : c1 = 1
  · have hc := i_t h1 hc
    subst h1
    exact k_calli0 (va_runU (As := [.int x1]) (rest := rest) ⟨hx, hb, hml, hown, hts⟩ (c_X2_canJoinBehind l G cs H.size sa x1 r (Option.some.inj hc)) (va_cwU 1 hts gX11_joined_X2_canJoinBehind_u146X1 rfl rfl rfl rfl hdv_canJoinBehind ⟨Nat.le_of_ble_eq_true rfl, Nat.le_of_ble_eq_true rfl⟩) ⟨pre_blind, va_recv hK.1 (RO.at hS hRo j _ hj).1 (ci := 1) (q0 := 0) rfl rfl, pre_w hK RO.nil P0 D0 (va_new0 hS hA)⟩ rfl rfl hl1 rfl (lv_room hrest) hdg ⟨Nat.zero_le _, Nat.zero_le _⟩) hP hS hA (fun hE => kk hE)
  have hc := i_f h1 hc
  cases hc
set_option maxHeartbeats 4000000 in
set_option maxRecDepth 100000 in
theorem v_X11_joined_carried {p : Program} {l : Launch} {e : Env} {s : State} {m : MethodId} {args : Array Value} {below : List Frame} {meth : Method} {c : Code} {H : Heap} {locs : List Loc} {pc : Nat} {Q : State → Prop} {G : va_G} {cs : CS} {A : Nat → Prop} {ws : va_W} {ls : Array Slot} {rest : List Value} {ro : RF} {j sa sw : Nat} {sd : SD} {n : Nat} (hx : p.tables.exec = Jvm.exec) (hb : c.code = cX11_joined) (hml : c.maxLocals = 10) (hown : s.vm.findClass RX11 = some m.cls) (hts : ∀ w ∈ wsX11_joined, w.before args s = true) (hK : KK G cs s) (hA : ∀ q, s.heap.size ≤ q → A q) (hRo : RO G ro A s s.heap) (hj : ro j = some (sa, sw, sd)) (hP : va_P G vwCl ws H) (hS : va_S A s.heap H locs) (hl1 : ls.size = 10) (hrest : (rest.map fun v => v.category).sum ≤ 8) (hdg : decode cX11_joined pc = .ok (.invokevirtual 149, 3)) {x1 : Int64}  {x3 : Int32} {r : Int64} (hc : V_carried n sd x1 x3 = some r) (kk : ∀ (H1 : Heap) (locs1 : List Loc), va_P G vwCl ws H1 → va_S A s.heap H1 locs1 → W p l e rmX11_joined s m args below meth c H1 locs1 0 0 Q (F0 m (pc + 3) ls (.long r :: rest))) : W p l e rmX11_joined s m args below meth c H locs 0 0 Q (F0 m pc ls (.int x3 :: .long x1 :: .ref sa :: rest)) := by
  obtain ⟨c1, s_k, s_m, s_t, s_p, s_b, s_f, s_l, s_wl, s_wf⟩ := sd
  unfold V_carried at hc
  dsimp only at hc
  by_cases h8 : c1 = 8
  · have hc := i_t h8 hc
    subst h8
    exact k_calll0 (va_runU (As := [.long x1, .int x3]) (rest := rest) ⟨hx, hb, hml, hown, hts⟩ (c_X10_carried l G cs H.size sa sw s_k s_m s_t s_p s_b s_f s_l s_wl s_wf x1 x3 r (Option.some.inj hc)) (va_cwA 2 hts gX11_joined_X10_carried_u149X10 rfl rfl rfl (hK.2.2.2.2.1 _ (List.mem_of_getElem? (i := 2) rfl)) hdv_carried ⟨Nat.le_of_ble_eq_true rfl, Nat.le_of_ble_eq_true rfl⟩) ⟨pre_blind, va_recv hK.1 (RO.at hS hRo j _ hj).1 (ci := 8) (q0 := 0) rfl rfl, pre_w hK (RO.one hj (RO.at hS hRo)) P0 D0 (va_new0 hS hA)⟩ rfl rfl hl1 rfl (lv_room hrest) hdg ⟨Nat.zero_le _, Nat.zero_le _⟩) hP hS hA kk
  have hc := i_f h8 hc
  by_cases h7 : c1 = 7
  · have hc := i_t h7 hc
    subst h7
    exact k_calll0 (va_runU (As := [.long x1, .int x3]) (rest := rest) ⟨hx, hb, hml, hown, hts⟩ (c_X9_carried l G cs H.size sa sw s_k s_m s_t s_p s_b s_f s_l s_wl s_wf x1 x3 r hc) (va_cwA 2 hts gX11_joined_X9_carried_u149X9 rfl rfl rfl (hK.2.2.2.2.1 _ (List.mem_of_getElem? (i := 2) rfl)) hdv_carried ⟨Nat.le_of_ble_eq_true rfl, Nat.le_of_ble_eq_true rfl⟩) ⟨pre_blind, va_recv hK.1 (RO.at hS hRo j _ hj).1 (ci := 7) (q0 := 0) rfl rfl, pre_w hK (RO.one hj (RO.at hS hRo)) P0 D0 (va_new0 hS hA)⟩ rfl rfl hl1 rfl (lv_room hrest) hdg ⟨Nat.zero_le _, Nat.zero_le _⟩) hP hS hA kk
  have hc := i_f h7 hc
  by_cases h6 : c1 = 6
  · have hc := i_t h6 hc
    subst h6
    exact k_calll0 (va_runU (As := [.long x1, .int x3]) (rest := rest) ⟨hx, hb, hml, hown, hts⟩ (c_X8_carried l G cs H.size sa sw s_k s_m s_t s_p s_b s_f s_l s_wl s_wf x1 x3 r hc) (va_cwA 2 hts gX11_joined_X8_carried_u149X8 rfl rfl rfl (hK.2.2.2.2.1 _ (List.mem_of_getElem? (i := 2) rfl)) hdv_carried ⟨Nat.le_of_ble_eq_true rfl, Nat.le_of_ble_eq_true rfl⟩) ⟨pre_blind, va_recv hK.1 (RO.at hS hRo j _ hj).1 (ci := 6) (q0 := 0) rfl rfl, pre_w hK (RO.one hj (RO.at hS hRo)) P0 D0 (va_new0 hS hA)⟩ rfl rfl hl1 rfl (lv_room hrest) hdg ⟨Nat.zero_le _, Nat.zero_le _⟩) hP hS hA kk
  have hc := i_f h6 hc
  by_cases h1 : c1 = 1
  · have hc := i_t h1 hc
    subst h1
    exact k_calll0 (va_runU (As := [.long x1, .int x3]) (rest := rest) ⟨hx, hb, hml, hown, hts⟩ (c_X1_carried l G cs H.size sa sw s_k s_m s_t s_p s_b s_f s_l s_wl s_wf x1 x3 n r hc) (va_cwA 2 hts gX11_joined_X1_carried_u149X1 rfl rfl rfl (hK.2.2.2.2.1 _ (List.mem_of_getElem? (i := 2) rfl)) hdv_carried ⟨Nat.le_of_ble_eq_true rfl, Nat.le_of_ble_eq_true rfl⟩) ⟨pre_blind, va_recv hK.1 (RO.at hS hRo j _ hj).1 (ci := 1) (q0 := 0) rfl rfl, pre_w hK (RO.one hj (RO.at hS hRo)) P0 D0 (va_new0 hS hA)⟩ rfl rfl hl1 rfl (lv_room hrest) hdg ⟨Nat.zero_le _, Nat.zero_le _⟩) hP hS hA kk
  have hc := i_f h1 hc
  cases hc
set_option maxHeartbeats 4000000 in
set_option maxRecDepth 100000 in
theorem v_X11_joined_merged {p : Program} {l : Launch} {e : Env} {s : State} {m : MethodId} {args : Array Value} {below : List Frame} {meth : Method} {c : Code} {H : Heap} {locs : List Loc} {pc : Nat} {Q : State → Prop} {G : va_G} {cs : CS} {A : Nat → Prop} {ws : va_W} {ls : Array Slot} {rest : List Value} {ro : RF} {j sa sw : Nat} {sd : SD} (hx : p.tables.exec = Jvm.exec) (hb : c.code = cX11_joined) (hml : c.maxLocals = 10) (hown : s.vm.findClass RX11 = some m.cls) (hts : ∀ w ∈ wsX11_joined, w.before args s = true) (hK : KK G cs s) (hA : ∀ q, s.heap.size ≤ q → A q) (hRo : RO G ro A s s.heap) (hj : ro j = some (sa, sw, sd)) (hP : va_P G vwCl ws H) (hS : va_S A s.heap H locs) (hl1 : ls.size = 10) (hrest : (rest.map fun v => v.category).sum ≤ 8) (hdg : decode cX11_joined pc = .ok (.invokevirtual 153, 3)) {x1 : Int64}  {x3 : Int64} {r : Int64} (hc : V_merged sd x1 x3 = some r) (kk : ∀ (H1 : Heap) (locs1 : List Loc), va_P G vwCl ws H1 → va_S A s.heap H1 locs1 → W p l e rmX11_joined s m args below meth c H1 locs1 0 0 Q (F0 m (pc + 3) ls (.long r :: rest))) : W p l e rmX11_joined s m args below meth c H locs 0 0 Q (F0 m pc ls (.long x3 :: .long x1 :: .ref sa :: rest)) := by
  obtain ⟨c1, s_k, s_m, s_t, s_p, s_b, s_f, s_l, s_wl, s_wf⟩ := sd
  unfold V_merged at hc
  dsimp only at hc
  by_cases h8 : c1 = 8
  · have hc := i_t h8 hc
    subst h8
    exact k_calll0 (va_runU (As := [.long x1, .long x3]) (rest := rest) ⟨hx, hb, hml, hown, hts⟩ (c_X10_merged l G cs H.size sa sw s_k s_m s_t s_p s_b s_f s_l s_wl s_wf x1 x3 r hc) (va_cwA 2 hts gX11_joined_X10_merged_u153X10 rfl rfl rfl (hK.2.2.2.2.1 _ (List.mem_of_getElem? (i := 3) rfl)) hdv_merged ⟨Nat.le_of_ble_eq_true rfl, Nat.le_of_ble_eq_true rfl⟩) ⟨pre_blind, va_recv hK.1 (RO.at hS hRo j _ hj).1 (ci := 8) (q0 := 0) rfl rfl, pre_w hK (RO.one hj (RO.at hS hRo)) P0 D0 (va_new0 hS hA)⟩ rfl rfl hl1 rfl (lv_room hrest) hdg ⟨Nat.zero_le _, Nat.zero_le _⟩) hP hS hA kk
  have hc := i_f h8 hc
  by_cases h7 : c1 = 7
  · have hc := i_t h7 hc
    subst h7
    exact k_calll0 (va_runU (As := [.long x1, .long x3]) (rest := rest) ⟨hx, hb, hml, hown, hts⟩ (c_X9_merged l G cs H.size sa sw s_k s_m s_t s_p s_b s_f s_l s_wl s_wf x1 x3 r hc) (va_cwA 2 hts gX11_joined_X9_merged_u153X9 rfl rfl rfl (hK.2.2.2.2.1 _ (List.mem_of_getElem? (i := 3) rfl)) hdv_merged ⟨Nat.le_of_ble_eq_true rfl, Nat.le_of_ble_eq_true rfl⟩) ⟨pre_blind, va_recv hK.1 (RO.at hS hRo j _ hj).1 (ci := 7) (q0 := 0) rfl rfl, pre_w hK (RO.one hj (RO.at hS hRo)) P0 D0 (va_new0 hS hA)⟩ rfl rfl hl1 rfl (lv_room hrest) hdg ⟨Nat.zero_le _, Nat.zero_le _⟩) hP hS hA kk
  have hc := i_f h7 hc
  by_cases h6 : c1 = 6
  · have hc := i_t h6 hc
    subst h6
    exact k_calll0 (va_runU (As := [.long x1, .long x3]) (rest := rest) ⟨hx, hb, hml, hown, hts⟩ (c_X8_merged l G cs H.size sa sw s_k s_m s_t s_p s_b s_f s_l s_wl s_wf x1 x3 r (Option.some.inj hc)) (va_cwA 2 hts gX11_joined_X8_merged_u153X8 rfl rfl rfl (hK.2.2.2.2.1 _ (List.mem_of_getElem? (i := 3) rfl)) hdv_merged ⟨Nat.le_of_ble_eq_true rfl, Nat.le_of_ble_eq_true rfl⟩) ⟨pre_blind, va_recv hK.1 (RO.at hS hRo j _ hj).1 (ci := 6) (q0 := 0) rfl rfl, pre_w hK (RO.one hj (RO.at hS hRo)) P0 D0 (va_new0 hS hA)⟩ rfl rfl hl1 rfl (lv_room hrest) hdg ⟨Nat.zero_le _, Nat.zero_le _⟩) hP hS hA kk
  have hc := i_f h6 hc
  by_cases h1 : c1 = 1
  · have hc := i_t h1 hc
    subst h1
    exact k_calll0 (va_runU (As := [.long x1, .long x3]) (rest := rest) ⟨hx, hb, hml, hown, hts⟩ (c_X1_merged l G cs H.size sa sw s_k s_m s_t s_p s_b s_f s_l s_wl s_wf x1 x3 r (Option.some.inj hc)) (va_cwA 2 hts gX11_joined_X1_merged_u153X1 rfl rfl rfl (hK.2.2.2.2.1 _ (List.mem_of_getElem? (i := 3) rfl)) hdv_merged ⟨Nat.le_of_ble_eq_true rfl, Nat.le_of_ble_eq_true rfl⟩) ⟨pre_blind, va_recv hK.1 (RO.at hS hRo j _ hj).1 (ci := 1) (q0 := 0) rfl rfl, pre_w hK (RO.one hj (RO.at hS hRo)) P0 D0 (va_new0 hS hA)⟩ rfl rfl hl1 rfl (lv_room hrest) hdg ⟨Nat.zero_le _, Nat.zero_le _⟩) hP hS hA kk
  have hc := i_f h1 hc
  cases hc
set_option maxHeartbeats 4000000 in
set_option maxRecDepth 100000 in
theorem c_X11_joined (l : Launch) (G : va_G) (cs : CS) (q : Nat → Nat) (sz : Nat) (v_ro : RF) (v_sumCount : Int32) (v_told : (Nat → Int32)) (v_toldCount : Int32) (v_row : (Nat → Int32)) (v_rowLength : Int32) (v_asked : (Nat → Int32)) (v_rising : (Nat → Int64)) (v_falling : (Nat → Int64)) (v_turned : (Nat → Int32)) (v_totals : (Nat → Int64)) (v_before : (Nat → Int32)) (v_after : (Nat → Int32)) (v_keptBytes : Int32) (v_syndromes : (Nat → Int64)) (v_places : Int32) (v_firstEntry : (Nat → Int32)) (v_nextEntry : (Nat → Int32)) (v_numbers : (Nat → Int64)) (v_counts : (Nat → Int32)) (v_size : Int32) (v_lightestPlaces : (Nat → Int32)) (v_lightestCount : Int32) (v_toldPlaces : (Nat → Int32)) (v_placeCount : Int32) (v_ways : (Nat → Int32)) (v_wayCount : Int32) (v_usable : (Nat → Int32)) (v_upTo : (Nat → Int64))   (x1 : Int32) (x2 : Int64) (x4 : Int32) (x5 : Int64) (x7 : Int32) (n : Nat) (res : Int64) (hm : M_X11_joined n x1 x2 x4 x5 x7 v_ro v_sumCount = some res) : Met l yX11_joined wsX11_joined rmX11_joined (va_Pc [.ref (q 0), .int x1, .long x2, .int x4, .long x5, .int x7] (PreW G cs sz (ww_C q cs v_ro v_sumCount v_told v_toldCount v_row v_rowLength v_asked v_rising v_falling v_turned v_totals v_before v_after v_keptBytes v_syndromes v_places v_firstEntry v_nextEntry v_numbers v_counts v_size v_lightestPlaces v_lightestCount v_toldPlaces v_placeCount v_ways v_wayCount v_usable v_upTo) v_ro)) (QL G res (ww_C q cs v_ro v_sumCount v_told v_toldCount v_row v_rowLength v_asked v_rising v_falling v_turned v_totals v_before v_after v_keptBytes v_syndromes v_places v_firstEntry v_nextEntry v_numbers v_counts v_size v_lightestPlaces v_lightestCount v_toldPlaces v_placeCount v_ways v_wayCount v_usable v_upTo) (va_A (ww_C q cs v_ro v_sumCount v_told v_toldCount v_row v_rowLength v_asked v_rising v_falling v_turned v_totals v_before v_after v_keptBytes v_syndromes v_places v_firstEntry v_nextEntry v_numbers v_counts v_size v_lightestPlaces v_lightestCount v_toldPlaces v_placeCount v_ways v_wayCount v_usable v_upTo) sz)) 0 0 (va_A (ww_C q cs v_ro v_sumCount v_told v_toldCount v_row v_rowLength v_asked v_rising v_falling v_turned v_totals v_before v_after v_keptBytes v_syndromes v_places v_firstEntry v_nextEntry v_numbers v_counts v_size v_lightestPlaces v_lightestCount v_toldPlaces v_placeCount v_ways v_wayCount v_usable v_upTo) sz) := by
  refine k_enter (Qf := fun A => QL G res (ww_C q cs v_ro v_sumCount v_told v_toldCount v_row v_rowLength v_asked v_rising v_falling v_turned v_totals v_before v_after v_keptBytes v_syndromes v_places v_firstEntry v_nextEntry v_numbers v_counts v_size v_lightestPlaces v_lightestCount v_toldPlaces v_placeCount v_ways v_wayCount v_usable v_upTo) A) (cc := cX11_joined) (maxL := 10) (ret := (some .long)) (plainFor_of_name (by decide)) rfl (Nat.le_of_ble_eq_true rfl) ?_
  intro p e s m args below meth c A Q ls H locs hx hb hr hml hown hts hlocks hname hK hA hRo hP hD hS hQ hl
  have hl : lv_has ls 10 [(0, .ref (q 0)), (1, .int x1), (2, .long x2), (4, .int x4), (5, .long x5), (7, .int x7)] := hl
  have wd1 := hts (.constantLong RX11 130 (-2)) (List.mem_of_getElem? (i := 1) rfl)
  have wd2 := hts (.classLink RX11 136 "SumSmith$Linear") (List.mem_of_getElem? (i := 2) rfl)
  have wd4 := hts (.constantLong RX11 144 (-3)) (List.mem_of_getElem? (i := 4) rfl)
  have wd5 := hts (.constantLong RX11 157 (-5)) (List.mem_of_getElem? (i := 5) rfl)
  have wd3 := hts (.constantLong RX11 138 (-4)) (List.mem_of_getElem? (i := 3) rfl)
  unfold M_X11_joined at hm
  refine lv_aload_n hx hb dX11_joined_0 rfl (lv_at hl 0 rfl) ?_
  refine lv_iload_n hx hb dX11_joined_1 rfl (lv_at hl 1 rfl) ?_
  obtain ⟨r1, hc_r1, hm⟩ := bs hm
  refine k_callq (va_runV (As := [.int x1]) (rest := []) ⟨hx, hb, hml, hown, hts⟩ (c_X11_sumAt l G cs q H.size v_ro v_sumCount v_told v_toldCount v_row v_rowLength v_asked v_rising v_falling v_turned v_totals v_before v_after v_keptBytes v_syndromes v_places v_firstEntry v_nextEntry v_numbers v_counts v_size v_lightestPlaces v_lightestCount v_toldPlaces v_placeCount v_ways v_wayCount v_usable v_upTo x1 r1 hc_r1) (cwV 1 hts gX11_joined_X11_sumAt rfl rfl rfl ⟨rfl, hd_X11_sumAt⟩ ⟨Nat.le_of_ble_eq_true rfl, Nat.le_of_ble_eq_true rfl⟩) ⟨pre_blind, va_recv hK.1 hP (ci := 9) (q0 := 0) rfl rfl, pre_w hK (RO.at hS hRo) hP hD (va_all hD hS hA)⟩ rfl rfl hl.1 rfl (lv_room (Nat.le_of_ble_eq_true rfl)) dX11_joined_2 ⟨Nat.zero_le _, Nat.zero_le _⟩) hS (va_all hD hS hA) (fun H locs hP hD hS => ?_)
  have hP : va_P G vwCl (ww_C q cs v_ro v_sumCount v_told v_toldCount v_row v_rowLength v_asked v_rising v_falling v_turned v_totals v_before v_after v_keptBytes v_syndromes v_places v_firstEntry v_nextEntry v_numbers v_counts v_size v_lightestPlaces v_lightestCount v_toldPlaces v_placeCount v_ways v_wayCount v_usable v_upTo) H := hP
  have hD : va_D A (ww_C q cs v_ro v_sumCount v_told v_toldCount v_row v_rowLength v_asked v_rising v_falling v_turned v_totals v_before v_after v_keptBytes v_syndromes v_places v_firstEntry v_nextEntry v_numbers v_counts v_size v_lightestPlaces v_lightestCount v_toldPlaces v_placeCount v_ways v_wayCount v_usable v_upTo) := hD
  cases r1 with
  | none =>
    have hm := oe_n hm
    refine lv_astoreN (lv' := [(8, .null), (0, .ref (q 0)), (1, .int x1), (2, .long x2), (4, .int x4), (5, .long x5), (7, .int x7)]) hx hb dX11_joined_5 hl (by decide) rfl (fun ls hl => ?_)
    refine lv_aloadN hx hb dX11_joined_7 (lv_at hl 0 rfl) ?_
    refine lv_ifnonnullN hx hb dX11_joined_9 ?_
    refine lv_ldc2 (own := RX11) (v := (-2)) hx hb hown wd1 dX11_joined_12 ?_
    have hq := Option.some.inj hm
    subst hq; subst hQ
    exact k_lret hx hb hr hlocks hP hD hS rfl dX11_joined_15
  | some y1 =>
    have hm := oe_s hm
    obtain ⟨j1, hj1⟩ := sumAt_ro hc_r1
    obtain ⟨hv1, hm⟩ := g_pos hm
    refine lv_astore (lv' := [(8, .ref y1.1), (0, .ref (q 0)), (1, .int x1), (2, .long x2), (4, .int x4), (5, .long x5), (7, .int x7)]) hx hb dX11_joined_5 hl (by decide) rfl (fun ls hl => ?_)
    refine lv_aload hx hb dX11_joined_7 (lv_at hl 0 rfl) ?_
    refine lv_ifnonnull (tgt := 16) hx hb dX11_joined_9 (by decide) ?_
    refine lv_aload hx hb dX11_joined_16 (lv_at hl 0 rfl) ?_
    by_cases b2 : (y1.2.2.1 = 8 ∨ y1.2.2.1 = 7 ∨ y1.2.2.1 = 6 ∨ y1.2.2.1 = 1)
    · have hm := i_t b2 hm
      refine inst_L (own := RX11) hx hb hown wd2 hK (RO.at hS hRo j1 _ hj1).1 b2 dX11_joined_18 ?_
      refine lv_if_eq (tgt := 34) hx hb dX11_joined_21 (by decide) (fun b9 => absurd b9 (by decide)) (fun b9 => ?_)
      refine lv_aload hx hb dX11_joined_24 (lv_at hl 0 rfl) ?_
      refine cast_L (own := RX11) hx hb hown wd2 hK (RO.at hS hRo j1 _ hj1).1 b2 dX11_joined_26 ?_
      refine lv_astore (lv' := [(9, .ref y1.1), (8, .ref y1.1), (0, .ref (q 0)), (1, .int x1), (2, .long x2), (4, .int x4), (5, .long x5), (7, .int x7)]) hx hb dX11_joined_29 hl (by decide) rfl (fun ls hl => ?_)
      refine lv_goto (tgt := 38) hx hb dX11_joined_31 (by decide) ?_
      refine lv_aload hx hb dX11_joined_38 (lv_at hl 0 rfl) ?_
      refine lv_lload_n hx hb dX11_joined_40 rfl (lv_at hl 4 rfl) ?_
      obtain ⟨r3, hc_r3, hm⟩ := bs hm
      refine v_X11_joined_holds (j := j1) (sa := y1.1) (sw := y1.2.1) (sd := y1.2.2) hx hb hml hown hts hK hA hRo hj1 hP hS hl.1 (Nat.le_of_ble_eq_true rfl) dX11_joined_41 hc_r3 (fun hE4 H locs hP hS => ?_)
      refine lv_if_eq (tgt := 81) hx hb dX11_joined_44 (by decide) (fun b5 => ?_) (fun b5 => ?_)
      · have hm := i_t b5 hm
        refine lv_ldc2 (own := RX11) (v := (-3)) hx hb hown wd4 dX11_joined_81 ?_
        have hq := Option.some.inj hm
        subst hq; subst hQ
        exact k_lret hx hb hr hlocks hP hD hS rfl dX11_joined_84
      · have hm := i_f b5 hm
        refine lv_aload hx hb dX11_joined_47 (lv_at hl 0 rfl) ?_
        refine lv_lload hx hb dX11_joined_49 (lv_at hl 6 rfl) ?_
        obtain ⟨r6, hc_r6, hm⟩ := bs hm
        refine v_X11_joined_holds (j := j1) (sa := y1.1) (sw := y1.2.1) (sd := y1.2.2) hx hb hml hown hts hK hA hRo hj1 hP hS hl.1 (Nat.le_of_ble_eq_true rfl) dX11_joined_51 hc_r6 (fun hE7 H locs hP hS => ?_)
        refine lv_if_eq (tgt := 81) hx hb dX11_joined_54 (by decide) (fun b8 => ?_) (fun b8 => ?_)
        · have hm := i_t b8 hm
          refine lv_ldc2 (own := RX11) (v := (-3)) hx hb hown wd4 dX11_joined_81 ?_
          have hq := Option.some.inj hm
          subst hq; subst hQ
          exact k_lret hx hb hr hlocks hP hD hS rfl dX11_joined_84
        · have hm := i_f b8 hm
          refine lv_iload hx hb dX11_joined_57 (lv_at hl 5 rfl) ?_
          refine lv_iconst (v := 0) hx hb dX11_joined_59 (by decide) ?_
          refine lv_sipush (v := 1000) hx hb dX11_joined_60 (by decide) ?_
          refine k_calli0 (va_runS (As := [.int x4, .int 0, .int 1000]) (rest := []) ⟨hx, hb, hml, hown, hts⟩ (c_X11_within l G cs H.size    x4 (0 : Int32) (1000 : Int32) _ rfl) (va_cwS 3 hts gX11_joined_X11_within rfl rfl rfl hd_X11_within ⟨Nat.le_of_ble_eq_true rfl, Nat.le_of_ble_eq_true rfl⟩) ⟨pre_blind, pre_w hK RO.nil P0 D0 (va_new0 hS hA)⟩ rfl rfl hl.1 rfl (lv_room (Nat.le_of_ble_eq_true rfl)) dX11_joined_63 ⟨Nat.zero_le _, Nat.zero_le _⟩) hP hS hA (fun hE9 H locs hP hS => ?_)
          refine lv_if_eq (tgt := 81) hx hb dX11_joined_66 (by decide) (fun b10 => ?_) (fun b10 => ?_)
          · have hm := i_t b10 hm
            refine lv_ldc2 (own := RX11) (v := (-3)) hx hb hown wd4 dX11_joined_81 ?_
            have hq := Option.some.inj hm
            subst hq; subst hQ
            exact k_lret hx hb hr hlocks hP hD hS rfl dX11_joined_84
          · have hm := i_f b10 hm
            refine lv_iload hx hb dX11_joined_69 (lv_at hl 7 rfl) ?_
            refine lv_iconst (v := 0) hx hb dX11_joined_71 (by decide) ?_
            refine lv_sipush (v := 1000) hx hb dX11_joined_72 (by decide) ?_
            refine k_calli0 (va_runS (As := [.int x7, .int 0, .int 1000]) (rest := []) ⟨hx, hb, hml, hown, hts⟩ (c_X11_within l G cs H.size    x7 (0 : Int32) (1000 : Int32) _ rfl) (va_cwS 3 hts gX11_joined_X11_within rfl rfl rfl hd_X11_within ⟨Nat.le_of_ble_eq_true rfl, Nat.le_of_ble_eq_true rfl⟩) ⟨pre_blind, pre_w hK RO.nil P0 D0 (va_new0 hS hA)⟩ rfl rfl hl.1 rfl (lv_room (Nat.le_of_ble_eq_true rfl)) dX11_joined_75 ⟨Nat.zero_le _, Nat.zero_le _⟩) hP hS hA (fun hE11 H locs hP hS => ?_)
            refine lv_if_ne (tgt := 85) hx hb dX11_joined_78 (by decide) (fun b12 => ?_) (fun b12 => ?_)
            · have hm := i_f b12 hm
              refine lv_aload hx hb dX11_joined_85 (lv_at hl 0 rfl) ?_
              refine lv_iload hx hb dX11_joined_87 (lv_at hl 5 rfl) ?_
              obtain ⟨r13, hc_r13, hm⟩ := bs hm
              refine v_X11_joined_canJoinBehind (j := j1) (sa := y1.1) (sw := y1.2.1) (sd := y1.2.2) hx hb hml hown hts hK hA hRo hj1 hP hS hl.1 (Nat.le_of_ble_eq_true rfl) dX11_joined_89 hc_r13 (fun hE14 H locs hP hS => ?_)
              refine lv_if_eq (tgt := 113) hx hb dX11_joined_92 (by decide) (fun b15 => ?_) (fun b15 => ?_)
              · have hm := i_t b15 hm
                refine lv_ldc2 (own := RX11) (v := (-5)) hx hb hown wd5 dX11_joined_113 ?_
                have hq := Option.some.inj hm
                subst hq; subst hQ
                exact k_lret hx hb hr hlocks hP hD hS rfl dX11_joined_116
              · have hm := i_f b15 hm
                refine lv_aload hx hb dX11_joined_95 (lv_at hl 0 rfl) ?_
                refine lv_lload hx hb dX11_joined_97 (lv_at hl 6 rfl) ?_
                refine lv_aload hx hb dX11_joined_99 (lv_at hl 0 rfl) ?_
                refine lv_lload_n hx hb dX11_joined_101 rfl (lv_at hl 4 rfl) ?_
                refine lv_iload hx hb dX11_joined_102 (lv_at hl 7 rfl) ?_
                obtain ⟨r16, hc_r16, hm⟩ := bs hm
                refine v_X11_joined_carried (j := j1) (sa := y1.1) (sw := y1.2.1) (sd := y1.2.2) (n := n) hx hb hml hown hts hK hA hRo hj1 hP hS hl.1 (Nat.le_of_ble_eq_true rfl) dX11_joined_104 hc_r16 (fun H locs hP hS => ?_)
                obtain ⟨r17, hc_r17, hm⟩ := bs hm
                refine v_X11_joined_merged (j := j1) (sa := y1.1) (sw := y1.2.1) (sd := y1.2.2) hx hb hml hown hts hK hA hRo hj1 hP hS hl.1 (Nat.le_of_ble_eq_true rfl) dX11_joined_107 hc_r17 (fun H locs hP hS => ?_)
                refine lv_goto (tgt := 116) hx hb dX11_joined_110 (by decide) ?_
                have hq := Option.some.inj hm
                subst hq; subst hQ
                exact k_lret hx hb hr hlocks hP hD hS rfl dX11_joined_116
            · have hm := i_t b12 hm
              refine lv_ldc2 (own := RX11) (v := (-3)) hx hb hown wd4 dX11_joined_81 ?_
              have hq := Option.some.inj hm
              subst hq; subst hQ
              exact k_lret hx hb hr hlocks hP hD hS rfl dX11_joined_84
    · have hm := i_f b2 hm
      have b2n := not_L hv1 b2
      refine instn_L (own := RX11) hx hb hown wd2 hK (RO.at hS hRo j1 _ hj1).1 b2n dX11_joined_18 ?_
      refine lv_if_eq (tgt := 34) hx hb dX11_joined_21 (by decide) (fun b9 => ?_) (fun b9 => absurd (by decide) b9)
      refine lv_ldc2 (own := RX11) (v := (-4)) hx hb hown wd3 dX11_joined_34 ?_
      have hq := Option.some.inj hm
      subst hq; subst hQ
      exact k_lret hx hb hr hlocks hP hD hS rfl dX11_joined_37

theorem hd_X11_other : yX11_other.cls ≠ "java/lang/invoke/MethodHandle" ∧ yX11_other.cls ≠ "java/lang/invoke/VarHandle" ∧ (parseMethodDescriptor yX11_other.desc).map (fun d => d.parameters.length) = some 6 := by decide +kernel

def M_X11_other (n : Nat) (x1 : Int32) (x2 : Int64) (x4 : Int32) (x5 : Int32) (x6 : Int32) (x7 : Int32) (v_ro : RF) (v_sumCount : Int32) : Option Int64 :=
  (M_X11_sumAt x1 v_ro v_sumCount).bind fun r1 => Option.elim r1 (some (-2)) (fun y1 => if y1.2.2.1 = 8 ∨ y1.2.2.1 = 7 ∨ y1.2.2.1 = 6 ∨ y1.2.2.1 = 1 ∨ y1.2.2.1 = 4 then (if (y1.2.2.1 = 8 ∨ y1.2.2.1 = 7 ∨ y1.2.2.1 = 6 ∨ y1.2.2.1 = 1) then ((V_holds y1.2.2 x2).bind fun r3 => if r3 = 0 then (some (-3)) else (if (M_X11_within x4 (1 : Int32) (1000 : Int32)) = 0 then (some (-3)) else (if (M_X11_within x5 (0 : Int32) (x4 - 1)) = 0 then (some (-3)) else (if (M_X11_isByte x6) = 0 then (some (-3)) else (if (M_X11_isByte x7) = 0 then (some (-3)) else ((V_changed n y1.2.2 x4 x5 x6 x7).bind fun r14 => (V_merged y1.2.2 x2 r14).bind fun r15 => some r15)))))) else (some (-4))) else none)

abbrev rmX11_other : Room := { frames := 4, cells := 0, slots := 0, locals := 98 }
set_option maxHeartbeats 4000000 in
set_option maxRecDepth 100000 in
theorem v_X11_other_holds {p : Program} {l : Launch} {e : Env} {s : State} {m : MethodId} {args : Array Value} {below : List Frame} {meth : Method} {c : Code} {H : Heap} {locs : List Loc} {pc : Nat} {Q : State → Prop} {G : va_G} {cs : CS} {A : Nat → Prop} {ws : va_W} {ls : Array Slot} {rest : List Value} {ro : RF} {j sa sw : Nat} {sd : SD} (hx : p.tables.exec = Jvm.exec) (hb : c.code = cX11_other) (hml : c.maxLocals = 10) (hown : s.vm.findClass RX11 = some m.cls) (hts : ∀ w ∈ wsX11_other, w.before args s = true) (hK : KK G cs s) (hA : ∀ q, s.heap.size ≤ q → A q) (hRo : RO G ro A s s.heap) (hj : ro j = some (sa, sw, sd)) (hP : va_P G vwCl ws H) (hS : va_S A s.heap H locs) (hl1 : ls.size = 10) (hrest : (rest.map fun v => v.category).sum ≤ 8) (hdg : decode cX11_other pc = .ok (.invokevirtual 140, 3)) {x1 : Int64} {r : Int32} (hc : V_holds sd x1 = some r) (kk : (r = 0 ∨ r = 1) → ∀ (H1 : Heap) (locs1 : List Loc), va_P G vwCl ws H1 → va_S A s.heap H1 locs1 → W p l e rmX11_other s m args below meth c H1 locs1 0 0 Q (F0 m (pc + 3) ls (.int r :: rest))) : W p l e rmX11_other s m args below meth c H locs 0 0 Q (F0 m pc ls (.long x1 :: .ref sa :: rest)) := by
  obtain ⟨c1, s_k, s_m, s_t, s_p, s_b, s_f, s_l, s_wl, s_wf⟩ := sd
  unfold V_holds at hc
  dsimp only at hc
  by_cases h8 : c1 = 8
  · have hc := i_t h8 hc
    subst h8
    exact k_calli0 (va_runU (As := [.long x1]) (rest := rest) ⟨hx, hb, hml, hown, hts⟩ (c_X10_holds l G cs H.size sa sw s_k s_m s_t s_p s_b s_f s_l s_wl s_wf x1 r (Option.some.inj hc)) (va_cwA 1 hts gX11_other_X10_holds_u140X10 rfl rfl rfl (hK.2.2.2.2.1 _ (List.mem_of_getElem? (i := 1) rfl)) hdv_holds ⟨Nat.le_of_ble_eq_true rfl, Nat.le_of_ble_eq_true rfl⟩) ⟨pre_blind, va_recv hK.1 (RO.at hS hRo j _ hj).1 (ci := 8) (q0 := 0) rfl rfl, pre_w hK (RO.one hj (RO.at hS hRo)) P0 D0 (va_new0 hS hA)⟩ rfl rfl hl1 rfl (lv_room hrest) hdg ⟨Nat.zero_le _, Nat.zero_le _⟩) hP hS hA (fun hE => kk hE)
  have hc := i_f h8 hc
  by_cases h7 : c1 = 7
  · have hc := i_t h7 hc
    subst h7
    exact k_calli0 (va_runU (As := [.long x1]) (rest := rest) ⟨hx, hb, hml, hown, hts⟩ (c_X9_holds l G cs H.size sa sw s_k s_m s_t s_p s_b s_f s_l s_wl s_wf x1 r (Option.some.inj hc)) (va_cwA 1 hts gX11_other_X9_holds_u140X9 rfl rfl rfl (hK.2.2.2.2.1 _ (List.mem_of_getElem? (i := 1) rfl)) hdv_holds ⟨Nat.le_of_ble_eq_true rfl, Nat.le_of_ble_eq_true rfl⟩) ⟨pre_blind, va_recv hK.1 (RO.at hS hRo j _ hj).1 (ci := 7) (q0 := 0) rfl rfl, pre_w hK (RO.one hj (RO.at hS hRo)) P0 D0 (va_new0 hS hA)⟩ rfl rfl hl1 rfl (lv_room hrest) hdg ⟨Nat.zero_le _, Nat.zero_le _⟩) hP hS hA (fun hE => kk hE)
  have hc := i_f h7 hc
  by_cases h6 : c1 = 6
  · have hc := i_t h6 hc
    subst h6
    exact k_calli0 (va_runU (As := [.long x1]) (rest := rest) ⟨hx, hb, hml, hown, hts⟩ (c_X8_holds l G cs H.size sa sw s_k s_m s_t s_p s_b s_f s_l s_wl s_wf x1 r (Option.some.inj hc)) (va_cwA 1 hts gX11_other_X8_holds_u140X8 rfl rfl rfl (hK.2.2.2.2.1 _ (List.mem_of_getElem? (i := 1) rfl)) hdv_holds ⟨Nat.le_of_ble_eq_true rfl, Nat.le_of_ble_eq_true rfl⟩) ⟨pre_blind, va_recv hK.1 (RO.at hS hRo j _ hj).1 (ci := 6) (q0 := 0) rfl rfl, pre_w hK (RO.one hj (RO.at hS hRo)) P0 D0 (va_new0 hS hA)⟩ rfl rfl hl1 rfl (lv_room hrest) hdg ⟨Nat.zero_le _, Nat.zero_le _⟩) hP hS hA (fun hE => kk hE)
  have hc := i_f h6 hc
  by_cases h1 : c1 = 1
  · have hc := i_t h1 hc
    subst h1
    exact k_calli0 (va_runU (As := [.long x1]) (rest := rest) ⟨hx, hb, hml, hown, hts⟩ (c_X1_holds l G cs H.size sa sw s_k s_m s_t s_p s_b s_f s_l s_wl s_wf x1 r (Option.some.inj hc)) (va_cwA 1 hts gX11_other_X1_holds_u140X1 rfl rfl rfl (hK.2.2.2.2.1 _ (List.mem_of_getElem? (i := 1) rfl)) hdv_holds ⟨Nat.le_of_ble_eq_true rfl, Nat.le_of_ble_eq_true rfl⟩) ⟨pre_blind, va_recv hK.1 (RO.at hS hRo j _ hj).1 (ci := 1) (q0 := 0) rfl rfl, pre_w hK (RO.one hj (RO.at hS hRo)) P0 D0 (va_new0 hS hA)⟩ rfl rfl hl1 rfl (lv_room hrest) hdg ⟨Nat.zero_le _, Nat.zero_le _⟩) hP hS hA (fun hE => kk hE)
  have hc := i_f h1 hc
  cases hc
set_option maxHeartbeats 4000000 in
set_option maxRecDepth 100000 in
theorem v_X11_other_changed {p : Program} {l : Launch} {e : Env} {s : State} {m : MethodId} {args : Array Value} {below : List Frame} {meth : Method} {c : Code} {H : Heap} {locs : List Loc} {pc : Nat} {Q : State → Prop} {G : va_G} {cs : CS} {A : Nat → Prop} {ws : va_W} {ls : Array Slot} {rest : List Value} {ro : RF} {j sa sw : Nat} {sd : SD} {n : Nat} (hx : p.tables.exec = Jvm.exec) (hb : c.code = cX11_other) (hml : c.maxLocals = 10) (hown : s.vm.findClass RX11 = some m.cls) (hts : ∀ w ∈ wsX11_other, w.before args s = true) (hK : KK G cs s) (hA : ∀ q, s.heap.size ≤ q → A q) (hRo : RO G ro A s s.heap) (hj : ro j = some (sa, sw, sd)) (hP : va_P G vwCl ws H) (hS : va_S A s.heap H locs) (hl1 : ls.size = 10) (hrest : (rest.map fun v => v.category).sum ≤ 8) (hdg : decode cX11_other pc = .ok (.invokevirtual 159, 3)) {x1 : Int32}  {x2 : Int32}  {x3 : Int32}  {x4 : Int32} {r : Int64} (hc : V_changed n sd x1 x2 x3 x4 = some r) (kk : ∀ (H1 : Heap) (locs1 : List Loc), va_P G vwCl ws H1 → va_S A s.heap H1 locs1 → W p l e rmX11_other s m args below meth c H1 locs1 0 0 Q (F0 m (pc + 3) ls (.long r :: rest))) : W p l e rmX11_other s m args below meth c H locs 0 0 Q (F0 m pc ls (.int x4 :: .int x3 :: .int x2 :: .int x1 :: .ref sa :: rest)) := by
  obtain ⟨c1, s_k, s_m, s_t, s_p, s_b, s_f, s_l, s_wl, s_wf⟩ := sd
  unfold V_changed at hc
  dsimp only at hc
  by_cases h8 : c1 = 8
  · have hc := i_t h8 hc
    subst h8
    exact k_calll0 (va_runU (As := [.int x1, .int x2, .int x3, .int x4]) (rest := rest) ⟨hx, hb, hml, hown, hts⟩ (c_X10_changed l G cs H.size sa sw s_k s_m s_t s_p s_b s_f s_l s_wl s_wf x1 x2 x3 x4 r hc) (va_cwA 4 hts gX11_other_X10_changed_u159X10 rfl rfl rfl (hK.2.2.2.2.1 _ (List.mem_of_getElem? (i := 4) rfl)) hdv_changed ⟨Nat.le_of_ble_eq_true rfl, Nat.le_of_ble_eq_true rfl⟩) ⟨pre_blind, va_recv hK.1 (RO.at hS hRo j _ hj).1 (ci := 8) (q0 := 0) rfl rfl, pre_w hK (RO.one hj (RO.at hS hRo)) P0 D0 (va_new0 hS hA)⟩ rfl rfl hl1 rfl (lv_room hrest) hdg ⟨Nat.zero_le _, Nat.zero_le _⟩) hP hS hA kk
  have hc := i_f h8 hc
  by_cases h7 : c1 = 7
  · have hc := i_t h7 hc
    subst h7
    exact k_calll0 (va_runU (As := [.int x1, .int x2, .int x3, .int x4]) (rest := rest) ⟨hx, hb, hml, hown, hts⟩ (c_X9_changed l G cs H.size sa sw s_k s_m s_t s_p s_b s_f s_l s_wl s_wf x1 x2 x3 x4 r hc) (va_cwA 4 hts gX11_other_X9_changed_u159X9 rfl rfl rfl (hK.2.2.2.2.1 _ (List.mem_of_getElem? (i := 4) rfl)) hdv_changed ⟨Nat.le_of_ble_eq_true rfl, Nat.le_of_ble_eq_true rfl⟩) ⟨pre_blind, va_recv hK.1 (RO.at hS hRo j _ hj).1 (ci := 7) (q0 := 0) rfl rfl, pre_w hK (RO.one hj (RO.at hS hRo)) P0 D0 (va_new0 hS hA)⟩ rfl rfl hl1 rfl (lv_room hrest) hdg ⟨Nat.zero_le _, Nat.zero_le _⟩) hP hS hA kk
  have hc := i_f h7 hc
  by_cases h6 : c1 = 6
  · have hc := i_t h6 hc
    subst h6
    exact k_calll0 (va_runU (As := [.int x1, .int x2, .int x3, .int x4]) (rest := rest) ⟨hx, hb, hml, hown, hts⟩ (c_X8_changed l G cs H.size sa sw s_k s_m s_t s_p s_b s_f s_l s_wl s_wf x1 x2 x3 x4 r hc) (va_cwA 4 hts gX11_other_X8_changed_u159X8 rfl rfl rfl (hK.2.2.2.2.1 _ (List.mem_of_getElem? (i := 4) rfl)) hdv_changed ⟨Nat.le_of_ble_eq_true rfl, Nat.le_of_ble_eq_true rfl⟩) ⟨pre_blind, va_recv hK.1 (RO.at hS hRo j _ hj).1 (ci := 6) (q0 := 0) rfl rfl, pre_w hK (RO.one hj (RO.at hS hRo)) P0 D0 (va_new0 hS hA)⟩ rfl rfl hl1 rfl (lv_room hrest) hdg ⟨Nat.zero_le _, Nat.zero_le _⟩) hP hS hA kk
  have hc := i_f h6 hc
  by_cases h1 : c1 = 1
  · have hc := i_t h1 hc
    subst h1
    exact k_calll0 (va_runU (As := [.int x1, .int x2, .int x3, .int x4]) (rest := rest) ⟨hx, hb, hml, hown, hts⟩ (c_X1_changed l G cs H.size sa sw s_k s_m s_t s_p s_b s_f s_l s_wl s_wf x1 x2 x3 x4 n r hc) (va_cwA 4 hts gX11_other_X1_changed_u159X1 rfl rfl rfl (hK.2.2.2.2.1 _ (List.mem_of_getElem? (i := 4) rfl)) hdv_changed ⟨Nat.le_of_ble_eq_true rfl, Nat.le_of_ble_eq_true rfl⟩) ⟨pre_blind, va_recv hK.1 (RO.at hS hRo j _ hj).1 (ci := 1) (q0 := 0) rfl rfl, pre_w hK (RO.one hj (RO.at hS hRo)) P0 D0 (va_new0 hS hA)⟩ rfl rfl hl1 rfl (lv_room hrest) hdg ⟨Nat.zero_le _, Nat.zero_le _⟩) hP hS hA kk
  have hc := i_f h1 hc
  cases hc
set_option maxHeartbeats 4000000 in
set_option maxRecDepth 100000 in
theorem v_X11_other_merged {p : Program} {l : Launch} {e : Env} {s : State} {m : MethodId} {args : Array Value} {below : List Frame} {meth : Method} {c : Code} {H : Heap} {locs : List Loc} {pc : Nat} {Q : State → Prop} {G : va_G} {cs : CS} {A : Nat → Prop} {ws : va_W} {ls : Array Slot} {rest : List Value} {ro : RF} {j sa sw : Nat} {sd : SD} (hx : p.tables.exec = Jvm.exec) (hb : c.code = cX11_other) (hml : c.maxLocals = 10) (hown : s.vm.findClass RX11 = some m.cls) (hts : ∀ w ∈ wsX11_other, w.before args s = true) (hK : KK G cs s) (hA : ∀ q, s.heap.size ≤ q → A q) (hRo : RO G ro A s s.heap) (hj : ro j = some (sa, sw, sd)) (hP : va_P G vwCl ws H) (hS : va_S A s.heap H locs) (hl1 : ls.size = 10) (hrest : (rest.map fun v => v.category).sum ≤ 8) (hdg : decode cX11_other pc = .ok (.invokevirtual 153, 3)) {x1 : Int64}  {x3 : Int64} {r : Int64} (hc : V_merged sd x1 x3 = some r) (kk : ∀ (H1 : Heap) (locs1 : List Loc), va_P G vwCl ws H1 → va_S A s.heap H1 locs1 → W p l e rmX11_other s m args below meth c H1 locs1 0 0 Q (F0 m (pc + 3) ls (.long r :: rest))) : W p l e rmX11_other s m args below meth c H locs 0 0 Q (F0 m pc ls (.long x3 :: .long x1 :: .ref sa :: rest)) := by
  obtain ⟨c1, s_k, s_m, s_t, s_p, s_b, s_f, s_l, s_wl, s_wf⟩ := sd
  unfold V_merged at hc
  dsimp only at hc
  by_cases h8 : c1 = 8
  · have hc := i_t h8 hc
    subst h8
    exact k_calll0 (va_runU (As := [.long x1, .long x3]) (rest := rest) ⟨hx, hb, hml, hown, hts⟩ (c_X10_merged l G cs H.size sa sw s_k s_m s_t s_p s_b s_f s_l s_wl s_wf x1 x3 r hc) (va_cwA 2 hts gX11_other_X10_merged_u153X10 rfl rfl rfl (hK.2.2.2.2.1 _ (List.mem_of_getElem? (i := 3) rfl)) hdv_merged ⟨Nat.le_of_ble_eq_true rfl, Nat.le_of_ble_eq_true rfl⟩) ⟨pre_blind, va_recv hK.1 (RO.at hS hRo j _ hj).1 (ci := 8) (q0 := 0) rfl rfl, pre_w hK (RO.one hj (RO.at hS hRo)) P0 D0 (va_new0 hS hA)⟩ rfl rfl hl1 rfl (lv_room hrest) hdg ⟨Nat.zero_le _, Nat.zero_le _⟩) hP hS hA kk
  have hc := i_f h8 hc
  by_cases h7 : c1 = 7
  · have hc := i_t h7 hc
    subst h7
    exact k_calll0 (va_runU (As := [.long x1, .long x3]) (rest := rest) ⟨hx, hb, hml, hown, hts⟩ (c_X9_merged l G cs H.size sa sw s_k s_m s_t s_p s_b s_f s_l s_wl s_wf x1 x3 r hc) (va_cwA 2 hts gX11_other_X9_merged_u153X9 rfl rfl rfl (hK.2.2.2.2.1 _ (List.mem_of_getElem? (i := 3) rfl)) hdv_merged ⟨Nat.le_of_ble_eq_true rfl, Nat.le_of_ble_eq_true rfl⟩) ⟨pre_blind, va_recv hK.1 (RO.at hS hRo j _ hj).1 (ci := 7) (q0 := 0) rfl rfl, pre_w hK (RO.one hj (RO.at hS hRo)) P0 D0 (va_new0 hS hA)⟩ rfl rfl hl1 rfl (lv_room hrest) hdg ⟨Nat.zero_le _, Nat.zero_le _⟩) hP hS hA kk
  have hc := i_f h7 hc
  by_cases h6 : c1 = 6
  · have hc := i_t h6 hc
    subst h6
    exact k_calll0 (va_runU (As := [.long x1, .long x3]) (rest := rest) ⟨hx, hb, hml, hown, hts⟩ (c_X8_merged l G cs H.size sa sw s_k s_m s_t s_p s_b s_f s_l s_wl s_wf x1 x3 r (Option.some.inj hc)) (va_cwA 2 hts gX11_other_X8_merged_u153X8 rfl rfl rfl (hK.2.2.2.2.1 _ (List.mem_of_getElem? (i := 3) rfl)) hdv_merged ⟨Nat.le_of_ble_eq_true rfl, Nat.le_of_ble_eq_true rfl⟩) ⟨pre_blind, va_recv hK.1 (RO.at hS hRo j _ hj).1 (ci := 6) (q0 := 0) rfl rfl, pre_w hK (RO.one hj (RO.at hS hRo)) P0 D0 (va_new0 hS hA)⟩ rfl rfl hl1 rfl (lv_room hrest) hdg ⟨Nat.zero_le _, Nat.zero_le _⟩) hP hS hA kk
  have hc := i_f h6 hc
  by_cases h1 : c1 = 1
  · have hc := i_t h1 hc
    subst h1
    exact k_calll0 (va_runU (As := [.long x1, .long x3]) (rest := rest) ⟨hx, hb, hml, hown, hts⟩ (c_X1_merged l G cs H.size sa sw s_k s_m s_t s_p s_b s_f s_l s_wl s_wf x1 x3 r (Option.some.inj hc)) (va_cwA 2 hts gX11_other_X1_merged_u153X1 rfl rfl rfl (hK.2.2.2.2.1 _ (List.mem_of_getElem? (i := 3) rfl)) hdv_merged ⟨Nat.le_of_ble_eq_true rfl, Nat.le_of_ble_eq_true rfl⟩) ⟨pre_blind, va_recv hK.1 (RO.at hS hRo j _ hj).1 (ci := 1) (q0 := 0) rfl rfl, pre_w hK (RO.one hj (RO.at hS hRo)) P0 D0 (va_new0 hS hA)⟩ rfl rfl hl1 rfl (lv_room hrest) hdg ⟨Nat.zero_le _, Nat.zero_le _⟩) hP hS hA kk
  have hc := i_f h1 hc
  cases hc
set_option maxHeartbeats 4000000 in
set_option maxRecDepth 100000 in
theorem c_X11_other (l : Launch) (G : va_G) (cs : CS) (q : Nat → Nat) (sz : Nat) (v_ro : RF) (v_sumCount : Int32) (v_told : (Nat → Int32)) (v_toldCount : Int32) (v_row : (Nat → Int32)) (v_rowLength : Int32) (v_asked : (Nat → Int32)) (v_rising : (Nat → Int64)) (v_falling : (Nat → Int64)) (v_turned : (Nat → Int32)) (v_totals : (Nat → Int64)) (v_before : (Nat → Int32)) (v_after : (Nat → Int32)) (v_keptBytes : Int32) (v_syndromes : (Nat → Int64)) (v_places : Int32) (v_firstEntry : (Nat → Int32)) (v_nextEntry : (Nat → Int32)) (v_numbers : (Nat → Int64)) (v_counts : (Nat → Int32)) (v_size : Int32) (v_lightestPlaces : (Nat → Int32)) (v_lightestCount : Int32) (v_toldPlaces : (Nat → Int32)) (v_placeCount : Int32) (v_ways : (Nat → Int32)) (v_wayCount : Int32) (v_usable : (Nat → Int32)) (v_upTo : (Nat → Int64))   (x1 : Int32) (x2 : Int64) (x4 : Int32) (x5 : Int32) (x6 : Int32) (x7 : Int32) (n : Nat) (res : Int64) (hm : M_X11_other n x1 x2 x4 x5 x6 x7 v_ro v_sumCount = some res) : Met l yX11_other wsX11_other rmX11_other (va_Pc [.ref (q 0), .int x1, .long x2, .int x4, .int x5, .int x6, .int x7] (PreW G cs sz (ww_C q cs v_ro v_sumCount v_told v_toldCount v_row v_rowLength v_asked v_rising v_falling v_turned v_totals v_before v_after v_keptBytes v_syndromes v_places v_firstEntry v_nextEntry v_numbers v_counts v_size v_lightestPlaces v_lightestCount v_toldPlaces v_placeCount v_ways v_wayCount v_usable v_upTo) v_ro)) (QL G res (ww_C q cs v_ro v_sumCount v_told v_toldCount v_row v_rowLength v_asked v_rising v_falling v_turned v_totals v_before v_after v_keptBytes v_syndromes v_places v_firstEntry v_nextEntry v_numbers v_counts v_size v_lightestPlaces v_lightestCount v_toldPlaces v_placeCount v_ways v_wayCount v_usable v_upTo) (va_A (ww_C q cs v_ro v_sumCount v_told v_toldCount v_row v_rowLength v_asked v_rising v_falling v_turned v_totals v_before v_after v_keptBytes v_syndromes v_places v_firstEntry v_nextEntry v_numbers v_counts v_size v_lightestPlaces v_lightestCount v_toldPlaces v_placeCount v_ways v_wayCount v_usable v_upTo) sz)) 0 0 (va_A (ww_C q cs v_ro v_sumCount v_told v_toldCount v_row v_rowLength v_asked v_rising v_falling v_turned v_totals v_before v_after v_keptBytes v_syndromes v_places v_firstEntry v_nextEntry v_numbers v_counts v_size v_lightestPlaces v_lightestCount v_toldPlaces v_placeCount v_ways v_wayCount v_usable v_upTo) sz) := by
  refine k_enter (Qf := fun A => QL G res (ww_C q cs v_ro v_sumCount v_told v_toldCount v_row v_rowLength v_asked v_rising v_falling v_turned v_totals v_before v_after v_keptBytes v_syndromes v_places v_firstEntry v_nextEntry v_numbers v_counts v_size v_lightestPlaces v_lightestCount v_toldPlaces v_placeCount v_ways v_wayCount v_usable v_upTo) A) (cc := cX11_other) (maxL := 10) (ret := (some .long)) (plainFor_of_name (by decide)) rfl (Nat.le_of_ble_eq_true rfl) ?_
  intro p e s m args below meth c A Q ls H locs hx hb hr hml hown hts hlocks hname hK hA hRo hP hD hS hQ hl
  have hl : lv_has ls 10 [(0, .ref (q 0)), (1, .int x1), (2, .long x2), (4, .int x4), (5, .int x5), (6, .int x6), (7, .int x7)] := hl
  have wd1 := hts (.constantLong RX11 130 (-2)) (List.mem_of_getElem? (i := 1) rfl)
  have wd2 := hts (.classLink RX11 136 "SumSmith$Linear") (List.mem_of_getElem? (i := 2) rfl)
  have wd4 := hts (.constantLong RX11 144 (-3)) (List.mem_of_getElem? (i := 4) rfl)
  have wd3 := hts (.constantLong RX11 138 (-4)) (List.mem_of_getElem? (i := 3) rfl)
  unfold M_X11_other at hm
  refine lv_aload_n hx hb dX11_other_0 rfl (lv_at hl 0 rfl) ?_
  refine lv_iload_n hx hb dX11_other_1 rfl (lv_at hl 1 rfl) ?_
  obtain ⟨r1, hc_r1, hm⟩ := bs hm
  refine k_callq (va_runV (As := [.int x1]) (rest := []) ⟨hx, hb, hml, hown, hts⟩ (c_X11_sumAt l G cs q H.size v_ro v_sumCount v_told v_toldCount v_row v_rowLength v_asked v_rising v_falling v_turned v_totals v_before v_after v_keptBytes v_syndromes v_places v_firstEntry v_nextEntry v_numbers v_counts v_size v_lightestPlaces v_lightestCount v_toldPlaces v_placeCount v_ways v_wayCount v_usable v_upTo x1 r1 hc_r1) (cwV 1 hts gX11_other_X11_sumAt rfl rfl rfl ⟨rfl, hd_X11_sumAt⟩ ⟨Nat.le_of_ble_eq_true rfl, Nat.le_of_ble_eq_true rfl⟩) ⟨pre_blind, va_recv hK.1 hP (ci := 9) (q0 := 0) rfl rfl, pre_w hK (RO.at hS hRo) hP hD (va_all hD hS hA)⟩ rfl rfl hl.1 rfl (lv_room (Nat.le_of_ble_eq_true rfl)) dX11_other_2 ⟨Nat.zero_le _, Nat.zero_le _⟩) hS (va_all hD hS hA) (fun H locs hP hD hS => ?_)
  have hP : va_P G vwCl (ww_C q cs v_ro v_sumCount v_told v_toldCount v_row v_rowLength v_asked v_rising v_falling v_turned v_totals v_before v_after v_keptBytes v_syndromes v_places v_firstEntry v_nextEntry v_numbers v_counts v_size v_lightestPlaces v_lightestCount v_toldPlaces v_placeCount v_ways v_wayCount v_usable v_upTo) H := hP
  have hD : va_D A (ww_C q cs v_ro v_sumCount v_told v_toldCount v_row v_rowLength v_asked v_rising v_falling v_turned v_totals v_before v_after v_keptBytes v_syndromes v_places v_firstEntry v_nextEntry v_numbers v_counts v_size v_lightestPlaces v_lightestCount v_toldPlaces v_placeCount v_ways v_wayCount v_usable v_upTo) := hD
  cases r1 with
  | none =>
    have hm := oe_n hm
    refine lv_astoreN (lv' := [(8, .null), (0, .ref (q 0)), (1, .int x1), (2, .long x2), (4, .int x4), (5, .int x5), (6, .int x6), (7, .int x7)]) hx hb dX11_other_5 hl (by decide) rfl (fun ls hl => ?_)
    refine lv_aloadN hx hb dX11_other_7 (lv_at hl 0 rfl) ?_
    refine lv_ifnonnullN hx hb dX11_other_9 ?_
    refine lv_ldc2 (own := RX11) (v := (-2)) hx hb hown wd1 dX11_other_12 ?_
    have hq := Option.some.inj hm
    subst hq; subst hQ
    exact k_lret hx hb hr hlocks hP hD hS rfl dX11_other_15
  | some y1 =>
    have hm := oe_s hm
    obtain ⟨j1, hj1⟩ := sumAt_ro hc_r1
    obtain ⟨hv1, hm⟩ := g_pos hm
    refine lv_astore (lv' := [(8, .ref y1.1), (0, .ref (q 0)), (1, .int x1), (2, .long x2), (4, .int x4), (5, .int x5), (6, .int x6), (7, .int x7)]) hx hb dX11_other_5 hl (by decide) rfl (fun ls hl => ?_)
    refine lv_aload hx hb dX11_other_7 (lv_at hl 0 rfl) ?_
    refine lv_ifnonnull (tgt := 16) hx hb dX11_other_9 (by decide) ?_
    refine lv_aload hx hb dX11_other_16 (lv_at hl 0 rfl) ?_
    by_cases b2 : (y1.2.2.1 = 8 ∨ y1.2.2.1 = 7 ∨ y1.2.2.1 = 6 ∨ y1.2.2.1 = 1)
    · have hm := i_t b2 hm
      refine inst_L (own := RX11) hx hb hown wd2 hK (RO.at hS hRo j1 _ hj1).1 b2 dX11_other_18 ?_
      refine lv_if_eq (tgt := 34) hx hb dX11_other_21 (by decide) (fun b9 => absurd b9 (by decide)) (fun b9 => ?_)
      refine lv_aload hx hb dX11_other_24 (lv_at hl 0 rfl) ?_
      refine cast_L (own := RX11) hx hb hown wd2 hK (RO.at hS hRo j1 _ hj1).1 b2 dX11_other_26 ?_
      refine lv_astore (lv' := [(9, .ref y1.1), (8, .ref y1.1), (0, .ref (q 0)), (1, .int x1), (2, .long x2), (4, .int x4), (5, .int x5), (6, .int x6), (7, .int x7)]) hx hb dX11_other_29 hl (by decide) rfl (fun ls hl => ?_)
      refine lv_goto (tgt := 38) hx hb dX11_other_31 (by decide) ?_
      refine lv_aload hx hb dX11_other_38 (lv_at hl 0 rfl) ?_
      refine lv_lload_n hx hb dX11_other_40 rfl (lv_at hl 4 rfl) ?_
      obtain ⟨r3, hc_r3, hm⟩ := bs hm
      refine v_X11_other_holds (j := j1) (sa := y1.1) (sw := y1.2.1) (sd := y1.2.2) hx hb hml hown hts hK hA hRo hj1 hP hS hl.1 (Nat.le_of_ble_eq_true rfl) dX11_other_41 hc_r3 (fun hE4 H locs hP hS => ?_)
      refine lv_if_eq (tgt := 88) hx hb dX11_other_44 (by decide) (fun b5 => ?_) (fun b5 => ?_)
      · have hm := i_t b5 hm
        refine lv_ldc2 (own := RX11) (v := (-3)) hx hb hown wd4 dX11_other_88 ?_
        have hq := Option.some.inj hm
        subst hq; subst hQ
        exact k_lret hx hb hr hlocks hP hD hS rfl dX11_other_91
      · have hm := i_f b5 hm
        refine lv_iload hx hb dX11_other_47 (lv_at hl 5 rfl) ?_
        refine lv_iconst (v := 1) hx hb dX11_other_49 (by decide) ?_
        refine lv_sipush (v := 1000) hx hb dX11_other_50 (by decide) ?_
        refine k_calli0 (va_runS (As := [.int x4, .int 1, .int 1000]) (rest := []) ⟨hx, hb, hml, hown, hts⟩ (c_X11_within l G cs H.size    x4 (1 : Int32) (1000 : Int32) _ rfl) (va_cwS 3 hts gX11_other_X11_within rfl rfl rfl hd_X11_within ⟨Nat.le_of_ble_eq_true rfl, Nat.le_of_ble_eq_true rfl⟩) ⟨pre_blind, pre_w hK RO.nil P0 D0 (va_new0 hS hA)⟩ rfl rfl hl.1 rfl (lv_room (Nat.le_of_ble_eq_true rfl)) dX11_other_53 ⟨Nat.zero_le _, Nat.zero_le _⟩) hP hS hA (fun hE6 H locs hP hS => ?_)
        refine lv_if_eq (tgt := 88) hx hb dX11_other_56 (by decide) (fun b7 => ?_) (fun b7 => ?_)
        · have hm := i_t b7 hm
          refine lv_ldc2 (own := RX11) (v := (-3)) hx hb hown wd4 dX11_other_88 ?_
          have hq := Option.some.inj hm
          subst hq; subst hQ
          exact k_lret hx hb hr hlocks hP hD hS rfl dX11_other_91
        · have hm := i_f b7 hm
          refine lv_iload hx hb dX11_other_59 (lv_at hl 6 rfl) ?_
          refine lv_iconst (v := 0) hx hb dX11_other_61 (by decide) ?_
          refine lv_iload hx hb dX11_other_62 (lv_at hl 5 rfl) ?_
          refine lv_iconst (v := 1) hx hb dX11_other_64 (by decide) ?_
          refine lv_isub hx hb dX11_other_65 ?_
          refine k_calli0 (va_runS (As := [.int x5, .int 0, .int (x4 - 1)]) (rest := []) ⟨hx, hb, hml, hown, hts⟩ (c_X11_within l G cs H.size    x5 (0 : Int32) (x4 - 1) _ rfl) (va_cwS 3 hts gX11_other_X11_within rfl rfl rfl hd_X11_within ⟨Nat.le_of_ble_eq_true rfl, Nat.le_of_ble_eq_true rfl⟩) ⟨pre_blind, pre_w hK RO.nil P0 D0 (va_new0 hS hA)⟩ rfl rfl hl.1 rfl (lv_room (Nat.le_of_ble_eq_true rfl)) dX11_other_66 ⟨Nat.zero_le _, Nat.zero_le _⟩) hP hS hA (fun hE8 H locs hP hS => ?_)
          refine lv_if_eq (tgt := 88) hx hb dX11_other_69 (by decide) (fun b9 => ?_) (fun b9 => ?_)
          · have hm := i_t b9 hm
            refine lv_ldc2 (own := RX11) (v := (-3)) hx hb hown wd4 dX11_other_88 ?_
            have hq := Option.some.inj hm
            subst hq; subst hQ
            exact k_lret hx hb hr hlocks hP hD hS rfl dX11_other_91
          · have hm := i_f b9 hm
            refine lv_iload hx hb dX11_other_72 (lv_at hl 7 rfl) ?_
            refine k_calli0 (va_runS (As := [.int x6]) (rest := []) ⟨hx, hb, hml, hown, hts⟩ (c_X11_isByte l G cs H.size    x6 _ rfl) (va_cwS 1 hts gX11_other_X11_isByte rfl rfl rfl hd_X11_isByte ⟨Nat.le_of_ble_eq_true rfl, Nat.le_of_ble_eq_true rfl⟩) ⟨pre_blind, pre_w hK RO.nil P0 D0 (va_new0 hS hA)⟩ rfl rfl hl.1 rfl (lv_room (Nat.le_of_ble_eq_true rfl)) dX11_other_74 ⟨Nat.zero_le _, Nat.zero_le _⟩) hP hS hA (fun hE10 H locs hP hS => ?_)
            refine lv_if_eq (tgt := 88) hx hb dX11_other_77 (by decide) (fun b11 => ?_) (fun b11 => ?_)
            · have hm := i_t b11 hm
              refine lv_ldc2 (own := RX11) (v := (-3)) hx hb hown wd4 dX11_other_88 ?_
              have hq := Option.some.inj hm
              subst hq; subst hQ
              exact k_lret hx hb hr hlocks hP hD hS rfl dX11_other_91
            · have hm := i_f b11 hm
              refine lv_iload hx hb dX11_other_80 (lv_at hl 8 rfl) ?_
              refine k_calli0 (va_runS (As := [.int x7]) (rest := []) ⟨hx, hb, hml, hown, hts⟩ (c_X11_isByte l G cs H.size    x7 _ rfl) (va_cwS 1 hts gX11_other_X11_isByte rfl rfl rfl hd_X11_isByte ⟨Nat.le_of_ble_eq_true rfl, Nat.le_of_ble_eq_true rfl⟩) ⟨pre_blind, pre_w hK RO.nil P0 D0 (va_new0 hS hA)⟩ rfl rfl hl.1 rfl (lv_room (Nat.le_of_ble_eq_true rfl)) dX11_other_82 ⟨Nat.zero_le _, Nat.zero_le _⟩) hP hS hA (fun hE12 H locs hP hS => ?_)
              refine lv_if_ne (tgt := 92) hx hb dX11_other_85 (by decide) (fun b13 => ?_) (fun b13 => ?_)
              · have hm := i_f b13 hm
                refine lv_aload hx hb dX11_other_92 (lv_at hl 0 rfl) ?_
                refine lv_lload_n hx hb dX11_other_94 rfl (lv_at hl 4 rfl) ?_
                refine lv_aload hx hb dX11_other_95 (lv_at hl 0 rfl) ?_
                refine lv_iload hx hb dX11_other_97 (lv_at hl 5 rfl) ?_
                refine lv_iload hx hb dX11_other_99 (lv_at hl 6 rfl) ?_
                refine lv_iload hx hb dX11_other_101 (lv_at hl 7 rfl) ?_
                refine lv_iload hx hb dX11_other_103 (lv_at hl 8 rfl) ?_
                obtain ⟨r14, hc_r14, hm⟩ := bs hm
                refine v_X11_other_changed (j := j1) (sa := y1.1) (sw := y1.2.1) (sd := y1.2.2) (n := n) hx hb hml hown hts hK hA hRo hj1 hP hS hl.1 (Nat.le_of_ble_eq_true rfl) dX11_other_105 hc_r14 (fun H locs hP hS => ?_)
                obtain ⟨r15, hc_r15, hm⟩ := bs hm
                refine v_X11_other_merged (j := j1) (sa := y1.1) (sw := y1.2.1) (sd := y1.2.2) hx hb hml hown hts hK hA hRo hj1 hP hS hl.1 (Nat.le_of_ble_eq_true rfl) dX11_other_108 hc_r15 (fun H locs hP hS => ?_)
                have hq := Option.some.inj hm
                subst hq; subst hQ
                exact k_lret hx hb hr hlocks hP hD hS rfl dX11_other_111
              · have hm := i_t b13 hm
                refine lv_ldc2 (own := RX11) (v := (-3)) hx hb hown wd4 dX11_other_88 ?_
                have hq := Option.some.inj hm
                subst hq; subst hQ
                exact k_lret hx hb hr hlocks hP hD hS rfl dX11_other_91
    · have hm := i_f b2 hm
      have b2n := not_L hv1 b2
      refine instn_L (own := RX11) hx hb hown wd2 hK (RO.at hS hRo j1 _ hj1).1 b2n dX11_other_18 ?_
      refine lv_if_eq (tgt := 34) hx hb dX11_other_21 (by decide) (fun b9 => ?_) (fun b9 => absurd (by decide) b9)
      refine lv_ldc2 (own := RX11) (v := (-4)) hx hb hown wd3 dX11_other_34 ?_
      have hq := Option.some.inj hm
      subst hq; subst hQ
      exact k_lret hx hb hr hlocks hP hD hS rfl dX11_other_37

theorem hd_X11_less : yX11_less.cls ≠ "java/lang/invoke/MethodHandle" ∧ yX11_less.cls ≠ "java/lang/invoke/VarHandle" ∧ (parseMethodDescriptor yX11_less.desc).map (fun d => d.parameters.length) = some 4 := by decide +kernel

def M_X11_less (n : Nat) (x1 : Int32) (x2 : Int64) (x4 : Int32) (x5 : Int32) (v_ro : RF) (v_sumCount : Int32) : Option Int64 :=
  (M_X11_sumAt x1 v_ro v_sumCount).bind fun r1 => Option.elim r1 (some (-2)) (fun y1 => if y1.2.2.1 = 8 ∨ y1.2.2.1 = 7 ∨ y1.2.2.1 = 6 ∨ y1.2.2.1 = 1 ∨ y1.2.2.1 = 4 then (if (y1.2.2.1 = 8 ∨ y1.2.2.1 = 7 ∨ y1.2.2.1 = 6 ∨ y1.2.2.1 = 1) then ((V_holds y1.2.2 x2).bind fun r3 => if r3 = 0 then (some (-3)) else (if (M_X11_within x4 (1 : Int32) (1000 : Int32)) = 0 then (some (-3)) else (if (M_X11_isByte x5) = 0 then (some (-3)) else ((V_canDropFirst y1.2.2 ).bind fun r10 => if r10 = 0 then (some (-5)) else ((V_changed n y1.2.2 x4 (0 : Int32) x5 (0 : Int32)).bind fun r13 => (V_merged y1.2.2 x2 r13).bind fun r14 => (V_withoutLeadingZero n y1.2.2 r14 x4).bind fun r15 => some r15))))) else (some (-4))) else none)

abbrev rmX11_less : Room := { frames := 4, cells := 0, slots := 0, locals := 98 }
set_option maxHeartbeats 4000000 in
set_option maxRecDepth 100000 in
theorem v_X11_less_holds {p : Program} {l : Launch} {e : Env} {s : State} {m : MethodId} {args : Array Value} {below : List Frame} {meth : Method} {c : Code} {H : Heap} {locs : List Loc} {pc : Nat} {Q : State → Prop} {G : va_G} {cs : CS} {A : Nat → Prop} {ws : va_W} {ls : Array Slot} {rest : List Value} {ro : RF} {j sa sw : Nat} {sd : SD} (hx : p.tables.exec = Jvm.exec) (hb : c.code = cX11_less) (hml : c.maxLocals = 8) (hown : s.vm.findClass RX11 = some m.cls) (hts : ∀ w ∈ wsX11_less, w.before args s = true) (hK : KK G cs s) (hA : ∀ q, s.heap.size ≤ q → A q) (hRo : RO G ro A s s.heap) (hj : ro j = some (sa, sw, sd)) (hP : va_P G vwCl ws H) (hS : va_S A s.heap H locs) (hl1 : ls.size = 8) (hrest : (rest.map fun v => v.category).sum ≤ 8) (hdg : decode cX11_less pc = .ok (.invokevirtual 140, 3)) {x1 : Int64} {r : Int32} (hc : V_holds sd x1 = some r) (kk : (r = 0 ∨ r = 1) → ∀ (H1 : Heap) (locs1 : List Loc), va_P G vwCl ws H1 → va_S A s.heap H1 locs1 → W p l e rmX11_less s m args below meth c H1 locs1 0 0 Q (F0 m (pc + 3) ls (.int r :: rest))) : W p l e rmX11_less s m args below meth c H locs 0 0 Q (F0 m pc ls (.long x1 :: .ref sa :: rest)) := by
  obtain ⟨c1, s_k, s_m, s_t, s_p, s_b, s_f, s_l, s_wl, s_wf⟩ := sd
  unfold V_holds at hc
  dsimp only at hc
  by_cases h8 : c1 = 8
  · have hc := i_t h8 hc
    subst h8
    exact k_calli0 (va_runU (As := [.long x1]) (rest := rest) ⟨hx, hb, hml, hown, hts⟩ (c_X10_holds l G cs H.size sa sw s_k s_m s_t s_p s_b s_f s_l s_wl s_wf x1 r (Option.some.inj hc)) (va_cwA 1 hts gX11_less_X10_holds_u140X10 rfl rfl rfl (hK.2.2.2.2.1 _ (List.mem_of_getElem? (i := 1) rfl)) hdv_holds ⟨Nat.le_of_ble_eq_true rfl, Nat.le_of_ble_eq_true rfl⟩) ⟨pre_blind, va_recv hK.1 (RO.at hS hRo j _ hj).1 (ci := 8) (q0 := 0) rfl rfl, pre_w hK (RO.one hj (RO.at hS hRo)) P0 D0 (va_new0 hS hA)⟩ rfl rfl hl1 rfl (lv_room hrest) hdg ⟨Nat.zero_le _, Nat.zero_le _⟩) hP hS hA (fun hE => kk hE)
  have hc := i_f h8 hc
  by_cases h7 : c1 = 7
  · have hc := i_t h7 hc
    subst h7
    exact k_calli0 (va_runU (As := [.long x1]) (rest := rest) ⟨hx, hb, hml, hown, hts⟩ (c_X9_holds l G cs H.size sa sw s_k s_m s_t s_p s_b s_f s_l s_wl s_wf x1 r (Option.some.inj hc)) (va_cwA 1 hts gX11_less_X9_holds_u140X9 rfl rfl rfl (hK.2.2.2.2.1 _ (List.mem_of_getElem? (i := 1) rfl)) hdv_holds ⟨Nat.le_of_ble_eq_true rfl, Nat.le_of_ble_eq_true rfl⟩) ⟨pre_blind, va_recv hK.1 (RO.at hS hRo j _ hj).1 (ci := 7) (q0 := 0) rfl rfl, pre_w hK (RO.one hj (RO.at hS hRo)) P0 D0 (va_new0 hS hA)⟩ rfl rfl hl1 rfl (lv_room hrest) hdg ⟨Nat.zero_le _, Nat.zero_le _⟩) hP hS hA (fun hE => kk hE)
  have hc := i_f h7 hc
  by_cases h6 : c1 = 6
  · have hc := i_t h6 hc
    subst h6
    exact k_calli0 (va_runU (As := [.long x1]) (rest := rest) ⟨hx, hb, hml, hown, hts⟩ (c_X8_holds l G cs H.size sa sw s_k s_m s_t s_p s_b s_f s_l s_wl s_wf x1 r (Option.some.inj hc)) (va_cwA 1 hts gX11_less_X8_holds_u140X8 rfl rfl rfl (hK.2.2.2.2.1 _ (List.mem_of_getElem? (i := 1) rfl)) hdv_holds ⟨Nat.le_of_ble_eq_true rfl, Nat.le_of_ble_eq_true rfl⟩) ⟨pre_blind, va_recv hK.1 (RO.at hS hRo j _ hj).1 (ci := 6) (q0 := 0) rfl rfl, pre_w hK (RO.one hj (RO.at hS hRo)) P0 D0 (va_new0 hS hA)⟩ rfl rfl hl1 rfl (lv_room hrest) hdg ⟨Nat.zero_le _, Nat.zero_le _⟩) hP hS hA (fun hE => kk hE)
  have hc := i_f h6 hc
  by_cases h1 : c1 = 1
  · have hc := i_t h1 hc
    subst h1
    exact k_calli0 (va_runU (As := [.long x1]) (rest := rest) ⟨hx, hb, hml, hown, hts⟩ (c_X1_holds l G cs H.size sa sw s_k s_m s_t s_p s_b s_f s_l s_wl s_wf x1 r (Option.some.inj hc)) (va_cwA 1 hts gX11_less_X1_holds_u140X1 rfl rfl rfl (hK.2.2.2.2.1 _ (List.mem_of_getElem? (i := 1) rfl)) hdv_holds ⟨Nat.le_of_ble_eq_true rfl, Nat.le_of_ble_eq_true rfl⟩) ⟨pre_blind, va_recv hK.1 (RO.at hS hRo j _ hj).1 (ci := 1) (q0 := 0) rfl rfl, pre_w hK (RO.one hj (RO.at hS hRo)) P0 D0 (va_new0 hS hA)⟩ rfl rfl hl1 rfl (lv_room hrest) hdg ⟨Nat.zero_le _, Nat.zero_le _⟩) hP hS hA (fun hE => kk hE)
  have hc := i_f h1 hc
  cases hc
set_option maxHeartbeats 4000000 in
set_option maxRecDepth 100000 in
theorem v_X11_less_canDropFirst {p : Program} {l : Launch} {e : Env} {s : State} {m : MethodId} {args : Array Value} {below : List Frame} {meth : Method} {c : Code} {H : Heap} {locs : List Loc} {pc : Nat} {Q : State → Prop} {G : va_G} {cs : CS} {A : Nat → Prop} {ws : va_W} {ls : Array Slot} {rest : List Value} {ro : RF} {j sa sw : Nat} {sd : SD} (hx : p.tables.exec = Jvm.exec) (hb : c.code = cX11_less) (hml : c.maxLocals = 8) (hown : s.vm.findClass RX11 = some m.cls) (hts : ∀ w ∈ wsX11_less, w.before args s = true) (hK : KK G cs s) (hA : ∀ q, s.heap.size ≤ q → A q) (hRo : RO G ro A s s.heap) (hj : ro j = some (sa, sw, sd)) (hP : va_P G vwCl ws H) (hS : va_S A s.heap H locs) (hl1 : ls.size = 8) (hrest : (rest.map fun v => v.category).sum ≤ 8) (hdg : decode cX11_less pc = .ok (.invokevirtual 163, 3)) {r : Int32} (hc : V_canDropFirst sd  = some r) (kk : (r = 0 ∨ r = 1) → ∀ (H1 : Heap) (locs1 : List Loc), va_P G vwCl ws H1 → va_S A s.heap H1 locs1 → W p l e rmX11_less s m args below meth c H1 locs1 0 0 Q (F0 m (pc + 3) ls (.int r :: rest))) : W p l e rmX11_less s m args below meth c H locs 0 0 Q (F0 m pc ls (.ref sa :: rest)) := by
  obtain ⟨c1, s_k, s_m, s_t, s_p, s_b, s_f, s_l, s_wl, s_wf⟩ := sd
  unfold V_canDropFirst at hc
  dsimp only at hc
  by_cases h8 : c1 = 8
  · have hc := i_t h8 hc
    subst h8
    exact k_calli0 (va_runU (As := []) (rest := rest) ⟨hx, hb, hml, hown, hts⟩ (c_X10_canDropFirst l G cs H.size sa sw s_k s_m s_t s_p s_b s_f s_l s_wl s_wf  r (Option.some.inj hc)) (va_cwO 0 hts gX11_less_X10_canDropFirst_u163X10 rfl rfl rfl (b0 := cX2_canDropFirst) (m0 := 1) (r0 := some .boolean) (List.mem_of_getElem? (i := 58) rfl) hdv_canDropFirst ⟨Nat.le_of_ble_eq_true rfl, Nat.le_of_ble_eq_true rfl⟩) ⟨pre_blind, va_recv hK.1 (RO.at hS hRo j _ hj).1 (ci := 8) (q0 := 0) rfl rfl, pre_w hK (RO.one hj (RO.at hS hRo)) P0 D0 (va_new0 hS hA)⟩ rfl rfl hl1 rfl (lv_room hrest) hdg ⟨Nat.zero_le _, Nat.zero_le _⟩) hP hS hA (fun hE => kk hE)
  have hc := i_f h8 hc
  by_cases h7 : c1 = 7
  · have hc := i_t h7 hc
    subst h7
    exact k_calli0 (va_runU (As := []) (rest := rest) ⟨hx, hb, hml, hown, hts⟩ (c_X2_canDropFirst l G cs H.size sa  r (Option.some.inj hc)) (va_cwU 0 hts gX11_less_X2_canDropFirst_u163X9 rfl rfl rfl rfl hdv_canDropFirst ⟨Nat.le_of_ble_eq_true rfl, Nat.le_of_ble_eq_true rfl⟩) ⟨pre_blind, va_recv hK.1 (RO.at hS hRo j _ hj).1 (ci := 7) (q0 := 0) rfl rfl, pre_w hK RO.nil P0 D0 (va_new0 hS hA)⟩ rfl rfl hl1 rfl (lv_room hrest) hdg ⟨Nat.zero_le _, Nat.zero_le _⟩) hP hS hA (fun hE => kk hE)
  have hc := i_f h7 hc
  by_cases h6 : c1 = 6
  · have hc := i_t h6 hc
    subst h6
    exact k_calli0 (va_runU (As := []) (rest := rest) ⟨hx, hb, hml, hown, hts⟩ (c_X2_canDropFirst l G cs H.size sa  r (Option.some.inj hc)) (va_cwU 0 hts gX11_less_X2_canDropFirst_u163X8 rfl rfl rfl rfl hdv_canDropFirst ⟨Nat.le_of_ble_eq_true rfl, Nat.le_of_ble_eq_true rfl⟩) ⟨pre_blind, va_recv hK.1 (RO.at hS hRo j _ hj).1 (ci := 6) (q0 := 0) rfl rfl, pre_w hK RO.nil P0 D0 (va_new0 hS hA)⟩ rfl rfl hl1 rfl (lv_room hrest) hdg ⟨Nat.zero_le _, Nat.zero_le _⟩) hP hS hA (fun hE => kk hE)
  have hc := i_f h6 hc
  by_cases h1 : c1 = 1
  · have hc := i_t h1 hc
    subst h1
    exact k_calli0 (va_runU (As := []) (rest := rest) ⟨hx, hb, hml, hown, hts⟩ (c_X2_canDropFirst l G cs H.size sa  r (Option.some.inj hc)) (va_cwU 0 hts gX11_less_X2_canDropFirst_u163X1 rfl rfl rfl rfl hdv_canDropFirst ⟨Nat.le_of_ble_eq_true rfl, Nat.le_of_ble_eq_true rfl⟩) ⟨pre_blind, va_recv hK.1 (RO.at hS hRo j _ hj).1 (ci := 1) (q0 := 0) rfl rfl, pre_w hK RO.nil P0 D0 (va_new0 hS hA)⟩ rfl rfl hl1 rfl (lv_room hrest) hdg ⟨Nat.zero_le _, Nat.zero_le _⟩) hP hS hA (fun hE => kk hE)
  have hc := i_f h1 hc
  cases hc
set_option maxHeartbeats 4000000 in
set_option maxRecDepth 100000 in
theorem v_X11_less_changed {p : Program} {l : Launch} {e : Env} {s : State} {m : MethodId} {args : Array Value} {below : List Frame} {meth : Method} {c : Code} {H : Heap} {locs : List Loc} {pc : Nat} {Q : State → Prop} {G : va_G} {cs : CS} {A : Nat → Prop} {ws : va_W} {ls : Array Slot} {rest : List Value} {ro : RF} {j sa sw : Nat} {sd : SD} {n : Nat} (hx : p.tables.exec = Jvm.exec) (hb : c.code = cX11_less) (hml : c.maxLocals = 8) (hown : s.vm.findClass RX11 = some m.cls) (hts : ∀ w ∈ wsX11_less, w.before args s = true) (hK : KK G cs s) (hA : ∀ q, s.heap.size ≤ q → A q) (hRo : RO G ro A s s.heap) (hj : ro j = some (sa, sw, sd)) (hP : va_P G vwCl ws H) (hS : va_S A s.heap H locs) (hl1 : ls.size = 8) (hrest : (rest.map fun v => v.category).sum ≤ 8) (hdg : decode cX11_less pc = .ok (.invokevirtual 159, 3)) {x1 : Int32}  {x2 : Int32}  {x3 : Int32}  {x4 : Int32} {r : Int64} (hc : V_changed n sd x1 x2 x3 x4 = some r) (kk : ∀ (H1 : Heap) (locs1 : List Loc), va_P G vwCl ws H1 → va_S A s.heap H1 locs1 → W p l e rmX11_less s m args below meth c H1 locs1 0 0 Q (F0 m (pc + 3) ls (.long r :: rest))) : W p l e rmX11_less s m args below meth c H locs 0 0 Q (F0 m pc ls (.int x4 :: .int x3 :: .int x2 :: .int x1 :: .ref sa :: rest)) := by
  obtain ⟨c1, s_k, s_m, s_t, s_p, s_b, s_f, s_l, s_wl, s_wf⟩ := sd
  unfold V_changed at hc
  dsimp only at hc
  by_cases h8 : c1 = 8
  · have hc := i_t h8 hc
    subst h8
    exact k_calll0 (va_runU (As := [.int x1, .int x2, .int x3, .int x4]) (rest := rest) ⟨hx, hb, hml, hown, hts⟩ (c_X10_changed l G cs H.size sa sw s_k s_m s_t s_p s_b s_f s_l s_wl s_wf x1 x2 x3 x4 r hc) (va_cwA 4 hts gX11_less_X10_changed_u159X10 rfl rfl rfl (hK.2.2.2.2.1 _ (List.mem_of_getElem? (i := 4) rfl)) hdv_changed ⟨Nat.le_of_ble_eq_true rfl, Nat.le_of_ble_eq_true rfl⟩) ⟨pre_blind, va_recv hK.1 (RO.at hS hRo j _ hj).1 (ci := 8) (q0 := 0) rfl rfl, pre_w hK (RO.one hj (RO.at hS hRo)) P0 D0 (va_new0 hS hA)⟩ rfl rfl hl1 rfl (lv_room hrest) hdg ⟨Nat.zero_le _, Nat.zero_le _⟩) hP hS hA kk
  have hc := i_f h8 hc
  by_cases h7 : c1 = 7
  · have hc := i_t h7 hc
    subst h7
    exact k_calll0 (va_runU (As := [.int x1, .int x2, .int x3, .int x4]) (rest := rest) ⟨hx, hb, hml, hown, hts⟩ (c_X9_changed l G cs H.size sa sw s_k s_m s_t s_p s_b s_f s_l s_wl s_wf x1 x2 x3 x4 r hc) (va_cwA 4 hts gX11_less_X9_changed_u159X9 rfl rfl rfl (hK.2.2.2.2.1 _ (List.mem_of_getElem? (i := 4) rfl)) hdv_changed ⟨Nat.le_of_ble_eq_true rfl, Nat.le_of_ble_eq_true rfl⟩) ⟨pre_blind, va_recv hK.1 (RO.at hS hRo j _ hj).1 (ci := 7) (q0 := 0) rfl rfl, pre_w hK (RO.one hj (RO.at hS hRo)) P0 D0 (va_new0 hS hA)⟩ rfl rfl hl1 rfl (lv_room hrest) hdg ⟨Nat.zero_le _, Nat.zero_le _⟩) hP hS hA kk
  have hc := i_f h7 hc
  by_cases h6 : c1 = 6
  · have hc := i_t h6 hc
    subst h6
    exact k_calll0 (va_runU (As := [.int x1, .int x2, .int x3, .int x4]) (rest := rest) ⟨hx, hb, hml, hown, hts⟩ (c_X8_changed l G cs H.size sa sw s_k s_m s_t s_p s_b s_f s_l s_wl s_wf x1 x2 x3 x4 r hc) (va_cwA 4 hts gX11_less_X8_changed_u159X8 rfl rfl rfl (hK.2.2.2.2.1 _ (List.mem_of_getElem? (i := 4) rfl)) hdv_changed ⟨Nat.le_of_ble_eq_true rfl, Nat.le_of_ble_eq_true rfl⟩) ⟨pre_blind, va_recv hK.1 (RO.at hS hRo j _ hj).1 (ci := 6) (q0 := 0) rfl rfl, pre_w hK (RO.one hj (RO.at hS hRo)) P0 D0 (va_new0 hS hA)⟩ rfl rfl hl1 rfl (lv_room hrest) hdg ⟨Nat.zero_le _, Nat.zero_le _⟩) hP hS hA kk
  have hc := i_f h6 hc
  by_cases h1 : c1 = 1
  · have hc := i_t h1 hc
    subst h1
    exact k_calll0 (va_runU (As := [.int x1, .int x2, .int x3, .int x4]) (rest := rest) ⟨hx, hb, hml, hown, hts⟩ (c_X1_changed l G cs H.size sa sw s_k s_m s_t s_p s_b s_f s_l s_wl s_wf x1 x2 x3 x4 n r hc) (va_cwA 4 hts gX11_less_X1_changed_u159X1 rfl rfl rfl (hK.2.2.2.2.1 _ (List.mem_of_getElem? (i := 4) rfl)) hdv_changed ⟨Nat.le_of_ble_eq_true rfl, Nat.le_of_ble_eq_true rfl⟩) ⟨pre_blind, va_recv hK.1 (RO.at hS hRo j _ hj).1 (ci := 1) (q0 := 0) rfl rfl, pre_w hK (RO.one hj (RO.at hS hRo)) P0 D0 (va_new0 hS hA)⟩ rfl rfl hl1 rfl (lv_room hrest) hdg ⟨Nat.zero_le _, Nat.zero_le _⟩) hP hS hA kk
  have hc := i_f h1 hc
  cases hc
set_option maxHeartbeats 4000000 in
set_option maxRecDepth 100000 in
theorem v_X11_less_merged {p : Program} {l : Launch} {e : Env} {s : State} {m : MethodId} {args : Array Value} {below : List Frame} {meth : Method} {c : Code} {H : Heap} {locs : List Loc} {pc : Nat} {Q : State → Prop} {G : va_G} {cs : CS} {A : Nat → Prop} {ws : va_W} {ls : Array Slot} {rest : List Value} {ro : RF} {j sa sw : Nat} {sd : SD} (hx : p.tables.exec = Jvm.exec) (hb : c.code = cX11_less) (hml : c.maxLocals = 8) (hown : s.vm.findClass RX11 = some m.cls) (hts : ∀ w ∈ wsX11_less, w.before args s = true) (hK : KK G cs s) (hA : ∀ q, s.heap.size ≤ q → A q) (hRo : RO G ro A s s.heap) (hj : ro j = some (sa, sw, sd)) (hP : va_P G vwCl ws H) (hS : va_S A s.heap H locs) (hl1 : ls.size = 8) (hrest : (rest.map fun v => v.category).sum ≤ 8) (hdg : decode cX11_less pc = .ok (.invokevirtual 153, 3)) {x1 : Int64}  {x3 : Int64} {r : Int64} (hc : V_merged sd x1 x3 = some r) (kk : ∀ (H1 : Heap) (locs1 : List Loc), va_P G vwCl ws H1 → va_S A s.heap H1 locs1 → W p l e rmX11_less s m args below meth c H1 locs1 0 0 Q (F0 m (pc + 3) ls (.long r :: rest))) : W p l e rmX11_less s m args below meth c H locs 0 0 Q (F0 m pc ls (.long x3 :: .long x1 :: .ref sa :: rest)) := by
  obtain ⟨c1, s_k, s_m, s_t, s_p, s_b, s_f, s_l, s_wl, s_wf⟩ := sd
  unfold V_merged at hc
  dsimp only at hc
  by_cases h8 : c1 = 8
  · have hc := i_t h8 hc
    subst h8
    exact k_calll0 (va_runU (As := [.long x1, .long x3]) (rest := rest) ⟨hx, hb, hml, hown, hts⟩ (c_X10_merged l G cs H.size sa sw s_k s_m s_t s_p s_b s_f s_l s_wl s_wf x1 x3 r hc) (va_cwA 2 hts gX11_less_X10_merged_u153X10 rfl rfl rfl (hK.2.2.2.2.1 _ (List.mem_of_getElem? (i := 3) rfl)) hdv_merged ⟨Nat.le_of_ble_eq_true rfl, Nat.le_of_ble_eq_true rfl⟩) ⟨pre_blind, va_recv hK.1 (RO.at hS hRo j _ hj).1 (ci := 8) (q0 := 0) rfl rfl, pre_w hK (RO.one hj (RO.at hS hRo)) P0 D0 (va_new0 hS hA)⟩ rfl rfl hl1 rfl (lv_room hrest) hdg ⟨Nat.zero_le _, Nat.zero_le _⟩) hP hS hA kk
  have hc := i_f h8 hc
  by_cases h7 : c1 = 7
  · have hc := i_t h7 hc
    subst h7
    exact k_calll0 (va_runU (As := [.long x1, .long x3]) (rest := rest) ⟨hx, hb, hml, hown, hts⟩ (c_X9_merged l G cs H.size sa sw s_k s_m s_t s_p s_b s_f s_l s_wl s_wf x1 x3 r hc) (va_cwA 2 hts gX11_less_X9_merged_u153X9 rfl rfl rfl (hK.2.2.2.2.1 _ (List.mem_of_getElem? (i := 3) rfl)) hdv_merged ⟨Nat.le_of_ble_eq_true rfl, Nat.le_of_ble_eq_true rfl⟩) ⟨pre_blind, va_recv hK.1 (RO.at hS hRo j _ hj).1 (ci := 7) (q0 := 0) rfl rfl, pre_w hK (RO.one hj (RO.at hS hRo)) P0 D0 (va_new0 hS hA)⟩ rfl rfl hl1 rfl (lv_room hrest) hdg ⟨Nat.zero_le _, Nat.zero_le _⟩) hP hS hA kk
  have hc := i_f h7 hc
  by_cases h6 : c1 = 6
  · have hc := i_t h6 hc
    subst h6
    exact k_calll0 (va_runU (As := [.long x1, .long x3]) (rest := rest) ⟨hx, hb, hml, hown, hts⟩ (c_X8_merged l G cs H.size sa sw s_k s_m s_t s_p s_b s_f s_l s_wl s_wf x1 x3 r (Option.some.inj hc)) (va_cwA 2 hts gX11_less_X8_merged_u153X8 rfl rfl rfl (hK.2.2.2.2.1 _ (List.mem_of_getElem? (i := 3) rfl)) hdv_merged ⟨Nat.le_of_ble_eq_true rfl, Nat.le_of_ble_eq_true rfl⟩) ⟨pre_blind, va_recv hK.1 (RO.at hS hRo j _ hj).1 (ci := 6) (q0 := 0) rfl rfl, pre_w hK (RO.one hj (RO.at hS hRo)) P0 D0 (va_new0 hS hA)⟩ rfl rfl hl1 rfl (lv_room hrest) hdg ⟨Nat.zero_le _, Nat.zero_le _⟩) hP hS hA kk
  have hc := i_f h6 hc
  by_cases h1 : c1 = 1
  · have hc := i_t h1 hc
    subst h1
    exact k_calll0 (va_runU (As := [.long x1, .long x3]) (rest := rest) ⟨hx, hb, hml, hown, hts⟩ (c_X1_merged l G cs H.size sa sw s_k s_m s_t s_p s_b s_f s_l s_wl s_wf x1 x3 r (Option.some.inj hc)) (va_cwA 2 hts gX11_less_X1_merged_u153X1 rfl rfl rfl (hK.2.2.2.2.1 _ (List.mem_of_getElem? (i := 3) rfl)) hdv_merged ⟨Nat.le_of_ble_eq_true rfl, Nat.le_of_ble_eq_true rfl⟩) ⟨pre_blind, va_recv hK.1 (RO.at hS hRo j _ hj).1 (ci := 1) (q0 := 0) rfl rfl, pre_w hK (RO.one hj (RO.at hS hRo)) P0 D0 (va_new0 hS hA)⟩ rfl rfl hl1 rfl (lv_room hrest) hdg ⟨Nat.zero_le _, Nat.zero_le _⟩) hP hS hA kk
  have hc := i_f h1 hc
  cases hc
set_option maxHeartbeats 4000000 in
set_option maxRecDepth 100000 in
theorem v_X11_less_withoutLeadingZero {p : Program} {l : Launch} {e : Env} {s : State} {m : MethodId} {args : Array Value} {below : List Frame} {meth : Method} {c : Code} {H : Heap} {locs : List Loc} {pc : Nat} {Q : State → Prop} {G : va_G} {cs : CS} {A : Nat → Prop} {ws : va_W} {ls : Array Slot} {rest : List Value} {ro : RF} {j sa sw : Nat} {sd : SD} {n : Nat} (hx : p.tables.exec = Jvm.exec) (hb : c.code = cX11_less) (hml : c.maxLocals = 8) (hown : s.vm.findClass RX11 = some m.cls) (hts : ∀ w ∈ wsX11_less, w.before args s = true) (hK : KK G cs s) (hA : ∀ q, s.heap.size ≤ q → A q) (hRo : RO G ro A s s.heap) (hj : ro j = some (sa, sw, sd)) (hP : va_P G vwCl ws H) (hS : va_S A s.heap H locs) (hl1 : ls.size = 8) (hrest : (rest.map fun v => v.category).sum ≤ 8) (hdg : decode cX11_less pc = .ok (.invokevirtual 166, 3)) {x1 : Int64}  {x3 : Int32} {r : Int64} (hc : V_withoutLeadingZero n sd x1 x3 = some r) (kk : ∀ (H1 : Heap) (locs1 : List Loc), va_P G vwCl ws H1 → va_S A s.heap H1 locs1 → W p l e rmX11_less s m args below meth c H1 locs1 0 0 Q (F0 m (pc + 3) ls (.long r :: rest))) : W p l e rmX11_less s m args below meth c H locs 0 0 Q (F0 m pc ls (.int x3 :: .long x1 :: .ref sa :: rest)) := by
  obtain ⟨c1, s_k, s_m, s_t, s_p, s_b, s_f, s_l, s_wl, s_wf⟩ := sd
  unfold V_withoutLeadingZero at hc
  dsimp only at hc
  by_cases h8 : c1 = 8
  · have hc := i_t h8 hc
    subst h8
    exact k_calll0 (va_runU (As := [.long x1, .int x3]) (rest := rest) ⟨hx, hb, hml, hown, hts⟩ (c_X2_withoutLeadingZero l G cs H.size sa x1 x3 r (Option.some.inj hc)) (va_cwU 2 hts gX11_less_X2_withoutLeadingZero_u166X10 rfl rfl rfl rfl hdv_withoutLeadingZero ⟨Nat.le_of_ble_eq_true rfl, Nat.le_of_ble_eq_true rfl⟩) ⟨pre_blind, va_recv hK.1 (RO.at hS hRo j _ hj).1 (ci := 8) (q0 := 0) rfl rfl, pre_w hK RO.nil P0 D0 (va_new0 hS hA)⟩ rfl rfl hl1 rfl (lv_room hrest) hdg ⟨Nat.zero_le _, Nat.zero_le _⟩) hP hS hA kk
  have hc := i_f h8 hc
  by_cases h7 : c1 = 7
  · have hc := i_t h7 hc
    subst h7
    exact k_calll0 (va_runU (As := [.long x1, .int x3]) (rest := rest) ⟨hx, hb, hml, hown, hts⟩ (c_X2_withoutLeadingZero l G cs H.size sa x1 x3 r (Option.some.inj hc)) (va_cwU 2 hts gX11_less_X2_withoutLeadingZero_u166X9 rfl rfl rfl rfl hdv_withoutLeadingZero ⟨Nat.le_of_ble_eq_true rfl, Nat.le_of_ble_eq_true rfl⟩) ⟨pre_blind, va_recv hK.1 (RO.at hS hRo j _ hj).1 (ci := 7) (q0 := 0) rfl rfl, pre_w hK RO.nil P0 D0 (va_new0 hS hA)⟩ rfl rfl hl1 rfl (lv_room hrest) hdg ⟨Nat.zero_le _, Nat.zero_le _⟩) hP hS hA kk
  have hc := i_f h7 hc
  by_cases h6 : c1 = 6
  · have hc := i_t h6 hc
    subst h6
    exact k_calll0 (va_runU (As := [.long x1, .int x3]) (rest := rest) ⟨hx, hb, hml, hown, hts⟩ (c_X2_withoutLeadingZero l G cs H.size sa x1 x3 r (Option.some.inj hc)) (va_cwU 2 hts gX11_less_X2_withoutLeadingZero_u166X8 rfl rfl rfl rfl hdv_withoutLeadingZero ⟨Nat.le_of_ble_eq_true rfl, Nat.le_of_ble_eq_true rfl⟩) ⟨pre_blind, va_recv hK.1 (RO.at hS hRo j _ hj).1 (ci := 6) (q0 := 0) rfl rfl, pre_w hK RO.nil P0 D0 (va_new0 hS hA)⟩ rfl rfl hl1 rfl (lv_room hrest) hdg ⟨Nat.zero_le _, Nat.zero_le _⟩) hP hS hA kk
  have hc := i_f h6 hc
  by_cases h1 : c1 = 1
  · have hc := i_t h1 hc
    subst h1
    exact k_calll0 (va_runU (As := [.long x1, .int x3]) (rest := rest) ⟨hx, hb, hml, hown, hts⟩ (c_X1_withoutLeadingZero l G cs H.size sa sw s_k s_m s_t s_p s_b s_f s_l s_wl s_wf x1 x3 n r hc) (va_cwO 2 hts gX11_less_X1_withoutLeadingZero_u166X1 rfl rfl rfl (b0 := cX2_withoutLeadingZero) (m0 := 4) (r0 := some .long) (List.mem_of_getElem? (i := 132) rfl) hdv_withoutLeadingZero ⟨Nat.le_of_ble_eq_true rfl, Nat.le_of_ble_eq_true rfl⟩) ⟨pre_blind, va_recv hK.1 (RO.at hS hRo j _ hj).1 (ci := 1) (q0 := 0) rfl rfl, pre_w hK (RO.one hj (RO.at hS hRo)) P0 D0 (va_new0 hS hA)⟩ rfl rfl hl1 rfl (lv_room hrest) hdg ⟨Nat.zero_le _, Nat.zero_le _⟩) hP hS hA kk
  have hc := i_f h1 hc
  cases hc
set_option maxHeartbeats 4000000 in
set_option maxRecDepth 100000 in
theorem c_X11_less (l : Launch) (G : va_G) (cs : CS) (q : Nat → Nat) (sz : Nat) (v_ro : RF) (v_sumCount : Int32) (v_told : (Nat → Int32)) (v_toldCount : Int32) (v_row : (Nat → Int32)) (v_rowLength : Int32) (v_asked : (Nat → Int32)) (v_rising : (Nat → Int64)) (v_falling : (Nat → Int64)) (v_turned : (Nat → Int32)) (v_totals : (Nat → Int64)) (v_before : (Nat → Int32)) (v_after : (Nat → Int32)) (v_keptBytes : Int32) (v_syndromes : (Nat → Int64)) (v_places : Int32) (v_firstEntry : (Nat → Int32)) (v_nextEntry : (Nat → Int32)) (v_numbers : (Nat → Int64)) (v_counts : (Nat → Int32)) (v_size : Int32) (v_lightestPlaces : (Nat → Int32)) (v_lightestCount : Int32) (v_toldPlaces : (Nat → Int32)) (v_placeCount : Int32) (v_ways : (Nat → Int32)) (v_wayCount : Int32) (v_usable : (Nat → Int32)) (v_upTo : (Nat → Int64))   (x1 : Int32) (x2 : Int64) (x4 : Int32) (x5 : Int32) (n : Nat) (res : Int64) (hm : M_X11_less n x1 x2 x4 x5 v_ro v_sumCount = some res) : Met l yX11_less wsX11_less rmX11_less (va_Pc [.ref (q 0), .int x1, .long x2, .int x4, .int x5] (PreW G cs sz (ww_C q cs v_ro v_sumCount v_told v_toldCount v_row v_rowLength v_asked v_rising v_falling v_turned v_totals v_before v_after v_keptBytes v_syndromes v_places v_firstEntry v_nextEntry v_numbers v_counts v_size v_lightestPlaces v_lightestCount v_toldPlaces v_placeCount v_ways v_wayCount v_usable v_upTo) v_ro)) (QL G res (ww_C q cs v_ro v_sumCount v_told v_toldCount v_row v_rowLength v_asked v_rising v_falling v_turned v_totals v_before v_after v_keptBytes v_syndromes v_places v_firstEntry v_nextEntry v_numbers v_counts v_size v_lightestPlaces v_lightestCount v_toldPlaces v_placeCount v_ways v_wayCount v_usable v_upTo) (va_A (ww_C q cs v_ro v_sumCount v_told v_toldCount v_row v_rowLength v_asked v_rising v_falling v_turned v_totals v_before v_after v_keptBytes v_syndromes v_places v_firstEntry v_nextEntry v_numbers v_counts v_size v_lightestPlaces v_lightestCount v_toldPlaces v_placeCount v_ways v_wayCount v_usable v_upTo) sz)) 0 0 (va_A (ww_C q cs v_ro v_sumCount v_told v_toldCount v_row v_rowLength v_asked v_rising v_falling v_turned v_totals v_before v_after v_keptBytes v_syndromes v_places v_firstEntry v_nextEntry v_numbers v_counts v_size v_lightestPlaces v_lightestCount v_toldPlaces v_placeCount v_ways v_wayCount v_usable v_upTo) sz) := by
  refine k_enter (Qf := fun A => QL G res (ww_C q cs v_ro v_sumCount v_told v_toldCount v_row v_rowLength v_asked v_rising v_falling v_turned v_totals v_before v_after v_keptBytes v_syndromes v_places v_firstEntry v_nextEntry v_numbers v_counts v_size v_lightestPlaces v_lightestCount v_toldPlaces v_placeCount v_ways v_wayCount v_usable v_upTo) A) (cc := cX11_less) (maxL := 8) (ret := (some .long)) (plainFor_of_name (by decide)) rfl (Nat.le_of_ble_eq_true rfl) ?_
  intro p e s m args below meth c A Q ls H locs hx hb hr hml hown hts hlocks hname hK hA hRo hP hD hS hQ hl
  have hl : lv_has ls 8 [(0, .ref (q 0)), (1, .int x1), (2, .long x2), (4, .int x4), (5, .int x5)] := hl
  have wd1 := hts (.constantLong RX11 130 (-2)) (List.mem_of_getElem? (i := 1) rfl)
  have wd2 := hts (.classLink RX11 136 "SumSmith$Linear") (List.mem_of_getElem? (i := 2) rfl)
  have wd4 := hts (.constantLong RX11 144 (-3)) (List.mem_of_getElem? (i := 4) rfl)
  have wd5 := hts (.constantLong RX11 157 (-5)) (List.mem_of_getElem? (i := 5) rfl)
  have wd3 := hts (.constantLong RX11 138 (-4)) (List.mem_of_getElem? (i := 3) rfl)
  unfold M_X11_less at hm
  refine lv_aload_n hx hb dX11_less_0 rfl (lv_at hl 0 rfl) ?_
  refine lv_iload_n hx hb dX11_less_1 rfl (lv_at hl 1 rfl) ?_
  obtain ⟨r1, hc_r1, hm⟩ := bs hm
  refine k_callq (va_runV (As := [.int x1]) (rest := []) ⟨hx, hb, hml, hown, hts⟩ (c_X11_sumAt l G cs q H.size v_ro v_sumCount v_told v_toldCount v_row v_rowLength v_asked v_rising v_falling v_turned v_totals v_before v_after v_keptBytes v_syndromes v_places v_firstEntry v_nextEntry v_numbers v_counts v_size v_lightestPlaces v_lightestCount v_toldPlaces v_placeCount v_ways v_wayCount v_usable v_upTo x1 r1 hc_r1) (cwV 1 hts gX11_less_X11_sumAt rfl rfl rfl ⟨rfl, hd_X11_sumAt⟩ ⟨Nat.le_of_ble_eq_true rfl, Nat.le_of_ble_eq_true rfl⟩) ⟨pre_blind, va_recv hK.1 hP (ci := 9) (q0 := 0) rfl rfl, pre_w hK (RO.at hS hRo) hP hD (va_all hD hS hA)⟩ rfl rfl hl.1 rfl (lv_room (Nat.le_of_ble_eq_true rfl)) dX11_less_2 ⟨Nat.zero_le _, Nat.zero_le _⟩) hS (va_all hD hS hA) (fun H locs hP hD hS => ?_)
  have hP : va_P G vwCl (ww_C q cs v_ro v_sumCount v_told v_toldCount v_row v_rowLength v_asked v_rising v_falling v_turned v_totals v_before v_after v_keptBytes v_syndromes v_places v_firstEntry v_nextEntry v_numbers v_counts v_size v_lightestPlaces v_lightestCount v_toldPlaces v_placeCount v_ways v_wayCount v_usable v_upTo) H := hP
  have hD : va_D A (ww_C q cs v_ro v_sumCount v_told v_toldCount v_row v_rowLength v_asked v_rising v_falling v_turned v_totals v_before v_after v_keptBytes v_syndromes v_places v_firstEntry v_nextEntry v_numbers v_counts v_size v_lightestPlaces v_lightestCount v_toldPlaces v_placeCount v_ways v_wayCount v_usable v_upTo) := hD
  cases r1 with
  | none =>
    have hm := oe_n hm
    refine lv_astoreN (lv' := [(6, .null), (0, .ref (q 0)), (1, .int x1), (2, .long x2), (4, .int x4), (5, .int x5)]) hx hb dX11_less_5 hl (by decide) rfl (fun ls hl => ?_)
    refine lv_aloadN hx hb dX11_less_7 (lv_at hl 0 rfl) ?_
    refine lv_ifnonnullN hx hb dX11_less_9 ?_
    refine lv_ldc2 (own := RX11) (v := (-2)) hx hb hown wd1 dX11_less_12 ?_
    have hq := Option.some.inj hm
    subst hq; subst hQ
    exact k_lret hx hb hr hlocks hP hD hS rfl dX11_less_15
  | some y1 =>
    have hm := oe_s hm
    obtain ⟨j1, hj1⟩ := sumAt_ro hc_r1
    obtain ⟨hv1, hm⟩ := g_pos hm
    refine lv_astore (lv' := [(6, .ref y1.1), (0, .ref (q 0)), (1, .int x1), (2, .long x2), (4, .int x4), (5, .int x5)]) hx hb dX11_less_5 hl (by decide) rfl (fun ls hl => ?_)
    refine lv_aload hx hb dX11_less_7 (lv_at hl 0 rfl) ?_
    refine lv_ifnonnull (tgt := 16) hx hb dX11_less_9 (by decide) ?_
    refine lv_aload hx hb dX11_less_16 (lv_at hl 0 rfl) ?_
    by_cases b2 : (y1.2.2.1 = 8 ∨ y1.2.2.1 = 7 ∨ y1.2.2.1 = 6 ∨ y1.2.2.1 = 1)
    · have hm := i_t b2 hm
      refine inst_L (own := RX11) hx hb hown wd2 hK (RO.at hS hRo j1 _ hj1).1 b2 dX11_less_18 ?_
      refine lv_if_eq (tgt := 34) hx hb dX11_less_21 (by decide) (fun b9 => absurd b9 (by decide)) (fun b9 => ?_)
      refine lv_aload hx hb dX11_less_24 (lv_at hl 0 rfl) ?_
      refine cast_L (own := RX11) hx hb hown wd2 hK (RO.at hS hRo j1 _ hj1).1 b2 dX11_less_26 ?_
      refine lv_astore (lv' := [(7, .ref y1.1), (6, .ref y1.1), (0, .ref (q 0)), (1, .int x1), (2, .long x2), (4, .int x4), (5, .int x5)]) hx hb dX11_less_29 hl (by decide) rfl (fun ls hl => ?_)
      refine lv_goto (tgt := 38) hx hb dX11_less_31 (by decide) ?_
      refine lv_aload hx hb dX11_less_38 (lv_at hl 0 rfl) ?_
      refine lv_lload_n hx hb dX11_less_40 rfl (lv_at hl 4 rfl) ?_
      obtain ⟨r3, hc_r3, hm⟩ := bs hm
      refine v_X11_less_holds (j := j1) (sa := y1.1) (sw := y1.2.1) (sd := y1.2.2) hx hb hml hown hts hK hA hRo hj1 hP hS hl.1 (Nat.le_of_ble_eq_true rfl) dX11_less_41 hc_r3 (fun hE4 H locs hP hS => ?_)
      refine lv_if_eq (tgt := 67) hx hb dX11_less_44 (by decide) (fun b5 => ?_) (fun b5 => ?_)
      · have hm := i_t b5 hm
        refine lv_ldc2 (own := RX11) (v := (-3)) hx hb hown wd4 dX11_less_67 ?_
        have hq := Option.some.inj hm
        subst hq; subst hQ
        exact k_lret hx hb hr hlocks hP hD hS rfl dX11_less_70
      · have hm := i_f b5 hm
        refine lv_iload hx hb dX11_less_47 (lv_at hl 5 rfl) ?_
        refine lv_iconst (v := 1) hx hb dX11_less_49 (by decide) ?_
        refine lv_sipush (v := 1000) hx hb dX11_less_50 (by decide) ?_
        refine k_calli0 (va_runS (As := [.int x4, .int 1, .int 1000]) (rest := []) ⟨hx, hb, hml, hown, hts⟩ (c_X11_within l G cs H.size    x4 (1 : Int32) (1000 : Int32) _ rfl) (va_cwS 3 hts gX11_less_X11_within rfl rfl rfl hd_X11_within ⟨Nat.le_of_ble_eq_true rfl, Nat.le_of_ble_eq_true rfl⟩) ⟨pre_blind, pre_w hK RO.nil P0 D0 (va_new0 hS hA)⟩ rfl rfl hl.1 rfl (lv_room (Nat.le_of_ble_eq_true rfl)) dX11_less_53 ⟨Nat.zero_le _, Nat.zero_le _⟩) hP hS hA (fun hE6 H locs hP hS => ?_)
        refine lv_if_eq (tgt := 67) hx hb dX11_less_56 (by decide) (fun b7 => ?_) (fun b7 => ?_)
        · have hm := i_t b7 hm
          refine lv_ldc2 (own := RX11) (v := (-3)) hx hb hown wd4 dX11_less_67 ?_
          have hq := Option.some.inj hm
          subst hq; subst hQ
          exact k_lret hx hb hr hlocks hP hD hS rfl dX11_less_70
        · have hm := i_f b7 hm
          refine lv_iload hx hb dX11_less_59 (lv_at hl 6 rfl) ?_
          refine k_calli0 (va_runS (As := [.int x5]) (rest := []) ⟨hx, hb, hml, hown, hts⟩ (c_X11_isByte l G cs H.size    x5 _ rfl) (va_cwS 1 hts gX11_less_X11_isByte rfl rfl rfl hd_X11_isByte ⟨Nat.le_of_ble_eq_true rfl, Nat.le_of_ble_eq_true rfl⟩) ⟨pre_blind, pre_w hK RO.nil P0 D0 (va_new0 hS hA)⟩ rfl rfl hl.1 rfl (lv_room (Nat.le_of_ble_eq_true rfl)) dX11_less_61 ⟨Nat.zero_le _, Nat.zero_le _⟩) hP hS hA (fun hE8 H locs hP hS => ?_)
          refine lv_if_ne (tgt := 71) hx hb dX11_less_64 (by decide) (fun b9 => ?_) (fun b9 => ?_)
          · have hm := i_f b9 hm
            refine lv_aload hx hb dX11_less_71 (lv_at hl 0 rfl) ?_
            obtain ⟨r10, hc_r10, hm⟩ := bs hm
            refine v_X11_less_canDropFirst (j := j1) (sa := y1.1) (sw := y1.2.1) (sd := y1.2.2) hx hb hml hown hts hK hA hRo hj1 hP hS hl.1 (Nat.le_of_ble_eq_true rfl) dX11_less_73 hc_r10 (fun hE11 H locs hP hS => ?_)
            refine lv_if_ne (tgt := 83) hx hb dX11_less_76 (by decide) (fun b12 => ?_) (fun b12 => ?_)
            · have hm := i_f b12 hm
              refine lv_aload hx hb dX11_less_83 (lv_at hl 0 rfl) ?_
              refine lv_aload hx hb dX11_less_85 (lv_at hl 0 rfl) ?_
              refine lv_lload_n hx hb dX11_less_87 rfl (lv_at hl 4 rfl) ?_
              refine lv_aload hx hb dX11_less_88 (lv_at hl 0 rfl) ?_
              refine lv_iload hx hb dX11_less_90 (lv_at hl 5 rfl) ?_
              refine lv_iconst (v := 0) hx hb dX11_less_92 (by decide) ?_
              refine lv_iload hx hb dX11_less_93 (lv_at hl 6 rfl) ?_
              refine lv_iconst (v := 0) hx hb dX11_less_95 (by decide) ?_
              obtain ⟨r13, hc_r13, hm⟩ := bs hm
              refine v_X11_less_changed (j := j1) (sa := y1.1) (sw := y1.2.1) (sd := y1.2.2) (n := n) hx hb hml hown hts hK hA hRo hj1 hP hS hl.1 (Nat.le_of_ble_eq_true rfl) dX11_less_96 hc_r13 (fun H locs hP hS => ?_)
              obtain ⟨r14, hc_r14, hm⟩ := bs hm
              refine v_X11_less_merged (j := j1) (sa := y1.1) (sw := y1.2.1) (sd := y1.2.2) hx hb hml hown hts hK hA hRo hj1 hP hS hl.1 (Nat.le_of_ble_eq_true rfl) dX11_less_99 hc_r14 (fun H locs hP hS => ?_)
              refine lv_iload hx hb dX11_less_102 (lv_at hl 5 rfl) ?_
              obtain ⟨r15, hc_r15, hm⟩ := bs hm
              refine v_X11_less_withoutLeadingZero (j := j1) (sa := y1.1) (sw := y1.2.1) (sd := y1.2.2) (n := n) hx hb hml hown hts hK hA hRo hj1 hP hS hl.1 (Nat.le_of_ble_eq_true rfl) dX11_less_104 hc_r15 (fun H locs hP hS => ?_)
              have hq := Option.some.inj hm
              subst hq; subst hQ
              exact k_lret hx hb hr hlocks hP hD hS rfl dX11_less_107
            · have hm := i_t b12 hm
              refine lv_ldc2 (own := RX11) (v := (-5)) hx hb hown wd5 dX11_less_79 ?_
              have hq := Option.some.inj hm
              subst hq; subst hQ
              exact k_lret hx hb hr hlocks hP hD hS rfl dX11_less_82
          · have hm := i_t b9 hm
            refine lv_ldc2 (own := RX11) (v := (-3)) hx hb hown wd4 dX11_less_67 ?_
            have hq := Option.some.inj hm
            subst hq; subst hQ
            exact k_lret hx hb hr hlocks hP hD hS rfl dX11_less_70
    · have hm := i_f b2 hm
      have b2n := not_L hv1 b2
      refine instn_L (own := RX11) hx hb hown wd2 hK (RO.at hS hRo j1 _ hj1).1 b2n dX11_less_18 ?_
      refine lv_if_eq (tgt := 34) hx hb dX11_less_21 (by decide) (fun b9 => ?_) (fun b9 => absurd (by decide) b9)
      refine lv_ldc2 (own := RX11) (v := (-4)) hx hb hown wd3 dX11_less_34 ?_
      have hq := Option.some.inj hm
      subst hq; subst hQ
      exact k_lret hx hb hr hlocks hP hD hS rfl dX11_less_37

theorem hd_X11_sees : yX11_sees.cls ≠ "java/lang/invoke/MethodHandle" ∧ yX11_sees.cls ≠ "java/lang/invoke/VarHandle" ∧ (parseMethodDescriptor yX11_sees.desc).map (fun d => d.parameters.length) = some 4 := by decide +kernel

def M_X11_sees (n : Nat) (x1 : Int32) (x2 : Int32) (x3 : Int32) (x4 : Int32) (v_ro : RF) (v_sumCount : Int32) (v_rising : (Nat → Int64)) (v_falling : (Nat → Int64)) (v_turned : (Nat → Int32)) (v_totals : (Nat → Int64)) (v_before : (Nat → Int32)) (v_after : (Nat → Int32)) (v_keptBytes : Int32) : Option (Int32 × (Nat → Int64) × (Nat → Int64) × (Nat → Int32) × (Nat → Int64) × (Nat → Int32) × (Nat → Int32) × Int32) :=
  (M_X11_sumAt x1 v_ro v_sumCount).bind fun r1 => Option.elim r1 (some ((-2), v_rising, v_falling, v_turned, v_totals, v_before, v_after, v_keptBytes)) (fun y1 => if y1.2.2.1 = 8 ∨ y1.2.2.1 = 7 ∨ y1.2.2.1 = 6 ∨ y1.2.2.1 = 1 ∨ y1.2.2.1 = 4 then (if (y1.2.2.1 = 8 ∨ y1.2.2.1 = 7 ∨ y1.2.2.1 = 6 ∨ y1.2.2.1 = 1) then (if (M_X11_isSlip x2 x3) = 0 then (some ((-3), v_rising, v_falling, v_turned, v_totals, v_before, v_after, v_keptBytes)) else (if (M_X11_within x4 (1 : Int32) (8 : Int32)) = 0 then (some ((-3), v_rising, v_falling, v_turned, v_totals, v_before, v_after, v_keptBytes)) else ((M_X4_findFirst n x2 x3 x4 v_rising v_falling v_turned v_totals v_before v_after v_keptBytes y1.2.2).bind fun r7 => if r7.1 = 0 then (some (1, r7.2.1, r7.2.2.1, r7.2.2.2.1, r7.2.2.2.2.1, r7.2.2.2.2.2.1, r7.2.2.2.2.2.2.1, r7.2.2.2.2.2.2.2)) else (some (0, r7.2.1, r7.2.2.1, r7.2.2.2.1, r7.2.2.2.2.1, r7.2.2.2.2.2.1, r7.2.2.2.2.2.2.1, r7.2.2.2.2.2.2.2))))) else (some ((-4), v_rising, v_falling, v_turned, v_totals, v_before, v_after, v_keptBytes))) else none)

abbrev rmX11_sees : Room := { frames := 10, cells := 0, slots := 0, locals := 256 }
set_option maxHeartbeats 4000000 in
set_option maxRecDepth 100000 in
theorem c_X11_sees (l : Launch) (G : va_G) (cs : CS) (q : Nat → Nat) (sz : Nat) (v_ro : RF) (v_sumCount : Int32) (v_told : (Nat → Int32)) (v_toldCount : Int32) (v_row : (Nat → Int32)) (v_rowLength : Int32) (v_asked : (Nat → Int32)) (v_rising : (Nat → Int64)) (v_falling : (Nat → Int64)) (v_turned : (Nat → Int32)) (v_totals : (Nat → Int64)) (v_before : (Nat → Int32)) (v_after : (Nat → Int32)) (v_keptBytes : Int32) (v_syndromes : (Nat → Int64)) (v_places : Int32) (v_firstEntry : (Nat → Int32)) (v_nextEntry : (Nat → Int32)) (v_numbers : (Nat → Int64)) (v_counts : (Nat → Int32)) (v_size : Int32) (v_lightestPlaces : (Nat → Int32)) (v_lightestCount : Int32) (v_toldPlaces : (Nat → Int32)) (v_placeCount : Int32) (v_ways : (Nat → Int32)) (v_wayCount : Int32) (v_usable : (Nat → Int32)) (v_upTo : (Nat → Int64))   (x1 : Int32) (x2 : Int32) (x3 : Int32) (x4 : Int32) (n : Nat) (res : (Int32 × (Nat → Int64) × (Nat → Int64) × (Nat → Int32) × (Nat → Int64) × (Nat → Int32) × (Nat → Int32) × Int32)) (hm : M_X11_sees n x1 x2 x3 x4 v_ro v_sumCount v_rising v_falling v_turned v_totals v_before v_after v_keptBytes = some res) : Met l yX11_sees wsX11_sees rmX11_sees (va_Pc [.ref (q 0), .int x1, .int x2, .int x3, .int x4] (PreW G cs sz (ww_C q cs v_ro v_sumCount v_told v_toldCount v_row v_rowLength v_asked v_rising v_falling v_turned v_totals v_before v_after v_keptBytes v_syndromes v_places v_firstEntry v_nextEntry v_numbers v_counts v_size v_lightestPlaces v_lightestCount v_toldPlaces v_placeCount v_ways v_wayCount v_usable v_upTo) v_ro)) (QI G res.1 True (ww_C q cs v_ro v_sumCount v_told v_toldCount v_row v_rowLength v_asked res.2.1 res.2.2.1 res.2.2.2.1 res.2.2.2.2.1 res.2.2.2.2.2.1 res.2.2.2.2.2.2.1 res.2.2.2.2.2.2.2 v_syndromes v_places v_firstEntry v_nextEntry v_numbers v_counts v_size v_lightestPlaces v_lightestCount v_toldPlaces v_placeCount v_ways v_wayCount v_usable v_upTo) (va_A (ww_C q cs v_ro v_sumCount v_told v_toldCount v_row v_rowLength v_asked v_rising v_falling v_turned v_totals v_before v_after v_keptBytes v_syndromes v_places v_firstEntry v_nextEntry v_numbers v_counts v_size v_lightestPlaces v_lightestCount v_toldPlaces v_placeCount v_ways v_wayCount v_usable v_upTo) sz)) 0 0 (va_A (ww_C q cs v_ro v_sumCount v_told v_toldCount v_row v_rowLength v_asked v_rising v_falling v_turned v_totals v_before v_after v_keptBytes v_syndromes v_places v_firstEntry v_nextEntry v_numbers v_counts v_size v_lightestPlaces v_lightestCount v_toldPlaces v_placeCount v_ways v_wayCount v_usable v_upTo) sz) := by
  refine k_enter (Qf := fun A => QI G res.1 True (ww_C q cs v_ro v_sumCount v_told v_toldCount v_row v_rowLength v_asked res.2.1 res.2.2.1 res.2.2.2.1 res.2.2.2.2.1 res.2.2.2.2.2.1 res.2.2.2.2.2.2.1 res.2.2.2.2.2.2.2 v_syndromes v_places v_firstEntry v_nextEntry v_numbers v_counts v_size v_lightestPlaces v_lightestCount v_toldPlaces v_placeCount v_ways v_wayCount v_usable v_upTo) A) (cc := cX11_sees) (maxL := 7) (ret := (some .int)) (plainFor_of_name (by decide)) rfl (Nat.le_of_ble_eq_true rfl) ?_
  intro p e s m args below meth c A Q ls H locs hx hb hr hml hown hts hlocks hname hK hA hRo hP hD hS hQ hl
  have hl : lv_has ls 7 [(0, .ref (q 0)), (1, .int x1), (2, .int x2), (3, .int x3), (4, .int x4)] := hl
  have wd1 := hts (.classLink RX11 136 "SumSmith$Linear") (List.mem_of_getElem? (i := 1) rfl)
  have wd2 := hts (.fieldLink RX11 38 "SumSmith" "slips" "LSumSmith$Slips;") (List.mem_of_getElem? (i := 2) rfl)
  have hinX11 : ∀ w ∈ wsX110, w ∈ wsX11_sees := fun w h => List.mem_cons_of_mem _ (List.mem_append_left _ (List.mem_append_left _ (List.mem_append_left _ (List.mem_append_left _ (List.mem_append_left _ (List.mem_append_right _ h))))))
  unfold M_X11_sees at hm
  refine lv_aload_n hx hb dX11_sees_0 rfl (lv_at hl 0 rfl) ?_
  refine lv_iload_n hx hb dX11_sees_1 rfl (lv_at hl 1 rfl) ?_
  obtain ⟨r1, hc_r1, hm⟩ := bs hm
  refine k_callq (va_runV (As := [.int x1]) (rest := []) ⟨hx, hb, hml, hown, hts⟩ (c_X11_sumAt l G cs q H.size v_ro v_sumCount v_told v_toldCount v_row v_rowLength v_asked v_rising v_falling v_turned v_totals v_before v_after v_keptBytes v_syndromes v_places v_firstEntry v_nextEntry v_numbers v_counts v_size v_lightestPlaces v_lightestCount v_toldPlaces v_placeCount v_ways v_wayCount v_usable v_upTo x1 r1 hc_r1) (cwV 1 hts gX11_sees_X11_sumAt rfl rfl rfl ⟨rfl, hd_X11_sumAt⟩ ⟨Nat.le_of_ble_eq_true rfl, Nat.le_of_ble_eq_true rfl⟩) ⟨pre_blind, va_recv hK.1 hP (ci := 9) (q0 := 0) rfl rfl, pre_w hK (RO.at hS hRo) hP hD (va_all hD hS hA)⟩ rfl rfl hl.1 rfl (lv_room (Nat.le_of_ble_eq_true rfl)) dX11_sees_2 ⟨Nat.zero_le _, Nat.zero_le _⟩) hS (va_all hD hS hA) (fun H locs hP hD hS => ?_)
  have hP : va_P G vwCl (ww_C q cs v_ro v_sumCount v_told v_toldCount v_row v_rowLength v_asked v_rising v_falling v_turned v_totals v_before v_after v_keptBytes v_syndromes v_places v_firstEntry v_nextEntry v_numbers v_counts v_size v_lightestPlaces v_lightestCount v_toldPlaces v_placeCount v_ways v_wayCount v_usable v_upTo) H := hP
  have hD : va_D A (ww_C q cs v_ro v_sumCount v_told v_toldCount v_row v_rowLength v_asked v_rising v_falling v_turned v_totals v_before v_after v_keptBytes v_syndromes v_places v_firstEntry v_nextEntry v_numbers v_counts v_size v_lightestPlaces v_lightestCount v_toldPlaces v_placeCount v_ways v_wayCount v_usable v_upTo) := hD
  cases r1 with
  | none =>
    have hm := oe_n hm
    refine lv_astoreN (lv' := [(5, .null), (0, .ref (q 0)), (1, .int x1), (2, .int x2), (3, .int x3), (4, .int x4)]) hx hb dX11_sees_5 hl (by decide) rfl (fun ls hl => ?_)
    refine lv_aloadN hx hb dX11_sees_7 (lv_at hl 0 rfl) ?_
    refine lv_ifnonnullN hx hb dX11_sees_9 ?_
    refine lv_bipush (v := (-2)) hx hb dX11_sees_12 (by decide) ?_
    have hq := Option.some.inj hm
    subst hq; subst hQ
    exact k_iret hx hb hr hlocks hP hD hS rfl trivial dX11_sees_14
  | some y1 =>
    have hm := oe_s hm
    obtain ⟨j1, hj1⟩ := sumAt_ro hc_r1
    obtain ⟨hv1, hm⟩ := g_pos hm
    refine lv_astore (lv' := [(5, .ref y1.1), (0, .ref (q 0)), (1, .int x1), (2, .int x2), (3, .int x3), (4, .int x4)]) hx hb dX11_sees_5 hl (by decide) rfl (fun ls hl => ?_)
    refine lv_aload hx hb dX11_sees_7 (lv_at hl 0 rfl) ?_
    refine lv_ifnonnull (tgt := 15) hx hb dX11_sees_9 (by decide) ?_
    refine lv_aload hx hb dX11_sees_15 (lv_at hl 0 rfl) ?_
    by_cases b2 : (y1.2.2.1 = 8 ∨ y1.2.2.1 = 7 ∨ y1.2.2.1 = 6 ∨ y1.2.2.1 = 1)
    · have hm := i_t b2 hm
      refine inst_L (own := RX11) hx hb hown wd1 hK (RO.at hS hRo j1 _ hj1).1 b2 dX11_sees_17 ?_
      refine lv_if_eq (tgt := 33) hx hb dX11_sees_20 (by decide) (fun b9 => absurd b9 (by decide)) (fun b9 => ?_)
      refine lv_aload hx hb dX11_sees_23 (lv_at hl 0 rfl) ?_
      refine cast_L (own := RX11) hx hb hown wd1 hK (RO.at hS hRo j1 _ hj1).1 b2 dX11_sees_25 ?_
      refine lv_astore (lv' := [(6, .ref y1.1), (5, .ref y1.1), (0, .ref (q 0)), (1, .int x1), (2, .int x2), (3, .int x3), (4, .int x4)]) hx hb dX11_sees_28 hl (by decide) rfl (fun ls hl => ?_)
      refine lv_goto (tgt := 36) hx hb dX11_sees_30 (by decide) ?_
      refine lv_iload_n hx hb dX11_sees_36 rfl (lv_at hl 4 rfl) ?_
      refine lv_iload_n hx hb dX11_sees_37 rfl (lv_at hl 5 rfl) ?_
      refine k_calli0 (va_runS (As := [.int x2, .int x3]) (rest := []) ⟨hx, hb, hml, hown, hts⟩ (c_X11_isSlip l G cs H.size    x2 x3 _ rfl) (va_cwS 2 hts gX11_sees_X11_isSlip rfl rfl rfl hd_X11_isSlip ⟨Nat.le_of_ble_eq_true rfl, Nat.le_of_ble_eq_true rfl⟩) ⟨pre_blind, pre_w hK RO.nil P0 D0 (va_new0 hS hA)⟩ rfl rfl hl.1 rfl (lv_room (Nat.le_of_ble_eq_true rfl)) dX11_sees_38 ⟨Nat.zero_le _, Nat.zero_le _⟩) hP hS hA (fun hE3 H locs hP hS => ?_)
      refine lv_if_eq (tgt := 55) hx hb dX11_sees_41 (by decide) (fun b4 => ?_) (fun b4 => ?_)
      · have hm := i_t b4 hm
        refine lv_bipush (v := (-3)) hx hb dX11_sees_55 (by decide) ?_
        have hq := Option.some.inj hm
        subst hq; subst hQ
        exact k_iret hx hb hr hlocks hP hD hS rfl trivial dX11_sees_57
      · have hm := i_f b4 hm
        refine lv_iload hx hb dX11_sees_44 (lv_at hl 6 rfl) ?_
        refine lv_iconst (v := 1) hx hb dX11_sees_46 (by decide) ?_
        refine lv_bipush (v := 8) hx hb dX11_sees_47 (by decide) ?_
        refine k_calli0 (va_runS (As := [.int x4, .int 1, .int 8]) (rest := []) ⟨hx, hb, hml, hown, hts⟩ (c_X11_within l G cs H.size    x4 (1 : Int32) (8 : Int32) _ rfl) (va_cwS 3 hts gX11_sees_X11_within rfl rfl rfl hd_X11_within ⟨Nat.le_of_ble_eq_true rfl, Nat.le_of_ble_eq_true rfl⟩) ⟨pre_blind, pre_w hK RO.nil P0 D0 (va_new0 hS hA)⟩ rfl rfl hl.1 rfl (lv_room (Nat.le_of_ble_eq_true rfl)) dX11_sees_49 ⟨Nat.zero_le _, Nat.zero_le _⟩) hP hS hA (fun hE5 H locs hP hS => ?_)
        refine lv_if_ne (tgt := 58) hx hb dX11_sees_52 (by decide) (fun b6 => ?_) (fun b6 => ?_)
        · have hm := i_f b6 hm
          refine lv_aload_n hx hb dX11_sees_58 rfl (lv_at hl 2 rfl) ?_
          refine va_get (D := G) (ci := 9) (v := .ref (q 5)) (C := RX11) (T := TX11) (N := 12) hx hb hts hinX11 hown hK.1 hP 0 rfl rfl 7 (by decide) wd2 (fun _ h9 => h9) rfl dX11_sees_59 ?_
          refine lv_aload hx hb dX11_sees_62 (lv_at hl 0 rfl) ?_
          refine lv_iload_n hx hb dX11_sees_64 rfl (lv_at hl 4 rfl) ?_
          refine lv_iload_n hx hb dX11_sees_65 rfl (lv_at hl 5 rfl) ?_
          refine lv_iload hx hb dX11_sees_66 (lv_at hl 6 rfl) ?_
          obtain ⟨r7, hc_r7, hm⟩ := bs hm
          refine k_callij (wr := [((q 0), .inr (9, [.ref (q 1), .int v_sumCount, .ref (q 2), .int v_toldCount, .ref (q 3), .int v_rowLength, .ref (q 4), .ref (q 5), .ref (q 12), .ref (q 19), .int v_lightestCount, .ref (q 20)])), ((q 1), .inl (cs.2.2.2, 16, .inr (.inr (.inr (.inr (roA v_ro)))))), ((q 2), .inl (cs.1, 100, .inl v_told)), ((q 3), .inl (cs.1, 64, .inl v_row)), ((q 4), .inl (cs.1, 7, .inl v_asked)), ((q 12), .inr (2, [.ref (q 13), .int v_places, .ref (q 14)])), ((q 13), .inl (cs.2.1, 512, .inr (.inl v_syndromes))), ((q 14), .inr (5, [.ref (q 15), .ref (q 16), .ref (q 17), .ref (q 18), .int v_size])), ((q 15), .inl (cs.1, 512, .inl v_firstEntry)), ((q 16), .inl (cs.1, 1128, .inl v_nextEntry)), ((q 17), .inl (cs.2.1, 1128, .inr (.inl v_numbers))), ((q 18), .inl (cs.1, 1128, .inl v_counts)), ((q 19), .inl (cs.1, 4, .inl v_lightestPlaces)), ((q 20), .inr (0, [.ref (q 21), .int v_placeCount, .ref (q 22), .int v_wayCount, .ref (q 23), .ref (q 24)])), ((q 21), .inl (cs.1, 16, .inl v_toldPlaces)), ((q 22), .inl (cs.1, 64, .inl v_ways)), ((q 23), .inl (cs.1, 16, .inl v_usable)), ((q 24), .inl (cs.2.1, 16, .inr (.inl v_upTo)))]) (w2 := (ww_C q cs v_ro v_sumCount v_told v_toldCount v_row v_rowLength v_asked r7.2.1 r7.2.2.1 r7.2.2.2.1 r7.2.2.2.2.1 r7.2.2.2.2.2.1 r7.2.2.2.2.2.2.1 r7.2.2.2.2.2.2.2 v_syndromes v_places v_firstEntry v_nextEntry v_numbers v_counts v_size v_lightestPlaces v_lightestCount v_toldPlaces v_placeCount v_ways v_wayCount v_usable v_upTo)) (va_runV (As := [.ref y1.1, .int x2, .int x3, .int x4]) (rest := []) ⟨hx, hb, hml, hown, hts⟩ (c_X4_findFirst l G cs (fun i => q (i + 5)) H.size v_rising v_falling v_turned v_totals v_before v_after v_keptBytes  y1.1 y1.2.1 y1.2.2 x2 x3 x4 n r7 hc_r7) (cwV 4 hts gX11_sees_X4_findFirst rfl rfl rfl ⟨rfl, hd_X4_findFirst⟩ ⟨Nat.le_of_ble_eq_true rfl, Nat.le_of_ble_eq_true rfl⟩) ⟨pre_blind, va_recv hK.1 hP (ci := 3) (q0 := 5) rfl rfl, pre_w hK (RO.one hj1 (RO.at hS hRo)) (P_by hP [5, 6, 7, 8, 9, 10, 11] rfl) (hD.sub [5, 6, 7, 8, 9, 10, 11] (by decide) rfl) (va_free hD hS hA [5, 6, 7, 8, 9, 10, 11] rfl)⟩ rfl rfl hl.1 rfl (lv_room (Nat.le_of_ble_eq_true rfl)) dX11_sees_68 ⟨Nat.zero_le _, Nat.zero_le _⟩) hP hD hS hA [5, 6, 7, 8, 9, 10, 11] [0, 1, 2, 3, 4, 12, 13, 14, 15, 16, 17, 18, 19, 20, 21, 22, 23, 24] [0, 1, 2, 3, 4, 18, 19, 20, 21, 22, 23, 24, 5, 6, 7, 8, 9, 10, 11, 12, 13, 14, 15, 16, 17] rfl rfl (by decide) (by decide) rfl (by decide) (fun hE8 H locs hP hD hS => ?_)
          have hP : va_P G vwCl (ww_C q cs v_ro v_sumCount v_told v_toldCount v_row v_rowLength v_asked r7.2.1 r7.2.2.1 r7.2.2.2.1 r7.2.2.2.2.1 r7.2.2.2.2.2.1 r7.2.2.2.2.2.2.1 r7.2.2.2.2.2.2.2 v_syndromes v_places v_firstEntry v_nextEntry v_numbers v_counts v_size v_lightestPlaces v_lightestCount v_toldPlaces v_placeCount v_ways v_wayCount v_usable v_upTo) H := hP
          have hD : va_D A (ww_C q cs v_ro v_sumCount v_told v_toldCount v_row v_rowLength v_asked r7.2.1 r7.2.2.1 r7.2.2.2.1 r7.2.2.2.2.1 r7.2.2.2.2.2.1 r7.2.2.2.2.2.2.1 r7.2.2.2.2.2.2.2 v_syndromes v_places v_firstEntry v_nextEntry v_numbers v_counts v_size v_lightestPlaces v_lightestCount v_toldPlaces v_placeCount v_ways v_wayCount v_usable v_upTo) := hD
          refine lv_if_eq (tgt := 78) hx hb dX11_sees_71 (by decide) (fun b9 => ?_) (fun b9 => ?_)
          · have hm := i_t b9 hm
            refine lv_iconst (v := 1) hx hb dX11_sees_78 (by decide) ?_
            have hq := Option.some.inj hm
            subst hq; subst hQ
            exact k_iret hx hb hr hlocks hP hD hS rfl trivial dX11_sees_79
          · have hm := i_f b9 hm
            refine lv_iconst (v := 0) hx hb dX11_sees_74 (by decide) ?_
            refine lv_goto (tgt := 79) hx hb dX11_sees_75 (by decide) ?_
            have hq := Option.some.inj hm
            subst hq; subst hQ
            exact k_iret hx hb hr hlocks hP hD hS rfl trivial dX11_sees_79
        · have hm := i_t b6 hm
          refine lv_bipush (v := (-3)) hx hb dX11_sees_55 (by decide) ?_
          have hq := Option.some.inj hm
          subst hq; subst hQ
          exact k_iret hx hb hr hlocks hP hD hS rfl trivial dX11_sees_57
    · have hm := i_f b2 hm
      have b2n := not_L hv1 b2
      refine instn_L (own := RX11) hx hb hown wd1 hK (RO.at hS hRo j1 _ hj1).1 b2n dX11_sees_17 ?_
      refine lv_if_eq (tgt := 33) hx hb dX11_sees_20 (by decide) (fun b9 => ?_) (fun b9 => absurd (by decide) b9)
      refine lv_bipush (v := (-4)) hx hb dX11_sees_33 (by decide) ?_
      have hq := Option.some.inj hm
      subst hq; subst hQ
      exact k_iret hx hb hr hlocks hP hD hS rfl trivial dX11_sees_35

theorem hd_X11_passes : yX11_passes.cls ≠ "java/lang/invoke/MethodHandle" ∧ yX11_passes.cls ≠ "java/lang/invoke/VarHandle" ∧ (parseMethodDescriptor yX11_passes.desc).map (fun d => d.parameters.length) = some 2 := by decide +kernel

def M_X11_passes (x1 : Int32) (x2 : Int32) (v_before : (Nat → Int32)) (v_after : (Nat → Int32)) (v_keptBytes : Int32) : Option Int32 :=
  if (M_X11_within x1 (0 : Int32) (v_keptBytes - 1)) = 0 then (some (-2)) else (if x2 = 0 then (if x1 < 0 ∨ 8 ≤ x1.toNatClampNeg then none else some (v_before x1.toNatClampNeg)) else (if x1 < 0 ∨ 8 ≤ x1.toNatClampNeg then none else some (v_after x1.toNatClampNeg)))

abbrev rmX11_passes : Room := { frames := 1, cells := 0, slots := 0, locals := 22 }
set_option maxHeartbeats 4000000 in
set_option maxRecDepth 100000 in
theorem c_X11_passes (l : Launch) (G : va_G) (cs : CS) (q : Nat → Nat) (sz : Nat) (v_ro : RF) (v_sumCount : Int32) (v_told : (Nat → Int32)) (v_toldCount : Int32) (v_row : (Nat → Int32)) (v_rowLength : Int32) (v_asked : (Nat → Int32)) (v_rising : (Nat → Int64)) (v_falling : (Nat → Int64)) (v_turned : (Nat → Int32)) (v_totals : (Nat → Int64)) (v_before : (Nat → Int32)) (v_after : (Nat → Int32)) (v_keptBytes : Int32) (v_syndromes : (Nat → Int64)) (v_places : Int32) (v_firstEntry : (Nat → Int32)) (v_nextEntry : (Nat → Int32)) (v_numbers : (Nat → Int64)) (v_counts : (Nat → Int32)) (v_size : Int32) (v_lightestPlaces : (Nat → Int32)) (v_lightestCount : Int32) (v_toldPlaces : (Nat → Int32)) (v_placeCount : Int32) (v_ways : (Nat → Int32)) (v_wayCount : Int32) (v_usable : (Nat → Int32)) (v_upTo : (Nat → Int64))   (x1 : Int32) (x2 : Int32) (res : Int32) (hm : M_X11_passes x1 x2 v_before v_after v_keptBytes = some res) : Met l yX11_passes wsX11_passes rmX11_passes (va_Pc [.ref (q 0), .int x1, .int x2] (PreW G cs sz (ww_C q cs v_ro v_sumCount v_told v_toldCount v_row v_rowLength v_asked v_rising v_falling v_turned v_totals v_before v_after v_keptBytes v_syndromes v_places v_firstEntry v_nextEntry v_numbers v_counts v_size v_lightestPlaces v_lightestCount v_toldPlaces v_placeCount v_ways v_wayCount v_usable v_upTo) v_ro)) (QI G res True (ww_C q cs v_ro v_sumCount v_told v_toldCount v_row v_rowLength v_asked v_rising v_falling v_turned v_totals v_before v_after v_keptBytes v_syndromes v_places v_firstEntry v_nextEntry v_numbers v_counts v_size v_lightestPlaces v_lightestCount v_toldPlaces v_placeCount v_ways v_wayCount v_usable v_upTo) (va_A (ww_C q cs v_ro v_sumCount v_told v_toldCount v_row v_rowLength v_asked v_rising v_falling v_turned v_totals v_before v_after v_keptBytes v_syndromes v_places v_firstEntry v_nextEntry v_numbers v_counts v_size v_lightestPlaces v_lightestCount v_toldPlaces v_placeCount v_ways v_wayCount v_usable v_upTo) sz)) 0 0 (va_A (ww_C q cs v_ro v_sumCount v_told v_toldCount v_row v_rowLength v_asked v_rising v_falling v_turned v_totals v_before v_after v_keptBytes v_syndromes v_places v_firstEntry v_nextEntry v_numbers v_counts v_size v_lightestPlaces v_lightestCount v_toldPlaces v_placeCount v_ways v_wayCount v_usable v_upTo) sz) := by
  refine k_enter (Qf := fun A => QI G res True (ww_C q cs v_ro v_sumCount v_told v_toldCount v_row v_rowLength v_asked v_rising v_falling v_turned v_totals v_before v_after v_keptBytes v_syndromes v_places v_firstEntry v_nextEntry v_numbers v_counts v_size v_lightestPlaces v_lightestCount v_toldPlaces v_placeCount v_ways v_wayCount v_usable v_upTo) A) (cc := cX11_passes) (maxL := 3) (ret := (some .int)) (plainFor_of_name (by decide)) rfl (Nat.le_of_ble_eq_true rfl) ?_
  intro p e s m args below meth c A Q ls H locs hx hb hr hml hown hts hlocks hname hK hA hRo hP hD hS hQ hl
  have hl : lv_has ls 3 [(0, .ref (q 0)), (1, .int x1), (2, .int x2)] := hl
  have wd1 := hts (.fieldLink RX11 38 "SumSmith" "slips" "LSumSmith$Slips;") (List.mem_of_getElem? (i := 1) rfl)
  have wd2 := hts (.fieldLink RX11 177 "SumSmith$Slips" "keptBytes" "I") (List.mem_of_getElem? (i := 2) rfl)
  have wd4 := hts (.fieldLink RX11 183 "SumSmith$Slips" "before" "[I") (List.mem_of_getElem? (i := 4) rfl)
  have wd3 := hts (.fieldLink RX11 180 "SumSmith$Slips" "after" "[I") (List.mem_of_getElem? (i := 3) rfl)
  have hinX11 : ∀ w ∈ wsX110, w ∈ wsX11_passes := fun w h => List.mem_cons_of_mem _ (List.mem_append_left _ (List.mem_append_right _ h))
  have hinX4 : ∀ w ∈ wsX40, w ∈ wsX11_passes := fun w h => List.mem_cons_of_mem _ (List.mem_append_right _ h)
  unfold M_X11_passes at hm
  refine lv_iload_n hx hb dX11_passes_0 rfl (lv_at hl 1 rfl) ?_
  refine lv_iconst (v := 0) hx hb dX11_passes_1 (by decide) ?_
  refine lv_aload_n hx hb dX11_passes_2 rfl (lv_at hl 0 rfl) ?_
  refine va_get (D := G) (ci := 9) (v := .ref (q 5)) (C := RX11) (T := TX11) (N := 12) hx hb hts hinX11 hown hK.1 hP 0 rfl rfl 7 (by decide) wd1 (fun _ h9 => h9) rfl dX11_passes_3 ?_
  refine va_get (D := G) (ci := 3) (v := .int v_keptBytes) (C := RX4) (T := TX4) (N := 7) hx hb hts hinX4 hown hK.1 hP 5 rfl rfl 6 (by decide) wd2 (fun _ h9 => h9) rfl dX11_passes_6 ?_
  refine lv_iconst (v := 1) hx hb dX11_passes_9 (by decide) ?_
  refine lv_isub hx hb dX11_passes_10 ?_
  refine k_calli0 (va_runS (As := [.int x1, .int 0, .int (v_keptBytes - 1)]) (rest := []) ⟨hx, hb, hml, hown, hts⟩ (c_X11_within l G cs H.size    x1 (0 : Int32) (v_keptBytes - 1) _ rfl) (va_cwS 3 hts gX11_passes_X11_within rfl rfl rfl hd_X11_within ⟨Nat.le_of_ble_eq_true rfl, Nat.le_of_ble_eq_true rfl⟩) ⟨pre_blind, pre_w hK RO.nil P0 D0 (va_new0 hS hA)⟩ rfl rfl hl.1 rfl (lv_room (Nat.le_of_ble_eq_true rfl)) dX11_passes_11 ⟨Nat.zero_le _, Nat.zero_le _⟩) hP hS hA (fun hE1 H locs hP hS => ?_)
  refine lv_if_ne (tgt := 20) hx hb dX11_passes_14 (by decide) (fun b2 => ?_) (fun b2 => ?_)
  · have hm := i_f b2 hm
    refine lv_iload_n hx hb dX11_passes_20 rfl (lv_at hl 2 rfl) ?_
    refine lv_if_eq (tgt := 36) hx hb dX11_passes_21 (by decide) (fun b3 => ?_) (fun b3 => ?_)
    · have hm := i_t b3 hm
      refine lv_aload_n hx hb dX11_passes_36 rfl (lv_at hl 0 rfl) ?_
      refine va_get (D := G) (ci := 9) (v := .ref (q 5)) (C := RX11) (T := TX11) (N := 12) hx hb hts hinX11 hown hK.1 hP 0 rfl rfl 7 (by decide) wd1 (fun _ h9 => h9) rfl dX11_passes_37 ?_
      refine va_get (D := G) (ci := 3) (v := .ref (q 10)) (C := RX4) (T := TX4) (N := 7) hx hb hts hinX4 hown hK.1 hP 5 rfl rfl 4 (by decide) wd4 (fun _ h9 => h9) rfl dX11_passes_40 ?_
      refine lv_iload_n hx hb dX11_passes_43 rfl (lv_at hl 1 rfl) ?_
      obtain ⟨h4, hm⟩ := g_in hm
      refine va_iald hx hb hK.1 hP 10 0 rfl rfl h4 dX11_passes_44 ?_
      have hq := Option.some.inj hm
      subst hq; subst hQ
      exact k_iret hx hb hr hlocks hP hD hS rfl trivial dX11_passes_45
    · have hm := i_f b3 hm
      refine lv_aload_n hx hb dX11_passes_24 rfl (lv_at hl 0 rfl) ?_
      refine va_get (D := G) (ci := 9) (v := .ref (q 5)) (C := RX11) (T := TX11) (N := 12) hx hb hts hinX11 hown hK.1 hP 0 rfl rfl 7 (by decide) wd1 (fun _ h9 => h9) rfl dX11_passes_25 ?_
      refine va_get (D := G) (ci := 3) (v := .ref (q 11)) (C := RX4) (T := TX4) (N := 7) hx hb hts hinX4 hown hK.1 hP 5 rfl rfl 5 (by decide) wd3 (fun _ h9 => h9) rfl dX11_passes_28 ?_
      refine lv_iload_n hx hb dX11_passes_31 rfl (lv_at hl 1 rfl) ?_
      obtain ⟨h5, hm⟩ := g_in hm
      refine va_iald hx hb hK.1 hP 11 0 rfl rfl h5 dX11_passes_32 ?_
      refine lv_goto (tgt := 45) hx hb dX11_passes_33 (by decide) ?_
      have hq := Option.some.inj hm
      subst hq; subst hQ
      exact k_iret hx hb hr hlocks hP hD hS rfl trivial dX11_passes_45
  · have hm := i_t b2 hm
    refine lv_bipush (v := (-2)) hx hb dX11_passes_17 (by decide) ?_
    have hq := Option.some.inj hm
    subst hq; subst hQ
    exact k_iret hx hb hr hlocks hP hD hS rfl trivial dX11_passes_19

theorem hd_X11_signs : yX11_signs.cls ≠ "java/lang/invoke/MethodHandle" ∧ yX11_signs.cls ≠ "java/lang/invoke/VarHandle" ∧ (parseMethodDescriptor yX11_signs.desc).map (fun d => d.parameters.length) = some 2 := by decide +kernel

def M_X11_signs (n : Nat) (x1 : Int32) (x2 : Int32) (v_ro : RF) (v_sumCount : Int32) : Option Int32 :=
  (M_X11_sumAt x1 v_ro v_sumCount).bind fun r1 => Option.elim r1 (some (-2)) (fun y1 => if y1.2.2.1 = 8 ∨ y1.2.2.1 = 7 ∨ y1.2.2.1 = 6 ∨ y1.2.2.1 = 1 ∨ y1.2.2.1 = 4 then (if y1.2.2.1 = 4 then (if x2 = 0 then ((M_X5_seesSingles n y1.2.2.2.2.1 y1.2.2.2.2.2.2.2.2.2.2.1 y1.2.2.2.2.2.2.2.2.2.2.2).bind fun r4 => if r4 = 0 then (some 0) else (some 1)) else (if x2 = 1 then ((M_X5_seesSwaps n y1.2.2.2.2.1 y1.2.2.2.2.2.2.2.2.2.2.1 y1.2.2.2.2.2.2.2.2.2.2.2).bind fun r8 => if r8 = 0 then (some 0) else (some 1)) else (if x2 = 2 then ((M_X5_seesTwins n y1.2.2.2.2.1 y1.2.2.2.2.2.2.2.2.2.2.1 y1.2.2.2.2.2.2.2.2.2.2.2).bind fun r12 => if r12 = 0 then (some 0) else (some 1)) else (some (-3))))) else (some (-4))) else none)

abbrev rmX11_signs : Room := { frames := 2, cells := 0, slots := 0, locals := 45 }
set_option maxHeartbeats 4000000 in
set_option maxRecDepth 100000 in
theorem c_X11_signs (l : Launch) (G : va_G) (cs : CS) (q : Nat → Nat) (sz : Nat) (v_ro : RF) (v_sumCount : Int32) (v_told : (Nat → Int32)) (v_toldCount : Int32) (v_row : (Nat → Int32)) (v_rowLength : Int32) (v_asked : (Nat → Int32)) (v_rising : (Nat → Int64)) (v_falling : (Nat → Int64)) (v_turned : (Nat → Int32)) (v_totals : (Nat → Int64)) (v_before : (Nat → Int32)) (v_after : (Nat → Int32)) (v_keptBytes : Int32) (v_syndromes : (Nat → Int64)) (v_places : Int32) (v_firstEntry : (Nat → Int32)) (v_nextEntry : (Nat → Int32)) (v_numbers : (Nat → Int64)) (v_counts : (Nat → Int32)) (v_size : Int32) (v_lightestPlaces : (Nat → Int32)) (v_lightestCount : Int32) (v_toldPlaces : (Nat → Int32)) (v_placeCount : Int32) (v_ways : (Nat → Int32)) (v_wayCount : Int32) (v_usable : (Nat → Int32)) (v_upTo : (Nat → Int64))   (x1 : Int32) (x2 : Int32) (n : Nat) (res : Int32) (hm : M_X11_signs n x1 x2 v_ro v_sumCount = some res) : Met l yX11_signs wsX11_signs rmX11_signs (va_Pc [.ref (q 0), .int x1, .int x2] (PreW G cs sz (ww_C q cs v_ro v_sumCount v_told v_toldCount v_row v_rowLength v_asked v_rising v_falling v_turned v_totals v_before v_after v_keptBytes v_syndromes v_places v_firstEntry v_nextEntry v_numbers v_counts v_size v_lightestPlaces v_lightestCount v_toldPlaces v_placeCount v_ways v_wayCount v_usable v_upTo) v_ro)) (QI G res True (ww_C q cs v_ro v_sumCount v_told v_toldCount v_row v_rowLength v_asked v_rising v_falling v_turned v_totals v_before v_after v_keptBytes v_syndromes v_places v_firstEntry v_nextEntry v_numbers v_counts v_size v_lightestPlaces v_lightestCount v_toldPlaces v_placeCount v_ways v_wayCount v_usable v_upTo) (va_A (ww_C q cs v_ro v_sumCount v_told v_toldCount v_row v_rowLength v_asked v_rising v_falling v_turned v_totals v_before v_after v_keptBytes v_syndromes v_places v_firstEntry v_nextEntry v_numbers v_counts v_size v_lightestPlaces v_lightestCount v_toldPlaces v_placeCount v_ways v_wayCount v_usable v_upTo) sz)) 0 0 (va_A (ww_C q cs v_ro v_sumCount v_told v_toldCount v_row v_rowLength v_asked v_rising v_falling v_turned v_totals v_before v_after v_keptBytes v_syndromes v_places v_firstEntry v_nextEntry v_numbers v_counts v_size v_lightestPlaces v_lightestCount v_toldPlaces v_placeCount v_ways v_wayCount v_usable v_upTo) sz) := by
  refine k_enter (Qf := fun A => QI G res True (ww_C q cs v_ro v_sumCount v_told v_toldCount v_row v_rowLength v_asked v_rising v_falling v_turned v_totals v_before v_after v_keptBytes v_syndromes v_places v_firstEntry v_nextEntry v_numbers v_counts v_size v_lightestPlaces v_lightestCount v_toldPlaces v_placeCount v_ways v_wayCount v_usable v_upTo) A) (cc := cX11_signs) (maxL := 5) (ret := (some .int)) (plainFor_of_name (by decide)) rfl (Nat.le_of_ble_eq_true rfl) ?_
  intro p e s m args below meth c A Q ls H locs hx hb hr hml hown hts hlocks hname hK hA hRo hP hD hS hQ hl
  have hl : lv_has ls 5 [(0, .ref (q 0)), (1, .int x1), (2, .int x2)] := hl
  have wd1 := hts (.classLink RX11 115 "SumSmith$Square") (List.mem_of_getElem? (i := 1) rfl)
  unfold M_X11_signs at hm
  refine lv_aload_n hx hb dX11_signs_0 rfl (lv_at hl 0 rfl) ?_
  refine lv_iload_n hx hb dX11_signs_1 rfl (lv_at hl 1 rfl) ?_
  obtain ⟨r1, hc_r1, hm⟩ := bs hm
  refine k_callq (va_runV (As := [.int x1]) (rest := []) ⟨hx, hb, hml, hown, hts⟩ (c_X11_sumAt l G cs q H.size v_ro v_sumCount v_told v_toldCount v_row v_rowLength v_asked v_rising v_falling v_turned v_totals v_before v_after v_keptBytes v_syndromes v_places v_firstEntry v_nextEntry v_numbers v_counts v_size v_lightestPlaces v_lightestCount v_toldPlaces v_placeCount v_ways v_wayCount v_usable v_upTo x1 r1 hc_r1) (cwV 1 hts gX11_signs_X11_sumAt rfl rfl rfl ⟨rfl, hd_X11_sumAt⟩ ⟨Nat.le_of_ble_eq_true rfl, Nat.le_of_ble_eq_true rfl⟩) ⟨pre_blind, va_recv hK.1 hP (ci := 9) (q0 := 0) rfl rfl, pre_w hK (RO.at hS hRo) hP hD (va_all hD hS hA)⟩ rfl rfl hl.1 rfl (lv_room (Nat.le_of_ble_eq_true rfl)) dX11_signs_2 ⟨Nat.zero_le _, Nat.zero_le _⟩) hS (va_all hD hS hA) (fun H locs hP hD hS => ?_)
  have hP : va_P G vwCl (ww_C q cs v_ro v_sumCount v_told v_toldCount v_row v_rowLength v_asked v_rising v_falling v_turned v_totals v_before v_after v_keptBytes v_syndromes v_places v_firstEntry v_nextEntry v_numbers v_counts v_size v_lightestPlaces v_lightestCount v_toldPlaces v_placeCount v_ways v_wayCount v_usable v_upTo) H := hP
  have hD : va_D A (ww_C q cs v_ro v_sumCount v_told v_toldCount v_row v_rowLength v_asked v_rising v_falling v_turned v_totals v_before v_after v_keptBytes v_syndromes v_places v_firstEntry v_nextEntry v_numbers v_counts v_size v_lightestPlaces v_lightestCount v_toldPlaces v_placeCount v_ways v_wayCount v_usable v_upTo) := hD
  cases r1 with
  | none =>
    have hm := oe_n hm
    refine lv_astore_nN (lv' := [(3, .null), (0, .ref (q 0)), (1, .int x1), (2, .int x2)]) hx hb dX11_signs_5 rfl hl (by decide) rfl (fun ls hl => ?_)
    refine lv_aload_nN hx hb dX11_signs_6 rfl (lv_at hl 0 rfl) ?_
    refine lv_ifnonnullN hx hb dX11_signs_7 ?_
    refine lv_bipush (v := (-2)) hx hb dX11_signs_10 (by decide) ?_
    have hq := Option.some.inj hm
    subst hq; subst hQ
    exact k_iret hx hb hr hlocks hP hD hS rfl trivial dX11_signs_12
  | some y1 =>
    have hm := oe_s hm
    obtain ⟨j1, hj1⟩ := sumAt_ro hc_r1
    obtain ⟨hv1, hm⟩ := g_pos hm
    refine lv_astore_n (lv' := [(3, .ref y1.1), (0, .ref (q 0)), (1, .int x1), (2, .int x2)]) hx hb dX11_signs_5 rfl hl (by decide) rfl (fun ls hl => ?_)
    refine lv_aload_n hx hb dX11_signs_6 rfl (lv_at hl 0 rfl) ?_
    refine lv_ifnonnull (tgt := 13) hx hb dX11_signs_7 (by decide) ?_
    refine lv_aload_n hx hb dX11_signs_13 rfl (lv_at hl 0 rfl) ?_
    by_cases b2 : y1.2.2.1 = 4
    · have hm := i_t b2 hm
      refine inst_S (own := RX11) hx hb hown wd1 hK (RO.at hS hRo j1 _ hj1).1 b2 dX11_signs_14 ?_
      refine lv_if_eq (tgt := 29) hx hb dX11_signs_17 (by decide) (fun b9 => absurd b9 (by decide)) (fun b9 => ?_)
      refine lv_aload_n hx hb dX11_signs_20 rfl (lv_at hl 0 rfl) ?_
      refine cast_S (own := RX11) hx hb hown wd1 hK (RO.at hS hRo j1 _ hj1).1 b2 dX11_signs_21 ?_
      refine lv_astore (lv' := [(4, .ref y1.1), (3, .ref y1.1), (0, .ref (q 0)), (1, .int x1), (2, .int x2)]) hx hb dX11_signs_24 hl (by decide) rfl (fun ls hl => ?_)
      refine lv_goto (tgt := 32) hx hb dX11_signs_26 (by decide) ?_
      refine lv_iload_n hx hb dX11_signs_32 rfl (lv_at hl 4 rfl) ?_
      by_cases b3 : x2 = 0
      · have hm := i_t b3 hm
        refine lv_tableIn (tgt := 60) hx hb dX11_signs_33 (by rw [b3]; decide) (by rw [b3]; decide) (by rw [b3]; rfl) (by decide) ?_
        refine lv_aload hx hb dX11_signs_60 (lv_at hl 0 rfl) ?_
        obtain ⟨r4, hc_r4, hm⟩ := bs hm
        refine k_calli0 (va_runV (As := []) (rest := []) ⟨hx, hb, hml, hown, hts⟩ (c_X5_seesSingles l G cs H.size   y1.1 y1.2.1 y1.2.2.2.1 y1.2.2.2.2.1 y1.2.2.2.2.2.1 y1.2.2.2.2.2.2.1 y1.2.2.2.2.2.2.2.1 y1.2.2.2.2.2.2.2.2.1 y1.2.2.2.2.2.2.2.2.2.1 y1.2.2.2.2.2.2.2.2.2.2.1 y1.2.2.2.2.2.2.2.2.2.2.2  n r4 hc_r4) (cwV 0 hts gX11_signs_X5_seesSingles rfl rfl rfl ⟨rfl, hd_X5_seesSingles⟩ ⟨Nat.le_of_ble_eq_true rfl, Nat.le_of_ble_eq_true rfl⟩) ⟨pre_blind, va_recv hK.1 (sqF (RO.at hS hRo j1 _ hj1).1 b2) (ci := 4) (q0 := 0) rfl rfl, pre_w hK (RO.cls hj1 b2 (RO.at hS hRo)) P0 D0 (va_new0 hS hA)⟩ rfl rfl hl.1 rfl (lv_room (Nat.le_of_ble_eq_true rfl)) dX11_signs_62 ⟨Nat.zero_le _, Nat.zero_le _⟩) hP hS hA (fun hE5 H locs hP hS => ?_)
        refine lv_if_eq (tgt := 72) hx hb dX11_signs_65 (by decide) (fun b6 => ?_) (fun b6 => ?_)
        · have hm := i_t b6 hm
          refine lv_iconst (v := 0) hx hb dX11_signs_72 (by decide) ?_
          have hq := Option.some.inj hm
          subst hq; subst hQ
          exact k_iret hx hb hr hlocks hP hD hS rfl trivial dX11_signs_73
        · have hm := i_f b6 hm
          refine lv_iconst (v := 1) hx hb dX11_signs_68 (by decide) ?_
          refine lv_goto (tgt := 73) hx hb dX11_signs_69 (by decide) ?_
          have hq := Option.some.inj hm
          subst hq; subst hQ
          exact k_iret hx hb hr hlocks hP hD hS rfl trivial dX11_signs_73
      have hm := i_f b3 hm
      by_cases b7 : x2 = 1
      · have hm := i_t b7 hm
        refine lv_tableIn (tgt := 74) hx hb dX11_signs_33 (by rw [b7]; decide) (by rw [b7]; decide) (by rw [b7]; rfl) (by decide) ?_
        refine lv_aload hx hb dX11_signs_74 (lv_at hl 0 rfl) ?_
        obtain ⟨r8, hc_r8, hm⟩ := bs hm
        refine k_calli0 (va_runV (As := []) (rest := []) ⟨hx, hb, hml, hown, hts⟩ (c_X5_seesSwaps l G cs H.size   y1.1 y1.2.1 y1.2.2.2.1 y1.2.2.2.2.1 y1.2.2.2.2.2.1 y1.2.2.2.2.2.2.1 y1.2.2.2.2.2.2.2.1 y1.2.2.2.2.2.2.2.2.1 y1.2.2.2.2.2.2.2.2.2.1 y1.2.2.2.2.2.2.2.2.2.2.1 y1.2.2.2.2.2.2.2.2.2.2.2  n r8 hc_r8) (cwV 0 hts gX11_signs_X5_seesSwaps rfl rfl rfl ⟨rfl, hd_X5_seesSwaps⟩ ⟨Nat.le_of_ble_eq_true rfl, Nat.le_of_ble_eq_true rfl⟩) ⟨pre_blind, va_recv hK.1 (sqF (RO.at hS hRo j1 _ hj1).1 b2) (ci := 4) (q0 := 0) rfl rfl, pre_w hK (RO.cls hj1 b2 (RO.at hS hRo)) P0 D0 (va_new0 hS hA)⟩ rfl rfl hl.1 rfl (lv_room (Nat.le_of_ble_eq_true rfl)) dX11_signs_76 ⟨Nat.zero_le _, Nat.zero_le _⟩) hP hS hA (fun hE9 H locs hP hS => ?_)
        refine lv_if_eq (tgt := 86) hx hb dX11_signs_79 (by decide) (fun b10 => ?_) (fun b10 => ?_)
        · have hm := i_t b10 hm
          refine lv_iconst (v := 0) hx hb dX11_signs_86 (by decide) ?_
          have hq := Option.some.inj hm
          subst hq; subst hQ
          exact k_iret hx hb hr hlocks hP hD hS rfl trivial dX11_signs_87
        · have hm := i_f b10 hm
          refine lv_iconst (v := 1) hx hb dX11_signs_82 (by decide) ?_
          refine lv_goto (tgt := 87) hx hb dX11_signs_83 (by decide) ?_
          have hq := Option.some.inj hm
          subst hq; subst hQ
          exact k_iret hx hb hr hlocks hP hD hS rfl trivial dX11_signs_87
      have hm := i_f b7 hm
      by_cases b11 : x2 = 2
      · have hm := i_t b11 hm
        refine lv_tableIn (tgt := 88) hx hb dX11_signs_33 (by rw [b11]; decide) (by rw [b11]; decide) (by rw [b11]; rfl) (by decide) ?_
        refine lv_aload hx hb dX11_signs_88 (lv_at hl 0 rfl) ?_
        obtain ⟨r12, hc_r12, hm⟩ := bs hm
        refine k_calli0 (va_runV (As := []) (rest := []) ⟨hx, hb, hml, hown, hts⟩ (c_X5_seesTwins l G cs H.size   y1.1 y1.2.1 y1.2.2.2.1 y1.2.2.2.2.1 y1.2.2.2.2.2.1 y1.2.2.2.2.2.2.1 y1.2.2.2.2.2.2.2.1 y1.2.2.2.2.2.2.2.2.1 y1.2.2.2.2.2.2.2.2.2.1 y1.2.2.2.2.2.2.2.2.2.2.1 y1.2.2.2.2.2.2.2.2.2.2.2  n r12 hc_r12) (cwV 0 hts gX11_signs_X5_seesTwins rfl rfl rfl ⟨rfl, hd_X5_seesTwins⟩ ⟨Nat.le_of_ble_eq_true rfl, Nat.le_of_ble_eq_true rfl⟩) ⟨pre_blind, va_recv hK.1 (sqF (RO.at hS hRo j1 _ hj1).1 b2) (ci := 4) (q0 := 0) rfl rfl, pre_w hK (RO.cls hj1 b2 (RO.at hS hRo)) P0 D0 (va_new0 hS hA)⟩ rfl rfl hl.1 rfl (lv_room (Nat.le_of_ble_eq_true rfl)) dX11_signs_90 ⟨Nat.zero_le _, Nat.zero_le _⟩) hP hS hA (fun hE13 H locs hP hS => ?_)
        refine lv_if_eq (tgt := 100) hx hb dX11_signs_93 (by decide) (fun b14 => ?_) (fun b14 => ?_)
        · have hm := i_t b14 hm
          refine lv_iconst (v := 0) hx hb dX11_signs_100 (by decide) ?_
          have hq := Option.some.inj hm
          subst hq; subst hQ
          exact k_iret hx hb hr hlocks hP hD hS rfl trivial dX11_signs_101
        · have hm := i_f b14 hm
          refine lv_iconst (v := 1) hx hb dX11_signs_96 (by decide) ?_
          refine lv_goto (tgt := 101) hx hb dX11_signs_97 (by decide) ?_
          have hq := Option.some.inj hm
          subst hq; subst hQ
          exact k_iret hx hb hr hlocks hP hD hS rfl trivial dX11_signs_101
      have hm := i_f b11 hm
      have b3 : ¬ (x2).toInt = 0 := fun e9 => ne_ti b3 (e9.trans (by decide))
      have b7 : ¬ (x2).toInt = 1 := fun e9 => ne_ti b7 (e9.trans (by decide))
      have b11 : ¬ (x2).toInt = 2 := fun e9 => ne_ti b11 (e9.trans (by decide))
      refine lv_tableOut (tgt := 102) hx hb dX11_signs_33 (by omega) (by decide) ?_
      refine lv_bipush (v := (-3)) hx hb dX11_signs_102 (by decide) ?_
      have hq := Option.some.inj hm
      subst hq; subst hQ
      exact k_iret hx hb hr hlocks hP hD hS rfl trivial dX11_signs_104
    · have hm := i_f b2 hm
      have b2n := not_S hv1 b2
      refine instn_S (own := RX11) hx hb hown wd1 hK (RO.at hS hRo j1 _ hj1).1 b2n dX11_signs_14 ?_
      refine lv_if_eq (tgt := 29) hx hb dX11_signs_17 (by decide) (fun b9 => ?_) (fun b9 => absurd (by decide) b9)
      refine lv_bipush (v := (-4)) hx hb dX11_signs_29 (by decide) ?_
      have hq := Option.some.inj hm
      subst hq; subst hQ
      exact k_iret hx hb hr hlocks hP hD hS rfl trivial dX11_signs_31

theorem hd_X11_syndrome : yX11_syndrome.cls ≠ "java/lang/invoke/MethodHandle" ∧ yX11_syndrome.cls ≠ "java/lang/invoke/VarHandle" ∧ (parseMethodDescriptor yX11_syndrome.desc).map (fun d => d.parameters.length) = some 3 := by decide +kernel

def M_X11_syndrome (n : Nat) (x1 : Int32) (x2 : Int32) (x3 : Int32) (v_ro : RF) (v_sumCount : Int32) : Option Int64 :=
  (M_X11_sumAt x1 v_ro v_sumCount).bind fun r1 => Option.elim r1 (some (-2)) (fun y1 => if y1.2.2.1 = 8 ∨ y1.2.2.1 = 7 ∨ y1.2.2.1 = 6 ∨ y1.2.2.1 = 1 ∨ y1.2.2.1 = 4 then (if y1.2.2.1 = 1 then (if (M_X11_within x3 (1 : Int32) (64 : Int32)) = 0 then (some (-3)) else (if (M_X11_within x2 (0 : Int32) ((8 * x3) - 1)) = 0 then (some (-3)) else ((M_X1_changed n x3 (M_X11_byteOfPlace x2) (0 : Int32) (M_X11_bitOfPlace x2) y1.2.2.2.2.1 y1.2.2.2.2.2.2.1 y1.2.2.2.2.2.2.2.2.2.1).bind fun r9 => some r9))) else (some (-4))) else none)

abbrev rmX11_syndrome : Room := { frames := 4, cells := 0, slots := 0, locals := 98 }
set_option maxHeartbeats 4000000 in
set_option maxRecDepth 100000 in
theorem c_X11_syndrome (l : Launch) (G : va_G) (cs : CS) (q : Nat → Nat) (sz : Nat) (v_ro : RF) (v_sumCount : Int32) (v_told : (Nat → Int32)) (v_toldCount : Int32) (v_row : (Nat → Int32)) (v_rowLength : Int32) (v_asked : (Nat → Int32)) (v_rising : (Nat → Int64)) (v_falling : (Nat → Int64)) (v_turned : (Nat → Int32)) (v_totals : (Nat → Int64)) (v_before : (Nat → Int32)) (v_after : (Nat → Int32)) (v_keptBytes : Int32) (v_syndromes : (Nat → Int64)) (v_places : Int32) (v_firstEntry : (Nat → Int32)) (v_nextEntry : (Nat → Int32)) (v_numbers : (Nat → Int64)) (v_counts : (Nat → Int32)) (v_size : Int32) (v_lightestPlaces : (Nat → Int32)) (v_lightestCount : Int32) (v_toldPlaces : (Nat → Int32)) (v_placeCount : Int32) (v_ways : (Nat → Int32)) (v_wayCount : Int32) (v_usable : (Nat → Int32)) (v_upTo : (Nat → Int64))   (x1 : Int32) (x2 : Int32) (x3 : Int32) (n : Nat) (res : Int64) (hm : M_X11_syndrome n x1 x2 x3 v_ro v_sumCount = some res) : Met l yX11_syndrome wsX11_syndrome rmX11_syndrome (va_Pc [.ref (q 0), .int x1, .int x2, .int x3] (PreW G cs sz (ww_C q cs v_ro v_sumCount v_told v_toldCount v_row v_rowLength v_asked v_rising v_falling v_turned v_totals v_before v_after v_keptBytes v_syndromes v_places v_firstEntry v_nextEntry v_numbers v_counts v_size v_lightestPlaces v_lightestCount v_toldPlaces v_placeCount v_ways v_wayCount v_usable v_upTo) v_ro)) (QL G res (ww_C q cs v_ro v_sumCount v_told v_toldCount v_row v_rowLength v_asked v_rising v_falling v_turned v_totals v_before v_after v_keptBytes v_syndromes v_places v_firstEntry v_nextEntry v_numbers v_counts v_size v_lightestPlaces v_lightestCount v_toldPlaces v_placeCount v_ways v_wayCount v_usable v_upTo) (va_A (ww_C q cs v_ro v_sumCount v_told v_toldCount v_row v_rowLength v_asked v_rising v_falling v_turned v_totals v_before v_after v_keptBytes v_syndromes v_places v_firstEntry v_nextEntry v_numbers v_counts v_size v_lightestPlaces v_lightestCount v_toldPlaces v_placeCount v_ways v_wayCount v_usable v_upTo) sz)) 0 0 (va_A (ww_C q cs v_ro v_sumCount v_told v_toldCount v_row v_rowLength v_asked v_rising v_falling v_turned v_totals v_before v_after v_keptBytes v_syndromes v_places v_firstEntry v_nextEntry v_numbers v_counts v_size v_lightestPlaces v_lightestCount v_toldPlaces v_placeCount v_ways v_wayCount v_usable v_upTo) sz) := by
  refine k_enter (Qf := fun A => QL G res (ww_C q cs v_ro v_sumCount v_told v_toldCount v_row v_rowLength v_asked v_rising v_falling v_turned v_totals v_before v_after v_keptBytes v_syndromes v_places v_firstEntry v_nextEntry v_numbers v_counts v_size v_lightestPlaces v_lightestCount v_toldPlaces v_placeCount v_ways v_wayCount v_usable v_upTo) A) (cc := cX11_syndrome) (maxL := 7) (ret := (some .long)) (plainFor_of_name (by decide)) rfl (Nat.le_of_ble_eq_true rfl) ?_
  intro p e s m args below meth c A Q ls H locs hx hb hr hml hown hts hlocks hname hK hA hRo hP hD hS hQ hl
  have hl : lv_has ls 7 [(0, .ref (q 0)), (1, .int x1), (2, .int x2), (3, .int x3)] := hl
  have wd1 := hts (.constantLong RX11 130 (-2)) (List.mem_of_getElem? (i := 1) rfl)
  have wd2 := hts (.classLink RX11 107 "SumSmith$Divided") (List.mem_of_getElem? (i := 2) rfl)
  have wd4 := hts (.constantLong RX11 144 (-3)) (List.mem_of_getElem? (i := 4) rfl)
  have wd3 := hts (.constantLong RX11 138 (-4)) (List.mem_of_getElem? (i := 3) rfl)
  unfold M_X11_syndrome at hm
  refine lv_aload_n hx hb dX11_syndrome_0 rfl (lv_at hl 0 rfl) ?_
  refine lv_iload_n hx hb dX11_syndrome_1 rfl (lv_at hl 1 rfl) ?_
  obtain ⟨r1, hc_r1, hm⟩ := bs hm
  refine k_callq (va_runV (As := [.int x1]) (rest := []) ⟨hx, hb, hml, hown, hts⟩ (c_X11_sumAt l G cs q H.size v_ro v_sumCount v_told v_toldCount v_row v_rowLength v_asked v_rising v_falling v_turned v_totals v_before v_after v_keptBytes v_syndromes v_places v_firstEntry v_nextEntry v_numbers v_counts v_size v_lightestPlaces v_lightestCount v_toldPlaces v_placeCount v_ways v_wayCount v_usable v_upTo x1 r1 hc_r1) (cwV 1 hts gX11_syndrome_X11_sumAt rfl rfl rfl ⟨rfl, hd_X11_sumAt⟩ ⟨Nat.le_of_ble_eq_true rfl, Nat.le_of_ble_eq_true rfl⟩) ⟨pre_blind, va_recv hK.1 hP (ci := 9) (q0 := 0) rfl rfl, pre_w hK (RO.at hS hRo) hP hD (va_all hD hS hA)⟩ rfl rfl hl.1 rfl (lv_room (Nat.le_of_ble_eq_true rfl)) dX11_syndrome_2 ⟨Nat.zero_le _, Nat.zero_le _⟩) hS (va_all hD hS hA) (fun H locs hP hD hS => ?_)
  have hP : va_P G vwCl (ww_C q cs v_ro v_sumCount v_told v_toldCount v_row v_rowLength v_asked v_rising v_falling v_turned v_totals v_before v_after v_keptBytes v_syndromes v_places v_firstEntry v_nextEntry v_numbers v_counts v_size v_lightestPlaces v_lightestCount v_toldPlaces v_placeCount v_ways v_wayCount v_usable v_upTo) H := hP
  have hD : va_D A (ww_C q cs v_ro v_sumCount v_told v_toldCount v_row v_rowLength v_asked v_rising v_falling v_turned v_totals v_before v_after v_keptBytes v_syndromes v_places v_firstEntry v_nextEntry v_numbers v_counts v_size v_lightestPlaces v_lightestCount v_toldPlaces v_placeCount v_ways v_wayCount v_usable v_upTo) := hD
  cases r1 with
  | none =>
    have hm := oe_n hm
    refine lv_astoreN (lv' := [(4, .null), (0, .ref (q 0)), (1, .int x1), (2, .int x2), (3, .int x3)]) hx hb dX11_syndrome_5 hl (by decide) rfl (fun ls hl => ?_)
    refine lv_aloadN hx hb dX11_syndrome_7 (lv_at hl 0 rfl) ?_
    refine lv_ifnonnullN hx hb dX11_syndrome_9 ?_
    refine lv_ldc2 (own := RX11) (v := (-2)) hx hb hown wd1 dX11_syndrome_12 ?_
    have hq := Option.some.inj hm
    subst hq; subst hQ
    exact k_lret hx hb hr hlocks hP hD hS rfl dX11_syndrome_15
  | some y1 =>
    have hm := oe_s hm
    obtain ⟨j1, hj1⟩ := sumAt_ro hc_r1
    obtain ⟨hv1, hm⟩ := g_pos hm
    refine lv_astore (lv' := [(4, .ref y1.1), (0, .ref (q 0)), (1, .int x1), (2, .int x2), (3, .int x3)]) hx hb dX11_syndrome_5 hl (by decide) rfl (fun ls hl => ?_)
    refine lv_aload hx hb dX11_syndrome_7 (lv_at hl 0 rfl) ?_
    refine lv_ifnonnull (tgt := 16) hx hb dX11_syndrome_9 (by decide) ?_
    refine lv_aload hx hb dX11_syndrome_16 (lv_at hl 0 rfl) ?_
    by_cases b2 : y1.2.2.1 = 1
    · have hm := i_t b2 hm
      refine inst_D (own := RX11) hx hb hown wd2 hK (RO.at hS hRo j1 _ hj1).1 b2 dX11_syndrome_18 ?_
      refine lv_if_eq (tgt := 34) hx hb dX11_syndrome_21 (by decide) (fun b9 => absurd b9 (by decide)) (fun b9 => ?_)
      refine lv_aload hx hb dX11_syndrome_24 (lv_at hl 0 rfl) ?_
      refine cast_D (own := RX11) hx hb hown wd2 hK (RO.at hS hRo j1 _ hj1).1 b2 dX11_syndrome_26 ?_
      refine lv_astore (lv' := [(5, .ref y1.1), (4, .ref y1.1), (0, .ref (q 0)), (1, .int x1), (2, .int x2), (3, .int x3)]) hx hb dX11_syndrome_29 hl (by decide) rfl (fun ls hl => ?_)
      refine lv_goto (tgt := 38) hx hb dX11_syndrome_31 (by decide) ?_
      refine lv_iload_n hx hb dX11_syndrome_38 rfl (lv_at hl 5 rfl) ?_
      refine lv_iconst (v := 1) hx hb dX11_syndrome_39 (by decide) ?_
      refine lv_bipush (v := 64) hx hb dX11_syndrome_40 (by decide) ?_
      refine k_calli0 (va_runS (As := [.int x3, .int 1, .int 64]) (rest := []) ⟨hx, hb, hml, hown, hts⟩ (c_X11_within l G cs H.size    x3 (1 : Int32) (64 : Int32) _ rfl) (va_cwS 3 hts gX11_syndrome_X11_within rfl rfl rfl hd_X11_within ⟨Nat.le_of_ble_eq_true rfl, Nat.le_of_ble_eq_true rfl⟩) ⟨pre_blind, pre_w hK RO.nil P0 D0 (va_new0 hS hA)⟩ rfl rfl hl.1 rfl (lv_room (Nat.le_of_ble_eq_true rfl)) dX11_syndrome_42 ⟨Nat.zero_le _, Nat.zero_le _⟩) hP hS hA (fun hE3 H locs hP hS => ?_)
      refine lv_if_eq (tgt := 62) hx hb dX11_syndrome_45 (by decide) (fun b4 => ?_) (fun b4 => ?_)
      · have hm := i_t b4 hm
        refine lv_ldc2 (own := RX11) (v := (-3)) hx hb hown wd4 dX11_syndrome_62 ?_
        have hq := Option.some.inj hm
        subst hq; subst hQ
        exact k_lret hx hb hr hlocks hP hD hS rfl dX11_syndrome_65
      · have hm := i_f b4 hm
        refine lv_iload_n hx hb dX11_syndrome_48 rfl (lv_at hl 4 rfl) ?_
        refine lv_iconst (v := 0) hx hb dX11_syndrome_49 (by decide) ?_
        refine lv_bipush (v := 8) hx hb dX11_syndrome_50 (by decide) ?_
        refine lv_iload_n hx hb dX11_syndrome_52 rfl (lv_at hl 5 rfl) ?_
        refine lv_imul hx hb dX11_syndrome_53 ?_
        refine lv_iconst (v := 1) hx hb dX11_syndrome_54 (by decide) ?_
        refine lv_isub hx hb dX11_syndrome_55 ?_
        refine k_calli0 (va_runS (As := [.int x2, .int 0, .int ((8 * x3) - 1)]) (rest := []) ⟨hx, hb, hml, hown, hts⟩ (c_X11_within l G cs H.size    x2 (0 : Int32) ((8 * x3) - 1) _ rfl) (va_cwS 3 hts gX11_syndrome_X11_within rfl rfl rfl hd_X11_within ⟨Nat.le_of_ble_eq_true rfl, Nat.le_of_ble_eq_true rfl⟩) ⟨pre_blind, pre_w hK RO.nil P0 D0 (va_new0 hS hA)⟩ rfl rfl hl.1 rfl (lv_room (Nat.le_of_ble_eq_true rfl)) dX11_syndrome_56 ⟨Nat.zero_le _, Nat.zero_le _⟩) hP hS hA (fun hE5 H locs hP hS => ?_)
        refine lv_if_ne (tgt := 66) hx hb dX11_syndrome_59 (by decide) (fun b6 => ?_) (fun b6 => ?_)
        · have hm := i_f b6 hm
          refine lv_iload_n hx hb dX11_syndrome_66 rfl (lv_at hl 4 rfl) ?_
          refine k_calli0 (va_runS (As := [.int x2]) (rest := []) ⟨hx, hb, hml, hown, hts⟩ (c_X11_bitOfPlace l G cs H.size    x2 _ rfl) (va_cwS 1 hts gX11_syndrome_X11_bitOfPlace rfl rfl rfl hd_X11_bitOfPlace ⟨Nat.le_of_ble_eq_true rfl, Nat.le_of_ble_eq_true rfl⟩) ⟨pre_blind, pre_w hK RO.nil P0 D0 (va_new0 hS hA)⟩ rfl rfl hl.1 rfl (lv_room (Nat.le_of_ble_eq_true rfl)) dX11_syndrome_67 ⟨Nat.zero_le _, Nat.zero_le _⟩) hP hS hA (fun hE7 H locs hP hS => ?_)
          refine lv_istore (lv' := [(6, .int (M_X11_bitOfPlace x2)), (5, .ref y1.1), (4, .ref y1.1), (0, .ref (q 0)), (1, .int x1), (2, .int x2), (3, .int x3)]) hx hb dX11_syndrome_70 hl (by decide) rfl (fun ls hl => ?_)
          refine lv_aload hx hb dX11_syndrome_72 (lv_at hl 1 rfl) ?_
          refine lv_iload_n hx hb dX11_syndrome_74 rfl (lv_at hl 6 rfl) ?_
          refine lv_iload_n hx hb dX11_syndrome_75 rfl (lv_at hl 5 rfl) ?_
          refine k_calli0 (va_runS (As := [.int x2]) (rest := [.int x3, .ref y1.1]) ⟨hx, hb, hml, hown, hts⟩ (c_X11_byteOfPlace l G cs H.size    x2 _ rfl) (va_cwS 1 hts gX11_syndrome_X11_byteOfPlace rfl rfl rfl hd_X11_byteOfPlace ⟨Nat.le_of_ble_eq_true rfl, Nat.le_of_ble_eq_true rfl⟩) ⟨pre_blind, pre_w hK RO.nil P0 D0 (va_new0 hS hA)⟩ rfl rfl hl.1 rfl (lv_room (Nat.le_of_ble_eq_true rfl)) dX11_syndrome_76 ⟨Nat.zero_le _, Nat.zero_le _⟩) hP hS hA (fun hE8 H locs hP hS => ?_)
          refine lv_iconst (v := 0) hx hb dX11_syndrome_79 (by decide) ?_
          refine lv_iload hx hb dX11_syndrome_80 (lv_at hl 0 rfl) ?_
          obtain ⟨r9, hc_r9, hm⟩ := bs hm
          refine k_calll0 (va_runV (As := [.int x3, .int (M_X11_byteOfPlace x2), .int 0, .int (M_X11_bitOfPlace x2)]) (rest := []) ⟨hx, hb, hml, hown, hts⟩ (c_X1_changed l G cs H.size   y1.1 y1.2.1 y1.2.2.2.1 y1.2.2.2.2.1 y1.2.2.2.2.2.1 y1.2.2.2.2.2.2.1 y1.2.2.2.2.2.2.2.1 y1.2.2.2.2.2.2.2.2.1 y1.2.2.2.2.2.2.2.2.2.1 y1.2.2.2.2.2.2.2.2.2.2.1 y1.2.2.2.2.2.2.2.2.2.2.2 x3 (M_X11_byteOfPlace x2) (0 : Int32) (M_X11_bitOfPlace x2) n r9 hc_r9) (cwV 4 hts gX11_syndrome_X1_changed rfl rfl rfl ⟨rfl, hd_X1_changed⟩ ⟨Nat.le_of_ble_eq_true rfl, Nat.le_of_ble_eq_true rfl⟩) ⟨pre_blind, va_recv hK.1 (divF (RO.at hS hRo j1 _ hj1).1 b2) (ci := 1) (q0 := 0) rfl rfl, pre_w hK (RO.cls hj1 b2 (RO.at hS hRo)) P0 D0 (va_new0 hS hA)⟩ rfl rfl hl.1 rfl (lv_room (Nat.le_of_ble_eq_true rfl)) dX11_syndrome_82 ⟨Nat.zero_le _, Nat.zero_le _⟩) hP hS hA (fun H locs hP hS => ?_)
          have hq := Option.some.inj hm
          subst hq; subst hQ
          exact k_lret hx hb hr hlocks hP hD hS rfl dX11_syndrome_85
        · have hm := i_t b6 hm
          refine lv_ldc2 (own := RX11) (v := (-3)) hx hb hown wd4 dX11_syndrome_62 ?_
          have hq := Option.some.inj hm
          subst hq; subst hQ
          exact k_lret hx hb hr hlocks hP hD hS rfl dX11_syndrome_65
    · have hm := i_f b2 hm
      have b2n := not_D hv1 b2
      refine instn_D (own := RX11) hx hb hown wd2 hK (RO.at hS hRo j1 _ hj1).1 b2n dX11_syndrome_18 ?_
      refine lv_if_eq (tgt := 34) hx hb dX11_syndrome_21 (by decide) (fun b9 => ?_) (fun b9 => absurd (by decide) b9)
      refine lv_ldc2 (own := RX11) (v := (-4)) hx hb hown wd3 dX11_syndrome_34 ?_
      have hq := Option.some.inj hm
      subst hq; subst hQ
      exact k_lret hx hb hr hlocks hP hD hS rfl dX11_syndrome_37

theorem hd_X11_weight : yX11_weight.cls ≠ "java/lang/invoke/MethodHandle" ∧ yX11_weight.cls ≠ "java/lang/invoke/VarHandle" ∧ (parseMethodDescriptor yX11_weight.desc).map (fun d => d.parameters.length) = some 2 := by decide +kernel

def M_X11_weight (n : Nat) (x1 : Int32) (x2 : Int32) (v_ro : RF) (v_sumCount : Int32) (v_syndromes : (Nat → Int64)) (v_places : Int32) (v_firstEntry : (Nat → Int32)) (v_nextEntry : (Nat → Int32)) (v_numbers : (Nat → Int64)) (v_counts : (Nat → Int32)) (v_size : Int32) (v_lightestPlaces : (Nat → Int32)) (v_lightestCount : Int32) : Option (Int32 × (Nat → Int64) × Int32 × (Nat → Int32) × (Nat → Int32) × (Nat → Int64) × (Nat → Int32) × Int32 × (Nat → Int32) × Int32) :=
  (M_X11_sumAt x1 v_ro v_sumCount).bind fun r1 => Option.elim r1 (some ((-2), v_syndromes, v_places, v_firstEntry, v_nextEntry, v_numbers, v_counts, v_size, v_lightestPlaces, v_lightestCount)) (fun y1 => if y1.2.2.1 = 8 ∨ y1.2.2.1 = 7 ∨ y1.2.2.1 = 6 ∨ y1.2.2.1 = 1 ∨ y1.2.2.1 = 4 then (if y1.2.2.1 = 1 then (if (M_X11_within x2 (1 : Int32) (6 : Int32)) = 0 then (some ((-3), v_syndromes, v_places, v_firstEntry, v_nextEntry, v_numbers, v_counts, v_size, v_lightestPlaces, v_lightestCount)) else ((M_X3_load n x2 y1.2.2.2.2.1 y1.2.2.2.2.2.2.1 y1.2.2.2.2.2.2.2.2.2.1 v_syndromes v_places).bind fun r5 => (M_X3_leastSize n r5.1 r5.2 v_firstEntry v_nextEntry v_numbers v_counts v_size).bind fun r6 => if r6.1 ≤ 4 then ((M_X3_findFirst n r6.1 r5.1 r5.2 v_lightestPlaces 4).bind fun r9 => some (r6.1, r5.1, r5.2, r6.2.1, r6.2.2.1, r6.2.2.2.1, r6.2.2.2.2.1, r6.2.2.2.2.2, r9, r6.1)) else (some ((-1), r5.1, r5.2, r6.2.1, r6.2.2.1, r6.2.2.2.1, r6.2.2.2.2.1, r6.2.2.2.2.2, v_lightestPlaces, v_lightestCount)))) else (some ((-4), v_syndromes, v_places, v_firstEntry, v_nextEntry, v_numbers, v_counts, v_size, v_lightestPlaces, v_lightestCount))) else none)

abbrev rmX11_weight : Room := { frames := 8, cells := 0, slots := 0, locals := 211 }
set_option maxHeartbeats 4000000 in
set_option maxRecDepth 100000 in
theorem c_X11_weight (l : Launch) (G : va_G) (cs : CS) (q : Nat → Nat) (sz : Nat) (v_ro : RF) (v_sumCount : Int32) (v_told : (Nat → Int32)) (v_toldCount : Int32) (v_row : (Nat → Int32)) (v_rowLength : Int32) (v_asked : (Nat → Int32)) (v_rising : (Nat → Int64)) (v_falling : (Nat → Int64)) (v_turned : (Nat → Int32)) (v_totals : (Nat → Int64)) (v_before : (Nat → Int32)) (v_after : (Nat → Int32)) (v_keptBytes : Int32) (v_syndromes : (Nat → Int64)) (v_places : Int32) (v_firstEntry : (Nat → Int32)) (v_nextEntry : (Nat → Int32)) (v_numbers : (Nat → Int64)) (v_counts : (Nat → Int32)) (v_size : Int32) (v_lightestPlaces : (Nat → Int32)) (v_lightestCount : Int32) (v_toldPlaces : (Nat → Int32)) (v_placeCount : Int32) (v_ways : (Nat → Int32)) (v_wayCount : Int32) (v_usable : (Nat → Int32)) (v_upTo : (Nat → Int64))   (x1 : Int32) (x2 : Int32) (n : Nat) (res : (Int32 × (Nat → Int64) × Int32 × (Nat → Int32) × (Nat → Int32) × (Nat → Int64) × (Nat → Int32) × Int32 × (Nat → Int32) × Int32)) (hm : M_X11_weight n x1 x2 v_ro v_sumCount v_syndromes v_places v_firstEntry v_nextEntry v_numbers v_counts v_size v_lightestPlaces v_lightestCount = some res) : Met l yX11_weight wsX11_weight rmX11_weight (va_Pc [.ref (q 0), .int x1, .int x2] (PreW G cs sz (ww_C q cs v_ro v_sumCount v_told v_toldCount v_row v_rowLength v_asked v_rising v_falling v_turned v_totals v_before v_after v_keptBytes v_syndromes v_places v_firstEntry v_nextEntry v_numbers v_counts v_size v_lightestPlaces v_lightestCount v_toldPlaces v_placeCount v_ways v_wayCount v_usable v_upTo) v_ro)) (QI G res.1 True (ww_C q cs v_ro v_sumCount v_told v_toldCount v_row v_rowLength v_asked v_rising v_falling v_turned v_totals v_before v_after v_keptBytes res.2.1 res.2.2.1 res.2.2.2.1 res.2.2.2.2.1 res.2.2.2.2.2.1 res.2.2.2.2.2.2.1 res.2.2.2.2.2.2.2.1 res.2.2.2.2.2.2.2.2.1 res.2.2.2.2.2.2.2.2.2 v_toldPlaces v_placeCount v_ways v_wayCount v_usable v_upTo) (va_A (ww_C q cs v_ro v_sumCount v_told v_toldCount v_row v_rowLength v_asked v_rising v_falling v_turned v_totals v_before v_after v_keptBytes v_syndromes v_places v_firstEntry v_nextEntry v_numbers v_counts v_size v_lightestPlaces v_lightestCount v_toldPlaces v_placeCount v_ways v_wayCount v_usable v_upTo) sz)) 0 0 (va_A (ww_C q cs v_ro v_sumCount v_told v_toldCount v_row v_rowLength v_asked v_rising v_falling v_turned v_totals v_before v_after v_keptBytes v_syndromes v_places v_firstEntry v_nextEntry v_numbers v_counts v_size v_lightestPlaces v_lightestCount v_toldPlaces v_placeCount v_ways v_wayCount v_usable v_upTo) sz) := by
  refine k_enter (Qf := fun A => QI G res.1 True (ww_C q cs v_ro v_sumCount v_told v_toldCount v_row v_rowLength v_asked v_rising v_falling v_turned v_totals v_before v_after v_keptBytes res.2.1 res.2.2.1 res.2.2.2.1 res.2.2.2.2.1 res.2.2.2.2.2.1 res.2.2.2.2.2.2.1 res.2.2.2.2.2.2.2.1 res.2.2.2.2.2.2.2.2.1 res.2.2.2.2.2.2.2.2.2 v_toldPlaces v_placeCount v_ways v_wayCount v_usable v_upTo) A) (cc := cX11_weight) (maxL := 6) (ret := (some .int)) (plainFor_of_name (by decide)) rfl (Nat.le_of_ble_eq_true rfl) ?_
  intro p e s m args below meth c A Q ls H locs hx hb hr hml hown hts hlocks hname hK hA hRo hP hD hS hQ hl
  have hl : lv_has ls 6 [(0, .ref (q 0)), (1, .int x1), (2, .int x2)] := hl
  have wd1 := hts (.classLink RX11 107 "SumSmith$Divided") (List.mem_of_getElem? (i := 1) rfl)
  have wd2 := hts (.fieldLink RX11 45 "SumSmith" "sets" "LSumSmith$PlaceSets;") (List.mem_of_getElem? (i := 2) rfl)
  have wd3 := hts (.fieldLink RX11 203 "SumSmith$Divided" "width" "I") (List.mem_of_getElem? (i := 3) rfl)
  have wd4 := hts (.fieldLink RX11 206 "SumSmith$Divided" "polynomial" "J") (List.mem_of_getElem? (i := 4) rfl)
  have wd5 := hts (.fieldLink RX11 210 "SumSmith$Divided" "low" "Z") (List.mem_of_getElem? (i := 5) rfl)
  have wd6 := hts (.fieldLink RX11 49 "SumSmith" "lightestPlaces" "[I") (List.mem_of_getElem? (i := 6) rfl)
  have wd7 := hts (.fieldLink RX11 52 "SumSmith" "lightestCount" "I") (List.mem_of_getElem? (i := 7) rfl)
  have hinX11 : ∀ w ∈ wsX110, w ∈ wsX11_weight := fun w h => List.mem_cons_of_mem _ (List.mem_append_left _ (List.mem_append_left _ (List.mem_append_left _ (List.mem_append_right _ h))))
  have hinX1 : ∀ w ∈ wsX10, w ∈ wsX11_weight := fun w h => List.mem_cons_of_mem _ (List.mem_append_left _ (List.mem_append_left _ (List.mem_append_right _ h)))
  unfold M_X11_weight at hm
  refine lv_aload_n hx hb dX11_weight_0 rfl (lv_at hl 0 rfl) ?_
  refine lv_iload_n hx hb dX11_weight_1 rfl (lv_at hl 1 rfl) ?_
  obtain ⟨r1, hc_r1, hm⟩ := bs hm
  refine k_callq (va_runV (As := [.int x1]) (rest := []) ⟨hx, hb, hml, hown, hts⟩ (c_X11_sumAt l G cs q H.size v_ro v_sumCount v_told v_toldCount v_row v_rowLength v_asked v_rising v_falling v_turned v_totals v_before v_after v_keptBytes v_syndromes v_places v_firstEntry v_nextEntry v_numbers v_counts v_size v_lightestPlaces v_lightestCount v_toldPlaces v_placeCount v_ways v_wayCount v_usable v_upTo x1 r1 hc_r1) (cwV 1 hts gX11_weight_X11_sumAt rfl rfl rfl ⟨rfl, hd_X11_sumAt⟩ ⟨Nat.le_of_ble_eq_true rfl, Nat.le_of_ble_eq_true rfl⟩) ⟨pre_blind, va_recv hK.1 hP (ci := 9) (q0 := 0) rfl rfl, pre_w hK (RO.at hS hRo) hP hD (va_all hD hS hA)⟩ rfl rfl hl.1 rfl (lv_room (Nat.le_of_ble_eq_true rfl)) dX11_weight_2 ⟨Nat.zero_le _, Nat.zero_le _⟩) hS (va_all hD hS hA) (fun H locs hP hD hS => ?_)
  have hP : va_P G vwCl (ww_C q cs v_ro v_sumCount v_told v_toldCount v_row v_rowLength v_asked v_rising v_falling v_turned v_totals v_before v_after v_keptBytes v_syndromes v_places v_firstEntry v_nextEntry v_numbers v_counts v_size v_lightestPlaces v_lightestCount v_toldPlaces v_placeCount v_ways v_wayCount v_usable v_upTo) H := hP
  have hD : va_D A (ww_C q cs v_ro v_sumCount v_told v_toldCount v_row v_rowLength v_asked v_rising v_falling v_turned v_totals v_before v_after v_keptBytes v_syndromes v_places v_firstEntry v_nextEntry v_numbers v_counts v_size v_lightestPlaces v_lightestCount v_toldPlaces v_placeCount v_ways v_wayCount v_usable v_upTo) := hD
  cases r1 with
  | none =>
    have hm := oe_n hm
    refine lv_astore_nN (lv' := [(3, .null), (0, .ref (q 0)), (1, .int x1), (2, .int x2)]) hx hb dX11_weight_5 rfl hl (by decide) rfl (fun ls hl => ?_)
    refine lv_aload_nN hx hb dX11_weight_6 rfl (lv_at hl 0 rfl) ?_
    refine lv_ifnonnullN hx hb dX11_weight_7 ?_
    refine lv_bipush (v := (-2)) hx hb dX11_weight_10 (by decide) ?_
    have hq := Option.some.inj hm
    subst hq; subst hQ
    exact k_iret hx hb hr hlocks hP hD hS rfl trivial dX11_weight_12
  | some y1 =>
    have hm := oe_s hm
    obtain ⟨j1, hj1⟩ := sumAt_ro hc_r1
    obtain ⟨hv1, hm⟩ := g_pos hm
    refine lv_astore_n (lv' := [(3, .ref y1.1), (0, .ref (q 0)), (1, .int x1), (2, .int x2)]) hx hb dX11_weight_5 rfl hl (by decide) rfl (fun ls hl => ?_)
    refine lv_aload_n hx hb dX11_weight_6 rfl (lv_at hl 0 rfl) ?_
    refine lv_ifnonnull (tgt := 13) hx hb dX11_weight_7 (by decide) ?_
    refine lv_aload_n hx hb dX11_weight_13 rfl (lv_at hl 0 rfl) ?_
    by_cases b2 : y1.2.2.1 = 1
    · have hm := i_t b2 hm
      refine inst_D (own := RX11) hx hb hown wd1 hK (RO.at hS hRo j1 _ hj1).1 b2 dX11_weight_14 ?_
      refine lv_if_eq (tgt := 29) hx hb dX11_weight_17 (by decide) (fun b9 => absurd b9 (by decide)) (fun b9 => ?_)
      refine lv_aload_n hx hb dX11_weight_20 rfl (lv_at hl 0 rfl) ?_
      refine cast_D (own := RX11) hx hb hown wd1 hK (RO.at hS hRo j1 _ hj1).1 b2 dX11_weight_21 ?_
      refine lv_astore (lv' := [(4, .ref y1.1), (3, .ref y1.1), (0, .ref (q 0)), (1, .int x1), (2, .int x2)]) hx hb dX11_weight_24 hl (by decide) rfl (fun ls hl => ?_)
      refine lv_goto (tgt := 32) hx hb dX11_weight_26 (by decide) ?_
      refine lv_iload_n hx hb dX11_weight_32 rfl (lv_at hl 4 rfl) ?_
      refine lv_iconst (v := 1) hx hb dX11_weight_33 (by decide) ?_
      refine lv_bipush (v := 6) hx hb dX11_weight_34 (by decide) ?_
      refine k_calli0 (va_runS (As := [.int x2, .int 1, .int 6]) (rest := []) ⟨hx, hb, hml, hown, hts⟩ (c_X11_within l G cs H.size    x2 (1 : Int32) (6 : Int32) _ rfl) (va_cwS 3 hts gX11_weight_X11_within rfl rfl rfl hd_X11_within ⟨Nat.le_of_ble_eq_true rfl, Nat.le_of_ble_eq_true rfl⟩) ⟨pre_blind, pre_w hK RO.nil P0 D0 (va_new0 hS hA)⟩ rfl rfl hl.1 rfl (lv_room (Nat.le_of_ble_eq_true rfl)) dX11_weight_36 ⟨Nat.zero_le _, Nat.zero_le _⟩) hP hS hA (fun hE3 H locs hP hS => ?_)
      refine lv_if_ne (tgt := 45) hx hb dX11_weight_39 (by decide) (fun b4 => ?_) (fun b4 => ?_)
      · have hm := i_f b4 hm
        refine lv_aload_n hx hb dX11_weight_45 rfl (lv_at hl 2 rfl) ?_
        refine va_get (D := G) (ci := 9) (v := .ref (q 12)) (C := RX11) (T := TX11) (N := 12) hx hb hts hinX11 hown hK.1 hP 0 rfl rfl 8 (by decide) wd2 (fun _ h9 => h9) rfl dX11_weight_46 ?_
        refine lv_iload_n hx hb dX11_weight_49 rfl (lv_at hl 4 rfl) ?_
        refine lv_aload hx hb dX11_weight_50 (lv_at hl 0 rfl) ?_
        refine va_get (D := G) (ci := 1) (v := .int y1.2.2.2.2.1) (C := RX1) (T := TX1) (N := 6) hx hb hts hinX1 hown hK.1 (divF (RO.at hS hRo j1 _ hj1).1 b2) 0 rfl rfl 1 (by decide) wd3 (fun _ h9 => h9) rfl dX11_weight_52 ?_
        refine lv_aload hx hb dX11_weight_55 (lv_at hl 0 rfl) ?_
        refine va_get (D := G) (ci := 1) (v := .long y1.2.2.2.2.2.2.1) (C := RX1) (T := TX1) (N := 6) hx hb hts hinX1 hown hK.1 (divF (RO.at hS hRo j1 _ hj1).1 b2) 0 rfl rfl 2 (by decide) wd4 (fun _ h9 => h9) rfl dX11_weight_57 ?_
        refine lv_aload hx hb dX11_weight_60 (lv_at hl 0 rfl) ?_
        refine va_get (D := G) (ci := 1) (v := .int y1.2.2.2.2.2.2.2.2.2.1) (C := RX1) (T := TX1) (N := 6) hx hb hts hinX1 hown hK.1 (divF (RO.at hS hRo j1 _ hj1).1 b2) 0 rfl rfl 3 (by decide) wd5 (fun _ h9 => h9) rfl dX11_weight_62 ?_
        obtain ⟨r5, hc_r5, hm⟩ := bs hm
        refine k_callvj (wr := [((q 0), .inr (9, [.ref (q 1), .int v_sumCount, .ref (q 2), .int v_toldCount, .ref (q 3), .int v_rowLength, .ref (q 4), .ref (q 5), .ref (q 12), .ref (q 19), .int v_lightestCount, .ref (q 20)])), ((q 1), .inl (cs.2.2.2, 16, .inr (.inr (.inr (.inr (roA v_ro)))))), ((q 2), .inl (cs.1, 100, .inl v_told)), ((q 3), .inl (cs.1, 64, .inl v_row)), ((q 4), .inl (cs.1, 7, .inl v_asked)), ((q 5), .inr (3, [.ref (q 6), .ref (q 7), .ref (q 8), .ref (q 9), .ref (q 10), .ref (q 11), .int v_keptBytes])), ((q 6), .inl (cs.2.1, 64, .inr (.inl v_rising))), ((q 7), .inl (cs.2.1, 64, .inr (.inl v_falling))), ((q 8), .inl (cs.1, 8, .inl v_turned)), ((q 9), .inl (cs.2.1, 64, .inr (.inl v_totals))), ((q 10), .inl (cs.1, 8, .inl v_before)), ((q 11), .inl (cs.1, 8, .inl v_after)), ((q 19), .inl (cs.1, 4, .inl v_lightestPlaces)), ((q 20), .inr (0, [.ref (q 21), .int v_placeCount, .ref (q 22), .int v_wayCount, .ref (q 23), .ref (q 24)])), ((q 21), .inl (cs.1, 16, .inl v_toldPlaces)), ((q 22), .inl (cs.1, 64, .inl v_ways)), ((q 23), .inl (cs.1, 16, .inl v_usable)), ((q 24), .inl (cs.2.1, 16, .inr (.inl v_upTo)))]) (w2 := (ww_C q cs v_ro v_sumCount v_told v_toldCount v_row v_rowLength v_asked v_rising v_falling v_turned v_totals v_before v_after v_keptBytes r5.1 r5.2 v_firstEntry v_nextEntry v_numbers v_counts v_size v_lightestPlaces v_lightestCount v_toldPlaces v_placeCount v_ways v_wayCount v_usable v_upTo)) (va_runV (As := [.int x2, .int y1.2.2.2.2.1, .long y1.2.2.2.2.2.2.1, .int y1.2.2.2.2.2.2.2.2.2.1]) (rest := []) ⟨hx, hb, hml, hown, hts⟩ (c_X3_load l G cs (fun i => q (i + 12)) H.size v_syndromes v_places v_firstEntry v_nextEntry v_numbers v_counts v_size   x2 y1.2.2.2.2.1 y1.2.2.2.2.2.2.1 y1.2.2.2.2.2.2.2.2.2.1 n r5 hc_r5) (cwV 4 hts gX11_weight_X3_load rfl rfl rfl ⟨rfl, hd_X3_load⟩ ⟨Nat.le_of_ble_eq_true rfl, Nat.le_of_ble_eq_true rfl⟩) ⟨pre_blind, va_recv hK.1 hP (ci := 2) (q0 := 12) rfl rfl, pre_w hK RO.nil (P_by hP [12, 13, 14, 15, 16, 17, 18] rfl) (hD.sub [12, 13, 14, 15, 16, 17, 18] (by decide) rfl) (va_free hD hS hA [12, 13, 14, 15, 16, 17, 18] rfl)⟩ rfl rfl hl.1 rfl (lv_room (Nat.le_of_ble_eq_true rfl)) dX11_weight_65 ⟨Nat.zero_le _, Nat.zero_le _⟩) hP hD hS hA [12, 13, 14, 15, 16, 17, 18] [0, 1, 2, 3, 4, 5, 6, 7, 8, 9, 10, 11, 19, 20, 21, 22, 23, 24] [0, 1, 2, 3, 4, 5, 6, 7, 8, 9, 10, 11, 18, 19, 20, 21, 22, 23, 24, 12, 13, 14, 15, 16, 17] rfl rfl (by decide) (by decide) rfl (by decide) (fun H locs hP hD hS => ?_)
        have hP : va_P G vwCl (ww_C q cs v_ro v_sumCount v_told v_toldCount v_row v_rowLength v_asked v_rising v_falling v_turned v_totals v_before v_after v_keptBytes r5.1 r5.2 v_firstEntry v_nextEntry v_numbers v_counts v_size v_lightestPlaces v_lightestCount v_toldPlaces v_placeCount v_ways v_wayCount v_usable v_upTo) H := hP
        have hD : va_D A (ww_C q cs v_ro v_sumCount v_told v_toldCount v_row v_rowLength v_asked v_rising v_falling v_turned v_totals v_before v_after v_keptBytes r5.1 r5.2 v_firstEntry v_nextEntry v_numbers v_counts v_size v_lightestPlaces v_lightestCount v_toldPlaces v_placeCount v_ways v_wayCount v_usable v_upTo) := hD
        refine lv_aload_n hx hb dX11_weight_68 rfl (lv_at hl 2 rfl) ?_
        refine va_get (D := G) (ci := 9) (v := .ref (q 12)) (C := RX11) (T := TX11) (N := 12) hx hb hts hinX11 hown hK.1 hP 0 rfl rfl 8 (by decide) wd2 (fun _ h9 => h9) rfl dX11_weight_69 ?_
        obtain ⟨r6, hc_r6, hm⟩ := bs hm
        refine k_callij (wr := [((q 0), .inr (9, [.ref (q 1), .int v_sumCount, .ref (q 2), .int v_toldCount, .ref (q 3), .int v_rowLength, .ref (q 4), .ref (q 5), .ref (q 12), .ref (q 19), .int v_lightestCount, .ref (q 20)])), ((q 1), .inl (cs.2.2.2, 16, .inr (.inr (.inr (.inr (roA v_ro)))))), ((q 2), .inl (cs.1, 100, .inl v_told)), ((q 3), .inl (cs.1, 64, .inl v_row)), ((q 4), .inl (cs.1, 7, .inl v_asked)), ((q 5), .inr (3, [.ref (q 6), .ref (q 7), .ref (q 8), .ref (q 9), .ref (q 10), .ref (q 11), .int v_keptBytes])), ((q 6), .inl (cs.2.1, 64, .inr (.inl v_rising))), ((q 7), .inl (cs.2.1, 64, .inr (.inl v_falling))), ((q 8), .inl (cs.1, 8, .inl v_turned)), ((q 9), .inl (cs.2.1, 64, .inr (.inl v_totals))), ((q 10), .inl (cs.1, 8, .inl v_before)), ((q 11), .inl (cs.1, 8, .inl v_after)), ((q 19), .inl (cs.1, 4, .inl v_lightestPlaces)), ((q 20), .inr (0, [.ref (q 21), .int v_placeCount, .ref (q 22), .int v_wayCount, .ref (q 23), .ref (q 24)])), ((q 21), .inl (cs.1, 16, .inl v_toldPlaces)), ((q 22), .inl (cs.1, 64, .inl v_ways)), ((q 23), .inl (cs.1, 16, .inl v_usable)), ((q 24), .inl (cs.2.1, 16, .inr (.inl v_upTo)))]) (w2 := (ww_C q cs v_ro v_sumCount v_told v_toldCount v_row v_rowLength v_asked v_rising v_falling v_turned v_totals v_before v_after v_keptBytes r5.1 r5.2 r6.2.1 r6.2.2.1 r6.2.2.2.1 r6.2.2.2.2.1 r6.2.2.2.2.2 v_lightestPlaces v_lightestCount v_toldPlaces v_placeCount v_ways v_wayCount v_usable v_upTo)) (va_runV (As := []) (rest := []) ⟨hx, hb, hml, hown, hts⟩ (c_X3_leastSize l G cs (fun i => q (i + 12)) H.size r5.1 r5.2 v_firstEntry v_nextEntry v_numbers v_counts v_size    n r6 hc_r6) (cwV 0 hts gX11_weight_X3_leastSize rfl rfl rfl ⟨rfl, hd_X3_leastSize⟩ ⟨Nat.le_of_ble_eq_true rfl, Nat.le_of_ble_eq_true rfl⟩) ⟨pre_blind, va_recv hK.1 hP (ci := 2) (q0 := 12) rfl rfl, pre_w hK RO.nil (P_by hP [12, 13, 14, 15, 16, 17, 18] rfl) (hD.sub [12, 13, 14, 15, 16, 17, 18] (by decide) rfl) (va_free hD hS hA [12, 13, 14, 15, 16, 17, 18] rfl)⟩ rfl rfl hl.1 rfl (lv_room (Nat.le_of_ble_eq_true rfl)) dX11_weight_72 ⟨Nat.zero_le _, Nat.zero_le _⟩) hP hD hS hA [12, 13, 14, 15, 16, 17, 18] [0, 1, 2, 3, 4, 5, 6, 7, 8, 9, 10, 11, 19, 20, 21, 22, 23, 24] [0, 1, 2, 3, 4, 5, 6, 7, 8, 9, 10, 11, 18, 19, 20, 21, 22, 23, 24, 12, 13, 14, 15, 16, 17] rfl rfl (by decide) (by decide) rfl (by decide) (fun hE7 H locs hP hD hS => ?_)
        have hP : va_P G vwCl (ww_C q cs v_ro v_sumCount v_told v_toldCount v_row v_rowLength v_asked v_rising v_falling v_turned v_totals v_before v_after v_keptBytes r5.1 r5.2 r6.2.1 r6.2.2.1 r6.2.2.2.1 r6.2.2.2.2.1 r6.2.2.2.2.2 v_lightestPlaces v_lightestCount v_toldPlaces v_placeCount v_ways v_wayCount v_usable v_upTo) H := hP
        have hD : va_D A (ww_C q cs v_ro v_sumCount v_told v_toldCount v_row v_rowLength v_asked v_rising v_falling v_turned v_totals v_before v_after v_keptBytes r5.1 r5.2 r6.2.1 r6.2.2.1 r6.2.2.2.1 r6.2.2.2.2.1 r6.2.2.2.2.2 v_lightestPlaces v_lightestCount v_toldPlaces v_placeCount v_ways v_wayCount v_usable v_upTo) := hD
        refine lv_istore (lv' := [(5, .int r6.1), (4, .ref y1.1), (3, .ref y1.1), (0, .ref (q 0)), (1, .int x1), (2, .int x2)]) hx hb dX11_weight_75 hl (by decide) rfl (fun ls hl => ?_)
        refine lv_iload hx hb dX11_weight_77 (lv_at hl 0 rfl) ?_
        refine lv_iconst (v := 4) hx hb dX11_weight_79 (by decide) ?_
        refine lv_icmp_le (tgt := 85) hx hb dX11_weight_80 (by decide) (fun b8 => ?_) (fun b8 => ?_)
        · have hm := i_t b8 hm
          refine lv_aload_n hx hb dX11_weight_85 rfl (lv_at hl 3 rfl) ?_
          refine va_get (D := G) (ci := 9) (v := .ref (q 12)) (C := RX11) (T := TX11) (N := 12) hx hb hts hinX11 hown hK.1 hP 0 rfl rfl 8 (by decide) wd2 (fun _ h9 => h9) rfl dX11_weight_86 ?_
          refine lv_iload hx hb dX11_weight_89 (lv_at hl 0 rfl) ?_
          refine lv_aload_n hx hb dX11_weight_91 rfl (lv_at hl 3 rfl) ?_
          refine va_get (D := G) (ci := 9) (v := .ref (q 19)) (C := RX11) (T := TX11) (N := 12) hx hb hts hinX11 hown hK.1 hP 0 rfl rfl 9 (by decide) wd6 (fun _ h9 => h9) rfl dX11_weight_92 ?_
          obtain ⟨r9, hc_r9, hm⟩ := bs hm
          refine k_callvj (wr := [((q 0), .inr (9, [.ref (q 1), .int v_sumCount, .ref (q 2), .int v_toldCount, .ref (q 3), .int v_rowLength, .ref (q 4), .ref (q 5), .ref (q 12), .ref (q 19), .int v_lightestCount, .ref (q 20)])), ((q 1), .inl (cs.2.2.2, 16, .inr (.inr (.inr (.inr (roA v_ro)))))), ((q 2), .inl (cs.1, 100, .inl v_told)), ((q 3), .inl (cs.1, 64, .inl v_row)), ((q 4), .inl (cs.1, 7, .inl v_asked)), ((q 5), .inr (3, [.ref (q 6), .ref (q 7), .ref (q 8), .ref (q 9), .ref (q 10), .ref (q 11), .int v_keptBytes])), ((q 6), .inl (cs.2.1, 64, .inr (.inl v_rising))), ((q 7), .inl (cs.2.1, 64, .inr (.inl v_falling))), ((q 8), .inl (cs.1, 8, .inl v_turned)), ((q 9), .inl (cs.2.1, 64, .inr (.inl v_totals))), ((q 10), .inl (cs.1, 8, .inl v_before)), ((q 11), .inl (cs.1, 8, .inl v_after)), ((q 20), .inr (0, [.ref (q 21), .int v_placeCount, .ref (q 22), .int v_wayCount, .ref (q 23), .ref (q 24)])), ((q 21), .inl (cs.1, 16, .inl v_toldPlaces)), ((q 22), .inl (cs.1, 64, .inl v_ways)), ((q 23), .inl (cs.1, 16, .inl v_usable)), ((q 24), .inl (cs.2.1, 16, .inr (.inl v_upTo)))]) (w2 := (ww_C q cs v_ro v_sumCount v_told v_toldCount v_row v_rowLength v_asked v_rising v_falling v_turned v_totals v_before v_after v_keptBytes r5.1 r5.2 r6.2.1 r6.2.2.1 r6.2.2.2.1 r6.2.2.2.2.1 r6.2.2.2.2.2 r9 v_lightestCount v_toldPlaces v_placeCount v_ways v_wayCount v_usable v_upTo)) (va_runV (As := [.int r6.1, .ref (q 19)]) (rest := []) ⟨hx, hb, hml, hown, hts⟩ (c_X3_findFirst l G cs (fun i => q (i + 12)) H.size r5.1 r5.2 r6.2.1 r6.2.2.1 r6.2.2.2.1 r6.2.2.2.2.1 r6.2.2.2.2.2 v_lightestPlaces (q 19) 4 r6.1 n r9 hc_r9) (cwV 2 hts gX11_weight_X3_findFirst rfl rfl rfl ⟨rfl, hd_X3_findFirst⟩ ⟨Nat.le_of_ble_eq_true rfl, Nat.le_of_ble_eq_true rfl⟩) ⟨pre_blind, va_recv hK.1 hP (ci := 2) (q0 := 12) rfl rfl, pre_w hK RO.nil (P_by hP [12, 13, 14, 15, 16, 17, 18, 19] rfl) (hD.sub [12, 13, 14, 15, 16, 17, 18, 19] (by decide) rfl) (va_free hD hS hA [12, 13, 14, 15, 16, 17, 18, 19] rfl)⟩ rfl rfl hl.1 rfl (lv_room (Nat.le_of_ble_eq_true rfl)) dX11_weight_95 ⟨Nat.zero_le _, Nat.zero_le _⟩) hP hD hS hA [12, 13, 14, 15, 16, 17, 18, 19] [0, 1, 2, 3, 4, 5, 6, 7, 8, 9, 10, 11, 20, 21, 22, 23, 24] [0, 1, 2, 3, 4, 5, 6, 7, 8, 9, 10, 11, 17, 18, 19, 20, 21, 22, 23, 24, 12, 13, 14, 15, 16] rfl rfl (by decide) (by decide) rfl (by decide) (fun H locs hP hD hS => ?_)
          have hP : va_P G vwCl (ww_C q cs v_ro v_sumCount v_told v_toldCount v_row v_rowLength v_asked v_rising v_falling v_turned v_totals v_before v_after v_keptBytes r5.1 r5.2 r6.2.1 r6.2.2.1 r6.2.2.2.1 r6.2.2.2.2.1 r6.2.2.2.2.2 r9 v_lightestCount v_toldPlaces v_placeCount v_ways v_wayCount v_usable v_upTo) H := hP
          have hD : va_D A (ww_C q cs v_ro v_sumCount v_told v_toldCount v_row v_rowLength v_asked v_rising v_falling v_turned v_totals v_before v_after v_keptBytes r5.1 r5.2 r6.2.1 r6.2.2.1 r6.2.2.2.1 r6.2.2.2.2.1 r6.2.2.2.2.2 r9 v_lightestCount v_toldPlaces v_placeCount v_ways v_wayCount v_usable v_upTo) := hD
          refine lv_aload_n hx hb dX11_weight_98 rfl (lv_at hl 3 rfl) ?_
          refine lv_iload hx hb dX11_weight_99 (lv_at hl 0 rfl) ?_
          refine va_put (D := G) (ci := 9) (v := .int r6.1) (ty := .int) (C := RX11) (T := TX11) (N := 12) hx hb hts hinX11 tyX11 tyX11_ok nmX11 hown hK.1 hP hD hS 0 rfl rfl 10 (by decide) wd7 (fun _ h9 => h9) rfl (by decide +kernel) rfl rfl (Nat.le_of_ble_eq_true rfl) dX11_weight_101 (fun H locs hP hD hS => ?_)
          have hP : va_P G vwCl (ww_C q cs v_ro v_sumCount v_told v_toldCount v_row v_rowLength v_asked v_rising v_falling v_turned v_totals v_before v_after v_keptBytes r5.1 r5.2 r6.2.1 r6.2.2.1 r6.2.2.2.1 r6.2.2.2.2.1 r6.2.2.2.2.2 r9 r6.1 v_toldPlaces v_placeCount v_ways v_wayCount v_usable v_upTo) H := hP
          have hD : va_D A (ww_C q cs v_ro v_sumCount v_told v_toldCount v_row v_rowLength v_asked v_rising v_falling v_turned v_totals v_before v_after v_keptBytes r5.1 r5.2 r6.2.1 r6.2.2.1 r6.2.2.2.1 r6.2.2.2.2.1 r6.2.2.2.2.2 r9 r6.1 v_toldPlaces v_placeCount v_ways v_wayCount v_usable v_upTo) := hD
          refine lv_iload hx hb dX11_weight_104 (lv_at hl 0 rfl) ?_
          have hq := Option.some.inj hm
          subst hq; subst hQ
          exact k_iret hx hb hr hlocks hP hD hS rfl trivial dX11_weight_106
        · have hm := i_f b8 hm
          refine lv_iconst (v := (-1)) hx hb dX11_weight_83 (by decide) ?_
          have hq := Option.some.inj hm
          subst hq; subst hQ
          exact k_iret hx hb hr hlocks hP hD hS rfl trivial dX11_weight_84
      · have hm := i_t b4 hm
        refine lv_bipush (v := (-3)) hx hb dX11_weight_42 (by decide) ?_
        have hq := Option.some.inj hm
        subst hq; subst hQ
        exact k_iret hx hb hr hlocks hP hD hS rfl trivial dX11_weight_44
    · have hm := i_f b2 hm
      have b2n := not_D hv1 b2
      refine instn_D (own := RX11) hx hb hown wd1 hK (RO.at hS hRo j1 _ hj1).1 b2n dX11_weight_14 ?_
      refine lv_if_eq (tgt := 29) hx hb dX11_weight_17 (by decide) (fun b9 => ?_) (fun b9 => absurd (by decide) b9)
      refine lv_bipush (v := (-4)) hx hb dX11_weight_29 (by decide) ?_
      have hq := Option.some.inj hm
      subst hq; subst hQ
      exact k_iret hx hb hr hlocks hP hD hS rfl trivial dX11_weight_31

theorem hd_X11_lightest : yX11_lightest.cls ≠ "java/lang/invoke/MethodHandle" ∧ yX11_lightest.cls ≠ "java/lang/invoke/VarHandle" ∧ (parseMethodDescriptor yX11_lightest.desc).map (fun d => d.parameters.length) = some 1 := by decide +kernel

def M_X11_lightest (x1 : Int32) (v_lightestPlaces : (Nat → Int32)) (v_lightestCount : Int32) : Option Int32 :=
  if (M_X11_within x1 (0 : Int32) (3 : Int32)) = 0 then (some (-3)) else (if v_lightestCount ≤ x1 then (some (-1)) else (if x1 < 0 ∨ 4 ≤ x1.toNatClampNeg then none else some (v_lightestPlaces x1.toNatClampNeg)))

abbrev rmX11_lightest : Room := { frames := 1, cells := 0, slots := 0, locals := 22 }
set_option maxHeartbeats 4000000 in
set_option maxRecDepth 100000 in
theorem c_X11_lightest (l : Launch) (G : va_G) (cs : CS) (q : Nat → Nat) (sz : Nat) (v_ro : RF) (v_sumCount : Int32) (v_told : (Nat → Int32)) (v_toldCount : Int32) (v_row : (Nat → Int32)) (v_rowLength : Int32) (v_asked : (Nat → Int32)) (v_rising : (Nat → Int64)) (v_falling : (Nat → Int64)) (v_turned : (Nat → Int32)) (v_totals : (Nat → Int64)) (v_before : (Nat → Int32)) (v_after : (Nat → Int32)) (v_keptBytes : Int32) (v_syndromes : (Nat → Int64)) (v_places : Int32) (v_firstEntry : (Nat → Int32)) (v_nextEntry : (Nat → Int32)) (v_numbers : (Nat → Int64)) (v_counts : (Nat → Int32)) (v_size : Int32) (v_lightestPlaces : (Nat → Int32)) (v_lightestCount : Int32) (v_toldPlaces : (Nat → Int32)) (v_placeCount : Int32) (v_ways : (Nat → Int32)) (v_wayCount : Int32) (v_usable : (Nat → Int32)) (v_upTo : (Nat → Int64))   (x1 : Int32) (res : Int32) (hm : M_X11_lightest x1 v_lightestPlaces v_lightestCount = some res) : Met l yX11_lightest wsX11_lightest rmX11_lightest (va_Pc [.ref (q 0), .int x1] (PreW G cs sz (ww_C q cs v_ro v_sumCount v_told v_toldCount v_row v_rowLength v_asked v_rising v_falling v_turned v_totals v_before v_after v_keptBytes v_syndromes v_places v_firstEntry v_nextEntry v_numbers v_counts v_size v_lightestPlaces v_lightestCount v_toldPlaces v_placeCount v_ways v_wayCount v_usable v_upTo) v_ro)) (QI G res True (ww_C q cs v_ro v_sumCount v_told v_toldCount v_row v_rowLength v_asked v_rising v_falling v_turned v_totals v_before v_after v_keptBytes v_syndromes v_places v_firstEntry v_nextEntry v_numbers v_counts v_size v_lightestPlaces v_lightestCount v_toldPlaces v_placeCount v_ways v_wayCount v_usable v_upTo) (va_A (ww_C q cs v_ro v_sumCount v_told v_toldCount v_row v_rowLength v_asked v_rising v_falling v_turned v_totals v_before v_after v_keptBytes v_syndromes v_places v_firstEntry v_nextEntry v_numbers v_counts v_size v_lightestPlaces v_lightestCount v_toldPlaces v_placeCount v_ways v_wayCount v_usable v_upTo) sz)) 0 0 (va_A (ww_C q cs v_ro v_sumCount v_told v_toldCount v_row v_rowLength v_asked v_rising v_falling v_turned v_totals v_before v_after v_keptBytes v_syndromes v_places v_firstEntry v_nextEntry v_numbers v_counts v_size v_lightestPlaces v_lightestCount v_toldPlaces v_placeCount v_ways v_wayCount v_usable v_upTo) sz) := by
  refine k_enter (Qf := fun A => QI G res True (ww_C q cs v_ro v_sumCount v_told v_toldCount v_row v_rowLength v_asked v_rising v_falling v_turned v_totals v_before v_after v_keptBytes v_syndromes v_places v_firstEntry v_nextEntry v_numbers v_counts v_size v_lightestPlaces v_lightestCount v_toldPlaces v_placeCount v_ways v_wayCount v_usable v_upTo) A) (cc := cX11_lightest) (maxL := 2) (ret := (some .int)) (plainFor_of_name (by decide)) rfl (Nat.le_of_ble_eq_true rfl) ?_
  intro p e s m args below meth c A Q ls H locs hx hb hr hml hown hts hlocks hname hK hA hRo hP hD hS hQ hl
  have hl : lv_has ls 2 [(0, .ref (q 0)), (1, .int x1)] := hl
  have wd1 := hts (.fieldLink RX11 52 "SumSmith" "lightestCount" "I") (List.mem_of_getElem? (i := 1) rfl)
  have wd2 := hts (.fieldLink RX11 49 "SumSmith" "lightestPlaces" "[I") (List.mem_of_getElem? (i := 2) rfl)
  have hinX11 : ∀ w ∈ wsX110, w ∈ wsX11_lightest := fun w h => List.mem_cons_of_mem _ (List.mem_append_right _ h)
  unfold M_X11_lightest at hm
  refine lv_iload_n hx hb dX11_lightest_0 rfl (lv_at hl 1 rfl) ?_
  refine lv_iconst (v := 0) hx hb dX11_lightest_1 (by decide) ?_
  refine lv_iconst (v := 3) hx hb dX11_lightest_2 (by decide) ?_
  refine k_calli0 (va_runS (As := [.int x1, .int 0, .int 3]) (rest := []) ⟨hx, hb, hml, hown, hts⟩ (c_X11_within l G cs H.size    x1 (0 : Int32) (3 : Int32) _ rfl) (va_cwS 3 hts gX11_lightest_X11_within rfl rfl rfl hd_X11_within ⟨Nat.le_of_ble_eq_true rfl, Nat.le_of_ble_eq_true rfl⟩) ⟨pre_blind, pre_w hK RO.nil P0 D0 (va_new0 hS hA)⟩ rfl rfl hl.1 rfl (lv_room (Nat.le_of_ble_eq_true rfl)) dX11_lightest_3 ⟨Nat.zero_le _, Nat.zero_le _⟩) hP hS hA (fun hE1 H locs hP hS => ?_)
  refine lv_if_ne (tgt := 12) hx hb dX11_lightest_6 (by decide) (fun b2 => ?_) (fun b2 => ?_)
  · have hm := i_f b2 hm
    refine lv_iload_n hx hb dX11_lightest_12 rfl (lv_at hl 1 rfl) ?_
    refine lv_aload_n hx hb dX11_lightest_13 rfl (lv_at hl 0 rfl) ?_
    refine va_get (D := G) (ci := 9) (v := .int v_lightestCount) (C := RX11) (T := TX11) (N := 12) hx hb hts hinX11 hown hK.1 hP 0 rfl rfl 10 (by decide) wd1 (fun _ h9 => h9) rfl dX11_lightest_14 ?_
    refine lv_icmp_ge (tgt := 29) hx hb dX11_lightest_17 (by decide) (fun b3 => ?_) (fun b3 => ?_)
    · have hm := i_t b3 hm
      refine lv_iconst (v := (-1)) hx hb dX11_lightest_29 (by decide) ?_
      have hq := Option.some.inj hm
      subst hq; subst hQ
      exact k_iret hx hb hr hlocks hP hD hS rfl trivial dX11_lightest_30
    · have hm := i_f b3 hm
      refine lv_aload_n hx hb dX11_lightest_20 rfl (lv_at hl 0 rfl) ?_
      refine va_get (D := G) (ci := 9) (v := .ref (q 19)) (C := RX11) (T := TX11) (N := 12) hx hb hts hinX11 hown hK.1 hP 0 rfl rfl 9 (by decide) wd2 (fun _ h9 => h9) rfl dX11_lightest_21 ?_
      refine lv_iload_n hx hb dX11_lightest_24 rfl (lv_at hl 1 rfl) ?_
      obtain ⟨h4, hm⟩ := g_in hm
      refine va_iald hx hb hK.1 hP 19 0 rfl rfl h4 dX11_lightest_25 ?_
      refine lv_goto (tgt := 30) hx hb dX11_lightest_26 (by decide) ?_
      have hq := Option.some.inj hm
      subst hq; subst hQ
      exact k_iret hx hb hr hlocks hP hD hS rfl trivial dX11_lightest_30
  · have hm := i_t b2 hm
    refine lv_bipush (v := (-3)) hx hb dX11_lightest_9 (by decide) ?_
    have hq := Option.some.inj hm
    subst hq; subst hQ
    exact k_iret hx hb hr hlocks hP hD hS rfl trivial dX11_lightest_11

theorem hd_X11_count : yX11_count.cls ≠ "java/lang/invoke/MethodHandle" ∧ yX11_count.cls ≠ "java/lang/invoke/VarHandle" ∧ (parseMethodDescriptor yX11_count.desc).map (fun d => d.parameters.length) = some 3 := by decide +kernel

def M_X11_count (n : Nat) (x1 : Int32) (x2 : Int32) (x3 : Int32) (v_ro : RF) (v_sumCount : Int32) (v_syndromes : (Nat → Int64)) (v_places : Int32) (v_firstEntry : (Nat → Int32)) (v_nextEntry : (Nat → Int32)) (v_numbers : (Nat → Int64)) (v_counts : (Nat → Int32)) (v_size : Int32) : Option (Int32 × (Nat → Int64) × Int32 × (Nat → Int32) × (Nat → Int32) × (Nat → Int64) × (Nat → Int32) × Int32) :=
  (M_X11_sumAt x1 v_ro v_sumCount).bind fun r1 => Option.elim r1 (some ((-2), v_syndromes, v_places, v_firstEntry, v_nextEntry, v_numbers, v_counts, v_size)) (fun y1 => if y1.2.2.1 = 8 ∨ y1.2.2.1 = 7 ∨ y1.2.2.1 = 6 ∨ y1.2.2.1 = 1 ∨ y1.2.2.1 = 4 then (if y1.2.2.1 = 1 then (if (M_X11_within x2 (1 : Int32) (4 : Int32)) = 0 then (some ((-3), v_syndromes, v_places, v_firstEntry, v_nextEntry, v_numbers, v_counts, v_size)) else (if (M_X11_within x3 (1 : Int32) (6 : Int32)) = 0 then (some ((-3), v_syndromes, v_places, v_firstEntry, v_nextEntry, v_numbers, v_counts, v_size)) else ((M_X3_load n x3 y1.2.2.2.2.1 y1.2.2.2.2.2.2.1 y1.2.2.2.2.2.2.2.2.2.1 v_syndromes v_places).bind fun r7 => (M_X3_howMany n x2 r7.1 r7.2 v_firstEntry v_nextEntry v_numbers v_counts v_size).bind fun r8 => some (r8.1, r7.1, r7.2, r8.2.1, r8.2.2.1, r8.2.2.2.1, r8.2.2.2.2.1, r8.2.2.2.2.2)))) else (some ((-4), v_syndromes, v_places, v_firstEntry, v_nextEntry, v_numbers, v_counts, v_size))) else none)

abbrev rmX11_count : Room := { frames := 4, cells := 0, slots := 0, locals := 93 }
set_option maxHeartbeats 4000000 in
set_option maxRecDepth 100000 in
theorem c_X11_count (l : Launch) (G : va_G) (cs : CS) (q : Nat → Nat) (sz : Nat) (v_ro : RF) (v_sumCount : Int32) (v_told : (Nat → Int32)) (v_toldCount : Int32) (v_row : (Nat → Int32)) (v_rowLength : Int32) (v_asked : (Nat → Int32)) (v_rising : (Nat → Int64)) (v_falling : (Nat → Int64)) (v_turned : (Nat → Int32)) (v_totals : (Nat → Int64)) (v_before : (Nat → Int32)) (v_after : (Nat → Int32)) (v_keptBytes : Int32) (v_syndromes : (Nat → Int64)) (v_places : Int32) (v_firstEntry : (Nat → Int32)) (v_nextEntry : (Nat → Int32)) (v_numbers : (Nat → Int64)) (v_counts : (Nat → Int32)) (v_size : Int32) (v_lightestPlaces : (Nat → Int32)) (v_lightestCount : Int32) (v_toldPlaces : (Nat → Int32)) (v_placeCount : Int32) (v_ways : (Nat → Int32)) (v_wayCount : Int32) (v_usable : (Nat → Int32)) (v_upTo : (Nat → Int64))   (x1 : Int32) (x2 : Int32) (x3 : Int32) (n : Nat) (res : (Int32 × (Nat → Int64) × Int32 × (Nat → Int32) × (Nat → Int32) × (Nat → Int64) × (Nat → Int32) × Int32)) (hm : M_X11_count n x1 x2 x3 v_ro v_sumCount v_syndromes v_places v_firstEntry v_nextEntry v_numbers v_counts v_size = some res) : Met l yX11_count wsX11_count rmX11_count (va_Pc [.ref (q 0), .int x1, .int x2, .int x3] (PreW G cs sz (ww_C q cs v_ro v_sumCount v_told v_toldCount v_row v_rowLength v_asked v_rising v_falling v_turned v_totals v_before v_after v_keptBytes v_syndromes v_places v_firstEntry v_nextEntry v_numbers v_counts v_size v_lightestPlaces v_lightestCount v_toldPlaces v_placeCount v_ways v_wayCount v_usable v_upTo) v_ro)) (QI G res.1 True (ww_C q cs v_ro v_sumCount v_told v_toldCount v_row v_rowLength v_asked v_rising v_falling v_turned v_totals v_before v_after v_keptBytes res.2.1 res.2.2.1 res.2.2.2.1 res.2.2.2.2.1 res.2.2.2.2.2.1 res.2.2.2.2.2.2.1 res.2.2.2.2.2.2.2 v_lightestPlaces v_lightestCount v_toldPlaces v_placeCount v_ways v_wayCount v_usable v_upTo) (va_A (ww_C q cs v_ro v_sumCount v_told v_toldCount v_row v_rowLength v_asked v_rising v_falling v_turned v_totals v_before v_after v_keptBytes v_syndromes v_places v_firstEntry v_nextEntry v_numbers v_counts v_size v_lightestPlaces v_lightestCount v_toldPlaces v_placeCount v_ways v_wayCount v_usable v_upTo) sz)) 0 0 (va_A (ww_C q cs v_ro v_sumCount v_told v_toldCount v_row v_rowLength v_asked v_rising v_falling v_turned v_totals v_before v_after v_keptBytes v_syndromes v_places v_firstEntry v_nextEntry v_numbers v_counts v_size v_lightestPlaces v_lightestCount v_toldPlaces v_placeCount v_ways v_wayCount v_usable v_upTo) sz) := by
  refine k_enter (Qf := fun A => QI G res.1 True (ww_C q cs v_ro v_sumCount v_told v_toldCount v_row v_rowLength v_asked v_rising v_falling v_turned v_totals v_before v_after v_keptBytes res.2.1 res.2.2.1 res.2.2.2.1 res.2.2.2.2.1 res.2.2.2.2.2.1 res.2.2.2.2.2.2.1 res.2.2.2.2.2.2.2 v_lightestPlaces v_lightestCount v_toldPlaces v_placeCount v_ways v_wayCount v_usable v_upTo) A) (cc := cX11_count) (maxL := 6) (ret := (some .int)) (plainFor_of_name (by decide)) rfl (Nat.le_of_ble_eq_true rfl) ?_
  intro p e s m args below meth c A Q ls H locs hx hb hr hml hown hts hlocks hname hK hA hRo hP hD hS hQ hl
  have hl : lv_has ls 6 [(0, .ref (q 0)), (1, .int x1), (2, .int x2), (3, .int x3)] := hl
  have wd1 := hts (.classLink RX11 107 "SumSmith$Divided") (List.mem_of_getElem? (i := 1) rfl)
  have wd2 := hts (.fieldLink RX11 45 "SumSmith" "sets" "LSumSmith$PlaceSets;") (List.mem_of_getElem? (i := 2) rfl)
  have wd3 := hts (.fieldLink RX11 203 "SumSmith$Divided" "width" "I") (List.mem_of_getElem? (i := 3) rfl)
  have wd4 := hts (.fieldLink RX11 206 "SumSmith$Divided" "polynomial" "J") (List.mem_of_getElem? (i := 4) rfl)
  have wd5 := hts (.fieldLink RX11 210 "SumSmith$Divided" "low" "Z") (List.mem_of_getElem? (i := 5) rfl)
  have hinX11 : ∀ w ∈ wsX110, w ∈ wsX11_count := fun w h => List.mem_cons_of_mem _ (List.mem_append_left _ (List.mem_append_left _ (List.mem_append_left _ (List.mem_append_right _ h))))
  have hinX1 : ∀ w ∈ wsX10, w ∈ wsX11_count := fun w h => List.mem_cons_of_mem _ (List.mem_append_left _ (List.mem_append_left _ (List.mem_append_right _ h)))
  unfold M_X11_count at hm
  refine lv_aload_n hx hb dX11_count_0 rfl (lv_at hl 0 rfl) ?_
  refine lv_iload_n hx hb dX11_count_1 rfl (lv_at hl 1 rfl) ?_
  obtain ⟨r1, hc_r1, hm⟩ := bs hm
  refine k_callq (va_runV (As := [.int x1]) (rest := []) ⟨hx, hb, hml, hown, hts⟩ (c_X11_sumAt l G cs q H.size v_ro v_sumCount v_told v_toldCount v_row v_rowLength v_asked v_rising v_falling v_turned v_totals v_before v_after v_keptBytes v_syndromes v_places v_firstEntry v_nextEntry v_numbers v_counts v_size v_lightestPlaces v_lightestCount v_toldPlaces v_placeCount v_ways v_wayCount v_usable v_upTo x1 r1 hc_r1) (cwV 1 hts gX11_count_X11_sumAt rfl rfl rfl ⟨rfl, hd_X11_sumAt⟩ ⟨Nat.le_of_ble_eq_true rfl, Nat.le_of_ble_eq_true rfl⟩) ⟨pre_blind, va_recv hK.1 hP (ci := 9) (q0 := 0) rfl rfl, pre_w hK (RO.at hS hRo) hP hD (va_all hD hS hA)⟩ rfl rfl hl.1 rfl (lv_room (Nat.le_of_ble_eq_true rfl)) dX11_count_2 ⟨Nat.zero_le _, Nat.zero_le _⟩) hS (va_all hD hS hA) (fun H locs hP hD hS => ?_)
  have hP : va_P G vwCl (ww_C q cs v_ro v_sumCount v_told v_toldCount v_row v_rowLength v_asked v_rising v_falling v_turned v_totals v_before v_after v_keptBytes v_syndromes v_places v_firstEntry v_nextEntry v_numbers v_counts v_size v_lightestPlaces v_lightestCount v_toldPlaces v_placeCount v_ways v_wayCount v_usable v_upTo) H := hP
  have hD : va_D A (ww_C q cs v_ro v_sumCount v_told v_toldCount v_row v_rowLength v_asked v_rising v_falling v_turned v_totals v_before v_after v_keptBytes v_syndromes v_places v_firstEntry v_nextEntry v_numbers v_counts v_size v_lightestPlaces v_lightestCount v_toldPlaces v_placeCount v_ways v_wayCount v_usable v_upTo) := hD
  cases r1 with
  | none =>
    have hm := oe_n hm
    refine lv_astoreN (lv' := [(4, .null), (0, .ref (q 0)), (1, .int x1), (2, .int x2), (3, .int x3)]) hx hb dX11_count_5 hl (by decide) rfl (fun ls hl => ?_)
    refine lv_aloadN hx hb dX11_count_7 (lv_at hl 0 rfl) ?_
    refine lv_ifnonnullN hx hb dX11_count_9 ?_
    refine lv_bipush (v := (-2)) hx hb dX11_count_12 (by decide) ?_
    have hq := Option.some.inj hm
    subst hq; subst hQ
    exact k_iret hx hb hr hlocks hP hD hS rfl trivial dX11_count_14
  | some y1 =>
    have hm := oe_s hm
    obtain ⟨j1, hj1⟩ := sumAt_ro hc_r1
    obtain ⟨hv1, hm⟩ := g_pos hm
    refine lv_astore (lv' := [(4, .ref y1.1), (0, .ref (q 0)), (1, .int x1), (2, .int x2), (3, .int x3)]) hx hb dX11_count_5 hl (by decide) rfl (fun ls hl => ?_)
    refine lv_aload hx hb dX11_count_7 (lv_at hl 0 rfl) ?_
    refine lv_ifnonnull (tgt := 15) hx hb dX11_count_9 (by decide) ?_
    refine lv_aload hx hb dX11_count_15 (lv_at hl 0 rfl) ?_
    by_cases b2 : y1.2.2.1 = 1
    · have hm := i_t b2 hm
      refine inst_D (own := RX11) hx hb hown wd1 hK (RO.at hS hRo j1 _ hj1).1 b2 dX11_count_17 ?_
      refine lv_if_eq (tgt := 33) hx hb dX11_count_20 (by decide) (fun b9 => absurd b9 (by decide)) (fun b9 => ?_)
      refine lv_aload hx hb dX11_count_23 (lv_at hl 0 rfl) ?_
      refine cast_D (own := RX11) hx hb hown wd1 hK (RO.at hS hRo j1 _ hj1).1 b2 dX11_count_25 ?_
      refine lv_astore (lv' := [(5, .ref y1.1), (4, .ref y1.1), (0, .ref (q 0)), (1, .int x1), (2, .int x2), (3, .int x3)]) hx hb dX11_count_28 hl (by decide) rfl (fun ls hl => ?_)
      refine lv_goto (tgt := 36) hx hb dX11_count_30 (by decide) ?_
      refine lv_iload_n hx hb dX11_count_36 rfl (lv_at hl 4 rfl) ?_
      refine lv_iconst (v := 1) hx hb dX11_count_37 (by decide) ?_
      refine lv_iconst (v := 4) hx hb dX11_count_38 (by decide) ?_
      refine k_calli0 (va_runS (As := [.int x2, .int 1, .int 4]) (rest := []) ⟨hx, hb, hml, hown, hts⟩ (c_X11_within l G cs H.size    x2 (1 : Int32) (4 : Int32) _ rfl) (va_cwS 3 hts gX11_count_X11_within rfl rfl rfl hd_X11_within ⟨Nat.le_of_ble_eq_true rfl, Nat.le_of_ble_eq_true rfl⟩) ⟨pre_blind, pre_w hK RO.nil P0 D0 (va_new0 hS hA)⟩ rfl rfl hl.1 rfl (lv_room (Nat.le_of_ble_eq_true rfl)) dX11_count_39 ⟨Nat.zero_le _, Nat.zero_le _⟩) hP hS hA (fun hE3 H locs hP hS => ?_)
      refine lv_if_eq (tgt := 55) hx hb dX11_count_42 (by decide) (fun b4 => ?_) (fun b4 => ?_)
      · have hm := i_t b4 hm
        refine lv_bipush (v := (-3)) hx hb dX11_count_55 (by decide) ?_
        have hq := Option.some.inj hm
        subst hq; subst hQ
        exact k_iret hx hb hr hlocks hP hD hS rfl trivial dX11_count_57
      · have hm := i_f b4 hm
        refine lv_iload_n hx hb dX11_count_45 rfl (lv_at hl 5 rfl) ?_
        refine lv_iconst (v := 1) hx hb dX11_count_46 (by decide) ?_
        refine lv_bipush (v := 6) hx hb dX11_count_47 (by decide) ?_
        refine k_calli0 (va_runS (As := [.int x3, .int 1, .int 6]) (rest := []) ⟨hx, hb, hml, hown, hts⟩ (c_X11_within l G cs H.size    x3 (1 : Int32) (6 : Int32) _ rfl) (va_cwS 3 hts gX11_count_X11_within rfl rfl rfl hd_X11_within ⟨Nat.le_of_ble_eq_true rfl, Nat.le_of_ble_eq_true rfl⟩) ⟨pre_blind, pre_w hK RO.nil P0 D0 (va_new0 hS hA)⟩ rfl rfl hl.1 rfl (lv_room (Nat.le_of_ble_eq_true rfl)) dX11_count_49 ⟨Nat.zero_le _, Nat.zero_le _⟩) hP hS hA (fun hE5 H locs hP hS => ?_)
        refine lv_if_ne (tgt := 58) hx hb dX11_count_52 (by decide) (fun b6 => ?_) (fun b6 => ?_)
        · have hm := i_f b6 hm
          refine lv_aload_n hx hb dX11_count_58 rfl (lv_at hl 2 rfl) ?_
          refine va_get (D := G) (ci := 9) (v := .ref (q 12)) (C := RX11) (T := TX11) (N := 12) hx hb hts hinX11 hown hK.1 hP 0 rfl rfl 8 (by decide) wd2 (fun _ h9 => h9) rfl dX11_count_59 ?_
          refine lv_iload_n hx hb dX11_count_62 rfl (lv_at hl 5 rfl) ?_
          refine lv_aload hx hb dX11_count_63 (lv_at hl 0 rfl) ?_
          refine va_get (D := G) (ci := 1) (v := .int y1.2.2.2.2.1) (C := RX1) (T := TX1) (N := 6) hx hb hts hinX1 hown hK.1 (divF (RO.at hS hRo j1 _ hj1).1 b2) 0 rfl rfl 1 (by decide) wd3 (fun _ h9 => h9) rfl dX11_count_65 ?_
          refine lv_aload hx hb dX11_count_68 (lv_at hl 0 rfl) ?_
          refine va_get (D := G) (ci := 1) (v := .long y1.2.2.2.2.2.2.1) (C := RX1) (T := TX1) (N := 6) hx hb hts hinX1 hown hK.1 (divF (RO.at hS hRo j1 _ hj1).1 b2) 0 rfl rfl 2 (by decide) wd4 (fun _ h9 => h9) rfl dX11_count_70 ?_
          refine lv_aload hx hb dX11_count_73 (lv_at hl 0 rfl) ?_
          refine va_get (D := G) (ci := 1) (v := .int y1.2.2.2.2.2.2.2.2.2.1) (C := RX1) (T := TX1) (N := 6) hx hb hts hinX1 hown hK.1 (divF (RO.at hS hRo j1 _ hj1).1 b2) 0 rfl rfl 3 (by decide) wd5 (fun _ h9 => h9) rfl dX11_count_75 ?_
          obtain ⟨r7, hc_r7, hm⟩ := bs hm
          refine k_callvj (wr := [((q 0), .inr (9, [.ref (q 1), .int v_sumCount, .ref (q 2), .int v_toldCount, .ref (q 3), .int v_rowLength, .ref (q 4), .ref (q 5), .ref (q 12), .ref (q 19), .int v_lightestCount, .ref (q 20)])), ((q 1), .inl (cs.2.2.2, 16, .inr (.inr (.inr (.inr (roA v_ro)))))), ((q 2), .inl (cs.1, 100, .inl v_told)), ((q 3), .inl (cs.1, 64, .inl v_row)), ((q 4), .inl (cs.1, 7, .inl v_asked)), ((q 5), .inr (3, [.ref (q 6), .ref (q 7), .ref (q 8), .ref (q 9), .ref (q 10), .ref (q 11), .int v_keptBytes])), ((q 6), .inl (cs.2.1, 64, .inr (.inl v_rising))), ((q 7), .inl (cs.2.1, 64, .inr (.inl v_falling))), ((q 8), .inl (cs.1, 8, .inl v_turned)), ((q 9), .inl (cs.2.1, 64, .inr (.inl v_totals))), ((q 10), .inl (cs.1, 8, .inl v_before)), ((q 11), .inl (cs.1, 8, .inl v_after)), ((q 19), .inl (cs.1, 4, .inl v_lightestPlaces)), ((q 20), .inr (0, [.ref (q 21), .int v_placeCount, .ref (q 22), .int v_wayCount, .ref (q 23), .ref (q 24)])), ((q 21), .inl (cs.1, 16, .inl v_toldPlaces)), ((q 22), .inl (cs.1, 64, .inl v_ways)), ((q 23), .inl (cs.1, 16, .inl v_usable)), ((q 24), .inl (cs.2.1, 16, .inr (.inl v_upTo)))]) (w2 := (ww_C q cs v_ro v_sumCount v_told v_toldCount v_row v_rowLength v_asked v_rising v_falling v_turned v_totals v_before v_after v_keptBytes r7.1 r7.2 v_firstEntry v_nextEntry v_numbers v_counts v_size v_lightestPlaces v_lightestCount v_toldPlaces v_placeCount v_ways v_wayCount v_usable v_upTo)) (va_runV (As := [.int x3, .int y1.2.2.2.2.1, .long y1.2.2.2.2.2.2.1, .int y1.2.2.2.2.2.2.2.2.2.1]) (rest := []) ⟨hx, hb, hml, hown, hts⟩ (c_X3_load l G cs (fun i => q (i + 12)) H.size v_syndromes v_places v_firstEntry v_nextEntry v_numbers v_counts v_size   x3 y1.2.2.2.2.1 y1.2.2.2.2.2.2.1 y1.2.2.2.2.2.2.2.2.2.1 n r7 hc_r7) (cwV 4 hts gX11_count_X3_load rfl rfl rfl ⟨rfl, hd_X3_load⟩ ⟨Nat.le_of_ble_eq_true rfl, Nat.le_of_ble_eq_true rfl⟩) ⟨pre_blind, va_recv hK.1 hP (ci := 2) (q0 := 12) rfl rfl, pre_w hK RO.nil (P_by hP [12, 13, 14, 15, 16, 17, 18] rfl) (hD.sub [12, 13, 14, 15, 16, 17, 18] (by decide) rfl) (va_free hD hS hA [12, 13, 14, 15, 16, 17, 18] rfl)⟩ rfl rfl hl.1 rfl (lv_room (Nat.le_of_ble_eq_true rfl)) dX11_count_78 ⟨Nat.zero_le _, Nat.zero_le _⟩) hP hD hS hA [12, 13, 14, 15, 16, 17, 18] [0, 1, 2, 3, 4, 5, 6, 7, 8, 9, 10, 11, 19, 20, 21, 22, 23, 24] [0, 1, 2, 3, 4, 5, 6, 7, 8, 9, 10, 11, 18, 19, 20, 21, 22, 23, 24, 12, 13, 14, 15, 16, 17] rfl rfl (by decide) (by decide) rfl (by decide) (fun H locs hP hD hS => ?_)
          have hP : va_P G vwCl (ww_C q cs v_ro v_sumCount v_told v_toldCount v_row v_rowLength v_asked v_rising v_falling v_turned v_totals v_before v_after v_keptBytes r7.1 r7.2 v_firstEntry v_nextEntry v_numbers v_counts v_size v_lightestPlaces v_lightestCount v_toldPlaces v_placeCount v_ways v_wayCount v_usable v_upTo) H := hP
          have hD : va_D A (ww_C q cs v_ro v_sumCount v_told v_toldCount v_row v_rowLength v_asked v_rising v_falling v_turned v_totals v_before v_after v_keptBytes r7.1 r7.2 v_firstEntry v_nextEntry v_numbers v_counts v_size v_lightestPlaces v_lightestCount v_toldPlaces v_placeCount v_ways v_wayCount v_usable v_upTo) := hD
          refine lv_aload_n hx hb dX11_count_81 rfl (lv_at hl 2 rfl) ?_
          refine va_get (D := G) (ci := 9) (v := .ref (q 12)) (C := RX11) (T := TX11) (N := 12) hx hb hts hinX11 hown hK.1 hP 0 rfl rfl 8 (by decide) wd2 (fun _ h9 => h9) rfl dX11_count_82 ?_
          refine lv_iload_n hx hb dX11_count_85 rfl (lv_at hl 4 rfl) ?_
          obtain ⟨r8, hc_r8, hm⟩ := bs hm
          refine k_callij (wr := [((q 0), .inr (9, [.ref (q 1), .int v_sumCount, .ref (q 2), .int v_toldCount, .ref (q 3), .int v_rowLength, .ref (q 4), .ref (q 5), .ref (q 12), .ref (q 19), .int v_lightestCount, .ref (q 20)])), ((q 1), .inl (cs.2.2.2, 16, .inr (.inr (.inr (.inr (roA v_ro)))))), ((q 2), .inl (cs.1, 100, .inl v_told)), ((q 3), .inl (cs.1, 64, .inl v_row)), ((q 4), .inl (cs.1, 7, .inl v_asked)), ((q 5), .inr (3, [.ref (q 6), .ref (q 7), .ref (q 8), .ref (q 9), .ref (q 10), .ref (q 11), .int v_keptBytes])), ((q 6), .inl (cs.2.1, 64, .inr (.inl v_rising))), ((q 7), .inl (cs.2.1, 64, .inr (.inl v_falling))), ((q 8), .inl (cs.1, 8, .inl v_turned)), ((q 9), .inl (cs.2.1, 64, .inr (.inl v_totals))), ((q 10), .inl (cs.1, 8, .inl v_before)), ((q 11), .inl (cs.1, 8, .inl v_after)), ((q 19), .inl (cs.1, 4, .inl v_lightestPlaces)), ((q 20), .inr (0, [.ref (q 21), .int v_placeCount, .ref (q 22), .int v_wayCount, .ref (q 23), .ref (q 24)])), ((q 21), .inl (cs.1, 16, .inl v_toldPlaces)), ((q 22), .inl (cs.1, 64, .inl v_ways)), ((q 23), .inl (cs.1, 16, .inl v_usable)), ((q 24), .inl (cs.2.1, 16, .inr (.inl v_upTo)))]) (w2 := (ww_C q cs v_ro v_sumCount v_told v_toldCount v_row v_rowLength v_asked v_rising v_falling v_turned v_totals v_before v_after v_keptBytes r7.1 r7.2 r8.2.1 r8.2.2.1 r8.2.2.2.1 r8.2.2.2.2.1 r8.2.2.2.2.2 v_lightestPlaces v_lightestCount v_toldPlaces v_placeCount v_ways v_wayCount v_usable v_upTo)) (va_runV (As := [.int x2]) (rest := []) ⟨hx, hb, hml, hown, hts⟩ (c_X3_howMany l G cs (fun i => q (i + 12)) H.size r7.1 r7.2 v_firstEntry v_nextEntry v_numbers v_counts v_size   x2 n r8 hc_r8) (cwV 1 hts gX11_count_X3_howMany rfl rfl rfl ⟨rfl, hd_X3_howMany⟩ ⟨Nat.le_of_ble_eq_true rfl, Nat.le_of_ble_eq_true rfl⟩) ⟨pre_blind, va_recv hK.1 hP (ci := 2) (q0 := 12) rfl rfl, pre_w hK RO.nil (P_by hP [12, 13, 14, 15, 16, 17, 18] rfl) (hD.sub [12, 13, 14, 15, 16, 17, 18] (by decide) rfl) (va_free hD hS hA [12, 13, 14, 15, 16, 17, 18] rfl)⟩ rfl rfl hl.1 rfl (lv_room (Nat.le_of_ble_eq_true rfl)) dX11_count_86 ⟨Nat.zero_le _, Nat.zero_le _⟩) hP hD hS hA [12, 13, 14, 15, 16, 17, 18] [0, 1, 2, 3, 4, 5, 6, 7, 8, 9, 10, 11, 19, 20, 21, 22, 23, 24] [0, 1, 2, 3, 4, 5, 6, 7, 8, 9, 10, 11, 18, 19, 20, 21, 22, 23, 24, 12, 13, 14, 15, 16, 17] rfl rfl (by decide) (by decide) rfl (by decide) (fun hE9 H locs hP hD hS => ?_)
          have hP : va_P G vwCl (ww_C q cs v_ro v_sumCount v_told v_toldCount v_row v_rowLength v_asked v_rising v_falling v_turned v_totals v_before v_after v_keptBytes r7.1 r7.2 r8.2.1 r8.2.2.1 r8.2.2.2.1 r8.2.2.2.2.1 r8.2.2.2.2.2 v_lightestPlaces v_lightestCount v_toldPlaces v_placeCount v_ways v_wayCount v_usable v_upTo) H := hP
          have hD : va_D A (ww_C q cs v_ro v_sumCount v_told v_toldCount v_row v_rowLength v_asked v_rising v_falling v_turned v_totals v_before v_after v_keptBytes r7.1 r7.2 r8.2.1 r8.2.2.1 r8.2.2.2.1 r8.2.2.2.2.1 r8.2.2.2.2.2 v_lightestPlaces v_lightestCount v_toldPlaces v_placeCount v_ways v_wayCount v_usable v_upTo) := hD
          have hq := Option.some.inj hm
          subst hq; subst hQ
          exact k_iret hx hb hr hlocks hP hD hS rfl trivial dX11_count_89
        · have hm := i_t b6 hm
          refine lv_bipush (v := (-3)) hx hb dX11_count_55 (by decide) ?_
          have hq := Option.some.inj hm
          subst hq; subst hQ
          exact k_iret hx hb hr hlocks hP hD hS rfl trivial dX11_count_57
    · have hm := i_f b2 hm
      have b2n := not_D hv1 b2
      refine instn_D (own := RX11) hx hb hown wd1 hK (RO.at hS hRo j1 _ hj1).1 b2n dX11_count_17 ?_
      refine lv_if_eq (tgt := 33) hx hb dX11_count_20 (by decide) (fun b9 => ?_) (fun b9 => absurd (by decide) b9)
      refine lv_bipush (v := (-4)) hx hb dX11_count_33 (by decide) ?_
      have hq := Option.some.inj hm
      subst hq; subst hQ
      exact k_iret hx hb hr hlocks hP hD hS rfl trivial dX11_count_35

theorem hd_X11_period : yX11_period.cls ≠ "java/lang/invoke/MethodHandle" ∧ yX11_period.cls ≠ "java/lang/invoke/VarHandle" ∧ (parseMethodDescriptor yX11_period.desc).map (fun d => d.parameters.length) = some 1 := by decide +kernel

def M_X11_period (n : Nat) (x1 : Int32) (v_ro : RF) (v_sumCount : Int32) : Option Int32 :=
  (M_X11_sumAt x1 v_ro v_sumCount).bind fun r1 => Option.elim r1 (some (-2)) (fun y1 => if y1.2.2.1 = 8 ∨ y1.2.2.1 = 7 ∨ y1.2.2.1 = 6 ∨ y1.2.2.1 = 1 ∨ y1.2.2.1 = 4 then (if y1.2.2.1 = 1 then ((M_X1_findPeriod n y1.2.2.2.2.1 y1.2.2.2.2.2.2.1).bind fun r3 => some r3) else (some (-4))) else none)

abbrev rmX11_period : Room := { frames := 3, cells := 0, slots := 0, locals := 69 }
set_option maxHeartbeats 4000000 in
set_option maxRecDepth 100000 in
theorem c_X11_period (l : Launch) (G : va_G) (cs : CS) (q : Nat → Nat) (sz : Nat) (v_ro : RF) (v_sumCount : Int32) (v_told : (Nat → Int32)) (v_toldCount : Int32) (v_row : (Nat → Int32)) (v_rowLength : Int32) (v_asked : (Nat → Int32)) (v_rising : (Nat → Int64)) (v_falling : (Nat → Int64)) (v_turned : (Nat → Int32)) (v_totals : (Nat → Int64)) (v_before : (Nat → Int32)) (v_after : (Nat → Int32)) (v_keptBytes : Int32) (v_syndromes : (Nat → Int64)) (v_places : Int32) (v_firstEntry : (Nat → Int32)) (v_nextEntry : (Nat → Int32)) (v_numbers : (Nat → Int64)) (v_counts : (Nat → Int32)) (v_size : Int32) (v_lightestPlaces : (Nat → Int32)) (v_lightestCount : Int32) (v_toldPlaces : (Nat → Int32)) (v_placeCount : Int32) (v_ways : (Nat → Int32)) (v_wayCount : Int32) (v_usable : (Nat → Int32)) (v_upTo : (Nat → Int64))   (x1 : Int32) (n : Nat) (res : Int32) (hm : M_X11_period n x1 v_ro v_sumCount = some res) : Met l yX11_period wsX11_period rmX11_period (va_Pc [.ref (q 0), .int x1] (PreW G cs sz (ww_C q cs v_ro v_sumCount v_told v_toldCount v_row v_rowLength v_asked v_rising v_falling v_turned v_totals v_before v_after v_keptBytes v_syndromes v_places v_firstEntry v_nextEntry v_numbers v_counts v_size v_lightestPlaces v_lightestCount v_toldPlaces v_placeCount v_ways v_wayCount v_usable v_upTo) v_ro)) (QI G res True (ww_C q cs v_ro v_sumCount v_told v_toldCount v_row v_rowLength v_asked v_rising v_falling v_turned v_totals v_before v_after v_keptBytes v_syndromes v_places v_firstEntry v_nextEntry v_numbers v_counts v_size v_lightestPlaces v_lightestCount v_toldPlaces v_placeCount v_ways v_wayCount v_usable v_upTo) (va_A (ww_C q cs v_ro v_sumCount v_told v_toldCount v_row v_rowLength v_asked v_rising v_falling v_turned v_totals v_before v_after v_keptBytes v_syndromes v_places v_firstEntry v_nextEntry v_numbers v_counts v_size v_lightestPlaces v_lightestCount v_toldPlaces v_placeCount v_ways v_wayCount v_usable v_upTo) sz)) 0 0 (va_A (ww_C q cs v_ro v_sumCount v_told v_toldCount v_row v_rowLength v_asked v_rising v_falling v_turned v_totals v_before v_after v_keptBytes v_syndromes v_places v_firstEntry v_nextEntry v_numbers v_counts v_size v_lightestPlaces v_lightestCount v_toldPlaces v_placeCount v_ways v_wayCount v_usable v_upTo) sz) := by
  refine k_enter (Qf := fun A => QI G res True (ww_C q cs v_ro v_sumCount v_told v_toldCount v_row v_rowLength v_asked v_rising v_falling v_turned v_totals v_before v_after v_keptBytes v_syndromes v_places v_firstEntry v_nextEntry v_numbers v_counts v_size v_lightestPlaces v_lightestCount v_toldPlaces v_placeCount v_ways v_wayCount v_usable v_upTo) A) (cc := cX11_period) (maxL := 4) (ret := (some .int)) (plainFor_of_name (by decide)) rfl (Nat.le_of_ble_eq_true rfl) ?_
  intro p e s m args below meth c A Q ls H locs hx hb hr hml hown hts hlocks hname hK hA hRo hP hD hS hQ hl
  have hl : lv_has ls 4 [(0, .ref (q 0)), (1, .int x1)] := hl
  have wd1 := hts (.classLink RX11 107 "SumSmith$Divided") (List.mem_of_getElem? (i := 1) rfl)
  unfold M_X11_period at hm
  refine lv_aload_n hx hb dX11_period_0 rfl (lv_at hl 0 rfl) ?_
  refine lv_iload_n hx hb dX11_period_1 rfl (lv_at hl 1 rfl) ?_
  obtain ⟨r1, hc_r1, hm⟩ := bs hm
  refine k_callq (va_runV (As := [.int x1]) (rest := []) ⟨hx, hb, hml, hown, hts⟩ (c_X11_sumAt l G cs q H.size v_ro v_sumCount v_told v_toldCount v_row v_rowLength v_asked v_rising v_falling v_turned v_totals v_before v_after v_keptBytes v_syndromes v_places v_firstEntry v_nextEntry v_numbers v_counts v_size v_lightestPlaces v_lightestCount v_toldPlaces v_placeCount v_ways v_wayCount v_usable v_upTo x1 r1 hc_r1) (cwV 1 hts gX11_period_X11_sumAt rfl rfl rfl ⟨rfl, hd_X11_sumAt⟩ ⟨Nat.le_of_ble_eq_true rfl, Nat.le_of_ble_eq_true rfl⟩) ⟨pre_blind, va_recv hK.1 hP (ci := 9) (q0 := 0) rfl rfl, pre_w hK (RO.at hS hRo) hP hD (va_all hD hS hA)⟩ rfl rfl hl.1 rfl (lv_room (Nat.le_of_ble_eq_true rfl)) dX11_period_2 ⟨Nat.zero_le _, Nat.zero_le _⟩) hS (va_all hD hS hA) (fun H locs hP hD hS => ?_)
  have hP : va_P G vwCl (ww_C q cs v_ro v_sumCount v_told v_toldCount v_row v_rowLength v_asked v_rising v_falling v_turned v_totals v_before v_after v_keptBytes v_syndromes v_places v_firstEntry v_nextEntry v_numbers v_counts v_size v_lightestPlaces v_lightestCount v_toldPlaces v_placeCount v_ways v_wayCount v_usable v_upTo) H := hP
  have hD : va_D A (ww_C q cs v_ro v_sumCount v_told v_toldCount v_row v_rowLength v_asked v_rising v_falling v_turned v_totals v_before v_after v_keptBytes v_syndromes v_places v_firstEntry v_nextEntry v_numbers v_counts v_size v_lightestPlaces v_lightestCount v_toldPlaces v_placeCount v_ways v_wayCount v_usable v_upTo) := hD
  cases r1 with
  | none =>
    have hm := oe_n hm
    refine lv_astore_nN (lv' := [(2, .null), (0, .ref (q 0)), (1, .int x1)]) hx hb dX11_period_5 rfl hl (by decide) rfl (fun ls hl => ?_)
    refine lv_aload_nN hx hb dX11_period_6 rfl (lv_at hl 0 rfl) ?_
    refine lv_ifnonnullN hx hb dX11_period_7 ?_
    refine lv_bipush (v := (-2)) hx hb dX11_period_10 (by decide) ?_
    have hq := Option.some.inj hm
    subst hq; subst hQ
    exact k_iret hx hb hr hlocks hP hD hS rfl trivial dX11_period_12
  | some y1 =>
    have hm := oe_s hm
    obtain ⟨j1, hj1⟩ := sumAt_ro hc_r1
    obtain ⟨hv1, hm⟩ := g_pos hm
    refine lv_astore_n (lv' := [(2, .ref y1.1), (0, .ref (q 0)), (1, .int x1)]) hx hb dX11_period_5 rfl hl (by decide) rfl (fun ls hl => ?_)
    refine lv_aload_n hx hb dX11_period_6 rfl (lv_at hl 0 rfl) ?_
    refine lv_ifnonnull (tgt := 13) hx hb dX11_period_7 (by decide) ?_
    refine lv_aload_n hx hb dX11_period_13 rfl (lv_at hl 0 rfl) ?_
    by_cases b2 : y1.2.2.1 = 1
    · have hm := i_t b2 hm
      refine inst_D (own := RX11) hx hb hown wd1 hK (RO.at hS hRo j1 _ hj1).1 b2 dX11_period_14 ?_
      refine lv_if_eq (tgt := 32) hx hb dX11_period_17 (by decide) (fun b9 => absurd b9 (by decide)) (fun b9 => ?_)
      refine lv_aload_n hx hb dX11_period_20 rfl (lv_at hl 0 rfl) ?_
      refine cast_D (own := RX11) hx hb hown wd1 hK (RO.at hS hRo j1 _ hj1).1 b2 dX11_period_21 ?_
      refine lv_astore_n (lv' := [(3, .ref y1.1), (2, .ref y1.1), (0, .ref (q 0)), (1, .int x1)]) hx hb dX11_period_24 rfl hl (by decide) rfl (fun ls hl => ?_)
      refine lv_aload_n hx hb dX11_period_25 rfl (lv_at hl 0 rfl) ?_
      obtain ⟨r3, hc_r3, hm⟩ := bs hm
      refine k_calli0 (va_runV (As := []) (rest := []) ⟨hx, hb, hml, hown, hts⟩ (c_X1_findPeriod l G cs H.size   y1.1 y1.2.1 y1.2.2.2.1 y1.2.2.2.2.1 y1.2.2.2.2.2.1 y1.2.2.2.2.2.2.1 y1.2.2.2.2.2.2.2.1 y1.2.2.2.2.2.2.2.2.1 y1.2.2.2.2.2.2.2.2.2.1 y1.2.2.2.2.2.2.2.2.2.2.1 y1.2.2.2.2.2.2.2.2.2.2.2  n r3 hc_r3) (cwV 0 hts gX11_period_X1_findPeriod rfl rfl rfl ⟨rfl, hd_X1_findPeriod⟩ ⟨Nat.le_of_ble_eq_true rfl, Nat.le_of_ble_eq_true rfl⟩) ⟨pre_blind, va_recv hK.1 (divF (RO.at hS hRo j1 _ hj1).1 b2) (ci := 1) (q0 := 0) rfl rfl, pre_w hK (RO.cls hj1 b2 (RO.at hS hRo)) P0 D0 (va_new0 hS hA)⟩ rfl rfl hl.1 rfl (lv_room (Nat.le_of_ble_eq_true rfl)) dX11_period_26 ⟨Nat.zero_le _, Nat.zero_le _⟩) hP hS hA (fun hE4 H locs hP hS => ?_)
      refine lv_goto (tgt := 34) hx hb dX11_period_29 (by decide) ?_
      have hq := Option.some.inj hm
      subst hq; subst hQ
      exact k_iret hx hb hr hlocks hP hD hS rfl trivial dX11_period_34
    · have hm := i_f b2 hm
      have b2n := not_D hv1 b2
      refine instn_D (own := RX11) hx hb hown wd1 hK (RO.at hS hRo j1 _ hj1).1 b2n dX11_period_14 ?_
      refine lv_if_eq (tgt := 32) hx hb dX11_period_17 (by decide) (fun b9 => ?_) (fun b9 => absurd (by decide) b9)
      refine lv_bipush (v := (-4)) hx hb dX11_period_32 (by decide) ?_
      have hq := Option.some.inj hm
      subst hq; subst hQ
      exact k_iret hx hb hr hlocks hP hD hS rfl trivial dX11_period_34

theorem hd_X11_free : yX11_free.cls ≠ "java/lang/invoke/MethodHandle" ∧ yX11_free.cls ≠ "java/lang/invoke/VarHandle" ∧ (parseMethodDescriptor yX11_free.desc).map (fun d => d.parameters.length) = some 1 := by decide +kernel

def M_X11_free (n : Nat) (x1 : Int32) (v_rowLength : Int32) (v_toldPlaces : (Nat → Int32)) (v_placeCount : Int32) : Option (Int32 × (Nat → Int32) × Int32) :=
  if (M_X11_within x1 (0 : Int32) ((8 * v_rowLength) - 1)) = 0 then (some ((-3), v_toldPlaces, v_placeCount)) else ((M_X0_isTold n x1 v_toldPlaces v_placeCount).bind fun r3 => if r3 = 0 then (if (M_X0_isFull v_placeCount) = 0 then ((M_X0_addPlace x1 v_toldPlaces v_placeCount).bind fun r8 => some (r8.1, r8.2.1, r8.2.2)) else (some ((-6), v_toldPlaces, v_placeCount))) else (some ((-3), v_toldPlaces, v_placeCount)))

abbrev rmX11_free : Room := { frames := 1, cells := 0, slots := 0, locals := 22 }
set_option maxHeartbeats 4000000 in
set_option maxRecDepth 100000 in
theorem c_X11_free (l : Launch) (G : va_G) (cs : CS) (q : Nat → Nat) (sz : Nat) (v_ro : RF) (v_sumCount : Int32) (v_told : (Nat → Int32)) (v_toldCount : Int32) (v_row : (Nat → Int32)) (v_rowLength : Int32) (v_asked : (Nat → Int32)) (v_rising : (Nat → Int64)) (v_falling : (Nat → Int64)) (v_turned : (Nat → Int32)) (v_totals : (Nat → Int64)) (v_before : (Nat → Int32)) (v_after : (Nat → Int32)) (v_keptBytes : Int32) (v_syndromes : (Nat → Int64)) (v_places : Int32) (v_firstEntry : (Nat → Int32)) (v_nextEntry : (Nat → Int32)) (v_numbers : (Nat → Int64)) (v_counts : (Nat → Int32)) (v_size : Int32) (v_lightestPlaces : (Nat → Int32)) (v_lightestCount : Int32) (v_toldPlaces : (Nat → Int32)) (v_placeCount : Int32) (v_ways : (Nat → Int32)) (v_wayCount : Int32) (v_usable : (Nat → Int32)) (v_upTo : (Nat → Int64))   (x1 : Int32) (n : Nat) (res : (Int32 × (Nat → Int32) × Int32)) (hm : M_X11_free n x1 v_rowLength v_toldPlaces v_placeCount = some res) : Met l yX11_free wsX11_free rmX11_free (va_Pc [.ref (q 0), .int x1] (PreW G cs sz (ww_C q cs v_ro v_sumCount v_told v_toldCount v_row v_rowLength v_asked v_rising v_falling v_turned v_totals v_before v_after v_keptBytes v_syndromes v_places v_firstEntry v_nextEntry v_numbers v_counts v_size v_lightestPlaces v_lightestCount v_toldPlaces v_placeCount v_ways v_wayCount v_usable v_upTo) v_ro)) (QI G res.1 True (ww_C q cs v_ro v_sumCount v_told v_toldCount v_row v_rowLength v_asked v_rising v_falling v_turned v_totals v_before v_after v_keptBytes v_syndromes v_places v_firstEntry v_nextEntry v_numbers v_counts v_size v_lightestPlaces v_lightestCount res.2.1 res.2.2 v_ways v_wayCount v_usable v_upTo) (va_A (ww_C q cs v_ro v_sumCount v_told v_toldCount v_row v_rowLength v_asked v_rising v_falling v_turned v_totals v_before v_after v_keptBytes v_syndromes v_places v_firstEntry v_nextEntry v_numbers v_counts v_size v_lightestPlaces v_lightestCount v_toldPlaces v_placeCount v_ways v_wayCount v_usable v_upTo) sz)) 0 0 (va_A (ww_C q cs v_ro v_sumCount v_told v_toldCount v_row v_rowLength v_asked v_rising v_falling v_turned v_totals v_before v_after v_keptBytes v_syndromes v_places v_firstEntry v_nextEntry v_numbers v_counts v_size v_lightestPlaces v_lightestCount v_toldPlaces v_placeCount v_ways v_wayCount v_usable v_upTo) sz) := by
  refine k_enter (Qf := fun A => QI G res.1 True (ww_C q cs v_ro v_sumCount v_told v_toldCount v_row v_rowLength v_asked v_rising v_falling v_turned v_totals v_before v_after v_keptBytes v_syndromes v_places v_firstEntry v_nextEntry v_numbers v_counts v_size v_lightestPlaces v_lightestCount res.2.1 res.2.2 v_ways v_wayCount v_usable v_upTo) A) (cc := cX11_free) (maxL := 2) (ret := (some .int)) (plainFor_of_name (by decide)) rfl (Nat.le_of_ble_eq_true rfl) ?_
  intro p e s m args below meth c A Q ls H locs hx hb hr hml hown hts hlocks hname hK hA hRo hP hD hS hQ hl
  have hl : lv_has ls 2 [(0, .ref (q 0)), (1, .int x1)] := hl
  have wd1 := hts (.fieldLink RX11 29 "SumSmith" "rowLength" "I") (List.mem_of_getElem? (i := 1) rfl)
  have wd2 := hts (.fieldLink RX11 58 "SumSmith" "aims" "LSumSmith$Aims;") (List.mem_of_getElem? (i := 2) rfl)
  have hinX11 : ∀ w ∈ wsX110, w ∈ wsX11_free := fun w h => List.mem_cons_of_mem _ (List.mem_append_left _ (List.mem_append_right _ h))
  unfold M_X11_free at hm
  refine lv_iload_n hx hb dX11_free_0 rfl (lv_at hl 1 rfl) ?_
  refine lv_iconst (v := 0) hx hb dX11_free_1 (by decide) ?_
  refine lv_bipush (v := 8) hx hb dX11_free_2 (by decide) ?_
  refine lv_aload_n hx hb dX11_free_4 rfl (lv_at hl 0 rfl) ?_
  refine va_get (D := G) (ci := 9) (v := .int v_rowLength) (C := RX11) (T := TX11) (N := 12) hx hb hts hinX11 hown hK.1 hP 0 rfl rfl 5 (by decide) wd1 (fun _ h9 => h9) rfl dX11_free_5 ?_
  refine lv_imul hx hb dX11_free_8 ?_
  refine lv_iconst (v := 1) hx hb dX11_free_9 (by decide) ?_
  refine lv_isub hx hb dX11_free_10 ?_
  refine k_calli0 (va_runS (As := [.int x1, .int 0, .int ((8 * v_rowLength) - 1)]) (rest := []) ⟨hx, hb, hml, hown, hts⟩ (c_X11_within l G cs H.size    x1 (0 : Int32) ((8 * v_rowLength) - 1) _ rfl) (va_cwS 3 hts gX11_free_X11_within rfl rfl rfl hd_X11_within ⟨Nat.le_of_ble_eq_true rfl, Nat.le_of_ble_eq_true rfl⟩) ⟨pre_blind, pre_w hK RO.nil P0 D0 (va_new0 hS hA)⟩ rfl rfl hl.1 rfl (lv_room (Nat.le_of_ble_eq_true rfl)) dX11_free_11 ⟨Nat.zero_le _, Nat.zero_le _⟩) hP hS hA (fun hE1 H locs hP hS => ?_)
  refine lv_if_eq (tgt := 28) hx hb dX11_free_14 (by decide) (fun b2 => ?_) (fun b2 => ?_)
  · have hm := i_t b2 hm
    refine lv_bipush (v := (-3)) hx hb dX11_free_28 (by decide) ?_
    have hq := Option.some.inj hm
    subst hq; subst hQ
    exact k_iret hx hb hr hlocks hP hD hS rfl trivial dX11_free_30
  · have hm := i_f b2 hm
    refine lv_aload_n hx hb dX11_free_17 rfl (lv_at hl 0 rfl) ?_
    refine va_get (D := G) (ci := 9) (v := .ref (q 20)) (C := RX11) (T := TX11) (N := 12) hx hb hts hinX11 hown hK.1 hP 0 rfl rfl 11 (by decide) wd2 (fun _ h9 => h9) rfl dX11_free_18 ?_
    refine lv_iload_n hx hb dX11_free_21 rfl (lv_at hl 1 rfl) ?_
    obtain ⟨r3, hc_r3, hm⟩ := bs hm
    refine k_callij (wr := [((q 0), .inr (9, [.ref (q 1), .int v_sumCount, .ref (q 2), .int v_toldCount, .ref (q 3), .int v_rowLength, .ref (q 4), .ref (q 5), .ref (q 12), .ref (q 19), .int v_lightestCount, .ref (q 20)])), ((q 1), .inl (cs.2.2.2, 16, .inr (.inr (.inr (.inr (roA v_ro)))))), ((q 2), .inl (cs.1, 100, .inl v_told)), ((q 3), .inl (cs.1, 64, .inl v_row)), ((q 4), .inl (cs.1, 7, .inl v_asked)), ((q 5), .inr (3, [.ref (q 6), .ref (q 7), .ref (q 8), .ref (q 9), .ref (q 10), .ref (q 11), .int v_keptBytes])), ((q 6), .inl (cs.2.1, 64, .inr (.inl v_rising))), ((q 7), .inl (cs.2.1, 64, .inr (.inl v_falling))), ((q 8), .inl (cs.1, 8, .inl v_turned)), ((q 9), .inl (cs.2.1, 64, .inr (.inl v_totals))), ((q 10), .inl (cs.1, 8, .inl v_before)), ((q 11), .inl (cs.1, 8, .inl v_after)), ((q 12), .inr (2, [.ref (q 13), .int v_places, .ref (q 14)])), ((q 13), .inl (cs.2.1, 512, .inr (.inl v_syndromes))), ((q 14), .inr (5, [.ref (q 15), .ref (q 16), .ref (q 17), .ref (q 18), .int v_size])), ((q 15), .inl (cs.1, 512, .inl v_firstEntry)), ((q 16), .inl (cs.1, 1128, .inl v_nextEntry)), ((q 17), .inl (cs.2.1, 1128, .inr (.inl v_numbers))), ((q 18), .inl (cs.1, 1128, .inl v_counts)), ((q 19), .inl (cs.1, 4, .inl v_lightestPlaces))]) (w2 := (ww_C q cs v_ro v_sumCount v_told v_toldCount v_row v_rowLength v_asked v_rising v_falling v_turned v_totals v_before v_after v_keptBytes v_syndromes v_places v_firstEntry v_nextEntry v_numbers v_counts v_size v_lightestPlaces v_lightestCount v_toldPlaces v_placeCount v_ways v_wayCount v_usable v_upTo)) (va_runV (As := [.int x1]) (rest := []) ⟨hx, hb, hml, hown, hts⟩ (c_X0_isTold l G cs (fun i => q (i + 20)) H.size v_toldPlaces v_placeCount v_ways v_wayCount v_usable v_upTo   x1 n r3 hc_r3) (cwV 1 hts gX11_free_X0_isTold rfl rfl rfl ⟨rfl, hd_X0_isTold⟩ ⟨Nat.le_of_ble_eq_true rfl, Nat.le_of_ble_eq_true rfl⟩) ⟨pre_blind, va_recv hK.1 hP (ci := 0) (q0 := 20) rfl rfl, pre_w hK RO.nil (P_by hP [20, 21, 22, 23, 24] rfl) (hD.sub [20, 21, 22, 23, 24] (by decide) rfl) (va_free hD hS hA [20, 21, 22, 23, 24] rfl)⟩ rfl rfl hl.1 rfl (lv_room (Nat.le_of_ble_eq_true rfl)) dX11_free_22 ⟨Nat.zero_le _, Nat.zero_le _⟩) hP hD hS hA [20, 21, 22, 23, 24] [0, 1, 2, 3, 4, 5, 6, 7, 8, 9, 10, 11, 12, 13, 14, 15, 16, 17, 18, 19] [0, 1, 2, 3, 4, 5, 6, 7, 8, 9, 10, 11, 12, 13, 14, 15, 16, 17, 18, 19, 20, 21, 22, 23, 24] rfl rfl (by decide) (by decide) rfl (by decide) (fun hE4 H locs hP hD hS => ?_)
    have hP : va_P G vwCl (ww_C q cs v_ro v_sumCount v_told v_toldCount v_row v_rowLength v_asked v_rising v_falling v_turned v_totals v_before v_after v_keptBytes v_syndromes v_places v_firstEntry v_nextEntry v_numbers v_counts v_size v_lightestPlaces v_lightestCount v_toldPlaces v_placeCount v_ways v_wayCount v_usable v_upTo) H := hP
    have hD : va_D A (ww_C q cs v_ro v_sumCount v_told v_toldCount v_row v_rowLength v_asked v_rising v_falling v_turned v_totals v_before v_after v_keptBytes v_syndromes v_places v_firstEntry v_nextEntry v_numbers v_counts v_size v_lightestPlaces v_lightestCount v_toldPlaces v_placeCount v_ways v_wayCount v_usable v_upTo) := hD
    refine lv_if_eq (tgt := 31) hx hb dX11_free_25 (by decide) (fun b5 => ?_) (fun b5 => ?_)
    · have hm := i_t b5 hm
      refine lv_aload_n hx hb dX11_free_31 rfl (lv_at hl 0 rfl) ?_
      refine va_get (D := G) (ci := 9) (v := .ref (q 20)) (C := RX11) (T := TX11) (N := 12) hx hb hts hinX11 hown hK.1 hP 0 rfl rfl 11 (by decide) wd2 (fun _ h9 => h9) rfl dX11_free_32 ?_
      refine k_callij (wr := [((q 0), .inr (9, [.ref (q 1), .int v_sumCount, .ref (q 2), .int v_toldCount, .ref (q 3), .int v_rowLength, .ref (q 4), .ref (q 5), .ref (q 12), .ref (q 19), .int v_lightestCount, .ref (q 20)])), ((q 1), .inl (cs.2.2.2, 16, .inr (.inr (.inr (.inr (roA v_ro)))))), ((q 2), .inl (cs.1, 100, .inl v_told)), ((q 3), .inl (cs.1, 64, .inl v_row)), ((q 4), .inl (cs.1, 7, .inl v_asked)), ((q 5), .inr (3, [.ref (q 6), .ref (q 7), .ref (q 8), .ref (q 9), .ref (q 10), .ref (q 11), .int v_keptBytes])), ((q 6), .inl (cs.2.1, 64, .inr (.inl v_rising))), ((q 7), .inl (cs.2.1, 64, .inr (.inl v_falling))), ((q 8), .inl (cs.1, 8, .inl v_turned)), ((q 9), .inl (cs.2.1, 64, .inr (.inl v_totals))), ((q 10), .inl (cs.1, 8, .inl v_before)), ((q 11), .inl (cs.1, 8, .inl v_after)), ((q 12), .inr (2, [.ref (q 13), .int v_places, .ref (q 14)])), ((q 13), .inl (cs.2.1, 512, .inr (.inl v_syndromes))), ((q 14), .inr (5, [.ref (q 15), .ref (q 16), .ref (q 17), .ref (q 18), .int v_size])), ((q 15), .inl (cs.1, 512, .inl v_firstEntry)), ((q 16), .inl (cs.1, 1128, .inl v_nextEntry)), ((q 17), .inl (cs.2.1, 1128, .inr (.inl v_numbers))), ((q 18), .inl (cs.1, 1128, .inl v_counts)), ((q 19), .inl (cs.1, 4, .inl v_lightestPlaces))]) (w2 := (ww_C q cs v_ro v_sumCount v_told v_toldCount v_row v_rowLength v_asked v_rising v_falling v_turned v_totals v_before v_after v_keptBytes v_syndromes v_places v_firstEntry v_nextEntry v_numbers v_counts v_size v_lightestPlaces v_lightestCount v_toldPlaces v_placeCount v_ways v_wayCount v_usable v_upTo)) (va_runV (As := []) (rest := []) ⟨hx, hb, hml, hown, hts⟩ (c_X0_isFull l G cs (fun i => q (i + 20)) H.size v_toldPlaces v_placeCount v_ways v_wayCount v_usable v_upTo    _ rfl) (cwV 0 hts gX11_free_X0_isFull rfl rfl rfl ⟨rfl, hd_X0_isFull⟩ ⟨Nat.le_of_ble_eq_true rfl, Nat.le_of_ble_eq_true rfl⟩) ⟨pre_blind, va_recv hK.1 hP (ci := 0) (q0 := 20) rfl rfl, pre_w hK RO.nil (P_by hP [20, 21, 22, 23, 24] rfl) (hD.sub [20, 21, 22, 23, 24] (by decide) rfl) (va_free hD hS hA [20, 21, 22, 23, 24] rfl)⟩ rfl rfl hl.1 rfl (lv_room (Nat.le_of_ble_eq_true rfl)) dX11_free_35 ⟨Nat.zero_le _, Nat.zero_le _⟩) hP hD hS hA [20, 21, 22, 23, 24] [0, 1, 2, 3, 4, 5, 6, 7, 8, 9, 10, 11, 12, 13, 14, 15, 16, 17, 18, 19] [0, 1, 2, 3, 4, 5, 6, 7, 8, 9, 10, 11, 12, 13, 14, 15, 16, 17, 18, 19, 20, 21, 22, 23, 24] rfl rfl (by decide) (by decide) rfl (by decide) (fun hE6 H locs hP hD hS => ?_)
      have hP : va_P G vwCl (ww_C q cs v_ro v_sumCount v_told v_toldCount v_row v_rowLength v_asked v_rising v_falling v_turned v_totals v_before v_after v_keptBytes v_syndromes v_places v_firstEntry v_nextEntry v_numbers v_counts v_size v_lightestPlaces v_lightestCount v_toldPlaces v_placeCount v_ways v_wayCount v_usable v_upTo) H := hP
      have hD : va_D A (ww_C q cs v_ro v_sumCount v_told v_toldCount v_row v_rowLength v_asked v_rising v_falling v_turned v_totals v_before v_after v_keptBytes v_syndromes v_places v_firstEntry v_nextEntry v_numbers v_counts v_size v_lightestPlaces v_lightestCount v_toldPlaces v_placeCount v_ways v_wayCount v_usable v_upTo) := hD
      refine lv_if_eq (tgt := 46) hx hb dX11_free_38 (by decide) (fun b7 => ?_) (fun b7 => ?_)
      · have hm := i_t b7 hm
        refine lv_aload_n hx hb dX11_free_46 rfl (lv_at hl 0 rfl) ?_
        refine va_get (D := G) (ci := 9) (v := .ref (q 20)) (C := RX11) (T := TX11) (N := 12) hx hb hts hinX11 hown hK.1 hP 0 rfl rfl 11 (by decide) wd2 (fun _ h9 => h9) rfl dX11_free_47 ?_
        refine lv_iload_n hx hb dX11_free_50 rfl (lv_at hl 1 rfl) ?_
        obtain ⟨r8, hc_r8, hm⟩ := bs hm
        refine k_callij (wr := [((q 0), .inr (9, [.ref (q 1), .int v_sumCount, .ref (q 2), .int v_toldCount, .ref (q 3), .int v_rowLength, .ref (q 4), .ref (q 5), .ref (q 12), .ref (q 19), .int v_lightestCount, .ref (q 20)])), ((q 1), .inl (cs.2.2.2, 16, .inr (.inr (.inr (.inr (roA v_ro)))))), ((q 2), .inl (cs.1, 100, .inl v_told)), ((q 3), .inl (cs.1, 64, .inl v_row)), ((q 4), .inl (cs.1, 7, .inl v_asked)), ((q 5), .inr (3, [.ref (q 6), .ref (q 7), .ref (q 8), .ref (q 9), .ref (q 10), .ref (q 11), .int v_keptBytes])), ((q 6), .inl (cs.2.1, 64, .inr (.inl v_rising))), ((q 7), .inl (cs.2.1, 64, .inr (.inl v_falling))), ((q 8), .inl (cs.1, 8, .inl v_turned)), ((q 9), .inl (cs.2.1, 64, .inr (.inl v_totals))), ((q 10), .inl (cs.1, 8, .inl v_before)), ((q 11), .inl (cs.1, 8, .inl v_after)), ((q 12), .inr (2, [.ref (q 13), .int v_places, .ref (q 14)])), ((q 13), .inl (cs.2.1, 512, .inr (.inl v_syndromes))), ((q 14), .inr (5, [.ref (q 15), .ref (q 16), .ref (q 17), .ref (q 18), .int v_size])), ((q 15), .inl (cs.1, 512, .inl v_firstEntry)), ((q 16), .inl (cs.1, 1128, .inl v_nextEntry)), ((q 17), .inl (cs.2.1, 1128, .inr (.inl v_numbers))), ((q 18), .inl (cs.1, 1128, .inl v_counts)), ((q 19), .inl (cs.1, 4, .inl v_lightestPlaces))]) (w2 := (ww_C q cs v_ro v_sumCount v_told v_toldCount v_row v_rowLength v_asked v_rising v_falling v_turned v_totals v_before v_after v_keptBytes v_syndromes v_places v_firstEntry v_nextEntry v_numbers v_counts v_size v_lightestPlaces v_lightestCount r8.2.1 r8.2.2 v_ways v_wayCount v_usable v_upTo)) (va_runV (As := [.int x1]) (rest := []) ⟨hx, hb, hml, hown, hts⟩ (c_X0_addPlace l G cs (fun i => q (i + 20)) H.size v_toldPlaces v_placeCount v_ways v_wayCount v_usable v_upTo   x1 r8 hc_r8) (cwV 1 hts gX11_free_X0_addPlace rfl rfl rfl ⟨rfl, hd_X0_addPlace⟩ ⟨Nat.le_of_ble_eq_true rfl, Nat.le_of_ble_eq_true rfl⟩) ⟨pre_blind, va_recv hK.1 hP (ci := 0) (q0 := 20) rfl rfl, pre_w hK RO.nil (P_by hP [20, 21, 22, 23, 24] rfl) (hD.sub [20, 21, 22, 23, 24] (by decide) rfl) (va_free hD hS hA [20, 21, 22, 23, 24] rfl)⟩ rfl rfl hl.1 rfl (lv_room (Nat.le_of_ble_eq_true rfl)) dX11_free_51 ⟨Nat.zero_le _, Nat.zero_le _⟩) hP hD hS hA [20, 21, 22, 23, 24] [0, 1, 2, 3, 4, 5, 6, 7, 8, 9, 10, 11, 12, 13, 14, 15, 16, 17, 18, 19] [0, 1, 2, 3, 4, 5, 6, 7, 8, 9, 10, 11, 12, 13, 14, 15, 16, 17, 18, 19, 20, 21, 22, 23, 24] rfl rfl (by decide) (by decide) rfl (by decide) (fun hE9 H locs hP hD hS => ?_)
        have hP : va_P G vwCl (ww_C q cs v_ro v_sumCount v_told v_toldCount v_row v_rowLength v_asked v_rising v_falling v_turned v_totals v_before v_after v_keptBytes v_syndromes v_places v_firstEntry v_nextEntry v_numbers v_counts v_size v_lightestPlaces v_lightestCount r8.2.1 r8.2.2 v_ways v_wayCount v_usable v_upTo) H := hP
        have hD : va_D A (ww_C q cs v_ro v_sumCount v_told v_toldCount v_row v_rowLength v_asked v_rising v_falling v_turned v_totals v_before v_after v_keptBytes v_syndromes v_places v_firstEntry v_nextEntry v_numbers v_counts v_size v_lightestPlaces v_lightestCount r8.2.1 r8.2.2 v_ways v_wayCount v_usable v_upTo) := hD
        have hq := Option.some.inj hm
        subst hq; subst hQ
        exact k_iret hx hb hr hlocks hP hD hS rfl trivial dX11_free_54
      · have hm := i_f b7 hm
        refine lv_bipush (v := (-6)) hx hb dX11_free_41 (by decide) ?_
        refine lv_goto (tgt := 54) hx hb dX11_free_43 (by decide) ?_
        have hq := Option.some.inj hm
        subst hq; subst hQ
        exact k_iret hx hb hr hlocks hP hD hS rfl trivial dX11_free_54
    · have hm := i_f b5 hm
      refine lv_bipush (v := (-3)) hx hb dX11_free_28 (by decide) ?_
      have hq := Option.some.inj hm
      subst hq; subst hQ
      exact k_iret hx hb hr hlocks hP hD hS rfl trivial dX11_free_30

theorem hd_X11_bind : yX11_bind.cls ≠ "java/lang/invoke/MethodHandle" ∧ yX11_bind.cls ≠ "java/lang/invoke/VarHandle" ∧ (parseMethodDescriptor yX11_bind.desc).map (fun d => d.parameters.length) = some 0 := by decide +kernel

def M_X11_bind  (v_placeCount : Int32) : (Int32 × Int32) :=
  (v_placeCount, 0)

abbrev rmX11_bind : Room := { frames := 0, cells := 0, slots := 0, locals := 0 }
set_option maxHeartbeats 4000000 in
set_option maxRecDepth 100000 in
theorem c_X11_bind (l : Launch) (G : va_G) (cs : CS) (q : Nat → Nat) (sz : Nat) (v_ro : RF) (v_sumCount : Int32) (v_told : (Nat → Int32)) (v_toldCount : Int32) (v_row : (Nat → Int32)) (v_rowLength : Int32) (v_asked : (Nat → Int32)) (v_rising : (Nat → Int64)) (v_falling : (Nat → Int64)) (v_turned : (Nat → Int32)) (v_totals : (Nat → Int64)) (v_before : (Nat → Int32)) (v_after : (Nat → Int32)) (v_keptBytes : Int32) (v_syndromes : (Nat → Int64)) (v_places : Int32) (v_firstEntry : (Nat → Int32)) (v_nextEntry : (Nat → Int32)) (v_numbers : (Nat → Int64)) (v_counts : (Nat → Int32)) (v_size : Int32) (v_lightestPlaces : (Nat → Int32)) (v_lightestCount : Int32) (v_toldPlaces : (Nat → Int32)) (v_placeCount : Int32) (v_ways : (Nat → Int32)) (v_wayCount : Int32) (v_usable : (Nat → Int32)) (v_upTo : (Nat → Int64))    (res : (Int32 × Int32)) (hm : M_X11_bind v_placeCount = res) : Met l yX11_bind wsX11_bind rmX11_bind (va_Pc [.ref (q 0)] (PreW G cs sz (ww_C q cs v_ro v_sumCount v_told v_toldCount v_row v_rowLength v_asked v_rising v_falling v_turned v_totals v_before v_after v_keptBytes v_syndromes v_places v_firstEntry v_nextEntry v_numbers v_counts v_size v_lightestPlaces v_lightestCount v_toldPlaces v_placeCount v_ways v_wayCount v_usable v_upTo) v_ro)) (QI G res.1 True (ww_C q cs v_ro v_sumCount v_told v_toldCount v_row v_rowLength v_asked v_rising v_falling v_turned v_totals v_before v_after v_keptBytes v_syndromes v_places v_firstEntry v_nextEntry v_numbers v_counts v_size v_lightestPlaces v_lightestCount v_toldPlaces res.2 v_ways v_wayCount v_usable v_upTo) (va_A (ww_C q cs v_ro v_sumCount v_told v_toldCount v_row v_rowLength v_asked v_rising v_falling v_turned v_totals v_before v_after v_keptBytes v_syndromes v_places v_firstEntry v_nextEntry v_numbers v_counts v_size v_lightestPlaces v_lightestCount v_toldPlaces v_placeCount v_ways v_wayCount v_usable v_upTo) sz)) 0 0 (va_A (ww_C q cs v_ro v_sumCount v_told v_toldCount v_row v_rowLength v_asked v_rising v_falling v_turned v_totals v_before v_after v_keptBytes v_syndromes v_places v_firstEntry v_nextEntry v_numbers v_counts v_size v_lightestPlaces v_lightestCount v_toldPlaces v_placeCount v_ways v_wayCount v_usable v_upTo) sz) := by
  refine k_enter (Qf := fun A => QI G res.1 True (ww_C q cs v_ro v_sumCount v_told v_toldCount v_row v_rowLength v_asked v_rising v_falling v_turned v_totals v_before v_after v_keptBytes v_syndromes v_places v_firstEntry v_nextEntry v_numbers v_counts v_size v_lightestPlaces v_lightestCount v_toldPlaces res.2 v_ways v_wayCount v_usable v_upTo) A) (cc := cX11_bind) (maxL := 2) (ret := (some .int)) (plainFor_of_name (by decide)) rfl (Nat.le_of_ble_eq_true rfl) ?_
  intro p e s m args below meth c A Q ls H locs hx hb hr hml hown hts hlocks hname hK hA hRo hP hD hS hQ hl
  have hl : lv_has ls 2 [(0, .ref (q 0))] := hl
  have wd1 := hts (.fieldLink RX11 58 "SumSmith" "aims" "LSumSmith$Aims;") (List.mem_of_getElem? (i := 1) rfl)
  have wd2 := hts (.fieldLink RX11 237 "SumSmith$Aims" "placeCount" "I") (List.mem_of_getElem? (i := 2) rfl)
  have hinX11 : ∀ w ∈ wsX110, w ∈ wsX11_bind := fun w h => List.mem_cons_of_mem _ (List.mem_append_left _ (List.mem_append_right _ h))
  have hinX0 : ∀ w ∈ wsX00, w ∈ wsX11_bind := fun w h => List.mem_cons_of_mem _ (List.mem_append_right _ h)
  unfold M_X11_bind at hm
  refine lv_aload_n hx hb dX11_bind_0 rfl (lv_at hl 0 rfl) ?_
  refine va_get (D := G) (ci := 9) (v := .ref (q 20)) (C := RX11) (T := TX11) (N := 12) hx hb hts hinX11 hown hK.1 hP 0 rfl rfl 11 (by decide) wd1 (fun _ h9 => h9) rfl dX11_bind_1 ?_
  refine va_get (D := G) (ci := 0) (v := .int v_placeCount) (C := RX0) (T := TX0) (N := 6) hx hb hts hinX0 hown hK.1 hP 20 rfl rfl 1 (by decide) wd2 (fun _ h9 => h9) rfl dX11_bind_4 ?_
  refine lv_istore_n (lv' := [(1, .int v_placeCount), (0, .ref (q 0))]) hx hb dX11_bind_7 rfl hl (by decide) rfl (fun ls hl => ?_)
  refine lv_aload_n hx hb dX11_bind_8 rfl (lv_at hl 1 rfl) ?_
  refine va_get (D := G) (ci := 9) (v := .ref (q 20)) (C := RX11) (T := TX11) (N := 12) hx hb hts hinX11 hown hK.1 hP 0 rfl rfl 11 (by decide) wd1 (fun _ h9 => h9) rfl dX11_bind_9 ?_
  refine lv_iconst (v := 0) hx hb dX11_bind_12 (by decide) ?_
  refine va_put (D := G) (ci := 0) (v := .int 0) (ty := .int) (C := RX0) (T := TX0) (N := 6) hx hb hts hinX0 tyX0 tyX0_ok nmX0 hown hK.1 hP hD hS 20 rfl rfl 1 (by decide) wd2 (fun _ h9 => h9) rfl (by decide +kernel) rfl rfl (Nat.le_of_ble_eq_true rfl) dX11_bind_13 (fun H locs hP hD hS => ?_)
  have hP : va_P G vwCl (ww_C q cs v_ro v_sumCount v_told v_toldCount v_row v_rowLength v_asked v_rising v_falling v_turned v_totals v_before v_after v_keptBytes v_syndromes v_places v_firstEntry v_nextEntry v_numbers v_counts v_size v_lightestPlaces v_lightestCount v_toldPlaces 0 v_ways v_wayCount v_usable v_upTo) H := hP
  have hD : va_D A (ww_C q cs v_ro v_sumCount v_told v_toldCount v_row v_rowLength v_asked v_rising v_falling v_turned v_totals v_before v_after v_keptBytes v_syndromes v_places v_firstEntry v_nextEntry v_numbers v_counts v_size v_lightestPlaces v_lightestCount v_toldPlaces 0 v_ways v_wayCount v_usable v_upTo) := hD
  refine lv_iload_n hx hb dX11_bind_16 rfl (lv_at hl 0 rfl) ?_
  have hq := hm
  subst hq; subst hQ
  exact k_iret hx hb hr hlocks hP hD hS rfl trivial dX11_bind_17

theorem hd_X11_aim : yX11_aim.cls ≠ "java/lang/invoke/MethodHandle" ∧ yX11_aim.cls ≠ "java/lang/invoke/VarHandle" ∧ (parseMethodDescriptor yX11_aim.desc).map (fun d => d.parameters.length) = some 2 := by decide +kernel

def M_X11_aim (n : Nat) (x1 : Int32) (x2 : Int64) (v_ro : RF) (v_sumCount : Int32) (v_row : (Nat → Int32)) (v_rowLength : Int32) (v_syndromes : (Nat → Int64)) (v_places : Int32) (v_toldPlaces : (Nat → Int32)) (v_placeCount : Int32) (v_ways : (Nat → Int32)) (v_wayCount : Int32) (v_usable : (Nat → Int32)) (v_upTo : (Nat → Int64)) : Option (Int32 × (Nat → Int64) × Int32 × (Nat → Int32) × Int32 × (Nat → Int32) × (Nat → Int64)) :=
  (M_X11_sumAt x1 v_ro v_sumCount).bind fun r1 => Option.elim r1 (some ((-2), v_syndromes, v_places, v_ways, v_wayCount, v_usable, v_upTo)) (fun y1 => if y1.2.2.1 = 8 ∨ y1.2.2.1 = 7 ∨ y1.2.2.1 = 6 ∨ y1.2.2.1 = 1 ∨ y1.2.2.1 = 4 then (if y1.2.2.1 = 1 then (if (M_X1_holds x2 y1.2.2.2.2.1) = 0 then (some ((-3), v_syndromes, v_places, v_ways, v_wayCount, v_usable, v_upTo)) else ((M_X3_load n v_rowLength y1.2.2.2.2.1 y1.2.2.2.2.2.2.1 y1.2.2.2.2.2.2.2.2.2.1 v_syndromes v_places).bind fun r5 => (M_X1_ofRow n v_rowLength v_row 64 y1.2.2.2.2.1 y1.2.2.2.2.2.2.1 y1.2.2.2.2.2.2.2.1 y1.2.2.2.2.2.2.2.2.1 y1.2.2.2.2.2.2.2.2.2.1).bind fun r6 => (M_X0_findWays n r5.2 (r6 ^^^ x2) v_toldPlaces v_placeCount v_ways v_wayCount v_usable v_upTo r5.1 512).bind fun r7 => some (r7.1, r5.1, r5.2, r7.2.1, r7.2.2.1, r7.2.2.2.1, r7.2.2.2.2))) else (some ((-4), v_syndromes, v_places, v_ways, v_wayCount, v_usable, v_upTo))) else none)

abbrev rmX11_aim : Room := { frames := 4, cells := 0, slots := 0, locals := 99 }
set_option maxHeartbeats 4000000 in
set_option maxRecDepth 100000 in
theorem c_X11_aim (l : Launch) (G : va_G) (cs : CS) (q : Nat → Nat) (sz : Nat) (v_ro : RF) (v_sumCount : Int32) (v_told : (Nat → Int32)) (v_toldCount : Int32) (v_row : (Nat → Int32)) (v_rowLength : Int32) (v_asked : (Nat → Int32)) (v_rising : (Nat → Int64)) (v_falling : (Nat → Int64)) (v_turned : (Nat → Int32)) (v_totals : (Nat → Int64)) (v_before : (Nat → Int32)) (v_after : (Nat → Int32)) (v_keptBytes : Int32) (v_syndromes : (Nat → Int64)) (v_places : Int32) (v_firstEntry : (Nat → Int32)) (v_nextEntry : (Nat → Int32)) (v_numbers : (Nat → Int64)) (v_counts : (Nat → Int32)) (v_size : Int32) (v_lightestPlaces : (Nat → Int32)) (v_lightestCount : Int32) (v_toldPlaces : (Nat → Int32)) (v_placeCount : Int32) (v_ways : (Nat → Int32)) (v_wayCount : Int32) (v_usable : (Nat → Int32)) (v_upTo : (Nat → Int64))   (x1 : Int32) (x2 : Int64) (n : Nat) (res : (Int32 × (Nat → Int64) × Int32 × (Nat → Int32) × Int32 × (Nat → Int32) × (Nat → Int64))) (hm : M_X11_aim n x1 x2 v_ro v_sumCount v_row v_rowLength v_syndromes v_places v_toldPlaces v_placeCount v_ways v_wayCount v_usable v_upTo = some res) : Met l yX11_aim wsX11_aim rmX11_aim (va_Pc [.ref (q 0), .int x1, .long x2] (PreW G cs sz (ww_C q cs v_ro v_sumCount v_told v_toldCount v_row v_rowLength v_asked v_rising v_falling v_turned v_totals v_before v_after v_keptBytes v_syndromes v_places v_firstEntry v_nextEntry v_numbers v_counts v_size v_lightestPlaces v_lightestCount v_toldPlaces v_placeCount v_ways v_wayCount v_usable v_upTo) v_ro)) (QI G res.1 True (ww_C q cs v_ro v_sumCount v_told v_toldCount v_row v_rowLength v_asked v_rising v_falling v_turned v_totals v_before v_after v_keptBytes res.2.1 res.2.2.1 v_firstEntry v_nextEntry v_numbers v_counts v_size v_lightestPlaces v_lightestCount v_toldPlaces v_placeCount res.2.2.2.1 res.2.2.2.2.1 res.2.2.2.2.2.1 res.2.2.2.2.2.2) (va_A (ww_C q cs v_ro v_sumCount v_told v_toldCount v_row v_rowLength v_asked v_rising v_falling v_turned v_totals v_before v_after v_keptBytes v_syndromes v_places v_firstEntry v_nextEntry v_numbers v_counts v_size v_lightestPlaces v_lightestCount v_toldPlaces v_placeCount v_ways v_wayCount v_usable v_upTo) sz)) 0 0 (va_A (ww_C q cs v_ro v_sumCount v_told v_toldCount v_row v_rowLength v_asked v_rising v_falling v_turned v_totals v_before v_after v_keptBytes v_syndromes v_places v_firstEntry v_nextEntry v_numbers v_counts v_size v_lightestPlaces v_lightestCount v_toldPlaces v_placeCount v_ways v_wayCount v_usable v_upTo) sz) := by
  refine k_enter (Qf := fun A => QI G res.1 True (ww_C q cs v_ro v_sumCount v_told v_toldCount v_row v_rowLength v_asked v_rising v_falling v_turned v_totals v_before v_after v_keptBytes res.2.1 res.2.2.1 v_firstEntry v_nextEntry v_numbers v_counts v_size v_lightestPlaces v_lightestCount v_toldPlaces v_placeCount res.2.2.2.1 res.2.2.2.2.1 res.2.2.2.2.2.1 res.2.2.2.2.2.2) A) (cc := cX11_aim) (maxL := 6) (ret := (some .int)) (plainFor_of_name (by decide)) rfl (Nat.le_of_ble_eq_true rfl) ?_
  intro p e s m args below meth c A Q ls H locs hx hb hr hml hown hts hlocks hname hK hA hRo hP hD hS hQ hl
  have hl : lv_has ls 6 [(0, .ref (q 0)), (1, .int x1), (2, .long x2)] := hl
  have wd1 := hts (.classLink RX11 107 "SumSmith$Divided") (List.mem_of_getElem? (i := 1) rfl)
  have wd2 := hts (.fieldLink RX11 45 "SumSmith" "sets" "LSumSmith$PlaceSets;") (List.mem_of_getElem? (i := 2) rfl)
  have wd3 := hts (.fieldLink RX11 29 "SumSmith" "rowLength" "I") (List.mem_of_getElem? (i := 3) rfl)
  have wd4 := hts (.fieldLink RX11 203 "SumSmith$Divided" "width" "I") (List.mem_of_getElem? (i := 4) rfl)
  have wd5 := hts (.fieldLink RX11 206 "SumSmith$Divided" "polynomial" "J") (List.mem_of_getElem? (i := 5) rfl)
  have wd6 := hts (.fieldLink RX11 210 "SumSmith$Divided" "low" "Z") (List.mem_of_getElem? (i := 6) rfl)
  have wd7 := hts (.fieldLink RX11 58 "SumSmith" "aims" "LSumSmith$Aims;") (List.mem_of_getElem? (i := 7) rfl)
  have wd8 := hts (.fieldLink RX11 241 "SumSmith$PlaceSets" "syndromes" "[J") (List.mem_of_getElem? (i := 8) rfl)
  have wd9 := hts (.fieldLink RX11 245 "SumSmith$PlaceSets" "places" "I") (List.mem_of_getElem? (i := 9) rfl)
  have wd10 := hts (.fieldLink RX11 26 "SumSmith" "row" "[I") (List.mem_of_getElem? (i := 10) rfl)
  have hinX11 : ∀ w ∈ wsX110, w ∈ wsX11_aim := fun w h => List.mem_cons_of_mem _ (List.mem_append_left _ (List.mem_append_left _ (List.mem_append_left _ (List.mem_append_right _ h))))
  have hinX1 : ∀ w ∈ wsX10, w ∈ wsX11_aim := fun w h => List.mem_cons_of_mem _ (List.mem_append_left _ (List.mem_append_left _ (List.mem_append_right _ h)))
  have hinX3 : ∀ w ∈ wsX30, w ∈ wsX11_aim := fun w h => List.mem_cons_of_mem _ (List.mem_append_left _ (List.mem_append_right _ h))
  unfold M_X11_aim at hm
  refine lv_aload_n hx hb dX11_aim_0 rfl (lv_at hl 0 rfl) ?_
  refine lv_iload_n hx hb dX11_aim_1 rfl (lv_at hl 1 rfl) ?_
  obtain ⟨r1, hc_r1, hm⟩ := bs hm
  refine k_callq (va_runV (As := [.int x1]) (rest := []) ⟨hx, hb, hml, hown, hts⟩ (c_X11_sumAt l G cs q H.size v_ro v_sumCount v_told v_toldCount v_row v_rowLength v_asked v_rising v_falling v_turned v_totals v_before v_after v_keptBytes v_syndromes v_places v_firstEntry v_nextEntry v_numbers v_counts v_size v_lightestPlaces v_lightestCount v_toldPlaces v_placeCount v_ways v_wayCount v_usable v_upTo x1 r1 hc_r1) (cwV 1 hts gX11_aim_X11_sumAt rfl rfl rfl ⟨rfl, hd_X11_sumAt⟩ ⟨Nat.le_of_ble_eq_true rfl, Nat.le_of_ble_eq_true rfl⟩) ⟨pre_blind, va_recv hK.1 hP (ci := 9) (q0 := 0) rfl rfl, pre_w hK (RO.at hS hRo) hP hD (va_all hD hS hA)⟩ rfl rfl hl.1 rfl (lv_room (Nat.le_of_ble_eq_true rfl)) dX11_aim_2 ⟨Nat.zero_le _, Nat.zero_le _⟩) hS (va_all hD hS hA) (fun H locs hP hD hS => ?_)
  have hP : va_P G vwCl (ww_C q cs v_ro v_sumCount v_told v_toldCount v_row v_rowLength v_asked v_rising v_falling v_turned v_totals v_before v_after v_keptBytes v_syndromes v_places v_firstEntry v_nextEntry v_numbers v_counts v_size v_lightestPlaces v_lightestCount v_toldPlaces v_placeCount v_ways v_wayCount v_usable v_upTo) H := hP
  have hD : va_D A (ww_C q cs v_ro v_sumCount v_told v_toldCount v_row v_rowLength v_asked v_rising v_falling v_turned v_totals v_before v_after v_keptBytes v_syndromes v_places v_firstEntry v_nextEntry v_numbers v_counts v_size v_lightestPlaces v_lightestCount v_toldPlaces v_placeCount v_ways v_wayCount v_usable v_upTo) := hD
  cases r1 with
  | none =>
    have hm := oe_n hm
    refine lv_astoreN (lv' := [(4, .null), (0, .ref (q 0)), (1, .int x1), (2, .long x2)]) hx hb dX11_aim_5 hl (by decide) rfl (fun ls hl => ?_)
    refine lv_aloadN hx hb dX11_aim_7 (lv_at hl 0 rfl) ?_
    refine lv_ifnonnullN hx hb dX11_aim_9 ?_
    refine lv_bipush (v := (-2)) hx hb dX11_aim_12 (by decide) ?_
    have hq := Option.some.inj hm
    subst hq; subst hQ
    exact k_iret hx hb hr hlocks hP hD hS rfl trivial dX11_aim_14
  | some y1 =>
    have hm := oe_s hm
    obtain ⟨j1, hj1⟩ := sumAt_ro hc_r1
    obtain ⟨hv1, hm⟩ := g_pos hm
    refine lv_astore (lv' := [(4, .ref y1.1), (0, .ref (q 0)), (1, .int x1), (2, .long x2)]) hx hb dX11_aim_5 hl (by decide) rfl (fun ls hl => ?_)
    refine lv_aload hx hb dX11_aim_7 (lv_at hl 0 rfl) ?_
    refine lv_ifnonnull (tgt := 15) hx hb dX11_aim_9 (by decide) ?_
    refine lv_aload hx hb dX11_aim_15 (lv_at hl 0 rfl) ?_
    by_cases b2 : y1.2.2.1 = 1
    · have hm := i_t b2 hm
      refine inst_D (own := RX11) hx hb hown wd1 hK (RO.at hS hRo j1 _ hj1).1 b2 dX11_aim_17 ?_
      refine lv_if_eq (tgt := 33) hx hb dX11_aim_20 (by decide) (fun b9 => absurd b9 (by decide)) (fun b9 => ?_)
      refine lv_aload hx hb dX11_aim_23 (lv_at hl 0 rfl) ?_
      refine cast_D (own := RX11) hx hb hown wd1 hK (RO.at hS hRo j1 _ hj1).1 b2 dX11_aim_25 ?_
      refine lv_astore (lv' := [(5, .ref y1.1), (4, .ref y1.1), (0, .ref (q 0)), (1, .int x1), (2, .long x2)]) hx hb dX11_aim_28 hl (by decide) rfl (fun ls hl => ?_)
      refine lv_goto (tgt := 36) hx hb dX11_aim_30 (by decide) ?_
      refine lv_aload hx hb dX11_aim_36 (lv_at hl 0 rfl) ?_
      refine lv_lload_n hx hb dX11_aim_38 rfl (lv_at hl 4 rfl) ?_
      refine k_calli0 (va_runV (As := [.long x2]) (rest := []) ⟨hx, hb, hml, hown, hts⟩ (c_X1_holds l G cs H.size   y1.1 y1.2.1 y1.2.2.2.1 y1.2.2.2.2.1 y1.2.2.2.2.2.1 y1.2.2.2.2.2.2.1 y1.2.2.2.2.2.2.2.1 y1.2.2.2.2.2.2.2.2.1 y1.2.2.2.2.2.2.2.2.2.1 y1.2.2.2.2.2.2.2.2.2.2.1 y1.2.2.2.2.2.2.2.2.2.2.2 x2 _ rfl) (cwV 1 hts gX11_aim_X1_holds rfl rfl rfl ⟨rfl, hd_X1_holds⟩ ⟨Nat.le_of_ble_eq_true rfl, Nat.le_of_ble_eq_true rfl⟩) ⟨pre_blind, va_recv hK.1 (divF (RO.at hS hRo j1 _ hj1).1 b2) (ci := 1) (q0 := 0) rfl rfl, pre_w hK (RO.cls hj1 b2 (RO.at hS hRo)) P0 D0 (va_new0 hS hA)⟩ rfl rfl hl.1 rfl (lv_room (Nat.le_of_ble_eq_true rfl)) dX11_aim_39 ⟨Nat.zero_le _, Nat.zero_le _⟩) hP hS hA (fun hE3 H locs hP hS => ?_)
      refine lv_if_ne (tgt := 48) hx hb dX11_aim_42 (by decide) (fun b4 => ?_) (fun b4 => ?_)
      · have hm := i_f b4 hm
        refine lv_aload_n hx hb dX11_aim_48 rfl (lv_at hl 2 rfl) ?_
        refine va_get (D := G) (ci := 9) (v := .ref (q 12)) (C := RX11) (T := TX11) (N := 12) hx hb hts hinX11 hown hK.1 hP 0 rfl rfl 8 (by decide) wd2 (fun _ h9 => h9) rfl dX11_aim_49 ?_
        refine lv_aload_n hx hb dX11_aim_52 rfl (lv_at hl 2 rfl) ?_
        refine va_get (D := G) (ci := 9) (v := .int v_rowLength) (C := RX11) (T := TX11) (N := 12) hx hb hts hinX11 hown hK.1 hP 0 rfl rfl 5 (by decide) wd3 (fun _ h9 => h9) rfl dX11_aim_53 ?_
        refine lv_aload hx hb dX11_aim_56 (lv_at hl 0 rfl) ?_
        refine va_get (D := G) (ci := 1) (v := .int y1.2.2.2.2.1) (C := RX1) (T := TX1) (N := 6) hx hb hts hinX1 hown hK.1 (divF (RO.at hS hRo j1 _ hj1).1 b2) 0 rfl rfl 1 (by decide) wd4 (fun _ h9 => h9) rfl dX11_aim_58 ?_
        refine lv_aload hx hb dX11_aim_61 (lv_at hl 0 rfl) ?_
        refine va_get (D := G) (ci := 1) (v := .long y1.2.2.2.2.2.2.1) (C := RX1) (T := TX1) (N := 6) hx hb hts hinX1 hown hK.1 (divF (RO.at hS hRo j1 _ hj1).1 b2) 0 rfl rfl 2 (by decide) wd5 (fun _ h9 => h9) rfl dX11_aim_63 ?_
        refine lv_aload hx hb dX11_aim_66 (lv_at hl 0 rfl) ?_
        refine va_get (D := G) (ci := 1) (v := .int y1.2.2.2.2.2.2.2.2.2.1) (C := RX1) (T := TX1) (N := 6) hx hb hts hinX1 hown hK.1 (divF (RO.at hS hRo j1 _ hj1).1 b2) 0 rfl rfl 3 (by decide) wd6 (fun _ h9 => h9) rfl dX11_aim_68 ?_
        obtain ⟨r5, hc_r5, hm⟩ := bs hm
        refine k_callvj (wr := [((q 0), .inr (9, [.ref (q 1), .int v_sumCount, .ref (q 2), .int v_toldCount, .ref (q 3), .int v_rowLength, .ref (q 4), .ref (q 5), .ref (q 12), .ref (q 19), .int v_lightestCount, .ref (q 20)])), ((q 1), .inl (cs.2.2.2, 16, .inr (.inr (.inr (.inr (roA v_ro)))))), ((q 2), .inl (cs.1, 100, .inl v_told)), ((q 3), .inl (cs.1, 64, .inl v_row)), ((q 4), .inl (cs.1, 7, .inl v_asked)), ((q 5), .inr (3, [.ref (q 6), .ref (q 7), .ref (q 8), .ref (q 9), .ref (q 10), .ref (q 11), .int v_keptBytes])), ((q 6), .inl (cs.2.1, 64, .inr (.inl v_rising))), ((q 7), .inl (cs.2.1, 64, .inr (.inl v_falling))), ((q 8), .inl (cs.1, 8, .inl v_turned)), ((q 9), .inl (cs.2.1, 64, .inr (.inl v_totals))), ((q 10), .inl (cs.1, 8, .inl v_before)), ((q 11), .inl (cs.1, 8, .inl v_after)), ((q 19), .inl (cs.1, 4, .inl v_lightestPlaces)), ((q 20), .inr (0, [.ref (q 21), .int v_placeCount, .ref (q 22), .int v_wayCount, .ref (q 23), .ref (q 24)])), ((q 21), .inl (cs.1, 16, .inl v_toldPlaces)), ((q 22), .inl (cs.1, 64, .inl v_ways)), ((q 23), .inl (cs.1, 16, .inl v_usable)), ((q 24), .inl (cs.2.1, 16, .inr (.inl v_upTo)))]) (w2 := (ww_C q cs v_ro v_sumCount v_told v_toldCount v_row v_rowLength v_asked v_rising v_falling v_turned v_totals v_before v_after v_keptBytes r5.1 r5.2 v_firstEntry v_nextEntry v_numbers v_counts v_size v_lightestPlaces v_lightestCount v_toldPlaces v_placeCount v_ways v_wayCount v_usable v_upTo)) (va_runV (As := [.int v_rowLength, .int y1.2.2.2.2.1, .long y1.2.2.2.2.2.2.1, .int y1.2.2.2.2.2.2.2.2.2.1]) (rest := []) ⟨hx, hb, hml, hown, hts⟩ (c_X3_load l G cs (fun i => q (i + 12)) H.size v_syndromes v_places v_firstEntry v_nextEntry v_numbers v_counts v_size   v_rowLength y1.2.2.2.2.1 y1.2.2.2.2.2.2.1 y1.2.2.2.2.2.2.2.2.2.1 n r5 hc_r5) (cwV 4 hts gX11_aim_X3_load rfl rfl rfl ⟨rfl, hd_X3_load⟩ ⟨Nat.le_of_ble_eq_true rfl, Nat.le_of_ble_eq_true rfl⟩) ⟨pre_blind, va_recv hK.1 hP (ci := 2) (q0 := 12) rfl rfl, pre_w hK RO.nil (P_by hP [12, 13, 14, 15, 16, 17, 18] rfl) (hD.sub [12, 13, 14, 15, 16, 17, 18] (by decide) rfl) (va_free hD hS hA [12, 13, 14, 15, 16, 17, 18] rfl)⟩ rfl rfl hl.1 rfl (lv_room (Nat.le_of_ble_eq_true rfl)) dX11_aim_71 ⟨Nat.zero_le _, Nat.zero_le _⟩) hP hD hS hA [12, 13, 14, 15, 16, 17, 18] [0, 1, 2, 3, 4, 5, 6, 7, 8, 9, 10, 11, 19, 20, 21, 22, 23, 24] [0, 1, 2, 3, 4, 5, 6, 7, 8, 9, 10, 11, 18, 19, 20, 21, 22, 23, 24, 12, 13, 14, 15, 16, 17] rfl rfl (by decide) (by decide) rfl (by decide) (fun H locs hP hD hS => ?_)
        have hP : va_P G vwCl (ww_C q cs v_ro v_sumCount v_told v_toldCount v_row v_rowLength v_asked v_rising v_falling v_turned v_totals v_before v_after v_keptBytes r5.1 r5.2 v_firstEntry v_nextEntry v_numbers v_counts v_size v_lightestPlaces v_lightestCount v_toldPlaces v_placeCount v_ways v_wayCount v_usable v_upTo) H := hP
        have hD : va_D A (ww_C q cs v_ro v_sumCount v_told v_toldCount v_row v_rowLength v_asked v_rising v_falling v_turned v_totals v_before v_after v_keptBytes r5.1 r5.2 v_firstEntry v_nextEntry v_numbers v_counts v_size v_lightestPlaces v_lightestCount v_toldPlaces v_placeCount v_ways v_wayCount v_usable v_upTo) := hD
        refine lv_aload_n hx hb dX11_aim_74 rfl (lv_at hl 2 rfl) ?_
        refine va_get (D := G) (ci := 9) (v := .ref (q 20)) (C := RX11) (T := TX11) (N := 12) hx hb hts hinX11 hown hK.1 hP 0 rfl rfl 11 (by decide) wd7 (fun _ h9 => h9) rfl dX11_aim_75 ?_
        refine lv_aload_n hx hb dX11_aim_78 rfl (lv_at hl 2 rfl) ?_
        refine va_get (D := G) (ci := 9) (v := .ref (q 12)) (C := RX11) (T := TX11) (N := 12) hx hb hts hinX11 hown hK.1 hP 0 rfl rfl 8 (by decide) wd2 (fun _ h9 => h9) rfl dX11_aim_79 ?_
        refine va_get (D := G) (ci := 2) (v := .ref (q 13)) (C := RX3) (T := TX3) (N := 3) hx hb hts hinX3 hown hK.1 hP 12 rfl rfl 0 (by decide) wd8 (fun _ h9 => h9) rfl dX11_aim_82 ?_
        refine lv_aload_n hx hb dX11_aim_85 rfl (lv_at hl 2 rfl) ?_
        refine va_get (D := G) (ci := 9) (v := .ref (q 12)) (C := RX11) (T := TX11) (N := 12) hx hb hts hinX11 hown hK.1 hP 0 rfl rfl 8 (by decide) wd2 (fun _ h9 => h9) rfl dX11_aim_86 ?_
        refine va_get (D := G) (ci := 2) (v := .int r5.2) (C := RX3) (T := TX3) (N := 3) hx hb hts hinX3 hown hK.1 hP 12 rfl rfl 1 (by decide) wd9 (fun _ h9 => h9) rfl dX11_aim_89 ?_
        refine lv_aload hx hb dX11_aim_92 (lv_at hl 0 rfl) ?_
        refine lv_aload_n hx hb dX11_aim_94 rfl (lv_at hl 2 rfl) ?_
        refine va_get (D := G) (ci := 9) (v := .ref (q 3)) (C := RX11) (T := TX11) (N := 12) hx hb hts hinX11 hown hK.1 hP 0 rfl rfl 4 (by decide) wd10 (fun _ h9 => h9) rfl dX11_aim_95 ?_
        refine lv_aload_n hx hb dX11_aim_98 rfl (lv_at hl 2 rfl) ?_
        refine va_get (D := G) (ci := 9) (v := .int v_rowLength) (C := RX11) (T := TX11) (N := 12) hx hb hts hinX11 hown hK.1 hP 0 rfl rfl 5 (by decide) wd3 (fun _ h9 => h9) rfl dX11_aim_99 ?_
        obtain ⟨r6, hc_r6, hm⟩ := bs hm
        refine k_calllj (wr := [((q 0), .inr (9, [.ref (q 1), .int v_sumCount, .ref (q 2), .int v_toldCount, .ref (q 3), .int v_rowLength, .ref (q 4), .ref (q 5), .ref (q 12), .ref (q 19), .int v_lightestCount, .ref (q 20)])), ((q 1), .inl (cs.2.2.2, 16, .inr (.inr (.inr (.inr (roA v_ro)))))), ((q 2), .inl (cs.1, 100, .inl v_told)), ((q 4), .inl (cs.1, 7, .inl v_asked)), ((q 5), .inr (3, [.ref (q 6), .ref (q 7), .ref (q 8), .ref (q 9), .ref (q 10), .ref (q 11), .int v_keptBytes])), ((q 6), .inl (cs.2.1, 64, .inr (.inl v_rising))), ((q 7), .inl (cs.2.1, 64, .inr (.inl v_falling))), ((q 8), .inl (cs.1, 8, .inl v_turned)), ((q 9), .inl (cs.2.1, 64, .inr (.inl v_totals))), ((q 10), .inl (cs.1, 8, .inl v_before)), ((q 11), .inl (cs.1, 8, .inl v_after)), ((q 12), .inr (2, [.ref (q 13), .int r5.2, .ref (q 14)])), ((q 13), .inl (cs.2.1, 512, .inr (.inl r5.1))), ((q 14), .inr (5, [.ref (q 15), .ref (q 16), .ref (q 17), .ref (q 18), .int v_size])), ((q 15), .inl (cs.1, 512, .inl v_firstEntry)), ((q 16), .inl (cs.1, 1128, .inl v_nextEntry)), ((q 17), .inl (cs.2.1, 1128, .inr (.inl v_numbers))), ((q 18), .inl (cs.1, 1128, .inl v_counts)), ((q 19), .inl (cs.1, 4, .inl v_lightestPlaces)), ((q 20), .inr (0, [.ref (q 21), .int v_placeCount, .ref (q 22), .int v_wayCount, .ref (q 23), .ref (q 24)])), ((q 21), .inl (cs.1, 16, .inl v_toldPlaces)), ((q 22), .inl (cs.1, 64, .inl v_ways)), ((q 23), .inl (cs.1, 16, .inl v_usable)), ((q 24), .inl (cs.2.1, 16, .inr (.inl v_upTo)))]) (w2 := (ww_C q cs v_ro v_sumCount v_told v_toldCount v_row v_rowLength v_asked v_rising v_falling v_turned v_totals v_before v_after v_keptBytes r5.1 r5.2 v_firstEntry v_nextEntry v_numbers v_counts v_size v_lightestPlaces v_lightestCount v_toldPlaces v_placeCount v_ways v_wayCount v_usable v_upTo)) (va_runV (As := [.ref (q 3), .int v_rowLength]) (rest := [.int r5.2, .ref (q 13), .ref (q 20)]) ⟨hx, hb, hml, hown, hts⟩ (c_X1_ofRow l G cs H.size v_row (q 3) y1.1 y1.2.1 64 y1.2.2.2.1 y1.2.2.2.2.1 y1.2.2.2.2.2.1 y1.2.2.2.2.2.2.1 y1.2.2.2.2.2.2.2.1 y1.2.2.2.2.2.2.2.2.1 y1.2.2.2.2.2.2.2.2.2.1 y1.2.2.2.2.2.2.2.2.2.2.1 y1.2.2.2.2.2.2.2.2.2.2.2 v_rowLength n r6 hc_r6) (cwV 2 hts gX11_aim_X1_ofRow rfl rfl rfl ⟨rfl, hd_X1_ofRow⟩ ⟨Nat.le_of_ble_eq_true rfl, Nat.le_of_ble_eq_true rfl⟩) ⟨pre_blind, va_recv hK.1 (divF (RO.at hS hRo j1 _ hj1).1 b2) (ci := 1) (q0 := 0) rfl rfl, pre_w hK (RO.cls hj1 b2 (RO.at hS hRo)) (P_by hP [3] rfl) (hD.sub [3] (by decide) rfl) (va_free hD hS hA [3] rfl)⟩ rfl rfl hl.1 rfl (lv_room (Nat.le_of_ble_eq_true rfl)) dX11_aim_102 ⟨Nat.zero_le _, Nat.zero_le _⟩) hP hD hS hA [3] [0, 1, 2, 4, 5, 6, 7, 8, 9, 10, 11, 12, 13, 14, 15, 16, 17, 18, 19, 20, 21, 22, 23, 24] [0, 1, 2, 24, 3, 4, 5, 6, 7, 8, 9, 10, 11, 12, 13, 14, 15, 16, 17, 18, 19, 20, 21, 22, 23] rfl rfl (by decide) (by decide) rfl (by decide) (fun H locs hP hD hS => ?_)
        have hP : va_P G vwCl (ww_C q cs v_ro v_sumCount v_told v_toldCount v_row v_rowLength v_asked v_rising v_falling v_turned v_totals v_before v_after v_keptBytes r5.1 r5.2 v_firstEntry v_nextEntry v_numbers v_counts v_size v_lightestPlaces v_lightestCount v_toldPlaces v_placeCount v_ways v_wayCount v_usable v_upTo) H := hP
        have hD : va_D A (ww_C q cs v_ro v_sumCount v_told v_toldCount v_row v_rowLength v_asked v_rising v_falling v_turned v_totals v_before v_after v_keptBytes r5.1 r5.2 v_firstEntry v_nextEntry v_numbers v_counts v_size v_lightestPlaces v_lightestCount v_toldPlaces v_placeCount v_ways v_wayCount v_usable v_upTo) := hD
        refine lv_lload_n hx hb dX11_aim_105 rfl (lv_at hl 4 rfl) ?_
        refine lv_lxor hx hb dX11_aim_106 ?_
        obtain ⟨r7, hc_r7, hm⟩ := bs hm
        refine k_callij (wr := [((q 0), .inr (9, [.ref (q 1), .int v_sumCount, .ref (q 2), .int v_toldCount, .ref (q 3), .int v_rowLength, .ref (q 4), .ref (q 5), .ref (q 12), .ref (q 19), .int v_lightestCount, .ref (q 20)])), ((q 1), .inl (cs.2.2.2, 16, .inr (.inr (.inr (.inr (roA v_ro)))))), ((q 2), .inl (cs.1, 100, .inl v_told)), ((q 3), .inl (cs.1, 64, .inl v_row)), ((q 4), .inl (cs.1, 7, .inl v_asked)), ((q 5), .inr (3, [.ref (q 6), .ref (q 7), .ref (q 8), .ref (q 9), .ref (q 10), .ref (q 11), .int v_keptBytes])), ((q 6), .inl (cs.2.1, 64, .inr (.inl v_rising))), ((q 7), .inl (cs.2.1, 64, .inr (.inl v_falling))), ((q 8), .inl (cs.1, 8, .inl v_turned)), ((q 9), .inl (cs.2.1, 64, .inr (.inl v_totals))), ((q 10), .inl (cs.1, 8, .inl v_before)), ((q 11), .inl (cs.1, 8, .inl v_after)), ((q 12), .inr (2, [.ref (q 13), .int r5.2, .ref (q 14)])), ((q 14), .inr (5, [.ref (q 15), .ref (q 16), .ref (q 17), .ref (q 18), .int v_size])), ((q 15), .inl (cs.1, 512, .inl v_firstEntry)), ((q 16), .inl (cs.1, 1128, .inl v_nextEntry)), ((q 17), .inl (cs.2.1, 1128, .inr (.inl v_numbers))), ((q 18), .inl (cs.1, 1128, .inl v_counts)), ((q 19), .inl (cs.1, 4, .inl v_lightestPlaces))]) (w2 := (ww_C q cs v_ro v_sumCount v_told v_toldCount v_row v_rowLength v_asked v_rising v_falling v_turned v_totals v_before v_after v_keptBytes r5.1 r5.2 v_firstEntry v_nextEntry v_numbers v_counts v_size v_lightestPlaces v_lightestCount v_toldPlaces v_placeCount r7.2.1 r7.2.2.1 r7.2.2.2.1 r7.2.2.2.2)) (va_runV (As := [.ref (q 13), .int r5.2, .long (r6 ^^^ x2)]) (rest := []) ⟨hx, hb, hml, hown, hts⟩ (c_X0_findWays l G cs (fun i => q (i + 20)) H.size v_toldPlaces v_placeCount v_ways v_wayCount v_usable v_upTo r5.1 (q 13) 512 r5.2 (r6 ^^^ x2) n r7 hc_r7) (cwV 3 hts gX11_aim_X0_findWays rfl rfl rfl ⟨rfl, hd_X0_findWays⟩ ⟨Nat.le_of_ble_eq_true rfl, Nat.le_of_ble_eq_true rfl⟩) ⟨pre_blind, va_recv hK.1 hP (ci := 0) (q0 := 20) rfl rfl, pre_w hK RO.nil (P_by hP [20, 21, 22, 23, 24, 13] rfl) (hD.sub [20, 21, 22, 23, 24, 13] (by decide) rfl) (va_free hD hS hA [20, 21, 22, 23, 24, 13] rfl)⟩ rfl rfl hl.1 rfl (lv_room (Nat.le_of_ble_eq_true rfl)) dX11_aim_107 ⟨Nat.zero_le _, Nat.zero_le _⟩) hP hD hS hA [20, 21, 22, 23, 24, 13] [0, 1, 2, 3, 4, 5, 6, 7, 8, 9, 10, 11, 12, 14, 15, 16, 17, 18, 19] [0, 1, 2, 3, 4, 5, 6, 7, 8, 9, 10, 11, 12, 24, 13, 14, 15, 16, 17, 18, 19, 20, 21, 22, 23] rfl rfl (by decide) (by decide) rfl (by decide) (fun hE8 H locs hP hD hS => ?_)
        have hP : va_P G vwCl (ww_C q cs v_ro v_sumCount v_told v_toldCount v_row v_rowLength v_asked v_rising v_falling v_turned v_totals v_before v_after v_keptBytes r5.1 r5.2 v_firstEntry v_nextEntry v_numbers v_counts v_size v_lightestPlaces v_lightestCount v_toldPlaces v_placeCount r7.2.1 r7.2.2.1 r7.2.2.2.1 r7.2.2.2.2) H := hP
        have hD : va_D A (ww_C q cs v_ro v_sumCount v_told v_toldCount v_row v_rowLength v_asked v_rising v_falling v_turned v_totals v_before v_after v_keptBytes r5.1 r5.2 v_firstEntry v_nextEntry v_numbers v_counts v_size v_lightestPlaces v_lightestCount v_toldPlaces v_placeCount r7.2.1 r7.2.2.1 r7.2.2.2.1 r7.2.2.2.2) := hD
        have hq := Option.some.inj hm
        subst hq; subst hQ
        exact k_iret hx hb hr hlocks hP hD hS rfl trivial dX11_aim_110
      · have hm := i_t b4 hm
        refine lv_bipush (v := (-3)) hx hb dX11_aim_45 (by decide) ?_
        have hq := Option.some.inj hm
        subst hq; subst hQ
        exact k_iret hx hb hr hlocks hP hD hS rfl trivial dX11_aim_47
    · have hm := i_f b2 hm
      have b2n := not_D hv1 b2
      refine instn_D (own := RX11) hx hb hown wd1 hK (RO.at hS hRo j1 _ hj1).1 b2n dX11_aim_17 ?_
      refine lv_if_eq (tgt := 33) hx hb dX11_aim_20 (by decide) (fun b9 => ?_) (fun b9 => absurd (by decide) b9)
      refine lv_bipush (v := (-4)) hx hb dX11_aim_33 (by decide) ?_
      have hq := Option.some.inj hm
      subst hq; subst hQ
      exact k_iret hx hb hr hlocks hP hD hS rfl trivial dX11_aim_35

theorem hd_X11_way : yX11_way.cls ≠ "java/lang/invoke/MethodHandle" ∧ yX11_way.cls ≠ "java/lang/invoke/VarHandle" ∧ (parseMethodDescriptor yX11_way.desc).map (fun d => d.parameters.length) = some 1 := by decide +kernel

def M_X11_way (x1 : Int32) (v_ways : (Nat → Int32)) (v_wayCount : Int32) : Option Int32 :=
  if (M_X11_within x1 (0 : Int32) (v_wayCount - 1)) = 0 then (some (-1)) else (if x1 < 0 ∨ 64 ≤ x1.toNatClampNeg then none else some (v_ways x1.toNatClampNeg))

abbrev rmX11_way : Room := { frames := 1, cells := 0, slots := 0, locals := 22 }
set_option maxHeartbeats 4000000 in
set_option maxRecDepth 100000 in
theorem c_X11_way (l : Launch) (G : va_G) (cs : CS) (q : Nat → Nat) (sz : Nat) (v_ro : RF) (v_sumCount : Int32) (v_told : (Nat → Int32)) (v_toldCount : Int32) (v_row : (Nat → Int32)) (v_rowLength : Int32) (v_asked : (Nat → Int32)) (v_rising : (Nat → Int64)) (v_falling : (Nat → Int64)) (v_turned : (Nat → Int32)) (v_totals : (Nat → Int64)) (v_before : (Nat → Int32)) (v_after : (Nat → Int32)) (v_keptBytes : Int32) (v_syndromes : (Nat → Int64)) (v_places : Int32) (v_firstEntry : (Nat → Int32)) (v_nextEntry : (Nat → Int32)) (v_numbers : (Nat → Int64)) (v_counts : (Nat → Int32)) (v_size : Int32) (v_lightestPlaces : (Nat → Int32)) (v_lightestCount : Int32) (v_toldPlaces : (Nat → Int32)) (v_placeCount : Int32) (v_ways : (Nat → Int32)) (v_wayCount : Int32) (v_usable : (Nat → Int32)) (v_upTo : (Nat → Int64))   (x1 : Int32) (res : Int32) (hm : M_X11_way x1 v_ways v_wayCount = some res) : Met l yX11_way wsX11_way rmX11_way (va_Pc [.ref (q 0), .int x1] (PreW G cs sz (ww_C q cs v_ro v_sumCount v_told v_toldCount v_row v_rowLength v_asked v_rising v_falling v_turned v_totals v_before v_after v_keptBytes v_syndromes v_places v_firstEntry v_nextEntry v_numbers v_counts v_size v_lightestPlaces v_lightestCount v_toldPlaces v_placeCount v_ways v_wayCount v_usable v_upTo) v_ro)) (QI G res True (ww_C q cs v_ro v_sumCount v_told v_toldCount v_row v_rowLength v_asked v_rising v_falling v_turned v_totals v_before v_after v_keptBytes v_syndromes v_places v_firstEntry v_nextEntry v_numbers v_counts v_size v_lightestPlaces v_lightestCount v_toldPlaces v_placeCount v_ways v_wayCount v_usable v_upTo) (va_A (ww_C q cs v_ro v_sumCount v_told v_toldCount v_row v_rowLength v_asked v_rising v_falling v_turned v_totals v_before v_after v_keptBytes v_syndromes v_places v_firstEntry v_nextEntry v_numbers v_counts v_size v_lightestPlaces v_lightestCount v_toldPlaces v_placeCount v_ways v_wayCount v_usable v_upTo) sz)) 0 0 (va_A (ww_C q cs v_ro v_sumCount v_told v_toldCount v_row v_rowLength v_asked v_rising v_falling v_turned v_totals v_before v_after v_keptBytes v_syndromes v_places v_firstEntry v_nextEntry v_numbers v_counts v_size v_lightestPlaces v_lightestCount v_toldPlaces v_placeCount v_ways v_wayCount v_usable v_upTo) sz) := by
  refine k_enter (Qf := fun A => QI G res True (ww_C q cs v_ro v_sumCount v_told v_toldCount v_row v_rowLength v_asked v_rising v_falling v_turned v_totals v_before v_after v_keptBytes v_syndromes v_places v_firstEntry v_nextEntry v_numbers v_counts v_size v_lightestPlaces v_lightestCount v_toldPlaces v_placeCount v_ways v_wayCount v_usable v_upTo) A) (cc := cX11_way) (maxL := 2) (ret := (some .int)) (plainFor_of_name (by decide)) rfl (Nat.le_of_ble_eq_true rfl) ?_
  intro p e s m args below meth c A Q ls H locs hx hb hr hml hown hts hlocks hname hK hA hRo hP hD hS hQ hl
  have hl : lv_has ls 2 [(0, .ref (q 0)), (1, .int x1)] := hl
  have wd1 := hts (.fieldLink RX11 58 "SumSmith" "aims" "LSumSmith$Aims;") (List.mem_of_getElem? (i := 1) rfl)
  have wd2 := hts (.fieldLink RX11 253 "SumSmith$Aims" "wayCount" "I") (List.mem_of_getElem? (i := 2) rfl)
  have wd3 := hts (.fieldLink RX11 256 "SumSmith$Aims" "ways" "[I") (List.mem_of_getElem? (i := 3) rfl)
  have hinX11 : ∀ w ∈ wsX110, w ∈ wsX11_way := fun w h => List.mem_cons_of_mem _ (List.mem_append_left _ (List.mem_append_right _ h))
  have hinX0 : ∀ w ∈ wsX00, w ∈ wsX11_way := fun w h => List.mem_cons_of_mem _ (List.mem_append_right _ h)
  unfold M_X11_way at hm
  refine lv_iload_n hx hb dX11_way_0 rfl (lv_at hl 1 rfl) ?_
  refine lv_iconst (v := 0) hx hb dX11_way_1 (by decide) ?_
  refine lv_aload_n hx hb dX11_way_2 rfl (lv_at hl 0 rfl) ?_
  refine va_get (D := G) (ci := 9) (v := .ref (q 20)) (C := RX11) (T := TX11) (N := 12) hx hb hts hinX11 hown hK.1 hP 0 rfl rfl 11 (by decide) wd1 (fun _ h9 => h9) rfl dX11_way_3 ?_
  refine va_get (D := G) (ci := 0) (v := .int v_wayCount) (C := RX0) (T := TX0) (N := 6) hx hb hts hinX0 hown hK.1 hP 20 rfl rfl 3 (by decide) wd2 (fun _ h9 => h9) rfl dX11_way_6 ?_
  refine lv_iconst (v := 1) hx hb dX11_way_9 (by decide) ?_
  refine lv_isub hx hb dX11_way_10 ?_
  refine k_calli0 (va_runS (As := [.int x1, .int 0, .int (v_wayCount - 1)]) (rest := []) ⟨hx, hb, hml, hown, hts⟩ (c_X11_within l G cs H.size    x1 (0 : Int32) (v_wayCount - 1) _ rfl) (va_cwS 3 hts gX11_way_X11_within rfl rfl rfl hd_X11_within ⟨Nat.le_of_ble_eq_true rfl, Nat.le_of_ble_eq_true rfl⟩) ⟨pre_blind, pre_w hK RO.nil P0 D0 (va_new0 hS hA)⟩ rfl rfl hl.1 rfl (lv_room (Nat.le_of_ble_eq_true rfl)) dX11_way_11 ⟨Nat.zero_le _, Nat.zero_le _⟩) hP hS hA (fun hE1 H locs hP hS => ?_)
  refine lv_if_eq (tgt := 29) hx hb dX11_way_14 (by decide) (fun b2 => ?_) (fun b2 => ?_)
  · have hm := i_t b2 hm
    refine lv_iconst (v := (-1)) hx hb dX11_way_29 (by decide) ?_
    have hq := Option.some.inj hm
    subst hq; subst hQ
    exact k_iret hx hb hr hlocks hP hD hS rfl trivial dX11_way_30
  · have hm := i_f b2 hm
    refine lv_aload_n hx hb dX11_way_17 rfl (lv_at hl 0 rfl) ?_
    refine va_get (D := G) (ci := 9) (v := .ref (q 20)) (C := RX11) (T := TX11) (N := 12) hx hb hts hinX11 hown hK.1 hP 0 rfl rfl 11 (by decide) wd1 (fun _ h9 => h9) rfl dX11_way_18 ?_
    refine va_get (D := G) (ci := 0) (v := .ref (q 22)) (C := RX0) (T := TX0) (N := 6) hx hb hts hinX0 hown hK.1 hP 20 rfl rfl 2 (by decide) wd3 (fun _ h9 => h9) rfl dX11_way_21 ?_
    refine lv_iload_n hx hb dX11_way_24 rfl (lv_at hl 1 rfl) ?_
    obtain ⟨h3, hm⟩ := g_in hm
    refine va_iald hx hb hK.1 hP 22 0 rfl rfl h3 dX11_way_25 ?_
    refine lv_goto (tgt := 30) hx hb dX11_way_26 (by decide) ?_
    have hq := Option.some.inj hm
    subst hq; subst hQ
    exact k_iret hx hb hr hlocks hP hD hS rfl trivial dX11_way_30

theorem hd_X11_best : yX11_best.cls ≠ "java/lang/invoke/MethodHandle" ∧ yX11_best.cls ≠ "java/lang/invoke/VarHandle" ∧ (parseMethodDescriptor yX11_best.desc).map (fun d => d.parameters.length) = some 2 := by decide +kernel

def M_X11_best (n : Nat) (x1 : Int32) (x2 : Int32) (v_syndromes : (Nat → Int64)) (v_places : Int32) (v_firstEntry : (Nat → Int32)) (v_nextEntry : (Nat → Int32)) (v_numbers : (Nat → Int64)) (v_counts : (Nat → Int32)) (v_size : Int32) : Option (Int32 × (Nat → Int64) × Int32 × (Nat → Int32) × (Nat → Int32) × (Nat → Int64) × (Nat → Int32) × Int32) :=
  if (M_X11_within x1 (3 : Int32) (8 : Int32)) = 0 then (some ((-3), v_syndromes, v_places, v_firstEntry, v_nextEntry, v_numbers, v_counts, v_size)) else (if (M_X11_within x2 (1 : Int32) (3 : Int32)) = 0 then (some ((-3), v_syndromes, v_places, v_firstEntry, v_nextEntry, v_numbers, v_counts, v_size)) else ((M_X3_findBest n x1 x2 v_syndromes v_places v_firstEntry v_nextEntry v_numbers v_counts v_size).bind fun r5 => some (r5.1, r5.2.1, r5.2.2.1, r5.2.2.2.1, r5.2.2.2.2.1, r5.2.2.2.2.2.1, r5.2.2.2.2.2.2.1, r5.2.2.2.2.2.2.2)))

abbrev rmX11_best : Room := { frames := 6, cells := 0, slots := 0, locals := 142 }
set_option maxHeartbeats 4000000 in
set_option maxRecDepth 100000 in
theorem c_X11_best (l : Launch) (G : va_G) (cs : CS) (q : Nat → Nat) (sz : Nat) (v_ro : RF) (v_sumCount : Int32) (v_told : (Nat → Int32)) (v_toldCount : Int32) (v_row : (Nat → Int32)) (v_rowLength : Int32) (v_asked : (Nat → Int32)) (v_rising : (Nat → Int64)) (v_falling : (Nat → Int64)) (v_turned : (Nat → Int32)) (v_totals : (Nat → Int64)) (v_before : (Nat → Int32)) (v_after : (Nat → Int32)) (v_keptBytes : Int32) (v_syndromes : (Nat → Int64)) (v_places : Int32) (v_firstEntry : (Nat → Int32)) (v_nextEntry : (Nat → Int32)) (v_numbers : (Nat → Int64)) (v_counts : (Nat → Int32)) (v_size : Int32) (v_lightestPlaces : (Nat → Int32)) (v_lightestCount : Int32) (v_toldPlaces : (Nat → Int32)) (v_placeCount : Int32) (v_ways : (Nat → Int32)) (v_wayCount : Int32) (v_usable : (Nat → Int32)) (v_upTo : (Nat → Int64))   (x1 : Int32) (x2 : Int32) (n : Nat) (res : (Int32 × (Nat → Int64) × Int32 × (Nat → Int32) × (Nat → Int32) × (Nat → Int64) × (Nat → Int32) × Int32)) (hm : M_X11_best n x1 x2 v_syndromes v_places v_firstEntry v_nextEntry v_numbers v_counts v_size = some res) : Met l yX11_best wsX11_best rmX11_best (va_Pc [.ref (q 0), .int x1, .int x2] (PreW G cs sz (ww_C q cs v_ro v_sumCount v_told v_toldCount v_row v_rowLength v_asked v_rising v_falling v_turned v_totals v_before v_after v_keptBytes v_syndromes v_places v_firstEntry v_nextEntry v_numbers v_counts v_size v_lightestPlaces v_lightestCount v_toldPlaces v_placeCount v_ways v_wayCount v_usable v_upTo) v_ro)) (QI G res.1 True (ww_C q cs v_ro v_sumCount v_told v_toldCount v_row v_rowLength v_asked v_rising v_falling v_turned v_totals v_before v_after v_keptBytes res.2.1 res.2.2.1 res.2.2.2.1 res.2.2.2.2.1 res.2.2.2.2.2.1 res.2.2.2.2.2.2.1 res.2.2.2.2.2.2.2 v_lightestPlaces v_lightestCount v_toldPlaces v_placeCount v_ways v_wayCount v_usable v_upTo) (va_A (ww_C q cs v_ro v_sumCount v_told v_toldCount v_row v_rowLength v_asked v_rising v_falling v_turned v_totals v_before v_after v_keptBytes v_syndromes v_places v_firstEntry v_nextEntry v_numbers v_counts v_size v_lightestPlaces v_lightestCount v_toldPlaces v_placeCount v_ways v_wayCount v_usable v_upTo) sz)) 0 0 (va_A (ww_C q cs v_ro v_sumCount v_told v_toldCount v_row v_rowLength v_asked v_rising v_falling v_turned v_totals v_before v_after v_keptBytes v_syndromes v_places v_firstEntry v_nextEntry v_numbers v_counts v_size v_lightestPlaces v_lightestCount v_toldPlaces v_placeCount v_ways v_wayCount v_usable v_upTo) sz) := by
  refine k_enter (Qf := fun A => QI G res.1 True (ww_C q cs v_ro v_sumCount v_told v_toldCount v_row v_rowLength v_asked v_rising v_falling v_turned v_totals v_before v_after v_keptBytes res.2.1 res.2.2.1 res.2.2.2.1 res.2.2.2.2.1 res.2.2.2.2.2.1 res.2.2.2.2.2.2.1 res.2.2.2.2.2.2.2 v_lightestPlaces v_lightestCount v_toldPlaces v_placeCount v_ways v_wayCount v_usable v_upTo) A) (cc := cX11_best) (maxL := 3) (ret := (some .int)) (plainFor_of_name (by decide)) rfl (Nat.le_of_ble_eq_true rfl) ?_
  intro p e s m args below meth c A Q ls H locs hx hb hr hml hown hts hlocks hname hK hA hRo hP hD hS hQ hl
  have hl : lv_has ls 3 [(0, .ref (q 0)), (1, .int x1), (2, .int x2)] := hl
  have wd1 := hts (.fieldLink RX11 45 "SumSmith" "sets" "LSumSmith$PlaceSets;") (List.mem_of_getElem? (i := 1) rfl)
  have hinX11 : ∀ w ∈ wsX110, w ∈ wsX11_best := fun w h => List.mem_cons_of_mem _ (List.mem_append_left _ (List.mem_append_left _ (List.mem_append_right _ h)))
  unfold M_X11_best at hm
  refine lv_iload_n hx hb dX11_best_0 rfl (lv_at hl 1 rfl) ?_
  refine lv_iconst (v := 3) hx hb dX11_best_1 (by decide) ?_
  refine lv_bipush (v := 8) hx hb dX11_best_2 (by decide) ?_
  refine k_calli0 (va_runS (As := [.int x1, .int 3, .int 8]) (rest := []) ⟨hx, hb, hml, hown, hts⟩ (c_X11_within l G cs H.size    x1 (3 : Int32) (8 : Int32) _ rfl) (va_cwS 3 hts gX11_best_X11_within rfl rfl rfl hd_X11_within ⟨Nat.le_of_ble_eq_true rfl, Nat.le_of_ble_eq_true rfl⟩) ⟨pre_blind, pre_w hK RO.nil P0 D0 (va_new0 hS hA)⟩ rfl rfl hl.1 rfl (lv_room (Nat.le_of_ble_eq_true rfl)) dX11_best_4 ⟨Nat.zero_le _, Nat.zero_le _⟩) hP hS hA (fun hE1 H locs hP hS => ?_)
  refine lv_if_eq (tgt := 31) hx hb dX11_best_7 (by decide) (fun b2 => ?_) (fun b2 => ?_)
  · have hm := i_t b2 hm
    refine lv_bipush (v := (-3)) hx hb dX11_best_31 (by decide) ?_
    have hq := Option.some.inj hm
    subst hq; subst hQ
    exact k_iret hx hb hr hlocks hP hD hS rfl trivial dX11_best_33
  · have hm := i_f b2 hm
    refine lv_iload_n hx hb dX11_best_10 rfl (lv_at hl 2 rfl) ?_
    refine lv_iconst (v := 1) hx hb dX11_best_11 (by decide) ?_
    refine lv_iconst (v := 3) hx hb dX11_best_12 (by decide) ?_
    refine k_calli0 (va_runS (As := [.int x2, .int 1, .int 3]) (rest := []) ⟨hx, hb, hml, hown, hts⟩ (c_X11_within l G cs H.size    x2 (1 : Int32) (3 : Int32) _ rfl) (va_cwS 3 hts gX11_best_X11_within rfl rfl rfl hd_X11_within ⟨Nat.le_of_ble_eq_true rfl, Nat.le_of_ble_eq_true rfl⟩) ⟨pre_blind, pre_w hK RO.nil P0 D0 (va_new0 hS hA)⟩ rfl rfl hl.1 rfl (lv_room (Nat.le_of_ble_eq_true rfl)) dX11_best_13 ⟨Nat.zero_le _, Nat.zero_le _⟩) hP hS hA (fun hE3 H locs hP hS => ?_)
    refine lv_if_eq (tgt := 31) hx hb dX11_best_16 (by decide) (fun b4 => ?_) (fun b4 => ?_)
    · have hm := i_t b4 hm
      refine lv_bipush (v := (-3)) hx hb dX11_best_31 (by decide) ?_
      have hq := Option.some.inj hm
      subst hq; subst hQ
      exact k_iret hx hb hr hlocks hP hD hS rfl trivial dX11_best_33
    · have hm := i_f b4 hm
      refine lv_aload_n hx hb dX11_best_19 rfl (lv_at hl 0 rfl) ?_
      refine va_get (D := G) (ci := 9) (v := .ref (q 12)) (C := RX11) (T := TX11) (N := 12) hx hb hts hinX11 hown hK.1 hP 0 rfl rfl 8 (by decide) wd1 (fun _ h9 => h9) rfl dX11_best_20 ?_
      refine lv_iload_n hx hb dX11_best_23 rfl (lv_at hl 1 rfl) ?_
      refine lv_iload_n hx hb dX11_best_24 rfl (lv_at hl 2 rfl) ?_
      obtain ⟨r5, hc_r5, hm⟩ := bs hm
      refine k_callij (wr := [((q 0), .inr (9, [.ref (q 1), .int v_sumCount, .ref (q 2), .int v_toldCount, .ref (q 3), .int v_rowLength, .ref (q 4), .ref (q 5), .ref (q 12), .ref (q 19), .int v_lightestCount, .ref (q 20)])), ((q 1), .inl (cs.2.2.2, 16, .inr (.inr (.inr (.inr (roA v_ro)))))), ((q 2), .inl (cs.1, 100, .inl v_told)), ((q 3), .inl (cs.1, 64, .inl v_row)), ((q 4), .inl (cs.1, 7, .inl v_asked)), ((q 5), .inr (3, [.ref (q 6), .ref (q 7), .ref (q 8), .ref (q 9), .ref (q 10), .ref (q 11), .int v_keptBytes])), ((q 6), .inl (cs.2.1, 64, .inr (.inl v_rising))), ((q 7), .inl (cs.2.1, 64, .inr (.inl v_falling))), ((q 8), .inl (cs.1, 8, .inl v_turned)), ((q 9), .inl (cs.2.1, 64, .inr (.inl v_totals))), ((q 10), .inl (cs.1, 8, .inl v_before)), ((q 11), .inl (cs.1, 8, .inl v_after)), ((q 19), .inl (cs.1, 4, .inl v_lightestPlaces)), ((q 20), .inr (0, [.ref (q 21), .int v_placeCount, .ref (q 22), .int v_wayCount, .ref (q 23), .ref (q 24)])), ((q 21), .inl (cs.1, 16, .inl v_toldPlaces)), ((q 22), .inl (cs.1, 64, .inl v_ways)), ((q 23), .inl (cs.1, 16, .inl v_usable)), ((q 24), .inl (cs.2.1, 16, .inr (.inl v_upTo)))]) (w2 := (ww_C q cs v_ro v_sumCount v_told v_toldCount v_row v_rowLength v_asked v_rising v_falling v_turned v_totals v_before v_after v_keptBytes r5.2.1 r5.2.2.1 r5.2.2.2.1 r5.2.2.2.2.1 r5.2.2.2.2.2.1 r5.2.2.2.2.2.2.1 r5.2.2.2.2.2.2.2 v_lightestPlaces v_lightestCount v_toldPlaces v_placeCount v_ways v_wayCount v_usable v_upTo)) (va_runV (As := [.int x1, .int x2]) (rest := []) ⟨hx, hb, hml, hown, hts⟩ (c_X3_findBest l G cs (fun i => q (i + 12)) H.size v_syndromes v_places v_firstEntry v_nextEntry v_numbers v_counts v_size   x1 x2 n r5 hc_r5) (cwV 2 hts gX11_best_X3_findBest rfl rfl rfl ⟨rfl, hd_X3_findBest⟩ ⟨Nat.le_of_ble_eq_true rfl, Nat.le_of_ble_eq_true rfl⟩) ⟨pre_blind, va_recv hK.1 hP (ci := 2) (q0 := 12) rfl rfl, pre_w hK RO.nil (P_by hP [12, 13, 14, 15, 16, 17, 18] rfl) (hD.sub [12, 13, 14, 15, 16, 17, 18] (by decide) rfl) (va_free hD hS hA [12, 13, 14, 15, 16, 17, 18] rfl)⟩ rfl rfl hl.1 rfl (lv_room (Nat.le_of_ble_eq_true rfl)) dX11_best_25 ⟨Nat.zero_le _, Nat.zero_le _⟩) hP hD hS hA [12, 13, 14, 15, 16, 17, 18] [0, 1, 2, 3, 4, 5, 6, 7, 8, 9, 10, 11, 19, 20, 21, 22, 23, 24] [0, 1, 2, 3, 4, 5, 6, 7, 8, 9, 10, 11, 18, 19, 20, 21, 22, 23, 24, 12, 13, 14, 15, 16, 17] rfl rfl (by decide) (by decide) rfl (by decide) (fun hE6 H locs hP hD hS => ?_)
      have hP : va_P G vwCl (ww_C q cs v_ro v_sumCount v_told v_toldCount v_row v_rowLength v_asked v_rising v_falling v_turned v_totals v_before v_after v_keptBytes r5.2.1 r5.2.2.1 r5.2.2.2.1 r5.2.2.2.2.1 r5.2.2.2.2.2.1 r5.2.2.2.2.2.2.1 r5.2.2.2.2.2.2.2 v_lightestPlaces v_lightestCount v_toldPlaces v_placeCount v_ways v_wayCount v_usable v_upTo) H := hP
      have hD : va_D A (ww_C q cs v_ro v_sumCount v_told v_toldCount v_row v_rowLength v_asked v_rising v_falling v_turned v_totals v_before v_after v_keptBytes r5.2.1 r5.2.2.1 r5.2.2.2.1 r5.2.2.2.2.1 r5.2.2.2.2.2.1 r5.2.2.2.2.2.2.1 r5.2.2.2.2.2.2.2 v_lightestPlaces v_lightestCount v_toldPlaces v_placeCount v_ways v_wayCount v_usable v_upTo) := hD
      refine lv_goto (tgt := 33) hx hb dX11_best_28 (by decide) ?_
      have hq := Option.some.inj hm
      subst hq; subst hQ
      exact k_iret hx hb hr hlocks hP hD hS rfl trivial dX11_best_33

theorem hd_X11_mend : yX11_mend.cls ≠ "java/lang/invoke/MethodHandle" ∧ yX11_mend.cls ≠ "java/lang/invoke/VarHandle" ∧ (parseMethodDescriptor yX11_mend.desc).map (fun d => d.parameters.length) = some 2 := by decide +kernel

def M_X11_mend (n : Nat) (x1 : Int32) (x2 : Int64) (v_ro : RF) (v_sumCount : Int32) (v_row : (Nat → Int32)) (v_rowLength : Int32) (v_syndromes : (Nat → Int64)) (v_places : Int32) : Option (Int32 × (Nat → Int32) × (Nat → Int64) × Int32) :=
  (M_X11_sumAt x1 v_ro v_sumCount).bind fun r1 => Option.elim r1 (some ((-2), v_row, v_syndromes, v_places)) (fun y1 => if y1.2.2.1 = 8 ∨ y1.2.2.1 = 7 ∨ y1.2.2.1 = 6 ∨ y1.2.2.1 = 1 ∨ y1.2.2.1 = 4 then (if y1.2.2.1 = 1 then (if y1.2.2.2.1 = 5 then (if (M_X1_holds x2 y1.2.2.2.2.1) = 0 then (some ((-3), v_row, v_syndromes, v_places)) else ((M_X1_ofRow n v_rowLength v_row 64 y1.2.2.2.2.1 y1.2.2.2.2.2.2.1 y1.2.2.2.2.2.2.2.1 y1.2.2.2.2.2.2.2.2.1 y1.2.2.2.2.2.2.2.2.2.1).bind fun r6 => if (r6 ^^^ x2) = 0 then (some (0, v_row, v_syndromes, v_places)) else ((M_X3_load n v_rowLength y1.2.2.2.2.1 y1.2.2.2.2.2.2.1 y1.2.2.2.2.2.2.2.2.2.1 v_syndromes v_places).bind fun r8 => (M_X3_firstPlaceOf n (r6 ^^^ x2) r8.1 r8.2).bind fun r9 => if r9 = (-1) then (if (M_J13_bitCount_95d88 (r6 ^^^ x2)) = 1 then (some (1000 + (M_J13_numberOfTrailingZeros_95d88 (r6 ^^^ x2)), v_row, r8.1, r8.2)) else (some ((-1), v_row, r8.1, r8.2))) else (if (M_X11_byteOfPlace r9) < 0 ∨ 64 ≤ (M_X11_byteOfPlace r9).toNatClampNeg then none else if (M_X11_byteOfPlace r9) < 0 ∨ 64 ≤ (M_X11_byteOfPlace r9).toNatClampNeg then none else some (1 + r9, (upd v_row (M_X11_byteOfPlace r9).toNatClampNeg ((v_row (M_X11_byteOfPlace r9).toNatClampNeg) ^^^ (M_X11_bitOfPlace r9))), r8.1, r8.2))))) else (some ((-4), v_row, v_syndromes, v_places))) else (some ((-4), v_row, v_syndromes, v_places))) else none)

abbrev rmX11_mend : Room := { frames := 4, cells := 0, slots := 0, locals := 99 }
set_option maxHeartbeats 4000000 in
set_option maxRecDepth 100000 in
theorem c_X11_mend (l : Launch) (G : va_G) (cs : CS) (q : Nat → Nat) (sz : Nat) (v_ro : RF) (v_sumCount : Int32) (v_told : (Nat → Int32)) (v_toldCount : Int32) (v_row : (Nat → Int32)) (v_rowLength : Int32) (v_asked : (Nat → Int32)) (v_rising : (Nat → Int64)) (v_falling : (Nat → Int64)) (v_turned : (Nat → Int32)) (v_totals : (Nat → Int64)) (v_before : (Nat → Int32)) (v_after : (Nat → Int32)) (v_keptBytes : Int32) (v_syndromes : (Nat → Int64)) (v_places : Int32) (v_firstEntry : (Nat → Int32)) (v_nextEntry : (Nat → Int32)) (v_numbers : (Nat → Int64)) (v_counts : (Nat → Int32)) (v_size : Int32) (v_lightestPlaces : (Nat → Int32)) (v_lightestCount : Int32) (v_toldPlaces : (Nat → Int32)) (v_placeCount : Int32) (v_ways : (Nat → Int32)) (v_wayCount : Int32) (v_usable : (Nat → Int32)) (v_upTo : (Nat → Int64))   (x1 : Int32) (x2 : Int64) (n : Nat) (res : (Int32 × (Nat → Int32) × (Nat → Int64) × Int32)) (hm : M_X11_mend n x1 x2 v_ro v_sumCount v_row v_rowLength v_syndromes v_places = some res) : Met l yX11_mend wsX11_mend rmX11_mend (va_Pc [.ref (q 0), .int x1, .long x2] (PreW G cs sz (ww_C q cs v_ro v_sumCount v_told v_toldCount v_row v_rowLength v_asked v_rising v_falling v_turned v_totals v_before v_after v_keptBytes v_syndromes v_places v_firstEntry v_nextEntry v_numbers v_counts v_size v_lightestPlaces v_lightestCount v_toldPlaces v_placeCount v_ways v_wayCount v_usable v_upTo) v_ro)) (QI G res.1 True (ww_C q cs v_ro v_sumCount v_told v_toldCount res.2.1 v_rowLength v_asked v_rising v_falling v_turned v_totals v_before v_after v_keptBytes res.2.2.1 res.2.2.2 v_firstEntry v_nextEntry v_numbers v_counts v_size v_lightestPlaces v_lightestCount v_toldPlaces v_placeCount v_ways v_wayCount v_usable v_upTo) (va_A (ww_C q cs v_ro v_sumCount v_told v_toldCount v_row v_rowLength v_asked v_rising v_falling v_turned v_totals v_before v_after v_keptBytes v_syndromes v_places v_firstEntry v_nextEntry v_numbers v_counts v_size v_lightestPlaces v_lightestCount v_toldPlaces v_placeCount v_ways v_wayCount v_usable v_upTo) sz)) 0 0 (va_A (ww_C q cs v_ro v_sumCount v_told v_toldCount v_row v_rowLength v_asked v_rising v_falling v_turned v_totals v_before v_after v_keptBytes v_syndromes v_places v_firstEntry v_nextEntry v_numbers v_counts v_size v_lightestPlaces v_lightestCount v_toldPlaces v_placeCount v_ways v_wayCount v_usable v_upTo) sz) := by
  refine k_enter (Qf := fun A => QI G res.1 True (ww_C q cs v_ro v_sumCount v_told v_toldCount res.2.1 v_rowLength v_asked v_rising v_falling v_turned v_totals v_before v_after v_keptBytes res.2.2.1 res.2.2.2 v_firstEntry v_nextEntry v_numbers v_counts v_size v_lightestPlaces v_lightestCount v_toldPlaces v_placeCount v_ways v_wayCount v_usable v_upTo) A) (cc := cX11_mend) (maxL := 9) (ret := (some .int)) (plainFor_of_name (by decide)) rfl (Nat.le_of_ble_eq_true rfl) ?_
  intro p e s m args below meth c A Q ls H locs hx hb hr hml hown hts hlocks hname hK hA hRo hP hD hS hQ hl
  have hl : lv_has ls 9 [(0, .ref (q 0)), (1, .int x1), (2, .long x2)] := hl
  have wd1 := hts (.classLink RX11 107 "SumSmith$Divided") (List.mem_of_getElem? (i := 1) rfl)
  have wd2 := hts (.fieldLink RX11 124 "SumSmith$Sum" "kind" "I") (List.mem_of_getElem? (i := 2) rfl)
  have wd3 := hts (.fieldLink RX11 26 "SumSmith" "row" "[I") (List.mem_of_getElem? (i := 3) rfl)
  have wd4 := hts (.fieldLink RX11 29 "SumSmith" "rowLength" "I") (List.mem_of_getElem? (i := 4) rfl)
  have wd5 := hts (.fieldLink RX11 45 "SumSmith" "sets" "LSumSmith$PlaceSets;") (List.mem_of_getElem? (i := 5) rfl)
  have wd6 := hts (.fieldLink RX11 203 "SumSmith$Divided" "width" "I") (List.mem_of_getElem? (i := 6) rfl)
  have wd7 := hts (.fieldLink RX11 206 "SumSmith$Divided" "polynomial" "J") (List.mem_of_getElem? (i := 7) rfl)
  have wd8 := hts (.fieldLink RX11 210 "SumSmith$Divided" "low" "Z") (List.mem_of_getElem? (i := 8) rfl)
  have hinX1 : ∀ w ∈ wsX10, w ∈ wsX11_mend := fun w h => List.mem_cons_of_mem _ (List.mem_append_left _ (List.mem_append_left _ (List.mem_append_left _ (List.mem_append_left _ (List.mem_append_left _ (List.mem_append_left _ (List.mem_append_right _ h)))))))
  have hinX5 : ∀ w ∈ wsX50, w ∈ wsX11_mend := fun w h => List.mem_cons_of_mem _ (List.mem_append_left _ (List.mem_append_left _ (List.mem_append_left _ (List.mem_append_left _ (List.mem_append_left _ (List.mem_append_right _ h))))))
  have hinX8 : ∀ w ∈ wsX80, w ∈ wsX11_mend := fun w h => List.mem_cons_of_mem _ (List.mem_append_left _ (List.mem_append_left _ (List.mem_append_left _ (List.mem_append_left _ (List.mem_append_right _ h)))))
  have hinX9 : ∀ w ∈ wsX90, w ∈ wsX11_mend := fun w h => List.mem_cons_of_mem _ (List.mem_append_left _ (List.mem_append_left _ (List.mem_append_left _ (List.mem_append_right _ h))))
  have hinX10 : ∀ w ∈ wsX100, w ∈ wsX11_mend := fun w h => List.mem_cons_of_mem _ (List.mem_append_left _ (List.mem_append_left _ (List.mem_append_right _ h)))
  have hinX11 : ∀ w ∈ wsX110, w ∈ wsX11_mend := fun w h => List.mem_cons_of_mem _ (List.mem_append_left _ (List.mem_append_right _ h))
  unfold M_X11_mend at hm
  refine lv_aload_n hx hb dX11_mend_0 rfl (lv_at hl 0 rfl) ?_
  refine lv_iload_n hx hb dX11_mend_1 rfl (lv_at hl 1 rfl) ?_
  obtain ⟨r1, hc_r1, hm⟩ := bs hm
  refine k_callq (va_runV (As := [.int x1]) (rest := []) ⟨hx, hb, hml, hown, hts⟩ (c_X11_sumAt l G cs q H.size v_ro v_sumCount v_told v_toldCount v_row v_rowLength v_asked v_rising v_falling v_turned v_totals v_before v_after v_keptBytes v_syndromes v_places v_firstEntry v_nextEntry v_numbers v_counts v_size v_lightestPlaces v_lightestCount v_toldPlaces v_placeCount v_ways v_wayCount v_usable v_upTo x1 r1 hc_r1) (cwV 1 hts gX11_mend_X11_sumAt rfl rfl rfl ⟨rfl, hd_X11_sumAt⟩ ⟨Nat.le_of_ble_eq_true rfl, Nat.le_of_ble_eq_true rfl⟩) ⟨pre_blind, va_recv hK.1 hP (ci := 9) (q0 := 0) rfl rfl, pre_w hK (RO.at hS hRo) hP hD (va_all hD hS hA)⟩ rfl rfl hl.1 rfl (lv_room (Nat.le_of_ble_eq_true rfl)) dX11_mend_2 ⟨Nat.zero_le _, Nat.zero_le _⟩) hS (va_all hD hS hA) (fun H locs hP hD hS => ?_)
  have hP : va_P G vwCl (ww_C q cs v_ro v_sumCount v_told v_toldCount v_row v_rowLength v_asked v_rising v_falling v_turned v_totals v_before v_after v_keptBytes v_syndromes v_places v_firstEntry v_nextEntry v_numbers v_counts v_size v_lightestPlaces v_lightestCount v_toldPlaces v_placeCount v_ways v_wayCount v_usable v_upTo) H := hP
  have hD : va_D A (ww_C q cs v_ro v_sumCount v_told v_toldCount v_row v_rowLength v_asked v_rising v_falling v_turned v_totals v_before v_after v_keptBytes v_syndromes v_places v_firstEntry v_nextEntry v_numbers v_counts v_size v_lightestPlaces v_lightestCount v_toldPlaces v_placeCount v_ways v_wayCount v_usable v_upTo) := hD
  cases r1 with
  | none =>
    have hm := oe_n hm
    refine lv_astoreN (lv' := [(4, .null), (0, .ref (q 0)), (1, .int x1), (2, .long x2)]) hx hb dX11_mend_5 hl (by decide) rfl (fun ls hl => ?_)
    refine lv_aloadN hx hb dX11_mend_7 (lv_at hl 0 rfl) ?_
    refine lv_ifnonnullN hx hb dX11_mend_9 ?_
    refine lv_bipush (v := (-2)) hx hb dX11_mend_12 (by decide) ?_
    have hq := Option.some.inj hm
    subst hq; subst hQ
    exact k_iret hx hb hr hlocks hP hD hS rfl trivial dX11_mend_14
  | some y1 =>
    have hm := oe_s hm
    obtain ⟨j1, hj1⟩ := sumAt_ro hc_r1
    obtain ⟨hv1, hm⟩ := g_pos hm
    refine lv_astore (lv' := [(4, .ref y1.1), (0, .ref (q 0)), (1, .int x1), (2, .long x2)]) hx hb dX11_mend_5 hl (by decide) rfl (fun ls hl => ?_)
    refine lv_aload hx hb dX11_mend_7 (lv_at hl 0 rfl) ?_
    refine lv_ifnonnull (tgt := 15) hx hb dX11_mend_9 (by decide) ?_
    refine lv_aload hx hb dX11_mend_15 (lv_at hl 0 rfl) ?_
    by_cases b2 : y1.2.2.1 = 1
    · have hm := i_t b2 hm
      refine inst_D (own := RX11) hx hb hown wd1 hK (RO.at hS hRo j1 _ hj1).1 b2 dX11_mend_17 ?_
      refine lv_if_eq (tgt := 39) hx hb dX11_mend_20 (by decide) (fun b9 => absurd b9 (by decide)) (fun b9 => ?_)
      refine lv_aload hx hb dX11_mend_23 (lv_at hl 0 rfl) ?_
      refine cast_D (own := RX11) hx hb hown wd1 hK (RO.at hS hRo j1 _ hj1).1 b2 dX11_mend_25 ?_
      refine lv_astore (lv' := [(5, .ref y1.1), (4, .ref y1.1), (0, .ref (q 0)), (1, .int x1), (2, .long x2)]) hx hb dX11_mend_28 hl (by decide) rfl (fun ls hl => ?_)
      refine lv_aload hx hb dX11_mend_30 (lv_at hl 1 rfl) ?_
      refine get_kind (own := RX11) hx hb hts hinX1 hinX5 hinX8 hinX9 hinX10 hown hK (RO.at hS hRo j1 _ hj1).1 hv1 wd2 dX11_mend_32 ?_
      refine lv_iconst (v := 5) hx hb dX11_mend_35 (by decide) ?_
      refine lv_icmp_eq (tgt := 42) hx hb dX11_mend_36 (by decide) (fun b3 => ?_) (fun b3 => ?_)
      · have hm := i_t b3 hm
        refine lv_aload hx hb dX11_mend_42 (lv_at hl 0 rfl) ?_
        refine lv_lload_n hx hb dX11_mend_44 rfl (lv_at hl 4 rfl) ?_
        refine k_calli0 (va_runV (As := [.long x2]) (rest := []) ⟨hx, hb, hml, hown, hts⟩ (c_X1_holds l G cs H.size   y1.1 y1.2.1 y1.2.2.2.1 y1.2.2.2.2.1 y1.2.2.2.2.2.1 y1.2.2.2.2.2.2.1 y1.2.2.2.2.2.2.2.1 y1.2.2.2.2.2.2.2.2.1 y1.2.2.2.2.2.2.2.2.2.1 y1.2.2.2.2.2.2.2.2.2.2.1 y1.2.2.2.2.2.2.2.2.2.2.2 x2 _ rfl) (cwV 1 hts gX11_mend_X1_holds rfl rfl rfl ⟨rfl, hd_X1_holds⟩ ⟨Nat.le_of_ble_eq_true rfl, Nat.le_of_ble_eq_true rfl⟩) ⟨pre_blind, va_recv hK.1 (divF (RO.at hS hRo j1 _ hj1).1 b2) (ci := 1) (q0 := 0) rfl rfl, pre_w hK (RO.cls hj1 b2 (RO.at hS hRo)) P0 D0 (va_new0 hS hA)⟩ rfl rfl hl.1 rfl (lv_room (Nat.le_of_ble_eq_true rfl)) dX11_mend_45 ⟨Nat.zero_le _, Nat.zero_le _⟩) hP hS hA (fun hE4 H locs hP hS => ?_)
        refine lv_if_ne (tgt := 54) hx hb dX11_mend_48 (by decide) (fun b5 => ?_) (fun b5 => ?_)
        · have hm := i_f b5 hm
          refine lv_aload hx hb dX11_mend_54 (lv_at hl 0 rfl) ?_
          refine lv_aload_n hx hb dX11_mend_56 rfl (lv_at hl 2 rfl) ?_
          refine va_get (D := G) (ci := 9) (v := .ref (q 3)) (C := RX11) (T := TX11) (N := 12) hx hb hts hinX11 hown hK.1 hP 0 rfl rfl 4 (by decide) wd3 (fun _ h9 => h9) rfl dX11_mend_57 ?_
          refine lv_aload_n hx hb dX11_mend_60 rfl (lv_at hl 2 rfl) ?_
          refine va_get (D := G) (ci := 9) (v := .int v_rowLength) (C := RX11) (T := TX11) (N := 12) hx hb hts hinX11 hown hK.1 hP 0 rfl rfl 5 (by decide) wd4 (fun _ h9 => h9) rfl dX11_mend_61 ?_
          obtain ⟨r6, hc_r6, hm⟩ := bs hm
          refine k_calllj (wr := [((q 0), .inr (9, [.ref (q 1), .int v_sumCount, .ref (q 2), .int v_toldCount, .ref (q 3), .int v_rowLength, .ref (q 4), .ref (q 5), .ref (q 12), .ref (q 19), .int v_lightestCount, .ref (q 20)])), ((q 1), .inl (cs.2.2.2, 16, .inr (.inr (.inr (.inr (roA v_ro)))))), ((q 2), .inl (cs.1, 100, .inl v_told)), ((q 4), .inl (cs.1, 7, .inl v_asked)), ((q 5), .inr (3, [.ref (q 6), .ref (q 7), .ref (q 8), .ref (q 9), .ref (q 10), .ref (q 11), .int v_keptBytes])), ((q 6), .inl (cs.2.1, 64, .inr (.inl v_rising))), ((q 7), .inl (cs.2.1, 64, .inr (.inl v_falling))), ((q 8), .inl (cs.1, 8, .inl v_turned)), ((q 9), .inl (cs.2.1, 64, .inr (.inl v_totals))), ((q 10), .inl (cs.1, 8, .inl v_before)), ((q 11), .inl (cs.1, 8, .inl v_after)), ((q 12), .inr (2, [.ref (q 13), .int v_places, .ref (q 14)])), ((q 13), .inl (cs.2.1, 512, .inr (.inl v_syndromes))), ((q 14), .inr (5, [.ref (q 15), .ref (q 16), .ref (q 17), .ref (q 18), .int v_size])), ((q 15), .inl (cs.1, 512, .inl v_firstEntry)), ((q 16), .inl (cs.1, 1128, .inl v_nextEntry)), ((q 17), .inl (cs.2.1, 1128, .inr (.inl v_numbers))), ((q 18), .inl (cs.1, 1128, .inl v_counts)), ((q 19), .inl (cs.1, 4, .inl v_lightestPlaces)), ((q 20), .inr (0, [.ref (q 21), .int v_placeCount, .ref (q 22), .int v_wayCount, .ref (q 23), .ref (q 24)])), ((q 21), .inl (cs.1, 16, .inl v_toldPlaces)), ((q 22), .inl (cs.1, 64, .inl v_ways)), ((q 23), .inl (cs.1, 16, .inl v_usable)), ((q 24), .inl (cs.2.1, 16, .inr (.inl v_upTo)))]) (w2 := (ww_C q cs v_ro v_sumCount v_told v_toldCount v_row v_rowLength v_asked v_rising v_falling v_turned v_totals v_before v_after v_keptBytes v_syndromes v_places v_firstEntry v_nextEntry v_numbers v_counts v_size v_lightestPlaces v_lightestCount v_toldPlaces v_placeCount v_ways v_wayCount v_usable v_upTo)) (va_runV (As := [.ref (q 3), .int v_rowLength]) (rest := []) ⟨hx, hb, hml, hown, hts⟩ (c_X1_ofRow l G cs H.size v_row (q 3) y1.1 y1.2.1 64 y1.2.2.2.1 y1.2.2.2.2.1 y1.2.2.2.2.2.1 y1.2.2.2.2.2.2.1 y1.2.2.2.2.2.2.2.1 y1.2.2.2.2.2.2.2.2.1 y1.2.2.2.2.2.2.2.2.2.1 y1.2.2.2.2.2.2.2.2.2.2.1 y1.2.2.2.2.2.2.2.2.2.2.2 v_rowLength n r6 hc_r6) (cwV 2 hts gX11_mend_X1_ofRow rfl rfl rfl ⟨rfl, hd_X1_ofRow⟩ ⟨Nat.le_of_ble_eq_true rfl, Nat.le_of_ble_eq_true rfl⟩) ⟨pre_blind, va_recv hK.1 (divF (RO.at hS hRo j1 _ hj1).1 b2) (ci := 1) (q0 := 0) rfl rfl, pre_w hK (RO.cls hj1 b2 (RO.at hS hRo)) (P_by hP [3] rfl) (hD.sub [3] (by decide) rfl) (va_free hD hS hA [3] rfl)⟩ rfl rfl hl.1 rfl (lv_room (Nat.le_of_ble_eq_true rfl)) dX11_mend_64 ⟨Nat.zero_le _, Nat.zero_le _⟩) hP hD hS hA [3] [0, 1, 2, 4, 5, 6, 7, 8, 9, 10, 11, 12, 13, 14, 15, 16, 17, 18, 19, 20, 21, 22, 23, 24] [0, 1, 2, 24, 3, 4, 5, 6, 7, 8, 9, 10, 11, 12, 13, 14, 15, 16, 17, 18, 19, 20, 21, 22, 23] rfl rfl (by decide) (by decide) rfl (by decide) (fun H locs hP hD hS => ?_)
          have hP : va_P G vwCl (ww_C q cs v_ro v_sumCount v_told v_toldCount v_row v_rowLength v_asked v_rising v_falling v_turned v_totals v_before v_after v_keptBytes v_syndromes v_places v_firstEntry v_nextEntry v_numbers v_counts v_size v_lightestPlaces v_lightestCount v_toldPlaces v_placeCount v_ways v_wayCount v_usable v_upTo) H := hP
          have hD : va_D A (ww_C q cs v_ro v_sumCount v_told v_toldCount v_row v_rowLength v_asked v_rising v_falling v_turned v_totals v_before v_after v_keptBytes v_syndromes v_places v_firstEntry v_nextEntry v_numbers v_counts v_size v_lightestPlaces v_lightestCount v_toldPlaces v_placeCount v_ways v_wayCount v_usable v_upTo) := hD
          refine lv_lload_n hx hb dX11_mend_67 rfl (lv_at hl 4 rfl) ?_
          refine lv_lxor hx hb dX11_mend_68 ?_
          refine lv_lstore (lv' := [(6, .long (r6 ^^^ x2)), (5, .ref y1.1), (4, .ref y1.1), (0, .ref (q 0)), (1, .int x1), (2, .long x2)]) hx hb dX11_mend_69 hl (by decide) rfl (fun ls hl => ?_)
          refine lv_lload hx hb dX11_mend_71 (lv_at hl 0 rfl) ?_
          refine lv_lconst (v := 0) hx hb dX11_mend_73 (by decide) ?_
          refine W.lcmp hx hb dX11_mend_74 ?_
          refine lv_if_ne (tgt := 80) hx hb dX11_mend_75 (by decide) (fun b7 => ?_) (fun b7 => ?_)
          · have b7 := fun h9 => b7 ((lg_cmp_eq _ _).mpr h9)
            have hm := i_f b7 hm
            refine lv_aload_n hx hb dX11_mend_80 rfl (lv_at hl 3 rfl) ?_
            refine va_get (D := G) (ci := 9) (v := .ref (q 12)) (C := RX11) (T := TX11) (N := 12) hx hb hts hinX11 hown hK.1 hP 0 rfl rfl 8 (by decide) wd5 (fun _ h9 => h9) rfl dX11_mend_81 ?_
            refine lv_aload_n hx hb dX11_mend_84 rfl (lv_at hl 3 rfl) ?_
            refine va_get (D := G) (ci := 9) (v := .int v_rowLength) (C := RX11) (T := TX11) (N := 12) hx hb hts hinX11 hown hK.1 hP 0 rfl rfl 5 (by decide) wd4 (fun _ h9 => h9) rfl dX11_mend_85 ?_
            refine lv_aload hx hb dX11_mend_88 (lv_at hl 1 rfl) ?_
            refine va_get (D := G) (ci := 1) (v := .int y1.2.2.2.2.1) (C := RX1) (T := TX1) (N := 6) hx hb hts hinX1 hown hK.1 (divF (RO.at hS hRo j1 _ hj1).1 b2) 0 rfl rfl 1 (by decide) wd6 (fun _ h9 => h9) rfl dX11_mend_90 ?_
            refine lv_aload hx hb dX11_mend_93 (lv_at hl 1 rfl) ?_
            refine va_get (D := G) (ci := 1) (v := .long y1.2.2.2.2.2.2.1) (C := RX1) (T := TX1) (N := 6) hx hb hts hinX1 hown hK.1 (divF (RO.at hS hRo j1 _ hj1).1 b2) 0 rfl rfl 2 (by decide) wd7 (fun _ h9 => h9) rfl dX11_mend_95 ?_
            refine lv_aload hx hb dX11_mend_98 (lv_at hl 1 rfl) ?_
            refine va_get (D := G) (ci := 1) (v := .int y1.2.2.2.2.2.2.2.2.2.1) (C := RX1) (T := TX1) (N := 6) hx hb hts hinX1 hown hK.1 (divF (RO.at hS hRo j1 _ hj1).1 b2) 0 rfl rfl 3 (by decide) wd8 (fun _ h9 => h9) rfl dX11_mend_100 ?_
            obtain ⟨r8, hc_r8, hm⟩ := bs hm
            refine k_callvj (wr := [((q 0), .inr (9, [.ref (q 1), .int v_sumCount, .ref (q 2), .int v_toldCount, .ref (q 3), .int v_rowLength, .ref (q 4), .ref (q 5), .ref (q 12), .ref (q 19), .int v_lightestCount, .ref (q 20)])), ((q 1), .inl (cs.2.2.2, 16, .inr (.inr (.inr (.inr (roA v_ro)))))), ((q 2), .inl (cs.1, 100, .inl v_told)), ((q 3), .inl (cs.1, 64, .inl v_row)), ((q 4), .inl (cs.1, 7, .inl v_asked)), ((q 5), .inr (3, [.ref (q 6), .ref (q 7), .ref (q 8), .ref (q 9), .ref (q 10), .ref (q 11), .int v_keptBytes])), ((q 6), .inl (cs.2.1, 64, .inr (.inl v_rising))), ((q 7), .inl (cs.2.1, 64, .inr (.inl v_falling))), ((q 8), .inl (cs.1, 8, .inl v_turned)), ((q 9), .inl (cs.2.1, 64, .inr (.inl v_totals))), ((q 10), .inl (cs.1, 8, .inl v_before)), ((q 11), .inl (cs.1, 8, .inl v_after)), ((q 19), .inl (cs.1, 4, .inl v_lightestPlaces)), ((q 20), .inr (0, [.ref (q 21), .int v_placeCount, .ref (q 22), .int v_wayCount, .ref (q 23), .ref (q 24)])), ((q 21), .inl (cs.1, 16, .inl v_toldPlaces)), ((q 22), .inl (cs.1, 64, .inl v_ways)), ((q 23), .inl (cs.1, 16, .inl v_usable)), ((q 24), .inl (cs.2.1, 16, .inr (.inl v_upTo)))]) (w2 := (ww_C q cs v_ro v_sumCount v_told v_toldCount v_row v_rowLength v_asked v_rising v_falling v_turned v_totals v_before v_after v_keptBytes r8.1 r8.2 v_firstEntry v_nextEntry v_numbers v_counts v_size v_lightestPlaces v_lightestCount v_toldPlaces v_placeCount v_ways v_wayCount v_usable v_upTo)) (va_runV (As := [.int v_rowLength, .int y1.2.2.2.2.1, .long y1.2.2.2.2.2.2.1, .int y1.2.2.2.2.2.2.2.2.2.1]) (rest := []) ⟨hx, hb, hml, hown, hts⟩ (c_X3_load l G cs (fun i => q (i + 12)) H.size v_syndromes v_places v_firstEntry v_nextEntry v_numbers v_counts v_size   v_rowLength y1.2.2.2.2.1 y1.2.2.2.2.2.2.1 y1.2.2.2.2.2.2.2.2.2.1 n r8 hc_r8) (cwV 4 hts gX11_mend_X3_load rfl rfl rfl ⟨rfl, hd_X3_load⟩ ⟨Nat.le_of_ble_eq_true rfl, Nat.le_of_ble_eq_true rfl⟩) ⟨pre_blind, va_recv hK.1 hP (ci := 2) (q0 := 12) rfl rfl, pre_w hK RO.nil (P_by hP [12, 13, 14, 15, 16, 17, 18] rfl) (hD.sub [12, 13, 14, 15, 16, 17, 18] (by decide) rfl) (va_free hD hS hA [12, 13, 14, 15, 16, 17, 18] rfl)⟩ rfl rfl hl.1 rfl (lv_room (Nat.le_of_ble_eq_true rfl)) dX11_mend_103 ⟨Nat.zero_le _, Nat.zero_le _⟩) hP hD hS hA [12, 13, 14, 15, 16, 17, 18] [0, 1, 2, 3, 4, 5, 6, 7, 8, 9, 10, 11, 19, 20, 21, 22, 23, 24] [0, 1, 2, 3, 4, 5, 6, 7, 8, 9, 10, 11, 18, 19, 20, 21, 22, 23, 24, 12, 13, 14, 15, 16, 17] rfl rfl (by decide) (by decide) rfl (by decide) (fun H locs hP hD hS => ?_)
            have hP : va_P G vwCl (ww_C q cs v_ro v_sumCount v_told v_toldCount v_row v_rowLength v_asked v_rising v_falling v_turned v_totals v_before v_after v_keptBytes r8.1 r8.2 v_firstEntry v_nextEntry v_numbers v_counts v_size v_lightestPlaces v_lightestCount v_toldPlaces v_placeCount v_ways v_wayCount v_usable v_upTo) H := hP
            have hD : va_D A (ww_C q cs v_ro v_sumCount v_told v_toldCount v_row v_rowLength v_asked v_rising v_falling v_turned v_totals v_before v_after v_keptBytes r8.1 r8.2 v_firstEntry v_nextEntry v_numbers v_counts v_size v_lightestPlaces v_lightestCount v_toldPlaces v_placeCount v_ways v_wayCount v_usable v_upTo) := hD
            refine lv_aload_n hx hb dX11_mend_106 rfl (lv_at hl 3 rfl) ?_
            refine va_get (D := G) (ci := 9) (v := .ref (q 12)) (C := RX11) (T := TX11) (N := 12) hx hb hts hinX11 hown hK.1 hP 0 rfl rfl 8 (by decide) wd5 (fun _ h9 => h9) rfl dX11_mend_107 ?_
            refine lv_lload hx hb dX11_mend_110 (lv_at hl 0 rfl) ?_
            obtain ⟨r9, hc_r9, hm⟩ := bs hm
            refine k_callij (wr := [((q 0), .inr (9, [.ref (q 1), .int v_sumCount, .ref (q 2), .int v_toldCount, .ref (q 3), .int v_rowLength, .ref (q 4), .ref (q 5), .ref (q 12), .ref (q 19), .int v_lightestCount, .ref (q 20)])), ((q 1), .inl (cs.2.2.2, 16, .inr (.inr (.inr (.inr (roA v_ro)))))), ((q 2), .inl (cs.1, 100, .inl v_told)), ((q 3), .inl (cs.1, 64, .inl v_row)), ((q 4), .inl (cs.1, 7, .inl v_asked)), ((q 5), .inr (3, [.ref (q 6), .ref (q 7), .ref (q 8), .ref (q 9), .ref (q 10), .ref (q 11), .int v_keptBytes])), ((q 6), .inl (cs.2.1, 64, .inr (.inl v_rising))), ((q 7), .inl (cs.2.1, 64, .inr (.inl v_falling))), ((q 8), .inl (cs.1, 8, .inl v_turned)), ((q 9), .inl (cs.2.1, 64, .inr (.inl v_totals))), ((q 10), .inl (cs.1, 8, .inl v_before)), ((q 11), .inl (cs.1, 8, .inl v_after)), ((q 19), .inl (cs.1, 4, .inl v_lightestPlaces)), ((q 20), .inr (0, [.ref (q 21), .int v_placeCount, .ref (q 22), .int v_wayCount, .ref (q 23), .ref (q 24)])), ((q 21), .inl (cs.1, 16, .inl v_toldPlaces)), ((q 22), .inl (cs.1, 64, .inl v_ways)), ((q 23), .inl (cs.1, 16, .inl v_usable)), ((q 24), .inl (cs.2.1, 16, .inr (.inl v_upTo)))]) (w2 := (ww_C q cs v_ro v_sumCount v_told v_toldCount v_row v_rowLength v_asked v_rising v_falling v_turned v_totals v_before v_after v_keptBytes r8.1 r8.2 v_firstEntry v_nextEntry v_numbers v_counts v_size v_lightestPlaces v_lightestCount v_toldPlaces v_placeCount v_ways v_wayCount v_usable v_upTo)) (va_runV (As := [.long (r6 ^^^ x2)]) (rest := []) ⟨hx, hb, hml, hown, hts⟩ (c_X3_firstPlaceOf l G cs (fun i => q (i + 12)) H.size r8.1 r8.2 v_firstEntry v_nextEntry v_numbers v_counts v_size   (r6 ^^^ x2) n r9 hc_r9) (cwV 1 hts gX11_mend_X3_firstPlaceOf rfl rfl rfl ⟨rfl, hd_X3_firstPlaceOf⟩ ⟨Nat.le_of_ble_eq_true rfl, Nat.le_of_ble_eq_true rfl⟩) ⟨pre_blind, va_recv hK.1 hP (ci := 2) (q0 := 12) rfl rfl, pre_w hK RO.nil (P_by hP [12, 13, 14, 15, 16, 17, 18] rfl) (hD.sub [12, 13, 14, 15, 16, 17, 18] (by decide) rfl) (va_free hD hS hA [12, 13, 14, 15, 16, 17, 18] rfl)⟩ rfl rfl hl.1 rfl (lv_room (Nat.le_of_ble_eq_true rfl)) dX11_mend_112 ⟨Nat.zero_le _, Nat.zero_le _⟩) hP hD hS hA [12, 13, 14, 15, 16, 17, 18] [0, 1, 2, 3, 4, 5, 6, 7, 8, 9, 10, 11, 19, 20, 21, 22, 23, 24] [0, 1, 2, 3, 4, 5, 6, 7, 8, 9, 10, 11, 18, 19, 20, 21, 22, 23, 24, 12, 13, 14, 15, 16, 17] rfl rfl (by decide) (by decide) rfl (by decide) (fun hE10 H locs hP hD hS => ?_)
            have hP : va_P G vwCl (ww_C q cs v_ro v_sumCount v_told v_toldCount v_row v_rowLength v_asked v_rising v_falling v_turned v_totals v_before v_after v_keptBytes r8.1 r8.2 v_firstEntry v_nextEntry v_numbers v_counts v_size v_lightestPlaces v_lightestCount v_toldPlaces v_placeCount v_ways v_wayCount v_usable v_upTo) H := hP
            have hD : va_D A (ww_C q cs v_ro v_sumCount v_told v_toldCount v_row v_rowLength v_asked v_rising v_falling v_turned v_totals v_before v_after v_keptBytes r8.1 r8.2 v_firstEntry v_nextEntry v_numbers v_counts v_size v_lightestPlaces v_lightestCount v_toldPlaces v_placeCount v_ways v_wayCount v_usable v_upTo) := hD
            refine lv_istore (lv' := [(8, .int r9), (6, .long (r6 ^^^ x2)), (5, .ref y1.1), (4, .ref y1.1), (0, .ref (q 0)), (1, .int x1), (2, .long x2)]) hx hb dX11_mend_115 hl (by decide) rfl (fun ls hl => ?_)
            refine lv_iload hx hb dX11_mend_117 (lv_at hl 0 rfl) ?_
            refine lv_iconst (v := (-1)) hx hb dX11_mend_119 (by decide) ?_
            refine lv_icmp_eq (tgt := 146) hx hb dX11_mend_120 (by decide) (fun b11 => ?_) (fun b11 => ?_)
            · have hm := i_t b11 hm
              refine lv_lload hx hb dX11_mend_146 (lv_at hl 1 rfl) ?_
              refine k_calli0 (va_runS (As := [.long (r6 ^^^ x2)]) (rest := []) ⟨hx, hb, hml, hown, hts⟩ (c_J13_bitCount_95d88 l G cs H.size    (r6 ^^^ x2) _ rfl) (va_cwS 1 hts gX11_mend_J13_bitCount_95d88 rfl rfl rfl hd_J13_bitCount_95d88 ⟨Nat.le_of_ble_eq_true rfl, Nat.le_of_ble_eq_true rfl⟩) ⟨pre_blind, pre_w hK RO.nil P0 D0 (va_new0 hS hA)⟩ rfl rfl hl.1 rfl (lv_room (Nat.le_of_ble_eq_true rfl)) dX11_mend_148 ⟨Nat.zero_le _, Nat.zero_le _⟩) hP hS hA (fun hE12 H locs hP hS => ?_)
              refine lv_iconst (v := 1) hx hb dX11_mend_151 (by decide) ?_
              refine lv_icmp_ne (tgt := 167) hx hb dX11_mend_152 (by decide) (fun b13 => ?_) (fun b13 => ?_)
              · have hm := i_f b13 hm
                refine lv_iconst (v := (-1)) hx hb dX11_mend_167 (by decide) ?_
                have hq := Option.some.inj hm
                subst hq; subst hQ
                exact k_iret hx hb hr hlocks hP hD hS rfl trivial dX11_mend_168
              · have hm := i_t b13 hm
                refine lv_sipush (v := 1000) hx hb dX11_mend_155 (by decide) ?_
                refine lv_lload hx hb dX11_mend_158 (lv_at hl 1 rfl) ?_
                refine k_calli0 (va_runS (As := [.long (r6 ^^^ x2)]) (rest := [.int 1000]) ⟨hx, hb, hml, hown, hts⟩ (c_J13_numberOfTrailingZeros_95d88 l G cs H.size    (r6 ^^^ x2) _ rfl) (va_cwS 1 hts gX11_mend_J13_numberOfTrailingZeros_95d88 rfl rfl rfl hd_J13_numberOfTrailingZeros_95d88 ⟨Nat.le_of_ble_eq_true rfl, Nat.le_of_ble_eq_true rfl⟩) ⟨pre_blind, pre_w hK RO.nil P0 D0 (va_new0 hS hA)⟩ rfl rfl hl.1 rfl (lv_room (Nat.le_of_ble_eq_true rfl)) dX11_mend_160 ⟨Nat.zero_le _, Nat.zero_le _⟩) hP hS hA (fun hE14 H locs hP hS => ?_)
                refine lv_iadd hx hb dX11_mend_163 ?_
                refine lv_goto (tgt := 168) hx hb dX11_mend_164 (by decide) ?_
                have hq := Option.some.inj hm
                subst hq; subst hQ
                exact k_iret hx hb hr hlocks hP hD hS rfl trivial dX11_mend_168
            · have hm := i_f b11 hm
              refine lv_aload_n hx hb dX11_mend_123 rfl (lv_at hl 4 rfl) ?_
              refine va_get (D := G) (ci := 9) (v := .ref (q 3)) (C := RX11) (T := TX11) (N := 12) hx hb hts hinX11 hown hK.1 hP 0 rfl rfl 4 (by decide) wd3 (fun _ h9 => h9) rfl dX11_mend_124 ?_
              refine lv_iload hx hb dX11_mend_127 (lv_at hl 0 rfl) ?_
              refine k_calli0 (va_runS (As := [.int r9]) (rest := [.ref (q 3)]) ⟨hx, hb, hml, hown, hts⟩ (c_X11_byteOfPlace l G cs H.size    r9 _ rfl) (va_cwS 1 hts gX11_mend_X11_byteOfPlace rfl rfl rfl hd_X11_byteOfPlace ⟨Nat.le_of_ble_eq_true rfl, Nat.le_of_ble_eq_true rfl⟩) ⟨pre_blind, pre_w hK RO.nil P0 D0 (va_new0 hS hA)⟩ rfl rfl hl.1 rfl (lv_room (Nat.le_of_ble_eq_true rfl)) dX11_mend_129 ⟨Nat.zero_le _, Nat.zero_le _⟩) hP hS hA (fun hE15 H locs hP hS => ?_)
              refine lv_dup2_11 hx hb dX11_mend_132 rfl rfl ?_
              obtain ⟨h16, hm⟩ := g_in hm
              refine va_iald hx hb hK.1 hP 3 0 rfl rfl h16 dX11_mend_133 ?_
              refine lv_iload hx hb dX11_mend_134 (lv_at hl 0 rfl) ?_
              refine k_calli0 (va_runS (As := [.int r9]) (rest := [.int (v_row (M_X11_byteOfPlace r9).toNatClampNeg), .int (M_X11_byteOfPlace r9), .ref (q 3)]) ⟨hx, hb, hml, hown, hts⟩ (c_X11_bitOfPlace l G cs H.size    r9 _ rfl) (va_cwS 1 hts gX11_mend_X11_bitOfPlace rfl rfl rfl hd_X11_bitOfPlace ⟨Nat.le_of_ble_eq_true rfl, Nat.le_of_ble_eq_true rfl⟩) ⟨pre_blind, pre_w hK RO.nil P0 D0 (va_new0 hS hA)⟩ rfl rfl hl.1 rfl (lv_room (Nat.le_of_ble_eq_true rfl)) dX11_mend_136 ⟨Nat.zero_le _, Nat.zero_le _⟩) hP hS hA (fun hE17 H locs hP hS => ?_)
              refine lv_ixor hx hb dX11_mend_139 ?_
              obtain ⟨h18, hm⟩ := g_in hm
              refine va_iast hx hb hK.1 hP hD hS 3 0 rfl rfl h18 dX11_mend_140 (fun H locs hP hD hS => ?_)
              have hP : va_P G vwCl (ww_C q cs v_ro v_sumCount v_told v_toldCount (upd v_row (M_X11_byteOfPlace r9).toNatClampNeg ((v_row (M_X11_byteOfPlace r9).toNatClampNeg) ^^^ (M_X11_bitOfPlace r9))) v_rowLength v_asked v_rising v_falling v_turned v_totals v_before v_after v_keptBytes r8.1 r8.2 v_firstEntry v_nextEntry v_numbers v_counts v_size v_lightestPlaces v_lightestCount v_toldPlaces v_placeCount v_ways v_wayCount v_usable v_upTo) H := hP
              have hD : va_D A (ww_C q cs v_ro v_sumCount v_told v_toldCount (upd v_row (M_X11_byteOfPlace r9).toNatClampNeg ((v_row (M_X11_byteOfPlace r9).toNatClampNeg) ^^^ (M_X11_bitOfPlace r9))) v_rowLength v_asked v_rising v_falling v_turned v_totals v_before v_after v_keptBytes r8.1 r8.2 v_firstEntry v_nextEntry v_numbers v_counts v_size v_lightestPlaces v_lightestCount v_toldPlaces v_placeCount v_ways v_wayCount v_usable v_upTo) := hD
              refine lv_iconst (v := 1) hx hb dX11_mend_141 (by decide) ?_
              refine lv_iload hx hb dX11_mend_142 (lv_at hl 0 rfl) ?_
              refine lv_iadd hx hb dX11_mend_144 ?_
              have hq := Option.some.inj hm
              subst hq; subst hQ
              exact k_iret hx hb hr hlocks hP hD hS rfl trivial dX11_mend_145
          · have b7 := (lg_cmp_eq _ _).mp b7
            have hm := i_t b7 hm
            refine lv_iconst (v := 0) hx hb dX11_mend_78 (by decide) ?_
            have hq := Option.some.inj hm
            subst hq; subst hQ
            exact k_iret hx hb hr hlocks hP hD hS rfl trivial dX11_mend_79
        · have hm := i_t b5 hm
          refine lv_bipush (v := (-3)) hx hb dX11_mend_51 (by decide) ?_
          have hq := Option.some.inj hm
          subst hq; subst hQ
          exact k_iret hx hb hr hlocks hP hD hS rfl trivial dX11_mend_53
      · have hm := i_f b3 hm
        refine lv_bipush (v := (-4)) hx hb dX11_mend_39 (by decide) ?_
        have hq := Option.some.inj hm
        subst hq; subst hQ
        exact k_iret hx hb hr hlocks hP hD hS rfl trivial dX11_mend_41
    · have hm := i_f b2 hm
      have b2n := not_D hv1 b2
      refine instn_D (own := RX11) hx hb hown wd1 hK (RO.at hS hRo j1 _ hj1).1 b2n dX11_mend_17 ?_
      refine lv_if_eq (tgt := 39) hx hb dX11_mend_20 (by decide) (fun b9 => ?_) (fun b9 => absurd (by decide) b9)
      refine lv_bipush (v := (-4)) hx hb dX11_mend_39 (by decide) ?_
      have hq := Option.some.inj hm
      subst hq; subst hQ
      exact k_iret hx hb hr hlocks hP hD hS rfl trivial dX11_mend_41

theorem hd_X11_reach : yX11_reach.cls ≠ "java/lang/invoke/MethodHandle" ∧ yX11_reach.cls ≠ "java/lang/invoke/VarHandle" ∧ (parseMethodDescriptor yX11_reach.desc).map (fun d => d.parameters.length) = some 1 := by decide +kernel

def M_X11_reach (n : Nat) (x1 : Int32) (v_ro : RF) (v_sumCount : Int32) (v_syndromes : (Nat → Int64)) (v_places : Int32) (v_firstEntry : (Nat → Int32)) (v_nextEntry : (Nat → Int32)) (v_numbers : (Nat → Int64)) (v_counts : (Nat → Int32)) (v_size : Int32) : Option (Int32 × (Nat → Int64) × Int32 × (Nat → Int32) × (Nat → Int32) × (Nat → Int64) × (Nat → Int32) × Int32) :=
  (M_X11_sumAt x1 v_ro v_sumCount).bind fun r1 => Option.elim r1 (some ((-2), v_syndromes, v_places, v_firstEntry, v_nextEntry, v_numbers, v_counts, v_size)) (fun y1 => if y1.2.2.1 = 8 ∨ y1.2.2.1 = 7 ∨ y1.2.2.1 = 6 ∨ y1.2.2.1 = 1 ∨ y1.2.2.1 = 4 then (if y1.2.2.1 = 1 then (if y1.2.2.2.1 = 5 then ((M_X3_findReach n y1.2.2.2.2.1 y1.2.2.2.2.2.2.1 v_syndromes v_places v_firstEntry v_nextEntry v_numbers v_counts v_size).bind fun r4 => some (r4.1, r4.2.1, r4.2.2.1, r4.2.2.2.1, r4.2.2.2.2.1, r4.2.2.2.2.2.1, r4.2.2.2.2.2.2.1, r4.2.2.2.2.2.2.2)) else (some ((-4), v_syndromes, v_places, v_firstEntry, v_nextEntry, v_numbers, v_counts, v_size))) else (some ((-4), v_syndromes, v_places, v_firstEntry, v_nextEntry, v_numbers, v_counts, v_size))) else none)

abbrev rmX11_reach : Room := { frames := 4, cells := 0, slots := 0, locals := 101 }
set_option maxHeartbeats 4000000 in
set_option maxRecDepth 100000 in
theorem c_X11_reach (l : Launch) (G : va_G) (cs : CS) (q : Nat → Nat) (sz : Nat) (v_ro : RF) (v_sumCount : Int32) (v_told : (Nat → Int32)) (v_toldCount : Int32) (v_row : (Nat → Int32)) (v_rowLength : Int32) (v_asked : (Nat → Int32)) (v_rising : (Nat → Int64)) (v_falling : (Nat → Int64)) (v_turned : (Nat → Int32)) (v_totals : (Nat → Int64)) (v_before : (Nat → Int32)) (v_after : (Nat → Int32)) (v_keptBytes : Int32) (v_syndromes : (Nat → Int64)) (v_places : Int32) (v_firstEntry : (Nat → Int32)) (v_nextEntry : (Nat → Int32)) (v_numbers : (Nat → Int64)) (v_counts : (Nat → Int32)) (v_size : Int32) (v_lightestPlaces : (Nat → Int32)) (v_lightestCount : Int32) (v_toldPlaces : (Nat → Int32)) (v_placeCount : Int32) (v_ways : (Nat → Int32)) (v_wayCount : Int32) (v_usable : (Nat → Int32)) (v_upTo : (Nat → Int64))   (x1 : Int32) (n : Nat) (res : (Int32 × (Nat → Int64) × Int32 × (Nat → Int32) × (Nat → Int32) × (Nat → Int64) × (Nat → Int32) × Int32)) (hm : M_X11_reach n x1 v_ro v_sumCount v_syndromes v_places v_firstEntry v_nextEntry v_numbers v_counts v_size = some res) : Met l yX11_reach wsX11_reach rmX11_reach (va_Pc [.ref (q 0), .int x1] (PreW G cs sz (ww_C q cs v_ro v_sumCount v_told v_toldCount v_row v_rowLength v_asked v_rising v_falling v_turned v_totals v_before v_after v_keptBytes v_syndromes v_places v_firstEntry v_nextEntry v_numbers v_counts v_size v_lightestPlaces v_lightestCount v_toldPlaces v_placeCount v_ways v_wayCount v_usable v_upTo) v_ro)) (QI G res.1 True (ww_C q cs v_ro v_sumCount v_told v_toldCount v_row v_rowLength v_asked v_rising v_falling v_turned v_totals v_before v_after v_keptBytes res.2.1 res.2.2.1 res.2.2.2.1 res.2.2.2.2.1 res.2.2.2.2.2.1 res.2.2.2.2.2.2.1 res.2.2.2.2.2.2.2 v_lightestPlaces v_lightestCount v_toldPlaces v_placeCount v_ways v_wayCount v_usable v_upTo) (va_A (ww_C q cs v_ro v_sumCount v_told v_toldCount v_row v_rowLength v_asked v_rising v_falling v_turned v_totals v_before v_after v_keptBytes v_syndromes v_places v_firstEntry v_nextEntry v_numbers v_counts v_size v_lightestPlaces v_lightestCount v_toldPlaces v_placeCount v_ways v_wayCount v_usable v_upTo) sz)) 0 0 (va_A (ww_C q cs v_ro v_sumCount v_told v_toldCount v_row v_rowLength v_asked v_rising v_falling v_turned v_totals v_before v_after v_keptBytes v_syndromes v_places v_firstEntry v_nextEntry v_numbers v_counts v_size v_lightestPlaces v_lightestCount v_toldPlaces v_placeCount v_ways v_wayCount v_usable v_upTo) sz) := by
  refine k_enter (Qf := fun A => QI G res.1 True (ww_C q cs v_ro v_sumCount v_told v_toldCount v_row v_rowLength v_asked v_rising v_falling v_turned v_totals v_before v_after v_keptBytes res.2.1 res.2.2.1 res.2.2.2.1 res.2.2.2.2.1 res.2.2.2.2.2.1 res.2.2.2.2.2.2.1 res.2.2.2.2.2.2.2 v_lightestPlaces v_lightestCount v_toldPlaces v_placeCount v_ways v_wayCount v_usable v_upTo) A) (cc := cX11_reach) (maxL := 4) (ret := (some .int)) (plainFor_of_name (by decide)) rfl (Nat.le_of_ble_eq_true rfl) ?_
  intro p e s m args below meth c A Q ls H locs hx hb hr hml hown hts hlocks hname hK hA hRo hP hD hS hQ hl
  have hl : lv_has ls 4 [(0, .ref (q 0)), (1, .int x1)] := hl
  have wd1 := hts (.classLink RX11 107 "SumSmith$Divided") (List.mem_of_getElem? (i := 1) rfl)
  have wd2 := hts (.fieldLink RX11 124 "SumSmith$Sum" "kind" "I") (List.mem_of_getElem? (i := 2) rfl)
  have wd3 := hts (.fieldLink RX11 45 "SumSmith" "sets" "LSumSmith$PlaceSets;") (List.mem_of_getElem? (i := 3) rfl)
  have wd4 := hts (.fieldLink RX11 203 "SumSmith$Divided" "width" "I") (List.mem_of_getElem? (i := 4) rfl)
  have wd5 := hts (.fieldLink RX11 206 "SumSmith$Divided" "polynomial" "J") (List.mem_of_getElem? (i := 5) rfl)
  have hinX1 : ∀ w ∈ wsX10, w ∈ wsX11_reach := fun w h => List.mem_cons_of_mem _ (List.mem_append_left _ (List.mem_append_left _ (List.mem_append_left _ (List.mem_append_left _ (List.mem_append_left _ (List.mem_append_left _ (List.mem_append_left _ (List.mem_append_right _ h))))))))
  have hinX5 : ∀ w ∈ wsX50, w ∈ wsX11_reach := fun w h => List.mem_cons_of_mem _ (List.mem_append_left _ (List.mem_append_left _ (List.mem_append_left _ (List.mem_append_left _ (List.mem_append_left _ (List.mem_append_left _ (List.mem_append_right _ h)))))))
  have hinX8 : ∀ w ∈ wsX80, w ∈ wsX11_reach := fun w h => List.mem_cons_of_mem _ (List.mem_append_left _ (List.mem_append_left _ (List.mem_append_left _ (List.mem_append_left _ (List.mem_append_left _ (List.mem_append_right _ h))))))
  have hinX9 : ∀ w ∈ wsX90, w ∈ wsX11_reach := fun w h => List.mem_cons_of_mem _ (List.mem_append_left _ (List.mem_append_left _ (List.mem_append_left _ (List.mem_append_left _ (List.mem_append_right _ h)))))
  have hinX10 : ∀ w ∈ wsX100, w ∈ wsX11_reach := fun w h => List.mem_cons_of_mem _ (List.mem_append_left _ (List.mem_append_left _ (List.mem_append_left _ (List.mem_append_right _ h))))
  have hinX11 : ∀ w ∈ wsX110, w ∈ wsX11_reach := fun w h => List.mem_cons_of_mem _ (List.mem_append_left _ (List.mem_append_left _ (List.mem_append_right _ h)))
  unfold M_X11_reach at hm
  refine lv_aload_n hx hb dX11_reach_0 rfl (lv_at hl 0 rfl) ?_
  refine lv_iload_n hx hb dX11_reach_1 rfl (lv_at hl 1 rfl) ?_
  obtain ⟨r1, hc_r1, hm⟩ := bs hm
  refine k_callq (va_runV (As := [.int x1]) (rest := []) ⟨hx, hb, hml, hown, hts⟩ (c_X11_sumAt l G cs q H.size v_ro v_sumCount v_told v_toldCount v_row v_rowLength v_asked v_rising v_falling v_turned v_totals v_before v_after v_keptBytes v_syndromes v_places v_firstEntry v_nextEntry v_numbers v_counts v_size v_lightestPlaces v_lightestCount v_toldPlaces v_placeCount v_ways v_wayCount v_usable v_upTo x1 r1 hc_r1) (cwV 1 hts gX11_reach_X11_sumAt rfl rfl rfl ⟨rfl, hd_X11_sumAt⟩ ⟨Nat.le_of_ble_eq_true rfl, Nat.le_of_ble_eq_true rfl⟩) ⟨pre_blind, va_recv hK.1 hP (ci := 9) (q0 := 0) rfl rfl, pre_w hK (RO.at hS hRo) hP hD (va_all hD hS hA)⟩ rfl rfl hl.1 rfl (lv_room (Nat.le_of_ble_eq_true rfl)) dX11_reach_2 ⟨Nat.zero_le _, Nat.zero_le _⟩) hS (va_all hD hS hA) (fun H locs hP hD hS => ?_)
  have hP : va_P G vwCl (ww_C q cs v_ro v_sumCount v_told v_toldCount v_row v_rowLength v_asked v_rising v_falling v_turned v_totals v_before v_after v_keptBytes v_syndromes v_places v_firstEntry v_nextEntry v_numbers v_counts v_size v_lightestPlaces v_lightestCount v_toldPlaces v_placeCount v_ways v_wayCount v_usable v_upTo) H := hP
  have hD : va_D A (ww_C q cs v_ro v_sumCount v_told v_toldCount v_row v_rowLength v_asked v_rising v_falling v_turned v_totals v_before v_after v_keptBytes v_syndromes v_places v_firstEntry v_nextEntry v_numbers v_counts v_size v_lightestPlaces v_lightestCount v_toldPlaces v_placeCount v_ways v_wayCount v_usable v_upTo) := hD
  cases r1 with
  | none =>
    have hm := oe_n hm
    refine lv_astore_nN (lv' := [(2, .null), (0, .ref (q 0)), (1, .int x1)]) hx hb dX11_reach_5 rfl hl (by decide) rfl (fun ls hl => ?_)
    refine lv_aload_nN hx hb dX11_reach_6 rfl (lv_at hl 0 rfl) ?_
    refine lv_ifnonnullN hx hb dX11_reach_7 ?_
    refine lv_bipush (v := (-2)) hx hb dX11_reach_10 (by decide) ?_
    have hq := Option.some.inj hm
    subst hq; subst hQ
    exact k_iret hx hb hr hlocks hP hD hS rfl trivial dX11_reach_12
  | some y1 =>
    have hm := oe_s hm
    obtain ⟨j1, hj1⟩ := sumAt_ro hc_r1
    obtain ⟨hv1, hm⟩ := g_pos hm
    refine lv_astore_n (lv' := [(2, .ref y1.1), (0, .ref (q 0)), (1, .int x1)]) hx hb dX11_reach_5 rfl hl (by decide) rfl (fun ls hl => ?_)
    refine lv_aload_n hx hb dX11_reach_6 rfl (lv_at hl 0 rfl) ?_
    refine lv_ifnonnull (tgt := 13) hx hb dX11_reach_7 (by decide) ?_
    refine lv_aload_n hx hb dX11_reach_13 rfl (lv_at hl 0 rfl) ?_
    by_cases b2 : y1.2.2.1 = 1
    · have hm := i_t b2 hm
      refine inst_D (own := RX11) hx hb hown wd1 hK (RO.at hS hRo j1 _ hj1).1 b2 dX11_reach_14 ?_
      refine lv_if_eq (tgt := 33) hx hb dX11_reach_17 (by decide) (fun b9 => absurd b9 (by decide)) (fun b9 => ?_)
      refine lv_aload_n hx hb dX11_reach_20 rfl (lv_at hl 0 rfl) ?_
      refine cast_D (own := RX11) hx hb hown wd1 hK (RO.at hS hRo j1 _ hj1).1 b2 dX11_reach_21 ?_
      refine lv_astore_n (lv' := [(3, .ref y1.1), (2, .ref y1.1), (0, .ref (q 0)), (1, .int x1)]) hx hb dX11_reach_24 rfl hl (by decide) rfl (fun ls hl => ?_)
      refine lv_aload_n hx hb dX11_reach_25 rfl (lv_at hl 1 rfl) ?_
      refine get_kind (own := RX11) hx hb hts hinX1 hinX5 hinX8 hinX9 hinX10 hown hK (RO.at hS hRo j1 _ hj1).1 hv1 wd2 dX11_reach_26 ?_
      refine lv_iconst (v := 5) hx hb dX11_reach_29 (by decide) ?_
      refine lv_icmp_eq (tgt := 36) hx hb dX11_reach_30 (by decide) (fun b3 => ?_) (fun b3 => ?_)
      · have hm := i_t b3 hm
        refine lv_aload_n hx hb dX11_reach_36 rfl (lv_at hl 2 rfl) ?_
        refine va_get (D := G) (ci := 9) (v := .ref (q 12)) (C := RX11) (T := TX11) (N := 12) hx hb hts hinX11 hown hK.1 hP 0 rfl rfl 8 (by decide) wd3 (fun _ h9 => h9) rfl dX11_reach_37 ?_
        refine lv_aload_n hx hb dX11_reach_40 rfl (lv_at hl 0 rfl) ?_
        refine va_get (D := G) (ci := 1) (v := .int y1.2.2.2.2.1) (C := RX1) (T := TX1) (N := 6) hx hb hts hinX1 hown hK.1 (divF (RO.at hS hRo j1 _ hj1).1 b2) 0 rfl rfl 1 (by decide) wd4 (fun _ h9 => h9) rfl dX11_reach_41 ?_
        refine lv_aload_n hx hb dX11_reach_44 rfl (lv_at hl 0 rfl) ?_
        refine va_get (D := G) (ci := 1) (v := .long y1.2.2.2.2.2.2.1) (C := RX1) (T := TX1) (N := 6) hx hb hts hinX1 hown hK.1 (divF (RO.at hS hRo j1 _ hj1).1 b2) 0 rfl rfl 2 (by decide) wd5 (fun _ h9 => h9) rfl dX11_reach_45 ?_
        obtain ⟨r4, hc_r4, hm⟩ := bs hm
        refine k_callij (wr := [((q 0), .inr (9, [.ref (q 1), .int v_sumCount, .ref (q 2), .int v_toldCount, .ref (q 3), .int v_rowLength, .ref (q 4), .ref (q 5), .ref (q 12), .ref (q 19), .int v_lightestCount, .ref (q 20)])), ((q 1), .inl (cs.2.2.2, 16, .inr (.inr (.inr (.inr (roA v_ro)))))), ((q 2), .inl (cs.1, 100, .inl v_told)), ((q 3), .inl (cs.1, 64, .inl v_row)), ((q 4), .inl (cs.1, 7, .inl v_asked)), ((q 5), .inr (3, [.ref (q 6), .ref (q 7), .ref (q 8), .ref (q 9), .ref (q 10), .ref (q 11), .int v_keptBytes])), ((q 6), .inl (cs.2.1, 64, .inr (.inl v_rising))), ((q 7), .inl (cs.2.1, 64, .inr (.inl v_falling))), ((q 8), .inl (cs.1, 8, .inl v_turned)), ((q 9), .inl (cs.2.1, 64, .inr (.inl v_totals))), ((q 10), .inl (cs.1, 8, .inl v_before)), ((q 11), .inl (cs.1, 8, .inl v_after)), ((q 19), .inl (cs.1, 4, .inl v_lightestPlaces)), ((q 20), .inr (0, [.ref (q 21), .int v_placeCount, .ref (q 22), .int v_wayCount, .ref (q 23), .ref (q 24)])), ((q 21), .inl (cs.1, 16, .inl v_toldPlaces)), ((q 22), .inl (cs.1, 64, .inl v_ways)), ((q 23), .inl (cs.1, 16, .inl v_usable)), ((q 24), .inl (cs.2.1, 16, .inr (.inl v_upTo)))]) (w2 := (ww_C q cs v_ro v_sumCount v_told v_toldCount v_row v_rowLength v_asked v_rising v_falling v_turned v_totals v_before v_after v_keptBytes r4.2.1 r4.2.2.1 r4.2.2.2.1 r4.2.2.2.2.1 r4.2.2.2.2.2.1 r4.2.2.2.2.2.2.1 r4.2.2.2.2.2.2.2 v_lightestPlaces v_lightestCount v_toldPlaces v_placeCount v_ways v_wayCount v_usable v_upTo)) (va_runV (As := [.int y1.2.2.2.2.1, .long y1.2.2.2.2.2.2.1]) (rest := []) ⟨hx, hb, hml, hown, hts⟩ (c_X3_findReach l G cs (fun i => q (i + 12)) H.size v_syndromes v_places v_firstEntry v_nextEntry v_numbers v_counts v_size   y1.2.2.2.2.1 y1.2.2.2.2.2.2.1 n r4 hc_r4) (cwV 2 hts gX11_reach_X3_findReach rfl rfl rfl ⟨rfl, hd_X3_findReach⟩ ⟨Nat.le_of_ble_eq_true rfl, Nat.le_of_ble_eq_true rfl⟩) ⟨pre_blind, va_recv hK.1 hP (ci := 2) (q0 := 12) rfl rfl, pre_w hK RO.nil (P_by hP [12, 13, 14, 15, 16, 17, 18] rfl) (hD.sub [12, 13, 14, 15, 16, 17, 18] (by decide) rfl) (va_free hD hS hA [12, 13, 14, 15, 16, 17, 18] rfl)⟩ rfl rfl hl.1 rfl (lv_room (Nat.le_of_ble_eq_true rfl)) dX11_reach_48 ⟨Nat.zero_le _, Nat.zero_le _⟩) hP hD hS hA [12, 13, 14, 15, 16, 17, 18] [0, 1, 2, 3, 4, 5, 6, 7, 8, 9, 10, 11, 19, 20, 21, 22, 23, 24] [0, 1, 2, 3, 4, 5, 6, 7, 8, 9, 10, 11, 18, 19, 20, 21, 22, 23, 24, 12, 13, 14, 15, 16, 17] rfl rfl (by decide) (by decide) rfl (by decide) (fun hE5 H locs hP hD hS => ?_)
        have hP : va_P G vwCl (ww_C q cs v_ro v_sumCount v_told v_toldCount v_row v_rowLength v_asked v_rising v_falling v_turned v_totals v_before v_after v_keptBytes r4.2.1 r4.2.2.1 r4.2.2.2.1 r4.2.2.2.2.1 r4.2.2.2.2.2.1 r4.2.2.2.2.2.2.1 r4.2.2.2.2.2.2.2 v_lightestPlaces v_lightestCount v_toldPlaces v_placeCount v_ways v_wayCount v_usable v_upTo) H := hP
        have hD : va_D A (ww_C q cs v_ro v_sumCount v_told v_toldCount v_row v_rowLength v_asked v_rising v_falling v_turned v_totals v_before v_after v_keptBytes r4.2.1 r4.2.2.1 r4.2.2.2.1 r4.2.2.2.2.1 r4.2.2.2.2.2.1 r4.2.2.2.2.2.2.1 r4.2.2.2.2.2.2.2 v_lightestPlaces v_lightestCount v_toldPlaces v_placeCount v_ways v_wayCount v_usable v_upTo) := hD
        have hq := Option.some.inj hm
        subst hq; subst hQ
        exact k_iret hx hb hr hlocks hP hD hS rfl trivial dX11_reach_51
      · have hm := i_f b3 hm
        refine lv_bipush (v := (-4)) hx hb dX11_reach_33 (by decide) ?_
        have hq := Option.some.inj hm
        subst hq; subst hQ
        exact k_iret hx hb hr hlocks hP hD hS rfl trivial dX11_reach_35
    · have hm := i_f b2 hm
      have b2n := not_D hv1 b2
      refine instn_D (own := RX11) hx hb hown wd1 hK (RO.at hS hRo j1 _ hj1).1 b2n dX11_reach_14 ?_
      refine lv_if_eq (tgt := 33) hx hb dX11_reach_17 (by decide) (fun b9 => ?_) (fun b9 => absurd (by decide) b9)
      refine lv_bipush (v := (-4)) hx hb dX11_reach_33 (by decide) ?_
      have hq := Option.some.inj hm
      subst hq; subst hQ
      exact k_iret hx hb hr hlocks hP hD hS rfl trivial dX11_reach_35

theorem hd_X11_trace : yX11_trace.cls ≠ "java/lang/invoke/MethodHandle" ∧ yX11_trace.cls ≠ "java/lang/invoke/VarHandle" ∧ (parseMethodDescriptor yX11_trace.desc).map (fun d => d.parameters.length) = some 1 := by decide +kernel

def M_X11_trace (x1 : Int32) (v_asked : (Nat → Int32)) : Option Int32 :=
  if (M_X11_within x1 (0 : Int32) (6 : Int32)) = 0 then (some (-3)) else (if x1 < 0 ∨ 7 ≤ x1.toNatClampNeg then none else some (v_asked x1.toNatClampNeg))

abbrev rmX11_trace : Room := { frames := 1, cells := 0, slots := 0, locals := 22 }
set_option maxHeartbeats 4000000 in
set_option maxRecDepth 100000 in
theorem c_X11_trace (l : Launch) (G : va_G) (cs : CS) (q : Nat → Nat) (sz : Nat) (v_ro : RF) (v_sumCount : Int32) (v_told : (Nat → Int32)) (v_toldCount : Int32) (v_row : (Nat → Int32)) (v_rowLength : Int32) (v_asked : (Nat → Int32)) (v_rising : (Nat → Int64)) (v_falling : (Nat → Int64)) (v_turned : (Nat → Int32)) (v_totals : (Nat → Int64)) (v_before : (Nat → Int32)) (v_after : (Nat → Int32)) (v_keptBytes : Int32) (v_syndromes : (Nat → Int64)) (v_places : Int32) (v_firstEntry : (Nat → Int32)) (v_nextEntry : (Nat → Int32)) (v_numbers : (Nat → Int64)) (v_counts : (Nat → Int32)) (v_size : Int32) (v_lightestPlaces : (Nat → Int32)) (v_lightestCount : Int32) (v_toldPlaces : (Nat → Int32)) (v_placeCount : Int32) (v_ways : (Nat → Int32)) (v_wayCount : Int32) (v_usable : (Nat → Int32)) (v_upTo : (Nat → Int64))   (x1 : Int32) (res : Int32) (hm : M_X11_trace x1 v_asked = some res) : Met l yX11_trace wsX11_trace rmX11_trace (va_Pc [.ref (q 0), .int x1] (PreW G cs sz (ww_C q cs v_ro v_sumCount v_told v_toldCount v_row v_rowLength v_asked v_rising v_falling v_turned v_totals v_before v_after v_keptBytes v_syndromes v_places v_firstEntry v_nextEntry v_numbers v_counts v_size v_lightestPlaces v_lightestCount v_toldPlaces v_placeCount v_ways v_wayCount v_usable v_upTo) v_ro)) (QI G res True (ww_C q cs v_ro v_sumCount v_told v_toldCount v_row v_rowLength v_asked v_rising v_falling v_turned v_totals v_before v_after v_keptBytes v_syndromes v_places v_firstEntry v_nextEntry v_numbers v_counts v_size v_lightestPlaces v_lightestCount v_toldPlaces v_placeCount v_ways v_wayCount v_usable v_upTo) (va_A (ww_C q cs v_ro v_sumCount v_told v_toldCount v_row v_rowLength v_asked v_rising v_falling v_turned v_totals v_before v_after v_keptBytes v_syndromes v_places v_firstEntry v_nextEntry v_numbers v_counts v_size v_lightestPlaces v_lightestCount v_toldPlaces v_placeCount v_ways v_wayCount v_usable v_upTo) sz)) 0 0 (va_A (ww_C q cs v_ro v_sumCount v_told v_toldCount v_row v_rowLength v_asked v_rising v_falling v_turned v_totals v_before v_after v_keptBytes v_syndromes v_places v_firstEntry v_nextEntry v_numbers v_counts v_size v_lightestPlaces v_lightestCount v_toldPlaces v_placeCount v_ways v_wayCount v_usable v_upTo) sz) := by
  refine k_enter (Qf := fun A => QI G res True (ww_C q cs v_ro v_sumCount v_told v_toldCount v_row v_rowLength v_asked v_rising v_falling v_turned v_totals v_before v_after v_keptBytes v_syndromes v_places v_firstEntry v_nextEntry v_numbers v_counts v_size v_lightestPlaces v_lightestCount v_toldPlaces v_placeCount v_ways v_wayCount v_usable v_upTo) A) (cc := cX11_trace) (maxL := 2) (ret := (some .int)) (plainFor_of_name (by decide)) rfl (Nat.le_of_ble_eq_true rfl) ?_
  intro p e s m args below meth c A Q ls H locs hx hb hr hml hown hts hlocks hname hK hA hRo hP hD hS hQ hl
  have hl : lv_has ls 2 [(0, .ref (q 0)), (1, .int x1)] := hl
  have wd1 := hts (.fieldLink RX11 32 "SumSmith" "asked" "[I") (List.mem_of_getElem? (i := 1) rfl)
  have hinX11 : ∀ w ∈ wsX110, w ∈ wsX11_trace := fun w h => List.mem_cons_of_mem _ (List.mem_append_right _ h)
  unfold M_X11_trace at hm
  refine lv_iload_n hx hb dX11_trace_0 rfl (lv_at hl 1 rfl) ?_
  refine lv_iconst (v := 0) hx hb dX11_trace_1 (by decide) ?_
  refine lv_bipush (v := 6) hx hb dX11_trace_2 (by decide) ?_
  refine k_calli0 (va_runS (As := [.int x1, .int 0, .int 6]) (rest := []) ⟨hx, hb, hml, hown, hts⟩ (c_X11_within l G cs H.size    x1 (0 : Int32) (6 : Int32) _ rfl) (va_cwS 3 hts gX11_trace_X11_within rfl rfl rfl hd_X11_within ⟨Nat.le_of_ble_eq_true rfl, Nat.le_of_ble_eq_true rfl⟩) ⟨pre_blind, pre_w hK RO.nil P0 D0 (va_new0 hS hA)⟩ rfl rfl hl.1 rfl (lv_room (Nat.le_of_ble_eq_true rfl)) dX11_trace_4 ⟨Nat.zero_le _, Nat.zero_le _⟩) hP hS hA (fun hE1 H locs hP hS => ?_)
  refine lv_if_eq (tgt := 19) hx hb dX11_trace_7 (by decide) (fun b2 => ?_) (fun b2 => ?_)
  · have hm := i_t b2 hm
    refine lv_bipush (v := (-3)) hx hb dX11_trace_19 (by decide) ?_
    have hq := Option.some.inj hm
    subst hq; subst hQ
    exact k_iret hx hb hr hlocks hP hD hS rfl trivial dX11_trace_21
  · have hm := i_f b2 hm
    refine lv_aload_n hx hb dX11_trace_10 rfl (lv_at hl 0 rfl) ?_
    refine va_get (D := G) (ci := 9) (v := .ref (q 4)) (C := RX11) (T := TX11) (N := 12) hx hb hts hinX11 hown hK.1 hP 0 rfl rfl 6 (by decide) wd1 (fun _ h9 => h9) rfl dX11_trace_11 ?_
    refine lv_iload_n hx hb dX11_trace_14 rfl (lv_at hl 1 rfl) ?_
    obtain ⟨h3, hm⟩ := g_in hm
    refine va_iald hx hb hK.1 hP 4 0 rfl rfl h3 dX11_trace_15 ?_
    refine lv_goto (tgt := 21) hx hb dX11_trace_16 (by decide) ?_
    have hq := Option.some.inj hm
    subst hq; subst hQ
    exact k_iret hx hb hr hlocks hP hD hS rfl trivial dX11_trace_21

theorem hd_X11_about : yX11_about.cls ≠ "java/lang/invoke/MethodHandle" ∧ yX11_about.cls ≠ "java/lang/invoke/VarHandle" ∧ (parseMethodDescriptor yX11_about.desc).map (fun d => d.parameters.length) = some 1 := by decide +kernel

def M_X11_about (x1 : Int32) (v_sumCount : Int32) (v_toldCount : Int32) (v_rowLength : Int32) (v_keptBytes : Int32) (v_placeCount : Int32) : Int32 :=
  if x1 = 0 then v_sumCount else (if x1 = 1 then v_rowLength else (if x1 = 2 then v_toldCount else (if x1 = 3 then v_placeCount else (if x1 = 4 then v_keptBytes else ((-3))))))

abbrev rmX11_about : Room := { frames := 0, cells := 0, slots := 0, locals := 0 }
set_option maxHeartbeats 4000000 in
set_option maxRecDepth 100000 in
theorem c_X11_about (l : Launch) (G : va_G) (cs : CS) (q : Nat → Nat) (sz : Nat) (v_ro : RF) (v_sumCount : Int32) (v_told : (Nat → Int32)) (v_toldCount : Int32) (v_row : (Nat → Int32)) (v_rowLength : Int32) (v_asked : (Nat → Int32)) (v_rising : (Nat → Int64)) (v_falling : (Nat → Int64)) (v_turned : (Nat → Int32)) (v_totals : (Nat → Int64)) (v_before : (Nat → Int32)) (v_after : (Nat → Int32)) (v_keptBytes : Int32) (v_syndromes : (Nat → Int64)) (v_places : Int32) (v_firstEntry : (Nat → Int32)) (v_nextEntry : (Nat → Int32)) (v_numbers : (Nat → Int64)) (v_counts : (Nat → Int32)) (v_size : Int32) (v_lightestPlaces : (Nat → Int32)) (v_lightestCount : Int32) (v_toldPlaces : (Nat → Int32)) (v_placeCount : Int32) (v_ways : (Nat → Int32)) (v_wayCount : Int32) (v_usable : (Nat → Int32)) (v_upTo : (Nat → Int64))   (x1 : Int32) (res : Int32) (hm : M_X11_about x1 v_sumCount v_toldCount v_rowLength v_keptBytes v_placeCount = res) : Met l yX11_about wsX11_about rmX11_about (va_Pc [.ref (q 0), .int x1] (PreW G cs sz (ww_C q cs v_ro v_sumCount v_told v_toldCount v_row v_rowLength v_asked v_rising v_falling v_turned v_totals v_before v_after v_keptBytes v_syndromes v_places v_firstEntry v_nextEntry v_numbers v_counts v_size v_lightestPlaces v_lightestCount v_toldPlaces v_placeCount v_ways v_wayCount v_usable v_upTo) v_ro)) (QI G res True (ww_C q cs v_ro v_sumCount v_told v_toldCount v_row v_rowLength v_asked v_rising v_falling v_turned v_totals v_before v_after v_keptBytes v_syndromes v_places v_firstEntry v_nextEntry v_numbers v_counts v_size v_lightestPlaces v_lightestCount v_toldPlaces v_placeCount v_ways v_wayCount v_usable v_upTo) (va_A (ww_C q cs v_ro v_sumCount v_told v_toldCount v_row v_rowLength v_asked v_rising v_falling v_turned v_totals v_before v_after v_keptBytes v_syndromes v_places v_firstEntry v_nextEntry v_numbers v_counts v_size v_lightestPlaces v_lightestCount v_toldPlaces v_placeCount v_ways v_wayCount v_usable v_upTo) sz)) 0 0 (va_A (ww_C q cs v_ro v_sumCount v_told v_toldCount v_row v_rowLength v_asked v_rising v_falling v_turned v_totals v_before v_after v_keptBytes v_syndromes v_places v_firstEntry v_nextEntry v_numbers v_counts v_size v_lightestPlaces v_lightestCount v_toldPlaces v_placeCount v_ways v_wayCount v_usable v_upTo) sz) := by
  refine k_enter (Qf := fun A => QI G res True (ww_C q cs v_ro v_sumCount v_told v_toldCount v_row v_rowLength v_asked v_rising v_falling v_turned v_totals v_before v_after v_keptBytes v_syndromes v_places v_firstEntry v_nextEntry v_numbers v_counts v_size v_lightestPlaces v_lightestCount v_toldPlaces v_placeCount v_ways v_wayCount v_usable v_upTo) A) (cc := cX11_about) (maxL := 2) (ret := (some .int)) (plainFor_of_name (by decide)) rfl (Nat.le_of_ble_eq_true rfl) ?_
  intro p e s m args below meth c A Q ls H locs hx hb hr hml hown hts hlocks hname hK hA hRo hP hD hS hQ hl
  have hl : lv_has ls 2 [(0, .ref (q 0)), (1, .int x1)] := hl
  have wd1 := hts (.fieldLink RX11 15 "SumSmith" "sumCount" "I") (List.mem_of_getElem? (i := 1) rfl)
  have wd2 := hts (.fieldLink RX11 29 "SumSmith" "rowLength" "I") (List.mem_of_getElem? (i := 2) rfl)
  have wd3 := hts (.fieldLink RX11 23 "SumSmith" "toldCount" "I") (List.mem_of_getElem? (i := 3) rfl)
  have wd4 := hts (.fieldLink RX11 58 "SumSmith" "aims" "LSumSmith$Aims;") (List.mem_of_getElem? (i := 4) rfl)
  have wd5 := hts (.fieldLink RX11 237 "SumSmith$Aims" "placeCount" "I") (List.mem_of_getElem? (i := 5) rfl)
  have wd6 := hts (.fieldLink RX11 38 "SumSmith" "slips" "LSumSmith$Slips;") (List.mem_of_getElem? (i := 6) rfl)
  have wd7 := hts (.fieldLink RX11 177 "SumSmith$Slips" "keptBytes" "I") (List.mem_of_getElem? (i := 7) rfl)
  have hinX11 : ∀ w ∈ wsX110, w ∈ wsX11_about := fun w h => List.mem_cons_of_mem _ (List.mem_append_left _ (List.mem_append_left _ (List.mem_append_right _ h)))
  have hinX0 : ∀ w ∈ wsX00, w ∈ wsX11_about := fun w h => List.mem_cons_of_mem _ (List.mem_append_left _ (List.mem_append_right _ h))
  have hinX4 : ∀ w ∈ wsX40, w ∈ wsX11_about := fun w h => List.mem_cons_of_mem _ (List.mem_append_right _ h)
  unfold M_X11_about at hm
  refine lv_iload_n hx hb dX11_about_0 rfl (lv_at hl 1 rfl) ?_
  by_cases b1 : x1 = 0
  · have hm := i_t b1 hm
    refine lv_tableIn (tgt := 36) hx hb dX11_about_1 (by rw [b1]; decide) (by rw [b1]; decide) (by rw [b1]; rfl) (by decide) ?_
    refine lv_aload_n hx hb dX11_about_36 rfl (lv_at hl 0 rfl) ?_
    refine va_get (D := G) (ci := 9) (v := .int v_sumCount) (C := RX11) (T := TX11) (N := 12) hx hb hts hinX11 hown hK.1 hP 0 rfl rfl 1 (by decide) wd1 (fun _ h9 => h9) rfl dX11_about_37 ?_
    have hq := hm
    subst hq; subst hQ
    exact k_iret hx hb hr hlocks hP hD hS rfl trivial dX11_about_40
  have hm := i_f b1 hm
  by_cases b2 : x1 = 1
  · have hm := i_t b2 hm
    refine lv_tableIn (tgt := 41) hx hb dX11_about_1 (by rw [b2]; decide) (by rw [b2]; decide) (by rw [b2]; rfl) (by decide) ?_
    refine lv_aload_n hx hb dX11_about_41 rfl (lv_at hl 0 rfl) ?_
    refine va_get (D := G) (ci := 9) (v := .int v_rowLength) (C := RX11) (T := TX11) (N := 12) hx hb hts hinX11 hown hK.1 hP 0 rfl rfl 5 (by decide) wd2 (fun _ h9 => h9) rfl dX11_about_42 ?_
    have hq := hm
    subst hq; subst hQ
    exact k_iret hx hb hr hlocks hP hD hS rfl trivial dX11_about_45
  have hm := i_f b2 hm
  by_cases b3 : x1 = 2
  · have hm := i_t b3 hm
    refine lv_tableIn (tgt := 46) hx hb dX11_about_1 (by rw [b3]; decide) (by rw [b3]; decide) (by rw [b3]; rfl) (by decide) ?_
    refine lv_aload_n hx hb dX11_about_46 rfl (lv_at hl 0 rfl) ?_
    refine va_get (D := G) (ci := 9) (v := .int v_toldCount) (C := RX11) (T := TX11) (N := 12) hx hb hts hinX11 hown hK.1 hP 0 rfl rfl 3 (by decide) wd3 (fun _ h9 => h9) rfl dX11_about_47 ?_
    have hq := hm
    subst hq; subst hQ
    exact k_iret hx hb hr hlocks hP hD hS rfl trivial dX11_about_50
  have hm := i_f b3 hm
  by_cases b4 : x1 = 3
  · have hm := i_t b4 hm
    refine lv_tableIn (tgt := 51) hx hb dX11_about_1 (by rw [b4]; decide) (by rw [b4]; decide) (by rw [b4]; rfl) (by decide) ?_
    refine lv_aload_n hx hb dX11_about_51 rfl (lv_at hl 0 rfl) ?_
    refine va_get (D := G) (ci := 9) (v := .ref (q 20)) (C := RX11) (T := TX11) (N := 12) hx hb hts hinX11 hown hK.1 hP 0 rfl rfl 11 (by decide) wd4 (fun _ h9 => h9) rfl dX11_about_52 ?_
    refine va_get (D := G) (ci := 0) (v := .int v_placeCount) (C := RX0) (T := TX0) (N := 6) hx hb hts hinX0 hown hK.1 hP 20 rfl rfl 1 (by decide) wd5 (fun _ h9 => h9) rfl dX11_about_55 ?_
    have hq := hm
    subst hq; subst hQ
    exact k_iret hx hb hr hlocks hP hD hS rfl trivial dX11_about_58
  have hm := i_f b4 hm
  by_cases b5 : x1 = 4
  · have hm := i_t b5 hm
    refine lv_tableIn (tgt := 59) hx hb dX11_about_1 (by rw [b5]; decide) (by rw [b5]; decide) (by rw [b5]; rfl) (by decide) ?_
    refine lv_aload_n hx hb dX11_about_59 rfl (lv_at hl 0 rfl) ?_
    refine va_get (D := G) (ci := 9) (v := .ref (q 5)) (C := RX11) (T := TX11) (N := 12) hx hb hts hinX11 hown hK.1 hP 0 rfl rfl 7 (by decide) wd6 (fun _ h9 => h9) rfl dX11_about_60 ?_
    refine va_get (D := G) (ci := 3) (v := .int v_keptBytes) (C := RX4) (T := TX4) (N := 7) hx hb hts hinX4 hown hK.1 hP 5 rfl rfl 6 (by decide) wd7 (fun _ h9 => h9) rfl dX11_about_63 ?_
    have hq := hm
    subst hq; subst hQ
    exact k_iret hx hb hr hlocks hP hD hS rfl trivial dX11_about_66
  have hm := i_f b5 hm
  have b1 : ¬ (x1).toInt = 0 := fun e9 => ne_ti b1 (e9.trans (by decide))
  have b2 : ¬ (x1).toInt = 1 := fun e9 => ne_ti b2 (e9.trans (by decide))
  have b3 : ¬ (x1).toInt = 2 := fun e9 => ne_ti b3 (e9.trans (by decide))
  have b4 : ¬ (x1).toInt = 3 := fun e9 => ne_ti b4 (e9.trans (by decide))
  have b5 : ¬ (x1).toInt = 4 := fun e9 => ne_ti b5 (e9.trans (by decide))
  refine lv_tableOut (tgt := 67) hx hb dX11_about_1 (by omega) (by decide) ?_
  refine lv_bipush (v := (-3)) hx hb dX11_about_67 (by decide) ?_
  have hq := hm
  subst hq; subst hQ
  exact k_iret hx hb hr hlocks hP hD hS rfl trivial dX11_about_69
