theorem hd_X7_forget : yX7_forget.cls ≠ "java/lang/invoke/MethodHandle" ∧ yX7_forget.cls ≠ "java/lang/invoke/VarHandle" ∧ (parseMethodDescriptor yX7_forget.desc).map (fun d => d.parameters.length) = some 0 := by decide +kernel

def M_X7_forget (n : Nat)  (v_firstEntry : (Nat → Int32)) (v_size : Int32) : Option ((Nat → Int32) × Int32) :=
  (M_J7_fill_53178 n (-1 : Int32) v_firstEntry 512).bind fun r1 => some (r1, 0)

abbrev ww_T (q : Nat → Nat) (cs : CS) (v_firstEntry : (Nat → Int32)) (v_nextEntry : (Nat → Int32)) (v_numbers : (Nat → Int64)) (v_counts : (Nat → Int32)) (v_size : Int32)   : va_W := [((q 0), .inr (5, [.ref (q 1), .ref (q 2), .ref (q 3), .ref (q 4), .int v_size])), ((q 1), .inl (cs.1, 512, .inl v_firstEntry)), ((q 2), .inl (cs.1, 1128, .inl v_nextEntry)), ((q 3), .inl (cs.2.1, 1128, .inr (.inl v_numbers))), ((q 4), .inl (cs.1, 1128, .inl v_counts))]

abbrev rmX7_forget : Room := { frames := 1, cells := 0, slots := 0, locals := 23 }
set_option maxHeartbeats 4000000 in
set_option maxRecDepth 100000 in
theorem c_X7_forget (l : Launch) (G : va_G) (cs : CS) (q : Nat → Nat) (sz : Nat) (v_firstEntry : (Nat → Int32)) (v_nextEntry : (Nat → Int32)) (v_numbers : (Nat → Int64)) (v_counts : (Nat → Int32)) (v_size : Int32)    (n : Nat) (res : ((Nat → Int32) × Int32)) (hm : M_X7_forget n v_firstEntry v_size = some res) : Met l yX7_forget wsX7_forget rmX7_forget (va_Pc [.ref (q 0)] (PreW G cs sz (ww_T q cs v_firstEntry v_nextEntry v_numbers v_counts v_size) RN)) (QV G (ww_T q cs res.1 v_nextEntry v_numbers v_counts res.2) (va_A (ww_T q cs v_firstEntry v_nextEntry v_numbers v_counts v_size) sz)) 0 0 (va_A (ww_T q cs v_firstEntry v_nextEntry v_numbers v_counts v_size) sz) := by
  refine k_enter (Qf := fun A => QV G (ww_T q cs res.1 v_nextEntry v_numbers v_counts res.2) A) (cc := cX7_forget) (maxL := 1) (ret := none) (plainFor_of_name (by decide)) rfl (Nat.le_of_ble_eq_true rfl) ?_
  intro p e s m args below meth c A Q ls H locs hx hb hr hml hown hts hlocks hname hK hA hRo hP hD hS hQ hl
  have hl : lv_has ls 1 [(0, .ref (q 0))] := hl
  have wd1 := hts (.fieldLink RX7 11 "SumSmith$Tally" "firstEntry" "[I") (List.mem_of_getElem? (i := 1) rfl)
  have wd2 := hts (.fieldLink RX7 25 "SumSmith$Tally" "size" "I") (List.mem_of_getElem? (i := 2) rfl)
  have hinX7 : ∀ w ∈ wsX70, w ∈ wsX7_forget := fun w h => List.mem_cons_of_mem _ (List.mem_append_right _ h)
  unfold M_X7_forget at hm
  refine lv_aload_n hx hb dX7_forget_0 rfl (lv_at hl 0 rfl) ?_
  refine va_get (D := G) (ci := 5) (v := .ref (q 1)) (C := RX7) (T := TX7) (N := 5) hx hb hts hinX7 hown hK.1 hP 0 rfl rfl 0 (by decide) wd1 (fun _ h9 => h9) rfl dX7_forget_1 ?_
  refine lv_iconst (v := (-1)) hx hb dX7_forget_4 (by decide) ?_
  obtain ⟨r1, hc_r1, hm⟩ := bs hm
  refine k_callvj (wr := [((q 0), .inr (5, [.ref (q 1), .ref (q 2), .ref (q 3), .ref (q 4), .int v_size])), ((q 2), .inl (cs.1, 1128, .inl v_nextEntry)), ((q 3), .inl (cs.2.1, 1128, .inr (.inl v_numbers))), ((q 4), .inl (cs.1, 1128, .inl v_counts))]) (w2 := (ww_T q cs r1 v_nextEntry v_numbers v_counts v_size)) (va_runS (As := [.ref (q 1), .int (-1)]) (rest := []) ⟨hx, hb, hml, hown, hts⟩ (c_J7_fill_53178 l G cs H.size v_firstEntry (q 1) 512 (-1 : Int32) n r1 hc_r1) (va_cwS 2 hts gX7_forget_J7_fill_53178 rfl rfl rfl hd_J7_fill_53178 ⟨Nat.le_of_ble_eq_true rfl, Nat.le_of_ble_eq_true rfl⟩) ⟨pre_blind, pre_w hK RO.nil (P_by hP [1] rfl) (hD.sub [1] (by decide) rfl) (va_free hD hS hA [1] rfl)⟩ rfl rfl hl.1 rfl (lv_room (Nat.le_of_ble_eq_true rfl)) dX7_forget_5 ⟨Nat.zero_le _, Nat.zero_le _⟩) hP hD hS hA [1] [0, 2, 3, 4] [0, 4, 1, 2, 3] rfl rfl (by decide) (by decide) rfl (by decide) (fun H locs hP hD hS => ?_)
  have hP : va_P G vwCl (ww_T q cs r1 v_nextEntry v_numbers v_counts v_size) H := hP
  have hD : va_D A (ww_T q cs r1 v_nextEntry v_numbers v_counts v_size) := hD
  refine lv_aload_n hx hb dX7_forget_8 rfl (lv_at hl 0 rfl) ?_
  refine lv_iconst (v := 0) hx hb dX7_forget_9 (by decide) ?_
  refine va_put (D := G) (ci := 5) (v := .int 0) (ty := .int) (C := RX7) (T := TX7) (N := 5) hx hb hts hinX7 tyX7 tyX7_ok nmX7 hown hK.1 hP hD hS 0 rfl rfl 4 (by decide) wd2 (fun _ h9 => h9) rfl (by decide +kernel) rfl rfl (Nat.le_of_ble_eq_true rfl) dX7_forget_10 (fun H locs hP hD hS => ?_)
  have hP : va_P G vwCl (ww_T q cs r1 v_nextEntry v_numbers v_counts 0) H := hP
  have hD : va_D A (ww_T q cs r1 v_nextEntry v_numbers v_counts 0) := hD
  have hq := Option.some.inj hm
  subst hq; subst hQ
  exact k_vret hx hb hr hlocks hP hD hS dX7_forget_13

theorem hd_X7_bucketOf : yX7_bucketOf.cls ≠ "java/lang/invoke/MethodHandle" ∧ yX7_bucketOf.cls ≠ "java/lang/invoke/VarHandle" ∧ (parseMethodDescriptor yX7_bucketOf.desc).map (fun d => d.parameters.length) = some 1 := by decide +kernel

def M_X7_bucketOf (x0 : Int64)  : Int32 :=
  ((((x0 * (-7046029254386353131)).toUInt64 >>> ((55 : Int32).toInt64.toUInt64 &&& Int64.toUInt64 63)).toInt64).toInt32)

abbrev rmX7_bucketOf : Room := { frames := 0, cells := 0, slots := 0, locals := 0 }
set_option maxHeartbeats 4000000 in
set_option maxRecDepth 100000 in
theorem c_X7_bucketOf (l : Launch) (G : va_G) (cs : CS) (sz : Nat)    (x0 : Int64) (res : Int32) (hm : M_X7_bucketOf x0 = res) : Met l yX7_bucketOf wsX7_bucketOf rmX7_bucketOf (va_Pc [.long x0] (PreW G cs sz [] RN)) (QI G res True [] (va_A [] sz)) 0 0 (va_A [] sz) := by
  refine k_enter (Qf := fun A => QI G res True [] A) (cc := cX7_bucketOf) (maxL := 2) (ret := (some .int)) (plainFor_of_name (by decide)) rfl (Nat.le_of_ble_eq_true rfl) ?_
  intro p e s m args below meth c A Q ls H locs hx hb hr hml hown hts hlocks hname hK hA hRo hP hD hS hQ hl
  have hl : lv_has ls 2 [(0, .long x0)] := hl
  have wd1 := hts (.constantLong RX7 35 (-7046029254386353131)) (List.mem_of_getElem? (i := 1) rfl)
  unfold M_X7_bucketOf at hm
  refine lv_lload_n hx hb dX7_bucketOf_0 rfl (lv_at hl 0 rfl) ?_
  refine lv_ldc2 (own := RX7) (v := (-7046029254386353131)) hx hb hown wd1 dX7_bucketOf_1 ?_
  refine lv_lmul hx hb dX7_bucketOf_4 ?_
  refine lv_bipush (v := 55) hx hb dX7_bucketOf_5 (by decide) ?_
  refine lv_lushr (v := ((x0 * (-7046029254386353131)).toUInt64 >>> ((55 : Int32).toInt64.toUInt64 &&& Int64.toUInt64 63)).toInt64) hx hb dX7_bucketOf_7 rfl ?_
  refine lv_l2i (v := (((x0 * (-7046029254386353131)).toUInt64 >>> ((55 : Int32).toInt64.toUInt64 &&& Int64.toUInt64 63)).toInt64).toInt32) hx hb dX7_bucketOf_8 rfl ?_
  have hq := hm
  subst hq; subst hQ
  exact k_iret hx hb hr hlocks hP hD hS rfl trivial dX7_bucketOf_9

theorem hd_X7_entryOf : yX7_entryOf.cls ≠ "java/lang/invoke/MethodHandle" ∧ yX7_entryOf.cls ≠ "java/lang/invoke/VarHandle" ∧ (parseMethodDescriptor yX7_entryOf.desc).map (fun d => d.parameters.length) = some 2 := by decide +kernel

def M_X7_entryOf_b11 (n : Nat) (x1 : Int64) (v_nextEntry : (Nat → Int32)) (v_numbers : (Nat → Int64)) (v_size : Int32) (x4 : Int32) (x5 : Int32) : Option ((Int32 × Int32) ⊕ (Unit ⊕ Int32)) :=
  if v_size ≤ x5 then (some (.inr (.inl ()))) else (if x4 < 0 then (some (.inr (.inl ()))) else (if x4 < 0 ∨ 1128 ≤ x4.toNatClampNeg then none else if (v_numbers x4.toNatClampNeg) = x1 then (some (.inr (.inr x4))) else (if x4 < 0 ∨ 1128 ≤ x4.toNatClampNeg then none else some (.inl (v_nextEntry x4.toNatClampNeg, x5 + 1)))))

def M_X7_entryOf (n : Nat) (x1 : Int64) (x3 : Int32) (v_firstEntry : (Nat → Int32)) (v_nextEntry : (Nat → Int32)) (v_numbers : (Nat → Int64)) (v_size : Int32) : Option Int32 :=
  if x3 < 0 ∨ 512 ≤ x3.toNatClampNeg then none else (lp (fun x : (Int32 × Int32) => M_X7_entryOf_b11 n x1 v_nextEntry v_numbers v_size x.1 x.2) n ((v_firstEntry x3.toNatClampNeg), (0 : Int32))).bind (Sum.elim (fun o7 => some (-1)) (fun r => some r))

abbrev rmX7_entryOf : Room := { frames := 0, cells := 0, slots := 0, locals := 0 }
set_option maxHeartbeats 4000000 in
set_option maxRecDepth 100000 in
theorem c_X7_entryOf (l : Launch) (G : va_G) (cs : CS) (q : Nat → Nat) (sz : Nat) (v_firstEntry : (Nat → Int32)) (v_nextEntry : (Nat → Int32)) (v_numbers : (Nat → Int64)) (v_counts : (Nat → Int32)) (v_size : Int32)   (x1 : Int64) (x3 : Int32) (n : Nat) (res : Int32) (hm : M_X7_entryOf n x1 x3 v_firstEntry v_nextEntry v_numbers v_size = some res) : Met l yX7_entryOf wsX7_entryOf rmX7_entryOf (va_Pc [.ref (q 0), .long x1, .int x3] (PreW G cs sz (ww_T q cs v_firstEntry v_nextEntry v_numbers v_counts v_size) RN)) (QI G res True (ww_T q cs v_firstEntry v_nextEntry v_numbers v_counts v_size) (va_A (ww_T q cs v_firstEntry v_nextEntry v_numbers v_counts v_size) sz)) 0 0 (va_A (ww_T q cs v_firstEntry v_nextEntry v_numbers v_counts v_size) sz) := by
  refine k_enter (Qf := fun A => QI G res True (ww_T q cs v_firstEntry v_nextEntry v_numbers v_counts v_size) A) (cc := cX7_entryOf) (maxL := 6) (ret := (some .int)) (plainFor_of_name (by decide)) rfl (Nat.le_of_ble_eq_true rfl) ?_
  intro p e s m args below meth c A Q ls H locs hx hb hr hml hown hts hlocks hname hK hA hRo hP hD hS hQ hl
  have hl : lv_has ls 6 [(0, .ref (q 0)), (1, .long x1), (3, .int x3)] := hl
  have wd1 := hts (.fieldLink RX7 11 "SumSmith$Tally" "firstEntry" "[I") (List.mem_of_getElem? (i := 1) rfl)
  have wd2 := hts (.fieldLink RX7 25 "SumSmith$Tally" "size" "I") (List.mem_of_getElem? (i := 2) rfl)
  have wd3 := hts (.fieldLink RX7 18 "SumSmith$Tally" "numbers" "[J") (List.mem_of_getElem? (i := 3) rfl)
  have wd4 := hts (.fieldLink RX7 15 "SumSmith$Tally" "nextEntry" "[I") (List.mem_of_getElem? (i := 4) rfl)
  have hinX7 : ∀ w ∈ wsX70, w ∈ wsX7_entryOf := fun w h => List.mem_cons_of_mem _ (List.mem_append_right _ h)
  have L11 : ∀ (x1 : Int64) (x4 : Int32) (x5 : Int32) (out : (Unit ⊕ Int32)), lp (fun x : (Int32 × Int32) => M_X7_entryOf_b11 n x1 v_nextEntry v_numbers v_size x.1 x.2) n (x4, x5) = some out → (∀ r, out = .inr r → r = res) → (∀ (o : Unit), out = .inl o → ∀ (H : Heap) (locs : List Loc), va_P G vwCl (ww_T q cs v_firstEntry v_nextEntry v_numbers v_counts v_size) H → va_D A (ww_T q cs v_firstEntry v_nextEntry v_numbers v_counts v_size) → va_S A s.heap H locs → ∀ (ls : Array Slot), lv_has ls 6 [] → W p l e rmX7_entryOf s m args below meth c H locs 0 0 Q (F0 m 55 ls [])) → ∀ (H : Heap) (locs : List Loc), va_P G vwCl (ww_T q cs v_firstEntry v_nextEntry v_numbers v_counts v_size) H → va_D A (ww_T q cs v_firstEntry v_nextEntry v_numbers v_counts v_size) → va_S A s.heap H locs → ∀ (ls : Array Slot), lv_has ls 6 [(0, .ref (q 0)), (1, .long x1), (4, .int x4), (5, .int x5)] → W p l e rmX7_entryOf s m args below meth c H locs 0 0 Q (F0 m 11 ls []) := by
    intro x1 x4 x5 out hlp hret hX
    refine lp_ind (fun x => ∀ (H : Heap) (locs : List Loc), va_P G vwCl (ww_T q cs v_firstEntry v_nextEntry v_numbers v_counts v_size) H → va_D A (ww_T q cs v_firstEntry v_nextEntry v_numbers v_counts v_size) → va_S A s.heap H locs → ∀ (ls : Array Slot), lv_has ls 6 [(0, .ref (q 0)), (1, .long x1), (4, .int x.1), (5, .int x.2)] → W p l e rmX7_entryOf s m args below meth c H locs 0 0 Q (F0 m 11 ls [])) ?_ n (x4, x5) hlp
    clear hlp hP hD hS hl
    rintro ⟨x4, x5⟩ ob hm hst H locs hP hD hS ls hl
    have hm : M_X7_entryOf_b11 n x1 v_nextEntry v_numbers v_size x4 x5 = some ob := hm
    have hl : lv_has ls 6 [(0, .ref (q 0)), (1, .long x1), (4, .int x4), (5, .int x5)] := hl
    have hP : va_P G vwCl (ww_T q cs v_firstEntry v_nextEntry v_numbers v_counts v_size) H := hP
    have hD : va_D A (ww_T q cs v_firstEntry v_nextEntry v_numbers v_counts v_size) := hD
    unfold M_X7_entryOf_b11 at hm
    refine lv_iload hx hb dX7_entryOf_11 (lv_at hl 3 rfl) ?_
    refine lv_aload_n hx hb dX7_entryOf_13 rfl (lv_at hl 0 rfl) ?_
    refine va_get (D := G) (ci := 5) (v := .int v_size) (C := RX7) (T := TX7) (N := 5) hx hb hts hinX7 hown hK.1 hP 0 rfl rfl 4 (by decide) wd2 (fun _ h9 => h9) rfl dX7_entryOf_14 ?_
    refine lv_icmp_ge (tgt := 55) hx hb dX7_entryOf_17 (by decide) (fun b2 => ?_) (fun b2 => ?_)
    · have hm := i_t b2 hm
      exact hX _ (st_exit hm hst) H locs hP hD hS ls (lv_sub hl [] rfl)
    · have hm := i_f b2 hm
      refine lv_iload hx hb dX7_entryOf_20 (lv_at hl 2 rfl) ?_
      refine lv_if_lt (tgt := 55) hx hb dX7_entryOf_22 (by decide) (fun b3 => ?_) (fun b3 => ?_)
      · have hm := i_t b3 hm
        exact hX _ (st_exit hm hst) H locs hP hD hS ls (lv_sub hl [] rfl)
      · have hm := i_f b3 hm
        refine lv_aload_n hx hb dX7_entryOf_25 rfl (lv_at hl 0 rfl) ?_
        refine va_get (D := G) (ci := 5) (v := .ref (q 3)) (C := RX7) (T := TX7) (N := 5) hx hb hts hinX7 hown hK.1 hP 0 rfl rfl 2 (by decide) wd3 (fun _ h9 => h9) rfl dX7_entryOf_26 ?_
        refine lv_iload hx hb dX7_entryOf_29 (lv_at hl 2 rfl) ?_
        obtain ⟨h4, hm⟩ := g_in hm
        refine va_lald hx hb hK.1 hP 3 1 rfl rfl h4 dX7_entryOf_31 ?_
        refine lv_lload_n hx hb dX7_entryOf_32 rfl (lv_at hl 1 rfl) ?_
        refine W.lcmp hx hb dX7_entryOf_33 ?_
        refine lv_if_ne (tgt := 40) hx hb dX7_entryOf_34 (by decide) (fun b5 => ?_) (fun b5 => ?_)
        · have b5 := fun h9 => b5 ((lg_cmp_eq _ _).mpr h9)
          have hm := i_f b5 hm
          refine lv_aload_n hx hb dX7_entryOf_40 rfl (lv_at hl 0 rfl) ?_
          refine va_get (D := G) (ci := 5) (v := .ref (q 2)) (C := RX7) (T := TX7) (N := 5) hx hb hts hinX7 hown hK.1 hP 0 rfl rfl 1 (by decide) wd4 (fun _ h9 => h9) rfl dX7_entryOf_41 ?_
          refine lv_iload hx hb dX7_entryOf_44 (lv_at hl 2 rfl) ?_
          obtain ⟨h6, hm⟩ := g_in hm
          refine va_iald hx hb hK.1 hP 2 0 rfl rfl h6 dX7_entryOf_46 ?_
          refine lv_istore (lv' := [(4, .int (v_nextEntry x4.toNatClampNeg)), (0, .ref (q 0)), (1, .long x1), (5, .int x5)]) hx hb dX7_entryOf_47 hl (by decide) rfl (fun ls hl => ?_)
          refine lv_iinc (v := x5 + 1) (lv' := [(5, .int (x5 + 1)), (4, .int (v_nextEntry x4.toNatClampNeg)), (0, .ref (q 0)), (1, .long x1)]) hx hb dX7_entryOf_49 hl (k := 3) rfl rfl (by decide) rfl (fun ls hl => ?_)
          refine lv_goto (tgt := 11) hx hb dX7_entryOf_52 (by decide) ?_
          exact st_next hm hst H locs hP hD hS ls (lv_sub hl [2, 3, 1, 0] rfl)
        · have b5 := (lg_cmp_eq _ _).mp b5
          have hm := i_t b5 hm
          refine lv_iload hx hb dX7_entryOf_37 (lv_at hl 2 rfl) ?_
          have hq := hret _ (st_exit hm hst)
          subst hq; subst hQ
          exact k_iret hx hb hr hlocks hP hD hS rfl trivial dX7_entryOf_39
  unfold M_X7_entryOf at hm
  refine lv_aload_n hx hb dX7_entryOf_0 rfl (lv_at hl 0 rfl) ?_
  refine va_get (D := G) (ci := 5) (v := .ref (q 1)) (C := RX7) (T := TX7) (N := 5) hx hb hts hinX7 hown hK.1 hP 0 rfl rfl 0 (by decide) wd1 (fun _ h9 => h9) rfl dX7_entryOf_1 ?_
  refine lv_iload_n hx hb dX7_entryOf_4 rfl (lv_at hl 2 rfl) ?_
  obtain ⟨h1, hm⟩ := g_in hm
  refine va_iald hx hb hK.1 hP 1 0 rfl rfl h1 dX7_entryOf_5 ?_
  refine lv_istore (lv' := [(4, .int (v_firstEntry x3.toNatClampNeg)), (0, .ref (q 0)), (1, .long x1), (3, .int x3)]) hx hb dX7_entryOf_6 hl (by decide) rfl (fun ls hl => ?_)
  refine lv_iconst (v := 0) hx hb dX7_entryOf_8 (by decide) ?_
  refine lv_istore (lv' := [(5, .int 0), (4, .int (v_firstEntry x3.toNatClampNeg)), (0, .ref (q 0)), (1, .long x1), (3, .int x3)]) hx hb dX7_entryOf_9 hl (by decide) rfl (fun ls hl => ?_)
  obtain ⟨u7, hlp7, hm⟩ := bs hm
  refine L11 x1 (v_firstEntry x3.toNatClampNeg) (0 : Int32) u7 hlp7 (fun r h => Option.some.inj (se_r h hm)) (fun o7 ho => ?_) H locs hP hD hS ls (lv_sub hl [2, 3, 1, 0] rfl)
  have hm := se_l ho hm
  intro H locs hP hD hS ls hl
  have hl : lv_has ls 6 [] := hl
  have hP : va_P G vwCl (ww_T q cs v_firstEntry v_nextEntry v_numbers v_counts v_size) H := hP
  have hD : va_D A (ww_T q cs v_firstEntry v_nextEntry v_numbers v_counts v_size) := hD
  refine lv_iconst (v := (-1)) hx hb dX7_entryOf_55 (by decide) ?_
  have hq := Option.some.inj hm
  subst hq; subst hQ
  exact k_iret hx hb hr hlocks hP hD hS rfl trivial dX7_entryOf_56

theorem hd_X7_timesOf : yX7_timesOf.cls ≠ "java/lang/invoke/MethodHandle" ∧ yX7_timesOf.cls ≠ "java/lang/invoke/VarHandle" ∧ (parseMethodDescriptor yX7_timesOf.desc).map (fun d => d.parameters.length) = some 1 := by decide +kernel

def M_X7_timesOf (n : Nat) (x1 : Int64) (v_firstEntry : (Nat → Int32)) (v_nextEntry : (Nat → Int32)) (v_numbers : (Nat → Int64)) (v_counts : (Nat → Int32)) (v_size : Int32) : Option Int32 :=
  (M_X7_entryOf n x1 (M_X7_bucketOf x1) v_firstEntry v_nextEntry v_numbers v_size).bind fun r2 => if 0 ≤ r2 then (if r2 < 0 ∨ 1128 ≤ r2.toNatClampNeg then none else some (v_counts r2.toNatClampNeg)) else (some 0)

abbrev rmX7_timesOf : Room := { frames := 1, cells := 0, slots := 0, locals := 25 }
set_option maxHeartbeats 4000000 in
set_option maxRecDepth 100000 in
theorem c_X7_timesOf (l : Launch) (G : va_G) (cs : CS) (q : Nat → Nat) (sz : Nat) (v_firstEntry : (Nat → Int32)) (v_nextEntry : (Nat → Int32)) (v_numbers : (Nat → Int64)) (v_counts : (Nat → Int32)) (v_size : Int32)   (x1 : Int64) (n : Nat) (res : Int32) (hm : M_X7_timesOf n x1 v_firstEntry v_nextEntry v_numbers v_counts v_size = some res) : Met l yX7_timesOf wsX7_timesOf rmX7_timesOf (va_Pc [.ref (q 0), .long x1] (PreW G cs sz (ww_T q cs v_firstEntry v_nextEntry v_numbers v_counts v_size) RN)) (QI G res True (ww_T q cs v_firstEntry v_nextEntry v_numbers v_counts v_size) (va_A (ww_T q cs v_firstEntry v_nextEntry v_numbers v_counts v_size) sz)) 0 0 (va_A (ww_T q cs v_firstEntry v_nextEntry v_numbers v_counts v_size) sz) := by
  refine k_enter (Qf := fun A => QI G res True (ww_T q cs v_firstEntry v_nextEntry v_numbers v_counts v_size) A) (cc := cX7_timesOf) (maxL := 4) (ret := (some .int)) (plainFor_of_name (by decide)) rfl (Nat.le_of_ble_eq_true rfl) ?_
  intro p e s m args below meth c A Q ls H locs hx hb hr hml hown hts hlocks hname hK hA hRo hP hD hS hQ hl
  have hl : lv_has ls 4 [(0, .ref (q 0)), (1, .long x1)] := hl
  have wd1 := hts (.fieldLink RX7 22 "SumSmith$Tally" "counts" "[I") (List.mem_of_getElem? (i := 1) rfl)
  have hinX7 : ∀ w ∈ wsX70, w ∈ wsX7_timesOf := fun w h => List.mem_cons_of_mem _ (List.mem_append_right _ h)
  unfold M_X7_timesOf at hm
  refine lv_aload_n hx hb dX7_timesOf_0 rfl (lv_at hl 0 rfl) ?_
  refine lv_lload_n hx hb dX7_timesOf_1 rfl (lv_at hl 1 rfl) ?_
  refine lv_lload_n hx hb dX7_timesOf_2 rfl (lv_at hl 1 rfl) ?_
  refine k_calli0 (va_runS (As := [.long x1]) (rest := [.long x1, .ref (q 0)]) ⟨hx, hb, hml, hown, hts⟩ (c_X7_bucketOf l G cs H.size    x1 _ rfl) (va_cwS 1 hts gX7_timesOf_X7_bucketOf rfl rfl rfl hd_X7_bucketOf ⟨Nat.le_of_ble_eq_true rfl, Nat.le_of_ble_eq_true rfl⟩) ⟨pre_blind, pre_w hK RO.nil P0 D0 (va_new0 hS hA)⟩ rfl rfl hl.1 rfl (lv_room (Nat.le_of_ble_eq_true rfl)) dX7_timesOf_3 ⟨Nat.zero_le _, Nat.zero_le _⟩) hP hS hA (fun hE1 H locs hP hS => ?_)
  obtain ⟨r2, hc_r2, hm⟩ := bs hm
  refine k_calli (va_runV (As := [.long x1, .int (M_X7_bucketOf x1)]) (rest := []) ⟨hx, hb, hml, hown, hts⟩ (c_X7_entryOf l G cs q H.size v_firstEntry v_nextEntry v_numbers v_counts v_size   x1 (M_X7_bucketOf x1) n r2 hc_r2) (cwV 2 hts gX7_timesOf_X7_entryOf rfl rfl rfl ⟨rfl, hd_X7_entryOf⟩ ⟨Nat.le_of_ble_eq_true rfl, Nat.le_of_ble_eq_true rfl⟩) ⟨pre_blind, va_recv hK.1 hP (ci := 5) (q0 := 0) rfl rfl, pre_w hK RO.nil hP hD (va_all hD hS hA)⟩ rfl rfl hl.1 rfl (lv_room (Nat.le_of_ble_eq_true rfl)) dX7_timesOf_6 ⟨Nat.zero_le _, Nat.zero_le _⟩) hS (va_all hD hS hA) (fun hE3 H locs hP hD hS => ?_)
  have hP : va_P G vwCl (ww_T q cs v_firstEntry v_nextEntry v_numbers v_counts v_size) H := hP
  have hD : va_D A (ww_T q cs v_firstEntry v_nextEntry v_numbers v_counts v_size) := hD
  refine lv_istore_n (lv' := [(3, .int r2), (0, .ref (q 0)), (1, .long x1)]) hx hb dX7_timesOf_9 rfl hl (by decide) rfl (fun ls hl => ?_)
  refine lv_iload_n hx hb dX7_timesOf_10 rfl (lv_at hl 0 rfl) ?_
  refine lv_if_ge (tgt := 18) hx hb dX7_timesOf_11 (by decide) (fun b4 => ?_) (fun b4 => ?_)
  · have hm := i_t b4 hm
    refine lv_aload_n hx hb dX7_timesOf_18 rfl (lv_at hl 1 rfl) ?_
    refine va_get (D := G) (ci := 5) (v := .ref (q 4)) (C := RX7) (T := TX7) (N := 5) hx hb hts hinX7 hown hK.1 hP 0 rfl rfl 3 (by decide) wd1 (fun _ h9 => h9) rfl dX7_timesOf_19 ?_
    refine lv_iload_n hx hb dX7_timesOf_22 rfl (lv_at hl 0 rfl) ?_
    obtain ⟨h5, hm⟩ := g_in hm
    refine va_iald hx hb hK.1 hP 4 0 rfl rfl h5 dX7_timesOf_23 ?_
    have hq := Option.some.inj hm
    subst hq; subst hQ
    exact k_iret hx hb hr hlocks hP hD hS rfl trivial dX7_timesOf_24
  · have hm := i_f b4 hm
    refine lv_iconst (v := 0) hx hb dX7_timesOf_14 (by decide) ?_
    refine lv_goto (tgt := 24) hx hb dX7_timesOf_15 (by decide) ?_
    have hq := Option.some.inj hm
    subst hq; subst hQ
    exact k_iret hx hb hr hlocks hP hD hS rfl trivial dX7_timesOf_24

theorem hd_X7_note : yX7_note.cls ≠ "java/lang/invoke/MethodHandle" ∧ yX7_note.cls ≠ "java/lang/invoke/VarHandle" ∧ (parseMethodDescriptor yX7_note.desc).map (fun d => d.parameters.length) = some 1 := by decide +kernel

def M_X7_note (n : Nat) (x1 : Int64) (v_firstEntry : (Nat → Int32)) (v_nextEntry : (Nat → Int32)) (v_numbers : (Nat → Int64)) (v_counts : (Nat → Int32)) (v_size : Int32) : Option ((Nat → Int32) × (Nat → Int32) × (Nat → Int64) × (Nat → Int32) × Int32) :=
  (M_X7_entryOf n x1 (M_X7_bucketOf x1) v_firstEntry v_nextEntry v_numbers v_size).bind fun r2 => if r2 < 0 then (if 1128 ≤ v_size then (some (v_firstEntry, v_nextEntry, v_numbers, v_counts, v_size)) else (if v_size < 0 ∨ 1128 ≤ v_size.toNatClampNeg then none else if v_size < 0 ∨ 1128 ≤ v_size.toNatClampNeg then none else if (M_X7_bucketOf x1) < 0 ∨ 512 ≤ (M_X7_bucketOf x1).toNatClampNeg then none else if v_size < 0 ∨ 1128 ≤ v_size.toNatClampNeg then none else if (M_X7_bucketOf x1) < 0 ∨ 512 ≤ (M_X7_bucketOf x1).toNatClampNeg then none else some ((upd v_firstEntry (M_X7_bucketOf x1).toNatClampNeg v_size), (upd v_nextEntry v_size.toNatClampNeg (v_firstEntry (M_X7_bucketOf x1).toNatClampNeg)), (vp_updL v_numbers v_size.toNatClampNeg x1), (upd v_counts v_size.toNatClampNeg 1), (v_size + 1)))) else (if r2 < 0 ∨ 1128 ≤ r2.toNatClampNeg then none else if r2 < 0 ∨ 1128 ≤ r2.toNatClampNeg then none else some (v_firstEntry, v_nextEntry, v_numbers, (upd v_counts r2.toNatClampNeg ((v_counts r2.toNatClampNeg) + 1)), v_size))

abbrev rmX7_note : Room := { frames := 1, cells := 0, slots := 0, locals := 25 }
set_option maxHeartbeats 4000000 in
set_option maxRecDepth 100000 in
theorem c_X7_note (l : Launch) (G : va_G) (cs : CS) (q : Nat → Nat) (sz : Nat) (v_firstEntry : (Nat → Int32)) (v_nextEntry : (Nat → Int32)) (v_numbers : (Nat → Int64)) (v_counts : (Nat → Int32)) (v_size : Int32)   (x1 : Int64) (n : Nat) (res : ((Nat → Int32) × (Nat → Int32) × (Nat → Int64) × (Nat → Int32) × Int32)) (hm : M_X7_note n x1 v_firstEntry v_nextEntry v_numbers v_counts v_size = some res) : Met l yX7_note wsX7_note rmX7_note (va_Pc [.ref (q 0), .long x1] (PreW G cs sz (ww_T q cs v_firstEntry v_nextEntry v_numbers v_counts v_size) RN)) (QV G (ww_T q cs res.1 res.2.1 res.2.2.1 res.2.2.2.1 res.2.2.2.2) (va_A (ww_T q cs v_firstEntry v_nextEntry v_numbers v_counts v_size) sz)) 0 0 (va_A (ww_T q cs v_firstEntry v_nextEntry v_numbers v_counts v_size) sz) := by
  refine k_enter (Qf := fun A => QV G (ww_T q cs res.1 res.2.1 res.2.2.1 res.2.2.2.1 res.2.2.2.2) A) (cc := cX7_note) (maxL := 5) (ret := none) (plainFor_of_name (by decide)) rfl (Nat.le_of_ble_eq_true rfl) ?_
  intro p e s m args below meth c A Q ls H locs hx hb hr hml hown hts hlocks hname hK hA hRo hP hD hS hQ hl
  have hl : lv_has ls 5 [(0, .ref (q 0)), (1, .long x1)] := hl
  have wd2 := hts (.fieldLink RX7 25 "SumSmith$Tally" "size" "I") (List.mem_of_getElem? (i := 2) rfl)
  have wd3 := hts (.fieldLink RX7 18 "SumSmith$Tally" "numbers" "[J") (List.mem_of_getElem? (i := 3) rfl)
  have wd1 := hts (.fieldLink RX7 22 "SumSmith$Tally" "counts" "[I") (List.mem_of_getElem? (i := 1) rfl)
  have wd4 := hts (.fieldLink RX7 15 "SumSmith$Tally" "nextEntry" "[I") (List.mem_of_getElem? (i := 4) rfl)
  have wd5 := hts (.fieldLink RX7 11 "SumSmith$Tally" "firstEntry" "[I") (List.mem_of_getElem? (i := 5) rfl)
  have hinX7 : ∀ w ∈ wsX70, w ∈ wsX7_note := fun w h => List.mem_cons_of_mem _ (List.mem_append_right _ h)
  unfold M_X7_note at hm
  refine lv_lload_n hx hb dX7_note_0 rfl (lv_at hl 1 rfl) ?_
  refine k_calli0 (va_runS (As := [.long x1]) (rest := []) ⟨hx, hb, hml, hown, hts⟩ (c_X7_bucketOf l G cs H.size    x1 _ rfl) (va_cwS 1 hts gX7_note_X7_bucketOf rfl rfl rfl hd_X7_bucketOf ⟨Nat.le_of_ble_eq_true rfl, Nat.le_of_ble_eq_true rfl⟩) ⟨pre_blind, pre_w hK RO.nil P0 D0 (va_new0 hS hA)⟩ rfl rfl hl.1 rfl (lv_room (Nat.le_of_ble_eq_true rfl)) dX7_note_1 ⟨Nat.zero_le _, Nat.zero_le _⟩) hP hS hA (fun hE1 H locs hP hS => ?_)
  refine lv_istore_n (lv' := [(3, .int (M_X7_bucketOf x1)), (0, .ref (q 0)), (1, .long x1)]) hx hb dX7_note_4 rfl hl (by decide) rfl (fun ls hl => ?_)
  refine lv_aload_n hx hb dX7_note_5 rfl (lv_at hl 1 rfl) ?_
  refine lv_lload_n hx hb dX7_note_6 rfl (lv_at hl 2 rfl) ?_
  refine lv_iload_n hx hb dX7_note_7 rfl (lv_at hl 0 rfl) ?_
  obtain ⟨r2, hc_r2, hm⟩ := bs hm
  refine k_calli (va_runV (As := [.long x1, .int (M_X7_bucketOf x1)]) (rest := []) ⟨hx, hb, hml, hown, hts⟩ (c_X7_entryOf l G cs q H.size v_firstEntry v_nextEntry v_numbers v_counts v_size   x1 (M_X7_bucketOf x1) n r2 hc_r2) (cwV 2 hts gX7_note_X7_entryOf rfl rfl rfl ⟨rfl, hd_X7_entryOf⟩ ⟨Nat.le_of_ble_eq_true rfl, Nat.le_of_ble_eq_true rfl⟩) ⟨pre_blind, va_recv hK.1 hP (ci := 5) (q0 := 0) rfl rfl, pre_w hK RO.nil hP hD (va_all hD hS hA)⟩ rfl rfl hl.1 rfl (lv_room (Nat.le_of_ble_eq_true rfl)) dX7_note_8 ⟨Nat.zero_le _, Nat.zero_le _⟩) hS (va_all hD hS hA) (fun hE3 H locs hP hD hS => ?_)
  have hP : va_P G vwCl (ww_T q cs v_firstEntry v_nextEntry v_numbers v_counts v_size) H := hP
  have hD : va_D A (ww_T q cs v_firstEntry v_nextEntry v_numbers v_counts v_size) := hD
  refine lv_istore (lv' := [(4, .int r2), (3, .int (M_X7_bucketOf x1)), (0, .ref (q 0)), (1, .long x1)]) hx hb dX7_note_11 hl (by decide) rfl (fun ls hl => ?_)
  refine lv_iload hx hb dX7_note_13 (lv_at hl 0 rfl) ?_
  refine lv_if_lt (tgt := 32) hx hb dX7_note_15 (by decide) (fun b4 => ?_) (fun b4 => ?_)
  · have hm := i_t b4 hm
    refine lv_aload_n hx hb dX7_note_32 rfl (lv_at hl 2 rfl) ?_
    refine va_get (D := G) (ci := 5) (v := .int v_size) (C := RX7) (T := TX7) (N := 5) hx hb hts hinX7 hown hK.1 hP 0 rfl rfl 4 (by decide) wd2 (fun _ h9 => h9) rfl dX7_note_33 ?_
    refine lv_aload_n hx hb dX7_note_36 rfl (lv_at hl 2 rfl) ?_
    refine va_get (D := G) (ci := 5) (v := .ref (q 3)) (C := RX7) (T := TX7) (N := 5) hx hb hts hinX7 hown hK.1 hP 0 rfl rfl 2 (by decide) wd3 (fun _ h9 => h9) rfl dX7_note_37 ?_
    refine va_alen (v := 1128) hx hb hK.1 hP 3 1 rfl rfl rfl dX7_note_40 ?_
    refine lv_icmp_ge (tgt := 99) hx hb dX7_note_41 (by decide) (fun b5 => ?_) (fun b5 => ?_)
    · have hm := i_t b5 hm
      have hq := Option.some.inj hm
      subst hq; subst hQ
      exact k_vret hx hb hr hlocks hP hD hS dX7_note_99
    · have hm := i_f b5 hm
      refine lv_aload_n hx hb dX7_note_44 rfl (lv_at hl 2 rfl) ?_
      refine va_get (D := G) (ci := 5) (v := .ref (q 3)) (C := RX7) (T := TX7) (N := 5) hx hb hts hinX7 hown hK.1 hP 0 rfl rfl 2 (by decide) wd3 (fun _ h9 => h9) rfl dX7_note_45 ?_
      refine lv_aload_n hx hb dX7_note_48 rfl (lv_at hl 2 rfl) ?_
      refine va_get (D := G) (ci := 5) (v := .int v_size) (C := RX7) (T := TX7) (N := 5) hx hb hts hinX7 hown hK.1 hP 0 rfl rfl 4 (by decide) wd2 (fun _ h9 => h9) rfl dX7_note_49 ?_
      refine lv_lload_n hx hb dX7_note_52 rfl (lv_at hl 3 rfl) ?_
      obtain ⟨h6, hm⟩ := g_in hm
      refine va_last hx hb hK.1 hP hD hS 3 1 rfl rfl h6 dX7_note_53 (fun H locs hP hD hS => ?_)
      have hP : va_P G vwCl (ww_T q cs v_firstEntry v_nextEntry (vp_updL v_numbers v_size.toNatClampNeg x1) v_counts v_size) H := hP
      have hD : va_D A (ww_T q cs v_firstEntry v_nextEntry (vp_updL v_numbers v_size.toNatClampNeg x1) v_counts v_size) := hD
      refine lv_aload_n hx hb dX7_note_54 rfl (lv_at hl 2 rfl) ?_
      refine va_get (D := G) (ci := 5) (v := .ref (q 4)) (C := RX7) (T := TX7) (N := 5) hx hb hts hinX7 hown hK.1 hP 0 rfl rfl 3 (by decide) wd1 (fun _ h9 => h9) rfl dX7_note_55 ?_
      refine lv_aload_n hx hb dX7_note_58 rfl (lv_at hl 2 rfl) ?_
      refine va_get (D := G) (ci := 5) (v := .int v_size) (C := RX7) (T := TX7) (N := 5) hx hb hts hinX7 hown hK.1 hP 0 rfl rfl 4 (by decide) wd2 (fun _ h9 => h9) rfl dX7_note_59 ?_
      refine lv_iconst (v := 1) hx hb dX7_note_62 (by decide) ?_
      obtain ⟨h7, hm⟩ := g_in hm
      refine va_iast hx hb hK.1 hP hD hS 4 0 rfl rfl h7 dX7_note_63 (fun H locs hP hD hS => ?_)
      have hP : va_P G vwCl (ww_T q cs v_firstEntry v_nextEntry (vp_updL v_numbers v_size.toNatClampNeg x1) (upd v_counts v_size.toNatClampNeg 1) v_size) H := hP
      have hD : va_D A (ww_T q cs v_firstEntry v_nextEntry (vp_updL v_numbers v_size.toNatClampNeg x1) (upd v_counts v_size.toNatClampNeg 1) v_size) := hD
      refine lv_aload_n hx hb dX7_note_64 rfl (lv_at hl 2 rfl) ?_
      refine va_get (D := G) (ci := 5) (v := .ref (q 2)) (C := RX7) (T := TX7) (N := 5) hx hb hts hinX7 hown hK.1 hP 0 rfl rfl 1 (by decide) wd4 (fun _ h9 => h9) rfl dX7_note_65 ?_
      refine lv_aload_n hx hb dX7_note_68 rfl (lv_at hl 2 rfl) ?_
      refine va_get (D := G) (ci := 5) (v := .int v_size) (C := RX7) (T := TX7) (N := 5) hx hb hts hinX7 hown hK.1 hP 0 rfl rfl 4 (by decide) wd2 (fun _ h9 => h9) rfl dX7_note_69 ?_
      refine lv_aload_n hx hb dX7_note_72 rfl (lv_at hl 2 rfl) ?_
      refine va_get (D := G) (ci := 5) (v := .ref (q 1)) (C := RX7) (T := TX7) (N := 5) hx hb hts hinX7 hown hK.1 hP 0 rfl rfl 0 (by decide) wd5 (fun _ h9 => h9) rfl dX7_note_73 ?_
      refine lv_iload_n hx hb dX7_note_76 rfl (lv_at hl 1 rfl) ?_
      obtain ⟨h8, hm⟩ := g_in hm
      refine va_iald hx hb hK.1 hP 1 0 rfl rfl h8 dX7_note_77 ?_
      obtain ⟨h9, hm⟩ := g_in hm
      refine va_iast hx hb hK.1 hP hD hS 2 0 rfl rfl h9 dX7_note_78 (fun H locs hP hD hS => ?_)
      have hP : va_P G vwCl (ww_T q cs v_firstEntry (upd v_nextEntry v_size.toNatClampNeg (v_firstEntry (M_X7_bucketOf x1).toNatClampNeg)) (vp_updL v_numbers v_size.toNatClampNeg x1) (upd v_counts v_size.toNatClampNeg 1) v_size) H := hP
      have hD : va_D A (ww_T q cs v_firstEntry (upd v_nextEntry v_size.toNatClampNeg (v_firstEntry (M_X7_bucketOf x1).toNatClampNeg)) (vp_updL v_numbers v_size.toNatClampNeg x1) (upd v_counts v_size.toNatClampNeg 1) v_size) := hD
      refine lv_aload_n hx hb dX7_note_79 rfl (lv_at hl 2 rfl) ?_
      refine va_get (D := G) (ci := 5) (v := .ref (q 1)) (C := RX7) (T := TX7) (N := 5) hx hb hts hinX7 hown hK.1 hP 0 rfl rfl 0 (by decide) wd5 (fun _ h9 => h9) rfl dX7_note_80 ?_
      refine lv_iload_n hx hb dX7_note_83 rfl (lv_at hl 1 rfl) ?_
      refine lv_aload_n hx hb dX7_note_84 rfl (lv_at hl 2 rfl) ?_
      refine va_get (D := G) (ci := 5) (v := .int v_size) (C := RX7) (T := TX7) (N := 5) hx hb hts hinX7 hown hK.1 hP 0 rfl rfl 4 (by decide) wd2 (fun _ h9 => h9) rfl dX7_note_85 ?_
      obtain ⟨h10, hm⟩ := g_in hm
      refine va_iast hx hb hK.1 hP hD hS 1 0 rfl rfl h10 dX7_note_88 (fun H locs hP hD hS => ?_)
      have hP : va_P G vwCl (ww_T q cs (upd v_firstEntry (M_X7_bucketOf x1).toNatClampNeg v_size) (upd v_nextEntry v_size.toNatClampNeg (v_firstEntry (M_X7_bucketOf x1).toNatClampNeg)) (vp_updL v_numbers v_size.toNatClampNeg x1) (upd v_counts v_size.toNatClampNeg 1) v_size) H := hP
      have hD : va_D A (ww_T q cs (upd v_firstEntry (M_X7_bucketOf x1).toNatClampNeg v_size) (upd v_nextEntry v_size.toNatClampNeg (v_firstEntry (M_X7_bucketOf x1).toNatClampNeg)) (vp_updL v_numbers v_size.toNatClampNeg x1) (upd v_counts v_size.toNatClampNeg 1) v_size) := hD
      refine lv_aload_n hx hb dX7_note_89 rfl (lv_at hl 2 rfl) ?_
      refine lv_dup hx hb dX7_note_90 rfl ?_
      refine va_get (D := G) (ci := 5) (v := .int v_size) (C := RX7) (T := TX7) (N := 5) hx hb hts hinX7 hown hK.1 hP 0 rfl rfl 4 (by decide) wd2 (fun _ h9 => h9) rfl dX7_note_91 ?_
      refine lv_iconst (v := 1) hx hb dX7_note_94 (by decide) ?_
      refine lv_iadd hx hb dX7_note_95 ?_
      refine va_put (D := G) (ci := 5) (v := .int (v_size + 1)) (ty := .int) (C := RX7) (T := TX7) (N := 5) hx hb hts hinX7 tyX7 tyX7_ok nmX7 hown hK.1 hP hD hS 0 rfl rfl 4 (by decide) wd2 (fun _ h9 => h9) rfl (by decide +kernel) rfl rfl (Nat.le_of_ble_eq_true rfl) dX7_note_96 (fun H locs hP hD hS => ?_)
      have hP : va_P G vwCl (ww_T q cs (upd v_firstEntry (M_X7_bucketOf x1).toNatClampNeg v_size) (upd v_nextEntry v_size.toNatClampNeg (v_firstEntry (M_X7_bucketOf x1).toNatClampNeg)) (vp_updL v_numbers v_size.toNatClampNeg x1) (upd v_counts v_size.toNatClampNeg 1) (v_size + 1)) H := hP
      have hD : va_D A (ww_T q cs (upd v_firstEntry (M_X7_bucketOf x1).toNatClampNeg v_size) (upd v_nextEntry v_size.toNatClampNeg (v_firstEntry (M_X7_bucketOf x1).toNatClampNeg)) (vp_updL v_numbers v_size.toNatClampNeg x1) (upd v_counts v_size.toNatClampNeg 1) (v_size + 1)) := hD
      have hq := Option.some.inj hm
      subst hq; subst hQ
      exact k_vret hx hb hr hlocks hP hD hS dX7_note_99
  · have hm := i_f b4 hm
    refine lv_aload_n hx hb dX7_note_18 rfl (lv_at hl 2 rfl) ?_
    refine va_get (D := G) (ci := 5) (v := .ref (q 4)) (C := RX7) (T := TX7) (N := 5) hx hb hts hinX7 hown hK.1 hP 0 rfl rfl 3 (by decide) wd1 (fun _ h9 => h9) rfl dX7_note_19 ?_
    refine lv_iload hx hb dX7_note_22 (lv_at hl 0 rfl) ?_
    refine lv_dup2_11 hx hb dX7_note_24 rfl rfl ?_
    obtain ⟨h11, hm⟩ := g_in hm
    refine va_iald hx hb hK.1 hP 4 0 rfl rfl h11 dX7_note_25 ?_
    refine lv_iconst (v := 1) hx hb dX7_note_26 (by decide) ?_
    refine lv_iadd hx hb dX7_note_27 ?_
    obtain ⟨h12, hm⟩ := g_in hm
    refine va_iast hx hb hK.1 hP hD hS 4 0 rfl rfl h12 dX7_note_28 (fun H locs hP hD hS => ?_)
    have hP : va_P G vwCl (ww_T q cs v_firstEntry v_nextEntry v_numbers (upd v_counts r2.toNatClampNeg ((v_counts r2.toNatClampNeg) + 1)) v_size) H := hP
    have hD : va_D A (ww_T q cs v_firstEntry v_nextEntry v_numbers (upd v_counts r2.toNatClampNeg ((v_counts r2.toNatClampNeg) + 1)) v_size) := hD
    refine lv_goto (tgt := 99) hx hb dX7_note_29 (by decide) ?_
    have hq := Option.some.inj hm
    subst hq; subst hQ
    exact k_vret hx hb hr hlocks hP hD hS dX7_note_99

theorem hd_X3_load : yX3_load.cls ≠ "java/lang/invoke/MethodHandle" ∧ yX3_load.cls ≠ "java/lang/invoke/VarHandle" ∧ (parseMethodDescriptor yX3_load.desc).map (fun d => d.parameters.length) = some 4 := by decide +kernel

def M_X3_load_b14 (n : Nat) (x2 : Int32) (x3 : Int64) (x5 : Int32) (v_places : Int32) (x6 : Int64) (x8 : Int32) (v_syndromes : (Nat → Int64)) : Option ((Int64 × Int32 × (Nat → Int64)) ⊕ (Nat → Int64)) :=
  if v_places ≤ x8 then (some (.inr v_syndromes)) else (if x5 = 0 then (if ((v_places - 1) - x8) < 0 ∨ 512 ≤ ((v_places - 1) - x8).toNatClampNeg then none else some (.inl ((M_X1_doubled x6 x2 x3), x8 + 1, (vp_updL v_syndromes ((v_places - 1) - x8).toNatClampNeg x6)))) else (if (((v_places - 1) - x8) ^^^ 7) < 0 ∨ 512 ≤ (((v_places - 1) - x8) ^^^ 7).toNatClampNeg then none else some (.inl ((M_X1_doubled x6 x2 x3), x8 + 1, (vp_updL v_syndromes (((v_places - 1) - x8) ^^^ 7).toNatClampNeg x6)))))

def M_X3_load (n : Nat) (x1 : Int32) (x2 : Int32) (x3 : Int64) (x5 : Int32) (v_syndromes : (Nat → Int64)) (v_places : Int32) : Option ((Nat → Int64) × Int32) :=
  (lp (fun x : (Int64 × Int32 × (Nat → Int64)) => M_X3_load_b14 n x2 x3 x5 (8 * x1) x.1 x.2.1 x.2.2) n (x3, (0 : Int32), v_syndromes)).bind fun o5 => some (o5, (8 * x1))

abbrev ww_P (q : Nat → Nat) (cs : CS) (v_syndromes : (Nat → Int64)) (v_places : Int32) (v_firstEntry : (Nat → Int32)) (v_nextEntry : (Nat → Int32)) (v_numbers : (Nat → Int64)) (v_counts : (Nat → Int32)) (v_size : Int32)   : va_W := [((q 0), .inr (2, [.ref (q 1), .int v_places, .ref (q 2)])), ((q 1), .inl (cs.2.1, 512, .inr (.inl v_syndromes))), ((q 2), .inr (5, [.ref (q 3), .ref (q 4), .ref (q 5), .ref (q 6), .int v_size])), ((q 3), .inl (cs.1, 512, .inl v_firstEntry)), ((q 4), .inl (cs.1, 1128, .inl v_nextEntry)), ((q 5), .inl (cs.2.1, 1128, .inr (.inl v_numbers))), ((q 6), .inl (cs.1, 1128, .inl v_counts))]

abbrev rmX3_load : Room := { frames := 2, cells := 0, slots := 0, locals := 46 }
set_option maxHeartbeats 4000000 in
set_option maxRecDepth 100000 in
theorem c_X3_load (l : Launch) (G : va_G) (cs : CS) (q : Nat → Nat) (sz : Nat) (v_syndromes : (Nat → Int64)) (v_places : Int32) (v_firstEntry : (Nat → Int32)) (v_nextEntry : (Nat → Int32)) (v_numbers : (Nat → Int64)) (v_counts : (Nat → Int32)) (v_size : Int32)   (x1 : Int32) (x2 : Int32) (x3 : Int64) (x5 : Int32) (n : Nat) (res : ((Nat → Int64) × Int32)) (hm : M_X3_load n x1 x2 x3 x5 v_syndromes v_places = some res) : Met l yX3_load wsX3_load rmX3_load (va_Pc [.ref (q 0), .int x1, .int x2, .long x3, .int x5] (PreW G cs sz (ww_P q cs v_syndromes v_places v_firstEntry v_nextEntry v_numbers v_counts v_size) RN)) (QV G (ww_P q cs res.1 res.2 v_firstEntry v_nextEntry v_numbers v_counts v_size) (va_A (ww_P q cs v_syndromes v_places v_firstEntry v_nextEntry v_numbers v_counts v_size) sz)) 0 0 (va_A (ww_P q cs v_syndromes v_places v_firstEntry v_nextEntry v_numbers v_counts v_size) sz) := by
  refine k_enter (Qf := fun A => QV G (ww_P q cs res.1 res.2 v_firstEntry v_nextEntry v_numbers v_counts v_size) A) (cc := cX3_load) (maxL := 10) (ret := none) (plainFor_of_name (by decide)) rfl (Nat.le_of_ble_eq_true rfl) ?_
  intro p e s m args below meth c A Q ls H locs hx hb hr hml hown hts hlocks hname hK hA hRo hP hD hS hQ hl
  have hl : lv_has ls 10 [(0, .ref (q 0)), (1, .int x1), (2, .int x2), (3, .long x3), (5, .int x5)] := hl
  have wd1 := hts (.fieldLink RX3 15 "SumSmith$PlaceSets" "places" "I") (List.mem_of_getElem? (i := 1) rfl)
  have wd2 := hts (.fieldLink RX3 9 "SumSmith$PlaceSets" "syndromes" "[J") (List.mem_of_getElem? (i := 2) rfl)
  have hinX3 : ∀ w ∈ wsX30, w ∈ wsX3_load := fun w h => List.mem_cons_of_mem _ (List.mem_append_right _ h)
  have L14 : ∀ (x2 : Int32) (x3 : Int64) (x5 : Int32) (x6 : Int64) (x8 : Int32) (v_syndromes : (Nat → Int64)) (v_places : Int32) (out : (Nat → Int64)), lp (fun x : (Int64 × Int32 × (Nat → Int64)) => M_X3_load_b14 n x2 x3 x5 v_places x.1 x.2.1 x.2.2) n (x6, x8, v_syndromes) = some out → (∀ (o : (Nat → Int64)), out = o → ∀ (H : Heap) (locs : List Loc), va_P G vwCl (ww_P q cs o v_places v_firstEntry v_nextEntry v_numbers v_counts v_size) H → va_D A (ww_P q cs o v_places v_firstEntry v_nextEntry v_numbers v_counts v_size) → va_S A s.heap H locs → ∀ (ls : Array Slot), lv_has ls 10 [] → W p l e rmX3_load s m args below meth c H locs 0 0 Q (F0 m 71 ls [])) → ∀ (H : Heap) (locs : List Loc), va_P G vwCl (ww_P q cs v_syndromes v_places v_firstEntry v_nextEntry v_numbers v_counts v_size) H → va_D A (ww_P q cs v_syndromes v_places v_firstEntry v_nextEntry v_numbers v_counts v_size) → va_S A s.heap H locs → ∀ (ls : Array Slot), lv_has ls 10 [(0, .ref (q 0)), (2, .int x2), (3, .long x3), (5, .int x5), (6, .long x6), (8, .int x8)] → W p l e rmX3_load s m args below meth c H locs 0 0 Q (F0 m 14 ls []) := by
    intro x2 x3 x5 x6 x8 v_syndromes v_places out hlp hX
    refine lp_ind (fun x => ∀ (H : Heap) (locs : List Loc), va_P G vwCl (ww_P q cs x.2.2 v_places v_firstEntry v_nextEntry v_numbers v_counts v_size) H → va_D A (ww_P q cs x.2.2 v_places v_firstEntry v_nextEntry v_numbers v_counts v_size) → va_S A s.heap H locs → ∀ (ls : Array Slot), lv_has ls 10 [(0, .ref (q 0)), (2, .int x2), (3, .long x3), (5, .int x5), (6, .long x.1), (8, .int x.2.1)] → W p l e rmX3_load s m args below meth c H locs 0 0 Q (F0 m 14 ls [])) ?_ n (x6, x8, v_syndromes) hlp
    clear hlp hP hD hS hl
    rintro ⟨x6, x8, v_syndromes⟩ ob hm hst H locs hP hD hS ls hl
    have hm : M_X3_load_b14 n x2 x3 x5 v_places x6 x8 v_syndromes = some ob := hm
    have hl : lv_has ls 10 [(0, .ref (q 0)), (2, .int x2), (3, .long x3), (5, .int x5), (6, .long x6), (8, .int x8)] := hl
    have hP : va_P G vwCl (ww_P q cs v_syndromes v_places v_firstEntry v_nextEntry v_numbers v_counts v_size) H := hP
    have hD : va_D A (ww_P q cs v_syndromes v_places v_firstEntry v_nextEntry v_numbers v_counts v_size) := hD
    unfold M_X3_load_b14 at hm
    refine lv_iload hx hb dX3_load_14 (lv_at hl 5 rfl) ?_
    refine lv_aload_n hx hb dX3_load_16 rfl (lv_at hl 0 rfl) ?_
    refine va_get (D := G) (ci := 2) (v := .int v_places) (C := RX3) (T := TX3) (N := 3) hx hb hts hinX3 hown hK.1 hP 0 rfl rfl 1 (by decide) wd1 (fun _ h9 => h9) rfl dX3_load_17 ?_
    refine lv_icmp_ge (tgt := 71) hx hb dX3_load_20 (by decide) (fun b1 => ?_) (fun b1 => ?_)
    · have hm := i_t b1 hm
      exact hX _ (st_exit hm hst) H locs hP hD hS ls (lv_sub hl [] rfl)
    · have hm := i_f b1 hm
      refine lv_aload_n hx hb dX3_load_23 rfl (lv_at hl 0 rfl) ?_
      refine va_get (D := G) (ci := 2) (v := .int v_places) (C := RX3) (T := TX3) (N := 3) hx hb hts hinX3 hown hK.1 hP 0 rfl rfl 1 (by decide) wd1 (fun _ h9 => h9) rfl dX3_load_24 ?_
      refine lv_iconst (v := 1) hx hb dX3_load_27 (by decide) ?_
      refine lv_isub hx hb dX3_load_28 ?_
      refine lv_iload hx hb dX3_load_29 (lv_at hl 5 rfl) ?_
      refine lv_isub hx hb dX3_load_31 ?_
      refine lv_istore (lv' := [(9, .int ((v_places - 1) - x8)), (0, .ref (q 0)), (2, .int x2), (3, .long x3), (5, .int x5), (6, .long x6), (8, .int x8)]) hx hb dX3_load_32 hl (by decide) rfl (fun ls hl => ?_)
      refine lv_aload_n hx hb dX3_load_34 rfl (lv_at hl 1 rfl) ?_
      refine va_get (D := G) (ci := 2) (v := .ref (q 1)) (C := RX3) (T := TX3) (N := 3) hx hb hts hinX3 hown hK.1 hP 0 rfl rfl 0 (by decide) wd2 (fun _ h9 => h9) rfl dX3_load_35 ?_
      refine lv_iload hx hb dX3_load_38 (lv_at hl 4 rfl) ?_
      refine lv_if_eq (tgt := 51) hx hb dX3_load_40 (by decide) (fun b2 => ?_) (fun b2 => ?_)
      · have hm := i_t b2 hm
        refine lv_iload hx hb dX3_load_51 (lv_at hl 0 rfl) ?_
        refine lv_lload hx hb dX3_load_53 (lv_at hl 5 rfl) ?_
        obtain ⟨h3, hm⟩ := g_in hm
        refine va_last hx hb hK.1 hP hD hS 1 1 rfl rfl h3 dX3_load_55 (fun H locs hP hD hS => ?_)
        have hP : va_P G vwCl (ww_P q cs (vp_updL v_syndromes ((v_places - 1) - x8).toNatClampNeg x6) v_places v_firstEntry v_nextEntry v_numbers v_counts v_size) H := hP
        have hD : va_D A (ww_P q cs (vp_updL v_syndromes ((v_places - 1) - x8).toNatClampNeg x6) v_places v_firstEntry v_nextEntry v_numbers v_counts v_size) := hD
        refine lv_lload hx hb dX3_load_56 (lv_at hl 5 rfl) ?_
        refine lv_iload_n hx hb dX3_load_58 rfl (lv_at hl 2 rfl) ?_
        refine lv_lload_n hx hb dX3_load_59 rfl (lv_at hl 3 rfl) ?_
        refine k_calll0 (va_runS (As := [.long x6, .int x2, .long x3]) (rest := []) ⟨hx, hb, hml, hown, hts⟩ (c_X1_doubled l G cs H.size    x6 x2 x3 _ rfl) (va_cwS 3 hts gX3_load_X1_doubled rfl rfl rfl hd_X1_doubled ⟨Nat.le_of_ble_eq_true rfl, Nat.le_of_ble_eq_true rfl⟩) ⟨pre_blind, pre_w hK RO.nil P0 D0 (va_new0 hS hA)⟩ rfl rfl hl.1 rfl (lv_room (Nat.le_of_ble_eq_true rfl)) dX3_load_60 ⟨Nat.zero_le _, Nat.zero_le _⟩) hP hS hA (fun H locs hP hS => ?_)
        refine lv_lstore (lv' := [(6, .long (M_X1_doubled x6 x2 x3)), (9, .int ((v_places - 1) - x8)), (0, .ref (q 0)), (2, .int x2), (3, .long x3), (5, .int x5), (8, .int x8)]) hx hb dX3_load_63 hl (by decide) rfl (fun ls hl => ?_)
        refine lv_iinc (v := x8 + 1) (lv' := [(8, .int (x8 + 1)), (6, .long (M_X1_doubled x6 x2 x3)), (9, .int ((v_places - 1) - x8)), (0, .ref (q 0)), (2, .int x2), (3, .long x3), (5, .int x5)]) hx hb dX3_load_65 hl (k := 6) rfl rfl (by decide) rfl (fun ls hl => ?_)
        refine lv_goto (tgt := 14) hx hb dX3_load_68 (by decide) ?_
        exact st_next hm hst H locs hP hD hS ls (lv_sub hl [3, 4, 5, 6, 1, 0] rfl)
      · have hm := i_f b2 hm
        refine lv_iload hx hb dX3_load_43 (lv_at hl 0 rfl) ?_
        refine lv_bipush (v := 7) hx hb dX3_load_45 (by decide) ?_
        refine lv_ixor hx hb dX3_load_47 ?_
        refine lv_goto (tgt := 53) hx hb dX3_load_48 (by decide) ?_
        refine lv_lload hx hb dX3_load_53 (lv_at hl 5 rfl) ?_
        obtain ⟨h4, hm⟩ := g_in hm
        refine va_last hx hb hK.1 hP hD hS 1 1 rfl rfl h4 dX3_load_55 (fun H locs hP hD hS => ?_)
        have hP : va_P G vwCl (ww_P q cs (vp_updL v_syndromes (((v_places - 1) - x8) ^^^ 7).toNatClampNeg x6) v_places v_firstEntry v_nextEntry v_numbers v_counts v_size) H := hP
        have hD : va_D A (ww_P q cs (vp_updL v_syndromes (((v_places - 1) - x8) ^^^ 7).toNatClampNeg x6) v_places v_firstEntry v_nextEntry v_numbers v_counts v_size) := hD
        refine lv_lload hx hb dX3_load_56 (lv_at hl 5 rfl) ?_
        refine lv_iload_n hx hb dX3_load_58 rfl (lv_at hl 2 rfl) ?_
        refine lv_lload_n hx hb dX3_load_59 rfl (lv_at hl 3 rfl) ?_
        refine k_calll0 (va_runS (As := [.long x6, .int x2, .long x3]) (rest := []) ⟨hx, hb, hml, hown, hts⟩ (c_X1_doubled l G cs H.size    x6 x2 x3 _ rfl) (va_cwS 3 hts gX3_load_X1_doubled rfl rfl rfl hd_X1_doubled ⟨Nat.le_of_ble_eq_true rfl, Nat.le_of_ble_eq_true rfl⟩) ⟨pre_blind, pre_w hK RO.nil P0 D0 (va_new0 hS hA)⟩ rfl rfl hl.1 rfl (lv_room (Nat.le_of_ble_eq_true rfl)) dX3_load_60 ⟨Nat.zero_le _, Nat.zero_le _⟩) hP hS hA (fun H locs hP hS => ?_)
        refine lv_lstore (lv' := [(6, .long (M_X1_doubled x6 x2 x3)), (9, .int ((v_places - 1) - x8)), (0, .ref (q 0)), (2, .int x2), (3, .long x3), (5, .int x5), (8, .int x8)]) hx hb dX3_load_63 hl (by decide) rfl (fun ls hl => ?_)
        refine lv_iinc (v := x8 + 1) (lv' := [(8, .int (x8 + 1)), (6, .long (M_X1_doubled x6 x2 x3)), (9, .int ((v_places - 1) - x8)), (0, .ref (q 0)), (2, .int x2), (3, .long x3), (5, .int x5)]) hx hb dX3_load_65 hl (k := 6) rfl rfl (by decide) rfl (fun ls hl => ?_)
        refine lv_goto (tgt := 14) hx hb dX3_load_68 (by decide) ?_
        exact st_next hm hst H locs hP hD hS ls (lv_sub hl [3, 4, 5, 6, 1, 0] rfl)
  unfold M_X3_load at hm
  refine lv_aload_n hx hb dX3_load_0 rfl (lv_at hl 0 rfl) ?_
  refine lv_bipush (v := 8) hx hb dX3_load_1 (by decide) ?_
  refine lv_iload_n hx hb dX3_load_3 rfl (lv_at hl 1 rfl) ?_
  refine lv_imul hx hb dX3_load_4 ?_
  refine va_put (D := G) (ci := 2) (v := .int (8 * x1)) (ty := .int) (C := RX3) (T := TX3) (N := 3) hx hb hts hinX3 tyX3 tyX3_ok nmX3 hown hK.1 hP hD hS 0 rfl rfl 1 (by decide) wd1 (fun _ h9 => h9) rfl (by decide +kernel) rfl rfl (Nat.le_of_ble_eq_true rfl) dX3_load_5 (fun H locs hP hD hS => ?_)
  have hP : va_P G vwCl (ww_P q cs v_syndromes (8 * x1) v_firstEntry v_nextEntry v_numbers v_counts v_size) H := hP
  have hD : va_D A (ww_P q cs v_syndromes (8 * x1) v_firstEntry v_nextEntry v_numbers v_counts v_size) := hD
  refine lv_lload_n hx hb dX3_load_8 rfl (lv_at hl 3 rfl) ?_
  refine lv_lstore (lv' := [(6, .long x3), (0, .ref (q 0)), (1, .int x1), (2, .int x2), (3, .long x3), (5, .int x5)]) hx hb dX3_load_9 hl (by decide) rfl (fun ls hl => ?_)
  refine lv_iconst (v := 0) hx hb dX3_load_11 (by decide) ?_
  refine lv_istore (lv' := [(8, .int 0), (6, .long x3), (0, .ref (q 0)), (1, .int x1), (2, .int x2), (3, .long x3), (5, .int x5)]) hx hb dX3_load_12 hl (by decide) rfl (fun ls hl => ?_)
  obtain ⟨o5, hlp5, hm⟩ := bs hm
  refine L14 x2 x3 x5 x3 (0 : Int32) v_syndromes (8 * x1) o5 hlp5 (fun oo ho => ?_) H locs hP hD hS ls (lv_sub hl [2, 4, 5, 6, 1, 0] rfl)
  subst ho
  intro H locs hP hD hS ls hl
  have hl : lv_has ls 10 [] := hl
  have hP : va_P G vwCl (ww_P q cs o5 (8 * x1) v_firstEntry v_nextEntry v_numbers v_counts v_size) H := hP
  have hD : va_D A (ww_P q cs o5 (8 * x1) v_firstEntry v_nextEntry v_numbers v_counts v_size) := hD
  have hq := Option.some.inj hm
  subst hq; subst hQ
  exact k_vret hx hb hr hlocks hP hD hS dX3_load_71

theorem hd_X3_firstPlaceOf : yX3_firstPlaceOf.cls ≠ "java/lang/invoke/MethodHandle" ∧ yX3_firstPlaceOf.cls ≠ "java/lang/invoke/VarHandle" ∧ (parseMethodDescriptor yX3_firstPlaceOf.desc).map (fun d => d.parameters.length) = some 1 := by decide +kernel

def M_X3_firstPlaceOf_b2 (n : Nat) (x1 : Int64) (v_syndromes : (Nat → Int64)) (v_places : Int32) (x3 : Int32) : Option (Int32 ⊕ (Unit ⊕ Int32)) :=
  if v_places ≤ x3 then (some (.inr (.inl ()))) else (if x3 < 0 ∨ 512 ≤ x3.toNatClampNeg then none else if (v_syndromes x3.toNatClampNeg) = x1 then (some (.inr (.inr x3))) else (some (.inl (x3 + 1))))

def M_X3_firstPlaceOf (n : Nat) (x1 : Int64) (v_syndromes : (Nat → Int64)) (v_places : Int32) : Option Int32 :=
  (lp (fun x : Int32 => M_X3_firstPlaceOf_b2 n x1 v_syndromes v_places x) n (0 : Int32)).bind (Sum.elim (fun o4 => some (-1)) (fun r => some r))

abbrev rmX3_firstPlaceOf : Room := { frames := 0, cells := 0, slots := 0, locals := 0 }
set_option maxHeartbeats 4000000 in
set_option maxRecDepth 100000 in
theorem c_X3_firstPlaceOf (l : Launch) (G : va_G) (cs : CS) (q : Nat → Nat) (sz : Nat) (v_syndromes : (Nat → Int64)) (v_places : Int32) (v_firstEntry : (Nat → Int32)) (v_nextEntry : (Nat → Int32)) (v_numbers : (Nat → Int64)) (v_counts : (Nat → Int32)) (v_size : Int32)   (x1 : Int64) (n : Nat) (res : Int32) (hm : M_X3_firstPlaceOf n x1 v_syndromes v_places = some res) : Met l yX3_firstPlaceOf wsX3_firstPlaceOf rmX3_firstPlaceOf (va_Pc [.ref (q 0), .long x1] (PreW G cs sz (ww_P q cs v_syndromes v_places v_firstEntry v_nextEntry v_numbers v_counts v_size) RN)) (QI G res True (ww_P q cs v_syndromes v_places v_firstEntry v_nextEntry v_numbers v_counts v_size) (va_A (ww_P q cs v_syndromes v_places v_firstEntry v_nextEntry v_numbers v_counts v_size) sz)) 0 0 (va_A (ww_P q cs v_syndromes v_places v_firstEntry v_nextEntry v_numbers v_counts v_size) sz) := by
  refine k_enter (Qf := fun A => QI G res True (ww_P q cs v_syndromes v_places v_firstEntry v_nextEntry v_numbers v_counts v_size) A) (cc := cX3_firstPlaceOf) (maxL := 4) (ret := (some .int)) (plainFor_of_name (by decide)) rfl (Nat.le_of_ble_eq_true rfl) ?_
  intro p e s m args below meth c A Q ls H locs hx hb hr hml hown hts hlocks hname hK hA hRo hP hD hS hQ hl
  have hl : lv_has ls 4 [(0, .ref (q 0)), (1, .long x1)] := hl
  have wd1 := hts (.fieldLink RX3 15 "SumSmith$PlaceSets" "places" "I") (List.mem_of_getElem? (i := 1) rfl)
  have wd2 := hts (.fieldLink RX3 9 "SumSmith$PlaceSets" "syndromes" "[J") (List.mem_of_getElem? (i := 2) rfl)
  have hinX3 : ∀ w ∈ wsX30, w ∈ wsX3_firstPlaceOf := fun w h => List.mem_cons_of_mem _ (List.mem_append_right _ h)
  have L2 : ∀ (x1 : Int64) (x3 : Int32) (out : (Unit ⊕ Int32)), lp (fun x : Int32 => M_X3_firstPlaceOf_b2 n x1 v_syndromes v_places x) n x3 = some out → (∀ r, out = .inr r → r = res) → (∀ (o : Unit), out = .inl o → ∀ (H : Heap) (locs : List Loc), va_P G vwCl (ww_P q cs v_syndromes v_places v_firstEntry v_nextEntry v_numbers v_counts v_size) H → va_D A (ww_P q cs v_syndromes v_places v_firstEntry v_nextEntry v_numbers v_counts v_size) → va_S A s.heap H locs → ∀ (ls : Array Slot), lv_has ls 4 [] → W p l e rmX3_firstPlaceOf s m args below meth c H locs 0 0 Q (F0 m 29 ls [])) → ∀ (H : Heap) (locs : List Loc), va_P G vwCl (ww_P q cs v_syndromes v_places v_firstEntry v_nextEntry v_numbers v_counts v_size) H → va_D A (ww_P q cs v_syndromes v_places v_firstEntry v_nextEntry v_numbers v_counts v_size) → va_S A s.heap H locs → ∀ (ls : Array Slot), lv_has ls 4 [(0, .ref (q 0)), (1, .long x1), (3, .int x3)] → W p l e rmX3_firstPlaceOf s m args below meth c H locs 0 0 Q (F0 m 2 ls []) := by
    intro x1 x3 out hlp hret hX
    refine lp_ind (fun x => ∀ (H : Heap) (locs : List Loc), va_P G vwCl (ww_P q cs v_syndromes v_places v_firstEntry v_nextEntry v_numbers v_counts v_size) H → va_D A (ww_P q cs v_syndromes v_places v_firstEntry v_nextEntry v_numbers v_counts v_size) → va_S A s.heap H locs → ∀ (ls : Array Slot), lv_has ls 4 [(0, .ref (q 0)), (1, .long x1), (3, .int x)] → W p l e rmX3_firstPlaceOf s m args below meth c H locs 0 0 Q (F0 m 2 ls [])) ?_ n x3 hlp
    clear hlp hP hD hS hl
    intro x3 ob hm hst H locs hP hD hS ls hl
    have hm : M_X3_firstPlaceOf_b2 n x1 v_syndromes v_places x3 = some ob := hm
    have hl : lv_has ls 4 [(0, .ref (q 0)), (1, .long x1), (3, .int x3)] := hl
    have hP : va_P G vwCl (ww_P q cs v_syndromes v_places v_firstEntry v_nextEntry v_numbers v_counts v_size) H := hP
    have hD : va_D A (ww_P q cs v_syndromes v_places v_firstEntry v_nextEntry v_numbers v_counts v_size) := hD
    unfold M_X3_firstPlaceOf_b2 at hm
    refine lv_iload_n hx hb dX3_firstPlaceOf_2 rfl (lv_at hl 2 rfl) ?_
    refine lv_aload_n hx hb dX3_firstPlaceOf_3 rfl (lv_at hl 0 rfl) ?_
    refine va_get (D := G) (ci := 2) (v := .int v_places) (C := RX3) (T := TX3) (N := 3) hx hb hts hinX3 hown hK.1 hP 0 rfl rfl 1 (by decide) wd1 (fun _ h9 => h9) rfl dX3_firstPlaceOf_4 ?_
    refine lv_icmp_ge (tgt := 29) hx hb dX3_firstPlaceOf_7 (by decide) (fun b1 => ?_) (fun b1 => ?_)
    · have hm := i_t b1 hm
      exact hX _ (st_exit hm hst) H locs hP hD hS ls (lv_sub hl [] rfl)
    · have hm := i_f b1 hm
      refine lv_aload_n hx hb dX3_firstPlaceOf_10 rfl (lv_at hl 0 rfl) ?_
      refine va_get (D := G) (ci := 2) (v := .ref (q 1)) (C := RX3) (T := TX3) (N := 3) hx hb hts hinX3 hown hK.1 hP 0 rfl rfl 0 (by decide) wd2 (fun _ h9 => h9) rfl dX3_firstPlaceOf_11 ?_
      refine lv_iload_n hx hb dX3_firstPlaceOf_14 rfl (lv_at hl 2 rfl) ?_
      obtain ⟨h2, hm⟩ := g_in hm
      refine va_lald hx hb hK.1 hP 1 1 rfl rfl h2 dX3_firstPlaceOf_15 ?_
      refine lv_lload_n hx hb dX3_firstPlaceOf_16 rfl (lv_at hl 1 rfl) ?_
      refine W.lcmp hx hb dX3_firstPlaceOf_17 ?_
      refine lv_if_ne (tgt := 23) hx hb dX3_firstPlaceOf_18 (by decide) (fun b3 => ?_) (fun b3 => ?_)
      · have b3 := fun h9 => b3 ((lg_cmp_eq _ _).mpr h9)
        have hm := i_f b3 hm
        refine lv_iinc (v := x3 + 1) (lv' := [(3, .int (x3 + 1)), (0, .ref (q 0)), (1, .long x1)]) hx hb dX3_firstPlaceOf_23 hl (k := 2) rfl rfl (by decide) rfl (fun ls hl => ?_)
        refine lv_goto (tgt := 2) hx hb dX3_firstPlaceOf_26 (by decide) ?_
        exact st_next hm hst H locs hP hD hS ls (lv_sub hl [1, 2, 0] rfl)
      · have b3 := (lg_cmp_eq _ _).mp b3
        have hm := i_t b3 hm
        refine lv_iload_n hx hb dX3_firstPlaceOf_21 rfl (lv_at hl 2 rfl) ?_
        have hq := hret _ (st_exit hm hst)
        subst hq; subst hQ
        exact k_iret hx hb hr hlocks hP hD hS rfl trivial dX3_firstPlaceOf_22
  unfold M_X3_firstPlaceOf at hm
  refine lv_iconst (v := 0) hx hb dX3_firstPlaceOf_0 (by decide) ?_
  refine lv_istore_n (lv' := [(3, .int 0), (0, .ref (q 0)), (1, .long x1)]) hx hb dX3_firstPlaceOf_1 rfl hl (by decide) rfl (fun ls hl => ?_)
  obtain ⟨u4, hlp4, hm⟩ := bs hm
  refine L2 x1 (0 : Int32) u4 hlp4 (fun r h => Option.some.inj (se_r h hm)) (fun o4 ho => ?_) H locs hP hD hS ls (lv_sub hl [1, 2, 0] rfl)
  have hm := se_l ho hm
  intro H locs hP hD hS ls hl
  have hl : lv_has ls 4 [] := hl
  have hP : va_P G vwCl (ww_P q cs v_syndromes v_places v_firstEntry v_nextEntry v_numbers v_counts v_size) H := hP
  have hD : va_D A (ww_P q cs v_syndromes v_places v_firstEntry v_nextEntry v_numbers v_counts v_size) := hD
  refine lv_iconst (v := (-1)) hx hb dX3_firstPlaceOf_29 (by decide) ?_
  have hq := Option.some.inj hm
  subst hq; subst hQ
  exact k_iret hx hb hr hlocks hP hD hS rfl trivial dX3_firstPlaceOf_30

theorem hd_X3_howManySingles : yX3_howManySingles.cls ≠ "java/lang/invoke/MethodHandle" ∧ yX3_howManySingles.cls ≠ "java/lang/invoke/VarHandle" ∧ (parseMethodDescriptor yX3_howManySingles.desc).map (fun d => d.parameters.length) = some 0 := by decide +kernel

def M_X3_howManySingles_b4 (n : Nat) (v_syndromes : (Nat → Int64)) (v_places : Int32) (x1 : Int32) (x2 : Int32) : Option ((Int32 × Int32) ⊕ Int32) :=
  if v_places ≤ x2 then (some (.inr x1)) else (if x2 < 0 ∨ 512 ≤ x2.toNatClampNeg then none else if (v_syndromes x2.toNatClampNeg) = 0 then (some (.inl (x1 + 1, x2 + 1))) else (some (.inl (x1, x2 + 1))))

def M_X3_howManySingles (n : Nat)  (v_syndromes : (Nat → Int64)) (v_places : Int32) : Option Int32 :=
  (lp (fun x : (Int32 × Int32) => M_X3_howManySingles_b4 n v_syndromes v_places x.1 x.2) n ((0 : Int32), (0 : Int32))).bind fun o4 => some o4

abbrev rmX3_howManySingles : Room := { frames := 0, cells := 0, slots := 0, locals := 0 }
set_option maxHeartbeats 4000000 in
set_option maxRecDepth 100000 in
theorem c_X3_howManySingles (l : Launch) (G : va_G) (cs : CS) (q : Nat → Nat) (sz : Nat) (v_syndromes : (Nat → Int64)) (v_places : Int32) (v_firstEntry : (Nat → Int32)) (v_nextEntry : (Nat → Int32)) (v_numbers : (Nat → Int64)) (v_counts : (Nat → Int32)) (v_size : Int32)    (n : Nat) (res : Int32) (hm : M_X3_howManySingles n v_syndromes v_places = some res) : Met l yX3_howManySingles wsX3_howManySingles rmX3_howManySingles (va_Pc [.ref (q 0)] (PreW G cs sz (ww_P q cs v_syndromes v_places v_firstEntry v_nextEntry v_numbers v_counts v_size) RN)) (QI G res True (ww_P q cs v_syndromes v_places v_firstEntry v_nextEntry v_numbers v_counts v_size) (va_A (ww_P q cs v_syndromes v_places v_firstEntry v_nextEntry v_numbers v_counts v_size) sz)) 0 0 (va_A (ww_P q cs v_syndromes v_places v_firstEntry v_nextEntry v_numbers v_counts v_size) sz) := by
  refine k_enter (Qf := fun A => QI G res True (ww_P q cs v_syndromes v_places v_firstEntry v_nextEntry v_numbers v_counts v_size) A) (cc := cX3_howManySingles) (maxL := 3) (ret := (some .int)) (plainFor_of_name (by decide)) rfl (Nat.le_of_ble_eq_true rfl) ?_
  intro p e s m args below meth c A Q ls H locs hx hb hr hml hown hts hlocks hname hK hA hRo hP hD hS hQ hl
  have hl : lv_has ls 3 [(0, .ref (q 0))] := hl
  have wd1 := hts (.fieldLink RX3 15 "SumSmith$PlaceSets" "places" "I") (List.mem_of_getElem? (i := 1) rfl)
  have wd2 := hts (.fieldLink RX3 9 "SumSmith$PlaceSets" "syndromes" "[J") (List.mem_of_getElem? (i := 2) rfl)
  have hinX3 : ∀ w ∈ wsX30, w ∈ wsX3_howManySingles := fun w h => List.mem_cons_of_mem _ (List.mem_append_right _ h)
  have L4 : ∀ (x1 : Int32) (x2 : Int32) (out : Int32), lp (fun x : (Int32 × Int32) => M_X3_howManySingles_b4 n v_syndromes v_places x.1 x.2) n (x1, x2) = some out → (∀ (o : Int32), out = o → ∀ (H : Heap) (locs : List Loc), va_P G vwCl (ww_P q cs v_syndromes v_places v_firstEntry v_nextEntry v_numbers v_counts v_size) H → va_D A (ww_P q cs v_syndromes v_places v_firstEntry v_nextEntry v_numbers v_counts v_size) → va_S A s.heap H locs → ∀ (ls : Array Slot), lv_has ls 3 [(1, .int o)] → W p l e rmX3_howManySingles s m args below meth c H locs 0 0 Q (F0 m 32 ls [])) → ∀ (H : Heap) (locs : List Loc), va_P G vwCl (ww_P q cs v_syndromes v_places v_firstEntry v_nextEntry v_numbers v_counts v_size) H → va_D A (ww_P q cs v_syndromes v_places v_firstEntry v_nextEntry v_numbers v_counts v_size) → va_S A s.heap H locs → ∀ (ls : Array Slot), lv_has ls 3 [(0, .ref (q 0)), (1, .int x1), (2, .int x2)] → W p l e rmX3_howManySingles s m args below meth c H locs 0 0 Q (F0 m 4 ls []) := by
    intro x1 x2 out hlp hX
    refine lp_ind (fun x => ∀ (H : Heap) (locs : List Loc), va_P G vwCl (ww_P q cs v_syndromes v_places v_firstEntry v_nextEntry v_numbers v_counts v_size) H → va_D A (ww_P q cs v_syndromes v_places v_firstEntry v_nextEntry v_numbers v_counts v_size) → va_S A s.heap H locs → ∀ (ls : Array Slot), lv_has ls 3 [(0, .ref (q 0)), (1, .int x.1), (2, .int x.2)] → W p l e rmX3_howManySingles s m args below meth c H locs 0 0 Q (F0 m 4 ls [])) ?_ n (x1, x2) hlp
    clear hlp hP hD hS hl
    rintro ⟨x1, x2⟩ ob hm hst H locs hP hD hS ls hl
    have hm : M_X3_howManySingles_b4 n v_syndromes v_places x1 x2 = some ob := hm
    have hl : lv_has ls 3 [(0, .ref (q 0)), (1, .int x1), (2, .int x2)] := hl
    have hP : va_P G vwCl (ww_P q cs v_syndromes v_places v_firstEntry v_nextEntry v_numbers v_counts v_size) H := hP
    have hD : va_D A (ww_P q cs v_syndromes v_places v_firstEntry v_nextEntry v_numbers v_counts v_size) := hD
    unfold M_X3_howManySingles_b4 at hm
    refine lv_iload_n hx hb dX3_howManySingles_4 rfl (lv_at hl 2 rfl) ?_
    refine lv_aload_n hx hb dX3_howManySingles_5 rfl (lv_at hl 0 rfl) ?_
    refine va_get (D := G) (ci := 2) (v := .int v_places) (C := RX3) (T := TX3) (N := 3) hx hb hts hinX3 hown hK.1 hP 0 rfl rfl 1 (by decide) wd1 (fun _ h9 => h9) rfl dX3_howManySingles_6 ?_
    refine lv_icmp_ge (tgt := 32) hx hb dX3_howManySingles_9 (by decide) (fun b1 => ?_) (fun b1 => ?_)
    · have hm := i_t b1 hm
      exact hX _ (st_exit hm hst) H locs hP hD hS ls (lv_sub hl [1] rfl)
    · have hm := i_f b1 hm
      refine lv_aload_n hx hb dX3_howManySingles_12 rfl (lv_at hl 0 rfl) ?_
      refine va_get (D := G) (ci := 2) (v := .ref (q 1)) (C := RX3) (T := TX3) (N := 3) hx hb hts hinX3 hown hK.1 hP 0 rfl rfl 0 (by decide) wd2 (fun _ h9 => h9) rfl dX3_howManySingles_13 ?_
      refine lv_iload_n hx hb dX3_howManySingles_16 rfl (lv_at hl 2 rfl) ?_
      obtain ⟨h2, hm⟩ := g_in hm
      refine va_lald hx hb hK.1 hP 1 1 rfl rfl h2 dX3_howManySingles_17 ?_
      refine lv_lconst (v := 0) hx hb dX3_howManySingles_18 (by decide) ?_
      refine W.lcmp hx hb dX3_howManySingles_19 ?_
      refine lv_if_ne (tgt := 26) hx hb dX3_howManySingles_20 (by decide) (fun b3 => ?_) (fun b3 => ?_)
      · have b3 := fun h9 => b3 ((lg_cmp_eq _ _).mpr h9)
        have hm := i_f b3 hm
        refine lv_iinc (v := x2 + 1) (lv' := [(2, .int (x2 + 1)), (0, .ref (q 0)), (1, .int x1)]) hx hb dX3_howManySingles_26 hl (k := 2) rfl rfl (by decide) rfl (fun ls hl => ?_)
        refine lv_goto (tgt := 4) hx hb dX3_howManySingles_29 (by decide) ?_
        exact st_next hm hst H locs hP hD hS ls (lv_sub hl [1, 2, 0] rfl)
      · have b3 := (lg_cmp_eq _ _).mp b3
        have hm := i_t b3 hm
        refine lv_iinc (v := x1 + 1) (lv' := [(1, .int (x1 + 1)), (0, .ref (q 0)), (2, .int x2)]) hx hb dX3_howManySingles_23 hl (k := 1) rfl rfl (by decide) rfl (fun ls hl => ?_)
        refine lv_iinc (v := x2 + 1) (lv' := [(2, .int (x2 + 1)), (1, .int (x1 + 1)), (0, .ref (q 0))]) hx hb dX3_howManySingles_26 hl (k := 2) rfl rfl (by decide) rfl (fun ls hl => ?_)
        refine lv_goto (tgt := 4) hx hb dX3_howManySingles_29 (by decide) ?_
        exact st_next hm hst H locs hP hD hS ls (lv_sub hl [2, 1, 0] rfl)
  unfold M_X3_howManySingles at hm
  refine lv_iconst (v := 0) hx hb dX3_howManySingles_0 (by decide) ?_
  refine lv_istore_n (lv' := [(1, .int 0), (0, .ref (q 0))]) hx hb dX3_howManySingles_1 rfl hl (by decide) rfl (fun ls hl => ?_)
  refine lv_iconst (v := 0) hx hb dX3_howManySingles_2 (by decide) ?_
  refine lv_istore_n (lv' := [(2, .int 0), (1, .int 0), (0, .ref (q 0))]) hx hb dX3_howManySingles_3 rfl hl (by decide) rfl (fun ls hl => ?_)
  obtain ⟨o4, hlp4, hm⟩ := bs hm
  refine L4 (0 : Int32) (0 : Int32) o4 hlp4 (fun oo ho => ?_) H locs hP hD hS ls (lv_sub hl [2, 1, 0] rfl)
  subst ho
  intro H locs hP hD hS ls hl
  have hl : lv_has ls 3 [(1, .int o4)] := hl
  have hP : va_P G vwCl (ww_P q cs v_syndromes v_places v_firstEntry v_nextEntry v_numbers v_counts v_size) H := hP
  have hD : va_D A (ww_P q cs v_syndromes v_places v_firstEntry v_nextEntry v_numbers v_counts v_size) := hD
  refine lv_iload_n hx hb dX3_howManySingles_32 rfl (lv_at hl 0 rfl) ?_
  have hq := Option.some.inj hm
  subst hq; subst hQ
  exact k_iret hx hb hr hlocks hP hD hS rfl trivial dX3_howManySingles_33

theorem hd_X3_howManyPairs : yX3_howManyPairs.cls ≠ "java/lang/invoke/MethodHandle" ∧ yX3_howManyPairs.cls ≠ "java/lang/invoke/VarHandle" ∧ (parseMethodDescriptor yX3_howManyPairs.desc).map (fun d => d.parameters.length) = some 0 := by decide +kernel

def M_X3_howManyPairs_b16 (n : Nat) (x2 : Int32) (v_syndromes : (Nat → Int64)) (v_places : Int32) (x1 : Int32) (x3 : Int32) : Option ((Int32 × Int32) ⊕ Int32) :=
  if v_places ≤ x3 then (some (.inr x1)) else (if x2 < 0 ∨ 512 ≤ x2.toNatClampNeg then none else if x3 < 0 ∨ 512 ≤ x3.toNatClampNeg then none else if (v_syndromes x2.toNatClampNeg) = (v_syndromes x3.toNatClampNeg) then (some (.inl (x1 + 1, x3 + 1))) else (some (.inl (x1, x3 + 1))))

def M_X3_howManyPairs_b4 (n : Nat) (v_syndromes : (Nat → Int64)) (v_places : Int32) (x1 : Int32) (x2 : Int32) : Option ((Int32 × Int32) ⊕ Int32) :=
  if v_places ≤ x2 then (some (.inr x1)) else ((lp (fun x : (Int32 × Int32) => M_X3_howManyPairs_b16 n x2 v_syndromes v_places x.1 x.2) n (x1, (x2 + 1))).bind fun o6 => some (.inl (o6, x2 + 1)))

def M_X3_howManyPairs (n : Nat)  (v_syndromes : (Nat → Int64)) (v_places : Int32) : Option Int32 :=
  (lp (fun x : (Int32 × Int32) => M_X3_howManyPairs_b4 n v_syndromes v_places x.1 x.2) n ((0 : Int32), (0 : Int32))).bind fun o7 => some o7

abbrev rmX3_howManyPairs : Room := { frames := 0, cells := 0, slots := 0, locals := 0 }
set_option maxHeartbeats 4000000 in
set_option maxRecDepth 100000 in
theorem c_X3_howManyPairs (l : Launch) (G : va_G) (cs : CS) (q : Nat → Nat) (sz : Nat) (v_syndromes : (Nat → Int64)) (v_places : Int32) (v_firstEntry : (Nat → Int32)) (v_nextEntry : (Nat → Int32)) (v_numbers : (Nat → Int64)) (v_counts : (Nat → Int32)) (v_size : Int32)    (n : Nat) (res : Int32) (hm : M_X3_howManyPairs n v_syndromes v_places = some res) : Met l yX3_howManyPairs wsX3_howManyPairs rmX3_howManyPairs (va_Pc [.ref (q 0)] (PreW G cs sz (ww_P q cs v_syndromes v_places v_firstEntry v_nextEntry v_numbers v_counts v_size) RN)) (QI G res True (ww_P q cs v_syndromes v_places v_firstEntry v_nextEntry v_numbers v_counts v_size) (va_A (ww_P q cs v_syndromes v_places v_firstEntry v_nextEntry v_numbers v_counts v_size) sz)) 0 0 (va_A (ww_P q cs v_syndromes v_places v_firstEntry v_nextEntry v_numbers v_counts v_size) sz) := by
  refine k_enter (Qf := fun A => QI G res True (ww_P q cs v_syndromes v_places v_firstEntry v_nextEntry v_numbers v_counts v_size) A) (cc := cX3_howManyPairs) (maxL := 4) (ret := (some .int)) (plainFor_of_name (by decide)) rfl (Nat.le_of_ble_eq_true rfl) ?_
  intro p e s m args below meth c A Q ls H locs hx hb hr hml hown hts hlocks hname hK hA hRo hP hD hS hQ hl
  have hl : lv_has ls 4 [(0, .ref (q 0))] := hl
  have wd1 := hts (.fieldLink RX3 15 "SumSmith$PlaceSets" "places" "I") (List.mem_of_getElem? (i := 1) rfl)
  have wd2 := hts (.fieldLink RX3 9 "SumSmith$PlaceSets" "syndromes" "[J") (List.mem_of_getElem? (i := 2) rfl)
  have hinX3 : ∀ w ∈ wsX30, w ∈ wsX3_howManyPairs := fun w h => List.mem_cons_of_mem _ (List.mem_append_right _ h)
  have L16 : ∀ (x1 : Int32) (x2 : Int32) (x3 : Int32) (out : Int32), lp (fun x : (Int32 × Int32) => M_X3_howManyPairs_b16 n x2 v_syndromes v_places x.1 x.2) n (x1, x3) = some out → (∀ (o : Int32), out = o → ∀ (H : Heap) (locs : List Loc), va_P G vwCl (ww_P q cs v_syndromes v_places v_firstEntry v_nextEntry v_numbers v_counts v_size) H → va_D A (ww_P q cs v_syndromes v_places v_firstEntry v_nextEntry v_numbers v_counts v_size) → va_S A s.heap H locs → ∀ (ls : Array Slot), lv_has ls 4 [(0, .ref (q 0)), (1, .int o), (2, .int x2)] → W p l e rmX3_howManyPairs s m args below meth c H locs 0 0 Q (F0 m 49 ls [])) → ∀ (H : Heap) (locs : List Loc), va_P G vwCl (ww_P q cs v_syndromes v_places v_firstEntry v_nextEntry v_numbers v_counts v_size) H → va_D A (ww_P q cs v_syndromes v_places v_firstEntry v_nextEntry v_numbers v_counts v_size) → va_S A s.heap H locs → ∀ (ls : Array Slot), lv_has ls 4 [(0, .ref (q 0)), (1, .int x1), (2, .int x2), (3, .int x3)] → W p l e rmX3_howManyPairs s m args below meth c H locs 0 0 Q (F0 m 16 ls []) := by
    intro x1 x2 x3 out hlp hX
    refine lp_ind (fun x => ∀ (H : Heap) (locs : List Loc), va_P G vwCl (ww_P q cs v_syndromes v_places v_firstEntry v_nextEntry v_numbers v_counts v_size) H → va_D A (ww_P q cs v_syndromes v_places v_firstEntry v_nextEntry v_numbers v_counts v_size) → va_S A s.heap H locs → ∀ (ls : Array Slot), lv_has ls 4 [(0, .ref (q 0)), (1, .int x.1), (2, .int x2), (3, .int x.2)] → W p l e rmX3_howManyPairs s m args below meth c H locs 0 0 Q (F0 m 16 ls [])) ?_ n (x1, x3) hlp
    clear hlp hP hD hS hl
    rintro ⟨x1, x3⟩ ob hm hst H locs hP hD hS ls hl
    have hm : M_X3_howManyPairs_b16 n x2 v_syndromes v_places x1 x3 = some ob := hm
    have hl : lv_has ls 4 [(0, .ref (q 0)), (1, .int x1), (2, .int x2), (3, .int x3)] := hl
    have hP : va_P G vwCl (ww_P q cs v_syndromes v_places v_firstEntry v_nextEntry v_numbers v_counts v_size) H := hP
    have hD : va_D A (ww_P q cs v_syndromes v_places v_firstEntry v_nextEntry v_numbers v_counts v_size) := hD
    unfold M_X3_howManyPairs_b16 at hm
    refine lv_iload_n hx hb dX3_howManyPairs_16 rfl (lv_at hl 3 rfl) ?_
    refine lv_aload_n hx hb dX3_howManyPairs_17 rfl (lv_at hl 0 rfl) ?_
    refine va_get (D := G) (ci := 2) (v := .int v_places) (C := RX3) (T := TX3) (N := 3) hx hb hts hinX3 hown hK.1 hP 0 rfl rfl 1 (by decide) wd1 (fun _ h9 => h9) rfl dX3_howManyPairs_18 ?_
    refine lv_icmp_ge (tgt := 49) hx hb dX3_howManyPairs_21 (by decide) (fun b2 => ?_) (fun b2 => ?_)
    · have hm := i_t b2 hm
      exact hX _ (st_exit hm hst) H locs hP hD hS ls (lv_sub hl [0, 1, 2] rfl)
    · have hm := i_f b2 hm
      refine lv_aload_n hx hb dX3_howManyPairs_24 rfl (lv_at hl 0 rfl) ?_
      refine va_get (D := G) (ci := 2) (v := .ref (q 1)) (C := RX3) (T := TX3) (N := 3) hx hb hts hinX3 hown hK.1 hP 0 rfl rfl 0 (by decide) wd2 (fun _ h9 => h9) rfl dX3_howManyPairs_25 ?_
      refine lv_iload_n hx hb dX3_howManyPairs_28 rfl (lv_at hl 2 rfl) ?_
      obtain ⟨h3, hm⟩ := g_in hm
      refine va_lald hx hb hK.1 hP 1 1 rfl rfl h3 dX3_howManyPairs_29 ?_
      refine lv_aload_n hx hb dX3_howManyPairs_30 rfl (lv_at hl 0 rfl) ?_
      refine va_get (D := G) (ci := 2) (v := .ref (q 1)) (C := RX3) (T := TX3) (N := 3) hx hb hts hinX3 hown hK.1 hP 0 rfl rfl 0 (by decide) wd2 (fun _ h9 => h9) rfl dX3_howManyPairs_31 ?_
      refine lv_iload_n hx hb dX3_howManyPairs_34 rfl (lv_at hl 3 rfl) ?_
      obtain ⟨h4, hm⟩ := g_in hm
      refine va_lald hx hb hK.1 hP 1 1 rfl rfl h4 dX3_howManyPairs_35 ?_
      refine W.lcmp hx hb dX3_howManyPairs_36 ?_
      refine lv_if_ne (tgt := 43) hx hb dX3_howManyPairs_37 (by decide) (fun b5 => ?_) (fun b5 => ?_)
      · have b5 := fun h9 => b5 ((lg_cmp_eq _ _).mpr h9)
        have hm := i_f b5 hm
        refine lv_iinc (v := x3 + 1) (lv' := [(3, .int (x3 + 1)), (0, .ref (q 0)), (1, .int x1), (2, .int x2)]) hx hb dX3_howManyPairs_43 hl (k := 3) rfl rfl (by decide) rfl (fun ls hl => ?_)
        refine lv_goto (tgt := 16) hx hb dX3_howManyPairs_46 (by decide) ?_
        exact st_next hm hst H locs hP hD hS ls (lv_sub hl [1, 2, 3, 0] rfl)
      · have b5 := (lg_cmp_eq _ _).mp b5
        have hm := i_t b5 hm
        refine lv_iinc (v := x1 + 1) (lv' := [(1, .int (x1 + 1)), (0, .ref (q 0)), (2, .int x2), (3, .int x3)]) hx hb dX3_howManyPairs_40 hl (k := 1) rfl rfl (by decide) rfl (fun ls hl => ?_)
        refine lv_iinc (v := x3 + 1) (lv' := [(3, .int (x3 + 1)), (1, .int (x1 + 1)), (0, .ref (q 0)), (2, .int x2)]) hx hb dX3_howManyPairs_43 hl (k := 3) rfl rfl (by decide) rfl (fun ls hl => ?_)
        refine lv_goto (tgt := 16) hx hb dX3_howManyPairs_46 (by decide) ?_
        exact st_next hm hst H locs hP hD hS ls (lv_sub hl [2, 1, 3, 0] rfl)
  have L4 : ∀ (x1 : Int32) (x2 : Int32) (out : Int32), lp (fun x : (Int32 × Int32) => M_X3_howManyPairs_b4 n v_syndromes v_places x.1 x.2) n (x1, x2) = some out → (∀ (o : Int32), out = o → ∀ (H : Heap) (locs : List Loc), va_P G vwCl (ww_P q cs v_syndromes v_places v_firstEntry v_nextEntry v_numbers v_counts v_size) H → va_D A (ww_P q cs v_syndromes v_places v_firstEntry v_nextEntry v_numbers v_counts v_size) → va_S A s.heap H locs → ∀ (ls : Array Slot), lv_has ls 4 [(1, .int o)] → W p l e rmX3_howManyPairs s m args below meth c H locs 0 0 Q (F0 m 55 ls [])) → ∀ (H : Heap) (locs : List Loc), va_P G vwCl (ww_P q cs v_syndromes v_places v_firstEntry v_nextEntry v_numbers v_counts v_size) H → va_D A (ww_P q cs v_syndromes v_places v_firstEntry v_nextEntry v_numbers v_counts v_size) → va_S A s.heap H locs → ∀ (ls : Array Slot), lv_has ls 4 [(0, .ref (q 0)), (1, .int x1), (2, .int x2)] → W p l e rmX3_howManyPairs s m args below meth c H locs 0 0 Q (F0 m 4 ls []) := by
    intro x1 x2 out hlp hX
    refine lp_ind (fun x => ∀ (H : Heap) (locs : List Loc), va_P G vwCl (ww_P q cs v_syndromes v_places v_firstEntry v_nextEntry v_numbers v_counts v_size) H → va_D A (ww_P q cs v_syndromes v_places v_firstEntry v_nextEntry v_numbers v_counts v_size) → va_S A s.heap H locs → ∀ (ls : Array Slot), lv_has ls 4 [(0, .ref (q 0)), (1, .int x.1), (2, .int x.2)] → W p l e rmX3_howManyPairs s m args below meth c H locs 0 0 Q (F0 m 4 ls [])) ?_ n (x1, x2) hlp
    clear hlp hP hD hS hl
    rintro ⟨x1, x2⟩ ob hm hst H locs hP hD hS ls hl
    have hm : M_X3_howManyPairs_b4 n v_syndromes v_places x1 x2 = some ob := hm
    have hl : lv_has ls 4 [(0, .ref (q 0)), (1, .int x1), (2, .int x2)] := hl
    have hP : va_P G vwCl (ww_P q cs v_syndromes v_places v_firstEntry v_nextEntry v_numbers v_counts v_size) H := hP
    have hD : va_D A (ww_P q cs v_syndromes v_places v_firstEntry v_nextEntry v_numbers v_counts v_size) := hD
    unfold M_X3_howManyPairs_b4 at hm
    refine lv_iload_n hx hb dX3_howManyPairs_4 rfl (lv_at hl 2 rfl) ?_
    refine lv_aload_n hx hb dX3_howManyPairs_5 rfl (lv_at hl 0 rfl) ?_
    refine va_get (D := G) (ci := 2) (v := .int v_places) (C := RX3) (T := TX3) (N := 3) hx hb hts hinX3 hown hK.1 hP 0 rfl rfl 1 (by decide) wd1 (fun _ h9 => h9) rfl dX3_howManyPairs_6 ?_
    refine lv_icmp_ge (tgt := 55) hx hb dX3_howManyPairs_9 (by decide) (fun b1 => ?_) (fun b1 => ?_)
    · have hm := i_t b1 hm
      exact hX _ (st_exit hm hst) H locs hP hD hS ls (lv_sub hl [1] rfl)
    · have hm := i_f b1 hm
      refine lv_iload_n hx hb dX3_howManyPairs_12 rfl (lv_at hl 2 rfl) ?_
      refine lv_iconst (v := 1) hx hb dX3_howManyPairs_13 (by decide) ?_
      refine lv_iadd hx hb dX3_howManyPairs_14 ?_
      refine lv_istore_n (lv' := [(3, .int (x2 + 1)), (0, .ref (q 0)), (1, .int x1), (2, .int x2)]) hx hb dX3_howManyPairs_15 rfl hl (by decide) rfl (fun ls hl => ?_)
      obtain ⟨o6, hlp6, hm⟩ := bs hm
      refine L16 x1 x2 (x2 + 1) o6 hlp6 (fun oo ho => ?_) H locs hP hD hS ls (lv_sub hl [1, 2, 3, 0] rfl)
      subst ho
      intro H locs hP hD hS ls hl
      have hl : lv_has ls 4 [(0, .ref (q 0)), (1, .int o6), (2, .int x2)] := hl
      have hP : va_P G vwCl (ww_P q cs v_syndromes v_places v_firstEntry v_nextEntry v_numbers v_counts v_size) H := hP
      have hD : va_D A (ww_P q cs v_syndromes v_places v_firstEntry v_nextEntry v_numbers v_counts v_size) := hD
      refine lv_iinc (v := x2 + 1) (lv' := [(2, .int (x2 + 1)), (0, .ref (q 0)), (1, .int o6)]) hx hb dX3_howManyPairs_49 hl (k := 2) rfl rfl (by decide) rfl (fun ls hl => ?_)
      refine lv_goto (tgt := 4) hx hb dX3_howManyPairs_52 (by decide) ?_
      exact st_next hm hst H locs hP hD hS ls (lv_sub hl [1, 2, 0] rfl)
  unfold M_X3_howManyPairs at hm
  refine lv_iconst (v := 0) hx hb dX3_howManyPairs_0 (by decide) ?_
  refine lv_istore_n (lv' := [(1, .int 0), (0, .ref (q 0))]) hx hb dX3_howManyPairs_1 rfl hl (by decide) rfl (fun ls hl => ?_)
  refine lv_iconst (v := 0) hx hb dX3_howManyPairs_2 (by decide) ?_
  refine lv_istore_n (lv' := [(2, .int 0), (1, .int 0), (0, .ref (q 0))]) hx hb dX3_howManyPairs_3 rfl hl (by decide) rfl (fun ls hl => ?_)
  obtain ⟨o7, hlp7, hm⟩ := bs hm
  refine L4 (0 : Int32) (0 : Int32) o7 hlp7 (fun oo ho => ?_) H locs hP hD hS ls (lv_sub hl [2, 1, 0] rfl)
  subst ho
  intro H locs hP hD hS ls hl
  have hl : lv_has ls 4 [(1, .int o7)] := hl
  have hP : va_P G vwCl (ww_P q cs v_syndromes v_places v_firstEntry v_nextEntry v_numbers v_counts v_size) H := hP
  have hD : va_D A (ww_P q cs v_syndromes v_places v_firstEntry v_nextEntry v_numbers v_counts v_size) := hD
  refine lv_iload_n hx hb dX3_howManyPairs_55 rfl (lv_at hl 0 rfl) ?_
  have hq := Option.some.inj hm
  subst hq; subst hQ
  exact k_iret hx hb hr hlocks hP hD hS rfl trivial dX3_howManyPairs_56

theorem hd_X3_howManyThrees : yX3_howManyThrees.cls ≠ "java/lang/invoke/MethodHandle" ∧ yX3_howManyThrees.cls ≠ "java/lang/invoke/VarHandle" ∧ (parseMethodDescriptor yX3_howManyThrees.desc).map (fun d => d.parameters.length) = some 0 := by decide +kernel

def M_X3_howManyThrees_b23 (n : Nat) (x2 : Int32) (v_syndromes : (Nat → Int64)) (v_places : Int32) (v_firstEntry : (Nat → Int32)) (v_nextEntry : (Nat → Int32)) (v_numbers : (Nat → Int64)) (v_counts : (Nat → Int32)) (v_size : Int32) (x1 : Int32) (x3 : Int32) : Option ((Int32 × Int32) ⊕ Int32) :=
  if v_places ≤ x3 then (some (.inr x1)) else (if x2 < 0 ∨ 512 ≤ x2.toNatClampNeg then none else if x3 < 0 ∨ 512 ≤ x3.toNatClampNeg then none else (M_X7_timesOf n ((v_syndromes x2.toNatClampNeg) ^^^ (v_syndromes x3.toNatClampNeg)) v_firstEntry v_nextEntry v_numbers v_counts v_size).bind fun r6 => some (.inl (x1 + r6, x3 + 1)))

def M_X3_howManyThrees_b11 (n : Nat) (v_syndromes : (Nat → Int64)) (v_places : Int32) (x1 : Int32) (x2 : Int32) (v_firstEntry : (Nat → Int32)) (v_nextEntry : (Nat → Int32)) (v_numbers : (Nat → Int64)) (v_counts : (Nat → Int32)) (v_size : Int32) : Option ((Int32 × Int32 × (Nat → Int32) × (Nat → Int32) × (Nat → Int64) × (Nat → Int32) × Int32) ⊕ (Int32 × (Nat → Int32) × (Nat → Int32) × (Nat → Int64) × (Nat → Int32) × Int32)) :=
  if v_places ≤ x2 then (some (.inr (x1, v_firstEntry, v_nextEntry, v_numbers, v_counts, v_size))) else ((lp (fun x : (Int32 × Int32) => M_X3_howManyThrees_b23 n x2 v_syndromes v_places v_firstEntry v_nextEntry v_numbers v_counts v_size x.1 x.2) n (x1, (x2 + 1))).bind fun o8 => if x2 < 0 ∨ 512 ≤ x2.toNatClampNeg then none else (M_X7_note n (v_syndromes x2.toNatClampNeg) v_firstEntry v_nextEntry v_numbers v_counts v_size).bind fun r10 => some (.inl (o8, x2 + 1, r10.1, r10.2.1, r10.2.2.1, r10.2.2.2.1, r10.2.2.2.2)))

def M_X3_howManyThrees (n : Nat)  (v_syndromes : (Nat → Int64)) (v_places : Int32) (v_firstEntry : (Nat → Int32)) (v_nextEntry : (Nat → Int32)) (v_numbers : (Nat → Int64)) (v_counts : (Nat → Int32)) (v_size : Int32) : Option (Int32 × (Nat → Int32) × (Nat → Int32) × (Nat → Int64) × (Nat → Int32) × Int32) :=
  (M_X7_forget n v_firstEntry v_size).bind fun r1 => (lp (fun x : (Int32 × Int32 × (Nat → Int32) × (Nat → Int32) × (Nat → Int64) × (Nat → Int32) × Int32) => M_X3_howManyThrees_b11 n v_syndromes v_places x.1 x.2.1 x.2.2.1 x.2.2.2.1 x.2.2.2.2.1 x.2.2.2.2.2.1 x.2.2.2.2.2.2) n ((0 : Int32), (0 : Int32), r1.1, v_nextEntry, v_numbers, v_counts, r1.2)).bind fun o11 => some (o11.1, o11.2.1, o11.2.2.1, o11.2.2.2.1, o11.2.2.2.2.1, o11.2.2.2.2.2)

abbrev rmX3_howManyThrees : Room := { frames := 2, cells := 0, slots := 0, locals := 49 }
set_option maxHeartbeats 4000000 in
set_option maxRecDepth 100000 in
theorem c_X3_howManyThrees (l : Launch) (G : va_G) (cs : CS) (q : Nat → Nat) (sz : Nat) (v_syndromes : (Nat → Int64)) (v_places : Int32) (v_firstEntry : (Nat → Int32)) (v_nextEntry : (Nat → Int32)) (v_numbers : (Nat → Int64)) (v_counts : (Nat → Int32)) (v_size : Int32)    (n : Nat) (res : (Int32 × (Nat → Int32) × (Nat → Int32) × (Nat → Int64) × (Nat → Int32) × Int32)) (hm : M_X3_howManyThrees n v_syndromes v_places v_firstEntry v_nextEntry v_numbers v_counts v_size = some res) : Met l yX3_howManyThrees wsX3_howManyThrees rmX3_howManyThrees (va_Pc [.ref (q 0)] (PreW G cs sz (ww_P q cs v_syndromes v_places v_firstEntry v_nextEntry v_numbers v_counts v_size) RN)) (QI G res.1 True (ww_P q cs v_syndromes v_places res.2.1 res.2.2.1 res.2.2.2.1 res.2.2.2.2.1 res.2.2.2.2.2) (va_A (ww_P q cs v_syndromes v_places v_firstEntry v_nextEntry v_numbers v_counts v_size) sz)) 0 0 (va_A (ww_P q cs v_syndromes v_places v_firstEntry v_nextEntry v_numbers v_counts v_size) sz) := by
  refine k_enter (Qf := fun A => QI G res.1 True (ww_P q cs v_syndromes v_places res.2.1 res.2.2.1 res.2.2.2.1 res.2.2.2.2.1 res.2.2.2.2.2) A) (cc := cX3_howManyThrees) (maxL := 4) (ret := (some .int)) (plainFor_of_name (by decide)) rfl (Nat.le_of_ble_eq_true rfl) ?_
  intro p e s m args below meth c A Q ls H locs hx hb hr hml hown hts hlocks hname hK hA hRo hP hD hS hQ hl
  have hl : lv_has ls 4 [(0, .ref (q 0))] := hl
  have wd1 := hts (.fieldLink RX3 22 "SumSmith$PlaceSets" "tally" "LSumSmith$Tally;") (List.mem_of_getElem? (i := 1) rfl)
  have wd2 := hts (.fieldLink RX3 15 "SumSmith$PlaceSets" "places" "I") (List.mem_of_getElem? (i := 2) rfl)
  have wd3 := hts (.fieldLink RX3 9 "SumSmith$PlaceSets" "syndromes" "[J") (List.mem_of_getElem? (i := 3) rfl)
  have hinX3 : ∀ w ∈ wsX30, w ∈ wsX3_howManyThrees := fun w h => List.mem_cons_of_mem _ (List.mem_append_left _ (List.mem_append_right _ h))
  have L23 : ∀ (x1 : Int32) (x2 : Int32) (x3 : Int32) (v_firstEntry : (Nat → Int32)) (v_nextEntry : (Nat → Int32)) (v_numbers : (Nat → Int64)) (v_counts : (Nat → Int32)) (v_size : Int32) (out : Int32), lp (fun x : (Int32 × Int32) => M_X3_howManyThrees_b23 n x2 v_syndromes v_places v_firstEntry v_nextEntry v_numbers v_counts v_size x.1 x.2) n (x1, x3) = some out → (∀ (o : Int32), out = o → ∀ (H : Heap) (locs : List Loc), va_P G vwCl (ww_P q cs v_syndromes v_places v_firstEntry v_nextEntry v_numbers v_counts v_size) H → va_D A (ww_P q cs v_syndromes v_places v_firstEntry v_nextEntry v_numbers v_counts v_size) → va_S A s.heap H locs → ∀ (ls : Array Slot), lv_has ls 4 [(0, .ref (q 0)), (1, .int o), (2, .int x2)] → W p l e rmX3_howManyThrees s m args below meth c H locs 0 0 Q (F0 m 60 ls [])) → ∀ (H : Heap) (locs : List Loc), va_P G vwCl (ww_P q cs v_syndromes v_places v_firstEntry v_nextEntry v_numbers v_counts v_size) H → va_D A (ww_P q cs v_syndromes v_places v_firstEntry v_nextEntry v_numbers v_counts v_size) → va_S A s.heap H locs → ∀ (ls : Array Slot), lv_has ls 4 [(0, .ref (q 0)), (1, .int x1), (2, .int x2), (3, .int x3)] → W p l e rmX3_howManyThrees s m args below meth c H locs 0 0 Q (F0 m 23 ls []) := by
    intro x1 x2 x3 v_firstEntry v_nextEntry v_numbers v_counts v_size out hlp hX
    refine lp_ind (fun x => ∀ (H : Heap) (locs : List Loc), va_P G vwCl (ww_P q cs v_syndromes v_places v_firstEntry v_nextEntry v_numbers v_counts v_size) H → va_D A (ww_P q cs v_syndromes v_places v_firstEntry v_nextEntry v_numbers v_counts v_size) → va_S A s.heap H locs → ∀ (ls : Array Slot), lv_has ls 4 [(0, .ref (q 0)), (1, .int x.1), (2, .int x2), (3, .int x.2)] → W p l e rmX3_howManyThrees s m args below meth c H locs 0 0 Q (F0 m 23 ls [])) ?_ n (x1, x3) hlp
    clear hlp hP hD hS hl
    rintro ⟨x1, x3⟩ ob hm hst H locs hP hD hS ls hl
    have hm : M_X3_howManyThrees_b23 n x2 v_syndromes v_places v_firstEntry v_nextEntry v_numbers v_counts v_size x1 x3 = some ob := hm
    have hl : lv_has ls 4 [(0, .ref (q 0)), (1, .int x1), (2, .int x2), (3, .int x3)] := hl
    have hP : va_P G vwCl (ww_P q cs v_syndromes v_places v_firstEntry v_nextEntry v_numbers v_counts v_size) H := hP
    have hD : va_D A (ww_P q cs v_syndromes v_places v_firstEntry v_nextEntry v_numbers v_counts v_size) := hD
    unfold M_X3_howManyThrees_b23 at hm
    refine lv_iload_n hx hb dX3_howManyThrees_23 rfl (lv_at hl 3 rfl) ?_
    refine lv_aload_n hx hb dX3_howManyThrees_24 rfl (lv_at hl 0 rfl) ?_
    refine va_get (D := G) (ci := 2) (v := .int v_places) (C := RX3) (T := TX3) (N := 3) hx hb hts hinX3 hown hK.1 hP 0 rfl rfl 1 (by decide) wd2 (fun _ h9 => h9) rfl dX3_howManyThrees_25 ?_
    refine lv_icmp_ge (tgt := 60) hx hb dX3_howManyThrees_28 (by decide) (fun b3 => ?_) (fun b3 => ?_)
    · have hm := i_t b3 hm
      exact hX _ (st_exit hm hst) H locs hP hD hS ls (lv_sub hl [0, 1, 2] rfl)
    · have hm := i_f b3 hm
      refine lv_iload_n hx hb dX3_howManyThrees_31 rfl (lv_at hl 1 rfl) ?_
      refine lv_aload_n hx hb dX3_howManyThrees_32 rfl (lv_at hl 0 rfl) ?_
      refine va_get (D := G) (ci := 2) (v := .ref (q 2)) (C := RX3) (T := TX3) (N := 3) hx hb hts hinX3 hown hK.1 hP 0 rfl rfl 2 (by decide) wd1 (fun _ h9 => h9) rfl dX3_howManyThrees_33 ?_
      refine lv_aload_n hx hb dX3_howManyThrees_36 rfl (lv_at hl 0 rfl) ?_
      refine va_get (D := G) (ci := 2) (v := .ref (q 1)) (C := RX3) (T := TX3) (N := 3) hx hb hts hinX3 hown hK.1 hP 0 rfl rfl 0 (by decide) wd3 (fun _ h9 => h9) rfl dX3_howManyThrees_37 ?_
      refine lv_iload_n hx hb dX3_howManyThrees_40 rfl (lv_at hl 2 rfl) ?_
      obtain ⟨h4, hm⟩ := g_in hm
      refine va_lald hx hb hK.1 hP 1 1 rfl rfl h4 dX3_howManyThrees_41 ?_
      refine lv_aload_n hx hb dX3_howManyThrees_42 rfl (lv_at hl 0 rfl) ?_
      refine va_get (D := G) (ci := 2) (v := .ref (q 1)) (C := RX3) (T := TX3) (N := 3) hx hb hts hinX3 hown hK.1 hP 0 rfl rfl 0 (by decide) wd3 (fun _ h9 => h9) rfl dX3_howManyThrees_43 ?_
      refine lv_iload_n hx hb dX3_howManyThrees_46 rfl (lv_at hl 3 rfl) ?_
      obtain ⟨h5, hm⟩ := g_in hm
      refine va_lald hx hb hK.1 hP 1 1 rfl rfl h5 dX3_howManyThrees_47 ?_
      refine lv_lxor hx hb dX3_howManyThrees_48 ?_
      obtain ⟨r6, hc_r6, hm⟩ := bs hm
      refine k_callij (wr := [((q 0), .inr (2, [.ref (q 1), .int v_places, .ref (q 2)])), ((q 1), .inl (cs.2.1, 512, .inr (.inl v_syndromes)))]) (w2 := (ww_P q cs v_syndromes v_places v_firstEntry v_nextEntry v_numbers v_counts v_size)) (va_runV (As := [.long ((v_syndromes x2.toNatClampNeg) ^^^ (v_syndromes x3.toNatClampNeg))]) (rest := [.int x1]) ⟨hx, hb, hml, hown, hts⟩ (c_X7_timesOf l G cs (fun i => q (i + 2)) H.size v_firstEntry v_nextEntry v_numbers v_counts v_size   ((v_syndromes x2.toNatClampNeg) ^^^ (v_syndromes x3.toNatClampNeg)) n r6 hc_r6) (cwV 1 hts gX3_howManyThrees_X7_timesOf rfl rfl rfl ⟨rfl, hd_X7_timesOf⟩ ⟨Nat.le_of_ble_eq_true rfl, Nat.le_of_ble_eq_true rfl⟩) ⟨pre_blind, va_recv hK.1 hP (ci := 5) (q0 := 2) rfl rfl, pre_w hK RO.nil (P_by hP [2, 3, 4, 5, 6] rfl) (hD.sub [2, 3, 4, 5, 6] (by decide) rfl) (va_free hD hS hA [2, 3, 4, 5, 6] rfl)⟩ rfl rfl hl.1 rfl (lv_room (Nat.le_of_ble_eq_true rfl)) dX3_howManyThrees_49 ⟨Nat.zero_le _, Nat.zero_le _⟩) hP hD hS hA [2, 3, 4, 5, 6] [0, 1] [0, 1, 2, 3, 4, 5, 6] rfl rfl (by decide) (by decide) rfl (by decide) (fun hE7 H locs hP hD hS => ?_)
      have hP : va_P G vwCl (ww_P q cs v_syndromes v_places v_firstEntry v_nextEntry v_numbers v_counts v_size) H := hP
      have hD : va_D A (ww_P q cs v_syndromes v_places v_firstEntry v_nextEntry v_numbers v_counts v_size) := hD
      refine lv_iadd hx hb dX3_howManyThrees_52 ?_
      refine lv_istore_n (lv' := [(1, .int (x1 + r6)), (0, .ref (q 0)), (2, .int x2), (3, .int x3)]) hx hb dX3_howManyThrees_53 rfl hl (by decide) rfl (fun ls hl => ?_)
      refine lv_iinc (v := x3 + 1) (lv' := [(3, .int (x3 + 1)), (1, .int (x1 + r6)), (0, .ref (q 0)), (2, .int x2)]) hx hb dX3_howManyThrees_54 hl (k := 3) rfl rfl (by decide) rfl (fun ls hl => ?_)
      refine lv_goto (tgt := 23) hx hb dX3_howManyThrees_57 (by decide) ?_
      exact st_next hm hst H locs hP hD hS ls (lv_sub hl [2, 1, 3, 0] rfl)
  have L11 : ∀ (x1 : Int32) (x2 : Int32) (v_firstEntry : (Nat → Int32)) (v_nextEntry : (Nat → Int32)) (v_numbers : (Nat → Int64)) (v_counts : (Nat → Int32)) (v_size : Int32) (out : (Int32 × (Nat → Int32) × (Nat → Int32) × (Nat → Int64) × (Nat → Int32) × Int32)), lp (fun x : (Int32 × Int32 × (Nat → Int32) × (Nat → Int32) × (Nat → Int64) × (Nat → Int32) × Int32) => M_X3_howManyThrees_b11 n v_syndromes v_places x.1 x.2.1 x.2.2.1 x.2.2.2.1 x.2.2.2.2.1 x.2.2.2.2.2.1 x.2.2.2.2.2.2) n (x1, x2, v_firstEntry, v_nextEntry, v_numbers, v_counts, v_size) = some out → (∀ (o : (Int32 × (Nat → Int32) × (Nat → Int32) × (Nat → Int64) × (Nat → Int32) × Int32)), out = o → ∀ (H : Heap) (locs : List Loc), va_P G vwCl (ww_P q cs v_syndromes v_places o.2.1 o.2.2.1 o.2.2.2.1 o.2.2.2.2.1 o.2.2.2.2.2) H → va_D A (ww_P q cs v_syndromes v_places o.2.1 o.2.2.1 o.2.2.2.1 o.2.2.2.2.1 o.2.2.2.2.2) → va_S A s.heap H locs → ∀ (ls : Array Slot), lv_has ls 4 [(1, .int o.1)] → W p l e rmX3_howManyThrees s m args below meth c H locs 0 0 Q (F0 m 79 ls [])) → ∀ (H : Heap) (locs : List Loc), va_P G vwCl (ww_P q cs v_syndromes v_places v_firstEntry v_nextEntry v_numbers v_counts v_size) H → va_D A (ww_P q cs v_syndromes v_places v_firstEntry v_nextEntry v_numbers v_counts v_size) → va_S A s.heap H locs → ∀ (ls : Array Slot), lv_has ls 4 [(0, .ref (q 0)), (1, .int x1), (2, .int x2)] → W p l e rmX3_howManyThrees s m args below meth c H locs 0 0 Q (F0 m 11 ls []) := by
    intro x1 x2 v_firstEntry v_nextEntry v_numbers v_counts v_size out hlp hX
    refine lp_ind (fun x => ∀ (H : Heap) (locs : List Loc), va_P G vwCl (ww_P q cs v_syndromes v_places x.2.2.1 x.2.2.2.1 x.2.2.2.2.1 x.2.2.2.2.2.1 x.2.2.2.2.2.2) H → va_D A (ww_P q cs v_syndromes v_places x.2.2.1 x.2.2.2.1 x.2.2.2.2.1 x.2.2.2.2.2.1 x.2.2.2.2.2.2) → va_S A s.heap H locs → ∀ (ls : Array Slot), lv_has ls 4 [(0, .ref (q 0)), (1, .int x.1), (2, .int x.2.1)] → W p l e rmX3_howManyThrees s m args below meth c H locs 0 0 Q (F0 m 11 ls [])) ?_ n (x1, x2, v_firstEntry, v_nextEntry, v_numbers, v_counts, v_size) hlp
    clear hlp hP hD hS hl
    rintro ⟨x1, x2, v_firstEntry, v_nextEntry, v_numbers, v_counts, v_size⟩ ob hm hst H locs hP hD hS ls hl
    have hm : M_X3_howManyThrees_b11 n v_syndromes v_places x1 x2 v_firstEntry v_nextEntry v_numbers v_counts v_size = some ob := hm
    have hl : lv_has ls 4 [(0, .ref (q 0)), (1, .int x1), (2, .int x2)] := hl
    have hP : va_P G vwCl (ww_P q cs v_syndromes v_places v_firstEntry v_nextEntry v_numbers v_counts v_size) H := hP
    have hD : va_D A (ww_P q cs v_syndromes v_places v_firstEntry v_nextEntry v_numbers v_counts v_size) := hD
    unfold M_X3_howManyThrees_b11 at hm
    refine lv_iload_n hx hb dX3_howManyThrees_11 rfl (lv_at hl 2 rfl) ?_
    refine lv_aload_n hx hb dX3_howManyThrees_12 rfl (lv_at hl 0 rfl) ?_
    refine va_get (D := G) (ci := 2) (v := .int v_places) (C := RX3) (T := TX3) (N := 3) hx hb hts hinX3 hown hK.1 hP 0 rfl rfl 1 (by decide) wd2 (fun _ h9 => h9) rfl dX3_howManyThrees_13 ?_
    refine lv_icmp_ge (tgt := 79) hx hb dX3_howManyThrees_16 (by decide) (fun b2 => ?_) (fun b2 => ?_)
    · have hm := i_t b2 hm
      exact hX _ (st_exit hm hst) H locs hP hD hS ls (lv_sub hl [1] rfl)
    · have hm := i_f b2 hm
      refine lv_iload_n hx hb dX3_howManyThrees_19 rfl (lv_at hl 2 rfl) ?_
      refine lv_iconst (v := 1) hx hb dX3_howManyThrees_20 (by decide) ?_
      refine lv_iadd hx hb dX3_howManyThrees_21 ?_
      refine lv_istore_n (lv' := [(3, .int (x2 + 1)), (0, .ref (q 0)), (1, .int x1), (2, .int x2)]) hx hb dX3_howManyThrees_22 rfl hl (by decide) rfl (fun ls hl => ?_)
      obtain ⟨o8, hlp8, hm⟩ := bs hm
      refine L23 x1 x2 (x2 + 1) v_firstEntry v_nextEntry v_numbers v_counts v_size o8 hlp8 (fun oo ho => ?_) H locs hP hD hS ls (lv_sub hl [1, 2, 3, 0] rfl)
      subst ho
      intro H locs hP hD hS ls hl
      have hl : lv_has ls 4 [(0, .ref (q 0)), (1, .int o8), (2, .int x2)] := hl
      have hP : va_P G vwCl (ww_P q cs v_syndromes v_places v_firstEntry v_nextEntry v_numbers v_counts v_size) H := hP
      have hD : va_D A (ww_P q cs v_syndromes v_places v_firstEntry v_nextEntry v_numbers v_counts v_size) := hD
      refine lv_aload_n hx hb dX3_howManyThrees_60 rfl (lv_at hl 0 rfl) ?_
      refine va_get (D := G) (ci := 2) (v := .ref (q 2)) (C := RX3) (T := TX3) (N := 3) hx hb hts hinX3 hown hK.1 hP 0 rfl rfl 2 (by decide) wd1 (fun _ h9 => h9) rfl dX3_howManyThrees_61 ?_
      refine lv_aload_n hx hb dX3_howManyThrees_64 rfl (lv_at hl 0 rfl) ?_
      refine va_get (D := G) (ci := 2) (v := .ref (q 1)) (C := RX3) (T := TX3) (N := 3) hx hb hts hinX3 hown hK.1 hP 0 rfl rfl 0 (by decide) wd3 (fun _ h9 => h9) rfl dX3_howManyThrees_65 ?_
      refine lv_iload_n hx hb dX3_howManyThrees_68 rfl (lv_at hl 2 rfl) ?_
      obtain ⟨h9, hm⟩ := g_in hm
      refine va_lald hx hb hK.1 hP 1 1 rfl rfl h9 dX3_howManyThrees_69 ?_
      obtain ⟨r10, hc_r10, hm⟩ := bs hm
      refine k_callvj (wr := [((q 0), .inr (2, [.ref (q 1), .int v_places, .ref (q 2)])), ((q 1), .inl (cs.2.1, 512, .inr (.inl v_syndromes)))]) (w2 := (ww_P q cs v_syndromes v_places r10.1 r10.2.1 r10.2.2.1 r10.2.2.2.1 r10.2.2.2.2)) (va_runV (As := [.long (v_syndromes x2.toNatClampNeg)]) (rest := []) ⟨hx, hb, hml, hown, hts⟩ (c_X7_note l G cs (fun i => q (i + 2)) H.size v_firstEntry v_nextEntry v_numbers v_counts v_size   (v_syndromes x2.toNatClampNeg) n r10 hc_r10) (cwV 1 hts gX3_howManyThrees_X7_note rfl rfl rfl ⟨rfl, hd_X7_note⟩ ⟨Nat.le_of_ble_eq_true rfl, Nat.le_of_ble_eq_true rfl⟩) ⟨pre_blind, va_recv hK.1 hP (ci := 5) (q0 := 2) rfl rfl, pre_w hK RO.nil (P_by hP [2, 3, 4, 5, 6] rfl) (hD.sub [2, 3, 4, 5, 6] (by decide) rfl) (va_free hD hS hA [2, 3, 4, 5, 6] rfl)⟩ rfl rfl hl.1 rfl (lv_room (Nat.le_of_ble_eq_true rfl)) dX3_howManyThrees_70 ⟨Nat.zero_le _, Nat.zero_le _⟩) hP hD hS hA [2, 3, 4, 5, 6] [0, 1] [0, 1, 2, 3, 4, 5, 6] rfl rfl (by decide) (by decide) rfl (by decide) (fun H locs hP hD hS => ?_)
      have hP : va_P G vwCl (ww_P q cs v_syndromes v_places r10.1 r10.2.1 r10.2.2.1 r10.2.2.2.1 r10.2.2.2.2) H := hP
      have hD : va_D A (ww_P q cs v_syndromes v_places r10.1 r10.2.1 r10.2.2.1 r10.2.2.2.1 r10.2.2.2.2) := hD
      refine lv_iinc (v := x2 + 1) (lv' := [(2, .int (x2 + 1)), (0, .ref (q 0)), (1, .int o8)]) hx hb dX3_howManyThrees_73 hl (k := 2) rfl rfl (by decide) rfl (fun ls hl => ?_)
      refine lv_goto (tgt := 11) hx hb dX3_howManyThrees_76 (by decide) ?_
      exact st_next hm hst H locs hP hD hS ls (lv_sub hl [1, 2, 0] rfl)
  unfold M_X3_howManyThrees at hm
  refine lv_iconst (v := 0) hx hb dX3_howManyThrees_0 (by decide) ?_
  refine lv_istore_n (lv' := [(1, .int 0), (0, .ref (q 0))]) hx hb dX3_howManyThrees_1 rfl hl (by decide) rfl (fun ls hl => ?_)
  refine lv_aload_n hx hb dX3_howManyThrees_2 rfl (lv_at hl 1 rfl) ?_
  refine va_get (D := G) (ci := 2) (v := .ref (q 2)) (C := RX3) (T := TX3) (N := 3) hx hb hts hinX3 hown hK.1 hP 0 rfl rfl 2 (by decide) wd1 (fun _ h9 => h9) rfl dX3_howManyThrees_3 ?_
  obtain ⟨r1, hc_r1, hm⟩ := bs hm
  refine k_callvj (wr := [((q 0), .inr (2, [.ref (q 1), .int v_places, .ref (q 2)])), ((q 1), .inl (cs.2.1, 512, .inr (.inl v_syndromes)))]) (w2 := (ww_P q cs v_syndromes v_places r1.1 v_nextEntry v_numbers v_counts r1.2)) (va_runV (As := []) (rest := []) ⟨hx, hb, hml, hown, hts⟩ (c_X7_forget l G cs (fun i => q (i + 2)) H.size v_firstEntry v_nextEntry v_numbers v_counts v_size    n r1 hc_r1) (cwV 0 hts gX3_howManyThrees_X7_forget rfl rfl rfl ⟨rfl, hd_X7_forget⟩ ⟨Nat.le_of_ble_eq_true rfl, Nat.le_of_ble_eq_true rfl⟩) ⟨pre_blind, va_recv hK.1 hP (ci := 5) (q0 := 2) rfl rfl, pre_w hK RO.nil (P_by hP [2, 3, 4, 5, 6] rfl) (hD.sub [2, 3, 4, 5, 6] (by decide) rfl) (va_free hD hS hA [2, 3, 4, 5, 6] rfl)⟩ rfl rfl hl.1 rfl (lv_room (Nat.le_of_ble_eq_true rfl)) dX3_howManyThrees_6 ⟨Nat.zero_le _, Nat.zero_le _⟩) hP hD hS hA [2, 3, 4, 5, 6] [0, 1] [0, 1, 2, 3, 4, 5, 6] rfl rfl (by decide) (by decide) rfl (by decide) (fun H locs hP hD hS => ?_)
  have hP : va_P G vwCl (ww_P q cs v_syndromes v_places r1.1 v_nextEntry v_numbers v_counts r1.2) H := hP
  have hD : va_D A (ww_P q cs v_syndromes v_places r1.1 v_nextEntry v_numbers v_counts r1.2) := hD
  refine lv_iconst (v := 0) hx hb dX3_howManyThrees_9 (by decide) ?_
  refine lv_istore_n (lv' := [(2, .int 0), (1, .int 0), (0, .ref (q 0))]) hx hb dX3_howManyThrees_10 rfl hl (by decide) rfl (fun ls hl => ?_)
  obtain ⟨o11, hlp11, hm⟩ := bs hm
  refine L11 (0 : Int32) (0 : Int32) r1.1 v_nextEntry v_numbers v_counts r1.2 o11 hlp11 (fun oo ho => ?_) H locs hP hD hS ls (lv_sub hl [2, 1, 0] rfl)
  subst ho
  intro H locs hP hD hS ls hl
  have hl : lv_has ls 4 [(1, .int o11.1)] := hl
  have hP : va_P G vwCl (ww_P q cs v_syndromes v_places o11.2.1 o11.2.2.1 o11.2.2.2.1 o11.2.2.2.2.1 o11.2.2.2.2.2) H := hP
  have hD : va_D A (ww_P q cs v_syndromes v_places o11.2.1 o11.2.2.1 o11.2.2.2.1 o11.2.2.2.2.1 o11.2.2.2.2.2) := hD
  refine lv_iload_n hx hb dX3_howManyThrees_79 rfl (lv_at hl 0 rfl) ?_
  have hq := Option.some.inj hm
  subst hq; subst hQ
  exact k_iret hx hb hr hlocks hP hD hS rfl trivial dX3_howManyThrees_80

theorem hd_X3_howManyFours : yX3_howManyFours.cls ≠ "java/lang/invoke/MethodHandle" ∧ yX3_howManyFours.cls ≠ "java/lang/invoke/VarHandle" ∧ (parseMethodDescriptor yX3_howManyFours.desc).map (fun d => d.parameters.length) = some 0 := by decide +kernel

def M_X3_howManyFours_b23 (n : Nat) (x2 : Int32) (v_syndromes : (Nat → Int64)) (v_places : Int32) (v_firstEntry : (Nat → Int32)) (v_nextEntry : (Nat → Int32)) (v_numbers : (Nat → Int64)) (v_counts : (Nat → Int32)) (v_size : Int32) (x1 : Int32) (x3 : Int32) : Option ((Int32 × Int32) ⊕ Int32) :=
  if v_places ≤ x3 then (some (.inr x1)) else (if x2 < 0 ∨ 512 ≤ x2.toNatClampNeg then none else if x3 < 0 ∨ 512 ≤ x3.toNatClampNeg then none else (M_X7_timesOf n ((v_syndromes x2.toNatClampNeg) ^^^ (v_syndromes x3.toNatClampNeg)) v_firstEntry v_nextEntry v_numbers v_counts v_size).bind fun r6 => some (.inl (x1 + r6, x3 + 1)))

def M_X3_howManyFours_b62 (n : Nat) (x2 : Int32) (v_syndromes : (Nat → Int64)) (x3 : Int32) (v_firstEntry : (Nat → Int32)) (v_nextEntry : (Nat → Int32)) (v_numbers : (Nat → Int64)) (v_counts : (Nat → Int32)) (v_size : Int32) : Option ((Int32 × (Nat → Int32) × (Nat → Int32) × (Nat → Int64) × (Nat → Int32) × Int32) ⊕ ((Nat → Int32) × (Nat → Int32) × (Nat → Int64) × (Nat → Int32) × Int32)) :=
  if x2 ≤ x3 then (some (.inr (v_firstEntry, v_nextEntry, v_numbers, v_counts, v_size))) else (if x3 < 0 ∨ 512 ≤ x3.toNatClampNeg then none else if x2 < 0 ∨ 512 ≤ x2.toNatClampNeg then none else (M_X7_note n ((v_syndromes x3.toNatClampNeg) ^^^ (v_syndromes x2.toNatClampNeg)) v_firstEntry v_nextEntry v_numbers v_counts v_size).bind fun r12 => some (.inl (x3 + 1, r12.1, r12.2.1, r12.2.2.1, r12.2.2.2.1, r12.2.2.2.2)))

def M_X3_howManyFours_b11 (n : Nat) (v_syndromes : (Nat → Int64)) (v_places : Int32) (x1 : Int32) (x2 : Int32) (v_firstEntry : (Nat → Int32)) (v_nextEntry : (Nat → Int32)) (v_numbers : (Nat → Int64)) (v_counts : (Nat → Int32)) (v_size : Int32) : Option ((Int32 × Int32 × (Nat → Int32) × (Nat → Int32) × (Nat → Int64) × (Nat → Int32) × Int32) ⊕ (Int32 × (Nat → Int32) × (Nat → Int32) × (Nat → Int64) × (Nat → Int32) × Int32)) :=
  if v_places ≤ x2 then (some (.inr (x1, v_firstEntry, v_nextEntry, v_numbers, v_counts, v_size))) else ((lp (fun x : (Int32 × Int32) => M_X3_howManyFours_b23 n x2 v_syndromes v_places v_firstEntry v_nextEntry v_numbers v_counts v_size x.1 x.2) n (x1, (x2 + 1))).bind fun o8 => (lp (fun x : (Int32 × (Nat → Int32) × (Nat → Int32) × (Nat → Int64) × (Nat → Int32) × Int32) => M_X3_howManyFours_b62 n x2 v_syndromes x.1 x.2.1 x.2.2.1 x.2.2.2.1 x.2.2.2.2.1 x.2.2.2.2.2) n ((0 : Int32), v_firstEntry, v_nextEntry, v_numbers, v_counts, v_size)).bind fun o13 => some (.inl (o8, x2 + 1, o13.1, o13.2.1, o13.2.2.1, o13.2.2.2.1, o13.2.2.2.2)))

def M_X3_howManyFours (n : Nat)  (v_syndromes : (Nat → Int64)) (v_places : Int32) (v_firstEntry : (Nat → Int32)) (v_nextEntry : (Nat → Int32)) (v_numbers : (Nat → Int64)) (v_counts : (Nat → Int32)) (v_size : Int32) : Option (Int32 × (Nat → Int32) × (Nat → Int32) × (Nat → Int64) × (Nat → Int32) × Int32) :=
  (M_X7_forget n v_firstEntry v_size).bind fun r1 => (lp (fun x : (Int32 × Int32 × (Nat → Int32) × (Nat → Int32) × (Nat → Int64) × (Nat → Int32) × Int32) => M_X3_howManyFours_b11 n v_syndromes v_places x.1 x.2.1 x.2.2.1 x.2.2.2.1 x.2.2.2.2.1 x.2.2.2.2.2.1 x.2.2.2.2.2.2) n ((0 : Int32), (0 : Int32), r1.1, v_nextEntry, v_numbers, v_counts, r1.2)).bind fun o14 => some (o14.1, o14.2.1, o14.2.2.1, o14.2.2.2.1, o14.2.2.2.2.1, o14.2.2.2.2.2)

abbrev rmX3_howManyFours : Room := { frames := 2, cells := 0, slots := 0, locals := 49 }
set_option maxHeartbeats 4000000 in
set_option maxRecDepth 100000 in
theorem c_X3_howManyFours (l : Launch) (G : va_G) (cs : CS) (q : Nat → Nat) (sz : Nat) (v_syndromes : (Nat → Int64)) (v_places : Int32) (v_firstEntry : (Nat → Int32)) (v_nextEntry : (Nat → Int32)) (v_numbers : (Nat → Int64)) (v_counts : (Nat → Int32)) (v_size : Int32)    (n : Nat) (res : (Int32 × (Nat → Int32) × (Nat → Int32) × (Nat → Int64) × (Nat → Int32) × Int32)) (hm : M_X3_howManyFours n v_syndromes v_places v_firstEntry v_nextEntry v_numbers v_counts v_size = some res) : Met l yX3_howManyFours wsX3_howManyFours rmX3_howManyFours (va_Pc [.ref (q 0)] (PreW G cs sz (ww_P q cs v_syndromes v_places v_firstEntry v_nextEntry v_numbers v_counts v_size) RN)) (QI G res.1 True (ww_P q cs v_syndromes v_places res.2.1 res.2.2.1 res.2.2.2.1 res.2.2.2.2.1 res.2.2.2.2.2) (va_A (ww_P q cs v_syndromes v_places v_firstEntry v_nextEntry v_numbers v_counts v_size) sz)) 0 0 (va_A (ww_P q cs v_syndromes v_places v_firstEntry v_nextEntry v_numbers v_counts v_size) sz) := by
  refine k_enter (Qf := fun A => QI G res.1 True (ww_P q cs v_syndromes v_places res.2.1 res.2.2.1 res.2.2.2.1 res.2.2.2.2.1 res.2.2.2.2.2) A) (cc := cX3_howManyFours) (maxL := 4) (ret := (some .int)) (plainFor_of_name (by decide)) rfl (Nat.le_of_ble_eq_true rfl) ?_
  intro p e s m args below meth c A Q ls H locs hx hb hr hml hown hts hlocks hname hK hA hRo hP hD hS hQ hl
  have hl : lv_has ls 4 [(0, .ref (q 0))] := hl
  have wd1 := hts (.fieldLink RX3 22 "SumSmith$PlaceSets" "tally" "LSumSmith$Tally;") (List.mem_of_getElem? (i := 1) rfl)
  have wd2 := hts (.fieldLink RX3 15 "SumSmith$PlaceSets" "places" "I") (List.mem_of_getElem? (i := 2) rfl)
  have wd3 := hts (.fieldLink RX3 9 "SumSmith$PlaceSets" "syndromes" "[J") (List.mem_of_getElem? (i := 3) rfl)
  have hinX3 : ∀ w ∈ wsX30, w ∈ wsX3_howManyFours := fun w h => List.mem_cons_of_mem _ (List.mem_append_left _ (List.mem_append_right _ h))
  have L23 : ∀ (x1 : Int32) (x2 : Int32) (x3 : Int32) (v_firstEntry : (Nat → Int32)) (v_nextEntry : (Nat → Int32)) (v_numbers : (Nat → Int64)) (v_counts : (Nat → Int32)) (v_size : Int32) (out : Int32), lp (fun x : (Int32 × Int32) => M_X3_howManyFours_b23 n x2 v_syndromes v_places v_firstEntry v_nextEntry v_numbers v_counts v_size x.1 x.2) n (x1, x3) = some out → (∀ (o : Int32), out = o → ∀ (H : Heap) (locs : List Loc), va_P G vwCl (ww_P q cs v_syndromes v_places v_firstEntry v_nextEntry v_numbers v_counts v_size) H → va_D A (ww_P q cs v_syndromes v_places v_firstEntry v_nextEntry v_numbers v_counts v_size) → va_S A s.heap H locs → ∀ (ls : Array Slot), lv_has ls 4 [(0, .ref (q 0)), (1, .int o), (2, .int x2)] → W p l e rmX3_howManyFours s m args below meth c H locs 0 0 Q (F0 m 60 ls [])) → ∀ (H : Heap) (locs : List Loc), va_P G vwCl (ww_P q cs v_syndromes v_places v_firstEntry v_nextEntry v_numbers v_counts v_size) H → va_D A (ww_P q cs v_syndromes v_places v_firstEntry v_nextEntry v_numbers v_counts v_size) → va_S A s.heap H locs → ∀ (ls : Array Slot), lv_has ls 4 [(0, .ref (q 0)), (1, .int x1), (2, .int x2), (3, .int x3)] → W p l e rmX3_howManyFours s m args below meth c H locs 0 0 Q (F0 m 23 ls []) := by
    intro x1 x2 x3 v_firstEntry v_nextEntry v_numbers v_counts v_size out hlp hX
    refine lp_ind (fun x => ∀ (H : Heap) (locs : List Loc), va_P G vwCl (ww_P q cs v_syndromes v_places v_firstEntry v_nextEntry v_numbers v_counts v_size) H → va_D A (ww_P q cs v_syndromes v_places v_firstEntry v_nextEntry v_numbers v_counts v_size) → va_S A s.heap H locs → ∀ (ls : Array Slot), lv_has ls 4 [(0, .ref (q 0)), (1, .int x.1), (2, .int x2), (3, .int x.2)] → W p l e rmX3_howManyFours s m args below meth c H locs 0 0 Q (F0 m 23 ls [])) ?_ n (x1, x3) hlp
    clear hlp hP hD hS hl
    rintro ⟨x1, x3⟩ ob hm hst H locs hP hD hS ls hl
    have hm : M_X3_howManyFours_b23 n x2 v_syndromes v_places v_firstEntry v_nextEntry v_numbers v_counts v_size x1 x3 = some ob := hm
    have hl : lv_has ls 4 [(0, .ref (q 0)), (1, .int x1), (2, .int x2), (3, .int x3)] := hl
    have hP : va_P G vwCl (ww_P q cs v_syndromes v_places v_firstEntry v_nextEntry v_numbers v_counts v_size) H := hP
    have hD : va_D A (ww_P q cs v_syndromes v_places v_firstEntry v_nextEntry v_numbers v_counts v_size) := hD
    unfold M_X3_howManyFours_b23 at hm
    refine lv_iload_n hx hb dX3_howManyFours_23 rfl (lv_at hl 3 rfl) ?_
    refine lv_aload_n hx hb dX3_howManyFours_24 rfl (lv_at hl 0 rfl) ?_
    refine va_get (D := G) (ci := 2) (v := .int v_places) (C := RX3) (T := TX3) (N := 3) hx hb hts hinX3 hown hK.1 hP 0 rfl rfl 1 (by decide) wd2 (fun _ h9 => h9) rfl dX3_howManyFours_25 ?_
    refine lv_icmp_ge (tgt := 60) hx hb dX3_howManyFours_28 (by decide) (fun b3 => ?_) (fun b3 => ?_)
    · have hm := i_t b3 hm
      exact hX _ (st_exit hm hst) H locs hP hD hS ls (lv_sub hl [0, 1, 2] rfl)
    · have hm := i_f b3 hm
      refine lv_iload_n hx hb dX3_howManyFours_31 rfl (lv_at hl 1 rfl) ?_
      refine lv_aload_n hx hb dX3_howManyFours_32 rfl (lv_at hl 0 rfl) ?_
      refine va_get (D := G) (ci := 2) (v := .ref (q 2)) (C := RX3) (T := TX3) (N := 3) hx hb hts hinX3 hown hK.1 hP 0 rfl rfl 2 (by decide) wd1 (fun _ h9 => h9) rfl dX3_howManyFours_33 ?_
      refine lv_aload_n hx hb dX3_howManyFours_36 rfl (lv_at hl 0 rfl) ?_
      refine va_get (D := G) (ci := 2) (v := .ref (q 1)) (C := RX3) (T := TX3) (N := 3) hx hb hts hinX3 hown hK.1 hP 0 rfl rfl 0 (by decide) wd3 (fun _ h9 => h9) rfl dX3_howManyFours_37 ?_
      refine lv_iload_n hx hb dX3_howManyFours_40 rfl (lv_at hl 2 rfl) ?_
      obtain ⟨h4, hm⟩ := g_in hm
      refine va_lald hx hb hK.1 hP 1 1 rfl rfl h4 dX3_howManyFours_41 ?_
      refine lv_aload_n hx hb dX3_howManyFours_42 rfl (lv_at hl 0 rfl) ?_
      refine va_get (D := G) (ci := 2) (v := .ref (q 1)) (C := RX3) (T := TX3) (N := 3) hx hb hts hinX3 hown hK.1 hP 0 rfl rfl 0 (by decide) wd3 (fun _ h9 => h9) rfl dX3_howManyFours_43 ?_
      refine lv_iload_n hx hb dX3_howManyFours_46 rfl (lv_at hl 3 rfl) ?_
      obtain ⟨h5, hm⟩ := g_in hm
      refine va_lald hx hb hK.1 hP 1 1 rfl rfl h5 dX3_howManyFours_47 ?_
      refine lv_lxor hx hb dX3_howManyFours_48 ?_
      obtain ⟨r6, hc_r6, hm⟩ := bs hm
      refine k_callij (wr := [((q 0), .inr (2, [.ref (q 1), .int v_places, .ref (q 2)])), ((q 1), .inl (cs.2.1, 512, .inr (.inl v_syndromes)))]) (w2 := (ww_P q cs v_syndromes v_places v_firstEntry v_nextEntry v_numbers v_counts v_size)) (va_runV (As := [.long ((v_syndromes x2.toNatClampNeg) ^^^ (v_syndromes x3.toNatClampNeg))]) (rest := [.int x1]) ⟨hx, hb, hml, hown, hts⟩ (c_X7_timesOf l G cs (fun i => q (i + 2)) H.size v_firstEntry v_nextEntry v_numbers v_counts v_size   ((v_syndromes x2.toNatClampNeg) ^^^ (v_syndromes x3.toNatClampNeg)) n r6 hc_r6) (cwV 1 hts gX3_howManyFours_X7_timesOf rfl rfl rfl ⟨rfl, hd_X7_timesOf⟩ ⟨Nat.le_of_ble_eq_true rfl, Nat.le_of_ble_eq_true rfl⟩) ⟨pre_blind, va_recv hK.1 hP (ci := 5) (q0 := 2) rfl rfl, pre_w hK RO.nil (P_by hP [2, 3, 4, 5, 6] rfl) (hD.sub [2, 3, 4, 5, 6] (by decide) rfl) (va_free hD hS hA [2, 3, 4, 5, 6] rfl)⟩ rfl rfl hl.1 rfl (lv_room (Nat.le_of_ble_eq_true rfl)) dX3_howManyFours_49 ⟨Nat.zero_le _, Nat.zero_le _⟩) hP hD hS hA [2, 3, 4, 5, 6] [0, 1] [0, 1, 2, 3, 4, 5, 6] rfl rfl (by decide) (by decide) rfl (by decide) (fun hE7 H locs hP hD hS => ?_)
      have hP : va_P G vwCl (ww_P q cs v_syndromes v_places v_firstEntry v_nextEntry v_numbers v_counts v_size) H := hP
      have hD : va_D A (ww_P q cs v_syndromes v_places v_firstEntry v_nextEntry v_numbers v_counts v_size) := hD
      refine lv_iadd hx hb dX3_howManyFours_52 ?_
      refine lv_istore_n (lv' := [(1, .int (x1 + r6)), (0, .ref (q 0)), (2, .int x2), (3, .int x3)]) hx hb dX3_howManyFours_53 rfl hl (by decide) rfl (fun ls hl => ?_)
      refine lv_iinc (v := x3 + 1) (lv' := [(3, .int (x3 + 1)), (1, .int (x1 + r6)), (0, .ref (q 0)), (2, .int x2)]) hx hb dX3_howManyFours_54 hl (k := 3) rfl rfl (by decide) rfl (fun ls hl => ?_)
      refine lv_goto (tgt := 23) hx hb dX3_howManyFours_57 (by decide) ?_
      exact st_next hm hst H locs hP hD hS ls (lv_sub hl [2, 1, 3, 0] rfl)
  have L62 : ∀ (x1 : Int32) (x2 : Int32) (x3 : Int32) (v_firstEntry : (Nat → Int32)) (v_nextEntry : (Nat → Int32)) (v_numbers : (Nat → Int64)) (v_counts : (Nat → Int32)) (v_size : Int32) (out : ((Nat → Int32) × (Nat → Int32) × (Nat → Int64) × (Nat → Int32) × Int32)), lp (fun x : (Int32 × (Nat → Int32) × (Nat → Int32) × (Nat → Int64) × (Nat → Int32) × Int32) => M_X3_howManyFours_b62 n x2 v_syndromes x.1 x.2.1 x.2.2.1 x.2.2.2.1 x.2.2.2.2.1 x.2.2.2.2.2) n (x3, v_firstEntry, v_nextEntry, v_numbers, v_counts, v_size) = some out → (∀ (o : ((Nat → Int32) × (Nat → Int32) × (Nat → Int64) × (Nat → Int32) × Int32)), out = o → ∀ (H : Heap) (locs : List Loc), va_P G vwCl (ww_P q cs v_syndromes v_places o.1 o.2.1 o.2.2.1 o.2.2.2.1 o.2.2.2.2) H → va_D A (ww_P q cs v_syndromes v_places o.1 o.2.1 o.2.2.1 o.2.2.2.1 o.2.2.2.2) → va_S A s.heap H locs → ∀ (ls : Array Slot), lv_has ls 4 [(0, .ref (q 0)), (1, .int x1), (2, .int x2)] → W p l e rmX3_howManyFours s m args below meth c H locs 0 0 Q (F0 m 93 ls [])) → ∀ (H : Heap) (locs : List Loc), va_P G vwCl (ww_P q cs v_syndromes v_places v_firstEntry v_nextEntry v_numbers v_counts v_size) H → va_D A (ww_P q cs v_syndromes v_places v_firstEntry v_nextEntry v_numbers v_counts v_size) → va_S A s.heap H locs → ∀ (ls : Array Slot), lv_has ls 4 [(0, .ref (q 0)), (1, .int x1), (2, .int x2), (3, .int x3)] → W p l e rmX3_howManyFours s m args below meth c H locs 0 0 Q (F0 m 62 ls []) := by
    intro x1 x2 x3 v_firstEntry v_nextEntry v_numbers v_counts v_size out hlp hX
    refine lp_ind (fun x => ∀ (H : Heap) (locs : List Loc), va_P G vwCl (ww_P q cs v_syndromes v_places x.2.1 x.2.2.1 x.2.2.2.1 x.2.2.2.2.1 x.2.2.2.2.2) H → va_D A (ww_P q cs v_syndromes v_places x.2.1 x.2.2.1 x.2.2.2.1 x.2.2.2.2.1 x.2.2.2.2.2) → va_S A s.heap H locs → ∀ (ls : Array Slot), lv_has ls 4 [(0, .ref (q 0)), (1, .int x1), (2, .int x2), (3, .int x.1)] → W p l e rmX3_howManyFours s m args below meth c H locs 0 0 Q (F0 m 62 ls [])) ?_ n (x3, v_firstEntry, v_nextEntry, v_numbers, v_counts, v_size) hlp
    clear hlp hP hD hS hl
    rintro ⟨x3, v_firstEntry, v_nextEntry, v_numbers, v_counts, v_size⟩ ob hm hst H locs hP hD hS ls hl
    have hm : M_X3_howManyFours_b62 n x2 v_syndromes x3 v_firstEntry v_nextEntry v_numbers v_counts v_size = some ob := hm
    have hl : lv_has ls 4 [(0, .ref (q 0)), (1, .int x1), (2, .int x2), (3, .int x3)] := hl
    have hP : va_P G vwCl (ww_P q cs v_syndromes v_places v_firstEntry v_nextEntry v_numbers v_counts v_size) H := hP
    have hD : va_D A (ww_P q cs v_syndromes v_places v_firstEntry v_nextEntry v_numbers v_counts v_size) := hD
    unfold M_X3_howManyFours_b62 at hm
    refine lv_iload_n hx hb dX3_howManyFours_62 rfl (lv_at hl 3 rfl) ?_
    refine lv_iload_n hx hb dX3_howManyFours_63 rfl (lv_at hl 2 rfl) ?_
    refine lv_icmp_ge (tgt := 93) hx hb dX3_howManyFours_64 (by decide) (fun b9 => ?_) (fun b9 => ?_)
    · have hm := i_t b9 hm
      exact hX _ (st_exit hm hst) H locs hP hD hS ls (lv_sub hl [0, 1, 2] rfl)
    · have hm := i_f b9 hm
      refine lv_aload_n hx hb dX3_howManyFours_67 rfl (lv_at hl 0 rfl) ?_
      refine va_get (D := G) (ci := 2) (v := .ref (q 2)) (C := RX3) (T := TX3) (N := 3) hx hb hts hinX3 hown hK.1 hP 0 rfl rfl 2 (by decide) wd1 (fun _ h9 => h9) rfl dX3_howManyFours_68 ?_
      refine lv_aload_n hx hb dX3_howManyFours_71 rfl (lv_at hl 0 rfl) ?_
      refine va_get (D := G) (ci := 2) (v := .ref (q 1)) (C := RX3) (T := TX3) (N := 3) hx hb hts hinX3 hown hK.1 hP 0 rfl rfl 0 (by decide) wd3 (fun _ h9 => h9) rfl dX3_howManyFours_72 ?_
      refine lv_iload_n hx hb dX3_howManyFours_75 rfl (lv_at hl 3 rfl) ?_
      obtain ⟨h10, hm⟩ := g_in hm
      refine va_lald hx hb hK.1 hP 1 1 rfl rfl h10 dX3_howManyFours_76 ?_
      refine lv_aload_n hx hb dX3_howManyFours_77 rfl (lv_at hl 0 rfl) ?_
      refine va_get (D := G) (ci := 2) (v := .ref (q 1)) (C := RX3) (T := TX3) (N := 3) hx hb hts hinX3 hown hK.1 hP 0 rfl rfl 0 (by decide) wd3 (fun _ h9 => h9) rfl dX3_howManyFours_78 ?_
      refine lv_iload_n hx hb dX3_howManyFours_81 rfl (lv_at hl 2 rfl) ?_
      obtain ⟨h11, hm⟩ := g_in hm
      refine va_lald hx hb hK.1 hP 1 1 rfl rfl h11 dX3_howManyFours_82 ?_
      refine lv_lxor hx hb dX3_howManyFours_83 ?_
      obtain ⟨r12, hc_r12, hm⟩ := bs hm
      refine k_callvj (wr := [((q 0), .inr (2, [.ref (q 1), .int v_places, .ref (q 2)])), ((q 1), .inl (cs.2.1, 512, .inr (.inl v_syndromes)))]) (w2 := (ww_P q cs v_syndromes v_places r12.1 r12.2.1 r12.2.2.1 r12.2.2.2.1 r12.2.2.2.2)) (va_runV (As := [.long ((v_syndromes x3.toNatClampNeg) ^^^ (v_syndromes x2.toNatClampNeg))]) (rest := []) ⟨hx, hb, hml, hown, hts⟩ (c_X7_note l G cs (fun i => q (i + 2)) H.size v_firstEntry v_nextEntry v_numbers v_counts v_size   ((v_syndromes x3.toNatClampNeg) ^^^ (v_syndromes x2.toNatClampNeg)) n r12 hc_r12) (cwV 1 hts gX3_howManyFours_X7_note rfl rfl rfl ⟨rfl, hd_X7_note⟩ ⟨Nat.le_of_ble_eq_true rfl, Nat.le_of_ble_eq_true rfl⟩) ⟨pre_blind, va_recv hK.1 hP (ci := 5) (q0 := 2) rfl rfl, pre_w hK RO.nil (P_by hP [2, 3, 4, 5, 6] rfl) (hD.sub [2, 3, 4, 5, 6] (by decide) rfl) (va_free hD hS hA [2, 3, 4, 5, 6] rfl)⟩ rfl rfl hl.1 rfl (lv_room (Nat.le_of_ble_eq_true rfl)) dX3_howManyFours_84 ⟨Nat.zero_le _, Nat.zero_le _⟩) hP hD hS hA [2, 3, 4, 5, 6] [0, 1] [0, 1, 2, 3, 4, 5, 6] rfl rfl (by decide) (by decide) rfl (by decide) (fun H locs hP hD hS => ?_)
      have hP : va_P G vwCl (ww_P q cs v_syndromes v_places r12.1 r12.2.1 r12.2.2.1 r12.2.2.2.1 r12.2.2.2.2) H := hP
      have hD : va_D A (ww_P q cs v_syndromes v_places r12.1 r12.2.1 r12.2.2.1 r12.2.2.2.1 r12.2.2.2.2) := hD
      refine lv_iinc (v := x3 + 1) (lv' := [(3, .int (x3 + 1)), (0, .ref (q 0)), (1, .int x1), (2, .int x2)]) hx hb dX3_howManyFours_87 hl (k := 3) rfl rfl (by decide) rfl (fun ls hl => ?_)
      refine lv_goto (tgt := 62) hx hb dX3_howManyFours_90 (by decide) ?_
      exact st_next hm hst H locs hP hD hS ls (lv_sub hl [1, 2, 3, 0] rfl)
  have L11 : ∀ (x1 : Int32) (x2 : Int32) (v_firstEntry : (Nat → Int32)) (v_nextEntry : (Nat → Int32)) (v_numbers : (Nat → Int64)) (v_counts : (Nat → Int32)) (v_size : Int32) (out : (Int32 × (Nat → Int32) × (Nat → Int32) × (Nat → Int64) × (Nat → Int32) × Int32)), lp (fun x : (Int32 × Int32 × (Nat → Int32) × (Nat → Int32) × (Nat → Int64) × (Nat → Int32) × Int32) => M_X3_howManyFours_b11 n v_syndromes v_places x.1 x.2.1 x.2.2.1 x.2.2.2.1 x.2.2.2.2.1 x.2.2.2.2.2.1 x.2.2.2.2.2.2) n (x1, x2, v_firstEntry, v_nextEntry, v_numbers, v_counts, v_size) = some out → (∀ (o : (Int32 × (Nat → Int32) × (Nat → Int32) × (Nat → Int64) × (Nat → Int32) × Int32)), out = o → ∀ (H : Heap) (locs : List Loc), va_P G vwCl (ww_P q cs v_syndromes v_places o.2.1 o.2.2.1 o.2.2.2.1 o.2.2.2.2.1 o.2.2.2.2.2) H → va_D A (ww_P q cs v_syndromes v_places o.2.1 o.2.2.1 o.2.2.2.1 o.2.2.2.2.1 o.2.2.2.2.2) → va_S A s.heap H locs → ∀ (ls : Array Slot), lv_has ls 4 [(1, .int o.1)] → W p l e rmX3_howManyFours s m args below meth c H locs 0 0 Q (F0 m 99 ls [])) → ∀ (H : Heap) (locs : List Loc), va_P G vwCl (ww_P q cs v_syndromes v_places v_firstEntry v_nextEntry v_numbers v_counts v_size) H → va_D A (ww_P q cs v_syndromes v_places v_firstEntry v_nextEntry v_numbers v_counts v_size) → va_S A s.heap H locs → ∀ (ls : Array Slot), lv_has ls 4 [(0, .ref (q 0)), (1, .int x1), (2, .int x2)] → W p l e rmX3_howManyFours s m args below meth c H locs 0 0 Q (F0 m 11 ls []) := by
    intro x1 x2 v_firstEntry v_nextEntry v_numbers v_counts v_size out hlp hX
    refine lp_ind (fun x => ∀ (H : Heap) (locs : List Loc), va_P G vwCl (ww_P q cs v_syndromes v_places x.2.2.1 x.2.2.2.1 x.2.2.2.2.1 x.2.2.2.2.2.1 x.2.2.2.2.2.2) H → va_D A (ww_P q cs v_syndromes v_places x.2.2.1 x.2.2.2.1 x.2.2.2.2.1 x.2.2.2.2.2.1 x.2.2.2.2.2.2) → va_S A s.heap H locs → ∀ (ls : Array Slot), lv_has ls 4 [(0, .ref (q 0)), (1, .int x.1), (2, .int x.2.1)] → W p l e rmX3_howManyFours s m args below meth c H locs 0 0 Q (F0 m 11 ls [])) ?_ n (x1, x2, v_firstEntry, v_nextEntry, v_numbers, v_counts, v_size) hlp
    clear hlp hP hD hS hl
    rintro ⟨x1, x2, v_firstEntry, v_nextEntry, v_numbers, v_counts, v_size⟩ ob hm hst H locs hP hD hS ls hl
    have hm : M_X3_howManyFours_b11 n v_syndromes v_places x1 x2 v_firstEntry v_nextEntry v_numbers v_counts v_size = some ob := hm
    have hl : lv_has ls 4 [(0, .ref (q 0)), (1, .int x1), (2, .int x2)] := hl
    have hP : va_P G vwCl (ww_P q cs v_syndromes v_places v_firstEntry v_nextEntry v_numbers v_counts v_size) H := hP
    have hD : va_D A (ww_P q cs v_syndromes v_places v_firstEntry v_nextEntry v_numbers v_counts v_size) := hD
    unfold M_X3_howManyFours_b11 at hm
    refine lv_iload_n hx hb dX3_howManyFours_11 rfl (lv_at hl 2 rfl) ?_
    refine lv_aload_n hx hb dX3_howManyFours_12 rfl (lv_at hl 0 rfl) ?_
    refine va_get (D := G) (ci := 2) (v := .int v_places) (C := RX3) (T := TX3) (N := 3) hx hb hts hinX3 hown hK.1 hP 0 rfl rfl 1 (by decide) wd2 (fun _ h9 => h9) rfl dX3_howManyFours_13 ?_
    refine lv_icmp_ge (tgt := 99) hx hb dX3_howManyFours_16 (by decide) (fun b2 => ?_) (fun b2 => ?_)
    · have hm := i_t b2 hm
      exact hX _ (st_exit hm hst) H locs hP hD hS ls (lv_sub hl [1] rfl)
    · have hm := i_f b2 hm
      refine lv_iload_n hx hb dX3_howManyFours_19 rfl (lv_at hl 2 rfl) ?_
      refine lv_iconst (v := 1) hx hb dX3_howManyFours_20 (by decide) ?_
      refine lv_iadd hx hb dX3_howManyFours_21 ?_
      refine lv_istore_n (lv' := [(3, .int (x2 + 1)), (0, .ref (q 0)), (1, .int x1), (2, .int x2)]) hx hb dX3_howManyFours_22 rfl hl (by decide) rfl (fun ls hl => ?_)
      obtain ⟨o8, hlp8, hm⟩ := bs hm
      refine L23 x1 x2 (x2 + 1) v_firstEntry v_nextEntry v_numbers v_counts v_size o8 hlp8 (fun oo ho => ?_) H locs hP hD hS ls (lv_sub hl [1, 2, 3, 0] rfl)
      subst ho
      intro H locs hP hD hS ls hl
      have hl : lv_has ls 4 [(0, .ref (q 0)), (1, .int o8), (2, .int x2)] := hl
      have hP : va_P G vwCl (ww_P q cs v_syndromes v_places v_firstEntry v_nextEntry v_numbers v_counts v_size) H := hP
      have hD : va_D A (ww_P q cs v_syndromes v_places v_firstEntry v_nextEntry v_numbers v_counts v_size) := hD
      refine lv_iconst (v := 0) hx hb dX3_howManyFours_60 (by decide) ?_
      refine lv_istore_n (lv' := [(3, .int 0), (0, .ref (q 0)), (1, .int o8), (2, .int x2)]) hx hb dX3_howManyFours_61 rfl hl (by decide) rfl (fun ls hl => ?_)
      obtain ⟨o13, hlp13, hm⟩ := bs hm
      refine L62 o8 x2 (0 : Int32) v_firstEntry v_nextEntry v_numbers v_counts v_size o13 hlp13 (fun oo ho => ?_) H locs hP hD hS ls (lv_sub hl [1, 2, 3, 0] rfl)
      subst ho
      intro H locs hP hD hS ls hl
      have hl : lv_has ls 4 [(0, .ref (q 0)), (1, .int o8), (2, .int x2)] := hl
      have hP : va_P G vwCl (ww_P q cs v_syndromes v_places o13.1 o13.2.1 o13.2.2.1 o13.2.2.2.1 o13.2.2.2.2) H := hP
      have hD : va_D A (ww_P q cs v_syndromes v_places o13.1 o13.2.1 o13.2.2.1 o13.2.2.2.1 o13.2.2.2.2) := hD
      refine lv_iinc (v := x2 + 1) (lv' := [(2, .int (x2 + 1)), (0, .ref (q 0)), (1, .int o8)]) hx hb dX3_howManyFours_93 hl (k := 2) rfl rfl (by decide) rfl (fun ls hl => ?_)
      refine lv_goto (tgt := 11) hx hb dX3_howManyFours_96 (by decide) ?_
      exact st_next hm hst H locs hP hD hS ls (lv_sub hl [1, 2, 0] rfl)
  unfold M_X3_howManyFours at hm
  refine lv_iconst (v := 0) hx hb dX3_howManyFours_0 (by decide) ?_
  refine lv_istore_n (lv' := [(1, .int 0), (0, .ref (q 0))]) hx hb dX3_howManyFours_1 rfl hl (by decide) rfl (fun ls hl => ?_)
  refine lv_aload_n hx hb dX3_howManyFours_2 rfl (lv_at hl 1 rfl) ?_
  refine va_get (D := G) (ci := 2) (v := .ref (q 2)) (C := RX3) (T := TX3) (N := 3) hx hb hts hinX3 hown hK.1 hP 0 rfl rfl 2 (by decide) wd1 (fun _ h9 => h9) rfl dX3_howManyFours_3 ?_
  obtain ⟨r1, hc_r1, hm⟩ := bs hm
  refine k_callvj (wr := [((q 0), .inr (2, [.ref (q 1), .int v_places, .ref (q 2)])), ((q 1), .inl (cs.2.1, 512, .inr (.inl v_syndromes)))]) (w2 := (ww_P q cs v_syndromes v_places r1.1 v_nextEntry v_numbers v_counts r1.2)) (va_runV (As := []) (rest := []) ⟨hx, hb, hml, hown, hts⟩ (c_X7_forget l G cs (fun i => q (i + 2)) H.size v_firstEntry v_nextEntry v_numbers v_counts v_size    n r1 hc_r1) (cwV 0 hts gX3_howManyFours_X7_forget rfl rfl rfl ⟨rfl, hd_X7_forget⟩ ⟨Nat.le_of_ble_eq_true rfl, Nat.le_of_ble_eq_true rfl⟩) ⟨pre_blind, va_recv hK.1 hP (ci := 5) (q0 := 2) rfl rfl, pre_w hK RO.nil (P_by hP [2, 3, 4, 5, 6] rfl) (hD.sub [2, 3, 4, 5, 6] (by decide) rfl) (va_free hD hS hA [2, 3, 4, 5, 6] rfl)⟩ rfl rfl hl.1 rfl (lv_room (Nat.le_of_ble_eq_true rfl)) dX3_howManyFours_6 ⟨Nat.zero_le _, Nat.zero_le _⟩) hP hD hS hA [2, 3, 4, 5, 6] [0, 1] [0, 1, 2, 3, 4, 5, 6] rfl rfl (by decide) (by decide) rfl (by decide) (fun H locs hP hD hS => ?_)
  have hP : va_P G vwCl (ww_P q cs v_syndromes v_places r1.1 v_nextEntry v_numbers v_counts r1.2) H := hP
  have hD : va_D A (ww_P q cs v_syndromes v_places r1.1 v_nextEntry v_numbers v_counts r1.2) := hD
  refine lv_iconst (v := 0) hx hb dX3_howManyFours_9 (by decide) ?_
  refine lv_istore_n (lv' := [(2, .int 0), (1, .int 0), (0, .ref (q 0))]) hx hb dX3_howManyFours_10 rfl hl (by decide) rfl (fun ls hl => ?_)
  obtain ⟨o14, hlp14, hm⟩ := bs hm
  refine L11 (0 : Int32) (0 : Int32) r1.1 v_nextEntry v_numbers v_counts r1.2 o14 hlp14 (fun oo ho => ?_) H locs hP hD hS ls (lv_sub hl [2, 1, 0] rfl)
  subst ho
  intro H locs hP hD hS ls hl
  have hl : lv_has ls 4 [(1, .int o14.1)] := hl
  have hP : va_P G vwCl (ww_P q cs v_syndromes v_places o14.2.1 o14.2.2.1 o14.2.2.2.1 o14.2.2.2.2.1 o14.2.2.2.2.2) H := hP
  have hD : va_D A (ww_P q cs v_syndromes v_places o14.2.1 o14.2.2.1 o14.2.2.2.1 o14.2.2.2.2.1 o14.2.2.2.2.2) := hD
  refine lv_iload_n hx hb dX3_howManyFours_99 rfl (lv_at hl 0 rfl) ?_
  have hq := Option.some.inj hm
  subst hq; subst hQ
  exact k_iret hx hb hr hlocks hP hD hS rfl trivial dX3_howManyFours_100

theorem hd_X3_howMany : yX3_howMany.cls ≠ "java/lang/invoke/MethodHandle" ∧ yX3_howMany.cls ≠ "java/lang/invoke/VarHandle" ∧ (parseMethodDescriptor yX3_howMany.desc).map (fun d => d.parameters.length) = some 1 := by decide +kernel

def M_X3_howMany (n : Nat) (x1 : Int32) (v_syndromes : (Nat → Int64)) (v_places : Int32) (v_firstEntry : (Nat → Int32)) (v_nextEntry : (Nat → Int32)) (v_numbers : (Nat → Int64)) (v_counts : (Nat → Int32)) (v_size : Int32) : Option (Int32 × (Nat → Int32) × (Nat → Int32) × (Nat → Int64) × (Nat → Int32) × Int32) :=
  if x1 = 1 then ((M_X3_howManySingles n v_syndromes v_places).bind fun r2 => some (r2, v_firstEntry, v_nextEntry, v_numbers, v_counts, v_size)) else (if x1 = 2 then ((M_X3_howManyPairs n v_syndromes v_places).bind fun r5 => some (r5, v_firstEntry, v_nextEntry, v_numbers, v_counts, v_size)) else (if x1 = 3 then ((M_X3_howManyThrees n v_syndromes v_places v_firstEntry v_nextEntry v_numbers v_counts v_size).bind fun r8 => some (r8.1, r8.2.1, r8.2.2.1, r8.2.2.2.1, r8.2.2.2.2.1, r8.2.2.2.2.2)) else ((M_X3_howManyFours n v_syndromes v_places v_firstEntry v_nextEntry v_numbers v_counts v_size).bind fun r10 => some (r10.1, r10.2.1, r10.2.2.1, r10.2.2.2.1, r10.2.2.2.2.1, r10.2.2.2.2.2))))

abbrev rmX3_howMany : Room := { frames := 3, cells := 0, slots := 0, locals := 72 }
set_option maxHeartbeats 4000000 in
set_option maxRecDepth 100000 in
theorem c_X3_howMany (l : Launch) (G : va_G) (cs : CS) (q : Nat → Nat) (sz : Nat) (v_syndromes : (Nat → Int64)) (v_places : Int32) (v_firstEntry : (Nat → Int32)) (v_nextEntry : (Nat → Int32)) (v_numbers : (Nat → Int64)) (v_counts : (Nat → Int32)) (v_size : Int32)   (x1 : Int32) (n : Nat) (res : (Int32 × (Nat → Int32) × (Nat → Int32) × (Nat → Int64) × (Nat → Int32) × Int32)) (hm : M_X3_howMany n x1 v_syndromes v_places v_firstEntry v_nextEntry v_numbers v_counts v_size = some res) : Met l yX3_howMany wsX3_howMany rmX3_howMany (va_Pc [.ref (q 0), .int x1] (PreW G cs sz (ww_P q cs v_syndromes v_places v_firstEntry v_nextEntry v_numbers v_counts v_size) RN)) (QI G res.1 True (ww_P q cs v_syndromes v_places res.2.1 res.2.2.1 res.2.2.2.1 res.2.2.2.2.1 res.2.2.2.2.2) (va_A (ww_P q cs v_syndromes v_places v_firstEntry v_nextEntry v_numbers v_counts v_size) sz)) 0 0 (va_A (ww_P q cs v_syndromes v_places v_firstEntry v_nextEntry v_numbers v_counts v_size) sz) := by
  refine k_enter (Qf := fun A => QI G res.1 True (ww_P q cs v_syndromes v_places res.2.1 res.2.2.1 res.2.2.2.1 res.2.2.2.2.1 res.2.2.2.2.2) A) (cc := cX3_howMany) (maxL := 2) (ret := (some .int)) (plainFor_of_name (by decide)) rfl (Nat.le_of_ble_eq_true rfl) ?_
  intro p e s m args below meth c A Q ls H locs hx hb hr hml hown hts hlocks hname hK hA hRo hP hD hS hQ hl
  have hl : lv_has ls 2 [(0, .ref (q 0)), (1, .int x1)] := hl
  unfold M_X3_howMany at hm
  refine lv_iload_n hx hb dX3_howMany_0 rfl (lv_at hl 1 rfl) ?_
  by_cases b1 : x1 = 1
  · have hm := i_t b1 hm
    refine lv_tableIn (tgt := 28) hx hb dX3_howMany_1 (by rw [b1]; decide) (by rw [b1]; decide) (by rw [b1]; rfl) (by decide) ?_
    refine lv_aload_n hx hb dX3_howMany_28 rfl (lv_at hl 0 rfl) ?_
    obtain ⟨r2, hc_r2, hm⟩ := bs hm
    refine k_calli (va_runV (As := []) (rest := []) ⟨hx, hb, hml, hown, hts⟩ (c_X3_howManySingles l G cs q H.size v_syndromes v_places v_firstEntry v_nextEntry v_numbers v_counts v_size    n r2 hc_r2) (cwV 0 hts gX3_howMany_X3_howManySingles rfl rfl rfl ⟨rfl, hd_X3_howManySingles⟩ ⟨Nat.le_of_ble_eq_true rfl, Nat.le_of_ble_eq_true rfl⟩) ⟨pre_blind, va_recv hK.1 hP (ci := 2) (q0 := 0) rfl rfl, pre_w hK RO.nil hP hD (va_all hD hS hA)⟩ rfl rfl hl.1 rfl (lv_room (Nat.le_of_ble_eq_true rfl)) dX3_howMany_29 ⟨Nat.zero_le _, Nat.zero_le _⟩) hS (va_all hD hS hA) (fun hE3 H locs hP hD hS => ?_)
    have hP : va_P G vwCl (ww_P q cs v_syndromes v_places v_firstEntry v_nextEntry v_numbers v_counts v_size) H := hP
    have hD : va_D A (ww_P q cs v_syndromes v_places v_firstEntry v_nextEntry v_numbers v_counts v_size) := hD
    have hq := Option.some.inj hm
    subst hq; subst hQ
    exact k_iret hx hb hr hlocks hP hD hS rfl trivial dX3_howMany_32
  have hm := i_f b1 hm
  by_cases b4 : x1 = 2
  · have hm := i_t b4 hm
    refine lv_tableIn (tgt := 33) hx hb dX3_howMany_1 (by rw [b4]; decide) (by rw [b4]; decide) (by rw [b4]; rfl) (by decide) ?_
    refine lv_aload_n hx hb dX3_howMany_33 rfl (lv_at hl 0 rfl) ?_
    obtain ⟨r5, hc_r5, hm⟩ := bs hm
    refine k_calli (va_runV (As := []) (rest := []) ⟨hx, hb, hml, hown, hts⟩ (c_X3_howManyPairs l G cs q H.size v_syndromes v_places v_firstEntry v_nextEntry v_numbers v_counts v_size    n r5 hc_r5) (cwV 0 hts gX3_howMany_X3_howManyPairs rfl rfl rfl ⟨rfl, hd_X3_howManyPairs⟩ ⟨Nat.le_of_ble_eq_true rfl, Nat.le_of_ble_eq_true rfl⟩) ⟨pre_blind, va_recv hK.1 hP (ci := 2) (q0 := 0) rfl rfl, pre_w hK RO.nil hP hD (va_all hD hS hA)⟩ rfl rfl hl.1 rfl (lv_room (Nat.le_of_ble_eq_true rfl)) dX3_howMany_34 ⟨Nat.zero_le _, Nat.zero_le _⟩) hS (va_all hD hS hA) (fun hE6 H locs hP hD hS => ?_)
    have hP : va_P G vwCl (ww_P q cs v_syndromes v_places v_firstEntry v_nextEntry v_numbers v_counts v_size) H := hP
    have hD : va_D A (ww_P q cs v_syndromes v_places v_firstEntry v_nextEntry v_numbers v_counts v_size) := hD
    have hq := Option.some.inj hm
    subst hq; subst hQ
    exact k_iret hx hb hr hlocks hP hD hS rfl trivial dX3_howMany_37
  have hm := i_f b4 hm
  by_cases b7 : x1 = 3
  · have hm := i_t b7 hm
    refine lv_tableIn (tgt := 38) hx hb dX3_howMany_1 (by rw [b7]; decide) (by rw [b7]; decide) (by rw [b7]; rfl) (by decide) ?_
    refine lv_aload_n hx hb dX3_howMany_38 rfl (lv_at hl 0 rfl) ?_
    obtain ⟨r8, hc_r8, hm⟩ := bs hm
    refine k_calli (va_runV (As := []) (rest := []) ⟨hx, hb, hml, hown, hts⟩ (c_X3_howManyThrees l G cs q H.size v_syndromes v_places v_firstEntry v_nextEntry v_numbers v_counts v_size    n r8 hc_r8) (cwV 0 hts gX3_howMany_X3_howManyThrees rfl rfl rfl ⟨rfl, hd_X3_howManyThrees⟩ ⟨Nat.le_of_ble_eq_true rfl, Nat.le_of_ble_eq_true rfl⟩) ⟨pre_blind, va_recv hK.1 hP (ci := 2) (q0 := 0) rfl rfl, pre_w hK RO.nil hP hD (va_all hD hS hA)⟩ rfl rfl hl.1 rfl (lv_room (Nat.le_of_ble_eq_true rfl)) dX3_howMany_39 ⟨Nat.zero_le _, Nat.zero_le _⟩) hS (va_all hD hS hA) (fun hE9 H locs hP hD hS => ?_)
    have hP : va_P G vwCl (ww_P q cs v_syndromes v_places r8.2.1 r8.2.2.1 r8.2.2.2.1 r8.2.2.2.2.1 r8.2.2.2.2.2) H := hP
    have hD : va_D A (ww_P q cs v_syndromes v_places r8.2.1 r8.2.2.1 r8.2.2.2.1 r8.2.2.2.2.1 r8.2.2.2.2.2) := hD
    have hq := Option.some.inj hm
    subst hq; subst hQ
    exact k_iret hx hb hr hlocks hP hD hS rfl trivial dX3_howMany_42
  have hm := i_f b7 hm
  have b1 : ¬ (x1).toInt = 1 := fun e9 => ne_ti b1 (e9.trans (by decide))
  have b4 : ¬ (x1).toInt = 2 := fun e9 => ne_ti b4 (e9.trans (by decide))
  have b7 : ¬ (x1).toInt = 3 := fun e9 => ne_ti b7 (e9.trans (by decide))
  refine lv_tableOut (tgt := 43) hx hb dX3_howMany_1 (by omega) (by decide) ?_
  refine lv_aload_n hx hb dX3_howMany_43 rfl (lv_at hl 0 rfl) ?_
  obtain ⟨r10, hc_r10, hm⟩ := bs hm
  refine k_calli (va_runV (As := []) (rest := []) ⟨hx, hb, hml, hown, hts⟩ (c_X3_howManyFours l G cs q H.size v_syndromes v_places v_firstEntry v_nextEntry v_numbers v_counts v_size    n r10 hc_r10) (cwV 0 hts gX3_howMany_X3_howManyFours rfl rfl rfl ⟨rfl, hd_X3_howManyFours⟩ ⟨Nat.le_of_ble_eq_true rfl, Nat.le_of_ble_eq_true rfl⟩) ⟨pre_blind, va_recv hK.1 hP (ci := 2) (q0 := 0) rfl rfl, pre_w hK RO.nil hP hD (va_all hD hS hA)⟩ rfl rfl hl.1 rfl (lv_room (Nat.le_of_ble_eq_true rfl)) dX3_howMany_44 ⟨Nat.zero_le _, Nat.zero_le _⟩) hS (va_all hD hS hA) (fun hE11 H locs hP hD hS => ?_)
  have hP : va_P G vwCl (ww_P q cs v_syndromes v_places r10.2.1 r10.2.2.1 r10.2.2.2.1 r10.2.2.2.2.1 r10.2.2.2.2.2) H := hP
  have hD : va_D A (ww_P q cs v_syndromes v_places r10.2.1 r10.2.2.1 r10.2.2.2.1 r10.2.2.2.2.1 r10.2.2.2.2.2) := hD
  have hq := Option.some.inj hm
  subst hq; subst hQ
  exact k_iret hx hb hr hlocks hP hD hS rfl trivial dX3_howMany_47

theorem hd_X3_leastSize : yX3_leastSize.cls ≠ "java/lang/invoke/MethodHandle" ∧ yX3_leastSize.cls ≠ "java/lang/invoke/VarHandle" ∧ (parseMethodDescriptor yX3_leastSize.desc).map (fun d => d.parameters.length) = some 0 := by decide +kernel

def M_X3_leastSize_b2 (n : Nat) (v_syndromes : (Nat → Int64)) (v_places : Int32) (x1 : Int32) (v_firstEntry : (Nat → Int32)) (v_nextEntry : (Nat → Int32)) (v_numbers : (Nat → Int64)) (v_counts : (Nat → Int32)) (v_size : Int32) : Option ((Int32 × (Nat → Int32) × (Nat → Int32) × (Nat → Int64) × (Nat → Int32) × Int32) ⊕ (Int32 × (Nat → Int32) × (Nat → Int32) × (Nat → Int64) × (Nat → Int32) × Int32)) :=
  if 4 < x1 then (some (.inr (x1, v_firstEntry, v_nextEntry, v_numbers, v_counts, v_size))) else ((M_X3_howMany n x1 v_syndromes v_places v_firstEntry v_nextEntry v_numbers v_counts v_size).bind fun r2 => if r2.1 = 0 then (some (.inl (x1 + 1, r2.2.1, r2.2.2.1, r2.2.2.2.1, r2.2.2.2.2.1, r2.2.2.2.2.2))) else (some (.inr (x1, r2.2.1, r2.2.2.1, r2.2.2.2.1, r2.2.2.2.2.1, r2.2.2.2.2.2))))

def M_X3_leastSize (n : Nat)  (v_syndromes : (Nat → Int64)) (v_places : Int32) (v_firstEntry : (Nat → Int32)) (v_nextEntry : (Nat → Int32)) (v_numbers : (Nat → Int64)) (v_counts : (Nat → Int32)) (v_size : Int32) : Option (Int32 × (Nat → Int32) × (Nat → Int32) × (Nat → Int64) × (Nat → Int32) × Int32) :=
  (lp (fun x : (Int32 × (Nat → Int32) × (Nat → Int32) × (Nat → Int64) × (Nat → Int32) × Int32) => M_X3_leastSize_b2 n v_syndromes v_places x.1 x.2.1 x.2.2.1 x.2.2.2.1 x.2.2.2.2.1 x.2.2.2.2.2) n ((1 : Int32), v_firstEntry, v_nextEntry, v_numbers, v_counts, v_size)).bind fun o5 => some (o5.1, o5.2.1, o5.2.2.1, o5.2.2.2.1, o5.2.2.2.2.1, o5.2.2.2.2.2)

abbrev rmX3_leastSize : Room := { frames := 4, cells := 0, slots := 0, locals := 93 }
set_option maxHeartbeats 4000000 in
set_option maxRecDepth 100000 in
theorem c_X3_leastSize (l : Launch) (G : va_G) (cs : CS) (q : Nat → Nat) (sz : Nat) (v_syndromes : (Nat → Int64)) (v_places : Int32) (v_firstEntry : (Nat → Int32)) (v_nextEntry : (Nat → Int32)) (v_numbers : (Nat → Int64)) (v_counts : (Nat → Int32)) (v_size : Int32)    (n : Nat) (res : (Int32 × (Nat → Int32) × (Nat → Int32) × (Nat → Int64) × (Nat → Int32) × Int32)) (hm : M_X3_leastSize n v_syndromes v_places v_firstEntry v_nextEntry v_numbers v_counts v_size = some res) : Met l yX3_leastSize wsX3_leastSize rmX3_leastSize (va_Pc [.ref (q 0)] (PreW G cs sz (ww_P q cs v_syndromes v_places v_firstEntry v_nextEntry v_numbers v_counts v_size) RN)) (QI G res.1 True (ww_P q cs v_syndromes v_places res.2.1 res.2.2.1 res.2.2.2.1 res.2.2.2.2.1 res.2.2.2.2.2) (va_A (ww_P q cs v_syndromes v_places v_firstEntry v_nextEntry v_numbers v_counts v_size) sz)) 0 0 (va_A (ww_P q cs v_syndromes v_places v_firstEntry v_nextEntry v_numbers v_counts v_size) sz) := by
  refine k_enter (Qf := fun A => QI G res.1 True (ww_P q cs v_syndromes v_places res.2.1 res.2.2.1 res.2.2.2.1 res.2.2.2.2.1 res.2.2.2.2.2) A) (cc := cX3_leastSize) (maxL := 2) (ret := (some .int)) (plainFor_of_name (by decide)) rfl (Nat.le_of_ble_eq_true rfl) ?_
  intro p e s m args below meth c A Q ls H locs hx hb hr hml hown hts hlocks hname hK hA hRo hP hD hS hQ hl
  have hl : lv_has ls 2 [(0, .ref (q 0))] := hl
  have L2 : ∀ (x1 : Int32) (v_firstEntry : (Nat → Int32)) (v_nextEntry : (Nat → Int32)) (v_numbers : (Nat → Int64)) (v_counts : (Nat → Int32)) (v_size : Int32) (out : (Int32 × (Nat → Int32) × (Nat → Int32) × (Nat → Int64) × (Nat → Int32) × Int32)), lp (fun x : (Int32 × (Nat → Int32) × (Nat → Int32) × (Nat → Int64) × (Nat → Int32) × Int32) => M_X3_leastSize_b2 n v_syndromes v_places x.1 x.2.1 x.2.2.1 x.2.2.2.1 x.2.2.2.2.1 x.2.2.2.2.2) n (x1, v_firstEntry, v_nextEntry, v_numbers, v_counts, v_size) = some out → (∀ (o : (Int32 × (Nat → Int32) × (Nat → Int32) × (Nat → Int64) × (Nat → Int32) × Int32)), out = o → ∀ (H : Heap) (locs : List Loc), va_P G vwCl (ww_P q cs v_syndromes v_places o.2.1 o.2.2.1 o.2.2.2.1 o.2.2.2.2.1 o.2.2.2.2.2) H → va_D A (ww_P q cs v_syndromes v_places o.2.1 o.2.2.1 o.2.2.2.1 o.2.2.2.2.1 o.2.2.2.2.2) → va_S A s.heap H locs → ∀ (ls : Array Slot), lv_has ls 2 [(1, .int o.1)] → W p l e rmX3_leastSize s m args below meth c H locs 0 0 Q (F0 m 21 ls [])) → ∀ (H : Heap) (locs : List Loc), va_P G vwCl (ww_P q cs v_syndromes v_places v_firstEntry v_nextEntry v_numbers v_counts v_size) H → va_D A (ww_P q cs v_syndromes v_places v_firstEntry v_nextEntry v_numbers v_counts v_size) → va_S A s.heap H locs → ∀ (ls : Array Slot), lv_has ls 2 [(0, .ref (q 0)), (1, .int x1)] → W p l e rmX3_leastSize s m args below meth c H locs 0 0 Q (F0 m 2 ls []) := by
    intro x1 v_firstEntry v_nextEntry v_numbers v_counts v_size out hlp hX
    refine lp_ind (fun x => ∀ (H : Heap) (locs : List Loc), va_P G vwCl (ww_P q cs v_syndromes v_places x.2.1 x.2.2.1 x.2.2.2.1 x.2.2.2.2.1 x.2.2.2.2.2) H → va_D A (ww_P q cs v_syndromes v_places x.2.1 x.2.2.1 x.2.2.2.1 x.2.2.2.2.1 x.2.2.2.2.2) → va_S A s.heap H locs → ∀ (ls : Array Slot), lv_has ls 2 [(0, .ref (q 0)), (1, .int x.1)] → W p l e rmX3_leastSize s m args below meth c H locs 0 0 Q (F0 m 2 ls [])) ?_ n (x1, v_firstEntry, v_nextEntry, v_numbers, v_counts, v_size) hlp
    clear hlp hP hD hS hl
    rintro ⟨x1, v_firstEntry, v_nextEntry, v_numbers, v_counts, v_size⟩ ob hm hst H locs hP hD hS ls hl
    have hm : M_X3_leastSize_b2 n v_syndromes v_places x1 v_firstEntry v_nextEntry v_numbers v_counts v_size = some ob := hm
    have hl : lv_has ls 2 [(0, .ref (q 0)), (1, .int x1)] := hl
    have hP : va_P G vwCl (ww_P q cs v_syndromes v_places v_firstEntry v_nextEntry v_numbers v_counts v_size) H := hP
    have hD : va_D A (ww_P q cs v_syndromes v_places v_firstEntry v_nextEntry v_numbers v_counts v_size) := hD
    unfold M_X3_leastSize_b2 at hm
    refine lv_iload_n hx hb dX3_leastSize_2 rfl (lv_at hl 1 rfl) ?_
    refine lv_iconst (v := 4) hx hb dX3_leastSize_3 (by decide) ?_
    refine lv_icmp_gt (tgt := 21) hx hb dX3_leastSize_4 (by decide) (fun b1 => ?_) (fun b1 => ?_)
    · have hm := i_t b1 hm
      exact hX _ (st_exit hm hst) H locs hP hD hS ls (lv_sub hl [1] rfl)
    · have hm := i_f b1 hm
      refine lv_aload_n hx hb dX3_leastSize_7 rfl (lv_at hl 0 rfl) ?_
      refine lv_iload_n hx hb dX3_leastSize_8 rfl (lv_at hl 1 rfl) ?_
      obtain ⟨r2, hc_r2, hm⟩ := bs hm
      refine k_calli (va_runV (As := [.int x1]) (rest := []) ⟨hx, hb, hml, hown, hts⟩ (c_X3_howMany l G cs q H.size v_syndromes v_places v_firstEntry v_nextEntry v_numbers v_counts v_size   x1 n r2 hc_r2) (cwV 1 hts gX3_leastSize_X3_howMany rfl rfl rfl ⟨rfl, hd_X3_howMany⟩ ⟨Nat.le_of_ble_eq_true rfl, Nat.le_of_ble_eq_true rfl⟩) ⟨pre_blind, va_recv hK.1 hP (ci := 2) (q0 := 0) rfl rfl, pre_w hK RO.nil hP hD (va_all hD hS hA)⟩ rfl rfl hl.1 rfl (lv_room (Nat.le_of_ble_eq_true rfl)) dX3_leastSize_9 ⟨Nat.zero_le _, Nat.zero_le _⟩) hS (va_all hD hS hA) (fun hE3 H locs hP hD hS => ?_)
      have hP : va_P G vwCl (ww_P q cs v_syndromes v_places r2.2.1 r2.2.2.1 r2.2.2.2.1 r2.2.2.2.2.1 r2.2.2.2.2.2) H := hP
      have hD : va_D A (ww_P q cs v_syndromes v_places r2.2.1 r2.2.2.1 r2.2.2.2.1 r2.2.2.2.2.1 r2.2.2.2.2.2) := hD
      refine lv_if_ne (tgt := 21) hx hb dX3_leastSize_12 (by decide) (fun b4 => ?_) (fun b4 => ?_)
      · have hm := i_f b4 hm
        exact hX _ (st_exit hm hst) H locs hP hD hS ls (lv_sub hl [1] rfl)
      · have hm := i_t b4 hm
        refine lv_iinc (v := x1 + 1) (lv' := [(1, .int (x1 + 1)), (0, .ref (q 0))]) hx hb dX3_leastSize_15 hl (k := 1) rfl rfl (by decide) rfl (fun ls hl => ?_)
        refine lv_goto (tgt := 2) hx hb dX3_leastSize_18 (by decide) ?_
        exact st_next hm hst H locs hP hD hS ls (lv_sub hl [1, 0] rfl)
  unfold M_X3_leastSize at hm
  refine lv_iconst (v := 1) hx hb dX3_leastSize_0 (by decide) ?_
  refine lv_istore_n (lv' := [(1, .int 1), (0, .ref (q 0))]) hx hb dX3_leastSize_1 rfl hl (by decide) rfl (fun ls hl => ?_)
  obtain ⟨o5, hlp5, hm⟩ := bs hm
  refine L2 (1 : Int32) v_firstEntry v_nextEntry v_numbers v_counts v_size o5 hlp5 (fun oo ho => ?_) H locs hP hD hS ls (lv_sub hl [1, 0] rfl)
  subst ho
  intro H locs hP hD hS ls hl
  have hl : lv_has ls 2 [(1, .int o5.1)] := hl
  have hP : va_P G vwCl (ww_P q cs v_syndromes v_places o5.2.1 o5.2.2.1 o5.2.2.2.1 o5.2.2.2.2.1 o5.2.2.2.2.2) H := hP
  have hD : va_D A (ww_P q cs v_syndromes v_places o5.2.1 o5.2.2.1 o5.2.2.2.1 o5.2.2.2.2.1 o5.2.2.2.2.2) := hD
  refine lv_iload_n hx hb dX3_leastSize_21 rfl (lv_at hl 0 rfl) ?_
  have hq := Option.some.inj hm
  subst hq; subst hQ
  exact k_iret hx hb hr hlocks hP hD hS rfl trivial dX3_leastSize_22

theorem hd_X3_findFirstBehind : yX3_findFirstBehind.cls ≠ "java/lang/invoke/MethodHandle" ∧ yX3_findFirstBehind.cls ≠ "java/lang/invoke/VarHandle" ∧ (parseMethodDescriptor yX3_findFirstBehind.desc).map (fun d => d.parameters.length) = some 5 := by decide +kernel

def M_X3_findFirstBehind_b28 (n : Nat) (self_ : Int32 → Int32 → Int32 → Int64 → (Nat → Int64) → Int32 → (Nat → Int32) → Nat → Option (Int32 × (Nat → Int32))) (x1 : Int32) (x3 : Int32) (x5 : Int64) (v_syndromes : (Nat → Int64)) (v_places : Int32) (n2 : Nat) (x7 : Int32) (v_p2 : (Nat → Int32)) : Option ((Int32 × (Nat → Int32)) ⊕ ((Nat → Int32) ⊕ (Int32 × (Nat → Int32)))) :=
  if v_places ≤ x7 then (some (.inr (.inl v_p2))) else (if x3 < 0 ∨ n2 ≤ x3.toNatClampNeg then none else if x7 < 0 ∨ 512 ≤ x7.toNatClampNeg then none else (self_ x1 (x3 + 1) (x7 + 1) (x5 ^^^ (v_syndromes x7.toNatClampNeg)) v_syndromes v_places (upd v_p2 x3.toNatClampNeg x7) n2).bind fun r7 => if r7.1 = 0 then (some (.inl (x7 + 1, r7.2))) else (some (.inr (.inr (1, r7.2)))))

def M_X3_findFirstBehind_F (n : Nat) (self_ : Int32 → Int32 → Int32 → Int64 → (Nat → Int64) → Int32 → (Nat → Int32) → Nat → Option (Int32 × (Nat → Int32))) (x1 : Int32) (x3 : Int32) (x4 : Int32) (x5 : Int64) (v_syndromes : (Nat → Int64)) (v_places : Int32) (v_p2 : (Nat → Int32)) (n2 : Nat) : Option (Int32 × (Nat → Int32)) :=
  if x1 ≤ x3 then (if x5 = 0 then (some (1, v_p2)) else (some (0, v_p2))) else (if x3 < (Int32.ofNat n2) then ((lp (fun x : (Int32 × (Nat → Int32)) => M_X3_findFirstBehind_b28 n self_ x1 x3 x5 v_syndromes v_places n2 x.1 x.2) n (x4, v_p2)).bind (Sum.elim (fun o10 => some (0, o10)) (fun r => some r))) else (if x5 = 0 then (some (1, v_p2)) else (some (0, v_p2))))
def M_X3_findFirstBehind (n : Nat) : Nat → Int32 → Int32 → Int32 → Int64 → (Nat → Int64) → Int32 → (Nat → Int32) → Nat → Option (Int32 × (Nat → Int32))
  | 0, _, _, _, _, _, _, _, _ => none
  | d + 1, x1, x3, x4, x5, v_syndromes, v_places, v_p2, n2 => M_X3_findFirstBehind_F n (M_X3_findFirstBehind n d) x1 x3 x4 x5 v_syndromes v_places v_p2 n2

abbrev ww_X3_findFirstBehind (q : Nat → Nat) (cs : CS) (v_syndromes : (Nat → Int64)) (v_places : Int32) (v_firstEntry : (Nat → Int32)) (v_nextEntry : (Nat → Int32)) (v_numbers : (Nat → Int64)) (v_counts : (Nat → Int32)) (v_size : Int32) (v_p2 : (Nat → Int32)) (a2 : Nat) (n2 : Nat) : va_W := [((q 0), .inr (2, [.ref (q 1), .int v_places, .ref (q 2)])), ((q 1), .inl (cs.2.1, 512, .inr (.inl v_syndromes))), ((q 2), .inr (5, [.ref (q 3), .ref (q 4), .ref (q 5), .ref (q 6), .int v_size])), ((q 3), .inl (cs.1, 512, .inl v_firstEntry)), ((q 4), .inl (cs.1, 1128, .inl v_nextEntry)), ((q 5), .inl (cs.2.1, 1128, .inr (.inl v_numbers))), ((q 6), .inl (cs.1, 1128, .inl v_counts)), (a2, .inl (cs.1, n2, .inl v_p2))]

abbrev rmX3_findFirstBehind (d : Nat) : Room := { frames := d + 0, cells := 0, slots := 0, locals := d * 27 + 0 }
set_option maxHeartbeats 4000000 in
set_option maxRecDepth 100000 in
theorem c_X3_findFirstBehind : ∀ (d : Nat) (l : Launch) (G : va_G) (cs : CS) (q : Nat → Nat) (sz : Nat) (v_syndromes : (Nat → Int64)) (v_places : Int32) (v_firstEntry : (Nat → Int32)) (v_nextEntry : (Nat → Int32)) (v_numbers : (Nat → Int64)) (v_counts : (Nat → Int32)) (v_size : Int32) (v_p2 : (Nat → Int32)) (a2 : Nat) (n2 : Nat) (x1 : Int32) (x3 : Int32) (x4 : Int32) (x5 : Int64) (n : Nat) (res : (Int32 × (Nat → Int32))) (hm : M_X3_findFirstBehind n d x1 x3 x4 x5 v_syndromes v_places v_p2 n2 = some res), Met l yX3_findFirstBehind wsX3_findFirstBehind (rmX3_findFirstBehind d) (va_Pc [.ref (q 0), .int x1, .ref a2, .int x3, .int x4, .long x5] (PreW G cs sz (ww_X3_findFirstBehind q cs v_syndromes v_places v_firstEntry v_nextEntry v_numbers v_counts v_size v_p2 a2 n2) RN)) (QI G res.1 (res.1 = 0 ∨ res.1 = 1) (ww_X3_findFirstBehind q cs v_syndromes v_places v_firstEntry v_nextEntry v_numbers v_counts v_size res.2 a2 n2) (va_A (ww_X3_findFirstBehind q cs v_syndromes v_places v_firstEntry v_nextEntry v_numbers v_counts v_size v_p2 a2 n2) sz)) 0 0 (va_A (ww_X3_findFirstBehind q cs v_syndromes v_places v_firstEntry v_nextEntry v_numbers v_counts v_size v_p2 a2 n2) sz) := by
  intro d
  induction d with
  | zero => intro l G cs q sz v_syndromes v_places v_firstEntry v_nextEntry v_numbers v_counts v_size v_p2 a2 n2 x1 x3 x4 x5 n res hm; cases hm
  | succ d ih =>
    intro l G cs q sz v_syndromes v_places v_firstEntry v_nextEntry v_numbers v_counts v_size v_p2 a2 n2 x1 x3 x4 x5 n res hm
    have hm : M_X3_findFirstBehind_F n (M_X3_findFirstBehind n d) x1 x3 x4 x5 v_syndromes v_places v_p2 n2 = some res := hm
    refine k_enter (Qf := fun A => QI G res.1 (res.1 = 0 ∨ res.1 = 1) (ww_X3_findFirstBehind q cs v_syndromes v_places v_firstEntry v_nextEntry v_numbers v_counts v_size res.2 a2 n2) A) (cc := cX3_findFirstBehind) (maxL := 8) (ret := (some .boolean)) (plainFor_of_name (by decide)) rfl (Nat.le_of_ble_eq_true rfl) ?_
    intro p e s m args below meth c A Q ls H locs hx hb hr hml hown hts hlocks hname hK hA hRo hP hD hS hQ hl
    have hl : lv_has ls 8 [(0, .ref (q 0)), (1, .int x1), (2, .ref a2), (3, .int x3), (4, .int x4), (5, .long x5)] := hl
    have wd1 := hts (.fieldLink RX3 15 "SumSmith$PlaceSets" "places" "I") (List.mem_of_getElem? (i := 1) rfl)
    have wd2 := hts (.fieldLink RX3 9 "SumSmith$PlaceSets" "syndromes" "[J") (List.mem_of_getElem? (i := 2) rfl)
    have hinX3 : ∀ w ∈ wsX30, w ∈ wsX3_findFirstBehind := fun w h => List.mem_cons_of_mem _ (List.mem_append_right _ h)
    have L28 : ∀ (x1 : Int32) (x3 : Int32) (x5 : Int64) (x7 : Int32) (v_p2 : (Nat → Int32)) (out : ((Nat → Int32) ⊕ (Int32 × (Nat → Int32)))), lp (fun x : (Int32 × (Nat → Int32)) => M_X3_findFirstBehind_b28 n (M_X3_findFirstBehind n d) x1 x3 x5 v_syndromes v_places n2 x.1 x.2) n (x7, v_p2) = some out → (∀ r, out = .inr r → r = res) → (∀ (o : (Nat → Int32)), out = .inl o → ∀ (H : Heap) (locs : List Loc), va_P G vwCl (ww_X3_findFirstBehind q cs v_syndromes v_places v_firstEntry v_nextEntry v_numbers v_counts v_size o a2 n2) H → va_D A (ww_X3_findFirstBehind q cs v_syndromes v_places v_firstEntry v_nextEntry v_numbers v_counts v_size o a2 n2) → va_S A s.heap H locs → ∀ (ls : Array Slot), lv_has ls 8 [] → W p l e (rmX3_findFirstBehind (d + 1)) s m args below meth c H locs 0 0 Q (F0 m 76 ls [])) → ∀ (H : Heap) (locs : List Loc), va_P G vwCl (ww_X3_findFirstBehind q cs v_syndromes v_places v_firstEntry v_nextEntry v_numbers v_counts v_size v_p2 a2 n2) H → va_D A (ww_X3_findFirstBehind q cs v_syndromes v_places v_firstEntry v_nextEntry v_numbers v_counts v_size v_p2 a2 n2) → va_S A s.heap H locs → ∀ (ls : Array Slot), lv_has ls 8 [(0, .ref (q 0)), (1, .int x1), (2, .ref a2), (3, .int x3), (5, .long x5), (7, .int x7)] → W p l e (rmX3_findFirstBehind (d + 1)) s m args below meth c H locs 0 0 Q (F0 m 28 ls []) := by
      intro x1 x3 x5 x7 v_p2 out hlp hret hX
      refine lp_ind (fun x => ∀ (H : Heap) (locs : List Loc), va_P G vwCl (ww_X3_findFirstBehind q cs v_syndromes v_places v_firstEntry v_nextEntry v_numbers v_counts v_size x.2 a2 n2) H → va_D A (ww_X3_findFirstBehind q cs v_syndromes v_places v_firstEntry v_nextEntry v_numbers v_counts v_size x.2 a2 n2) → va_S A s.heap H locs → ∀ (ls : Array Slot), lv_has ls 8 [(0, .ref (q 0)), (1, .int x1), (2, .ref a2), (3, .int x3), (5, .long x5), (7, .int x.1)] → W p l e (rmX3_findFirstBehind (d + 1)) s m args below meth c H locs 0 0 Q (F0 m 28 ls [])) ?_ n (x7, v_p2) hlp
      clear hlp hP hD hS hl
      rintro ⟨x7, v_p2⟩ ob hm hst H locs hP hD hS ls hl
      have hm : M_X3_findFirstBehind_b28 n (M_X3_findFirstBehind n d) x1 x3 x5 v_syndromes v_places n2 x7 v_p2 = some ob := hm
      have hl : lv_has ls 8 [(0, .ref (q 0)), (1, .int x1), (2, .ref a2), (3, .int x3), (5, .long x5), (7, .int x7)] := hl
      have hP : va_P G vwCl (ww_X3_findFirstBehind q cs v_syndromes v_places v_firstEntry v_nextEntry v_numbers v_counts v_size v_p2 a2 n2) H := hP
      have hD : va_D A (ww_X3_findFirstBehind q cs v_syndromes v_places v_firstEntry v_nextEntry v_numbers v_counts v_size v_p2 a2 n2) := hD
      unfold M_X3_findFirstBehind_b28 at hm
      refine lv_iload hx hb dX3_findFirstBehind_28 (lv_at hl 5 rfl) ?_
      refine lv_aload_n hx hb dX3_findFirstBehind_30 rfl (lv_at hl 0 rfl) ?_
      refine va_get (D := G) (ci := 2) (v := .int v_places) (C := RX3) (T := TX3) (N := 3) hx hb hts hinX3 hown hK.1 hP 0 rfl rfl 1 (by decide) wd1 (fun _ h9 => h9) rfl dX3_findFirstBehind_31 ?_
      refine lv_icmp_ge (tgt := 76) hx hb dX3_findFirstBehind_34 (by decide) (fun b4 => ?_) (fun b4 => ?_)
      · have hm := i_t b4 hm
        exact hX _ (st_exit hm hst) H locs hP hD hS ls (lv_sub hl [] rfl)
      · have hm := i_f b4 hm
        refine lv_aload_n hx hb dX3_findFirstBehind_37 rfl (lv_at hl 2 rfl) ?_
        refine lv_iload_n hx hb dX3_findFirstBehind_38 rfl (lv_at hl 3 rfl) ?_
        refine lv_iload hx hb dX3_findFirstBehind_39 (lv_at hl 5 rfl) ?_
        obtain ⟨h5, hm⟩ := g_in hm
        refine va_iast hx hb hK.1 hP hD hS 7 0 rfl rfl h5 dX3_findFirstBehind_41 (fun H locs hP hD hS => ?_)
        have hP : va_P G vwCl (ww_X3_findFirstBehind q cs v_syndromes v_places v_firstEntry v_nextEntry v_numbers v_counts v_size (upd v_p2 x3.toNatClampNeg x7) a2 n2) H := hP
        have hD : va_D A (ww_X3_findFirstBehind q cs v_syndromes v_places v_firstEntry v_nextEntry v_numbers v_counts v_size (upd v_p2 x3.toNatClampNeg x7) a2 n2) := hD
        refine lv_aload_n hx hb dX3_findFirstBehind_42 rfl (lv_at hl 0 rfl) ?_
        refine lv_iload_n hx hb dX3_findFirstBehind_43 rfl (lv_at hl 1 rfl) ?_
        refine lv_aload_n hx hb dX3_findFirstBehind_44 rfl (lv_at hl 2 rfl) ?_
        refine lv_iload_n hx hb dX3_findFirstBehind_45 rfl (lv_at hl 3 rfl) ?_
        refine lv_iconst (v := 1) hx hb dX3_findFirstBehind_46 (by decide) ?_
        refine lv_iadd hx hb dX3_findFirstBehind_47 ?_
        refine lv_iload hx hb dX3_findFirstBehind_48 (lv_at hl 5 rfl) ?_
        refine lv_iconst (v := 1) hx hb dX3_findFirstBehind_50 (by decide) ?_
        refine lv_iadd hx hb dX3_findFirstBehind_51 ?_
        refine lv_lload hx hb dX3_findFirstBehind_52 (lv_at hl 4 rfl) ?_
        refine lv_aload_n hx hb dX3_findFirstBehind_54 rfl (lv_at hl 0 rfl) ?_
        refine va_get (D := G) (ci := 2) (v := .ref (q 1)) (C := RX3) (T := TX3) (N := 3) hx hb hts hinX3 hown hK.1 hP 0 rfl rfl 0 (by decide) wd2 (fun _ h9 => h9) rfl dX3_findFirstBehind_55 ?_
        refine lv_iload hx hb dX3_findFirstBehind_58 (lv_at hl 5 rfl) ?_
        obtain ⟨h6, hm⟩ := g_in hm
        refine va_lald hx hb hK.1 hP 1 1 rfl rfl h6 dX3_findFirstBehind_60 ?_
        refine lv_lxor hx hb dX3_findFirstBehind_61 ?_
        obtain ⟨r7, hc_r7, hm⟩ := bs hm
        refine k_calli (va_runV (As := [.int x1, .ref a2, .int (x3 + 1), .int (x7 + 1), .long (x5 ^^^ (v_syndromes x7.toNatClampNeg))]) (rest := []) ⟨hx, hb, hml, hown, hts⟩ (ih l G cs q H.size v_syndromes v_places v_firstEntry v_nextEntry v_numbers v_counts v_size (upd v_p2 x3.toNatClampNeg x7) a2 n2 x1 (x3 + 1) (x7 + 1) (x5 ^^^ (v_syndromes x7.toNatClampNeg)) n r7 hc_r7) (cwV 5 hts gX3_findFirstBehind_X3_findFirstBehind rfl rfl rfl ⟨rfl, hd_X3_findFirstBehind⟩ ⟨(by simp only [rmX3_findFirstBehind]; omega), (by simp only [rmX3_findFirstBehind]; omega)⟩) ⟨pre_blind, va_recv hK.1 hP (ci := 2) (q0 := 0) rfl rfl, pre_w hK RO.nil hP hD (va_all hD hS hA)⟩ rfl rfl hl.1 rfl (lv_room (Nat.le_of_ble_eq_true rfl)) dX3_findFirstBehind_62 ⟨Nat.zero_le _, Nat.zero_le _⟩) hS (va_all hD hS hA) (fun hE8 H locs hP hD hS => ?_)
        have hP : va_P G vwCl (ww_X3_findFirstBehind q cs v_syndromes v_places v_firstEntry v_nextEntry v_numbers v_counts v_size r7.2 a2 n2) H := hP
        have hD : va_D A (ww_X3_findFirstBehind q cs v_syndromes v_places v_firstEntry v_nextEntry v_numbers v_counts v_size r7.2 a2 n2) := hD
        refine lv_if_eq (tgt := 70) hx hb dX3_findFirstBehind_65 (by decide) (fun b9 => ?_) (fun b9 => ?_)
        · have hm := i_t b9 hm
          refine lv_iinc (v := x7 + 1) (lv' := [(7, .int (x7 + 1)), (0, .ref (q 0)), (1, .int x1), (2, .ref a2), (3, .int x3), (5, .long x5)]) hx hb dX3_findFirstBehind_70 hl (k := 5) rfl rfl (by decide) rfl (fun ls hl => ?_)
          refine lv_goto (tgt := 28) hx hb dX3_findFirstBehind_73 (by decide) ?_
          exact st_next hm hst H locs hP hD hS ls (lv_sub hl [1, 2, 3, 4, 5, 0] rfl)
        · have hm := i_f b9 hm
          refine lv_iconst (v := 1) hx hb dX3_findFirstBehind_68 (by decide) ?_
          have hq := hret _ (st_exit hm hst)
          subst hq; subst hQ
          exact k_zret hx hb hr hlocks hP hD hS rfl (by decide) dX3_findFirstBehind_69
    unfold M_X3_findFirstBehind_F at hm
    refine lv_iload_n hx hb dX3_findFirstBehind_0 rfl (lv_at hl 3 rfl) ?_
    refine lv_iload_n hx hb dX3_findFirstBehind_1 rfl (lv_at hl 1 rfl) ?_
    refine lv_icmp_ge (tgt := 11) hx hb dX3_findFirstBehind_2 (by decide) (fun b1 => ?_) (fun b1 => ?_)
    · have hm := i_t b1 hm
      refine lv_lload hx hb dX3_findFirstBehind_11 (lv_at hl 5 rfl) ?_
      refine lv_lconst (v := 0) hx hb dX3_findFirstBehind_13 (by decide) ?_
      refine W.lcmp hx hb dX3_findFirstBehind_14 ?_
      refine lv_if_ne (tgt := 22) hx hb dX3_findFirstBehind_15 (by decide) (fun b2 => ?_) (fun b2 => ?_)
      · have b2 := fun h9 => b2 ((lg_cmp_eq _ _).mpr h9)
        have hm := i_f b2 hm
        refine lv_iconst (v := 0) hx hb dX3_findFirstBehind_22 (by decide) ?_
        have hq := Option.some.inj hm
        subst hq; subst hQ
        exact k_zret hx hb hr hlocks hP hD hS rfl (by decide) dX3_findFirstBehind_23
      · have b2 := (lg_cmp_eq _ _).mp b2
        have hm := i_t b2 hm
        refine lv_iconst (v := 1) hx hb dX3_findFirstBehind_18 (by decide) ?_
        refine lv_goto (tgt := 23) hx hb dX3_findFirstBehind_19 (by decide) ?_
        have hq := Option.some.inj hm
        subst hq; subst hQ
        exact k_zret hx hb hr hlocks hP hD hS rfl (by decide) dX3_findFirstBehind_23
    · have hm := i_f b1 hm
      refine lv_iload_n hx hb dX3_findFirstBehind_5 rfl (lv_at hl 3 rfl) ?_
      refine lv_aload_n hx hb dX3_findFirstBehind_6 rfl (lv_at hl 2 rfl) ?_
      refine va_alen (v := Int32.ofNat n2) hx hb hK.1 hP 7 0 rfl rfl rfl dX3_findFirstBehind_7 ?_
      refine lv_icmp_lt (tgt := 24) hx hb dX3_findFirstBehind_8 (by decide) (fun b3 => ?_) (fun b3 => ?_)
      · have hm := i_t b3 hm
        refine lv_iload hx hb dX3_findFirstBehind_24 (lv_at hl 4 rfl) ?_
        refine lv_istore (lv' := [(7, .int x4), (0, .ref (q 0)), (1, .int x1), (2, .ref a2), (3, .int x3), (4, .int x4), (5, .long x5)]) hx hb dX3_findFirstBehind_26 hl (by decide) rfl (fun ls hl => ?_)
        obtain ⟨u10, hlp10, hm⟩ := bs hm
        refine L28 x1 x3 x5 x4 v_p2 u10 hlp10 (fun r h => Option.some.inj (se_r h hm)) (fun o10 ho => ?_) H locs hP hD hS ls (lv_sub hl [1, 2, 3, 4, 6, 0] rfl)
        have hm := se_l ho hm
        intro H locs hP hD hS ls hl
        have hl : lv_has ls 8 [] := hl
        have hP : va_P G vwCl (ww_X3_findFirstBehind q cs v_syndromes v_places v_firstEntry v_nextEntry v_numbers v_counts v_size o10 a2 n2) H := hP
        have hD : va_D A (ww_X3_findFirstBehind q cs v_syndromes v_places v_firstEntry v_nextEntry v_numbers v_counts v_size o10 a2 n2) := hD
        refine lv_iconst (v := 0) hx hb dX3_findFirstBehind_76 (by decide) ?_
        have hq := Option.some.inj hm
        subst hq; subst hQ
        exact k_zret hx hb hr hlocks hP hD hS rfl (by decide) dX3_findFirstBehind_77
      · have hm := i_f b3 hm
        refine lv_lload hx hb dX3_findFirstBehind_11 (lv_at hl 5 rfl) ?_
        refine lv_lconst (v := 0) hx hb dX3_findFirstBehind_13 (by decide) ?_
        refine W.lcmp hx hb dX3_findFirstBehind_14 ?_
        refine lv_if_ne (tgt := 22) hx hb dX3_findFirstBehind_15 (by decide) (fun b11 => ?_) (fun b11 => ?_)
        · have b11 := fun h9 => b11 ((lg_cmp_eq _ _).mpr h9)
          have hm := i_f b11 hm
          refine lv_iconst (v := 0) hx hb dX3_findFirstBehind_22 (by decide) ?_
          have hq := Option.some.inj hm
          subst hq; subst hQ
          exact k_zret hx hb hr hlocks hP hD hS rfl (by decide) dX3_findFirstBehind_23
        · have b11 := (lg_cmp_eq _ _).mp b11
          have hm := i_t b11 hm
          refine lv_iconst (v := 1) hx hb dX3_findFirstBehind_18 (by decide) ?_
          refine lv_goto (tgt := 23) hx hb dX3_findFirstBehind_19 (by decide) ?_
          have hq := Option.some.inj hm
          subst hq; subst hQ
          exact k_zret hx hb hr hlocks hP hD hS rfl (by decide) dX3_findFirstBehind_23

theorem hd_X3_findFirst : yX3_findFirst.cls ≠ "java/lang/invoke/MethodHandle" ∧ yX3_findFirst.cls ≠ "java/lang/invoke/VarHandle" ∧ (parseMethodDescriptor yX3_findFirst.desc).map (fun d => d.parameters.length) = some 2 := by decide +kernel

def M_X3_findFirst (n : Nat) (x1 : Int32) (v_syndromes : (Nat → Int64)) (v_places : Int32) (v_p2 : (Nat → Int32)) (n2 : Nat) : Option (Nat → Int32) :=
  (M_X3_findFirstBehind n 6 x1 (0 : Int32) (0 : Int32) (0 : Int64) v_syndromes v_places v_p2 n2).bind fun r1 => some r1.2

abbrev ww_X3_findFirst (q : Nat → Nat) (cs : CS) (v_syndromes : (Nat → Int64)) (v_places : Int32) (v_firstEntry : (Nat → Int32)) (v_nextEntry : (Nat → Int32)) (v_numbers : (Nat → Int64)) (v_counts : (Nat → Int32)) (v_size : Int32) (v_p2 : (Nat → Int32)) (a2 : Nat) (n2 : Nat) : va_W := [((q 0), .inr (2, [.ref (q 1), .int v_places, .ref (q 2)])), ((q 1), .inl (cs.2.1, 512, .inr (.inl v_syndromes))), ((q 2), .inr (5, [.ref (q 3), .ref (q 4), .ref (q 5), .ref (q 6), .int v_size])), ((q 3), .inl (cs.1, 512, .inl v_firstEntry)), ((q 4), .inl (cs.1, 1128, .inl v_nextEntry)), ((q 5), .inl (cs.2.1, 1128, .inr (.inl v_numbers))), ((q 6), .inl (cs.1, 1128, .inl v_counts)), (a2, .inl (cs.1, n2, .inl v_p2))]

abbrev rmX3_findFirst : Room := { frames := 7, cells := 0, slots := 0, locals := 189 }
set_option maxHeartbeats 4000000 in
set_option maxRecDepth 100000 in
theorem c_X3_findFirst (l : Launch) (G : va_G) (cs : CS) (q : Nat → Nat) (sz : Nat) (v_syndromes : (Nat → Int64)) (v_places : Int32) (v_firstEntry : (Nat → Int32)) (v_nextEntry : (Nat → Int32)) (v_numbers : (Nat → Int64)) (v_counts : (Nat → Int32)) (v_size : Int32) (v_p2 : (Nat → Int32)) (a2 : Nat) (n2 : Nat) (x1 : Int32) (n : Nat) (res : (Nat → Int32)) (hm : M_X3_findFirst n x1 v_syndromes v_places v_p2 n2 = some res) : Met l yX3_findFirst wsX3_findFirst rmX3_findFirst (va_Pc [.ref (q 0), .int x1, .ref a2] (PreW G cs sz (ww_X3_findFirst q cs v_syndromes v_places v_firstEntry v_nextEntry v_numbers v_counts v_size v_p2 a2 n2) RN)) (QV G (ww_X3_findFirst q cs v_syndromes v_places v_firstEntry v_nextEntry v_numbers v_counts v_size res a2 n2) (va_A (ww_X3_findFirst q cs v_syndromes v_places v_firstEntry v_nextEntry v_numbers v_counts v_size v_p2 a2 n2) sz)) 0 0 (va_A (ww_X3_findFirst q cs v_syndromes v_places v_firstEntry v_nextEntry v_numbers v_counts v_size v_p2 a2 n2) sz) := by
  refine k_enter (Qf := fun A => QV G (ww_X3_findFirst q cs v_syndromes v_places v_firstEntry v_nextEntry v_numbers v_counts v_size res a2 n2) A) (cc := cX3_findFirst) (maxL := 3) (ret := none) (plainFor_of_name (by decide)) rfl (Nat.le_of_ble_eq_true rfl) ?_
  intro p e s m args below meth c A Q ls H locs hx hb hr hml hown hts hlocks hname hK hA hRo hP hD hS hQ hl
  have hl : lv_has ls 3 [(0, .ref (q 0)), (1, .int x1), (2, .ref a2)] := hl
  unfold M_X3_findFirst at hm
  refine lv_aload_n hx hb dX3_findFirst_0 rfl (lv_at hl 0 rfl) ?_
  refine lv_iload_n hx hb dX3_findFirst_1 rfl (lv_at hl 1 rfl) ?_
  refine lv_aload_n hx hb dX3_findFirst_2 rfl (lv_at hl 2 rfl) ?_
  refine lv_iconst (v := 0) hx hb dX3_findFirst_3 (by decide) ?_
  refine lv_iconst (v := 0) hx hb dX3_findFirst_4 (by decide) ?_
  refine lv_lconst (v := 0) hx hb dX3_findFirst_5 (by decide) ?_
  obtain ⟨r1, hc_r1, hm⟩ := bs hm
  refine k_calli (va_runV (As := [.int x1, .ref a2, .int 0, .int 0, .long 0]) (rest := []) ⟨hx, hb, hml, hown, hts⟩ (c_X3_findFirstBehind 6 l G cs q H.size v_syndromes v_places v_firstEntry v_nextEntry v_numbers v_counts v_size v_p2 a2 n2 x1 (0 : Int32) (0 : Int32) (0 : Int64) n r1 hc_r1) (cwV 5 hts gX3_findFirst_X3_findFirstBehind rfl rfl rfl ⟨rfl, hd_X3_findFirstBehind⟩ ⟨Nat.le_of_ble_eq_true rfl, Nat.le_of_ble_eq_true rfl⟩) ⟨pre_blind, va_recv hK.1 hP (ci := 2) (q0 := 0) rfl rfl, pre_w hK RO.nil hP hD (va_all hD hS hA)⟩ rfl rfl hl.1 rfl (lv_room (Nat.le_of_ble_eq_true rfl)) dX3_findFirst_6 ⟨Nat.zero_le _, Nat.zero_le _⟩) hS (va_all hD hS hA) (fun hE2 H locs hP hD hS => ?_)
  have hP : va_P G vwCl (ww_X3_findFirst q cs v_syndromes v_places v_firstEntry v_nextEntry v_numbers v_counts v_size r1.2 a2 n2) H := hP
  have hD : va_D A (ww_X3_findFirst q cs v_syndromes v_places v_firstEntry v_nextEntry v_numbers v_counts v_size r1.2 a2 n2) := hD
  refine lv_pop hx hb dX3_findFirst_9 rfl ?_
  have hq := Option.some.inj hm
  subst hq; subst hQ
  exact k_vret hx hb hr hlocks hP hD hS dX3_findFirst_10

theorem hd_X3_findBest : yX3_findBest.cls ≠ "java/lang/invoke/MethodHandle" ∧ yX3_findBest.cls ≠ "java/lang/invoke/VarHandle" ∧ (parseMethodDescriptor yX3_findBest.desc).map (fun d => d.parameters.length) = some 2 := by decide +kernel

def M_X3_findBest_b11 (n : Nat) (x1 : Int32) (x2 : Int32) (x3 : Int32) (x4 : Int32) (x5 : Int32) (x6 : Int32) (v_syndromes : (Nat → Int64)) (v_places : Int32) (v_firstEntry : (Nat → Int32)) (v_nextEntry : (Nat → Int32)) (v_numbers : (Nat → Int64)) (v_counts : (Nat → Int32)) (v_size : Int32) : Option ((Int32 × Int32 × Int32 × Int32 × (Nat → Int64) × Int32 × (Nat → Int32) × (Nat → Int32) × (Nat → Int64) × (Nat → Int32) × Int32) ⊕ (Int32 × (Nat → Int64) × Int32 × (Nat → Int32) × (Nat → Int32) × (Nat → Int64) × (Nat → Int32) × Int32)) :=
  if ((1 : Int32) <<< (x1 &&& 31)) ≤ x6 then (some (.inr (x3, v_syndromes, v_places, v_firstEntry, v_nextEntry, v_numbers, v_counts, v_size))) else (if 4 < x4 then (some (.inr (x3, v_syndromes, v_places, v_firstEntry, v_nextEntry, v_numbers, v_counts, v_size))) else ((M_X3_load n x2 x1 x6.toInt64 (0 : Int32) v_syndromes v_places).bind fun r3 => (M_X3_leastSize n r3.1 r3.2 v_firstEntry v_nextEntry v_numbers v_counts v_size).bind fun r4 => if 4 < r4.1 then (if x4 < r4.1 then (some (.inl (x6, r4.1, 0, x6 + 2, r3.1, r3.2, r4.2.1, r4.2.2.1, r4.2.2.2.1, r4.2.2.2.2.1, r4.2.2.2.2.2))) else (if r4.1 = x4 then (if x5 ≤ 0 then (some (.inl (x3, x4, x5, x6 + 2, r3.1, r3.2, r4.2.1, r4.2.2.1, r4.2.2.2.1, r4.2.2.2.2.1, r4.2.2.2.2.2))) else (some (.inl (x6, r4.1, 0, x6 + 2, r3.1, r3.2, r4.2.1, r4.2.2.1, r4.2.2.2.1, r4.2.2.2.2.1, r4.2.2.2.2.2)))) else (some (.inl (x3, x4, x5, x6 + 2, r3.1, r3.2, r4.2.1, r4.2.2.1, r4.2.2.2.1, r4.2.2.2.2.1, r4.2.2.2.2.2))))) else (if r4.1 < x4 then (if x4 < r4.1 then (some (.inl (x6, r4.1, 0, x6 + 2, r3.1, r3.2, r4.2.1, r4.2.2.1, r4.2.2.2.1, r4.2.2.2.2.1, r4.2.2.2.2.2))) else (if r4.1 = x4 then (if x5 ≤ 0 then (some (.inl (x3, x4, x5, x6 + 2, r3.1, r3.2, r4.2.1, r4.2.2.1, r4.2.2.2.1, r4.2.2.2.2.1, r4.2.2.2.2.2))) else (some (.inl (x6, r4.1, 0, x6 + 2, r3.1, r3.2, r4.2.1, r4.2.2.1, r4.2.2.2.1, r4.2.2.2.2.1, r4.2.2.2.2.2)))) else (some (.inl (x3, x4, x5, x6 + 2, r3.1, r3.2, r4.2.1, r4.2.2.1, r4.2.2.2.1, r4.2.2.2.2.1, r4.2.2.2.2.2))))) else ((M_X3_howMany n r4.1 r3.1 r3.2 r4.2.1 r4.2.2.1 r4.2.2.2.1 r4.2.2.2.2.1 r4.2.2.2.2.2).bind fun r14 => if x4 < r4.1 then (some (.inl (x6, r4.1, r14.1, x6 + 2, r3.1, r3.2, r14.2.1, r14.2.2.1, r14.2.2.2.1, r14.2.2.2.2.1, r14.2.2.2.2.2))) else (if r4.1 = x4 then (if x5 ≤ r14.1 then (some (.inl (x3, x4, x5, x6 + 2, r3.1, r3.2, r14.2.1, r14.2.2.1, r14.2.2.2.1, r14.2.2.2.2.1, r14.2.2.2.2.2))) else (some (.inl (x6, r4.1, r14.1, x6 + 2, r3.1, r3.2, r14.2.1, r14.2.2.1, r14.2.2.2.1, r14.2.2.2.2.1, r14.2.2.2.2.2)))) else (some (.inl (x3, x4, x5, x6 + 2, r3.1, r3.2, r14.2.1, r14.2.2.1, r14.2.2.2.1, r14.2.2.2.2.1, r14.2.2.2.2.2))))))))

def M_X3_findBest (n : Nat) (x1 : Int32) (x2 : Int32) (v_syndromes : (Nat → Int64)) (v_places : Int32) (v_firstEntry : (Nat → Int32)) (v_nextEntry : (Nat → Int32)) (v_numbers : (Nat → Int64)) (v_counts : (Nat → Int32)) (v_size : Int32) : Option (Int32 × (Nat → Int64) × Int32 × (Nat → Int32) × (Nat → Int32) × (Nat → Int64) × (Nat → Int32) × Int32) :=
  (lp (fun x : (Int32 × Int32 × Int32 × Int32 × (Nat → Int64) × Int32 × (Nat → Int32) × (Nat → Int32) × (Nat → Int64) × (Nat → Int32) × Int32) => M_X3_findBest_b11 n x1 x2 x.1 x.2.1 x.2.2.1 x.2.2.2.1 x.2.2.2.2.1 x.2.2.2.2.2.1 x.2.2.2.2.2.2.1 x.2.2.2.2.2.2.2.1 x.2.2.2.2.2.2.2.2.1 x.2.2.2.2.2.2.2.2.2.1 x.2.2.2.2.2.2.2.2.2.2) n ((-1 : Int32), (0 : Int32), (0 : Int32), (1 : Int32), v_syndromes, v_places, v_firstEntry, v_nextEntry, v_numbers, v_counts, v_size)).bind fun o19 => some (o19.1, o19.2.1, o19.2.2.1, o19.2.2.2.1, o19.2.2.2.2.1, o19.2.2.2.2.2.1, o19.2.2.2.2.2.2.1, o19.2.2.2.2.2.2.2)

abbrev rmX3_findBest : Room := { frames := 5, cells := 0, slots := 0, locals := 114 }
set_option maxHeartbeats 4000000 in
set_option maxRecDepth 100000 in
theorem c_X3_findBest (l : Launch) (G : va_G) (cs : CS) (q : Nat → Nat) (sz : Nat) (v_syndromes : (Nat → Int64)) (v_places : Int32) (v_firstEntry : (Nat → Int32)) (v_nextEntry : (Nat → Int32)) (v_numbers : (Nat → Int64)) (v_counts : (Nat → Int32)) (v_size : Int32)   (x1 : Int32) (x2 : Int32) (n : Nat) (res : (Int32 × (Nat → Int64) × Int32 × (Nat → Int32) × (Nat → Int32) × (Nat → Int64) × (Nat → Int32) × Int32)) (hm : M_X3_findBest n x1 x2 v_syndromes v_places v_firstEntry v_nextEntry v_numbers v_counts v_size = some res) : Met l yX3_findBest wsX3_findBest rmX3_findBest (va_Pc [.ref (q 0), .int x1, .int x2] (PreW G cs sz (ww_P q cs v_syndromes v_places v_firstEntry v_nextEntry v_numbers v_counts v_size) RN)) (QI G res.1 True (ww_P q cs res.2.1 res.2.2.1 res.2.2.2.1 res.2.2.2.2.1 res.2.2.2.2.2.1 res.2.2.2.2.2.2.1 res.2.2.2.2.2.2.2) (va_A (ww_P q cs v_syndromes v_places v_firstEntry v_nextEntry v_numbers v_counts v_size) sz)) 0 0 (va_A (ww_P q cs v_syndromes v_places v_firstEntry v_nextEntry v_numbers v_counts v_size) sz) := by
  refine k_enter (Qf := fun A => QI G res.1 True (ww_P q cs res.2.1 res.2.2.1 res.2.2.2.1 res.2.2.2.2.1 res.2.2.2.2.2.1 res.2.2.2.2.2.2.1 res.2.2.2.2.2.2.2) A) (cc := cX3_findBest) (maxL := 9) (ret := (some .int)) (plainFor_of_name (by decide)) rfl (Nat.le_of_ble_eq_true rfl) ?_
  intro p e s m args below meth c A Q ls H locs hx hb hr hml hown hts hlocks hname hK hA hRo hP hD hS hQ hl
  have hl : lv_has ls 9 [(0, .ref (q 0)), (1, .int x1), (2, .int x2)] := hl
  have L11 : ∀ (x1 : Int32) (x2 : Int32) (x3 : Int32) (x4 : Int32) (x5 : Int32) (x6 : Int32) (v_syndromes : (Nat → Int64)) (v_places : Int32) (v_firstEntry : (Nat → Int32)) (v_nextEntry : (Nat → Int32)) (v_numbers : (Nat → Int64)) (v_counts : (Nat → Int32)) (v_size : Int32) (out : (Int32 × (Nat → Int64) × Int32 × (Nat → Int32) × (Nat → Int32) × (Nat → Int64) × (Nat → Int32) × Int32)), lp (fun x : (Int32 × Int32 × Int32 × Int32 × (Nat → Int64) × Int32 × (Nat → Int32) × (Nat → Int32) × (Nat → Int64) × (Nat → Int32) × Int32) => M_X3_findBest_b11 n x1 x2 x.1 x.2.1 x.2.2.1 x.2.2.2.1 x.2.2.2.2.1 x.2.2.2.2.2.1 x.2.2.2.2.2.2.1 x.2.2.2.2.2.2.2.1 x.2.2.2.2.2.2.2.2.1 x.2.2.2.2.2.2.2.2.2.1 x.2.2.2.2.2.2.2.2.2.2) n (x3, x4, x5, x6, v_syndromes, v_places, v_firstEntry, v_nextEntry, v_numbers, v_counts, v_size) = some out → (∀ (o : (Int32 × (Nat → Int64) × Int32 × (Nat → Int32) × (Nat → Int32) × (Nat → Int64) × (Nat → Int32) × Int32)), out = o → ∀ (H : Heap) (locs : List Loc), va_P G vwCl (ww_P q cs o.2.1 o.2.2.1 o.2.2.2.1 o.2.2.2.2.1 o.2.2.2.2.2.1 o.2.2.2.2.2.2.1 o.2.2.2.2.2.2.2) H → va_D A (ww_P q cs o.2.1 o.2.2.1 o.2.2.2.1 o.2.2.2.2.1 o.2.2.2.2.2.1 o.2.2.2.2.2.2.1 o.2.2.2.2.2.2.2) → va_S A s.heap H locs → ∀ (ls : Array Slot), lv_has ls 9 [(3, .int o.1)] → W p l e rmX3_findBest s m args below meth c H locs 0 0 Q (F0 m 104 ls [])) → ∀ (H : Heap) (locs : List Loc), va_P G vwCl (ww_P q cs v_syndromes v_places v_firstEntry v_nextEntry v_numbers v_counts v_size) H → va_D A (ww_P q cs v_syndromes v_places v_firstEntry v_nextEntry v_numbers v_counts v_size) → va_S A s.heap H locs → ∀ (ls : Array Slot), lv_has ls 9 [(0, .ref (q 0)), (1, .int x1), (2, .int x2), (3, .int x3), (4, .int x4), (5, .int x5), (6, .int x6)] → W p l e rmX3_findBest s m args below meth c H locs 0 0 Q (F0 m 11 ls []) := by
    intro x1 x2 x3 x4 x5 x6 v_syndromes v_places v_firstEntry v_nextEntry v_numbers v_counts v_size out hlp hX
    refine lp_ind (fun x => ∀ (H : Heap) (locs : List Loc), va_P G vwCl (ww_P q cs x.2.2.2.2.1 x.2.2.2.2.2.1 x.2.2.2.2.2.2.1 x.2.2.2.2.2.2.2.1 x.2.2.2.2.2.2.2.2.1 x.2.2.2.2.2.2.2.2.2.1 x.2.2.2.2.2.2.2.2.2.2) H → va_D A (ww_P q cs x.2.2.2.2.1 x.2.2.2.2.2.1 x.2.2.2.2.2.2.1 x.2.2.2.2.2.2.2.1 x.2.2.2.2.2.2.2.2.1 x.2.2.2.2.2.2.2.2.2.1 x.2.2.2.2.2.2.2.2.2.2) → va_S A s.heap H locs → ∀ (ls : Array Slot), lv_has ls 9 [(0, .ref (q 0)), (1, .int x1), (2, .int x2), (3, .int x.1), (4, .int x.2.1), (5, .int x.2.2.1), (6, .int x.2.2.2.1)] → W p l e rmX3_findBest s m args below meth c H locs 0 0 Q (F0 m 11 ls [])) ?_ n (x3, x4, x5, x6, v_syndromes, v_places, v_firstEntry, v_nextEntry, v_numbers, v_counts, v_size) hlp
    clear hlp hP hD hS hl
    rintro ⟨x3, x4, x5, x6, v_syndromes, v_places, v_firstEntry, v_nextEntry, v_numbers, v_counts, v_size⟩ ob hm hst H locs hP hD hS ls hl
    have hm : M_X3_findBest_b11 n x1 x2 x3 x4 x5 x6 v_syndromes v_places v_firstEntry v_nextEntry v_numbers v_counts v_size = some ob := hm
    have hl : lv_has ls 9 [(0, .ref (q 0)), (1, .int x1), (2, .int x2), (3, .int x3), (4, .int x4), (5, .int x5), (6, .int x6)] := hl
    have hP : va_P G vwCl (ww_P q cs v_syndromes v_places v_firstEntry v_nextEntry v_numbers v_counts v_size) H := hP
    have hD : va_D A (ww_P q cs v_syndromes v_places v_firstEntry v_nextEntry v_numbers v_counts v_size) := hD
    unfold M_X3_findBest_b11 at hm
    refine lv_iload hx hb dX3_findBest_11 (lv_at hl 6 rfl) ?_
    refine lv_iconst (v := 1) hx hb dX3_findBest_13 (by decide) ?_
    refine lv_iload_n hx hb dX3_findBest_14 rfl (lv_at hl 1 rfl) ?_
    refine lv_ishl hx hb dX3_findBest_15 ?_
    refine lv_icmp_ge (tgt := 104) hx hb dX3_findBest_16 (by decide) (fun b1 => ?_) (fun b1 => ?_)
    · have hm := i_t b1 hm
      exact hX _ (st_exit hm hst) H locs hP hD hS ls (lv_sub hl [3] rfl)
    · have hm := i_f b1 hm
      refine lv_iload hx hb dX3_findBest_19 (lv_at hl 4 rfl) ?_
      refine lv_iconst (v := 4) hx hb dX3_findBest_21 (by decide) ?_
      refine lv_icmp_gt (tgt := 104) hx hb dX3_findBest_22 (by decide) (fun b2 => ?_) (fun b2 => ?_)
      · have hm := i_t b2 hm
        exact hX _ (st_exit hm hst) H locs hP hD hS ls (lv_sub hl [3] rfl)
      · have hm := i_f b2 hm
        refine lv_aload_n hx hb dX3_findBest_25 rfl (lv_at hl 0 rfl) ?_
        refine lv_iload_n hx hb dX3_findBest_26 rfl (lv_at hl 2 rfl) ?_
        refine lv_iload_n hx hb dX3_findBest_27 rfl (lv_at hl 1 rfl) ?_
        refine lv_iload hx hb dX3_findBest_28 (lv_at hl 6 rfl) ?_
        refine lv_i2l (v := x6.toInt64) hx hb dX3_findBest_30 rfl ?_
        refine lv_iconst (v := 0) hx hb dX3_findBest_31 (by decide) ?_
        obtain ⟨r3, hc_r3, hm⟩ := bs hm
        refine k_callv (va_runV (As := [.int x2, .int x1, .long x6.toInt64, .int 0]) (rest := []) ⟨hx, hb, hml, hown, hts⟩ (c_X3_load l G cs q H.size v_syndromes v_places v_firstEntry v_nextEntry v_numbers v_counts v_size   x2 x1 x6.toInt64 (0 : Int32) n r3 hc_r3) (cwV 4 hts gX3_findBest_X3_load rfl rfl rfl ⟨rfl, hd_X3_load⟩ ⟨Nat.le_of_ble_eq_true rfl, Nat.le_of_ble_eq_true rfl⟩) ⟨pre_blind, va_recv hK.1 hP (ci := 2) (q0 := 0) rfl rfl, pre_w hK RO.nil hP hD (va_all hD hS hA)⟩ rfl rfl hl.1 rfl (lv_room (Nat.le_of_ble_eq_true rfl)) dX3_findBest_32 ⟨Nat.zero_le _, Nat.zero_le _⟩) hS (va_all hD hS hA) (fun H locs hP hD hS => ?_)
        have hP : va_P G vwCl (ww_P q cs r3.1 r3.2 v_firstEntry v_nextEntry v_numbers v_counts v_size) H := hP
        have hD : va_D A (ww_P q cs r3.1 r3.2 v_firstEntry v_nextEntry v_numbers v_counts v_size) := hD
        refine lv_aload_n hx hb dX3_findBest_35 rfl (lv_at hl 0 rfl) ?_
        obtain ⟨r4, hc_r4, hm⟩ := bs hm
        refine k_calli (va_runV (As := []) (rest := []) ⟨hx, hb, hml, hown, hts⟩ (c_X3_leastSize l G cs q H.size r3.1 r3.2 v_firstEntry v_nextEntry v_numbers v_counts v_size    n r4 hc_r4) (cwV 0 hts gX3_findBest_X3_leastSize rfl rfl rfl ⟨rfl, hd_X3_leastSize⟩ ⟨Nat.le_of_ble_eq_true rfl, Nat.le_of_ble_eq_true rfl⟩) ⟨pre_blind, va_recv hK.1 hP (ci := 2) (q0 := 0) rfl rfl, pre_w hK RO.nil hP hD (va_all hD hS hA)⟩ rfl rfl hl.1 rfl (lv_room (Nat.le_of_ble_eq_true rfl)) dX3_findBest_36 ⟨Nat.zero_le _, Nat.zero_le _⟩) hS (va_all hD hS hA) (fun hE5 H locs hP hD hS => ?_)
        have hP : va_P G vwCl (ww_P q cs r3.1 r3.2 r4.2.1 r4.2.2.1 r4.2.2.2.1 r4.2.2.2.2.1 r4.2.2.2.2.2) H := hP
        have hD : va_D A (ww_P q cs r3.1 r3.2 r4.2.1 r4.2.2.1 r4.2.2.2.1 r4.2.2.2.2.1 r4.2.2.2.2.2) := hD
        refine lv_istore (lv' := [(7, .int r4.1), (0, .ref (q 0)), (1, .int x1), (2, .int x2), (3, .int x3), (4, .int x4), (5, .int x5), (6, .int x6)]) hx hb dX3_findBest_39 hl (by decide) rfl (fun ls hl => ?_)
        refine lv_iload hx hb dX3_findBest_41 (lv_at hl 0 rfl) ?_
        refine lv_iconst (v := 4) hx hb dX3_findBest_43 (by decide) ?_
        refine lv_icmp_gt (tgt := 63) hx hb dX3_findBest_44 (by decide) (fun b6 => ?_) (fun b6 => ?_)
        · have hm := i_t b6 hm
          refine lv_iconst (v := 0) hx hb dX3_findBest_63 (by decide) ?_
          refine lv_istore (lv' := [(8, .int 0), (7, .int r4.1), (0, .ref (q 0)), (1, .int x1), (2, .int x2), (3, .int x3), (4, .int x4), (5, .int x5), (6, .int x6)]) hx hb dX3_findBest_64 hl (by decide) rfl (fun ls hl => ?_)
          refine lv_iload hx hb dX3_findBest_66 (lv_at hl 1 rfl) ?_
          refine lv_iload hx hb dX3_findBest_68 (lv_at hl 6 rfl) ?_
          refine lv_icmp_gt (tgt := 87) hx hb dX3_findBest_70 (by decide) (fun b7 => ?_) (fun b7 => ?_)
          · have hm := i_t b7 hm
            refine lv_iload hx hb dX3_findBest_87 (lv_at hl 8 rfl) ?_
            refine lv_istore_n (lv' := [(3, .int x6), (8, .int 0), (7, .int r4.1), (0, .ref (q 0)), (1, .int x1), (2, .int x2), (4, .int x4), (5, .int x5), (6, .int x6)]) hx hb dX3_findBest_89 rfl hl (by decide) rfl (fun ls hl => ?_)
            refine lv_iload hx hb dX3_findBest_90 (lv_at hl 2 rfl) ?_
            refine lv_istore (lv' := [(4, .int r4.1), (3, .int x6), (8, .int 0), (7, .int r4.1), (0, .ref (q 0)), (1, .int x1), (2, .int x2), (5, .int x5), (6, .int x6)]) hx hb dX3_findBest_92 hl (by decide) rfl (fun ls hl => ?_)
            refine lv_iload hx hb dX3_findBest_94 (lv_at hl 2 rfl) ?_
            refine lv_istore (lv' := [(5, .int 0), (4, .int r4.1), (3, .int x6), (8, .int 0), (7, .int r4.1), (0, .ref (q 0)), (1, .int x1), (2, .int x2), (6, .int x6)]) hx hb dX3_findBest_96 hl (by decide) rfl (fun ls hl => ?_)
            refine lv_iinc (v := x6 + 2) (lv' := [(6, .int (x6 + 2)), (5, .int 0), (4, .int r4.1), (3, .int x6), (8, .int 0), (7, .int r4.1), (0, .ref (q 0)), (1, .int x1), (2, .int x2)]) hx hb dX3_findBest_98 hl (k := 8) rfl rfl (by decide) rfl (fun ls hl => ?_)
            refine lv_goto (tgt := 11) hx hb dX3_findBest_101 (by decide) ?_
            exact st_next hm hst H locs hP hD hS ls (lv_sub hl [6, 7, 8, 3, 2, 1, 0] rfl)
          · have hm := i_f b7 hm
            refine lv_iload hx hb dX3_findBest_73 (lv_at hl 1 rfl) ?_
            refine lv_iload hx hb dX3_findBest_75 (lv_at hl 6 rfl) ?_
            refine lv_icmp_ne (tgt := 98) hx hb dX3_findBest_77 (by decide) (fun b8 => ?_) (fun b8 => ?_)
            · have hm := i_f b8 hm
              refine lv_iinc (v := x6 + 2) (lv' := [(6, .int (x6 + 2)), (8, .int 0), (7, .int r4.1), (0, .ref (q 0)), (1, .int x1), (2, .int x2), (3, .int x3), (4, .int x4), (5, .int x5)]) hx hb dX3_findBest_98 hl (k := 8) rfl rfl (by decide) rfl (fun ls hl => ?_)
              refine lv_goto (tgt := 11) hx hb dX3_findBest_101 (by decide) ?_
              exact st_next hm hst H locs hP hD hS ls (lv_sub hl [3, 4, 5, 6, 7, 8, 0] rfl)
            · have hm := i_t b8 hm
              refine lv_iload hx hb dX3_findBest_80 (lv_at hl 0 rfl) ?_
              refine lv_iload hx hb dX3_findBest_82 (lv_at hl 7 rfl) ?_
              refine lv_icmp_ge (tgt := 98) hx hb dX3_findBest_84 (by decide) (fun b9 => ?_) (fun b9 => ?_)
              · have hm := i_t b9 hm
                refine lv_iinc (v := x6 + 2) (lv' := [(6, .int (x6 + 2)), (8, .int 0), (7, .int r4.1), (0, .ref (q 0)), (1, .int x1), (2, .int x2), (3, .int x3), (4, .int x4), (5, .int x5)]) hx hb dX3_findBest_98 hl (k := 8) rfl rfl (by decide) rfl (fun ls hl => ?_)
                refine lv_goto (tgt := 11) hx hb dX3_findBest_101 (by decide) ?_
                exact st_next hm hst H locs hP hD hS ls (lv_sub hl [3, 4, 5, 6, 7, 8, 0] rfl)
              · have hm := i_f b9 hm
                refine lv_iload hx hb dX3_findBest_87 (lv_at hl 8 rfl) ?_
                refine lv_istore_n (lv' := [(3, .int x6), (8, .int 0), (7, .int r4.1), (0, .ref (q 0)), (1, .int x1), (2, .int x2), (4, .int x4), (5, .int x5), (6, .int x6)]) hx hb dX3_findBest_89 rfl hl (by decide) rfl (fun ls hl => ?_)
                refine lv_iload hx hb dX3_findBest_90 (lv_at hl 2 rfl) ?_
                refine lv_istore (lv' := [(4, .int r4.1), (3, .int x6), (8, .int 0), (7, .int r4.1), (0, .ref (q 0)), (1, .int x1), (2, .int x2), (5, .int x5), (6, .int x6)]) hx hb dX3_findBest_92 hl (by decide) rfl (fun ls hl => ?_)
                refine lv_iload hx hb dX3_findBest_94 (lv_at hl 2 rfl) ?_
                refine lv_istore (lv' := [(5, .int 0), (4, .int r4.1), (3, .int x6), (8, .int 0), (7, .int r4.1), (0, .ref (q 0)), (1, .int x1), (2, .int x2), (6, .int x6)]) hx hb dX3_findBest_96 hl (by decide) rfl (fun ls hl => ?_)
                refine lv_iinc (v := x6 + 2) (lv' := [(6, .int (x6 + 2)), (5, .int 0), (4, .int r4.1), (3, .int x6), (8, .int 0), (7, .int r4.1), (0, .ref (q 0)), (1, .int x1), (2, .int x2)]) hx hb dX3_findBest_98 hl (k := 8) rfl rfl (by decide) rfl (fun ls hl => ?_)
                refine lv_goto (tgt := 11) hx hb dX3_findBest_101 (by decide) ?_
                exact st_next hm hst H locs hP hD hS ls (lv_sub hl [6, 7, 8, 3, 2, 1, 0] rfl)
        · have hm := i_f b6 hm
          refine lv_iload hx hb dX3_findBest_47 (lv_at hl 0 rfl) ?_
          refine lv_iload hx hb dX3_findBest_49 (lv_at hl 5 rfl) ?_
          refine lv_icmp_lt (tgt := 63) hx hb dX3_findBest_51 (by decide) (fun b10 => ?_) (fun b10 => ?_)
          · have hm := i_t b10 hm
            refine lv_iconst (v := 0) hx hb dX3_findBest_63 (by decide) ?_
            refine lv_istore (lv' := [(8, .int 0), (7, .int r4.1), (0, .ref (q 0)), (1, .int x1), (2, .int x2), (3, .int x3), (4, .int x4), (5, .int x5), (6, .int x6)]) hx hb dX3_findBest_64 hl (by decide) rfl (fun ls hl => ?_)
            refine lv_iload hx hb dX3_findBest_66 (lv_at hl 1 rfl) ?_
            refine lv_iload hx hb dX3_findBest_68 (lv_at hl 6 rfl) ?_
            refine lv_icmp_gt (tgt := 87) hx hb dX3_findBest_70 (by decide) (fun b11 => ?_) (fun b11 => ?_)
            · have hm := i_t b11 hm
              refine lv_iload hx hb dX3_findBest_87 (lv_at hl 8 rfl) ?_
              refine lv_istore_n (lv' := [(3, .int x6), (8, .int 0), (7, .int r4.1), (0, .ref (q 0)), (1, .int x1), (2, .int x2), (4, .int x4), (5, .int x5), (6, .int x6)]) hx hb dX3_findBest_89 rfl hl (by decide) rfl (fun ls hl => ?_)
              refine lv_iload hx hb dX3_findBest_90 (lv_at hl 2 rfl) ?_
              refine lv_istore (lv' := [(4, .int r4.1), (3, .int x6), (8, .int 0), (7, .int r4.1), (0, .ref (q 0)), (1, .int x1), (2, .int x2), (5, .int x5), (6, .int x6)]) hx hb dX3_findBest_92 hl (by decide) rfl (fun ls hl => ?_)
              refine lv_iload hx hb dX3_findBest_94 (lv_at hl 2 rfl) ?_
              refine lv_istore (lv' := [(5, .int 0), (4, .int r4.1), (3, .int x6), (8, .int 0), (7, .int r4.1), (0, .ref (q 0)), (1, .int x1), (2, .int x2), (6, .int x6)]) hx hb dX3_findBest_96 hl (by decide) rfl (fun ls hl => ?_)
              refine lv_iinc (v := x6 + 2) (lv' := [(6, .int (x6 + 2)), (5, .int 0), (4, .int r4.1), (3, .int x6), (8, .int 0), (7, .int r4.1), (0, .ref (q 0)), (1, .int x1), (2, .int x2)]) hx hb dX3_findBest_98 hl (k := 8) rfl rfl (by decide) rfl (fun ls hl => ?_)
              refine lv_goto (tgt := 11) hx hb dX3_findBest_101 (by decide) ?_
              exact st_next hm hst H locs hP hD hS ls (lv_sub hl [6, 7, 8, 3, 2, 1, 0] rfl)
            · have hm := i_f b11 hm
              refine lv_iload hx hb dX3_findBest_73 (lv_at hl 1 rfl) ?_
              refine lv_iload hx hb dX3_findBest_75 (lv_at hl 6 rfl) ?_
              refine lv_icmp_ne (tgt := 98) hx hb dX3_findBest_77 (by decide) (fun b12 => ?_) (fun b12 => ?_)
              · have hm := i_f b12 hm
                refine lv_iinc (v := x6 + 2) (lv' := [(6, .int (x6 + 2)), (8, .int 0), (7, .int r4.1), (0, .ref (q 0)), (1, .int x1), (2, .int x2), (3, .int x3), (4, .int x4), (5, .int x5)]) hx hb dX3_findBest_98 hl (k := 8) rfl rfl (by decide) rfl (fun ls hl => ?_)
                refine lv_goto (tgt := 11) hx hb dX3_findBest_101 (by decide) ?_
                exact st_next hm hst H locs hP hD hS ls (lv_sub hl [3, 4, 5, 6, 7, 8, 0] rfl)
              · have hm := i_t b12 hm
                refine lv_iload hx hb dX3_findBest_80 (lv_at hl 0 rfl) ?_
                refine lv_iload hx hb dX3_findBest_82 (lv_at hl 7 rfl) ?_
                refine lv_icmp_ge (tgt := 98) hx hb dX3_findBest_84 (by decide) (fun b13 => ?_) (fun b13 => ?_)
                · have hm := i_t b13 hm
                  refine lv_iinc (v := x6 + 2) (lv' := [(6, .int (x6 + 2)), (8, .int 0), (7, .int r4.1), (0, .ref (q 0)), (1, .int x1), (2, .int x2), (3, .int x3), (4, .int x4), (5, .int x5)]) hx hb dX3_findBest_98 hl (k := 8) rfl rfl (by decide) rfl (fun ls hl => ?_)
                  refine lv_goto (tgt := 11) hx hb dX3_findBest_101 (by decide) ?_
                  exact st_next hm hst H locs hP hD hS ls (lv_sub hl [3, 4, 5, 6, 7, 8, 0] rfl)
                · have hm := i_f b13 hm
                  refine lv_iload hx hb dX3_findBest_87 (lv_at hl 8 rfl) ?_
                  refine lv_istore_n (lv' := [(3, .int x6), (8, .int 0), (7, .int r4.1), (0, .ref (q 0)), (1, .int x1), (2, .int x2), (4, .int x4), (5, .int x5), (6, .int x6)]) hx hb dX3_findBest_89 rfl hl (by decide) rfl (fun ls hl => ?_)
                  refine lv_iload hx hb dX3_findBest_90 (lv_at hl 2 rfl) ?_
                  refine lv_istore (lv' := [(4, .int r4.1), (3, .int x6), (8, .int 0), (7, .int r4.1), (0, .ref (q 0)), (1, .int x1), (2, .int x2), (5, .int x5), (6, .int x6)]) hx hb dX3_findBest_92 hl (by decide) rfl (fun ls hl => ?_)
                  refine lv_iload hx hb dX3_findBest_94 (lv_at hl 2 rfl) ?_
                  refine lv_istore (lv' := [(5, .int 0), (4, .int r4.1), (3, .int x6), (8, .int 0), (7, .int r4.1), (0, .ref (q 0)), (1, .int x1), (2, .int x2), (6, .int x6)]) hx hb dX3_findBest_96 hl (by decide) rfl (fun ls hl => ?_)
                  refine lv_iinc (v := x6 + 2) (lv' := [(6, .int (x6 + 2)), (5, .int 0), (4, .int r4.1), (3, .int x6), (8, .int 0), (7, .int r4.1), (0, .ref (q 0)), (1, .int x1), (2, .int x2)]) hx hb dX3_findBest_98 hl (k := 8) rfl rfl (by decide) rfl (fun ls hl => ?_)
                  refine lv_goto (tgt := 11) hx hb dX3_findBest_101 (by decide) ?_
                  exact st_next hm hst H locs hP hD hS ls (lv_sub hl [6, 7, 8, 3, 2, 1, 0] rfl)
          · have hm := i_f b10 hm
            refine lv_aload_n hx hb dX3_findBest_54 rfl (lv_at hl 1 rfl) ?_
            refine lv_iload hx hb dX3_findBest_55 (lv_at hl 0 rfl) ?_
            obtain ⟨r14, hc_r14, hm⟩ := bs hm
            refine k_calli (va_runV (As := [.int r4.1]) (rest := []) ⟨hx, hb, hml, hown, hts⟩ (c_X3_howMany l G cs q H.size r3.1 r3.2 r4.2.1 r4.2.2.1 r4.2.2.2.1 r4.2.2.2.2.1 r4.2.2.2.2.2   r4.1 n r14 hc_r14) (cwV 1 hts gX3_findBest_X3_howMany rfl rfl rfl ⟨rfl, hd_X3_howMany⟩ ⟨Nat.le_of_ble_eq_true rfl, Nat.le_of_ble_eq_true rfl⟩) ⟨pre_blind, va_recv hK.1 hP (ci := 2) (q0 := 0) rfl rfl, pre_w hK RO.nil hP hD (va_all hD hS hA)⟩ rfl rfl hl.1 rfl (lv_room (Nat.le_of_ble_eq_true rfl)) dX3_findBest_57 ⟨Nat.zero_le _, Nat.zero_le _⟩) hS (va_all hD hS hA) (fun hE15 H locs hP hD hS => ?_)
            have hP : va_P G vwCl (ww_P q cs r3.1 r3.2 r14.2.1 r14.2.2.1 r14.2.2.2.1 r14.2.2.2.2.1 r14.2.2.2.2.2) H := hP
            have hD : va_D A (ww_P q cs r3.1 r3.2 r14.2.1 r14.2.2.1 r14.2.2.2.1 r14.2.2.2.2.1 r14.2.2.2.2.2) := hD
            refine lv_goto (tgt := 64) hx hb dX3_findBest_60 (by decide) ?_
            refine lv_istore (lv' := [(8, .int r14.1), (7, .int r4.1), (0, .ref (q 0)), (1, .int x1), (2, .int x2), (3, .int x3), (4, .int x4), (5, .int x5), (6, .int x6)]) hx hb dX3_findBest_64 hl (by decide) rfl (fun ls hl => ?_)
            refine lv_iload hx hb dX3_findBest_66 (lv_at hl 1 rfl) ?_
            refine lv_iload hx hb dX3_findBest_68 (lv_at hl 6 rfl) ?_
            refine lv_icmp_gt (tgt := 87) hx hb dX3_findBest_70 (by decide) (fun b16 => ?_) (fun b16 => ?_)
            · have hm := i_t b16 hm
              refine lv_iload hx hb dX3_findBest_87 (lv_at hl 8 rfl) ?_
              refine lv_istore_n (lv' := [(3, .int x6), (8, .int r14.1), (7, .int r4.1), (0, .ref (q 0)), (1, .int x1), (2, .int x2), (4, .int x4), (5, .int x5), (6, .int x6)]) hx hb dX3_findBest_89 rfl hl (by decide) rfl (fun ls hl => ?_)
              refine lv_iload hx hb dX3_findBest_90 (lv_at hl 2 rfl) ?_
              refine lv_istore (lv' := [(4, .int r4.1), (3, .int x6), (8, .int r14.1), (7, .int r4.1), (0, .ref (q 0)), (1, .int x1), (2, .int x2), (5, .int x5), (6, .int x6)]) hx hb dX3_findBest_92 hl (by decide) rfl (fun ls hl => ?_)
              refine lv_iload hx hb dX3_findBest_94 (lv_at hl 2 rfl) ?_
              refine lv_istore (lv' := [(5, .int r14.1), (4, .int r4.1), (3, .int x6), (8, .int r14.1), (7, .int r4.1), (0, .ref (q 0)), (1, .int x1), (2, .int x2), (6, .int x6)]) hx hb dX3_findBest_96 hl (by decide) rfl (fun ls hl => ?_)
              refine lv_iinc (v := x6 + 2) (lv' := [(6, .int (x6 + 2)), (5, .int r14.1), (4, .int r4.1), (3, .int x6), (8, .int r14.1), (7, .int r4.1), (0, .ref (q 0)), (1, .int x1), (2, .int x2)]) hx hb dX3_findBest_98 hl (k := 8) rfl rfl (by decide) rfl (fun ls hl => ?_)
              refine lv_goto (tgt := 11) hx hb dX3_findBest_101 (by decide) ?_
              exact st_next hm hst H locs hP hD hS ls (lv_sub hl [6, 7, 8, 3, 2, 1, 0] rfl)
            · have hm := i_f b16 hm
              refine lv_iload hx hb dX3_findBest_73 (lv_at hl 1 rfl) ?_
              refine lv_iload hx hb dX3_findBest_75 (lv_at hl 6 rfl) ?_
              refine lv_icmp_ne (tgt := 98) hx hb dX3_findBest_77 (by decide) (fun b17 => ?_) (fun b17 => ?_)
              · have hm := i_f b17 hm
                refine lv_iinc (v := x6 + 2) (lv' := [(6, .int (x6 + 2)), (8, .int r14.1), (7, .int r4.1), (0, .ref (q 0)), (1, .int x1), (2, .int x2), (3, .int x3), (4, .int x4), (5, .int x5)]) hx hb dX3_findBest_98 hl (k := 8) rfl rfl (by decide) rfl (fun ls hl => ?_)
                refine lv_goto (tgt := 11) hx hb dX3_findBest_101 (by decide) ?_
                exact st_next hm hst H locs hP hD hS ls (lv_sub hl [3, 4, 5, 6, 7, 8, 0] rfl)
              · have hm := i_t b17 hm
                refine lv_iload hx hb dX3_findBest_80 (lv_at hl 0 rfl) ?_
                refine lv_iload hx hb dX3_findBest_82 (lv_at hl 7 rfl) ?_
                refine lv_icmp_ge (tgt := 98) hx hb dX3_findBest_84 (by decide) (fun b18 => ?_) (fun b18 => ?_)
                · have hm := i_t b18 hm
                  refine lv_iinc (v := x6 + 2) (lv' := [(6, .int (x6 + 2)), (8, .int r14.1), (7, .int r4.1), (0, .ref (q 0)), (1, .int x1), (2, .int x2), (3, .int x3), (4, .int x4), (5, .int x5)]) hx hb dX3_findBest_98 hl (k := 8) rfl rfl (by decide) rfl (fun ls hl => ?_)
                  refine lv_goto (tgt := 11) hx hb dX3_findBest_101 (by decide) ?_
                  exact st_next hm hst H locs hP hD hS ls (lv_sub hl [3, 4, 5, 6, 7, 8, 0] rfl)
                · have hm := i_f b18 hm
                  refine lv_iload hx hb dX3_findBest_87 (lv_at hl 8 rfl) ?_
                  refine lv_istore_n (lv' := [(3, .int x6), (8, .int r14.1), (7, .int r4.1), (0, .ref (q 0)), (1, .int x1), (2, .int x2), (4, .int x4), (5, .int x5), (6, .int x6)]) hx hb dX3_findBest_89 rfl hl (by decide) rfl (fun ls hl => ?_)
                  refine lv_iload hx hb dX3_findBest_90 (lv_at hl 2 rfl) ?_
                  refine lv_istore (lv' := [(4, .int r4.1), (3, .int x6), (8, .int r14.1), (7, .int r4.1), (0, .ref (q 0)), (1, .int x1), (2, .int x2), (5, .int x5), (6, .int x6)]) hx hb dX3_findBest_92 hl (by decide) rfl (fun ls hl => ?_)
                  refine lv_iload hx hb dX3_findBest_94 (lv_at hl 2 rfl) ?_
                  refine lv_istore (lv' := [(5, .int r14.1), (4, .int r4.1), (3, .int x6), (8, .int r14.1), (7, .int r4.1), (0, .ref (q 0)), (1, .int x1), (2, .int x2), (6, .int x6)]) hx hb dX3_findBest_96 hl (by decide) rfl (fun ls hl => ?_)
                  refine lv_iinc (v := x6 + 2) (lv' := [(6, .int (x6 + 2)), (5, .int r14.1), (4, .int r4.1), (3, .int x6), (8, .int r14.1), (7, .int r4.1), (0, .ref (q 0)), (1, .int x1), (2, .int x2)]) hx hb dX3_findBest_98 hl (k := 8) rfl rfl (by decide) rfl (fun ls hl => ?_)
                  refine lv_goto (tgt := 11) hx hb dX3_findBest_101 (by decide) ?_
                  exact st_next hm hst H locs hP hD hS ls (lv_sub hl [6, 7, 8, 3, 2, 1, 0] rfl)
  unfold M_X3_findBest at hm
  refine lv_iconst (v := (-1)) hx hb dX3_findBest_0 (by decide) ?_
  refine lv_istore_n (lv' := [(3, .int (-1)), (0, .ref (q 0)), (1, .int x1), (2, .int x2)]) hx hb dX3_findBest_1 rfl hl (by decide) rfl (fun ls hl => ?_)
  refine lv_iconst (v := 0) hx hb dX3_findBest_2 (by decide) ?_
  refine lv_istore (lv' := [(4, .int 0), (3, .int (-1)), (0, .ref (q 0)), (1, .int x1), (2, .int x2)]) hx hb dX3_findBest_3 hl (by decide) rfl (fun ls hl => ?_)
  refine lv_iconst (v := 0) hx hb dX3_findBest_5 (by decide) ?_
  refine lv_istore (lv' := [(5, .int 0), (4, .int 0), (3, .int (-1)), (0, .ref (q 0)), (1, .int x1), (2, .int x2)]) hx hb dX3_findBest_6 hl (by decide) rfl (fun ls hl => ?_)
  refine lv_iconst (v := 1) hx hb dX3_findBest_8 (by decide) ?_
  refine lv_istore (lv' := [(6, .int 1), (5, .int 0), (4, .int 0), (3, .int (-1)), (0, .ref (q 0)), (1, .int x1), (2, .int x2)]) hx hb dX3_findBest_9 hl (by decide) rfl (fun ls hl => ?_)
  obtain ⟨o19, hlp19, hm⟩ := bs hm
  refine L11 x1 x2 (-1 : Int32) (0 : Int32) (0 : Int32) (1 : Int32) v_syndromes v_places v_firstEntry v_nextEntry v_numbers v_counts v_size o19 hlp19 (fun oo ho => ?_) H locs hP hD hS ls (lv_sub hl [4, 5, 6, 3, 2, 1, 0] rfl)
  subst ho
  intro H locs hP hD hS ls hl
  have hl : lv_has ls 9 [(3, .int o19.1)] := hl
  have hP : va_P G vwCl (ww_P q cs o19.2.1 o19.2.2.1 o19.2.2.2.1 o19.2.2.2.2.1 o19.2.2.2.2.2.1 o19.2.2.2.2.2.2.1 o19.2.2.2.2.2.2.2) H := hP
  have hD : va_D A (ww_P q cs o19.2.1 o19.2.2.1 o19.2.2.2.1 o19.2.2.2.2.1 o19.2.2.2.2.2.1 o19.2.2.2.2.2.2.1 o19.2.2.2.2.2.2.2) := hD
  refine lv_iload_n hx hb dX3_findBest_104 rfl (lv_at hl 0 rfl) ?_
  have hq := Option.some.inj hm
  subst hq; subst hQ
  exact k_iret hx hb hr hlocks hP hD hS rfl trivial dX3_findBest_105

theorem hd_X3_findReach : yX3_findReach.cls ≠ "java/lang/invoke/MethodHandle" ∧ yX3_findReach.cls ≠ "java/lang/invoke/VarHandle" ∧ (parseMethodDescriptor yX3_findReach.desc).map (fun d => d.parameters.length) = some 2 := by decide +kernel

def M_X3_findReach_b19 (n : Nat) (v_syndromes : (Nat → Int64)) (v_places : Int32) (x4 : Int32) (v_firstEntry : (Nat → Int32)) (v_nextEntry : (Nat → Int32)) (v_numbers : (Nat → Int64)) (v_counts : (Nat → Int32)) (v_size : Int32) : Option ((Int32 × (Nat → Int32) × (Nat → Int32) × (Nat → Int64) × (Nat → Int32) × Int32) ⊕ (((Nat → Int32) × (Nat → Int32) × (Nat → Int64) × (Nat → Int32) × Int32) ⊕ (Int32 × (Nat → Int64) × Int32 × (Nat → Int32) × (Nat → Int32) × (Nat → Int64) × (Nat → Int32) × Int32))) :=
  if v_places ≤ x4 then (some (.inr (.inl (v_firstEntry, v_nextEntry, v_numbers, v_counts, v_size)))) else (if ((v_places - 1) - x4) < 0 ∨ 512 ≤ ((v_places - 1) - x4).toNatClampNeg then none else if (M_J13_bitCount_95d88 (v_syndromes ((v_places - 1) - x4).toNatClampNeg)) < 2 then (some (.inr (.inr (x4 / 8, v_syndromes, v_places, v_firstEntry, v_nextEntry, v_numbers, v_counts, v_size)))) else ((M_X7_timesOf n (v_syndromes ((v_places - 1) - x4).toNatClampNeg) v_firstEntry v_nextEntry v_numbers v_counts v_size).bind fun r7 => if r7 ≤ 0 then ((M_X7_note n (v_syndromes ((v_places - 1) - x4).toNatClampNeg) v_firstEntry v_nextEntry v_numbers v_counts v_size).bind fun r10 => some (.inl (x4 + 1, r10.1, r10.2.1, r10.2.2.1, r10.2.2.2.1, r10.2.2.2.2))) else (some (.inr (.inr (x4 / 8, v_syndromes, v_places, v_firstEntry, v_nextEntry, v_numbers, v_counts, v_size))))))

def M_X3_findReach (n : Nat) (x1 : Int32) (x2 : Int64) (v_syndromes : (Nat → Int64)) (v_places : Int32) (v_firstEntry : (Nat → Int32)) (v_nextEntry : (Nat → Int32)) (v_numbers : (Nat → Int64)) (v_counts : (Nat → Int32)) (v_size : Int32) : Option (Int32 × (Nat → Int64) × Int32 × (Nat → Int32) × (Nat → Int32) × (Nat → Int64) × (Nat → Int32) × Int32) :=
  (M_X3_load n (64 : Int32) x1 x2 (0 : Int32) v_syndromes v_places).bind fun r1 => (M_X7_forget n v_firstEntry v_size).bind fun r2 => (lp (fun x : (Int32 × (Nat → Int32) × (Nat → Int32) × (Nat → Int64) × (Nat → Int32) × Int32) => M_X3_findReach_b19 n r1.1 r1.2 x.1 x.2.1 x.2.2.1 x.2.2.2.1 x.2.2.2.2.1 x.2.2.2.2.2) n ((0 : Int32), r2.1, v_nextEntry, v_numbers, v_counts, r2.2)).bind (Sum.elim (fun o11 => some (64, r1.1, r1.2, o11.1, o11.2.1, o11.2.2.1, o11.2.2.2.1, o11.2.2.2.2)) (fun r => some r))

abbrev rmX3_findReach : Room := { frames := 3, cells := 0, slots := 0, locals := 75 }
set_option maxHeartbeats 4000000 in
set_option maxRecDepth 100000 in
theorem c_X3_findReach (l : Launch) (G : va_G) (cs : CS) (q : Nat → Nat) (sz : Nat) (v_syndromes : (Nat → Int64)) (v_places : Int32) (v_firstEntry : (Nat → Int32)) (v_nextEntry : (Nat → Int32)) (v_numbers : (Nat → Int64)) (v_counts : (Nat → Int32)) (v_size : Int32)   (x1 : Int32) (x2 : Int64) (n : Nat) (res : (Int32 × (Nat → Int64) × Int32 × (Nat → Int32) × (Nat → Int32) × (Nat → Int64) × (Nat → Int32) × Int32)) (hm : M_X3_findReach n x1 x2 v_syndromes v_places v_firstEntry v_nextEntry v_numbers v_counts v_size = some res) : Met l yX3_findReach wsX3_findReach rmX3_findReach (va_Pc [.ref (q 0), .int x1, .long x2] (PreW G cs sz (ww_P q cs v_syndromes v_places v_firstEntry v_nextEntry v_numbers v_counts v_size) RN)) (QI G res.1 True (ww_P q cs res.2.1 res.2.2.1 res.2.2.2.1 res.2.2.2.2.1 res.2.2.2.2.2.1 res.2.2.2.2.2.2.1 res.2.2.2.2.2.2.2) (va_A (ww_P q cs v_syndromes v_places v_firstEntry v_nextEntry v_numbers v_counts v_size) sz)) 0 0 (va_A (ww_P q cs v_syndromes v_places v_firstEntry v_nextEntry v_numbers v_counts v_size) sz) := by
  refine k_enter (Qf := fun A => QI G res.1 True (ww_P q cs res.2.1 res.2.2.1 res.2.2.2.1 res.2.2.2.2.1 res.2.2.2.2.2.1 res.2.2.2.2.2.2.1 res.2.2.2.2.2.2.2) A) (cc := cX3_findReach) (maxL := 7) (ret := (some .int)) (plainFor_of_name (by decide)) rfl (Nat.le_of_ble_eq_true rfl) ?_
  intro p e s m args below meth c A Q ls H locs hx hb hr hml hown hts hlocks hname hK hA hRo hP hD hS hQ hl
  have hl : lv_has ls 7 [(0, .ref (q 0)), (1, .int x1), (2, .long x2)] := hl
  have wd1 := hts (.fieldLink RX3 22 "SumSmith$PlaceSets" "tally" "LSumSmith$Tally;") (List.mem_of_getElem? (i := 1) rfl)
  have wd2 := hts (.fieldLink RX3 15 "SumSmith$PlaceSets" "places" "I") (List.mem_of_getElem? (i := 2) rfl)
  have wd3 := hts (.fieldLink RX3 9 "SumSmith$PlaceSets" "syndromes" "[J") (List.mem_of_getElem? (i := 3) rfl)
  have hinX3 : ∀ w ∈ wsX30, w ∈ wsX3_findReach := fun w h => List.mem_cons_of_mem _ (List.mem_append_left _ (List.mem_append_right _ h))
  have L19 : ∀ (x4 : Int32) (v_syndromes : (Nat → Int64)) (v_places : Int32) (v_firstEntry : (Nat → Int32)) (v_nextEntry : (Nat → Int32)) (v_numbers : (Nat → Int64)) (v_counts : (Nat → Int32)) (v_size : Int32) (out : (((Nat → Int32) × (Nat → Int32) × (Nat → Int64) × (Nat → Int32) × Int32) ⊕ (Int32 × (Nat → Int64) × Int32 × (Nat → Int32) × (Nat → Int32) × (Nat → Int64) × (Nat → Int32) × Int32))), lp (fun x : (Int32 × (Nat → Int32) × (Nat → Int32) × (Nat → Int64) × (Nat → Int32) × Int32) => M_X3_findReach_b19 n v_syndromes v_places x.1 x.2.1 x.2.2.1 x.2.2.2.1 x.2.2.2.2.1 x.2.2.2.2.2) n (x4, v_firstEntry, v_nextEntry, v_numbers, v_counts, v_size) = some out → (∀ r, out = .inr r → r = res) → (∀ (o : ((Nat → Int32) × (Nat → Int32) × (Nat → Int64) × (Nat → Int32) × Int32)), out = .inl o → ∀ (H : Heap) (locs : List Loc), va_P G vwCl (ww_P q cs v_syndromes v_places o.1 o.2.1 o.2.2.1 o.2.2.2.1 o.2.2.2.2) H → va_D A (ww_P q cs v_syndromes v_places o.1 o.2.1 o.2.2.1 o.2.2.2.1 o.2.2.2.2) → va_S A s.heap H locs → ∀ (ls : Array Slot), lv_has ls 7 [] → W p l e rmX3_findReach s m args below meth c H locs 0 0 Q (F0 m 86 ls [])) → ∀ (H : Heap) (locs : List Loc), va_P G vwCl (ww_P q cs v_syndromes v_places v_firstEntry v_nextEntry v_numbers v_counts v_size) H → va_D A (ww_P q cs v_syndromes v_places v_firstEntry v_nextEntry v_numbers v_counts v_size) → va_S A s.heap H locs → ∀ (ls : Array Slot), lv_has ls 7 [(0, .ref (q 0)), (4, .int x4)] → W p l e rmX3_findReach s m args below meth c H locs 0 0 Q (F0 m 19 ls []) := by
    intro x4 v_syndromes v_places v_firstEntry v_nextEntry v_numbers v_counts v_size out hlp hret hX
    refine lp_ind (fun x => ∀ (H : Heap) (locs : List Loc), va_P G vwCl (ww_P q cs v_syndromes v_places x.2.1 x.2.2.1 x.2.2.2.1 x.2.2.2.2.1 x.2.2.2.2.2) H → va_D A (ww_P q cs v_syndromes v_places x.2.1 x.2.2.1 x.2.2.2.1 x.2.2.2.2.1 x.2.2.2.2.2) → va_S A s.heap H locs → ∀ (ls : Array Slot), lv_has ls 7 [(0, .ref (q 0)), (4, .int x.1)] → W p l e rmX3_findReach s m args below meth c H locs 0 0 Q (F0 m 19 ls [])) ?_ n (x4, v_firstEntry, v_nextEntry, v_numbers, v_counts, v_size) hlp
    clear hlp hP hD hS hl
    rintro ⟨x4, v_firstEntry, v_nextEntry, v_numbers, v_counts, v_size⟩ ob hm hst H locs hP hD hS ls hl
    have hm : M_X3_findReach_b19 n v_syndromes v_places x4 v_firstEntry v_nextEntry v_numbers v_counts v_size = some ob := hm
    have hl : lv_has ls 7 [(0, .ref (q 0)), (4, .int x4)] := hl
    have hP : va_P G vwCl (ww_P q cs v_syndromes v_places v_firstEntry v_nextEntry v_numbers v_counts v_size) H := hP
    have hD : va_D A (ww_P q cs v_syndromes v_places v_firstEntry v_nextEntry v_numbers v_counts v_size) := hD
    unfold M_X3_findReach_b19 at hm
    refine lv_iload hx hb dX3_findReach_19 (lv_at hl 1 rfl) ?_
    refine lv_aload_n hx hb dX3_findReach_21 rfl (lv_at hl 0 rfl) ?_
    refine va_get (D := G) (ci := 2) (v := .int v_places) (C := RX3) (T := TX3) (N := 3) hx hb hts hinX3 hown hK.1 hP 0 rfl rfl 1 (by decide) wd2 (fun _ h9 => h9) rfl dX3_findReach_22 ?_
    refine lv_icmp_ge (tgt := 86) hx hb dX3_findReach_25 (by decide) (fun b3 => ?_) (fun b3 => ?_)
    · have hm := i_t b3 hm
      exact hX _ (st_exit hm hst) H locs hP hD hS ls (lv_sub hl [] rfl)
    · have hm := i_f b3 hm
      refine lv_aload_n hx hb dX3_findReach_28 rfl (lv_at hl 0 rfl) ?_
      refine va_get (D := G) (ci := 2) (v := .ref (q 1)) (C := RX3) (T := TX3) (N := 3) hx hb hts hinX3 hown hK.1 hP 0 rfl rfl 0 (by decide) wd3 (fun _ h9 => h9) rfl dX3_findReach_29 ?_
      refine lv_aload_n hx hb dX3_findReach_32 rfl (lv_at hl 0 rfl) ?_
      refine va_get (D := G) (ci := 2) (v := .int v_places) (C := RX3) (T := TX3) (N := 3) hx hb hts hinX3 hown hK.1 hP 0 rfl rfl 1 (by decide) wd2 (fun _ h9 => h9) rfl dX3_findReach_33 ?_
      refine lv_iconst (v := 1) hx hb dX3_findReach_36 (by decide) ?_
      refine lv_isub hx hb dX3_findReach_37 ?_
      refine lv_iload hx hb dX3_findReach_38 (lv_at hl 1 rfl) ?_
      refine lv_isub hx hb dX3_findReach_40 ?_
      obtain ⟨h4, hm⟩ := g_in hm
      refine va_lald hx hb hK.1 hP 1 1 rfl rfl h4 dX3_findReach_41 ?_
      refine lv_lstore (lv' := [(5, .long (v_syndromes ((v_places - 1) - x4).toNatClampNeg)), (0, .ref (q 0)), (4, .int x4)]) hx hb dX3_findReach_42 hl (by decide) rfl (fun ls hl => ?_)
      refine lv_lload hx hb dX3_findReach_44 (lv_at hl 0 rfl) ?_
      refine k_calli0 (va_runS (As := [.long (v_syndromes ((v_places - 1) - x4).toNatClampNeg)]) (rest := []) ⟨hx, hb, hml, hown, hts⟩ (c_J13_bitCount_95d88 l G cs H.size    (v_syndromes ((v_places - 1) - x4).toNatClampNeg) _ rfl) (va_cwS 1 hts gX3_findReach_J13_bitCount_95d88 rfl rfl rfl hd_J13_bitCount_95d88 ⟨Nat.le_of_ble_eq_true rfl, Nat.le_of_ble_eq_true rfl⟩) ⟨pre_blind, pre_w hK RO.nil P0 D0 (va_new0 hS hA)⟩ rfl rfl hl.1 rfl (lv_room (Nat.le_of_ble_eq_true rfl)) dX3_findReach_46 ⟨Nat.zero_le _, Nat.zero_le _⟩) hP hS hA (fun hE5 H locs hP hS => ?_)
      refine lv_iconst (v := 2) hx hb dX3_findReach_49 (by decide) ?_
      refine lv_icmp_lt (tgt := 65) hx hb dX3_findReach_50 (by decide) (fun b6 => ?_) (fun b6 => ?_)
      · have hm := i_t b6 hm
        refine lv_iload hx hb dX3_findReach_65 (lv_at hl 2 rfl) ?_
        refine lv_bipush (v := 8) hx hb dX3_findReach_67 (by decide) ?_
        refine lv_idiv hx hb dX3_findReach_69 (by decide) ?_
        have hq := hret _ (st_exit hm hst)
        subst hq; subst hQ
        exact k_iret hx hb hr hlocks hP hD hS rfl trivial dX3_findReach_70
      · have hm := i_f b6 hm
        refine lv_aload_n hx hb dX3_findReach_53 rfl (lv_at hl 1 rfl) ?_
        refine va_get (D := G) (ci := 2) (v := .ref (q 2)) (C := RX3) (T := TX3) (N := 3) hx hb hts hinX3 hown hK.1 hP 0 rfl rfl 2 (by decide) wd1 (fun _ h9 => h9) rfl dX3_findReach_54 ?_
        refine lv_lload hx hb dX3_findReach_57 (lv_at hl 0 rfl) ?_
        obtain ⟨r7, hc_r7, hm⟩ := bs hm
        refine k_callij (wr := [((q 0), .inr (2, [.ref (q 1), .int v_places, .ref (q 2)])), ((q 1), .inl (cs.2.1, 512, .inr (.inl v_syndromes)))]) (w2 := (ww_P q cs v_syndromes v_places v_firstEntry v_nextEntry v_numbers v_counts v_size)) (va_runV (As := [.long (v_syndromes ((v_places - 1) - x4).toNatClampNeg)]) (rest := []) ⟨hx, hb, hml, hown, hts⟩ (c_X7_timesOf l G cs (fun i => q (i + 2)) H.size v_firstEntry v_nextEntry v_numbers v_counts v_size   (v_syndromes ((v_places - 1) - x4).toNatClampNeg) n r7 hc_r7) (cwV 1 hts gX3_findReach_X7_timesOf rfl rfl rfl ⟨rfl, hd_X7_timesOf⟩ ⟨Nat.le_of_ble_eq_true rfl, Nat.le_of_ble_eq_true rfl⟩) ⟨pre_blind, va_recv hK.1 hP (ci := 5) (q0 := 2) rfl rfl, pre_w hK RO.nil (P_by hP [2, 3, 4, 5, 6] rfl) (hD.sub [2, 3, 4, 5, 6] (by decide) rfl) (va_free hD hS hA [2, 3, 4, 5, 6] rfl)⟩ rfl rfl hl.1 rfl (lv_room (Nat.le_of_ble_eq_true rfl)) dX3_findReach_59 ⟨Nat.zero_le _, Nat.zero_le _⟩) hP hD hS hA [2, 3, 4, 5, 6] [0, 1] [0, 1, 2, 3, 4, 5, 6] rfl rfl (by decide) (by decide) rfl (by decide) (fun hE8 H locs hP hD hS => ?_)
        have hP : va_P G vwCl (ww_P q cs v_syndromes v_places v_firstEntry v_nextEntry v_numbers v_counts v_size) H := hP
        have hD : va_D A (ww_P q cs v_syndromes v_places v_firstEntry v_nextEntry v_numbers v_counts v_size) := hD
        refine lv_if_le (tgt := 71) hx hb dX3_findReach_62 (by decide) (fun b9 => ?_) (fun b9 => ?_)
        · have hm := i_t b9 hm
          refine lv_aload_n hx hb dX3_findReach_71 rfl (lv_at hl 1 rfl) ?_
          refine va_get (D := G) (ci := 2) (v := .ref (q 2)) (C := RX3) (T := TX3) (N := 3) hx hb hts hinX3 hown hK.1 hP 0 rfl rfl 2 (by decide) wd1 (fun _ h9 => h9) rfl dX3_findReach_72 ?_
          refine lv_lload hx hb dX3_findReach_75 (lv_at hl 0 rfl) ?_
          obtain ⟨r10, hc_r10, hm⟩ := bs hm
          refine k_callvj (wr := [((q 0), .inr (2, [.ref (q 1), .int v_places, .ref (q 2)])), ((q 1), .inl (cs.2.1, 512, .inr (.inl v_syndromes)))]) (w2 := (ww_P q cs v_syndromes v_places r10.1 r10.2.1 r10.2.2.1 r10.2.2.2.1 r10.2.2.2.2)) (va_runV (As := [.long (v_syndromes ((v_places - 1) - x4).toNatClampNeg)]) (rest := []) ⟨hx, hb, hml, hown, hts⟩ (c_X7_note l G cs (fun i => q (i + 2)) H.size v_firstEntry v_nextEntry v_numbers v_counts v_size   (v_syndromes ((v_places - 1) - x4).toNatClampNeg) n r10 hc_r10) (cwV 1 hts gX3_findReach_X7_note rfl rfl rfl ⟨rfl, hd_X7_note⟩ ⟨Nat.le_of_ble_eq_true rfl, Nat.le_of_ble_eq_true rfl⟩) ⟨pre_blind, va_recv hK.1 hP (ci := 5) (q0 := 2) rfl rfl, pre_w hK RO.nil (P_by hP [2, 3, 4, 5, 6] rfl) (hD.sub [2, 3, 4, 5, 6] (by decide) rfl) (va_free hD hS hA [2, 3, 4, 5, 6] rfl)⟩ rfl rfl hl.1 rfl (lv_room (Nat.le_of_ble_eq_true rfl)) dX3_findReach_77 ⟨Nat.zero_le _, Nat.zero_le _⟩) hP hD hS hA [2, 3, 4, 5, 6] [0, 1] [0, 1, 2, 3, 4, 5, 6] rfl rfl (by decide) (by decide) rfl (by decide) (fun H locs hP hD hS => ?_)
          have hP : va_P G vwCl (ww_P q cs v_syndromes v_places r10.1 r10.2.1 r10.2.2.1 r10.2.2.2.1 r10.2.2.2.2) H := hP
          have hD : va_D A (ww_P q cs v_syndromes v_places r10.1 r10.2.1 r10.2.2.1 r10.2.2.2.1 r10.2.2.2.2) := hD
          refine lv_iinc (v := x4 + 1) (lv' := [(4, .int (x4 + 1)), (5, .long (v_syndromes ((v_places - 1) - x4).toNatClampNeg)), (0, .ref (q 0))]) hx hb dX3_findReach_80 hl (k := 2) rfl rfl (by decide) rfl (fun ls hl => ?_)
          refine lv_goto (tgt := 19) hx hb dX3_findReach_83 (by decide) ?_
          exact st_next hm hst H locs hP hD hS ls (lv_sub hl [2, 0] rfl)
        · have hm := i_f b9 hm
          refine lv_iload hx hb dX3_findReach_65 (lv_at hl 2 rfl) ?_
          refine lv_bipush (v := 8) hx hb dX3_findReach_67 (by decide) ?_
          refine lv_idiv hx hb dX3_findReach_69 (by decide) ?_
          have hq := hret _ (st_exit hm hst)
          subst hq; subst hQ
          exact k_iret hx hb hr hlocks hP hD hS rfl trivial dX3_findReach_70
  unfold M_X3_findReach at hm
  refine lv_aload_n hx hb dX3_findReach_0 rfl (lv_at hl 0 rfl) ?_
  refine lv_bipush (v := 64) hx hb dX3_findReach_1 (by decide) ?_
  refine lv_iload_n hx hb dX3_findReach_3 rfl (lv_at hl 1 rfl) ?_
  refine lv_lload_n hx hb dX3_findReach_4 rfl (lv_at hl 2 rfl) ?_
  refine lv_iconst (v := 0) hx hb dX3_findReach_5 (by decide) ?_
  obtain ⟨r1, hc_r1, hm⟩ := bs hm
  refine k_callv (va_runV (As := [.int 64, .int x1, .long x2, .int 0]) (rest := []) ⟨hx, hb, hml, hown, hts⟩ (c_X3_load l G cs q H.size v_syndromes v_places v_firstEntry v_nextEntry v_numbers v_counts v_size   (64 : Int32) x1 x2 (0 : Int32) n r1 hc_r1) (cwV 4 hts gX3_findReach_X3_load rfl rfl rfl ⟨rfl, hd_X3_load⟩ ⟨Nat.le_of_ble_eq_true rfl, Nat.le_of_ble_eq_true rfl⟩) ⟨pre_blind, va_recv hK.1 hP (ci := 2) (q0 := 0) rfl rfl, pre_w hK RO.nil hP hD (va_all hD hS hA)⟩ rfl rfl hl.1 rfl (lv_room (Nat.le_of_ble_eq_true rfl)) dX3_findReach_6 ⟨Nat.zero_le _, Nat.zero_le _⟩) hS (va_all hD hS hA) (fun H locs hP hD hS => ?_)
  have hP : va_P G vwCl (ww_P q cs r1.1 r1.2 v_firstEntry v_nextEntry v_numbers v_counts v_size) H := hP
  have hD : va_D A (ww_P q cs r1.1 r1.2 v_firstEntry v_nextEntry v_numbers v_counts v_size) := hD
  refine lv_aload_n hx hb dX3_findReach_9 rfl (lv_at hl 0 rfl) ?_
  refine va_get (D := G) (ci := 2) (v := .ref (q 2)) (C := RX3) (T := TX3) (N := 3) hx hb hts hinX3 hown hK.1 hP 0 rfl rfl 2 (by decide) wd1 (fun _ h9 => h9) rfl dX3_findReach_10 ?_
  obtain ⟨r2, hc_r2, hm⟩ := bs hm
  refine k_callvj (wr := [((q 0), .inr (2, [.ref (q 1), .int r1.2, .ref (q 2)])), ((q 1), .inl (cs.2.1, 512, .inr (.inl r1.1)))]) (w2 := (ww_P q cs r1.1 r1.2 r2.1 v_nextEntry v_numbers v_counts r2.2)) (va_runV (As := []) (rest := []) ⟨hx, hb, hml, hown, hts⟩ (c_X7_forget l G cs (fun i => q (i + 2)) H.size v_firstEntry v_nextEntry v_numbers v_counts v_size    n r2 hc_r2) (cwV 0 hts gX3_findReach_X7_forget rfl rfl rfl ⟨rfl, hd_X7_forget⟩ ⟨Nat.le_of_ble_eq_true rfl, Nat.le_of_ble_eq_true rfl⟩) ⟨pre_blind, va_recv hK.1 hP (ci := 5) (q0 := 2) rfl rfl, pre_w hK RO.nil (P_by hP [2, 3, 4, 5, 6] rfl) (hD.sub [2, 3, 4, 5, 6] (by decide) rfl) (va_free hD hS hA [2, 3, 4, 5, 6] rfl)⟩ rfl rfl hl.1 rfl (lv_room (Nat.le_of_ble_eq_true rfl)) dX3_findReach_13 ⟨Nat.zero_le _, Nat.zero_le _⟩) hP hD hS hA [2, 3, 4, 5, 6] [0, 1] [0, 1, 2, 3, 4, 5, 6] rfl rfl (by decide) (by decide) rfl (by decide) (fun H locs hP hD hS => ?_)
  have hP : va_P G vwCl (ww_P q cs r1.1 r1.2 r2.1 v_nextEntry v_numbers v_counts r2.2) H := hP
  have hD : va_D A (ww_P q cs r1.1 r1.2 r2.1 v_nextEntry v_numbers v_counts r2.2) := hD
  refine lv_iconst (v := 0) hx hb dX3_findReach_16 (by decide) ?_
  refine lv_istore (lv' := [(4, .int 0), (0, .ref (q 0)), (1, .int x1), (2, .long x2)]) hx hb dX3_findReach_17 hl (by decide) rfl (fun ls hl => ?_)
  obtain ⟨u11, hlp11, hm⟩ := bs hm
  refine L19 (0 : Int32) r1.1 r1.2 r2.1 v_nextEntry v_numbers v_counts r2.2 u11 hlp11 (fun r h => Option.some.inj (se_r h hm)) (fun o11 ho => ?_) H locs hP hD hS ls (lv_sub hl [1, 0] rfl)
  have hm := se_l ho hm
  intro H locs hP hD hS ls hl
  have hl : lv_has ls 7 [] := hl
  have hP : va_P G vwCl (ww_P q cs r1.1 r1.2 o11.1 o11.2.1 o11.2.2.1 o11.2.2.2.1 o11.2.2.2.2) H := hP
  have hD : va_D A (ww_P q cs r1.1 r1.2 o11.1 o11.2.1 o11.2.2.1 o11.2.2.2.1 o11.2.2.2.2) := hD
  refine lv_bipush (v := 64) hx hb dX3_findReach_86 (by decide) ?_
  have hq := Option.some.inj hm
  subst hq; subst hQ
  exact k_iret hx hb hr hlocks hP hD hS rfl trivial dX3_findReach_88

theorem hd_X0_isTold : yX0_isTold.cls ≠ "java/lang/invoke/MethodHandle" ∧ yX0_isTold.cls ≠ "java/lang/invoke/VarHandle" ∧ (parseMethodDescriptor yX0_isTold.desc).map (fun d => d.parameters.length) = some 1 := by decide +kernel

def M_X0_isTold_b2 (n : Nat) (x1 : Int32) (v_toldPlaces : (Nat → Int32)) (v_placeCount : Int32) (x2 : Int32) : Option (Int32 ⊕ (Unit ⊕ Int32)) :=
  if v_placeCount ≤ x2 then (some (.inr (.inl ()))) else (if x2 < 0 ∨ 16 ≤ x2.toNatClampNeg then none else if (v_toldPlaces x2.toNatClampNeg) = x1 then (some (.inr (.inr 1))) else (some (.inl (x2 + 1))))

def M_X0_isTold (n : Nat) (x1 : Int32) (v_toldPlaces : (Nat → Int32)) (v_placeCount : Int32) : Option Int32 :=
  (lp (fun x : Int32 => M_X0_isTold_b2 n x1 v_toldPlaces v_placeCount x) n (0 : Int32)).bind (Sum.elim (fun o4 => some 0) (fun r => some r))

abbrev ww_A (q : Nat → Nat) (cs : CS) (v_toldPlaces : (Nat → Int32)) (v_placeCount : Int32) (v_ways : (Nat → Int32)) (v_wayCount : Int32) (v_usable : (Nat → Int32)) (v_upTo : (Nat → Int64))   : va_W := [((q 0), .inr (0, [.ref (q 1), .int v_placeCount, .ref (q 2), .int v_wayCount, .ref (q 3), .ref (q 4)])), ((q 1), .inl (cs.1, 16, .inl v_toldPlaces)), ((q 2), .inl (cs.1, 64, .inl v_ways)), ((q 3), .inl (cs.1, 16, .inl v_usable)), ((q 4), .inl (cs.2.1, 16, .inr (.inl v_upTo)))]

abbrev rmX0_isTold : Room := { frames := 0, cells := 0, slots := 0, locals := 0 }
set_option maxHeartbeats 4000000 in
set_option maxRecDepth 100000 in
theorem c_X0_isTold (l : Launch) (G : va_G) (cs : CS) (q : Nat → Nat) (sz : Nat) (v_toldPlaces : (Nat → Int32)) (v_placeCount : Int32) (v_ways : (Nat → Int32)) (v_wayCount : Int32) (v_usable : (Nat → Int32)) (v_upTo : (Nat → Int64))   (x1 : Int32) (n : Nat) (res : Int32) (hm : M_X0_isTold n x1 v_toldPlaces v_placeCount = some res) : Met l yX0_isTold wsX0_isTold rmX0_isTold (va_Pc [.ref (q 0), .int x1] (PreW G cs sz (ww_A q cs v_toldPlaces v_placeCount v_ways v_wayCount v_usable v_upTo) RN)) (QI G res (res = 0 ∨ res = 1) (ww_A q cs v_toldPlaces v_placeCount v_ways v_wayCount v_usable v_upTo) (va_A (ww_A q cs v_toldPlaces v_placeCount v_ways v_wayCount v_usable v_upTo) sz)) 0 0 (va_A (ww_A q cs v_toldPlaces v_placeCount v_ways v_wayCount v_usable v_upTo) sz) := by
  refine k_enter (Qf := fun A => QI G res (res = 0 ∨ res = 1) (ww_A q cs v_toldPlaces v_placeCount v_ways v_wayCount v_usable v_upTo) A) (cc := cX0_isTold) (maxL := 3) (ret := (some .boolean)) (plainFor_of_name (by decide)) rfl (Nat.le_of_ble_eq_true rfl) ?_
  intro p e s m args below meth c A Q ls H locs hx hb hr hml hown hts hlocks hname hK hA hRo hP hD hS hQ hl
  have hl : lv_has ls 3 [(0, .ref (q 0)), (1, .int x1)] := hl
  have wd1 := hts (.fieldLink RX0 15 "SumSmith$Aims" "placeCount" "I") (List.mem_of_getElem? (i := 1) rfl)
  have wd2 := hts (.fieldLink RX0 9 "SumSmith$Aims" "toldPlaces" "[I") (List.mem_of_getElem? (i := 2) rfl)
  have hinX0 : ∀ w ∈ wsX00, w ∈ wsX0_isTold := fun w h => List.mem_cons_of_mem _ (List.mem_append_right _ h)
  have L2 : ∀ (x1 : Int32) (x2 : Int32) (out : (Unit ⊕ Int32)), lp (fun x : Int32 => M_X0_isTold_b2 n x1 v_toldPlaces v_placeCount x) n x2 = some out → (∀ r, out = .inr r → r = res) → (∀ (o : Unit), out = .inl o → ∀ (H : Heap) (locs : List Loc), va_P G vwCl (ww_A q cs v_toldPlaces v_placeCount v_ways v_wayCount v_usable v_upTo) H → va_D A (ww_A q cs v_toldPlaces v_placeCount v_ways v_wayCount v_usable v_upTo) → va_S A s.heap H locs → ∀ (ls : Array Slot), lv_has ls 3 [] → W p l e rmX0_isTold s m args below meth c H locs 0 0 Q (F0 m 28 ls [])) → ∀ (H : Heap) (locs : List Loc), va_P G vwCl (ww_A q cs v_toldPlaces v_placeCount v_ways v_wayCount v_usable v_upTo) H → va_D A (ww_A q cs v_toldPlaces v_placeCount v_ways v_wayCount v_usable v_upTo) → va_S A s.heap H locs → ∀ (ls : Array Slot), lv_has ls 3 [(0, .ref (q 0)), (1, .int x1), (2, .int x2)] → W p l e rmX0_isTold s m args below meth c H locs 0 0 Q (F0 m 2 ls []) := by
    intro x1 x2 out hlp hret hX
    refine lp_ind (fun x => ∀ (H : Heap) (locs : List Loc), va_P G vwCl (ww_A q cs v_toldPlaces v_placeCount v_ways v_wayCount v_usable v_upTo) H → va_D A (ww_A q cs v_toldPlaces v_placeCount v_ways v_wayCount v_usable v_upTo) → va_S A s.heap H locs → ∀ (ls : Array Slot), lv_has ls 3 [(0, .ref (q 0)), (1, .int x1), (2, .int x)] → W p l e rmX0_isTold s m args below meth c H locs 0 0 Q (F0 m 2 ls [])) ?_ n x2 hlp
    clear hlp hP hD hS hl
    intro x2 ob hm hst H locs hP hD hS ls hl
    have hm : M_X0_isTold_b2 n x1 v_toldPlaces v_placeCount x2 = some ob := hm
    have hl : lv_has ls 3 [(0, .ref (q 0)), (1, .int x1), (2, .int x2)] := hl
    have hP : va_P G vwCl (ww_A q cs v_toldPlaces v_placeCount v_ways v_wayCount v_usable v_upTo) H := hP
    have hD : va_D A (ww_A q cs v_toldPlaces v_placeCount v_ways v_wayCount v_usable v_upTo) := hD
    unfold M_X0_isTold_b2 at hm
    refine lv_iload_n hx hb dX0_isTold_2 rfl (lv_at hl 2 rfl) ?_
    refine lv_aload_n hx hb dX0_isTold_3 rfl (lv_at hl 0 rfl) ?_
    refine va_get (D := G) (ci := 0) (v := .int v_placeCount) (C := RX0) (T := TX0) (N := 6) hx hb hts hinX0 hown hK.1 hP 0 rfl rfl 1 (by decide) wd1 (fun _ h9 => h9) rfl dX0_isTold_4 ?_
    refine lv_icmp_ge (tgt := 28) hx hb dX0_isTold_7 (by decide) (fun b1 => ?_) (fun b1 => ?_)
    · have hm := i_t b1 hm
      exact hX _ (st_exit hm hst) H locs hP hD hS ls (lv_sub hl [] rfl)
    · have hm := i_f b1 hm
      refine lv_aload_n hx hb dX0_isTold_10 rfl (lv_at hl 0 rfl) ?_
      refine va_get (D := G) (ci := 0) (v := .ref (q 1)) (C := RX0) (T := TX0) (N := 6) hx hb hts hinX0 hown hK.1 hP 0 rfl rfl 0 (by decide) wd2 (fun _ h9 => h9) rfl dX0_isTold_11 ?_
      refine lv_iload_n hx hb dX0_isTold_14 rfl (lv_at hl 2 rfl) ?_
      obtain ⟨h2, hm⟩ := g_in hm
      refine va_iald hx hb hK.1 hP 1 0 rfl rfl h2 dX0_isTold_15 ?_
      refine lv_iload_n hx hb dX0_isTold_16 rfl (lv_at hl 1 rfl) ?_
      refine lv_icmp_ne (tgt := 22) hx hb dX0_isTold_17 (by decide) (fun b3 => ?_) (fun b3 => ?_)
      · have hm := i_f b3 hm
        refine lv_iinc (v := x2 + 1) (lv' := [(2, .int (x2 + 1)), (0, .ref (q 0)), (1, .int x1)]) hx hb dX0_isTold_22 hl (k := 2) rfl rfl (by decide) rfl (fun ls hl => ?_)
        refine lv_goto (tgt := 2) hx hb dX0_isTold_25 (by decide) ?_
        exact st_next hm hst H locs hP hD hS ls (lv_sub hl [1, 2, 0] rfl)
      · have hm := i_t b3 hm
        refine lv_iconst (v := 1) hx hb dX0_isTold_20 (by decide) ?_
        have hq := hret _ (st_exit hm hst)
        subst hq; subst hQ
        exact k_zret hx hb hr hlocks hP hD hS rfl (by decide) dX0_isTold_21
  unfold M_X0_isTold at hm
  refine lv_iconst (v := 0) hx hb dX0_isTold_0 (by decide) ?_
  refine lv_istore_n (lv' := [(2, .int 0), (0, .ref (q 0)), (1, .int x1)]) hx hb dX0_isTold_1 rfl hl (by decide) rfl (fun ls hl => ?_)
  obtain ⟨u4, hlp4, hm⟩ := bs hm
  refine L2 x1 (0 : Int32) u4 hlp4 (fun r h => Option.some.inj (se_r h hm)) (fun o4 ho => ?_) H locs hP hD hS ls (lv_sub hl [1, 2, 0] rfl)
  have hm := se_l ho hm
  intro H locs hP hD hS ls hl
  have hl : lv_has ls 3 [] := hl
  have hP : va_P G vwCl (ww_A q cs v_toldPlaces v_placeCount v_ways v_wayCount v_usable v_upTo) H := hP
  have hD : va_D A (ww_A q cs v_toldPlaces v_placeCount v_ways v_wayCount v_usable v_upTo) := hD
  refine lv_iconst (v := 0) hx hb dX0_isTold_28 (by decide) ?_
  have hq := Option.some.inj hm
  subst hq; subst hQ
  exact k_zret hx hb hr hlocks hP hD hS rfl (by decide) dX0_isTold_29

theorem hd_X0_isFull : yX0_isFull.cls ≠ "java/lang/invoke/MethodHandle" ∧ yX0_isFull.cls ≠ "java/lang/invoke/VarHandle" ∧ (parseMethodDescriptor yX0_isFull.desc).map (fun d => d.parameters.length) = some 0 := by decide +kernel

def M_X0_isFull  (v_placeCount : Int32) : Int32 :=
  if v_placeCount < 16 then 0 else 1

abbrev rmX0_isFull : Room := { frames := 0, cells := 0, slots := 0, locals := 0 }
set_option maxHeartbeats 4000000 in
set_option maxRecDepth 100000 in
theorem c_X0_isFull (l : Launch) (G : va_G) (cs : CS) (q : Nat → Nat) (sz : Nat) (v_toldPlaces : (Nat → Int32)) (v_placeCount : Int32) (v_ways : (Nat → Int32)) (v_wayCount : Int32) (v_usable : (Nat → Int32)) (v_upTo : (Nat → Int64))    (res : Int32) (hm : M_X0_isFull v_placeCount = res) : Met l yX0_isFull wsX0_isFull rmX0_isFull (va_Pc [.ref (q 0)] (PreW G cs sz (ww_A q cs v_toldPlaces v_placeCount v_ways v_wayCount v_usable v_upTo) RN)) (QI G res (res = 0 ∨ res = 1) (ww_A q cs v_toldPlaces v_placeCount v_ways v_wayCount v_usable v_upTo) (va_A (ww_A q cs v_toldPlaces v_placeCount v_ways v_wayCount v_usable v_upTo) sz)) 0 0 (va_A (ww_A q cs v_toldPlaces v_placeCount v_ways v_wayCount v_usable v_upTo) sz) := by
  refine k_enter (Qf := fun A => QI G res (res = 0 ∨ res = 1) (ww_A q cs v_toldPlaces v_placeCount v_ways v_wayCount v_usable v_upTo) A) (cc := cX0_isFull) (maxL := 1) (ret := (some .boolean)) (plainFor_of_name (by decide)) rfl (Nat.le_of_ble_eq_true rfl) ?_
  intro p e s m args below meth c A Q ls H locs hx hb hr hml hown hts hlocks hname hK hA hRo hP hD hS hQ hl
  have hl : lv_has ls 1 [(0, .ref (q 0))] := hl
  have wd1 := hts (.fieldLink RX0 15 "SumSmith$Aims" "placeCount" "I") (List.mem_of_getElem? (i := 1) rfl)
  have hinX0 : ∀ w ∈ wsX00, w ∈ wsX0_isFull := fun w h => List.mem_cons_of_mem _ (List.mem_append_right _ h)
  unfold M_X0_isFull at hm
  refine lv_aload_n hx hb dX0_isFull_0 rfl (lv_at hl 0 rfl) ?_
  refine va_get (D := G) (ci := 0) (v := .int v_placeCount) (C := RX0) (T := TX0) (N := 6) hx hb hts hinX0 hown hK.1 hP 0 rfl rfl 1 (by decide) wd1 (fun _ h9 => h9) rfl dX0_isFull_1 ?_
  refine lv_bipush (v := 16) hx hb dX0_isFull_4 (by decide) ?_
  refine lv_icmp_lt (tgt := 13) hx hb dX0_isFull_6 (by decide) (fun b1 => ?_) (fun b1 => ?_)
  · have hm := i_t b1 hm
    refine lv_iconst (v := 0) hx hb dX0_isFull_13 (by decide) ?_
    have hq := hm
    subst hq; subst hQ
    exact k_zret hx hb hr hlocks hP hD hS rfl (by decide) dX0_isFull_14
  · have hm := i_f b1 hm
    refine lv_iconst (v := 1) hx hb dX0_isFull_9 (by decide) ?_
    refine lv_goto (tgt := 14) hx hb dX0_isFull_10 (by decide) ?_
    have hq := hm
    subst hq; subst hQ
    exact k_zret hx hb hr hlocks hP hD hS rfl (by decide) dX0_isFull_14

theorem hd_X0_addPlace : yX0_addPlace.cls ≠ "java/lang/invoke/MethodHandle" ∧ yX0_addPlace.cls ≠ "java/lang/invoke/VarHandle" ∧ (parseMethodDescriptor yX0_addPlace.desc).map (fun d => d.parameters.length) = some 1 := by decide +kernel

def M_X0_addPlace (x1 : Int32) (v_toldPlaces : (Nat → Int32)) (v_placeCount : Int32) : Option (Int32 × (Nat → Int32) × Int32) :=
  if v_placeCount < 0 ∨ 16 ≤ v_placeCount.toNatClampNeg then none else some ((v_placeCount + 1), (upd v_toldPlaces v_placeCount.toNatClampNeg x1), (v_placeCount + 1))

abbrev rmX0_addPlace : Room := { frames := 0, cells := 0, slots := 0, locals := 0 }
set_option maxHeartbeats 4000000 in
set_option maxRecDepth 100000 in
theorem c_X0_addPlace (l : Launch) (G : va_G) (cs : CS) (q : Nat → Nat) (sz : Nat) (v_toldPlaces : (Nat → Int32)) (v_placeCount : Int32) (v_ways : (Nat → Int32)) (v_wayCount : Int32) (v_usable : (Nat → Int32)) (v_upTo : (Nat → Int64))   (x1 : Int32) (res : (Int32 × (Nat → Int32) × Int32)) (hm : M_X0_addPlace x1 v_toldPlaces v_placeCount = some res) : Met l yX0_addPlace wsX0_addPlace rmX0_addPlace (va_Pc [.ref (q 0), .int x1] (PreW G cs sz (ww_A q cs v_toldPlaces v_placeCount v_ways v_wayCount v_usable v_upTo) RN)) (QI G res.1 True (ww_A q cs res.2.1 res.2.2 v_ways v_wayCount v_usable v_upTo) (va_A (ww_A q cs v_toldPlaces v_placeCount v_ways v_wayCount v_usable v_upTo) sz)) 0 0 (va_A (ww_A q cs v_toldPlaces v_placeCount v_ways v_wayCount v_usable v_upTo) sz) := by
  refine k_enter (Qf := fun A => QI G res.1 True (ww_A q cs res.2.1 res.2.2 v_ways v_wayCount v_usable v_upTo) A) (cc := cX0_addPlace) (maxL := 2) (ret := (some .int)) (plainFor_of_name (by decide)) rfl (Nat.le_of_ble_eq_true rfl) ?_
  intro p e s m args below meth c A Q ls H locs hx hb hr hml hown hts hlocks hname hK hA hRo hP hD hS hQ hl
  have hl : lv_has ls 2 [(0, .ref (q 0)), (1, .int x1)] := hl
  have wd1 := hts (.fieldLink RX0 9 "SumSmith$Aims" "toldPlaces" "[I") (List.mem_of_getElem? (i := 1) rfl)
  have wd2 := hts (.fieldLink RX0 15 "SumSmith$Aims" "placeCount" "I") (List.mem_of_getElem? (i := 2) rfl)
  have hinX0 : ∀ w ∈ wsX00, w ∈ wsX0_addPlace := fun w h => List.mem_cons_of_mem _ (List.mem_append_right _ h)
  unfold M_X0_addPlace at hm
  refine lv_aload_n hx hb dX0_addPlace_0 rfl (lv_at hl 0 rfl) ?_
  refine va_get (D := G) (ci := 0) (v := .ref (q 1)) (C := RX0) (T := TX0) (N := 6) hx hb hts hinX0 hown hK.1 hP 0 rfl rfl 0 (by decide) wd1 (fun _ h9 => h9) rfl dX0_addPlace_1 ?_
  refine lv_aload_n hx hb dX0_addPlace_4 rfl (lv_at hl 0 rfl) ?_
  refine va_get (D := G) (ci := 0) (v := .int v_placeCount) (C := RX0) (T := TX0) (N := 6) hx hb hts hinX0 hown hK.1 hP 0 rfl rfl 1 (by decide) wd2 (fun _ h9 => h9) rfl dX0_addPlace_5 ?_
  refine lv_iload_n hx hb dX0_addPlace_8 rfl (lv_at hl 1 rfl) ?_
  obtain ⟨h1, hm⟩ := g_in hm
  refine va_iast hx hb hK.1 hP hD hS 1 0 rfl rfl h1 dX0_addPlace_9 (fun H locs hP hD hS => ?_)
  have hP : va_P G vwCl (ww_A q cs (upd v_toldPlaces v_placeCount.toNatClampNeg x1) v_placeCount v_ways v_wayCount v_usable v_upTo) H := hP
  have hD : va_D A (ww_A q cs (upd v_toldPlaces v_placeCount.toNatClampNeg x1) v_placeCount v_ways v_wayCount v_usable v_upTo) := hD
  refine lv_aload_n hx hb dX0_addPlace_10 rfl (lv_at hl 0 rfl) ?_
  refine lv_dup hx hb dX0_addPlace_11 rfl ?_
  refine va_get (D := G) (ci := 0) (v := .int v_placeCount) (C := RX0) (T := TX0) (N := 6) hx hb hts hinX0 hown hK.1 hP 0 rfl rfl 1 (by decide) wd2 (fun _ h9 => h9) rfl dX0_addPlace_12 ?_
  refine lv_iconst (v := 1) hx hb dX0_addPlace_15 (by decide) ?_
  refine lv_iadd hx hb dX0_addPlace_16 ?_
  refine va_put (D := G) (ci := 0) (v := .int (v_placeCount + 1)) (ty := .int) (C := RX0) (T := TX0) (N := 6) hx hb hts hinX0 tyX0 tyX0_ok nmX0 hown hK.1 hP hD hS 0 rfl rfl 1 (by decide) wd2 (fun _ h9 => h9) rfl (by decide +kernel) rfl rfl (Nat.le_of_ble_eq_true rfl) dX0_addPlace_17 (fun H locs hP hD hS => ?_)
  have hP : va_P G vwCl (ww_A q cs (upd v_toldPlaces v_placeCount.toNatClampNeg x1) (v_placeCount + 1) v_ways v_wayCount v_usable v_upTo) H := hP
  have hD : va_D A (ww_A q cs (upd v_toldPlaces v_placeCount.toNatClampNeg x1) (v_placeCount + 1) v_ways v_wayCount v_usable v_upTo) := hD
  refine lv_aload_n hx hb dX0_addPlace_20 rfl (lv_at hl 0 rfl) ?_
  refine va_get (D := G) (ci := 0) (v := .int (v_placeCount + 1)) (C := RX0) (T := TX0) (N := 6) hx hb hts hinX0 hown hK.1 hP 0 rfl rfl 1 (by decide) wd2 (fun _ h9 => h9) rfl dX0_addPlace_21 ?_
  have hq := Option.some.inj hm
  subst hq; subst hQ
  exact k_iret hx hb hr hlocks hP hD hS rfl trivial dX0_addPlace_24

theorem hd_X0_fillUsable : yX0_fillUsable.cls ≠ "java/lang/invoke/MethodHandle" ∧ yX0_fillUsable.cls ≠ "java/lang/invoke/VarHandle" ∧ (parseMethodDescriptor yX0_fillUsable.desc).map (fun d => d.parameters.length) = some 2 := by decide +kernel

def M_X0_fillUsable_b8 (n : Nat) (x2 : Int32) (v_toldPlaces : (Nat → Int32)) (v_placeCount : Int32) (v_p1 : (Nat → Int64)) (n1 : Nat) (x3 : Int32) (x4 : Int64) (x6 : Int32) (v_usable : (Nat → Int32)) (v_upTo : (Nat → Int64)) : Option ((Int32 × Int64 × Int32 × (Nat → Int32) × (Nat → Int64)) ⊕ (Int32 × (Nat → Int32) × (Nat → Int64))) :=
  if v_placeCount ≤ x6 then (some (.inr (x3, v_usable, v_upTo))) else (if x6 < 0 ∨ 16 ≤ x6.toNatClampNeg then none else if x2 ≤ (v_toldPlaces x6.toNatClampNeg) then (some (.inl (x3, x4, x6 + 1, v_usable, v_upTo))) else (if x6 < 0 ∨ 16 ≤ x6.toNatClampNeg then none else if (v_toldPlaces x6.toNatClampNeg) < 0 ∨ n1 ≤ (v_toldPlaces x6.toNatClampNeg).toNatClampNeg then none else if x3 < 0 ∨ 16 ≤ x3.toNatClampNeg then none else if x3 < 0 ∨ 16 ≤ x3.toNatClampNeg then none else some (.inl (x3 + 1, x4 ^^^ (v_p1 (v_toldPlaces x6.toNatClampNeg).toNatClampNeg), x6 + 1, (upd v_usable x3.toNatClampNeg x6), (vp_updL v_upTo x3.toNatClampNeg (x4 ^^^ (v_p1 (v_toldPlaces x6.toNatClampNeg).toNatClampNeg)))))))

def M_X0_fillUsable (n : Nat) (x2 : Int32) (v_toldPlaces : (Nat → Int32)) (v_placeCount : Int32) (v_usable : (Nat → Int32)) (v_upTo : (Nat → Int64)) (v_p1 : (Nat → Int64)) (n1 : Nat) : Option (Int32 × (Nat → Int32) × (Nat → Int64)) :=
  (lp (fun x : (Int32 × Int64 × Int32 × (Nat → Int32) × (Nat → Int64)) => M_X0_fillUsable_b8 n x2 v_toldPlaces v_placeCount v_p1 n1 x.1 x.2.1 x.2.2.1 x.2.2.2.1 x.2.2.2.2) n ((0 : Int32), (0 : Int64), (0 : Int32), v_usable, v_upTo)).bind fun o8 => some (o8.1, o8.2.1, o8.2.2)

abbrev ww_X0_fillUsable (q : Nat → Nat) (cs : CS) (v_toldPlaces : (Nat → Int32)) (v_placeCount : Int32) (v_ways : (Nat → Int32)) (v_wayCount : Int32) (v_usable : (Nat → Int32)) (v_upTo : (Nat → Int64)) (v_p1 : (Nat → Int64)) (a1 : Nat) (n1 : Nat) : va_W := [((q 0), .inr (0, [.ref (q 1), .int v_placeCount, .ref (q 2), .int v_wayCount, .ref (q 3), .ref (q 4)])), ((q 1), .inl (cs.1, 16, .inl v_toldPlaces)), ((q 2), .inl (cs.1, 64, .inl v_ways)), ((q 3), .inl (cs.1, 16, .inl v_usable)), ((q 4), .inl (cs.2.1, 16, .inr (.inl v_upTo))), (a1, .inl (cs.2.1, n1, .inr (.inl v_p1)))]

abbrev rmX0_fillUsable : Room := { frames := 0, cells := 0, slots := 0, locals := 0 }
set_option maxHeartbeats 4000000 in
set_option maxRecDepth 100000 in
theorem c_X0_fillUsable (l : Launch) (G : va_G) (cs : CS) (q : Nat → Nat) (sz : Nat) (v_toldPlaces : (Nat → Int32)) (v_placeCount : Int32) (v_ways : (Nat → Int32)) (v_wayCount : Int32) (v_usable : (Nat → Int32)) (v_upTo : (Nat → Int64)) (v_p1 : (Nat → Int64)) (a1 : Nat) (n1 : Nat) (x2 : Int32) (n : Nat) (res : (Int32 × (Nat → Int32) × (Nat → Int64))) (hm : M_X0_fillUsable n x2 v_toldPlaces v_placeCount v_usable v_upTo v_p1 n1 = some res) : Met l yX0_fillUsable wsX0_fillUsable rmX0_fillUsable (va_Pc [.ref (q 0), .ref a1, .int x2] (PreW G cs sz (ww_X0_fillUsable q cs v_toldPlaces v_placeCount v_ways v_wayCount v_usable v_upTo v_p1 a1 n1) RN)) (QI G res.1 True (ww_X0_fillUsable q cs v_toldPlaces v_placeCount v_ways v_wayCount res.2.1 res.2.2 v_p1 a1 n1) (va_A (ww_X0_fillUsable q cs v_toldPlaces v_placeCount v_ways v_wayCount v_usable v_upTo v_p1 a1 n1) sz)) 0 0 (va_A (ww_X0_fillUsable q cs v_toldPlaces v_placeCount v_ways v_wayCount v_usable v_upTo v_p1 a1 n1) sz) := by
  refine k_enter (Qf := fun A => QI G res.1 True (ww_X0_fillUsable q cs v_toldPlaces v_placeCount v_ways v_wayCount res.2.1 res.2.2 v_p1 a1 n1) A) (cc := cX0_fillUsable) (maxL := 7) (ret := (some .int)) (plainFor_of_name (by decide)) rfl (Nat.le_of_ble_eq_true rfl) ?_
  intro p e s m args below meth c A Q ls H locs hx hb hr hml hown hts hlocks hname hK hA hRo hP hD hS hQ hl
  have hl : lv_has ls 7 [(0, .ref (q 0)), (1, .ref a1), (2, .int x2)] := hl
  have wd1 := hts (.fieldLink RX0 15 "SumSmith$Aims" "placeCount" "I") (List.mem_of_getElem? (i := 1) rfl)
  have wd2 := hts (.fieldLink RX0 9 "SumSmith$Aims" "toldPlaces" "[I") (List.mem_of_getElem? (i := 2) rfl)
  have wd3 := hts (.fieldLink RX0 28 "SumSmith$Aims" "upTo" "[J") (List.mem_of_getElem? (i := 3) rfl)
  have wd4 := hts (.fieldLink RX0 25 "SumSmith$Aims" "usable" "[I") (List.mem_of_getElem? (i := 4) rfl)
  have hinX0 : ∀ w ∈ wsX00, w ∈ wsX0_fillUsable := fun w h => List.mem_cons_of_mem _ (List.mem_append_right _ h)
  have L8 : ∀ (x2 : Int32) (x3 : Int32) (x4 : Int64) (x6 : Int32) (v_usable : (Nat → Int32)) (v_upTo : (Nat → Int64)) (out : (Int32 × (Nat → Int32) × (Nat → Int64))), lp (fun x : (Int32 × Int64 × Int32 × (Nat → Int32) × (Nat → Int64)) => M_X0_fillUsable_b8 n x2 v_toldPlaces v_placeCount v_p1 n1 x.1 x.2.1 x.2.2.1 x.2.2.2.1 x.2.2.2.2) n (x3, x4, x6, v_usable, v_upTo) = some out → (∀ (o : (Int32 × (Nat → Int32) × (Nat → Int64))), out = o → ∀ (H : Heap) (locs : List Loc), va_P G vwCl (ww_X0_fillUsable q cs v_toldPlaces v_placeCount v_ways v_wayCount o.2.1 o.2.2 v_p1 a1 n1) H → va_D A (ww_X0_fillUsable q cs v_toldPlaces v_placeCount v_ways v_wayCount o.2.1 o.2.2 v_p1 a1 n1) → va_S A s.heap H locs → ∀ (ls : Array Slot), lv_has ls 7 [(3, .int o.1)] → W p l e rmX0_fillUsable s m args below meth c H locs 0 0 Q (F0 m 67 ls [])) → ∀ (H : Heap) (locs : List Loc), va_P G vwCl (ww_X0_fillUsable q cs v_toldPlaces v_placeCount v_ways v_wayCount v_usable v_upTo v_p1 a1 n1) H → va_D A (ww_X0_fillUsable q cs v_toldPlaces v_placeCount v_ways v_wayCount v_usable v_upTo v_p1 a1 n1) → va_S A s.heap H locs → ∀ (ls : Array Slot), lv_has ls 7 [(0, .ref (q 0)), (1, .ref a1), (2, .int x2), (3, .int x3), (4, .long x4), (6, .int x6)] → W p l e rmX0_fillUsable s m args below meth c H locs 0 0 Q (F0 m 8 ls []) := by
    intro x2 x3 x4 x6 v_usable v_upTo out hlp hX
    refine lp_ind (fun x => ∀ (H : Heap) (locs : List Loc), va_P G vwCl (ww_X0_fillUsable q cs v_toldPlaces v_placeCount v_ways v_wayCount x.2.2.2.1 x.2.2.2.2 v_p1 a1 n1) H → va_D A (ww_X0_fillUsable q cs v_toldPlaces v_placeCount v_ways v_wayCount x.2.2.2.1 x.2.2.2.2 v_p1 a1 n1) → va_S A s.heap H locs → ∀ (ls : Array Slot), lv_has ls 7 [(0, .ref (q 0)), (1, .ref a1), (2, .int x2), (3, .int x.1), (4, .long x.2.1), (6, .int x.2.2.1)] → W p l e rmX0_fillUsable s m args below meth c H locs 0 0 Q (F0 m 8 ls [])) ?_ n (x3, x4, x6, v_usable, v_upTo) hlp
    clear hlp hP hD hS hl
    rintro ⟨x3, x4, x6, v_usable, v_upTo⟩ ob hm hst H locs hP hD hS ls hl
    have hm : M_X0_fillUsable_b8 n x2 v_toldPlaces v_placeCount v_p1 n1 x3 x4 x6 v_usable v_upTo = some ob := hm
    have hl : lv_has ls 7 [(0, .ref (q 0)), (1, .ref a1), (2, .int x2), (3, .int x3), (4, .long x4), (6, .int x6)] := hl
    have hP : va_P G vwCl (ww_X0_fillUsable q cs v_toldPlaces v_placeCount v_ways v_wayCount v_usable v_upTo v_p1 a1 n1) H := hP
    have hD : va_D A (ww_X0_fillUsable q cs v_toldPlaces v_placeCount v_ways v_wayCount v_usable v_upTo v_p1 a1 n1) := hD
    unfold M_X0_fillUsable_b8 at hm
    refine lv_iload hx hb dX0_fillUsable_8 (lv_at hl 5 rfl) ?_
    refine lv_aload_n hx hb dX0_fillUsable_10 rfl (lv_at hl 0 rfl) ?_
    refine va_get (D := G) (ci := 0) (v := .int v_placeCount) (C := RX0) (T := TX0) (N := 6) hx hb hts hinX0 hown hK.1 hP 0 rfl rfl 1 (by decide) wd1 (fun _ h9 => h9) rfl dX0_fillUsable_11 ?_
    refine lv_icmp_ge (tgt := 67) hx hb dX0_fillUsable_14 (by decide) (fun b1 => ?_) (fun b1 => ?_)
    · have hm := i_t b1 hm
      exact hX _ (st_exit hm hst) H locs hP hD hS ls (lv_sub hl [3] rfl)
    · have hm := i_f b1 hm
      refine lv_aload_n hx hb dX0_fillUsable_17 rfl (lv_at hl 0 rfl) ?_
      refine va_get (D := G) (ci := 0) (v := .ref (q 1)) (C := RX0) (T := TX0) (N := 6) hx hb hts hinX0 hown hK.1 hP 0 rfl rfl 0 (by decide) wd2 (fun _ h9 => h9) rfl dX0_fillUsable_18 ?_
      refine lv_iload hx hb dX0_fillUsable_21 (lv_at hl 5 rfl) ?_
      obtain ⟨h2, hm⟩ := g_in hm
      refine va_iald hx hb hK.1 hP 1 0 rfl rfl h2 dX0_fillUsable_23 ?_
      refine lv_iload_n hx hb dX0_fillUsable_24 rfl (lv_at hl 2 rfl) ?_
      refine lv_icmp_ge (tgt := 61) hx hb dX0_fillUsable_25 (by decide) (fun b3 => ?_) (fun b3 => ?_)
      · have hm := i_t b3 hm
        refine lv_iinc (v := x6 + 1) (lv' := [(6, .int (x6 + 1)), (0, .ref (q 0)), (1, .ref a1), (2, .int x2), (3, .int x3), (4, .long x4)]) hx hb dX0_fillUsable_61 hl (k := 5) rfl rfl (by decide) rfl (fun ls hl => ?_)
        refine lv_goto (tgt := 8) hx hb dX0_fillUsable_64 (by decide) ?_
        exact st_next hm hst H locs hP hD hS ls (lv_sub hl [1, 2, 3, 4, 5, 0] rfl)
      · have hm := i_f b3 hm
        refine lv_lload hx hb dX0_fillUsable_28 (lv_at hl 4 rfl) ?_
        refine lv_aload_n hx hb dX0_fillUsable_30 rfl (lv_at hl 1 rfl) ?_
        refine lv_aload_n hx hb dX0_fillUsable_31 rfl (lv_at hl 0 rfl) ?_
        refine va_get (D := G) (ci := 0) (v := .ref (q 1)) (C := RX0) (T := TX0) (N := 6) hx hb hts hinX0 hown hK.1 hP 0 rfl rfl 0 (by decide) wd2 (fun _ h9 => h9) rfl dX0_fillUsable_32 ?_
        refine lv_iload hx hb dX0_fillUsable_35 (lv_at hl 5 rfl) ?_
        obtain ⟨h4, hm⟩ := g_in hm
        refine va_iald hx hb hK.1 hP 1 0 rfl rfl h4 dX0_fillUsable_37 ?_
        obtain ⟨h5, hm⟩ := g_in hm
        refine va_lald hx hb hK.1 hP 5 1 rfl rfl h5 dX0_fillUsable_38 ?_
        refine lv_lxor hx hb dX0_fillUsable_39 ?_
        refine lv_lstore (lv' := [(4, .long (x4 ^^^ (v_p1 (v_toldPlaces x6.toNatClampNeg).toNatClampNeg))), (0, .ref (q 0)), (1, .ref a1), (2, .int x2), (3, .int x3), (6, .int x6)]) hx hb dX0_fillUsable_40 hl (by decide) rfl (fun ls hl => ?_)
        refine lv_aload_n hx hb dX0_fillUsable_42 rfl (lv_at hl 1 rfl) ?_
        refine va_get (D := G) (ci := 0) (v := .ref (q 4)) (C := RX0) (T := TX0) (N := 6) hx hb hts hinX0 hown hK.1 hP 0 rfl rfl 5 (by decide) wd3 (fun _ h9 => h9) rfl dX0_fillUsable_43 ?_
        refine lv_iload_n hx hb dX0_fillUsable_46 rfl (lv_at hl 4 rfl) ?_
        refine lv_lload hx hb dX0_fillUsable_47 (lv_at hl 0 rfl) ?_
        obtain ⟨h6, hm⟩ := g_in hm
        refine va_last hx hb hK.1 hP hD hS 4 1 rfl rfl h6 dX0_fillUsable_49 (fun H locs hP hD hS => ?_)
        have hP : va_P G vwCl (ww_X0_fillUsable q cs v_toldPlaces v_placeCount v_ways v_wayCount v_usable (vp_updL v_upTo x3.toNatClampNeg (x4 ^^^ (v_p1 (v_toldPlaces x6.toNatClampNeg).toNatClampNeg))) v_p1 a1 n1) H := hP
        have hD : va_D A (ww_X0_fillUsable q cs v_toldPlaces v_placeCount v_ways v_wayCount v_usable (vp_updL v_upTo x3.toNatClampNeg (x4 ^^^ (v_p1 (v_toldPlaces x6.toNatClampNeg).toNatClampNeg))) v_p1 a1 n1) := hD
        refine lv_aload_n hx hb dX0_fillUsable_50 rfl (lv_at hl 1 rfl) ?_
        refine va_get (D := G) (ci := 0) (v := .ref (q 3)) (C := RX0) (T := TX0) (N := 6) hx hb hts hinX0 hown hK.1 hP 0 rfl rfl 4 (by decide) wd4 (fun _ h9 => h9) rfl dX0_fillUsable_51 ?_
        refine lv_iload_n hx hb dX0_fillUsable_54 rfl (lv_at hl 4 rfl) ?_
        refine lv_iload hx hb dX0_fillUsable_55 (lv_at hl 5 rfl) ?_
        obtain ⟨h7, hm⟩ := g_in hm
        refine va_iast hx hb hK.1 hP hD hS 3 0 rfl rfl h7 dX0_fillUsable_57 (fun H locs hP hD hS => ?_)
        have hP : va_P G vwCl (ww_X0_fillUsable q cs v_toldPlaces v_placeCount v_ways v_wayCount (upd v_usable x3.toNatClampNeg x6) (vp_updL v_upTo x3.toNatClampNeg (x4 ^^^ (v_p1 (v_toldPlaces x6.toNatClampNeg).toNatClampNeg))) v_p1 a1 n1) H := hP
        have hD : va_D A (ww_X0_fillUsable q cs v_toldPlaces v_placeCount v_ways v_wayCount (upd v_usable x3.toNatClampNeg x6) (vp_updL v_upTo x3.toNatClampNeg (x4 ^^^ (v_p1 (v_toldPlaces x6.toNatClampNeg).toNatClampNeg))) v_p1 a1 n1) := hD
        refine lv_iinc (v := x3 + 1) (lv' := [(3, .int (x3 + 1)), (4, .long (x4 ^^^ (v_p1 (v_toldPlaces x6.toNatClampNeg).toNatClampNeg))), (0, .ref (q 0)), (1, .ref a1), (2, .int x2), (6, .int x6)]) hx hb dX0_fillUsable_58 hl (k := 4) rfl rfl (by decide) rfl (fun ls hl => ?_)
        refine lv_iinc (v := x6 + 1) (lv' := [(6, .int (x6 + 1)), (3, .int (x3 + 1)), (4, .long (x4 ^^^ (v_p1 (v_toldPlaces x6.toNatClampNeg).toNatClampNeg))), (0, .ref (q 0)), (1, .ref a1), (2, .int x2)]) hx hb dX0_fillUsable_61 hl (k := 5) rfl rfl (by decide) rfl (fun ls hl => ?_)
        refine lv_goto (tgt := 8) hx hb dX0_fillUsable_64 (by decide) ?_
        exact st_next hm hst H locs hP hD hS ls (lv_sub hl [3, 4, 5, 1, 2, 0] rfl)
  unfold M_X0_fillUsable at hm
  refine lv_iconst (v := 0) hx hb dX0_fillUsable_0 (by decide) ?_
  refine lv_istore_n (lv' := [(3, .int 0), (0, .ref (q 0)), (1, .ref a1), (2, .int x2)]) hx hb dX0_fillUsable_1 rfl hl (by decide) rfl (fun ls hl => ?_)
  refine lv_lconst (v := 0) hx hb dX0_fillUsable_2 (by decide) ?_
  refine lv_lstore (lv' := [(4, .long 0), (3, .int 0), (0, .ref (q 0)), (1, .ref a1), (2, .int x2)]) hx hb dX0_fillUsable_3 hl (by decide) rfl (fun ls hl => ?_)
  refine lv_iconst (v := 0) hx hb dX0_fillUsable_5 (by decide) ?_
  refine lv_istore (lv' := [(6, .int 0), (4, .long 0), (3, .int 0), (0, .ref (q 0)), (1, .ref a1), (2, .int x2)]) hx hb dX0_fillUsable_6 hl (by decide) rfl (fun ls hl => ?_)
  obtain ⟨o8, hlp8, hm⟩ := bs hm
  refine L8 x2 (0 : Int32) (0 : Int64) (0 : Int32) v_usable v_upTo o8 hlp8 (fun oo ho => ?_) H locs hP hD hS ls (lv_sub hl [3, 4, 5, 2, 1, 0] rfl)
  subst ho
  intro H locs hP hD hS ls hl
  have hl : lv_has ls 7 [(3, .int o8.1)] := hl
  have hP : va_P G vwCl (ww_X0_fillUsable q cs v_toldPlaces v_placeCount v_ways v_wayCount o8.2.1 o8.2.2 v_p1 a1 n1) H := hP
  have hD : va_D A (ww_X0_fillUsable q cs v_toldPlaces v_placeCount v_ways v_wayCount o8.2.1 o8.2.2 v_p1 a1 n1) := hD
  refine lv_iload_n hx hb dX0_fillUsable_67 rfl (lv_at hl 0 rfl) ?_
  have hq := Option.some.inj hm
  subst hq; subst hQ
  exact k_iret hx hb hr hlocks hP hD hS rfl trivial dX0_fillUsable_68

theorem hd_X0_wayOf : yX0_wayOf.cls ≠ "java/lang/invoke/MethodHandle" ∧ yX0_wayOf.cls ≠ "java/lang/invoke/VarHandle" ∧ (parseMethodDescriptor yX0_wayOf.desc).map (fun d => d.parameters.length) = some 2 := by decide +kernel

def M_X0_wayOf_b5 (n : Nat) (x1 : Int32) (x2 : Int32) (v_usable : (Nat → Int32)) (x3 : Int32) (x4 : Int32) : Option ((Int32 × Int32) ⊕ Int32) :=
  if x2 ≤ x4 then (some (.inr x3)) else (if ((x1 >>> (x4 &&& 31)) &&& 1) = 1 then (if x4 < 0 ∨ 16 ≤ x4.toNatClampNeg then none else some (.inl (x3 ||| ((1 : Int32) <<< ((v_usable x4.toNatClampNeg) &&& 31)), x4 + 1))) else (some (.inl (x3, x4 + 1))))

def M_X0_wayOf (n : Nat) (x1 : Int32) (x2 : Int32) (v_usable : (Nat → Int32)) : Option Int32 :=
  (lp (fun x : (Int32 × Int32) => M_X0_wayOf_b5 n x1 x2 v_usable x.1 x.2) n ((0 : Int32), (0 : Int32))).bind fun o4 => some o4

abbrev rmX0_wayOf : Room := { frames := 0, cells := 0, slots := 0, locals := 0 }
set_option maxHeartbeats 4000000 in
set_option maxRecDepth 100000 in
theorem c_X0_wayOf (l : Launch) (G : va_G) (cs : CS) (q : Nat → Nat) (sz : Nat) (v_toldPlaces : (Nat → Int32)) (v_placeCount : Int32) (v_ways : (Nat → Int32)) (v_wayCount : Int32) (v_usable : (Nat → Int32)) (v_upTo : (Nat → Int64))   (x1 : Int32) (x2 : Int32) (n : Nat) (res : Int32) (hm : M_X0_wayOf n x1 x2 v_usable = some res) : Met l yX0_wayOf wsX0_wayOf rmX0_wayOf (va_Pc [.ref (q 0), .int x1, .int x2] (PreW G cs sz (ww_A q cs v_toldPlaces v_placeCount v_ways v_wayCount v_usable v_upTo) RN)) (QI G res True (ww_A q cs v_toldPlaces v_placeCount v_ways v_wayCount v_usable v_upTo) (va_A (ww_A q cs v_toldPlaces v_placeCount v_ways v_wayCount v_usable v_upTo) sz)) 0 0 (va_A (ww_A q cs v_toldPlaces v_placeCount v_ways v_wayCount v_usable v_upTo) sz) := by
  refine k_enter (Qf := fun A => QI G res True (ww_A q cs v_toldPlaces v_placeCount v_ways v_wayCount v_usable v_upTo) A) (cc := cX0_wayOf) (maxL := 5) (ret := (some .int)) (plainFor_of_name (by decide)) rfl (Nat.le_of_ble_eq_true rfl) ?_
  intro p e s m args below meth c A Q ls H locs hx hb hr hml hown hts hlocks hname hK hA hRo hP hD hS hQ hl
  have hl : lv_has ls 5 [(0, .ref (q 0)), (1, .int x1), (2, .int x2)] := hl
  have wd1 := hts (.fieldLink RX0 25 "SumSmith$Aims" "usable" "[I") (List.mem_of_getElem? (i := 1) rfl)
  have hinX0 : ∀ w ∈ wsX00, w ∈ wsX0_wayOf := fun w h => List.mem_cons_of_mem _ (List.mem_append_right _ h)
  have L5 : ∀ (x1 : Int32) (x2 : Int32) (x3 : Int32) (x4 : Int32) (out : Int32), lp (fun x : (Int32 × Int32) => M_X0_wayOf_b5 n x1 x2 v_usable x.1 x.2) n (x3, x4) = some out → (∀ (o : Int32), out = o → ∀ (H : Heap) (locs : List Loc), va_P G vwCl (ww_A q cs v_toldPlaces v_placeCount v_ways v_wayCount v_usable v_upTo) H → va_D A (ww_A q cs v_toldPlaces v_placeCount v_ways v_wayCount v_usable v_upTo) → va_S A s.heap H locs → ∀ (ls : Array Slot), lv_has ls 5 [(3, .int o)] → W p l e rmX0_wayOf s m args below meth c H locs 0 0 Q (F0 m 39 ls [])) → ∀ (H : Heap) (locs : List Loc), va_P G vwCl (ww_A q cs v_toldPlaces v_placeCount v_ways v_wayCount v_usable v_upTo) H → va_D A (ww_A q cs v_toldPlaces v_placeCount v_ways v_wayCount v_usable v_upTo) → va_S A s.heap H locs → ∀ (ls : Array Slot), lv_has ls 5 [(0, .ref (q 0)), (1, .int x1), (2, .int x2), (3, .int x3), (4, .int x4)] → W p l e rmX0_wayOf s m args below meth c H locs 0 0 Q (F0 m 5 ls []) := by
    intro x1 x2 x3 x4 out hlp hX
    refine lp_ind (fun x => ∀ (H : Heap) (locs : List Loc), va_P G vwCl (ww_A q cs v_toldPlaces v_placeCount v_ways v_wayCount v_usable v_upTo) H → va_D A (ww_A q cs v_toldPlaces v_placeCount v_ways v_wayCount v_usable v_upTo) → va_S A s.heap H locs → ∀ (ls : Array Slot), lv_has ls 5 [(0, .ref (q 0)), (1, .int x1), (2, .int x2), (3, .int x.1), (4, .int x.2)] → W p l e rmX0_wayOf s m args below meth c H locs 0 0 Q (F0 m 5 ls [])) ?_ n (x3, x4) hlp
    clear hlp hP hD hS hl
    rintro ⟨x3, x4⟩ ob hm hst H locs hP hD hS ls hl
    have hm : M_X0_wayOf_b5 n x1 x2 v_usable x3 x4 = some ob := hm
    have hl : lv_has ls 5 [(0, .ref (q 0)), (1, .int x1), (2, .int x2), (3, .int x3), (4, .int x4)] := hl
    have hP : va_P G vwCl (ww_A q cs v_toldPlaces v_placeCount v_ways v_wayCount v_usable v_upTo) H := hP
    have hD : va_D A (ww_A q cs v_toldPlaces v_placeCount v_ways v_wayCount v_usable v_upTo) := hD
    unfold M_X0_wayOf_b5 at hm
    refine lv_iload hx hb dX0_wayOf_5 (lv_at hl 4 rfl) ?_
    refine lv_iload_n hx hb dX0_wayOf_7 rfl (lv_at hl 2 rfl) ?_
    refine lv_icmp_ge (tgt := 39) hx hb dX0_wayOf_8 (by decide) (fun b1 => ?_) (fun b1 => ?_)
    · have hm := i_t b1 hm
      exact hX _ (st_exit hm hst) H locs hP hD hS ls (lv_sub hl [3] rfl)
    · have hm := i_f b1 hm
      refine lv_iload_n hx hb dX0_wayOf_11 rfl (lv_at hl 1 rfl) ?_
      refine lv_iload hx hb dX0_wayOf_12 (lv_at hl 4 rfl) ?_
      refine lv_ishr hx hb dX0_wayOf_14 ?_
      refine lv_iconst (v := 1) hx hb dX0_wayOf_15 (by decide) ?_
      refine lv_iand hx hb dX0_wayOf_16 ?_
      refine lv_iconst (v := 1) hx hb dX0_wayOf_17 (by decide) ?_
      refine lv_icmp_ne (tgt := 33) hx hb dX0_wayOf_18 (by decide) (fun b2 => ?_) (fun b2 => ?_)
      · have hm := i_f b2 hm
        refine lv_iinc (v := x4 + 1) (lv' := [(4, .int (x4 + 1)), (0, .ref (q 0)), (1, .int x1), (2, .int x2), (3, .int x3)]) hx hb dX0_wayOf_33 hl (k := 4) rfl rfl (by decide) rfl (fun ls hl => ?_)
        refine lv_goto (tgt := 5) hx hb dX0_wayOf_36 (by decide) ?_
        exact st_next hm hst H locs hP hD hS ls (lv_sub hl [1, 2, 3, 4, 0] rfl)
      · have hm := i_t b2 hm
        refine lv_iload_n hx hb dX0_wayOf_21 rfl (lv_at hl 3 rfl) ?_
        refine lv_iconst (v := 1) hx hb dX0_wayOf_22 (by decide) ?_
        refine lv_aload_n hx hb dX0_wayOf_23 rfl (lv_at hl 0 rfl) ?_
        refine va_get (D := G) (ci := 0) (v := .ref (q 3)) (C := RX0) (T := TX0) (N := 6) hx hb hts hinX0 hown hK.1 hP 0 rfl rfl 4 (by decide) wd1 (fun _ h9 => h9) rfl dX0_wayOf_24 ?_
        refine lv_iload hx hb dX0_wayOf_27 (lv_at hl 4 rfl) ?_
        obtain ⟨h3, hm⟩ := g_in hm
        refine va_iald hx hb hK.1 hP 3 0 rfl rfl h3 dX0_wayOf_29 ?_
        refine lv_ishl hx hb dX0_wayOf_30 ?_
        refine lv_ior hx hb dX0_wayOf_31 ?_
        refine lv_istore_n (lv' := [(3, .int (x3 ||| ((1 : Int32) <<< ((v_usable x4.toNatClampNeg) &&& 31)))), (0, .ref (q 0)), (1, .int x1), (2, .int x2), (4, .int x4)]) hx hb dX0_wayOf_32 rfl hl (by decide) rfl (fun ls hl => ?_)
        refine lv_iinc (v := x4 + 1) (lv' := [(4, .int (x4 + 1)), (3, .int (x3 ||| ((1 : Int32) <<< ((v_usable x4.toNatClampNeg) &&& 31)))), (0, .ref (q 0)), (1, .int x1), (2, .int x2)]) hx hb dX0_wayOf_33 hl (k := 4) rfl rfl (by decide) rfl (fun ls hl => ?_)
        refine lv_goto (tgt := 5) hx hb dX0_wayOf_36 (by decide) ?_
        exact st_next hm hst H locs hP hD hS ls (lv_sub hl [2, 3, 4, 1, 0] rfl)
  unfold M_X0_wayOf at hm
  refine lv_iconst (v := 0) hx hb dX0_wayOf_0 (by decide) ?_
  refine lv_istore_n (lv' := [(3, .int 0), (0, .ref (q 0)), (1, .int x1), (2, .int x2)]) hx hb dX0_wayOf_1 rfl hl (by decide) rfl (fun ls hl => ?_)
  refine lv_iconst (v := 0) hx hb dX0_wayOf_2 (by decide) ?_
  refine lv_istore (lv' := [(4, .int 0), (3, .int 0), (0, .ref (q 0)), (1, .int x1), (2, .int x2)]) hx hb dX0_wayOf_3 hl (by decide) rfl (fun ls hl => ?_)
  obtain ⟨o4, hlp4, hm⟩ := bs hm
  refine L5 x1 x2 (0 : Int32) (0 : Int32) o4 hlp4 (fun oo ho => ?_) H locs hP hD hS ls (lv_sub hl [2, 3, 4, 1, 0] rfl)
  subst ho
  intro H locs hP hD hS ls hl
  have hl : lv_has ls 5 [(3, .int o4)] := hl
  have hP : va_P G vwCl (ww_A q cs v_toldPlaces v_placeCount v_ways v_wayCount v_usable v_upTo) H := hP
  have hD : va_D A (ww_A q cs v_toldPlaces v_placeCount v_ways v_wayCount v_usable v_upTo) := hD
  refine lv_iload_n hx hb dX0_wayOf_39 rfl (lv_at hl 0 rfl) ?_
  have hq := Option.some.inj hm
  subst hq; subst hQ
  exact k_iret hx hb hr hlocks hP hD hS rfl trivial dX0_wayOf_40

theorem hd_X0_findWays : yX0_findWays.cls ≠ "java/lang/invoke/MethodHandle" ∧ yX0_findWays.cls ≠ "java/lang/invoke/VarHandle" ∧ (parseMethodDescriptor yX0_findWays.desc).map (fun d => d.parameters.length) = some 3 := by decide +kernel

def M_X0_findWays_b17 (n : Nat) (x3 : Int64) (x5 : Int32) (v_usable : (Nat → Int32)) (v_upTo : (Nat → Int64)) (x6 : Int32) (x7 : Int64) (x9 : Int32) (v_ways : (Nat → Int32)) : Option ((Int32 × Int64 × Int32 × (Nat → Int32)) ⊕ (Int32 × (Nat → Int32))) :=
  if ((1 : Int32) <<< (x5 &&& 31)) ≤ x9 then (some (.inr (x6, v_ways))) else (if x9 ≤ 0 then (if x7 = x3 then (if 64 ≤ x6 then (some (.inl (x6 + 1, x7, x9 + 1, v_ways))) else ((M_X0_wayOf n x9 x5 v_usable).bind fun r7 => if x6 < 0 ∨ 64 ≤ x6.toNatClampNeg then none else some (.inl (x6 + 1, x7, x9 + 1, (upd v_ways x6.toNatClampNeg r7))))) else (some (.inl (x6, x7, x9 + 1, v_ways)))) else (if (M_J6_numberOfTrailingZeros_0f7a4 x9) < 0 ∨ 16 ≤ (M_J6_numberOfTrailingZeros_0f7a4 x9).toNatClampNeg then none else if (x7 ^^^ (v_upTo (M_J6_numberOfTrailingZeros_0f7a4 x9).toNatClampNeg)) = x3 then (if 64 ≤ x6 then (some (.inl (x6 + 1, x7 ^^^ (v_upTo (M_J6_numberOfTrailingZeros_0f7a4 x9).toNatClampNeg), x9 + 1, v_ways))) else ((M_X0_wayOf n x9 x5 v_usable).bind fun r14 => if x6 < 0 ∨ 64 ≤ x6.toNatClampNeg then none else some (.inl (x6 + 1, x7 ^^^ (v_upTo (M_J6_numberOfTrailingZeros_0f7a4 x9).toNatClampNeg), x9 + 1, (upd v_ways x6.toNatClampNeg r14))))) else (some (.inl (x6, x7 ^^^ (v_upTo (M_J6_numberOfTrailingZeros_0f7a4 x9).toNatClampNeg), x9 + 1, v_ways)))))

def M_X0_findWays (n : Nat) (x2 : Int32) (x3 : Int64) (v_toldPlaces : (Nat → Int32)) (v_placeCount : Int32) (v_ways : (Nat → Int32)) (v_wayCount : Int32) (v_usable : (Nat → Int32)) (v_upTo : (Nat → Int64)) (v_p1 : (Nat → Int64)) (n1 : Nat) : Option (Int32 × (Nat → Int32) × Int32 × (Nat → Int32) × (Nat → Int64)) :=
  (M_X0_fillUsable n x2 v_toldPlaces v_placeCount v_usable v_upTo v_p1 n1).bind fun r1 => (lp (fun x : (Int32 × Int64 × Int32 × (Nat → Int32)) => M_X0_findWays_b17 n x3 r1.1 r1.2.1 r1.2.2 x.1 x.2.1 x.2.2.1 x.2.2.2) n ((0 : Int32), (0 : Int64), (0 : Int32), v_ways)).bind fun o17 => some (o17.1, o17.2, (if (64 : Int32) < o17.1 then (64 : Int32) else o17.1), r1.2.1, r1.2.2)

abbrev ww_X0_findWays (q : Nat → Nat) (cs : CS) (v_toldPlaces : (Nat → Int32)) (v_placeCount : Int32) (v_ways : (Nat → Int32)) (v_wayCount : Int32) (v_usable : (Nat → Int32)) (v_upTo : (Nat → Int64)) (v_p1 : (Nat → Int64)) (a1 : Nat) (n1 : Nat) : va_W := [((q 0), .inr (0, [.ref (q 1), .int v_placeCount, .ref (q 2), .int v_wayCount, .ref (q 3), .ref (q 4)])), ((q 1), .inl (cs.1, 16, .inl v_toldPlaces)), ((q 2), .inl (cs.1, 64, .inl v_ways)), ((q 3), .inl (cs.1, 16, .inl v_usable)), ((q 4), .inl (cs.2.1, 16, .inr (.inl v_upTo))), (a1, .inl (cs.2.1, n1, .inr (.inl v_p1)))]

abbrev rmX0_findWays : Room := { frames := 1, cells := 0, slots := 0, locals := 26 }
set_option maxHeartbeats 4000000 in
set_option maxRecDepth 100000 in
theorem c_X0_findWays (l : Launch) (G : va_G) (cs : CS) (q : Nat → Nat) (sz : Nat) (v_toldPlaces : (Nat → Int32)) (v_placeCount : Int32) (v_ways : (Nat → Int32)) (v_wayCount : Int32) (v_usable : (Nat → Int32)) (v_upTo : (Nat → Int64)) (v_p1 : (Nat → Int64)) (a1 : Nat) (n1 : Nat) (x2 : Int32) (x3 : Int64) (n : Nat) (res : (Int32 × (Nat → Int32) × Int32 × (Nat → Int32) × (Nat → Int64))) (hm : M_X0_findWays n x2 x3 v_toldPlaces v_placeCount v_ways v_wayCount v_usable v_upTo v_p1 n1 = some res) : Met l yX0_findWays wsX0_findWays rmX0_findWays (va_Pc [.ref (q 0), .ref a1, .int x2, .long x3] (PreW G cs sz (ww_X0_findWays q cs v_toldPlaces v_placeCount v_ways v_wayCount v_usable v_upTo v_p1 a1 n1) RN)) (QI G res.1 True (ww_X0_findWays q cs v_toldPlaces v_placeCount res.2.1 res.2.2.1 res.2.2.2.1 res.2.2.2.2 v_p1 a1 n1) (va_A (ww_X0_findWays q cs v_toldPlaces v_placeCount v_ways v_wayCount v_usable v_upTo v_p1 a1 n1) sz)) 0 0 (va_A (ww_X0_findWays q cs v_toldPlaces v_placeCount v_ways v_wayCount v_usable v_upTo v_p1 a1 n1) sz) := by
  refine k_enter (Qf := fun A => QI G res.1 True (ww_X0_findWays q cs v_toldPlaces v_placeCount res.2.1 res.2.2.1 res.2.2.2.1 res.2.2.2.2 v_p1 a1 n1) A) (cc := cX0_findWays) (maxL := 10) (ret := (some .int)) (plainFor_of_name (by decide)) rfl (Nat.le_of_ble_eq_true rfl) ?_
  intro p e s m args below meth c A Q ls H locs hx hb hr hml hown hts hlocks hname hK hA hRo hP hD hS hQ hl
  have hl : lv_has ls 10 [(0, .ref (q 0)), (1, .ref a1), (2, .int x2), (3, .long x3)] := hl
  have wd2 := hts (.fieldLink RX0 19 "SumSmith$Aims" "ways" "[I") (List.mem_of_getElem? (i := 2) rfl)
  have wd1 := hts (.fieldLink RX0 28 "SumSmith$Aims" "upTo" "[J") (List.mem_of_getElem? (i := 1) rfl)
  have wd3 := hts (.methodLink RX0 46 Lib.Math.min.name) (List.mem_of_getElem? (i := 3) rfl)
  have wd4 := hts (.static Lib.Math.min.name) (List.mem_of_getElem? (i := 4) rfl)
  have wd5 := hts (.initialized "java/lang/Math") (List.mem_of_getElem? (i := 5) rfl)
  have wd6 := hts (.code Lib.Math.min.name Lib.Math.min.code 2 (some .int)) (List.mem_of_getElem? (i := 6) rfl)
  have wd7 := hts (.fieldLink RX0 22 "SumSmith$Aims" "wayCount" "I") (List.mem_of_getElem? (i := 7) rfl)
  have hinX0 : ∀ w ∈ wsX00, w ∈ wsX0_findWays := fun w h => List.mem_cons_of_mem _ (List.mem_append_right _ h)
  have L17 : ∀ (x3 : Int64) (x5 : Int32) (x6 : Int32) (x7 : Int64) (x9 : Int32) (v_ways : (Nat → Int32)) (v_wayCount : Int32) (v_usable : (Nat → Int32)) (v_upTo : (Nat → Int64)) (out : (Int32 × (Nat → Int32))), lp (fun x : (Int32 × Int64 × Int32 × (Nat → Int32)) => M_X0_findWays_b17 n x3 x5 v_usable v_upTo x.1 x.2.1 x.2.2.1 x.2.2.2) n (x6, x7, x9, v_ways) = some out → (∀ (o : (Int32 × (Nat → Int32))), out = o → ∀ (H : Heap) (locs : List Loc), va_P G vwCl (ww_X0_findWays q cs v_toldPlaces v_placeCount o.2 v_wayCount v_usable v_upTo v_p1 a1 n1) H → va_D A (ww_X0_findWays q cs v_toldPlaces v_placeCount o.2 v_wayCount v_usable v_upTo v_p1 a1 n1) → va_S A s.heap H locs → ∀ (ls : Array Slot), lv_has ls 10 [(0, .ref (q 0)), (6, .int o.1)] → W p l e rmX0_findWays s m args below meth c H locs 0 0 Q (F0 m 84 ls [])) → ∀ (H : Heap) (locs : List Loc), va_P G vwCl (ww_X0_findWays q cs v_toldPlaces v_placeCount v_ways v_wayCount v_usable v_upTo v_p1 a1 n1) H → va_D A (ww_X0_findWays q cs v_toldPlaces v_placeCount v_ways v_wayCount v_usable v_upTo v_p1 a1 n1) → va_S A s.heap H locs → ∀ (ls : Array Slot), lv_has ls 10 [(0, .ref (q 0)), (3, .long x3), (5, .int x5), (6, .int x6), (7, .long x7), (9, .int x9)] → W p l e rmX0_findWays s m args below meth c H locs 0 0 Q (F0 m 17 ls []) := by
    intro x3 x5 x6 x7 x9 v_ways v_wayCount v_usable v_upTo out hlp hX
    refine lp_ind (fun x => ∀ (H : Heap) (locs : List Loc), va_P G vwCl (ww_X0_findWays q cs v_toldPlaces v_placeCount x.2.2.2 v_wayCount v_usable v_upTo v_p1 a1 n1) H → va_D A (ww_X0_findWays q cs v_toldPlaces v_placeCount x.2.2.2 v_wayCount v_usable v_upTo v_p1 a1 n1) → va_S A s.heap H locs → ∀ (ls : Array Slot), lv_has ls 10 [(0, .ref (q 0)), (3, .long x3), (5, .int x5), (6, .int x.1), (7, .long x.2.1), (9, .int x.2.2.1)] → W p l e rmX0_findWays s m args below meth c H locs 0 0 Q (F0 m 17 ls [])) ?_ n (x6, x7, x9, v_ways) hlp
    clear hlp hP hD hS hl
    rintro ⟨x6, x7, x9, v_ways⟩ ob hm hst H locs hP hD hS ls hl
    have hm : M_X0_findWays_b17 n x3 x5 v_usable v_upTo x6 x7 x9 v_ways = some ob := hm
    have hl : lv_has ls 10 [(0, .ref (q 0)), (3, .long x3), (5, .int x5), (6, .int x6), (7, .long x7), (9, .int x9)] := hl
    have hP : va_P G vwCl (ww_X0_findWays q cs v_toldPlaces v_placeCount v_ways v_wayCount v_usable v_upTo v_p1 a1 n1) H := hP
    have hD : va_D A (ww_X0_findWays q cs v_toldPlaces v_placeCount v_ways v_wayCount v_usable v_upTo v_p1 a1 n1) := hD
    unfold M_X0_findWays_b17 at hm
    refine lv_iload hx hb dX0_findWays_17 (lv_at hl 5 rfl) ?_
    refine lv_iconst (v := 1) hx hb dX0_findWays_19 (by decide) ?_
    refine lv_iload hx hb dX0_findWays_20 (lv_at hl 2 rfl) ?_
    refine lv_ishl hx hb dX0_findWays_22 ?_
    refine lv_icmp_ge (tgt := 84) hx hb dX0_findWays_23 (by decide) (fun b3 => ?_) (fun b3 => ?_)
    · have hm := i_t b3 hm
      exact hX _ (st_exit hm hst) H locs hP hD hS ls (lv_sub hl [0, 3] rfl)
    · have hm := i_f b3 hm
      refine lv_iload hx hb dX0_findWays_26 (lv_at hl 5 rfl) ?_
      refine lv_if_le (tgt := 46) hx hb dX0_findWays_28 (by decide) (fun b4 => ?_) (fun b4 => ?_)
      · have hm := i_t b4 hm
        refine lv_lload hx hb dX0_findWays_46 (lv_at hl 4 rfl) ?_
        refine lv_lload_n hx hb dX0_findWays_48 rfl (lv_at hl 1 rfl) ?_
        refine W.lcmp hx hb dX0_findWays_49 ?_
        refine lv_if_ne (tgt := 78) hx hb dX0_findWays_50 (by decide) (fun b5 => ?_) (fun b5 => ?_)
        · have b5 := fun h9 => b5 ((lg_cmp_eq _ _).mpr h9)
          have hm := i_f b5 hm
          refine lv_iinc (v := x9 + 1) (lv' := [(9, .int (x9 + 1)), (0, .ref (q 0)), (3, .long x3), (5, .int x5), (6, .int x6), (7, .long x7)]) hx hb dX0_findWays_78 hl (k := 5) rfl rfl (by decide) rfl (fun ls hl => ?_)
          refine lv_goto (tgt := 17) hx hb dX0_findWays_81 (by decide) ?_
          exact st_next hm hst H locs hP hD hS ls (lv_sub hl [1, 2, 3, 4, 5, 0] rfl)
        · have b5 := (lg_cmp_eq _ _).mp b5
          have hm := i_t b5 hm
          refine lv_iload hx hb dX0_findWays_53 (lv_at hl 3 rfl) ?_
          refine lv_bipush (v := 64) hx hb dX0_findWays_55 (by decide) ?_
          refine lv_icmp_ge (tgt := 75) hx hb dX0_findWays_57 (by decide) (fun b6 => ?_) (fun b6 => ?_)
          · have hm := i_t b6 hm
            refine lv_iinc (v := x6 + 1) (lv' := [(6, .int (x6 + 1)), (0, .ref (q 0)), (3, .long x3), (5, .int x5), (7, .long x7), (9, .int x9)]) hx hb dX0_findWays_75 hl (k := 3) rfl rfl (by decide) rfl (fun ls hl => ?_)
            refine lv_iinc (v := x9 + 1) (lv' := [(9, .int (x9 + 1)), (6, .int (x6 + 1)), (0, .ref (q 0)), (3, .long x3), (5, .int x5), (7, .long x7)]) hx hb dX0_findWays_78 hl (k := 5) rfl rfl (by decide) rfl (fun ls hl => ?_)
            refine lv_goto (tgt := 17) hx hb dX0_findWays_81 (by decide) ?_
            exact st_next hm hst H locs hP hD hS ls (lv_sub hl [2, 3, 4, 1, 5, 0] rfl)
          · have hm := i_f b6 hm
            refine lv_aload_n hx hb dX0_findWays_60 rfl (lv_at hl 0 rfl) ?_
            refine va_get (D := G) (ci := 0) (v := .ref (q 2)) (C := RX0) (T := TX0) (N := 6) hx hb hts hinX0 hown hK.1 hP 0 rfl rfl 2 (by decide) wd2 (fun _ h9 => h9) rfl dX0_findWays_61 ?_
            refine lv_iload hx hb dX0_findWays_64 (lv_at hl 3 rfl) ?_
            refine lv_aload_n hx hb dX0_findWays_66 rfl (lv_at hl 0 rfl) ?_
            refine lv_iload hx hb dX0_findWays_67 (lv_at hl 5 rfl) ?_
            refine lv_iload hx hb dX0_findWays_69 (lv_at hl 2 rfl) ?_
            obtain ⟨r7, hc_r7, hm⟩ := bs hm
            refine k_callij (wr := [(a1, .inl (cs.2.1, n1, .inr (.inl v_p1)))]) (w2 := (ww_X0_findWays q cs v_toldPlaces v_placeCount v_ways v_wayCount v_usable v_upTo v_p1 a1 n1)) (va_runV (As := [.int x9, .int x5]) (rest := [.int x6, .ref (q 2)]) ⟨hx, hb, hml, hown, hts⟩ (c_X0_wayOf l G cs q H.size v_toldPlaces v_placeCount v_ways v_wayCount v_usable v_upTo   x9 x5 n r7 hc_r7) (cwV 2 hts gX0_findWays_X0_wayOf rfl rfl rfl ⟨rfl, hd_X0_wayOf⟩ ⟨Nat.le_of_ble_eq_true rfl, Nat.le_of_ble_eq_true rfl⟩) ⟨pre_blind, va_recv hK.1 hP (ci := 0) (q0 := 0) rfl rfl, pre_w hK RO.nil (P_by hP [0, 1, 2, 3, 4] rfl) (hD.sub [0, 1, 2, 3, 4] (by decide) rfl) (va_free hD hS hA [0, 1, 2, 3, 4] rfl)⟩ rfl rfl hl.1 rfl (lv_room (Nat.le_of_ble_eq_true rfl)) dX0_findWays_71 ⟨Nat.zero_le _, Nat.zero_le _⟩) hP hD hS hA [0, 1, 2, 3, 4] [5] [1, 2, 3, 4, 5, 0] rfl rfl (by decide) (by decide) rfl (by decide) (fun hE8 H locs hP hD hS => ?_)
            have hP : va_P G vwCl (ww_X0_findWays q cs v_toldPlaces v_placeCount v_ways v_wayCount v_usable v_upTo v_p1 a1 n1) H := hP
            have hD : va_D A (ww_X0_findWays q cs v_toldPlaces v_placeCount v_ways v_wayCount v_usable v_upTo v_p1 a1 n1) := hD
            obtain ⟨h9, hm⟩ := g_in hm
            refine va_iast hx hb hK.1 hP hD hS 2 0 rfl rfl h9 dX0_findWays_74 (fun H locs hP hD hS => ?_)
            have hP : va_P G vwCl (ww_X0_findWays q cs v_toldPlaces v_placeCount (upd v_ways x6.toNatClampNeg r7) v_wayCount v_usable v_upTo v_p1 a1 n1) H := hP
            have hD : va_D A (ww_X0_findWays q cs v_toldPlaces v_placeCount (upd v_ways x6.toNatClampNeg r7) v_wayCount v_usable v_upTo v_p1 a1 n1) := hD
            refine lv_iinc (v := x6 + 1) (lv' := [(6, .int (x6 + 1)), (0, .ref (q 0)), (3, .long x3), (5, .int x5), (7, .long x7), (9, .int x9)]) hx hb dX0_findWays_75 hl (k := 3) rfl rfl (by decide) rfl (fun ls hl => ?_)
            refine lv_iinc (v := x9 + 1) (lv' := [(9, .int (x9 + 1)), (6, .int (x6 + 1)), (0, .ref (q 0)), (3, .long x3), (5, .int x5), (7, .long x7)]) hx hb dX0_findWays_78 hl (k := 5) rfl rfl (by decide) rfl (fun ls hl => ?_)
            refine lv_goto (tgt := 17) hx hb dX0_findWays_81 (by decide) ?_
            exact st_next hm hst H locs hP hD hS ls (lv_sub hl [2, 3, 4, 1, 5, 0] rfl)
      · have hm := i_f b4 hm
        refine lv_lload hx hb dX0_findWays_31 (lv_at hl 4 rfl) ?_
        refine lv_aload_n hx hb dX0_findWays_33 rfl (lv_at hl 0 rfl) ?_
        refine va_get (D := G) (ci := 0) (v := .ref (q 4)) (C := RX0) (T := TX0) (N := 6) hx hb hts hinX0 hown hK.1 hP 0 rfl rfl 5 (by decide) wd1 (fun _ h9 => h9) rfl dX0_findWays_34 ?_
        refine lv_iload hx hb dX0_findWays_37 (lv_at hl 5 rfl) ?_
        refine k_calli0 (va_runS (As := [.int x9]) (rest := [.ref (q 4), .long x7]) ⟨hx, hb, hml, hown, hts⟩ (c_J6_numberOfTrailingZeros_0f7a4 l G cs H.size    x9 _ rfl) (va_cwS 1 hts gX0_findWays_J6_numberOfTrailingZeros_0f7a4 rfl rfl rfl hd_J6_numberOfTrailingZeros_0f7a4 ⟨Nat.le_of_ble_eq_true rfl, Nat.le_of_ble_eq_true rfl⟩) ⟨pre_blind, pre_w hK RO.nil P0 D0 (va_new0 hS hA)⟩ rfl rfl hl.1 rfl (lv_room (Nat.le_of_ble_eq_true rfl)) dX0_findWays_39 ⟨Nat.zero_le _, Nat.zero_le _⟩) hP hS hA (fun hE10 H locs hP hS => ?_)
        obtain ⟨h11, hm⟩ := g_in hm
        refine va_lald hx hb hK.1 hP 4 1 rfl rfl h11 dX0_findWays_42 ?_
        refine lv_lxor hx hb dX0_findWays_43 ?_
        refine lv_lstore (lv' := [(7, .long (x7 ^^^ (v_upTo (M_J6_numberOfTrailingZeros_0f7a4 x9).toNatClampNeg))), (0, .ref (q 0)), (3, .long x3), (5, .int x5), (6, .int x6), (9, .int x9)]) hx hb dX0_findWays_44 hl (by decide) rfl (fun ls hl => ?_)
        refine lv_lload hx hb dX0_findWays_46 (lv_at hl 0 rfl) ?_
        refine lv_lload_n hx hb dX0_findWays_48 rfl (lv_at hl 2 rfl) ?_
        refine W.lcmp hx hb dX0_findWays_49 ?_
        refine lv_if_ne (tgt := 78) hx hb dX0_findWays_50 (by decide) (fun b12 => ?_) (fun b12 => ?_)
        · have b12 := fun h9 => b12 ((lg_cmp_eq _ _).mpr h9)
          have hm := i_f b12 hm
          refine lv_iinc (v := x9 + 1) (lv' := [(9, .int (x9 + 1)), (7, .long (x7 ^^^ (v_upTo (M_J6_numberOfTrailingZeros_0f7a4 x9).toNatClampNeg))), (0, .ref (q 0)), (3, .long x3), (5, .int x5), (6, .int x6)]) hx hb dX0_findWays_78 hl (k := 5) rfl rfl (by decide) rfl (fun ls hl => ?_)
          refine lv_goto (tgt := 17) hx hb dX0_findWays_81 (by decide) ?_
          exact st_next hm hst H locs hP hD hS ls (lv_sub hl [2, 3, 4, 5, 1, 0] rfl)
        · have b12 := (lg_cmp_eq _ _).mp b12
          have hm := i_t b12 hm
          refine lv_iload hx hb dX0_findWays_53 (lv_at hl 4 rfl) ?_
          refine lv_bipush (v := 64) hx hb dX0_findWays_55 (by decide) ?_
          refine lv_icmp_ge (tgt := 75) hx hb dX0_findWays_57 (by decide) (fun b13 => ?_) (fun b13 => ?_)
          · have hm := i_t b13 hm
            refine lv_iinc (v := x6 + 1) (lv' := [(6, .int (x6 + 1)), (7, .long (x7 ^^^ (v_upTo (M_J6_numberOfTrailingZeros_0f7a4 x9).toNatClampNeg))), (0, .ref (q 0)), (3, .long x3), (5, .int x5), (9, .int x9)]) hx hb dX0_findWays_75 hl (k := 4) rfl rfl (by decide) rfl (fun ls hl => ?_)
            refine lv_iinc (v := x9 + 1) (lv' := [(9, .int (x9 + 1)), (6, .int (x6 + 1)), (7, .long (x7 ^^^ (v_upTo (M_J6_numberOfTrailingZeros_0f7a4 x9).toNatClampNeg))), (0, .ref (q 0)), (3, .long x3), (5, .int x5)]) hx hb dX0_findWays_78 hl (k := 5) rfl rfl (by decide) rfl (fun ls hl => ?_)
            refine lv_goto (tgt := 17) hx hb dX0_findWays_81 (by decide) ?_
            exact st_next hm hst H locs hP hD hS ls (lv_sub hl [3, 4, 5, 1, 2, 0] rfl)
          · have hm := i_f b13 hm
            refine lv_aload_n hx hb dX0_findWays_60 rfl (lv_at hl 1 rfl) ?_
            refine va_get (D := G) (ci := 0) (v := .ref (q 2)) (C := RX0) (T := TX0) (N := 6) hx hb hts hinX0 hown hK.1 hP 0 rfl rfl 2 (by decide) wd2 (fun _ h9 => h9) rfl dX0_findWays_61 ?_
            refine lv_iload hx hb dX0_findWays_64 (lv_at hl 4 rfl) ?_
            refine lv_aload_n hx hb dX0_findWays_66 rfl (lv_at hl 1 rfl) ?_
            refine lv_iload hx hb dX0_findWays_67 (lv_at hl 5 rfl) ?_
            refine lv_iload hx hb dX0_findWays_69 (lv_at hl 3 rfl) ?_
            obtain ⟨r14, hc_r14, hm⟩ := bs hm
            refine k_callij (wr := [(a1, .inl (cs.2.1, n1, .inr (.inl v_p1)))]) (w2 := (ww_X0_findWays q cs v_toldPlaces v_placeCount v_ways v_wayCount v_usable v_upTo v_p1 a1 n1)) (va_runV (As := [.int x9, .int x5]) (rest := [.int x6, .ref (q 2)]) ⟨hx, hb, hml, hown, hts⟩ (c_X0_wayOf l G cs q H.size v_toldPlaces v_placeCount v_ways v_wayCount v_usable v_upTo   x9 x5 n r14 hc_r14) (cwV 2 hts gX0_findWays_X0_wayOf rfl rfl rfl ⟨rfl, hd_X0_wayOf⟩ ⟨Nat.le_of_ble_eq_true rfl, Nat.le_of_ble_eq_true rfl⟩) ⟨pre_blind, va_recv hK.1 hP (ci := 0) (q0 := 0) rfl rfl, pre_w hK RO.nil (P_by hP [0, 1, 2, 3, 4] rfl) (hD.sub [0, 1, 2, 3, 4] (by decide) rfl) (va_free hD hS hA [0, 1, 2, 3, 4] rfl)⟩ rfl rfl hl.1 rfl (lv_room (Nat.le_of_ble_eq_true rfl)) dX0_findWays_71 ⟨Nat.zero_le _, Nat.zero_le _⟩) hP hD hS hA [0, 1, 2, 3, 4] [5] [1, 2, 3, 4, 5, 0] rfl rfl (by decide) (by decide) rfl (by decide) (fun hE15 H locs hP hD hS => ?_)
            have hP : va_P G vwCl (ww_X0_findWays q cs v_toldPlaces v_placeCount v_ways v_wayCount v_usable v_upTo v_p1 a1 n1) H := hP
            have hD : va_D A (ww_X0_findWays q cs v_toldPlaces v_placeCount v_ways v_wayCount v_usable v_upTo v_p1 a1 n1) := hD
            obtain ⟨h16, hm⟩ := g_in hm
            refine va_iast hx hb hK.1 hP hD hS 2 0 rfl rfl h16 dX0_findWays_74 (fun H locs hP hD hS => ?_)
            have hP : va_P G vwCl (ww_X0_findWays q cs v_toldPlaces v_placeCount (upd v_ways x6.toNatClampNeg r14) v_wayCount v_usable v_upTo v_p1 a1 n1) H := hP
            have hD : va_D A (ww_X0_findWays q cs v_toldPlaces v_placeCount (upd v_ways x6.toNatClampNeg r14) v_wayCount v_usable v_upTo v_p1 a1 n1) := hD
            refine lv_iinc (v := x6 + 1) (lv' := [(6, .int (x6 + 1)), (7, .long (x7 ^^^ (v_upTo (M_J6_numberOfTrailingZeros_0f7a4 x9).toNatClampNeg))), (0, .ref (q 0)), (3, .long x3), (5, .int x5), (9, .int x9)]) hx hb dX0_findWays_75 hl (k := 4) rfl rfl (by decide) rfl (fun ls hl => ?_)
            refine lv_iinc (v := x9 + 1) (lv' := [(9, .int (x9 + 1)), (6, .int (x6 + 1)), (7, .long (x7 ^^^ (v_upTo (M_J6_numberOfTrailingZeros_0f7a4 x9).toNatClampNeg))), (0, .ref (q 0)), (3, .long x3), (5, .int x5)]) hx hb dX0_findWays_78 hl (k := 5) rfl rfl (by decide) rfl (fun ls hl => ?_)
            refine lv_goto (tgt := 17) hx hb dX0_findWays_81 (by decide) ?_
            exact st_next hm hst H locs hP hD hS ls (lv_sub hl [3, 4, 5, 1, 2, 0] rfl)
  unfold M_X0_findWays at hm
  refine lv_aload_n hx hb dX0_findWays_0 rfl (lv_at hl 0 rfl) ?_
  refine lv_aload_n hx hb dX0_findWays_1 rfl (lv_at hl 1 rfl) ?_
  refine lv_iload_n hx hb dX0_findWays_2 rfl (lv_at hl 2 rfl) ?_
  obtain ⟨r1, hc_r1, hm⟩ := bs hm
  refine k_calli (va_runV (As := [.ref a1, .int x2]) (rest := []) ⟨hx, hb, hml, hown, hts⟩ (c_X0_fillUsable l G cs q H.size v_toldPlaces v_placeCount v_ways v_wayCount v_usable v_upTo v_p1 a1 n1 x2 n r1 hc_r1) (cwV 2 hts gX0_findWays_X0_fillUsable rfl rfl rfl ⟨rfl, hd_X0_fillUsable⟩ ⟨Nat.le_of_ble_eq_true rfl, Nat.le_of_ble_eq_true rfl⟩) ⟨pre_blind, va_recv hK.1 hP (ci := 0) (q0 := 0) rfl rfl, pre_w hK RO.nil hP hD (va_all hD hS hA)⟩ rfl rfl hl.1 rfl (lv_room (Nat.le_of_ble_eq_true rfl)) dX0_findWays_3 ⟨Nat.zero_le _, Nat.zero_le _⟩) hS (va_all hD hS hA) (fun hE2 H locs hP hD hS => ?_)
  have hP : va_P G vwCl (ww_X0_findWays q cs v_toldPlaces v_placeCount v_ways v_wayCount r1.2.1 r1.2.2 v_p1 a1 n1) H := hP
  have hD : va_D A (ww_X0_findWays q cs v_toldPlaces v_placeCount v_ways v_wayCount r1.2.1 r1.2.2 v_p1 a1 n1) := hD
  refine lv_istore (lv' := [(5, .int r1.1), (0, .ref (q 0)), (1, .ref a1), (2, .int x2), (3, .long x3)]) hx hb dX0_findWays_6 hl (by decide) rfl (fun ls hl => ?_)
  refine lv_iconst (v := 0) hx hb dX0_findWays_8 (by decide) ?_
  refine lv_istore (lv' := [(6, .int 0), (5, .int r1.1), (0, .ref (q 0)), (1, .ref a1), (2, .int x2), (3, .long x3)]) hx hb dX0_findWays_9 hl (by decide) rfl (fun ls hl => ?_)
  refine lv_lconst (v := 0) hx hb dX0_findWays_11 (by decide) ?_
  refine lv_lstore (lv' := [(7, .long 0), (6, .int 0), (5, .int r1.1), (0, .ref (q 0)), (1, .ref a1), (2, .int x2), (3, .long x3)]) hx hb dX0_findWays_12 hl (by decide) rfl (fun ls hl => ?_)
  refine lv_iconst (v := 0) hx hb dX0_findWays_14 (by decide) ?_
  refine lv_istore (lv' := [(9, .int 0), (7, .long 0), (6, .int 0), (5, .int r1.1), (0, .ref (q 0)), (1, .ref a1), (2, .int x2), (3, .long x3)]) hx hb dX0_findWays_15 hl (by decide) rfl (fun ls hl => ?_)
  obtain ⟨o17, hlp17, hm⟩ := bs hm
  refine L17 x3 r1.1 (0 : Int32) (0 : Int64) (0 : Int32) v_ways v_wayCount r1.2.1 r1.2.2 o17 hlp17 (fun oo ho => ?_) H locs hP hD hS ls (lv_sub hl [4, 7, 3, 2, 1, 0] rfl)
  subst ho
  intro H locs hP hD hS ls hl
  have hl : lv_has ls 10 [(0, .ref (q 0)), (6, .int o17.1)] := hl
  have hP : va_P G vwCl (ww_X0_findWays q cs v_toldPlaces v_placeCount o17.2 v_wayCount r1.2.1 r1.2.2 v_p1 a1 n1) H := hP
  have hD : va_D A (ww_X0_findWays q cs v_toldPlaces v_placeCount o17.2 v_wayCount r1.2.1 r1.2.2 v_p1 a1 n1) := hD
  refine lv_aload_n hx hb dX0_findWays_84 rfl (lv_at hl 0 rfl) ?_
  refine lv_iload hx hb dX0_findWays_85 (lv_at hl 1 rfl) ?_
  refine lv_bipush (v := 64) hx hb dX0_findWays_87 (by decide) ?_
  refine va_mmin hx hb (hml.trans hl.1.symm) hown wd3 wd4 wd5 wd6 (Nat.le_of_ble_eq_true rfl) (Nat.le_of_ble_eq_true rfl) (Nat.zero_le _) (Nat.zero_le _) dX0_findWays_89 ?_
  refine va_put (D := G) (ci := 0) (v := .int (if (64 : Int32) < o17.1 then (64 : Int32) else o17.1)) (ty := .int) (C := RX0) (T := TX0) (N := 6) hx hb hts hinX0 tyX0 tyX0_ok nmX0 hown hK.1 hP hD hS 0 rfl rfl 3 (by decide) wd7 (fun _ h9 => h9) rfl (by decide +kernel) rfl rfl (Nat.le_of_ble_eq_true rfl) dX0_findWays_92 (fun H locs hP hD hS => ?_)
  have hP : va_P G vwCl (ww_X0_findWays q cs v_toldPlaces v_placeCount o17.2 (if (64 : Int32) < o17.1 then (64 : Int32) else o17.1) r1.2.1 r1.2.2 v_p1 a1 n1) H := hP
  have hD : va_D A (ww_X0_findWays q cs v_toldPlaces v_placeCount o17.2 (if (64 : Int32) < o17.1 then (64 : Int32) else o17.1) r1.2.1 r1.2.2 v_p1 a1 n1) := hD
  refine lv_iload hx hb dX0_findWays_95 (lv_at hl 1 rfl) ?_
  have hq := Option.some.inj hm
  subst hq; subst hQ
  exact k_iret hx hb hr hlocks hP hD hS rfl trivial dX0_findWays_97
