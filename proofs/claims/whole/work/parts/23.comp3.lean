theorem hd_X4_fillBitChanges : yX4_fillBitChanges.cls ≠ "java/lang/invoke/MethodHandle" ∧ yX4_fillBitChanges.cls ≠ "java/lang/invoke/VarHandle" ∧ (parseMethodDescriptor yX4_fillBitChanges.desc).map (fun d => d.parameters.length) = some 2 := by decide +kernel

def M_X4_fillBitChanges_b2 (n : Nat) (x2 : Int32) (sd : SD) (x3 : Int32) (v_rising : (Nat → Int64)) (v_falling : (Nat → Int64)) : Option ((Int32 × (Nat → Int64) × (Nat → Int64)) ⊕ ((Nat → Int64) × (Nat → Int64))) :=
  if (8 * x2) ≤ x3 then (some (.inr (v_rising, v_falling))) else ((V_changed n sd x2 (M_X11_byteOfPlace x3) (0 : Int32) (M_X11_bitOfPlace x3)).bind fun r4 => if x3 < 0 ∨ 64 ≤ x3.toNatClampNeg then none else (V_changed n sd x2 (M_X11_byteOfPlace x3) (M_X11_bitOfPlace x3) (0 : Int32)).bind fun r6 => if x3 < 0 ∨ 64 ≤ x3.toNatClampNeg then none else some (.inl (x3 + 1, (vp_updL v_rising x3.toNatClampNeg r4), (vp_updL v_falling x3.toNatClampNeg r6))))

def M_X4_fillBitChanges (n : Nat) (x2 : Int32) (v_rising : (Nat → Int64)) (v_falling : (Nat → Int64)) (sd : SD) : Option ((Nat → Int64) × (Nat → Int64)) :=
  (lp (fun x : (Int32 × (Nat → Int64) × (Nat → Int64)) => M_X4_fillBitChanges_b2 n x2 sd x.1 x.2.1 x.2.2) n ((0 : Int32), v_rising, v_falling)).bind fun o8 => some (o8.1, o8.2)

abbrev ww_S (q : Nat → Nat) (cs : CS) (v_rising : (Nat → Int64)) (v_falling : (Nat → Int64)) (v_turned : (Nat → Int32)) (v_totals : (Nat → Int64)) (v_before : (Nat → Int32)) (v_after : (Nat → Int32)) (v_keptBytes : Int32)   : va_W := [((q 0), .inr (3, [.ref (q 1), .ref (q 2), .ref (q 3), .ref (q 4), .ref (q 5), .ref (q 6), .int v_keptBytes])), ((q 1), .inl (cs.2.1, 64, .inr (.inl v_rising))), ((q 2), .inl (cs.2.1, 64, .inr (.inl v_falling))), ((q 3), .inl (cs.1, 8, .inl v_turned)), ((q 4), .inl (cs.2.1, 64, .inr (.inl v_totals))), ((q 5), .inl (cs.1, 8, .inl v_before)), ((q 6), .inl (cs.1, 8, .inl v_after))]

abbrev rmX4_fillBitChanges : Room := { frames := 4, cells := 0, slots := 0, locals := 98 }
set_option maxHeartbeats 4000000 in
set_option maxRecDepth 100000 in
theorem v_X4_fillBitChanges_changed {p : Program} {l : Launch} {e : Env} {s : State} {m : MethodId} {args : Array Value} {below : List Frame} {meth : Method} {c : Code} {H : Heap} {locs : List Loc} {pc : Nat} {Q : State → Prop} {G : va_G} {cs : CS} {A : Nat → Prop} {ws : va_W} {ls : Array Slot} {rest : List Value} {ro : RF} {j sa sw : Nat} {sd : SD} {n : Nat} (hx : p.tables.exec = Jvm.exec) (hb : c.code = cX4_fillBitChanges) (hml : c.maxLocals = 6) (hown : s.vm.findClass RX4 = some m.cls) (hts : ∀ w ∈ wsX4_fillBitChanges, w.before args s = true) (hK : KK G cs s) (hA : ∀ q, s.heap.size ≤ q → A q) (hRo : RO G ro A s s.heap) (hj : ro j = some (sa, sw, sd)) (hP : va_P G vwCl ws H) (hS : va_S A s.heap H locs) (hl1 : ls.size = 6) (hrest : (rest.map fun v => v.category).sum ≤ 8) (hdg : decode cX4_fillBitChanges pc = .ok (.invokevirtual 57, 3)) {x1 : Int32}  {x2 : Int32}  {x3 : Int32}  {x4 : Int32} {r : Int64} (hc : V_changed n sd x1 x2 x3 x4 = some r) (kk : ∀ (H1 : Heap) (locs1 : List Loc), va_P G vwCl ws H1 → va_S A s.heap H1 locs1 → W p l e rmX4_fillBitChanges s m args below meth c H1 locs1 0 0 Q (F0 m (pc + 3) ls (.long r :: rest))) : W p l e rmX4_fillBitChanges s m args below meth c H locs 0 0 Q (F0 m pc ls (.int x4 :: .int x3 :: .int x2 :: .int x1 :: .ref sa :: rest)) := by
  obtain ⟨c1, s_k, s_m, s_t, s_p, s_b, s_f, s_l, s_wl, s_wf⟩ := sd
  unfold V_changed at hc
  dsimp only at hc
  by_cases h8 : c1 = 8
  · have hc := i_t h8 hc
    subst h8
    exact k_calll0 (va_runU (As := [.int x1, .int x2, .int x3, .int x4]) (rest := rest) ⟨hx, hb, hml, hown, hts⟩ (c_X10_changed l G cs H.size sa sw s_k s_m s_t s_p s_b s_f s_l s_wl s_wf x1 x2 x3 x4 r hc) (va_cwA 4 hts gX4_fillBitChanges_X10_changed_u57X10 rfl rfl rfl (hK.2.2.2.2.1 _ (List.mem_of_getElem? (i := 4) rfl)) hdv_changed ⟨Nat.le_of_ble_eq_true rfl, Nat.le_of_ble_eq_true rfl⟩) ⟨pre_blind, va_recv hK.1 (RO.at hS hRo j _ hj).1 (ci := 8) (q0 := 0) rfl rfl, pre_w hK (RO.one hj (RO.at hS hRo)) P0 D0 (va_new0 hS hA)⟩ rfl rfl hl1 rfl (lv_room hrest) hdg ⟨Nat.zero_le _, Nat.zero_le _⟩) hP hS hA kk
  have hc := i_f h8 hc
  by_cases h7 : c1 = 7
  · have hc := i_t h7 hc
    subst h7
    exact k_calll0 (va_runU (As := [.int x1, .int x2, .int x3, .int x4]) (rest := rest) ⟨hx, hb, hml, hown, hts⟩ (c_X9_changed l G cs H.size sa sw s_k s_m s_t s_p s_b s_f s_l s_wl s_wf x1 x2 x3 x4 r hc) (va_cwA 4 hts gX4_fillBitChanges_X9_changed_u57X9 rfl rfl rfl (hK.2.2.2.2.1 _ (List.mem_of_getElem? (i := 4) rfl)) hdv_changed ⟨Nat.le_of_ble_eq_true rfl, Nat.le_of_ble_eq_true rfl⟩) ⟨pre_blind, va_recv hK.1 (RO.at hS hRo j _ hj).1 (ci := 7) (q0 := 0) rfl rfl, pre_w hK (RO.one hj (RO.at hS hRo)) P0 D0 (va_new0 hS hA)⟩ rfl rfl hl1 rfl (lv_room hrest) hdg ⟨Nat.zero_le _, Nat.zero_le _⟩) hP hS hA kk
  have hc := i_f h7 hc
  by_cases h6 : c1 = 6
  · have hc := i_t h6 hc
    subst h6
    exact k_calll0 (va_runU (As := [.int x1, .int x2, .int x3, .int x4]) (rest := rest) ⟨hx, hb, hml, hown, hts⟩ (c_X8_changed l G cs H.size sa sw s_k s_m s_t s_p s_b s_f s_l s_wl s_wf x1 x2 x3 x4 r hc) (va_cwA 4 hts gX4_fillBitChanges_X8_changed_u57X8 rfl rfl rfl (hK.2.2.2.2.1 _ (List.mem_of_getElem? (i := 4) rfl)) hdv_changed ⟨Nat.le_of_ble_eq_true rfl, Nat.le_of_ble_eq_true rfl⟩) ⟨pre_blind, va_recv hK.1 (RO.at hS hRo j _ hj).1 (ci := 6) (q0 := 0) rfl rfl, pre_w hK (RO.one hj (RO.at hS hRo)) P0 D0 (va_new0 hS hA)⟩ rfl rfl hl1 rfl (lv_room hrest) hdg ⟨Nat.zero_le _, Nat.zero_le _⟩) hP hS hA kk
  have hc := i_f h6 hc
  by_cases h1 : c1 = 1
  · have hc := i_t h1 hc
    subst h1
    exact k_calll0 (va_runU (As := [.int x1, .int x2, .int x3, .int x4]) (rest := rest) ⟨hx, hb, hml, hown, hts⟩ (c_X1_changed l G cs H.size sa sw s_k s_m s_t s_p s_b s_f s_l s_wl s_wf x1 x2 x3 x4 n r hc) (va_cwA 4 hts gX4_fillBitChanges_X1_changed_u57X1 rfl rfl rfl (hK.2.2.2.2.1 _ (List.mem_of_getElem? (i := 4) rfl)) hdv_changed ⟨Nat.le_of_ble_eq_true rfl, Nat.le_of_ble_eq_true rfl⟩) ⟨pre_blind, va_recv hK.1 (RO.at hS hRo j _ hj).1 (ci := 1) (q0 := 0) rfl rfl, pre_w hK (RO.one hj (RO.at hS hRo)) P0 D0 (va_new0 hS hA)⟩ rfl rfl hl1 rfl (lv_room hrest) hdg ⟨Nat.zero_le _, Nat.zero_le _⟩) hP hS hA kk
  have hc := i_f h1 hc
  cases hc
set_option maxHeartbeats 4000000 in
set_option maxRecDepth 100000 in
theorem c_X4_fillBitChanges (l : Launch) (G : va_G) (cs : CS) (q : Nat → Nat) (sz : Nat) (v_rising : (Nat → Int64)) (v_falling : (Nat → Int64)) (v_turned : (Nat → Int32)) (v_totals : (Nat → Int64)) (v_before : (Nat → Int32)) (v_after : (Nat → Int32)) (v_keptBytes : Int32)  (sa sw : Nat) (sd : SD) (x2 : Int32) (n : Nat) (res : ((Nat → Int64) × (Nat → Int64))) (hm : M_X4_fillBitChanges n x2 v_rising v_falling sd = some res) : Met l yX4_fillBitChanges wsX4_fillBitChanges rmX4_fillBitChanges (va_Pc [.ref (q 0), .ref sa, .int x2] (PreW G cs sz (ww_S q cs v_rising v_falling v_turned v_totals v_before v_after v_keptBytes) (fun _ => some (sa, sw, sd)))) (QV G (ww_S q cs res.1 res.2 v_turned v_totals v_before v_after v_keptBytes) (va_A (ww_S q cs v_rising v_falling v_turned v_totals v_before v_after v_keptBytes) sz)) 0 0 (va_A (ww_S q cs v_rising v_falling v_turned v_totals v_before v_after v_keptBytes) sz) := by
  refine k_enter (Qf := fun A => QV G (ww_S q cs res.1 res.2 v_turned v_totals v_before v_after v_keptBytes) A) (cc := cX4_fillBitChanges) (maxL := 6) (ret := none) (plainFor_of_name (by decide)) rfl (Nat.le_of_ble_eq_true rfl) ?_
  intro p e s m args below meth c A Q ls H locs hx hb hr hml hown hts hlocks hname hK hA hRo hP hD hS hQ hl
  have hl : lv_has ls 6 [(0, .ref (q 0)), (1, .ref sa), (2, .int x2)] := hl
  have wd4 := hts (.initialized RX11) (List.mem_of_getElem? (i := 4) rfl)
  have wd3 := hts (.static yX11_byteOfPlace) (List.mem_of_getElem? (i := 3) rfl)
  have wd6 := hts (.static yX11_bitOfPlace) (List.mem_of_getElem? (i := 6) rfl)
  have wd1 := hts (.fieldLink RX4 9 "SumSmith$Slips" "rising" "[J") (List.mem_of_getElem? (i := 1) rfl)
  have wd2 := hts (.fieldLink RX4 15 "SumSmith$Slips" "falling" "[J") (List.mem_of_getElem? (i := 2) rfl)
  have hinX4 : ∀ w ∈ wsX40, w ∈ wsX4_fillBitChanges := fun w h => List.mem_cons_of_mem _ (List.mem_append_left _ (List.mem_append_left _ (List.mem_append_left _ (List.mem_append_left _ (List.mem_append_right _ h)))))
  have L2 : ∀ (x2 : Int32) (x3 : Int32) (v_rising : (Nat → Int64)) (v_falling : (Nat → Int64)) (out : ((Nat → Int64) × (Nat → Int64))), lp (fun x : (Int32 × (Nat → Int64) × (Nat → Int64)) => M_X4_fillBitChanges_b2 n x2 sd x.1 x.2.1 x.2.2) n (x3, v_rising, v_falling) = some out → (∀ (o : ((Nat → Int64) × (Nat → Int64))), out = o → ∀ (H : Heap) (locs : List Loc), va_P G vwCl (ww_S q cs o.1 o.2 v_turned v_totals v_before v_after v_keptBytes) H → va_D A (ww_S q cs o.1 o.2 v_turned v_totals v_before v_after v_keptBytes) → va_S A s.heap H locs → ∀ (ls : Array Slot), lv_has ls 6 [] → W p l e rmX4_fillBitChanges s m args below meth c H locs 0 0 Q (F0 m 60 ls [])) → ∀ (H : Heap) (locs : List Loc), va_P G vwCl (ww_S q cs v_rising v_falling v_turned v_totals v_before v_after v_keptBytes) H → va_D A (ww_S q cs v_rising v_falling v_turned v_totals v_before v_after v_keptBytes) → va_S A s.heap H locs → ∀ (ls : Array Slot), lv_has ls 6 [(0, .ref (q 0)), (1, .ref sa), (2, .int x2), (3, .int x3)] → W p l e rmX4_fillBitChanges s m args below meth c H locs 0 0 Q (F0 m 2 ls []) := by
    intro x2 x3 v_rising v_falling out hlp hX
    refine lp_ind (fun x => ∀ (H : Heap) (locs : List Loc), va_P G vwCl (ww_S q cs x.2.1 x.2.2 v_turned v_totals v_before v_after v_keptBytes) H → va_D A (ww_S q cs x.2.1 x.2.2 v_turned v_totals v_before v_after v_keptBytes) → va_S A s.heap H locs → ∀ (ls : Array Slot), lv_has ls 6 [(0, .ref (q 0)), (1, .ref sa), (2, .int x2), (3, .int x.1)] → W p l e rmX4_fillBitChanges s m args below meth c H locs 0 0 Q (F0 m 2 ls [])) ?_ n (x3, v_rising, v_falling) hlp
    clear hlp hP hD hS hl
    rintro ⟨x3, v_rising, v_falling⟩ ob hm hst H locs hP hD hS ls hl
    have hm : M_X4_fillBitChanges_b2 n x2 sd x3 v_rising v_falling = some ob := hm
    have hl : lv_has ls 6 [(0, .ref (q 0)), (1, .ref sa), (2, .int x2), (3, .int x3)] := hl
    have hP : va_P G vwCl (ww_S q cs v_rising v_falling v_turned v_totals v_before v_after v_keptBytes) H := hP
    have hD : va_D A (ww_S q cs v_rising v_falling v_turned v_totals v_before v_after v_keptBytes) := hD
    unfold M_X4_fillBitChanges_b2 at hm
    refine lv_iload_n hx hb dX4_fillBitChanges_2 rfl (lv_at hl 3 rfl) ?_
    refine lv_bipush (v := 8) hx hb dX4_fillBitChanges_3 (by decide) ?_
    refine lv_iload_n hx hb dX4_fillBitChanges_5 rfl (lv_at hl 2 rfl) ?_
    refine lv_imul hx hb dX4_fillBitChanges_6 ?_
    refine lv_icmp_ge (tgt := 60) hx hb dX4_fillBitChanges_7 (by decide) (fun b1 => ?_) (fun b1 => ?_)
    · have hm := i_t b1 hm
      exact hX _ (st_exit hm hst) H locs hP hD hS ls (lv_sub hl [] rfl)
    · have hm := i_f b1 hm
      refine lv_iload_n hx hb dX4_fillBitChanges_10 rfl (lv_at hl 3 rfl) ?_
      refine k_calli0 (va_runSN (As := [.int x3]) (rest := []) ⟨hx, hb, hml, hown, hts⟩ (c_X11_byteOfPlace l G cs H.size    x3 _ rfl) ⟨va_cnB 1 hts gX4_fillBitChanges_X11_byteOfPlace_n50 rfl rfl rfl (hK.2.1 _ (List.mem_of_getElem? (i := 8) rfl)) wd4 hd_X11_byteOfPlace ⟨Nat.le_of_ble_eq_true rfl, Nat.le_of_ble_eq_true rfl⟩, wd3, trivial⟩ ⟨pre_blind, pre_w hK RO.nil P0 D0 (va_new0 hS hA)⟩ rfl rfl hl.1 rfl (lv_room (Nat.le_of_ble_eq_true rfl)) dX4_fillBitChanges_11 ⟨Nat.zero_le _, Nat.zero_le _⟩) hP hS hA (fun hE2 H locs hP hS => ?_)
      refine lv_istore (lv' := [(4, .int (M_X11_byteOfPlace x3)), (0, .ref (q 0)), (1, .ref sa), (2, .int x2), (3, .int x3)]) hx hb dX4_fillBitChanges_14 hl (by decide) rfl (fun ls hl => ?_)
      refine lv_iload_n hx hb dX4_fillBitChanges_16 rfl (lv_at hl 4 rfl) ?_
      refine k_calli0 (va_runSN (As := [.int x3]) (rest := []) ⟨hx, hb, hml, hown, hts⟩ (c_X11_bitOfPlace l G cs H.size    x3 _ rfl) ⟨va_cnB 1 hts gX4_fillBitChanges_X11_bitOfPlace_n54 rfl rfl rfl (hK.2.1 _ (List.mem_of_getElem? (i := 9) rfl)) wd4 hd_X11_bitOfPlace ⟨Nat.le_of_ble_eq_true rfl, Nat.le_of_ble_eq_true rfl⟩, wd6, trivial⟩ ⟨pre_blind, pre_w hK RO.nil P0 D0 (va_new0 hS hA)⟩ rfl rfl hl.1 rfl (lv_room (Nat.le_of_ble_eq_true rfl)) dX4_fillBitChanges_17 ⟨Nat.zero_le _, Nat.zero_le _⟩) hP hS hA (fun hE3 H locs hP hS => ?_)
      refine lv_istore (lv' := [(5, .int (M_X11_bitOfPlace x3)), (4, .int (M_X11_byteOfPlace x3)), (0, .ref (q 0)), (1, .ref sa), (2, .int x2), (3, .int x3)]) hx hb dX4_fillBitChanges_20 hl (by decide) rfl (fun ls hl => ?_)
      refine lv_aload_n hx hb dX4_fillBitChanges_22 rfl (lv_at hl 2 rfl) ?_
      refine va_get (D := G) (ci := 3) (v := .ref (q 1)) (C := RX4) (T := TX4) (N := 7) hx hb hts hinX4 hown hK.1 hP 0 rfl rfl 0 (by decide) wd1 (fun _ h9 => h9) rfl dX4_fillBitChanges_23 ?_
      refine lv_iload_n hx hb dX4_fillBitChanges_26 rfl (lv_at hl 5 rfl) ?_
      refine lv_aload_n hx hb dX4_fillBitChanges_27 rfl (lv_at hl 3 rfl) ?_
      refine lv_iload_n hx hb dX4_fillBitChanges_28 rfl (lv_at hl 4 rfl) ?_
      refine lv_iload hx hb dX4_fillBitChanges_29 (lv_at hl 1 rfl) ?_
      refine lv_iconst (v := 0) hx hb dX4_fillBitChanges_31 (by decide) ?_
      refine lv_iload hx hb dX4_fillBitChanges_32 (lv_at hl 0 rfl) ?_
      obtain ⟨r4, hc_r4, hm⟩ := bs hm
      refine v_X4_fillBitChanges_changed (j := 0) (n := n) hx hb hml hown hts hK hA hRo rfl hP hS hl.1 (Nat.le_of_ble_eq_true rfl) dX4_fillBitChanges_34 hc_r4 (fun H locs hP hS => ?_)
      obtain ⟨h5, hm⟩ := g_in hm
      refine va_last hx hb hK.1 hP hD hS 1 1 rfl rfl h5 dX4_fillBitChanges_37 (fun H locs hP hD hS => ?_)
      have hP : va_P G vwCl (ww_S q cs (vp_updL v_rising x3.toNatClampNeg r4) v_falling v_turned v_totals v_before v_after v_keptBytes) H := hP
      have hD : va_D A (ww_S q cs (vp_updL v_rising x3.toNatClampNeg r4) v_falling v_turned v_totals v_before v_after v_keptBytes) := hD
      refine lv_aload_n hx hb dX4_fillBitChanges_38 rfl (lv_at hl 2 rfl) ?_
      refine va_get (D := G) (ci := 3) (v := .ref (q 2)) (C := RX4) (T := TX4) (N := 7) hx hb hts hinX4 hown hK.1 hP 0 rfl rfl 1 (by decide) wd2 (fun _ h9 => h9) rfl dX4_fillBitChanges_39 ?_
      refine lv_iload_n hx hb dX4_fillBitChanges_42 rfl (lv_at hl 5 rfl) ?_
      refine lv_aload_n hx hb dX4_fillBitChanges_43 rfl (lv_at hl 3 rfl) ?_
      refine lv_iload_n hx hb dX4_fillBitChanges_44 rfl (lv_at hl 4 rfl) ?_
      refine lv_iload hx hb dX4_fillBitChanges_45 (lv_at hl 1 rfl) ?_
      refine lv_iload hx hb dX4_fillBitChanges_47 (lv_at hl 0 rfl) ?_
      refine lv_iconst (v := 0) hx hb dX4_fillBitChanges_49 (by decide) ?_
      obtain ⟨r6, hc_r6, hm⟩ := bs hm
      refine v_X4_fillBitChanges_changed (j := 0) (n := n) hx hb hml hown hts hK hA hRo rfl hP hS hl.1 (Nat.le_of_ble_eq_true rfl) dX4_fillBitChanges_50 hc_r6 (fun H locs hP hS => ?_)
      obtain ⟨h7, hm⟩ := g_in hm
      refine va_last hx hb hK.1 hP hD hS 2 1 rfl rfl h7 dX4_fillBitChanges_53 (fun H locs hP hD hS => ?_)
      have hP : va_P G vwCl (ww_S q cs (vp_updL v_rising x3.toNatClampNeg r4) (vp_updL v_falling x3.toNatClampNeg r6) v_turned v_totals v_before v_after v_keptBytes) H := hP
      have hD : va_D A (ww_S q cs (vp_updL v_rising x3.toNatClampNeg r4) (vp_updL v_falling x3.toNatClampNeg r6) v_turned v_totals v_before v_after v_keptBytes) := hD
      refine lv_iinc (v := x3 + 1) (lv' := [(3, .int (x3 + 1)), (5, .int (M_X11_bitOfPlace x3)), (4, .int (M_X11_byteOfPlace x3)), (0, .ref (q 0)), (1, .ref sa), (2, .int x2)]) hx hb dX4_fillBitChanges_54 hl (k := 5) rfl rfl (by decide) rfl (fun ls hl => ?_)
      refine lv_goto (tgt := 2) hx hb dX4_fillBitChanges_57 (by decide) ?_
      exact st_next hm hst H locs hP hD hS ls (lv_sub hl [3, 4, 5, 0] rfl)
  unfold M_X4_fillBitChanges at hm
  refine lv_iconst (v := 0) hx hb dX4_fillBitChanges_0 (by decide) ?_
  refine lv_istore_n (lv' := [(3, .int 0), (0, .ref (q 0)), (1, .ref sa), (2, .int x2)]) hx hb dX4_fillBitChanges_1 rfl hl (by decide) rfl (fun ls hl => ?_)
  obtain ⟨o8, hlp8, hm⟩ := bs hm
  refine L2 x2 (0 : Int32) v_rising v_falling o8 hlp8 (fun oo ho => ?_) H locs hP hD hS ls (lv_sub hl [1, 2, 3, 0] rfl)
  subst ho
  intro H locs hP hD hS ls hl
  have hl : lv_has ls 6 [] := hl
  have hP : va_P G vwCl (ww_S q cs o8.1 o8.2 v_turned v_totals v_before v_after v_keptBytes) H := hP
  have hD : va_D A (ww_S q cs o8.1 o8.2 v_turned v_totals v_before v_after v_keptBytes) := hD
  have hq := Option.some.inj hm
  subst hq; subst hQ
  exact k_vret hx hb hr hlocks hP hD hS dX4_fillBitChanges_60

theorem hd_X4_fillTotals : yX4_fillTotals.cls ≠ "java/lang/invoke/MethodHandle" ∧ yX4_fillTotals.cls ≠ "java/lang/invoke/VarHandle" ∧ (parseMethodDescriptor yX4_fillTotals.desc).map (fun d => d.parameters.length) = some 2 := by decide +kernel

def M_X4_fillTotals_b70 (n : Nat) (x5 : Int32) (v_rising : (Nat → Int64)) (v_falling : (Nat → Int64)) (sd : SD) (x6 : Int32) (v_totals : (Nat → Int64)) : Option ((Int32 × (Nat → Int64)) ⊕ (Nat → Int64)) :=
  if x6 < 0 then (some (.inr v_totals)) else (if x6 < 0 ∨ 64 ≤ x6.toNatClampNeg then none else if x5 < 0 ∨ 64 ≤ x5.toNatClampNeg then none else (V_merged sd (v_totals x6.toNatClampNeg) (v_falling x5.toNatClampNeg)).bind fun r12 => if ((2 * x6) + 1) < 0 ∨ 64 ≤ ((2 * x6) + 1).toNatClampNeg then none else if x5 < 0 ∨ 64 ≤ x5.toNatClampNeg then none else (V_merged sd (v_totals x6.toNatClampNeg) (v_rising x5.toNatClampNeg)).bind fun r15 => if (2 * x6) < 0 ∨ 64 ≤ (2 * x6).toNatClampNeg then none else some (.inl (x6 + (-1), (vp_updL (vp_updL v_totals ((2 * x6) + 1).toNatClampNeg r12) (2 * x6).toNatClampNeg r15))))

def M_X4_fillTotals_b12 (n : Nat) (x2 : Int32) (v_rising : (Nat → Int64)) (v_falling : (Nat → Int64)) (v_turned : (Nat → Int32)) (sd : SD) (x3 : Int32) (x4 : Int32) (v_totals : (Nat → Int64)) : Option ((Int32 × Int32 × (Nat → Int64)) ⊕ (Int32 × (Nat → Int64))) :=
  if x2 ≤ x4 then (some (.inr (x3, v_totals))) else (if x4 < 0 ∨ 8 ≤ x4.toNatClampNeg then none else if x4 = 0 then (if (v_turned x4.toNatClampNeg) < 0 ∨ 64 ≤ (v_turned x4.toNatClampNeg).toNatClampNeg then none else (V_merged sd (v_totals (0 : Int32).toNatClampNeg) (v_rising (v_turned x4.toNatClampNeg).toNatClampNeg)).bind fun r5 => some (.inl (x3, x4 + 1, (vp_updL v_totals (0 : Int32).toNatClampNeg r5)))) else ((V_isByExclusiveOr sd ).bind fun r6 => if r6 = 0 then ((lp (fun x : (Int32 × (Nat → Int64)) => M_X4_fillTotals_b70 n (v_turned x4.toNatClampNeg) v_rising v_falling sd x.1 x.2) n ((x3 - 1), v_totals)).bind fun o17 => some (.inl (x3 * 2, x4 + 1, o17))) else (if (v_turned x4.toNatClampNeg) < 0 ∨ 64 ≤ (v_turned x4.toNatClampNeg).toNatClampNeg then none else (V_merged sd (v_totals (0 : Int32).toNatClampNeg) (v_rising (v_turned x4.toNatClampNeg).toNatClampNeg)).bind fun r19 => some (.inl (x3, x4 + 1, (vp_updL v_totals (0 : Int32).toNatClampNeg r19))))))

def M_X4_fillTotals (n : Nat) (x2 : Int32) (v_rising : (Nat → Int64)) (v_falling : (Nat → Int64)) (v_turned : (Nat → Int32)) (v_totals : (Nat → Int64)) (sd : SD) : Option (Int32 × (Nat → Int64)) :=
  (lp (fun x : (Int32 × Int32 × (Nat → Int64)) => M_X4_fillTotals_b12 n x2 v_rising v_falling v_turned sd x.1 x.2.1 x.2.2) n ((1 : Int32), (0 : Int32), (vp_updL v_totals (0 : Int32).toNatClampNeg 0))).bind fun o20 => some (o20.1, o20.2)

abbrev rmX4_fillTotals : Room := { frames := 2, cells := 0, slots := 0, locals := 47 }
set_option maxHeartbeats 4000000 in
set_option maxRecDepth 100000 in
theorem v_X4_fillTotals_merged {p : Program} {l : Launch} {e : Env} {s : State} {m : MethodId} {args : Array Value} {below : List Frame} {meth : Method} {c : Code} {H : Heap} {locs : List Loc} {pc : Nat} {Q : State → Prop} {G : va_G} {cs : CS} {A : Nat → Prop} {ws : va_W} {ls : Array Slot} {rest : List Value} {ro : RF} {j sa sw : Nat} {sd : SD} (hx : p.tables.exec = Jvm.exec) (hb : c.code = cX4_fillTotals) (hml : c.maxLocals = 9) (hown : s.vm.findClass RX4 = some m.cls) (hts : ∀ w ∈ wsX4_fillTotals, w.before args s = true) (hK : KK G cs s) (hA : ∀ q, s.heap.size ≤ q → A q) (hRo : RO G ro A s s.heap) (hj : ro j = some (sa, sw, sd)) (hP : va_P G vwCl ws H) (hS : va_S A s.heap H locs) (hl1 : ls.size = 9) (hrest : (rest.map fun v => v.category).sum ≤ 8) (hdg : decode cX4_fillTotals pc = .ok (.invokevirtual 87, 3)) {x1 : Int64}  {x3 : Int64} {r : Int64} (hc : V_merged sd x1 x3 = some r) (kk : ∀ (H1 : Heap) (locs1 : List Loc), va_P G vwCl ws H1 → va_S A s.heap H1 locs1 → W p l e rmX4_fillTotals s m args below meth c H1 locs1 0 0 Q (F0 m (pc + 3) ls (.long r :: rest))) : W p l e rmX4_fillTotals s m args below meth c H locs 0 0 Q (F0 m pc ls (.long x3 :: .long x1 :: .ref sa :: rest)) := by
  obtain ⟨c1, s_k, s_m, s_t, s_p, s_b, s_f, s_l, s_wl, s_wf⟩ := sd
  unfold V_merged at hc
  dsimp only at hc
  by_cases h8 : c1 = 8
  · have hc := i_t h8 hc
    subst h8
    exact k_calll0 (va_runU (As := [.long x1, .long x3]) (rest := rest) ⟨hx, hb, hml, hown, hts⟩ (c_X10_merged l G cs H.size sa sw s_k s_m s_t s_p s_b s_f s_l s_wl s_wf x1 x3 r hc) (va_cwA 2 hts gX4_fillTotals_X10_merged_u87X10 rfl rfl rfl (hK.2.2.2.2.1 _ (List.mem_of_getElem? (i := 3) rfl)) hdv_merged ⟨Nat.le_of_ble_eq_true rfl, Nat.le_of_ble_eq_true rfl⟩) ⟨pre_blind, va_recv hK.1 (RO.at hS hRo j _ hj).1 (ci := 8) (q0 := 0) rfl rfl, pre_w hK (RO.one hj (RO.at hS hRo)) P0 D0 (va_new0 hS hA)⟩ rfl rfl hl1 rfl (lv_room hrest) hdg ⟨Nat.zero_le _, Nat.zero_le _⟩) hP hS hA kk
  have hc := i_f h8 hc
  by_cases h7 : c1 = 7
  · have hc := i_t h7 hc
    subst h7
    exact k_calll0 (va_runU (As := [.long x1, .long x3]) (rest := rest) ⟨hx, hb, hml, hown, hts⟩ (c_X9_merged l G cs H.size sa sw s_k s_m s_t s_p s_b s_f s_l s_wl s_wf x1 x3 r hc) (va_cwA 2 hts gX4_fillTotals_X9_merged_u87X9 rfl rfl rfl (hK.2.2.2.2.1 _ (List.mem_of_getElem? (i := 3) rfl)) hdv_merged ⟨Nat.le_of_ble_eq_true rfl, Nat.le_of_ble_eq_true rfl⟩) ⟨pre_blind, va_recv hK.1 (RO.at hS hRo j _ hj).1 (ci := 7) (q0 := 0) rfl rfl, pre_w hK (RO.one hj (RO.at hS hRo)) P0 D0 (va_new0 hS hA)⟩ rfl rfl hl1 rfl (lv_room hrest) hdg ⟨Nat.zero_le _, Nat.zero_le _⟩) hP hS hA kk
  have hc := i_f h7 hc
  by_cases h6 : c1 = 6
  · have hc := i_t h6 hc
    subst h6
    exact k_calll0 (va_runU (As := [.long x1, .long x3]) (rest := rest) ⟨hx, hb, hml, hown, hts⟩ (c_X8_merged l G cs H.size sa sw s_k s_m s_t s_p s_b s_f s_l s_wl s_wf x1 x3 r (Option.some.inj hc)) (va_cwA 2 hts gX4_fillTotals_X8_merged_u87X8 rfl rfl rfl (hK.2.2.2.2.1 _ (List.mem_of_getElem? (i := 3) rfl)) hdv_merged ⟨Nat.le_of_ble_eq_true rfl, Nat.le_of_ble_eq_true rfl⟩) ⟨pre_blind, va_recv hK.1 (RO.at hS hRo j _ hj).1 (ci := 6) (q0 := 0) rfl rfl, pre_w hK (RO.one hj (RO.at hS hRo)) P0 D0 (va_new0 hS hA)⟩ rfl rfl hl1 rfl (lv_room hrest) hdg ⟨Nat.zero_le _, Nat.zero_le _⟩) hP hS hA kk
  have hc := i_f h6 hc
  by_cases h1 : c1 = 1
  · have hc := i_t h1 hc
    subst h1
    exact k_calll0 (va_runU (As := [.long x1, .long x3]) (rest := rest) ⟨hx, hb, hml, hown, hts⟩ (c_X1_merged l G cs H.size sa sw s_k s_m s_t s_p s_b s_f s_l s_wl s_wf x1 x3 r (Option.some.inj hc)) (va_cwA 2 hts gX4_fillTotals_X1_merged_u87X1 rfl rfl rfl (hK.2.2.2.2.1 _ (List.mem_of_getElem? (i := 3) rfl)) hdv_merged ⟨Nat.le_of_ble_eq_true rfl, Nat.le_of_ble_eq_true rfl⟩) ⟨pre_blind, va_recv hK.1 (RO.at hS hRo j _ hj).1 (ci := 1) (q0 := 0) rfl rfl, pre_w hK (RO.one hj (RO.at hS hRo)) P0 D0 (va_new0 hS hA)⟩ rfl rfl hl1 rfl (lv_room hrest) hdg ⟨Nat.zero_le _, Nat.zero_le _⟩) hP hS hA kk
  have hc := i_f h1 hc
  cases hc
set_option maxHeartbeats 4000000 in
set_option maxRecDepth 100000 in
theorem v_X4_fillTotals_isByExclusiveOr {p : Program} {l : Launch} {e : Env} {s : State} {m : MethodId} {args : Array Value} {below : List Frame} {meth : Method} {c : Code} {H : Heap} {locs : List Loc} {pc : Nat} {Q : State → Prop} {G : va_G} {cs : CS} {A : Nat → Prop} {ws : va_W} {ls : Array Slot} {rest : List Value} {ro : RF} {j sa sw : Nat} {sd : SD} (hx : p.tables.exec = Jvm.exec) (hb : c.code = cX4_fillTotals) (hml : c.maxLocals = 9) (hown : s.vm.findClass RX4 = some m.cls) (hts : ∀ w ∈ wsX4_fillTotals, w.before args s = true) (hK : KK G cs s) (hA : ∀ q, s.heap.size ≤ q → A q) (hRo : RO G ro A s s.heap) (hj : ro j = some (sa, sw, sd)) (hP : va_P G vwCl ws H) (hS : va_S A s.heap H locs) (hl1 : ls.size = 9) (hrest : (rest.map fun v => v.category).sum ≤ 8) (hdg : decode cX4_fillTotals pc = .ok (.invokevirtual 83, 3)) {r : Int32} (hc : V_isByExclusiveOr sd  = some r) (kk : (r = 0 ∨ r = 1) → ∀ (H1 : Heap) (locs1 : List Loc), va_P G vwCl ws H1 → va_S A s.heap H1 locs1 → W p l e rmX4_fillTotals s m args below meth c H1 locs1 0 0 Q (F0 m (pc + 3) ls (.int r :: rest))) : W p l e rmX4_fillTotals s m args below meth c H locs 0 0 Q (F0 m pc ls (.ref sa :: rest)) := by
  obtain ⟨c1, s_k, s_m, s_t, s_p, s_b, s_f, s_l, s_wl, s_wf⟩ := sd
  unfold V_isByExclusiveOr at hc
  dsimp only at hc
  by_cases h8 : c1 = 8
  · have hc := i_t h8 hc
    subst h8
    exact k_calli0 (va_runU (As := []) (rest := rest) ⟨hx, hb, hml, hown, hts⟩ (c_X2_isByExclusiveOr l G cs H.size sa  r (Option.some.inj hc)) (va_cwU 0 hts gX4_fillTotals_X2_isByExclusiveOr_u83X10 rfl rfl rfl rfl hdv_isByExclusiveOr ⟨Nat.le_of_ble_eq_true rfl, Nat.le_of_ble_eq_true rfl⟩) ⟨pre_blind, va_recv hK.1 (RO.at hS hRo j _ hj).1 (ci := 8) (q0 := 0) rfl rfl, pre_w hK RO.nil P0 D0 (va_new0 hS hA)⟩ rfl rfl hl1 rfl (lv_room hrest) hdg ⟨Nat.zero_le _, Nat.zero_le _⟩) hP hS hA (fun hE => kk hE)
  have hc := i_f h8 hc
  by_cases h7 : c1 = 7
  · have hc := i_t h7 hc
    subst h7
    exact k_calli0 (va_runU (As := []) (rest := rest) ⟨hx, hb, hml, hown, hts⟩ (c_X2_isByExclusiveOr l G cs H.size sa  r (Option.some.inj hc)) (va_cwU 0 hts gX4_fillTotals_X2_isByExclusiveOr_u83X9 rfl rfl rfl rfl hdv_isByExclusiveOr ⟨Nat.le_of_ble_eq_true rfl, Nat.le_of_ble_eq_true rfl⟩) ⟨pre_blind, va_recv hK.1 (RO.at hS hRo j _ hj).1 (ci := 7) (q0 := 0) rfl rfl, pre_w hK RO.nil P0 D0 (va_new0 hS hA)⟩ rfl rfl hl1 rfl (lv_room hrest) hdg ⟨Nat.zero_le _, Nat.zero_le _⟩) hP hS hA (fun hE => kk hE)
  have hc := i_f h7 hc
  by_cases h6 : c1 = 6
  · have hc := i_t h6 hc
    subst h6
    exact k_calli0 (va_runU (As := []) (rest := rest) ⟨hx, hb, hml, hown, hts⟩ (c_X8_isByExclusiveOr l G cs H.size sa sw s_k s_m s_t s_p s_b s_f s_l s_wl s_wf  r (Option.some.inj hc)) (va_cwO 0 hts gX4_fillTotals_X8_isByExclusiveOr_u83X8 rfl rfl rfl (b0 := cX2_isByExclusiveOr) (m0 := 1) (r0 := some .boolean) (List.mem_of_getElem? (i := 12) rfl) hdv_isByExclusiveOr ⟨Nat.le_of_ble_eq_true rfl, Nat.le_of_ble_eq_true rfl⟩) ⟨pre_blind, va_recv hK.1 (RO.at hS hRo j _ hj).1 (ci := 6) (q0 := 0) rfl rfl, pre_w hK (RO.one hj (RO.at hS hRo)) P0 D0 (va_new0 hS hA)⟩ rfl rfl hl1 rfl (lv_room hrest) hdg ⟨Nat.zero_le _, Nat.zero_le _⟩) hP hS hA (fun hE => kk hE)
  have hc := i_f h6 hc
  by_cases h1 : c1 = 1
  · have hc := i_t h1 hc
    subst h1
    exact k_calli0 (va_runU (As := []) (rest := rest) ⟨hx, hb, hml, hown, hts⟩ (c_X1_isByExclusiveOr l G cs H.size sa sw s_k s_m s_t s_p s_b s_f s_l s_wl s_wf  r (Option.some.inj hc)) (va_cwO 0 hts gX4_fillTotals_X1_isByExclusiveOr_u83X1 rfl rfl rfl (b0 := cX2_isByExclusiveOr) (m0 := 1) (r0 := some .boolean) (List.mem_of_getElem? (i := 12) rfl) hdv_isByExclusiveOr ⟨Nat.le_of_ble_eq_true rfl, Nat.le_of_ble_eq_true rfl⟩) ⟨pre_blind, va_recv hK.1 (RO.at hS hRo j _ hj).1 (ci := 1) (q0 := 0) rfl rfl, pre_w hK (RO.one hj (RO.at hS hRo)) P0 D0 (va_new0 hS hA)⟩ rfl rfl hl1 rfl (lv_room hrest) hdg ⟨Nat.zero_le _, Nat.zero_le _⟩) hP hS hA (fun hE => kk hE)
  have hc := i_f h1 hc
  cases hc
set_option maxHeartbeats 4000000 in
set_option maxRecDepth 100000 in
theorem c_X4_fillTotals (l : Launch) (G : va_G) (cs : CS) (q : Nat → Nat) (sz : Nat) (v_rising : (Nat → Int64)) (v_falling : (Nat → Int64)) (v_turned : (Nat → Int32)) (v_totals : (Nat → Int64)) (v_before : (Nat → Int32)) (v_after : (Nat → Int32)) (v_keptBytes : Int32)  (sa sw : Nat) (sd : SD) (x2 : Int32) (n : Nat) (res : (Int32 × (Nat → Int64))) (hm : M_X4_fillTotals n x2 v_rising v_falling v_turned v_totals sd = some res) : Met l yX4_fillTotals wsX4_fillTotals rmX4_fillTotals (va_Pc [.ref (q 0), .ref sa, .int x2] (PreW G cs sz (ww_S q cs v_rising v_falling v_turned v_totals v_before v_after v_keptBytes) (fun _ => some (sa, sw, sd)))) (QI G res.1 True (ww_S q cs v_rising v_falling v_turned res.2 v_before v_after v_keptBytes) (va_A (ww_S q cs v_rising v_falling v_turned v_totals v_before v_after v_keptBytes) sz)) 0 0 (va_A (ww_S q cs v_rising v_falling v_turned v_totals v_before v_after v_keptBytes) sz) := by
  refine k_enter (Qf := fun A => QI G res.1 True (ww_S q cs v_rising v_falling v_turned res.2 v_before v_after v_keptBytes) A) (cc := cX4_fillTotals) (maxL := 9) (ret := (some .int)) (plainFor_of_name (by decide)) rfl (Nat.le_of_ble_eq_true rfl) ?_
  intro p e s m args below meth c A Q ls H locs hx hb hr hml hown hts hlocks hname hK hA hRo hP hD hS hQ hl
  have hl : lv_has ls 9 [(0, .ref (q 0)), (1, .ref sa), (2, .int x2)] := hl
  have wd1 := hts (.fieldLink RX4 22 "SumSmith$Slips" "totals" "[J") (List.mem_of_getElem? (i := 1) rfl)
  have wd2 := hts (.fieldLink RX4 18 "SumSmith$Slips" "turned" "[I") (List.mem_of_getElem? (i := 2) rfl)
  have wd3 := hts (.fieldLink RX4 9 "SumSmith$Slips" "rising" "[J") (List.mem_of_getElem? (i := 3) rfl)
  have wd4 := hts (.fieldLink RX4 15 "SumSmith$Slips" "falling" "[J") (List.mem_of_getElem? (i := 4) rfl)
  have hinX4 : ∀ w ∈ wsX40, w ∈ wsX4_fillTotals := fun w h => List.mem_cons_of_mem _ (List.mem_append_left _ (List.mem_append_left _ (List.mem_append_right _ h)))
  have L70 : ∀ (x2 : Int32) (x3 : Int32) (x4 : Int32) (x5 : Int32) (x6 : Int32) (v_totals : (Nat → Int64)) (out : (Nat → Int64)), lp (fun x : (Int32 × (Nat → Int64)) => M_X4_fillTotals_b70 n x5 v_rising v_falling sd x.1 x.2) n (x6, v_totals) = some out → (∀ (o : (Nat → Int64)), out = o → ∀ (H : Heap) (locs : List Loc), va_P G vwCl (ww_S q cs v_rising v_falling v_turned o v_before v_after v_keptBytes) H → va_D A (ww_S q cs v_rising v_falling v_turned o v_before v_after v_keptBytes) → va_S A s.heap H locs → ∀ (ls : Array Slot), lv_has ls 9 [(0, .ref (q 0)), (1, .ref sa), (2, .int x2), (3, .int x3), (4, .int x4)] → W p l e rmX4_fillTotals s m args below meth c H locs 0 0 Q (F0 m 136 ls [])) → ∀ (H : Heap) (locs : List Loc), va_P G vwCl (ww_S q cs v_rising v_falling v_turned v_totals v_before v_after v_keptBytes) H → va_D A (ww_S q cs v_rising v_falling v_turned v_totals v_before v_after v_keptBytes) → va_S A s.heap H locs → ∀ (ls : Array Slot), lv_has ls 9 [(0, .ref (q 0)), (1, .ref sa), (2, .int x2), (3, .int x3), (4, .int x4), (5, .int x5), (6, .int x6)] → W p l e rmX4_fillTotals s m args below meth c H locs 0 0 Q (F0 m 70 ls []) := by
    intro x2 x3 x4 x5 x6 v_totals out hlp hX
    refine lp_ind (fun x => ∀ (H : Heap) (locs : List Loc), va_P G vwCl (ww_S q cs v_rising v_falling v_turned x.2 v_before v_after v_keptBytes) H → va_D A (ww_S q cs v_rising v_falling v_turned x.2 v_before v_after v_keptBytes) → va_S A s.heap H locs → ∀ (ls : Array Slot), lv_has ls 9 [(0, .ref (q 0)), (1, .ref sa), (2, .int x2), (3, .int x3), (4, .int x4), (5, .int x5), (6, .int x.1)] → W p l e rmX4_fillTotals s m args below meth c H locs 0 0 Q (F0 m 70 ls [])) ?_ n (x6, v_totals) hlp
    clear hlp hP hD hS hl
    rintro ⟨x6, v_totals⟩ ob hm hst H locs hP hD hS ls hl
    have hm : M_X4_fillTotals_b70 n x5 v_rising v_falling sd x6 v_totals = some ob := hm
    have hl : lv_has ls 9 [(0, .ref (q 0)), (1, .ref sa), (2, .int x2), (3, .int x3), (4, .int x4), (5, .int x5), (6, .int x6)] := hl
    have hP : va_P G vwCl (ww_S q cs v_rising v_falling v_turned v_totals v_before v_after v_keptBytes) H := hP
    have hD : va_D A (ww_S q cs v_rising v_falling v_turned v_totals v_before v_after v_keptBytes) := hD
    unfold M_X4_fillTotals_b70 at hm
    refine lv_iload hx hb dX4_fillTotals_70 (lv_at hl 6 rfl) ?_
    refine lv_if_lt (tgt := 136) hx hb dX4_fillTotals_72 (by decide) (fun b9 => ?_) (fun b9 => ?_)
    · have hm := i_t b9 hm
      exact hX _ (st_exit hm hst) H locs hP hD hS ls (lv_sub hl [0, 1, 2, 3, 4] rfl)
    · have hm := i_f b9 hm
      refine lv_aload_n hx hb dX4_fillTotals_75 rfl (lv_at hl 0 rfl) ?_
      refine va_get (D := G) (ci := 3) (v := .ref (q 4)) (C := RX4) (T := TX4) (N := 7) hx hb hts hinX4 hown hK.1 hP 0 rfl rfl 3 (by decide) wd1 (fun _ h9 => h9) rfl dX4_fillTotals_76 ?_
      refine lv_iload hx hb dX4_fillTotals_79 (lv_at hl 6 rfl) ?_
      obtain ⟨h10, hm⟩ := g_in hm
      refine va_lald hx hb hK.1 hP 4 1 rfl rfl h10 dX4_fillTotals_81 ?_
      refine lv_lstore (lv' := [(7, .long (v_totals x6.toNatClampNeg)), (0, .ref (q 0)), (1, .ref sa), (2, .int x2), (3, .int x3), (4, .int x4), (5, .int x5), (6, .int x6)]) hx hb dX4_fillTotals_82 hl (by decide) rfl (fun ls hl => ?_)
      refine lv_aload_n hx hb dX4_fillTotals_84 rfl (lv_at hl 1 rfl) ?_
      refine va_get (D := G) (ci := 3) (v := .ref (q 4)) (C := RX4) (T := TX4) (N := 7) hx hb hts hinX4 hown hK.1 hP 0 rfl rfl 3 (by decide) wd1 (fun _ h9 => h9) rfl dX4_fillTotals_85 ?_
      refine lv_iconst (v := 2) hx hb dX4_fillTotals_88 (by decide) ?_
      refine lv_iload hx hb dX4_fillTotals_89 (lv_at hl 7 rfl) ?_
      refine lv_imul hx hb dX4_fillTotals_91 ?_
      refine lv_iconst (v := 1) hx hb dX4_fillTotals_92 (by decide) ?_
      refine lv_iadd hx hb dX4_fillTotals_93 ?_
      refine lv_aload_n hx hb dX4_fillTotals_94 rfl (lv_at hl 2 rfl) ?_
      refine lv_lload hx hb dX4_fillTotals_95 (lv_at hl 0 rfl) ?_
      refine lv_aload_n hx hb dX4_fillTotals_97 rfl (lv_at hl 1 rfl) ?_
      refine va_get (D := G) (ci := 3) (v := .ref (q 2)) (C := RX4) (T := TX4) (N := 7) hx hb hts hinX4 hown hK.1 hP 0 rfl rfl 1 (by decide) wd4 (fun _ h9 => h9) rfl dX4_fillTotals_98 ?_
      refine lv_iload hx hb dX4_fillTotals_101 (lv_at hl 6 rfl) ?_
      obtain ⟨h11, hm⟩ := g_in hm
      refine va_lald hx hb hK.1 hP 2 1 rfl rfl h11 dX4_fillTotals_103 ?_
      obtain ⟨r12, hc_r12, hm⟩ := bs hm
      refine v_X4_fillTotals_merged (j := 0) hx hb hml hown hts hK hA hRo rfl hP hS hl.1 (Nat.le_of_ble_eq_true rfl) dX4_fillTotals_104 hc_r12 (fun H locs hP hS => ?_)
      obtain ⟨h13, hm⟩ := g_in hm
      refine va_last hx hb hK.1 hP hD hS 4 1 rfl rfl h13 dX4_fillTotals_107 (fun H locs hP hD hS => ?_)
      have hP : va_P G vwCl (ww_S q cs v_rising v_falling v_turned (vp_updL v_totals ((2 * x6) + 1).toNatClampNeg r12) v_before v_after v_keptBytes) H := hP
      have hD : va_D A (ww_S q cs v_rising v_falling v_turned (vp_updL v_totals ((2 * x6) + 1).toNatClampNeg r12) v_before v_after v_keptBytes) := hD
      refine lv_aload_n hx hb dX4_fillTotals_108 rfl (lv_at hl 1 rfl) ?_
      refine va_get (D := G) (ci := 3) (v := .ref (q 4)) (C := RX4) (T := TX4) (N := 7) hx hb hts hinX4 hown hK.1 hP 0 rfl rfl 3 (by decide) wd1 (fun _ h9 => h9) rfl dX4_fillTotals_109 ?_
      refine lv_iconst (v := 2) hx hb dX4_fillTotals_112 (by decide) ?_
      refine lv_iload hx hb dX4_fillTotals_113 (lv_at hl 7 rfl) ?_
      refine lv_imul hx hb dX4_fillTotals_115 ?_
      refine lv_aload_n hx hb dX4_fillTotals_116 rfl (lv_at hl 2 rfl) ?_
      refine lv_lload hx hb dX4_fillTotals_117 (lv_at hl 0 rfl) ?_
      refine lv_aload_n hx hb dX4_fillTotals_119 rfl (lv_at hl 1 rfl) ?_
      refine va_get (D := G) (ci := 3) (v := .ref (q 1)) (C := RX4) (T := TX4) (N := 7) hx hb hts hinX4 hown hK.1 hP 0 rfl rfl 0 (by decide) wd3 (fun _ h9 => h9) rfl dX4_fillTotals_120 ?_
      refine lv_iload hx hb dX4_fillTotals_123 (lv_at hl 6 rfl) ?_
      obtain ⟨h14, hm⟩ := g_in hm
      refine va_lald hx hb hK.1 hP 1 1 rfl rfl h14 dX4_fillTotals_125 ?_
      obtain ⟨r15, hc_r15, hm⟩ := bs hm
      refine v_X4_fillTotals_merged (j := 0) hx hb hml hown hts hK hA hRo rfl hP hS hl.1 (Nat.le_of_ble_eq_true rfl) dX4_fillTotals_126 hc_r15 (fun H locs hP hS => ?_)
      obtain ⟨h16, hm⟩ := g_in hm
      refine va_last hx hb hK.1 hP hD hS 4 1 rfl rfl h16 dX4_fillTotals_129 (fun H locs hP hD hS => ?_)
      have hP : va_P G vwCl (ww_S q cs v_rising v_falling v_turned (vp_updL (vp_updL v_totals ((2 * x6) + 1).toNatClampNeg r12) (2 * x6).toNatClampNeg r15) v_before v_after v_keptBytes) H := hP
      have hD : va_D A (ww_S q cs v_rising v_falling v_turned (vp_updL (vp_updL v_totals ((2 * x6) + 1).toNatClampNeg r12) (2 * x6).toNatClampNeg r15) v_before v_after v_keptBytes) := hD
      refine lv_iinc (v := x6 + (-1)) (lv' := [(6, .int (x6 + (-1))), (7, .long (v_totals x6.toNatClampNeg)), (0, .ref (q 0)), (1, .ref sa), (2, .int x2), (3, .int x3), (4, .int x4), (5, .int x5)]) hx hb dX4_fillTotals_130 hl (k := 7) rfl rfl (by decide) rfl (fun ls hl => ?_)
      refine lv_goto (tgt := 70) hx hb dX4_fillTotals_133 (by decide) ?_
      exact st_next hm hst H locs hP hD hS ls (lv_sub hl [2, 3, 4, 5, 6, 7, 0] rfl)
  have L12 : ∀ (x2 : Int32) (x3 : Int32) (x4 : Int32) (v_totals : (Nat → Int64)) (out : (Int32 × (Nat → Int64))), lp (fun x : (Int32 × Int32 × (Nat → Int64)) => M_X4_fillTotals_b12 n x2 v_rising v_falling v_turned sd x.1 x.2.1 x.2.2) n (x3, x4, v_totals) = some out → (∀ (o : (Int32 × (Nat → Int64))), out = o → ∀ (H : Heap) (locs : List Loc), va_P G vwCl (ww_S q cs v_rising v_falling v_turned o.2 v_before v_after v_keptBytes) H → va_D A (ww_S q cs v_rising v_falling v_turned o.2 v_before v_after v_keptBytes) → va_S A s.heap H locs → ∀ (ls : Array Slot), lv_has ls 9 [(3, .int o.1)] → W p l e rmX4_fillTotals s m args below meth c H locs 0 0 Q (F0 m 146 ls [])) → ∀ (H : Heap) (locs : List Loc), va_P G vwCl (ww_S q cs v_rising v_falling v_turned v_totals v_before v_after v_keptBytes) H → va_D A (ww_S q cs v_rising v_falling v_turned v_totals v_before v_after v_keptBytes) → va_S A s.heap H locs → ∀ (ls : Array Slot), lv_has ls 9 [(0, .ref (q 0)), (1, .ref sa), (2, .int x2), (3, .int x3), (4, .int x4)] → W p l e rmX4_fillTotals s m args below meth c H locs 0 0 Q (F0 m 12 ls []) := by
    intro x2 x3 x4 v_totals out hlp hX
    refine lp_ind (fun x => ∀ (H : Heap) (locs : List Loc), va_P G vwCl (ww_S q cs v_rising v_falling v_turned x.2.2 v_before v_after v_keptBytes) H → va_D A (ww_S q cs v_rising v_falling v_turned x.2.2 v_before v_after v_keptBytes) → va_S A s.heap H locs → ∀ (ls : Array Slot), lv_has ls 9 [(0, .ref (q 0)), (1, .ref sa), (2, .int x2), (3, .int x.1), (4, .int x.2.1)] → W p l e rmX4_fillTotals s m args below meth c H locs 0 0 Q (F0 m 12 ls [])) ?_ n (x3, x4, v_totals) hlp
    clear hlp hP hD hS hl
    rintro ⟨x3, x4, v_totals⟩ ob hm hst H locs hP hD hS ls hl
    have hm : M_X4_fillTotals_b12 n x2 v_rising v_falling v_turned sd x3 x4 v_totals = some ob := hm
    have hl : lv_has ls 9 [(0, .ref (q 0)), (1, .ref sa), (2, .int x2), (3, .int x3), (4, .int x4)] := hl
    have hP : va_P G vwCl (ww_S q cs v_rising v_falling v_turned v_totals v_before v_after v_keptBytes) H := hP
    have hD : va_D A (ww_S q cs v_rising v_falling v_turned v_totals v_before v_after v_keptBytes) := hD
    unfold M_X4_fillTotals_b12 at hm
    refine lv_iload hx hb dX4_fillTotals_12 (lv_at hl 4 rfl) ?_
    refine lv_iload_n hx hb dX4_fillTotals_14 rfl (lv_at hl 2 rfl) ?_
    refine lv_icmp_ge (tgt := 146) hx hb dX4_fillTotals_15 (by decide) (fun b1 => ?_) (fun b1 => ?_)
    · have hm := i_t b1 hm
      exact hX _ (st_exit hm hst) H locs hP hD hS ls (lv_sub hl [3] rfl)
    · have hm := i_f b1 hm
      refine lv_aload_n hx hb dX4_fillTotals_18 rfl (lv_at hl 0 rfl) ?_
      refine va_get (D := G) (ci := 3) (v := .ref (q 3)) (C := RX4) (T := TX4) (N := 7) hx hb hts hinX4 hown hK.1 hP 0 rfl rfl 2 (by decide) wd2 (fun _ h9 => h9) rfl dX4_fillTotals_19 ?_
      refine lv_iload hx hb dX4_fillTotals_22 (lv_at hl 4 rfl) ?_
      obtain ⟨h2, hm⟩ := g_in hm
      refine va_iald hx hb hK.1 hP 3 0 rfl rfl h2 dX4_fillTotals_24 ?_
      refine lv_istore (lv' := [(5, .int (v_turned x4.toNatClampNeg)), (0, .ref (q 0)), (1, .ref sa), (2, .int x2), (3, .int x3), (4, .int x4)]) hx hb dX4_fillTotals_25 hl (by decide) rfl (fun ls hl => ?_)
      refine lv_iload hx hb dX4_fillTotals_27 (lv_at hl 5 rfl) ?_
      refine lv_if_eq (tgt := 39) hx hb dX4_fillTotals_29 (by decide) (fun b3 => ?_) (fun b3 => ?_)
      · have hm := i_t b3 hm
        refine lv_aload_n hx hb dX4_fillTotals_39 rfl (lv_at hl 1 rfl) ?_
        refine va_get (D := G) (ci := 3) (v := .ref (q 4)) (C := RX4) (T := TX4) (N := 7) hx hb hts hinX4 hown hK.1 hP 0 rfl rfl 3 (by decide) wd1 (fun _ h9 => h9) rfl dX4_fillTotals_40 ?_
        refine lv_iconst (v := 0) hx hb dX4_fillTotals_43 (by decide) ?_
        refine lv_aload_n hx hb dX4_fillTotals_44 rfl (lv_at hl 2 rfl) ?_
        refine lv_aload_n hx hb dX4_fillTotals_45 rfl (lv_at hl 1 rfl) ?_
        refine va_get (D := G) (ci := 3) (v := .ref (q 4)) (C := RX4) (T := TX4) (N := 7) hx hb hts hinX4 hown hK.1 hP 0 rfl rfl 3 (by decide) wd1 (fun _ h9 => h9) rfl dX4_fillTotals_46 ?_
        refine lv_iconst (v := 0) hx hb dX4_fillTotals_49 (by decide) ?_
        refine va_lald hx hb hK.1 hP 4 1 rfl rfl (by unfold vp_in; decide) dX4_fillTotals_50 ?_
        refine lv_aload_n hx hb dX4_fillTotals_51 rfl (lv_at hl 1 rfl) ?_
        refine va_get (D := G) (ci := 3) (v := .ref (q 1)) (C := RX4) (T := TX4) (N := 7) hx hb hts hinX4 hown hK.1 hP 0 rfl rfl 0 (by decide) wd3 (fun _ h9 => h9) rfl dX4_fillTotals_52 ?_
        refine lv_iload hx hb dX4_fillTotals_55 (lv_at hl 0 rfl) ?_
        obtain ⟨h4, hm⟩ := g_in hm
        refine va_lald hx hb hK.1 hP 1 1 rfl rfl h4 dX4_fillTotals_57 ?_
        obtain ⟨r5, hc_r5, hm⟩ := bs hm
        refine v_X4_fillTotals_merged (j := 0) hx hb hml hown hts hK hA hRo rfl hP hS hl.1 (Nat.le_of_ble_eq_true rfl) dX4_fillTotals_58 hc_r5 (fun H locs hP hS => ?_)
        refine va_last hx hb hK.1 hP hD hS 4 1 rfl rfl (by unfold vp_in; decide) dX4_fillTotals_61 (fun H locs hP hD hS => ?_)
        have hP : va_P G vwCl (ww_S q cs v_rising v_falling v_turned (vp_updL v_totals (0 : Int32).toNatClampNeg r5) v_before v_after v_keptBytes) H := hP
        have hD : va_D A (ww_S q cs v_rising v_falling v_turned (vp_updL v_totals (0 : Int32).toNatClampNeg r5) v_before v_after v_keptBytes) := hD
        refine lv_goto (tgt := 140) hx hb dX4_fillTotals_62 (by decide) ?_
        refine lv_iinc (v := x4 + 1) (lv' := [(4, .int (x4 + 1)), (5, .int (v_turned x4.toNatClampNeg)), (0, .ref (q 0)), (1, .ref sa), (2, .int x2), (3, .int x3)]) hx hb dX4_fillTotals_140 hl (k := 5) rfl rfl (by decide) rfl (fun ls hl => ?_)
        refine lv_goto (tgt := 12) hx hb dX4_fillTotals_143 (by decide) ?_
        exact st_next hm hst H locs hP hD hS ls (lv_sub hl [2, 3, 4, 5, 0] rfl)
      · have hm := i_f b3 hm
        refine lv_aload_n hx hb dX4_fillTotals_32 rfl (lv_at hl 2 rfl) ?_
        obtain ⟨r6, hc_r6, hm⟩ := bs hm
        refine v_X4_fillTotals_isByExclusiveOr (j := 0) hx hb hml hown hts hK hA hRo rfl hP hS hl.1 (Nat.le_of_ble_eq_true rfl) dX4_fillTotals_33 hc_r6 (fun hE7 H locs hP hS => ?_)
        refine lv_if_eq (tgt := 65) hx hb dX4_fillTotals_36 (by decide) (fun b8 => ?_) (fun b8 => ?_)
        · have hm := i_t b8 hm
          refine lv_iload_n hx hb dX4_fillTotals_65 rfl (lv_at hl 4 rfl) ?_
          refine lv_iconst (v := 1) hx hb dX4_fillTotals_66 (by decide) ?_
          refine lv_isub hx hb dX4_fillTotals_67 ?_
          refine lv_istore (lv' := [(6, .int (x3 - 1)), (5, .int (v_turned x4.toNatClampNeg)), (0, .ref (q 0)), (1, .ref sa), (2, .int x2), (3, .int x3), (4, .int x4)]) hx hb dX4_fillTotals_68 hl (by decide) rfl (fun ls hl => ?_)
          obtain ⟨o17, hlp17, hm⟩ := bs hm
          refine L70 x2 x3 x4 (v_turned x4.toNatClampNeg) (x3 - 1) v_totals o17 hlp17 (fun oo ho => ?_) H locs hP hD hS ls (lv_sub hl [2, 3, 4, 5, 6, 1, 0] rfl)
          subst ho
          intro H locs hP hD hS ls hl
          have hl : lv_has ls 9 [(0, .ref (q 0)), (1, .ref sa), (2, .int x2), (3, .int x3), (4, .int x4)] := hl
          have hP : va_P G vwCl (ww_S q cs v_rising v_falling v_turned o17 v_before v_after v_keptBytes) H := hP
          have hD : va_D A (ww_S q cs v_rising v_falling v_turned o17 v_before v_after v_keptBytes) := hD
          refine lv_iload_n hx hb dX4_fillTotals_136 rfl (lv_at hl 3 rfl) ?_
          refine lv_iconst (v := 2) hx hb dX4_fillTotals_137 (by decide) ?_
          refine lv_imul hx hb dX4_fillTotals_138 ?_
          refine lv_istore_n (lv' := [(3, .int (x3 * 2)), (0, .ref (q 0)), (1, .ref sa), (2, .int x2), (4, .int x4)]) hx hb dX4_fillTotals_139 rfl hl (by decide) rfl (fun ls hl => ?_)
          refine lv_iinc (v := x4 + 1) (lv' := [(4, .int (x4 + 1)), (3, .int (x3 * 2)), (0, .ref (q 0)), (1, .ref sa), (2, .int x2)]) hx hb dX4_fillTotals_140 hl (k := 4) rfl rfl (by decide) rfl (fun ls hl => ?_)
          refine lv_goto (tgt := 12) hx hb dX4_fillTotals_143 (by decide) ?_
          exact st_next hm hst H locs hP hD hS ls (lv_sub hl [2, 3, 4, 1, 0] rfl)
        · have hm := i_f b8 hm
          refine lv_aload_n hx hb dX4_fillTotals_39 rfl (lv_at hl 1 rfl) ?_
          refine va_get (D := G) (ci := 3) (v := .ref (q 4)) (C := RX4) (T := TX4) (N := 7) hx hb hts hinX4 hown hK.1 hP 0 rfl rfl 3 (by decide) wd1 (fun _ h9 => h9) rfl dX4_fillTotals_40 ?_
          refine lv_iconst (v := 0) hx hb dX4_fillTotals_43 (by decide) ?_
          refine lv_aload_n hx hb dX4_fillTotals_44 rfl (lv_at hl 2 rfl) ?_
          refine lv_aload_n hx hb dX4_fillTotals_45 rfl (lv_at hl 1 rfl) ?_
          refine va_get (D := G) (ci := 3) (v := .ref (q 4)) (C := RX4) (T := TX4) (N := 7) hx hb hts hinX4 hown hK.1 hP 0 rfl rfl 3 (by decide) wd1 (fun _ h9 => h9) rfl dX4_fillTotals_46 ?_
          refine lv_iconst (v := 0) hx hb dX4_fillTotals_49 (by decide) ?_
          refine va_lald hx hb hK.1 hP 4 1 rfl rfl (by unfold vp_in; decide) dX4_fillTotals_50 ?_
          refine lv_aload_n hx hb dX4_fillTotals_51 rfl (lv_at hl 1 rfl) ?_
          refine va_get (D := G) (ci := 3) (v := .ref (q 1)) (C := RX4) (T := TX4) (N := 7) hx hb hts hinX4 hown hK.1 hP 0 rfl rfl 0 (by decide) wd3 (fun _ h9 => h9) rfl dX4_fillTotals_52 ?_
          refine lv_iload hx hb dX4_fillTotals_55 (lv_at hl 0 rfl) ?_
          obtain ⟨h18, hm⟩ := g_in hm
          refine va_lald hx hb hK.1 hP 1 1 rfl rfl h18 dX4_fillTotals_57 ?_
          obtain ⟨r19, hc_r19, hm⟩ := bs hm
          refine v_X4_fillTotals_merged (j := 0) hx hb hml hown hts hK hA hRo rfl hP hS hl.1 (Nat.le_of_ble_eq_true rfl) dX4_fillTotals_58 hc_r19 (fun H locs hP hS => ?_)
          refine va_last hx hb hK.1 hP hD hS 4 1 rfl rfl (by unfold vp_in; decide) dX4_fillTotals_61 (fun H locs hP hD hS => ?_)
          have hP : va_P G vwCl (ww_S q cs v_rising v_falling v_turned (vp_updL v_totals (0 : Int32).toNatClampNeg r19) v_before v_after v_keptBytes) H := hP
          have hD : va_D A (ww_S q cs v_rising v_falling v_turned (vp_updL v_totals (0 : Int32).toNatClampNeg r19) v_before v_after v_keptBytes) := hD
          refine lv_goto (tgt := 140) hx hb dX4_fillTotals_62 (by decide) ?_
          refine lv_iinc (v := x4 + 1) (lv' := [(4, .int (x4 + 1)), (5, .int (v_turned x4.toNatClampNeg)), (0, .ref (q 0)), (1, .ref sa), (2, .int x2), (3, .int x3)]) hx hb dX4_fillTotals_140 hl (k := 5) rfl rfl (by decide) rfl (fun ls hl => ?_)
          refine lv_goto (tgt := 12) hx hb dX4_fillTotals_143 (by decide) ?_
          exact st_next hm hst H locs hP hD hS ls (lv_sub hl [2, 3, 4, 5, 0] rfl)
  unfold M_X4_fillTotals at hm
  refine lv_aload_n hx hb dX4_fillTotals_0 rfl (lv_at hl 0 rfl) ?_
  refine va_get (D := G) (ci := 3) (v := .ref (q 4)) (C := RX4) (T := TX4) (N := 7) hx hb hts hinX4 hown hK.1 hP 0 rfl rfl 3 (by decide) wd1 (fun _ h9 => h9) rfl dX4_fillTotals_1 ?_
  refine lv_iconst (v := 0) hx hb dX4_fillTotals_4 (by decide) ?_
  refine lv_lconst (v := 0) hx hb dX4_fillTotals_5 (by decide) ?_
  refine va_last hx hb hK.1 hP hD hS 4 1 rfl rfl (by unfold vp_in; decide) dX4_fillTotals_6 (fun H locs hP hD hS => ?_)
  have hP : va_P G vwCl (ww_S q cs v_rising v_falling v_turned (vp_updL v_totals (0 : Int32).toNatClampNeg 0) v_before v_after v_keptBytes) H := hP
  have hD : va_D A (ww_S q cs v_rising v_falling v_turned (vp_updL v_totals (0 : Int32).toNatClampNeg 0) v_before v_after v_keptBytes) := hD
  refine lv_iconst (v := 1) hx hb dX4_fillTotals_7 (by decide) ?_
  refine lv_istore_n (lv' := [(3, .int 1), (0, .ref (q 0)), (1, .ref sa), (2, .int x2)]) hx hb dX4_fillTotals_8 rfl hl (by decide) rfl (fun ls hl => ?_)
  refine lv_iconst (v := 0) hx hb dX4_fillTotals_9 (by decide) ?_
  refine lv_istore (lv' := [(4, .int 0), (3, .int 1), (0, .ref (q 0)), (1, .ref sa), (2, .int x2)]) hx hb dX4_fillTotals_10 hl (by decide) rfl (fun ls hl => ?_)
  obtain ⟨o20, hlp20, hm⟩ := bs hm
  refine L12 x2 (1 : Int32) (0 : Int32) (vp_updL v_totals (0 : Int32).toNatClampNeg 0) o20 hlp20 (fun oo ho => ?_) H locs hP hD hS ls (lv_sub hl [2, 3, 4, 1, 0] rfl)
  subst ho
  intro H locs hP hD hS ls hl
  have hl : lv_has ls 9 [(3, .int o20.1)] := hl
  have hP : va_P G vwCl (ww_S q cs v_rising v_falling v_turned o20.2 v_before v_after v_keptBytes) H := hP
  have hD : va_D A (ww_S q cs v_rising v_falling v_turned o20.2 v_before v_after v_keptBytes) := hD
  refine lv_iload_n hx hb dX4_fillTotals_146 rfl (lv_at hl 0 rfl) ?_
  have hq := Option.some.inj hm
  subst hq; subst hQ
  exact k_iret hx hb hr hlocks hP hD hS rfl trivial dX4_fillTotals_147

theorem hd_X4_bitsThatPass : yX4_bitsThatPass.cls ≠ "java/lang/invoke/MethodHandle" ∧ yX4_bitsThatPass.cls ≠ "java/lang/invoke/VarHandle" ∧ (parseMethodDescriptor yX4_bitsThatPass.desc).map (fun d => d.parameters.length) = some 2 := by decide +kernel

def M_X4_bitsThatPass_b18 (n : Nat) (x2 : Int32) (x3 : Int64) (x5 : Int64) (v_totals : (Nat → Int64)) (x7 : Int32) : Option (Int32 ⊕ (Unit ⊕ Int32)) :=
  if x2 ≤ x7 then (some (.inr (.inl ()))) else (if x7 < 0 ∨ 64 ≤ x7.toNatClampNeg then none else if (v_totals x7.toNatClampNeg) = x5 then (some (.inr (.inr (2 * x7)))) else (if x7 < 0 ∨ 64 ≤ x7.toNatClampNeg then none else if (v_totals x7.toNatClampNeg) = x3 then (some (.inr (.inr ((2 * x7) + 1)))) else (some (.inl (x7 + 1)))))

def M_X4_bitsThatPass (n : Nat) (x1 : Int32) (x2 : Int32) (v_rising : (Nat → Int64)) (v_falling : (Nat → Int64)) (v_totals : (Nat → Int64)) : Option Int32 :=
  if x1 < 0 ∨ 64 ≤ x1.toNatClampNeg then none else if x1 < 0 ∨ 64 ≤ x1.toNatClampNeg then none else (lp (fun x : Int32 => M_X4_bitsThatPass_b18 n x2 (v_rising x1.toNatClampNeg) (v_falling x1.toNatClampNeg) v_totals x) n (0 : Int32)).bind (Sum.elim (fun o8 => some (-1)) (fun r => some r))

abbrev rmX4_bitsThatPass : Room := { frames := 0, cells := 0, slots := 0, locals := 0 }
set_option maxHeartbeats 4000000 in
set_option maxRecDepth 100000 in
theorem c_X4_bitsThatPass (l : Launch) (G : va_G) (cs : CS) (q : Nat → Nat) (sz : Nat) (v_rising : (Nat → Int64)) (v_falling : (Nat → Int64)) (v_turned : (Nat → Int32)) (v_totals : (Nat → Int64)) (v_before : (Nat → Int32)) (v_after : (Nat → Int32)) (v_keptBytes : Int32)   (x1 : Int32) (x2 : Int32) (n : Nat) (res : Int32) (hm : M_X4_bitsThatPass n x1 x2 v_rising v_falling v_totals = some res) : Met l yX4_bitsThatPass wsX4_bitsThatPass rmX4_bitsThatPass (va_Pc [.ref (q 0), .int x1, .int x2] (PreW G cs sz (ww_S q cs v_rising v_falling v_turned v_totals v_before v_after v_keptBytes) RN)) (QI G res True (ww_S q cs v_rising v_falling v_turned v_totals v_before v_after v_keptBytes) (va_A (ww_S q cs v_rising v_falling v_turned v_totals v_before v_after v_keptBytes) sz)) 0 0 (va_A (ww_S q cs v_rising v_falling v_turned v_totals v_before v_after v_keptBytes) sz) := by
  refine k_enter (Qf := fun A => QI G res True (ww_S q cs v_rising v_falling v_turned v_totals v_before v_after v_keptBytes) A) (cc := cX4_bitsThatPass) (maxL := 8) (ret := (some .int)) (plainFor_of_name (by decide)) rfl (Nat.le_of_ble_eq_true rfl) ?_
  intro p e s m args below meth c A Q ls H locs hx hb hr hml hown hts hlocks hname hK hA hRo hP hD hS hQ hl
  have hl : lv_has ls 8 [(0, .ref (q 0)), (1, .int x1), (2, .int x2)] := hl
  have wd1 := hts (.fieldLink RX4 9 "SumSmith$Slips" "rising" "[J") (List.mem_of_getElem? (i := 1) rfl)
  have wd2 := hts (.fieldLink RX4 15 "SumSmith$Slips" "falling" "[J") (List.mem_of_getElem? (i := 2) rfl)
  have wd3 := hts (.fieldLink RX4 22 "SumSmith$Slips" "totals" "[J") (List.mem_of_getElem? (i := 3) rfl)
  have hinX4 : ∀ w ∈ wsX40, w ∈ wsX4_bitsThatPass := fun w h => List.mem_cons_of_mem _ (List.mem_append_right _ h)
  have L18 : ∀ (x2 : Int32) (x3 : Int64) (x5 : Int64) (x7 : Int32) (out : (Unit ⊕ Int32)), lp (fun x : Int32 => M_X4_bitsThatPass_b18 n x2 x3 x5 v_totals x) n x7 = some out → (∀ r, out = .inr r → r = res) → (∀ (o : Unit), out = .inl o → ∀ (H : Heap) (locs : List Loc), va_P G vwCl (ww_S q cs v_rising v_falling v_turned v_totals v_before v_after v_keptBytes) H → va_D A (ww_S q cs v_rising v_falling v_turned v_totals v_before v_after v_keptBytes) → va_S A s.heap H locs → ∀ (ls : Array Slot), lv_has ls 8 [] → W p l e rmX4_bitsThatPass s m args below meth c H locs 0 0 Q (F0 m 67 ls [])) → ∀ (H : Heap) (locs : List Loc), va_P G vwCl (ww_S q cs v_rising v_falling v_turned v_totals v_before v_after v_keptBytes) H → va_D A (ww_S q cs v_rising v_falling v_turned v_totals v_before v_after v_keptBytes) → va_S A s.heap H locs → ∀ (ls : Array Slot), lv_has ls 8 [(0, .ref (q 0)), (2, .int x2), (3, .long x3), (5, .long x5), (7, .int x7)] → W p l e rmX4_bitsThatPass s m args below meth c H locs 0 0 Q (F0 m 18 ls []) := by
    intro x2 x3 x5 x7 out hlp hret hX
    refine lp_ind (fun x => ∀ (H : Heap) (locs : List Loc), va_P G vwCl (ww_S q cs v_rising v_falling v_turned v_totals v_before v_after v_keptBytes) H → va_D A (ww_S q cs v_rising v_falling v_turned v_totals v_before v_after v_keptBytes) → va_S A s.heap H locs → ∀ (ls : Array Slot), lv_has ls 8 [(0, .ref (q 0)), (2, .int x2), (3, .long x3), (5, .long x5), (7, .int x)] → W p l e rmX4_bitsThatPass s m args below meth c H locs 0 0 Q (F0 m 18 ls [])) ?_ n x7 hlp
    clear hlp hP hD hS hl
    intro x7 ob hm hst H locs hP hD hS ls hl
    have hm : M_X4_bitsThatPass_b18 n x2 x3 x5 v_totals x7 = some ob := hm
    have hl : lv_has ls 8 [(0, .ref (q 0)), (2, .int x2), (3, .long x3), (5, .long x5), (7, .int x7)] := hl
    have hP : va_P G vwCl (ww_S q cs v_rising v_falling v_turned v_totals v_before v_after v_keptBytes) H := hP
    have hD : va_D A (ww_S q cs v_rising v_falling v_turned v_totals v_before v_after v_keptBytes) := hD
    unfold M_X4_bitsThatPass_b18 at hm
    refine lv_iload hx hb dX4_bitsThatPass_18 (lv_at hl 4 rfl) ?_
    refine lv_iload_n hx hb dX4_bitsThatPass_20 rfl (lv_at hl 1 rfl) ?_
    refine lv_icmp_ge (tgt := 67) hx hb dX4_bitsThatPass_21 (by decide) (fun b3 => ?_) (fun b3 => ?_)
    · have hm := i_t b3 hm
      exact hX _ (st_exit hm hst) H locs hP hD hS ls (lv_sub hl [] rfl)
    · have hm := i_f b3 hm
      refine lv_aload_n hx hb dX4_bitsThatPass_24 rfl (lv_at hl 0 rfl) ?_
      refine va_get (D := G) (ci := 3) (v := .ref (q 4)) (C := RX4) (T := TX4) (N := 7) hx hb hts hinX4 hown hK.1 hP 0 rfl rfl 3 (by decide) wd3 (fun _ h9 => h9) rfl dX4_bitsThatPass_25 ?_
      refine lv_iload hx hb dX4_bitsThatPass_28 (lv_at hl 4 rfl) ?_
      obtain ⟨h4, hm⟩ := g_in hm
      refine va_lald hx hb hK.1 hP 4 1 rfl rfl h4 dX4_bitsThatPass_30 ?_
      refine lv_lload hx hb dX4_bitsThatPass_31 (lv_at hl 3 rfl) ?_
      refine W.lcmp hx hb dX4_bitsThatPass_33 ?_
      refine lv_if_ne (tgt := 42) hx hb dX4_bitsThatPass_34 (by decide) (fun b5 => ?_) (fun b5 => ?_)
      · have b5 := fun h9 => b5 ((lg_cmp_eq _ _).mpr h9)
        have hm := i_f b5 hm
        refine lv_aload_n hx hb dX4_bitsThatPass_42 rfl (lv_at hl 0 rfl) ?_
        refine va_get (D := G) (ci := 3) (v := .ref (q 4)) (C := RX4) (T := TX4) (N := 7) hx hb hts hinX4 hown hK.1 hP 0 rfl rfl 3 (by decide) wd3 (fun _ h9 => h9) rfl dX4_bitsThatPass_43 ?_
        refine lv_iload hx hb dX4_bitsThatPass_46 (lv_at hl 4 rfl) ?_
        obtain ⟨h6, hm⟩ := g_in hm
        refine va_lald hx hb hK.1 hP 4 1 rfl rfl h6 dX4_bitsThatPass_48 ?_
        refine lv_lload_n hx hb dX4_bitsThatPass_49 rfl (lv_at hl 2 rfl) ?_
        refine W.lcmp hx hb dX4_bitsThatPass_50 ?_
        refine lv_if_ne (tgt := 61) hx hb dX4_bitsThatPass_51 (by decide) (fun b7 => ?_) (fun b7 => ?_)
        · have b7 := fun h9 => b7 ((lg_cmp_eq _ _).mpr h9)
          have hm := i_f b7 hm
          refine lv_iinc (v := x7 + 1) (lv' := [(7, .int (x7 + 1)), (0, .ref (q 0)), (2, .int x2), (3, .long x3), (5, .long x5)]) hx hb dX4_bitsThatPass_61 hl (k := 4) rfl rfl (by decide) rfl (fun ls hl => ?_)
          refine lv_goto (tgt := 18) hx hb dX4_bitsThatPass_64 (by decide) ?_
          exact st_next hm hst H locs hP hD hS ls (lv_sub hl [1, 2, 3, 4, 0] rfl)
        · have b7 := (lg_cmp_eq _ _).mp b7
          have hm := i_t b7 hm
          refine lv_iconst (v := 2) hx hb dX4_bitsThatPass_54 (by decide) ?_
          refine lv_iload hx hb dX4_bitsThatPass_55 (lv_at hl 4 rfl) ?_
          refine lv_imul hx hb dX4_bitsThatPass_57 ?_
          refine lv_iconst (v := 1) hx hb dX4_bitsThatPass_58 (by decide) ?_
          refine lv_iadd hx hb dX4_bitsThatPass_59 ?_
          have hq := hret _ (st_exit hm hst)
          subst hq; subst hQ
          exact k_iret hx hb hr hlocks hP hD hS rfl trivial dX4_bitsThatPass_60
      · have b5 := (lg_cmp_eq _ _).mp b5
        have hm := i_t b5 hm
        refine lv_iconst (v := 2) hx hb dX4_bitsThatPass_37 (by decide) ?_
        refine lv_iload hx hb dX4_bitsThatPass_38 (lv_at hl 4 rfl) ?_
        refine lv_imul hx hb dX4_bitsThatPass_40 ?_
        have hq := hret _ (st_exit hm hst)
        subst hq; subst hQ
        exact k_iret hx hb hr hlocks hP hD hS rfl trivial dX4_bitsThatPass_41
  unfold M_X4_bitsThatPass at hm
  refine lv_aload_n hx hb dX4_bitsThatPass_0 rfl (lv_at hl 0 rfl) ?_
  refine va_get (D := G) (ci := 3) (v := .ref (q 1)) (C := RX4) (T := TX4) (N := 7) hx hb hts hinX4 hown hK.1 hP 0 rfl rfl 0 (by decide) wd1 (fun _ h9 => h9) rfl dX4_bitsThatPass_1 ?_
  refine lv_iload_n hx hb dX4_bitsThatPass_4 rfl (lv_at hl 1 rfl) ?_
  obtain ⟨h1, hm⟩ := g_in hm
  refine va_lald hx hb hK.1 hP 1 1 rfl rfl h1 dX4_bitsThatPass_5 ?_
  refine lv_lstore_n (lv' := [(3, .long (v_rising x1.toNatClampNeg)), (0, .ref (q 0)), (1, .int x1), (2, .int x2)]) hx hb dX4_bitsThatPass_6 rfl hl (by decide) rfl (fun ls hl => ?_)
  refine lv_aload_n hx hb dX4_bitsThatPass_7 rfl (lv_at hl 1 rfl) ?_
  refine va_get (D := G) (ci := 3) (v := .ref (q 2)) (C := RX4) (T := TX4) (N := 7) hx hb hts hinX4 hown hK.1 hP 0 rfl rfl 1 (by decide) wd2 (fun _ h9 => h9) rfl dX4_bitsThatPass_8 ?_
  refine lv_iload_n hx hb dX4_bitsThatPass_11 rfl (lv_at hl 2 rfl) ?_
  obtain ⟨h2, hm⟩ := g_in hm
  refine va_lald hx hb hK.1 hP 2 1 rfl rfl h2 dX4_bitsThatPass_12 ?_
  refine lv_lstore (lv' := [(5, .long (v_falling x1.toNatClampNeg)), (3, .long (v_rising x1.toNatClampNeg)), (0, .ref (q 0)), (1, .int x1), (2, .int x2)]) hx hb dX4_bitsThatPass_13 hl (by decide) rfl (fun ls hl => ?_)
  refine lv_iconst (v := 0) hx hb dX4_bitsThatPass_15 (by decide) ?_
  refine lv_istore (lv' := [(7, .int 0), (5, .long (v_falling x1.toNatClampNeg)), (3, .long (v_rising x1.toNatClampNeg)), (0, .ref (q 0)), (1, .int x1), (2, .int x2)]) hx hb dX4_bitsThatPass_16 hl (by decide) rfl (fun ls hl => ?_)
  obtain ⟨u8, hlp8, hm⟩ := bs hm
  refine L18 x2 (v_rising x1.toNatClampNeg) (v_falling x1.toNatClampNeg) (0 : Int32) u8 hlp8 (fun r h => Option.some.inj (se_r h hm)) (fun o8 ho => ?_) H locs hP hD hS ls (lv_sub hl [3, 5, 2, 1, 0] rfl)
  have hm := se_l ho hm
  intro H locs hP hD hS ls hl
  have hl : lv_has ls 8 [] := hl
  have hP : va_P G vwCl (ww_S q cs v_rising v_falling v_turned v_totals v_before v_after v_keptBytes) H := hP
  have hD : va_D A (ww_S q cs v_rising v_falling v_turned v_totals v_before v_after v_keptBytes) := hD
  refine lv_iconst (v := (-1)) hx hb dX4_bitsThatPass_67 (by decide) ?_
  have hq := Option.some.inj hm
  subst hq; subst hQ
  exact k_iret hx hb hr hlocks hP hD hS rfl trivial dX4_bitsThatPass_68

theorem hd_X4_keepZeros : yX4_keepZeros.cls ≠ "java/lang/invoke/MethodHandle" ∧ yX4_keepZeros.cls ≠ "java/lang/invoke/VarHandle" ∧ (parseMethodDescriptor yX4_keepZeros.desc).map (fun d => d.parameters.length) = some 1 := by decide +kernel

def M_X4_keepZeros (n : Nat) (x1 : Int32) (v_before : (Nat → Int32)) (v_after : (Nat → Int32)) (v_keptBytes : Int32) : Option ((Nat → Int32) × (Nat → Int32) × Int32) :=
  (M_J7_fill_53178 n (0 : Int32) v_before 8).bind fun r1 => (M_J7_fill_53178 n (0 : Int32) v_after 8).bind fun r2 => some (r1, r2, x1)

abbrev rmX4_keepZeros : Room := { frames := 1, cells := 0, slots := 0, locals := 23 }
set_option maxHeartbeats 4000000 in
set_option maxRecDepth 100000 in
theorem c_X4_keepZeros (l : Launch) (G : va_G) (cs : CS) (q : Nat → Nat) (sz : Nat) (v_rising : (Nat → Int64)) (v_falling : (Nat → Int64)) (v_turned : (Nat → Int32)) (v_totals : (Nat → Int64)) (v_before : (Nat → Int32)) (v_after : (Nat → Int32)) (v_keptBytes : Int32)   (x1 : Int32) (n : Nat) (res : ((Nat → Int32) × (Nat → Int32) × Int32)) (hm : M_X4_keepZeros n x1 v_before v_after v_keptBytes = some res) : Met l yX4_keepZeros wsX4_keepZeros rmX4_keepZeros (va_Pc [.ref (q 0), .int x1] (PreW G cs sz (ww_S q cs v_rising v_falling v_turned v_totals v_before v_after v_keptBytes) RN)) (QV G (ww_S q cs v_rising v_falling v_turned v_totals res.1 res.2.1 res.2.2) (va_A (ww_S q cs v_rising v_falling v_turned v_totals v_before v_after v_keptBytes) sz)) 0 0 (va_A (ww_S q cs v_rising v_falling v_turned v_totals v_before v_after v_keptBytes) sz) := by
  refine k_enter (Qf := fun A => QV G (ww_S q cs v_rising v_falling v_turned v_totals res.1 res.2.1 res.2.2) A) (cc := cX4_keepZeros) (maxL := 2) (ret := none) (plainFor_of_name (by decide)) rfl (Nat.le_of_ble_eq_true rfl) ?_
  intro p e s m args below meth c A Q ls H locs hx hb hr hml hown hts hlocks hname hK hA hRo hP hD hS hQ hl
  have hl : lv_has ls 2 [(0, .ref (q 0)), (1, .int x1)] := hl
  have wd1 := hts (.fieldLink RX4 25 "SumSmith$Slips" "before" "[I") (List.mem_of_getElem? (i := 1) rfl)
  have wd2 := hts (.fieldLink RX4 28 "SumSmith$Slips" "after" "[I") (List.mem_of_getElem? (i := 2) rfl)
  have wd3 := hts (.fieldLink RX4 31 "SumSmith$Slips" "keptBytes" "I") (List.mem_of_getElem? (i := 3) rfl)
  have hinX4 : ∀ w ∈ wsX40, w ∈ wsX4_keepZeros := fun w h => List.mem_cons_of_mem _ (List.mem_append_right _ h)
  unfold M_X4_keepZeros at hm
  refine lv_aload_n hx hb dX4_keepZeros_0 rfl (lv_at hl 0 rfl) ?_
  refine va_get (D := G) (ci := 3) (v := .ref (q 5)) (C := RX4) (T := TX4) (N := 7) hx hb hts hinX4 hown hK.1 hP 0 rfl rfl 4 (by decide) wd1 (fun _ h9 => h9) rfl dX4_keepZeros_1 ?_
  refine lv_iconst (v := 0) hx hb dX4_keepZeros_4 (by decide) ?_
  obtain ⟨r1, hc_r1, hm⟩ := bs hm
  refine k_callvj (wr := [((q 0), .inr (3, [.ref (q 1), .ref (q 2), .ref (q 3), .ref (q 4), .ref (q 5), .ref (q 6), .int v_keptBytes])), ((q 1), .inl (cs.2.1, 64, .inr (.inl v_rising))), ((q 2), .inl (cs.2.1, 64, .inr (.inl v_falling))), ((q 3), .inl (cs.1, 8, .inl v_turned)), ((q 4), .inl (cs.2.1, 64, .inr (.inl v_totals))), ((q 6), .inl (cs.1, 8, .inl v_after))]) (w2 := (ww_S q cs v_rising v_falling v_turned v_totals r1 v_after v_keptBytes)) (va_runS (As := [.ref (q 5), .int 0]) (rest := []) ⟨hx, hb, hml, hown, hts⟩ (c_J7_fill_53178 l G cs H.size v_before (q 5) 8 (0 : Int32) n r1 hc_r1) (va_cwS 2 hts gX4_keepZeros_J7_fill_53178 rfl rfl rfl hd_J7_fill_53178 ⟨Nat.le_of_ble_eq_true rfl, Nat.le_of_ble_eq_true rfl⟩) ⟨pre_blind, pre_w hK RO.nil (P_by hP [5] rfl) (hD.sub [5] (by decide) rfl) (va_free hD hS hA [5] rfl)⟩ rfl rfl hl.1 rfl (lv_room (Nat.le_of_ble_eq_true rfl)) dX4_keepZeros_5 ⟨Nat.zero_le _, Nat.zero_le _⟩) hP hD hS hA [5] [0, 1, 2, 3, 4, 6] [0, 1, 2, 3, 4, 6, 5] rfl rfl (by decide) (by decide) rfl (by decide) (fun H locs hP hD hS => ?_)
  have hP : va_P G vwCl (ww_S q cs v_rising v_falling v_turned v_totals r1 v_after v_keptBytes) H := hP
  have hD : va_D A (ww_S q cs v_rising v_falling v_turned v_totals r1 v_after v_keptBytes) := hD
  refine lv_aload_n hx hb dX4_keepZeros_8 rfl (lv_at hl 0 rfl) ?_
  refine va_get (D := G) (ci := 3) (v := .ref (q 6)) (C := RX4) (T := TX4) (N := 7) hx hb hts hinX4 hown hK.1 hP 0 rfl rfl 5 (by decide) wd2 (fun _ h9 => h9) rfl dX4_keepZeros_9 ?_
  refine lv_iconst (v := 0) hx hb dX4_keepZeros_12 (by decide) ?_
  obtain ⟨r2, hc_r2, hm⟩ := bs hm
  refine k_callvj (wr := [((q 0), .inr (3, [.ref (q 1), .ref (q 2), .ref (q 3), .ref (q 4), .ref (q 5), .ref (q 6), .int v_keptBytes])), ((q 1), .inl (cs.2.1, 64, .inr (.inl v_rising))), ((q 2), .inl (cs.2.1, 64, .inr (.inl v_falling))), ((q 3), .inl (cs.1, 8, .inl v_turned)), ((q 4), .inl (cs.2.1, 64, .inr (.inl v_totals))), ((q 5), .inl (cs.1, 8, .inl r1))]) (w2 := (ww_S q cs v_rising v_falling v_turned v_totals r1 r2 v_keptBytes)) (va_runS (As := [.ref (q 6), .int 0]) (rest := []) ⟨hx, hb, hml, hown, hts⟩ (c_J7_fill_53178 l G cs H.size v_after (q 6) 8 (0 : Int32) n r2 hc_r2) (va_cwS 2 hts gX4_keepZeros_J7_fill_53178 rfl rfl rfl hd_J7_fill_53178 ⟨Nat.le_of_ble_eq_true rfl, Nat.le_of_ble_eq_true rfl⟩) ⟨pre_blind, pre_w hK RO.nil (P_by hP [6] rfl) (hD.sub [6] (by decide) rfl) (va_free hD hS hA [6] rfl)⟩ rfl rfl hl.1 rfl (lv_room (Nat.le_of_ble_eq_true rfl)) dX4_keepZeros_13 ⟨Nat.zero_le _, Nat.zero_le _⟩) hP hD hS hA [6] [0, 1, 2, 3, 4, 5] [0, 1, 2, 3, 4, 5, 6] rfl rfl (by decide) (by decide) rfl (by decide) (fun H locs hP hD hS => ?_)
  have hP : va_P G vwCl (ww_S q cs v_rising v_falling v_turned v_totals r1 r2 v_keptBytes) H := hP
  have hD : va_D A (ww_S q cs v_rising v_falling v_turned v_totals r1 r2 v_keptBytes) := hD
  refine lv_aload_n hx hb dX4_keepZeros_16 rfl (lv_at hl 0 rfl) ?_
  refine lv_iload_n hx hb dX4_keepZeros_17 rfl (lv_at hl 1 rfl) ?_
  refine va_put (D := G) (ci := 3) (v := .int x1) (ty := .int) (C := RX4) (T := TX4) (N := 7) hx hb hts hinX4 tyX4 tyX4_ok nmX4 hown hK.1 hP hD hS 0 rfl rfl 6 (by decide) wd3 (fun _ h9 => h9) rfl (by decide +kernel) rfl rfl (Nat.le_of_ble_eq_true rfl) dX4_keepZeros_18 (fun H locs hP hD hS => ?_)
  have hP : va_P G vwCl (ww_S q cs v_rising v_falling v_turned v_totals r1 r2 x1) H := hP
  have hD : va_D A (ww_S q cs v_rising v_falling v_turned v_totals r1 r2 x1) := hD
  have hq := Option.some.inj hm
  subst hq; subst hQ
  exact k_vret hx hb hr hlocks hP hD hS dX4_keepZeros_21

theorem hd_X4_keepTurned : yX4_keepTurned.cls ≠ "java/lang/invoke/MethodHandle" ∧ yX4_keepTurned.cls ≠ "java/lang/invoke/VarHandle" ∧ (parseMethodDescriptor yX4_keepTurned.desc).map (fun d => d.parameters.length) = some 3 := by decide +kernel

def M_X4_keepTurned_b8 (n : Nat) (x2 : Int32) (x3 : Int32) (v_turned : (Nat → Int32)) (x4 : Int32) (v_before : (Nat → Int32)) (v_after : (Nat → Int32)) : Option ((Int32 × (Nat → Int32) × (Nat → Int32)) ⊕ ((Nat → Int32) × (Nat → Int32))) :=
  if x2 ≤ x4 then (some (.inr (v_before, v_after))) else (if x4 < 0 ∨ 8 ≤ x4.toNatClampNeg then none else if x4 < 0 ∨ 8 ≤ x4.toNatClampNeg then none else if ((x3 >>> (((x2 - 1) - x4) &&& 31)) &&& 1) = 1 then (if (M_X11_byteOfPlace (v_turned x4.toNatClampNeg)) < 0 ∨ 8 ≤ (M_X11_byteOfPlace (v_turned x4.toNatClampNeg)).toNatClampNeg then none else if (M_X11_byteOfPlace (v_turned x4.toNatClampNeg)) < 0 ∨ 8 ≤ (M_X11_byteOfPlace (v_turned x4.toNatClampNeg)).toNatClampNeg then none else some (.inl (x4 + 1, (upd v_before (M_X11_byteOfPlace (v_turned x4.toNatClampNeg)).toNatClampNeg ((v_before (M_X11_byteOfPlace (v_turned x4.toNatClampNeg)).toNatClampNeg) ||| (M_X11_bitOfPlace (v_turned x4.toNatClampNeg)))), v_after))) else (if (M_X11_byteOfPlace (v_turned x4.toNatClampNeg)) < 0 ∨ 8 ≤ (M_X11_byteOfPlace (v_turned x4.toNatClampNeg)).toNatClampNeg then none else if (M_X11_byteOfPlace (v_turned x4.toNatClampNeg)) < 0 ∨ 8 ≤ (M_X11_byteOfPlace (v_turned x4.toNatClampNeg)).toNatClampNeg then none else some (.inl (x4 + 1, v_before, (upd v_after (M_X11_byteOfPlace (v_turned x4.toNatClampNeg)).toNatClampNeg ((v_after (M_X11_byteOfPlace (v_turned x4.toNatClampNeg)).toNatClampNeg) ||| (M_X11_bitOfPlace (v_turned x4.toNatClampNeg))))))))

def M_X4_keepTurned (n : Nat) (x1 : Int32) (x2 : Int32) (x3 : Int32) (v_turned : (Nat → Int32)) (v_before : (Nat → Int32)) (v_after : (Nat → Int32)) (v_keptBytes : Int32) : Option ((Nat → Int32) × (Nat → Int32) × Int32) :=
  (M_X4_keepZeros n x1 v_before v_after v_keptBytes).bind fun r1 => (lp (fun x : (Int32 × (Nat → Int32) × (Nat → Int32)) => M_X4_keepTurned_b8 n x2 x3 v_turned x.1 x.2.1 x.2.2) n ((0 : Int32), r1.1, r1.2.1)).bind fun o12 => some (o12.1, o12.2, r1.2.2)

abbrev rmX4_keepTurned : Room := { frames := 2, cells := 0, slots := 0, locals := 44 }
set_option maxHeartbeats 4000000 in
set_option maxRecDepth 100000 in
theorem c_X4_keepTurned (l : Launch) (G : va_G) (cs : CS) (q : Nat → Nat) (sz : Nat) (v_rising : (Nat → Int64)) (v_falling : (Nat → Int64)) (v_turned : (Nat → Int32)) (v_totals : (Nat → Int64)) (v_before : (Nat → Int32)) (v_after : (Nat → Int32)) (v_keptBytes : Int32)   (x1 : Int32) (x2 : Int32) (x3 : Int32) (n : Nat) (res : ((Nat → Int32) × (Nat → Int32) × Int32)) (hm : M_X4_keepTurned n x1 x2 x3 v_turned v_before v_after v_keptBytes = some res) : Met l yX4_keepTurned wsX4_keepTurned rmX4_keepTurned (va_Pc [.ref (q 0), .int x1, .int x2, .int x3] (PreW G cs sz (ww_S q cs v_rising v_falling v_turned v_totals v_before v_after v_keptBytes) RN)) (QV G (ww_S q cs v_rising v_falling v_turned v_totals res.1 res.2.1 res.2.2) (va_A (ww_S q cs v_rising v_falling v_turned v_totals v_before v_after v_keptBytes) sz)) 0 0 (va_A (ww_S q cs v_rising v_falling v_turned v_totals v_before v_after v_keptBytes) sz) := by
  refine k_enter (Qf := fun A => QV G (ww_S q cs v_rising v_falling v_turned v_totals res.1 res.2.1 res.2.2) A) (cc := cX4_keepTurned) (maxL := 7) (ret := none) (plainFor_of_name (by decide)) rfl (Nat.le_of_ble_eq_true rfl) ?_
  intro p e s m args below meth c A Q ls H locs hx hb hr hml hown hts hlocks hname hK hA hRo hP hD hS hQ hl
  have hl : lv_has ls 7 [(0, .ref (q 0)), (1, .int x1), (2, .int x2), (3, .int x3)] := hl
  have wd1 := hts (.fieldLink RX4 18 "SumSmith$Slips" "turned" "[I") (List.mem_of_getElem? (i := 1) rfl)
  have wd15 := hts (.initialized RX11) (List.mem_of_getElem? (i := 15) rfl)
  have wd14 := hts (.static yX11_byteOfPlace) (List.mem_of_getElem? (i := 14) rfl)
  have wd17 := hts (.static yX11_bitOfPlace) (List.mem_of_getElem? (i := 17) rfl)
  have wd3 := hts (.fieldLink RX4 28 "SumSmith$Slips" "after" "[I") (List.mem_of_getElem? (i := 3) rfl)
  have wd2 := hts (.fieldLink RX4 25 "SumSmith$Slips" "before" "[I") (List.mem_of_getElem? (i := 2) rfl)
  have hinX4 : ∀ w ∈ wsX40, w ∈ wsX4_keepTurned := fun w h => List.mem_cons_of_mem _ (List.mem_append_right _ h)
  have L8 : ∀ (x2 : Int32) (x3 : Int32) (x4 : Int32) (v_before : (Nat → Int32)) (v_after : (Nat → Int32)) (v_keptBytes : Int32) (out : ((Nat → Int32) × (Nat → Int32))), lp (fun x : (Int32 × (Nat → Int32) × (Nat → Int32)) => M_X4_keepTurned_b8 n x2 x3 v_turned x.1 x.2.1 x.2.2) n (x4, v_before, v_after) = some out → (∀ (o : ((Nat → Int32) × (Nat → Int32))), out = o → ∀ (H : Heap) (locs : List Loc), va_P G vwCl (ww_S q cs v_rising v_falling v_turned v_totals o.1 o.2 v_keptBytes) H → va_D A (ww_S q cs v_rising v_falling v_turned v_totals o.1 o.2 v_keptBytes) → va_S A s.heap H locs → ∀ (ls : Array Slot), lv_has ls 7 [] → W p l e rmX4_keepTurned s m args below meth c H locs 0 0 Q (F0 m 85 ls [])) → ∀ (H : Heap) (locs : List Loc), va_P G vwCl (ww_S q cs v_rising v_falling v_turned v_totals v_before v_after v_keptBytes) H → va_D A (ww_S q cs v_rising v_falling v_turned v_totals v_before v_after v_keptBytes) → va_S A s.heap H locs → ∀ (ls : Array Slot), lv_has ls 7 [(0, .ref (q 0)), (2, .int x2), (3, .int x3), (4, .int x4)] → W p l e rmX4_keepTurned s m args below meth c H locs 0 0 Q (F0 m 8 ls []) := by
    intro x2 x3 x4 v_before v_after v_keptBytes out hlp hX
    refine lp_ind (fun x => ∀ (H : Heap) (locs : List Loc), va_P G vwCl (ww_S q cs v_rising v_falling v_turned v_totals x.2.1 x.2.2 v_keptBytes) H → va_D A (ww_S q cs v_rising v_falling v_turned v_totals x.2.1 x.2.2 v_keptBytes) → va_S A s.heap H locs → ∀ (ls : Array Slot), lv_has ls 7 [(0, .ref (q 0)), (2, .int x2), (3, .int x3), (4, .int x.1)] → W p l e rmX4_keepTurned s m args below meth c H locs 0 0 Q (F0 m 8 ls [])) ?_ n (x4, v_before, v_after) hlp
    clear hlp hP hD hS hl
    rintro ⟨x4, v_before, v_after⟩ ob hm hst H locs hP hD hS ls hl
    have hm : M_X4_keepTurned_b8 n x2 x3 v_turned x4 v_before v_after = some ob := hm
    have hl : lv_has ls 7 [(0, .ref (q 0)), (2, .int x2), (3, .int x3), (4, .int x4)] := hl
    have hP : va_P G vwCl (ww_S q cs v_rising v_falling v_turned v_totals v_before v_after v_keptBytes) H := hP
    have hD : va_D A (ww_S q cs v_rising v_falling v_turned v_totals v_before v_after v_keptBytes) := hD
    unfold M_X4_keepTurned_b8 at hm
    refine lv_iload hx hb dX4_keepTurned_8 (lv_at hl 3 rfl) ?_
    refine lv_iload_n hx hb dX4_keepTurned_10 rfl (lv_at hl 1 rfl) ?_
    refine lv_icmp_ge (tgt := 85) hx hb dX4_keepTurned_11 (by decide) (fun b2 => ?_) (fun b2 => ?_)
    · have hm := i_t b2 hm
      exact hX _ (st_exit hm hst) H locs hP hD hS ls (lv_sub hl [] rfl)
    · have hm := i_f b2 hm
      refine lv_aload_n hx hb dX4_keepTurned_14 rfl (lv_at hl 0 rfl) ?_
      refine va_get (D := G) (ci := 3) (v := .ref (q 3)) (C := RX4) (T := TX4) (N := 7) hx hb hts hinX4 hown hK.1 hP 0 rfl rfl 2 (by decide) wd1 (fun _ h9 => h9) rfl dX4_keepTurned_15 ?_
      refine lv_iload hx hb dX4_keepTurned_18 (lv_at hl 3 rfl) ?_
      obtain ⟨h3, hm⟩ := g_in hm
      refine va_iald hx hb hK.1 hP 3 0 rfl rfl h3 dX4_keepTurned_20 ?_
      refine k_calli0 (va_runSN (As := [.int (v_turned x4.toNatClampNeg)]) (rest := []) ⟨hx, hb, hml, hown, hts⟩ (c_X11_byteOfPlace l G cs H.size    (v_turned x4.toNatClampNeg) _ rfl) ⟨va_cnB 1 hts gX4_keepTurned_X11_byteOfPlace_n50 rfl rfl rfl (hK.2.1 _ (List.mem_of_getElem? (i := 8) rfl)) wd15 hd_X11_byteOfPlace ⟨Nat.le_of_ble_eq_true rfl, Nat.le_of_ble_eq_true rfl⟩, wd14, trivial⟩ ⟨pre_blind, pre_w hK RO.nil P0 D0 (va_new0 hS hA)⟩ rfl rfl hl.1 rfl (lv_room (Nat.le_of_ble_eq_true rfl)) dX4_keepTurned_21 ⟨Nat.zero_le _, Nat.zero_le _⟩) hP hS hA (fun hE4 H locs hP hS => ?_)
      refine lv_istore (lv' := [(5, .int (M_X11_byteOfPlace (v_turned x4.toNatClampNeg))), (0, .ref (q 0)), (2, .int x2), (3, .int x3), (4, .int x4)]) hx hb dX4_keepTurned_24 hl (by decide) rfl (fun ls hl => ?_)
      refine lv_aload_n hx hb dX4_keepTurned_26 rfl (lv_at hl 1 rfl) ?_
      refine va_get (D := G) (ci := 3) (v := .ref (q 3)) (C := RX4) (T := TX4) (N := 7) hx hb hts hinX4 hown hK.1 hP 0 rfl rfl 2 (by decide) wd1 (fun _ h9 => h9) rfl dX4_keepTurned_27 ?_
      refine lv_iload hx hb dX4_keepTurned_30 (lv_at hl 4 rfl) ?_
      obtain ⟨h5, hm⟩ := g_in hm
      refine va_iald hx hb hK.1 hP 3 0 rfl rfl h5 dX4_keepTurned_32 ?_
      refine k_calli0 (va_runSN (As := [.int (v_turned x4.toNatClampNeg)]) (rest := []) ⟨hx, hb, hml, hown, hts⟩ (c_X11_bitOfPlace l G cs H.size    (v_turned x4.toNatClampNeg) _ rfl) ⟨va_cnB 1 hts gX4_keepTurned_X11_bitOfPlace_n54 rfl rfl rfl (hK.2.1 _ (List.mem_of_getElem? (i := 9) rfl)) wd15 hd_X11_bitOfPlace ⟨Nat.le_of_ble_eq_true rfl, Nat.le_of_ble_eq_true rfl⟩, wd17, trivial⟩ ⟨pre_blind, pre_w hK RO.nil P0 D0 (va_new0 hS hA)⟩ rfl rfl hl.1 rfl (lv_room (Nat.le_of_ble_eq_true rfl)) dX4_keepTurned_33 ⟨Nat.zero_le _, Nat.zero_le _⟩) hP hS hA (fun hE6 H locs hP hS => ?_)
      refine lv_istore (lv' := [(6, .int (M_X11_bitOfPlace (v_turned x4.toNatClampNeg))), (5, .int (M_X11_byteOfPlace (v_turned x4.toNatClampNeg))), (0, .ref (q 0)), (2, .int x2), (3, .int x3), (4, .int x4)]) hx hb dX4_keepTurned_36 hl (by decide) rfl (fun ls hl => ?_)
      refine lv_iload_n hx hb dX4_keepTurned_38 rfl (lv_at hl 4 rfl) ?_
      refine lv_iload_n hx hb dX4_keepTurned_39 rfl (lv_at hl 3 rfl) ?_
      refine lv_iconst (v := 1) hx hb dX4_keepTurned_40 (by decide) ?_
      refine lv_isub hx hb dX4_keepTurned_41 ?_
      refine lv_iload hx hb dX4_keepTurned_42 (lv_at hl 5 rfl) ?_
      refine lv_isub hx hb dX4_keepTurned_44 ?_
      refine lv_ishr hx hb dX4_keepTurned_45 ?_
      refine lv_iconst (v := 1) hx hb dX4_keepTurned_46 (by decide) ?_
      refine lv_iand hx hb dX4_keepTurned_47 ?_
      refine lv_iconst (v := 1) hx hb dX4_keepTurned_48 (by decide) ?_
      refine lv_icmp_ne (tgt := 67) hx hb dX4_keepTurned_49 (by decide) (fun b7 => ?_) (fun b7 => ?_)
      · have hm := i_f b7 hm
        refine lv_aload_n hx hb dX4_keepTurned_67 rfl (lv_at hl 2 rfl) ?_
        refine va_get (D := G) (ci := 3) (v := .ref (q 6)) (C := RX4) (T := TX4) (N := 7) hx hb hts hinX4 hown hK.1 hP 0 rfl rfl 5 (by decide) wd3 (fun _ h9 => h9) rfl dX4_keepTurned_68 ?_
        refine lv_iload hx hb dX4_keepTurned_71 (lv_at hl 1 rfl) ?_
        refine lv_dup2_11 hx hb dX4_keepTurned_73 rfl rfl ?_
        obtain ⟨h8, hm⟩ := g_in hm
        refine va_iald hx hb hK.1 hP 6 0 rfl rfl h8 dX4_keepTurned_74 ?_
        refine lv_iload hx hb dX4_keepTurned_75 (lv_at hl 0 rfl) ?_
        refine lv_ior hx hb dX4_keepTurned_77 ?_
        obtain ⟨h9, hm⟩ := g_in hm
        refine va_iast hx hb hK.1 hP hD hS 6 0 rfl rfl h9 dX4_keepTurned_78 (fun H locs hP hD hS => ?_)
        have hP : va_P G vwCl (ww_S q cs v_rising v_falling v_turned v_totals v_before (upd v_after (M_X11_byteOfPlace (v_turned x4.toNatClampNeg)).toNatClampNeg ((v_after (M_X11_byteOfPlace (v_turned x4.toNatClampNeg)).toNatClampNeg) ||| (M_X11_bitOfPlace (v_turned x4.toNatClampNeg)))) v_keptBytes) H := hP
        have hD : va_D A (ww_S q cs v_rising v_falling v_turned v_totals v_before (upd v_after (M_X11_byteOfPlace (v_turned x4.toNatClampNeg)).toNatClampNeg ((v_after (M_X11_byteOfPlace (v_turned x4.toNatClampNeg)).toNatClampNeg) ||| (M_X11_bitOfPlace (v_turned x4.toNatClampNeg)))) v_keptBytes) := hD
        refine lv_iinc (v := x4 + 1) (lv' := [(4, .int (x4 + 1)), (6, .int (M_X11_bitOfPlace (v_turned x4.toNatClampNeg))), (5, .int (M_X11_byteOfPlace (v_turned x4.toNatClampNeg))), (0, .ref (q 0)), (2, .int x2), (3, .int x3)]) hx hb dX4_keepTurned_79 hl (k := 5) rfl rfl (by decide) rfl (fun ls hl => ?_)
        refine lv_goto (tgt := 8) hx hb dX4_keepTurned_82 (by decide) ?_
        exact st_next hm hst H locs hP hD hS ls (lv_sub hl [3, 4, 5, 0] rfl)
      · have hm := i_t b7 hm
        refine lv_aload_n hx hb dX4_keepTurned_52 rfl (lv_at hl 2 rfl) ?_
        refine va_get (D := G) (ci := 3) (v := .ref (q 5)) (C := RX4) (T := TX4) (N := 7) hx hb hts hinX4 hown hK.1 hP 0 rfl rfl 4 (by decide) wd2 (fun _ h9 => h9) rfl dX4_keepTurned_53 ?_
        refine lv_iload hx hb dX4_keepTurned_56 (lv_at hl 1 rfl) ?_
        refine lv_dup2_11 hx hb dX4_keepTurned_58 rfl rfl ?_
        obtain ⟨h10, hm⟩ := g_in hm
        refine va_iald hx hb hK.1 hP 5 0 rfl rfl h10 dX4_keepTurned_59 ?_
        refine lv_iload hx hb dX4_keepTurned_60 (lv_at hl 0 rfl) ?_
        refine lv_ior hx hb dX4_keepTurned_62 ?_
        obtain ⟨h11, hm⟩ := g_in hm
        refine va_iast hx hb hK.1 hP hD hS 5 0 rfl rfl h11 dX4_keepTurned_63 (fun H locs hP hD hS => ?_)
        have hP : va_P G vwCl (ww_S q cs v_rising v_falling v_turned v_totals (upd v_before (M_X11_byteOfPlace (v_turned x4.toNatClampNeg)).toNatClampNeg ((v_before (M_X11_byteOfPlace (v_turned x4.toNatClampNeg)).toNatClampNeg) ||| (M_X11_bitOfPlace (v_turned x4.toNatClampNeg)))) v_after v_keptBytes) H := hP
        have hD : va_D A (ww_S q cs v_rising v_falling v_turned v_totals (upd v_before (M_X11_byteOfPlace (v_turned x4.toNatClampNeg)).toNatClampNeg ((v_before (M_X11_byteOfPlace (v_turned x4.toNatClampNeg)).toNatClampNeg) ||| (M_X11_bitOfPlace (v_turned x4.toNatClampNeg)))) v_after v_keptBytes) := hD
        refine lv_goto (tgt := 79) hx hb dX4_keepTurned_64 (by decide) ?_
        refine lv_iinc (v := x4 + 1) (lv' := [(4, .int (x4 + 1)), (6, .int (M_X11_bitOfPlace (v_turned x4.toNatClampNeg))), (5, .int (M_X11_byteOfPlace (v_turned x4.toNatClampNeg))), (0, .ref (q 0)), (2, .int x2), (3, .int x3)]) hx hb dX4_keepTurned_79 hl (k := 5) rfl rfl (by decide) rfl (fun ls hl => ?_)
        refine lv_goto (tgt := 8) hx hb dX4_keepTurned_82 (by decide) ?_
        exact st_next hm hst H locs hP hD hS ls (lv_sub hl [3, 4, 5, 0] rfl)
  unfold M_X4_keepTurned at hm
  refine lv_aload_n hx hb dX4_keepTurned_0 rfl (lv_at hl 0 rfl) ?_
  refine lv_iload_n hx hb dX4_keepTurned_1 rfl (lv_at hl 1 rfl) ?_
  obtain ⟨r1, hc_r1, hm⟩ := bs hm
  refine k_callv (va_runV (As := [.int x1]) (rest := []) ⟨hx, hb, hml, hown, hts⟩ (c_X4_keepZeros l G cs q H.size v_rising v_falling v_turned v_totals v_before v_after v_keptBytes   x1 n r1 hc_r1) (cwV 1 hts gX4_keepTurned_X4_keepZeros rfl rfl rfl ⟨rfl, hd_X4_keepZeros⟩ ⟨Nat.le_of_ble_eq_true rfl, Nat.le_of_ble_eq_true rfl⟩) ⟨pre_blind, va_recv hK.1 hP (ci := 3) (q0 := 0) rfl rfl, pre_w hK RO.nil hP hD (va_all hD hS hA)⟩ rfl rfl hl.1 rfl (lv_room (Nat.le_of_ble_eq_true rfl)) dX4_keepTurned_2 ⟨Nat.zero_le _, Nat.zero_le _⟩) hS (va_all hD hS hA) (fun H locs hP hD hS => ?_)
  have hP : va_P G vwCl (ww_S q cs v_rising v_falling v_turned v_totals r1.1 r1.2.1 r1.2.2) H := hP
  have hD : va_D A (ww_S q cs v_rising v_falling v_turned v_totals r1.1 r1.2.1 r1.2.2) := hD
  refine lv_iconst (v := 0) hx hb dX4_keepTurned_5 (by decide) ?_
  refine lv_istore (lv' := [(4, .int 0), (0, .ref (q 0)), (1, .int x1), (2, .int x2), (3, .int x3)]) hx hb dX4_keepTurned_6 hl (by decide) rfl (fun ls hl => ?_)
  obtain ⟨o12, hlp12, hm⟩ := bs hm
  refine L8 x2 x3 (0 : Int32) r1.1 r1.2.1 r1.2.2 o12 hlp12 (fun oo ho => ?_) H locs hP hD hS ls (lv_sub hl [1, 3, 4, 0] rfl)
  subst ho
  intro H locs hP hD hS ls hl
  have hl : lv_has ls 7 [] := hl
  have hP : va_P G vwCl (ww_S q cs v_rising v_falling v_turned v_totals o12.1 o12.2 r1.2.2) H := hP
  have hD : va_D A (ww_S q cs v_rising v_falling v_turned v_totals o12.1 o12.2 r1.2.2) := hD
  have hq := Option.some.inj hm
  subst hq; subst hQ
  exact k_vret hx hb hr hlocks hP hD hS dX4_keepTurned_85

theorem hd_X4_findLastFlip : yX4_findLastFlip.cls ≠ "java/lang/invoke/MethodHandle" ∧ yX4_findLastFlip.cls ≠ "java/lang/invoke/VarHandle" ∧ (parseMethodDescriptor yX4_findLastFlip.desc).map (fun d => d.parameters.length) = some 4 := by decide +kernel

def M_X4_findLastFlip_b14 (n : Nat) (x2 : Int32) (x3 : Int32) (x5 : Int32) (v_rising : (Nat → Int64)) (v_falling : (Nat → Int64)) (v_turned : (Nat → Int32)) (v_totals : (Nat → Int64)) (v_before : (Nat → Int32)) (v_after : (Nat → Int32)) (v_keptBytes : Int32) (x6 : Int32) : Option (Int32 ⊕ (Unit ⊕ (Int32 × (Nat → Int32) × (Nat → Int64) × (Nat → Int32) × (Nat → Int32) × Int32))) :=
  if (8 * x3) ≤ x6 then (some (.inr (.inl ()))) else ((M_X4_bitsThatPass n x6 x5 v_rising v_falling v_totals).bind fun r4 => if r4 = (-1) then (some (.inl (x6 + 1))) else (if (x2 - 1) < 0 ∨ 8 ≤ (x2 - 1).toNatClampNeg then none else (M_X4_keepTurned n x3 x2 r4 (upd v_turned (x2 - 1).toNatClampNeg x6) v_before v_after v_keptBytes).bind fun r8 => some (.inr (.inr (1, (upd v_turned (x2 - 1).toNatClampNeg x6), v_totals, r8.1, r8.2.1, r8.2.2)))))

def M_X4_findLastFlip (n : Nat) (x2 : Int32) (x3 : Int32) (x4 : Int32) (v_rising : (Nat → Int64)) (v_falling : (Nat → Int64)) (v_turned : (Nat → Int32)) (v_totals : (Nat → Int64)) (v_before : (Nat → Int32)) (v_after : (Nat → Int32)) (v_keptBytes : Int32) (sd : SD) : Option (Int32 × (Nat → Int32) × (Nat → Int64) × (Nat → Int32) × (Nat → Int32) × Int32) :=
  (M_X4_fillTotals n (x2 - 1) v_rising v_falling v_turned v_totals sd).bind fun r1 => (lp (fun x : Int32 => M_X4_findLastFlip_b14 n x2 x3 r1.1 v_rising v_falling v_turned r1.2 v_before v_after v_keptBytes x) n x4).bind (Sum.elim (fun o9 => some (0, v_turned, r1.2, v_before, v_after, v_keptBytes)) (fun r => some r))

abbrev rmX4_findLastFlip : Room := { frames := 3, cells := 0, slots := 0, locals := 75 }
set_option maxHeartbeats 4000000 in
set_option maxRecDepth 100000 in
theorem c_X4_findLastFlip (l : Launch) (G : va_G) (cs : CS) (q : Nat → Nat) (sz : Nat) (v_rising : (Nat → Int64)) (v_falling : (Nat → Int64)) (v_turned : (Nat → Int32)) (v_totals : (Nat → Int64)) (v_before : (Nat → Int32)) (v_after : (Nat → Int32)) (v_keptBytes : Int32)  (sa sw : Nat) (sd : SD) (x2 : Int32) (x3 : Int32) (x4 : Int32) (n : Nat) (res : (Int32 × (Nat → Int32) × (Nat → Int64) × (Nat → Int32) × (Nat → Int32) × Int32)) (hm : M_X4_findLastFlip n x2 x3 x4 v_rising v_falling v_turned v_totals v_before v_after v_keptBytes sd = some res) : Met l yX4_findLastFlip wsX4_findLastFlip rmX4_findLastFlip (va_Pc [.ref (q 0), .ref sa, .int x2, .int x3, .int x4] (PreW G cs sz (ww_S q cs v_rising v_falling v_turned v_totals v_before v_after v_keptBytes) (fun _ => some (sa, sw, sd)))) (QI G res.1 (res.1 = 0 ∨ res.1 = 1) (ww_S q cs v_rising v_falling res.2.1 res.2.2.1 res.2.2.2.1 res.2.2.2.2.1 res.2.2.2.2.2) (va_A (ww_S q cs v_rising v_falling v_turned v_totals v_before v_after v_keptBytes) sz)) 0 0 (va_A (ww_S q cs v_rising v_falling v_turned v_totals v_before v_after v_keptBytes) sz) := by
  refine k_enter (Qf := fun A => QI G res.1 (res.1 = 0 ∨ res.1 = 1) (ww_S q cs v_rising v_falling res.2.1 res.2.2.1 res.2.2.2.1 res.2.2.2.2.1 res.2.2.2.2.2) A) (cc := cX4_findLastFlip) (maxL := 8) (ret := (some .boolean)) (plainFor_of_name (by decide)) rfl (Nat.le_of_ble_eq_true rfl) ?_
  intro p e s m args below meth c A Q ls H locs hx hb hr hml hown hts hlocks hname hK hA hRo hP hD hS hQ hl
  have hl : lv_has ls 8 [(0, .ref (q 0)), (1, .ref sa), (2, .int x2), (3, .int x3), (4, .int x4)] := hl
  have wd1 := hts (.fieldLink RX4 18 "SumSmith$Slips" "turned" "[I") (List.mem_of_getElem? (i := 1) rfl)
  have hinX4 : ∀ w ∈ wsX40, w ∈ wsX4_findLastFlip := fun w h => List.mem_cons_of_mem _ (List.mem_append_left _ (List.mem_append_left _ (List.mem_append_right _ h)))
  have L14 : ∀ (x2 : Int32) (x3 : Int32) (x5 : Int32) (x6 : Int32) (v_turned : (Nat → Int32)) (v_totals : (Nat → Int64)) (v_before : (Nat → Int32)) (v_after : (Nat → Int32)) (v_keptBytes : Int32) (out : (Unit ⊕ (Int32 × (Nat → Int32) × (Nat → Int64) × (Nat → Int32) × (Nat → Int32) × Int32))), lp (fun x : Int32 => M_X4_findLastFlip_b14 n x2 x3 x5 v_rising v_falling v_turned v_totals v_before v_after v_keptBytes x) n x6 = some out → (∀ r, out = .inr r → r = res) → (∀ (o : Unit), out = .inl o → ∀ (H : Heap) (locs : List Loc), va_P G vwCl (ww_S q cs v_rising v_falling v_turned v_totals v_before v_after v_keptBytes) H → va_D A (ww_S q cs v_rising v_falling v_turned v_totals v_before v_after v_keptBytes) → va_S A s.heap H locs → ∀ (ls : Array Slot), lv_has ls 8 [] → W p l e rmX4_findLastFlip s m args below meth c H locs 0 0 Q (F0 m 65 ls [])) → ∀ (H : Heap) (locs : List Loc), va_P G vwCl (ww_S q cs v_rising v_falling v_turned v_totals v_before v_after v_keptBytes) H → va_D A (ww_S q cs v_rising v_falling v_turned v_totals v_before v_after v_keptBytes) → va_S A s.heap H locs → ∀ (ls : Array Slot), lv_has ls 8 [(0, .ref (q 0)), (2, .int x2), (3, .int x3), (5, .int x5), (6, .int x6)] → W p l e rmX4_findLastFlip s m args below meth c H locs 0 0 Q (F0 m 14 ls []) := by
    intro x2 x3 x5 x6 v_turned v_totals v_before v_after v_keptBytes out hlp hret hX
    refine lp_ind (fun x => ∀ (H : Heap) (locs : List Loc), va_P G vwCl (ww_S q cs v_rising v_falling v_turned v_totals v_before v_after v_keptBytes) H → va_D A (ww_S q cs v_rising v_falling v_turned v_totals v_before v_after v_keptBytes) → va_S A s.heap H locs → ∀ (ls : Array Slot), lv_has ls 8 [(0, .ref (q 0)), (2, .int x2), (3, .int x3), (5, .int x5), (6, .int x)] → W p l e rmX4_findLastFlip s m args below meth c H locs 0 0 Q (F0 m 14 ls [])) ?_ n x6 hlp
    clear hlp hP hD hS hl
    intro x6 ob hm hst H locs hP hD hS ls hl
    have hm : M_X4_findLastFlip_b14 n x2 x3 x5 v_rising v_falling v_turned v_totals v_before v_after v_keptBytes x6 = some ob := hm
    have hl : lv_has ls 8 [(0, .ref (q 0)), (2, .int x2), (3, .int x3), (5, .int x5), (6, .int x6)] := hl
    have hP : va_P G vwCl (ww_S q cs v_rising v_falling v_turned v_totals v_before v_after v_keptBytes) H := hP
    have hD : va_D A (ww_S q cs v_rising v_falling v_turned v_totals v_before v_after v_keptBytes) := hD
    unfold M_X4_findLastFlip_b14 at hm
    refine lv_iload hx hb dX4_findLastFlip_14 (lv_at hl 4 rfl) ?_
    refine lv_bipush (v := 8) hx hb dX4_findLastFlip_16 (by decide) ?_
    refine lv_iload_n hx hb dX4_findLastFlip_18 rfl (lv_at hl 2 rfl) ?_
    refine lv_imul hx hb dX4_findLastFlip_19 ?_
    refine lv_icmp_ge (tgt := 65) hx hb dX4_findLastFlip_20 (by decide) (fun b3 => ?_) (fun b3 => ?_)
    · have hm := i_t b3 hm
      exact hX _ (st_exit hm hst) H locs hP hD hS ls (lv_sub hl [] rfl)
    · have hm := i_f b3 hm
      refine lv_aload_n hx hb dX4_findLastFlip_23 rfl (lv_at hl 0 rfl) ?_
      refine lv_iload hx hb dX4_findLastFlip_24 (lv_at hl 4 rfl) ?_
      refine lv_iload hx hb dX4_findLastFlip_26 (lv_at hl 3 rfl) ?_
      obtain ⟨r4, hc_r4, hm⟩ := bs hm
      refine k_calli (va_runV (As := [.int x6, .int x5]) (rest := []) ⟨hx, hb, hml, hown, hts⟩ (c_X4_bitsThatPass l G cs q H.size v_rising v_falling v_turned v_totals v_before v_after v_keptBytes   x6 x5 n r4 hc_r4) (cwV 2 hts gX4_findLastFlip_X4_bitsThatPass rfl rfl rfl ⟨rfl, hd_X4_bitsThatPass⟩ ⟨Nat.le_of_ble_eq_true rfl, Nat.le_of_ble_eq_true rfl⟩) ⟨pre_blind, va_recv hK.1 hP (ci := 3) (q0 := 0) rfl rfl, pre_w hK RO.nil hP hD (va_all hD hS hA)⟩ rfl rfl hl.1 rfl (lv_room (Nat.le_of_ble_eq_true rfl)) dX4_findLastFlip_28 ⟨Nat.zero_le _, Nat.zero_le _⟩) hS (va_all hD hS hA) (fun hE5 H locs hP hD hS => ?_)
      have hP : va_P G vwCl (ww_S q cs v_rising v_falling v_turned v_totals v_before v_after v_keptBytes) H := hP
      have hD : va_D A (ww_S q cs v_rising v_falling v_turned v_totals v_before v_after v_keptBytes) := hD
      refine lv_istore (lv' := [(7, .int r4), (0, .ref (q 0)), (2, .int x2), (3, .int x3), (5, .int x5), (6, .int x6)]) hx hb dX4_findLastFlip_31 hl (by decide) rfl (fun ls hl => ?_)
      refine lv_iload hx hb dX4_findLastFlip_33 (lv_at hl 0 rfl) ?_
      refine lv_iconst (v := (-1)) hx hb dX4_findLastFlip_35 (by decide) ?_
      refine lv_icmp_eq (tgt := 59) hx hb dX4_findLastFlip_36 (by decide) (fun b6 => ?_) (fun b6 => ?_)
      · have hm := i_t b6 hm
        refine lv_iinc (v := x6 + 1) (lv' := [(6, .int (x6 + 1)), (7, .int r4), (0, .ref (q 0)), (2, .int x2), (3, .int x3), (5, .int x5)]) hx hb dX4_findLastFlip_59 hl (k := 5) rfl rfl (by decide) rfl (fun ls hl => ?_)
        refine lv_goto (tgt := 14) hx hb dX4_findLastFlip_62 (by decide) ?_
        exact st_next hm hst H locs hP hD hS ls (lv_sub hl [2, 3, 4, 5, 0] rfl)
      · have hm := i_f b6 hm
        refine lv_aload_n hx hb dX4_findLastFlip_39 rfl (lv_at hl 1 rfl) ?_
        refine va_get (D := G) (ci := 3) (v := .ref (q 3)) (C := RX4) (T := TX4) (N := 7) hx hb hts hinX4 hown hK.1 hP 0 rfl rfl 2 (by decide) wd1 (fun _ h9 => h9) rfl dX4_findLastFlip_40 ?_
        refine lv_iload_n hx hb dX4_findLastFlip_43 rfl (lv_at hl 2 rfl) ?_
        refine lv_iconst (v := 1) hx hb dX4_findLastFlip_44 (by decide) ?_
        refine lv_isub hx hb dX4_findLastFlip_45 ?_
        refine lv_iload hx hb dX4_findLastFlip_46 (lv_at hl 5 rfl) ?_
        obtain ⟨h7, hm⟩ := g_in hm
        refine va_iast hx hb hK.1 hP hD hS 3 0 rfl rfl h7 dX4_findLastFlip_48 (fun H locs hP hD hS => ?_)
        have hP : va_P G vwCl (ww_S q cs v_rising v_falling (upd v_turned (x2 - 1).toNatClampNeg x6) v_totals v_before v_after v_keptBytes) H := hP
        have hD : va_D A (ww_S q cs v_rising v_falling (upd v_turned (x2 - 1).toNatClampNeg x6) v_totals v_before v_after v_keptBytes) := hD
        refine lv_aload_n hx hb dX4_findLastFlip_49 rfl (lv_at hl 1 rfl) ?_
        refine lv_iload_n hx hb dX4_findLastFlip_50 rfl (lv_at hl 3 rfl) ?_
        refine lv_iload_n hx hb dX4_findLastFlip_51 rfl (lv_at hl 2 rfl) ?_
        refine lv_iload hx hb dX4_findLastFlip_52 (lv_at hl 0 rfl) ?_
        obtain ⟨r8, hc_r8, hm⟩ := bs hm
        refine k_callv (va_runV (As := [.int x3, .int x2, .int r4]) (rest := []) ⟨hx, hb, hml, hown, hts⟩ (c_X4_keepTurned l G cs q H.size v_rising v_falling (upd v_turned (x2 - 1).toNatClampNeg x6) v_totals v_before v_after v_keptBytes   x3 x2 r4 n r8 hc_r8) (cwV 3 hts gX4_findLastFlip_X4_keepTurned rfl rfl rfl ⟨rfl, hd_X4_keepTurned⟩ ⟨Nat.le_of_ble_eq_true rfl, Nat.le_of_ble_eq_true rfl⟩) ⟨pre_blind, va_recv hK.1 hP (ci := 3) (q0 := 0) rfl rfl, pre_w hK RO.nil hP hD (va_all hD hS hA)⟩ rfl rfl hl.1 rfl (lv_room (Nat.le_of_ble_eq_true rfl)) dX4_findLastFlip_54 ⟨Nat.zero_le _, Nat.zero_le _⟩) hS (va_all hD hS hA) (fun H locs hP hD hS => ?_)
        have hP : va_P G vwCl (ww_S q cs v_rising v_falling (upd v_turned (x2 - 1).toNatClampNeg x6) v_totals r8.1 r8.2.1 r8.2.2) H := hP
        have hD : va_D A (ww_S q cs v_rising v_falling (upd v_turned (x2 - 1).toNatClampNeg x6) v_totals r8.1 r8.2.1 r8.2.2) := hD
        refine lv_iconst (v := 1) hx hb dX4_findLastFlip_57 (by decide) ?_
        have hq := hret _ (st_exit hm hst)
        subst hq; subst hQ
        exact k_zret hx hb hr hlocks hP hD hS rfl (by decide) dX4_findLastFlip_58
  unfold M_X4_findLastFlip at hm
  refine lv_aload_n hx hb dX4_findLastFlip_0 rfl (lv_at hl 0 rfl) ?_
  refine lv_aload_n hx hb dX4_findLastFlip_1 rfl (lv_at hl 1 rfl) ?_
  refine lv_iload_n hx hb dX4_findLastFlip_2 rfl (lv_at hl 2 rfl) ?_
  refine lv_iconst (v := 1) hx hb dX4_findLastFlip_3 (by decide) ?_
  refine lv_isub hx hb dX4_findLastFlip_4 ?_
  obtain ⟨r1, hc_r1, hm⟩ := bs hm
  refine k_calli (va_runV (As := [.ref sa, .int (x2 - 1)]) (rest := []) ⟨hx, hb, hml, hown, hts⟩ (c_X4_fillTotals l G cs q H.size v_rising v_falling v_turned v_totals v_before v_after v_keptBytes  sa sw sd (x2 - 1) n r1 hc_r1) (cwV 2 hts gX4_findLastFlip_X4_fillTotals rfl rfl rfl ⟨rfl, hd_X4_fillTotals⟩ ⟨Nat.le_of_ble_eq_true rfl, Nat.le_of_ble_eq_true rfl⟩) ⟨pre_blind, va_recv hK.1 hP (ci := 3) (q0 := 0) rfl rfl, pre_w hK (RO.at hS hRo) hP hD (va_all hD hS hA)⟩ rfl rfl hl.1 rfl (lv_room (Nat.le_of_ble_eq_true rfl)) dX4_findLastFlip_5 ⟨Nat.zero_le _, Nat.zero_le _⟩) hS (va_all hD hS hA) (fun hE2 H locs hP hD hS => ?_)
  have hP : va_P G vwCl (ww_S q cs v_rising v_falling v_turned r1.2 v_before v_after v_keptBytes) H := hP
  have hD : va_D A (ww_S q cs v_rising v_falling v_turned r1.2 v_before v_after v_keptBytes) := hD
  refine lv_istore (lv' := [(5, .int r1.1), (0, .ref (q 0)), (1, .ref sa), (2, .int x2), (3, .int x3), (4, .int x4)]) hx hb dX4_findLastFlip_8 hl (by decide) rfl (fun ls hl => ?_)
  refine lv_iload hx hb dX4_findLastFlip_10 (lv_at hl 5 rfl) ?_
  refine lv_istore (lv' := [(6, .int x4), (5, .int r1.1), (0, .ref (q 0)), (1, .ref sa), (2, .int x2), (3, .int x3), (4, .int x4)]) hx hb dX4_findLastFlip_12 hl (by decide) rfl (fun ls hl => ?_)
  obtain ⟨u9, hlp9, hm⟩ := bs hm
  refine L14 x2 x3 r1.1 x4 v_turned r1.2 v_before v_after v_keptBytes u9 hlp9 (fun r h => Option.some.inj (se_r h hm)) (fun o9 ho => ?_) H locs hP hD hS ls (lv_sub hl [2, 4, 5, 1, 0] rfl)
  have hm := se_l ho hm
  intro H locs hP hD hS ls hl
  have hl : lv_has ls 8 [] := hl
  have hP : va_P G vwCl (ww_S q cs v_rising v_falling v_turned r1.2 v_before v_after v_keptBytes) H := hP
  have hD : va_D A (ww_S q cs v_rising v_falling v_turned r1.2 v_before v_after v_keptBytes) := hD
  refine lv_iconst (v := 0) hx hb dX4_findLastFlip_65 (by decide) ?_
  have hq := Option.some.inj hm
  subst hq; subst hQ
  exact k_zret hx hb hr hlocks hP hD hS rfl (by decide) dX4_findLastFlip_66

theorem hd_X4_findFlip : yX4_findFlip.cls ≠ "java/lang/invoke/MethodHandle" ∧ yX4_findFlip.cls ≠ "java/lang/invoke/VarHandle" ∧ (parseMethodDescriptor yX4_findFlip.desc).map (fun d => d.parameters.length) = some 5 := by decide +kernel

def M_X4_findFlip_b22 (n : Nat) (self_ : Int32 → Int32 → Int32 → Int32 → (Nat → Int64) → (Nat → Int64) → (Nat → Int32) → (Nat → Int64) → (Nat → Int32) → (Nat → Int32) → Int32 → SD → Option (Int32 × (Nat → Int32) × (Nat → Int64) × (Nat → Int32) × (Nat → Int32) × Int32)) (x2 : Int32) (x3 : Int32) (x4 : Int32) (v_rising : (Nat → Int64)) (v_falling : (Nat → Int64)) (sd : SD) (x6 : Int32) (v_turned : (Nat → Int32)) (v_totals : (Nat → Int64)) (v_before : (Nat → Int32)) (v_after : (Nat → Int32)) (v_keptBytes : Int32) : Option ((Int32 × (Nat → Int32) × (Nat → Int64) × (Nat → Int32) × (Nat → Int32) × Int32) ⊕ (((Nat → Int32) × (Nat → Int64) × (Nat → Int32) × (Nat → Int32) × Int32) ⊕ (Int32 × (Nat → Int32) × (Nat → Int64) × (Nat → Int32) × (Nat → Int32) × Int32))) :=
  if (8 * x3) ≤ x6 then (some (.inr (.inl (v_turned, v_totals, v_before, v_after, v_keptBytes)))) else (if x4 < 0 ∨ 8 ≤ x4.toNatClampNeg then none else (self_ x2 x3 (x4 + 1) (x6 + 1) v_rising v_falling (upd v_turned x4.toNatClampNeg x6) v_totals v_before v_after v_keptBytes sd).bind fun r4 => if r4.1 = 0 then (some (.inl (x6 + 1, r4.2.1, r4.2.2.1, r4.2.2.2.1, r4.2.2.2.2.1, r4.2.2.2.2.2))) else (some (.inr (.inr (1, r4.2.1, r4.2.2.1, r4.2.2.2.1, r4.2.2.2.2.1, r4.2.2.2.2.2)))))

def M_X4_findFlip_F (n : Nat) (self_ : Int32 → Int32 → Int32 → Int32 → (Nat → Int64) → (Nat → Int64) → (Nat → Int32) → (Nat → Int64) → (Nat → Int32) → (Nat → Int32) → Int32 → SD → Option (Int32 × (Nat → Int32) × (Nat → Int64) × (Nat → Int32) × (Nat → Int32) × Int32)) (x2 : Int32) (x3 : Int32) (x4 : Int32) (x5 : Int32) (v_rising : (Nat → Int64)) (v_falling : (Nat → Int64)) (v_turned : (Nat → Int32)) (v_totals : (Nat → Int64)) (v_before : (Nat → Int32)) (v_after : (Nat → Int32)) (v_keptBytes : Int32) (sd : SD) : Option (Int32 × (Nat → Int32) × (Nat → Int64) × (Nat → Int32) × (Nat → Int32) × Int32) :=
  if x4 < (x2 - 1) then ((lp (fun x : (Int32 × (Nat → Int32) × (Nat → Int64) × (Nat → Int32) × (Nat → Int32) × Int32) => M_X4_findFlip_b22 n self_ x2 x3 x4 v_rising v_falling sd x.1 x.2.1 x.2.2.1 x.2.2.2.1 x.2.2.2.2.1 x.2.2.2.2.2) n (x5, v_turned, v_totals, v_before, v_after, v_keptBytes)).bind (Sum.elim (fun o7 => some (0, o7.1, o7.2.1, o7.2.2.1, o7.2.2.2.1, o7.2.2.2.2)) (fun r => some r))) else ((M_X4_findLastFlip n x2 x3 x5 v_rising v_falling v_turned v_totals v_before v_after v_keptBytes sd).bind fun r8 => some (r8.1, r8.2.1, r8.2.2.1, r8.2.2.2.1, r8.2.2.2.2.1, r8.2.2.2.2.2))
def M_X4_findFlip (n : Nat) : Nat → Int32 → Int32 → Int32 → Int32 → (Nat → Int64) → (Nat → Int64) → (Nat → Int32) → (Nat → Int64) → (Nat → Int32) → (Nat → Int32) → Int32 → SD → Option (Int32 × (Nat → Int32) × (Nat → Int64) × (Nat → Int32) × (Nat → Int32) × Int32)
  | 0, _, _, _, _, _, _, _, _, _, _, _, _ => none
  | d + 1, x2, x3, x4, x5, v_rising, v_falling, v_turned, v_totals, v_before, v_after, v_keptBytes, sd => M_X4_findFlip_F n (M_X4_findFlip n d) x2 x3 x4 x5 v_rising v_falling v_turned v_totals v_before v_after v_keptBytes sd

abbrev rmX4_findFlip (d : Nat) : Room := { frames := d + 4, cells := 0, slots := 0, locals := d * 26 + 102 }
set_option maxHeartbeats 4000000 in
set_option maxRecDepth 100000 in
theorem c_X4_findFlip : ∀ (d : Nat) (l : Launch) (G : va_G) (cs : CS) (q : Nat → Nat) (sz : Nat) (v_rising : (Nat → Int64)) (v_falling : (Nat → Int64)) (v_turned : (Nat → Int32)) (v_totals : (Nat → Int64)) (v_before : (Nat → Int32)) (v_after : (Nat → Int32)) (v_keptBytes : Int32)  (sa sw : Nat) (sd : SD) (x2 : Int32) (x3 : Int32) (x4 : Int32) (x5 : Int32) (n : Nat) (res : (Int32 × (Nat → Int32) × (Nat → Int64) × (Nat → Int32) × (Nat → Int32) × Int32)) (hm : M_X4_findFlip n d x2 x3 x4 x5 v_rising v_falling v_turned v_totals v_before v_after v_keptBytes sd = some res), Met l yX4_findFlip wsX4_findFlip (rmX4_findFlip d) (va_Pc [.ref (q 0), .ref sa, .int x2, .int x3, .int x4, .int x5] (PreW G cs sz (ww_S q cs v_rising v_falling v_turned v_totals v_before v_after v_keptBytes) (fun _ => some (sa, sw, sd)))) (QI G res.1 (res.1 = 0 ∨ res.1 = 1) (ww_S q cs v_rising v_falling res.2.1 res.2.2.1 res.2.2.2.1 res.2.2.2.2.1 res.2.2.2.2.2) (va_A (ww_S q cs v_rising v_falling v_turned v_totals v_before v_after v_keptBytes) sz)) 0 0 (va_A (ww_S q cs v_rising v_falling v_turned v_totals v_before v_after v_keptBytes) sz) := by
  intro d
  induction d with
  | zero => intro l G cs q sz v_rising v_falling v_turned v_totals v_before v_after v_keptBytes  sa sw sd x2 x3 x4 x5 n res hm; cases hm
  | succ d ih =>
    intro l G cs q sz v_rising v_falling v_turned v_totals v_before v_after v_keptBytes  sa sw sd x2 x3 x4 x5 n res hm
    have hm : M_X4_findFlip_F n (M_X4_findFlip n d) x2 x3 x4 x5 v_rising v_falling v_turned v_totals v_before v_after v_keptBytes sd = some res := hm
    refine k_enter (Qf := fun A => QI G res.1 (res.1 = 0 ∨ res.1 = 1) (ww_S q cs v_rising v_falling res.2.1 res.2.2.1 res.2.2.2.1 res.2.2.2.2.1 res.2.2.2.2.2) A) (cc := cX4_findFlip) (maxL := 7) (ret := (some .boolean)) (plainFor_of_name (by decide)) rfl (Nat.le_of_ble_eq_true rfl) ?_
    intro p e s m args below meth c A Q ls H locs hx hb hr hml hown hts hlocks hname hK hA hRo hP hD hS hQ hl
    have hl : lv_has ls 7 [(0, .ref (q 0)), (1, .ref sa), (2, .int x2), (3, .int x3), (4, .int x4), (5, .int x5)] := hl
    have wd1 := hts (.fieldLink RX4 18 "SumSmith$Slips" "turned" "[I") (List.mem_of_getElem? (i := 1) rfl)
    have hinX4 : ∀ w ∈ wsX40, w ∈ wsX4_findFlip := fun w h => List.mem_cons_of_mem _ (List.mem_append_left _ (List.mem_append_left _ (List.mem_append_right _ h)))
    have L22 : ∀ (x2 : Int32) (x3 : Int32) (x4 : Int32) (x6 : Int32) (v_turned : (Nat → Int32)) (v_totals : (Nat → Int64)) (v_before : (Nat → Int32)) (v_after : (Nat → Int32)) (v_keptBytes : Int32) (out : (((Nat → Int32) × (Nat → Int64) × (Nat → Int32) × (Nat → Int32) × Int32) ⊕ (Int32 × (Nat → Int32) × (Nat → Int64) × (Nat → Int32) × (Nat → Int32) × Int32))), lp (fun x : (Int32 × (Nat → Int32) × (Nat → Int64) × (Nat → Int32) × (Nat → Int32) × Int32) => M_X4_findFlip_b22 n (M_X4_findFlip n d) x2 x3 x4 v_rising v_falling sd x.1 x.2.1 x.2.2.1 x.2.2.2.1 x.2.2.2.2.1 x.2.2.2.2.2) n (x6, v_turned, v_totals, v_before, v_after, v_keptBytes) = some out → (∀ r, out = .inr r → r = res) → (∀ (o : ((Nat → Int32) × (Nat → Int64) × (Nat → Int32) × (Nat → Int32) × Int32)), out = .inl o → ∀ (H : Heap) (locs : List Loc), va_P G vwCl (ww_S q cs v_rising v_falling o.1 o.2.1 o.2.2.1 o.2.2.2.1 o.2.2.2.2) H → va_D A (ww_S q cs v_rising v_falling o.1 o.2.1 o.2.2.1 o.2.2.2.1 o.2.2.2.2) → va_S A s.heap H locs → ∀ (ls : Array Slot), lv_has ls 7 [] → W p l e (rmX4_findFlip (d + 1)) s m args below meth c H locs 0 0 Q (F0 m 66 ls [])) → ∀ (H : Heap) (locs : List Loc), va_P G vwCl (ww_S q cs v_rising v_falling v_turned v_totals v_before v_after v_keptBytes) H → va_D A (ww_S q cs v_rising v_falling v_turned v_totals v_before v_after v_keptBytes) → va_S A s.heap H locs → ∀ (ls : Array Slot), lv_has ls 7 [(0, .ref (q 0)), (1, .ref sa), (2, .int x2), (3, .int x3), (4, .int x4), (6, .int x6)] → W p l e (rmX4_findFlip (d + 1)) s m args below meth c H locs 0 0 Q (F0 m 22 ls []) := by
      intro x2 x3 x4 x6 v_turned v_totals v_before v_after v_keptBytes out hlp hret hX
      refine lp_ind (fun x => ∀ (H : Heap) (locs : List Loc), va_P G vwCl (ww_S q cs v_rising v_falling x.2.1 x.2.2.1 x.2.2.2.1 x.2.2.2.2.1 x.2.2.2.2.2) H → va_D A (ww_S q cs v_rising v_falling x.2.1 x.2.2.1 x.2.2.2.1 x.2.2.2.2.1 x.2.2.2.2.2) → va_S A s.heap H locs → ∀ (ls : Array Slot), lv_has ls 7 [(0, .ref (q 0)), (1, .ref sa), (2, .int x2), (3, .int x3), (4, .int x4), (6, .int x.1)] → W p l e (rmX4_findFlip (d + 1)) s m args below meth c H locs 0 0 Q (F0 m 22 ls [])) ?_ n (x6, v_turned, v_totals, v_before, v_after, v_keptBytes) hlp
      clear hlp hP hD hS hl
      rintro ⟨x6, v_turned, v_totals, v_before, v_after, v_keptBytes⟩ ob hm hst H locs hP hD hS ls hl
      have hm : M_X4_findFlip_b22 n (M_X4_findFlip n d) x2 x3 x4 v_rising v_falling sd x6 v_turned v_totals v_before v_after v_keptBytes = some ob := hm
      have hl : lv_has ls 7 [(0, .ref (q 0)), (1, .ref sa), (2, .int x2), (3, .int x3), (4, .int x4), (6, .int x6)] := hl
      have hP : va_P G vwCl (ww_S q cs v_rising v_falling v_turned v_totals v_before v_after v_keptBytes) H := hP
      have hD : va_D A (ww_S q cs v_rising v_falling v_turned v_totals v_before v_after v_keptBytes) := hD
      unfold M_X4_findFlip_b22 at hm
      refine lv_iload hx hb dX4_findFlip_22 (lv_at hl 5 rfl) ?_
      refine lv_bipush (v := 8) hx hb dX4_findFlip_24 (by decide) ?_
      refine lv_iload_n hx hb dX4_findFlip_26 rfl (lv_at hl 3 rfl) ?_
      refine lv_imul hx hb dX4_findFlip_27 ?_
      refine lv_icmp_ge (tgt := 66) hx hb dX4_findFlip_28 (by decide) (fun b2 => ?_) (fun b2 => ?_)
      · have hm := i_t b2 hm
        exact hX _ (st_exit hm hst) H locs hP hD hS ls (lv_sub hl [] rfl)
      · have hm := i_f b2 hm
        refine lv_aload_n hx hb dX4_findFlip_31 rfl (lv_at hl 0 rfl) ?_
        refine va_get (D := G) (ci := 3) (v := .ref (q 3)) (C := RX4) (T := TX4) (N := 7) hx hb hts hinX4 hown hK.1 hP 0 rfl rfl 2 (by decide) wd1 (fun _ h9 => h9) rfl dX4_findFlip_32 ?_
        refine lv_iload hx hb dX4_findFlip_35 (lv_at hl 4 rfl) ?_
        refine lv_iload hx hb dX4_findFlip_37 (lv_at hl 5 rfl) ?_
        obtain ⟨h3, hm⟩ := g_in hm
        refine va_iast hx hb hK.1 hP hD hS 3 0 rfl rfl h3 dX4_findFlip_39 (fun H locs hP hD hS => ?_)
        have hP : va_P G vwCl (ww_S q cs v_rising v_falling (upd v_turned x4.toNatClampNeg x6) v_totals v_before v_after v_keptBytes) H := hP
        have hD : va_D A (ww_S q cs v_rising v_falling (upd v_turned x4.toNatClampNeg x6) v_totals v_before v_after v_keptBytes) := hD
        refine lv_aload_n hx hb dX4_findFlip_40 rfl (lv_at hl 0 rfl) ?_
        refine lv_aload_n hx hb dX4_findFlip_41 rfl (lv_at hl 1 rfl) ?_
        refine lv_iload_n hx hb dX4_findFlip_42 rfl (lv_at hl 2 rfl) ?_
        refine lv_iload_n hx hb dX4_findFlip_43 rfl (lv_at hl 3 rfl) ?_
        refine lv_iload hx hb dX4_findFlip_44 (lv_at hl 4 rfl) ?_
        refine lv_iconst (v := 1) hx hb dX4_findFlip_46 (by decide) ?_
        refine lv_iadd hx hb dX4_findFlip_47 ?_
        refine lv_iload hx hb dX4_findFlip_48 (lv_at hl 5 rfl) ?_
        refine lv_iconst (v := 1) hx hb dX4_findFlip_50 (by decide) ?_
        refine lv_iadd hx hb dX4_findFlip_51 ?_
        obtain ⟨r4, hc_r4, hm⟩ := bs hm
        refine k_calli (va_runV (As := [.ref sa, .int x2, .int x3, .int (x4 + 1), .int (x6 + 1)]) (rest := []) ⟨hx, hb, hml, hown, hts⟩ (ih l G cs q H.size v_rising v_falling (upd v_turned x4.toNatClampNeg x6) v_totals v_before v_after v_keptBytes  sa sw sd x2 x3 (x4 + 1) (x6 + 1) n r4 hc_r4) (cwV 5 hts gX4_findFlip_X4_findFlip rfl rfl rfl ⟨rfl, hd_X4_findFlip⟩ ⟨(by simp only [rmX4_findFlip]; omega), (by simp only [rmX4_findFlip]; omega)⟩) ⟨pre_blind, va_recv hK.1 hP (ci := 3) (q0 := 0) rfl rfl, pre_w hK (RO.at hS hRo) hP hD (va_all hD hS hA)⟩ rfl rfl hl.1 rfl (lv_room (Nat.le_of_ble_eq_true rfl)) dX4_findFlip_52 ⟨Nat.zero_le _, Nat.zero_le _⟩) hS (va_all hD hS hA) (fun hE5 H locs hP hD hS => ?_)
        have hP : va_P G vwCl (ww_S q cs v_rising v_falling r4.2.1 r4.2.2.1 r4.2.2.2.1 r4.2.2.2.2.1 r4.2.2.2.2.2) H := hP
        have hD : va_D A (ww_S q cs v_rising v_falling r4.2.1 r4.2.2.1 r4.2.2.2.1 r4.2.2.2.2.1 r4.2.2.2.2.2) := hD
        refine lv_if_eq (tgt := 60) hx hb dX4_findFlip_55 (by decide) (fun b6 => ?_) (fun b6 => ?_)
        · have hm := i_t b6 hm
          refine lv_iinc (v := x6 + 1) (lv' := [(6, .int (x6 + 1)), (0, .ref (q 0)), (1, .ref sa), (2, .int x2), (3, .int x3), (4, .int x4)]) hx hb dX4_findFlip_60 hl (k := 5) rfl rfl (by decide) rfl (fun ls hl => ?_)
          refine lv_goto (tgt := 22) hx hb dX4_findFlip_63 (by decide) ?_
          exact st_next hm hst H locs hP hD hS ls (lv_sub hl [1, 2, 3, 4, 5, 0] rfl)
        · have hm := i_f b6 hm
          refine lv_iconst (v := 1) hx hb dX4_findFlip_58 (by decide) ?_
          have hq := hret _ (st_exit hm hst)
          subst hq; subst hQ
          exact k_zret hx hb hr hlocks hP hD hS rfl (by decide) dX4_findFlip_59
    unfold M_X4_findFlip_F at hm
    refine lv_iload hx hb dX4_findFlip_0 (lv_at hl 4 rfl) ?_
    refine lv_iload_n hx hb dX4_findFlip_2 rfl (lv_at hl 2 rfl) ?_
    refine lv_iconst (v := 1) hx hb dX4_findFlip_3 (by decide) ?_
    refine lv_isub hx hb dX4_findFlip_4 ?_
    refine lv_icmp_lt (tgt := 18) hx hb dX4_findFlip_5 (by decide) (fun b1 => ?_) (fun b1 => ?_)
    · have hm := i_t b1 hm
      refine lv_iload hx hb dX4_findFlip_18 (lv_at hl 5 rfl) ?_
      refine lv_istore (lv' := [(6, .int x5), (0, .ref (q 0)), (1, .ref sa), (2, .int x2), (3, .int x3), (4, .int x4), (5, .int x5)]) hx hb dX4_findFlip_20 hl (by decide) rfl (fun ls hl => ?_)
      obtain ⟨u7, hlp7, hm⟩ := bs hm
      refine L22 x2 x3 x4 x5 v_turned v_totals v_before v_after v_keptBytes u7 hlp7 (fun r h => Option.some.inj (se_r h hm)) (fun o7 ho => ?_) H locs hP hD hS ls (lv_sub hl [1, 2, 3, 4, 5, 0] rfl)
      have hm := se_l ho hm
      intro H locs hP hD hS ls hl
      have hl : lv_has ls 7 [] := hl
      have hP : va_P G vwCl (ww_S q cs v_rising v_falling o7.1 o7.2.1 o7.2.2.1 o7.2.2.2.1 o7.2.2.2.2) H := hP
      have hD : va_D A (ww_S q cs v_rising v_falling o7.1 o7.2.1 o7.2.2.1 o7.2.2.2.1 o7.2.2.2.2) := hD
      refine lv_iconst (v := 0) hx hb dX4_findFlip_66 (by decide) ?_
      have hq := Option.some.inj hm
      subst hq; subst hQ
      exact k_zret hx hb hr hlocks hP hD hS rfl (by decide) dX4_findFlip_67
    · have hm := i_f b1 hm
      refine lv_aload_n hx hb dX4_findFlip_8 rfl (lv_at hl 0 rfl) ?_
      refine lv_aload_n hx hb dX4_findFlip_9 rfl (lv_at hl 1 rfl) ?_
      refine lv_iload_n hx hb dX4_findFlip_10 rfl (lv_at hl 2 rfl) ?_
      refine lv_iload_n hx hb dX4_findFlip_11 rfl (lv_at hl 3 rfl) ?_
      refine lv_iload hx hb dX4_findFlip_12 (lv_at hl 5 rfl) ?_
      obtain ⟨r8, hc_r8, hm⟩ := bs hm
      refine k_calli (va_runV (As := [.ref sa, .int x2, .int x3, .int x5]) (rest := []) ⟨hx, hb, hml, hown, hts⟩ (c_X4_findLastFlip l G cs q H.size v_rising v_falling v_turned v_totals v_before v_after v_keptBytes  sa sw sd x2 x3 x5 n r8 hc_r8) (cwV 4 hts gX4_findFlip_X4_findLastFlip rfl rfl rfl ⟨rfl, hd_X4_findLastFlip⟩ ⟨(by simp only [rmX4_findFlip, rmX4_findLastFlip]; omega), (by simp only [rmX4_findFlip, rmX4_findLastFlip]; omega)⟩) ⟨pre_blind, va_recv hK.1 hP (ci := 3) (q0 := 0) rfl rfl, pre_w hK (RO.at hS hRo) hP hD (va_all hD hS hA)⟩ rfl rfl hl.1 rfl (lv_room (Nat.le_of_ble_eq_true rfl)) dX4_findFlip_14 ⟨Nat.zero_le _, Nat.zero_le _⟩) hS (va_all hD hS hA) (fun hE9 H locs hP hD hS => ?_)
      have hP : va_P G vwCl (ww_S q cs v_rising v_falling r8.2.1 r8.2.2.1 r8.2.2.2.1 r8.2.2.2.2.1 r8.2.2.2.2.2) H := hP
      have hD : va_D A (ww_S q cs v_rising v_falling r8.2.1 r8.2.2.1 r8.2.2.2.1 r8.2.2.2.2.1 r8.2.2.2.2.2) := hD
      have hq := Option.some.inj hm
      subst hq; subst hQ
      exact k_zret hx hb hr hlocks hP hD hS rfl hE9 dX4_findFlip_17

theorem hd_X4_fillBurstHeads : yX4_fillBurstHeads.cls ≠ "java/lang/invoke/MethodHandle" ∧ yX4_fillBurstHeads.cls ≠ "java/lang/invoke/VarHandle" ∧ (parseMethodDescriptor yX4_fillBurstHeads.desc).map (fun d => d.parameters.length) = some 3 := by decide +kernel

def M_X4_fillBurstHeads_b6 (n : Nat) (x1 : Int32) (x2 : Int32) (x3 : Int32) (x4 : Int32) (x5 : Int32) (v_turned : (Nat → Int32)) : Option ((Int32 × Int32 × (Nat → Int32)) ⊕ (Int32 × (Nat → Int32))) :=
  if (x2 - 1) ≤ x5 then (some (.inr (x4, v_turned))) else (if x5 = 0 then (if x4 < 0 ∨ 8 ≤ x4.toNatClampNeg then none else some (.inl (x4 + 1, x5 + 1, (upd v_turned x4.toNatClampNeg (x1 + x5))))) else (if ((x3 >>> (((x2 - 2) - x5) &&& 31)) &&& 1) = 1 then (if x4 < 0 ∨ 8 ≤ x4.toNatClampNeg then none else some (.inl (x4 + 1, x5 + 1, (upd v_turned x4.toNatClampNeg (x1 + x5))))) else (some (.inl (x4, x5 + 1, v_turned)))))

def M_X4_fillBurstHeads (n : Nat) (x1 : Int32) (x2 : Int32) (x3 : Int32) (v_turned : (Nat → Int32)) : Option (Int32 × (Nat → Int32)) :=
  (lp (fun x : (Int32 × Int32 × (Nat → Int32)) => M_X4_fillBurstHeads_b6 n x1 x2 x3 x.1 x.2.1 x.2.2) n ((0 : Int32), (0 : Int32), v_turned)).bind fun o6 => some (o6.1, o6.2)

abbrev rmX4_fillBurstHeads : Room := { frames := 0, cells := 0, slots := 0, locals := 0 }
set_option maxHeartbeats 4000000 in
set_option maxRecDepth 100000 in
theorem c_X4_fillBurstHeads (l : Launch) (G : va_G) (cs : CS) (q : Nat → Nat) (sz : Nat) (v_rising : (Nat → Int64)) (v_falling : (Nat → Int64)) (v_turned : (Nat → Int32)) (v_totals : (Nat → Int64)) (v_before : (Nat → Int32)) (v_after : (Nat → Int32)) (v_keptBytes : Int32)   (x1 : Int32) (x2 : Int32) (x3 : Int32) (n : Nat) (res : (Int32 × (Nat → Int32))) (hm : M_X4_fillBurstHeads n x1 x2 x3 v_turned = some res) : Met l yX4_fillBurstHeads wsX4_fillBurstHeads rmX4_fillBurstHeads (va_Pc [.ref (q 0), .int x1, .int x2, .int x3] (PreW G cs sz (ww_S q cs v_rising v_falling v_turned v_totals v_before v_after v_keptBytes) RN)) (QI G res.1 True (ww_S q cs v_rising v_falling res.2 v_totals v_before v_after v_keptBytes) (va_A (ww_S q cs v_rising v_falling v_turned v_totals v_before v_after v_keptBytes) sz)) 0 0 (va_A (ww_S q cs v_rising v_falling v_turned v_totals v_before v_after v_keptBytes) sz) := by
  refine k_enter (Qf := fun A => QI G res.1 True (ww_S q cs v_rising v_falling res.2 v_totals v_before v_after v_keptBytes) A) (cc := cX4_fillBurstHeads) (maxL := 6) (ret := (some .int)) (plainFor_of_name (by decide)) rfl (Nat.le_of_ble_eq_true rfl) ?_
  intro p e s m args below meth c A Q ls H locs hx hb hr hml hown hts hlocks hname hK hA hRo hP hD hS hQ hl
  have hl : lv_has ls 6 [(0, .ref (q 0)), (1, .int x1), (2, .int x2), (3, .int x3)] := hl
  have wd1 := hts (.fieldLink RX4 18 "SumSmith$Slips" "turned" "[I") (List.mem_of_getElem? (i := 1) rfl)
  have hinX4 : ∀ w ∈ wsX40, w ∈ wsX4_fillBurstHeads := fun w h => List.mem_cons_of_mem _ (List.mem_append_right _ h)
  have L6 : ∀ (x1 : Int32) (x2 : Int32) (x3 : Int32) (x4 : Int32) (x5 : Int32) (v_turned : (Nat → Int32)) (out : (Int32 × (Nat → Int32))), lp (fun x : (Int32 × Int32 × (Nat → Int32)) => M_X4_fillBurstHeads_b6 n x1 x2 x3 x.1 x.2.1 x.2.2) n (x4, x5, v_turned) = some out → (∀ (o : (Int32 × (Nat → Int32))), out = o → ∀ (H : Heap) (locs : List Loc), va_P G vwCl (ww_S q cs v_rising v_falling o.2 v_totals v_before v_after v_keptBytes) H → va_D A (ww_S q cs v_rising v_falling o.2 v_totals v_before v_after v_keptBytes) → va_S A s.heap H locs → ∀ (ls : Array Slot), lv_has ls 6 [(4, .int o.1)] → W p l e rmX4_fillBurstHeads s m args below meth c H locs 0 0 Q (F0 m 53 ls [])) → ∀ (H : Heap) (locs : List Loc), va_P G vwCl (ww_S q cs v_rising v_falling v_turned v_totals v_before v_after v_keptBytes) H → va_D A (ww_S q cs v_rising v_falling v_turned v_totals v_before v_after v_keptBytes) → va_S A s.heap H locs → ∀ (ls : Array Slot), lv_has ls 6 [(0, .ref (q 0)), (1, .int x1), (2, .int x2), (3, .int x3), (4, .int x4), (5, .int x5)] → W p l e rmX4_fillBurstHeads s m args below meth c H locs 0 0 Q (F0 m 6 ls []) := by
    intro x1 x2 x3 x4 x5 v_turned out hlp hX
    refine lp_ind (fun x => ∀ (H : Heap) (locs : List Loc), va_P G vwCl (ww_S q cs v_rising v_falling x.2.2 v_totals v_before v_after v_keptBytes) H → va_D A (ww_S q cs v_rising v_falling x.2.2 v_totals v_before v_after v_keptBytes) → va_S A s.heap H locs → ∀ (ls : Array Slot), lv_has ls 6 [(0, .ref (q 0)), (1, .int x1), (2, .int x2), (3, .int x3), (4, .int x.1), (5, .int x.2.1)] → W p l e rmX4_fillBurstHeads s m args below meth c H locs 0 0 Q (F0 m 6 ls [])) ?_ n (x4, x5, v_turned) hlp
    clear hlp hP hD hS hl
    rintro ⟨x4, x5, v_turned⟩ ob hm hst H locs hP hD hS ls hl
    have hm : M_X4_fillBurstHeads_b6 n x1 x2 x3 x4 x5 v_turned = some ob := hm
    have hl : lv_has ls 6 [(0, .ref (q 0)), (1, .int x1), (2, .int x2), (3, .int x3), (4, .int x4), (5, .int x5)] := hl
    have hP : va_P G vwCl (ww_S q cs v_rising v_falling v_turned v_totals v_before v_after v_keptBytes) H := hP
    have hD : va_D A (ww_S q cs v_rising v_falling v_turned v_totals v_before v_after v_keptBytes) := hD
    unfold M_X4_fillBurstHeads_b6 at hm
    refine lv_iload hx hb dX4_fillBurstHeads_6 (lv_at hl 5 rfl) ?_
    refine lv_iload_n hx hb dX4_fillBurstHeads_8 rfl (lv_at hl 2 rfl) ?_
    refine lv_iconst (v := 1) hx hb dX4_fillBurstHeads_9 (by decide) ?_
    refine lv_isub hx hb dX4_fillBurstHeads_10 ?_
    refine lv_icmp_ge (tgt := 53) hx hb dX4_fillBurstHeads_11 (by decide) (fun b1 => ?_) (fun b1 => ?_)
    · have hm := i_t b1 hm
      exact hX _ (st_exit hm hst) H locs hP hD hS ls (lv_sub hl [4] rfl)
    · have hm := i_f b1 hm
      refine lv_iload hx hb dX4_fillBurstHeads_14 (lv_at hl 5 rfl) ?_
      refine lv_if_eq (tgt := 33) hx hb dX4_fillBurstHeads_16 (by decide) (fun b2 => ?_) (fun b2 => ?_)
      · have hm := i_t b2 hm
        refine lv_aload_n hx hb dX4_fillBurstHeads_33 rfl (lv_at hl 0 rfl) ?_
        refine va_get (D := G) (ci := 3) (v := .ref (q 3)) (C := RX4) (T := TX4) (N := 7) hx hb hts hinX4 hown hK.1 hP 0 rfl rfl 2 (by decide) wd1 (fun _ h9 => h9) rfl dX4_fillBurstHeads_34 ?_
        refine lv_iload hx hb dX4_fillBurstHeads_37 (lv_at hl 4 rfl) ?_
        refine lv_iload_n hx hb dX4_fillBurstHeads_39 rfl (lv_at hl 1 rfl) ?_
        refine lv_iload hx hb dX4_fillBurstHeads_40 (lv_at hl 5 rfl) ?_
        refine lv_iadd hx hb dX4_fillBurstHeads_42 ?_
        obtain ⟨h3, hm⟩ := g_in hm
        refine va_iast hx hb hK.1 hP hD hS 3 0 rfl rfl h3 dX4_fillBurstHeads_43 (fun H locs hP hD hS => ?_)
        have hP : va_P G vwCl (ww_S q cs v_rising v_falling (upd v_turned x4.toNatClampNeg (x1 + x5)) v_totals v_before v_after v_keptBytes) H := hP
        have hD : va_D A (ww_S q cs v_rising v_falling (upd v_turned x4.toNatClampNeg (x1 + x5)) v_totals v_before v_after v_keptBytes) := hD
        refine lv_iinc (v := x4 + 1) (lv' := [(4, .int (x4 + 1)), (0, .ref (q 0)), (1, .int x1), (2, .int x2), (3, .int x3), (5, .int x5)]) hx hb dX4_fillBurstHeads_44 hl (k := 4) rfl rfl (by decide) rfl (fun ls hl => ?_)
        refine lv_iinc (v := x5 + 1) (lv' := [(5, .int (x5 + 1)), (4, .int (x4 + 1)), (0, .ref (q 0)), (1, .int x1), (2, .int x2), (3, .int x3)]) hx hb dX4_fillBurstHeads_47 hl (k := 5) rfl rfl (by decide) rfl (fun ls hl => ?_)
        refine lv_goto (tgt := 6) hx hb dX4_fillBurstHeads_50 (by decide) ?_
        exact st_next hm hst H locs hP hD hS ls (lv_sub hl [2, 3, 4, 5, 1, 0] rfl)
      · have hm := i_f b2 hm
        refine lv_iload_n hx hb dX4_fillBurstHeads_19 rfl (lv_at hl 3 rfl) ?_
        refine lv_iload_n hx hb dX4_fillBurstHeads_20 rfl (lv_at hl 2 rfl) ?_
        refine lv_iconst (v := 2) hx hb dX4_fillBurstHeads_21 (by decide) ?_
        refine lv_isub hx hb dX4_fillBurstHeads_22 ?_
        refine lv_iload hx hb dX4_fillBurstHeads_23 (lv_at hl 5 rfl) ?_
        refine lv_isub hx hb dX4_fillBurstHeads_25 ?_
        refine lv_ishr hx hb dX4_fillBurstHeads_26 ?_
        refine lv_iconst (v := 1) hx hb dX4_fillBurstHeads_27 (by decide) ?_
        refine lv_iand hx hb dX4_fillBurstHeads_28 ?_
        refine lv_iconst (v := 1) hx hb dX4_fillBurstHeads_29 (by decide) ?_
        refine lv_icmp_ne (tgt := 47) hx hb dX4_fillBurstHeads_30 (by decide) (fun b4 => ?_) (fun b4 => ?_)
        · have hm := i_f b4 hm
          refine lv_iinc (v := x5 + 1) (lv' := [(5, .int (x5 + 1)), (0, .ref (q 0)), (1, .int x1), (2, .int x2), (3, .int x3), (4, .int x4)]) hx hb dX4_fillBurstHeads_47 hl (k := 5) rfl rfl (by decide) rfl (fun ls hl => ?_)
          refine lv_goto (tgt := 6) hx hb dX4_fillBurstHeads_50 (by decide) ?_
          exact st_next hm hst H locs hP hD hS ls (lv_sub hl [1, 2, 3, 4, 5, 0] rfl)
        · have hm := i_t b4 hm
          refine lv_aload_n hx hb dX4_fillBurstHeads_33 rfl (lv_at hl 0 rfl) ?_
          refine va_get (D := G) (ci := 3) (v := .ref (q 3)) (C := RX4) (T := TX4) (N := 7) hx hb hts hinX4 hown hK.1 hP 0 rfl rfl 2 (by decide) wd1 (fun _ h9 => h9) rfl dX4_fillBurstHeads_34 ?_
          refine lv_iload hx hb dX4_fillBurstHeads_37 (lv_at hl 4 rfl) ?_
          refine lv_iload_n hx hb dX4_fillBurstHeads_39 rfl (lv_at hl 1 rfl) ?_
          refine lv_iload hx hb dX4_fillBurstHeads_40 (lv_at hl 5 rfl) ?_
          refine lv_iadd hx hb dX4_fillBurstHeads_42 ?_
          obtain ⟨h5, hm⟩ := g_in hm
          refine va_iast hx hb hK.1 hP hD hS 3 0 rfl rfl h5 dX4_fillBurstHeads_43 (fun H locs hP hD hS => ?_)
          have hP : va_P G vwCl (ww_S q cs v_rising v_falling (upd v_turned x4.toNatClampNeg (x1 + x5)) v_totals v_before v_after v_keptBytes) H := hP
          have hD : va_D A (ww_S q cs v_rising v_falling (upd v_turned x4.toNatClampNeg (x1 + x5)) v_totals v_before v_after v_keptBytes) := hD
          refine lv_iinc (v := x4 + 1) (lv' := [(4, .int (x4 + 1)), (0, .ref (q 0)), (1, .int x1), (2, .int x2), (3, .int x3), (5, .int x5)]) hx hb dX4_fillBurstHeads_44 hl (k := 4) rfl rfl (by decide) rfl (fun ls hl => ?_)
          refine lv_iinc (v := x5 + 1) (lv' := [(5, .int (x5 + 1)), (4, .int (x4 + 1)), (0, .ref (q 0)), (1, .int x1), (2, .int x2), (3, .int x3)]) hx hb dX4_fillBurstHeads_47 hl (k := 5) rfl rfl (by decide) rfl (fun ls hl => ?_)
          refine lv_goto (tgt := 6) hx hb dX4_fillBurstHeads_50 (by decide) ?_
          exact st_next hm hst H locs hP hD hS ls (lv_sub hl [2, 3, 4, 5, 1, 0] rfl)
  unfold M_X4_fillBurstHeads at hm
  refine lv_iconst (v := 0) hx hb dX4_fillBurstHeads_0 (by decide) ?_
  refine lv_istore (lv' := [(4, .int 0), (0, .ref (q 0)), (1, .int x1), (2, .int x2), (3, .int x3)]) hx hb dX4_fillBurstHeads_1 hl (by decide) rfl (fun ls hl => ?_)
  refine lv_iconst (v := 0) hx hb dX4_fillBurstHeads_3 (by decide) ?_
  refine lv_istore (lv' := [(5, .int 0), (4, .int 0), (0, .ref (q 0)), (1, .int x1), (2, .int x2), (3, .int x3)]) hx hb dX4_fillBurstHeads_4 hl (by decide) rfl (fun ls hl => ?_)
  obtain ⟨o6, hlp6, hm⟩ := bs hm
  refine L6 x1 x2 x3 (0 : Int32) (0 : Int32) v_turned o6 hlp6 (fun oo ho => ?_) H locs hP hD hS ls (lv_sub hl [2, 3, 4, 5, 1, 0] rfl)
  subst ho
  intro H locs hP hD hS ls hl
  have hl : lv_has ls 6 [(4, .int o6.1)] := hl
  have hP : va_P G vwCl (ww_S q cs v_rising v_falling o6.2 v_totals v_before v_after v_keptBytes) H := hP
  have hD : va_D A (ww_S q cs v_rising v_falling o6.2 v_totals v_before v_after v_keptBytes) := hD
  refine lv_iload hx hb dX4_fillBurstHeads_53 (lv_at hl 0 rfl) ?_
  have hq := Option.some.inj hm
  subst hq; subst hQ
  exact k_iret hx hb hr hlocks hP hD hS rfl trivial dX4_fillBurstHeads_55

theorem hd_X4_findBurst : yX4_findBurst.cls ≠ "java/lang/invoke/MethodHandle" ∧ yX4_findBurst.cls ≠ "java/lang/invoke/VarHandle" ∧ (parseMethodDescriptor yX4_findBurst.desc).map (fun d => d.parameters.length) = some 3 := by decide +kernel

def M_X4_findBurst_b41 (n : Nat) (x2 : Int32) (x3 : Int32) (x4 : Int32) (x5 : Int32) (x6 : Int32) (v_rising : (Nat → Int64)) (v_falling : (Nat → Int64)) (v_before : (Nat → Int32)) (v_after : (Nat → Int32)) (v_keptBytes : Int32) (sd : SD) (x7 : Int32) (v_turned : (Nat → Int32)) (v_totals : (Nat → Int64)) : Option ((Int32 × (Nat → Int32) × (Nat → Int64)) ⊕ (((Nat → Int32) × (Nat → Int64)) ⊕ (Int32 × (Nat → Int32) × (Nat → Int64) × (Nat → Int32) × (Nat → Int32) × Int32))) :=
  if x4 ≤ x7 then (some (.inr (.inl (v_turned, v_totals)))) else ((M_X4_fillBurstHeads n x5 x2 x7 v_turned).bind fun r4 => (M_X4_fillTotals n r4.1 v_rising v_falling r4.2 v_totals sd).bind fun r6 => (M_X4_bitsThatPass n x6 r6.1 v_rising v_falling r6.2).bind fun r8 => if r8 = (-1) then (some (.inl (x7 + 1, r4.2, r6.2))) else (if r4.1 < 0 ∨ 8 ≤ r4.1.toNatClampNeg then none else (M_X4_keepTurned n x3 (r4.1 + 1) r8 (upd r4.2 r4.1.toNatClampNeg x6) v_before v_after v_keptBytes).bind fun r12 => some (.inr (.inr (1, (upd r4.2 r4.1.toNatClampNeg x6), r6.2, r12.1, r12.2.1, r12.2.2)))))

def M_X4_findBurst_b19 (n : Nat) (x2 : Int32) (x3 : Int32) (x4 : Int32) (v_rising : (Nat → Int64)) (v_falling : (Nat → Int64)) (v_before : (Nat → Int32)) (v_after : (Nat → Int32)) (v_keptBytes : Int32) (sd : SD) (x5 : Int32) (v_turned : (Nat → Int32)) (v_totals : (Nat → Int64)) : Option ((Int32 × (Nat → Int32) × (Nat → Int64)) ⊕ (((Nat → Int32) × (Nat → Int64)) ⊕ (Int32 × (Nat → Int32) × (Nat → Int64) × (Nat → Int32) × (Nat → Int32) × Int32))) :=
  if (8 * x3) < (x5 + x2) then (some (.inr (.inl (v_turned, v_totals)))) else ((lp (fun x : (Int32 × (Nat → Int32) × (Nat → Int64)) => M_X4_findBurst_b41 n x2 x3 x4 x5 ((x5 + x2) - 1) v_rising v_falling v_before v_after v_keptBytes sd x.1 x.2.1 x.2.2) n ((0 : Int32), v_turned, v_totals)).bind (Sum.elim (fun o13 => some (.inl (x5 + 1, o13.1, o13.2))) (fun r => some (.inr (.inr r)))))

def M_X4_findBurst (n : Nat) (x2 : Int32) (x3 : Int32) (v_rising : (Nat → Int64)) (v_falling : (Nat → Int64)) (v_turned : (Nat → Int32)) (v_totals : (Nat → Int64)) (v_before : (Nat → Int32)) (v_after : (Nat → Int32)) (v_keptBytes : Int32) (sd : SD) : Option (Int32 × (Nat → Int32) × (Nat → Int64) × (Nat → Int32) × (Nat → Int32) × Int32) :=
  if x2 ≤ 2 then ((lp (fun x : (Int32 × (Nat → Int32) × (Nat → Int64)) => M_X4_findBurst_b19 n x2 x3 (1 : Int32) v_rising v_falling v_before v_after v_keptBytes sd x.1 x.2.1 x.2.2) n ((0 : Int32), v_turned, v_totals)).bind (Sum.elim (fun o14 => some (0, o14.1, o14.2, v_before, v_after, v_keptBytes)) (fun r => some r))) else ((lp (fun x : (Int32 × (Nat → Int32) × (Nat → Int64)) => M_X4_findBurst_b19 n x2 x3 ((1 : Int32) <<< ((x2 - 2) &&& 31)) v_rising v_falling v_before v_after v_keptBytes sd x.1 x.2.1 x.2.2) n ((0 : Int32), v_turned, v_totals)).bind (Sum.elim (fun o15 => some (0, o15.1, o15.2, v_before, v_after, v_keptBytes)) (fun r => some r)))

abbrev rmX4_findBurst : Room := { frames := 3, cells := 0, slots := 0, locals := 75 }
set_option maxHeartbeats 4000000 in
set_option maxRecDepth 100000 in
theorem c_X4_findBurst (l : Launch) (G : va_G) (cs : CS) (q : Nat → Nat) (sz : Nat) (v_rising : (Nat → Int64)) (v_falling : (Nat → Int64)) (v_turned : (Nat → Int32)) (v_totals : (Nat → Int64)) (v_before : (Nat → Int32)) (v_after : (Nat → Int32)) (v_keptBytes : Int32)  (sa sw : Nat) (sd : SD) (x2 : Int32) (x3 : Int32) (n : Nat) (res : (Int32 × (Nat → Int32) × (Nat → Int64) × (Nat → Int32) × (Nat → Int32) × Int32)) (hm : M_X4_findBurst n x2 x3 v_rising v_falling v_turned v_totals v_before v_after v_keptBytes sd = some res) : Met l yX4_findBurst wsX4_findBurst rmX4_findBurst (va_Pc [.ref (q 0), .ref sa, .int x2, .int x3] (PreW G cs sz (ww_S q cs v_rising v_falling v_turned v_totals v_before v_after v_keptBytes) (fun _ => some (sa, sw, sd)))) (QI G res.1 (res.1 = 0 ∨ res.1 = 1) (ww_S q cs v_rising v_falling res.2.1 res.2.2.1 res.2.2.2.1 res.2.2.2.2.1 res.2.2.2.2.2) (va_A (ww_S q cs v_rising v_falling v_turned v_totals v_before v_after v_keptBytes) sz)) 0 0 (va_A (ww_S q cs v_rising v_falling v_turned v_totals v_before v_after v_keptBytes) sz) := by
  refine k_enter (Qf := fun A => QI G res.1 (res.1 = 0 ∨ res.1 = 1) (ww_S q cs v_rising v_falling res.2.1 res.2.2.1 res.2.2.2.1 res.2.2.2.2.1 res.2.2.2.2.2) A) (cc := cX4_findBurst) (maxL := 10) (ret := (some .boolean)) (plainFor_of_name (by decide)) rfl (Nat.le_of_ble_eq_true rfl) ?_
  intro p e s m args below meth c A Q ls H locs hx hb hr hml hown hts hlocks hname hK hA hRo hP hD hS hQ hl
  have hl : lv_has ls 10 [(0, .ref (q 0)), (1, .ref sa), (2, .int x2), (3, .int x3)] := hl
  have wd1 := hts (.fieldLink RX4 18 "SumSmith$Slips" "turned" "[I") (List.mem_of_getElem? (i := 1) rfl)
  have hinX4 : ∀ w ∈ wsX40, w ∈ wsX4_findBurst := fun w h => List.mem_cons_of_mem _ (List.mem_append_left _ (List.mem_append_left _ (List.mem_append_right _ h)))
  have L41 : ∀ (x2 : Int32) (x3 : Int32) (x4 : Int32) (x5 : Int32) (x6 : Int32) (x7 : Int32) (v_turned : (Nat → Int32)) (v_totals : (Nat → Int64)) (v_before : (Nat → Int32)) (v_after : (Nat → Int32)) (v_keptBytes : Int32) (out : (((Nat → Int32) × (Nat → Int64)) ⊕ (Int32 × (Nat → Int32) × (Nat → Int64) × (Nat → Int32) × (Nat → Int32) × Int32))), lp (fun x : (Int32 × (Nat → Int32) × (Nat → Int64)) => M_X4_findBurst_b41 n x2 x3 x4 x5 x6 v_rising v_falling v_before v_after v_keptBytes sd x.1 x.2.1 x.2.2) n (x7, v_turned, v_totals) = some out → (∀ r, out = .inr r → r = res) → (∀ (o : ((Nat → Int32) × (Nat → Int64))), out = .inl o → ∀ (H : Heap) (locs : List Loc), va_P G vwCl (ww_S q cs v_rising v_falling o.1 o.2 v_before v_after v_keptBytes) H → va_D A (ww_S q cs v_rising v_falling o.1 o.2 v_before v_after v_keptBytes) → va_S A s.heap H locs → ∀ (ls : Array Slot), lv_has ls 10 [(0, .ref (q 0)), (1, .ref sa), (2, .int x2), (3, .int x3), (4, .int x4), (5, .int x5)] → W p l e rmX4_findBurst s m args below meth c H locs 0 0 Q (F0 m 108 ls [])) → ∀ (H : Heap) (locs : List Loc), va_P G vwCl (ww_S q cs v_rising v_falling v_turned v_totals v_before v_after v_keptBytes) H → va_D A (ww_S q cs v_rising v_falling v_turned v_totals v_before v_after v_keptBytes) → va_S A s.heap H locs → ∀ (ls : Array Slot), lv_has ls 10 [(0, .ref (q 0)), (1, .ref sa), (2, .int x2), (3, .int x3), (4, .int x4), (5, .int x5), (6, .int x6), (7, .int x7)] → W p l e rmX4_findBurst s m args below meth c H locs 0 0 Q (F0 m 41 ls []) := by
    intro x2 x3 x4 x5 x6 x7 v_turned v_totals v_before v_after v_keptBytes out hlp hret hX
    refine lp_ind (fun x => ∀ (H : Heap) (locs : List Loc), va_P G vwCl (ww_S q cs v_rising v_falling x.2.1 x.2.2 v_before v_after v_keptBytes) H → va_D A (ww_S q cs v_rising v_falling x.2.1 x.2.2 v_before v_after v_keptBytes) → va_S A s.heap H locs → ∀ (ls : Array Slot), lv_has ls 10 [(0, .ref (q 0)), (1, .ref sa), (2, .int x2), (3, .int x3), (4, .int x4), (5, .int x5), (6, .int x6), (7, .int x.1)] → W p l e rmX4_findBurst s m args below meth c H locs 0 0 Q (F0 m 41 ls [])) ?_ n (x7, v_turned, v_totals) hlp
    clear hlp hP hD hS hl
    rintro ⟨x7, v_turned, v_totals⟩ ob hm hst H locs hP hD hS ls hl
    have hm : M_X4_findBurst_b41 n x2 x3 x4 x5 x6 v_rising v_falling v_before v_after v_keptBytes sd x7 v_turned v_totals = some ob := hm
    have hl : lv_has ls 10 [(0, .ref (q 0)), (1, .ref sa), (2, .int x2), (3, .int x3), (4, .int x4), (5, .int x5), (6, .int x6), (7, .int x7)] := hl
    have hP : va_P G vwCl (ww_S q cs v_rising v_falling v_turned v_totals v_before v_after v_keptBytes) H := hP
    have hD : va_D A (ww_S q cs v_rising v_falling v_turned v_totals v_before v_after v_keptBytes) := hD
    unfold M_X4_findBurst_b41 at hm
    refine lv_iload hx hb dX4_findBurst_41 (lv_at hl 7 rfl) ?_
    refine lv_iload hx hb dX4_findBurst_43 (lv_at hl 4 rfl) ?_
    refine lv_icmp_ge (tgt := 108) hx hb dX4_findBurst_45 (by decide) (fun b3 => ?_) (fun b3 => ?_)
    · have hm := i_t b3 hm
      exact hX _ (st_exit hm hst) H locs hP hD hS ls (lv_sub hl [0, 1, 2, 3, 4, 5] rfl)
    · have hm := i_f b3 hm
      refine lv_aload_n hx hb dX4_findBurst_48 rfl (lv_at hl 0 rfl) ?_
      refine lv_iload hx hb dX4_findBurst_49 (lv_at hl 5 rfl) ?_
      refine lv_iload_n hx hb dX4_findBurst_51 rfl (lv_at hl 2 rfl) ?_
      refine lv_iload hx hb dX4_findBurst_52 (lv_at hl 7 rfl) ?_
      obtain ⟨r4, hc_r4, hm⟩ := bs hm
      refine k_calli (va_runV (As := [.int x5, .int x2, .int x7]) (rest := []) ⟨hx, hb, hml, hown, hts⟩ (c_X4_fillBurstHeads l G cs q H.size v_rising v_falling v_turned v_totals v_before v_after v_keptBytes   x5 x2 x7 n r4 hc_r4) (cwV 3 hts gX4_findBurst_X4_fillBurstHeads rfl rfl rfl ⟨rfl, hd_X4_fillBurstHeads⟩ ⟨Nat.le_of_ble_eq_true rfl, Nat.le_of_ble_eq_true rfl⟩) ⟨pre_blind, va_recv hK.1 hP (ci := 3) (q0 := 0) rfl rfl, pre_w hK RO.nil hP hD (va_all hD hS hA)⟩ rfl rfl hl.1 rfl (lv_room (Nat.le_of_ble_eq_true rfl)) dX4_findBurst_54 ⟨Nat.zero_le _, Nat.zero_le _⟩) hS (va_all hD hS hA) (fun hE5 H locs hP hD hS => ?_)
      have hP : va_P G vwCl (ww_S q cs v_rising v_falling r4.2 v_totals v_before v_after v_keptBytes) H := hP
      have hD : va_D A (ww_S q cs v_rising v_falling r4.2 v_totals v_before v_after v_keptBytes) := hD
      refine lv_istore (lv' := [(8, .int r4.1), (0, .ref (q 0)), (1, .ref sa), (2, .int x2), (3, .int x3), (4, .int x4), (5, .int x5), (6, .int x6), (7, .int x7)]) hx hb dX4_findBurst_57 hl (by decide) rfl (fun ls hl => ?_)
      refine lv_aload_n hx hb dX4_findBurst_59 rfl (lv_at hl 1 rfl) ?_
      refine lv_iload hx hb dX4_findBurst_60 (lv_at hl 7 rfl) ?_
      refine lv_aload_n hx hb dX4_findBurst_62 rfl (lv_at hl 1 rfl) ?_
      refine lv_aload_n hx hb dX4_findBurst_63 rfl (lv_at hl 2 rfl) ?_
      refine lv_iload hx hb dX4_findBurst_64 (lv_at hl 0 rfl) ?_
      obtain ⟨r6, hc_r6, hm⟩ := bs hm
      refine k_calli (va_runV (As := [.ref sa, .int r4.1]) (rest := [.int x6, .ref (q 0)]) ⟨hx, hb, hml, hown, hts⟩ (c_X4_fillTotals l G cs q H.size v_rising v_falling r4.2 v_totals v_before v_after v_keptBytes  sa sw sd r4.1 n r6 hc_r6) (cwV 2 hts gX4_findBurst_X4_fillTotals rfl rfl rfl ⟨rfl, hd_X4_fillTotals⟩ ⟨Nat.le_of_ble_eq_true rfl, Nat.le_of_ble_eq_true rfl⟩) ⟨pre_blind, va_recv hK.1 hP (ci := 3) (q0 := 0) rfl rfl, pre_w hK (RO.at hS hRo) hP hD (va_all hD hS hA)⟩ rfl rfl hl.1 rfl (lv_room (Nat.le_of_ble_eq_true rfl)) dX4_findBurst_66 ⟨Nat.zero_le _, Nat.zero_le _⟩) hS (va_all hD hS hA) (fun hE7 H locs hP hD hS => ?_)
      have hP : va_P G vwCl (ww_S q cs v_rising v_falling r4.2 r6.2 v_before v_after v_keptBytes) H := hP
      have hD : va_D A (ww_S q cs v_rising v_falling r4.2 r6.2 v_before v_after v_keptBytes) := hD
      obtain ⟨r8, hc_r8, hm⟩ := bs hm
      refine k_calli (va_runV (As := [.int x6, .int r6.1]) (rest := []) ⟨hx, hb, hml, hown, hts⟩ (c_X4_bitsThatPass l G cs q H.size v_rising v_falling r4.2 r6.2 v_before v_after v_keptBytes   x6 r6.1 n r8 hc_r8) (cwV 2 hts gX4_findBurst_X4_bitsThatPass rfl rfl rfl ⟨rfl, hd_X4_bitsThatPass⟩ ⟨Nat.le_of_ble_eq_true rfl, Nat.le_of_ble_eq_true rfl⟩) ⟨pre_blind, va_recv hK.1 hP (ci := 3) (q0 := 0) rfl rfl, pre_w hK RO.nil hP hD (va_all hD hS hA)⟩ rfl rfl hl.1 rfl (lv_room (Nat.le_of_ble_eq_true rfl)) dX4_findBurst_69 ⟨Nat.zero_le _, Nat.zero_le _⟩) hS (va_all hD hS hA) (fun hE9 H locs hP hD hS => ?_)
      have hP : va_P G vwCl (ww_S q cs v_rising v_falling r4.2 r6.2 v_before v_after v_keptBytes) H := hP
      have hD : va_D A (ww_S q cs v_rising v_falling r4.2 r6.2 v_before v_after v_keptBytes) := hD
      refine lv_istore (lv' := [(9, .int r8), (8, .int r4.1), (0, .ref (q 0)), (1, .ref sa), (2, .int x2), (3, .int x3), (4, .int x4), (5, .int x5), (6, .int x6), (7, .int x7)]) hx hb dX4_findBurst_72 hl (by decide) rfl (fun ls hl => ?_)
      refine lv_iload hx hb dX4_findBurst_74 (lv_at hl 0 rfl) ?_
      refine lv_iconst (v := (-1)) hx hb dX4_findBurst_76 (by decide) ?_
      refine lv_icmp_eq (tgt := 102) hx hb dX4_findBurst_77 (by decide) (fun b10 => ?_) (fun b10 => ?_)
      · have hm := i_t b10 hm
        refine lv_iinc (v := x7 + 1) (lv' := [(7, .int (x7 + 1)), (9, .int r8), (8, .int r4.1), (0, .ref (q 0)), (1, .ref sa), (2, .int x2), (3, .int x3), (4, .int x4), (5, .int x5), (6, .int x6)]) hx hb dX4_findBurst_102 hl (k := 9) rfl rfl (by decide) rfl (fun ls hl => ?_)
        refine lv_goto (tgt := 41) hx hb dX4_findBurst_105 (by decide) ?_
        exact st_next hm hst H locs hP hD hS ls (lv_sub hl [3, 4, 5, 6, 7, 8, 9, 0] rfl)
      · have hm := i_f b10 hm
        refine lv_aload_n hx hb dX4_findBurst_80 rfl (lv_at hl 2 rfl) ?_
        refine va_get (D := G) (ci := 3) (v := .ref (q 3)) (C := RX4) (T := TX4) (N := 7) hx hb hts hinX4 hown hK.1 hP 0 rfl rfl 2 (by decide) wd1 (fun _ h9 => h9) rfl dX4_findBurst_81 ?_
        refine lv_iload hx hb dX4_findBurst_84 (lv_at hl 1 rfl) ?_
        refine lv_iload hx hb dX4_findBurst_86 (lv_at hl 8 rfl) ?_
        obtain ⟨h11, hm⟩ := g_in hm
        refine va_iast hx hb hK.1 hP hD hS 3 0 rfl rfl h11 dX4_findBurst_88 (fun H locs hP hD hS => ?_)
        have hP : va_P G vwCl (ww_S q cs v_rising v_falling (upd r4.2 r4.1.toNatClampNeg x6) r6.2 v_before v_after v_keptBytes) H := hP
        have hD : va_D A (ww_S q cs v_rising v_falling (upd r4.2 r4.1.toNatClampNeg x6) r6.2 v_before v_after v_keptBytes) := hD
        refine lv_aload_n hx hb dX4_findBurst_89 rfl (lv_at hl 2 rfl) ?_
        refine lv_iload_n hx hb dX4_findBurst_90 rfl (lv_at hl 5 rfl) ?_
        refine lv_iload hx hb dX4_findBurst_91 (lv_at hl 1 rfl) ?_
        refine lv_iconst (v := 1) hx hb dX4_findBurst_93 (by decide) ?_
        refine lv_iadd hx hb dX4_findBurst_94 ?_
        refine lv_iload hx hb dX4_findBurst_95 (lv_at hl 0 rfl) ?_
        obtain ⟨r12, hc_r12, hm⟩ := bs hm
        refine k_callv (va_runV (As := [.int x3, .int (r4.1 + 1), .int r8]) (rest := []) ⟨hx, hb, hml, hown, hts⟩ (c_X4_keepTurned l G cs q H.size v_rising v_falling (upd r4.2 r4.1.toNatClampNeg x6) r6.2 v_before v_after v_keptBytes   x3 (r4.1 + 1) r8 n r12 hc_r12) (cwV 3 hts gX4_findBurst_X4_keepTurned rfl rfl rfl ⟨rfl, hd_X4_keepTurned⟩ ⟨Nat.le_of_ble_eq_true rfl, Nat.le_of_ble_eq_true rfl⟩) ⟨pre_blind, va_recv hK.1 hP (ci := 3) (q0 := 0) rfl rfl, pre_w hK RO.nil hP hD (va_all hD hS hA)⟩ rfl rfl hl.1 rfl (lv_room (Nat.le_of_ble_eq_true rfl)) dX4_findBurst_97 ⟨Nat.zero_le _, Nat.zero_le _⟩) hS (va_all hD hS hA) (fun H locs hP hD hS => ?_)
        have hP : va_P G vwCl (ww_S q cs v_rising v_falling (upd r4.2 r4.1.toNatClampNeg x6) r6.2 r12.1 r12.2.1 r12.2.2) H := hP
        have hD : va_D A (ww_S q cs v_rising v_falling (upd r4.2 r4.1.toNatClampNeg x6) r6.2 r12.1 r12.2.1 r12.2.2) := hD
        refine lv_iconst (v := 1) hx hb dX4_findBurst_100 (by decide) ?_
        have hq := hret _ (st_exit hm hst)
        subst hq; subst hQ
        exact k_zret hx hb hr hlocks hP hD hS rfl (by decide) dX4_findBurst_101
  have L19 : ∀ (x2 : Int32) (x3 : Int32) (x4 : Int32) (x5 : Int32) (v_turned : (Nat → Int32)) (v_totals : (Nat → Int64)) (v_before : (Nat → Int32)) (v_after : (Nat → Int32)) (v_keptBytes : Int32) (out : (((Nat → Int32) × (Nat → Int64)) ⊕ (Int32 × (Nat → Int32) × (Nat → Int64) × (Nat → Int32) × (Nat → Int32) × Int32))), lp (fun x : (Int32 × (Nat → Int32) × (Nat → Int64)) => M_X4_findBurst_b19 n x2 x3 x4 v_rising v_falling v_before v_after v_keptBytes sd x.1 x.2.1 x.2.2) n (x5, v_turned, v_totals) = some out → (∀ r, out = .inr r → r = res) → (∀ (o : ((Nat → Int32) × (Nat → Int64))), out = .inl o → ∀ (H : Heap) (locs : List Loc), va_P G vwCl (ww_S q cs v_rising v_falling o.1 o.2 v_before v_after v_keptBytes) H → va_D A (ww_S q cs v_rising v_falling o.1 o.2 v_before v_after v_keptBytes) → va_S A s.heap H locs → ∀ (ls : Array Slot), lv_has ls 10 [] → W p l e rmX4_findBurst s m args below meth c H locs 0 0 Q (F0 m 114 ls [])) → ∀ (H : Heap) (locs : List Loc), va_P G vwCl (ww_S q cs v_rising v_falling v_turned v_totals v_before v_after v_keptBytes) H → va_D A (ww_S q cs v_rising v_falling v_turned v_totals v_before v_after v_keptBytes) → va_S A s.heap H locs → ∀ (ls : Array Slot), lv_has ls 10 [(0, .ref (q 0)), (1, .ref sa), (2, .int x2), (3, .int x3), (4, .int x4), (5, .int x5)] → W p l e rmX4_findBurst s m args below meth c H locs 0 0 Q (F0 m 19 ls []) := by
    intro x2 x3 x4 x5 v_turned v_totals v_before v_after v_keptBytes out hlp hret hX
    refine lp_ind (fun x => ∀ (H : Heap) (locs : List Loc), va_P G vwCl (ww_S q cs v_rising v_falling x.2.1 x.2.2 v_before v_after v_keptBytes) H → va_D A (ww_S q cs v_rising v_falling x.2.1 x.2.2 v_before v_after v_keptBytes) → va_S A s.heap H locs → ∀ (ls : Array Slot), lv_has ls 10 [(0, .ref (q 0)), (1, .ref sa), (2, .int x2), (3, .int x3), (4, .int x4), (5, .int x.1)] → W p l e rmX4_findBurst s m args below meth c H locs 0 0 Q (F0 m 19 ls [])) ?_ n (x5, v_turned, v_totals) hlp
    clear hlp hP hD hS hl
    rintro ⟨x5, v_turned, v_totals⟩ ob hm hst H locs hP hD hS ls hl
    have hm : M_X4_findBurst_b19 n x2 x3 x4 v_rising v_falling v_before v_after v_keptBytes sd x5 v_turned v_totals = some ob := hm
    have hl : lv_has ls 10 [(0, .ref (q 0)), (1, .ref sa), (2, .int x2), (3, .int x3), (4, .int x4), (5, .int x5)] := hl
    have hP : va_P G vwCl (ww_S q cs v_rising v_falling v_turned v_totals v_before v_after v_keptBytes) H := hP
    have hD : va_D A (ww_S q cs v_rising v_falling v_turned v_totals v_before v_after v_keptBytes) := hD
    unfold M_X4_findBurst_b19 at hm
    refine lv_iload hx hb dX4_findBurst_19 (lv_at hl 5 rfl) ?_
    refine lv_iload_n hx hb dX4_findBurst_21 rfl (lv_at hl 2 rfl) ?_
    refine lv_iadd hx hb dX4_findBurst_22 ?_
    refine lv_bipush (v := 8) hx hb dX4_findBurst_23 (by decide) ?_
    refine lv_iload_n hx hb dX4_findBurst_25 rfl (lv_at hl 3 rfl) ?_
    refine lv_imul hx hb dX4_findBurst_26 ?_
    refine lv_icmp_gt (tgt := 114) hx hb dX4_findBurst_27 (by decide) (fun b2 => ?_) (fun b2 => ?_)
    · have hm := i_t b2 hm
      exact hX _ (st_exit hm hst) H locs hP hD hS ls (lv_sub hl [] rfl)
    · have hm := i_f b2 hm
      refine lv_iload hx hb dX4_findBurst_30 (lv_at hl 5 rfl) ?_
      refine lv_iload_n hx hb dX4_findBurst_32 rfl (lv_at hl 2 rfl) ?_
      refine lv_iadd hx hb dX4_findBurst_33 ?_
      refine lv_iconst (v := 1) hx hb dX4_findBurst_34 (by decide) ?_
      refine lv_isub hx hb dX4_findBurst_35 ?_
      refine lv_istore (lv' := [(6, .int ((x5 + x2) - 1)), (0, .ref (q 0)), (1, .ref sa), (2, .int x2), (3, .int x3), (4, .int x4), (5, .int x5)]) hx hb dX4_findBurst_36 hl (by decide) rfl (fun ls hl => ?_)
      refine lv_iconst (v := 0) hx hb dX4_findBurst_38 (by decide) ?_
      refine lv_istore (lv' := [(7, .int 0), (6, .int ((x5 + x2) - 1)), (0, .ref (q 0)), (1, .ref sa), (2, .int x2), (3, .int x3), (4, .int x4), (5, .int x5)]) hx hb dX4_findBurst_39 hl (by decide) rfl (fun ls hl => ?_)
      obtain ⟨u13, hlp13, hm⟩ := bs hm
      refine L41 x2 x3 x4 x5 ((x5 + x2) - 1) (0 : Int32) v_turned v_totals v_before v_after v_keptBytes u13 hlp13 (fun r h => by have h2 := se_r h hm; exact hret r (st_exit h2 hst)) (fun o13 ho => ?_) H locs hP hD hS ls (lv_sub hl [2, 3, 4, 5, 6, 7, 1, 0] rfl)
      have hm := se_l ho hm
      intro H locs hP hD hS ls hl
      have hl : lv_has ls 10 [(0, .ref (q 0)), (1, .ref sa), (2, .int x2), (3, .int x3), (4, .int x4), (5, .int x5)] := hl
      have hP : va_P G vwCl (ww_S q cs v_rising v_falling o13.1 o13.2 v_before v_after v_keptBytes) H := hP
      have hD : va_D A (ww_S q cs v_rising v_falling o13.1 o13.2 v_before v_after v_keptBytes) := hD
      refine lv_iinc (v := x5 + 1) (lv' := [(5, .int (x5 + 1)), (0, .ref (q 0)), (1, .ref sa), (2, .int x2), (3, .int x3), (4, .int x4)]) hx hb dX4_findBurst_108 hl (k := 5) rfl rfl (by decide) rfl (fun ls hl => ?_)
      refine lv_goto (tgt := 19) hx hb dX4_findBurst_111 (by decide) ?_
      exact st_next hm hst H locs hP hD hS ls (lv_sub hl [1, 2, 3, 4, 5, 0] rfl)
  unfold M_X4_findBurst at hm
  refine lv_iload_n hx hb dX4_findBurst_0 rfl (lv_at hl 2 rfl) ?_
  refine lv_iconst (v := 2) hx hb dX4_findBurst_1 (by decide) ?_
  refine lv_icmp_le (tgt := 13) hx hb dX4_findBurst_2 (by decide) (fun b1 => ?_) (fun b1 => ?_)
  · have hm := i_t b1 hm
    refine lv_iconst (v := 1) hx hb dX4_findBurst_13 (by decide) ?_
    refine lv_istore (lv' := [(4, .int 1), (0, .ref (q 0)), (1, .ref sa), (2, .int x2), (3, .int x3)]) hx hb dX4_findBurst_14 hl (by decide) rfl (fun ls hl => ?_)
    refine lv_iconst (v := 0) hx hb dX4_findBurst_16 (by decide) ?_
    refine lv_istore (lv' := [(5, .int 0), (4, .int 1), (0, .ref (q 0)), (1, .ref sa), (2, .int x2), (3, .int x3)]) hx hb dX4_findBurst_17 hl (by decide) rfl (fun ls hl => ?_)
    obtain ⟨u14, hlp14, hm⟩ := bs hm
    refine L19 x2 x3 (1 : Int32) (0 : Int32) v_turned v_totals v_before v_after v_keptBytes u14 hlp14 (fun r h => Option.some.inj (se_r h hm)) (fun o14 ho => ?_) H locs hP hD hS ls (lv_sub hl [2, 3, 4, 5, 1, 0] rfl)
    have hm := se_l ho hm
    intro H locs hP hD hS ls hl
    have hl : lv_has ls 10 [] := hl
    have hP : va_P G vwCl (ww_S q cs v_rising v_falling o14.1 o14.2 v_before v_after v_keptBytes) H := hP
    have hD : va_D A (ww_S q cs v_rising v_falling o14.1 o14.2 v_before v_after v_keptBytes) := hD
    refine lv_iconst (v := 0) hx hb dX4_findBurst_114 (by decide) ?_
    have hq := Option.some.inj hm
    subst hq; subst hQ
    exact k_zret hx hb hr hlocks hP hD hS rfl (by decide) dX4_findBurst_115
  · have hm := i_f b1 hm
    refine lv_iconst (v := 1) hx hb dX4_findBurst_5 (by decide) ?_
    refine lv_iload_n hx hb dX4_findBurst_6 rfl (lv_at hl 2 rfl) ?_
    refine lv_iconst (v := 2) hx hb dX4_findBurst_7 (by decide) ?_
    refine lv_isub hx hb dX4_findBurst_8 ?_
    refine lv_ishl hx hb dX4_findBurst_9 ?_
    refine lv_goto (tgt := 14) hx hb dX4_findBurst_10 (by decide) ?_
    refine lv_istore (lv' := [(4, .int ((1 : Int32) <<< ((x2 - 2) &&& 31))), (0, .ref (q 0)), (1, .ref sa), (2, .int x2), (3, .int x3)]) hx hb dX4_findBurst_14 hl (by decide) rfl (fun ls hl => ?_)
    refine lv_iconst (v := 0) hx hb dX4_findBurst_16 (by decide) ?_
    refine lv_istore (lv' := [(5, .int 0), (4, .int ((1 : Int32) <<< ((x2 - 2) &&& 31))), (0, .ref (q 0)), (1, .ref sa), (2, .int x2), (3, .int x3)]) hx hb dX4_findBurst_17 hl (by decide) rfl (fun ls hl => ?_)
    obtain ⟨u15, hlp15, hm⟩ := bs hm
    refine L19 x2 x3 ((1 : Int32) <<< ((x2 - 2) &&& 31)) (0 : Int32) v_turned v_totals v_before v_after v_keptBytes u15 hlp15 (fun r h => Option.some.inj (se_r h hm)) (fun o15 ho => ?_) H locs hP hD hS ls (lv_sub hl [2, 3, 4, 5, 1, 0] rfl)
    have hm := se_l ho hm
    intro H locs hP hD hS ls hl
    have hl : lv_has ls 10 [] := hl
    have hP : va_P G vwCl (ww_S q cs v_rising v_falling o15.1 o15.2 v_before v_after v_keptBytes) H := hP
    have hD : va_D A (ww_S q cs v_rising v_falling o15.1 o15.2 v_before v_after v_keptBytes) := hD
    refine lv_iconst (v := 0) hx hb dX4_findBurst_114 (by decide) ?_
    have hq := Option.some.inj hm
    subst hq; subst hQ
    exact k_zret hx hb hr hlocks hP hD hS rfl (by decide) dX4_findBurst_115

theorem hd_X4_mergedBits : yX4_mergedBits.cls ≠ "java/lang/invoke/MethodHandle" ∧ yX4_mergedBits.cls ≠ "java/lang/invoke/VarHandle" ∧ (parseMethodDescriptor yX4_mergedBits.desc).map (fun d => d.parameters.length) = some 4 := by decide +kernel

def M_X4_mergedBits_b6 (n : Nat) (x2 : Int32) (x3 : Int32) (v_p1 : (Nat → Int64)) (n1 : Nat) (sd : SD) (x4 : Int64) (x6 : Int32) : Option ((Int64 × Int32) ⊕ Int64) :=
  if 8 ≤ x6 then (some (.inr x4)) else (if (x3 &&& ((128 : Int32) >>> (x6 &&& 31))) = 0 then (some (.inl (x4, x6 + 1))) else (if ((8 * x2) + x6) < 0 ∨ n1 ≤ ((8 * x2) + x6).toNatClampNeg then none else (V_merged sd x4 (v_p1 ((8 * x2) + x6).toNatClampNeg)).bind fun r4 => some (.inl (r4, x6 + 1))))

def M_X4_mergedBits (n : Nat) (x2 : Int32) (x3 : Int32) (v_p1 : (Nat → Int64)) (n1 : Nat) (sd : SD) : Option Int64 :=
  (lp (fun x : (Int64 × Int32) => M_X4_mergedBits_b6 n x2 x3 v_p1 n1 sd x.1 x.2) n ((0 : Int64), (0 : Int32))).bind fun o5 => some o5

abbrev ww_X4_mergedBits (cs : CS) (v_p1 : (Nat → Int64)) (a1 : Nat) (n1 : Nat) : va_W := [(a1, .inl (cs.2.1, n1, .inr (.inl v_p1)))]

abbrev rmX4_mergedBits : Room := { frames := 2, cells := 0, slots := 0, locals := 47 }
set_option maxHeartbeats 4000000 in
set_option maxRecDepth 100000 in
theorem v_X4_mergedBits_merged {p : Program} {l : Launch} {e : Env} {s : State} {m : MethodId} {args : Array Value} {below : List Frame} {meth : Method} {c : Code} {H : Heap} {locs : List Loc} {pc : Nat} {Q : State → Prop} {G : va_G} {cs : CS} {A : Nat → Prop} {ws : va_W} {ls : Array Slot} {rest : List Value} {ro : RF} {j sa sw : Nat} {sd : SD} (hx : p.tables.exec = Jvm.exec) (hb : c.code = cX4_mergedBits) (hml : c.maxLocals = 7) (hown : s.vm.findClass RX4 = some m.cls) (hts : ∀ w ∈ wsX4_mergedBits, w.before args s = true) (hK : KK G cs s) (hA : ∀ q, s.heap.size ≤ q → A q) (hRo : RO G ro A s s.heap) (hj : ro j = some (sa, sw, sd)) (hP : va_P G vwCl ws H) (hS : va_S A s.heap H locs) (hl1 : ls.size = 7) (hrest : (rest.map fun v => v.category).sum ≤ 8) (hdg : decode cX4_mergedBits pc = .ok (.invokevirtual 87, 3)) {x1 : Int64}  {x3 : Int64} {r : Int64} (hc : V_merged sd x1 x3 = some r) (kk : ∀ (H1 : Heap) (locs1 : List Loc), va_P G vwCl ws H1 → va_S A s.heap H1 locs1 → W p l e rmX4_mergedBits s m args below meth c H1 locs1 0 0 Q (F0 m (pc + 3) ls (.long r :: rest))) : W p l e rmX4_mergedBits s m args below meth c H locs 0 0 Q (F0 m pc ls (.long x3 :: .long x1 :: .ref sa :: rest)) := by
  obtain ⟨c1, s_k, s_m, s_t, s_p, s_b, s_f, s_l, s_wl, s_wf⟩ := sd
  unfold V_merged at hc
  dsimp only at hc
  by_cases h8 : c1 = 8
  · have hc := i_t h8 hc
    subst h8
    exact k_calll0 (va_runU (As := [.long x1, .long x3]) (rest := rest) ⟨hx, hb, hml, hown, hts⟩ (c_X10_merged l G cs H.size sa sw s_k s_m s_t s_p s_b s_f s_l s_wl s_wf x1 x3 r hc) (va_cwA 2 hts gX4_mergedBits_X10_merged_u87X10 rfl rfl rfl (hK.2.2.2.2.1 _ (List.mem_of_getElem? (i := 3) rfl)) hdv_merged ⟨Nat.le_of_ble_eq_true rfl, Nat.le_of_ble_eq_true rfl⟩) ⟨pre_blind, va_recv hK.1 (RO.at hS hRo j _ hj).1 (ci := 8) (q0 := 0) rfl rfl, pre_w hK (RO.one hj (RO.at hS hRo)) P0 D0 (va_new0 hS hA)⟩ rfl rfl hl1 rfl (lv_room hrest) hdg ⟨Nat.zero_le _, Nat.zero_le _⟩) hP hS hA kk
  have hc := i_f h8 hc
  by_cases h7 : c1 = 7
  · have hc := i_t h7 hc
    subst h7
    exact k_calll0 (va_runU (As := [.long x1, .long x3]) (rest := rest) ⟨hx, hb, hml, hown, hts⟩ (c_X9_merged l G cs H.size sa sw s_k s_m s_t s_p s_b s_f s_l s_wl s_wf x1 x3 r hc) (va_cwA 2 hts gX4_mergedBits_X9_merged_u87X9 rfl rfl rfl (hK.2.2.2.2.1 _ (List.mem_of_getElem? (i := 3) rfl)) hdv_merged ⟨Nat.le_of_ble_eq_true rfl, Nat.le_of_ble_eq_true rfl⟩) ⟨pre_blind, va_recv hK.1 (RO.at hS hRo j _ hj).1 (ci := 7) (q0 := 0) rfl rfl, pre_w hK (RO.one hj (RO.at hS hRo)) P0 D0 (va_new0 hS hA)⟩ rfl rfl hl1 rfl (lv_room hrest) hdg ⟨Nat.zero_le _, Nat.zero_le _⟩) hP hS hA kk
  have hc := i_f h7 hc
  by_cases h6 : c1 = 6
  · have hc := i_t h6 hc
    subst h6
    exact k_calll0 (va_runU (As := [.long x1, .long x3]) (rest := rest) ⟨hx, hb, hml, hown, hts⟩ (c_X8_merged l G cs H.size sa sw s_k s_m s_t s_p s_b s_f s_l s_wl s_wf x1 x3 r (Option.some.inj hc)) (va_cwA 2 hts gX4_mergedBits_X8_merged_u87X8 rfl rfl rfl (hK.2.2.2.2.1 _ (List.mem_of_getElem? (i := 3) rfl)) hdv_merged ⟨Nat.le_of_ble_eq_true rfl, Nat.le_of_ble_eq_true rfl⟩) ⟨pre_blind, va_recv hK.1 (RO.at hS hRo j _ hj).1 (ci := 6) (q0 := 0) rfl rfl, pre_w hK (RO.one hj (RO.at hS hRo)) P0 D0 (va_new0 hS hA)⟩ rfl rfl hl1 rfl (lv_room hrest) hdg ⟨Nat.zero_le _, Nat.zero_le _⟩) hP hS hA kk
  have hc := i_f h6 hc
  by_cases h1 : c1 = 1
  · have hc := i_t h1 hc
    subst h1
    exact k_calll0 (va_runU (As := [.long x1, .long x3]) (rest := rest) ⟨hx, hb, hml, hown, hts⟩ (c_X1_merged l G cs H.size sa sw s_k s_m s_t s_p s_b s_f s_l s_wl s_wf x1 x3 r (Option.some.inj hc)) (va_cwA 2 hts gX4_mergedBits_X1_merged_u87X1 rfl rfl rfl (hK.2.2.2.2.1 _ (List.mem_of_getElem? (i := 3) rfl)) hdv_merged ⟨Nat.le_of_ble_eq_true rfl, Nat.le_of_ble_eq_true rfl⟩) ⟨pre_blind, va_recv hK.1 (RO.at hS hRo j _ hj).1 (ci := 1) (q0 := 0) rfl rfl, pre_w hK (RO.one hj (RO.at hS hRo)) P0 D0 (va_new0 hS hA)⟩ rfl rfl hl1 rfl (lv_room hrest) hdg ⟨Nat.zero_le _, Nat.zero_le _⟩) hP hS hA kk
  have hc := i_f h1 hc
  cases hc
set_option maxHeartbeats 4000000 in
set_option maxRecDepth 100000 in
theorem c_X4_mergedBits (l : Launch) (G : va_G) (cs : CS) (sz : Nat) (v_p1 : (Nat → Int64)) (a1 : Nat) (sa sw : Nat) (n1 : Nat) (sd : SD) (x2 : Int32) (x3 : Int32) (n : Nat) (res : Int64) (hm : M_X4_mergedBits n x2 x3 v_p1 n1 sd = some res) : Met l yX4_mergedBits wsX4_mergedBits rmX4_mergedBits (va_Pc [.ref sa, .ref a1, .int x2, .int x3] (PreW G cs sz (ww_X4_mergedBits cs v_p1 a1 n1) (fun _ => some (sa, sw, sd)))) (QL G res (ww_X4_mergedBits cs v_p1 a1 n1) (va_A (ww_X4_mergedBits cs v_p1 a1 n1) sz)) 0 0 (va_A (ww_X4_mergedBits cs v_p1 a1 n1) sz) := by
  refine k_enter (Qf := fun A => QL G res (ww_X4_mergedBits cs v_p1 a1 n1) A) (cc := cX4_mergedBits) (maxL := 7) (ret := (some .long)) (plainFor_of_name (by decide)) rfl (Nat.le_of_ble_eq_true rfl) ?_
  intro p e s m args below meth c A Q ls H locs hx hb hr hml hown hts hlocks hname hK hA hRo hP hD hS hQ hl
  have hl : lv_has ls 7 [(0, .ref sa), (1, .ref a1), (2, .int x2), (3, .int x3)] := hl
  have L6 : ∀ (x2 : Int32) (x3 : Int32) (x4 : Int64) (x6 : Int32) (out : Int64), lp (fun x : (Int64 × Int32) => M_X4_mergedBits_b6 n x2 x3 v_p1 n1 sd x.1 x.2) n (x4, x6) = some out → (∀ (o : Int64), out = o → ∀ (H : Heap) (locs : List Loc), va_P G vwCl (ww_X4_mergedBits cs v_p1 a1 n1) H → va_D A (ww_X4_mergedBits cs v_p1 a1 n1) → va_S A s.heap H locs → ∀ (ls : Array Slot), lv_has ls 7 [(4, .long o)] → W p l e rmX4_mergedBits s m args below meth c H locs 0 0 Q (F0 m 47 ls [])) → ∀ (H : Heap) (locs : List Loc), va_P G vwCl (ww_X4_mergedBits cs v_p1 a1 n1) H → va_D A (ww_X4_mergedBits cs v_p1 a1 n1) → va_S A s.heap H locs → ∀ (ls : Array Slot), lv_has ls 7 [(0, .ref sa), (1, .ref a1), (2, .int x2), (3, .int x3), (4, .long x4), (6, .int x6)] → W p l e rmX4_mergedBits s m args below meth c H locs 0 0 Q (F0 m 6 ls []) := by
    intro x2 x3 x4 x6 out hlp hX
    refine lp_ind (fun x => ∀ (H : Heap) (locs : List Loc), va_P G vwCl (ww_X4_mergedBits cs v_p1 a1 n1) H → va_D A (ww_X4_mergedBits cs v_p1 a1 n1) → va_S A s.heap H locs → ∀ (ls : Array Slot), lv_has ls 7 [(0, .ref sa), (1, .ref a1), (2, .int x2), (3, .int x3), (4, .long x.1), (6, .int x.2)] → W p l e rmX4_mergedBits s m args below meth c H locs 0 0 Q (F0 m 6 ls [])) ?_ n (x4, x6) hlp
    clear hlp hP hD hS hl
    rintro ⟨x4, x6⟩ ob hm hst H locs hP hD hS ls hl
    have hm : M_X4_mergedBits_b6 n x2 x3 v_p1 n1 sd x4 x6 = some ob := hm
    have hl : lv_has ls 7 [(0, .ref sa), (1, .ref a1), (2, .int x2), (3, .int x3), (4, .long x4), (6, .int x6)] := hl
    have hP : va_P G vwCl (ww_X4_mergedBits cs v_p1 a1 n1) H := hP
    have hD : va_D A (ww_X4_mergedBits cs v_p1 a1 n1) := hD
    unfold M_X4_mergedBits_b6 at hm
    refine lv_iload hx hb dX4_mergedBits_6 (lv_at hl 5 rfl) ?_
    refine lv_bipush (v := 8) hx hb dX4_mergedBits_8 (by decide) ?_
    refine lv_icmp_ge (tgt := 47) hx hb dX4_mergedBits_10 (by decide) (fun b1 => ?_) (fun b1 => ?_)
    · have hm := i_t b1 hm
      exact hX _ (st_exit hm hst) H locs hP hD hS ls (lv_sub hl [4] rfl)
    · have hm := i_f b1 hm
      refine lv_iload_n hx hb dX4_mergedBits_13 rfl (lv_at hl 3 rfl) ?_
      refine lv_sipush (v := 128) hx hb dX4_mergedBits_14 (by decide) ?_
      refine lv_iload hx hb dX4_mergedBits_17 (lv_at hl 5 rfl) ?_
      refine lv_ishr hx hb dX4_mergedBits_19 ?_
      refine lv_iand hx hb dX4_mergedBits_20 ?_
      refine lv_if_eq (tgt := 41) hx hb dX4_mergedBits_21 (by decide) (fun b2 => ?_) (fun b2 => ?_)
      · have hm := i_t b2 hm
        refine lv_iinc (v := x6 + 1) (lv' := [(6, .int (x6 + 1)), (0, .ref sa), (1, .ref a1), (2, .int x2), (3, .int x3), (4, .long x4)]) hx hb dX4_mergedBits_41 hl (k := 5) rfl rfl (by decide) rfl (fun ls hl => ?_)
        refine lv_goto (tgt := 6) hx hb dX4_mergedBits_44 (by decide) ?_
        exact st_next hm hst H locs hP hD hS ls (lv_sub hl [1, 2, 3, 4, 5, 0] rfl)
      · have hm := i_f b2 hm
        refine lv_aload_n hx hb dX4_mergedBits_24 rfl (lv_at hl 0 rfl) ?_
        refine lv_lload hx hb dX4_mergedBits_25 (lv_at hl 4 rfl) ?_
        refine lv_aload_n hx hb dX4_mergedBits_27 rfl (lv_at hl 1 rfl) ?_
        refine lv_bipush (v := 8) hx hb dX4_mergedBits_28 (by decide) ?_
        refine lv_iload_n hx hb dX4_mergedBits_30 rfl (lv_at hl 2 rfl) ?_
        refine lv_imul hx hb dX4_mergedBits_31 ?_
        refine lv_iload hx hb dX4_mergedBits_32 (lv_at hl 5 rfl) ?_
        refine lv_iadd hx hb dX4_mergedBits_34 ?_
        obtain ⟨h3, hm⟩ := g_in hm
        refine va_lald hx hb hK.1 hP 0 1 rfl rfl h3 dX4_mergedBits_35 ?_
        obtain ⟨r4, hc_r4, hm⟩ := bs hm
        refine v_X4_mergedBits_merged (j := 0) hx hb hml hown hts hK hA hRo rfl hP hS hl.1 (Nat.le_of_ble_eq_true rfl) dX4_mergedBits_36 hc_r4 (fun H locs hP hS => ?_)
        refine lv_lstore (lv' := [(4, .long r4), (0, .ref sa), (1, .ref a1), (2, .int x2), (3, .int x3), (6, .int x6)]) hx hb dX4_mergedBits_39 hl (by decide) rfl (fun ls hl => ?_)
        refine lv_iinc (v := x6 + 1) (lv' := [(6, .int (x6 + 1)), (4, .long r4), (0, .ref sa), (1, .ref a1), (2, .int x2), (3, .int x3)]) hx hb dX4_mergedBits_41 hl (k := 5) rfl rfl (by decide) rfl (fun ls hl => ?_)
        refine lv_goto (tgt := 6) hx hb dX4_mergedBits_44 (by decide) ?_
        exact st_next hm hst H locs hP hD hS ls (lv_sub hl [2, 3, 4, 5, 1, 0] rfl)
  unfold M_X4_mergedBits at hm
  refine lv_lconst (v := 0) hx hb dX4_mergedBits_0 (by decide) ?_
  refine lv_lstore (lv' := [(4, .long 0), (0, .ref sa), (1, .ref a1), (2, .int x2), (3, .int x3)]) hx hb dX4_mergedBits_1 hl (by decide) rfl (fun ls hl => ?_)
  refine lv_iconst (v := 0) hx hb dX4_mergedBits_3 (by decide) ?_
  refine lv_istore (lv' := [(6, .int 0), (4, .long 0), (0, .ref sa), (1, .ref a1), (2, .int x2), (3, .int x3)]) hx hb dX4_mergedBits_4 hl (by decide) rfl (fun ls hl => ?_)
  obtain ⟨o5, hlp5, hm⟩ := bs hm
  refine L6 x2 x3 (0 : Int64) (0 : Int32) o5 hlp5 (fun oo ho => ?_) H locs hP hD hS ls (lv_sub hl [2, 3, 4, 5, 1, 0] rfl)
  subst ho
  intro H locs hP hD hS ls hl
  have hl : lv_has ls 7 [(4, .long o5)] := hl
  have hP : va_P G vwCl (ww_X4_mergedBits cs v_p1 a1 n1) H := hP
  have hD : va_D A (ww_X4_mergedBits cs v_p1 a1 n1) := hD
  refine lv_lload hx hb dX4_mergedBits_47 (lv_at hl 0 rfl) ?_
  have hq := Option.some.inj hm
  subst hq; subst hQ
  exact k_lret hx hb hr hlocks hP hD hS rfl dX4_mergedBits_49

theorem hd_X4_byteSlipChange : yX4_byteSlipChange.cls ≠ "java/lang/invoke/MethodHandle" ∧ yX4_byteSlipChange.cls ≠ "java/lang/invoke/VarHandle" ∧ (parseMethodDescriptor yX4_byteSlipChange.desc).map (fun d => d.parameters.length) = some 5 := by decide +kernel

def M_X4_byteSlipChange (n : Nat) (x2 : Int32) (x3 : Int32) (x4 : Int32) (x5 : Int32) (v_rising : (Nat → Int64)) (v_falling : (Nat → Int64)) (sd : SD) : Option Int64 :=
  (M_X4_mergedBits n x3 x5 v_rising 64 sd).bind fun r1 => if x2 = 2 then (some r1) else (if x2 = 5 then ((M_X4_mergedBits n x4 x5 v_rising 64 sd).bind fun r6 => (V_merged sd r1 r6).bind fun r7 => some r7) else ((M_X4_mergedBits n x4 x5 v_falling 64 sd).bind fun r4 => (V_merged sd r1 r4).bind fun r5 => some r5))

abbrev rmX4_byteSlipChange : Room := { frames := 3, cells := 0, slots := 0, locals := 73 }
set_option maxHeartbeats 4000000 in
set_option maxRecDepth 100000 in
theorem v_X4_byteSlipChange_merged {p : Program} {l : Launch} {e : Env} {s : State} {m : MethodId} {args : Array Value} {below : List Frame} {meth : Method} {c : Code} {H : Heap} {locs : List Loc} {pc : Nat} {Q : State → Prop} {G : va_G} {cs : CS} {A : Nat → Prop} {ws : va_W} {ls : Array Slot} {rest : List Value} {ro : RF} {j sa sw : Nat} {sd : SD} (hx : p.tables.exec = Jvm.exec) (hb : c.code = cX4_byteSlipChange) (hml : c.maxLocals = 8) (hown : s.vm.findClass RX4 = some m.cls) (hts : ∀ w ∈ wsX4_byteSlipChange, w.before args s = true) (hK : KK G cs s) (hA : ∀ q, s.heap.size ≤ q → A q) (hRo : RO G ro A s s.heap) (hj : ro j = some (sa, sw, sd)) (hP : va_P G vwCl ws H) (hS : va_S A s.heap H locs) (hl1 : ls.size = 8) (hrest : (rest.map fun v => v.category).sum ≤ 8) (hdg : decode cX4_byteSlipChange pc = .ok (.invokevirtual 87, 3)) {x1 : Int64}  {x3 : Int64} {r : Int64} (hc : V_merged sd x1 x3 = some r) (kk : ∀ (H1 : Heap) (locs1 : List Loc), va_P G vwCl ws H1 → va_S A s.heap H1 locs1 → W p l e rmX4_byteSlipChange s m args below meth c H1 locs1 0 0 Q (F0 m (pc + 3) ls (.long r :: rest))) : W p l e rmX4_byteSlipChange s m args below meth c H locs 0 0 Q (F0 m pc ls (.long x3 :: .long x1 :: .ref sa :: rest)) := by
  obtain ⟨c1, s_k, s_m, s_t, s_p, s_b, s_f, s_l, s_wl, s_wf⟩ := sd
  unfold V_merged at hc
  dsimp only at hc
  by_cases h8 : c1 = 8
  · have hc := i_t h8 hc
    subst h8
    exact k_calll0 (va_runU (As := [.long x1, .long x3]) (rest := rest) ⟨hx, hb, hml, hown, hts⟩ (c_X10_merged l G cs H.size sa sw s_k s_m s_t s_p s_b s_f s_l s_wl s_wf x1 x3 r hc) (va_cwA 2 hts gX4_byteSlipChange_X10_merged_u87X10 rfl rfl rfl (hK.2.2.2.2.1 _ (List.mem_of_getElem? (i := 3) rfl)) hdv_merged ⟨Nat.le_of_ble_eq_true rfl, Nat.le_of_ble_eq_true rfl⟩) ⟨pre_blind, va_recv hK.1 (RO.at hS hRo j _ hj).1 (ci := 8) (q0 := 0) rfl rfl, pre_w hK (RO.one hj (RO.at hS hRo)) P0 D0 (va_new0 hS hA)⟩ rfl rfl hl1 rfl (lv_room hrest) hdg ⟨Nat.zero_le _, Nat.zero_le _⟩) hP hS hA kk
  have hc := i_f h8 hc
  by_cases h7 : c1 = 7
  · have hc := i_t h7 hc
    subst h7
    exact k_calll0 (va_runU (As := [.long x1, .long x3]) (rest := rest) ⟨hx, hb, hml, hown, hts⟩ (c_X9_merged l G cs H.size sa sw s_k s_m s_t s_p s_b s_f s_l s_wl s_wf x1 x3 r hc) (va_cwA 2 hts gX4_byteSlipChange_X9_merged_u87X9 rfl rfl rfl (hK.2.2.2.2.1 _ (List.mem_of_getElem? (i := 3) rfl)) hdv_merged ⟨Nat.le_of_ble_eq_true rfl, Nat.le_of_ble_eq_true rfl⟩) ⟨pre_blind, va_recv hK.1 (RO.at hS hRo j _ hj).1 (ci := 7) (q0 := 0) rfl rfl, pre_w hK (RO.one hj (RO.at hS hRo)) P0 D0 (va_new0 hS hA)⟩ rfl rfl hl1 rfl (lv_room hrest) hdg ⟨Nat.zero_le _, Nat.zero_le _⟩) hP hS hA kk
  have hc := i_f h7 hc
  by_cases h6 : c1 = 6
  · have hc := i_t h6 hc
    subst h6
    exact k_calll0 (va_runU (As := [.long x1, .long x3]) (rest := rest) ⟨hx, hb, hml, hown, hts⟩ (c_X8_merged l G cs H.size sa sw s_k s_m s_t s_p s_b s_f s_l s_wl s_wf x1 x3 r (Option.some.inj hc)) (va_cwA 2 hts gX4_byteSlipChange_X8_merged_u87X8 rfl rfl rfl (hK.2.2.2.2.1 _ (List.mem_of_getElem? (i := 3) rfl)) hdv_merged ⟨Nat.le_of_ble_eq_true rfl, Nat.le_of_ble_eq_true rfl⟩) ⟨pre_blind, va_recv hK.1 (RO.at hS hRo j _ hj).1 (ci := 6) (q0 := 0) rfl rfl, pre_w hK (RO.one hj (RO.at hS hRo)) P0 D0 (va_new0 hS hA)⟩ rfl rfl hl1 rfl (lv_room hrest) hdg ⟨Nat.zero_le _, Nat.zero_le _⟩) hP hS hA kk
  have hc := i_f h6 hc
  by_cases h1 : c1 = 1
  · have hc := i_t h1 hc
    subst h1
    exact k_calll0 (va_runU (As := [.long x1, .long x3]) (rest := rest) ⟨hx, hb, hml, hown, hts⟩ (c_X1_merged l G cs H.size sa sw s_k s_m s_t s_p s_b s_f s_l s_wl s_wf x1 x3 r (Option.some.inj hc)) (va_cwA 2 hts gX4_byteSlipChange_X1_merged_u87X1 rfl rfl rfl (hK.2.2.2.2.1 _ (List.mem_of_getElem? (i := 3) rfl)) hdv_merged ⟨Nat.le_of_ble_eq_true rfl, Nat.le_of_ble_eq_true rfl⟩) ⟨pre_blind, va_recv hK.1 (RO.at hS hRo j _ hj).1 (ci := 1) (q0 := 0) rfl rfl, pre_w hK (RO.one hj (RO.at hS hRo)) P0 D0 (va_new0 hS hA)⟩ rfl rfl hl1 rfl (lv_room hrest) hdg ⟨Nat.zero_le _, Nat.zero_le _⟩) hP hS hA kk
  have hc := i_f h1 hc
  cases hc
set_option maxHeartbeats 4000000 in
set_option maxRecDepth 100000 in
theorem c_X4_byteSlipChange (l : Launch) (G : va_G) (cs : CS) (q : Nat → Nat) (sz : Nat) (v_rising : (Nat → Int64)) (v_falling : (Nat → Int64)) (v_turned : (Nat → Int32)) (v_totals : (Nat → Int64)) (v_before : (Nat → Int32)) (v_after : (Nat → Int32)) (v_keptBytes : Int32)  (sa sw : Nat) (sd : SD) (x2 : Int32) (x3 : Int32) (x4 : Int32) (x5 : Int32) (n : Nat) (res : Int64) (hm : M_X4_byteSlipChange n x2 x3 x4 x5 v_rising v_falling sd = some res) : Met l yX4_byteSlipChange wsX4_byteSlipChange rmX4_byteSlipChange (va_Pc [.ref (q 0), .ref sa, .int x2, .int x3, .int x4, .int x5] (PreW G cs sz (ww_S q cs v_rising v_falling v_turned v_totals v_before v_after v_keptBytes) (fun _ => some (sa, sw, sd)))) (QL G res (ww_S q cs v_rising v_falling v_turned v_totals v_before v_after v_keptBytes) (va_A (ww_S q cs v_rising v_falling v_turned v_totals v_before v_after v_keptBytes) sz)) 0 0 (va_A (ww_S q cs v_rising v_falling v_turned v_totals v_before v_after v_keptBytes) sz) := by
  refine k_enter (Qf := fun A => QL G res (ww_S q cs v_rising v_falling v_turned v_totals v_before v_after v_keptBytes) A) (cc := cX4_byteSlipChange) (maxL := 8) (ret := (some .long)) (plainFor_of_name (by decide)) rfl (Nat.le_of_ble_eq_true rfl) ?_
  intro p e s m args below meth c A Q ls H locs hx hb hr hml hown hts hlocks hname hK hA hRo hP hD hS hQ hl
  have hl : lv_has ls 8 [(0, .ref (q 0)), (1, .ref sa), (2, .int x2), (3, .int x3), (4, .int x4), (5, .int x5)] := hl
  have wd1 := hts (.fieldLink RX4 9 "SumSmith$Slips" "rising" "[J") (List.mem_of_getElem? (i := 1) rfl)
  have wd2 := hts (.fieldLink RX4 15 "SumSmith$Slips" "falling" "[J") (List.mem_of_getElem? (i := 2) rfl)
  have hinX4 : ∀ w ∈ wsX40, w ∈ wsX4_byteSlipChange := fun w h => List.mem_cons_of_mem _ (List.mem_append_left _ (List.mem_append_left _ (List.mem_append_right _ h)))
  unfold M_X4_byteSlipChange at hm
  refine lv_aload_n hx hb dX4_byteSlipChange_0 rfl (lv_at hl 1 rfl) ?_
  refine lv_aload_n hx hb dX4_byteSlipChange_1 rfl (lv_at hl 0 rfl) ?_
  refine va_get (D := G) (ci := 3) (v := .ref (q 1)) (C := RX4) (T := TX4) (N := 7) hx hb hts hinX4 hown hK.1 hP 0 rfl rfl 0 (by decide) wd1 (fun _ h9 => h9) rfl dX4_byteSlipChange_2 ?_
  refine lv_iload_n hx hb dX4_byteSlipChange_5 rfl (lv_at hl 3 rfl) ?_
  refine lv_iload hx hb dX4_byteSlipChange_6 (lv_at hl 5 rfl) ?_
  obtain ⟨r1, hc_r1, hm⟩ := bs hm
  refine k_calllj (wr := [((q 0), .inr (3, [.ref (q 1), .ref (q 2), .ref (q 3), .ref (q 4), .ref (q 5), .ref (q 6), .int v_keptBytes])), ((q 2), .inl (cs.2.1, 64, .inr (.inl v_falling))), ((q 3), .inl (cs.1, 8, .inl v_turned)), ((q 4), .inl (cs.2.1, 64, .inr (.inl v_totals))), ((q 5), .inl (cs.1, 8, .inl v_before)), ((q 6), .inl (cs.1, 8, .inl v_after))]) (w2 := (ww_S q cs v_rising v_falling v_turned v_totals v_before v_after v_keptBytes)) (va_runS (As := [.ref sa, .ref (q 1), .int x3, .int x5]) (rest := []) ⟨hx, hb, hml, hown, hts⟩ (c_X4_mergedBits l G cs H.size v_rising (q 1) sa sw 64 sd x3 x5 n r1 hc_r1) (va_cwS 4 hts gX4_byteSlipChange_X4_mergedBits rfl rfl rfl hd_X4_mergedBits ⟨Nat.le_of_ble_eq_true rfl, Nat.le_of_ble_eq_true rfl⟩) ⟨pre_blind, pre_w hK (RO.at hS hRo) (P_by hP [1] rfl) (hD.sub [1] (by decide) rfl) (va_free hD hS hA [1] rfl)⟩ rfl rfl hl.1 rfl (lv_room (Nat.le_of_ble_eq_true rfl)) dX4_byteSlipChange_8 ⟨Nat.zero_le _, Nat.zero_le _⟩) hP hD hS hA [1] [0, 2, 3, 4, 5, 6] [0, 6, 1, 2, 3, 4, 5] rfl rfl (by decide) (by decide) rfl (by decide) (fun H locs hP hD hS => ?_)
  have hP : va_P G vwCl (ww_S q cs v_rising v_falling v_turned v_totals v_before v_after v_keptBytes) H := hP
  have hD : va_D A (ww_S q cs v_rising v_falling v_turned v_totals v_before v_after v_keptBytes) := hD
  refine lv_lstore (lv' := [(6, .long r1), (0, .ref (q 0)), (1, .ref sa), (2, .int x2), (3, .int x3), (4, .int x4), (5, .int x5)]) hx hb dX4_byteSlipChange_11 hl (by decide) rfl (fun ls hl => ?_)
  refine lv_iload_n hx hb dX4_byteSlipChange_13 rfl (lv_at hl 3 rfl) ?_
  refine lv_iconst (v := 2) hx hb dX4_byteSlipChange_14 (by decide) ?_
  refine lv_icmp_ne (tgt := 21) hx hb dX4_byteSlipChange_15 (by decide) (fun b2 => ?_) (fun b2 => ?_)
  · have hm := i_f b2 hm
    refine lv_aload_n hx hb dX4_byteSlipChange_21 rfl (lv_at hl 2 rfl) ?_
    refine lv_lload hx hb dX4_byteSlipChange_22 (lv_at hl 0 rfl) ?_
    refine lv_aload_n hx hb dX4_byteSlipChange_24 rfl (lv_at hl 2 rfl) ?_
    refine lv_iload_n hx hb dX4_byteSlipChange_25 rfl (lv_at hl 3 rfl) ?_
    refine lv_iconst (v := 5) hx hb dX4_byteSlipChange_26 (by decide) ?_
    refine lv_icmp_ne (tgt := 37) hx hb dX4_byteSlipChange_27 (by decide) (fun b3 => ?_) (fun b3 => ?_)
    · have hm := i_f b3 hm
      refine lv_aload_n hx hb dX4_byteSlipChange_37 rfl (lv_at hl 1 rfl) ?_
      refine va_get (D := G) (ci := 3) (v := .ref (q 2)) (C := RX4) (T := TX4) (N := 7) hx hb hts hinX4 hown hK.1 hP 0 rfl rfl 1 (by decide) wd2 (fun _ h9 => h9) rfl dX4_byteSlipChange_38 ?_
      refine lv_iload hx hb dX4_byteSlipChange_41 (lv_at hl 5 rfl) ?_
      refine lv_iload hx hb dX4_byteSlipChange_43 (lv_at hl 6 rfl) ?_
      obtain ⟨r4, hc_r4, hm⟩ := bs hm
      refine k_calllj (wr := [((q 0), .inr (3, [.ref (q 1), .ref (q 2), .ref (q 3), .ref (q 4), .ref (q 5), .ref (q 6), .int v_keptBytes])), ((q 1), .inl (cs.2.1, 64, .inr (.inl v_rising))), ((q 3), .inl (cs.1, 8, .inl v_turned)), ((q 4), .inl (cs.2.1, 64, .inr (.inl v_totals))), ((q 5), .inl (cs.1, 8, .inl v_before)), ((q 6), .inl (cs.1, 8, .inl v_after))]) (w2 := (ww_S q cs v_rising v_falling v_turned v_totals v_before v_after v_keptBytes)) (va_runS (As := [.ref sa, .ref (q 2), .int x4, .int x5]) (rest := [.long r1, .ref sa]) ⟨hx, hb, hml, hown, hts⟩ (c_X4_mergedBits l G cs H.size v_falling (q 2) sa sw 64 sd x4 x5 n r4 hc_r4) (va_cwS 4 hts gX4_byteSlipChange_X4_mergedBits rfl rfl rfl hd_X4_mergedBits ⟨Nat.le_of_ble_eq_true rfl, Nat.le_of_ble_eq_true rfl⟩) ⟨pre_blind, pre_w hK (RO.at hS hRo) (P_by hP [2] rfl) (hD.sub [2] (by decide) rfl) (va_free hD hS hA [2] rfl)⟩ rfl rfl hl.1 rfl (lv_room (Nat.le_of_ble_eq_true rfl)) dX4_byteSlipChange_45 ⟨Nat.zero_le _, Nat.zero_le _⟩) hP hD hS hA [2] [0, 1, 3, 4, 5, 6] [0, 1, 6, 2, 3, 4, 5] rfl rfl (by decide) (by decide) rfl (by decide) (fun H locs hP hD hS => ?_)
      have hP : va_P G vwCl (ww_S q cs v_rising v_falling v_turned v_totals v_before v_after v_keptBytes) H := hP
      have hD : va_D A (ww_S q cs v_rising v_falling v_turned v_totals v_before v_after v_keptBytes) := hD
      obtain ⟨r5, hc_r5, hm⟩ := bs hm
      refine v_X4_byteSlipChange_merged (j := 0) hx hb hml hown hts hK hA hRo rfl hP hS hl.1 (Nat.le_of_ble_eq_true rfl) dX4_byteSlipChange_48 hc_r5 (fun H locs hP hS => ?_)
      have hq := Option.some.inj hm
      subst hq; subst hQ
      exact k_lret hx hb hr hlocks hP hD hS rfl dX4_byteSlipChange_51
    · have hm := i_t b3 hm
      refine lv_aload_n hx hb dX4_byteSlipChange_30 rfl (lv_at hl 1 rfl) ?_
      refine va_get (D := G) (ci := 3) (v := .ref (q 1)) (C := RX4) (T := TX4) (N := 7) hx hb hts hinX4 hown hK.1 hP 0 rfl rfl 0 (by decide) wd1 (fun _ h9 => h9) rfl dX4_byteSlipChange_31 ?_
      refine lv_goto (tgt := 41) hx hb dX4_byteSlipChange_34 (by decide) ?_
      refine lv_iload hx hb dX4_byteSlipChange_41 (lv_at hl 5 rfl) ?_
      refine lv_iload hx hb dX4_byteSlipChange_43 (lv_at hl 6 rfl) ?_
      obtain ⟨r6, hc_r6, hm⟩ := bs hm
      refine k_calllj (wr := [((q 0), .inr (3, [.ref (q 1), .ref (q 2), .ref (q 3), .ref (q 4), .ref (q 5), .ref (q 6), .int v_keptBytes])), ((q 2), .inl (cs.2.1, 64, .inr (.inl v_falling))), ((q 3), .inl (cs.1, 8, .inl v_turned)), ((q 4), .inl (cs.2.1, 64, .inr (.inl v_totals))), ((q 5), .inl (cs.1, 8, .inl v_before)), ((q 6), .inl (cs.1, 8, .inl v_after))]) (w2 := (ww_S q cs v_rising v_falling v_turned v_totals v_before v_after v_keptBytes)) (va_runS (As := [.ref sa, .ref (q 1), .int x4, .int x5]) (rest := [.long r1, .ref sa]) ⟨hx, hb, hml, hown, hts⟩ (c_X4_mergedBits l G cs H.size v_rising (q 1) sa sw 64 sd x4 x5 n r6 hc_r6) (va_cwS 4 hts gX4_byteSlipChange_X4_mergedBits rfl rfl rfl hd_X4_mergedBits ⟨Nat.le_of_ble_eq_true rfl, Nat.le_of_ble_eq_true rfl⟩) ⟨pre_blind, pre_w hK (RO.at hS hRo) (P_by hP [1] rfl) (hD.sub [1] (by decide) rfl) (va_free hD hS hA [1] rfl)⟩ rfl rfl hl.1 rfl (lv_room (Nat.le_of_ble_eq_true rfl)) dX4_byteSlipChange_45 ⟨Nat.zero_le _, Nat.zero_le _⟩) hP hD hS hA [1] [0, 2, 3, 4, 5, 6] [0, 6, 1, 2, 3, 4, 5] rfl rfl (by decide) (by decide) rfl (by decide) (fun H locs hP hD hS => ?_)
      have hP : va_P G vwCl (ww_S q cs v_rising v_falling v_turned v_totals v_before v_after v_keptBytes) H := hP
      have hD : va_D A (ww_S q cs v_rising v_falling v_turned v_totals v_before v_after v_keptBytes) := hD
      obtain ⟨r7, hc_r7, hm⟩ := bs hm
      refine v_X4_byteSlipChange_merged (j := 0) hx hb hml hown hts hK hA hRo rfl hP hS hl.1 (Nat.le_of_ble_eq_true rfl) dX4_byteSlipChange_48 hc_r7 (fun H locs hP hS => ?_)
      have hq := Option.some.inj hm
      subst hq; subst hQ
      exact k_lret hx hb hr hlocks hP hD hS rfl dX4_byteSlipChange_51
  · have hm := i_t b2 hm
    refine lv_lload hx hb dX4_byteSlipChange_18 (lv_at hl 0 rfl) ?_
    have hq := Option.some.inj hm
    subst hq; subst hQ
    exact k_lret hx hb hr hlocks hP hD hS rfl dX4_byteSlipChange_20

theorem hd_X4_keepByteSlip : yX4_keepByteSlip.cls ≠ "java/lang/invoke/MethodHandle" ∧ yX4_keepByteSlip.cls ≠ "java/lang/invoke/VarHandle" ∧ (parseMethodDescriptor yX4_keepByteSlip.desc).map (fun d => d.parameters.length) = some 5 := by decide +kernel

def M_X4_keepByteSlip (n : Nat) (x1 : Int32) (x2 : Int32) (x3 : Int32) (x4 : Int32) (x5 : Int32) (v_before : (Nat → Int32)) (v_after : (Nat → Int32)) (v_keptBytes : Int32) : Option ((Nat → Int32) × (Nat → Int32) × Int32) :=
  (M_X4_keepZeros n x2 v_before v_after v_keptBytes).bind fun r1 => if x3 < 0 ∨ 8 ≤ x3.toNatClampNeg then none else if x1 = 5 then (if x4 < 0 ∨ 8 ≤ x4.toNatClampNeg then none else some (r1.1, (upd (upd r1.2.1 x3.toNatClampNeg x5) x4.toNatClampNeg x5), r1.2.2)) else (if x1 = 2 then (some (r1.1, (upd r1.2.1 x3.toNatClampNeg x5), r1.2.2)) else (if x4 < 0 ∨ 8 ≤ x4.toNatClampNeg then none else some ((upd r1.1 x4.toNatClampNeg x5), (upd r1.2.1 x3.toNatClampNeg x5), r1.2.2)))

abbrev rmX4_keepByteSlip : Room := { frames := 2, cells := 0, slots := 0, locals := 44 }
set_option maxHeartbeats 4000000 in
set_option maxRecDepth 100000 in
theorem c_X4_keepByteSlip (l : Launch) (G : va_G) (cs : CS) (q : Nat → Nat) (sz : Nat) (v_rising : (Nat → Int64)) (v_falling : (Nat → Int64)) (v_turned : (Nat → Int32)) (v_totals : (Nat → Int64)) (v_before : (Nat → Int32)) (v_after : (Nat → Int32)) (v_keptBytes : Int32)   (x1 : Int32) (x2 : Int32) (x3 : Int32) (x4 : Int32) (x5 : Int32) (n : Nat) (res : ((Nat → Int32) × (Nat → Int32) × Int32)) (hm : M_X4_keepByteSlip n x1 x2 x3 x4 x5 v_before v_after v_keptBytes = some res) : Met l yX4_keepByteSlip wsX4_keepByteSlip rmX4_keepByteSlip (va_Pc [.ref (q 0), .int x1, .int x2, .int x3, .int x4, .int x5] (PreW G cs sz (ww_S q cs v_rising v_falling v_turned v_totals v_before v_after v_keptBytes) RN)) (QV G (ww_S q cs v_rising v_falling v_turned v_totals res.1 res.2.1 res.2.2) (va_A (ww_S q cs v_rising v_falling v_turned v_totals v_before v_after v_keptBytes) sz)) 0 0 (va_A (ww_S q cs v_rising v_falling v_turned v_totals v_before v_after v_keptBytes) sz) := by
  refine k_enter (Qf := fun A => QV G (ww_S q cs v_rising v_falling v_turned v_totals res.1 res.2.1 res.2.2) A) (cc := cX4_keepByteSlip) (maxL := 6) (ret := none) (plainFor_of_name (by decide)) rfl (Nat.le_of_ble_eq_true rfl) ?_
  intro p e s m args below meth c A Q ls H locs hx hb hr hml hown hts hlocks hname hK hA hRo hP hD hS hQ hl
  have hl : lv_has ls 6 [(0, .ref (q 0)), (1, .int x1), (2, .int x2), (3, .int x3), (4, .int x4), (5, .int x5)] := hl
  have wd1 := hts (.fieldLink RX4 28 "SumSmith$Slips" "after" "[I") (List.mem_of_getElem? (i := 1) rfl)
  have wd2 := hts (.fieldLink RX4 25 "SumSmith$Slips" "before" "[I") (List.mem_of_getElem? (i := 2) rfl)
  have hinX4 : ∀ w ∈ wsX40, w ∈ wsX4_keepByteSlip := fun w h => List.mem_cons_of_mem _ (List.mem_append_right _ h)
  unfold M_X4_keepByteSlip at hm
  refine lv_aload_n hx hb dX4_keepByteSlip_0 rfl (lv_at hl 0 rfl) ?_
  refine lv_iload_n hx hb dX4_keepByteSlip_1 rfl (lv_at hl 2 rfl) ?_
  obtain ⟨r1, hc_r1, hm⟩ := bs hm
  refine k_callv (va_runV (As := [.int x2]) (rest := []) ⟨hx, hb, hml, hown, hts⟩ (c_X4_keepZeros l G cs q H.size v_rising v_falling v_turned v_totals v_before v_after v_keptBytes   x2 n r1 hc_r1) (cwV 1 hts gX4_keepByteSlip_X4_keepZeros rfl rfl rfl ⟨rfl, hd_X4_keepZeros⟩ ⟨Nat.le_of_ble_eq_true rfl, Nat.le_of_ble_eq_true rfl⟩) ⟨pre_blind, va_recv hK.1 hP (ci := 3) (q0 := 0) rfl rfl, pre_w hK RO.nil hP hD (va_all hD hS hA)⟩ rfl rfl hl.1 rfl (lv_room (Nat.le_of_ble_eq_true rfl)) dX4_keepByteSlip_2 ⟨Nat.zero_le _, Nat.zero_le _⟩) hS (va_all hD hS hA) (fun H locs hP hD hS => ?_)
  have hP : va_P G vwCl (ww_S q cs v_rising v_falling v_turned v_totals r1.1 r1.2.1 r1.2.2) H := hP
  have hD : va_D A (ww_S q cs v_rising v_falling v_turned v_totals r1.1 r1.2.1 r1.2.2) := hD
  refine lv_aload_n hx hb dX4_keepByteSlip_5 rfl (lv_at hl 0 rfl) ?_
  refine va_get (D := G) (ci := 3) (v := .ref (q 6)) (C := RX4) (T := TX4) (N := 7) hx hb hts hinX4 hown hK.1 hP 0 rfl rfl 5 (by decide) wd1 (fun _ h9 => h9) rfl dX4_keepByteSlip_6 ?_
  refine lv_iload_n hx hb dX4_keepByteSlip_9 rfl (lv_at hl 3 rfl) ?_
  refine lv_iload hx hb dX4_keepByteSlip_10 (lv_at hl 5 rfl) ?_
  obtain ⟨h2, hm⟩ := g_in hm
  refine va_iast hx hb hK.1 hP hD hS 6 0 rfl rfl h2 dX4_keepByteSlip_12 (fun H locs hP hD hS => ?_)
  have hP : va_P G vwCl (ww_S q cs v_rising v_falling v_turned v_totals r1.1 (upd r1.2.1 x3.toNatClampNeg x5) r1.2.2) H := hP
  have hD : va_D A (ww_S q cs v_rising v_falling v_turned v_totals r1.1 (upd r1.2.1 x3.toNatClampNeg x5) r1.2.2) := hD
  refine lv_iload_n hx hb dX4_keepByteSlip_13 rfl (lv_at hl 1 rfl) ?_
  refine lv_iconst (v := 5) hx hb dX4_keepByteSlip_14 (by decide) ?_
  refine lv_icmp_ne (tgt := 30) hx hb dX4_keepByteSlip_15 (by decide) (fun b3 => ?_) (fun b3 => ?_)
  · have hm := i_f b3 hm
    refine lv_iload_n hx hb dX4_keepByteSlip_30 rfl (lv_at hl 1 rfl) ?_
    refine lv_iconst (v := 2) hx hb dX4_keepByteSlip_31 (by decide) ?_
    refine lv_icmp_eq (tgt := 44) hx hb dX4_keepByteSlip_32 (by decide) (fun b4 => ?_) (fun b4 => ?_)
    · have hm := i_t b4 hm
      have hq := Option.some.inj hm
      subst hq; subst hQ
      exact k_vret hx hb hr hlocks hP hD hS dX4_keepByteSlip_44
    · have hm := i_f b4 hm
      refine lv_aload_n hx hb dX4_keepByteSlip_35 rfl (lv_at hl 0 rfl) ?_
      refine va_get (D := G) (ci := 3) (v := .ref (q 5)) (C := RX4) (T := TX4) (N := 7) hx hb hts hinX4 hown hK.1 hP 0 rfl rfl 4 (by decide) wd2 (fun _ h9 => h9) rfl dX4_keepByteSlip_36 ?_
      refine lv_iload hx hb dX4_keepByteSlip_39 (lv_at hl 4 rfl) ?_
      refine lv_iload hx hb dX4_keepByteSlip_41 (lv_at hl 5 rfl) ?_
      obtain ⟨h5, hm⟩ := g_in hm
      refine va_iast hx hb hK.1 hP hD hS 5 0 rfl rfl h5 dX4_keepByteSlip_43 (fun H locs hP hD hS => ?_)
      have hP : va_P G vwCl (ww_S q cs v_rising v_falling v_turned v_totals (upd r1.1 x4.toNatClampNeg x5) (upd r1.2.1 x3.toNatClampNeg x5) r1.2.2) H := hP
      have hD : va_D A (ww_S q cs v_rising v_falling v_turned v_totals (upd r1.1 x4.toNatClampNeg x5) (upd r1.2.1 x3.toNatClampNeg x5) r1.2.2) := hD
      have hq := Option.some.inj hm
      subst hq; subst hQ
      exact k_vret hx hb hr hlocks hP hD hS dX4_keepByteSlip_44
  · have hm := i_t b3 hm
    refine lv_aload_n hx hb dX4_keepByteSlip_18 rfl (lv_at hl 0 rfl) ?_
    refine va_get (D := G) (ci := 3) (v := .ref (q 6)) (C := RX4) (T := TX4) (N := 7) hx hb hts hinX4 hown hK.1 hP 0 rfl rfl 5 (by decide) wd1 (fun _ h9 => h9) rfl dX4_keepByteSlip_19 ?_
    refine lv_iload hx hb dX4_keepByteSlip_22 (lv_at hl 4 rfl) ?_
    refine lv_iload hx hb dX4_keepByteSlip_24 (lv_at hl 5 rfl) ?_
    obtain ⟨h6, hm⟩ := g_in hm
    refine va_iast hx hb hK.1 hP hD hS 6 0 rfl rfl h6 dX4_keepByteSlip_26 (fun H locs hP hD hS => ?_)
    have hP : va_P G vwCl (ww_S q cs v_rising v_falling v_turned v_totals r1.1 (upd (upd r1.2.1 x3.toNatClampNeg x5) x4.toNatClampNeg x5) r1.2.2) H := hP
    have hD : va_D A (ww_S q cs v_rising v_falling v_turned v_totals r1.1 (upd (upd r1.2.1 x3.toNatClampNeg x5) x4.toNatClampNeg x5) r1.2.2) := hD
    refine lv_goto (tgt := 44) hx hb dX4_keepByteSlip_27 (by decide) ?_
    have hq := Option.some.inj hm
    subst hq; subst hQ
    exact k_vret hx hb hr hlocks hP hD hS dX4_keepByteSlip_44

theorem hd_X4_findByteSlip : yX4_findByteSlip.cls ≠ "java/lang/invoke/MethodHandle" ∧ yX4_findByteSlip.cls ≠ "java/lang/invoke/VarHandle" ∧ (parseMethodDescriptor yX4_findByteSlip.desc).map (fun d => d.parameters.length) = some 3 := by decide +kernel

def M_X4_findByteSlip_b36 (n : Nat) (x2 : Int32) (x3 : Int32) (x4 : Int32) (x5 : Int32) (v_rising : (Nat → Int64)) (v_falling : (Nat → Int64)) (v_before : (Nat → Int32)) (v_after : (Nat → Int32)) (v_keptBytes : Int32) (sd : SD) (x6 : Int32) : Option (Int32 ⊕ (Unit ⊕ (Int32 × (Nat → Int32) × (Nat → Int32) × Int32))) :=
  if 255 < x6 then (some (.inr (.inl ()))) else ((M_X4_byteSlipChange n x2 x5 (x5 + x4) x6 v_rising v_falling sd).bind fun r5 => if r5 = 0 then ((M_X4_keepByteSlip n x2 x3 x5 (x5 + x4) x6 v_before v_after v_keptBytes).bind fun r7 => some (.inr (.inr (1, r7.1, r7.2.1, r7.2.2)))) else (some (.inl (x6 + 1))))

def M_X4_findByteSlip_b24 (n : Nat) (x2 : Int32) (x3 : Int32) (x4 : Int32) (v_rising : (Nat → Int64)) (v_falling : (Nat → Int64)) (v_before : (Nat → Int32)) (v_after : (Nat → Int32)) (v_keptBytes : Int32) (sd : SD) (x5 : Int32) : Option (Int32 ⊕ (Unit ⊕ (Int32 × (Nat → Int32) × (Nat → Int32) × Int32))) :=
  if x3 ≤ (x5 + x4) then (some (.inr (.inl ()))) else ((lp (fun x : Int32 => M_X4_findByteSlip_b36 n x2 x3 x4 x5 v_rising v_falling v_before v_after v_keptBytes sd x) n (1 : Int32)).bind (Sum.elim (fun o8 => some (.inl (x5 + 1))) (fun r => some (.inr (.inr r)))))

def M_X4_findByteSlip (n : Nat) (x2 : Int32) (x3 : Int32) (v_rising : (Nat → Int64)) (v_falling : (Nat → Int64)) (v_before : (Nat → Int32)) (v_after : (Nat → Int32)) (v_keptBytes : Int32) (sd : SD) : Option (Int32 × (Nat → Int32) × (Nat → Int32) × Int32) :=
  if x2 = 2 then ((lp (fun x : Int32 => M_X4_findByteSlip_b24 n x2 x3 (0 : Int32) v_rising v_falling v_before v_after v_keptBytes sd x) n (0 : Int32)).bind (Sum.elim (fun o11 => some (0, v_before, v_after, v_keptBytes)) (fun r => some r))) else (if x2 = 4 then ((lp (fun x : Int32 => M_X4_findByteSlip_b24 n x2 x3 (2 : Int32) v_rising v_falling v_before v_after v_keptBytes sd x) n (0 : Int32)).bind (Sum.elim (fun o10 => some (0, v_before, v_after, v_keptBytes)) (fun r => some r))) else ((lp (fun x : Int32 => M_X4_findByteSlip_b24 n x2 x3 (1 : Int32) v_rising v_falling v_before v_after v_keptBytes sd x) n (0 : Int32)).bind (Sum.elim (fun o9 => some (0, v_before, v_after, v_keptBytes)) (fun r => some r))))

abbrev rmX4_findByteSlip : Room := { frames := 4, cells := 0, slots := 0, locals := 100 }
set_option maxHeartbeats 4000000 in
set_option maxRecDepth 100000 in
theorem c_X4_findByteSlip (l : Launch) (G : va_G) (cs : CS) (q : Nat → Nat) (sz : Nat) (v_rising : (Nat → Int64)) (v_falling : (Nat → Int64)) (v_turned : (Nat → Int32)) (v_totals : (Nat → Int64)) (v_before : (Nat → Int32)) (v_after : (Nat → Int32)) (v_keptBytes : Int32)  (sa sw : Nat) (sd : SD) (x2 : Int32) (x3 : Int32) (n : Nat) (res : (Int32 × (Nat → Int32) × (Nat → Int32) × Int32)) (hm : M_X4_findByteSlip n x2 x3 v_rising v_falling v_before v_after v_keptBytes sd = some res) : Met l yX4_findByteSlip wsX4_findByteSlip rmX4_findByteSlip (va_Pc [.ref (q 0), .ref sa, .int x2, .int x3] (PreW G cs sz (ww_S q cs v_rising v_falling v_turned v_totals v_before v_after v_keptBytes) (fun _ => some (sa, sw, sd)))) (QI G res.1 (res.1 = 0 ∨ res.1 = 1) (ww_S q cs v_rising v_falling v_turned v_totals res.2.1 res.2.2.1 res.2.2.2) (va_A (ww_S q cs v_rising v_falling v_turned v_totals v_before v_after v_keptBytes) sz)) 0 0 (va_A (ww_S q cs v_rising v_falling v_turned v_totals v_before v_after v_keptBytes) sz) := by
  refine k_enter (Qf := fun A => QI G res.1 (res.1 = 0 ∨ res.1 = 1) (ww_S q cs v_rising v_falling v_turned v_totals res.2.1 res.2.2.1 res.2.2.2) A) (cc := cX4_findByteSlip) (maxL := 7) (ret := (some .boolean)) (plainFor_of_name (by decide)) rfl (Nat.le_of_ble_eq_true rfl) ?_
  intro p e s m args below meth c A Q ls H locs hx hb hr hml hown hts hlocks hname hK hA hRo hP hD hS hQ hl
  have hl : lv_has ls 7 [(0, .ref (q 0)), (1, .ref sa), (2, .int x2), (3, .int x3)] := hl
  have L36 : ∀ (x2 : Int32) (x3 : Int32) (x4 : Int32) (x5 : Int32) (x6 : Int32) (v_before : (Nat → Int32)) (v_after : (Nat → Int32)) (v_keptBytes : Int32) (out : (Unit ⊕ (Int32 × (Nat → Int32) × (Nat → Int32) × Int32))), lp (fun x : Int32 => M_X4_findByteSlip_b36 n x2 x3 x4 x5 v_rising v_falling v_before v_after v_keptBytes sd x) n x6 = some out → (∀ r, out = .inr r → r = res) → (∀ (o : Unit), out = .inl o → ∀ (H : Heap) (locs : List Loc), va_P G vwCl (ww_S q cs v_rising v_falling v_turned v_totals v_before v_after v_keptBytes) H → va_D A (ww_S q cs v_rising v_falling v_turned v_totals v_before v_after v_keptBytes) → va_S A s.heap H locs → ∀ (ls : Array Slot), lv_has ls 7 [(0, .ref (q 0)), (1, .ref sa), (2, .int x2), (3, .int x3), (4, .int x4), (5, .int x5)] → W p l e rmX4_findByteSlip s m args below meth c H locs 0 0 Q (F0 m 87 ls [])) → ∀ (H : Heap) (locs : List Loc), va_P G vwCl (ww_S q cs v_rising v_falling v_turned v_totals v_before v_after v_keptBytes) H → va_D A (ww_S q cs v_rising v_falling v_turned v_totals v_before v_after v_keptBytes) → va_S A s.heap H locs → ∀ (ls : Array Slot), lv_has ls 7 [(0, .ref (q 0)), (1, .ref sa), (2, .int x2), (3, .int x3), (4, .int x4), (5, .int x5), (6, .int x6)] → W p l e rmX4_findByteSlip s m args below meth c H locs 0 0 Q (F0 m 36 ls []) := by
    intro x2 x3 x4 x5 x6 v_before v_after v_keptBytes out hlp hret hX
    refine lp_ind (fun x => ∀ (H : Heap) (locs : List Loc), va_P G vwCl (ww_S q cs v_rising v_falling v_turned v_totals v_before v_after v_keptBytes) H → va_D A (ww_S q cs v_rising v_falling v_turned v_totals v_before v_after v_keptBytes) → va_S A s.heap H locs → ∀ (ls : Array Slot), lv_has ls 7 [(0, .ref (q 0)), (1, .ref sa), (2, .int x2), (3, .int x3), (4, .int x4), (5, .int x5), (6, .int x)] → W p l e rmX4_findByteSlip s m args below meth c H locs 0 0 Q (F0 m 36 ls [])) ?_ n x6 hlp
    clear hlp hP hD hS hl
    intro x6 ob hm hst H locs hP hD hS ls hl
    have hm : M_X4_findByteSlip_b36 n x2 x3 x4 x5 v_rising v_falling v_before v_after v_keptBytes sd x6 = some ob := hm
    have hl : lv_has ls 7 [(0, .ref (q 0)), (1, .ref sa), (2, .int x2), (3, .int x3), (4, .int x4), (5, .int x5), (6, .int x6)] := hl
    have hP : va_P G vwCl (ww_S q cs v_rising v_falling v_turned v_totals v_before v_after v_keptBytes) H := hP
    have hD : va_D A (ww_S q cs v_rising v_falling v_turned v_totals v_before v_after v_keptBytes) := hD
    unfold M_X4_findByteSlip_b36 at hm
    refine lv_iload hx hb dX4_findByteSlip_36 (lv_at hl 6 rfl) ?_
    refine lv_sipush (v := 255) hx hb dX4_findByteSlip_38 (by decide) ?_
    refine lv_icmp_gt (tgt := 87) hx hb dX4_findByteSlip_41 (by decide) (fun b4 => ?_) (fun b4 => ?_)
    · have hm := i_t b4 hm
      exact hX _ (st_exit hm hst) H locs hP hD hS ls (lv_sub hl [0, 1, 2, 3, 4, 5] rfl)
    · have hm := i_f b4 hm
      refine lv_aload_n hx hb dX4_findByteSlip_44 rfl (lv_at hl 0 rfl) ?_
      refine lv_aload_n hx hb dX4_findByteSlip_45 rfl (lv_at hl 1 rfl) ?_
      refine lv_iload_n hx hb dX4_findByteSlip_46 rfl (lv_at hl 2 rfl) ?_
      refine lv_iload hx hb dX4_findByteSlip_47 (lv_at hl 5 rfl) ?_
      refine lv_iload hx hb dX4_findByteSlip_49 (lv_at hl 5 rfl) ?_
      refine lv_iload hx hb dX4_findByteSlip_51 (lv_at hl 4 rfl) ?_
      refine lv_iadd hx hb dX4_findByteSlip_53 ?_
      refine lv_iload hx hb dX4_findByteSlip_54 (lv_at hl 6 rfl) ?_
      obtain ⟨r5, hc_r5, hm⟩ := bs hm
      refine k_calll (va_runV (As := [.ref sa, .int x2, .int x5, .int (x5 + x4), .int x6]) (rest := []) ⟨hx, hb, hml, hown, hts⟩ (c_X4_byteSlipChange l G cs q H.size v_rising v_falling v_turned v_totals v_before v_after v_keptBytes  sa sw sd x2 x5 (x5 + x4) x6 n r5 hc_r5) (cwV 5 hts gX4_findByteSlip_X4_byteSlipChange rfl rfl rfl ⟨rfl, hd_X4_byteSlipChange⟩ ⟨Nat.le_of_ble_eq_true rfl, Nat.le_of_ble_eq_true rfl⟩) ⟨pre_blind, va_recv hK.1 hP (ci := 3) (q0 := 0) rfl rfl, pre_w hK (RO.at hS hRo) hP hD (va_all hD hS hA)⟩ rfl rfl hl.1 rfl (lv_room (Nat.le_of_ble_eq_true rfl)) dX4_findByteSlip_56 ⟨Nat.zero_le _, Nat.zero_le _⟩) hS (va_all hD hS hA) (fun H locs hP hD hS => ?_)
      have hP : va_P G vwCl (ww_S q cs v_rising v_falling v_turned v_totals v_before v_after v_keptBytes) H := hP
      have hD : va_D A (ww_S q cs v_rising v_falling v_turned v_totals v_before v_after v_keptBytes) := hD
      refine lv_lconst (v := 0) hx hb dX4_findByteSlip_59 (by decide) ?_
      refine W.lcmp hx hb dX4_findByteSlip_60 ?_
      refine lv_if_ne (tgt := 81) hx hb dX4_findByteSlip_61 (by decide) (fun b6 => ?_) (fun b6 => ?_)
      · have b6 := fun h9 => b6 ((lg_cmp_eq _ _).mpr h9)
        have hm := i_f b6 hm
        refine lv_iinc (v := x6 + 1) (lv' := [(6, .int (x6 + 1)), (0, .ref (q 0)), (1, .ref sa), (2, .int x2), (3, .int x3), (4, .int x4), (5, .int x5)]) hx hb dX4_findByteSlip_81 hl (k := 6) rfl rfl (by decide) rfl (fun ls hl => ?_)
        refine lv_goto (tgt := 36) hx hb dX4_findByteSlip_84 (by decide) ?_
        exact st_next hm hst H locs hP hD hS ls (lv_sub hl [1, 2, 3, 4, 5, 6, 0] rfl)
      · have b6 := (lg_cmp_eq _ _).mp b6
        have hm := i_t b6 hm
        refine lv_aload_n hx hb dX4_findByteSlip_64 rfl (lv_at hl 0 rfl) ?_
        refine lv_iload_n hx hb dX4_findByteSlip_65 rfl (lv_at hl 2 rfl) ?_
        refine lv_iload_n hx hb dX4_findByteSlip_66 rfl (lv_at hl 3 rfl) ?_
        refine lv_iload hx hb dX4_findByteSlip_67 (lv_at hl 5 rfl) ?_
        refine lv_iload hx hb dX4_findByteSlip_69 (lv_at hl 5 rfl) ?_
        refine lv_iload hx hb dX4_findByteSlip_71 (lv_at hl 4 rfl) ?_
        refine lv_iadd hx hb dX4_findByteSlip_73 ?_
        refine lv_iload hx hb dX4_findByteSlip_74 (lv_at hl 6 rfl) ?_
        obtain ⟨r7, hc_r7, hm⟩ := bs hm
        refine k_callv (va_runV (As := [.int x2, .int x3, .int x5, .int (x5 + x4), .int x6]) (rest := []) ⟨hx, hb, hml, hown, hts⟩ (c_X4_keepByteSlip l G cs q H.size v_rising v_falling v_turned v_totals v_before v_after v_keptBytes   x2 x3 x5 (x5 + x4) x6 n r7 hc_r7) (cwV 5 hts gX4_findByteSlip_X4_keepByteSlip rfl rfl rfl ⟨rfl, hd_X4_keepByteSlip⟩ ⟨Nat.le_of_ble_eq_true rfl, Nat.le_of_ble_eq_true rfl⟩) ⟨pre_blind, va_recv hK.1 hP (ci := 3) (q0 := 0) rfl rfl, pre_w hK RO.nil hP hD (va_all hD hS hA)⟩ rfl rfl hl.1 rfl (lv_room (Nat.le_of_ble_eq_true rfl)) dX4_findByteSlip_76 ⟨Nat.zero_le _, Nat.zero_le _⟩) hS (va_all hD hS hA) (fun H locs hP hD hS => ?_)
        have hP : va_P G vwCl (ww_S q cs v_rising v_falling v_turned v_totals r7.1 r7.2.1 r7.2.2) H := hP
        have hD : va_D A (ww_S q cs v_rising v_falling v_turned v_totals r7.1 r7.2.1 r7.2.2) := hD
        refine lv_iconst (v := 1) hx hb dX4_findByteSlip_79 (by decide) ?_
        have hq := hret _ (st_exit hm hst)
        subst hq; subst hQ
        exact k_zret hx hb hr hlocks hP hD hS rfl (by decide) dX4_findByteSlip_80
  have L24 : ∀ (x2 : Int32) (x3 : Int32) (x4 : Int32) (x5 : Int32) (v_before : (Nat → Int32)) (v_after : (Nat → Int32)) (v_keptBytes : Int32) (out : (Unit ⊕ (Int32 × (Nat → Int32) × (Nat → Int32) × Int32))), lp (fun x : Int32 => M_X4_findByteSlip_b24 n x2 x3 x4 v_rising v_falling v_before v_after v_keptBytes sd x) n x5 = some out → (∀ r, out = .inr r → r = res) → (∀ (o : Unit), out = .inl o → ∀ (H : Heap) (locs : List Loc), va_P G vwCl (ww_S q cs v_rising v_falling v_turned v_totals v_before v_after v_keptBytes) H → va_D A (ww_S q cs v_rising v_falling v_turned v_totals v_before v_after v_keptBytes) → va_S A s.heap H locs → ∀ (ls : Array Slot), lv_has ls 7 [] → W p l e rmX4_findByteSlip s m args below meth c H locs 0 0 Q (F0 m 93 ls [])) → ∀ (H : Heap) (locs : List Loc), va_P G vwCl (ww_S q cs v_rising v_falling v_turned v_totals v_before v_after v_keptBytes) H → va_D A (ww_S q cs v_rising v_falling v_turned v_totals v_before v_after v_keptBytes) → va_S A s.heap H locs → ∀ (ls : Array Slot), lv_has ls 7 [(0, .ref (q 0)), (1, .ref sa), (2, .int x2), (3, .int x3), (4, .int x4), (5, .int x5)] → W p l e rmX4_findByteSlip s m args below meth c H locs 0 0 Q (F0 m 24 ls []) := by
    intro x2 x3 x4 x5 v_before v_after v_keptBytes out hlp hret hX
    refine lp_ind (fun x => ∀ (H : Heap) (locs : List Loc), va_P G vwCl (ww_S q cs v_rising v_falling v_turned v_totals v_before v_after v_keptBytes) H → va_D A (ww_S q cs v_rising v_falling v_turned v_totals v_before v_after v_keptBytes) → va_S A s.heap H locs → ∀ (ls : Array Slot), lv_has ls 7 [(0, .ref (q 0)), (1, .ref sa), (2, .int x2), (3, .int x3), (4, .int x4), (5, .int x)] → W p l e rmX4_findByteSlip s m args below meth c H locs 0 0 Q (F0 m 24 ls [])) ?_ n x5 hlp
    clear hlp hP hD hS hl
    intro x5 ob hm hst H locs hP hD hS ls hl
    have hm : M_X4_findByteSlip_b24 n x2 x3 x4 v_rising v_falling v_before v_after v_keptBytes sd x5 = some ob := hm
    have hl : lv_has ls 7 [(0, .ref (q 0)), (1, .ref sa), (2, .int x2), (3, .int x3), (4, .int x4), (5, .int x5)] := hl
    have hP : va_P G vwCl (ww_S q cs v_rising v_falling v_turned v_totals v_before v_after v_keptBytes) H := hP
    have hD : va_D A (ww_S q cs v_rising v_falling v_turned v_totals v_before v_after v_keptBytes) := hD
    unfold M_X4_findByteSlip_b24 at hm
    refine lv_iload hx hb dX4_findByteSlip_24 (lv_at hl 5 rfl) ?_
    refine lv_iload hx hb dX4_findByteSlip_26 (lv_at hl 4 rfl) ?_
    refine lv_iadd hx hb dX4_findByteSlip_28 ?_
    refine lv_iload_n hx hb dX4_findByteSlip_29 rfl (lv_at hl 3 rfl) ?_
    refine lv_icmp_ge (tgt := 93) hx hb dX4_findByteSlip_30 (by decide) (fun b3 => ?_) (fun b3 => ?_)
    · have hm := i_t b3 hm
      exact hX _ (st_exit hm hst) H locs hP hD hS ls (lv_sub hl [] rfl)
    · have hm := i_f b3 hm
      refine lv_iconst (v := 1) hx hb dX4_findByteSlip_33 (by decide) ?_
      refine lv_istore (lv' := [(6, .int 1), (0, .ref (q 0)), (1, .ref sa), (2, .int x2), (3, .int x3), (4, .int x4), (5, .int x5)]) hx hb dX4_findByteSlip_34 hl (by decide) rfl (fun ls hl => ?_)
      obtain ⟨u8, hlp8, hm⟩ := bs hm
      refine L36 x2 x3 x4 x5 (1 : Int32) v_before v_after v_keptBytes u8 hlp8 (fun r h => by have h2 := se_r h hm; exact hret r (st_exit h2 hst)) (fun o8 ho => ?_) H locs hP hD hS ls (lv_sub hl [1, 2, 3, 4, 5, 6, 0] rfl)
      have hm := se_l ho hm
      intro H locs hP hD hS ls hl
      have hl : lv_has ls 7 [(0, .ref (q 0)), (1, .ref sa), (2, .int x2), (3, .int x3), (4, .int x4), (5, .int x5)] := hl
      have hP : va_P G vwCl (ww_S q cs v_rising v_falling v_turned v_totals v_before v_after v_keptBytes) H := hP
      have hD : va_D A (ww_S q cs v_rising v_falling v_turned v_totals v_before v_after v_keptBytes) := hD
      refine lv_iinc (v := x5 + 1) (lv' := [(5, .int (x5 + 1)), (0, .ref (q 0)), (1, .ref sa), (2, .int x2), (3, .int x3), (4, .int x4)]) hx hb dX4_findByteSlip_87 hl (k := 5) rfl rfl (by decide) rfl (fun ls hl => ?_)
      refine lv_goto (tgt := 24) hx hb dX4_findByteSlip_90 (by decide) ?_
      exact st_next hm hst H locs hP hD hS ls (lv_sub hl [1, 2, 3, 4, 5, 0] rfl)
  unfold M_X4_findByteSlip at hm
  refine lv_iload_n hx hb dX4_findByteSlip_0 rfl (lv_at hl 2 rfl) ?_
  refine lv_iconst (v := 2) hx hb dX4_findByteSlip_1 (by decide) ?_
  refine lv_icmp_ne (tgt := 9) hx hb dX4_findByteSlip_2 (by decide) (fun b1 => ?_) (fun b1 => ?_)
  · have hm := i_f b1 hm
    refine lv_iload_n hx hb dX4_findByteSlip_9 rfl (lv_at hl 2 rfl) ?_
    refine lv_iconst (v := 4) hx hb dX4_findByteSlip_10 (by decide) ?_
    refine lv_icmp_ne (tgt := 18) hx hb dX4_findByteSlip_11 (by decide) (fun b2 => ?_) (fun b2 => ?_)
    · have hm := i_f b2 hm
      refine lv_iconst (v := 1) hx hb dX4_findByteSlip_18 (by decide) ?_
      refine lv_istore (lv' := [(4, .int 1), (0, .ref (q 0)), (1, .ref sa), (2, .int x2), (3, .int x3)]) hx hb dX4_findByteSlip_19 hl (by decide) rfl (fun ls hl => ?_)
      refine lv_iconst (v := 0) hx hb dX4_findByteSlip_21 (by decide) ?_
      refine lv_istore (lv' := [(5, .int 0), (4, .int 1), (0, .ref (q 0)), (1, .ref sa), (2, .int x2), (3, .int x3)]) hx hb dX4_findByteSlip_22 hl (by decide) rfl (fun ls hl => ?_)
      obtain ⟨u9, hlp9, hm⟩ := bs hm
      refine L24 x2 x3 (1 : Int32) (0 : Int32) v_before v_after v_keptBytes u9 hlp9 (fun r h => Option.some.inj (se_r h hm)) (fun o9 ho => ?_) H locs hP hD hS ls (lv_sub hl [2, 3, 4, 5, 1, 0] rfl)
      have hm := se_l ho hm
      intro H locs hP hD hS ls hl
      have hl : lv_has ls 7 [] := hl
      have hP : va_P G vwCl (ww_S q cs v_rising v_falling v_turned v_totals v_before v_after v_keptBytes) H := hP
      have hD : va_D A (ww_S q cs v_rising v_falling v_turned v_totals v_before v_after v_keptBytes) := hD
      refine lv_iconst (v := 0) hx hb dX4_findByteSlip_93 (by decide) ?_
      have hq := Option.some.inj hm
      subst hq; subst hQ
      exact k_zret hx hb hr hlocks hP hD hS rfl (by decide) dX4_findByteSlip_94
    · have hm := i_t b2 hm
      refine lv_iconst (v := 2) hx hb dX4_findByteSlip_14 (by decide) ?_
      refine lv_goto (tgt := 19) hx hb dX4_findByteSlip_15 (by decide) ?_
      refine lv_istore (lv' := [(4, .int 2), (0, .ref (q 0)), (1, .ref sa), (2, .int x2), (3, .int x3)]) hx hb dX4_findByteSlip_19 hl (by decide) rfl (fun ls hl => ?_)
      refine lv_iconst (v := 0) hx hb dX4_findByteSlip_21 (by decide) ?_
      refine lv_istore (lv' := [(5, .int 0), (4, .int 2), (0, .ref (q 0)), (1, .ref sa), (2, .int x2), (3, .int x3)]) hx hb dX4_findByteSlip_22 hl (by decide) rfl (fun ls hl => ?_)
      obtain ⟨u10, hlp10, hm⟩ := bs hm
      refine L24 x2 x3 (2 : Int32) (0 : Int32) v_before v_after v_keptBytes u10 hlp10 (fun r h => Option.some.inj (se_r h hm)) (fun o10 ho => ?_) H locs hP hD hS ls (lv_sub hl [2, 3, 4, 5, 1, 0] rfl)
      have hm := se_l ho hm
      intro H locs hP hD hS ls hl
      have hl : lv_has ls 7 [] := hl
      have hP : va_P G vwCl (ww_S q cs v_rising v_falling v_turned v_totals v_before v_after v_keptBytes) H := hP
      have hD : va_D A (ww_S q cs v_rising v_falling v_turned v_totals v_before v_after v_keptBytes) := hD
      refine lv_iconst (v := 0) hx hb dX4_findByteSlip_93 (by decide) ?_
      have hq := Option.some.inj hm
      subst hq; subst hQ
      exact k_zret hx hb hr hlocks hP hD hS rfl (by decide) dX4_findByteSlip_94
  · have hm := i_t b1 hm
    refine lv_iconst (v := 0) hx hb dX4_findByteSlip_5 (by decide) ?_
    refine lv_goto (tgt := 19) hx hb dX4_findByteSlip_6 (by decide) ?_
    refine lv_istore (lv' := [(4, .int 0), (0, .ref (q 0)), (1, .ref sa), (2, .int x2), (3, .int x3)]) hx hb dX4_findByteSlip_19 hl (by decide) rfl (fun ls hl => ?_)
    refine lv_iconst (v := 0) hx hb dX4_findByteSlip_21 (by decide) ?_
    refine lv_istore (lv' := [(5, .int 0), (4, .int 0), (0, .ref (q 0)), (1, .ref sa), (2, .int x2), (3, .int x3)]) hx hb dX4_findByteSlip_22 hl (by decide) rfl (fun ls hl => ?_)
    obtain ⟨u11, hlp11, hm⟩ := bs hm
    refine L24 x2 x3 (0 : Int32) (0 : Int32) v_before v_after v_keptBytes u11 hlp11 (fun r h => Option.some.inj (se_r h hm)) (fun o11 ho => ?_) H locs hP hD hS ls (lv_sub hl [2, 3, 4, 5, 1, 0] rfl)
    have hm := se_l ho hm
    intro H locs hP hD hS ls hl
    have hl : lv_has ls 7 [] := hl
    have hP : va_P G vwCl (ww_S q cs v_rising v_falling v_turned v_totals v_before v_after v_keptBytes) H := hP
    have hD : va_D A (ww_S q cs v_rising v_falling v_turned v_totals v_before v_after v_keptBytes) := hD
    refine lv_iconst (v := 0) hx hb dX4_findByteSlip_93 (by decide) ?_
    have hq := Option.some.inj hm
    subst hq; subst hQ
    exact k_zret hx hb hr hlocks hP hD hS rfl (by decide) dX4_findByteSlip_94

theorem hd_X4_findFirst : yX4_findFirst.cls ≠ "java/lang/invoke/MethodHandle" ∧ yX4_findFirst.cls ≠ "java/lang/invoke/VarHandle" ∧ (parseMethodDescriptor yX4_findFirst.desc).map (fun d => d.parameters.length) = some 4 := by decide +kernel

def M_X4_findFirst (n : Nat) (x2 : Int32) (x3 : Int32) (x4 : Int32) (v_rising : (Nat → Int64)) (v_falling : (Nat → Int64)) (v_turned : (Nat → Int32)) (v_totals : (Nat → Int64)) (v_before : (Nat → Int32)) (v_after : (Nat → Int32)) (v_keptBytes : Int32) (sd : SD) : Option (Int32 × (Nat → Int64) × (Nat → Int64) × (Nat → Int32) × (Nat → Int64) × (Nat → Int32) × (Nat → Int32) × Int32) :=
  (M_X4_fillBitChanges n x4 v_rising v_falling sd).bind fun r1 => if x2 = 0 then ((M_X4_findFlip n 4 x3 x4 (0 : Int32) (0 : Int32) r1.1 r1.2 v_turned v_totals v_before v_after v_keptBytes sd).bind fun r8 => some (r8.1, r1.1, r1.2, r8.2.1, r8.2.2.1, r8.2.2.2.1, r8.2.2.2.2.1, r8.2.2.2.2.2)) else (if x2 = 1 then ((M_X4_findBurst n x3 x4 r1.1 r1.2 v_turned v_totals v_before v_after v_keptBytes sd).bind fun r6 => some (r6.1, r1.1, r1.2, r6.2.1, r6.2.2.1, r6.2.2.2.1, r6.2.2.2.2.1, r6.2.2.2.2.2)) else ((M_X4_findByteSlip n x2 x4 r1.1 r1.2 v_before v_after v_keptBytes sd).bind fun r4 => some (r4.1, r1.1, r1.2, v_turned, v_totals, r4.2.1, r4.2.2.1, r4.2.2.2)))

abbrev rmX4_findFirst : Room := { frames := 9, cells := 0, slots := 0, locals := 232 }
set_option maxHeartbeats 4000000 in
set_option maxRecDepth 100000 in
theorem c_X4_findFirst (l : Launch) (G : va_G) (cs : CS) (q : Nat → Nat) (sz : Nat) (v_rising : (Nat → Int64)) (v_falling : (Nat → Int64)) (v_turned : (Nat → Int32)) (v_totals : (Nat → Int64)) (v_before : (Nat → Int32)) (v_after : (Nat → Int32)) (v_keptBytes : Int32)  (sa sw : Nat) (sd : SD) (x2 : Int32) (x3 : Int32) (x4 : Int32) (n : Nat) (res : (Int32 × (Nat → Int64) × (Nat → Int64) × (Nat → Int32) × (Nat → Int64) × (Nat → Int32) × (Nat → Int32) × Int32)) (hm : M_X4_findFirst n x2 x3 x4 v_rising v_falling v_turned v_totals v_before v_after v_keptBytes sd = some res) : Met l yX4_findFirst wsX4_findFirst rmX4_findFirst (va_Pc [.ref (q 0), .ref sa, .int x2, .int x3, .int x4] (PreW G cs sz (ww_S q cs v_rising v_falling v_turned v_totals v_before v_after v_keptBytes) (fun _ => some (sa, sw, sd)))) (QI G res.1 (res.1 = 0 ∨ res.1 = 1) (ww_S q cs res.2.1 res.2.2.1 res.2.2.2.1 res.2.2.2.2.1 res.2.2.2.2.2.1 res.2.2.2.2.2.2.1 res.2.2.2.2.2.2.2) (va_A (ww_S q cs v_rising v_falling v_turned v_totals v_before v_after v_keptBytes) sz)) 0 0 (va_A (ww_S q cs v_rising v_falling v_turned v_totals v_before v_after v_keptBytes) sz) := by
  refine k_enter (Qf := fun A => QI G res.1 (res.1 = 0 ∨ res.1 = 1) (ww_S q cs res.2.1 res.2.2.1 res.2.2.2.1 res.2.2.2.2.1 res.2.2.2.2.2.1 res.2.2.2.2.2.2.1 res.2.2.2.2.2.2.2) A) (cc := cX4_findFirst) (maxL := 5) (ret := (some .boolean)) (plainFor_of_name (by decide)) rfl (Nat.le_of_ble_eq_true rfl) ?_
  intro p e s m args below meth c A Q ls H locs hx hb hr hml hown hts hlocks hname hK hA hRo hP hD hS hQ hl
  have hl : lv_has ls 5 [(0, .ref (q 0)), (1, .ref sa), (2, .int x2), (3, .int x3), (4, .int x4)] := hl
  unfold M_X4_findFirst at hm
  refine lv_aload_n hx hb dX4_findFirst_0 rfl (lv_at hl 0 rfl) ?_
  refine lv_aload_n hx hb dX4_findFirst_1 rfl (lv_at hl 1 rfl) ?_
  refine lv_iload hx hb dX4_findFirst_2 (lv_at hl 4 rfl) ?_
  obtain ⟨r1, hc_r1, hm⟩ := bs hm
  refine k_callv (va_runV (As := [.ref sa, .int x4]) (rest := []) ⟨hx, hb, hml, hown, hts⟩ (c_X4_fillBitChanges l G cs q H.size v_rising v_falling v_turned v_totals v_before v_after v_keptBytes  sa sw sd x4 n r1 hc_r1) (cwV 2 hts gX4_findFirst_X4_fillBitChanges rfl rfl rfl ⟨rfl, hd_X4_fillBitChanges⟩ ⟨Nat.le_of_ble_eq_true rfl, Nat.le_of_ble_eq_true rfl⟩) ⟨pre_blind, va_recv hK.1 hP (ci := 3) (q0 := 0) rfl rfl, pre_w hK (RO.at hS hRo) hP hD (va_all hD hS hA)⟩ rfl rfl hl.1 rfl (lv_room (Nat.le_of_ble_eq_true rfl)) dX4_findFirst_4 ⟨Nat.zero_le _, Nat.zero_le _⟩) hS (va_all hD hS hA) (fun H locs hP hD hS => ?_)
  have hP : va_P G vwCl (ww_S q cs r1.1 r1.2 v_turned v_totals v_before v_after v_keptBytes) H := hP
  have hD : va_D A (ww_S q cs r1.1 r1.2 v_turned v_totals v_before v_after v_keptBytes) := hD
  refine lv_iload_n hx hb dX4_findFirst_7 rfl (lv_at hl 2 rfl) ?_
  refine lv_if_ne (tgt := 22) hx hb dX4_findFirst_8 (by decide) (fun b2 => ?_) (fun b2 => ?_)
  · have hm := i_f b2 hm
    refine lv_iload_n hx hb dX4_findFirst_22 rfl (lv_at hl 2 rfl) ?_
    refine lv_iconst (v := 1) hx hb dX4_findFirst_23 (by decide) ?_
    refine lv_icmp_ne (tgt := 38) hx hb dX4_findFirst_24 (by decide) (fun b3 => ?_) (fun b3 => ?_)
    · have hm := i_f b3 hm
      refine lv_aload_n hx hb dX4_findFirst_38 rfl (lv_at hl 0 rfl) ?_
      refine lv_aload_n hx hb dX4_findFirst_39 rfl (lv_at hl 1 rfl) ?_
      refine lv_iload_n hx hb dX4_findFirst_40 rfl (lv_at hl 2 rfl) ?_
      refine lv_iload hx hb dX4_findFirst_41 (lv_at hl 4 rfl) ?_
      obtain ⟨r4, hc_r4, hm⟩ := bs hm
      refine k_calli (va_runV (As := [.ref sa, .int x2, .int x4]) (rest := []) ⟨hx, hb, hml, hown, hts⟩ (c_X4_findByteSlip l G cs q H.size r1.1 r1.2 v_turned v_totals v_before v_after v_keptBytes  sa sw sd x2 x4 n r4 hc_r4) (cwV 3 hts gX4_findFirst_X4_findByteSlip rfl rfl rfl ⟨rfl, hd_X4_findByteSlip⟩ ⟨Nat.le_of_ble_eq_true rfl, Nat.le_of_ble_eq_true rfl⟩) ⟨pre_blind, va_recv hK.1 hP (ci := 3) (q0 := 0) rfl rfl, pre_w hK (RO.at hS hRo) hP hD (va_all hD hS hA)⟩ rfl rfl hl.1 rfl (lv_room (Nat.le_of_ble_eq_true rfl)) dX4_findFirst_43 ⟨Nat.zero_le _, Nat.zero_le _⟩) hS (va_all hD hS hA) (fun hE5 H locs hP hD hS => ?_)
      have hP : va_P G vwCl (ww_S q cs r1.1 r1.2 v_turned v_totals r4.2.1 r4.2.2.1 r4.2.2.2) H := hP
      have hD : va_D A (ww_S q cs r1.1 r1.2 v_turned v_totals r4.2.1 r4.2.2.1 r4.2.2.2) := hD
      have hq := Option.some.inj hm
      subst hq; subst hQ
      exact k_zret hx hb hr hlocks hP hD hS rfl hE5 dX4_findFirst_46
    · have hm := i_t b3 hm
      refine lv_aload_n hx hb dX4_findFirst_27 rfl (lv_at hl 0 rfl) ?_
      refine lv_aload_n hx hb dX4_findFirst_28 rfl (lv_at hl 1 rfl) ?_
      refine lv_iload_n hx hb dX4_findFirst_29 rfl (lv_at hl 3 rfl) ?_
      refine lv_iload hx hb dX4_findFirst_30 (lv_at hl 4 rfl) ?_
      obtain ⟨r6, hc_r6, hm⟩ := bs hm
      refine k_calli (va_runV (As := [.ref sa, .int x3, .int x4]) (rest := []) ⟨hx, hb, hml, hown, hts⟩ (c_X4_findBurst l G cs q H.size r1.1 r1.2 v_turned v_totals v_before v_after v_keptBytes  sa sw sd x3 x4 n r6 hc_r6) (cwV 3 hts gX4_findFirst_X4_findBurst rfl rfl rfl ⟨rfl, hd_X4_findBurst⟩ ⟨Nat.le_of_ble_eq_true rfl, Nat.le_of_ble_eq_true rfl⟩) ⟨pre_blind, va_recv hK.1 hP (ci := 3) (q0 := 0) rfl rfl, pre_w hK (RO.at hS hRo) hP hD (va_all hD hS hA)⟩ rfl rfl hl.1 rfl (lv_room (Nat.le_of_ble_eq_true rfl)) dX4_findFirst_32 ⟨Nat.zero_le _, Nat.zero_le _⟩) hS (va_all hD hS hA) (fun hE7 H locs hP hD hS => ?_)
      have hP : va_P G vwCl (ww_S q cs r1.1 r1.2 r6.2.1 r6.2.2.1 r6.2.2.2.1 r6.2.2.2.2.1 r6.2.2.2.2.2) H := hP
      have hD : va_D A (ww_S q cs r1.1 r1.2 r6.2.1 r6.2.2.1 r6.2.2.2.1 r6.2.2.2.2.1 r6.2.2.2.2.2) := hD
      refine lv_goto (tgt := 46) hx hb dX4_findFirst_35 (by decide) ?_
      have hq := Option.some.inj hm
      subst hq; subst hQ
      exact k_zret hx hb hr hlocks hP hD hS rfl hE7 dX4_findFirst_46
  · have hm := i_t b2 hm
    refine lv_aload_n hx hb dX4_findFirst_11 rfl (lv_at hl 0 rfl) ?_
    refine lv_aload_n hx hb dX4_findFirst_12 rfl (lv_at hl 1 rfl) ?_
    refine lv_iload_n hx hb dX4_findFirst_13 rfl (lv_at hl 3 rfl) ?_
    refine lv_iload hx hb dX4_findFirst_14 (lv_at hl 4 rfl) ?_
    refine lv_iconst (v := 0) hx hb dX4_findFirst_16 (by decide) ?_
    refine lv_iconst (v := 0) hx hb dX4_findFirst_17 (by decide) ?_
    obtain ⟨r8, hc_r8, hm⟩ := bs hm
    refine k_calli (va_runV (As := [.ref sa, .int x3, .int x4, .int 0, .int 0]) (rest := []) ⟨hx, hb, hml, hown, hts⟩ (c_X4_findFlip 4 l G cs q H.size r1.1 r1.2 v_turned v_totals v_before v_after v_keptBytes  sa sw sd x3 x4 (0 : Int32) (0 : Int32) n r8 hc_r8) (cwV 5 hts gX4_findFirst_X4_findFlip rfl rfl rfl ⟨rfl, hd_X4_findFlip⟩ ⟨Nat.le_of_ble_eq_true rfl, Nat.le_of_ble_eq_true rfl⟩) ⟨pre_blind, va_recv hK.1 hP (ci := 3) (q0 := 0) rfl rfl, pre_w hK (RO.at hS hRo) hP hD (va_all hD hS hA)⟩ rfl rfl hl.1 rfl (lv_room (Nat.le_of_ble_eq_true rfl)) dX4_findFirst_18 ⟨Nat.zero_le _, Nat.zero_le _⟩) hS (va_all hD hS hA) (fun hE9 H locs hP hD hS => ?_)
    have hP : va_P G vwCl (ww_S q cs r1.1 r1.2 r8.2.1 r8.2.2.1 r8.2.2.2.1 r8.2.2.2.2.1 r8.2.2.2.2.2) H := hP
    have hD : va_D A (ww_S q cs r1.1 r1.2 r8.2.1 r8.2.2.1 r8.2.2.2.1 r8.2.2.2.2.1 r8.2.2.2.2.2) := hD
    have hq := Option.some.inj hm
    subst hq; subst hQ
    exact k_zret hx hb hr hlocks hP hD hS rfl hE9 dX4_findFirst_21
