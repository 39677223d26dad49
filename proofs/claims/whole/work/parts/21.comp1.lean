theorem hd_J6_numberOfTrailingZeros_0f7a4 : yJ6_numberOfTrailingZeros_0f7a4.cls ≠ "java/lang/invoke/MethodHandle" ∧ yJ6_numberOfTrailingZeros_0f7a4.cls ≠ "java/lang/invoke/VarHandle" ∧ (parseMethodDescriptor yJ6_numberOfTrailingZeros_0f7a4.desc).map (fun d => d.parameters.length) = some 1 := by decide +kernel

def M_J6_numberOfTrailingZeros_0f7a4 (x0 : Int32)  : Int32 :=
  if 0 < ((x0 ^^^ (-1)) &&& (x0 - 1)) then (if ((x0 ^^^ (-1)) &&& (x0 - 1)) ≤ 65536 then (if ((x0 ^^^ (-1)) &&& (x0 - 1)) ≤ 256 then (if ((x0 ^^^ (-1)) &&& (x0 - 1)) ≤ 16 then (if ((x0 ^^^ (-1)) &&& (x0 - 1)) ≤ 4 then ((1 + ((((x0 ^^^ (-1)) &&& (x0 - 1)).toUInt32 >>> ((1 : Int32).toUInt32 &&& Int32.toUInt32 31)).toInt32))) else (((1 + 2) + ((((((x0 ^^^ (-1)) &&& (x0 - 1)).toUInt32 >>> ((2 : Int32).toUInt32 &&& Int32.toUInt32 31)).toInt32).toUInt32 >>> ((1 : Int32).toUInt32 &&& Int32.toUInt32 31)).toInt32)))) else (if ((((x0 ^^^ (-1)) &&& (x0 - 1)).toUInt32 >>> ((4 : Int32).toUInt32 &&& Int32.toUInt32 31)).toInt32) ≤ 4 then (((1 + 4) + ((((((x0 ^^^ (-1)) &&& (x0 - 1)).toUInt32 >>> ((4 : Int32).toUInt32 &&& Int32.toUInt32 31)).toInt32).toUInt32 >>> ((1 : Int32).toUInt32 &&& Int32.toUInt32 31)).toInt32))) else ((((1 + 4) + 2) + ((((((((x0 ^^^ (-1)) &&& (x0 - 1)).toUInt32 >>> ((4 : Int32).toUInt32 &&& Int32.toUInt32 31)).toInt32).toUInt32 >>> ((2 : Int32).toUInt32 &&& Int32.toUInt32 31)).toInt32).toUInt32 >>> ((1 : Int32).toUInt32 &&& Int32.toUInt32 31)).toInt32))))) else (if ((((x0 ^^^ (-1)) &&& (x0 - 1)).toUInt32 >>> ((8 : Int32).toUInt32 &&& Int32.toUInt32 31)).toInt32) ≤ 16 then (if ((((x0 ^^^ (-1)) &&& (x0 - 1)).toUInt32 >>> ((8 : Int32).toUInt32 &&& Int32.toUInt32 31)).toInt32) ≤ 4 then (((1 + 8) + ((((((x0 ^^^ (-1)) &&& (x0 - 1)).toUInt32 >>> ((8 : Int32).toUInt32 &&& Int32.toUInt32 31)).toInt32).toUInt32 >>> ((1 : Int32).toUInt32 &&& Int32.toUInt32 31)).toInt32))) else ((((1 + 8) + 2) + ((((((((x0 ^^^ (-1)) &&& (x0 - 1)).toUInt32 >>> ((8 : Int32).toUInt32 &&& Int32.toUInt32 31)).toInt32).toUInt32 >>> ((2 : Int32).toUInt32 &&& Int32.toUInt32 31)).toInt32).toUInt32 >>> ((1 : Int32).toUInt32 &&& Int32.toUInt32 31)).toInt32)))) else (if ((((((x0 ^^^ (-1)) &&& (x0 - 1)).toUInt32 >>> ((8 : Int32).toUInt32 &&& Int32.toUInt32 31)).toInt32).toUInt32 >>> ((4 : Int32).toUInt32 &&& Int32.toUInt32 31)).toInt32) ≤ 4 then ((((1 + 8) + 4) + ((((((((x0 ^^^ (-1)) &&& (x0 - 1)).toUInt32 >>> ((8 : Int32).toUInt32 &&& Int32.toUInt32 31)).toInt32).toUInt32 >>> ((4 : Int32).toUInt32 &&& Int32.toUInt32 31)).toInt32).toUInt32 >>> ((1 : Int32).toUInt32 &&& Int32.toUInt32 31)).toInt32))) else (((((1 + 8) + 4) + 2) + ((((((((((x0 ^^^ (-1)) &&& (x0 - 1)).toUInt32 >>> ((8 : Int32).toUInt32 &&& Int32.toUInt32 31)).toInt32).toUInt32 >>> ((4 : Int32).toUInt32 &&& Int32.toUInt32 31)).toInt32).toUInt32 >>> ((2 : Int32).toUInt32 &&& Int32.toUInt32 31)).toInt32).toUInt32 >>> ((1 : Int32).toUInt32 &&& Int32.toUInt32 31)).toInt32)))))) else (if ((((x0 ^^^ (-1)) &&& (x0 - 1)).toUInt32 >>> ((16 : Int32).toUInt32 &&& Int32.toUInt32 31)).toInt32) ≤ 256 then (if ((((x0 ^^^ (-1)) &&& (x0 - 1)).toUInt32 >>> ((16 : Int32).toUInt32 &&& Int32.toUInt32 31)).toInt32) ≤ 16 then (if ((((x0 ^^^ (-1)) &&& (x0 - 1)).toUInt32 >>> ((16 : Int32).toUInt32 &&& Int32.toUInt32 31)).toInt32) ≤ 4 then (((1 + 16) + ((((((x0 ^^^ (-1)) &&& (x0 - 1)).toUInt32 >>> ((16 : Int32).toUInt32 &&& Int32.toUInt32 31)).toInt32).toUInt32 >>> ((1 : Int32).toUInt32 &&& Int32.toUInt32 31)).toInt32))) else ((((1 + 16) + 2) + ((((((((x0 ^^^ (-1)) &&& (x0 - 1)).toUInt32 >>> ((16 : Int32).toUInt32 &&& Int32.toUInt32 31)).toInt32).toUInt32 >>> ((2 : Int32).toUInt32 &&& Int32.toUInt32 31)).toInt32).toUInt32 >>> ((1 : Int32).toUInt32 &&& Int32.toUInt32 31)).toInt32)))) else (if ((((((x0 ^^^ (-1)) &&& (x0 - 1)).toUInt32 >>> ((16 : Int32).toUInt32 &&& Int32.toUInt32 31)).toInt32).toUInt32 >>> ((4 : Int32).toUInt32 &&& Int32.toUInt32 31)).toInt32) ≤ 4 then ((((1 + 16) + 4) + ((((((((x0 ^^^ (-1)) &&& (x0 - 1)).toUInt32 >>> ((16 : Int32).toUInt32 &&& Int32.toUInt32 31)).toInt32).toUInt32 >>> ((4 : Int32).toUInt32 &&& Int32.toUInt32 31)).toInt32).toUInt32 >>> ((1 : Int32).toUInt32 &&& Int32.toUInt32 31)).toInt32))) else (((((1 + 16) + 4) + 2) + ((((((((((x0 ^^^ (-1)) &&& (x0 - 1)).toUInt32 >>> ((16 : Int32).toUInt32 &&& Int32.toUInt32 31)).toInt32).toUInt32 >>> ((4 : Int32).toUInt32 &&& Int32.toUInt32 31)).toInt32).toUInt32 >>> ((2 : Int32).toUInt32 &&& Int32.toUInt32 31)).toInt32).toUInt32 >>> ((1 : Int32).toUInt32 &&& Int32.toUInt32 31)).toInt32))))) else (if ((((((x0 ^^^ (-1)) &&& (x0 - 1)).toUInt32 >>> ((16 : Int32).toUInt32 &&& Int32.toUInt32 31)).toInt32).toUInt32 >>> ((8 : Int32).toUInt32 &&& Int32.toUInt32 31)).toInt32) ≤ 16 then (if ((((((x0 ^^^ (-1)) &&& (x0 - 1)).toUInt32 >>> ((16 : Int32).toUInt32 &&& Int32.toUInt32 31)).toInt32).toUInt32 >>> ((8 : Int32).toUInt32 &&& Int32.toUInt32 31)).toInt32) ≤ 4 then ((((1 + 16) + 8) + ((((((((x0 ^^^ (-1)) &&& (x0 - 1)).toUInt32 >>> ((16 : Int32).toUInt32 &&& Int32.toUInt32 31)).toInt32).toUInt32 >>> ((8 : Int32).toUInt32 &&& Int32.toUInt32 31)).toInt32).toUInt32 >>> ((1 : Int32).toUInt32 &&& Int32.toUInt32 31)).toInt32))) else (((((1 + 16) + 8) + 2) + ((((((((((x0 ^^^ (-1)) &&& (x0 - 1)).toUInt32 >>> ((16 : Int32).toUInt32 &&& Int32.toUInt32 31)).toInt32).toUInt32 >>> ((8 : Int32).toUInt32 &&& Int32.toUInt32 31)).toInt32).toUInt32 >>> ((2 : Int32).toUInt32 &&& Int32.toUInt32 31)).toInt32).toUInt32 >>> ((1 : Int32).toUInt32 &&& Int32.toUInt32 31)).toInt32)))) else (if ((((((((x0 ^^^ (-1)) &&& (x0 - 1)).toUInt32 >>> ((16 : Int32).toUInt32 &&& Int32.toUInt32 31)).toInt32).toUInt32 >>> ((8 : Int32).toUInt32 &&& Int32.toUInt32 31)).toInt32).toUInt32 >>> ((4 : Int32).toUInt32 &&& Int32.toUInt32 31)).toInt32) ≤ 4 then (((((1 + 16) + 8) + 4) + ((((((((((x0 ^^^ (-1)) &&& (x0 - 1)).toUInt32 >>> ((16 : Int32).toUInt32 &&& Int32.toUInt32 31)).toInt32).toUInt32 >>> ((8 : Int32).toUInt32 &&& Int32.toUInt32 31)).toInt32).toUInt32 >>> ((4 : Int32).toUInt32 &&& Int32.toUInt32 31)).toInt32).toUInt32 >>> ((1 : Int32).toUInt32 &&& Int32.toUInt32 31)).toInt32))) else ((((((1 + 16) + 8) + 4) + 2) + ((((((((((((x0 ^^^ (-1)) &&& (x0 - 1)).toUInt32 >>> ((16 : Int32).toUInt32 &&& Int32.toUInt32 31)).toInt32).toUInt32 >>> ((8 : Int32).toUInt32 &&& Int32.toUInt32 31)).toInt32).toUInt32 >>> ((4 : Int32).toUInt32 &&& Int32.toUInt32 31)).toInt32).toUInt32 >>> ((2 : Int32).toUInt32 &&& Int32.toUInt32 31)).toInt32).toUInt32 >>> ((1 : Int32).toUInt32 &&& Int32.toUInt32 31)).toInt32))))))) else ((((x0 ^^^ (-1)) &&& (x0 - 1)) &&& 32))

abbrev rmJ6_numberOfTrailingZeros_0f7a4 : Room := { frames := 0, cells := 0, slots := 0, locals := 0 }
set_option maxHeartbeats 4000000 in
set_option maxRecDepth 100000 in
theorem c_J6_numberOfTrailingZeros_0f7a4 (l : Launch) (G : va_G) (cs : CS) (sz : Nat)    (x0 : Int32) (res : Int32) (hm : M_J6_numberOfTrailingZeros_0f7a4 x0 = res) : Met l yJ6_numberOfTrailingZeros_0f7a4 wsJ6_numberOfTrailingZeros_0f7a4 rmJ6_numberOfTrailingZeros_0f7a4 (va_Pc [.int x0] (PreW G cs sz [] RN)) (QI G res True [] (va_A [] sz)) 0 0 (va_A [] sz) := by
  refine k_enter (Qf := fun A => QI G res True [] A) (cc := cJ6_numberOfTrailingZeros_0f7a4) (maxL := 2) (ret := (some .int)) (plainFor_of_name (by decide)) rfl (Nat.le_of_ble_eq_true rfl) ?_
  intro p e s m args below meth c A Q ls H locs hx hb hr hml hown hts hlocks hname hK hA hRo hP hD hS hQ hl
  have hl : lv_has ls 2 [(0, .int x0)] := hl
  have wd1 := hts (.constant RJ6 264 (65536)) (List.mem_of_getElem? (i := 1) rfl)
  unfold M_J6_numberOfTrailingZeros_0f7a4 at hm
  refine lv_iload_n hx hb dJ6_numberOfTrailingZeros_0f7a4_0 rfl (lv_at hl 0 rfl) ?_
  refine lv_iconst (v := (-1)) hx hb dJ6_numberOfTrailingZeros_0f7a4_1 (by decide) ?_
  refine lv_ixor hx hb dJ6_numberOfTrailingZeros_0f7a4_2 ?_
  refine lv_iload_n hx hb dJ6_numberOfTrailingZeros_0f7a4_3 rfl (lv_at hl 0 rfl) ?_
  refine lv_iconst (v := 1) hx hb dJ6_numberOfTrailingZeros_0f7a4_4 (by decide) ?_
  refine lv_isub hx hb dJ6_numberOfTrailingZeros_0f7a4_5 ?_
  refine lv_iand hx hb dJ6_numberOfTrailingZeros_0f7a4_6 ?_
  refine lv_istore_n (lv' := [(0, .int ((x0 ^^^ (-1)) &&& (x0 - 1)))]) hx hb dJ6_numberOfTrailingZeros_0f7a4_7 rfl hl (by decide) rfl (fun ls hl => ?_)
  refine lv_iload_n hx hb dJ6_numberOfTrailingZeros_0f7a4_8 rfl (lv_at hl 0 rfl) ?_
  refine lv_if_gt (tgt := 17) hx hb dJ6_numberOfTrailingZeros_0f7a4_9 (by decide) (fun b1 => ?_) (fun b1 => ?_)
  · have hm := i_t b1 hm
    refine lv_iconst (v := 1) hx hb dJ6_numberOfTrailingZeros_0f7a4_17 (by decide) ?_
    refine lv_istore_n (lv' := [(1, .int 1), (0, .int ((x0 ^^^ (-1)) &&& (x0 - 1)))]) hx hb dJ6_numberOfTrailingZeros_0f7a4_18 rfl hl (by decide) rfl (fun ls hl => ?_)
    refine lv_iload_n hx hb dJ6_numberOfTrailingZeros_0f7a4_19 rfl (lv_at hl 1 rfl) ?_
    refine lv_ldcw (own := RJ6) (v := 65536) hx hb hown wd1 dJ6_numberOfTrailingZeros_0f7a4_20 ?_
    refine lv_icmp_le (tgt := 34) hx hb dJ6_numberOfTrailingZeros_0f7a4_23 (by decide) (fun b2 => ?_) (fun b2 => ?_)
    · have hm := i_t b2 hm
      refine lv_iload_n hx hb dJ6_numberOfTrailingZeros_0f7a4_34 rfl (lv_at hl 1 rfl) ?_
      refine lv_sipush (v := 256) hx hb dJ6_numberOfTrailingZeros_0f7a4_35 (by decide) ?_
      refine lv_icmp_le (tgt := 49) hx hb dJ6_numberOfTrailingZeros_0f7a4_38 (by decide) (fun b3 => ?_) (fun b3 => ?_)
      · have hm := i_t b3 hm
        refine lv_iload_n hx hb dJ6_numberOfTrailingZeros_0f7a4_49 rfl (lv_at hl 1 rfl) ?_
        refine lv_bipush (v := 16) hx hb dJ6_numberOfTrailingZeros_0f7a4_50 (by decide) ?_
        refine lv_icmp_le (tgt := 62) hx hb dJ6_numberOfTrailingZeros_0f7a4_52 (by decide) (fun b4 => ?_) (fun b4 => ?_)
        · have hm := i_t b4 hm
          refine lv_iload_n hx hb dJ6_numberOfTrailingZeros_0f7a4_62 rfl (lv_at hl 1 rfl) ?_
          refine lv_iconst (v := 4) hx hb dJ6_numberOfTrailingZeros_0f7a4_63 (by decide) ?_
          refine lv_icmp_le (tgt := 74) hx hb dJ6_numberOfTrailingZeros_0f7a4_64 (by decide) (fun b5 => ?_) (fun b5 => ?_)
          · have hm := i_t b5 hm
            refine lv_iload_n hx hb dJ6_numberOfTrailingZeros_0f7a4_74 rfl (lv_at hl 0 rfl) ?_
            refine lv_iload_n hx hb dJ6_numberOfTrailingZeros_0f7a4_75 rfl (lv_at hl 1 rfl) ?_
            refine lv_iconst (v := 1) hx hb dJ6_numberOfTrailingZeros_0f7a4_76 (by decide) ?_
            refine lv_iushr (v := (((x0 ^^^ (-1)) &&& (x0 - 1)).toUInt32 >>> ((1 : Int32).toUInt32 &&& Int32.toUInt32 31)).toInt32) hx hb dJ6_numberOfTrailingZeros_0f7a4_77 rfl ?_
            refine lv_iadd hx hb dJ6_numberOfTrailingZeros_0f7a4_78 ?_
            have hq := hm
            subst hq; subst hQ
            exact k_iret hx hb hr hlocks hP hD hS rfl trivial dJ6_numberOfTrailingZeros_0f7a4_79
          · have hm := i_f b5 hm
            refine lv_iinc (v := 1 + 2) (lv' := [(1, .int (1 + 2)), (0, .int ((x0 ^^^ (-1)) &&& (x0 - 1)))]) hx hb dJ6_numberOfTrailingZeros_0f7a4_67 hl (k := 0) rfl rfl (by decide) rfl (fun ls hl => ?_)
            refine lv_iload_n hx hb dJ6_numberOfTrailingZeros_0f7a4_70 rfl (lv_at hl 1 rfl) ?_
            refine lv_iconst (v := 2) hx hb dJ6_numberOfTrailingZeros_0f7a4_71 (by decide) ?_
            refine lv_iushr (v := (((x0 ^^^ (-1)) &&& (x0 - 1)).toUInt32 >>> ((2 : Int32).toUInt32 &&& Int32.toUInt32 31)).toInt32) hx hb dJ6_numberOfTrailingZeros_0f7a4_72 rfl ?_
            refine lv_istore_n (lv' := [(0, .int ((((x0 ^^^ (-1)) &&& (x0 - 1)).toUInt32 >>> ((2 : Int32).toUInt32 &&& Int32.toUInt32 31)).toInt32)), (1, .int (1 + 2))]) hx hb dJ6_numberOfTrailingZeros_0f7a4_73 rfl hl (by decide) rfl (fun ls hl => ?_)
            refine lv_iload_n hx hb dJ6_numberOfTrailingZeros_0f7a4_74 rfl (lv_at hl 1 rfl) ?_
            refine lv_iload_n hx hb dJ6_numberOfTrailingZeros_0f7a4_75 rfl (lv_at hl 0 rfl) ?_
            refine lv_iconst (v := 1) hx hb dJ6_numberOfTrailingZeros_0f7a4_76 (by decide) ?_
            refine lv_iushr (v := (((((x0 ^^^ (-1)) &&& (x0 - 1)).toUInt32 >>> ((2 : Int32).toUInt32 &&& Int32.toUInt32 31)).toInt32).toUInt32 >>> ((1 : Int32).toUInt32 &&& Int32.toUInt32 31)).toInt32) hx hb dJ6_numberOfTrailingZeros_0f7a4_77 rfl ?_
            refine lv_iadd hx hb dJ6_numberOfTrailingZeros_0f7a4_78 ?_
            have hq := hm
            subst hq; subst hQ
            exact k_iret hx hb hr hlocks hP hD hS rfl trivial dJ6_numberOfTrailingZeros_0f7a4_79
        · have hm := i_f b4 hm
          refine lv_iinc (v := 1 + 4) (lv' := [(1, .int (1 + 4)), (0, .int ((x0 ^^^ (-1)) &&& (x0 - 1)))]) hx hb dJ6_numberOfTrailingZeros_0f7a4_55 hl (k := 0) rfl rfl (by decide) rfl (fun ls hl => ?_)
          refine lv_iload_n hx hb dJ6_numberOfTrailingZeros_0f7a4_58 rfl (lv_at hl 1 rfl) ?_
          refine lv_iconst (v := 4) hx hb dJ6_numberOfTrailingZeros_0f7a4_59 (by decide) ?_
          refine lv_iushr (v := (((x0 ^^^ (-1)) &&& (x0 - 1)).toUInt32 >>> ((4 : Int32).toUInt32 &&& Int32.toUInt32 31)).toInt32) hx hb dJ6_numberOfTrailingZeros_0f7a4_60 rfl ?_
          refine lv_istore_n (lv' := [(0, .int ((((x0 ^^^ (-1)) &&& (x0 - 1)).toUInt32 >>> ((4 : Int32).toUInt32 &&& Int32.toUInt32 31)).toInt32)), (1, .int (1 + 4))]) hx hb dJ6_numberOfTrailingZeros_0f7a4_61 rfl hl (by decide) rfl (fun ls hl => ?_)
          refine lv_iload_n hx hb dJ6_numberOfTrailingZeros_0f7a4_62 rfl (lv_at hl 0 rfl) ?_
          refine lv_iconst (v := 4) hx hb dJ6_numberOfTrailingZeros_0f7a4_63 (by decide) ?_
          refine lv_icmp_le (tgt := 74) hx hb dJ6_numberOfTrailingZeros_0f7a4_64 (by decide) (fun b6 => ?_) (fun b6 => ?_)
          · have hm := i_t b6 hm
            refine lv_iload_n hx hb dJ6_numberOfTrailingZeros_0f7a4_74 rfl (lv_at hl 1 rfl) ?_
            refine lv_iload_n hx hb dJ6_numberOfTrailingZeros_0f7a4_75 rfl (lv_at hl 0 rfl) ?_
            refine lv_iconst (v := 1) hx hb dJ6_numberOfTrailingZeros_0f7a4_76 (by decide) ?_
            refine lv_iushr (v := (((((x0 ^^^ (-1)) &&& (x0 - 1)).toUInt32 >>> ((4 : Int32).toUInt32 &&& Int32.toUInt32 31)).toInt32).toUInt32 >>> ((1 : Int32).toUInt32 &&& Int32.toUInt32 31)).toInt32) hx hb dJ6_numberOfTrailingZeros_0f7a4_77 rfl ?_
            refine lv_iadd hx hb dJ6_numberOfTrailingZeros_0f7a4_78 ?_
            have hq := hm
            subst hq; subst hQ
            exact k_iret hx hb hr hlocks hP hD hS rfl trivial dJ6_numberOfTrailingZeros_0f7a4_79
          · have hm := i_f b6 hm
            refine lv_iinc (v := (1 + 4) + 2) (lv' := [(1, .int ((1 + 4) + 2)), (0, .int ((((x0 ^^^ (-1)) &&& (x0 - 1)).toUInt32 >>> ((4 : Int32).toUInt32 &&& Int32.toUInt32 31)).toInt32))]) hx hb dJ6_numberOfTrailingZeros_0f7a4_67 hl (k := 1) rfl rfl (by decide) rfl (fun ls hl => ?_)
            refine lv_iload_n hx hb dJ6_numberOfTrailingZeros_0f7a4_70 rfl (lv_at hl 1 rfl) ?_
            refine lv_iconst (v := 2) hx hb dJ6_numberOfTrailingZeros_0f7a4_71 (by decide) ?_
            refine lv_iushr (v := (((((x0 ^^^ (-1)) &&& (x0 - 1)).toUInt32 >>> ((4 : Int32).toUInt32 &&& Int32.toUInt32 31)).toInt32).toUInt32 >>> ((2 : Int32).toUInt32 &&& Int32.toUInt32 31)).toInt32) hx hb dJ6_numberOfTrailingZeros_0f7a4_72 rfl ?_
            refine lv_istore_n (lv' := [(0, .int ((((((x0 ^^^ (-1)) &&& (x0 - 1)).toUInt32 >>> ((4 : Int32).toUInt32 &&& Int32.toUInt32 31)).toInt32).toUInt32 >>> ((2 : Int32).toUInt32 &&& Int32.toUInt32 31)).toInt32)), (1, .int ((1 + 4) + 2))]) hx hb dJ6_numberOfTrailingZeros_0f7a4_73 rfl hl (by decide) rfl (fun ls hl => ?_)
            refine lv_iload_n hx hb dJ6_numberOfTrailingZeros_0f7a4_74 rfl (lv_at hl 1 rfl) ?_
            refine lv_iload_n hx hb dJ6_numberOfTrailingZeros_0f7a4_75 rfl (lv_at hl 0 rfl) ?_
            refine lv_iconst (v := 1) hx hb dJ6_numberOfTrailingZeros_0f7a4_76 (by decide) ?_
            refine lv_iushr (v := (((((((x0 ^^^ (-1)) &&& (x0 - 1)).toUInt32 >>> ((4 : Int32).toUInt32 &&& Int32.toUInt32 31)).toInt32).toUInt32 >>> ((2 : Int32).toUInt32 &&& Int32.toUInt32 31)).toInt32).toUInt32 >>> ((1 : Int32).toUInt32 &&& Int32.toUInt32 31)).toInt32) hx hb dJ6_numberOfTrailingZeros_0f7a4_77 rfl ?_
            refine lv_iadd hx hb dJ6_numberOfTrailingZeros_0f7a4_78 ?_
            have hq := hm
            subst hq; subst hQ
            exact k_iret hx hb hr hlocks hP hD hS rfl trivial dJ6_numberOfTrailingZeros_0f7a4_79
      · have hm := i_f b3 hm
        refine lv_iinc (v := 1 + 8) (lv' := [(1, .int (1 + 8)), (0, .int ((x0 ^^^ (-1)) &&& (x0 - 1)))]) hx hb dJ6_numberOfTrailingZeros_0f7a4_41 hl (k := 0) rfl rfl (by decide) rfl (fun ls hl => ?_)
        refine lv_iload_n hx hb dJ6_numberOfTrailingZeros_0f7a4_44 rfl (lv_at hl 1 rfl) ?_
        refine lv_bipush (v := 8) hx hb dJ6_numberOfTrailingZeros_0f7a4_45 (by decide) ?_
        refine lv_iushr (v := (((x0 ^^^ (-1)) &&& (x0 - 1)).toUInt32 >>> ((8 : Int32).toUInt32 &&& Int32.toUInt32 31)).toInt32) hx hb dJ6_numberOfTrailingZeros_0f7a4_47 rfl ?_
        refine lv_istore_n (lv' := [(0, .int ((((x0 ^^^ (-1)) &&& (x0 - 1)).toUInt32 >>> ((8 : Int32).toUInt32 &&& Int32.toUInt32 31)).toInt32)), (1, .int (1 + 8))]) hx hb dJ6_numberOfTrailingZeros_0f7a4_48 rfl hl (by decide) rfl (fun ls hl => ?_)
        refine lv_iload_n hx hb dJ6_numberOfTrailingZeros_0f7a4_49 rfl (lv_at hl 0 rfl) ?_
        refine lv_bipush (v := 16) hx hb dJ6_numberOfTrailingZeros_0f7a4_50 (by decide) ?_
        refine lv_icmp_le (tgt := 62) hx hb dJ6_numberOfTrailingZeros_0f7a4_52 (by decide) (fun b7 => ?_) (fun b7 => ?_)
        · have hm := i_t b7 hm
          refine lv_iload_n hx hb dJ6_numberOfTrailingZeros_0f7a4_62 rfl (lv_at hl 0 rfl) ?_
          refine lv_iconst (v := 4) hx hb dJ6_numberOfTrailingZeros_0f7a4_63 (by decide) ?_
          refine lv_icmp_le (tgt := 74) hx hb dJ6_numberOfTrailingZeros_0f7a4_64 (by decide) (fun b8 => ?_) (fun b8 => ?_)
          · have hm := i_t b8 hm
            refine lv_iload_n hx hb dJ6_numberOfTrailingZeros_0f7a4_74 rfl (lv_at hl 1 rfl) ?_
            refine lv_iload_n hx hb dJ6_numberOfTrailingZeros_0f7a4_75 rfl (lv_at hl 0 rfl) ?_
            refine lv_iconst (v := 1) hx hb dJ6_numberOfTrailingZeros_0f7a4_76 (by decide) ?_
            refine lv_iushr (v := (((((x0 ^^^ (-1)) &&& (x0 - 1)).toUInt32 >>> ((8 : Int32).toUInt32 &&& Int32.toUInt32 31)).toInt32).toUInt32 >>> ((1 : Int32).toUInt32 &&& Int32.toUInt32 31)).toInt32) hx hb dJ6_numberOfTrailingZeros_0f7a4_77 rfl ?_
            refine lv_iadd hx hb dJ6_numberOfTrailingZeros_0f7a4_78 ?_
            have hq := hm
            subst hq; subst hQ
            exact k_iret hx hb hr hlocks hP hD hS rfl trivial dJ6_numberOfTrailingZeros_0f7a4_79
          · have hm := i_f b8 hm
            refine lv_iinc (v := (1 + 8) + 2) (lv' := [(1, .int ((1 + 8) + 2)), (0, .int ((((x0 ^^^ (-1)) &&& (x0 - 1)).toUInt32 >>> ((8 : Int32).toUInt32 &&& Int32.toUInt32 31)).toInt32))]) hx hb dJ6_numberOfTrailingZeros_0f7a4_67 hl (k := 1) rfl rfl (by decide) rfl (fun ls hl => ?_)
            refine lv_iload_n hx hb dJ6_numberOfTrailingZeros_0f7a4_70 rfl (lv_at hl 1 rfl) ?_
            refine lv_iconst (v := 2) hx hb dJ6_numberOfTrailingZeros_0f7a4_71 (by decide) ?_
            refine lv_iushr (v := (((((x0 ^^^ (-1)) &&& (x0 - 1)).toUInt32 >>> ((8 : Int32).toUInt32 &&& Int32.toUInt32 31)).toInt32).toUInt32 >>> ((2 : Int32).toUInt32 &&& Int32.toUInt32 31)).toInt32) hx hb dJ6_numberOfTrailingZeros_0f7a4_72 rfl ?_
            refine lv_istore_n (lv' := [(0, .int ((((((x0 ^^^ (-1)) &&& (x0 - 1)).toUInt32 >>> ((8 : Int32).toUInt32 &&& Int32.toUInt32 31)).toInt32).toUInt32 >>> ((2 : Int32).toUInt32 &&& Int32.toUInt32 31)).toInt32)), (1, .int ((1 + 8) + 2))]) hx hb dJ6_numberOfTrailingZeros_0f7a4_73 rfl hl (by decide) rfl (fun ls hl => ?_)
            refine lv_iload_n hx hb dJ6_numberOfTrailingZeros_0f7a4_74 rfl (lv_at hl 1 rfl) ?_
            refine lv_iload_n hx hb dJ6_numberOfTrailingZeros_0f7a4_75 rfl (lv_at hl 0 rfl) ?_
            refine lv_iconst (v := 1) hx hb dJ6_numberOfTrailingZeros_0f7a4_76 (by decide) ?_
            refine lv_iushr (v := (((((((x0 ^^^ (-1)) &&& (x0 - 1)).toUInt32 >>> ((8 : Int32).toUInt32 &&& Int32.toUInt32 31)).toInt32).toUInt32 >>> ((2 : Int32).toUInt32 &&& Int32.toUInt32 31)).toInt32).toUInt32 >>> ((1 : Int32).toUInt32 &&& Int32.toUInt32 31)).toInt32) hx hb dJ6_numberOfTrailingZeros_0f7a4_77 rfl ?_
            refine lv_iadd hx hb dJ6_numberOfTrailingZeros_0f7a4_78 ?_
            have hq := hm
            subst hq; subst hQ
            exact k_iret hx hb hr hlocks hP hD hS rfl trivial dJ6_numberOfTrailingZeros_0f7a4_79
        · have hm := i_f b7 hm
          refine lv_iinc (v := (1 + 8) + 4) (lv' := [(1, .int ((1 + 8) + 4)), (0, .int ((((x0 ^^^ (-1)) &&& (x0 - 1)).toUInt32 >>> ((8 : Int32).toUInt32 &&& Int32.toUInt32 31)).toInt32))]) hx hb dJ6_numberOfTrailingZeros_0f7a4_55 hl (k := 1) rfl rfl (by decide) rfl (fun ls hl => ?_)
          refine lv_iload_n hx hb dJ6_numberOfTrailingZeros_0f7a4_58 rfl (lv_at hl 1 rfl) ?_
          refine lv_iconst (v := 4) hx hb dJ6_numberOfTrailingZeros_0f7a4_59 (by decide) ?_
          refine lv_iushr (v := (((((x0 ^^^ (-1)) &&& (x0 - 1)).toUInt32 >>> ((8 : Int32).toUInt32 &&& Int32.toUInt32 31)).toInt32).toUInt32 >>> ((4 : Int32).toUInt32 &&& Int32.toUInt32 31)).toInt32) hx hb dJ6_numberOfTrailingZeros_0f7a4_60 rfl ?_
          refine lv_istore_n (lv' := [(0, .int ((((((x0 ^^^ (-1)) &&& (x0 - 1)).toUInt32 >>> ((8 : Int32).toUInt32 &&& Int32.toUInt32 31)).toInt32).toUInt32 >>> ((4 : Int32).toUInt32 &&& Int32.toUInt32 31)).toInt32)), (1, .int ((1 + 8) + 4))]) hx hb dJ6_numberOfTrailingZeros_0f7a4_61 rfl hl (by decide) rfl (fun ls hl => ?_)
          refine lv_iload_n hx hb dJ6_numberOfTrailingZeros_0f7a4_62 rfl (lv_at hl 0 rfl) ?_
          refine lv_iconst (v := 4) hx hb dJ6_numberOfTrailingZeros_0f7a4_63 (by decide) ?_
          refine lv_icmp_le (tgt := 74) hx hb dJ6_numberOfTrailingZeros_0f7a4_64 (by decide) (fun b9 => ?_) (fun b9 => ?_)
          · have hm := i_t b9 hm
            refine lv_iload_n hx hb dJ6_numberOfTrailingZeros_0f7a4_74 rfl (lv_at hl 1 rfl) ?_
            refine lv_iload_n hx hb dJ6_numberOfTrailingZeros_0f7a4_75 rfl (lv_at hl 0 rfl) ?_
            refine lv_iconst (v := 1) hx hb dJ6_numberOfTrailingZeros_0f7a4_76 (by decide) ?_
            refine lv_iushr (v := (((((((x0 ^^^ (-1)) &&& (x0 - 1)).toUInt32 >>> ((8 : Int32).toUInt32 &&& Int32.toUInt32 31)).toInt32).toUInt32 >>> ((4 : Int32).toUInt32 &&& Int32.toUInt32 31)).toInt32).toUInt32 >>> ((1 : Int32).toUInt32 &&& Int32.toUInt32 31)).toInt32) hx hb dJ6_numberOfTrailingZeros_0f7a4_77 rfl ?_
            refine lv_iadd hx hb dJ6_numberOfTrailingZeros_0f7a4_78 ?_
            have hq := hm
            subst hq; subst hQ
            exact k_iret hx hb hr hlocks hP hD hS rfl trivial dJ6_numberOfTrailingZeros_0f7a4_79
          · have hm := i_f b9 hm
            refine lv_iinc (v := ((1 + 8) + 4) + 2) (lv' := [(1, .int (((1 + 8) + 4) + 2)), (0, .int ((((((x0 ^^^ (-1)) &&& (x0 - 1)).toUInt32 >>> ((8 : Int32).toUInt32 &&& Int32.toUInt32 31)).toInt32).toUInt32 >>> ((4 : Int32).toUInt32 &&& Int32.toUInt32 31)).toInt32))]) hx hb dJ6_numberOfTrailingZeros_0f7a4_67 hl (k := 1) rfl rfl (by decide) rfl (fun ls hl => ?_)
            refine lv_iload_n hx hb dJ6_numberOfTrailingZeros_0f7a4_70 rfl (lv_at hl 1 rfl) ?_
            refine lv_iconst (v := 2) hx hb dJ6_numberOfTrailingZeros_0f7a4_71 (by decide) ?_
            refine lv_iushr (v := (((((((x0 ^^^ (-1)) &&& (x0 - 1)).toUInt32 >>> ((8 : Int32).toUInt32 &&& Int32.toUInt32 31)).toInt32).toUInt32 >>> ((4 : Int32).toUInt32 &&& Int32.toUInt32 31)).toInt32).toUInt32 >>> ((2 : Int32).toUInt32 &&& Int32.toUInt32 31)).toInt32) hx hb dJ6_numberOfTrailingZeros_0f7a4_72 rfl ?_
            refine lv_istore_n (lv' := [(0, .int ((((((((x0 ^^^ (-1)) &&& (x0 - 1)).toUInt32 >>> ((8 : Int32).toUInt32 &&& Int32.toUInt32 31)).toInt32).toUInt32 >>> ((4 : Int32).toUInt32 &&& Int32.toUInt32 31)).toInt32).toUInt32 >>> ((2 : Int32).toUInt32 &&& Int32.toUInt32 31)).toInt32)), (1, .int (((1 + 8) + 4) + 2))]) hx hb dJ6_numberOfTrailingZeros_0f7a4_73 rfl hl (by decide) rfl (fun ls hl => ?_)
            refine lv_iload_n hx hb dJ6_numberOfTrailingZeros_0f7a4_74 rfl (lv_at hl 1 rfl) ?_
            refine lv_iload_n hx hb dJ6_numberOfTrailingZeros_0f7a4_75 rfl (lv_at hl 0 rfl) ?_
            refine lv_iconst (v := 1) hx hb dJ6_numberOfTrailingZeros_0f7a4_76 (by decide) ?_
            refine lv_iushr (v := (((((((((x0 ^^^ (-1)) &&& (x0 - 1)).toUInt32 >>> ((8 : Int32).toUInt32 &&& Int32.toUInt32 31)).toInt32).toUInt32 >>> ((4 : Int32).toUInt32 &&& Int32.toUInt32 31)).toInt32).toUInt32 >>> ((2 : Int32).toUInt32 &&& Int32.toUInt32 31)).toInt32).toUInt32 >>> ((1 : Int32).toUInt32 &&& Int32.toUInt32 31)).toInt32) hx hb dJ6_numberOfTrailingZeros_0f7a4_77 rfl ?_
            refine lv_iadd hx hb dJ6_numberOfTrailingZeros_0f7a4_78 ?_
            have hq := hm
            subst hq; subst hQ
            exact k_iret hx hb hr hlocks hP hD hS rfl trivial dJ6_numberOfTrailingZeros_0f7a4_79
    · have hm := i_f b2 hm
      refine lv_iinc (v := 1 + 16) (lv' := [(1, .int (1 + 16)), (0, .int ((x0 ^^^ (-1)) &&& (x0 - 1)))]) hx hb dJ6_numberOfTrailingZeros_0f7a4_26 hl (k := 0) rfl rfl (by decide) rfl (fun ls hl => ?_)
      refine lv_iload_n hx hb dJ6_numberOfTrailingZeros_0f7a4_29 rfl (lv_at hl 1 rfl) ?_
      refine lv_bipush (v := 16) hx hb dJ6_numberOfTrailingZeros_0f7a4_30 (by decide) ?_
      refine lv_iushr (v := (((x0 ^^^ (-1)) &&& (x0 - 1)).toUInt32 >>> ((16 : Int32).toUInt32 &&& Int32.toUInt32 31)).toInt32) hx hb dJ6_numberOfTrailingZeros_0f7a4_32 rfl ?_
      refine lv_istore_n (lv' := [(0, .int ((((x0 ^^^ (-1)) &&& (x0 - 1)).toUInt32 >>> ((16 : Int32).toUInt32 &&& Int32.toUInt32 31)).toInt32)), (1, .int (1 + 16))]) hx hb dJ6_numberOfTrailingZeros_0f7a4_33 rfl hl (by decide) rfl (fun ls hl => ?_)
      refine lv_iload_n hx hb dJ6_numberOfTrailingZeros_0f7a4_34 rfl (lv_at hl 0 rfl) ?_
      refine lv_sipush (v := 256) hx hb dJ6_numberOfTrailingZeros_0f7a4_35 (by decide) ?_
      refine lv_icmp_le (tgt := 49) hx hb dJ6_numberOfTrailingZeros_0f7a4_38 (by decide) (fun b10 => ?_) (fun b10 => ?_)
      · have hm := i_t b10 hm
        refine lv_iload_n hx hb dJ6_numberOfTrailingZeros_0f7a4_49 rfl (lv_at hl 0 rfl) ?_
        refine lv_bipush (v := 16) hx hb dJ6_numberOfTrailingZeros_0f7a4_50 (by decide) ?_
        refine lv_icmp_le (tgt := 62) hx hb dJ6_numberOfTrailingZeros_0f7a4_52 (by decide) (fun b11 => ?_) (fun b11 => ?_)
        · have hm := i_t b11 hm
          refine lv_iload_n hx hb dJ6_numberOfTrailingZeros_0f7a4_62 rfl (lv_at hl 0 rfl) ?_
          refine lv_iconst (v := 4) hx hb dJ6_numberOfTrailingZeros_0f7a4_63 (by decide) ?_
          refine lv_icmp_le (tgt := 74) hx hb dJ6_numberOfTrailingZeros_0f7a4_64 (by decide) (fun b12 => ?_) (fun b12 => ?_)
          · have hm := i_t b12 hm
            refine lv_iload_n hx hb dJ6_numberOfTrailingZeros_0f7a4_74 rfl (lv_at hl 1 rfl) ?_
            refine lv_iload_n hx hb dJ6_numberOfTrailingZeros_0f7a4_75 rfl (lv_at hl 0 rfl) ?_
            refine lv_iconst (v := 1) hx hb dJ6_numberOfTrailingZeros_0f7a4_76 (by decide) ?_
            refine lv_iushr (v := (((((x0 ^^^ (-1)) &&& (x0 - 1)).toUInt32 >>> ((16 : Int32).toUInt32 &&& Int32.toUInt32 31)).toInt32).toUInt32 >>> ((1 : Int32).toUInt32 &&& Int32.toUInt32 31)).toInt32) hx hb dJ6_numberOfTrailingZeros_0f7a4_77 rfl ?_
            refine lv_iadd hx hb dJ6_numberOfTrailingZeros_0f7a4_78 ?_
            have hq := hm
            subst hq; subst hQ
            exact k_iret hx hb hr hlocks hP hD hS rfl trivial dJ6_numberOfTrailingZeros_0f7a4_79
          · have hm := i_f b12 hm
            refine lv_iinc (v := (1 + 16) + 2) (lv' := [(1, .int ((1 + 16) + 2)), (0, .int ((((x0 ^^^ (-1)) &&& (x0 - 1)).toUInt32 >>> ((16 : Int32).toUInt32 &&& Int32.toUInt32 31)).toInt32))]) hx hb dJ6_numberOfTrailingZeros_0f7a4_67 hl (k := 1) rfl rfl (by decide) rfl (fun ls hl => ?_)
            refine lv_iload_n hx hb dJ6_numberOfTrailingZeros_0f7a4_70 rfl (lv_at hl 1 rfl) ?_
            refine lv_iconst (v := 2) hx hb dJ6_numberOfTrailingZeros_0f7a4_71 (by decide) ?_
            refine lv_iushr (v := (((((x0 ^^^ (-1)) &&& (x0 - 1)).toUInt32 >>> ((16 : Int32).toUInt32 &&& Int32.toUInt32 31)).toInt32).toUInt32 >>> ((2 : Int32).toUInt32 &&& Int32.toUInt32 31)).toInt32) hx hb dJ6_numberOfTrailingZeros_0f7a4_72 rfl ?_
            refine lv_istore_n (lv' := [(0, .int ((((((x0 ^^^ (-1)) &&& (x0 - 1)).toUInt32 >>> ((16 : Int32).toUInt32 &&& Int32.toUInt32 31)).toInt32).toUInt32 >>> ((2 : Int32).toUInt32 &&& Int32.toUInt32 31)).toInt32)), (1, .int ((1 + 16) + 2))]) hx hb dJ6_numberOfTrailingZeros_0f7a4_73 rfl hl (by decide) rfl (fun ls hl => ?_)
            refine lv_iload_n hx hb dJ6_numberOfTrailingZeros_0f7a4_74 rfl (lv_at hl 1 rfl) ?_
            refine lv_iload_n hx hb dJ6_numberOfTrailingZeros_0f7a4_75 rfl (lv_at hl 0 rfl) ?_
            refine lv_iconst (v := 1) hx hb dJ6_numberOfTrailingZeros_0f7a4_76 (by decide) ?_
            refine lv_iushr (v := (((((((x0 ^^^ (-1)) &&& (x0 - 1)).toUInt32 >>> ((16 : Int32).toUInt32 &&& Int32.toUInt32 31)).toInt32).toUInt32 >>> ((2 : Int32).toUInt32 &&& Int32.toUInt32 31)).toInt32).toUInt32 >>> ((1 : Int32).toUInt32 &&& Int32.toUInt32 31)).toInt32) hx hb dJ6_numberOfTrailingZeros_0f7a4_77 rfl ?_
            refine lv_iadd hx hb dJ6_numberOfTrailingZeros_0f7a4_78 ?_
            have hq := hm
            subst hq; subst hQ
            exact k_iret hx hb hr hlocks hP hD hS rfl trivial dJ6_numberOfTrailingZeros_0f7a4_79
        · have hm := i_f b11 hm
          refine lv_iinc (v := (1 + 16) + 4) (lv' := [(1, .int ((1 + 16) + 4)), (0, .int ((((x0 ^^^ (-1)) &&& (x0 - 1)).toUInt32 >>> ((16 : Int32).toUInt32 &&& Int32.toUInt32 31)).toInt32))]) hx hb dJ6_numberOfTrailingZeros_0f7a4_55 hl (k := 1) rfl rfl (by decide) rfl (fun ls hl => ?_)
          refine lv_iload_n hx hb dJ6_numberOfTrailingZeros_0f7a4_58 rfl (lv_at hl 1 rfl) ?_
          refine lv_iconst (v := 4) hx hb dJ6_numberOfTrailingZeros_0f7a4_59 (by decide) ?_
          refine lv_iushr (v := (((((x0 ^^^ (-1)) &&& (x0 - 1)).toUInt32 >>> ((16 : Int32).toUInt32 &&& Int32.toUInt32 31)).toInt32).toUInt32 >>> ((4 : Int32).toUInt32 &&& Int32.toUInt32 31)).toInt32) hx hb dJ6_numberOfTrailingZeros_0f7a4_60 rfl ?_
          refine lv_istore_n (lv' := [(0, .int ((((((x0 ^^^ (-1)) &&& (x0 - 1)).toUInt32 >>> ((16 : Int32).toUInt32 &&& Int32.toUInt32 31)).toInt32).toUInt32 >>> ((4 : Int32).toUInt32 &&& Int32.toUInt32 31)).toInt32)), (1, .int ((1 + 16) + 4))]) hx hb dJ6_numberOfTrailingZeros_0f7a4_61 rfl hl (by decide) rfl (fun ls hl => ?_)
          refine lv_iload_n hx hb dJ6_numberOfTrailingZeros_0f7a4_62 rfl (lv_at hl 0 rfl) ?_
          refine lv_iconst (v := 4) hx hb dJ6_numberOfTrailingZeros_0f7a4_63 (by decide) ?_
          refine lv_icmp_le (tgt := 74) hx hb dJ6_numberOfTrailingZeros_0f7a4_64 (by decide) (fun b13 => ?_) (fun b13 => ?_)
          · have hm := i_t b13 hm
            refine lv_iload_n hx hb dJ6_numberOfTrailingZeros_0f7a4_74 rfl (lv_at hl 1 rfl) ?_
            refine lv_iload_n hx hb dJ6_numberOfTrailingZeros_0f7a4_75 rfl (lv_at hl 0 rfl) ?_
            refine lv_iconst (v := 1) hx hb dJ6_numberOfTrailingZeros_0f7a4_76 (by decide) ?_
            refine lv_iushr (v := (((((((x0 ^^^ (-1)) &&& (x0 - 1)).toUInt32 >>> ((16 : Int32).toUInt32 &&& Int32.toUInt32 31)).toInt32).toUInt32 >>> ((4 : Int32).toUInt32 &&& Int32.toUInt32 31)).toInt32).toUInt32 >>> ((1 : Int32).toUInt32 &&& Int32.toUInt32 31)).toInt32) hx hb dJ6_numberOfTrailingZeros_0f7a4_77 rfl ?_
            refine lv_iadd hx hb dJ6_numberOfTrailingZeros_0f7a4_78 ?_
            have hq := hm
            subst hq; subst hQ
            exact k_iret hx hb hr hlocks hP hD hS rfl trivial dJ6_numberOfTrailingZeros_0f7a4_79
          · have hm := i_f b13 hm
            refine lv_iinc (v := ((1 + 16) + 4) + 2) (lv' := [(1, .int (((1 + 16) + 4) + 2)), (0, .int ((((((x0 ^^^ (-1)) &&& (x0 - 1)).toUInt32 >>> ((16 : Int32).toUInt32 &&& Int32.toUInt32 31)).toInt32).toUInt32 >>> ((4 : Int32).toUInt32 &&& Int32.toUInt32 31)).toInt32))]) hx hb dJ6_numberOfTrailingZeros_0f7a4_67 hl (k := 1) rfl rfl (by decide) rfl (fun ls hl => ?_)
            refine lv_iload_n hx hb dJ6_numberOfTrailingZeros_0f7a4_70 rfl (lv_at hl 1 rfl) ?_
            refine lv_iconst (v := 2) hx hb dJ6_numberOfTrailingZeros_0f7a4_71 (by decide) ?_
            refine lv_iushr (v := (((((((x0 ^^^ (-1)) &&& (x0 - 1)).toUInt32 >>> ((16 : Int32).toUInt32 &&& Int32.toUInt32 31)).toInt32).toUInt32 >>> ((4 : Int32).toUInt32 &&& Int32.toUInt32 31)).toInt32).toUInt32 >>> ((2 : Int32).toUInt32 &&& Int32.toUInt32 31)).toInt32) hx hb dJ6_numberOfTrailingZeros_0f7a4_72 rfl ?_
            refine lv_istore_n (lv' := [(0, .int ((((((((x0 ^^^ (-1)) &&& (x0 - 1)).toUInt32 >>> ((16 : Int32).toUInt32 &&& Int32.toUInt32 31)).toInt32).toUInt32 >>> ((4 : Int32).toUInt32 &&& Int32.toUInt32 31)).toInt32).toUInt32 >>> ((2 : Int32).toUInt32 &&& Int32.toUInt32 31)).toInt32)), (1, .int (((1 + 16) + 4) + 2))]) hx hb dJ6_numberOfTrailingZeros_0f7a4_73 rfl hl (by decide) rfl (fun ls hl => ?_)
            refine lv_iload_n hx hb dJ6_numberOfTrailingZeros_0f7a4_74 rfl (lv_at hl 1 rfl) ?_
            refine lv_iload_n hx hb dJ6_numberOfTrailingZeros_0f7a4_75 rfl (lv_at hl 0 rfl) ?_
            refine lv_iconst (v := 1) hx hb dJ6_numberOfTrailingZeros_0f7a4_76 (by decide) ?_
            refine lv_iushr (v := (((((((((x0 ^^^ (-1)) &&& (x0 - 1)).toUInt32 >>> ((16 : Int32).toUInt32 &&& Int32.toUInt32 31)).toInt32).toUInt32 >>> ((4 : Int32).toUInt32 &&& Int32.toUInt32 31)).toInt32).toUInt32 >>> ((2 : Int32).toUInt32 &&& Int32.toUInt32 31)).toInt32).toUInt32 >>> ((1 : Int32).toUInt32 &&& Int32.toUInt32 31)).toInt32) hx hb dJ6_numberOfTrailingZeros_0f7a4_77 rfl ?_
            refine lv_iadd hx hb dJ6_numberOfTrailingZeros_0f7a4_78 ?_
            have hq := hm
            subst hq; subst hQ
            exact k_iret hx hb hr hlocks hP hD hS rfl trivial dJ6_numberOfTrailingZeros_0f7a4_79
      · have hm := i_f b10 hm
        refine lv_iinc (v := (1 + 16) + 8) (lv' := [(1, .int ((1 + 16) + 8)), (0, .int ((((x0 ^^^ (-1)) &&& (x0 - 1)).toUInt32 >>> ((16 : Int32).toUInt32 &&& Int32.toUInt32 31)).toInt32))]) hx hb dJ6_numberOfTrailingZeros_0f7a4_41 hl (k := 1) rfl rfl (by decide) rfl (fun ls hl => ?_)
        refine lv_iload_n hx hb dJ6_numberOfTrailingZeros_0f7a4_44 rfl (lv_at hl 1 rfl) ?_
        refine lv_bipush (v := 8) hx hb dJ6_numberOfTrailingZeros_0f7a4_45 (by decide) ?_
        refine lv_iushr (v := (((((x0 ^^^ (-1)) &&& (x0 - 1)).toUInt32 >>> ((16 : Int32).toUInt32 &&& Int32.toUInt32 31)).toInt32).toUInt32 >>> ((8 : Int32).toUInt32 &&& Int32.toUInt32 31)).toInt32) hx hb dJ6_numberOfTrailingZeros_0f7a4_47 rfl ?_
        refine lv_istore_n (lv' := [(0, .int ((((((x0 ^^^ (-1)) &&& (x0 - 1)).toUInt32 >>> ((16 : Int32).toUInt32 &&& Int32.toUInt32 31)).toInt32).toUInt32 >>> ((8 : Int32).toUInt32 &&& Int32.toUInt32 31)).toInt32)), (1, .int ((1 + 16) + 8))]) hx hb dJ6_numberOfTrailingZeros_0f7a4_48 rfl hl (by decide) rfl (fun ls hl => ?_)
        refine lv_iload_n hx hb dJ6_numberOfTrailingZeros_0f7a4_49 rfl (lv_at hl 0 rfl) ?_
        refine lv_bipush (v := 16) hx hb dJ6_numberOfTrailingZeros_0f7a4_50 (by decide) ?_
        refine lv_icmp_le (tgt := 62) hx hb dJ6_numberOfTrailingZeros_0f7a4_52 (by decide) (fun b14 => ?_) (fun b14 => ?_)
        · have hm := i_t b14 hm
          refine lv_iload_n hx hb dJ6_numberOfTrailingZeros_0f7a4_62 rfl (lv_at hl 0 rfl) ?_
          refine lv_iconst (v := 4) hx hb dJ6_numberOfTrailingZeros_0f7a4_63 (by decide) ?_
          refine lv_icmp_le (tgt := 74) hx hb dJ6_numberOfTrailingZeros_0f7a4_64 (by decide) (fun b15 => ?_) (fun b15 => ?_)
          · have hm := i_t b15 hm
            refine lv_iload_n hx hb dJ6_numberOfTrailingZeros_0f7a4_74 rfl (lv_at hl 1 rfl) ?_
            refine lv_iload_n hx hb dJ6_numberOfTrailingZeros_0f7a4_75 rfl (lv_at hl 0 rfl) ?_
            refine lv_iconst (v := 1) hx hb dJ6_numberOfTrailingZeros_0f7a4_76 (by decide) ?_
            refine lv_iushr (v := (((((((x0 ^^^ (-1)) &&& (x0 - 1)).toUInt32 >>> ((16 : Int32).toUInt32 &&& Int32.toUInt32 31)).toInt32).toUInt32 >>> ((8 : Int32).toUInt32 &&& Int32.toUInt32 31)).toInt32).toUInt32 >>> ((1 : Int32).toUInt32 &&& Int32.toUInt32 31)).toInt32) hx hb dJ6_numberOfTrailingZeros_0f7a4_77 rfl ?_
            refine lv_iadd hx hb dJ6_numberOfTrailingZeros_0f7a4_78 ?_
            have hq := hm
            subst hq; subst hQ
            exact k_iret hx hb hr hlocks hP hD hS rfl trivial dJ6_numberOfTrailingZeros_0f7a4_79
          · have hm := i_f b15 hm
            refine lv_iinc (v := ((1 + 16) + 8) + 2) (lv' := [(1, .int (((1 + 16) + 8) + 2)), (0, .int ((((((x0 ^^^ (-1)) &&& (x0 - 1)).toUInt32 >>> ((16 : Int32).toUInt32 &&& Int32.toUInt32 31)).toInt32).toUInt32 >>> ((8 : Int32).toUInt32 &&& Int32.toUInt32 31)).toInt32))]) hx hb dJ6_numberOfTrailingZeros_0f7a4_67 hl (k := 1) rfl rfl (by decide) rfl (fun ls hl => ?_)
            refine lv_iload_n hx hb dJ6_numberOfTrailingZeros_0f7a4_70 rfl (lv_at hl 1 rfl) ?_
            refine lv_iconst (v := 2) hx hb dJ6_numberOfTrailingZeros_0f7a4_71 (by decide) ?_
            refine lv_iushr (v := (((((((x0 ^^^ (-1)) &&& (x0 - 1)).toUInt32 >>> ((16 : Int32).toUInt32 &&& Int32.toUInt32 31)).toInt32).toUInt32 >>> ((8 : Int32).toUInt32 &&& Int32.toUInt32 31)).toInt32).toUInt32 >>> ((2 : Int32).toUInt32 &&& Int32.toUInt32 31)).toInt32) hx hb dJ6_numberOfTrailingZeros_0f7a4_72 rfl ?_
            refine lv_istore_n (lv' := [(0, .int ((((((((x0 ^^^ (-1)) &&& (x0 - 1)).toUInt32 >>> ((16 : Int32).toUInt32 &&& Int32.toUInt32 31)).toInt32).toUInt32 >>> ((8 : Int32).toUInt32 &&& Int32.toUInt32 31)).toInt32).toUInt32 >>> ((2 : Int32).toUInt32 &&& Int32.toUInt32 31)).toInt32)), (1, .int (((1 + 16) + 8) + 2))]) hx hb dJ6_numberOfTrailingZeros_0f7a4_73 rfl hl (by decide) rfl (fun ls hl => ?_)
            refine lv_iload_n hx hb dJ6_numberOfTrailingZeros_0f7a4_74 rfl (lv_at hl 1 rfl) ?_
            refine lv_iload_n hx hb dJ6_numberOfTrailingZeros_0f7a4_75 rfl (lv_at hl 0 rfl) ?_
            refine lv_iconst (v := 1) hx hb dJ6_numberOfTrailingZeros_0f7a4_76 (by decide) ?_
            refine lv_iushr (v := (((((((((x0 ^^^ (-1)) &&& (x0 - 1)).toUInt32 >>> ((16 : Int32).toUInt32 &&& Int32.toUInt32 31)).toInt32).toUInt32 >>> ((8 : Int32).toUInt32 &&& Int32.toUInt32 31)).toInt32).toUInt32 >>> ((2 : Int32).toUInt32 &&& Int32.toUInt32 31)).toInt32).toUInt32 >>> ((1 : Int32).toUInt32 &&& Int32.toUInt32 31)).toInt32) hx hb dJ6_numberOfTrailingZeros_0f7a4_77 rfl ?_
            refine lv_iadd hx hb dJ6_numberOfTrailingZeros_0f7a4_78 ?_
            have hq := hm
            subst hq; subst hQ
            exact k_iret hx hb hr hlocks hP hD hS rfl trivial dJ6_numberOfTrailingZeros_0f7a4_79
        · have hm := i_f b14 hm
          refine lv_iinc (v := ((1 + 16) + 8) + 4) (lv' := [(1, .int (((1 + 16) + 8) + 4)), (0, .int ((((((x0 ^^^ (-1)) &&& (x0 - 1)).toUInt32 >>> ((16 : Int32).toUInt32 &&& Int32.toUInt32 31)).toInt32).toUInt32 >>> ((8 : Int32).toUInt32 &&& Int32.toUInt32 31)).toInt32))]) hx hb dJ6_numberOfTrailingZeros_0f7a4_55 hl (k := 1) rfl rfl (by decide) rfl (fun ls hl => ?_)
          refine lv_iload_n hx hb dJ6_numberOfTrailingZeros_0f7a4_58 rfl (lv_at hl 1 rfl) ?_
          refine lv_iconst (v := 4) hx hb dJ6_numberOfTrailingZeros_0f7a4_59 (by decide) ?_
          refine lv_iushr (v := (((((((x0 ^^^ (-1)) &&& (x0 - 1)).toUInt32 >>> ((16 : Int32).toUInt32 &&& Int32.toUInt32 31)).toInt32).toUInt32 >>> ((8 : Int32).toUInt32 &&& Int32.toUInt32 31)).toInt32).toUInt32 >>> ((4 : Int32).toUInt32 &&& Int32.toUInt32 31)).toInt32) hx hb dJ6_numberOfTrailingZeros_0f7a4_60 rfl ?_
          refine lv_istore_n (lv' := [(0, .int ((((((((x0 ^^^ (-1)) &&& (x0 - 1)).toUInt32 >>> ((16 : Int32).toUInt32 &&& Int32.toUInt32 31)).toInt32).toUInt32 >>> ((8 : Int32).toUInt32 &&& Int32.toUInt32 31)).toInt32).toUInt32 >>> ((4 : Int32).toUInt32 &&& Int32.toUInt32 31)).toInt32)), (1, .int (((1 + 16) + 8) + 4))]) hx hb dJ6_numberOfTrailingZeros_0f7a4_61 rfl hl (by decide) rfl (fun ls hl => ?_)
          refine lv_iload_n hx hb dJ6_numberOfTrailingZeros_0f7a4_62 rfl (lv_at hl 0 rfl) ?_
          refine lv_iconst (v := 4) hx hb dJ6_numberOfTrailingZeros_0f7a4_63 (by decide) ?_
          refine lv_icmp_le (tgt := 74) hx hb dJ6_numberOfTrailingZeros_0f7a4_64 (by decide) (fun b16 => ?_) (fun b16 => ?_)
          · have hm := i_t b16 hm
            refine lv_iload_n hx hb dJ6_numberOfTrailingZeros_0f7a4_74 rfl (lv_at hl 1 rfl) ?_
            refine lv_iload_n hx hb dJ6_numberOfTrailingZeros_0f7a4_75 rfl (lv_at hl 0 rfl) ?_
            refine lv_iconst (v := 1) hx hb dJ6_numberOfTrailingZeros_0f7a4_76 (by decide) ?_
            refine lv_iushr (v := (((((((((x0 ^^^ (-1)) &&& (x0 - 1)).toUInt32 >>> ((16 : Int32).toUInt32 &&& Int32.toUInt32 31)).toInt32).toUInt32 >>> ((8 : Int32).toUInt32 &&& Int32.toUInt32 31)).toInt32).toUInt32 >>> ((4 : Int32).toUInt32 &&& Int32.toUInt32 31)).toInt32).toUInt32 >>> ((1 : Int32).toUInt32 &&& Int32.toUInt32 31)).toInt32) hx hb dJ6_numberOfTrailingZeros_0f7a4_77 rfl ?_
            refine lv_iadd hx hb dJ6_numberOfTrailingZeros_0f7a4_78 ?_
            have hq := hm
            subst hq; subst hQ
            exact k_iret hx hb hr hlocks hP hD hS rfl trivial dJ6_numberOfTrailingZeros_0f7a4_79
          · have hm := i_f b16 hm
            refine lv_iinc (v := (((1 + 16) + 8) + 4) + 2) (lv' := [(1, .int ((((1 + 16) + 8) + 4) + 2)), (0, .int ((((((((x0 ^^^ (-1)) &&& (x0 - 1)).toUInt32 >>> ((16 : Int32).toUInt32 &&& Int32.toUInt32 31)).toInt32).toUInt32 >>> ((8 : Int32).toUInt32 &&& Int32.toUInt32 31)).toInt32).toUInt32 >>> ((4 : Int32).toUInt32 &&& Int32.toUInt32 31)).toInt32))]) hx hb dJ6_numberOfTrailingZeros_0f7a4_67 hl (k := 1) rfl rfl (by decide) rfl (fun ls hl => ?_)
            refine lv_iload_n hx hb dJ6_numberOfTrailingZeros_0f7a4_70 rfl (lv_at hl 1 rfl) ?_
            refine lv_iconst (v := 2) hx hb dJ6_numberOfTrailingZeros_0f7a4_71 (by decide) ?_
            refine lv_iushr (v := (((((((((x0 ^^^ (-1)) &&& (x0 - 1)).toUInt32 >>> ((16 : Int32).toUInt32 &&& Int32.toUInt32 31)).toInt32).toUInt32 >>> ((8 : Int32).toUInt32 &&& Int32.toUInt32 31)).toInt32).toUInt32 >>> ((4 : Int32).toUInt32 &&& Int32.toUInt32 31)).toInt32).toUInt32 >>> ((2 : Int32).toUInt32 &&& Int32.toUInt32 31)).toInt32) hx hb dJ6_numberOfTrailingZeros_0f7a4_72 rfl ?_
            refine lv_istore_n (lv' := [(0, .int ((((((((((x0 ^^^ (-1)) &&& (x0 - 1)).toUInt32 >>> ((16 : Int32).toUInt32 &&& Int32.toUInt32 31)).toInt32).toUInt32 >>> ((8 : Int32).toUInt32 &&& Int32.toUInt32 31)).toInt32).toUInt32 >>> ((4 : Int32).toUInt32 &&& Int32.toUInt32 31)).toInt32).toUInt32 >>> ((2 : Int32).toUInt32 &&& Int32.toUInt32 31)).toInt32)), (1, .int ((((1 + 16) + 8) + 4) + 2))]) hx hb dJ6_numberOfTrailingZeros_0f7a4_73 rfl hl (by decide) rfl (fun ls hl => ?_)
            refine lv_iload_n hx hb dJ6_numberOfTrailingZeros_0f7a4_74 rfl (lv_at hl 1 rfl) ?_
            refine lv_iload_n hx hb dJ6_numberOfTrailingZeros_0f7a4_75 rfl (lv_at hl 0 rfl) ?_
            refine lv_iconst (v := 1) hx hb dJ6_numberOfTrailingZeros_0f7a4_76 (by decide) ?_
            refine lv_iushr (v := (((((((((((x0 ^^^ (-1)) &&& (x0 - 1)).toUInt32 >>> ((16 : Int32).toUInt32 &&& Int32.toUInt32 31)).toInt32).toUInt32 >>> ((8 : Int32).toUInt32 &&& Int32.toUInt32 31)).toInt32).toUInt32 >>> ((4 : Int32).toUInt32 &&& Int32.toUInt32 31)).toInt32).toUInt32 >>> ((2 : Int32).toUInt32 &&& Int32.toUInt32 31)).toInt32).toUInt32 >>> ((1 : Int32).toUInt32 &&& Int32.toUInt32 31)).toInt32) hx hb dJ6_numberOfTrailingZeros_0f7a4_77 rfl ?_
            refine lv_iadd hx hb dJ6_numberOfTrailingZeros_0f7a4_78 ?_
            have hq := hm
            subst hq; subst hQ
            exact k_iret hx hb hr hlocks hP hD hS rfl trivial dJ6_numberOfTrailingZeros_0f7a4_79
  · have hm := i_f b1 hm
    refine lv_iload_n hx hb dJ6_numberOfTrailingZeros_0f7a4_12 rfl (lv_at hl 0 rfl) ?_
    refine lv_bipush (v := 32) hx hb dJ6_numberOfTrailingZeros_0f7a4_13 (by decide) ?_
    refine lv_iand hx hb dJ6_numberOfTrailingZeros_0f7a4_15 ?_
    have hq := hm
    subst hq; subst hQ
    exact k_iret hx hb hr hlocks hP hD hS rfl trivial dJ6_numberOfTrailingZeros_0f7a4_16

theorem hd_J13_numberOfTrailingZeros_95d88 : yJ13_numberOfTrailingZeros_95d88.cls ≠ "java/lang/invoke/MethodHandle" ∧ yJ13_numberOfTrailingZeros_95d88.cls ≠ "java/lang/invoke/VarHandle" ∧ (parseMethodDescriptor yJ13_numberOfTrailingZeros_95d88.desc).map (fun d => d.parameters.length) = some 1 := by decide +kernel

def M_J13_numberOfTrailingZeros_95d88 (x0 : Int64)  : Int32 :=
  if x0.toInt32 = 0 then ((32 + (M_J6_numberOfTrailingZeros_0f7a4 (((x0.toUInt64 >>> ((32 : Int32).toInt64.toUInt64 &&& Int64.toUInt64 63)).toInt64).toInt32)))) else ((M_J6_numberOfTrailingZeros_0f7a4 x0.toInt32))

abbrev rmJ13_numberOfTrailingZeros_95d88 : Room := { frames := 1, cells := 0, slots := 0, locals := 21 }
set_option maxHeartbeats 4000000 in
set_option maxRecDepth 100000 in
theorem c_J13_numberOfTrailingZeros_95d88 (l : Launch) (G : va_G) (cs : CS) (sz : Nat)    (x0 : Int64) (res : Int32) (hm : M_J13_numberOfTrailingZeros_95d88 x0 = res) : Met l yJ13_numberOfTrailingZeros_95d88 wsJ13_numberOfTrailingZeros_95d88 rmJ13_numberOfTrailingZeros_95d88 (va_Pc [.long x0] (PreW G cs sz [] RN)) (QI G res True [] (va_A [] sz)) 0 0 (va_A [] sz) := by
  refine k_enter (Qf := fun A => QI G res True [] A) (cc := cJ13_numberOfTrailingZeros_95d88) (maxL := 3) (ret := (some .int)) (plainFor_of_name (by decide)) rfl (Nat.le_of_ble_eq_true rfl) ?_
  intro p e s m args below meth c A Q ls H locs hx hb hr hml hown hts hlocks hname hK hA hRo hP hD hS hQ hl
  have hl : lv_has ls 3 [(0, .long x0)] := hl
  unfold M_J13_numberOfTrailingZeros_95d88 at hm
  refine lv_lload_n hx hb dJ13_numberOfTrailingZeros_95d88_0 rfl (lv_at hl 0 rfl) ?_
  refine lv_l2i (v := x0.toInt32) hx hb dJ13_numberOfTrailingZeros_95d88_1 rfl ?_
  refine lv_istore_n (lv' := [(2, .int x0.toInt32), (0, .long x0)]) hx hb dJ13_numberOfTrailingZeros_95d88_2 rfl hl (by decide) rfl (fun ls hl => ?_)
  refine lv_iload_n hx hb dJ13_numberOfTrailingZeros_95d88_3 rfl (lv_at hl 0 rfl) ?_
  refine lv_if_ne (tgt := 21) hx hb dJ13_numberOfTrailingZeros_95d88_4 (by decide) (fun b1 => ?_) (fun b1 => ?_)
  · have hm := i_f b1 hm
    refine lv_iload_n hx hb dJ13_numberOfTrailingZeros_95d88_21 rfl (lv_at hl 0 rfl) ?_
    refine k_calli0 (va_runS (As := [.int x0.toInt32]) (rest := []) ⟨hx, hb, hml, hown, hts⟩ (c_J6_numberOfTrailingZeros_0f7a4 l G cs H.size    x0.toInt32 _ rfl) (va_cwS 1 hts gJ13_numberOfTrailingZeros_95d88_J6_numberOfTrailingZeros_0f7a4 rfl rfl rfl hd_J6_numberOfTrailingZeros_0f7a4 ⟨Nat.le_of_ble_eq_true rfl, Nat.le_of_ble_eq_true rfl⟩) ⟨pre_blind, pre_w hK RO.nil P0 D0 (va_new0 hS hA)⟩ rfl rfl hl.1 rfl (lv_room (Nat.le_of_ble_eq_true rfl)) dJ13_numberOfTrailingZeros_95d88_22 ⟨Nat.zero_le _, Nat.zero_le _⟩) hP hS hA (fun hE2 H locs hP hS => ?_)
    have hq := hm
    subst hq; subst hQ
    exact k_iret hx hb hr hlocks hP hD hS rfl trivial dJ13_numberOfTrailingZeros_95d88_25
  · have hm := i_t b1 hm
    refine lv_bipush (v := 32) hx hb dJ13_numberOfTrailingZeros_95d88_7 (by decide) ?_
    refine lv_lload_n hx hb dJ13_numberOfTrailingZeros_95d88_9 rfl (lv_at hl 1 rfl) ?_
    refine lv_bipush (v := 32) hx hb dJ13_numberOfTrailingZeros_95d88_10 (by decide) ?_
    refine lv_lushr (v := (x0.toUInt64 >>> ((32 : Int32).toInt64.toUInt64 &&& Int64.toUInt64 63)).toInt64) hx hb dJ13_numberOfTrailingZeros_95d88_12 rfl ?_
    refine lv_l2i (v := ((x0.toUInt64 >>> ((32 : Int32).toInt64.toUInt64 &&& Int64.toUInt64 63)).toInt64).toInt32) hx hb dJ13_numberOfTrailingZeros_95d88_13 rfl ?_
    refine k_calli0 (va_runS (As := [.int (((x0.toUInt64 >>> ((32 : Int32).toInt64.toUInt64 &&& Int64.toUInt64 63)).toInt64).toInt32)]) (rest := [.int 32]) ⟨hx, hb, hml, hown, hts⟩ (c_J6_numberOfTrailingZeros_0f7a4 l G cs H.size    (((x0.toUInt64 >>> ((32 : Int32).toInt64.toUInt64 &&& Int64.toUInt64 63)).toInt64).toInt32) _ rfl) (va_cwS 1 hts gJ13_numberOfTrailingZeros_95d88_J6_numberOfTrailingZeros_0f7a4 rfl rfl rfl hd_J6_numberOfTrailingZeros_0f7a4 ⟨Nat.le_of_ble_eq_true rfl, Nat.le_of_ble_eq_true rfl⟩) ⟨pre_blind, pre_w hK RO.nil P0 D0 (va_new0 hS hA)⟩ rfl rfl hl.1 rfl (lv_room (Nat.le_of_ble_eq_true rfl)) dJ13_numberOfTrailingZeros_95d88_14 ⟨Nat.zero_le _, Nat.zero_le _⟩) hP hS hA (fun hE3 H locs hP hS => ?_)
    refine lv_iadd hx hb dJ13_numberOfTrailingZeros_95d88_17 ?_
    refine lv_goto (tgt := 25) hx hb dJ13_numberOfTrailingZeros_95d88_18 (by decide) ?_
    have hq := hm
    subst hq; subst hQ
    exact k_iret hx hb hr hlocks hP hD hS rfl trivial dJ13_numberOfTrailingZeros_95d88_25

theorem hd_J13_bitCount_95d88 : yJ13_bitCount_95d88.cls ≠ "java/lang/invoke/MethodHandle" ∧ yJ13_bitCount_95d88.cls ≠ "java/lang/invoke/VarHandle" ∧ (parseMethodDescriptor yJ13_bitCount_95d88.desc).map (fun d => d.parameters.length) = some 1 := by decide +kernel

def M_J13_bitCount_95d88 (x0 : Int64)  : Int32 :=
  ((((((((((x0 - (((x0.toUInt64 >>> ((1 : Int32).toInt64.toUInt64 &&& Int64.toUInt64 63)).toInt64) &&& 6148914691236517205)) &&& 3689348814741910323) + ((((x0 - (((x0.toUInt64 >>> ((1 : Int32).toInt64.toUInt64 &&& Int64.toUInt64 63)).toInt64) &&& 6148914691236517205)).toUInt64 >>> ((2 : Int32).toInt64.toUInt64 &&& Int64.toUInt64 63)).toInt64) &&& 3689348814741910323)) + (((((x0 - (((x0.toUInt64 >>> ((1 : Int32).toInt64.toUInt64 &&& Int64.toUInt64 63)).toInt64) &&& 6148914691236517205)) &&& 3689348814741910323) + ((((x0 - (((x0.toUInt64 >>> ((1 : Int32).toInt64.toUInt64 &&& Int64.toUInt64 63)).toInt64) &&& 6148914691236517205)).toUInt64 >>> ((2 : Int32).toInt64.toUInt64 &&& Int64.toUInt64 63)).toInt64) &&& 3689348814741910323)).toUInt64 >>> ((4 : Int32).toInt64.toUInt64 &&& Int64.toUInt64 63)).toInt64)) &&& 1085102592571150095) + (((((((x0 - (((x0.toUInt64 >>> ((1 : Int32).toInt64.toUInt64 &&& Int64.toUInt64 63)).toInt64) &&& 6148914691236517205)) &&& 3689348814741910323) + ((((x0 - (((x0.toUInt64 >>> ((1 : Int32).toInt64.toUInt64 &&& Int64.toUInt64 63)).toInt64) &&& 6148914691236517205)).toUInt64 >>> ((2 : Int32).toInt64.toUInt64 &&& Int64.toUInt64 63)).toInt64) &&& 3689348814741910323)) + (((((x0 - (((x0.toUInt64 >>> ((1 : Int32).toInt64.toUInt64 &&& Int64.toUInt64 63)).toInt64) &&& 6148914691236517205)) &&& 3689348814741910323) + ((((x0 - (((x0.toUInt64 >>> ((1 : Int32).toInt64.toUInt64 &&& Int64.toUInt64 63)).toInt64) &&& 6148914691236517205)).toUInt64 >>> ((2 : Int32).toInt64.toUInt64 &&& Int64.toUInt64 63)).toInt64) &&& 3689348814741910323)).toUInt64 >>> ((4 : Int32).toInt64.toUInt64 &&& Int64.toUInt64 63)).toInt64)) &&& 1085102592571150095).toUInt64 >>> ((8 : Int32).toInt64.toUInt64 &&& Int64.toUInt64 63)).toInt64)) + ((((((((x0 - (((x0.toUInt64 >>> ((1 : Int32).toInt64.toUInt64 &&& Int64.toUInt64 63)).toInt64) &&& 6148914691236517205)) &&& 3689348814741910323) + ((((x0 - (((x0.toUInt64 >>> ((1 : Int32).toInt64.toUInt64 &&& Int64.toUInt64 63)).toInt64) &&& 6148914691236517205)).toUInt64 >>> ((2 : Int32).toInt64.toUInt64 &&& Int64.toUInt64 63)).toInt64) &&& 3689348814741910323)) + (((((x0 - (((x0.toUInt64 >>> ((1 : Int32).toInt64.toUInt64 &&& Int64.toUInt64 63)).toInt64) &&& 6148914691236517205)) &&& 3689348814741910323) + ((((x0 - (((x0.toUInt64 >>> ((1 : Int32).toInt64.toUInt64 &&& Int64.toUInt64 63)).toInt64) &&& 6148914691236517205)).toUInt64 >>> ((2 : Int32).toInt64.toUInt64 &&& Int64.toUInt64 63)).toInt64) &&& 3689348814741910323)).toUInt64 >>> ((4 : Int32).toInt64.toUInt64 &&& Int64.toUInt64 63)).toInt64)) &&& 1085102592571150095) + (((((((x0 - (((x0.toUInt64 >>> ((1 : Int32).toInt64.toUInt64 &&& Int64.toUInt64 63)).toInt64) &&& 6148914691236517205)) &&& 3689348814741910323) + ((((x0 - (((x0.toUInt64 >>> ((1 : Int32).toInt64.toUInt64 &&& Int64.toUInt64 63)).toInt64) &&& 6148914691236517205)).toUInt64 >>> ((2 : Int32).toInt64.toUInt64 &&& Int64.toUInt64 63)).toInt64) &&& 3689348814741910323)) + (((((x0 - (((x0.toUInt64 >>> ((1 : Int32).toInt64.toUInt64 &&& Int64.toUInt64 63)).toInt64) &&& 6148914691236517205)) &&& 3689348814741910323) + ((((x0 - (((x0.toUInt64 >>> ((1 : Int32).toInt64.toUInt64 &&& Int64.toUInt64 63)).toInt64) &&& 6148914691236517205)).toUInt64 >>> ((2 : Int32).toInt64.toUInt64 &&& Int64.toUInt64 63)).toInt64) &&& 3689348814741910323)).toUInt64 >>> ((4 : Int32).toInt64.toUInt64 &&& Int64.toUInt64 63)).toInt64)) &&& 1085102592571150095).toUInt64 >>> ((8 : Int32).toInt64.toUInt64 &&& Int64.toUInt64 63)).toInt64)).toUInt64 >>> ((16 : Int32).toInt64.toUInt64 &&& Int64.toUInt64 63)).toInt64)) + (((((((((x0 - (((x0.toUInt64 >>> ((1 : Int32).toInt64.toUInt64 &&& Int64.toUInt64 63)).toInt64) &&& 6148914691236517205)) &&& 3689348814741910323) + ((((x0 - (((x0.toUInt64 >>> ((1 : Int32).toInt64.toUInt64 &&& Int64.toUInt64 63)).toInt64) &&& 6148914691236517205)).toUInt64 >>> ((2 : Int32).toInt64.toUInt64 &&& Int64.toUInt64 63)).toInt64) &&& 3689348814741910323)) + (((((x0 - (((x0.toUInt64 >>> ((1 : Int32).toInt64.toUInt64 &&& Int64.toUInt64 63)).toInt64) &&& 6148914691236517205)) &&& 3689348814741910323) + ((((x0 - (((x0.toUInt64 >>> ((1 : Int32).toInt64.toUInt64 &&& Int64.toUInt64 63)).toInt64) &&& 6148914691236517205)).toUInt64 >>> ((2 : Int32).toInt64.toUInt64 &&& Int64.toUInt64 63)).toInt64) &&& 3689348814741910323)).toUInt64 >>> ((4 : Int32).toInt64.toUInt64 &&& Int64.toUInt64 63)).toInt64)) &&& 1085102592571150095) + (((((((x0 - (((x0.toUInt64 >>> ((1 : Int32).toInt64.toUInt64 &&& Int64.toUInt64 63)).toInt64) &&& 6148914691236517205)) &&& 3689348814741910323) + ((((x0 - (((x0.toUInt64 >>> ((1 : Int32).toInt64.toUInt64 &&& Int64.toUInt64 63)).toInt64) &&& 6148914691236517205)).toUInt64 >>> ((2 : Int32).toInt64.toUInt64 &&& Int64.toUInt64 63)).toInt64) &&& 3689348814741910323)) + (((((x0 - (((x0.toUInt64 >>> ((1 : Int32).toInt64.toUInt64 &&& Int64.toUInt64 63)).toInt64) &&& 6148914691236517205)) &&& 3689348814741910323) + ((((x0 - (((x0.toUInt64 >>> ((1 : Int32).toInt64.toUInt64 &&& Int64.toUInt64 63)).toInt64) &&& 6148914691236517205)).toUInt64 >>> ((2 : Int32).toInt64.toUInt64 &&& Int64.toUInt64 63)).toInt64) &&& 3689348814741910323)).toUInt64 >>> ((4 : Int32).toInt64.toUInt64 &&& Int64.toUInt64 63)).toInt64)) &&& 1085102592571150095).toUInt64 >>> ((8 : Int32).toInt64.toUInt64 &&& Int64.toUInt64 63)).toInt64)) + ((((((((x0 - (((x0.toUInt64 >>> ((1 : Int32).toInt64.toUInt64 &&& Int64.toUInt64 63)).toInt64) &&& 6148914691236517205)) &&& 3689348814741910323) + ((((x0 - (((x0.toUInt64 >>> ((1 : Int32).toInt64.toUInt64 &&& Int64.toUInt64 63)).toInt64) &&& 6148914691236517205)).toUInt64 >>> ((2 : Int32).toInt64.toUInt64 &&& Int64.toUInt64 63)).toInt64) &&& 3689348814741910323)) + (((((x0 - (((x0.toUInt64 >>> ((1 : Int32).toInt64.toUInt64 &&& Int64.toUInt64 63)).toInt64) &&& 6148914691236517205)) &&& 3689348814741910323) + ((((x0 - (((x0.toUInt64 >>> ((1 : Int32).toInt64.toUInt64 &&& Int64.toUInt64 63)).toInt64) &&& 6148914691236517205)).toUInt64 >>> ((2 : Int32).toInt64.toUInt64 &&& Int64.toUInt64 63)).toInt64) &&& 3689348814741910323)).toUInt64 >>> ((4 : Int32).toInt64.toUInt64 &&& Int64.toUInt64 63)).toInt64)) &&& 1085102592571150095) + (((((((x0 - (((x0.toUInt64 >>> ((1 : Int32).toInt64.toUInt64 &&& Int64.toUInt64 63)).toInt64) &&& 6148914691236517205)) &&& 3689348814741910323) + ((((x0 - (((x0.toUInt64 >>> ((1 : Int32).toInt64.toUInt64 &&& Int64.toUInt64 63)).toInt64) &&& 6148914691236517205)).toUInt64 >>> ((2 : Int32).toInt64.toUInt64 &&& Int64.toUInt64 63)).toInt64) &&& 3689348814741910323)) + (((((x0 - (((x0.toUInt64 >>> ((1 : Int32).toInt64.toUInt64 &&& Int64.toUInt64 63)).toInt64) &&& 6148914691236517205)) &&& 3689348814741910323) + ((((x0 - (((x0.toUInt64 >>> ((1 : Int32).toInt64.toUInt64 &&& Int64.toUInt64 63)).toInt64) &&& 6148914691236517205)).toUInt64 >>> ((2 : Int32).toInt64.toUInt64 &&& Int64.toUInt64 63)).toInt64) &&& 3689348814741910323)).toUInt64 >>> ((4 : Int32).toInt64.toUInt64 &&& Int64.toUInt64 63)).toInt64)) &&& 1085102592571150095).toUInt64 >>> ((8 : Int32).toInt64.toUInt64 &&& Int64.toUInt64 63)).toInt64)).toUInt64 >>> ((16 : Int32).toInt64.toUInt64 &&& Int64.toUInt64 63)).toInt64)).toUInt64 >>> ((32 : Int32).toInt64.toUInt64 &&& Int64.toUInt64 63)).toInt64)).toInt32) &&& 127)

abbrev rmJ13_bitCount_95d88 : Room := { frames := 0, cells := 0, slots := 0, locals := 0 }
set_option maxHeartbeats 4000000 in
set_option maxRecDepth 100000 in
theorem c_J13_bitCount_95d88 (l : Launch) (G : va_G) (cs : CS) (sz : Nat)    (x0 : Int64) (res : Int32) (hm : M_J13_bitCount_95d88 x0 = res) : Met l yJ13_bitCount_95d88 wsJ13_bitCount_95d88 rmJ13_bitCount_95d88 (va_Pc [.long x0] (PreW G cs sz [] RN)) (QI G res True [] (va_A [] sz)) 0 0 (va_A [] sz) := by
  refine k_enter (Qf := fun A => QI G res True [] A) (cc := cJ13_bitCount_95d88) (maxL := 2) (ret := (some .int)) (plainFor_of_name (by decide)) rfl (Nat.le_of_ble_eq_true rfl) ?_
  intro p e s m args below meth c A Q ls H locs hx hb hr hml hown hts hlocks hname hK hA hRo hP hD hS hQ hl
  have hl : lv_has ls 2 [(0, .long x0)] := hl
  have wd1 := hts (.constantLong RJ13 314 (6148914691236517205)) (List.mem_of_getElem? (i := 1) rfl)
  have wd2 := hts (.constantLong RJ13 316 (3689348814741910323)) (List.mem_of_getElem? (i := 2) rfl)
  have wd3 := hts (.constantLong RJ13 318 (1085102592571150095)) (List.mem_of_getElem? (i := 3) rfl)
  unfold M_J13_bitCount_95d88 at hm
  refine lv_lload_n hx hb dJ13_bitCount_95d88_0 rfl (lv_at hl 0 rfl) ?_
  refine lv_lload_n hx hb dJ13_bitCount_95d88_1 rfl (lv_at hl 0 rfl) ?_
  refine lv_iconst (v := 1) hx hb dJ13_bitCount_95d88_2 (by decide) ?_
  refine lv_lushr (v := (x0.toUInt64 >>> ((1 : Int32).toInt64.toUInt64 &&& Int64.toUInt64 63)).toInt64) hx hb dJ13_bitCount_95d88_3 rfl ?_
  refine lv_ldc2 (own := RJ13) (v := 6148914691236517205) hx hb hown wd1 dJ13_bitCount_95d88_4 ?_
  refine lv_land hx hb dJ13_bitCount_95d88_7 ?_
  refine lv_lsub hx hb dJ13_bitCount_95d88_8 ?_
  refine lv_lstore_n (lv' := [(0, .long (x0 - (((x0.toUInt64 >>> ((1 : Int32).toInt64.toUInt64 &&& Int64.toUInt64 63)).toInt64) &&& 6148914691236517205)))]) hx hb dJ13_bitCount_95d88_9 rfl hl (by decide) rfl (fun ls hl => ?_)
  refine lv_lload_n hx hb dJ13_bitCount_95d88_10 rfl (lv_at hl 0 rfl) ?_
  refine lv_ldc2 (own := RJ13) (v := 3689348814741910323) hx hb hown wd2 dJ13_bitCount_95d88_11 ?_
  refine lv_land hx hb dJ13_bitCount_95d88_14 ?_
  refine lv_lload_n hx hb dJ13_bitCount_95d88_15 rfl (lv_at hl 0 rfl) ?_
  refine lv_iconst (v := 2) hx hb dJ13_bitCount_95d88_16 (by decide) ?_
  refine lv_lushr (v := ((x0 - (((x0.toUInt64 >>> ((1 : Int32).toInt64.toUInt64 &&& Int64.toUInt64 63)).toInt64) &&& 6148914691236517205)).toUInt64 >>> ((2 : Int32).toInt64.toUInt64 &&& Int64.toUInt64 63)).toInt64) hx hb dJ13_bitCount_95d88_17 rfl ?_
  refine lv_ldc2 (own := RJ13) (v := 3689348814741910323) hx hb hown wd2 dJ13_bitCount_95d88_18 ?_
  refine lv_land hx hb dJ13_bitCount_95d88_21 ?_
  refine lv_ladd hx hb dJ13_bitCount_95d88_22 ?_
  refine lv_lstore_n (lv' := [(0, .long (((x0 - (((x0.toUInt64 >>> ((1 : Int32).toInt64.toUInt64 &&& Int64.toUInt64 63)).toInt64) &&& 6148914691236517205)) &&& 3689348814741910323) + ((((x0 - (((x0.toUInt64 >>> ((1 : Int32).toInt64.toUInt64 &&& Int64.toUInt64 63)).toInt64) &&& 6148914691236517205)).toUInt64 >>> ((2 : Int32).toInt64.toUInt64 &&& Int64.toUInt64 63)).toInt64) &&& 3689348814741910323)))]) hx hb dJ13_bitCount_95d88_23 rfl hl (by decide) rfl (fun ls hl => ?_)
  refine lv_lload_n hx hb dJ13_bitCount_95d88_24 rfl (lv_at hl 0 rfl) ?_
  refine lv_lload_n hx hb dJ13_bitCount_95d88_25 rfl (lv_at hl 0 rfl) ?_
  refine lv_iconst (v := 4) hx hb dJ13_bitCount_95d88_26 (by decide) ?_
  refine lv_lushr (v := ((((x0 - (((x0.toUInt64 >>> ((1 : Int32).toInt64.toUInt64 &&& Int64.toUInt64 63)).toInt64) &&& 6148914691236517205)) &&& 3689348814741910323) + ((((x0 - (((x0.toUInt64 >>> ((1 : Int32).toInt64.toUInt64 &&& Int64.toUInt64 63)).toInt64) &&& 6148914691236517205)).toUInt64 >>> ((2 : Int32).toInt64.toUInt64 &&& Int64.toUInt64 63)).toInt64) &&& 3689348814741910323)).toUInt64 >>> ((4 : Int32).toInt64.toUInt64 &&& Int64.toUInt64 63)).toInt64) hx hb dJ13_bitCount_95d88_27 rfl ?_
  refine lv_ladd hx hb dJ13_bitCount_95d88_28 ?_
  refine lv_ldc2 (own := RJ13) (v := 1085102592571150095) hx hb hown wd3 dJ13_bitCount_95d88_29 ?_
  refine lv_land hx hb dJ13_bitCount_95d88_32 ?_
  refine lv_lstore_n (lv' := [(0, .long (((((x0 - (((x0.toUInt64 >>> ((1 : Int32).toInt64.toUInt64 &&& Int64.toUInt64 63)).toInt64) &&& 6148914691236517205)) &&& 3689348814741910323) + ((((x0 - (((x0.toUInt64 >>> ((1 : Int32).toInt64.toUInt64 &&& Int64.toUInt64 63)).toInt64) &&& 6148914691236517205)).toUInt64 >>> ((2 : Int32).toInt64.toUInt64 &&& Int64.toUInt64 63)).toInt64) &&& 3689348814741910323)) + (((((x0 - (((x0.toUInt64 >>> ((1 : Int32).toInt64.toUInt64 &&& Int64.toUInt64 63)).toInt64) &&& 6148914691236517205)) &&& 3689348814741910323) + ((((x0 - (((x0.toUInt64 >>> ((1 : Int32).toInt64.toUInt64 &&& Int64.toUInt64 63)).toInt64) &&& 6148914691236517205)).toUInt64 >>> ((2 : Int32).toInt64.toUInt64 &&& Int64.toUInt64 63)).toInt64) &&& 3689348814741910323)).toUInt64 >>> ((4 : Int32).toInt64.toUInt64 &&& Int64.toUInt64 63)).toInt64)) &&& 1085102592571150095))]) hx hb dJ13_bitCount_95d88_33 rfl hl (by decide) rfl (fun ls hl => ?_)
  refine lv_lload_n hx hb dJ13_bitCount_95d88_34 rfl (lv_at hl 0 rfl) ?_
  refine lv_lload_n hx hb dJ13_bitCount_95d88_35 rfl (lv_at hl 0 rfl) ?_
  refine lv_bipush (v := 8) hx hb dJ13_bitCount_95d88_36 (by decide) ?_
  refine lv_lushr (v := ((((((x0 - (((x0.toUInt64 >>> ((1 : Int32).toInt64.toUInt64 &&& Int64.toUInt64 63)).toInt64) &&& 6148914691236517205)) &&& 3689348814741910323) + ((((x0 - (((x0.toUInt64 >>> ((1 : Int32).toInt64.toUInt64 &&& Int64.toUInt64 63)).toInt64) &&& 6148914691236517205)).toUInt64 >>> ((2 : Int32).toInt64.toUInt64 &&& Int64.toUInt64 63)).toInt64) &&& 3689348814741910323)) + (((((x0 - (((x0.toUInt64 >>> ((1 : Int32).toInt64.toUInt64 &&& Int64.toUInt64 63)).toInt64) &&& 6148914691236517205)) &&& 3689348814741910323) + ((((x0 - (((x0.toUInt64 >>> ((1 : Int32).toInt64.toUInt64 &&& Int64.toUInt64 63)).toInt64) &&& 6148914691236517205)).toUInt64 >>> ((2 : Int32).toInt64.toUInt64 &&& Int64.toUInt64 63)).toInt64) &&& 3689348814741910323)).toUInt64 >>> ((4 : Int32).toInt64.toUInt64 &&& Int64.toUInt64 63)).toInt64)) &&& 1085102592571150095).toUInt64 >>> ((8 : Int32).toInt64.toUInt64 &&& Int64.toUInt64 63)).toInt64) hx hb dJ13_bitCount_95d88_38 rfl ?_
  refine lv_ladd hx hb dJ13_bitCount_95d88_39 ?_
  refine lv_lstore_n (lv' := [(0, .long ((((((x0 - (((x0.toUInt64 >>> ((1 : Int32).toInt64.toUInt64 &&& Int64.toUInt64 63)).toInt64) &&& 6148914691236517205)) &&& 3689348814741910323) + ((((x0 - (((x0.toUInt64 >>> ((1 : Int32).toInt64.toUInt64 &&& Int64.toUInt64 63)).toInt64) &&& 6148914691236517205)).toUInt64 >>> ((2 : Int32).toInt64.toUInt64 &&& Int64.toUInt64 63)).toInt64) &&& 3689348814741910323)) + (((((x0 - (((x0.toUInt64 >>> ((1 : Int32).toInt64.toUInt64 &&& Int64.toUInt64 63)).toInt64) &&& 6148914691236517205)) &&& 3689348814741910323) + ((((x0 - (((x0.toUInt64 >>> ((1 : Int32).toInt64.toUInt64 &&& Int64.toUInt64 63)).toInt64) &&& 6148914691236517205)).toUInt64 >>> ((2 : Int32).toInt64.toUInt64 &&& Int64.toUInt64 63)).toInt64) &&& 3689348814741910323)).toUInt64 >>> ((4 : Int32).toInt64.toUInt64 &&& Int64.toUInt64 63)).toInt64)) &&& 1085102592571150095) + (((((((x0 - (((x0.toUInt64 >>> ((1 : Int32).toInt64.toUInt64 &&& Int64.toUInt64 63)).toInt64) &&& 6148914691236517205)) &&& 3689348814741910323) + ((((x0 - (((x0.toUInt64 >>> ((1 : Int32).toInt64.toUInt64 &&& Int64.toUInt64 63)).toInt64) &&& 6148914691236517205)).toUInt64 >>> ((2 : Int32).toInt64.toUInt64 &&& Int64.toUInt64 63)).toInt64) &&& 3689348814741910323)) + (((((x0 - (((x0.toUInt64 >>> ((1 : Int32).toInt64.toUInt64 &&& Int64.toUInt64 63)).toInt64) &&& 6148914691236517205)) &&& 3689348814741910323) + ((((x0 - (((x0.toUInt64 >>> ((1 : Int32).toInt64.toUInt64 &&& Int64.toUInt64 63)).toInt64) &&& 6148914691236517205)).toUInt64 >>> ((2 : Int32).toInt64.toUInt64 &&& Int64.toUInt64 63)).toInt64) &&& 3689348814741910323)).toUInt64 >>> ((4 : Int32).toInt64.toUInt64 &&& Int64.toUInt64 63)).toInt64)) &&& 1085102592571150095).toUInt64 >>> ((8 : Int32).toInt64.toUInt64 &&& Int64.toUInt64 63)).toInt64)))]) hx hb dJ13_bitCount_95d88_40 rfl hl (by decide) rfl (fun ls hl => ?_)
  refine lv_lload_n hx hb dJ13_bitCount_95d88_41 rfl (lv_at hl 0 rfl) ?_
  refine lv_lload_n hx hb dJ13_bitCount_95d88_42 rfl (lv_at hl 0 rfl) ?_
  refine lv_bipush (v := 16) hx hb dJ13_bitCount_95d88_43 (by decide) ?_
  refine lv_lushr (v := (((((((x0 - (((x0.toUInt64 >>> ((1 : Int32).toInt64.toUInt64 &&& Int64.toUInt64 63)).toInt64) &&& 6148914691236517205)) &&& 3689348814741910323) + ((((x0 - (((x0.toUInt64 >>> ((1 : Int32).toInt64.toUInt64 &&& Int64.toUInt64 63)).toInt64) &&& 6148914691236517205)).toUInt64 >>> ((2 : Int32).toInt64.toUInt64 &&& Int64.toUInt64 63)).toInt64) &&& 3689348814741910323)) + (((((x0 - (((x0.toUInt64 >>> ((1 : Int32).toInt64.toUInt64 &&& Int64.toUInt64 63)).toInt64) &&& 6148914691236517205)) &&& 3689348814741910323) + ((((x0 - (((x0.toUInt64 >>> ((1 : Int32).toInt64.toUInt64 &&& Int64.toUInt64 63)).toInt64) &&& 6148914691236517205)).toUInt64 >>> ((2 : Int32).toInt64.toUInt64 &&& Int64.toUInt64 63)).toInt64) &&& 3689348814741910323)).toUInt64 >>> ((4 : Int32).toInt64.toUInt64 &&& Int64.toUInt64 63)).toInt64)) &&& 1085102592571150095) + (((((((x0 - (((x0.toUInt64 >>> ((1 : Int32).toInt64.toUInt64 &&& Int64.toUInt64 63)).toInt64) &&& 6148914691236517205)) &&& 3689348814741910323) + ((((x0 - (((x0.toUInt64 >>> ((1 : Int32).toInt64.toUInt64 &&& Int64.toUInt64 63)).toInt64) &&& 6148914691236517205)).toUInt64 >>> ((2 : Int32).toInt64.toUInt64 &&& Int64.toUInt64 63)).toInt64) &&& 3689348814741910323)) + (((((x0 - (((x0.toUInt64 >>> ((1 : Int32).toInt64.toUInt64 &&& Int64.toUInt64 63)).toInt64) &&& 6148914691236517205)) &&& 3689348814741910323) + ((((x0 - (((x0.toUInt64 >>> ((1 : Int32).toInt64.toUInt64 &&& Int64.toUInt64 63)).toInt64) &&& 6148914691236517205)).toUInt64 >>> ((2 : Int32).toInt64.toUInt64 &&& Int64.toUInt64 63)).toInt64) &&& 3689348814741910323)).toUInt64 >>> ((4 : Int32).toInt64.toUInt64 &&& Int64.toUInt64 63)).toInt64)) &&& 1085102592571150095).toUInt64 >>> ((8 : Int32).toInt64.toUInt64 &&& Int64.toUInt64 63)).toInt64)).toUInt64 >>> ((16 : Int32).toInt64.toUInt64 &&& Int64.toUInt64 63)).toInt64) hx hb dJ13_bitCount_95d88_45 rfl ?_
  refine lv_ladd hx hb dJ13_bitCount_95d88_46 ?_
  refine lv_lstore_n (lv' := [(0, .long (((((((x0 - (((x0.toUInt64 >>> ((1 : Int32).toInt64.toUInt64 &&& Int64.toUInt64 63)).toInt64) &&& 6148914691236517205)) &&& 3689348814741910323) + ((((x0 - (((x0.toUInt64 >>> ((1 : Int32).toInt64.toUInt64 &&& Int64.toUInt64 63)).toInt64) &&& 6148914691236517205)).toUInt64 >>> ((2 : Int32).toInt64.toUInt64 &&& Int64.toUInt64 63)).toInt64) &&& 3689348814741910323)) + (((((x0 - (((x0.toUInt64 >>> ((1 : Int32).toInt64.toUInt64 &&& Int64.toUInt64 63)).toInt64) &&& 6148914691236517205)) &&& 3689348814741910323) + ((((x0 - (((x0.toUInt64 >>> ((1 : Int32).toInt64.toUInt64 &&& Int64.toUInt64 63)).toInt64) &&& 6148914691236517205)).toUInt64 >>> ((2 : Int32).toInt64.toUInt64 &&& Int64.toUInt64 63)).toInt64) &&& 3689348814741910323)).toUInt64 >>> ((4 : Int32).toInt64.toUInt64 &&& Int64.toUInt64 63)).toInt64)) &&& 1085102592571150095) + (((((((x0 - (((x0.toUInt64 >>> ((1 : Int32).toInt64.toUInt64 &&& Int64.toUInt64 63)).toInt64) &&& 6148914691236517205)) &&& 3689348814741910323) + ((((x0 - (((x0.toUInt64 >>> ((1 : Int32).toInt64.toUInt64 &&& Int64.toUInt64 63)).toInt64) &&& 6148914691236517205)).toUInt64 >>> ((2 : Int32).toInt64.toUInt64 &&& Int64.toUInt64 63)).toInt64) &&& 3689348814741910323)) + (((((x0 - (((x0.toUInt64 >>> ((1 : Int32).toInt64.toUInt64 &&& Int64.toUInt64 63)).toInt64) &&& 6148914691236517205)) &&& 3689348814741910323) + ((((x0 - (((x0.toUInt64 >>> ((1 : Int32).toInt64.toUInt64 &&& Int64.toUInt64 63)).toInt64) &&& 6148914691236517205)).toUInt64 >>> ((2 : Int32).toInt64.toUInt64 &&& Int64.toUInt64 63)).toInt64) &&& 3689348814741910323)).toUInt64 >>> ((4 : Int32).toInt64.toUInt64 &&& Int64.toUInt64 63)).toInt64)) &&& 1085102592571150095).toUInt64 >>> ((8 : Int32).toInt64.toUInt64 &&& Int64.toUInt64 63)).toInt64)) + ((((((((x0 - (((x0.toUInt64 >>> ((1 : Int32).toInt64.toUInt64 &&& Int64.toUInt64 63)).toInt64) &&& 6148914691236517205)) &&& 3689348814741910323) + ((((x0 - (((x0.toUInt64 >>> ((1 : Int32).toInt64.toUInt64 &&& Int64.toUInt64 63)).toInt64) &&& 6148914691236517205)).toUInt64 >>> ((2 : Int32).toInt64.toUInt64 &&& Int64.toUInt64 63)).toInt64) &&& 3689348814741910323)) + (((((x0 - (((x0.toUInt64 >>> ((1 : Int32).toInt64.toUInt64 &&& Int64.toUInt64 63)).toInt64) &&& 6148914691236517205)) &&& 3689348814741910323) + ((((x0 - (((x0.toUInt64 >>> ((1 : Int32).toInt64.toUInt64 &&& Int64.toUInt64 63)).toInt64) &&& 6148914691236517205)).toUInt64 >>> ((2 : Int32).toInt64.toUInt64 &&& Int64.toUInt64 63)).toInt64) &&& 3689348814741910323)).toUInt64 >>> ((4 : Int32).toInt64.toUInt64 &&& Int64.toUInt64 63)).toInt64)) &&& 1085102592571150095) + (((((((x0 - (((x0.toUInt64 >>> ((1 : Int32).toInt64.toUInt64 &&& Int64.toUInt64 63)).toInt64) &&& 6148914691236517205)) &&& 3689348814741910323) + ((((x0 - (((x0.toUInt64 >>> ((1 : Int32).toInt64.toUInt64 &&& Int64.toUInt64 63)).toInt64) &&& 6148914691236517205)).toUInt64 >>> ((2 : Int32).toInt64.toUInt64 &&& Int64.toUInt64 63)).toInt64) &&& 3689348814741910323)) + (((((x0 - (((x0.toUInt64 >>> ((1 : Int32).toInt64.toUInt64 &&& Int64.toUInt64 63)).toInt64) &&& 6148914691236517205)) &&& 3689348814741910323) + ((((x0 - (((x0.toUInt64 >>> ((1 : Int32).toInt64.toUInt64 &&& Int64.toUInt64 63)).toInt64) &&& 6148914691236517205)).toUInt64 >>> ((2 : Int32).toInt64.toUInt64 &&& Int64.toUInt64 63)).toInt64) &&& 3689348814741910323)).toUInt64 >>> ((4 : Int32).toInt64.toUInt64 &&& Int64.toUInt64 63)).toInt64)) &&& 1085102592571150095).toUInt64 >>> ((8 : Int32).toInt64.toUInt64 &&& Int64.toUInt64 63)).toInt64)).toUInt64 >>> ((16 : Int32).toInt64.toUInt64 &&& Int64.toUInt64 63)).toInt64)))]) hx hb dJ13_bitCount_95d88_47 rfl hl (by decide) rfl (fun ls hl => ?_)
  refine lv_lload_n hx hb dJ13_bitCount_95d88_48 rfl (lv_at hl 0 rfl) ?_
  refine lv_lload_n hx hb dJ13_bitCount_95d88_49 rfl (lv_at hl 0 rfl) ?_
  refine lv_bipush (v := 32) hx hb dJ13_bitCount_95d88_50 (by decide) ?_
  refine lv_lushr (v := ((((((((x0 - (((x0.toUInt64 >>> ((1 : Int32).toInt64.toUInt64 &&& Int64.toUInt64 63)).toInt64) &&& 6148914691236517205)) &&& 3689348814741910323) + ((((x0 - (((x0.toUInt64 >>> ((1 : Int32).toInt64.toUInt64 &&& Int64.toUInt64 63)).toInt64) &&& 6148914691236517205)).toUInt64 >>> ((2 : Int32).toInt64.toUInt64 &&& Int64.toUInt64 63)).toInt64) &&& 3689348814741910323)) + (((((x0 - (((x0.toUInt64 >>> ((1 : Int32).toInt64.toUInt64 &&& Int64.toUInt64 63)).toInt64) &&& 6148914691236517205)) &&& 3689348814741910323) + ((((x0 - (((x0.toUInt64 >>> ((1 : Int32).toInt64.toUInt64 &&& Int64.toUInt64 63)).toInt64) &&& 6148914691236517205)).toUInt64 >>> ((2 : Int32).toInt64.toUInt64 &&& Int64.toUInt64 63)).toInt64) &&& 3689348814741910323)).toUInt64 >>> ((4 : Int32).toInt64.toUInt64 &&& Int64.toUInt64 63)).toInt64)) &&& 1085102592571150095) + (((((((x0 - (((x0.toUInt64 >>> ((1 : Int32).toInt64.toUInt64 &&& Int64.toUInt64 63)).toInt64) &&& 6148914691236517205)) &&& 3689348814741910323) + ((((x0 - (((x0.toUInt64 >>> ((1 : Int32).toInt64.toUInt64 &&& Int64.toUInt64 63)).toInt64) &&& 6148914691236517205)).toUInt64 >>> ((2 : Int32).toInt64.toUInt64 &&& Int64.toUInt64 63)).toInt64) &&& 3689348814741910323)) + (((((x0 - (((x0.toUInt64 >>> ((1 : Int32).toInt64.toUInt64 &&& Int64.toUInt64 63)).toInt64) &&& 6148914691236517205)) &&& 3689348814741910323) + ((((x0 - (((x0.toUInt64 >>> ((1 : Int32).toInt64.toUInt64 &&& Int64.toUInt64 63)).toInt64) &&& 6148914691236517205)).toUInt64 >>> ((2 : Int32).toInt64.toUInt64 &&& Int64.toUInt64 63)).toInt64) &&& 3689348814741910323)).toUInt64 >>> ((4 : Int32).toInt64.toUInt64 &&& Int64.toUInt64 63)).toInt64)) &&& 1085102592571150095).toUInt64 >>> ((8 : Int32).toInt64.toUInt64 &&& Int64.toUInt64 63)).toInt64)) + ((((((((x0 - (((x0.toUInt64 >>> ((1 : Int32).toInt64.toUInt64 &&& Int64.toUInt64 63)).toInt64) &&& 6148914691236517205)) &&& 3689348814741910323) + ((((x0 - (((x0.toUInt64 >>> ((1 : Int32).toInt64.toUInt64 &&& Int64.toUInt64 63)).toInt64) &&& 6148914691236517205)).toUInt64 >>> ((2 : Int32).toInt64.toUInt64 &&& Int64.toUInt64 63)).toInt64) &&& 3689348814741910323)) + (((((x0 - (((x0.toUInt64 >>> ((1 : Int32).toInt64.toUInt64 &&& Int64.toUInt64 63)).toInt64) &&& 6148914691236517205)) &&& 3689348814741910323) + ((((x0 - (((x0.toUInt64 >>> ((1 : Int32).toInt64.toUInt64 &&& Int64.toUInt64 63)).toInt64) &&& 6148914691236517205)).toUInt64 >>> ((2 : Int32).toInt64.toUInt64 &&& Int64.toUInt64 63)).toInt64) &&& 3689348814741910323)).toUInt64 >>> ((4 : Int32).toInt64.toUInt64 &&& Int64.toUInt64 63)).toInt64)) &&& 1085102592571150095) + (((((((x0 - (((x0.toUInt64 >>> ((1 : Int32).toInt64.toUInt64 &&& Int64.toUInt64 63)).toInt64) &&& 6148914691236517205)) &&& 3689348814741910323) + ((((x0 - (((x0.toUInt64 >>> ((1 : Int32).toInt64.toUInt64 &&& Int64.toUInt64 63)).toInt64) &&& 6148914691236517205)).toUInt64 >>> ((2 : Int32).toInt64.toUInt64 &&& Int64.toUInt64 63)).toInt64) &&& 3689348814741910323)) + (((((x0 - (((x0.toUInt64 >>> ((1 : Int32).toInt64.toUInt64 &&& Int64.toUInt64 63)).toInt64) &&& 6148914691236517205)) &&& 3689348814741910323) + ((((x0 - (((x0.toUInt64 >>> ((1 : Int32).toInt64.toUInt64 &&& Int64.toUInt64 63)).toInt64) &&& 6148914691236517205)).toUInt64 >>> ((2 : Int32).toInt64.toUInt64 &&& Int64.toUInt64 63)).toInt64) &&& 3689348814741910323)).toUInt64 >>> ((4 : Int32).toInt64.toUInt64 &&& Int64.toUInt64 63)).toInt64)) &&& 1085102592571150095).toUInt64 >>> ((8 : Int32).toInt64.toUInt64 &&& Int64.toUInt64 63)).toInt64)).toUInt64 >>> ((16 : Int32).toInt64.toUInt64 &&& Int64.toUInt64 63)).toInt64)).toUInt64 >>> ((32 : Int32).toInt64.toUInt64 &&& Int64.toUInt64 63)).toInt64) hx hb dJ13_bitCount_95d88_52 rfl ?_
  refine lv_ladd hx hb dJ13_bitCount_95d88_53 ?_
  refine lv_lstore_n (lv' := [(0, .long ((((((((x0 - (((x0.toUInt64 >>> ((1 : Int32).toInt64.toUInt64 &&& Int64.toUInt64 63)).toInt64) &&& 6148914691236517205)) &&& 3689348814741910323) + ((((x0 - (((x0.toUInt64 >>> ((1 : Int32).toInt64.toUInt64 &&& Int64.toUInt64 63)).toInt64) &&& 6148914691236517205)).toUInt64 >>> ((2 : Int32).toInt64.toUInt64 &&& Int64.toUInt64 63)).toInt64) &&& 3689348814741910323)) + (((((x0 - (((x0.toUInt64 >>> ((1 : Int32).toInt64.toUInt64 &&& Int64.toUInt64 63)).toInt64) &&& 6148914691236517205)) &&& 3689348814741910323) + ((((x0 - (((x0.toUInt64 >>> ((1 : Int32).toInt64.toUInt64 &&& Int64.toUInt64 63)).toInt64) &&& 6148914691236517205)).toUInt64 >>> ((2 : Int32).toInt64.toUInt64 &&& Int64.toUInt64 63)).toInt64) &&& 3689348814741910323)).toUInt64 >>> ((4 : Int32).toInt64.toUInt64 &&& Int64.toUInt64 63)).toInt64)) &&& 1085102592571150095) + (((((((x0 - (((x0.toUInt64 >>> ((1 : Int32).toInt64.toUInt64 &&& Int64.toUInt64 63)).toInt64) &&& 6148914691236517205)) &&& 3689348814741910323) + ((((x0 - (((x0.toUInt64 >>> ((1 : Int32).toInt64.toUInt64 &&& Int64.toUInt64 63)).toInt64) &&& 6148914691236517205)).toUInt64 >>> ((2 : Int32).toInt64.toUInt64 &&& Int64.toUInt64 63)).toInt64) &&& 3689348814741910323)) + (((((x0 - (((x0.toUInt64 >>> ((1 : Int32).toInt64.toUInt64 &&& Int64.toUInt64 63)).toInt64) &&& 6148914691236517205)) &&& 3689348814741910323) + ((((x0 - (((x0.toUInt64 >>> ((1 : Int32).toInt64.toUInt64 &&& Int64.toUInt64 63)).toInt64) &&& 6148914691236517205)).toUInt64 >>> ((2 : Int32).toInt64.toUInt64 &&& Int64.toUInt64 63)).toInt64) &&& 3689348814741910323)).toUInt64 >>> ((4 : Int32).toInt64.toUInt64 &&& Int64.toUInt64 63)).toInt64)) &&& 1085102592571150095).toUInt64 >>> ((8 : Int32).toInt64.toUInt64 &&& Int64.toUInt64 63)).toInt64)) + ((((((((x0 - (((x0.toUInt64 >>> ((1 : Int32).toInt64.toUInt64 &&& Int64.toUInt64 63)).toInt64) &&& 6148914691236517205)) &&& 3689348814741910323) + ((((x0 - (((x0.toUInt64 >>> ((1 : Int32).toInt64.toUInt64 &&& Int64.toUInt64 63)).toInt64) &&& 6148914691236517205)).toUInt64 >>> ((2 : Int32).toInt64.toUInt64 &&& Int64.toUInt64 63)).toInt64) &&& 3689348814741910323)) + (((((x0 - (((x0.toUInt64 >>> ((1 : Int32).toInt64.toUInt64 &&& Int64.toUInt64 63)).toInt64) &&& 6148914691236517205)) &&& 3689348814741910323) + ((((x0 - (((x0.toUInt64 >>> ((1 : Int32).toInt64.toUInt64 &&& Int64.toUInt64 63)).toInt64) &&& 6148914691236517205)).toUInt64 >>> ((2 : Int32).toInt64.toUInt64 &&& Int64.toUInt64 63)).toInt64) &&& 3689348814741910323)).toUInt64 >>> ((4 : Int32).toInt64.toUInt64 &&& Int64.toUInt64 63)).toInt64)) &&& 1085102592571150095) + (((((((x0 - (((x0.toUInt64 >>> ((1 : Int32).toInt64.toUInt64 &&& Int64.toUInt64 63)).toInt64) &&& 6148914691236517205)) &&& 3689348814741910323) + ((((x0 - (((x0.toUInt64 >>> ((1 : Int32).toInt64.toUInt64 &&& Int64.toUInt64 63)).toInt64) &&& 6148914691236517205)).toUInt64 >>> ((2 : Int32).toInt64.toUInt64 &&& Int64.toUInt64 63)).toInt64) &&& 3689348814741910323)) + (((((x0 - (((x0.toUInt64 >>> ((1 : Int32).toInt64.toUInt64 &&& Int64.toUInt64 63)).toInt64) &&& 6148914691236517205)) &&& 3689348814741910323) + ((((x0 - (((x0.toUInt64 >>> ((1 : Int32).toInt64.toUInt64 &&& Int64.toUInt64 63)).toInt64) &&& 6148914691236517205)).toUInt64 >>> ((2 : Int32).toInt64.toUInt64 &&& Int64.toUInt64 63)).toInt64) &&& 3689348814741910323)).toUInt64 >>> ((4 : Int32).toInt64.toUInt64 &&& Int64.toUInt64 63)).toInt64)) &&& 1085102592571150095).toUInt64 >>> ((8 : Int32).toInt64.toUInt64 &&& Int64.toUInt64 63)).toInt64)).toUInt64 >>> ((16 : Int32).toInt64.toUInt64 &&& Int64.toUInt64 63)).toInt64)) + (((((((((x0 - (((x0.toUInt64 >>> ((1 : Int32).toInt64.toUInt64 &&& Int64.toUInt64 63)).toInt64) &&& 6148914691236517205)) &&& 3689348814741910323) + ((((x0 - (((x0.toUInt64 >>> ((1 : Int32).toInt64.toUInt64 &&& Int64.toUInt64 63)).toInt64) &&& 6148914691236517205)).toUInt64 >>> ((2 : Int32).toInt64.toUInt64 &&& Int64.toUInt64 63)).toInt64) &&& 3689348814741910323)) + (((((x0 - (((x0.toUInt64 >>> ((1 : Int32).toInt64.toUInt64 &&& Int64.toUInt64 63)).toInt64) &&& 6148914691236517205)) &&& 3689348814741910323) + ((((x0 - (((x0.toUInt64 >>> ((1 : Int32).toInt64.toUInt64 &&& Int64.toUInt64 63)).toInt64) &&& 6148914691236517205)).toUInt64 >>> ((2 : Int32).toInt64.toUInt64 &&& Int64.toUInt64 63)).toInt64) &&& 3689348814741910323)).toUInt64 >>> ((4 : Int32).toInt64.toUInt64 &&& Int64.toUInt64 63)).toInt64)) &&& 1085102592571150095) + (((((((x0 - (((x0.toUInt64 >>> ((1 : Int32).toInt64.toUInt64 &&& Int64.toUInt64 63)).toInt64) &&& 6148914691236517205)) &&& 3689348814741910323) + ((((x0 - (((x0.toUInt64 >>> ((1 : Int32).toInt64.toUInt64 &&& Int64.toUInt64 63)).toInt64) &&& 6148914691236517205)).toUInt64 >>> ((2 : Int32).toInt64.toUInt64 &&& Int64.toUInt64 63)).toInt64) &&& 3689348814741910323)) + (((((x0 - (((x0.toUInt64 >>> ((1 : Int32).toInt64.toUInt64 &&& Int64.toUInt64 63)).toInt64) &&& 6148914691236517205)) &&& 3689348814741910323) + ((((x0 - (((x0.toUInt64 >>> ((1 : Int32).toInt64.toUInt64 &&& Int64.toUInt64 63)).toInt64) &&& 6148914691236517205)).toUInt64 >>> ((2 : Int32).toInt64.toUInt64 &&& Int64.toUInt64 63)).toInt64) &&& 3689348814741910323)).toUInt64 >>> ((4 : Int32).toInt64.toUInt64 &&& Int64.toUInt64 63)).toInt64)) &&& 1085102592571150095).toUInt64 >>> ((8 : Int32).toInt64.toUInt64 &&& Int64.toUInt64 63)).toInt64)) + ((((((((x0 - (((x0.toUInt64 >>> ((1 : Int32).toInt64.toUInt64 &&& Int64.toUInt64 63)).toInt64) &&& 6148914691236517205)) &&& 3689348814741910323) + ((((x0 - (((x0.toUInt64 >>> ((1 : Int32).toInt64.toUInt64 &&& Int64.toUInt64 63)).toInt64) &&& 6148914691236517205)).toUInt64 >>> ((2 : Int32).toInt64.toUInt64 &&& Int64.toUInt64 63)).toInt64) &&& 3689348814741910323)) + (((((x0 - (((x0.toUInt64 >>> ((1 : Int32).toInt64.toUInt64 &&& Int64.toUInt64 63)).toInt64) &&& 6148914691236517205)) &&& 3689348814741910323) + ((((x0 - (((x0.toUInt64 >>> ((1 : Int32).toInt64.toUInt64 &&& Int64.toUInt64 63)).toInt64) &&& 6148914691236517205)).toUInt64 >>> ((2 : Int32).toInt64.toUInt64 &&& Int64.toUInt64 63)).toInt64) &&& 3689348814741910323)).toUInt64 >>> ((4 : Int32).toInt64.toUInt64 &&& Int64.toUInt64 63)).toInt64)) &&& 1085102592571150095) + (((((((x0 - (((x0.toUInt64 >>> ((1 : Int32).toInt64.toUInt64 &&& Int64.toUInt64 63)).toInt64) &&& 6148914691236517205)) &&& 3689348814741910323) + ((((x0 - (((x0.toUInt64 >>> ((1 : Int32).toInt64.toUInt64 &&& Int64.toUInt64 63)).toInt64) &&& 6148914691236517205)).toUInt64 >>> ((2 : Int32).toInt64.toUInt64 &&& Int64.toUInt64 63)).toInt64) &&& 3689348814741910323)) + (((((x0 - (((x0.toUInt64 >>> ((1 : Int32).toInt64.toUInt64 &&& Int64.toUInt64 63)).toInt64) &&& 6148914691236517205)) &&& 3689348814741910323) + ((((x0 - (((x0.toUInt64 >>> ((1 : Int32).toInt64.toUInt64 &&& Int64.toUInt64 63)).toInt64) &&& 6148914691236517205)).toUInt64 >>> ((2 : Int32).toInt64.toUInt64 &&& Int64.toUInt64 63)).toInt64) &&& 3689348814741910323)).toUInt64 >>> ((4 : Int32).toInt64.toUInt64 &&& Int64.toUInt64 63)).toInt64)) &&& 1085102592571150095).toUInt64 >>> ((8 : Int32).toInt64.toUInt64 &&& Int64.toUInt64 63)).toInt64)).toUInt64 >>> ((16 : Int32).toInt64.toUInt64 &&& Int64.toUInt64 63)).toInt64)).toUInt64 >>> ((32 : Int32).toInt64.toUInt64 &&& Int64.toUInt64 63)).toInt64)))]) hx hb dJ13_bitCount_95d88_54 rfl hl (by decide) rfl (fun ls hl => ?_)
  refine lv_lload_n hx hb dJ13_bitCount_95d88_55 rfl (lv_at hl 0 rfl) ?_
  refine lv_l2i (v := ((((((((x0 - (((x0.toUInt64 >>> ((1 : Int32).toInt64.toUInt64 &&& Int64.toUInt64 63)).toInt64) &&& 6148914691236517205)) &&& 3689348814741910323) + ((((x0 - (((x0.toUInt64 >>> ((1 : Int32).toInt64.toUInt64 &&& Int64.toUInt64 63)).toInt64) &&& 6148914691236517205)).toUInt64 >>> ((2 : Int32).toInt64.toUInt64 &&& Int64.toUInt64 63)).toInt64) &&& 3689348814741910323)) + (((((x0 - (((x0.toUInt64 >>> ((1 : Int32).toInt64.toUInt64 &&& Int64.toUInt64 63)).toInt64) &&& 6148914691236517205)) &&& 3689348814741910323) + ((((x0 - (((x0.toUInt64 >>> ((1 : Int32).toInt64.toUInt64 &&& Int64.toUInt64 63)).toInt64) &&& 6148914691236517205)).toUInt64 >>> ((2 : Int32).toInt64.toUInt64 &&& Int64.toUInt64 63)).toInt64) &&& 3689348814741910323)).toUInt64 >>> ((4 : Int32).toInt64.toUInt64 &&& Int64.toUInt64 63)).toInt64)) &&& 1085102592571150095) + (((((((x0 - (((x0.toUInt64 >>> ((1 : Int32).toInt64.toUInt64 &&& Int64.toUInt64 63)).toInt64) &&& 6148914691236517205)) &&& 3689348814741910323) + ((((x0 - (((x0.toUInt64 >>> ((1 : Int32).toInt64.toUInt64 &&& Int64.toUInt64 63)).toInt64) &&& 6148914691236517205)).toUInt64 >>> ((2 : Int32).toInt64.toUInt64 &&& Int64.toUInt64 63)).toInt64) &&& 3689348814741910323)) + (((((x0 - (((x0.toUInt64 >>> ((1 : Int32).toInt64.toUInt64 &&& Int64.toUInt64 63)).toInt64) &&& 6148914691236517205)) &&& 3689348814741910323) + ((((x0 - (((x0.toUInt64 >>> ((1 : Int32).toInt64.toUInt64 &&& Int64.toUInt64 63)).toInt64) &&& 6148914691236517205)).toUInt64 >>> ((2 : Int32).toInt64.toUInt64 &&& Int64.toUInt64 63)).toInt64) &&& 3689348814741910323)).toUInt64 >>> ((4 : Int32).toInt64.toUInt64 &&& Int64.toUInt64 63)).toInt64)) &&& 1085102592571150095).toUInt64 >>> ((8 : Int32).toInt64.toUInt64 &&& Int64.toUInt64 63)).toInt64)) + ((((((((x0 - (((x0.toUInt64 >>> ((1 : Int32).toInt64.toUInt64 &&& Int64.toUInt64 63)).toInt64) &&& 6148914691236517205)) &&& 3689348814741910323) + ((((x0 - (((x0.toUInt64 >>> ((1 : Int32).toInt64.toUInt64 &&& Int64.toUInt64 63)).toInt64) &&& 6148914691236517205)).toUInt64 >>> ((2 : Int32).toInt64.toUInt64 &&& Int64.toUInt64 63)).toInt64) &&& 3689348814741910323)) + (((((x0 - (((x0.toUInt64 >>> ((1 : Int32).toInt64.toUInt64 &&& Int64.toUInt64 63)).toInt64) &&& 6148914691236517205)) &&& 3689348814741910323) + ((((x0 - (((x0.toUInt64 >>> ((1 : Int32).toInt64.toUInt64 &&& Int64.toUInt64 63)).toInt64) &&& 6148914691236517205)).toUInt64 >>> ((2 : Int32).toInt64.toUInt64 &&& Int64.toUInt64 63)).toInt64) &&& 3689348814741910323)).toUInt64 >>> ((4 : Int32).toInt64.toUInt64 &&& Int64.toUInt64 63)).toInt64)) &&& 1085102592571150095) + (((((((x0 - (((x0.toUInt64 >>> ((1 : Int32).toInt64.toUInt64 &&& Int64.toUInt64 63)).toInt64) &&& 6148914691236517205)) &&& 3689348814741910323) + ((((x0 - (((x0.toUInt64 >>> ((1 : Int32).toInt64.toUInt64 &&& Int64.toUInt64 63)).toInt64) &&& 6148914691236517205)).toUInt64 >>> ((2 : Int32).toInt64.toUInt64 &&& Int64.toUInt64 63)).toInt64) &&& 3689348814741910323)) + (((((x0 - (((x0.toUInt64 >>> ((1 : Int32).toInt64.toUInt64 &&& Int64.toUInt64 63)).toInt64) &&& 6148914691236517205)) &&& 3689348814741910323) + ((((x0 - (((x0.toUInt64 >>> ((1 : Int32).toInt64.toUInt64 &&& Int64.toUInt64 63)).toInt64) &&& 6148914691236517205)).toUInt64 >>> ((2 : Int32).toInt64.toUInt64 &&& Int64.toUInt64 63)).toInt64) &&& 3689348814741910323)).toUInt64 >>> ((4 : Int32).toInt64.toUInt64 &&& Int64.toUInt64 63)).toInt64)) &&& 1085102592571150095).toUInt64 >>> ((8 : Int32).toInt64.toUInt64 &&& Int64.toUInt64 63)).toInt64)).toUInt64 >>> ((16 : Int32).toInt64.toUInt64 &&& Int64.toUInt64 63)).toInt64)) + (((((((((x0 - (((x0.toUInt64 >>> ((1 : Int32).toInt64.toUInt64 &&& Int64.toUInt64 63)).toInt64) &&& 6148914691236517205)) &&& 3689348814741910323) + ((((x0 - (((x0.toUInt64 >>> ((1 : Int32).toInt64.toUInt64 &&& Int64.toUInt64 63)).toInt64) &&& 6148914691236517205)).toUInt64 >>> ((2 : Int32).toInt64.toUInt64 &&& Int64.toUInt64 63)).toInt64) &&& 3689348814741910323)) + (((((x0 - (((x0.toUInt64 >>> ((1 : Int32).toInt64.toUInt64 &&& Int64.toUInt64 63)).toInt64) &&& 6148914691236517205)) &&& 3689348814741910323) + ((((x0 - (((x0.toUInt64 >>> ((1 : Int32).toInt64.toUInt64 &&& Int64.toUInt64 63)).toInt64) &&& 6148914691236517205)).toUInt64 >>> ((2 : Int32).toInt64.toUInt64 &&& Int64.toUInt64 63)).toInt64) &&& 3689348814741910323)).toUInt64 >>> ((4 : Int32).toInt64.toUInt64 &&& Int64.toUInt64 63)).toInt64)) &&& 1085102592571150095) + (((((((x0 - (((x0.toUInt64 >>> ((1 : Int32).toInt64.toUInt64 &&& Int64.toUInt64 63)).toInt64) &&& 6148914691236517205)) &&& 3689348814741910323) + ((((x0 - (((x0.toUInt64 >>> ((1 : Int32).toInt64.toUInt64 &&& Int64.toUInt64 63)).toInt64) &&& 6148914691236517205)).toUInt64 >>> ((2 : Int32).toInt64.toUInt64 &&& Int64.toUInt64 63)).toInt64) &&& 3689348814741910323)) + (((((x0 - (((x0.toUInt64 >>> ((1 : Int32).toInt64.toUInt64 &&& Int64.toUInt64 63)).toInt64) &&& 6148914691236517205)) &&& 3689348814741910323) + ((((x0 - (((x0.toUInt64 >>> ((1 : Int32).toInt64.toUInt64 &&& Int64.toUInt64 63)).toInt64) &&& 6148914691236517205)).toUInt64 >>> ((2 : Int32).toInt64.toUInt64 &&& Int64.toUInt64 63)).toInt64) &&& 3689348814741910323)).toUInt64 >>> ((4 : Int32).toInt64.toUInt64 &&& Int64.toUInt64 63)).toInt64)) &&& 1085102592571150095).toUInt64 >>> ((8 : Int32).toInt64.toUInt64 &&& Int64.toUInt64 63)).toInt64)) + ((((((((x0 - (((x0.toUInt64 >>> ((1 : Int32).toInt64.toUInt64 &&& Int64.toUInt64 63)).toInt64) &&& 6148914691236517205)) &&& 3689348814741910323) + ((((x0 - (((x0.toUInt64 >>> ((1 : Int32).toInt64.toUInt64 &&& Int64.toUInt64 63)).toInt64) &&& 6148914691236517205)).toUInt64 >>> ((2 : Int32).toInt64.toUInt64 &&& Int64.toUInt64 63)).toInt64) &&& 3689348814741910323)) + (((((x0 - (((x0.toUInt64 >>> ((1 : Int32).toInt64.toUInt64 &&& Int64.toUInt64 63)).toInt64) &&& 6148914691236517205)) &&& 3689348814741910323) + ((((x0 - (((x0.toUInt64 >>> ((1 : Int32).toInt64.toUInt64 &&& Int64.toUInt64 63)).toInt64) &&& 6148914691236517205)).toUInt64 >>> ((2 : Int32).toInt64.toUInt64 &&& Int64.toUInt64 63)).toInt64) &&& 3689348814741910323)).toUInt64 >>> ((4 : Int32).toInt64.toUInt64 &&& Int64.toUInt64 63)).toInt64)) &&& 1085102592571150095) + (((((((x0 - (((x0.toUInt64 >>> ((1 : Int32).toInt64.toUInt64 &&& Int64.toUInt64 63)).toInt64) &&& 6148914691236517205)) &&& 3689348814741910323) + ((((x0 - (((x0.toUInt64 >>> ((1 : Int32).toInt64.toUInt64 &&& Int64.toUInt64 63)).toInt64) &&& 6148914691236517205)).toUInt64 >>> ((2 : Int32).toInt64.toUInt64 &&& Int64.toUInt64 63)).toInt64) &&& 3689348814741910323)) + (((((x0 - (((x0.toUInt64 >>> ((1 : Int32).toInt64.toUInt64 &&& Int64.toUInt64 63)).toInt64) &&& 6148914691236517205)) &&& 3689348814741910323) + ((((x0 - (((x0.toUInt64 >>> ((1 : Int32).toInt64.toUInt64 &&& Int64.toUInt64 63)).toInt64) &&& 6148914691236517205)).toUInt64 >>> ((2 : Int32).toInt64.toUInt64 &&& Int64.toUInt64 63)).toInt64) &&& 3689348814741910323)).toUInt64 >>> ((4 : Int32).toInt64.toUInt64 &&& Int64.toUInt64 63)).toInt64)) &&& 1085102592571150095).toUInt64 >>> ((8 : Int32).toInt64.toUInt64 &&& Int64.toUInt64 63)).toInt64)).toUInt64 >>> ((16 : Int32).toInt64.toUInt64 &&& Int64.toUInt64 63)).toInt64)).toUInt64 >>> ((32 : Int32).toInt64.toUInt64 &&& Int64.toUInt64 63)).toInt64)).toInt32) hx hb dJ13_bitCount_95d88_56 rfl ?_
  refine lv_bipush (v := 127) hx hb dJ13_bitCount_95d88_57 (by decide) ?_
  refine lv_iand hx hb dJ13_bitCount_95d88_59 ?_
  have hq := hm
  subst hq; subst hQ
  exact k_iret hx hb hr hlocks hP hD hS rfl trivial dJ13_bitCount_95d88_60

theorem hd_J9_floorMod_f86c9 : yJ9_floorMod_f86c9.cls ≠ "java/lang/invoke/MethodHandle" ∧ yJ9_floorMod_f86c9.cls ≠ "java/lang/invoke/VarHandle" ∧ (parseMethodDescriptor yJ9_floorMod_f86c9.desc).map (fun d => d.parameters.length) = some 2 := by decide +kernel

def M_J9_floorMod_f86c9 (x0 : Int64) (x2 : Int64)  : Option Int64 :=
  if x2 = 0 then none else if 0 ≤ (x0 ^^^ x2) then (some (x0 - x0 / x2 * x2)) else (if (x0 - x0 / x2 * x2) = 0 then (some (x0 - x0 / x2 * x2)) else (some ((x0 - x0 / x2 * x2) + x2)))

abbrev rmJ9_floorMod_f86c9 : Room := { frames := 0, cells := 0, slots := 0, locals := 0 }
set_option maxHeartbeats 4000000 in
set_option maxRecDepth 100000 in
theorem c_J9_floorMod_f86c9 (l : Launch) (G : va_G) (cs : CS) (sz : Nat)    (x0 : Int64) (x2 : Int64) (res : Int64) (hm : M_J9_floorMod_f86c9 x0 x2 = some res) : Met l yJ9_floorMod_f86c9 wsJ9_floorMod_f86c9 rmJ9_floorMod_f86c9 (va_Pc [.long x0, .long x2] (PreW G cs sz [] RN)) (QL G res [] (va_A [] sz)) 0 0 (va_A [] sz) := by
  refine k_enter (Qf := fun A => QL G res [] A) (cc := cJ9_floorMod_f86c9) (maxL := 6) (ret := (some .long)) (by decide +kernel) rfl (Nat.le_of_ble_eq_true rfl) ?_
  intro p e s m args below meth c A Q ls H locs hx hb hr hml hown hts hlocks hname hK hA hRo hP hD hS hQ hl
  have hl : lv_has ls 6 [(0, .long x0), (2, .long x2)] := hl
  unfold M_J9_floorMod_f86c9 at hm
  refine lv_lload_n hx hb dJ9_floorMod_f86c9_0 rfl (lv_at hl 0 rfl) ?_
  refine lv_lload_n hx hb dJ9_floorMod_f86c9_1 rfl (lv_at hl 1 rfl) ?_
  obtain ⟨h1, hm⟩ := g_in hm
  refine lv_lrem hx hb dJ9_floorMod_f86c9_2 h1 ?_
  refine lv_lstore (lv' := [(4, .long (x0 - x0 / x2 * x2)), (0, .long x0), (2, .long x2)]) hx hb dJ9_floorMod_f86c9_3 hl (by decide) rfl (fun ls hl => ?_)
  refine lv_lload_n hx hb dJ9_floorMod_f86c9_5 rfl (lv_at hl 1 rfl) ?_
  refine lv_lload_n hx hb dJ9_floorMod_f86c9_6 rfl (lv_at hl 2 rfl) ?_
  refine lv_lxor hx hb dJ9_floorMod_f86c9_7 ?_
  refine lv_lconst (v := 0) hx hb dJ9_floorMod_f86c9_8 (by decide) ?_
  refine W.lcmp hx hb dJ9_floorMod_f86c9_9 ?_
  refine lv_if_ge (tgt := 25) hx hb dJ9_floorMod_f86c9_10 (by decide) (fun b2 => ?_) (fun b2 => ?_)
  · have b2 := (lg_cmp_ge _ _).mp b2
    have hm := i_t b2 hm
    refine lv_lload hx hb dJ9_floorMod_f86c9_25 (lv_at hl 0 rfl) ?_
    have hq := Option.some.inj hm
    subst hq; subst hQ
    exact k_lret hx hb hr hlocks hP hD hS rfl dJ9_floorMod_f86c9_27
  · have b2 := fun h9 => b2 ((lg_cmp_ge _ _).mpr h9)
    have hm := i_f b2 hm
    refine lv_lload hx hb dJ9_floorMod_f86c9_13 (lv_at hl 0 rfl) ?_
    refine lv_lconst (v := 0) hx hb dJ9_floorMod_f86c9_15 (by decide) ?_
    refine W.lcmp hx hb dJ9_floorMod_f86c9_16 ?_
    refine lv_if_eq (tgt := 25) hx hb dJ9_floorMod_f86c9_17 (by decide) (fun b3 => ?_) (fun b3 => ?_)
    · have b3 := (lg_cmp_eq _ _).mp b3
      have hm := i_t b3 hm
      refine lv_lload hx hb dJ9_floorMod_f86c9_25 (lv_at hl 0 rfl) ?_
      have hq := Option.some.inj hm
      subst hq; subst hQ
      exact k_lret hx hb hr hlocks hP hD hS rfl dJ9_floorMod_f86c9_27
    · have b3 := fun h9 => b3 ((lg_cmp_eq _ _).mpr h9)
      have hm := i_f b3 hm
      refine lv_lload hx hb dJ9_floorMod_f86c9_20 (lv_at hl 0 rfl) ?_
      refine lv_lload_n hx hb dJ9_floorMod_f86c9_22 rfl (lv_at hl 2 rfl) ?_
      refine lv_ladd hx hb dJ9_floorMod_f86c9_23 ?_
      have hq := Option.some.inj hm
      subst hq; subst hQ
      exact k_lret hx hb hr hlocks hP hD hS rfl dJ9_floorMod_f86c9_24

theorem hd_J7_fill_53178 : yJ7_fill_53178.cls ≠ "java/lang/invoke/MethodHandle" ∧ yJ7_fill_53178.cls ≠ "java/lang/invoke/VarHandle" ∧ (parseMethodDescriptor yJ7_fill_53178.desc).map (fun d => d.parameters.length) = some 2 := by decide +kernel

def M_J7_fill_53178_b5 (n : Nat) (x1 : Int32) (x3 : Int32) (n0 : Nat) (x2 : Int32) (v_p0 : (Nat → Int32)) : Option ((Int32 × (Nat → Int32)) ⊕ (Nat → Int32)) :=
  if x3 ≤ x2 then (some (.inr v_p0)) else (if x2 < 0 ∨ n0 ≤ x2.toNatClampNeg then none else some (.inl (x2 + 1, (upd v_p0 x2.toNatClampNeg x1))))

def M_J7_fill_53178 (n : Nat) (x1 : Int32) (v_p0 : (Nat → Int32)) (n0 : Nat) : Option (Nat → Int32) :=
  (lp (fun x : (Int32 × (Nat → Int32)) => M_J7_fill_53178_b5 n x1 (Int32.ofNat n0) n0 x.1 x.2) n ((0 : Int32), v_p0)).bind fun o3 => some o3

abbrev ww_J7_fill_53178 (cs : CS) (v_p0 : (Nat → Int32)) (a0 : Nat) (n0 : Nat) : va_W := [(a0, .inl (cs.1, n0, .inl v_p0))]

abbrev rmJ7_fill_53178 : Room := { frames := 0, cells := 0, slots := 0, locals := 0 }
set_option maxHeartbeats 4000000 in
set_option maxRecDepth 100000 in
theorem c_J7_fill_53178 (l : Launch) (G : va_G) (cs : CS) (sz : Nat) (v_p0 : (Nat → Int32)) (a0 : Nat) (n0 : Nat) (x1 : Int32) (n : Nat) (res : (Nat → Int32)) (hm : M_J7_fill_53178 n x1 v_p0 n0 = some res) : Met l yJ7_fill_53178 wsJ7_fill_53178 rmJ7_fill_53178 (va_Pc [.ref a0, .int x1] (PreW G cs sz (ww_J7_fill_53178 cs v_p0 a0 n0) RN)) (QV G (ww_J7_fill_53178 cs res a0 n0) (va_A (ww_J7_fill_53178 cs v_p0 a0 n0) sz)) 0 0 (va_A (ww_J7_fill_53178 cs v_p0 a0 n0) sz) := by
  refine k_enter (Qf := fun A => QV G (ww_J7_fill_53178 cs res a0 n0) A) (cc := cJ7_fill_53178) (maxL := 4) (ret := none) (plainFor_of_name (by decide)) rfl (Nat.le_of_ble_eq_true rfl) ?_
  intro p e s m args below meth c A Q ls H locs hx hb hr hml hown hts hlocks hname hK hA hRo hP hD hS hQ hl
  have hl : lv_has ls 4 [(0, .ref a0), (1, .int x1)] := hl
  have L5 : ∀ (x1 : Int32) (x2 : Int32) (x3 : Int32) (v_p0 : (Nat → Int32)) (out : (Nat → Int32)), lp (fun x : (Int32 × (Nat → Int32)) => M_J7_fill_53178_b5 n x1 x3 n0 x.1 x.2) n (x2, v_p0) = some out → (∀ (o : (Nat → Int32)), out = o → ∀ (H : Heap) (locs : List Loc), va_P G vwCl (ww_J7_fill_53178 cs o a0 n0) H → va_D A (ww_J7_fill_53178 cs o a0 n0) → va_S A s.heap H locs → ∀ (ls : Array Slot), lv_has ls 4 [] → W p l e rmJ7_fill_53178 s m args below meth c H locs 0 0 Q (F0 m 20 ls [])) → ∀ (H : Heap) (locs : List Loc), va_P G vwCl (ww_J7_fill_53178 cs v_p0 a0 n0) H → va_D A (ww_J7_fill_53178 cs v_p0 a0 n0) → va_S A s.heap H locs → ∀ (ls : Array Slot), lv_has ls 4 [(0, .ref a0), (1, .int x1), (2, .int x2), (3, .int x3)] → W p l e rmJ7_fill_53178 s m args below meth c H locs 0 0 Q (F0 m 5 ls []) := by
    intro x1 x2 x3 v_p0 out hlp hX
    refine lp_ind (fun x => ∀ (H : Heap) (locs : List Loc), va_P G vwCl (ww_J7_fill_53178 cs x.2 a0 n0) H → va_D A (ww_J7_fill_53178 cs x.2 a0 n0) → va_S A s.heap H locs → ∀ (ls : Array Slot), lv_has ls 4 [(0, .ref a0), (1, .int x1), (2, .int x.1), (3, .int x3)] → W p l e rmJ7_fill_53178 s m args below meth c H locs 0 0 Q (F0 m 5 ls [])) ?_ n (x2, v_p0) hlp
    clear hlp hP hD hS hl
    rintro ⟨x2, v_p0⟩ ob hm hst H locs hP hD hS ls hl
    have hm : M_J7_fill_53178_b5 n x1 x3 n0 x2 v_p0 = some ob := hm
    have hl : lv_has ls 4 [(0, .ref a0), (1, .int x1), (2, .int x2), (3, .int x3)] := hl
    have hP : va_P G vwCl (ww_J7_fill_53178 cs v_p0 a0 n0) H := hP
    have hD : va_D A (ww_J7_fill_53178 cs v_p0 a0 n0) := hD
    unfold M_J7_fill_53178_b5 at hm
    refine lv_iload_n hx hb dJ7_fill_53178_5 rfl (lv_at hl 2 rfl) ?_
    refine lv_iload_n hx hb dJ7_fill_53178_6 rfl (lv_at hl 3 rfl) ?_
    refine lv_icmp_ge (tgt := 20) hx hb dJ7_fill_53178_7 (by decide) (fun b1 => ?_) (fun b1 => ?_)
    · have hm := i_t b1 hm
      exact hX _ (st_exit hm hst) H locs hP hD hS ls (lv_sub hl [] rfl)
    · have hm := i_f b1 hm
      refine lv_aload_n hx hb dJ7_fill_53178_10 rfl (lv_at hl 0 rfl) ?_
      refine lv_iload_n hx hb dJ7_fill_53178_11 rfl (lv_at hl 2 rfl) ?_
      refine lv_iload_n hx hb dJ7_fill_53178_12 rfl (lv_at hl 1 rfl) ?_
      obtain ⟨h2, hm⟩ := g_in hm
      refine va_iast hx hb hK.1 hP hD hS 0 0 rfl rfl h2 dJ7_fill_53178_13 (fun H locs hP hD hS => ?_)
      have hP : va_P G vwCl (ww_J7_fill_53178 cs (upd v_p0 x2.toNatClampNeg x1) a0 n0) H := hP
      have hD : va_D A (ww_J7_fill_53178 cs (upd v_p0 x2.toNatClampNeg x1) a0 n0) := hD
      refine lv_iinc (v := x2 + 1) (lv' := [(2, .int (x2 + 1)), (0, .ref a0), (1, .int x1), (3, .int x3)]) hx hb dJ7_fill_53178_14 hl (k := 2) rfl rfl (by decide) rfl (fun ls hl => ?_)
      refine lv_goto (tgt := 5) hx hb dJ7_fill_53178_17 (by decide) ?_
      exact st_next hm hst H locs hP hD hS ls (lv_sub hl [1, 2, 0, 3] rfl)
  unfold M_J7_fill_53178 at hm
  refine lv_iconst (v := 0) hx hb dJ7_fill_53178_0 (by decide) ?_
  refine lv_istore_n (lv' := [(2, .int 0), (0, .ref a0), (1, .int x1)]) hx hb dJ7_fill_53178_1 rfl hl (by decide) rfl (fun ls hl => ?_)
  refine lv_aload_n hx hb dJ7_fill_53178_2 rfl (lv_at hl 1 rfl) ?_
  refine va_alen (v := Int32.ofNat n0) hx hb hK.1 hP 0 0 rfl rfl rfl dJ7_fill_53178_3 ?_
  refine lv_istore_n (lv' := [(3, .int (Int32.ofNat n0)), (2, .int 0), (0, .ref a0), (1, .int x1)]) hx hb dJ7_fill_53178_4 rfl hl (by decide) rfl (fun ls hl => ?_)
  obtain ⟨o3, hlp3, hm⟩ := bs hm
  refine L5 x1 (0 : Int32) (Int32.ofNat n0) v_p0 o3 hlp3 (fun oo ho => ?_) H locs hP hD hS ls (lv_sub hl [2, 3, 1, 0] rfl)
  subst ho
  intro H locs hP hD hS ls hl
  have hl : lv_has ls 4 [] := hl
  have hP : va_P G vwCl (ww_J7_fill_53178 cs o3 a0 n0) H := hP
  have hD : va_D A (ww_J7_fill_53178 cs o3 a0 n0) := hD
  have hq := Option.some.inj hm
  subst hq; subst hQ
  exact k_vret hx hb hr hlocks hP hD hS dJ7_fill_53178_20

theorem hd_X11_within : yX11_within.cls ≠ "java/lang/invoke/MethodHandle" ∧ yX11_within.cls ≠ "java/lang/invoke/VarHandle" ∧ (parseMethodDescriptor yX11_within.desc).map (fun d => d.parameters.length) = some 3 := by decide +kernel

def M_X11_within (x0 : Int32) (x1 : Int32) (x2 : Int32)  : Int32 :=
  if x0 < x1 then 0 else (if x2 < x0 then 0 else 1)

abbrev rmX11_within : Room := { frames := 0, cells := 0, slots := 0, locals := 0 }
set_option maxHeartbeats 4000000 in
set_option maxRecDepth 100000 in
theorem c_X11_within (l : Launch) (G : va_G) (cs : CS) (sz : Nat)    (x0 : Int32) (x1 : Int32) (x2 : Int32) (res : Int32) (hm : M_X11_within x0 x1 x2 = res) : Met l yX11_within wsX11_within rmX11_within (va_Pc [.int x0, .int x1, .int x2] (PreW G cs sz [] RN)) (QI G res (res = 0 ∨ res = 1) [] (va_A [] sz)) 0 0 (va_A [] sz) := by
  refine k_enter (Qf := fun A => QI G res (res = 0 ∨ res = 1) [] A) (cc := cX11_within) (maxL := 3) (ret := (some .boolean)) (plainFor_of_name (by decide)) rfl (Nat.le_of_ble_eq_true rfl) ?_
  intro p e s m args below meth c A Q ls H locs hx hb hr hml hown hts hlocks hname hK hA hRo hP hD hS hQ hl
  have hl : lv_has ls 3 [(0, .int x0), (1, .int x1), (2, .int x2)] := hl
  unfold M_X11_within at hm
  refine lv_iload_n hx hb dX11_within_0 rfl (lv_at hl 0 rfl) ?_
  refine lv_iload_n hx hb dX11_within_1 rfl (lv_at hl 1 rfl) ?_
  refine lv_icmp_lt (tgt := 14) hx hb dX11_within_2 (by decide) (fun b1 => ?_) (fun b1 => ?_)
  · have hm := i_t b1 hm
    refine lv_iconst (v := 0) hx hb dX11_within_14 (by decide) ?_
    have hq := hm
    subst hq; subst hQ
    exact k_zret hx hb hr hlocks hP hD hS rfl (by decide) dX11_within_15
  · have hm := i_f b1 hm
    refine lv_iload_n hx hb dX11_within_5 rfl (lv_at hl 0 rfl) ?_
    refine lv_iload_n hx hb dX11_within_6 rfl (lv_at hl 2 rfl) ?_
    refine lv_icmp_gt (tgt := 14) hx hb dX11_within_7 (by decide) (fun b2 => ?_) (fun b2 => ?_)
    · have hm := i_t b2 hm
      refine lv_iconst (v := 0) hx hb dX11_within_14 (by decide) ?_
      have hq := hm
      subst hq; subst hQ
      exact k_zret hx hb hr hlocks hP hD hS rfl (by decide) dX11_within_15
    · have hm := i_f b2 hm
      refine lv_iconst (v := 1) hx hb dX11_within_10 (by decide) ?_
      refine lv_goto (tgt := 15) hx hb dX11_within_11 (by decide) ?_
      have hq := hm
      subst hq; subst hQ
      exact k_zret hx hb hr hlocks hP hD hS rfl (by decide) dX11_within_15

theorem hd_X11_isModulus : yX11_isModulus.cls ≠ "java/lang/invoke/MethodHandle" ∧ yX11_isModulus.cls ≠ "java/lang/invoke/VarHandle" ∧ (parseMethodDescriptor yX11_isModulus.desc).map (fun d => d.parameters.length) = some 1 := by decide +kernel

def M_X11_isModulus (x0 : Int32)  : Int32 :=
  (M_X11_within x0 (2 : Int32) (65536 : Int32))

abbrev rmX11_isModulus : Room := { frames := 1, cells := 0, slots := 0, locals := 22 }
set_option maxHeartbeats 4000000 in
set_option maxRecDepth 100000 in
theorem c_X11_isModulus (l : Launch) (G : va_G) (cs : CS) (sz : Nat)    (x0 : Int32) (res : Int32) (hm : M_X11_isModulus x0 = res) : Met l yX11_isModulus wsX11_isModulus rmX11_isModulus (va_Pc [.int x0] (PreW G cs sz [] RN)) (QI G res (res = 0 ∨ res = 1) [] (va_A [] sz)) 0 0 (va_A [] sz) := by
  refine k_enter (Qf := fun A => QI G res (res = 0 ∨ res = 1) [] A) (cc := cX11_isModulus) (maxL := 1) (ret := (some .boolean)) (plainFor_of_name (by decide)) rfl (Nat.le_of_ble_eq_true rfl) ?_
  intro p e s m args below meth c A Q ls H locs hx hb hr hml hown hts hlocks hname hK hA hRo hP hD hS hQ hl
  have hl : lv_has ls 1 [(0, .int x0)] := hl
  have wd1 := hts (.constant RX11 279 (65536)) (List.mem_of_getElem? (i := 1) rfl)
  unfold M_X11_isModulus at hm
  refine lv_iload_n hx hb dX11_isModulus_0 rfl (lv_at hl 0 rfl) ?_
  refine lv_iconst (v := 2) hx hb dX11_isModulus_1 (by decide) ?_
  refine lv_ldcw (own := RX11) (v := 65536) hx hb hown wd1 dX11_isModulus_2 ?_
  refine k_calli0 (va_runS (As := [.int x0, .int 2, .int 65536]) (rest := []) ⟨hx, hb, hml, hown, hts⟩ (c_X11_within l G cs H.size    x0 (2 : Int32) (65536 : Int32) _ rfl) (va_cwS 3 hts gX11_isModulus_X11_within rfl rfl rfl hd_X11_within ⟨Nat.le_of_ble_eq_true rfl, Nat.le_of_ble_eq_true rfl⟩) ⟨pre_blind, pre_w hK RO.nil P0 D0 (va_new0 hS hA)⟩ rfl rfl hl.1 rfl (lv_room (Nat.le_of_ble_eq_true rfl)) dX11_isModulus_5 ⟨Nat.zero_le _, Nat.zero_le _⟩) hP hS hA (fun hE1 H locs hP hS => ?_)
  have hq := hm
  subst hq; subst hQ
  exact k_zret hx hb hr hlocks hP hD hS rfl hE1 dX11_isModulus_8

theorem hd_X11_isByte : yX11_isByte.cls ≠ "java/lang/invoke/MethodHandle" ∧ yX11_isByte.cls ≠ "java/lang/invoke/VarHandle" ∧ (parseMethodDescriptor yX11_isByte.desc).map (fun d => d.parameters.length) = some 1 := by decide +kernel

def M_X11_isByte (x0 : Int32)  : Int32 :=
  (M_X11_within x0 (0 : Int32) (255 : Int32))

abbrev rmX11_isByte : Room := { frames := 1, cells := 0, slots := 0, locals := 22 }
set_option maxHeartbeats 4000000 in
set_option maxRecDepth 100000 in
theorem c_X11_isByte (l : Launch) (G : va_G) (cs : CS) (sz : Nat)    (x0 : Int32) (res : Int32) (hm : M_X11_isByte x0 = res) : Met l yX11_isByte wsX11_isByte rmX11_isByte (va_Pc [.int x0] (PreW G cs sz [] RN)) (QI G res (res = 0 ∨ res = 1) [] (va_A [] sz)) 0 0 (va_A [] sz) := by
  refine k_enter (Qf := fun A => QI G res (res = 0 ∨ res = 1) [] A) (cc := cX11_isByte) (maxL := 1) (ret := (some .boolean)) (plainFor_of_name (by decide)) rfl (Nat.le_of_ble_eq_true rfl) ?_
  intro p e s m args below meth c A Q ls H locs hx hb hr hml hown hts hlocks hname hK hA hRo hP hD hS hQ hl
  have hl : lv_has ls 1 [(0, .int x0)] := hl
  unfold M_X11_isByte at hm
  refine lv_iload_n hx hb dX11_isByte_0 rfl (lv_at hl 0 rfl) ?_
  refine lv_iconst (v := 0) hx hb dX11_isByte_1 (by decide) ?_
  refine lv_sipush (v := 255) hx hb dX11_isByte_2 (by decide) ?_
  refine k_calli0 (va_runS (As := [.int x0, .int 0, .int 255]) (rest := []) ⟨hx, hb, hml, hown, hts⟩ (c_X11_within l G cs H.size    x0 (0 : Int32) (255 : Int32) _ rfl) (va_cwS 3 hts gX11_isByte_X11_within rfl rfl rfl hd_X11_within ⟨Nat.le_of_ble_eq_true rfl, Nat.le_of_ble_eq_true rfl⟩) ⟨pre_blind, pre_w hK RO.nil P0 D0 (va_new0 hS hA)⟩ rfl rfl hl.1 rfl (lv_room (Nat.le_of_ble_eq_true rfl)) dX11_isByte_5 ⟨Nat.zero_le _, Nat.zero_le _⟩) hP hS hA (fun hE1 H locs hP hS => ?_)
  have hq := hm
  subst hq; subst hQ
  exact k_zret hx hb hr hlocks hP hD hS rfl hE1 dX11_isByte_8

theorem hd_X11_isSlip : yX11_isSlip.cls ≠ "java/lang/invoke/MethodHandle" ∧ yX11_isSlip.cls ≠ "java/lang/invoke/VarHandle" ∧ (parseMethodDescriptor yX11_isSlip.desc).map (fun d => d.parameters.length) = some 2 := by decide +kernel

def M_X11_isSlip (x0 : Int32) (x1 : Int32)  : Int32 :=
  if x0 = 0 then ((M_X11_within x1 (1 : Int32) (3 : Int32))) else (if x0 = 1 then ((M_X11_within x1 (1 : Int32) (8 : Int32))) else ((M_X11_within x0 (2 : Int32) (5 : Int32))))

abbrev rmX11_isSlip : Room := { frames := 1, cells := 0, slots := 0, locals := 22 }
set_option maxHeartbeats 4000000 in
set_option maxRecDepth 100000 in
theorem c_X11_isSlip (l : Launch) (G : va_G) (cs : CS) (sz : Nat)    (x0 : Int32) (x1 : Int32) (res : Int32) (hm : M_X11_isSlip x0 x1 = res) : Met l yX11_isSlip wsX11_isSlip rmX11_isSlip (va_Pc [.int x0, .int x1] (PreW G cs sz [] RN)) (QI G res (res = 0 ∨ res = 1) [] (va_A [] sz)) 0 0 (va_A [] sz) := by
  refine k_enter (Qf := fun A => QI G res (res = 0 ∨ res = 1) [] A) (cc := cX11_isSlip) (maxL := 2) (ret := (some .boolean)) (plainFor_of_name (by decide)) rfl (Nat.le_of_ble_eq_true rfl) ?_
  intro p e s m args below meth c A Q ls H locs hx hb hr hml hown hts hlocks hname hK hA hRo hP hD hS hQ hl
  have hl : lv_has ls 2 [(0, .int x0), (1, .int x1)] := hl
  unfold M_X11_isSlip at hm
  refine lv_iload_n hx hb dX11_isSlip_0 rfl (lv_at hl 0 rfl) ?_
  refine lv_if_ne (tgt := 11) hx hb dX11_isSlip_1 (by decide) (fun b1 => ?_) (fun b1 => ?_)
  · have hm := i_f b1 hm
    refine lv_iload_n hx hb dX11_isSlip_11 rfl (lv_at hl 0 rfl) ?_
    refine lv_iconst (v := 1) hx hb dX11_isSlip_12 (by decide) ?_
    refine lv_icmp_ne (tgt := 24) hx hb dX11_isSlip_13 (by decide) (fun b2 => ?_) (fun b2 => ?_)
    · have hm := i_f b2 hm
      refine lv_iload_n hx hb dX11_isSlip_24 rfl (lv_at hl 0 rfl) ?_
      refine lv_iconst (v := 2) hx hb dX11_isSlip_25 (by decide) ?_
      refine lv_iconst (v := 5) hx hb dX11_isSlip_26 (by decide) ?_
      refine k_calli0 (va_runS (As := [.int x0, .int 2, .int 5]) (rest := []) ⟨hx, hb, hml, hown, hts⟩ (c_X11_within l G cs H.size    x0 (2 : Int32) (5 : Int32) _ rfl) (va_cwS 3 hts gX11_isSlip_X11_within rfl rfl rfl hd_X11_within ⟨Nat.le_of_ble_eq_true rfl, Nat.le_of_ble_eq_true rfl⟩) ⟨pre_blind, pre_w hK RO.nil P0 D0 (va_new0 hS hA)⟩ rfl rfl hl.1 rfl (lv_room (Nat.le_of_ble_eq_true rfl)) dX11_isSlip_27 ⟨Nat.zero_le _, Nat.zero_le _⟩) hP hS hA (fun hE3 H locs hP hS => ?_)
      have hq := hm
      subst hq; subst hQ
      exact k_zret hx hb hr hlocks hP hD hS rfl hE3 dX11_isSlip_30
    · have hm := i_t b2 hm
      refine lv_iload_n hx hb dX11_isSlip_16 rfl (lv_at hl 1 rfl) ?_
      refine lv_iconst (v := 1) hx hb dX11_isSlip_17 (by decide) ?_
      refine lv_bipush (v := 8) hx hb dX11_isSlip_18 (by decide) ?_
      refine k_calli0 (va_runS (As := [.int x1, .int 1, .int 8]) (rest := []) ⟨hx, hb, hml, hown, hts⟩ (c_X11_within l G cs H.size    x1 (1 : Int32) (8 : Int32) _ rfl) (va_cwS 3 hts gX11_isSlip_X11_within rfl rfl rfl hd_X11_within ⟨Nat.le_of_ble_eq_true rfl, Nat.le_of_ble_eq_true rfl⟩) ⟨pre_blind, pre_w hK RO.nil P0 D0 (va_new0 hS hA)⟩ rfl rfl hl.1 rfl (lv_room (Nat.le_of_ble_eq_true rfl)) dX11_isSlip_20 ⟨Nat.zero_le _, Nat.zero_le _⟩) hP hS hA (fun hE4 H locs hP hS => ?_)
      have hq := hm
      subst hq; subst hQ
      exact k_zret hx hb hr hlocks hP hD hS rfl hE4 dX11_isSlip_23
  · have hm := i_t b1 hm
    refine lv_iload_n hx hb dX11_isSlip_4 rfl (lv_at hl 1 rfl) ?_
    refine lv_iconst (v := 1) hx hb dX11_isSlip_5 (by decide) ?_
    refine lv_iconst (v := 3) hx hb dX11_isSlip_6 (by decide) ?_
    refine k_calli0 (va_runS (As := [.int x1, .int 1, .int 3]) (rest := []) ⟨hx, hb, hml, hown, hts⟩ (c_X11_within l G cs H.size    x1 (1 : Int32) (3 : Int32) _ rfl) (va_cwS 3 hts gX11_isSlip_X11_within rfl rfl rfl hd_X11_within ⟨Nat.le_of_ble_eq_true rfl, Nat.le_of_ble_eq_true rfl⟩) ⟨pre_blind, pre_w hK RO.nil P0 D0 (va_new0 hS hA)⟩ rfl rfl hl.1 rfl (lv_room (Nat.le_of_ble_eq_true rfl)) dX11_isSlip_7 ⟨Nat.zero_le _, Nat.zero_le _⟩) hP hS hA (fun hE5 H locs hP hS => ?_)
    have hq := hm
    subst hq; subst hQ
    exact k_zret hx hb hr hlocks hP hD hS rfl hE5 dX11_isSlip_10

theorem hd_X11_maskOf : yX11_maskOf.cls ≠ "java/lang/invoke/MethodHandle" ∧ yX11_maskOf.cls ≠ "java/lang/invoke/VarHandle" ∧ (parseMethodDescriptor yX11_maskOf.desc).map (fun d => d.parameters.length) = some 1 := by decide +kernel

def M_X11_maskOf (x0 : Int32)  : Int64 :=
  (((1 : Int64) <<< (x0.toInt64 &&& 63)) - 1)

abbrev rmX11_maskOf : Room := { frames := 0, cells := 0, slots := 0, locals := 0 }
set_option maxHeartbeats 4000000 in
set_option maxRecDepth 100000 in
theorem c_X11_maskOf (l : Launch) (G : va_G) (cs : CS) (sz : Nat)    (x0 : Int32) (res : Int64) (hm : M_X11_maskOf x0 = res) : Met l yX11_maskOf wsX11_maskOf rmX11_maskOf (va_Pc [.int x0] (PreW G cs sz [] RN)) (QL G res [] (va_A [] sz)) 0 0 (va_A [] sz) := by
  refine k_enter (Qf := fun A => QL G res [] A) (cc := cX11_maskOf) (maxL := 1) (ret := (some .long)) (plainFor_of_name (by decide)) rfl (Nat.le_of_ble_eq_true rfl) ?_
  intro p e s m args below meth c A Q ls H locs hx hb hr hml hown hts hlocks hname hK hA hRo hP hD hS hQ hl
  have hl : lv_has ls 1 [(0, .int x0)] := hl
  unfold M_X11_maskOf at hm
  refine lv_lconst (v := 1) hx hb dX11_maskOf_0 (by decide) ?_
  refine lv_iload_n hx hb dX11_maskOf_1 rfl (lv_at hl 0 rfl) ?_
  refine lv_lshl (v := (1 : Int64) <<< (x0.toInt64 &&& 63)) hx hb dX11_maskOf_2 rfl ?_
  refine lv_lconst (v := 1) hx hb dX11_maskOf_3 (by decide) ?_
  refine lv_lsub hx hb dX11_maskOf_4 ?_
  have hq := hm
  subst hq; subst hQ
  exact k_lret hx hb hr hlocks hP hD hS rfl dX11_maskOf_5

theorem hd_X11_fits : yX11_fits.cls ≠ "java/lang/invoke/MethodHandle" ∧ yX11_fits.cls ≠ "java/lang/invoke/VarHandle" ∧ (parseMethodDescriptor yX11_fits.desc).map (fun d => d.parameters.length) = some 2 := by decide +kernel

def M_X11_fits (x0 : Int64) (x2 : Int32)  : Int32 :=
  if x0 < 0 then 0 else (if (M_X11_maskOf x2) < x0 then 0 else 1)

abbrev rmX11_fits : Room := { frames := 1, cells := 0, slots := 0, locals := 20 }
set_option maxHeartbeats 4000000 in
set_option maxRecDepth 100000 in
theorem c_X11_fits (l : Launch) (G : va_G) (cs : CS) (sz : Nat)    (x0 : Int64) (x2 : Int32) (res : Int32) (hm : M_X11_fits x0 x2 = res) : Met l yX11_fits wsX11_fits rmX11_fits (va_Pc [.long x0, .int x2] (PreW G cs sz [] RN)) (QI G res (res = 0 ∨ res = 1) [] (va_A [] sz)) 0 0 (va_A [] sz) := by
  refine k_enter (Qf := fun A => QI G res (res = 0 ∨ res = 1) [] A) (cc := cX11_fits) (maxL := 3) (ret := (some .boolean)) (plainFor_of_name (by decide)) rfl (Nat.le_of_ble_eq_true rfl) ?_
  intro p e s m args below meth c A Q ls H locs hx hb hr hml hown hts hlocks hname hK hA hRo hP hD hS hQ hl
  have hl : lv_has ls 3 [(0, .long x0), (2, .int x2)] := hl
  unfold M_X11_fits at hm
  refine lv_lload_n hx hb dX11_fits_0 rfl (lv_at hl 0 rfl) ?_
  refine lv_lconst (v := 0) hx hb dX11_fits_1 (by decide) ?_
  refine W.lcmp hx hb dX11_fits_2 ?_
  refine lv_if_lt (tgt := 19) hx hb dX11_fits_3 (by decide) (fun b1 => ?_) (fun b1 => ?_)
  · have b1 := (lg_cmp_lt _ _).mp b1
    have hm := i_t b1 hm
    refine lv_iconst (v := 0) hx hb dX11_fits_19 (by decide) ?_
    have hq := hm
    subst hq; subst hQ
    exact k_zret hx hb hr hlocks hP hD hS rfl (by decide) dX11_fits_20
  · have b1 := fun h9 => b1 ((lg_cmp_lt _ _).mpr h9)
    have hm := i_f b1 hm
    refine lv_lload_n hx hb dX11_fits_6 rfl (lv_at hl 0 rfl) ?_
    refine lv_iload_n hx hb dX11_fits_7 rfl (lv_at hl 1 rfl) ?_
    refine k_calll0 (va_runS (As := [.int x2]) (rest := [.long x0]) ⟨hx, hb, hml, hown, hts⟩ (c_X11_maskOf l G cs H.size    x2 _ rfl) (va_cwS 1 hts gX11_fits_X11_maskOf rfl rfl rfl hd_X11_maskOf ⟨Nat.le_of_ble_eq_true rfl, Nat.le_of_ble_eq_true rfl⟩) ⟨pre_blind, pre_w hK RO.nil P0 D0 (va_new0 hS hA)⟩ rfl rfl hl.1 rfl (lv_room (Nat.le_of_ble_eq_true rfl)) dX11_fits_8 ⟨Nat.zero_le _, Nat.zero_le _⟩) hP hS hA (fun H locs hP hS => ?_)
    refine W.lcmp hx hb dX11_fits_11 ?_
    refine lv_if_gt (tgt := 19) hx hb dX11_fits_12 (by decide) (fun b2 => ?_) (fun b2 => ?_)
    · have b2 := (lg_cmp_gt _ _).mp b2
      have hm := i_t b2 hm
      refine lv_iconst (v := 0) hx hb dX11_fits_19 (by decide) ?_
      have hq := hm
      subst hq; subst hQ
      exact k_zret hx hb hr hlocks hP hD hS rfl (by decide) dX11_fits_20
    · have b2 := fun h9 => b2 ((lg_cmp_gt _ _).mpr h9)
      have hm := i_f b2 hm
      refine lv_iconst (v := 1) hx hb dX11_fits_15 (by decide) ?_
      refine lv_goto (tgt := 20) hx hb dX11_fits_16 (by decide) ?_
      have hq := hm
      subst hq; subst hQ
      exact k_zret hx hb hr hlocks hP hD hS rfl (by decide) dX11_fits_20

theorem hd_X11_byteOfPlace : yX11_byteOfPlace.cls ≠ "java/lang/invoke/MethodHandle" ∧ yX11_byteOfPlace.cls ≠ "java/lang/invoke/VarHandle" ∧ (parseMethodDescriptor yX11_byteOfPlace.desc).map (fun d => d.parameters.length) = some 1 := by decide +kernel

def M_X11_byteOfPlace (x0 : Int32)  : Int32 :=
  (x0 >>> (3 &&& 31))

abbrev rmX11_byteOfPlace : Room := { frames := 0, cells := 0, slots := 0, locals := 0 }
set_option maxHeartbeats 4000000 in
set_option maxRecDepth 100000 in
theorem c_X11_byteOfPlace (l : Launch) (G : va_G) (cs : CS) (sz : Nat)    (x0 : Int32) (res : Int32) (hm : M_X11_byteOfPlace x0 = res) : Met l yX11_byteOfPlace wsX11_byteOfPlace rmX11_byteOfPlace (va_Pc [.int x0] (PreW G cs sz [] RN)) (QI G res True [] (va_A [] sz)) 0 0 (va_A [] sz) := by
  refine k_enter (Qf := fun A => QI G res True [] A) (cc := cX11_byteOfPlace) (maxL := 1) (ret := (some .int)) (plainFor_of_name (by decide)) rfl (Nat.le_of_ble_eq_true rfl) ?_
  intro p e s m args below meth c A Q ls H locs hx hb hr hml hown hts hlocks hname hK hA hRo hP hD hS hQ hl
  have hl : lv_has ls 1 [(0, .int x0)] := hl
  unfold M_X11_byteOfPlace at hm
  refine lv_iload_n hx hb dX11_byteOfPlace_0 rfl (lv_at hl 0 rfl) ?_
  refine lv_iconst (v := 3) hx hb dX11_byteOfPlace_1 (by decide) ?_
  refine lv_ishr hx hb dX11_byteOfPlace_2 ?_
  have hq := hm
  subst hq; subst hQ
  exact k_iret hx hb hr hlocks hP hD hS rfl trivial dX11_byteOfPlace_3

theorem hd_X11_bitOfPlace : yX11_bitOfPlace.cls ≠ "java/lang/invoke/MethodHandle" ∧ yX11_bitOfPlace.cls ≠ "java/lang/invoke/VarHandle" ∧ (parseMethodDescriptor yX11_bitOfPlace.desc).map (fun d => d.parameters.length) = some 1 := by decide +kernel

def M_X11_bitOfPlace (x0 : Int32)  : Int32 :=
  ((128 : Int32) >>> ((x0 &&& 7) &&& 31))

abbrev rmX11_bitOfPlace : Room := { frames := 0, cells := 0, slots := 0, locals := 0 }
set_option maxHeartbeats 4000000 in
set_option maxRecDepth 100000 in
theorem c_X11_bitOfPlace (l : Launch) (G : va_G) (cs : CS) (sz : Nat)    (x0 : Int32) (res : Int32) (hm : M_X11_bitOfPlace x0 = res) : Met l yX11_bitOfPlace wsX11_bitOfPlace rmX11_bitOfPlace (va_Pc [.int x0] (PreW G cs sz [] RN)) (QI G res True [] (va_A [] sz)) 0 0 (va_A [] sz) := by
  refine k_enter (Qf := fun A => QI G res True [] A) (cc := cX11_bitOfPlace) (maxL := 1) (ret := (some .int)) (plainFor_of_name (by decide)) rfl (Nat.le_of_ble_eq_true rfl) ?_
  intro p e s m args below meth c A Q ls H locs hx hb hr hml hown hts hlocks hname hK hA hRo hP hD hS hQ hl
  have hl : lv_has ls 1 [(0, .int x0)] := hl
  unfold M_X11_bitOfPlace at hm
  refine lv_sipush (v := 128) hx hb dX11_bitOfPlace_0 (by decide) ?_
  refine lv_iload_n hx hb dX11_bitOfPlace_3 rfl (lv_at hl 0 rfl) ?_
  refine lv_bipush (v := 7) hx hb dX11_bitOfPlace_4 (by decide) ?_
  refine lv_iand hx hb dX11_bitOfPlace_6 ?_
  refine lv_ishr hx hb dX11_bitOfPlace_7 ?_
  have hq := hm
  subst hq; subst hQ
  exact k_iret hx hb hr hlocks hP hD hS rfl trivial dX11_bitOfPlace_8

theorem hd_X2_isByExclusiveOr : yX2_isByExclusiveOr.cls ≠ "java/lang/invoke/MethodHandle" ∧ yX2_isByExclusiveOr.cls ≠ "java/lang/invoke/VarHandle" ∧ (parseMethodDescriptor yX2_isByExclusiveOr.desc).map (fun d => d.parameters.length) = some 0 := by decide +kernel

def M_X2_isByExclusiveOr   : Int32 :=
  0

abbrev rmX2_isByExclusiveOr : Room := { frames := 0, cells := 0, slots := 0, locals := 0 }
set_option maxHeartbeats 4000000 in
set_option maxRecDepth 100000 in
theorem c_X2_isByExclusiveOr (l : Launch) (G : va_G) (cs : CS) (sz : Nat)   (sa : Nat)   (res : Int32) (hm : M_X2_isByExclusiveOr  = res) : Met l yX2_isByExclusiveOr wsX2_isByExclusiveOr rmX2_isByExclusiveOr (va_Pc [.ref sa] (PreW G cs sz [] RN)) (QI G res (res = 0 ∨ res = 1) [] (va_A [] sz)) 0 0 (va_A [] sz) := by
  refine k_enter (Qf := fun A => QI G res (res = 0 ∨ res = 1) [] A) (cc := cX2_isByExclusiveOr) (maxL := 1) (ret := (some .boolean)) (plainFor_of_name (by decide)) rfl (Nat.le_of_ble_eq_true rfl) ?_
  intro p e s m args below meth c A Q ls H locs hx hb hr hml hown hts hlocks hname hK hA hRo hP hD hS hQ hl
  have hl : lv_has ls 1 [(0, .ref sa)] := hl
  unfold M_X2_isByExclusiveOr at hm
  refine lv_iconst (v := 0) hx hb dX2_isByExclusiveOr_0 (by decide) ?_
  have hq := hm
  subst hq; subst hQ
  exact k_zret hx hb hr hlocks hP hD hS rfl (by decide) dX2_isByExclusiveOr_1

theorem hd_X2_canJoinBehind : yX2_canJoinBehind.cls ≠ "java/lang/invoke/MethodHandle" ∧ yX2_canJoinBehind.cls ≠ "java/lang/invoke/VarHandle" ∧ (parseMethodDescriptor yX2_canJoinBehind.desc).map (fun d => d.parameters.length) = some 1 := by decide +kernel

def M_X2_canJoinBehind (x1 : Int32)  : Int32 :=
  1

abbrev rmX2_canJoinBehind : Room := { frames := 0, cells := 0, slots := 0, locals := 0 }
set_option maxHeartbeats 4000000 in
set_option maxRecDepth 100000 in
theorem c_X2_canJoinBehind (l : Launch) (G : va_G) (cs : CS) (sz : Nat)   (sa : Nat)  (x1 : Int32) (res : Int32) (hm : M_X2_canJoinBehind x1 = res) : Met l yX2_canJoinBehind wsX2_canJoinBehind rmX2_canJoinBehind (va_Pc [.ref sa, .int x1] (PreW G cs sz [] RN)) (QI G res (res = 0 ∨ res = 1) [] (va_A [] sz)) 0 0 (va_A [] sz) := by
  refine k_enter (Qf := fun A => QI G res (res = 0 ∨ res = 1) [] A) (cc := cX2_canJoinBehind) (maxL := 2) (ret := (some .boolean)) (plainFor_of_name (by decide)) rfl (Nat.le_of_ble_eq_true rfl) ?_
  intro p e s m args below meth c A Q ls H locs hx hb hr hml hown hts hlocks hname hK hA hRo hP hD hS hQ hl
  have hl : lv_has ls 2 [(0, .ref sa), (1, .int x1)] := hl
  unfold M_X2_canJoinBehind at hm
  refine lv_iconst (v := 1) hx hb dX2_canJoinBehind_0 (by decide) ?_
  have hq := hm
  subst hq; subst hQ
  exact k_zret hx hb hr hlocks hP hD hS rfl (by decide) dX2_canJoinBehind_1

theorem hd_X2_canDropFirst : yX2_canDropFirst.cls ≠ "java/lang/invoke/MethodHandle" ∧ yX2_canDropFirst.cls ≠ "java/lang/invoke/VarHandle" ∧ (parseMethodDescriptor yX2_canDropFirst.desc).map (fun d => d.parameters.length) = some 0 := by decide +kernel

def M_X2_canDropFirst   : Int32 :=
  1

abbrev rmX2_canDropFirst : Room := { frames := 0, cells := 0, slots := 0, locals := 0 }
set_option maxHeartbeats 4000000 in
set_option maxRecDepth 100000 in
theorem c_X2_canDropFirst (l : Launch) (G : va_G) (cs : CS) (sz : Nat)   (sa : Nat)   (res : Int32) (hm : M_X2_canDropFirst  = res) : Met l yX2_canDropFirst wsX2_canDropFirst rmX2_canDropFirst (va_Pc [.ref sa] (PreW G cs sz [] RN)) (QI G res (res = 0 ∨ res = 1) [] (va_A [] sz)) 0 0 (va_A [] sz) := by
  refine k_enter (Qf := fun A => QI G res (res = 0 ∨ res = 1) [] A) (cc := cX2_canDropFirst) (maxL := 1) (ret := (some .boolean)) (plainFor_of_name (by decide)) rfl (Nat.le_of_ble_eq_true rfl) ?_
  intro p e s m args below meth c A Q ls H locs hx hb hr hml hown hts hlocks hname hK hA hRo hP hD hS hQ hl
  have hl : lv_has ls 1 [(0, .ref sa)] := hl
  unfold M_X2_canDropFirst at hm
  refine lv_iconst (v := 1) hx hb dX2_canDropFirst_0 (by decide) ?_
  have hq := hm
  subst hq; subst hQ
  exact k_zret hx hb hr hlocks hP hD hS rfl (by decide) dX2_canDropFirst_1

theorem hd_X2_withoutLeadingZero : yX2_withoutLeadingZero.cls ≠ "java/lang/invoke/MethodHandle" ∧ yX2_withoutLeadingZero.cls ≠ "java/lang/invoke/VarHandle" ∧ (parseMethodDescriptor yX2_withoutLeadingZero.desc).map (fun d => d.parameters.length) = some 2 := by decide +kernel

def M_X2_withoutLeadingZero (x1 : Int64) (x3 : Int32)  : Int64 :=
  x1

abbrev rmX2_withoutLeadingZero : Room := { frames := 0, cells := 0, slots := 0, locals := 0 }
set_option maxHeartbeats 4000000 in
set_option maxRecDepth 100000 in
theorem c_X2_withoutLeadingZero (l : Launch) (G : va_G) (cs : CS) (sz : Nat)   (sa : Nat)  (x1 : Int64) (x3 : Int32) (res : Int64) (hm : M_X2_withoutLeadingZero x1 x3 = res) : Met l yX2_withoutLeadingZero wsX2_withoutLeadingZero rmX2_withoutLeadingZero (va_Pc [.ref sa, .long x1, .int x3] (PreW G cs sz [] RN)) (QL G res [] (va_A [] sz)) 0 0 (va_A [] sz) := by
  refine k_enter (Qf := fun A => QL G res [] A) (cc := cX2_withoutLeadingZero) (maxL := 4) (ret := (some .long)) (plainFor_of_name (by decide)) rfl (Nat.le_of_ble_eq_true rfl) ?_
  intro p e s m args below meth c A Q ls H locs hx hb hr hml hown hts hlocks hname hK hA hRo hP hD hS hQ hl
  have hl : lv_has ls 4 [(0, .ref sa), (1, .long x1), (3, .int x3)] := hl
  unfold M_X2_withoutLeadingZero at hm
  refine lv_lload_n hx hb dX2_withoutLeadingZero_0 rfl (lv_at hl 1 rfl) ?_
  have hq := hm
  subst hq; subst hQ
  exact k_lret hx hb hr hlocks hP hD hS rfl dX2_withoutLeadingZero_1

theorem hd_X10_weightAt : yX10_weightAt.cls ≠ "java/lang/invoke/MethodHandle" ∧ yX10_weightAt.cls ≠ "java/lang/invoke/VarHandle" ∧ (parseMethodDescriptor yX10_weightAt.desc).map (fun d => d.parameters.length) = some 1 := by decide +kernel

def M_X10_weightAt (x1 : Int32) (s_wl : Nat) (s_wf : (Nat → Int32)) : Option Int32 :=
  if (Int32.ofNat s_wl) = 0 then none else if (x1 - x1 / (Int32.ofNat s_wl) * (Int32.ofNat s_wl)) < 0 ∨ s_wl ≤ (x1 - x1 / (Int32.ofNat s_wl) * (Int32.ofNat s_wl)).toNatClampNeg then none else some (s_wf (x1 - x1 / (Int32.ofNat s_wl) * (Int32.ofNat s_wl)).toNatClampNeg)

abbrev rmX10_weightAt : Room := { frames := 0, cells := 0, slots := 0, locals := 0 }
set_option maxHeartbeats 4000000 in
set_option maxRecDepth 100000 in
theorem c_X10_weightAt (l : Launch) (G : va_G) (cs : CS) (sz : Nat)   (sa sw : Nat) (s_k : Int32) (s_m : Int32) (s_t : Int32) (s_p : Int64) (s_b : Int64) (s_f : Int64) (s_l : Int32) (s_wl : Nat) (s_wf : (Nat → Int32)) (x1 : Int32) (res : Int32) (hm : M_X10_weightAt x1 s_wl s_wf = some res) : Met l yX10_weightAt wsX10_weightAt rmX10_weightAt (va_Pc [.ref sa, .int x1] (PreW G cs sz [] (fun _ => some (sa, sw, (8, s_k, s_m, s_t, s_p, s_b, s_f, s_l, s_wl, s_wf))))) (QI G res True [] (va_A [] sz)) 0 0 (va_A [] sz) := by
  refine k_enter (Qf := fun A => QI G res True [] A) (cc := cX10_weightAt) (maxL := 2) (ret := (some .int)) (plainFor_of_name (by decide)) rfl (Nat.le_of_ble_eq_true rfl) ?_
  intro p e s m args below meth c A Q ls H locs hx hb hr hml hown hts hlocks hname hK hA hRo hP hD hS hQ hl
  have hl : lv_has ls 2 [(0, .ref sa), (1, .int x1)] := hl
  have hT : va_P G vwCl [(sa, .inr (8, [.int s_k, .int s_m, .ref sw]))] s.heap ∧ ¬ A sa := ⟨(hRo 0 _ rfl).1, (hRo 0 _ rfl).2.1⟩
  have hX : va_X sw s_wl s_wf s s.heap ∧ ¬ A sw := (hRo 0 _ rfl).2.2 (Or.inl rfl)
  have wd1 := hts (.fieldLink RX10 13 "SumSmith$Weighted" "weights" "[I") (List.mem_of_getElem? (i := 1) rfl)
  have hinX10 : ∀ w ∈ wsX100, w ∈ wsX10_weightAt := fun w h => List.mem_cons_of_mem _ (List.mem_append_right _ h)
  unfold M_X10_weightAt at hm
  refine lv_aload_n hx hb dX10_weightAt_0 rfl (lv_at hl 0 rfl) ?_
  refine va_get (D := G) (ci := 8) (v := .ref sw) (C := RX10) (T := TX10) (N := 3) hx hb hts hinX10 hown hK.1 (roP hS hT.1 hT.2) 0 rfl rfl 2 (by decide) wd1 (fun _ h9 => h9) rfl dX10_weightAt_1 ?_
  refine lv_iload_n hx hb dX10_weightAt_4 rfl (lv_at hl 1 rfl) ?_
  refine lv_aload_n hx hb dX10_weightAt_5 rfl (lv_at hl 0 rfl) ?_
  refine va_get (D := G) (ci := 8) (v := .ref sw) (C := RX10) (T := TX10) (N := 3) hx hb hts hinX10 hown hK.1 (roP hS hT.1 hT.2) 0 rfl rfl 2 (by decide) wd1 (fun _ h9 => h9) rfl dX10_weightAt_6 ?_
  refine va_slen hx hb hX.1 hX.1.lt hX.2 hS dX10_weightAt_9 ?_
  obtain ⟨h1, hm⟩ := g_in hm
  refine lv_irem hx hb dX10_weightAt_10 h1 ?_
  obtain ⟨h2, hm⟩ := g_in hm
  refine va_sld hx hb hX.1 hX.1.lt hX.2 hS h2 dX10_weightAt_11 ?_
  have hq := Option.some.inj hm
  subst hq; subst hQ
  exact k_iret hx hb hr hlocks hP hD hS rfl trivial dX10_weightAt_12

theorem hd_X10_ofRow : yX10_ofRow.cls ≠ "java/lang/invoke/MethodHandle" ∧ yX10_ofRow.cls ≠ "java/lang/invoke/VarHandle" ∧ (parseMethodDescriptor yX10_ofRow.desc).map (fun d => d.parameters.length) = some 2 := by decide +kernel

def M_X10_ofRow_b5 (n : Nat) (x2 : Int32) (v_p1 : (Nat → Int32)) (n1 : Nat) (s_wl : Nat) (s_wf : (Nat → Int32)) (x3 : Int64) (x5 : Int32) : Option ((Int64 × Int32) ⊕ Int64) :=
  if x2 ≤ x5 then (some (.inr x3)) else ((M_X10_weightAt x5 s_wl s_wf).bind fun r2 => if x5 < 0 ∨ n1 ≤ x5.toNatClampNeg then none else some (.inl (x3 + (r2.toInt64 * ((v_p1 x5.toNatClampNeg).toInt64)), x5 + 1)))

def M_X10_ofRow (n : Nat) (x2 : Int32) (v_p1 : (Nat → Int32)) (n1 : Nat) (s_m : Int32) (s_wl : Nat) (s_wf : (Nat → Int32)) : Option Int64 :=
  (lp (fun x : (Int64 × Int32) => M_X10_ofRow_b5 n x2 v_p1 n1 s_wl s_wf x.1 x.2) n ((0 : Int64), (0 : Int32))).bind fun o5 => if s_m.toInt64 = 0 then none else some (o5 - o5 / s_m.toInt64 * s_m.toInt64)

abbrev ww_X10_ofRow (cs : CS) (v_p1 : (Nat → Int32)) (a1 : Nat) (n1 : Nat) : va_W := [(a1, .inl (cs.1, n1, .inl v_p1))]

abbrev rmX10_ofRow : Room := { frames := 1, cells := 0, slots := 0, locals := 21 }
set_option maxHeartbeats 4000000 in
set_option maxRecDepth 100000 in
theorem c_X10_ofRow (l : Launch) (G : va_G) (cs : CS) (sz : Nat) (v_p1 : (Nat → Int32)) (a1 : Nat) (sa sw : Nat) (n1 : Nat) (s_k : Int32) (s_m : Int32) (s_t : Int32) (s_p : Int64) (s_b : Int64) (s_f : Int64) (s_l : Int32) (s_wl : Nat) (s_wf : (Nat → Int32)) (x2 : Int32) (n : Nat) (res : Int64) (hm : M_X10_ofRow n x2 v_p1 n1 s_m s_wl s_wf = some res) : Met l yX10_ofRow wsX10_ofRow rmX10_ofRow (va_Pc [.ref sa, .ref a1, .int x2] (PreW G cs sz (ww_X10_ofRow cs v_p1 a1 n1) (fun _ => some (sa, sw, (8, s_k, s_m, s_t, s_p, s_b, s_f, s_l, s_wl, s_wf))))) (QL G res (ww_X10_ofRow cs v_p1 a1 n1) (va_A (ww_X10_ofRow cs v_p1 a1 n1) sz)) 0 0 (va_A (ww_X10_ofRow cs v_p1 a1 n1) sz) := by
  refine k_enter (Qf := fun A => QL G res (ww_X10_ofRow cs v_p1 a1 n1) A) (cc := cX10_ofRow) (maxL := 6) (ret := (some .long)) (plainFor_of_name (by decide)) rfl (Nat.le_of_ble_eq_true rfl) ?_
  intro p e s m args below meth c A Q ls H locs hx hb hr hml hown hts hlocks hname hK hA hRo hP hD hS hQ hl
  have hl : lv_has ls 6 [(0, .ref sa), (1, .ref a1), (2, .int x2)] := hl
  have hT : va_P G vwCl [(sa, .inr (8, [.int s_k, .int s_m, .ref sw]))] s.heap ∧ ¬ A sa := ⟨(hRo 0 _ rfl).1, (hRo 0 _ rfl).2.1⟩
  have hX : va_X sw s_wl s_wf s s.heap ∧ ¬ A sw := (hRo 0 _ rfl).2.2 (Or.inl rfl)
  have wd1 := hts (.fieldLink RX10 7 "SumSmith$Weighted" "modulus" "I") (List.mem_of_getElem? (i := 1) rfl)
  have hinX10 : ∀ w ∈ wsX100, w ∈ wsX10_ofRow := fun w h => List.mem_cons_of_mem _ (List.mem_append_right _ h)
  have L5 : ∀ (x2 : Int32) (x3 : Int64) (x5 : Int32) (out : Int64), lp (fun x : (Int64 × Int32) => M_X10_ofRow_b5 n x2 v_p1 n1 s_wl s_wf x.1 x.2) n (x3, x5) = some out → (∀ (o : Int64), out = o → ∀ (H : Heap) (locs : List Loc), va_P G vwCl (ww_X10_ofRow cs v_p1 a1 n1) H → va_D A (ww_X10_ofRow cs v_p1 a1 n1) → va_S A s.heap H locs → ∀ (ls : Array Slot), lv_has ls 6 [(0, .ref sa), (3, .long o)] → W p l e rmX10_ofRow s m args below meth c H locs 0 0 Q (F0 m 33 ls [])) → ∀ (H : Heap) (locs : List Loc), va_P G vwCl (ww_X10_ofRow cs v_p1 a1 n1) H → va_D A (ww_X10_ofRow cs v_p1 a1 n1) → va_S A s.heap H locs → ∀ (ls : Array Slot), lv_has ls 6 [(0, .ref sa), (1, .ref a1), (2, .int x2), (3, .long x3), (5, .int x5)] → W p l e rmX10_ofRow s m args below meth c H locs 0 0 Q (F0 m 5 ls []) := by
    intro x2 x3 x5 out hlp hX
    refine lp_ind (fun x => ∀ (H : Heap) (locs : List Loc), va_P G vwCl (ww_X10_ofRow cs v_p1 a1 n1) H → va_D A (ww_X10_ofRow cs v_p1 a1 n1) → va_S A s.heap H locs → ∀ (ls : Array Slot), lv_has ls 6 [(0, .ref sa), (1, .ref a1), (2, .int x2), (3, .long x.1), (5, .int x.2)] → W p l e rmX10_ofRow s m args below meth c H locs 0 0 Q (F0 m 5 ls [])) ?_ n (x3, x5) hlp
    clear hlp hP hD hS hl
    rintro ⟨x3, x5⟩ ob hm hst H locs hP hD hS ls hl
    have hm : M_X10_ofRow_b5 n x2 v_p1 n1 s_wl s_wf x3 x5 = some ob := hm
    have hl : lv_has ls 6 [(0, .ref sa), (1, .ref a1), (2, .int x2), (3, .long x3), (5, .int x5)] := hl
    have hP : va_P G vwCl (ww_X10_ofRow cs v_p1 a1 n1) H := hP
    have hD : va_D A (ww_X10_ofRow cs v_p1 a1 n1) := hD
    unfold M_X10_ofRow_b5 at hm
    refine lv_iload hx hb dX10_ofRow_5 (lv_at hl 4 rfl) ?_
    refine lv_iload_n hx hb dX10_ofRow_7 rfl (lv_at hl 2 rfl) ?_
    refine lv_icmp_ge (tgt := 33) hx hb dX10_ofRow_8 (by decide) (fun b1 => ?_) (fun b1 => ?_)
    · have hm := i_t b1 hm
      exact hX _ (st_exit hm hst) H locs hP hD hS ls (lv_sub hl [0, 3] rfl)
    · have hm := i_f b1 hm
      refine lv_lload_n hx hb dX10_ofRow_11 rfl (lv_at hl 3 rfl) ?_
      refine lv_aload_n hx hb dX10_ofRow_12 rfl (lv_at hl 0 rfl) ?_
      refine lv_iload hx hb dX10_ofRow_13 (lv_at hl 4 rfl) ?_
      obtain ⟨r2, hc_r2, hm⟩ := bs hm
      refine k_calli0 (va_runV (As := [.int x5]) (rest := [.long x3]) ⟨hx, hb, hml, hown, hts⟩ (c_X10_weightAt l G cs H.size   sa sw s_k s_m s_t s_p s_b s_f s_l s_wl s_wf x5 r2 hc_r2) (cwV 1 hts gX10_ofRow_X10_weightAt rfl rfl rfl ⟨rfl, hd_X10_weightAt⟩ ⟨Nat.le_of_ble_eq_true rfl, Nat.le_of_ble_eq_true rfl⟩) ⟨pre_blind, va_recv hK.1 (roP hS hT.1 hT.2) (ci := 8) (q0 := 0) rfl rfl, pre_w hK (RO.at hS hRo) P0 D0 (va_new0 hS hA)⟩ rfl rfl hl.1 rfl (lv_room (Nat.le_of_ble_eq_true rfl)) dX10_ofRow_15 ⟨Nat.zero_le _, Nat.zero_le _⟩) hP hS hA (fun hE3 H locs hP hS => ?_)
      refine lv_i2l (v := r2.toInt64) hx hb dX10_ofRow_18 rfl ?_
      refine lv_aload_n hx hb dX10_ofRow_19 rfl (lv_at hl 1 rfl) ?_
      refine lv_iload hx hb dX10_ofRow_20 (lv_at hl 4 rfl) ?_
      obtain ⟨h4, hm⟩ := g_in hm
      refine va_iald hx hb hK.1 hP 0 0 rfl rfl h4 dX10_ofRow_22 ?_
      refine lv_i2l (v := (v_p1 x5.toNatClampNeg).toInt64) hx hb dX10_ofRow_23 rfl ?_
      refine lv_lmul hx hb dX10_ofRow_24 ?_
      refine lv_ladd hx hb dX10_ofRow_25 ?_
      refine lv_lstore_n (lv' := [(3, .long (x3 + (r2.toInt64 * ((v_p1 x5.toNatClampNeg).toInt64)))), (0, .ref sa), (1, .ref a1), (2, .int x2), (5, .int x5)]) hx hb dX10_ofRow_26 rfl hl (by decide) rfl (fun ls hl => ?_)
      refine lv_iinc (v := x5 + 1) (lv' := [(5, .int (x5 + 1)), (3, .long (x3 + (r2.toInt64 * ((v_p1 x5.toNatClampNeg).toInt64)))), (0, .ref sa), (1, .ref a1), (2, .int x2)]) hx hb dX10_ofRow_27 hl (k := 4) rfl rfl (by decide) rfl (fun ls hl => ?_)
      refine lv_goto (tgt := 5) hx hb dX10_ofRow_30 (by decide) ?_
      exact st_next hm hst H locs hP hD hS ls (lv_sub hl [2, 3, 4, 1, 0] rfl)
  unfold M_X10_ofRow at hm
  refine lv_lconst (v := 0) hx hb dX10_ofRow_0 (by decide) ?_
  refine lv_lstore_n (lv' := [(3, .long 0), (0, .ref sa), (1, .ref a1), (2, .int x2)]) hx hb dX10_ofRow_1 rfl hl (by decide) rfl (fun ls hl => ?_)
  refine lv_iconst (v := 0) hx hb dX10_ofRow_2 (by decide) ?_
  refine lv_istore (lv' := [(5, .int 0), (3, .long 0), (0, .ref sa), (1, .ref a1), (2, .int x2)]) hx hb dX10_ofRow_3 hl (by decide) rfl (fun ls hl => ?_)
  obtain ⟨o5, hlp5, hm⟩ := bs hm
  refine L5 x2 (0 : Int64) (0 : Int32) o5 hlp5 (fun oo ho => ?_) H locs hP hD hS ls (lv_sub hl [2, 3, 4, 1, 0] rfl)
  subst ho
  intro H locs hP hD hS ls hl
  have hl : lv_has ls 6 [(0, .ref sa), (3, .long o5)] := hl
  have hP : va_P G vwCl (ww_X10_ofRow cs v_p1 a1 n1) H := hP
  have hD : va_D A (ww_X10_ofRow cs v_p1 a1 n1) := hD
  refine lv_lload_n hx hb dX10_ofRow_33 rfl (lv_at hl 1 rfl) ?_
  refine lv_aload_n hx hb dX10_ofRow_34 rfl (lv_at hl 0 rfl) ?_
  refine va_get (D := G) (ci := 8) (v := .int s_m) (C := RX10) (T := TX10) (N := 3) hx hb hts hinX10 hown hK.1 (roP hS hT.1 hT.2) 0 rfl rfl 1 (by decide) wd1 (fun _ h9 => h9) rfl dX10_ofRow_35 ?_
  refine lv_i2l (v := s_m.toInt64) hx hb dX10_ofRow_38 rfl ?_
  obtain ⟨h6, hm⟩ := g_in hm
  refine lv_lrem hx hb dX10_ofRow_39 h6 ?_
  have hq := Option.some.inj hm
  subst hq; subst hQ
  exact k_lret hx hb hr hlocks hP hD hS rfl dX10_ofRow_40

theorem hd_X10_holds : yX10_holds.cls ≠ "java/lang/invoke/MethodHandle" ∧ yX10_holds.cls ≠ "java/lang/invoke/VarHandle" ∧ (parseMethodDescriptor yX10_holds.desc).map (fun d => d.parameters.length) = some 1 := by decide +kernel

def M_X10_holds (x1 : Int64) (s_m : Int32) : Int32 :=
  if x1 < 0 then 0 else (if s_m.toInt64 ≤ x1 then 0 else 1)

abbrev rmX10_holds : Room := { frames := 0, cells := 0, slots := 0, locals := 0 }
set_option maxHeartbeats 4000000 in
set_option maxRecDepth 100000 in
theorem c_X10_holds (l : Launch) (G : va_G) (cs : CS) (sz : Nat)   (sa sw : Nat) (s_k : Int32) (s_m : Int32) (s_t : Int32) (s_p : Int64) (s_b : Int64) (s_f : Int64) (s_l : Int32) (s_wl : Nat) (s_wf : (Nat → Int32)) (x1 : Int64) (res : Int32) (hm : M_X10_holds x1 s_m = res) : Met l yX10_holds wsX10_holds rmX10_holds (va_Pc [.ref sa, .long x1] (PreW G cs sz [] (fun _ => some (sa, sw, (8, s_k, s_m, s_t, s_p, s_b, s_f, s_l, s_wl, s_wf))))) (QI G res (res = 0 ∨ res = 1) [] (va_A [] sz)) 0 0 (va_A [] sz) := by
  refine k_enter (Qf := fun A => QI G res (res = 0 ∨ res = 1) [] A) (cc := cX10_holds) (maxL := 3) (ret := (some .boolean)) (plainFor_of_name (by decide)) rfl (Nat.le_of_ble_eq_true rfl) ?_
  intro p e s m args below meth c A Q ls H locs hx hb hr hml hown hts hlocks hname hK hA hRo hP hD hS hQ hl
  have hl : lv_has ls 3 [(0, .ref sa), (1, .long x1)] := hl
  have hT : va_P G vwCl [(sa, .inr (8, [.int s_k, .int s_m, .ref sw]))] s.heap ∧ ¬ A sa := ⟨(hRo 0 _ rfl).1, (hRo 0 _ rfl).2.1⟩
  have hX : va_X sw s_wl s_wf s s.heap ∧ ¬ A sw := (hRo 0 _ rfl).2.2 (Or.inl rfl)
  have wd1 := hts (.fieldLink RX10 7 "SumSmith$Weighted" "modulus" "I") (List.mem_of_getElem? (i := 1) rfl)
  have hinX10 : ∀ w ∈ wsX100, w ∈ wsX10_holds := fun w h => List.mem_cons_of_mem _ (List.mem_append_right _ h)
  unfold M_X10_holds at hm
  refine lv_lload_n hx hb dX10_holds_0 rfl (lv_at hl 1 rfl) ?_
  refine lv_lconst (v := 0) hx hb dX10_holds_1 (by decide) ?_
  refine W.lcmp hx hb dX10_holds_2 ?_
  refine lv_if_lt (tgt := 20) hx hb dX10_holds_3 (by decide) (fun b1 => ?_) (fun b1 => ?_)
  · have b1 := (lg_cmp_lt _ _).mp b1
    have hm := i_t b1 hm
    refine lv_iconst (v := 0) hx hb dX10_holds_20 (by decide) ?_
    have hq := hm
    subst hq; subst hQ
    exact k_zret hx hb hr hlocks hP hD hS rfl (by decide) dX10_holds_21
  · have b1 := fun h9 => b1 ((lg_cmp_lt _ _).mpr h9)
    have hm := i_f b1 hm
    refine lv_lload_n hx hb dX10_holds_6 rfl (lv_at hl 1 rfl) ?_
    refine lv_aload_n hx hb dX10_holds_7 rfl (lv_at hl 0 rfl) ?_
    refine va_get (D := G) (ci := 8) (v := .int s_m) (C := RX10) (T := TX10) (N := 3) hx hb hts hinX10 hown hK.1 (roP hS hT.1 hT.2) 0 rfl rfl 1 (by decide) wd1 (fun _ h9 => h9) rfl dX10_holds_8 ?_
    refine lv_i2l (v := s_m.toInt64) hx hb dX10_holds_11 rfl ?_
    refine W.lcmp hx hb dX10_holds_12 ?_
    refine lv_if_ge (tgt := 20) hx hb dX10_holds_13 (by decide) (fun b2 => ?_) (fun b2 => ?_)
    · have b2 := (lg_cmp_ge _ _).mp b2
      have hm := i_t b2 hm
      refine lv_iconst (v := 0) hx hb dX10_holds_20 (by decide) ?_
      have hq := hm
      subst hq; subst hQ
      exact k_zret hx hb hr hlocks hP hD hS rfl (by decide) dX10_holds_21
    · have b2 := fun h9 => b2 ((lg_cmp_ge _ _).mpr h9)
      have hm := i_f b2 hm
      refine lv_iconst (v := 1) hx hb dX10_holds_16 (by decide) ?_
      refine lv_goto (tgt := 21) hx hb dX10_holds_17 (by decide) ?_
      have hq := hm
      subst hq; subst hQ
      exact k_zret hx hb hr hlocks hP hD hS rfl (by decide) dX10_holds_21

theorem hd_X10_merged : yX10_merged.cls ≠ "java/lang/invoke/MethodHandle" ∧ yX10_merged.cls ≠ "java/lang/invoke/VarHandle" ∧ (parseMethodDescriptor yX10_merged.desc).map (fun d => d.parameters.length) = some 2 := by decide +kernel

def M_X10_merged (x1 : Int64) (x3 : Int64) (s_m : Int32) : Option Int64 :=
  if s_m.toInt64 = 0 then none else some ((x1 + x3) - (x1 + x3) / s_m.toInt64 * s_m.toInt64)

abbrev rmX10_merged : Room := { frames := 0, cells := 0, slots := 0, locals := 0 }
set_option maxHeartbeats 4000000 in
set_option maxRecDepth 100000 in
theorem c_X10_merged (l : Launch) (G : va_G) (cs : CS) (sz : Nat)   (sa sw : Nat) (s_k : Int32) (s_m : Int32) (s_t : Int32) (s_p : Int64) (s_b : Int64) (s_f : Int64) (s_l : Int32) (s_wl : Nat) (s_wf : (Nat → Int32)) (x1 : Int64) (x3 : Int64) (res : Int64) (hm : M_X10_merged x1 x3 s_m = some res) : Met l yX10_merged wsX10_merged rmX10_merged (va_Pc [.ref sa, .long x1, .long x3] (PreW G cs sz [] (fun _ => some (sa, sw, (8, s_k, s_m, s_t, s_p, s_b, s_f, s_l, s_wl, s_wf))))) (QL G res [] (va_A [] sz)) 0 0 (va_A [] sz) := by
  refine k_enter (Qf := fun A => QL G res [] A) (cc := cX10_merged) (maxL := 5) (ret := (some .long)) (plainFor_of_name (by decide)) rfl (Nat.le_of_ble_eq_true rfl) ?_
  intro p e s m args below meth c A Q ls H locs hx hb hr hml hown hts hlocks hname hK hA hRo hP hD hS hQ hl
  have hl : lv_has ls 5 [(0, .ref sa), (1, .long x1), (3, .long x3)] := hl
  have hT : va_P G vwCl [(sa, .inr (8, [.int s_k, .int s_m, .ref sw]))] s.heap ∧ ¬ A sa := ⟨(hRo 0 _ rfl).1, (hRo 0 _ rfl).2.1⟩
  have hX : va_X sw s_wl s_wf s s.heap ∧ ¬ A sw := (hRo 0 _ rfl).2.2 (Or.inl rfl)
  have wd1 := hts (.fieldLink RX10 7 "SumSmith$Weighted" "modulus" "I") (List.mem_of_getElem? (i := 1) rfl)
  have hinX10 : ∀ w ∈ wsX100, w ∈ wsX10_merged := fun w h => List.mem_cons_of_mem _ (List.mem_append_right _ h)
  unfold M_X10_merged at hm
  refine lv_lload_n hx hb dX10_merged_0 rfl (lv_at hl 1 rfl) ?_
  refine lv_lload_n hx hb dX10_merged_1 rfl (lv_at hl 2 rfl) ?_
  refine lv_ladd hx hb dX10_merged_2 ?_
  refine lv_aload_n hx hb dX10_merged_3 rfl (lv_at hl 0 rfl) ?_
  refine va_get (D := G) (ci := 8) (v := .int s_m) (C := RX10) (T := TX10) (N := 3) hx hb hts hinX10 hown hK.1 (roP hS hT.1 hT.2) 0 rfl rfl 1 (by decide) wd1 (fun _ h9 => h9) rfl dX10_merged_4 ?_
  refine lv_i2l (v := s_m.toInt64) hx hb dX10_merged_7 rfl ?_
  obtain ⟨h1, hm⟩ := g_in hm
  refine lv_lrem hx hb dX10_merged_8 h1 ?_
  have hq := Option.some.inj hm
  subst hq; subst hQ
  exact k_lret hx hb hr hlocks hP hD hS rfl dX10_merged_9

theorem hd_X10_changed : yX10_changed.cls ≠ "java/lang/invoke/MethodHandle" ∧ yX10_changed.cls ≠ "java/lang/invoke/VarHandle" ∧ (parseMethodDescriptor yX10_changed.desc).map (fun d => d.parameters.length) = some 4 := by decide +kernel

def M_X10_changed (x1 : Int32) (x2 : Int32) (x3 : Int32) (x4 : Int32) (s_m : Int32) (s_wl : Nat) (s_wf : (Nat → Int32)) : Option Int64 :=
  (M_X10_weightAt x2 s_wl s_wf).bind fun r1 => (M_J9_floorMod_f86c9 (r1.toInt64 * ((x4 - x3).toInt64)) s_m.toInt64).bind fun r3 => some r3

abbrev rmX10_changed : Room := { frames := 1, cells := 0, slots := 0, locals := 25 }
set_option maxHeartbeats 4000000 in
set_option maxRecDepth 100000 in
theorem c_X10_changed (l : Launch) (G : va_G) (cs : CS) (sz : Nat)   (sa sw : Nat) (s_k : Int32) (s_m : Int32) (s_t : Int32) (s_p : Int64) (s_b : Int64) (s_f : Int64) (s_l : Int32) (s_wl : Nat) (s_wf : (Nat → Int32)) (x1 : Int32) (x2 : Int32) (x3 : Int32) (x4 : Int32) (res : Int64) (hm : M_X10_changed x1 x2 x3 x4 s_m s_wl s_wf = some res) : Met l yX10_changed wsX10_changed rmX10_changed (va_Pc [.ref sa, .int x1, .int x2, .int x3, .int x4] (PreW G cs sz [] (fun _ => some (sa, sw, (8, s_k, s_m, s_t, s_p, s_b, s_f, s_l, s_wl, s_wf))))) (QL G res [] (va_A [] sz)) 0 0 (va_A [] sz) := by
  refine k_enter (Qf := fun A => QL G res [] A) (cc := cX10_changed) (maxL := 5) (ret := (some .long)) (plainFor_of_name (by decide)) rfl (Nat.le_of_ble_eq_true rfl) ?_
  intro p e s m args below meth c A Q ls H locs hx hb hr hml hown hts hlocks hname hK hA hRo hP hD hS hQ hl
  have hl : lv_has ls 5 [(0, .ref sa), (1, .int x1), (2, .int x2), (3, .int x3), (4, .int x4)] := hl
  have hT : va_P G vwCl [(sa, .inr (8, [.int s_k, .int s_m, .ref sw]))] s.heap ∧ ¬ A sa := ⟨(hRo 0 _ rfl).1, (hRo 0 _ rfl).2.1⟩
  have hX : va_X sw s_wl s_wf s s.heap ∧ ¬ A sw := (hRo 0 _ rfl).2.2 (Or.inl rfl)
  have wd1 := hts (.fieldLink RX10 7 "SumSmith$Weighted" "modulus" "I") (List.mem_of_getElem? (i := 1) rfl)
  have hinX10 : ∀ w ∈ wsX100, w ∈ wsX10_changed := fun w h => List.mem_cons_of_mem _ (List.mem_append_right _ h)
  unfold M_X10_changed at hm
  refine lv_aload_n hx hb dX10_changed_0 rfl (lv_at hl 0 rfl) ?_
  refine lv_iload_n hx hb dX10_changed_1 rfl (lv_at hl 2 rfl) ?_
  obtain ⟨r1, hc_r1, hm⟩ := bs hm
  refine k_calli0 (va_runV (As := [.int x2]) (rest := []) ⟨hx, hb, hml, hown, hts⟩ (c_X10_weightAt l G cs H.size   sa sw s_k s_m s_t s_p s_b s_f s_l s_wl s_wf x2 r1 hc_r1) (cwV 1 hts gX10_changed_X10_weightAt rfl rfl rfl ⟨rfl, hd_X10_weightAt⟩ ⟨Nat.le_of_ble_eq_true rfl, Nat.le_of_ble_eq_true rfl⟩) ⟨pre_blind, va_recv hK.1 (roP hS hT.1 hT.2) (ci := 8) (q0 := 0) rfl rfl, pre_w hK (RO.at hS hRo) P0 D0 (va_new0 hS hA)⟩ rfl rfl hl.1 rfl (lv_room (Nat.le_of_ble_eq_true rfl)) dX10_changed_2 ⟨Nat.zero_le _, Nat.zero_le _⟩) hP hS hA (fun hE2 H locs hP hS => ?_)
  refine lv_i2l (v := r1.toInt64) hx hb dX10_changed_5 rfl ?_
  refine lv_iload hx hb dX10_changed_6 (lv_at hl 4 rfl) ?_
  refine lv_iload_n hx hb dX10_changed_8 rfl (lv_at hl 3 rfl) ?_
  refine lv_isub hx hb dX10_changed_9 ?_
  refine lv_i2l (v := (x4 - x3).toInt64) hx hb dX10_changed_10 rfl ?_
  refine lv_lmul hx hb dX10_changed_11 ?_
  refine lv_aload_n hx hb dX10_changed_12 rfl (lv_at hl 0 rfl) ?_
  refine va_get (D := G) (ci := 8) (v := .int s_m) (C := RX10) (T := TX10) (N := 3) hx hb hts hinX10 hown hK.1 (roP hS hT.1 hT.2) 0 rfl rfl 1 (by decide) wd1 (fun _ h9 => h9) rfl dX10_changed_13 ?_
  refine lv_i2l (v := s_m.toInt64) hx hb dX10_changed_16 rfl ?_
  obtain ⟨r3, hc_r3, hm⟩ := bs hm
  refine k_calll0 (va_runS (As := [.long (r1.toInt64 * ((x4 - x3).toInt64)), .long s_m.toInt64]) (rest := []) ⟨hx, hb, hml, hown, hts⟩ (c_J9_floorMod_f86c9 l G cs H.size    (r1.toInt64 * ((x4 - x3).toInt64)) s_m.toInt64 r3 hc_r3) (va_cwS 2 hts gX10_changed_J9_floorMod_f86c9 rfl rfl rfl hd_J9_floorMod_f86c9 ⟨Nat.le_of_ble_eq_true rfl, Nat.le_of_ble_eq_true rfl⟩) ⟨pre_blind, pre_w hK RO.nil P0 D0 (va_new0 hS hA)⟩ rfl rfl hl.1 rfl (lv_room (Nat.le_of_ble_eq_true rfl)) dX10_changed_17 ⟨Nat.zero_le _, Nat.zero_le _⟩) hP hS hA (fun H locs hP hS => ?_)
  have hq := Option.some.inj hm
  subst hq; subst hQ
  exact k_lret hx hb hr hlocks hP hD hS rfl dX10_changed_20

theorem hd_X10_carried : yX10_carried.cls ≠ "java/lang/invoke/MethodHandle" ∧ yX10_carried.cls ≠ "java/lang/invoke/VarHandle" ∧ (parseMethodDescriptor yX10_carried.desc).map (fun d => d.parameters.length) = some 2 := by decide +kernel

def M_X10_carried (x1 : Int64) (x3 : Int32)  : Int64 :=
  x1

abbrev rmX10_carried : Room := { frames := 0, cells := 0, slots := 0, locals := 0 }
set_option maxHeartbeats 4000000 in
set_option maxRecDepth 100000 in
theorem c_X10_carried (l : Launch) (G : va_G) (cs : CS) (sz : Nat)   (sa sw : Nat) (s_k : Int32) (s_m : Int32) (s_t : Int32) (s_p : Int64) (s_b : Int64) (s_f : Int64) (s_l : Int32) (s_wl : Nat) (s_wf : (Nat → Int32)) (x1 : Int64) (x3 : Int32) (res : Int64) (hm : M_X10_carried x1 x3 = res) : Met l yX10_carried wsX10_carried rmX10_carried (va_Pc [.ref sa, .long x1, .int x3] (PreW G cs sz [] (fun _ => some (sa, sw, (8, s_k, s_m, s_t, s_p, s_b, s_f, s_l, s_wl, s_wf))))) (QL G res [] (va_A [] sz)) 0 0 (va_A [] sz) := by
  refine k_enter (Qf := fun A => QL G res [] A) (cc := cX10_carried) (maxL := 4) (ret := (some .long)) (plainFor_of_name (by decide)) rfl (Nat.le_of_ble_eq_true rfl) ?_
  intro p e s m args below meth c A Q ls H locs hx hb hr hml hown hts hlocks hname hK hA hRo hP hD hS hQ hl
  have hl : lv_has ls 4 [(0, .ref sa), (1, .long x1), (3, .int x3)] := hl
  have hT : va_P G vwCl [(sa, .inr (8, [.int s_k, .int s_m, .ref sw]))] s.heap ∧ ¬ A sa := ⟨(hRo 0 _ rfl).1, (hRo 0 _ rfl).2.1⟩
  have hX : va_X sw s_wl s_wf s s.heap ∧ ¬ A sw := (hRo 0 _ rfl).2.2 (Or.inl rfl)
  unfold M_X10_carried at hm
  refine lv_lload_n hx hb dX10_carried_0 rfl (lv_at hl 1 rfl) ?_
  have hq := hm
  subst hq; subst hQ
  exact k_lret hx hb hr hlocks hP hD hS rfl dX10_carried_1

theorem hd_X10_canJoinBehind : yX10_canJoinBehind.cls ≠ "java/lang/invoke/MethodHandle" ∧ yX10_canJoinBehind.cls ≠ "java/lang/invoke/VarHandle" ∧ (parseMethodDescriptor yX10_canJoinBehind.desc).map (fun d => d.parameters.length) = some 1 := by decide +kernel

def M_X10_canJoinBehind (x1 : Int32) (s_wl : Nat) : Option Int32 :=
  if (Int32.ofNat s_wl) = 0 then none else if (x1 - x1 / (Int32.ofNat s_wl) * (Int32.ofNat s_wl)) = 0 then (some 1) else (some 0)

abbrev rmX10_canJoinBehind : Room := { frames := 0, cells := 0, slots := 0, locals := 0 }
set_option maxHeartbeats 4000000 in
set_option maxRecDepth 100000 in
theorem c_X10_canJoinBehind (l : Launch) (G : va_G) (cs : CS) (sz : Nat)   (sa sw : Nat) (s_k : Int32) (s_m : Int32) (s_t : Int32) (s_p : Int64) (s_b : Int64) (s_f : Int64) (s_l : Int32) (s_wl : Nat) (s_wf : (Nat → Int32)) (x1 : Int32) (res : Int32) (hm : M_X10_canJoinBehind x1 s_wl = some res) : Met l yX10_canJoinBehind wsX10_canJoinBehind rmX10_canJoinBehind (va_Pc [.ref sa, .int x1] (PreW G cs sz [] (fun _ => some (sa, sw, (8, s_k, s_m, s_t, s_p, s_b, s_f, s_l, s_wl, s_wf))))) (QI G res (res = 0 ∨ res = 1) [] (va_A [] sz)) 0 0 (va_A [] sz) := by
  refine k_enter (Qf := fun A => QI G res (res = 0 ∨ res = 1) [] A) (cc := cX10_canJoinBehind) (maxL := 2) (ret := (some .boolean)) (plainFor_of_name (by decide)) rfl (Nat.le_of_ble_eq_true rfl) ?_
  intro p e s m args below meth c A Q ls H locs hx hb hr hml hown hts hlocks hname hK hA hRo hP hD hS hQ hl
  have hl : lv_has ls 2 [(0, .ref sa), (1, .int x1)] := hl
  have hT : va_P G vwCl [(sa, .inr (8, [.int s_k, .int s_m, .ref sw]))] s.heap ∧ ¬ A sa := ⟨(hRo 0 _ rfl).1, (hRo 0 _ rfl).2.1⟩
  have hX : va_X sw s_wl s_wf s s.heap ∧ ¬ A sw := (hRo 0 _ rfl).2.2 (Or.inl rfl)
  have wd1 := hts (.fieldLink RX10 13 "SumSmith$Weighted" "weights" "[I") (List.mem_of_getElem? (i := 1) rfl)
  have hinX10 : ∀ w ∈ wsX100, w ∈ wsX10_canJoinBehind := fun w h => List.mem_cons_of_mem _ (List.mem_append_right _ h)
  unfold M_X10_canJoinBehind at hm
  refine lv_iload_n hx hb dX10_canJoinBehind_0 rfl (lv_at hl 1 rfl) ?_
  refine lv_aload_n hx hb dX10_canJoinBehind_1 rfl (lv_at hl 0 rfl) ?_
  refine va_get (D := G) (ci := 8) (v := .ref sw) (C := RX10) (T := TX10) (N := 3) hx hb hts hinX10 hown hK.1 (roP hS hT.1 hT.2) 0 rfl rfl 2 (by decide) wd1 (fun _ h9 => h9) rfl dX10_canJoinBehind_2 ?_
  refine va_slen hx hb hX.1 hX.1.lt hX.2 hS dX10_canJoinBehind_5 ?_
  obtain ⟨h1, hm⟩ := g_in hm
  refine lv_irem hx hb dX10_canJoinBehind_6 h1 ?_
  refine lv_if_ne (tgt := 14) hx hb dX10_canJoinBehind_7 (by decide) (fun b2 => ?_) (fun b2 => ?_)
  · have hm := i_f b2 hm
    refine lv_iconst (v := 0) hx hb dX10_canJoinBehind_14 (by decide) ?_
    have hq := Option.some.inj hm
    subst hq; subst hQ
    exact k_zret hx hb hr hlocks hP hD hS rfl (by decide) dX10_canJoinBehind_15
  · have hm := i_t b2 hm
    refine lv_iconst (v := 1) hx hb dX10_canJoinBehind_10 (by decide) ?_
    refine lv_goto (tgt := 15) hx hb dX10_canJoinBehind_11 (by decide) ?_
    have hq := Option.some.inj hm
    subst hq; subst hQ
    exact k_zret hx hb hr hlocks hP hD hS rfl (by decide) dX10_canJoinBehind_15

theorem hd_X10_canDropFirst : yX10_canDropFirst.cls ≠ "java/lang/invoke/MethodHandle" ∧ yX10_canDropFirst.cls ≠ "java/lang/invoke/VarHandle" ∧ (parseMethodDescriptor yX10_canDropFirst.desc).map (fun d => d.parameters.length) = some 0 := by decide +kernel

def M_X10_canDropFirst  (s_wl : Nat) : Int32 :=
  if (Int32.ofNat s_wl) = 1 then 1 else 0

abbrev rmX10_canDropFirst : Room := { frames := 0, cells := 0, slots := 0, locals := 0 }
set_option maxHeartbeats 4000000 in
set_option maxRecDepth 100000 in
theorem c_X10_canDropFirst (l : Launch) (G : va_G) (cs : CS) (sz : Nat)   (sa sw : Nat) (s_k : Int32) (s_m : Int32) (s_t : Int32) (s_p : Int64) (s_b : Int64) (s_f : Int64) (s_l : Int32) (s_wl : Nat) (s_wf : (Nat → Int32))  (res : Int32) (hm : M_X10_canDropFirst s_wl = res) : Met l yX10_canDropFirst wsX10_canDropFirst rmX10_canDropFirst (va_Pc [.ref sa] (PreW G cs sz [] (fun _ => some (sa, sw, (8, s_k, s_m, s_t, s_p, s_b, s_f, s_l, s_wl, s_wf))))) (QI G res (res = 0 ∨ res = 1) [] (va_A [] sz)) 0 0 (va_A [] sz) := by
  refine k_enter (Qf := fun A => QI G res (res = 0 ∨ res = 1) [] A) (cc := cX10_canDropFirst) (maxL := 1) (ret := (some .boolean)) (plainFor_of_name (by decide)) rfl (Nat.le_of_ble_eq_true rfl) ?_
  intro p e s m args below meth c A Q ls H locs hx hb hr hml hown hts hlocks hname hK hA hRo hP hD hS hQ hl
  have hl : lv_has ls 1 [(0, .ref sa)] := hl
  have hT : va_P G vwCl [(sa, .inr (8, [.int s_k, .int s_m, .ref sw]))] s.heap ∧ ¬ A sa := ⟨(hRo 0 _ rfl).1, (hRo 0 _ rfl).2.1⟩
  have hX : va_X sw s_wl s_wf s s.heap ∧ ¬ A sw := (hRo 0 _ rfl).2.2 (Or.inl rfl)
  have wd1 := hts (.fieldLink RX10 13 "SumSmith$Weighted" "weights" "[I") (List.mem_of_getElem? (i := 1) rfl)
  have hinX10 : ∀ w ∈ wsX100, w ∈ wsX10_canDropFirst := fun w h => List.mem_cons_of_mem _ (List.mem_append_right _ h)
  unfold M_X10_canDropFirst at hm
  refine lv_aload_n hx hb dX10_canDropFirst_0 rfl (lv_at hl 0 rfl) ?_
  refine va_get (D := G) (ci := 8) (v := .ref sw) (C := RX10) (T := TX10) (N := 3) hx hb hts hinX10 hown hK.1 (roP hS hT.1 hT.2) 0 rfl rfl 2 (by decide) wd1 (fun _ h9 => h9) rfl dX10_canDropFirst_1 ?_
  refine va_slen hx hb hX.1 hX.1.lt hX.2 hS dX10_canDropFirst_4 ?_
  refine lv_iconst (v := 1) hx hb dX10_canDropFirst_5 (by decide) ?_
  refine lv_icmp_ne (tgt := 13) hx hb dX10_canDropFirst_6 (by decide) (fun b1 => ?_) (fun b1 => ?_)
  · have hm := i_f b1 hm
    refine lv_iconst (v := 0) hx hb dX10_canDropFirst_13 (by decide) ?_
    have hq := hm
    subst hq; subst hQ
    exact k_zret hx hb hr hlocks hP hD hS rfl (by decide) dX10_canDropFirst_14
  · have hm := i_t b1 hm
    refine lv_iconst (v := 1) hx hb dX10_canDropFirst_9 (by decide) ?_
    refine lv_goto (tgt := 14) hx hb dX10_canDropFirst_10 (by decide) ?_
    have hq := hm
    subst hq; subst hQ
    exact k_zret hx hb hr hlocks hP hD hS rfl (by decide) dX10_canDropFirst_14

theorem hd_X9_packed : yX9_packed.cls ≠ "java/lang/invoke/MethodHandle" ∧ yX9_packed.cls ≠ "java/lang/invoke/VarHandle" ∧ (parseMethodDescriptor yX9_packed.desc).map (fun d => d.parameters.length) = some 2 := by decide +kernel

def M_X9_packed (x0 : Int64) (x2 : Int64)  : Int64 :=
  ((65536 * x2) + x0)

abbrev rmX9_packed : Room := { frames := 0, cells := 0, slots := 0, locals := 0 }
set_option maxHeartbeats 4000000 in
set_option maxRecDepth 100000 in
theorem c_X9_packed (l : Launch) (G : va_G) (cs : CS) (sz : Nat)    (x0 : Int64) (x2 : Int64) (res : Int64) (hm : M_X9_packed x0 x2 = res) : Met l yX9_packed wsX9_packed rmX9_packed (va_Pc [.long x0, .long x2] (PreW G cs sz [] RN)) (QL G res [] (va_A [] sz)) 0 0 (va_A [] sz) := by
  refine k_enter (Qf := fun A => QL G res [] A) (cc := cX9_packed) (maxL := 4) (ret := (some .long)) (plainFor_of_name (by decide)) rfl (Nat.le_of_ble_eq_true rfl) ?_
  intro p e s m args below meth c A Q ls H locs hx hb hr hml hown hts hlocks hname hK hA hRo hP hD hS hQ hl
  have hl : lv_has ls 4 [(0, .long x0), (2, .long x2)] := hl
  have wd1 := hts (.constantLong RX9 19 (65536)) (List.mem_of_getElem? (i := 1) rfl)
  unfold M_X9_packed at hm
  refine lv_ldc2 (own := RX9) (v := 65536) hx hb hown wd1 dX9_packed_0 ?_
  refine lv_lload_n hx hb dX9_packed_3 rfl (lv_at hl 1 rfl) ?_
  refine lv_lmul hx hb dX9_packed_4 ?_
  refine lv_lload_n hx hb dX9_packed_5 rfl (lv_at hl 0 rfl) ?_
  refine lv_ladd hx hb dX9_packed_6 ?_
  have hq := hm
  subst hq; subst hQ
  exact k_lret hx hb hr hlocks hP hD hS rfl dX9_packed_7

theorem hd_X9_partA : yX9_partA.cls ≠ "java/lang/invoke/MethodHandle" ∧ yX9_partA.cls ≠ "java/lang/invoke/VarHandle" ∧ (parseMethodDescriptor yX9_partA.desc).map (fun d => d.parameters.length) = some 1 := by decide +kernel

def M_X9_partA (x0 : Int64)  : Int64 :=
  (x0 &&& 65535)

abbrev rmX9_partA : Room := { frames := 0, cells := 0, slots := 0, locals := 0 }
set_option maxHeartbeats 4000000 in
set_option maxRecDepth 100000 in
theorem c_X9_partA (l : Launch) (G : va_G) (cs : CS) (sz : Nat)    (x0 : Int64) (res : Int64) (hm : M_X9_partA x0 = res) : Met l yX9_partA wsX9_partA rmX9_partA (va_Pc [.long x0] (PreW G cs sz [] RN)) (QL G res [] (va_A [] sz)) 0 0 (va_A [] sz) := by
  refine k_enter (Qf := fun A => QL G res [] A) (cc := cX9_partA) (maxL := 2) (ret := (some .long)) (plainFor_of_name (by decide)) rfl (Nat.le_of_ble_eq_true rfl) ?_
  intro p e s m args below meth c A Q ls H locs hx hb hr hml hown hts hlocks hname hK hA hRo hP hD hS hQ hl
  have hl : lv_has ls 2 [(0, .long x0)] := hl
  have wd1 := hts (.constantLong RX9 21 (65535)) (List.mem_of_getElem? (i := 1) rfl)
  unfold M_X9_partA at hm
  refine lv_lload_n hx hb dX9_partA_0 rfl (lv_at hl 0 rfl) ?_
  refine lv_ldc2 (own := RX9) (v := 65535) hx hb hown wd1 dX9_partA_1 ?_
  refine lv_land hx hb dX9_partA_4 ?_
  have hq := hm
  subst hq; subst hQ
  exact k_lret hx hb hr hlocks hP hD hS rfl dX9_partA_5

theorem hd_X9_partB : yX9_partB.cls ≠ "java/lang/invoke/MethodHandle" ∧ yX9_partB.cls ≠ "java/lang/invoke/VarHandle" ∧ (parseMethodDescriptor yX9_partB.desc).map (fun d => d.parameters.length) = some 1 := by decide +kernel

def M_X9_partB (x0 : Int64)  : Int64 :=
  (x0 >>> ((16 : Int32).toInt64 &&& 63))

abbrev rmX9_partB : Room := { frames := 0, cells := 0, slots := 0, locals := 0 }
set_option maxHeartbeats 4000000 in
set_option maxRecDepth 100000 in
theorem c_X9_partB (l : Launch) (G : va_G) (cs : CS) (sz : Nat)    (x0 : Int64) (res : Int64) (hm : M_X9_partB x0 = res) : Met l yX9_partB wsX9_partB rmX9_partB (va_Pc [.long x0] (PreW G cs sz [] RN)) (QL G res [] (va_A [] sz)) 0 0 (va_A [] sz) := by
  refine k_enter (Qf := fun A => QL G res [] A) (cc := cX9_partB) (maxL := 2) (ret := (some .long)) (plainFor_of_name (by decide)) rfl (Nat.le_of_ble_eq_true rfl) ?_
  intro p e s m args below meth c A Q ls H locs hx hb hr hml hown hts hlocks hname hK hA hRo hP hD hS hQ hl
  have hl : lv_has ls 2 [(0, .long x0)] := hl
  unfold M_X9_partB at hm
  refine lv_lload_n hx hb dX9_partB_0 rfl (lv_at hl 0 rfl) ?_
  refine lv_bipush (v := 16) hx hb dX9_partB_1 (by decide) ?_
  refine lv_lshr (v := x0 >>> ((16 : Int32).toInt64 &&& 63)) hx hb dX9_partB_3 rfl ?_
  have hq := hm
  subst hq; subst hQ
  exact k_lret hx hb hr hlocks hP hD hS rfl dX9_partB_4

theorem hd_X9_ofRow : yX9_ofRow.cls ≠ "java/lang/invoke/MethodHandle" ∧ yX9_ofRow.cls ≠ "java/lang/invoke/VarHandle" ∧ (parseMethodDescriptor yX9_ofRow.desc).map (fun d => d.parameters.length) = some 2 := by decide +kernel

def M_X9_ofRow_b8 (n : Nat) (x2 : Int32) (v_p1 : (Nat → Int32)) (n1 : Nat) (s_m : Int32) (x3 : Int64) (x5 : Int64) (x7 : Int32) : Option ((Int64 × Int64 × Int32) ⊕ (Int64 × Int64)) :=
  if x2 ≤ x7 then (some (.inr (x3, x5))) else (if x7 < 0 ∨ n1 ≤ x7.toNatClampNeg then none else if s_m.toInt64 = 0 then none else if s_m.toInt64 = 0 then none else some (.inl ((x3 + ((v_p1 x7.toNatClampNeg).toInt64)) - (x3 + ((v_p1 x7.toNatClampNeg).toInt64)) / s_m.toInt64 * s_m.toInt64, (x5 + ((x3 + ((v_p1 x7.toNatClampNeg).toInt64)) - (x3 + ((v_p1 x7.toNatClampNeg).toInt64)) / s_m.toInt64 * s_m.toInt64)) - (x5 + ((x3 + ((v_p1 x7.toNatClampNeg).toInt64)) - (x3 + ((v_p1 x7.toNatClampNeg).toInt64)) / s_m.toInt64 * s_m.toInt64)) / s_m.toInt64 * s_m.toInt64, x7 + 1)))

def M_X9_ofRow (n : Nat) (x2 : Int32) (v_p1 : (Nat → Int32)) (n1 : Nat) (s_m : Int32) : Option Int64 :=
  (lp (fun x : (Int64 × Int64 × Int32) => M_X9_ofRow_b8 n x2 v_p1 n1 s_m x.1 x.2.1 x.2.2) n ((0 : Int64), (0 : Int64), (0 : Int32))).bind fun o5 => some (M_X9_packed o5.1 o5.2)

abbrev ww_X9_ofRow (cs : CS) (v_p1 : (Nat → Int32)) (a1 : Nat) (n1 : Nat) : va_W := [(a1, .inl (cs.1, n1, .inl v_p1))]

abbrev rmX9_ofRow : Room := { frames := 1, cells := 0, slots := 0, locals := 23 }
set_option maxHeartbeats 4000000 in
set_option maxRecDepth 100000 in
theorem c_X9_ofRow (l : Launch) (G : va_G) (cs : CS) (sz : Nat) (v_p1 : (Nat → Int32)) (a1 : Nat) (sa sw : Nat) (n1 : Nat) (s_k : Int32) (s_m : Int32) (s_t : Int32) (s_p : Int64) (s_b : Int64) (s_f : Int64) (s_l : Int32) (s_wl : Nat) (s_wf : (Nat → Int32)) (x2 : Int32) (n : Nat) (res : Int64) (hm : M_X9_ofRow n x2 v_p1 n1 s_m = some res) : Met l yX9_ofRow wsX9_ofRow rmX9_ofRow (va_Pc [.ref sa, .ref a1, .int x2] (PreW G cs sz (ww_X9_ofRow cs v_p1 a1 n1) (fun _ => some (sa, sw, (7, s_k, s_m, s_t, s_p, s_b, s_f, s_l, s_wl, s_wf))))) (QL G res (ww_X9_ofRow cs v_p1 a1 n1) (va_A (ww_X9_ofRow cs v_p1 a1 n1) sz)) 0 0 (va_A (ww_X9_ofRow cs v_p1 a1 n1) sz) := by
  refine k_enter (Qf := fun A => QL G res (ww_X9_ofRow cs v_p1 a1 n1) A) (cc := cX9_ofRow) (maxL := 8) (ret := (some .long)) (plainFor_of_name (by decide)) rfl (Nat.le_of_ble_eq_true rfl) ?_
  intro p e s m args below meth c A Q ls H locs hx hb hr hml hown hts hlocks hname hK hA hRo hP hD hS hQ hl
  have hl : lv_has ls 8 [(0, .ref sa), (1, .ref a1), (2, .int x2)] := hl
  have hT : va_P G vwCl [(sa, .inr (7, [.int s_k, .int s_m]))] s.heap ∧ ¬ A sa := ⟨(hRo 0 _ rfl).1, (hRo 0 _ rfl).2.1⟩
  have wd1 := hts (.fieldLink RX9 9 "SumSmith$Twofold" "modulus" "I") (List.mem_of_getElem? (i := 1) rfl)
  have hinX9 : ∀ w ∈ wsX90, w ∈ wsX9_ofRow := fun w h => List.mem_cons_of_mem _ (List.mem_append_right _ h)
  have L8 : ∀ (x2 : Int32) (x3 : Int64) (x5 : Int64) (x7 : Int32) (out : (Int64 × Int64)), lp (fun x : (Int64 × Int64 × Int32) => M_X9_ofRow_b8 n x2 v_p1 n1 s_m x.1 x.2.1 x.2.2) n (x3, x5, x7) = some out → (∀ (o : (Int64 × Int64)), out = o → ∀ (H : Heap) (locs : List Loc), va_P G vwCl (ww_X9_ofRow cs v_p1 a1 n1) H → va_D A (ww_X9_ofRow cs v_p1 a1 n1) → va_S A s.heap H locs → ∀ (ls : Array Slot), lv_has ls 8 [(3, .long o.1), (5, .long o.2)] → W p l e rmX9_ofRow s m args below meth c H locs 0 0 Q (F0 m 46 ls [])) → ∀ (H : Heap) (locs : List Loc), va_P G vwCl (ww_X9_ofRow cs v_p1 a1 n1) H → va_D A (ww_X9_ofRow cs v_p1 a1 n1) → va_S A s.heap H locs → ∀ (ls : Array Slot), lv_has ls 8 [(0, .ref sa), (1, .ref a1), (2, .int x2), (3, .long x3), (5, .long x5), (7, .int x7)] → W p l e rmX9_ofRow s m args below meth c H locs 0 0 Q (F0 m 8 ls []) := by
    intro x2 x3 x5 x7 out hlp hX
    refine lp_ind (fun x => ∀ (H : Heap) (locs : List Loc), va_P G vwCl (ww_X9_ofRow cs v_p1 a1 n1) H → va_D A (ww_X9_ofRow cs v_p1 a1 n1) → va_S A s.heap H locs → ∀ (ls : Array Slot), lv_has ls 8 [(0, .ref sa), (1, .ref a1), (2, .int x2), (3, .long x.1), (5, .long x.2.1), (7, .int x.2.2)] → W p l e rmX9_ofRow s m args below meth c H locs 0 0 Q (F0 m 8 ls [])) ?_ n (x3, x5, x7) hlp
    clear hlp hP hD hS hl
    rintro ⟨x3, x5, x7⟩ ob hm hst H locs hP hD hS ls hl
    have hm : M_X9_ofRow_b8 n x2 v_p1 n1 s_m x3 x5 x7 = some ob := hm
    have hl : lv_has ls 8 [(0, .ref sa), (1, .ref a1), (2, .int x2), (3, .long x3), (5, .long x5), (7, .int x7)] := hl
    have hP : va_P G vwCl (ww_X9_ofRow cs v_p1 a1 n1) H := hP
    have hD : va_D A (ww_X9_ofRow cs v_p1 a1 n1) := hD
    unfold M_X9_ofRow_b8 at hm
    refine lv_iload hx hb dX9_ofRow_8 (lv_at hl 5 rfl) ?_
    refine lv_iload_n hx hb dX9_ofRow_10 rfl (lv_at hl 2 rfl) ?_
    refine lv_icmp_ge (tgt := 46) hx hb dX9_ofRow_11 (by decide) (fun b1 => ?_) (fun b1 => ?_)
    · have hm := i_t b1 hm
      exact hX _ (st_exit hm hst) H locs hP hD hS ls (lv_sub hl [3, 4] rfl)
    · have hm := i_f b1 hm
      refine lv_lload_n hx hb dX9_ofRow_14 rfl (lv_at hl 3 rfl) ?_
      refine lv_aload_n hx hb dX9_ofRow_15 rfl (lv_at hl 1 rfl) ?_
      refine lv_iload hx hb dX9_ofRow_16 (lv_at hl 5 rfl) ?_
      obtain ⟨h2, hm⟩ := g_in hm
      refine va_iald hx hb hK.1 hP 0 0 rfl rfl h2 dX9_ofRow_18 ?_
      refine lv_i2l (v := (v_p1 x7.toNatClampNeg).toInt64) hx hb dX9_ofRow_19 rfl ?_
      refine lv_ladd hx hb dX9_ofRow_20 ?_
      refine lv_aload_n hx hb dX9_ofRow_21 rfl (lv_at hl 0 rfl) ?_
      refine va_get (D := G) (ci := 7) (v := .int s_m) (C := RX9) (T := TX9) (N := 2) hx hb hts hinX9 hown hK.1 (roP hS hT.1 hT.2) 0 rfl rfl 1 (by decide) wd1 (fun _ h9 => h9) rfl dX9_ofRow_22 ?_
      refine lv_i2l (v := s_m.toInt64) hx hb dX9_ofRow_25 rfl ?_
      obtain ⟨h3, hm⟩ := g_in hm
      refine lv_lrem hx hb dX9_ofRow_26 h3 ?_
      refine lv_lstore_n (lv' := [(3, .long ((x3 + ((v_p1 x7.toNatClampNeg).toInt64)) - (x3 + ((v_p1 x7.toNatClampNeg).toInt64)) / s_m.toInt64 * s_m.toInt64)), (0, .ref sa), (1, .ref a1), (2, .int x2), (5, .long x5), (7, .int x7)]) hx hb dX9_ofRow_27 rfl hl (by decide) rfl (fun ls hl => ?_)
      refine lv_lload hx hb dX9_ofRow_28 (lv_at hl 4 rfl) ?_
      refine lv_lload_n hx hb dX9_ofRow_30 rfl (lv_at hl 0 rfl) ?_
      refine lv_ladd hx hb dX9_ofRow_31 ?_
      refine lv_aload_n hx hb dX9_ofRow_32 rfl (lv_at hl 1 rfl) ?_
      refine va_get (D := G) (ci := 7) (v := .int s_m) (C := RX9) (T := TX9) (N := 2) hx hb hts hinX9 hown hK.1 (roP hS hT.1 hT.2) 0 rfl rfl 1 (by decide) wd1 (fun _ h9 => h9) rfl dX9_ofRow_33 ?_
      refine lv_i2l (v := s_m.toInt64) hx hb dX9_ofRow_36 rfl ?_
      obtain ⟨h4, hm⟩ := g_in hm
      refine lv_lrem hx hb dX9_ofRow_37 h4 ?_
      refine lv_lstore (lv' := [(5, .long ((x5 + ((x3 + ((v_p1 x7.toNatClampNeg).toInt64)) - (x3 + ((v_p1 x7.toNatClampNeg).toInt64)) / s_m.toInt64 * s_m.toInt64)) - (x5 + ((x3 + ((v_p1 x7.toNatClampNeg).toInt64)) - (x3 + ((v_p1 x7.toNatClampNeg).toInt64)) / s_m.toInt64 * s_m.toInt64)) / s_m.toInt64 * s_m.toInt64)), (3, .long ((x3 + ((v_p1 x7.toNatClampNeg).toInt64)) - (x3 + ((v_p1 x7.toNatClampNeg).toInt64)) / s_m.toInt64 * s_m.toInt64)), (0, .ref sa), (1, .ref a1), (2, .int x2), (7, .int x7)]) hx hb dX9_ofRow_38 hl (by decide) rfl (fun ls hl => ?_)
      refine lv_iinc (v := x7 + 1) (lv' := [(7, .int (x7 + 1)), (5, .long ((x5 + ((x3 + ((v_p1 x7.toNatClampNeg).toInt64)) - (x3 + ((v_p1 x7.toNatClampNeg).toInt64)) / s_m.toInt64 * s_m.toInt64)) - (x5 + ((x3 + ((v_p1 x7.toNatClampNeg).toInt64)) - (x3 + ((v_p1 x7.toNatClampNeg).toInt64)) / s_m.toInt64 * s_m.toInt64)) / s_m.toInt64 * s_m.toInt64)), (3, .long ((x3 + ((v_p1 x7.toNatClampNeg).toInt64)) - (x3 + ((v_p1 x7.toNatClampNeg).toInt64)) / s_m.toInt64 * s_m.toInt64)), (0, .ref sa), (1, .ref a1), (2, .int x2)]) hx hb dX9_ofRow_40 hl (k := 5) rfl rfl (by decide) rfl (fun ls hl => ?_)
      refine lv_goto (tgt := 8) hx hb dX9_ofRow_43 (by decide) ?_
      exact st_next hm hst H locs hP hD hS ls (lv_sub hl [3, 4, 5, 2, 1, 0] rfl)
  unfold M_X9_ofRow at hm
  refine lv_lconst (v := 0) hx hb dX9_ofRow_0 (by decide) ?_
  refine lv_lstore_n (lv' := [(3, .long 0), (0, .ref sa), (1, .ref a1), (2, .int x2)]) hx hb dX9_ofRow_1 rfl hl (by decide) rfl (fun ls hl => ?_)
  refine lv_lconst (v := 0) hx hb dX9_ofRow_2 (by decide) ?_
  refine lv_lstore (lv' := [(5, .long 0), (3, .long 0), (0, .ref sa), (1, .ref a1), (2, .int x2)]) hx hb dX9_ofRow_3 hl (by decide) rfl (fun ls hl => ?_)
  refine lv_iconst (v := 0) hx hb dX9_ofRow_5 (by decide) ?_
  refine lv_istore (lv' := [(7, .int 0), (5, .long 0), (3, .long 0), (0, .ref sa), (1, .ref a1), (2, .int x2)]) hx hb dX9_ofRow_6 hl (by decide) rfl (fun ls hl => ?_)
  obtain ⟨o5, hlp5, hm⟩ := bs hm
  refine L8 x2 (0 : Int64) (0 : Int64) (0 : Int32) o5 hlp5 (fun oo ho => ?_) H locs hP hD hS ls (lv_sub hl [3, 4, 5, 2, 1, 0] rfl)
  subst ho
  intro H locs hP hD hS ls hl
  have hl : lv_has ls 8 [(3, .long o5.1), (5, .long o5.2)] := hl
  have hP : va_P G vwCl (ww_X9_ofRow cs v_p1 a1 n1) H := hP
  have hD : va_D A (ww_X9_ofRow cs v_p1 a1 n1) := hD
  refine lv_lload_n hx hb dX9_ofRow_46 rfl (lv_at hl 0 rfl) ?_
  refine lv_lload hx hb dX9_ofRow_47 (lv_at hl 1 rfl) ?_
  refine k_calll0 (va_runS (As := [.long o5.1, .long o5.2]) (rest := []) ⟨hx, hb, hml, hown, hts⟩ (c_X9_packed l G cs H.size    o5.1 o5.2 _ rfl) (va_cwS 2 hts gX9_ofRow_X9_packed rfl rfl rfl hd_X9_packed ⟨Nat.le_of_ble_eq_true rfl, Nat.le_of_ble_eq_true rfl⟩) ⟨pre_blind, pre_w hK RO.nil P0 D0 (va_new0 hS hA)⟩ rfl rfl hl.1 rfl (lv_room (Nat.le_of_ble_eq_true rfl)) dX9_ofRow_49 ⟨Nat.zero_le _, Nat.zero_le _⟩) hP hS hA (fun H locs hP hS => ?_)
  have hq := Option.some.inj hm
  subst hq; subst hQ
  exact k_lret hx hb hr hlocks hP hD hS rfl dX9_ofRow_52

theorem hd_X9_holds : yX9_holds.cls ≠ "java/lang/invoke/MethodHandle" ∧ yX9_holds.cls ≠ "java/lang/invoke/VarHandle" ∧ (parseMethodDescriptor yX9_holds.desc).map (fun d => d.parameters.length) = some 1 := by decide +kernel

def M_X9_holds (x1 : Int64) (s_m : Int32) : Int32 :=
  if x1 < 0 then 0 else (if s_m.toInt64 ≤ (M_X9_partA x1) then 0 else (if s_m.toInt64 ≤ (M_X9_partB x1) then 0 else 1))

abbrev rmX9_holds : Room := { frames := 1, cells := 0, slots := 0, locals := 21 }
set_option maxHeartbeats 4000000 in
set_option maxRecDepth 100000 in
theorem c_X9_holds (l : Launch) (G : va_G) (cs : CS) (sz : Nat)   (sa sw : Nat) (s_k : Int32) (s_m : Int32) (s_t : Int32) (s_p : Int64) (s_b : Int64) (s_f : Int64) (s_l : Int32) (s_wl : Nat) (s_wf : (Nat → Int32)) (x1 : Int64) (res : Int32) (hm : M_X9_holds x1 s_m = res) : Met l yX9_holds wsX9_holds rmX9_holds (va_Pc [.ref sa, .long x1] (PreW G cs sz [] (fun _ => some (sa, sw, (7, s_k, s_m, s_t, s_p, s_b, s_f, s_l, s_wl, s_wf))))) (QI G res (res = 0 ∨ res = 1) [] (va_A [] sz)) 0 0 (va_A [] sz) := by
  refine k_enter (Qf := fun A => QI G res (res = 0 ∨ res = 1) [] A) (cc := cX9_holds) (maxL := 3) (ret := (some .boolean)) (plainFor_of_name (by decide)) rfl (Nat.le_of_ble_eq_true rfl) ?_
  intro p e s m args below meth c A Q ls H locs hx hb hr hml hown hts hlocks hname hK hA hRo hP hD hS hQ hl
  have hl : lv_has ls 3 [(0, .ref sa), (1, .long x1)] := hl
  have hT : va_P G vwCl [(sa, .inr (7, [.int s_k, .int s_m]))] s.heap ∧ ¬ A sa := ⟨(hRo 0 _ rfl).1, (hRo 0 _ rfl).2.1⟩
  have wd1 := hts (.fieldLink RX9 9 "SumSmith$Twofold" "modulus" "I") (List.mem_of_getElem? (i := 1) rfl)
  have hinX9 : ∀ w ∈ wsX90, w ∈ wsX9_holds := fun w h => List.mem_cons_of_mem _ (List.mem_append_right _ h)
  unfold M_X9_holds at hm
  refine lv_lload_n hx hb dX9_holds_0 rfl (lv_at hl 1 rfl) ?_
  refine lv_lconst (v := 0) hx hb dX9_holds_1 (by decide) ?_
  refine W.lcmp hx hb dX9_holds_2 ?_
  refine lv_if_lt (tgt := 36) hx hb dX9_holds_3 (by decide) (fun b1 => ?_) (fun b1 => ?_)
  · have b1 := (lg_cmp_lt _ _).mp b1
    have hm := i_t b1 hm
    refine lv_iconst (v := 0) hx hb dX9_holds_36 (by decide) ?_
    have hq := hm
    subst hq; subst hQ
    exact k_zret hx hb hr hlocks hP hD hS rfl (by decide) dX9_holds_37
  · have b1 := fun h9 => b1 ((lg_cmp_lt _ _).mpr h9)
    have hm := i_f b1 hm
    refine lv_lload_n hx hb dX9_holds_6 rfl (lv_at hl 1 rfl) ?_
    refine k_calll0 (va_runS (As := [.long x1]) (rest := []) ⟨hx, hb, hml, hown, hts⟩ (c_X9_partA l G cs H.size    x1 _ rfl) (va_cwS 1 hts gX9_holds_X9_partA rfl rfl rfl hd_X9_partA ⟨Nat.le_of_ble_eq_true rfl, Nat.le_of_ble_eq_true rfl⟩) ⟨pre_blind, pre_w hK RO.nil P0 D0 (va_new0 hS hA)⟩ rfl rfl hl.1 rfl (lv_room (Nat.le_of_ble_eq_true rfl)) dX9_holds_7 ⟨Nat.zero_le _, Nat.zero_le _⟩) hP hS hA (fun H locs hP hS => ?_)
    refine lv_aload_n hx hb dX9_holds_10 rfl (lv_at hl 0 rfl) ?_
    refine va_get (D := G) (ci := 7) (v := .int s_m) (C := RX9) (T := TX9) (N := 2) hx hb hts hinX9 hown hK.1 (roP hS hT.1 hT.2) 0 rfl rfl 1 (by decide) wd1 (fun _ h9 => h9) rfl dX9_holds_11 ?_
    refine lv_i2l (v := s_m.toInt64) hx hb dX9_holds_14 rfl ?_
    refine W.lcmp hx hb dX9_holds_15 ?_
    refine lv_if_ge (tgt := 36) hx hb dX9_holds_16 (by decide) (fun b2 => ?_) (fun b2 => ?_)
    · have b2 := (lg_cmp_ge _ _).mp b2
      have hm := i_t b2 hm
      refine lv_iconst (v := 0) hx hb dX9_holds_36 (by decide) ?_
      have hq := hm
      subst hq; subst hQ
      exact k_zret hx hb hr hlocks hP hD hS rfl (by decide) dX9_holds_37
    · have b2 := fun h9 => b2 ((lg_cmp_ge _ _).mpr h9)
      have hm := i_f b2 hm
      refine lv_lload_n hx hb dX9_holds_19 rfl (lv_at hl 1 rfl) ?_
      refine k_calll0 (va_runS (As := [.long x1]) (rest := []) ⟨hx, hb, hml, hown, hts⟩ (c_X9_partB l G cs H.size    x1 _ rfl) (va_cwS 1 hts gX9_holds_X9_partB rfl rfl rfl hd_X9_partB ⟨Nat.le_of_ble_eq_true rfl, Nat.le_of_ble_eq_true rfl⟩) ⟨pre_blind, pre_w hK RO.nil P0 D0 (va_new0 hS hA)⟩ rfl rfl hl.1 rfl (lv_room (Nat.le_of_ble_eq_true rfl)) dX9_holds_20 ⟨Nat.zero_le _, Nat.zero_le _⟩) hP hS hA (fun H locs hP hS => ?_)
      refine lv_aload_n hx hb dX9_holds_23 rfl (lv_at hl 0 rfl) ?_
      refine va_get (D := G) (ci := 7) (v := .int s_m) (C := RX9) (T := TX9) (N := 2) hx hb hts hinX9 hown hK.1 (roP hS hT.1 hT.2) 0 rfl rfl 1 (by decide) wd1 (fun _ h9 => h9) rfl dX9_holds_24 ?_
      refine lv_i2l (v := s_m.toInt64) hx hb dX9_holds_27 rfl ?_
      refine W.lcmp hx hb dX9_holds_28 ?_
      refine lv_if_ge (tgt := 36) hx hb dX9_holds_29 (by decide) (fun b3 => ?_) (fun b3 => ?_)
      · have b3 := (lg_cmp_ge _ _).mp b3
        have hm := i_t b3 hm
        refine lv_iconst (v := 0) hx hb dX9_holds_36 (by decide) ?_
        have hq := hm
        subst hq; subst hQ
        exact k_zret hx hb hr hlocks hP hD hS rfl (by decide) dX9_holds_37
      · have b3 := fun h9 => b3 ((lg_cmp_ge _ _).mpr h9)
        have hm := i_f b3 hm
        refine lv_iconst (v := 1) hx hb dX9_holds_32 (by decide) ?_
        refine lv_goto (tgt := 37) hx hb dX9_holds_33 (by decide) ?_
        have hq := hm
        subst hq; subst hQ
        exact k_zret hx hb hr hlocks hP hD hS rfl (by decide) dX9_holds_37

theorem hd_X9_merged : yX9_merged.cls ≠ "java/lang/invoke/MethodHandle" ∧ yX9_merged.cls ≠ "java/lang/invoke/VarHandle" ∧ (parseMethodDescriptor yX9_merged.desc).map (fun d => d.parameters.length) = some 2 := by decide +kernel

def M_X9_merged (x1 : Int64) (x3 : Int64) (s_m : Int32) : Option Int64 :=
  if s_m.toInt64 = 0 then none else if s_m.toInt64 = 0 then none else some (M_X9_packed (((M_X9_partA x1) + (M_X9_partA x3)) - ((M_X9_partA x1) + (M_X9_partA x3)) / s_m.toInt64 * s_m.toInt64) (((M_X9_partB x1) + (M_X9_partB x3)) - ((M_X9_partB x1) + (M_X9_partB x3)) / s_m.toInt64 * s_m.toInt64))

abbrev rmX9_merged : Room := { frames := 1, cells := 0, slots := 0, locals := 23 }
set_option maxHeartbeats 4000000 in
set_option maxRecDepth 100000 in
theorem c_X9_merged (l : Launch) (G : va_G) (cs : CS) (sz : Nat)   (sa sw : Nat) (s_k : Int32) (s_m : Int32) (s_t : Int32) (s_p : Int64) (s_b : Int64) (s_f : Int64) (s_l : Int32) (s_wl : Nat) (s_wf : (Nat → Int32)) (x1 : Int64) (x3 : Int64) (res : Int64) (hm : M_X9_merged x1 x3 s_m = some res) : Met l yX9_merged wsX9_merged rmX9_merged (va_Pc [.ref sa, .long x1, .long x3] (PreW G cs sz [] (fun _ => some (sa, sw, (7, s_k, s_m, s_t, s_p, s_b, s_f, s_l, s_wl, s_wf))))) (QL G res [] (va_A [] sz)) 0 0 (va_A [] sz) := by
  refine k_enter (Qf := fun A => QL G res [] A) (cc := cX9_merged) (maxL := 5) (ret := (some .long)) (plainFor_of_name (by decide)) rfl (Nat.le_of_ble_eq_true rfl) ?_
  intro p e s m args below meth c A Q ls H locs hx hb hr hml hown hts hlocks hname hK hA hRo hP hD hS hQ hl
  have hl : lv_has ls 5 [(0, .ref sa), (1, .long x1), (3, .long x3)] := hl
  have hT : va_P G vwCl [(sa, .inr (7, [.int s_k, .int s_m]))] s.heap ∧ ¬ A sa := ⟨(hRo 0 _ rfl).1, (hRo 0 _ rfl).2.1⟩
  have wd1 := hts (.fieldLink RX9 9 "SumSmith$Twofold" "modulus" "I") (List.mem_of_getElem? (i := 1) rfl)
  have hinX9 : ∀ w ∈ wsX90, w ∈ wsX9_merged := fun w h => List.mem_cons_of_mem _ (List.mem_append_right _ h)
  unfold M_X9_merged at hm
  refine lv_lload_n hx hb dX9_merged_0 rfl (lv_at hl 1 rfl) ?_
  refine k_calll0 (va_runS (As := [.long x1]) (rest := []) ⟨hx, hb, hml, hown, hts⟩ (c_X9_partA l G cs H.size    x1 _ rfl) (va_cwS 1 hts gX9_merged_X9_partA rfl rfl rfl hd_X9_partA ⟨Nat.le_of_ble_eq_true rfl, Nat.le_of_ble_eq_true rfl⟩) ⟨pre_blind, pre_w hK RO.nil P0 D0 (va_new0 hS hA)⟩ rfl rfl hl.1 rfl (lv_room (Nat.le_of_ble_eq_true rfl)) dX9_merged_1 ⟨Nat.zero_le _, Nat.zero_le _⟩) hP hS hA (fun H locs hP hS => ?_)
  refine lv_lload_n hx hb dX9_merged_4 rfl (lv_at hl 2 rfl) ?_
  refine k_calll0 (va_runS (As := [.long x3]) (rest := [.long (M_X9_partA x1)]) ⟨hx, hb, hml, hown, hts⟩ (c_X9_partA l G cs H.size    x3 _ rfl) (va_cwS 1 hts gX9_merged_X9_partA rfl rfl rfl hd_X9_partA ⟨Nat.le_of_ble_eq_true rfl, Nat.le_of_ble_eq_true rfl⟩) ⟨pre_blind, pre_w hK RO.nil P0 D0 (va_new0 hS hA)⟩ rfl rfl hl.1 rfl (lv_room (Nat.le_of_ble_eq_true rfl)) dX9_merged_5 ⟨Nat.zero_le _, Nat.zero_le _⟩) hP hS hA (fun H locs hP hS => ?_)
  refine lv_ladd hx hb dX9_merged_8 ?_
  refine lv_aload_n hx hb dX9_merged_9 rfl (lv_at hl 0 rfl) ?_
  refine va_get (D := G) (ci := 7) (v := .int s_m) (C := RX9) (T := TX9) (N := 2) hx hb hts hinX9 hown hK.1 (roP hS hT.1 hT.2) 0 rfl rfl 1 (by decide) wd1 (fun _ h9 => h9) rfl dX9_merged_10 ?_
  refine lv_i2l (v := s_m.toInt64) hx hb dX9_merged_13 rfl ?_
  obtain ⟨h1, hm⟩ := g_in hm
  refine lv_lrem hx hb dX9_merged_14 h1 ?_
  refine lv_lload_n hx hb dX9_merged_15 rfl (lv_at hl 1 rfl) ?_
  refine k_calll0 (va_runS (As := [.long x1]) (rest := [.long (((M_X9_partA x1) + (M_X9_partA x3)) - ((M_X9_partA x1) + (M_X9_partA x3)) / s_m.toInt64 * s_m.toInt64)]) ⟨hx, hb, hml, hown, hts⟩ (c_X9_partB l G cs H.size    x1 _ rfl) (va_cwS 1 hts gX9_merged_X9_partB rfl rfl rfl hd_X9_partB ⟨Nat.le_of_ble_eq_true rfl, Nat.le_of_ble_eq_true rfl⟩) ⟨pre_blind, pre_w hK RO.nil P0 D0 (va_new0 hS hA)⟩ rfl rfl hl.1 rfl (lv_room (Nat.le_of_ble_eq_true rfl)) dX9_merged_16 ⟨Nat.zero_le _, Nat.zero_le _⟩) hP hS hA (fun H locs hP hS => ?_)
  refine lv_lload_n hx hb dX9_merged_19 rfl (lv_at hl 2 rfl) ?_
  refine k_calll0 (va_runS (As := [.long x3]) (rest := [.long (M_X9_partB x1), .long (((M_X9_partA x1) + (M_X9_partA x3)) - ((M_X9_partA x1) + (M_X9_partA x3)) / s_m.toInt64 * s_m.toInt64)]) ⟨hx, hb, hml, hown, hts⟩ (c_X9_partB l G cs H.size    x3 _ rfl) (va_cwS 1 hts gX9_merged_X9_partB rfl rfl rfl hd_X9_partB ⟨Nat.le_of_ble_eq_true rfl, Nat.le_of_ble_eq_true rfl⟩) ⟨pre_blind, pre_w hK RO.nil P0 D0 (va_new0 hS hA)⟩ rfl rfl hl.1 rfl (lv_room (Nat.le_of_ble_eq_true rfl)) dX9_merged_20 ⟨Nat.zero_le _, Nat.zero_le _⟩) hP hS hA (fun H locs hP hS => ?_)
  refine lv_ladd hx hb dX9_merged_23 ?_
  refine lv_aload_n hx hb dX9_merged_24 rfl (lv_at hl 0 rfl) ?_
  refine va_get (D := G) (ci := 7) (v := .int s_m) (C := RX9) (T := TX9) (N := 2) hx hb hts hinX9 hown hK.1 (roP hS hT.1 hT.2) 0 rfl rfl 1 (by decide) wd1 (fun _ h9 => h9) rfl dX9_merged_25 ?_
  refine lv_i2l (v := s_m.toInt64) hx hb dX9_merged_28 rfl ?_
  obtain ⟨h2, hm⟩ := g_in hm
  refine lv_lrem hx hb dX9_merged_29 h2 ?_
  refine k_calll0 (va_runS (As := [.long (((M_X9_partA x1) + (M_X9_partA x3)) - ((M_X9_partA x1) + (M_X9_partA x3)) / s_m.toInt64 * s_m.toInt64), .long (((M_X9_partB x1) + (M_X9_partB x3)) - ((M_X9_partB x1) + (M_X9_partB x3)) / s_m.toInt64 * s_m.toInt64)]) (rest := []) ⟨hx, hb, hml, hown, hts⟩ (c_X9_packed l G cs H.size    (((M_X9_partA x1) + (M_X9_partA x3)) - ((M_X9_partA x1) + (M_X9_partA x3)) / s_m.toInt64 * s_m.toInt64) (((M_X9_partB x1) + (M_X9_partB x3)) - ((M_X9_partB x1) + (M_X9_partB x3)) / s_m.toInt64 * s_m.toInt64) _ rfl) (va_cwS 2 hts gX9_merged_X9_packed rfl rfl rfl hd_X9_packed ⟨Nat.le_of_ble_eq_true rfl, Nat.le_of_ble_eq_true rfl⟩) ⟨pre_blind, pre_w hK RO.nil P0 D0 (va_new0 hS hA)⟩ rfl rfl hl.1 rfl (lv_room (Nat.le_of_ble_eq_true rfl)) dX9_merged_30 ⟨Nat.zero_le _, Nat.zero_le _⟩) hP hS hA (fun H locs hP hS => ?_)
  have hq := Option.some.inj hm
  subst hq; subst hQ
  exact k_lret hx hb hr hlocks hP hD hS rfl dX9_merged_33

theorem hd_X9_changed : yX9_changed.cls ≠ "java/lang/invoke/MethodHandle" ∧ yX9_changed.cls ≠ "java/lang/invoke/VarHandle" ∧ (parseMethodDescriptor yX9_changed.desc).map (fun d => d.parameters.length) = some 4 := by decide +kernel

def M_X9_changed (x1 : Int32) (x2 : Int32) (x3 : Int32) (x4 : Int32) (s_m : Int32) : Option Int64 :=
  (M_J9_floorMod_f86c9 ((x4 - x3).toInt64) s_m.toInt64).bind fun r1 => (M_J9_floorMod_f86c9 (((x1 - x2).toInt64) * ((x4 - x3).toInt64)) s_m.toInt64).bind fun r2 => some (M_X9_packed r1 r2)

abbrev rmX9_changed : Room := { frames := 1, cells := 0, slots := 0, locals := 25 }
set_option maxHeartbeats 4000000 in
set_option maxRecDepth 100000 in
theorem c_X9_changed (l : Launch) (G : va_G) (cs : CS) (sz : Nat)   (sa sw : Nat) (s_k : Int32) (s_m : Int32) (s_t : Int32) (s_p : Int64) (s_b : Int64) (s_f : Int64) (s_l : Int32) (s_wl : Nat) (s_wf : (Nat → Int32)) (x1 : Int32) (x2 : Int32) (x3 : Int32) (x4 : Int32) (res : Int64) (hm : M_X9_changed x1 x2 x3 x4 s_m = some res) : Met l yX9_changed wsX9_changed rmX9_changed (va_Pc [.ref sa, .int x1, .int x2, .int x3, .int x4] (PreW G cs sz [] (fun _ => some (sa, sw, (7, s_k, s_m, s_t, s_p, s_b, s_f, s_l, s_wl, s_wf))))) (QL G res [] (va_A [] sz)) 0 0 (va_A [] sz) := by
  refine k_enter (Qf := fun A => QL G res [] A) (cc := cX9_changed) (maxL := 7) (ret := (some .long)) (plainFor_of_name (by decide)) rfl (Nat.le_of_ble_eq_true rfl) ?_
  intro p e s m args below meth c A Q ls H locs hx hb hr hml hown hts hlocks hname hK hA hRo hP hD hS hQ hl
  have hl : lv_has ls 7 [(0, .ref sa), (1, .int x1), (2, .int x2), (3, .int x3), (4, .int x4)] := hl
  have hT : va_P G vwCl [(sa, .inr (7, [.int s_k, .int s_m]))] s.heap ∧ ¬ A sa := ⟨(hRo 0 _ rfl).1, (hRo 0 _ rfl).2.1⟩
  have wd1 := hts (.fieldLink RX9 9 "SumSmith$Twofold" "modulus" "I") (List.mem_of_getElem? (i := 1) rfl)
  have hinX9 : ∀ w ∈ wsX90, w ∈ wsX9_changed := fun w h => List.mem_cons_of_mem _ (List.mem_append_right _ h)
  unfold M_X9_changed at hm
  refine lv_iload hx hb dX9_changed_0 (lv_at hl 4 rfl) ?_
  refine lv_iload_n hx hb dX9_changed_2 rfl (lv_at hl 3 rfl) ?_
  refine lv_isub hx hb dX9_changed_3 ?_
  refine lv_i2l (v := (x4 - x3).toInt64) hx hb dX9_changed_4 rfl ?_
  refine lv_lstore (lv' := [(5, .long ((x4 - x3).toInt64)), (0, .ref sa), (1, .int x1), (2, .int x2), (3, .int x3), (4, .int x4)]) hx hb dX9_changed_5 hl (by decide) rfl (fun ls hl => ?_)
  refine lv_lload hx hb dX9_changed_7 (lv_at hl 0 rfl) ?_
  refine lv_aload_n hx hb dX9_changed_9 rfl (lv_at hl 1 rfl) ?_
  refine va_get (D := G) (ci := 7) (v := .int s_m) (C := RX9) (T := TX9) (N := 2) hx hb hts hinX9 hown hK.1 (roP hS hT.1 hT.2) 0 rfl rfl 1 (by decide) wd1 (fun _ h9 => h9) rfl dX9_changed_10 ?_
  refine lv_i2l (v := s_m.toInt64) hx hb dX9_changed_13 rfl ?_
  obtain ⟨r1, hc_r1, hm⟩ := bs hm
  refine k_calll0 (va_runS (As := [.long ((x4 - x3).toInt64), .long s_m.toInt64]) (rest := []) ⟨hx, hb, hml, hown, hts⟩ (c_J9_floorMod_f86c9 l G cs H.size    ((x4 - x3).toInt64) s_m.toInt64 r1 hc_r1) (va_cwS 2 hts gX9_changed_J9_floorMod_f86c9 rfl rfl rfl hd_J9_floorMod_f86c9 ⟨Nat.le_of_ble_eq_true rfl, Nat.le_of_ble_eq_true rfl⟩) ⟨pre_blind, pre_w hK RO.nil P0 D0 (va_new0 hS hA)⟩ rfl rfl hl.1 rfl (lv_room (Nat.le_of_ble_eq_true rfl)) dX9_changed_14 ⟨Nat.zero_le _, Nat.zero_le _⟩) hP hS hA (fun H locs hP hS => ?_)
  refine lv_iload_n hx hb dX9_changed_17 rfl (lv_at hl 2 rfl) ?_
  refine lv_iload_n hx hb dX9_changed_18 rfl (lv_at hl 3 rfl) ?_
  refine lv_isub hx hb dX9_changed_19 ?_
  refine lv_i2l (v := (x1 - x2).toInt64) hx hb dX9_changed_20 rfl ?_
  refine lv_lload hx hb dX9_changed_21 (lv_at hl 0 rfl) ?_
  refine lv_lmul hx hb dX9_changed_23 ?_
  refine lv_aload_n hx hb dX9_changed_24 rfl (lv_at hl 1 rfl) ?_
  refine va_get (D := G) (ci := 7) (v := .int s_m) (C := RX9) (T := TX9) (N := 2) hx hb hts hinX9 hown hK.1 (roP hS hT.1 hT.2) 0 rfl rfl 1 (by decide) wd1 (fun _ h9 => h9) rfl dX9_changed_25 ?_
  refine lv_i2l (v := s_m.toInt64) hx hb dX9_changed_28 rfl ?_
  obtain ⟨r2, hc_r2, hm⟩ := bs hm
  refine k_calll0 (va_runS (As := [.long (((x1 - x2).toInt64) * ((x4 - x3).toInt64)), .long s_m.toInt64]) (rest := [.long r1]) ⟨hx, hb, hml, hown, hts⟩ (c_J9_floorMod_f86c9 l G cs H.size    (((x1 - x2).toInt64) * ((x4 - x3).toInt64)) s_m.toInt64 r2 hc_r2) (va_cwS 2 hts gX9_changed_J9_floorMod_f86c9 rfl rfl rfl hd_J9_floorMod_f86c9 ⟨Nat.le_of_ble_eq_true rfl, Nat.le_of_ble_eq_true rfl⟩) ⟨pre_blind, pre_w hK RO.nil P0 D0 (va_new0 hS hA)⟩ rfl rfl hl.1 rfl (lv_room (Nat.le_of_ble_eq_true rfl)) dX9_changed_29 ⟨Nat.zero_le _, Nat.zero_le _⟩) hP hS hA (fun H locs hP hS => ?_)
  refine k_calll0 (va_runS (As := [.long r1, .long r2]) (rest := []) ⟨hx, hb, hml, hown, hts⟩ (c_X9_packed l G cs H.size    r1 r2 _ rfl) (va_cwS 2 hts gX9_changed_X9_packed rfl rfl rfl hd_X9_packed ⟨Nat.le_of_ble_eq_true rfl, Nat.le_of_ble_eq_true rfl⟩) ⟨pre_blind, pre_w hK RO.nil P0 D0 (va_new0 hS hA)⟩ rfl rfl hl.1 rfl (lv_room (Nat.le_of_ble_eq_true rfl)) dX9_changed_32 ⟨Nat.zero_le _, Nat.zero_le _⟩) hP hS hA (fun H locs hP hS => ?_)
  have hq := Option.some.inj hm
  subst hq; subst hQ
  exact k_lret hx hb hr hlocks hP hD hS rfl dX9_changed_35

theorem hd_X9_carried : yX9_carried.cls ≠ "java/lang/invoke/MethodHandle" ∧ yX9_carried.cls ≠ "java/lang/invoke/VarHandle" ∧ (parseMethodDescriptor yX9_carried.desc).map (fun d => d.parameters.length) = some 2 := by decide +kernel

def M_X9_carried (x1 : Int64) (x3 : Int32) (s_m : Int32) : Option Int64 :=
  if s_m.toInt64 = 0 then none else some (M_X9_packed (M_X9_partA x1) (((M_X9_partB x1) + (x3.toInt64 * (M_X9_partA x1))) - ((M_X9_partB x1) + (x3.toInt64 * (M_X9_partA x1))) / s_m.toInt64 * s_m.toInt64))

abbrev rmX9_carried : Room := { frames := 1, cells := 0, slots := 0, locals := 23 }
set_option maxHeartbeats 4000000 in
set_option maxRecDepth 100000 in
theorem c_X9_carried (l : Launch) (G : va_G) (cs : CS) (sz : Nat)   (sa sw : Nat) (s_k : Int32) (s_m : Int32) (s_t : Int32) (s_p : Int64) (s_b : Int64) (s_f : Int64) (s_l : Int32) (s_wl : Nat) (s_wf : (Nat → Int32)) (x1 : Int64) (x3 : Int32) (res : Int64) (hm : M_X9_carried x1 x3 s_m = some res) : Met l yX9_carried wsX9_carried rmX9_carried (va_Pc [.ref sa, .long x1, .int x3] (PreW G cs sz [] (fun _ => some (sa, sw, (7, s_k, s_m, s_t, s_p, s_b, s_f, s_l, s_wl, s_wf))))) (QL G res [] (va_A [] sz)) 0 0 (va_A [] sz) := by
  refine k_enter (Qf := fun A => QL G res [] A) (cc := cX9_carried) (maxL := 4) (ret := (some .long)) (plainFor_of_name (by decide)) rfl (Nat.le_of_ble_eq_true rfl) ?_
  intro p e s m args below meth c A Q ls H locs hx hb hr hml hown hts hlocks hname hK hA hRo hP hD hS hQ hl
  have hl : lv_has ls 4 [(0, .ref sa), (1, .long x1), (3, .int x3)] := hl
  have hT : va_P G vwCl [(sa, .inr (7, [.int s_k, .int s_m]))] s.heap ∧ ¬ A sa := ⟨(hRo 0 _ rfl).1, (hRo 0 _ rfl).2.1⟩
  have wd1 := hts (.fieldLink RX9 9 "SumSmith$Twofold" "modulus" "I") (List.mem_of_getElem? (i := 1) rfl)
  have hinX9 : ∀ w ∈ wsX90, w ∈ wsX9_carried := fun w h => List.mem_cons_of_mem _ (List.mem_append_right _ h)
  unfold M_X9_carried at hm
  refine lv_lload_n hx hb dX9_carried_0 rfl (lv_at hl 1 rfl) ?_
  refine k_calll0 (va_runS (As := [.long x1]) (rest := []) ⟨hx, hb, hml, hown, hts⟩ (c_X9_partA l G cs H.size    x1 _ rfl) (va_cwS 1 hts gX9_carried_X9_partA rfl rfl rfl hd_X9_partA ⟨Nat.le_of_ble_eq_true rfl, Nat.le_of_ble_eq_true rfl⟩) ⟨pre_blind, pre_w hK RO.nil P0 D0 (va_new0 hS hA)⟩ rfl rfl hl.1 rfl (lv_room (Nat.le_of_ble_eq_true rfl)) dX9_carried_1 ⟨Nat.zero_le _, Nat.zero_le _⟩) hP hS hA (fun H locs hP hS => ?_)
  refine lv_lload_n hx hb dX9_carried_4 rfl (lv_at hl 1 rfl) ?_
  refine k_calll0 (va_runS (As := [.long x1]) (rest := [.long (M_X9_partA x1)]) ⟨hx, hb, hml, hown, hts⟩ (c_X9_partB l G cs H.size    x1 _ rfl) (va_cwS 1 hts gX9_carried_X9_partB rfl rfl rfl hd_X9_partB ⟨Nat.le_of_ble_eq_true rfl, Nat.le_of_ble_eq_true rfl⟩) ⟨pre_blind, pre_w hK RO.nil P0 D0 (va_new0 hS hA)⟩ rfl rfl hl.1 rfl (lv_room (Nat.le_of_ble_eq_true rfl)) dX9_carried_5 ⟨Nat.zero_le _, Nat.zero_le _⟩) hP hS hA (fun H locs hP hS => ?_)
  refine lv_iload_n hx hb dX9_carried_8 rfl (lv_at hl 2 rfl) ?_
  refine lv_i2l (v := x3.toInt64) hx hb dX9_carried_9 rfl ?_
  refine lv_lload_n hx hb dX9_carried_10 rfl (lv_at hl 1 rfl) ?_
  refine k_calll0 (va_runS (As := [.long x1]) (rest := [.long x3.toInt64, .long (M_X9_partB x1), .long (M_X9_partA x1)]) ⟨hx, hb, hml, hown, hts⟩ (c_X9_partA l G cs H.size    x1 _ rfl) (va_cwS 1 hts gX9_carried_X9_partA rfl rfl rfl hd_X9_partA ⟨Nat.le_of_ble_eq_true rfl, Nat.le_of_ble_eq_true rfl⟩) ⟨pre_blind, pre_w hK RO.nil P0 D0 (va_new0 hS hA)⟩ rfl rfl hl.1 rfl (lv_room (Nat.le_of_ble_eq_true rfl)) dX9_carried_11 ⟨Nat.zero_le _, Nat.zero_le _⟩) hP hS hA (fun H locs hP hS => ?_)
  refine lv_lmul hx hb dX9_carried_14 ?_
  refine lv_ladd hx hb dX9_carried_15 ?_
  refine lv_aload_n hx hb dX9_carried_16 rfl (lv_at hl 0 rfl) ?_
  refine va_get (D := G) (ci := 7) (v := .int s_m) (C := RX9) (T := TX9) (N := 2) hx hb hts hinX9 hown hK.1 (roP hS hT.1 hT.2) 0 rfl rfl 1 (by decide) wd1 (fun _ h9 => h9) rfl dX9_carried_17 ?_
  refine lv_i2l (v := s_m.toInt64) hx hb dX9_carried_20 rfl ?_
  obtain ⟨h1, hm⟩ := g_in hm
  refine lv_lrem hx hb dX9_carried_21 h1 ?_
  refine k_calll0 (va_runS (As := [.long (M_X9_partA x1), .long (((M_X9_partB x1) + (x3.toInt64 * (M_X9_partA x1))) - ((M_X9_partB x1) + (x3.toInt64 * (M_X9_partA x1))) / s_m.toInt64 * s_m.toInt64)]) (rest := []) ⟨hx, hb, hml, hown, hts⟩ (c_X9_packed l G cs H.size    (M_X9_partA x1) (((M_X9_partB x1) + (x3.toInt64 * (M_X9_partA x1))) - ((M_X9_partB x1) + (x3.toInt64 * (M_X9_partA x1))) / s_m.toInt64 * s_m.toInt64) _ rfl) (va_cwS 2 hts gX9_carried_X9_packed rfl rfl rfl hd_X9_packed ⟨Nat.le_of_ble_eq_true rfl, Nat.le_of_ble_eq_true rfl⟩) ⟨pre_blind, pre_w hK RO.nil P0 D0 (va_new0 hS hA)⟩ rfl rfl hl.1 rfl (lv_room (Nat.le_of_ble_eq_true rfl)) dX9_carried_22 ⟨Nat.zero_le _, Nat.zero_le _⟩) hP hS hA (fun H locs hP hS => ?_)
  have hq := Option.some.inj hm
  subst hq; subst hQ
  exact k_lret hx hb hr hlocks hP hD hS rfl dX9_carried_25

theorem hd_X8_carried : yX8_carried.cls ≠ "java/lang/invoke/MethodHandle" ∧ yX8_carried.cls ≠ "java/lang/invoke/VarHandle" ∧ (parseMethodDescriptor yX8_carried.desc).map (fun d => d.parameters.length) = some 2 := by decide +kernel

def M_X8_carried (x1 : Int64) (x3 : Int32) (s_m : Int32) (s_t : Int32) : Option Int64 :=
  if s_m = 0 then none else some (((x1 <<< (((s_t * x3) - (s_t * x3) / s_m * s_m).toInt64 &&& 63)) ||| ((x1.toUInt64 >>> ((s_m - ((s_t * x3) - (s_t * x3) / s_m * s_m)).toInt64.toUInt64 &&& Int64.toUInt64 63)).toInt64)) &&& (M_X11_maskOf s_m))

abbrev rmX8_carried : Room := { frames := 1, cells := 0, slots := 0, locals := 20 }
set_option maxHeartbeats 4000000 in
set_option maxRecDepth 100000 in
theorem c_X8_carried (l : Launch) (G : va_G) (cs : CS) (sz : Nat)   (sa sw : Nat) (s_k : Int32) (s_m : Int32) (s_t : Int32) (s_p : Int64) (s_b : Int64) (s_f : Int64) (s_l : Int32) (s_wl : Nat) (s_wf : (Nat → Int32)) (x1 : Int64) (x3 : Int32) (res : Int64) (hm : M_X8_carried x1 x3 s_m s_t = some res) : Met l yX8_carried wsX8_carried rmX8_carried (va_Pc [.ref sa, .long x1, .int x3] (PreW G cs sz [] (fun _ => some (sa, sw, (6, s_k, s_m, s_t, s_p, s_b, s_f, s_l, s_wl, s_wf))))) (QL G res [] (va_A [] sz)) 0 0 (va_A [] sz) := by
  refine k_enter (Qf := fun A => QL G res [] A) (cc := cX8_carried) (maxL := 5) (ret := (some .long)) (plainFor_of_name (by decide)) rfl (Nat.le_of_ble_eq_true rfl) ?_
  intro p e s m args below meth c A Q ls H locs hx hb hr hml hown hts hlocks hname hK hA hRo hP hD hS hQ hl
  have hl : lv_has ls 5 [(0, .ref sa), (1, .long x1), (3, .int x3)] := hl
  have hT : va_P G vwCl [(sa, .inr (6, [.int s_k, .int s_m, .int s_t]))] s.heap ∧ ¬ A sa := ⟨(hRo 0 _ rfl).1, (hRo 0 _ rfl).2.1⟩
  have wd1 := hts (.fieldLink RX8 15 "SumSmith$Turning" "turn" "I") (List.mem_of_getElem? (i := 1) rfl)
  have wd2 := hts (.fieldLink RX8 9 "SumSmith$Turning" "width" "I") (List.mem_of_getElem? (i := 2) rfl)
  have wd4 := hts (.initialized RX11) (List.mem_of_getElem? (i := 4) rfl)
  have wd3 := hts (.static yX11_maskOf) (List.mem_of_getElem? (i := 3) rfl)
  have hinX8 : ∀ w ∈ wsX80, w ∈ wsX8_carried := fun w h => List.mem_cons_of_mem _ (List.mem_append_right _ h)
  unfold M_X8_carried at hm
  refine lv_aload_n hx hb dX8_carried_0 rfl (lv_at hl 0 rfl) ?_
  refine va_get (D := G) (ci := 6) (v := .int s_t) (C := RX8) (T := TX8) (N := 3) hx hb hts hinX8 hown hK.1 (roP hS hT.1 hT.2) 0 rfl rfl 2 (by decide) wd1 (fun _ h9 => h9) rfl dX8_carried_1 ?_
  refine lv_iload_n hx hb dX8_carried_4 rfl (lv_at hl 2 rfl) ?_
  refine lv_imul hx hb dX8_carried_5 ?_
  refine lv_aload_n hx hb dX8_carried_6 rfl (lv_at hl 0 rfl) ?_
  refine va_get (D := G) (ci := 6) (v := .int s_m) (C := RX8) (T := TX8) (N := 3) hx hb hts hinX8 hown hK.1 (roP hS hT.1 hT.2) 0 rfl rfl 1 (by decide) wd2 (fun _ h9 => h9) rfl dX8_carried_7 ?_
  obtain ⟨h1, hm⟩ := g_in hm
  refine lv_irem hx hb dX8_carried_10 h1 ?_
  refine lv_istore (lv' := [(4, .int ((s_t * x3) - (s_t * x3) / s_m * s_m)), (0, .ref sa), (1, .long x1), (3, .int x3)]) hx hb dX8_carried_11 hl (by decide) rfl (fun ls hl => ?_)
  refine lv_lload_n hx hb dX8_carried_13 rfl (lv_at hl 2 rfl) ?_
  refine lv_iload hx hb dX8_carried_14 (lv_at hl 0 rfl) ?_
  refine lv_lshl (v := x1 <<< (((s_t * x3) - (s_t * x3) / s_m * s_m).toInt64 &&& 63)) hx hb dX8_carried_16 rfl ?_
  refine lv_lload_n hx hb dX8_carried_17 rfl (lv_at hl 2 rfl) ?_
  refine lv_aload_n hx hb dX8_carried_18 rfl (lv_at hl 1 rfl) ?_
  refine va_get (D := G) (ci := 6) (v := .int s_m) (C := RX8) (T := TX8) (N := 3) hx hb hts hinX8 hown hK.1 (roP hS hT.1 hT.2) 0 rfl rfl 1 (by decide) wd2 (fun _ h9 => h9) rfl dX8_carried_19 ?_
  refine lv_iload hx hb dX8_carried_22 (lv_at hl 0 rfl) ?_
  refine lv_isub hx hb dX8_carried_24 ?_
  refine lv_lushr (v := (x1.toUInt64 >>> ((s_m - ((s_t * x3) - (s_t * x3) / s_m * s_m)).toInt64.toUInt64 &&& Int64.toUInt64 63)).toInt64) hx hb dX8_carried_25 rfl ?_
  refine lv_lor hx hb dX8_carried_26 ?_
  refine lv_aload_n hx hb dX8_carried_27 rfl (lv_at hl 1 rfl) ?_
  refine va_get (D := G) (ci := 6) (v := .int s_m) (C := RX8) (T := TX8) (N := 3) hx hb hts hinX8 hown hK.1 (roP hS hT.1 hT.2) 0 rfl rfl 1 (by decide) wd2 (fun _ h9 => h9) rfl dX8_carried_28 ?_
  refine k_calll0 (va_runSN (As := [.int s_m]) (rest := [.long ((x1 <<< (((s_t * x3) - (s_t * x3) / s_m * s_m).toInt64 &&& 63)) ||| ((x1.toUInt64 >>> ((s_m - ((s_t * x3) - (s_t * x3) / s_m * s_m)).toInt64.toUInt64 &&& Int64.toUInt64 63)).toInt64))]) ⟨hx, hb, hml, hown, hts⟩ (c_X11_maskOf l G cs H.size    s_m _ rfl) ⟨va_cnB 1 hts gX8_carried_X11_maskOf_n26 rfl rfl rfl (hK.2.1 _ (List.mem_of_getElem? (i := 5) rfl)) wd4 hd_X11_maskOf ⟨Nat.le_of_ble_eq_true rfl, Nat.le_of_ble_eq_true rfl⟩, wd3, trivial⟩ ⟨pre_blind, pre_w hK RO.nil P0 D0 (va_new0 hS hA)⟩ rfl rfl hl.1 rfl (lv_room (Nat.le_of_ble_eq_true rfl)) dX8_carried_31 ⟨Nat.zero_le _, Nat.zero_le _⟩) hP hS hA (fun H locs hP hS => ?_)
  refine lv_land hx hb dX8_carried_34 ?_
  have hq := Option.some.inj hm
  subst hq; subst hQ
  exact k_lret hx hb hr hlocks hP hD hS rfl dX8_carried_35

theorem hd_X8_ofRow : yX8_ofRow.cls ≠ "java/lang/invoke/MethodHandle" ∧ yX8_ofRow.cls ≠ "java/lang/invoke/VarHandle" ∧ (parseMethodDescriptor yX8_ofRow.desc).map (fun d => d.parameters.length) = some 2 := by decide +kernel

def M_X8_ofRow_b5 (n : Nat) (x2 : Int32) (v_p1 : (Nat → Int32)) (n1 : Nat) (s_m : Int32) (s_t : Int32) (x3 : Int64) (x5 : Int32) : Option ((Int64 × Int32) ⊕ Int64) :=
  if x2 ≤ x5 then (some (.inr x3)) else ((M_X8_carried x3 (1 : Int32) s_m s_t).bind fun r2 => if x5 < 0 ∨ n1 ≤ x5.toNatClampNeg then none else some (.inl (r2 ^^^ ((v_p1 x5.toNatClampNeg).toInt64), x5 + 1)))

def M_X8_ofRow (n : Nat) (x2 : Int32) (v_p1 : (Nat → Int32)) (n1 : Nat) (s_m : Int32) (s_t : Int32) : Option Int64 :=
  (lp (fun x : (Int64 × Int32) => M_X8_ofRow_b5 n x2 v_p1 n1 s_m s_t x.1 x.2) n ((0 : Int64), (0 : Int32))).bind fun o4 => some o4

abbrev ww_X8_ofRow (cs : CS) (v_p1 : (Nat → Int32)) (a1 : Nat) (n1 : Nat) : va_W := [(a1, .inl (cs.1, n1, .inl v_p1))]

abbrev rmX8_ofRow : Room := { frames := 2, cells := 0, slots := 0, locals := 44 }
set_option maxHeartbeats 4000000 in
set_option maxRecDepth 100000 in
theorem c_X8_ofRow (l : Launch) (G : va_G) (cs : CS) (sz : Nat) (v_p1 : (Nat → Int32)) (a1 : Nat) (sa sw : Nat) (n1 : Nat) (s_k : Int32) (s_m : Int32) (s_t : Int32) (s_p : Int64) (s_b : Int64) (s_f : Int64) (s_l : Int32) (s_wl : Nat) (s_wf : (Nat → Int32)) (x2 : Int32) (n : Nat) (res : Int64) (hm : M_X8_ofRow n x2 v_p1 n1 s_m s_t = some res) : Met l yX8_ofRow wsX8_ofRow rmX8_ofRow (va_Pc [.ref sa, .ref a1, .int x2] (PreW G cs sz (ww_X8_ofRow cs v_p1 a1 n1) (fun _ => some (sa, sw, (6, s_k, s_m, s_t, s_p, s_b, s_f, s_l, s_wl, s_wf))))) (QL G res (ww_X8_ofRow cs v_p1 a1 n1) (va_A (ww_X8_ofRow cs v_p1 a1 n1) sz)) 0 0 (va_A (ww_X8_ofRow cs v_p1 a1 n1) sz) := by
  refine k_enter (Qf := fun A => QL G res (ww_X8_ofRow cs v_p1 a1 n1) A) (cc := cX8_ofRow) (maxL := 6) (ret := (some .long)) (plainFor_of_name (by decide)) rfl (Nat.le_of_ble_eq_true rfl) ?_
  intro p e s m args below meth c A Q ls H locs hx hb hr hml hown hts hlocks hname hK hA hRo hP hD hS hQ hl
  have hl : lv_has ls 6 [(0, .ref sa), (1, .ref a1), (2, .int x2)] := hl
  have hT : va_P G vwCl [(sa, .inr (6, [.int s_k, .int s_m, .int s_t]))] s.heap ∧ ¬ A sa := ⟨(hRo 0 _ rfl).1, (hRo 0 _ rfl).2.1⟩
  have L5 : ∀ (x2 : Int32) (x3 : Int64) (x5 : Int32) (out : Int64), lp (fun x : (Int64 × Int32) => M_X8_ofRow_b5 n x2 v_p1 n1 s_m s_t x.1 x.2) n (x3, x5) = some out → (∀ (o : Int64), out = o → ∀ (H : Heap) (locs : List Loc), va_P G vwCl (ww_X8_ofRow cs v_p1 a1 n1) H → va_D A (ww_X8_ofRow cs v_p1 a1 n1) → va_S A s.heap H locs → ∀ (ls : Array Slot), lv_has ls 6 [(3, .long o)] → W p l e rmX8_ofRow s m args below meth c H locs 0 0 Q (F0 m 30 ls [])) → ∀ (H : Heap) (locs : List Loc), va_P G vwCl (ww_X8_ofRow cs v_p1 a1 n1) H → va_D A (ww_X8_ofRow cs v_p1 a1 n1) → va_S A s.heap H locs → ∀ (ls : Array Slot), lv_has ls 6 [(0, .ref sa), (1, .ref a1), (2, .int x2), (3, .long x3), (5, .int x5)] → W p l e rmX8_ofRow s m args below meth c H locs 0 0 Q (F0 m 5 ls []) := by
    intro x2 x3 x5 out hlp hX
    refine lp_ind (fun x => ∀ (H : Heap) (locs : List Loc), va_P G vwCl (ww_X8_ofRow cs v_p1 a1 n1) H → va_D A (ww_X8_ofRow cs v_p1 a1 n1) → va_S A s.heap H locs → ∀ (ls : Array Slot), lv_has ls 6 [(0, .ref sa), (1, .ref a1), (2, .int x2), (3, .long x.1), (5, .int x.2)] → W p l e rmX8_ofRow s m args below meth c H locs 0 0 Q (F0 m 5 ls [])) ?_ n (x3, x5) hlp
    clear hlp hP hD hS hl
    rintro ⟨x3, x5⟩ ob hm hst H locs hP hD hS ls hl
    have hm : M_X8_ofRow_b5 n x2 v_p1 n1 s_m s_t x3 x5 = some ob := hm
    have hl : lv_has ls 6 [(0, .ref sa), (1, .ref a1), (2, .int x2), (3, .long x3), (5, .int x5)] := hl
    have hP : va_P G vwCl (ww_X8_ofRow cs v_p1 a1 n1) H := hP
    have hD : va_D A (ww_X8_ofRow cs v_p1 a1 n1) := hD
    unfold M_X8_ofRow_b5 at hm
    refine lv_iload hx hb dX8_ofRow_5 (lv_at hl 4 rfl) ?_
    refine lv_iload_n hx hb dX8_ofRow_7 rfl (lv_at hl 2 rfl) ?_
    refine lv_icmp_ge (tgt := 30) hx hb dX8_ofRow_8 (by decide) (fun b1 => ?_) (fun b1 => ?_)
    · have hm := i_t b1 hm
      exact hX _ (st_exit hm hst) H locs hP hD hS ls (lv_sub hl [3] rfl)
    · have hm := i_f b1 hm
      refine lv_aload_n hx hb dX8_ofRow_11 rfl (lv_at hl 0 rfl) ?_
      refine lv_lload_n hx hb dX8_ofRow_12 rfl (lv_at hl 3 rfl) ?_
      refine lv_iconst (v := 1) hx hb dX8_ofRow_13 (by decide) ?_
      obtain ⟨r2, hc_r2, hm⟩ := bs hm
      refine k_calll0 (va_runV (As := [.long x3, .int 1]) (rest := []) ⟨hx, hb, hml, hown, hts⟩ (c_X8_carried l G cs H.size   sa sw s_k s_m s_t s_p s_b s_f s_l s_wl s_wf x3 (1 : Int32) r2 hc_r2) (cwV 2 hts gX8_ofRow_X8_carried rfl rfl rfl ⟨rfl, hd_X8_carried⟩ ⟨Nat.le_of_ble_eq_true rfl, Nat.le_of_ble_eq_true rfl⟩) ⟨pre_blind, va_recv hK.1 (roP hS hT.1 hT.2) (ci := 6) (q0 := 0) rfl rfl, pre_w hK (RO.at hS hRo) P0 D0 (va_new0 hS hA)⟩ rfl rfl hl.1 rfl (lv_room (Nat.le_of_ble_eq_true rfl)) dX8_ofRow_14 ⟨Nat.zero_le _, Nat.zero_le _⟩) hP hS hA (fun H locs hP hS => ?_)
      refine lv_aload_n hx hb dX8_ofRow_17 rfl (lv_at hl 1 rfl) ?_
      refine lv_iload hx hb dX8_ofRow_18 (lv_at hl 4 rfl) ?_
      obtain ⟨h3, hm⟩ := g_in hm
      refine va_iald hx hb hK.1 hP 0 0 rfl rfl h3 dX8_ofRow_20 ?_
      refine lv_i2l (v := (v_p1 x5.toNatClampNeg).toInt64) hx hb dX8_ofRow_21 rfl ?_
      refine lv_lxor hx hb dX8_ofRow_22 ?_
      refine lv_lstore_n (lv' := [(3, .long (r2 ^^^ ((v_p1 x5.toNatClampNeg).toInt64))), (0, .ref sa), (1, .ref a1), (2, .int x2), (5, .int x5)]) hx hb dX8_ofRow_23 rfl hl (by decide) rfl (fun ls hl => ?_)
      refine lv_iinc (v := x5 + 1) (lv' := [(5, .int (x5 + 1)), (3, .long (r2 ^^^ ((v_p1 x5.toNatClampNeg).toInt64))), (0, .ref sa), (1, .ref a1), (2, .int x2)]) hx hb dX8_ofRow_24 hl (k := 4) rfl rfl (by decide) rfl (fun ls hl => ?_)
      refine lv_goto (tgt := 5) hx hb dX8_ofRow_27 (by decide) ?_
      exact st_next hm hst H locs hP hD hS ls (lv_sub hl [2, 3, 4, 1, 0] rfl)
  unfold M_X8_ofRow at hm
  refine lv_lconst (v := 0) hx hb dX8_ofRow_0 (by decide) ?_
  refine lv_lstore_n (lv' := [(3, .long 0), (0, .ref sa), (1, .ref a1), (2, .int x2)]) hx hb dX8_ofRow_1 rfl hl (by decide) rfl (fun ls hl => ?_)
  refine lv_iconst (v := 0) hx hb dX8_ofRow_2 (by decide) ?_
  refine lv_istore (lv' := [(5, .int 0), (3, .long 0), (0, .ref sa), (1, .ref a1), (2, .int x2)]) hx hb dX8_ofRow_3 hl (by decide) rfl (fun ls hl => ?_)
  obtain ⟨o4, hlp4, hm⟩ := bs hm
  refine L5 x2 (0 : Int64) (0 : Int32) o4 hlp4 (fun oo ho => ?_) H locs hP hD hS ls (lv_sub hl [2, 3, 4, 1, 0] rfl)
  subst ho
  intro H locs hP hD hS ls hl
  have hl : lv_has ls 6 [(3, .long o4)] := hl
  have hP : va_P G vwCl (ww_X8_ofRow cs v_p1 a1 n1) H := hP
  have hD : va_D A (ww_X8_ofRow cs v_p1 a1 n1) := hD
  refine lv_lload_n hx hb dX8_ofRow_30 rfl (lv_at hl 0 rfl) ?_
  have hq := Option.some.inj hm
  subst hq; subst hQ
  exact k_lret hx hb hr hlocks hP hD hS rfl dX8_ofRow_31

theorem hd_X8_holds : yX8_holds.cls ≠ "java/lang/invoke/MethodHandle" ∧ yX8_holds.cls ≠ "java/lang/invoke/VarHandle" ∧ (parseMethodDescriptor yX8_holds.desc).map (fun d => d.parameters.length) = some 1 := by decide +kernel

def M_X8_holds (x1 : Int64) (s_m : Int32) : Int32 :=
  (M_X11_fits x1 s_m)

abbrev rmX8_holds : Room := { frames := 2, cells := 0, slots := 0, locals := 42 }
set_option maxHeartbeats 4000000 in
set_option maxRecDepth 100000 in
theorem c_X8_holds (l : Launch) (G : va_G) (cs : CS) (sz : Nat)   (sa sw : Nat) (s_k : Int32) (s_m : Int32) (s_t : Int32) (s_p : Int64) (s_b : Int64) (s_f : Int64) (s_l : Int32) (s_wl : Nat) (s_wf : (Nat → Int32)) (x1 : Int64) (res : Int32) (hm : M_X8_holds x1 s_m = res) : Met l yX8_holds wsX8_holds rmX8_holds (va_Pc [.ref sa, .long x1] (PreW G cs sz [] (fun _ => some (sa, sw, (6, s_k, s_m, s_t, s_p, s_b, s_f, s_l, s_wl, s_wf))))) (QI G res (res = 0 ∨ res = 1) [] (va_A [] sz)) 0 0 (va_A [] sz) := by
  refine k_enter (Qf := fun A => QI G res (res = 0 ∨ res = 1) [] A) (cc := cX8_holds) (maxL := 3) (ret := (some .boolean)) (plainFor_of_name (by decide)) rfl (Nat.le_of_ble_eq_true rfl) ?_
  intro p e s m args below meth c A Q ls H locs hx hb hr hml hown hts hlocks hname hK hA hRo hP hD hS hQ hl
  have hl : lv_has ls 3 [(0, .ref sa), (1, .long x1)] := hl
  have hT : va_P G vwCl [(sa, .inr (6, [.int s_k, .int s_m, .int s_t]))] s.heap ∧ ¬ A sa := ⟨(hRo 0 _ rfl).1, (hRo 0 _ rfl).2.1⟩
  have wd1 := hts (.fieldLink RX8 9 "SumSmith$Turning" "width" "I") (List.mem_of_getElem? (i := 1) rfl)
  have wd3 := hts (.initialized RX11) (List.mem_of_getElem? (i := 3) rfl)
  have wd2 := hts (.static yX11_fits) (List.mem_of_getElem? (i := 2) rfl)
  have hinX8 : ∀ w ∈ wsX80, w ∈ wsX8_holds := fun w h => List.mem_cons_of_mem _ (List.mem_append_right _ h)
  unfold M_X8_holds at hm
  refine lv_lload_n hx hb dX8_holds_0 rfl (lv_at hl 1 rfl) ?_
  refine lv_aload_n hx hb dX8_holds_1 rfl (lv_at hl 0 rfl) ?_
  refine va_get (D := G) (ci := 6) (v := .int s_m) (C := RX8) (T := TX8) (N := 3) hx hb hts hinX8 hown hK.1 (roP hS hT.1 hT.2) 0 rfl rfl 1 (by decide) wd1 (fun _ h9 => h9) rfl dX8_holds_2 ?_
  refine k_calli0 (va_runSN (As := [.long x1, .int s_m]) (rest := []) ⟨hx, hb, hml, hown, hts⟩ (c_X11_fits l G cs H.size    x1 s_m _ rfl) ⟨va_cnB 2 hts gX8_holds_X11_fits_n22 rfl rfl rfl (hK.2.1 _ (List.mem_of_getElem? (i := 7) rfl)) wd3 hd_X11_fits ⟨Nat.le_of_ble_eq_true rfl, Nat.le_of_ble_eq_true rfl⟩, wd2, trivial⟩ ⟨pre_blind, pre_w hK RO.nil P0 D0 (va_new0 hS hA)⟩ rfl rfl hl.1 rfl (lv_room (Nat.le_of_ble_eq_true rfl)) dX8_holds_5 ⟨Nat.zero_le _, Nat.zero_le _⟩) hP hS hA (fun hE1 H locs hP hS => ?_)
  have hq := hm
  subst hq; subst hQ
  exact k_zret hx hb hr hlocks hP hD hS rfl hE1 dX8_holds_8

theorem hd_X8_merged : yX8_merged.cls ≠ "java/lang/invoke/MethodHandle" ∧ yX8_merged.cls ≠ "java/lang/invoke/VarHandle" ∧ (parseMethodDescriptor yX8_merged.desc).map (fun d => d.parameters.length) = some 2 := by decide +kernel

def M_X8_merged (x1 : Int64) (x3 : Int64)  : Int64 :=
  (x1 ^^^ x3)

abbrev rmX8_merged : Room := { frames := 0, cells := 0, slots := 0, locals := 0 }
set_option maxHeartbeats 4000000 in
set_option maxRecDepth 100000 in
theorem c_X8_merged (l : Launch) (G : va_G) (cs : CS) (sz : Nat)   (sa sw : Nat) (s_k : Int32) (s_m : Int32) (s_t : Int32) (s_p : Int64) (s_b : Int64) (s_f : Int64) (s_l : Int32) (s_wl : Nat) (s_wf : (Nat → Int32)) (x1 : Int64) (x3 : Int64) (res : Int64) (hm : M_X8_merged x1 x3 = res) : Met l yX8_merged wsX8_merged rmX8_merged (va_Pc [.ref sa, .long x1, .long x3] (PreW G cs sz [] (fun _ => some (sa, sw, (6, s_k, s_m, s_t, s_p, s_b, s_f, s_l, s_wl, s_wf))))) (QL G res [] (va_A [] sz)) 0 0 (va_A [] sz) := by
  refine k_enter (Qf := fun A => QL G res [] A) (cc := cX8_merged) (maxL := 5) (ret := (some .long)) (plainFor_of_name (by decide)) rfl (Nat.le_of_ble_eq_true rfl) ?_
  intro p e s m args below meth c A Q ls H locs hx hb hr hml hown hts hlocks hname hK hA hRo hP hD hS hQ hl
  have hl : lv_has ls 5 [(0, .ref sa), (1, .long x1), (3, .long x3)] := hl
  have hT : va_P G vwCl [(sa, .inr (6, [.int s_k, .int s_m, .int s_t]))] s.heap ∧ ¬ A sa := ⟨(hRo 0 _ rfl).1, (hRo 0 _ rfl).2.1⟩
  unfold M_X8_merged at hm
  refine lv_lload_n hx hb dX8_merged_0 rfl (lv_at hl 1 rfl) ?_
  refine lv_lload_n hx hb dX8_merged_1 rfl (lv_at hl 2 rfl) ?_
  refine lv_lxor hx hb dX8_merged_2 ?_
  have hq := hm
  subst hq; subst hQ
  exact k_lret hx hb hr hlocks hP hD hS rfl dX8_merged_3

theorem hd_X8_changed : yX8_changed.cls ≠ "java/lang/invoke/MethodHandle" ∧ yX8_changed.cls ≠ "java/lang/invoke/VarHandle" ∧ (parseMethodDescriptor yX8_changed.desc).map (fun d => d.parameters.length) = some 4 := by decide +kernel

def M_X8_changed (x1 : Int32) (x2 : Int32) (x3 : Int32) (x4 : Int32) (s_m : Int32) (s_t : Int32) : Option Int64 :=
  (M_X8_carried ((x3 ^^^ x4).toInt64) ((x1 - 1) - x2) s_m s_t).bind fun r1 => some r1

abbrev rmX8_changed : Room := { frames := 2, cells := 0, slots := 0, locals := 44 }
set_option maxHeartbeats 4000000 in
set_option maxRecDepth 100000 in
theorem c_X8_changed (l : Launch) (G : va_G) (cs : CS) (sz : Nat)   (sa sw : Nat) (s_k : Int32) (s_m : Int32) (s_t : Int32) (s_p : Int64) (s_b : Int64) (s_f : Int64) (s_l : Int32) (s_wl : Nat) (s_wf : (Nat → Int32)) (x1 : Int32) (x2 : Int32) (x3 : Int32) (x4 : Int32) (res : Int64) (hm : M_X8_changed x1 x2 x3 x4 s_m s_t = some res) : Met l yX8_changed wsX8_changed rmX8_changed (va_Pc [.ref sa, .int x1, .int x2, .int x3, .int x4] (PreW G cs sz [] (fun _ => some (sa, sw, (6, s_k, s_m, s_t, s_p, s_b, s_f, s_l, s_wl, s_wf))))) (QL G res [] (va_A [] sz)) 0 0 (va_A [] sz) := by
  refine k_enter (Qf := fun A => QL G res [] A) (cc := cX8_changed) (maxL := 5) (ret := (some .long)) (plainFor_of_name (by decide)) rfl (Nat.le_of_ble_eq_true rfl) ?_
  intro p e s m args below meth c A Q ls H locs hx hb hr hml hown hts hlocks hname hK hA hRo hP hD hS hQ hl
  have hl : lv_has ls 5 [(0, .ref sa), (1, .int x1), (2, .int x2), (3, .int x3), (4, .int x4)] := hl
  have hT : va_P G vwCl [(sa, .inr (6, [.int s_k, .int s_m, .int s_t]))] s.heap ∧ ¬ A sa := ⟨(hRo 0 _ rfl).1, (hRo 0 _ rfl).2.1⟩
  unfold M_X8_changed at hm
  refine lv_aload_n hx hb dX8_changed_0 rfl (lv_at hl 0 rfl) ?_
  refine lv_iload_n hx hb dX8_changed_1 rfl (lv_at hl 3 rfl) ?_
  refine lv_iload hx hb dX8_changed_2 (lv_at hl 4 rfl) ?_
  refine lv_ixor hx hb dX8_changed_4 ?_
  refine lv_i2l (v := (x3 ^^^ x4).toInt64) hx hb dX8_changed_5 rfl ?_
  refine lv_iload_n hx hb dX8_changed_6 rfl (lv_at hl 1 rfl) ?_
  refine lv_iconst (v := 1) hx hb dX8_changed_7 (by decide) ?_
  refine lv_isub hx hb dX8_changed_8 ?_
  refine lv_iload_n hx hb dX8_changed_9 rfl (lv_at hl 2 rfl) ?_
  refine lv_isub hx hb dX8_changed_10 ?_
  obtain ⟨r1, hc_r1, hm⟩ := bs hm
  refine k_calll0 (va_runV (As := [.long ((x3 ^^^ x4).toInt64), .int ((x1 - 1) - x2)]) (rest := []) ⟨hx, hb, hml, hown, hts⟩ (c_X8_carried l G cs H.size   sa sw s_k s_m s_t s_p s_b s_f s_l s_wl s_wf ((x3 ^^^ x4).toInt64) ((x1 - 1) - x2) r1 hc_r1) (cwV 2 hts gX8_changed_X8_carried rfl rfl rfl ⟨rfl, hd_X8_carried⟩ ⟨Nat.le_of_ble_eq_true rfl, Nat.le_of_ble_eq_true rfl⟩) ⟨pre_blind, va_recv hK.1 (roP hS hT.1 hT.2) (ci := 6) (q0 := 0) rfl rfl, pre_w hK (RO.at hS hRo) P0 D0 (va_new0 hS hA)⟩ rfl rfl hl.1 rfl (lv_room (Nat.le_of_ble_eq_true rfl)) dX8_changed_11 ⟨Nat.zero_le _, Nat.zero_le _⟩) hP hS hA (fun H locs hP hS => ?_)
  have hq := Option.some.inj hm
  subst hq; subst hQ
  exact k_lret hx hb hr hlocks hP hD hS rfl dX8_changed_14

theorem hd_X8_isByExclusiveOr : yX8_isByExclusiveOr.cls ≠ "java/lang/invoke/MethodHandle" ∧ yX8_isByExclusiveOr.cls ≠ "java/lang/invoke/VarHandle" ∧ (parseMethodDescriptor yX8_isByExclusiveOr.desc).map (fun d => d.parameters.length) = some 0 := by decide +kernel

def M_X8_isByExclusiveOr   : Int32 :=
  1

abbrev rmX8_isByExclusiveOr : Room := { frames := 0, cells := 0, slots := 0, locals := 0 }
set_option maxHeartbeats 4000000 in
set_option maxRecDepth 100000 in
theorem c_X8_isByExclusiveOr (l : Launch) (G : va_G) (cs : CS) (sz : Nat)   (sa sw : Nat) (s_k : Int32) (s_m : Int32) (s_t : Int32) (s_p : Int64) (s_b : Int64) (s_f : Int64) (s_l : Int32) (s_wl : Nat) (s_wf : (Nat → Int32))  (res : Int32) (hm : M_X8_isByExclusiveOr  = res) : Met l yX8_isByExclusiveOr wsX8_isByExclusiveOr rmX8_isByExclusiveOr (va_Pc [.ref sa] (PreW G cs sz [] (fun _ => some (sa, sw, (6, s_k, s_m, s_t, s_p, s_b, s_f, s_l, s_wl, s_wf))))) (QI G res (res = 0 ∨ res = 1) [] (va_A [] sz)) 0 0 (va_A [] sz) := by
  refine k_enter (Qf := fun A => QI G res (res = 0 ∨ res = 1) [] A) (cc := cX8_isByExclusiveOr) (maxL := 1) (ret := (some .boolean)) (plainFor_of_name (by decide)) rfl (Nat.le_of_ble_eq_true rfl) ?_
  intro p e s m args below meth c A Q ls H locs hx hb hr hml hown hts hlocks hname hK hA hRo hP hD hS hQ hl
  have hl : lv_has ls 1 [(0, .ref sa)] := hl
  have hT : va_P G vwCl [(sa, .inr (6, [.int s_k, .int s_m, .int s_t]))] s.heap ∧ ¬ A sa := ⟨(hRo 0 _ rfl).1, (hRo 0 _ rfl).2.1⟩
  unfold M_X8_isByExclusiveOr at hm
  refine lv_iconst (v := 1) hx hb dX8_isByExclusiveOr_0 (by decide) ?_
  have hq := hm
  subst hq; subst hQ
  exact k_zret hx hb hr hlocks hP hD hS rfl (by decide) dX8_isByExclusiveOr_1

theorem hd_X1_doubled : yX1_doubled.cls ≠ "java/lang/invoke/MethodHandle" ∧ yX1_doubled.cls ≠ "java/lang/invoke/VarHandle" ∧ (parseMethodDescriptor yX1_doubled.desc).map (fun d => d.parameters.length) = some 3 := by decide +kernel

def M_X1_doubled (x0 : Int64) (x2 : Int32) (x3 : Int64)  : Int64 :=
  if ((x0 >>> ((x2 - 1).toInt64 &&& 63)) &&& 1) = 1 then ((((x0 <<< ((1 : Int32).toInt64 &&& 63)) &&& (M_X11_maskOf x2)) ^^^ x3)) else (((x0 <<< ((1 : Int32).toInt64 &&& 63)) &&& (M_X11_maskOf x2)))

abbrev rmX1_doubled : Room := { frames := 1, cells := 0, slots := 0, locals := 20 }
set_option maxHeartbeats 4000000 in
set_option maxRecDepth 100000 in
theorem c_X1_doubled (l : Launch) (G : va_G) (cs : CS) (sz : Nat)    (x0 : Int64) (x2 : Int32) (x3 : Int64) (res : Int64) (hm : M_X1_doubled x0 x2 x3 = res) : Met l yX1_doubled wsX1_doubled rmX1_doubled (va_Pc [.long x0, .int x2, .long x3] (PreW G cs sz [] RN)) (QL G res [] (va_A [] sz)) 0 0 (va_A [] sz) := by
  refine k_enter (Qf := fun A => QL G res [] A) (cc := cX1_doubled) (maxL := 7) (ret := (some .long)) (plainFor_of_name (by decide)) rfl (Nat.le_of_ble_eq_true rfl) ?_
  intro p e s m args below meth c A Q ls H locs hx hb hr hml hown hts hlocks hname hK hA hRo hP hD hS hQ hl
  have hl : lv_has ls 7 [(0, .long x0), (2, .int x2), (3, .long x3)] := hl
  have wd2 := hts (.initialized RX11) (List.mem_of_getElem? (i := 2) rfl)
  have wd1 := hts (.static yX11_maskOf) (List.mem_of_getElem? (i := 1) rfl)
  unfold M_X1_doubled at hm
  refine lv_lload_n hx hb dX1_doubled_0 rfl (lv_at hl 0 rfl) ?_
  refine lv_iconst (v := 1) hx hb dX1_doubled_1 (by decide) ?_
  refine lv_lshl (v := x0 <<< ((1 : Int32).toInt64 &&& 63)) hx hb dX1_doubled_2 rfl ?_
  refine lv_iload_n hx hb dX1_doubled_3 rfl (lv_at hl 1 rfl) ?_
  refine k_calll0 (va_runSN (As := [.int x2]) (rest := [.long (x0 <<< ((1 : Int32).toInt64 &&& 63))]) ⟨hx, hb, hml, hown, hts⟩ (c_X11_maskOf l G cs H.size    x2 _ rfl) ⟨va_cnB 1 hts gX1_doubled_X11_maskOf_n37 rfl rfl rfl (hK.2.1 _ (List.mem_of_getElem? (i := 4) rfl)) wd2 hd_X11_maskOf ⟨Nat.le_of_ble_eq_true rfl, Nat.le_of_ble_eq_true rfl⟩, wd1, trivial⟩ ⟨pre_blind, pre_w hK RO.nil P0 D0 (va_new0 hS hA)⟩ rfl rfl hl.1 rfl (lv_room (Nat.le_of_ble_eq_true rfl)) dX1_doubled_4 ⟨Nat.zero_le _, Nat.zero_le _⟩) hP hS hA (fun H locs hP hS => ?_)
  refine lv_land hx hb dX1_doubled_7 ?_
  refine lv_lstore (lv' := [(5, .long ((x0 <<< ((1 : Int32).toInt64 &&& 63)) &&& (M_X11_maskOf x2))), (0, .long x0), (2, .int x2), (3, .long x3)]) hx hb dX1_doubled_8 hl (by decide) rfl (fun ls hl => ?_)
  refine lv_lload_n hx hb dX1_doubled_10 rfl (lv_at hl 1 rfl) ?_
  refine lv_iload_n hx hb dX1_doubled_11 rfl (lv_at hl 2 rfl) ?_
  refine lv_iconst (v := 1) hx hb dX1_doubled_12 (by decide) ?_
  refine lv_isub hx hb dX1_doubled_13 ?_
  refine lv_lshr (v := x0 >>> ((x2 - 1).toInt64 &&& 63)) hx hb dX1_doubled_14 rfl ?_
  refine lv_lconst (v := 1) hx hb dX1_doubled_15 (by decide) ?_
  refine lv_land hx hb dX1_doubled_16 ?_
  refine lv_lconst (v := 1) hx hb dX1_doubled_17 (by decide) ?_
  refine W.lcmp hx hb dX1_doubled_18 ?_
  refine lv_if_ne (tgt := 29) hx hb dX1_doubled_19 (by decide) (fun b1 => ?_) (fun b1 => ?_)
  · have b1 := fun h9 => b1 ((lg_cmp_eq _ _).mpr h9)
    have hm := i_f b1 hm
    refine lv_lload hx hb dX1_doubled_29 (lv_at hl 0 rfl) ?_
    have hq := hm
    subst hq; subst hQ
    exact k_lret hx hb hr hlocks hP hD hS rfl dX1_doubled_31
  · have b1 := (lg_cmp_eq _ _).mp b1
    have hm := i_t b1 hm
    refine lv_lload hx hb dX1_doubled_22 (lv_at hl 0 rfl) ?_
    refine lv_lload_n hx hb dX1_doubled_24 rfl (lv_at hl 3 rfl) ?_
    refine lv_lxor hx hb dX1_doubled_25 ?_
    refine lv_goto (tgt := 31) hx hb dX1_doubled_26 (by decide) ?_
    have hq := hm
    subst hq; subst hQ
    exact k_lret hx hb hr hlocks hP hD hS rfl dX1_doubled_31

theorem hd_X1_afterByte : yX1_afterByte.cls ≠ "java/lang/invoke/MethodHandle" ∧ yX1_afterByte.cls ≠ "java/lang/invoke/VarHandle" ∧ (parseMethodDescriptor yX1_afterByte.desc).map (fun d => d.parameters.length) = some 2 := by decide +kernel

def M_X1_afterByte_b6 (n : Nat) (x3 : Int32) (s_m : Int32) (s_p : Int64) (s_l : Int32) (x4 : Int64) (x6 : Int32) : Option ((Int64 × Int32) ⊕ Int64) :=
  if 8 ≤ x6 then (some (.inr x4)) else (if s_l = 0 then (some (.inl ((M_X1_doubled (x4 ^^^ ((((x3 >>> ((7 - x6) &&& 31)) &&& 1).toInt64) <<< ((s_m - 1).toInt64 &&& 63))) s_m s_p), x6 + 1))) else (some (.inl ((M_X1_doubled (x4 ^^^ ((((x3 >>> (x6 &&& 31)) &&& 1).toInt64) <<< ((s_m - 1).toInt64 &&& 63))) s_m s_p), x6 + 1))))

def M_X1_afterByte (n : Nat) (x1 : Int64) (x3 : Int32) (s_m : Int32) (s_p : Int64) (s_l : Int32) : Option Int64 :=
  (lp (fun x : (Int64 × Int32) => M_X1_afterByte_b6 n x3 s_m s_p s_l x.1 x.2) n (x1, (0 : Int32))).bind fun o3 => some o3

abbrev rmX1_afterByte : Room := { frames := 2, cells := 0, slots := 0, locals := 46 }
set_option maxHeartbeats 4000000 in
set_option maxRecDepth 100000 in
theorem c_X1_afterByte (l : Launch) (G : va_G) (cs : CS) (sz : Nat)   (sa sw : Nat) (s_k : Int32) (s_m : Int32) (s_t : Int32) (s_p : Int64) (s_b : Int64) (s_f : Int64) (s_l : Int32) (s_wl : Nat) (s_wf : (Nat → Int32)) (x1 : Int64) (x3 : Int32) (n : Nat) (res : Int64) (hm : M_X1_afterByte n x1 x3 s_m s_p s_l = some res) : Met l yX1_afterByte wsX1_afterByte rmX1_afterByte (va_Pc [.ref sa, .long x1, .int x3] (PreW G cs sz [] (fun _ => some (sa, sw, (1, s_k, s_m, s_t, s_p, s_b, s_f, s_l, s_wl, s_wf))))) (QL G res [] (va_A [] sz)) 0 0 (va_A [] sz) := by
  refine k_enter (Qf := fun A => QL G res [] A) (cc := cX1_afterByte) (maxL := 9) (ret := (some .long)) (plainFor_of_name (by decide)) rfl (Nat.le_of_ble_eq_true rfl) ?_
  intro p e s m args below meth c A Q ls H locs hx hb hr hml hown hts hlocks hname hK hA hRo hP hD hS hQ hl
  have hl : lv_has ls 9 [(0, .ref sa), (1, .long x1), (3, .int x3)] := hl
  have hT : va_P G vwCl [(sa, .inr (1, [.int s_k, .int s_m, .long s_p, .int s_l, .long s_b, .long s_f]))] s.heap ∧ ¬ A sa := ⟨(hRo 0 _ rfl).1, (hRo 0 _ rfl).2.1⟩
  have wd1 := hts (.fieldLink RX1 25 "SumSmith$Divided" "low" "Z") (List.mem_of_getElem? (i := 1) rfl)
  have wd2 := hts (.fieldLink RX1 9 "SumSmith$Divided" "width" "I") (List.mem_of_getElem? (i := 2) rfl)
  have wd3 := hts (.fieldLink RX1 15 "SumSmith$Divided" "polynomial" "J") (List.mem_of_getElem? (i := 3) rfl)
  have hinX1 : ∀ w ∈ wsX10, w ∈ wsX1_afterByte := fun w h => List.mem_cons_of_mem _ (List.mem_append_right _ h)
  have L6 : ∀ (x3 : Int32) (x4 : Int64) (x6 : Int32) (out : Int64), lp (fun x : (Int64 × Int32) => M_X1_afterByte_b6 n x3 s_m s_p s_l x.1 x.2) n (x4, x6) = some out → (∀ (o : Int64), out = o → ∀ (H : Heap) (locs : List Loc), va_P G vwCl [] H → va_D A [] → va_S A s.heap H locs → ∀ (ls : Array Slot), lv_has ls 9 [(4, .long o)] → W p l e rmX1_afterByte s m args below meth c H locs 0 0 Q (F0 m 70 ls [])) → ∀ (H : Heap) (locs : List Loc), va_P G vwCl [] H → va_D A [] → va_S A s.heap H locs → ∀ (ls : Array Slot), lv_has ls 9 [(0, .ref sa), (3, .int x3), (4, .long x4), (6, .int x6)] → W p l e rmX1_afterByte s m args below meth c H locs 0 0 Q (F0 m 6 ls []) := by
    intro x3 x4 x6 out hlp hX
    refine lp_ind (fun x => ∀ (H : Heap) (locs : List Loc), va_P G vwCl [] H → va_D A [] → va_S A s.heap H locs → ∀ (ls : Array Slot), lv_has ls 9 [(0, .ref sa), (3, .int x3), (4, .long x.1), (6, .int x.2)] → W p l e rmX1_afterByte s m args below meth c H locs 0 0 Q (F0 m 6 ls [])) ?_ n (x4, x6) hlp
    clear hlp hP hD hS hl
    rintro ⟨x4, x6⟩ ob hm hst H locs hP hD hS ls hl
    have hm : M_X1_afterByte_b6 n x3 s_m s_p s_l x4 x6 = some ob := hm
    have hl : lv_has ls 9 [(0, .ref sa), (3, .int x3), (4, .long x4), (6, .int x6)] := hl
    have hP : va_P G vwCl [] H := hP
    have hD : va_D A [] := hD
    unfold M_X1_afterByte_b6 at hm
    refine lv_iload hx hb dX1_afterByte_6 (lv_at hl 3 rfl) ?_
    refine lv_bipush (v := 8) hx hb dX1_afterByte_8 (by decide) ?_
    refine lv_icmp_ge (tgt := 70) hx hb dX1_afterByte_10 (by decide) (fun b1 => ?_) (fun b1 => ?_)
    · have hm := i_t b1 hm
      exact hX _ (st_exit hm hst) H locs hP hD hS ls (lv_sub hl [2] rfl)
    · have hm := i_f b1 hm
      refine lv_aload_n hx hb dX1_afterByte_13 rfl (lv_at hl 0 rfl) ?_
      refine va_get (D := G) (ci := 1) (v := .int s_l) (C := RX1) (T := TX1) (N := 6) hx hb hts hinX1 hown hK.1 (roP hS hT.1 hT.2) 0 rfl rfl 3 (by decide) wd1 (fun _ h9 => h9) rfl dX1_afterByte_14 ?_
      refine lv_if_eq (tgt := 27) hx hb dX1_afterByte_17 (by decide) (fun b2 => ?_) (fun b2 => ?_)
      · have hm := i_t b2 hm
        refine lv_iload_n hx hb dX1_afterByte_27 rfl (lv_at hl 1 rfl) ?_
        refine lv_bipush (v := 7) hx hb dX1_afterByte_28 (by decide) ?_
        refine lv_iload hx hb dX1_afterByte_30 (lv_at hl 3 rfl) ?_
        refine lv_isub hx hb dX1_afterByte_32 ?_
        refine lv_ishr hx hb dX1_afterByte_33 ?_
        refine lv_iconst (v := 1) hx hb dX1_afterByte_34 (by decide) ?_
        refine lv_iand hx hb dX1_afterByte_35 ?_
        refine lv_i2l (v := ((x3 >>> ((7 - x6) &&& 31)) &&& 1).toInt64) hx hb dX1_afterByte_36 rfl ?_
        refine lv_lstore (lv' := [(7, .long (((x3 >>> ((7 - x6) &&& 31)) &&& 1).toInt64)), (0, .ref sa), (3, .int x3), (4, .long x4), (6, .int x6)]) hx hb dX1_afterByte_37 hl (by decide) rfl (fun ls hl => ?_)
        refine lv_lload hx hb dX1_afterByte_39 (lv_at hl 3 rfl) ?_
        refine lv_lload hx hb dX1_afterByte_41 (lv_at hl 0 rfl) ?_
        refine lv_aload_n hx hb dX1_afterByte_43 rfl (lv_at hl 1 rfl) ?_
        refine va_get (D := G) (ci := 1) (v := .int s_m) (C := RX1) (T := TX1) (N := 6) hx hb hts hinX1 hown hK.1 (roP hS hT.1 hT.2) 0 rfl rfl 1 (by decide) wd2 (fun _ h9 => h9) rfl dX1_afterByte_44 ?_
        refine lv_iconst (v := 1) hx hb dX1_afterByte_47 (by decide) ?_
        refine lv_isub hx hb dX1_afterByte_48 ?_
        refine lv_lshl (v := (((x3 >>> ((7 - x6) &&& 31)) &&& 1).toInt64) <<< ((s_m - 1).toInt64 &&& 63)) hx hb dX1_afterByte_49 rfl ?_
        refine lv_lxor hx hb dX1_afterByte_50 ?_
        refine lv_aload_n hx hb dX1_afterByte_51 rfl (lv_at hl 1 rfl) ?_
        refine va_get (D := G) (ci := 1) (v := .int s_m) (C := RX1) (T := TX1) (N := 6) hx hb hts hinX1 hown hK.1 (roP hS hT.1 hT.2) 0 rfl rfl 1 (by decide) wd2 (fun _ h9 => h9) rfl dX1_afterByte_52 ?_
        refine lv_aload_n hx hb dX1_afterByte_55 rfl (lv_at hl 1 rfl) ?_
        refine va_get (D := G) (ci := 1) (v := .long s_p) (C := RX1) (T := TX1) (N := 6) hx hb hts hinX1 hown hK.1 (roP hS hT.1 hT.2) 0 rfl rfl 2 (by decide) wd3 (fun _ h9 => h9) rfl dX1_afterByte_56 ?_
        refine k_calll0 (va_runS (As := [.long (x4 ^^^ ((((x3 >>> ((7 - x6) &&& 31)) &&& 1).toInt64) <<< ((s_m - 1).toInt64 &&& 63))), .int s_m, .long s_p]) (rest := []) ⟨hx, hb, hml, hown, hts⟩ (c_X1_doubled l G cs H.size    (x4 ^^^ ((((x3 >>> ((7 - x6) &&& 31)) &&& 1).toInt64) <<< ((s_m - 1).toInt64 &&& 63))) s_m s_p _ rfl) (va_cwS 3 hts gX1_afterByte_X1_doubled rfl rfl rfl hd_X1_doubled ⟨Nat.le_of_ble_eq_true rfl, Nat.le_of_ble_eq_true rfl⟩) ⟨pre_blind, pre_w hK RO.nil P0 D0 (va_new0 hS hA)⟩ rfl rfl hl.1 rfl (lv_room (Nat.le_of_ble_eq_true rfl)) dX1_afterByte_59 ⟨Nat.zero_le _, Nat.zero_le _⟩) hP hS hA (fun H locs hP hS => ?_)
        refine lv_lstore (lv' := [(4, .long (M_X1_doubled (x4 ^^^ ((((x3 >>> ((7 - x6) &&& 31)) &&& 1).toInt64) <<< ((s_m - 1).toInt64 &&& 63))) s_m s_p)), (7, .long (((x3 >>> ((7 - x6) &&& 31)) &&& 1).toInt64)), (0, .ref sa), (3, .int x3), (6, .int x6)]) hx hb dX1_afterByte_62 hl (by decide) rfl (fun ls hl => ?_)
        refine lv_iinc (v := x6 + 1) (lv' := [(6, .int (x6 + 1)), (4, .long (M_X1_doubled (x4 ^^^ ((((x3 >>> ((7 - x6) &&& 31)) &&& 1).toInt64) <<< ((s_m - 1).toInt64 &&& 63))) s_m s_p)), (7, .long (((x3 >>> ((7 - x6) &&& 31)) &&& 1).toInt64)), (0, .ref sa), (3, .int x3)]) hx hb dX1_afterByte_64 hl (k := 4) rfl rfl (by decide) rfl (fun ls hl => ?_)
        refine lv_goto (tgt := 6) hx hb dX1_afterByte_67 (by decide) ?_
        exact st_next hm hst H locs hP hD hS ls (lv_sub hl [3, 4, 1, 0] rfl)
      · have hm := i_f b2 hm
        refine lv_iload_n hx hb dX1_afterByte_20 rfl (lv_at hl 1 rfl) ?_
        refine lv_iload hx hb dX1_afterByte_21 (lv_at hl 3 rfl) ?_
        refine lv_ishr hx hb dX1_afterByte_23 ?_
        refine lv_goto (tgt := 34) hx hb dX1_afterByte_24 (by decide) ?_
        refine lv_iconst (v := 1) hx hb dX1_afterByte_34 (by decide) ?_
        refine lv_iand hx hb dX1_afterByte_35 ?_
        refine lv_i2l (v := ((x3 >>> (x6 &&& 31)) &&& 1).toInt64) hx hb dX1_afterByte_36 rfl ?_
        refine lv_lstore (lv' := [(7, .long (((x3 >>> (x6 &&& 31)) &&& 1).toInt64)), (0, .ref sa), (3, .int x3), (4, .long x4), (6, .int x6)]) hx hb dX1_afterByte_37 hl (by decide) rfl (fun ls hl => ?_)
        refine lv_lload hx hb dX1_afterByte_39 (lv_at hl 3 rfl) ?_
        refine lv_lload hx hb dX1_afterByte_41 (lv_at hl 0 rfl) ?_
        refine lv_aload_n hx hb dX1_afterByte_43 rfl (lv_at hl 1 rfl) ?_
        refine va_get (D := G) (ci := 1) (v := .int s_m) (C := RX1) (T := TX1) (N := 6) hx hb hts hinX1 hown hK.1 (roP hS hT.1 hT.2) 0 rfl rfl 1 (by decide) wd2 (fun _ h9 => h9) rfl dX1_afterByte_44 ?_
        refine lv_iconst (v := 1) hx hb dX1_afterByte_47 (by decide) ?_
        refine lv_isub hx hb dX1_afterByte_48 ?_
        refine lv_lshl (v := (((x3 >>> (x6 &&& 31)) &&& 1).toInt64) <<< ((s_m - 1).toInt64 &&& 63)) hx hb dX1_afterByte_49 rfl ?_
        refine lv_lxor hx hb dX1_afterByte_50 ?_
        refine lv_aload_n hx hb dX1_afterByte_51 rfl (lv_at hl 1 rfl) ?_
        refine va_get (D := G) (ci := 1) (v := .int s_m) (C := RX1) (T := TX1) (N := 6) hx hb hts hinX1 hown hK.1 (roP hS hT.1 hT.2) 0 rfl rfl 1 (by decide) wd2 (fun _ h9 => h9) rfl dX1_afterByte_52 ?_
        refine lv_aload_n hx hb dX1_afterByte_55 rfl (lv_at hl 1 rfl) ?_
        refine va_get (D := G) (ci := 1) (v := .long s_p) (C := RX1) (T := TX1) (N := 6) hx hb hts hinX1 hown hK.1 (roP hS hT.1 hT.2) 0 rfl rfl 2 (by decide) wd3 (fun _ h9 => h9) rfl dX1_afterByte_56 ?_
        refine k_calll0 (va_runS (As := [.long (x4 ^^^ ((((x3 >>> (x6 &&& 31)) &&& 1).toInt64) <<< ((s_m - 1).toInt64 &&& 63))), .int s_m, .long s_p]) (rest := []) ⟨hx, hb, hml, hown, hts⟩ (c_X1_doubled l G cs H.size    (x4 ^^^ ((((x3 >>> (x6 &&& 31)) &&& 1).toInt64) <<< ((s_m - 1).toInt64 &&& 63))) s_m s_p _ rfl) (va_cwS 3 hts gX1_afterByte_X1_doubled rfl rfl rfl hd_X1_doubled ⟨Nat.le_of_ble_eq_true rfl, Nat.le_of_ble_eq_true rfl⟩) ⟨pre_blind, pre_w hK RO.nil P0 D0 (va_new0 hS hA)⟩ rfl rfl hl.1 rfl (lv_room (Nat.le_of_ble_eq_true rfl)) dX1_afterByte_59 ⟨Nat.zero_le _, Nat.zero_le _⟩) hP hS hA (fun H locs hP hS => ?_)
        refine lv_lstore (lv' := [(4, .long (M_X1_doubled (x4 ^^^ ((((x3 >>> (x6 &&& 31)) &&& 1).toInt64) <<< ((s_m - 1).toInt64 &&& 63))) s_m s_p)), (7, .long (((x3 >>> (x6 &&& 31)) &&& 1).toInt64)), (0, .ref sa), (3, .int x3), (6, .int x6)]) hx hb dX1_afterByte_62 hl (by decide) rfl (fun ls hl => ?_)
        refine lv_iinc (v := x6 + 1) (lv' := [(6, .int (x6 + 1)), (4, .long (M_X1_doubled (x4 ^^^ ((((x3 >>> (x6 &&& 31)) &&& 1).toInt64) <<< ((s_m - 1).toInt64 &&& 63))) s_m s_p)), (7, .long (((x3 >>> (x6 &&& 31)) &&& 1).toInt64)), (0, .ref sa), (3, .int x3)]) hx hb dX1_afterByte_64 hl (k := 4) rfl rfl (by decide) rfl (fun ls hl => ?_)
        refine lv_goto (tgt := 6) hx hb dX1_afterByte_67 (by decide) ?_
        exact st_next hm hst H locs hP hD hS ls (lv_sub hl [3, 4, 1, 0] rfl)
  unfold M_X1_afterByte at hm
  refine lv_lload_n hx hb dX1_afterByte_0 rfl (lv_at hl 1 rfl) ?_
  refine lv_lstore (lv' := [(4, .long x1), (0, .ref sa), (1, .long x1), (3, .int x3)]) hx hb dX1_afterByte_1 hl (by decide) rfl (fun ls hl => ?_)
  refine lv_iconst (v := 0) hx hb dX1_afterByte_3 (by decide) ?_
  refine lv_istore (lv' := [(6, .int 0), (4, .long x1), (0, .ref sa), (1, .long x1), (3, .int x3)]) hx hb dX1_afterByte_4 hl (by decide) rfl (fun ls hl => ?_)
  obtain ⟨o3, hlp3, hm⟩ := bs hm
  refine L6 x3 x1 (0 : Int32) o3 hlp3 (fun oo ho => ?_) H locs hP hD hS ls (lv_sub hl [2, 4, 1, 0] rfl)
  subst ho
  intro H locs hP hD hS ls hl
  have hl : lv_has ls 9 [(4, .long o3)] := hl
  have hP : va_P G vwCl [] H := hP
  have hD : va_D A [] := hD
  refine lv_lload hx hb dX1_afterByte_70 (lv_at hl 0 rfl) ?_
  have hq := Option.some.inj hm
  subst hq; subst hQ
  exact k_lret hx hb hr hlocks hP hD hS rfl dX1_afterByte_72

theorem hd_X1_ofRow : yX1_ofRow.cls ≠ "java/lang/invoke/MethodHandle" ∧ yX1_ofRow.cls ≠ "java/lang/invoke/VarHandle" ∧ (parseMethodDescriptor yX1_ofRow.desc).map (fun d => d.parameters.length) = some 2 := by decide +kernel

def M_X1_ofRow_b8 (n : Nat) (x2 : Int32) (v_p1 : (Nat → Int32)) (n1 : Nat) (s_m : Int32) (s_p : Int64) (s_l : Int32) (x3 : Int64) (x5 : Int32) : Option ((Int64 × Int32) ⊕ Int64) :=
  if x2 ≤ x5 then (some (.inr x3)) else (if x5 < 0 ∨ n1 ≤ x5.toNatClampNeg then none else (M_X1_afterByte n x3 (v_p1 x5.toNatClampNeg) s_m s_p s_l).bind fun r3 => some (.inl (r3, x5 + 1)))

def M_X1_ofRow (n : Nat) (x2 : Int32) (v_p1 : (Nat → Int32)) (n1 : Nat) (s_m : Int32) (s_p : Int64) (s_b : Int64) (s_f : Int64) (s_l : Int32) : Option Int64 :=
  (lp (fun x : (Int64 × Int32) => M_X1_ofRow_b8 n x2 v_p1 n1 s_m s_p s_l x.1 x.2) n (s_b, (0 : Int32))).bind fun o4 => some (o4 ^^^ s_f)

abbrev ww_X1_ofRow (cs : CS) (v_p1 : (Nat → Int32)) (a1 : Nat) (n1 : Nat) : va_W := [(a1, .inl (cs.1, n1, .inl v_p1))]

abbrev rmX1_ofRow : Room := { frames := 3, cells := 0, slots := 0, locals := 74 }
set_option maxHeartbeats 4000000 in
set_option maxRecDepth 100000 in
theorem c_X1_ofRow (l : Launch) (G : va_G) (cs : CS) (sz : Nat) (v_p1 : (Nat → Int32)) (a1 : Nat) (sa sw : Nat) (n1 : Nat) (s_k : Int32) (s_m : Int32) (s_t : Int32) (s_p : Int64) (s_b : Int64) (s_f : Int64) (s_l : Int32) (s_wl : Nat) (s_wf : (Nat → Int32)) (x2 : Int32) (n : Nat) (res : Int64) (hm : M_X1_ofRow n x2 v_p1 n1 s_m s_p s_b s_f s_l = some res) : Met l yX1_ofRow wsX1_ofRow rmX1_ofRow (va_Pc [.ref sa, .ref a1, .int x2] (PreW G cs sz (ww_X1_ofRow cs v_p1 a1 n1) (fun _ => some (sa, sw, (1, s_k, s_m, s_t, s_p, s_b, s_f, s_l, s_wl, s_wf))))) (QL G res (ww_X1_ofRow cs v_p1 a1 n1) (va_A (ww_X1_ofRow cs v_p1 a1 n1) sz)) 0 0 (va_A (ww_X1_ofRow cs v_p1 a1 n1) sz) := by
  refine k_enter (Qf := fun A => QL G res (ww_X1_ofRow cs v_p1 a1 n1) A) (cc := cX1_ofRow) (maxL := 6) (ret := (some .long)) (plainFor_of_name (by decide)) rfl (Nat.le_of_ble_eq_true rfl) ?_
  intro p e s m args below meth c A Q ls H locs hx hb hr hml hown hts hlocks hname hK hA hRo hP hD hS hQ hl
  have hl : lv_has ls 6 [(0, .ref sa), (1, .ref a1), (2, .int x2)] := hl
  have hT : va_P G vwCl [(sa, .inr (1, [.int s_k, .int s_m, .long s_p, .int s_l, .long s_b, .long s_f]))] s.heap ∧ ¬ A sa := ⟨(hRo 0 _ rfl).1, (hRo 0 _ rfl).2.1⟩
  have wd1 := hts (.fieldLink RX1 19 "SumSmith$Divided" "begin" "J") (List.mem_of_getElem? (i := 1) rfl)
  have wd2 := hts (.fieldLink RX1 22 "SumSmith$Divided" "finish" "J") (List.mem_of_getElem? (i := 2) rfl)
  have hinX1 : ∀ w ∈ wsX10, w ∈ wsX1_ofRow := fun w h => List.mem_cons_of_mem _ (List.mem_append_right _ h)
  have L8 : ∀ (x2 : Int32) (x3 : Int64) (x5 : Int32) (out : Int64), lp (fun x : (Int64 × Int32) => M_X1_ofRow_b8 n x2 v_p1 n1 s_m s_p s_l x.1 x.2) n (x3, x5) = some out → (∀ (o : Int64), out = o → ∀ (H : Heap) (locs : List Loc), va_P G vwCl (ww_X1_ofRow cs v_p1 a1 n1) H → va_D A (ww_X1_ofRow cs v_p1 a1 n1) → va_S A s.heap H locs → ∀ (ls : Array Slot), lv_has ls 6 [(0, .ref sa), (3, .long o)] → W p l e rmX1_ofRow s m args below meth c H locs 0 0 Q (F0 m 30 ls [])) → ∀ (H : Heap) (locs : List Loc), va_P G vwCl (ww_X1_ofRow cs v_p1 a1 n1) H → va_D A (ww_X1_ofRow cs v_p1 a1 n1) → va_S A s.heap H locs → ∀ (ls : Array Slot), lv_has ls 6 [(0, .ref sa), (1, .ref a1), (2, .int x2), (3, .long x3), (5, .int x5)] → W p l e rmX1_ofRow s m args below meth c H locs 0 0 Q (F0 m 8 ls []) := by
    intro x2 x3 x5 out hlp hX
    refine lp_ind (fun x => ∀ (H : Heap) (locs : List Loc), va_P G vwCl (ww_X1_ofRow cs v_p1 a1 n1) H → va_D A (ww_X1_ofRow cs v_p1 a1 n1) → va_S A s.heap H locs → ∀ (ls : Array Slot), lv_has ls 6 [(0, .ref sa), (1, .ref a1), (2, .int x2), (3, .long x.1), (5, .int x.2)] → W p l e rmX1_ofRow s m args below meth c H locs 0 0 Q (F0 m 8 ls [])) ?_ n (x3, x5) hlp
    clear hlp hP hD hS hl
    rintro ⟨x3, x5⟩ ob hm hst H locs hP hD hS ls hl
    have hm : M_X1_ofRow_b8 n x2 v_p1 n1 s_m s_p s_l x3 x5 = some ob := hm
    have hl : lv_has ls 6 [(0, .ref sa), (1, .ref a1), (2, .int x2), (3, .long x3), (5, .int x5)] := hl
    have hP : va_P G vwCl (ww_X1_ofRow cs v_p1 a1 n1) H := hP
    have hD : va_D A (ww_X1_ofRow cs v_p1 a1 n1) := hD
    unfold M_X1_ofRow_b8 at hm
    refine lv_iload hx hb dX1_ofRow_8 (lv_at hl 4 rfl) ?_
    refine lv_iload_n hx hb dX1_ofRow_10 rfl (lv_at hl 2 rfl) ?_
    refine lv_icmp_ge (tgt := 30) hx hb dX1_ofRow_11 (by decide) (fun b1 => ?_) (fun b1 => ?_)
    · have hm := i_t b1 hm
      exact hX _ (st_exit hm hst) H locs hP hD hS ls (lv_sub hl [0, 3] rfl)
    · have hm := i_f b1 hm
      refine lv_aload_n hx hb dX1_ofRow_14 rfl (lv_at hl 0 rfl) ?_
      refine lv_lload_n hx hb dX1_ofRow_15 rfl (lv_at hl 3 rfl) ?_
      refine lv_aload_n hx hb dX1_ofRow_16 rfl (lv_at hl 1 rfl) ?_
      refine lv_iload hx hb dX1_ofRow_17 (lv_at hl 4 rfl) ?_
      obtain ⟨h2, hm⟩ := g_in hm
      refine va_iald hx hb hK.1 hP 0 0 rfl rfl h2 dX1_ofRow_19 ?_
      obtain ⟨r3, hc_r3, hm⟩ := bs hm
      refine k_calll0 (va_runV (As := [.long x3, .int (v_p1 x5.toNatClampNeg)]) (rest := []) ⟨hx, hb, hml, hown, hts⟩ (c_X1_afterByte l G cs H.size   sa sw s_k s_m s_t s_p s_b s_f s_l s_wl s_wf x3 (v_p1 x5.toNatClampNeg) n r3 hc_r3) (cwV 2 hts gX1_ofRow_X1_afterByte rfl rfl rfl ⟨rfl, hd_X1_afterByte⟩ ⟨Nat.le_of_ble_eq_true rfl, Nat.le_of_ble_eq_true rfl⟩) ⟨pre_blind, va_recv hK.1 (roP hS hT.1 hT.2) (ci := 1) (q0 := 0) rfl rfl, pre_w hK (RO.at hS hRo) P0 D0 (va_new0 hS hA)⟩ rfl rfl hl.1 rfl (lv_room (Nat.le_of_ble_eq_true rfl)) dX1_ofRow_20 ⟨Nat.zero_le _, Nat.zero_le _⟩) hP hS hA (fun H locs hP hS => ?_)
      refine lv_lstore_n (lv' := [(3, .long r3), (0, .ref sa), (1, .ref a1), (2, .int x2), (5, .int x5)]) hx hb dX1_ofRow_23 rfl hl (by decide) rfl (fun ls hl => ?_)
      refine lv_iinc (v := x5 + 1) (lv' := [(5, .int (x5 + 1)), (3, .long r3), (0, .ref sa), (1, .ref a1), (2, .int x2)]) hx hb dX1_ofRow_24 hl (k := 4) rfl rfl (by decide) rfl (fun ls hl => ?_)
      refine lv_goto (tgt := 8) hx hb dX1_ofRow_27 (by decide) ?_
      exact st_next hm hst H locs hP hD hS ls (lv_sub hl [2, 3, 4, 1, 0] rfl)
  unfold M_X1_ofRow at hm
  refine lv_aload_n hx hb dX1_ofRow_0 rfl (lv_at hl 0 rfl) ?_
  refine va_get (D := G) (ci := 1) (v := .long s_b) (C := RX1) (T := TX1) (N := 6) hx hb hts hinX1 hown hK.1 (roP hS hT.1 hT.2) 0 rfl rfl 4 (by decide) wd1 (fun _ h9 => h9) rfl dX1_ofRow_1 ?_
  refine lv_lstore_n (lv' := [(3, .long s_b), (0, .ref sa), (1, .ref a1), (2, .int x2)]) hx hb dX1_ofRow_4 rfl hl (by decide) rfl (fun ls hl => ?_)
  refine lv_iconst (v := 0) hx hb dX1_ofRow_5 (by decide) ?_
  refine lv_istore (lv' := [(5, .int 0), (3, .long s_b), (0, .ref sa), (1, .ref a1), (2, .int x2)]) hx hb dX1_ofRow_6 hl (by decide) rfl (fun ls hl => ?_)
  obtain ⟨o4, hlp4, hm⟩ := bs hm
  refine L8 x2 s_b (0 : Int32) o4 hlp4 (fun oo ho => ?_) H locs hP hD hS ls (lv_sub hl [2, 3, 4, 1, 0] rfl)
  subst ho
  intro H locs hP hD hS ls hl
  have hl : lv_has ls 6 [(0, .ref sa), (3, .long o4)] := hl
  have hP : va_P G vwCl (ww_X1_ofRow cs v_p1 a1 n1) H := hP
  have hD : va_D A (ww_X1_ofRow cs v_p1 a1 n1) := hD
  refine lv_lload_n hx hb dX1_ofRow_30 rfl (lv_at hl 1 rfl) ?_
  refine lv_aload_n hx hb dX1_ofRow_31 rfl (lv_at hl 0 rfl) ?_
  refine va_get (D := G) (ci := 1) (v := .long s_f) (C := RX1) (T := TX1) (N := 6) hx hb hts hinX1 hown hK.1 (roP hS hT.1 hT.2) 0 rfl rfl 5 (by decide) wd2 (fun _ h9 => h9) rfl dX1_ofRow_32 ?_
  refine lv_lxor hx hb dX1_ofRow_35 ?_
  have hq := Option.some.inj hm
  subst hq; subst hQ
  exact k_lret hx hb hr hlocks hP hD hS rfl dX1_ofRow_36

theorem hd_X1_holds : yX1_holds.cls ≠ "java/lang/invoke/MethodHandle" ∧ yX1_holds.cls ≠ "java/lang/invoke/VarHandle" ∧ (parseMethodDescriptor yX1_holds.desc).map (fun d => d.parameters.length) = some 1 := by decide +kernel

def M_X1_holds (x1 : Int64) (s_m : Int32) : Int32 :=
  (M_X11_fits x1 s_m)

abbrev rmX1_holds : Room := { frames := 2, cells := 0, slots := 0, locals := 42 }
set_option maxHeartbeats 4000000 in
set_option maxRecDepth 100000 in
theorem c_X1_holds (l : Launch) (G : va_G) (cs : CS) (sz : Nat)   (sa sw : Nat) (s_k : Int32) (s_m : Int32) (s_t : Int32) (s_p : Int64) (s_b : Int64) (s_f : Int64) (s_l : Int32) (s_wl : Nat) (s_wf : (Nat → Int32)) (x1 : Int64) (res : Int32) (hm : M_X1_holds x1 s_m = res) : Met l yX1_holds wsX1_holds rmX1_holds (va_Pc [.ref sa, .long x1] (PreW G cs sz [] (fun _ => some (sa, sw, (1, s_k, s_m, s_t, s_p, s_b, s_f, s_l, s_wl, s_wf))))) (QI G res (res = 0 ∨ res = 1) [] (va_A [] sz)) 0 0 (va_A [] sz) := by
  refine k_enter (Qf := fun A => QI G res (res = 0 ∨ res = 1) [] A) (cc := cX1_holds) (maxL := 3) (ret := (some .boolean)) (plainFor_of_name (by decide)) rfl (Nat.le_of_ble_eq_true rfl) ?_
  intro p e s m args below meth c A Q ls H locs hx hb hr hml hown hts hlocks hname hK hA hRo hP hD hS hQ hl
  have hl : lv_has ls 3 [(0, .ref sa), (1, .long x1)] := hl
  have hT : va_P G vwCl [(sa, .inr (1, [.int s_k, .int s_m, .long s_p, .int s_l, .long s_b, .long s_f]))] s.heap ∧ ¬ A sa := ⟨(hRo 0 _ rfl).1, (hRo 0 _ rfl).2.1⟩
  have wd1 := hts (.fieldLink RX1 9 "SumSmith$Divided" "width" "I") (List.mem_of_getElem? (i := 1) rfl)
  have wd3 := hts (.initialized RX11) (List.mem_of_getElem? (i := 3) rfl)
  have wd2 := hts (.static yX11_fits) (List.mem_of_getElem? (i := 2) rfl)
  have hinX1 : ∀ w ∈ wsX10, w ∈ wsX1_holds := fun w h => List.mem_cons_of_mem _ (List.mem_append_right _ h)
  unfold M_X1_holds at hm
  refine lv_lload_n hx hb dX1_holds_0 rfl (lv_at hl 1 rfl) ?_
  refine lv_aload_n hx hb dX1_holds_1 rfl (lv_at hl 0 rfl) ?_
  refine va_get (D := G) (ci := 1) (v := .int s_m) (C := RX1) (T := TX1) (N := 6) hx hb hts hinX1 hown hK.1 (roP hS hT.1 hT.2) 0 rfl rfl 1 (by decide) wd1 (fun _ h9 => h9) rfl dX1_holds_2 ?_
  refine k_calli0 (va_runSN (As := [.long x1, .int s_m]) (rest := []) ⟨hx, hb, hml, hown, hts⟩ (c_X11_fits l G cs H.size    x1 s_m _ rfl) ⟨va_cnB 2 hts gX1_holds_X11_fits_n41 rfl rfl rfl (hK.2.1 _ (List.mem_of_getElem? (i := 6) rfl)) wd3 hd_X11_fits ⟨Nat.le_of_ble_eq_true rfl, Nat.le_of_ble_eq_true rfl⟩, wd2, trivial⟩ ⟨pre_blind, pre_w hK RO.nil P0 D0 (va_new0 hS hA)⟩ rfl rfl hl.1 rfl (lv_room (Nat.le_of_ble_eq_true rfl)) dX1_holds_5 ⟨Nat.zero_le _, Nat.zero_le _⟩) hP hS hA (fun hE1 H locs hP hS => ?_)
  have hq := hm
  subst hq; subst hQ
  exact k_zret hx hb hr hlocks hP hD hS rfl hE1 dX1_holds_8

theorem hd_X1_merged : yX1_merged.cls ≠ "java/lang/invoke/MethodHandle" ∧ yX1_merged.cls ≠ "java/lang/invoke/VarHandle" ∧ (parseMethodDescriptor yX1_merged.desc).map (fun d => d.parameters.length) = some 2 := by decide +kernel

def M_X1_merged (x1 : Int64) (x3 : Int64)  : Int64 :=
  (x1 ^^^ x3)

abbrev rmX1_merged : Room := { frames := 0, cells := 0, slots := 0, locals := 0 }
set_option maxHeartbeats 4000000 in
set_option maxRecDepth 100000 in
theorem c_X1_merged (l : Launch) (G : va_G) (cs : CS) (sz : Nat)   (sa sw : Nat) (s_k : Int32) (s_m : Int32) (s_t : Int32) (s_p : Int64) (s_b : Int64) (s_f : Int64) (s_l : Int32) (s_wl : Nat) (s_wf : (Nat → Int32)) (x1 : Int64) (x3 : Int64) (res : Int64) (hm : M_X1_merged x1 x3 = res) : Met l yX1_merged wsX1_merged rmX1_merged (va_Pc [.ref sa, .long x1, .long x3] (PreW G cs sz [] (fun _ => some (sa, sw, (1, s_k, s_m, s_t, s_p, s_b, s_f, s_l, s_wl, s_wf))))) (QL G res [] (va_A [] sz)) 0 0 (va_A [] sz) := by
  refine k_enter (Qf := fun A => QL G res [] A) (cc := cX1_merged) (maxL := 5) (ret := (some .long)) (plainFor_of_name (by decide)) rfl (Nat.le_of_ble_eq_true rfl) ?_
  intro p e s m args below meth c A Q ls H locs hx hb hr hml hown hts hlocks hname hK hA hRo hP hD hS hQ hl
  have hl : lv_has ls 5 [(0, .ref sa), (1, .long x1), (3, .long x3)] := hl
  have hT : va_P G vwCl [(sa, .inr (1, [.int s_k, .int s_m, .long s_p, .int s_l, .long s_b, .long s_f]))] s.heap ∧ ¬ A sa := ⟨(hRo 0 _ rfl).1, (hRo 0 _ rfl).2.1⟩
  unfold M_X1_merged at hm
  refine lv_lload_n hx hb dX1_merged_0 rfl (lv_at hl 1 rfl) ?_
  refine lv_lload_n hx hb dX1_merged_1 rfl (lv_at hl 2 rfl) ?_
  refine lv_lxor hx hb dX1_merged_2 ?_
  have hq := hm
  subst hq; subst hQ
  exact k_lret hx hb hr hlocks hP hD hS rfl dX1_merged_3

theorem hd_X1_afterZeros : yX1_afterZeros.cls ≠ "java/lang/invoke/MethodHandle" ∧ yX1_afterZeros.cls ≠ "java/lang/invoke/VarHandle" ∧ (parseMethodDescriptor yX1_afterZeros.desc).map (fun d => d.parameters.length) = some 2 := by decide +kernel

def M_X1_afterZeros_b6 (n : Nat) (x3 : Int32) (s_m : Int32) (s_p : Int64) (x4 : Int64) (x6 : Int32) : Option ((Int64 × Int32) ⊕ Int64) :=
  if (8 * x3) ≤ x6 then (some (.inr x4)) else (some (.inl ((M_X1_doubled x4 s_m s_p), x6 + 1)))

def M_X1_afterZeros (n : Nat) (x1 : Int64) (x3 : Int32) (s_m : Int32) (s_p : Int64) : Option Int64 :=
  (lp (fun x : (Int64 × Int32) => M_X1_afterZeros_b6 n x3 s_m s_p x.1 x.2) n (x1, (0 : Int32))).bind fun o2 => some o2

abbrev rmX1_afterZeros : Room := { frames := 2, cells := 0, slots := 0, locals := 46 }
set_option maxHeartbeats 4000000 in
set_option maxRecDepth 100000 in
theorem c_X1_afterZeros (l : Launch) (G : va_G) (cs : CS) (sz : Nat)   (sa sw : Nat) (s_k : Int32) (s_m : Int32) (s_t : Int32) (s_p : Int64) (s_b : Int64) (s_f : Int64) (s_l : Int32) (s_wl : Nat) (s_wf : (Nat → Int32)) (x1 : Int64) (x3 : Int32) (n : Nat) (res : Int64) (hm : M_X1_afterZeros n x1 x3 s_m s_p = some res) : Met l yX1_afterZeros wsX1_afterZeros rmX1_afterZeros (va_Pc [.ref sa, .long x1, .int x3] (PreW G cs sz [] (fun _ => some (sa, sw, (1, s_k, s_m, s_t, s_p, s_b, s_f, s_l, s_wl, s_wf))))) (QL G res [] (va_A [] sz)) 0 0 (va_A [] sz) := by
  refine k_enter (Qf := fun A => QL G res [] A) (cc := cX1_afterZeros) (maxL := 7) (ret := (some .long)) (plainFor_of_name (by decide)) rfl (Nat.le_of_ble_eq_true rfl) ?_
  intro p e s m args below meth c A Q ls H locs hx hb hr hml hown hts hlocks hname hK hA hRo hP hD hS hQ hl
  have hl : lv_has ls 7 [(0, .ref sa), (1, .long x1), (3, .int x3)] := hl
  have hT : va_P G vwCl [(sa, .inr (1, [.int s_k, .int s_m, .long s_p, .int s_l, .long s_b, .long s_f]))] s.heap ∧ ¬ A sa := ⟨(hRo 0 _ rfl).1, (hRo 0 _ rfl).2.1⟩
  have wd1 := hts (.fieldLink RX1 9 "SumSmith$Divided" "width" "I") (List.mem_of_getElem? (i := 1) rfl)
  have wd2 := hts (.fieldLink RX1 15 "SumSmith$Divided" "polynomial" "J") (List.mem_of_getElem? (i := 2) rfl)
  have hinX1 : ∀ w ∈ wsX10, w ∈ wsX1_afterZeros := fun w h => List.mem_cons_of_mem _ (List.mem_append_right _ h)
  have L6 : ∀ (x3 : Int32) (x4 : Int64) (x6 : Int32) (out : Int64), lp (fun x : (Int64 × Int32) => M_X1_afterZeros_b6 n x3 s_m s_p x.1 x.2) n (x4, x6) = some out → (∀ (o : Int64), out = o → ∀ (H : Heap) (locs : List Loc), va_P G vwCl [] H → va_D A [] → va_S A s.heap H locs → ∀ (ls : Array Slot), lv_has ls 7 [(4, .long o)] → W p l e rmX1_afterZeros s m args below meth c H locs 0 0 Q (F0 m 36 ls [])) → ∀ (H : Heap) (locs : List Loc), va_P G vwCl [] H → va_D A [] → va_S A s.heap H locs → ∀ (ls : Array Slot), lv_has ls 7 [(0, .ref sa), (3, .int x3), (4, .long x4), (6, .int x6)] → W p l e rmX1_afterZeros s m args below meth c H locs 0 0 Q (F0 m 6 ls []) := by
    intro x3 x4 x6 out hlp hX
    refine lp_ind (fun x => ∀ (H : Heap) (locs : List Loc), va_P G vwCl [] H → va_D A [] → va_S A s.heap H locs → ∀ (ls : Array Slot), lv_has ls 7 [(0, .ref sa), (3, .int x3), (4, .long x.1), (6, .int x.2)] → W p l e rmX1_afterZeros s m args below meth c H locs 0 0 Q (F0 m 6 ls [])) ?_ n (x4, x6) hlp
    clear hlp hP hD hS hl
    rintro ⟨x4, x6⟩ ob hm hst H locs hP hD hS ls hl
    have hm : M_X1_afterZeros_b6 n x3 s_m s_p x4 x6 = some ob := hm
    have hl : lv_has ls 7 [(0, .ref sa), (3, .int x3), (4, .long x4), (6, .int x6)] := hl
    have hP : va_P G vwCl [] H := hP
    have hD : va_D A [] := hD
    unfold M_X1_afterZeros_b6 at hm
    refine lv_iload hx hb dX1_afterZeros_6 (lv_at hl 3 rfl) ?_
    refine lv_bipush (v := 8) hx hb dX1_afterZeros_8 (by decide) ?_
    refine lv_iload_n hx hb dX1_afterZeros_10 rfl (lv_at hl 1 rfl) ?_
    refine lv_imul hx hb dX1_afterZeros_11 ?_
    refine lv_icmp_ge (tgt := 36) hx hb dX1_afterZeros_12 (by decide) (fun b1 => ?_) (fun b1 => ?_)
    · have hm := i_t b1 hm
      exact hX _ (st_exit hm hst) H locs hP hD hS ls (lv_sub hl [2] rfl)
    · have hm := i_f b1 hm
      refine lv_lload hx hb dX1_afterZeros_15 (lv_at hl 2 rfl) ?_
      refine lv_aload_n hx hb dX1_afterZeros_17 rfl (lv_at hl 0 rfl) ?_
      refine va_get (D := G) (ci := 1) (v := .int s_m) (C := RX1) (T := TX1) (N := 6) hx hb hts hinX1 hown hK.1 (roP hS hT.1 hT.2) 0 rfl rfl 1 (by decide) wd1 (fun _ h9 => h9) rfl dX1_afterZeros_18 ?_
      refine lv_aload_n hx hb dX1_afterZeros_21 rfl (lv_at hl 0 rfl) ?_
      refine va_get (D := G) (ci := 1) (v := .long s_p) (C := RX1) (T := TX1) (N := 6) hx hb hts hinX1 hown hK.1 (roP hS hT.1 hT.2) 0 rfl rfl 2 (by decide) wd2 (fun _ h9 => h9) rfl dX1_afterZeros_22 ?_
      refine k_calll0 (va_runS (As := [.long x4, .int s_m, .long s_p]) (rest := []) ⟨hx, hb, hml, hown, hts⟩ (c_X1_doubled l G cs H.size    x4 s_m s_p _ rfl) (va_cwS 3 hts gX1_afterZeros_X1_doubled rfl rfl rfl hd_X1_doubled ⟨Nat.le_of_ble_eq_true rfl, Nat.le_of_ble_eq_true rfl⟩) ⟨pre_blind, pre_w hK RO.nil P0 D0 (va_new0 hS hA)⟩ rfl rfl hl.1 rfl (lv_room (Nat.le_of_ble_eq_true rfl)) dX1_afterZeros_25 ⟨Nat.zero_le _, Nat.zero_le _⟩) hP hS hA (fun H locs hP hS => ?_)
      refine lv_lstore (lv' := [(4, .long (M_X1_doubled x4 s_m s_p)), (0, .ref sa), (3, .int x3), (6, .int x6)]) hx hb dX1_afterZeros_28 hl (by decide) rfl (fun ls hl => ?_)
      refine lv_iinc (v := x6 + 1) (lv' := [(6, .int (x6 + 1)), (4, .long (M_X1_doubled x4 s_m s_p)), (0, .ref sa), (3, .int x3)]) hx hb dX1_afterZeros_30 hl (k := 3) rfl rfl (by decide) rfl (fun ls hl => ?_)
      refine lv_goto (tgt := 6) hx hb dX1_afterZeros_33 (by decide) ?_
      exact st_next hm hst H locs hP hD hS ls (lv_sub hl [2, 3, 1, 0] rfl)
  unfold M_X1_afterZeros at hm
  refine lv_lload_n hx hb dX1_afterZeros_0 rfl (lv_at hl 1 rfl) ?_
  refine lv_lstore (lv' := [(4, .long x1), (0, .ref sa), (1, .long x1), (3, .int x3)]) hx hb dX1_afterZeros_1 hl (by decide) rfl (fun ls hl => ?_)
  refine lv_iconst (v := 0) hx hb dX1_afterZeros_3 (by decide) ?_
  refine lv_istore (lv' := [(6, .int 0), (4, .long x1), (0, .ref sa), (1, .long x1), (3, .int x3)]) hx hb dX1_afterZeros_4 hl (by decide) rfl (fun ls hl => ?_)
  obtain ⟨o2, hlp2, hm⟩ := bs hm
  refine L6 x3 x1 (0 : Int32) o2 hlp2 (fun oo ho => ?_) H locs hP hD hS ls (lv_sub hl [2, 4, 1, 0] rfl)
  subst ho
  intro H locs hP hD hS ls hl
  have hl : lv_has ls 7 [(4, .long o2)] := hl
  have hP : va_P G vwCl [] H := hP
  have hD : va_D A [] := hD
  refine lv_lload hx hb dX1_afterZeros_36 (lv_at hl 0 rfl) ?_
  have hq := Option.some.inj hm
  subst hq; subst hQ
  exact k_lret hx hb hr hlocks hP hD hS rfl dX1_afterZeros_38

theorem hd_X1_changed : yX1_changed.cls ≠ "java/lang/invoke/MethodHandle" ∧ yX1_changed.cls ≠ "java/lang/invoke/VarHandle" ∧ (parseMethodDescriptor yX1_changed.desc).map (fun d => d.parameters.length) = some 4 := by decide +kernel

def M_X1_changed (n : Nat) (x1 : Int32) (x2 : Int32) (x3 : Int32) (x4 : Int32) (s_m : Int32) (s_p : Int64) (s_l : Int32) : Option Int64 :=
  (M_X1_afterByte n (0 : Int64) (x3 ^^^ x4) s_m s_p s_l).bind fun r1 => (M_X1_afterZeros n r1 ((x1 - 1) - x2) s_m s_p).bind fun r2 => some r2

abbrev rmX1_changed : Room := { frames := 3, cells := 0, slots := 0, locals := 74 }
set_option maxHeartbeats 4000000 in
set_option maxRecDepth 100000 in
theorem c_X1_changed (l : Launch) (G : va_G) (cs : CS) (sz : Nat)   (sa sw : Nat) (s_k : Int32) (s_m : Int32) (s_t : Int32) (s_p : Int64) (s_b : Int64) (s_f : Int64) (s_l : Int32) (s_wl : Nat) (s_wf : (Nat → Int32)) (x1 : Int32) (x2 : Int32) (x3 : Int32) (x4 : Int32) (n : Nat) (res : Int64) (hm : M_X1_changed n x1 x2 x3 x4 s_m s_p s_l = some res) : Met l yX1_changed wsX1_changed rmX1_changed (va_Pc [.ref sa, .int x1, .int x2, .int x3, .int x4] (PreW G cs sz [] (fun _ => some (sa, sw, (1, s_k, s_m, s_t, s_p, s_b, s_f, s_l, s_wl, s_wf))))) (QL G res [] (va_A [] sz)) 0 0 (va_A [] sz) := by
  refine k_enter (Qf := fun A => QL G res [] A) (cc := cX1_changed) (maxL := 5) (ret := (some .long)) (plainFor_of_name (by decide)) rfl (Nat.le_of_ble_eq_true rfl) ?_
  intro p e s m args below meth c A Q ls H locs hx hb hr hml hown hts hlocks hname hK hA hRo hP hD hS hQ hl
  have hl : lv_has ls 5 [(0, .ref sa), (1, .int x1), (2, .int x2), (3, .int x3), (4, .int x4)] := hl
  have hT : va_P G vwCl [(sa, .inr (1, [.int s_k, .int s_m, .long s_p, .int s_l, .long s_b, .long s_f]))] s.heap ∧ ¬ A sa := ⟨(hRo 0 _ rfl).1, (hRo 0 _ rfl).2.1⟩
  unfold M_X1_changed at hm
  refine lv_aload_n hx hb dX1_changed_0 rfl (lv_at hl 0 rfl) ?_
  refine lv_aload_n hx hb dX1_changed_1 rfl (lv_at hl 0 rfl) ?_
  refine lv_lconst (v := 0) hx hb dX1_changed_2 (by decide) ?_
  refine lv_iload_n hx hb dX1_changed_3 rfl (lv_at hl 3 rfl) ?_
  refine lv_iload hx hb dX1_changed_4 (lv_at hl 4 rfl) ?_
  refine lv_ixor hx hb dX1_changed_6 ?_
  obtain ⟨r1, hc_r1, hm⟩ := bs hm
  refine k_calll0 (va_runV (As := [.long 0, .int (x3 ^^^ x4)]) (rest := [.ref sa]) ⟨hx, hb, hml, hown, hts⟩ (c_X1_afterByte l G cs H.size   sa sw s_k s_m s_t s_p s_b s_f s_l s_wl s_wf (0 : Int64) (x3 ^^^ x4) n r1 hc_r1) (cwV 2 hts gX1_changed_X1_afterByte rfl rfl rfl ⟨rfl, hd_X1_afterByte⟩ ⟨Nat.le_of_ble_eq_true rfl, Nat.le_of_ble_eq_true rfl⟩) ⟨pre_blind, va_recv hK.1 (roP hS hT.1 hT.2) (ci := 1) (q0 := 0) rfl rfl, pre_w hK (RO.at hS hRo) P0 D0 (va_new0 hS hA)⟩ rfl rfl hl.1 rfl (lv_room (Nat.le_of_ble_eq_true rfl)) dX1_changed_7 ⟨Nat.zero_le _, Nat.zero_le _⟩) hP hS hA (fun H locs hP hS => ?_)
  refine lv_iload_n hx hb dX1_changed_10 rfl (lv_at hl 1 rfl) ?_
  refine lv_iconst (v := 1) hx hb dX1_changed_11 (by decide) ?_
  refine lv_isub hx hb dX1_changed_12 ?_
  refine lv_iload_n hx hb dX1_changed_13 rfl (lv_at hl 2 rfl) ?_
  refine lv_isub hx hb dX1_changed_14 ?_
  obtain ⟨r2, hc_r2, hm⟩ := bs hm
  refine k_calll0 (va_runV (As := [.long r1, .int ((x1 - 1) - x2)]) (rest := []) ⟨hx, hb, hml, hown, hts⟩ (c_X1_afterZeros l G cs H.size   sa sw s_k s_m s_t s_p s_b s_f s_l s_wl s_wf r1 ((x1 - 1) - x2) n r2 hc_r2) (cwV 2 hts gX1_changed_X1_afterZeros rfl rfl rfl ⟨rfl, hd_X1_afterZeros⟩ ⟨Nat.le_of_ble_eq_true rfl, Nat.le_of_ble_eq_true rfl⟩) ⟨pre_blind, va_recv hK.1 (roP hS hT.1 hT.2) (ci := 1) (q0 := 0) rfl rfl, pre_w hK (RO.at hS hRo) P0 D0 (va_new0 hS hA)⟩ rfl rfl hl.1 rfl (lv_room (Nat.le_of_ble_eq_true rfl)) dX1_changed_15 ⟨Nat.zero_le _, Nat.zero_le _⟩) hP hS hA (fun H locs hP hS => ?_)
  have hq := Option.some.inj hm
  subst hq; subst hQ
  exact k_lret hx hb hr hlocks hP hD hS rfl dX1_changed_18

theorem hd_X1_carried : yX1_carried.cls ≠ "java/lang/invoke/MethodHandle" ∧ yX1_carried.cls ≠ "java/lang/invoke/VarHandle" ∧ (parseMethodDescriptor yX1_carried.desc).map (fun d => d.parameters.length) = some 2 := by decide +kernel

def M_X1_carried (n : Nat) (x1 : Int64) (x3 : Int32) (s_m : Int32) (s_p : Int64) (s_b : Int64) (s_f : Int64) : Option Int64 :=
  (M_X1_afterZeros n ((x1 ^^^ s_f) ^^^ s_b) x3 s_m s_p).bind fun r1 => some r1

abbrev rmX1_carried : Room := { frames := 3, cells := 0, slots := 0, locals := 72 }
set_option maxHeartbeats 4000000 in
set_option maxRecDepth 100000 in
theorem c_X1_carried (l : Launch) (G : va_G) (cs : CS) (sz : Nat)   (sa sw : Nat) (s_k : Int32) (s_m : Int32) (s_t : Int32) (s_p : Int64) (s_b : Int64) (s_f : Int64) (s_l : Int32) (s_wl : Nat) (s_wf : (Nat → Int32)) (x1 : Int64) (x3 : Int32) (n : Nat) (res : Int64) (hm : M_X1_carried n x1 x3 s_m s_p s_b s_f = some res) : Met l yX1_carried wsX1_carried rmX1_carried (va_Pc [.ref sa, .long x1, .int x3] (PreW G cs sz [] (fun _ => some (sa, sw, (1, s_k, s_m, s_t, s_p, s_b, s_f, s_l, s_wl, s_wf))))) (QL G res [] (va_A [] sz)) 0 0 (va_A [] sz) := by
  refine k_enter (Qf := fun A => QL G res [] A) (cc := cX1_carried) (maxL := 4) (ret := (some .long)) (plainFor_of_name (by decide)) rfl (Nat.le_of_ble_eq_true rfl) ?_
  intro p e s m args below meth c A Q ls H locs hx hb hr hml hown hts hlocks hname hK hA hRo hP hD hS hQ hl
  have hl : lv_has ls 4 [(0, .ref sa), (1, .long x1), (3, .int x3)] := hl
  have hT : va_P G vwCl [(sa, .inr (1, [.int s_k, .int s_m, .long s_p, .int s_l, .long s_b, .long s_f]))] s.heap ∧ ¬ A sa := ⟨(hRo 0 _ rfl).1, (hRo 0 _ rfl).2.1⟩
  have wd1 := hts (.fieldLink RX1 22 "SumSmith$Divided" "finish" "J") (List.mem_of_getElem? (i := 1) rfl)
  have wd2 := hts (.fieldLink RX1 19 "SumSmith$Divided" "begin" "J") (List.mem_of_getElem? (i := 2) rfl)
  have hinX1 : ∀ w ∈ wsX10, w ∈ wsX1_carried := fun w h => List.mem_cons_of_mem _ (List.mem_append_right _ h)
  unfold M_X1_carried at hm
  refine lv_aload_n hx hb dX1_carried_0 rfl (lv_at hl 0 rfl) ?_
  refine lv_lload_n hx hb dX1_carried_1 rfl (lv_at hl 1 rfl) ?_
  refine lv_aload_n hx hb dX1_carried_2 rfl (lv_at hl 0 rfl) ?_
  refine va_get (D := G) (ci := 1) (v := .long s_f) (C := RX1) (T := TX1) (N := 6) hx hb hts hinX1 hown hK.1 (roP hS hT.1 hT.2) 0 rfl rfl 5 (by decide) wd1 (fun _ h9 => h9) rfl dX1_carried_3 ?_
  refine lv_lxor hx hb dX1_carried_6 ?_
  refine lv_aload_n hx hb dX1_carried_7 rfl (lv_at hl 0 rfl) ?_
  refine va_get (D := G) (ci := 1) (v := .long s_b) (C := RX1) (T := TX1) (N := 6) hx hb hts hinX1 hown hK.1 (roP hS hT.1 hT.2) 0 rfl rfl 4 (by decide) wd2 (fun _ h9 => h9) rfl dX1_carried_8 ?_
  refine lv_lxor hx hb dX1_carried_11 ?_
  refine lv_iload_n hx hb dX1_carried_12 rfl (lv_at hl 2 rfl) ?_
  obtain ⟨r1, hc_r1, hm⟩ := bs hm
  refine k_calll0 (va_runV (As := [.long ((x1 ^^^ s_f) ^^^ s_b), .int x3]) (rest := []) ⟨hx, hb, hml, hown, hts⟩ (c_X1_afterZeros l G cs H.size   sa sw s_k s_m s_t s_p s_b s_f s_l s_wl s_wf ((x1 ^^^ s_f) ^^^ s_b) x3 n r1 hc_r1) (cwV 2 hts gX1_carried_X1_afterZeros rfl rfl rfl ⟨rfl, hd_X1_afterZeros⟩ ⟨Nat.le_of_ble_eq_true rfl, Nat.le_of_ble_eq_true rfl⟩) ⟨pre_blind, va_recv hK.1 (roP hS hT.1 hT.2) (ci := 1) (q0 := 0) rfl rfl, pre_w hK (RO.at hS hRo) P0 D0 (va_new0 hS hA)⟩ rfl rfl hl.1 rfl (lv_room (Nat.le_of_ble_eq_true rfl)) dX1_carried_13 ⟨Nat.zero_le _, Nat.zero_le _⟩) hP hS hA (fun H locs hP hS => ?_)
  have hq := Option.some.inj hm
  subst hq; subst hQ
  exact k_lret hx hb hr hlocks hP hD hS rfl dX1_carried_16

theorem hd_X1_withoutLeadingZero : yX1_withoutLeadingZero.cls ≠ "java/lang/invoke/MethodHandle" ∧ yX1_withoutLeadingZero.cls ≠ "java/lang/invoke/VarHandle" ∧ (parseMethodDescriptor yX1_withoutLeadingZero.desc).map (fun d => d.parameters.length) = some 2 := by decide +kernel

def M_X1_withoutLeadingZero (n : Nat) (x1 : Int64) (x3 : Int32) (s_m : Int32) (s_p : Int64) (s_b : Int64) (s_l : Int32) : Option Int64 :=
  (M_X1_afterByte n s_b (0 : Int32) s_m s_p s_l).bind fun r1 => (M_X1_afterZeros n (r1 ^^^ s_b) (x3 - 1) s_m s_p).bind fun r2 => some (x1 ^^^ r2)

abbrev rmX1_withoutLeadingZero : Room := { frames := 3, cells := 0, slots := 0, locals := 74 }
set_option maxHeartbeats 4000000 in
set_option maxRecDepth 100000 in
theorem c_X1_withoutLeadingZero (l : Launch) (G : va_G) (cs : CS) (sz : Nat)   (sa sw : Nat) (s_k : Int32) (s_m : Int32) (s_t : Int32) (s_p : Int64) (s_b : Int64) (s_f : Int64) (s_l : Int32) (s_wl : Nat) (s_wf : (Nat → Int32)) (x1 : Int64) (x3 : Int32) (n : Nat) (res : Int64) (hm : M_X1_withoutLeadingZero n x1 x3 s_m s_p s_b s_l = some res) : Met l yX1_withoutLeadingZero wsX1_withoutLeadingZero rmX1_withoutLeadingZero (va_Pc [.ref sa, .long x1, .int x3] (PreW G cs sz [] (fun _ => some (sa, sw, (1, s_k, s_m, s_t, s_p, s_b, s_f, s_l, s_wl, s_wf))))) (QL G res [] (va_A [] sz)) 0 0 (va_A [] sz) := by
  refine k_enter (Qf := fun A => QL G res [] A) (cc := cX1_withoutLeadingZero) (maxL := 4) (ret := (some .long)) (plainFor_of_name (by decide)) rfl (Nat.le_of_ble_eq_true rfl) ?_
  intro p e s m args below meth c A Q ls H locs hx hb hr hml hown hts hlocks hname hK hA hRo hP hD hS hQ hl
  have hl : lv_has ls 4 [(0, .ref sa), (1, .long x1), (3, .int x3)] := hl
  have hT : va_P G vwCl [(sa, .inr (1, [.int s_k, .int s_m, .long s_p, .int s_l, .long s_b, .long s_f]))] s.heap ∧ ¬ A sa := ⟨(hRo 0 _ rfl).1, (hRo 0 _ rfl).2.1⟩
  have wd1 := hts (.fieldLink RX1 19 "SumSmith$Divided" "begin" "J") (List.mem_of_getElem? (i := 1) rfl)
  have hinX1 : ∀ w ∈ wsX10, w ∈ wsX1_withoutLeadingZero := fun w h => List.mem_cons_of_mem _ (List.mem_append_right _ h)
  unfold M_X1_withoutLeadingZero at hm
  refine lv_lload_n hx hb dX1_withoutLeadingZero_0 rfl (lv_at hl 1 rfl) ?_
  refine lv_aload_n hx hb dX1_withoutLeadingZero_1 rfl (lv_at hl 0 rfl) ?_
  refine lv_aload_n hx hb dX1_withoutLeadingZero_2 rfl (lv_at hl 0 rfl) ?_
  refine lv_aload_n hx hb dX1_withoutLeadingZero_3 rfl (lv_at hl 0 rfl) ?_
  refine va_get (D := G) (ci := 1) (v := .long s_b) (C := RX1) (T := TX1) (N := 6) hx hb hts hinX1 hown hK.1 (roP hS hT.1 hT.2) 0 rfl rfl 4 (by decide) wd1 (fun _ h9 => h9) rfl dX1_withoutLeadingZero_4 ?_
  refine lv_iconst (v := 0) hx hb dX1_withoutLeadingZero_7 (by decide) ?_
  obtain ⟨r1, hc_r1, hm⟩ := bs hm
  refine k_calll0 (va_runV (As := [.long s_b, .int 0]) (rest := [.ref sa, .long x1]) ⟨hx, hb, hml, hown, hts⟩ (c_X1_afterByte l G cs H.size   sa sw s_k s_m s_t s_p s_b s_f s_l s_wl s_wf s_b (0 : Int32) n r1 hc_r1) (cwV 2 hts gX1_withoutLeadingZero_X1_afterByte rfl rfl rfl ⟨rfl, hd_X1_afterByte⟩ ⟨Nat.le_of_ble_eq_true rfl, Nat.le_of_ble_eq_true rfl⟩) ⟨pre_blind, va_recv hK.1 (roP hS hT.1 hT.2) (ci := 1) (q0 := 0) rfl rfl, pre_w hK (RO.at hS hRo) P0 D0 (va_new0 hS hA)⟩ rfl rfl hl.1 rfl (lv_room (Nat.le_of_ble_eq_true rfl)) dX1_withoutLeadingZero_8 ⟨Nat.zero_le _, Nat.zero_le _⟩) hP hS hA (fun H locs hP hS => ?_)
  refine lv_aload_n hx hb dX1_withoutLeadingZero_11 rfl (lv_at hl 0 rfl) ?_
  refine va_get (D := G) (ci := 1) (v := .long s_b) (C := RX1) (T := TX1) (N := 6) hx hb hts hinX1 hown hK.1 (roP hS hT.1 hT.2) 0 rfl rfl 4 (by decide) wd1 (fun _ h9 => h9) rfl dX1_withoutLeadingZero_12 ?_
  refine lv_lxor hx hb dX1_withoutLeadingZero_15 ?_
  refine lv_iload_n hx hb dX1_withoutLeadingZero_16 rfl (lv_at hl 2 rfl) ?_
  refine lv_iconst (v := 1) hx hb dX1_withoutLeadingZero_17 (by decide) ?_
  refine lv_isub hx hb dX1_withoutLeadingZero_18 ?_
  obtain ⟨r2, hc_r2, hm⟩ := bs hm
  refine k_calll0 (va_runV (As := [.long (r1 ^^^ s_b), .int (x3 - 1)]) (rest := [.long x1]) ⟨hx, hb, hml, hown, hts⟩ (c_X1_afterZeros l G cs H.size   sa sw s_k s_m s_t s_p s_b s_f s_l s_wl s_wf (r1 ^^^ s_b) (x3 - 1) n r2 hc_r2) (cwV 2 hts gX1_withoutLeadingZero_X1_afterZeros rfl rfl rfl ⟨rfl, hd_X1_afterZeros⟩ ⟨Nat.le_of_ble_eq_true rfl, Nat.le_of_ble_eq_true rfl⟩) ⟨pre_blind, va_recv hK.1 (roP hS hT.1 hT.2) (ci := 1) (q0 := 0) rfl rfl, pre_w hK (RO.at hS hRo) P0 D0 (va_new0 hS hA)⟩ rfl rfl hl.1 rfl (lv_room (Nat.le_of_ble_eq_true rfl)) dX1_withoutLeadingZero_19 ⟨Nat.zero_le _, Nat.zero_le _⟩) hP hS hA (fun H locs hP hS => ?_)
  refine lv_lxor hx hb dX1_withoutLeadingZero_22 ?_
  have hq := Option.some.inj hm
  subst hq; subst hQ
  exact k_lret hx hb hr hlocks hP hD hS rfl dX1_withoutLeadingZero_23

theorem hd_X1_isByExclusiveOr : yX1_isByExclusiveOr.cls ≠ "java/lang/invoke/MethodHandle" ∧ yX1_isByExclusiveOr.cls ≠ "java/lang/invoke/VarHandle" ∧ (parseMethodDescriptor yX1_isByExclusiveOr.desc).map (fun d => d.parameters.length) = some 0 := by decide +kernel

def M_X1_isByExclusiveOr   : Int32 :=
  1

abbrev rmX1_isByExclusiveOr : Room := { frames := 0, cells := 0, slots := 0, locals := 0 }
set_option maxHeartbeats 4000000 in
set_option maxRecDepth 100000 in
theorem c_X1_isByExclusiveOr (l : Launch) (G : va_G) (cs : CS) (sz : Nat)   (sa sw : Nat) (s_k : Int32) (s_m : Int32) (s_t : Int32) (s_p : Int64) (s_b : Int64) (s_f : Int64) (s_l : Int32) (s_wl : Nat) (s_wf : (Nat → Int32))  (res : Int32) (hm : M_X1_isByExclusiveOr  = res) : Met l yX1_isByExclusiveOr wsX1_isByExclusiveOr rmX1_isByExclusiveOr (va_Pc [.ref sa] (PreW G cs sz [] (fun _ => some (sa, sw, (1, s_k, s_m, s_t, s_p, s_b, s_f, s_l, s_wl, s_wf))))) (QI G res (res = 0 ∨ res = 1) [] (va_A [] sz)) 0 0 (va_A [] sz) := by
  refine k_enter (Qf := fun A => QI G res (res = 0 ∨ res = 1) [] A) (cc := cX1_isByExclusiveOr) (maxL := 1) (ret := (some .boolean)) (plainFor_of_name (by decide)) rfl (Nat.le_of_ble_eq_true rfl) ?_
  intro p e s m args below meth c A Q ls H locs hx hb hr hml hown hts hlocks hname hK hA hRo hP hD hS hQ hl
  have hl : lv_has ls 1 [(0, .ref sa)] := hl
  have hT : va_P G vwCl [(sa, .inr (1, [.int s_k, .int s_m, .long s_p, .int s_l, .long s_b, .long s_f]))] s.heap ∧ ¬ A sa := ⟨(hRo 0 _ rfl).1, (hRo 0 _ rfl).2.1⟩
  unfold M_X1_isByExclusiveOr at hm
  refine lv_iconst (v := 1) hx hb dX1_isByExclusiveOr_0 (by decide) ?_
  have hq := hm
  subst hq; subst hQ
  exact k_zret hx hb hr hlocks hP hD hS rfl (by decide) dX1_isByExclusiveOr_1

theorem hd_X1_findPeriod : yX1_findPeriod.cls ≠ "java/lang/invoke/MethodHandle" ∧ yX1_findPeriod.cls ≠ "java/lang/invoke/VarHandle" ∧ (parseMethodDescriptor yX1_findPeriod.desc).map (fun d => d.parameters.length) = some 0 := by decide +kernel

def M_X1_findPeriod_b4 (n : Nat) (s_m : Int32) (s_p : Int64) (x1 : Int64) (x3 : Int32) : Option ((Int64 × Int32) ⊕ (Unit ⊕ Int32)) :=
  if 65535 < x3 then (some (.inr (.inl ()))) else (if x1 = 0 then (some (.inr (.inl ()))) else (if (M_X1_doubled x1 s_m s_p) = 1 then (some (.inr (.inr x3))) else (some (.inl ((M_X1_doubled x1 s_m s_p), x3 + 1)))))

def M_X1_findPeriod (n : Nat)  (s_m : Int32) (s_p : Int64) : Option Int32 :=
  (lp (fun x : (Int64 × Int32) => M_X1_findPeriod_b4 n s_m s_p x.1 x.2) n ((1 : Int64), (1 : Int32))).bind (Sum.elim (fun o4 => some (-1)) (fun r => some r))

abbrev rmX1_findPeriod : Room := { frames := 2, cells := 0, slots := 0, locals := 46 }
set_option maxHeartbeats 4000000 in
set_option maxRecDepth 100000 in
theorem c_X1_findPeriod (l : Launch) (G : va_G) (cs : CS) (sz : Nat)   (sa sw : Nat) (s_k : Int32) (s_m : Int32) (s_t : Int32) (s_p : Int64) (s_b : Int64) (s_f : Int64) (s_l : Int32) (s_wl : Nat) (s_wf : (Nat → Int32))  (n : Nat) (res : Int32) (hm : M_X1_findPeriod n s_m s_p = some res) : Met l yX1_findPeriod wsX1_findPeriod rmX1_findPeriod (va_Pc [.ref sa] (PreW G cs sz [] (fun _ => some (sa, sw, (1, s_k, s_m, s_t, s_p, s_b, s_f, s_l, s_wl, s_wf))))) (QI G res True [] (va_A [] sz)) 0 0 (va_A [] sz) := by
  refine k_enter (Qf := fun A => QI G res True [] A) (cc := cX1_findPeriod) (maxL := 4) (ret := (some .int)) (plainFor_of_name (by decide)) rfl (Nat.le_of_ble_eq_true rfl) ?_
  intro p e s m args below meth c A Q ls H locs hx hb hr hml hown hts hlocks hname hK hA hRo hP hD hS hQ hl
  have hl : lv_has ls 4 [(0, .ref sa)] := hl
  have hT : va_P G vwCl [(sa, .inr (1, [.int s_k, .int s_m, .long s_p, .int s_l, .long s_b, .long s_f]))] s.heap ∧ ¬ A sa := ⟨(hRo 0 _ rfl).1, (hRo 0 _ rfl).2.1⟩
  have wd1 := hts (.constant RX1 48 (65535)) (List.mem_of_getElem? (i := 1) rfl)
  have wd2 := hts (.fieldLink RX1 9 "SumSmith$Divided" "width" "I") (List.mem_of_getElem? (i := 2) rfl)
  have wd3 := hts (.fieldLink RX1 15 "SumSmith$Divided" "polynomial" "J") (List.mem_of_getElem? (i := 3) rfl)
  have hinX1 : ∀ w ∈ wsX10, w ∈ wsX1_findPeriod := fun w h => List.mem_cons_of_mem _ (List.mem_append_right _ h)
  have L4 : ∀ (x1 : Int64) (x3 : Int32) (out : (Unit ⊕ Int32)), lp (fun x : (Int64 × Int32) => M_X1_findPeriod_b4 n s_m s_p x.1 x.2) n (x1, x3) = some out → (∀ r, out = .inr r → r = res) → (∀ (o : Unit), out = .inl o → ∀ (H : Heap) (locs : List Loc), va_P G vwCl [] H → va_D A [] → va_S A s.heap H locs → ∀ (ls : Array Slot), lv_has ls 4 [] → W p l e rmX1_findPeriod s m args below meth c H locs 0 0 Q (F0 m 43 ls [])) → ∀ (H : Heap) (locs : List Loc), va_P G vwCl [] H → va_D A [] → va_S A s.heap H locs → ∀ (ls : Array Slot), lv_has ls 4 [(0, .ref sa), (1, .long x1), (3, .int x3)] → W p l e rmX1_findPeriod s m args below meth c H locs 0 0 Q (F0 m 4 ls []) := by
    intro x1 x3 out hlp hret hX
    refine lp_ind (fun x => ∀ (H : Heap) (locs : List Loc), va_P G vwCl [] H → va_D A [] → va_S A s.heap H locs → ∀ (ls : Array Slot), lv_has ls 4 [(0, .ref sa), (1, .long x.1), (3, .int x.2)] → W p l e rmX1_findPeriod s m args below meth c H locs 0 0 Q (F0 m 4 ls [])) ?_ n (x1, x3) hlp
    clear hlp hP hD hS hl
    rintro ⟨x1, x3⟩ ob hm hst H locs hP hD hS ls hl
    have hm : M_X1_findPeriod_b4 n s_m s_p x1 x3 = some ob := hm
    have hl : lv_has ls 4 [(0, .ref sa), (1, .long x1), (3, .int x3)] := hl
    have hP : va_P G vwCl [] H := hP
    have hD : va_D A [] := hD
    unfold M_X1_findPeriod_b4 at hm
    refine lv_iload_n hx hb dX1_findPeriod_4 rfl (lv_at hl 2 rfl) ?_
    refine lv_ldc (own := RX1) (v := 65535) hx hb hown wd1 dX1_findPeriod_5 ?_
    refine lv_icmp_gt (tgt := 43) hx hb dX1_findPeriod_7 (by decide) (fun b1 => ?_) (fun b1 => ?_)
    · have hm := i_t b1 hm
      exact hX _ (st_exit hm hst) H locs hP hD hS ls (lv_sub hl [] rfl)
    · have hm := i_f b1 hm
      refine lv_lload_n hx hb dX1_findPeriod_10 rfl (lv_at hl 1 rfl) ?_
      refine lv_lconst (v := 0) hx hb dX1_findPeriod_11 (by decide) ?_
      refine W.lcmp hx hb dX1_findPeriod_12 ?_
      refine lv_if_eq (tgt := 43) hx hb dX1_findPeriod_13 (by decide) (fun b2 => ?_) (fun b2 => ?_)
      · have b2 := (lg_cmp_eq _ _).mp b2
        have hm := i_t b2 hm
        exact hX _ (st_exit hm hst) H locs hP hD hS ls (lv_sub hl [] rfl)
      · have b2 := fun h9 => b2 ((lg_cmp_eq _ _).mpr h9)
        have hm := i_f b2 hm
        refine lv_lload_n hx hb dX1_findPeriod_16 rfl (lv_at hl 1 rfl) ?_
        refine lv_aload_n hx hb dX1_findPeriod_17 rfl (lv_at hl 0 rfl) ?_
        refine va_get (D := G) (ci := 1) (v := .int s_m) (C := RX1) (T := TX1) (N := 6) hx hb hts hinX1 hown hK.1 (roP hS hT.1 hT.2) 0 rfl rfl 1 (by decide) wd2 (fun _ h9 => h9) rfl dX1_findPeriod_18 ?_
        refine lv_aload_n hx hb dX1_findPeriod_21 rfl (lv_at hl 0 rfl) ?_
        refine va_get (D := G) (ci := 1) (v := .long s_p) (C := RX1) (T := TX1) (N := 6) hx hb hts hinX1 hown hK.1 (roP hS hT.1 hT.2) 0 rfl rfl 2 (by decide) wd3 (fun _ h9 => h9) rfl dX1_findPeriod_22 ?_
        refine k_calll0 (va_runS (As := [.long x1, .int s_m, .long s_p]) (rest := []) ⟨hx, hb, hml, hown, hts⟩ (c_X1_doubled l G cs H.size    x1 s_m s_p _ rfl) (va_cwS 3 hts gX1_findPeriod_X1_doubled rfl rfl rfl hd_X1_doubled ⟨Nat.le_of_ble_eq_true rfl, Nat.le_of_ble_eq_true rfl⟩) ⟨pre_blind, pre_w hK RO.nil P0 D0 (va_new0 hS hA)⟩ rfl rfl hl.1 rfl (lv_room (Nat.le_of_ble_eq_true rfl)) dX1_findPeriod_25 ⟨Nat.zero_le _, Nat.zero_le _⟩) hP hS hA (fun H locs hP hS => ?_)
        refine lv_lstore_n (lv' := [(1, .long (M_X1_doubled x1 s_m s_p)), (0, .ref sa), (3, .int x3)]) hx hb dX1_findPeriod_28 rfl hl (by decide) rfl (fun ls hl => ?_)
        refine lv_lload_n hx hb dX1_findPeriod_29 rfl (lv_at hl 0 rfl) ?_
        refine lv_lconst (v := 1) hx hb dX1_findPeriod_30 (by decide) ?_
        refine W.lcmp hx hb dX1_findPeriod_31 ?_
        refine lv_if_ne (tgt := 37) hx hb dX1_findPeriod_32 (by decide) (fun b3 => ?_) (fun b3 => ?_)
        · have b3 := fun h9 => b3 ((lg_cmp_eq _ _).mpr h9)
          have hm := i_f b3 hm
          refine lv_iinc (v := x3 + 1) (lv' := [(3, .int (x3 + 1)), (1, .long (M_X1_doubled x1 s_m s_p)), (0, .ref sa)]) hx hb dX1_findPeriod_37 hl (k := 2) rfl rfl (by decide) rfl (fun ls hl => ?_)
          refine lv_goto (tgt := 4) hx hb dX1_findPeriod_40 (by decide) ?_
          exact st_next hm hst H locs hP hD hS ls (lv_sub hl [2, 1, 0] rfl)
        · have b3 := (lg_cmp_eq _ _).mp b3
          have hm := i_t b3 hm
          refine lv_iload_n hx hb dX1_findPeriod_35 rfl (lv_at hl 2 rfl) ?_
          have hq := hret _ (st_exit hm hst)
          subst hq; subst hQ
          exact k_iret hx hb hr hlocks hP hD hS rfl trivial dX1_findPeriod_36
  unfold M_X1_findPeriod at hm
  refine lv_lconst (v := 1) hx hb dX1_findPeriod_0 (by decide) ?_
  refine lv_lstore_n (lv' := [(1, .long 1), (0, .ref sa)]) hx hb dX1_findPeriod_1 rfl hl (by decide) rfl (fun ls hl => ?_)
  refine lv_iconst (v := 1) hx hb dX1_findPeriod_2 (by decide) ?_
  refine lv_istore_n (lv' := [(3, .int 1), (1, .long 1), (0, .ref sa)]) hx hb dX1_findPeriod_3 rfl hl (by decide) rfl (fun ls hl => ?_)
  obtain ⟨u4, hlp4, hm⟩ := bs hm
  refine L4 (1 : Int64) (1 : Int32) u4 hlp4 (fun r h => Option.some.inj (se_r h hm)) (fun o4 ho => ?_) H locs hP hD hS ls (lv_sub hl [2, 1, 0] rfl)
  have hm := se_l ho hm
  intro H locs hP hD hS ls hl
  have hl : lv_has ls 4 [] := hl
  have hP : va_P G vwCl [] H := hP
  have hD : va_D A [] := hD
  refine lv_iconst (v := (-1)) hx hb dX1_findPeriod_43 (by decide) ?_
  have hq := Option.some.inj hm
  subst hq; subst hQ
  exact k_iret hx hb hr hlocks hP hD hS rfl trivial dX1_findPeriod_44

theorem hd_X5_cell : yX5_cell.cls ≠ "java/lang/invoke/MethodHandle" ∧ yX5_cell.cls ≠ "java/lang/invoke/VarHandle" ∧ (parseMethodDescriptor yX5_cell.desc).map (fun d => d.parameters.length) = some 2 := by decide +kernel

def M_X5_cell (x1 : Int32) (x2 : Int32) (s_m : Int32) (s_wl : Nat) (s_wf : (Nat → Int32)) : Option Int32 :=
  if ((s_m * x1) + x2) < 0 ∨ s_wl ≤ ((s_m * x1) + x2).toNatClampNeg then none else some (s_wf ((s_m * x1) + x2).toNatClampNeg)

abbrev rmX5_cell : Room := { frames := 0, cells := 0, slots := 0, locals := 0 }
set_option maxHeartbeats 4000000 in
set_option maxRecDepth 100000 in
theorem c_X5_cell (l : Launch) (G : va_G) (cs : CS) (sz : Nat)   (sa sw : Nat) (s_k : Int32) (s_m : Int32) (s_t : Int32) (s_p : Int64) (s_b : Int64) (s_f : Int64) (s_l : Int32) (s_wl : Nat) (s_wf : (Nat → Int32)) (x1 : Int32) (x2 : Int32) (res : Int32) (hm : M_X5_cell x1 x2 s_m s_wl s_wf = some res) : Met l yX5_cell wsX5_cell rmX5_cell (va_Pc [.ref sa, .int x1, .int x2] (PreW G cs sz [] (fun _ => some (sa, sw, (4, s_k, s_m, s_t, s_p, s_b, s_f, s_l, s_wl, s_wf))))) (QI G res True [] (va_A [] sz)) 0 0 (va_A [] sz) := by
  refine k_enter (Qf := fun A => QI G res True [] A) (cc := cX5_cell) (maxL := 3) (ret := (some .int)) (plainFor_of_name (by decide)) rfl (Nat.le_of_ble_eq_true rfl) ?_
  intro p e s m args below meth c A Q ls H locs hx hb hr hml hown hts hlocks hname hK hA hRo hP hD hS hQ hl
  have hl : lv_has ls 3 [(0, .ref sa), (1, .int x1), (2, .int x2)] := hl
  have hT : va_P G vwCl [(sa, .inr (4, [.int s_k, .int s_m, .ref sw]))] s.heap ∧ ¬ A sa := ⟨(hRo 0 _ rfl).1, (hRo 0 _ rfl).2.1⟩
  have hX : va_X sw s_wl s_wf s s.heap ∧ ¬ A sw := (hRo 0 _ rfl).2.2 (Or.inr rfl)
  have wd1 := hts (.fieldLink RX5 15 "SumSmith$Square" "cells" "[I") (List.mem_of_getElem? (i := 1) rfl)
  have wd2 := hts (.fieldLink RX5 9 "SumSmith$Square" "size" "I") (List.mem_of_getElem? (i := 2) rfl)
  have hinX5 : ∀ w ∈ wsX50, w ∈ wsX5_cell := fun w h => List.mem_cons_of_mem _ (List.mem_append_right _ h)
  unfold M_X5_cell at hm
  refine lv_aload_n hx hb dX5_cell_0 rfl (lv_at hl 0 rfl) ?_
  refine va_get (D := G) (ci := 4) (v := .ref sw) (C := RX5) (T := TX5) (N := 3) hx hb hts hinX5 hown hK.1 (roP hS hT.1 hT.2) 0 rfl rfl 2 (by decide) wd1 (fun _ h9 => h9) rfl dX5_cell_1 ?_
  refine lv_aload_n hx hb dX5_cell_4 rfl (lv_at hl 0 rfl) ?_
  refine va_get (D := G) (ci := 4) (v := .int s_m) (C := RX5) (T := TX5) (N := 3) hx hb hts hinX5 hown hK.1 (roP hS hT.1 hT.2) 0 rfl rfl 1 (by decide) wd2 (fun _ h9 => h9) rfl dX5_cell_5 ?_
  refine lv_iload_n hx hb dX5_cell_8 rfl (lv_at hl 1 rfl) ?_
  refine lv_imul hx hb dX5_cell_9 ?_
  refine lv_iload_n hx hb dX5_cell_10 rfl (lv_at hl 2 rfl) ?_
  refine lv_iadd hx hb dX5_cell_11 ?_
  obtain ⟨h1, hm⟩ := g_in hm
  refine va_sld hx hb hX.1 hX.1.lt hX.2 hS h1 dX5_cell_12 ?_
  have hq := Option.some.inj hm
  subst hq; subst hQ
  exact k_iret hx hb hr hlocks hP hD hS rfl trivial dX5_cell_13

theorem hd_X5_ofRow : yX5_ofRow.cls ≠ "java/lang/invoke/MethodHandle" ∧ yX5_ofRow.cls ≠ "java/lang/invoke/VarHandle" ∧ (parseMethodDescriptor yX5_ofRow.desc).map (fun d => d.parameters.length) = some 2 := by decide +kernel

def M_X5_ofRow_b5 (n : Nat) (x2 : Int32) (v_p1 : (Nat → Int32)) (n1 : Nat) (s_m : Int32) (s_wl : Nat) (s_wf : (Nat → Int32)) (x3 : Int32) (x4 : Int32) : Option ((Int32 × Int32) ⊕ (Int32 ⊕ Int64)) :=
  if x2 ≤ x4 then (some (.inr (.inl x3))) else (if x4 < 0 ∨ n1 ≤ x4.toNatClampNeg then none else if (v_p1 x4.toNatClampNeg) < s_m then (if x4 < 0 ∨ n1 ≤ x4.toNatClampNeg then none else (M_X5_cell x3 (v_p1 x4.toNatClampNeg) s_m s_wl s_wf).bind fun r5 => some (.inl (r5, x4 + 1))) else (some (.inr (.inr (-5)))))

def M_X5_ofRow (n : Nat) (x2 : Int32) (v_p1 : (Nat → Int32)) (n1 : Nat) (s_m : Int32) (s_wl : Nat) (s_wf : (Nat → Int32)) : Option Int64 :=
  (lp (fun x : (Int32 × Int32) => M_X5_ofRow_b5 n x2 v_p1 n1 s_m s_wl s_wf x.1 x.2) n ((0 : Int32), (0 : Int32))).bind (Sum.elim (fun o7 => some o7.toInt64) (fun r => some r))

abbrev ww_X5_ofRow (cs : CS) (v_p1 : (Nat → Int32)) (a1 : Nat) (n1 : Nat) : va_W := [(a1, .inl (cs.1, n1, .inl v_p1))]

abbrev rmX5_ofRow : Room := { frames := 1, cells := 0, slots := 0, locals := 22 }
set_option maxHeartbeats 4000000 in
set_option maxRecDepth 100000 in
theorem c_X5_ofRow (l : Launch) (G : va_G) (cs : CS) (sz : Nat) (v_p1 : (Nat → Int32)) (a1 : Nat) (sa sw : Nat) (n1 : Nat) (s_k : Int32) (s_m : Int32) (s_t : Int32) (s_p : Int64) (s_b : Int64) (s_f : Int64) (s_l : Int32) (s_wl : Nat) (s_wf : (Nat → Int32)) (x2 : Int32) (n : Nat) (res : Int64) (hm : M_X5_ofRow n x2 v_p1 n1 s_m s_wl s_wf = some res) : Met l yX5_ofRow wsX5_ofRow rmX5_ofRow (va_Pc [.ref sa, .ref a1, .int x2] (PreW G cs sz (ww_X5_ofRow cs v_p1 a1 n1) (fun _ => some (sa, sw, (4, s_k, s_m, s_t, s_p, s_b, s_f, s_l, s_wl, s_wf))))) (QL G res (ww_X5_ofRow cs v_p1 a1 n1) (va_A (ww_X5_ofRow cs v_p1 a1 n1) sz)) 0 0 (va_A (ww_X5_ofRow cs v_p1 a1 n1) sz) := by
  refine k_enter (Qf := fun A => QL G res (ww_X5_ofRow cs v_p1 a1 n1) A) (cc := cX5_ofRow) (maxL := 5) (ret := (some .long)) (plainFor_of_name (by decide)) rfl (Nat.le_of_ble_eq_true rfl) ?_
  intro p e s m args below meth c A Q ls H locs hx hb hr hml hown hts hlocks hname hK hA hRo hP hD hS hQ hl
  have hl : lv_has ls 5 [(0, .ref sa), (1, .ref a1), (2, .int x2)] := hl
  have hT : va_P G vwCl [(sa, .inr (4, [.int s_k, .int s_m, .ref sw]))] s.heap ∧ ¬ A sa := ⟨(hRo 0 _ rfl).1, (hRo 0 _ rfl).2.1⟩
  have hX : va_X sw s_wl s_wf s s.heap ∧ ¬ A sw := (hRo 0 _ rfl).2.2 (Or.inr rfl)
  have wd1 := hts (.fieldLink RX5 9 "SumSmith$Square" "size" "I") (List.mem_of_getElem? (i := 1) rfl)
  have wd2 := hts (.constantLong RX5 19 (-5)) (List.mem_of_getElem? (i := 2) rfl)
  have hinX5 : ∀ w ∈ wsX50, w ∈ wsX5_ofRow := fun w h => List.mem_cons_of_mem _ (List.mem_append_right _ h)
  have L5 : ∀ (x2 : Int32) (x3 : Int32) (x4 : Int32) (out : (Int32 ⊕ Int64)), lp (fun x : (Int32 × Int32) => M_X5_ofRow_b5 n x2 v_p1 n1 s_m s_wl s_wf x.1 x.2) n (x3, x4) = some out → (∀ r, out = .inr r → r = res) → (∀ (o : Int32), out = .inl o → ∀ (H : Heap) (locs : List Loc), va_P G vwCl (ww_X5_ofRow cs v_p1 a1 n1) H → va_D A (ww_X5_ofRow cs v_p1 a1 n1) → va_S A s.heap H locs → ∀ (ls : Array Slot), lv_has ls 5 [(3, .int o)] → W p l e rmX5_ofRow s m args below meth c H locs 0 0 Q (F0 m 42 ls [])) → ∀ (H : Heap) (locs : List Loc), va_P G vwCl (ww_X5_ofRow cs v_p1 a1 n1) H → va_D A (ww_X5_ofRow cs v_p1 a1 n1) → va_S A s.heap H locs → ∀ (ls : Array Slot), lv_has ls 5 [(0, .ref sa), (1, .ref a1), (2, .int x2), (3, .int x3), (4, .int x4)] → W p l e rmX5_ofRow s m args below meth c H locs 0 0 Q (F0 m 5 ls []) := by
    intro x2 x3 x4 out hlp hret hX
    refine lp_ind (fun x => ∀ (H : Heap) (locs : List Loc), va_P G vwCl (ww_X5_ofRow cs v_p1 a1 n1) H → va_D A (ww_X5_ofRow cs v_p1 a1 n1) → va_S A s.heap H locs → ∀ (ls : Array Slot), lv_has ls 5 [(0, .ref sa), (1, .ref a1), (2, .int x2), (3, .int x.1), (4, .int x.2)] → W p l e rmX5_ofRow s m args below meth c H locs 0 0 Q (F0 m 5 ls [])) ?_ n (x3, x4) hlp
    clear hlp hP hD hS hl
    rintro ⟨x3, x4⟩ ob hm hst H locs hP hD hS ls hl
    have hm : M_X5_ofRow_b5 n x2 v_p1 n1 s_m s_wl s_wf x3 x4 = some ob := hm
    have hl : lv_has ls 5 [(0, .ref sa), (1, .ref a1), (2, .int x2), (3, .int x3), (4, .int x4)] := hl
    have hP : va_P G vwCl (ww_X5_ofRow cs v_p1 a1 n1) H := hP
    have hD : va_D A (ww_X5_ofRow cs v_p1 a1 n1) := hD
    unfold M_X5_ofRow_b5 at hm
    refine lv_iload hx hb dX5_ofRow_5 (lv_at hl 4 rfl) ?_
    refine lv_iload_n hx hb dX5_ofRow_7 rfl (lv_at hl 2 rfl) ?_
    refine lv_icmp_ge (tgt := 42) hx hb dX5_ofRow_8 (by decide) (fun b1 => ?_) (fun b1 => ?_)
    · have hm := i_t b1 hm
      exact hX _ (st_exit hm hst) H locs hP hD hS ls (lv_sub hl [3] rfl)
    · have hm := i_f b1 hm
      refine lv_aload_n hx hb dX5_ofRow_11 rfl (lv_at hl 1 rfl) ?_
      refine lv_iload hx hb dX5_ofRow_12 (lv_at hl 4 rfl) ?_
      obtain ⟨h2, hm⟩ := g_in hm
      refine va_iald hx hb hK.1 hP 0 0 rfl rfl h2 dX5_ofRow_14 ?_
      refine lv_aload_n hx hb dX5_ofRow_15 rfl (lv_at hl 0 rfl) ?_
      refine va_get (D := G) (ci := 4) (v := .int s_m) (C := RX5) (T := TX5) (N := 3) hx hb hts hinX5 hown hK.1 (roP hS hT.1 hT.2) 0 rfl rfl 1 (by decide) wd1 (fun _ h9 => h9) rfl dX5_ofRow_16 ?_
      refine lv_icmp_lt (tgt := 26) hx hb dX5_ofRow_19 (by decide) (fun b3 => ?_) (fun b3 => ?_)
      · have hm := i_t b3 hm
        refine lv_aload_n hx hb dX5_ofRow_26 rfl (lv_at hl 0 rfl) ?_
        refine lv_iload_n hx hb dX5_ofRow_27 rfl (lv_at hl 3 rfl) ?_
        refine lv_aload_n hx hb dX5_ofRow_28 rfl (lv_at hl 1 rfl) ?_
        refine lv_iload hx hb dX5_ofRow_29 (lv_at hl 4 rfl) ?_
        obtain ⟨h4, hm⟩ := g_in hm
        refine va_iald hx hb hK.1 hP 0 0 rfl rfl h4 dX5_ofRow_31 ?_
        obtain ⟨r5, hc_r5, hm⟩ := bs hm
        refine k_calli0 (va_runV (As := [.int x3, .int (v_p1 x4.toNatClampNeg)]) (rest := []) ⟨hx, hb, hml, hown, hts⟩ (c_X5_cell l G cs H.size   sa sw s_k s_m s_t s_p s_b s_f s_l s_wl s_wf x3 (v_p1 x4.toNatClampNeg) r5 hc_r5) (cwV 2 hts gX5_ofRow_X5_cell rfl rfl rfl ⟨rfl, hd_X5_cell⟩ ⟨Nat.le_of_ble_eq_true rfl, Nat.le_of_ble_eq_true rfl⟩) ⟨pre_blind, va_recv hK.1 (roP hS hT.1 hT.2) (ci := 4) (q0 := 0) rfl rfl, pre_w hK (RO.at hS hRo) P0 D0 (va_new0 hS hA)⟩ rfl rfl hl.1 rfl (lv_room (Nat.le_of_ble_eq_true rfl)) dX5_ofRow_32 ⟨Nat.zero_le _, Nat.zero_le _⟩) hP hS hA (fun hE6 H locs hP hS => ?_)
        refine lv_istore_n (lv' := [(3, .int r5), (0, .ref sa), (1, .ref a1), (2, .int x2), (4, .int x4)]) hx hb dX5_ofRow_35 rfl hl (by decide) rfl (fun ls hl => ?_)
        refine lv_iinc (v := x4 + 1) (lv' := [(4, .int (x4 + 1)), (3, .int r5), (0, .ref sa), (1, .ref a1), (2, .int x2)]) hx hb dX5_ofRow_36 hl (k := 4) rfl rfl (by decide) rfl (fun ls hl => ?_)
        refine lv_goto (tgt := 5) hx hb dX5_ofRow_39 (by decide) ?_
        exact st_next hm hst H locs hP hD hS ls (lv_sub hl [2, 3, 4, 1, 0] rfl)
      · have hm := i_f b3 hm
        refine lv_ldc2 (own := RX5) (v := (-5)) hx hb hown wd2 dX5_ofRow_22 ?_
        have hq := hret _ (st_exit hm hst)
        subst hq; subst hQ
        exact k_lret hx hb hr hlocks hP hD hS rfl dX5_ofRow_25
  unfold M_X5_ofRow at hm
  refine lv_iconst (v := 0) hx hb dX5_ofRow_0 (by decide) ?_
  refine lv_istore_n (lv' := [(3, .int 0), (0, .ref sa), (1, .ref a1), (2, .int x2)]) hx hb dX5_ofRow_1 rfl hl (by decide) rfl (fun ls hl => ?_)
  refine lv_iconst (v := 0) hx hb dX5_ofRow_2 (by decide) ?_
  refine lv_istore (lv' := [(4, .int 0), (3, .int 0), (0, .ref sa), (1, .ref a1), (2, .int x2)]) hx hb dX5_ofRow_3 hl (by decide) rfl (fun ls hl => ?_)
  obtain ⟨u7, hlp7, hm⟩ := bs hm
  refine L5 x2 (0 : Int32) (0 : Int32) u7 hlp7 (fun r h => Option.some.inj (se_r h hm)) (fun o7 ho => ?_) H locs hP hD hS ls (lv_sub hl [2, 3, 4, 1, 0] rfl)
  have hm := se_l ho hm
  intro H locs hP hD hS ls hl
  have hl : lv_has ls 5 [(3, .int o7)] := hl
  have hP : va_P G vwCl (ww_X5_ofRow cs v_p1 a1 n1) H := hP
  have hD : va_D A (ww_X5_ofRow cs v_p1 a1 n1) := hD
  refine lv_iload_n hx hb dX5_ofRow_42 rfl (lv_at hl 0 rfl) ?_
  refine lv_i2l (v := o7.toInt64) hx hb dX5_ofRow_43 rfl ?_
  have hq := Option.some.inj hm
  subst hq; subst hQ
  exact k_lret hx hb hr hlocks hP hD hS rfl dX5_ofRow_44

theorem hd_X5_seesSingles : yX5_seesSingles.cls ≠ "java/lang/invoke/MethodHandle" ∧ yX5_seesSingles.cls ≠ "java/lang/invoke/VarHandle" ∧ (parseMethodDescriptor yX5_seesSingles.desc).map (fun d => d.parameters.length) = some 0 := by decide +kernel

def M_X5_seesSingles_b24 (n : Nat) (x1 : Int32) (x2 : Int32) (s_m : Int32) (s_wl : Nat) (s_wf : (Nat → Int32)) (x3 : Int32) : Option (Int32 ⊕ (Unit ⊕ Int32)) :=
  if s_m ≤ x3 then (some (.inr (.inl ()))) else ((M_X5_cell x1 x2 s_m s_wl s_wf).bind fun r4 => (M_X5_cell x1 x3 s_m s_wl s_wf).bind fun r6 => if r4 = r6 then (some (.inr (.inr 0))) else ((M_X5_cell x2 x1 s_m s_wl s_wf).bind fun r9 => (M_X5_cell x3 x1 s_m s_wl s_wf).bind fun r11 => if r9 = r11 then (some (.inr (.inr 0))) else (some (.inl (x3 + 1)))))

def M_X5_seesSingles_b12 (n : Nat) (x1 : Int32) (s_m : Int32) (s_wl : Nat) (s_wf : (Nat → Int32)) (x2 : Int32) : Option (Int32 ⊕ (Unit ⊕ Int32)) :=
  if s_m ≤ x2 then (some (.inr (.inl ()))) else ((lp (fun x : Int32 => M_X5_seesSingles_b24 n x1 x2 s_m s_wl s_wf x) n (x2 + 1)).bind (Sum.elim (fun o14 => some (.inl (x2 + 1))) (fun r => some (.inr (.inr r)))))

def M_X5_seesSingles_b2 (n : Nat) (s_m : Int32) (s_wl : Nat) (s_wf : (Nat → Int32)) (x1 : Int32) : Option (Int32 ⊕ (Unit ⊕ Int32)) :=
  if s_m ≤ x1 then (some (.inr (.inl ()))) else ((lp (fun x : Int32 => M_X5_seesSingles_b12 n x1 s_m s_wl s_wf x) n (0 : Int32)).bind (Sum.elim (fun o15 => some (.inl (x1 + 1))) (fun r => some (.inr (.inr r)))))

def M_X5_seesSingles (n : Nat)  (s_m : Int32) (s_wl : Nat) (s_wf : (Nat → Int32)) : Option Int32 :=
  (lp (fun x : Int32 => M_X5_seesSingles_b2 n s_m s_wl s_wf x) n (0 : Int32)).bind (Sum.elim (fun o16 => some 1) (fun r => some r))

abbrev rmX5_seesSingles : Room := { frames := 1, cells := 0, slots := 0, locals := 22 }
set_option maxHeartbeats 4000000 in
set_option maxRecDepth 100000 in
theorem c_X5_seesSingles (l : Launch) (G : va_G) (cs : CS) (sz : Nat)   (sa sw : Nat) (s_k : Int32) (s_m : Int32) (s_t : Int32) (s_p : Int64) (s_b : Int64) (s_f : Int64) (s_l : Int32) (s_wl : Nat) (s_wf : (Nat → Int32))  (n : Nat) (res : Int32) (hm : M_X5_seesSingles n s_m s_wl s_wf = some res) : Met l yX5_seesSingles wsX5_seesSingles rmX5_seesSingles (va_Pc [.ref sa] (PreW G cs sz [] (fun _ => some (sa, sw, (4, s_k, s_m, s_t, s_p, s_b, s_f, s_l, s_wl, s_wf))))) (QI G res (res = 0 ∨ res = 1) [] (va_A [] sz)) 0 0 (va_A [] sz) := by
  refine k_enter (Qf := fun A => QI G res (res = 0 ∨ res = 1) [] A) (cc := cX5_seesSingles) (maxL := 4) (ret := (some .boolean)) (plainFor_of_name (by decide)) rfl (Nat.le_of_ble_eq_true rfl) ?_
  intro p e s m args below meth c A Q ls H locs hx hb hr hml hown hts hlocks hname hK hA hRo hP hD hS hQ hl
  have hl : lv_has ls 4 [(0, .ref sa)] := hl
  have hT : va_P G vwCl [(sa, .inr (4, [.int s_k, .int s_m, .ref sw]))] s.heap ∧ ¬ A sa := ⟨(hRo 0 _ rfl).1, (hRo 0 _ rfl).2.1⟩
  have hX : va_X sw s_wl s_wf s s.heap ∧ ¬ A sw := (hRo 0 _ rfl).2.2 (Or.inr rfl)
  have wd1 := hts (.fieldLink RX5 9 "SumSmith$Square" "size" "I") (List.mem_of_getElem? (i := 1) rfl)
  have hinX5 : ∀ w ∈ wsX50, w ∈ wsX5_seesSingles := fun w h => List.mem_cons_of_mem _ (List.mem_append_right _ h)
  have L24 : ∀ (x1 : Int32) (x2 : Int32) (x3 : Int32) (out : (Unit ⊕ Int32)), lp (fun x : Int32 => M_X5_seesSingles_b24 n x1 x2 s_m s_wl s_wf x) n x3 = some out → (∀ r, out = .inr r → r = res) → (∀ (o : Unit), out = .inl o → ∀ (H : Heap) (locs : List Loc), va_P G vwCl [] H → va_D A [] → va_S A s.heap H locs → ∀ (ls : Array Slot), lv_has ls 4 [(0, .ref sa), (1, .int x1), (2, .int x2)] → W p l e rmX5_seesSingles s m args below meth c H locs 0 0 Q (F0 m 70 ls [])) → ∀ (H : Heap) (locs : List Loc), va_P G vwCl [] H → va_D A [] → va_S A s.heap H locs → ∀ (ls : Array Slot), lv_has ls 4 [(0, .ref sa), (1, .int x1), (2, .int x2), (3, .int x3)] → W p l e rmX5_seesSingles s m args below meth c H locs 0 0 Q (F0 m 24 ls []) := by
    intro x1 x2 x3 out hlp hret hX
    refine lp_ind (fun x => ∀ (H : Heap) (locs : List Loc), va_P G vwCl [] H → va_D A [] → va_S A s.heap H locs → ∀ (ls : Array Slot), lv_has ls 4 [(0, .ref sa), (1, .int x1), (2, .int x2), (3, .int x)] → W p l e rmX5_seesSingles s m args below meth c H locs 0 0 Q (F0 m 24 ls [])) ?_ n x3 hlp
    clear hlp hP hD hS hl
    intro x3 ob hm hst H locs hP hD hS ls hl
    have hm : M_X5_seesSingles_b24 n x1 x2 s_m s_wl s_wf x3 = some ob := hm
    have hl : lv_has ls 4 [(0, .ref sa), (1, .int x1), (2, .int x2), (3, .int x3)] := hl
    have hP : va_P G vwCl [] H := hP
    have hD : va_D A [] := hD
    unfold M_X5_seesSingles_b24 at hm
    refine lv_iload_n hx hb dX5_seesSingles_24 rfl (lv_at hl 3 rfl) ?_
    refine lv_aload_n hx hb dX5_seesSingles_25 rfl (lv_at hl 0 rfl) ?_
    refine va_get (D := G) (ci := 4) (v := .int s_m) (C := RX5) (T := TX5) (N := 3) hx hb hts hinX5 hown hK.1 (roP hS hT.1 hT.2) 0 rfl rfl 1 (by decide) wd1 (fun _ h9 => h9) rfl dX5_seesSingles_26 ?_
    refine lv_icmp_ge (tgt := 70) hx hb dX5_seesSingles_29 (by decide) (fun b3 => ?_) (fun b3 => ?_)
    · have hm := i_t b3 hm
      exact hX _ (st_exit hm hst) H locs hP hD hS ls (lv_sub hl [0, 1, 2] rfl)
    · have hm := i_f b3 hm
      refine lv_aload_n hx hb dX5_seesSingles_32 rfl (lv_at hl 0 rfl) ?_
      refine lv_iload_n hx hb dX5_seesSingles_33 rfl (lv_at hl 1 rfl) ?_
      refine lv_iload_n hx hb dX5_seesSingles_34 rfl (lv_at hl 2 rfl) ?_
      obtain ⟨r4, hc_r4, hm⟩ := bs hm
      refine k_calli0 (va_runV (As := [.int x1, .int x2]) (rest := []) ⟨hx, hb, hml, hown, hts⟩ (c_X5_cell l G cs H.size   sa sw s_k s_m s_t s_p s_b s_f s_l s_wl s_wf x1 x2 r4 hc_r4) (cwV 2 hts gX5_seesSingles_X5_cell rfl rfl rfl ⟨rfl, hd_X5_cell⟩ ⟨Nat.le_of_ble_eq_true rfl, Nat.le_of_ble_eq_true rfl⟩) ⟨pre_blind, va_recv hK.1 (roP hS hT.1 hT.2) (ci := 4) (q0 := 0) rfl rfl, pre_w hK (RO.at hS hRo) P0 D0 (va_new0 hS hA)⟩ rfl rfl hl.1 rfl (lv_room (Nat.le_of_ble_eq_true rfl)) dX5_seesSingles_35 ⟨Nat.zero_le _, Nat.zero_le _⟩) hP hS hA (fun hE5 H locs hP hS => ?_)
      refine lv_aload_n hx hb dX5_seesSingles_38 rfl (lv_at hl 0 rfl) ?_
      refine lv_iload_n hx hb dX5_seesSingles_39 rfl (lv_at hl 1 rfl) ?_
      refine lv_iload_n hx hb dX5_seesSingles_40 rfl (lv_at hl 3 rfl) ?_
      obtain ⟨r6, hc_r6, hm⟩ := bs hm
      refine k_calli0 (va_runV (As := [.int x1, .int x3]) (rest := [.int r4]) ⟨hx, hb, hml, hown, hts⟩ (c_X5_cell l G cs H.size   sa sw s_k s_m s_t s_p s_b s_f s_l s_wl s_wf x1 x3 r6 hc_r6) (cwV 2 hts gX5_seesSingles_X5_cell rfl rfl rfl ⟨rfl, hd_X5_cell⟩ ⟨Nat.le_of_ble_eq_true rfl, Nat.le_of_ble_eq_true rfl⟩) ⟨pre_blind, va_recv hK.1 (roP hS hT.1 hT.2) (ci := 4) (q0 := 0) rfl rfl, pre_w hK (RO.at hS hRo) P0 D0 (va_new0 hS hA)⟩ rfl rfl hl.1 rfl (lv_room (Nat.le_of_ble_eq_true rfl)) dX5_seesSingles_41 ⟨Nat.zero_le _, Nat.zero_le _⟩) hP hS hA (fun hE7 H locs hP hS => ?_)
      refine lv_icmp_eq (tgt := 62) hx hb dX5_seesSingles_44 (by decide) (fun b8 => ?_) (fun b8 => ?_)
      · have hm := i_t b8 hm
        refine lv_iconst (v := 0) hx hb dX5_seesSingles_62 (by decide) ?_
        have hq := hret _ (st_exit hm hst)
        subst hq; subst hQ
        exact k_zret hx hb hr hlocks hP hD hS rfl (by decide) dX5_seesSingles_63
      · have hm := i_f b8 hm
        refine lv_aload_n hx hb dX5_seesSingles_47 rfl (lv_at hl 0 rfl) ?_
        refine lv_iload_n hx hb dX5_seesSingles_48 rfl (lv_at hl 2 rfl) ?_
        refine lv_iload_n hx hb dX5_seesSingles_49 rfl (lv_at hl 1 rfl) ?_
        obtain ⟨r9, hc_r9, hm⟩ := bs hm
        refine k_calli0 (va_runV (As := [.int x2, .int x1]) (rest := []) ⟨hx, hb, hml, hown, hts⟩ (c_X5_cell l G cs H.size   sa sw s_k s_m s_t s_p s_b s_f s_l s_wl s_wf x2 x1 r9 hc_r9) (cwV 2 hts gX5_seesSingles_X5_cell rfl rfl rfl ⟨rfl, hd_X5_cell⟩ ⟨Nat.le_of_ble_eq_true rfl, Nat.le_of_ble_eq_true rfl⟩) ⟨pre_blind, va_recv hK.1 (roP hS hT.1 hT.2) (ci := 4) (q0 := 0) rfl rfl, pre_w hK (RO.at hS hRo) P0 D0 (va_new0 hS hA)⟩ rfl rfl hl.1 rfl (lv_room (Nat.le_of_ble_eq_true rfl)) dX5_seesSingles_50 ⟨Nat.zero_le _, Nat.zero_le _⟩) hP hS hA (fun hE10 H locs hP hS => ?_)
        refine lv_aload_n hx hb dX5_seesSingles_53 rfl (lv_at hl 0 rfl) ?_
        refine lv_iload_n hx hb dX5_seesSingles_54 rfl (lv_at hl 3 rfl) ?_
        refine lv_iload_n hx hb dX5_seesSingles_55 rfl (lv_at hl 1 rfl) ?_
        obtain ⟨r11, hc_r11, hm⟩ := bs hm
        refine k_calli0 (va_runV (As := [.int x3, .int x1]) (rest := [.int r9]) ⟨hx, hb, hml, hown, hts⟩ (c_X5_cell l G cs H.size   sa sw s_k s_m s_t s_p s_b s_f s_l s_wl s_wf x3 x1 r11 hc_r11) (cwV 2 hts gX5_seesSingles_X5_cell rfl rfl rfl ⟨rfl, hd_X5_cell⟩ ⟨Nat.le_of_ble_eq_true rfl, Nat.le_of_ble_eq_true rfl⟩) ⟨pre_blind, va_recv hK.1 (roP hS hT.1 hT.2) (ci := 4) (q0 := 0) rfl rfl, pre_w hK (RO.at hS hRo) P0 D0 (va_new0 hS hA)⟩ rfl rfl hl.1 rfl (lv_room (Nat.le_of_ble_eq_true rfl)) dX5_seesSingles_56 ⟨Nat.zero_le _, Nat.zero_le _⟩) hP hS hA (fun hE12 H locs hP hS => ?_)
        refine lv_icmp_ne (tgt := 64) hx hb dX5_seesSingles_59 (by decide) (fun b13 => ?_) (fun b13 => ?_)
        · have hm := i_f b13 hm
          refine lv_iinc (v := x3 + 1) (lv' := [(3, .int (x3 + 1)), (0, .ref sa), (1, .int x1), (2, .int x2)]) hx hb dX5_seesSingles_64 hl (k := 3) rfl rfl (by decide) rfl (fun ls hl => ?_)
          refine lv_goto (tgt := 24) hx hb dX5_seesSingles_67 (by decide) ?_
          exact st_next hm hst H locs hP hD hS ls (lv_sub hl [1, 2, 3, 0] rfl)
        · have hm := i_t b13 hm
          refine lv_iconst (v := 0) hx hb dX5_seesSingles_62 (by decide) ?_
          have hq := hret _ (st_exit hm hst)
          subst hq; subst hQ
          exact k_zret hx hb hr hlocks hP hD hS rfl (by decide) dX5_seesSingles_63
  have L12 : ∀ (x1 : Int32) (x2 : Int32) (out : (Unit ⊕ Int32)), lp (fun x : Int32 => M_X5_seesSingles_b12 n x1 s_m s_wl s_wf x) n x2 = some out → (∀ r, out = .inr r → r = res) → (∀ (o : Unit), out = .inl o → ∀ (H : Heap) (locs : List Loc), va_P G vwCl [] H → va_D A [] → va_S A s.heap H locs → ∀ (ls : Array Slot), lv_has ls 4 [(0, .ref sa), (1, .int x1)] → W p l e rmX5_seesSingles s m args below meth c H locs 0 0 Q (F0 m 76 ls [])) → ∀ (H : Heap) (locs : List Loc), va_P G vwCl [] H → va_D A [] → va_S A s.heap H locs → ∀ (ls : Array Slot), lv_has ls 4 [(0, .ref sa), (1, .int x1), (2, .int x2)] → W p l e rmX5_seesSingles s m args below meth c H locs 0 0 Q (F0 m 12 ls []) := by
    intro x1 x2 out hlp hret hX
    refine lp_ind (fun x => ∀ (H : Heap) (locs : List Loc), va_P G vwCl [] H → va_D A [] → va_S A s.heap H locs → ∀ (ls : Array Slot), lv_has ls 4 [(0, .ref sa), (1, .int x1), (2, .int x)] → W p l e rmX5_seesSingles s m args below meth c H locs 0 0 Q (F0 m 12 ls [])) ?_ n x2 hlp
    clear hlp hP hD hS hl
    intro x2 ob hm hst H locs hP hD hS ls hl
    have hm : M_X5_seesSingles_b12 n x1 s_m s_wl s_wf x2 = some ob := hm
    have hl : lv_has ls 4 [(0, .ref sa), (1, .int x1), (2, .int x2)] := hl
    have hP : va_P G vwCl [] H := hP
    have hD : va_D A [] := hD
    unfold M_X5_seesSingles_b12 at hm
    refine lv_iload_n hx hb dX5_seesSingles_12 rfl (lv_at hl 2 rfl) ?_
    refine lv_aload_n hx hb dX5_seesSingles_13 rfl (lv_at hl 0 rfl) ?_
    refine va_get (D := G) (ci := 4) (v := .int s_m) (C := RX5) (T := TX5) (N := 3) hx hb hts hinX5 hown hK.1 (roP hS hT.1 hT.2) 0 rfl rfl 1 (by decide) wd1 (fun _ h9 => h9) rfl dX5_seesSingles_14 ?_
    refine lv_icmp_ge (tgt := 76) hx hb dX5_seesSingles_17 (by decide) (fun b2 => ?_) (fun b2 => ?_)
    · have hm := i_t b2 hm
      exact hX _ (st_exit hm hst) H locs hP hD hS ls (lv_sub hl [0, 1] rfl)
    · have hm := i_f b2 hm
      refine lv_iload_n hx hb dX5_seesSingles_20 rfl (lv_at hl 2 rfl) ?_
      refine lv_iconst (v := 1) hx hb dX5_seesSingles_21 (by decide) ?_
      refine lv_iadd hx hb dX5_seesSingles_22 ?_
      refine lv_istore_n (lv' := [(3, .int (x2 + 1)), (0, .ref sa), (1, .int x1), (2, .int x2)]) hx hb dX5_seesSingles_23 rfl hl (by decide) rfl (fun ls hl => ?_)
      obtain ⟨u14, hlp14, hm⟩ := bs hm
      refine L24 x1 x2 (x2 + 1) u14 hlp14 (fun r h => by have h2 := se_r h hm; exact hret r (st_exit h2 hst)) (fun o14 ho => ?_) H locs hP hD hS ls (lv_sub hl [1, 2, 3, 0] rfl)
      have hm := se_l ho hm
      intro H locs hP hD hS ls hl
      have hl : lv_has ls 4 [(0, .ref sa), (1, .int x1), (2, .int x2)] := hl
      have hP : va_P G vwCl [] H := hP
      have hD : va_D A [] := hD
      refine lv_iinc (v := x2 + 1) (lv' := [(2, .int (x2 + 1)), (0, .ref sa), (1, .int x1)]) hx hb dX5_seesSingles_70 hl (k := 2) rfl rfl (by decide) rfl (fun ls hl => ?_)
      refine lv_goto (tgt := 12) hx hb dX5_seesSingles_73 (by decide) ?_
      exact st_next hm hst H locs hP hD hS ls (lv_sub hl [1, 2, 0] rfl)
  have L2 : ∀ (x1 : Int32) (out : (Unit ⊕ Int32)), lp (fun x : Int32 => M_X5_seesSingles_b2 n s_m s_wl s_wf x) n x1 = some out → (∀ r, out = .inr r → r = res) → (∀ (o : Unit), out = .inl o → ∀ (H : Heap) (locs : List Loc), va_P G vwCl [] H → va_D A [] → va_S A s.heap H locs → ∀ (ls : Array Slot), lv_has ls 4 [] → W p l e rmX5_seesSingles s m args below meth c H locs 0 0 Q (F0 m 82 ls [])) → ∀ (H : Heap) (locs : List Loc), va_P G vwCl [] H → va_D A [] → va_S A s.heap H locs → ∀ (ls : Array Slot), lv_has ls 4 [(0, .ref sa), (1, .int x1)] → W p l e rmX5_seesSingles s m args below meth c H locs 0 0 Q (F0 m 2 ls []) := by
    intro x1 out hlp hret hX
    refine lp_ind (fun x => ∀ (H : Heap) (locs : List Loc), va_P G vwCl [] H → va_D A [] → va_S A s.heap H locs → ∀ (ls : Array Slot), lv_has ls 4 [(0, .ref sa), (1, .int x)] → W p l e rmX5_seesSingles s m args below meth c H locs 0 0 Q (F0 m 2 ls [])) ?_ n x1 hlp
    clear hlp hP hD hS hl
    intro x1 ob hm hst H locs hP hD hS ls hl
    have hm : M_X5_seesSingles_b2 n s_m s_wl s_wf x1 = some ob := hm
    have hl : lv_has ls 4 [(0, .ref sa), (1, .int x1)] := hl
    have hP : va_P G vwCl [] H := hP
    have hD : va_D A [] := hD
    unfold M_X5_seesSingles_b2 at hm
    refine lv_iload_n hx hb dX5_seesSingles_2 rfl (lv_at hl 1 rfl) ?_
    refine lv_aload_n hx hb dX5_seesSingles_3 rfl (lv_at hl 0 rfl) ?_
    refine va_get (D := G) (ci := 4) (v := .int s_m) (C := RX5) (T := TX5) (N := 3) hx hb hts hinX5 hown hK.1 (roP hS hT.1 hT.2) 0 rfl rfl 1 (by decide) wd1 (fun _ h9 => h9) rfl dX5_seesSingles_4 ?_
    refine lv_icmp_ge (tgt := 82) hx hb dX5_seesSingles_7 (by decide) (fun b1 => ?_) (fun b1 => ?_)
    · have hm := i_t b1 hm
      exact hX _ (st_exit hm hst) H locs hP hD hS ls (lv_sub hl [] rfl)
    · have hm := i_f b1 hm
      refine lv_iconst (v := 0) hx hb dX5_seesSingles_10 (by decide) ?_
      refine lv_istore_n (lv' := [(2, .int 0), (0, .ref sa), (1, .int x1)]) hx hb dX5_seesSingles_11 rfl hl (by decide) rfl (fun ls hl => ?_)
      obtain ⟨u15, hlp15, hm⟩ := bs hm
      refine L12 x1 (0 : Int32) u15 hlp15 (fun r h => by have h2 := se_r h hm; exact hret r (st_exit h2 hst)) (fun o15 ho => ?_) H locs hP hD hS ls (lv_sub hl [1, 2, 0] rfl)
      have hm := se_l ho hm
      intro H locs hP hD hS ls hl
      have hl : lv_has ls 4 [(0, .ref sa), (1, .int x1)] := hl
      have hP : va_P G vwCl [] H := hP
      have hD : va_D A [] := hD
      refine lv_iinc (v := x1 + 1) (lv' := [(1, .int (x1 + 1)), (0, .ref sa)]) hx hb dX5_seesSingles_76 hl (k := 1) rfl rfl (by decide) rfl (fun ls hl => ?_)
      refine lv_goto (tgt := 2) hx hb dX5_seesSingles_79 (by decide) ?_
      exact st_next hm hst H locs hP hD hS ls (lv_sub hl [1, 0] rfl)
  unfold M_X5_seesSingles at hm
  refine lv_iconst (v := 0) hx hb dX5_seesSingles_0 (by decide) ?_
  refine lv_istore_n (lv' := [(1, .int 0), (0, .ref sa)]) hx hb dX5_seesSingles_1 rfl hl (by decide) rfl (fun ls hl => ?_)
  obtain ⟨u16, hlp16, hm⟩ := bs hm
  refine L2 (0 : Int32) u16 hlp16 (fun r h => Option.some.inj (se_r h hm)) (fun o16 ho => ?_) H locs hP hD hS ls (lv_sub hl [1, 0] rfl)
  have hm := se_l ho hm
  intro H locs hP hD hS ls hl
  have hl : lv_has ls 4 [] := hl
  have hP : va_P G vwCl [] H := hP
  have hD : va_D A [] := hD
  refine lv_iconst (v := 1) hx hb dX5_seesSingles_82 (by decide) ?_
  have hq := Option.some.inj hm
  subst hq; subst hQ
  exact k_zret hx hb hr hlocks hP hD hS rfl (by decide) dX5_seesSingles_83

theorem hd_X5_seesSwaps : yX5_seesSwaps.cls ≠ "java/lang/invoke/MethodHandle" ∧ yX5_seesSwaps.cls ≠ "java/lang/invoke/VarHandle" ∧ (parseMethodDescriptor yX5_seesSwaps.desc).map (fun d => d.parameters.length) = some 0 := by decide +kernel

def M_X5_seesSwaps_b24 (n : Nat) (x1 : Int32) (x2 : Int32) (s_m : Int32) (s_wl : Nat) (s_wf : (Nat → Int32)) (x3 : Int32) : Option (Int32 ⊕ (Unit ⊕ Int32)) :=
  if s_m ≤ x3 then (some (.inr (.inl ()))) else ((M_X5_cell x1 x2 s_m s_wl s_wf).bind fun r4 => (M_X5_cell r4 x3 s_m s_wl s_wf).bind fun r6 => (M_X5_cell x1 x3 s_m s_wl s_wf).bind fun r8 => (M_X5_cell r8 x2 s_m s_wl s_wf).bind fun r10 => if r6 = r10 then (some (.inr (.inr 0))) else (some (.inl (x3 + 1))))

def M_X5_seesSwaps_b12 (n : Nat) (x1 : Int32) (s_m : Int32) (s_wl : Nat) (s_wf : (Nat → Int32)) (x2 : Int32) : Option (Int32 ⊕ (Unit ⊕ Int32)) :=
  if s_m ≤ x2 then (some (.inr (.inl ()))) else ((lp (fun x : Int32 => M_X5_seesSwaps_b24 n x1 x2 s_m s_wl s_wf x) n (x2 + 1)).bind (Sum.elim (fun o13 => some (.inl (x2 + 1))) (fun r => some (.inr (.inr r)))))

def M_X5_seesSwaps_b2 (n : Nat) (s_m : Int32) (s_wl : Nat) (s_wf : (Nat → Int32)) (x1 : Int32) : Option (Int32 ⊕ (Unit ⊕ Int32)) :=
  if s_m ≤ x1 then (some (.inr (.inl ()))) else ((lp (fun x : Int32 => M_X5_seesSwaps_b12 n x1 s_m s_wl s_wf x) n (0 : Int32)).bind (Sum.elim (fun o14 => some (.inl (x1 + 1))) (fun r => some (.inr (.inr r)))))

def M_X5_seesSwaps (n : Nat)  (s_m : Int32) (s_wl : Nat) (s_wf : (Nat → Int32)) : Option Int32 :=
  (lp (fun x : Int32 => M_X5_seesSwaps_b2 n s_m s_wl s_wf x) n (0 : Int32)).bind (Sum.elim (fun o15 => some 1) (fun r => some r))

abbrev rmX5_seesSwaps : Room := { frames := 1, cells := 0, slots := 0, locals := 22 }
set_option maxHeartbeats 4000000 in
set_option maxRecDepth 100000 in
theorem c_X5_seesSwaps (l : Launch) (G : va_G) (cs : CS) (sz : Nat)   (sa sw : Nat) (s_k : Int32) (s_m : Int32) (s_t : Int32) (s_p : Int64) (s_b : Int64) (s_f : Int64) (s_l : Int32) (s_wl : Nat) (s_wf : (Nat → Int32))  (n : Nat) (res : Int32) (hm : M_X5_seesSwaps n s_m s_wl s_wf = some res) : Met l yX5_seesSwaps wsX5_seesSwaps rmX5_seesSwaps (va_Pc [.ref sa] (PreW G cs sz [] (fun _ => some (sa, sw, (4, s_k, s_m, s_t, s_p, s_b, s_f, s_l, s_wl, s_wf))))) (QI G res (res = 0 ∨ res = 1) [] (va_A [] sz)) 0 0 (va_A [] sz) := by
  refine k_enter (Qf := fun A => QI G res (res = 0 ∨ res = 1) [] A) (cc := cX5_seesSwaps) (maxL := 4) (ret := (some .boolean)) (plainFor_of_name (by decide)) rfl (Nat.le_of_ble_eq_true rfl) ?_
  intro p e s m args below meth c A Q ls H locs hx hb hr hml hown hts hlocks hname hK hA hRo hP hD hS hQ hl
  have hl : lv_has ls 4 [(0, .ref sa)] := hl
  have hT : va_P G vwCl [(sa, .inr (4, [.int s_k, .int s_m, .ref sw]))] s.heap ∧ ¬ A sa := ⟨(hRo 0 _ rfl).1, (hRo 0 _ rfl).2.1⟩
  have hX : va_X sw s_wl s_wf s s.heap ∧ ¬ A sw := (hRo 0 _ rfl).2.2 (Or.inr rfl)
  have wd1 := hts (.fieldLink RX5 9 "SumSmith$Square" "size" "I") (List.mem_of_getElem? (i := 1) rfl)
  have hinX5 : ∀ w ∈ wsX50, w ∈ wsX5_seesSwaps := fun w h => List.mem_cons_of_mem _ (List.mem_append_right _ h)
  have L24 : ∀ (x1 : Int32) (x2 : Int32) (x3 : Int32) (out : (Unit ⊕ Int32)), lp (fun x : Int32 => M_X5_seesSwaps_b24 n x1 x2 s_m s_wl s_wf x) n x3 = some out → (∀ r, out = .inr r → r = res) → (∀ (o : Unit), out = .inl o → ∀ (H : Heap) (locs : List Loc), va_P G vwCl [] H → va_D A [] → va_S A s.heap H locs → ∀ (ls : Array Slot), lv_has ls 4 [(0, .ref sa), (1, .int x1), (2, .int x2)] → W p l e rmX5_seesSwaps s m args below meth c H locs 0 0 Q (F0 m 65 ls [])) → ∀ (H : Heap) (locs : List Loc), va_P G vwCl [] H → va_D A [] → va_S A s.heap H locs → ∀ (ls : Array Slot), lv_has ls 4 [(0, .ref sa), (1, .int x1), (2, .int x2), (3, .int x3)] → W p l e rmX5_seesSwaps s m args below meth c H locs 0 0 Q (F0 m 24 ls []) := by
    intro x1 x2 x3 out hlp hret hX
    refine lp_ind (fun x => ∀ (H : Heap) (locs : List Loc), va_P G vwCl [] H → va_D A [] → va_S A s.heap H locs → ∀ (ls : Array Slot), lv_has ls 4 [(0, .ref sa), (1, .int x1), (2, .int x2), (3, .int x)] → W p l e rmX5_seesSwaps s m args below meth c H locs 0 0 Q (F0 m 24 ls [])) ?_ n x3 hlp
    clear hlp hP hD hS hl
    intro x3 ob hm hst H locs hP hD hS ls hl
    have hm : M_X5_seesSwaps_b24 n x1 x2 s_m s_wl s_wf x3 = some ob := hm
    have hl : lv_has ls 4 [(0, .ref sa), (1, .int x1), (2, .int x2), (3, .int x3)] := hl
    have hP : va_P G vwCl [] H := hP
    have hD : va_D A [] := hD
    unfold M_X5_seesSwaps_b24 at hm
    refine lv_iload_n hx hb dX5_seesSwaps_24 rfl (lv_at hl 3 rfl) ?_
    refine lv_aload_n hx hb dX5_seesSwaps_25 rfl (lv_at hl 0 rfl) ?_
    refine va_get (D := G) (ci := 4) (v := .int s_m) (C := RX5) (T := TX5) (N := 3) hx hb hts hinX5 hown hK.1 (roP hS hT.1 hT.2) 0 rfl rfl 1 (by decide) wd1 (fun _ h9 => h9) rfl dX5_seesSwaps_26 ?_
    refine lv_icmp_ge (tgt := 65) hx hb dX5_seesSwaps_29 (by decide) (fun b3 => ?_) (fun b3 => ?_)
    · have hm := i_t b3 hm
      exact hX _ (st_exit hm hst) H locs hP hD hS ls (lv_sub hl [0, 1, 2] rfl)
    · have hm := i_f b3 hm
      refine lv_aload_n hx hb dX5_seesSwaps_32 rfl (lv_at hl 0 rfl) ?_
      refine lv_aload_n hx hb dX5_seesSwaps_33 rfl (lv_at hl 0 rfl) ?_
      refine lv_iload_n hx hb dX5_seesSwaps_34 rfl (lv_at hl 1 rfl) ?_
      refine lv_iload_n hx hb dX5_seesSwaps_35 rfl (lv_at hl 2 rfl) ?_
      obtain ⟨r4, hc_r4, hm⟩ := bs hm
      refine k_calli0 (va_runV (As := [.int x1, .int x2]) (rest := [.ref sa]) ⟨hx, hb, hml, hown, hts⟩ (c_X5_cell l G cs H.size   sa sw s_k s_m s_t s_p s_b s_f s_l s_wl s_wf x1 x2 r4 hc_r4) (cwV 2 hts gX5_seesSwaps_X5_cell rfl rfl rfl ⟨rfl, hd_X5_cell⟩ ⟨Nat.le_of_ble_eq_true rfl, Nat.le_of_ble_eq_true rfl⟩) ⟨pre_blind, va_recv hK.1 (roP hS hT.1 hT.2) (ci := 4) (q0 := 0) rfl rfl, pre_w hK (RO.at hS hRo) P0 D0 (va_new0 hS hA)⟩ rfl rfl hl.1 rfl (lv_room (Nat.le_of_ble_eq_true rfl)) dX5_seesSwaps_36 ⟨Nat.zero_le _, Nat.zero_le _⟩) hP hS hA (fun hE5 H locs hP hS => ?_)
      refine lv_iload_n hx hb dX5_seesSwaps_39 rfl (lv_at hl 3 rfl) ?_
      obtain ⟨r6, hc_r6, hm⟩ := bs hm
      refine k_calli0 (va_runV (As := [.int r4, .int x3]) (rest := []) ⟨hx, hb, hml, hown, hts⟩ (c_X5_cell l G cs H.size   sa sw s_k s_m s_t s_p s_b s_f s_l s_wl s_wf r4 x3 r6 hc_r6) (cwV 2 hts gX5_seesSwaps_X5_cell rfl rfl rfl ⟨rfl, hd_X5_cell⟩ ⟨Nat.le_of_ble_eq_true rfl, Nat.le_of_ble_eq_true rfl⟩) ⟨pre_blind, va_recv hK.1 (roP hS hT.1 hT.2) (ci := 4) (q0 := 0) rfl rfl, pre_w hK (RO.at hS hRo) P0 D0 (va_new0 hS hA)⟩ rfl rfl hl.1 rfl (lv_room (Nat.le_of_ble_eq_true rfl)) dX5_seesSwaps_40 ⟨Nat.zero_le _, Nat.zero_le _⟩) hP hS hA (fun hE7 H locs hP hS => ?_)
      refine lv_aload_n hx hb dX5_seesSwaps_43 rfl (lv_at hl 0 rfl) ?_
      refine lv_aload_n hx hb dX5_seesSwaps_44 rfl (lv_at hl 0 rfl) ?_
      refine lv_iload_n hx hb dX5_seesSwaps_45 rfl (lv_at hl 1 rfl) ?_
      refine lv_iload_n hx hb dX5_seesSwaps_46 rfl (lv_at hl 3 rfl) ?_
      obtain ⟨r8, hc_r8, hm⟩ := bs hm
      refine k_calli0 (va_runV (As := [.int x1, .int x3]) (rest := [.ref sa, .int r6]) ⟨hx, hb, hml, hown, hts⟩ (c_X5_cell l G cs H.size   sa sw s_k s_m s_t s_p s_b s_f s_l s_wl s_wf x1 x3 r8 hc_r8) (cwV 2 hts gX5_seesSwaps_X5_cell rfl rfl rfl ⟨rfl, hd_X5_cell⟩ ⟨Nat.le_of_ble_eq_true rfl, Nat.le_of_ble_eq_true rfl⟩) ⟨pre_blind, va_recv hK.1 (roP hS hT.1 hT.2) (ci := 4) (q0 := 0) rfl rfl, pre_w hK (RO.at hS hRo) P0 D0 (va_new0 hS hA)⟩ rfl rfl hl.1 rfl (lv_room (Nat.le_of_ble_eq_true rfl)) dX5_seesSwaps_47 ⟨Nat.zero_le _, Nat.zero_le _⟩) hP hS hA (fun hE9 H locs hP hS => ?_)
      refine lv_iload_n hx hb dX5_seesSwaps_50 rfl (lv_at hl 2 rfl) ?_
      obtain ⟨r10, hc_r10, hm⟩ := bs hm
      refine k_calli0 (va_runV (As := [.int r8, .int x2]) (rest := [.int r6]) ⟨hx, hb, hml, hown, hts⟩ (c_X5_cell l G cs H.size   sa sw s_k s_m s_t s_p s_b s_f s_l s_wl s_wf r8 x2 r10 hc_r10) (cwV 2 hts gX5_seesSwaps_X5_cell rfl rfl rfl ⟨rfl, hd_X5_cell⟩ ⟨Nat.le_of_ble_eq_true rfl, Nat.le_of_ble_eq_true rfl⟩) ⟨pre_blind, va_recv hK.1 (roP hS hT.1 hT.2) (ci := 4) (q0 := 0) rfl rfl, pre_w hK (RO.at hS hRo) P0 D0 (va_new0 hS hA)⟩ rfl rfl hl.1 rfl (lv_room (Nat.le_of_ble_eq_true rfl)) dX5_seesSwaps_51 ⟨Nat.zero_le _, Nat.zero_le _⟩) hP hS hA (fun hE11 H locs hP hS => ?_)
      refine lv_icmp_ne (tgt := 59) hx hb dX5_seesSwaps_54 (by decide) (fun b12 => ?_) (fun b12 => ?_)
      · have hm := i_f b12 hm
        refine lv_iinc (v := x3 + 1) (lv' := [(3, .int (x3 + 1)), (0, .ref sa), (1, .int x1), (2, .int x2)]) hx hb dX5_seesSwaps_59 hl (k := 3) rfl rfl (by decide) rfl (fun ls hl => ?_)
        refine lv_goto (tgt := 24) hx hb dX5_seesSwaps_62 (by decide) ?_
        exact st_next hm hst H locs hP hD hS ls (lv_sub hl [1, 2, 3, 0] rfl)
      · have hm := i_t b12 hm
        refine lv_iconst (v := 0) hx hb dX5_seesSwaps_57 (by decide) ?_
        have hq := hret _ (st_exit hm hst)
        subst hq; subst hQ
        exact k_zret hx hb hr hlocks hP hD hS rfl (by decide) dX5_seesSwaps_58
  have L12 : ∀ (x1 : Int32) (x2 : Int32) (out : (Unit ⊕ Int32)), lp (fun x : Int32 => M_X5_seesSwaps_b12 n x1 s_m s_wl s_wf x) n x2 = some out → (∀ r, out = .inr r → r = res) → (∀ (o : Unit), out = .inl o → ∀ (H : Heap) (locs : List Loc), va_P G vwCl [] H → va_D A [] → va_S A s.heap H locs → ∀ (ls : Array Slot), lv_has ls 4 [(0, .ref sa), (1, .int x1)] → W p l e rmX5_seesSwaps s m args below meth c H locs 0 0 Q (F0 m 71 ls [])) → ∀ (H : Heap) (locs : List Loc), va_P G vwCl [] H → va_D A [] → va_S A s.heap H locs → ∀ (ls : Array Slot), lv_has ls 4 [(0, .ref sa), (1, .int x1), (2, .int x2)] → W p l e rmX5_seesSwaps s m args below meth c H locs 0 0 Q (F0 m 12 ls []) := by
    intro x1 x2 out hlp hret hX
    refine lp_ind (fun x => ∀ (H : Heap) (locs : List Loc), va_P G vwCl [] H → va_D A [] → va_S A s.heap H locs → ∀ (ls : Array Slot), lv_has ls 4 [(0, .ref sa), (1, .int x1), (2, .int x)] → W p l e rmX5_seesSwaps s m args below meth c H locs 0 0 Q (F0 m 12 ls [])) ?_ n x2 hlp
    clear hlp hP hD hS hl
    intro x2 ob hm hst H locs hP hD hS ls hl
    have hm : M_X5_seesSwaps_b12 n x1 s_m s_wl s_wf x2 = some ob := hm
    have hl : lv_has ls 4 [(0, .ref sa), (1, .int x1), (2, .int x2)] := hl
    have hP : va_P G vwCl [] H := hP
    have hD : va_D A [] := hD
    unfold M_X5_seesSwaps_b12 at hm
    refine lv_iload_n hx hb dX5_seesSwaps_12 rfl (lv_at hl 2 rfl) ?_
    refine lv_aload_n hx hb dX5_seesSwaps_13 rfl (lv_at hl 0 rfl) ?_
    refine va_get (D := G) (ci := 4) (v := .int s_m) (C := RX5) (T := TX5) (N := 3) hx hb hts hinX5 hown hK.1 (roP hS hT.1 hT.2) 0 rfl rfl 1 (by decide) wd1 (fun _ h9 => h9) rfl dX5_seesSwaps_14 ?_
    refine lv_icmp_ge (tgt := 71) hx hb dX5_seesSwaps_17 (by decide) (fun b2 => ?_) (fun b2 => ?_)
    · have hm := i_t b2 hm
      exact hX _ (st_exit hm hst) H locs hP hD hS ls (lv_sub hl [0, 1] rfl)
    · have hm := i_f b2 hm
      refine lv_iload_n hx hb dX5_seesSwaps_20 rfl (lv_at hl 2 rfl) ?_
      refine lv_iconst (v := 1) hx hb dX5_seesSwaps_21 (by decide) ?_
      refine lv_iadd hx hb dX5_seesSwaps_22 ?_
      refine lv_istore_n (lv' := [(3, .int (x2 + 1)), (0, .ref sa), (1, .int x1), (2, .int x2)]) hx hb dX5_seesSwaps_23 rfl hl (by decide) rfl (fun ls hl => ?_)
      obtain ⟨u13, hlp13, hm⟩ := bs hm
      refine L24 x1 x2 (x2 + 1) u13 hlp13 (fun r h => by have h2 := se_r h hm; exact hret r (st_exit h2 hst)) (fun o13 ho => ?_) H locs hP hD hS ls (lv_sub hl [1, 2, 3, 0] rfl)
      have hm := se_l ho hm
      intro H locs hP hD hS ls hl
      have hl : lv_has ls 4 [(0, .ref sa), (1, .int x1), (2, .int x2)] := hl
      have hP : va_P G vwCl [] H := hP
      have hD : va_D A [] := hD
      refine lv_iinc (v := x2 + 1) (lv' := [(2, .int (x2 + 1)), (0, .ref sa), (1, .int x1)]) hx hb dX5_seesSwaps_65 hl (k := 2) rfl rfl (by decide) rfl (fun ls hl => ?_)
      refine lv_goto (tgt := 12) hx hb dX5_seesSwaps_68 (by decide) ?_
      exact st_next hm hst H locs hP hD hS ls (lv_sub hl [1, 2, 0] rfl)
  have L2 : ∀ (x1 : Int32) (out : (Unit ⊕ Int32)), lp (fun x : Int32 => M_X5_seesSwaps_b2 n s_m s_wl s_wf x) n x1 = some out → (∀ r, out = .inr r → r = res) → (∀ (o : Unit), out = .inl o → ∀ (H : Heap) (locs : List Loc), va_P G vwCl [] H → va_D A [] → va_S A s.heap H locs → ∀ (ls : Array Slot), lv_has ls 4 [] → W p l e rmX5_seesSwaps s m args below meth c H locs 0 0 Q (F0 m 77 ls [])) → ∀ (H : Heap) (locs : List Loc), va_P G vwCl [] H → va_D A [] → va_S A s.heap H locs → ∀ (ls : Array Slot), lv_has ls 4 [(0, .ref sa), (1, .int x1)] → W p l e rmX5_seesSwaps s m args below meth c H locs 0 0 Q (F0 m 2 ls []) := by
    intro x1 out hlp hret hX
    refine lp_ind (fun x => ∀ (H : Heap) (locs : List Loc), va_P G vwCl [] H → va_D A [] → va_S A s.heap H locs → ∀ (ls : Array Slot), lv_has ls 4 [(0, .ref sa), (1, .int x)] → W p l e rmX5_seesSwaps s m args below meth c H locs 0 0 Q (F0 m 2 ls [])) ?_ n x1 hlp
    clear hlp hP hD hS hl
    intro x1 ob hm hst H locs hP hD hS ls hl
    have hm : M_X5_seesSwaps_b2 n s_m s_wl s_wf x1 = some ob := hm
    have hl : lv_has ls 4 [(0, .ref sa), (1, .int x1)] := hl
    have hP : va_P G vwCl [] H := hP
    have hD : va_D A [] := hD
    unfold M_X5_seesSwaps_b2 at hm
    refine lv_iload_n hx hb dX5_seesSwaps_2 rfl (lv_at hl 1 rfl) ?_
    refine lv_aload_n hx hb dX5_seesSwaps_3 rfl (lv_at hl 0 rfl) ?_
    refine va_get (D := G) (ci := 4) (v := .int s_m) (C := RX5) (T := TX5) (N := 3) hx hb hts hinX5 hown hK.1 (roP hS hT.1 hT.2) 0 rfl rfl 1 (by decide) wd1 (fun _ h9 => h9) rfl dX5_seesSwaps_4 ?_
    refine lv_icmp_ge (tgt := 77) hx hb dX5_seesSwaps_7 (by decide) (fun b1 => ?_) (fun b1 => ?_)
    · have hm := i_t b1 hm
      exact hX _ (st_exit hm hst) H locs hP hD hS ls (lv_sub hl [] rfl)
    · have hm := i_f b1 hm
      refine lv_iconst (v := 0) hx hb dX5_seesSwaps_10 (by decide) ?_
      refine lv_istore_n (lv' := [(2, .int 0), (0, .ref sa), (1, .int x1)]) hx hb dX5_seesSwaps_11 rfl hl (by decide) rfl (fun ls hl => ?_)
      obtain ⟨u14, hlp14, hm⟩ := bs hm
      refine L12 x1 (0 : Int32) u14 hlp14 (fun r h => by have h2 := se_r h hm; exact hret r (st_exit h2 hst)) (fun o14 ho => ?_) H locs hP hD hS ls (lv_sub hl [1, 2, 0] rfl)
      have hm := se_l ho hm
      intro H locs hP hD hS ls hl
      have hl : lv_has ls 4 [(0, .ref sa), (1, .int x1)] := hl
      have hP : va_P G vwCl [] H := hP
      have hD : va_D A [] := hD
      refine lv_iinc (v := x1 + 1) (lv' := [(1, .int (x1 + 1)), (0, .ref sa)]) hx hb dX5_seesSwaps_71 hl (k := 1) rfl rfl (by decide) rfl (fun ls hl => ?_)
      refine lv_goto (tgt := 2) hx hb dX5_seesSwaps_74 (by decide) ?_
      exact st_next hm hst H locs hP hD hS ls (lv_sub hl [1, 0] rfl)
  unfold M_X5_seesSwaps at hm
  refine lv_iconst (v := 0) hx hb dX5_seesSwaps_0 (by decide) ?_
  refine lv_istore_n (lv' := [(1, .int 0), (0, .ref sa)]) hx hb dX5_seesSwaps_1 rfl hl (by decide) rfl (fun ls hl => ?_)
  obtain ⟨u15, hlp15, hm⟩ := bs hm
  refine L2 (0 : Int32) u15 hlp15 (fun r h => Option.some.inj (se_r h hm)) (fun o15 ho => ?_) H locs hP hD hS ls (lv_sub hl [1, 0] rfl)
  have hm := se_l ho hm
  intro H locs hP hD hS ls hl
  have hl : lv_has ls 4 [] := hl
  have hP : va_P G vwCl [] H := hP
  have hD : va_D A [] := hD
  refine lv_iconst (v := 1) hx hb dX5_seesSwaps_77 (by decide) ?_
  have hq := Option.some.inj hm
  subst hq; subst hQ
  exact k_zret hx hb hr hlocks hP hD hS rfl (by decide) dX5_seesSwaps_78

theorem hd_X5_seesTwins : yX5_seesTwins.cls ≠ "java/lang/invoke/MethodHandle" ∧ yX5_seesTwins.cls ≠ "java/lang/invoke/VarHandle" ∧ (parseMethodDescriptor yX5_seesTwins.desc).map (fun d => d.parameters.length) = some 0 := by decide +kernel

def M_X5_seesTwins_b24 (n : Nat) (x1 : Int32) (x2 : Int32) (s_m : Int32) (s_wl : Nat) (s_wf : (Nat → Int32)) (x3 : Int32) : Option (Int32 ⊕ (Unit ⊕ Int32)) :=
  if s_m ≤ x3 then (some (.inr (.inl ()))) else ((M_X5_cell x1 x2 s_m s_wl s_wf).bind fun r4 => (M_X5_cell r4 x2 s_m s_wl s_wf).bind fun r6 => (M_X5_cell x1 x3 s_m s_wl s_wf).bind fun r8 => (M_X5_cell r8 x3 s_m s_wl s_wf).bind fun r10 => if r6 = r10 then (some (.inr (.inr 0))) else (some (.inl (x3 + 1))))

def M_X5_seesTwins_b12 (n : Nat) (x1 : Int32) (s_m : Int32) (s_wl : Nat) (s_wf : (Nat → Int32)) (x2 : Int32) : Option (Int32 ⊕ (Unit ⊕ Int32)) :=
  if s_m ≤ x2 then (some (.inr (.inl ()))) else ((lp (fun x : Int32 => M_X5_seesTwins_b24 n x1 x2 s_m s_wl s_wf x) n (x2 + 1)).bind (Sum.elim (fun o13 => some (.inl (x2 + 1))) (fun r => some (.inr (.inr r)))))

def M_X5_seesTwins_b2 (n : Nat) (s_m : Int32) (s_wl : Nat) (s_wf : (Nat → Int32)) (x1 : Int32) : Option (Int32 ⊕ (Unit ⊕ Int32)) :=
  if s_m ≤ x1 then (some (.inr (.inl ()))) else ((lp (fun x : Int32 => M_X5_seesTwins_b12 n x1 s_m s_wl s_wf x) n (0 : Int32)).bind (Sum.elim (fun o14 => some (.inl (x1 + 1))) (fun r => some (.inr (.inr r)))))

def M_X5_seesTwins (n : Nat)  (s_m : Int32) (s_wl : Nat) (s_wf : (Nat → Int32)) : Option Int32 :=
  (lp (fun x : Int32 => M_X5_seesTwins_b2 n s_m s_wl s_wf x) n (0 : Int32)).bind (Sum.elim (fun o15 => some 1) (fun r => some r))

abbrev rmX5_seesTwins : Room := { frames := 1, cells := 0, slots := 0, locals := 22 }
set_option maxHeartbeats 4000000 in
set_option maxRecDepth 100000 in
theorem c_X5_seesTwins (l : Launch) (G : va_G) (cs : CS) (sz : Nat)   (sa sw : Nat) (s_k : Int32) (s_m : Int32) (s_t : Int32) (s_p : Int64) (s_b : Int64) (s_f : Int64) (s_l : Int32) (s_wl : Nat) (s_wf : (Nat → Int32))  (n : Nat) (res : Int32) (hm : M_X5_seesTwins n s_m s_wl s_wf = some res) : Met l yX5_seesTwins wsX5_seesTwins rmX5_seesTwins (va_Pc [.ref sa] (PreW G cs sz [] (fun _ => some (sa, sw, (4, s_k, s_m, s_t, s_p, s_b, s_f, s_l, s_wl, s_wf))))) (QI G res (res = 0 ∨ res = 1) [] (va_A [] sz)) 0 0 (va_A [] sz) := by
  refine k_enter (Qf := fun A => QI G res (res = 0 ∨ res = 1) [] A) (cc := cX5_seesTwins) (maxL := 4) (ret := (some .boolean)) (plainFor_of_name (by decide)) rfl (Nat.le_of_ble_eq_true rfl) ?_
  intro p e s m args below meth c A Q ls H locs hx hb hr hml hown hts hlocks hname hK hA hRo hP hD hS hQ hl
  have hl : lv_has ls 4 [(0, .ref sa)] := hl
  have hT : va_P G vwCl [(sa, .inr (4, [.int s_k, .int s_m, .ref sw]))] s.heap ∧ ¬ A sa := ⟨(hRo 0 _ rfl).1, (hRo 0 _ rfl).2.1⟩
  have hX : va_X sw s_wl s_wf s s.heap ∧ ¬ A sw := (hRo 0 _ rfl).2.2 (Or.inr rfl)
  have wd1 := hts (.fieldLink RX5 9 "SumSmith$Square" "size" "I") (List.mem_of_getElem? (i := 1) rfl)
  have hinX5 : ∀ w ∈ wsX50, w ∈ wsX5_seesTwins := fun w h => List.mem_cons_of_mem _ (List.mem_append_right _ h)
  have L24 : ∀ (x1 : Int32) (x2 : Int32) (x3 : Int32) (out : (Unit ⊕ Int32)), lp (fun x : Int32 => M_X5_seesTwins_b24 n x1 x2 s_m s_wl s_wf x) n x3 = some out → (∀ r, out = .inr r → r = res) → (∀ (o : Unit), out = .inl o → ∀ (H : Heap) (locs : List Loc), va_P G vwCl [] H → va_D A [] → va_S A s.heap H locs → ∀ (ls : Array Slot), lv_has ls 4 [(0, .ref sa), (1, .int x1), (2, .int x2)] → W p l e rmX5_seesTwins s m args below meth c H locs 0 0 Q (F0 m 65 ls [])) → ∀ (H : Heap) (locs : List Loc), va_P G vwCl [] H → va_D A [] → va_S A s.heap H locs → ∀ (ls : Array Slot), lv_has ls 4 [(0, .ref sa), (1, .int x1), (2, .int x2), (3, .int x3)] → W p l e rmX5_seesTwins s m args below meth c H locs 0 0 Q (F0 m 24 ls []) := by
    intro x1 x2 x3 out hlp hret hX
    refine lp_ind (fun x => ∀ (H : Heap) (locs : List Loc), va_P G vwCl [] H → va_D A [] → va_S A s.heap H locs → ∀ (ls : Array Slot), lv_has ls 4 [(0, .ref sa), (1, .int x1), (2, .int x2), (3, .int x)] → W p l e rmX5_seesTwins s m args below meth c H locs 0 0 Q (F0 m 24 ls [])) ?_ n x3 hlp
    clear hlp hP hD hS hl
    intro x3 ob hm hst H locs hP hD hS ls hl
    have hm : M_X5_seesTwins_b24 n x1 x2 s_m s_wl s_wf x3 = some ob := hm
    have hl : lv_has ls 4 [(0, .ref sa), (1, .int x1), (2, .int x2), (3, .int x3)] := hl
    have hP : va_P G vwCl [] H := hP
    have hD : va_D A [] := hD
    unfold M_X5_seesTwins_b24 at hm
    refine lv_iload_n hx hb dX5_seesTwins_24 rfl (lv_at hl 3 rfl) ?_
    refine lv_aload_n hx hb dX5_seesTwins_25 rfl (lv_at hl 0 rfl) ?_
    refine va_get (D := G) (ci := 4) (v := .int s_m) (C := RX5) (T := TX5) (N := 3) hx hb hts hinX5 hown hK.1 (roP hS hT.1 hT.2) 0 rfl rfl 1 (by decide) wd1 (fun _ h9 => h9) rfl dX5_seesTwins_26 ?_
    refine lv_icmp_ge (tgt := 65) hx hb dX5_seesTwins_29 (by decide) (fun b3 => ?_) (fun b3 => ?_)
    · have hm := i_t b3 hm
      exact hX _ (st_exit hm hst) H locs hP hD hS ls (lv_sub hl [0, 1, 2] rfl)
    · have hm := i_f b3 hm
      refine lv_aload_n hx hb dX5_seesTwins_32 rfl (lv_at hl 0 rfl) ?_
      refine lv_aload_n hx hb dX5_seesTwins_33 rfl (lv_at hl 0 rfl) ?_
      refine lv_iload_n hx hb dX5_seesTwins_34 rfl (lv_at hl 1 rfl) ?_
      refine lv_iload_n hx hb dX5_seesTwins_35 rfl (lv_at hl 2 rfl) ?_
      obtain ⟨r4, hc_r4, hm⟩ := bs hm
      refine k_calli0 (va_runV (As := [.int x1, .int x2]) (rest := [.ref sa]) ⟨hx, hb, hml, hown, hts⟩ (c_X5_cell l G cs H.size   sa sw s_k s_m s_t s_p s_b s_f s_l s_wl s_wf x1 x2 r4 hc_r4) (cwV 2 hts gX5_seesTwins_X5_cell rfl rfl rfl ⟨rfl, hd_X5_cell⟩ ⟨Nat.le_of_ble_eq_true rfl, Nat.le_of_ble_eq_true rfl⟩) ⟨pre_blind, va_recv hK.1 (roP hS hT.1 hT.2) (ci := 4) (q0 := 0) rfl rfl, pre_w hK (RO.at hS hRo) P0 D0 (va_new0 hS hA)⟩ rfl rfl hl.1 rfl (lv_room (Nat.le_of_ble_eq_true rfl)) dX5_seesTwins_36 ⟨Nat.zero_le _, Nat.zero_le _⟩) hP hS hA (fun hE5 H locs hP hS => ?_)
      refine lv_iload_n hx hb dX5_seesTwins_39 rfl (lv_at hl 2 rfl) ?_
      obtain ⟨r6, hc_r6, hm⟩ := bs hm
      refine k_calli0 (va_runV (As := [.int r4, .int x2]) (rest := []) ⟨hx, hb, hml, hown, hts⟩ (c_X5_cell l G cs H.size   sa sw s_k s_m s_t s_p s_b s_f s_l s_wl s_wf r4 x2 r6 hc_r6) (cwV 2 hts gX5_seesTwins_X5_cell rfl rfl rfl ⟨rfl, hd_X5_cell⟩ ⟨Nat.le_of_ble_eq_true rfl, Nat.le_of_ble_eq_true rfl⟩) ⟨pre_blind, va_recv hK.1 (roP hS hT.1 hT.2) (ci := 4) (q0 := 0) rfl rfl, pre_w hK (RO.at hS hRo) P0 D0 (va_new0 hS hA)⟩ rfl rfl hl.1 rfl (lv_room (Nat.le_of_ble_eq_true rfl)) dX5_seesTwins_40 ⟨Nat.zero_le _, Nat.zero_le _⟩) hP hS hA (fun hE7 H locs hP hS => ?_)
      refine lv_aload_n hx hb dX5_seesTwins_43 rfl (lv_at hl 0 rfl) ?_
      refine lv_aload_n hx hb dX5_seesTwins_44 rfl (lv_at hl 0 rfl) ?_
      refine lv_iload_n hx hb dX5_seesTwins_45 rfl (lv_at hl 1 rfl) ?_
      refine lv_iload_n hx hb dX5_seesTwins_46 rfl (lv_at hl 3 rfl) ?_
      obtain ⟨r8, hc_r8, hm⟩ := bs hm
      refine k_calli0 (va_runV (As := [.int x1, .int x3]) (rest := [.ref sa, .int r6]) ⟨hx, hb, hml, hown, hts⟩ (c_X5_cell l G cs H.size   sa sw s_k s_m s_t s_p s_b s_f s_l s_wl s_wf x1 x3 r8 hc_r8) (cwV 2 hts gX5_seesTwins_X5_cell rfl rfl rfl ⟨rfl, hd_X5_cell⟩ ⟨Nat.le_of_ble_eq_true rfl, Nat.le_of_ble_eq_true rfl⟩) ⟨pre_blind, va_recv hK.1 (roP hS hT.1 hT.2) (ci := 4) (q0 := 0) rfl rfl, pre_w hK (RO.at hS hRo) P0 D0 (va_new0 hS hA)⟩ rfl rfl hl.1 rfl (lv_room (Nat.le_of_ble_eq_true rfl)) dX5_seesTwins_47 ⟨Nat.zero_le _, Nat.zero_le _⟩) hP hS hA (fun hE9 H locs hP hS => ?_)
      refine lv_iload_n hx hb dX5_seesTwins_50 rfl (lv_at hl 3 rfl) ?_
      obtain ⟨r10, hc_r10, hm⟩ := bs hm
      refine k_calli0 (va_runV (As := [.int r8, .int x3]) (rest := [.int r6]) ⟨hx, hb, hml, hown, hts⟩ (c_X5_cell l G cs H.size   sa sw s_k s_m s_t s_p s_b s_f s_l s_wl s_wf r8 x3 r10 hc_r10) (cwV 2 hts gX5_seesTwins_X5_cell rfl rfl rfl ⟨rfl, hd_X5_cell⟩ ⟨Nat.le_of_ble_eq_true rfl, Nat.le_of_ble_eq_true rfl⟩) ⟨pre_blind, va_recv hK.1 (roP hS hT.1 hT.2) (ci := 4) (q0 := 0) rfl rfl, pre_w hK (RO.at hS hRo) P0 D0 (va_new0 hS hA)⟩ rfl rfl hl.1 rfl (lv_room (Nat.le_of_ble_eq_true rfl)) dX5_seesTwins_51 ⟨Nat.zero_le _, Nat.zero_le _⟩) hP hS hA (fun hE11 H locs hP hS => ?_)
      refine lv_icmp_ne (tgt := 59) hx hb dX5_seesTwins_54 (by decide) (fun b12 => ?_) (fun b12 => ?_)
      · have hm := i_f b12 hm
        refine lv_iinc (v := x3 + 1) (lv' := [(3, .int (x3 + 1)), (0, .ref sa), (1, .int x1), (2, .int x2)]) hx hb dX5_seesTwins_59 hl (k := 3) rfl rfl (by decide) rfl (fun ls hl => ?_)
        refine lv_goto (tgt := 24) hx hb dX5_seesTwins_62 (by decide) ?_
        exact st_next hm hst H locs hP hD hS ls (lv_sub hl [1, 2, 3, 0] rfl)
      · have hm := i_t b12 hm
        refine lv_iconst (v := 0) hx hb dX5_seesTwins_57 (by decide) ?_
        have hq := hret _ (st_exit hm hst)
        subst hq; subst hQ
        exact k_zret hx hb hr hlocks hP hD hS rfl (by decide) dX5_seesTwins_58
  have L12 : ∀ (x1 : Int32) (x2 : Int32) (out : (Unit ⊕ Int32)), lp (fun x : Int32 => M_X5_seesTwins_b12 n x1 s_m s_wl s_wf x) n x2 = some out → (∀ r, out = .inr r → r = res) → (∀ (o : Unit), out = .inl o → ∀ (H : Heap) (locs : List Loc), va_P G vwCl [] H → va_D A [] → va_S A s.heap H locs → ∀ (ls : Array Slot), lv_has ls 4 [(0, .ref sa), (1, .int x1)] → W p l e rmX5_seesTwins s m args below meth c H locs 0 0 Q (F0 m 71 ls [])) → ∀ (H : Heap) (locs : List Loc), va_P G vwCl [] H → va_D A [] → va_S A s.heap H locs → ∀ (ls : Array Slot), lv_has ls 4 [(0, .ref sa), (1, .int x1), (2, .int x2)] → W p l e rmX5_seesTwins s m args below meth c H locs 0 0 Q (F0 m 12 ls []) := by
    intro x1 x2 out hlp hret hX
    refine lp_ind (fun x => ∀ (H : Heap) (locs : List Loc), va_P G vwCl [] H → va_D A [] → va_S A s.heap H locs → ∀ (ls : Array Slot), lv_has ls 4 [(0, .ref sa), (1, .int x1), (2, .int x)] → W p l e rmX5_seesTwins s m args below meth c H locs 0 0 Q (F0 m 12 ls [])) ?_ n x2 hlp
    clear hlp hP hD hS hl
    intro x2 ob hm hst H locs hP hD hS ls hl
    have hm : M_X5_seesTwins_b12 n x1 s_m s_wl s_wf x2 = some ob := hm
    have hl : lv_has ls 4 [(0, .ref sa), (1, .int x1), (2, .int x2)] := hl
    have hP : va_P G vwCl [] H := hP
    have hD : va_D A [] := hD
    unfold M_X5_seesTwins_b12 at hm
    refine lv_iload_n hx hb dX5_seesTwins_12 rfl (lv_at hl 2 rfl) ?_
    refine lv_aload_n hx hb dX5_seesTwins_13 rfl (lv_at hl 0 rfl) ?_
    refine va_get (D := G) (ci := 4) (v := .int s_m) (C := RX5) (T := TX5) (N := 3) hx hb hts hinX5 hown hK.1 (roP hS hT.1 hT.2) 0 rfl rfl 1 (by decide) wd1 (fun _ h9 => h9) rfl dX5_seesTwins_14 ?_
    refine lv_icmp_ge (tgt := 71) hx hb dX5_seesTwins_17 (by decide) (fun b2 => ?_) (fun b2 => ?_)
    · have hm := i_t b2 hm
      exact hX _ (st_exit hm hst) H locs hP hD hS ls (lv_sub hl [0, 1] rfl)
    · have hm := i_f b2 hm
      refine lv_iload_n hx hb dX5_seesTwins_20 rfl (lv_at hl 2 rfl) ?_
      refine lv_iconst (v := 1) hx hb dX5_seesTwins_21 (by decide) ?_
      refine lv_iadd hx hb dX5_seesTwins_22 ?_
      refine lv_istore_n (lv' := [(3, .int (x2 + 1)), (0, .ref sa), (1, .int x1), (2, .int x2)]) hx hb dX5_seesTwins_23 rfl hl (by decide) rfl (fun ls hl => ?_)
      obtain ⟨u13, hlp13, hm⟩ := bs hm
      refine L24 x1 x2 (x2 + 1) u13 hlp13 (fun r h => by have h2 := se_r h hm; exact hret r (st_exit h2 hst)) (fun o13 ho => ?_) H locs hP hD hS ls (lv_sub hl [1, 2, 3, 0] rfl)
      have hm := se_l ho hm
      intro H locs hP hD hS ls hl
      have hl : lv_has ls 4 [(0, .ref sa), (1, .int x1), (2, .int x2)] := hl
      have hP : va_P G vwCl [] H := hP
      have hD : va_D A [] := hD
      refine lv_iinc (v := x2 + 1) (lv' := [(2, .int (x2 + 1)), (0, .ref sa), (1, .int x1)]) hx hb dX5_seesTwins_65 hl (k := 2) rfl rfl (by decide) rfl (fun ls hl => ?_)
      refine lv_goto (tgt := 12) hx hb dX5_seesTwins_68 (by decide) ?_
      exact st_next hm hst H locs hP hD hS ls (lv_sub hl [1, 2, 0] rfl)
  have L2 : ∀ (x1 : Int32) (out : (Unit ⊕ Int32)), lp (fun x : Int32 => M_X5_seesTwins_b2 n s_m s_wl s_wf x) n x1 = some out → (∀ r, out = .inr r → r = res) → (∀ (o : Unit), out = .inl o → ∀ (H : Heap) (locs : List Loc), va_P G vwCl [] H → va_D A [] → va_S A s.heap H locs → ∀ (ls : Array Slot), lv_has ls 4 [] → W p l e rmX5_seesTwins s m args below meth c H locs 0 0 Q (F0 m 77 ls [])) → ∀ (H : Heap) (locs : List Loc), va_P G vwCl [] H → va_D A [] → va_S A s.heap H locs → ∀ (ls : Array Slot), lv_has ls 4 [(0, .ref sa), (1, .int x1)] → W p l e rmX5_seesTwins s m args below meth c H locs 0 0 Q (F0 m 2 ls []) := by
    intro x1 out hlp hret hX
    refine lp_ind (fun x => ∀ (H : Heap) (locs : List Loc), va_P G vwCl [] H → va_D A [] → va_S A s.heap H locs → ∀ (ls : Array Slot), lv_has ls 4 [(0, .ref sa), (1, .int x)] → W p l e rmX5_seesTwins s m args below meth c H locs 0 0 Q (F0 m 2 ls [])) ?_ n x1 hlp
    clear hlp hP hD hS hl
    intro x1 ob hm hst H locs hP hD hS ls hl
    have hm : M_X5_seesTwins_b2 n s_m s_wl s_wf x1 = some ob := hm
    have hl : lv_has ls 4 [(0, .ref sa), (1, .int x1)] := hl
    have hP : va_P G vwCl [] H := hP
    have hD : va_D A [] := hD
    unfold M_X5_seesTwins_b2 at hm
    refine lv_iload_n hx hb dX5_seesTwins_2 rfl (lv_at hl 1 rfl) ?_
    refine lv_aload_n hx hb dX5_seesTwins_3 rfl (lv_at hl 0 rfl) ?_
    refine va_get (D := G) (ci := 4) (v := .int s_m) (C := RX5) (T := TX5) (N := 3) hx hb hts hinX5 hown hK.1 (roP hS hT.1 hT.2) 0 rfl rfl 1 (by decide) wd1 (fun _ h9 => h9) rfl dX5_seesTwins_4 ?_
    refine lv_icmp_ge (tgt := 77) hx hb dX5_seesTwins_7 (by decide) (fun b1 => ?_) (fun b1 => ?_)
    · have hm := i_t b1 hm
      exact hX _ (st_exit hm hst) H locs hP hD hS ls (lv_sub hl [] rfl)
    · have hm := i_f b1 hm
      refine lv_iconst (v := 0) hx hb dX5_seesTwins_10 (by decide) ?_
      refine lv_istore_n (lv' := [(2, .int 0), (0, .ref sa), (1, .int x1)]) hx hb dX5_seesTwins_11 rfl hl (by decide) rfl (fun ls hl => ?_)
      obtain ⟨u14, hlp14, hm⟩ := bs hm
      refine L12 x1 (0 : Int32) u14 hlp14 (fun r h => by have h2 := se_r h hm; exact hret r (st_exit h2 hst)) (fun o14 ho => ?_) H locs hP hD hS ls (lv_sub hl [1, 2, 0] rfl)
      have hm := se_l ho hm
      intro H locs hP hD hS ls hl
      have hl : lv_has ls 4 [(0, .ref sa), (1, .int x1)] := hl
      have hP : va_P G vwCl [] H := hP
      have hD : va_D A [] := hD
      refine lv_iinc (v := x1 + 1) (lv' := [(1, .int (x1 + 1)), (0, .ref sa)]) hx hb dX5_seesTwins_71 hl (k := 1) rfl rfl (by decide) rfl (fun ls hl => ?_)
      refine lv_goto (tgt := 2) hx hb dX5_seesTwins_74 (by decide) ?_
      exact st_next hm hst H locs hP hD hS ls (lv_sub hl [1, 0] rfl)
  unfold M_X5_seesTwins at hm
  refine lv_iconst (v := 0) hx hb dX5_seesTwins_0 (by decide) ?_
  refine lv_istore_n (lv' := [(1, .int 0), (0, .ref sa)]) hx hb dX5_seesTwins_1 rfl hl (by decide) rfl (fun ls hl => ?_)
  obtain ⟨u15, hlp15, hm⟩ := bs hm
  refine L2 (0 : Int32) u15 hlp15 (fun r h => Option.some.inj (se_r h hm)) (fun o15 ho => ?_) H locs hP hD hS ls (lv_sub hl [1, 0] rfl)
  have hm := se_l ho hm
  intro H locs hP hD hS ls hl
  have hl : lv_has ls 4 [] := hl
  have hP : va_P G vwCl [] H := hP
  have hD : va_D A [] := hD
  refine lv_iconst (v := 1) hx hb dX5_seesTwins_77 (by decide) ?_
  have hq := Option.some.inj hm
  subst hq; subst hQ
  exact k_zret hx hb hr hlocks hP hD hS rfl (by decide) dX5_seesTwins_78

def V_merged (sd : SD) (x1 : Int64) (x3 : Int64) : Option Int64 :=
  if sd.1 = 8 then M_X10_merged x1 x3 sd.2.2.1 else (if sd.1 = 7 then M_X9_merged x1 x3 sd.2.2.1 else (if sd.1 = 6 then some (M_X8_merged x1 x3) else (if sd.1 = 1 then some (M_X1_merged x1 x3) else (none))))
theorem hdv_merged : ("SumSmith$Linear" : String) ≠ "java/lang/invoke/MethodHandle" ∧ ("SumSmith$Linear" : String) ≠ "java/lang/invoke/VarHandle" ∧ (parseMethodDescriptor "(JJ)J").map (fun d => d.parameters.length) = some 2 := by decide +kernel

def V_changed (n : Nat) (sd : SD) (x1 : Int32) (x2 : Int32) (x3 : Int32) (x4 : Int32) : Option Int64 :=
  if sd.1 = 8 then M_X10_changed x1 x2 x3 x4 sd.2.2.1 sd.2.2.2.2.2.2.2.2.1 sd.2.2.2.2.2.2.2.2.2 else (if sd.1 = 7 then M_X9_changed x1 x2 x3 x4 sd.2.2.1 else (if sd.1 = 6 then M_X8_changed x1 x2 x3 x4 sd.2.2.1 sd.2.2.2.1 else (if sd.1 = 1 then M_X1_changed n x1 x2 x3 x4 sd.2.2.1 sd.2.2.2.2.1 sd.2.2.2.2.2.2.2.1 else (none))))
theorem hdv_changed : ("SumSmith$Linear" : String) ≠ "java/lang/invoke/MethodHandle" ∧ ("SumSmith$Linear" : String) ≠ "java/lang/invoke/VarHandle" ∧ (parseMethodDescriptor "(IIII)J").map (fun d => d.parameters.length) = some 4 := by decide +kernel

def V_holds (sd : SD) (x1 : Int64) : Option Int32 :=
  if sd.1 = 8 then some (M_X10_holds x1 sd.2.2.1) else (if sd.1 = 7 then some (M_X9_holds x1 sd.2.2.1) else (if sd.1 = 6 then some (M_X8_holds x1 sd.2.2.1) else (if sd.1 = 1 then some (M_X1_holds x1 sd.2.2.1) else (none))))
theorem hdv_holds : ("SumSmith$Linear" : String) ≠ "java/lang/invoke/MethodHandle" ∧ ("SumSmith$Linear" : String) ≠ "java/lang/invoke/VarHandle" ∧ (parseMethodDescriptor "(J)Z").map (fun d => d.parameters.length) = some 1 := by decide +kernel

def V_carried (n : Nat) (sd : SD) (x1 : Int64) (x3 : Int32) : Option Int64 :=
  if sd.1 = 8 then some (M_X10_carried x1 x3) else (if sd.1 = 7 then M_X9_carried x1 x3 sd.2.2.1 else (if sd.1 = 6 then M_X8_carried x1 x3 sd.2.2.1 sd.2.2.2.1 else (if sd.1 = 1 then M_X1_carried n x1 x3 sd.2.2.1 sd.2.2.2.2.1 sd.2.2.2.2.2.1 sd.2.2.2.2.2.2.1 else (none))))
theorem hdv_carried : ("SumSmith$Linear" : String) ≠ "java/lang/invoke/MethodHandle" ∧ ("SumSmith$Linear" : String) ≠ "java/lang/invoke/VarHandle" ∧ (parseMethodDescriptor "(JI)J").map (fun d => d.parameters.length) = some 2 := by decide +kernel

def V_isByExclusiveOr (sd : SD)  : Option Int32 :=
  if sd.1 = 8 then some (M_X2_isByExclusiveOr ) else (if sd.1 = 7 then some (M_X2_isByExclusiveOr ) else (if sd.1 = 6 then some (M_X8_isByExclusiveOr ) else (if sd.1 = 1 then some (M_X1_isByExclusiveOr ) else (none))))
theorem hdv_isByExclusiveOr : ("SumSmith$Linear" : String) ≠ "java/lang/invoke/MethodHandle" ∧ ("SumSmith$Linear" : String) ≠ "java/lang/invoke/VarHandle" ∧ (parseMethodDescriptor "()Z").map (fun d => d.parameters.length) = some 0 := by decide +kernel

def V_canJoinBehind (sd : SD) (x1 : Int32) : Option Int32 :=
  if sd.1 = 8 then M_X10_canJoinBehind x1 sd.2.2.2.2.2.2.2.2.1 else (if sd.1 = 7 then some (M_X2_canJoinBehind x1) else (if sd.1 = 6 then some (M_X2_canJoinBehind x1) else (if sd.1 = 1 then some (M_X2_canJoinBehind x1) else (none))))
theorem hdv_canJoinBehind : ("SumSmith$Linear" : String) ≠ "java/lang/invoke/MethodHandle" ∧ ("SumSmith$Linear" : String) ≠ "java/lang/invoke/VarHandle" ∧ (parseMethodDescriptor "(I)Z").map (fun d => d.parameters.length) = some 1 := by decide +kernel

def V_canDropFirst (sd : SD)  : Option Int32 :=
  if sd.1 = 8 then some (M_X10_canDropFirst sd.2.2.2.2.2.2.2.2.1) else (if sd.1 = 7 then some (M_X2_canDropFirst ) else (if sd.1 = 6 then some (M_X2_canDropFirst ) else (if sd.1 = 1 then some (M_X2_canDropFirst ) else (none))))
theorem hdv_canDropFirst : ("SumSmith$Linear" : String) ≠ "java/lang/invoke/MethodHandle" ∧ ("SumSmith$Linear" : String) ≠ "java/lang/invoke/VarHandle" ∧ (parseMethodDescriptor "()Z").map (fun d => d.parameters.length) = some 0 := by decide +kernel

def V_withoutLeadingZero (n : Nat) (sd : SD) (x1 : Int64) (x3 : Int32) : Option Int64 :=
  if sd.1 = 8 then some (M_X2_withoutLeadingZero x1 x3) else (if sd.1 = 7 then some (M_X2_withoutLeadingZero x1 x3) else (if sd.1 = 6 then some (M_X2_withoutLeadingZero x1 x3) else (if sd.1 = 1 then M_X1_withoutLeadingZero n x1 x3 sd.2.2.1 sd.2.2.2.2.1 sd.2.2.2.2.2.1 sd.2.2.2.2.2.2.2.1 else (none))))
theorem hdv_withoutLeadingZero : ("SumSmith$Linear" : String) ≠ "java/lang/invoke/MethodHandle" ∧ ("SumSmith$Linear" : String) ≠ "java/lang/invoke/VarHandle" ∧ (parseMethodDescriptor "(JI)J").map (fun d => d.parameters.length) = some 2 := by decide +kernel
