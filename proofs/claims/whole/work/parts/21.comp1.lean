theorem hd_J6_numberOfTrailingZeros_0f7a4 : yJ6_numberOfTrailingZeros_0f7a4.cls ≠ "java/lang/invoke/MethodHandle" ∧ yJ6_numberOfTrailingZeros_0f7a4.cls ≠ "java/lang/invoke/VarHandle" ∧ (parseMethodDescriptor yJ6_numberOfTrailingZeros_0f7a4.desc).map (fun d => d.parameters.length) = some 1 := by sorry

def M_J6_numberOfTrailingZeros_0f7a4 (x0 : Int32)  : Int32 :=
  if 0 < ((x0 ^^^ (-1)) &&& (x0 - 1)) then (if ((x0 ^^^ (-1)) &&& (x0 - 1)) ≤ 65536 then (if ((x0 ^^^ (-1)) &&& (x0 - 1)) ≤ 256 then (if ((x0 ^^^ (-1)) &&& (x0 - 1)) ≤ 16 then (if ((x0 ^^^ (-1)) &&& (x0 - 1)) ≤ 4 then ((1 + ((((x0 ^^^ (-1)) &&& (x0 - 1)).toUInt32 >>> ((1 : Int32).toUInt32 &&& Int32.toUInt32 31)).toInt32))) else (((1 + 2) + ((((((x0 ^^^ (-1)) &&& (x0 - 1)).toUInt32 >>> ((2 : Int32).toUInt32 &&& Int32.toUInt32 31)).toInt32).toUInt32 >>> ((1 : Int32).toUInt32 &&& Int32.toUInt32 31)).toInt32)))) else (if ((((x0 ^^^ (-1)) &&& (x0 - 1)).toUInt32 >>> ((4 : Int32).toUInt32 &&& Int32.toUInt32 31)).toInt32) ≤ 4 then (((1 + 4) + ((((((x0 ^^^ (-1)) &&& (x0 - 1)).toUInt32 >>> ((4 : Int32).toUInt32 &&& Int32.toUInt32 31)).toInt32).toUInt32 >>> ((1 : Int32).toUInt32 &&& Int32.toUInt32 31)).toInt32))) else ((((1 + 4) + 2) + ((((((((x0 ^^^ (-1)) &&& (x0 - 1)).toUInt32 >>> ((4 : Int32).toUInt32 &&& Int32.toUInt32 31)).toInt32).toUInt32 >>> ((2 : Int32).toUInt32 &&& Int32.toUInt32 31)).toInt32).toUInt32 >>> ((1 : Int32).toUInt32 &&& Int32.toUInt32 31)).toInt32))))) else (if ((((x0 ^^^ (-1)) &&& (x0 - 1)).toUInt32 >>> ((8 : Int32).toUInt32 &&& Int32.toUInt32 31)).toInt32) ≤ 16 then (if ((((x0 ^^^ (-1)) &&& (x0 - 1)).toUInt32 >>> ((8 : Int32).toUInt32 &&& Int32.toUInt32 31)).toInt32) ≤ 4 then (((1 + 8) + ((((((x0 ^^^ (-1)) &&& (x0 - 1)).toUInt32 >>> ((8 : Int32).toUInt32 &&& Int32.toUInt32 31)).toInt32).toUInt32 >>> ((1 : Int32).toUInt32 &&& Int32.toUInt32 31)).toInt32))) else ((((1 + 8) + 2) + ((((((((x0 ^^^ (-1)) &&& (x0 - 1)).toUInt32 >>> ((8 : Int32).toUInt32 &&& Int32.toUInt32 31)).toInt32).toUInt32 >>> ((2 : Int32).toUInt32 &&& Int32.toUInt32 31)).toInt32).toUInt32 >>> ((1 : Int32).toUInt32 &&& Int32.toUInt32 31)).toInt32)))) else (if ((((((x0 ^^^ (-1)) &&& (x0 - 1)).toUInt32 >>> ((8 : Int32).toUInt32 &&& Int32.toUInt32 31)).toInt32).toUInt32 >>> ((4 : Int32).toUInt32 &&& Int32.toUInt32 31)).toInt32) ≤ 4 then ((((1 + 8) + 4) + ((((((((x0 ^^^ (-1)) &&& (x0 - 1)).toUInt32 >>> ((8 : Int32).toUInt32 &&& Int32.toUInt32 31)).toInt32).toUInt32 >>> ((4 : Int32).toUInt32 &&& Int32.toUInt32 31)).toInt32).toUInt32 >>> ((1 : Int32).toUInt32 &&& Int32.toUInt32 31)).toInt32))) else (((((1 + 8) + 4) + 2) + ((((((((((x0 ^^^ (-1)) &&& (x0 - 1)).toUInt32 >>> ((8 : Int32).toUInt32 &&& Int32.toUInt32 31)).toInt32).toUInt32 >>> ((4 : Int32).toUInt32 &&& Int32.toUInt32 31)).toInt32).toUInt32 >>> ((2 : Int32).toUInt32 &&& Int32.toUInt32 31)).toInt32).toUInt32 >>> ((1 : Int32).toUInt32 &&& Int32.toUInt32 31)).toInt32)))))) else (if ((((x0 ^^^ (-1)) &&& (x0 - 1)).toUInt32 >>> ((16 : Int32).toUInt32 &&& Int32.toUInt32 31)).toInt32) ≤ 256 then (if ((((x0 ^^^ (-1)) &&& (x0 - 1)).toUInt32 >>> ((16 : Int32).toUInt32 &&& Int32.toUInt32 31)).toInt32) ≤ 16 then (if ((((x0 ^^^ (-1)) &&& (x0 - 1)).toUInt32 >>> ((16 : Int32).toUInt32 &&& Int32.toUInt32 31)).toInt32) ≤ 4 then (((1 + 16) + ((((((x0 ^^^ (-1)) &&& (x0 - 1)).toUInt32 >>> ((16 : Int32).toUInt32 &&& Int32.toUInt32 31)).toInt32).toUInt32 >>> ((1 : Int32).toUInt32 &&& Int32.toUInt32 31)).toInt32))) else ((((1 + 16) + 2) + ((((((((x0 ^^^ (-1)) &&& (x0 - 1)).toUInt32 >>> ((16 : Int32).toUInt32 &&& Int32.toUInt32 31)).toInt32).toUInt32 >>> ((2 : Int32).toUInt32 &&& Int32.toUInt32 31)).toInt32).toUInt32 >>> ((1 : Int32).toUInt32 &&& Int32.toUInt32 31)).toInt32)))) else (if ((((((x0 ^^^ (-1)) &&& (x0 - 1)).toUInt32 >>> ((16 : Int32).toUInt32 &&& Int32.toUInt32 31)).toInt32).toUInt32 >>> ((4 : Int32).toUInt32 &&& Int32.toUInt32 31)).toInt32) ≤ 4 then ((((1 + 16) + 4) + ((((((((x0 ^^^ (-1)) &&& (x0 - 1)).toUInt32 >>> ((16 : Int32).toUInt32 &&& Int32.toUInt32 31)).toInt32).toUInt32 >>> ((4 : Int32).toUInt32 &&& Int32.toUInt32 31)).toInt32).toUInt32 >>> ((1 : Int32).toUInt32 &&& Int32.toUInt32 31)).toInt32))) else (((((1 + 16) + 4) + 2) + ((((((((((x0 ^^^ (-1)) &&& (x0 - 1)).toUInt32 >>> ((16 : Int32).toUInt32 &&& Int32.toUInt32 31)).toInt32).toUInt32 >>> ((4 : Int32).toUInt32 &&& Int32.toUInt32 31)).toInt32).toUInt32 >>> ((2 : Int32).toUInt32 &&& Int32.toUInt32 31)).toInt32).toUInt32 >>> ((1 : Int32).toUInt32 &&& Int32.toUInt32 31)).toInt32))))) else (if ((((((x0 ^^^ (-1)) &&& (x0 - 1)).toUInt32 >>> ((16 : Int32).toUInt32 &&& Int32.toUInt32 31)).toInt32).toUInt32 >>> ((8 : Int32).toUInt32 &&& Int32.toUInt32 31)).toInt32) ≤ 16 then (if ((((((x0 ^^^ (-1)) &&& (x0 - 1)).toUInt32 >>> ((16 : Int32).toUInt32 &&& Int32.toUInt32 31)).toInt32).toUInt32 >>> ((8 : Int32).toUInt32 &&& Int32.toUInt32 31)).toInt32) ≤ 4 then ((((1 + 16) + 8) + ((((((((x0 ^^^ (-1)) &&& (x0 - 1)).toUInt32 >>> ((16 : Int32).toUInt32 &&& Int32.toUInt32 31)).toInt32).toUInt32 >>> ((8 : Int32).toUInt32 &&& Int32.toUInt32 31)).toInt32).toUInt32 >>> ((1 : Int32).toUInt32 &&& Int32.toUInt32 31)).toInt32))) else (((((1 + 16) + 8) + 2) + ((((((((((x0 ^^^ (-1)) &&& (x0 - 1)).toUInt32 >>> ((16 : Int32).toUInt32 &&& Int32.toUInt32 31)).toInt32).toUInt32 >>> ((8 : Int32).toUInt32 &&& Int32.toUInt32 31)).toInt32).toUInt32 >>> ((2 : Int32).toUInt32 &&& Int32.toUInt32 31)).toInt32).toUInt32 >>> ((1 : Int32).toUInt32 &&& Int32.toUInt32 31)).toInt32)))) else (if ((((((((x0 ^^^ (-1)) &&& (x0 - 1)).toUInt32 >>> ((16 : Int32).toUInt32 &&& Int32.toUInt32 31)).toInt32).toUInt32 >>> ((8 : Int32).toUInt32 &&& Int32.toUInt32 31)).toInt32).toUInt32 >>> ((4 : Int32).toUInt32 &&& Int32.toUInt32 31)).toInt32) ≤ 4 then (((((1 + 16) + 8) + 4) + ((((((((((x0 ^^^ (-1)) &&& (x0 - 1)).toUInt32 >>> ((16 : Int32).toUInt32 &&& Int32.toUInt32 31)).toInt32).toUInt32 >>> ((8 : Int32).toUInt32 &&& Int32.toUInt32 31)).toInt32).toUInt32 >>> ((4 : Int32).toUInt32 &&& Int32.toUInt32 31)).toInt32).toUInt32 >>> ((1 : Int32).toUInt32 &&& Int32.toUInt32 31)).toInt32))) else ((((((1 + 16) + 8) + 4) + 2) + ((((((((((((x0 ^^^ (-1)) &&& (x0 - 1)).toUInt32 >>> ((16 : Int32).toUInt32 &&& Int32.toUInt32 31)).toInt32).toUInt32 >>> ((8 : Int32).toUInt32 &&& Int32.toUInt32 31)).toInt32).toUInt32 >>> ((4 : Int32).toUInt32 &&& Int32.toUInt32 31)).toInt32).toUInt32 >>> ((2 : Int32).toUInt32 &&& Int32.toUInt32 31)).toInt32).toUInt32 >>> ((1 : Int32).toUInt32 &&& Int32.toUInt32 31)).toInt32))))))) else ((((x0 ^^^ (-1)) &&& (x0 - 1)) &&& 32))

abbrev rmJ6_numberOfTrailingZeros_0f7a4 : Room := { frames := 0, cells := 0, slots := 0, locals := 0 }
set_option maxHeartbeats 4000000 in
set_option maxRecDepth 100000 in
theorem c_J6_numberOfTrailingZeros_0f7a4 (l : Launch) (G : va_G) (cs : CS) (sz : Nat)    (x0 : Int32) (res : Int32) (hm : M_J6_numberOfTrailingZeros_0f7a4 x0 = res) : Met l yJ6_numberOfTrailingZeros_0f7a4 wsJ6_numberOfTrailingZeros_0f7a4 rmJ6_numberOfTrailingZeros_0f7a4 (va_Pc [.int x0] (PreW G cs sz [] RN)) (QI G res True [] (va_A [] sz)) 0 0 (va_A [] sz) := by
  sorry
theorem hd_J13_numberOfTrailingZeros_95d88 : yJ13_numberOfTrailingZeros_95d88.cls ≠ "java/lang/invoke/MethodHandle" ∧ yJ13_numberOfTrailingZeros_95d88.cls ≠ "java/lang/invoke/VarHandle" ∧ (parseMethodDescriptor yJ13_numberOfTrailingZeros_95d88.desc).map (fun d => d.parameters.length) = some 1 := by sorry

def M_J13_numberOfTrailingZeros_95d88 (x0 : Int64)  : Int32 :=
  if x0.toInt32 = 0 then ((32 + (M_J6_numberOfTrailingZeros_0f7a4 (((x0.toUInt64 >>> ((32 : Int32).toInt64.toUInt64 &&& Int64.toUInt64 63)).toInt64).toInt32)))) else ((M_J6_numberOfTrailingZeros_0f7a4 x0.toInt32))

abbrev rmJ13_numberOfTrailingZeros_95d88 : Room := { frames := 1, cells := 0, slots := 0, locals := 21 }
set_option maxHeartbeats 4000000 in
set_option maxRecDepth 100000 in
theorem c_J13_numberOfTrailingZeros_95d88 (l : Launch) (G : va_G) (cs : CS) (sz : Nat)    (x0 : Int64) (res : Int32) (hm : M_J13_numberOfTrailingZeros_95d88 x0 = res) : Met l yJ13_numberOfTrailingZeros_95d88 wsJ13_numberOfTrailingZeros_95d88 rmJ13_numberOfTrailingZeros_95d88 (va_Pc [.long x0] (PreW G cs sz [] RN)) (QI G res True [] (va_A [] sz)) 0 0 (va_A [] sz) := by
  sorry
theorem hd_J13_bitCount_95d88 : yJ13_bitCount_95d88.cls ≠ "java/lang/invoke/MethodHandle" ∧ yJ13_bitCount_95d88.cls ≠ "java/lang/invoke/VarHandle" ∧ (parseMethodDescriptor yJ13_bitCount_95d88.desc).map (fun d => d.parameters.length) = some 1 := by sorry

def M_J13_bitCount_95d88 (x0 : Int64)  : Int32 :=
  ((((((((((x0 - (((x0.toUInt64 >>> ((1 : Int32).toInt64.toUInt64 &&& Int64.toUInt64 63)).toInt64) &&& 6148914691236517205)) &&& 3689348814741910323) + ((((x0 - (((x0.toUInt64 >>> ((1 : Int32).toInt64.toUInt64 &&& Int64.toUInt64 63)).toInt64) &&& 6148914691236517205)).toUInt64 >>> ((2 : Int32).toInt64.toUInt64 &&& Int64.toUInt64 63)).toInt64) &&& 3689348814741910323)) + (((((x0 - (((x0.toUInt64 >>> ((1 : Int32).toInt64.toUInt64 &&& Int64.toUInt64 63)).toInt64) &&& 6148914691236517205)) &&& 3689348814741910323) + ((((x0 - (((x0.toUInt64 >>> ((1 : Int32).toInt64.toUInt64 &&& Int64.toUInt64 63)).toInt64) &&& 6148914691236517205)).toUInt64 >>> ((2 : Int32).toInt64.toUInt64 &&& Int64.toUInt64 63)).toInt64) &&& 3689348814741910323)).toUInt64 >>> ((4 : Int32).toInt64.toUInt64 &&& Int64.toUInt64 63)).toInt64)) &&& 1085102592571150095) + (((((((x0 - (((x0.toUInt64 >>> ((1 : Int32).toInt64.toUInt64 &&& Int64.toUInt64 63)).toInt64) &&& 6148914691236517205)) &&& 3689348814741910323) + ((((x0 - (((x0.toUInt64 >>> ((1 : Int32).toInt64.toUInt64 &&& Int64.toUInt64 63)).toInt64) &&& 6148914691236517205)).toUInt64 >>> ((2 : Int32).toInt64.toUInt64 &&& Int64.toUInt64 63)).toInt64) &&& 3689348814741910323)) + (((((x0 - (((x0.toUInt64 >>> ((1 : Int32).toInt64.toUInt64 &&& Int64.toUInt64 63)).toInt64) &&& 6148914691236517205)) &&& 3689348814741910323) + ((((x0 - (((x0.toUInt64 >>> ((1 : Int32).toInt64.toUInt64 &&& Int64.toUInt64 63)).toInt64) &&& 6148914691236517205)).toUInt64 >>> ((2 : Int32).toInt64.toUInt64 &&& Int64.toUInt64 63)).toInt64) &&& 3689348814741910323)).toUInt64 >>> ((4 : Int32).toInt64.toUInt64 &&& Int64.toUInt64 63)).toInt64)) &&& 1085102592571150095).toUInt64 >>> ((8 : Int32).toInt64.toUInt64 &&& Int64.toUInt64 63)).toInt64)) + ((((((((x0 - (((x0.toUInt64 >>> ((1 : Int32).toInt64.toUInt64 &&& Int64.toUInt64 63)).toInt64) &&& 6148914691236517205)) &&& 3689348814741910323) + ((((x0 - (((x0.toUInt64 >>> ((1 : Int32).toInt64.toUInt64 &&& Int64.toUInt64 63)).toInt64) &&& 6148914691236517205)).toUInt64 >>> ((2 : Int32).toInt64.toUInt64 &&& Int64.toUInt64 63)).toInt64) &&& 3689348814741910323)) + (((((x0 - (((x0.toUInt64 >>> ((1 : Int32).toInt64.toUInt64 &&& Int64.toUInt64 63)).toInt64) &&& 6148914691236517205)) &&& 3689348814741910323) + ((((x0 - (((x0.toUInt64 >>> ((1 : Int32).toInt64.toUInt64 &&& Int64.toUInt64 63)).toInt64) &&& 6148914691236517205)).toUInt64 >>> ((2 : Int32).toInt64.toUInt64 &&& Int64.toUInt64 63)).toInt64) &&& 3689348814741910323)).toUInt64 >>> ((4 : Int32).toInt64.toUInt64 &&& Int64.toUInt64 63)).toInt64)) &&& 1085102592571150095) + (((((((x0 - (((x0.toUInt64 >>> ((1 : Int32).toInt64.toUInt64 &&& Int64.toUInt64 63)).toInt64) &&& 6148914691236517205)) &&& 3689348814741910323) + ((((x0 - (((x0.toUInt64 >>> ((1 : Int32).toInt64.toUInt64 &&& Int64.toUInt64 63)).toInt64) &&& 6148914691236517205)).toUInt64 >>> ((2 : Int32).toInt64.toUInt64 &&& Int64.toUInt64 63)).toInt64) &&& 3689348814741910323)) + (((((x0 - (((x0.toUInt64 >>> ((1 : Int32).toInt64.toUInt64 &&& Int64.toUInt64 63)).toInt64) &&& 6148914691236517205)) &&& 3689348814741910323) + ((((x0 - (((x0.toUInt64 >>> ((1 : Int32).toInt64.toUInt64 &&& Int64.toUInt64 63)).toInt64) &&& 6148914691236517205)).toUInt64 >>> ((2 : Int32).toInt64.toUInt64 &&& Int64.toUInt64 63)).toInt64) &&& 3689348814741910323)).toUInt64 >>> ((4 : Int32).toInt64.toUInt64 &&& Int64.toUInt64 63)).toInt64)) &&& 1085102592571150095).toUInt64 >>> ((8 : Int32).toInt64.toUInt64 &&& Int64.toUInt64 63)).toInt64)).toUInt64 >>> ((16 : Int32).toInt64.toUInt64 &&& Int64.toUInt64 63)).toInt64)) + (((((((((x0 - (((x0.toUInt64 >>> ((1 : Int32).toInt64.toUInt64 &&& Int64.toUInt64 63)).toInt64) &&& 6148914691236517205)) &&& 3689348814741910323) + ((((x0 - (((x0.toUInt64 >>> ((1 : Int32).toInt64.toUInt64 &&& Int64.toUInt64 63)).toInt64) &&& 6148914691236517205)).toUInt64 >>> ((2 : Int32).toInt64.toUInt64 &&& Int64.toUInt64 63)).toInt64) &&& 3689348814741910323)) + (((((x0 - (((x0.toUInt64 >>> ((1 : Int32).toInt64.toUInt64 &&& Int64.toUInt64 63)).toInt64) &&& 6148914691236517205)) &&& 3689348814741910323) + ((((x0 - (((x0.toUInt64 >>> ((1 : Int32).toInt64.toUInt64 &&& Int64.toUInt64 63)).toInt64) &&& 6148914691236517205)).toUInt64 >>> ((2 : Int32).toInt64.toUInt64 &&& Int64.toUInt64 63)).toInt64) &&& 3689348814741910323)).toUInt64 >>> ((4 : Int32).toInt64.toUInt64 &&& Int64.toUInt64 63)).toInt64)) &&& 1085102592571150095) + (((((((x0 - (((x0.toUInt64 >>> ((1 : Int32).toInt64.toUInt64 &&& Int64.toUInt64 63)).toInt64) &&& 6148914691236517205)) &&& 3689348814741910323) + ((((x0 - (((x0.toUInt64 >>> ((1 : Int32).toInt64.toUInt64 &&& Int64.toUInt64 63)).toInt64) &&& 6148914691236517205)).toUInt64 >>> ((2 : Int32).toInt64.toUInt64 &&& Int64.toUInt64 63)).toInt64) &&& 3689348814741910323)) + (((((x0 - (((x0.toUInt64 >>> ((1 : Int32).toInt64.toUInt64 &&& Int64.toUInt64 63)).toInt64) &&& 6148914691236517205)) &&& 3689348814741910323) + ((((x0 - (((x0.toUInt64 >>> ((1 : Int32).toInt64.toUInt64 &&& Int64.toUInt64 63)).toInt64) &&& 6148914691236517205)).toUInt64 >>> ((2 : Int32).toInt64.toUInt64 &&& Int64.toUInt64 63)).toInt64) &&& 3689348814741910323)).toUInt64 >>> ((4 : Int32).toInt64.toUInt64 &&& Int64.toUInt64 63)).toInt64)) &&& 1085102592571150095).toUInt64 >>> ((8 : Int32).toInt64.toUInt64 &&& Int64.toUInt64 63)).toInt64)) + ((((((((x0 - (((x0.toUInt64 >>> ((1 : Int32).toInt64.toUInt64 &&& Int64.toUInt64 63)).toInt64) &&& 6148914691236517205)) &&& 3689348814741910323) + ((((x0 - (((x0.toUInt64 >>> ((1 : Int32).toInt64.toUInt64 &&& Int64.toUInt64 63)).toInt64) &&& 6148914691236517205)).toUInt64 >>> ((2 : Int32).toInt64.toUInt64 &&& Int64.toUInt64 63)).toInt64) &&& 3689348814741910323)) + (((((x0 - (((x0.toUInt64 >>> ((1 : Int32).toInt64.toUInt64 &&& Int64.toUInt64 63)).toInt64) &&& 6148914691236517205)) &&& 3689348814741910323) + ((((x0 - (((x0.toUInt64 >>> ((1 : Int32).toInt64.toUInt64 &&& Int64.toUInt64 63)).toInt64) &&& 6148914691236517205)).toUInt64 >>> ((2 : Int32).toInt64.toUInt64 &&& Int64.toUInt64 63)).toInt64) &&& 3689348814741910323)).toUInt64 >>> ((4 : Int32).toInt64.toUInt64 &&& Int64.toUInt64 63)).toInt64)) &&& 1085102592571150095) + (((((((x0 - (((x0.toUInt64 >>> ((1 : Int32).toInt64.toUInt64 &&& Int64.toUInt64 63)).toInt64) &&& 6148914691236517205)) &&& 3689348814741910323) + ((((x0 - (((x0.toUInt64 >>> ((1 : Int32).toInt64.toUInt64 &&& Int64.toUInt64 63)).toInt64) &&& 6148914691236517205)).toUInt64 >>> ((2 : Int32).toInt64.toUInt64 &&& Int64.toUInt64 63)).toInt64) &&& 3689348814741910323)) + (((((x0 - (((x0.toUInt64 >>> ((1 : Int32).toInt64.toUInt64 &&& Int64.toUInt64 63)).toInt64) &&& 6148914691236517205)) &&& 3689348814741910323) + ((((x0 - (((x0.toUInt64 >>> ((1 : Int32).toInt64.toUInt64 &&& Int64.toUInt64 63)).toInt64) &&& 6148914691236517205)).toUInt64 >>> ((2 : Int32).toInt64.toUInt64 &&& Int64.toUInt64 63)).toInt64) &&& 3689348814741910323)).toUInt64 >>> ((4 : Int32).toInt64.toUInt64 &&& Int64.toUInt64 63)).toInt64)) &&& 1085102592571150095).toUInt64 >>> ((8 : Int32).toInt64.toUInt64 &&& Int64.toUInt64 63)).toInt64)).toUInt64 >>> ((16 : Int32).toInt64.toUInt64 &&& Int64.toUInt64 63)).toInt64)).toUInt64 >>> ((32 : Int32).toInt64.toUInt64 &&& Int64.toUInt64 63)).toInt64)).toInt32) &&& 127)

abbrev rmJ13_bitCount_95d88 : Room := { frames := 0, cells := 0, slots := 0, locals := 0 }
set_option maxHeartbeats 4000000 in
set_option maxRecDepth 100000 in
theorem c_J13_bitCount_95d88 (l : Launch) (G : va_G) (cs : CS) (sz : Nat)    (x0 : Int64) (res : Int32) (hm : M_J13_bitCount_95d88 x0 = res) : Met l yJ13_bitCount_95d88 wsJ13_bitCount_95d88 rmJ13_bitCount_95d88 (va_Pc [.long x0] (PreW G cs sz [] RN)) (QI G res True [] (va_A [] sz)) 0 0 (va_A [] sz) := by
  sorry
theorem hd_J9_floorMod_f86c9 : yJ9_floorMod_f86c9.cls ≠ "java/lang/invoke/MethodHandle" ∧ yJ9_floorMod_f86c9.cls ≠ "java/lang/invoke/VarHandle" ∧ (parseMethodDescriptor yJ9_floorMod_f86c9.desc).map (fun d => d.parameters.length) = some 2 := by sorry

def M_J9_floorMod_f86c9 (x0 : Int64) (x2 : Int64)  : Option Int64 :=
  if x2 = 0 then none else if 0 ≤ (x0 ^^^ x2) then (some (x0 - x0 / x2 * x2)) else (if (x0 - x0 / x2 * x2) = 0 then (some (x0 - x0 / x2 * x2)) else (some ((x0 - x0 / x2 * x2) + x2)))

abbrev rmJ9_floorMod_f86c9 : Room := { frames := 0, cells := 0, slots := 0, locals := 0 }
set_option maxHeartbeats 4000000 in
set_option maxRecDepth 100000 in
theorem c_J9_floorMod_f86c9 (l : Launch) (G : va_G) (cs : CS) (sz : Nat)    (x0 : Int64) (x2 : Int64) (res : Int64) (hm : M_J9_floorMod_f86c9 x0 x2 = some res) : Met l yJ9_floorMod_f86c9 wsJ9_floorMod_f86c9 rmJ9_floorMod_f86c9 (va_Pc [.long x0, .long x2] (PreW G cs sz [] RN)) (QL G res [] (va_A [] sz)) 0 0 (va_A [] sz) := by
  sorry
theorem hd_J7_fill_53178 : yJ7_fill_53178.cls ≠ "java/lang/invoke/MethodHandle" ∧ yJ7_fill_53178.cls ≠ "java/lang/invoke/VarHandle" ∧ (parseMethodDescriptor yJ7_fill_53178.desc).map (fun d => d.parameters.length) = some 2 := by sorry

def M_J7_fill_53178_b5 (n : Nat) (x1 : Int32) (x3 : Int32) (n0 : Nat) (x2 : Int32) (v_p0 : (Nat → Int32)) : Option ((Int32 × (Nat → Int32)) ⊕ (Nat → Int32)) :=
  if x3 ≤ x2 then (some (.inr v_p0)) else (if x2 < 0 ∨ n0 ≤ x2.toNatClampNeg then none else some (.inl (x2 + 1, (upd v_p0 x2.toNatClampNeg x1))))

def M_J7_fill_53178 (n : Nat) (x1 : Int32) (v_p0 : (Nat → Int32)) (n0 : Nat) : Option (Nat → Int32) :=
  (lp (fun x : (Int32 × (Nat → Int32)) => M_J7_fill_53178_b5 n x1 (Int32.ofNat n0) n0 x.1 x.2) n ((0 : Int32), v_p0)).bind fun o3 => some o3

abbrev ww_J7_fill_53178 (cs : CS) (v_p0 : (Nat → Int32)) (a0 : Nat) (n0 : Nat) : va_W := [(a0, .inl (cs.1, n0, .inl v_p0))]

abbrev rmJ7_fill_53178 : Room := { frames := 0, cells := 0, slots := 0, locals := 0 }
set_option maxHeartbeats 4000000 in
set_option maxRecDepth 100000 in
theorem c_J7_fill_53178 (l : Launch) (G : va_G) (cs : CS) (sz : Nat) (v_p0 : (Nat → Int32)) (a0 : Nat) (n0 : Nat) (x1 : Int32) (n : Nat) (res : (Nat → Int32)) (hm : M_J7_fill_53178 n x1 v_p0 n0 = some res) : Met l yJ7_fill_53178 wsJ7_fill_53178 rmJ7_fill_53178 (va_Pc [.ref a0, .int x1] (PreW G cs sz (ww_J7_fill_53178 cs v_p0 a0 n0) RN)) (QV G (ww_J7_fill_53178 cs res a0 n0) (va_A (ww_J7_fill_53178 cs v_p0 a0 n0) sz)) 0 0 (va_A (ww_J7_fill_53178 cs v_p0 a0 n0) sz) := by
  sorry
theorem hd_X11_within : yX11_within.cls ≠ "java/lang/invoke/MethodHandle" ∧ yX11_within.cls ≠ "java/lang/invoke/VarHandle" ∧ (parseMethodDescriptor yX11_within.desc).map (fun d => d.parameters.length) = some 3 := by sorry

def M_X11_within (x0 : Int32) (x1 : Int32) (x2 : Int32)  : Int32 :=
  if x0 < x1 then 0 else (if x2 < x0 then 0 else 1)

abbrev rmX11_within : Room := { frames := 0, cells := 0, slots := 0, locals := 0 }
set_option maxHeartbeats 4000000 in
set_option maxRecDepth 100000 in
theorem c_X11_within (l : Launch) (G : va_G) (cs : CS) (sz : Nat)    (x0 : Int32) (x1 : Int32) (x2 : Int32) (res : Int32) (hm : M_X11_within x0 x1 x2 = res) : Met l yX11_within wsX11_within rmX11_within (va_Pc [.int x0, .int x1, .int x2] (PreW G cs sz [] RN)) (QI G res (res = 0 ∨ res = 1) [] (va_A [] sz)) 0 0 (va_A [] sz) := by
  sorry
theorem hd_X11_isModulus : yX11_isModulus.cls ≠ "java/lang/invoke/MethodHandle" ∧ yX11_isModulus.cls ≠ "java/lang/invoke/VarHandle" ∧ (parseMethodDescriptor yX11_isModulus.desc).map (fun d => d.parameters.length) = some 1 := by sorry

def M_X11_isModulus (x0 : Int32)  : Int32 :=
  (M_X11_within x0 (2 : Int32) (65536 : Int32))

abbrev rmX11_isModulus : Room := { frames := 1, cells := 0, slots := 0, locals := 22 }
set_option maxHeartbeats 4000000 in
set_option maxRecDepth 100000 in
theorem c_X11_isModulus (l : Launch) (G : va_G) (cs : CS) (sz : Nat)    (x0 : Int32) (res : Int32) (hm : M_X11_isModulus x0 = res) : Met l yX11_isModulus wsX11_isModulus rmX11_isModulus (va_Pc [.int x0] (PreW G cs sz [] RN)) (QI G res (res = 0 ∨ res = 1) [] (va_A [] sz)) 0 0 (va_A [] sz) := by
  sorry
theorem hd_X11_isByte : yX11_isByte.cls ≠ "java/lang/invoke/MethodHandle" ∧ yX11_isByte.cls ≠ "java/lang/invoke/VarHandle" ∧ (parseMethodDescriptor yX11_isByte.desc).map (fun d => d.parameters.length) = some 1 := by sorry

def M_X11_isByte (x0 : Int32)  : Int32 :=
  (M_X11_within x0 (0 : Int32) (255 : Int32))

abbrev rmX11_isByte : Room := { frames := 1, cells := 0, slots := 0, locals := 22 }
set_option maxHeartbeats 4000000 in
set_option maxRecDepth 100000 in
theorem c_X11_isByte (l : Launch) (G : va_G) (cs : CS) (sz : Nat)    (x0 : Int32) (res : Int32) (hm : M_X11_isByte x0 = res) : Met l yX11_isByte wsX11_isByte rmX11_isByte (va_Pc [.int x0] (PreW G cs sz [] RN)) (QI G res (res = 0 ∨ res = 1) [] (va_A [] sz)) 0 0 (va_A [] sz) := by
  sorry
theorem hd_X11_isSlip : yX11_isSlip.cls ≠ "java/lang/invoke/MethodHandle" ∧ yX11_isSlip.cls ≠ "java/lang/invoke/VarHandle" ∧ (parseMethodDescriptor yX11_isSlip.desc).map (fun d => d.parameters.length) = some 2 := by sorry

def M_X11_isSlip (x0 : Int32) (x1 : Int32)  : Int32 :=
  if x0 = 0 then ((M_X11_within x1 (1 : Int32) (3 : Int32))) else (if x0 = 1 then ((M_X11_within x1 (1 : Int32) (8 : Int32))) else ((M_X11_within x0 (2 : Int32) (5 : Int32))))

abbrev rmX11_isSlip : Room := { frames := 1, cells := 0, slots := 0, locals := 22 }
set_option maxHeartbeats 4000000 in
set_option maxRecDepth 100000 in
theorem c_X11_isSlip (l : Launch) (G : va_G) (cs : CS) (sz : Nat)    (x0 : Int32) (x1 : Int32) (res : Int32) (hm : M_X11_isSlip x0 x1 = res) : Met l yX11_isSlip wsX11_isSlip rmX11_isSlip (va_Pc [.int x0, .int x1] (PreW G cs sz [] RN)) (QI G res (res = 0 ∨ res = 1) [] (va_A [] sz)) 0 0 (va_A [] sz) := by
  sorry
theorem hd_X11_maskOf : yX11_maskOf.cls ≠ "java/lang/invoke/MethodHandle" ∧ yX11_maskOf.cls ≠ "java/lang/invoke/VarHandle" ∧ (parseMethodDescriptor yX11_maskOf.desc).map (fun d => d.parameters.length) = some 1 := by sorry

def M_X11_maskOf (x0 : Int32)  : Int64 :=
  (((1 : Int64) <<< (x0.toInt64 &&& 63)) - 1)

abbrev rmX11_maskOf : Room := { frames := 0, cells := 0, slots := 0, locals := 0 }
set_option maxHeartbeats 4000000 in
set_option maxRecDepth 100000 in
theorem c_X11_maskOf (l : Launch) (G : va_G) (cs : CS) (sz : Nat)    (x0 : Int32) (res : Int64) (hm : M_X11_maskOf x0 = res) : Met l yX11_maskOf wsX11_maskOf rmX11_maskOf (va_Pc [.int x0] (PreW G cs sz [] RN)) (QL G res [] (va_A [] sz)) 0 0 (va_A [] sz) := by
  sorry
theorem hd_X11_fits : yX11_fits.cls ≠ "java/lang/invoke/MethodHandle" ∧ yX11_fits.cls ≠ "java/lang/invoke/VarHandle" ∧ (parseMethodDescriptor yX11_fits.desc).map (fun d => d.parameters.length) = some 2 := by sorry

def M_X11_fits (x0 : Int64) (x2 : Int32)  : Int32 :=
  if x0 < 0 then 0 else (if (M_X11_maskOf x2) < x0 then 0 else 1)

abbrev rmX11_fits : Room := { frames := 1, cells := 0, slots := 0, locals := 20 }
set_option maxHeartbeats 4000000 in
set_option maxRecDepth 100000 in
theorem c_X11_fits (l : Launch) (G : va_G) (cs : CS) (sz : Nat)    (x0 : Int64) (x2 : Int32) (res : Int32) (hm : M_X11_fits x0 x2 = res) : Met l yX11_fits wsX11_fits rmX11_fits (va_Pc [.long x0, .int x2] (PreW G cs sz [] RN)) (QI G res (res = 0 ∨ res = 1) [] (va_A [] sz)) 0 0 (va_A [] sz) := by
  sorry
theorem hd_X11_byteOfPlace : yX11_byteOfPlace.cls ≠ "java/lang/invoke/MethodHandle" ∧ yX11_byteOfPlace.cls ≠ "java/lang/invoke/VarHandle" ∧ (parseMethodDescriptor yX11_byteOfPlace.desc).map (fun d => d.parameters.length) = some 1 := by sorry

def M_X11_byteOfPlace (x0 : Int32)  : Int32 :=
  (x0 >>> (3 &&& 31))

abbrev rmX11_byteOfPlace : Room := { frames := 0, cells := 0, slots := 0, locals := 0 }
set_option maxHeartbeats 4000000 in
set_option maxRecDepth 100000 in
theorem c_X11_byteOfPlace (l : Launch) (G : va_G) (cs : CS) (sz : Nat)    (x0 : Int32) (res : Int32) (hm : M_X11_byteOfPlace x0 = res) : Met l yX11_byteOfPlace wsX11_byteOfPlace rmX11_byteOfPlace (va_Pc [.int x0] (PreW G cs sz [] RN)) (QI G res True [] (va_A [] sz)) 0 0 (va_A [] sz) := by
  sorry
theorem hd_X11_bitOfPlace : yX11_bitOfPlace.cls ≠ "java/lang/invoke/MethodHandle" ∧ yX11_bitOfPlace.cls ≠ "java/lang/invoke/VarHandle" ∧ (parseMethodDescriptor yX11_bitOfPlace.desc).map (fun d => d.parameters.length) = some 1 := by sorry

def M_X11_bitOfPlace (x0 : Int32)  : Int32 :=
  ((128 : Int32) >>> ((x0 &&& 7) &&& 31))

abbrev rmX11_bitOfPlace : Room := { frames := 0, cells := 0, slots := 0, locals := 0 }
set_option maxHeartbeats 4000000 in
set_option maxRecDepth 100000 in
theorem c_X11_bitOfPlace (l : Launch) (G : va_G) (cs : CS) (sz : Nat)    (x0 : Int32) (res : Int32) (hm : M_X11_bitOfPlace x0 = res) : Met l yX11_bitOfPlace wsX11_bitOfPlace rmX11_bitOfPlace (va_Pc [.int x0] (PreW G cs sz [] RN)) (QI G res True [] (va_A [] sz)) 0 0 (va_A [] sz) := by
  sorry
theorem hd_X2_isByExclusiveOr : yX2_isByExclusiveOr.cls ≠ "java/lang/invoke/MethodHandle" ∧ yX2_isByExclusiveOr.cls ≠ "java/lang/invoke/VarHandle" ∧ (parseMethodDescriptor yX2_isByExclusiveOr.desc).map (fun d => d.parameters.length) = some 0 := by sorry

def M_X2_isByExclusiveOr   : Int32 :=
  0

abbrev rmX2_isByExclusiveOr : Room := { frames := 0, cells := 0, slots := 0, locals := 0 }
set_option maxHeartbeats 4000000 in
set_option maxRecDepth 100000 in
theorem c_X2_isByExclusiveOr (l : Launch) (G : va_G) (cs : CS) (sz : Nat)   (sa : Nat)   (res : Int32) (hm : M_X2_isByExclusiveOr  = res) : Met l yX2_isByExclusiveOr wsX2_isByExclusiveOr rmX2_isByExclusiveOr (va_Pc [.ref sa] (PreW G cs sz [] RN)) (QI G res (res = 0 ∨ res = 1) [] (va_A [] sz)) 0 0 (va_A [] sz) := by
  sorry
theorem hd_X2_canJoinBehind : yX2_canJoinBehind.cls ≠ "java/lang/invoke/MethodHandle" ∧ yX2_canJoinBehind.cls ≠ "java/lang/invoke/VarHandle" ∧ (parseMethodDescriptor yX2_canJoinBehind.desc).map (fun d => d.parameters.length) = some 1 := by sorry

def M_X2_canJoinBehind (x1 : Int32)  : Int32 :=
  1

abbrev rmX2_canJoinBehind : Room := { frames := 0, cells := 0, slots := 0, locals := 0 }
set_option maxHeartbeats 4000000 in
set_option maxRecDepth 100000 in
theorem c_X2_canJoinBehind (l : Launch) (G : va_G) (cs : CS) (sz : Nat)   (sa : Nat)  (x1 : Int32) (res : Int32) (hm : M_X2_canJoinBehind x1 = res) : Met l yX2_canJoinBehind wsX2_canJoinBehind rmX2_canJoinBehind (va_Pc [.ref sa, .int x1] (PreW G cs sz [] RN)) (QI G res (res = 0 ∨ res = 1) [] (va_A [] sz)) 0 0 (va_A [] sz) := by
  sorry
theorem hd_X2_canDropFirst : yX2_canDropFirst.cls ≠ "java/lang/invoke/MethodHandle" ∧ yX2_canDropFirst.cls ≠ "java/lang/invoke/VarHandle" ∧ (parseMethodDescriptor yX2_canDropFirst.desc).map (fun d => d.parameters.length) = some 0 := by sorry

def M_X2_canDropFirst   : Int32 :=
  1

abbrev rmX2_canDropFirst : Room := { frames := 0, cells := 0, slots := 0, locals := 0 }
set_option maxHeartbeats 4000000 in
set_option maxRecDepth 100000 in
theorem c_X2_canDropFirst (l : Launch) (G : va_G) (cs : CS) (sz : Nat)   (sa : Nat)   (res : Int32) (hm : M_X2_canDropFirst  = res) : Met l yX2_canDropFirst wsX2_canDropFirst rmX2_canDropFirst (va_Pc [.ref sa] (PreW G cs sz [] RN)) (QI G res (res = 0 ∨ res = 1) [] (va_A [] sz)) 0 0 (va_A [] sz) := by
  sorry
theorem hd_X2_withoutLeadingZero : yX2_withoutLeadingZero.cls ≠ "java/lang/invoke/MethodHandle" ∧ yX2_withoutLeadingZero.cls ≠ "java/lang/invoke/VarHandle" ∧ (parseMethodDescriptor yX2_withoutLeadingZero.desc).map (fun d => d.parameters.length) = some 2 := by sorry

def M_X2_withoutLeadingZero (x1 : Int64) (x3 : Int32)  : Int64 :=
  x1

abbrev rmX2_withoutLeadingZero : Room := { frames := 0, cells := 0, slots := 0, locals := 0 }
set_option maxHeartbeats 4000000 in
set_option maxRecDepth 100000 in
theorem c_X2_withoutLeadingZero (l : Launch) (G : va_G) (cs : CS) (sz : Nat)   (sa : Nat)  (x1 : Int64) (x3 : Int32) (res : Int64) (hm : M_X2_withoutLeadingZero x1 x3 = res) : Met l yX2_withoutLeadingZero wsX2_withoutLeadingZero rmX2_withoutLeadingZero (va_Pc [.ref sa, .long x1, .int x3] (PreW G cs sz [] RN)) (QL G res [] (va_A [] sz)) 0 0 (va_A [] sz) := by
  sorry
theorem hd_X10_weightAt : yX10_weightAt.cls ≠ "java/lang/invoke/MethodHandle" ∧ yX10_weightAt.cls ≠ "java/lang/invoke/VarHandle" ∧ (parseMethodDescriptor yX10_weightAt.desc).map (fun d => d.parameters.length) = some 1 := by sorry

def M_X10_weightAt (x1 : Int32) (s_wl : Nat) (s_wf : (Nat → Int32)) : Option Int32 :=
  if (Int32.ofNat s_wl) = 0 then none else if (x1 - x1 / (Int32.ofNat s_wl) * (Int32.ofNat s_wl)) < 0 ∨ s_wl ≤ (x1 - x1 / (Int32.ofNat s_wl) * (Int32.ofNat s_wl)).toNatClampNeg then none else some (s_wf (x1 - x1 / (Int32.ofNat s_wl) * (Int32.ofNat s_wl)).toNatClampNeg)

abbrev rmX10_weightAt : Room := { frames := 0, cells := 0, slots := 0, locals := 0 }
set_option maxHeartbeats 4000000 in
set_option maxRecDepth 100000 in
theorem c_X10_weightAt (l : Launch) (G : va_G) (cs : CS) (sz : Nat)   (sa sw : Nat) (s_k : Int32) (s_m : Int32) (s_t : Int32) (s_p : Int64) (s_b : Int64) (s_f : Int64) (s_l : Int32) (s_wl : Nat) (s_wf : (Nat → Int32)) (x1 : Int32) (res : Int32) (hm : M_X10_weightAt x1 s_wl s_wf = some res) : Met l yX10_weightAt wsX10_weightAt rmX10_weightAt (va_Pc [.ref sa, .int x1] (PreW G cs sz [] (fun _ => some (sa, sw, (8, s_k, s_m, s_t, s_p, s_b, s_f, s_l, s_wl, s_wf))))) (QI G res True [] (va_A [] sz)) 0 0 (va_A [] sz) := by
  sorry
theorem hd_X10_ofRow : yX10_ofRow.cls ≠ "java/lang/invoke/MethodHandle" ∧ yX10_ofRow.cls ≠ "java/lang/invoke/VarHandle" ∧ (parseMethodDescriptor yX10_ofRow.desc).map (fun d => d.parameters.length) = some 2 := by sorry

def M_X10_ofRow_b5 (n : Nat) (x2 : Int32) (v_p1 : (Nat → Int32)) (n1 : Nat) (s_wl : Nat) (s_wf : (Nat → Int32)) (x3 : Int64) (x5 : Int32) : Option ((Int64 × Int32) ⊕ Int64) :=
  if x2 ≤ x5 then (some (.inr x3)) else ((M_X10_weightAt x5 s_wl s_wf).bind fun r2 => if x5 < 0 ∨ n1 ≤ x5.toNatClampNeg then none else some (.inl (x3 + (r2.toInt64 * ((v_p1 x5.toNatClampNeg).toInt64)), x5 + 1)))

def M_X10_ofRow (n : Nat) (x2 : Int32) (v_p1 : (Nat → Int32)) (n1 : Nat) (s_m : Int32) (s_wl : Nat) (s_wf : (Nat → Int32)) : Option Int64 :=
  (lp (fun x : (Int64 × Int32) => M_X10_ofRow_b5 n x2 v_p1 n1 s_wl s_wf x.1 x.2) n ((0 : Int64), (0 : Int32))).bind fun o5 => if s_m.toInt64 = 0 then none else some (o5 - o5 / s_m.toInt64 * s_m.toInt64)

abbrev ww_X10_ofRow (cs : CS) (v_p1 : (Nat → Int32)) (a1 : Nat) (n1 : Nat) : va_W := [(a1, .inl (cs.1, n1, .inl v_p1))]

abbrev rmX10_ofRow : Room := { frames := 1, cells := 0, slots := 0, locals := 21 }
set_option maxHeartbeats 4000000 in
set_option maxRecDepth 100000 in
theorem c_X10_ofRow (l : Launch) (G : va_G) (cs : CS) (sz : Nat) (v_p1 : (Nat → Int32)) (a1 : Nat) (sa sw : Nat) (n1 : Nat) (s_k : Int32) (s_m : Int32) (s_t : Int32) (s_p : Int64) (s_b : Int64) (s_f : Int64) (s_l : Int32) (s_wl : Nat) (s_wf : (Nat → Int32)) (x2 : Int32) (n : Nat) (res : Int64) (hm : M_X10_ofRow n x2 v_p1 n1 s_m s_wl s_wf = some res) : Met l yX10_ofRow wsX10_ofRow rmX10_ofRow (va_Pc [.ref sa, .ref a1, .int x2] (PreW G cs sz (ww_X10_ofRow cs v_p1 a1 n1) (fun _ => some (sa, sw, (8, s_k, s_m, s_t, s_p, s_b, s_f, s_l, s_wl, s_wf))))) (QL G res (ww_X10_ofRow cs v_p1 a1 n1) (va_A (ww_X10_ofRow cs v_p1 a1 n1) sz)) 0 0 (va_A (ww_X10_ofRow cs v_p1 a1 n1) sz) := by
  sorry
theorem hd_X10_holds : yX10_holds.cls ≠ "java/lang/invoke/MethodHandle" ∧ yX10_holds.cls ≠ "java/lang/invoke/VarHandle" ∧ (parseMethodDescriptor yX10_holds.desc).map (fun d => d.parameters.length) = some 1 := by sorry

def M_X10_holds (x1 : Int64) (s_m : Int32) : Int32 :=
  if x1 < 0 then 0 else (if s_m.toInt64 ≤ x1 then 0 else 1)

abbrev rmX10_holds : Room := { frames := 0, cells := 0, slots := 0, locals := 0 }
set_option maxHeartbeats 4000000 in
set_option maxRecDepth 100000 in
theorem c_X10_holds (l : Launch) (G : va_G) (cs : CS) (sz : Nat)   (sa sw : Nat) (s_k : Int32) (s_m : Int32) (s_t : Int32) (s_p : Int64) (s_b : Int64) (s_f : Int64) (s_l : Int32) (s_wl : Nat) (s_wf : (Nat → Int32)) (x1 : Int64) (res : Int32) (hm : M_X10_holds x1 s_m = res) : Met l yX10_holds wsX10_holds rmX10_holds (va_Pc [.ref sa, .long x1] (PreW G cs sz [] (fun _ => some (sa, sw, (8, s_k, s_m, s_t, s_p, s_b, s_f, s_l, s_wl, s_wf))))) (QI G res (res = 0 ∨ res = 1) [] (va_A [] sz)) 0 0 (va_A [] sz) := by
  sorry
theorem hd_X10_merged : yX10_merged.cls ≠ "java/lang/invoke/MethodHandle" ∧ yX10_merged.cls ≠ "java/lang/invoke/VarHandle" ∧ (parseMethodDescriptor yX10_merged.desc).map (fun d => d.parameters.length) = some 2 := by sorry

def M_X10_merged (x1 : Int64) (x3 : Int64) (s_m : Int32) : Option Int64 :=
  if s_m.toInt64 = 0 then none else some ((x1 + x3) - (x1 + x3) / s_m.toInt64 * s_m.toInt64)

abbrev rmX10_merged : Room := { frames := 0, cells := 0, slots := 0, locals := 0 }
set_option maxHeartbeats 4000000 in
set_option maxRecDepth 100000 in
theorem c_X10_merged (l : Launch) (G : va_G) (cs : CS) (sz : Nat)   (sa sw : Nat) (s_k : Int32) (s_m : Int32) (s_t : Int32) (s_p : Int64) (s_b : Int64) (s_f : Int64) (s_l : Int32) (s_wl : Nat) (s_wf : (Nat → Int32)) (x1 : Int64) (x3 : Int64) (res : Int64) (hm : M_X10_merged x1 x3 s_m = some res) : Met l yX10_merged wsX10_merged rmX10_merged (va_Pc [.ref sa, .long x1, .long x3] (PreW G cs sz [] (fun _ => some (sa, sw, (8, s_k, s_m, s_t, s_p, s_b, s_f, s_l, s_wl, s_wf))))) (QL G res [] (va_A [] sz)) 0 0 (va_A [] sz) := by
  sorry
theorem hd_X10_changed : yX10_changed.cls ≠ "java/lang/invoke/MethodHandle" ∧ yX10_changed.cls ≠ "java/lang/invoke/VarHandle" ∧ (parseMethodDescriptor yX10_changed.desc).map (fun d => d.parameters.length) = some 4 := by sorry

def M_X10_changed (x1 : Int32) (x2 : Int32) (x3 : Int32) (x4 : Int32) (s_m : Int32) (s_wl : Nat) (s_wf : (Nat → Int32)) : Option Int64 :=
  (M_X10_weightAt x2 s_wl s_wf).bind fun r1 => (M_J9_floorMod_f86c9 (r1.toInt64 * ((x4 - x3).toInt64)) s_m.toInt64).bind fun r3 => some r3

abbrev rmX10_changed : Room := { frames := 1, cells := 0, slots := 0, locals := 25 }
set_option maxHeartbeats 4000000 in
set_option maxRecDepth 100000 in
theorem c_X10_changed (l : Launch) (G : va_G) (cs : CS) (sz : Nat)   (sa sw : Nat) (s_k : Int32) (s_m : Int32) (s_t : Int32) (s_p : Int64) (s_b : Int64) (s_f : Int64) (s_l : Int32) (s_wl : Nat) (s_wf : (Nat → Int32)) (x1 : Int32) (x2 : Int32) (x3 : Int32) (x4 : Int32) (res : Int64) (hm : M_X10_changed x1 x2 x3 x4 s_m s_wl s_wf = some res) : Met l yX10_changed wsX10_changed rmX10_changed (va_Pc [.ref sa, .int x1, .int x2, .int x3, .int x4] (PreW G cs sz [] (fun _ => some (sa, sw, (8, s_k, s_m, s_t, s_p, s_b, s_f, s_l, s_wl, s_wf))))) (QL G res [] (va_A [] sz)) 0 0 (va_A [] sz) := by
  sorry
theorem hd_X10_carried : yX10_carried.cls ≠ "java/lang/invoke/MethodHandle" ∧ yX10_carried.cls ≠ "java/lang/invoke/VarHandle" ∧ (parseMethodDescriptor yX10_carried.desc).map (fun d => d.parameters.length) = some 2 := by sorry

def M_X10_carried (x1 : Int64) (x3 : Int32)  : Int64 :=
  x1

abbrev rmX10_carried : Room := { frames := 0, cells := 0, slots := 0, locals := 0 }
set_option maxHeartbeats 4000000 in
set_option maxRecDepth 100000 in
theorem c_X10_carried (l : Launch) (G : va_G) (cs : CS) (sz : Nat)   (sa sw : Nat) (s_k : Int32) (s_m : Int32) (s_t : Int32) (s_p : Int64) (s_b : Int64) (s_f : Int64) (s_l : Int32) (s_wl : Nat) (s_wf : (Nat → Int32)) (x1 : Int64) (x3 : Int32) (res : Int64) (hm : M_X10_carried x1 x3 = res) : Met l yX10_carried wsX10_carried rmX10_carried (va_Pc [.ref sa, .long x1, .int x3] (PreW G cs sz [] (fun _ => some (sa, sw, (8, s_k, s_m, s_t, s_p, s_b, s_f, s_l, s_wl, s_wf))))) (QL G res [] (va_A [] sz)) 0 0 (va_A [] sz) := by
  sorry
theorem hd_X10_canJoinBehind : yX10_canJoinBehind.cls ≠ "java/lang/invoke/MethodHandle" ∧ yX10_canJoinBehind.cls ≠ "java/lang/invoke/VarHandle" ∧ (parseMethodDescriptor yX10_canJoinBehind.desc).map (fun d => d.parameters.length) = some 1 := by sorry

def M_X10_canJoinBehind (x1 : Int32) (s_wl : Nat) : Option Int32 :=
  if (Int32.ofNat s_wl) = 0 then none else if (x1 - x1 / (Int32.ofNat s_wl) * (Int32.ofNat s_wl)) = 0 then (some 1) else (some 0)

abbrev rmX10_canJoinBehind : Room := { frames := 0, cells := 0, slots := 0, locals := 0 }
set_option maxHeartbeats 4000000 in
set_option maxRecDepth 100000 in
theorem c_X10_canJoinBehind (l : Launch) (G : va_G) (cs : CS) (sz : Nat)   (sa sw : Nat) (s_k : Int32) (s_m : Int32) (s_t : Int32) (s_p : Int64) (s_b : Int64) (s_f : Int64) (s_l : Int32) (s_wl : Nat) (s_wf : (Nat → Int32)) (x1 : Int32) (res : Int32) (hm : M_X10_canJoinBehind x1 s_wl = some res) : Met l yX10_canJoinBehind wsX10_canJoinBehind rmX10_canJoinBehind (va_Pc [.ref sa, .int x1] (PreW G cs sz [] (fun _ => some (sa, sw, (8, s_k, s_m, s_t, s_p, s_b, s_f, s_l, s_wl, s_wf))))) (QI G res (res = 0 ∨ res = 1) [] (va_A [] sz)) 0 0 (va_A [] sz) := by
  sorry
theorem hd_X10_canDropFirst : yX10_canDropFirst.cls ≠ "java/lang/invoke/MethodHandle" ∧ yX10_canDropFirst.cls ≠ "java/lang/invoke/VarHandle" ∧ (parseMethodDescriptor yX10_canDropFirst.desc).map (fun d => d.parameters.length) = some 0 := by sorry

def M_X10_canDropFirst  (s_wl : Nat) : Int32 :=
  if (Int32.ofNat s_wl) = 1 then 1 else 0

abbrev rmX10_canDropFirst : Room := { frames := 0, cells := 0, slots := 0, locals := 0 }
set_option maxHeartbeats 4000000 in
set_option maxRecDepth 100000 in
theorem c_X10_canDropFirst (l : Launch) (G : va_G) (cs : CS) (sz : Nat)   (sa sw : Nat) (s_k : Int32) (s_m : Int32) (s_t : Int32) (s_p : Int64) (s_b : Int64) (s_f : Int64) (s_l : Int32) (s_wl : Nat) (s_wf : (Nat → Int32))  (res : Int32) (hm : M_X10_canDropFirst s_wl = res) : Met l yX10_canDropFirst wsX10_canDropFirst rmX10_canDropFirst (va_Pc [.ref sa] (PreW G cs sz [] (fun _ => some (sa, sw, (8, s_k, s_m, s_t, s_p, s_b, s_f, s_l, s_wl, s_wf))))) (QI G res (res = 0 ∨ res = 1) [] (va_A [] sz)) 0 0 (va_A [] sz) := by
  sorry
theorem hd_X9_packed : yX9_packed.cls ≠ "java/lang/invoke/MethodHandle" ∧ yX9_packed.cls ≠ "java/lang/invoke/VarHandle" ∧ (parseMethodDescriptor yX9_packed.desc).map (fun d => d.parameters.length) = some 2 := by sorry

def M_X9_packed (x0 : Int64) (x2 : Int64)  : Int64 :=
  ((65536 * x2) + x0)

abbrev rmX9_packed : Room := { frames := 0, cells := 0, slots := 0, locals := 0 }
set_option maxHeartbeats 4000000 in
set_option maxRecDepth 100000 in
theorem c_X9_packed (l : Launch) (G : va_G) (cs : CS) (sz : Nat)    (x0 : Int64) (x2 : Int64) (res : Int64) (hm : M_X9_packed x0 x2 = res) : Met l yX9_packed wsX9_packed rmX9_packed (va_Pc [.long x0, .long x2] (PreW G cs sz [] RN)) (QL G res [] (va_A [] sz)) 0 0 (va_A [] sz) := by
  sorry
theorem hd_X9_partA : yX9_partA.cls ≠ "java/lang/invoke/MethodHandle" ∧ yX9_partA.cls ≠ "java/lang/invoke/VarHandle" ∧ (parseMethodDescriptor yX9_partA.desc).map (fun d => d.parameters.length) = some 1 := by sorry

def M_X9_partA (x0 : Int64)  : Int64 :=
  (x0 &&& 65535)

abbrev rmX9_partA : Room := { frames := 0, cells := 0, slots := 0, locals := 0 }
set_option maxHeartbeats 4000000 in
set_option maxRecDepth 100000 in
theorem c_X9_partA (l : Launch) (G : va_G) (cs : CS) (sz : Nat)    (x0 : Int64) (res : Int64) (hm : M_X9_partA x0 = res) : Met l yX9_partA wsX9_partA rmX9_partA (va_Pc [.long x0] (PreW G cs sz [] RN)) (QL G res [] (va_A [] sz)) 0 0 (va_A [] sz) := by
  sorry
theorem hd_X9_partB : yX9_partB.cls ≠ "java/lang/invoke/MethodHandle" ∧ yX9_partB.cls ≠ "java/lang/invoke/VarHandle" ∧ (parseMethodDescriptor yX9_partB.desc).map (fun d => d.parameters.length) = some 1 := by sorry

def M_X9_partB (x0 : Int64)  : Int64 :=
  (x0 >>> ((16 : Int32).toInt64 &&& 63))

abbrev rmX9_partB : Room := { frames := 0, cells := 0, slots := 0, locals := 0 }
set_option maxHeartbeats 4000000 in
set_option maxRecDepth 100000 in
theorem c_X9_partB (l : Launch) (G : va_G) (cs : CS) (sz : Nat)    (x0 : Int64) (res : Int64) (hm : M_X9_partB x0 = res) : Met l yX9_partB wsX9_partB rmX9_partB (va_Pc [.long x0] (PreW G cs sz [] RN)) (QL G res [] (va_A [] sz)) 0 0 (va_A [] sz) := by
  sorry
theorem hd_X9_ofRow : yX9_ofRow.cls ≠ "java/lang/invoke/MethodHandle" ∧ yX9_ofRow.cls ≠ "java/lang/invoke/VarHandle" ∧ (parseMethodDescriptor yX9_ofRow.desc).map (fun d => d.parameters.length) = some 2 := by sorry

def M_X9_ofRow_b8 (n : Nat) (x2 : Int32) (v_p1 : (Nat → Int32)) (n1 : Nat) (s_m : Int32) (x3 : Int64) (x5 : Int64) (x7 : Int32) : Option ((Int64 × Int64 × Int32) ⊕ (Int64 × Int64)) :=
  if x2 ≤ x7 then (some (.inr (x3, x5))) else (if x7 < 0 ∨ n1 ≤ x7.toNatClampNeg then none else if s_m.toInt64 = 0 then none else if s_m.toInt64 = 0 then none else some (.inl ((x3 + ((v_p1 x7.toNatClampNeg).toInt64)) - (x3 + ((v_p1 x7.toNatClampNeg).toInt64)) / s_m.toInt64 * s_m.toInt64, (x5 + ((x3 + ((v_p1 x7.toNatClampNeg).toInt64)) - (x3 + ((v_p1 x7.toNatClampNeg).toInt64)) / s_m.toInt64 * s_m.toInt64)) - (x5 + ((x3 + ((v_p1 x7.toNatClampNeg).toInt64)) - (x3 + ((v_p1 x7.toNatClampNeg).toInt64)) / s_m.toInt64 * s_m.toInt64)) / s_m.toInt64 * s_m.toInt64, x7 + 1)))

def M_X9_ofRow (n : Nat) (x2 : Int32) (v_p1 : (Nat → Int32)) (n1 : Nat) (s_m : Int32) : Option Int64 :=
  (lp (fun x : (Int64 × Int64 × Int32) => M_X9_ofRow_b8 n x2 v_p1 n1 s_m x.1 x.2.1 x.2.2) n ((0 : Int64), (0 : Int64), (0 : Int32))).bind fun o5 => some (M_X9_packed o5.1 o5.2)

abbrev ww_X9_ofRow (cs : CS) (v_p1 : (Nat → Int32)) (a1 : Nat) (n1 : Nat) : va_W := [(a1, .inl (cs.1, n1, .inl v_p1))]

abbrev rmX9_ofRow : Room := { frames := 1, cells := 0, slots := 0, locals := 23 }
set_option maxHeartbeats 4000000 in
set_option maxRecDepth 100000 in
theorem c_X9_ofRow (l : Launch) (G : va_G) (cs : CS) (sz : Nat) (v_p1 : (Nat → Int32)) (a1 : Nat) (sa sw : Nat) (n1 : Nat) (s_k : Int32) (s_m : Int32) (s_t : Int32) (s_p : Int64) (s_b : Int64) (s_f : Int64) (s_l : Int32) (s_wl : Nat) (s_wf : (Nat → Int32)) (x2 : Int32) (n : Nat) (res : Int64) (hm : M_X9_ofRow n x2 v_p1 n1 s_m = some res) : Met l yX9_ofRow wsX9_ofRow rmX9_ofRow (va_Pc [.ref sa, .ref a1, .int x2] (PreW G cs sz (ww_X9_ofRow cs v_p1 a1 n1) (fun _ => some (sa, sw, (7, s_k, s_m, s_t, s_p, s_b, s_f, s_l, s_wl, s_wf))))) (QL G res (ww_X9_ofRow cs v_p1 a1 n1) (va_A (ww_X9_ofRow cs v_p1 a1 n1) sz)) 0 0 (va_A (ww_X9_ofRow cs v_p1 a1 n1) sz) := by
  sorry
theorem hd_X9_holds : yX9_holds.cls ≠ "java/lang/invoke/MethodHandle" ∧ yX9_holds.cls ≠ "java/lang/invoke/VarHandle" ∧ (parseMethodDescriptor yX9_holds.desc).map (fun d => d.parameters.length) = some 1 := by sorry

def M_X9_holds (x1 : Int64) (s_m : Int32) : Int32 :=
  if x1 < 0 then 0 else (if s_m.toInt64 ≤ (M_X9_partA x1) then 0 else (if s_m.toInt64 ≤ (M_X9_partB x1) then 0 else 1))

abbrev rmX9_holds : Room := { frames := 1, cells := 0, slots := 0, locals := 21 }
set_option maxHeartbeats 4000000 in
set_option maxRecDepth 100000 in
theorem c_X9_holds (l : Launch) (G : va_G) (cs : CS) (sz : Nat)   (sa sw : Nat) (s_k : Int32) (s_m : Int32) (s_t : Int32) (s_p : Int64) (s_b : Int64) (s_f : Int64) (s_l : Int32) (s_wl : Nat) (s_wf : (Nat → Int32)) (x1 : Int64) (res : Int32) (hm : M_X9_holds x1 s_m = res) : Met l yX9_holds wsX9_holds rmX9_holds (va_Pc [.ref sa, .long x1] (PreW G cs sz [] (fun _ => some (sa, sw, (7, s_k, s_m, s_t, s_p, s_b, s_f, s_l, s_wl, s_wf))))) (QI G res (res = 0 ∨ res = 1) [] (va_A [] sz)) 0 0 (va_A [] sz) := by
  sorry
theorem hd_X9_merged : yX9_merged.cls ≠ "java/lang/invoke/MethodHandle" ∧ yX9_merged.cls ≠ "java/lang/invoke/VarHandle" ∧ (parseMethodDescriptor yX9_merged.desc).map (fun d => d.parameters.length) = some 2 := by sorry

def M_X9_merged (x1 : Int64) (x3 : Int64) (s_m : Int32) : Option Int64 :=
  if s_m.toInt64 = 0 then none else if s_m.toInt64 = 0 then none else some (M_X9_packed (((M_X9_partA x1) + (M_X9_partA x3)) - ((M_X9_partA x1) + (M_X9_partA x3)) / s_m.toInt64 * s_m.toInt64) (((M_X9_partB x1) + (M_X9_partB x3)) - ((M_X9_partB x1) + (M_X9_partB x3)) / s_m.toInt64 * s_m.toInt64))

abbrev rmX9_merged : Room := { frames := 1, cells := 0, slots := 0, locals := 23 }
set_option maxHeartbeats 4000000 in
set_option maxRecDepth 100000 in
theorem c_X9_merged (l : Launch) (G : va_G) (cs : CS) (sz : Nat)   (sa sw : Nat) (s_k : Int32) (s_m : Int32) (s_t : Int32) (s_p : Int64) (s_b : Int64) (s_f : Int64) (s_l : Int32) (s_wl : Nat) (s_wf : (Nat → Int32)) (x1 : Int64) (x3 : Int64) (res : Int64) (hm : M_X9_merged x1 x3 s_m = some res) : Met l yX9_merged wsX9_merged rmX9_merged (va_Pc [.ref sa, .long x1, .long x3] (PreW G cs sz [] (fun _ => some (sa, sw, (7, s_k, s_m, s_t, s_p, s_b, s_f, s_l, s_wl, s_wf))))) (QL G res [] (va_A [] sz)) 0 0 (va_A [] sz) := by
  sorry
theorem hd_X9_changed : yX9_changed.cls ≠ "java/lang/invoke/MethodHandle" ∧ yX9_changed.cls ≠ "java/lang/invoke/VarHandle" ∧ (parseMethodDescriptor yX9_changed.desc).map (fun d => d.parameters.length) = some 4 := by sorry

def M_X9_changed (x1 : Int32) (x2 : Int32) (x3 : Int32) (x4 : Int32) (s_m : Int32) : Option Int64 :=
  (M_J9_floorMod_f86c9 ((x4 - x3).toInt64) s_m.toInt64).bind fun r1 => (M_J9_floorMod_f86c9 (((x1 - x2).toInt64) * ((x4 - x3).toInt64)) s_m.toInt64).bind fun r2 => some (M_X9_packed r1 r2)

abbrev rmX9_changed : Room := { frames := 1, cells := 0, slots := 0, locals := 25 }
set_option maxHeartbeats 4000000 in
set_option maxRecDepth 100000 in
theorem c_X9_changed (l : Launch) (G : va_G) (cs : CS) (sz : Nat)   (sa sw : Nat) (s_k : Int32) (s_m : Int32) (s_t : Int32) (s_p : Int64) (s_b : Int64) (s_f : Int64) (s_l : Int32) (s_wl : Nat) (s_wf : (Nat → Int32)) (x1 : Int32) (x2 : Int32) (x3 : Int32) (x4 : Int32) (res : Int64) (hm : M_X9_changed x1 x2 x3 x4 s_m = some res) : Met l yX9_changed wsX9_changed rmX9_changed (va_Pc [.ref sa, .int x1, .int x2, .int x3, .int x4] (PreW G cs sz [] (fun _ => some (sa, sw, (7, s_k, s_m, s_t, s_p, s_b, s_f, s_l, s_wl, s_wf))))) (QL G res [] (va_A [] sz)) 0 0 (va_A [] sz) := by
  sorry
theorem hd_X9_carried : yX9_carried.cls ≠ "java/lang/invoke/MethodHandle" ∧ yX9_carried.cls ≠ "java/lang/invoke/VarHandle" ∧ (parseMethodDescriptor yX9_carried.desc).map (fun d => d.parameters.length) = some 2 := by sorry

def M_X9_carried (x1 : Int64) (x3 : Int32) (s_m : Int32) : Option Int64 :=
  if s_m.toInt64 = 0 then none else some (M_X9_packed (M_X9_partA x1) (((M_X9_partB x1) + (x3.toInt64 * (M_X9_partA x1))) - ((M_X9_partB x1) + (x3.toInt64 * (M_X9_partA x1))) / s_m.toInt64 * s_m.toInt64))

abbrev rmX9_carried : Room := { frames := 1, cells := 0, slots := 0, locals := 23 }
set_option maxHeartbeats 4000000 in
set_option maxRecDepth 100000 in
theorem c_X9_carried (l : Launch) (G : va_G) (cs : CS) (sz : Nat)   (sa sw : Nat) (s_k : Int32) (s_m : Int32) (s_t : Int32) (s_p : Int64) (s_b : Int64) (s_f : Int64) (s_l : Int32) (s_wl : Nat) (s_wf : (Nat → Int32)) (x1 : Int64) (x3 : Int32) (res : Int64) (hm : M_X9_carried x1 x3 s_m = some res) : Met l yX9_carried wsX9_carried rmX9_carried (va_Pc [.ref sa, .long x1, .int x3] (PreW G cs sz [] (fun _ => some (sa, sw, (7, s_k, s_m, s_t, s_p, s_b, s_f, s_l, s_wl, s_wf))))) (QL G res [] (va_A [] sz)) 0 0 (va_A [] sz) := by
  sorry
theorem hd_X8_carried : yX8_carried.cls ≠ "java/lang/invoke/MethodHandle" ∧ yX8_carried.cls ≠ "java/lang/invoke/VarHandle" ∧ (parseMethodDescriptor yX8_carried.desc).map (fun d => d.parameters.length) = some 2 := by sorry

def M_X8_carried (x1 : Int64) (x3 : Int32) (s_m : Int32) (s_t : Int32) : Option Int64 :=
  if s_m = 0 then none else some (((x1 <<< (((s_t * x3) - (s_t * x3) / s_m * s_m).toInt64 &&& 63)) ||| ((x1.toUInt64 >>> ((s_m - ((s_t * x3) - (s_t * x3) / s_m * s_m)).toInt64.toUInt64 &&& Int64.toUInt64 63)).toInt64)) &&& (M_X11_maskOf s_m))

abbrev rmX8_carried : Room := { frames := 1, cells := 0, slots := 0, locals := 20 }
set_option maxHeartbeats 4000000 in
set_option maxRecDepth 100000 in
theorem c_X8_carried (l : Launch) (G : va_G) (cs : CS) (sz : Nat)   (sa sw : Nat) (s_k : Int32) (s_m : Int32) (s_t : Int32) (s_p : Int64) (s_b : Int64) (s_f : Int64) (s_l : Int32) (s_wl : Nat) (s_wf : (Nat → Int32)) (x1 : Int64) (x3 : Int32) (res : Int64) (hm : M_X8_carried x1 x3 s_m s_t = some res) : Met l yX8_carried wsX8_carried rmX8_carried (va_Pc [.ref sa, .long x1, .int x3] (PreW G cs sz [] (fun _ => some (sa, sw, (6, s_k, s_m, s_t, s_p, s_b, s_f, s_l, s_wl, s_wf))))) (QL G res [] (va_A [] sz)) 0 0 (va_A [] sz) := by
  sorry
theorem hd_X8_ofRow : yX8_ofRow.cls ≠ "java/lang/invoke/MethodHandle" ∧ yX8_ofRow.cls ≠ "java/lang/invoke/VarHandle" ∧ (parseMethodDescriptor yX8_ofRow.desc).map (fun d => d.parameters.length) = some 2 := by sorry

def M_X8_ofRow_b5 (n : Nat) (x2 : Int32) (v_p1 : (Nat → Int32)) (n1 : Nat) (s_m : Int32) (s_t : Int32) (x3 : Int64) (x5 : Int32) : Option ((Int64 × Int32) ⊕ Int64) :=
  if x2 ≤ x5 then (some (.inr x3)) else ((M_X8_carried x3 (1 : Int32) s_m s_t).bind fun r2 => if x5 < 0 ∨ n1 ≤ x5.toNatClampNeg then none else some (.inl (r2 ^^^ ((v_p1 x5.toNatClampNeg).toInt64), x5 + 1)))

def M_X8_ofRow (n : Nat) (x2 : Int32) (v_p1 : (Nat → Int32)) (n1 : Nat) (s_m : Int32) (s_t : Int32) : Option Int64 :=
  (lp (fun x : (Int64 × Int32) => M_X8_ofRow_b5 n x2 v_p1 n1 s_m s_t x.1 x.2) n ((0 : Int64), (0 : Int32))).bind fun o4 => some o4

abbrev ww_X8_ofRow (cs : CS) (v_p1 : (Nat → Int32)) (a1 : Nat) (n1 : Nat) : va_W := [(a1, .inl (cs.1, n1, .inl v_p1))]

abbrev rmX8_ofRow : Room := { frames := 2, cells := 0, slots := 0, locals := 44 }
set_option maxHeartbeats 4000000 in
set_option maxRecDepth 100000 in
theorem c_X8_ofRow (l : Launch) (G : va_G) (cs : CS) (sz : Nat) (v_p1 : (Nat → Int32)) (a1 : Nat) (sa sw : Nat) (n1 : Nat) (s_k : Int32) (s_m : Int32) (s_t : Int32) (s_p : Int64) (s_b : Int64) (s_f : Int64) (s_l : Int32) (s_wl : Nat) (s_wf : (Nat → Int32)) (x2 : Int32) (n : Nat) (res : Int64) (hm : M_X8_ofRow n x2 v_p1 n1 s_m s_t = some res) : Met l yX8_ofRow wsX8_ofRow rmX8_ofRow (va_Pc [.ref sa, .ref a1, .int x2] (PreW G cs sz (ww_X8_ofRow cs v_p1 a1 n1) (fun _ => some (sa, sw, (6, s_k, s_m, s_t, s_p, s_b, s_f, s_l, s_wl, s_wf))))) (QL G res (ww_X8_ofRow cs v_p1 a1 n1) (va_A (ww_X8_ofRow cs v_p1 a1 n1) sz)) 0 0 (va_A (ww_X8_ofRow cs v_p1 a1 n1) sz) := by
  sorry
theorem hd_X8_holds : yX8_holds.cls ≠ "java/lang/invoke/MethodHandle" ∧ yX8_holds.cls ≠ "java/lang/invoke/VarHandle" ∧ (parseMethodDescriptor yX8_holds.desc).map (fun d => d.parameters.length) = some 1 := by sorry

def M_X8_holds (x1 : Int64) (s_m : Int32) : Int32 :=
  (M_X11_fits x1 s_m)

abbrev rmX8_holds : Room := { frames := 2, cells := 0, slots := 0, locals := 42 }
set_option maxHeartbeats 4000000 in
set_option maxRecDepth 100000 in
theorem c_X8_holds (l : Launch) (G : va_G) (cs : CS) (sz : Nat)   (sa sw : Nat) (s_k : Int32) (s_m : Int32) (s_t : Int32) (s_p : Int64) (s_b : Int64) (s_f : Int64) (s_l : Int32) (s_wl : Nat) (s_wf : (Nat → Int32)) (x1 : Int64) (res : Int32) (hm : M_X8_holds x1 s_m = res) : Met l yX8_holds wsX8_holds rmX8_holds (va_Pc [.ref sa, .long x1] (PreW G cs sz [] (fun _ => some (sa, sw, (6, s_k, s_m, s_t, s_p, s_b, s_f, s_l, s_wl, s_wf))))) (QI G res (res = 0 ∨ res = 1) [] (va_A [] sz)) 0 0 (va_A [] sz) := by
  sorry
theorem hd_X8_merged : yX8_merged.cls ≠ "java/lang/invoke/MethodHandle" ∧ yX8_merged.cls ≠ "java/lang/invoke/VarHandle" ∧ (parseMethodDescriptor yX8_merged.desc).map (fun d => d.parameters.length) = some 2 := by sorry

def M_X8_merged (x1 : Int64) (x3 : Int64)  : Int64 :=
  (x1 ^^^ x3)

abbrev rmX8_merged : Room := { frames := 0, cells := 0, slots := 0, locals := 0 }
set_option maxHeartbeats 4000000 in
set_option maxRecDepth 100000 in
theorem c_X8_merged (l : Launch) (G : va_G) (cs : CS) (sz : Nat)   (sa sw : Nat) (s_k : Int32) (s_m : Int32) (s_t : Int32) (s_p : Int64) (s_b : Int64) (s_f : Int64) (s_l : Int32) (s_wl : Nat) (s_wf : (Nat → Int32)) (x1 : Int64) (x3 : Int64) (res : Int64) (hm : M_X8_merged x1 x3 = res) : Met l yX8_merged wsX8_merged rmX8_merged (va_Pc [.ref sa, .long x1, .long x3] (PreW G cs sz [] (fun _ => some (sa, sw, (6, s_k, s_m, s_t, s_p, s_b, s_f, s_l, s_wl, s_wf))))) (QL G res [] (va_A [] sz)) 0 0 (va_A [] sz) := by
  sorry
theorem hd_X8_changed : yX8_changed.cls ≠ "java/lang/invoke/MethodHandle" ∧ yX8_changed.cls ≠ "java/lang/invoke/VarHandle" ∧ (parseMethodDescriptor yX8_changed.desc).map (fun d => d.parameters.length) = some 4 := by sorry

def M_X8_changed (x1 : Int32) (x2 : Int32) (x3 : Int32) (x4 : Int32) (s_m : Int32) (s_t : Int32) : Option Int64 :=
  (M_X8_carried ((x3 ^^^ x4).toInt64) ((x1 - 1) - x2) s_m s_t).bind fun r1 => some r1

abbrev rmX8_changed : Room := { frames := 2, cells := 0, slots := 0, locals := 44 }
set_option maxHeartbeats 4000000 in
set_option maxRecDepth 100000 in
theorem c_X8_changed (l : Launch) (G : va_G) (cs : CS) (sz : Nat)   (sa sw : Nat) (s_k : Int32) (s_m : Int32) (s_t : Int32) (s_p : Int64) (s_b : Int64) (s_f : Int64) (s_l : Int32) (s_wl : Nat) (s_wf : (Nat → Int32)) (x1 : Int32) (x2 : Int32) (x3 : Int32) (x4 : Int32) (res : Int64) (hm : M_X8_changed x1 x2 x3 x4 s_m s_t = some res) : Met l yX8_changed wsX8_changed rmX8_changed (va_Pc [.ref sa, .int x1, .int x2, .int x3, .int x4] (PreW G cs sz [] (fun _ => some (sa, sw, (6, s_k, s_m, s_t, s_p, s_b, s_f, s_l, s_wl, s_wf))))) (QL G res [] (va_A [] sz)) 0 0 (va_A [] sz) := by
  sorry
theorem hd_X8_isByExclusiveOr : yX8_isByExclusiveOr.cls ≠ "java/lang/invoke/MethodHandle" ∧ yX8_isByExclusiveOr.cls ≠ "java/lang/invoke/VarHandle" ∧ (parseMethodDescriptor yX8_isByExclusiveOr.desc).map (fun d => d.parameters.length) = some 0 := by sorry

def M_X8_isByExclusiveOr   : Int32 :=
  1

abbrev rmX8_isByExclusiveOr : Room := { frames := 0, cells := 0, slots := 0, locals := 0 }
set_option maxHeartbeats 4000000 in
set_option maxRecDepth 100000 in
theorem c_X8_isByExclusiveOr (l : Launch) (G : va_G) (cs : CS) (sz : Nat)   (sa sw : Nat) (s_k : Int32) (s_m : Int32) (s_t : Int32) (s_p : Int64) (s_b : Int64) (s_f : Int64) (s_l : Int32) (s_wl : Nat) (s_wf : (Nat → Int32))  (res : Int32) (hm : M_X8_isByExclusiveOr  = res) : Met l yX8_isByExclusiveOr wsX8_isByExclusiveOr rmX8_isByExclusiveOr (va_Pc [.ref sa] (PreW G cs sz [] (fun _ => some (sa, sw, (6, s_k, s_m, s_t, s_p, s_b, s_f, s_l, s_wl, s_wf))))) (QI G res (res = 0 ∨ res = 1) [] (va_A [] sz)) 0 0 (va_A [] sz) := by
  sorry
theorem hd_X1_doubled : yX1_doubled.cls ≠ "java/lang/invoke/MethodHandle" ∧ yX1_doubled.cls ≠ "java/lang/invoke/VarHandle" ∧ (parseMethodDescriptor yX1_doubled.desc).map (fun d => d.parameters.length) = some 3 := by sorry

def M_X1_doubled (x0 : Int64) (x2 : Int32) (x3 : Int64)  : Int64 :=
  if ((x0 >>> ((x2 - 1).toInt64 &&& 63)) &&& 1) = 1 then ((((x0 <<< ((1 : Int32).toInt64 &&& 63)) &&& (M_X11_maskOf x2)) ^^^ x3)) else (((x0 <<< ((1 : Int32).toInt64 &&& 63)) &&& (M_X11_maskOf x2)))

abbrev rmX1_doubled : Room := { frames := 1, cells := 0, slots := 0, locals := 20 }
set_option maxHeartbeats 4000000 in
set_option maxRecDepth 100000 in
theorem c_X1_doubled (l : Launch) (G : va_G) (cs : CS) (sz : Nat)    (x0 : Int64) (x2 : Int32) (x3 : Int64) (res : Int64) (hm : M_X1_doubled x0 x2 x3 = res) : Met l yX1_doubled wsX1_doubled rmX1_doubled (va_Pc [.long x0, .int x2, .long x3] (PreW G cs sz [] RN)) (QL G res [] (va_A [] sz)) 0 0 (va_A [] sz) := by
  sorry
theorem hd_X1_afterByte : yX1_afterByte.cls ≠ "java/lang/invoke/MethodHandle" ∧ yX1_afterByte.cls ≠ "java/lang/invoke/VarHandle" ∧ (parseMethodDescriptor yX1_afterByte.desc).map (fun d => d.parameters.length) = some 2 := by sorry

def M_X1_afterByte_b6 (n : Nat) (x3 : Int32) (s_m : Int32) (s_p : Int64) (s_l : Int32) (x4 : Int64) (x6 : Int32) : Option ((Int64 × Int32) ⊕ Int64) :=
  if 8 ≤ x6 then (some (.inr x4)) else (if s_l = 0 then (some (.inl ((M_X1_doubled (x4 ^^^ ((((x3 >>> ((7 - x6) &&& 31)) &&& 1).toInt64) <<< ((s_m - 1).toInt64 &&& 63))) s_m s_p), x6 + 1))) else (some (.inl ((M_X1_doubled (x4 ^^^ ((((x3 >>> (x6 &&& 31)) &&& 1).toInt64) <<< ((s_m - 1).toInt64 &&& 63))) s_m s_p), x6 + 1))))

def M_X1_afterByte (n : Nat) (x1 : Int64) (x3 : Int32) (s_m : Int32) (s_p : Int64) (s_l : Int32) : Option Int64 :=
  (lp (fun x : (Int64 × Int32) => M_X1_afterByte_b6 n x3 s_m s_p s_l x.1 x.2) n (x1, (0 : Int32))).bind fun o3 => some o3

abbrev rmX1_afterByte : Room := { frames := 2, cells := 0, slots := 0, locals := 46 }
set_option maxHeartbeats 4000000 in
set_option maxRecDepth 100000 in
theorem c_X1_afterByte (l : Launch) (G : va_G) (cs : CS) (sz : Nat)   (sa sw : Nat) (s_k : Int32) (s_m : Int32) (s_t : Int32) (s_p : Int64) (s_b : Int64) (s_f : Int64) (s_l : Int32) (s_wl : Nat) (s_wf : (Nat → Int32)) (x1 : Int64) (x3 : Int32) (n : Nat) (res : Int64) (hm : M_X1_afterByte n x1 x3 s_m s_p s_l = some res) : Met l yX1_afterByte wsX1_afterByte rmX1_afterByte (va_Pc [.ref sa, .long x1, .int x3] (PreW G cs sz [] (fun _ => some (sa, sw, (1, s_k, s_m, s_t, s_p, s_b, s_f, s_l, s_wl, s_wf))))) (QL G res [] (va_A [] sz)) 0 0 (va_A [] sz) := by
  sorry
theorem hd_X1_ofRow : yX1_ofRow.cls ≠ "java/lang/invoke/MethodHandle" ∧ yX1_ofRow.cls ≠ "java/lang/invoke/VarHandle" ∧ (parseMethodDescriptor yX1_ofRow.desc).map (fun d => d.parameters.length) = some 2 := by sorry

def M_X1_ofRow_b8 (n : Nat) (x2 : Int32) (v_p1 : (Nat → Int32)) (n1 : Nat) (s_m : Int32) (s_p : Int64) (s_l : Int32) (x3 : Int64) (x5 : Int32) : Option ((Int64 × Int32) ⊕ Int64) :=
  if x2 ≤ x5 then (some (.inr x3)) else (if x5 < 0 ∨ n1 ≤ x5.toNatClampNeg then none else (M_X1_afterByte n x3 (v_p1 x5.toNatClampNeg) s_m s_p s_l).bind fun r3 => some (.inl (r3, x5 + 1)))

def M_X1_ofRow (n : Nat) (x2 : Int32) (v_p1 : (Nat → Int32)) (n1 : Nat) (s_m : Int32) (s_p : Int64) (s_b : Int64) (s_f : Int64) (s_l : Int32) : Option Int64 :=
  (lp (fun x : (Int64 × Int32) => M_X1_ofRow_b8 n x2 v_p1 n1 s_m s_p s_l x.1 x.2) n (s_b, (0 : Int32))).bind fun o4 => some (o4 ^^^ s_f)

abbrev ww_X1_ofRow (cs : CS) (v_p1 : (Nat → Int32)) (a1 : Nat) (n1 : Nat) : va_W := [(a1, .inl (cs.1, n1, .inl v_p1))]

abbrev rmX1_ofRow : Room := { frames := 3, cells := 0, slots := 0, locals := 74 }
set_option maxHeartbeats 4000000 in
set_option maxRecDepth 100000 in
theorem c_X1_ofRow (l : Launch) (G : va_G) (cs : CS) (sz : Nat) (v_p1 : (Nat → Int32)) (a1 : Nat) (sa sw : Nat) (n1 : Nat) (s_k : Int32) (s_m : Int32) (s_t : Int32) (s_p : Int64) (s_b : Int64) (s_f : Int64) (s_l : Int32) (s_wl : Nat) (s_wf : (Nat → Int32)) (x2 : Int32) (n : Nat) (res : Int64) (hm : M_X1_ofRow n x2 v_p1 n1 s_m s_p s_b s_f s_l = some res) : Met l yX1_ofRow wsX1_ofRow rmX1_ofRow (va_Pc [.ref sa, .ref a1, .int x2] (PreW G cs sz (ww_X1_ofRow cs v_p1 a1 n1) (fun _ => some (sa, sw, (1, s_k, s_m, s_t, s_p, s_b, s_f, s_l, s_wl, s_wf))))) (QL G res (ww_X1_ofRow cs v_p1 a1 n1) (va_A (ww_X1_ofRow cs v_p1 a1 n1) sz)) 0 0 (va_A (ww_X1_ofRow cs v_p1 a1 n1) sz) := by
  sorry
theorem hd_X1_holds : yX1_holds.cls ≠ "java/lang/invoke/MethodHandle" ∧ yX1_holds.cls ≠ "java/lang/invoke/VarHandle" ∧ (parseMethodDescriptor yX1_holds.desc).map (fun d => d.parameters.length) = some 1 := by sorry

def M_X1_holds (x1 : Int64) (s_m : Int32) : Int32 :=
  (M_X11_fits x1 s_m)

abbrev rmX1_holds : Room := { frames := 2, cells := 0, slots := 0, locals := 42 }
set_option maxHeartbeats 4000000 in
set_option maxRecDepth 100000 in
theorem c_X1_holds (l : Launch) (G : va_G) (cs : CS) (sz : Nat)   (sa sw : Nat) (s_k : Int32) (s_m : Int32) (s_t : Int32) (s_p : Int64) (s_b : Int64) (s_f : Int64) (s_l : Int32) (s_wl : Nat) (s_wf : (Nat → Int32)) (x1 : Int64) (res : Int32) (hm : M_X1_holds x1 s_m = res) : Met l yX1_holds wsX1_holds rmX1_holds (va_Pc [.ref sa, .long x1] (PreW G cs sz [] (fun _ => some (sa, sw, (1, s_k, s_m, s_t, s_p, s_b, s_f, s_l, s_wl, s_wf))))) (QI G res (res = 0 ∨ res = 1) [] (va_A [] sz)) 0 0 (va_A [] sz) := by
  sorry
theorem hd_X1_merged : yX1_merged.cls ≠ "java/lang/invoke/MethodHandle" ∧ yX1_merged.cls ≠ "java/lang/invoke/VarHandle" ∧ (parseMethodDescriptor yX1_merged.desc).map (fun d => d.parameters.length) = some 2 := by sorry

def M_X1_merged (x1 : Int64) (x3 : Int64)  : Int64 :=
  (x1 ^^^ x3)

abbrev rmX1_merged : Room := { frames := 0, cells := 0, slots := 0, locals := 0 }
set_option maxHeartbeats 4000000 in
set_option maxRecDepth 100000 in
theorem c_X1_merged (l : Launch) (G : va_G) (cs : CS) (sz : Nat)   (sa sw : Nat) (s_k : Int32) (s_m : Int32) (s_t : Int32) (s_p : Int64) (s_b : Int64) (s_f : Int64) (s_l : Int32) (s_wl : Nat) (s_wf : (Nat → Int32)) (x1 : Int64) (x3 : Int64) (res : Int64) (hm : M_X1_merged x1 x3 = res) : Met l yX1_merged wsX1_merged rmX1_merged (va_Pc [.ref sa, .long x1, .long x3] (PreW G cs sz [] (fun _ => some (sa, sw, (1, s_k, s_m, s_t, s_p, s_b, s_f, s_l, s_wl, s_wf))))) (QL G res [] (va_A [] sz)) 0 0 (va_A [] sz) := by
  sorry
theorem hd_X1_afterZeros : yX1_afterZeros.cls ≠ "java/lang/invoke/MethodHandle" ∧ yX1_afterZeros.cls ≠ "java/lang/invoke/VarHandle" ∧ (parseMethodDescriptor yX1_afterZeros.desc).map (fun d => d.parameters.length) = some 2 := by sorry

def M_X1_afterZeros_b6 (n : Nat) (x3 : Int32) (s_m : Int32) (s_p : Int64) (x4 : Int64) (x6 : Int32) : Option ((Int64 × Int32) ⊕ Int64) :=
  if (8 * x3) ≤ x6 then (some (.inr x4)) else (some (.inl ((M_X1_doubled x4 s_m s_p), x6 + 1)))

def M_X1_afterZeros (n : Nat) (x1 : Int64) (x3 : Int32) (s_m : Int32) (s_p : Int64) : Option Int64 :=
  (lp (fun x : (Int64 × Int32) => M_X1_afterZeros_b6 n x3 s_m s_p x.1 x.2) n (x1, (0 : Int32))).bind fun o2 => some o2

abbrev rmX1_afterZeros : Room := { frames := 2, cells := 0, slots := 0, locals := 46 }
set_option maxHeartbeats 4000000 in
set_option maxRecDepth 100000 in
theorem c_X1_afterZeros (l : Launch) (G : va_G) (cs : CS) (sz : Nat)   (sa sw : Nat) (s_k : Int32) (s_m : Int32) (s_t : Int32) (s_p : Int64) (s_b : Int64) (s_f : Int64) (s_l : Int32) (s_wl : Nat) (s_wf : (Nat → Int32)) (x1 : Int64) (x3 : Int32) (n : Nat) (res : Int64) (hm : M_X1_afterZeros n x1 x3 s_m s_p = some res) : Met l yX1_afterZeros wsX1_afterZeros rmX1_afterZeros (va_Pc [.ref sa, .long x1, .int x3] (PreW G cs sz [] (fun _ => some (sa, sw, (1, s_k, s_m, s_t, s_p, s_b, s_f, s_l, s_wl, s_wf))))) (QL G res [] (va_A [] sz)) 0 0 (va_A [] sz) := by
  sorry
theorem hd_X1_changed : yX1_changed.cls ≠ "java/lang/invoke/MethodHandle" ∧ yX1_changed.cls ≠ "java/lang/invoke/VarHandle" ∧ (parseMethodDescriptor yX1_changed.desc).map (fun d => d.parameters.length) = some 4 := by sorry

def M_X1_changed (n : Nat) (x1 : Int32) (x2 : Int32) (x3 : Int32) (x4 : Int32) (s_m : Int32) (s_p : Int64) (s_l : Int32) : Option Int64 :=
  (M_X1_afterByte n (0 : Int64) (x3 ^^^ x4) s_m s_p s_l).bind fun r1 => (M_X1_afterZeros n r1 ((x1 - 1) - x2) s_m s_p).bind fun r2 => some r2

abbrev rmX1_changed : Room := { frames := 3, cells := 0, slots := 0, locals := 74 }
set_option maxHeartbeats 4000000 in
set_option maxRecDepth 100000 in
theorem c_X1_changed (l : Launch) (G : va_G) (cs : CS) (sz : Nat)   (sa sw : Nat) (s_k : Int32) (s_m : Int32) (s_t : Int32) (s_p : Int64) (s_b : Int64) (s_f : Int64) (s_l : Int32) (s_wl : Nat) (s_wf : (Nat → Int32)) (x1 : Int32) (x2 : Int32) (x3 : Int32) (x4 : Int32) (n : Nat) (res : Int64) (hm : M_X1_changed n x1 x2 x3 x4 s_m s_p s_l = some res) : Met l yX1_changed wsX1_changed rmX1_changed (va_Pc [.ref sa, .int x1, .int x2, .int x3, .int x4] (PreW G cs sz [] (fun _ => some (sa, sw, (1, s_k, s_m, s_t, s_p, s_b, s_f, s_l, s_wl, s_wf))))) (QL G res [] (va_A [] sz)) 0 0 (va_A [] sz) := by
  sorry
theorem hd_X1_carried : yX1_carried.cls ≠ "java/lang/invoke/MethodHandle" ∧ yX1_carried.cls ≠ "java/lang/invoke/VarHandle" ∧ (parseMethodDescriptor yX1_carried.desc).map (fun d => d.parameters.length) = some 2 := by sorry

def M_X1_carried (n : Nat) (x1 : Int64) (x3 : Int32) (s_m : Int32) (s_p : Int64) (s_b : Int64) (s_f : Int64) : Option Int64 :=
  (M_X1_afterZeros n ((x1 ^^^ s_f) ^^^ s_b) x3 s_m s_p).bind fun r1 => some r1

abbrev rmX1_carried : Room := { frames := 3, cells := 0, slots := 0, locals := 72 }
set_option maxHeartbeats 4000000 in
set_option maxRecDepth 100000 in
theorem c_X1_carried (l : Launch) (G : va_G) (cs : CS) (sz : Nat)   (sa sw : Nat) (s_k : Int32) (s_m : Int32) (s_t : Int32) (s_p : Int64) (s_b : Int64) (s_f : Int64) (s_l : Int32) (s_wl : Nat) (s_wf : (Nat → Int32)) (x1 : Int64) (x3 : Int32) (n : Nat) (res : Int64) (hm : M_X1_carried n x1 x3 s_m s_p s_b s_f = some res) : Met l yX1_carried wsX1_carried rmX1_carried (va_Pc [.ref sa, .long x1, .int x3] (PreW G cs sz [] (fun _ => some (sa, sw, (1, s_k, s_m, s_t, s_p, s_b, s_f, s_l, s_wl, s_wf))))) (QL G res [] (va_A [] sz)) 0 0 (va_A [] sz) := by
  sorry
theorem hd_X1_withoutLeadingZero : yX1_withoutLeadingZero.cls ≠ "java/lang/invoke/MethodHandle" ∧ yX1_withoutLeadingZero.cls ≠ "java/lang/invoke/VarHandle" ∧ (parseMethodDescriptor yX1_withoutLeadingZero.desc).map (fun d => d.parameters.length) = some 2 := by sorry

def M_X1_withoutLeadingZero (n : Nat) (x1 : Int64) (x3 : Int32) (s_m : Int32) (s_p : Int64) (s_b : Int64) (s_l : Int32) : Option Int64 :=
  (M_X1_afterByte n s_b (0 : Int32) s_m s_p s_l).bind fun r1 => (M_X1_afterZeros n (r1 ^^^ s_b) (x3 - 1) s_m s_p).bind fun r2 => some (x1 ^^^ r2)

abbrev rmX1_withoutLeadingZero : Room := { frames := 3, cells := 0, slots := 0, locals := 74 }
set_option maxHeartbeats 4000000 in
set_option maxRecDepth 100000 in
theorem c_X1_withoutLeadingZero (l : Launch) (G : va_G) (cs : CS) (sz : Nat)   (sa sw : Nat) (s_k : Int32) (s_m : Int32) (s_t : Int32) (s_p : Int64) (s_b : Int64) (s_f : Int64) (s_l : Int32) (s_wl : Nat) (s_wf : (Nat → Int32)) (x1 : Int64) (x3 : Int32) (n : Nat) (res : Int64) (hm : M_X1_withoutLeadingZero n x1 x3 s_m s_p s_b s_l = some res) : Met l yX1_withoutLeadingZero wsX1_withoutLeadingZero rmX1_withoutLeadingZero (va_Pc [.ref sa, .long x1, .int x3] (PreW G cs sz [] (fun _ => some (sa, sw, (1, s_k, s_m, s_t, s_p, s_b, s_f, s_l, s_wl, s_wf))))) (QL G res [] (va_A [] sz)) 0 0 (va_A [] sz) := by
  sorry
theorem hd_X1_isByExclusiveOr : yX1_isByExclusiveOr.cls ≠ "java/lang/invoke/MethodHandle" ∧ yX1_isByExclusiveOr.cls ≠ "java/lang/invoke/VarHandle" ∧ (parseMethodDescriptor yX1_isByExclusiveOr.desc).map (fun d => d.parameters.length) = some 0 := by sorry

def M_X1_isByExclusiveOr   : Int32 :=
  1

abbrev rmX1_isByExclusiveOr : Room := { frames := 0, cells := 0, slots := 0, locals := 0 }
set_option maxHeartbeats 4000000 in
set_option maxRecDepth 100000 in
theorem c_X1_isByExclusiveOr (l : Launch) (G : va_G) (cs : CS) (sz : Nat)   (sa sw : Nat) (s_k : Int32) (s_m : Int32) (s_t : Int32) (s_p : Int64) (s_b : Int64) (s_f : Int64) (s_l : Int32) (s_wl : Nat) (s_wf : (Nat → Int32))  (res : Int32) (hm : M_X1_isByExclusiveOr  = res) : Met l yX1_isByExclusiveOr wsX1_isByExclusiveOr rmX1_isByExclusiveOr (va_Pc [.ref sa] (PreW G cs sz [] (fun _ => some (sa, sw, (1, s_k, s_m, s_t, s_p, s_b, s_f, s_l, s_wl, s_wf))))) (QI G res (res = 0 ∨ res = 1) [] (va_A [] sz)) 0 0 (va_A [] sz) := by
  sorry
theorem hd_X1_findPeriod : yX1_findPeriod.cls ≠ "java/lang/invoke/MethodHandle" ∧ yX1_findPeriod.cls ≠ "java/lang/invoke/VarHandle" ∧ (parseMethodDescriptor yX1_findPeriod.desc).map (fun d => d.parameters.length) = some 0 := by sorry

def M_X1_findPeriod_b4 (n : Nat) (s_m : Int32) (s_p : Int64) (x1 : Int64) (x3 : Int32) : Option ((Int64 × Int32) ⊕ (Unit ⊕ Int32)) :=
  if 65535 < x3 then (some (.inr (.inl ()))) else (if x1 = 0 then (some (.inr (.inl ()))) else (if (M_X1_doubled x1 s_m s_p) = 1 then (some (.inr (.inr x3))) else (some (.inl ((M_X1_doubled x1 s_m s_p), x3 + 1)))))

def M_X1_findPeriod (n : Nat)  (s_m : Int32) (s_p : Int64) : Option Int32 :=
  (lp (fun x : (Int64 × Int32) => M_X1_findPeriod_b4 n s_m s_p x.1 x.2) n ((1 : Int64), (1 : Int32))).bind (Sum.elim (fun o4 => some (-1)) (fun r => some r))

abbrev rmX1_findPeriod : Room := { frames := 2, cells := 0, slots := 0, locals := 46 }
set_option maxHeartbeats 4000000 in
set_option maxRecDepth 100000 in
theorem c_X1_findPeriod (l : Launch) (G : va_G) (cs : CS) (sz : Nat)   (sa sw : Nat) (s_k : Int32) (s_m : Int32) (s_t : Int32) (s_p : Int64) (s_b : Int64) (s_f : Int64) (s_l : Int32) (s_wl : Nat) (s_wf : (Nat → Int32))  (n : Nat) (res : Int32) (hm : M_X1_findPeriod n s_m s_p = some res) : Met l yX1_findPeriod wsX1_findPeriod rmX1_findPeriod (va_Pc [.ref sa] (PreW G cs sz [] (fun _ => some (sa, sw, (1, s_k, s_m, s_t, s_p, s_b, s_f, s_l, s_wl, s_wf))))) (QI G res True [] (va_A [] sz)) 0 0 (va_A [] sz) := by
  sorry
theorem hd_X5_cell : yX5_cell.cls ≠ "java/lang/invoke/MethodHandle" ∧ yX5_cell.cls ≠ "java/lang/invoke/VarHandle" ∧ (parseMethodDescriptor yX5_cell.desc).map (fun d => d.parameters.length) = some 2 := by sorry

def M_X5_cell (x1 : Int32) (x2 : Int32) (s_m : Int32) (s_wl : Nat) (s_wf : (Nat → Int32)) : Option Int32 :=
  if ((s_m * x1) + x2) < 0 ∨ s_wl ≤ ((s_m * x1) + x2).toNatClampNeg then none else some (s_wf ((s_m * x1) + x2).toNatClampNeg)

abbrev rmX5_cell : Room := { frames := 0, cells := 0, slots := 0, locals := 0 }
set_option maxHeartbeats 4000000 in
set_option maxRecDepth 100000 in
theorem c_X5_cell (l : Launch) (G : va_G) (cs : CS) (sz : Nat)   (sa sw : Nat) (s_k : Int32) (s_m : Int32) (s_t : Int32) (s_p : Int64) (s_b : Int64) (s_f : Int64) (s_l : Int32) (s_wl : Nat) (s_wf : (Nat → Int32)) (x1 : Int32) (x2 : Int32) (res : Int32) (hm : M_X5_cell x1 x2 s_m s_wl s_wf = some res) : Met l yX5_cell wsX5_cell rmX5_cell (va_Pc [.ref sa, .int x1, .int x2] (PreW G cs sz [] (fun _ => some (sa, sw, (4, s_k, s_m, s_t, s_p, s_b, s_f, s_l, s_wl, s_wf))))) (QI G res True [] (va_A [] sz)) 0 0 (va_A [] sz) := by
  sorry
theorem hd_X5_ofRow : yX5_ofRow.cls ≠ "java/lang/invoke/MethodHandle" ∧ yX5_ofRow.cls ≠ "java/lang/invoke/VarHandle" ∧ (parseMethodDescriptor yX5_ofRow.desc).map (fun d => d.parameters.length) = some 2 := by sorry

def M_X5_ofRow_b5 (n : Nat) (x2 : Int32) (v_p1 : (Nat → Int32)) (n1 : Nat) (s_m : Int32) (s_wl : Nat) (s_wf : (Nat → Int32)) (x3 : Int32) (x4 : Int32) : Option ((Int32 × Int32) ⊕ (Int32 ⊕ Int64)) :=
  if x2 ≤ x4 then (some (.inr (.inl x3))) else (if x4 < 0 ∨ n1 ≤ x4.toNatClampNeg then none else if (v_p1 x4.toNatClampNeg) < s_m then (if x4 < 0 ∨ n1 ≤ x4.toNatClampNeg then none else (M_X5_cell x3 (v_p1 x4.toNatClampNeg) s_m s_wl s_wf).bind fun r5 => some (.inl (r5, x4 + 1))) else (some (.inr (.inr (-5)))))

def M_X5_ofRow (n : Nat) (x2 : Int32) (v_p1 : (Nat → Int32)) (n1 : Nat) (s_m : Int32) (s_wl : Nat) (s_wf : (Nat → Int32)) : Option Int64 :=
  (lp (fun x : (Int32 × Int32) => M_X5_ofRow_b5 n x2 v_p1 n1 s_m s_wl s_wf x.1 x.2) n ((0 : Int32), (0 : Int32))).bind (Sum.elim (fun o7 => some o7.toInt64) (fun r => some r))

abbrev ww_X5_ofRow (cs : CS) (v_p1 : (Nat → Int32)) (a1 : Nat) (n1 : Nat) : va_W := [(a1, .inl (cs.1, n1, .inl v_p1))]

abbrev rmX5_ofRow : Room := { frames := 1, cells := 0, slots := 0, locals := 22 }
set_option maxHeartbeats 4000000 in
set_option maxRecDepth 100000 in
theorem c_X5_ofRow (l : Launch) (G : va_G) (cs : CS) (sz : Nat) (v_p1 : (Nat → Int32)) (a1 : Nat) (sa sw : Nat) (n1 : Nat) (s_k : Int32) (s_m : Int32) (s_t : Int32) (s_p : Int64) (s_b : Int64) (s_f : Int64) (s_l : Int32) (s_wl : Nat) (s_wf : (Nat → Int32)) (x2 : Int32) (n : Nat) (res : Int64) (hm : M_X5_ofRow n x2 v_p1 n1 s_m s_wl s_wf = some res) : Met l yX5_ofRow wsX5_ofRow rmX5_ofRow (va_Pc [.ref sa, .ref a1, .int x2] (PreW G cs sz (ww_X5_ofRow cs v_p1 a1 n1) (fun _ => some (sa, sw, (4, s_k, s_m, s_t, s_p, s_b, s_f, s_l, s_wl, s_wf))))) (QL G res (ww_X5_ofRow cs v_p1 a1 n1) (va_A (ww_X5_ofRow cs v_p1 a1 n1) sz)) 0 0 (va_A (ww_X5_ofRow cs v_p1 a1 n1) sz) := by
  sorry
theorem hd_X5_seesSingles : yX5_seesSingles.cls ≠ "java/lang/invoke/MethodHandle" ∧ yX5_seesSingles.cls ≠ "java/lang/invoke/VarHandle" ∧ (parseMethodDescriptor yX5_seesSingles.desc).map (fun d => d.parameters.length) = some 0 := by sorry

def M_X5_seesSingles_b24 (n : Nat) (x1 : Int32) (x2 : Int32) (s_m : Int32) (s_wl : Nat) (s_wf : (Nat → Int32)) (x3 : Int32) : Option (Int32 ⊕ (Unit ⊕ Int32)) :=
  if s_m ≤ x3 then (some (.inr (.inl ()))) else ((M_X5_cell x1 x2 s_m s_wl s_wf).bind fun r4 => (M_X5_cell x1 x3 s_m s_wl s_wf).bind fun r6 => if r4 = r6 then (some (.inr (.inr 0))) else ((M_X5_cell x2 x1 s_m s_wl s_wf).bind fun r9 => (M_X5_cell x3 x1 s_m s_wl s_wf).bind fun r11 => if r9 = r11 then (some (.inr (.inr 0))) else (some (.inl (x3 + 1)))))

def M_X5_seesSingles_b12 (n : Nat) (x1 : Int32) (s_m : Int32) (s_wl : Nat) (s_wf : (Nat → Int32)) (x2 : Int32) : Option (Int32 ⊕ (Unit ⊕ Int32)) :=
  if s_m ≤ x2 then (some (.inr (.inl ()))) else ((lp (fun x : Int32 => M_X5_seesSingles_b24 n x1 x2 s_m s_wl s_wf x) n (x2 + 1)).bind (Sum.elim (fun o14 => some (.inl (x2 + 1))) (fun r => some (.inr (.inr r)))))

def M_X5_seesSingles_b2 (n : Nat) (s_m : Int32) (s_wl : Nat) (s_wf : (Nat → Int32)) (x1 : Int32) : Option (Int32 ⊕ (Unit ⊕ Int32)) :=
  if s_m ≤ x1 then (some (.inr (.inl ()))) else ((lp (fun x : Int32 => M_X5_seesSingles_b12 n x1 s_m s_wl s_wf x) n (0 : Int32)).bind (Sum.elim (fun o15 => some (.inl (x1 + 1))) (fun r => some (.inr (.inr r)))))

def M_X5_seesSingles (n : Nat)  (s_m : Int32) (s_wl : Nat) (s_wf : (Nat → Int32)) : Option Int32 :=
  (lp (fun x : Int32 => M_X5_seesSingles_b2 n s_m s_wl s_wf x) n (0 : Int32)).bind (Sum.elim (fun o16 => some 1) (fun r => some r))

abbrev rmX5_seesSingles : Room := { frames := 1, cells := 0, slots := 0, locals := 22 }
set_option maxHeartbeats 4000000 in
set_option maxRecDepth 100000 in
theorem c_X5_seesSingles (l : Launch) (G : va_G) (cs : CS) (sz : Nat)   (sa sw : Nat) (s_k : Int32) (s_m : Int32) (s_t : Int32) (s_p : Int64) (s_b : Int64) (s_f : Int64) (s_l : Int32) (s_wl : Nat) (s_wf : (Nat → Int32))  (n : Nat) (res : Int32) (hm : M_X5_seesSingles n s_m s_wl s_wf = some res) : Met l yX5_seesSingles wsX5_seesSingles rmX5_seesSingles (va_Pc [.ref sa] (PreW G cs sz [] (fun _ => some (sa, sw, (4, s_k, s_m, s_t, s_p, s_b, s_f, s_l, s_wl, s_wf))))) (QI G res (res = 0 ∨ res = 1) [] (va_A [] sz)) 0 0 (va_A [] sz) := by
  sorry
theorem hd_X5_seesSwaps : yX5_seesSwaps.cls ≠ "java/lang/invoke/MethodHandle" ∧ yX5_seesSwaps.cls ≠ "java/lang/invoke/VarHandle" ∧ (parseMethodDescriptor yX5_seesSwaps.desc).map (fun d => d.parameters.length) = some 0 := by sorry

def M_X5_seesSwaps_b24 (n : Nat) (x1 : Int32) (x2 : Int32) (s_m : Int32) (s_wl : Nat) (s_wf : (Nat → Int32)) (x3 : Int32) : Option (Int32 ⊕ (Unit ⊕ Int32)) :=
  if s_m ≤ x3 then (some (.inr (.inl ()))) else ((M_X5_cell x1 x2 s_m s_wl s_wf).bind fun r4 => (M_X5_cell r4 x3 s_m s_wl s_wf).bind fun r6 => (M_X5_cell x1 x3 s_m s_wl s_wf).bind fun r8 => (M_X5_cell r8 x2 s_m s_wl s_wf).bind fun r10 => if r6 = r10 then (some (.inr (.inr 0))) else (some (.inl (x3 + 1))))

def M_X5_seesSwaps_b12 (n : Nat) (x1 : Int32) (s_m : Int32) (s_wl : Nat) (s_wf : (Nat → Int32)) (x2 : Int32) : Option (Int32 ⊕ (Unit ⊕ Int32)) :=
  if s_m ≤ x2 then (some (.inr (.inl ()))) else ((lp (fun x : Int32 => M_X5_seesSwaps_b24 n x1 x2 s_m s_wl s_wf x) n (x2 + 1)).bind (Sum.elim (fun o13 => some (.inl (x2 + 1))) (fun r => some (.inr (.inr r)))))

def M_X5_seesSwaps_b2 (n : Nat) (s_m : Int32) (s_wl : Nat) (s_wf : (Nat → Int32)) (x1 : Int32) : Option (Int32 ⊕ (Unit ⊕ Int32)) :=
  if s_m ≤ x1 then (some (.inr (.inl ()))) else ((lp (fun x : Int32 => M_X5_seesSwaps_b12 n x1 s_m s_wl s_wf x) n (0 : Int32)).bind (Sum.elim (fun o14 => some (.inl (x1 + 1))) (fun r => some (.inr (.inr r)))))

def M_X5_seesSwaps (n : Nat)  (s_m : Int32) (s_wl : Nat) (s_wf : (Nat → Int32)) : Option Int32 :=
  (lp (fun x : Int32 => M_X5_seesSwaps_b2 n s_m s_wl s_wf x) n (0 : Int32)).bind (Sum.elim (fun o15 => some 1) (fun r => some r))

abbrev rmX5_seesSwaps : Room := { frames := 1, cells := 0, slots := 0, locals := 22 }
set_option maxHeartbeats 4000000 in
set_option maxRecDepth 100000 in
theorem c_X5_seesSwaps (l : Launch) (G : va_G) (cs : CS) (sz : Nat)   (sa sw : Nat) (s_k : Int32) (s_m : Int32) (s_t : Int32) (s_p : Int64) (s_b : Int64) (s_f : Int64) (s_l : Int32) (s_wl : Nat) (s_wf : (Nat → Int32))  (n : Nat) (res : Int32) (hm : M_X5_seesSwaps n s_m s_wl s_wf = some res) : Met l yX5_seesSwaps wsX5_seesSwaps rmX5_seesSwaps (va_Pc [.ref sa] (PreW G cs sz [] (fun _ => some (sa, sw, (4, s_k, s_m, s_t, s_p, s_b, s_f, s_l, s_wl, s_wf))))) (QI G res (res = 0 ∨ res = 1) [] (va_A [] sz)) 0 0 (va_A [] sz) := by
  sorry
theorem hd_X5_seesTwins : yX5_seesTwins.cls ≠ "java/lang/invoke/MethodHandle" ∧ yX5_seesTwins.cls ≠ "java/lang/invoke/VarHandle" ∧ (parseMethodDescriptor yX5_seesTwins.desc).map (fun d => d.parameters.length) = some 0 := by sorry

def M_X5_seesTwins_b24 (n : Nat) (x1 : Int32) (x2 : Int32) (s_m : Int32) (s_wl : Nat) (s_wf : (Nat → Int32)) (x3 : Int32) : Option (Int32 ⊕ (Unit ⊕ Int32)) :=
  if s_m ≤ x3 then (some (.inr (.inl ()))) else ((M_X5_cell x1 x2 s_m s_wl s_wf).bind fun r4 => (M_X5_cell r4 x2 s_m s_wl s_wf).bind fun r6 => (M_X5_cell x1 x3 s_m s_wl s_wf).bind fun r8 => (M_X5_cell r8 x3 s_m s_wl s_wf).bind fun r10 => if r6 = r10 then (some (.inr (.inr 0))) else (some (.inl (x3 + 1))))

def M_X5_seesTwins_b12 (n : Nat) (x1 : Int32) (s_m : Int32) (s_wl : Nat) (s_wf : (Nat → Int32)) (x2 : Int32) : Option (Int32 ⊕ (Unit ⊕ Int32)) :=
  if s_m ≤ x2 then (some (.inr (.inl ()))) else ((lp (fun x : Int32 => M_X5_seesTwins_b24 n x1 x2 s_m s_wl s_wf x) n (x2 + 1)).bind (Sum.elim (fun o13 => some (.inl (x2 + 1))) (fun r => some (.inr (.inr r)))))

def M_X5_seesTwins_b2 (n : Nat) (s_m : Int32) (s_wl : Nat) (s_wf : (Nat → Int32)) (x1 : Int32) : Option (Int32 ⊕ (Unit ⊕ Int32)) :=
  if s_m ≤ x1 then (some (.inr (.inl ()))) else ((lp (fun x : Int32 => M_X5_seesTwins_b12 n x1 s_m s_wl s_wf x) n (0 : Int32)).bind (Sum.elim (fun o14 => some (.inl (x1 + 1))) (fun r => some (.inr (.inr r)))))

def M_X5_seesTwins (n : Nat)  (s_m : Int32) (s_wl : Nat) (s_wf : (Nat → Int32)) : Option Int32 :=
  (lp (fun x : Int32 => M_X5_seesTwins_b2 n s_m s_wl s_wf x) n (0 : Int32)).bind (Sum.elim (fun o15 => some 1) (fun r => some r))

abbrev rmX5_seesTwins : Room := { frames := 1, cells := 0, slots := 0, locals := 22 }
set_option maxHeartbeats 4000000 in
set_option maxRecDepth 100000 in
theorem c_X5_seesTwins (l : Launch) (G : va_G) (cs : CS) (sz : Nat)   (sa sw : Nat) (s_k : Int32) (s_m : Int32) (s_t : Int32) (s_p : Int64) (s_b : Int64) (s_f : Int64) (s_l : Int32) (s_wl : Nat) (s_wf : (Nat → Int32))  (n : Nat) (res : Int32) (hm : M_X5_seesTwins n s_m s_wl s_wf = some res) : Met l yX5_seesTwins wsX5_seesTwins rmX5_seesTwins (va_Pc [.ref sa] (PreW G cs sz [] (fun _ => some (sa, sw, (4, s_k, s_m, s_t, s_p, s_b, s_f, s_l, s_wl, s_wf))))) (QI G res (res = 0 ∨ res = 1) [] (va_A [] sz)) 0 0 (va_A [] sz) := by
  sorry
def V_merged (sd : SD) (x1 : Int64) (x3 : Int64) : Option Int64 :=
  if sd.1 = 8 then M_X10_merged x1 x3 sd.2.2.1 else (if sd.1 = 7 then M_X9_merged x1 x3 sd.2.2.1 else (if sd.1 = 6 then some (M_X8_merged x1 x3) else (if sd.1 = 1 then some (M_X1_merged x1 x3) else (none))))
theorem hdv_merged : ("SumSmith$Linear" : String) ≠ "java/lang/invoke/MethodHandle" ∧ ("SumSmith$Linear" : String) ≠ "java/lang/invoke/VarHandle" ∧ (parseMethodDescriptor "(JJ)J").map (fun d => d.parameters.length) = some 2 := by sorry

def V_changed (n : Nat) (sd : SD) (x1 : Int32) (x2 : Int32) (x3 : Int32) (x4 : Int32) : Option Int64 :=
  if sd.1 = 8 then M_X10_changed x1 x2 x3 x4 sd.2.2.1 sd.2.2.2.2.2.2.2.2.1 sd.2.2.2.2.2.2.2.2.2 else (if sd.1 = 7 then M_X9_changed x1 x2 x3 x4 sd.2.2.1 else (if sd.1 = 6 then M_X8_changed x1 x2 x3 x4 sd.2.2.1 sd.2.2.2.1 else (if sd.1 = 1 then M_X1_changed n x1 x2 x3 x4 sd.2.2.1 sd.2.2.2.2.1 sd.2.2.2.2.2.2.2.1 else (none))))
theorem hdv_changed : ("SumSmith$Linear" : String) ≠ "java/lang/invoke/MethodHandle" ∧ ("SumSmith$Linear" : String) ≠ "java/lang/invoke/VarHandle" ∧ (parseMethodDescriptor "(IIII)J").map (fun d => d.parameters.length) = some 4 := by sorry

def V_holds (sd : SD) (x1 : Int64) : Option Int32 :=
  if sd.1 = 8 then some (M_X10_holds x1 sd.2.2.1) else (if sd.1 = 7 then some (M_X9_holds x1 sd.2.2.1) else (if sd.1 = 6 then some (M_X8_holds x1 sd.2.2.1) else (if sd.1 = 1 then some (M_X1_holds x1 sd.2.2.1) else (none))))
theorem hdv_holds : ("SumSmith$Linear" : String) ≠ "java/lang/invoke/MethodHandle" ∧ ("SumSmith$Linear" : String) ≠ "java/lang/invoke/VarHandle" ∧ (parseMethodDescriptor "(J)Z").map (fun d => d.parameters.length) = some 1 := by sorry

def V_carried (n : Nat) (sd : SD) (x1 : Int64) (x3 : Int32) : Option Int64 :=
  if sd.1 = 8 then some (M_X10_carried x1 x3) else (if sd.1 = 7 then M_X9_carried x1 x3 sd.2.2.1 else (if sd.1 = 6 then M_X8_carried x1 x3 sd.2.2.1 sd.2.2.2.1 else (if sd.1 = 1 then M_X1_carried n x1 x3 sd.2.2.1 sd.2.2.2.2.1 sd.2.2.2.2.2.1 sd.2.2.2.2.2.2.1 else (none))))
theorem hdv_carried : ("SumSmith$Linear" : String) ≠ "java/lang/invoke/MethodHandle" ∧ ("SumSmith$Linear" : String) ≠ "java/lang/invoke/VarHandle" ∧ (parseMethodDescriptor "(JI)J").map (fun d => d.parameters.length) = some 2 := by sorry

def V_isByExclusiveOr (sd : SD)  : Option Int32 :=
  if sd.1 = 8 then some (M_X2_isByExclusiveOr ) else (if sd.1 = 7 then some (M_X2_isByExclusiveOr ) else (if sd.1 = 6 then some (M_X8_isByExclusiveOr ) else (if sd.1 = 1 then some (M_X1_isByExclusiveOr ) else (none))))
theorem hdv_isByExclusiveOr : ("SumSmith$Linear" : String) ≠ "java/lang/invoke/MethodHandle" ∧ ("SumSmith$Linear" : String) ≠ "java/lang/invoke/VarHandle" ∧ (parseMethodDescriptor "()Z").map (fun d => d.parameters.length) = some 0 := by sorry

def V_canJoinBehind (sd : SD) (x1 : Int32) : Option Int32 :=
  if sd.1 = 8 then M_X10_canJoinBehind x1 sd.2.2.2.2.2.2.2.2.1 else (if sd.1 = 7 then some (M_X2_canJoinBehind x1) else (if sd.1 = 6 then some (M_X2_canJoinBehind x1) else (if sd.1 = 1 then some (M_X2_canJoinBehind x1) else (none))))
theorem hdv_canJoinBehind : ("SumSmith$Linear" : String) ≠ "java/lang/invoke/MethodHandle" ∧ ("SumSmith$Linear" : String) ≠ "java/lang/invoke/VarHandle" ∧ (parseMethodDescriptor "(I)Z").map (fun d => d.parameters.length) = some 1 := by sorry

def V_canDropFirst (sd : SD)  : Option Int32 :=
  if sd.1 = 8 then some (M_X10_canDropFirst sd.2.2.2.2.2.2.2.2.1) else (if sd.1 = 7 then some (M_X2_canDropFirst ) else (if sd.1 = 6 then some (M_X2_canDropFirst ) else (if sd.1 = 1 then some (M_X2_canDropFirst ) else (none))))
theorem hdv_canDropFirst : ("SumSmith$Linear" : String) ≠ "java/lang/invoke/MethodHandle" ∧ ("SumSmith$Linear" : String) ≠ "java/lang/invoke/VarHandle" ∧ (parseMethodDescriptor "()Z").map (fun d => d.parameters.length) = some 0 := by sorry

def V_withoutLeadingZero (n : Nat) (sd : SD) (x1 : Int64) (x3 : Int32) : Option Int64 :=
  if sd.1 = 8 then some (M_X2_withoutLeadingZero x1 x3) else (if sd.1 = 7 then some (M_X2_withoutLeadingZero x1 x3) else (if sd.1 = 6 then some (M_X2_withoutLeadingZero x1 x3) else (if sd.1 = 1 then M_X1_withoutLeadingZero n x1 x3 sd.2.2.1 sd.2.2.2.2.1 sd.2.2.2.2.2.1 sd.2.2.2.2.2.2.2.1 else (none))))
theorem hdv_withoutLeadingZero : ("SumSmith$Linear" : String) ≠ "java/lang/invoke/MethodHandle" ∧ ("SumSmith$Linear" : String) ≠ "java/lang/invoke/VarHandle" ∧ (parseMethodDescriptor "(JI)J").map (fun d => d.parameters.length) = some 2 := by sorry
