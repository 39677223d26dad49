theorem hd_X6_init : yX6_init.cls ≠ "java/lang/invoke/MethodHandle" ∧ yX6_init.cls ≠ "java/lang/invoke/VarHandle" ∧ (parseMethodDescriptor yX6_init.desc).map (fun d => d.parameters.length) = some 1 := by sorry

abbrev rmX6_init : Room := { frames := 1, cells := 0, slots := 0, locals := 20 }
set_option maxHeartbeats 4000000 in
set_option maxRecDepth 100000 in
theorem c_X6_init_8 (l : Launch) (G : va_G) (cs : CS) (sz sa : Nat) (x1 : Int32) : Met l yX6_init wsX6_init rmX6_init (va_Pc [.ref sa, .int x1] (PreW G cs sz [(sa, .inr (8, [.int 0, .int 0, .null]))] RN)) (QV G [(sa, .inr (8, [.int x1, .int 0, .null]))] (va_A [(sa, .inr (8, [.int 0, .int 0, .null]))] sz)) 0 0 (va_A [(sa, .inr (8, [.int 0, .int 0, .null]))] sz) := by
  sorry
set_option maxHeartbeats 4000000 in
set_option maxRecDepth 100000 in
theorem c_X6_init_7 (l : Launch) (G : va_G) (cs : CS) (sz sa : Nat) (x1 : Int32) : Met l yX6_init wsX6_init rmX6_init (va_Pc [.ref sa, .int x1] (PreW G cs sz [(sa, .inr (7, [.int 0, .int 0]))] RN)) (QV G [(sa, .inr (7, [.int x1, .int 0]))] (va_A [(sa, .inr (7, [.int 0, .int 0]))] sz)) 0 0 (va_A [(sa, .inr (7, [.int 0, .int 0]))] sz) := by
  sorry
set_option maxHeartbeats 4000000 in
set_option maxRecDepth 100000 in
theorem c_X6_init_6 (l : Launch) (G : va_G) (cs : CS) (sz sa : Nat) (x1 : Int32) : Met l yX6_init wsX6_init rmX6_init (va_Pc [.ref sa, .int x1] (PreW G cs sz [(sa, .inr (6, [.int 0, .int 0, .int 0]))] RN)) (QV G [(sa, .inr (6, [.int x1, .int 0, .int 0]))] (va_A [(sa, .inr (6, [.int 0, .int 0, .int 0]))] sz)) 0 0 (va_A [(sa, .inr (6, [.int 0, .int 0, .int 0]))] sz) := by
  sorry
set_option maxHeartbeats 4000000 in
set_option maxRecDepth 100000 in
theorem c_X6_init_1 (l : Launch) (G : va_G) (cs : CS) (sz sa : Nat) (x1 : Int32) : Met l yX6_init wsX6_init rmX6_init (va_Pc [.ref sa, .int x1] (PreW G cs sz [(sa, .inr (1, [.int 0, .int 0, .long 0, .int 0, .long 0, .long 0]))] RN)) (QV G [(sa, .inr (1, [.int x1, .int 0, .long 0, .int 0, .long 0, .long 0]))] (va_A [(sa, .inr (1, [.int 0, .int 0, .long 0, .int 0, .long 0, .long 0]))] sz)) 0 0 (va_A [(sa, .inr (1, [.int 0, .int 0, .long 0, .int 0, .long 0, .long 0]))] sz) := by
  sorry
set_option maxHeartbeats 4000000 in
set_option maxRecDepth 100000 in
theorem c_X6_init_4 (l : Launch) (G : va_G) (cs : CS) (sz sa : Nat) (x1 : Int32) : Met l yX6_init wsX6_init rmX6_init (va_Pc [.ref sa, .int x1] (PreW G cs sz [(sa, .inr (4, [.int 0, .int 0, .null]))] RN)) (QV G [(sa, .inr (4, [.int x1, .int 0, .null]))] (va_A [(sa, .inr (4, [.int 0, .int 0, .null]))] sz)) 0 0 (va_A [(sa, .inr (4, [.int 0, .int 0, .null]))] sz) := by
  sorry
theorem hd_X2_init : yX2_init.cls ≠ "java/lang/invoke/MethodHandle" ∧ yX2_init.cls ≠ "java/lang/invoke/VarHandle" ∧ (parseMethodDescriptor yX2_init.desc).map (fun d => d.parameters.length) = some 1 := by sorry

abbrev rmX2_init : Room := { frames := 2, cells := 0, slots := 0, locals := 41 }
set_option maxHeartbeats 4000000 in
set_option maxRecDepth 100000 in
theorem c_X2_init_8 (l : Launch) (G : va_G) (cs : CS) (sz sa : Nat) (x1 : Int32) : Met l yX2_init wsX2_init rmX2_init (va_Pc [.ref sa, .int x1] (PreW G cs sz [(sa, .inr (8, [.int 0, .int 0, .null]))] RN)) (QV G [(sa, .inr (8, [.int x1, .int 0, .null]))] (va_A [(sa, .inr (8, [.int 0, .int 0, .null]))] sz)) 0 0 (va_A [(sa, .inr (8, [.int 0, .int 0, .null]))] sz) := by
  sorry
set_option maxHeartbeats 4000000 in
set_option maxRecDepth 100000 in
theorem c_X2_init_7 (l : Launch) (G : va_G) (cs : CS) (sz sa : Nat) (x1 : Int32) : Met l yX2_init wsX2_init rmX2_init (va_Pc [.ref sa, .int x1] (PreW G cs sz [(sa, .inr (7, [.int 0, .int 0]))] RN)) (QV G [(sa, .inr (7, [.int x1, .int 0]))] (va_A [(sa, .inr (7, [.int 0, .int 0]))] sz)) 0 0 (va_A [(sa, .inr (7, [.int 0, .int 0]))] sz) := by
  sorry
set_option maxHeartbeats 4000000 in
set_option maxRecDepth 100000 in
theorem c_X2_init_6 (l : Launch) (G : va_G) (cs : CS) (sz sa : Nat) (x1 : Int32) : Met l yX2_init wsX2_init rmX2_init (va_Pc [.ref sa, .int x1] (PreW G cs sz [(sa, .inr (6, [.int 0, .int 0, .int 0]))] RN)) (QV G [(sa, .inr (6, [.int x1, .int 0, .int 0]))] (va_A [(sa, .inr (6, [.int 0, .int 0, .int 0]))] sz)) 0 0 (va_A [(sa, .inr (6, [.int 0, .int 0, .int 0]))] sz) := by
  sorry
set_option maxHeartbeats 4000000 in
set_option maxRecDepth 100000 in
theorem c_X2_init_1 (l : Launch) (G : va_G) (cs : CS) (sz sa : Nat) (x1 : Int32) : Met l yX2_init wsX2_init rmX2_init (va_Pc [.ref sa, .int x1] (PreW G cs sz [(sa, .inr (1, [.int 0, .int 0, .long 0, .int 0, .long 0, .long 0]))] RN)) (QV G [(sa, .inr (1, [.int x1, .int 0, .long 0, .int 0, .long 0, .long 0]))] (va_A [(sa, .inr (1, [.int 0, .int 0, .long 0, .int 0, .long 0, .long 0]))] sz)) 0 0 (va_A [(sa, .inr (1, [.int 0, .int 0, .long 0, .int 0, .long 0, .long 0]))] sz) := by
  sorry
theorem hd_X10_init : yX10_init.cls ≠ "java/lang/invoke/MethodHandle" ∧ yX10_init.cls ≠ "java/lang/invoke/VarHandle" ∧ (parseMethodDescriptor yX10_init.desc).map (fun d => d.parameters.length) = some 3 := by sorry

abbrev rmX10_init : Room := { frames := 3, cells := 0, slots := 0, locals := 62 }
set_option maxHeartbeats 4000000 in
set_option maxRecDepth 100000 in
theorem c_X10_init_8 (l : Launch) (G : va_G) (cs : CS) (sz sa : Nat) (x1 : Int32) (x2 : Int32) (x3 : Nat) : Met l yX10_init wsX10_init rmX10_init (va_Pc [.ref sa, .int x1, .int x2, .ref x3] (PreW G cs sz [(sa, .inr (8, [.int 0, .int 0, .null]))] RN)) (QV G [(sa, .inr (8, [.int x1, .int x2, .ref x3]))] (va_A [(sa, .inr (8, [.int 0, .int 0, .null]))] sz)) 0 0 (va_A [(sa, .inr (8, [.int 0, .int 0, .null]))] sz) := by
  sorry
theorem hd_X9_init : yX9_init.cls ≠ "java/lang/invoke/MethodHandle" ∧ yX9_init.cls ≠ "java/lang/invoke/VarHandle" ∧ (parseMethodDescriptor yX9_init.desc).map (fun d => d.parameters.length) = some 1 := by sorry

abbrev rmX9_init : Room := { frames := 3, cells := 0, slots := 0, locals := 62 }
set_option maxHeartbeats 4000000 in
set_option maxRecDepth 100000 in
theorem c_X9_init_7 (l : Launch) (G : va_G) (cs : CS) (sz sa : Nat) (x1 : Int32) : Met l yX9_init wsX9_init rmX9_init (va_Pc [.ref sa, .int x1] (PreW G cs sz [(sa, .inr (7, [.int 0, .int 0]))] RN)) (QV G [(sa, .inr (7, [.int 1, .int x1]))] (va_A [(sa, .inr (7, [.int 0, .int 0]))] sz)) 0 0 (va_A [(sa, .inr (7, [.int 0, .int 0]))] sz) := by
  sorry
theorem hd_X8_init : yX8_init.cls ≠ "java/lang/invoke/MethodHandle" ∧ yX8_init.cls ≠ "java/lang/invoke/VarHandle" ∧ (parseMethodDescriptor yX8_init.desc).map (fun d => d.parameters.length) = some 2 := by sorry

abbrev rmX8_init : Room := { frames := 3, cells := 0, slots := 0, locals := 62 }
set_option maxHeartbeats 4000000 in
set_option maxRecDepth 100000 in
theorem c_X8_init_6 (l : Launch) (G : va_G) (cs : CS) (sz sa : Nat) (x1 : Int32) (x2 : Int32) : Met l yX8_init wsX8_init rmX8_init (va_Pc [.ref sa, .int x1, .int x2] (PreW G cs sz [(sa, .inr (6, [.int 0, .int 0, .int 0]))] RN)) (QV G [(sa, .inr (6, [.int 3, .int x1, .int x2]))] (va_A [(sa, .inr (6, [.int 0, .int 0, .int 0]))] sz)) 0 0 (va_A [(sa, .inr (6, [.int 0, .int 0, .int 0]))] sz) := by
  sorry
theorem hd_X1_init : yX1_init.cls ≠ "java/lang/invoke/MethodHandle" ∧ yX1_init.cls ≠ "java/lang/invoke/VarHandle" ∧ (parseMethodDescriptor yX1_init.desc).map (fun d => d.parameters.length) = some 6 := by sorry

abbrev rmX1_init : Room := { frames := 3, cells := 0, slots := 0, locals := 62 }
set_option maxHeartbeats 4000000 in
set_option maxRecDepth 100000 in
theorem c_X1_init_1 (l : Launch) (G : va_G) (cs : CS) (sz sa : Nat) (x1 : Int32) (x2 : Int32) (x3 : Int64) (x5 : Int64) (x7 : Int64) (x9 : Int32) (hzx9 : x9 = 0 ∨ x9 = 1) : Met l yX1_init wsX1_init rmX1_init (va_Pc [.ref sa, .int x1, .int x2, .long x3, .long x5, .long x7, .int x9] (PreW G cs sz [(sa, .inr (1, [.int 0, .int 0, .long 0, .int 0, .long 0, .long 0]))] RN)) (QV G [(sa, .inr (1, [.int x1, .int x2, .long x3, .int x9, .long x5, .long x7]))] (va_A [(sa, .inr (1, [.int 0, .int 0, .long 0, .int 0, .long 0, .long 0]))] sz)) 0 0 (va_A [(sa, .inr (1, [.int 0, .int 0, .long 0, .int 0, .long 0, .long 0]))] sz) := by
  sorry
theorem hd_X5_init : yX5_init.cls ≠ "java/lang/invoke/MethodHandle" ∧ yX5_init.cls ≠ "java/lang/invoke/VarHandle" ∧ (parseMethodDescriptor yX5_init.desc).map (fun d => d.parameters.length) = some 2 := by sorry

abbrev rmX5_init : Room := { frames := 2, cells := 0, slots := 0, locals := 41 }
set_option maxHeartbeats 4000000 in
set_option maxRecDepth 100000 in
theorem c_X5_init_4 (l : Launch) (G : va_G) (cs : CS) (sz sa : Nat) (x1 : Int32) (x2 : Nat) : Met l yX5_init wsX5_init rmX5_init (va_Pc [.ref sa, .int x1, .ref x2] (PreW G cs sz [(sa, .inr (4, [.int 0, .int 0, .null]))] RN)) (QV G [(sa, .inr (4, [.int 6, .int x1, .ref x2]))] (va_A [(sa, .inr (4, [.int 0, .int 0, .null]))] sz)) 0 0 (va_A [(sa, .inr (4, [.int 0, .int 0, .null]))] sz) := by
  sorry
theorem hd_X7_init : yX7_init.cls ≠ "java/lang/invoke/MethodHandle" ∧ yX7_init.cls ≠ "java/lang/invoke/VarHandle" ∧ (parseMethodDescriptor yX7_init.desc).map (fun d => d.parameters.length) = some 0 := by sorry

abbrev rmX7_init : Room := { frames := 1, cells := 4, slots := 3896, locals := 20 }
set_option maxHeartbeats 4000000 in
set_option maxRecDepth 100000 in
theorem c_X7_init (l : Launch) (G : va_G) (cs : CS) (sz sa : Nat)  : Met l yX7_init wsX7_init rmX7_init (va_Pc [.ref sa] (PreW G cs sz [(sa, .inr (5, [.null, .null, .null, .null, .int 0]))] RN)) (QC G sa (fun u => ww_T u cs (fun _ => 0) (fun _ => 0) (fun _ => 0) (fun _ => 0) 0) (va_A [(sa, .inr (5, [.null, .null, .null, .null, .int 0]))] sz)) 4 3896 (va_A [(sa, .inr (5, [.null, .null, .null, .null, .int 0]))] sz) := by
  sorry
theorem hd_X3_init : yX3_init.cls ≠ "java/lang/invoke/MethodHandle" ∧ yX3_init.cls ≠ "java/lang/invoke/VarHandle" ∧ (parseMethodDescriptor yX3_init.desc).map (fun d => d.parameters.length) = some 0 := by sorry

abbrev rmX3_init : Room := { frames := 2, cells := 6, slots := 4413, locals := 40 }
set_option maxHeartbeats 4000000 in
set_option maxRecDepth 100000 in
theorem c_X3_init (l : Launch) (G : va_G) (cs : CS) (sz sa : Nat)  : Met l yX3_init wsX3_init rmX3_init (va_Pc [.ref sa] (PreW G cs sz [(sa, .inr (2, [.null, .int 0, .null]))] RN)) (QC G sa (fun u => ww_P u cs (fun _ => 0) 0 (fun _ => 0) (fun _ => 0) (fun _ => 0) (fun _ => 0) 0) (va_A [(sa, .inr (2, [.null, .int 0, .null]))] sz)) 6 4413 (va_A [(sa, .inr (2, [.null, .int 0, .null]))] sz) := by
  sorry
theorem hd_X4_init : yX4_init.cls ≠ "java/lang/invoke/MethodHandle" ∧ yX4_init.cls ≠ "java/lang/invoke/VarHandle" ∧ (parseMethodDescriptor yX4_init.desc).map (fun d => d.parameters.length) = some 0 := by sorry

abbrev rmX4_init : Room := { frames := 1, cells := 6, slots := 216, locals := 20 }
set_option maxHeartbeats 4000000 in
set_option maxRecDepth 100000 in
theorem c_X4_init (l : Launch) (G : va_G) (cs : CS) (sz sa : Nat)  : Met l yX4_init wsX4_init rmX4_init (va_Pc [.ref sa] (PreW G cs sz [(sa, .inr (3, [.null, .null, .null, .null, .null, .null, .int 0]))] RN)) (QC G sa (fun u => ww_S u cs (fun _ => 0) (fun _ => 0) (fun _ => 0) (fun _ => 0) (fun _ => 0) (fun _ => 0) 0) (va_A [(sa, .inr (3, [.null, .null, .null, .null, .null, .null, .int 0]))] sz)) 6 216 (va_A [(sa, .inr (3, [.null, .null, .null, .null, .null, .null, .int 0]))] sz) := by
  sorry
theorem hd_X0_init : yX0_init.cls ≠ "java/lang/invoke/MethodHandle" ∧ yX0_init.cls ≠ "java/lang/invoke/VarHandle" ∧ (parseMethodDescriptor yX0_init.desc).map (fun d => d.parameters.length) = some 0 := by sorry

abbrev rmX0_init : Room := { frames := 1, cells := 4, slots := 112, locals := 20 }
set_option maxHeartbeats 4000000 in
set_option maxRecDepth 100000 in
theorem c_X0_init (l : Launch) (G : va_G) (cs : CS) (sz sa : Nat)  : Met l yX0_init wsX0_init rmX0_init (va_Pc [.ref sa] (PreW G cs sz [(sa, .inr (0, [.null, .int 0, .null, .int 0, .null, .null]))] RN)) (QC G sa (fun u => ww_A u cs (fun _ => 0) 0 (fun _ => 0) 0 (fun _ => 0) (fun _ => 0)) (va_A [(sa, .inr (0, [.null, .int 0, .null, .int 0, .null, .null]))] sz)) 4 112 (va_A [(sa, .inr (0, [.null, .int 0, .null, .int 0, .null, .null]))] sz) := by
  sorry
theorem hd_X11_init : yX11_init.cls ≠ "java/lang/invoke/MethodHandle" ∧ yX11_init.cls ≠ "java/lang/invoke/VarHandle" ∧ (parseMethodDescriptor yX11_init.desc).map (fun d => d.parameters.length) = some 0 := by sorry

abbrev rmX11_init : Room := { frames := 3, cells := 24, slots := 4948, locals := 60 }
set_option maxHeartbeats 4000000 in
set_option maxRecDepth 100000 in
theorem c_X11_init (l : Launch) (G : va_G) (cs : CS) (sz sa : Nat)  : Met l yX11_init wsX11_init rmX11_init (va_Pc [.ref sa] (PreW G cs sz [(sa, .inr (9, [.null, .int 0, .null, .int 0, .null, .int 0, .null, .null, .null, .null, .int 0, .null]))] RN)) (QC G sa (fun u => ww_C u cs RN 0 (fun _ => 0) 0 (fun _ => 0) 0 (fun _ => 0) (fun _ => 0) (fun _ => 0) (fun _ => 0) (fun _ => 0) (fun _ => 0) (fun _ => 0) 0 (fun _ => 0) 0 (fun _ => 0) (fun _ => 0) (fun _ => 0) (fun _ => 0) 0 (fun _ => 0) 0 (fun _ => 0) 0 (fun _ => 0) 0 (fun _ => 0) (fun _ => 0)) (va_A [(sa, .inr (9, [.null, .int 0, .null, .int 0, .null, .int 0, .null, .null, .null, .null, .int 0, .null]))] sz)) 24 4948 (va_A [(sa, .inr (9, [.null, .int 0, .null, .int 0, .null, .int 0, .null, .null, .null, .null, .int 0, .null]))] sz) := by
  sorry
theorem hd_X12_init : yX12_init.cls ≠ "java/lang/invoke/MethodHandle" ∧ yX12_init.cls ≠ "java/lang/invoke/VarHandle" ∧ (parseMethodDescriptor yX12_init.desc).map (fun d => d.parameters.length) = some 0 := by sorry

abbrev rmX12_init : Room := { frames := 1, cells := 24, slots := 2871, locals := 20 }
set_option maxHeartbeats 4000000 in
set_option maxRecDepth 100000 in
theorem c_X12_init (l : Launch) (G : va_G) (cs : CS) (sz sa : Nat)  : Met l yX12_init wsX12_init rmX12_init (va_Pc [.ref sa] (PreW G cs sz [(sa, .inr (10, [.int 0, .null, .int 0, .null, .null, .null, .null, .null, .null, .null, .null, .null, .null, .null, .int 0, .null, .int 0, .null, .null, .null, .null, .null, .int 0, .null, .null, .int 0, .null, .null, .null, .int 0, .null, .long 0, .long 0]))] RN)) (QC G sa (fun u => ww_M u cs 0 (fun _ => 0) 0 (fun _ => 0) (fun _ => 0) (fun _ => 0) (fun _ => 0) (fun _ => 0) (fun _ => 0) (fun _ => 0) (fun _ => 0) (fun _ => 0) (fun _ => 0) (fun _ => 0) 0 (fun _ => 0) 0 (fun _ => 0) (fun _ => 0) (fun _ => 0) (fun _ => 0) (fun _ => 0) 0 (fun _ => 0) (upd (upd (upd (upd (fun _ => 0) (0 : Int32).toNatClampNeg (-1)) (1 : Int32).toNatClampNeg (-1)) (2 : Int32).toNatClampNeg (-1)) (3 : Int32).toNatClampNeg (-1)) 0 (fun _ => 0) (fun _ => 0) (fun _ => 0) 0 (fun _ => 0) 0 0) (va_A [(sa, .inr (10, [.int 0, .null, .int 0, .null, .null, .null, .null, .null, .null, .null, .null, .null, .null, .null, .int 0, .null, .int 0, .null, .null, .null, .null, .null, .int 0, .null, .null, .int 0, .null, .null, .null, .int 0, .null, .long 0, .long 0]))] sz)) 24 2871 (va_A [(sa, .inr (10, [.int 0, .null, .int 0, .null, .null, .null, .null, .null, .null, .null, .null, .null, .null, .null, .int 0, .null, .int 0, .null, .null, .null, .null, .null, .int 0, .null, .null, .int 0, .null, .null, .null, .int 0, .null, .long 0, .long 0]))] sz) := by
  sorry