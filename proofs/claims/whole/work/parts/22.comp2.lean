theorem hd_X7_forget : yX7_forget.cls ≠ "java/lang/invoke/MethodHandle" ∧ yX7_forget.cls ≠ "java/lang/invoke/VarHandle" ∧ (parseMethodDescriptor yX7_forget.desc).map (fun d => d.parameters.length) = some 0 := by sorry

def M_X7_forget (n : Nat)  (v_firstEntry : (Nat → Int32)) (v_size : Int32) : Option ((Nat → Int32) × Int32) :=
  (M_J7_fill_53178 n (-1 : Int32) v_firstEntry 512).bind fun r1 => some (r1, 0)

abbrev ww_T (q : Nat → Nat) (cs : CS) (v_firstEntry : (Nat → Int32)) (v_nextEntry : (Nat → Int32)) (v_numbers : (Nat → Int64)) (v_counts : (Nat → Int32)) (v_size : Int32)   : va_W := [((q 0), .inr (5, [.ref (q 1), .ref (q 2), .ref (q 3), .ref (q 4), .int v_size])), ((q 1), .inl (cs.1, 512, .inl v_firstEntry)), ((q 2), .inl (cs.1, 1128, .inl v_nextEntry)), ((q 3), .inl (cs.2.1, 1128, .inr (.inl v_numbers))), ((q 4), .inl (cs.1, 1128, .inl v_counts))]

abbrev rmX7_forget : Room := { frames := 1, cells := 0, slots := 0, locals := 23 }
set_option maxHeartbeats 4000000 in
set_option maxRecDepth 100000 in
theorem c_X7_forget (l : Launch) (G : va_G) (cs : CS) (q : Nat → Nat) (sz : Nat) (v_firstEntry : (Nat → Int32)) (v_nextEntry : (Nat → Int32)) (v_numbers : (Nat → Int64)) (v_counts : (Nat → Int32)) (v_size : Int32)    (n : Nat) (res : ((Nat → Int32) × Int32)) (hm : M_X7_forget n v_firstEntry v_size = some res) : Met l yX7_forget wsX7_forget rmX7_forget (va_Pc [.ref (q 0)] (PreW G cs sz (ww_T q cs v_firstEntry v_nextEntry v_numbers v_counts v_size) RN)) (QV G (ww_T q cs res.1 v_nextEntry v_numbers v_counts res.2) (va_A (ww_T q cs v_firstEntry v_nextEntry v_numbers v_counts v_size) sz)) 0 0 (va_A (ww_T q cs v_firstEntry v_nextEntry v_numbers v_counts v_size) sz) := by
  sorry
theorem hd_X7_bucketOf : yX7_bucketOf.cls ≠ "java/lang/invoke/MethodHandle" ∧ yX7_bucketOf.cls ≠ "java/lang/invoke/VarHandle" ∧ (parseMethodDescriptor yX7_bucketOf.desc).map (fun d => d.parameters.length) = some 1 := by sorry

def M_X7_bucketOf (x0 : Int64)  : Int32 :=
  ((((x0 * (-7046029254386353131)).toUInt64 >>> ((55 : Int32).toInt64.toUInt64 &&& Int64.toUInt64 63)).toInt64).toInt32)

abbrev rmX7_bucketOf : Room := { frames := 0, cells := 0, slots := 0, locals := 0 }
set_option maxHeartbeats 4000000 in
set_option maxRecDepth 100000 in
theorem c_X7_bucketOf (l : Launch) (G : va_G) (cs : CS) (sz : Nat)    (x0 : Int64) (res : Int32) (hm : M_X7_bucketOf x0 = res) : Met l yX7_bucketOf wsX7_bucketOf rmX7_bucketOf (va_Pc [.long x0] (PreW G cs sz [] RN)) (QI G res True [] (va_A [] sz)) 0 0 (va_A [] sz) := by
  sorry
theorem hd_X7_entryOf : yX7_entryOf.cls ≠ "java/lang/invoke/MethodHandle" ∧ yX7_entryOf.cls ≠ "java/lang/invoke/VarHandle" ∧ (parseMethodDescriptor yX7_entryOf.desc).map (fun d => d.parameters.length) = some 2 := by sorry

def M_X7_entryOf_b11 (n : Nat) (x1 : Int64) (v_nextEntry : (Nat → Int32)) (v_numbers : (Nat → Int64)) (v_size : Int32) (x4 : Int32) (x5 : Int32) : Option ((Int32 × Int32) ⊕ (Unit ⊕ Int32)) :=
  if v_size ≤ x5 then (some (.inr (.inl ()))) else (if x4 < 0 then (some (.inr (.inl ()))) else (if x4 < 0 ∨ 1128 ≤ x4.toNatClampNeg then none else if (v_numbers x4.toNatClampNeg) = x1 then (some (.inr (.inr x4))) else (if x4 < 0 ∨ 1128 ≤ x4.toNatClampNeg then none else some (.inl (v_nextEntry x4.toNatClampNeg, x5 + 1)))))

def M_X7_entryOf (n : Nat) (x1 : Int64) (x3 : Int32) (v_firstEntry : (Nat → Int32)) (v_nextEntry : (Nat → Int32)) (v_numbers : (Nat → Int64)) (v_size : Int32) : Option Int32 :=
  if x3 < 0 ∨ 512 ≤ x3.toNatClampNeg then none else (lp (fun x : (Int32 × Int32) => M_X7_entryOf_b11 n x1 v_nextEntry v_numbers v_size x.1 x.2) n ((v_firstEntry x3.toNatClampNeg), (0 : Int32))).bind (Sum.elim (fun o7 => some (-1)) (fun r => some r))

abbrev rmX7_entryOf : Room := { frames := 0, cells := 0, slots := 0, locals := 0 }
set_option maxHeartbeats 4000000 in
set_option maxRecDepth 100000 in
theorem c_X7_entryOf (l : Launch) (G : va_G) (cs : CS) (q : Nat → Nat) (sz : Nat) (v_firstEntry : (Nat → Int32)) (v_nextEntry : (Nat → Int32)) (v_numbers : (Nat → Int64)) (v_counts : (Nat → Int32)) (v_size : Int32)   (x1 : Int64) (x3 : Int32) (n : Nat) (res : Int32) (hm : M_X7_entryOf n x1 x3 v_firstEntry v_nextEntry v_numbers v_size = some res) : Met l yX7_entryOf wsX7_entryOf rmX7_entryOf (va_Pc [.ref (q 0), .long x1, .int x3] (PreW G cs sz (ww_T q cs v_firstEntry v_nextEntry v_numbers v_counts v_size) RN)) (QI G res True (ww_T q cs v_firstEntry v_nextEntry v_numbers v_counts v_size) (va_A (ww_T q cs v_firstEntry v_nextEntry v_numbers v_counts v_size) sz)) 0 0 (va_A (ww_T q cs v_firstEntry v_nextEntry v_numbers v_counts v_size) sz) := by
  sorry
theorem hd_X7_timesOf : yX7_timesOf.cls ≠ "java/lang/invoke/MethodHandle" ∧ yX7_timesOf.cls ≠ "java/lang/invoke/VarHandle" ∧ (parseMethodDescriptor yX7_timesOf.desc).map (fun d => d.parameters.length) = some 1 := by sorry

def M_X7_timesOf (n : Nat) (x1 : Int64) (v_firstEntry : (Nat → Int32)) (v_nextEntry : (Nat → Int32)) (v_numbers : (Nat → Int64)) (v_counts : (Nat → Int32)) (v_size : Int32) : Option Int32 :=
  (M_X7_entryOf n x1 (M_X7_bucketOf x1) v_firstEntry v_nextEntry v_numbers v_size).bind fun r2 => if 0 ≤ r2 then (if r2 < 0 ∨ 1128 ≤ r2.toNatClampNeg then none else some (v_counts r2.toNatClampNeg)) else (some 0)

abbrev rmX7_timesOf : Room := { frames := 1, cells := 0, slots := 0, locals := 25 }
set_option maxHeartbeats 4000000 in
set_option maxRecDepth 100000 in
theorem c_X7_timesOf (l : Launch) (G : va_G) (cs : CS) (q : Nat → Nat) (sz : Nat) (v_firstEntry : (Nat → Int32)) (v_nextEntry : (Nat → Int32)) (v_numbers : (Nat → Int64)) (v_counts : (Nat → Int32)) (v_size : Int32)   (x1 : Int64) (n : Nat) (res : Int32) (hm : M_X7_timesOf n x1 v_firstEntry v_nextEntry v_numbers v_counts v_size = some res) : Met l yX7_timesOf wsX7_timesOf rmX7_timesOf (va_Pc [.ref (q 0), .long x1] (PreW G cs sz (ww_T q cs v_firstEntry v_nextEntry v_numbers v_counts v_size) RN)) (QI G res True (ww_T q cs v_firstEntry v_nextEntry v_numbers v_counts v_size) (va_A (ww_T q cs v_firstEntry v_nextEntry v_numbers v_counts v_size) sz)) 0 0 (va_A (ww_T q cs v_firstEntry v_nextEntry v_numbers v_counts v_size) sz) := by
  sorry
theorem hd_X7_note : yX7_note.cls ≠ "java/lang/invoke/MethodHandle" ∧ yX7_note.cls ≠ "java/lang/invoke/VarHandle" ∧ (parseMethodDescriptor yX7_note.desc).map (fun d => d.parameters.length) = some 1 := by sorry

def M_X7_note (n : Nat) (x1 : Int64) (v_firstEntry : (Nat → Int32)) (v_nextEntry : (Nat → Int32)) (v_numbers : (Nat → Int64)) (v_counts : (Nat → Int32)) (v_size : Int32) : Option ((Nat → Int32) × (Nat → Int32) × (Nat → Int64) × (Nat → Int32) × Int32) :=
  (M_X7_entryOf n x1 (M_X7_bucketOf x1) v_firstEntry v_nextEntry v_numbers v_size).bind fun r2 => if r2 < 0 then (if 1128 ≤ v_size then (some (v_firstEntry, v_nextEntry, v_numbers, v_counts, v_size)) else (if v_size < 0 ∨ 1128 ≤ v_size.toNatClampNeg then none else if v_size < 0 ∨ 1128 ≤ v_size.toNatClampNeg then none else if (M_X7_bucketOf x1) < 0 ∨ 512 ≤ (M_X7_bucketOf x1).toNatClampNeg then none else if v_size < 0 ∨ 1128 ≤ v_size.toNatClampNeg then none else if (M_X7_bucketOf x1) < 0 ∨ 512 ≤ (M_X7_bucketOf x1).toNatClampNeg then none else some ((upd v_firstEntry (M_X7_bucketOf x1).toNatClampNeg v_size), (upd v_nextEntry v_size.toNatClampNeg (v_firstEntry (M_X7_bucketOf x1).toNatClampNeg)), (vp_updL v_numbers v_size.toNatClampNeg x1), (upd v_counts v_size.toNatClampNeg 1), (v_size + 1)))) else (if r2 < 0 ∨ 1128 ≤ r2.toNatClampNeg then none else if r2 < 0 ∨ 1128 ≤ r2.toNatClampNeg then none else some (v_firstEntry, v_nextEntry, v_numbers, (upd v_counts r2.toNatClampNeg ((v_counts r2.toNatClampNeg) + 1)), v_size))

abbrev rmX7_note : Room := { frames := 1, cells := 0, slots := 0, locals := 25 }
set_option maxHeartbeats 4000000 in
set_option maxRecDepth 100000 in
theorem c_X7_note (l : Launch) (G : va_G) (cs : CS) (q : Nat → Nat) (sz : Nat) (v_firstEntry : (Nat → Int32)) (v_nextEntry : (Nat → Int32)) (v_numbers : (Nat → Int64)) (v_counts : (Nat → Int32)) (v_size : Int32)   (x1 : Int64) (n : Nat) (res : ((Nat → Int32) × (Nat → Int32) × (Nat → Int64) × (Nat → Int32) × Int32)) (hm : M_X7_note n x1 v_firstEntry v_nextEntry v_numbers v_counts v_size = some res) : Met l yX7_note wsX7_note rmX7_note (va_Pc [.ref (q 0), .long x1] (PreW G cs sz (ww_T q cs v_firstEntry v_nextEntry v_numbers v_counts v_size) RN)) (QV G (ww_T q cs res.1 res.2.1 res.2.2.1 res.2.2.2.1 res.2.2.2.2) (va_A (ww_T q cs v_firstEntry v_nextEntry v_numbers v_counts v_size) sz)) 0 0 (va_A (ww_T q cs v_firstEntry v_nextEntry v_numbers v_counts v_size) sz) := by
  sorry
theorem hd_X3_load : yX3_load.cls ≠ "java/lang/invoke/MethodHandle" ∧ yX3_load.cls ≠ "java/lang/invoke/VarHandle" ∧ (parseMethodDescriptor yX3_load.desc).map (fun d => d.parameters.length) = some 4 := by sorry

def M_X3_load_b14 (n : Nat) (x2 : Int32) (x3 : Int64) (x5 : Int32) (v_places : Int32) (x6 : Int64) (x8 : Int32) (v_syndromes : (Nat → Int64)) : Option ((Int64 × Int32 × (Nat → Int64)) ⊕ (Nat → Int64)) :=
  if v_places ≤ x8 then (some (.inr v_syndromes)) else (if x5 = 0 then (if ((v_places - 1) - x8) < 0 ∨ 512 ≤ ((v_places - 1) - x8).toNatClampNeg then none else some (.inl ((M_X1_doubled x6 x2 x3), x8 + 1, (vp_updL v_syndromes ((v_places - 1) - x8).toNatClampNeg x6)))) else (if (((v_places - 1) - x8) ^^^ 7) < 0 ∨ 512 ≤ (((v_places - 1) - x8) ^^^ 7).toNatClampNeg then none else some (.inl ((M_X1_doubled x6 x2 x3), x8 + 1, (vp_updL v_syndromes (((v_places - 1) - x8) ^^^ 7).toNatClampNeg x6)))))

def M_X3_load (n : Nat) (x1 : Int32) (x2 : Int32) (x3 : Int64) (x5 : Int32) (v_syndromes : (Nat → Int64)) (v_places : Int32) : Option ((Nat → Int64) × Int32) :=
  (lp (fun x : (Int64 × Int32 × (Nat → Int64)) => M_X3_load_b14 n x2 x3 x5 (8 * x1) x.1 x.2.1 x.2.2) n (x3, (0 : Int32), v_syndromes)).bind fun o5 => some (o5, (8 * x1))

abbrev ww_P (q : Nat → Nat) (cs : CS) (v_syndromes : (Nat → Int64)) (v_places : Int32) (v_firstEntry : (Nat → Int32)) (v_nextEntry : (Nat → Int32)) (v_numbers : (Nat → Int64)) (v_counts : (Nat → Int32)) (v_size : Int32)   : va_W := [((q 0), .inr (2, [.ref (q 1), .int v_places, .ref (q 2)])), ((q 1), .inl (cs.2.1, 512, .inr (.inl v_syndromes))), ((q 2), .inr (5, [.ref (q 3), .ref (q 4), .ref (q 5), .ref (q 6), .int v_size])), ((q 3), .inl (cs.1, 512, .inl v_firstEntry)), ((q 4), .inl (cs.1, 1128, .inl v_nextEntry)), ((q 5), .inl (cs.2.1, 1128, .inr (.inl v_numbers))), ((q 6), .inl (cs.1, 1128, .inl v_counts))]

abbrev rmX3_load : Room := { frames := 2, cells := 0, slots := 0, locals := 46 }
set_option maxHeartbeats 4000000 in
set_option maxRecDepth 100000 in
theorem c_X3_load (l : Launch) (G : va_G) (cs : CS) (q : Nat → Nat) (sz : Nat) (v_syndromes : (Nat → Int64)) (v_places : Int32) (v_firstEntry : (Nat → Int32)) (v_nextEntry : (Nat → Int32)) (v_numbers : (Nat → Int64)) (v_counts : (Nat → Int32)) (v_size : Int32)   (x1 : Int32) (x2 : Int32) (x3 : Int64) (x5 : Int32) (n : Nat) (res : ((Nat → Int64) × Int32)) (hm : M_X3_load n x1 x2 x3 x5 v_syndromes v_places = some res) : Met l yX3_load wsX3_load rmX3_load (va_Pc [.ref (q 0), .int x1, .int x2, .long x3, .int x5] (PreW G cs sz (ww_P q cs v_syndromes v_places v_firstEntry v_nextEntry v_numbers v_counts v_size) RN)) (QV G (ww_P q cs res.1 res.2 v_firstEntry v_nextEntry v_numbers v_counts v_size) (va_A (ww_P q cs v_syndromes v_places v_firstEntry v_nextEntry v_numbers v_counts v_size) sz)) 0 0 (va_A (ww_P q cs v_syndromes v_places v_firstEntry v_nextEntry v_numbers v_counts v_size) sz) := by
  sorry
theorem hd_X3_firstPlaceOf : yX3_firstPlaceOf.cls ≠ "java/lang/invoke/MethodHandle" ∧ yX3_firstPlaceOf.cls ≠ "java/lang/invoke/VarHandle" ∧ (parseMethodDescriptor yX3_firstPlaceOf.desc).map (fun d => d.parameters.length) = some 1 := by sorry

def M_X3_firstPlaceOf_b2 (n : Nat) (x1 : Int64) (v_syndromes : (Nat → Int64)) (v_places : Int32) (x3 : Int32) : Option (Int32 ⊕ (Unit ⊕ Int32)) :=
  if v_places ≤ x3 then (some (.inr (.inl ()))) else (if x3 < 0 ∨ 512 ≤ x3.toNatClampNeg then none else if (v_syndromes x3.toNatClampNeg) = x1 then (some (.inr (.inr x3))) else (some (.inl (x3 + 1))))

def M_X3_firstPlaceOf (n : Nat) (x1 : Int64) (v_syndromes : (Nat → Int64)) (v_places : Int32) : Option Int32 :=
  (lp (fun x : Int32 => M_X3_firstPlaceOf_b2 n x1 v_syndromes v_places x) n (0 : Int32)).bind (Sum.elim (fun o4 => some (-1)) (fun r => some r))

abbrev rmX3_firstPlaceOf : Room := { frames := 0, cells := 0, slots := 0, locals := 0 }
set_option maxHeartbeats 4000000 in
set_option maxRecDepth 100000 in
theorem c_X3_firstPlaceOf (l : Launch) (G : va_G) (cs : CS) (q : Nat → Nat) (sz : Nat) (v_syndromes : (Nat → Int64)) (v_places : Int32) (v_firstEntry : (Nat → Int32)) (v_nextEntry : (Nat → Int32)) (v_numbers : (Nat → Int64)) (v_counts : (Nat → Int32)) (v_size : Int32)   (x1 : Int64) (n : Nat) (res : Int32) (hm : M_X3_firstPlaceOf n x1 v_syndromes v_places = some res) : Met l yX3_firstPlaceOf wsX3_firstPlaceOf rmX3_firstPlaceOf (va_Pc [.ref (q 0), .long x1] (PreW G cs sz (ww_P q cs v_syndromes v_places v_firstEntry v_nextEntry v_numbers v_counts v_size) RN)) (QI G res True (ww_P q cs v_syndromes v_places v_firstEntry v_nextEntry v_numbers v_counts v_size) (va_A (ww_P q cs v_syndromes v_places v_firstEntry v_nextEntry v_numbers v_counts v_size) sz)) 0 0 (va_A (ww_P q cs v_syndromes v_places v_firstEntry v_nextEntry v_numbers v_counts v_size) sz) := by
  sorry
theorem hd_X3_howManySingles : yX3_howManySingles.cls ≠ "java/lang/invoke/MethodHandle" ∧ yX3_howManySingles.cls ≠ "java/lang/invoke/VarHandle" ∧ (parseMethodDescriptor yX3_howManySingles.desc).map (fun d => d.parameters.length) = some 0 := by sorry

def M_X3_howManySingles_b4 (n : Nat) (v_syndromes : (Nat → Int64)) (v_places : Int32) (x1 : Int32) (x2 : Int32) : Option ((Int32 × Int32) ⊕ Int32) :=
  if v_places ≤ x2 then (some (.inr x1)) else (if x2 < 0 ∨ 512 ≤ x2.toNatClampNeg then none else if (v_syndromes x2.toNatClampNeg) = 0 then (some (.inl (x1 + 1, x2 + 1))) else (some (.inl (x1, x2 + 1))))

def M_X3_howManySingles (n : Nat)  (v_syndromes : (Nat → Int64)) (v_places : Int32) : Option Int32 :=
  (lp (fun x : (Int32 × Int32) => M_X3_howManySingles_b4 n v_syndromes v_places x.1 x.2) n ((0 : Int32), (0 : Int32))).bind fun o4 => some o4

abbrev rmX3_howManySingles : Room := { frames := 0, cells := 0, slots := 0, locals := 0 }
set_option maxHeartbeats 4000000 in
set_option maxRecDepth 100000 in
theorem c_X3_howManySingles (l : Launch) (G : va_G) (cs : CS) (q : Nat → Nat) (sz : Nat) (v_syndromes : (Nat → Int64)) (v_places : Int32) (v_firstEntry : (Nat → Int32)) (v_nextEntry : (Nat → Int32)) (v_numbers : (Nat → Int64)) (v_counts : (Nat → Int32)) (v_size : Int32)    (n : Nat) (res : Int32) (hm : M_X3_howManySingles n v_syndromes v_places = some res) : Met l yX3_howManySingles wsX3_howManySingles rmX3_howManySingles (va_Pc [.ref (q 0)] (PreW G cs sz (ww_P q cs v_syndromes v_places v_firstEntry v_nextEntry v_numbers v_counts v_size) RN)) (QI G res True (ww_P q cs v_syndromes v_places v_firstEntry v_nextEntry v_numbers v_counts v_size) (va_A (ww_P q cs v_syndromes v_places v_firstEntry v_nextEntry v_numbers v_counts v_size) sz)) 0 0 (va_A (ww_P q cs v_syndromes v_places v_firstEntry v_nextEntry v_numbers v_counts v_size) sz) := by
  sorry
theorem hd_X3_howManyPairs : yX3_howManyPairs.cls ≠ "java/lang/invoke/MethodHandle" ∧ yX3_howManyPairs.cls ≠ "java/lang/invoke/VarHandle" ∧ (parseMethodDescriptor yX3_howManyPairs.desc).map (fun d => d.parameters.length) = some 0 := by sorry

def M_X3_howManyPairs_b16 (n : Nat) (x2 : Int32) (v_syndromes : (Nat → Int64)) (v_places : Int32) (x1 : Int32) (x3 : Int32) : Option ((Int32 × Int32) ⊕ Int32) :=
  if v_places ≤ x3 then (some (.inr x1)) else (if x2 < 0 ∨ 512 ≤ x2.toNatClampNeg then none else if x3 < 0 ∨ 512 ≤ x3.toNatClampNeg then none else if (v_syndromes x2.toNatClampNeg) = (v_syndromes x3.toNatClampNeg) then (some (.inl (x1 + 1, x3 + 1))) else (some (.inl (x1, x3 + 1))))

def M_X3_howManyPairs_b4 (n : Nat) (v_syndromes : (Nat → Int64)) (v_places : Int32) (x1 : Int32) (x2 : Int32) : Option ((Int32 × Int32) ⊕ Int32) :=
  if v_places ≤ x2 then (some (.inr x1)) else ((lp (fun x : (Int32 × Int32) => M_X3_howManyPairs_b16 n x2 v_syndromes v_places x.1 x.2) n (x1, (x2 + 1))).bind fun o6 => some (.inl (o6, x2 + 1)))

def M_X3_howManyPairs (n : Nat)  (v_syndromes : (Nat → Int64)) (v_places : Int32) : Option Int32 :=
  (lp (fun x : (Int32 × Int32) => M_X3_howManyPairs_b4 n v_syndromes v_places x.1 x.2) n ((0 : Int32), (0 : Int32))).bind fun o7 => some o7

abbrev rmX3_howManyPairs : Room := { frames := 0, cells := 0, slots := 0, locals := 0 }
set_option maxHeartbeats 4000000 in
set_option maxRecDepth 100000 in
theorem c_X3_howManyPairs (l : Launch) (G : va_G) (cs : CS) (q : Nat → Nat) (sz : Nat) (v_syndromes : (Nat → Int64)) (v_places : Int32) (v_firstEntry : (Nat → Int32)) (v_nextEntry : (Nat → Int32)) (v_numbers : (Nat → Int64)) (v_counts : (Nat → Int32)) (v_size : Int32)    (n : Nat) (res : Int32) (hm : M_X3_howManyPairs n v_syndromes v_places = some res) : Met l yX3_howManyPairs wsX3_howManyPairs rmX3_howManyPairs (va_Pc [.ref (q 0)] (PreW G cs sz (ww_P q cs v_syndromes v_places v_firstEntry v_nextEntry v_numbers v_counts v_size) RN)) (QI G res True (ww_P q cs v_syndromes v_places v_firstEntry v_nextEntry v_numbers v_counts v_size) (va_A (ww_P q cs v_syndromes v_places v_firstEntry v_nextEntry v_numbers v_counts v_size) sz)) 0 0 (va_A (ww_P q cs v_syndromes v_places v_firstEntry v_nextEntry v_numbers v_counts v_size) sz) := by
  sorry
theorem hd_X3_howManyThrees : yX3_howManyThrees.cls ≠ "java/lang/invoke/MethodHandle" ∧ yX3_howManyThrees.cls ≠ "java/lang/invoke/VarHandle" ∧ (parseMethodDescriptor yX3_howManyThrees.desc).map (fun d => d.parameters.length) = some 0 := by sorry

def M_X3_howManyThrees_b23 (n : Nat) (x2 : Int32) (v_syndromes : (Nat → Int64)) (v_places : Int32) (v_firstEntry : (Nat → Int32)) (v_nextEntry : (Nat → Int32)) (v_numbers : (Nat → Int64)) (v_counts : (Nat → Int32)) (v_size : Int32) (x1 : Int32) (x3 : Int32) : Option ((Int32 × Int32) ⊕ Int32) :=
  if v_places ≤ x3 then (some (.inr x1)) else (if x2 < 0 ∨ 512 ≤ x2.toNatClampNeg then none else if x3 < 0 ∨ 512 ≤ x3.toNatClampNeg then none else (M_X7_timesOf n ((v_syndromes x2.toNatClampNeg) ^^^ (v_syndromes x3.toNatClampNeg)) v_firstEntry v_nextEntry v_numbers v_counts v_size).bind fun r6 => some (.inl (x1 + r6, x3 + 1)))

def M_X3_howManyThrees_b11 (n : Nat) (v_syndromes : (Nat → Int64)) (v_places : Int32) (x1 : Int32) (x2 : Int32) (v_firstEntry : (Nat → Int32)) (v_nextEntry : (Nat → Int32)) (v_numbers : (Nat → Int64)) (v_counts : (Nat → Int32)) (v_size : Int32) : Option ((Int32 × Int32 × (Nat → Int32) × (Nat → Int32) × (Nat → Int64) × (Nat → Int32) × Int32) ⊕ (Int32 × (Nat → Int32) × (Nat → Int32) × (Nat → Int64) × (Nat → Int32) × Int32)) :=
  if v_places ≤ x2 then (some (.inr (x1, v_firstEntry, v_nextEntry, v_numbers, v_counts, v_size))) else ((lp (fun x : (Int32 × Int32) => M_X3_howManyThrees_b23 n x2 v_syndromes v_places v_firstEntry v_nextEntry v_numbers v_counts v_size x.1 x.2) n (x1, (x2 + 1))).bind fun o8 => if x2 < 0 ∨ 512 ≤ x2.toNatClampNeg then none else (M_X7_note n (v_syndromes x2.toNatClampNeg) v_firstEntry v_nextEntry v_numbers v_counts v_size).bind fun r10 => some (.inl (o8, x2 + 1, r10.1, r10.2.1, r10.2.2.1, r10.2.2.2.1, r10.2.2.2.2)))

def M_X3_howManyThrees (n : Nat)  (v_syndromes : (Nat → Int64)) (v_places : Int32) (v_firstEntry : (Nat → Int32)) (v_nextEntry : (Nat → Int32)) (v_numbers : (Nat → Int64)) (v_counts : (Nat → Int32)) (v_size : Int32) : Option (Int32 × (Nat → Int32) × (Nat → Int32) × (Nat → Int64) × (Nat → Int32) × Int32) :=
  (M_X7_forget n v_firstEntry v_size).bind fun r1 => (lp (fun x : (Int32 × Int32 × (Nat → Int32) × (Nat → Int32) × (Nat → Int64) × (Nat → Int32) × Int32) => M_X3_howManyThrees_b11 n v_syndromes v_places x.1 x.2.1 x.2.2.1 x.2.2.2.1 x.2.2.2.2.1 x.2.2.2.2.2.1 x.2.2.2.2.2.2) n ((0 : Int32), (0 : Int32), r1.1, v_nextEntry, v_numbers, v_counts, r1.2)).bind fun o11 => some (o11.1, o11.2.1, o11.2.2.1, o11.2.2.2.1, o11.2.2.2.2.1, o11.2.2.2.2.2)

abbrev rmX3_howManyThrees : Room := { frames := 2, cells := 0, slots := 0, locals := 49 }
set_option maxHeartbeats 4000000 in
set_option maxRecDepth 100000 in
theorem c_X3_howManyThrees (l : Launch) (G : va_G) (cs : CS) (q : Nat → Nat) (sz : Nat) (v_syndromes : (Nat → Int64)) (v_places : Int32) (v_firstEntry : (Nat → Int32)) (v_nextEntry : (Nat → Int32)) (v_numbers : (Nat → Int64)) (v_counts : (Nat → Int32)) (v_size : Int32)    (n : Nat) (res : (Int32 × (Nat → Int32) × (Nat → Int32) × (Nat → Int64) × (Nat → Int32) × Int32)) (hm : M_X3_howManyThrees n v_syndromes v_places v_firstEntry v_nextEntry v_numbers v_counts v_size = some res) : Met l yX3_howManyThrees wsX3_howManyThrees rmX3_howManyThrees (va_Pc [.ref (q 0)] (PreW G cs sz (ww_P q cs v_syndromes v_places v_firstEntry v_nextEntry v_numbers v_counts v_size) RN)) (QI G res.1 True (ww_P q cs v_syndromes v_places res.2.1 res.2.2.1 res.2.2.2.1 res.2.2.2.2.1 res.2.2.2.2.2) (va_A (ww_P q cs v_syndromes v_places v_firstEntry v_nextEntry v_numbers v_counts v_size) sz)) 0 0 (va_A (ww_P q cs v_syndromes v_places v_firstEntry v_nextEntry v_numbers v_counts v_size) sz) := by
  sorry
theorem hd_X3_howManyFours : yX3_howManyFours.cls ≠ "java/lang/invoke/MethodHandle" ∧ yX3_howManyFours.cls ≠ "java/lang/invoke/VarHandle" ∧ (parseMethodDescriptor yX3_howManyFours.desc).map (fun d => d.parameters.length) = some 0 := by sorry

def M_X3_howManyFours_b23 (n : Nat) (x2 : Int32) (v_syndromes : (Nat → Int64)) (v_places : Int32) (v_firstEntry : (Nat → Int32)) (v_nextEntry : (Nat → Int32)) (v_numbers : (Nat → Int64)) (v_counts : (Nat → Int32)) (v_size : Int32) (x1 : Int32) (x3 : Int32) : Option ((Int32 × Int32) ⊕ Int32) :=
  if v_places ≤ x3 then (some (.inr x1)) else (if x2 < 0 ∨ 512 ≤ x2.toNatClampNeg then none else if x3 < 0 ∨ 512 ≤ x3.toNatClampNeg then none else (M_X7_timesOf n ((v_syndromes x2.toNatClampNeg) ^^^ (v_syndromes x3.toNatClampNeg)) v_firstEntry v_nextEntry v_numbers v_counts v_size).bind fun r6 => some (.inl (x1 + r6, x3 + 1)))

def M_X3_howManyFours_b62 (n : Nat) (x2 : Int32) (v_syndromes : (Nat → Int64)) (x3 : Int32) (v_firstEntry : (Nat → Int32)) (v_nextEntry : (Nat → Int32)) (v_numbers : (Nat → Int64)) (v_counts : (Nat → Int32)) (v_size : Int32) : Option ((Int32 × (Nat → Int32) × (Nat → Int32) × (Nat → Int64) × (Nat → Int32) × Int32) ⊕ ((Nat → Int32) × (Nat → Int32) × (Nat → Int64) × (Nat → Int32) × Int32)) :=
  if x2 ≤ x3 then (some (.inr (v_firstEntry, v_nextEntry, v_numbers, v_counts, v_size))) else (if x3 < 0 ∨ 512 ≤ x3.toNatClampNeg then none else if x2 < 0 ∨ 512 ≤ x2.toNatClampNeg then none else (M_X7_note n ((v_syndromes x3.toNatClampNeg) ^^^ (v_syndromes x2.toNatClampNeg)) v_firstEntry v_nextEntry v_numbers v_counts v_size).bind fun r12 => some (.inl (x3 + 1, r12.1, r12.2.1, r12.2.2.1, r12.2.2.2.1, r12.2.2.2.2)))

def M_X3_howManyFours_b11 (n : Nat) (v_syndromes : (Nat → Int64)) (v_places : Int32) (x1 : Int32) (x2 : Int32) (v_firstEntry : (Nat → Int32)) (v_nextEntry : (Nat → Int32)) (v_numbers : (Nat → Int64)) (v_counts : (Nat → Int32)) (v_size : Int32) : Option ((Int32 × Int32 × (Nat → Int32) × (Nat → Int32) × (Nat → Int64) × (Nat → Int32) × Int32) ⊕ (Int32 × (Nat → Int32) × (Nat → Int32) × (Nat → Int64) × (Nat → Int32) × Int32)) :=
  if v_places ≤ x2 then (some (.inr (x1, v_firstEntry, v_nextEntry, v_numbers, v_counts, v_size))) else ((lp (fun x : (Int32 × Int32) => M_X3_howManyFours_b23 n x2 v_syndromes v_places v_firstEntry v_nextEntry v_numbers v_counts v_size x.1 x.2) n (x1, (x2 + 1))).bind fun o8 => (lp (fun x : (Int32 × (Nat → Int32) × (Nat → Int32) × (Nat → Int64) × (Nat → Int32) × Int32) => M_X3_howManyFours_b62 n x2 v_syndromes x.1 x.2.1 x.2.2.1 x.2.2.2.1 x.2.2.2.2.1 x.2.2.2.2.2) n ((0 : Int32), v_firstEntry, v_nextEntry, v_numbers, v_counts, v_size)).bind fun o13 => some (.inl (o8, x2 + 1, o13.1, o13.2.1, o13.2.2.1, o13.2.2.2.1, o13.2.2.2.2)))

def M_X3_howManyFours (n : Nat)  (v_syndromes : (Nat → Int64)) (v_places : Int32) (v_firstEntry : (Nat → Int32)) (v_nextEntry : (Nat → Int32)) (v_numbers : (Nat → Int64)) (v_counts : (Nat → Int32)) (v_size : Int32) : Option (Int32 × (Nat → Int32) × (Nat → Int32) × (Nat → Int64) × (Nat → Int32) × Int32) :=
  (M_X7_forget n v_firstEntry v_size).bind fun r1 => (lp (fun x : (Int32 × Int32 × (Nat → Int32) × (Nat → Int32) × (Nat → Int64) × (Nat → Int32) × Int32) => M_X3_howManyFours_b11 n v_syndromes v_places x.1 x.2.1 x.2.2.1 x.2.2.2.1 x.2.2.2.2.1 x.2.2.2.2.2.1 x.2.2.2.2.2.2) n ((0 : Int32), (0 : Int32), r1.1, v_nextEntry, v_numbers, v_counts, r1.2)).bind fun o14 => some (o14.1, o14.2.1, o14.2.2.1, o14.2.2.2.1, o14.2.2.2.2.1, o14.2.2.2.2.2)

abbrev rmX3_howManyFours : Room := { frames := 2, cells := 0, slots := 0, locals := 49 }
set_option maxHeartbeats 4000000 in
set_option maxRecDepth 100000 in
theorem c_X3_howManyFours (l : Launch) (G : va_G) (cs : CS) (q : Nat → Nat) (sz : Nat) (v_syndromes : (Nat → Int64)) (v_places : Int32) (v_firstEntry : (Nat → Int32)) (v_nextEntry : (Nat → Int32)) (v_numbers : (Nat → Int64)) (v_counts : (Nat → Int32)) (v_size : Int32)    (n : Nat) (res : (Int32 × (Nat → Int32) × (Nat → Int32) × (Nat → Int64) × (Nat → Int32) × Int32)) (hm : M_X3_howManyFours n v_syndromes v_places v_firstEntry v_nextEntry v_numbers v_counts v_size = some res) : Met l yX3_howManyFours wsX3_howManyFours rmX3_howManyFours (va_Pc [.ref (q 0)] (PreW G cs sz (ww_P q cs v_syndromes v_places v_firstEntry v_nextEntry v_numbers v_counts v_size) RN)) (QI G res.1 True (ww_P q cs v_syndromes v_places res.2.1 res.2.2.1 res.2.2.2.1 res.2.2.2.2.1 res.2.2.2.2.2) (va_A (ww_P q cs v_syndromes v_places v_firstEntry v_nextEntry v_numbers v_counts v_size) sz)) 0 0 (va_A (ww_P q cs v_syndromes v_places v_firstEntry v_nextEntry v_numbers v_counts v_size) sz) := by
  sorry
theorem hd_X3_howMany : yX3_howMany.cls ≠ "java/lang/invoke/MethodHandle" ∧ yX3_howMany.cls ≠ "java/lang/invoke/VarHandle" ∧ (parseMethodDescriptor yX3_howMany.desc).map (fun d => d.parameters.length) = some 1 := by sorry

def M_X3_howMany (n : Nat) (x1 : Int32) (v_syndromes : (Nat → Int64)) (v_places : Int32) (v_firstEntry : (Nat → Int32)) (v_nextEntry : (Nat → Int32)) (v_numbers : (Nat → Int64)) (v_counts : (Nat → Int32)) (v_size : Int32) : Option (Int32 × (Nat → Int32) × (Nat → Int32) × (Nat → Int64) × (Nat → Int32) × Int32) :=
  if x1 = 1 then ((M_X3_howManySingles n v_syndromes v_places).bind fun r2 => some (r2, v_firstEntry, v_nextEntry, v_numbers, v_counts, v_size)) else (if x1 = 2 then ((M_X3_howManyPairs n v_syndromes v_places).bind fun r5 => some (r5, v_firstEntry, v_nextEntry, v_numbers, v_counts, v_size)) else (if x1 = 3 then ((M_X3_howManyThrees n v_syndromes v_places v_firstEntry v_nextEntry v_numbers v_counts v_size).bind fun r8 => some (r8.1, r8.2.1, r8.2.2.1, r8.2.2.2.1, r8.2.2.2.2.1, r8.2.2.2.2.2)) else ((M_X3_howManyFours n v_syndromes v_places v_firstEntry v_nextEntry v_numbers v_counts v_size).bind fun r10 => some (r10.1, r10.2.1, r10.2.2.1, r10.2.2.2.1, r10.2.2.2.2.1, r10.2.2.2.2.2))))

abbrev rmX3_howMany : Room := { frames := 3, cells := 0, slots := 0, locals := 72 }
set_option maxHeartbeats 4000000 in
set_option maxRecDepth 100000 in
theorem c_X3_howMany (l : Launch) (G : va_G) (cs : CS) (q : Nat → Nat) (sz : Nat) (v_syndromes : (Nat → Int64)) (v_places : Int32) (v_firstEntry : (Nat → Int32)) (v_nextEntry : (Nat → Int32)) (v_numbers : (Nat → Int64)) (v_counts : (Nat → Int32)) (v_size : Int32)   (x1 : Int32) (n : Nat) (res : (Int32 × (Nat → Int32) × (Nat → Int32) × (Nat → Int64) × (Nat → Int32) × Int32)) (hm : M_X3_howMany n x1 v_syndromes v_places v_firstEntry v_nextEntry v_numbers v_counts v_size = some res) : Met l yX3_howMany wsX3_howMany rmX3_howMany (va_Pc [.ref (q 0), .int x1] (PreW G cs sz (ww_P q cs v_syndromes v_places v_firstEntry v_nextEntry v_numbers v_counts v_size) RN)) (QI G res.1 True (ww_P q cs v_syndromes v_places res.2.1 res.2.2.1 res.2.2.2.1 res.2.2.2.2.1 res.2.2.2.2.2) (va_A (ww_P q cs v_syndromes v_places v_firstEntry v_nextEntry v_numbers v_counts v_size) sz)) 0 0 (va_A (ww_P q cs v_syndromes v_places v_firstEntry v_nextEntry v_numbers v_counts v_size) sz) := by
  sorry
theorem hd_X3_leastSize : yX3_leastSize.cls ≠ "java/lang/invoke/MethodHandle" ∧ yX3_leastSize.cls ≠ "java/lang/invoke/VarHandle" ∧ (parseMethodDescriptor yX3_leastSize.desc).map (fun d => d.parameters.length) = some 0 := by sorry

def M_X3_leastSize_b2 (n : Nat) (v_syndromes : (Nat → Int64)) (v_places : Int32) (x1 : Int32) (v_firstEntry : (Nat → Int32)) (v_nextEntry : (Nat → Int32)) (v_numbers : (Nat → Int64)) (v_counts : (Nat → Int32)) (v_size : Int32) : Option ((Int32 × (Nat → Int32) × (Nat → Int32) × (Nat → Int64) × (Nat → Int32) × Int32) ⊕ (Int32 × (Nat → Int32) × (Nat → Int32) × (Nat → Int64) × (Nat → Int32) × Int32)) :=
  if 4 < x1 then (some (.inr (x1, v_firstEntry, v_nextEntry, v_numbers, v_counts, v_size))) else ((M_X3_howMany n x1 v_syndromes v_places v_firstEntry v_nextEntry v_numbers v_counts v_size).bind fun r2 => if r2.1 = 0 then (some (.inl (x1 + 1, r2.2.1, r2.2.2.1, r2.2.2.2.1, r2.2.2.2.2.1, r2.2.2.2.2.2))) else (some (.inr (x1, r2.2.1, r2.2.2.1, r2.2.2.2.1, r2.2.2.2.2.1, r2.2.2.2.2.2))))

def M_X3_leastSize (n : Nat)  (v_syndromes : (Nat → Int64)) (v_places : Int32) (v_firstEntry : (Nat → Int32)) (v_nextEntry : (Nat → Int32)) (v_numbers : (Nat → Int64)) (v_counts : (Nat → Int32)) (v_size : Int32) : Option (Int32 × (Nat → Int32) × (Nat → Int32) × (Nat → Int64) × (Nat → Int32) × Int32) :=
  (lp (fun x : (Int32 × (Nat → Int32) × (Nat → Int32) × (Nat → Int64) × (Nat → Int32) × Int32) => M_X3_leastSize_b2 n v_syndromes v_places x.1 x.2.1 x.2.2.1 x.2.2.2.1 x.2.2.2.2.1 x.2.2.2.2.2) n ((1 : Int32), v_firstEntry, v_nextEntry, v_numbers, v_counts, v_size)).bind fun o5 => some (o5.1, o5.2.1, o5.2.2.1, o5.2.2.2.1, o5.2.2.2.2.1, o5.2.2.2.2.2)

abbrev rmX3_leastSize : Room := { frames := 4, cells := 0, slots := 0, locals := 93 }
set_option maxHeartbeats 4000000 in
set_option maxRecDepth 100000 in
theorem c_X3_leastSize (l : Launch) (G : va_G) (cs : CS) (q : Nat → Nat) (sz : Nat) (v_syndromes : (Nat → Int64)) (v_places : Int32) (v_firstEntry : (Nat → Int32)) (v_nextEntry : (Nat → Int32)) (v_numbers : (Nat → Int64)) (v_counts : (Nat → Int32)) (v_size : Int32)    (n : Nat) (res : (Int32 × (Nat → Int32) × (Nat → Int32) × (Nat → Int64) × (Nat → Int32) × Int32)) (hm : M_X3_leastSize n v_syndromes v_places v_firstEntry v_nextEntry v_numbers v_counts v_size = some res) : Met l yX3_leastSize wsX3_leastSize rmX3_leastSize (va_Pc [.ref (q 0)] (PreW G cs sz (ww_P q cs v_syndromes v_places v_firstEntry v_nextEntry v_numbers v_counts v_size) RN)) (QI G res.1 True (ww_P q cs v_syndromes v_places res.2.1 res.2.2.1 res.2.2.2.1 res.2.2.2.2.1 res.2.2.2.2.2) (va_A (ww_P q cs v_syndromes v_places v_firstEntry v_nextEntry v_numbers v_counts v_size) sz)) 0 0 (va_A (ww_P q cs v_syndromes v_places v_firstEntry v_nextEntry v_numbers v_counts v_size) sz) := by
  sorry
theorem hd_X3_findFirstBehind : yX3_findFirstBehind.cls ≠ "java/lang/invoke/MethodHandle" ∧ yX3_findFirstBehind.cls ≠ "java/lang/invoke/VarHandle" ∧ (parseMethodDescriptor yX3_findFirstBehind.desc).map (fun d => d.parameters.length) = some 5 := by sorry

def M_X3_findFirstBehind_b28 (n : Nat) (self_ : Int32 → Int32 → Int32 → Int64 → (Nat → Int64) → Int32 → (Nat → Int32) → Nat → Option (Int32 × (Nat → Int32))) (x1 : Int32) (x3 : Int32) (x5 : Int64) (v_syndromes : (Nat → Int64)) (v_places : Int32) (n2 : Nat) (x7 : Int32) (v_p2 : (Nat → Int32)) : Option ((Int32 × (Nat → Int32)) ⊕ ((Nat → Int32) ⊕ (Int32 × (Nat → Int32)))) :=
  if v_places ≤ x7 then (some (.inr (.inl v_p2))) else (if x3 < 0 ∨ n2 ≤ x3.toNatClampNeg then none else if x7 < 0 ∨ 512 ≤ x7.toNatClampNeg then none else (self_ x1 (x3 + 1) (x7 + 1) (x5 ^^^ (v_syndromes x7.toNatClampNeg)) v_syndromes v_places (upd v_p2 x3.toNatClampNeg x7) n2).bind fun r7 => if r7.1 = 0 then (some (.inl (x7 + 1, r7.2))) else (some (.inr (.inr (1, r7.2)))))

def M_X3_findFirstBehind_F (n : Nat) (self_ : Int32 → Int32 → Int32 → Int64 → (Nat → Int64) → Int32 → (Nat → Int32) → Nat → Option (Int32 × (Nat → Int32))) (x1 : Int32) (x3 : Int32) (x4 : Int32) (x5 : Int64) (v_syndromes : (Nat → Int64)) (v_places : Int32) (v_p2 : (Nat → Int32)) (n2 : Nat) : Option (Int32 × (Nat → Int32)) :=
  if x1 ≤ x3 then (if x5 = 0 then (some (1, v_p2)) else (some (0, v_p2))) else (if x3 < (Int32.ofNat n2) then ((lp (fun x : (Int32 × (Nat → Int32)) => M_X3_findFirstBehind_b28 n self_ x1 x3 x5 v_syndromes v_places n2 x.1 x.2) n (x4, v_p2)).bind (Sum.elim (fun o10 => some (0, o10)) (fun r => some r))) else (if x5 = 0 then (some (1, v_p2)) else (some (0, v_p2))))
def M_X3_findFirstBehind (n : Nat) : Nat → Int32 → Int32 → Int32 → Int64 → (Nat → Int64) → Int32 → (Nat → Int32) → Nat → Option (Int32 × (Nat → Int32))
  | 0, _, _, _, _, _, _, _, _ => none
  | d + 1, x1, x3, x4, x5, v_syndromes, v_places, v_p2, n2 => M_X3_findFirstBehind_F n (M_X3_findFirstBehind n d) x1 x3 x4 x5 v_syndromes v_places v_p2 n2

abbrev ww_X3_findFirstBehind (q : Nat → Nat) (cs : CS) (v_syndromes : (Nat → Int64)) (v_places : Int32) (v_firstEntry : (Nat → Int32)) (v_nextEntry : (Nat → Int32)) (v_numbers : (Nat → Int64)) (v_counts : (Nat → Int32)) (v_size : Int32) (v_p2 : (Nat → Int32)) (a2 : Nat) (n2 : Nat) : va_W := [((q 0), .inr (2, [.ref (q 1), .int v_places, .ref (q 2)])), ((q 1), .inl (cs.2.1, 512, .inr (.inl v_syndromes))), ((q 2), .inr (5, [.ref (q 3), .ref (q 4), .ref (q 5), .ref (q 6), .int v_size])), ((q 3), .inl (cs.1, 512, .inl v_firstEntry)), ((q 4), .inl (cs.1, 1128, .inl v_nextEntry)), ((q 5), .inl (cs.2.1, 1128, .inr (.inl v_numbers))), ((q 6), .inl (cs.1, 1128, .inl v_counts)), (a2, .inl (cs.1, n2, .inl v_p2))]

abbrev rmX3_findFirstBehind (d : Nat) : Room := { frames := d + 0, cells := 0, slots := 0, locals := d * 27 + 0 }
set_option maxHeartbeats 4000000 in
set_option maxRecDepth 100000 in
theorem c_X3_findFirstBehind : ∀ (d : Nat) (l : Launch) (G : va_G) (cs : CS) (q : Nat → Nat) (sz : Nat) (v_syndromes : (Nat → Int64)) (v_places : Int32) (v_firstEntry : (Nat → Int32)) (v_nextEntry : (Nat → Int32)) (v_numbers : (Nat → Int64)) (v_counts : (Nat → Int32)) (v_size : Int32) (v_p2 : (Nat → Int32)) (a2 : Nat) (n2 : Nat) (x1 : Int32) (x3 : Int32) (x4 : Int32) (x5 : Int64) (n : Nat) (res : (Int32 × (Nat → Int32))) (hm : M_X3_findFirstBehind n d x1 x3 x4 x5 v_syndromes v_places v_p2 n2 = some res), Met l yX3_findFirstBehind wsX3_findFirstBehind (rmX3_findFirstBehind d) (va_Pc [.ref (q 0), .int x1, .ref a2, .int x3, .int x4, .long x5] (PreW G cs sz (ww_X3_findFirstBehind q cs v_syndromes v_places v_firstEntry v_nextEntry v_numbers v_counts v_size v_p2 a2 n2) RN)) (QI G res.1 (res.1 = 0 ∨ res.1 = 1) (ww_X3_findFirstBehind q cs v_syndromes v_places v_firstEntry v_nextEntry v_numbers v_counts v_size res.2 a2 n2) (va_A (ww_X3_findFirstBehind q cs v_syndromes v_places v_firstEntry v_nextEntry v_numbers v_counts v_size v_p2 a2 n2) sz)) 0 0 (va_A (ww_X3_findFirstBehind q cs v_syndromes v_places v_firstEntry v_nextEntry v_numbers v_counts v_size v_p2 a2 n2) sz) := by
  sorry
theorem hd_X3_findFirst : yX3_findFirst.cls ≠ "java/lang/invoke/MethodHandle" ∧ yX3_findFirst.cls ≠ "java/lang/invoke/VarHandle" ∧ (parseMethodDescriptor yX3_findFirst.desc).map (fun d => d.parameters.length) = some 2 := by sorry

def M_X3_findFirst (n : Nat) (x1 : Int32) (v_syndromes : (Nat → Int64)) (v_places : Int32) (v_p2 : (Nat → Int32)) (n2 : Nat) : Option (Nat → Int32) :=
  (M_X3_findFirstBehind n 6 x1 (0 : Int32) (0 : Int32) (0 : Int64) v_syndromes v_places v_p2 n2).bind fun r1 => some r1.2

abbrev ww_X3_findFirst (q : Nat → Nat) (cs : CS) (v_syndromes : (Nat → Int64)) (v_places : Int32) (v_firstEntry : (Nat → Int32)) (v_nextEntry : (Nat → Int32)) (v_numbers : (Nat → Int64)) (v_counts : (Nat → Int32)) (v_size : Int32) (v_p2 : (Nat → Int32)) (a2 : Nat) (n2 : Nat) : va_W := [((q 0), .inr (2, [.ref (q 1), .int v_places, .ref (q 2)])), ((q 1), .inl (cs.2.1, 512, .inr (.inl v_syndromes))), ((q 2), .inr (5, [.ref (q 3), .ref (q 4), .ref (q 5), .ref (q 6), .int v_size])), ((q 3), .inl (cs.1, 512, .inl v_firstEntry)), ((q 4), .inl (cs.1, 1128, .inl v_nextEntry)), ((q 5), .inl (cs.2.1, 1128, .inr (.inl v_numbers))), ((q 6), .inl (cs.1, 1128, .inl v_counts)), (a2, .inl (cs.1, n2, .inl v_p2))]

abbrev rmX3_findFirst : Room := { frames := 7, cells := 0, slots := 0, locals := 189 }
set_option maxHeartbeats 4000000 in
set_option maxRecDepth 100000 in
theorem c_X3_findFirst (l : Launch) (G : va_G) (cs : CS) (q : Nat → Nat) (sz : Nat) (v_syndromes : (Nat → Int64)) (v_places : Int32) (v_firstEntry : (Nat → Int32)) (v_nextEntry : (Nat → Int32)) (v_numbers : (Nat → Int64)) (v_counts : (Nat → Int32)) (v_size : Int32) (v_p2 : (Nat → Int32)) (a2 : Nat) (n2 : Nat) (x1 : Int32) (n : Nat) (res : (Nat → Int32)) (hm : M_X3_findFirst n x1 v_syndromes v_places v_p2 n2 = some res) : Met l yX3_findFirst wsX3_findFirst rmX3_findFirst (va_Pc [.ref (q 0), .int x1, .ref a2] (PreW G cs sz (ww_X3_findFirst q cs v_syndromes v_places v_firstEntry v_nextEntry v_numbers v_counts v_size v_p2 a2 n2) RN)) (QV G (ww_X3_findFirst q cs v_syndromes v_places v_firstEntry v_nextEntry v_numbers v_counts v_size res a2 n2) (va_A (ww_X3_findFirst q cs v_syndromes v_places v_firstEntry v_nextEntry v_numbers v_counts v_size v_p2 a2 n2) sz)) 0 0 (va_A (ww_X3_findFirst q cs v_syndromes v_places v_firstEntry v_nextEntry v_numbers v_counts v_size v_p2 a2 n2) sz) := by
  sorry
theorem hd_X3_findBest : yX3_findBest.cls ≠ "java/lang/invoke/MethodHandle" ∧ yX3_findBest.cls ≠ "java/lang/invoke/VarHandle" ∧ (parseMethodDescriptor yX3_findBest.desc).map (fun d => d.parameters.length) = some 2 := by sorry

def M_X3_findBest_b11 (n : Nat) (x1 : Int32) (x2 : Int32) (x3 : Int32) (x4 : Int32) (x5 : Int32) (x6 : Int32) (v_syndromes : (Nat → Int64)) (v_places : Int32) (v_firstEntry : (Nat → Int32)) (v_nextEntry : (Nat → Int32)) (v_numbers : (Nat → Int64)) (v_counts : (Nat → Int32)) (v_size : Int32) : Option ((Int32 × Int32 × Int32 × Int32 × (Nat → Int64) × Int32 × (Nat → Int32) × (Nat → Int32) × (Nat → Int64) × (Nat → Int32) × Int32) ⊕ (Int32 × (Nat → Int64) × Int32 × (Nat → Int32) × (Nat → Int32) × (Nat → Int64) × (Nat → Int32) × Int32)) :=
  if ((1 : Int32) <<< (x1 &&& 31)) ≤ x6 then (some (.inr (x3, v_syndromes, v_places, v_firstEntry, v_nextEntry, v_numbers, v_counts, v_size))) else (if 4 < x4 then (some (.inr (x3, v_syndromes, v_places, v_firstEntry, v_nextEntry, v_numbers, v_counts, v_size))) else ((M_X3_load n x2 x1 x6.toInt64 (0 : Int32) v_syndromes v_places).bind fun r3 => (M_X3_leastSize n r3.1 r3.2 v_firstEntry v_nextEntry v_numbers v_counts v_size).bind fun r4 => if 4 < r4.1 then (if x4 < r4.1 then (some (.inl (x6, r4.1, 0, x6 + 2, r3.1, r3.2, r4.2.1, r4.2.2.1, r4.2.2.2.1, r4.2.2.2.2.1, r4.2.2.2.2.2))) else (if r4.1 = x4 then (if x5 ≤ 0 then (some (.inl (x3, x4, x5, x6 + 2, r3.1, r3.2, r4.2.1, r4.2.2.1, r4.2.2.2.1, r4.2.2.2.2.1, r4.2.2.2.2.2))) else (some (.inl (x6, r4.1, 0, x6 + 2, r3.1, r3.2, r4.2.1, r4.2.2.1, r4.2.2.2.1, r4.2.2.2.2.1, r4.2.2.2.2.2)))) else (some (.inl (x3, x4, x5, x6 + 2, r3.1, r3.2, r4.2.1, r4.2.2.1, r4.2.2.2.1, r4.2.2.2.2.1, r4.2.2.2.2.2))))) else (if r4.1 < x4 then (if x4 < r4.1 then (some (.inl (x6, r4.1, 0, x6 + 2, r3.1, r3.2, r4.2.1, r4.2.2.1, r4.2.2.2.1, r4.2.2.2.2.1, r4.2.2.2.2.2))) else (if r4.1 = x4 then (if x5 ≤ 0 then (some (.inl (x3, x4, x5, x6 + 2, r3.1, r3.2, r4.2.1, r4.2.2.1, r4.2.2.2.1, r4.2.2.2.2.1, r4.2.2.2.2.2))) else (some (.inl (x6, r4.1, 0, x6 + 2, r3.1, r3.2, r4.2.1, r4.2.2.1, r4.2.2.2.1, r4.2.2.2.2.1, r4.2.2.2.2.2)))) else (some (.inl (x3, x4, x5, x6 + 2, r3.1, r3.2, r4.2.1, r4.2.2.1, r4.2.2.2.1, r4.2.2.2.2.1, r4.2.2.2.2.2))))) else ((M_X3_howMany n r4.1 r3.1 r3.2 r4.2.1 r4.2.2.1 r4.2.2.2.1 r4.2.2.2.2.1 r4.2.2.2.2.2).bind fun r14 => if x4 < r4.1 then (some (.inl (x6, r4.1, r14.1, x6 + 2, r3.1, r3.2, r14.2.1, r14.2.2.1, r14.2.2.2.1, r14.2.2.2.2.1, r14.2.2.2.2.2))) else (if r4.1 = x4 then (if x5 ≤ r14.1 then (some (.inl (x3, x4, x5, x6 + 2, r3.1, r3.2, r14.2.1, r14.2.2.1, r14.2.2.2.1, r14.2.2.2.2.1, r14.2.2.2.2.2))) else (some (.inl (x6, r4.1, r14.1, x6 + 2, r3.1, r3.2, r14.2.1, r14.2.2.1, r14.2.2.2.1, r14.2.2.2.2.1, r14.2.2.2.2.2)))) else (some (.inl (x3, x4, x5, x6 + 2, r3.1, r3.2, r14.2.1, r14.2.2.1, r14.2.2.2.1, r14.2.2.2.2.1, r14.2.2.2.2.2))))))))

def M_X3_findBest (n : Nat) (x1 : Int32) (x2 : Int32) (v_syndromes : (Nat → Int64)) (v_places : Int32) (v_firstEntry : (Nat → Int32)) (v_nextEntry : (Nat → Int32)) (v_numbers : (Nat → Int64)) (v_counts : (Nat → Int32)) (v_size : Int32) : Option (Int32 × (Nat → Int64) × Int32 × (Nat → Int32) × (Nat → Int32) × (Nat → Int64) × (Nat → Int32) × Int32) :=
  (lp (fun x : (Int32 × Int32 × Int32 × Int32 × (Nat → Int64) × Int32 × (Nat → Int32) × (Nat → Int32) × (Nat → Int64) × (Nat → Int32) × Int32) => M_X3_findBest_b11 n x1 x2 x.1 x.2.1 x.2.2.1 x.2.2.2.1 x.2.2.2.2.1 x.2.2.2.2.2.1 x.2.2.2.2.2.2.1 x.2.2.2.2.2.2.2.1 x.2.2.2.2.2.2.2.2.1 x.2.2.2.2.2.2.2.2.2.1 x.2.2.2.2.2.2.2.2.2.2) n ((-1 : Int32), (0 : Int32), (0 : Int32), (1 : Int32), v_syndromes, v_places, v_firstEntry, v_nextEntry, v_numbers, v_counts, v_size)).bind fun o19 => some (o19.1, o19.2.1, o19.2.2.1, o19.2.2.2.1, o19.2.2.2.2.1, o19.2.2.2.2.2.1, o19.2.2.2.2.2.2.1, o19.2.2.2.2.2.2.2)

abbrev rmX3_findBest : Room := { frames := 5, cells := 0, slots := 0, locals := 114 }
set_option maxHeartbeats 4000000 in
set_option maxRecDepth 100000 in
theorem c_X3_findBest (l : Launch) (G : va_G) (cs : CS) (q : Nat → Nat) (sz : Nat) (v_syndromes : (Nat → Int64)) (v_places : Int32) (v_firstEntry : (Nat → Int32)) (v_nextEntry : (Nat → Int32)) (v_numbers : (Nat → Int64)) (v_counts : (Nat → Int32)) (v_size : Int32)   (x1 : Int32) (x2 : Int32) (n : Nat) (res : (Int32 × (Nat → Int64) × Int32 × (Nat → Int32) × (Nat → Int32) × (Nat → Int64) × (Nat → Int32) × Int32)) (hm : M_X3_findBest n x1 x2 v_syndromes v_places v_firstEntry v_nextEntry v_numbers v_counts v_size = some res) : Met l yX3_findBest wsX3_findBest rmX3_findBest (va_Pc [.ref (q 0), .int x1, .int x2] (PreW G cs sz (ww_P q cs v_syndromes v_places v_firstEntry v_nextEntry v_numbers v_counts v_size) RN)) (QI G res.1 True (ww_P q cs res.2.1 res.2.2.1 res.2.2.2.1 res.2.2.2.2.1 res.2.2.2.2.2.1 res.2.2.2.2.2.2.1 res.2.2.2.2.2.2.2) (va_A (ww_P q cs v_syndromes v_places v_firstEntry v_nextEntry v_numbers v_counts v_size) sz)) 0 0 (va_A (ww_P q cs v_syndromes v_places v_firstEntry v_nextEntry v_numbers v_counts v_size) sz) := by
  sorry
theorem hd_X3_findReach : yX3_findReach.cls ≠ "java/lang/invoke/MethodHandle" ∧ yX3_findReach.cls ≠ "java/lang/invoke/VarHandle" ∧ (parseMethodDescriptor yX3_findReach.desc).map (fun d => d.parameters.length) = some 2 := by sorry

def M_X3_findReach_b19 (n : Nat) (v_syndromes : (Nat → Int64)) (v_places : Int32) (x4 : Int32) (v_firstEntry : (Nat → Int32)) (v_nextEntry : (Nat → Int32)) (v_numbers : (Nat → Int64)) (v_counts : (Nat → Int32)) (v_size : Int32) : Option ((Int32 × (Nat → Int32) × (Nat → Int32) × (Nat → Int64) × (Nat → Int32) × Int32) ⊕ (((Nat → Int32) × (Nat → Int32) × (Nat → Int64) × (Nat → Int32) × Int32) ⊕ (Int32 × (Nat → Int64) × Int32 × (Nat → Int32) × (Nat → Int32) × (Nat → Int64) × (Nat → Int32) × Int32))) :=
  if v_places ≤ x4 then (some (.inr (.inl (v_firstEntry, v_nextEntry, v_numbers, v_counts, v_size)))) else (if ((v_places - 1) - x4) < 0 ∨ 512 ≤ ((v_places - 1) - x4).toNatClampNeg then none else if (M_J13_bitCount_95d88 (v_syndromes ((v_places - 1) - x4).toNatClampNeg)) < 2 then (some (.inr (.inr (x4 / 8, v_syndromes, v_places, v_firstEntry, v_nextEntry, v_numbers, v_counts, v_size)))) else ((M_X7_timesOf n (v_syndromes ((v_places - 1) - x4).toNatClampNeg) v_firstEntry v_nextEntry v_numbers v_counts v_size).bind fun r7 => if r7 ≤ 0 then ((M_X7_note n (v_syndromes ((v_places - 1) - x4).toNatClampNeg) v_firstEntry v_nextEntry v_numbers v_counts v_size).bind fun r10 => some (.inl (x4 + 1, r10.1, r10.2.1, r10.2.2.1, r10.2.2.2.1, r10.2.2.2.2))) else (some (.inr (.inr (x4 / 8, v_syndromes, v_places, v_firstEntry, v_nextEntry, v_numbers, v_counts, v_size))))))

def M_X3_findReach (n : Nat) (x1 : Int32) (x2 : Int64) (v_syndromes : (Nat → Int64)) (v_places : Int32) (v_firstEntry : (Nat → Int32)) (v_nextEntry : (Nat → Int32)) (v_numbers : (Nat → Int64)) (v_counts : (Nat → Int32)) (v_size : Int32) : Option (Int32 × (Nat → Int64) × Int32 × (Nat → Int32) × (Nat → Int32) × (Nat → Int64) × (Nat → Int32) × Int32) :=
  (M_X3_load n (64 : Int32) x1 x2 (0 : Int32) v_syndromes v_places).bind fun r1 => (M_X7_forget n v_firstEntry v_size).bind fun r2 => (lp (fun x : (Int32 × (Nat → Int32) × (Nat → Int32) × (Nat → Int64) × (Nat → Int32) × Int32) => M_X3_findReach_b19 n r1.1 r1.2 x.1 x.2.1 x.2.2.1 x.2.2.2.1 x.2.2.2.2.1 x.2.2.2.2.2) n ((0 : Int32), r2.1, v_nextEntry, v_numbers, v_counts, r2.2)).bind (Sum.elim (fun o11 => some (64, r1.1, r1.2, o11.1, o11.2.1, o11.2.2.1, o11.2.2.2.1, o11.2.2.2.2)) (fun r => some r))

abbrev rmX3_findReach : Room := { frames := 3, cells := 0, slots := 0, locals := 75 }
set_option maxHeartbeats 4000000 in
set_option maxRecDepth 100000 in
theorem c_X3_findReach (l : Launch) (G : va_G) (cs : CS) (q : Nat → Nat) (sz : Nat) (v_syndromes : (Nat → Int64)) (v_places : Int32) (v_firstEntry : (Nat → Int32)) (v_nextEntry : (Nat → Int32)) (v_numbers : (Nat → Int64)) (v_counts : (Nat → Int32)) (v_size : Int32)   (x1 : Int32) (x2 : Int64) (n : Nat) (res : (Int32 × (Nat → Int64) × Int32 × (Nat → Int32) × (Nat → Int32) × (Nat → Int64) × (Nat → Int32) × Int32)) (hm : M_X3_findReach n x1 x2 v_syndromes v_places v_firstEntry v_nextEntry v_numbers v_counts v_size = some res) : Met l yX3_findReach wsX3_findReach rmX3_findReach (va_Pc [.ref (q 0), .int x1, .long x2] (PreW G cs sz (ww_P q cs v_syndromes v_places v_firstEntry v_nextEntry v_numbers v_counts v_size) RN)) (QI G res.1 True (ww_P q cs res.2.1 res.2.2.1 res.2.2.2.1 res.2.2.2.2.1 res.2.2.2.2.2.1 res.2.2.2.2.2.2.1 res.2.2.2.2.2.2.2) (va_A (ww_P q cs v_syndromes v_places v_firstEntry v_nextEntry v_numbers v_counts v_size) sz)) 0 0 (va_A (ww_P q cs v_syndromes v_places v_firstEntry v_nextEntry v_numbers v_counts v_size) sz) := by
  sorry
theorem hd_X0_isTold : yX0_isTold.cls ≠ "java/lang/invoke/MethodHandle" ∧ yX0_isTold.cls ≠ "java/lang/invoke/VarHandle" ∧ (parseMethodDescriptor yX0_isTold.desc).map (fun d => d.parameters.length) = some 1 := by sorry

def M_X0_isTold_b2 (n : Nat) (x1 : Int32) (v_toldPlaces : (Nat → Int32)) (v_placeCount : Int32) (x2 : Int32) : Option (Int32 ⊕ (Unit ⊕ Int32)) :=
  if v_placeCount ≤ x2 then (some (.inr (.inl ()))) else (if x2 < 0 ∨ 16 ≤ x2.toNatClampNeg then none else if (v_toldPlaces x2.toNatClampNeg) = x1 then (some (.inr (.inr 1))) else (some (.inl (x2 + 1))))

def M_X0_isTold (n : Nat) (x1 : Int32) (v_toldPlaces : (Nat → Int32)) (v_placeCount : Int32) : Option Int32 :=
  (lp (fun x : Int32 => M_X0_isTold_b2 n x1 v_toldPlaces v_placeCount x) n (0 : Int32)).bind (Sum.elim (fun o4 => some 0) (fun r => some r))

abbrev ww_A (q : Nat → Nat) (cs : CS) (v_toldPlaces : (Nat → Int32)) (v_placeCount : Int32) (v_ways : (Nat → Int32)) (v_wayCount : Int32) (v_usable : (Nat → Int32)) (v_upTo : (Nat → Int64))   : va_W := [((q 0), .inr (0, [.ref (q 1), .int v_placeCount, .ref (q 2), .int v_wayCount, .ref (q 3), .ref (q 4)])), ((q 1), .inl (cs.1, 16, .inl v_toldPlaces)), ((q 2), .inl (cs.1, 64, .inl v_ways)), ((q 3), .inl (cs.1, 16, .inl v_usable)), ((q 4), .inl (cs.2.1, 16, .inr (.inl v_upTo)))]

abbrev rmX0_isTold : Room := { frames := 0, cells := 0, slots := 0, locals := 0 }
set_option maxHeartbeats 4000000 in
set_option maxRecDepth 100000 in
theorem c_X0_isTold (l : Launch) (G : va_G) (cs : CS) (q : Nat → Nat) (sz : Nat) (v_toldPlaces : (Nat → Int32)) (v_placeCount : Int32) (v_ways : (Nat → Int32)) (v_wayCount : Int32) (v_usable : (Nat → Int32)) (v_upTo : (Nat → Int64))   (x1 : Int32) (n : Nat) (res : Int32) (hm : M_X0_isTold n x1 v_toldPlaces v_placeCount = some res) : Met l yX0_isTold wsX0_isTold rmX0_isTold (va_Pc [.ref (q 0), .int x1] (PreW G cs sz (ww_A q cs v_toldPlaces v_placeCount v_ways v_wayCount v_usable v_upTo) RN)) (QI G res (res = 0 ∨ res = 1) (ww_A q cs v_toldPlaces v_placeCount v_ways v_wayCount v_usable v_upTo) (va_A (ww_A q cs v_toldPlaces v_placeCount v_ways v_wayCount v_usable v_upTo) sz)) 0 0 (va_A (ww_A q cs v_toldPlaces v_placeCount v_ways v_wayCount v_usable v_upTo) sz) := by
  sorry
theorem hd_X0_isFull : yX0_isFull.cls ≠ "java/lang/invoke/MethodHandle" ∧ yX0_isFull.cls ≠ "java/lang/invoke/VarHandle" ∧ (parseMethodDescriptor yX0_isFull.desc).map (fun d => d.parameters.length) = some 0 := by sorry

def M_X0_isFull  (v_placeCount : Int32) : Int32 :=
  if v_placeCount < 16 then 0 else 1

abbrev rmX0_isFull : Room := { frames := 0, cells := 0, slots := 0, locals := 0 }
set_option maxHeartbeats 4000000 in
set_option maxRecDepth 100000 in
theorem c_X0_isFull (l : Launch) (G : va_G) (cs : CS) (q : Nat → Nat) (sz : Nat) (v_toldPlaces : (Nat → Int32)) (v_placeCount : Int32) (v_ways : (Nat → Int32)) (v_wayCount : Int32) (v_usable : (Nat → Int32)) (v_upTo : (Nat → Int64))    (res : Int32) (hm : M_X0_isFull v_placeCount = res) : Met l yX0_isFull wsX0_isFull rmX0_isFull (va_Pc [.ref (q 0)] (PreW G cs sz (ww_A q cs v_toldPlaces v_placeCount v_ways v_wayCount v_usable v_upTo) RN)) (QI G res (res = 0 ∨ res = 1) (ww_A q cs v_toldPlaces v_placeCount v_ways v_wayCount v_usable v_upTo) (va_A (ww_A q cs v_toldPlaces v_placeCount v_ways v_wayCount v_usable v_upTo) sz)) 0 0 (va_A (ww_A q cs v_toldPlaces v_placeCount v_ways v_wayCount v_usable v_upTo) sz) := by
  sorry
theorem hd_X0_addPlace : yX0_addPlace.cls ≠ "java/lang/invoke/MethodHandle" ∧ yX0_addPlace.cls ≠ "java/lang/invoke/VarHandle" ∧ (parseMethodDescriptor yX0_addPlace.desc).map (fun d => d.parameters.length) = some 1 := by sorry

def M_X0_addPlace (x1 : Int32) (v_toldPlaces : (Nat → Int32)) (v_placeCount : Int32) : Option (Int32 × (Nat → Int32) × Int32) :=
  if v_placeCount < 0 ∨ 16 ≤ v_placeCount.toNatClampNeg then none else some ((v_placeCount + 1), (upd v_toldPlaces v_placeCount.toNatClampNeg x1), (v_placeCount + 1))

abbrev rmX0_addPlace : Room := { frames := 0, cells := 0, slots := 0, locals := 0 }
set_option maxHeartbeats 4000000 in
set_option maxRecDepth 100000 in
theorem c_X0_addPlace (l : Launch) (G : va_G) (cs : CS) (q : Nat → Nat) (sz : Nat) (v_toldPlaces : (Nat → Int32)) (v_placeCount : Int32) (v_ways : (Nat → Int32)) (v_wayCount : Int32) (v_usable : (Nat → Int32)) (v_upTo : (Nat → Int64))   (x1 : Int32) (res : (Int32 × (Nat → Int32) × Int32)) (hm : M_X0_addPlace x1 v_toldPlaces v_placeCount = some res) : Met l yX0_addPlace wsX0_addPlace rmX0_addPlace (va_Pc [.ref (q 0), .int x1] (PreW G cs sz (ww_A q cs v_toldPlaces v_placeCount v_ways v_wayCount v_usable v_upTo) RN)) (QI G res.1 True (ww_A q cs res.2.1 res.2.2 v_ways v_wayCount v_usable v_upTo) (va_A (ww_A q cs v_toldPlaces v_placeCount v_ways v_wayCount v_usable v_upTo) sz)) 0 0 (va_A (ww_A q cs v_toldPlaces v_placeCount v_ways v_wayCount v_usable v_upTo) sz) := by
  sorry
theorem hd_X0_fillUsable : yX0_fillUsable.cls ≠ "java/lang/invoke/MethodHandle" ∧ yX0_fillUsable.cls ≠ "java/lang/invoke/VarHandle" ∧ (parseMethodDescriptor yX0_fillUsable.desc).map (fun d => d.parameters.length) = some 2 := by sorry

def M_X0_fillUsable_b8 (n : Nat) (x2 : Int32) (v_toldPlaces : (Nat → Int32)) (v_placeCount : Int32) (v_p1 : (Nat → Int64)) (n1 : Nat) (x3 : Int32) (x4 : Int64) (x6 : Int32) (v_usable : (Nat → Int32)) (v_upTo : (Nat → Int64)) : Option ((Int32 × Int64 × Int32 × (Nat → Int32) × (Nat → Int64)) ⊕ (Int32 × (Nat → Int32) × (Nat → Int64))) :=
  if v_placeCount ≤ x6 then (some (.inr (x3, v_usable, v_upTo))) else (if x6 < 0 ∨ 16 ≤ x6.toNatClampNeg then none else if x2 ≤ (v_toldPlaces x6.toNatClampNeg) then (some (.inl (x3, x4, x6 + 1, v_usable, v_upTo))) else (if x6 < 0 ∨ 16 ≤ x6.toNatClampNeg then none else if (v_toldPlaces x6.toNatClampNeg) < 0 ∨ n1 ≤ (v_toldPlaces x6.toNatClampNeg).toNatClampNeg then none else if x3 < 0 ∨ 16 ≤ x3.toNatClampNeg then none else if x3 < 0 ∨ 16 ≤ x3.toNatClampNeg then none else some (.inl (x3 + 1, x4 ^^^ (v_p1 (v_toldPlaces x6.toNatClampNeg).toNatClampNeg), x6 + 1, (upd v_usable x3.toNatClampNeg x6), (vp_updL v_upTo x3.toNatClampNeg (x4 ^^^ (v_p1 (v_toldPlaces x6.toNatClampNeg).toNatClampNeg)))))))

def M_X0_fillUsable (n : Nat) (x2 : Int32) (v_toldPlaces : (Nat → Int32)) (v_placeCount : Int32) (v_usable : (Nat → Int32)) (v_upTo : (Nat → Int64)) (v_p1 : (Nat → Int64)) (n1 : Nat) : Option (Int32 × (Nat → Int32) × (Nat → Int64)) :=
  (lp (fun x : (Int32 × Int64 × Int32 × (Nat → Int32) × (Nat → Int64)) => M_X0_fillUsable_b8 n x2 v_toldPlaces v_placeCount v_p1 n1 x.1 x.2.1 x.2.2.1 x.2.2.2.1 x.2.2.2.2) n ((0 : Int32), (0 : Int64), (0 : Int32), v_usable, v_upTo)).bind fun o8 => some (o8.1, o8.2.1, o8.2.2)

abbrev ww_X0_fillUsable (q : Nat → Nat) (cs : CS) (v_toldPlaces : (Nat → Int32)) (v_placeCount : Int32) (v_ways : (Nat → Int32)) (v_wayCount : Int32) (v_usable : (Nat → Int32)) (v_upTo : (Nat → Int64)) (v_p1 : (Nat → Int64)) (a1 : Nat) (n1 : Nat) : va_W := [((q 0), .inr (0, [.ref (q 1), .int v_placeCount, .ref (q 2), .int v_wayCount, .ref (q 3), .ref (q 4)])), ((q 1), .inl (cs.1, 16, .inl v_toldPlaces)), ((q 2), .inl (cs.1, 64, .inl v_ways)), ((q 3), .inl (cs.1, 16, .inl v_usable)), ((q 4), .inl (cs.2.1, 16, .inr (.inl v_upTo))), (a1, .inl (cs.2.1, n1, .inr (.inl v_p1)))]

abbrev rmX0_fillUsable : Room := { frames := 0, cells := 0, slots := 0, locals := 0 }
set_option maxHeartbeats 4000000 in
set_option maxRecDepth 100000 in
theorem c_X0_fillUsable (l : Launch) (G : va_G) (cs : CS) (q : Nat → Nat) (sz : Nat) (v_toldPlaces : (Nat → Int32)) (v_placeCount : Int32) (v_ways : (Nat → Int32)) (v_wayCount : Int32) (v_usable : (Nat → Int32)) (v_upTo : (Nat → Int64)) (v_p1 : (Nat → Int64)) (a1 : Nat) (n1 : Nat) (x2 : Int32) (n : Nat) (res : (Int32 × (Nat → Int32) × (Nat → Int64))) (hm : M_X0_fillUsable n x2 v_toldPlaces v_placeCount v_usable v_upTo v_p1 n1 = some res) : Met l yX0_fillUsable wsX0_fillUsable rmX0_fillUsable (va_Pc [.ref (q 0), .ref a1, .int x2] (PreW G cs sz (ww_X0_fillUsable q cs v_toldPlaces v_placeCount v_ways v_wayCount v_usable v_upTo v_p1 a1 n1) RN)) (QI G res.1 True (ww_X0_fillUsable q cs v_toldPlaces v_placeCount v_ways v_wayCount res.2.1 res.2.2 v_p1 a1 n1) (va_A (ww_X0_fillUsable q cs v_toldPlaces v_placeCount v_ways v_wayCount v_usable v_upTo v_p1 a1 n1) sz)) 0 0 (va_A (ww_X0_fillUsable q cs v_toldPlaces v_placeCount v_ways v_wayCount v_usable v_upTo v_p1 a1 n1) sz) := by
  sorry
theorem hd_X0_wayOf : yX0_wayOf.cls ≠ "java/lang/invoke/MethodHandle" ∧ yX0_wayOf.cls ≠ "java/lang/invoke/VarHandle" ∧ (parseMethodDescriptor yX0_wayOf.desc).map (fun d => d.parameters.length) = some 2 := by sorry

def M_X0_wayOf_b5 (n : Nat) (x1 : Int32) (x2 : Int32) (v_usable : (Nat → Int32)) (x3 : Int32) (x4 : Int32) : Option ((Int32 × Int32) ⊕ Int32) :=
  if x2 ≤ x4 then (some (.inr x3)) else (if ((x1 >>> (x4 &&& 31)) &&& 1) = 1 then (if x4 < 0 ∨ 16 ≤ x4.toNatClampNeg then none else some (.inl (x3 ||| ((1 : Int32) <<< ((v_usable x4.toNatClampNeg) &&& 31)), x4 + 1))) else (some (.inl (x3, x4 + 1))))

def M_X0_wayOf (n : Nat) (x1 : Int32) (x2 : Int32) (v_usable : (Nat → Int32)) : Option Int32 :=
  (lp (fun x : (Int32 × Int32) => M_X0_wayOf_b5 n x1 x2 v_usable x.1 x.2) n ((0 : Int32), (0 : Int32))).bind fun o4 => some o4

abbrev rmX0_wayOf : Room := { frames := 0, cells := 0, slots := 0, locals := 0 }
set_option maxHeartbeats 4000000 in
set_option maxRecDepth 100000 in
theorem c_X0_wayOf (l : Launch) (G : va_G) (cs : CS) (q : Nat → Nat) (sz : Nat) (v_toldPlaces : (Nat → Int32)) (v_placeCount : Int32) (v_ways : (Nat → Int32)) (v_wayCount : Int32) (v_usable : (Nat → Int32)) (v_upTo : (Nat → Int64))   (x1 : Int32) (x2 : Int32) (n : Nat) (res : Int32) (hm : M_X0_wayOf n x1 x2 v_usable = some res) : Met l yX0_wayOf wsX0_wayOf rmX0_wayOf (va_Pc [.ref (q 0), .int x1, .int x2] (PreW G cs sz (ww_A q cs v_toldPlaces v_placeCount v_ways v_wayCount v_usable v_upTo) RN)) (QI G res True (ww_A q cs v_toldPlaces v_placeCount v_ways v_wayCount v_usable v_upTo) (va_A (ww_A q cs v_toldPlaces v_placeCount v_ways v_wayCount v_usable v_upTo) sz)) 0 0 (va_A (ww_A q cs v_toldPlaces v_placeCount v_ways v_wayCount v_usable v_upTo) sz) := by
  sorry
theorem hd_X0_findWays : yX0_findWays.cls ≠ "java/lang/invoke/MethodHandle" ∧ yX0_findWays.cls ≠ "java/lang/invoke/VarHandle" ∧ (parseMethodDescriptor yX0_findWays.desc).map (fun d => d.parameters.length) = some 3 := by sorry

def M_X0_findWays_b17 (n : Nat) (x3 : Int64) (x5 : Int32) (v_usable : (Nat → Int32)) (v_upTo : (Nat → Int64)) (x6 : Int32) (x7 : Int64) (x9 : Int32) (v_ways : (Nat → Int32)) : Option ((Int32 × Int64 × Int32 × (Nat → Int32)) ⊕ (Int32 × (Nat → Int32))) :=
  if ((1 : Int32) <<< (x5 &&& 31)) ≤ x9 then (some (.inr (x6, v_ways))) else (if x9 ≤ 0 then (if x7 = x3 then (if 64 ≤ x6 then (some (.inl (x6 + 1, x7, x9 + 1, v_ways))) else ((M_X0_wayOf n x9 x5 v_usable).bind fun r7 => if x6 < 0 ∨ 64 ≤ x6.toNatClampNeg then none else some (.inl (x6 + 1, x7, x9 + 1, (upd v_ways x6.toNatClampNeg r7))))) else (some (.inl (x6, x7, x9 + 1, v_ways)))) else (if (M_J6_numberOfTrailingZeros_0f7a4 x9) < 0 ∨ 16 ≤ (M_J6_numberOfTrailingZeros_0f7a4 x9).toNatClampNeg then none else if (x7 ^^^ (v_upTo (M_J6_numberOfTrailingZeros_0f7a4 x9).toNatClampNeg)) = x3 then (if 64 ≤ x6 then (some (.inl (x6 + 1, x7 ^^^ (v_upTo (M_J6_numberOfTrailingZeros_0f7a4 x9).toNatClampNeg), x9 + 1, v_ways))) else ((M_X0_wayOf n x9 x5 v_usable).bind fun r14 => if x6 < 0 ∨ 64 ≤ x6.toNatClampNeg then none else some (.inl (x6 + 1, x7 ^^^ (v_upTo (M_J6_numberOfTrailingZeros_0f7a4 x9).toNatClampNeg), x9 + 1, (upd v_ways x6.toNatClampNeg r14))))) else (some (.inl (x6, x7 ^^^ (v_upTo (M_J6_numberOfTrailingZeros_0f7a4 x9).toNatClampNeg), x9 + 1, v_ways)))))

def M_X0_findWays (n : Nat) (x2 : Int32) (x3 : Int64) (v_toldPlaces : (Nat → Int32)) (v_placeCount : Int32) (v_ways : (Nat → Int32)) (v_wayCount : Int32) (v_usable : (Nat → Int32)) (v_upTo : (Nat → Int64)) (v_p1 : (Nat → Int64)) (n1 : Nat) : Option (Int32 × (Nat → Int32) × Int32 × (Nat → Int32) × (Nat → Int64)) :=
  (M_X0_fillUsable n x2 v_toldPlaces v_placeCount v_usable v_upTo v_p1 n1).bind fun r1 => (lp (fun x : (Int32 × Int64 × Int32 × (Nat → Int32)) => M_X0_findWays_b17 n x3 r1.1 r1.2.1 r1.2.2 x.1 x.2.1 x.2.2.1 x.2.2.2) n ((0 : Int32), (0 : Int64), (0 : Int32), v_ways)).bind fun o17 => some (o17.1, o17.2, (if (64 : Int32) < o17.1 then (64 : Int32) else o17.1), r1.2.1, r1.2.2)

abbrev ww_X0_findWays (q : Nat → Nat) (cs : CS) (v_toldPlaces : (Nat → Int32)) (v_placeCount : Int32) (v_ways : (Nat → Int32)) (v_wayCount : Int32) (v_usable : (Nat → Int32)) (v_upTo : (Nat → Int64)) (v_p1 : (Nat → Int64)) (a1 : Nat) (n1 : Nat) : va_W := [((q 0), .inr (0, [.ref (q 1), .int v_placeCount, .ref (q 2), .int v_wayCount, .ref (q 3), .ref (q 4)])), ((q 1), .inl (cs.1, 16, .inl v_toldPlaces)), ((q 2), .inl (cs.1, 64, .inl v_ways)), ((q 3), .inl (cs.1, 16, .inl v_usable)), ((q 4), .inl (cs.2.1, 16, .inr (.inl v_upTo))), (a1, .inl (cs.2.1, n1, .inr (.inl v_p1)))]

abbrev rmX0_findWays : Room := { frames := 1, cells := 0, slots := 0, locals := 26 }
set_option maxHeartbeats 4000000 in
set_option maxRecDepth 100000 in
theorem c_X0_findWays (l : Launch) (G : va_G) (cs : CS) (q : Nat → Nat) (sz : Nat) (v_toldPlaces : (Nat → Int32)) (v_placeCount : Int32) (v_ways : (Nat → Int32)) (v_wayCount : Int32) (v_usable : (Nat → Int32)) (v_upTo : (Nat → Int64)) (v_p1 : (Nat → Int64)) (a1 : Nat) (n1 : Nat) (x2 : Int32) (x3 : Int64) (n : Nat) (res : (Int32 × (Nat → Int32) × Int32 × (Nat → Int32) × (Nat → Int64))) (hm : M_X0_findWays n x2 x3 v_toldPlaces v_placeCount v_ways v_wayCount v_usable v_upTo v_p1 n1 = some res) : Met l yX0_findWays wsX0_findWays rmX0_findWays (va_Pc [.ref (q 0), .ref a1, .int x2, .long x3] (PreW G cs sz (ww_X0_findWays q cs v_toldPlaces v_placeCount v_ways v_wayCount v_usable v_upTo v_p1 a1 n1) RN)) (QI G res.1 True (ww_X0_findWays q cs v_toldPlaces v_placeCount res.2.1 res.2.2.1 res.2.2.2.1 res.2.2.2.2 v_p1 a1 n1) (va_A (ww_X0_findWays q cs v_toldPlaces v_placeCount v_ways v_wayCount v_usable v_upTo v_p1 a1 n1) sz)) 0 0 (va_A (ww_X0_findWays q cs v_toldPlaces v_placeCount v_ways v_wayCount v_usable v_upTo v_p1 a1 n1) sz) := by
  sorry