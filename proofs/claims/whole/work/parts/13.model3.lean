theorem hd_X12_passesFlip : yX12_passesFlip.cls ≠ "java/lang/invoke/MethodHandle" ∧ yX12_passesFlip.cls ≠ "java/lang/invoke/VarHandle" ∧ (parseMethodDescriptor yX12_passesFlip.desc).map (fun d => d.parameters.length) = some 3 := by decide +kernel

def M_X12_passesFlip_b93 (n : Nat) (x1 : Int32) (x2 : Int32) (x3 : Int32) (x4 : Int32) (v_kindOf : (Nat → Int32)) (v_modOf : (Nat → Int32)) (v_placeA : (Nat → Int64)) (v_placeB : (Nat → Int64)) (v_turnedMany : Int32) (x7 : Int32) (v_keptSize : Int32) (v_keptBefore : (Nat → Int32)) (v_keptAfter : (Nat → Int32)) (v_turned : (Nat → Int32)) (v_comesA : Int64) (v_comesB : Int64) : Option ((Int32 × Int32 × (Nat → Int32) × (Nat → Int32) × (Nat → Int32) × Int64 × Int64) ⊕ ((Int32 × (Nat → Int32) × (Nat → Int32) × (Nat → Int32) × Int64 × Int64) ⊕ (Int32 × Int32 × (Nat → Int32) × (Nat → Int32) × (Nat → Int32) × Int32 × Int64 × Int64))) :=
  if x4 ≤ x7 then (some (.inr (.inl (v_keptSize, v_keptBefore, v_keptAfter, v_turned, v_comesA, v_comesB)))) else (if x2 ≤ 2 then (some (.inr (.inl (v_keptSize, v_keptBefore, v_keptAfter, v_turned, v_comesA, v_comesB)))) else ((M_X12_passesTurned n x1 x3 v_kindOf v_modOf v_keptSize v_keptBefore v_keptAfter v_placeA v_placeB (upd v_turned (2 : Int32).toNatClampNeg x7) v_turnedMany v_comesA v_comesB).bind fun r8 => if r8.1 = 0 then (some (.inl (x7 + 1, r8.2.1, r8.2.2.1, r8.2.2.2.1, (upd v_turned (2 : Int32).toNatClampNeg x7), r8.2.2.2.2.1, r8.2.2.2.2.2))) else (some (.inr (.inr (1, r8.2.1, r8.2.2.1, r8.2.2.2.1, (upd v_turned (2 : Int32).toNatClampNeg x7), v_turnedMany, r8.2.2.2.2.1, r8.2.2.2.2.2))))))

def M_X12_passesFlip_b51 (n : Nat) (x1 : Int32) (x2 : Int32) (x3 : Int32) (x4 : Int32) (v_kindOf : (Nat → Int32)) (v_modOf : (Nat → Int32)) (v_placeA : (Nat → Int64)) (v_placeB : (Nat → Int64)) (v_turnedMany : Int32) (x6 : Int32) (v_keptSize : Int32) (v_keptBefore : (Nat → Int32)) (v_keptAfter : (Nat → Int32)) (v_turned : (Nat → Int32)) (v_comesA : Int64) (v_comesB : Int64) : Option ((Int32 × Int32 × (Nat → Int32) × (Nat → Int32) × (Nat → Int32) × Int64 × Int64) ⊕ ((Int32 × (Nat → Int32) × (Nat → Int32) × (Nat → Int32) × Int64 × Int64) ⊕ (Int32 × Int32 × (Nat → Int32) × (Nat → Int32) × (Nat → Int32) × Int32 × Int64 × Int64))) :=
  if x4 ≤ x6 then (some (.inr (.inl (v_keptSize, v_keptBefore, v_keptAfter, v_turned, v_comesA, v_comesB)))) else (if x2 ≤ 1 then (some (.inr (.inl (v_keptSize, v_keptBefore, v_keptAfter, v_turned, v_comesA, v_comesB)))) else (if x2 = 2 then ((M_X12_passesTurned n x1 x3 v_kindOf v_modOf v_keptSize v_keptBefore v_keptAfter v_placeA v_placeB (upd v_turned (1 : Int32).toNatClampNeg x6) v_turnedMany v_comesA v_comesB).bind fun r12 => if r12.1 = 0 then ((lp (fun x : (Int32 × Int32 × (Nat → Int32) × (Nat → Int32) × (Nat → Int32) × Int64 × Int64) => M_X12_passesFlip_b93 n x1 x2 x3 x4 v_kindOf v_modOf v_placeA v_placeB v_turnedMany x.1 x.2.1 x.2.2.1 x.2.2.2.1 x.2.2.2.2.1 x.2.2.2.2.2.1 x.2.2.2.2.2.2) n ((x6 + 1), r12.2.1, r12.2.2.1, r12.2.2.2.1, (upd v_turned (1 : Int32).toNatClampNeg x6), r12.2.2.2.2.1, r12.2.2.2.2.2)).bind (Sum.elim (fun o15 => some (.inl (x6 + 1, o15.1, o15.2.1, o15.2.2.1, o15.2.2.2.1, o15.2.2.2.2.1, o15.2.2.2.2.2))) (fun r => some (.inr (.inr r))))) else (some (.inr (.inr (1, r12.2.1, r12.2.2.1, r12.2.2.2.1, (upd v_turned (1 : Int32).toNatClampNeg x6), v_turnedMany, r12.2.2.2.2.1, r12.2.2.2.2.2))))) else ((lp (fun x : (Int32 × Int32 × (Nat → Int32) × (Nat → Int32) × (Nat → Int32) × Int64 × Int64) => M_X12_passesFlip_b93 n x1 x2 x3 x4 v_kindOf v_modOf v_placeA v_placeB v_turnedMany x.1 x.2.1 x.2.2.1 x.2.2.2.1 x.2.2.2.2.1 x.2.2.2.2.2.1 x.2.2.2.2.2.2) n ((x6 + 1), v_keptSize, v_keptBefore, v_keptAfter, (upd v_turned (1 : Int32).toNatClampNeg x6), v_comesA, v_comesB)).bind (Sum.elim (fun o11 => some (.inl (x6 + 1, o11.1, o11.2.1, o11.2.2.1, o11.2.2.2.1, o11.2.2.2.2.1, o11.2.2.2.2.2))) (fun r => some (.inr (.inr r)))))))

def M_X12_passesFlip_b14 (n : Nat) (x1 : Int32) (x2 : Int32) (x3 : Int32) (x4 : Int32) (v_kindOf : (Nat → Int32)) (v_modOf : (Nat → Int32)) (v_placeA : (Nat → Int64)) (v_placeB : (Nat → Int64)) (v_turnedMany : Int32) (x5 : Int32) (v_keptSize : Int32) (v_keptBefore : (Nat → Int32)) (v_keptAfter : (Nat → Int32)) (v_turned : (Nat → Int32)) (v_comesA : Int64) (v_comesB : Int64) : Option ((Int32 × Int32 × (Nat → Int32) × (Nat → Int32) × (Nat → Int32) × Int64 × Int64) ⊕ ((Int32 × (Nat → Int32) × (Nat → Int32) × (Nat → Int32) × Int64 × Int64) ⊕ (Int32 × Int32 × (Nat → Int32) × (Nat → Int32) × (Nat → Int32) × Int32 × Int64 × Int64))) :=
  if x4 ≤ x5 then (some (.inr (.inl (v_keptSize, v_keptBefore, v_keptAfter, v_turned, v_comesA, v_comesB)))) else (if x2 = 1 then ((M_X12_passesTurned n x1 x3 v_kindOf v_modOf v_keptSize v_keptBefore v_keptAfter v_placeA v_placeB (upd v_turned (0 : Int32).toNatClampNeg x5) v_turnedMany v_comesA v_comesB).bind fun r17 => if r17.1 = 0 then ((lp (fun x : (Int32 × Int32 × (Nat → Int32) × (Nat → Int32) × (Nat → Int32) × Int64 × Int64) => M_X12_passesFlip_b51 n x1 x2 x3 x4 v_kindOf v_modOf v_placeA v_placeB v_turnedMany x.1 x.2.1 x.2.2.1 x.2.2.2.1 x.2.2.2.2.1 x.2.2.2.2.2.1 x.2.2.2.2.2.2) n ((x5 + 1), r17.2.1, r17.2.2.1, r17.2.2.2.1, (upd v_turned (0 : Int32).toNatClampNeg x5), r17.2.2.2.2.1, r17.2.2.2.2.2)).bind (Sum.elim (fun o20 => some (.inl (x5 + 1, o20.1, o20.2.1, o20.2.2.1, o20.2.2.2.1, o20.2.2.2.2.1, o20.2.2.2.2.2))) (fun r => some (.inr (.inr r))))) else (some (.inr (.inr (1, r17.2.1, r17.2.2.1, r17.2.2.2.1, (upd v_turned (0 : Int32).toNatClampNeg x5), v_turnedMany, r17.2.2.2.2.1, r17.2.2.2.2.2))))) else ((lp (fun x : (Int32 × Int32 × (Nat → Int32) × (Nat → Int32) × (Nat → Int32) × Int64 × Int64) => M_X12_passesFlip_b51 n x1 x2 x3 x4 v_kindOf v_modOf v_placeA v_placeB v_turnedMany x.1 x.2.1 x.2.2.1 x.2.2.2.1 x.2.2.2.2.1 x.2.2.2.2.2.1 x.2.2.2.2.2.2) n ((x5 + 1), v_keptSize, v_keptBefore, v_keptAfter, (upd v_turned (0 : Int32).toNatClampNeg x5), v_comesA, v_comesB)).bind (Sum.elim (fun o16 => some (.inl (x5 + 1, o16.1, o16.2.1, o16.2.2.1, o16.2.2.2.1, o16.2.2.2.2.1, o16.2.2.2.2.2))) (fun r => some (.inr (.inr r))))))

def M_X12_passesFlip (n : Nat) (x1 : Int32) (x2 : Int32) (x3 : Int32) (v_kindOf : (Nat → Int32)) (v_modOf : (Nat → Int32)) (v_keptSize : Int32) (v_keptBefore : (Nat → Int32)) (v_keptAfter : (Nat → Int32)) (v_placeA : (Nat → Int64)) (v_placeB : (Nat → Int64)) (v_turned : (Nat → Int32)) (v_turnedMany : Int32) (v_comesA : Int64) (v_comesB : Int64) : Option (Int32 × Int32 × (Nat → Int32) × (Nat → Int32) × (Nat → Int32) × Int32 × Int64 × Int64) :=
  (lp (fun x : (Int32 × Int32 × (Nat → Int32) × (Nat → Int32) × (Nat → Int32) × Int64 × Int64) => M_X12_passesFlip_b14 n x1 x2 x3 (8 * x3) v_kindOf v_modOf v_placeA v_placeB x2 x.1 x.2.1 x.2.2.1 x.2.2.2.1 x.2.2.2.2.1 x.2.2.2.2.2.1 x.2.2.2.2.2.2) n ((0 : Int32), v_keptSize, v_keptBefore, v_keptAfter, v_turned, v_comesA, v_comesB)).bind (Sum.elim (fun o21 => some (0, o21.1, o21.2.1, o21.2.2.1, o21.2.2.2.1, x2, o21.2.2.2.2.1, o21.2.2.2.2.2)) (fun r => some r))

abbrev rmX12_passesFlip : Room := { frames := 3, cells := 0, slots := 0, locals := 70 }
set_option maxHeartbeats 4000000 in
set_option maxRecDepth 100000 in
theorem c_X12_passesFlip (l : Launch) (G : va_G) (cs : CS) (q : Nat → Nat) (sz : Nat) (v_told : Int32) (v_tell : (Nat → Int32)) (v_sums : Int32) (v_kindOf : (Nat → Int32)) (v_modOf : (Nat → Int32)) (v_bitsOf : (Nat → Int32)) (v_turnOf : (Nat → Int32)) (v_polyOf : (Nat → Int64)) (v_beginOf : (Nat → Int64)) (v_finishOf : (Nat → Int64)) (v_isLow : (Nat → Int32)) (v_weightsOf : (Nat → Int32)) (v_weight : (Nat → Int32)) (v_cell : (Nat → Int32)) (v_size : Int32) (v_row : (Nat → Int32)) (v_keptSize : Int32) (v_keptBefore : (Nat → Int32)) (v_keptAfter : (Nat → Int32)) (v_placeA : (Nat → Int64)) (v_placeB : (Nat → Int64)) (v_turned : (Nat → Int32)) (v_turnedMany : Int32) (v_syndromes : (Nat → Int64)) (v_lightest : (Nat → Int32)) (v_freeMany : Int32) (v_freePlace : (Nat → Int32)) (v_freeSyndrome : (Nat → Int64)) (v_ways : (Nat → Int32)) (v_waysKept : Int32) (v_trace : (Nat → Int32)) (v_comesA : Int64) (v_comesB : Int64)   (x1 : Int32) (x2 : Int32) (x3 : Int32) (n : Nat) (res : (Int32 × Int32 × (Nat → Int32) × (Nat → Int32) × (Nat → Int32) × Int32 × Int64 × Int64)) (hm : M_X12_passesFlip n x1 x2 x3 v_kindOf v_modOf v_keptSize v_keptBefore v_keptAfter v_placeA v_placeB v_turned v_turnedMany v_comesA v_comesB = some res) : Met l yX12_passesFlip wsX12_passesFlip rmX12_passesFlip (va_Pc [.ref (q 0), .int x1, .int x2, .int x3] (PreW G cs sz (ww_M q cs v_told v_tell v_sums v_kindOf v_modOf v_bitsOf v_turnOf v_polyOf v_beginOf v_finishOf v_isLow v_weightsOf v_weight v_cell v_size v_row v_keptSize v_keptBefore v_keptAfter v_placeA v_placeB v_turned v_turnedMany v_syndromes v_lightest v_freeMany v_freePlace v_freeSyndrome v_ways v_waysKept v_trace v_comesA v_comesB) RN)) (QI G res.1 (res.1 = 0 ∨ res.1 = 1) (ww_M q cs v_told v_tell v_sums v_kindOf v_modOf v_bitsOf v_turnOf v_polyOf v_beginOf v_finishOf v_isLow v_weightsOf v_weight v_cell v_size v_row res.2.1 res.2.2.1 res.2.2.2.1 v_placeA v_placeB res.2.2.2.2.1 res.2.2.2.2.2.1 v_syndromes v_lightest v_freeMany v_freePlace v_freeSyndrome v_ways v_waysKept v_trace res.2.2.2.2.2.2.1 res.2.2.2.2.2.2.2) (va_A (ww_M q cs v_told v_tell v_sums v_kindOf v_modOf v_bitsOf v_turnOf v_polyOf v_beginOf v_finishOf v_isLow v_weightsOf v_weight v_cell v_size v_row v_keptSize v_keptBefore v_keptAfter v_placeA v_placeB v_turned v_turnedMany v_syndromes v_lightest v_freeMany v_freePlace v_freeSyndrome v_ways v_waysKept v_trace v_comesA v_comesB) sz)) 0 0 (va_A (ww_M q cs v_told v_tell v_sums v_kindOf v_modOf v_bitsOf v_turnOf v_polyOf v_beginOf v_finishOf v_isLow v_weightsOf v_weight v_cell v_size v_row v_keptSize v_keptBefore v_keptAfter v_placeA v_placeB v_turned v_turnedMany v_syndromes v_lightest v_freeMany v_freePlace v_freeSyndrome v_ways v_waysKept v_trace v_comesA v_comesB) sz) := by
  refine k_enter (Qf := fun A => QI G res.1 (res.1 = 0 ∨ res.1 = 1) (ww_M q cs v_told v_tell v_sums v_kindOf v_modOf v_bitsOf v_turnOf v_polyOf v_beginOf v_finishOf v_isLow v_weightsOf v_weight v_cell v_size v_row res.2.1 res.2.2.1 res.2.2.2.1 v_placeA v_placeB res.2.2.2.2.1 res.2.2.2.2.2.1 v_syndromes v_lightest v_freeMany v_freePlace v_freeSyndrome v_ways v_waysKept v_trace res.2.2.2.2.2.2.1 res.2.2.2.2.2.2.2) A) (cc := cX12_passesFlip) (maxL := 8) (ret := (some .boolean)) (plainFor_of_name (by decide)) rfl (Nat.le_of_ble_eq_true rfl) ?_
  intro p e s m args below meth c A Q ls H locs hx hb hr hml hown hts hlocks hname hK hA hRo hP hD hS hQ hl
  have hl : lv_has ls 8 [(0, .ref (q 0)), (1, .int x1), (2, .int x2), (3, .int x3)] := hl
  have wd1 := hts (.fieldLink RX12 193 "SumSmithModel" "turnedMany" "I") (List.mem_of_getElem? (i := 1) rfl)
  have wd2 := hts (.fieldLink RX12 63 "SumSmithModel" "turned" "[I") (List.mem_of_getElem? (i := 2) rfl)
  have hinX12 : ∀ w ∈ wsX120, w ∈ wsX12_passesFlip := fun w h => List.mem_cons_of_mem _ (List.mem_append_right _ h)
  have L93 : ∀ (x1 : Int32) (x2 : Int32) (x3 : Int32) (x4 : Int32) (x5 : Int32) (x6 : Int32) (x7 : Int32) (v_keptSize : Int32) (v_keptBefore : (Nat → Int32)) (v_keptAfter : (Nat → Int32)) (v_turned : (Nat → Int32)) (v_turnedMany : Int32) (v_comesA : Int64) (v_comesB : Int64) (out : ((Int32 × (Nat → Int32) × (Nat → Int32) × (Nat → Int32) × Int64 × Int64) ⊕ (Int32 × Int32 × (Nat → Int32) × (Nat → Int32) × (Nat → Int32) × Int32 × Int64 × Int64))), lp (fun x : (Int32 × Int32 × (Nat → Int32) × (Nat → Int32) × (Nat → Int32) × Int64 × Int64) => M_X12_passesFlip_b93 n x1 x2 x3 x4 v_kindOf v_modOf v_placeA v_placeB v_turnedMany x.1 x.2.1 x.2.2.1 x.2.2.2.1 x.2.2.2.2.1 x.2.2.2.2.2.1 x.2.2.2.2.2.2) n (x7, v_keptSize, v_keptBefore, v_keptAfter, v_turned, v_comesA, v_comesB) = some out → (∀ r, out = .inr r → r = res) → (∀ (o : (Int32 × (Nat → Int32) × (Nat → Int32) × (Nat → Int32) × Int64 × Int64)), out = .inl o → ∀ (H : Heap) (locs : List Loc), va_P G vwCl (ww_M q cs v_told v_tell v_sums v_kindOf v_modOf v_bitsOf v_turnOf v_polyOf v_beginOf v_finishOf v_isLow v_weightsOf v_weight v_cell v_size v_row o.1 o.2.1 o.2.2.1 v_placeA v_placeB o.2.2.2.1 v_turnedMany v_syndromes v_lightest v_freeMany v_freePlace v_freeSyndrome v_ways v_waysKept v_trace o.2.2.2.2.1 o.2.2.2.2.2) H → va_D A (ww_M q cs v_told v_tell v_sums v_kindOf v_modOf v_bitsOf v_turnOf v_polyOf v_beginOf v_finishOf v_isLow v_weightsOf v_weight v_cell v_size v_row o.1 o.2.1 o.2.2.1 v_placeA v_placeB o.2.2.2.1 v_turnedMany v_syndromes v_lightest v_freeMany v_freePlace v_freeSyndrome v_ways v_waysKept v_trace o.2.2.2.2.1 o.2.2.2.2.2) → va_S A s.heap H locs → ∀ (ls : Array Slot), lv_has ls 8 [(0, .ref (q 0)), (1, .int x1), (2, .int x2), (3, .int x3), (4, .int x4), (5, .int x5), (6, .int x6)] → W p l e rmX12_passesFlip s m args below meth c H locs 0 0 Q (F0 m 130 ls [])) → ∀ (H : Heap) (locs : List Loc), va_P G vwCl (ww_M q cs v_told v_tell v_sums v_kindOf v_modOf v_bitsOf v_turnOf v_polyOf v_beginOf v_finishOf v_isLow v_weightsOf v_weight v_cell v_size v_row v_keptSize v_keptBefore v_keptAfter v_placeA v_placeB v_turned v_turnedMany v_syndromes v_lightest v_freeMany v_freePlace v_freeSyndrome v_ways v_waysKept v_trace v_comesA v_comesB) H → va_D A (ww_M q cs v_told v_tell v_sums v_kindOf v_modOf v_bitsOf v_turnOf v_polyOf v_beginOf v_finishOf v_isLow v_weightsOf v_weight v_cell v_size v_row v_keptSize v_keptBefore v_keptAfter v_placeA v_placeB v_turned v_turnedMany v_syndromes v_lightest v_freeMany v_freePlace v_freeSyndrome v_ways v_waysKept v_trace v_comesA v_comesB) → va_S A s.heap H locs → ∀ (ls : Array Slot), lv_has ls 8 [(0, .ref (q 0)), (1, .int x1), (2, .int x2), (3, .int x3), (4, .int x4), (5, .int x5), (6, .int x6), (7, .int x7)] → W p l e rmX12_passesFlip s m args below meth c H locs 0 0 Q (F0 m 93 ls []) := by
    intro x1 x2 x3 x4 x5 x6 x7 v_keptSize v_keptBefore v_keptAfter v_turned v_turnedMany v_comesA v_comesB out hlp hret hX
    refine lp_ind (fun x => ∀ (H : Heap) (locs : List Loc), va_P G vwCl (ww_M q cs v_told v_tell v_sums v_kindOf v_modOf v_bitsOf v_turnOf v_polyOf v_beginOf v_finishOf v_isLow v_weightsOf v_weight v_cell v_size v_row x.2.1 x.2.2.1 x.2.2.2.1 v_placeA v_placeB x.2.2.2.2.1 v_turnedMany v_syndromes v_lightest v_freeMany v_freePlace v_freeSyndrome v_ways v_waysKept v_trace x.2.2.2.2.2.1 x.2.2.2.2.2.2) H → va_D A (ww_M q cs v_told v_tell v_sums v_kindOf v_modOf v_bitsOf v_turnOf v_polyOf v_beginOf v_finishOf v_isLow v_weightsOf v_weight v_cell v_size v_row x.2.1 x.2.2.1 x.2.2.2.1 v_placeA v_placeB x.2.2.2.2.1 v_turnedMany v_syndromes v_lightest v_freeMany v_freePlace v_freeSyndrome v_ways v_waysKept v_trace x.2.2.2.2.2.1 x.2.2.2.2.2.2) → va_S A s.heap H locs → ∀ (ls : Array Slot), lv_has ls 8 [(0, .ref (q 0)), (1, .int x1), (2, .int x2), (3, .int x3), (4, .int x4), (5, .int x5), (6, .int x6), (7, .int x.1)] → W p l e rmX12_passesFlip s m args below meth c H locs 0 0 Q (F0 m 93 ls [])) ?_ n (x7, v_keptSize, v_keptBefore, v_keptAfter, v_turned, v_comesA, v_comesB) hlp
    clear hlp hP hD hS hl
    rintro ⟨x7, v_keptSize, v_keptBefore, v_keptAfter, v_turned, v_comesA, v_comesB⟩ ob hm hst H locs hP hD hS ls hl
    have hm : M_X12_passesFlip_b93 n x1 x2 x3 x4 v_kindOf v_modOf v_placeA v_placeB v_turnedMany x7 v_keptSize v_keptBefore v_keptAfter v_turned v_comesA v_comesB = some ob := hm
    have hl : lv_has ls 8 [(0, .ref (q 0)), (1, .int x1), (2, .int x2), (3, .int x3), (4, .int x4), (5, .int x5), (6, .int x6), (7, .int x7)] := hl
    have hP : va_P G vwCl (ww_M q cs v_told v_tell v_sums v_kindOf v_modOf v_bitsOf v_turnOf v_polyOf v_beginOf v_finishOf v_isLow v_weightsOf v_weight v_cell v_size v_row v_keptSize v_keptBefore v_keptAfter v_placeA v_placeB v_turned v_turnedMany v_syndromes v_lightest v_freeMany v_freePlace v_freeSyndrome v_ways v_waysKept v_trace v_comesA v_comesB) H := hP
    have hD : va_D A (ww_M q cs v_told v_tell v_sums v_kindOf v_modOf v_bitsOf v_turnOf v_polyOf v_beginOf v_finishOf v_isLow v_weightsOf v_weight v_cell v_size v_row v_keptSize v_keptBefore v_keptAfter v_placeA v_placeB v_turned v_turnedMany v_syndromes v_lightest v_freeMany v_freePlace v_freeSyndrome v_ways v_waysKept v_trace v_comesA v_comesB) := hD
    unfold M_X12_passesFlip_b93 at hm
    refine lv_iload hx hb dX12_passesFlip_93 (lv_at hl 7 rfl) ?_
    refine lv_iload hx hb dX12_passesFlip_95 (lv_at hl 4 rfl) ?_
    refine lv_icmp_ge (tgt := 130) hx hb dX12_passesFlip_97 (by decide) (fun b6 => ?_) (fun b6 => ?_)
    · have hm := i_t b6 hm
      exact hX _ (st_exit hm hst) H locs hP hD hS ls (lv_sub hl [0, 1, 2, 3, 4, 5, 6] rfl)
    · have hm := i_f b6 hm
      refine lv_iload_n hx hb dX12_passesFlip_100 rfl (lv_at hl 2 rfl) ?_
      refine lv_iconst (v := 2) hx hb dX12_passesFlip_101 (by decide) ?_
      refine lv_icmp_le (tgt := 130) hx hb dX12_passesFlip_102 (by decide) (fun b7 => ?_) (fun b7 => ?_)
      · have hm := i_t b7 hm
        exact hX _ (st_exit hm hst) H locs hP hD hS ls (lv_sub hl [0, 1, 2, 3, 4, 5, 6] rfl)
      · have hm := i_f b7 hm
        refine lv_aload_n hx hb dX12_passesFlip_105 rfl (lv_at hl 0 rfl) ?_
        refine va_get (D := G) (ci := 10) (v := .ref (q 18)) (C := RX12) (T := TX12) (N := 33) hx hb hts hinX12 hown hK.1 hP 0 rfl rfl 21 (by decide) wd2 (fun _ h9 => h9) rfl dX12_passesFlip_106 ?_
        refine lv_iconst (v := 2) hx hb dX12_passesFlip_109 (by decide) ?_
        refine lv_iload hx hb dX12_passesFlip_110 (lv_at hl 7 rfl) ?_
        refine va_iast hx hb hK.1 hP hD hS 18 0 rfl rfl (by unfold vp_in; decide) dX12_passesFlip_112 (fun H locs hP hD hS => ?_)
        have hP : va_P G vwCl (ww_M q cs v_told v_tell v_sums v_kindOf v_modOf v_bitsOf v_turnOf v_polyOf v_beginOf v_finishOf v_isLow v_weightsOf v_weight v_cell v_size v_row v_keptSize v_keptBefore v_keptAfter v_placeA v_placeB (upd v_turned (2 : Int32).toNatClampNeg x7) v_turnedMany v_syndromes v_lightest v_freeMany v_freePlace v_freeSyndrome v_ways v_waysKept v_trace v_comesA v_comesB) H := hP
        have hD : va_D A (ww_M q cs v_told v_tell v_sums v_kindOf v_modOf v_bitsOf v_turnOf v_polyOf v_beginOf v_finishOf v_isLow v_weightsOf v_weight v_cell v_size v_row v_keptSize v_keptBefore v_keptAfter v_placeA v_placeB (upd v_turned (2 : Int32).toNatClampNeg x7) v_turnedMany v_syndromes v_lightest v_freeMany v_freePlace v_freeSyndrome v_ways v_waysKept v_trace v_comesA v_comesB) := hD
        refine lv_aload_n hx hb dX12_passesFlip_113 rfl (lv_at hl 0 rfl) ?_
        refine lv_iload_n hx hb dX12_passesFlip_114 rfl (lv_at hl 1 rfl) ?_
        refine lv_iload_n hx hb dX12_passesFlip_115 rfl (lv_at hl 3 rfl) ?_
        obtain ⟨r8, hc_r8, hm⟩ := bs hm
        refine k_calli (va_runV (As := [.int x1, .int x3]) (rest := []) ⟨hx, hb, hml, hown, hts⟩ (c_X12_passesTurned l G cs q H.size v_told v_tell v_sums v_kindOf v_modOf v_bitsOf v_turnOf v_polyOf v_beginOf v_finishOf v_isLow v_weightsOf v_weight v_cell v_size v_row v_keptSize v_keptBefore v_keptAfter v_placeA v_placeB (upd v_turned (2 : Int32).toNatClampNeg x7) v_turnedMany v_syndromes v_lightest v_freeMany v_freePlace v_freeSyndrome v_ways v_waysKept v_trace v_comesA v_comesB   x1 x3 n r8 hc_r8) (cwV 2 hts gX12_passesFlip_X12_passesTurned rfl rfl rfl ⟨rfl, hd_X12_passesTurned⟩ ⟨Nat.le_of_ble_eq_true rfl, Nat.le_of_ble_eq_true rfl⟩) ⟨pre_blind, va_recv hK.1 hP (ci := 10) (q0 := 0) rfl rfl, pre_w hK RO.nil hP hD (va_all hD hS hA)⟩ rfl rfl hl.1 rfl (lv_room (Nat.le_of_ble_eq_true rfl)) dX12_passesFlip_116 ⟨Nat.zero_le _, Nat.zero_le _⟩) hS (va_all hD hS hA) (fun hE9 H locs hP hD hS => ?_)
        have hP : va_P G vwCl (ww_M q cs v_told v_tell v_sums v_kindOf v_modOf v_bitsOf v_turnOf v_polyOf v_beginOf v_finishOf v_isLow v_weightsOf v_weight v_cell v_size v_row r8.2.1 r8.2.2.1 r8.2.2.2.1 v_placeA v_placeB (upd v_turned (2 : Int32).toNatClampNeg x7) v_turnedMany v_syndromes v_lightest v_freeMany v_freePlace v_freeSyndrome v_ways v_waysKept v_trace r8.2.2.2.2.1 r8.2.2.2.2.2) H := hP
        have hD : va_D A (ww_M q cs v_told v_tell v_sums v_kindOf v_modOf v_bitsOf v_turnOf v_polyOf v_beginOf v_finishOf v_isLow v_weightsOf v_weight v_cell v_size v_row r8.2.1 r8.2.2.1 r8.2.2.2.1 v_placeA v_placeB (upd v_turned (2 : Int32).toNatClampNeg x7) v_turnedMany v_syndromes v_lightest v_freeMany v_freePlace v_freeSyndrome v_ways v_waysKept v_trace r8.2.2.2.2.1 r8.2.2.2.2.2) := hD
        refine lv_if_eq (tgt := 124) hx hb dX12_passesFlip_119 (by decide) (fun b10 => ?_) (fun b10 => ?_)
        · have hm := i_t b10 hm
          refine lv_iinc (v := x7 + 1) (lv' := [(7, .int (x7 + 1)), (0, .ref (q 0)), (1, .int x1), (2, .int x2), (3, .int x3), (4, .int x4), (5, .int x5), (6, .int x6)]) hx hb dX12_passesFlip_124 hl (k := 7) rfl rfl (by decide) rfl (fun ls hl => ?_)
          refine lv_goto (tgt := 93) hx hb dX12_passesFlip_127 (by decide) ?_
          exact st_next hm hst H locs hP hD hS ls (lv_sub hl [1, 2, 3, 4, 5, 6, 7, 0] rfl)
        · have hm := i_f b10 hm
          refine lv_iconst (v := 1) hx hb dX12_passesFlip_122 (by decide) ?_
          have hq := hret _ (st_exit hm hst)
          subst hq; subst hQ
          exact k_zret hx hb hr hlocks hP hD hS rfl (by decide) dX12_passesFlip_123
  have L51 : ∀ (x1 : Int32) (x2 : Int32) (x3 : Int32) (x4 : Int32) (x5 : Int32) (x6 : Int32) (v_keptSize : Int32) (v_keptBefore : (Nat → Int32)) (v_keptAfter : (Nat → Int32)) (v_turned : (Nat → Int32)) (v_turnedMany : Int32) (v_comesA : Int64) (v_comesB : Int64) (out : ((Int32 × (Nat → Int32) × (Nat → Int32) × (Nat → Int32) × Int64 × Int64) ⊕ (Int32 × Int32 × (Nat → Int32) × (Nat → Int32) × (Nat → Int32) × Int32 × Int64 × Int64))), lp (fun x : (Int32 × Int32 × (Nat → Int32) × (Nat → Int32) × (Nat → Int32) × Int64 × Int64) => M_X12_passesFlip_b51 n x1 x2 x3 x4 v_kindOf v_modOf v_placeA v_placeB v_turnedMany x.1 x.2.1 x.2.2.1 x.2.2.2.1 x.2.2.2.2.1 x.2.2.2.2.2.1 x.2.2.2.2.2.2) n (x6, v_keptSize, v_keptBefore, v_keptAfter, v_turned, v_comesA, v_comesB) = some out → (∀ r, out = .inr r → r = res) → (∀ (o : (Int32 × (Nat → Int32) × (Nat → Int32) × (Nat → Int32) × Int64 × Int64)), out = .inl o → ∀ (H : Heap) (locs : List Loc), va_P G vwCl (ww_M q cs v_told v_tell v_sums v_kindOf v_modOf v_bitsOf v_turnOf v_polyOf v_beginOf v_finishOf v_isLow v_weightsOf v_weight v_cell v_size v_row o.1 o.2.1 o.2.2.1 v_placeA v_placeB o.2.2.2.1 v_turnedMany v_syndromes v_lightest v_freeMany v_freePlace v_freeSyndrome v_ways v_waysKept v_trace o.2.2.2.2.1 o.2.2.2.2.2) H → va_D A (ww_M q cs v_told v_tell v_sums v_kindOf v_modOf v_bitsOf v_turnOf v_polyOf v_beginOf v_finishOf v_isLow v_weightsOf v_weight v_cell v_size v_row o.1 o.2.1 o.2.2.1 v_placeA v_placeB o.2.2.2.1 v_turnedMany v_syndromes v_lightest v_freeMany v_freePlace v_freeSyndrome v_ways v_waysKept v_trace o.2.2.2.2.1 o.2.2.2.2.2) → va_S A s.heap H locs → ∀ (ls : Array Slot), lv_has ls 8 [(0, .ref (q 0)), (1, .int x1), (2, .int x2), (3, .int x3), (4, .int x4), (5, .int x5)] → W p l e rmX12_passesFlip s m args below meth c H locs 0 0 Q (F0 m 136 ls [])) → ∀ (H : Heap) (locs : List Loc), va_P G vwCl (ww_M q cs v_told v_tell v_sums v_kindOf v_modOf v_bitsOf v_turnOf v_polyOf v_beginOf v_finishOf v_isLow v_weightsOf v_weight v_cell v_size v_row v_keptSize v_keptBefore v_keptAfter v_placeA v_placeB v_turned v_turnedMany v_syndromes v_lightest v_freeMany v_freePlace v_freeSyndrome v_ways v_waysKept v_trace v_comesA v_comesB) H → va_D A (ww_M q cs v_told v_tell v_sums v_kindOf v_modOf v_bitsOf v_turnOf v_polyOf v_beginOf v_finishOf v_isLow v_weightsOf v_weight v_cell v_size v_row v_keptSize v_keptBefore v_keptAfter v_placeA v_placeB v_turned v_turnedMany v_syndromes v_lightest v_freeMany v_freePlace v_freeSyndrome v_ways v_waysKept v_trace v_comesA v_comesB) → va_S A s.heap H locs → ∀ (ls : Array Slot), lv_has ls 8 [(0, .ref (q 0)), (1, .int x1), (2, .int x2), (3, .int x3), (4, .int x4), (5, .int x5), (6, .int x6)] → W p l e rmX12_passesFlip s m args below meth c H locs 0 0 Q (F0 m 51 ls []) := by
    intro x1 x2 x3 x4 x5 x6 v_keptSize v_keptBefore v_keptAfter v_turned v_turnedMany v_comesA v_comesB out hlp hret hX
    refine lp_ind (fun x => ∀ (H : Heap) (locs : List Loc), va_P G vwCl (ww_M q cs v_told v_tell v_sums v_kindOf v_modOf v_bitsOf v_turnOf v_polyOf v_beginOf v_finishOf v_isLow v_weightsOf v_weight v_cell v_size v_row x.2.1 x.2.2.1 x.2.2.2.1 v_placeA v_placeB x.2.2.2.2.1 v_turnedMany v_syndromes v_lightest v_freeMany v_freePlace v_freeSyndrome v_ways v_waysKept v_trace x.2.2.2.2.2.1 x.2.2.2.2.2.2) H → va_D A (ww_M q cs v_told v_tell v_sums v_kindOf v_modOf v_bitsOf v_turnOf v_polyOf v_beginOf v_finishOf v_isLow v_weightsOf v_weight v_cell v_size v_row x.2.1 x.2.2.1 x.2.2.2.1 v_placeA v_placeB x.2.2.2.2.1 v_turnedMany v_syndromes v_lightest v_freeMany v_freePlace v_freeSyndrome v_ways v_waysKept v_trace x.2.2.2.2.2.1 x.2.2.2.2.2.2) → va_S A s.heap H locs → ∀ (ls : Array Slot), lv_has ls 8 [(0, .ref (q 0)), (1, .int x1), (2, .int x2), (3, .int x3), (4, .int x4), (5, .int x5), (6, .int x.1)] → W p l e rmX12_passesFlip s m args below meth c H locs 0 0 Q (F0 m 51 ls [])) ?_ n (x6, v_keptSize, v_keptBefore, v_keptAfter, v_turned, v_comesA, v_comesB) hlp
    clear hlp hP hD hS hl
    rintro ⟨x6, v_keptSize, v_keptBefore, v_keptAfter, v_turned, v_comesA, v_comesB⟩ ob hm hst H locs hP hD hS ls hl
    have hm : M_X12_passesFlip_b51 n x1 x2 x3 x4 v_kindOf v_modOf v_placeA v_placeB v_turnedMany x6 v_keptSize v_keptBefore v_keptAfter v_turned v_comesA v_comesB = some ob := hm
    have hl : lv_has ls 8 [(0, .ref (q 0)), (1, .int x1), (2, .int x2), (3, .int x3), (4, .int x4), (5, .int x5), (6, .int x6)] := hl
    have hP : va_P G vwCl (ww_M q cs v_told v_tell v_sums v_kindOf v_modOf v_bitsOf v_turnOf v_polyOf v_beginOf v_finishOf v_isLow v_weightsOf v_weight v_cell v_size v_row v_keptSize v_keptBefore v_keptAfter v_placeA v_placeB v_turned v_turnedMany v_syndromes v_lightest v_freeMany v_freePlace v_freeSyndrome v_ways v_waysKept v_trace v_comesA v_comesB) H := hP
    have hD : va_D A (ww_M q cs v_told v_tell v_sums v_kindOf v_modOf v_bitsOf v_turnOf v_polyOf v_beginOf v_finishOf v_isLow v_weightsOf v_weight v_cell v_size v_row v_keptSize v_keptBefore v_keptAfter v_placeA v_placeB v_turned v_turnedMany v_syndromes v_lightest v_freeMany v_freePlace v_freeSyndrome v_ways v_waysKept v_trace v_comesA v_comesB) := hD
    unfold M_X12_passesFlip_b51 at hm
    refine lv_iload hx hb dX12_passesFlip_51 (lv_at hl 6 rfl) ?_
    refine lv_iload hx hb dX12_passesFlip_53 (lv_at hl 4 rfl) ?_
    refine lv_icmp_ge (tgt := 136) hx hb dX12_passesFlip_55 (by decide) (fun b3 => ?_) (fun b3 => ?_)
    · have hm := i_t b3 hm
      exact hX _ (st_exit hm hst) H locs hP hD hS ls (lv_sub hl [0, 1, 2, 3, 4, 5] rfl)
    · have hm := i_f b3 hm
      refine lv_iload_n hx hb dX12_passesFlip_58 rfl (lv_at hl 2 rfl) ?_
      refine lv_iconst (v := 1) hx hb dX12_passesFlip_59 (by decide) ?_
      refine lv_icmp_le (tgt := 136) hx hb dX12_passesFlip_60 (by decide) (fun b4 => ?_) (fun b4 => ?_)
      · have hm := i_t b4 hm
        exact hX _ (st_exit hm hst) H locs hP hD hS ls (lv_sub hl [0, 1, 2, 3, 4, 5] rfl)
      · have hm := i_f b4 hm
        refine lv_aload_n hx hb dX12_passesFlip_63 rfl (lv_at hl 0 rfl) ?_
        refine va_get (D := G) (ci := 10) (v := .ref (q 18)) (C := RX12) (T := TX12) (N := 33) hx hb hts hinX12 hown hK.1 hP 0 rfl rfl 21 (by decide) wd2 (fun _ h9 => h9) rfl dX12_passesFlip_64 ?_
        refine lv_iconst (v := 1) hx hb dX12_passesFlip_67 (by decide) ?_
        refine lv_iload hx hb dX12_passesFlip_68 (lv_at hl 6 rfl) ?_
        refine va_iast hx hb hK.1 hP hD hS 18 0 rfl rfl (by unfold vp_in; decide) dX12_passesFlip_70 (fun H locs hP hD hS => ?_)
        have hP : va_P G vwCl (ww_M q cs v_told v_tell v_sums v_kindOf v_modOf v_bitsOf v_turnOf v_polyOf v_beginOf v_finishOf v_isLow v_weightsOf v_weight v_cell v_size v_row v_keptSize v_keptBefore v_keptAfter v_placeA v_placeB (upd v_turned (1 : Int32).toNatClampNeg x6) v_turnedMany v_syndromes v_lightest v_freeMany v_freePlace v_freeSyndrome v_ways v_waysKept v_trace v_comesA v_comesB) H := hP
        have hD : va_D A (ww_M q cs v_told v_tell v_sums v_kindOf v_modOf v_bitsOf v_turnOf v_polyOf v_beginOf v_finishOf v_isLow v_weightsOf v_weight v_cell v_size v_row v_keptSize v_keptBefore v_keptAfter v_placeA v_placeB (upd v_turned (1 : Int32).toNatClampNeg x6) v_turnedMany v_syndromes v_lightest v_freeMany v_freePlace v_freeSyndrome v_ways v_waysKept v_trace v_comesA v_comesB) := hD
        refine lv_iload_n hx hb dX12_passesFlip_71 rfl (lv_at hl 2 rfl) ?_
        refine lv_iconst (v := 2) hx hb dX12_passesFlip_72 (by decide) ?_
        refine lv_icmp_ne (tgt := 87) hx hb dX12_passesFlip_73 (by decide) (fun b5 => ?_) (fun b5 => ?_)
        · have hm := i_f b5 hm
          refine lv_iload hx hb dX12_passesFlip_87 (lv_at hl 6 rfl) ?_
          refine lv_iconst (v := 1) hx hb dX12_passesFlip_89 (by decide) ?_
          refine lv_iadd hx hb dX12_passesFlip_90 ?_
          refine lv_istore (lv' := [(7, .int (x6 + 1)), (0, .ref (q 0)), (1, .int x1), (2, .int x2), (3, .int x3), (4, .int x4), (5, .int x5), (6, .int x6)]) hx hb dX12_passesFlip_91 hl (by decide) rfl (fun ls hl => ?_)
          obtain ⟨u11, hlp11, hm⟩ := bs hm
          refine L93 x1 x2 x3 x4 x5 x6 (x6 + 1) v_keptSize v_keptBefore v_keptAfter (upd v_turned (1 : Int32).toNatClampNeg x6) v_turnedMany v_comesA v_comesB u11 hlp11 (fun r h => by have h2 := se_r h hm; exact hret r (st_exit h2 hst)) (fun o11 ho => ?_) H locs hP hD hS ls (lv_sub hl [1, 2, 3, 4, 5, 6, 7, 0] rfl)
          have hm := se_l ho hm
          intro H locs hP hD hS ls hl
          have hl : lv_has ls 8 [(0, .ref (q 0)), (1, .int x1), (2, .int x2), (3, .int x3), (4, .int x4), (5, .int x5), (6, .int x6)] := hl
          have hP : va_P G vwCl (ww_M q cs v_told v_tell v_sums v_kindOf v_modOf v_bitsOf v_turnOf v_polyOf v_beginOf v_finishOf v_isLow v_weightsOf v_weight v_cell v_size v_row o11.1 o11.2.1 o11.2.2.1 v_placeA v_placeB o11.2.2.2.1 v_turnedMany v_syndromes v_lightest v_freeMany v_freePlace v_freeSyndrome v_ways v_waysKept v_trace o11.2.2.2.2.1 o11.2.2.2.2.2) H := hP
          have hD : va_D A (ww_M q cs v_told v_tell v_sums v_kindOf v_modOf v_bitsOf v_turnOf v_polyOf v_beginOf v_finishOf v_isLow v_weightsOf v_weight v_cell v_size v_row o11.1 o11.2.1 o11.2.2.1 v_placeA v_placeB o11.2.2.2.1 v_turnedMany v_syndromes v_lightest v_freeMany v_freePlace v_freeSyndrome v_ways v_waysKept v_trace o11.2.2.2.2.1 o11.2.2.2.2.2) := hD
          refine lv_iinc (v := x6 + 1) (lv' := [(6, .int (x6 + 1)), (0, .ref (q 0)), (1, .int x1), (2, .int x2), (3, .int x3), (4, .int x4), (5, .int x5)]) hx hb dX12_passesFlip_130 hl (k := 6) rfl rfl (by decide) rfl (fun ls hl => ?_)
          refine lv_goto (tgt := 51) hx hb dX12_passesFlip_133 (by decide) ?_
          exact st_next hm hst H locs hP hD hS ls (lv_sub hl [1, 2, 3, 4, 5, 6, 0] rfl)
        · have hm := i_t b5 hm
          refine lv_aload_n hx hb dX12_passesFlip_76 rfl (lv_at hl 0 rfl) ?_
          refine lv_iload_n hx hb dX12_passesFlip_77 rfl (lv_at hl 1 rfl) ?_
          refine lv_iload_n hx hb dX12_passesFlip_78 rfl (lv_at hl 3 rfl) ?_
          obtain ⟨r12, hc_r12, hm⟩ := bs hm
          refine k_calli (va_runV (As := [.int x1, .int x3]) (rest := []) ⟨hx, hb, hml, hown, hts⟩ (c_X12_passesTurned l G cs q H.size v_told v_tell v_sums v_kindOf v_modOf v_bitsOf v_turnOf v_polyOf v_beginOf v_finishOf v_isLow v_weightsOf v_weight v_cell v_size v_row v_keptSize v_keptBefore v_keptAfter v_placeA v_placeB (upd v_turned (1 : Int32).toNatClampNeg x6) v_turnedMany v_syndromes v_lightest v_freeMany v_freePlace v_freeSyndrome v_ways v_waysKept v_trace v_comesA v_comesB   x1 x3 n r12 hc_r12) (cwV 2 hts gX12_passesFlip_X12_passesTurned rfl rfl rfl ⟨rfl, hd_X12_passesTurned⟩ ⟨Nat.le_of_ble_eq_true rfl, Nat.le_of_ble_eq_true rfl⟩) ⟨pre_blind, va_recv hK.1 hP (ci := 10) (q0 := 0) rfl rfl, pre_w hK RO.nil hP hD (va_all hD hS hA)⟩ rfl rfl hl.1 rfl (lv_room (Nat.le_of_ble_eq_true rfl)) dX12_passesFlip_79 ⟨Nat.zero_le _, Nat.zero_le _⟩) hS (va_all hD hS hA) (fun hE13 H locs hP hD hS => ?_)
          have hP : va_P G vwCl (ww_M q cs v_told v_tell v_sums v_kindOf v_modOf v_bitsOf v_turnOf v_polyOf v_beginOf v_finishOf v_isLow v_weightsOf v_weight v_cell v_size v_row r12.2.1 r12.2.2.1 r12.2.2.2.1 v_placeA v_placeB (upd v_turned (1 : Int32).toNatClampNeg x6) v_turnedMany v_syndromes v_lightest v_freeMany v_freePlace v_freeSyndrome v_ways v_waysKept v_trace r12.2.2.2.2.1 r12.2.2.2.2.2) H := hP
          have hD : va_D A (ww_M q cs v_told v_tell v_sums v_kindOf v_modOf v_bitsOf v_turnOf v_polyOf v_beginOf v_finishOf v_isLow v_weightsOf v_weight v_cell v_size v_row r12.2.1 r12.2.2.1 r12.2.2.2.1 v_placeA v_placeB (upd v_turned (1 : Int32).toNatClampNeg x6) v_turnedMany v_syndromes v_lightest v_freeMany v_freePlace v_freeSyndrome v_ways v_waysKept v_trace r12.2.2.2.2.1 r12.2.2.2.2.2) := hD
          refine lv_if_eq (tgt := 87) hx hb dX12_passesFlip_82 (by decide) (fun b14 => ?_) (fun b14 => ?_)
          · have hm := i_t b14 hm
            refine lv_iload hx hb dX12_passesFlip_87 (lv_at hl 6 rfl) ?_
            refine lv_iconst (v := 1) hx hb dX12_passesFlip_89 (by decide) ?_
            refine lv_iadd hx hb dX12_passesFlip_90 ?_
            refine lv_istore (lv' := [(7, .int (x6 + 1)), (0, .ref (q 0)), (1, .int x1), (2, .int x2), (3, .int x3), (4, .int x4), (5, .int x5), (6, .int x6)]) hx hb dX12_passesFlip_91 hl (by decide) rfl (fun ls hl => ?_)
            obtain ⟨u15, hlp15, hm⟩ := bs hm
            refine L93 x1 x2 x3 x4 x5 x6 (x6 + 1) r12.2.1 r12.2.2.1 r12.2.2.2.1 (upd v_turned (1 : Int32).toNatClampNeg x6) v_turnedMany r12.2.2.2.2.1 r12.2.2.2.2.2 u15 hlp15 (fun r h => by have h2 := se_r h hm; exact hret r (st_exit h2 hst)) (fun o15 ho => ?_) H locs hP hD hS ls (lv_sub hl [1, 2, 3, 4, 5, 6, 7, 0] rfl)
            have hm := se_l ho hm
            intro H locs hP hD hS ls hl
            have hl : lv_has ls 8 [(0, .ref (q 0)), (1, .int x1), (2, .int x2), (3, .int x3), (4, .int x4), (5, .int x5), (6, .int x6)] := hl
            have hP : va_P G vwCl (ww_M q cs v_told v_tell v_sums v_kindOf v_modOf v_bitsOf v_turnOf v_polyOf v_beginOf v_finishOf v_isLow v_weightsOf v_weight v_cell v_size v_row o15.1 o15.2.1 o15.2.2.1 v_placeA v_placeB o15.2.2.2.1 v_turnedMany v_syndromes v_lightest v_freeMany v_freePlace v_freeSyndrome v_ways v_waysKept v_trace o15.2.2.2.2.1 o15.2.2.2.2.2) H := hP
            have hD : va_D A (ww_M q cs v_told v_tell v_sums v_kindOf v_modOf v_bitsOf v_turnOf v_polyOf v_beginOf v_finishOf v_isLow v_weightsOf v_weight v_cell v_size v_row o15.1 o15.2.1 o15.2.2.1 v_placeA v_placeB o15.2.2.2.1 v_turnedMany v_syndromes v_lightest v_freeMany v_freePlace v_freeSyndrome v_ways v_waysKept v_trace o15.2.2.2.2.1 o15.2.2.2.2.2) := hD
            refine lv_iinc (v := x6 + 1) (lv' := [(6, .int (x6 + 1)), (0, .ref (q 0)), (1, .int x1), (2, .int x2), (3, .int x3), (4, .int x4), (5, .int x5)]) hx hb dX12_passesFlip_130 hl (k := 6) rfl rfl (by decide) rfl (fun ls hl => ?_)
            refine lv_goto (tgt := 51) hx hb dX12_passesFlip_133 (by decide) ?_
            exact st_next hm hst H locs hP hD hS ls (lv_sub hl [1, 2, 3, 4, 5, 6, 0] rfl)
          · have hm := i_f b14 hm
            refine lv_iconst (v := 1) hx hb dX12_passesFlip_85 (by decide) ?_
            have hq := hret _ (st_exit hm hst)
            subst hq; subst hQ
            exact k_zret hx hb hr hlocks hP hD hS rfl (by decide) dX12_passesFlip_86
  have L14 : ∀ (x1 : Int32) (x2 : Int32) (x3 : Int32) (x4 : Int32) (x5 : Int32) (v_keptSize : Int32) (v_keptBefore : (Nat → Int32)) (v_keptAfter : (Nat → Int32)) (v_turned : (Nat → Int32)) (v_turnedMany : Int32) (v_comesA : Int64) (v_comesB : Int64) (out : ((Int32 × (Nat → Int32) × (Nat → Int32) × (Nat → Int32) × Int64 × Int64) ⊕ (Int32 × Int32 × (Nat → Int32) × (Nat → Int32) × (Nat → Int32) × Int32 × Int64 × Int64))), lp (fun x : (Int32 × Int32 × (Nat → Int32) × (Nat → Int32) × (Nat → Int32) × Int64 × Int64) => M_X12_passesFlip_b14 n x1 x2 x3 x4 v_kindOf v_modOf v_placeA v_placeB v_turnedMany x.1 x.2.1 x.2.2.1 x.2.2.2.1 x.2.2.2.2.1 x.2.2.2.2.2.1 x.2.2.2.2.2.2) n (x5, v_keptSize, v_keptBefore, v_keptAfter, v_turned, v_comesA, v_comesB) = some out → (∀ r, out = .inr r → r = res) → (∀ (o : (Int32 × (Nat → Int32) × (Nat → Int32) × (Nat → Int32) × Int64 × Int64)), out = .inl o → ∀ (H : Heap) (locs : List Loc), va_P G vwCl (ww_M q cs v_told v_tell v_sums v_kindOf v_modOf v_bitsOf v_turnOf v_polyOf v_beginOf v_finishOf v_isLow v_weightsOf v_weight v_cell v_size v_row o.1 o.2.1 o.2.2.1 v_placeA v_placeB o.2.2.2.1 v_turnedMany v_syndromes v_lightest v_freeMany v_freePlace v_freeSyndrome v_ways v_waysKept v_trace o.2.2.2.2.1 o.2.2.2.2.2) H → va_D A (ww_M q cs v_told v_tell v_sums v_kindOf v_modOf v_bitsOf v_turnOf v_polyOf v_beginOf v_finishOf v_isLow v_weightsOf v_weight v_cell v_size v_row o.1 o.2.1 o.2.2.1 v_placeA v_placeB o.2.2.2.1 v_turnedMany v_syndromes v_lightest v_freeMany v_freePlace v_freeSyndrome v_ways v_waysKept v_trace o.2.2.2.2.1 o.2.2.2.2.2) → va_S A s.heap H locs → ∀ (ls : Array Slot), lv_has ls 8 [] → W p l e rmX12_passesFlip s m args below meth c H locs 0 0 Q (F0 m 142 ls [])) → ∀ (H : Heap) (locs : List Loc), va_P G vwCl (ww_M q cs v_told v_tell v_sums v_kindOf v_modOf v_bitsOf v_turnOf v_polyOf v_beginOf v_finishOf v_isLow v_weightsOf v_weight v_cell v_size v_row v_keptSize v_keptBefore v_keptAfter v_placeA v_placeB v_turned v_turnedMany v_syndromes v_lightest v_freeMany v_freePlace v_freeSyndrome v_ways v_waysKept v_trace v_comesA v_comesB) H → va_D A (ww_M q cs v_told v_tell v_sums v_kindOf v_modOf v_bitsOf v_turnOf v_polyOf v_beginOf v_finishOf v_isLow v_weightsOf v_weight v_cell v_size v_row v_keptSize v_keptBefore v_keptAfter v_placeA v_placeB v_turned v_turnedMany v_syndromes v_lightest v_freeMany v_freePlace v_freeSyndrome v_ways v_waysKept v_trace v_comesA v_comesB) → va_S A s.heap H locs → ∀ (ls : Array Slot), lv_has ls 8 [(0, .ref (q 0)), (1, .int x1), (2, .int x2), (3, .int x3), (4, .int x4), (5, .int x5)] → W p l e rmX12_passesFlip s m args below meth c H locs 0 0 Q (F0 m 14 ls []) := by
    intro x1 x2 x3 x4 x5 v_keptSize v_keptBefore v_keptAfter v_turned v_turnedMany v_comesA v_comesB out hlp hret hX
    refine lp_ind (fun x => ∀ (H : Heap) (locs : List Loc), va_P G vwCl (ww_M q cs v_told v_tell v_sums v_kindOf v_modOf v_bitsOf v_turnOf v_polyOf v_beginOf v_finishOf v_isLow v_weightsOf v_weight v_cell v_size v_row x.2.1 x.2.2.1 x.2.2.2.1 v_placeA v_placeB x.2.2.2.2.1 v_turnedMany v_syndromes v_lightest v_freeMany v_freePlace v_freeSyndrome v_ways v_waysKept v_trace x.2.2.2.2.2.1 x.2.2.2.2.2.2) H → va_D A (ww_M q cs v_told v_tell v_sums v_kindOf v_modOf v_bitsOf v_turnOf v_polyOf v_beginOf v_finishOf v_isLow v_weightsOf v_weight v_cell v_size v_row x.2.1 x.2.2.1 x.2.2.2.1 v_placeA v_placeB x.2.2.2.2.1 v_turnedMany v_syndromes v_lightest v_freeMany v_freePlace v_freeSyndrome v_ways v_waysKept v_trace x.2.2.2.2.2.1 x.2.2.2.2.2.2) → va_S A s.heap H locs → ∀ (ls : Array Slot), lv_has ls 8 [(0, .ref (q 0)), (1, .int x1), (2, .int x2), (3, .int x3), (4, .int x4), (5, .int x.1)] → W p l e rmX12_passesFlip s m args below meth c H locs 0 0 Q (F0 m 14 ls [])) ?_ n (x5, v_keptSize, v_keptBefore, v_keptAfter, v_turned, v_comesA, v_comesB) hlp
    clear hlp hP hD hS hl
    rintro ⟨x5, v_keptSize, v_keptBefore, v_keptAfter, v_turned, v_comesA, v_comesB⟩ ob hm hst H locs hP hD hS ls hl
    have hm : M_X12_passesFlip_b14 n x1 x2 x3 x4 v_kindOf v_modOf v_placeA v_placeB v_turnedMany x5 v_keptSize v_keptBefore v_keptAfter v_turned v_comesA v_comesB = some ob := hm
    have hl : lv_has ls 8 [(0, .ref (q 0)), (1, .int x1), (2, .int x2), (3, .int x3), (4, .int x4), (5, .int x5)] := hl
    have hP : va_P G vwCl (ww_M q cs v_told v_tell v_sums v_kindOf v_modOf v_bitsOf v_turnOf v_polyOf v_beginOf v_finishOf v_isLow v_weightsOf v_weight v_cell v_size v_row v_keptSize v_keptBefore v_keptAfter v_placeA v_placeB v_turned v_turnedMany v_syndromes v_lightest v_freeMany v_freePlace v_freeSyndrome v_ways v_waysKept v_trace v_comesA v_comesB) H := hP
    have hD : va_D A (ww_M q cs v_told v_tell v_sums v_kindOf v_modOf v_bitsOf v_turnOf v_polyOf v_beginOf v_finishOf v_isLow v_weightsOf v_weight v_cell v_size v_row v_keptSize v_keptBefore v_keptAfter v_placeA v_placeB v_turned v_turnedMany v_syndromes v_lightest v_freeMany v_freePlace v_freeSyndrome v_ways v_waysKept v_trace v_comesA v_comesB) := hD
    unfold M_X12_passesFlip_b14 at hm
    refine lv_iload hx hb dX12_passesFlip_14 (lv_at hl 5 rfl) ?_
    refine lv_iload hx hb dX12_passesFlip_16 (lv_at hl 4 rfl) ?_
    refine lv_icmp_ge (tgt := 142) hx hb dX12_passesFlip_18 (by decide) (fun b1 => ?_) (fun b1 => ?_)
    · have hm := i_t b1 hm
      exact hX _ (st_exit hm hst) H locs hP hD hS ls (lv_sub hl [] rfl)
    · have hm := i_f b1 hm
      refine lv_aload_n hx hb dX12_passesFlip_21 rfl (lv_at hl 0 rfl) ?_
      refine va_get (D := G) (ci := 10) (v := .ref (q 18)) (C := RX12) (T := TX12) (N := 33) hx hb hts hinX12 hown hK.1 hP 0 rfl rfl 21 (by decide) wd2 (fun _ h9 => h9) rfl dX12_passesFlip_22 ?_
      refine lv_iconst (v := 0) hx hb dX12_passesFlip_25 (by decide) ?_
      refine lv_iload hx hb dX12_passesFlip_26 (lv_at hl 5 rfl) ?_
      refine va_iast hx hb hK.1 hP hD hS 18 0 rfl rfl (by unfold vp_in; decide) dX12_passesFlip_28 (fun H locs hP hD hS => ?_)
      have hP : va_P G vwCl (ww_M q cs v_told v_tell v_sums v_kindOf v_modOf v_bitsOf v_turnOf v_polyOf v_beginOf v_finishOf v_isLow v_weightsOf v_weight v_cell v_size v_row v_keptSize v_keptBefore v_keptAfter v_placeA v_placeB (upd v_turned (0 : Int32).toNatClampNeg x5) v_turnedMany v_syndromes v_lightest v_freeMany v_freePlace v_freeSyndrome v_ways v_waysKept v_trace v_comesA v_comesB) H := hP
      have hD : va_D A (ww_M q cs v_told v_tell v_sums v_kindOf v_modOf v_bitsOf v_turnOf v_polyOf v_beginOf v_finishOf v_isLow v_weightsOf v_weight v_cell v_size v_row v_keptSize v_keptBefore v_keptAfter v_placeA v_placeB (upd v_turned (0 : Int32).toNatClampNeg x5) v_turnedMany v_syndromes v_lightest v_freeMany v_freePlace v_freeSyndrome v_ways v_waysKept v_trace v_comesA v_comesB) := hD
      refine lv_iload_n hx hb dX12_passesFlip_29 rfl (lv_at hl 2 rfl) ?_
      refine lv_iconst (v := 1) hx hb dX12_passesFlip_30 (by decide) ?_
      refine lv_icmp_ne (tgt := 45) hx hb dX12_passesFlip_31 (by decide) (fun b2 => ?_) (fun b2 => ?_)
      · have hm := i_f b2 hm
        refine lv_iload hx hb dX12_passesFlip_45 (lv_at hl 5 rfl) ?_
        refine lv_iconst (v := 1) hx hb dX12_passesFlip_47 (by decide) ?_
        refine lv_iadd hx hb dX12_passesFlip_48 ?_
        refine lv_istore (lv' := [(6, .int (x5 + 1)), (0, .ref (q 0)), (1, .int x1), (2, .int x2), (3, .int x3), (4, .int x4), (5, .int x5)]) hx hb dX12_passesFlip_49 hl (by decide) rfl (fun ls hl => ?_)
        obtain ⟨u16, hlp16, hm⟩ := bs hm
        refine L51 x1 x2 x3 x4 x5 (x5 + 1) v_keptSize v_keptBefore v_keptAfter (upd v_turned (0 : Int32).toNatClampNeg x5) v_turnedMany v_comesA v_comesB u16 hlp16 (fun r h => by have h2 := se_r h hm; exact hret r (st_exit h2 hst)) (fun o16 ho => ?_) H locs hP hD hS ls (lv_sub hl [1, 2, 3, 4, 5, 6, 0] rfl)
        have hm := se_l ho hm
        intro H locs hP hD hS ls hl
        have hl : lv_has ls 8 [(0, .ref (q 0)), (1, .int x1), (2, .int x2), (3, .int x3), (4, .int x4), (5, .int x5)] := hl
        have hP : va_P G vwCl (ww_M q cs v_told v_tell v_sums v_kindOf v_modOf v_bitsOf v_turnOf v_polyOf v_beginOf v_finishOf v_isLow v_weightsOf v_weight v_cell v_size v_row o16.1 o16.2.1 o16.2.2.1 v_placeA v_placeB o16.2.2.2.1 v_turnedMany v_syndromes v_lightest v_freeMany v_freePlace v_freeSyndrome v_ways v_waysKept v_trace o16.2.2.2.2.1 o16.2.2.2.2.2) H := hP
        have hD : va_D A (ww_M q cs v_told v_tell v_sums v_kindOf v_modOf v_bitsOf v_turnOf v_polyOf v_beginOf v_finishOf v_isLow v_weightsOf v_weight v_cell v_size v_row o16.1 o16.2.1 o16.2.2.1 v_placeA v_placeB o16.2.2.2.1 v_turnedMany v_syndromes v_lightest v_freeMany v_freePlace v_freeSyndrome v_ways v_waysKept v_trace o16.2.2.2.2.1 o16.2.2.2.2.2) := hD
        refine lv_iinc (v := x5 + 1) (lv' := [(5, .int (x5 + 1)), (0, .ref (q 0)), (1, .int x1), (2, .int x2), (3, .int x3), (4, .int x4)]) hx hb dX12_passesFlip_136 hl (k := 5) rfl rfl (by decide) rfl (fun ls hl => ?_)
        refine lv_goto (tgt := 14) hx hb dX12_passesFlip_139 (by decide) ?_
        exact st_next hm hst H locs hP hD hS ls (lv_sub hl [1, 2, 3, 4, 5, 0] rfl)
      · have hm := i_t b2 hm
        refine lv_aload_n hx hb dX12_passesFlip_34 rfl (lv_at hl 0 rfl) ?_
        refine lv_iload_n hx hb dX12_passesFlip_35 rfl (lv_at hl 1 rfl) ?_
        refine lv_iload_n hx hb dX12_passesFlip_36 rfl (lv_at hl 3 rfl) ?_
        obtain ⟨r17, hc_r17, hm⟩ := bs hm
        refine k_calli (va_runV (As := [.int x1, .int x3]) (rest := []) ⟨hx, hb, hml, hown, hts⟩ (c_X12_passesTurned l G cs q H.size v_told v_tell v_sums v_kindOf v_modOf v_bitsOf v_turnOf v_polyOf v_beginOf v_finishOf v_isLow v_weightsOf v_weight v_cell v_size v_row v_keptSize v_keptBefore v_keptAfter v_placeA v_placeB (upd v_turned (0 : Int32).toNatClampNeg x5) v_turnedMany v_syndromes v_lightest v_freeMany v_freePlace v_freeSyndrome v_ways v_waysKept v_trace v_comesA v_comesB   x1 x3 n r17 hc_r17) (cwV 2 hts gX12_passesFlip_X12_passesTurned rfl rfl rfl ⟨rfl, hd_X12_passesTurned⟩ ⟨Nat.le_of_ble_eq_true rfl, Nat.le_of_ble_eq_true rfl⟩) ⟨pre_blind, va_recv hK.1 hP (ci := 10) (q0 := 0) rfl rfl, pre_w hK RO.nil hP hD (va_all hD hS hA)⟩ rfl rfl hl.1 rfl (lv_room (Nat.le_of_ble_eq_true rfl)) dX12_passesFlip_37 ⟨Nat.zero_le _, Nat.zero_le _⟩) hS (va_all hD hS hA) (fun hE18 H locs hP hD hS => ?_)
        have hP : va_P G vwCl (ww_M q cs v_told v_tell v_sums v_kindOf v_modOf v_bitsOf v_turnOf v_polyOf v_beginOf v_finishOf v_isLow v_weightsOf v_weight v_cell v_size v_row r17.2.1 r17.2.2.1 r17.2.2.2.1 v_placeA v_placeB (upd v_turned (0 : Int32).toNatClampNeg x5) v_turnedMany v_syndromes v_lightest v_freeMany v_freePlace v_freeSyndrome v_ways v_waysKept v_trace r17.2.2.2.2.1 r17.2.2.2.2.2) H := hP
        have hD : va_D A (ww_M q cs v_told v_tell v_sums v_kindOf v_modOf v_bitsOf v_turnOf v_polyOf v_beginOf v_finishOf v_isLow v_weightsOf v_weight v_cell v_size v_row r17.2.1 r17.2.2.1 r17.2.2.2.1 v_placeA v_placeB (upd v_turned (0 : Int32).toNatClampNeg x5) v_turnedMany v_syndromes v_lightest v_freeMany v_freePlace v_freeSyndrome v_ways v_waysKept v_trace r17.2.2.2.2.1 r17.2.2.2.2.2) := hD
        refine lv_if_eq (tgt := 45) hx hb dX12_passesFlip_40 (by decide) (fun b19 => ?_) (fun b19 => ?_)
        · have hm := i_t b19 hm
          refine lv_iload hx hb dX12_passesFlip_45 (lv_at hl 5 rfl) ?_
          refine lv_iconst (v := 1) hx hb dX12_passesFlip_47 (by decide) ?_
          refine lv_iadd hx hb dX12_passesFlip_48 ?_
          refine lv_istore (lv' := [(6, .int (x5 + 1)), (0, .ref (q 0)), (1, .int x1), (2, .int x2), (3, .int x3), (4, .int x4), (5, .int x5)]) hx hb dX12_passesFlip_49 hl (by decide) rfl (fun ls hl => ?_)
          obtain ⟨u20, hlp20, hm⟩ := bs hm
          refine L51 x1 x2 x3 x4 x5 (x5 + 1) r17.2.1 r17.2.2.1 r17.2.2.2.1 (upd v_turned (0 : Int32).toNatClampNeg x5) v_turnedMany r17.2.2.2.2.1 r17.2.2.2.2.2 u20 hlp20 (fun r h => by have h2 := se_r h hm; exact hret r (st_exit h2 hst)) (fun o20 ho => ?_) H locs hP hD hS ls (lv_sub hl [1, 2, 3, 4, 5, 6, 0] rfl)
          have hm := se_l ho hm
          intro H locs hP hD hS ls hl
          have hl : lv_has ls 8 [(0, .ref (q 0)), (1, .int x1), (2, .int x2), (3, .int x3), (4, .int x4), (5, .int x5)] := hl
          have hP : va_P G vwCl (ww_M q cs v_told v_tell v_sums v_kindOf v_modOf v_bitsOf v_turnOf v_polyOf v_beginOf v_finishOf v_isLow v_weightsOf v_weight v_cell v_size v_row o20.1 o20.2.1 o20.2.2.1 v_placeA v_placeB o20.2.2.2.1 v_turnedMany v_syndromes v_lightest v_freeMany v_freePlace v_freeSyndrome v_ways v_waysKept v_trace o20.2.2.2.2.1 o20.2.2.2.2.2) H := hP
          have hD : va_D A (ww_M q cs v_told v_tell v_sums v_kindOf v_modOf v_bitsOf v_turnOf v_polyOf v_beginOf v_finishOf v_isLow v_weightsOf v_weight v_cell v_size v_row o20.1 o20.2.1 o20.2.2.1 v_placeA v_placeB o20.2.2.2.1 v_turnedMany v_syndromes v_lightest v_freeMany v_freePlace v_freeSyndrome v_ways v_waysKept v_trace o20.2.2.2.2.1 o20.2.2.2.2.2) := hD
          refine lv_iinc (v := x5 + 1) (lv' := [(5, .int (x5 + 1)), (0, .ref (q 0)), (1, .int x1), (2, .int x2), (3, .int x3), (4, .int x4)]) hx hb dX12_passesFlip_136 hl (k := 5) rfl rfl (by decide) rfl (fun ls hl => ?_)
          refine lv_goto (tgt := 14) hx hb dX12_passesFlip_139 (by decide) ?_
          exact st_next hm hst H locs hP hD hS ls (lv_sub hl [1, 2, 3, 4, 5, 0] rfl)
        · have hm := i_f b19 hm
          refine lv_iconst (v := 1) hx hb dX12_passesFlip_43 (by decide) ?_
          have hq := hret _ (st_exit hm hst)
          subst hq; subst hQ
          exact k_zret hx hb hr hlocks hP hD hS rfl (by decide) dX12_passesFlip_44
  unfold M_X12_passesFlip at hm
  refine lv_bipush (v := 8) hx hb dX12_passesFlip_0 (by decide) ?_
  refine lv_iload_n hx hb dX12_passesFlip_2 rfl (lv_at hl 3 rfl) ?_
  refine lv_imul hx hb dX12_passesFlip_3 ?_
  refine lv_istore (lv' := [(4, .int (8 * x3)), (0, .ref (q 0)), (1, .int x1), (2, .int x2), (3, .int x3)]) hx hb dX12_passesFlip_4 hl (by decide) rfl (fun ls hl => ?_)
  refine lv_aload_n hx hb dX12_passesFlip_6 rfl (lv_at hl 1 rfl) ?_
  refine lv_iload_n hx hb dX12_passesFlip_7 rfl (lv_at hl 3 rfl) ?_
  refine va_put (D := G) (ci := 10) (v := .int x2) (ty := .int) (C := RX12) (T := TX12) (N := 33) hx hb hts hinX12 tyX12 tyX12_ok nmX12 hown hK.1 hP hD hS 0 rfl rfl 22 (by decide) wd1 (fun _ h9 => h9) rfl (by decide +kernel) rfl rfl (Nat.le_of_ble_eq_true rfl) dX12_passesFlip_8 (fun H locs hP hD hS => ?_)
  have hP : va_P G vwCl (ww_M q cs v_told v_tell v_sums v_kindOf v_modOf v_bitsOf v_turnOf v_polyOf v_beginOf v_finishOf v_isLow v_weightsOf v_weight v_cell v_size v_row v_keptSize v_keptBefore v_keptAfter v_placeA v_placeB v_turned x2 v_syndromes v_lightest v_freeMany v_freePlace v_freeSyndrome v_ways v_waysKept v_trace v_comesA v_comesB) H := hP
  have hD : va_D A (ww_M q cs v_told v_tell v_sums v_kindOf v_modOf v_bitsOf v_turnOf v_polyOf v_beginOf v_finishOf v_isLow v_weightsOf v_weight v_cell v_size v_row v_keptSize v_keptBefore v_keptAfter v_placeA v_placeB v_turned x2 v_syndromes v_lightest v_freeMany v_freePlace v_freeSyndrome v_ways v_waysKept v_trace v_comesA v_comesB) := hD
  refine lv_iconst (v := 0) hx hb dX12_passesFlip_11 (by decide) ?_
  refine lv_istore (lv' := [(5, .int 0), (4, .int (8 * x3)), (0, .ref (q 0)), (1, .int x1), (2, .int x2), (3, .int x3)]) hx hb dX12_passesFlip_12 hl (by decide) rfl (fun ls hl => ?_)
  obtain ⟨u21, hlp21, hm⟩ := bs hm
  refine L14 x1 x2 x3 (8 * x3) (0 : Int32) v_keptSize v_keptBefore v_keptAfter v_turned x2 v_comesA v_comesB u21 hlp21 (fun r h => Option.some.inj (se_r h hm)) (fun o21 ho => ?_) H locs hP hD hS ls (lv_sub hl [2, 3, 4, 5, 1, 0] rfl)
  have hm := se_l ho hm
  intro H locs hP hD hS ls hl
  have hl : lv_has ls 8 [] := hl
  have hP : va_P G vwCl (ww_M q cs v_told v_tell v_sums v_kindOf v_modOf v_bitsOf v_turnOf v_polyOf v_beginOf v_finishOf v_isLow v_weightsOf v_weight v_cell v_size v_row o21.1 o21.2.1 o21.2.2.1 v_placeA v_placeB o21.2.2.2.1 x2 v_syndromes v_lightest v_freeMany v_freePlace v_freeSyndrome v_ways v_waysKept v_trace o21.2.2.2.2.1 o21.2.2.2.2.2) H := hP
  have hD : va_D A (ww_M q cs v_told v_tell v_sums v_kindOf v_modOf v_bitsOf v_turnOf v_polyOf v_beginOf v_finishOf v_isLow v_weightsOf v_weight v_cell v_size v_row o21.1 o21.2.1 o21.2.2.1 v_placeA v_placeB o21.2.2.2.1 x2 v_syndromes v_lightest v_freeMany v_freePlace v_freeSyndrome v_ways v_waysKept v_trace o21.2.2.2.2.1 o21.2.2.2.2.2) := hD
  refine lv_iconst (v := 0) hx hb dX12_passesFlip_142 (by decide) ?_
  have hq := Option.some.inj hm
  subst hq; subst hQ
  exact k_zret hx hb hr hlocks hP hD hS rfl (by decide) dX12_passesFlip_143

theorem hd_X12_passesBurst : yX12_passesBurst.cls ≠ "java/lang/invoke/MethodHandle" ∧ yX12_passesBurst.cls ≠ "java/lang/invoke/VarHandle" ∧ (parseMethodDescriptor yX12_passesBurst.desc).map (fun d => d.parameters.length) = some 3 := by decide +kernel

def M_X12_passesBurst_b56 (n : Nat) (x4 : Int32) (x5 : Int32) (x6 : Int32) (x7 : Int32) (v_turned : (Nat → Int32)) (v_turnedMany : Int32) : Option ((Int32 × (Nat → Int32) × Int32) ⊕ ((Nat → Int32) × Int32)) :=
  if x4 ≤ x7 then (some (.inr (v_turned, v_turnedMany))) else (if ((x6 >>> (((x4 - 1) - x7) &&& 31)) &&& 1) = 1 then (if v_turnedMany < 0 ∨ 8 ≤ v_turnedMany.toNatClampNeg then none else some (.inl (x7 + 1, (upd v_turned v_turnedMany.toNatClampNeg ((x5 + 1) + x7)), (v_turnedMany + 1)))) else (some (.inl (x7 + 1, v_turned, v_turnedMany))))

def M_X12_passesBurst_b31 (n : Nat) (x1 : Int32) (x2 : Int32) (x3 : Int32) (x4 : Int32) (x5 : Int32) (v_kindOf : (Nat → Int32)) (v_modOf : (Nat → Int32)) (v_placeA : (Nat → Int64)) (v_placeB : (Nat → Int64)) (x6 : Int32) (v_keptSize : Int32) (v_keptBefore : (Nat → Int32)) (v_keptAfter : (Nat → Int32)) (v_turned : (Nat → Int32)) (v_turnedMany : Int32) (v_comesA : Int64) (v_comesB : Int64) : Option ((Int32 × Int32 × (Nat → Int32) × (Nat → Int32) × (Nat → Int32) × Int32 × Int64 × Int64) ⊕ ((Int32 × (Nat → Int32) × (Nat → Int32) × (Nat → Int32) × Int32 × Int64 × Int64) ⊕ (Int32 × Int32 × (Nat → Int32) × (Nat → Int32) × (Nat → Int32) × Int32 × Int64 × Int64))) :=
  if ((1 : Int32) <<< (x4 &&& 31)) ≤ x6 then (some (.inr (.inl (v_keptSize, v_keptBefore, v_keptAfter, v_turned, v_turnedMany, v_comesA, v_comesB)))) else ((lp (fun x : (Int32 × (Nat → Int32) × Int32) => M_X12_passesBurst_b56 n x4 x5 x6 x.1 x.2.1 x.2.2) n ((0 : Int32), (upd v_turned (0 : Int32).toNatClampNeg x5), (1 : Int32))).bind fun o7 => if x2 ≤ 1 then ((M_X12_passesTurned n x1 x3 v_kindOf v_modOf v_keptSize v_keptBefore v_keptAfter v_placeA v_placeB o7.1 o7.2 v_comesA v_comesB).bind fun r9 => if r9.1 = 0 then (some (.inl (x6 + 1, r9.2.1, r9.2.2.1, r9.2.2.2.1, o7.1, o7.2, r9.2.2.2.2.1, r9.2.2.2.2.2))) else (some (.inr (.inr (1, r9.2.1, r9.2.2.1, r9.2.2.2.1, o7.1, o7.2, r9.2.2.2.2.1, r9.2.2.2.2.2))))) else (if o7.2 < 0 ∨ 8 ≤ o7.2.toNatClampNeg then none else (M_X12_passesTurned n x1 x3 v_kindOf v_modOf v_keptSize v_keptBefore v_keptAfter v_placeA v_placeB (upd o7.1 o7.2.toNatClampNeg ((x5 + x2) - 1)) (o7.2 + 1) v_comesA v_comesB).bind fun r13 => if r13.1 = 0 then (some (.inl (x6 + 1, r13.2.1, r13.2.2.1, r13.2.2.2.1, (upd o7.1 o7.2.toNatClampNeg ((x5 + x2) - 1)), (o7.2 + 1), r13.2.2.2.2.1, r13.2.2.2.2.2))) else (some (.inr (.inr (1, r13.2.1, r13.2.2.1, r13.2.2.2.1, (upd o7.1 o7.2.toNatClampNeg ((x5 + x2) - 1)), (o7.2 + 1), r13.2.2.2.2.1, r13.2.2.2.2.2))))))

def M_X12_passesBurst_b17 (n : Nat) (x1 : Int32) (x2 : Int32) (x3 : Int32) (x4 : Int32) (v_kindOf : (Nat → Int32)) (v_modOf : (Nat → Int32)) (v_placeA : (Nat → Int64)) (v_placeB : (Nat → Int64)) (x5 : Int32) (v_keptSize : Int32) (v_keptBefore : (Nat → Int32)) (v_keptAfter : (Nat → Int32)) (v_turned : (Nat → Int32)) (v_turnedMany : Int32) (v_comesA : Int64) (v_comesB : Int64) : Option ((Int32 × Int32 × (Nat → Int32) × (Nat → Int32) × (Nat → Int32) × Int32 × Int64 × Int64) ⊕ ((Int32 × (Nat → Int32) × (Nat → Int32) × (Nat → Int32) × Int32 × Int64 × Int64) ⊕ (Int32 × Int32 × (Nat → Int32) × (Nat → Int32) × (Nat → Int32) × Int32 × Int64 × Int64))) :=
  if (8 * x3) < (x5 + x2) then (some (.inr (.inl (v_keptSize, v_keptBefore, v_keptAfter, v_turned, v_turnedMany, v_comesA, v_comesB)))) else ((lp (fun x : (Int32 × Int32 × (Nat → Int32) × (Nat → Int32) × (Nat → Int32) × Int32 × Int64 × Int64) => M_X12_passesBurst_b31 n x1 x2 x3 x4 x5 v_kindOf v_modOf v_placeA v_placeB x.1 x.2.1 x.2.2.1 x.2.2.2.1 x.2.2.2.2.1 x.2.2.2.2.2.1 x.2.2.2.2.2.2.1 x.2.2.2.2.2.2.2) n ((0 : Int32), v_keptSize, v_keptBefore, v_keptAfter, v_turned, v_turnedMany, v_comesA, v_comesB)).bind (Sum.elim (fun o16 => some (.inl (x5 + 1, o16.1, o16.2.1, o16.2.2.1, o16.2.2.2.1, o16.2.2.2.2.1, o16.2.2.2.2.2.1, o16.2.2.2.2.2.2))) (fun r => some (.inr (.inr r)))))

def M_X12_passesBurst (n : Nat) (x1 : Int32) (x2 : Int32) (x3 : Int32) (v_kindOf : (Nat → Int32)) (v_modOf : (Nat → Int32)) (v_keptSize : Int32) (v_keptBefore : (Nat → Int32)) (v_keptAfter : (Nat → Int32)) (v_placeA : (Nat → Int64)) (v_placeB : (Nat → Int64)) (v_turned : (Nat → Int32)) (v_turnedMany : Int32) (v_comesA : Int64) (v_comesB : Int64) : Option (Int32 × Int32 × (Nat → Int32) × (Nat → Int32) × (Nat → Int32) × Int32 × Int64 × Int64) :=
  if x2 ≤ 2 then ((lp (fun x : (Int32 × Int32 × (Nat → Int32) × (Nat → Int32) × (Nat → Int32) × Int32 × Int64 × Int64) => M_X12_passesBurst_b17 n x1 x2 x3 (0 : Int32) v_kindOf v_modOf v_placeA v_placeB x.1 x.2.1 x.2.2.1 x.2.2.2.1 x.2.2.2.2.1 x.2.2.2.2.2.1 x.2.2.2.2.2.2.1 x.2.2.2.2.2.2.2) n ((0 : Int32), v_keptSize, v_keptBefore, v_keptAfter, v_turned, v_turnedMany, v_comesA, v_comesB)).bind (Sum.elim (fun o17 => some (0, o17.1, o17.2.1, o17.2.2.1, o17.2.2.2.1, o17.2.2.2.2.1, o17.2.2.2.2.2.1, o17.2.2.2.2.2.2)) (fun r => some r))) else ((lp (fun x : (Int32 × Int32 × (Nat → Int32) × (Nat → Int32) × (Nat → Int32) × Int32 × Int64 × Int64) => M_X12_passesBurst_b17 n x1 x2 x3 (x2 - 2) v_kindOf v_modOf v_placeA v_placeB x.1 x.2.1 x.2.2.1 x.2.2.2.1 x.2.2.2.2.1 x.2.2.2.2.2.1 x.2.2.2.2.2.2.1 x.2.2.2.2.2.2.2) n ((0 : Int32), v_keptSize, v_keptBefore, v_keptAfter, v_turned, v_turnedMany, v_comesA, v_comesB)).bind (Sum.elim (fun o18 => some (0, o18.1, o18.2.1, o18.2.2.1, o18.2.2.2.1, o18.2.2.2.2.1, o18.2.2.2.2.2.1, o18.2.2.2.2.2.2)) (fun r => some r)))

abbrev rmX12_passesBurst : Room := { frames := 3, cells := 0, slots := 0, locals := 70 }
set_option maxHeartbeats 4000000 in
set_option maxRecDepth 100000 in
theorem c_X12_passesBurst (l : Launch) (G : va_G) (cs : CS) (q : Nat → Nat) (sz : Nat) (v_told : Int32) (v_tell : (Nat → Int32)) (v_sums : Int32) (v_kindOf : (Nat → Int32)) (v_modOf : (Nat → Int32)) (v_bitsOf : (Nat → Int32)) (v_turnOf : (Nat → Int32)) (v_polyOf : (Nat → Int64)) (v_beginOf : (Nat → Int64)) (v_finishOf : (Nat → Int64)) (v_isLow : (Nat → Int32)) (v_weightsOf : (Nat → Int32)) (v_weight : (Nat → Int32)) (v_cell : (Nat → Int32)) (v_size : Int32) (v_row : (Nat → Int32)) (v_keptSize : Int32) (v_keptBefore : (Nat → Int32)) (v_keptAfter : (Nat → Int32)) (v_placeA : (Nat → Int64)) (v_placeB : (Nat → Int64)) (v_turned : (Nat → Int32)) (v_turnedMany : Int32) (v_syndromes : (Nat → Int64)) (v_lightest : (Nat → Int32)) (v_freeMany : Int32) (v_freePlace : (Nat → Int32)) (v_freeSyndrome : (Nat → Int64)) (v_ways : (Nat → Int32)) (v_waysKept : Int32) (v_trace : (Nat → Int32)) (v_comesA : Int64) (v_comesB : Int64)   (x1 : Int32) (x2 : Int32) (x3 : Int32) (n : Nat) (res : (Int32 × Int32 × (Nat → Int32) × (Nat → Int32) × (Nat → Int32) × Int32 × Int64 × Int64)) (hm : M_X12_passesBurst n x1 x2 x3 v_kindOf v_modOf v_keptSize v_keptBefore v_keptAfter v_placeA v_placeB v_turned v_turnedMany v_comesA v_comesB = some res) : Met l yX12_passesBurst wsX12_passesBurst rmX12_passesBurst (va_Pc [.ref (q 0), .int x1, .int x2, .int x3] (PreW G cs sz (ww_M q cs v_told v_tell v_sums v_kindOf v_modOf v_bitsOf v_turnOf v_polyOf v_beginOf v_finishOf v_isLow v_weightsOf v_weight v_cell v_size v_row v_keptSize v_keptBefore v_keptAfter v_placeA v_placeB v_turned v_turnedMany v_syndromes v_lightest v_freeMany v_freePlace v_freeSyndrome v_ways v_waysKept v_trace v_comesA v_comesB) RN)) (QI G res.1 (res.1 = 0 ∨ res.1 = 1) (ww_M q cs v_told v_tell v_sums v_kindOf v_modOf v_bitsOf v_turnOf v_polyOf v_beginOf v_finishOf v_isLow v_weightsOf v_weight v_cell v_size v_row res.2.1 res.2.2.1 res.2.2.2.1 v_placeA v_placeB res.2.2.2.2.1 res.2.2.2.2.2.1 v_syndromes v_lightest v_freeMany v_freePlace v_freeSyndrome v_ways v_waysKept v_trace res.2.2.2.2.2.2.1 res.2.2.2.2.2.2.2) (va_A (ww_M q cs v_told v_tell v_sums v_kindOf v_modOf v_bitsOf v_turnOf v_polyOf v_beginOf v_finishOf v_isLow v_weightsOf v_weight v_cell v_size v_row v_keptSize v_keptBefore v_keptAfter v_placeA v_placeB v_turned v_turnedMany v_syndromes v_lightest v_freeMany v_freePlace v_freeSyndrome v_ways v_waysKept v_trace v_comesA v_comesB) sz)) 0 0 (va_A (ww_M q cs v_told v_tell v_sums v_kindOf v_modOf v_bitsOf v_turnOf v_polyOf v_beginOf v_finishOf v_isLow v_weightsOf v_weight v_cell v_size v_row v_keptSize v_keptBefore v_keptAfter v_placeA v_placeB v_turned v_turnedMany v_syndromes v_lightest v_freeMany v_freePlace v_freeSyndrome v_ways v_waysKept v_trace v_comesA v_comesB) sz) := by
  refine k_enter (Qf := fun A => QI G res.1 (res.1 = 0 ∨ res.1 = 1) (ww_M q cs v_told v_tell v_sums v_kindOf v_modOf v_bitsOf v_turnOf v_polyOf v_beginOf v_finishOf v_isLow v_weightsOf v_weight v_cell v_size v_row res.2.1 res.2.2.1 res.2.2.2.1 v_placeA v_placeB res.2.2.2.2.1 res.2.2.2.2.2.1 v_syndromes v_lightest v_freeMany v_freePlace v_freeSyndrome v_ways v_waysKept v_trace res.2.2.2.2.2.2.1 res.2.2.2.2.2.2.2) A) (cc := cX12_passesBurst) (maxL := 8) (ret := (some .boolean)) (plainFor_of_name (by decide)) rfl (Nat.le_of_ble_eq_true rfl) ?_
  intro p e s m args below meth c A Q ls H locs hx hb hr hml hown hts hlocks hname hK hA hRo hP hD hS hQ hl
  have hl : lv_has ls 8 [(0, .ref (q 0)), (1, .int x1), (2, .int x2), (3, .int x3)] := hl
  have wd1 := hts (.fieldLink RX12 193 "SumSmithModel" "turnedMany" "I") (List.mem_of_getElem? (i := 1) rfl)
  have wd2 := hts (.fieldLink RX12 63 "SumSmithModel" "turned" "[I") (List.mem_of_getElem? (i := 2) rfl)
  have hinX12 : ∀ w ∈ wsX120, w ∈ wsX12_passesBurst := fun w h => List.mem_cons_of_mem _ (List.mem_append_right _ h)
  have L56 : ∀ (x1 : Int32) (x2 : Int32) (x3 : Int32) (x4 : Int32) (x5 : Int32) (x6 : Int32) (x7 : Int32) (v_keptSize : Int32) (v_keptBefore : (Nat → Int32)) (v_keptAfter : (Nat → Int32)) (v_turned : (Nat → Int32)) (v_turnedMany : Int32) (v_comesA : Int64) (v_comesB : Int64) (out : ((Nat → Int32) × Int32)), lp (fun x : (Int32 × (Nat → Int32) × Int32) => M_X12_passesBurst_b56 n x4 x5 x6 x.1 x.2.1 x.2.2) n (x7, v_turned, v_turnedMany) = some out → (∀ (o : ((Nat → Int32) × Int32)), out = o → ∀ (H : Heap) (locs : List Loc), va_P G vwCl (ww_M q cs v_told v_tell v_sums v_kindOf v_modOf v_bitsOf v_turnOf v_polyOf v_beginOf v_finishOf v_isLow v_weightsOf v_weight v_cell v_size v_row v_keptSize v_keptBefore v_keptAfter v_placeA v_placeB o.1 o.2 v_syndromes v_lightest v_freeMany v_freePlace v_freeSyndrome v_ways v_waysKept v_trace v_comesA v_comesB) H → va_D A (ww_M q cs v_told v_tell v_sums v_kindOf v_modOf v_bitsOf v_turnOf v_polyOf v_beginOf v_finishOf v_isLow v_weightsOf v_weight v_cell v_size v_row v_keptSize v_keptBefore v_keptAfter v_placeA v_placeB o.1 o.2 v_syndromes v_lightest v_freeMany v_freePlace v_freeSyndrome v_ways v_waysKept v_trace v_comesA v_comesB) → va_S A s.heap H locs → ∀ (ls : Array Slot), lv_has ls 8 [(0, .ref (q 0)), (1, .int x1), (2, .int x2), (3, .int x3), (4, .int x4), (5, .int x5), (6, .int x6)] → W p l e rmX12_passesBurst s m args below meth c H locs 0 0 Q (F0 m 111 ls [])) → ∀ (H : Heap) (locs : List Loc), va_P G vwCl (ww_M q cs v_told v_tell v_sums v_kindOf v_modOf v_bitsOf v_turnOf v_polyOf v_beginOf v_finishOf v_isLow v_weightsOf v_weight v_cell v_size v_row v_keptSize v_keptBefore v_keptAfter v_placeA v_placeB v_turned v_turnedMany v_syndromes v_lightest v_freeMany v_freePlace v_freeSyndrome v_ways v_waysKept v_trace v_comesA v_comesB) H → va_D A (ww_M q cs v_told v_tell v_sums v_kindOf v_modOf v_bitsOf v_turnOf v_polyOf v_beginOf v_finishOf v_isLow v_weightsOf v_weight v_cell v_size v_row v_keptSize v_keptBefore v_keptAfter v_placeA v_placeB v_turned v_turnedMany v_syndromes v_lightest v_freeMany v_freePlace v_freeSyndrome v_ways v_waysKept v_trace v_comesA v_comesB) → va_S A s.heap H locs → ∀ (ls : Array Slot), lv_has ls 8 [(0, .ref (q 0)), (1, .int x1), (2, .int x2), (3, .int x3), (4, .int x4), (5, .int x5), (6, .int x6), (7, .int x7)] → W p l e rmX12_passesBurst s m args below meth c H locs 0 0 Q (F0 m 56 ls []) := by
    intro x1 x2 x3 x4 x5 x6 x7 v_keptSize v_keptBefore v_keptAfter v_turned v_turnedMany v_comesA v_comesB out hlp hX
    refine lp_ind (fun x => ∀ (H : Heap) (locs : List Loc), va_P G vwCl (ww_M q cs v_told v_tell v_sums v_kindOf v_modOf v_bitsOf v_turnOf v_polyOf v_beginOf v_finishOf v_isLow v_weightsOf v_weight v_cell v_size v_row v_keptSize v_keptBefore v_keptAfter v_placeA v_placeB x.2.1 x.2.2 v_syndromes v_lightest v_freeMany v_freePlace v_freeSyndrome v_ways v_waysKept v_trace v_comesA v_comesB) H → va_D A (ww_M q cs v_told v_tell v_sums v_kindOf v_modOf v_bitsOf v_turnOf v_polyOf v_beginOf v_finishOf v_isLow v_weightsOf v_weight v_cell v_size v_row v_keptSize v_keptBefore v_keptAfter v_placeA v_placeB x.2.1 x.2.2 v_syndromes v_lightest v_freeMany v_freePlace v_freeSyndrome v_ways v_waysKept v_trace v_comesA v_comesB) → va_S A s.heap H locs → ∀ (ls : Array Slot), lv_has ls 8 [(0, .ref (q 0)), (1, .int x1), (2, .int x2), (3, .int x3), (4, .int x4), (5, .int x5), (6, .int x6), (7, .int x.1)] → W p l e rmX12_passesBurst s m args below meth c H locs 0 0 Q (F0 m 56 ls [])) ?_ n (x7, v_turned, v_turnedMany) hlp
    clear hlp hP hD hS hl
    rintro ⟨x7, v_turned, v_turnedMany⟩ ob hm hst H locs hP hD hS ls hl
    have hm : M_X12_passesBurst_b56 n x4 x5 x6 x7 v_turned v_turnedMany = some ob := hm
    have hl : lv_has ls 8 [(0, .ref (q 0)), (1, .int x1), (2, .int x2), (3, .int x3), (4, .int x4), (5, .int x5), (6, .int x6), (7, .int x7)] := hl
    have hP : va_P G vwCl (ww_M q cs v_told v_tell v_sums v_kindOf v_modOf v_bitsOf v_turnOf v_polyOf v_beginOf v_finishOf v_isLow v_weightsOf v_weight v_cell v_size v_row v_keptSize v_keptBefore v_keptAfter v_placeA v_placeB v_turned v_turnedMany v_syndromes v_lightest v_freeMany v_freePlace v_freeSyndrome v_ways v_waysKept v_trace v_comesA v_comesB) H := hP
    have hD : va_D A (ww_M q cs v_told v_tell v_sums v_kindOf v_modOf v_bitsOf v_turnOf v_polyOf v_beginOf v_finishOf v_isLow v_weightsOf v_weight v_cell v_size v_row v_keptSize v_keptBefore v_keptAfter v_placeA v_placeB v_turned v_turnedMany v_syndromes v_lightest v_freeMany v_freePlace v_freeSyndrome v_ways v_waysKept v_trace v_comesA v_comesB) := hD
    unfold M_X12_passesBurst_b56 at hm
    refine lv_iload hx hb dX12_passesBurst_56 (lv_at hl 7 rfl) ?_
    refine lv_iload hx hb dX12_passesBurst_58 (lv_at hl 4 rfl) ?_
    refine lv_icmp_ge (tgt := 111) hx hb dX12_passesBurst_60 (by decide) (fun b4 => ?_) (fun b4 => ?_)
    · have hm := i_t b4 hm
      exact hX _ (st_exit hm hst) H locs hP hD hS ls (lv_sub hl [0, 1, 2, 3, 4, 5, 6] rfl)
    · have hm := i_f b4 hm
      refine lv_iload hx hb dX12_passesBurst_63 (lv_at hl 6 rfl) ?_
      refine lv_iload hx hb dX12_passesBurst_65 (lv_at hl 4 rfl) ?_
      refine lv_iconst (v := 1) hx hb dX12_passesBurst_67 (by decide) ?_
      refine lv_isub hx hb dX12_passesBurst_68 ?_
      refine lv_iload hx hb dX12_passesBurst_69 (lv_at hl 7 rfl) ?_
      refine lv_isub hx hb dX12_passesBurst_71 ?_
      refine lv_ishr hx hb dX12_passesBurst_72 ?_
      refine lv_iconst (v := 1) hx hb dX12_passesBurst_73 (by decide) ?_
      refine lv_iand hx hb dX12_passesBurst_74 ?_
      refine lv_iconst (v := 1) hx hb dX12_passesBurst_75 (by decide) ?_
      refine lv_icmp_ne (tgt := 105) hx hb dX12_passesBurst_76 (by decide) (fun b5 => ?_) (fun b5 => ?_)
      · have hm := i_f b5 hm
        refine lv_iinc (v := x7 + 1) (lv' := [(7, .int (x7 + 1)), (0, .ref (q 0)), (1, .int x1), (2, .int x2), (3, .int x3), (4, .int x4), (5, .int x5), (6, .int x6)]) hx hb dX12_passesBurst_105 hl (k := 7) rfl rfl (by decide) rfl (fun ls hl => ?_)
        refine lv_goto (tgt := 56) hx hb dX12_passesBurst_108 (by decide) ?_
        exact st_next hm hst H locs hP hD hS ls (lv_sub hl [1, 2, 3, 4, 5, 6, 7, 0] rfl)
      · have hm := i_t b5 hm
        refine lv_aload_n hx hb dX12_passesBurst_79 rfl (lv_at hl 0 rfl) ?_
        refine va_get (D := G) (ci := 10) (v := .ref (q 18)) (C := RX12) (T := TX12) (N := 33) hx hb hts hinX12 hown hK.1 hP 0 rfl rfl 21 (by decide) wd2 (fun _ h9 => h9) rfl dX12_passesBurst_80 ?_
        refine lv_aload_n hx hb dX12_passesBurst_83 rfl (lv_at hl 0 rfl) ?_
        refine va_get (D := G) (ci := 10) (v := .int v_turnedMany) (C := RX12) (T := TX12) (N := 33) hx hb hts hinX12 hown hK.1 hP 0 rfl rfl 22 (by decide) wd1 (fun _ h9 => h9) rfl dX12_passesBurst_84 ?_
        refine lv_iload hx hb dX12_passesBurst_87 (lv_at hl 5 rfl) ?_
        refine lv_iconst (v := 1) hx hb dX12_passesBurst_89 (by decide) ?_
        refine lv_iadd hx hb dX12_passesBurst_90 ?_
        refine lv_iload hx hb dX12_passesBurst_91 (lv_at hl 7 rfl) ?_
        refine lv_iadd hx hb dX12_passesBurst_93 ?_
        obtain ⟨h6, hm⟩ := g_in hm
        refine va_iast hx hb hK.1 hP hD hS 18 0 rfl rfl h6 dX12_passesBurst_94 (fun H locs hP hD hS => ?_)
        have hP : va_P G vwCl (ww_M q cs v_told v_tell v_sums v_kindOf v_modOf v_bitsOf v_turnOf v_polyOf v_beginOf v_finishOf v_isLow v_weightsOf v_weight v_cell v_size v_row v_keptSize v_keptBefore v_keptAfter v_placeA v_placeB (upd v_turned v_turnedMany.toNatClampNeg ((x5 + 1) + x7)) v_turnedMany v_syndromes v_lightest v_freeMany v_freePlace v_freeSyndrome v_ways v_waysKept v_trace v_comesA v_comesB) H := hP
        have hD : va_D A (ww_M q cs v_told v_tell v_sums v_kindOf v_modOf v_bitsOf v_turnOf v_polyOf v_beginOf v_finishOf v_isLow v_weightsOf v_weight v_cell v_size v_row v_keptSize v_keptBefore v_keptAfter v_placeA v_placeB (upd v_turned v_turnedMany.toNatClampNeg ((x5 + 1) + x7)) v_turnedMany v_syndromes v_lightest v_freeMany v_freePlace v_freeSyndrome v_ways v_waysKept v_trace v_comesA v_comesB) := hD
        refine lv_aload_n hx hb dX12_passesBurst_95 rfl (lv_at hl 0 rfl) ?_
        refine lv_dup hx hb dX12_passesBurst_96 rfl ?_
        refine va_get (D := G) (ci := 10) (v := .int v_turnedMany) (C := RX12) (T := TX12) (N := 33) hx hb hts hinX12 hown hK.1 hP 0 rfl rfl 22 (by decide) wd1 (fun _ h9 => h9) rfl dX12_passesBurst_97 ?_
        refine lv_iconst (v := 1) hx hb dX12_passesBurst_100 (by decide) ?_
        refine lv_iadd hx hb dX12_passesBurst_101 ?_
        refine va_put (D := G) (ci := 10) (v := .int (v_turnedMany + 1)) (ty := .int) (C := RX12) (T := TX12) (N := 33) hx hb hts hinX12 tyX12 tyX12_ok nmX12 hown hK.1 hP hD hS 0 rfl rfl 22 (by decide) wd1 (fun _ h9 => h9) rfl (by decide +kernel) rfl rfl (Nat.le_of_ble_eq_true rfl) dX12_passesBurst_102 (fun H locs hP hD hS => ?_)
        have hP : va_P G vwCl (ww_M q cs v_told v_tell v_sums v_kindOf v_modOf v_bitsOf v_turnOf v_polyOf v_beginOf v_finishOf v_isLow v_weightsOf v_weight v_cell v_size v_row v_keptSize v_keptBefore v_keptAfter v_placeA v_placeB (upd v_turned v_turnedMany.toNatClampNeg ((x5 + 1) + x7)) (v_turnedMany + 1) v_syndromes v_lightest v_freeMany v_freePlace v_freeSyndrome v_ways v_waysKept v_trace v_comesA v_comesB) H := hP
        have hD : va_D A (ww_M q cs v_told v_tell v_sums v_kindOf v_modOf v_bitsOf v_turnOf v_polyOf v_beginOf v_finishOf v_isLow v_weightsOf v_weight v_cell v_size v_row v_keptSize v_keptBefore v_keptAfter v_placeA v_placeB (upd v_turned v_turnedMany.toNatClampNeg ((x5 + 1) + x7)) (v_turnedMany + 1) v_syndromes v_lightest v_freeMany v_freePlace v_freeSyndrome v_ways v_waysKept v_trace v_comesA v_comesB) := hD
        refine lv_iinc (v := x7 + 1) (lv' := [(7, .int (x7 + 1)), (0, .ref (q 0)), (1, .int x1), (2, .int x2), (3, .int x3), (4, .int x4), (5, .int x5), (6, .int x6)]) hx hb dX12_passesBurst_105 hl (k := 7) rfl rfl (by decide) rfl (fun ls hl => ?_)
        refine lv_goto (tgt := 56) hx hb dX12_passesBurst_108 (by decide) ?_
        exact st_next hm hst H locs hP hD hS ls (lv_sub hl [1, 2, 3, 4, 5, 6, 7, 0] rfl)
  have L31 : ∀ (x1 : Int32) (x2 : Int32) (x3 : Int32) (x4 : Int32) (x5 : Int32) (x6 : Int32) (v_keptSize : Int32) (v_keptBefore : (Nat → Int32)) (v_keptAfter : (Nat → Int32)) (v_turned : (Nat → Int32)) (v_turnedMany : Int32) (v_comesA : Int64) (v_comesB : Int64) (out : ((Int32 × (Nat → Int32) × (Nat → Int32) × (Nat → Int32) × Int32 × Int64 × Int64) ⊕ (Int32 × Int32 × (Nat → Int32) × (Nat → Int32) × (Nat → Int32) × Int32 × Int64 × Int64))), lp (fun x : (Int32 × Int32 × (Nat → Int32) × (Nat → Int32) × (Nat → Int32) × Int32 × Int64 × Int64) => M_X12_passesBurst_b31 n x1 x2 x3 x4 x5 v_kindOf v_modOf v_placeA v_placeB x.1 x.2.1 x.2.2.1 x.2.2.2.1 x.2.2.2.2.1 x.2.2.2.2.2.1 x.2.2.2.2.2.2.1 x.2.2.2.2.2.2.2) n (x6, v_keptSize, v_keptBefore, v_keptAfter, v_turned, v_turnedMany, v_comesA, v_comesB) = some out → (∀ r, out = .inr r → r = res) → (∀ (o : (Int32 × (Nat → Int32) × (Nat → Int32) × (Nat → Int32) × Int32 × Int64 × Int64)), out = .inl o → ∀ (H : Heap) (locs : List Loc), va_P G vwCl (ww_M q cs v_told v_tell v_sums v_kindOf v_modOf v_bitsOf v_turnOf v_polyOf v_beginOf v_finishOf v_isLow v_weightsOf v_weight v_cell v_size v_row o.1 o.2.1 o.2.2.1 v_placeA v_placeB o.2.2.2.1 o.2.2.2.2.1 v_syndromes v_lightest v_freeMany v_freePlace v_freeSyndrome v_ways v_waysKept v_trace o.2.2.2.2.2.1 o.2.2.2.2.2.2) H → va_D A (ww_M q cs v_told v_tell v_sums v_kindOf v_modOf v_bitsOf v_turnOf v_polyOf v_beginOf v_finishOf v_isLow v_weightsOf v_weight v_cell v_size v_row o.1 o.2.1 o.2.2.1 v_placeA v_placeB o.2.2.2.1 o.2.2.2.2.1 v_syndromes v_lightest v_freeMany v_freePlace v_freeSyndrome v_ways v_waysKept v_trace o.2.2.2.2.2.1 o.2.2.2.2.2.2) → va_S A s.heap H locs → ∀ (ls : Array Slot), lv_has ls 8 [(0, .ref (q 0)), (1, .int x1), (2, .int x2), (3, .int x3), (4, .int x4), (5, .int x5)] → W p l e rmX12_passesBurst s m args below meth c H locs 0 0 Q (F0 m 158 ls [])) → ∀ (H : Heap) (locs : List Loc), va_P G vwCl (ww_M q cs v_told v_tell v_sums v_kindOf v_modOf v_bitsOf v_turnOf v_polyOf v_beginOf v_finishOf v_isLow v_weightsOf v_weight v_cell v_size v_row v_keptSize v_keptBefore v_keptAfter v_placeA v_placeB v_turned v_turnedMany v_syndromes v_lightest v_freeMany v_freePlace v_freeSyndrome v_ways v_waysKept v_trace v_comesA v_comesB) H → va_D A (ww_M q cs v_told v_tell v_sums v_kindOf v_modOf v_bitsOf v_turnOf v_polyOf v_beginOf v_finishOf v_isLow v_weightsOf v_weight v_cell v_size v_row v_keptSize v_keptBefore v_keptAfter v_placeA v_placeB v_turned v_turnedMany v_syndromes v_lightest v_freeMany v_freePlace v_freeSyndrome v_ways v_waysKept v_trace v_comesA v_comesB) → va_S A s.heap H locs → ∀ (ls : Array Slot), lv_has ls 8 [(0, .ref (q 0)), (1, .int x1), (2, .int x2), (3, .int x3), (4, .int x4), (5, .int x5), (6, .int x6)] → W p l e rmX12_passesBurst s m args below meth c H locs 0 0 Q (F0 m 31 ls []) := by
    intro x1 x2 x3 x4 x5 x6 v_keptSize v_keptBefore v_keptAfter v_turned v_turnedMany v_comesA v_comesB out hlp hret hX
    refine lp_ind (fun x => ∀ (H : Heap) (locs : List Loc), va_P G vwCl (ww_M q cs v_told v_tell v_sums v_kindOf v_modOf v_bitsOf v_turnOf v_polyOf v_beginOf v_finishOf v_isLow v_weightsOf v_weight v_cell v_size v_row x.2.1 x.2.2.1 x.2.2.2.1 v_placeA v_placeB x.2.2.2.2.1 x.2.2.2.2.2.1 v_syndromes v_lightest v_freeMany v_freePlace v_freeSyndrome v_ways v_waysKept v_trace x.2.2.2.2.2.2.1 x.2.2.2.2.2.2.2) H → va_D A (ww_M q cs v_told v_tell v_sums v_kindOf v_modOf v_bitsOf v_turnOf v_polyOf v_beginOf v_finishOf v_isLow v_weightsOf v_weight v_cell v_size v_row x.2.1 x.2.2.1 x.2.2.2.1 v_placeA v_placeB x.2.2.2.2.1 x.2.2.2.2.2.1 v_syndromes v_lightest v_freeMany v_freePlace v_freeSyndrome v_ways v_waysKept v_trace x.2.2.2.2.2.2.1 x.2.2.2.2.2.2.2) → va_S A s.heap H locs → ∀ (ls : Array Slot), lv_has ls 8 [(0, .ref (q 0)), (1, .int x1), (2, .int x2), (3, .int x3), (4, .int x4), (5, .int x5), (6, .int x.1)] → W p l e rmX12_passesBurst s m args below meth c H locs 0 0 Q (F0 m 31 ls [])) ?_ n (x6, v_keptSize, v_keptBefore, v_keptAfter, v_turned, v_turnedMany, v_comesA, v_comesB) hlp
    clear hlp hP hD hS hl
    rintro ⟨x6, v_keptSize, v_keptBefore, v_keptAfter, v_turned, v_turnedMany, v_comesA, v_comesB⟩ ob hm hst H locs hP hD hS ls hl
    have hm : M_X12_passesBurst_b31 n x1 x2 x3 x4 x5 v_kindOf v_modOf v_placeA v_placeB x6 v_keptSize v_keptBefore v_keptAfter v_turned v_turnedMany v_comesA v_comesB = some ob := hm
    have hl : lv_has ls 8 [(0, .ref (q 0)), (1, .int x1), (2, .int x2), (3, .int x3), (4, .int x4), (5, .int x5), (6, .int x6)] := hl
    have hP : va_P G vwCl (ww_M q cs v_told v_tell v_sums v_kindOf v_modOf v_bitsOf v_turnOf v_polyOf v_beginOf v_finishOf v_isLow v_weightsOf v_weight v_cell v_size v_row v_keptSize v_keptBefore v_keptAfter v_placeA v_placeB v_turned v_turnedMany v_syndromes v_lightest v_freeMany v_freePlace v_freeSyndrome v_ways v_waysKept v_trace v_comesA v_comesB) H := hP
    have hD : va_D A (ww_M q cs v_told v_tell v_sums v_kindOf v_modOf v_bitsOf v_turnOf v_polyOf v_beginOf v_finishOf v_isLow v_weightsOf v_weight v_cell v_size v_row v_keptSize v_keptBefore v_keptAfter v_placeA v_placeB v_turned v_turnedMany v_syndromes v_lightest v_freeMany v_freePlace v_freeSyndrome v_ways v_waysKept v_trace v_comesA v_comesB) := hD
    unfold M_X12_passesBurst_b31 at hm
    refine lv_iload hx hb dX12_passesBurst_31 (lv_at hl 6 rfl) ?_
    refine lv_iconst (v := 1) hx hb dX12_passesBurst_33 (by decide) ?_
    refine lv_iload hx hb dX12_passesBurst_34 (lv_at hl 4 rfl) ?_
    refine lv_ishl hx hb dX12_passesBurst_36 ?_
    refine lv_icmp_ge (tgt := 158) hx hb dX12_passesBurst_37 (by decide) (fun b3 => ?_) (fun b3 => ?_)
    · have hm := i_t b3 hm
      exact hX _ (st_exit hm hst) H locs hP hD hS ls (lv_sub hl [0, 1, 2, 3, 4, 5] rfl)
    · have hm := i_f b3 hm
      refine lv_aload_n hx hb dX12_passesBurst_40 rfl (lv_at hl 0 rfl) ?_
      refine lv_iconst (v := 1) hx hb dX12_passesBurst_41 (by decide) ?_
      refine va_put (D := G) (ci := 10) (v := .int 1) (ty := .int) (C := RX12) (T := TX12) (N := 33) hx hb hts hinX12 tyX12 tyX12_ok nmX12 hown hK.1 hP hD hS 0 rfl rfl 22 (by decide) wd1 (fun _ h9 => h9) rfl (by decide +kernel) rfl rfl (Nat.le_of_ble_eq_true rfl) dX12_passesBurst_42 (fun H locs hP hD hS => ?_)
      have hP : va_P G vwCl (ww_M q cs v_told v_tell v_sums v_kindOf v_modOf v_bitsOf v_turnOf v_polyOf v_beginOf v_finishOf v_isLow v_weightsOf v_weight v_cell v_size v_row v_keptSize v_keptBefore v_keptAfter v_placeA v_placeB v_turned 1 v_syndromes v_lightest v_freeMany v_freePlace v_freeSyndrome v_ways v_waysKept v_trace v_comesA v_comesB) H := hP
      have hD : va_D A (ww_M q cs v_told v_tell v_sums v_kindOf v_modOf v_bitsOf v_turnOf v_polyOf v_beginOf v_finishOf v_isLow v_weightsOf v_weight v_cell v_size v_row v_keptSize v_keptBefore v_keptAfter v_placeA v_placeB v_turned 1 v_syndromes v_lightest v_freeMany v_freePlace v_freeSyndrome v_ways v_waysKept v_trace v_comesA v_comesB) := hD
      refine lv_aload_n hx hb dX12_passesBurst_45 rfl (lv_at hl 0 rfl) ?_
      refine va_get (D := G) (ci := 10) (v := .ref (q 18)) (C := RX12) (T := TX12) (N := 33) hx hb hts hinX12 hown hK.1 hP 0 rfl rfl 21 (by decide) wd2 (fun _ h9 => h9) rfl dX12_passesBurst_46 ?_
      refine lv_iconst (v := 0) hx hb dX12_passesBurst_49 (by decide) ?_
      refine lv_iload hx hb dX12_passesBurst_50 (lv_at hl 5 rfl) ?_
      refine va_iast hx hb hK.1 hP hD hS 18 0 rfl rfl (by unfold vp_in; decide) dX12_passesBurst_52 (fun H locs hP hD hS => ?_)
      have hP : va_P G vwCl (ww_M q cs v_told v_tell v_sums v_kindOf v_modOf v_bitsOf v_turnOf v_polyOf v_beginOf v_finishOf v_isLow v_weightsOf v_weight v_cell v_size v_row v_keptSize v_keptBefore v_keptAfter v_placeA v_placeB (upd v_turned (0 : Int32).toNatClampNeg x5) 1 v_syndromes v_lightest v_freeMany v_freePlace v_freeSyndrome v_ways v_waysKept v_trace v_comesA v_comesB) H := hP
      have hD : va_D A (ww_M q cs v_told v_tell v_sums v_kindOf v_modOf v_bitsOf v_turnOf v_polyOf v_beginOf v_finishOf v_isLow v_weightsOf v_weight v_cell v_size v_row v_keptSize v_keptBefore v_keptAfter v_placeA v_placeB (upd v_turned (0 : Int32).toNatClampNeg x5) 1 v_syndromes v_lightest v_freeMany v_freePlace v_freeSyndrome v_ways v_waysKept v_trace v_comesA v_comesB) := hD
      refine lv_iconst (v := 0) hx hb dX12_passesBurst_53 (by decide) ?_
      refine lv_istore (lv' := [(7, .int 0), (0, .ref (q 0)), (1, .int x1), (2, .int x2), (3, .int x3), (4, .int x4), (5, .int x5), (6, .int x6)]) hx hb dX12_passesBurst_54 hl (by decide) rfl (fun ls hl => ?_)
      obtain ⟨o7, hlp7, hm⟩ := bs hm
      refine L56 x1 x2 x3 x4 x5 x6 (0 : Int32) v_keptSize v_keptBefore v_keptAfter (upd v_turned (0 : Int32).toNatClampNeg x5) (1 : Int32) v_comesA v_comesB o7 hlp7 (fun oo ho => ?_) H locs hP hD hS ls (lv_sub hl [1, 2, 3, 4, 5, 6, 7, 0] rfl)
      subst ho
      intro H locs hP hD hS ls hl
      have hl : lv_has ls 8 [(0, .ref (q 0)), (1, .int x1), (2, .int x2), (3, .int x3), (4, .int x4), (5, .int x5), (6, .int x6)] := hl
      have hP : va_P G vwCl (ww_M q cs v_told v_tell v_sums v_kindOf v_modOf v_bitsOf v_turnOf v_polyOf v_beginOf v_finishOf v_isLow v_weightsOf v_weight v_cell v_size v_row v_keptSize v_keptBefore v_keptAfter v_placeA v_placeB o7.1 o7.2 v_syndromes v_lightest v_freeMany v_freePlace v_freeSyndrome v_ways v_waysKept v_trace v_comesA v_comesB) H := hP
      have hD : va_D A (ww_M q cs v_told v_tell v_sums v_kindOf v_modOf v_bitsOf v_turnOf v_polyOf v_beginOf v_finishOf v_isLow v_weightsOf v_weight v_cell v_size v_row v_keptSize v_keptBefore v_keptAfter v_placeA v_placeB o7.1 o7.2 v_syndromes v_lightest v_freeMany v_freePlace v_freeSyndrome v_ways v_waysKept v_trace v_comesA v_comesB) := hD
      refine lv_iload_n hx hb dX12_passesBurst_111 rfl (lv_at hl 2 rfl) ?_
      refine lv_iconst (v := 1) hx hb dX12_passesBurst_112 (by decide) ?_
      refine lv_icmp_le (tgt := 141) hx hb dX12_passesBurst_113 (by decide) (fun b8 => ?_) (fun b8 => ?_)
      · have hm := i_t b8 hm
        refine lv_aload_n hx hb dX12_passesBurst_141 rfl (lv_at hl 0 rfl) ?_
        refine lv_iload_n hx hb dX12_passesBurst_142 rfl (lv_at hl 1 rfl) ?_
        refine lv_iload_n hx hb dX12_passesBurst_143 rfl (lv_at hl 3 rfl) ?_
        obtain ⟨r9, hc_r9, hm⟩ := bs hm
        refine k_calli (va_runV (As := [.int x1, .int x3]) (rest := []) ⟨hx, hb, hml, hown, hts⟩ (c_X12_passesTurned l G cs q H.size v_told v_tell v_sums v_kindOf v_modOf v_bitsOf v_turnOf v_polyOf v_beginOf v_finishOf v_isLow v_weightsOf v_weight v_cell v_size v_row v_keptSize v_keptBefore v_keptAfter v_placeA v_placeB o7.1 o7.2 v_syndromes v_lightest v_freeMany v_freePlace v_freeSyndrome v_ways v_waysKept v_trace v_comesA v_comesB   x1 x3 n r9 hc_r9) (cwV 2 hts gX12_passesBurst_X12_passesTurned rfl rfl rfl ⟨rfl, hd_X12_passesTurned⟩ ⟨Nat.le_of_ble_eq_true rfl, Nat.le_of_ble_eq_true rfl⟩) ⟨pre_blind, va_recv hK.1 hP (ci := 10) (q0 := 0) rfl rfl, pre_w hK RO.nil hP hD (va_all hD hS hA)⟩ rfl rfl hl.1 rfl (lv_room (Nat.le_of_ble_eq_true rfl)) dX12_passesBurst_144 ⟨Nat.zero_le _, Nat.zero_le _⟩) hS (va_all hD hS hA) (fun hE10 H locs hP hD hS => ?_)
        have hP : va_P G vwCl (ww_M q cs v_told v_tell v_sums v_kindOf v_modOf v_bitsOf v_turnOf v_polyOf v_beginOf v_finishOf v_isLow v_weightsOf v_weight v_cell v_size v_row r9.2.1 r9.2.2.1 r9.2.2.2.1 v_placeA v_placeB o7.1 o7.2 v_syndromes v_lightest v_freeMany v_freePlace v_freeSyndrome v_ways v_waysKept v_trace r9.2.2.2.2.1 r9.2.2.2.2.2) H := hP
        have hD : va_D A (ww_M q cs v_told v_tell v_sums v_kindOf v_modOf v_bitsOf v_turnOf v_polyOf v_beginOf v_finishOf v_isLow v_weightsOf v_weight v_cell v_size v_row r9.2.1 r9.2.2.1 r9.2.2.2.1 v_placeA v_placeB o7.1 o7.2 v_syndromes v_lightest v_freeMany v_freePlace v_freeSyndrome v_ways v_waysKept v_trace r9.2.2.2.2.1 r9.2.2.2.2.2) := hD
        refine lv_if_eq (tgt := 152) hx hb dX12_passesBurst_147 (by decide) (fun b11 => ?_) (fun b11 => ?_)
        · have hm := i_t b11 hm
          refine lv_iinc (v := x6 + 1) (lv' := [(6, .int (x6 + 1)), (0, .ref (q 0)), (1, .int x1), (2, .int x2), (3, .int x3), (4, .int x4), (5, .int x5)]) hx hb dX12_passesBurst_152 hl (k := 6) rfl rfl (by decide) rfl (fun ls hl => ?_)
          refine lv_goto (tgt := 31) hx hb dX12_passesBurst_155 (by decide) ?_
          exact st_next hm hst H locs hP hD hS ls (lv_sub hl [1, 2, 3, 4, 5, 6, 0] rfl)
        · have hm := i_f b11 hm
          refine lv_iconst (v := 1) hx hb dX12_passesBurst_150 (by decide) ?_
          have hq := hret _ (st_exit hm hst)
          subst hq; subst hQ
          exact k_zret hx hb hr hlocks hP hD hS rfl (by decide) dX12_passesBurst_151
      · have hm := i_f b8 hm
        refine lv_aload_n hx hb dX12_passesBurst_116 rfl (lv_at hl 0 rfl) ?_
        refine va_get (D := G) (ci := 10) (v := .ref (q 18)) (C := RX12) (T := TX12) (N := 33) hx hb hts hinX12 hown hK.1 hP 0 rfl rfl 21 (by decide) wd2 (fun _ h9 => h9) rfl dX12_passesBurst_117 ?_
        refine lv_aload_n hx hb dX12_passesBurst_120 rfl (lv_at hl 0 rfl) ?_
        refine va_get (D := G) (ci := 10) (v := .int o7.2) (C := RX12) (T := TX12) (N := 33) hx hb hts hinX12 hown hK.1 hP 0 rfl rfl 22 (by decide) wd1 (fun _ h9 => h9) rfl dX12_passesBurst_121 ?_
        refine lv_iload hx hb dX12_passesBurst_124 (lv_at hl 5 rfl) ?_
        refine lv_iload_n hx hb dX12_passesBurst_126 rfl (lv_at hl 2 rfl) ?_
        refine lv_iadd hx hb dX12_passesBurst_127 ?_
        refine lv_iconst (v := 1) hx hb dX12_passesBurst_128 (by decide) ?_
        refine lv_isub hx hb dX12_passesBurst_129 ?_
        obtain ⟨h12, hm⟩ := g_in hm
        refine va_iast hx hb hK.1 hP hD hS 18 0 rfl rfl h12 dX12_passesBurst_130 (fun H locs hP hD hS => ?_)
        have hP : va_P G vwCl (ww_M q cs v_told v_tell v_sums v_kindOf v_modOf v_bitsOf v_turnOf v_polyOf v_beginOf v_finishOf v_isLow v_weightsOf v_weight v_cell v_size v_row v_keptSize v_keptBefore v_keptAfter v_placeA v_placeB (upd o7.1 o7.2.toNatClampNeg ((x5 + x2) - 1)) o7.2 v_syndromes v_lightest v_freeMany v_freePlace v_freeSyndrome v_ways v_waysKept v_trace v_comesA v_comesB) H := hP
        have hD : va_D A (ww_M q cs v_told v_tell v_sums v_kindOf v_modOf v_bitsOf v_turnOf v_polyOf v_beginOf v_finishOf v_isLow v_weightsOf v_weight v_cell v_size v_row v_keptSize v_keptBefore v_keptAfter v_placeA v_placeB (upd o7.1 o7.2.toNatClampNeg ((x5 + x2) - 1)) o7.2 v_syndromes v_lightest v_freeMany v_freePlace v_freeSyndrome v_ways v_waysKept v_trace v_comesA v_comesB) := hD
        refine lv_aload_n hx hb dX12_passesBurst_131 rfl (lv_at hl 0 rfl) ?_
        refine lv_dup hx hb dX12_passesBurst_132 rfl ?_
        refine va_get (D := G) (ci := 10) (v := .int o7.2) (C := RX12) (T := TX12) (N := 33) hx hb hts hinX12 hown hK.1 hP 0 rfl rfl 22 (by decide) wd1 (fun _ h9 => h9) rfl dX12_passesBurst_133 ?_
        refine lv_iconst (v := 1) hx hb dX12_passesBurst_136 (by decide) ?_
        refine lv_iadd hx hb dX12_passesBurst_137 ?_
        refine va_put (D := G) (ci := 10) (v := .int (o7.2 + 1)) (ty := .int) (C := RX12) (T := TX12) (N := 33) hx hb hts hinX12 tyX12 tyX12_ok nmX12 hown hK.1 hP hD hS 0 rfl rfl 22 (by decide) wd1 (fun _ h9 => h9) rfl (by decide +kernel) rfl rfl (Nat.le_of_ble_eq_true rfl) dX12_passesBurst_138 (fun H locs hP hD hS => ?_)
        have hP : va_P G vwCl (ww_M q cs v_told v_tell v_sums v_kindOf v_modOf v_bitsOf v_turnOf v_polyOf v_beginOf v_finishOf v_isLow v_weightsOf v_weight v_cell v_size v_row v_keptSize v_keptBefore v_keptAfter v_placeA v_placeB (upd o7.1 o7.2.toNatClampNeg ((x5 + x2) - 1)) (o7.2 + 1) v_syndromes v_lightest v_freeMany v_freePlace v_freeSyndrome v_ways v_waysKept v_trace v_comesA v_comesB) H := hP
        have hD : va_D A (ww_M q cs v_told v_tell v_sums v_kindOf v_modOf v_bitsOf v_turnOf v_polyOf v_beginOf v_finishOf v_isLow v_weightsOf v_weight v_cell v_size v_row v_keptSize v_keptBefore v_keptAfter v_placeA v_placeB (upd o7.1 o7.2.toNatClampNeg ((x5 + x2) - 1)) (o7.2 + 1) v_syndromes v_lightest v_freeMany v_freePlace v_freeSyndrome v_ways v_waysKept v_trace v_comesA v_comesB) := hD
        refine lv_aload_n hx hb dX12_passesBurst_141 rfl (lv_at hl 0 rfl) ?_
        refine lv_iload_n hx hb dX12_passesBurst_142 rfl (lv_at hl 1 rfl) ?_
        refine lv_iload_n hx hb dX12_passesBurst_143 rfl (lv_at hl 3 rfl) ?_
        obtain ⟨r13, hc_r13, hm⟩ := bs hm
        refine k_calli (va_runV (As := [.int x1, .int x3]) (rest := []) ⟨hx, hb, hml, hown, hts⟩ (c_X12_passesTurned l G cs q H.size v_told v_tell v_sums v_kindOf v_modOf v_bitsOf v_turnOf v_polyOf v_beginOf v_finishOf v_isLow v_weightsOf v_weight v_cell v_size v_row v_keptSize v_keptBefore v_keptAfter v_placeA v_placeB (upd o7.1 o7.2.toNatClampNeg ((x5 + x2) - 1)) (o7.2 + 1) v_syndromes v_lightest v_freeMany v_freePlace v_freeSyndrome v_ways v_waysKept v_trace v_comesA v_comesB   x1 x3 n r13 hc_r13) (cwV 2 hts gX12_passesBurst_X12_passesTurned rfl rfl rfl ⟨rfl, hd_X12_passesTurned⟩ ⟨Nat.le_of_ble_eq_true rfl, Nat.le_of_ble_eq_true rfl⟩) ⟨pre_blind, va_recv hK.1 hP (ci := 10) (q0 := 0) rfl rfl, pre_w hK RO.nil hP hD (va_all hD hS hA)⟩ rfl rfl hl.1 rfl (lv_room (Nat.le_of_ble_eq_true rfl)) dX12_passesBurst_144 ⟨Nat.zero_le _, Nat.zero_le _⟩) hS (va_all hD hS hA) (fun hE14 H locs hP hD hS => ?_)
        have hP : va_P G vwCl (ww_M q cs v_told v_tell v_sums v_kindOf v_modOf v_bitsOf v_turnOf v_polyOf v_beginOf v_finishOf v_isLow v_weightsOf v_weight v_cell v_size v_row r13.2.1 r13.2.2.1 r13.2.2.2.1 v_placeA v_placeB (upd o7.1 o7.2.toNatClampNeg ((x5 + x2) - 1)) (o7.2 + 1) v_syndromes v_lightest v_freeMany v_freePlace v_freeSyndrome v_ways v_waysKept v_trace r13.2.2.2.2.1 r13.2.2.2.2.2) H := hP
        have hD : va_D A (ww_M q cs v_told v_tell v_sums v_kindOf v_modOf v_bitsOf v_turnOf v_polyOf v_beginOf v_finishOf v_isLow v_weightsOf v_weight v_cell v_size v_row r13.2.1 r13.2.2.1 r13.2.2.2.1 v_placeA v_placeB (upd o7.1 o7.2.toNatClampNeg ((x5 + x2) - 1)) (o7.2 + 1) v_syndromes v_lightest v_freeMany v_freePlace v_freeSyndrome v_ways v_waysKept v_trace r13.2.2.2.2.1 r13.2.2.2.2.2) := hD
        refine lv_if_eq (tgt := 152) hx hb dX12_passesBurst_147 (by decide) (fun b15 => ?_) (fun b15 => ?_)
        · have hm := i_t b15 hm
          refine lv_iinc (v := x6 + 1) (lv' := [(6, .int (x6 + 1)), (0, .ref (q 0)), (1, .int x1), (2, .int x2), (3, .int x3), (4, .int x4), (5, .int x5)]) hx hb dX12_passesBurst_152 hl (k := 6) rfl rfl (by decide) rfl (fun ls hl => ?_)
          refine lv_goto (tgt := 31) hx hb dX12_passesBurst_155 (by decide) ?_
          exact st_next hm hst H locs hP hD hS ls (lv_sub hl [1, 2, 3, 4, 5, 6, 0] rfl)
        · have hm := i_f b15 hm
          refine lv_iconst (v := 1) hx hb dX12_passesBurst_150 (by decide) ?_
          have hq := hret _ (st_exit hm hst)
          subst hq; subst hQ
          exact k_zret hx hb hr hlocks hP hD hS rfl (by decide) dX12_passesBurst_151
  have L17 : ∀ (x1 : Int32) (x2 : Int32) (x3 : Int32) (x4 : Int32) (x5 : Int32) (v_keptSize : Int32) (v_keptBefore : (Nat → Int32)) (v_keptAfter : (Nat → Int32)) (v_turned : (Nat → Int32)) (v_turnedMany : Int32) (v_comesA : Int64) (v_comesB : Int64) (out : ((Int32 × (Nat → Int32) × (Nat → Int32) × (Nat → Int32) × Int32 × Int64 × Int64) ⊕ (Int32 × Int32 × (Nat → Int32) × (Nat → Int32) × (Nat → Int32) × Int32 × Int64 × Int64))), lp (fun x : (Int32 × Int32 × (Nat → Int32) × (Nat → Int32) × (Nat → Int32) × Int32 × Int64 × Int64) => M_X12_passesBurst_b17 n x1 x2 x3 x4 v_kindOf v_modOf v_placeA v_placeB x.1 x.2.1 x.2.2.1 x.2.2.2.1 x.2.2.2.2.1 x.2.2.2.2.2.1 x.2.2.2.2.2.2.1 x.2.2.2.2.2.2.2) n (x5, v_keptSize, v_keptBefore, v_keptAfter, v_turned, v_turnedMany, v_comesA, v_comesB) = some out → (∀ r, out = .inr r → r = res) → (∀ (o : (Int32 × (Nat → Int32) × (Nat → Int32) × (Nat → Int32) × Int32 × Int64 × Int64)), out = .inl o → ∀ (H : Heap) (locs : List Loc), va_P G vwCl (ww_M q cs v_told v_tell v_sums v_kindOf v_modOf v_bitsOf v_turnOf v_polyOf v_beginOf v_finishOf v_isLow v_weightsOf v_weight v_cell v_size v_row o.1 o.2.1 o.2.2.1 v_placeA v_placeB o.2.2.2.1 o.2.2.2.2.1 v_syndromes v_lightest v_freeMany v_freePlace v_freeSyndrome v_ways v_waysKept v_trace o.2.2.2.2.2.1 o.2.2.2.2.2.2) H → va_D A (ww_M q cs v_told v_tell v_sums v_kindOf v_modOf v_bitsOf v_turnOf v_polyOf v_beginOf v_finishOf v_isLow v_weightsOf v_weight v_cell v_size v_row o.1 o.2.1 o.2.2.1 v_placeA v_placeB o.2.2.2.1 o.2.2.2.2.1 v_syndromes v_lightest v_freeMany v_freePlace v_freeSyndrome v_ways v_waysKept v_trace o.2.2.2.2.2.1 o.2.2.2.2.2.2) → va_S A s.heap H locs → ∀ (ls : Array Slot), lv_has ls 8 [] → W p l e rmX12_passesBurst s m args below meth c H locs 0 0 Q (F0 m 164 ls [])) → ∀ (H : Heap) (locs : List Loc), va_P G vwCl (ww_M q cs v_told v_tell v_sums v_kindOf v_modOf v_bitsOf v_turnOf v_polyOf v_beginOf v_finishOf v_isLow v_weightsOf v_weight v_cell v_size v_row v_keptSize v_keptBefore v_keptAfter v_placeA v_placeB v_turned v_turnedMany v_syndromes v_lightest v_freeMany v_freePlace v_freeSyndrome v_ways v_waysKept v_trace v_comesA v_comesB) H → va_D A (ww_M q cs v_told v_tell v_sums v_kindOf v_modOf v_bitsOf v_turnOf v_polyOf v_beginOf v_finishOf v_isLow v_weightsOf v_weight v_cell v_size v_row v_keptSize v_keptBefore v_keptAfter v_placeA v_placeB v_turned v_turnedMany v_syndromes v_lightest v_freeMany v_freePlace v_freeSyndrome v_ways v_waysKept v_trace v_comesA v_comesB) → va_S A s.heap H locs → ∀ (ls : Array Slot), lv_has ls 8 [(0, .ref (q 0)), (1, .int x1), (2, .int x2), (3, .int x3), (4, .int x4), (5, .int x5)] → W p l e rmX12_passesBurst s m args below meth c H locs 0 0 Q (F0 m 17 ls []) := by
    intro x1 x2 x3 x4 x5 v_keptSize v_keptBefore v_keptAfter v_turned v_turnedMany v_comesA v_comesB out hlp hret hX
    refine lp_ind (fun x => ∀ (H : Heap) (locs : List Loc), va_P G vwCl (ww_M q cs v_told v_tell v_sums v_kindOf v_modOf v_bitsOf v_turnOf v_polyOf v_beginOf v_finishOf v_isLow v_weightsOf v_weight v_cell v_size v_row x.2.1 x.2.2.1 x.2.2.2.1 v_placeA v_placeB x.2.2.2.2.1 x.2.2.2.2.2.1 v_syndromes v_lightest v_freeMany v_freePlace v_freeSyndrome v_ways v_waysKept v_trace x.2.2.2.2.2.2.1 x.2.2.2.2.2.2.2) H → va_D A (ww_M q cs v_told v_tell v_sums v_kindOf v_modOf v_bitsOf v_turnOf v_polyOf v_beginOf v_finishOf v_isLow v_weightsOf v_weight v_cell v_size v_row x.2.1 x.2.2.1 x.2.2.2.1 v_placeA v_placeB x.2.2.2.2.1 x.2.2.2.2.2.1 v_syndromes v_lightest v_freeMany v_freePlace v_freeSyndrome v_ways v_waysKept v_trace x.2.2.2.2.2.2.1 x.2.2.2.2.2.2.2) → va_S A s.heap H locs → ∀ (ls : Array Slot), lv_has ls 8 [(0, .ref (q 0)), (1, .int x1), (2, .int x2), (3, .int x3), (4, .int x4), (5, .int x.1)] → W p l e rmX12_passesBurst s m args below meth c H locs 0 0 Q (F0 m 17 ls [])) ?_ n (x5, v_keptSize, v_keptBefore, v_keptAfter, v_turned, v_turnedMany, v_comesA, v_comesB) hlp
    clear hlp hP hD hS hl
    rintro ⟨x5, v_keptSize, v_keptBefore, v_keptAfter, v_turned, v_turnedMany, v_comesA, v_comesB⟩ ob hm hst H locs hP hD hS ls hl
    have hm : M_X12_passesBurst_b17 n x1 x2 x3 x4 v_kindOf v_modOf v_placeA v_placeB x5 v_keptSize v_keptBefore v_keptAfter v_turned v_turnedMany v_comesA v_comesB = some ob := hm
    have hl : lv_has ls 8 [(0, .ref (q 0)), (1, .int x1), (2, .int x2), (3, .int x3), (4, .int x4), (5, .int x5)] := hl
    have hP : va_P G vwCl (ww_M q cs v_told v_tell v_sums v_kindOf v_modOf v_bitsOf v_turnOf v_polyOf v_beginOf v_finishOf v_isLow v_weightsOf v_weight v_cell v_size v_row v_keptSize v_keptBefore v_keptAfter v_placeA v_placeB v_turned v_turnedMany v_syndromes v_lightest v_freeMany v_freePlace v_freeSyndrome v_ways v_waysKept v_trace v_comesA v_comesB) H := hP
    have hD : va_D A (ww_M q cs v_told v_tell v_sums v_kindOf v_modOf v_bitsOf v_turnOf v_polyOf v_beginOf v_finishOf v_isLow v_weightsOf v_weight v_cell v_size v_row v_keptSize v_keptBefore v_keptAfter v_placeA v_placeB v_turned v_turnedMany v_syndromes v_lightest v_freeMany v_freePlace v_freeSyndrome v_ways v_waysKept v_trace v_comesA v_comesB) := hD
    unfold M_X12_passesBurst_b17 at hm
    refine lv_iload hx hb dX12_passesBurst_17 (lv_at hl 5 rfl) ?_
    refine lv_iload_n hx hb dX12_passesBurst_19 rfl (lv_at hl 2 rfl) ?_
    refine lv_iadd hx hb dX12_passesBurst_20 ?_
    refine lv_bipush (v := 8) hx hb dX12_passesBurst_21 (by decide) ?_
    refine lv_iload_n hx hb dX12_passesBurst_23 rfl (lv_at hl 3 rfl) ?_
    refine lv_imul hx hb dX12_passesBurst_24 ?_
    refine lv_icmp_gt (tgt := 164) hx hb dX12_passesBurst_25 (by decide) (fun b2 => ?_) (fun b2 => ?_)
    · have hm := i_t b2 hm
      exact hX _ (st_exit hm hst) H locs hP hD hS ls (lv_sub hl [] rfl)
    · have hm := i_f b2 hm
      refine lv_iconst (v := 0) hx hb dX12_passesBurst_28 (by decide) ?_
      refine lv_istore (lv' := [(6, .int 0), (0, .ref (q 0)), (1, .int x1), (2, .int x2), (3, .int x3), (4, .int x4), (5, .int x5)]) hx hb dX12_passesBurst_29 hl (by decide) rfl (fun ls hl => ?_)
      obtain ⟨u16, hlp16, hm⟩ := bs hm
      refine L31 x1 x2 x3 x4 x5 (0 : Int32) v_keptSize v_keptBefore v_keptAfter v_turned v_turnedMany v_comesA v_comesB u16 hlp16 (fun r h => by have h2 := se_r h hm; exact hret r (st_exit h2 hst)) (fun o16 ho => ?_) H locs hP hD hS ls (lv_sub hl [1, 2, 3, 4, 5, 6, 0] rfl)
      have hm := se_l ho hm
      intro H locs hP hD hS ls hl
      have hl : lv_has ls 8 [(0, .ref (q 0)), (1, .int x1), (2, .int x2), (3, .int x3), (4, .int x4), (5, .int x5)] := hl
      have hP : va_P G vwCl (ww_M q cs v_told v_tell v_sums v_kindOf v_modOf v_bitsOf v_turnOf v_polyOf v_beginOf v_finishOf v_isLow v_weightsOf v_weight v_cell v_size v_row o16.1 o16.2.1 o16.2.2.1 v_placeA v_placeB o16.2.2.2.1 o16.2.2.2.2.1 v_syndromes v_lightest v_freeMany v_freePlace v_freeSyndrome v_ways v_waysKept v_trace o16.2.2.2.2.2.1 o16.2.2.2.2.2.2) H := hP
      have hD : va_D A (ww_M q cs v_told v_tell v_sums v_kindOf v_modOf v_bitsOf v_turnOf v_polyOf v_beginOf v_finishOf v_isLow v_weightsOf v_weight v_cell v_size v_row o16.1 o16.2.1 o16.2.2.1 v_placeA v_placeB o16.2.2.2.1 o16.2.2.2.2.1 v_syndromes v_lightest v_freeMany v_freePlace v_freeSyndrome v_ways v_waysKept v_trace o16.2.2.2.2.2.1 o16.2.2.2.2.2.2) := hD
      refine lv_iinc (v := x5 + 1) (lv' := [(5, .int (x5 + 1)), (0, .ref (q 0)), (1, .int x1), (2, .int x2), (3, .int x3), (4, .int x4)]) hx hb dX12_passesBurst_158 hl (k := 5) rfl rfl (by decide) rfl (fun ls hl => ?_)
      refine lv_goto (tgt := 17) hx hb dX12_passesBurst_161 (by decide) ?_
      exact st_next hm hst H locs hP hD hS ls (lv_sub hl [1, 2, 3, 4, 5, 0] rfl)
  unfold M_X12_passesBurst at hm
  refine lv_iload_n hx hb dX12_passesBurst_0 rfl (lv_at hl 2 rfl) ?_
  refine lv_iconst (v := 2) hx hb dX12_passesBurst_1 (by decide) ?_
  refine lv_icmp_le (tgt := 11) hx hb dX12_passesBurst_2 (by decide) (fun b1 => ?_) (fun b1 => ?_)
  · have hm := i_t b1 hm
    refine lv_iconst (v := 0) hx hb dX12_passesBurst_11 (by decide) ?_
    refine lv_istore (lv' := [(4, .int 0), (0, .ref (q 0)), (1, .int x1), (2, .int x2), (3, .int x3)]) hx hb dX12_passesBurst_12 hl (by decide) rfl (fun ls hl => ?_)
    refine lv_iconst (v := 0) hx hb dX12_passesBurst_14 (by decide) ?_
    refine lv_istore (lv' := [(5, .int 0), (4, .int 0), (0, .ref (q 0)), (1, .int x1), (2, .int x2), (3, .int x3)]) hx hb dX12_passesBurst_15 hl (by decide) rfl (fun ls hl => ?_)
    obtain ⟨u17, hlp17, hm⟩ := bs hm
    refine L17 x1 x2 x3 (0 : Int32) (0 : Int32) v_keptSize v_keptBefore v_keptAfter v_turned v_turnedMany v_comesA v_comesB u17 hlp17 (fun r h => Option.some.inj (se_r h hm)) (fun o17 ho => ?_) H locs hP hD hS ls (lv_sub hl [2, 3, 4, 5, 1, 0] rfl)
    have hm := se_l ho hm
    intro H locs hP hD hS ls hl
    have hl : lv_has ls 8 [] := hl
    have hP : va_P G vwCl (ww_M q cs v_told v_tell v_sums v_kindOf v_modOf v_bitsOf v_turnOf v_polyOf v_beginOf v_finishOf v_isLow v_weightsOf v_weight v_cell v_size v_row o17.1 o17.2.1 o17.2.2.1 v_placeA v_placeB o17.2.2.2.1 o17.2.2.2.2.1 v_syndromes v_lightest v_freeMany v_freePlace v_freeSyndrome v_ways v_waysKept v_trace o17.2.2.2.2.2.1 o17.2.2.2.2.2.2) H := hP
    have hD : va_D A (ww_M q cs v_told v_tell v_sums v_kindOf v_modOf v_bitsOf v_turnOf v_polyOf v_beginOf v_finishOf v_isLow v_weightsOf v_weight v_cell v_size v_row o17.1 o17.2.1 o17.2.2.1 v_placeA v_placeB o17.2.2.2.1 o17.2.2.2.2.1 v_syndromes v_lightest v_freeMany v_freePlace v_freeSyndrome v_ways v_waysKept v_trace o17.2.2.2.2.2.1 o17.2.2.2.2.2.2) := hD
    refine lv_iconst (v := 0) hx hb dX12_passesBurst_164 (by decide) ?_
    have hq := Option.some.inj hm
    subst hq; subst hQ
    exact k_zret hx hb hr hlocks hP hD hS rfl (by decide) dX12_passesBurst_165
  · have hm := i_f b1 hm
    refine lv_iload_n hx hb dX12_passesBurst_5 rfl (lv_at hl 2 rfl) ?_
    refine lv_iconst (v := 2) hx hb dX12_passesBurst_6 (by decide) ?_
    refine lv_isub hx hb dX12_passesBurst_7 ?_
    refine lv_goto (tgt := 12) hx hb dX12_passesBurst_8 (by decide) ?_
    refine lv_istore (lv' := [(4, .int (x2 - 2)), (0, .ref (q 0)), (1, .int x1), (2, .int x2), (3, .int x3)]) hx hb dX12_passesBurst_12 hl (by decide) rfl (fun ls hl => ?_)
    refine lv_iconst (v := 0) hx hb dX12_passesBurst_14 (by decide) ?_
    refine lv_istore (lv' := [(5, .int 0), (4, .int (x2 - 2)), (0, .ref (q 0)), (1, .int x1), (2, .int x2), (3, .int x3)]) hx hb dX12_passesBurst_15 hl (by decide) rfl (fun ls hl => ?_)
    obtain ⟨u18, hlp18, hm⟩ := bs hm
    refine L17 x1 x2 x3 (x2 - 2) (0 : Int32) v_keptSize v_keptBefore v_keptAfter v_turned v_turnedMany v_comesA v_comesB u18 hlp18 (fun r h => Option.some.inj (se_r h hm)) (fun o18 ho => ?_) H locs hP hD hS ls (lv_sub hl [2, 3, 4, 5, 1, 0] rfl)
    have hm := se_l ho hm
    intro H locs hP hD hS ls hl
    have hl : lv_has ls 8 [] := hl
    have hP : va_P G vwCl (ww_M q cs v_told v_tell v_sums v_kindOf v_modOf v_bitsOf v_turnOf v_polyOf v_beginOf v_finishOf v_isLow v_weightsOf v_weight v_cell v_size v_row o18.1 o18.2.1 o18.2.2.1 v_placeA v_placeB o18.2.2.2.1 o18.2.2.2.2.1 v_syndromes v_lightest v_freeMany v_freePlace v_freeSyndrome v_ways v_waysKept v_trace o18.2.2.2.2.2.1 o18.2.2.2.2.2.2) H := hP
    have hD : va_D A (ww_M q cs v_told v_tell v_sums v_kindOf v_modOf v_bitsOf v_turnOf v_polyOf v_beginOf v_finishOf v_isLow v_weightsOf v_weight v_cell v_size v_row o18.1 o18.2.1 o18.2.2.1 v_placeA v_placeB o18.2.2.2.1 o18.2.2.2.2.1 v_syndromes v_lightest v_freeMany v_freePlace v_freeSyndrome v_ways v_waysKept v_trace o18.2.2.2.2.2.1 o18.2.2.2.2.2.2) := hD
    refine lv_iconst (v := 0) hx hb dX12_passesBurst_164 (by decide) ?_
    have hq := Option.some.inj hm
    subst hq; subst hQ
    exact k_zret hx hb hr hlocks hP hD hS rfl (by decide) dX12_passesBurst_165

theorem hd_X12_alter : yX12_alter.cls ≠ "java/lang/invoke/MethodHandle" ∧ yX12_alter.cls ≠ "java/lang/invoke/VarHandle" ∧ (parseMethodDescriptor yX12_alter.desc).map (fun d => d.parameters.length) = some 4 := by decide +kernel

def M_X12_alter_b3 (n : Nat) (x1 : Int32) (x2 : Int32) (x3 : Int32) (x4 : Int32) (v_kindOf : (Nat → Int32)) (v_placeA : (Nat → Int64)) (v_placeB : (Nat → Int64)) (x5 : Int32) (v_comesA : Int64) (v_comesB : Int64) : Option ((Int32 × Int64 × Int64) ⊕ (Int64 × Int64)) :=
  if 8 ≤ x5 then (some (.inr (v_comesA, v_comesB))) else (if ((x3 >>> ((7 - x5) &&& 31)) &&& 1) = ((x4 >>> ((7 - x5) &&& 31)) &&& 1) then (some (.inl (x5 + 1, v_comesA, v_comesB))) else (if ((x3 >>> ((7 - x5) &&& 31)) &&& 1) = 1 then ((M_X12_turn x1 ((8 * x2) + x5) (1 : Int32) v_kindOf v_placeA v_placeB v_comesA v_comesB).bind fun r5 => some (.inl (x5 + 1, r5.1, r5.2))) else ((M_X12_turn x1 ((8 * x2) + x5) (0 : Int32) v_kindOf v_placeA v_placeB v_comesA v_comesB).bind fun r4 => some (.inl (x5 + 1, r4.1, r4.2)))))

def M_X12_alter (n : Nat) (x1 : Int32) (x2 : Int32) (x3 : Int32) (x4 : Int32) (v_kindOf : (Nat → Int32)) (v_placeA : (Nat → Int64)) (v_placeB : (Nat → Int64)) (v_comesA : Int64) (v_comesB : Int64) : Option (Int64 × Int64) :=
  (lp (fun x : (Int32 × Int64 × Int64) => M_X12_alter_b3 n x1 x2 x3 x4 v_kindOf v_placeA v_placeB x.1 x.2.1 x.2.2) n ((0 : Int32), v_comesA, v_comesB)).bind fun o6 => some (o6.1, o6.2)

abbrev rmX12_alter : Room := { frames := 2, cells := 0, slots := 0, locals := 44 }
set_option maxHeartbeats 4000000 in
set_option maxRecDepth 100000 in
theorem c_X12_alter (l : Launch) (G : va_G) (cs : CS) (q : Nat → Nat) (sz : Nat) (v_told : Int32) (v_tell : (Nat → Int32)) (v_sums : Int32) (v_kindOf : (Nat → Int32)) (v_modOf : (Nat → Int32)) (v_bitsOf : (Nat → Int32)) (v_turnOf : (Nat → Int32)) (v_polyOf : (Nat → Int64)) (v_beginOf : (Nat → Int64)) (v_finishOf : (Nat → Int64)) (v_isLow : (Nat → Int32)) (v_weightsOf : (Nat → Int32)) (v_weight : (Nat → Int32)) (v_cell : (Nat → Int32)) (v_size : Int32) (v_row : (Nat → Int32)) (v_keptSize : Int32) (v_keptBefore : (Nat → Int32)) (v_keptAfter : (Nat → Int32)) (v_placeA : (Nat → Int64)) (v_placeB : (Nat → Int64)) (v_turned : (Nat → Int32)) (v_turnedMany : Int32) (v_syndromes : (Nat → Int64)) (v_lightest : (Nat → Int32)) (v_freeMany : Int32) (v_freePlace : (Nat → Int32)) (v_freeSyndrome : (Nat → Int64)) (v_ways : (Nat → Int32)) (v_waysKept : Int32) (v_trace : (Nat → Int32)) (v_comesA : Int64) (v_comesB : Int64)   (x1 : Int32) (x2 : Int32) (x3 : Int32) (x4 : Int32) (n : Nat) (res : (Int64 × Int64)) (hm : M_X12_alter n x1 x2 x3 x4 v_kindOf v_placeA v_placeB v_comesA v_comesB = some res) : Met l yX12_alter wsX12_alter rmX12_alter (va_Pc [.ref (q 0), .int x1, .int x2, .int x3, .int x4] (PreW G cs sz (ww_M q cs v_told v_tell v_sums v_kindOf v_modOf v_bitsOf v_turnOf v_polyOf v_beginOf v_finishOf v_isLow v_weightsOf v_weight v_cell v_size v_row v_keptSize v_keptBefore v_keptAfter v_placeA v_placeB v_turned v_turnedMany v_syndromes v_lightest v_freeMany v_freePlace v_freeSyndrome v_ways v_waysKept v_trace v_comesA v_comesB) RN)) (QV G (ww_M q cs v_told v_tell v_sums v_kindOf v_modOf v_bitsOf v_turnOf v_polyOf v_beginOf v_finishOf v_isLow v_weightsOf v_weight v_cell v_size v_row v_keptSize v_keptBefore v_keptAfter v_placeA v_placeB v_turned v_turnedMany v_syndromes v_lightest v_freeMany v_freePlace v_freeSyndrome v_ways v_waysKept v_trace res.1 res.2) (va_A (ww_M q cs v_told v_tell v_sums v_kindOf v_modOf v_bitsOf v_turnOf v_polyOf v_beginOf v_finishOf v_isLow v_weightsOf v_weight v_cell v_size v_row v_keptSize v_keptBefore v_keptAfter v_placeA v_placeB v_turned v_turnedMany v_syndromes v_lightest v_freeMany v_freePlace v_freeSyndrome v_ways v_waysKept v_trace v_comesA v_comesB) sz)) 0 0 (va_A (ww_M q cs v_told v_tell v_sums v_kindOf v_modOf v_bitsOf v_turnOf v_polyOf v_beginOf v_finishOf v_isLow v_weightsOf v_weight v_cell v_size v_row v_keptSize v_keptBefore v_keptAfter v_placeA v_placeB v_turned v_turnedMany v_syndromes v_lightest v_freeMany v_freePlace v_freeSyndrome v_ways v_waysKept v_trace v_comesA v_comesB) sz) := by
  refine k_enter (Qf := fun A => QV G (ww_M q cs v_told v_tell v_sums v_kindOf v_modOf v_bitsOf v_turnOf v_polyOf v_beginOf v_finishOf v_isLow v_weightsOf v_weight v_cell v_size v_row v_keptSize v_keptBefore v_keptAfter v_placeA v_placeB v_turned v_turnedMany v_syndromes v_lightest v_freeMany v_freePlace v_freeSyndrome v_ways v_waysKept v_trace res.1 res.2) A) (cc := cX12_alter) (maxL := 7) (ret := none) (plainFor_of_name (by decide)) rfl (Nat.le_of_ble_eq_true rfl) ?_
  intro p e s m args below meth c A Q ls H locs hx hb hr hml hown hts hlocks hname hK hA hRo hP hD hS hQ hl
  have hl : lv_has ls 7 [(0, .ref (q 0)), (1, .int x1), (2, .int x2), (3, .int x3), (4, .int x4)] := hl
  have L3 : ∀ (x1 : Int32) (x2 : Int32) (x3 : Int32) (x4 : Int32) (x5 : Int32) (v_comesA : Int64) (v_comesB : Int64) (out : (Int64 × Int64)), lp (fun x : (Int32 × Int64 × Int64) => M_X12_alter_b3 n x1 x2 x3 x4 v_kindOf v_placeA v_placeB x.1 x.2.1 x.2.2) n (x5, v_comesA, v_comesB) = some out → (∀ (o : (Int64 × Int64)), out = o → ∀ (H : Heap) (locs : List Loc), va_P G vwCl (ww_M q cs v_told v_tell v_sums v_kindOf v_modOf v_bitsOf v_turnOf v_polyOf v_beginOf v_finishOf v_isLow v_weightsOf v_weight v_cell v_size v_row v_keptSize v_keptBefore v_keptAfter v_placeA v_placeB v_turned v_turnedMany v_syndromes v_lightest v_freeMany v_freePlace v_freeSyndrome v_ways v_waysKept v_trace o.1 o.2) H → va_D A (ww_M q cs v_told v_tell v_sums v_kindOf v_modOf v_bitsOf v_turnOf v_polyOf v_beginOf v_finishOf v_isLow v_weightsOf v_weight v_cell v_size v_row v_keptSize v_keptBefore v_keptAfter v_placeA v_placeB v_turned v_turnedMany v_syndromes v_lightest v_freeMany v_freePlace v_freeSyndrome v_ways v_waysKept v_trace o.1 o.2) → va_S A s.heap H locs → ∀ (ls : Array Slot), lv_has ls 7 [] → W p l e rmX12_alter s m args below meth c H locs 0 0 Q (F0 m 65 ls [])) → ∀ (H : Heap) (locs : List Loc), va_P G vwCl (ww_M q cs v_told v_tell v_sums v_kindOf v_modOf v_bitsOf v_turnOf v_polyOf v_beginOf v_finishOf v_isLow v_weightsOf v_weight v_cell v_size v_row v_keptSize v_keptBefore v_keptAfter v_placeA v_placeB v_turned v_turnedMany v_syndromes v_lightest v_freeMany v_freePlace v_freeSyndrome v_ways v_waysKept v_trace v_comesA v_comesB) H → va_D A (ww_M q cs v_told v_tell v_sums v_kindOf v_modOf v_bitsOf v_turnOf v_polyOf v_beginOf v_finishOf v_isLow v_weightsOf v_weight v_cell v_size v_row v_keptSize v_keptBefore v_keptAfter v_placeA v_placeB v_turned v_turnedMany v_syndromes v_lightest v_freeMany v_freePlace v_freeSyndrome v_ways v_waysKept v_trace v_comesA v_comesB) → va_S A s.heap H locs → ∀ (ls : Array Slot), lv_has ls 7 [(0, .ref (q 0)), (1, .int x1), (2, .int x2), (3, .int x3), (4, .int x4), (5, .int x5)] → W p l e rmX12_alter s m args below meth c H locs 0 0 Q (F0 m 3 ls []) := by
    intro x1 x2 x3 x4 x5 v_comesA v_comesB out hlp hX
    refine lp_ind (fun x => ∀ (H : Heap) (locs : List Loc), va_P G vwCl (ww_M q cs v_told v_tell v_sums v_kindOf v_modOf v_bitsOf v_turnOf v_polyOf v_beginOf v_finishOf v_isLow v_weightsOf v_weight v_cell v_size v_row v_keptSize v_keptBefore v_keptAfter v_placeA v_placeB v_turned v_turnedMany v_syndromes v_lightest v_freeMany v_freePlace v_freeSyndrome v_ways v_waysKept v_trace x.2.1 x.2.2) H → va_D A (ww_M q cs v_told v_tell v_sums v_kindOf v_modOf v_bitsOf v_turnOf v_polyOf v_beginOf v_finishOf v_isLow v_weightsOf v_weight v_cell v_size v_row v_keptSize v_keptBefore v_keptAfter v_placeA v_placeB v_turned v_turnedMany v_syndromes v_lightest v_freeMany v_freePlace v_freeSyndrome v_ways v_waysKept v_trace x.2.1 x.2.2) → va_S A s.heap H locs → ∀ (ls : Array Slot), lv_has ls 7 [(0, .ref (q 0)), (1, .int x1), (2, .int x2), (3, .int x3), (4, .int x4), (5, .int x.1)] → W p l e rmX12_alter s m args below meth c H locs 0 0 Q (F0 m 3 ls [])) ?_ n (x5, v_comesA, v_comesB) hlp
    clear hlp hP hD hS hl
    rintro ⟨x5, v_comesA, v_comesB⟩ ob hm hst H locs hP hD hS ls hl
    have hm : M_X12_alter_b3 n x1 x2 x3 x4 v_kindOf v_placeA v_placeB x5 v_comesA v_comesB = some ob := hm
    have hl : lv_has ls 7 [(0, .ref (q 0)), (1, .int x1), (2, .int x2), (3, .int x3), (4, .int x4), (5, .int x5)] := hl
    have hP : va_P G vwCl (ww_M q cs v_told v_tell v_sums v_kindOf v_modOf v_bitsOf v_turnOf v_polyOf v_beginOf v_finishOf v_isLow v_weightsOf v_weight v_cell v_size v_row v_keptSize v_keptBefore v_keptAfter v_placeA v_placeB v_turned v_turnedMany v_syndromes v_lightest v_freeMany v_freePlace v_freeSyndrome v_ways v_waysKept v_trace v_comesA v_comesB) H := hP
    have hD : va_D A (ww_M q cs v_told v_tell v_sums v_kindOf v_modOf v_bitsOf v_turnOf v_polyOf v_beginOf v_finishOf v_isLow v_weightsOf v_weight v_cell v_size v_row v_keptSize v_keptBefore v_keptAfter v_placeA v_placeB v_turned v_turnedMany v_syndromes v_lightest v_freeMany v_freePlace v_freeSyndrome v_ways v_waysKept v_trace v_comesA v_comesB) := hD
    unfold M_X12_alter_b3 at hm
    refine lv_iload hx hb dX12_alter_3 (lv_at hl 5 rfl) ?_
    refine lv_bipush (v := 8) hx hb dX12_alter_5 (by decide) ?_
    refine lv_icmp_ge (tgt := 65) hx hb dX12_alter_7 (by decide) (fun b1 => ?_) (fun b1 => ?_)
    · have hm := i_t b1 hm
      exact hX _ (st_exit hm hst) H locs hP hD hS ls (lv_sub hl [] rfl)
    · have hm := i_f b1 hm
      refine lv_iload_n hx hb dX12_alter_10 rfl (lv_at hl 3 rfl) ?_
      refine lv_bipush (v := 7) hx hb dX12_alter_11 (by decide) ?_
      refine lv_iload hx hb dX12_alter_13 (lv_at hl 5 rfl) ?_
      refine lv_isub hx hb dX12_alter_15 ?_
      refine lv_ishr hx hb dX12_alter_16 ?_
      refine lv_iconst (v := 1) hx hb dX12_alter_17 (by decide) ?_
      refine lv_iand hx hb dX12_alter_18 ?_
      refine lv_istore (lv' := [(6, .int ((x3 >>> ((7 - x5) &&& 31)) &&& 1)), (0, .ref (q 0)), (1, .int x1), (2, .int x2), (3, .int x3), (4, .int x4), (5, .int x5)]) hx hb dX12_alter_19 hl (by decide) rfl (fun ls hl => ?_)
      refine lv_iload hx hb dX12_alter_21 (lv_at hl 0 rfl) ?_
      refine lv_iload hx hb dX12_alter_23 (lv_at hl 5 rfl) ?_
      refine lv_bipush (v := 7) hx hb dX12_alter_25 (by decide) ?_
      refine lv_iload hx hb dX12_alter_27 (lv_at hl 6 rfl) ?_
      refine lv_isub hx hb dX12_alter_29 ?_
      refine lv_ishr hx hb dX12_alter_30 ?_
      refine lv_iconst (v := 1) hx hb dX12_alter_31 (by decide) ?_
      refine lv_iand hx hb dX12_alter_32 ?_
      refine lv_icmp_eq (tgt := 59) hx hb dX12_alter_33 (by decide) (fun b2 => ?_) (fun b2 => ?_)
      · have hm := i_t b2 hm
        refine lv_iinc (v := x5 + 1) (lv' := [(5, .int (x5 + 1)), (6, .int ((x3 >>> ((7 - x5) &&& 31)) &&& 1)), (0, .ref (q 0)), (1, .int x1), (2, .int x2), (3, .int x3), (4, .int x4)]) hx hb dX12_alter_59 hl (k := 6) rfl rfl (by decide) rfl (fun ls hl => ?_)
        refine lv_goto (tgt := 3) hx hb dX12_alter_62 (by decide) ?_
        exact st_next hm hst H locs hP hD hS ls (lv_sub hl [2, 3, 4, 5, 6, 0] rfl)
      · have hm := i_f b2 hm
        refine lv_aload_n hx hb dX12_alter_36 rfl (lv_at hl 1 rfl) ?_
        refine lv_iload_n hx hb dX12_alter_37 rfl (lv_at hl 2 rfl) ?_
        refine lv_bipush (v := 8) hx hb dX12_alter_38 (by decide) ?_
        refine lv_iload_n hx hb dX12_alter_40 rfl (lv_at hl 3 rfl) ?_
        refine lv_imul hx hb dX12_alter_41 ?_
        refine lv_iload hx hb dX12_alter_42 (lv_at hl 6 rfl) ?_
        refine lv_iadd hx hb dX12_alter_44 ?_
        refine lv_iload hx hb dX12_alter_45 (lv_at hl 0 rfl) ?_
        refine lv_iconst (v := 1) hx hb dX12_alter_47 (by decide) ?_
        refine lv_icmp_ne (tgt := 55) hx hb dX12_alter_48 (by decide) (fun b3 => ?_) (fun b3 => ?_)
        · have hm := i_f b3 hm
          refine lv_iconst (v := 0) hx hb dX12_alter_55 (by decide) ?_
          obtain ⟨r4, hc_r4, hm⟩ := bs hm
          refine k_callv (va_runV (As := [.int x1, .int ((8 * x2) + x5), .int 0]) (rest := []) ⟨hx, hb, hml, hown, hts⟩ (c_X12_turn l G cs q H.size v_told v_tell v_sums v_kindOf v_modOf v_bitsOf v_turnOf v_polyOf v_beginOf v_finishOf v_isLow v_weightsOf v_weight v_cell v_size v_row v_keptSize v_keptBefore v_keptAfter v_placeA v_placeB v_turned v_turnedMany v_syndromes v_lightest v_freeMany v_freePlace v_freeSyndrome v_ways v_waysKept v_trace v_comesA v_comesB   x1 ((8 * x2) + x5) (0 : Int32) r4 hc_r4) (cwV 3 hts gX12_alter_X12_turn rfl rfl rfl ⟨rfl, hd_X12_turn⟩ ⟨Nat.le_of_ble_eq_true rfl, Nat.le_of_ble_eq_true rfl⟩) ⟨pre_blind, va_recv hK.1 hP (ci := 10) (q0 := 0) rfl rfl, pre_w hK RO.nil hP hD (va_all hD hS hA)⟩ rfl rfl hl.1 rfl (lv_room (Nat.le_of_ble_eq_true rfl)) dX12_alter_56 ⟨Nat.zero_le _, Nat.zero_le _⟩) hS (va_all hD hS hA) (fun H locs hP hD hS => ?_)
          have hP : va_P G vwCl (ww_M q cs v_told v_tell v_sums v_kindOf v_modOf v_bitsOf v_turnOf v_polyOf v_beginOf v_finishOf v_isLow v_weightsOf v_weight v_cell v_size v_row v_keptSize v_keptBefore v_keptAfter v_placeA v_placeB v_turned v_turnedMany v_syndromes v_lightest v_freeMany v_freePlace v_freeSyndrome v_ways v_waysKept v_trace r4.1 r4.2) H := hP
          have hD : va_D A (ww_M q cs v_told v_tell v_sums v_kindOf v_modOf v_bitsOf v_turnOf v_polyOf v_beginOf v_finishOf v_isLow v_weightsOf v_weight v_cell v_size v_row v_keptSize v_keptBefore v_keptAfter v_placeA v_placeB v_turned v_turnedMany v_syndromes v_lightest v_freeMany v_freePlace v_freeSyndrome v_ways v_waysKept v_trace r4.1 r4.2) := hD
          refine lv_iinc (v := x5 + 1) (lv' := [(5, .int (x5 + 1)), (6, .int ((x3 >>> ((7 - x5) &&& 31)) &&& 1)), (0, .ref (q 0)), (1, .int x1), (2, .int x2), (3, .int x3), (4, .int x4)]) hx hb dX12_alter_59 hl (k := 6) rfl rfl (by decide) rfl (fun ls hl => ?_)
          refine lv_goto (tgt := 3) hx hb dX12_alter_62 (by decide) ?_
          exact st_next hm hst H locs hP hD hS ls (lv_sub hl [2, 3, 4, 5, 6, 0] rfl)
        · have hm := i_t b3 hm
          refine lv_iconst (v := 1) hx hb dX12_alter_51 (by decide) ?_
          refine lv_goto (tgt := 56) hx hb dX12_alter_52 (by decide) ?_
          obtain ⟨r5, hc_r5, hm⟩ := bs hm
          refine k_callv (va_runV (As := [.int x1, .int ((8 * x2) + x5), .int 1]) (rest := []) ⟨hx, hb, hml, hown, hts⟩ (c_X12_turn l G cs q H.size v_told v_tell v_sums v_kindOf v_modOf v_bitsOf v_turnOf v_polyOf v_beginOf v_finishOf v_isLow v_weightsOf v_weight v_cell v_size v_row v_keptSize v_keptBefore v_keptAfter v_placeA v_placeB v_turned v_turnedMany v_syndromes v_lightest v_freeMany v_freePlace v_freeSyndrome v_ways v_waysKept v_trace v_comesA v_comesB   x1 ((8 * x2) + x5) (1 : Int32) r5 hc_r5) (cwV 3 hts gX12_alter_X12_turn rfl rfl rfl ⟨rfl, hd_X12_turn⟩ ⟨Nat.le_of_ble_eq_true rfl, Nat.le_of_ble_eq_true rfl⟩) ⟨pre_blind, va_recv hK.1 hP (ci := 10) (q0 := 0) rfl rfl, pre_w hK RO.nil hP hD (va_all hD hS hA)⟩ rfl rfl hl.1 rfl (lv_room (Nat.le_of_ble_eq_true rfl)) dX12_alter_56 ⟨Nat.zero_le _, Nat.zero_le _⟩) hS (va_all hD hS hA) (fun H locs hP hD hS => ?_)
          have hP : va_P G vwCl (ww_M q cs v_told v_tell v_sums v_kindOf v_modOf v_bitsOf v_turnOf v_polyOf v_beginOf v_finishOf v_isLow v_weightsOf v_weight v_cell v_size v_row v_keptSize v_keptBefore v_keptAfter v_placeA v_placeB v_turned v_turnedMany v_syndromes v_lightest v_freeMany v_freePlace v_freeSyndrome v_ways v_waysKept v_trace r5.1 r5.2) H := hP
          have hD : va_D A (ww_M q cs v_told v_tell v_sums v_kindOf v_modOf v_bitsOf v_turnOf v_polyOf v_beginOf v_finishOf v_isLow v_weightsOf v_weight v_cell v_size v_row v_keptSize v_keptBefore v_keptAfter v_placeA v_placeB v_turned v_turnedMany v_syndromes v_lightest v_freeMany v_freePlace v_freeSyndrome v_ways v_waysKept v_trace r5.1 r5.2) := hD
          refine lv_iinc (v := x5 + 1) (lv' := [(5, .int (x5 + 1)), (6, .int ((x3 >>> ((7 - x5) &&& 31)) &&& 1)), (0, .ref (q 0)), (1, .int x1), (2, .int x2), (3, .int x3), (4, .int x4)]) hx hb dX12_alter_59 hl (k := 6) rfl rfl (by decide) rfl (fun ls hl => ?_)
          refine lv_goto (tgt := 3) hx hb dX12_alter_62 (by decide) ?_
          exact st_next hm hst H locs hP hD hS ls (lv_sub hl [2, 3, 4, 5, 6, 0] rfl)
  unfold M_X12_alter at hm
  refine lv_iconst (v := 0) hx hb dX12_alter_0 (by decide) ?_
  refine lv_istore (lv' := [(5, .int 0), (0, .ref (q 0)), (1, .int x1), (2, .int x2), (3, .int x3), (4, .int x4)]) hx hb dX12_alter_1 hl (by decide) rfl (fun ls hl => ?_)
  obtain ⟨o6, hlp6, hm⟩ := bs hm
  refine L3 x1 x2 x3 x4 (0 : Int32) v_comesA v_comesB o6 hlp6 (fun oo ho => ?_) H locs hP hD hS ls (lv_sub hl [1, 2, 3, 4, 5, 0] rfl)
  subst ho
  intro H locs hP hD hS ls hl
  have hl : lv_has ls 7 [] := hl
  have hP : va_P G vwCl (ww_M q cs v_told v_tell v_sums v_kindOf v_modOf v_bitsOf v_turnOf v_polyOf v_beginOf v_finishOf v_isLow v_weightsOf v_weight v_cell v_size v_row v_keptSize v_keptBefore v_keptAfter v_placeA v_placeB v_turned v_turnedMany v_syndromes v_lightest v_freeMany v_freePlace v_freeSyndrome v_ways v_waysKept v_trace o6.1 o6.2) H := hP
  have hD : va_D A (ww_M q cs v_told v_tell v_sums v_kindOf v_modOf v_bitsOf v_turnOf v_polyOf v_beginOf v_finishOf v_isLow v_weightsOf v_weight v_cell v_size v_row v_keptSize v_keptBefore v_keptAfter v_placeA v_placeB v_turned v_turnedMany v_syndromes v_lightest v_freeMany v_freePlace v_freeSyndrome v_ways v_waysKept v_trace o6.1 o6.2) := hD
  have hq := Option.some.inj hm
  subst hq; subst hQ
  exact k_vret hx hb hr hlocks hP hD hS dX12_alter_65

theorem hd_X12_passesBytes : yX12_passesBytes.cls ≠ "java/lang/invoke/MethodHandle" ∧ yX12_passesBytes.cls ≠ "java/lang/invoke/VarHandle" ∧ (parseMethodDescriptor yX12_passesBytes.desc).map (fun d => d.parameters.length) = some 3 := by decide +kernel

def M_X12_passesBytes_b47 (n : Nat) (x1 : Int32) (x2 : Int32) (x3 : Int32) (x4 : Int32) (x5 : Int32) (x6 : Int32) (v_kindOf : (Nat → Int32)) (v_modOf : (Nat → Int32)) (v_keptSize : Int32) (v_keptBefore : (Nat → Int32)) (v_keptAfter : (Nat → Int32)) (v_placeA : (Nat → Int64)) (v_placeB : (Nat → Int64)) (x7 : Int32) (v_comesA : Int64) (v_comesB : Int64) : Option ((Int32 × Int64 × Int64) ⊕ ((Int64 × Int64) ⊕ (Int32 × Int32 × (Nat → Int32) × (Nat → Int32) × Int64 × Int64))) :=
  if 256 ≤ x7 then (some (.inr (.inl (v_comesA, v_comesB)))) else (if x6 = x7 then (some (.inl (x7 + 1, v_comesA, v_comesB))) else (if x2 = 5 then (if x2 = 5 then ((M_X12_alter n x1 x5 x6 x7 v_kindOf v_placeA v_placeB 0 0).bind fun r73 => if x4 ≤ 0 then ((M_X12_isNothing x1 v_kindOf v_modOf r73.1 r73.2).bind fun r75 => if r75 = 0 then (some (.inl (x7 + 1, r73.1, r73.2))) else ((M_X12_beginKept n x3 v_keptSize v_keptBefore v_keptAfter).bind fun r78 => if x5 < 0 ∨ 8 ≤ x5.toNatClampNeg then none else if x5 < 0 ∨ 8 ≤ x5.toNatClampNeg then none else if x4 ≤ 0 then (some (.inr (.inr (1, r78.1, (upd r78.2.1 x5.toNatClampNeg x6), (upd r78.2.2 x5.toNatClampNeg x7), r73.1, r73.2)))) else (if (x5 + x4) < 0 ∨ 8 ≤ (x5 + x4).toNatClampNeg then none else if (x5 + x4) < 0 ∨ 8 ≤ (x5 + x4).toNatClampNeg then none else some (.inr (.inr (1, r78.1, (upd (upd r78.2.1 x5.toNatClampNeg x6) (x5 + x4).toNatClampNeg x6), (upd (upd r78.2.2 x5.toNatClampNeg x7) (x5 + x4).toNatClampNeg x7), r73.1, r73.2)))))) else ((M_X12_alter n x1 (x5 + x4) x6 x7 v_kindOf v_placeA v_placeB r73.1 r73.2).bind fun r84 => (M_X12_isNothing x1 v_kindOf v_modOf r84.1 r84.2).bind fun r85 => if r85 = 0 then (some (.inl (x7 + 1, r84.1, r84.2))) else ((M_X12_beginKept n x3 v_keptSize v_keptBefore v_keptAfter).bind fun r88 => if x5 < 0 ∨ 8 ≤ x5.toNatClampNeg then none else if x5 < 0 ∨ 8 ≤ x5.toNatClampNeg then none else if x4 ≤ 0 then (some (.inr (.inr (1, r88.1, (upd r88.2.1 x5.toNatClampNeg x6), (upd r88.2.2 x5.toNatClampNeg x7), r84.1, r84.2)))) else (if (x5 + x4) < 0 ∨ 8 ≤ (x5 + x4).toNatClampNeg then none else if (x5 + x4) < 0 ∨ 8 ≤ (x5 + x4).toNatClampNeg then none else some (.inr (.inr (1, r88.1, (upd (upd r88.2.1 x5.toNatClampNeg x6) (x5 + x4).toNatClampNeg x6), (upd (upd r88.2.2 x5.toNatClampNeg x7) (x5 + x4).toNatClampNeg x7), r84.1, r84.2))))))) else ((M_X12_alter n x1 x5 x6 x7 v_kindOf v_placeA v_placeB 0 0).bind fun r52 => if x4 ≤ 0 then ((M_X12_isNothing x1 v_kindOf v_modOf r52.1 r52.2).bind fun r54 => if r54 = 0 then (some (.inl (x7 + 1, r52.1, r52.2))) else ((M_X12_beginKept n x3 v_keptSize v_keptBefore v_keptAfter).bind fun r57 => if x5 < 0 ∨ 8 ≤ x5.toNatClampNeg then none else if x5 < 0 ∨ 8 ≤ x5.toNatClampNeg then none else if x4 ≤ 0 then (some (.inr (.inr (1, r57.1, (upd r57.2.1 x5.toNatClampNeg x6), (upd r57.2.2 x5.toNatClampNeg x7), r52.1, r52.2)))) else (if (x5 + x4) < 0 ∨ 8 ≤ (x5 + x4).toNatClampNeg then none else if (x5 + x4) < 0 ∨ 8 ≤ (x5 + x4).toNatClampNeg then none else some (.inr (.inr (1, r57.1, (upd (upd r57.2.1 x5.toNatClampNeg x6) (x5 + x4).toNatClampNeg x6), (upd (upd r57.2.2 x5.toNatClampNeg x7) (x5 + x4).toNatClampNeg x6), r52.1, r52.2)))))) else ((M_X12_alter n x1 (x5 + x4) x6 x6 v_kindOf v_placeA v_placeB r52.1 r52.2).bind fun r63 => (M_X12_isNothing x1 v_kindOf v_modOf r63.1 r63.2).bind fun r64 => if r64 = 0 then (some (.inl (x7 + 1, r63.1, r63.2))) else ((M_X12_beginKept n x3 v_keptSize v_keptBefore v_keptAfter).bind fun r67 => if x5 < 0 ∨ 8 ≤ x5.toNatClampNeg then none else if x5 < 0 ∨ 8 ≤ x5.toNatClampNeg then none else if x4 ≤ 0 then (some (.inr (.inr (1, r67.1, (upd r67.2.1 x5.toNatClampNeg x6), (upd r67.2.2 x5.toNatClampNeg x7), r63.1, r63.2)))) else (if (x5 + x4) < 0 ∨ 8 ≤ (x5 + x4).toNatClampNeg then none else if (x5 + x4) < 0 ∨ 8 ≤ (x5 + x4).toNatClampNeg then none else some (.inr (.inr (1, r67.1, (upd (upd r67.2.1 x5.toNatClampNeg x6) (x5 + x4).toNatClampNeg x6), (upd (upd r67.2.2 x5.toNatClampNeg x7) (x5 + x4).toNatClampNeg x6), r63.1, r63.2)))))))) else (if x2 = 5 then ((M_X12_alter n x1 x5 x6 x7 v_kindOf v_placeA v_placeB 0 0).bind fun r30 => if x4 ≤ 0 then ((M_X12_isNothing x1 v_kindOf v_modOf r30.1 r30.2).bind fun r32 => if r32 = 0 then (some (.inl (x7 + 1, r30.1, r30.2))) else ((M_X12_beginKept n x3 v_keptSize v_keptBefore v_keptAfter).bind fun r35 => if x5 < 0 ∨ 8 ≤ x5.toNatClampNeg then none else if x5 < 0 ∨ 8 ≤ x5.toNatClampNeg then none else if x4 ≤ 0 then (some (.inr (.inr (1, r35.1, (upd r35.2.1 x5.toNatClampNeg x6), (upd r35.2.2 x5.toNatClampNeg x7), r30.1, r30.2)))) else (if (x5 + x4) < 0 ∨ 8 ≤ (x5 + x4).toNatClampNeg then none else if (x5 + x4) < 0 ∨ 8 ≤ (x5 + x4).toNatClampNeg then none else some (.inr (.inr (1, r35.1, (upd (upd r35.2.1 x5.toNatClampNeg x6) (x5 + x4).toNatClampNeg x7), (upd (upd r35.2.2 x5.toNatClampNeg x7) (x5 + x4).toNatClampNeg x7), r30.1, r30.2)))))) else ((M_X12_alter n x1 (x5 + x4) x7 x7 v_kindOf v_placeA v_placeB r30.1 r30.2).bind fun r41 => (M_X12_isNothing x1 v_kindOf v_modOf r41.1 r41.2).bind fun r42 => if r42 = 0 then (some (.inl (x7 + 1, r41.1, r41.2))) else ((M_X12_beginKept n x3 v_keptSize v_keptBefore v_keptAfter).bind fun r45 => if x5 < 0 ∨ 8 ≤ x5.toNatClampNeg then none else if x5 < 0 ∨ 8 ≤ x5.toNatClampNeg then none else if x4 ≤ 0 then (some (.inr (.inr (1, r45.1, (upd r45.2.1 x5.toNatClampNeg x6), (upd r45.2.2 x5.toNatClampNeg x7), r41.1, r41.2)))) else (if (x5 + x4) < 0 ∨ 8 ≤ (x5 + x4).toNatClampNeg then none else if (x5 + x4) < 0 ∨ 8 ≤ (x5 + x4).toNatClampNeg then none else some (.inr (.inr (1, r45.1, (upd (upd r45.2.1 x5.toNatClampNeg x6) (x5 + x4).toNatClampNeg x7), (upd (upd r45.2.2 x5.toNatClampNeg x7) (x5 + x4).toNatClampNeg x7), r41.1, r41.2))))))) else ((M_X12_alter n x1 x5 x6 x7 v_kindOf v_placeA v_placeB 0 0).bind fun r9 => if x4 ≤ 0 then ((M_X12_isNothing x1 v_kindOf v_modOf r9.1 r9.2).bind fun r11 => if r11 = 0 then (some (.inl (x7 + 1, r9.1, r9.2))) else ((M_X12_beginKept n x3 v_keptSize v_keptBefore v_keptAfter).bind fun r14 => if x5 < 0 ∨ 8 ≤ x5.toNatClampNeg then none else if x5 < 0 ∨ 8 ≤ x5.toNatClampNeg then none else if x4 ≤ 0 then (some (.inr (.inr (1, r14.1, (upd r14.2.1 x5.toNatClampNeg x6), (upd r14.2.2 x5.toNatClampNeg x7), r9.1, r9.2)))) else (if (x5 + x4) < 0 ∨ 8 ≤ (x5 + x4).toNatClampNeg then none else if (x5 + x4) < 0 ∨ 8 ≤ (x5 + x4).toNatClampNeg then none else some (.inr (.inr (1, r14.1, (upd (upd r14.2.1 x5.toNatClampNeg x6) (x5 + x4).toNatClampNeg x7), (upd (upd r14.2.2 x5.toNatClampNeg x7) (x5 + x4).toNatClampNeg x6), r9.1, r9.2)))))) else ((M_X12_alter n x1 (x5 + x4) x7 x6 v_kindOf v_placeA v_placeB r9.1 r9.2).bind fun r20 => (M_X12_isNothing x1 v_kindOf v_modOf r20.1 r20.2).bind fun r21 => if r21 = 0 then (some (.inl (x7 + 1, r20.1, r20.2))) else ((M_X12_beginKept n x3 v_keptSize v_keptBefore v_keptAfter).bind fun r24 => if x5 < 0 ∨ 8 ≤ x5.toNatClampNeg then none else if x5 < 0 ∨ 8 ≤ x5.toNatClampNeg then none else if x4 ≤ 0 then (some (.inr (.inr (1, r24.1, (upd r24.2.1 x5.toNatClampNeg x6), (upd r24.2.2 x5.toNatClampNeg x7), r20.1, r20.2)))) else (if (x5 + x4) < 0 ∨ 8 ≤ (x5 + x4).toNatClampNeg then none else if (x5 + x4) < 0 ∨ 8 ≤ (x5 + x4).toNatClampNeg then none else some (.inr (.inr (1, r24.1, (upd (upd r24.2.1 x5.toNatClampNeg x6) (x5 + x4).toNatClampNeg x7), (upd (upd r24.2.2 x5.toNatClampNeg x7) (x5 + x4).toNatClampNeg x6), r20.1, r20.2))))))))))

def M_X12_passesBytes_b36 (n : Nat) (x1 : Int32) (x2 : Int32) (x3 : Int32) (x4 : Int32) (x5 : Int32) (v_kindOf : (Nat → Int32)) (v_modOf : (Nat → Int32)) (v_keptSize : Int32) (v_keptBefore : (Nat → Int32)) (v_keptAfter : (Nat → Int32)) (v_placeA : (Nat → Int64)) (v_placeB : (Nat → Int64)) (x6 : Int32) (v_comesA : Int64) (v_comesB : Int64) : Option ((Int32 × Int64 × Int64) ⊕ ((Int64 × Int64) ⊕ (Int32 × Int32 × (Nat → Int32) × (Nat → Int32) × Int64 × Int64))) :=
  if 256 ≤ x6 then (some (.inr (.inl (v_comesA, v_comesB)))) else ((lp (fun x : (Int32 × Int64 × Int64) => M_X12_passesBytes_b47 n x1 x2 x3 x4 x5 x6 v_kindOf v_modOf v_keptSize v_keptBefore v_keptAfter v_placeA v_placeB x.1 x.2.1 x.2.2) n ((0 : Int32), v_comesA, v_comesB)).bind (Sum.elim (fun o94 => some (.inl (x6 + 1, o94.1, o94.2))) (fun r => some (.inr (.inr r)))))

def M_X12_passesBytes_b24 (n : Nat) (x1 : Int32) (x2 : Int32) (x3 : Int32) (x4 : Int32) (v_kindOf : (Nat → Int32)) (v_modOf : (Nat → Int32)) (v_keptSize : Int32) (v_keptBefore : (Nat → Int32)) (v_keptAfter : (Nat → Int32)) (v_placeA : (Nat → Int64)) (v_placeB : (Nat → Int64)) (x5 : Int32) (v_comesA : Int64) (v_comesB : Int64) : Option ((Int32 × Int64 × Int64) ⊕ ((Int64 × Int64) ⊕ (Int32 × Int32 × (Nat → Int32) × (Nat → Int32) × Int64 × Int64))) :=
  if x3 ≤ (x5 + x4) then (some (.inr (.inl (v_comesA, v_comesB)))) else ((lp (fun x : (Int32 × Int64 × Int64) => M_X12_passesBytes_b36 n x1 x2 x3 x4 x5 v_kindOf v_modOf v_keptSize v_keptBefore v_keptAfter v_placeA v_placeB x.1 x.2.1 x.2.2) n ((0 : Int32), v_comesA, v_comesB)).bind (Sum.elim (fun o95 => some (.inl (x5 + 1, o95.1, o95.2))) (fun r => some (.inr (.inr r)))))

def M_X12_passesBytes (n : Nat) (x1 : Int32) (x2 : Int32) (x3 : Int32) (v_kindOf : (Nat → Int32)) (v_modOf : (Nat → Int32)) (v_keptSize : Int32) (v_keptBefore : (Nat → Int32)) (v_keptAfter : (Nat → Int32)) (v_placeA : (Nat → Int64)) (v_placeB : (Nat → Int64)) (v_comesA : Int64) (v_comesB : Int64) : Option (Int32 × Int32 × (Nat → Int32) × (Nat → Int32) × Int64 × Int64) :=
  if x2 = 2 then ((lp (fun x : (Int32 × Int64 × Int64) => M_X12_passesBytes_b24 n x1 x2 x3 (0 : Int32) v_kindOf v_modOf v_keptSize v_keptBefore v_keptAfter v_placeA v_placeB x.1 x.2.1 x.2.2) n ((0 : Int32), v_comesA, v_comesB)).bind (Sum.elim (fun o98 => some (0, v_keptSize, v_keptBefore, v_keptAfter, o98.1, o98.2)) (fun r => some r))) else (if x2 = 4 then ((lp (fun x : (Int32 × Int64 × Int64) => M_X12_passesBytes_b24 n x1 x2 x3 (2 : Int32) v_kindOf v_modOf v_keptSize v_keptBefore v_keptAfter v_placeA v_placeB x.1 x.2.1 x.2.2) n ((0 : Int32), v_comesA, v_comesB)).bind (Sum.elim (fun o97 => some (0, v_keptSize, v_keptBefore, v_keptAfter, o97.1, o97.2)) (fun r => some r))) else ((lp (fun x : (Int32 × Int64 × Int64) => M_X12_passesBytes_b24 n x1 x2 x3 (1 : Int32) v_kindOf v_modOf v_keptSize v_keptBefore v_keptAfter v_placeA v_placeB x.1 x.2.1 x.2.2) n ((0 : Int32), v_comesA, v_comesB)).bind (Sum.elim (fun o96 => some (0, v_keptSize, v_keptBefore, v_keptAfter, o96.1, o96.2)) (fun r => some r))))

abbrev rmX12_passesBytes : Room := { frames := 3, cells := 0, slots := 0, locals := 70 }
set_option maxHeartbeats 4000000 in
set_option maxRecDepth 100000 in
theorem c_X12_passesBytes (l : Launch) (G : va_G) (cs : CS) (q : Nat → Nat) (sz : Nat) (v_told : Int32) (v_tell : (Nat → Int32)) (v_sums : Int32) (v_kindOf : (Nat → Int32)) (v_modOf : (Nat → Int32)) (v_bitsOf : (Nat → Int32)) (v_turnOf : (Nat → Int32)) (v_polyOf : (Nat → Int64)) (v_beginOf : (Nat → Int64)) (v_finishOf : (Nat → Int64)) (v_isLow : (Nat → Int32)) (v_weightsOf : (Nat → Int32)) (v_weight : (Nat → Int32)) (v_cell : (Nat → Int32)) (v_size : Int32) (v_row : (Nat → Int32)) (v_keptSize : Int32) (v_keptBefore : (Nat → Int32)) (v_keptAfter : (Nat → Int32)) (v_placeA : (Nat → Int64)) (v_placeB : (Nat → Int64)) (v_turned : (Nat → Int32)) (v_turnedMany : Int32) (v_syndromes : (Nat → Int64)) (v_lightest : (Nat → Int32)) (v_freeMany : Int32) (v_freePlace : (Nat → Int32)) (v_freeSyndrome : (Nat → Int64)) (v_ways : (Nat → Int32)) (v_waysKept : Int32) (v_trace : (Nat → Int32)) (v_comesA : Int64) (v_comesB : Int64)   (x1 : Int32) (x2 : Int32) (x3 : Int32) (n : Nat) (res : (Int32 × Int32 × (Nat → Int32) × (Nat → Int32) × Int64 × Int64)) (hm : M_X12_passesBytes n x1 x2 x3 v_kindOf v_modOf v_keptSize v_keptBefore v_keptAfter v_placeA v_placeB v_comesA v_comesB = some res) : Met l yX12_passesBytes wsX12_passesBytes rmX12_passesBytes (va_Pc [.ref (q 0), .int x1, .int x2, .int x3] (PreW G cs sz (ww_M q cs v_told v_tell v_sums v_kindOf v_modOf v_bitsOf v_turnOf v_polyOf v_beginOf v_finishOf v_isLow v_weightsOf v_weight v_cell v_size v_row v_keptSize v_keptBefore v_keptAfter v_placeA v_placeB v_turned v_turnedMany v_syndromes v_lightest v_freeMany v_freePlace v_freeSyndrome v_ways v_waysKept v_trace v_comesA v_comesB) RN)) (QI G res.1 (res.1 = 0 ∨ res.1 = 1) (ww_M q cs v_told v_tell v_sums v_kindOf v_modOf v_bitsOf v_turnOf v_polyOf v_beginOf v_finishOf v_isLow v_weightsOf v_weight v_cell v_size v_row res.2.1 res.2.2.1 res.2.2.2.1 v_placeA v_placeB v_turned v_turnedMany v_syndromes v_lightest v_freeMany v_freePlace v_freeSyndrome v_ways v_waysKept v_trace res.2.2.2.2.1 res.2.2.2.2.2) (va_A (ww_M q cs v_told v_tell v_sums v_kindOf v_modOf v_bitsOf v_turnOf v_polyOf v_beginOf v_finishOf v_isLow v_weightsOf v_weight v_cell v_size v_row v_keptSize v_keptBefore v_keptAfter v_placeA v_placeB v_turned v_turnedMany v_syndromes v_lightest v_freeMany v_freePlace v_freeSyndrome v_ways v_waysKept v_trace v_comesA v_comesB) sz)) 0 0 (va_A (ww_M q cs v_told v_tell v_sums v_kindOf v_modOf v_bitsOf v_turnOf v_polyOf v_beginOf v_finishOf v_isLow v_weightsOf v_weight v_cell v_size v_row v_keptSize v_keptBefore v_keptAfter v_placeA v_placeB v_turned v_turnedMany v_syndromes v_lightest v_freeMany v_freePlace v_freeSyndrome v_ways v_waysKept v_trace v_comesA v_comesB) sz) := by
  refine k_enter (Qf := fun A => QI G res.1 (res.1 = 0 ∨ res.1 = 1) (ww_M q cs v_told v_tell v_sums v_kindOf v_modOf v_bitsOf v_turnOf v_polyOf v_beginOf v_finishOf v_isLow v_weightsOf v_weight v_cell v_size v_row res.2.1 res.2.2.1 res.2.2.2.1 v_placeA v_placeB v_turned v_turnedMany v_syndromes v_lightest v_freeMany v_freePlace v_freeSyndrome v_ways v_waysKept v_trace res.2.2.2.2.1 res.2.2.2.2.2) A) (cc := cX12_passesBytes) (maxL := 10) (ret := (some .boolean)) (plainFor_of_name (by decide)) rfl (Nat.le_of_ble_eq_true rfl) ?_
  intro p e s m args below meth c A Q ls H locs hx hb hr hml hown hts hlocks hname hK hA hRo hP hD hS hQ hl
  have hl : lv_has ls 10 [(0, .ref (q 0)), (1, .int x1), (2, .int x2), (3, .int x3)] := hl
  have wd1 := hts (.fieldLink RX12 183 "SumSmithModel" "comesA" "J") (List.mem_of_getElem? (i := 1) rfl)
  have wd2 := hts (.fieldLink RX12 187 "SumSmithModel" "comesB" "J") (List.mem_of_getElem? (i := 2) rfl)
  have wd3 := hts (.fieldLink RX12 51 "SumSmithModel" "keptBefore" "[I") (List.mem_of_getElem? (i := 3) rfl)
  have wd4 := hts (.fieldLink RX12 54 "SumSmithModel" "keptAfter" "[I") (List.mem_of_getElem? (i := 4) rfl)
  have hinX12 : ∀ w ∈ wsX120, w ∈ wsX12_passesBytes := fun w h => List.mem_cons_of_mem _ (List.mem_append_right _ h)
  have L47 : ∀ (x1 : Int32) (x2 : Int32) (x3 : Int32) (x4 : Int32) (x5 : Int32) (x6 : Int32) (x7 : Int32) (v_keptSize : Int32) (v_keptBefore : (Nat → Int32)) (v_keptAfter : (Nat → Int32)) (v_comesA : Int64) (v_comesB : Int64) (out : ((Int64 × Int64) ⊕ (Int32 × Int32 × (Nat → Int32) × (Nat → Int32) × Int64 × Int64))), lp (fun x : (Int32 × Int64 × Int64) => M_X12_passesBytes_b47 n x1 x2 x3 x4 x5 x6 v_kindOf v_modOf v_keptSize v_keptBefore v_keptAfter v_placeA v_placeB x.1 x.2.1 x.2.2) n (x7, v_comesA, v_comesB) = some out → (∀ r, out = .inr r → r = res) → (∀ (o : (Int64 × Int64)), out = .inl o → ∀ (H : Heap) (locs : List Loc), va_P G vwCl (ww_M q cs v_told v_tell v_sums v_kindOf v_modOf v_bitsOf v_turnOf v_polyOf v_beginOf v_finishOf v_isLow v_weightsOf v_weight v_cell v_size v_row v_keptSize v_keptBefore v_keptAfter v_placeA v_placeB v_turned v_turnedMany v_syndromes v_lightest v_freeMany v_freePlace v_freeSyndrome v_ways v_waysKept v_trace o.1 o.2) H → va_D A (ww_M q cs v_told v_tell v_sums v_kindOf v_modOf v_bitsOf v_turnOf v_polyOf v_beginOf v_finishOf v_isLow v_weightsOf v_weight v_cell v_size v_row v_keptSize v_keptBefore v_keptAfter v_placeA v_placeB v_turned v_turnedMany v_syndromes v_lightest v_freeMany v_freePlace v_freeSyndrome v_ways v_waysKept v_trace o.1 o.2) → va_S A s.heap H locs → ∀ (ls : Array Slot), lv_has ls 10 [(0, .ref (q 0)), (1, .int x1), (2, .int x2), (3, .int x3), (4, .int x4), (5, .int x5), (6, .int x6)] → W p l e rmX12_passesBytes s m args below meth c H locs 0 0 Q (F0 m 198 ls [])) → ∀ (H : Heap) (locs : List Loc), va_P G vwCl (ww_M q cs v_told v_tell v_sums v_kindOf v_modOf v_bitsOf v_turnOf v_polyOf v_beginOf v_finishOf v_isLow v_weightsOf v_weight v_cell v_size v_row v_keptSize v_keptBefore v_keptAfter v_placeA v_placeB v_turned v_turnedMany v_syndromes v_lightest v_freeMany v_freePlace v_freeSyndrome v_ways v_waysKept v_trace v_comesA v_comesB) H → va_D A (ww_M q cs v_told v_tell v_sums v_kindOf v_modOf v_bitsOf v_turnOf v_polyOf v_beginOf v_finishOf v_isLow v_weightsOf v_weight v_cell v_size v_row v_keptSize v_keptBefore v_keptAfter v_placeA v_placeB v_turned v_turnedMany v_syndromes v_lightest v_freeMany v_freePlace v_freeSyndrome v_ways v_waysKept v_trace v_comesA v_comesB) → va_S A s.heap H locs → ∀ (ls : Array Slot), lv_has ls 10 [(0, .ref (q 0)), (1, .int x1), (2, .int x2), (3, .int x3), (4, .int x4), (5, .int x5), (6, .int x6), (7, .int x7)] → W p l e rmX12_passesBytes s m args below meth c H locs 0 0 Q (F0 m 47 ls []) := by
    intro x1 x2 x3 x4 x5 x6 x7 v_keptSize v_keptBefore v_keptAfter v_comesA v_comesB out hlp hret hX
    refine lp_ind (fun x => ∀ (H : Heap) (locs : List Loc), va_P G vwCl (ww_M q cs v_told v_tell v_sums v_kindOf v_modOf v_bitsOf v_turnOf v_polyOf v_beginOf v_finishOf v_isLow v_weightsOf v_weight v_cell v_size v_row v_keptSize v_keptBefore v_keptAfter v_placeA v_placeB v_turned v_turnedMany v_syndromes v_lightest v_freeMany v_freePlace v_freeSyndrome v_ways v_waysKept v_trace x.2.1 x.2.2) H → va_D A (ww_M q cs v_told v_tell v_sums v_kindOf v_modOf v_bitsOf v_turnOf v_polyOf v_beginOf v_finishOf v_isLow v_weightsOf v_weight v_cell v_size v_row v_keptSize v_keptBefore v_keptAfter v_placeA v_placeB v_turned v_turnedMany v_syndromes v_lightest v_freeMany v_freePlace v_freeSyndrome v_ways v_waysKept v_trace x.2.1 x.2.2) → va_S A s.heap H locs → ∀ (ls : Array Slot), lv_has ls 10 [(0, .ref (q 0)), (1, .int x1), (2, .int x2), (3, .int x3), (4, .int x4), (5, .int x5), (6, .int x6), (7, .int x.1)] → W p l e rmX12_passesBytes s m args below meth c H locs 0 0 Q (F0 m 47 ls [])) ?_ n (x7, v_comesA, v_comesB) hlp
    clear hlp hP hD hS hl
    rintro ⟨x7, v_comesA, v_comesB⟩ ob hm hst H locs hP hD hS ls hl
    have hm : M_X12_passesBytes_b47 n x1 x2 x3 x4 x5 x6 v_kindOf v_modOf v_keptSize v_keptBefore v_keptAfter v_placeA v_placeB x7 v_comesA v_comesB = some ob := hm
    have hl : lv_has ls 10 [(0, .ref (q 0)), (1, .int x1), (2, .int x2), (3, .int x3), (4, .int x4), (5, .int x5), (6, .int x6), (7, .int x7)] := hl
    have hP : va_P G vwCl (ww_M q cs v_told v_tell v_sums v_kindOf v_modOf v_bitsOf v_turnOf v_polyOf v_beginOf v_finishOf v_isLow v_weightsOf v_weight v_cell v_size v_row v_keptSize v_keptBefore v_keptAfter v_placeA v_placeB v_turned v_turnedMany v_syndromes v_lightest v_freeMany v_freePlace v_freeSyndrome v_ways v_waysKept v_trace v_comesA v_comesB) H := hP
    have hD : va_D A (ww_M q cs v_told v_tell v_sums v_kindOf v_modOf v_bitsOf v_turnOf v_polyOf v_beginOf v_finishOf v_isLow v_weightsOf v_weight v_cell v_size v_row v_keptSize v_keptBefore v_keptAfter v_placeA v_placeB v_turned v_turnedMany v_syndromes v_lightest v_freeMany v_freePlace v_freeSyndrome v_ways v_waysKept v_trace v_comesA v_comesB) := hD
    unfold M_X12_passesBytes_b47 at hm
    refine lv_iload hx hb dX12_passesBytes_47 (lv_at hl 7 rfl) ?_
    refine lv_sipush (v := 256) hx hb dX12_passesBytes_49 (by decide) ?_
    refine lv_icmp_ge (tgt := 198) hx hb dX12_passesBytes_52 (by decide) (fun b5 => ?_) (fun b5 => ?_)
    · have hm := i_t b5 hm
      exact hX _ (st_exit hm hst) H locs hP hD hS ls (lv_sub hl [0, 1, 2, 3, 4, 5, 6] rfl)
    · have hm := i_f b5 hm
      refine lv_iload hx hb dX12_passesBytes_55 (lv_at hl 6 rfl) ?_
      refine lv_iload hx hb dX12_passesBytes_57 (lv_at hl 7 rfl) ?_
      refine lv_icmp_eq (tgt := 192) hx hb dX12_passesBytes_59 (by decide) (fun b6 => ?_) (fun b6 => ?_)
      · have hm := i_t b6 hm
        refine lv_iinc (v := x7 + 1) (lv' := [(7, .int (x7 + 1)), (0, .ref (q 0)), (1, .int x1), (2, .int x2), (3, .int x3), (4, .int x4), (5, .int x5), (6, .int x6)]) hx hb dX12_passesBytes_192 hl (k := 7) rfl rfl (by decide) rfl (fun ls hl => ?_)
        refine lv_goto (tgt := 47) hx hb dX12_passesBytes_195 (by decide) ?_
        exact st_next hm hst H locs hP hD hS ls (lv_sub hl [1, 2, 3, 4, 5, 6, 7, 0] rfl)
      · have hm := i_f b6 hm
        refine lv_iload_n hx hb dX12_passesBytes_62 rfl (lv_at hl 2 rfl) ?_
        refine lv_iconst (v := 5) hx hb dX12_passesBytes_63 (by decide) ?_
        refine lv_icmp_ne (tgt := 72) hx hb dX12_passesBytes_64 (by decide) (fun b7 => ?_) (fun b7 => ?_)
        · have hm := i_f b7 hm
          refine lv_iload hx hb dX12_passesBytes_72 (lv_at hl 7 rfl) ?_
          refine lv_istore (lv' := [(8, .int x7), (0, .ref (q 0)), (1, .int x1), (2, .int x2), (3, .int x3), (4, .int x4), (5, .int x5), (6, .int x6), (7, .int x7)]) hx hb dX12_passesBytes_74 hl (by decide) rfl (fun ls hl => ?_)
          refine lv_iload_n hx hb dX12_passesBytes_76 rfl (lv_at hl 3 rfl) ?_
          refine lv_iconst (v := 5) hx hb dX12_passesBytes_77 (by decide) ?_
          refine lv_icmp_ne (tgt := 86) hx hb dX12_passesBytes_78 (by decide) (fun b8 => ?_) (fun b8 => ?_)
          · have hm := i_f b8 hm
            refine lv_iload hx hb dX12_passesBytes_86 (lv_at hl 7 rfl) ?_
            refine lv_istore (lv' := [(9, .int x6), (8, .int x7), (0, .ref (q 0)), (1, .int x1), (2, .int x2), (3, .int x3), (4, .int x4), (5, .int x5), (6, .int x6), (7, .int x7)]) hx hb dX12_passesBytes_88 hl (by decide) rfl (fun ls hl => ?_)
            refine lv_aload_n hx hb dX12_passesBytes_90 rfl (lv_at hl 2 rfl) ?_
            refine lv_lconst (v := 0) hx hb dX12_passesBytes_91 (by decide) ?_
            refine va_put (D := G) (ci := 10) (v := .long 0) (ty := .long) (C := RX12) (T := TX12) (N := 33) hx hb hts hinX12 tyX12 tyX12_ok nmX12 hown hK.1 hP hD hS 0 rfl rfl 31 (by decide) wd1 (fun _ h9 => h9) rfl (by decide +kernel) rfl rfl (Nat.le_of_ble_eq_true rfl) dX12_passesBytes_92 (fun H locs hP hD hS => ?_)
            have hP : va_P G vwCl (ww_M q cs v_told v_tell v_sums v_kindOf v_modOf v_bitsOf v_turnOf v_polyOf v_beginOf v_finishOf v_isLow v_weightsOf v_weight v_cell v_size v_row v_keptSize v_keptBefore v_keptAfter v_placeA v_placeB v_turned v_turnedMany v_syndromes v_lightest v_freeMany v_freePlace v_freeSyndrome v_ways v_waysKept v_trace 0 v_comesB) H := hP
            have hD : va_D A (ww_M q cs v_told v_tell v_sums v_kindOf v_modOf v_bitsOf v_turnOf v_polyOf v_beginOf v_finishOf v_isLow v_weightsOf v_weight v_cell v_size v_row v_keptSize v_keptBefore v_keptAfter v_placeA v_placeB v_turned v_turnedMany v_syndromes v_lightest v_freeMany v_freePlace v_freeSyndrome v_ways v_waysKept v_trace 0 v_comesB) := hD
            refine lv_aload_n hx hb dX12_passesBytes_95 rfl (lv_at hl 2 rfl) ?_
            refine lv_lconst (v := 0) hx hb dX12_passesBytes_96 (by decide) ?_
            refine va_put (D := G) (ci := 10) (v := .long 0) (ty := .long) (C := RX12) (T := TX12) (N := 33) hx hb hts hinX12 tyX12 tyX12_ok nmX12 hown hK.1 hP hD hS 0 rfl rfl 32 (by decide) wd2 (fun _ h9 => h9) rfl (by decide +kernel) rfl rfl (Nat.le_of_ble_eq_true rfl) dX12_passesBytes_97 (fun H locs hP hD hS => ?_)
            have hP : va_P G vwCl (ww_M q cs v_told v_tell v_sums v_kindOf v_modOf v_bitsOf v_turnOf v_polyOf v_beginOf v_finishOf v_isLow v_weightsOf v_weight v_cell v_size v_row v_keptSize v_keptBefore v_keptAfter v_placeA v_placeB v_turned v_turnedMany v_syndromes v_lightest v_freeMany v_freePlace v_freeSyndrome v_ways v_waysKept v_trace 0 0) H := hP
            have hD : va_D A (ww_M q cs v_told v_tell v_sums v_kindOf v_modOf v_bitsOf v_turnOf v_polyOf v_beginOf v_finishOf v_isLow v_weightsOf v_weight v_cell v_size v_row v_keptSize v_keptBefore v_keptAfter v_placeA v_placeB v_turned v_turnedMany v_syndromes v_lightest v_freeMany v_freePlace v_freeSyndrome v_ways v_waysKept v_trace 0 0) := hD
            refine lv_aload_n hx hb dX12_passesBytes_100 rfl (lv_at hl 2 rfl) ?_
            refine lv_iload_n hx hb dX12_passesBytes_101 rfl (lv_at hl 3 rfl) ?_
            refine lv_iload hx hb dX12_passesBytes_102 (lv_at hl 7 rfl) ?_
            refine lv_iload hx hb dX12_passesBytes_104 (lv_at hl 8 rfl) ?_
            refine lv_iload hx hb dX12_passesBytes_106 (lv_at hl 9 rfl) ?_
            obtain ⟨r9, hc_r9, hm⟩ := bs hm
            refine k_callv (va_runV (As := [.int x1, .int x5, .int x6, .int x7]) (rest := []) ⟨hx, hb, hml, hown, hts⟩ (c_X12_alter l G cs q H.size v_told v_tell v_sums v_kindOf v_modOf v_bitsOf v_turnOf v_polyOf v_beginOf v_finishOf v_isLow v_weightsOf v_weight v_cell v_size v_row v_keptSize v_keptBefore v_keptAfter v_placeA v_placeB v_turned v_turnedMany v_syndromes v_lightest v_freeMany v_freePlace v_freeSyndrome v_ways v_waysKept v_trace 0 0   x1 x5 x6 x7 n r9 hc_r9) (cwV 4 hts gX12_passesBytes_X12_alter rfl rfl rfl ⟨rfl, hd_X12_alter⟩ ⟨Nat.le_of_ble_eq_true rfl, Nat.le_of_ble_eq_true rfl⟩) ⟨pre_blind, va_recv hK.1 hP (ci := 10) (q0 := 0) rfl rfl, pre_w hK RO.nil hP hD (va_all hD hS hA)⟩ rfl rfl hl.1 rfl (lv_room (Nat.le_of_ble_eq_true rfl)) dX12_passesBytes_108 ⟨Nat.zero_le _, Nat.zero_le _⟩) hS (va_all hD hS hA) (fun H locs hP hD hS => ?_)
            have hP : va_P G vwCl (ww_M q cs v_told v_tell v_sums v_kindOf v_modOf v_bitsOf v_turnOf v_polyOf v_beginOf v_finishOf v_isLow v_weightsOf v_weight v_cell v_size v_row v_keptSize v_keptBefore v_keptAfter v_placeA v_placeB v_turned v_turnedMany v_syndromes v_lightest v_freeMany v_freePlace v_freeSyndrome v_ways v_waysKept v_trace r9.1 r9.2) H := hP
            have hD : va_D A (ww_M q cs v_told v_tell v_sums v_kindOf v_modOf v_bitsOf v_turnOf v_polyOf v_beginOf v_finishOf v_isLow v_weightsOf v_weight v_cell v_size v_row v_keptSize v_keptBefore v_keptAfter v_placeA v_placeB v_turned v_turnedMany v_syndromes v_lightest v_freeMany v_freePlace v_freeSyndrome v_ways v_waysKept v_trace r9.1 r9.2) := hD
            refine lv_iload hx hb dX12_passesBytes_111 (lv_at hl 6 rfl) ?_
            refine lv_if_le (tgt := 130) hx hb dX12_passesBytes_113 (by decide) (fun b10 => ?_) (fun b10 => ?_)
            · have hm := i_t b10 hm
              refine lv_aload_n hx hb dX12_passesBytes_130 rfl (lv_at hl 2 rfl) ?_
              refine lv_iload_n hx hb dX12_passesBytes_131 rfl (lv_at hl 3 rfl) ?_
              obtain ⟨r11, hc_r11, hm⟩ := bs hm
              refine k_calli (va_runV (As := [.int x1]) (rest := []) ⟨hx, hb, hml, hown, hts⟩ (c_X12_isNothing l G cs q H.size v_told v_tell v_sums v_kindOf v_modOf v_bitsOf v_turnOf v_polyOf v_beginOf v_finishOf v_isLow v_weightsOf v_weight v_cell v_size v_row v_keptSize v_keptBefore v_keptAfter v_placeA v_placeB v_turned v_turnedMany v_syndromes v_lightest v_freeMany v_freePlace v_freeSyndrome v_ways v_waysKept v_trace r9.1 r9.2   x1 r11 hc_r11) (cwV 1 hts gX12_passesBytes_X12_isNothing rfl rfl rfl ⟨rfl, hd_X12_isNothing⟩ ⟨Nat.le_of_ble_eq_true rfl, Nat.le_of_ble_eq_true rfl⟩) ⟨pre_blind, va_recv hK.1 hP (ci := 10) (q0 := 0) rfl rfl, pre_w hK RO.nil hP hD (va_all hD hS hA)⟩ rfl rfl hl.1 rfl (lv_room (Nat.le_of_ble_eq_true rfl)) dX12_passesBytes_132 ⟨Nat.zero_le _, Nat.zero_le _⟩) hS (va_all hD hS hA) (fun hE12 H locs hP hD hS => ?_)
              have hP : va_P G vwCl (ww_M q cs v_told v_tell v_sums v_kindOf v_modOf v_bitsOf v_turnOf v_polyOf v_beginOf v_finishOf v_isLow v_weightsOf v_weight v_cell v_size v_row v_keptSize v_keptBefore v_keptAfter v_placeA v_placeB v_turned v_turnedMany v_syndromes v_lightest v_freeMany v_freePlace v_freeSyndrome v_ways v_waysKept v_trace r9.1 r9.2) H := hP
              have hD : va_D A (ww_M q cs v_told v_tell v_sums v_kindOf v_modOf v_bitsOf v_turnOf v_polyOf v_beginOf v_finishOf v_isLow v_weightsOf v_weight v_cell v_size v_row v_keptSize v_keptBefore v_keptAfter v_placeA v_placeB v_turned v_turnedMany v_syndromes v_lightest v_freeMany v_freePlace v_freeSyndrome v_ways v_waysKept v_trace r9.1 r9.2) := hD
              refine lv_if_eq (tgt := 192) hx hb dX12_passesBytes_135 (by decide) (fun b13 => ?_) (fun b13 => ?_)
              · have hm := i_t b13 hm
                refine lv_iinc (v := x7 + 1) (lv' := [(7, .int (x7 + 1)), (9, .int x6), (8, .int x7), (0, .ref (q 0)), (1, .int x1), (2, .int x2), (3, .int x3), (4, .int x4), (5, .int x5), (6, .int x6)]) hx hb dX12_passesBytes_192 hl (k := 9) rfl rfl (by decide) rfl (fun ls hl => ?_)
                refine lv_goto (tgt := 47) hx hb dX12_passesBytes_195 (by decide) ?_
                exact st_next hm hst H locs hP hD hS ls (lv_sub hl [3, 4, 5, 6, 7, 8, 9, 0] rfl)
              · have hm := i_f b13 hm
                refine lv_aload_n hx hb dX12_passesBytes_138 rfl (lv_at hl 2 rfl) ?_
                refine lv_iload_n hx hb dX12_passesBytes_139 rfl (lv_at hl 5 rfl) ?_
                obtain ⟨r14, hc_r14, hm⟩ := bs hm
                refine k_callv (va_runV (As := [.int x3]) (rest := []) ⟨hx, hb, hml, hown, hts⟩ (c_X12_beginKept l G cs q H.size v_told v_tell v_sums v_kindOf v_modOf v_bitsOf v_turnOf v_polyOf v_beginOf v_finishOf v_isLow v_weightsOf v_weight v_cell v_size v_row v_keptSize v_keptBefore v_keptAfter v_placeA v_placeB v_turned v_turnedMany v_syndromes v_lightest v_freeMany v_freePlace v_freeSyndrome v_ways v_waysKept v_trace r9.1 r9.2   x3 n r14 hc_r14) (cwV 1 hts gX12_passesBytes_X12_beginKept rfl rfl rfl ⟨rfl, hd_X12_beginKept⟩ ⟨Nat.le_of_ble_eq_true rfl, Nat.le_of_ble_eq_true rfl⟩) ⟨pre_blind, va_recv hK.1 hP (ci := 10) (q0 := 0) rfl rfl, pre_w hK RO.nil hP hD (va_all hD hS hA)⟩ rfl rfl hl.1 rfl (lv_room (Nat.le_of_ble_eq_true rfl)) dX12_passesBytes_140 ⟨Nat.zero_le _, Nat.zero_le _⟩) hS (va_all hD hS hA) (fun H locs hP hD hS => ?_)
                have hP : va_P G vwCl (ww_M q cs v_told v_tell v_sums v_kindOf v_modOf v_bitsOf v_turnOf v_polyOf v_beginOf v_finishOf v_isLow v_weightsOf v_weight v_cell v_size v_row r14.1 r14.2.1 r14.2.2 v_placeA v_placeB v_turned v_turnedMany v_syndromes v_lightest v_freeMany v_freePlace v_freeSyndrome v_ways v_waysKept v_trace r9.1 r9.2) H := hP
                have hD : va_D A (ww_M q cs v_told v_tell v_sums v_kindOf v_modOf v_bitsOf v_turnOf v_polyOf v_beginOf v_finishOf v_isLow v_weightsOf v_weight v_cell v_size v_row r14.1 r14.2.1 r14.2.2 v_placeA v_placeB v_turned v_turnedMany v_syndromes v_lightest v_freeMany v_freePlace v_freeSyndrome v_ways v_waysKept v_trace r9.1 r9.2) := hD
                refine lv_aload_n hx hb dX12_passesBytes_143 rfl (lv_at hl 2 rfl) ?_
                refine va_get (D := G) (ci := 10) (v := .ref (q 14)) (C := RX12) (T := TX12) (N := 33) hx hb hts hinX12 hown hK.1 hP 0 rfl rfl 17 (by decide) wd3 (fun _ h9 => h9) rfl dX12_passesBytes_144 ?_
                refine lv_iload hx hb dX12_passesBytes_147 (lv_at hl 7 rfl) ?_
                refine lv_iload hx hb dX12_passesBytes_149 (lv_at hl 8 rfl) ?_
                obtain ⟨h15, hm⟩ := g_in hm
                refine va_iast hx hb hK.1 hP hD hS 14 0 rfl rfl h15 dX12_passesBytes_151 (fun H locs hP hD hS => ?_)
                have hP : va_P G vwCl (ww_M q cs v_told v_tell v_sums v_kindOf v_modOf v_bitsOf v_turnOf v_polyOf v_beginOf v_finishOf v_isLow v_weightsOf v_weight v_cell v_size v_row r14.1 (upd r14.2.1 x5.toNatClampNeg x6) r14.2.2 v_placeA v_placeB v_turned v_turnedMany v_syndromes v_lightest v_freeMany v_freePlace v_freeSyndrome v_ways v_waysKept v_trace r9.1 r9.2) H := hP
                have hD : va_D A (ww_M q cs v_told v_tell v_sums v_kindOf v_modOf v_bitsOf v_turnOf v_polyOf v_beginOf v_finishOf v_isLow v_weightsOf v_weight v_cell v_size v_row r14.1 (upd r14.2.1 x5.toNatClampNeg x6) r14.2.2 v_placeA v_placeB v_turned v_turnedMany v_syndromes v_lightest v_freeMany v_freePlace v_freeSyndrome v_ways v_waysKept v_trace r9.1 r9.2) := hD
                refine lv_aload_n hx hb dX12_passesBytes_152 rfl (lv_at hl 2 rfl) ?_
                refine va_get (D := G) (ci := 10) (v := .ref (q 15)) (C := RX12) (T := TX12) (N := 33) hx hb hts hinX12 hown hK.1 hP 0 rfl rfl 18 (by decide) wd4 (fun _ h9 => h9) rfl dX12_passesBytes_153 ?_
                refine lv_iload hx hb dX12_passesBytes_156 (lv_at hl 7 rfl) ?_
                refine lv_iload hx hb dX12_passesBytes_158 (lv_at hl 9 rfl) ?_
                obtain ⟨h16, hm⟩ := g_in hm
                refine va_iast hx hb hK.1 hP hD hS 15 0 rfl rfl h16 dX12_passesBytes_160 (fun H locs hP hD hS => ?_)
                have hP : va_P G vwCl (ww_M q cs v_told v_tell v_sums v_kindOf v_modOf v_bitsOf v_turnOf v_polyOf v_beginOf v_finishOf v_isLow v_weightsOf v_weight v_cell v_size v_row r14.1 (upd r14.2.1 x5.toNatClampNeg x6) (upd r14.2.2 x5.toNatClampNeg x7) v_placeA v_placeB v_turned v_turnedMany v_syndromes v_lightest v_freeMany v_freePlace v_freeSyndrome v_ways v_waysKept v_trace r9.1 r9.2) H := hP
                have hD : va_D A (ww_M q cs v_told v_tell v_sums v_kindOf v_modOf v_bitsOf v_turnOf v_polyOf v_beginOf v_finishOf v_isLow v_weightsOf v_weight v_cell v_size v_row r14.1 (upd r14.2.1 x5.toNatClampNeg x6) (upd r14.2.2 x5.toNatClampNeg x7) v_placeA v_placeB v_turned v_turnedMany v_syndromes v_lightest v_freeMany v_freePlace v_freeSyndrome v_ways v_waysKept v_trace r9.1 r9.2) := hD
                refine lv_iload hx hb dX12_passesBytes_161 (lv_at hl 6 rfl) ?_
                refine lv_if_le (tgt := 190) hx hb dX12_passesBytes_163 (by decide) (fun b17 => ?_) (fun b17 => ?_)
                · have hm := i_t b17 hm
                  refine lv_iconst (v := 1) hx hb dX12_passesBytes_190 (by decide) ?_
                  have hq := hret _ (st_exit hm hst)
                  subst hq; subst hQ
                  exact k_zret hx hb hr hlocks hP hD hS rfl (by decide) dX12_passesBytes_191
                · have hm := i_f b17 hm
                  refine lv_aload_n hx hb dX12_passesBytes_166 rfl (lv_at hl 2 rfl) ?_
                  refine va_get (D := G) (ci := 10) (v := .ref (q 14)) (C := RX12) (T := TX12) (N := 33) hx hb hts hinX12 hown hK.1 hP 0 rfl rfl 17 (by decide) wd3 (fun _ h9 => h9) rfl dX12_passesBytes_167 ?_
                  refine lv_iload hx hb dX12_passesBytes_170 (lv_at hl 7 rfl) ?_
                  refine lv_iload hx hb dX12_passesBytes_172 (lv_at hl 6 rfl) ?_
                  refine lv_iadd hx hb dX12_passesBytes_174 ?_
                  refine lv_iload hx hb dX12_passesBytes_175 (lv_at hl 1 rfl) ?_
                  obtain ⟨h18, hm⟩ := g_in hm
                  refine va_iast hx hb hK.1 hP hD hS 14 0 rfl rfl h18 dX12_passesBytes_177 (fun H locs hP hD hS => ?_)
                  have hP : va_P G vwCl (ww_M q cs v_told v_tell v_sums v_kindOf v_modOf v_bitsOf v_turnOf v_polyOf v_beginOf v_finishOf v_isLow v_weightsOf v_weight v_cell v_size v_row r14.1 (upd (upd r14.2.1 x5.toNatClampNeg x6) (x5 + x4).toNatClampNeg x7) (upd r14.2.2 x5.toNatClampNeg x7) v_placeA v_placeB v_turned v_turnedMany v_syndromes v_lightest v_freeMany v_freePlace v_freeSyndrome v_ways v_waysKept v_trace r9.1 r9.2) H := hP
                  have hD : va_D A (ww_M q cs v_told v_tell v_sums v_kindOf v_modOf v_bitsOf v_turnOf v_polyOf v_beginOf v_finishOf v_isLow v_weightsOf v_weight v_cell v_size v_row r14.1 (upd (upd r14.2.1 x5.toNatClampNeg x6) (x5 + x4).toNatClampNeg x7) (upd r14.2.2 x5.toNatClampNeg x7) v_placeA v_placeB v_turned v_turnedMany v_syndromes v_lightest v_freeMany v_freePlace v_freeSyndrome v_ways v_waysKept v_trace r9.1 r9.2) := hD
                  refine lv_aload_n hx hb dX12_passesBytes_178 rfl (lv_at hl 2 rfl) ?_
                  refine va_get (D := G) (ci := 10) (v := .ref (q 15)) (C := RX12) (T := TX12) (N := 33) hx hb hts hinX12 hown hK.1 hP 0 rfl rfl 18 (by decide) wd4 (fun _ h9 => h9) rfl dX12_passesBytes_179 ?_
                  refine lv_iload hx hb dX12_passesBytes_182 (lv_at hl 7 rfl) ?_
                  refine lv_iload hx hb dX12_passesBytes_184 (lv_at hl 6 rfl) ?_
                  refine lv_iadd hx hb dX12_passesBytes_186 ?_
                  refine lv_iload hx hb dX12_passesBytes_187 (lv_at hl 0 rfl) ?_
                  obtain ⟨h19, hm⟩ := g_in hm
                  refine va_iast hx hb hK.1 hP hD hS 15 0 rfl rfl h19 dX12_passesBytes_189 (fun H locs hP hD hS => ?_)
                  have hP : va_P G vwCl (ww_M q cs v_told v_tell v_sums v_kindOf v_modOf v_bitsOf v_turnOf v_polyOf v_beginOf v_finishOf v_isLow v_weightsOf v_weight v_cell v_size v_row r14.1 (upd (upd r14.2.1 x5.toNatClampNeg x6) (x5 + x4).toNatClampNeg x7) (upd (upd r14.2.2 x5.toNatClampNeg x7) (x5 + x4).toNatClampNeg x6) v_placeA v_placeB v_turned v_turnedMany v_syndromes v_lightest v_freeMany v_freePlace v_freeSyndrome v_ways v_waysKept v_trace r9.1 r9.2) H := hP
                  have hD : va_D A (ww_M q cs v_told v_tell v_sums v_kindOf v_modOf v_bitsOf v_turnOf v_polyOf v_beginOf v_finishOf v_isLow v_weightsOf v_weight v_cell v_size v_row r14.1 (upd (upd r14.2.1 x5.toNatClampNeg x6) (x5 + x4).toNatClampNeg x7) (upd (upd r14.2.2 x5.toNatClampNeg x7) (x5 + x4).toNatClampNeg x6) v_placeA v_placeB v_turned v_turnedMany v_syndromes v_lightest v_freeMany v_freePlace v_freeSyndrome v_ways v_waysKept v_trace r9.1 r9.2) := hD
                  refine lv_iconst (v := 1) hx hb dX12_passesBytes_190 (by decide) ?_
                  have hq := hret _ (st_exit hm hst)
                  subst hq; subst hQ
                  exact k_zret hx hb hr hlocks hP hD hS rfl (by decide) dX12_passesBytes_191
            · have hm := i_f b10 hm
              refine lv_aload_n hx hb dX12_passesBytes_116 rfl (lv_at hl 2 rfl) ?_
              refine lv_iload_n hx hb dX12_passesBytes_117 rfl (lv_at hl 3 rfl) ?_
              refine lv_iload hx hb dX12_passesBytes_118 (lv_at hl 7 rfl) ?_
              refine lv_iload hx hb dX12_passesBytes_120 (lv_at hl 6 rfl) ?_
              refine lv_iadd hx hb dX12_passesBytes_122 ?_
              refine lv_iload hx hb dX12_passesBytes_123 (lv_at hl 1 rfl) ?_
              refine lv_iload hx hb dX12_passesBytes_125 (lv_at hl 0 rfl) ?_
              obtain ⟨r20, hc_r20, hm⟩ := bs hm
              refine k_callv (va_runV (As := [.int x1, .int (x5 + x4), .int x7, .int x6]) (rest := []) ⟨hx, hb, hml, hown, hts⟩ (c_X12_alter l G cs q H.size v_told v_tell v_sums v_kindOf v_modOf v_bitsOf v_turnOf v_polyOf v_beginOf v_finishOf v_isLow v_weightsOf v_weight v_cell v_size v_row v_keptSize v_keptBefore v_keptAfter v_placeA v_placeB v_turned v_turnedMany v_syndromes v_lightest v_freeMany v_freePlace v_freeSyndrome v_ways v_waysKept v_trace r9.1 r9.2   x1 (x5 + x4) x7 x6 n r20 hc_r20) (cwV 4 hts gX12_passesBytes_X12_alter rfl rfl rfl ⟨rfl, hd_X12_alter⟩ ⟨Nat.le_of_ble_eq_true rfl, Nat.le_of_ble_eq_true rfl⟩) ⟨pre_blind, va_recv hK.1 hP (ci := 10) (q0 := 0) rfl rfl, pre_w hK RO.nil hP hD (va_all hD hS hA)⟩ rfl rfl hl.1 rfl (lv_room (Nat.le_of_ble_eq_true rfl)) dX12_passesBytes_127 ⟨Nat.zero_le _, Nat.zero_le _⟩) hS (va_all hD hS hA) (fun H locs hP hD hS => ?_)
              have hP : va_P G vwCl (ww_M q cs v_told v_tell v_sums v_kindOf v_modOf v_bitsOf v_turnOf v_polyOf v_beginOf v_finishOf v_isLow v_weightsOf v_weight v_cell v_size v_row v_keptSize v_keptBefore v_keptAfter v_placeA v_placeB v_turned v_turnedMany v_syndromes v_lightest v_freeMany v_freePlace v_freeSyndrome v_ways v_waysKept v_trace r20.1 r20.2) H := hP
              have hD : va_D A (ww_M q cs v_told v_tell v_sums v_kindOf v_modOf v_bitsOf v_turnOf v_polyOf v_beginOf v_finishOf v_isLow v_weightsOf v_weight v_cell v_size v_row v_keptSize v_keptBefore v_keptAfter v_placeA v_placeB v_turned v_turnedMany v_syndromes v_lightest v_freeMany v_freePlace v_freeSyndrome v_ways v_waysKept v_trace r20.1 r20.2) := hD
              refine lv_aload_n hx hb dX12_passesBytes_130 rfl (lv_at hl 2 rfl) ?_
              refine lv_iload_n hx hb dX12_passesBytes_131 rfl (lv_at hl 3 rfl) ?_
              obtain ⟨r21, hc_r21, hm⟩ := bs hm
              refine k_calli (va_runV (As := [.int x1]) (rest := []) ⟨hx, hb, hml, hown, hts⟩ (c_X12_isNothing l G cs q H.size v_told v_tell v_sums v_kindOf v_modOf v_bitsOf v_turnOf v_polyOf v_beginOf v_finishOf v_isLow v_weightsOf v_weight v_cell v_size v_row v_keptSize v_keptBefore v_keptAfter v_placeA v_placeB v_turned v_turnedMany v_syndromes v_lightest v_freeMany v_freePlace v_freeSyndrome v_ways v_waysKept v_trace r20.1 r20.2   x1 r21 hc_r21) (cwV 1 hts gX12_passesBytes_X12_isNothing rfl rfl rfl ⟨rfl, hd_X12_isNothing⟩ ⟨Nat.le_of_ble_eq_true rfl, Nat.le_of_ble_eq_true rfl⟩) ⟨pre_blind, va_recv hK.1 hP (ci := 10) (q0 := 0) rfl rfl, pre_w hK RO.nil hP hD (va_all hD hS hA)⟩ rfl rfl hl.1 rfl (lv_room (Nat.le_of_ble_eq_true rfl)) dX12_passesBytes_132 ⟨Nat.zero_le _, Nat.zero_le _⟩) hS (va_all hD hS hA) (fun hE22 H locs hP hD hS => ?_)
              have hP : va_P G vwCl (ww_M q cs v_told v_tell v_sums v_kindOf v_modOf v_bitsOf v_turnOf v_polyOf v_beginOf v_finishOf v_isLow v_weightsOf v_weight v_cell v_size v_row v_keptSize v_keptBefore v_keptAfter v_placeA v_placeB v_turned v_turnedMany v_syndromes v_lightest v_freeMany v_freePlace v_freeSyndrome v_ways v_waysKept v_trace r20.1 r20.2) H := hP
              have hD : va_D A (ww_M q cs v_told v_tell v_sums v_kindOf v_modOf v_bitsOf v_turnOf v_polyOf v_beginOf v_finishOf v_isLow v_weightsOf v_weight v_cell v_size v_row v_keptSize v_keptBefore v_keptAfter v_placeA v_placeB v_turned v_turnedMany v_syndromes v_lightest v_freeMany v_freePlace v_freeSyndrome v_ways v_waysKept v_trace r20.1 r20.2) := hD
              refine lv_if_eq (tgt := 192) hx hb dX12_passesBytes_135 (by decide) (fun b23 => ?_) (fun b23 => ?_)
              · have hm := i_t b23 hm
                refine lv_iinc (v := x7 + 1) (lv' := [(7, .int (x7 + 1)), (9, .int x6), (8, .int x7), (0, .ref (q 0)), (1, .int x1), (2, .int x2), (3, .int x3), (4, .int x4), (5, .int x5), (6, .int x6)]) hx hb dX12_passesBytes_192 hl (k := 9) rfl rfl (by decide) rfl (fun ls hl => ?_)
                refine lv_goto (tgt := 47) hx hb dX12_passesBytes_195 (by decide) ?_
                exact st_next hm hst H locs hP hD hS ls (lv_sub hl [3, 4, 5, 6, 7, 8, 9, 0] rfl)
              · have hm := i_f b23 hm
                refine lv_aload_n hx hb dX12_passesBytes_138 rfl (lv_at hl 2 rfl) ?_
                refine lv_iload_n hx hb dX12_passesBytes_139 rfl (lv_at hl 5 rfl) ?_
                obtain ⟨r24, hc_r24, hm⟩ := bs hm
                refine k_callv (va_runV (As := [.int x3]) (rest := []) ⟨hx, hb, hml, hown, hts⟩ (c_X12_beginKept l G cs q H.size v_told v_tell v_sums v_kindOf v_modOf v_bitsOf v_turnOf v_polyOf v_beginOf v_finishOf v_isLow v_weightsOf v_weight v_cell v_size v_row v_keptSize v_keptBefore v_keptAfter v_placeA v_placeB v_turned v_turnedMany v_syndromes v_lightest v_freeMany v_freePlace v_freeSyndrome v_ways v_waysKept v_trace r20.1 r20.2   x3 n r24 hc_r24) (cwV 1 hts gX12_passesBytes_X12_beginKept rfl rfl rfl ⟨rfl, hd_X12_beginKept⟩ ⟨Nat.le_of_ble_eq_true rfl, Nat.le_of_ble_eq_true rfl⟩) ⟨pre_blind, va_recv hK.1 hP (ci := 10) (q0 := 0) rfl rfl, pre_w hK RO.nil hP hD (va_all hD hS hA)⟩ rfl rfl hl.1 rfl (lv_room (Nat.le_of_ble_eq_true rfl)) dX12_passesBytes_140 ⟨Nat.zero_le _, Nat.zero_le _⟩) hS (va_all hD hS hA) (fun H locs hP hD hS => ?_)
                have hP : va_P G vwCl (ww_M q cs v_told v_tell v_sums v_kindOf v_modOf v_bitsOf v_turnOf v_polyOf v_beginOf v_finishOf v_isLow v_weightsOf v_weight v_cell v_size v_row r24.1 r24.2.1 r24.2.2 v_placeA v_placeB v_turned v_turnedMany v_syndromes v_lightest v_freeMany v_freePlace v_freeSyndrome v_ways v_waysKept v_trace r20.1 r20.2) H := hP
                have hD : va_D A (ww_M q cs v_told v_tell v_sums v_kindOf v_modOf v_bitsOf v_turnOf v_polyOf v_beginOf v_finishOf v_isLow v_weightsOf v_weight v_cell v_size v_row r24.1 r24.2.1 r24.2.2 v_placeA v_placeB v_turned v_turnedMany v_syndromes v_lightest v_freeMany v_freePlace v_freeSyndrome v_ways v_waysKept v_trace r20.1 r20.2) := hD
                refine lv_aload_n hx hb dX12_passesBytes_143 rfl (lv_at hl 2 rfl) ?_
                refine va_get (D := G) (ci := 10) (v := .ref (q 14)) (C := RX12) (T := TX12) (N := 33) hx hb hts hinX12 hown hK.1 hP 0 rfl rfl 17 (by decide) wd3 (fun _ h9 => h9) rfl dX12_passesBytes_144 ?_
                refine lv_iload hx hb dX12_passesBytes_147 (lv_at hl 7 rfl) ?_
                refine lv_iload hx hb dX12_passesBytes_149 (lv_at hl 8 rfl) ?_
                obtain ⟨h25, hm⟩ := g_in hm
                refine va_iast hx hb hK.1 hP hD hS 14 0 rfl rfl h25 dX12_passesBytes_151 (fun H locs hP hD hS => ?_)
                have hP : va_P G vwCl (ww_M q cs v_told v_tell v_sums v_kindOf v_modOf v_bitsOf v_turnOf v_polyOf v_beginOf v_finishOf v_isLow v_weightsOf v_weight v_cell v_size v_row r24.1 (upd r24.2.1 x5.toNatClampNeg x6) r24.2.2 v_placeA v_placeB v_turned v_turnedMany v_syndromes v_lightest v_freeMany v_freePlace v_freeSyndrome v_ways v_waysKept v_trace r20.1 r20.2) H := hP
                have hD : va_D A (ww_M q cs v_told v_tell v_sums v_kindOf v_modOf v_bitsOf v_turnOf v_polyOf v_beginOf v_finishOf v_isLow v_weightsOf v_weight v_cell v_size v_row r24.1 (upd r24.2.1 x5.toNatClampNeg x6) r24.2.2 v_placeA v_placeB v_turned v_turnedMany v_syndromes v_lightest v_freeMany v_freePlace v_freeSyndrome v_ways v_waysKept v_trace r20.1 r20.2) := hD
                refine lv_aload_n hx hb dX12_passesBytes_152 rfl (lv_at hl 2 rfl) ?_
                refine va_get (D := G) (ci := 10) (v := .ref (q 15)) (C := RX12) (T := TX12) (N := 33) hx hb hts hinX12 hown hK.1 hP 0 rfl rfl 18 (by decide) wd4 (fun _ h9 => h9) rfl dX12_passesBytes_153 ?_
                refine lv_iload hx hb dX12_passesBytes_156 (lv_at hl 7 rfl) ?_
                refine lv_iload hx hb dX12_passesBytes_158 (lv_at hl 9 rfl) ?_
                obtain ⟨h26, hm⟩ := g_in hm
                refine va_iast hx hb hK.1 hP hD hS 15 0 rfl rfl h26 dX12_passesBytes_160 (fun H locs hP hD hS => ?_)
                have hP : va_P G vwCl (ww_M q cs v_told v_tell v_sums v_kindOf v_modOf v_bitsOf v_turnOf v_polyOf v_beginOf v_finishOf v_isLow v_weightsOf v_weight v_cell v_size v_row r24.1 (upd r24.2.1 x5.toNatClampNeg x6) (upd r24.2.2 x5.toNatClampNeg x7) v_placeA v_placeB v_turned v_turnedMany v_syndromes v_lightest v_freeMany v_freePlace v_freeSyndrome v_ways v_waysKept v_trace r20.1 r20.2) H := hP
                have hD : va_D A (ww_M q cs v_told v_tell v_sums v_kindOf v_modOf v_bitsOf v_turnOf v_polyOf v_beginOf v_finishOf v_isLow v_weightsOf v_weight v_cell v_size v_row r24.1 (upd r24.2.1 x5.toNatClampNeg x6) (upd r24.2.2 x5.toNatClampNeg x7) v_placeA v_placeB v_turned v_turnedMany v_syndromes v_lightest v_freeMany v_freePlace v_freeSyndrome v_ways v_waysKept v_trace r20.1 r20.2) := hD
                refine lv_iload hx hb dX12_passesBytes_161 (lv_at hl 6 rfl) ?_
                refine lv_if_le (tgt := 190) hx hb dX12_passesBytes_163 (by decide) (fun b27 => ?_) (fun b27 => ?_)
                · have hm := i_t b27 hm
                  refine lv_iconst (v := 1) hx hb dX12_passesBytes_190 (by decide) ?_
                  have hq := hret _ (st_exit hm hst)
                  subst hq; subst hQ
                  exact k_zret hx hb hr hlocks hP hD hS rfl (by decide) dX12_passesBytes_191
                · have hm := i_f b27 hm
                  refine lv_aload_n hx hb dX12_passesBytes_166 rfl (lv_at hl 2 rfl) ?_
                  refine va_get (D := G) (ci := 10) (v := .ref (q 14)) (C := RX12) (T := TX12) (N := 33) hx hb hts hinX12 hown hK.1 hP 0 rfl rfl 17 (by decide) wd3 (fun _ h9 => h9) rfl dX12_passesBytes_167 ?_
                  refine lv_iload hx hb dX12_passesBytes_170 (lv_at hl 7 rfl) ?_
                  refine lv_iload hx hb dX12_passesBytes_172 (lv_at hl 6 rfl) ?_
                  refine lv_iadd hx hb dX12_passesBytes_174 ?_
                  refine lv_iload hx hb dX12_passesBytes_175 (lv_at hl 1 rfl) ?_
                  obtain ⟨h28, hm⟩ := g_in hm
                  refine va_iast hx hb hK.1 hP hD hS 14 0 rfl rfl h28 dX12_passesBytes_177 (fun H locs hP hD hS => ?_)
                  have hP : va_P G vwCl (ww_M q cs v_told v_tell v_sums v_kindOf v_modOf v_bitsOf v_turnOf v_polyOf v_beginOf v_finishOf v_isLow v_weightsOf v_weight v_cell v_size v_row r24.1 (upd (upd r24.2.1 x5.toNatClampNeg x6) (x5 + x4).toNatClampNeg x7) (upd r24.2.2 x5.toNatClampNeg x7) v_placeA v_placeB v_turned v_turnedMany v_syndromes v_lightest v_freeMany v_freePlace v_freeSyndrome v_ways v_waysKept v_trace r20.1 r20.2) H := hP
                  have hD : va_D A (ww_M q cs v_told v_tell v_sums v_kindOf v_modOf v_bitsOf v_turnOf v_polyOf v_beginOf v_finishOf v_isLow v_weightsOf v_weight v_cell v_size v_row r24.1 (upd (upd r24.2.1 x5.toNatClampNeg x6) (x5 + x4).toNatClampNeg x7) (upd r24.2.2 x5.toNatClampNeg x7) v_placeA v_placeB v_turned v_turnedMany v_syndromes v_lightest v_freeMany v_freePlace v_freeSyndrome v_ways v_waysKept v_trace r20.1 r20.2) := hD
                  refine lv_aload_n hx hb dX12_passesBytes_178 rfl (lv_at hl 2 rfl) ?_
                  refine va_get (D := G) (ci := 10) (v := .ref (q 15)) (C := RX12) (T := TX12) (N := 33) hx hb hts hinX12 hown hK.1 hP 0 rfl rfl 18 (by decide) wd4 (fun _ h9 => h9) rfl dX12_passesBytes_179 ?_
                  refine lv_iload hx hb dX12_passesBytes_182 (lv_at hl 7 rfl) ?_
                  refine lv_iload hx hb dX12_passesBytes_184 (lv_at hl 6 rfl) ?_
                  refine lv_iadd hx hb dX12_passesBytes_186 ?_
                  refine lv_iload hx hb dX12_passesBytes_187 (lv_at hl 0 rfl) ?_
                  obtain ⟨h29, hm⟩ := g_in hm
                  refine va_iast hx hb hK.1 hP hD hS 15 0 rfl rfl h29 dX12_passesBytes_189 (fun H locs hP hD hS => ?_)
                  have hP : va_P G vwCl (ww_M q cs v_told v_tell v_sums v_kindOf v_modOf v_bitsOf v_turnOf v_polyOf v_beginOf v_finishOf v_isLow v_weightsOf v_weight v_cell v_size v_row r24.1 (upd (upd r24.2.1 x5.toNatClampNeg x6) (x5 + x4).toNatClampNeg x7) (upd (upd r24.2.2 x5.toNatClampNeg x7) (x5 + x4).toNatClampNeg x6) v_placeA v_placeB v_turned v_turnedMany v_syndromes v_lightest v_freeMany v_freePlace v_freeSyndrome v_ways v_waysKept v_trace r20.1 r20.2) H := hP
                  have hD : va_D A (ww_M q cs v_told v_tell v_sums v_kindOf v_modOf v_bitsOf v_turnOf v_polyOf v_beginOf v_finishOf v_isLow v_weightsOf v_weight v_cell v_size v_row r24.1 (upd (upd r24.2.1 x5.toNatClampNeg x6) (x5 + x4).toNatClampNeg x7) (upd (upd r24.2.2 x5.toNatClampNeg x7) (x5 + x4).toNatClampNeg x6) v_placeA v_placeB v_turned v_turnedMany v_syndromes v_lightest v_freeMany v_freePlace v_freeSyndrome v_ways v_waysKept v_trace r20.1 r20.2) := hD
                  refine lv_iconst (v := 1) hx hb dX12_passesBytes_190 (by decide) ?_
                  have hq := hret _ (st_exit hm hst)
                  subst hq; subst hQ
                  exact k_zret hx hb hr hlocks hP hD hS rfl (by decide) dX12_passesBytes_191
          · have hm := i_t b8 hm
            refine lv_iload hx hb dX12_passesBytes_81 (lv_at hl 8 rfl) ?_
            refine lv_goto (tgt := 88) hx hb dX12_passesBytes_83 (by decide) ?_
            refine lv_istore (lv' := [(9, .int x7), (8, .int x7), (0, .ref (q 0)), (1, .int x1), (2, .int x2), (3, .int x3), (4, .int x4), (5, .int x5), (6, .int x6), (7, .int x7)]) hx hb dX12_passesBytes_88 hl (by decide) rfl (fun ls hl => ?_)
            refine lv_aload_n hx hb dX12_passesBytes_90 rfl (lv_at hl 2 rfl) ?_
            refine lv_lconst (v := 0) hx hb dX12_passesBytes_91 (by decide) ?_
            refine va_put (D := G) (ci := 10) (v := .long 0) (ty := .long) (C := RX12) (T := TX12) (N := 33) hx hb hts hinX12 tyX12 tyX12_ok nmX12 hown hK.1 hP hD hS 0 rfl rfl 31 (by decide) wd1 (fun _ h9 => h9) rfl (by decide +kernel) rfl rfl (Nat.le_of_ble_eq_true rfl) dX12_passesBytes_92 (fun H locs hP hD hS => ?_)
            have hP : va_P G vwCl (ww_M q cs v_told v_tell v_sums v_kindOf v_modOf v_bitsOf v_turnOf v_polyOf v_beginOf v_finishOf v_isLow v_weightsOf v_weight v_cell v_size v_row v_keptSize v_keptBefore v_keptAfter v_placeA v_placeB v_turned v_turnedMany v_syndromes v_lightest v_freeMany v_freePlace v_freeSyndrome v_ways v_waysKept v_trace 0 v_comesB) H := hP
            have hD : va_D A (ww_M q cs v_told v_tell v_sums v_kindOf v_modOf v_bitsOf v_turnOf v_polyOf v_beginOf v_finishOf v_isLow v_weightsOf v_weight v_cell v_size v_row v_keptSize v_keptBefore v_keptAfter v_placeA v_placeB v_turned v_turnedMany v_syndromes v_lightest v_freeMany v_freePlace v_freeSyndrome v_ways v_waysKept v_trace 0 v_comesB) := hD
            refine lv_aload_n hx hb dX12_passesBytes_95 rfl (lv_at hl 2 rfl) ?_
            refine lv_lconst (v := 0) hx hb dX12_passesBytes_96 (by decide) ?_
            refine va_put (D := G) (ci := 10) (v := .long 0) (ty := .long) (C := RX12) (T := TX12) (N := 33) hx hb hts hinX12 tyX12 tyX12_ok nmX12 hown hK.1 hP hD hS 0 rfl rfl 32 (by decide) wd2 (fun _ h9 => h9) rfl (by decide +kernel) rfl rfl (Nat.le_of_ble_eq_true rfl) dX12_passesBytes_97 (fun H locs hP hD hS => ?_)
            have hP : va_P G vwCl (ww_M q cs v_told v_tell v_sums v_kindOf v_modOf v_bitsOf v_turnOf v_polyOf v_beginOf v_finishOf v_isLow v_weightsOf v_weight v_cell v_size v_row v_keptSize v_keptBefore v_keptAfter v_placeA v_placeB v_turned v_turnedMany v_syndromes v_lightest v_freeMany v_freePlace v_freeSyndrome v_ways v_waysKept v_trace 0 0) H := hP
            have hD : va_D A (ww_M q cs v_told v_tell v_sums v_kindOf v_modOf v_bitsOf v_turnOf v_polyOf v_beginOf v_finishOf v_isLow v_weightsOf v_weight v_cell v_size v_row v_keptSize v_keptBefore v_keptAfter v_placeA v_placeB v_turned v_turnedMany v_syndromes v_lightest v_freeMany v_freePlace v_freeSyndrome v_ways v_waysKept v_trace 0 0) := hD
            refine lv_aload_n hx hb dX12_passesBytes_100 rfl (lv_at hl 2 rfl) ?_
            refine lv_iload_n hx hb dX12_passesBytes_101 rfl (lv_at hl 3 rfl) ?_
            refine lv_iload hx hb dX12_passesBytes_102 (lv_at hl 7 rfl) ?_
            refine lv_iload hx hb dX12_passesBytes_104 (lv_at hl 8 rfl) ?_
            refine lv_iload hx hb dX12_passesBytes_106 (lv_at hl 9 rfl) ?_
            obtain ⟨r30, hc_r30, hm⟩ := bs hm
            refine k_callv (va_runV (As := [.int x1, .int x5, .int x6, .int x7]) (rest := []) ⟨hx, hb, hml, hown, hts⟩ (c_X12_alter l G cs q H.size v_told v_tell v_sums v_kindOf v_modOf v_bitsOf v_turnOf v_polyOf v_beginOf v_finishOf v_isLow v_weightsOf v_weight v_cell v_size v_row v_keptSize v_keptBefore v_keptAfter v_placeA v_placeB v_turned v_turnedMany v_syndromes v_lightest v_freeMany v_freePlace v_freeSyndrome v_ways v_waysKept v_trace 0 0   x1 x5 x6 x7 n r30 hc_r30) (cwV 4 hts gX12_passesBytes_X12_alter rfl rfl rfl ⟨rfl, hd_X12_alter⟩ ⟨Nat.le_of_ble_eq_true rfl, Nat.le_of_ble_eq_true rfl⟩) ⟨pre_blind, va_recv hK.1 hP (ci := 10) (q0 := 0) rfl rfl, pre_w hK RO.nil hP hD (va_all hD hS hA)⟩ rfl rfl hl.1 rfl (lv_room (Nat.le_of_ble_eq_true rfl)) dX12_passesBytes_108 ⟨Nat.zero_le _, Nat.zero_le _⟩) hS (va_all hD hS hA) (fun H locs hP hD hS => ?_)
            have hP : va_P G vwCl (ww_M q cs v_told v_tell v_sums v_kindOf v_modOf v_bitsOf v_turnOf v_polyOf v_beginOf v_finishOf v_isLow v_weightsOf v_weight v_cell v_size v_row v_keptSize v_keptBefore v_keptAfter v_placeA v_placeB v_turned v_turnedMany v_syndromes v_lightest v_freeMany v_freePlace v_freeSyndrome v_ways v_waysKept v_trace r30.1 r30.2) H := hP
            have hD : va_D A (ww_M q cs v_told v_tell v_sums v_kindOf v_modOf v_bitsOf v_turnOf v_polyOf v_beginOf v_finishOf v_isLow v_weightsOf v_weight v_cell v_size v_row v_keptSize v_keptBefore v_keptAfter v_placeA v_placeB v_turned v_turnedMany v_syndromes v_lightest v_freeMany v_freePlace v_freeSyndrome v_ways v_waysKept v_trace r30.1 r30.2) := hD
            refine lv_iload hx hb dX12_passesBytes_111 (lv_at hl 6 rfl) ?_
            refine lv_if_le (tgt := 130) hx hb dX12_passesBytes_113 (by decide) (fun b31 => ?_) (fun b31 => ?_)
            · have hm := i_t b31 hm
              refine lv_aload_n hx hb dX12_passesBytes_130 rfl (lv_at hl 2 rfl) ?_
              refine lv_iload_n hx hb dX12_passesBytes_131 rfl (lv_at hl 3 rfl) ?_
              obtain ⟨r32, hc_r32, hm⟩ := bs hm
              refine k_calli (va_runV (As := [.int x1]) (rest := []) ⟨hx, hb, hml, hown, hts⟩ (c_X12_isNothing l G cs q H.size v_told v_tell v_sums v_kindOf v_modOf v_bitsOf v_turnOf v_polyOf v_beginOf v_finishOf v_isLow v_weightsOf v_weight v_cell v_size v_row v_keptSize v_keptBefore v_keptAfter v_placeA v_placeB v_turned v_turnedMany v_syndromes v_lightest v_freeMany v_freePlace v_freeSyndrome v_ways v_waysKept v_trace r30.1 r30.2   x1 r32 hc_r32) (cwV 1 hts gX12_passesBytes_X12_isNothing rfl rfl rfl ⟨rfl, hd_X12_isNothing⟩ ⟨Nat.le_of_ble_eq_true rfl, Nat.le_of_ble_eq_true rfl⟩) ⟨pre_blind, va_recv hK.1 hP (ci := 10) (q0 := 0) rfl rfl, pre_w hK RO.nil hP hD (va_all hD hS hA)⟩ rfl rfl hl.1 rfl (lv_room (Nat.le_of_ble_eq_true rfl)) dX12_passesBytes_132 ⟨Nat.zero_le _, Nat.zero_le _⟩) hS (va_all hD hS hA) (fun hE33 H locs hP hD hS => ?_)
              have hP : va_P G vwCl (ww_M q cs v_told v_tell v_sums v_kindOf v_modOf v_bitsOf v_turnOf v_polyOf v_beginOf v_finishOf v_isLow v_weightsOf v_weight v_cell v_size v_row v_keptSize v_keptBefore v_keptAfter v_placeA v_placeB v_turned v_turnedMany v_syndromes v_lightest v_freeMany v_freePlace v_freeSyndrome v_ways v_waysKept v_trace r30.1 r30.2) H := hP
              have hD : va_D A (ww_M q cs v_told v_tell v_sums v_kindOf v_modOf v_bitsOf v_turnOf v_polyOf v_beginOf v_finishOf v_isLow v_weightsOf v_weight v_cell v_size v_row v_keptSize v_keptBefore v_keptAfter v_placeA v_placeB v_turned v_turnedMany v_syndromes v_lightest v_freeMany v_freePlace v_freeSyndrome v_ways v_waysKept v_trace r30.1 r30.2) := hD
              refine lv_if_eq (tgt := 192) hx hb dX12_passesBytes_135 (by decide) (fun b34 => ?_) (fun b34 => ?_)
              · have hm := i_t b34 hm
                refine lv_iinc (v := x7 + 1) (lv' := [(7, .int (x7 + 1)), (9, .int x7), (8, .int x7), (0, .ref (q 0)), (1, .int x1), (2, .int x2), (3, .int x3), (4, .int x4), (5, .int x5), (6, .int x6)]) hx hb dX12_passesBytes_192 hl (k := 9) rfl rfl (by decide) rfl (fun ls hl => ?_)
                refine lv_goto (tgt := 47) hx hb dX12_passesBytes_195 (by decide) ?_
                exact st_next hm hst H locs hP hD hS ls (lv_sub hl [3, 4, 5, 6, 7, 8, 9, 0] rfl)
              · have hm := i_f b34 hm
                refine lv_aload_n hx hb dX12_passesBytes_138 rfl (lv_at hl 2 rfl) ?_
                refine lv_iload_n hx hb dX12_passesBytes_139 rfl (lv_at hl 5 rfl) ?_
                obtain ⟨r35, hc_r35, hm⟩ := bs hm
                refine k_callv (va_runV (As := [.int x3]) (rest := []) ⟨hx, hb, hml, hown, hts⟩ (c_X12_beginKept l G cs q H.size v_told v_tell v_sums v_kindOf v_modOf v_bitsOf v_turnOf v_polyOf v_beginOf v_finishOf v_isLow v_weightsOf v_weight v_cell v_size v_row v_keptSize v_keptBefore v_keptAfter v_placeA v_placeB v_turned v_turnedMany v_syndromes v_lightest v_freeMany v_freePlace v_freeSyndrome v_ways v_waysKept v_trace r30.1 r30.2   x3 n r35 hc_r35) (cwV 1 hts gX12_passesBytes_X12_beginKept rfl rfl rfl ⟨rfl, hd_X12_beginKept⟩ ⟨Nat.le_of_ble_eq_true rfl, Nat.le_of_ble_eq_true rfl⟩) ⟨pre_blind, va_recv hK.1 hP (ci := 10) (q0 := 0) rfl rfl, pre_w hK RO.nil hP hD (va_all hD hS hA)⟩ rfl rfl hl.1 rfl (lv_room (Nat.le_of_ble_eq_true rfl)) dX12_passesBytes_140 ⟨Nat.zero_le _, Nat.zero_le _⟩) hS (va_all hD hS hA) (fun H locs hP hD hS => ?_)
                have hP : va_P G vwCl (ww_M q cs v_told v_tell v_sums v_kindOf v_modOf v_bitsOf v_turnOf v_polyOf v_beginOf v_finishOf v_isLow v_weightsOf v_weight v_cell v_size v_row r35.1 r35.2.1 r35.2.2 v_placeA v_placeB v_turned v_turnedMany v_syndromes v_lightest v_freeMany v_freePlace v_freeSyndrome v_ways v_waysKept v_trace r30.1 r30.2) H := hP
                have hD : va_D A (ww_M q cs v_told v_tell v_sums v_kindOf v_modOf v_bitsOf v_turnOf v_polyOf v_beginOf v_finishOf v_isLow v_weightsOf v_weight v_cell v_size v_row r35.1 r35.2.1 r35.2.2 v_placeA v_placeB v_turned v_turnedMany v_syndromes v_lightest v_freeMany v_freePlace v_freeSyndrome v_ways v_waysKept v_trace r30.1 r30.2) := hD
                refine lv_aload_n hx hb dX12_passesBytes_143 rfl (lv_at hl 2 rfl) ?_
                refine va_get (D := G) (ci := 10) (v := .ref (q 14)) (C := RX12) (T := TX12) (N := 33) hx hb hts hinX12 hown hK.1 hP 0 rfl rfl 17 (by decide) wd3 (fun _ h9 => h9) rfl dX12_passesBytes_144 ?_
                refine lv_iload hx hb dX12_passesBytes_147 (lv_at hl 7 rfl) ?_
                refine lv_iload hx hb dX12_passesBytes_149 (lv_at hl 8 rfl) ?_
                obtain ⟨h36, hm⟩ := g_in hm
                refine va_iast hx hb hK.1 hP hD hS 14 0 rfl rfl h36 dX12_passesBytes_151 (fun H locs hP hD hS => ?_)
                have hP : va_P G vwCl (ww_M q cs v_told v_tell v_sums v_kindOf v_modOf v_bitsOf v_turnOf v_polyOf v_beginOf v_finishOf v_isLow v_weightsOf v_weight v_cell v_size v_row r35.1 (upd r35.2.1 x5.toNatClampNeg x6) r35.2.2 v_placeA v_placeB v_turned v_turnedMany v_syndromes v_lightest v_freeMany v_freePlace v_freeSyndrome v_ways v_waysKept v_trace r30.1 r30.2) H := hP
                have hD : va_D A (ww_M q cs v_told v_tell v_sums v_kindOf v_modOf v_bitsOf v_turnOf v_polyOf v_beginOf v_finishOf v_isLow v_weightsOf v_weight v_cell v_size v_row r35.1 (upd r35.2.1 x5.toNatClampNeg x6) r35.2.2 v_placeA v_placeB v_turned v_turnedMany v_syndromes v_lightest v_freeMany v_freePlace v_freeSyndrome v_ways v_waysKept v_trace r30.1 r30.2) := hD
                refine lv_aload_n hx hb dX12_passesBytes_152 rfl (lv_at hl 2 rfl) ?_
                refine va_get (D := G) (ci := 10) (v := .ref (q 15)) (C := RX12) (T := TX12) (N := 33) hx hb hts hinX12 hown hK.1 hP 0 rfl rfl 18 (by decide) wd4 (fun _ h9 => h9) rfl dX12_passesBytes_153 ?_
                refine lv_iload hx hb dX12_passesBytes_156 (lv_at hl 7 rfl) ?_
                refine lv_iload hx hb dX12_passesBytes_158 (lv_at hl 9 rfl) ?_
                obtain ⟨h37, hm⟩ := g_in hm
                refine va_iast hx hb hK.1 hP hD hS 15 0 rfl rfl h37 dX12_passesBytes_160 (fun H locs hP hD hS => ?_)
                have hP : va_P G vwCl (ww_M q cs v_told v_tell v_sums v_kindOf v_modOf v_bitsOf v_turnOf v_polyOf v_beginOf v_finishOf v_isLow v_weightsOf v_weight v_cell v_size v_row r35.1 (upd r35.2.1 x5.toNatClampNeg x6) (upd r35.2.2 x5.toNatClampNeg x7) v_placeA v_placeB v_turned v_turnedMany v_syndromes v_lightest v_freeMany v_freePlace v_freeSyndrome v_ways v_waysKept v_trace r30.1 r30.2) H := hP
                have hD : va_D A (ww_M q cs v_told v_tell v_sums v_kindOf v_modOf v_bitsOf v_turnOf v_polyOf v_beginOf v_finishOf v_isLow v_weightsOf v_weight v_cell v_size v_row r35.1 (upd r35.2.1 x5.toNatClampNeg x6) (upd r35.2.2 x5.toNatClampNeg x7) v_placeA v_placeB v_turned v_turnedMany v_syndromes v_lightest v_freeMany v_freePlace v_freeSyndrome v_ways v_waysKept v_trace r30.1 r30.2) := hD
                refine lv_iload hx hb dX12_passesBytes_161 (lv_at hl 6 rfl) ?_
                refine lv_if_le (tgt := 190) hx hb dX12_passesBytes_163 (by decide) (fun b38 => ?_) (fun b38 => ?_)
                · have hm := i_t b38 hm
                  refine lv_iconst (v := 1) hx hb dX12_passesBytes_190 (by decide) ?_
                  have hq := hret _ (st_exit hm hst)
                  subst hq; subst hQ
                  exact k_zret hx hb hr hlocks hP hD hS rfl (by decide) dX12_passesBytes_191
                · have hm := i_f b38 hm
                  refine lv_aload_n hx hb dX12_passesBytes_166 rfl (lv_at hl 2 rfl) ?_
                  refine va_get (D := G) (ci := 10) (v := .ref (q 14)) (C := RX12) (T := TX12) (N := 33) hx hb hts hinX12 hown hK.1 hP 0 rfl rfl 17 (by decide) wd3 (fun _ h9 => h9) rfl dX12_passesBytes_167 ?_
                  refine lv_iload hx hb dX12_passesBytes_170 (lv_at hl 7 rfl) ?_
                  refine lv_iload hx hb dX12_passesBytes_172 (lv_at hl 6 rfl) ?_
                  refine lv_iadd hx hb dX12_passesBytes_174 ?_
                  refine lv_iload hx hb dX12_passesBytes_175 (lv_at hl 1 rfl) ?_
                  obtain ⟨h39, hm⟩ := g_in hm
                  refine va_iast hx hb hK.1 hP hD hS 14 0 rfl rfl h39 dX12_passesBytes_177 (fun H locs hP hD hS => ?_)
                  have hP : va_P G vwCl (ww_M q cs v_told v_tell v_sums v_kindOf v_modOf v_bitsOf v_turnOf v_polyOf v_beginOf v_finishOf v_isLow v_weightsOf v_weight v_cell v_size v_row r35.1 (upd (upd r35.2.1 x5.toNatClampNeg x6) (x5 + x4).toNatClampNeg x7) (upd r35.2.2 x5.toNatClampNeg x7) v_placeA v_placeB v_turned v_turnedMany v_syndromes v_lightest v_freeMany v_freePlace v_freeSyndrome v_ways v_waysKept v_trace r30.1 r30.2) H := hP
                  have hD : va_D A (ww_M q cs v_told v_tell v_sums v_kindOf v_modOf v_bitsOf v_turnOf v_polyOf v_beginOf v_finishOf v_isLow v_weightsOf v_weight v_cell v_size v_row r35.1 (upd (upd r35.2.1 x5.toNatClampNeg x6) (x5 + x4).toNatClampNeg x7) (upd r35.2.2 x5.toNatClampNeg x7) v_placeA v_placeB v_turned v_turnedMany v_syndromes v_lightest v_freeMany v_freePlace v_freeSyndrome v_ways v_waysKept v_trace r30.1 r30.2) := hD
                  refine lv_aload_n hx hb dX12_passesBytes_178 rfl (lv_at hl 2 rfl) ?_
                  refine va_get (D := G) (ci := 10) (v := .ref (q 15)) (C := RX12) (T := TX12) (N := 33) hx hb hts hinX12 hown hK.1 hP 0 rfl rfl 18 (by decide) wd4 (fun _ h9 => h9) rfl dX12_passesBytes_179 ?_
                  refine lv_iload hx hb dX12_passesBytes_182 (lv_at hl 7 rfl) ?_
                  refine lv_iload hx hb dX12_passesBytes_184 (lv_at hl 6 rfl) ?_
                  refine lv_iadd hx hb dX12_passesBytes_186 ?_
                  refine lv_iload hx hb dX12_passesBytes_187 (lv_at hl 0 rfl) ?_
                  obtain ⟨h40, hm⟩ := g_in hm
                  refine va_iast hx hb hK.1 hP hD hS 15 0 rfl rfl h40 dX12_passesBytes_189 (fun H locs hP hD hS => ?_)
                  have hP : va_P G vwCl (ww_M q cs v_told v_tell v_sums v_kindOf v_modOf v_bitsOf v_turnOf v_polyOf v_beginOf v_finishOf v_isLow v_weightsOf v_weight v_cell v_size v_row r35.1 (upd (upd r35.2.1 x5.toNatClampNeg x6) (x5 + x4).toNatClampNeg x7) (upd (upd r35.2.2 x5.toNatClampNeg x7) (x5 + x4).toNatClampNeg x7) v_placeA v_placeB v_turned v_turnedMany v_syndromes v_lightest v_freeMany v_freePlace v_freeSyndrome v_ways v_waysKept v_trace r30.1 r30.2) H := hP
                  have hD : va_D A (ww_M q cs v_told v_tell v_sums v_kindOf v_modOf v_bitsOf v_turnOf v_polyOf v_beginOf v_finishOf v_isLow v_weightsOf v_weight v_cell v_size v_row r35.1 (upd (upd r35.2.1 x5.toNatClampNeg x6) (x5 + x4).toNatClampNeg x7) (upd (upd r35.2.2 x5.toNatClampNeg x7) (x5 + x4).toNatClampNeg x7) v_placeA v_placeB v_turned v_turnedMany v_syndromes v_lightest v_freeMany v_freePlace v_freeSyndrome v_ways v_waysKept v_trace r30.1 r30.2) := hD
                  refine lv_iconst (v := 1) hx hb dX12_passesBytes_190 (by decide) ?_
                  have hq := hret _ (st_exit hm hst)
                  subst hq; subst hQ
                  exact k_zret hx hb hr hlocks hP hD hS rfl (by decide) dX12_passesBytes_191
            · have hm := i_f b31 hm
              refine lv_aload_n hx hb dX12_passesBytes_116 rfl (lv_at hl 2 rfl) ?_
              refine lv_iload_n hx hb dX12_passesBytes_117 rfl (lv_at hl 3 rfl) ?_
              refine lv_iload hx hb dX12_passesBytes_118 (lv_at hl 7 rfl) ?_
              refine lv_iload hx hb dX12_passesBytes_120 (lv_at hl 6 rfl) ?_
              refine lv_iadd hx hb dX12_passesBytes_122 ?_
              refine lv_iload hx hb dX12_passesBytes_123 (lv_at hl 1 rfl) ?_
              refine lv_iload hx hb dX12_passesBytes_125 (lv_at hl 0 rfl) ?_
              obtain ⟨r41, hc_r41, hm⟩ := bs hm
              refine k_callv (va_runV (As := [.int x1, .int (x5 + x4), .int x7, .int x7]) (rest := []) ⟨hx, hb, hml, hown, hts⟩ (c_X12_alter l G cs q H.size v_told v_tell v_sums v_kindOf v_modOf v_bitsOf v_turnOf v_polyOf v_beginOf v_finishOf v_isLow v_weightsOf v_weight v_cell v_size v_row v_keptSize v_keptBefore v_keptAfter v_placeA v_placeB v_turned v_turnedMany v_syndromes v_lightest v_freeMany v_freePlace v_freeSyndrome v_ways v_waysKept v_trace r30.1 r30.2   x1 (x5 + x4) x7 x7 n r41 hc_r41) (cwV 4 hts gX12_passesBytes_X12_alter rfl rfl rfl ⟨rfl, hd_X12_alter⟩ ⟨Nat.le_of_ble_eq_true rfl, Nat.le_of_ble_eq_true rfl⟩) ⟨pre_blind, va_recv hK.1 hP (ci := 10) (q0 := 0) rfl rfl, pre_w hK RO.nil hP hD (va_all hD hS hA)⟩ rfl rfl hl.1 rfl (lv_room (Nat.le_of_ble_eq_true rfl)) dX12_passesBytes_127 ⟨Nat.zero_le _, Nat.zero_le _⟩) hS (va_all hD hS hA) (fun H locs hP hD hS => ?_)
              have hP : va_P G vwCl (ww_M q cs v_told v_tell v_sums v_kindOf v_modOf v_bitsOf v_turnOf v_polyOf v_beginOf v_finishOf v_isLow v_weightsOf v_weight v_cell v_size v_row v_keptSize v_keptBefore v_keptAfter v_placeA v_placeB v_turned v_turnedMany v_syndromes v_lightest v_freeMany v_freePlace v_freeSyndrome v_ways v_waysKept v_trace r41.1 r41.2) H := hP
              have hD : va_D A (ww_M q cs v_told v_tell v_sums v_kindOf v_modOf v_bitsOf v_turnOf v_polyOf v_beginOf v_finishOf v_isLow v_weightsOf v_weight v_cell v_size v_row v_keptSize v_keptBefore v_keptAfter v_placeA v_placeB v_turned v_turnedMany v_syndromes v_lightest v_freeMany v_freePlace v_freeSyndrome v_ways v_waysKept v_trace r41.1 r41.2) := hD
              refine lv_aload_n hx hb dX12_passesBytes_130 rfl (lv_at hl 2 rfl) ?_
              refine lv_iload_n hx hb dX12_passesBytes_131 rfl (lv_at hl 3 rfl) ?_
              obtain ⟨r42, hc_r42, hm⟩ := bs hm
              refine k_calli (va_runV (As := [.int x1]) (rest := []) ⟨hx, hb, hml, hown, hts⟩ (c_X12_isNothing l G cs q H.size v_told v_tell v_sums v_kindOf v_modOf v_bitsOf v_turnOf v_polyOf v_beginOf v_finishOf v_isLow v_weightsOf v_weight v_cell v_size v_row v_keptSize v_keptBefore v_keptAfter v_placeA v_placeB v_turned v_turnedMany v_syndromes v_lightest v_freeMany v_freePlace v_freeSyndrome v_ways v_waysKept v_trace r41.1 r41.2   x1 r42 hc_r42) (cwV 1 hts gX12_passesBytes_X12_isNothing rfl rfl rfl ⟨rfl, hd_X12_isNothing⟩ ⟨Nat.le_of_ble_eq_true rfl, Nat.le_of_ble_eq_true rfl⟩) ⟨pre_blind, va_recv hK.1 hP (ci := 10) (q0 := 0) rfl rfl, pre_w hK RO.nil hP hD (va_all hD hS hA)⟩ rfl rfl hl.1 rfl (lv_room (Nat.le_of_ble_eq_true rfl)) dX12_passesBytes_132 ⟨Nat.zero_le _, Nat.zero_le _⟩) hS (va_all hD hS hA) (fun hE43 H locs hP hD hS => ?_)
              have hP : va_P G vwCl (ww_M q cs v_told v_tell v_sums v_kindOf v_modOf v_bitsOf v_turnOf v_polyOf v_beginOf v_finishOf v_isLow v_weightsOf v_weight v_cell v_size v_row v_keptSize v_keptBefore v_keptAfter v_placeA v_placeB v_turned v_turnedMany v_syndromes v_lightest v_freeMany v_freePlace v_freeSyndrome v_ways v_waysKept v_trace r41.1 r41.2) H := hP
              have hD : va_D A (ww_M q cs v_told v_tell v_sums v_kindOf v_modOf v_bitsOf v_turnOf v_polyOf v_beginOf v_finishOf v_isLow v_weightsOf v_weight v_cell v_size v_row v_keptSize v_keptBefore v_keptAfter v_placeA v_placeB v_turned v_turnedMany v_syndromes v_lightest v_freeMany v_freePlace v_freeSyndrome v_ways v_waysKept v_trace r41.1 r41.2) := hD
              refine lv_if_eq (tgt := 192) hx hb dX12_passesBytes_135 (by decide) (fun b44 => ?_) (fun b44 => ?_)
              · have hm := i_t b44 hm
                refine lv_iinc (v := x7 + 1) (lv' := [(7, .int (x7 + 1)), (9, .int x7), (8, .int x7), (0, .ref (q 0)), (1, .int x1), (2, .int x2), (3, .int x3), (4, .int x4), (5, .int x5), (6, .int x6)]) hx hb dX12_passesBytes_192 hl (k := 9) rfl rfl (by decide) rfl (fun ls hl => ?_)
                refine lv_goto (tgt := 47) hx hb dX12_passesBytes_195 (by decide) ?_
                exact st_next hm hst H locs hP hD hS ls (lv_sub hl [3, 4, 5, 6, 7, 8, 9, 0] rfl)
              · have hm := i_f b44 hm
                refine lv_aload_n hx hb dX12_passesBytes_138 rfl (lv_at hl 2 rfl) ?_
                refine lv_iload_n hx hb dX12_passesBytes_139 rfl (lv_at hl 5 rfl) ?_
                obtain ⟨r45, hc_r45, hm⟩ := bs hm
                refine k_callv (va_runV (As := [.int x3]) (rest := []) ⟨hx, hb, hml, hown, hts⟩ (c_X12_beginKept l G cs q H.size v_told v_tell v_sums v_kindOf v_modOf v_bitsOf v_turnOf v_polyOf v_beginOf v_finishOf v_isLow v_weightsOf v_weight v_cell v_size v_row v_keptSize v_keptBefore v_keptAfter v_placeA v_placeB v_turned v_turnedMany v_syndromes v_lightest v_freeMany v_freePlace v_freeSyndrome v_ways v_waysKept v_trace r41.1 r41.2   x3 n r45 hc_r45) (cwV 1 hts gX12_passesBytes_X12_beginKept rfl rfl rfl ⟨rfl, hd_X12_beginKept⟩ ⟨Nat.le_of_ble_eq_true rfl, Nat.le_of_ble_eq_true rfl⟩) ⟨pre_blind, va_recv hK.1 hP (ci := 10) (q0 := 0) rfl rfl, pre_w hK RO.nil hP hD (va_all hD hS hA)⟩ rfl rfl hl.1 rfl (lv_room (Nat.le_of_ble_eq_true rfl)) dX12_passesBytes_140 ⟨Nat.zero_le _, Nat.zero_le _⟩) hS (va_all hD hS hA) (fun H locs hP hD hS => ?_)
                have hP : va_P G vwCl (ww_M q cs v_told v_tell v_sums v_kindOf v_modOf v_bitsOf v_turnOf v_polyOf v_beginOf v_finishOf v_isLow v_weightsOf v_weight v_cell v_size v_row r45.1 r45.2.1 r45.2.2 v_placeA v_placeB v_turned v_turnedMany v_syndromes v_lightest v_freeMany v_freePlace v_freeSyndrome v_ways v_waysKept v_trace r41.1 r41.2) H := hP
                have hD : va_D A (ww_M q cs v_told v_tell v_sums v_kindOf v_modOf v_bitsOf v_turnOf v_polyOf v_beginOf v_finishOf v_isLow v_weightsOf v_weight v_cell v_size v_row r45.1 r45.2.1 r45.2.2 v_placeA v_placeB v_turned v_turnedMany v_syndromes v_lightest v_freeMany v_freePlace v_freeSyndrome v_ways v_waysKept v_trace r41.1 r41.2) := hD
                refine lv_aload_n hx hb dX12_passesBytes_143 rfl (lv_at hl 2 rfl) ?_
                refine va_get (D := G) (ci := 10) (v := .ref (q 14)) (C := RX12) (T := TX12) (N := 33) hx hb hts hinX12 hown hK.1 hP 0 rfl rfl 17 (by decide) wd3 (fun _ h9 => h9) rfl dX12_passesBytes_144 ?_
                refine lv_iload hx hb dX12_passesBytes_147 (lv_at hl 7 rfl) ?_
                refine lv_iload hx hb dX12_passesBytes_149 (lv_at hl 8 rfl) ?_
                obtain ⟨h46, hm⟩ := g_in hm
                refine va_iast hx hb hK.1 hP hD hS 14 0 rfl rfl h46 dX12_passesBytes_151 (fun H locs hP hD hS => ?_)
                have hP : va_P G vwCl (ww_M q cs v_told v_tell v_sums v_kindOf v_modOf v_bitsOf v_turnOf v_polyOf v_beginOf v_finishOf v_isLow v_weightsOf v_weight v_cell v_size v_row r45.1 (upd r45.2.1 x5.toNatClampNeg x6) r45.2.2 v_placeA v_placeB v_turned v_turnedMany v_syndromes v_lightest v_freeMany v_freePlace v_freeSyndrome v_ways v_waysKept v_trace r41.1 r41.2) H := hP
                have hD : va_D A (ww_M q cs v_told v_tell v_sums v_kindOf v_modOf v_bitsOf v_turnOf v_polyOf v_beginOf v_finishOf v_isLow v_weightsOf v_weight v_cell v_size v_row r45.1 (upd r45.2.1 x5.toNatClampNeg x6) r45.2.2 v_placeA v_placeB v_turned v_turnedMany v_syndromes v_lightest v_freeMany v_freePlace v_freeSyndrome v_ways v_waysKept v_trace r41.1 r41.2) := hD
                refine lv_aload_n hx hb dX12_passesBytes_152 rfl (lv_at hl 2 rfl) ?_
                refine va_get (D := G) (ci := 10) (v := .ref (q 15)) (C := RX12) (T := TX12) (N := 33) hx hb hts hinX12 hown hK.1 hP 0 rfl rfl 18 (by decide) wd4 (fun _ h9 => h9) rfl dX12_passesBytes_153 ?_
                refine lv_iload hx hb dX12_passesBytes_156 (lv_at hl 7 rfl) ?_
                refine lv_iload hx hb dX12_passesBytes_158 (lv_at hl 9 rfl) ?_
                obtain ⟨h47, hm⟩ := g_in hm
                refine va_iast hx hb hK.1 hP hD hS 15 0 rfl rfl h47 dX12_passesBytes_160 (fun H locs hP hD hS => ?_)
                have hP : va_P G vwCl (ww_M q cs v_told v_tell v_sums v_kindOf v_modOf v_bitsOf v_turnOf v_polyOf v_beginOf v_finishOf v_isLow v_weightsOf v_weight v_cell v_size v_row r45.1 (upd r45.2.1 x5.toNatClampNeg x6) (upd r45.2.2 x5.toNatClampNeg x7) v_placeA v_placeB v_turned v_turnedMany v_syndromes v_lightest v_freeMany v_freePlace v_freeSyndrome v_ways v_waysKept v_trace r41.1 r41.2) H := hP
                have hD : va_D A (ww_M q cs v_told v_tell v_sums v_kindOf v_modOf v_bitsOf v_turnOf v_polyOf v_beginOf v_finishOf v_isLow v_weightsOf v_weight v_cell v_size v_row r45.1 (upd r45.2.1 x5.toNatClampNeg x6) (upd r45.2.2 x5.toNatClampNeg x7) v_placeA v_placeB v_turned v_turnedMany v_syndromes v_lightest v_freeMany v_freePlace v_freeSyndrome v_ways v_waysKept v_trace r41.1 r41.2) := hD
                refine lv_iload hx hb dX12_passesBytes_161 (lv_at hl 6 rfl) ?_
                refine lv_if_le (tgt := 190) hx hb dX12_passesBytes_163 (by decide) (fun b48 => ?_) (fun b48 => ?_)
                · have hm := i_t b48 hm
                  refine lv_iconst (v := 1) hx hb dX12_passesBytes_190 (by decide) ?_
                  have hq := hret _ (st_exit hm hst)
                  subst hq; subst hQ
                  exact k_zret hx hb hr hlocks hP hD hS rfl (by decide) dX12_passesBytes_191
                · have hm := i_f b48 hm
                  refine lv_aload_n hx hb dX12_passesBytes_166 rfl (lv_at hl 2 rfl) ?_
                  refine va_get (D := G) (ci := 10) (v := .ref (q 14)) (C := RX12) (T := TX12) (N := 33) hx hb hts hinX12 hown hK.1 hP 0 rfl rfl 17 (by decide) wd3 (fun _ h9 => h9) rfl dX12_passesBytes_167 ?_
                  refine lv_iload hx hb dX12_passesBytes_170 (lv_at hl 7 rfl) ?_
                  refine lv_iload hx hb dX12_passesBytes_172 (lv_at hl 6 rfl) ?_
                  refine lv_iadd hx hb dX12_passesBytes_174 ?_
                  refine lv_iload hx hb dX12_passesBytes_175 (lv_at hl 1 rfl) ?_
                  obtain ⟨h49, hm⟩ := g_in hm
                  refine va_iast hx hb hK.1 hP hD hS 14 0 rfl rfl h49 dX12_passesBytes_177 (fun H locs hP hD hS => ?_)
                  have hP : va_P G vwCl (ww_M q cs v_told v_tell v_sums v_kindOf v_modOf v_bitsOf v_turnOf v_polyOf v_beginOf v_finishOf v_isLow v_weightsOf v_weight v_cell v_size v_row r45.1 (upd (upd r45.2.1 x5.toNatClampNeg x6) (x5 + x4).toNatClampNeg x7) (upd r45.2.2 x5.toNatClampNeg x7) v_placeA v_placeB v_turned v_turnedMany v_syndromes v_lightest v_freeMany v_freePlace v_freeSyndrome v_ways v_waysKept v_trace r41.1 r41.2) H := hP
                  have hD : va_D A (ww_M q cs v_told v_tell v_sums v_kindOf v_modOf v_bitsOf v_turnOf v_polyOf v_beginOf v_finishOf v_isLow v_weightsOf v_weight v_cell v_size v_row r45.1 (upd (upd r45.2.1 x5.toNatClampNeg x6) (x5 + x4).toNatClampNeg x7) (upd r45.2.2 x5.toNatClampNeg x7) v_placeA v_placeB v_turned v_turnedMany v_syndromes v_lightest v_freeMany v_freePlace v_freeSyndrome v_ways v_waysKept v_trace r41.1 r41.2) := hD
                  refine lv_aload_n hx hb dX12_passesBytes_178 rfl (lv_at hl 2 rfl) ?_
                  refine va_get (D := G) (ci := 10) (v := .ref (q 15)) (C := RX12) (T := TX12) (N := 33) hx hb hts hinX12 hown hK.1 hP 0 rfl rfl 18 (by decide) wd4 (fun _ h9 => h9) rfl dX12_passesBytes_179 ?_
                  refine lv_iload hx hb dX12_passesBytes_182 (lv_at hl 7 rfl) ?_
                  refine lv_iload hx hb dX12_passesBytes_184 (lv_at hl 6 rfl) ?_
                  refine lv_iadd hx hb dX12_passesBytes_186 ?_
                  refine lv_iload hx hb dX12_passesBytes_187 (lv_at hl 0 rfl) ?_
                  obtain ⟨h50, hm⟩ := g_in hm
                  refine va_iast hx hb hK.1 hP hD hS 15 0 rfl rfl h50 dX12_passesBytes_189 (fun H locs hP hD hS => ?_)
                  have hP : va_P G vwCl (ww_M q cs v_told v_tell v_sums v_kindOf v_modOf v_bitsOf v_turnOf v_polyOf v_beginOf v_finishOf v_isLow v_weightsOf v_weight v_cell v_size v_row r45.1 (upd (upd r45.2.1 x5.toNatClampNeg x6) (x5 + x4).toNatClampNeg x7) (upd (upd r45.2.2 x5.toNatClampNeg x7) (x5 + x4).toNatClampNeg x7) v_placeA v_placeB v_turned v_turnedMany v_syndromes v_lightest v_freeMany v_freePlace v_freeSyndrome v_ways v_waysKept v_trace r41.1 r41.2) H := hP
                  have hD : va_D A (ww_M q cs v_told v_tell v_sums v_kindOf v_modOf v_bitsOf v_turnOf v_polyOf v_beginOf v_finishOf v_isLow v_weightsOf v_weight v_cell v_size v_row r45.1 (upd (upd r45.2.1 x5.toNatClampNeg x6) (x5 + x4).toNatClampNeg x7) (upd (upd r45.2.2 x5.toNatClampNeg x7) (x5 + x4).toNatClampNeg x7) v_placeA v_placeB v_turned v_turnedMany v_syndromes v_lightest v_freeMany v_freePlace v_freeSyndrome v_ways v_waysKept v_trace r41.1 r41.2) := hD
                  refine lv_iconst (v := 1) hx hb dX12_passesBytes_190 (by decide) ?_
                  have hq := hret _ (st_exit hm hst)
                  subst hq; subst hQ
                  exact k_zret hx hb hr hlocks hP hD hS rfl (by decide) dX12_passesBytes_191
        · have hm := i_t b7 hm
          refine lv_iload hx hb dX12_passesBytes_67 (lv_at hl 6 rfl) ?_
          refine lv_goto (tgt := 74) hx hb dX12_passesBytes_69 (by decide) ?_
          refine lv_istore (lv' := [(8, .int x6), (0, .ref (q 0)), (1, .int x1), (2, .int x2), (3, .int x3), (4, .int x4), (5, .int x5), (6, .int x6), (7, .int x7)]) hx hb dX12_passesBytes_74 hl (by decide) rfl (fun ls hl => ?_)
          refine lv_iload_n hx hb dX12_passesBytes_76 rfl (lv_at hl 3 rfl) ?_
          refine lv_iconst (v := 5) hx hb dX12_passesBytes_77 (by decide) ?_
          refine lv_icmp_ne (tgt := 86) hx hb dX12_passesBytes_78 (by decide) (fun b51 => ?_) (fun b51 => ?_)
          · have hm := i_f b51 hm
            refine lv_iload hx hb dX12_passesBytes_86 (lv_at hl 7 rfl) ?_
            refine lv_istore (lv' := [(9, .int x6), (8, .int x6), (0, .ref (q 0)), (1, .int x1), (2, .int x2), (3, .int x3), (4, .int x4), (5, .int x5), (6, .int x6), (7, .int x7)]) hx hb dX12_passesBytes_88 hl (by decide) rfl (fun ls hl => ?_)
            refine lv_aload_n hx hb dX12_passesBytes_90 rfl (lv_at hl 2 rfl) ?_
            refine lv_lconst (v := 0) hx hb dX12_passesBytes_91 (by decide) ?_
            refine va_put (D := G) (ci := 10) (v := .long 0) (ty := .long) (C := RX12) (T := TX12) (N := 33) hx hb hts hinX12 tyX12 tyX12_ok nmX12 hown hK.1 hP hD hS 0 rfl rfl 31 (by decide) wd1 (fun _ h9 => h9) rfl (by decide +kernel) rfl rfl (Nat.le_of_ble_eq_true rfl) dX12_passesBytes_92 (fun H locs hP hD hS => ?_)
            have hP : va_P G vwCl (ww_M q cs v_told v_tell v_sums v_kindOf v_modOf v_bitsOf v_turnOf v_polyOf v_beginOf v_finishOf v_isLow v_weightsOf v_weight v_cell v_size v_row v_keptSize v_keptBefore v_keptAfter v_placeA v_placeB v_turned v_turnedMany v_syndromes v_lightest v_freeMany v_freePlace v_freeSyndrome v_ways v_waysKept v_trace 0 v_comesB) H := hP
            have hD : va_D A (ww_M q cs v_told v_tell v_sums v_kindOf v_modOf v_bitsOf v_turnOf v_polyOf v_beginOf v_finishOf v_isLow v_weightsOf v_weight v_cell v_size v_row v_keptSize v_keptBefore v_keptAfter v_placeA v_placeB v_turned v_turnedMany v_syndromes v_lightest v_freeMany v_freePlace v_freeSyndrome v_ways v_waysKept v_trace 0 v_comesB) := hD
            refine lv_aload_n hx hb dX12_passesBytes_95 rfl (lv_at hl 2 rfl) ?_
            refine lv_lconst (v := 0) hx hb dX12_passesBytes_96 (by decide) ?_
            refine va_put (D := G) (ci := 10) (v := .long 0) (ty := .long) (C := RX12) (T := TX12) (N := 33) hx hb hts hinX12 tyX12 tyX12_ok nmX12 hown hK.1 hP hD hS 0 rfl rfl 32 (by decide) wd2 (fun _ h9 => h9) rfl (by decide +kernel) rfl rfl (Nat.le_of_ble_eq_true rfl) dX12_passesBytes_97 (fun H locs hP hD hS => ?_)
            have hP : va_P G vwCl (ww_M q cs v_told v_tell v_sums v_kindOf v_modOf v_bitsOf v_turnOf v_polyOf v_beginOf v_finishOf v_isLow v_weightsOf v_weight v_cell v_size v_row v_keptSize v_keptBefore v_keptAfter v_placeA v_placeB v_turned v_turnedMany v_syndromes v_lightest v_freeMany v_freePlace v_freeSyndrome v_ways v_waysKept v_trace 0 0) H := hP
            have hD : va_D A (ww_M q cs v_told v_tell v_sums v_kindOf v_modOf v_bitsOf v_turnOf v_polyOf v_beginOf v_finishOf v_isLow v_weightsOf v_weight v_cell v_size v_row v_keptSize v_keptBefore v_keptAfter v_placeA v_placeB v_turned v_turnedMany v_syndromes v_lightest v_freeMany v_freePlace v_freeSyndrome v_ways v_waysKept v_trace 0 0) := hD
            refine lv_aload_n hx hb dX12_passesBytes_100 rfl (lv_at hl 2 rfl) ?_
            refine lv_iload_n hx hb dX12_passesBytes_101 rfl (lv_at hl 3 rfl) ?_
            refine lv_iload hx hb dX12_passesBytes_102 (lv_at hl 7 rfl) ?_
            refine lv_iload hx hb dX12_passesBytes_104 (lv_at hl 8 rfl) ?_
            refine lv_iload hx hb dX12_passesBytes_106 (lv_at hl 9 rfl) ?_
            obtain ⟨r52, hc_r52, hm⟩ := bs hm
            refine k_callv (va_runV (As := [.int x1, .int x5, .int x6, .int x7]) (rest := []) ⟨hx, hb, hml, hown, hts⟩ (c_X12_alter l G cs q H.size v_told v_tell v_sums v_kindOf v_modOf v_bitsOf v_turnOf v_polyOf v_beginOf v_finishOf v_isLow v_weightsOf v_weight v_cell v_size v_row v_keptSize v_keptBefore v_keptAfter v_placeA v_placeB v_turned v_turnedMany v_syndromes v_lightest v_freeMany v_freePlace v_freeSyndrome v_ways v_waysKept v_trace 0 0   x1 x5 x6 x7 n r52 hc_r52) (cwV 4 hts gX12_passesBytes_X12_alter rfl rfl rfl ⟨rfl, hd_X12_alter⟩ ⟨Nat.le_of_ble_eq_true rfl, Nat.le_of_ble_eq_true rfl⟩) ⟨pre_blind, va_recv hK.1 hP (ci := 10) (q0 := 0) rfl rfl, pre_w hK RO.nil hP hD (va_all hD hS hA)⟩ rfl rfl hl.1 rfl (lv_room (Nat.le_of_ble_eq_true rfl)) dX12_passesBytes_108 ⟨Nat.zero_le _, Nat.zero_le _⟩) hS (va_all hD hS hA) (fun H locs hP hD hS => ?_)
            have hP : va_P G vwCl (ww_M q cs v_told v_tell v_sums v_kindOf v_modOf v_bitsOf v_turnOf v_polyOf v_beginOf v_finishOf v_isLow v_weightsOf v_weight v_cell v_size v_row v_keptSize v_keptBefore v_keptAfter v_placeA v_placeB v_turned v_turnedMany v_syndromes v_lightest v_freeMany v_freePlace v_freeSyndrome v_ways v_waysKept v_trace r52.1 r52.2) H := hP
            have hD : va_D A (ww_M q cs v_told v_tell v_sums v_kindOf v_modOf v_bitsOf v_turnOf v_polyOf v_beginOf v_finishOf v_isLow v_weightsOf v_weight v_cell v_size v_row v_keptSize v_keptBefore v_keptAfter v_placeA v_placeB v_turned v_turnedMany v_syndromes v_lightest v_freeMany v_freePlace v_freeSyndrome v_ways v_waysKept v_trace r52.1 r52.2) := hD
            refine lv_iload hx hb dX12_passesBytes_111 (lv_at hl 6 rfl) ?_
            refine lv_if_le (tgt := 130) hx hb dX12_passesBytes_113 (by decide) (fun b53 => ?_) (fun b53 => ?_)
            · have hm := i_t b53 hm
              refine lv_aload_n hx hb dX12_passesBytes_130 rfl (lv_at hl 2 rfl) ?_
              refine lv_iload_n hx hb dX12_passesBytes_131 rfl (lv_at hl 3 rfl) ?_
              obtain ⟨r54, hc_r54, hm⟩ := bs hm
              refine k_calli (va_runV (As := [.int x1]) (rest := []) ⟨hx, hb, hml, hown, hts⟩ (c_X12_isNothing l G cs q H.size v_told v_tell v_sums v_kindOf v_modOf v_bitsOf v_turnOf v_polyOf v_beginOf v_finishOf v_isLow v_weightsOf v_weight v_cell v_size v_row v_keptSize v_keptBefore v_keptAfter v_placeA v_placeB v_turned v_turnedMany v_syndromes v_lightest v_freeMany v_freePlace v_freeSyndrome v_ways v_waysKept v_trace r52.1 r52.2   x1 r54 hc_r54) (cwV 1 hts gX12_passesBytes_X12_isNothing rfl rfl rfl ⟨rfl, hd_X12_isNothing⟩ ⟨Nat.le_of_ble_eq_true rfl, Nat.le_of_ble_eq_true rfl⟩) ⟨pre_blind, va_recv hK.1 hP (ci := 10) (q0 := 0) rfl rfl, pre_w hK RO.nil hP hD (va_all hD hS hA)⟩ rfl rfl hl.1 rfl (lv_room (Nat.le_of_ble_eq_true rfl)) dX12_passesBytes_132 ⟨Nat.zero_le _, Nat.zero_le _⟩) hS (va_all hD hS hA) (fun hE55 H locs hP hD hS => ?_)
              have hP : va_P G vwCl (ww_M q cs v_told v_tell v_sums v_kindOf v_modOf v_bitsOf v_turnOf v_polyOf v_beginOf v_finishOf v_isLow v_weightsOf v_weight v_cell v_size v_row v_keptSize v_keptBefore v_keptAfter v_placeA v_placeB v_turned v_turnedMany v_syndromes v_lightest v_freeMany v_freePlace v_freeSyndrome v_ways v_waysKept v_trace r52.1 r52.2) H := hP
              have hD : va_D A (ww_M q cs v_told v_tell v_sums v_kindOf v_modOf v_bitsOf v_turnOf v_polyOf v_beginOf v_finishOf v_isLow v_weightsOf v_weight v_cell v_size v_row v_keptSize v_keptBefore v_keptAfter v_placeA v_placeB v_turned v_turnedMany v_syndromes v_lightest v_freeMany v_freePlace v_freeSyndrome v_ways v_waysKept v_trace r52.1 r52.2) := hD
              refine lv_if_eq (tgt := 192) hx hb dX12_passesBytes_135 (by decide) (fun b56 => ?_) (fun b56 => ?_)
              · have hm := i_t b56 hm
                refine lv_iinc (v := x7 + 1) (lv' := [(7, .int (x7 + 1)), (9, .int x6), (8, .int x6), (0, .ref (q 0)), (1, .int x1), (2, .int x2), (3, .int x3), (4, .int x4), (5, .int x5), (6, .int x6)]) hx hb dX12_passesBytes_192 hl (k := 9) rfl rfl (by decide) rfl (fun ls hl => ?_)
                refine lv_goto (tgt := 47) hx hb dX12_passesBytes_195 (by decide) ?_
                exact st_next hm hst H locs hP hD hS ls (lv_sub hl [3, 4, 5, 6, 7, 8, 9, 0] rfl)
              · have hm := i_f b56 hm
                refine lv_aload_n hx hb dX12_passesBytes_138 rfl (lv_at hl 2 rfl) ?_
                refine lv_iload_n hx hb dX12_passesBytes_139 rfl (lv_at hl 5 rfl) ?_
                obtain ⟨r57, hc_r57, hm⟩ := bs hm
                refine k_callv (va_runV (As := [.int x3]) (rest := []) ⟨hx, hb, hml, hown, hts⟩ (c_X12_beginKept l G cs q H.size v_told v_tell v_sums v_kindOf v_modOf v_bitsOf v_turnOf v_polyOf v_beginOf v_finishOf v_isLow v_weightsOf v_weight v_cell v_size v_row v_keptSize v_keptBefore v_keptAfter v_placeA v_placeB v_turned v_turnedMany v_syndromes v_lightest v_freeMany v_freePlace v_freeSyndrome v_ways v_waysKept v_trace r52.1 r52.2   x3 n r57 hc_r57) (cwV 1 hts gX12_passesBytes_X12_beginKept rfl rfl rfl ⟨rfl, hd_X12_beginKept⟩ ⟨Nat.le_of_ble_eq_true rfl, Nat.le_of_ble_eq_true rfl⟩) ⟨pre_blind, va_recv hK.1 hP (ci := 10) (q0 := 0) rfl rfl, pre_w hK RO.nil hP hD (va_all hD hS hA)⟩ rfl rfl hl.1 rfl (lv_room (Nat.le_of_ble_eq_true rfl)) dX12_passesBytes_140 ⟨Nat.zero_le _, Nat.zero_le _⟩) hS (va_all hD hS hA) (fun H locs hP hD hS => ?_)
                have hP : va_P G vwCl (ww_M q cs v_told v_tell v_sums v_kindOf v_modOf v_bitsOf v_turnOf v_polyOf v_beginOf v_finishOf v_isLow v_weightsOf v_weight v_cell v_size v_row r57.1 r57.2.1 r57.2.2 v_placeA v_placeB v_turned v_turnedMany v_syndromes v_lightest v_freeMany v_freePlace v_freeSyndrome v_ways v_waysKept v_trace r52.1 r52.2) H := hP
                have hD : va_D A (ww_M q cs v_told v_tell v_sums v_kindOf v_modOf v_bitsOf v_turnOf v_polyOf v_beginOf v_finishOf v_isLow v_weightsOf v_weight v_cell v_size v_row r57.1 r57.2.1 r57.2.2 v_placeA v_placeB v_turned v_turnedMany v_syndromes v_lightest v_freeMany v_freePlace v_freeSyndrome v_ways v_waysKept v_trace r52.1 r52.2) := hD
                refine lv_aload_n hx hb dX12_passesBytes_143 rfl (lv_at hl 2 rfl) ?_
                refine va_get (D := G) (ci := 10) (v := .ref (q 14)) (C := RX12) (T := TX12) (N := 33) hx hb hts hinX12 hown hK.1 hP 0 rfl rfl 17 (by decide) wd3 (fun _ h9 => h9) rfl dX12_passesBytes_144 ?_
                refine lv_iload hx hb dX12_passesBytes_147 (lv_at hl 7 rfl) ?_
                refine lv_iload hx hb dX12_passesBytes_149 (lv_at hl 8 rfl) ?_
                obtain ⟨h58, hm⟩ := g_in hm
                refine va_iast hx hb hK.1 hP hD hS 14 0 rfl rfl h58 dX12_passesBytes_151 (fun H locs hP hD hS => ?_)
                have hP : va_P G vwCl (ww_M q cs v_told v_tell v_sums v_kindOf v_modOf v_bitsOf v_turnOf v_polyOf v_beginOf v_finishOf v_isLow v_weightsOf v_weight v_cell v_size v_row r57.1 (upd r57.2.1 x5.toNatClampNeg x6) r57.2.2 v_placeA v_placeB v_turned v_turnedMany v_syndromes v_lightest v_freeMany v_freePlace v_freeSyndrome v_ways v_waysKept v_trace r52.1 r52.2) H := hP
                have hD : va_D A (ww_M q cs v_told v_tell v_sums v_kindOf v_modOf v_bitsOf v_turnOf v_polyOf v_beginOf v_finishOf v_isLow v_weightsOf v_weight v_cell v_size v_row r57.1 (upd r57.2.1 x5.toNatClampNeg x6) r57.2.2 v_placeA v_placeB v_turned v_turnedMany v_syndromes v_lightest v_freeMany v_freePlace v_freeSyndrome v_ways v_waysKept v_trace r52.1 r52.2) := hD
                refine lv_aload_n hx hb dX12_passesBytes_152 rfl (lv_at hl 2 rfl) ?_
                refine va_get (D := G) (ci := 10) (v := .ref (q 15)) (C := RX12) (T := TX12) (N := 33) hx hb hts hinX12 hown hK.1 hP 0 rfl rfl 18 (by decide) wd4 (fun _ h9 => h9) rfl dX12_passesBytes_153 ?_
                refine lv_iload hx hb dX12_passesBytes_156 (lv_at hl 7 rfl) ?_
                refine lv_iload hx hb dX12_passesBytes_158 (lv_at hl 9 rfl) ?_
                obtain ⟨h59, hm⟩ := g_in hm
                refine va_iast hx hb hK.1 hP hD hS 15 0 rfl rfl h59 dX12_passesBytes_160 (fun H locs hP hD hS => ?_)
                have hP : va_P G vwCl (ww_M q cs v_told v_tell v_sums v_kindOf v_modOf v_bitsOf v_turnOf v_polyOf v_beginOf v_finishOf v_isLow v_weightsOf v_weight v_cell v_size v_row r57.1 (upd r57.2.1 x5.toNatClampNeg x6) (upd r57.2.2 x5.toNatClampNeg x7) v_placeA v_placeB v_turned v_turnedMany v_syndromes v_lightest v_freeMany v_freePlace v_freeSyndrome v_ways v_waysKept v_trace r52.1 r52.2) H := hP
                have hD : va_D A (ww_M q cs v_told v_tell v_sums v_kindOf v_modOf v_bitsOf v_turnOf v_polyOf v_beginOf v_finishOf v_isLow v_weightsOf v_weight v_cell v_size v_row r57.1 (upd r57.2.1 x5.toNatClampNeg x6) (upd r57.2.2 x5.toNatClampNeg x7) v_placeA v_placeB v_turned v_turnedMany v_syndromes v_lightest v_freeMany v_freePlace v_freeSyndrome v_ways v_waysKept v_trace r52.1 r52.2) := hD
                refine lv_iload hx hb dX12_passesBytes_161 (lv_at hl 6 rfl) ?_
                refine lv_if_le (tgt := 190) hx hb dX12_passesBytes_163 (by decide) (fun b60 => ?_) (fun b60 => ?_)
                · have hm := i_t b60 hm
                  refine lv_iconst (v := 1) hx hb dX12_passesBytes_190 (by decide) ?_
                  have hq := hret _ (st_exit hm hst)
                  subst hq; subst hQ
                  exact k_zret hx hb hr hlocks hP hD hS rfl (by decide) dX12_passesBytes_191
                · have hm := i_f b60 hm
                  refine lv_aload_n hx hb dX12_passesBytes_166 rfl (lv_at hl 2 rfl) ?_
                  refine va_get (D := G) (ci := 10) (v := .ref (q 14)) (C := RX12) (T := TX12) (N := 33) hx hb hts hinX12 hown hK.1 hP 0 rfl rfl 17 (by decide) wd3 (fun _ h9 => h9) rfl dX12_passesBytes_167 ?_
                  refine lv_iload hx hb dX12_passesBytes_170 (lv_at hl 7 rfl) ?_
                  refine lv_iload hx hb dX12_passesBytes_172 (lv_at hl 6 rfl) ?_
                  refine lv_iadd hx hb dX12_passesBytes_174 ?_
                  refine lv_iload hx hb dX12_passesBytes_175 (lv_at hl 1 rfl) ?_
                  obtain ⟨h61, hm⟩ := g_in hm
                  refine va_iast hx hb hK.1 hP hD hS 14 0 rfl rfl h61 dX12_passesBytes_177 (fun H locs hP hD hS => ?_)
                  have hP : va_P G vwCl (ww_M q cs v_told v_tell v_sums v_kindOf v_modOf v_bitsOf v_turnOf v_polyOf v_beginOf v_finishOf v_isLow v_weightsOf v_weight v_cell v_size v_row r57.1 (upd (upd r57.2.1 x5.toNatClampNeg x6) (x5 + x4).toNatClampNeg x6) (upd r57.2.2 x5.toNatClampNeg x7) v_placeA v_placeB v_turned v_turnedMany v_syndromes v_lightest v_freeMany v_freePlace v_freeSyndrome v_ways v_waysKept v_trace r52.1 r52.2) H := hP
                  have hD : va_D A (ww_M q cs v_told v_tell v_sums v_kindOf v_modOf v_bitsOf v_turnOf v_polyOf v_beginOf v_finishOf v_isLow v_weightsOf v_weight v_cell v_size v_row r57.1 (upd (upd r57.2.1 x5.toNatClampNeg x6) (x5 + x4).toNatClampNeg x6) (upd r57.2.2 x5.toNatClampNeg x7) v_placeA v_placeB v_turned v_turnedMany v_syndromes v_lightest v_freeMany v_freePlace v_freeSyndrome v_ways v_waysKept v_trace r52.1 r52.2) := hD
                  refine lv_aload_n hx hb dX12_passesBytes_178 rfl (lv_at hl 2 rfl) ?_
                  refine va_get (D := G) (ci := 10) (v := .ref (q 15)) (C := RX12) (T := TX12) (N := 33) hx hb hts hinX12 hown hK.1 hP 0 rfl rfl 18 (by decide) wd4 (fun _ h9 => h9) rfl dX12_passesBytes_179 ?_
                  refine lv_iload hx hb dX12_passesBytes_182 (lv_at hl 7 rfl) ?_
                  refine lv_iload hx hb dX12_passesBytes_184 (lv_at hl 6 rfl) ?_
                  refine lv_iadd hx hb dX12_passesBytes_186 ?_
                  refine lv_iload hx hb dX12_passesBytes_187 (lv_at hl 0 rfl) ?_
                  obtain ⟨h62, hm⟩ := g_in hm
                  refine va_iast hx hb hK.1 hP hD hS 15 0 rfl rfl h62 dX12_passesBytes_189 (fun H locs hP hD hS => ?_)
                  have hP : va_P G vwCl (ww_M q cs v_told v_tell v_sums v_kindOf v_modOf v_bitsOf v_turnOf v_polyOf v_beginOf v_finishOf v_isLow v_weightsOf v_weight v_cell v_size v_row r57.1 (upd (upd r57.2.1 x5.toNatClampNeg x6) (x5 + x4).toNatClampNeg x6) (upd (upd r57.2.2 x5.toNatClampNeg x7) (x5 + x4).toNatClampNeg x6) v_placeA v_placeB v_turned v_turnedMany v_syndromes v_lightest v_freeMany v_freePlace v_freeSyndrome v_ways v_waysKept v_trace r52.1 r52.2) H := hP
                  have hD : va_D A (ww_M q cs v_told v_tell v_sums v_kindOf v_modOf v_bitsOf v_turnOf v_polyOf v_beginOf v_finishOf v_isLow v_weightsOf v_weight v_cell v_size v_row r57.1 (upd (upd r57.2.1 x5.toNatClampNeg x6) (x5 + x4).toNatClampNeg x6) (upd (upd r57.2.2 x5.toNatClampNeg x7) (x5 + x4).toNatClampNeg x6) v_placeA v_placeB v_turned v_turnedMany v_syndromes v_lightest v_freeMany v_freePlace v_freeSyndrome v_ways v_waysKept v_trace r52.1 r52.2) := hD
                  refine lv_iconst (v := 1) hx hb dX12_passesBytes_190 (by decide) ?_
                  have hq := hret _ (st_exit hm hst)
                  subst hq; subst hQ
                  exact k_zret hx hb hr hlocks hP hD hS rfl (by decide) dX12_passesBytes_191
            · have hm := i_f b53 hm
              refine lv_aload_n hx hb dX12_passesBytes_116 rfl (lv_at hl 2 rfl) ?_
              refine lv_iload_n hx hb dX12_passesBytes_117 rfl (lv_at hl 3 rfl) ?_
              refine lv_iload hx hb dX12_passesBytes_118 (lv_at hl 7 rfl) ?_
              refine lv_iload hx hb dX12_passesBytes_120 (lv_at hl 6 rfl) ?_
              refine lv_iadd hx hb dX12_passesBytes_122 ?_
              refine lv_iload hx hb dX12_passesBytes_123 (lv_at hl 1 rfl) ?_
              refine lv_iload hx hb dX12_passesBytes_125 (lv_at hl 0 rfl) ?_
              obtain ⟨r63, hc_r63, hm⟩ := bs hm
              refine k_callv (va_runV (As := [.int x1, .int (x5 + x4), .int x6, .int x6]) (rest := []) ⟨hx, hb, hml, hown, hts⟩ (c_X12_alter l G cs q H.size v_told v_tell v_sums v_kindOf v_modOf v_bitsOf v_turnOf v_polyOf v_beginOf v_finishOf v_isLow v_weightsOf v_weight v_cell v_size v_row v_keptSize v_keptBefore v_keptAfter v_placeA v_placeB v_turned v_turnedMany v_syndromes v_lightest v_freeMany v_freePlace v_freeSyndrome v_ways v_waysKept v_trace r52.1 r52.2   x1 (x5 + x4) x6 x6 n r63 hc_r63) (cwV 4 hts gX12_passesBytes_X12_alter rfl rfl rfl ⟨rfl, hd_X12_alter⟩ ⟨Nat.le_of_ble_eq_true rfl, Nat.le_of_ble_eq_true rfl⟩) ⟨pre_blind, va_recv hK.1 hP (ci := 10) (q0 := 0) rfl rfl, pre_w hK RO.nil hP hD (va_all hD hS hA)⟩ rfl rfl hl.1 rfl (lv_room (Nat.le_of_ble_eq_true rfl)) dX12_passesBytes_127 ⟨Nat.zero_le _, Nat.zero_le _⟩) hS (va_all hD hS hA) (fun H locs hP hD hS => ?_)
              have hP : va_P G vwCl (ww_M q cs v_told v_tell v_sums v_kindOf v_modOf v_bitsOf v_turnOf v_polyOf v_beginOf v_finishOf v_isLow v_weightsOf v_weight v_cell v_size v_row v_keptSize v_keptBefore v_keptAfter v_placeA v_placeB v_turned v_turnedMany v_syndromes v_lightest v_freeMany v_freePlace v_freeSyndrome v_ways v_waysKept v_trace r63.1 r63.2) H := hP
              have hD : va_D A (ww_M q cs v_told v_tell v_sums v_kindOf v_modOf v_bitsOf v_turnOf v_polyOf v_beginOf v_finishOf v_isLow v_weightsOf v_weight v_cell v_size v_row v_keptSize v_keptBefore v_keptAfter v_placeA v_placeB v_turned v_turnedMany v_syndromes v_lightest v_freeMany v_freePlace v_freeSyndrome v_ways v_waysKept v_trace r63.1 r63.2) := hD
              refine lv_aload_n hx hb dX12_passesBytes_130 rfl (lv_at hl 2 rfl) ?_
              refine lv_iload_n hx hb dX12_passesBytes_131 rfl (lv_at hl 3 rfl) ?_
              obtain ⟨r64, hc_r64, hm⟩ := bs hm
              refine k_calli (va_runV (As := [.int x1]) (rest := []) ⟨hx, hb, hml, hown, hts⟩ (c_X12_isNothing l G cs q H.size v_told v_tell v_sums v_kindOf v_modOf v_bitsOf v_turnOf v_polyOf v_beginOf v_finishOf v_isLow v_weightsOf v_weight v_cell v_size v_row v_keptSize v_keptBefore v_keptAfter v_placeA v_placeB v_turned v_turnedMany v_syndromes v_lightest v_freeMany v_freePlace v_freeSyndrome v_ways v_waysKept v_trace r63.1 r63.2   x1 r64 hc_r64) (cwV 1 hts gX12_passesBytes_X12_isNothing rfl rfl rfl ⟨rfl, hd_X12_isNothing⟩ ⟨Nat.le_of_ble_eq_true rfl, Nat.le_of_ble_eq_true rfl⟩) ⟨pre_blind, va_recv hK.1 hP (ci := 10) (q0 := 0) rfl rfl, pre_w hK RO.nil hP hD (va_all hD hS hA)⟩ rfl rfl hl.1 rfl (lv_room (Nat.le_of_ble_eq_true rfl)) dX12_passesBytes_132 ⟨Nat.zero_le _, Nat.zero_le _⟩) hS (va_all hD hS hA) (fun hE65 H locs hP hD hS => ?_)
              have hP : va_P G vwCl (ww_M q cs v_told v_tell v_sums v_kindOf v_modOf v_bitsOf v_turnOf v_polyOf v_beginOf v_finishOf v_isLow v_weightsOf v_weight v_cell v_size v_row v_keptSize v_keptBefore v_keptAfter v_placeA v_placeB v_turned v_turnedMany v_syndromes v_lightest v_freeMany v_freePlace v_freeSyndrome v_ways v_waysKept v_trace r63.1 r63.2) H := hP
              have hD : va_D A (ww_M q cs v_told v_tell v_sums v_kindOf v_modOf v_bitsOf v_turnOf v_polyOf v_beginOf v_finishOf v_isLow v_weightsOf v_weight v_cell v_size v_row v_keptSize v_keptBefore v_keptAfter v_placeA v_placeB v_turned v_turnedMany v_syndromes v_lightest v_freeMany v_freePlace v_freeSyndrome v_ways v_waysKept v_trace r63.1 r63.2) := hD
              refine lv_if_eq (tgt := 192) hx hb dX12_passesBytes_135 (by decide) (fun b66 => ?_) (fun b66 => ?_)
              · have hm := i_t b66 hm
                refine lv_iinc (v := x7 + 1) (lv' := [(7, .int (x7 + 1)), (9, .int x6), (8, .int x6), (0, .ref (q 0)), (1, .int x1), (2, .int x2), (3, .int x3), (4, .int x4), (5, .int x5), (6, .int x6)]) hx hb dX12_passesBytes_192 hl (k := 9) rfl rfl (by decide) rfl (fun ls hl => ?_)
                refine lv_goto (tgt := 47) hx hb dX12_passesBytes_195 (by decide) ?_
                exact st_next hm hst H locs hP hD hS ls (lv_sub hl [3, 4, 5, 6, 7, 8, 9, 0] rfl)
              · have hm := i_f b66 hm
                refine lv_aload_n hx hb dX12_passesBytes_138 rfl (lv_at hl 2 rfl) ?_
                refine lv_iload_n hx hb dX12_passesBytes_139 rfl (lv_at hl 5 rfl) ?_
                obtain ⟨r67, hc_r67, hm⟩ := bs hm
                refine k_callv (va_runV (As := [.int x3]) (rest := []) ⟨hx, hb, hml, hown, hts⟩ (c_X12_beginKept l G cs q H.size v_told v_tell v_sums v_kindOf v_modOf v_bitsOf v_turnOf v_polyOf v_beginOf v_finishOf v_isLow v_weightsOf v_weight v_cell v_size v_row v_keptSize v_keptBefore v_keptAfter v_placeA v_placeB v_turned v_turnedMany v_syndromes v_lightest v_freeMany v_freePlace v_freeSyndrome v_ways v_waysKept v_trace r63.1 r63.2   x3 n r67 hc_r67) (cwV 1 hts gX12_passesBytes_X12_beginKept rfl rfl rfl ⟨rfl, hd_X12_beginKept⟩ ⟨Nat.le_of_ble_eq_true rfl, Nat.le_of_ble_eq_true rfl⟩) ⟨pre_blind, va_recv hK.1 hP (ci := 10) (q0 := 0) rfl rfl, pre_w hK RO.nil hP hD (va_all hD hS hA)⟩ rfl rfl hl.1 rfl (lv_room (Nat.le_of_ble_eq_true rfl)) dX12_passesBytes_140 ⟨Nat.zero_le _, Nat.zero_le _⟩) hS (va_all hD hS hA) (fun H locs hP hD hS => ?_)
                have hP : va_P G vwCl (ww_M q cs v_told v_tell v_sums v_kindOf v_modOf v_bitsOf v_turnOf v_polyOf v_beginOf v_finishOf v_isLow v_weightsOf v_weight v_cell v_size v_row r67.1 r67.2.1 r67.2.2 v_placeA v_placeB v_turned v_turnedMany v_syndromes v_lightest v_freeMany v_freePlace v_freeSyndrome v_ways v_waysKept v_trace r63.1 r63.2) H := hP
                have hD : va_D A (ww_M q cs v_told v_tell v_sums v_kindOf v_modOf v_bitsOf v_turnOf v_polyOf v_beginOf v_finishOf v_isLow v_weightsOf v_weight v_cell v_size v_row r67.1 r67.2.1 r67.2.2 v_placeA v_placeB v_turned v_turnedMany v_syndromes v_lightest v_freeMany v_freePlace v_freeSyndrome v_ways v_waysKept v_trace r63.1 r63.2) := hD
                refine lv_aload_n hx hb dX12_passesBytes_143 rfl (lv_at hl 2 rfl) ?_
                refine va_get (D := G) (ci := 10) (v := .ref (q 14)) (C := RX12) (T := TX12) (N := 33) hx hb hts hinX12 hown hK.1 hP 0 rfl rfl 17 (by decide) wd3 (fun _ h9 => h9) rfl dX12_passesBytes_144 ?_
                refine lv_iload hx hb dX12_passesBytes_147 (lv_at hl 7 rfl) ?_
                refine lv_iload hx hb dX12_passesBytes_149 (lv_at hl 8 rfl) ?_
                obtain ⟨h68, hm⟩ := g_in hm
                refine va_iast hx hb hK.1 hP hD hS 14 0 rfl rfl h68 dX12_passesBytes_151 (fun H locs hP hD hS => ?_)
                have hP : va_P G vwCl (ww_M q cs v_told v_tell v_sums v_kindOf v_modOf v_bitsOf v_turnOf v_polyOf v_beginOf v_finishOf v_isLow v_weightsOf v_weight v_cell v_size v_row r67.1 (upd r67.2.1 x5.toNatClampNeg x6) r67.2.2 v_placeA v_placeB v_turned v_turnedMany v_syndromes v_lightest v_freeMany v_freePlace v_freeSyndrome v_ways v_waysKept v_trace r63.1 r63.2) H := hP
                have hD : va_D A (ww_M q cs v_told v_tell v_sums v_kindOf v_modOf v_bitsOf v_turnOf v_polyOf v_beginOf v_finishOf v_isLow v_weightsOf v_weight v_cell v_size v_row r67.1 (upd r67.2.1 x5.toNatClampNeg x6) r67.2.2 v_placeA v_placeB v_turned v_turnedMany v_syndromes v_lightest v_freeMany v_freePlace v_freeSyndrome v_ways v_waysKept v_trace r63.1 r63.2) := hD
                refine lv_aload_n hx hb dX12_passesBytes_152 rfl (lv_at hl 2 rfl) ?_
                refine va_get (D := G) (ci := 10) (v := .ref (q 15)) (C := RX12) (T := TX12) (N := 33) hx hb hts hinX12 hown hK.1 hP 0 rfl rfl 18 (by decide) wd4 (fun _ h9 => h9) rfl dX12_passesBytes_153 ?_
                refine lv_iload hx hb dX12_passesBytes_156 (lv_at hl 7 rfl) ?_
                refine lv_iload hx hb dX12_passesBytes_158 (lv_at hl 9 rfl) ?_
                obtain ⟨h69, hm⟩ := g_in hm
                refine va_iast hx hb hK.1 hP hD hS 15 0 rfl rfl h69 dX12_passesBytes_160 (fun H locs hP hD hS => ?_)
                have hP : va_P G vwCl (ww_M q cs v_told v_tell v_sums v_kindOf v_modOf v_bitsOf v_turnOf v_polyOf v_beginOf v_finishOf v_isLow v_weightsOf v_weight v_cell v_size v_row r67.1 (upd r67.2.1 x5.toNatClampNeg x6) (upd r67.2.2 x5.toNatClampNeg x7) v_placeA v_placeB v_turned v_turnedMany v_syndromes v_lightest v_freeMany v_freePlace v_freeSyndrome v_ways v_waysKept v_trace r63.1 r63.2) H := hP
                have hD : va_D A (ww_M q cs v_told v_tell v_sums v_kindOf v_modOf v_bitsOf v_turnOf v_polyOf v_beginOf v_finishOf v_isLow v_weightsOf v_weight v_cell v_size v_row r67.1 (upd r67.2.1 x5.toNatClampNeg x6) (upd r67.2.2 x5.toNatClampNeg x7) v_placeA v_placeB v_turned v_turnedMany v_syndromes v_lightest v_freeMany v_freePlace v_freeSyndrome v_ways v_waysKept v_trace r63.1 r63.2) := hD
                refine lv_iload hx hb dX12_passesBytes_161 (lv_at hl 6 rfl) ?_
                refine lv_if_le (tgt := 190) hx hb dX12_passesBytes_163 (by decide) (fun b70 => ?_) (fun b70 => ?_)
                · have hm := i_t b70 hm
                  refine lv_iconst (v := 1) hx hb dX12_passesBytes_190 (by decide) ?_
                  have hq := hret _ (st_exit hm hst)
                  subst hq; subst hQ
                  exact k_zret hx hb hr hlocks hP hD hS rfl (by decide) dX12_passesBytes_191
                · have hm := i_f b70 hm
                  refine lv_aload_n hx hb dX12_passesBytes_166 rfl (lv_at hl 2 rfl) ?_
                  refine va_get (D := G) (ci := 10) (v := .ref (q 14)) (C := RX12) (T := TX12) (N := 33) hx hb hts hinX12 hown hK.1 hP 0 rfl rfl 17 (by decide) wd3 (fun _ h9 => h9) rfl dX12_passesBytes_167 ?_
                  refine lv_iload hx hb dX12_passesBytes_170 (lv_at hl 7 rfl) ?_
                  refine lv_iload hx hb dX12_passesBytes_172 (lv_at hl 6 rfl) ?_
                  refine lv_iadd hx hb dX12_passesBytes_174 ?_
                  refine lv_iload hx hb dX12_passesBytes_175 (lv_at hl 1 rfl) ?_
                  obtain ⟨h71, hm⟩ := g_in hm
                  refine va_iast hx hb hK.1 hP hD hS 14 0 rfl rfl h71 dX12_passesBytes_177 (fun H locs hP hD hS => ?_)
                  have hP : va_P G vwCl (ww_M q cs v_told v_tell v_sums v_kindOf v_modOf v_bitsOf v_turnOf v_polyOf v_beginOf v_finishOf v_isLow v_weightsOf v_weight v_cell v_size v_row r67.1 (upd (upd r67.2.1 x5.toNatClampNeg x6) (x5 + x4).toNatClampNeg x6) (upd r67.2.2 x5.toNatClampNeg x7) v_placeA v_placeB v_turned v_turnedMany v_syndromes v_lightest v_freeMany v_freePlace v_freeSyndrome v_ways v_waysKept v_trace r63.1 r63.2) H := hP
                  have hD : va_D A (ww_M q cs v_told v_tell v_sums v_kindOf v_modOf v_bitsOf v_turnOf v_polyOf v_beginOf v_finishOf v_isLow v_weightsOf v_weight v_cell v_size v_row r67.1 (upd (upd r67.2.1 x5.toNatClampNeg x6) (x5 + x4).toNatClampNeg x6) (upd r67.2.2 x5.toNatClampNeg x7) v_placeA v_placeB v_turned v_turnedMany v_syndromes v_lightest v_freeMany v_freePlace v_freeSyndrome v_ways v_waysKept v_trace r63.1 r63.2) := hD
                  refine lv_aload_n hx hb dX12_passesBytes_178 rfl (lv_at hl 2 rfl) ?_
                  refine va_get (D := G) (ci := 10) (v := .ref (q 15)) (C := RX12) (T := TX12) (N := 33) hx hb hts hinX12 hown hK.1 hP 0 rfl rfl 18 (by decide) wd4 (fun _ h9 => h9) rfl dX12_passesBytes_179 ?_
                  refine lv_iload hx hb dX12_passesBytes_182 (lv_at hl 7 rfl) ?_
                  refine lv_iload hx hb dX12_passesBytes_184 (lv_at hl 6 rfl) ?_
                  refine lv_iadd hx hb dX12_passesBytes_186 ?_
                  refine lv_iload hx hb dX12_passesBytes_187 (lv_at hl 0 rfl) ?_
                  obtain ⟨h72, hm⟩ := g_in hm
                  refine va_iast hx hb hK.1 hP hD hS 15 0 rfl rfl h72 dX12_passesBytes_189 (fun H locs hP hD hS => ?_)
                  have hP : va_P G vwCl (ww_M q cs v_told v_tell v_sums v_kindOf v_modOf v_bitsOf v_turnOf v_polyOf v_beginOf v_finishOf v_isLow v_weightsOf v_weight v_cell v_size v_row r67.1 (upd (upd r67.2.1 x5.toNatClampNeg x6) (x5 + x4).toNatClampNeg x6) (upd (upd r67.2.2 x5.toNatClampNeg x7) (x5 + x4).toNatClampNeg x6) v_placeA v_placeB v_turned v_turnedMany v_syndromes v_lightest v_freeMany v_freePlace v_freeSyndrome v_ways v_waysKept v_trace r63.1 r63.2) H := hP
                  have hD : va_D A (ww_M q cs v_told v_tell v_sums v_kindOf v_modOf v_bitsOf v_turnOf v_polyOf v_beginOf v_finishOf v_isLow v_weightsOf v_weight v_cell v_size v_row r67.1 (upd (upd r67.2.1 x5.toNatClampNeg x6) (x5 + x4).toNatClampNeg x6) (upd (upd r67.2.2 x5.toNatClampNeg x7) (x5 + x4).toNatClampNeg x6) v_placeA v_placeB v_turned v_turnedMany v_syndromes v_lightest v_freeMany v_freePlace v_freeSyndrome v_ways v_waysKept v_trace r63.1 r63.2) := hD
                  refine lv_iconst (v := 1) hx hb dX12_passesBytes_190 (by decide) ?_
                  have hq := hret _ (st_exit hm hst)
                  subst hq; subst hQ
                  exact k_zret hx hb hr hlocks hP hD hS rfl (by decide) dX12_passesBytes_191
          · have hm := i_t b51 hm
            refine lv_iload hx hb dX12_passesBytes_81 (lv_at hl 8 rfl) ?_
            refine lv_goto (tgt := 88) hx hb dX12_passesBytes_83 (by decide) ?_
            refine lv_istore (lv' := [(9, .int x7), (8, .int x6), (0, .ref (q 0)), (1, .int x1), (2, .int x2), (3, .int x3), (4, .int x4), (5, .int x5), (6, .int x6), (7, .int x7)]) hx hb dX12_passesBytes_88 hl (by decide) rfl (fun ls hl => ?_)
            refine lv_aload_n hx hb dX12_passesBytes_90 rfl (lv_at hl 2 rfl) ?_
            refine lv_lconst (v := 0) hx hb dX12_passesBytes_91 (by decide) ?_
            refine va_put (D := G) (ci := 10) (v := .long 0) (ty := .long) (C := RX12) (T := TX12) (N := 33) hx hb hts hinX12 tyX12 tyX12_ok nmX12 hown hK.1 hP hD hS 0 rfl rfl 31 (by decide) wd1 (fun _ h9 => h9) rfl (by decide +kernel) rfl rfl (Nat.le_of_ble_eq_true rfl) dX12_passesBytes_92 (fun H locs hP hD hS => ?_)
            have hP : va_P G vwCl (ww_M q cs v_told v_tell v_sums v_kindOf v_modOf v_bitsOf v_turnOf v_polyOf v_beginOf v_finishOf v_isLow v_weightsOf v_weight v_cell v_size v_row v_keptSize v_keptBefore v_keptAfter v_placeA v_placeB v_turned v_turnedMany v_syndromes v_lightest v_freeMany v_freePlace v_freeSyndrome v_ways v_waysKept v_trace 0 v_comesB) H := hP
            have hD : va_D A (ww_M q cs v_told v_tell v_sums v_kindOf v_modOf v_bitsOf v_turnOf v_polyOf v_beginOf v_finishOf v_isLow v_weightsOf v_weight v_cell v_size v_row v_keptSize v_keptBefore v_keptAfter v_placeA v_placeB v_turned v_turnedMany v_syndromes v_lightest v_freeMany v_freePlace v_freeSyndrome v_ways v_waysKept v_trace 0 v_comesB) := hD
            refine lv_aload_n hx hb dX12_passesBytes_95 rfl (lv_at hl 2 rfl) ?_
            refine lv_lconst (v := 0) hx hb dX12_passesBytes_96 (by decide) ?_
            refine va_put (D := G) (ci := 10) (v := .long 0) (ty := .long) (C := RX12) (T := TX12) (N := 33) hx hb hts hinX12 tyX12 tyX12_ok nmX12 hown hK.1 hP hD hS 0 rfl rfl 32 (by decide) wd2 (fun _ h9 => h9) rfl (by decide +kernel) rfl rfl (Nat.le_of_ble_eq_true rfl) dX12_passesBytes_97 (fun H locs hP hD hS => ?_)
            have hP : va_P G vwCl (ww_M q cs v_told v_tell v_sums v_kindOf v_modOf v_bitsOf v_turnOf v_polyOf v_beginOf v_finishOf v_isLow v_weightsOf v_weight v_cell v_size v_row v_keptSize v_keptBefore v_keptAfter v_placeA v_placeB v_turned v_turnedMany v_syndromes v_lightest v_freeMany v_freePlace v_freeSyndrome v_ways v_waysKept v_trace 0 0) H := hP
            have hD : va_D A (ww_M q cs v_told v_tell v_sums v_kindOf v_modOf v_bitsOf v_turnOf v_polyOf v_beginOf v_finishOf v_isLow v_weightsOf v_weight v_cell v_size v_row v_keptSize v_keptBefore v_keptAfter v_placeA v_placeB v_turned v_turnedMany v_syndromes v_lightest v_freeMany v_freePlace v_freeSyndrome v_ways v_waysKept v_trace 0 0) := hD
            refine lv_aload_n hx hb dX12_passesBytes_100 rfl (lv_at hl 2 rfl) ?_
            refine lv_iload_n hx hb dX12_passesBytes_101 rfl (lv_at hl 3 rfl) ?_
            refine lv_iload hx hb dX12_passesBytes_102 (lv_at hl 7 rfl) ?_
            refine lv_iload hx hb dX12_passesBytes_104 (lv_at hl 8 rfl) ?_
            refine lv_iload hx hb dX12_passesBytes_106 (lv_at hl 9 rfl) ?_
            obtain ⟨r73, hc_r73, hm⟩ := bs hm
            refine k_callv (va_runV (As := [.int x1, .int x5, .int x6, .int x7]) (rest := []) ⟨hx, hb, hml, hown, hts⟩ (c_X12_alter l G cs q H.size v_told v_tell v_sums v_kindOf v_modOf v_bitsOf v_turnOf v_polyOf v_beginOf v_finishOf v_isLow v_weightsOf v_weight v_cell v_size v_row v_keptSize v_keptBefore v_keptAfter v_placeA v_placeB v_turned v_turnedMany v_syndromes v_lightest v_freeMany v_freePlace v_freeSyndrome v_ways v_waysKept v_trace 0 0   x1 x5 x6 x7 n r73 hc_r73) (cwV 4 hts gX12_passesBytes_X12_alter rfl rfl rfl ⟨rfl, hd_X12_alter⟩ ⟨Nat.le_of_ble_eq_true rfl, Nat.le_of_ble_eq_true rfl⟩) ⟨pre_blind, va_recv hK.1 hP (ci := 10) (q0 := 0) rfl rfl, pre_w hK RO.nil hP hD (va_all hD hS hA)⟩ rfl rfl hl.1 rfl (lv_room (Nat.le_of_ble_eq_true rfl)) dX12_passesBytes_108 ⟨Nat.zero_le _, Nat.zero_le _⟩) hS (va_all hD hS hA) (fun H locs hP hD hS => ?_)
            have hP : va_P G vwCl (ww_M q cs v_told v_tell v_sums v_kindOf v_modOf v_bitsOf v_turnOf v_polyOf v_beginOf v_finishOf v_isLow v_weightsOf v_weight v_cell v_size v_row v_keptSize v_keptBefore v_keptAfter v_placeA v_placeB v_turned v_turnedMany v_syndromes v_lightest v_freeMany v_freePlace v_freeSyndrome v_ways v_waysKept v_trace r73.1 r73.2) H := hP
            have hD : va_D A (ww_M q cs v_told v_tell v_sums v_kindOf v_modOf v_bitsOf v_turnOf v_polyOf v_beginOf v_finishOf v_isLow v_weightsOf v_weight v_cell v_size v_row v_keptSize v_keptBefore v_keptAfter v_placeA v_placeB v_turned v_turnedMany v_syndromes v_lightest v_freeMany v_freePlace v_freeSyndrome v_ways v_waysKept v_trace r73.1 r73.2) := hD
            refine lv_iload hx hb dX12_passesBytes_111 (lv_at hl 6 rfl) ?_
            refine lv_if_le (tgt := 130) hx hb dX12_passesBytes_113 (by decide) (fun b74 => ?_) (fun b74 => ?_)
            · have hm := i_t b74 hm
              refine lv_aload_n hx hb dX12_passesBytes_130 rfl (lv_at hl 2 rfl) ?_
              refine lv_iload_n hx hb dX12_passesBytes_131 rfl (lv_at hl 3 rfl) ?_
              obtain ⟨r75, hc_r75, hm⟩ := bs hm
              refine k_calli (va_runV (As := [.int x1]) (rest := []) ⟨hx, hb, hml, hown, hts⟩ (c_X12_isNothing l G cs q H.size v_told v_tell v_sums v_kindOf v_modOf v_bitsOf v_turnOf v_polyOf v_beginOf v_finishOf v_isLow v_weightsOf v_weight v_cell v_size v_row v_keptSize v_keptBefore v_keptAfter v_placeA v_placeB v_turned v_turnedMany v_syndromes v_lightest v_freeMany v_freePlace v_freeSyndrome v_ways v_waysKept v_trace r73.1 r73.2   x1 r75 hc_r75) (cwV 1 hts gX12_passesBytes_X12_isNothing rfl rfl rfl ⟨rfl, hd_X12_isNothing⟩ ⟨Nat.le_of_ble_eq_true rfl, Nat.le_of_ble_eq_true rfl⟩) ⟨pre_blind, va_recv hK.1 hP (ci := 10) (q0 := 0) rfl rfl, pre_w hK RO.nil hP hD (va_all hD hS hA)⟩ rfl rfl hl.1 rfl (lv_room (Nat.le_of_ble_eq_true rfl)) dX12_passesBytes_132 ⟨Nat.zero_le _, Nat.zero_le _⟩) hS (va_all hD hS hA) (fun hE76 H locs hP hD hS => ?_)
              have hP : va_P G vwCl (ww_M q cs v_told v_tell v_sums v_kindOf v_modOf v_bitsOf v_turnOf v_polyOf v_beginOf v_finishOf v_isLow v_weightsOf v_weight v_cell v_size v_row v_keptSize v_keptBefore v_keptAfter v_placeA v_placeB v_turned v_turnedMany v_syndromes v_lightest v_freeMany v_freePlace v_freeSyndrome v_ways v_waysKept v_trace r73.1 r73.2) H := hP
              have hD : va_D A (ww_M q cs v_told v_tell v_sums v_kindOf v_modOf v_bitsOf v_turnOf v_polyOf v_beginOf v_finishOf v_isLow v_weightsOf v_weight v_cell v_size v_row v_keptSize v_keptBefore v_keptAfter v_placeA v_placeB v_turned v_turnedMany v_syndromes v_lightest v_freeMany v_freePlace v_freeSyndrome v_ways v_waysKept v_trace r73.1 r73.2) := hD
              refine lv_if_eq (tgt := 192) hx hb dX12_passesBytes_135 (by decide) (fun b77 => ?_) (fun b77 => ?_)
              · have hm := i_t b77 hm
                refine lv_iinc (v := x7 + 1) (lv' := [(7, .int (x7 + 1)), (9, .int x7), (8, .int x6), (0, .ref (q 0)), (1, .int x1), (2, .int x2), (3, .int x3), (4, .int x4), (5, .int x5), (6, .int x6)]) hx hb dX12_passesBytes_192 hl (k := 9) rfl rfl (by decide) rfl (fun ls hl => ?_)
                refine lv_goto (tgt := 47) hx hb dX12_passesBytes_195 (by decide) ?_
                exact st_next hm hst H locs hP hD hS ls (lv_sub hl [3, 4, 5, 6, 7, 8, 9, 0] rfl)
              · have hm := i_f b77 hm
                refine lv_aload_n hx hb dX12_passesBytes_138 rfl (lv_at hl 2 rfl) ?_
                refine lv_iload_n hx hb dX12_passesBytes_139 rfl (lv_at hl 5 rfl) ?_
                obtain ⟨r78, hc_r78, hm⟩ := bs hm
                refine k_callv (va_runV (As := [.int x3]) (rest := []) ⟨hx, hb, hml, hown, hts⟩ (c_X12_beginKept l G cs q H.size v_told v_tell v_sums v_kindOf v_modOf v_bitsOf v_turnOf v_polyOf v_beginOf v_finishOf v_isLow v_weightsOf v_weight v_cell v_size v_row v_keptSize v_keptBefore v_keptAfter v_placeA v_placeB v_turned v_turnedMany v_syndromes v_lightest v_freeMany v_freePlace v_freeSyndrome v_ways v_waysKept v_trace r73.1 r73.2   x3 n r78 hc_r78) (cwV 1 hts gX12_passesBytes_X12_beginKept rfl rfl rfl ⟨rfl, hd_X12_beginKept⟩ ⟨Nat.le_of_ble_eq_true rfl, Nat.le_of_ble_eq_true rfl⟩) ⟨pre_blind, va_recv hK.1 hP (ci := 10) (q0 := 0) rfl rfl, pre_w hK RO.nil hP hD (va_all hD hS hA)⟩ rfl rfl hl.1 rfl (lv_room (Nat.le_of_ble_eq_true rfl)) dX12_passesBytes_140 ⟨Nat.zero_le _, Nat.zero_le _⟩) hS (va_all hD hS hA) (fun H locs hP hD hS => ?_)
                have hP : va_P G vwCl (ww_M q cs v_told v_tell v_sums v_kindOf v_modOf v_bitsOf v_turnOf v_polyOf v_beginOf v_finishOf v_isLow v_weightsOf v_weight v_cell v_size v_row r78.1 r78.2.1 r78.2.2 v_placeA v_placeB v_turned v_turnedMany v_syndromes v_lightest v_freeMany v_freePlace v_freeSyndrome v_ways v_waysKept v_trace r73.1 r73.2) H := hP
                have hD : va_D A (ww_M q cs v_told v_tell v_sums v_kindOf v_modOf v_bitsOf v_turnOf v_polyOf v_beginOf v_finishOf v_isLow v_weightsOf v_weight v_cell v_size v_row r78.1 r78.2.1 r78.2.2 v_placeA v_placeB v_turned v_turnedMany v_syndromes v_lightest v_freeMany v_freePlace v_freeSyndrome v_ways v_waysKept v_trace r73.1 r73.2) := hD
                refine lv_aload_n hx hb dX12_passesBytes_143 rfl (lv_at hl 2 rfl) ?_
                refine va_get (D := G) (ci := 10) (v := .ref (q 14)) (C := RX12) (T := TX12) (N := 33) hx hb hts hinX12 hown hK.1 hP 0 rfl rfl 17 (by decide) wd3 (fun _ h9 => h9) rfl dX12_passesBytes_144 ?_
                refine lv_iload hx hb dX12_passesBytes_147 (lv_at hl 7 rfl) ?_
                refine lv_iload hx hb dX12_passesBytes_149 (lv_at hl 8 rfl) ?_
                obtain ⟨h79, hm⟩ := g_in hm
                refine va_iast hx hb hK.1 hP hD hS 14 0 rfl rfl h79 dX12_passesBytes_151 (fun H locs hP hD hS => ?_)
                have hP : va_P G vwCl (ww_M q cs v_told v_tell v_sums v_kindOf v_modOf v_bitsOf v_turnOf v_polyOf v_beginOf v_finishOf v_isLow v_weightsOf v_weight v_cell v_size v_row r78.1 (upd r78.2.1 x5.toNatClampNeg x6) r78.2.2 v_placeA v_placeB v_turned v_turnedMany v_syndromes v_lightest v_freeMany v_freePlace v_freeSyndrome v_ways v_waysKept v_trace r73.1 r73.2) H := hP
                have hD : va_D A (ww_M q cs v_told v_tell v_sums v_kindOf v_modOf v_bitsOf v_turnOf v_polyOf v_beginOf v_finishOf v_isLow v_weightsOf v_weight v_cell v_size v_row r78.1 (upd r78.2.1 x5.toNatClampNeg x6) r78.2.2 v_placeA v_placeB v_turned v_turnedMany v_syndromes v_lightest v_freeMany v_freePlace v_freeSyndrome v_ways v_waysKept v_trace r73.1 r73.2) := hD
                refine lv_aload_n hx hb dX12_passesBytes_152 rfl (lv_at hl 2 rfl) ?_
                refine va_get (D := G) (ci := 10) (v := .ref (q 15)) (C := RX12) (T := TX12) (N := 33) hx hb hts hinX12 hown hK.1 hP 0 rfl rfl 18 (by decide) wd4 (fun _ h9 => h9) rfl dX12_passesBytes_153 ?_
                refine lv_iload hx hb dX12_passesBytes_156 (lv_at hl 7 rfl) ?_
                refine lv_iload hx hb dX12_passesBytes_158 (lv_at hl 9 rfl) ?_
                obtain ⟨h80, hm⟩ := g_in hm
                refine va_iast hx hb hK.1 hP hD hS 15 0 rfl rfl h80 dX12_passesBytes_160 (fun H locs hP hD hS => ?_)
                have hP : va_P G vwCl (ww_M q cs v_told v_tell v_sums v_kindOf v_modOf v_bitsOf v_turnOf v_polyOf v_beginOf v_finishOf v_isLow v_weightsOf v_weight v_cell v_size v_row r78.1 (upd r78.2.1 x5.toNatClampNeg x6) (upd r78.2.2 x5.toNatClampNeg x7) v_placeA v_placeB v_turned v_turnedMany v_syndromes v_lightest v_freeMany v_freePlace v_freeSyndrome v_ways v_waysKept v_trace r73.1 r73.2) H := hP
                have hD : va_D A (ww_M q cs v_told v_tell v_sums v_kindOf v_modOf v_bitsOf v_turnOf v_polyOf v_beginOf v_finishOf v_isLow v_weightsOf v_weight v_cell v_size v_row r78.1 (upd r78.2.1 x5.toNatClampNeg x6) (upd r78.2.2 x5.toNatClampNeg x7) v_placeA v_placeB v_turned v_turnedMany v_syndromes v_lightest v_freeMany v_freePlace v_freeSyndrome v_ways v_waysKept v_trace r73.1 r73.2) := hD
                refine lv_iload hx hb dX12_passesBytes_161 (lv_at hl 6 rfl) ?_
                refine lv_if_le (tgt := 190) hx hb dX12_passesBytes_163 (by decide) (fun b81 => ?_) (fun b81 => ?_)
                · have hm := i_t b81 hm
                  refine lv_iconst (v := 1) hx hb dX12_passesBytes_190 (by decide) ?_
                  have hq := hret _ (st_exit hm hst)
                  subst hq; subst hQ
                  exact k_zret hx hb hr hlocks hP hD hS rfl (by decide) dX12_passesBytes_191
                · have hm := i_f b81 hm
                  refine lv_aload_n hx hb dX12_passesBytes_166 rfl (lv_at hl 2 rfl) ?_
                  refine va_get (D := G) (ci := 10) (v := .ref (q 14)) (C := RX12) (T := TX12) (N := 33) hx hb hts hinX12 hown hK.1 hP 0 rfl rfl 17 (by decide) wd3 (fun _ h9 => h9) rfl dX12_passesBytes_167 ?_
                  refine lv_iload hx hb dX12_passesBytes_170 (lv_at hl 7 rfl) ?_
                  refine lv_iload hx hb dX12_passesBytes_172 (lv_at hl 6 rfl) ?_
                  refine lv_iadd hx hb dX12_passesBytes_174 ?_
                  refine lv_iload hx hb dX12_passesBytes_175 (lv_at hl 1 rfl) ?_
                  obtain ⟨h82, hm⟩ := g_in hm
                  refine va_iast hx hb hK.1 hP hD hS 14 0 rfl rfl h82 dX12_passesBytes_177 (fun H locs hP hD hS => ?_)
                  have hP : va_P G vwCl (ww_M q cs v_told v_tell v_sums v_kindOf v_modOf v_bitsOf v_turnOf v_polyOf v_beginOf v_finishOf v_isLow v_weightsOf v_weight v_cell v_size v_row r78.1 (upd (upd r78.2.1 x5.toNatClampNeg x6) (x5 + x4).toNatClampNeg x6) (upd r78.2.2 x5.toNatClampNeg x7) v_placeA v_placeB v_turned v_turnedMany v_syndromes v_lightest v_freeMany v_freePlace v_freeSyndrome v_ways v_waysKept v_trace r73.1 r73.2) H := hP
                  have hD : va_D A (ww_M q cs v_told v_tell v_sums v_kindOf v_modOf v_bitsOf v_turnOf v_polyOf v_beginOf v_finishOf v_isLow v_weightsOf v_weight v_cell v_size v_row r78.1 (upd (upd r78.2.1 x5.toNatClampNeg x6) (x5 + x4).toNatClampNeg x6) (upd r78.2.2 x5.toNatClampNeg x7) v_placeA v_placeB v_turned v_turnedMany v_syndromes v_lightest v_freeMany v_freePlace v_freeSyndrome v_ways v_waysKept v_trace r73.1 r73.2) := hD
                  refine lv_aload_n hx hb dX12_passesBytes_178 rfl (lv_at hl 2 rfl) ?_
                  refine va_get (D := G) (ci := 10) (v := .ref (q 15)) (C := RX12) (T := TX12) (N := 33) hx hb hts hinX12 hown hK.1 hP 0 rfl rfl 18 (by decide) wd4 (fun _ h9 => h9) rfl dX12_passesBytes_179 ?_
                  refine lv_iload hx hb dX12_passesBytes_182 (lv_at hl 7 rfl) ?_
                  refine lv_iload hx hb dX12_passesBytes_184 (lv_at hl 6 rfl) ?_
                  refine lv_iadd hx hb dX12_passesBytes_186 ?_
                  refine lv_iload hx hb dX12_passesBytes_187 (lv_at hl 0 rfl) ?_
                  obtain ⟨h83, hm⟩ := g_in hm
                  refine va_iast hx hb hK.1 hP hD hS 15 0 rfl rfl h83 dX12_passesBytes_189 (fun H locs hP hD hS => ?_)
                  have hP : va_P G vwCl (ww_M q cs v_told v_tell v_sums v_kindOf v_modOf v_bitsOf v_turnOf v_polyOf v_beginOf v_finishOf v_isLow v_weightsOf v_weight v_cell v_size v_row r78.1 (upd (upd r78.2.1 x5.toNatClampNeg x6) (x5 + x4).toNatClampNeg x6) (upd (upd r78.2.2 x5.toNatClampNeg x7) (x5 + x4).toNatClampNeg x7) v_placeA v_placeB v_turned v_turnedMany v_syndromes v_lightest v_freeMany v_freePlace v_freeSyndrome v_ways v_waysKept v_trace r73.1 r73.2) H := hP
                  have hD : va_D A (ww_M q cs v_told v_tell v_sums v_kindOf v_modOf v_bitsOf v_turnOf v_polyOf v_beginOf v_finishOf v_isLow v_weightsOf v_weight v_cell v_size v_row r78.1 (upd (upd r78.2.1 x5.toNatClampNeg x6) (x5 + x4).toNatClampNeg x6) (upd (upd r78.2.2 x5.toNatClampNeg x7) (x5 + x4).toNatClampNeg x7) v_placeA v_placeB v_turned v_turnedMany v_syndromes v_lightest v_freeMany v_freePlace v_freeSyndrome v_ways v_waysKept v_trace r73.1 r73.2) := hD
                  refine lv_iconst (v := 1) hx hb dX12_passesBytes_190 (by decide) ?_
                  have hq := hret _ (st_exit hm hst)
                  subst hq; subst hQ
                  exact k_zret hx hb hr hlocks hP hD hS rfl (by decide) dX12_passesBytes_191
            · have hm := i_f b74 hm
              refine lv_aload_n hx hb dX12_passesBytes_116 rfl (lv_at hl 2 rfl) ?_
              refine lv_iload_n hx hb dX12_passesBytes_117 rfl (lv_at hl 3 rfl) ?_
              refine lv_iload hx hb dX12_passesBytes_118 (lv_at hl 7 rfl) ?_
              refine lv_iload hx hb dX12_passesBytes_120 (lv_at hl 6 rfl) ?_
              refine lv_iadd hx hb dX12_passesBytes_122 ?_
              refine lv_iload hx hb dX12_passesBytes_123 (lv_at hl 1 rfl) ?_
              refine lv_iload hx hb dX12_passesBytes_125 (lv_at hl 0 rfl) ?_
              obtain ⟨r84, hc_r84, hm⟩ := bs hm
              refine k_callv (va_runV (As := [.int x1, .int (x5 + x4), .int x6, .int x7]) (rest := []) ⟨hx, hb, hml, hown, hts⟩ (c_X12_alter l G cs q H.size v_told v_tell v_sums v_kindOf v_modOf v_bitsOf v_turnOf v_polyOf v_beginOf v_finishOf v_isLow v_weightsOf v_weight v_cell v_size v_row v_keptSize v_keptBefore v_keptAfter v_placeA v_placeB v_turned v_turnedMany v_syndromes v_lightest v_freeMany v_freePlace v_freeSyndrome v_ways v_waysKept v_trace r73.1 r73.2   x1 (x5 + x4) x6 x7 n r84 hc_r84) (cwV 4 hts gX12_passesBytes_X12_alter rfl rfl rfl ⟨rfl, hd_X12_alter⟩ ⟨Nat.le_of_ble_eq_true rfl, Nat.le_of_ble_eq_true rfl⟩) ⟨pre_blind, va_recv hK.1 hP (ci := 10) (q0 := 0) rfl rfl, pre_w hK RO.nil hP hD (va_all hD hS hA)⟩ rfl rfl hl.1 rfl (lv_room (Nat.le_of_ble_eq_true rfl)) dX12_passesBytes_127 ⟨Nat.zero_le _, Nat.zero_le _⟩) hS (va_all hD hS hA) (fun H locs hP hD hS => ?_)
              have hP : va_P G vwCl (ww_M q cs v_told v_tell v_sums v_kindOf v_modOf v_bitsOf v_turnOf v_polyOf v_beginOf v_finishOf v_isLow v_weightsOf v_weight v_cell v_size v_row v_keptSize v_keptBefore v_keptAfter v_placeA v_placeB v_turned v_turnedMany v_syndromes v_lightest v_freeMany v_freePlace v_freeSyndrome v_ways v_waysKept v_trace r84.1 r84.2) H := hP
              have hD : va_D A (ww_M q cs v_told v_tell v_sums v_kindOf v_modOf v_bitsOf v_turnOf v_polyOf v_beginOf v_finishOf v_isLow v_weightsOf v_weight v_cell v_size v_row v_keptSize v_keptBefore v_keptAfter v_placeA v_placeB v_turned v_turnedMany v_syndromes v_lightest v_freeMany v_freePlace v_freeSyndrome v_ways v_waysKept v_trace r84.1 r84.2) := hD
              refine lv_aload_n hx hb dX12_passesBytes_130 rfl (lv_at hl 2 rfl) ?_
              refine lv_iload_n hx hb dX12_passesBytes_131 rfl (lv_at hl 3 rfl) ?_
              obtain ⟨r85, hc_r85, hm⟩ := bs hm
              refine k_calli (va_runV (As := [.int x1]) (rest := []) ⟨hx, hb, hml, hown, hts⟩ (c_X12_isNothing l G cs q H.size v_told v_tell v_sums v_kindOf v_modOf v_bitsOf v_turnOf v_polyOf v_beginOf v_finishOf v_isLow v_weightsOf v_weight v_cell v_size v_row v_keptSize v_keptBefore v_keptAfter v_placeA v_placeB v_turned v_turnedMany v_syndromes v_lightest v_freeMany v_freePlace v_freeSyndrome v_ways v_waysKept v_trace r84.1 r84.2   x1 r85 hc_r85) (cwV 1 hts gX12_passesBytes_X12_isNothing rfl rfl rfl ⟨rfl, hd_X12_isNothing⟩ ⟨Nat.le_of_ble_eq_true rfl, Nat.le_of_ble_eq_true rfl⟩) ⟨pre_blind, va_recv hK.1 hP (ci := 10) (q0 := 0) rfl rfl, pre_w hK RO.nil hP hD (va_all hD hS hA)⟩ rfl rfl hl.1 rfl (lv_room (Nat.le_of_ble_eq_true rfl)) dX12_passesBytes_132 ⟨Nat.zero_le _, Nat.zero_le _⟩) hS (va_all hD hS hA) (fun hE86 H locs hP hD hS => ?_)
              have hP : va_P G vwCl (ww_M q cs v_told v_tell v_sums v_kindOf v_modOf v_bitsOf v_turnOf v_polyOf v_beginOf v_finishOf v_isLow v_weightsOf v_weight v_cell v_size v_row v_keptSize v_keptBefore v_keptAfter v_placeA v_placeB v_turned v_turnedMany v_syndromes v_lightest v_freeMany v_freePlace v_freeSyndrome v_ways v_waysKept v_trace r84.1 r84.2) H := hP
              have hD : va_D A (ww_M q cs v_told v_tell v_sums v_kindOf v_modOf v_bitsOf v_turnOf v_polyOf v_beginOf v_finishOf v_isLow v_weightsOf v_weight v_cell v_size v_row v_keptSize v_keptBefore v_keptAfter v_placeA v_placeB v_turned v_turnedMany v_syndromes v_lightest v_freeMany v_freePlace v_freeSyndrome v_ways v_waysKept v_trace r84.1 r84.2) := hD
              refine lv_if_eq (tgt := 192) hx hb dX12_passesBytes_135 (by decide) (fun b87 => ?_) (fun b87 => ?_)
              · have hm := i_t b87 hm
                refine lv_iinc (v := x7 + 1) (lv' := [(7, .int (x7 + 1)), (9, .int x7), (8, .int x6), (0, .ref (q 0)), (1, .int x1), (2, .int x2), (3, .int x3), (4, .int x4), (5, .int x5), (6, .int x6)]) hx hb dX12_passesBytes_192 hl (k := 9) rfl rfl (by decide) rfl (fun ls hl => ?_)
                refine lv_goto (tgt := 47) hx hb dX12_passesBytes_195 (by decide) ?_
                exact st_next hm hst H locs hP hD hS ls (lv_sub hl [3, 4, 5, 6, 7, 8, 9, 0] rfl)
              · have hm := i_f b87 hm
                refine lv_aload_n hx hb dX12_passesBytes_138 rfl (lv_at hl 2 rfl) ?_
                refine lv_iload_n hx hb dX12_passesBytes_139 rfl (lv_at hl 5 rfl) ?_
                obtain ⟨r88, hc_r88, hm⟩ := bs hm
                refine k_callv (va_runV (As := [.int x3]) (rest := []) ⟨hx, hb, hml, hown, hts⟩ (c_X12_beginKept l G cs q H.size v_told v_tell v_sums v_kindOf v_modOf v_bitsOf v_turnOf v_polyOf v_beginOf v_finishOf v_isLow v_weightsOf v_weight v_cell v_size v_row v_keptSize v_keptBefore v_keptAfter v_placeA v_placeB v_turned v_turnedMany v_syndromes v_lightest v_freeMany v_freePlace v_freeSyndrome v_ways v_waysKept v_trace r84.1 r84.2   x3 n r88 hc_r88) (cwV 1 hts gX12_passesBytes_X12_beginKept rfl rfl rfl ⟨rfl, hd_X12_beginKept⟩ ⟨Nat.le_of_ble_eq_true rfl, Nat.le_of_ble_eq_true rfl⟩) ⟨pre_blind, va_recv hK.1 hP (ci := 10) (q0 := 0) rfl rfl, pre_w hK RO.nil hP hD (va_all hD hS hA)⟩ rfl rfl hl.1 rfl (lv_room (Nat.le_of_ble_eq_true rfl)) dX12_passesBytes_140 ⟨Nat.zero_le _, Nat.zero_le _⟩) hS (va_all hD hS hA) (fun H locs hP hD hS => ?_)
                have hP : va_P G vwCl (ww_M q cs v_told v_tell v_sums v_kindOf v_modOf v_bitsOf v_turnOf v_polyOf v_beginOf v_finishOf v_isLow v_weightsOf v_weight v_cell v_size v_row r88.1 r88.2.1 r88.2.2 v_placeA v_placeB v_turned v_turnedMany v_syndromes v_lightest v_freeMany v_freePlace v_freeSyndrome v_ways v_waysKept v_trace r84.1 r84.2) H := hP
                have hD : va_D A (ww_M q cs v_told v_tell v_sums v_kindOf v_modOf v_bitsOf v_turnOf v_polyOf v_beginOf v_finishOf v_isLow v_weightsOf v_weight v_cell v_size v_row r88.1 r88.2.1 r88.2.2 v_placeA v_placeB v_turned v_turnedMany v_syndromes v_lightest v_freeMany v_freePlace v_freeSyndrome v_ways v_waysKept v_trace r84.1 r84.2) := hD
                refine lv_aload_n hx hb dX12_passesBytes_143 rfl (lv_at hl 2 rfl) ?_
                refine va_get (D := G) (ci := 10) (v := .ref (q 14)) (C := RX12) (T := TX12) (N := 33) hx hb hts hinX12 hown hK.1 hP 0 rfl rfl 17 (by decide) wd3 (fun _ h9 => h9) rfl dX12_passesBytes_144 ?_
                refine lv_iload hx hb dX12_passesBytes_147 (lv_at hl 7 rfl) ?_
                refine lv_iload hx hb dX12_passesBytes_149 (lv_at hl 8 rfl) ?_
                obtain ⟨h89, hm⟩ := g_in hm
                refine va_iast hx hb hK.1 hP hD hS 14 0 rfl rfl h89 dX12_passesBytes_151 (fun H locs hP hD hS => ?_)
                have hP : va_P G vwCl (ww_M q cs v_told v_tell v_sums v_kindOf v_modOf v_bitsOf v_turnOf v_polyOf v_beginOf v_finishOf v_isLow v_weightsOf v_weight v_cell v_size v_row r88.1 (upd r88.2.1 x5.toNatClampNeg x6) r88.2.2 v_placeA v_placeB v_turned v_turnedMany v_syndromes v_lightest v_freeMany v_freePlace v_freeSyndrome v_ways v_waysKept v_trace r84.1 r84.2) H := hP
                have hD : va_D A (ww_M q cs v_told v_tell v_sums v_kindOf v_modOf v_bitsOf v_turnOf v_polyOf v_beginOf v_finishOf v_isLow v_weightsOf v_weight v_cell v_size v_row r88.1 (upd r88.2.1 x5.toNatClampNeg x6) r88.2.2 v_placeA v_placeB v_turned v_turnedMany v_syndromes v_lightest v_freeMany v_freePlace v_freeSyndrome v_ways v_waysKept v_trace r84.1 r84.2) := hD
                refine lv_aload_n hx hb dX12_passesBytes_152 rfl (lv_at hl 2 rfl) ?_
                refine va_get (D := G) (ci := 10) (v := .ref (q 15)) (C := RX12) (T := TX12) (N := 33) hx hb hts hinX12 hown hK.1 hP 0 rfl rfl 18 (by decide) wd4 (fun _ h9 => h9) rfl dX12_passesBytes_153 ?_
                refine lv_iload hx hb dX12_passesBytes_156 (lv_at hl 7 rfl) ?_
                refine lv_iload hx hb dX12_passesBytes_158 (lv_at hl 9 rfl) ?_
                obtain ⟨h90, hm⟩ := g_in hm
                refine va_iast hx hb hK.1 hP hD hS 15 0 rfl rfl h90 dX12_passesBytes_160 (fun H locs hP hD hS => ?_)
                have hP : va_P G vwCl (ww_M q cs v_told v_tell v_sums v_kindOf v_modOf v_bitsOf v_turnOf v_polyOf v_beginOf v_finishOf v_isLow v_weightsOf v_weight v_cell v_size v_row r88.1 (upd r88.2.1 x5.toNatClampNeg x6) (upd r88.2.2 x5.toNatClampNeg x7) v_placeA v_placeB v_turned v_turnedMany v_syndromes v_lightest v_freeMany v_freePlace v_freeSyndrome v_ways v_waysKept v_trace r84.1 r84.2) H := hP
                have hD : va_D A (ww_M q cs v_told v_tell v_sums v_kindOf v_modOf v_bitsOf v_turnOf v_polyOf v_beginOf v_finishOf v_isLow v_weightsOf v_weight v_cell v_size v_row r88.1 (upd r88.2.1 x5.toNatClampNeg x6) (upd r88.2.2 x5.toNatClampNeg x7) v_placeA v_placeB v_turned v_turnedMany v_syndromes v_lightest v_freeMany v_freePlace v_freeSyndrome v_ways v_waysKept v_trace r84.1 r84.2) := hD
                refine lv_iload hx hb dX12_passesBytes_161 (lv_at hl 6 rfl) ?_
                refine lv_if_le (tgt := 190) hx hb dX12_passesBytes_163 (by decide) (fun b91 => ?_) (fun b91 => ?_)
                · have hm := i_t b91 hm
                  refine lv_iconst (v := 1) hx hb dX12_passesBytes_190 (by decide) ?_
                  have hq := hret _ (st_exit hm hst)
                  subst hq; subst hQ
                  exact k_zret hx hb hr hlocks hP hD hS rfl (by decide) dX12_passesBytes_191
                · have hm := i_f b91 hm
                  refine lv_aload_n hx hb dX12_passesBytes_166 rfl (lv_at hl 2 rfl) ?_
                  refine va_get (D := G) (ci := 10) (v := .ref (q 14)) (C := RX12) (T := TX12) (N := 33) hx hb hts hinX12 hown hK.1 hP 0 rfl rfl 17 (by decide) wd3 (fun _ h9 => h9) rfl dX12_passesBytes_167 ?_
                  refine lv_iload hx hb dX12_passesBytes_170 (lv_at hl 7 rfl) ?_
                  refine lv_iload hx hb dX12_passesBytes_172 (lv_at hl 6 rfl) ?_
                  refine lv_iadd hx hb dX12_passesBytes_174 ?_
                  refine lv_iload hx hb dX12_passesBytes_175 (lv_at hl 1 rfl) ?_
                  obtain ⟨h92, hm⟩ := g_in hm
                  refine va_iast hx hb hK.1 hP hD hS 14 0 rfl rfl h92 dX12_passesBytes_177 (fun H locs hP hD hS => ?_)
                  have hP : va_P G vwCl (ww_M q cs v_told v_tell v_sums v_kindOf v_modOf v_bitsOf v_turnOf v_polyOf v_beginOf v_finishOf v_isLow v_weightsOf v_weight v_cell v_size v_row r88.1 (upd (upd r88.2.1 x5.toNatClampNeg x6) (x5 + x4).toNatClampNeg x6) (upd r88.2.2 x5.toNatClampNeg x7) v_placeA v_placeB v_turned v_turnedMany v_syndromes v_lightest v_freeMany v_freePlace v_freeSyndrome v_ways v_waysKept v_trace r84.1 r84.2) H := hP
                  have hD : va_D A (ww_M q cs v_told v_tell v_sums v_kindOf v_modOf v_bitsOf v_turnOf v_polyOf v_beginOf v_finishOf v_isLow v_weightsOf v_weight v_cell v_size v_row r88.1 (upd (upd r88.2.1 x5.toNatClampNeg x6) (x5 + x4).toNatClampNeg x6) (upd r88.2.2 x5.toNatClampNeg x7) v_placeA v_placeB v_turned v_turnedMany v_syndromes v_lightest v_freeMany v_freePlace v_freeSyndrome v_ways v_waysKept v_trace r84.1 r84.2) := hD
                  refine lv_aload_n hx hb dX12_passesBytes_178 rfl (lv_at hl 2 rfl) ?_
                  refine va_get (D := G) (ci := 10) (v := .ref (q 15)) (C := RX12) (T := TX12) (N := 33) hx hb hts hinX12 hown hK.1 hP 0 rfl rfl 18 (by decide) wd4 (fun _ h9 => h9) rfl dX12_passesBytes_179 ?_
                  refine lv_iload hx hb dX12_passesBytes_182 (lv_at hl 7 rfl) ?_
                  refine lv_iload hx hb dX12_passesBytes_184 (lv_at hl 6 rfl) ?_
                  refine lv_iadd hx hb dX12_passesBytes_186 ?_
                  refine lv_iload hx hb dX12_passesBytes_187 (lv_at hl 0 rfl) ?_
                  obtain ⟨h93, hm⟩ := g_in hm
                  refine va_iast hx hb hK.1 hP hD hS 15 0 rfl rfl h93 dX12_passesBytes_189 (fun H locs hP hD hS => ?_)
                  have hP : va_P G vwCl (ww_M q cs v_told v_tell v_sums v_kindOf v_modOf v_bitsOf v_turnOf v_polyOf v_beginOf v_finishOf v_isLow v_weightsOf v_weight v_cell v_size v_row r88.1 (upd (upd r88.2.1 x5.toNatClampNeg x6) (x5 + x4).toNatClampNeg x6) (upd (upd r88.2.2 x5.toNatClampNeg x7) (x5 + x4).toNatClampNeg x7) v_placeA v_placeB v_turned v_turnedMany v_syndromes v_lightest v_freeMany v_freePlace v_freeSyndrome v_ways v_waysKept v_trace r84.1 r84.2) H := hP
                  have hD : va_D A (ww_M q cs v_told v_tell v_sums v_kindOf v_modOf v_bitsOf v_turnOf v_polyOf v_beginOf v_finishOf v_isLow v_weightsOf v_weight v_cell v_size v_row r88.1 (upd (upd r88.2.1 x5.toNatClampNeg x6) (x5 + x4).toNatClampNeg x6) (upd (upd r88.2.2 x5.toNatClampNeg x7) (x5 + x4).toNatClampNeg x7) v_placeA v_placeB v_turned v_turnedMany v_syndromes v_lightest v_freeMany v_freePlace v_freeSyndrome v_ways v_waysKept v_trace r84.1 r84.2) := hD
                  refine lv_iconst (v := 1) hx hb dX12_passesBytes_190 (by decide) ?_
                  have hq := hret _ (st_exit hm hst)
                  subst hq; subst hQ
                  exact k_zret hx hb hr hlocks hP hD hS rfl (by decide) dX12_passesBytes_191
  have L36 : ∀ (x1 : Int32) (x2 : Int32) (x3 : Int32) (x4 : Int32) (x5 : Int32) (x6 : Int32) (v_keptSize : Int32) (v_keptBefore : (Nat → Int32)) (v_keptAfter : (Nat → Int32)) (v_comesA : Int64) (v_comesB : Int64) (out : ((Int64 × Int64) ⊕ (Int32 × Int32 × (Nat → Int32) × (Nat → Int32) × Int64 × Int64))), lp (fun x : (Int32 × Int64 × Int64) => M_X12_passesBytes_b36 n x1 x2 x3 x4 x5 v_kindOf v_modOf v_keptSize v_keptBefore v_keptAfter v_placeA v_placeB x.1 x.2.1 x.2.2) n (x6, v_comesA, v_comesB) = some out → (∀ r, out = .inr r → r = res) → (∀ (o : (Int64 × Int64)), out = .inl o → ∀ (H : Heap) (locs : List Loc), va_P G vwCl (ww_M q cs v_told v_tell v_sums v_kindOf v_modOf v_bitsOf v_turnOf v_polyOf v_beginOf v_finishOf v_isLow v_weightsOf v_weight v_cell v_size v_row v_keptSize v_keptBefore v_keptAfter v_placeA v_placeB v_turned v_turnedMany v_syndromes v_lightest v_freeMany v_freePlace v_freeSyndrome v_ways v_waysKept v_trace o.1 o.2) H → va_D A (ww_M q cs v_told v_tell v_sums v_kindOf v_modOf v_bitsOf v_turnOf v_polyOf v_beginOf v_finishOf v_isLow v_weightsOf v_weight v_cell v_size v_row v_keptSize v_keptBefore v_keptAfter v_placeA v_placeB v_turned v_turnedMany v_syndromes v_lightest v_freeMany v_freePlace v_freeSyndrome v_ways v_waysKept v_trace o.1 o.2) → va_S A s.heap H locs → ∀ (ls : Array Slot), lv_has ls 10 [(0, .ref (q 0)), (1, .int x1), (2, .int x2), (3, .int x3), (4, .int x4), (5, .int x5)] → W p l e rmX12_passesBytes s m args below meth c H locs 0 0 Q (F0 m 204 ls [])) → ∀ (H : Heap) (locs : List Loc), va_P G vwCl (ww_M q cs v_told v_tell v_sums v_kindOf v_modOf v_bitsOf v_turnOf v_polyOf v_beginOf v_finishOf v_isLow v_weightsOf v_weight v_cell v_size v_row v_keptSize v_keptBefore v_keptAfter v_placeA v_placeB v_turned v_turnedMany v_syndromes v_lightest v_freeMany v_freePlace v_freeSyndrome v_ways v_waysKept v_trace v_comesA v_comesB) H → va_D A (ww_M q cs v_told v_tell v_sums v_kindOf v_modOf v_bitsOf v_turnOf v_polyOf v_beginOf v_finishOf v_isLow v_weightsOf v_weight v_cell v_size v_row v_keptSize v_keptBefore v_keptAfter v_placeA v_placeB v_turned v_turnedMany v_syndromes v_lightest v_freeMany v_freePlace v_freeSyndrome v_ways v_waysKept v_trace v_comesA v_comesB) → va_S A s.heap H locs → ∀ (ls : Array Slot), lv_has ls 10 [(0, .ref (q 0)), (1, .int x1), (2, .int x2), (3, .int x3), (4, .int x4), (5, .int x5), (6, .int x6)] → W p l e rmX12_passesBytes s m args below meth c H locs 0 0 Q (F0 m 36 ls []) := by
    intro x1 x2 x3 x4 x5 x6 v_keptSize v_keptBefore v_keptAfter v_comesA v_comesB out hlp hret hX
    refine lp_ind (fun x => ∀ (H : Heap) (locs : List Loc), va_P G vwCl (ww_M q cs v_told v_tell v_sums v_kindOf v_modOf v_bitsOf v_turnOf v_polyOf v_beginOf v_finishOf v_isLow v_weightsOf v_weight v_cell v_size v_row v_keptSize v_keptBefore v_keptAfter v_placeA v_placeB v_turned v_turnedMany v_syndromes v_lightest v_freeMany v_freePlace v_freeSyndrome v_ways v_waysKept v_trace x.2.1 x.2.2) H → va_D A (ww_M q cs v_told v_tell v_sums v_kindOf v_modOf v_bitsOf v_turnOf v_polyOf v_beginOf v_finishOf v_isLow v_weightsOf v_weight v_cell v_size v_row v_keptSize v_keptBefore v_keptAfter v_placeA v_placeB v_turned v_turnedMany v_syndromes v_lightest v_freeMany v_freePlace v_freeSyndrome v_ways v_waysKept v_trace x.2.1 x.2.2) → va_S A s.heap H locs → ∀ (ls : Array Slot), lv_has ls 10 [(0, .ref (q 0)), (1, .int x1), (2, .int x2), (3, .int x3), (4, .int x4), (5, .int x5), (6, .int x.1)] → W p l e rmX12_passesBytes s m args below meth c H locs 0 0 Q (F0 m 36 ls [])) ?_ n (x6, v_comesA, v_comesB) hlp
    clear hlp hP hD hS hl
    rintro ⟨x6, v_comesA, v_comesB⟩ ob hm hst H locs hP hD hS ls hl
    have hm : M_X12_passesBytes_b36 n x1 x2 x3 x4 x5 v_kindOf v_modOf v_keptSize v_keptBefore v_keptAfter v_placeA v_placeB x6 v_comesA v_comesB = some ob := hm
    have hl : lv_has ls 10 [(0, .ref (q 0)), (1, .int x1), (2, .int x2), (3, .int x3), (4, .int x4), (5, .int x5), (6, .int x6)] := hl
    have hP : va_P G vwCl (ww_M q cs v_told v_tell v_sums v_kindOf v_modOf v_bitsOf v_turnOf v_polyOf v_beginOf v_finishOf v_isLow v_weightsOf v_weight v_cell v_size v_row v_keptSize v_keptBefore v_keptAfter v_placeA v_placeB v_turned v_turnedMany v_syndromes v_lightest v_freeMany v_freePlace v_freeSyndrome v_ways v_waysKept v_trace v_comesA v_comesB) H := hP
    have hD : va_D A (ww_M q cs v_told v_tell v_sums v_kindOf v_modOf v_bitsOf v_turnOf v_polyOf v_beginOf v_finishOf v_isLow v_weightsOf v_weight v_cell v_size v_row v_keptSize v_keptBefore v_keptAfter v_placeA v_placeB v_turned v_turnedMany v_syndromes v_lightest v_freeMany v_freePlace v_freeSyndrome v_ways v_waysKept v_trace v_comesA v_comesB) := hD
    unfold M_X12_passesBytes_b36 at hm
    refine lv_iload hx hb dX12_passesBytes_36 (lv_at hl 6 rfl) ?_
    refine lv_sipush (v := 256) hx hb dX12_passesBytes_38 (by decide) ?_
    refine lv_icmp_ge (tgt := 204) hx hb dX12_passesBytes_41 (by decide) (fun b4 => ?_) (fun b4 => ?_)
    · have hm := i_t b4 hm
      exact hX _ (st_exit hm hst) H locs hP hD hS ls (lv_sub hl [0, 1, 2, 3, 4, 5] rfl)
    · have hm := i_f b4 hm
      refine lv_iconst (v := 0) hx hb dX12_passesBytes_44 (by decide) ?_
      refine lv_istore (lv' := [(7, .int 0), (0, .ref (q 0)), (1, .int x1), (2, .int x2), (3, .int x3), (4, .int x4), (5, .int x5), (6, .int x6)]) hx hb dX12_passesBytes_45 hl (by decide) rfl (fun ls hl => ?_)
      obtain ⟨u94, hlp94, hm⟩ := bs hm
      refine L47 x1 x2 x3 x4 x5 x6 (0 : Int32) v_keptSize v_keptBefore v_keptAfter v_comesA v_comesB u94 hlp94 (fun r h => by have h2 := se_r h hm; exact hret r (st_exit h2 hst)) (fun o94 ho => ?_) H locs hP hD hS ls (lv_sub hl [1, 2, 3, 4, 5, 6, 7, 0] rfl)
      have hm := se_l ho hm
      intro H locs hP hD hS ls hl
      have hl : lv_has ls 10 [(0, .ref (q 0)), (1, .int x1), (2, .int x2), (3, .int x3), (4, .int x4), (5, .int x5), (6, .int x6)] := hl
      have hP : va_P G vwCl (ww_M q cs v_told v_tell v_sums v_kindOf v_modOf v_bitsOf v_turnOf v_polyOf v_beginOf v_finishOf v_isLow v_weightsOf v_weight v_cell v_size v_row v_keptSize v_keptBefore v_keptAfter v_placeA v_placeB v_turned v_turnedMany v_syndromes v_lightest v_freeMany v_freePlace v_freeSyndrome v_ways v_waysKept v_trace o94.1 o94.2) H := hP
      have hD : va_D A (ww_M q cs v_told v_tell v_sums v_kindOf v_modOf v_bitsOf v_turnOf v_polyOf v_beginOf v_finishOf v_isLow v_weightsOf v_weight v_cell v_size v_row v_keptSize v_keptBefore v_keptAfter v_placeA v_placeB v_turned v_turnedMany v_syndromes v_lightest v_freeMany v_freePlace v_freeSyndrome v_ways v_waysKept v_trace o94.1 o94.2) := hD
      refine lv_iinc (v := x6 + 1) (lv' := [(6, .int (x6 + 1)), (0, .ref (q 0)), (1, .int x1), (2, .int x2), (3, .int x3), (4, .int x4), (5, .int x5)]) hx hb dX12_passesBytes_198 hl (k := 6) rfl rfl (by decide) rfl (fun ls hl => ?_)
      refine lv_goto (tgt := 36) hx hb dX12_passesBytes_201 (by decide) ?_
      exact st_next hm hst H locs hP hD hS ls (lv_sub hl [1, 2, 3, 4, 5, 6, 0] rfl)
  have L24 : ∀ (x1 : Int32) (x2 : Int32) (x3 : Int32) (x4 : Int32) (x5 : Int32) (v_keptSize : Int32) (v_keptBefore : (Nat → Int32)) (v_keptAfter : (Nat → Int32)) (v_comesA : Int64) (v_comesB : Int64) (out : ((Int64 × Int64) ⊕ (Int32 × Int32 × (Nat → Int32) × (Nat → Int32) × Int64 × Int64))), lp (fun x : (Int32 × Int64 × Int64) => M_X12_passesBytes_b24 n x1 x2 x3 x4 v_kindOf v_modOf v_keptSize v_keptBefore v_keptAfter v_placeA v_placeB x.1 x.2.1 x.2.2) n (x5, v_comesA, v_comesB) = some out → (∀ r, out = .inr r → r = res) → (∀ (o : (Int64 × Int64)), out = .inl o → ∀ (H : Heap) (locs : List Loc), va_P G vwCl (ww_M q cs v_told v_tell v_sums v_kindOf v_modOf v_bitsOf v_turnOf v_polyOf v_beginOf v_finishOf v_isLow v_weightsOf v_weight v_cell v_size v_row v_keptSize v_keptBefore v_keptAfter v_placeA v_placeB v_turned v_turnedMany v_syndromes v_lightest v_freeMany v_freePlace v_freeSyndrome v_ways v_waysKept v_trace o.1 o.2) H → va_D A (ww_M q cs v_told v_tell v_sums v_kindOf v_modOf v_bitsOf v_turnOf v_polyOf v_beginOf v_finishOf v_isLow v_weightsOf v_weight v_cell v_size v_row v_keptSize v_keptBefore v_keptAfter v_placeA v_placeB v_turned v_turnedMany v_syndromes v_lightest v_freeMany v_freePlace v_freeSyndrome v_ways v_waysKept v_trace o.1 o.2) → va_S A s.heap H locs → ∀ (ls : Array Slot), lv_has ls 10 [] → W p l e rmX12_passesBytes s m args below meth c H locs 0 0 Q (F0 m 210 ls [])) → ∀ (H : Heap) (locs : List Loc), va_P G vwCl (ww_M q cs v_told v_tell v_sums v_kindOf v_modOf v_bitsOf v_turnOf v_polyOf v_beginOf v_finishOf v_isLow v_weightsOf v_weight v_cell v_size v_row v_keptSize v_keptBefore v_keptAfter v_placeA v_placeB v_turned v_turnedMany v_syndromes v_lightest v_freeMany v_freePlace v_freeSyndrome v_ways v_waysKept v_trace v_comesA v_comesB) H → va_D A (ww_M q cs v_told v_tell v_sums v_kindOf v_modOf v_bitsOf v_turnOf v_polyOf v_beginOf v_finishOf v_isLow v_weightsOf v_weight v_cell v_size v_row v_keptSize v_keptBefore v_keptAfter v_placeA v_placeB v_turned v_turnedMany v_syndromes v_lightest v_freeMany v_freePlace v_freeSyndrome v_ways v_waysKept v_trace v_comesA v_comesB) → va_S A s.heap H locs → ∀ (ls : Array Slot), lv_has ls 10 [(0, .ref (q 0)), (1, .int x1), (2, .int x2), (3, .int x3), (4, .int x4), (5, .int x5)] → W p l e rmX12_passesBytes s m args below meth c H locs 0 0 Q (F0 m 24 ls []) := by
    intro x1 x2 x3 x4 x5 v_keptSize v_keptBefore v_keptAfter v_comesA v_comesB out hlp hret hX
    refine lp_ind (fun x => ∀ (H : Heap) (locs : List Loc), va_P G vwCl (ww_M q cs v_told v_tell v_sums v_kindOf v_modOf v_bitsOf v_turnOf v_polyOf v_beginOf v_finishOf v_isLow v_weightsOf v_weight v_cell v_size v_row v_keptSize v_keptBefore v_keptAfter v_placeA v_placeB v_turned v_turnedMany v_syndromes v_lightest v_freeMany v_freePlace v_freeSyndrome v_ways v_waysKept v_trace x.2.1 x.2.2) H → va_D A (ww_M q cs v_told v_tell v_sums v_kindOf v_modOf v_bitsOf v_turnOf v_polyOf v_beginOf v_finishOf v_isLow v_weightsOf v_weight v_cell v_size v_row v_keptSize v_keptBefore v_keptAfter v_placeA v_placeB v_turned v_turnedMany v_syndromes v_lightest v_freeMany v_freePlace v_freeSyndrome v_ways v_waysKept v_trace x.2.1 x.2.2) → va_S A s.heap H locs → ∀ (ls : Array Slot), lv_has ls 10 [(0, .ref (q 0)), (1, .int x1), (2, .int x2), (3, .int x3), (4, .int x4), (5, .int x.1)] → W p l e rmX12_passesBytes s m args below meth c H locs 0 0 Q (F0 m 24 ls [])) ?_ n (x5, v_comesA, v_comesB) hlp
    clear hlp hP hD hS hl
    rintro ⟨x5, v_comesA, v_comesB⟩ ob hm hst H locs hP hD hS ls hl
    have hm : M_X12_passesBytes_b24 n x1 x2 x3 x4 v_kindOf v_modOf v_keptSize v_keptBefore v_keptAfter v_placeA v_placeB x5 v_comesA v_comesB = some ob := hm
    have hl : lv_has ls 10 [(0, .ref (q 0)), (1, .int x1), (2, .int x2), (3, .int x3), (4, .int x4), (5, .int x5)] := hl
    have hP : va_P G vwCl (ww_M q cs v_told v_tell v_sums v_kindOf v_modOf v_bitsOf v_turnOf v_polyOf v_beginOf v_finishOf v_isLow v_weightsOf v_weight v_cell v_size v_row v_keptSize v_keptBefore v_keptAfter v_placeA v_placeB v_turned v_turnedMany v_syndromes v_lightest v_freeMany v_freePlace v_freeSyndrome v_ways v_waysKept v_trace v_comesA v_comesB) H := hP
    have hD : va_D A (ww_M q cs v_told v_tell v_sums v_kindOf v_modOf v_bitsOf v_turnOf v_polyOf v_beginOf v_finishOf v_isLow v_weightsOf v_weight v_cell v_size v_row v_keptSize v_keptBefore v_keptAfter v_placeA v_placeB v_turned v_turnedMany v_syndromes v_lightest v_freeMany v_freePlace v_freeSyndrome v_ways v_waysKept v_trace v_comesA v_comesB) := hD
    unfold M_X12_passesBytes_b24 at hm
    refine lv_iload hx hb dX12_passesBytes_24 (lv_at hl 5 rfl) ?_
    refine lv_iload hx hb dX12_passesBytes_26 (lv_at hl 4 rfl) ?_
    refine lv_iadd hx hb dX12_passesBytes_28 ?_
    refine lv_iload_n hx hb dX12_passesBytes_29 rfl (lv_at hl 3 rfl) ?_
    refine lv_icmp_ge (tgt := 210) hx hb dX12_passesBytes_30 (by decide) (fun b3 => ?_) (fun b3 => ?_)
    · have hm := i_t b3 hm
      exact hX _ (st_exit hm hst) H locs hP hD hS ls (lv_sub hl [] rfl)
    · have hm := i_f b3 hm
      refine lv_iconst (v := 0) hx hb dX12_passesBytes_33 (by decide) ?_
      refine lv_istore (lv' := [(6, .int 0), (0, .ref (q 0)), (1, .int x1), (2, .int x2), (3, .int x3), (4, .int x4), (5, .int x5)]) hx hb dX12_passesBytes_34 hl (by decide) rfl (fun ls hl => ?_)
      obtain ⟨u95, hlp95, hm⟩ := bs hm
      refine L36 x1 x2 x3 x4 x5 (0 : Int32) v_keptSize v_keptBefore v_keptAfter v_comesA v_comesB u95 hlp95 (fun r h => by have h2 := se_r h hm; exact hret r (st_exit h2 hst)) (fun o95 ho => ?_) H locs hP hD hS ls (lv_sub hl [1, 2, 3, 4, 5, 6, 0] rfl)
      have hm := se_l ho hm
      intro H locs hP hD hS ls hl
      have hl : lv_has ls 10 [(0, .ref (q 0)), (1, .int x1), (2, .int x2), (3, .int x3), (4, .int x4), (5, .int x5)] := hl
      have hP : va_P G vwCl (ww_M q cs v_told v_tell v_sums v_kindOf v_modOf v_bitsOf v_turnOf v_polyOf v_beginOf v_finishOf v_isLow v_weightsOf v_weight v_cell v_size v_row v_keptSize v_keptBefore v_keptAfter v_placeA v_placeB v_turned v_turnedMany v_syndromes v_lightest v_freeMany v_freePlace v_freeSyndrome v_ways v_waysKept v_trace o95.1 o95.2) H := hP
      have hD : va_D A (ww_M q cs v_told v_tell v_sums v_kindOf v_modOf v_bitsOf v_turnOf v_polyOf v_beginOf v_finishOf v_isLow v_weightsOf v_weight v_cell v_size v_row v_keptSize v_keptBefore v_keptAfter v_placeA v_placeB v_turned v_turnedMany v_syndromes v_lightest v_freeMany v_freePlace v_freeSyndrome v_ways v_waysKept v_trace o95.1 o95.2) := hD
      refine lv_iinc (v := x5 + 1) (lv' := [(5, .int (x5 + 1)), (0, .ref (q 0)), (1, .int x1), (2, .int x2), (3, .int x3), (4, .int x4)]) hx hb dX12_passesBytes_204 hl (k := 5) rfl rfl (by decide) rfl (fun ls hl => ?_)
      refine lv_goto (tgt := 24) hx hb dX12_passesBytes_207 (by decide) ?_
      exact st_next hm hst H locs hP hD hS ls (lv_sub hl [1, 2, 3, 4, 5, 0] rfl)
  unfold M_X12_passesBytes at hm
  refine lv_iload_n hx hb dX12_passesBytes_0 rfl (lv_at hl 2 rfl) ?_
  refine lv_iconst (v := 2) hx hb dX12_passesBytes_1 (by decide) ?_
  refine lv_icmp_ne (tgt := 9) hx hb dX12_passesBytes_2 (by decide) (fun b1 => ?_) (fun b1 => ?_)
  · have hm := i_f b1 hm
    refine lv_iload_n hx hb dX12_passesBytes_9 rfl (lv_at hl 2 rfl) ?_
    refine lv_iconst (v := 4) hx hb dX12_passesBytes_10 (by decide) ?_
    refine lv_icmp_ne (tgt := 18) hx hb dX12_passesBytes_11 (by decide) (fun b2 => ?_) (fun b2 => ?_)
    · have hm := i_f b2 hm
      refine lv_iconst (v := 1) hx hb dX12_passesBytes_18 (by decide) ?_
      refine lv_istore (lv' := [(4, .int 1), (0, .ref (q 0)), (1, .int x1), (2, .int x2), (3, .int x3)]) hx hb dX12_passesBytes_19 hl (by decide) rfl (fun ls hl => ?_)
      refine lv_iconst (v := 0) hx hb dX12_passesBytes_21 (by decide) ?_
      refine lv_istore (lv' := [(5, .int 0), (4, .int 1), (0, .ref (q 0)), (1, .int x1), (2, .int x2), (3, .int x3)]) hx hb dX12_passesBytes_22 hl (by decide) rfl (fun ls hl => ?_)
      obtain ⟨u96, hlp96, hm⟩ := bs hm
      refine L24 x1 x2 x3 (1 : Int32) (0 : Int32) v_keptSize v_keptBefore v_keptAfter v_comesA v_comesB u96 hlp96 (fun r h => Option.some.inj (se_r h hm)) (fun o96 ho => ?_) H locs hP hD hS ls (lv_sub hl [2, 3, 4, 5, 1, 0] rfl)
      have hm := se_l ho hm
      intro H locs hP hD hS ls hl
      have hl : lv_has ls 10 [] := hl
      have hP : va_P G vwCl (ww_M q cs v_told v_tell v_sums v_kindOf v_modOf v_bitsOf v_turnOf v_polyOf v_beginOf v_finishOf v_isLow v_weightsOf v_weight v_cell v_size v_row v_keptSize v_keptBefore v_keptAfter v_placeA v_placeB v_turned v_turnedMany v_syndromes v_lightest v_freeMany v_freePlace v_freeSyndrome v_ways v_waysKept v_trace o96.1 o96.2) H := hP
      have hD : va_D A (ww_M q cs v_told v_tell v_sums v_kindOf v_modOf v_bitsOf v_turnOf v_polyOf v_beginOf v_finishOf v_isLow v_weightsOf v_weight v_cell v_size v_row v_keptSize v_keptBefore v_keptAfter v_placeA v_placeB v_turned v_turnedMany v_syndromes v_lightest v_freeMany v_freePlace v_freeSyndrome v_ways v_waysKept v_trace o96.1 o96.2) := hD
      refine lv_iconst (v := 0) hx hb dX12_passesBytes_210 (by decide) ?_
      have hq := Option.some.inj hm
      subst hq; subst hQ
      exact k_zret hx hb hr hlocks hP hD hS rfl (by decide) dX12_passesBytes_211
    · have hm := i_t b2 hm
      refine lv_iconst (v := 2) hx hb dX12_passesBytes_14 (by decide) ?_
      refine lv_goto (tgt := 19) hx hb dX12_passesBytes_15 (by decide) ?_
      refine lv_istore (lv' := [(4, .int 2), (0, .ref (q 0)), (1, .int x1), (2, .int x2), (3, .int x3)]) hx hb dX12_passesBytes_19 hl (by decide) rfl (fun ls hl => ?_)
      refine lv_iconst (v := 0) hx hb dX12_passesBytes_21 (by decide) ?_
      refine lv_istore (lv' := [(5, .int 0), (4, .int 2), (0, .ref (q 0)), (1, .int x1), (2, .int x2), (3, .int x3)]) hx hb dX12_passesBytes_22 hl (by decide) rfl (fun ls hl => ?_)
      obtain ⟨u97, hlp97, hm⟩ := bs hm
      refine L24 x1 x2 x3 (2 : Int32) (0 : Int32) v_keptSize v_keptBefore v_keptAfter v_comesA v_comesB u97 hlp97 (fun r h => Option.some.inj (se_r h hm)) (fun o97 ho => ?_) H locs hP hD hS ls (lv_sub hl [2, 3, 4, 5, 1, 0] rfl)
      have hm := se_l ho hm
      intro H locs hP hD hS ls hl
      have hl : lv_has ls 10 [] := hl
      have hP : va_P G vwCl (ww_M q cs v_told v_tell v_sums v_kindOf v_modOf v_bitsOf v_turnOf v_polyOf v_beginOf v_finishOf v_isLow v_weightsOf v_weight v_cell v_size v_row v_keptSize v_keptBefore v_keptAfter v_placeA v_placeB v_turned v_turnedMany v_syndromes v_lightest v_freeMany v_freePlace v_freeSyndrome v_ways v_waysKept v_trace o97.1 o97.2) H := hP
      have hD : va_D A (ww_M q cs v_told v_tell v_sums v_kindOf v_modOf v_bitsOf v_turnOf v_polyOf v_beginOf v_finishOf v_isLow v_weightsOf v_weight v_cell v_size v_row v_keptSize v_keptBefore v_keptAfter v_placeA v_placeB v_turned v_turnedMany v_syndromes v_lightest v_freeMany v_freePlace v_freeSyndrome v_ways v_waysKept v_trace o97.1 o97.2) := hD
      refine lv_iconst (v := 0) hx hb dX12_passesBytes_210 (by decide) ?_
      have hq := Option.some.inj hm
      subst hq; subst hQ
      exact k_zret hx hb hr hlocks hP hD hS rfl (by decide) dX12_passesBytes_211
  · have hm := i_t b1 hm
    refine lv_iconst (v := 0) hx hb dX12_passesBytes_5 (by decide) ?_
    refine lv_goto (tgt := 19) hx hb dX12_passesBytes_6 (by decide) ?_
    refine lv_istore (lv' := [(4, .int 0), (0, .ref (q 0)), (1, .int x1), (2, .int x2), (3, .int x3)]) hx hb dX12_passesBytes_19 hl (by decide) rfl (fun ls hl => ?_)
    refine lv_iconst (v := 0) hx hb dX12_passesBytes_21 (by decide) ?_
    refine lv_istore (lv' := [(5, .int 0), (4, .int 0), (0, .ref (q 0)), (1, .int x1), (2, .int x2), (3, .int x3)]) hx hb dX12_passesBytes_22 hl (by decide) rfl (fun ls hl => ?_)
    obtain ⟨u98, hlp98, hm⟩ := bs hm
    refine L24 x1 x2 x3 (0 : Int32) (0 : Int32) v_keptSize v_keptBefore v_keptAfter v_comesA v_comesB u98 hlp98 (fun r h => Option.some.inj (se_r h hm)) (fun o98 ho => ?_) H locs hP hD hS ls (lv_sub hl [2, 3, 4, 5, 1, 0] rfl)
    have hm := se_l ho hm
    intro H locs hP hD hS ls hl
    have hl : lv_has ls 10 [] := hl
    have hP : va_P G vwCl (ww_M q cs v_told v_tell v_sums v_kindOf v_modOf v_bitsOf v_turnOf v_polyOf v_beginOf v_finishOf v_isLow v_weightsOf v_weight v_cell v_size v_row v_keptSize v_keptBefore v_keptAfter v_placeA v_placeB v_turned v_turnedMany v_syndromes v_lightest v_freeMany v_freePlace v_freeSyndrome v_ways v_waysKept v_trace o98.1 o98.2) H := hP
    have hD : va_D A (ww_M q cs v_told v_tell v_sums v_kindOf v_modOf v_bitsOf v_turnOf v_polyOf v_beginOf v_finishOf v_isLow v_weightsOf v_weight v_cell v_size v_row v_keptSize v_keptBefore v_keptAfter v_placeA v_placeB v_turned v_turnedMany v_syndromes v_lightest v_freeMany v_freePlace v_freeSyndrome v_ways v_waysKept v_trace o98.1 o98.2) := hD
    refine lv_iconst (v := 0) hx hb dX12_passesBytes_210 (by decide) ?_
    have hq := Option.some.inj hm
    subst hq; subst hQ
    exact k_zret hx hb hr hlocks hP hD hS rfl (by decide) dX12_passesBytes_211

theorem hd_X12_sees : yX12_sees.cls ≠ "java/lang/invoke/MethodHandle" ∧ yX12_sees.cls ≠ "java/lang/invoke/VarHandle" ∧ (parseMethodDescriptor yX12_sees.desc).map (fun d => d.parameters.length) = some 4 := by decide +kernel

def M_X12_sees (n : Nat) (x1 : Int32) (x2 : Int32) (x3 : Int32) (x4 : Int32) (v_sums : Int32) (v_kindOf : (Nat → Int32)) (v_modOf : (Nat → Int32)) (v_bitsOf : (Nat → Int32)) (v_turnOf : (Nat → Int32)) (v_polyOf : (Nat → Int64)) (v_isLow : (Nat → Int32)) (v_weightsOf : (Nat → Int32)) (v_weight : (Nat → Int32)) (v_keptSize : Int32) (v_keptBefore : (Nat → Int32)) (v_keptAfter : (Nat → Int32)) (v_placeA : (Nat → Int64)) (v_placeB : (Nat → Int64)) (v_turned : (Nat → Int32)) (v_turnedMany : Int32) (v_comesA : Int64) (v_comesB : Int64) : Option (Int32 × Int32 × (Nat → Int32) × (Nat → Int32) × (Nat → Int64) × (Nat → Int64) × (Nat → Int32) × Int32 × Int64 × Int64) :=
  if (M_X12_isSum x1 v_sums) = 0 then (some ((-2), v_keptSize, v_keptBefore, v_keptAfter, v_placeA, v_placeB, v_turned, v_turnedMany, v_comesA, v_comesB)) else (if x1 < 0 ∨ 16 ≤ x1.toNatClampNeg then none else if (v_kindOf x1.toNatClampNeg) = 6 then (some ((-4), v_keptSize, v_keptBefore, v_keptAfter, v_placeA, v_placeB, v_turned, v_turnedMany, v_comesA, v_comesB)) else (if (M_X12_in x2.toInt64 (0 : Int64) (5 : Int64)) = 0 then (some ((-3), v_keptSize, v_keptBefore, v_keptAfter, v_placeA, v_placeB, v_turned, v_turnedMany, v_comesA, v_comesB)) else (if x2 = 0 then (if (M_X12_in x3.toInt64 (1 : Int64) (3 : Int64)) = 0 then (some ((-3), v_keptSize, v_keptBefore, v_keptAfter, v_placeA, v_placeB, v_turned, v_turnedMany, v_comesA, v_comesB)) else (if x2 = 1 then (if (M_X12_in x3.toInt64 (1 : Int64) (8 : Int64)) = 0 then (some ((-3), v_keptSize, v_keptBefore, v_keptAfter, v_placeA, v_placeB, v_turned, v_turnedMany, v_comesA, v_comesB)) else (if (M_X12_in x4.toInt64 (1 : Int64) (8 : Int64)) = 0 then (some ((-3), v_keptSize, v_keptBefore, v_keptAfter, v_placeA, v_placeB, v_turned, v_turnedMany, v_comesA, v_comesB)) else ((M_X12_findPlaces n x1 x4 v_kindOf v_bitsOf v_turnOf v_polyOf v_isLow v_weightsOf v_weight v_placeA v_placeB).bind fun r60 => if x2 = 0 then ((M_X12_passesFlip n x1 x3 x4 v_kindOf v_modOf v_keptSize v_keptBefore v_keptAfter r60.1 r60.2 v_turned v_turnedMany v_comesA v_comesB).bind fun r69 => if r69.1 = 0 then (some (1, r69.2.1, r69.2.2.1, r69.2.2.2.1, r60.1, r60.2, r69.2.2.2.2.1, r69.2.2.2.2.2.1, r69.2.2.2.2.2.2.1, r69.2.2.2.2.2.2.2)) else (some (0, r69.2.1, r69.2.2.1, r69.2.2.2.1, r60.1, r60.2, r69.2.2.2.2.1, r69.2.2.2.2.2.1, r69.2.2.2.2.2.2.1, r69.2.2.2.2.2.2.2))) else (if x2 = 1 then ((M_X12_passesBurst n x1 x3 x4 v_kindOf v_modOf v_keptSize v_keptBefore v_keptAfter r60.1 r60.2 v_turned v_turnedMany v_comesA v_comesB).bind fun r66 => if r66.1 = 0 then (some (1, r66.2.1, r66.2.2.1, r66.2.2.2.1, r60.1, r60.2, r66.2.2.2.2.1, r66.2.2.2.2.2.1, r66.2.2.2.2.2.2.1, r66.2.2.2.2.2.2.2)) else (some (0, r66.2.1, r66.2.2.1, r66.2.2.2.1, r60.1, r60.2, r66.2.2.2.2.1, r66.2.2.2.2.2.1, r66.2.2.2.2.2.2.1, r66.2.2.2.2.2.2.2))) else ((M_X12_passesBytes n x1 x2 x4 v_kindOf v_modOf v_keptSize v_keptBefore v_keptAfter r60.1 r60.2 v_comesA v_comesB).bind fun r63 => if r63.1 = 0 then (some (1, r63.2.1, r63.2.2.1, r63.2.2.2.1, r60.1, r60.2, v_turned, v_turnedMany, r63.2.2.2.2.1, r63.2.2.2.2.2)) else (some (0, r63.2.1, r63.2.2.1, r63.2.2.2.1, r60.1, r60.2, v_turned, v_turnedMany, r63.2.2.2.2.1, r63.2.2.2.2.2))))))) else (if (M_X12_in x4.toInt64 (1 : Int64) (8 : Int64)) = 0 then (some ((-3), v_keptSize, v_keptBefore, v_keptAfter, v_placeA, v_placeB, v_turned, v_turnedMany, v_comesA, v_comesB)) else ((M_X12_findPlaces n x1 x4 v_kindOf v_bitsOf v_turnOf v_polyOf v_isLow v_weightsOf v_weight v_placeA v_placeB).bind fun r44 => if x2 = 0 then ((M_X12_passesFlip n x1 x3 x4 v_kindOf v_modOf v_keptSize v_keptBefore v_keptAfter r44.1 r44.2 v_turned v_turnedMany v_comesA v_comesB).bind fun r53 => if r53.1 = 0 then (some (1, r53.2.1, r53.2.2.1, r53.2.2.2.1, r44.1, r44.2, r53.2.2.2.2.1, r53.2.2.2.2.2.1, r53.2.2.2.2.2.2.1, r53.2.2.2.2.2.2.2)) else (some (0, r53.2.1, r53.2.2.1, r53.2.2.2.1, r44.1, r44.2, r53.2.2.2.2.1, r53.2.2.2.2.2.1, r53.2.2.2.2.2.2.1, r53.2.2.2.2.2.2.2))) else (if x2 = 1 then ((M_X12_passesBurst n x1 x3 x4 v_kindOf v_modOf v_keptSize v_keptBefore v_keptAfter r44.1 r44.2 v_turned v_turnedMany v_comesA v_comesB).bind fun r50 => if r50.1 = 0 then (some (1, r50.2.1, r50.2.2.1, r50.2.2.2.1, r44.1, r44.2, r50.2.2.2.2.1, r50.2.2.2.2.2.1, r50.2.2.2.2.2.2.1, r50.2.2.2.2.2.2.2)) else (some (0, r50.2.1, r50.2.2.1, r50.2.2.2.1, r44.1, r44.2, r50.2.2.2.2.1, r50.2.2.2.2.2.1, r50.2.2.2.2.2.2.1, r50.2.2.2.2.2.2.2))) else ((M_X12_passesBytes n x1 x2 x4 v_kindOf v_modOf v_keptSize v_keptBefore v_keptAfter r44.1 r44.2 v_comesA v_comesB).bind fun r47 => if r47.1 = 0 then (some (1, r47.2.1, r47.2.2.1, r47.2.2.2.1, r44.1, r44.2, v_turned, v_turnedMany, r47.2.2.2.2.1, r47.2.2.2.2.2)) else (some (0, r47.2.1, r47.2.2.1, r47.2.2.2.1, r44.1, r44.2, v_turned, v_turnedMany, r47.2.2.2.2.1, r47.2.2.2.2.2)))))))) else (if x2 = 1 then (if (M_X12_in x3.toInt64 (1 : Int64) (8 : Int64)) = 0 then (some ((-3), v_keptSize, v_keptBefore, v_keptAfter, v_placeA, v_placeB, v_turned, v_turnedMany, v_comesA, v_comesB)) else (if (M_X12_in x4.toInt64 (1 : Int64) (8 : Int64)) = 0 then (some ((-3), v_keptSize, v_keptBefore, v_keptAfter, v_placeA, v_placeB, v_turned, v_turnedMany, v_comesA, v_comesB)) else ((M_X12_findPlaces n x1 x4 v_kindOf v_bitsOf v_turnOf v_polyOf v_isLow v_weightsOf v_weight v_placeA v_placeB).bind fun r27 => if x2 = 0 then ((M_X12_passesFlip n x1 x3 x4 v_kindOf v_modOf v_keptSize v_keptBefore v_keptAfter r27.1 r27.2 v_turned v_turnedMany v_comesA v_comesB).bind fun r36 => if r36.1 = 0 then (some (1, r36.2.1, r36.2.2.1, r36.2.2.2.1, r27.1, r27.2, r36.2.2.2.2.1, r36.2.2.2.2.2.1, r36.2.2.2.2.2.2.1, r36.2.2.2.2.2.2.2)) else (some (0, r36.2.1, r36.2.2.1, r36.2.2.2.1, r27.1, r27.2, r36.2.2.2.2.1, r36.2.2.2.2.2.1, r36.2.2.2.2.2.2.1, r36.2.2.2.2.2.2.2))) else (if x2 = 1 then ((M_X12_passesBurst n x1 x3 x4 v_kindOf v_modOf v_keptSize v_keptBefore v_keptAfter r27.1 r27.2 v_turned v_turnedMany v_comesA v_comesB).bind fun r33 => if r33.1 = 0 then (some (1, r33.2.1, r33.2.2.1, r33.2.2.2.1, r27.1, r27.2, r33.2.2.2.2.1, r33.2.2.2.2.2.1, r33.2.2.2.2.2.2.1, r33.2.2.2.2.2.2.2)) else (some (0, r33.2.1, r33.2.2.1, r33.2.2.2.1, r27.1, r27.2, r33.2.2.2.2.1, r33.2.2.2.2.2.1, r33.2.2.2.2.2.2.1, r33.2.2.2.2.2.2.2))) else ((M_X12_passesBytes n x1 x2 x4 v_kindOf v_modOf v_keptSize v_keptBefore v_keptAfter r27.1 r27.2 v_comesA v_comesB).bind fun r30 => if r30.1 = 0 then (some (1, r30.2.1, r30.2.2.1, r30.2.2.2.1, r27.1, r27.2, v_turned, v_turnedMany, r30.2.2.2.2.1, r30.2.2.2.2.2)) else (some (0, r30.2.1, r30.2.2.1, r30.2.2.2.1, r27.1, r27.2, v_turned, v_turnedMany, r30.2.2.2.2.1, r30.2.2.2.2.2))))))) else (if (M_X12_in x4.toInt64 (1 : Int64) (8 : Int64)) = 0 then (some ((-3), v_keptSize, v_keptBefore, v_keptAfter, v_placeA, v_placeB, v_turned, v_turnedMany, v_comesA, v_comesB)) else ((M_X12_findPlaces n x1 x4 v_kindOf v_bitsOf v_turnOf v_polyOf v_isLow v_weightsOf v_weight v_placeA v_placeB).bind fun r11 => if x2 = 0 then ((M_X12_passesFlip n x1 x3 x4 v_kindOf v_modOf v_keptSize v_keptBefore v_keptAfter r11.1 r11.2 v_turned v_turnedMany v_comesA v_comesB).bind fun r20 => if r20.1 = 0 then (some (1, r20.2.1, r20.2.2.1, r20.2.2.2.1, r11.1, r11.2, r20.2.2.2.2.1, r20.2.2.2.2.2.1, r20.2.2.2.2.2.2.1, r20.2.2.2.2.2.2.2)) else (some (0, r20.2.1, r20.2.2.1, r20.2.2.2.1, r11.1, r11.2, r20.2.2.2.2.1, r20.2.2.2.2.2.1, r20.2.2.2.2.2.2.1, r20.2.2.2.2.2.2.2))) else (if x2 = 1 then ((M_X12_passesBurst n x1 x3 x4 v_kindOf v_modOf v_keptSize v_keptBefore v_keptAfter r11.1 r11.2 v_turned v_turnedMany v_comesA v_comesB).bind fun r17 => if r17.1 = 0 then (some (1, r17.2.1, r17.2.2.1, r17.2.2.2.1, r11.1, r11.2, r17.2.2.2.2.1, r17.2.2.2.2.2.1, r17.2.2.2.2.2.2.1, r17.2.2.2.2.2.2.2)) else (some (0, r17.2.1, r17.2.2.1, r17.2.2.2.1, r11.1, r11.2, r17.2.2.2.2.1, r17.2.2.2.2.2.1, r17.2.2.2.2.2.2.1, r17.2.2.2.2.2.2.2))) else ((M_X12_passesBytes n x1 x2 x4 v_kindOf v_modOf v_keptSize v_keptBefore v_keptAfter r11.1 r11.2 v_comesA v_comesB).bind fun r14 => if r14.1 = 0 then (some (1, r14.2.1, r14.2.2.1, r14.2.2.2.1, r11.1, r11.2, v_turned, v_turnedMany, r14.2.2.2.2.1, r14.2.2.2.2.2)) else (some (0, r14.2.1, r14.2.2.1, r14.2.2.2.1, r11.1, r11.2, v_turned, v_turnedMany, r14.2.2.2.2.1, r14.2.2.2.2.2))))))))))

abbrev rmX12_sees : Room := { frames := 4, cells := 0, slots := 0, locals := 106 }
set_option maxHeartbeats 4000000 in
set_option maxRecDepth 100000 in
theorem c_X12_sees (l : Launch) (G : va_G) (cs : CS) (q : Nat → Nat) (sz : Nat) (v_told : Int32) (v_tell : (Nat → Int32)) (v_sums : Int32) (v_kindOf : (Nat → Int32)) (v_modOf : (Nat → Int32)) (v_bitsOf : (Nat → Int32)) (v_turnOf : (Nat → Int32)) (v_polyOf : (Nat → Int64)) (v_beginOf : (Nat → Int64)) (v_finishOf : (Nat → Int64)) (v_isLow : (Nat → Int32)) (v_weightsOf : (Nat → Int32)) (v_weight : (Nat → Int32)) (v_cell : (Nat → Int32)) (v_size : Int32) (v_row : (Nat → Int32)) (v_keptSize : Int32) (v_keptBefore : (Nat → Int32)) (v_keptAfter : (Nat → Int32)) (v_placeA : (Nat → Int64)) (v_placeB : (Nat → Int64)) (v_turned : (Nat → Int32)) (v_turnedMany : Int32) (v_syndromes : (Nat → Int64)) (v_lightest : (Nat → Int32)) (v_freeMany : Int32) (v_freePlace : (Nat → Int32)) (v_freeSyndrome : (Nat → Int64)) (v_ways : (Nat → Int32)) (v_waysKept : Int32) (v_trace : (Nat → Int32)) (v_comesA : Int64) (v_comesB : Int64)   (x1 : Int32) (x2 : Int32) (x3 : Int32) (x4 : Int32) (n : Nat) (res : (Int32 × Int32 × (Nat → Int32) × (Nat → Int32) × (Nat → Int64) × (Nat → Int64) × (Nat → Int32) × Int32 × Int64 × Int64)) (hm : M_X12_sees n x1 x2 x3 x4 v_sums v_kindOf v_modOf v_bitsOf v_turnOf v_polyOf v_isLow v_weightsOf v_weight v_keptSize v_keptBefore v_keptAfter v_placeA v_placeB v_turned v_turnedMany v_comesA v_comesB = some res) : Met l yX12_sees wsX12_sees rmX12_sees (va_Pc [.ref (q 0), .int x1, .int x2, .int x3, .int x4] (PreW G cs sz (ww_M q cs v_told v_tell v_sums v_kindOf v_modOf v_bitsOf v_turnOf v_polyOf v_beginOf v_finishOf v_isLow v_weightsOf v_weight v_cell v_size v_row v_keptSize v_keptBefore v_keptAfter v_placeA v_placeB v_turned v_turnedMany v_syndromes v_lightest v_freeMany v_freePlace v_freeSyndrome v_ways v_waysKept v_trace v_comesA v_comesB) RN)) (QI G res.1 True (ww_M q cs v_told v_tell v_sums v_kindOf v_modOf v_bitsOf v_turnOf v_polyOf v_beginOf v_finishOf v_isLow v_weightsOf v_weight v_cell v_size v_row res.2.1 res.2.2.1 res.2.2.2.1 res.2.2.2.2.1 res.2.2.2.2.2.1 res.2.2.2.2.2.2.1 res.2.2.2.2.2.2.2.1 v_syndromes v_lightest v_freeMany v_freePlace v_freeSyndrome v_ways v_waysKept v_trace res.2.2.2.2.2.2.2.2.1 res.2.2.2.2.2.2.2.2.2) (va_A (ww_M q cs v_told v_tell v_sums v_kindOf v_modOf v_bitsOf v_turnOf v_polyOf v_beginOf v_finishOf v_isLow v_weightsOf v_weight v_cell v_size v_row v_keptSize v_keptBefore v_keptAfter v_placeA v_placeB v_turned v_turnedMany v_syndromes v_lightest v_freeMany v_freePlace v_freeSyndrome v_ways v_waysKept v_trace v_comesA v_comesB) sz)) 0 0 (va_A (ww_M q cs v_told v_tell v_sums v_kindOf v_modOf v_bitsOf v_turnOf v_polyOf v_beginOf v_finishOf v_isLow v_weightsOf v_weight v_cell v_size v_row v_keptSize v_keptBefore v_keptAfter v_placeA v_placeB v_turned v_turnedMany v_syndromes v_lightest v_freeMany v_freePlace v_freeSyndrome v_ways v_waysKept v_trace v_comesA v_comesB) sz) := by
  refine k_enter (Qf := fun A => QI G res.1 True (ww_M q cs v_told v_tell v_sums v_kindOf v_modOf v_bitsOf v_turnOf v_polyOf v_beginOf v_finishOf v_isLow v_weightsOf v_weight v_cell v_size v_row res.2.1 res.2.2.1 res.2.2.2.1 res.2.2.2.2.1 res.2.2.2.2.2.1 res.2.2.2.2.2.2.1 res.2.2.2.2.2.2.2.1 v_syndromes v_lightest v_freeMany v_freePlace v_freeSyndrome v_ways v_waysKept v_trace res.2.2.2.2.2.2.2.2.1 res.2.2.2.2.2.2.2.2.2) A) (cc := cX12_sees) (maxL := 6) (ret := (some .int)) (plainFor_of_name (by decide)) rfl (Nat.le_of_ble_eq_true rfl) ?_
  intro p e s m args below meth c A Q ls H locs hx hb hr hml hown hts hlocks hname hK hA hRo hP hD hS hQ hl
  have hl : lv_has ls 6 [(0, .ref (q 0)), (1, .int x1), (2, .int x2), (3, .int x3), (4, .int x4)] := hl
  have wd1 := hts (.fieldLink RX12 13 "SumSmithModel" "kindOf" "[I") (List.mem_of_getElem? (i := 1) rfl)
  have wd2 := hts (.constantLong RX12 215 (5)) (List.mem_of_getElem? (i := 2) rfl)
  have wd4 := hts (.constantLong RX12 111 (8)) (List.mem_of_getElem? (i := 4) rfl)
  have wd3 := hts (.constantLong RX12 115 (3)) (List.mem_of_getElem? (i := 3) rfl)
  have hinX12 : ∀ w ∈ wsX120, w ∈ wsX12_sees := fun w h => List.mem_cons_of_mem _ (List.mem_append_right _ h)
  unfold M_X12_sees at hm
  refine lv_aload_n hx hb dX12_sees_0 rfl (lv_at hl 0 rfl) ?_
  refine lv_iload_n hx hb dX12_sees_1 rfl (lv_at hl 1 rfl) ?_
  refine k_calli (va_runV (As := [.int x1]) (rest := []) ⟨hx, hb, hml, hown, hts⟩ (c_X12_isSum l G cs q H.size v_told v_tell v_sums v_kindOf v_modOf v_bitsOf v_turnOf v_polyOf v_beginOf v_finishOf v_isLow v_weightsOf v_weight v_cell v_size v_row v_keptSize v_keptBefore v_keptAfter v_placeA v_placeB v_turned v_turnedMany v_syndromes v_lightest v_freeMany v_freePlace v_freeSyndrome v_ways v_waysKept v_trace v_comesA v_comesB   x1 _ rfl) (cwV 1 hts gX12_sees_X12_isSum rfl rfl rfl ⟨rfl, hd_X12_isSum⟩ ⟨Nat.le_of_ble_eq_true rfl, Nat.le_of_ble_eq_true rfl⟩) ⟨pre_blind, va_recv hK.1 hP (ci := 10) (q0 := 0) rfl rfl, pre_w hK RO.nil hP hD (va_all hD hS hA)⟩ rfl rfl hl.1 rfl (lv_room (Nat.le_of_ble_eq_true rfl)) dX12_sees_2 ⟨Nat.zero_le _, Nat.zero_le _⟩) hS (va_all hD hS hA) (fun hE1 H locs hP hD hS => ?_)
  have hP : va_P G vwCl (ww_M q cs v_told v_tell v_sums v_kindOf v_modOf v_bitsOf v_turnOf v_polyOf v_beginOf v_finishOf v_isLow v_weightsOf v_weight v_cell v_size v_row v_keptSize v_keptBefore v_keptAfter v_placeA v_placeB v_turned v_turnedMany v_syndromes v_lightest v_freeMany v_freePlace v_freeSyndrome v_ways v_waysKept v_trace v_comesA v_comesB) H := hP
  have hD : va_D A (ww_M q cs v_told v_tell v_sums v_kindOf v_modOf v_bitsOf v_turnOf v_polyOf v_beginOf v_finishOf v_isLow v_weightsOf v_weight v_cell v_size v_row v_keptSize v_keptBefore v_keptAfter v_placeA v_placeB v_turned v_turnedMany v_syndromes v_lightest v_freeMany v_freePlace v_freeSyndrome v_ways v_waysKept v_trace v_comesA v_comesB) := hD
  refine lv_if_ne (tgt := 11) hx hb dX12_sees_5 (by decide) (fun b2 => ?_) (fun b2 => ?_)
  · have hm := i_f b2 hm
    refine lv_aload_n hx hb dX12_sees_11 rfl (lv_at hl 0 rfl) ?_
    refine va_get (D := G) (ci := 10) (v := .ref (q 2)) (C := RX12) (T := TX12) (N := 33) hx hb hts hinX12 hown hK.1 hP 0 rfl rfl 3 (by decide) wd1 (fun _ h9 => h9) rfl dX12_sees_12 ?_
    refine lv_iload_n hx hb dX12_sees_15 rfl (lv_at hl 1 rfl) ?_
    obtain ⟨h3, hm⟩ := g_in hm
    refine va_iald hx hb hK.1 hP 2 0 rfl rfl h3 dX12_sees_16 ?_
    refine lv_bipush (v := 6) hx hb dX12_sees_17 (by decide) ?_
    refine lv_icmp_ne (tgt := 25) hx hb dX12_sees_19 (by decide) (fun b4 => ?_) (fun b4 => ?_)
    · have hm := i_f b4 hm
      refine lv_iload_n hx hb dX12_sees_25 rfl (lv_at hl 2 rfl) ?_
      refine lv_i2l (v := x2.toInt64) hx hb dX12_sees_26 rfl ?_
      refine lv_lconst (v := 0) hx hb dX12_sees_27 (by decide) ?_
      refine lv_ldc2 (own := RX12) (v := 5) hx hb hown wd2 dX12_sees_28 ?_
      refine k_calli0 (va_runS (As := [.long x2.toInt64, .long 0, .long 5]) (rest := []) ⟨hx, hb, hml, hown, hts⟩ (c_X12_in l G cs H.size    x2.toInt64 (0 : Int64) (5 : Int64) _ rfl) (va_cwS 3 hts gX12_sees_X12_in rfl rfl rfl hd_X12_in ⟨Nat.le_of_ble_eq_true rfl, Nat.le_of_ble_eq_true rfl⟩) ⟨pre_blind, pre_w hK RO.nil P0 D0 (va_new0 hS hA)⟩ rfl rfl hl.1 rfl (lv_room (Nat.le_of_ble_eq_true rfl)) dX12_sees_31 ⟨Nat.zero_le _, Nat.zero_le _⟩) hP hS hA (fun hE5 H locs hP hS => ?_)
      refine lv_if_eq (tgt := 83) hx hb dX12_sees_34 (by decide) (fun b6 => ?_) (fun b6 => ?_)
      · have hm := i_t b6 hm
        refine lv_bipush (v := (-3)) hx hb dX12_sees_83 (by decide) ?_
        have hq := Option.some.inj hm
        subst hq; subst hQ
        exact k_iret hx hb hr hlocks hP hD hS rfl trivial dX12_sees_85
      · have hm := i_f b6 hm
        refine lv_iload_n hx hb dX12_sees_37 rfl (lv_at hl 2 rfl) ?_
        refine lv_if_ne (tgt := 53) hx hb dX12_sees_38 (by decide) (fun b7 => ?_) (fun b7 => ?_)
        · have hm := i_f b7 hm
          refine lv_iload_n hx hb dX12_sees_53 rfl (lv_at hl 2 rfl) ?_
          refine lv_iconst (v := 1) hx hb dX12_sees_54 (by decide) ?_
          refine lv_icmp_ne (tgt := 70) hx hb dX12_sees_55 (by decide) (fun b8 => ?_) (fun b8 => ?_)
          · have hm := i_f b8 hm
            refine lv_iload hx hb dX12_sees_70 (lv_at hl 4 rfl) ?_
            refine lv_i2l (v := x4.toInt64) hx hb dX12_sees_72 rfl ?_
            refine lv_lconst (v := 1) hx hb dX12_sees_73 (by decide) ?_
            refine lv_ldc2 (own := RX12) (v := 8) hx hb hown wd4 dX12_sees_74 ?_
            refine k_calli0 (va_runS (As := [.long x4.toInt64, .long 1, .long 8]) (rest := []) ⟨hx, hb, hml, hown, hts⟩ (c_X12_in l G cs H.size    x4.toInt64 (1 : Int64) (8 : Int64) _ rfl) (va_cwS 3 hts gX12_sees_X12_in rfl rfl rfl hd_X12_in ⟨Nat.le_of_ble_eq_true rfl, Nat.le_of_ble_eq_true rfl⟩) ⟨pre_blind, pre_w hK RO.nil P0 D0 (va_new0 hS hA)⟩ rfl rfl hl.1 rfl (lv_room (Nat.le_of_ble_eq_true rfl)) dX12_sees_77 ⟨Nat.zero_le _, Nat.zero_le _⟩) hP hS hA (fun hE9 H locs hP hS => ?_)
            refine lv_if_ne (tgt := 86) hx hb dX12_sees_80 (by decide) (fun b10 => ?_) (fun b10 => ?_)
            · have hm := i_f b10 hm
              refine lv_aload_n hx hb dX12_sees_86 rfl (lv_at hl 0 rfl) ?_
              refine lv_iload_n hx hb dX12_sees_87 rfl (lv_at hl 1 rfl) ?_
              refine lv_iload hx hb dX12_sees_88 (lv_at hl 4 rfl) ?_
              obtain ⟨r11, hc_r11, hm⟩ := bs hm
              refine k_callv (va_runV (As := [.int x1, .int x4]) (rest := []) ⟨hx, hb, hml, hown, hts⟩ (c_X12_findPlaces l G cs q H.size v_told v_tell v_sums v_kindOf v_modOf v_bitsOf v_turnOf v_polyOf v_beginOf v_finishOf v_isLow v_weightsOf v_weight v_cell v_size v_row v_keptSize v_keptBefore v_keptAfter v_placeA v_placeB v_turned v_turnedMany v_syndromes v_lightest v_freeMany v_freePlace v_freeSyndrome v_ways v_waysKept v_trace v_comesA v_comesB   x1 x4 n r11 hc_r11) (cwV 2 hts gX12_sees_X12_findPlaces rfl rfl rfl ⟨rfl, hd_X12_findPlaces⟩ ⟨Nat.le_of_ble_eq_true rfl, Nat.le_of_ble_eq_true rfl⟩) ⟨pre_blind, va_recv hK.1 hP (ci := 10) (q0 := 0) rfl rfl, pre_w hK RO.nil hP hD (va_all hD hS hA)⟩ rfl rfl hl.1 rfl (lv_room (Nat.le_of_ble_eq_true rfl)) dX12_sees_90 ⟨Nat.zero_le _, Nat.zero_le _⟩) hS (va_all hD hS hA) (fun H locs hP hD hS => ?_)
              have hP : va_P G vwCl (ww_M q cs v_told v_tell v_sums v_kindOf v_modOf v_bitsOf v_turnOf v_polyOf v_beginOf v_finishOf v_isLow v_weightsOf v_weight v_cell v_size v_row v_keptSize v_keptBefore v_keptAfter r11.1 r11.2 v_turned v_turnedMany v_syndromes v_lightest v_freeMany v_freePlace v_freeSyndrome v_ways v_waysKept v_trace v_comesA v_comesB) H := hP
              have hD : va_D A (ww_M q cs v_told v_tell v_sums v_kindOf v_modOf v_bitsOf v_turnOf v_polyOf v_beginOf v_finishOf v_isLow v_weightsOf v_weight v_cell v_size v_row v_keptSize v_keptBefore v_keptAfter r11.1 r11.2 v_turned v_turnedMany v_syndromes v_lightest v_freeMany v_freePlace v_freeSyndrome v_ways v_waysKept v_trace v_comesA v_comesB) := hD
              refine lv_iload_n hx hb dX12_sees_93 rfl (lv_at hl 2 rfl) ?_
              refine lv_if_ne (tgt := 108) hx hb dX12_sees_94 (by decide) (fun b12 => ?_) (fun b12 => ?_)
              · have hm := i_f b12 hm
                refine lv_iload_n hx hb dX12_sees_108 rfl (lv_at hl 2 rfl) ?_
                refine lv_iconst (v := 1) hx hb dX12_sees_109 (by decide) ?_
                refine lv_icmp_ne (tgt := 124) hx hb dX12_sees_110 (by decide) (fun b13 => ?_) (fun b13 => ?_)
                · have hm := i_f b13 hm
                  refine lv_aload_n hx hb dX12_sees_124 rfl (lv_at hl 0 rfl) ?_
                  refine lv_iload_n hx hb dX12_sees_125 rfl (lv_at hl 1 rfl) ?_
                  refine lv_iload_n hx hb dX12_sees_126 rfl (lv_at hl 2 rfl) ?_
                  refine lv_iload hx hb dX12_sees_127 (lv_at hl 4 rfl) ?_
                  obtain ⟨r14, hc_r14, hm⟩ := bs hm
                  refine k_calli (va_runV (As := [.int x1, .int x2, .int x4]) (rest := []) ⟨hx, hb, hml, hown, hts⟩ (c_X12_passesBytes l G cs q H.size v_told v_tell v_sums v_kindOf v_modOf v_bitsOf v_turnOf v_polyOf v_beginOf v_finishOf v_isLow v_weightsOf v_weight v_cell v_size v_row v_keptSize v_keptBefore v_keptAfter r11.1 r11.2 v_turned v_turnedMany v_syndromes v_lightest v_freeMany v_freePlace v_freeSyndrome v_ways v_waysKept v_trace v_comesA v_comesB   x1 x2 x4 n r14 hc_r14) (cwV 3 hts gX12_sees_X12_passesBytes rfl rfl rfl ⟨rfl, hd_X12_passesBytes⟩ ⟨Nat.le_of_ble_eq_true rfl, Nat.le_of_ble_eq_true rfl⟩) ⟨pre_blind, va_recv hK.1 hP (ci := 10) (q0 := 0) rfl rfl, pre_w hK RO.nil hP hD (va_all hD hS hA)⟩ rfl rfl hl.1 rfl (lv_room (Nat.le_of_ble_eq_true rfl)) dX12_sees_129 ⟨Nat.zero_le _, Nat.zero_le _⟩) hS (va_all hD hS hA) (fun hE15 H locs hP hD hS => ?_)
                  have hP : va_P G vwCl (ww_M q cs v_told v_tell v_sums v_kindOf v_modOf v_bitsOf v_turnOf v_polyOf v_beginOf v_finishOf v_isLow v_weightsOf v_weight v_cell v_size v_row r14.2.1 r14.2.2.1 r14.2.2.2.1 r11.1 r11.2 v_turned v_turnedMany v_syndromes v_lightest v_freeMany v_freePlace v_freeSyndrome v_ways v_waysKept v_trace r14.2.2.2.2.1 r14.2.2.2.2.2) H := hP
                  have hD : va_D A (ww_M q cs v_told v_tell v_sums v_kindOf v_modOf v_bitsOf v_turnOf v_polyOf v_beginOf v_finishOf v_isLow v_weightsOf v_weight v_cell v_size v_row r14.2.1 r14.2.2.1 r14.2.2.2.1 r11.1 r11.2 v_turned v_turnedMany v_syndromes v_lightest v_freeMany v_freePlace v_freeSyndrome v_ways v_waysKept v_trace r14.2.2.2.2.1 r14.2.2.2.2.2) := hD
                  refine lv_istore (lv' := [(5, .int r14.1), (0, .ref (q 0)), (1, .int x1), (2, .int x2), (3, .int x3), (4, .int x4)]) hx hb dX12_sees_132 hl (by decide) rfl (fun ls hl => ?_)
                  refine lv_iload hx hb dX12_sees_134 (lv_at hl 0 rfl) ?_
                  refine lv_if_eq (tgt := 143) hx hb dX12_sees_136 (by decide) (fun b16 => ?_) (fun b16 => ?_)
                  · have hm := i_t b16 hm
                    refine lv_iconst (v := 1) hx hb dX12_sees_143 (by decide) ?_
                    have hq := Option.some.inj hm
                    subst hq; subst hQ
                    exact k_iret hx hb hr hlocks hP hD hS rfl trivial dX12_sees_144
                  · have hm := i_f b16 hm
                    refine lv_iconst (v := 0) hx hb dX12_sees_139 (by decide) ?_
                    refine lv_goto (tgt := 144) hx hb dX12_sees_140 (by decide) ?_
                    have hq := Option.some.inj hm
                    subst hq; subst hQ
                    exact k_iret hx hb hr hlocks hP hD hS rfl trivial dX12_sees_144
                · have hm := i_t b13 hm
                  refine lv_aload_n hx hb dX12_sees_113 rfl (lv_at hl 0 rfl) ?_
                  refine lv_iload_n hx hb dX12_sees_114 rfl (lv_at hl 1 rfl) ?_
                  refine lv_iload_n hx hb dX12_sees_115 rfl (lv_at hl 3 rfl) ?_
                  refine lv_iload hx hb dX12_sees_116 (lv_at hl 4 rfl) ?_
                  obtain ⟨r17, hc_r17, hm⟩ := bs hm
                  refine k_calli (va_runV (As := [.int x1, .int x3, .int x4]) (rest := []) ⟨hx, hb, hml, hown, hts⟩ (c_X12_passesBurst l G cs q H.size v_told v_tell v_sums v_kindOf v_modOf v_bitsOf v_turnOf v_polyOf v_beginOf v_finishOf v_isLow v_weightsOf v_weight v_cell v_size v_row v_keptSize v_keptBefore v_keptAfter r11.1 r11.2 v_turned v_turnedMany v_syndromes v_lightest v_freeMany v_freePlace v_freeSyndrome v_ways v_waysKept v_trace v_comesA v_comesB   x1 x3 x4 n r17 hc_r17) (cwV 3 hts gX12_sees_X12_passesBurst rfl rfl rfl ⟨rfl, hd_X12_passesBurst⟩ ⟨Nat.le_of_ble_eq_true rfl, Nat.le_of_ble_eq_true rfl⟩) ⟨pre_blind, va_recv hK.1 hP (ci := 10) (q0 := 0) rfl rfl, pre_w hK RO.nil hP hD (va_all hD hS hA)⟩ rfl rfl hl.1 rfl (lv_room (Nat.le_of_ble_eq_true rfl)) dX12_sees_118 ⟨Nat.zero_le _, Nat.zero_le _⟩) hS (va_all hD hS hA) (fun hE18 H locs hP hD hS => ?_)
                  have hP : va_P G vwCl (ww_M q cs v_told v_tell v_sums v_kindOf v_modOf v_bitsOf v_turnOf v_polyOf v_beginOf v_finishOf v_isLow v_weightsOf v_weight v_cell v_size v_row r17.2.1 r17.2.2.1 r17.2.2.2.1 r11.1 r11.2 r17.2.2.2.2.1 r17.2.2.2.2.2.1 v_syndromes v_lightest v_freeMany v_freePlace v_freeSyndrome v_ways v_waysKept v_trace r17.2.2.2.2.2.2.1 r17.2.2.2.2.2.2.2) H := hP
                  have hD : va_D A (ww_M q cs v_told v_tell v_sums v_kindOf v_modOf v_bitsOf v_turnOf v_polyOf v_beginOf v_finishOf v_isLow v_weightsOf v_weight v_cell v_size v_row r17.2.1 r17.2.2.1 r17.2.2.2.1 r11.1 r11.2 r17.2.2.2.2.1 r17.2.2.2.2.2.1 v_syndromes v_lightest v_freeMany v_freePlace v_freeSyndrome v_ways v_waysKept v_trace r17.2.2.2.2.2.2.1 r17.2.2.2.2.2.2.2) := hD
                  refine lv_goto (tgt := 132) hx hb dX12_sees_121 (by decide) ?_
                  refine lv_istore (lv' := [(5, .int r17.1), (0, .ref (q 0)), (1, .int x1), (2, .int x2), (3, .int x3), (4, .int x4)]) hx hb dX12_sees_132 hl (by decide) rfl (fun ls hl => ?_)
                  refine lv_iload hx hb dX12_sees_134 (lv_at hl 0 rfl) ?_
                  refine lv_if_eq (tgt := 143) hx hb dX12_sees_136 (by decide) (fun b19 => ?_) (fun b19 => ?_)
                  · have hm := i_t b19 hm
                    refine lv_iconst (v := 1) hx hb dX12_sees_143 (by decide) ?_
                    have hq := Option.some.inj hm
                    subst hq; subst hQ
                    exact k_iret hx hb hr hlocks hP hD hS rfl trivial dX12_sees_144
                  · have hm := i_f b19 hm
                    refine lv_iconst (v := 0) hx hb dX12_sees_139 (by decide) ?_
                    refine lv_goto (tgt := 144) hx hb dX12_sees_140 (by decide) ?_
                    have hq := Option.some.inj hm
                    subst hq; subst hQ
                    exact k_iret hx hb hr hlocks hP hD hS rfl trivial dX12_sees_144
              · have hm := i_t b12 hm
                refine lv_aload_n hx hb dX12_sees_97 rfl (lv_at hl 0 rfl) ?_
                refine lv_iload_n hx hb dX12_sees_98 rfl (lv_at hl 1 rfl) ?_
                refine lv_iload_n hx hb dX12_sees_99 rfl (lv_at hl 3 rfl) ?_
                refine lv_iload hx hb dX12_sees_100 (lv_at hl 4 rfl) ?_
                obtain ⟨r20, hc_r20, hm⟩ := bs hm
                refine k_calli (va_runV (As := [.int x1, .int x3, .int x4]) (rest := []) ⟨hx, hb, hml, hown, hts⟩ (c_X12_passesFlip l G cs q H.size v_told v_tell v_sums v_kindOf v_modOf v_bitsOf v_turnOf v_polyOf v_beginOf v_finishOf v_isLow v_weightsOf v_weight v_cell v_size v_row v_keptSize v_keptBefore v_keptAfter r11.1 r11.2 v_turned v_turnedMany v_syndromes v_lightest v_freeMany v_freePlace v_freeSyndrome v_ways v_waysKept v_trace v_comesA v_comesB   x1 x3 x4 n r20 hc_r20) (cwV 3 hts gX12_sees_X12_passesFlip rfl rfl rfl ⟨rfl, hd_X12_passesFlip⟩ ⟨Nat.le_of_ble_eq_true rfl, Nat.le_of_ble_eq_true rfl⟩) ⟨pre_blind, va_recv hK.1 hP (ci := 10) (q0 := 0) rfl rfl, pre_w hK RO.nil hP hD (va_all hD hS hA)⟩ rfl rfl hl.1 rfl (lv_room (Nat.le_of_ble_eq_true rfl)) dX12_sees_102 ⟨Nat.zero_le _, Nat.zero_le _⟩) hS (va_all hD hS hA) (fun hE21 H locs hP hD hS => ?_)
                have hP : va_P G vwCl (ww_M q cs v_told v_tell v_sums v_kindOf v_modOf v_bitsOf v_turnOf v_polyOf v_beginOf v_finishOf v_isLow v_weightsOf v_weight v_cell v_size v_row r20.2.1 r20.2.2.1 r20.2.2.2.1 r11.1 r11.2 r20.2.2.2.2.1 r20.2.2.2.2.2.1 v_syndromes v_lightest v_freeMany v_freePlace v_freeSyndrome v_ways v_waysKept v_trace r20.2.2.2.2.2.2.1 r20.2.2.2.2.2.2.2) H := hP
                have hD : va_D A (ww_M q cs v_told v_tell v_sums v_kindOf v_modOf v_bitsOf v_turnOf v_polyOf v_beginOf v_finishOf v_isLow v_weightsOf v_weight v_cell v_size v_row r20.2.1 r20.2.2.1 r20.2.2.2.1 r11.1 r11.2 r20.2.2.2.2.1 r20.2.2.2.2.2.1 v_syndromes v_lightest v_freeMany v_freePlace v_freeSyndrome v_ways v_waysKept v_trace r20.2.2.2.2.2.2.1 r20.2.2.2.2.2.2.2) := hD
                refine lv_goto (tgt := 132) hx hb dX12_sees_105 (by decide) ?_
                refine lv_istore (lv' := [(5, .int r20.1), (0, .ref (q 0)), (1, .int x1), (2, .int x2), (3, .int x3), (4, .int x4)]) hx hb dX12_sees_132 hl (by decide) rfl (fun ls hl => ?_)
                refine lv_iload hx hb dX12_sees_134 (lv_at hl 0 rfl) ?_
                refine lv_if_eq (tgt := 143) hx hb dX12_sees_136 (by decide) (fun b22 => ?_) (fun b22 => ?_)
                · have hm := i_t b22 hm
                  refine lv_iconst (v := 1) hx hb dX12_sees_143 (by decide) ?_
                  have hq := Option.some.inj hm
                  subst hq; subst hQ
                  exact k_iret hx hb hr hlocks hP hD hS rfl trivial dX12_sees_144
                · have hm := i_f b22 hm
                  refine lv_iconst (v := 0) hx hb dX12_sees_139 (by decide) ?_
                  refine lv_goto (tgt := 144) hx hb dX12_sees_140 (by decide) ?_
                  have hq := Option.some.inj hm
                  subst hq; subst hQ
                  exact k_iret hx hb hr hlocks hP hD hS rfl trivial dX12_sees_144
            · have hm := i_t b10 hm
              refine lv_bipush (v := (-3)) hx hb dX12_sees_83 (by decide) ?_
              have hq := Option.some.inj hm
              subst hq; subst hQ
              exact k_iret hx hb hr hlocks hP hD hS rfl trivial dX12_sees_85
          · have hm := i_t b8 hm
            refine lv_iload_n hx hb dX12_sees_58 rfl (lv_at hl 3 rfl) ?_
            refine lv_i2l (v := x3.toInt64) hx hb dX12_sees_59 rfl ?_
            refine lv_lconst (v := 1) hx hb dX12_sees_60 (by decide) ?_
            refine lv_ldc2 (own := RX12) (v := 8) hx hb hown wd4 dX12_sees_61 ?_
            refine k_calli0 (va_runS (As := [.long x3.toInt64, .long 1, .long 8]) (rest := []) ⟨hx, hb, hml, hown, hts⟩ (c_X12_in l G cs H.size    x3.toInt64 (1 : Int64) (8 : Int64) _ rfl) (va_cwS 3 hts gX12_sees_X12_in rfl rfl rfl hd_X12_in ⟨Nat.le_of_ble_eq_true rfl, Nat.le_of_ble_eq_true rfl⟩) ⟨pre_blind, pre_w hK RO.nil P0 D0 (va_new0 hS hA)⟩ rfl rfl hl.1 rfl (lv_room (Nat.le_of_ble_eq_true rfl)) dX12_sees_64 ⟨Nat.zero_le _, Nat.zero_le _⟩) hP hS hA (fun hE23 H locs hP hS => ?_)
            refine lv_if_eq (tgt := 83) hx hb dX12_sees_67 (by decide) (fun b24 => ?_) (fun b24 => ?_)
            · have hm := i_t b24 hm
              refine lv_bipush (v := (-3)) hx hb dX12_sees_83 (by decide) ?_
              have hq := Option.some.inj hm
              subst hq; subst hQ
              exact k_iret hx hb hr hlocks hP hD hS rfl trivial dX12_sees_85
            · have hm := i_f b24 hm
              refine lv_iload hx hb dX12_sees_70 (lv_at hl 4 rfl) ?_
              refine lv_i2l (v := x4.toInt64) hx hb dX12_sees_72 rfl ?_
              refine lv_lconst (v := 1) hx hb dX12_sees_73 (by decide) ?_
              refine lv_ldc2 (own := RX12) (v := 8) hx hb hown wd4 dX12_sees_74 ?_
              refine k_calli0 (va_runS (As := [.long x4.toInt64, .long 1, .long 8]) (rest := []) ⟨hx, hb, hml, hown, hts⟩ (c_X12_in l G cs H.size    x4.toInt64 (1 : Int64) (8 : Int64) _ rfl) (va_cwS 3 hts gX12_sees_X12_in rfl rfl rfl hd_X12_in ⟨Nat.le_of_ble_eq_true rfl, Nat.le_of_ble_eq_true rfl⟩) ⟨pre_blind, pre_w hK RO.nil P0 D0 (va_new0 hS hA)⟩ rfl rfl hl.1 rfl (lv_room (Nat.le_of_ble_eq_true rfl)) dX12_sees_77 ⟨Nat.zero_le _, Nat.zero_le _⟩) hP hS hA (fun hE25 H locs hP hS => ?_)
              refine lv_if_ne (tgt := 86) hx hb dX12_sees_80 (by decide) (fun b26 => ?_) (fun b26 => ?_)
              · have hm := i_f b26 hm
                refine lv_aload_n hx hb dX12_sees_86 rfl (lv_at hl 0 rfl) ?_
                refine lv_iload_n hx hb dX12_sees_87 rfl (lv_at hl 1 rfl) ?_
                refine lv_iload hx hb dX12_sees_88 (lv_at hl 4 rfl) ?_
                obtain ⟨r27, hc_r27, hm⟩ := bs hm
                refine k_callv (va_runV (As := [.int x1, .int x4]) (rest := []) ⟨hx, hb, hml, hown, hts⟩ (c_X12_findPlaces l G cs q H.size v_told v_tell v_sums v_kindOf v_modOf v_bitsOf v_turnOf v_polyOf v_beginOf v_finishOf v_isLow v_weightsOf v_weight v_cell v_size v_row v_keptSize v_keptBefore v_keptAfter v_placeA v_placeB v_turned v_turnedMany v_syndromes v_lightest v_freeMany v_freePlace v_freeSyndrome v_ways v_waysKept v_trace v_comesA v_comesB   x1 x4 n r27 hc_r27) (cwV 2 hts gX12_sees_X12_findPlaces rfl rfl rfl ⟨rfl, hd_X12_findPlaces⟩ ⟨Nat.le_of_ble_eq_true rfl, Nat.le_of_ble_eq_true rfl⟩) ⟨pre_blind, va_recv hK.1 hP (ci := 10) (q0 := 0) rfl rfl, pre_w hK RO.nil hP hD (va_all hD hS hA)⟩ rfl rfl hl.1 rfl (lv_room (Nat.le_of_ble_eq_true rfl)) dX12_sees_90 ⟨Nat.zero_le _, Nat.zero_le _⟩) hS (va_all hD hS hA) (fun H locs hP hD hS => ?_)
                have hP : va_P G vwCl (ww_M q cs v_told v_tell v_sums v_kindOf v_modOf v_bitsOf v_turnOf v_polyOf v_beginOf v_finishOf v_isLow v_weightsOf v_weight v_cell v_size v_row v_keptSize v_keptBefore v_keptAfter r27.1 r27.2 v_turned v_turnedMany v_syndromes v_lightest v_freeMany v_freePlace v_freeSyndrome v_ways v_waysKept v_trace v_comesA v_comesB) H := hP
                have hD : va_D A (ww_M q cs v_told v_tell v_sums v_kindOf v_modOf v_bitsOf v_turnOf v_polyOf v_beginOf v_finishOf v_isLow v_weightsOf v_weight v_cell v_size v_row v_keptSize v_keptBefore v_keptAfter r27.1 r27.2 v_turned v_turnedMany v_syndromes v_lightest v_freeMany v_freePlace v_freeSyndrome v_ways v_waysKept v_trace v_comesA v_comesB) := hD
                refine lv_iload_n hx hb dX12_sees_93 rfl (lv_at hl 2 rfl) ?_
                refine lv_if_ne (tgt := 108) hx hb dX12_sees_94 (by decide) (fun b28 => ?_) (fun b28 => ?_)
                · have hm := i_f b28 hm
                  refine lv_iload_n hx hb dX12_sees_108 rfl (lv_at hl 2 rfl) ?_
                  refine lv_iconst (v := 1) hx hb dX12_sees_109 (by decide) ?_
                  refine lv_icmp_ne (tgt := 124) hx hb dX12_sees_110 (by decide) (fun b29 => ?_) (fun b29 => ?_)
                  · have hm := i_f b29 hm
                    refine lv_aload_n hx hb dX12_sees_124 rfl (lv_at hl 0 rfl) ?_
                    refine lv_iload_n hx hb dX12_sees_125 rfl (lv_at hl 1 rfl) ?_
                    refine lv_iload_n hx hb dX12_sees_126 rfl (lv_at hl 2 rfl) ?_
                    refine lv_iload hx hb dX12_sees_127 (lv_at hl 4 rfl) ?_
                    obtain ⟨r30, hc_r30, hm⟩ := bs hm
                    refine k_calli (va_runV (As := [.int x1, .int x2, .int x4]) (rest := []) ⟨hx, hb, hml, hown, hts⟩ (c_X12_passesBytes l G cs q H.size v_told v_tell v_sums v_kindOf v_modOf v_bitsOf v_turnOf v_polyOf v_beginOf v_finishOf v_isLow v_weightsOf v_weight v_cell v_size v_row v_keptSize v_keptBefore v_keptAfter r27.1 r27.2 v_turned v_turnedMany v_syndromes v_lightest v_freeMany v_freePlace v_freeSyndrome v_ways v_waysKept v_trace v_comesA v_comesB   x1 x2 x4 n r30 hc_r30) (cwV 3 hts gX12_sees_X12_passesBytes rfl rfl rfl ⟨rfl, hd_X12_passesBytes⟩ ⟨Nat.le_of_ble_eq_true rfl, Nat.le_of_ble_eq_true rfl⟩) ⟨pre_blind, va_recv hK.1 hP (ci := 10) (q0 := 0) rfl rfl, pre_w hK RO.nil hP hD (va_all hD hS hA)⟩ rfl rfl hl.1 rfl (lv_room (Nat.le_of_ble_eq_true rfl)) dX12_sees_129 ⟨Nat.zero_le _, Nat.zero_le _⟩) hS (va_all hD hS hA) (fun hE31 H locs hP hD hS => ?_)
                    have hP : va_P G vwCl (ww_M q cs v_told v_tell v_sums v_kindOf v_modOf v_bitsOf v_turnOf v_polyOf v_beginOf v_finishOf v_isLow v_weightsOf v_weight v_cell v_size v_row r30.2.1 r30.2.2.1 r30.2.2.2.1 r27.1 r27.2 v_turned v_turnedMany v_syndromes v_lightest v_freeMany v_freePlace v_freeSyndrome v_ways v_waysKept v_trace r30.2.2.2.2.1 r30.2.2.2.2.2) H := hP
                    have hD : va_D A (ww_M q cs v_told v_tell v_sums v_kindOf v_modOf v_bitsOf v_turnOf v_polyOf v_beginOf v_finishOf v_isLow v_weightsOf v_weight v_cell v_size v_row r30.2.1 r30.2.2.1 r30.2.2.2.1 r27.1 r27.2 v_turned v_turnedMany v_syndromes v_lightest v_freeMany v_freePlace v_freeSyndrome v_ways v_waysKept v_trace r30.2.2.2.2.1 r30.2.2.2.2.2) := hD
                    refine lv_istore (lv' := [(5, .int r30.1), (0, .ref (q 0)), (1, .int x1), (2, .int x2), (3, .int x3), (4, .int x4)]) hx hb dX12_sees_132 hl (by decide) rfl (fun ls hl => ?_)
                    refine lv_iload hx hb dX12_sees_134 (lv_at hl 0 rfl) ?_
                    refine lv_if_eq (tgt := 143) hx hb dX12_sees_136 (by decide) (fun b32 => ?_) (fun b32 => ?_)
                    · have hm := i_t b32 hm
                      refine lv_iconst (v := 1) hx hb dX12_sees_143 (by decide) ?_
                      have hq := Option.some.inj hm
                      subst hq; subst hQ
                      exact k_iret hx hb hr hlocks hP hD hS rfl trivial dX12_sees_144
                    · have hm := i_f b32 hm
                      refine lv_iconst (v := 0) hx hb dX12_sees_139 (by decide) ?_
                      refine lv_goto (tgt := 144) hx hb dX12_sees_140 (by decide) ?_
                      have hq := Option.some.inj hm
                      subst hq; subst hQ
                      exact k_iret hx hb hr hlocks hP hD hS rfl trivial dX12_sees_144
                  · have hm := i_t b29 hm
                    refine lv_aload_n hx hb dX12_sees_113 rfl (lv_at hl 0 rfl) ?_
                    refine lv_iload_n hx hb dX12_sees_114 rfl (lv_at hl 1 rfl) ?_
                    refine lv_iload_n hx hb dX12_sees_115 rfl (lv_at hl 3 rfl) ?_
                    refine lv_iload hx hb dX12_sees_116 (lv_at hl 4 rfl) ?_
                    obtain ⟨r33, hc_r33, hm⟩ := bs hm
                    refine k_calli (va_runV (As := [.int x1, .int x3, .int x4]) (rest := []) ⟨hx, hb, hml, hown, hts⟩ (c_X12_passesBurst l G cs q H.size v_told v_tell v_sums v_kindOf v_modOf v_bitsOf v_turnOf v_polyOf v_beginOf v_finishOf v_isLow v_weightsOf v_weight v_cell v_size v_row v_keptSize v_keptBefore v_keptAfter r27.1 r27.2 v_turned v_turnedMany v_syndromes v_lightest v_freeMany v_freePlace v_freeSyndrome v_ways v_waysKept v_trace v_comesA v_comesB   x1 x3 x4 n r33 hc_r33) (cwV 3 hts gX12_sees_X12_passesBurst rfl rfl rfl ⟨rfl, hd_X12_passesBurst⟩ ⟨Nat.le_of_ble_eq_true rfl, Nat.le_of_ble_eq_true rfl⟩) ⟨pre_blind, va_recv hK.1 hP (ci := 10) (q0 := 0) rfl rfl, pre_w hK RO.nil hP hD (va_all hD hS hA)⟩ rfl rfl hl.1 rfl (lv_room (Nat.le_of_ble_eq_true rfl)) dX12_sees_118 ⟨Nat.zero_le _, Nat.zero_le _⟩) hS (va_all hD hS hA) (fun hE34 H locs hP hD hS => ?_)
                    have hP : va_P G vwCl (ww_M q cs v_told v_tell v_sums v_kindOf v_modOf v_bitsOf v_turnOf v_polyOf v_beginOf v_finishOf v_isLow v_weightsOf v_weight v_cell v_size v_row r33.2.1 r33.2.2.1 r33.2.2.2.1 r27.1 r27.2 r33.2.2.2.2.1 r33.2.2.2.2.2.1 v_syndromes v_lightest v_freeMany v_freePlace v_freeSyndrome v_ways v_waysKept v_trace r33.2.2.2.2.2.2.1 r33.2.2.2.2.2.2.2) H := hP
                    have hD : va_D A (ww_M q cs v_told v_tell v_sums v_kindOf v_modOf v_bitsOf v_turnOf v_polyOf v_beginOf v_finishOf v_isLow v_weightsOf v_weight v_cell v_size v_row r33.2.1 r33.2.2.1 r33.2.2.2.1 r27.1 r27.2 r33.2.2.2.2.1 r33.2.2.2.2.2.1 v_syndromes v_lightest v_freeMany v_freePlace v_freeSyndrome v_ways v_waysKept v_trace r33.2.2.2.2.2.2.1 r33.2.2.2.2.2.2.2) := hD
                    refine lv_goto (tgt := 132) hx hb dX12_sees_121 (by decide) ?_
                    refine lv_istore (lv' := [(5, .int r33.1), (0, .ref (q 0)), (1, .int x1), (2, .int x2), (3, .int x3), (4, .int x4)]) hx hb dX12_sees_132 hl (by decide) rfl (fun ls hl => ?_)
                    refine lv_iload hx hb dX12_sees_134 (lv_at hl 0 rfl) ?_
                    refine lv_if_eq (tgt := 143) hx hb dX12_sees_136 (by decide) (fun b35 => ?_) (fun b35 => ?_)
                    · have hm := i_t b35 hm
                      refine lv_iconst (v := 1) hx hb dX12_sees_143 (by decide) ?_
                      have hq := Option.some.inj hm
                      subst hq; subst hQ
                      exact k_iret hx hb hr hlocks hP hD hS rfl trivial dX12_sees_144
                    · have hm := i_f b35 hm
                      refine lv_iconst (v := 0) hx hb dX12_sees_139 (by decide) ?_
                      refine lv_goto (tgt := 144) hx hb dX12_sees_140 (by decide) ?_
                      have hq := Option.some.inj hm
                      subst hq; subst hQ
                      exact k_iret hx hb hr hlocks hP hD hS rfl trivial dX12_sees_144
                · have hm := i_t b28 hm
                  refine lv_aload_n hx hb dX12_sees_97 rfl (lv_at hl 0 rfl) ?_
                  refine lv_iload_n hx hb dX12_sees_98 rfl (lv_at hl 1 rfl) ?_
                  refine lv_iload_n hx hb dX12_sees_99 rfl (lv_at hl 3 rfl) ?_
                  refine lv_iload hx hb dX12_sees_100 (lv_at hl 4 rfl) ?_
                  obtain ⟨r36, hc_r36, hm⟩ := bs hm
                  refine k_calli (va_runV (As := [.int x1, .int x3, .int x4]) (rest := []) ⟨hx, hb, hml, hown, hts⟩ (c_X12_passesFlip l G cs q H.size v_told v_tell v_sums v_kindOf v_modOf v_bitsOf v_turnOf v_polyOf v_beginOf v_finishOf v_isLow v_weightsOf v_weight v_cell v_size v_row v_keptSize v_keptBefore v_keptAfter r27.1 r27.2 v_turned v_turnedMany v_syndromes v_lightest v_freeMany v_freePlace v_freeSyndrome v_ways v_waysKept v_trace v_comesA v_comesB   x1 x3 x4 n r36 hc_r36) (cwV 3 hts gX12_sees_X12_passesFlip rfl rfl rfl ⟨rfl, hd_X12_passesFlip⟩ ⟨Nat.le_of_ble_eq_true rfl, Nat.le_of_ble_eq_true rfl⟩) ⟨pre_blind, va_recv hK.1 hP (ci := 10) (q0 := 0) rfl rfl, pre_w hK RO.nil hP hD (va_all hD hS hA)⟩ rfl rfl hl.1 rfl (lv_room (Nat.le_of_ble_eq_true rfl)) dX12_sees_102 ⟨Nat.zero_le _, Nat.zero_le _⟩) hS (va_all hD hS hA) (fun hE37 H locs hP hD hS => ?_)
                  have hP : va_P G vwCl (ww_M q cs v_told v_tell v_sums v_kindOf v_modOf v_bitsOf v_turnOf v_polyOf v_beginOf v_finishOf v_isLow v_weightsOf v_weight v_cell v_size v_row r36.2.1 r36.2.2.1 r36.2.2.2.1 r27.1 r27.2 r36.2.2.2.2.1 r36.2.2.2.2.2.1 v_syndromes v_lightest v_freeMany v_freePlace v_freeSyndrome v_ways v_waysKept v_trace r36.2.2.2.2.2.2.1 r36.2.2.2.2.2.2.2) H := hP
                  have hD : va_D A (ww_M q cs v_told v_tell v_sums v_kindOf v_modOf v_bitsOf v_turnOf v_polyOf v_beginOf v_finishOf v_isLow v_weightsOf v_weight v_cell v_size v_row r36.2.1 r36.2.2.1 r36.2.2.2.1 r27.1 r27.2 r36.2.2.2.2.1 r36.2.2.2.2.2.1 v_syndromes v_lightest v_freeMany v_freePlace v_freeSyndrome v_ways v_waysKept v_trace r36.2.2.2.2.2.2.1 r36.2.2.2.2.2.2.2) := hD
                  refine lv_goto (tgt := 132) hx hb dX12_sees_105 (by decide) ?_
                  refine lv_istore (lv' := [(5, .int r36.1), (0, .ref (q 0)), (1, .int x1), (2, .int x2), (3, .int x3), (4, .int x4)]) hx hb dX12_sees_132 hl (by decide) rfl (fun ls hl => ?_)
                  refine lv_iload hx hb dX12_sees_134 (lv_at hl 0 rfl) ?_
                  refine lv_if_eq (tgt := 143) hx hb dX12_sees_136 (by decide) (fun b38 => ?_) (fun b38 => ?_)
                  · have hm := i_t b38 hm
                    refine lv_iconst (v := 1) hx hb dX12_sees_143 (by decide) ?_
                    have hq := Option.some.inj hm
                    subst hq; subst hQ
                    exact k_iret hx hb hr hlocks hP hD hS rfl trivial dX12_sees_144
                  · have hm := i_f b38 hm
                    refine lv_iconst (v := 0) hx hb dX12_sees_139 (by decide) ?_
                    refine lv_goto (tgt := 144) hx hb dX12_sees_140 (by decide) ?_
                    have hq := Option.some.inj hm
                    subst hq; subst hQ
                    exact k_iret hx hb hr hlocks hP hD hS rfl trivial dX12_sees_144
              · have hm := i_t b26 hm
                refine lv_bipush (v := (-3)) hx hb dX12_sees_83 (by decide) ?_
                have hq := Option.some.inj hm
                subst hq; subst hQ
                exact k_iret hx hb hr hlocks hP hD hS rfl trivial dX12_sees_85
        · have hm := i_t b7 hm
          refine lv_iload_n hx hb dX12_sees_41 rfl (lv_at hl 3 rfl) ?_
          refine lv_i2l (v := x3.toInt64) hx hb dX12_sees_42 rfl ?_
          refine lv_lconst (v := 1) hx hb dX12_sees_43 (by decide) ?_
          refine lv_ldc2 (own := RX12) (v := 3) hx hb hown wd3 dX12_sees_44 ?_
          refine k_calli0 (va_runS (As := [.long x3.toInt64, .long 1, .long 3]) (rest := []) ⟨hx, hb, hml, hown, hts⟩ (c_X12_in l G cs H.size    x3.toInt64 (1 : Int64) (3 : Int64) _ rfl) (va_cwS 3 hts gX12_sees_X12_in rfl rfl rfl hd_X12_in ⟨Nat.le_of_ble_eq_true rfl, Nat.le_of_ble_eq_true rfl⟩) ⟨pre_blind, pre_w hK RO.nil P0 D0 (va_new0 hS hA)⟩ rfl rfl hl.1 rfl (lv_room (Nat.le_of_ble_eq_true rfl)) dX12_sees_47 ⟨Nat.zero_le _, Nat.zero_le _⟩) hP hS hA (fun hE39 H locs hP hS => ?_)
          refine lv_if_eq (tgt := 83) hx hb dX12_sees_50 (by decide) (fun b40 => ?_) (fun b40 => ?_)
          · have hm := i_t b40 hm
            refine lv_bipush (v := (-3)) hx hb dX12_sees_83 (by decide) ?_
            have hq := Option.some.inj hm
            subst hq; subst hQ
            exact k_iret hx hb hr hlocks hP hD hS rfl trivial dX12_sees_85
          · have hm := i_f b40 hm
            refine lv_iload_n hx hb dX12_sees_53 rfl (lv_at hl 2 rfl) ?_
            refine lv_iconst (v := 1) hx hb dX12_sees_54 (by decide) ?_
            refine lv_icmp_ne (tgt := 70) hx hb dX12_sees_55 (by decide) (fun b41 => ?_) (fun b41 => ?_)
            · have hm := i_f b41 hm
              refine lv_iload hx hb dX12_sees_70 (lv_at hl 4 rfl) ?_
              refine lv_i2l (v := x4.toInt64) hx hb dX12_sees_72 rfl ?_
              refine lv_lconst (v := 1) hx hb dX12_sees_73 (by decide) ?_
              refine lv_ldc2 (own := RX12) (v := 8) hx hb hown wd4 dX12_sees_74 ?_
              refine k_calli0 (va_runS (As := [.long x4.toInt64, .long 1, .long 8]) (rest := []) ⟨hx, hb, hml, hown, hts⟩ (c_X12_in l G cs H.size    x4.toInt64 (1 : Int64) (8 : Int64) _ rfl) (va_cwS 3 hts gX12_sees_X12_in rfl rfl rfl hd_X12_in ⟨Nat.le_of_ble_eq_true rfl, Nat.le_of_ble_eq_true rfl⟩) ⟨pre_blind, pre_w hK RO.nil P0 D0 (va_new0 hS hA)⟩ rfl rfl hl.1 rfl (lv_room (Nat.le_of_ble_eq_true rfl)) dX12_sees_77 ⟨Nat.zero_le _, Nat.zero_le _⟩) hP hS hA (fun hE42 H locs hP hS => ?_)
              refine lv_if_ne (tgt := 86) hx hb dX12_sees_80 (by decide) (fun b43 => ?_) (fun b43 => ?_)
              · have hm := i_f b43 hm
                refine lv_aload_n hx hb dX12_sees_86 rfl (lv_at hl 0 rfl) ?_
                refine lv_iload_n hx hb dX12_sees_87 rfl (lv_at hl 1 rfl) ?_
                refine lv_iload hx hb dX12_sees_88 (lv_at hl 4 rfl) ?_
                obtain ⟨r44, hc_r44, hm⟩ := bs hm
                refine k_callv (va_runV (As := [.int x1, .int x4]) (rest := []) ⟨hx, hb, hml, hown, hts⟩ (c_X12_findPlaces l G cs q H.size v_told v_tell v_sums v_kindOf v_modOf v_bitsOf v_turnOf v_polyOf v_beginOf v_finishOf v_isLow v_weightsOf v_weight v_cell v_size v_row v_keptSize v_keptBefore v_keptAfter v_placeA v_placeB v_turned v_turnedMany v_syndromes v_lightest v_freeMany v_freePlace v_freeSyndrome v_ways v_waysKept v_trace v_comesA v_comesB   x1 x4 n r44 hc_r44) (cwV 2 hts gX12_sees_X12_findPlaces rfl rfl rfl ⟨rfl, hd_X12_findPlaces⟩ ⟨Nat.le_of_ble_eq_true rfl, Nat.le_of_ble_eq_true rfl⟩) ⟨pre_blind, va_recv hK.1 hP (ci := 10) (q0 := 0) rfl rfl, pre_w hK RO.nil hP hD (va_all hD hS hA)⟩ rfl rfl hl.1 rfl (lv_room (Nat.le_of_ble_eq_true rfl)) dX12_sees_90 ⟨Nat.zero_le _, Nat.zero_le _⟩) hS (va_all hD hS hA) (fun H locs hP hD hS => ?_)
                have hP : va_P G vwCl (ww_M q cs v_told v_tell v_sums v_kindOf v_modOf v_bitsOf v_turnOf v_polyOf v_beginOf v_finishOf v_isLow v_weightsOf v_weight v_cell v_size v_row v_keptSize v_keptBefore v_keptAfter r44.1 r44.2 v_turned v_turnedMany v_syndromes v_lightest v_freeMany v_freePlace v_freeSyndrome v_ways v_waysKept v_trace v_comesA v_comesB) H := hP
                have hD : va_D A (ww_M q cs v_told v_tell v_sums v_kindOf v_modOf v_bitsOf v_turnOf v_polyOf v_beginOf v_finishOf v_isLow v_weightsOf v_weight v_cell v_size v_row v_keptSize v_keptBefore v_keptAfter r44.1 r44.2 v_turned v_turnedMany v_syndromes v_lightest v_freeMany v_freePlace v_freeSyndrome v_ways v_waysKept v_trace v_comesA v_comesB) := hD
                refine lv_iload_n hx hb dX12_sees_93 rfl (lv_at hl 2 rfl) ?_
                refine lv_if_ne (tgt := 108) hx hb dX12_sees_94 (by decide) (fun b45 => ?_) (fun b45 => ?_)
                · have hm := i_f b45 hm
                  refine lv_iload_n hx hb dX12_sees_108 rfl (lv_at hl 2 rfl) ?_
                  refine lv_iconst (v := 1) hx hb dX12_sees_109 (by decide) ?_
                  refine lv_icmp_ne (tgt := 124) hx hb dX12_sees_110 (by decide) (fun b46 => ?_) (fun b46 => ?_)
                  · have hm := i_f b46 hm
                    refine lv_aload_n hx hb dX12_sees_124 rfl (lv_at hl 0 rfl) ?_
                    refine lv_iload_n hx hb dX12_sees_125 rfl (lv_at hl 1 rfl) ?_
                    refine lv_iload_n hx hb dX12_sees_126 rfl (lv_at hl 2 rfl) ?_
                    refine lv_iload hx hb dX12_sees_127 (lv_at hl 4 rfl) ?_
                    obtain ⟨r47, hc_r47, hm⟩ := bs hm
                    refine k_calli (va_runV (As := [.int x1, .int x2, .int x4]) (rest := []) ⟨hx, hb, hml, hown, hts⟩ (c_X12_passesBytes l G cs q H.size v_told v_tell v_sums v_kindOf v_modOf v_bitsOf v_turnOf v_polyOf v_beginOf v_finishOf v_isLow v_weightsOf v_weight v_cell v_size v_row v_keptSize v_keptBefore v_keptAfter r44.1 r44.2 v_turned v_turnedMany v_syndromes v_lightest v_freeMany v_freePlace v_freeSyndrome v_ways v_waysKept v_trace v_comesA v_comesB   x1 x2 x4 n r47 hc_r47) (cwV 3 hts gX12_sees_X12_passesBytes rfl rfl rfl ⟨rfl, hd_X12_passesBytes⟩ ⟨Nat.le_of_ble_eq_true rfl, Nat.le_of_ble_eq_true rfl⟩) ⟨pre_blind, va_recv hK.1 hP (ci := 10) (q0 := 0) rfl rfl, pre_w hK RO.nil hP hD (va_all hD hS hA)⟩ rfl rfl hl.1 rfl (lv_room (Nat.le_of_ble_eq_true rfl)) dX12_sees_129 ⟨Nat.zero_le _, Nat.zero_le _⟩) hS (va_all hD hS hA) (fun hE48 H locs hP hD hS => ?_)
                    have hP : va_P G vwCl (ww_M q cs v_told v_tell v_sums v_kindOf v_modOf v_bitsOf v_turnOf v_polyOf v_beginOf v_finishOf v_isLow v_weightsOf v_weight v_cell v_size v_row r47.2.1 r47.2.2.1 r47.2.2.2.1 r44.1 r44.2 v_turned v_turnedMany v_syndromes v_lightest v_freeMany v_freePlace v_freeSyndrome v_ways v_waysKept v_trace r47.2.2.2.2.1 r47.2.2.2.2.2) H := hP
                    have hD : va_D A (ww_M q cs v_told v_tell v_sums v_kindOf v_modOf v_bitsOf v_turnOf v_polyOf v_beginOf v_finishOf v_isLow v_weightsOf v_weight v_cell v_size v_row r47.2.1 r47.2.2.1 r47.2.2.2.1 r44.1 r44.2 v_turned v_turnedMany v_syndromes v_lightest v_freeMany v_freePlace v_freeSyndrome v_ways v_waysKept v_trace r47.2.2.2.2.1 r47.2.2.2.2.2) := hD
                    refine lv_istore (lv' := [(5, .int r47.1), (0, .ref (q 0)), (1, .int x1), (2, .int x2), (3, .int x3), (4, .int x4)]) hx hb dX12_sees_132 hl (by decide) rfl (fun ls hl => ?_)
                    refine lv_iload hx hb dX12_sees_134 (lv_at hl 0 rfl) ?_
                    refine lv_if_eq (tgt := 143) hx hb dX12_sees_136 (by decide) (fun b49 => ?_) (fun b49 => ?_)
                    · have hm := i_t b49 hm
                      refine lv_iconst (v := 1) hx hb dX12_sees_143 (by decide) ?_
                      have hq := Option.some.inj hm
                      subst hq; subst hQ
                      exact k_iret hx hb hr hlocks hP hD hS rfl trivial dX12_sees_144
                    · have hm := i_f b49 hm
                      refine lv_iconst (v := 0) hx hb dX12_sees_139 (by decide) ?_
                      refine lv_goto (tgt := 144) hx hb dX12_sees_140 (by decide) ?_
                      have hq := Option.some.inj hm
                      subst hq; subst hQ
                      exact k_iret hx hb hr hlocks hP hD hS rfl trivial dX12_sees_144
                  · have hm := i_t b46 hm
                    refine lv_aload_n hx hb dX12_sees_113 rfl (lv_at hl 0 rfl) ?_
                    refine lv_iload_n hx hb dX12_sees_114 rfl (lv_at hl 1 rfl) ?_
                    refine lv_iload_n hx hb dX12_sees_115 rfl (lv_at hl 3 rfl) ?_
                    refine lv_iload hx hb dX12_sees_116 (lv_at hl 4 rfl) ?_
                    obtain ⟨r50, hc_r50, hm⟩ := bs hm
                    refine k_calli (va_runV (As := [.int x1, .int x3, .int x4]) (rest := []) ⟨hx, hb, hml, hown, hts⟩ (c_X12_passesBurst l G cs q H.size v_told v_tell v_sums v_kindOf v_modOf v_bitsOf v_turnOf v_polyOf v_beginOf v_finishOf v_isLow v_weightsOf v_weight v_cell v_size v_row v_keptSize v_keptBefore v_keptAfter r44.1 r44.2 v_turned v_turnedMany v_syndromes v_lightest v_freeMany v_freePlace v_freeSyndrome v_ways v_waysKept v_trace v_comesA v_comesB   x1 x3 x4 n r50 hc_r50) (cwV 3 hts gX12_sees_X12_passesBurst rfl rfl rfl ⟨rfl, hd_X12_passesBurst⟩ ⟨Nat.le_of_ble_eq_true rfl, Nat.le_of_ble_eq_true rfl⟩) ⟨pre_blind, va_recv hK.1 hP (ci := 10) (q0 := 0) rfl rfl, pre_w hK RO.nil hP hD (va_all hD hS hA)⟩ rfl rfl hl.1 rfl (lv_room (Nat.le_of_ble_eq_true rfl)) dX12_sees_118 ⟨Nat.zero_le _, Nat.zero_le _⟩) hS (va_all hD hS hA) (fun hE51 H locs hP hD hS => ?_)
                    have hP : va_P G vwCl (ww_M q cs v_told v_tell v_sums v_kindOf v_modOf v_bitsOf v_turnOf v_polyOf v_beginOf v_finishOf v_isLow v_weightsOf v_weight v_cell v_size v_row r50.2.1 r50.2.2.1 r50.2.2.2.1 r44.1 r44.2 r50.2.2.2.2.1 r50.2.2.2.2.2.1 v_syndromes v_lightest v_freeMany v_freePlace v_freeSyndrome v_ways v_waysKept v_trace r50.2.2.2.2.2.2.1 r50.2.2.2.2.2.2.2) H := hP
                    have hD : va_D A (ww_M q cs v_told v_tell v_sums v_kindOf v_modOf v_bitsOf v_turnOf v_polyOf v_beginOf v_finishOf v_isLow v_weightsOf v_weight v_cell v_size v_row r50.2.1 r50.2.2.1 r50.2.2.2.1 r44.1 r44.2 r50.2.2.2.2.1 r50.2.2.2.2.2.1 v_syndromes v_lightest v_freeMany v_freePlace v_freeSyndrome v_ways v_waysKept v_trace r50.2.2.2.2.2.2.1 r50.2.2.2.2.2.2.2) := hD
                    refine lv_goto (tgt := 132) hx hb dX12_sees_121 (by decide) ?_
                    refine lv_istore (lv' := [(5, .int r50.1), (0, .ref (q 0)), (1, .int x1), (2, .int x2), (3, .int x3), (4, .int x4)]) hx hb dX12_sees_132 hl (by decide) rfl (fun ls hl => ?_)
                    refine lv_iload hx hb dX12_sees_134 (lv_at hl 0 rfl) ?_
                    refine lv_if_eq (tgt := 143) hx hb dX12_sees_136 (by decide) (fun b52 => ?_) (fun b52 => ?_)
                    · have hm := i_t b52 hm
                      refine lv_iconst (v := 1) hx hb dX12_sees_143 (by decide) ?_
                      have hq := Option.some.inj hm
                      subst hq; subst hQ
                      exact k_iret hx hb hr hlocks hP hD hS rfl trivial dX12_sees_144
                    · have hm := i_f b52 hm
                      refine lv_iconst (v := 0) hx hb dX12_sees_139 (by decide) ?_
                      refine lv_goto (tgt := 144) hx hb dX12_sees_140 (by decide) ?_
                      have hq := Option.some.inj hm
                      subst hq; subst hQ
                      exact k_iret hx hb hr hlocks hP hD hS rfl trivial dX12_sees_144
                · have hm := i_t b45 hm
                  refine lv_aload_n hx hb dX12_sees_97 rfl (lv_at hl 0 rfl) ?_
                  refine lv_iload_n hx hb dX12_sees_98 rfl (lv_at hl 1 rfl) ?_
                  refine lv_iload_n hx hb dX12_sees_99 rfl (lv_at hl 3 rfl) ?_
                  refine lv_iload hx hb dX12_sees_100 (lv_at hl 4 rfl) ?_
                  obtain ⟨r53, hc_r53, hm⟩ := bs hm
                  refine k_calli (va_runV (As := [.int x1, .int x3, .int x4]) (rest := []) ⟨hx, hb, hml, hown, hts⟩ (c_X12_passesFlip l G cs q H.size v_told v_tell v_sums v_kindOf v_modOf v_bitsOf v_turnOf v_polyOf v_beginOf v_finishOf v_isLow v_weightsOf v_weight v_cell v_size v_row v_keptSize v_keptBefore v_keptAfter r44.1 r44.2 v_turned v_turnedMany v_syndromes v_lightest v_freeMany v_freePlace v_freeSyndrome v_ways v_waysKept v_trace v_comesA v_comesB   x1 x3 x4 n r53 hc_r53) (cwV 3 hts gX12_sees_X12_passesFlip rfl rfl rfl ⟨rfl, hd_X12_passesFlip⟩ ⟨Nat.le_of_ble_eq_true rfl, Nat.le_of_ble_eq_true rfl⟩) ⟨pre_blind, va_recv hK.1 hP (ci := 10) (q0 := 0) rfl rfl, pre_w hK RO.nil hP hD (va_all hD hS hA)⟩ rfl rfl hl.1 rfl (lv_room (Nat.le_of_ble_eq_true rfl)) dX12_sees_102 ⟨Nat.zero_le _, Nat.zero_le _⟩) hS (va_all hD hS hA) (fun hE54 H locs hP hD hS => ?_)
                  have hP : va_P G vwCl (ww_M q cs v_told v_tell v_sums v_kindOf v_modOf v_bitsOf v_turnOf v_polyOf v_beginOf v_finishOf v_isLow v_weightsOf v_weight v_cell v_size v_row r53.2.1 r53.2.2.1 r53.2.2.2.1 r44.1 r44.2 r53.2.2.2.2.1 r53.2.2.2.2.2.1 v_syndromes v_lightest v_freeMany v_freePlace v_freeSyndrome v_ways v_waysKept v_trace r53.2.2.2.2.2.2.1 r53.2.2.2.2.2.2.2) H := hP
                  have hD : va_D A (ww_M q cs v_told v_tell v_sums v_kindOf v_modOf v_bitsOf v_turnOf v_polyOf v_beginOf v_finishOf v_isLow v_weightsOf v_weight v_cell v_size v_row r53.2.1 r53.2.2.1 r53.2.2.2.1 r44.1 r44.2 r53.2.2.2.2.1 r53.2.2.2.2.2.1 v_syndromes v_lightest v_freeMany v_freePlace v_freeSyndrome v_ways v_waysKept v_trace r53.2.2.2.2.2.2.1 r53.2.2.2.2.2.2.2) := hD
                  refine lv_goto (tgt := 132) hx hb dX12_sees_105 (by decide) ?_
                  refine lv_istore (lv' := [(5, .int r53.1), (0, .ref (q 0)), (1, .int x1), (2, .int x2), (3, .int x3), (4, .int x4)]) hx hb dX12_sees_132 hl (by decide) rfl (fun ls hl => ?_)
                  refine lv_iload hx hb dX12_sees_134 (lv_at hl 0 rfl) ?_
                  refine lv_if_eq (tgt := 143) hx hb dX12_sees_136 (by decide) (fun b55 => ?_) (fun b55 => ?_)
                  · have hm := i_t b55 hm
                    refine lv_iconst (v := 1) hx hb dX12_sees_143 (by decide) ?_
                    have hq := Option.some.inj hm
                    subst hq; subst hQ
                    exact k_iret hx hb hr hlocks hP hD hS rfl trivial dX12_sees_144
                  · have hm := i_f b55 hm
                    refine lv_iconst (v := 0) hx hb dX12_sees_139 (by decide) ?_
                    refine lv_goto (tgt := 144) hx hb dX12_sees_140 (by decide) ?_
                    have hq := Option.some.inj hm
                    subst hq; subst hQ
                    exact k_iret hx hb hr hlocks hP hD hS rfl trivial dX12_sees_144
              · have hm := i_t b43 hm
                refine lv_bipush (v := (-3)) hx hb dX12_sees_83 (by decide) ?_
                have hq := Option.some.inj hm
                subst hq; subst hQ
                exact k_iret hx hb hr hlocks hP hD hS rfl trivial dX12_sees_85
            · have hm := i_t b41 hm
              refine lv_iload_n hx hb dX12_sees_58 rfl (lv_at hl 3 rfl) ?_
              refine lv_i2l (v := x3.toInt64) hx hb dX12_sees_59 rfl ?_
              refine lv_lconst (v := 1) hx hb dX12_sees_60 (by decide) ?_
              refine lv_ldc2 (own := RX12) (v := 8) hx hb hown wd4 dX12_sees_61 ?_
              refine k_calli0 (va_runS (As := [.long x3.toInt64, .long 1, .long 8]) (rest := []) ⟨hx, hb, hml, hown, hts⟩ (c_X12_in l G cs H.size    x3.toInt64 (1 : Int64) (8 : Int64) _ rfl) (va_cwS 3 hts gX12_sees_X12_in rfl rfl rfl hd_X12_in ⟨Nat.le_of_ble_eq_true rfl, Nat.le_of_ble_eq_true rfl⟩) ⟨pre_blind, pre_w hK RO.nil P0 D0 (va_new0 hS hA)⟩ rfl rfl hl.1 rfl (lv_room (Nat.le_of_ble_eq_true rfl)) dX12_sees_64 ⟨Nat.zero_le _, Nat.zero_le _⟩) hP hS hA (fun hE56 H locs hP hS => ?_)
              refine lv_if_eq (tgt := 83) hx hb dX12_sees_67 (by decide) (fun b57 => ?_) (fun b57 => ?_)
              · have hm := i_t b57 hm
                refine lv_bipush (v := (-3)) hx hb dX12_sees_83 (by decide) ?_
                have hq := Option.some.inj hm
                subst hq; subst hQ
                exact k_iret hx hb hr hlocks hP hD hS rfl trivial dX12_sees_85
              · have hm := i_f b57 hm
                refine lv_iload hx hb dX12_sees_70 (lv_at hl 4 rfl) ?_
                refine lv_i2l (v := x4.toInt64) hx hb dX12_sees_72 rfl ?_
                refine lv_lconst (v := 1) hx hb dX12_sees_73 (by decide) ?_
                refine lv_ldc2 (own := RX12) (v := 8) hx hb hown wd4 dX12_sees_74 ?_
                refine k_calli0 (va_runS (As := [.long x4.toInt64, .long 1, .long 8]) (rest := []) ⟨hx, hb, hml, hown, hts⟩ (c_X12_in l G cs H.size    x4.toInt64 (1 : Int64) (8 : Int64) _ rfl) (va_cwS 3 hts gX12_sees_X12_in rfl rfl rfl hd_X12_in ⟨Nat.le_of_ble_eq_true rfl, Nat.le_of_ble_eq_true rfl⟩) ⟨pre_blind, pre_w hK RO.nil P0 D0 (va_new0 hS hA)⟩ rfl rfl hl.1 rfl (lv_room (Nat.le_of_ble_eq_true rfl)) dX12_sees_77 ⟨Nat.zero_le _, Nat.zero_le _⟩) hP hS hA (fun hE58 H locs hP hS => ?_)
                refine lv_if_ne (tgt := 86) hx hb dX12_sees_80 (by decide) (fun b59 => ?_) (fun b59 => ?_)
                · have hm := i_f b59 hm
                  refine lv_aload_n hx hb dX12_sees_86 rfl (lv_at hl 0 rfl) ?_
                  refine lv_iload_n hx hb dX12_sees_87 rfl (lv_at hl 1 rfl) ?_
                  refine lv_iload hx hb dX12_sees_88 (lv_at hl 4 rfl) ?_
                  obtain ⟨r60, hc_r60, hm⟩ := bs hm
                  refine k_callv (va_runV (As := [.int x1, .int x4]) (rest := []) ⟨hx, hb, hml, hown, hts⟩ (c_X12_findPlaces l G cs q H.size v_told v_tell v_sums v_kindOf v_modOf v_bitsOf v_turnOf v_polyOf v_beginOf v_finishOf v_isLow v_weightsOf v_weight v_cell v_size v_row v_keptSize v_keptBefore v_keptAfter v_placeA v_placeB v_turned v_turnedMany v_syndromes v_lightest v_freeMany v_freePlace v_freeSyndrome v_ways v_waysKept v_trace v_comesA v_comesB   x1 x4 n r60 hc_r60) (cwV 2 hts gX12_sees_X12_findPlaces rfl rfl rfl ⟨rfl, hd_X12_findPlaces⟩ ⟨Nat.le_of_ble_eq_true rfl, Nat.le_of_ble_eq_true rfl⟩) ⟨pre_blind, va_recv hK.1 hP (ci := 10) (q0 := 0) rfl rfl, pre_w hK RO.nil hP hD (va_all hD hS hA)⟩ rfl rfl hl.1 rfl (lv_room (Nat.le_of_ble_eq_true rfl)) dX12_sees_90 ⟨Nat.zero_le _, Nat.zero_le _⟩) hS (va_all hD hS hA) (fun H locs hP hD hS => ?_)
                  have hP : va_P G vwCl (ww_M q cs v_told v_tell v_sums v_kindOf v_modOf v_bitsOf v_turnOf v_polyOf v_beginOf v_finishOf v_isLow v_weightsOf v_weight v_cell v_size v_row v_keptSize v_keptBefore v_keptAfter r60.1 r60.2 v_turned v_turnedMany v_syndromes v_lightest v_freeMany v_freePlace v_freeSyndrome v_ways v_waysKept v_trace v_comesA v_comesB) H := hP
                  have hD : va_D A (ww_M q cs v_told v_tell v_sums v_kindOf v_modOf v_bitsOf v_turnOf v_polyOf v_beginOf v_finishOf v_isLow v_weightsOf v_weight v_cell v_size v_row v_keptSize v_keptBefore v_keptAfter r60.1 r60.2 v_turned v_turnedMany v_syndromes v_lightest v_freeMany v_freePlace v_freeSyndrome v_ways v_waysKept v_trace v_comesA v_comesB) := hD
                  refine lv_iload_n hx hb dX12_sees_93 rfl (lv_at hl 2 rfl) ?_
                  refine lv_if_ne (tgt := 108) hx hb dX12_sees_94 (by decide) (fun b61 => ?_) (fun b61 => ?_)
                  · have hm := i_f b61 hm
                    refine lv_iload_n hx hb dX12_sees_108 rfl (lv_at hl 2 rfl) ?_
                    refine lv_iconst (v := 1) hx hb dX12_sees_109 (by decide) ?_
                    refine lv_icmp_ne (tgt := 124) hx hb dX12_sees_110 (by decide) (fun b62 => ?_) (fun b62 => ?_)
                    · have hm := i_f b62 hm
                      refine lv_aload_n hx hb dX12_sees_124 rfl (lv_at hl 0 rfl) ?_
                      refine lv_iload_n hx hb dX12_sees_125 rfl (lv_at hl 1 rfl) ?_
                      refine lv_iload_n hx hb dX12_sees_126 rfl (lv_at hl 2 rfl) ?_
                      refine lv_iload hx hb dX12_sees_127 (lv_at hl 4 rfl) ?_
                      obtain ⟨r63, hc_r63, hm⟩ := bs hm
                      refine k_calli (va_runV (As := [.int x1, .int x2, .int x4]) (rest := []) ⟨hx, hb, hml, hown, hts⟩ (c_X12_passesBytes l G cs q H.size v_told v_tell v_sums v_kindOf v_modOf v_bitsOf v_turnOf v_polyOf v_beginOf v_finishOf v_isLow v_weightsOf v_weight v_cell v_size v_row v_keptSize v_keptBefore v_keptAfter r60.1 r60.2 v_turned v_turnedMany v_syndromes v_lightest v_freeMany v_freePlace v_freeSyndrome v_ways v_waysKept v_trace v_comesA v_comesB   x1 x2 x4 n r63 hc_r63) (cwV 3 hts gX12_sees_X12_passesBytes rfl rfl rfl ⟨rfl, hd_X12_passesBytes⟩ ⟨Nat.le_of_ble_eq_true rfl, Nat.le_of_ble_eq_true rfl⟩) ⟨pre_blind, va_recv hK.1 hP (ci := 10) (q0 := 0) rfl rfl, pre_w hK RO.nil hP hD (va_all hD hS hA)⟩ rfl rfl hl.1 rfl (lv_room (Nat.le_of_ble_eq_true rfl)) dX12_sees_129 ⟨Nat.zero_le _, Nat.zero_le _⟩) hS (va_all hD hS hA) (fun hE64 H locs hP hD hS => ?_)
                      have hP : va_P G vwCl (ww_M q cs v_told v_tell v_sums v_kindOf v_modOf v_bitsOf v_turnOf v_polyOf v_beginOf v_finishOf v_isLow v_weightsOf v_weight v_cell v_size v_row r63.2.1 r63.2.2.1 r63.2.2.2.1 r60.1 r60.2 v_turned v_turnedMany v_syndromes v_lightest v_freeMany v_freePlace v_freeSyndrome v_ways v_waysKept v_trace r63.2.2.2.2.1 r63.2.2.2.2.2) H := hP
                      have hD : va_D A (ww_M q cs v_told v_tell v_sums v_kindOf v_modOf v_bitsOf v_turnOf v_polyOf v_beginOf v_finishOf v_isLow v_weightsOf v_weight v_cell v_size v_row r63.2.1 r63.2.2.1 r63.2.2.2.1 r60.1 r60.2 v_turned v_turnedMany v_syndromes v_lightest v_freeMany v_freePlace v_freeSyndrome v_ways v_waysKept v_trace r63.2.2.2.2.1 r63.2.2.2.2.2) := hD
                      refine lv_istore (lv' := [(5, .int r63.1), (0, .ref (q 0)), (1, .int x1), (2, .int x2), (3, .int x3), (4, .int x4)]) hx hb dX12_sees_132 hl (by decide) rfl (fun ls hl => ?_)
                      refine lv_iload hx hb dX12_sees_134 (lv_at hl 0 rfl) ?_
                      refine lv_if_eq (tgt := 143) hx hb dX12_sees_136 (by decide) (fun b65 => ?_) (fun b65 => ?_)
                      · have hm := i_t b65 hm
                        refine lv_iconst (v := 1) hx hb dX12_sees_143 (by decide) ?_
                        have hq := Option.some.inj hm
                        subst hq; subst hQ
                        exact k_iret hx hb hr hlocks hP hD hS rfl trivial dX12_sees_144
                      · have hm := i_f b65 hm
                        refine lv_iconst (v := 0) hx hb dX12_sees_139 (by decide) ?_
                        refine lv_goto (tgt := 144) hx hb dX12_sees_140 (by decide) ?_
                        have hq := Option.some.inj hm
                        subst hq; subst hQ
                        exact k_iret hx hb hr hlocks hP hD hS rfl trivial dX12_sees_144
                    · have hm := i_t b62 hm
                      refine lv_aload_n hx hb dX12_sees_113 rfl (lv_at hl 0 rfl) ?_
                      refine lv_iload_n hx hb dX12_sees_114 rfl (lv_at hl 1 rfl) ?_
                      refine lv_iload_n hx hb dX12_sees_115 rfl (lv_at hl 3 rfl) ?_
                      refine lv_iload hx hb dX12_sees_116 (lv_at hl 4 rfl) ?_
                      obtain ⟨r66, hc_r66, hm⟩ := bs hm
                      refine k_calli (va_runV (As := [.int x1, .int x3, .int x4]) (rest := []) ⟨hx, hb, hml, hown, hts⟩ (c_X12_passesBurst l G cs q H.size v_told v_tell v_sums v_kindOf v_modOf v_bitsOf v_turnOf v_polyOf v_beginOf v_finishOf v_isLow v_weightsOf v_weight v_cell v_size v_row v_keptSize v_keptBefore v_keptAfter r60.1 r60.2 v_turned v_turnedMany v_syndromes v_lightest v_freeMany v_freePlace v_freeSyndrome v_ways v_waysKept v_trace v_comesA v_comesB   x1 x3 x4 n r66 hc_r66) (cwV 3 hts gX12_sees_X12_passesBurst rfl rfl rfl ⟨rfl, hd_X12_passesBurst⟩ ⟨Nat.le_of_ble_eq_true rfl, Nat.le_of_ble_eq_true rfl⟩) ⟨pre_blind, va_recv hK.1 hP (ci := 10) (q0 := 0) rfl rfl, pre_w hK RO.nil hP hD (va_all hD hS hA)⟩ rfl rfl hl.1 rfl (lv_room (Nat.le_of_ble_eq_true rfl)) dX12_sees_118 ⟨Nat.zero_le _, Nat.zero_le _⟩) hS (va_all hD hS hA) (fun hE67 H locs hP hD hS => ?_)
                      have hP : va_P G vwCl (ww_M q cs v_told v_tell v_sums v_kindOf v_modOf v_bitsOf v_turnOf v_polyOf v_beginOf v_finishOf v_isLow v_weightsOf v_weight v_cell v_size v_row r66.2.1 r66.2.2.1 r66.2.2.2.1 r60.1 r60.2 r66.2.2.2.2.1 r66.2.2.2.2.2.1 v_syndromes v_lightest v_freeMany v_freePlace v_freeSyndrome v_ways v_waysKept v_trace r66.2.2.2.2.2.2.1 r66.2.2.2.2.2.2.2) H := hP
                      have hD : va_D A (ww_M q cs v_told v_tell v_sums v_kindOf v_modOf v_bitsOf v_turnOf v_polyOf v_beginOf v_finishOf v_isLow v_weightsOf v_weight v_cell v_size v_row r66.2.1 r66.2.2.1 r66.2.2.2.1 r60.1 r60.2 r66.2.2.2.2.1 r66.2.2.2.2.2.1 v_syndromes v_lightest v_freeMany v_freePlace v_freeSyndrome v_ways v_waysKept v_trace r66.2.2.2.2.2.2.1 r66.2.2.2.2.2.2.2) := hD
                      refine lv_goto (tgt := 132) hx hb dX12_sees_121 (by decide) ?_
                      refine lv_istore (lv' := [(5, .int r66.1), (0, .ref (q 0)), (1, .int x1), (2, .int x2), (3, .int x3), (4, .int x4)]) hx hb dX12_sees_132 hl (by decide) rfl (fun ls hl => ?_)
                      refine lv_iload hx hb dX12_sees_134 (lv_at hl 0 rfl) ?_
                      refine lv_if_eq (tgt := 143) hx hb dX12_sees_136 (by decide) (fun b68 => ?_) (fun b68 => ?_)
                      · have hm := i_t b68 hm
                        refine lv_iconst (v := 1) hx hb dX12_sees_143 (by decide) ?_
                        have hq := Option.some.inj hm
                        subst hq; subst hQ
                        exact k_iret hx hb hr hlocks hP hD hS rfl trivial dX12_sees_144
                      · have hm := i_f b68 hm
                        refine lv_iconst (v := 0) hx hb dX12_sees_139 (by decide) ?_
                        refine lv_goto (tgt := 144) hx hb dX12_sees_140 (by decide) ?_
                        have hq := Option.some.inj hm
                        subst hq; subst hQ
                        exact k_iret hx hb hr hlocks hP hD hS rfl trivial dX12_sees_144
                  · have hm := i_t b61 hm
                    refine lv_aload_n hx hb dX12_sees_97 rfl (lv_at hl 0 rfl) ?_
                    refine lv_iload_n hx hb dX12_sees_98 rfl (lv_at hl 1 rfl) ?_
                    refine lv_iload_n hx hb dX12_sees_99 rfl (lv_at hl 3 rfl) ?_
                    refine lv_iload hx hb dX12_sees_100 (lv_at hl 4 rfl) ?_
                    obtain ⟨r69, hc_r69, hm⟩ := bs hm
                    refine k_calli (va_runV (As := [.int x1, .int x3, .int x4]) (rest := []) ⟨hx, hb, hml, hown, hts⟩ (c_X12_passesFlip l G cs q H.size v_told v_tell v_sums v_kindOf v_modOf v_bitsOf v_turnOf v_polyOf v_beginOf v_finishOf v_isLow v_weightsOf v_weight v_cell v_size v_row v_keptSize v_keptBefore v_keptAfter r60.1 r60.2 v_turned v_turnedMany v_syndromes v_lightest v_freeMany v_freePlace v_freeSyndrome v_ways v_waysKept v_trace v_comesA v_comesB   x1 x3 x4 n r69 hc_r69) (cwV 3 hts gX12_sees_X12_passesFlip rfl rfl rfl ⟨rfl, hd_X12_passesFlip⟩ ⟨Nat.le_of_ble_eq_true rfl, Nat.le_of_ble_eq_true rfl⟩) ⟨pre_blind, va_recv hK.1 hP (ci := 10) (q0 := 0) rfl rfl, pre_w hK RO.nil hP hD (va_all hD hS hA)⟩ rfl rfl hl.1 rfl (lv_room (Nat.le_of_ble_eq_true rfl)) dX12_sees_102 ⟨Nat.zero_le _, Nat.zero_le _⟩) hS (va_all hD hS hA) (fun hE70 H locs hP hD hS => ?_)
                    have hP : va_P G vwCl (ww_M q cs v_told v_tell v_sums v_kindOf v_modOf v_bitsOf v_turnOf v_polyOf v_beginOf v_finishOf v_isLow v_weightsOf v_weight v_cell v_size v_row r69.2.1 r69.2.2.1 r69.2.2.2.1 r60.1 r60.2 r69.2.2.2.2.1 r69.2.2.2.2.2.1 v_syndromes v_lightest v_freeMany v_freePlace v_freeSyndrome v_ways v_waysKept v_trace r69.2.2.2.2.2.2.1 r69.2.2.2.2.2.2.2) H := hP
                    have hD : va_D A (ww_M q cs v_told v_tell v_sums v_kindOf v_modOf v_bitsOf v_turnOf v_polyOf v_beginOf v_finishOf v_isLow v_weightsOf v_weight v_cell v_size v_row r69.2.1 r69.2.2.1 r69.2.2.2.1 r60.1 r60.2 r69.2.2.2.2.1 r69.2.2.2.2.2.1 v_syndromes v_lightest v_freeMany v_freePlace v_freeSyndrome v_ways v_waysKept v_trace r69.2.2.2.2.2.2.1 r69.2.2.2.2.2.2.2) := hD
                    refine lv_goto (tgt := 132) hx hb dX12_sees_105 (by decide) ?_
                    refine lv_istore (lv' := [(5, .int r69.1), (0, .ref (q 0)), (1, .int x1), (2, .int x2), (3, .int x3), (4, .int x4)]) hx hb dX12_sees_132 hl (by decide) rfl (fun ls hl => ?_)
                    refine lv_iload hx hb dX12_sees_134 (lv_at hl 0 rfl) ?_
                    refine lv_if_eq (tgt := 143) hx hb dX12_sees_136 (by decide) (fun b71 => ?_) (fun b71 => ?_)
                    · have hm := i_t b71 hm
                      refine lv_iconst (v := 1) hx hb dX12_sees_143 (by decide) ?_
                      have hq := Option.some.inj hm
                      subst hq; subst hQ
                      exact k_iret hx hb hr hlocks hP hD hS rfl trivial dX12_sees_144
                    · have hm := i_f b71 hm
                      refine lv_iconst (v := 0) hx hb dX12_sees_139 (by decide) ?_
                      refine lv_goto (tgt := 144) hx hb dX12_sees_140 (by decide) ?_
                      have hq := Option.some.inj hm
                      subst hq; subst hQ
                      exact k_iret hx hb hr hlocks hP hD hS rfl trivial dX12_sees_144
                · have hm := i_t b59 hm
                  refine lv_bipush (v := (-3)) hx hb dX12_sees_83 (by decide) ?_
                  have hq := Option.some.inj hm
                  subst hq; subst hQ
                  exact k_iret hx hb hr hlocks hP hD hS rfl trivial dX12_sees_85
    · have hm := i_t b4 hm
      refine lv_bipush (v := (-4)) hx hb dX12_sees_22 (by decide) ?_
      have hq := Option.some.inj hm
      subst hq; subst hQ
      exact k_iret hx hb hr hlocks hP hD hS rfl trivial dX12_sees_24
  · have hm := i_t b2 hm
    refine lv_bipush (v := (-2)) hx hb dX12_sees_8 (by decide) ?_
    have hq := Option.some.inj hm
    subst hq; subst hQ
    exact k_iret hx hb hr hlocks hP hD hS rfl trivial dX12_sees_10

theorem hd_X12_passes : yX12_passes.cls ≠ "java/lang/invoke/MethodHandle" ∧ yX12_passes.cls ≠ "java/lang/invoke/VarHandle" ∧ (parseMethodDescriptor yX12_passes.desc).map (fun d => d.parameters.length) = some 2 := by decide +kernel

def M_X12_passes (x1 : Int32) (x2 : Int32) (v_keptSize : Int32) (v_keptBefore : (Nat → Int32)) (v_keptAfter : (Nat → Int32)) : Option Int32 :=
  if (M_X12_in x1.toInt64 (0 : Int64) ((v_keptSize - 1).toInt64)) = 0 then (some (-2)) else (if x2 = 0 then (if x1 < 0 ∨ 8 ≤ x1.toNatClampNeg then none else some (v_keptBefore x1.toNatClampNeg)) else (if x1 < 0 ∨ 8 ≤ x1.toNatClampNeg then none else some (v_keptAfter x1.toNatClampNeg)))

abbrev rmX12_passes : Room := { frames := 1, cells := 0, slots := 0, locals := 25 }
set_option maxHeartbeats 4000000 in
set_option maxRecDepth 100000 in
theorem c_X12_passes (l : Launch) (G : va_G) (cs : CS) (q : Nat → Nat) (sz : Nat) (v_told : Int32) (v_tell : (Nat → Int32)) (v_sums : Int32) (v_kindOf : (Nat → Int32)) (v_modOf : (Nat → Int32)) (v_bitsOf : (Nat → Int32)) (v_turnOf : (Nat → Int32)) (v_polyOf : (Nat → Int64)) (v_beginOf : (Nat → Int64)) (v_finishOf : (Nat → Int64)) (v_isLow : (Nat → Int32)) (v_weightsOf : (Nat → Int32)) (v_weight : (Nat → Int32)) (v_cell : (Nat → Int32)) (v_size : Int32) (v_row : (Nat → Int32)) (v_keptSize : Int32) (v_keptBefore : (Nat → Int32)) (v_keptAfter : (Nat → Int32)) (v_placeA : (Nat → Int64)) (v_placeB : (Nat → Int64)) (v_turned : (Nat → Int32)) (v_turnedMany : Int32) (v_syndromes : (Nat → Int64)) (v_lightest : (Nat → Int32)) (v_freeMany : Int32) (v_freePlace : (Nat → Int32)) (v_freeSyndrome : (Nat → Int64)) (v_ways : (Nat → Int32)) (v_waysKept : Int32) (v_trace : (Nat → Int32)) (v_comesA : Int64) (v_comesB : Int64)   (x1 : Int32) (x2 : Int32) (res : Int32) (hm : M_X12_passes x1 x2 v_keptSize v_keptBefore v_keptAfter = some res) : Met l yX12_passes wsX12_passes rmX12_passes (va_Pc [.ref (q 0), .int x1, .int x2] (PreW G cs sz (ww_M q cs v_told v_tell v_sums v_kindOf v_modOf v_bitsOf v_turnOf v_polyOf v_beginOf v_finishOf v_isLow v_weightsOf v_weight v_cell v_size v_row v_keptSize v_keptBefore v_keptAfter v_placeA v_placeB v_turned v_turnedMany v_syndromes v_lightest v_freeMany v_freePlace v_freeSyndrome v_ways v_waysKept v_trace v_comesA v_comesB) RN)) (QI G res True (ww_M q cs v_told v_tell v_sums v_kindOf v_modOf v_bitsOf v_turnOf v_polyOf v_beginOf v_finishOf v_isLow v_weightsOf v_weight v_cell v_size v_row v_keptSize v_keptBefore v_keptAfter v_placeA v_placeB v_turned v_turnedMany v_syndromes v_lightest v_freeMany v_freePlace v_freeSyndrome v_ways v_waysKept v_trace v_comesA v_comesB) (va_A (ww_M q cs v_told v_tell v_sums v_kindOf v_modOf v_bitsOf v_turnOf v_polyOf v_beginOf v_finishOf v_isLow v_weightsOf v_weight v_cell v_size v_row v_keptSize v_keptBefore v_keptAfter v_placeA v_placeB v_turned v_turnedMany v_syndromes v_lightest v_freeMany v_freePlace v_freeSyndrome v_ways v_waysKept v_trace v_comesA v_comesB) sz)) 0 0 (va_A (ww_M q cs v_told v_tell v_sums v_kindOf v_modOf v_bitsOf v_turnOf v_polyOf v_beginOf v_finishOf v_isLow v_weightsOf v_weight v_cell v_size v_row v_keptSize v_keptBefore v_keptAfter v_placeA v_placeB v_turned v_turnedMany v_syndromes v_lightest v_freeMany v_freePlace v_freeSyndrome v_ways v_waysKept v_trace v_comesA v_comesB) sz) := by
  refine k_enter (Qf := fun A => QI G res True (ww_M q cs v_told v_tell v_sums v_kindOf v_modOf v_bitsOf v_turnOf v_polyOf v_beginOf v_finishOf v_isLow v_weightsOf v_weight v_cell v_size v_row v_keptSize v_keptBefore v_keptAfter v_placeA v_placeB v_turned v_turnedMany v_syndromes v_lightest v_freeMany v_freePlace v_freeSyndrome v_ways v_waysKept v_trace v_comesA v_comesB) A) (cc := cX12_passes) (maxL := 3) (ret := (some .int)) (plainFor_of_name (by decide)) rfl (Nat.le_of_ble_eq_true rfl) ?_
  intro p e s m args below meth c A Q ls H locs hx hb hr hml hown hts hlocks hname hK hA hRo hP hD hS hQ hl
  have hl : lv_has ls 3 [(0, .ref (q 0)), (1, .int x1), (2, .int x2)] := hl
  have wd1 := hts (.fieldLink RX12 190 "SumSmithModel" "keptSize" "I") (List.mem_of_getElem? (i := 1) rfl)
  have wd3 := hts (.fieldLink RX12 51 "SumSmithModel" "keptBefore" "[I") (List.mem_of_getElem? (i := 3) rfl)
  have wd2 := hts (.fieldLink RX12 54 "SumSmithModel" "keptAfter" "[I") (List.mem_of_getElem? (i := 2) rfl)
  have hinX12 : ∀ w ∈ wsX120, w ∈ wsX12_passes := fun w h => List.mem_cons_of_mem _ (List.mem_append_right _ h)
  unfold M_X12_passes at hm
  refine lv_iload_n hx hb dX12_passes_0 rfl (lv_at hl 1 rfl) ?_
  refine lv_i2l (v := x1.toInt64) hx hb dX12_passes_1 rfl ?_
  refine lv_lconst (v := 0) hx hb dX12_passes_2 (by decide) ?_
  refine lv_aload_n hx hb dX12_passes_3 rfl (lv_at hl 0 rfl) ?_
  refine va_get (D := G) (ci := 10) (v := .int v_keptSize) (C := RX12) (T := TX12) (N := 33) hx hb hts hinX12 hown hK.1 hP 0 rfl rfl 16 (by decide) wd1 (fun _ h9 => h9) rfl dX12_passes_4 ?_
  refine lv_iconst (v := 1) hx hb dX12_passes_7 (by decide) ?_
  refine lv_isub hx hb dX12_passes_8 ?_
  refine lv_i2l (v := (v_keptSize - 1).toInt64) hx hb dX12_passes_9 rfl ?_
  refine k_calli0 (va_runS (As := [.long x1.toInt64, .long 0, .long ((v_keptSize - 1).toInt64)]) (rest := []) ⟨hx, hb, hml, hown, hts⟩ (c_X12_in l G cs H.size    x1.toInt64 (0 : Int64) ((v_keptSize - 1).toInt64) _ rfl) (va_cwS 3 hts gX12_passes_X12_in rfl rfl rfl hd_X12_in ⟨Nat.le_of_ble_eq_true rfl, Nat.le_of_ble_eq_true rfl⟩) ⟨pre_blind, pre_w hK RO.nil P0 D0 (va_new0 hS hA)⟩ rfl rfl hl.1 rfl (lv_room (Nat.le_of_ble_eq_true rfl)) dX12_passes_10 ⟨Nat.zero_le _, Nat.zero_le _⟩) hP hS hA (fun hE1 H locs hP hS => ?_)
  refine lv_if_ne (tgt := 21) hx hb dX12_passes_13 (by decide) (fun b2 => ?_) (fun b2 => ?_)
  · have hm := i_f b2 hm
    refine lv_iload_n hx hb dX12_passes_21 rfl (lv_at hl 2 rfl) ?_
    refine lv_if_eq (tgt := 34) hx hb dX12_passes_22 (by decide) (fun b3 => ?_) (fun b3 => ?_)
    · have hm := i_t b3 hm
      refine lv_aload_n hx hb dX12_passes_34 rfl (lv_at hl 0 rfl) ?_
      refine va_get (D := G) (ci := 10) (v := .ref (q 14)) (C := RX12) (T := TX12) (N := 33) hx hb hts hinX12 hown hK.1 hP 0 rfl rfl 17 (by decide) wd3 (fun _ h9 => h9) rfl dX12_passes_35 ?_
      refine lv_iload_n hx hb dX12_passes_38 rfl (lv_at hl 1 rfl) ?_
      obtain ⟨h4, hm⟩ := g_in hm
      refine va_iald hx hb hK.1 hP 14 0 rfl rfl h4 dX12_passes_39 ?_
      have hq := Option.some.inj hm
      subst hq; subst hQ
      exact k_iret hx hb hr hlocks hP hD hS rfl trivial dX12_passes_40
    · have hm := i_f b3 hm
      refine lv_aload_n hx hb dX12_passes_25 rfl (lv_at hl 0 rfl) ?_
      refine va_get (D := G) (ci := 10) (v := .ref (q 15)) (C := RX12) (T := TX12) (N := 33) hx hb hts hinX12 hown hK.1 hP 0 rfl rfl 18 (by decide) wd2 (fun _ h9 => h9) rfl dX12_passes_26 ?_
      refine lv_iload_n hx hb dX12_passes_29 rfl (lv_at hl 1 rfl) ?_
      obtain ⟨h5, hm⟩ := g_in hm
      refine va_iald hx hb hK.1 hP 15 0 rfl rfl h5 dX12_passes_30 ?_
      refine lv_goto (tgt := 40) hx hb dX12_passes_31 (by decide) ?_
      have hq := Option.some.inj hm
      subst hq; subst hQ
      exact k_iret hx hb hr hlocks hP hD hS rfl trivial dX12_passes_40
  · have hm := i_t b2 hm
    refine lv_bipush (v := (-2)) hx hb dX12_passes_16 (by decide) ?_
    refine lv_goto (tgt := 40) hx hb dX12_passes_18 (by decide) ?_
    have hq := Option.some.inj hm
    subst hq; subst hQ
    exact k_iret hx hb hr hlocks hP hD hS rfl trivial dX12_passes_40

theorem hd_X12_cellOf : yX12_cellOf.cls ≠ "java/lang/invoke/MethodHandle" ∧ yX12_cellOf.cls ≠ "java/lang/invoke/VarHandle" ∧ (parseMethodDescriptor yX12_cellOf.desc).map (fun d => d.parameters.length) = some 3 := by decide +kernel

def M_X12_cellOf (x1 : Int32) (x2 : Int32) (x3 : Int32) (v_modOf : (Nat → Int32)) (v_cell : (Nat → Int32)) : Option Int32 :=
  if x1 < 0 ∨ 16 ≤ x1.toNatClampNeg then none else if (((100 * x1) + (x2 * (v_modOf x1.toNatClampNeg))) + x3) < 0 ∨ 1600 ≤ (((100 * x1) + (x2 * (v_modOf x1.toNatClampNeg))) + x3).toNatClampNeg then none else some (v_cell (((100 * x1) + (x2 * (v_modOf x1.toNatClampNeg))) + x3).toNatClampNeg)

abbrev rmX12_cellOf : Room := { frames := 0, cells := 0, slots := 0, locals := 0 }
set_option maxHeartbeats 4000000 in
set_option maxRecDepth 100000 in
theorem c_X12_cellOf (l : Launch) (G : va_G) (cs : CS) (q : Nat → Nat) (sz : Nat) (v_told : Int32) (v_tell : (Nat → Int32)) (v_sums : Int32) (v_kindOf : (Nat → Int32)) (v_modOf : (Nat → Int32)) (v_bitsOf : (Nat → Int32)) (v_turnOf : (Nat → Int32)) (v_polyOf : (Nat → Int64)) (v_beginOf : (Nat → Int64)) (v_finishOf : (Nat → Int64)) (v_isLow : (Nat → Int32)) (v_weightsOf : (Nat → Int32)) (v_weight : (Nat → Int32)) (v_cell : (Nat → Int32)) (v_size : Int32) (v_row : (Nat → Int32)) (v_keptSize : Int32) (v_keptBefore : (Nat → Int32)) (v_keptAfter : (Nat → Int32)) (v_placeA : (Nat → Int64)) (v_placeB : (Nat → Int64)) (v_turned : (Nat → Int32)) (v_turnedMany : Int32) (v_syndromes : (Nat → Int64)) (v_lightest : (Nat → Int32)) (v_freeMany : Int32) (v_freePlace : (Nat → Int32)) (v_freeSyndrome : (Nat → Int64)) (v_ways : (Nat → Int32)) (v_waysKept : Int32) (v_trace : (Nat → Int32)) (v_comesA : Int64) (v_comesB : Int64)   (x1 : Int32) (x2 : Int32) (x3 : Int32) (res : Int32) (hm : M_X12_cellOf x1 x2 x3 v_modOf v_cell = some res) : Met l yX12_cellOf wsX12_cellOf rmX12_cellOf (va_Pc [.ref (q 0), .int x1, .int x2, .int x3] (PreW G cs sz (ww_M q cs v_told v_tell v_sums v_kindOf v_modOf v_bitsOf v_turnOf v_polyOf v_beginOf v_finishOf v_isLow v_weightsOf v_weight v_cell v_size v_row v_keptSize v_keptBefore v_keptAfter v_placeA v_placeB v_turned v_turnedMany v_syndromes v_lightest v_freeMany v_freePlace v_freeSyndrome v_ways v_waysKept v_trace v_comesA v_comesB) RN)) (QI G res True (ww_M q cs v_told v_tell v_sums v_kindOf v_modOf v_bitsOf v_turnOf v_polyOf v_beginOf v_finishOf v_isLow v_weightsOf v_weight v_cell v_size v_row v_keptSize v_keptBefore v_keptAfter v_placeA v_placeB v_turned v_turnedMany v_syndromes v_lightest v_freeMany v_freePlace v_freeSyndrome v_ways v_waysKept v_trace v_comesA v_comesB) (va_A (ww_M q cs v_told v_tell v_sums v_kindOf v_modOf v_bitsOf v_turnOf v_polyOf v_beginOf v_finishOf v_isLow v_weightsOf v_weight v_cell v_size v_row v_keptSize v_keptBefore v_keptAfter v_placeA v_placeB v_turned v_turnedMany v_syndromes v_lightest v_freeMany v_freePlace v_freeSyndrome v_ways v_waysKept v_trace v_comesA v_comesB) sz)) 0 0 (va_A (ww_M q cs v_told v_tell v_sums v_kindOf v_modOf v_bitsOf v_turnOf v_polyOf v_beginOf v_finishOf v_isLow v_weightsOf v_weight v_cell v_size v_row v_keptSize v_keptBefore v_keptAfter v_placeA v_placeB v_turned v_turnedMany v_syndromes v_lightest v_freeMany v_freePlace v_freeSyndrome v_ways v_waysKept v_trace v_comesA v_comesB) sz) := by
  refine k_enter (Qf := fun A => QI G res True (ww_M q cs v_told v_tell v_sums v_kindOf v_modOf v_bitsOf v_turnOf v_polyOf v_beginOf v_finishOf v_isLow v_weightsOf v_weight v_cell v_size v_row v_keptSize v_keptBefore v_keptAfter v_placeA v_placeB v_turned v_turnedMany v_syndromes v_lightest v_freeMany v_freePlace v_freeSyndrome v_ways v_waysKept v_trace v_comesA v_comesB) A) (cc := cX12_cellOf) (maxL := 4) (ret := (some .int)) (plainFor_of_name (by decide)) rfl (Nat.le_of_ble_eq_true rfl) ?_
  intro p e s m args below meth c A Q ls H locs hx hb hr hml hown hts hlocks hname hK hA hRo hP hD hS hQ hl
  have hl : lv_has ls 4 [(0, .ref (q 0)), (1, .int x1), (2, .int x2), (3, .int x3)] := hl
  have wd1 := hts (.fieldLink RX12 45 "SumSmithModel" "cell" "[I") (List.mem_of_getElem? (i := 1) rfl)
  have wd2 := hts (.fieldLink RX12 16 "SumSmithModel" "modOf" "[I") (List.mem_of_getElem? (i := 2) rfl)
  have hinX12 : ∀ w ∈ wsX120, w ∈ wsX12_cellOf := fun w h => List.mem_cons_of_mem _ (List.mem_append_right _ h)
  unfold M_X12_cellOf at hm
  refine lv_aload_n hx hb dX12_cellOf_0 rfl (lv_at hl 0 rfl) ?_
  refine va_get (D := G) (ci := 10) (v := .ref (q 12)) (C := RX12) (T := TX12) (N := 33) hx hb hts hinX12 hown hK.1 hP 0 rfl rfl 13 (by decide) wd1 (fun _ h9 => h9) rfl dX12_cellOf_1 ?_
  refine lv_bipush (v := 100) hx hb dX12_cellOf_4 (by decide) ?_
  refine lv_iload_n hx hb dX12_cellOf_6 rfl (lv_at hl 1 rfl) ?_
  refine lv_imul hx hb dX12_cellOf_7 ?_
  refine lv_iload_n hx hb dX12_cellOf_8 rfl (lv_at hl 2 rfl) ?_
  refine lv_aload_n hx hb dX12_cellOf_9 rfl (lv_at hl 0 rfl) ?_
  refine va_get (D := G) (ci := 10) (v := .ref (q 3)) (C := RX12) (T := TX12) (N := 33) hx hb hts hinX12 hown hK.1 hP 0 rfl rfl 4 (by decide) wd2 (fun _ h9 => h9) rfl dX12_cellOf_10 ?_
  refine lv_iload_n hx hb dX12_cellOf_13 rfl (lv_at hl 1 rfl) ?_
  obtain ⟨h1, hm⟩ := g_in hm
  refine va_iald hx hb hK.1 hP 3 0 rfl rfl h1 dX12_cellOf_14 ?_
  refine lv_imul hx hb dX12_cellOf_15 ?_
  refine lv_iadd hx hb dX12_cellOf_16 ?_
  refine lv_iload_n hx hb dX12_cellOf_17 rfl (lv_at hl 3 rfl) ?_
  refine lv_iadd hx hb dX12_cellOf_18 ?_
  obtain ⟨h2, hm⟩ := g_in hm
  refine va_iald hx hb hK.1 hP 12 0 rfl rfl h2 dX12_cellOf_19 ?_
  have hq := Option.some.inj hm
  subst hq; subst hQ
  exact k_iret hx hb hr hlocks hP hD hS rfl trivial dX12_cellOf_20

theorem hd_X12_signs : yX12_signs.cls ≠ "java/lang/invoke/MethodHandle" ∧ yX12_signs.cls ≠ "java/lang/invoke/VarHandle" ∧ (parseMethodDescriptor yX12_signs.desc).map (fun d => d.parameters.length) = some 2 := by decide +kernel

def M_X12_signs_b68 (n : Nat) (x1 : Int32) (x2 : Int32) (x3 : Int32) (x4 : Int32) (x5 : Int32) (v_modOf : (Nat → Int32)) (v_cell : (Nat → Int32)) (x6 : Int32) : Option (Int32 ⊕ (Unit ⊕ Int32)) :=
  if x3 ≤ x6 then (some (.inr (.inl ()))) else (if x2 = 0 then ((M_X12_cellOf x1 x4 x5 v_modOf v_cell).bind fun r35 => (M_X12_cellOf x1 x4 x6 v_modOf v_cell).bind fun r37 => if r35 = r37 then (if x5 = x6 then (some (.inl (x6 + 1))) else (some (.inr (.inr 0)))) else ((M_X12_cellOf x1 x5 x4 v_modOf v_cell).bind fun r41 => (M_X12_cellOf x1 x6 x4 v_modOf v_cell).bind fun r43 => if r41 = r43 then (if x5 = x6 then (some (.inl (x6 + 1))) else (some (.inr (.inr 0)))) else (if x5 = x6 then (some (.inl (x6 + 1))) else (some (.inl (x6 + 1)))))) else (if x2 = 1 then ((M_X12_cellOf x1 x4 x5 v_modOf v_cell).bind fun r24 => (M_X12_cellOf x1 r24 x6 v_modOf v_cell).bind fun r26 => (M_X12_cellOf x1 x4 x6 v_modOf v_cell).bind fun r28 => (M_X12_cellOf x1 r28 x5 v_modOf v_cell).bind fun r30 => if r26 = r30 then (if x5 = x6 then (some (.inl (x6 + 1))) else (some (.inr (.inr 0)))) else (if x5 = x6 then (some (.inl (x6 + 1))) else (some (.inl (x6 + 1))))) else ((M_X12_cellOf x1 x4 x5 v_modOf v_cell).bind fun r13 => (M_X12_cellOf x1 r13 x5 v_modOf v_cell).bind fun r15 => (M_X12_cellOf x1 x4 x6 v_modOf v_cell).bind fun r17 => (M_X12_cellOf x1 r17 x6 v_modOf v_cell).bind fun r19 => if r15 = r19 then (if x5 = x6 then (some (.inl (x6 + 1))) else (some (.inr (.inr 0)))) else (if x5 = x6 then (some (.inl (x6 + 1))) else (some (.inl (x6 + 1)))))))

def M_X12_signs_b59 (n : Nat) (x1 : Int32) (x2 : Int32) (x3 : Int32) (x4 : Int32) (v_modOf : (Nat → Int32)) (v_cell : (Nat → Int32)) (x5 : Int32) : Option (Int32 ⊕ (Unit ⊕ Int32)) :=
  if x3 ≤ x5 then (some (.inr (.inl ()))) else ((lp (fun x : Int32 => M_X12_signs_b68 n x1 x2 x3 x4 x5 v_modOf v_cell x) n (0 : Int32)).bind (Sum.elim (fun o48 => some (.inl (x5 + 1))) (fun r => some (.inr (.inr r)))))

def M_X12_signs_b50 (n : Nat) (x1 : Int32) (x2 : Int32) (x3 : Int32) (v_modOf : (Nat → Int32)) (v_cell : (Nat → Int32)) (x4 : Int32) : Option (Int32 ⊕ (Unit ⊕ Int32)) :=
  if x3 ≤ x4 then (some (.inr (.inl ()))) else ((lp (fun x : Int32 => M_X12_signs_b59 n x1 x2 x3 x4 v_modOf v_cell x) n (0 : Int32)).bind (Sum.elim (fun o49 => some (.inl (x4 + 1))) (fun r => some (.inr (.inr r)))))

def M_X12_signs (n : Nat) (x1 : Int32) (x2 : Int32) (v_sums : Int32) (v_kindOf : (Nat → Int32)) (v_modOf : (Nat → Int32)) (v_cell : (Nat → Int32)) : Option Int32 :=
  if (M_X12_isSum x1 v_sums) = 0 then (some (-2)) else (if x1 < 0 ∨ 16 ≤ x1.toNatClampNeg then none else if (v_kindOf x1.toNatClampNeg) = 6 then (if (M_X12_in x2.toInt64 (0 : Int64) (2 : Int64)) = 0 then (some (-3)) else (if x1 < 0 ∨ 16 ≤ x1.toNatClampNeg then none else (lp (fun x : Int32 => M_X12_signs_b50 n x1 x2 (v_modOf x1.toNatClampNeg) v_modOf v_cell x) n (0 : Int32)).bind (Sum.elim (fun o50 => some 1) (fun r => some r)))) else (some (-4)))

abbrev rmX12_signs : Room := { frames := 2, cells := 0, slots := 0, locals := 46 }
set_option maxHeartbeats 4000000 in
set_option maxRecDepth 100000 in
theorem c_X12_signs (l : Launch) (G : va_G) (cs : CS) (q : Nat → Nat) (sz : Nat) (v_told : Int32) (v_tell : (Nat → Int32)) (v_sums : Int32) (v_kindOf : (Nat → Int32)) (v_modOf : (Nat → Int32)) (v_bitsOf : (Nat → Int32)) (v_turnOf : (Nat → Int32)) (v_polyOf : (Nat → Int64)) (v_beginOf : (Nat → Int64)) (v_finishOf : (Nat → Int64)) (v_isLow : (Nat → Int32)) (v_weightsOf : (Nat → Int32)) (v_weight : (Nat → Int32)) (v_cell : (Nat → Int32)) (v_size : Int32) (v_row : (Nat → Int32)) (v_keptSize : Int32) (v_keptBefore : (Nat → Int32)) (v_keptAfter : (Nat → Int32)) (v_placeA : (Nat → Int64)) (v_placeB : (Nat → Int64)) (v_turned : (Nat → Int32)) (v_turnedMany : Int32) (v_syndromes : (Nat → Int64)) (v_lightest : (Nat → Int32)) (v_freeMany : Int32) (v_freePlace : (Nat → Int32)) (v_freeSyndrome : (Nat → Int64)) (v_ways : (Nat → Int32)) (v_waysKept : Int32) (v_trace : (Nat → Int32)) (v_comesA : Int64) (v_comesB : Int64)   (x1 : Int32) (x2 : Int32) (n : Nat) (res : Int32) (hm : M_X12_signs n x1 x2 v_sums v_kindOf v_modOf v_cell = some res) : Met l yX12_signs wsX12_signs rmX12_signs (va_Pc [.ref (q 0), .int x1, .int x2] (PreW G cs sz (ww_M q cs v_told v_tell v_sums v_kindOf v_modOf v_bitsOf v_turnOf v_polyOf v_beginOf v_finishOf v_isLow v_weightsOf v_weight v_cell v_size v_row v_keptSize v_keptBefore v_keptAfter v_placeA v_placeB v_turned v_turnedMany v_syndromes v_lightest v_freeMany v_freePlace v_freeSyndrome v_ways v_waysKept v_trace v_comesA v_comesB) RN)) (QI G res True (ww_M q cs v_told v_tell v_sums v_kindOf v_modOf v_bitsOf v_turnOf v_polyOf v_beginOf v_finishOf v_isLow v_weightsOf v_weight v_cell v_size v_row v_keptSize v_keptBefore v_keptAfter v_placeA v_placeB v_turned v_turnedMany v_syndromes v_lightest v_freeMany v_freePlace v_freeSyndrome v_ways v_waysKept v_trace v_comesA v_comesB) (va_A (ww_M q cs v_told v_tell v_sums v_kindOf v_modOf v_bitsOf v_turnOf v_polyOf v_beginOf v_finishOf v_isLow v_weightsOf v_weight v_cell v_size v_row v_keptSize v_keptBefore v_keptAfter v_placeA v_placeB v_turned v_turnedMany v_syndromes v_lightest v_freeMany v_freePlace v_freeSyndrome v_ways v_waysKept v_trace v_comesA v_comesB) sz)) 0 0 (va_A (ww_M q cs v_told v_tell v_sums v_kindOf v_modOf v_bitsOf v_turnOf v_polyOf v_beginOf v_finishOf v_isLow v_weightsOf v_weight v_cell v_size v_row v_keptSize v_keptBefore v_keptAfter v_placeA v_placeB v_turned v_turnedMany v_syndromes v_lightest v_freeMany v_freePlace v_freeSyndrome v_ways v_waysKept v_trace v_comesA v_comesB) sz) := by
  refine k_enter (Qf := fun A => QI G res True (ww_M q cs v_told v_tell v_sums v_kindOf v_modOf v_bitsOf v_turnOf v_polyOf v_beginOf v_finishOf v_isLow v_weightsOf v_weight v_cell v_size v_row v_keptSize v_keptBefore v_keptAfter v_placeA v_placeB v_turned v_turnedMany v_syndromes v_lightest v_freeMany v_freePlace v_freeSyndrome v_ways v_waysKept v_trace v_comesA v_comesB) A) (cc := cX12_signs) (maxL := 8) (ret := (some .int)) (plainFor_of_name (by decide)) rfl (Nat.le_of_ble_eq_true rfl) ?_
  intro p e s m args below meth c A Q ls H locs hx hb hr hml hown hts hlocks hname hK hA hRo hP hD hS hQ hl
  have hl : lv_has ls 8 [(0, .ref (q 0)), (1, .int x1), (2, .int x2)] := hl
  have wd1 := hts (.fieldLink RX12 13 "SumSmithModel" "kindOf" "[I") (List.mem_of_getElem? (i := 1) rfl)
  have wd2 := hts (.constantLong RX12 97 (2)) (List.mem_of_getElem? (i := 2) rfl)
  have wd3 := hts (.fieldLink RX12 16 "SumSmithModel" "modOf" "[I") (List.mem_of_getElem? (i := 3) rfl)
  have hinX12 : ∀ w ∈ wsX120, w ∈ wsX12_signs := fun w h => List.mem_cons_of_mem _ (List.mem_append_right _ h)
  have L68 : ∀ (x1 : Int32) (x2 : Int32) (x3 : Int32) (x4 : Int32) (x5 : Int32) (x6 : Int32) (out : (Unit ⊕ Int32)), lp (fun x : Int32 => M_X12_signs_b68 n x1 x2 x3 x4 x5 v_modOf v_cell x) n x6 = some out → (∀ r, out = .inr r → r = res) → (∀ (o : Unit), out = .inl o → ∀ (H : Heap) (locs : List Loc), va_P G vwCl (ww_M q cs v_told v_tell v_sums v_kindOf v_modOf v_bitsOf v_turnOf v_polyOf v_beginOf v_finishOf v_isLow v_weightsOf v_weight v_cell v_size v_row v_keptSize v_keptBefore v_keptAfter v_placeA v_placeB v_turned v_turnedMany v_syndromes v_lightest v_freeMany v_freePlace v_freeSyndrome v_ways v_waysKept v_trace v_comesA v_comesB) H → va_D A (ww_M q cs v_told v_tell v_sums v_kindOf v_modOf v_bitsOf v_turnOf v_polyOf v_beginOf v_finishOf v_isLow v_weightsOf v_weight v_cell v_size v_row v_keptSize v_keptBefore v_keptAfter v_placeA v_placeB v_turned v_turnedMany v_syndromes v_lightest v_freeMany v_freePlace v_freeSyndrome v_ways v_waysKept v_trace v_comesA v_comesB) → va_S A s.heap H locs → ∀ (ls : Array Slot), lv_has ls 8 [(0, .ref (q 0)), (1, .int x1), (2, .int x2), (3, .int x3), (4, .int x4), (5, .int x5)] → W p l e rmX12_signs s m args below meth c H locs 0 0 Q (F0 m 242 ls [])) → ∀ (H : Heap) (locs : List Loc), va_P G vwCl (ww_M q cs v_told v_tell v_sums v_kindOf v_modOf v_bitsOf v_turnOf v_polyOf v_beginOf v_finishOf v_isLow v_weightsOf v_weight v_cell v_size v_row v_keptSize v_keptBefore v_keptAfter v_placeA v_placeB v_turned v_turnedMany v_syndromes v_lightest v_freeMany v_freePlace v_freeSyndrome v_ways v_waysKept v_trace v_comesA v_comesB) H → va_D A (ww_M q cs v_told v_tell v_sums v_kindOf v_modOf v_bitsOf v_turnOf v_polyOf v_beginOf v_finishOf v_isLow v_weightsOf v_weight v_cell v_size v_row v_keptSize v_keptBefore v_keptAfter v_placeA v_placeB v_turned v_turnedMany v_syndromes v_lightest v_freeMany v_freePlace v_freeSyndrome v_ways v_waysKept v_trace v_comesA v_comesB) → va_S A s.heap H locs → ∀ (ls : Array Slot), lv_has ls 8 [(0, .ref (q 0)), (1, .int x1), (2, .int x2), (3, .int x3), (4, .int x4), (5, .int x5), (6, .int x6)] → W p l e rmX12_signs s m args below meth c H locs 0 0 Q (F0 m 68 ls []) := by
    intro x1 x2 x3 x4 x5 x6 out hlp hret hX
    refine lp_ind (fun x => ∀ (H : Heap) (locs : List Loc), va_P G vwCl (ww_M q cs v_told v_tell v_sums v_kindOf v_modOf v_bitsOf v_turnOf v_polyOf v_beginOf v_finishOf v_isLow v_weightsOf v_weight v_cell v_size v_row v_keptSize v_keptBefore v_keptAfter v_placeA v_placeB v_turned v_turnedMany v_syndromes v_lightest v_freeMany v_freePlace v_freeSyndrome v_ways v_waysKept v_trace v_comesA v_comesB) H → va_D A (ww_M q cs v_told v_tell v_sums v_kindOf v_modOf v_bitsOf v_turnOf v_polyOf v_beginOf v_finishOf v_isLow v_weightsOf v_weight v_cell v_size v_row v_keptSize v_keptBefore v_keptAfter v_placeA v_placeB v_turned v_turnedMany v_syndromes v_lightest v_freeMany v_freePlace v_freeSyndrome v_ways v_waysKept v_trace v_comesA v_comesB) → va_S A s.heap H locs → ∀ (ls : Array Slot), lv_has ls 8 [(0, .ref (q 0)), (1, .int x1), (2, .int x2), (3, .int x3), (4, .int x4), (5, .int x5), (6, .int x)] → W p l e rmX12_signs s m args below meth c H locs 0 0 Q (F0 m 68 ls [])) ?_ n x6 hlp
    clear hlp hP hD hS hl
    intro x6 ob hm hst H locs hP hD hS ls hl
    have hm : M_X12_signs_b68 n x1 x2 x3 x4 x5 v_modOf v_cell x6 = some ob := hm
    have hl : lv_has ls 8 [(0, .ref (q 0)), (1, .int x1), (2, .int x2), (3, .int x3), (4, .int x4), (5, .int x5), (6, .int x6)] := hl
    have hP : va_P G vwCl (ww_M q cs v_told v_tell v_sums v_kindOf v_modOf v_bitsOf v_turnOf v_polyOf v_beginOf v_finishOf v_isLow v_weightsOf v_weight v_cell v_size v_row v_keptSize v_keptBefore v_keptAfter v_placeA v_placeB v_turned v_turnedMany v_syndromes v_lightest v_freeMany v_freePlace v_freeSyndrome v_ways v_waysKept v_trace v_comesA v_comesB) H := hP
    have hD : va_D A (ww_M q cs v_told v_tell v_sums v_kindOf v_modOf v_bitsOf v_turnOf v_polyOf v_beginOf v_finishOf v_isLow v_weightsOf v_weight v_cell v_size v_row v_keptSize v_keptBefore v_keptAfter v_placeA v_placeB v_turned v_turnedMany v_syndromes v_lightest v_freeMany v_freePlace v_freeSyndrome v_ways v_waysKept v_trace v_comesA v_comesB) := hD
    unfold M_X12_signs_b68 at hm
    refine lv_iload hx hb dX12_signs_68 (lv_at hl 6 rfl) ?_
    refine lv_iload_n hx hb dX12_signs_70 rfl (lv_at hl 3 rfl) ?_
    refine lv_icmp_ge (tgt := 242) hx hb dX12_signs_71 (by decide) (fun b10 => ?_) (fun b10 => ?_)
    · have hm := i_t b10 hm
      exact hX _ (st_exit hm hst) H locs hP hD hS ls (lv_sub hl [0, 1, 2, 3, 4, 5] rfl)
    · have hm := i_f b10 hm
      refine lv_iload_n hx hb dX12_signs_74 rfl (lv_at hl 2 rfl) ?_
      refine lv_if_ne (tgt := 130) hx hb dX12_signs_75 (by decide) (fun b11 => ?_) (fun b11 => ?_)
      · have hm := i_f b11 hm
        refine lv_iload_n hx hb dX12_signs_130 rfl (lv_at hl 2 rfl) ?_
        refine lv_iconst (v := 1) hx hb dX12_signs_131 (by decide) ?_
        refine lv_icmp_ne (tgt := 180) hx hb dX12_signs_132 (by decide) (fun b12 => ?_) (fun b12 => ?_)
        · have hm := i_f b12 hm
          refine lv_aload_n hx hb dX12_signs_180 rfl (lv_at hl 0 rfl) ?_
          refine lv_iload_n hx hb dX12_signs_181 rfl (lv_at hl 1 rfl) ?_
          refine lv_aload_n hx hb dX12_signs_182 rfl (lv_at hl 0 rfl) ?_
          refine lv_iload_n hx hb dX12_signs_183 rfl (lv_at hl 1 rfl) ?_
          refine lv_iload hx hb dX12_signs_184 (lv_at hl 4 rfl) ?_
          refine lv_iload hx hb dX12_signs_186 (lv_at hl 5 rfl) ?_
          obtain ⟨r13, hc_r13, hm⟩ := bs hm
          refine k_calli (va_runV (As := [.int x1, .int x4, .int x5]) (rest := [.int x1, .ref (q 0)]) ⟨hx, hb, hml, hown, hts⟩ (c_X12_cellOf l G cs q H.size v_told v_tell v_sums v_kindOf v_modOf v_bitsOf v_turnOf v_polyOf v_beginOf v_finishOf v_isLow v_weightsOf v_weight v_cell v_size v_row v_keptSize v_keptBefore v_keptAfter v_placeA v_placeB v_turned v_turnedMany v_syndromes v_lightest v_freeMany v_freePlace v_freeSyndrome v_ways v_waysKept v_trace v_comesA v_comesB   x1 x4 x5 r13 hc_r13) (cwV 3 hts gX12_signs_X12_cellOf rfl rfl rfl ⟨rfl, hd_X12_cellOf⟩ ⟨Nat.le_of_ble_eq_true rfl, Nat.le_of_ble_eq_true rfl⟩) ⟨pre_blind, va_recv hK.1 hP (ci := 10) (q0 := 0) rfl rfl, pre_w hK RO.nil hP hD (va_all hD hS hA)⟩ rfl rfl hl.1 rfl (lv_room (Nat.le_of_ble_eq_true rfl)) dX12_signs_188 ⟨Nat.zero_le _, Nat.zero_le _⟩) hS (va_all hD hS hA) (fun hE14 H locs hP hD hS => ?_)
          have hP : va_P G vwCl (ww_M q cs v_told v_tell v_sums v_kindOf v_modOf v_bitsOf v_turnOf v_polyOf v_beginOf v_finishOf v_isLow v_weightsOf v_weight v_cell v_size v_row v_keptSize v_keptBefore v_keptAfter v_placeA v_placeB v_turned v_turnedMany v_syndromes v_lightest v_freeMany v_freePlace v_freeSyndrome v_ways v_waysKept v_trace v_comesA v_comesB) H := hP
          have hD : va_D A (ww_M q cs v_told v_tell v_sums v_kindOf v_modOf v_bitsOf v_turnOf v_polyOf v_beginOf v_finishOf v_isLow v_weightsOf v_weight v_cell v_size v_row v_keptSize v_keptBefore v_keptAfter v_placeA v_placeB v_turned v_turnedMany v_syndromes v_lightest v_freeMany v_freePlace v_freeSyndrome v_ways v_waysKept v_trace v_comesA v_comesB) := hD
          refine lv_iload hx hb dX12_signs_191 (lv_at hl 5 rfl) ?_
          obtain ⟨r15, hc_r15, hm⟩ := bs hm
          refine k_calli (va_runV (As := [.int x1, .int r13, .int x5]) (rest := []) ⟨hx, hb, hml, hown, hts⟩ (c_X12_cellOf l G cs q H.size v_told v_tell v_sums v_kindOf v_modOf v_bitsOf v_turnOf v_polyOf v_beginOf v_finishOf v_isLow v_weightsOf v_weight v_cell v_size v_row v_keptSize v_keptBefore v_keptAfter v_placeA v_placeB v_turned v_turnedMany v_syndromes v_lightest v_freeMany v_freePlace v_freeSyndrome v_ways v_waysKept v_trace v_comesA v_comesB   x1 r13 x5 r15 hc_r15) (cwV 3 hts gX12_signs_X12_cellOf rfl rfl rfl ⟨rfl, hd_X12_cellOf⟩ ⟨Nat.le_of_ble_eq_true rfl, Nat.le_of_ble_eq_true rfl⟩) ⟨pre_blind, va_recv hK.1 hP (ci := 10) (q0 := 0) rfl rfl, pre_w hK RO.nil hP hD (va_all hD hS hA)⟩ rfl rfl hl.1 rfl (lv_room (Nat.le_of_ble_eq_true rfl)) dX12_signs_193 ⟨Nat.zero_le _, Nat.zero_le _⟩) hS (va_all hD hS hA) (fun hE16 H locs hP hD hS => ?_)
          have hP : va_P G vwCl (ww_M q cs v_told v_tell v_sums v_kindOf v_modOf v_bitsOf v_turnOf v_polyOf v_beginOf v_finishOf v_isLow v_weightsOf v_weight v_cell v_size v_row v_keptSize v_keptBefore v_keptAfter v_placeA v_placeB v_turned v_turnedMany v_syndromes v_lightest v_freeMany v_freePlace v_freeSyndrome v_ways v_waysKept v_trace v_comesA v_comesB) H := hP
          have hD : va_D A (ww_M q cs v_told v_tell v_sums v_kindOf v_modOf v_bitsOf v_turnOf v_polyOf v_beginOf v_finishOf v_isLow v_weightsOf v_weight v_cell v_size v_row v_keptSize v_keptBefore v_keptAfter v_placeA v_placeB v_turned v_turnedMany v_syndromes v_lightest v_freeMany v_freePlace v_freeSyndrome v_ways v_waysKept v_trace v_comesA v_comesB) := hD
          refine lv_aload_n hx hb dX12_signs_196 rfl (lv_at hl 0 rfl) ?_
          refine lv_iload_n hx hb dX12_signs_197 rfl (lv_at hl 1 rfl) ?_
          refine lv_aload_n hx hb dX12_signs_198 rfl (lv_at hl 0 rfl) ?_
          refine lv_iload_n hx hb dX12_signs_199 rfl (lv_at hl 1 rfl) ?_
          refine lv_iload hx hb dX12_signs_200 (lv_at hl 4 rfl) ?_
          refine lv_iload hx hb dX12_signs_202 (lv_at hl 6 rfl) ?_
          obtain ⟨r17, hc_r17, hm⟩ := bs hm
          refine k_calli (va_runV (As := [.int x1, .int x4, .int x6]) (rest := [.int x1, .ref (q 0), .int r15]) ⟨hx, hb, hml, hown, hts⟩ (c_X12_cellOf l G cs q H.size v_told v_tell v_sums v_kindOf v_modOf v_bitsOf v_turnOf v_polyOf v_beginOf v_finishOf v_isLow v_weightsOf v_weight v_cell v_size v_row v_keptSize v_keptBefore v_keptAfter v_placeA v_placeB v_turned v_turnedMany v_syndromes v_lightest v_freeMany v_freePlace v_freeSyndrome v_ways v_waysKept v_trace v_comesA v_comesB   x1 x4 x6 r17 hc_r17) (cwV 3 hts gX12_signs_X12_cellOf rfl rfl rfl ⟨rfl, hd_X12_cellOf⟩ ⟨Nat.le_of_ble_eq_true rfl, Nat.le_of_ble_eq_true rfl⟩) ⟨pre_blind, va_recv hK.1 hP (ci := 10) (q0 := 0) rfl rfl, pre_w hK RO.nil hP hD (va_all hD hS hA)⟩ rfl rfl hl.1 rfl (lv_room (Nat.le_of_ble_eq_true rfl)) dX12_signs_204 ⟨Nat.zero_le _, Nat.zero_le _⟩) hS (va_all hD hS hA) (fun hE18 H locs hP hD hS => ?_)
          have hP : va_P G vwCl (ww_M q cs v_told v_tell v_sums v_kindOf v_modOf v_bitsOf v_turnOf v_polyOf v_beginOf v_finishOf v_isLow v_weightsOf v_weight v_cell v_size v_row v_keptSize v_keptBefore v_keptAfter v_placeA v_placeB v_turned v_turnedMany v_syndromes v_lightest v_freeMany v_freePlace v_freeSyndrome v_ways v_waysKept v_trace v_comesA v_comesB) H := hP
          have hD : va_D A (ww_M q cs v_told v_tell v_sums v_kindOf v_modOf v_bitsOf v_turnOf v_polyOf v_beginOf v_finishOf v_isLow v_weightsOf v_weight v_cell v_size v_row v_keptSize v_keptBefore v_keptAfter v_placeA v_placeB v_turned v_turnedMany v_syndromes v_lightest v_freeMany v_freePlace v_freeSyndrome v_ways v_waysKept v_trace v_comesA v_comesB) := hD
          refine lv_iload hx hb dX12_signs_207 (lv_at hl 6 rfl) ?_
          obtain ⟨r19, hc_r19, hm⟩ := bs hm
          refine k_calli (va_runV (As := [.int x1, .int r17, .int x6]) (rest := [.int r15]) ⟨hx, hb, hml, hown, hts⟩ (c_X12_cellOf l G cs q H.size v_told v_tell v_sums v_kindOf v_modOf v_bitsOf v_turnOf v_polyOf v_beginOf v_finishOf v_isLow v_weightsOf v_weight v_cell v_size v_row v_keptSize v_keptBefore v_keptAfter v_placeA v_placeB v_turned v_turnedMany v_syndromes v_lightest v_freeMany v_freePlace v_freeSyndrome v_ways v_waysKept v_trace v_comesA v_comesB   x1 r17 x6 r19 hc_r19) (cwV 3 hts gX12_signs_X12_cellOf rfl rfl rfl ⟨rfl, hd_X12_cellOf⟩ ⟨Nat.le_of_ble_eq_true rfl, Nat.le_of_ble_eq_true rfl⟩) ⟨pre_blind, va_recv hK.1 hP (ci := 10) (q0 := 0) rfl rfl, pre_w hK RO.nil hP hD (va_all hD hS hA)⟩ rfl rfl hl.1 rfl (lv_room (Nat.le_of_ble_eq_true rfl)) dX12_signs_209 ⟨Nat.zero_le _, Nat.zero_le _⟩) hS (va_all hD hS hA) (fun hE20 H locs hP hD hS => ?_)
          have hP : va_P G vwCl (ww_M q cs v_told v_tell v_sums v_kindOf v_modOf v_bitsOf v_turnOf v_polyOf v_beginOf v_finishOf v_isLow v_weightsOf v_weight v_cell v_size v_row v_keptSize v_keptBefore v_keptAfter v_placeA v_placeB v_turned v_turnedMany v_syndromes v_lightest v_freeMany v_freePlace v_freeSyndrome v_ways v_waysKept v_trace v_comesA v_comesB) H := hP
          have hD : va_D A (ww_M q cs v_told v_tell v_sums v_kindOf v_modOf v_bitsOf v_turnOf v_polyOf v_beginOf v_finishOf v_isLow v_weightsOf v_weight v_cell v_size v_row v_keptSize v_keptBefore v_keptAfter v_placeA v_placeB v_turned v_turnedMany v_syndromes v_lightest v_freeMany v_freePlace v_freeSyndrome v_ways v_waysKept v_trace v_comesA v_comesB) := hD
          refine lv_icmp_ne (tgt := 219) hx hb dX12_signs_212 (by decide) (fun b21 => ?_) (fun b21 => ?_)
          · have hm := i_f b21 hm
            refine lv_iconst (v := 0) hx hb dX12_signs_219 (by decide) ?_
            refine lv_istore (lv' := [(7, .int 0), (0, .ref (q 0)), (1, .int x1), (2, .int x2), (3, .int x3), (4, .int x4), (5, .int x5), (6, .int x6)]) hx hb dX12_signs_220 hl (by decide) rfl (fun ls hl => ?_)
            refine lv_iload hx hb dX12_signs_222 (lv_at hl 6 rfl) ?_
            refine lv_iload hx hb dX12_signs_224 (lv_at hl 7 rfl) ?_
            refine lv_icmp_eq (tgt := 236) hx hb dX12_signs_226 (by decide) (fun b22 => ?_) (fun b22 => ?_)
            · have hm := i_t b22 hm
              refine lv_iinc (v := x6 + 1) (lv' := [(6, .int (x6 + 1)), (7, .int 0), (0, .ref (q 0)), (1, .int x1), (2, .int x2), (3, .int x3), (4, .int x4), (5, .int x5)]) hx hb dX12_signs_236 hl (k := 7) rfl rfl (by decide) rfl (fun ls hl => ?_)
              refine lv_goto (tgt := 68) hx hb dX12_signs_239 (by decide) ?_
              exact st_next hm hst H locs hP hD hS ls (lv_sub hl [2, 3, 4, 5, 6, 7, 0] rfl)
            · have hm := i_f b22 hm
              refine lv_iload hx hb dX12_signs_229 (lv_at hl 0 rfl) ?_
              refine lv_if_eq (tgt := 236) hx hb dX12_signs_231 (by decide) (fun b9 => ?_) (fun b9 => absurd (by decide) b9)
              refine lv_iinc (v := x6 + 1) (lv' := [(6, .int (x6 + 1)), (7, .int 0), (0, .ref (q 0)), (1, .int x1), (2, .int x2), (3, .int x3), (4, .int x4), (5, .int x5)]) hx hb dX12_signs_236 hl (k := 7) rfl rfl (by decide) rfl (fun ls hl => ?_)
              refine lv_goto (tgt := 68) hx hb dX12_signs_239 (by decide) ?_
              exact st_next hm hst H locs hP hD hS ls (lv_sub hl [2, 3, 4, 5, 6, 7, 0] rfl)
          · have hm := i_t b21 hm
            refine lv_iconst (v := 1) hx hb dX12_signs_215 (by decide) ?_
            refine lv_goto (tgt := 220) hx hb dX12_signs_216 (by decide) ?_
            refine lv_istore (lv' := [(7, .int 1), (0, .ref (q 0)), (1, .int x1), (2, .int x2), (3, .int x3), (4, .int x4), (5, .int x5), (6, .int x6)]) hx hb dX12_signs_220 hl (by decide) rfl (fun ls hl => ?_)
            refine lv_iload hx hb dX12_signs_222 (lv_at hl 6 rfl) ?_
            refine lv_iload hx hb dX12_signs_224 (lv_at hl 7 rfl) ?_
            refine lv_icmp_eq (tgt := 236) hx hb dX12_signs_226 (by decide) (fun b23 => ?_) (fun b23 => ?_)
            · have hm := i_t b23 hm
              refine lv_iinc (v := x6 + 1) (lv' := [(6, .int (x6 + 1)), (7, .int 1), (0, .ref (q 0)), (1, .int x1), (2, .int x2), (3, .int x3), (4, .int x4), (5, .int x5)]) hx hb dX12_signs_236 hl (k := 7) rfl rfl (by decide) rfl (fun ls hl => ?_)
              refine lv_goto (tgt := 68) hx hb dX12_signs_239 (by decide) ?_
              exact st_next hm hst H locs hP hD hS ls (lv_sub hl [2, 3, 4, 5, 6, 7, 0] rfl)
            · have hm := i_f b23 hm
              refine lv_iload hx hb dX12_signs_229 (lv_at hl 0 rfl) ?_
              refine lv_if_eq (tgt := 236) hx hb dX12_signs_231 (by decide) (fun b9 => absurd b9 (by decide)) (fun b9 => ?_)
              refine lv_iconst (v := 0) hx hb dX12_signs_234 (by decide) ?_
              have hq := hret _ (st_exit hm hst)
              subst hq; subst hQ
              exact k_iret hx hb hr hlocks hP hD hS rfl trivial dX12_signs_235
        · have hm := i_t b12 hm
          refine lv_aload_n hx hb dX12_signs_135 rfl (lv_at hl 0 rfl) ?_
          refine lv_iload_n hx hb dX12_signs_136 rfl (lv_at hl 1 rfl) ?_
          refine lv_aload_n hx hb dX12_signs_137 rfl (lv_at hl 0 rfl) ?_
          refine lv_iload_n hx hb dX12_signs_138 rfl (lv_at hl 1 rfl) ?_
          refine lv_iload hx hb dX12_signs_139 (lv_at hl 4 rfl) ?_
          refine lv_iload hx hb dX12_signs_141 (lv_at hl 5 rfl) ?_
          obtain ⟨r24, hc_r24, hm⟩ := bs hm
          refine k_calli (va_runV (As := [.int x1, .int x4, .int x5]) (rest := [.int x1, .ref (q 0)]) ⟨hx, hb, hml, hown, hts⟩ (c_X12_cellOf l G cs q H.size v_told v_tell v_sums v_kindOf v_modOf v_bitsOf v_turnOf v_polyOf v_beginOf v_finishOf v_isLow v_weightsOf v_weight v_cell v_size v_row v_keptSize v_keptBefore v_keptAfter v_placeA v_placeB v_turned v_turnedMany v_syndromes v_lightest v_freeMany v_freePlace v_freeSyndrome v_ways v_waysKept v_trace v_comesA v_comesB   x1 x4 x5 r24 hc_r24) (cwV 3 hts gX12_signs_X12_cellOf rfl rfl rfl ⟨rfl, hd_X12_cellOf⟩ ⟨Nat.le_of_ble_eq_true rfl, Nat.le_of_ble_eq_true rfl⟩) ⟨pre_blind, va_recv hK.1 hP (ci := 10) (q0 := 0) rfl rfl, pre_w hK RO.nil hP hD (va_all hD hS hA)⟩ rfl rfl hl.1 rfl (lv_room (Nat.le_of_ble_eq_true rfl)) dX12_signs_143 ⟨Nat.zero_le _, Nat.zero_le _⟩) hS (va_all hD hS hA) (fun hE25 H locs hP hD hS => ?_)
          have hP : va_P G vwCl (ww_M q cs v_told v_tell v_sums v_kindOf v_modOf v_bitsOf v_turnOf v_polyOf v_beginOf v_finishOf v_isLow v_weightsOf v_weight v_cell v_size v_row v_keptSize v_keptBefore v_keptAfter v_placeA v_placeB v_turned v_turnedMany v_syndromes v_lightest v_freeMany v_freePlace v_freeSyndrome v_ways v_waysKept v_trace v_comesA v_comesB) H := hP
          have hD : va_D A (ww_M q cs v_told v_tell v_sums v_kindOf v_modOf v_bitsOf v_turnOf v_polyOf v_beginOf v_finishOf v_isLow v_weightsOf v_weight v_cell v_size v_row v_keptSize v_keptBefore v_keptAfter v_placeA v_placeB v_turned v_turnedMany v_syndromes v_lightest v_freeMany v_freePlace v_freeSyndrome v_ways v_waysKept v_trace v_comesA v_comesB) := hD
          refine lv_iload hx hb dX12_signs_146 (lv_at hl 6 rfl) ?_
          obtain ⟨r26, hc_r26, hm⟩ := bs hm
          refine k_calli (va_runV (As := [.int x1, .int r24, .int x6]) (rest := []) ⟨hx, hb, hml, hown, hts⟩ (c_X12_cellOf l G cs q H.size v_told v_tell v_sums v_kindOf v_modOf v_bitsOf v_turnOf v_polyOf v_beginOf v_finishOf v_isLow v_weightsOf v_weight v_cell v_size v_row v_keptSize v_keptBefore v_keptAfter v_placeA v_placeB v_turned v_turnedMany v_syndromes v_lightest v_freeMany v_freePlace v_freeSyndrome v_ways v_waysKept v_trace v_comesA v_comesB   x1 r24 x6 r26 hc_r26) (cwV 3 hts gX12_signs_X12_cellOf rfl rfl rfl ⟨rfl, hd_X12_cellOf⟩ ⟨Nat.le_of_ble_eq_true rfl, Nat.le_of_ble_eq_true rfl⟩) ⟨pre_blind, va_recv hK.1 hP (ci := 10) (q0 := 0) rfl rfl, pre_w hK RO.nil hP hD (va_all hD hS hA)⟩ rfl rfl hl.1 rfl (lv_room (Nat.le_of_ble_eq_true rfl)) dX12_signs_148 ⟨Nat.zero_le _, Nat.zero_le _⟩) hS (va_all hD hS hA) (fun hE27 H locs hP hD hS => ?_)
          have hP : va_P G vwCl (ww_M q cs v_told v_tell v_sums v_kindOf v_modOf v_bitsOf v_turnOf v_polyOf v_beginOf v_finishOf v_isLow v_weightsOf v_weight v_cell v_size v_row v_keptSize v_keptBefore v_keptAfter v_placeA v_placeB v_turned v_turnedMany v_syndromes v_lightest v_freeMany v_freePlace v_freeSyndrome v_ways v_waysKept v_trace v_comesA v_comesB) H := hP
          have hD : va_D A (ww_M q cs v_told v_tell v_sums v_kindOf v_modOf v_bitsOf v_turnOf v_polyOf v_beginOf v_finishOf v_isLow v_weightsOf v_weight v_cell v_size v_row v_keptSize v_keptBefore v_keptAfter v_placeA v_placeB v_turned v_turnedMany v_syndromes v_lightest v_freeMany v_freePlace v_freeSyndrome v_ways v_waysKept v_trace v_comesA v_comesB) := hD
          refine lv_aload_n hx hb dX12_signs_151 rfl (lv_at hl 0 rfl) ?_
          refine lv_iload_n hx hb dX12_signs_152 rfl (lv_at hl 1 rfl) ?_
          refine lv_aload_n hx hb dX12_signs_153 rfl (lv_at hl 0 rfl) ?_
          refine lv_iload_n hx hb dX12_signs_154 rfl (lv_at hl 1 rfl) ?_
          refine lv_iload hx hb dX12_signs_155 (lv_at hl 4 rfl) ?_
          refine lv_iload hx hb dX12_signs_157 (lv_at hl 6 rfl) ?_
          obtain ⟨r28, hc_r28, hm⟩ := bs hm
          refine k_calli (va_runV (As := [.int x1, .int x4, .int x6]) (rest := [.int x1, .ref (q 0), .int r26]) ⟨hx, hb, hml, hown, hts⟩ (c_X12_cellOf l G cs q H.size v_told v_tell v_sums v_kindOf v_modOf v_bitsOf v_turnOf v_polyOf v_beginOf v_finishOf v_isLow v_weightsOf v_weight v_cell v_size v_row v_keptSize v_keptBefore v_keptAfter v_placeA v_placeB v_turned v_turnedMany v_syndromes v_lightest v_freeMany v_freePlace v_freeSyndrome v_ways v_waysKept v_trace v_comesA v_comesB   x1 x4 x6 r28 hc_r28) (cwV 3 hts gX12_signs_X12_cellOf rfl rfl rfl ⟨rfl, hd_X12_cellOf⟩ ⟨Nat.le_of_ble_eq_true rfl, Nat.le_of_ble_eq_true rfl⟩) ⟨pre_blind, va_recv hK.1 hP (ci := 10) (q0 := 0) rfl rfl, pre_w hK RO.nil hP hD (va_all hD hS hA)⟩ rfl rfl hl.1 rfl (lv_room (Nat.le_of_ble_eq_true rfl)) dX12_signs_159 ⟨Nat.zero_le _, Nat.zero_le _⟩) hS (va_all hD hS hA) (fun hE29 H locs hP hD hS => ?_)
          have hP : va_P G vwCl (ww_M q cs v_told v_tell v_sums v_kindOf v_modOf v_bitsOf v_turnOf v_polyOf v_beginOf v_finishOf v_isLow v_weightsOf v_weight v_cell v_size v_row v_keptSize v_keptBefore v_keptAfter v_placeA v_placeB v_turned v_turnedMany v_syndromes v_lightest v_freeMany v_freePlace v_freeSyndrome v_ways v_waysKept v_trace v_comesA v_comesB) H := hP
          have hD : va_D A (ww_M q cs v_told v_tell v_sums v_kindOf v_modOf v_bitsOf v_turnOf v_polyOf v_beginOf v_finishOf v_isLow v_weightsOf v_weight v_cell v_size v_row v_keptSize v_keptBefore v_keptAfter v_placeA v_placeB v_turned v_turnedMany v_syndromes v_lightest v_freeMany v_freePlace v_freeSyndrome v_ways v_waysKept v_trace v_comesA v_comesB) := hD
          refine lv_iload hx hb dX12_signs_162 (lv_at hl 5 rfl) ?_
          obtain ⟨r30, hc_r30, hm⟩ := bs hm
          refine k_calli (va_runV (As := [.int x1, .int r28, .int x5]) (rest := [.int r26]) ⟨hx, hb, hml, hown, hts⟩ (c_X12_cellOf l G cs q H.size v_told v_tell v_sums v_kindOf v_modOf v_bitsOf v_turnOf v_polyOf v_beginOf v_finishOf v_isLow v_weightsOf v_weight v_cell v_size v_row v_keptSize v_keptBefore v_keptAfter v_placeA v_placeB v_turned v_turnedMany v_syndromes v_lightest v_freeMany v_freePlace v_freeSyndrome v_ways v_waysKept v_trace v_comesA v_comesB   x1 r28 x5 r30 hc_r30) (cwV 3 hts gX12_signs_X12_cellOf rfl rfl rfl ⟨rfl, hd_X12_cellOf⟩ ⟨Nat.le_of_ble_eq_true rfl, Nat.le_of_ble_eq_true rfl⟩) ⟨pre_blind, va_recv hK.1 hP (ci := 10) (q0 := 0) rfl rfl, pre_w hK RO.nil hP hD (va_all hD hS hA)⟩ rfl rfl hl.1 rfl (lv_room (Nat.le_of_ble_eq_true rfl)) dX12_signs_164 ⟨Nat.zero_le _, Nat.zero_le _⟩) hS (va_all hD hS hA) (fun hE31 H locs hP hD hS => ?_)
          have hP : va_P G vwCl (ww_M q cs v_told v_tell v_sums v_kindOf v_modOf v_bitsOf v_turnOf v_polyOf v_beginOf v_finishOf v_isLow v_weightsOf v_weight v_cell v_size v_row v_keptSize v_keptBefore v_keptAfter v_placeA v_placeB v_turned v_turnedMany v_syndromes v_lightest v_freeMany v_freePlace v_freeSyndrome v_ways v_waysKept v_trace v_comesA v_comesB) H := hP
          have hD : va_D A (ww_M q cs v_told v_tell v_sums v_kindOf v_modOf v_bitsOf v_turnOf v_polyOf v_beginOf v_finishOf v_isLow v_weightsOf v_weight v_cell v_size v_row v_keptSize v_keptBefore v_keptAfter v_placeA v_placeB v_turned v_turnedMany v_syndromes v_lightest v_freeMany v_freePlace v_freeSyndrome v_ways v_waysKept v_trace v_comesA v_comesB) := hD
          refine lv_icmp_ne (tgt := 174) hx hb dX12_signs_167 (by decide) (fun b32 => ?_) (fun b32 => ?_)
          · have hm := i_f b32 hm
            refine lv_iconst (v := 0) hx hb dX12_signs_174 (by decide) ?_
            refine lv_istore (lv' := [(7, .int 0), (0, .ref (q 0)), (1, .int x1), (2, .int x2), (3, .int x3), (4, .int x4), (5, .int x5), (6, .int x6)]) hx hb dX12_signs_175 hl (by decide) rfl (fun ls hl => ?_)
            refine lv_goto (tgt := 222) hx hb dX12_signs_177 (by decide) ?_
            refine lv_iload hx hb dX12_signs_222 (lv_at hl 6 rfl) ?_
            refine lv_iload hx hb dX12_signs_224 (lv_at hl 7 rfl) ?_
            refine lv_icmp_eq (tgt := 236) hx hb dX12_signs_226 (by decide) (fun b33 => ?_) (fun b33 => ?_)
            · have hm := i_t b33 hm
              refine lv_iinc (v := x6 + 1) (lv' := [(6, .int (x6 + 1)), (7, .int 0), (0, .ref (q 0)), (1, .int x1), (2, .int x2), (3, .int x3), (4, .int x4), (5, .int x5)]) hx hb dX12_signs_236 hl (k := 7) rfl rfl (by decide) rfl (fun ls hl => ?_)
              refine lv_goto (tgt := 68) hx hb dX12_signs_239 (by decide) ?_
              exact st_next hm hst H locs hP hD hS ls (lv_sub hl [2, 3, 4, 5, 6, 7, 0] rfl)
            · have hm := i_f b33 hm
              refine lv_iload hx hb dX12_signs_229 (lv_at hl 0 rfl) ?_
              refine lv_if_eq (tgt := 236) hx hb dX12_signs_231 (by decide) (fun b9 => ?_) (fun b9 => absurd (by decide) b9)
              refine lv_iinc (v := x6 + 1) (lv' := [(6, .int (x6 + 1)), (7, .int 0), (0, .ref (q 0)), (1, .int x1), (2, .int x2), (3, .int x3), (4, .int x4), (5, .int x5)]) hx hb dX12_signs_236 hl (k := 7) rfl rfl (by decide) rfl (fun ls hl => ?_)
              refine lv_goto (tgt := 68) hx hb dX12_signs_239 (by decide) ?_
              exact st_next hm hst H locs hP hD hS ls (lv_sub hl [2, 3, 4, 5, 6, 7, 0] rfl)
          · have hm := i_t b32 hm
            refine lv_iconst (v := 1) hx hb dX12_signs_170 (by decide) ?_
            refine lv_goto (tgt := 175) hx hb dX12_signs_171 (by decide) ?_
            refine lv_istore (lv' := [(7, .int 1), (0, .ref (q 0)), (1, .int x1), (2, .int x2), (3, .int x3), (4, .int x4), (5, .int x5), (6, .int x6)]) hx hb dX12_signs_175 hl (by decide) rfl (fun ls hl => ?_)
            refine lv_goto (tgt := 222) hx hb dX12_signs_177 (by decide) ?_
            refine lv_iload hx hb dX12_signs_222 (lv_at hl 6 rfl) ?_
            refine lv_iload hx hb dX12_signs_224 (lv_at hl 7 rfl) ?_
            refine lv_icmp_eq (tgt := 236) hx hb dX12_signs_226 (by decide) (fun b34 => ?_) (fun b34 => ?_)
            · have hm := i_t b34 hm
              refine lv_iinc (v := x6 + 1) (lv' := [(6, .int (x6 + 1)), (7, .int 1), (0, .ref (q 0)), (1, .int x1), (2, .int x2), (3, .int x3), (4, .int x4), (5, .int x5)]) hx hb dX12_signs_236 hl (k := 7) rfl rfl (by decide) rfl (fun ls hl => ?_)
              refine lv_goto (tgt := 68) hx hb dX12_signs_239 (by decide) ?_
              exact st_next hm hst H locs hP hD hS ls (lv_sub hl [2, 3, 4, 5, 6, 7, 0] rfl)
            · have hm := i_f b34 hm
              refine lv_iload hx hb dX12_signs_229 (lv_at hl 0 rfl) ?_
              refine lv_if_eq (tgt := 236) hx hb dX12_signs_231 (by decide) (fun b9 => absurd b9 (by decide)) (fun b9 => ?_)
              refine lv_iconst (v := 0) hx hb dX12_signs_234 (by decide) ?_
              have hq := hret _ (st_exit hm hst)
              subst hq; subst hQ
              exact k_iret hx hb hr hlocks hP hD hS rfl trivial dX12_signs_235
      · have hm := i_t b11 hm
        refine lv_aload_n hx hb dX12_signs_78 rfl (lv_at hl 0 rfl) ?_
        refine lv_iload_n hx hb dX12_signs_79 rfl (lv_at hl 1 rfl) ?_
        refine lv_iload hx hb dX12_signs_80 (lv_at hl 4 rfl) ?_
        refine lv_iload hx hb dX12_signs_82 (lv_at hl 5 rfl) ?_
        obtain ⟨r35, hc_r35, hm⟩ := bs hm
        refine k_calli (va_runV (As := [.int x1, .int x4, .int x5]) (rest := []) ⟨hx, hb, hml, hown, hts⟩ (c_X12_cellOf l G cs q H.size v_told v_tell v_sums v_kindOf v_modOf v_bitsOf v_turnOf v_polyOf v_beginOf v_finishOf v_isLow v_weightsOf v_weight v_cell v_size v_row v_keptSize v_keptBefore v_keptAfter v_placeA v_placeB v_turned v_turnedMany v_syndromes v_lightest v_freeMany v_freePlace v_freeSyndrome v_ways v_waysKept v_trace v_comesA v_comesB   x1 x4 x5 r35 hc_r35) (cwV 3 hts gX12_signs_X12_cellOf rfl rfl rfl ⟨rfl, hd_X12_cellOf⟩ ⟨Nat.le_of_ble_eq_true rfl, Nat.le_of_ble_eq_true rfl⟩) ⟨pre_blind, va_recv hK.1 hP (ci := 10) (q0 := 0) rfl rfl, pre_w hK RO.nil hP hD (va_all hD hS hA)⟩ rfl rfl hl.1 rfl (lv_room (Nat.le_of_ble_eq_true rfl)) dX12_signs_84 ⟨Nat.zero_le _, Nat.zero_le _⟩) hS (va_all hD hS hA) (fun hE36 H locs hP hD hS => ?_)
        have hP : va_P G vwCl (ww_M q cs v_told v_tell v_sums v_kindOf v_modOf v_bitsOf v_turnOf v_polyOf v_beginOf v_finishOf v_isLow v_weightsOf v_weight v_cell v_size v_row v_keptSize v_keptBefore v_keptAfter v_placeA v_placeB v_turned v_turnedMany v_syndromes v_lightest v_freeMany v_freePlace v_freeSyndrome v_ways v_waysKept v_trace v_comesA v_comesB) H := hP
        have hD : va_D A (ww_M q cs v_told v_tell v_sums v_kindOf v_modOf v_bitsOf v_turnOf v_polyOf v_beginOf v_finishOf v_isLow v_weightsOf v_weight v_cell v_size v_row v_keptSize v_keptBefore v_keptAfter v_placeA v_placeB v_turned v_turnedMany v_syndromes v_lightest v_freeMany v_freePlace v_freeSyndrome v_ways v_waysKept v_trace v_comesA v_comesB) := hD
        refine lv_aload_n hx hb dX12_signs_87 rfl (lv_at hl 0 rfl) ?_
        refine lv_iload_n hx hb dX12_signs_88 rfl (lv_at hl 1 rfl) ?_
        refine lv_iload hx hb dX12_signs_89 (lv_at hl 4 rfl) ?_
        refine lv_iload hx hb dX12_signs_91 (lv_at hl 6 rfl) ?_
        obtain ⟨r37, hc_r37, hm⟩ := bs hm
        refine k_calli (va_runV (As := [.int x1, .int x4, .int x6]) (rest := [.int r35]) ⟨hx, hb, hml, hown, hts⟩ (c_X12_cellOf l G cs q H.size v_told v_tell v_sums v_kindOf v_modOf v_bitsOf v_turnOf v_polyOf v_beginOf v_finishOf v_isLow v_weightsOf v_weight v_cell v_size v_row v_keptSize v_keptBefore v_keptAfter v_placeA v_placeB v_turned v_turnedMany v_syndromes v_lightest v_freeMany v_freePlace v_freeSyndrome v_ways v_waysKept v_trace v_comesA v_comesB   x1 x4 x6 r37 hc_r37) (cwV 3 hts gX12_signs_X12_cellOf rfl rfl rfl ⟨rfl, hd_X12_cellOf⟩ ⟨Nat.le_of_ble_eq_true rfl, Nat.le_of_ble_eq_true rfl⟩) ⟨pre_blind, va_recv hK.1 hP (ci := 10) (q0 := 0) rfl rfl, pre_w hK RO.nil hP hD (va_all hD hS hA)⟩ rfl rfl hl.1 rfl (lv_room (Nat.le_of_ble_eq_true rfl)) dX12_signs_93 ⟨Nat.zero_le _, Nat.zero_le _⟩) hS (va_all hD hS hA) (fun hE38 H locs hP hD hS => ?_)
        have hP : va_P G vwCl (ww_M q cs v_told v_tell v_sums v_kindOf v_modOf v_bitsOf v_turnOf v_polyOf v_beginOf v_finishOf v_isLow v_weightsOf v_weight v_cell v_size v_row v_keptSize v_keptBefore v_keptAfter v_placeA v_placeB v_turned v_turnedMany v_syndromes v_lightest v_freeMany v_freePlace v_freeSyndrome v_ways v_waysKept v_trace v_comesA v_comesB) H := hP
        have hD : va_D A (ww_M q cs v_told v_tell v_sums v_kindOf v_modOf v_bitsOf v_turnOf v_polyOf v_beginOf v_finishOf v_isLow v_weightsOf v_weight v_cell v_size v_row v_keptSize v_keptBefore v_keptAfter v_placeA v_placeB v_turned v_turnedMany v_syndromes v_lightest v_freeMany v_freePlace v_freeSyndrome v_ways v_waysKept v_trace v_comesA v_comesB) := hD
        refine lv_icmp_eq (tgt := 120) hx hb dX12_signs_96 (by decide) (fun b39 => ?_) (fun b39 => ?_)
        · have hm := i_t b39 hm
          refine lv_iconst (v := 1) hx hb dX12_signs_120 (by decide) ?_
          refine lv_goto (tgt := 125) hx hb dX12_signs_121 (by decide) ?_
          refine lv_istore (lv' := [(7, .int 1), (0, .ref (q 0)), (1, .int x1), (2, .int x2), (3, .int x3), (4, .int x4), (5, .int x5), (6, .int x6)]) hx hb dX12_signs_125 hl (by decide) rfl (fun ls hl => ?_)
          refine lv_goto (tgt := 222) hx hb dX12_signs_127 (by decide) ?_
          refine lv_iload hx hb dX12_signs_222 (lv_at hl 6 rfl) ?_
          refine lv_iload hx hb dX12_signs_224 (lv_at hl 7 rfl) ?_
          refine lv_icmp_eq (tgt := 236) hx hb dX12_signs_226 (by decide) (fun b40 => ?_) (fun b40 => ?_)
          · have hm := i_t b40 hm
            refine lv_iinc (v := x6 + 1) (lv' := [(6, .int (x6 + 1)), (7, .int 1), (0, .ref (q 0)), (1, .int x1), (2, .int x2), (3, .int x3), (4, .int x4), (5, .int x5)]) hx hb dX12_signs_236 hl (k := 7) rfl rfl (by decide) rfl (fun ls hl => ?_)
            refine lv_goto (tgt := 68) hx hb dX12_signs_239 (by decide) ?_
            exact st_next hm hst H locs hP hD hS ls (lv_sub hl [2, 3, 4, 5, 6, 7, 0] rfl)
          · have hm := i_f b40 hm
            refine lv_iload hx hb dX12_signs_229 (lv_at hl 0 rfl) ?_
            refine lv_if_eq (tgt := 236) hx hb dX12_signs_231 (by decide) (fun b9 => absurd b9 (by decide)) (fun b9 => ?_)
            refine lv_iconst (v := 0) hx hb dX12_signs_234 (by decide) ?_
            have hq := hret _ (st_exit hm hst)
            subst hq; subst hQ
            exact k_iret hx hb hr hlocks hP hD hS rfl trivial dX12_signs_235
        · have hm := i_f b39 hm
          refine lv_aload_n hx hb dX12_signs_99 rfl (lv_at hl 0 rfl) ?_
          refine lv_iload_n hx hb dX12_signs_100 rfl (lv_at hl 1 rfl) ?_
          refine lv_iload hx hb dX12_signs_101 (lv_at hl 5 rfl) ?_
          refine lv_iload hx hb dX12_signs_103 (lv_at hl 4 rfl) ?_
          obtain ⟨r41, hc_r41, hm⟩ := bs hm
          refine k_calli (va_runV (As := [.int x1, .int x5, .int x4]) (rest := []) ⟨hx, hb, hml, hown, hts⟩ (c_X12_cellOf l G cs q H.size v_told v_tell v_sums v_kindOf v_modOf v_bitsOf v_turnOf v_polyOf v_beginOf v_finishOf v_isLow v_weightsOf v_weight v_cell v_size v_row v_keptSize v_keptBefore v_keptAfter v_placeA v_placeB v_turned v_turnedMany v_syndromes v_lightest v_freeMany v_freePlace v_freeSyndrome v_ways v_waysKept v_trace v_comesA v_comesB   x1 x5 x4 r41 hc_r41) (cwV 3 hts gX12_signs_X12_cellOf rfl rfl rfl ⟨rfl, hd_X12_cellOf⟩ ⟨Nat.le_of_ble_eq_true rfl, Nat.le_of_ble_eq_true rfl⟩) ⟨pre_blind, va_recv hK.1 hP (ci := 10) (q0 := 0) rfl rfl, pre_w hK RO.nil hP hD (va_all hD hS hA)⟩ rfl rfl hl.1 rfl (lv_room (Nat.le_of_ble_eq_true rfl)) dX12_signs_105 ⟨Nat.zero_le _, Nat.zero_le _⟩) hS (va_all hD hS hA) (fun hE42 H locs hP hD hS => ?_)
          have hP : va_P G vwCl (ww_M q cs v_told v_tell v_sums v_kindOf v_modOf v_bitsOf v_turnOf v_polyOf v_beginOf v_finishOf v_isLow v_weightsOf v_weight v_cell v_size v_row v_keptSize v_keptBefore v_keptAfter v_placeA v_placeB v_turned v_turnedMany v_syndromes v_lightest v_freeMany v_freePlace v_freeSyndrome v_ways v_waysKept v_trace v_comesA v_comesB) H := hP
          have hD : va_D A (ww_M q cs v_told v_tell v_sums v_kindOf v_modOf v_bitsOf v_turnOf v_polyOf v_beginOf v_finishOf v_isLow v_weightsOf v_weight v_cell v_size v_row v_keptSize v_keptBefore v_keptAfter v_placeA v_placeB v_turned v_turnedMany v_syndromes v_lightest v_freeMany v_freePlace v_freeSyndrome v_ways v_waysKept v_trace v_comesA v_comesB) := hD
          refine lv_aload_n hx hb dX12_signs_108 rfl (lv_at hl 0 rfl) ?_
          refine lv_iload_n hx hb dX12_signs_109 rfl (lv_at hl 1 rfl) ?_
          refine lv_iload hx hb dX12_signs_110 (lv_at hl 6 rfl) ?_
          refine lv_iload hx hb dX12_signs_112 (lv_at hl 4 rfl) ?_
          obtain ⟨r43, hc_r43, hm⟩ := bs hm
          refine k_calli (va_runV (As := [.int x1, .int x6, .int x4]) (rest := [.int r41]) ⟨hx, hb, hml, hown, hts⟩ (c_X12_cellOf l G cs q H.size v_told v_tell v_sums v_kindOf v_modOf v_bitsOf v_turnOf v_polyOf v_beginOf v_finishOf v_isLow v_weightsOf v_weight v_cell v_size v_row v_keptSize v_keptBefore v_keptAfter v_placeA v_placeB v_turned v_turnedMany v_syndromes v_lightest v_freeMany v_freePlace v_freeSyndrome v_ways v_waysKept v_trace v_comesA v_comesB   x1 x6 x4 r43 hc_r43) (cwV 3 hts gX12_signs_X12_cellOf rfl rfl rfl ⟨rfl, hd_X12_cellOf⟩ ⟨Nat.le_of_ble_eq_true rfl, Nat.le_of_ble_eq_true rfl⟩) ⟨pre_blind, va_recv hK.1 hP (ci := 10) (q0 := 0) rfl rfl, pre_w hK RO.nil hP hD (va_all hD hS hA)⟩ rfl rfl hl.1 rfl (lv_room (Nat.le_of_ble_eq_true rfl)) dX12_signs_114 ⟨Nat.zero_le _, Nat.zero_le _⟩) hS (va_all hD hS hA) (fun hE44 H locs hP hD hS => ?_)
          have hP : va_P G vwCl (ww_M q cs v_told v_tell v_sums v_kindOf v_modOf v_bitsOf v_turnOf v_polyOf v_beginOf v_finishOf v_isLow v_weightsOf v_weight v_cell v_size v_row v_keptSize v_keptBefore v_keptAfter v_placeA v_placeB v_turned v_turnedMany v_syndromes v_lightest v_freeMany v_freePlace v_freeSyndrome v_ways v_waysKept v_trace v_comesA v_comesB) H := hP
          have hD : va_D A (ww_M q cs v_told v_tell v_sums v_kindOf v_modOf v_bitsOf v_turnOf v_polyOf v_beginOf v_finishOf v_isLow v_weightsOf v_weight v_cell v_size v_row v_keptSize v_keptBefore v_keptAfter v_placeA v_placeB v_turned v_turnedMany v_syndromes v_lightest v_freeMany v_freePlace v_freeSyndrome v_ways v_waysKept v_trace v_comesA v_comesB) := hD
          refine lv_icmp_ne (tgt := 124) hx hb dX12_signs_117 (by decide) (fun b45 => ?_) (fun b45 => ?_)
          · have hm := i_f b45 hm
            refine lv_iconst (v := 0) hx hb dX12_signs_124 (by decide) ?_
            refine lv_istore (lv' := [(7, .int 0), (0, .ref (q 0)), (1, .int x1), (2, .int x2), (3, .int x3), (4, .int x4), (5, .int x5), (6, .int x6)]) hx hb dX12_signs_125 hl (by decide) rfl (fun ls hl => ?_)
            refine lv_goto (tgt := 222) hx hb dX12_signs_127 (by decide) ?_
            refine lv_iload hx hb dX12_signs_222 (lv_at hl 6 rfl) ?_
            refine lv_iload hx hb dX12_signs_224 (lv_at hl 7 rfl) ?_
            refine lv_icmp_eq (tgt := 236) hx hb dX12_signs_226 (by decide) (fun b46 => ?_) (fun b46 => ?_)
            · have hm := i_t b46 hm
              refine lv_iinc (v := x6 + 1) (lv' := [(6, .int (x6 + 1)), (7, .int 0), (0, .ref (q 0)), (1, .int x1), (2, .int x2), (3, .int x3), (4, .int x4), (5, .int x5)]) hx hb dX12_signs_236 hl (k := 7) rfl rfl (by decide) rfl (fun ls hl => ?_)
              refine lv_goto (tgt := 68) hx hb dX12_signs_239 (by decide) ?_
              exact st_next hm hst H locs hP hD hS ls (lv_sub hl [2, 3, 4, 5, 6, 7, 0] rfl)
            · have hm := i_f b46 hm
              refine lv_iload hx hb dX12_signs_229 (lv_at hl 0 rfl) ?_
              refine lv_if_eq (tgt := 236) hx hb dX12_signs_231 (by decide) (fun b9 => ?_) (fun b9 => absurd (by decide) b9)
              refine lv_iinc (v := x6 + 1) (lv' := [(6, .int (x6 + 1)), (7, .int 0), (0, .ref (q 0)), (1, .int x1), (2, .int x2), (3, .int x3), (4, .int x4), (5, .int x5)]) hx hb dX12_signs_236 hl (k := 7) rfl rfl (by decide) rfl (fun ls hl => ?_)
              refine lv_goto (tgt := 68) hx hb dX12_signs_239 (by decide) ?_
              exact st_next hm hst H locs hP hD hS ls (lv_sub hl [2, 3, 4, 5, 6, 7, 0] rfl)
          · have hm := i_t b45 hm
            refine lv_iconst (v := 1) hx hb dX12_signs_120 (by decide) ?_
            refine lv_goto (tgt := 125) hx hb dX12_signs_121 (by decide) ?_
            refine lv_istore (lv' := [(7, .int 1), (0, .ref (q 0)), (1, .int x1), (2, .int x2), (3, .int x3), (4, .int x4), (5, .int x5), (6, .int x6)]) hx hb dX12_signs_125 hl (by decide) rfl (fun ls hl => ?_)
            refine lv_goto (tgt := 222) hx hb dX12_signs_127 (by decide) ?_
            refine lv_iload hx hb dX12_signs_222 (lv_at hl 6 rfl) ?_
            refine lv_iload hx hb dX12_signs_224 (lv_at hl 7 rfl) ?_
            refine lv_icmp_eq (tgt := 236) hx hb dX12_signs_226 (by decide) (fun b47 => ?_) (fun b47 => ?_)
            · have hm := i_t b47 hm
              refine lv_iinc (v := x6 + 1) (lv' := [(6, .int (x6 + 1)), (7, .int 1), (0, .ref (q 0)), (1, .int x1), (2, .int x2), (3, .int x3), (4, .int x4), (5, .int x5)]) hx hb dX12_signs_236 hl (k := 7) rfl rfl (by decide) rfl (fun ls hl => ?_)
              refine lv_goto (tgt := 68) hx hb dX12_signs_239 (by decide) ?_
              exact st_next hm hst H locs hP hD hS ls (lv_sub hl [2, 3, 4, 5, 6, 7, 0] rfl)
            · have hm := i_f b47 hm
              refine lv_iload hx hb dX12_signs_229 (lv_at hl 0 rfl) ?_
              refine lv_if_eq (tgt := 236) hx hb dX12_signs_231 (by decide) (fun b9 => absurd b9 (by decide)) (fun b9 => ?_)
              refine lv_iconst (v := 0) hx hb dX12_signs_234 (by decide) ?_
              have hq := hret _ (st_exit hm hst)
              subst hq; subst hQ
              exact k_iret hx hb hr hlocks hP hD hS rfl trivial dX12_signs_235
  have L59 : ∀ (x1 : Int32) (x2 : Int32) (x3 : Int32) (x4 : Int32) (x5 : Int32) (out : (Unit ⊕ Int32)), lp (fun x : Int32 => M_X12_signs_b59 n x1 x2 x3 x4 v_modOf v_cell x) n x5 = some out → (∀ r, out = .inr r → r = res) → (∀ (o : Unit), out = .inl o → ∀ (H : Heap) (locs : List Loc), va_P G vwCl (ww_M q cs v_told v_tell v_sums v_kindOf v_modOf v_bitsOf v_turnOf v_polyOf v_beginOf v_finishOf v_isLow v_weightsOf v_weight v_cell v_size v_row v_keptSize v_keptBefore v_keptAfter v_placeA v_placeB v_turned v_turnedMany v_syndromes v_lightest v_freeMany v_freePlace v_freeSyndrome v_ways v_waysKept v_trace v_comesA v_comesB) H → va_D A (ww_M q cs v_told v_tell v_sums v_kindOf v_modOf v_bitsOf v_turnOf v_polyOf v_beginOf v_finishOf v_isLow v_weightsOf v_weight v_cell v_size v_row v_keptSize v_keptBefore v_keptAfter v_placeA v_placeB v_turned v_turnedMany v_syndromes v_lightest v_freeMany v_freePlace v_freeSyndrome v_ways v_waysKept v_trace v_comesA v_comesB) → va_S A s.heap H locs → ∀ (ls : Array Slot), lv_has ls 8 [(0, .ref (q 0)), (1, .int x1), (2, .int x2), (3, .int x3), (4, .int x4)] → W p l e rmX12_signs s m args below meth c H locs 0 0 Q (F0 m 248 ls [])) → ∀ (H : Heap) (locs : List Loc), va_P G vwCl (ww_M q cs v_told v_tell v_sums v_kindOf v_modOf v_bitsOf v_turnOf v_polyOf v_beginOf v_finishOf v_isLow v_weightsOf v_weight v_cell v_size v_row v_keptSize v_keptBefore v_keptAfter v_placeA v_placeB v_turned v_turnedMany v_syndromes v_lightest v_freeMany v_freePlace v_freeSyndrome v_ways v_waysKept v_trace v_comesA v_comesB) H → va_D A (ww_M q cs v_told v_tell v_sums v_kindOf v_modOf v_bitsOf v_turnOf v_polyOf v_beginOf v_finishOf v_isLow v_weightsOf v_weight v_cell v_size v_row v_keptSize v_keptBefore v_keptAfter v_placeA v_placeB v_turned v_turnedMany v_syndromes v_lightest v_freeMany v_freePlace v_freeSyndrome v_ways v_waysKept v_trace v_comesA v_comesB) → va_S A s.heap H locs → ∀ (ls : Array Slot), lv_has ls 8 [(0, .ref (q 0)), (1, .int x1), (2, .int x2), (3, .int x3), (4, .int x4), (5, .int x5)] → W p l e rmX12_signs s m args below meth c H locs 0 0 Q (F0 m 59 ls []) := by
    intro x1 x2 x3 x4 x5 out hlp hret hX
    refine lp_ind (fun x => ∀ (H : Heap) (locs : List Loc), va_P G vwCl (ww_M q cs v_told v_tell v_sums v_kindOf v_modOf v_bitsOf v_turnOf v_polyOf v_beginOf v_finishOf v_isLow v_weightsOf v_weight v_cell v_size v_row v_keptSize v_keptBefore v_keptAfter v_placeA v_placeB v_turned v_turnedMany v_syndromes v_lightest v_freeMany v_freePlace v_freeSyndrome v_ways v_waysKept v_trace v_comesA v_comesB) H → va_D A (ww_M q cs v_told v_tell v_sums v_kindOf v_modOf v_bitsOf v_turnOf v_polyOf v_beginOf v_finishOf v_isLow v_weightsOf v_weight v_cell v_size v_row v_keptSize v_keptBefore v_keptAfter v_placeA v_placeB v_turned v_turnedMany v_syndromes v_lightest v_freeMany v_freePlace v_freeSyndrome v_ways v_waysKept v_trace v_comesA v_comesB) → va_S A s.heap H locs → ∀ (ls : Array Slot), lv_has ls 8 [(0, .ref (q 0)), (1, .int x1), (2, .int x2), (3, .int x3), (4, .int x4), (5, .int x)] → W p l e rmX12_signs s m args below meth c H locs 0 0 Q (F0 m 59 ls [])) ?_ n x5 hlp
    clear hlp hP hD hS hl
    intro x5 ob hm hst H locs hP hD hS ls hl
    have hm : M_X12_signs_b59 n x1 x2 x3 x4 v_modOf v_cell x5 = some ob := hm
    have hl : lv_has ls 8 [(0, .ref (q 0)), (1, .int x1), (2, .int x2), (3, .int x3), (4, .int x4), (5, .int x5)] := hl
    have hP : va_P G vwCl (ww_M q cs v_told v_tell v_sums v_kindOf v_modOf v_bitsOf v_turnOf v_polyOf v_beginOf v_finishOf v_isLow v_weightsOf v_weight v_cell v_size v_row v_keptSize v_keptBefore v_keptAfter v_placeA v_placeB v_turned v_turnedMany v_syndromes v_lightest v_freeMany v_freePlace v_freeSyndrome v_ways v_waysKept v_trace v_comesA v_comesB) H := hP
    have hD : va_D A (ww_M q cs v_told v_tell v_sums v_kindOf v_modOf v_bitsOf v_turnOf v_polyOf v_beginOf v_finishOf v_isLow v_weightsOf v_weight v_cell v_size v_row v_keptSize v_keptBefore v_keptAfter v_placeA v_placeB v_turned v_turnedMany v_syndromes v_lightest v_freeMany v_freePlace v_freeSyndrome v_ways v_waysKept v_trace v_comesA v_comesB) := hD
    unfold M_X12_signs_b59 at hm
    refine lv_iload hx hb dX12_signs_59 (lv_at hl 5 rfl) ?_
    refine lv_iload_n hx hb dX12_signs_61 rfl (lv_at hl 3 rfl) ?_
    refine lv_icmp_ge (tgt := 248) hx hb dX12_signs_62 (by decide) (fun b9 => ?_) (fun b9 => ?_)
    · have hm := i_t b9 hm
      exact hX _ (st_exit hm hst) H locs hP hD hS ls (lv_sub hl [0, 1, 2, 3, 4] rfl)
    · have hm := i_f b9 hm
      refine lv_iconst (v := 0) hx hb dX12_signs_65 (by decide) ?_
      refine lv_istore (lv' := [(6, .int 0), (0, .ref (q 0)), (1, .int x1), (2, .int x2), (3, .int x3), (4, .int x4), (5, .int x5)]) hx hb dX12_signs_66 hl (by decide) rfl (fun ls hl => ?_)
      obtain ⟨u48, hlp48, hm⟩ := bs hm
      refine L68 x1 x2 x3 x4 x5 (0 : Int32) u48 hlp48 (fun r h => by have h2 := se_r h hm; exact hret r (st_exit h2 hst)) (fun o48 ho => ?_) H locs hP hD hS ls (lv_sub hl [1, 2, 3, 4, 5, 6, 0] rfl)
      have hm := se_l ho hm
      intro H locs hP hD hS ls hl
      have hl : lv_has ls 8 [(0, .ref (q 0)), (1, .int x1), (2, .int x2), (3, .int x3), (4, .int x4), (5, .int x5)] := hl
      have hP : va_P G vwCl (ww_M q cs v_told v_tell v_sums v_kindOf v_modOf v_bitsOf v_turnOf v_polyOf v_beginOf v_finishOf v_isLow v_weightsOf v_weight v_cell v_size v_row v_keptSize v_keptBefore v_keptAfter v_placeA v_placeB v_turned v_turnedMany v_syndromes v_lightest v_freeMany v_freePlace v_freeSyndrome v_ways v_waysKept v_trace v_comesA v_comesB) H := hP
      have hD : va_D A (ww_M q cs v_told v_tell v_sums v_kindOf v_modOf v_bitsOf v_turnOf v_polyOf v_beginOf v_finishOf v_isLow v_weightsOf v_weight v_cell v_size v_row v_keptSize v_keptBefore v_keptAfter v_placeA v_placeB v_turned v_turnedMany v_syndromes v_lightest v_freeMany v_freePlace v_freeSyndrome v_ways v_waysKept v_trace v_comesA v_comesB) := hD
      refine lv_iinc (v := x5 + 1) (lv' := [(5, .int (x5 + 1)), (0, .ref (q 0)), (1, .int x1), (2, .int x2), (3, .int x3), (4, .int x4)]) hx hb dX12_signs_242 hl (k := 5) rfl rfl (by decide) rfl (fun ls hl => ?_)
      refine lv_goto (tgt := 59) hx hb dX12_signs_245 (by decide) ?_
      exact st_next hm hst H locs hP hD hS ls (lv_sub hl [1, 2, 3, 4, 5, 0] rfl)
  have L50 : ∀ (x1 : Int32) (x2 : Int32) (x3 : Int32) (x4 : Int32) (out : (Unit ⊕ Int32)), lp (fun x : Int32 => M_X12_signs_b50 n x1 x2 x3 v_modOf v_cell x) n x4 = some out → (∀ r, out = .inr r → r = res) → (∀ (o : Unit), out = .inl o → ∀ (H : Heap) (locs : List Loc), va_P G vwCl (ww_M q cs v_told v_tell v_sums v_kindOf v_modOf v_bitsOf v_turnOf v_polyOf v_beginOf v_finishOf v_isLow v_weightsOf v_weight v_cell v_size v_row v_keptSize v_keptBefore v_keptAfter v_placeA v_placeB v_turned v_turnedMany v_syndromes v_lightest v_freeMany v_freePlace v_freeSyndrome v_ways v_waysKept v_trace v_comesA v_comesB) H → va_D A (ww_M q cs v_told v_tell v_sums v_kindOf v_modOf v_bitsOf v_turnOf v_polyOf v_beginOf v_finishOf v_isLow v_weightsOf v_weight v_cell v_size v_row v_keptSize v_keptBefore v_keptAfter v_placeA v_placeB v_turned v_turnedMany v_syndromes v_lightest v_freeMany v_freePlace v_freeSyndrome v_ways v_waysKept v_trace v_comesA v_comesB) → va_S A s.heap H locs → ∀ (ls : Array Slot), lv_has ls 8 [] → W p l e rmX12_signs s m args below meth c H locs 0 0 Q (F0 m 254 ls [])) → ∀ (H : Heap) (locs : List Loc), va_P G vwCl (ww_M q cs v_told v_tell v_sums v_kindOf v_modOf v_bitsOf v_turnOf v_polyOf v_beginOf v_finishOf v_isLow v_weightsOf v_weight v_cell v_size v_row v_keptSize v_keptBefore v_keptAfter v_placeA v_placeB v_turned v_turnedMany v_syndromes v_lightest v_freeMany v_freePlace v_freeSyndrome v_ways v_waysKept v_trace v_comesA v_comesB) H → va_D A (ww_M q cs v_told v_tell v_sums v_kindOf v_modOf v_bitsOf v_turnOf v_polyOf v_beginOf v_finishOf v_isLow v_weightsOf v_weight v_cell v_size v_row v_keptSize v_keptBefore v_keptAfter v_placeA v_placeB v_turned v_turnedMany v_syndromes v_lightest v_freeMany v_freePlace v_freeSyndrome v_ways v_waysKept v_trace v_comesA v_comesB) → va_S A s.heap H locs → ∀ (ls : Array Slot), lv_has ls 8 [(0, .ref (q 0)), (1, .int x1), (2, .int x2), (3, .int x3), (4, .int x4)] → W p l e rmX12_signs s m args below meth c H locs 0 0 Q (F0 m 50 ls []) := by
    intro x1 x2 x3 x4 out hlp hret hX
    refine lp_ind (fun x => ∀ (H : Heap) (locs : List Loc), va_P G vwCl (ww_M q cs v_told v_tell v_sums v_kindOf v_modOf v_bitsOf v_turnOf v_polyOf v_beginOf v_finishOf v_isLow v_weightsOf v_weight v_cell v_size v_row v_keptSize v_keptBefore v_keptAfter v_placeA v_placeB v_turned v_turnedMany v_syndromes v_lightest v_freeMany v_freePlace v_freeSyndrome v_ways v_waysKept v_trace v_comesA v_comesB) H → va_D A (ww_M q cs v_told v_tell v_sums v_kindOf v_modOf v_bitsOf v_turnOf v_polyOf v_beginOf v_finishOf v_isLow v_weightsOf v_weight v_cell v_size v_row v_keptSize v_keptBefore v_keptAfter v_placeA v_placeB v_turned v_turnedMany v_syndromes v_lightest v_freeMany v_freePlace v_freeSyndrome v_ways v_waysKept v_trace v_comesA v_comesB) → va_S A s.heap H locs → ∀ (ls : Array Slot), lv_has ls 8 [(0, .ref (q 0)), (1, .int x1), (2, .int x2), (3, .int x3), (4, .int x)] → W p l e rmX12_signs s m args below meth c H locs 0 0 Q (F0 m 50 ls [])) ?_ n x4 hlp
    clear hlp hP hD hS hl
    intro x4 ob hm hst H locs hP hD hS ls hl
    have hm : M_X12_signs_b50 n x1 x2 x3 v_modOf v_cell x4 = some ob := hm
    have hl : lv_has ls 8 [(0, .ref (q 0)), (1, .int x1), (2, .int x2), (3, .int x3), (4, .int x4)] := hl
    have hP : va_P G vwCl (ww_M q cs v_told v_tell v_sums v_kindOf v_modOf v_bitsOf v_turnOf v_polyOf v_beginOf v_finishOf v_isLow v_weightsOf v_weight v_cell v_size v_row v_keptSize v_keptBefore v_keptAfter v_placeA v_placeB v_turned v_turnedMany v_syndromes v_lightest v_freeMany v_freePlace v_freeSyndrome v_ways v_waysKept v_trace v_comesA v_comesB) H := hP
    have hD : va_D A (ww_M q cs v_told v_tell v_sums v_kindOf v_modOf v_bitsOf v_turnOf v_polyOf v_beginOf v_finishOf v_isLow v_weightsOf v_weight v_cell v_size v_row v_keptSize v_keptBefore v_keptAfter v_placeA v_placeB v_turned v_turnedMany v_syndromes v_lightest v_freeMany v_freePlace v_freeSyndrome v_ways v_waysKept v_trace v_comesA v_comesB) := hD
    unfold M_X12_signs_b50 at hm
    refine lv_iload hx hb dX12_signs_50 (lv_at hl 4 rfl) ?_
    refine lv_iload_n hx hb dX12_signs_52 rfl (lv_at hl 3 rfl) ?_
    refine lv_icmp_ge (tgt := 254) hx hb dX12_signs_53 (by decide) (fun b8 => ?_) (fun b8 => ?_)
    · have hm := i_t b8 hm
      exact hX _ (st_exit hm hst) H locs hP hD hS ls (lv_sub hl [] rfl)
    · have hm := i_f b8 hm
      refine lv_iconst (v := 0) hx hb dX12_signs_56 (by decide) ?_
      refine lv_istore (lv' := [(5, .int 0), (0, .ref (q 0)), (1, .int x1), (2, .int x2), (3, .int x3), (4, .int x4)]) hx hb dX12_signs_57 hl (by decide) rfl (fun ls hl => ?_)
      obtain ⟨u49, hlp49, hm⟩ := bs hm
      refine L59 x1 x2 x3 x4 (0 : Int32) u49 hlp49 (fun r h => by have h2 := se_r h hm; exact hret r (st_exit h2 hst)) (fun o49 ho => ?_) H locs hP hD hS ls (lv_sub hl [1, 2, 3, 4, 5, 0] rfl)
      have hm := se_l ho hm
      intro H locs hP hD hS ls hl
      have hl : lv_has ls 8 [(0, .ref (q 0)), (1, .int x1), (2, .int x2), (3, .int x3), (4, .int x4)] := hl
      have hP : va_P G vwCl (ww_M q cs v_told v_tell v_sums v_kindOf v_modOf v_bitsOf v_turnOf v_polyOf v_beginOf v_finishOf v_isLow v_weightsOf v_weight v_cell v_size v_row v_keptSize v_keptBefore v_keptAfter v_placeA v_placeB v_turned v_turnedMany v_syndromes v_lightest v_freeMany v_freePlace v_freeSyndrome v_ways v_waysKept v_trace v_comesA v_comesB) H := hP
      have hD : va_D A (ww_M q cs v_told v_tell v_sums v_kindOf v_modOf v_bitsOf v_turnOf v_polyOf v_beginOf v_finishOf v_isLow v_weightsOf v_weight v_cell v_size v_row v_keptSize v_keptBefore v_keptAfter v_placeA v_placeB v_turned v_turnedMany v_syndromes v_lightest v_freeMany v_freePlace v_freeSyndrome v_ways v_waysKept v_trace v_comesA v_comesB) := hD
      refine lv_iinc (v := x4 + 1) (lv' := [(4, .int (x4 + 1)), (0, .ref (q 0)), (1, .int x1), (2, .int x2), (3, .int x3)]) hx hb dX12_signs_248 hl (k := 4) rfl rfl (by decide) rfl (fun ls hl => ?_)
      refine lv_goto (tgt := 50) hx hb dX12_signs_251 (by decide) ?_
      exact st_next hm hst H locs hP hD hS ls (lv_sub hl [1, 2, 3, 4, 0] rfl)
  unfold M_X12_signs at hm
  refine lv_aload_n hx hb dX12_signs_0 rfl (lv_at hl 0 rfl) ?_
  refine lv_iload_n hx hb dX12_signs_1 rfl (lv_at hl 1 rfl) ?_
  refine k_calli (va_runV (As := [.int x1]) (rest := []) ⟨hx, hb, hml, hown, hts⟩ (c_X12_isSum l G cs q H.size v_told v_tell v_sums v_kindOf v_modOf v_bitsOf v_turnOf v_polyOf v_beginOf v_finishOf v_isLow v_weightsOf v_weight v_cell v_size v_row v_keptSize v_keptBefore v_keptAfter v_placeA v_placeB v_turned v_turnedMany v_syndromes v_lightest v_freeMany v_freePlace v_freeSyndrome v_ways v_waysKept v_trace v_comesA v_comesB   x1 _ rfl) (cwV 1 hts gX12_signs_X12_isSum rfl rfl rfl ⟨rfl, hd_X12_isSum⟩ ⟨Nat.le_of_ble_eq_true rfl, Nat.le_of_ble_eq_true rfl⟩) ⟨pre_blind, va_recv hK.1 hP (ci := 10) (q0 := 0) rfl rfl, pre_w hK RO.nil hP hD (va_all hD hS hA)⟩ rfl rfl hl.1 rfl (lv_room (Nat.le_of_ble_eq_true rfl)) dX12_signs_2 ⟨Nat.zero_le _, Nat.zero_le _⟩) hS (va_all hD hS hA) (fun hE1 H locs hP hD hS => ?_)
  have hP : va_P G vwCl (ww_M q cs v_told v_tell v_sums v_kindOf v_modOf v_bitsOf v_turnOf v_polyOf v_beginOf v_finishOf v_isLow v_weightsOf v_weight v_cell v_size v_row v_keptSize v_keptBefore v_keptAfter v_placeA v_placeB v_turned v_turnedMany v_syndromes v_lightest v_freeMany v_freePlace v_freeSyndrome v_ways v_waysKept v_trace v_comesA v_comesB) H := hP
  have hD : va_D A (ww_M q cs v_told v_tell v_sums v_kindOf v_modOf v_bitsOf v_turnOf v_polyOf v_beginOf v_finishOf v_isLow v_weightsOf v_weight v_cell v_size v_row v_keptSize v_keptBefore v_keptAfter v_placeA v_placeB v_turned v_turnedMany v_syndromes v_lightest v_freeMany v_freePlace v_freeSyndrome v_ways v_waysKept v_trace v_comesA v_comesB) := hD
  refine lv_if_ne (tgt := 11) hx hb dX12_signs_5 (by decide) (fun b2 => ?_) (fun b2 => ?_)
  · have hm := i_f b2 hm
    refine lv_aload_n hx hb dX12_signs_11 rfl (lv_at hl 0 rfl) ?_
    refine va_get (D := G) (ci := 10) (v := .ref (q 2)) (C := RX12) (T := TX12) (N := 33) hx hb hts hinX12 hown hK.1 hP 0 rfl rfl 3 (by decide) wd1 (fun _ h9 => h9) rfl dX12_signs_12 ?_
    refine lv_iload_n hx hb dX12_signs_15 rfl (lv_at hl 1 rfl) ?_
    obtain ⟨h3, hm⟩ := g_in hm
    refine va_iald hx hb hK.1 hP 2 0 rfl rfl h3 dX12_signs_16 ?_
    refine lv_bipush (v := 6) hx hb dX12_signs_17 (by decide) ?_
    refine lv_icmp_eq (tgt := 25) hx hb dX12_signs_19 (by decide) (fun b4 => ?_) (fun b4 => ?_)
    · have hm := i_t b4 hm
      refine lv_iload_n hx hb dX12_signs_25 rfl (lv_at hl 2 rfl) ?_
      refine lv_i2l (v := x2.toInt64) hx hb dX12_signs_26 rfl ?_
      refine lv_lconst (v := 0) hx hb dX12_signs_27 (by decide) ?_
      refine lv_ldc2 (own := RX12) (v := 2) hx hb hown wd2 dX12_signs_28 ?_
      refine k_calli0 (va_runS (As := [.long x2.toInt64, .long 0, .long 2]) (rest := []) ⟨hx, hb, hml, hown, hts⟩ (c_X12_in l G cs H.size    x2.toInt64 (0 : Int64) (2 : Int64) _ rfl) (va_cwS 3 hts gX12_signs_X12_in rfl rfl rfl hd_X12_in ⟨Nat.le_of_ble_eq_true rfl, Nat.le_of_ble_eq_true rfl⟩) ⟨pre_blind, pre_w hK RO.nil P0 D0 (va_new0 hS hA)⟩ rfl rfl hl.1 rfl (lv_room (Nat.le_of_ble_eq_true rfl)) dX12_signs_31 ⟨Nat.zero_le _, Nat.zero_le _⟩) hP hS hA (fun hE5 H locs hP hS => ?_)
      refine lv_if_ne (tgt := 40) hx hb dX12_signs_34 (by decide) (fun b6 => ?_) (fun b6 => ?_)
      · have hm := i_f b6 hm
        refine lv_aload_n hx hb dX12_signs_40 rfl (lv_at hl 0 rfl) ?_
        refine va_get (D := G) (ci := 10) (v := .ref (q 3)) (C := RX12) (T := TX12) (N := 33) hx hb hts hinX12 hown hK.1 hP 0 rfl rfl 4 (by decide) wd3 (fun _ h9 => h9) rfl dX12_signs_41 ?_
        refine lv_iload_n hx hb dX12_signs_44 rfl (lv_at hl 1 rfl) ?_
        obtain ⟨h7, hm⟩ := g_in hm
        refine va_iald hx hb hK.1 hP 3 0 rfl rfl h7 dX12_signs_45 ?_
        refine lv_istore_n (lv' := [(3, .int (v_modOf x1.toNatClampNeg)), (0, .ref (q 0)), (1, .int x1), (2, .int x2)]) hx hb dX12_signs_46 rfl hl (by decide) rfl (fun ls hl => ?_)
        refine lv_iconst (v := 0) hx hb dX12_signs_47 (by decide) ?_
        refine lv_istore (lv' := [(4, .int 0), (3, .int (v_modOf x1.toNatClampNeg)), (0, .ref (q 0)), (1, .int x1), (2, .int x2)]) hx hb dX12_signs_48 hl (by decide) rfl (fun ls hl => ?_)
        obtain ⟨u50, hlp50, hm⟩ := bs hm
        refine L50 x1 x2 (v_modOf x1.toNatClampNeg) (0 : Int32) u50 hlp50 (fun r h => Option.some.inj (se_r h hm)) (fun o50 ho => ?_) H locs hP hD hS ls (lv_sub hl [2, 3, 4, 1, 0] rfl)
        have hm := se_l ho hm
        intro H locs hP hD hS ls hl
        have hl : lv_has ls 8 [] := hl
        have hP : va_P G vwCl (ww_M q cs v_told v_tell v_sums v_kindOf v_modOf v_bitsOf v_turnOf v_polyOf v_beginOf v_finishOf v_isLow v_weightsOf v_weight v_cell v_size v_row v_keptSize v_keptBefore v_keptAfter v_placeA v_placeB v_turned v_turnedMany v_syndromes v_lightest v_freeMany v_freePlace v_freeSyndrome v_ways v_waysKept v_trace v_comesA v_comesB) H := hP
        have hD : va_D A (ww_M q cs v_told v_tell v_sums v_kindOf v_modOf v_bitsOf v_turnOf v_polyOf v_beginOf v_finishOf v_isLow v_weightsOf v_weight v_cell v_size v_row v_keptSize v_keptBefore v_keptAfter v_placeA v_placeB v_turned v_turnedMany v_syndromes v_lightest v_freeMany v_freePlace v_freeSyndrome v_ways v_waysKept v_trace v_comesA v_comesB) := hD
        refine lv_iconst (v := 1) hx hb dX12_signs_254 (by decide) ?_
        have hq := Option.some.inj hm
        subst hq; subst hQ
        exact k_iret hx hb hr hlocks hP hD hS rfl trivial dX12_signs_255
      · have hm := i_t b6 hm
        refine lv_bipush (v := (-3)) hx hb dX12_signs_37 (by decide) ?_
        have hq := Option.some.inj hm
        subst hq; subst hQ
        exact k_iret hx hb hr hlocks hP hD hS rfl trivial dX12_signs_39
    · have hm := i_f b4 hm
      refine lv_bipush (v := (-4)) hx hb dX12_signs_22 (by decide) ?_
      have hq := Option.some.inj hm
      subst hq; subst hQ
      exact k_iret hx hb hr hlocks hP hD hS rfl trivial dX12_signs_24
  · have hm := i_t b2 hm
    refine lv_bipush (v := (-2)) hx hb dX12_signs_8 (by decide) ?_
    have hq := Option.some.inj hm
    subst hq; subst hQ
    exact k_iret hx hb hr hlocks hP hD hS rfl trivial dX12_signs_10

theorem hd_X12_against : yX12_against.cls ≠ "java/lang/invoke/MethodHandle" ∧ yX12_against.cls ≠ "java/lang/invoke/VarHandle" ∧ (parseMethodDescriptor yX12_against.desc).map (fun d => d.parameters.length) = some 1 := by decide +kernel

def M_X12_against (x1 : Int32) (v_sums : Int32) (v_kindOf : (Nat → Int32)) : Option Int32 :=
  if (M_X12_isSum x1 v_sums) = 0 then (some (-2)) else (if x1 < 0 ∨ 16 ≤ x1.toNatClampNeg then none else if (v_kindOf x1.toNatClampNeg) = 4 then (some 0) else (if x1 < 0 ∨ 16 ≤ x1.toNatClampNeg then none else if (v_kindOf x1.toNatClampNeg) = 5 then (some 0) else (some (-4))))

abbrev rmX12_against : Room := { frames := 2, cells := 0, slots := 0, locals := 46 }
set_option maxHeartbeats 4000000 in
set_option maxRecDepth 100000 in
theorem c_X12_against (l : Launch) (G : va_G) (cs : CS) (q : Nat → Nat) (sz : Nat) (v_told : Int32) (v_tell : (Nat → Int32)) (v_sums : Int32) (v_kindOf : (Nat → Int32)) (v_modOf : (Nat → Int32)) (v_bitsOf : (Nat → Int32)) (v_turnOf : (Nat → Int32)) (v_polyOf : (Nat → Int64)) (v_beginOf : (Nat → Int64)) (v_finishOf : (Nat → Int64)) (v_isLow : (Nat → Int32)) (v_weightsOf : (Nat → Int32)) (v_weight : (Nat → Int32)) (v_cell : (Nat → Int32)) (v_size : Int32) (v_row : (Nat → Int32)) (v_keptSize : Int32) (v_keptBefore : (Nat → Int32)) (v_keptAfter : (Nat → Int32)) (v_placeA : (Nat → Int64)) (v_placeB : (Nat → Int64)) (v_turned : (Nat → Int32)) (v_turnedMany : Int32) (v_syndromes : (Nat → Int64)) (v_lightest : (Nat → Int32)) (v_freeMany : Int32) (v_freePlace : (Nat → Int32)) (v_freeSyndrome : (Nat → Int64)) (v_ways : (Nat → Int32)) (v_waysKept : Int32) (v_trace : (Nat → Int32)) (v_comesA : Int64) (v_comesB : Int64)   (x1 : Int32) (res : Int32) (hm : M_X12_against x1 v_sums v_kindOf = some res) : Met l yX12_against wsX12_against rmX12_against (va_Pc [.ref (q 0), .int x1] (PreW G cs sz (ww_M q cs v_told v_tell v_sums v_kindOf v_modOf v_bitsOf v_turnOf v_polyOf v_beginOf v_finishOf v_isLow v_weightsOf v_weight v_cell v_size v_row v_keptSize v_keptBefore v_keptAfter v_placeA v_placeB v_turned v_turnedMany v_syndromes v_lightest v_freeMany v_freePlace v_freeSyndrome v_ways v_waysKept v_trace v_comesA v_comesB) RN)) (QI G res True (ww_M q cs v_told v_tell v_sums v_kindOf v_modOf v_bitsOf v_turnOf v_polyOf v_beginOf v_finishOf v_isLow v_weightsOf v_weight v_cell v_size v_row v_keptSize v_keptBefore v_keptAfter v_placeA v_placeB v_turned v_turnedMany v_syndromes v_lightest v_freeMany v_freePlace v_freeSyndrome v_ways v_waysKept v_trace v_comesA v_comesB) (va_A (ww_M q cs v_told v_tell v_sums v_kindOf v_modOf v_bitsOf v_turnOf v_polyOf v_beginOf v_finishOf v_isLow v_weightsOf v_weight v_cell v_size v_row v_keptSize v_keptBefore v_keptAfter v_placeA v_placeB v_turned v_turnedMany v_syndromes v_lightest v_freeMany v_freePlace v_freeSyndrome v_ways v_waysKept v_trace v_comesA v_comesB) sz)) 0 0 (va_A (ww_M q cs v_told v_tell v_sums v_kindOf v_modOf v_bitsOf v_turnOf v_polyOf v_beginOf v_finishOf v_isLow v_weightsOf v_weight v_cell v_size v_row v_keptSize v_keptBefore v_keptAfter v_placeA v_placeB v_turned v_turnedMany v_syndromes v_lightest v_freeMany v_freePlace v_freeSyndrome v_ways v_waysKept v_trace v_comesA v_comesB) sz) := by
  refine k_enter (Qf := fun A => QI G res True (ww_M q cs v_told v_tell v_sums v_kindOf v_modOf v_bitsOf v_turnOf v_polyOf v_beginOf v_finishOf v_isLow v_weightsOf v_weight v_cell v_size v_row v_keptSize v_keptBefore v_keptAfter v_placeA v_placeB v_turned v_turnedMany v_syndromes v_lightest v_freeMany v_freePlace v_freeSyndrome v_ways v_waysKept v_trace v_comesA v_comesB) A) (cc := cX12_against) (maxL := 2) (ret := (some .int)) (plainFor_of_name (by decide)) rfl (Nat.le_of_ble_eq_true rfl) ?_
  intro p e s m args below meth c A Q ls H locs hx hb hr hml hown hts hlocks hname hK hA hRo hP hD hS hQ hl
  have hl : lv_has ls 2 [(0, .ref (q 0)), (1, .int x1)] := hl
  have wd1 := hts (.fieldLink RX12 13 "SumSmithModel" "kindOf" "[I") (List.mem_of_getElem? (i := 1) rfl)
  have hinX12 : ∀ w ∈ wsX120, w ∈ wsX12_against := fun w h => List.mem_cons_of_mem _ (List.mem_append_right _ h)
  unfold M_X12_against at hm
  refine lv_aload_n hx hb dX12_against_0 rfl (lv_at hl 0 rfl) ?_
  refine lv_iload_n hx hb dX12_against_1 rfl (lv_at hl 1 rfl) ?_
  refine k_calli (va_runV (As := [.int x1]) (rest := []) ⟨hx, hb, hml, hown, hts⟩ (c_X12_isSum l G cs q H.size v_told v_tell v_sums v_kindOf v_modOf v_bitsOf v_turnOf v_polyOf v_beginOf v_finishOf v_isLow v_weightsOf v_weight v_cell v_size v_row v_keptSize v_keptBefore v_keptAfter v_placeA v_placeB v_turned v_turnedMany v_syndromes v_lightest v_freeMany v_freePlace v_freeSyndrome v_ways v_waysKept v_trace v_comesA v_comesB   x1 _ rfl) (cwV 1 hts gX12_against_X12_isSum rfl rfl rfl ⟨rfl, hd_X12_isSum⟩ ⟨Nat.le_of_ble_eq_true rfl, Nat.le_of_ble_eq_true rfl⟩) ⟨pre_blind, va_recv hK.1 hP (ci := 10) (q0 := 0) rfl rfl, pre_w hK RO.nil hP hD (va_all hD hS hA)⟩ rfl rfl hl.1 rfl (lv_room (Nat.le_of_ble_eq_true rfl)) dX12_against_2 ⟨Nat.zero_le _, Nat.zero_le _⟩) hS (va_all hD hS hA) (fun hE1 H locs hP hD hS => ?_)
  have hP : va_P G vwCl (ww_M q cs v_told v_tell v_sums v_kindOf v_modOf v_bitsOf v_turnOf v_polyOf v_beginOf v_finishOf v_isLow v_weightsOf v_weight v_cell v_size v_row v_keptSize v_keptBefore v_keptAfter v_placeA v_placeB v_turned v_turnedMany v_syndromes v_lightest v_freeMany v_freePlace v_freeSyndrome v_ways v_waysKept v_trace v_comesA v_comesB) H := hP
  have hD : va_D A (ww_M q cs v_told v_tell v_sums v_kindOf v_modOf v_bitsOf v_turnOf v_polyOf v_beginOf v_finishOf v_isLow v_weightsOf v_weight v_cell v_size v_row v_keptSize v_keptBefore v_keptAfter v_placeA v_placeB v_turned v_turnedMany v_syndromes v_lightest v_freeMany v_freePlace v_freeSyndrome v_ways v_waysKept v_trace v_comesA v_comesB) := hD
  refine lv_if_ne (tgt := 13) hx hb dX12_against_5 (by decide) (fun b2 => ?_) (fun b2 => ?_)
  · have hm := i_f b2 hm
    refine lv_aload_n hx hb dX12_against_13 rfl (lv_at hl 0 rfl) ?_
    refine va_get (D := G) (ci := 10) (v := .ref (q 2)) (C := RX12) (T := TX12) (N := 33) hx hb hts hinX12 hown hK.1 hP 0 rfl rfl 3 (by decide) wd1 (fun _ h9 => h9) rfl dX12_against_14 ?_
    refine lv_iload_n hx hb dX12_against_17 rfl (lv_at hl 1 rfl) ?_
    obtain ⟨h3, hm⟩ := g_in hm
    refine va_iald hx hb hK.1 hP 2 0 rfl rfl h3 dX12_against_18 ?_
    refine lv_iconst (v := 4) hx hb dX12_against_19 (by decide) ?_
    refine lv_icmp_eq (tgt := 38) hx hb dX12_against_20 (by decide) (fun b4 => ?_) (fun b4 => ?_)
    · have hm := i_t b4 hm
      refine lv_iconst (v := 0) hx hb dX12_against_38 (by decide) ?_
      have hq := Option.some.inj hm
      subst hq; subst hQ
      exact k_iret hx hb hr hlocks hP hD hS rfl trivial dX12_against_39
    · have hm := i_f b4 hm
      refine lv_aload_n hx hb dX12_against_23 rfl (lv_at hl 0 rfl) ?_
      refine va_get (D := G) (ci := 10) (v := .ref (q 2)) (C := RX12) (T := TX12) (N := 33) hx hb hts hinX12 hown hK.1 hP 0 rfl rfl 3 (by decide) wd1 (fun _ h9 => h9) rfl dX12_against_24 ?_
      refine lv_iload_n hx hb dX12_against_27 rfl (lv_at hl 1 rfl) ?_
      obtain ⟨h5, hm⟩ := g_in hm
      refine va_iald hx hb hK.1 hP 2 0 rfl rfl h5 dX12_against_28 ?_
      refine lv_iconst (v := 5) hx hb dX12_against_29 (by decide) ?_
      refine lv_icmp_eq (tgt := 38) hx hb dX12_against_30 (by decide) (fun b6 => ?_) (fun b6 => ?_)
      · have hm := i_t b6 hm
        refine lv_iconst (v := 0) hx hb dX12_against_38 (by decide) ?_
        have hq := Option.some.inj hm
        subst hq; subst hQ
        exact k_iret hx hb hr hlocks hP hD hS rfl trivial dX12_against_39
      · have hm := i_f b6 hm
        refine lv_bipush (v := (-4)) hx hb dX12_against_33 (by decide) ?_
        refine lv_goto (tgt := 39) hx hb dX12_against_35 (by decide) ?_
        have hq := Option.some.inj hm
        subst hq; subst hQ
        exact k_iret hx hb hr hlocks hP hD hS rfl trivial dX12_against_39
  · have hm := i_t b2 hm
    refine lv_bipush (v := (-2)) hx hb dX12_against_8 (by decide) ?_
    refine lv_goto (tgt := 39) hx hb dX12_against_10 (by decide) ?_
    have hq := Option.some.inj hm
    subst hq; subst hQ
    exact k_iret hx hb hr hlocks hP hD hS rfl trivial dX12_against_39

theorem hd_X12_syndromeOf : yX12_syndromeOf.cls ≠ "java/lang/invoke/MethodHandle" ∧ yX12_syndromeOf.cls ≠ "java/lang/invoke/VarHandle" ∧ (parseMethodDescriptor yX12_syndromeOf.desc).map (fun d => d.parameters.length) = some 3 := by decide +kernel

def M_X12_syndromeOf (n : Nat) (x1 : Int32) (x2 : Int32) (x3 : Int32) (v_bitsOf : (Nat → Int32)) (v_polyOf : (Nat → Int64)) (v_isLow : (Nat → Int32)) : Option Int64 :=
  if x1 < 0 ∨ 16 ≤ x1.toNatClampNeg then none else if x1 < 0 ∨ 16 ≤ x1.toNatClampNeg then none else if x1 < 0 ∨ 16 ≤ x1.toNatClampNeg then none else (M_X12_stepByte n (0 : Int64) ((128 : Int32) >>> ((x2 - x2 / 8 * 8) &&& 31)) (v_bitsOf x1.toNatClampNeg) (v_polyOf x1.toNatClampNeg) (v_isLow x1.toNatClampNeg)).bind fun r4 => (M_X12_passed n x1 r4 ((x3 - 1) - (x2 / 8)) v_bitsOf v_polyOf).bind fun r5 => some r5

abbrev rmX12_syndromeOf : Room := { frames := 2, cells := 0, slots := 0, locals := 59 }
set_option maxHeartbeats 4000000 in
set_option maxRecDepth 100000 in
theorem c_X12_syndromeOf (l : Launch) (G : va_G) (cs : CS) (q : Nat → Nat) (sz : Nat) (v_told : Int32) (v_tell : (Nat → Int32)) (v_sums : Int32) (v_kindOf : (Nat → Int32)) (v_modOf : (Nat → Int32)) (v_bitsOf : (Nat → Int32)) (v_turnOf : (Nat → Int32)) (v_polyOf : (Nat → Int64)) (v_beginOf : (Nat → Int64)) (v_finishOf : (Nat → Int64)) (v_isLow : (Nat → Int32)) (v_weightsOf : (Nat → Int32)) (v_weight : (Nat → Int32)) (v_cell : (Nat → Int32)) (v_size : Int32) (v_row : (Nat → Int32)) (v_keptSize : Int32) (v_keptBefore : (Nat → Int32)) (v_keptAfter : (Nat → Int32)) (v_placeA : (Nat → Int64)) (v_placeB : (Nat → Int64)) (v_turned : (Nat → Int32)) (v_turnedMany : Int32) (v_syndromes : (Nat → Int64)) (v_lightest : (Nat → Int32)) (v_freeMany : Int32) (v_freePlace : (Nat → Int32)) (v_freeSyndrome : (Nat → Int64)) (v_ways : (Nat → Int32)) (v_waysKept : Int32) (v_trace : (Nat → Int32)) (v_comesA : Int64) (v_comesB : Int64)   (x1 : Int32) (x2 : Int32) (x3 : Int32) (n : Nat) (res : Int64) (hm : M_X12_syndromeOf n x1 x2 x3 v_bitsOf v_polyOf v_isLow = some res) : Met l yX12_syndromeOf wsX12_syndromeOf rmX12_syndromeOf (va_Pc [.ref (q 0), .int x1, .int x2, .int x3] (PreW G cs sz (ww_M q cs v_told v_tell v_sums v_kindOf v_modOf v_bitsOf v_turnOf v_polyOf v_beginOf v_finishOf v_isLow v_weightsOf v_weight v_cell v_size v_row v_keptSize v_keptBefore v_keptAfter v_placeA v_placeB v_turned v_turnedMany v_syndromes v_lightest v_freeMany v_freePlace v_freeSyndrome v_ways v_waysKept v_trace v_comesA v_comesB) RN)) (QL G res (ww_M q cs v_told v_tell v_sums v_kindOf v_modOf v_bitsOf v_turnOf v_polyOf v_beginOf v_finishOf v_isLow v_weightsOf v_weight v_cell v_size v_row v_keptSize v_keptBefore v_keptAfter v_placeA v_placeB v_turned v_turnedMany v_syndromes v_lightest v_freeMany v_freePlace v_freeSyndrome v_ways v_waysKept v_trace v_comesA v_comesB) (va_A (ww_M q cs v_told v_tell v_sums v_kindOf v_modOf v_bitsOf v_turnOf v_polyOf v_beginOf v_finishOf v_isLow v_weightsOf v_weight v_cell v_size v_row v_keptSize v_keptBefore v_keptAfter v_placeA v_placeB v_turned v_turnedMany v_syndromes v_lightest v_freeMany v_freePlace v_freeSyndrome v_ways v_waysKept v_trace v_comesA v_comesB) sz)) 0 0 (va_A (ww_M q cs v_told v_tell v_sums v_kindOf v_modOf v_bitsOf v_turnOf v_polyOf v_beginOf v_finishOf v_isLow v_weightsOf v_weight v_cell v_size v_row v_keptSize v_keptBefore v_keptAfter v_placeA v_placeB v_turned v_turnedMany v_syndromes v_lightest v_freeMany v_freePlace v_freeSyndrome v_ways v_waysKept v_trace v_comesA v_comesB) sz) := by
  refine k_enter (Qf := fun A => QL G res (ww_M q cs v_told v_tell v_sums v_kindOf v_modOf v_bitsOf v_turnOf v_polyOf v_beginOf v_finishOf v_isLow v_weightsOf v_weight v_cell v_size v_row v_keptSize v_keptBefore v_keptAfter v_placeA v_placeB v_turned v_turnedMany v_syndromes v_lightest v_freeMany v_freePlace v_freeSyndrome v_ways v_waysKept v_trace v_comesA v_comesB) A) (cc := cX12_syndromeOf) (maxL := 4) (ret := (some .long)) (plainFor_of_name (by decide)) rfl (Nat.le_of_ble_eq_true rfl) ?_
  intro p e s m args below meth c A Q ls H locs hx hb hr hml hown hts hlocks hname hK hA hRo hP hD hS hQ hl
  have hl : lv_has ls 4 [(0, .ref (q 0)), (1, .int x1), (2, .int x2), (3, .int x3)] := hl
  have wd1 := hts (.fieldLink RX12 19 "SumSmithModel" "bitsOf" "[I") (List.mem_of_getElem? (i := 1) rfl)
  have wd2 := hts (.fieldLink RX12 25 "SumSmithModel" "polyOf" "[J") (List.mem_of_getElem? (i := 2) rfl)
  have wd3 := hts (.fieldLink RX12 35 "SumSmithModel" "isLow" "[Z") (List.mem_of_getElem? (i := 3) rfl)
  have hinX12 : ∀ w ∈ wsX120, w ∈ wsX12_syndromeOf := fun w h => List.mem_cons_of_mem _ (List.mem_append_right _ h)
  unfold M_X12_syndromeOf at hm
  refine lv_aload_n hx hb dX12_syndromeOf_0 rfl (lv_at hl 0 rfl) ?_
  refine lv_iload_n hx hb dX12_syndromeOf_1 rfl (lv_at hl 1 rfl) ?_
  refine lv_lconst (v := 0) hx hb dX12_syndromeOf_2 (by decide) ?_
  refine lv_sipush (v := 128) hx hb dX12_syndromeOf_3 (by decide) ?_
  refine lv_iload_n hx hb dX12_syndromeOf_6 rfl (lv_at hl 2 rfl) ?_
  refine lv_bipush (v := 8) hx hb dX12_syndromeOf_7 (by decide) ?_
  refine lv_irem hx hb dX12_syndromeOf_9 (by decide) ?_
  refine lv_ishr hx hb dX12_syndromeOf_10 ?_
  refine lv_aload_n hx hb dX12_syndromeOf_11 rfl (lv_at hl 0 rfl) ?_
  refine va_get (D := G) (ci := 10) (v := .ref (q 4)) (C := RX12) (T := TX12) (N := 33) hx hb hts hinX12 hown hK.1 hP 0 rfl rfl 5 (by decide) wd1 (fun _ h9 => h9) rfl dX12_syndromeOf_12 ?_
  refine lv_iload_n hx hb dX12_syndromeOf_15 rfl (lv_at hl 1 rfl) ?_
  obtain ⟨h1, hm⟩ := g_in hm
  refine va_iald hx hb hK.1 hP 4 0 rfl rfl h1 dX12_syndromeOf_16 ?_
  refine lv_aload_n hx hb dX12_syndromeOf_17 rfl (lv_at hl 0 rfl) ?_
  refine va_get (D := G) (ci := 10) (v := .ref (q 6)) (C := RX12) (T := TX12) (N := 33) hx hb hts hinX12 hown hK.1 hP 0 rfl rfl 7 (by decide) wd2 (fun _ h9 => h9) rfl dX12_syndromeOf_18 ?_
  refine lv_iload_n hx hb dX12_syndromeOf_21 rfl (lv_at hl 1 rfl) ?_
  obtain ⟨h2, hm⟩ := g_in hm
  refine va_lald hx hb hK.1 hP 6 1 rfl rfl h2 dX12_syndromeOf_22 ?_
  refine lv_aload_n hx hb dX12_syndromeOf_23 rfl (lv_at hl 0 rfl) ?_
  refine va_get (D := G) (ci := 10) (v := .ref (q 9)) (C := RX12) (T := TX12) (N := 33) hx hb hts hinX12 hown hK.1 hP 0 rfl rfl 10 (by decide) wd3 (fun _ h9 => h9) rfl dX12_syndromeOf_24 ?_
  refine lv_iload_n hx hb dX12_syndromeOf_27 rfl (lv_at hl 1 rfl) ?_
  obtain ⟨h3, hm⟩ := g_in hm
  refine va_zald hx hb hK.1 hP 9 2 rfl rfl h3 dX12_syndromeOf_28 ?_
  obtain ⟨r4, hc_r4, hm⟩ := bs hm
  refine k_calll0 (va_runS (As := [.long 0, .int ((128 : Int32) >>> ((x2 - x2 / 8 * 8) &&& 31)), .int (v_bitsOf x1.toNatClampNeg), .long (v_polyOf x1.toNatClampNeg), .int (v_isLow x1.toNatClampNeg)]) (rest := [.int x1, .ref (q 0)]) ⟨hx, hb, hml, hown, hts⟩ (c_X12_stepByte l G cs H.size    (0 : Int64) ((128 : Int32) >>> ((x2 - x2 / 8 * 8) &&& 31)) (v_bitsOf x1.toNatClampNeg) (v_polyOf x1.toNatClampNeg) (v_isLow x1.toNatClampNeg) n r4 hc_r4) (va_cwS 5 hts gX12_syndromeOf_X12_stepByte rfl rfl rfl hd_X12_stepByte ⟨Nat.le_of_ble_eq_true rfl, Nat.le_of_ble_eq_true rfl⟩) ⟨pre_blind, pre_w hK RO.nil P0 D0 (va_new0 hS hA)⟩ rfl rfl hl.1 rfl (lv_room (Nat.le_of_ble_eq_true rfl)) dX12_syndromeOf_29 ⟨Nat.zero_le _, Nat.zero_le _⟩) hP hS hA (fun H locs hP hS => ?_)
  refine lv_iload_n hx hb dX12_syndromeOf_32 rfl (lv_at hl 3 rfl) ?_
  refine lv_iconst (v := 1) hx hb dX12_syndromeOf_33 (by decide) ?_
  refine lv_isub hx hb dX12_syndromeOf_34 ?_
  refine lv_iload_n hx hb dX12_syndromeOf_35 rfl (lv_at hl 2 rfl) ?_
  refine lv_bipush (v := 8) hx hb dX12_syndromeOf_36 (by decide) ?_
  refine lv_idiv hx hb dX12_syndromeOf_38 (by decide) ?_
  refine lv_isub hx hb dX12_syndromeOf_39 ?_
  obtain ⟨r5, hc_r5, hm⟩ := bs hm
  refine k_calll (va_runV (As := [.int x1, .long r4, .int ((x3 - 1) - (x2 / 8))]) (rest := []) ⟨hx, hb, hml, hown, hts⟩ (c_X12_passed l G cs q H.size v_told v_tell v_sums v_kindOf v_modOf v_bitsOf v_turnOf v_polyOf v_beginOf v_finishOf v_isLow v_weightsOf v_weight v_cell v_size v_row v_keptSize v_keptBefore v_keptAfter v_placeA v_placeB v_turned v_turnedMany v_syndromes v_lightest v_freeMany v_freePlace v_freeSyndrome v_ways v_waysKept v_trace v_comesA v_comesB   x1 r4 ((x3 - 1) - (x2 / 8)) n r5 hc_r5) (cwV 3 hts gX12_syndromeOf_X12_passed rfl rfl rfl ⟨rfl, hd_X12_passed⟩ ⟨Nat.le_of_ble_eq_true rfl, Nat.le_of_ble_eq_true rfl⟩) ⟨pre_blind, va_recv hK.1 hP (ci := 10) (q0 := 0) rfl rfl, pre_w hK RO.nil hP hD (va_all hD hS hA)⟩ rfl rfl hl.1 rfl (lv_room (Nat.le_of_ble_eq_true rfl)) dX12_syndromeOf_40 ⟨Nat.zero_le _, Nat.zero_le _⟩) hS (va_all hD hS hA) (fun H locs hP hD hS => ?_)
  have hP : va_P G vwCl (ww_M q cs v_told v_tell v_sums v_kindOf v_modOf v_bitsOf v_turnOf v_polyOf v_beginOf v_finishOf v_isLow v_weightsOf v_weight v_cell v_size v_row v_keptSize v_keptBefore v_keptAfter v_placeA v_placeB v_turned v_turnedMany v_syndromes v_lightest v_freeMany v_freePlace v_freeSyndrome v_ways v_waysKept v_trace v_comesA v_comesB) H := hP
  have hD : va_D A (ww_M q cs v_told v_tell v_sums v_kindOf v_modOf v_bitsOf v_turnOf v_polyOf v_beginOf v_finishOf v_isLow v_weightsOf v_weight v_cell v_size v_row v_keptSize v_keptBefore v_keptAfter v_placeA v_placeB v_turned v_turnedMany v_syndromes v_lightest v_freeMany v_freePlace v_freeSyndrome v_ways v_waysKept v_trace v_comesA v_comesB) := hD
  have hq := Option.some.inj hm
  subst hq; subst hQ
  exact k_lret hx hb hr hlocks hP hD hS rfl dX12_syndromeOf_43

theorem hd_X12_syndrome : yX12_syndrome.cls ≠ "java/lang/invoke/MethodHandle" ∧ yX12_syndrome.cls ≠ "java/lang/invoke/VarHandle" ∧ (parseMethodDescriptor yX12_syndrome.desc).map (fun d => d.parameters.length) = some 3 := by decide +kernel

def M_X12_syndrome (n : Nat) (x1 : Int32) (x2 : Int32) (x3 : Int32) (v_sums : Int32) (v_kindOf : (Nat → Int32)) (v_bitsOf : (Nat → Int32)) (v_polyOf : (Nat → Int64)) (v_isLow : (Nat → Int32)) : Option Int64 :=
  (M_X12_against x1 v_sums v_kindOf).bind fun r1 => if r1 = 0 then (if (M_X12_in x3.toInt64 (1 : Int64) (64 : Int64)) = 0 then (some (-3)) else (if (M_X12_in x2.toInt64 (0 : Int64) (((8 * x3) - 1).toInt64)) = 0 then (some (-3)) else ((M_X12_syndromeOf n x1 x2 x3 v_bitsOf v_polyOf v_isLow).bind fun r8 => some r8))) else (some r1.toInt64)

abbrev rmX12_syndrome : Room := { frames := 3, cells := 0, slots := 0, locals := 82 }
set_option maxHeartbeats 4000000 in
set_option maxRecDepth 100000 in
theorem c_X12_syndrome (l : Launch) (G : va_G) (cs : CS) (q : Nat → Nat) (sz : Nat) (v_told : Int32) (v_tell : (Nat → Int32)) (v_sums : Int32) (v_kindOf : (Nat → Int32)) (v_modOf : (Nat → Int32)) (v_bitsOf : (Nat → Int32)) (v_turnOf : (Nat → Int32)) (v_polyOf : (Nat → Int64)) (v_beginOf : (Nat → Int64)) (v_finishOf : (Nat → Int64)) (v_isLow : (Nat → Int32)) (v_weightsOf : (Nat → Int32)) (v_weight : (Nat → Int32)) (v_cell : (Nat → Int32)) (v_size : Int32) (v_row : (Nat → Int32)) (v_keptSize : Int32) (v_keptBefore : (Nat → Int32)) (v_keptAfter : (Nat → Int32)) (v_placeA : (Nat → Int64)) (v_placeB : (Nat → Int64)) (v_turned : (Nat → Int32)) (v_turnedMany : Int32) (v_syndromes : (Nat → Int64)) (v_lightest : (Nat → Int32)) (v_freeMany : Int32) (v_freePlace : (Nat → Int32)) (v_freeSyndrome : (Nat → Int64)) (v_ways : (Nat → Int32)) (v_waysKept : Int32) (v_trace : (Nat → Int32)) (v_comesA : Int64) (v_comesB : Int64)   (x1 : Int32) (x2 : Int32) (x3 : Int32) (n : Nat) (res : Int64) (hm : M_X12_syndrome n x1 x2 x3 v_sums v_kindOf v_bitsOf v_polyOf v_isLow = some res) : Met l yX12_syndrome wsX12_syndrome rmX12_syndrome (va_Pc [.ref (q 0), .int x1, .int x2, .int x3] (PreW G cs sz (ww_M q cs v_told v_tell v_sums v_kindOf v_modOf v_bitsOf v_turnOf v_polyOf v_beginOf v_finishOf v_isLow v_weightsOf v_weight v_cell v_size v_row v_keptSize v_keptBefore v_keptAfter v_placeA v_placeB v_turned v_turnedMany v_syndromes v_lightest v_freeMany v_freePlace v_freeSyndrome v_ways v_waysKept v_trace v_comesA v_comesB) RN)) (QL G res (ww_M q cs v_told v_tell v_sums v_kindOf v_modOf v_bitsOf v_turnOf v_polyOf v_beginOf v_finishOf v_isLow v_weightsOf v_weight v_cell v_size v_row v_keptSize v_keptBefore v_keptAfter v_placeA v_placeB v_turned v_turnedMany v_syndromes v_lightest v_freeMany v_freePlace v_freeSyndrome v_ways v_waysKept v_trace v_comesA v_comesB) (va_A (ww_M q cs v_told v_tell v_sums v_kindOf v_modOf v_bitsOf v_turnOf v_polyOf v_beginOf v_finishOf v_isLow v_weightsOf v_weight v_cell v_size v_row v_keptSize v_keptBefore v_keptAfter v_placeA v_placeB v_turned v_turnedMany v_syndromes v_lightest v_freeMany v_freePlace v_freeSyndrome v_ways v_waysKept v_trace v_comesA v_comesB) sz)) 0 0 (va_A (ww_M q cs v_told v_tell v_sums v_kindOf v_modOf v_bitsOf v_turnOf v_polyOf v_beginOf v_finishOf v_isLow v_weightsOf v_weight v_cell v_size v_row v_keptSize v_keptBefore v_keptAfter v_placeA v_placeB v_turned v_turnedMany v_syndromes v_lightest v_freeMany v_freePlace v_freeSyndrome v_ways v_waysKept v_trace v_comesA v_comesB) sz) := by
  refine k_enter (Qf := fun A => QL G res (ww_M q cs v_told v_tell v_sums v_kindOf v_modOf v_bitsOf v_turnOf v_polyOf v_beginOf v_finishOf v_isLow v_weightsOf v_weight v_cell v_size v_row v_keptSize v_keptBefore v_keptAfter v_placeA v_placeB v_turned v_turnedMany v_syndromes v_lightest v_freeMany v_freePlace v_freeSyndrome v_ways v_waysKept v_trace v_comesA v_comesB) A) (cc := cX12_syndrome) (maxL := 5) (ret := (some .long)) (plainFor_of_name (by decide)) rfl (Nat.le_of_ble_eq_true rfl) ?_
  intro p e s m args below meth c A Q ls H locs hx hb hr hml hown hts hlocks hname hK hA hRo hP hD hS hQ hl
  have hl : lv_has ls 5 [(0, .ref (q 0)), (1, .int x1), (2, .int x2), (3, .int x3)] := hl
  have wd1 := hts (.constantLong RX12 238 (64)) (List.mem_of_getElem? (i := 1) rfl)
  have wd2 := hts (.constantLong RX12 160 (-3)) (List.mem_of_getElem? (i := 2) rfl)
  unfold M_X12_syndrome at hm
  refine lv_aload_n hx hb dX12_syndrome_0 rfl (lv_at hl 0 rfl) ?_
  refine lv_iload_n hx hb dX12_syndrome_1 rfl (lv_at hl 1 rfl) ?_
  obtain ⟨r1, hc_r1, hm⟩ := bs hm
  refine k_calli (va_runV (As := [.int x1]) (rest := []) ⟨hx, hb, hml, hown, hts⟩ (c_X12_against l G cs q H.size v_told v_tell v_sums v_kindOf v_modOf v_bitsOf v_turnOf v_polyOf v_beginOf v_finishOf v_isLow v_weightsOf v_weight v_cell v_size v_row v_keptSize v_keptBefore v_keptAfter v_placeA v_placeB v_turned v_turnedMany v_syndromes v_lightest v_freeMany v_freePlace v_freeSyndrome v_ways v_waysKept v_trace v_comesA v_comesB   x1 r1 hc_r1) (cwV 1 hts gX12_syndrome_X12_against rfl rfl rfl ⟨rfl, hd_X12_against⟩ ⟨Nat.le_of_ble_eq_true rfl, Nat.le_of_ble_eq_true rfl⟩) ⟨pre_blind, va_recv hK.1 hP (ci := 10) (q0 := 0) rfl rfl, pre_w hK RO.nil hP hD (va_all hD hS hA)⟩ rfl rfl hl.1 rfl (lv_room (Nat.le_of_ble_eq_true rfl)) dX12_syndrome_2 ⟨Nat.zero_le _, Nat.zero_le _⟩) hS (va_all hD hS hA) (fun hE2 H locs hP hD hS => ?_)
  have hP : va_P G vwCl (ww_M q cs v_told v_tell v_sums v_kindOf v_modOf v_bitsOf v_turnOf v_polyOf v_beginOf v_finishOf v_isLow v_weightsOf v_weight v_cell v_size v_row v_keptSize v_keptBefore v_keptAfter v_placeA v_placeB v_turned v_turnedMany v_syndromes v_lightest v_freeMany v_freePlace v_freeSyndrome v_ways v_waysKept v_trace v_comesA v_comesB) H := hP
  have hD : va_D A (ww_M q cs v_told v_tell v_sums v_kindOf v_modOf v_bitsOf v_turnOf v_polyOf v_beginOf v_finishOf v_isLow v_weightsOf v_weight v_cell v_size v_row v_keptSize v_keptBefore v_keptAfter v_placeA v_placeB v_turned v_turnedMany v_syndromes v_lightest v_freeMany v_freePlace v_freeSyndrome v_ways v_waysKept v_trace v_comesA v_comesB) := hD
  refine lv_istore (lv' := [(4, .int r1), (0, .ref (q 0)), (1, .int x1), (2, .int x2), (3, .int x3)]) hx hb dX12_syndrome_5 hl (by decide) rfl (fun ls hl => ?_)
  refine lv_iload hx hb dX12_syndrome_7 (lv_at hl 0 rfl) ?_
  refine lv_if_eq (tgt := 16) hx hb dX12_syndrome_9 (by decide) (fun b3 => ?_) (fun b3 => ?_)
  · have hm := i_t b3 hm
    refine lv_iload_n hx hb dX12_syndrome_16 rfl (lv_at hl 4 rfl) ?_
    refine lv_i2l (v := x3.toInt64) hx hb dX12_syndrome_17 rfl ?_
    refine lv_lconst (v := 1) hx hb dX12_syndrome_18 (by decide) ?_
    refine lv_ldc2 (own := RX12) (v := 64) hx hb hown wd1 dX12_syndrome_19 ?_
    refine k_calli0 (va_runS (As := [.long x3.toInt64, .long 1, .long 64]) (rest := []) ⟨hx, hb, hml, hown, hts⟩ (c_X12_in l G cs H.size    x3.toInt64 (1 : Int64) (64 : Int64) _ rfl) (va_cwS 3 hts gX12_syndrome_X12_in rfl rfl rfl hd_X12_in ⟨Nat.le_of_ble_eq_true rfl, Nat.le_of_ble_eq_true rfl⟩) ⟨pre_blind, pre_w hK RO.nil P0 D0 (va_new0 hS hA)⟩ rfl rfl hl.1 rfl (lv_room (Nat.le_of_ble_eq_true rfl)) dX12_syndrome_22 ⟨Nat.zero_le _, Nat.zero_le _⟩) hP hS hA (fun hE4 H locs hP hS => ?_)
    refine lv_if_eq (tgt := 44) hx hb dX12_syndrome_25 (by decide) (fun b5 => ?_) (fun b5 => ?_)
    · have hm := i_t b5 hm
      refine lv_ldc2 (own := RX12) (v := (-3)) hx hb hown wd2 dX12_syndrome_44 ?_
      have hq := Option.some.inj hm
      subst hq; subst hQ
      exact k_lret hx hb hr hlocks hP hD hS rfl dX12_syndrome_47
    · have hm := i_f b5 hm
      refine lv_iload_n hx hb dX12_syndrome_28 rfl (lv_at hl 3 rfl) ?_
      refine lv_i2l (v := x2.toInt64) hx hb dX12_syndrome_29 rfl ?_
      refine lv_lconst (v := 0) hx hb dX12_syndrome_30 (by decide) ?_
      refine lv_bipush (v := 8) hx hb dX12_syndrome_31 (by decide) ?_
      refine lv_iload_n hx hb dX12_syndrome_33 rfl (lv_at hl 4 rfl) ?_
      refine lv_imul hx hb dX12_syndrome_34 ?_
      refine lv_iconst (v := 1) hx hb dX12_syndrome_35 (by decide) ?_
      refine lv_isub hx hb dX12_syndrome_36 ?_
      refine lv_i2l (v := ((8 * x3) - 1).toInt64) hx hb dX12_syndrome_37 rfl ?_
      refine k_calli0 (va_runS (As := [.long x2.toInt64, .long 0, .long (((8 * x3) - 1).toInt64)]) (rest := []) ⟨hx, hb, hml, hown, hts⟩ (c_X12_in l G cs H.size    x2.toInt64 (0 : Int64) (((8 * x3) - 1).toInt64) _ rfl) (va_cwS 3 hts gX12_syndrome_X12_in rfl rfl rfl hd_X12_in ⟨Nat.le_of_ble_eq_true rfl, Nat.le_of_ble_eq_true rfl⟩) ⟨pre_blind, pre_w hK RO.nil P0 D0 (va_new0 hS hA)⟩ rfl rfl hl.1 rfl (lv_room (Nat.le_of_ble_eq_true rfl)) dX12_syndrome_38 ⟨Nat.zero_le _, Nat.zero_le _⟩) hP hS hA (fun hE6 H locs hP hS => ?_)
      refine lv_if_ne (tgt := 48) hx hb dX12_syndrome_41 (by decide) (fun b7 => ?_) (fun b7 => ?_)
      · have hm := i_f b7 hm
        refine lv_aload_n hx hb dX12_syndrome_48 rfl (lv_at hl 1 rfl) ?_
        refine lv_iload_n hx hb dX12_syndrome_49 rfl (lv_at hl 2 rfl) ?_
        refine lv_iload_n hx hb dX12_syndrome_50 rfl (lv_at hl 3 rfl) ?_
        refine lv_iload_n hx hb dX12_syndrome_51 rfl (lv_at hl 4 rfl) ?_
        obtain ⟨r8, hc_r8, hm⟩ := bs hm
        refine k_calll (va_runV (As := [.int x1, .int x2, .int x3]) (rest := []) ⟨hx, hb, hml, hown, hts⟩ (c_X12_syndromeOf l G cs q H.size v_told v_tell v_sums v_kindOf v_modOf v_bitsOf v_turnOf v_polyOf v_beginOf v_finishOf v_isLow v_weightsOf v_weight v_cell v_size v_row v_keptSize v_keptBefore v_keptAfter v_placeA v_placeB v_turned v_turnedMany v_syndromes v_lightest v_freeMany v_freePlace v_freeSyndrome v_ways v_waysKept v_trace v_comesA v_comesB   x1 x2 x3 n r8 hc_r8) (cwV 3 hts gX12_syndrome_X12_syndromeOf rfl rfl rfl ⟨rfl, hd_X12_syndromeOf⟩ ⟨Nat.le_of_ble_eq_true rfl, Nat.le_of_ble_eq_true rfl⟩) ⟨pre_blind, va_recv hK.1 hP (ci := 10) (q0 := 0) rfl rfl, pre_w hK RO.nil hP hD (va_all hD hS hA)⟩ rfl rfl hl.1 rfl (lv_room (Nat.le_of_ble_eq_true rfl)) dX12_syndrome_52 ⟨Nat.zero_le _, Nat.zero_le _⟩) hS (va_all hD hS hA) (fun H locs hP hD hS => ?_)
        have hP : va_P G vwCl (ww_M q cs v_told v_tell v_sums v_kindOf v_modOf v_bitsOf v_turnOf v_polyOf v_beginOf v_finishOf v_isLow v_weightsOf v_weight v_cell v_size v_row v_keptSize v_keptBefore v_keptAfter v_placeA v_placeB v_turned v_turnedMany v_syndromes v_lightest v_freeMany v_freePlace v_freeSyndrome v_ways v_waysKept v_trace v_comesA v_comesB) H := hP
        have hD : va_D A (ww_M q cs v_told v_tell v_sums v_kindOf v_modOf v_bitsOf v_turnOf v_polyOf v_beginOf v_finishOf v_isLow v_weightsOf v_weight v_cell v_size v_row v_keptSize v_keptBefore v_keptAfter v_placeA v_placeB v_turned v_turnedMany v_syndromes v_lightest v_freeMany v_freePlace v_freeSyndrome v_ways v_waysKept v_trace v_comesA v_comesB) := hD
        have hq := Option.some.inj hm
        subst hq; subst hQ
        exact k_lret hx hb hr hlocks hP hD hS rfl dX12_syndrome_55
      · have hm := i_t b7 hm
        refine lv_ldc2 (own := RX12) (v := (-3)) hx hb hown wd2 dX12_syndrome_44 ?_
        have hq := Option.some.inj hm
        subst hq; subst hQ
        exact k_lret hx hb hr hlocks hP hD hS rfl dX12_syndrome_47
  · have hm := i_f b3 hm
    refine lv_iload hx hb dX12_syndrome_12 (lv_at hl 0 rfl) ?_
    refine lv_i2l (v := r1.toInt64) hx hb dX12_syndrome_14 rfl ?_
    have hq := Option.some.inj hm
    subst hq; subst hQ
    exact k_lret hx hb hr hlocks hP hD hS rfl dX12_syndrome_15

theorem hd_X12_findSyndromes : yX12_findSyndromes.cls ≠ "java/lang/invoke/MethodHandle" ∧ yX12_findSyndromes.cls ≠ "java/lang/invoke/VarHandle" ∧ (parseMethodDescriptor yX12_findSyndromes.desc).map (fun d => d.parameters.length) = some 2 := by decide +kernel

def M_X12_findSyndromes_b2 (n : Nat) (x1 : Int32) (x2 : Int32) (v_bitsOf : (Nat → Int32)) (v_polyOf : (Nat → Int64)) (v_isLow : (Nat → Int32)) (x3 : Int32) (v_syndromes : (Nat → Int64)) : Option ((Int32 × (Nat → Int64)) ⊕ (Nat → Int64)) :=
  if (8 * x2) ≤ x3 then (some (.inr v_syndromes)) else ((M_X12_syndromeOf n x1 x3 x2 v_bitsOf v_polyOf v_isLow).bind fun r2 => if x3 < 0 ∨ 512 ≤ x3.toNatClampNeg then none else some (.inl (x3 + 1, (vp_updL v_syndromes x3.toNatClampNeg r2))))

def M_X12_findSyndromes (n : Nat) (x1 : Int32) (x2 : Int32) (v_bitsOf : (Nat → Int32)) (v_polyOf : (Nat → Int64)) (v_isLow : (Nat → Int32)) (v_syndromes : (Nat → Int64)) : Option (Nat → Int64) :=
  (lp (fun x : (Int32 × (Nat → Int64)) => M_X12_findSyndromes_b2 n x1 x2 v_bitsOf v_polyOf v_isLow x.1 x.2) n ((0 : Int32), v_syndromes)).bind fun o4 => some o4

abbrev rmX12_findSyndromes : Room := { frames := 3, cells := 0, slots := 0, locals := 82 }
set_option maxHeartbeats 4000000 in
set_option maxRecDepth 100000 in
theorem c_X12_findSyndromes (l : Launch) (G : va_G) (cs : CS) (q : Nat → Nat) (sz : Nat) (v_told : Int32) (v_tell : (Nat → Int32)) (v_sums : Int32) (v_kindOf : (Nat → Int32)) (v_modOf : (Nat → Int32)) (v_bitsOf : (Nat → Int32)) (v_turnOf : (Nat → Int32)) (v_polyOf : (Nat → Int64)) (v_beginOf : (Nat → Int64)) (v_finishOf : (Nat → Int64)) (v_isLow : (Nat → Int32)) (v_weightsOf : (Nat → Int32)) (v_weight : (Nat → Int32)) (v_cell : (Nat → Int32)) (v_size : Int32) (v_row : (Nat → Int32)) (v_keptSize : Int32) (v_keptBefore : (Nat → Int32)) (v_keptAfter : (Nat → Int32)) (v_placeA : (Nat → Int64)) (v_placeB : (Nat → Int64)) (v_turned : (Nat → Int32)) (v_turnedMany : Int32) (v_syndromes : (Nat → Int64)) (v_lightest : (Nat → Int32)) (v_freeMany : Int32) (v_freePlace : (Nat → Int32)) (v_freeSyndrome : (Nat → Int64)) (v_ways : (Nat → Int32)) (v_waysKept : Int32) (v_trace : (Nat → Int32)) (v_comesA : Int64) (v_comesB : Int64)   (x1 : Int32) (x2 : Int32) (n : Nat) (res : (Nat → Int64)) (hm : M_X12_findSyndromes n x1 x2 v_bitsOf v_polyOf v_isLow v_syndromes = some res) : Met l yX12_findSyndromes wsX12_findSyndromes rmX12_findSyndromes (va_Pc [.ref (q 0), .int x1, .int x2] (PreW G cs sz (ww_M q cs v_told v_tell v_sums v_kindOf v_modOf v_bitsOf v_turnOf v_polyOf v_beginOf v_finishOf v_isLow v_weightsOf v_weight v_cell v_size v_row v_keptSize v_keptBefore v_keptAfter v_placeA v_placeB v_turned v_turnedMany v_syndromes v_lightest v_freeMany v_freePlace v_freeSyndrome v_ways v_waysKept v_trace v_comesA v_comesB) RN)) (QV G (ww_M q cs v_told v_tell v_sums v_kindOf v_modOf v_bitsOf v_turnOf v_polyOf v_beginOf v_finishOf v_isLow v_weightsOf v_weight v_cell v_size v_row v_keptSize v_keptBefore v_keptAfter v_placeA v_placeB v_turned v_turnedMany res v_lightest v_freeMany v_freePlace v_freeSyndrome v_ways v_waysKept v_trace v_comesA v_comesB) (va_A (ww_M q cs v_told v_tell v_sums v_kindOf v_modOf v_bitsOf v_turnOf v_polyOf v_beginOf v_finishOf v_isLow v_weightsOf v_weight v_cell v_size v_row v_keptSize v_keptBefore v_keptAfter v_placeA v_placeB v_turned v_turnedMany v_syndromes v_lightest v_freeMany v_freePlace v_freeSyndrome v_ways v_waysKept v_trace v_comesA v_comesB) sz)) 0 0 (va_A (ww_M q cs v_told v_tell v_sums v_kindOf v_modOf v_bitsOf v_turnOf v_polyOf v_beginOf v_finishOf v_isLow v_weightsOf v_weight v_cell v_size v_row v_keptSize v_keptBefore v_keptAfter v_placeA v_placeB v_turned v_turnedMany v_syndromes v_lightest v_freeMany v_freePlace v_freeSyndrome v_ways v_waysKept v_trace v_comesA v_comesB) sz) := by
  refine k_enter (Qf := fun A => QV G (ww_M q cs v_told v_tell v_sums v_kindOf v_modOf v_bitsOf v_turnOf v_polyOf v_beginOf v_finishOf v_isLow v_weightsOf v_weight v_cell v_size v_row v_keptSize v_keptBefore v_keptAfter v_placeA v_placeB v_turned v_turnedMany res v_lightest v_freeMany v_freePlace v_freeSyndrome v_ways v_waysKept v_trace v_comesA v_comesB) A) (cc := cX12_findSyndromes) (maxL := 4) (ret := none) (plainFor_of_name (by decide)) rfl (Nat.le_of_ble_eq_true rfl) ?_
  intro p e s m args below meth c A Q ls H locs hx hb hr hml hown hts hlocks hname hK hA hRo hP hD hS hQ hl
  have hl : lv_has ls 4 [(0, .ref (q 0)), (1, .int x1), (2, .int x2)] := hl
  have wd1 := hts (.fieldLink RX12 66 "SumSmithModel" "syndromes" "[J") (List.mem_of_getElem? (i := 1) rfl)
  have hinX12 : ∀ w ∈ wsX120, w ∈ wsX12_findSyndromes := fun w h => List.mem_cons_of_mem _ (List.mem_append_right _ h)
  have L2 : ∀ (x1 : Int32) (x2 : Int32) (x3 : Int32) (v_syndromes : (Nat → Int64)) (out : (Nat → Int64)), lp (fun x : (Int32 × (Nat → Int64)) => M_X12_findSyndromes_b2 n x1 x2 v_bitsOf v_polyOf v_isLow x.1 x.2) n (x3, v_syndromes) = some out → (∀ (o : (Nat → Int64)), out = o → ∀ (H : Heap) (locs : List Loc), va_P G vwCl (ww_M q cs v_told v_tell v_sums v_kindOf v_modOf v_bitsOf v_turnOf v_polyOf v_beginOf v_finishOf v_isLow v_weightsOf v_weight v_cell v_size v_row v_keptSize v_keptBefore v_keptAfter v_placeA v_placeB v_turned v_turnedMany o v_lightest v_freeMany v_freePlace v_freeSyndrome v_ways v_waysKept v_trace v_comesA v_comesB) H → va_D A (ww_M q cs v_told v_tell v_sums v_kindOf v_modOf v_bitsOf v_turnOf v_polyOf v_beginOf v_finishOf v_isLow v_weightsOf v_weight v_cell v_size v_row v_keptSize v_keptBefore v_keptAfter v_placeA v_placeB v_turned v_turnedMany o v_lightest v_freeMany v_freePlace v_freeSyndrome v_ways v_waysKept v_trace v_comesA v_comesB) → va_S A s.heap H locs → ∀ (ls : Array Slot), lv_has ls 4 [] → W p l e rmX12_findSyndromes s m args below meth c H locs 0 0 Q (F0 m 29 ls [])) → ∀ (H : Heap) (locs : List Loc), va_P G vwCl (ww_M q cs v_told v_tell v_sums v_kindOf v_modOf v_bitsOf v_turnOf v_polyOf v_beginOf v_finishOf v_isLow v_weightsOf v_weight v_cell v_size v_row v_keptSize v_keptBefore v_keptAfter v_placeA v_placeB v_turned v_turnedMany v_syndromes v_lightest v_freeMany v_freePlace v_freeSyndrome v_ways v_waysKept v_trace v_comesA v_comesB) H → va_D A (ww_M q cs v_told v_tell v_sums v_kindOf v_modOf v_bitsOf v_turnOf v_polyOf v_beginOf v_finishOf v_isLow v_weightsOf v_weight v_cell v_size v_row v_keptSize v_keptBefore v_keptAfter v_placeA v_placeB v_turned v_turnedMany v_syndromes v_lightest v_freeMany v_freePlace v_freeSyndrome v_ways v_waysKept v_trace v_comesA v_comesB) → va_S A s.heap H locs → ∀ (ls : Array Slot), lv_has ls 4 [(0, .ref (q 0)), (1, .int x1), (2, .int x2), (3, .int x3)] → W p l e rmX12_findSyndromes s m args below meth c H locs 0 0 Q (F0 m 2 ls []) := by
    intro x1 x2 x3 v_syndromes out hlp hX
    refine lp_ind (fun x => ∀ (H : Heap) (locs : List Loc), va_P G vwCl (ww_M q cs v_told v_tell v_sums v_kindOf v_modOf v_bitsOf v_turnOf v_polyOf v_beginOf v_finishOf v_isLow v_weightsOf v_weight v_cell v_size v_row v_keptSize v_keptBefore v_keptAfter v_placeA v_placeB v_turned v_turnedMany x.2 v_lightest v_freeMany v_freePlace v_freeSyndrome v_ways v_waysKept v_trace v_comesA v_comesB) H → va_D A (ww_M q cs v_told v_tell v_sums v_kindOf v_modOf v_bitsOf v_turnOf v_polyOf v_beginOf v_finishOf v_isLow v_weightsOf v_weight v_cell v_size v_row v_keptSize v_keptBefore v_keptAfter v_placeA v_placeB v_turned v_turnedMany x.2 v_lightest v_freeMany v_freePlace v_freeSyndrome v_ways v_waysKept v_trace v_comesA v_comesB) → va_S A s.heap H locs → ∀ (ls : Array Slot), lv_has ls 4 [(0, .ref (q 0)), (1, .int x1), (2, .int x2), (3, .int x.1)] → W p l e rmX12_findSyndromes s m args below meth c H locs 0 0 Q (F0 m 2 ls [])) ?_ n (x3, v_syndromes) hlp
    clear hlp hP hD hS hl
    rintro ⟨x3, v_syndromes⟩ ob hm hst H locs hP hD hS ls hl
    have hm : M_X12_findSyndromes_b2 n x1 x2 v_bitsOf v_polyOf v_isLow x3 v_syndromes = some ob := hm
    have hl : lv_has ls 4 [(0, .ref (q 0)), (1, .int x1), (2, .int x2), (3, .int x3)] := hl
    have hP : va_P G vwCl (ww_M q cs v_told v_tell v_sums v_kindOf v_modOf v_bitsOf v_turnOf v_polyOf v_beginOf v_finishOf v_isLow v_weightsOf v_weight v_cell v_size v_row v_keptSize v_keptBefore v_keptAfter v_placeA v_placeB v_turned v_turnedMany v_syndromes v_lightest v_freeMany v_freePlace v_freeSyndrome v_ways v_waysKept v_trace v_comesA v_comesB) H := hP
    have hD : va_D A (ww_M q cs v_told v_tell v_sums v_kindOf v_modOf v_bitsOf v_turnOf v_polyOf v_beginOf v_finishOf v_isLow v_weightsOf v_weight v_cell v_size v_row v_keptSize v_keptBefore v_keptAfter v_placeA v_placeB v_turned v_turnedMany v_syndromes v_lightest v_freeMany v_freePlace v_freeSyndrome v_ways v_waysKept v_trace v_comesA v_comesB) := hD
    unfold M_X12_findSyndromes_b2 at hm
    refine lv_iload_n hx hb dX12_findSyndromes_2 rfl (lv_at hl 3 rfl) ?_
    refine lv_bipush (v := 8) hx hb dX12_findSyndromes_3 (by decide) ?_
    refine lv_iload_n hx hb dX12_findSyndromes_5 rfl (lv_at hl 2 rfl) ?_
    refine lv_imul hx hb dX12_findSyndromes_6 ?_
    refine lv_icmp_ge (tgt := 29) hx hb dX12_findSyndromes_7 (by decide) (fun b1 => ?_) (fun b1 => ?_)
    · have hm := i_t b1 hm
      exact hX _ (st_exit hm hst) H locs hP hD hS ls (lv_sub hl [] rfl)
    · have hm := i_f b1 hm
      refine lv_aload_n hx hb dX12_findSyndromes_10 rfl (lv_at hl 0 rfl) ?_
      refine va_get (D := G) (ci := 10) (v := .ref (q 19)) (C := RX12) (T := TX12) (N := 33) hx hb hts hinX12 hown hK.1 hP 0 rfl rfl 23 (by decide) wd1 (fun _ h9 => h9) rfl dX12_findSyndromes_11 ?_
      refine lv_iload_n hx hb dX12_findSyndromes_14 rfl (lv_at hl 3 rfl) ?_
      refine lv_aload_n hx hb dX12_findSyndromes_15 rfl (lv_at hl 0 rfl) ?_
      refine lv_iload_n hx hb dX12_findSyndromes_16 rfl (lv_at hl 1 rfl) ?_
      refine lv_iload_n hx hb dX12_findSyndromes_17 rfl (lv_at hl 3 rfl) ?_
      refine lv_iload_n hx hb dX12_findSyndromes_18 rfl (lv_at hl 2 rfl) ?_
      obtain ⟨r2, hc_r2, hm⟩ := bs hm
      refine k_calll (va_runV (As := [.int x1, .int x3, .int x2]) (rest := [.int x3, .ref (q 19)]) ⟨hx, hb, hml, hown, hts⟩ (c_X12_syndromeOf l G cs q H.size v_told v_tell v_sums v_kindOf v_modOf v_bitsOf v_turnOf v_polyOf v_beginOf v_finishOf v_isLow v_weightsOf v_weight v_cell v_size v_row v_keptSize v_keptBefore v_keptAfter v_placeA v_placeB v_turned v_turnedMany v_syndromes v_lightest v_freeMany v_freePlace v_freeSyndrome v_ways v_waysKept v_trace v_comesA v_comesB   x1 x3 x2 n r2 hc_r2) (cwV 3 hts gX12_findSyndromes_X12_syndromeOf rfl rfl rfl ⟨rfl, hd_X12_syndromeOf⟩ ⟨Nat.le_of_ble_eq_true rfl, Nat.le_of_ble_eq_true rfl⟩) ⟨pre_blind, va_recv hK.1 hP (ci := 10) (q0 := 0) rfl rfl, pre_w hK RO.nil hP hD (va_all hD hS hA)⟩ rfl rfl hl.1 rfl (lv_room (Nat.le_of_ble_eq_true rfl)) dX12_findSyndromes_19 ⟨Nat.zero_le _, Nat.zero_le _⟩) hS (va_all hD hS hA) (fun H locs hP hD hS => ?_)
      have hP : va_P G vwCl (ww_M q cs v_told v_tell v_sums v_kindOf v_modOf v_bitsOf v_turnOf v_polyOf v_beginOf v_finishOf v_isLow v_weightsOf v_weight v_cell v_size v_row v_keptSize v_keptBefore v_keptAfter v_placeA v_placeB v_turned v_turnedMany v_syndromes v_lightest v_freeMany v_freePlace v_freeSyndrome v_ways v_waysKept v_trace v_comesA v_comesB) H := hP
      have hD : va_D A (ww_M q cs v_told v_tell v_sums v_kindOf v_modOf v_bitsOf v_turnOf v_polyOf v_beginOf v_finishOf v_isLow v_weightsOf v_weight v_cell v_size v_row v_keptSize v_keptBefore v_keptAfter v_placeA v_placeB v_turned v_turnedMany v_syndromes v_lightest v_freeMany v_freePlace v_freeSyndrome v_ways v_waysKept v_trace v_comesA v_comesB) := hD
      obtain ⟨h3, hm⟩ := g_in hm
      refine va_last hx hb hK.1 hP hD hS 19 1 rfl rfl h3 dX12_findSyndromes_22 (fun H locs hP hD hS => ?_)
      have hP : va_P G vwCl (ww_M q cs v_told v_tell v_sums v_kindOf v_modOf v_bitsOf v_turnOf v_polyOf v_beginOf v_finishOf v_isLow v_weightsOf v_weight v_cell v_size v_row v_keptSize v_keptBefore v_keptAfter v_placeA v_placeB v_turned v_turnedMany (vp_updL v_syndromes x3.toNatClampNeg r2) v_lightest v_freeMany v_freePlace v_freeSyndrome v_ways v_waysKept v_trace v_comesA v_comesB) H := hP
      have hD : va_D A (ww_M q cs v_told v_tell v_sums v_kindOf v_modOf v_bitsOf v_turnOf v_polyOf v_beginOf v_finishOf v_isLow v_weightsOf v_weight v_cell v_size v_row v_keptSize v_keptBefore v_keptAfter v_placeA v_placeB v_turned v_turnedMany (vp_updL v_syndromes x3.toNatClampNeg r2) v_lightest v_freeMany v_freePlace v_freeSyndrome v_ways v_waysKept v_trace v_comesA v_comesB) := hD
      refine lv_iinc (v := x3 + 1) (lv' := [(3, .int (x3 + 1)), (0, .ref (q 0)), (1, .int x1), (2, .int x2)]) hx hb dX12_findSyndromes_23 hl (k := 3) rfl rfl (by decide) rfl (fun ls hl => ?_)
      refine lv_goto (tgt := 2) hx hb dX12_findSyndromes_26 (by decide) ?_
      exact st_next hm hst H locs hP hD hS ls (lv_sub hl [1, 2, 3, 0] rfl)
  unfold M_X12_findSyndromes at hm
  refine lv_iconst (v := 0) hx hb dX12_findSyndromes_0 (by decide) ?_
  refine lv_istore_n (lv' := [(3, .int 0), (0, .ref (q 0)), (1, .int x1), (2, .int x2)]) hx hb dX12_findSyndromes_1 rfl hl (by decide) rfl (fun ls hl => ?_)
  obtain ⟨o4, hlp4, hm⟩ := bs hm
  refine L2 x1 x2 (0 : Int32) v_syndromes o4 hlp4 (fun oo ho => ?_) H locs hP hD hS ls (lv_sub hl [1, 2, 3, 0] rfl)
  subst ho
  intro H locs hP hD hS ls hl
  have hl : lv_has ls 4 [] := hl
  have hP : va_P G vwCl (ww_M q cs v_told v_tell v_sums v_kindOf v_modOf v_bitsOf v_turnOf v_polyOf v_beginOf v_finishOf v_isLow v_weightsOf v_weight v_cell v_size v_row v_keptSize v_keptBefore v_keptAfter v_placeA v_placeB v_turned v_turnedMany o4 v_lightest v_freeMany v_freePlace v_freeSyndrome v_ways v_waysKept v_trace v_comesA v_comesB) H := hP
  have hD : va_D A (ww_M q cs v_told v_tell v_sums v_kindOf v_modOf v_bitsOf v_turnOf v_polyOf v_beginOf v_finishOf v_isLow v_weightsOf v_weight v_cell v_size v_row v_keptSize v_keptBefore v_keptAfter v_placeA v_placeB v_turned v_turnedMany o4 v_lightest v_freeMany v_freePlace v_freeSyndrome v_ways v_waysKept v_trace v_comesA v_comesB) := hD
  have hq := Option.some.inj hm
  subst hq; subst hQ
  exact k_vret hx hb hr hlocks hP hD hS dX12_findSyndromes_29

theorem hd_X12_isZero : yX12_isZero.cls ≠ "java/lang/invoke/MethodHandle" ∧ yX12_isZero.cls ≠ "java/lang/invoke/VarHandle" ∧ (parseMethodDescriptor yX12_isZero.desc).map (fun d => d.parameters.length) = some 6 := by decide +kernel

def M_X12_isZero (x1 : Int64) (x3 : Int32) (x4 : Int32) (x5 : Int32) (x6 : Int32) (x7 : Int32) (v_lightest : (Nat → Int32)) : Option (Int32 × (Nat → Int32)) :=
  if x1 = 0 then (if x3 = 0 then (some (1, v_lightest)) else (some (1, (upd (upd (upd (upd v_lightest (0 : Int32).toNatClampNeg x4) (1 : Int32).toNatClampNeg x5) (2 : Int32).toNatClampNeg x6) (3 : Int32).toNatClampNeg x7)))) else (some (0, v_lightest))

abbrev rmX12_isZero : Room := { frames := 0, cells := 0, slots := 0, locals := 0 }
set_option maxHeartbeats 4000000 in
set_option maxRecDepth 100000 in
theorem c_X12_isZero (l : Launch) (G : va_G) (cs : CS) (q : Nat → Nat) (sz : Nat) (v_told : Int32) (v_tell : (Nat → Int32)) (v_sums : Int32) (v_kindOf : (Nat → Int32)) (v_modOf : (Nat → Int32)) (v_bitsOf : (Nat → Int32)) (v_turnOf : (Nat → Int32)) (v_polyOf : (Nat → Int64)) (v_beginOf : (Nat → Int64)) (v_finishOf : (Nat → Int64)) (v_isLow : (Nat → Int32)) (v_weightsOf : (Nat → Int32)) (v_weight : (Nat → Int32)) (v_cell : (Nat → Int32)) (v_size : Int32) (v_row : (Nat → Int32)) (v_keptSize : Int32) (v_keptBefore : (Nat → Int32)) (v_keptAfter : (Nat → Int32)) (v_placeA : (Nat → Int64)) (v_placeB : (Nat → Int64)) (v_turned : (Nat → Int32)) (v_turnedMany : Int32) (v_syndromes : (Nat → Int64)) (v_lightest : (Nat → Int32)) (v_freeMany : Int32) (v_freePlace : (Nat → Int32)) (v_freeSyndrome : (Nat → Int64)) (v_ways : (Nat → Int32)) (v_waysKept : Int32) (v_trace : (Nat → Int32)) (v_comesA : Int64) (v_comesB : Int64)   (x1 : Int64) (x3 : Int32) (x4 : Int32) (x5 : Int32) (x6 : Int32) (x7 : Int32) (res : (Int32 × (Nat → Int32))) (hm : M_X12_isZero x1 x3 x4 x5 x6 x7 v_lightest = some res) : Met l yX12_isZero wsX12_isZero rmX12_isZero (va_Pc [.ref (q 0), .long x1, .int x3, .int x4, .int x5, .int x6, .int x7] (PreW G cs sz (ww_M q cs v_told v_tell v_sums v_kindOf v_modOf v_bitsOf v_turnOf v_polyOf v_beginOf v_finishOf v_isLow v_weightsOf v_weight v_cell v_size v_row v_keptSize v_keptBefore v_keptAfter v_placeA v_placeB v_turned v_turnedMany v_syndromes v_lightest v_freeMany v_freePlace v_freeSyndrome v_ways v_waysKept v_trace v_comesA v_comesB) RN)) (QI G res.1 True (ww_M q cs v_told v_tell v_sums v_kindOf v_modOf v_bitsOf v_turnOf v_polyOf v_beginOf v_finishOf v_isLow v_weightsOf v_weight v_cell v_size v_row v_keptSize v_keptBefore v_keptAfter v_placeA v_placeB v_turned v_turnedMany v_syndromes res.2 v_freeMany v_freePlace v_freeSyndrome v_ways v_waysKept v_trace v_comesA v_comesB) (va_A (ww_M q cs v_told v_tell v_sums v_kindOf v_modOf v_bitsOf v_turnOf v_polyOf v_beginOf v_finishOf v_isLow v_weightsOf v_weight v_cell v_size v_row v_keptSize v_keptBefore v_keptAfter v_placeA v_placeB v_turned v_turnedMany v_syndromes v_lightest v_freeMany v_freePlace v_freeSyndrome v_ways v_waysKept v_trace v_comesA v_comesB) sz)) 0 0 (va_A (ww_M q cs v_told v_tell v_sums v_kindOf v_modOf v_bitsOf v_turnOf v_polyOf v_beginOf v_finishOf v_isLow v_weightsOf v_weight v_cell v_size v_row v_keptSize v_keptBefore v_keptAfter v_placeA v_placeB v_turned v_turnedMany v_syndromes v_lightest v_freeMany v_freePlace v_freeSyndrome v_ways v_waysKept v_trace v_comesA v_comesB) sz) := by
  refine k_enter (Qf := fun A => QI G res.1 True (ww_M q cs v_told v_tell v_sums v_kindOf v_modOf v_bitsOf v_turnOf v_polyOf v_beginOf v_finishOf v_isLow v_weightsOf v_weight v_cell v_size v_row v_keptSize v_keptBefore v_keptAfter v_placeA v_placeB v_turned v_turnedMany v_syndromes res.2 v_freeMany v_freePlace v_freeSyndrome v_ways v_waysKept v_trace v_comesA v_comesB) A) (cc := cX12_isZero) (maxL := 8) (ret := (some .int)) (plainFor_of_name (by decide)) rfl (Nat.le_of_ble_eq_true rfl) ?_
  intro p e s m args below meth c A Q ls H locs hx hb hr hml hown hts hlocks hname hK hA hRo hP hD hS hQ hl
  have hl : lv_has ls 8 [(0, .ref (q 0)), (1, .long x1), (3, .int x3), (4, .int x4), (5, .int x5), (6, .int x6), (7, .int x7)] := hl
  have wd1 := hts (.fieldLink RX12 69 "SumSmithModel" "lightest" "[I") (List.mem_of_getElem? (i := 1) rfl)
  have hinX12 : ∀ w ∈ wsX120, w ∈ wsX12_isZero := fun w h => List.mem_cons_of_mem _ (List.mem_append_right _ h)
  unfold M_X12_isZero at hm
  refine lv_lload_n hx hb dX12_isZero_0 rfl (lv_at hl 1 rfl) ?_
  refine lv_lconst (v := 0) hx hb dX12_isZero_1 (by decide) ?_
  refine W.lcmp hx hb dX12_isZero_2 ?_
  refine lv_if_eq (tgt := 8) hx hb dX12_isZero_3 (by decide) (fun b1 => ?_) (fun b1 => ?_)
  · have b1 := (lg_cmp_eq _ _).mp b1
    have hm := i_t b1 hm
    refine lv_iload_n hx hb dX12_isZero_8 rfl (lv_at hl 2 rfl) ?_
    refine lv_if_eq (tgt := 44) hx hb dX12_isZero_9 (by decide) (fun b2 => ?_) (fun b2 => ?_)
    · have hm := i_t b2 hm
      refine lv_iconst (v := 1) hx hb dX12_isZero_44 (by decide) ?_
      have hq := Option.some.inj hm
      subst hq; subst hQ
      exact k_iret hx hb hr hlocks hP hD hS rfl trivial dX12_isZero_45
    · have hm := i_f b2 hm
      refine lv_aload_n hx hb dX12_isZero_12 rfl (lv_at hl 0 rfl) ?_
      refine va_get (D := G) (ci := 10) (v := .ref (q 20)) (C := RX12) (T := TX12) (N := 33) hx hb hts hinX12 hown hK.1 hP 0 rfl rfl 24 (by decide) wd1 (fun _ h9 => h9) rfl dX12_isZero_13 ?_
      refine lv_iconst (v := 0) hx hb dX12_isZero_16 (by decide) ?_
      refine lv_iload hx hb dX12_isZero_17 (lv_at hl 3 rfl) ?_
      refine va_iast hx hb hK.1 hP hD hS 20 0 rfl rfl (by unfold vp_in; decide) dX12_isZero_19 (fun H locs hP hD hS => ?_)
      have hP : va_P G vwCl (ww_M q cs v_told v_tell v_sums v_kindOf v_modOf v_bitsOf v_turnOf v_polyOf v_beginOf v_finishOf v_isLow v_weightsOf v_weight v_cell v_size v_row v_keptSize v_keptBefore v_keptAfter v_placeA v_placeB v_turned v_turnedMany v_syndromes (upd v_lightest (0 : Int32).toNatClampNeg x4) v_freeMany v_freePlace v_freeSyndrome v_ways v_waysKept v_trace v_comesA v_comesB) H := hP
      have hD : va_D A (ww_M q cs v_told v_tell v_sums v_kindOf v_modOf v_bitsOf v_turnOf v_polyOf v_beginOf v_finishOf v_isLow v_weightsOf v_weight v_cell v_size v_row v_keptSize v_keptBefore v_keptAfter v_placeA v_placeB v_turned v_turnedMany v_syndromes (upd v_lightest (0 : Int32).toNatClampNeg x4) v_freeMany v_freePlace v_freeSyndrome v_ways v_waysKept v_trace v_comesA v_comesB) := hD
      refine lv_aload_n hx hb dX12_isZero_20 rfl (lv_at hl 0 rfl) ?_
      refine va_get (D := G) (ci := 10) (v := .ref (q 20)) (C := RX12) (T := TX12) (N := 33) hx hb hts hinX12 hown hK.1 hP 0 rfl rfl 24 (by decide) wd1 (fun _ h9 => h9) rfl dX12_isZero_21 ?_
      refine lv_iconst (v := 1) hx hb dX12_isZero_24 (by decide) ?_
      refine lv_iload hx hb dX12_isZero_25 (lv_at hl 4 rfl) ?_
      refine va_iast hx hb hK.1 hP hD hS 20 0 rfl rfl (by unfold vp_in; decide) dX12_isZero_27 (fun H locs hP hD hS => ?_)
      have hP : va_P G vwCl (ww_M q cs v_told v_tell v_sums v_kindOf v_modOf v_bitsOf v_turnOf v_polyOf v_beginOf v_finishOf v_isLow v_weightsOf v_weight v_cell v_size v_row v_keptSize v_keptBefore v_keptAfter v_placeA v_placeB v_turned v_turnedMany v_syndromes (upd (upd v_lightest (0 : Int32).toNatClampNeg x4) (1 : Int32).toNatClampNeg x5) v_freeMany v_freePlace v_freeSyndrome v_ways v_waysKept v_trace v_comesA v_comesB) H := hP
      have hD : va_D A (ww_M q cs v_told v_tell v_sums v_kindOf v_modOf v_bitsOf v_turnOf v_polyOf v_beginOf v_finishOf v_isLow v_weightsOf v_weight v_cell v_size v_row v_keptSize v_keptBefore v_keptAfter v_placeA v_placeB v_turned v_turnedMany v_syndromes (upd (upd v_lightest (0 : Int32).toNatClampNeg x4) (1 : Int32).toNatClampNeg x5) v_freeMany v_freePlace v_freeSyndrome v_ways v_waysKept v_trace v_comesA v_comesB) := hD
      refine lv_aload_n hx hb dX12_isZero_28 rfl (lv_at hl 0 rfl) ?_
      refine va_get (D := G) (ci := 10) (v := .ref (q 20)) (C := RX12) (T := TX12) (N := 33) hx hb hts hinX12 hown hK.1 hP 0 rfl rfl 24 (by decide) wd1 (fun _ h9 => h9) rfl dX12_isZero_29 ?_
      refine lv_iconst (v := 2) hx hb dX12_isZero_32 (by decide) ?_
      refine lv_iload hx hb dX12_isZero_33 (lv_at hl 5 rfl) ?_
      refine va_iast hx hb hK.1 hP hD hS 20 0 rfl rfl (by unfold vp_in; decide) dX12_isZero_35 (fun H locs hP hD hS => ?_)
      have hP : va_P G vwCl (ww_M q cs v_told v_tell v_sums v_kindOf v_modOf v_bitsOf v_turnOf v_polyOf v_beginOf v_finishOf v_isLow v_weightsOf v_weight v_cell v_size v_row v_keptSize v_keptBefore v_keptAfter v_placeA v_placeB v_turned v_turnedMany v_syndromes (upd (upd (upd v_lightest (0 : Int32).toNatClampNeg x4) (1 : Int32).toNatClampNeg x5) (2 : Int32).toNatClampNeg x6) v_freeMany v_freePlace v_freeSyndrome v_ways v_waysKept v_trace v_comesA v_comesB) H := hP
      have hD : va_D A (ww_M q cs v_told v_tell v_sums v_kindOf v_modOf v_bitsOf v_turnOf v_polyOf v_beginOf v_finishOf v_isLow v_weightsOf v_weight v_cell v_size v_row v_keptSize v_keptBefore v_keptAfter v_placeA v_placeB v_turned v_turnedMany v_syndromes (upd (upd (upd v_lightest (0 : Int32).toNatClampNeg x4) (1 : Int32).toNatClampNeg x5) (2 : Int32).toNatClampNeg x6) v_freeMany v_freePlace v_freeSyndrome v_ways v_waysKept v_trace v_comesA v_comesB) := hD
      refine lv_aload_n hx hb dX12_isZero_36 rfl (lv_at hl 0 rfl) ?_
      refine va_get (D := G) (ci := 10) (v := .ref (q 20)) (C := RX12) (T := TX12) (N := 33) hx hb hts hinX12 hown hK.1 hP 0 rfl rfl 24 (by decide) wd1 (fun _ h9 => h9) rfl dX12_isZero_37 ?_
      refine lv_iconst (v := 3) hx hb dX12_isZero_40 (by decide) ?_
      refine lv_iload hx hb dX12_isZero_41 (lv_at hl 6 rfl) ?_
      refine va_iast hx hb hK.1 hP hD hS 20 0 rfl rfl (by unfold vp_in; decide) dX12_isZero_43 (fun H locs hP hD hS => ?_)
      have hP : va_P G vwCl (ww_M q cs v_told v_tell v_sums v_kindOf v_modOf v_bitsOf v_turnOf v_polyOf v_beginOf v_finishOf v_isLow v_weightsOf v_weight v_cell v_size v_row v_keptSize v_keptBefore v_keptAfter v_placeA v_placeB v_turned v_turnedMany v_syndromes (upd (upd (upd (upd v_lightest (0 : Int32).toNatClampNeg x4) (1 : Int32).toNatClampNeg x5) (2 : Int32).toNatClampNeg x6) (3 : Int32).toNatClampNeg x7) v_freeMany v_freePlace v_freeSyndrome v_ways v_waysKept v_trace v_comesA v_comesB) H := hP
      have hD : va_D A (ww_M q cs v_told v_tell v_sums v_kindOf v_modOf v_bitsOf v_turnOf v_polyOf v_beginOf v_finishOf v_isLow v_weightsOf v_weight v_cell v_size v_row v_keptSize v_keptBefore v_keptAfter v_placeA v_placeB v_turned v_turnedMany v_syndromes (upd (upd (upd (upd v_lightest (0 : Int32).toNatClampNeg x4) (1 : Int32).toNatClampNeg x5) (2 : Int32).toNatClampNeg x6) (3 : Int32).toNatClampNeg x7) v_freeMany v_freePlace v_freeSyndrome v_ways v_waysKept v_trace v_comesA v_comesB) := hD
      refine lv_iconst (v := 1) hx hb dX12_isZero_44 (by decide) ?_
      have hq := Option.some.inj hm
      subst hq; subst hQ
      exact k_iret hx hb hr hlocks hP hD hS rfl trivial dX12_isZero_45
  · have b1 := fun h9 => b1 ((lg_cmp_eq _ _).mpr h9)
    have hm := i_f b1 hm
    refine lv_iconst (v := 0) hx hb dX12_isZero_6 (by decide) ?_
    have hq := Option.some.inj hm
    subst hq; subst hQ
    exact k_iret hx hb hr hlocks hP hD hS rfl trivial dX12_isZero_7

theorem hd_X12_setsOf : yX12_setsOf.cls ≠ "java/lang/invoke/MethodHandle" ∧ yX12_setsOf.cls ≠ "java/lang/invoke/VarHandle" ∧ (parseMethodDescriptor yX12_setsOf.desc).map (fun d => d.parameters.length) = some 3 := by decide +kernel

def M_X12_setsOf_b194 (n : Nat) (x1 : Int32) (x2 : Int32) (x3 : Int32) (x5 : Int32) (x6 : Int32) (x9 : Int32) (x10 : Int64) (v_syndromes : (Nat → Int64)) (x4 : Int32) (x12 : Int32) (v_lightest : (Nat → Int32)) : Option ((Int32 × Int32 × (Nat → Int32)) ⊕ (Int32 × (Nat → Int32))) :=
  if x2 ≤ x12 then (some (.inr (x4, v_lightest))) else (if x1 ≤ 3 then (some (.inr (x4, v_lightest))) else (if x12 < 0 ∨ 512 ≤ x12.toNatClampNeg then none else if x3 = 0 then ((M_X12_isZero (x10 ^^^ (v_syndromes x12.toNatClampNeg)) (0 : Int32) x5 x6 x9 x12 v_lightest).bind fun r16 => some (.inl (x4 + r16.1, x12 + 1, r16.2))) else (if x4 = 0 then ((M_X12_isZero (x10 ^^^ (v_syndromes x12.toNatClampNeg)) (1 : Int32) x5 x6 x9 x12 v_lightest).bind fun r21 => some (.inl (x4 + r21.1, x12 + 1, r21.2))) else ((M_X12_isZero (x10 ^^^ (v_syndromes x12.toNatClampNeg)) (0 : Int32) x5 x6 x9 x12 v_lightest).bind fun r19 => some (.inl (x4 + r19.1, x12 + 1, r19.2))))))

def M_X12_setsOf_b128 (n : Nat) (x1 : Int32) (x2 : Int32) (x3 : Int32) (x5 : Int32) (x6 : Int32) (x7 : Int64) (v_syndromes : (Nat → Int64)) (x4 : Int32) (x9 : Int32) (v_lightest : (Nat → Int32)) : Option ((Int32 × Int32 × (Nat → Int32)) ⊕ (Int32 × (Nat → Int32))) :=
  if x2 ≤ x9 then (some (.inr (x4, v_lightest))) else (if x1 ≤ 2 then (some (.inr (x4, v_lightest))) else (if x9 < 0 ∨ 512 ≤ x9.toNatClampNeg then none else if x1 = 3 then (if x3 = 0 then ((M_X12_isZero (x7 ^^^ (v_syndromes x9.toNatClampNeg)) (0 : Int32) x5 x6 x9 (-1 : Int32) v_lightest).bind fun r25 => (lp (fun x : (Int32 × Int32 × (Nat → Int32)) => M_X12_setsOf_b194 n x1 x2 x3 x5 x6 x9 (x7 ^^^ (v_syndromes x9.toNatClampNeg)) v_syndromes x.1 x.2.1 x.2.2) n ((x4 + r25.1), (x9 + 1), r25.2)).bind fun o27 => some (.inl (o27.1, x9 + 1, o27.2))) else (if x4 = 0 then ((M_X12_isZero (x7 ^^^ (v_syndromes x9.toNatClampNeg)) (1 : Int32) x5 x6 x9 (-1 : Int32) v_lightest).bind fun r32 => (lp (fun x : (Int32 × Int32 × (Nat → Int32)) => M_X12_setsOf_b194 n x1 x2 x3 x5 x6 x9 (x7 ^^^ (v_syndromes x9.toNatClampNeg)) v_syndromes x.1 x.2.1 x.2.2) n ((x4 + r32.1), (x9 + 1), r32.2)).bind fun o34 => some (.inl (o34.1, x9 + 1, o34.2))) else ((M_X12_isZero (x7 ^^^ (v_syndromes x9.toNatClampNeg)) (0 : Int32) x5 x6 x9 (-1 : Int32) v_lightest).bind fun r29 => (lp (fun x : (Int32 × Int32 × (Nat → Int32)) => M_X12_setsOf_b194 n x1 x2 x3 x5 x6 x9 (x7 ^^^ (v_syndromes x9.toNatClampNeg)) v_syndromes x.1 x.2.1 x.2.2) n ((x4 + r29.1), (x9 + 1), r29.2)).bind fun o31 => some (.inl (o31.1, x9 + 1, o31.2))))) else ((lp (fun x : (Int32 × Int32 × (Nat → Int32)) => M_X12_setsOf_b194 n x1 x2 x3 x5 x6 x9 (x7 ^^^ (v_syndromes x9.toNatClampNeg)) v_syndromes x.1 x.2.1 x.2.2) n (x4, (x9 + 1), v_lightest)).bind fun o23 => some (.inl (o23.1, x9 + 1, o23.2)))))

def M_X12_setsOf_b58 (n : Nat) (x1 : Int32) (x2 : Int32) (x3 : Int32) (x5 : Int32) (v_syndromes : (Nat → Int64)) (x4 : Int32) (x6 : Int32) (v_lightest : (Nat → Int32)) : Option ((Int32 × Int32 × (Nat → Int32)) ⊕ (Int32 × (Nat → Int32))) :=
  if x2 ≤ x6 then (some (.inr (x4, v_lightest))) else (if x1 ≤ 1 then (some (.inr (x4, v_lightest))) else (if x5 < 0 ∨ 512 ≤ x5.toNatClampNeg then none else if x6 < 0 ∨ 512 ≤ x6.toNatClampNeg then none else if x1 = 2 then (if x3 = 0 then ((M_X12_isZero ((v_syndromes x5.toNatClampNeg) ^^^ (v_syndromes x6.toNatClampNeg)) (0 : Int32) x5 x6 (-1 : Int32) (-1 : Int32) v_lightest).bind fun r37 => (lp (fun x : (Int32 × Int32 × (Nat → Int32)) => M_X12_setsOf_b128 n x1 x2 x3 x5 x6 ((v_syndromes x5.toNatClampNeg) ^^^ (v_syndromes x6.toNatClampNeg)) v_syndromes x.1 x.2.1 x.2.2) n ((x4 + r37.1), (x6 + 1), r37.2)).bind fun o39 => some (.inl (o39.1, x6 + 1, o39.2))) else (if x4 = 0 then ((M_X12_isZero ((v_syndromes x5.toNatClampNeg) ^^^ (v_syndromes x6.toNatClampNeg)) (1 : Int32) x5 x6 (-1 : Int32) (-1 : Int32) v_lightest).bind fun r44 => (lp (fun x : (Int32 × Int32 × (Nat → Int32)) => M_X12_setsOf_b128 n x1 x2 x3 x5 x6 ((v_syndromes x5.toNatClampNeg) ^^^ (v_syndromes x6.toNatClampNeg)) v_syndromes x.1 x.2.1 x.2.2) n ((x4 + r44.1), (x6 + 1), r44.2)).bind fun o46 => some (.inl (o46.1, x6 + 1, o46.2))) else ((M_X12_isZero ((v_syndromes x5.toNatClampNeg) ^^^ (v_syndromes x6.toNatClampNeg)) (0 : Int32) x5 x6 (-1 : Int32) (-1 : Int32) v_lightest).bind fun r41 => (lp (fun x : (Int32 × Int32 × (Nat → Int32)) => M_X12_setsOf_b128 n x1 x2 x3 x5 x6 ((v_syndromes x5.toNatClampNeg) ^^^ (v_syndromes x6.toNatClampNeg)) v_syndromes x.1 x.2.1 x.2.2) n ((x4 + r41.1), (x6 + 1), r41.2)).bind fun o43 => some (.inl (o43.1, x6 + 1, o43.2))))) else ((lp (fun x : (Int32 × Int32 × (Nat → Int32)) => M_X12_setsOf_b128 n x1 x2 x3 x5 x6 ((v_syndromes x5.toNatClampNeg) ^^^ (v_syndromes x6.toNatClampNeg)) v_syndromes x.1 x.2.1 x.2.2) n (x4, (x6 + 1), v_lightest)).bind fun o35 => some (.inl (o35.1, x6 + 1, o35.2)))))

def M_X12_setsOf_b6 (n : Nat) (x1 : Int32) (x2 : Int32) (x3 : Int32) (v_syndromes : (Nat → Int64)) (x4 : Int32) (x5 : Int32) (v_lightest : (Nat → Int32)) : Option ((Int32 × Int32 × (Nat → Int32)) ⊕ (Int32 × (Nat → Int32))) :=
  if x2 ≤ x5 then (some (.inr (x4, v_lightest))) else (if x1 = 1 then (if x5 < 0 ∨ 512 ≤ x5.toNatClampNeg then none else if x3 = 0 then ((M_X12_isZero (v_syndromes x5.toNatClampNeg) (0 : Int32) x5 (-1 : Int32) (-1 : Int32) (-1 : Int32) v_lightest).bind fun r50 => (lp (fun x : (Int32 × Int32 × (Nat → Int32)) => M_X12_setsOf_b58 n x1 x2 x3 x5 v_syndromes x.1 x.2.1 x.2.2) n ((x4 + r50.1), (x5 + 1), r50.2)).bind fun o52 => some (.inl (o52.1, x5 + 1, o52.2))) else (if x4 = 0 then ((M_X12_isZero (v_syndromes x5.toNatClampNeg) (1 : Int32) x5 (-1 : Int32) (-1 : Int32) (-1 : Int32) v_lightest).bind fun r57 => (lp (fun x : (Int32 × Int32 × (Nat → Int32)) => M_X12_setsOf_b58 n x1 x2 x3 x5 v_syndromes x.1 x.2.1 x.2.2) n ((x4 + r57.1), (x5 + 1), r57.2)).bind fun o59 => some (.inl (o59.1, x5 + 1, o59.2))) else ((M_X12_isZero (v_syndromes x5.toNatClampNeg) (0 : Int32) x5 (-1 : Int32) (-1 : Int32) (-1 : Int32) v_lightest).bind fun r54 => (lp (fun x : (Int32 × Int32 × (Nat → Int32)) => M_X12_setsOf_b58 n x1 x2 x3 x5 v_syndromes x.1 x.2.1 x.2.2) n ((x4 + r54.1), (x5 + 1), r54.2)).bind fun o56 => some (.inl (o56.1, x5 + 1, o56.2))))) else ((lp (fun x : (Int32 × Int32 × (Nat → Int32)) => M_X12_setsOf_b58 n x1 x2 x3 x5 v_syndromes x.1 x.2.1 x.2.2) n (x4, (x5 + 1), v_lightest)).bind fun o47 => some (.inl (o47.1, x5 + 1, o47.2))))

def M_X12_setsOf (n : Nat) (x1 : Int32) (x2 : Int32) (x3 : Int32) (v_syndromes : (Nat → Int64)) (v_lightest : (Nat → Int32)) : Option (Int32 × (Nat → Int32)) :=
  (lp (fun x : (Int32 × Int32 × (Nat → Int32)) => M_X12_setsOf_b6 n x1 x2 x3 v_syndromes x.1 x.2.1 x.2.2) n ((0 : Int32), (0 : Int32), v_lightest)).bind fun o60 => some (o60.1, o60.2)

abbrev rmX12_setsOf : Room := { frames := 1, cells := 0, slots := 0, locals := 27 }
set_option maxHeartbeats 4000000 in
set_option maxRecDepth 100000 in
theorem c_X12_setsOf (l : Launch) (G : va_G) (cs : CS) (q : Nat → Nat) (sz : Nat) (v_told : Int32) (v_tell : (Nat → Int32)) (v_sums : Int32) (v_kindOf : (Nat → Int32)) (v_modOf : (Nat → Int32)) (v_bitsOf : (Nat → Int32)) (v_turnOf : (Nat → Int32)) (v_polyOf : (Nat → Int64)) (v_beginOf : (Nat → Int64)) (v_finishOf : (Nat → Int64)) (v_isLow : (Nat → Int32)) (v_weightsOf : (Nat → Int32)) (v_weight : (Nat → Int32)) (v_cell : (Nat → Int32)) (v_size : Int32) (v_row : (Nat → Int32)) (v_keptSize : Int32) (v_keptBefore : (Nat → Int32)) (v_keptAfter : (Nat → Int32)) (v_placeA : (Nat → Int64)) (v_placeB : (Nat → Int64)) (v_turned : (Nat → Int32)) (v_turnedMany : Int32) (v_syndromes : (Nat → Int64)) (v_lightest : (Nat → Int32)) (v_freeMany : Int32) (v_freePlace : (Nat → Int32)) (v_freeSyndrome : (Nat → Int64)) (v_ways : (Nat → Int32)) (v_waysKept : Int32) (v_trace : (Nat → Int32)) (v_comesA : Int64) (v_comesB : Int64)   (x1 : Int32) (x2 : Int32) (x3 : Int32) (n : Nat) (res : (Int32 × (Nat → Int32))) (hm : M_X12_setsOf n x1 x2 x3 v_syndromes v_lightest = some res) : Met l yX12_setsOf wsX12_setsOf rmX12_setsOf (va_Pc [.ref (q 0), .int x1, .int x2, .int x3] (PreW G cs sz (ww_M q cs v_told v_tell v_sums v_kindOf v_modOf v_bitsOf v_turnOf v_polyOf v_beginOf v_finishOf v_isLow v_weightsOf v_weight v_cell v_size v_row v_keptSize v_keptBefore v_keptAfter v_placeA v_placeB v_turned v_turnedMany v_syndromes v_lightest v_freeMany v_freePlace v_freeSyndrome v_ways v_waysKept v_trace v_comesA v_comesB) RN)) (QI G res.1 True (ww_M q cs v_told v_tell v_sums v_kindOf v_modOf v_bitsOf v_turnOf v_polyOf v_beginOf v_finishOf v_isLow v_weightsOf v_weight v_cell v_size v_row v_keptSize v_keptBefore v_keptAfter v_placeA v_placeB v_turned v_turnedMany v_syndromes res.2 v_freeMany v_freePlace v_freeSyndrome v_ways v_waysKept v_trace v_comesA v_comesB) (va_A (ww_M q cs v_told v_tell v_sums v_kindOf v_modOf v_bitsOf v_turnOf v_polyOf v_beginOf v_finishOf v_isLow v_weightsOf v_weight v_cell v_size v_row v_keptSize v_keptBefore v_keptAfter v_placeA v_placeB v_turned v_turnedMany v_syndromes v_lightest v_freeMany v_freePlace v_freeSyndrome v_ways v_waysKept v_trace v_comesA v_comesB) sz)) 0 0 (va_A (ww_M q cs v_told v_tell v_sums v_kindOf v_modOf v_bitsOf v_turnOf v_polyOf v_beginOf v_finishOf v_isLow v_weightsOf v_weight v_cell v_size v_row v_keptSize v_keptBefore v_keptAfter v_placeA v_placeB v_turned v_turnedMany v_syndromes v_lightest v_freeMany v_freePlace v_freeSyndrome v_ways v_waysKept v_trace v_comesA v_comesB) sz) := by
  refine k_enter (Qf := fun A => QI G res.1 True (ww_M q cs v_told v_tell v_sums v_kindOf v_modOf v_bitsOf v_turnOf v_polyOf v_beginOf v_finishOf v_isLow v_weightsOf v_weight v_cell v_size v_row v_keptSize v_keptBefore v_keptAfter v_placeA v_placeB v_turned v_turnedMany v_syndromes res.2 v_freeMany v_freePlace v_freeSyndrome v_ways v_waysKept v_trace v_comesA v_comesB) A) (cc := cX12_setsOf) (maxL := 13) (ret := (some .int)) (plainFor_of_name (by decide)) rfl (Nat.le_of_ble_eq_true rfl) ?_
  intro p e s m args below meth c A Q ls H locs hx hb hr hml hown hts hlocks hname hK hA hRo hP hD hS hQ hl
  have hl : lv_has ls 13 [(0, .ref (q 0)), (1, .int x1), (2, .int x2), (3, .int x3)] := hl
  have wd1 := hts (.fieldLink RX12 66 "SumSmithModel" "syndromes" "[J") (List.mem_of_getElem? (i := 1) rfl)
  have hinX12 : ∀ w ∈ wsX120, w ∈ wsX12_setsOf := fun w h => List.mem_cons_of_mem _ (List.mem_append_right _ h)
  have L194 : ∀ (x1 : Int32) (x2 : Int32) (x3 : Int32) (x4 : Int32) (x5 : Int32) (x6 : Int32) (x7 : Int64) (x9 : Int32) (x10 : Int64) (x12 : Int32) (v_lightest : (Nat → Int32)) (out : (Int32 × (Nat → Int32))), lp (fun x : (Int32 × Int32 × (Nat → Int32)) => M_X12_setsOf_b194 n x1 x2 x3 x5 x6 x9 x10 v_syndromes x.1 x.2.1 x.2.2) n (x4, x12, v_lightest) = some out → (∀ (o : (Int32 × (Nat → Int32))), out = o → ∀ (H : Heap) (locs : List Loc), va_P G vwCl (ww_M q cs v_told v_tell v_sums v_kindOf v_modOf v_bitsOf v_turnOf v_polyOf v_beginOf v_finishOf v_isLow v_weightsOf v_weight v_cell v_size v_row v_keptSize v_keptBefore v_keptAfter v_placeA v_placeB v_turned v_turnedMany v_syndromes o.2 v_freeMany v_freePlace v_freeSyndrome v_ways v_waysKept v_trace v_comesA v_comesB) H → va_D A (ww_M q cs v_told v_tell v_sums v_kindOf v_modOf v_bitsOf v_turnOf v_polyOf v_beginOf v_finishOf v_isLow v_weightsOf v_weight v_cell v_size v_row v_keptSize v_keptBefore v_keptAfter v_placeA v_placeB v_turned v_turnedMany v_syndromes o.2 v_freeMany v_freePlace v_freeSyndrome v_ways v_waysKept v_trace v_comesA v_comesB) → va_S A s.heap H locs → ∀ (ls : Array Slot), lv_has ls 13 [(0, .ref (q 0)), (1, .int x1), (2, .int x2), (3, .int x3), (4, .int o.1), (5, .int x5), (6, .int x6), (7, .long x7), (9, .int x9)] → W p l e rmX12_setsOf s m args below meth c H locs 0 0 Q (F0 m 252 ls [])) → ∀ (H : Heap) (locs : List Loc), va_P G vwCl (ww_M q cs v_told v_tell v_sums v_kindOf v_modOf v_bitsOf v_turnOf v_polyOf v_beginOf v_finishOf v_isLow v_weightsOf v_weight v_cell v_size v_row v_keptSize v_keptBefore v_keptAfter v_placeA v_placeB v_turned v_turnedMany v_syndromes v_lightest v_freeMany v_freePlace v_freeSyndrome v_ways v_waysKept v_trace v_comesA v_comesB) H → va_D A (ww_M q cs v_told v_tell v_sums v_kindOf v_modOf v_bitsOf v_turnOf v_polyOf v_beginOf v_finishOf v_isLow v_weightsOf v_weight v_cell v_size v_row v_keptSize v_keptBefore v_keptAfter v_placeA v_placeB v_turned v_turnedMany v_syndromes v_lightest v_freeMany v_freePlace v_freeSyndrome v_ways v_waysKept v_trace v_comesA v_comesB) → va_S A s.heap H locs → ∀ (ls : Array Slot), lv_has ls 13 [(0, .ref (q 0)), (1, .int x1), (2, .int x2), (3, .int x3), (4, .int x4), (5, .int x5), (6, .int x6), (7, .long x7), (9, .int x9), (10, .long x10), (12, .int x12)] → W p l e rmX12_setsOf s m args below meth c H locs 0 0 Q (F0 m 194 ls []) := by
    intro x1 x2 x3 x4 x5 x6 x7 x9 x10 x12 v_lightest out hlp hX
    refine lp_ind (fun x => ∀ (H : Heap) (locs : List Loc), va_P G vwCl (ww_M q cs v_told v_tell v_sums v_kindOf v_modOf v_bitsOf v_turnOf v_polyOf v_beginOf v_finishOf v_isLow v_weightsOf v_weight v_cell v_size v_row v_keptSize v_keptBefore v_keptAfter v_placeA v_placeB v_turned v_turnedMany v_syndromes x.2.2 v_freeMany v_freePlace v_freeSyndrome v_ways v_waysKept v_trace v_comesA v_comesB) H → va_D A (ww_M q cs v_told v_tell v_sums v_kindOf v_modOf v_bitsOf v_turnOf v_polyOf v_beginOf v_finishOf v_isLow v_weightsOf v_weight v_cell v_size v_row v_keptSize v_keptBefore v_keptAfter v_placeA v_placeB v_turned v_turnedMany v_syndromes x.2.2 v_freeMany v_freePlace v_freeSyndrome v_ways v_waysKept v_trace v_comesA v_comesB) → va_S A s.heap H locs → ∀ (ls : Array Slot), lv_has ls 13 [(0, .ref (q 0)), (1, .int x1), (2, .int x2), (3, .int x3), (4, .int x.1), (5, .int x5), (6, .int x6), (7, .long x7), (9, .int x9), (10, .long x10), (12, .int x.2.1)] → W p l e rmX12_setsOf s m args below meth c H locs 0 0 Q (F0 m 194 ls [])) ?_ n (x4, x12, v_lightest) hlp
    clear hlp hP hD hS hl
    rintro ⟨x4, x12, v_lightest⟩ ob hm hst H locs hP hD hS ls hl
    have hm : M_X12_setsOf_b194 n x1 x2 x3 x5 x6 x9 x10 v_syndromes x4 x12 v_lightest = some ob := hm
    have hl : lv_has ls 13 [(0, .ref (q 0)), (1, .int x1), (2, .int x2), (3, .int x3), (4, .int x4), (5, .int x5), (6, .int x6), (7, .long x7), (9, .int x9), (10, .long x10), (12, .int x12)] := hl
    have hP : va_P G vwCl (ww_M q cs v_told v_tell v_sums v_kindOf v_modOf v_bitsOf v_turnOf v_polyOf v_beginOf v_finishOf v_isLow v_weightsOf v_weight v_cell v_size v_row v_keptSize v_keptBefore v_keptAfter v_placeA v_placeB v_turned v_turnedMany v_syndromes v_lightest v_freeMany v_freePlace v_freeSyndrome v_ways v_waysKept v_trace v_comesA v_comesB) H := hP
    have hD : va_D A (ww_M q cs v_told v_tell v_sums v_kindOf v_modOf v_bitsOf v_turnOf v_polyOf v_beginOf v_finishOf v_isLow v_weightsOf v_weight v_cell v_size v_row v_keptSize v_keptBefore v_keptAfter v_placeA v_placeB v_turned v_turnedMany v_syndromes v_lightest v_freeMany v_freePlace v_freeSyndrome v_ways v_waysKept v_trace v_comesA v_comesB) := hD
    unfold M_X12_setsOf_b194 at hm
    refine lv_iload hx hb dX12_setsOf_194 (lv_at hl 10 rfl) ?_
    refine lv_iload_n hx hb dX12_setsOf_196 rfl (lv_at hl 2 rfl) ?_
    refine lv_icmp_ge (tgt := 252) hx hb dX12_setsOf_197 (by decide) (fun b12 => ?_) (fun b12 => ?_)
    · have hm := i_t b12 hm
      exact hX _ (st_exit hm hst) H locs hP hD hS ls (lv_sub hl [0, 1, 2, 3, 4, 5, 6, 7, 8] rfl)
    · have hm := i_f b12 hm
      refine lv_iload_n hx hb dX12_setsOf_200 rfl (lv_at hl 1 rfl) ?_
      refine lv_iconst (v := 3) hx hb dX12_setsOf_201 (by decide) ?_
      refine lv_icmp_le (tgt := 252) hx hb dX12_setsOf_202 (by decide) (fun b13 => ?_) (fun b13 => ?_)
      · have hm := i_t b13 hm
        exact hX _ (st_exit hm hst) H locs hP hD hS ls (lv_sub hl [0, 1, 2, 3, 4, 5, 6, 7, 8] rfl)
      · have hm := i_f b13 hm
        refine lv_iload hx hb dX12_setsOf_205 (lv_at hl 4 rfl) ?_
        refine lv_aload_n hx hb dX12_setsOf_207 rfl (lv_at hl 0 rfl) ?_
        refine lv_lload hx hb dX12_setsOf_208 (lv_at hl 9 rfl) ?_
        refine lv_aload_n hx hb dX12_setsOf_210 rfl (lv_at hl 0 rfl) ?_
        refine va_get (D := G) (ci := 10) (v := .ref (q 19)) (C := RX12) (T := TX12) (N := 33) hx hb hts hinX12 hown hK.1 hP 0 rfl rfl 23 (by decide) wd1 (fun _ h9 => h9) rfl dX12_setsOf_211 ?_
        refine lv_iload hx hb dX12_setsOf_214 (lv_at hl 10 rfl) ?_
        obtain ⟨h14, hm⟩ := g_in hm
        refine va_lald hx hb hK.1 hP 19 1 rfl rfl h14 dX12_setsOf_216 ?_
        refine lv_lxor hx hb dX12_setsOf_217 ?_
        refine lv_iload_n hx hb dX12_setsOf_218 rfl (lv_at hl 3 rfl) ?_
        refine lv_if_eq (tgt := 231) hx hb dX12_setsOf_219 (by decide) (fun b15 => ?_) (fun b15 => ?_)
        · have hm := i_t b15 hm
          refine lv_iconst (v := 0) hx hb dX12_setsOf_231 (by decide) ?_
          refine lv_iload hx hb dX12_setsOf_232 (lv_at hl 5 rfl) ?_
          refine lv_iload hx hb dX12_setsOf_234 (lv_at hl 6 rfl) ?_
          refine lv_iload hx hb dX12_setsOf_236 (lv_at hl 8 rfl) ?_
          refine lv_iload hx hb dX12_setsOf_238 (lv_at hl 10 rfl) ?_
          obtain ⟨r16, hc_r16, hm⟩ := bs hm
          refine k_calli (va_runV (As := [.long (x10 ^^^ (v_syndromes x12.toNatClampNeg)), .int 0, .int x5, .int x6, .int x9, .int x12]) (rest := [.int x4]) ⟨hx, hb, hml, hown, hts⟩ (c_X12_isZero l G cs q H.size v_told v_tell v_sums v_kindOf v_modOf v_bitsOf v_turnOf v_polyOf v_beginOf v_finishOf v_isLow v_weightsOf v_weight v_cell v_size v_row v_keptSize v_keptBefore v_keptAfter v_placeA v_placeB v_turned v_turnedMany v_syndromes v_lightest v_freeMany v_freePlace v_freeSyndrome v_ways v_waysKept v_trace v_comesA v_comesB   (x10 ^^^ (v_syndromes x12.toNatClampNeg)) (0 : Int32) x5 x6 x9 x12 r16 hc_r16) (cwV 6 hts gX12_setsOf_X12_isZero rfl rfl rfl ⟨rfl, hd_X12_isZero⟩ ⟨Nat.le_of_ble_eq_true rfl, Nat.le_of_ble_eq_true rfl⟩) ⟨pre_blind, va_recv hK.1 hP (ci := 10) (q0 := 0) rfl rfl, pre_w hK RO.nil hP hD (va_all hD hS hA)⟩ rfl rfl hl.1 rfl (lv_room (Nat.le_of_ble_eq_true rfl)) dX12_setsOf_240 ⟨Nat.zero_le _, Nat.zero_le _⟩) hS (va_all hD hS hA) (fun hE17 H locs hP hD hS => ?_)
          have hP : va_P G vwCl (ww_M q cs v_told v_tell v_sums v_kindOf v_modOf v_bitsOf v_turnOf v_polyOf v_beginOf v_finishOf v_isLow v_weightsOf v_weight v_cell v_size v_row v_keptSize v_keptBefore v_keptAfter v_placeA v_placeB v_turned v_turnedMany v_syndromes r16.2 v_freeMany v_freePlace v_freeSyndrome v_ways v_waysKept v_trace v_comesA v_comesB) H := hP
          have hD : va_D A (ww_M q cs v_told v_tell v_sums v_kindOf v_modOf v_bitsOf v_turnOf v_polyOf v_beginOf v_finishOf v_isLow v_weightsOf v_weight v_cell v_size v_row v_keptSize v_keptBefore v_keptAfter v_placeA v_placeB v_turned v_turnedMany v_syndromes r16.2 v_freeMany v_freePlace v_freeSyndrome v_ways v_waysKept v_trace v_comesA v_comesB) := hD
          refine lv_iadd hx hb dX12_setsOf_243 ?_
          refine lv_istore (lv' := [(4, .int (x4 + r16.1)), (0, .ref (q 0)), (1, .int x1), (2, .int x2), (3, .int x3), (5, .int x5), (6, .int x6), (7, .long x7), (9, .int x9), (10, .long x10), (12, .int x12)]) hx hb dX12_setsOf_244 hl (by decide) rfl (fun ls hl => ?_)
          refine lv_iinc (v := x12 + 1) (lv' := [(12, .int (x12 + 1)), (4, .int (x4 + r16.1)), (0, .ref (q 0)), (1, .int x1), (2, .int x2), (3, .int x3), (5, .int x5), (6, .int x6), (7, .long x7), (9, .int x9), (10, .long x10)]) hx hb dX12_setsOf_246 hl (k := 10) rfl rfl (by decide) rfl (fun ls hl => ?_)
          refine lv_goto (tgt := 194) hx hb dX12_setsOf_249 (by decide) ?_
          exact st_next hm hst H locs hP hD hS ls (lv_sub hl [2, 3, 4, 5, 1, 6, 7, 8, 9, 10, 0] rfl)
        · have hm := i_f b15 hm
          refine lv_iload hx hb dX12_setsOf_222 (lv_at hl 4 rfl) ?_
          refine lv_if_ne (tgt := 231) hx hb dX12_setsOf_224 (by decide) (fun b18 => ?_) (fun b18 => ?_)
          · have hm := i_f b18 hm
            refine lv_iconst (v := 0) hx hb dX12_setsOf_231 (by decide) ?_
            refine lv_iload hx hb dX12_setsOf_232 (lv_at hl 5 rfl) ?_
            refine lv_iload hx hb dX12_setsOf_234 (lv_at hl 6 rfl) ?_
            refine lv_iload hx hb dX12_setsOf_236 (lv_at hl 8 rfl) ?_
            refine lv_iload hx hb dX12_setsOf_238 (lv_at hl 10 rfl) ?_
            obtain ⟨r19, hc_r19, hm⟩ := bs hm
            refine k_calli (va_runV (As := [.long (x10 ^^^ (v_syndromes x12.toNatClampNeg)), .int 0, .int x5, .int x6, .int x9, .int x12]) (rest := [.int x4]) ⟨hx, hb, hml, hown, hts⟩ (c_X12_isZero l G cs q H.size v_told v_tell v_sums v_kindOf v_modOf v_bitsOf v_turnOf v_polyOf v_beginOf v_finishOf v_isLow v_weightsOf v_weight v_cell v_size v_row v_keptSize v_keptBefore v_keptAfter v_placeA v_placeB v_turned v_turnedMany v_syndromes v_lightest v_freeMany v_freePlace v_freeSyndrome v_ways v_waysKept v_trace v_comesA v_comesB   (x10 ^^^ (v_syndromes x12.toNatClampNeg)) (0 : Int32) x5 x6 x9 x12 r19 hc_r19) (cwV 6 hts gX12_setsOf_X12_isZero rfl rfl rfl ⟨rfl, hd_X12_isZero⟩ ⟨Nat.le_of_ble_eq_true rfl, Nat.le_of_ble_eq_true rfl⟩) ⟨pre_blind, va_recv hK.1 hP (ci := 10) (q0 := 0) rfl rfl, pre_w hK RO.nil hP hD (va_all hD hS hA)⟩ rfl rfl hl.1 rfl (lv_room (Nat.le_of_ble_eq_true rfl)) dX12_setsOf_240 ⟨Nat.zero_le _, Nat.zero_le _⟩) hS (va_all hD hS hA) (fun hE20 H locs hP hD hS => ?_)
            have hP : va_P G vwCl (ww_M q cs v_told v_tell v_sums v_kindOf v_modOf v_bitsOf v_turnOf v_polyOf v_beginOf v_finishOf v_isLow v_weightsOf v_weight v_cell v_size v_row v_keptSize v_keptBefore v_keptAfter v_placeA v_placeB v_turned v_turnedMany v_syndromes r19.2 v_freeMany v_freePlace v_freeSyndrome v_ways v_waysKept v_trace v_comesA v_comesB) H := hP
            have hD : va_D A (ww_M q cs v_told v_tell v_sums v_kindOf v_modOf v_bitsOf v_turnOf v_polyOf v_beginOf v_finishOf v_isLow v_weightsOf v_weight v_cell v_size v_row v_keptSize v_keptBefore v_keptAfter v_placeA v_placeB v_turned v_turnedMany v_syndromes r19.2 v_freeMany v_freePlace v_freeSyndrome v_ways v_waysKept v_trace v_comesA v_comesB) := hD
            refine lv_iadd hx hb dX12_setsOf_243 ?_
            refine lv_istore (lv' := [(4, .int (x4 + r19.1)), (0, .ref (q 0)), (1, .int x1), (2, .int x2), (3, .int x3), (5, .int x5), (6, .int x6), (7, .long x7), (9, .int x9), (10, .long x10), (12, .int x12)]) hx hb dX12_setsOf_244 hl (by decide) rfl (fun ls hl => ?_)
            refine lv_iinc (v := x12 + 1) (lv' := [(12, .int (x12 + 1)), (4, .int (x4 + r19.1)), (0, .ref (q 0)), (1, .int x1), (2, .int x2), (3, .int x3), (5, .int x5), (6, .int x6), (7, .long x7), (9, .int x9), (10, .long x10)]) hx hb dX12_setsOf_246 hl (k := 10) rfl rfl (by decide) rfl (fun ls hl => ?_)
            refine lv_goto (tgt := 194) hx hb dX12_setsOf_249 (by decide) ?_
            exact st_next hm hst H locs hP hD hS ls (lv_sub hl [2, 3, 4, 5, 1, 6, 7, 8, 9, 10, 0] rfl)
          · have hm := i_t b18 hm
            refine lv_iconst (v := 1) hx hb dX12_setsOf_227 (by decide) ?_
            refine lv_goto (tgt := 232) hx hb dX12_setsOf_228 (by decide) ?_
            refine lv_iload hx hb dX12_setsOf_232 (lv_at hl 5 rfl) ?_
            refine lv_iload hx hb dX12_setsOf_234 (lv_at hl 6 rfl) ?_
            refine lv_iload hx hb dX12_setsOf_236 (lv_at hl 8 rfl) ?_
            refine lv_iload hx hb dX12_setsOf_238 (lv_at hl 10 rfl) ?_
            obtain ⟨r21, hc_r21, hm⟩ := bs hm
            refine k_calli (va_runV (As := [.long (x10 ^^^ (v_syndromes x12.toNatClampNeg)), .int 1, .int x5, .int x6, .int x9, .int x12]) (rest := [.int x4]) ⟨hx, hb, hml, hown, hts⟩ (c_X12_isZero l G cs q H.size v_told v_tell v_sums v_kindOf v_modOf v_bitsOf v_turnOf v_polyOf v_beginOf v_finishOf v_isLow v_weightsOf v_weight v_cell v_size v_row v_keptSize v_keptBefore v_keptAfter v_placeA v_placeB v_turned v_turnedMany v_syndromes v_lightest v_freeMany v_freePlace v_freeSyndrome v_ways v_waysKept v_trace v_comesA v_comesB   (x10 ^^^ (v_syndromes x12.toNatClampNeg)) (1 : Int32) x5 x6 x9 x12 r21 hc_r21) (cwV 6 hts gX12_setsOf_X12_isZero rfl rfl rfl ⟨rfl, hd_X12_isZero⟩ ⟨Nat.le_of_ble_eq_true rfl, Nat.le_of_ble_eq_true rfl⟩) ⟨pre_blind, va_recv hK.1 hP (ci := 10) (q0 := 0) rfl rfl, pre_w hK RO.nil hP hD (va_all hD hS hA)⟩ rfl rfl hl.1 rfl (lv_room (Nat.le_of_ble_eq_true rfl)) dX12_setsOf_240 ⟨Nat.zero_le _, Nat.zero_le _⟩) hS (va_all hD hS hA) (fun hE22 H locs hP hD hS => ?_)
            have hP : va_P G vwCl (ww_M q cs v_told v_tell v_sums v_kindOf v_modOf v_bitsOf v_turnOf v_polyOf v_beginOf v_finishOf v_isLow v_weightsOf v_weight v_cell v_size v_row v_keptSize v_keptBefore v_keptAfter v_placeA v_placeB v_turned v_turnedMany v_syndromes r21.2 v_freeMany v_freePlace v_freeSyndrome v_ways v_waysKept v_trace v_comesA v_comesB) H := hP
            have hD : va_D A (ww_M q cs v_told v_tell v_sums v_kindOf v_modOf v_bitsOf v_turnOf v_polyOf v_beginOf v_finishOf v_isLow v_weightsOf v_weight v_cell v_size v_row v_keptSize v_keptBefore v_keptAfter v_placeA v_placeB v_turned v_turnedMany v_syndromes r21.2 v_freeMany v_freePlace v_freeSyndrome v_ways v_waysKept v_trace v_comesA v_comesB) := hD
            refine lv_iadd hx hb dX12_setsOf_243 ?_
            refine lv_istore (lv' := [(4, .int (x4 + r21.1)), (0, .ref (q 0)), (1, .int x1), (2, .int x2), (3, .int x3), (5, .int x5), (6, .int x6), (7, .long x7), (9, .int x9), (10, .long x10), (12, .int x12)]) hx hb dX12_setsOf_244 hl (by decide) rfl (fun ls hl => ?_)
            refine lv_iinc (v := x12 + 1) (lv' := [(12, .int (x12 + 1)), (4, .int (x4 + r21.1)), (0, .ref (q 0)), (1, .int x1), (2, .int x2), (3, .int x3), (5, .int x5), (6, .int x6), (7, .long x7), (9, .int x9), (10, .long x10)]) hx hb dX12_setsOf_246 hl (k := 10) rfl rfl (by decide) rfl (fun ls hl => ?_)
            refine lv_goto (tgt := 194) hx hb dX12_setsOf_249 (by decide) ?_
            exact st_next hm hst H locs hP hD hS ls (lv_sub hl [2, 3, 4, 5, 1, 6, 7, 8, 9, 10, 0] rfl)
  have L128 : ∀ (x1 : Int32) (x2 : Int32) (x3 : Int32) (x4 : Int32) (x5 : Int32) (x6 : Int32) (x7 : Int64) (x9 : Int32) (v_lightest : (Nat → Int32)) (out : (Int32 × (Nat → Int32))), lp (fun x : (Int32 × Int32 × (Nat → Int32)) => M_X12_setsOf_b128 n x1 x2 x3 x5 x6 x7 v_syndromes x.1 x.2.1 x.2.2) n (x4, x9, v_lightest) = some out → (∀ (o : (Int32 × (Nat → Int32))), out = o → ∀ (H : Heap) (locs : List Loc), va_P G vwCl (ww_M q cs v_told v_tell v_sums v_kindOf v_modOf v_bitsOf v_turnOf v_polyOf v_beginOf v_finishOf v_isLow v_weightsOf v_weight v_cell v_size v_row v_keptSize v_keptBefore v_keptAfter v_placeA v_placeB v_turned v_turnedMany v_syndromes o.2 v_freeMany v_freePlace v_freeSyndrome v_ways v_waysKept v_trace v_comesA v_comesB) H → va_D A (ww_M q cs v_told v_tell v_sums v_kindOf v_modOf v_bitsOf v_turnOf v_polyOf v_beginOf v_finishOf v_isLow v_weightsOf v_weight v_cell v_size v_row v_keptSize v_keptBefore v_keptAfter v_placeA v_placeB v_turned v_turnedMany v_syndromes o.2 v_freeMany v_freePlace v_freeSyndrome v_ways v_waysKept v_trace v_comesA v_comesB) → va_S A s.heap H locs → ∀ (ls : Array Slot), lv_has ls 13 [(0, .ref (q 0)), (1, .int x1), (2, .int x2), (3, .int x3), (4, .int o.1), (5, .int x5), (6, .int x6)] → W p l e rmX12_setsOf s m args below meth c H locs 0 0 Q (F0 m 258 ls [])) → ∀ (H : Heap) (locs : List Loc), va_P G vwCl (ww_M q cs v_told v_tell v_sums v_kindOf v_modOf v_bitsOf v_turnOf v_polyOf v_beginOf v_finishOf v_isLow v_weightsOf v_weight v_cell v_size v_row v_keptSize v_keptBefore v_keptAfter v_placeA v_placeB v_turned v_turnedMany v_syndromes v_lightest v_freeMany v_freePlace v_freeSyndrome v_ways v_waysKept v_trace v_comesA v_comesB) H → va_D A (ww_M q cs v_told v_tell v_sums v_kindOf v_modOf v_bitsOf v_turnOf v_polyOf v_beginOf v_finishOf v_isLow v_weightsOf v_weight v_cell v_size v_row v_keptSize v_keptBefore v_keptAfter v_placeA v_placeB v_turned v_turnedMany v_syndromes v_lightest v_freeMany v_freePlace v_freeSyndrome v_ways v_waysKept v_trace v_comesA v_comesB) → va_S A s.heap H locs → ∀ (ls : Array Slot), lv_has ls 13 [(0, .ref (q 0)), (1, .int x1), (2, .int x2), (3, .int x3), (4, .int x4), (5, .int x5), (6, .int x6), (7, .long x7), (9, .int x9)] → W p l e rmX12_setsOf s m args below meth c H locs 0 0 Q (F0 m 128 ls []) := by
    intro x1 x2 x3 x4 x5 x6 x7 x9 v_lightest out hlp hX
    refine lp_ind (fun x => ∀ (H : Heap) (locs : List Loc), va_P G vwCl (ww_M q cs v_told v_tell v_sums v_kindOf v_modOf v_bitsOf v_turnOf v_polyOf v_beginOf v_finishOf v_isLow v_weightsOf v_weight v_cell v_size v_row v_keptSize v_keptBefore v_keptAfter v_placeA v_placeB v_turned v_turnedMany v_syndromes x.2.2 v_freeMany v_freePlace v_freeSyndrome v_ways v_waysKept v_trace v_comesA v_comesB) H → va_D A (ww_M q cs v_told v_tell v_sums v_kindOf v_modOf v_bitsOf v_turnOf v_polyOf v_beginOf v_finishOf v_isLow v_weightsOf v_weight v_cell v_size v_row v_keptSize v_keptBefore v_keptAfter v_placeA v_placeB v_turned v_turnedMany v_syndromes x.2.2 v_freeMany v_freePlace v_freeSyndrome v_ways v_waysKept v_trace v_comesA v_comesB) → va_S A s.heap H locs → ∀ (ls : Array Slot), lv_has ls 13 [(0, .ref (q 0)), (1, .int x1), (2, .int x2), (3, .int x3), (4, .int x.1), (5, .int x5), (6, .int x6), (7, .long x7), (9, .int x.2.1)] → W p l e rmX12_setsOf s m args below meth c H locs 0 0 Q (F0 m 128 ls [])) ?_ n (x4, x9, v_lightest) hlp
    clear hlp hP hD hS hl
    rintro ⟨x4, x9, v_lightest⟩ ob hm hst H locs hP hD hS ls hl
    have hm : M_X12_setsOf_b128 n x1 x2 x3 x5 x6 x7 v_syndromes x4 x9 v_lightest = some ob := hm
    have hl : lv_has ls 13 [(0, .ref (q 0)), (1, .int x1), (2, .int x2), (3, .int x3), (4, .int x4), (5, .int x5), (6, .int x6), (7, .long x7), (9, .int x9)] := hl
    have hP : va_P G vwCl (ww_M q cs v_told v_tell v_sums v_kindOf v_modOf v_bitsOf v_turnOf v_polyOf v_beginOf v_finishOf v_isLow v_weightsOf v_weight v_cell v_size v_row v_keptSize v_keptBefore v_keptAfter v_placeA v_placeB v_turned v_turnedMany v_syndromes v_lightest v_freeMany v_freePlace v_freeSyndrome v_ways v_waysKept v_trace v_comesA v_comesB) H := hP
    have hD : va_D A (ww_M q cs v_told v_tell v_sums v_kindOf v_modOf v_bitsOf v_turnOf v_polyOf v_beginOf v_finishOf v_isLow v_weightsOf v_weight v_cell v_size v_row v_keptSize v_keptBefore v_keptAfter v_placeA v_placeB v_turned v_turnedMany v_syndromes v_lightest v_freeMany v_freePlace v_freeSyndrome v_ways v_waysKept v_trace v_comesA v_comesB) := hD
    unfold M_X12_setsOf_b128 at hm
    refine lv_iload hx hb dX12_setsOf_128 (lv_at hl 8 rfl) ?_
    refine lv_iload_n hx hb dX12_setsOf_130 rfl (lv_at hl 2 rfl) ?_
    refine lv_icmp_ge (tgt := 258) hx hb dX12_setsOf_131 (by decide) (fun b8 => ?_) (fun b8 => ?_)
    · have hm := i_t b8 hm
      exact hX _ (st_exit hm hst) H locs hP hD hS ls (lv_sub hl [0, 1, 2, 3, 4, 5, 6] rfl)
    · have hm := i_f b8 hm
      refine lv_iload_n hx hb dX12_setsOf_134 rfl (lv_at hl 1 rfl) ?_
      refine lv_iconst (v := 2) hx hb dX12_setsOf_135 (by decide) ?_
      refine lv_icmp_le (tgt := 258) hx hb dX12_setsOf_136 (by decide) (fun b9 => ?_) (fun b9 => ?_)
      · have hm := i_t b9 hm
        exact hX _ (st_exit hm hst) H locs hP hD hS ls (lv_sub hl [0, 1, 2, 3, 4, 5, 6] rfl)
      · have hm := i_f b9 hm
        refine lv_lload hx hb dX12_setsOf_139 (lv_at hl 7 rfl) ?_
        refine lv_aload_n hx hb dX12_setsOf_141 rfl (lv_at hl 0 rfl) ?_
        refine va_get (D := G) (ci := 10) (v := .ref (q 19)) (C := RX12) (T := TX12) (N := 33) hx hb hts hinX12 hown hK.1 hP 0 rfl rfl 23 (by decide) wd1 (fun _ h9 => h9) rfl dX12_setsOf_142 ?_
        refine lv_iload hx hb dX12_setsOf_145 (lv_at hl 8 rfl) ?_
        obtain ⟨h10, hm⟩ := g_in hm
        refine va_lald hx hb hK.1 hP 19 1 rfl rfl h10 dX12_setsOf_147 ?_
        refine lv_lxor hx hb dX12_setsOf_148 ?_
        refine lv_lstore (lv' := [(10, .long (x7 ^^^ (v_syndromes x9.toNatClampNeg))), (0, .ref (q 0)), (1, .int x1), (2, .int x2), (3, .int x3), (4, .int x4), (5, .int x5), (6, .int x6), (7, .long x7), (9, .int x9)]) hx hb dX12_setsOf_149 hl (by decide) rfl (fun ls hl => ?_)
        refine lv_iload_n hx hb dX12_setsOf_151 rfl (lv_at hl 2 rfl) ?_
        refine lv_iconst (v := 3) hx hb dX12_setsOf_152 (by decide) ?_
        refine lv_icmp_ne (tgt := 188) hx hb dX12_setsOf_153 (by decide) (fun b11 => ?_) (fun b11 => ?_)
        · have hm := i_f b11 hm
          refine lv_iload hx hb dX12_setsOf_188 (lv_at hl 9 rfl) ?_
          refine lv_iconst (v := 1) hx hb dX12_setsOf_190 (by decide) ?_
          refine lv_iadd hx hb dX12_setsOf_191 ?_
          refine lv_istore (lv' := [(12, .int (x9 + 1)), (10, .long (x7 ^^^ (v_syndromes x9.toNatClampNeg))), (0, .ref (q 0)), (1, .int x1), (2, .int x2), (3, .int x3), (4, .int x4), (5, .int x5), (6, .int x6), (7, .long x7), (9, .int x9)]) hx hb dX12_setsOf_192 hl (by decide) rfl (fun ls hl => ?_)
          obtain ⟨o23, hlp23, hm⟩ := bs hm
          refine L194 x1 x2 x3 x4 x5 x6 x7 x9 (x7 ^^^ (v_syndromes x9.toNatClampNeg)) (x9 + 1) v_lightest o23 hlp23 (fun oo ho => ?_) H locs hP hD hS ls (lv_sub hl [2, 3, 4, 5, 6, 7, 8, 9, 10, 1, 0] rfl)
          subst ho
          intro H locs hP hD hS ls hl
          have hl : lv_has ls 13 [(0, .ref (q 0)), (1, .int x1), (2, .int x2), (3, .int x3), (4, .int o23.1), (5, .int x5), (6, .int x6), (7, .long x7), (9, .int x9)] := hl
          have hP : va_P G vwCl (ww_M q cs v_told v_tell v_sums v_kindOf v_modOf v_bitsOf v_turnOf v_polyOf v_beginOf v_finishOf v_isLow v_weightsOf v_weight v_cell v_size v_row v_keptSize v_keptBefore v_keptAfter v_placeA v_placeB v_turned v_turnedMany v_syndromes o23.2 v_freeMany v_freePlace v_freeSyndrome v_ways v_waysKept v_trace v_comesA v_comesB) H := hP
          have hD : va_D A (ww_M q cs v_told v_tell v_sums v_kindOf v_modOf v_bitsOf v_turnOf v_polyOf v_beginOf v_finishOf v_isLow v_weightsOf v_weight v_cell v_size v_row v_keptSize v_keptBefore v_keptAfter v_placeA v_placeB v_turned v_turnedMany v_syndromes o23.2 v_freeMany v_freePlace v_freeSyndrome v_ways v_waysKept v_trace v_comesA v_comesB) := hD
          refine lv_iinc (v := x9 + 1) (lv' := [(9, .int (x9 + 1)), (0, .ref (q 0)), (1, .int x1), (2, .int x2), (3, .int x3), (4, .int o23.1), (5, .int x5), (6, .int x6), (7, .long x7)]) hx hb dX12_setsOf_252 hl (k := 8) rfl rfl (by decide) rfl (fun ls hl => ?_)
          refine lv_goto (tgt := 128) hx hb dX12_setsOf_255 (by decide) ?_
          exact st_next hm hst H locs hP hD hS ls (lv_sub hl [1, 2, 3, 4, 5, 6, 7, 8, 0] rfl)
        · have hm := i_t b11 hm
          refine lv_iload hx hb dX12_setsOf_156 (lv_at hl 5 rfl) ?_
          refine lv_aload_n hx hb dX12_setsOf_158 rfl (lv_at hl 1 rfl) ?_
          refine lv_lload hx hb dX12_setsOf_159 (lv_at hl 0 rfl) ?_
          refine lv_iload_n hx hb dX12_setsOf_161 rfl (lv_at hl 4 rfl) ?_
          refine lv_if_eq (tgt := 174) hx hb dX12_setsOf_162 (by decide) (fun b24 => ?_) (fun b24 => ?_)
          · have hm := i_t b24 hm
            refine lv_iconst (v := 0) hx hb dX12_setsOf_174 (by decide) ?_
            refine lv_iload hx hb dX12_setsOf_175 (lv_at hl 6 rfl) ?_
            refine lv_iload hx hb dX12_setsOf_177 (lv_at hl 7 rfl) ?_
            refine lv_iload hx hb dX12_setsOf_179 (lv_at hl 9 rfl) ?_
            refine lv_iconst (v := (-1)) hx hb dX12_setsOf_181 (by decide) ?_
            obtain ⟨r25, hc_r25, hm⟩ := bs hm
            refine k_calli (va_runV (As := [.long (x7 ^^^ (v_syndromes x9.toNatClampNeg)), .int 0, .int x5, .int x6, .int x9, .int (-1)]) (rest := [.int x4]) ⟨hx, hb, hml, hown, hts⟩ (c_X12_isZero l G cs q H.size v_told v_tell v_sums v_kindOf v_modOf v_bitsOf v_turnOf v_polyOf v_beginOf v_finishOf v_isLow v_weightsOf v_weight v_cell v_size v_row v_keptSize v_keptBefore v_keptAfter v_placeA v_placeB v_turned v_turnedMany v_syndromes v_lightest v_freeMany v_freePlace v_freeSyndrome v_ways v_waysKept v_trace v_comesA v_comesB   (x7 ^^^ (v_syndromes x9.toNatClampNeg)) (0 : Int32) x5 x6 x9 (-1 : Int32) r25 hc_r25) (cwV 6 hts gX12_setsOf_X12_isZero rfl rfl rfl ⟨rfl, hd_X12_isZero⟩ ⟨Nat.le_of_ble_eq_true rfl, Nat.le_of_ble_eq_true rfl⟩) ⟨pre_blind, va_recv hK.1 hP (ci := 10) (q0 := 0) rfl rfl, pre_w hK RO.nil hP hD (va_all hD hS hA)⟩ rfl rfl hl.1 rfl (lv_room (Nat.le_of_ble_eq_true rfl)) dX12_setsOf_182 ⟨Nat.zero_le _, Nat.zero_le _⟩) hS (va_all hD hS hA) (fun hE26 H locs hP hD hS => ?_)
            have hP : va_P G vwCl (ww_M q cs v_told v_tell v_sums v_kindOf v_modOf v_bitsOf v_turnOf v_polyOf v_beginOf v_finishOf v_isLow v_weightsOf v_weight v_cell v_size v_row v_keptSize v_keptBefore v_keptAfter v_placeA v_placeB v_turned v_turnedMany v_syndromes r25.2 v_freeMany v_freePlace v_freeSyndrome v_ways v_waysKept v_trace v_comesA v_comesB) H := hP
            have hD : va_D A (ww_M q cs v_told v_tell v_sums v_kindOf v_modOf v_bitsOf v_turnOf v_polyOf v_beginOf v_finishOf v_isLow v_weightsOf v_weight v_cell v_size v_row v_keptSize v_keptBefore v_keptAfter v_placeA v_placeB v_turned v_turnedMany v_syndromes r25.2 v_freeMany v_freePlace v_freeSyndrome v_ways v_waysKept v_trace v_comesA v_comesB) := hD
            refine lv_iadd hx hb dX12_setsOf_185 ?_
            refine lv_istore (lv' := [(4, .int (x4 + r25.1)), (10, .long (x7 ^^^ (v_syndromes x9.toNatClampNeg))), (0, .ref (q 0)), (1, .int x1), (2, .int x2), (3, .int x3), (5, .int x5), (6, .int x6), (7, .long x7), (9, .int x9)]) hx hb dX12_setsOf_186 hl (by decide) rfl (fun ls hl => ?_)
            refine lv_iload hx hb dX12_setsOf_188 (lv_at hl 9 rfl) ?_
            refine lv_iconst (v := 1) hx hb dX12_setsOf_190 (by decide) ?_
            refine lv_iadd hx hb dX12_setsOf_191 ?_
            refine lv_istore (lv' := [(12, .int (x9 + 1)), (4, .int (x4 + r25.1)), (10, .long (x7 ^^^ (v_syndromes x9.toNatClampNeg))), (0, .ref (q 0)), (1, .int x1), (2, .int x2), (3, .int x3), (5, .int x5), (6, .int x6), (7, .long x7), (9, .int x9)]) hx hb dX12_setsOf_192 hl (by decide) rfl (fun ls hl => ?_)
            obtain ⟨o27, hlp27, hm⟩ := bs hm
            refine L194 x1 x2 x3 (x4 + r25.1) x5 x6 x7 x9 (x7 ^^^ (v_syndromes x9.toNatClampNeg)) (x9 + 1) r25.2 o27 hlp27 (fun oo ho => ?_) H locs hP hD hS ls (lv_sub hl [3, 4, 5, 6, 1, 7, 8, 9, 10, 2, 0] rfl)
            subst ho
            intro H locs hP hD hS ls hl
            have hl : lv_has ls 13 [(0, .ref (q 0)), (1, .int x1), (2, .int x2), (3, .int x3), (4, .int o27.1), (5, .int x5), (6, .int x6), (7, .long x7), (9, .int x9)] := hl
            have hP : va_P G vwCl (ww_M q cs v_told v_tell v_sums v_kindOf v_modOf v_bitsOf v_turnOf v_polyOf v_beginOf v_finishOf v_isLow v_weightsOf v_weight v_cell v_size v_row v_keptSize v_keptBefore v_keptAfter v_placeA v_placeB v_turned v_turnedMany v_syndromes o27.2 v_freeMany v_freePlace v_freeSyndrome v_ways v_waysKept v_trace v_comesA v_comesB) H := hP
            have hD : va_D A (ww_M q cs v_told v_tell v_sums v_kindOf v_modOf v_bitsOf v_turnOf v_polyOf v_beginOf v_finishOf v_isLow v_weightsOf v_weight v_cell v_size v_row v_keptSize v_keptBefore v_keptAfter v_placeA v_placeB v_turned v_turnedMany v_syndromes o27.2 v_freeMany v_freePlace v_freeSyndrome v_ways v_waysKept v_trace v_comesA v_comesB) := hD
            refine lv_iinc (v := x9 + 1) (lv' := [(9, .int (x9 + 1)), (0, .ref (q 0)), (1, .int x1), (2, .int x2), (3, .int x3), (4, .int o27.1), (5, .int x5), (6, .int x6), (7, .long x7)]) hx hb dX12_setsOf_252 hl (k := 8) rfl rfl (by decide) rfl (fun ls hl => ?_)
            refine lv_goto (tgt := 128) hx hb dX12_setsOf_255 (by decide) ?_
            exact st_next hm hst H locs hP hD hS ls (lv_sub hl [1, 2, 3, 4, 5, 6, 7, 8, 0] rfl)
          · have hm := i_f b24 hm
            refine lv_iload hx hb dX12_setsOf_165 (lv_at hl 5 rfl) ?_
            refine lv_if_ne (tgt := 174) hx hb dX12_setsOf_167 (by decide) (fun b28 => ?_) (fun b28 => ?_)
            · have hm := i_f b28 hm
              refine lv_iconst (v := 0) hx hb dX12_setsOf_174 (by decide) ?_
              refine lv_iload hx hb dX12_setsOf_175 (lv_at hl 6 rfl) ?_
              refine lv_iload hx hb dX12_setsOf_177 (lv_at hl 7 rfl) ?_
              refine lv_iload hx hb dX12_setsOf_179 (lv_at hl 9 rfl) ?_
              refine lv_iconst (v := (-1)) hx hb dX12_setsOf_181 (by decide) ?_
              obtain ⟨r29, hc_r29, hm⟩ := bs hm
              refine k_calli (va_runV (As := [.long (x7 ^^^ (v_syndromes x9.toNatClampNeg)), .int 0, .int x5, .int x6, .int x9, .int (-1)]) (rest := [.int x4]) ⟨hx, hb, hml, hown, hts⟩ (c_X12_isZero l G cs q H.size v_told v_tell v_sums v_kindOf v_modOf v_bitsOf v_turnOf v_polyOf v_beginOf v_finishOf v_isLow v_weightsOf v_weight v_cell v_size v_row v_keptSize v_keptBefore v_keptAfter v_placeA v_placeB v_turned v_turnedMany v_syndromes v_lightest v_freeMany v_freePlace v_freeSyndrome v_ways v_waysKept v_trace v_comesA v_comesB   (x7 ^^^ (v_syndromes x9.toNatClampNeg)) (0 : Int32) x5 x6 x9 (-1 : Int32) r29 hc_r29) (cwV 6 hts gX12_setsOf_X12_isZero rfl rfl rfl ⟨rfl, hd_X12_isZero⟩ ⟨Nat.le_of_ble_eq_true rfl, Nat.le_of_ble_eq_true rfl⟩) ⟨pre_blind, va_recv hK.1 hP (ci := 10) (q0 := 0) rfl rfl, pre_w hK RO.nil hP hD (va_all hD hS hA)⟩ rfl rfl hl.1 rfl (lv_room (Nat.le_of_ble_eq_true rfl)) dX12_setsOf_182 ⟨Nat.zero_le _, Nat.zero_le _⟩) hS (va_all hD hS hA) (fun hE30 H locs hP hD hS => ?_)
              have hP : va_P G vwCl (ww_M q cs v_told v_tell v_sums v_kindOf v_modOf v_bitsOf v_turnOf v_polyOf v_beginOf v_finishOf v_isLow v_weightsOf v_weight v_cell v_size v_row v_keptSize v_keptBefore v_keptAfter v_placeA v_placeB v_turned v_turnedMany v_syndromes r29.2 v_freeMany v_freePlace v_freeSyndrome v_ways v_waysKept v_trace v_comesA v_comesB) H := hP
              have hD : va_D A (ww_M q cs v_told v_tell v_sums v_kindOf v_modOf v_bitsOf v_turnOf v_polyOf v_beginOf v_finishOf v_isLow v_weightsOf v_weight v_cell v_size v_row v_keptSize v_keptBefore v_keptAfter v_placeA v_placeB v_turned v_turnedMany v_syndromes r29.2 v_freeMany v_freePlace v_freeSyndrome v_ways v_waysKept v_trace v_comesA v_comesB) := hD
              refine lv_iadd hx hb dX12_setsOf_185 ?_
              refine lv_istore (lv' := [(4, .int (x4 + r29.1)), (10, .long (x7 ^^^ (v_syndromes x9.toNatClampNeg))), (0, .ref (q 0)), (1, .int x1), (2, .int x2), (3, .int x3), (5, .int x5), (6, .int x6), (7, .long x7), (9, .int x9)]) hx hb dX12_setsOf_186 hl (by decide) rfl (fun ls hl => ?_)
              refine lv_iload hx hb dX12_setsOf_188 (lv_at hl 9 rfl) ?_
              refine lv_iconst (v := 1) hx hb dX12_setsOf_190 (by decide) ?_
              refine lv_iadd hx hb dX12_setsOf_191 ?_
              refine lv_istore (lv' := [(12, .int (x9 + 1)), (4, .int (x4 + r29.1)), (10, .long (x7 ^^^ (v_syndromes x9.toNatClampNeg))), (0, .ref (q 0)), (1, .int x1), (2, .int x2), (3, .int x3), (5, .int x5), (6, .int x6), (7, .long x7), (9, .int x9)]) hx hb dX12_setsOf_192 hl (by decide) rfl (fun ls hl => ?_)
              obtain ⟨o31, hlp31, hm⟩ := bs hm
              refine L194 x1 x2 x3 (x4 + r29.1) x5 x6 x7 x9 (x7 ^^^ (v_syndromes x9.toNatClampNeg)) (x9 + 1) r29.2 o31 hlp31 (fun oo ho => ?_) H locs hP hD hS ls (lv_sub hl [3, 4, 5, 6, 1, 7, 8, 9, 10, 2, 0] rfl)
              subst ho
              intro H locs hP hD hS ls hl
              have hl : lv_has ls 13 [(0, .ref (q 0)), (1, .int x1), (2, .int x2), (3, .int x3), (4, .int o31.1), (5, .int x5), (6, .int x6), (7, .long x7), (9, .int x9)] := hl
              have hP : va_P G vwCl (ww_M q cs v_told v_tell v_sums v_kindOf v_modOf v_bitsOf v_turnOf v_polyOf v_beginOf v_finishOf v_isLow v_weightsOf v_weight v_cell v_size v_row v_keptSize v_keptBefore v_keptAfter v_placeA v_placeB v_turned v_turnedMany v_syndromes o31.2 v_freeMany v_freePlace v_freeSyndrome v_ways v_waysKept v_trace v_comesA v_comesB) H := hP
              have hD : va_D A (ww_M q cs v_told v_tell v_sums v_kindOf v_modOf v_bitsOf v_turnOf v_polyOf v_beginOf v_finishOf v_isLow v_weightsOf v_weight v_cell v_size v_row v_keptSize v_keptBefore v_keptAfter v_placeA v_placeB v_turned v_turnedMany v_syndromes o31.2 v_freeMany v_freePlace v_freeSyndrome v_ways v_waysKept v_trace v_comesA v_comesB) := hD
              refine lv_iinc (v := x9 + 1) (lv' := [(9, .int (x9 + 1)), (0, .ref (q 0)), (1, .int x1), (2, .int x2), (3, .int x3), (4, .int o31.1), (5, .int x5), (6, .int x6), (7, .long x7)]) hx hb dX12_setsOf_252 hl (k := 8) rfl rfl (by decide) rfl (fun ls hl => ?_)
              refine lv_goto (tgt := 128) hx hb dX12_setsOf_255 (by decide) ?_
              exact st_next hm hst H locs hP hD hS ls (lv_sub hl [1, 2, 3, 4, 5, 6, 7, 8, 0] rfl)
            · have hm := i_t b28 hm
              refine lv_iconst (v := 1) hx hb dX12_setsOf_170 (by decide) ?_
              refine lv_goto (tgt := 175) hx hb dX12_setsOf_171 (by decide) ?_
              refine lv_iload hx hb dX12_setsOf_175 (lv_at hl 6 rfl) ?_
              refine lv_iload hx hb dX12_setsOf_177 (lv_at hl 7 rfl) ?_
              refine lv_iload hx hb dX12_setsOf_179 (lv_at hl 9 rfl) ?_
              refine lv_iconst (v := (-1)) hx hb dX12_setsOf_181 (by decide) ?_
              obtain ⟨r32, hc_r32, hm⟩ := bs hm
              refine k_calli (va_runV (As := [.long (x7 ^^^ (v_syndromes x9.toNatClampNeg)), .int 1, .int x5, .int x6, .int x9, .int (-1)]) (rest := [.int x4]) ⟨hx, hb, hml, hown, hts⟩ (c_X12_isZero l G cs q H.size v_told v_tell v_sums v_kindOf v_modOf v_bitsOf v_turnOf v_polyOf v_beginOf v_finishOf v_isLow v_weightsOf v_weight v_cell v_size v_row v_keptSize v_keptBefore v_keptAfter v_placeA v_placeB v_turned v_turnedMany v_syndromes v_lightest v_freeMany v_freePlace v_freeSyndrome v_ways v_waysKept v_trace v_comesA v_comesB   (x7 ^^^ (v_syndromes x9.toNatClampNeg)) (1 : Int32) x5 x6 x9 (-1 : Int32) r32 hc_r32) (cwV 6 hts gX12_setsOf_X12_isZero rfl rfl rfl ⟨rfl, hd_X12_isZero⟩ ⟨Nat.le_of_ble_eq_true rfl, Nat.le_of_ble_eq_true rfl⟩) ⟨pre_blind, va_recv hK.1 hP (ci := 10) (q0 := 0) rfl rfl, pre_w hK RO.nil hP hD (va_all hD hS hA)⟩ rfl rfl hl.1 rfl (lv_room (Nat.le_of_ble_eq_true rfl)) dX12_setsOf_182 ⟨Nat.zero_le _, Nat.zero_le _⟩) hS (va_all hD hS hA) (fun hE33 H locs hP hD hS => ?_)
              have hP : va_P G vwCl (ww_M q cs v_told v_tell v_sums v_kindOf v_modOf v_bitsOf v_turnOf v_polyOf v_beginOf v_finishOf v_isLow v_weightsOf v_weight v_cell v_size v_row v_keptSize v_keptBefore v_keptAfter v_placeA v_placeB v_turned v_turnedMany v_syndromes r32.2 v_freeMany v_freePlace v_freeSyndrome v_ways v_waysKept v_trace v_comesA v_comesB) H := hP
              have hD : va_D A (ww_M q cs v_told v_tell v_sums v_kindOf v_modOf v_bitsOf v_turnOf v_polyOf v_beginOf v_finishOf v_isLow v_weightsOf v_weight v_cell v_size v_row v_keptSize v_keptBefore v_keptAfter v_placeA v_placeB v_turned v_turnedMany v_syndromes r32.2 v_freeMany v_freePlace v_freeSyndrome v_ways v_waysKept v_trace v_comesA v_comesB) := hD
              refine lv_iadd hx hb dX12_setsOf_185 ?_
              refine lv_istore (lv' := [(4, .int (x4 + r32.1)), (10, .long (x7 ^^^ (v_syndromes x9.toNatClampNeg))), (0, .ref (q 0)), (1, .int x1), (2, .int x2), (3, .int x3), (5, .int x5), (6, .int x6), (7, .long x7), (9, .int x9)]) hx hb dX12_setsOf_186 hl (by decide) rfl (fun ls hl => ?_)
              refine lv_iload hx hb dX12_setsOf_188 (lv_at hl 9 rfl) ?_
              refine lv_iconst (v := 1) hx hb dX12_setsOf_190 (by decide) ?_
              refine lv_iadd hx hb dX12_setsOf_191 ?_
              refine lv_istore (lv' := [(12, .int (x9 + 1)), (4, .int (x4 + r32.1)), (10, .long (x7 ^^^ (v_syndromes x9.toNatClampNeg))), (0, .ref (q 0)), (1, .int x1), (2, .int x2), (3, .int x3), (5, .int x5), (6, .int x6), (7, .long x7), (9, .int x9)]) hx hb dX12_setsOf_192 hl (by decide) rfl (fun ls hl => ?_)
              obtain ⟨o34, hlp34, hm⟩ := bs hm
              refine L194 x1 x2 x3 (x4 + r32.1) x5 x6 x7 x9 (x7 ^^^ (v_syndromes x9.toNatClampNeg)) (x9 + 1) r32.2 o34 hlp34 (fun oo ho => ?_) H locs hP hD hS ls (lv_sub hl [3, 4, 5, 6, 1, 7, 8, 9, 10, 2, 0] rfl)
              subst ho
              intro H locs hP hD hS ls hl
              have hl : lv_has ls 13 [(0, .ref (q 0)), (1, .int x1), (2, .int x2), (3, .int x3), (4, .int o34.1), (5, .int x5), (6, .int x6), (7, .long x7), (9, .int x9)] := hl
              have hP : va_P G vwCl (ww_M q cs v_told v_tell v_sums v_kindOf v_modOf v_bitsOf v_turnOf v_polyOf v_beginOf v_finishOf v_isLow v_weightsOf v_weight v_cell v_size v_row v_keptSize v_keptBefore v_keptAfter v_placeA v_placeB v_turned v_turnedMany v_syndromes o34.2 v_freeMany v_freePlace v_freeSyndrome v_ways v_waysKept v_trace v_comesA v_comesB) H := hP
              have hD : va_D A (ww_M q cs v_told v_tell v_sums v_kindOf v_modOf v_bitsOf v_turnOf v_polyOf v_beginOf v_finishOf v_isLow v_weightsOf v_weight v_cell v_size v_row v_keptSize v_keptBefore v_keptAfter v_placeA v_placeB v_turned v_turnedMany v_syndromes o34.2 v_freeMany v_freePlace v_freeSyndrome v_ways v_waysKept v_trace v_comesA v_comesB) := hD
              refine lv_iinc (v := x9 + 1) (lv' := [(9, .int (x9 + 1)), (0, .ref (q 0)), (1, .int x1), (2, .int x2), (3, .int x3), (4, .int o34.1), (5, .int x5), (6, .int x6), (7, .long x7)]) hx hb dX12_setsOf_252 hl (k := 8) rfl rfl (by decide) rfl (fun ls hl => ?_)
              refine lv_goto (tgt := 128) hx hb dX12_setsOf_255 (by decide) ?_
              exact st_next hm hst H locs hP hD hS ls (lv_sub hl [1, 2, 3, 4, 5, 6, 7, 8, 0] rfl)
  have L58 : ∀ (x1 : Int32) (x2 : Int32) (x3 : Int32) (x4 : Int32) (x5 : Int32) (x6 : Int32) (v_lightest : (Nat → Int32)) (out : (Int32 × (Nat → Int32))), lp (fun x : (Int32 × Int32 × (Nat → Int32)) => M_X12_setsOf_b58 n x1 x2 x3 x5 v_syndromes x.1 x.2.1 x.2.2) n (x4, x6, v_lightest) = some out → (∀ (o : (Int32 × (Nat → Int32))), out = o → ∀ (H : Heap) (locs : List Loc), va_P G vwCl (ww_M q cs v_told v_tell v_sums v_kindOf v_modOf v_bitsOf v_turnOf v_polyOf v_beginOf v_finishOf v_isLow v_weightsOf v_weight v_cell v_size v_row v_keptSize v_keptBefore v_keptAfter v_placeA v_placeB v_turned v_turnedMany v_syndromes o.2 v_freeMany v_freePlace v_freeSyndrome v_ways v_waysKept v_trace v_comesA v_comesB) H → va_D A (ww_M q cs v_told v_tell v_sums v_kindOf v_modOf v_bitsOf v_turnOf v_polyOf v_beginOf v_finishOf v_isLow v_weightsOf v_weight v_cell v_size v_row v_keptSize v_keptBefore v_keptAfter v_placeA v_placeB v_turned v_turnedMany v_syndromes o.2 v_freeMany v_freePlace v_freeSyndrome v_ways v_waysKept v_trace v_comesA v_comesB) → va_S A s.heap H locs → ∀ (ls : Array Slot), lv_has ls 13 [(0, .ref (q 0)), (1, .int x1), (2, .int x2), (3, .int x3), (4, .int o.1), (5, .int x5)] → W p l e rmX12_setsOf s m args below meth c H locs 0 0 Q (F0 m 264 ls [])) → ∀ (H : Heap) (locs : List Loc), va_P G vwCl (ww_M q cs v_told v_tell v_sums v_kindOf v_modOf v_bitsOf v_turnOf v_polyOf v_beginOf v_finishOf v_isLow v_weightsOf v_weight v_cell v_size v_row v_keptSize v_keptBefore v_keptAfter v_placeA v_placeB v_turned v_turnedMany v_syndromes v_lightest v_freeMany v_freePlace v_freeSyndrome v_ways v_waysKept v_trace v_comesA v_comesB) H → va_D A (ww_M q cs v_told v_tell v_sums v_kindOf v_modOf v_bitsOf v_turnOf v_polyOf v_beginOf v_finishOf v_isLow v_weightsOf v_weight v_cell v_size v_row v_keptSize v_keptBefore v_keptAfter v_placeA v_placeB v_turned v_turnedMany v_syndromes v_lightest v_freeMany v_freePlace v_freeSyndrome v_ways v_waysKept v_trace v_comesA v_comesB) → va_S A s.heap H locs → ∀ (ls : Array Slot), lv_has ls 13 [(0, .ref (q 0)), (1, .int x1), (2, .int x2), (3, .int x3), (4, .int x4), (5, .int x5), (6, .int x6)] → W p l e rmX12_setsOf s m args below meth c H locs 0 0 Q (F0 m 58 ls []) := by
    intro x1 x2 x3 x4 x5 x6 v_lightest out hlp hX
    refine lp_ind (fun x => ∀ (H : Heap) (locs : List Loc), va_P G vwCl (ww_M q cs v_told v_tell v_sums v_kindOf v_modOf v_bitsOf v_turnOf v_polyOf v_beginOf v_finishOf v_isLow v_weightsOf v_weight v_cell v_size v_row v_keptSize v_keptBefore v_keptAfter v_placeA v_placeB v_turned v_turnedMany v_syndromes x.2.2 v_freeMany v_freePlace v_freeSyndrome v_ways v_waysKept v_trace v_comesA v_comesB) H → va_D A (ww_M q cs v_told v_tell v_sums v_kindOf v_modOf v_bitsOf v_turnOf v_polyOf v_beginOf v_finishOf v_isLow v_weightsOf v_weight v_cell v_size v_row v_keptSize v_keptBefore v_keptAfter v_placeA v_placeB v_turned v_turnedMany v_syndromes x.2.2 v_freeMany v_freePlace v_freeSyndrome v_ways v_waysKept v_trace v_comesA v_comesB) → va_S A s.heap H locs → ∀ (ls : Array Slot), lv_has ls 13 [(0, .ref (q 0)), (1, .int x1), (2, .int x2), (3, .int x3), (4, .int x.1), (5, .int x5), (6, .int x.2.1)] → W p l e rmX12_setsOf s m args below meth c H locs 0 0 Q (F0 m 58 ls [])) ?_ n (x4, x6, v_lightest) hlp
    clear hlp hP hD hS hl
    rintro ⟨x4, x6, v_lightest⟩ ob hm hst H locs hP hD hS ls hl
    have hm : M_X12_setsOf_b58 n x1 x2 x3 x5 v_syndromes x4 x6 v_lightest = some ob := hm
    have hl : lv_has ls 13 [(0, .ref (q 0)), (1, .int x1), (2, .int x2), (3, .int x3), (4, .int x4), (5, .int x5), (6, .int x6)] := hl
    have hP : va_P G vwCl (ww_M q cs v_told v_tell v_sums v_kindOf v_modOf v_bitsOf v_turnOf v_polyOf v_beginOf v_finishOf v_isLow v_weightsOf v_weight v_cell v_size v_row v_keptSize v_keptBefore v_keptAfter v_placeA v_placeB v_turned v_turnedMany v_syndromes v_lightest v_freeMany v_freePlace v_freeSyndrome v_ways v_waysKept v_trace v_comesA v_comesB) H := hP
    have hD : va_D A (ww_M q cs v_told v_tell v_sums v_kindOf v_modOf v_bitsOf v_turnOf v_polyOf v_beginOf v_finishOf v_isLow v_weightsOf v_weight v_cell v_size v_row v_keptSize v_keptBefore v_keptAfter v_placeA v_placeB v_turned v_turnedMany v_syndromes v_lightest v_freeMany v_freePlace v_freeSyndrome v_ways v_waysKept v_trace v_comesA v_comesB) := hD
    unfold M_X12_setsOf_b58 at hm
    refine lv_iload hx hb dX12_setsOf_58 (lv_at hl 6 rfl) ?_
    refine lv_iload_n hx hb dX12_setsOf_60 rfl (lv_at hl 2 rfl) ?_
    refine lv_icmp_ge (tgt := 264) hx hb dX12_setsOf_61 (by decide) (fun b3 => ?_) (fun b3 => ?_)
    · have hm := i_t b3 hm
      exact hX _ (st_exit hm hst) H locs hP hD hS ls (lv_sub hl [0, 1, 2, 3, 4, 5] rfl)
    · have hm := i_f b3 hm
      refine lv_iload_n hx hb dX12_setsOf_64 rfl (lv_at hl 1 rfl) ?_
      refine lv_iconst (v := 1) hx hb dX12_setsOf_65 (by decide) ?_
      refine lv_icmp_le (tgt := 264) hx hb dX12_setsOf_66 (by decide) (fun b4 => ?_) (fun b4 => ?_)
      · have hm := i_t b4 hm
        exact hX _ (st_exit hm hst) H locs hP hD hS ls (lv_sub hl [0, 1, 2, 3, 4, 5] rfl)
      · have hm := i_f b4 hm
        refine lv_aload_n hx hb dX12_setsOf_69 rfl (lv_at hl 0 rfl) ?_
        refine va_get (D := G) (ci := 10) (v := .ref (q 19)) (C := RX12) (T := TX12) (N := 33) hx hb hts hinX12 hown hK.1 hP 0 rfl rfl 23 (by decide) wd1 (fun _ h9 => h9) rfl dX12_setsOf_70 ?_
        refine lv_iload hx hb dX12_setsOf_73 (lv_at hl 5 rfl) ?_
        obtain ⟨h5, hm⟩ := g_in hm
        refine va_lald hx hb hK.1 hP 19 1 rfl rfl h5 dX12_setsOf_75 ?_
        refine lv_aload_n hx hb dX12_setsOf_76 rfl (lv_at hl 0 rfl) ?_
        refine va_get (D := G) (ci := 10) (v := .ref (q 19)) (C := RX12) (T := TX12) (N := 33) hx hb hts hinX12 hown hK.1 hP 0 rfl rfl 23 (by decide) wd1 (fun _ h9 => h9) rfl dX12_setsOf_77 ?_
        refine lv_iload hx hb dX12_setsOf_80 (lv_at hl 6 rfl) ?_
        obtain ⟨h6, hm⟩ := g_in hm
        refine va_lald hx hb hK.1 hP 19 1 rfl rfl h6 dX12_setsOf_82 ?_
        refine lv_lxor hx hb dX12_setsOf_83 ?_
        refine lv_lstore (lv' := [(7, .long ((v_syndromes x5.toNatClampNeg) ^^^ (v_syndromes x6.toNatClampNeg))), (0, .ref (q 0)), (1, .int x1), (2, .int x2), (3, .int x3), (4, .int x4), (5, .int x5), (6, .int x6)]) hx hb dX12_setsOf_84 hl (by decide) rfl (fun ls hl => ?_)
        refine lv_iload_n hx hb dX12_setsOf_86 rfl (lv_at hl 2 rfl) ?_
        refine lv_iconst (v := 2) hx hb dX12_setsOf_87 (by decide) ?_
        refine lv_icmp_ne (tgt := 122) hx hb dX12_setsOf_88 (by decide) (fun b7 => ?_) (fun b7 => ?_)
        · have hm := i_f b7 hm
          refine lv_iload hx hb dX12_setsOf_122 (lv_at hl 7 rfl) ?_
          refine lv_iconst (v := 1) hx hb dX12_setsOf_124 (by decide) ?_
          refine lv_iadd hx hb dX12_setsOf_125 ?_
          refine lv_istore (lv' := [(9, .int (x6 + 1)), (7, .long ((v_syndromes x5.toNatClampNeg) ^^^ (v_syndromes x6.toNatClampNeg))), (0, .ref (q 0)), (1, .int x1), (2, .int x2), (3, .int x3), (4, .int x4), (5, .int x5), (6, .int x6)]) hx hb dX12_setsOf_126 hl (by decide) rfl (fun ls hl => ?_)
          obtain ⟨o35, hlp35, hm⟩ := bs hm
          refine L128 x1 x2 x3 x4 x5 x6 ((v_syndromes x5.toNatClampNeg) ^^^ (v_syndromes x6.toNatClampNeg)) (x6 + 1) v_lightest o35 hlp35 (fun oo ho => ?_) H locs hP hD hS ls (lv_sub hl [2, 3, 4, 5, 6, 7, 8, 1, 0] rfl)
          subst ho
          intro H locs hP hD hS ls hl
          have hl : lv_has ls 13 [(0, .ref (q 0)), (1, .int x1), (2, .int x2), (3, .int x3), (4, .int o35.1), (5, .int x5), (6, .int x6)] := hl
          have hP : va_P G vwCl (ww_M q cs v_told v_tell v_sums v_kindOf v_modOf v_bitsOf v_turnOf v_polyOf v_beginOf v_finishOf v_isLow v_weightsOf v_weight v_cell v_size v_row v_keptSize v_keptBefore v_keptAfter v_placeA v_placeB v_turned v_turnedMany v_syndromes o35.2 v_freeMany v_freePlace v_freeSyndrome v_ways v_waysKept v_trace v_comesA v_comesB) H := hP
          have hD : va_D A (ww_M q cs v_told v_tell v_sums v_kindOf v_modOf v_bitsOf v_turnOf v_polyOf v_beginOf v_finishOf v_isLow v_weightsOf v_weight v_cell v_size v_row v_keptSize v_keptBefore v_keptAfter v_placeA v_placeB v_turned v_turnedMany v_syndromes o35.2 v_freeMany v_freePlace v_freeSyndrome v_ways v_waysKept v_trace v_comesA v_comesB) := hD
          refine lv_iinc (v := x6 + 1) (lv' := [(6, .int (x6 + 1)), (0, .ref (q 0)), (1, .int x1), (2, .int x2), (3, .int x3), (4, .int o35.1), (5, .int x5)]) hx hb dX12_setsOf_258 hl (k := 6) rfl rfl (by decide) rfl (fun ls hl => ?_)
          refine lv_goto (tgt := 58) hx hb dX12_setsOf_261 (by decide) ?_
          exact st_next hm hst H locs hP hD hS ls (lv_sub hl [1, 2, 3, 4, 5, 6, 0] rfl)
        · have hm := i_t b7 hm
          refine lv_iload hx hb dX12_setsOf_91 (lv_at hl 5 rfl) ?_
          refine lv_aload_n hx hb dX12_setsOf_93 rfl (lv_at hl 1 rfl) ?_
          refine lv_lload hx hb dX12_setsOf_94 (lv_at hl 0 rfl) ?_
          refine lv_iload_n hx hb dX12_setsOf_96 rfl (lv_at hl 4 rfl) ?_
          refine lv_if_eq (tgt := 109) hx hb dX12_setsOf_97 (by decide) (fun b36 => ?_) (fun b36 => ?_)
          · have hm := i_t b36 hm
            refine lv_iconst (v := 0) hx hb dX12_setsOf_109 (by decide) ?_
            refine lv_iload hx hb dX12_setsOf_110 (lv_at hl 6 rfl) ?_
            refine lv_iload hx hb dX12_setsOf_112 (lv_at hl 7 rfl) ?_
            refine lv_iconst (v := (-1)) hx hb dX12_setsOf_114 (by decide) ?_
            refine lv_iconst (v := (-1)) hx hb dX12_setsOf_115 (by decide) ?_
            obtain ⟨r37, hc_r37, hm⟩ := bs hm
            refine k_calli (va_runV (As := [.long ((v_syndromes x5.toNatClampNeg) ^^^ (v_syndromes x6.toNatClampNeg)), .int 0, .int x5, .int x6, .int (-1), .int (-1)]) (rest := [.int x4]) ⟨hx, hb, hml, hown, hts⟩ (c_X12_isZero l G cs q H.size v_told v_tell v_sums v_kindOf v_modOf v_bitsOf v_turnOf v_polyOf v_beginOf v_finishOf v_isLow v_weightsOf v_weight v_cell v_size v_row v_keptSize v_keptBefore v_keptAfter v_placeA v_placeB v_turned v_turnedMany v_syndromes v_lightest v_freeMany v_freePlace v_freeSyndrome v_ways v_waysKept v_trace v_comesA v_comesB   ((v_syndromes x5.toNatClampNeg) ^^^ (v_syndromes x6.toNatClampNeg)) (0 : Int32) x5 x6 (-1 : Int32) (-1 : Int32) r37 hc_r37) (cwV 6 hts gX12_setsOf_X12_isZero rfl rfl rfl ⟨rfl, hd_X12_isZero⟩ ⟨Nat.le_of_ble_eq_true rfl, Nat.le_of_ble_eq_true rfl⟩) ⟨pre_blind, va_recv hK.1 hP (ci := 10) (q0 := 0) rfl rfl, pre_w hK RO.nil hP hD (va_all hD hS hA)⟩ rfl rfl hl.1 rfl (lv_room (Nat.le_of_ble_eq_true rfl)) dX12_setsOf_116 ⟨Nat.zero_le _, Nat.zero_le _⟩) hS (va_all hD hS hA) (fun hE38 H locs hP hD hS => ?_)
            have hP : va_P G vwCl (ww_M q cs v_told v_tell v_sums v_kindOf v_modOf v_bitsOf v_turnOf v_polyOf v_beginOf v_finishOf v_isLow v_weightsOf v_weight v_cell v_size v_row v_keptSize v_keptBefore v_keptAfter v_placeA v_placeB v_turned v_turnedMany v_syndromes r37.2 v_freeMany v_freePlace v_freeSyndrome v_ways v_waysKept v_trace v_comesA v_comesB) H := hP
            have hD : va_D A (ww_M q cs v_told v_tell v_sums v_kindOf v_modOf v_bitsOf v_turnOf v_polyOf v_beginOf v_finishOf v_isLow v_weightsOf v_weight v_cell v_size v_row v_keptSize v_keptBefore v_keptAfter v_placeA v_placeB v_turned v_turnedMany v_syndromes r37.2 v_freeMany v_freePlace v_freeSyndrome v_ways v_waysKept v_trace v_comesA v_comesB) := hD
            refine lv_iadd hx hb dX12_setsOf_119 ?_
            refine lv_istore (lv' := [(4, .int (x4 + r37.1)), (7, .long ((v_syndromes x5.toNatClampNeg) ^^^ (v_syndromes x6.toNatClampNeg))), (0, .ref (q 0)), (1, .int x1), (2, .int x2), (3, .int x3), (5, .int x5), (6, .int x6)]) hx hb dX12_setsOf_120 hl (by decide) rfl (fun ls hl => ?_)
            refine lv_iload hx hb dX12_setsOf_122 (lv_at hl 7 rfl) ?_
            refine lv_iconst (v := 1) hx hb dX12_setsOf_124 (by decide) ?_
            refine lv_iadd hx hb dX12_setsOf_125 ?_
            refine lv_istore (lv' := [(9, .int (x6 + 1)), (4, .int (x4 + r37.1)), (7, .long ((v_syndromes x5.toNatClampNeg) ^^^ (v_syndromes x6.toNatClampNeg))), (0, .ref (q 0)), (1, .int x1), (2, .int x2), (3, .int x3), (5, .int x5), (6, .int x6)]) hx hb dX12_setsOf_126 hl (by decide) rfl (fun ls hl => ?_)
            obtain ⟨o39, hlp39, hm⟩ := bs hm
            refine L128 x1 x2 x3 (x4 + r37.1) x5 x6 ((v_syndromes x5.toNatClampNeg) ^^^ (v_syndromes x6.toNatClampNeg)) (x6 + 1) r37.2 o39 hlp39 (fun oo ho => ?_) H locs hP hD hS ls (lv_sub hl [3, 4, 5, 6, 1, 7, 8, 2, 0] rfl)
            subst ho
            intro H locs hP hD hS ls hl
            have hl : lv_has ls 13 [(0, .ref (q 0)), (1, .int x1), (2, .int x2), (3, .int x3), (4, .int o39.1), (5, .int x5), (6, .int x6)] := hl
            have hP : va_P G vwCl (ww_M q cs v_told v_tell v_sums v_kindOf v_modOf v_bitsOf v_turnOf v_polyOf v_beginOf v_finishOf v_isLow v_weightsOf v_weight v_cell v_size v_row v_keptSize v_keptBefore v_keptAfter v_placeA v_placeB v_turned v_turnedMany v_syndromes o39.2 v_freeMany v_freePlace v_freeSyndrome v_ways v_waysKept v_trace v_comesA v_comesB) H := hP
            have hD : va_D A (ww_M q cs v_told v_tell v_sums v_kindOf v_modOf v_bitsOf v_turnOf v_polyOf v_beginOf v_finishOf v_isLow v_weightsOf v_weight v_cell v_size v_row v_keptSize v_keptBefore v_keptAfter v_placeA v_placeB v_turned v_turnedMany v_syndromes o39.2 v_freeMany v_freePlace v_freeSyndrome v_ways v_waysKept v_trace v_comesA v_comesB) := hD
            refine lv_iinc (v := x6 + 1) (lv' := [(6, .int (x6 + 1)), (0, .ref (q 0)), (1, .int x1), (2, .int x2), (3, .int x3), (4, .int o39.1), (5, .int x5)]) hx hb dX12_setsOf_258 hl (k := 6) rfl rfl (by decide) rfl (fun ls hl => ?_)
            refine lv_goto (tgt := 58) hx hb dX12_setsOf_261 (by decide) ?_
            exact st_next hm hst H locs hP hD hS ls (lv_sub hl [1, 2, 3, 4, 5, 6, 0] rfl)
          · have hm := i_f b36 hm
            refine lv_iload hx hb dX12_setsOf_100 (lv_at hl 5 rfl) ?_
            refine lv_if_ne (tgt := 109) hx hb dX12_setsOf_102 (by decide) (fun b40 => ?_) (fun b40 => ?_)
            · have hm := i_f b40 hm
              refine lv_iconst (v := 0) hx hb dX12_setsOf_109 (by decide) ?_
              refine lv_iload hx hb dX12_setsOf_110 (lv_at hl 6 rfl) ?_
              refine lv_iload hx hb dX12_setsOf_112 (lv_at hl 7 rfl) ?_
              refine lv_iconst (v := (-1)) hx hb dX12_setsOf_114 (by decide) ?_
              refine lv_iconst (v := (-1)) hx hb dX12_setsOf_115 (by decide) ?_
              obtain ⟨r41, hc_r41, hm⟩ := bs hm
              refine k_calli (va_runV (As := [.long ((v_syndromes x5.toNatClampNeg) ^^^ (v_syndromes x6.toNatClampNeg)), .int 0, .int x5, .int x6, .int (-1), .int (-1)]) (rest := [.int x4]) ⟨hx, hb, hml, hown, hts⟩ (c_X12_isZero l G cs q H.size v_told v_tell v_sums v_kindOf v_modOf v_bitsOf v_turnOf v_polyOf v_beginOf v_finishOf v_isLow v_weightsOf v_weight v_cell v_size v_row v_keptSize v_keptBefore v_keptAfter v_placeA v_placeB v_turned v_turnedMany v_syndromes v_lightest v_freeMany v_freePlace v_freeSyndrome v_ways v_waysKept v_trace v_comesA v_comesB   ((v_syndromes x5.toNatClampNeg) ^^^ (v_syndromes x6.toNatClampNeg)) (0 : Int32) x5 x6 (-1 : Int32) (-1 : Int32) r41 hc_r41) (cwV 6 hts gX12_setsOf_X12_isZero rfl rfl rfl ⟨rfl, hd_X12_isZero⟩ ⟨Nat.le_of_ble_eq_true rfl, Nat.le_of_ble_eq_true rfl⟩) ⟨pre_blind, va_recv hK.1 hP (ci := 10) (q0 := 0) rfl rfl, pre_w hK RO.nil hP hD (va_all hD hS hA)⟩ rfl rfl hl.1 rfl (lv_room (Nat.le_of_ble_eq_true rfl)) dX12_setsOf_116 ⟨Nat.zero_le _, Nat.zero_le _⟩) hS (va_all hD hS hA) (fun hE42 H locs hP hD hS => ?_)
              have hP : va_P G vwCl (ww_M q cs v_told v_tell v_sums v_kindOf v_modOf v_bitsOf v_turnOf v_polyOf v_beginOf v_finishOf v_isLow v_weightsOf v_weight v_cell v_size v_row v_keptSize v_keptBefore v_keptAfter v_placeA v_placeB v_turned v_turnedMany v_syndromes r41.2 v_freeMany v_freePlace v_freeSyndrome v_ways v_waysKept v_trace v_comesA v_comesB) H := hP
              have hD : va_D A (ww_M q cs v_told v_tell v_sums v_kindOf v_modOf v_bitsOf v_turnOf v_polyOf v_beginOf v_finishOf v_isLow v_weightsOf v_weight v_cell v_size v_row v_keptSize v_keptBefore v_keptAfter v_placeA v_placeB v_turned v_turnedMany v_syndromes r41.2 v_freeMany v_freePlace v_freeSyndrome v_ways v_waysKept v_trace v_comesA v_comesB) := hD
              refine lv_iadd hx hb dX12_setsOf_119 ?_
              refine lv_istore (lv' := [(4, .int (x4 + r41.1)), (7, .long ((v_syndromes x5.toNatClampNeg) ^^^ (v_syndromes x6.toNatClampNeg))), (0, .ref (q 0)), (1, .int x1), (2, .int x2), (3, .int x3), (5, .int x5), (6, .int x6)]) hx hb dX12_setsOf_120 hl (by decide) rfl (fun ls hl => ?_)
              refine lv_iload hx hb dX12_setsOf_122 (lv_at hl 7 rfl) ?_
              refine lv_iconst (v := 1) hx hb dX12_setsOf_124 (by decide) ?_
              refine lv_iadd hx hb dX12_setsOf_125 ?_
              refine lv_istore (lv' := [(9, .int (x6 + 1)), (4, .int (x4 + r41.1)), (7, .long ((v_syndromes x5.toNatClampNeg) ^^^ (v_syndromes x6.toNatClampNeg))), (0, .ref (q 0)), (1, .int x1), (2, .int x2), (3, .int x3), (5, .int x5), (6, .int x6)]) hx hb dX12_setsOf_126 hl (by decide) rfl (fun ls hl => ?_)
              obtain ⟨o43, hlp43, hm⟩ := bs hm
              refine L128 x1 x2 x3 (x4 + r41.1) x5 x6 ((v_syndromes x5.toNatClampNeg) ^^^ (v_syndromes x6.toNatClampNeg)) (x6 + 1) r41.2 o43 hlp43 (fun oo ho => ?_) H locs hP hD hS ls (lv_sub hl [3, 4, 5, 6, 1, 7, 8, 2, 0] rfl)
              subst ho
              intro H locs hP hD hS ls hl
              have hl : lv_has ls 13 [(0, .ref (q 0)), (1, .int x1), (2, .int x2), (3, .int x3), (4, .int o43.1), (5, .int x5), (6, .int x6)] := hl
              have hP : va_P G vwCl (ww_M q cs v_told v_tell v_sums v_kindOf v_modOf v_bitsOf v_turnOf v_polyOf v_beginOf v_finishOf v_isLow v_weightsOf v_weight v_cell v_size v_row v_keptSize v_keptBefore v_keptAfter v_placeA v_placeB v_turned v_turnedMany v_syndromes o43.2 v_freeMany v_freePlace v_freeSyndrome v_ways v_waysKept v_trace v_comesA v_comesB) H := hP
              have hD : va_D A (ww_M q cs v_told v_tell v_sums v_kindOf v_modOf v_bitsOf v_turnOf v_polyOf v_beginOf v_finishOf v_isLow v_weightsOf v_weight v_cell v_size v_row v_keptSize v_keptBefore v_keptAfter v_placeA v_placeB v_turned v_turnedMany v_syndromes o43.2 v_freeMany v_freePlace v_freeSyndrome v_ways v_waysKept v_trace v_comesA v_comesB) := hD
              refine lv_iinc (v := x6 + 1) (lv' := [(6, .int (x6 + 1)), (0, .ref (q 0)), (1, .int x1), (2, .int x2), (3, .int x3), (4, .int o43.1), (5, .int x5)]) hx hb dX12_setsOf_258 hl (k := 6) rfl rfl (by decide) rfl (fun ls hl => ?_)
              refine lv_goto (tgt := 58) hx hb dX12_setsOf_261 (by decide) ?_
              exact st_next hm hst H locs hP hD hS ls (lv_sub hl [1, 2, 3, 4, 5, 6, 0] rfl)
            · have hm := i_t b40 hm
              refine lv_iconst (v := 1) hx hb dX12_setsOf_105 (by decide) ?_
              refine lv_goto (tgt := 110) hx hb dX12_setsOf_106 (by decide) ?_
              refine lv_iload hx hb dX12_setsOf_110 (lv_at hl 6 rfl) ?_
              refine lv_iload hx hb dX12_setsOf_112 (lv_at hl 7 rfl) ?_
              refine lv_iconst (v := (-1)) hx hb dX12_setsOf_114 (by decide) ?_
              refine lv_iconst (v := (-1)) hx hb dX12_setsOf_115 (by decide) ?_
              obtain ⟨r44, hc_r44, hm⟩ := bs hm
              refine k_calli (va_runV (As := [.long ((v_syndromes x5.toNatClampNeg) ^^^ (v_syndromes x6.toNatClampNeg)), .int 1, .int x5, .int x6, .int (-1), .int (-1)]) (rest := [.int x4]) ⟨hx, hb, hml, hown, hts⟩ (c_X12_isZero l G cs q H.size v_told v_tell v_sums v_kindOf v_modOf v_bitsOf v_turnOf v_polyOf v_beginOf v_finishOf v_isLow v_weightsOf v_weight v_cell v_size v_row v_keptSize v_keptBefore v_keptAfter v_placeA v_placeB v_turned v_turnedMany v_syndromes v_lightest v_freeMany v_freePlace v_freeSyndrome v_ways v_waysKept v_trace v_comesA v_comesB   ((v_syndromes x5.toNatClampNeg) ^^^ (v_syndromes x6.toNatClampNeg)) (1 : Int32) x5 x6 (-1 : Int32) (-1 : Int32) r44 hc_r44) (cwV 6 hts gX12_setsOf_X12_isZero rfl rfl rfl ⟨rfl, hd_X12_isZero⟩ ⟨Nat.le_of_ble_eq_true rfl, Nat.le_of_ble_eq_true rfl⟩) ⟨pre_blind, va_recv hK.1 hP (ci := 10) (q0 := 0) rfl rfl, pre_w hK RO.nil hP hD (va_all hD hS hA)⟩ rfl rfl hl.1 rfl (lv_room (Nat.le_of_ble_eq_true rfl)) dX12_setsOf_116 ⟨Nat.zero_le _, Nat.zero_le _⟩) hS (va_all hD hS hA) (fun hE45 H locs hP hD hS => ?_)
              have hP : va_P G vwCl (ww_M q cs v_told v_tell v_sums v_kindOf v_modOf v_bitsOf v_turnOf v_polyOf v_beginOf v_finishOf v_isLow v_weightsOf v_weight v_cell v_size v_row v_keptSize v_keptBefore v_keptAfter v_placeA v_placeB v_turned v_turnedMany v_syndromes r44.2 v_freeMany v_freePlace v_freeSyndrome v_ways v_waysKept v_trace v_comesA v_comesB) H := hP
              have hD : va_D A (ww_M q cs v_told v_tell v_sums v_kindOf v_modOf v_bitsOf v_turnOf v_polyOf v_beginOf v_finishOf v_isLow v_weightsOf v_weight v_cell v_size v_row v_keptSize v_keptBefore v_keptAfter v_placeA v_placeB v_turned v_turnedMany v_syndromes r44.2 v_freeMany v_freePlace v_freeSyndrome v_ways v_waysKept v_trace v_comesA v_comesB) := hD
              refine lv_iadd hx hb dX12_setsOf_119 ?_
              refine lv_istore (lv' := [(4, .int (x4 + r44.1)), (7, .long ((v_syndromes x5.toNatClampNeg) ^^^ (v_syndromes x6.toNatClampNeg))), (0, .ref (q 0)), (1, .int x1), (2, .int x2), (3, .int x3), (5, .int x5), (6, .int x6)]) hx hb dX12_setsOf_120 hl (by decide) rfl (fun ls hl => ?_)
              refine lv_iload hx hb dX12_setsOf_122 (lv_at hl 7 rfl) ?_
              refine lv_iconst (v := 1) hx hb dX12_setsOf_124 (by decide) ?_
              refine lv_iadd hx hb dX12_setsOf_125 ?_
              refine lv_istore (lv' := [(9, .int (x6 + 1)), (4, .int (x4 + r44.1)), (7, .long ((v_syndromes x5.toNatClampNeg) ^^^ (v_syndromes x6.toNatClampNeg))), (0, .ref (q 0)), (1, .int x1), (2, .int x2), (3, .int x3), (5, .int x5), (6, .int x6)]) hx hb dX12_setsOf_126 hl (by decide) rfl (fun ls hl => ?_)
              obtain ⟨o46, hlp46, hm⟩ := bs hm
              refine L128 x1 x2 x3 (x4 + r44.1) x5 x6 ((v_syndromes x5.toNatClampNeg) ^^^ (v_syndromes x6.toNatClampNeg)) (x6 + 1) r44.2 o46 hlp46 (fun oo ho => ?_) H locs hP hD hS ls (lv_sub hl [3, 4, 5, 6, 1, 7, 8, 2, 0] rfl)
              subst ho
              intro H locs hP hD hS ls hl
              have hl : lv_has ls 13 [(0, .ref (q 0)), (1, .int x1), (2, .int x2), (3, .int x3), (4, .int o46.1), (5, .int x5), (6, .int x6)] := hl
              have hP : va_P G vwCl (ww_M q cs v_told v_tell v_sums v_kindOf v_modOf v_bitsOf v_turnOf v_polyOf v_beginOf v_finishOf v_isLow v_weightsOf v_weight v_cell v_size v_row v_keptSize v_keptBefore v_keptAfter v_placeA v_placeB v_turned v_turnedMany v_syndromes o46.2 v_freeMany v_freePlace v_freeSyndrome v_ways v_waysKept v_trace v_comesA v_comesB) H := hP
              have hD : va_D A (ww_M q cs v_told v_tell v_sums v_kindOf v_modOf v_bitsOf v_turnOf v_polyOf v_beginOf v_finishOf v_isLow v_weightsOf v_weight v_cell v_size v_row v_keptSize v_keptBefore v_keptAfter v_placeA v_placeB v_turned v_turnedMany v_syndromes o46.2 v_freeMany v_freePlace v_freeSyndrome v_ways v_waysKept v_trace v_comesA v_comesB) := hD
              refine lv_iinc (v := x6 + 1) (lv' := [(6, .int (x6 + 1)), (0, .ref (q 0)), (1, .int x1), (2, .int x2), (3, .int x3), (4, .int o46.1), (5, .int x5)]) hx hb dX12_setsOf_258 hl (k := 6) rfl rfl (by decide) rfl (fun ls hl => ?_)
              refine lv_goto (tgt := 58) hx hb dX12_setsOf_261 (by decide) ?_
              exact st_next hm hst H locs hP hD hS ls (lv_sub hl [1, 2, 3, 4, 5, 6, 0] rfl)
  have L6 : ∀ (x1 : Int32) (x2 : Int32) (x3 : Int32) (x4 : Int32) (x5 : Int32) (v_lightest : (Nat → Int32)) (out : (Int32 × (Nat → Int32))), lp (fun x : (Int32 × Int32 × (Nat → Int32)) => M_X12_setsOf_b6 n x1 x2 x3 v_syndromes x.1 x.2.1 x.2.2) n (x4, x5, v_lightest) = some out → (∀ (o : (Int32 × (Nat → Int32))), out = o → ∀ (H : Heap) (locs : List Loc), va_P G vwCl (ww_M q cs v_told v_tell v_sums v_kindOf v_modOf v_bitsOf v_turnOf v_polyOf v_beginOf v_finishOf v_isLow v_weightsOf v_weight v_cell v_size v_row v_keptSize v_keptBefore v_keptAfter v_placeA v_placeB v_turned v_turnedMany v_syndromes o.2 v_freeMany v_freePlace v_freeSyndrome v_ways v_waysKept v_trace v_comesA v_comesB) H → va_D A (ww_M q cs v_told v_tell v_sums v_kindOf v_modOf v_bitsOf v_turnOf v_polyOf v_beginOf v_finishOf v_isLow v_weightsOf v_weight v_cell v_size v_row v_keptSize v_keptBefore v_keptAfter v_placeA v_placeB v_turned v_turnedMany v_syndromes o.2 v_freeMany v_freePlace v_freeSyndrome v_ways v_waysKept v_trace v_comesA v_comesB) → va_S A s.heap H locs → ∀ (ls : Array Slot), lv_has ls 13 [(4, .int o.1)] → W p l e rmX12_setsOf s m args below meth c H locs 0 0 Q (F0 m 270 ls [])) → ∀ (H : Heap) (locs : List Loc), va_P G vwCl (ww_M q cs v_told v_tell v_sums v_kindOf v_modOf v_bitsOf v_turnOf v_polyOf v_beginOf v_finishOf v_isLow v_weightsOf v_weight v_cell v_size v_row v_keptSize v_keptBefore v_keptAfter v_placeA v_placeB v_turned v_turnedMany v_syndromes v_lightest v_freeMany v_freePlace v_freeSyndrome v_ways v_waysKept v_trace v_comesA v_comesB) H → va_D A (ww_M q cs v_told v_tell v_sums v_kindOf v_modOf v_bitsOf v_turnOf v_polyOf v_beginOf v_finishOf v_isLow v_weightsOf v_weight v_cell v_size v_row v_keptSize v_keptBefore v_keptAfter v_placeA v_placeB v_turned v_turnedMany v_syndromes v_lightest v_freeMany v_freePlace v_freeSyndrome v_ways v_waysKept v_trace v_comesA v_comesB) → va_S A s.heap H locs → ∀ (ls : Array Slot), lv_has ls 13 [(0, .ref (q 0)), (1, .int x1), (2, .int x2), (3, .int x3), (4, .int x4), (5, .int x5)] → W p l e rmX12_setsOf s m args below meth c H locs 0 0 Q (F0 m 6 ls []) := by
    intro x1 x2 x3 x4 x5 v_lightest out hlp hX
    refine lp_ind (fun x => ∀ (H : Heap) (locs : List Loc), va_P G vwCl (ww_M q cs v_told v_tell v_sums v_kindOf v_modOf v_bitsOf v_turnOf v_polyOf v_beginOf v_finishOf v_isLow v_weightsOf v_weight v_cell v_size v_row v_keptSize v_keptBefore v_keptAfter v_placeA v_placeB v_turned v_turnedMany v_syndromes x.2.2 v_freeMany v_freePlace v_freeSyndrome v_ways v_waysKept v_trace v_comesA v_comesB) H → va_D A (ww_M q cs v_told v_tell v_sums v_kindOf v_modOf v_bitsOf v_turnOf v_polyOf v_beginOf v_finishOf v_isLow v_weightsOf v_weight v_cell v_size v_row v_keptSize v_keptBefore v_keptAfter v_placeA v_placeB v_turned v_turnedMany v_syndromes x.2.2 v_freeMany v_freePlace v_freeSyndrome v_ways v_waysKept v_trace v_comesA v_comesB) → va_S A s.heap H locs → ∀ (ls : Array Slot), lv_has ls 13 [(0, .ref (q 0)), (1, .int x1), (2, .int x2), (3, .int x3), (4, .int x.1), (5, .int x.2.1)] → W p l e rmX12_setsOf s m args below meth c H locs 0 0 Q (F0 m 6 ls [])) ?_ n (x4, x5, v_lightest) hlp
    clear hlp hP hD hS hl
    rintro ⟨x4, x5, v_lightest⟩ ob hm hst H locs hP hD hS ls hl
    have hm : M_X12_setsOf_b6 n x1 x2 x3 v_syndromes x4 x5 v_lightest = some ob := hm
    have hl : lv_has ls 13 [(0, .ref (q 0)), (1, .int x1), (2, .int x2), (3, .int x3), (4, .int x4), (5, .int x5)] := hl
    have hP : va_P G vwCl (ww_M q cs v_told v_tell v_sums v_kindOf v_modOf v_bitsOf v_turnOf v_polyOf v_beginOf v_finishOf v_isLow v_weightsOf v_weight v_cell v_size v_row v_keptSize v_keptBefore v_keptAfter v_placeA v_placeB v_turned v_turnedMany v_syndromes v_lightest v_freeMany v_freePlace v_freeSyndrome v_ways v_waysKept v_trace v_comesA v_comesB) H := hP
    have hD : va_D A (ww_M q cs v_told v_tell v_sums v_kindOf v_modOf v_bitsOf v_turnOf v_polyOf v_beginOf v_finishOf v_isLow v_weightsOf v_weight v_cell v_size v_row v_keptSize v_keptBefore v_keptAfter v_placeA v_placeB v_turned v_turnedMany v_syndromes v_lightest v_freeMany v_freePlace v_freeSyndrome v_ways v_waysKept v_trace v_comesA v_comesB) := hD
    unfold M_X12_setsOf_b6 at hm
    refine lv_iload hx hb dX12_setsOf_6 (lv_at hl 5 rfl) ?_
    refine lv_iload_n hx hb dX12_setsOf_8 rfl (lv_at hl 2 rfl) ?_
    refine lv_icmp_ge (tgt := 270) hx hb dX12_setsOf_9 (by decide) (fun b1 => ?_) (fun b1 => ?_)
    · have hm := i_t b1 hm
      exact hX _ (st_exit hm hst) H locs hP hD hS ls (lv_sub hl [4] rfl)
    · have hm := i_f b1 hm
      refine lv_iload_n hx hb dX12_setsOf_12 rfl (lv_at hl 1 rfl) ?_
      refine lv_iconst (v := 1) hx hb dX12_setsOf_13 (by decide) ?_
      refine lv_icmp_ne (tgt := 52) hx hb dX12_setsOf_14 (by decide) (fun b2 => ?_) (fun b2 => ?_)
      · have hm := i_f b2 hm
        refine lv_iload hx hb dX12_setsOf_52 (lv_at hl 5 rfl) ?_
        refine lv_iconst (v := 1) hx hb dX12_setsOf_54 (by decide) ?_
        refine lv_iadd hx hb dX12_setsOf_55 ?_
        refine lv_istore (lv' := [(6, .int (x5 + 1)), (0, .ref (q 0)), (1, .int x1), (2, .int x2), (3, .int x3), (4, .int x4), (5, .int x5)]) hx hb dX12_setsOf_56 hl (by decide) rfl (fun ls hl => ?_)
        obtain ⟨o47, hlp47, hm⟩ := bs hm
        refine L58 x1 x2 x3 x4 x5 (x5 + 1) v_lightest o47 hlp47 (fun oo ho => ?_) H locs hP hD hS ls (lv_sub hl [1, 2, 3, 4, 5, 6, 0] rfl)
        subst ho
        intro H locs hP hD hS ls hl
        have hl : lv_has ls 13 [(0, .ref (q 0)), (1, .int x1), (2, .int x2), (3, .int x3), (4, .int o47.1), (5, .int x5)] := hl
        have hP : va_P G vwCl (ww_M q cs v_told v_tell v_sums v_kindOf v_modOf v_bitsOf v_turnOf v_polyOf v_beginOf v_finishOf v_isLow v_weightsOf v_weight v_cell v_size v_row v_keptSize v_keptBefore v_keptAfter v_placeA v_placeB v_turned v_turnedMany v_syndromes o47.2 v_freeMany v_freePlace v_freeSyndrome v_ways v_waysKept v_trace v_comesA v_comesB) H := hP
        have hD : va_D A (ww_M q cs v_told v_tell v_sums v_kindOf v_modOf v_bitsOf v_turnOf v_polyOf v_beginOf v_finishOf v_isLow v_weightsOf v_weight v_cell v_size v_row v_keptSize v_keptBefore v_keptAfter v_placeA v_placeB v_turned v_turnedMany v_syndromes o47.2 v_freeMany v_freePlace v_freeSyndrome v_ways v_waysKept v_trace v_comesA v_comesB) := hD
        refine lv_iinc (v := x5 + 1) (lv' := [(5, .int (x5 + 1)), (0, .ref (q 0)), (1, .int x1), (2, .int x2), (3, .int x3), (4, .int o47.1)]) hx hb dX12_setsOf_264 hl (k := 5) rfl rfl (by decide) rfl (fun ls hl => ?_)
        refine lv_goto (tgt := 6) hx hb dX12_setsOf_267 (by decide) ?_
        exact st_next hm hst H locs hP hD hS ls (lv_sub hl [1, 2, 3, 4, 5, 0] rfl)
      · have hm := i_t b2 hm
        refine lv_iload hx hb dX12_setsOf_17 (lv_at hl 4 rfl) ?_
        refine lv_aload_n hx hb dX12_setsOf_19 rfl (lv_at hl 0 rfl) ?_
        refine lv_aload_n hx hb dX12_setsOf_20 rfl (lv_at hl 0 rfl) ?_
        refine va_get (D := G) (ci := 10) (v := .ref (q 19)) (C := RX12) (T := TX12) (N := 33) hx hb hts hinX12 hown hK.1 hP 0 rfl rfl 23 (by decide) wd1 (fun _ h9 => h9) rfl dX12_setsOf_21 ?_
        refine lv_iload hx hb dX12_setsOf_24 (lv_at hl 5 rfl) ?_
        obtain ⟨h48, hm⟩ := g_in hm
        refine va_lald hx hb hK.1 hP 19 1 rfl rfl h48 dX12_setsOf_26 ?_
        refine lv_iload_n hx hb dX12_setsOf_27 rfl (lv_at hl 3 rfl) ?_
        refine lv_if_eq (tgt := 40) hx hb dX12_setsOf_28 (by decide) (fun b49 => ?_) (fun b49 => ?_)
        · have hm := i_t b49 hm
          refine lv_iconst (v := 0) hx hb dX12_setsOf_40 (by decide) ?_
          refine lv_iload hx hb dX12_setsOf_41 (lv_at hl 5 rfl) ?_
          refine lv_iconst (v := (-1)) hx hb dX12_setsOf_43 (by decide) ?_
          refine lv_iconst (v := (-1)) hx hb dX12_setsOf_44 (by decide) ?_
          refine lv_iconst (v := (-1)) hx hb dX12_setsOf_45 (by decide) ?_
          obtain ⟨r50, hc_r50, hm⟩ := bs hm
          refine k_calli (va_runV (As := [.long (v_syndromes x5.toNatClampNeg), .int 0, .int x5, .int (-1), .int (-1), .int (-1)]) (rest := [.int x4]) ⟨hx, hb, hml, hown, hts⟩ (c_X12_isZero l G cs q H.size v_told v_tell v_sums v_kindOf v_modOf v_bitsOf v_turnOf v_polyOf v_beginOf v_finishOf v_isLow v_weightsOf v_weight v_cell v_size v_row v_keptSize v_keptBefore v_keptAfter v_placeA v_placeB v_turned v_turnedMany v_syndromes v_lightest v_freeMany v_freePlace v_freeSyndrome v_ways v_waysKept v_trace v_comesA v_comesB   (v_syndromes x5.toNatClampNeg) (0 : Int32) x5 (-1 : Int32) (-1 : Int32) (-1 : Int32) r50 hc_r50) (cwV 6 hts gX12_setsOf_X12_isZero rfl rfl rfl ⟨rfl, hd_X12_isZero⟩ ⟨Nat.le_of_ble_eq_true rfl, Nat.le_of_ble_eq_true rfl⟩) ⟨pre_blind, va_recv hK.1 hP (ci := 10) (q0 := 0) rfl rfl, pre_w hK RO.nil hP hD (va_all hD hS hA)⟩ rfl rfl hl.1 rfl (lv_room (Nat.le_of_ble_eq_true rfl)) dX12_setsOf_46 ⟨Nat.zero_le _, Nat.zero_le _⟩) hS (va_all hD hS hA) (fun hE51 H locs hP hD hS => ?_)
          have hP : va_P G vwCl (ww_M q cs v_told v_tell v_sums v_kindOf v_modOf v_bitsOf v_turnOf v_polyOf v_beginOf v_finishOf v_isLow v_weightsOf v_weight v_cell v_size v_row v_keptSize v_keptBefore v_keptAfter v_placeA v_placeB v_turned v_turnedMany v_syndromes r50.2 v_freeMany v_freePlace v_freeSyndrome v_ways v_waysKept v_trace v_comesA v_comesB) H := hP
          have hD : va_D A (ww_M q cs v_told v_tell v_sums v_kindOf v_modOf v_bitsOf v_turnOf v_polyOf v_beginOf v_finishOf v_isLow v_weightsOf v_weight v_cell v_size v_row v_keptSize v_keptBefore v_keptAfter v_placeA v_placeB v_turned v_turnedMany v_syndromes r50.2 v_freeMany v_freePlace v_freeSyndrome v_ways v_waysKept v_trace v_comesA v_comesB) := hD
          refine lv_iadd hx hb dX12_setsOf_49 ?_
          refine lv_istore (lv' := [(4, .int (x4 + r50.1)), (0, .ref (q 0)), (1, .int x1), (2, .int x2), (3, .int x3), (5, .int x5)]) hx hb dX12_setsOf_50 hl (by decide) rfl (fun ls hl => ?_)
          refine lv_iload hx hb dX12_setsOf_52 (lv_at hl 5 rfl) ?_
          refine lv_iconst (v := 1) hx hb dX12_setsOf_54 (by decide) ?_
          refine lv_iadd hx hb dX12_setsOf_55 ?_
          refine lv_istore (lv' := [(6, .int (x5 + 1)), (4, .int (x4 + r50.1)), (0, .ref (q 0)), (1, .int x1), (2, .int x2), (3, .int x3), (5, .int x5)]) hx hb dX12_setsOf_56 hl (by decide) rfl (fun ls hl => ?_)
          obtain ⟨o52, hlp52, hm⟩ := bs hm
          refine L58 x1 x2 x3 (x4 + r50.1) x5 (x5 + 1) r50.2 o52 hlp52 (fun oo ho => ?_) H locs hP hD hS ls (lv_sub hl [2, 3, 4, 5, 1, 6, 0] rfl)
          subst ho
          intro H locs hP hD hS ls hl
          have hl : lv_has ls 13 [(0, .ref (q 0)), (1, .int x1), (2, .int x2), (3, .int x3), (4, .int o52.1), (5, .int x5)] := hl
          have hP : va_P G vwCl (ww_M q cs v_told v_tell v_sums v_kindOf v_modOf v_bitsOf v_turnOf v_polyOf v_beginOf v_finishOf v_isLow v_weightsOf v_weight v_cell v_size v_row v_keptSize v_keptBefore v_keptAfter v_placeA v_placeB v_turned v_turnedMany v_syndromes o52.2 v_freeMany v_freePlace v_freeSyndrome v_ways v_waysKept v_trace v_comesA v_comesB) H := hP
          have hD : va_D A (ww_M q cs v_told v_tell v_sums v_kindOf v_modOf v_bitsOf v_turnOf v_polyOf v_beginOf v_finishOf v_isLow v_weightsOf v_weight v_cell v_size v_row v_keptSize v_keptBefore v_keptAfter v_placeA v_placeB v_turned v_turnedMany v_syndromes o52.2 v_freeMany v_freePlace v_freeSyndrome v_ways v_waysKept v_trace v_comesA v_comesB) := hD
          refine lv_iinc (v := x5 + 1) (lv' := [(5, .int (x5 + 1)), (0, .ref (q 0)), (1, .int x1), (2, .int x2), (3, .int x3), (4, .int o52.1)]) hx hb dX12_setsOf_264 hl (k := 5) rfl rfl (by decide) rfl (fun ls hl => ?_)
          refine lv_goto (tgt := 6) hx hb dX12_setsOf_267 (by decide) ?_
          exact st_next hm hst H locs hP hD hS ls (lv_sub hl [1, 2, 3, 4, 5, 0] rfl)
        · have hm := i_f b49 hm
          refine lv_iload hx hb dX12_setsOf_31 (lv_at hl 4 rfl) ?_
          refine lv_if_ne (tgt := 40) hx hb dX12_setsOf_33 (by decide) (fun b53 => ?_) (fun b53 => ?_)
          · have hm := i_f b53 hm
            refine lv_iconst (v := 0) hx hb dX12_setsOf_40 (by decide) ?_
            refine lv_iload hx hb dX12_setsOf_41 (lv_at hl 5 rfl) ?_
            refine lv_iconst (v := (-1)) hx hb dX12_setsOf_43 (by decide) ?_
            refine lv_iconst (v := (-1)) hx hb dX12_setsOf_44 (by decide) ?_
            refine lv_iconst (v := (-1)) hx hb dX12_setsOf_45 (by decide) ?_
            obtain ⟨r54, hc_r54, hm⟩ := bs hm
            refine k_calli (va_runV (As := [.long (v_syndromes x5.toNatClampNeg), .int 0, .int x5, .int (-1), .int (-1), .int (-1)]) (rest := [.int x4]) ⟨hx, hb, hml, hown, hts⟩ (c_X12_isZero l G cs q H.size v_told v_tell v_sums v_kindOf v_modOf v_bitsOf v_turnOf v_polyOf v_beginOf v_finishOf v_isLow v_weightsOf v_weight v_cell v_size v_row v_keptSize v_keptBefore v_keptAfter v_placeA v_placeB v_turned v_turnedMany v_syndromes v_lightest v_freeMany v_freePlace v_freeSyndrome v_ways v_waysKept v_trace v_comesA v_comesB   (v_syndromes x5.toNatClampNeg) (0 : Int32) x5 (-1 : Int32) (-1 : Int32) (-1 : Int32) r54 hc_r54) (cwV 6 hts gX12_setsOf_X12_isZero rfl rfl rfl ⟨rfl, hd_X12_isZero⟩ ⟨Nat.le_of_ble_eq_true rfl, Nat.le_of_ble_eq_true rfl⟩) ⟨pre_blind, va_recv hK.1 hP (ci := 10) (q0 := 0) rfl rfl, pre_w hK RO.nil hP hD (va_all hD hS hA)⟩ rfl rfl hl.1 rfl (lv_room (Nat.le_of_ble_eq_true rfl)) dX12_setsOf_46 ⟨Nat.zero_le _, Nat.zero_le _⟩) hS (va_all hD hS hA) (fun hE55 H locs hP hD hS => ?_)
            have hP : va_P G vwCl (ww_M q cs v_told v_tell v_sums v_kindOf v_modOf v_bitsOf v_turnOf v_polyOf v_beginOf v_finishOf v_isLow v_weightsOf v_weight v_cell v_size v_row v_keptSize v_keptBefore v_keptAfter v_placeA v_placeB v_turned v_turnedMany v_syndromes r54.2 v_freeMany v_freePlace v_freeSyndrome v_ways v_waysKept v_trace v_comesA v_comesB) H := hP
            have hD : va_D A (ww_M q cs v_told v_tell v_sums v_kindOf v_modOf v_bitsOf v_turnOf v_polyOf v_beginOf v_finishOf v_isLow v_weightsOf v_weight v_cell v_size v_row v_keptSize v_keptBefore v_keptAfter v_placeA v_placeB v_turned v_turnedMany v_syndromes r54.2 v_freeMany v_freePlace v_freeSyndrome v_ways v_waysKept v_trace v_comesA v_comesB) := hD
            refine lv_iadd hx hb dX12_setsOf_49 ?_
            refine lv_istore (lv' := [(4, .int (x4 + r54.1)), (0, .ref (q 0)), (1, .int x1), (2, .int x2), (3, .int x3), (5, .int x5)]) hx hb dX12_setsOf_50 hl (by decide) rfl (fun ls hl => ?_)
            refine lv_iload hx hb dX12_setsOf_52 (lv_at hl 5 rfl) ?_
            refine lv_iconst (v := 1) hx hb dX12_setsOf_54 (by decide) ?_
            refine lv_iadd hx hb dX12_setsOf_55 ?_
            refine lv_istore (lv' := [(6, .int (x5 + 1)), (4, .int (x4 + r54.1)), (0, .ref (q 0)), (1, .int x1), (2, .int x2), (3, .int x3), (5, .int x5)]) hx hb dX12_setsOf_56 hl (by decide) rfl (fun ls hl => ?_)
            obtain ⟨o56, hlp56, hm⟩ := bs hm
            refine L58 x1 x2 x3 (x4 + r54.1) x5 (x5 + 1) r54.2 o56 hlp56 (fun oo ho => ?_) H locs hP hD hS ls (lv_sub hl [2, 3, 4, 5, 1, 6, 0] rfl)
            subst ho
            intro H locs hP hD hS ls hl
            have hl : lv_has ls 13 [(0, .ref (q 0)), (1, .int x1), (2, .int x2), (3, .int x3), (4, .int o56.1), (5, .int x5)] := hl
            have hP : va_P G vwCl (ww_M q cs v_told v_tell v_sums v_kindOf v_modOf v_bitsOf v_turnOf v_polyOf v_beginOf v_finishOf v_isLow v_weightsOf v_weight v_cell v_size v_row v_keptSize v_keptBefore v_keptAfter v_placeA v_placeB v_turned v_turnedMany v_syndromes o56.2 v_freeMany v_freePlace v_freeSyndrome v_ways v_waysKept v_trace v_comesA v_comesB) H := hP
            have hD : va_D A (ww_M q cs v_told v_tell v_sums v_kindOf v_modOf v_bitsOf v_turnOf v_polyOf v_beginOf v_finishOf v_isLow v_weightsOf v_weight v_cell v_size v_row v_keptSize v_keptBefore v_keptAfter v_placeA v_placeB v_turned v_turnedMany v_syndromes o56.2 v_freeMany v_freePlace v_freeSyndrome v_ways v_waysKept v_trace v_comesA v_comesB) := hD
            refine lv_iinc (v := x5 + 1) (lv' := [(5, .int (x5 + 1)), (0, .ref (q 0)), (1, .int x1), (2, .int x2), (3, .int x3), (4, .int o56.1)]) hx hb dX12_setsOf_264 hl (k := 5) rfl rfl (by decide) rfl (fun ls hl => ?_)
            refine lv_goto (tgt := 6) hx hb dX12_setsOf_267 (by decide) ?_
            exact st_next hm hst H locs hP hD hS ls (lv_sub hl [1, 2, 3, 4, 5, 0] rfl)
          · have hm := i_t b53 hm
            refine lv_iconst (v := 1) hx hb dX12_setsOf_36 (by decide) ?_
            refine lv_goto (tgt := 41) hx hb dX12_setsOf_37 (by decide) ?_
            refine lv_iload hx hb dX12_setsOf_41 (lv_at hl 5 rfl) ?_
            refine lv_iconst (v := (-1)) hx hb dX12_setsOf_43 (by decide) ?_
            refine lv_iconst (v := (-1)) hx hb dX12_setsOf_44 (by decide) ?_
            refine lv_iconst (v := (-1)) hx hb dX12_setsOf_45 (by decide) ?_
            obtain ⟨r57, hc_r57, hm⟩ := bs hm
            refine k_calli (va_runV (As := [.long (v_syndromes x5.toNatClampNeg), .int 1, .int x5, .int (-1), .int (-1), .int (-1)]) (rest := [.int x4]) ⟨hx, hb, hml, hown, hts⟩ (c_X12_isZero l G cs q H.size v_told v_tell v_sums v_kindOf v_modOf v_bitsOf v_turnOf v_polyOf v_beginOf v_finishOf v_isLow v_weightsOf v_weight v_cell v_size v_row v_keptSize v_keptBefore v_keptAfter v_placeA v_placeB v_turned v_turnedMany v_syndromes v_lightest v_freeMany v_freePlace v_freeSyndrome v_ways v_waysKept v_trace v_comesA v_comesB   (v_syndromes x5.toNatClampNeg) (1 : Int32) x5 (-1 : Int32) (-1 : Int32) (-1 : Int32) r57 hc_r57) (cwV 6 hts gX12_setsOf_X12_isZero rfl rfl rfl ⟨rfl, hd_X12_isZero⟩ ⟨Nat.le_of_ble_eq_true rfl, Nat.le_of_ble_eq_true rfl⟩) ⟨pre_blind, va_recv hK.1 hP (ci := 10) (q0 := 0) rfl rfl, pre_w hK RO.nil hP hD (va_all hD hS hA)⟩ rfl rfl hl.1 rfl (lv_room (Nat.le_of_ble_eq_true rfl)) dX12_setsOf_46 ⟨Nat.zero_le _, Nat.zero_le _⟩) hS (va_all hD hS hA) (fun hE58 H locs hP hD hS => ?_)
            have hP : va_P G vwCl (ww_M q cs v_told v_tell v_sums v_kindOf v_modOf v_bitsOf v_turnOf v_polyOf v_beginOf v_finishOf v_isLow v_weightsOf v_weight v_cell v_size v_row v_keptSize v_keptBefore v_keptAfter v_placeA v_placeB v_turned v_turnedMany v_syndromes r57.2 v_freeMany v_freePlace v_freeSyndrome v_ways v_waysKept v_trace v_comesA v_comesB) H := hP
            have hD : va_D A (ww_M q cs v_told v_tell v_sums v_kindOf v_modOf v_bitsOf v_turnOf v_polyOf v_beginOf v_finishOf v_isLow v_weightsOf v_weight v_cell v_size v_row v_keptSize v_keptBefore v_keptAfter v_placeA v_placeB v_turned v_turnedMany v_syndromes r57.2 v_freeMany v_freePlace v_freeSyndrome v_ways v_waysKept v_trace v_comesA v_comesB) := hD
            refine lv_iadd hx hb dX12_setsOf_49 ?_
            refine lv_istore (lv' := [(4, .int (x4 + r57.1)), (0, .ref (q 0)), (1, .int x1), (2, .int x2), (3, .int x3), (5, .int x5)]) hx hb dX12_setsOf_50 hl (by decide) rfl (fun ls hl => ?_)
            refine lv_iload hx hb dX12_setsOf_52 (lv_at hl 5 rfl) ?_
            refine lv_iconst (v := 1) hx hb dX12_setsOf_54 (by decide) ?_
            refine lv_iadd hx hb dX12_setsOf_55 ?_
            refine lv_istore (lv' := [(6, .int (x5 + 1)), (4, .int (x4 + r57.1)), (0, .ref (q 0)), (1, .int x1), (2, .int x2), (3, .int x3), (5, .int x5)]) hx hb dX12_setsOf_56 hl (by decide) rfl (fun ls hl => ?_)
            obtain ⟨o59, hlp59, hm⟩ := bs hm
            refine L58 x1 x2 x3 (x4 + r57.1) x5 (x5 + 1) r57.2 o59 hlp59 (fun oo ho => ?_) H locs hP hD hS ls (lv_sub hl [2, 3, 4, 5, 1, 6, 0] rfl)
            subst ho
            intro H locs hP hD hS ls hl
            have hl : lv_has ls 13 [(0, .ref (q 0)), (1, .int x1), (2, .int x2), (3, .int x3), (4, .int o59.1), (5, .int x5)] := hl
            have hP : va_P G vwCl (ww_M q cs v_told v_tell v_sums v_kindOf v_modOf v_bitsOf v_turnOf v_polyOf v_beginOf v_finishOf v_isLow v_weightsOf v_weight v_cell v_size v_row v_keptSize v_keptBefore v_keptAfter v_placeA v_placeB v_turned v_turnedMany v_syndromes o59.2 v_freeMany v_freePlace v_freeSyndrome v_ways v_waysKept v_trace v_comesA v_comesB) H := hP
            have hD : va_D A (ww_M q cs v_told v_tell v_sums v_kindOf v_modOf v_bitsOf v_turnOf v_polyOf v_beginOf v_finishOf v_isLow v_weightsOf v_weight v_cell v_size v_row v_keptSize v_keptBefore v_keptAfter v_placeA v_placeB v_turned v_turnedMany v_syndromes o59.2 v_freeMany v_freePlace v_freeSyndrome v_ways v_waysKept v_trace v_comesA v_comesB) := hD
            refine lv_iinc (v := x5 + 1) (lv' := [(5, .int (x5 + 1)), (0, .ref (q 0)), (1, .int x1), (2, .int x2), (3, .int x3), (4, .int o59.1)]) hx hb dX12_setsOf_264 hl (k := 5) rfl rfl (by decide) rfl (fun ls hl => ?_)
            refine lv_goto (tgt := 6) hx hb dX12_setsOf_267 (by decide) ?_
            exact st_next hm hst H locs hP hD hS ls (lv_sub hl [1, 2, 3, 4, 5, 0] rfl)
  unfold M_X12_setsOf at hm
  refine lv_iconst (v := 0) hx hb dX12_setsOf_0 (by decide) ?_
  refine lv_istore (lv' := [(4, .int 0), (0, .ref (q 0)), (1, .int x1), (2, .int x2), (3, .int x3)]) hx hb dX12_setsOf_1 hl (by decide) rfl (fun ls hl => ?_)
  refine lv_iconst (v := 0) hx hb dX12_setsOf_3 (by decide) ?_
  refine lv_istore (lv' := [(5, .int 0), (4, .int 0), (0, .ref (q 0)), (1, .int x1), (2, .int x2), (3, .int x3)]) hx hb dX12_setsOf_4 hl (by decide) rfl (fun ls hl => ?_)
  obtain ⟨o60, hlp60, hm⟩ := bs hm
  refine L6 x1 x2 x3 (0 : Int32) (0 : Int32) v_lightest o60 hlp60 (fun oo ho => ?_) H locs hP hD hS ls (lv_sub hl [2, 3, 4, 5, 1, 0] rfl)
  subst ho
  intro H locs hP hD hS ls hl
  have hl : lv_has ls 13 [(4, .int o60.1)] := hl
  have hP : va_P G vwCl (ww_M q cs v_told v_tell v_sums v_kindOf v_modOf v_bitsOf v_turnOf v_polyOf v_beginOf v_finishOf v_isLow v_weightsOf v_weight v_cell v_size v_row v_keptSize v_keptBefore v_keptAfter v_placeA v_placeB v_turned v_turnedMany v_syndromes o60.2 v_freeMany v_freePlace v_freeSyndrome v_ways v_waysKept v_trace v_comesA v_comesB) H := hP
  have hD : va_D A (ww_M q cs v_told v_tell v_sums v_kindOf v_modOf v_bitsOf v_turnOf v_polyOf v_beginOf v_finishOf v_isLow v_weightsOf v_weight v_cell v_size v_row v_keptSize v_keptBefore v_keptAfter v_placeA v_placeB v_turned v_turnedMany v_syndromes o60.2 v_freeMany v_freePlace v_freeSyndrome v_ways v_waysKept v_trace v_comesA v_comesB) := hD
  refine lv_iload hx hb dX12_setsOf_270 (lv_at hl 0 rfl) ?_
  have hq := Option.some.inj hm
  subst hq; subst hQ
  exact k_iret hx hb hr hlocks hP hD hS rfl trivial dX12_setsOf_272
