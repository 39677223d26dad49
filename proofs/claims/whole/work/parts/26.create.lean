theorem roA_up {ro : RF} {i a w : Nat} {sd : SD} : roA (va_up ro i (some (a, w, sd))) = va_up (roA ro) i (some a) := by
  funext j
  show ((va_up ro i (some (a, w, sd))) j).map _ = va_up (roA ro) i (some a) j
  unfold va_up
  by_cases h : j = i
  · rw [if_pos h, if_pos h]; rfl
  · rw [if_neg h, if_neg h]
theorem RO.fin {G : va_G} {ro : RF} {A : Nat → Prop} {s : State} {H : Heap} {locs : List Loc} {w : va_W} (hRo : RO G ro A s s.heap) (hS : va_S A s.heap H locs) (hD : va_D A w) : RO G ro (va_A w H.size) s H := fun j x hx => by
  obtain ⟨h1, h2, h3⟩ := hRo.at hS j x hx
  have key : ∀ q, q < H.size → ¬ A q → ¬ va_A w H.size q := fun q hq hA h => by
    rcases h with ⟨k, e, hk⟩ | h
    · exact hA (hD.2 k _ hk)
    · exact absurd hq (Nat.not_lt.mpr h)
  refine ⟨h1, key _ (h1 0 _ rfl).lt h2, fun hc => ⟨(h3 hc).1, key _ (h3 hc).1.lt (h3 hc).2⟩⟩
/-- an address of a cell behind w, in the same world, is none of w's and is old -/
theorem apart_of {G : va_G} {A : Nat → Prop} {H : Heap} {w x : va_W} {k a : Nat} {e : va_E} (hD : va_D A (w ++ x)) (hP : va_P G vwCl (w ++ x) H) (hk : (w ++ x)[k]? = some (a, e)) (hl : w.length ≤ k) : ¬ va_A w H.size a := fun h => by
  rcases h with ⟨i, e2, hi⟩ | h
  · have hil : i < w.length := (List.getElem?_eq_some_iff.mp hi).1
    have hi2 : (w ++ x)[i]? = some (a, e2) := by rw [List.getElem?_append_left hil]; exact hi
    have := hD.1 i k _ _ hi2 hk rfl
    omega
  · exact absurd (hP k _ hk).lt (Nat.not_lt.mpr h)
theorem X_of {G : va_G} {cs : CS} {s : State} {H : Heap} {w : va_W} {k a N : Nat} {g f : Nat → Int32} (hK : KK G cs s) (hP : va_P G vwCl w H) (hk : w[k]? = some (a, .inl (cs.1, N, .inl g))) (hg : ∀ j, j < N → g j = f j) : va_X a N f s H := by
  refine ⟨arrV cs.1 N (fun j => .int (g j)), hP k _ hk, (hK.1.2 0 _ rfl).1 N _, (fun q => by cases q), arrV_size _ _ _, fun j hj => ?_⟩
  rw [arrV_read _ _ hj, hg j hj]
theorem RO.grow {G : va_G} {ro : RF} {A : Nat → Prop} {s : State} {H : Heap} {locs : List Loc} {w x : va_W} {i k a wa : Nat} {sd : SD} (hRo : RO G ro A s s.heap) (hS : va_S A s.heap H locs) (hD : va_D A (w ++ x)) (hDw : va_D A w) (hP : va_P G vwCl (w ++ x) H) (hk : (w ++ x)[k]? = some (a, .inr (sd.1, sdF wa sd))) (hl : w.length ≤ k) (hX : sdX wa sd (va_A w H.size) s H) : RO G (va_up ro i (some (a, wa, sd))) (va_A w H.size) s H := fun j y hy => by
  by_cases h : j = i
  · have hy2 : some (a, wa, sd) = some y := by rw [← hy]; unfold va_up; rw [if_pos h]
    cases hy2
    refine ⟨fun k2 q2 hk2 => ?_, apart_of hD hP hk hl, hX⟩
    obtain ⟨-, rfl⟩ := one_get (b := 0) (y := .inr (0, [])) hk2
    exact hP k _ hk
  · refine (hRo.fin hS hDw) j y ?_
    rw [← hy]; unfold va_up; rw [if_neg h]
def newRo (ro : RF) (i sz tw : Nat) : Option SD → RF → Prop
  | none, u => u = ro
  | some sd, u => ∃ a w, u = va_up ro i (some (a, w, sd)) ∧ sz ≤ a ∧ ((sd.1 = 8 ∨ sd.1 = 4) → sz ≤ w ∨ w = tw)
abbrev QN (G : va_G) (r0 : Int32) (ro : RF) (i sz tw : Nat) (o : Option SD) (wf : RF → va_W) (A : Nat → Prop) : Array Value → State → Outcome → State → Prop := va_Qi (fun (r : Int32) (u : RF) => r = r0 ∧ newRo ro i sz tw o u) (fun u t => va_P G vwCl (wf u) t.heap ∧ va_D A (wf u) ∧ RO G u (va_A (wf u) t.heap.size) t t.heap) A
section KN
variable {p : Program} {l : Launch} {e : Env} {R : Room} {s : State} {m : MethodId} {args a : Array Value} {below : List Frame} {meth : Method} {c : Code} {H : Heap} {locs : List Loc} {cells slots mc ms pc : Nat} {Q : State → Prop} {G : va_G} {cs : CS} {A : Nat → Prop} {ws wc wr w1 : va_W} {ls : Array Slot} {st0 rest : List Value} {E : Prop} {cc : ByteArray}
theorem k_nret {r0 v : Int32} {ro : RF} {i sz tw : Nat} {o : Option SD} {wf : RF → va_W} (u : RF) (hx : p.tables.exec = Jvm.exec) (hb : c.code = cc) (hr : meth.sig.returnType = some .int) (hlocks : meth.locks = false) (hP : va_P G vwCl (wf u) H) (hD : va_D A (wf u)) (hS : va_S A s.heap H locs) (hv : v = r0) (hu : newRo ro i sz tw o u) (hRo : RO G u (va_A (wf u) H.size) s H) (hdg : decode cc pc = .ok (.ireturn, 1)) : W p l e R s m args below meth c H locs cells slots (MQ below (QN G r0 ro i sz tw o wf A) args s cells slots A) (F0 m pc ls [.int v]) :=
  W.iret (v := v) hx hb hr (fun t ht hW => ⟨⟨v, u, rfl, ⟨hv, hu⟩, by rw [ht]; exact hP, hD, by rw [ht]; exact hRo.to hW.alike (fun _ h => h)⟩, hS.F ht⟩) hS.2.2 hdg hlocks
end KN
theorem cI_name {G : va_G} {cs : CS} {s : State} (hK : KK G cs s) : s.vm.findClass "[I" = some cs.1 := (hK.1.2 0 _ rfl).2
theorem nI_eqN {x : Int32} {n : Nat} (hn : n < 2 ^ 31) (h : x = Int32.ofNat n) : x.toNatClampNeg = n := by rw [h]; exact nI_clamp hn
theorem lt_ofN {x : Int32} {n : Nat} (hn : n < 2 ^ 31) (h0 : ¬ x < 0) (hle : x.toNatClampNeg ≤ n) (hne : ¬ x = Int32.ofNat n) : x < Int32.ofNat n := by
  obtain ⟨j, hj, rfl⟩ := nI_of h0
  rw [nI_clamp hj] at hle
  have hjn : j ≠ n := fun h => hne (by rw [h]; rfl)
  exact nI_lt (by omega) hn
theorem hd_J7_copyOf : yJ7_copyOf_59c91.cls ≠ "java/lang/invoke/MethodHandle" ∧ yJ7_copyOf_59c91.cls ≠ "java/lang/invoke/VarHandle" ∧ (parseMethodDescriptor yJ7_copyOf_59c91.desc).map (fun d => d.parameters.length) = some 2 := by decide +kernel
abbrev rmJ7_copyOf : Room := { frames := 1, cells := 1, slots := 100, locals := 60 }
abbrev QR (G : va_G) (cs : CS) (a0 n0 N : Nat) (f : Nat → Int32) (A : Nat → Prop) : Array Value → State → Outcome → State → Prop := va_Qr (fun (g : Nat → Int32) => ∀ j, j < N → g j = f j) (fun g ra t => va_P G vwCl [(a0, .inl (cs.1, n0, .inl f)), (ra, .inl (cs.1, N, .inl g))] t.heap ∧ va_D A [(a0, .inl (cs.1, n0, .inl f)), (ra, .inl (cs.1, N, .inl g))]) A
set_option maxHeartbeats 4000000 in
set_option maxRecDepth 100000 in
theorem c_J7_copyOf (l : Launch) (G : va_G) (cs : CS) (sz a0 n0 N : Nat) (f : Nat → Int32) (x1 : Int32) (hn0 : n0 < 2 ^ 31) (h0 : ¬ x1 < 0) (hN : x1.toNatClampNeg = N) (hle : N ≤ n0) (h100 : N ≤ 100) : Met l yJ7_copyOf_59c91 wsJ7_copyOf_59c91 rmJ7_copyOf (va_Pc [.ref a0, .int x1] (PreW G cs sz [(a0, .inl (cs.1, n0, .inl f))] RN)) (QR G cs a0 n0 N f (va_A [(a0, .inl (cs.1, n0, .inl f))] sz)) 1 100 (va_A [(a0, .inl (cs.1, n0, .inl f))] sz) := by
  refine k_enter (Qf := fun A => QR G cs a0 n0 N f A) (cc := cJ7_copyOf_59c91) (maxL := 3) (ret := some (.array .int)) (plainFor_of_name (by decide)) rfl (Nat.le_of_ble_eq_true rfl) ?_
  intro p e s m args below meth c A Q ls H locs hx hb hr hml hown hts hlocks hname hK hA hRo hP hD hS hQ hl
  have hl : lv_has ls 3 [(0, .ref a0), (1, .int x1)] := hl
  have wd1 := hts (.methodLink RJ7 316 ⟨"[I", "clone", "()Ljava/lang/Object;"⟩) (List.mem_of_getElem? (i := 1) rfl)
  have wd2 := hts (.sameMethod "[I" "java/lang/Object" "clone" "()Ljava/lang/Object;") (List.mem_of_getElem? (i := 2) rfl)
  have wd3 := hts (.native ⟨"java/lang/Object", "clone", "()Ljava/lang/Object;"⟩) (List.mem_of_getElem? (i := 3) rfl)
  have wd4 := hts (.instanceMethod ⟨"java/lang/Object", "clone", "()Ljava/lang/Object;"⟩) (List.mem_of_getElem? (i := 4) rfl)
  have wd5 := hts (.selects "[I" ⟨"[I", "clone", "()Ljava/lang/Object;"⟩ ⟨"java/lang/Object", "clone", "()Ljava/lang/Object;"⟩) (List.mem_of_getElem? (i := 5) rfl)
  have wd6 := hts (.classLink RJ7 317 "[I") (List.mem_of_getElem? (i := 6) rfl)
  have wd7 := hts (.arrayClass .int) (List.mem_of_getElem? (i := 7) rfl)
  have wd8 := hts (.methodLink RJ7 304 Lib.Math.min.name) (List.mem_of_getElem? (i := 8) rfl)
  have wd9 := hts (.static Lib.Math.min.name) (List.mem_of_getElem? (i := 9) rfl)
  have wd10 := hts (.initialized "java/lang/Math") (List.mem_of_getElem? (i := 10) rfl)
  have wd11 := hts (.code Lib.Math.min.name Lib.Math.min.code 2 (some .int)) (List.mem_of_getElem? (i := 11) rfl)
  have wd12 := hts (.methodLink RJ7 150 arraycopyName) (List.mem_of_getElem? (i := 12) rfl)
  have wd13 := hts (.native arraycopyName) (List.mem_of_getElem? (i := 13) rfl)
  have wd14 := hts (.static arraycopyName) (List.mem_of_getElem? (i := 14) rfl)
  have wd15 := hts (.initialized "java/lang/System") (List.mem_of_getElem? (i := 15) rfl)
  refine lv_iload_n hx hb dJ7_copyOf_59c91_0 rfl (lv_at hl 1 rfl) ?_
  refine lv_aload_n hx hb dJ7_copyOf_59c91_1 rfl (lv_at hl 0 rfl) ?_
  refine va_alen (v := Int32.ofNat n0) hx hb hK.1 hP 0 0 rfl rfl rfl dJ7_copyOf_59c91_2 ?_
  refine lv_icmp_ne (tgt := 14) hx hb dJ7_copyOf_59c91_3 (by decide) (fun b1 => ?_) (fun b1 => ?_)
  · refine lv_iload_n hx hb dJ7_copyOf_59c91_14 rfl (lv_at hl 1 rfl) ?_
    refine k_newI (N' := N) hx hb wd7 hK hP hD hS hA h0 hN (by show N * 4 ≤ 536870912; omega) (Nat.le_of_ble_eq_true rfl) (by show 0 + N ≤ 100; omega) dJ7_copyOf_59c91_15 (fun k1 H hP hD hS => ?_)
    have hP : va_P G vwCl [(a0, .inl (cs.1, n0, .inl f)), (k1, .inl (cs.1, N, .inl (fun _ => 0)))] H := hP
    have hD : va_D A [(a0, .inl (cs.1, n0, .inl f)), (k1, .inl (cs.1, N, .inl (fun _ => 0)))] := hD
    refine W.widen (k := 1) (n := 100) (Nat.le_of_ble_eq_true rfl) (by omega) ?_
    refine lv_astore_n (lv' := [(2, .ref k1), (0, .ref a0), (1, .int x1)]) hx hb dJ7_copyOf_59c91_17 rfl hl (by decide) rfl (fun ls hl => ?_)
    refine lv_aload_n hx hb dJ7_copyOf_59c91_18 rfl (lv_at hl 1 rfl) ?_
    refine lv_iconst (v := 0) hx hb dJ7_copyOf_59c91_19 (by decide) ?_
    refine lv_aload_n hx hb dJ7_copyOf_59c91_20 rfl (lv_at hl 0 rfl) ?_
    refine lv_iconst (v := 0) hx hb dJ7_copyOf_59c91_21 (by decide) ?_
    refine lv_aload_n hx hb dJ7_copyOf_59c91_22 rfl (lv_at hl 1 rfl) ?_
    refine va_alen (v := Int32.ofNat n0) hx hb hK.1 hP 0 0 rfl rfl rfl dJ7_copyOf_59c91_23 ?_
    refine lv_iload_n hx hb dJ7_copyOf_59c91_24 rfl (lv_at hl 2 rfl) ?_
    refine va_mmin hx hb (hml.trans hl.1.symm) hown wd8 wd9 wd10 wd11 (Nat.le_of_ble_eq_true rfl) (Nat.le_of_ble_eq_true rfl) (Nat.le_of_ble_eq_true rfl) (Nat.le_of_ble_eq_true rfl) dJ7_copyOf_59c91_25 ?_
    have hlt : x1 < Int32.ofNat n0 := lt_ofN hn0 h0 (by omega) b1
    rw [if_pos hlt]
    refine va_copyi (ty := .int) hx hb (hml.trans hl.1.symm) hown wd12 wd13 wd14 wd15 hK.1 hP hD hS 0 1 0 0 rfl rfl rfl rfl rfl (by decide) (by decide) h0 (by rw [hN]; show 0 + N ≤ n0; omega) (by rw [hN]; show 0 + N ≤ N; omega) (fun _ _ => rfl) (Nat.le_of_ble_eq_true rfl) (Nat.le_of_ble_eq_true rfl) dJ7_copyOf_59c91_28 (fun H locs hP hD hS => ?_)
    have hP : va_P G vwCl [(a0, .inl (cs.1, n0, .inl f)), (k1, .inl (cs.1, N, .inl (va_cpy f (fun _ => 0) (0 : Int32).toNatClampNeg (0 : Int32).toNatClampNeg x1.toNatClampNeg)))] H := hP
    have hD : va_D A [(a0, .inl (cs.1, n0, .inl f)), (k1, .inl (cs.1, N, .inl (va_cpy f (fun _ => 0) (0 : Int32).toNatClampNeg (0 : Int32).toNatClampNeg x1.toNatClampNeg)))] := hD
    refine lv_aload_n hx hb dJ7_copyOf_59c91_31 rfl (lv_at hl 0 rfl) ?_
    subst hQ
    exact W.aret (v := .ref k1) hx hb hr (Or.inr ⟨_, rfl⟩) (Or.inr ⟨_, rfl⟩) (fun t ht _ => ⟨⟨_, k1, rfl, fun j hj => by rw [pk_cpy_in (by rw [sb_cl0]; omega) (by rw [sb_cl0, hN]; omega), sb_cl0]; congr 1; omega, by rw [ht]; exact hP, hD⟩, hS.F ht⟩) hS.2.2 dJ7_copyOf_59c91_32 hlocks
  · have hNn : N = n0 := by rw [← hN]; exact nI_eqN hn0 b1
    subst hNn
    refine lv_aload_n hx hb dJ7_copyOf_59c91_6 rfl (lv_at hl 0 rfl) ?_
    refine va_clone (ty := .int) hx hb (hml.trans hl.1.symm) hown wd1 wd2 wd3 wd4 wd5 (hK.2.2.1 _ (List.mem_of_getElem? (i := 11) rfl)) hK.1 hP hD hS hA 0 0 rfl rfl (cI_name hK) (fun i v hv => ?_) (Nat.le_of_ble_eq_true rfl) (Nat.le_of_ble_eq_true rfl) (Nat.le_of_ble_eq_true rfl) (by show 0 + N ≤ 100; omega) dJ7_copyOf_59c91_7 (fun k1 H hK1 hP hD hS => ?_)
    · obtain ⟨hi, he⟩ := Array.getElem?_eq_some_iff.mp hv
      have hi2 : i < N := by have : i < (arrV cs.1 N (fun j => Value.int (f j))).slots.size := hi; rwa [arrV_size] at this
      have h3 : (arrV cs.1 N (fun j => Value.int (f j))).slots[i]? = some v := hv
      rw [arrV_read _ _ hi2] at h3
      cases h3
      rfl
    have hP : va_P G vwCl [(a0, .inl (cs.1, N, .inl f)), (k1, .inl (cs.1, N, .inl f))] H := hP
    have hD : va_D A [(a0, .inl (cs.1, N, .inl f)), (k1, .inl (cs.1, N, .inl f))] := hD
    refine W.widen (k := 1) (n := 100) (Nat.le_of_ble_eq_true rfl) (by show 0 + N ≤ 100; omega) ?_
    refine va_castA hx hb hown wd6 hP 1 rfl (cI_name hK) dJ7_copyOf_59c91_10 ?_
    subst hQ
    exact W.aret (v := .ref k1) hx hb hr (Or.inr ⟨_, rfl⟩) (Or.inr ⟨_, rfl⟩) (fun t ht _ => ⟨⟨_, k1, rfl, fun _ _ => rfl, by rw [ht]; exact hP, hD⟩, hS.F ht⟩) hS.2.2 dJ7_copyOf_59c91_13 hlocks
theorem hd_X11_keepSum : yX11_keepSum.cls ≠ "java/lang/invoke/MethodHandle" ∧ yX11_keepSum.cls ≠ "java/lang/invoke/VarHandle" ∧ (parseMethodDescriptor yX11_keepSum.desc).map (fun d => d.parameters.length) = some 1 := by decide +kernel
abbrev ob1 (sa c1 : Nat) (fs : List Value) : va_W := [(sa, .inr (c1, fs))]
abbrev rmX11_keepSum : Room := { frames := 0, cells := 0, slots := 0, locals := 0 }
theorem castSum {G : va_G} {cs : CS} {s : State} (hK : KK G cs s) {c1 : Nat} (hc : c1 = 8 ∨ c1 = 7 ∨ c1 = 6 ∨ c1 = 1 ∨ c1 = 4) : ∃ r : vw_C, vwCl[c1]? = some r ∧ va_Nw (.castable r.1 "SumSmith$Sum") s := by
  rcases hc with rfl | rfl | rfl | rfl | rfl
  · exact ⟨_, rfl, hK.2.2.1 ("SumSmith$Weighted", "SumSmith$Sum") (List.mem_of_getElem? (i := 6) rfl)⟩
  · exact ⟨_, rfl, hK.2.2.1 ("SumSmith$Twofold", "SumSmith$Sum") (List.mem_of_getElem? (i := 7) rfl)⟩
  · exact ⟨_, rfl, hK.2.2.1 ("SumSmith$Turning", "SumSmith$Sum") (List.mem_of_getElem? (i := 8) rfl)⟩
  · exact ⟨_, rfl, hK.2.2.1 ("SumSmith$Divided", "SumSmith$Sum") (List.mem_of_getElem? (i := 9) rfl)⟩
  · exact ⟨_, rfl, hK.2.2.1 ("SumSmith$Square", "SumSmith$Sum") (List.mem_of_getElem? (i := 10) rfl)⟩
set_option maxHeartbeats 4000000 in
set_option maxRecDepth 100000 in
theorem c_X11_keepSum (l : Launch) (G : va_G) (cs : CS) (q : Nat → Nat) (sz : Nat) (v_ro : RF) (v_sumCount : Int32) (v_told : (Nat → Int32)) (v_toldCount : Int32) (v_row : (Nat → Int32)) (v_rowLength : Int32) (v_asked : (Nat → Int32)) (v_rising : (Nat → Int64)) (v_falling : (Nat → Int64)) (v_turned : (Nat → Int32)) (v_totals : (Nat → Int64)) (v_before : (Nat → Int32)) (v_after : (Nat → Int32)) (v_keptBytes : Int32) (v_syndromes : (Nat → Int64)) (v_places : Int32) (v_firstEntry : (Nat → Int32)) (v_nextEntry : (Nat → Int32)) (v_numbers : (Nat → Int64)) (v_counts : (Nat → Int32)) (v_size : Int32) (v_lightestPlaces : (Nat → Int32)) (v_lightestCount : Int32) (v_toldPlaces : (Nat → Int32)) (v_placeCount : Int32) (v_ways : (Nat → Int32)) (v_wayCount : Int32) (v_usable : (Nat → Int32)) (v_upTo : (Nat → Int64)) (sa sw c1 : Nat) (fs : List Value) (sd : SD) (hc : c1 = 8 ∨ c1 = 7 ∨ c1 = 6 ∨ c1 = 1 ∨ c1 = 4) (hin : ¬ (v_sumCount < 0 ∨ 16 ≤ v_sumCount.toNatClampNeg)) : Met l yX11_keepSum wsX11_keepSum rmX11_keepSum (va_Pc [.ref (q 0), .ref sa] (PreW G cs sz ((ww_C q cs v_ro v_sumCount v_told v_toldCount v_row v_rowLength v_asked v_rising v_falling v_turned v_totals v_before v_after v_keptBytes v_syndromes v_places v_firstEntry v_nextEntry v_numbers v_counts v_size v_lightestPlaces v_lightestCount v_toldPlaces v_placeCount v_ways v_wayCount v_usable v_upTo) ++ ob1 sa c1 fs) RN)) (QI G v_sumCount True ((ww_C q cs (va_up v_ro v_sumCount.toNatClampNeg (some (sa, sw, sd))) (v_sumCount + 1) v_told v_toldCount v_row v_rowLength v_asked v_rising v_falling v_turned v_totals v_before v_after v_keptBytes v_syndromes v_places v_firstEntry v_nextEntry v_numbers v_counts v_size v_lightestPlaces v_lightestCount v_toldPlaces v_placeCount v_ways v_wayCount v_usable v_upTo) ++ ob1 sa c1 fs) (va_A ((ww_C q cs v_ro v_sumCount v_told v_toldCount v_row v_rowLength v_asked v_rising v_falling v_turned v_totals v_before v_after v_keptBytes v_syndromes v_places v_firstEntry v_nextEntry v_numbers v_counts v_size v_lightestPlaces v_lightestCount v_toldPlaces v_placeCount v_ways v_wayCount v_usable v_upTo) ++ ob1 sa c1 fs) sz)) 0 0 (va_A ((ww_C q cs v_ro v_sumCount v_told v_toldCount v_row v_rowLength v_asked v_rising v_falling v_turned v_totals v_before v_after v_keptBytes v_syndromes v_places v_firstEntry v_nextEntry v_numbers v_counts v_size v_lightestPlaces v_lightestCount v_toldPlaces v_placeCount v_ways v_wayCount v_usable v_upTo) ++ ob1 sa c1 fs) sz) := by
  refine k_enter (Qf := fun A => QI G v_sumCount True ((ww_C q cs (va_up v_ro v_sumCount.toNatClampNeg (some (sa, sw, sd))) (v_sumCount + 1) v_told v_toldCount v_row v_rowLength v_asked v_rising v_falling v_turned v_totals v_before v_after v_keptBytes v_syndromes v_places v_firstEntry v_nextEntry v_numbers v_counts v_size v_lightestPlaces v_lightestCount v_toldPlaces v_placeCount v_ways v_wayCount v_usable v_upTo) ++ ob1 sa c1 fs) A) (cc := cX11_keepSum) (maxL := 3) (ret := (some .int)) (plainFor_of_name (by decide)) rfl (Nat.le_of_ble_eq_true rfl) ?_
  intro p e s m args below meth c A Q ls H locs hx hb hr hml hown hts hlocks hname hK hA hRo hP hD hS hQ hl
  have hl : lv_has ls 3 [(0, .ref (q 0)), (1, .ref sa)] := hl
  have wdA := hts (.fieldLink RX11 15 "SumSmith" "sumCount" "I") (List.mem_of_getElem? (i := 1) rfl)
  have wdB := hts (.fieldLink RX11 11 "SumSmith" "sums" "[LSumSmith$Sum;") (List.mem_of_getElem? (i := 2) rfl)
  have hinX11 : ∀ w ∈ wsX110, w ∈ wsX11_keepSum := fun w h => List.mem_cons_of_mem _ (List.mem_append_right _ h)
  obtain ⟨r, hr1, hr2⟩ := castSum hK hc
  refine lv_aload_n hx hb dX11_keepSum_0 rfl (lv_at hl 0 rfl) ?_
  refine va_get (D := G) (ci := 9) (v := .int v_sumCount) (C := RX11) (T := TX11) (N := 12) hx hb hts hinX11 hown hK.1 hP 0 rfl rfl 1 (by decide) wdA (fun _ h9 => h9) rfl dX11_keepSum_1 ?_
  refine lv_istore_n (lv' := [(2, .int v_sumCount), (0, .ref (q 0)), (1, .ref sa)]) hx hb dX11_keepSum_4 rfl hl (by decide) rfl (fun ls hl => ?_)
  refine lv_aload_n hx hb dX11_keepSum_5 rfl (lv_at hl 1 rfl) ?_
  refine va_get (D := G) (ci := 9) (v := .ref (q 1)) (C := RX11) (T := TX11) (N := 12) hx hb hts hinX11 hown hK.1 hP 0 rfl rfl 0 (by decide) wdB (fun _ h9 => h9) rfl dX11_keepSum_6 ?_
  refine lv_iload_n hx hb dX11_keepSum_9 rfl (lv_at hl 0 rfl) ?_
  refine lv_aload_n hx hb dX11_keepSum_10 rfl (lv_at hl 2 rfl) ?_
  refine va_astqO hx hb hK.1 hP hD hS 1 3 25 c1 rfl rfl hr2 rfl hr1 hin dX11_keepSum_11 (fun H locs hP hD hS => ?_)
  rw [← roA_up (w := sw) (sd := sd)] at hP hD
  have hP : va_P G vwCl ((ww_C q cs (va_up v_ro v_sumCount.toNatClampNeg (some (sa, sw, sd))) v_sumCount v_told v_toldCount v_row v_rowLength v_asked v_rising v_falling v_turned v_totals v_before v_after v_keptBytes v_syndromes v_places v_firstEntry v_nextEntry v_numbers v_counts v_size v_lightestPlaces v_lightestCount v_toldPlaces v_placeCount v_ways v_wayCount v_usable v_upTo) ++ ob1 sa c1 fs) H := hP
  have hD : va_D A ((ww_C q cs (va_up v_ro v_sumCount.toNatClampNeg (some (sa, sw, sd))) v_sumCount v_told v_toldCount v_row v_rowLength v_asked v_rising v_falling v_turned v_totals v_before v_after v_keptBytes v_syndromes v_places v_firstEntry v_nextEntry v_numbers v_counts v_size v_lightestPlaces v_lightestCount v_toldPlaces v_placeCount v_ways v_wayCount v_usable v_upTo) ++ ob1 sa c1 fs) := hD
  refine lv_aload_n hx hb dX11_keepSum_12 rfl (lv_at hl 1 rfl) ?_
  refine lv_dup hx hb dX11_keepSum_13 rfl ?_
  refine va_get (D := G) (ci := 9) (v := .int v_sumCount) (C := RX11) (T := TX11) (N := 12) hx hb hts hinX11 hown hK.1 hP 0 rfl rfl 1 (by decide) wdA (fun _ h9 => h9) rfl dX11_keepSum_14 ?_
  refine lv_iconst (v := 1) hx hb dX11_keepSum_17 (by decide) ?_
  refine lv_iadd hx hb dX11_keepSum_18 ?_
  refine va_put (D := G) (ci := 9) (v := .int (v_sumCount + 1)) (ty := .int) (C := RX11) (T := TX11) (N := 12) hx hb hts hinX11 tyX11 tyX11_ok nmX11 hown hK.1 hP hD hS 0 rfl rfl 1 (by decide) wdA (fun _ h9 => h9) rfl (by decide +kernel) rfl rfl (Nat.le_of_ble_eq_true rfl) dX11_keepSum_19 (fun H locs hP hD hS => ?_)
  have hP : va_P G vwCl ((ww_C q cs (va_up v_ro v_sumCount.toNatClampNeg (some (sa, sw, sd))) (v_sumCount + 1) v_told v_toldCount v_row v_rowLength v_asked v_rising v_falling v_turned v_totals v_before v_after v_keptBytes v_syndromes v_places v_firstEntry v_nextEntry v_numbers v_counts v_size v_lightestPlaces v_lightestCount v_toldPlaces v_placeCount v_ways v_wayCount v_usable v_upTo) ++ ob1 sa c1 fs) H := hP
  have hD : va_D A ((ww_C q cs (va_up v_ro v_sumCount.toNatClampNeg (some (sa, sw, sd))) (v_sumCount + 1) v_told v_toldCount v_row v_rowLength v_asked v_rising v_falling v_turned v_totals v_before v_after v_keptBytes v_syndromes v_places v_firstEntry v_nextEntry v_numbers v_counts v_size v_lightestPlaces v_lightestCount v_toldPlaces v_placeCount v_ways v_wayCount v_usable v_upTo) ++ ob1 sa c1 fs) := hD
  refine lv_iload_n hx hb dX11_keepSum_22 rfl (lv_at hl 0 rfl) ?_
  subst hQ
  exact k_iret hx hb hr hlocks hP hD hS rfl trivial dX11_keepSum_23
