/-! THE CLAIM OUT OF ONE WALK OF THE LAW'S BODY. Your part is whole_start (and what it stands on); all else here is the same for every law, but numbers. -/
def R_law : String := "SumSmithLaw"
def lw_P (b : Addr) (xs : List Int32) (args : Array Value) (s : State) : Prop := args = #[.ref b] ∧ s.IntsAt b xs ∧ xs.length ≤ 5120 ∧ (Jvm.Cond.and given_1 narrow_1).before args s = true
def lw_Q (_ : Array Value) (s : State) (o : Outcome) (t : State) : Prop := o = .returned (some (.int 1)) ∧ Framed s o t [] 600000 7302250
def lw_Z (below : List Frame) (a : Array Value) (s : State) : State → Prop := fun t => ∃ o, t.status = .running ∧ Ended t below o ∧ lw_Q a s o t
/-- the law's own end, with 1 on the stack, nothing written that was there before, its room as the claim has it -/
theorem lw_ret {p : Program} {l : Launch} {e : Env} {s : State} {m : MethodId} {below : List Frame} {meth : Method} {c : Code} {b : Nat} (hx : p.tables.exec = Jvm.exec) (hb : c.code = code) (hr : meth.sig.returnType = ret) (hlocks : meth.locks = false) {pc : Nat} {H : Heap} {ls : Array Slot} (hdg : decode code pc = .ok (.ireturn, 1)) : W p l e room_1 s m #[Value.ref b] below meth c H [] 600000 7302250 (lw_Z below #[Value.ref b] s) (F0 m pc ls [.int 1]) := by
  intro T hT X
  obtain ⟨fs, hret, hrun, hended, hW, hframe⟩ := X.leave (v := some (.int 1)) (hlocks := hlocks) (fun h => by rw [hr] at h; cases h)
  have hmeth' : T.vm.method? m = some meth := X.method'
  refine ⟨T.setFrames fs, ?_, .returned (some (.int 1)), hrun, hended, rfl, ⟨_, rfl⟩, hW, hframe⟩
  jvm_step X.here [X.here.top, hx, hb, hdg, hmeth', hr, ret, narrow_b1]
  (try refine ⟨rfl, ?_⟩); (try refine ⟨rfl, ?_⟩)
  first | (intro acts; rw [hret _ acts rfl rfl rfl]) | rw [hret _ _ rfl rfl rfl]
  exact Steps.refl _
/-- what holds at the law's entry: the machine, the code, the tables' words (any of lw_tbl by 'hts w (by decide +kernel)'), the script of L ints xs at the cell b, what the Statement gives of the start (any of its parts by flat_of_before) -/
def lw_At (p : Program) (s : State) (m : MethodId) (meth : Method) (c : Code) (b L : Nat) (xs : Nat → Int32) : Prop :=
  p.tables.exec = Jvm.exec ∧ c.code = code ∧ meth.sig.returnType = ret ∧ c.maxLocals = 4 ∧ s.vm.findClass R_law = some m.cls ∧ (∀ w ∈ lw_tbl, w.before #[Value.ref b] s = true) ∧ va_X b L xs s s.heap ∧ b < s.heap.size ∧ meth.locks = false ∧ (Jvm.Cond.and given_1 narrow_1).before #[Value.ref b] s = true
theorem L_one {w : va_W} {k : Nat} {q : Nat × va_E} (h : w[k]? = some q) : ∃ (k : Nat) (e : va_E), w[k]? = some (q.1, e) := ⟨k, q.2, h⟩
theorem adr_of {w w1 : va_W} (h : w1.map (·.1) = w.map (·.1)) {a : Nat} (hk : ∃ (k : Nat) (e : va_E), w1[k]? = some (a, e)) : ∃ (k : Nat) (e : va_E), w[k]? = some (a, e) := by
  obtain ⟨k, e, hk⟩ := hk
  have h1 : (w1.map (·.1))[k]? = some a := by rw [List.getElem?_map, hk]; rfl
  rw [h, List.getElem?_map] at h1
  cases hw : w[k]? with
  | none => rw [hw] at h1; cases h1
  | some q =>
    rw [hw] at h1
    have hq : q.1 = a := Option.some.inj h1
    exact ⟨k, q.2, by rw [hw, ← hq]⟩
/-- the law's world: the program's cells wC, the reference's cells wM, the SUMS ro -/
def LW (G : va_G) (A : Nat → Prop) (s : State) (ro : RF) (wC wM : va_W) (H : Heap) (locs : List Loc) : Prop :=
  va_P G vwCl wC H ∧ va_P G vwCl wM H ∧ va_D A wC ∧ va_D A wM ∧ (∀ (i j : Nat) (p q : Nat × va_E), wC[i]? = some p → wM[j]? = some q → p.1 ≠ q.1) ∧ va_S A s.heap H locs ∧ RO G ro (fun q => va_A wC H.size q ∨ va_A wM H.size q) s H
theorem LW.swap {G : va_G} {A : Nat → Prop} {s : State} {ro : RF} {wC wM : va_W} {H : Heap} {locs : List Loc} (h : LW G A s ro wC wM H locs) : LW G A s ro wM wC H locs :=
  ⟨h.2.1, h.1, h.2.2.2.1, h.2.2.1, fun i j p q hp hq e => h.2.2.2.2.1 j i q p hq hp e.symm, h.2.2.2.2.2.1, h.2.2.2.2.2.2.to (Vm.Alike.refl s.vm) (fun _ h => h.symm)⟩
theorem LW.step {G : va_G} {A : Nat → Prop} {s : State} {ro u : RF} {w wr w1 : va_W} {H H1 : Heap} {locs locs1 : List Loc} (h : LW G A s ro w wr H locs) (hA : ∀ q, s.heap.size ≤ q → A q) (hz : H.size ≤ H1.size) (hk : ∀ q, q < H.size → ¬ va_A w H.size q → H1[q]? = H[q]?) (hS1 : va_S A s.heap H1 locs1) (hP1 : va_P G vwCl w1 H1) (hD1 : va_D (va_A w H.size) w1)
    (hRo : RO G u (fun q => va_A w1 H1.size q ∨ va_A wr H1.size q) s H1) : LW G A s u w1 wr H1 locs1 := by
  obtain ⟨hP, hPr, hD, hDr, hap, hS, -⟩ := h
  have hnr : ∀ (j : Nat) (q : Nat × va_E), wr[j]? = some q → ¬ va_A w H.size q.1 := fun j q hq h9 => by
    rcases h9 with ⟨i, e, hi⟩ | h9
    · exact hap i j _ _ hi hq rfl
    · exact absurd (hPr j q hq).lt (Nat.not_lt.mpr h9)
  refine ⟨hP1, hPr.kept (fun j q hq => hk _ (hPr j q hq).lt (hnr j q hq)), hD1.weaken (fun _ _ _ h => va_all hD hS hA _ h), hDr, fun i j p q hp hq e => ?_, hS1, hRo⟩
  exact hnr j q hq (e ▸ hD1.2 i p hp)
theorem RO_step {G : va_G} {s : State} {ro : RF} {w wr w1 : va_W} {H H1 : Heap} (hRo : RO G ro (fun q => va_A w H.size q ∨ va_A wr H.size q) s H) (hz : H.size ≤ H1.size) (hk : ∀ q, q < H.size → ¬ va_A w H.size q → H1[q]? = H[q]?) (hadr : w1.map (·.1) = w.map (·.1)) : RO G ro (fun q => va_A w1 H1.size q ∨ va_A wr H1.size q) s H1 := fun j x hx => by
  obtain ⟨h1, h2, h3⟩ := hRo j x hx
  have key : ∀ q, q < H.size → ¬ (va_A w H.size q ∨ va_A wr H.size q) → ¬ (va_A w1 H1.size q ∨ va_A wr H1.size q) := fun q hq hn h => by
    rcases h with (h | h) | (h | h)
    · exact hn (Or.inl (Or.inl (adr_of hadr h)))
    · exact absurd (Nat.lt_of_lt_of_le hq hz) (Nat.not_lt.mpr h)
    · exact hn (Or.inr (Or.inl h))
    · exact absurd (Nat.lt_of_lt_of_le hq hz) (Nat.not_lt.mpr h)
  have hl : x.1 < H.size := (h1 0 _ rfl).lt
  refine ⟨h1.kept (fun k q hq => ?_), key _ hl h2, fun hc => ⟨(h3 hc).1.kept (hk _ (h3 hc).1.lt (fun h => (h3 hc).2 (Or.inl h))), key _ (h3 hc).1.lt (h3 hc).2⟩⟩
  obtain ⟨-, rfl⟩ := one_get (b := 0) (y := .inr (0, [])) hq
  exact hk _ hl (fun h => h2 (Or.inl h))
/-- the new SUM of a creation: none of the reference's cells -/
theorem RO_new {G : va_G} {A : Nat → Prop} {s : State} {ro u : RF} {w wr w1 : va_W} {H H1 : Heap} {locs : List Loc} {i tw : Nat} {o : Option SD} (h : LW G A s ro w wr H locs) (hz : H.size ≤ H1.size) (hk : ∀ q, q < H.size → ¬ va_A w H.size q → H1[q]? = H[q]?) (hadr : w1.map (·.1) = w.map (·.1)) (hu : newRo ro i H.size tw o u) (htw : ¬ A tw) (htl : tw < H.size) (hRu : RO G u (va_A w1 H1.size) s H1) : RO G u (fun q => va_A w1 H1.size q ∨ va_A wr H1.size q) s H1 := by
  have hold := RO_step h.2.2.2.2.2.2 hz hk hadr
  cases o with
  | none =>
    have e : u = ro := hu
    rw [e]; exact hold
  | some sd =>
    obtain ⟨a, wa, rfl, ha, hwa⟩ := hu
    intro j x hx
    by_cases hj : j = i
    · have hx2 : some (a, wa, sd) = some x := by rw [← hx]; unfold va_up; rw [if_pos hj]
      cases hx2
      obtain ⟨h1, h2, h3⟩ := hRu j _ hx
      have nr : ∀ q, q < H1.size → (H.size ≤ q ∨ q = tw) → ¬ va_A wr H1.size q := fun q hq hc h9 => by
        rcases h9 with ⟨k, e, hk9⟩ | h9
        · rcases hc with hc | hc
          · exact absurd (h.2.1 k _ hk9).lt (Nat.not_lt.mpr hc)
          · exact htw (hc ▸ h.2.2.2.1.2 k _ hk9)
        · exact absurd hq (Nat.not_lt.mpr h9)
      exact ⟨h1, fun h9 => h9.elim h2 (nr _ (h1 0 _ rfl).lt (Or.inl ha)), fun hc => ⟨(h3 hc).1, fun h9 => h9.elim (h3 hc).2 (nr _ (h3 hc).1.lt (hwa hc))⟩⟩
    · refine hold j x ?_
      rw [← hx]; unfold va_up; rw [if_neg hj]
section KLW
variable {p : Program} {l : Launch} {e : Env} {R : Room} {s : State} {m : MethodId} {args a : Array Value} {below : List Frame} {meth : Method} {c : Code} {H : Heap} {locs : List Loc} {cells slots mc ms pc : Nat} {Q : State → Prop} {G : va_G} {cs : CS} {A : Nat → Prop} {w wr w1 : va_W} {ls : Array Slot} {st0 rest : List Value} {E : Prop} {cc : ByteArray} {ro : RF}
theorem kC_i {r0 : Int32} (hr : va_Run p l e R s m args below meth c H locs cells slots mc ms (F0 m pc ls st0) rest (QI G r0 E w1 (va_A w H.size) a) (va_A w H.size)) (h : LW G A s ro w wr H locs) (hA : ∀ q, s.heap.size ≤ q → A q) (hadr : w1.map (·.1) = w.map (·.1)) (kk : ∀ (H1 : Heap) (locs1 : List Loc), LW G A s ro w1 wr H1 locs1 → W p l e R s m args below meth c H1 locs1 (cells + mc) (slots + ms) Q (F0 m (pc + 3) ls (.int r0 :: rest))) : W p l e R s m args below meth c H locs cells slots Q (F0 m pc ls st0) :=
  va_calli hr h.2.2.2.2.2.1 (fun q _ h9 => va_all h.2.2.1 h.2.2.2.2.2.1 hA q h9) (va_all h.2.2.1 h.2.2.2.2.2.1 hA) (fun r u t H1 locs1 ht hvm hw hB hz hk hS1 => by
    obtain ⟨hw, -⟩ := hw
    subst hw; subst ht
    exact kk _ _ (h.step hA hz hk hS1 hB.1 hB.2 (RO_step h.2.2.2.2.2.2 hz hk hadr)))
theorem kC_l {r0 : Int64} (hr : va_Run p l e R s m args below meth c H locs cells slots mc ms (F0 m pc ls st0) rest (QL G r0 w1 (va_A w H.size) a) (va_A w H.size)) (h : LW G A s ro w wr H locs) (hA : ∀ q, s.heap.size ≤ q → A q) (hadr : w1.map (·.1) = w.map (·.1)) (kk : ∀ (H1 : Heap) (locs1 : List Loc), LW G A s ro w1 wr H1 locs1 → W p l e R s m args below meth c H1 locs1 (cells + mc) (slots + ms) Q (F0 m (pc + 3) ls (.long r0 :: rest))) : W p l e R s m args below meth c H locs cells slots Q (F0 m pc ls st0) :=
  va_calll hr h.2.2.2.2.2.1 (fun q _ h9 => va_all h.2.2.1 h.2.2.2.2.2.1 hA q h9) (va_all h.2.2.1 h.2.2.2.2.2.1 hA) (fun r u t H1 locs1 ht hvm hw hB hz hk hS1 => by
    subst hw; subst ht
    exact kk _ _ (h.step hA hz hk hS1 hB.1 hB.2 (RO_step h.2.2.2.2.2.2 hz hk hadr)))
theorem kM_i {r0 : Int32} {wC : va_W} (hr : va_Run p l e R s m args below meth c H locs cells slots mc ms (F0 m pc ls st0) rest (QI G r0 E w1 (va_A w H.size) a) (va_A w H.size)) (h : LW G A s ro wC w H locs) (hA : ∀ q, s.heap.size ≤ q → A q) (hadr : w1.map (·.1) = w.map (·.1)) (kk : ∀ (H1 : Heap) (locs1 : List Loc), LW G A s ro wC w1 H1 locs1 → W p l e R s m args below meth c H1 locs1 (cells + mc) (slots + ms) Q (F0 m (pc + 3) ls (.int r0 :: rest))) : W p l e R s m args below meth c H locs cells slots Q (F0 m pc ls st0) :=
  kC_i hr h.swap hA hadr (fun H1 locs1 h1 => kk H1 locs1 h1.swap)
theorem kM_l {r0 : Int64} {wC : va_W} (hr : va_Run p l e R s m args below meth c H locs cells slots mc ms (F0 m pc ls st0) rest (QL G r0 w1 (va_A w H.size) a) (va_A w H.size)) (h : LW G A s ro wC w H locs) (hA : ∀ q, s.heap.size ≤ q → A q) (hadr : w1.map (·.1) = w.map (·.1)) (kk : ∀ (H1 : Heap) (locs1 : List Loc), LW G A s ro wC w1 H1 locs1 → W p l e R s m args below meth c H1 locs1 (cells + mc) (slots + ms) Q (F0 m (pc + 3) ls (.long r0 :: rest))) : W p l e R s m args below meth c H locs cells slots Q (F0 m pc ls st0) :=
  kC_l hr h.swap hA hadr (fun H1 locs1 h1 => kk H1 locs1 h1.swap)
theorem kC_n {r0 : Int32} {i tw : Nat} {o : Option SD} {wf : RF → va_W} (hr : va_Run p l e R s m args below meth c H locs cells slots mc ms (F0 m pc ls st0) rest (QN G r0 ro i H.size tw o wf (va_A w H.size) a) (va_A w H.size)) (h : LW G A s ro w wr H locs) (hA : ∀ q, s.heap.size ≤ q → A q) (htw : ¬ A tw) (htl : tw < H.size) (hadr : ∀ u, (wf u).map (·.1) = w.map (·.1)) (kk : ∀ (u : RF) (H1 : Heap) (locs1 : List Loc), newRo ro i H.size tw o u → LW G A s u (wf u) wr H1 locs1 → W p l e R s m args below meth c H1 locs1 (cells + mc) (slots + ms) Q (F0 m (pc + 3) ls (.int r0 :: rest))) : W p l e R s m args below meth c H locs cells slots Q (F0 m pc ls st0) :=
  va_calli hr h.2.2.2.2.2.1 (fun q _ h9 => va_all h.2.2.1 h.2.2.2.2.2.1 hA q h9) (va_all h.2.2.1 h.2.2.2.2.2.1 hA) (fun r u t H1 locs1 ht hvm hw hB hz hk hS1 => by
    obtain ⟨hw, hu⟩ := hw
    subst hw; subst ht
    exact kk u _ _ hu (h.step hA hz hk hS1 hB.1 hB.2.1 (RO_new h hz hk (hadr u) hu htw htl (hB.2.2.to hvm.symm (fun _ h => h)))))
end KLW
theorem pre_C {G : va_G} {cs : CS} {A : Nat → Prop} {s : State} {ro : RF} {w wr : va_W} {H : Heap} {locs : List Loc} {av : List Value} (hK : KK G cs s) (h : LW G A s ro w wr H locs) : ∀ U : State, U.heap = H → s.WarmedH U.vm → va_Pc av (PreW G cs H.size w ro) av.toArray U := fun U hU hW =>
  ⟨rfl, by rw [hU], by rw [hU]; exact h.1, hK.warm hW, h.2.2.1.weaken (fun _ _ _ _ => trivial), by rw [hU]; exact h.2.2.2.2.2.2.to hW.alike (fun _ h => Or.inl h)⟩
theorem pre_M {G : va_G} {cs : CS} {A : Nat → Prop} {s : State} {ro : RF} {wC w : va_W} {H : Heap} {locs : List Loc} {av : List Value} (hK : KK G cs s) (h : LW G A s ro wC w H locs) : ∀ U : State, U.heap = H → s.WarmedH U.vm → va_Pc av (PreW G cs H.size w RN) av.toArray U := fun U hU hW =>
  ⟨rfl, by rw [hU], by rw [hU]; exact h.2.1, hK.warm hW, h.2.2.2.1.weaken (fun _ _ _ _ => trivial), RO.nil⟩
theorem pre_Z {G : va_G} {cs : CS} {A : Nat → Prop} {s : State} {ro : RF} {w wr : va_W} {H : Heap} {locs : List Loc} {av : List Value} {tw : Nat} (hK : KK G cs s) (h : LW G A s ro w wr H locs) (hA : ∀ q, s.heap.size ≤ q → A q) (hZ : va_Z "SumSmith" "WEIGHT_ONE" "[I" (.ref tw) A s s.heap) (hX : va_X tw 1 (fun _ => 1) s s.heap ∧ ¬ A tw) : ∀ U : State, U.heap = H → s.WarmedH U.vm → va_Pc av (PreZ G cs H.size w ro tw) av.toArray U := fun U hU hW => by
  obtain ⟨e, h1⟩ := pre_C (av := av) hK h U hU hW
  have hS := h.2.2.2.2.2.1
  have hF := va_all h.2.2.1 hS hA
  refine ⟨e, h1, va_Z.moved hW.alike (by rw [hU]; exact (hZ.kept (fun a hl hn => hS.2.1 a hl hn)).narrow hF), va_X.moved hW.alike (by rw [hU]; exact hX.1.kept (hS.2.1 _ hX.1.lt hX.2)), fun h9 => hX.2 (hF _ h9)⟩
