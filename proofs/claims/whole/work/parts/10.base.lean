/-! Own rows: contexts, contracts in one form, calls, loops of mirrors. -/
-- loops of mirrors
def lp {σ ρ : Type} (f : σ → Option (σ ⊕ ρ)) : Nat → σ → Option ρ
  | 0, _ => none
  | k + 1, x => (f x).bind (Sum.elim (lp f k) some)
theorem lp_ind {σ ρ : Type} {f : σ → Option (σ ⊕ ρ)} {out : ρ} (P : σ → Prop)
    (step : ∀ (x : σ) (ob : σ ⊕ ρ), f x = some ob → (ob = .inr out ∨ ∃ y, ob = .inl y ∧ P y) → P x) : ∀ (k : Nat) (x : σ), lp f k x = some out → P x := by
  intro k
  induction k with
  | zero => intro x h; cases h
  | succ k ih =>
    intro x h
    unfold lp at h
    cases hf : f x with
    | none => rw [hf] at h; cases h
    | some ob =>
      rw [hf] at h
      cases ob with
      | inl y => exact step x _ hf (Or.inr ⟨y, rfl, ih y h⟩)
      | inr r => exact step x _ hf (Or.inl (by cases h; rfl))
theorem st_next {σ ρ : Type} {P : σ → Prop} {y0 : σ} {ob : σ ⊕ ρ} {out : ρ} (hm : some (Sum.inl y0) = some ob) (hst : ob = .inr out ∨ ∃ y, ob = .inl y ∧ P y) : P y0 := by
  cases hm
  rcases hst with h | ⟨y, h, hp⟩
  · cases h
  · cases h; exact hp
theorem st_exit {σ ρ : Type} {P : σ → Prop} {v : ρ} {ob : σ ⊕ ρ} {out : ρ} (hm : some (Sum.inr v) = some ob) (hst : ob = .inr out ∨ ∃ y, ob = .inl y ∧ P y) : out = v := by
  cases hm
  rcases hst with h | ⟨y, h, hp⟩
  · cases h; rfl
  · cases h
theorem bs {α β : Type} {x : Option α} {f : α → Option β} {r : β} (h : x.bind f = some r) : ∃ a, x = some a ∧ f a = some r := by
  cases x with
  | none => cases h
  | some a => exact ⟨a, rfl, h⟩
theorem g_in {α : Type} {C : Prop} [Decidable C] {K : Option α} {r : α} (h : (if C then none else K) = some r) : ¬ C ∧ K = some r := by
  by_cases hc : C
  · rw [if_pos hc] at h; cases h
  · rw [if_neg hc] at h; exact ⟨hc, h⟩
theorem i_t {α : Type} {C : Prop} [Decidable C] {a b r : α} (hc : C) (h : (if C then a else b) = r) : a = r := by rw [if_pos hc] at h; exact h
theorem i_f {α : Type} {C : Prop} [Decidable C] {a b r : α} (hc : ¬ C) (h : (if C then a else b) = r) : b = r := by rw [if_neg hc] at h; exact h
theorem se_l {α β γ : Type} {f : α → γ} {g : β → γ} {o : α ⊕ β} {v : α} {R : γ} (ho : o = .inl v) (h : Sum.elim f g o = R) : f v = R := by subst ho; exact h
theorem se_r {α β γ : Type} {f : α → γ} {g : β → γ} {o : α ⊕ β} {v : β} {R : γ} (ho : o = .inr v) (h : Sum.elim f g o = R) : g v = R := by subst ho; exact h
theorem ne_ti {x k : Int32} (h : ¬ x = k) : ¬ x.toInt = k.toInt := fun e => h (Int32.toInt_inj.mp e)
-- the words of nest mates and casts
def nestM : List (String × Nat × MethodName × String) := [("SumSmith", 37, ⟨"SumSmith$Slips", "<init>", "()V"⟩, "SumSmith"), ("SumSmith", 44, ⟨"SumSmith$PlaceSets", "<init>", "()V"⟩, "SumSmith"), ("SumSmith$PlaceSets", 21, ⟨"SumSmith$Tally", "<init>", "()V"⟩, "SumSmith"), ("SumSmith", 57, ⟨"SumSmith$Aims", "<init>", "()V"⟩, "SumSmith"), ("SumSmith$Divided", 37, ⟨"SumSmith", "maskOf", "(I)J"⟩, "SumSmith"), ("SumSmith$Turning", 26, ⟨"SumSmith", "maskOf", "(I)J"⟩, "SumSmith"), ("SumSmith$Divided", 41, ⟨"SumSmith", "fits", "(JI)Z"⟩, "SumSmith"), ("SumSmith$Turning", 22, ⟨"SumSmith", "fits", "(JI)Z"⟩, "SumSmith"), ("SumSmith$Slips", 50, ⟨"SumSmith", "byteOfPlace", "(I)I"⟩, "SumSmith"), ("SumSmith$Slips", 54, ⟨"SumSmith", "bitOfPlace", "(I)I"⟩, "SumSmith")]
def nestC : List (String × String) := [("SumSmith$Weighted", "SumSmith$Linear"), ("SumSmith$Twofold", "SumSmith$Linear"), ("SumSmith$Turning", "SumSmith$Linear"), ("SumSmith$Divided", "SumSmith$Linear"), ("SumSmith$Divided", "SumSmith$Divided"), ("SumSmith$Square", "SumSmith$Square"), ("SumSmith$Weighted", "SumSmith$Sum"), ("SumSmith$Twofold", "SumSmith$Sum"), ("SumSmith$Turning", "SumSmith$Sum"), ("SumSmith$Divided", "SumSmith$Sum"), ("SumSmith$Square", "SumSmith$Sum"), ("[I", "java/lang/Cloneable")]
def nestN : List (String × String) := [("SumSmith$Square", "SumSmith$Linear"), ("SumSmith$Square", "SumSmith$Divided"), ("SumSmith$Weighted", "SumSmith$Divided"), ("SumSmith$Twofold", "SumSmith$Divided"), ("SumSmith$Turning", "SumSmith$Divided"), ("SumSmith$Weighted", "SumSmith$Square"), ("SumSmith$Twofold", "SumSmith$Square"), ("SumSmith$Turning", "SumSmith$Square"), ("SumSmith$Divided", "SumSmith$Square")]
def nestD : List MethodName := [⟨"SumSmith$Sum", "ofRow", "([II)J"⟩, ⟨"SumSmith$Linear", "holds", "(J)Z"⟩, ⟨"SumSmith$Linear", "carried", "(JI)J"⟩, ⟨"SumSmith$Linear", "merged", "(JJ)J"⟩, ⟨"SumSmith$Linear", "changed", "(IIII)J"⟩]
def NW (U : State) : Prop := (∀ q ∈ nestM, va_Nw (.methodLinkNest q.1 q.2.1 q.2.2.1 q.2.2.2) U) ∧ (∀ q ∈ nestC, va_Nw (.castable q.1 q.2) U) ∧ (∀ q ∈ nestN, va_Nc q.1 q.2 U) ∧ (∀ q ∈ nestD, va_Nw (.declares q) U) ∧ va_AO "SumSmith$Sum" U
theorem NW.warm {s U : State} (hW : s.WarmedH U.vm) (h : NW s) : NW U := ⟨fun q hq => va_Nw.warmM hW (h.1 q hq), fun q hq => va_Nw.warmC hW (h.2.1 q hq), fun q hq => va_Nc.moved hW.alike (h.2.2.1 q hq), fun q hq => va_Nw.warmD hW (h.2.2.2.1 q hq), va_AO.moved hW.alike h.2.2.2.2⟩
theorem NW.same {u U : State} (h : u.vm = U.vm) (hN : NW u) : NW U := ⟨fun q hq => va_Nw.same rfl h (hN.1 q hq), fun q hq => va_Nw.same rfl h (hN.2.1 q hq), fun q hq => by obtain ⟨c, t, h1, h2, h3⟩ := hN.2.2.1 q hq; exact ⟨c, t, by rw [← h]; exact h1, by rw [← h]; exact h2, by rw [← h]; exact h3⟩, fun q hq => va_Nw.same rfl h (hN.2.2.2.1 q hq), va_AO.moved (by rw [h]; exact Vm.Alike.refl U.vm) hN.2.2.2.2⟩
abbrev CS : Type := ClassId × ClassId × ClassId × ClassId
abbrev TY (cs : CS) : List (ClassId × FieldType) := [(cs.1, .int), (cs.2.1, .long), (cs.2.2.1, .boolean), (cs.2.2.2, .object "SumSmith$Sum")]
def KK (G : va_G) (cs : CS) (U : State) : Prop := va_K G vwCl (TY cs) U ∧ NW U
theorem KK.warm {G : va_G} {cs : CS} {s U : State} (hW : s.WarmedH U.vm) (h : KK G cs s) : KK G cs U := ⟨va_K.moved hW.alike h.1, h.2.warm hW⟩
theorem KK.same {G : va_G} {cs : CS} {u U : State} (h : u.vm = U.vm) (hK : KK G cs u) : KK G cs U := ⟨va_K.moved (by rw [h]; exact Vm.Alike.refl U.vm) hK.1, hK.2.same h⟩
-- what is read and never written: SUM objects, each by its address, its array's address and what it holds
abbrev SD : Type := Nat × Int32 × Int32 × Int32 × Int64 × Int64 × Int64 × Int32 × Nat × (Nat → Int32)
abbrev RF : Type := Nat → Option (Nat × Nat × SD)
abbrev RN : RF := fun _ => none
def sdF (w : Nat) (sd : SD) : List Value := if sd.1 = 8 then [.int sd.2.1, .int sd.2.2.1, .ref w] else if sd.1 = 4 then [.int sd.2.1, .int sd.2.2.1, .ref w] else if sd.1 = 7 then [.int sd.2.1, .int sd.2.2.1] else if sd.1 = 6 then [.int sd.2.1, .int sd.2.2.1, .int sd.2.2.2.1] else [.int sd.2.1, .int sd.2.2.1, .long sd.2.2.2.2.1, .int sd.2.2.2.2.2.2.2.1, .long sd.2.2.2.2.2.1, .long sd.2.2.2.2.2.2.1]
def sdX (w : Nat) (sd : SD) (A : Nat → Prop) (U : State) (H : Heap) : Prop := (sd.1 = 8 ∨ sd.1 = 4) → (va_X w sd.2.2.2.2.2.2.2.2.1 sd.2.2.2.2.2.2.2.2.2 U H ∧ ¬ A w)
def RO (G : va_G) (ro : RF) (A : Nat → Prop) (U : State) (H : Heap) : Prop := ∀ (j : Nat) (x : Nat × Nat × SD), ro j = some x → va_P G vwCl [(x.1, .inr (x.2.2.1, sdF x.2.1 x.2.2))] H ∧ ¬ A x.1 ∧ sdX x.2.1 x.2.2 A U H
theorem va_X.lt {b L : Nat} {xs : Nat → Int32} {U : State} {H : Heap} (h : va_X b L xs U H) : b < H.size := by
  obtain ⟨scr, h1, -⟩ := h
  exact (Array.getElem?_eq_some_iff.mp h1).1
theorem one_get {a b : Nat} {x y : va_E} {k : Nat} {q : Nat × va_E} (h : [(a, x)][k]? = some q) : k = 0 ∧ q = (a, x) := by
  cases k with
  | zero => exact ⟨rfl, by cases h; rfl⟩
  | succ k => simp at h
theorem sdX.at {w : Nat} {sd : SD} {A : Nat → Prop} {s : State} {H0 H : Heap} {locs : List Loc} (hS : va_S A H0 H locs) (h : sdX w sd A s H0) : sdX w sd A s H := fun hc => ⟨(h hc).1.kept (hS.2.1 w (h hc).1.lt (h hc).2), (h hc).2⟩
theorem sdX.to {w : Nat} {sd : SD} {A B : Nat → Prop} {s U : State} {H : Heap} (hvm : s.vm.Alike U.vm) (hF : ∀ q, B q → A q) (h : sdX w sd A s H) : sdX w sd B U H := fun hc => ⟨va_X.moved hvm (h hc).1, fun hb => (h hc).2 (hF _ hb)⟩
theorem RO.at {G : va_G} {ro : RF} {A : Nat → Prop} {s : State} {H0 H : Heap} {locs : List Loc} (hS : va_S A H0 H locs) (h : RO G ro A s H0) : RO G ro A s H := fun j x hx => by
  obtain ⟨h1, h2, h3⟩ := h j x hx
  refine ⟨h1.kept (fun k q hk => hS.2.1 q.1 ((h1 k q hk).lt) ?_), h2, h3.at hS⟩
  obtain ⟨-, rfl⟩ := one_get (b := 0) (y := .inr (0, [])) hk
  exact h2
theorem roP {G : va_G} {A : Nat → Prop} {H0 H : Heap} {locs : List Loc} {a : Nat} {x : va_E} (hS : va_S A H0 H locs) (h : va_P G vwCl [(a, x)] H0) (hA : ¬ A a) : va_P G vwCl [(a, x)] H := by
  refine h.kept (fun k q hk => hS.2.1 q.1 ((h k q hk).lt) ?_)
  obtain ⟨-, rfl⟩ := one_get (b := 0) (y := .inr (0, [])) hk
  exact hA
theorem RO.to {G : va_G} {ro : RF} {A B : Nat → Prop} {s U : State} {H : Heap} (hvm : s.vm.Alike U.vm) (hF : ∀ q, B q → A q) (h : RO G ro A s H) : RO G ro B U H := fun j x hx => ⟨(h j x hx).1, fun hb => (h j x hx).2.1 (hF _ hb), (h j x hx).2.2.to hvm hF⟩
theorem RO.one {G : va_G} {ro : RF} {A : Nat → Prop} {s : State} {H : Heap} {j : Nat} {x : Nat × Nat × SD} (hj : ro j = some x) (h : RO G ro A s H) : RO G (fun _ => some x) A s H := fun _ y hy => by cases hy; exact h j x hj
theorem RO.nil {G : va_G} {A : Nat → Prop} {s : State} {H : Heap} : RO G RN A s H := fun _ _ h => by cases h
def PreW (G : va_G) (cs : CS) (sz : Nat) (ws : va_W) (ro : RF) (U : State) : Prop := U.heap.size = sz ∧ va_P G vwCl ws U.heap ∧ KK G cs U ∧ va_D (fun _ => True) ws ∧ RO G ro (va_A ws sz) U U.heap
def PostW (G : va_G) (A : Nat → Prop) (ws : va_W) (_ : Unit) (t : State) : Prop := va_P G vwCl ws t.heap ∧ va_D A ws
theorem pre_blind {G : va_G} {cs : CS} {sz : Nat} {ws : va_W} {ro : RF} {av : List Value} : FrameBlind (va_Pc av (PreW G cs sz ws ro)) := fun a U g mk q => by
  obtain ⟨q0, q1, q2, q3, q4, q5⟩ := q
  exact ⟨q0, q1, q2, q3.same rfl, q4, q5.to (Vm.Alike.refl U.vm) (fun _ h => h)⟩
theorem pre_w {G : va_G} {cs : CS} {wc : va_W} {ro : RF} {av : List Value} {A : Nat → Prop} {s : State} {H : Heap} (hK : KK G cs s) (hR : RO G ro A s H) (hP : va_P G vwCl wc H) (hD : va_D A wc) (hF : ∀ q, va_A wc H.size q → A q) : ∀ U : State, U.heap = H → s.WarmedH U.vm → va_Pc av (PreW G cs H.size wc ro) av.toArray U := fun U hU hW =>
  ⟨rfl, by rw [hU], by rw [hU]; exact hP, hK.warm hW, hD.weaken (fun _ _ _ _ => trivial), by rw [hU]; exact hR.to hW.alike hF⟩
theorem P_by {G : va_G} {ws wc : va_W} {H : Heap} (hP : va_P G vwCl ws H) (is : List Nat) (hC : is.map (fun i => ws[i]?) = wc.map some) : va_P G vwCl wc H := fun k q hk => by
  have h1 : (wc.map some)[k]? = some (some q) := by rw [List.getElem?_map, hk]; rfl
  rw [← hC, List.getElem?_map] at h1
  cases hi : is[k]? with
  | none => rw [hi] at h1; cases h1
  | some i => rw [hi] at h1; exact hP i q (Option.some.inj h1)
theorem g_pos {α : Type} {C : Prop} [Decidable C] {K : Option α} {r : α} (h : (if C then K else none) = some r) : C ∧ K = some r := by
  by_cases hc : C
  · rw [if_pos hc] at h; exact ⟨hc, h⟩
  · rw [if_neg hc] at h; cases h
theorem oe_n {α β : Type} {a : β} {f : α → β} {R : β} (h : Option.elim none a f = R) : a = R := h
theorem oe_s {α β : Type} {a : β} {f : α → β} {x : α} {R : β} (h : Option.elim (some x) a f = R) : f x = R := h
abbrev roA (ro : RF) : Nat → Option Nat := fun j => (ro j).map (·.1)
theorem divF {G : va_G} {H : Heap} {a w : Nat} {sd : SD} (h : va_P G vwCl [(a, .inr (sd.1, sdF w sd))] H) (hd : sd.1 = 1) : va_P G vwCl [(a, .inr (1, [.int sd.2.1, .int sd.2.2.1, .long sd.2.2.2.2.1, .int sd.2.2.2.2.2.2.2.1, .long sd.2.2.2.2.2.1, .long sd.2.2.2.2.2.2.1]))] H := by
  obtain ⟨c, sd⟩ := sd
  subst hd
  exact h
theorem sqF {G : va_G} {H : Heap} {a w : Nat} {sd : SD} (h : va_P G vwCl [(a, .inr (sd.1, sdF w sd))] H) (hd : sd.1 = 4) : va_P G vwCl [(a, .inr (4, [.int sd.2.1, .int sd.2.2.1, .ref w]))] H := by
  obtain ⟨c, sd⟩ := sd
  subst hd
  exact h
theorem RO.cls {G : va_G} {ro : RF} {A : Nat → Prop} {s : State} {H : Heap} {j c : Nat} {x : Nat × Nat × SD} (hj : ro j = some x) (hc : x.2.2.1 = c) (h : RO G ro A s H) : RO G (fun _ => some (x.1, x.2.1, (c, x.2.2.2.1, x.2.2.2.2.1, x.2.2.2.2.2.1, x.2.2.2.2.2.2.1, x.2.2.2.2.2.2.2.1, x.2.2.2.2.2.2.2.2.1, x.2.2.2.2.2.2.2.2.2.1, x.2.2.2.2.2.2.2.2.2.2.1, x.2.2.2.2.2.2.2.2.2.2.2))) A s H := fun _ y hy => by
  subst hc
  cases hy
  exact h j x hj
theorem not_L {c : Nat} (hv : c = 8 ∨ c = 7 ∨ c = 6 ∨ c = 1 ∨ c = 4) (h : ¬ (c = 8 ∨ c = 7 ∨ c = 6 ∨ c = 1)) : c = 4 := by omega
theorem not_D {c : Nat} (hv : c = 8 ∨ c = 7 ∨ c = 6 ∨ c = 1 ∨ c = 4) (h : ¬ c = 1) : c = 8 ∨ c = 7 ∨ c = 6 ∨ c = 4 := by omega
theorem not_S {c : Nat} (hv : c = 8 ∨ c = 7 ∨ c = 6 ∨ c = 1 ∨ c = 4) (h : ¬ c = 4) : c = 8 ∨ c = 7 ∨ c = 6 ∨ c = 1 := by omega
section KI
variable {p : Program} {l : Launch} {e : Env} {R : Room} {s : State} {m : MethodId} {args : Array Value} {below : List Frame} {meth : Method} {c : Code} {H : Heap} {locs : List Loc} {cells slots pc index : Nat} {Q : State → Prop} {G : va_G} {cs : CS} {ls : Array Slot} {rest : List Value} {cc : ByteArray} {own : String} {a : Nat} {c1 : Nat} {fs : List Value}
theorem inst_L (hx : p.tables.exec = Jvm.exec) (hb : c.code = cc) (hown : s.vm.findClass own = some m.cls) (hlink : (Cond.classLink own index "SumSmith$Linear").before args s = true) (hK : KK G cs s) (hT : va_P G vwCl [(a, .inr (c1, fs))] H) (hc : c1 = 8 ∨ c1 = 7 ∨ c1 = 6 ∨ c1 = 1) (hdg : decode cc pc = .ok (.instanceof index, 3)) (kk : W p l e R s m args below meth c H locs cells slots Q (F0 m (pc + 3) ls (.int 1 :: rest))) : W p l e R s m args below meth c H locs cells slots Q (F0 m pc ls (.ref a :: rest)) := by
  rcases hc with rfl | rfl | rfl | rfl
  · exact va_instY hx hb hown hlink (hK.2.2.1 (_, _) (List.mem_of_getElem? (i := 0) rfl)) (va_recv hK.1 hT (ci := 8) (q0 := 0) rfl rfl) hdg kk
  · exact va_instY hx hb hown hlink (hK.2.2.1 (_, _) (List.mem_of_getElem? (i := 1) rfl)) (va_recv hK.1 hT (ci := 7) (q0 := 0) rfl rfl) hdg kk
  · exact va_instY hx hb hown hlink (hK.2.2.1 (_, _) (List.mem_of_getElem? (i := 2) rfl)) (va_recv hK.1 hT (ci := 6) (q0 := 0) rfl rfl) hdg kk
  · exact va_instY hx hb hown hlink (hK.2.2.1 (_, _) (List.mem_of_getElem? (i := 3) rfl)) (va_recv hK.1 hT (ci := 1) (q0 := 0) rfl rfl) hdg kk
theorem inst_D (hx : p.tables.exec = Jvm.exec) (hb : c.code = cc) (hown : s.vm.findClass own = some m.cls) (hlink : (Cond.classLink own index "SumSmith$Divided").before args s = true) (hK : KK G cs s) (hT : va_P G vwCl [(a, .inr (c1, fs))] H) (hc : c1 = 1) (hdg : decode cc pc = .ok (.instanceof index, 3)) (kk : W p l e R s m args below meth c H locs cells slots Q (F0 m (pc + 3) ls (.int 1 :: rest))) : W p l e R s m args below meth c H locs cells slots Q (F0 m pc ls (.ref a :: rest)) := by
  subst hc
  exact va_instY hx hb hown hlink (hK.2.2.1 (_, _) (List.mem_of_getElem? (i := 4) rfl)) (va_recv hK.1 hT (ci := 1) (q0 := 0) rfl rfl) hdg kk
theorem inst_S (hx : p.tables.exec = Jvm.exec) (hb : c.code = cc) (hown : s.vm.findClass own = some m.cls) (hlink : (Cond.classLink own index "SumSmith$Square").before args s = true) (hK : KK G cs s) (hT : va_P G vwCl [(a, .inr (c1, fs))] H) (hc : c1 = 4) (hdg : decode cc pc = .ok (.instanceof index, 3)) (kk : W p l e R s m args below meth c H locs cells slots Q (F0 m (pc + 3) ls (.int 1 :: rest))) : W p l e R s m args below meth c H locs cells slots Q (F0 m pc ls (.ref a :: rest)) := by
  subst hc
  exact va_instY hx hb hown hlink (hK.2.2.1 (_, _) (List.mem_of_getElem? (i := 5) rfl)) (va_recv hK.1 hT (ci := 4) (q0 := 0) rfl rfl) hdg kk
theorem instn_L (hx : p.tables.exec = Jvm.exec) (hb : c.code = cc) (hown : s.vm.findClass own = some m.cls) (hlink : (Cond.classLink own index "SumSmith$Linear").before args s = true) (hK : KK G cs s) (hT : va_P G vwCl [(a, .inr (c1, fs))] H) (hc : c1 = 4) (hdg : decode cc pc = .ok (.instanceof index, 3)) (kk : W p l e R s m args below meth c H locs cells slots Q (F0 m (pc + 3) ls (.int 0 :: rest))) : W p l e R s m args below meth c H locs cells slots Q (F0 m pc ls (.ref a :: rest)) := by
  subst hc
  exact va_instNo hx hb hown hlink (hK.2.2.2.1 (_, _) (List.mem_of_getElem? (i := 0) rfl)) (va_recv hK.1 hT (ci := 4) (q0 := 0) rfl rfl) hdg kk
theorem instn_D (hx : p.tables.exec = Jvm.exec) (hb : c.code = cc) (hown : s.vm.findClass own = some m.cls) (hlink : (Cond.classLink own index "SumSmith$Divided").before args s = true) (hK : KK G cs s) (hT : va_P G vwCl [(a, .inr (c1, fs))] H) (hc : c1 = 8 ∨ c1 = 7 ∨ c1 = 6 ∨ c1 = 4) (hdg : decode cc pc = .ok (.instanceof index, 3)) (kk : W p l e R s m args below meth c H locs cells slots Q (F0 m (pc + 3) ls (.int 0 :: rest))) : W p l e R s m args below meth c H locs cells slots Q (F0 m pc ls (.ref a :: rest)) := by
  rcases hc with rfl | rfl | rfl | rfl
  · exact va_instNo hx hb hown hlink (hK.2.2.2.1 (_, _) (List.mem_of_getElem? (i := 2) rfl)) (va_recv hK.1 hT (ci := 8) (q0 := 0) rfl rfl) hdg kk
  · exact va_instNo hx hb hown hlink (hK.2.2.2.1 (_, _) (List.mem_of_getElem? (i := 3) rfl)) (va_recv hK.1 hT (ci := 7) (q0 := 0) rfl rfl) hdg kk
  · exact va_instNo hx hb hown hlink (hK.2.2.2.1 (_, _) (List.mem_of_getElem? (i := 4) rfl)) (va_recv hK.1 hT (ci := 6) (q0 := 0) rfl rfl) hdg kk
  · exact va_instNo hx hb hown hlink (hK.2.2.2.1 (_, _) (List.mem_of_getElem? (i := 1) rfl)) (va_recv hK.1 hT (ci := 4) (q0 := 0) rfl rfl) hdg kk
theorem instn_S (hx : p.tables.exec = Jvm.exec) (hb : c.code = cc) (hown : s.vm.findClass own = some m.cls) (hlink : (Cond.classLink own index "SumSmith$Square").before args s = true) (hK : KK G cs s) (hT : va_P G vwCl [(a, .inr (c1, fs))] H) (hc : c1 = 8 ∨ c1 = 7 ∨ c1 = 6 ∨ c1 = 1) (hdg : decode cc pc = .ok (.instanceof index, 3)) (kk : W p l e R s m args below meth c H locs cells slots Q (F0 m (pc + 3) ls (.int 0 :: rest))) : W p l e R s m args below meth c H locs cells slots Q (F0 m pc ls (.ref a :: rest)) := by
  rcases hc with rfl | rfl | rfl | rfl
  · exact va_instNo hx hb hown hlink (hK.2.2.2.1 (_, _) (List.mem_of_getElem? (i := 5) rfl)) (va_recv hK.1 hT (ci := 8) (q0 := 0) rfl rfl) hdg kk
  · exact va_instNo hx hb hown hlink (hK.2.2.2.1 (_, _) (List.mem_of_getElem? (i := 6) rfl)) (va_recv hK.1 hT (ci := 7) (q0 := 0) rfl rfl) hdg kk
  · exact va_instNo hx hb hown hlink (hK.2.2.2.1 (_, _) (List.mem_of_getElem? (i := 7) rfl)) (va_recv hK.1 hT (ci := 6) (q0 := 0) rfl rfl) hdg kk
  · exact va_instNo hx hb hown hlink (hK.2.2.2.1 (_, _) (List.mem_of_getElem? (i := 8) rfl)) (va_recv hK.1 hT (ci := 1) (q0 := 0) rfl rfl) hdg kk
theorem cast_L (hx : p.tables.exec = Jvm.exec) (hb : c.code = cc) (hown : s.vm.findClass own = some m.cls) (hlink : (Cond.classLink own index "SumSmith$Linear").before args s = true) (hK : KK G cs s) (hT : va_P G vwCl [(a, .inr (c1, fs))] H) (hc : c1 = 8 ∨ c1 = 7 ∨ c1 = 6 ∨ c1 = 1) (hdg : decode cc pc = .ok (.checkcast index, 3)) (kk : W p l e R s m args below meth c H locs cells slots Q (F0 m (pc + 3) ls (.ref a :: rest))) : W p l e R s m args below meth c H locs cells slots Q (F0 m pc ls (.ref a :: rest)) := by
  rcases hc with rfl | rfl | rfl | rfl
  · exact va_castY hx hb hown hlink (hK.2.2.1 (_, _) (List.mem_of_getElem? (i := 0) rfl)) (va_recv hK.1 hT (ci := 8) (q0 := 0) rfl rfl) hdg kk
  · exact va_castY hx hb hown hlink (hK.2.2.1 (_, _) (List.mem_of_getElem? (i := 1) rfl)) (va_recv hK.1 hT (ci := 7) (q0 := 0) rfl rfl) hdg kk
  · exact va_castY hx hb hown hlink (hK.2.2.1 (_, _) (List.mem_of_getElem? (i := 2) rfl)) (va_recv hK.1 hT (ci := 6) (q0 := 0) rfl rfl) hdg kk
  · exact va_castY hx hb hown hlink (hK.2.2.1 (_, _) (List.mem_of_getElem? (i := 3) rfl)) (va_recv hK.1 hT (ci := 1) (q0 := 0) rfl rfl) hdg kk
theorem cast_D (hx : p.tables.exec = Jvm.exec) (hb : c.code = cc) (hown : s.vm.findClass own = some m.cls) (hlink : (Cond.classLink own index "SumSmith$Divided").before args s = true) (hK : KK G cs s) (hT : va_P G vwCl [(a, .inr (c1, fs))] H) (hc : c1 = 1) (hdg : decode cc pc = .ok (.checkcast index, 3)) (kk : W p l e R s m args below meth c H locs cells slots Q (F0 m (pc + 3) ls (.ref a :: rest))) : W p l e R s m args below meth c H locs cells slots Q (F0 m pc ls (.ref a :: rest)) := by
  subst hc
  exact va_castY hx hb hown hlink (hK.2.2.1 (_, _) (List.mem_of_getElem? (i := 4) rfl)) (va_recv hK.1 hT (ci := 1) (q0 := 0) rfl rfl) hdg kk
theorem cast_S (hx : p.tables.exec = Jvm.exec) (hb : c.code = cc) (hown : s.vm.findClass own = some m.cls) (hlink : (Cond.classLink own index "SumSmith$Square").before args s = true) (hK : KK G cs s) (hT : va_P G vwCl [(a, .inr (c1, fs))] H) (hc : c1 = 4) (hdg : decode cc pc = .ok (.checkcast index, 3)) (kk : W p l e R s m args below meth c H locs cells slots Q (F0 m (pc + 3) ls (.ref a :: rest))) : W p l e R s m args below meth c H locs cells slots Q (F0 m pc ls (.ref a :: rest)) := by
  subst hc
  exact va_castY hx hb hown hlink (hK.2.2.1 (_, _) (List.mem_of_getElem? (i := 5) rfl)) (va_recv hK.1 hT (ci := 4) (q0 := 0) rfl rfl) hdg kk
theorem get_kind {w : Nat} {sd : SD} {Ts : List Cond} (hx : p.tables.exec = Jvm.exec) (hb : c.code = cc) (hts : ∀ w ∈ Ts, w.before args s = true) (h1 : ∀ w ∈ wsX10, w ∈ Ts) (h5 : ∀ w ∈ wsX50, w ∈ Ts) (h8 : ∀ w ∈ wsX80, w ∈ Ts) (h9 : ∀ w ∈ wsX90, w ∈ Ts) (h10 : ∀ w ∈ wsX100, w ∈ Ts) (hown : s.vm.findClass own = some m.cls) (hK : KK G cs s) (hT : va_P G vwCl [(a, .inr (sd.1, sdF w sd))] H) (hv : sd.1 = 8 ∨ sd.1 = 7 ∨ sd.1 = 6 ∨ sd.1 = 1 ∨ sd.1 = 4) (hlink : (Cond.fieldLink own index "SumSmith$Sum" "kind" "I").before args s = true) (hdg : decode cc pc = .ok (.getfield index, 3)) (kk : W p l e R s m args below meth c H locs cells slots Q (F0 m (pc + 3) ls (.int sd.2.1 :: rest))) : W p l e R s m args below meth c H locs cells slots Q (F0 m pc ls (.ref a :: rest)) := by
  obtain ⟨c2, sd⟩ := sd
  rcases hv with rfl | rfl | rfl | rfl | rfl
  · exact va_get (D := G) (ci := 8) (C := RX10) (T := TX10) (N := 3) hx hb hts h10 hown hK.1 hT 0 rfl rfl 0 (by decide) hlink (fun _ h9 => h9) rfl hdg kk
  · exact va_get (D := G) (ci := 7) (C := RX9) (T := TX9) (N := 2) hx hb hts h9 hown hK.1 hT 0 rfl rfl 0 (by decide) hlink (fun _ h9 => h9) rfl hdg kk
  · exact va_get (D := G) (ci := 6) (C := RX8) (T := TX8) (N := 3) hx hb hts h8 hown hK.1 hT 0 rfl rfl 0 (by decide) hlink (fun _ h9 => h9) rfl hdg kk
  · exact va_get (D := G) (ci := 1) (C := RX1) (T := TX1) (N := 6) hx hb hts h1 hown hK.1 hT 0 rfl rfl 0 (by decide) hlink (fun _ h9 => h9) rfl hdg kk
  · exact va_get (D := G) (ci := 4) (C := RX5) (T := TX5) (N := 3) hx hb hts h5 hown hK.1 hT 0 rfl rfl 0 (by decide) hlink (fun _ h9 => h9) rfl hdg kk
end KI
section KC
variable {p : Program} {l : Launch} {e : Env} {R : Room} {s : State} {m : MethodId} {args a : Array Value} {below : List Frame} {meth : Method} {c : Code} {H : Heap} {locs : List Loc} {cells slots mc ms pc : Nat} {Q : State → Prop} {G : va_G} {cs : CS} {A : Nat → Prop} {ws wc wr w1 : va_W} {ls : Array Slot} {st0 rest : List Value} {E : Prop} {cc : ByteArray}
abbrev QI (G : va_G) (r0 : Int32) (E : Prop) (w1 : va_W) (A : Nat → Prop) : Array Value → State → Outcome → State → Prop := va_Qi (fun (r : Int32) (_ : Unit) => r = r0 ∧ E) (PostW G A w1) A
abbrev QL (G : va_G) (r0 : Int64) (w1 : va_W) (A : Nat → Prop) : Array Value → State → Outcome → State → Prop := va_Ql (fun (r : Int64) (_ : Unit) => r = r0) (PostW G A w1) A
abbrev QQ (G : va_G) (r0 : Option Nat) (w1 : va_W) (A : Nat → Prop) : Array Value → State → Outcome → State → Prop := va_Qq (fun (r : Option Nat) (_ : Unit) => r = r0) (PostW G A w1) A
abbrev QC (G : va_G) (h0 : Nat) (wf : (Nat → Nat) → va_W) (A : Nat → Prop) : Array Value → State → Outcome → State → Prop := va_Qv (fun (u : Nat → Nat) => u 0 = h0) (fun u t => va_P G vwCl (wf u) t.heap ∧ va_D A (wf u)) A
abbrev QV (G : va_G) (w1 : va_W) (A : Nat → Prop) : Array Value → State → Outcome → State → Prop := va_Qv (fun (_ : Unit) => True) (PostW G A w1) A
theorem va_all {A0 : Nat → Prop} {H0 : Heap} (hD : va_D A0 ws) (hS : va_S A0 H0 H locs) (hA : ∀ q, H0.size ≤ q → A0 q) : ∀ q, va_A ws H.size q → A0 q := fun q h => by
  rcases h with ⟨k, e, hk⟩ | h
  · exact hD.2 k _ hk
  · exact hA q (Nat.le_trans hS.1 h)
theorem va_new0 {A0 : Nat → Prop} {H0 : Heap} (hS : va_S A0 H0 H locs) (hA : ∀ q, H0.size ≤ q → A0 q) : ∀ q, va_A [] H.size q → A0 q := fun q h => by
  rcases h with ⟨k, e, hk⟩ | h
  · simp at hk
  · exact hA q (Nat.le_trans hS.1 h)
theorem P0 {H : Heap} : va_P G vwCl [] H := fun k q h => by simp at h
theorem D0 {A : Nat → Prop} : va_D A [] := ⟨fun i j p q h => by simp at h, fun k q h => by simp at h⟩
theorem kept0 {H1 : Heap} (hP : va_P G vwCl ws H) (hk : ∀ q, q < H.size → ¬ va_A [] H.size q → H1[q]? = H[q]?) : va_P G vwCl ws H1 := hP.kept (fun k q hq => hk q.1 (hP k q hq).lt (fun h => by
  rcases h with ⟨k, e, h⟩ | h
  · simp at h
  · exact absurd (hP _ q hq).lt (Nat.not_lt.mpr h)))
-- the callee has the whole world
theorem k_calli {r0 : Int32} (hr : va_Run p l e R s m args below meth c H locs cells slots mc ms (F0 m pc ls st0) rest (QI G r0 E w1 (va_A ws H.size) a) (va_A ws H.size)) (hS : va_S A s.heap H locs) (hF : ∀ q, va_A ws H.size q → A q)
    (kk : E → ∀ (H1 : Heap) (locs1 : List Loc), va_P G vwCl w1 H1 → va_D A w1 → va_S A s.heap H1 locs1 → W p l e R s m args below meth c H1 locs1 (cells + mc) (slots + ms) Q (F0 m (pc + 3) ls (.int r0 :: rest))) : W p l e R s m args below meth c H locs cells slots Q (F0 m pc ls st0) :=
  va_calli hr hS (fun q _ h => hF q h) hF (fun r u t H1 locs1 ht hvm hw hB hz hk hS1 => by
    obtain ⟨hw, hE⟩ := hw
    subst hw; subst ht
    exact kk hE _ _ hB.1 (hB.2.weaken (fun _ _ _ h => hF _ h)) hS1)
theorem k_calll {r0 : Int64} (hr : va_Run p l e R s m args below meth c H locs cells slots mc ms (F0 m pc ls st0) rest (QL G r0 w1 (va_A ws H.size) a) (va_A ws H.size)) (hS : va_S A s.heap H locs) (hF : ∀ q, va_A ws H.size q → A q)
    (kk : ∀ (H1 : Heap) (locs1 : List Loc), va_P G vwCl w1 H1 → va_D A w1 → va_S A s.heap H1 locs1 → W p l e R s m args below meth c H1 locs1 (cells + mc) (slots + ms) Q (F0 m (pc + 3) ls (.long r0 :: rest))) : W p l e R s m args below meth c H locs cells slots Q (F0 m pc ls st0) :=
  va_calll hr hS (fun q _ h => hF q h) hF (fun r u t H1 locs1 ht hvm hw hB hz hk hS1 => by
    subst hw; subst ht
    exact kk _ _ hB.1 (hB.2.weaken (fun _ _ _ h => hF _ h)) hS1)
theorem k_callv (hr : va_Run p l e R s m args below meth c H locs cells slots mc ms (F0 m pc ls st0) rest (QV G w1 (va_A ws H.size) a) (va_A ws H.size)) (hS : va_S A s.heap H locs) (hF : ∀ q, va_A ws H.size q → A q)
    (kk : ∀ (H1 : Heap) (locs1 : List Loc), va_P G vwCl w1 H1 → va_D A w1 → va_S A s.heap H1 locs1 → W p l e R s m args below meth c H1 locs1 (cells + mc) (slots + ms) Q (F0 m (pc + 3) ls rest)) : W p l e R s m args below meth c H locs cells slots Q (F0 m pc ls st0) :=
  va_callv hr hS (fun q _ h => hF q h) hF (fun u t H1 locs1 ht hvm hw hB hz hk hS1 => by
    subst ht
    exact kk _ _ hB.1 (hB.2.weaken (fun _ _ _ h => hF _ h)) hS1)
theorem k_callq {r0 : Option Nat} (hr : va_Run p l e R s m args below meth c H locs cells slots mc ms (F0 m pc ls st0) rest (QQ G r0 w1 (va_A ws H.size) a) (va_A ws H.size)) (hS : va_S A s.heap H locs) (hF : ∀ q, va_A ws H.size q → A q)
    (kk : ∀ (H1 : Heap) (locs1 : List Loc), va_P G vwCl w1 H1 → va_D A w1 → va_S A s.heap H1 locs1 → W p l e R s m args below meth c H1 locs1 (cells + mc) (slots + ms) Q (F0 m (pc + 3) ls (va_rf r0 :: rest))) : W p l e R s m args below meth c H locs cells slots Q (F0 m pc ls st0) :=
  va_callq hr hS (fun q _ h => hF q h) hF (fun r u t H1 locs1 ht hvm hw hB hz hk hS1 => by
    subst hw; subst ht
    exact kk _ _ hB.1 (hB.2.weaken (fun _ _ _ h => hF _ h)) hS1)
-- the callee has nothing of the world
theorem k_calli0 {r0 : Int32} (hr : va_Run p l e R s m args below meth c H locs cells slots mc ms (F0 m pc ls st0) rest (QI G r0 E [] (va_A [] H.size) a) (va_A [] H.size)) (hP : va_P G vwCl ws H) (hS : va_S A s.heap H locs) (hA : ∀ q, s.heap.size ≤ q → A q)
    (kk : E → ∀ (H1 : Heap) (locs1 : List Loc), va_P G vwCl ws H1 → va_S A s.heap H1 locs1 → W p l e R s m args below meth c H1 locs1 (cells + mc) (slots + ms) Q (F0 m (pc + 3) ls (.int r0 :: rest))) : W p l e R s m args below meth c H locs cells slots Q (F0 m pc ls st0) :=
  va_calli hr hS (fun q _ h => va_new0 hS hA q h) (va_new0 hS hA) (fun r u t H1 locs1 ht hvm hw hB hz hk hS1 => by
    obtain ⟨hw, hE⟩ := hw
    subst hw; subst ht
    exact kk hE _ _ (kept0 hP hk) hS1)
theorem k_callv0 (hr : va_Run p l e R s m args below meth c H locs cells slots mc ms (F0 m pc ls st0) rest (QV G [] (va_A [] H.size) a) (va_A [] H.size)) (hP : va_P G vwCl ws H) (hS : va_S A s.heap H locs) (hA : ∀ q, s.heap.size ≤ q → A q)
    (kk : ∀ (H1 : Heap) (locs1 : List Loc), va_P G vwCl ws H1 → va_S A s.heap H1 locs1 → W p l e R s m args below meth c H1 locs1 (cells + mc) (slots + ms) Q (F0 m (pc + 3) ls rest)) : W p l e R s m args below meth c H locs cells slots Q (F0 m pc ls st0) :=
  va_callv hr hS (fun q _ h => va_new0 hS hA q h) (va_new0 hS hA) (fun u t H1 locs1 ht hvm hw hB hz hk hS1 => by
    subst ht
    exact kk _ _ (kept0 hP hk) hS1)
theorem k_calll0 {r0 : Int64} (hr : va_Run p l e R s m args below meth c H locs cells slots mc ms (F0 m pc ls st0) rest (QL G r0 [] (va_A [] H.size) a) (va_A [] H.size)) (hP : va_P G vwCl ws H) (hS : va_S A s.heap H locs) (hA : ∀ q, s.heap.size ≤ q → A q)
    (kk : ∀ (H1 : Heap) (locs1 : List Loc), va_P G vwCl ws H1 → va_S A s.heap H1 locs1 → W p l e R s m args below meth c H1 locs1 (cells + mc) (slots + ms) Q (F0 m (pc + 3) ls (.long r0 :: rest))) : W p l e R s m args below meth c H locs cells slots Q (F0 m pc ls st0) :=
  va_calll hr hS (fun q _ h => va_new0 hS hA q h) (va_new0 hS hA) (fun r u t H1 locs1 ht hvm hw hB hz hk hS1 => by
    subst hw; subst ht
    exact kk _ _ (kept0 hP hk) hS1)
-- the callee has a part of the world
theorem k_callij {r0 : Int32} {w2 : va_W} (hr : va_Run p l e R s m args below meth c H locs cells slots mc ms (F0 m pc ls st0) rest (QI G r0 E w1 (va_A wc H.size) a) (va_A wc H.size)) (hP : va_P G vwCl ws H) (hD : va_D A ws) (hS : va_S A s.heap H locs) (hA : ∀ q, s.heap.size ≤ q → A q) (isC isR perm : List Nat) (hC : isC.map (fun i => ws[i]?) = wc.map some) (hR : isR.map (fun i => ws[i]?) = wr.map some) (hn : va_nd isR = true) (hdis : ∀ i ∈ isR, i ∉ isC) (hp : perm.map (fun i => (wr ++ w1)[i]?) = w2.map some) (hpn : va_nd perm = true)
    (kk : E → ∀ (H1 : Heap) (locs1 : List Loc), va_P G vwCl w2 H1 → va_D A w2 → va_S A s.heap H1 locs1 → W p l e R s m args below meth c H1 locs1 (cells + mc) (slots + ms) Q (F0 m (pc + 3) ls (.int r0 :: rest))) : W p l e R s m args below meth c H locs cells slots Q (F0 m pc ls st0) :=
  va_calli hr hS (fun q _ h => va_free hD hS hA isC hC q h) (va_free hD hS hA isC hC) (fun r u t H1 locs1 ht hvm hw hB hz hk hS1 => by
    obtain ⟨hw, hE⟩ := hw; subst hw; subst ht
    obtain ⟨hP2, hD2⟩ := va_join hP hD isC isR hC hR hn hdis hk (va_free hD hS hA isC hC) hB.1 hB.2
    exact kk hE _ _ (P_by hP2 perm hp) (hD2.sub perm hpn hp) hS1)
theorem k_calllj {r0 : Int64} {w2 : va_W} (hr : va_Run p l e R s m args below meth c H locs cells slots mc ms (F0 m pc ls st0) rest (QL G r0 w1 (va_A wc H.size) a) (va_A wc H.size)) (hP : va_P G vwCl ws H) (hD : va_D A ws) (hS : va_S A s.heap H locs) (hA : ∀ q, s.heap.size ≤ q → A q) (isC isR perm : List Nat) (hC : isC.map (fun i => ws[i]?) = wc.map some) (hR : isR.map (fun i => ws[i]?) = wr.map some) (hn : va_nd isR = true) (hdis : ∀ i ∈ isR, i ∉ isC) (hp : perm.map (fun i => (wr ++ w1)[i]?) = w2.map some) (hpn : va_nd perm = true)
    (kk : ∀ (H1 : Heap) (locs1 : List Loc), va_P G vwCl w2 H1 → va_D A w2 → va_S A s.heap H1 locs1 → W p l e R s m args below meth c H1 locs1 (cells + mc) (slots + ms) Q (F0 m (pc + 3) ls (.long r0 :: rest))) : W p l e R s m args below meth c H locs cells slots Q (F0 m pc ls st0) :=
  va_calll hr hS (fun q _ h => va_free hD hS hA isC hC q h) (va_free hD hS hA isC hC) (fun r u t H1 locs1 ht hvm hw hB hz hk hS1 => by
    subst hw; subst ht
    obtain ⟨hP2, hD2⟩ := va_join hP hD isC isR hC hR hn hdis hk (va_free hD hS hA isC hC) hB.1 hB.2
    exact kk _ _ (P_by hP2 perm hp) (hD2.sub perm hpn hp) hS1)
theorem k_callvj {w2 : va_W} (hr : va_Run p l e R s m args below meth c H locs cells slots mc ms (F0 m pc ls st0) rest (QV G w1 (va_A wc H.size) a) (va_A wc H.size)) (hP : va_P G vwCl ws H) (hD : va_D A ws) (hS : va_S A s.heap H locs) (hA : ∀ q, s.heap.size ≤ q → A q) (isC isR perm : List Nat) (hC : isC.map (fun i => ws[i]?) = wc.map some) (hR : isR.map (fun i => ws[i]?) = wr.map some) (hn : va_nd isR = true) (hdis : ∀ i ∈ isR, i ∉ isC) (hp : perm.map (fun i => (wr ++ w1)[i]?) = w2.map some) (hpn : va_nd perm = true)
    (kk : ∀ (H1 : Heap) (locs1 : List Loc), va_P G vwCl w2 H1 → va_D A w2 → va_S A s.heap H1 locs1 → W p l e R s m args below meth c H1 locs1 (cells + mc) (slots + ms) Q (F0 m (pc + 3) ls (rest))) : W p l e R s m args below meth c H locs cells slots Q (F0 m pc ls st0) :=
  va_callv hr hS (fun q _ h => va_free hD hS hA isC hC q h) (va_free hD hS hA isC hC) (fun u t H1 locs1 ht hvm hw hB hz hk hS1 => by
    subst ht
    obtain ⟨hP2, hD2⟩ := va_join hP hD isC isR hC hR hn hdis hk (va_free hD hS hA isC hC) hB.1 hB.2
    exact kk _ _ (P_by hP2 perm hp) (hD2.sub perm hpn hp) hS1)
theorem k_callcj {h0 : Nat} {wf : (Nat → Nat) → va_W} (hr : va_Run p l e R s m args below meth c H locs cells slots mc ms (F0 m pc ls st0) rest (QC G h0 wf (va_A wc H.size) a) (va_A wc H.size)) (hP : va_P G vwCl ws H) (hD : va_D A ws) (hS : va_S A s.heap H locs) (hA : ∀ q, s.heap.size ≤ q → A q) (isC isR : List Nat) (hC : isC.map (fun i => ws[i]?) = wc.map some) (hR : isR.map (fun i => ws[i]?) = wr.map some) (hn : va_nd isR = true) (hdis : ∀ i ∈ isR, i ∉ isC)
    (kk : ∀ (u : Nat → Nat) (H1 : Heap) (locs1 : List Loc), u 0 = h0 → va_P G vwCl (wr ++ wf u) H1 → va_D A (wr ++ wf u) → va_S A s.heap H1 locs1 → W p l e R s m args below meth c H1 locs1 (cells + mc) (slots + ms) Q (F0 m (pc + 3) ls rest)) : W p l e R s m args below meth c H locs cells slots Q (F0 m pc ls st0) :=
  va_callv hr hS (fun q _ h => va_free hD hS hA isC hC q h) (va_free hD hS hA isC hC) (fun u t H1 locs1 ht hvm hw hB hz hk hS1 => by
    subst ht
    obtain ⟨hP2, hD2⟩ := va_join hP hD isC isR hC hR hn hdis hk (va_free hD hS hA isC hC) hB.1 hB.2
    exact kk u _ _ hw hP2 hD2 hS1)
theorem same_cls {tys : List (ClassId × FieldType)} {i k : Nat} {c1 c2 : ClassId} {ty : FieldType} (hK : va_K G vwCl tys s) (h1 : tys[i]? = some (c1, ty)) (h2 : tys[k]? = some (c2, ty)) : c1 = c2 := by
  have a1 := (hK.2 i _ h1).2
  have a2 := (hK.2 k _ h2).2
  cases ty with
  | object C =>
    obtain ⟨_, _, _, _, _, e1⟩ := a1
    obtain ⟨_, _, _, _, _, e2⟩ := a2
    exact Option.some.inj (e1.symm.trans e2)
  | _ => exact Option.some.inj ((show s.vm.findClass _ = some c1 from a1).symm.trans a2)
theorem k_newI {n : Int32} {N' : Nat} (hx : p.tables.exec = Jvm.exec) (hb : c.code = cc) (harr : (Cond.arrayClass .int).before args s = true) (hK : KK G cs s) (hP : va_P G vwCl ws H) (hD : va_D A ws) (hS : va_S A s.heap H locs) (hA : ∀ q, s.heap.size ≤ q → A q) (hn : ¬ n < 0) (hN : n.toNatClampNeg = N') (hbytes : N' * componentBytes .int ≤ 536870912) (hcells : cells + 1 ≤ R.cells) (hslots : slots + N' ≤ R.slots) (hdg : decode cc pc = .ok (.newarray .int, 2))
    (kk : ∀ (q : Nat) (H1 : Heap), va_P G vwCl (ws ++ [(q, .inl (cs.1, N', .inl (fun _ => 0)))]) H1 → va_D A (ws ++ [(q, .inl (cs.1, N', .inl (fun _ => 0)))]) → va_S A s.heap H1 locs → W p l e R s m args below meth c H1 locs (cells + 1) (slots + N') Q (F0 m (pc + 2) ls (.ref q :: rest))) : W p l e R s m args below meth c H locs cells slots Q (F0 m pc ls (.int n :: rest)) :=
  va_newa (atype := .int) (ty := .int) (a0 := (N', .inl (fun _ => 0))) hx hb harr rfl hK.1 hP hD hS hA (fun _ => rfl) hn hN hbytes hcells hslots hdg (fun q cA H1 hK1 hP1 hD1 hS1 => by
    have e := same_cls (i := 0) (k := 4) hK1 rfl rfl
    subst e
    exact kk q H1 hP1 hD1 hS1)
theorem k_newJ {n : Int32} {N' : Nat} (hx : p.tables.exec = Jvm.exec) (hb : c.code = cc) (harr : (Cond.arrayClass .long).before args s = true) (hK : KK G cs s) (hP : va_P G vwCl ws H) (hD : va_D A ws) (hS : va_S A s.heap H locs) (hA : ∀ q, s.heap.size ≤ q → A q) (hn : ¬ n < 0) (hN : n.toNatClampNeg = N') (hbytes : N' * componentBytes .long ≤ 536870912) (hcells : cells + 1 ≤ R.cells) (hslots : slots + N' ≤ R.slots) (hdg : decode cc pc = .ok (.newarray .long, 2))
    (kk : ∀ (q : Nat) (H1 : Heap), va_P G vwCl (ws ++ [(q, .inl (cs.2.1, N', .inr (.inl (fun _ => 0))))]) H1 → va_D A (ws ++ [(q, .inl (cs.2.1, N', .inr (.inl (fun _ => 0))))]) → va_S A s.heap H1 locs → W p l e R s m args below meth c H1 locs (cells + 1) (slots + N') Q (F0 m (pc + 2) ls (.ref q :: rest))) : W p l e R s m args below meth c H locs cells slots Q (F0 m pc ls (.int n :: rest)) :=
  va_newa (atype := .long) (ty := .long) (a0 := (N', .inr (.inl (fun _ => 0)))) hx hb harr rfl hK.1 hP hD hS hA (fun _ => rfl) hn hN hbytes hcells hslots hdg (fun q cA H1 hK1 hP1 hD1 hS1 => by
    have e := same_cls (i := 1) (k := 4) hK1 rfl rfl
    subst e
    exact kk q H1 hP1 hD1 hS1)
theorem k_newZ {n : Int32} {N' : Nat} (hx : p.tables.exec = Jvm.exec) (hb : c.code = cc) (harr : (Cond.arrayClass .boolean).before args s = true) (hK : KK G cs s) (hP : va_P G vwCl ws H) (hD : va_D A ws) (hS : va_S A s.heap H locs) (hA : ∀ q, s.heap.size ≤ q → A q) (hn : ¬ n < 0) (hN : n.toNatClampNeg = N') (hbytes : N' * componentBytes .boolean ≤ 536870912) (hcells : cells + 1 ≤ R.cells) (hslots : slots + N' ≤ R.slots) (hdg : decode cc pc = .ok (.newarray .boolean, 2))
    (kk : ∀ (q : Nat) (H1 : Heap), va_P G vwCl (ws ++ [(q, .inl (cs.2.2.1, N', .inl (fun _ => 0)))]) H1 → va_D A (ws ++ [(q, .inl (cs.2.2.1, N', .inl (fun _ => 0)))]) → va_S A s.heap H1 locs → W p l e R s m args below meth c H1 locs (cells + 1) (slots + N') Q (F0 m (pc + 2) ls (.ref q :: rest))) : W p l e R s m args below meth c H locs cells slots Q (F0 m pc ls (.int n :: rest)) :=
  va_newa (atype := .boolean) (ty := .boolean) (a0 := (N', .inl (fun _ => 0))) hx hb harr rfl hK.1 hP hD hS hA (fun _ => rfl) hn hN hbytes hcells hslots hdg (fun q cA H1 hK1 hP1 hD1 hS1 => by
    have e := same_cls (i := 2) (k := 4) hK1 rfl rfl
    subst e
    exact kk q H1 hP1 hD1 hS1)
theorem k_newR {n : Int32} {N' : Nat} {own : String} {index : Nat} (hx : p.tables.exec = Jvm.exec) (hb : c.code = cc) (hown : s.vm.findClass own = some m.cls) (hlink : (Cond.classLink own index "SumSmith$Sum").before args s = true) (hK : KK G cs s) (hP : va_P G vwCl ws H) (hD : va_D A ws) (hS : va_S A s.heap H locs) (hA : ∀ q, s.heap.size ≤ q → A q) (hn : ¬ n < 0) (hN : n.toNatClampNeg = N') (hbytes : N' * 4 ≤ 536870912) (hcells : cells + 1 ≤ R.cells) (hslots : slots + N' ≤ R.slots) (hdg : decode cc pc = .ok (.anewarray index, 3))
    (kk : ∀ (q : Nat) (H1 : Heap), va_P G vwCl (ws ++ [(q, .inl (cs.2.2.2, N', .inr (.inr (.inr (.inr (roA RN))))))]) H1 → va_D A (ws ++ [(q, .inl (cs.2.2.2, N', .inr (.inr (.inr (.inr (roA RN))))))]) → va_S A s.heap H1 locs → W p l e R s m args below meth c H1 locs (cells + 1) (slots + N') Q (F0 m (pc + 3) ls (.ref q :: rest))) : W p l e R s m args below meth c H locs cells slots Q (F0 m pc ls (.int n :: rest)) :=
  va_newq (C := "SumSmith$Sum") hx hb hown hlink hK.2.2.2.2.2 hK.1 hP hD hS hA hn hN hbytes hcells hslots hdg (fun q cA H1 hK1 hP1 hD1 hS1 => by
    have e := same_cls (i := 3) (k := 4) hK1 rfl rfl
    subst e
    exact kk q H1 hP1 hD1 hS1)
-- returns
theorem k_cret {h0 : Nat} {wf : (Nat → Nat) → va_W} (q : Nat → Nat) (hx : p.tables.exec = Jvm.exec) (hb : c.code = cc) (hr : meth.sig.returnType = none) (hlocks : meth.locks = false) (hq : q 0 = h0) (hP : va_P G vwCl (wf q) H) (hD : va_D A (wf q)) (hS : va_S A s.heap H locs) (hdg : decode cc pc = .ok (.return_, 1)) : W p l e R s m args below meth c H locs cells slots (MQ below (QC G h0 wf A) args s cells slots A) (F0 m pc ls []) :=
  W.vret hx hb hr (fun t ht _ => ⟨⟨q, rfl, hq, by rw [ht]; exact hP, hD⟩, hS.F ht⟩) hS.2.2 hdg hlocks
theorem k_iret {r0 v : Int32} (hx : p.tables.exec = Jvm.exec) (hb : c.code = cc) (hr : meth.sig.returnType = some .int) (hlocks : meth.locks = false) (hP : va_P G vwCl w1 H) (hD : va_D A w1) (hS : va_S A s.heap H locs) (hv : v = r0) (hE : E) (hdg : decode cc pc = .ok (.ireturn, 1)) : W p l e R s m args below meth c H locs cells slots (MQ below (QI G r0 E w1 A) args s cells slots A) (F0 m pc ls [.int v]) :=
  W.iret (v := v) hx hb hr (fun t ht _ => ⟨⟨v, (), rfl, ⟨hv, hE⟩, by rw [ht]; exact hP, hD⟩, hS.F ht⟩) hS.2.2 hdg hlocks
theorem bool_nar {v : Int32} (h : v = 0 ∨ v = 1) : narrow .boolean (.int v) = .int v := by rcases h with rfl | rfl <;> decide
theorem bool_fit {v : Int32} (h : v = 0 ∨ v = 1) : fits .boolean (.int v) = true := by rcases h with rfl | rfl <;> decide
theorem k_zret {r0 v : Int32} (hx : p.tables.exec = Jvm.exec) (hb : c.code = cc) (hr : meth.sig.returnType = some .boolean) (hlocks : meth.locks = false) (hP : va_P G vwCl w1 H) (hD : va_D A w1) (hS : va_S A s.heap H locs) (hv : v = r0) (hE : v = 0 ∨ v = 1) (hdg : decode cc pc = .ok (.ireturn, 1)) : W p l e R s m args below meth c H locs cells slots (MQ below (QI G r0 (r0 = 0 ∨ r0 = 1) w1 A) args s cells slots A) (F0 m pc ls [.int v]) :=
  W.zret (v := v) hx hb hr (bool_nar hE) (fun t ht _ => ⟨⟨v, (), rfl, ⟨hv, hv ▸ hE⟩, by rw [ht]; exact hP, hD⟩, hS.F ht⟩) hS.2.2 hdg hlocks
theorem k_lret {r0 v : Int64} (hx : p.tables.exec = Jvm.exec) (hb : c.code = cc) (hr : meth.sig.returnType = some .long) (hlocks : meth.locks = false) (hP : va_P G vwCl w1 H) (hD : va_D A w1) (hS : va_S A s.heap H locs) (hv : v = r0) (hdg : decode cc pc = .ok (.lreturn, 1)) : W p l e R s m args below meth c H locs cells slots (MQ below (QL G r0 w1 A) args s cells slots A) (F0 m pc ls [.long v]) :=
  W.lret (v := v) hx hb hr (fun t ht _ => ⟨⟨v, (), rfl, hv, by rw [ht]; exact hP, hD⟩, hS.F ht⟩) hS.2.2 hdg hlocks
theorem rf_or (r : Option Nat) : va_rf r = .null ∨ ∃ a, va_rf r = .ref a := by
  cases r with
  | none => exact Or.inl rfl
  | some a => exact Or.inr ⟨a, rfl⟩
theorem k_aret {r0 : Option Nat} {v : Value} {C : String} (hx : p.tables.exec = Jvm.exec) (hb : c.code = cc) (hr : meth.sig.returnType = some (.object C)) (hlocks : meth.locks = false) (hP : va_P G vwCl w1 H) (hD : va_D A w1) (hS : va_S A s.heap H locs) (hv : v = va_rf r0) (hdg : decode cc pc = .ok (.areturn, 1)) : W p l e R s m args below meth c H locs cells slots (MQ below (QQ G r0 w1 A) args s cells slots A) (F0 m pc ls [v]) :=
  W.aret (v := v) hx hb hr (Or.inl ⟨C, rfl⟩) (by rw [hv]; exact rf_or r0) (fun t ht _ => ⟨⟨r0, (), by rw [hv], rfl, by rw [ht]; exact hP, hD⟩, hS.F ht⟩) hS.2.2 hdg hlocks
theorem k_vret (hx : p.tables.exec = Jvm.exec) (hb : c.code = cc) (hr : meth.sig.returnType = none) (hlocks : meth.locks = false) (hP : va_P G vwCl w1 H) (hD : va_D A w1) (hS : va_S A s.heap H locs) (hdg : decode cc pc = .ok (.return_, 1)) : W p l e R s m args below meth c H locs cells slots (MQ below (QV G w1 A) args s cells slots A) (F0 m pc ls []) :=
  W.vret hx hb hr (fun t ht _ => ⟨⟨(), rfl, trivial, by rw [ht]; exact hP, hD⟩, hS.F ht⟩) hS.2.2 hdg hlocks
end KC
theorem Met.ofWF {l : Launch} {y : MethodName} {ws ws' : List Cond} {rm : Room} {Pc : Array Value → State → Prop} {Qc : Array Value → State → Outcome → State → Prop} {mc ms : Nat} {free : Addr → Prop} {cc : ByteArray} {maxL : Nat} {ret : Option FieldType}
    (hy : plainFor y = true) (hw : ws = Cond.code y cc maxL ret :: ws')
    (body : ∀ p e s m args below meth c s₁, BodyLoose p l y (headSpec ws rm) cc maxL ret e s m args below meth c s₁ → c.maxLocals = maxL → Pc args s →
      W p l e (headSpec ws rm).room s m args below meth c s.heap [] 0 0 (MQ below Qc args s mc ms free) (entryFrame m args maxL)) : Met l y ws rm Pc Qc mc ms free := by
  refine MetFree.of_bodySF (code := cc) (maxLocals := maxL) (ret := ret) hy ?_ ?_
  · intro args s m h hn
    obtain ⟨meth, c, h1, h2, h3, h4, h5, h6, -, -⟩ := Cond.code_spec hn (atoms_spec (ws := ws) h _ (by rw [hw]; exact List.mem_cons_self))
    exact ⟨meth, c, h1, h2, h3, h4, h5, h6⟩
  · intro p e s m args below meth c s₁ B hml hP _
    have hh0 : s₁.heap = s.heap := by rw [B.state]; rfl
    obtain ⟨t, a1, o, b1, b2, b3⟩ := body p e s m args below meth c s₁ B hml hP s₁ hh0 (Stand.of_body B)
    exact ⟨t, o, a1, b1, b2, ⟨b3.1, b3.2⟩⟩
/-- a contract's walk from the entry -/
theorem k_enter {l : Launch} {y : MethodName} {ws ws' : List Cond} {rm : Room} {cc : ByteArray} {maxL : Nat} {ret : Option FieldType} {mc ms : Nat} {G : va_G} {cs : CS} {sz : Nat} {W0 : va_W} {ro : RF} {av : List Value} {Qf : (Nat → Prop) → Array Value → State → Outcome → State → Prop}
    (hy : plainFor y = true) (hw : ws = Cond.code y cc maxL ret :: ws') (hlen : (lg_sl av).length ≤ maxL)
    (body : ∀ (p : Program) (e : Env) (s : State) (m : MethodId) (args : Array Value) (below : List Frame) (meth : Method) (c : Code) (A : Nat → Prop) (Q : State → Prop) (ls : Array Slot) (H : Heap) (locs : List Loc), p.tables.exec = Jvm.exec → c.code = cc → meth.sig.returnType = ret → c.maxLocals = maxL → s.vm.findClass y.cls = some m.cls → (∀ w ∈ ws, w.before args s = true) → meth.locks = false → meth.name = y.name → KK G cs s → (∀ q, s.heap.size ≤ q → A q) → RO G ro A s s.heap → va_P G vwCl W0 H → va_D A W0 → va_S A s.heap H locs → Q = MQ below (Qf A) args s mc ms A → lv_has ls maxL (lv_args 0 av) →
      W p l e rm s m args below meth c H locs 0 0 Q (F0 m 0 ls [])) :
    Met l y ws rm (va_Pc av (PreW G cs sz W0 ro)) (Qf (va_A W0 sz)) mc ms (va_A W0 sz) := by
  refine Met.ofWF (cc := cc) (maxL := maxL) (ret := ret) hy hw ?_
  intro p e s m args below meth c s₁ B hml hv
  obtain ⟨rfl, hsz, hP, hK, hD0, hR⟩ := hv
  subst hsz
  have hl := lv_entry av (n := maxL) hlen
  rw [lg_entry_eq]
  exact body p e s m _ below meth c _ _ _ _ _ B.exec B.bytes B.returns hml (findClass_of_methodNamed B.named) (atoms_spec (ws := ws) B.pre) B.notSynchronized (name_of_methodNamed B.named B.method).1 hK (fun q h => Or.inr h) hR hP hD0.self va_S.rf rfl hl
