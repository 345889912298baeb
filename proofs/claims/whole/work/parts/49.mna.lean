/-! rows of rows: the instruction multianewarray at the counts 4 and 20, over the model itself (nothing of Shelf42) -/
def jz_0 : Nat → Int32 := fun _ => 0
/-- what the tables know of int[][]: its class, found by its name, is the array class over the class of int[] -/
def jz_AO (U : State) : Prop := ∃ (cA comp : ClassId) (k : Class), U.vm.findClass ("[" ++ (FieldType.int).toString) = some comp ∧ U.vm.findClass ("[" ++ (FieldType.array .int).toString) = some cA ∧ U.vm.classes[cA]? = some k ∧ k.kind = .array comp (.array .int)
theorem jz_AO.moved {u U : State} (hvm : u.vm.Alike U.vm) (h : jz_AO u) : jz_AO U := by
  obtain ⟨cA, comp, k, h1, h2, h3, h4⟩ := h
  obtain ⟨k', hk', he⟩ := hvm.2.2 _ _ h3
  exact ⟨cA, comp, k', by rw [hvm.findClass]; exact h1, by rw [hvm.findClass]; exact h2, hk', by rw [he]; exact h4⟩
theorem jz_AO.of {A : Array Value} {U : State} (h : (Cond.arrayOver (.array .int)).before A U = true) : jz_AO U := by
  simp only [Cond.before, Cond.holds, Cond.value, beq_iff_eq] at h
  cases hc : U.vm.findClass (FieldType.array .int).toString with
  | none => simp [hc] at h
  | some comp =>
    simp only [hc, Option.bind_some, Option.bind_eq_some_iff, Option.map_eq_some_iff] at h
    obtain ⟨q, hi, k, hk, hb⟩ := h
    obtain ⟨hlt, hp, -⟩ := Array.findIdx?_eq_some_iff_getElem.mp hi
    rw [(Array.getElem?_eq_some_iff.mp hk).2] at hp
    cases hkind : k.kind with
    | array c1 ty =>
      rw [hkind] at hb hp
      simp at hb hp
      exact ⟨q, comp, k, hc, hb.2, hk, by rw [hkind, hp, hb.1]⟩
    | _ =>
      rw [hkind] at hp
      simp at hp
theorem jz_upd (h i : Nat) : updV (fun j => va_rf (if j < i then some (h + 1 + j) else none)) i (.ref (h + 1 + i)) = (fun j => va_rf (if j < i + 1 then some (h + 1 + j) else none)) := by
  refine funext fun j => ?_
  by_cases e : j = i
  · subst e
    simp [updV, va_rf]
  · by_cases q : j < i
    · simp [updV, e, q, Nat.lt_succ_of_lt q]
    · simp [updV, e, q, show ¬ j < i + 1 by omega]
theorem jz_bind {α β : Type} (t : Sem α) (g : α → Sem β) (Q : β → Pre) (E : CtlPost) (e : Env) : wp (t >>= g) Q E e = wp t (fun a => wp (g a) Q E e) E e := funext fun d => funext fun acts => funext fun s => wp_bind' t g Q E e d acts s
theorem jz_pure {α : Type} (a : α) (Q : α → Pre) (E : CtlPost) (e : Env) : wp (Pure.pure a : Sem α) Q E e = Q a := funext fun d => funext fun acts => funext fun s => wp_pure' Q E e d acts s a
section
variable {p : Program} {l : Launch} {e : Env} {R : Room} {s : State} {m : MethodId} {args : Array Value} {below : List Frame} {meth : Method} {c : Code} {locs : List Loc} {cells slots : Nat}
theorem jz_wpnew {E : CtlPost} {d : Bool} {acts : List Action} {S : State} {f : JFrame} {cA comp : ClassId} {k : Class} {ty : FieldType} {len : Nat} {v : Value} {Q : Addr → Pre}
    (hk : S.vm.classes[cA]? = some k) (hkind : k.kind = .array comp ty) (hfit : fits ty v = true) (hl : ¬ len > e.platform.arrayLengthLimit) (hb : ¬ len * componentBytes ty > e.platform.maxHeapBytes)
    (h1 : S.heap.size + 1 ≤ e.platform.maxCells) (h2 : S.slotsUsed + len ≤ e.platform.maxSlots) (hq : ∀ a1 : List Action, Q S.heap.size d a1 ((S.pushCell (arrV cA len (fun _ => v))).setTop f)) : wp (Jvm.newArray cA len v) Q E e d acts (S.setTop f) := by
  simp only [Jvm.newArray, Jvm.arrayFits, wp_bind', Jvm.W.ask, Jvm.W.ite, hl, if_false, wp_pure', Jvm.W.theClass, State.vm_setTop, hk, hkind, hb, Option.some.injEq, exists_eq_left', Jvm.W.alloc, Jvm.W.stop]
  rw [if_neg (by omega)]
  refine ⟨h1, ?_, fun i x hx => ?_, ?_⟩
  · rw [Array.size_replicate]
    exact h2
  · rw [Array.getElem?_replicate] at hx
    split at hx
    · cases hx
      simp [State.fitsSlot, State.slotType?, hk, hkind, hfit]
    · cases hx
  · rw [arrV_new]
    exact hq _
def jz_G (p : Program) (l : Launch) (e : Env) (R : Room) (s : State) (m : MethodId) (args : Array Value) (below : List Frame) (meth : Method) (c : Code) (locs : List Loc) (cells slots : Nat) (cT cI : ClassId) (S0 : State) (i : Nat) (S : State) : Prop :=
  Stand p l e R s m args below meth c S locs (cells + 1 + i) (slots + 4 + 20 * i) ∧ S.vm = S0.vm ∧ S.heap.size = S0.heap.size + 1 + i ∧
    S.heap[S0.heap.size]? = some (arrV cT 4 (fun j => va_rf (if j < i then some (S0.heap.size + 1 + j) else none))) ∧
    (∀ j : Nat, j < i → S.heap[S0.heap.size + 1 + j]? = some (arrV cI 20 (fun _ => .int 0))) ∧ ∀ x : Nat, x < S0.heap.size → S.heap[x]? = S0.heap[x]?
theorem jz_row {S0 S : State} {cT cI cc : ClassId} {kT kI : Class} {i : Nat} (hT : S0.vm.classes[cT]? = some kT) (hkT : kT.kind = .array cI (.array .int)) (hI : S0.vm.classes[cI]? = some kI) (hkI : kI.kind = .array cc .int)
    (h0 : s.heap.size ≤ S0.heap.size) (hcells : cells + 5 ≤ R.cells) (hslots : slots + 84 ≤ R.slots) (hi : i < 4) (G : jz_G p l e R s m args below meth c locs cells slots cT cI S0 i S) :
    ∃ S1 : State, jz_G p l e R s m args below meth c locs cells slots cT cI S0 (i + 1) S1 ∧ ∀ (f : JFrame) (E : CtlPost) (d : Bool) (acts : List Action) (Q : Unit → Pre), (∀ (d1 : Bool) (a1 : List Action), Q () d1 a1 (S1.setTop f)) →
      wp (multianewarray.make cI [20]) (fun r => wp (Jvm.writeLoc S0.heap.size i (.ref r)) Q E e) E e d acts (S.setTop f) := by
  obtain ⟨X, g1, g2, g3, g4, g5⟩ := G
  have hT1 : S.vm.classes[cT]? = some kT := by rw [g1]; exact hT
  have hI1 : S.vm.classes[cI]? = some kI := by rw [g1]; exact hI
  obtain ⟨r1, r2⟩ := X.roomAbove (a := 1) (b := 20) (by omega) (by omega)
  have hlt : S0.heap.size < S.heap.size := by omega
  have X1 := X.pushed (arrV cI 20 (fun _ => .int 0))
  rw [arrV_size] at X1
  have c1 : (S.pushCell (arrV cI 20 (fun _ => .int 0))).heap[S0.heap.size]? = some (arrV cT 4 (fun j => va_rf (if j < i then some (S0.heap.size + 1 + j) else none))) := (State.heap_pushCell_of_lt _ _ hlt).trans g3
  have X2 := (X1.stored c1 i (.ref S.heap.size)).dropFresh (J := [⟨S0.heap.size, i⟩]) (fun x hx => by
    rw [List.mem_singleton.mp hx]
    exact h0)
  have eo : (arrV cT 4 (fun j => va_rf (if j < i then some (S0.heap.size + 1 + j) else none))).setSlot i (.ref S.heap.size) = arrV cT 4 (fun j => va_rf (if j < i + 1 then some (S0.heap.size + 1 + j) else none)) := by
    rw [arrV_store, g2, jz_upd]
  refine ⟨(S.pushCell (arrV cI 20 (fun _ => .int 0))).setCell S0.heap.size ((arrV cT 4 (fun j => va_rf (if j < i then some (S0.heap.size + 1 + j) else none))).setSlot i (.ref S.heap.size)), ⟨?_, g1, ?_, ?_, fun j hj => ?_, fun x hx => ?_⟩, fun f E d acts Q hq => ?_⟩
  · rw [show cells + 1 + (i + 1) = cells + 1 + i + 1 by omega, show slots + 4 + 20 * (i + 1) = slots + 4 + 20 * i + 20 by omega]
    exact X2
  · show ((S.heap.push _).setIfInBounds _ _).size = _
    rw [Array.size_setIfInBounds, Array.size_push]
    omega
  · rw [State.heap_setCell_self c1, eo]
  · rw [State.heap_setCell_other (show S0.heap.size ≠ S0.heap.size + 1 + j by omega)]
    by_cases q : j = i
    · subst q
      rw [← g2]
      exact State.heap_pushCell_size _ _
    · rw [State.heap_pushCell_of_lt _ _ (show S0.heap.size + 1 + j < S.heap.size by omega)]
      exact g4 j (by omega)
  · rw [State.heap_setCell_other (show S0.heap.size ≠ x by omega), State.heap_pushCell_of_lt _ _ (show x < S.heap.size by omega)]
    exact g5 x hx
  · have n20 : (20 : Int32).toNatClampNeg = 20 := by decide
    rw [multianewarray.make]
    simp only [wp_bind', Jvm.W.ite, show ¬ (20 : Int32) < 0 by decide, if_false, wp_pure', Jvm.W.theClass, State.vm_setTop, hI1, hkI, Option.some.injEq, exists_eq_left', n20]
    refine jz_wpnew hI1 hkI rfl (by rw [Launch.admits_arrayLengthLimit X.admits]; decide) (by rw [Launch.admits_maxHeapBytes X.admits]; decide) r1 r2 (fun a1 => ?_)
    refine (Jvm.W.writeLoc _ _ _ _).mpr ⟨_, c1, ?_, ?_, ?_, hq _ _⟩
    · exact fun q => by cases q
    · rw [arrV_size]
      exact hi
    · show (S.pushCell (arrV cI 20 (fun _ => .int 0))).fitsSlot cT .none i (.ref S.heap.size) = true
      simp [State.fitsSlot, State.slotType?, hT1, hkT, fits]
theorem jz_make {S0 : State} {cT cI cc : ClassId} {kT kI : Class} (X : Stand p l e R s m args below meth c S0 locs cells slots) (hT : S0.vm.classes[cT]? = some kT) (hkT : kT.kind = .array cI (.array .int)) (hI : S0.vm.classes[cI]? = some kI) (hkI : kI.kind = .array cc .int)
    (hcells : cells + 5 ≤ R.cells) (hslots : slots + 84 ≤ R.slots) :
    ∃ S1 : State, jz_G p l e R s m args below meth c locs cells slots cT cI S0 4 S1 ∧ ∀ (f : JFrame) (E : CtlPost) (d : Bool) (acts : List Action) (Q : Addr → Pre), (∀ (d1 : Bool) (a1 : List Action), Q S0.heap.size d1 a1 (S1.setTop f)) →
      wp (multianewarray.make cT [4, 20]) Q E e d acts (S0.setTop f) := by
  have h0 : s.heap.size ≤ S0.heap.size := X.same.2.1
  obtain ⟨r1, r2⟩ := X.roomAbove (a := 1) (b := 4) (by omega) (by omega)
  have X1 := X.pushed (arrV cT 4 (fun _ => .null))
  rw [arrV_size] at X1
  have G0 : jz_G p l e R s m args below meth c locs cells slots cT cI S0 0 (S0.pushCell (arrV cT 4 (fun _ => .null))) := by
    refine ⟨X1, rfl, ?_, ?_, fun j hj => absurd hj (Nat.not_lt_zero j), fun x hx => State.heap_pushCell_of_lt _ _ hx⟩
    · show (S0.heap.push _).size = _
      rw [Array.size_push]
    · rw [State.heap_pushCell_size]
      refine congrArg some (congrArg (arrV cT 4) (funext fun j => ?_))
      simp [va_rf]
  obtain ⟨S1, G1, w1⟩ := jz_row hT hkT hI hkI h0 hcells hslots (by decide) G0
  obtain ⟨S2, G2, w2⟩ := jz_row hT hkT hI hkI h0 hcells hslots (by decide) G1
  obtain ⟨S3, G3, w3⟩ := jz_row hT hkT hI hkI h0 hcells hslots (by decide) G2
  obtain ⟨S4, G4, w4⟩ := jz_row hT hkT hI hkI h0 hcells hslots (by decide) G3
  refine ⟨S4, G4, fun f E d acts Q hq => ?_⟩
  have n4 : (4 : Int32).toNatClampNeg = 4 := by decide
  have hr : List.range' 0 ([:4] : Std.Legacy.Range).size 1 = [0, 1, 2, 3] := by decide
  rw [multianewarray.make]
  simp only [wp_bind', Jvm.W.ite, show ¬ (4 : Int32) < 0 by decide, show ((4 : Int32) == 0) = false by decide, Bool.false_eq_true, if_false, wp_pure', Jvm.W.theClass, State.vm_setTop, hT, hkT, Option.some.injEq, exists_eq_left', n4]
  refine jz_wpnew hT hkT rfl (by rw [Launch.admits_arrayLengthLimit X.admits]; decide) (by rw [Launch.admits_maxHeapBytes X.admits]; decide) r1 r2 (fun a1 => ?_)
  rw [Std.Legacy.Range.forIn_eq_forIn_range']
  simp only [hr, List.forIn_cons, List.forIn_nil, jz_bind, jz_pure]
  refine w1 _ _ _ _ _ (fun d1 b1 => ?_)
  refine w2 _ _ _ _ _ (fun d2 b2 => ?_)
  refine w3 _ _ _ _ _ (fun d3 b3 => ?_)
  refine w4 _ _ _ _ _ (fun d4 b4 => ?_)
  exact hq _ _
theorem jz_mnaS {T : State} (X : Stand p l e R s m args below meth c T locs cells slots) (hexec : p.tables.exec = Jvm.exec) {own : String} {index : Nat} (hown : s.vm.findClass own = some m.cls) (hclink : (Cond.classLink own index "[[I").before args s = true) (hover : jz_AO s) (harr : (Cond.arrayClass .int).before args s = true)
    {pc : Nat} {ls : Array Slot} {rest : List Value} (hdg : decode c.code pc = .ok (.multianewarray index 2, 4)) (hcells : cells + 5 ≤ R.cells) (hslots : slots + 84 ≤ R.slots) :
    ∃ (cT cI : ClassId) (S0 S1 : State), s.vm.findClass ("[" ++ (FieldType.int).toString) = some cI ∧ s.vm.findClass ("[" ++ (FieldType.array .int).toString) = some cT ∧ S0.heap = T.heap ∧ jz_G p l e R s m args below meth c locs cells slots cT cI S0 4 S1 ∧
      ∀ t : State, Steps p.tables e below (S1.setTop (F0 m (pc + 4) ls (.ref T.heap.size :: rest))) t → Steps p.tables e below (T.setTop (F0 m pc ls (.int 20 :: .int 4 :: rest))) t := by
  obtain ⟨cT, cI, kT, f1, f2, f3, f4⟩ := hover
  obtain ⟨cI', kI, cc, f5, f6, f7⟩ := Cond.arrayClass_spec harr
  cases f1.symm.trans f5
  have hpl : e.platform.magicAccessors = ({} : Platform).magicAccessors := by rw [X.admits.platform]
  obtain ⟨cT', f8, hcl⟩ := Cond.classLink_spec hown hclink e.platform hpl
  have eT : cT = cT' := Option.some.inj (f2.symm.trans f8)
  subst eT
  obtain ⟨hg1, hw1, hr1⟩ := State.classEntry (e := e) X.warmed hcl
  have hsz : (T.vm.noted m.cls index (.cls cT)).classes.size ≤ T.vm.classes.size := Nat.le_of_eq (Vm.size_noted _ _ _ _)
  generalize T.vm.noted m.cls index (.cls cT) = vm1 at hg1 hw1 hr1 hsz
  have hal : s.vm.Alike vm1 := hw1.alike
  obtain ⟨kT1, hT1, eT1⟩ := hal.2.2 _ _ f3
  obtain ⟨kI1, hI1, eI1⟩ := hal.2.2 _ _ f6
  obtain ⟨S1, G, hw⟩ := jz_make (X.noted hw1) hT1 (by rw [eT1]; exact f4) hI1 (by rw [eI1]; exact f7) hcells hslots
  refine ⟨cT, cI, T.setVm vm1, S1, f1, f2, rfl, G, fun t ht => ?_⟩
  have htop : (T.setVm vm1).topJava?.isSome := X.here.top
  have htop1 : S1.topJava?.isSome := G.1.here.top
  refine Steps.instr (c := c) X.here ?_
  rw [show decode c.code (F0 m pc ls (.int 20 :: .int 4 :: rest)).pc = _ from hdg, hexec]
  show wp (multianewarray.sem index 2) _ _ e false [] (T.setTop (F0 m pc ls (.int 20 :: .int 4 :: rest)))
  simp only [multianewarray.sem, jz_bind]
  refine (Jvm.W.resolveClassAt_transfer (s := T.setTop (F0 m pc ls (.int 20 :: .int 4 :: rest))) (State.method?_setTop _ X.here.top) hg1 hr1 hsz).mpr ?_
  refine (Jvm.W.resolveClassAt_ready (s := (T.setVm vm1).setTop (F0 m pc ls (.int 20 :: .int 4 :: rest))) (State.method?_setTop _ htop) hr1).mpr ?_
  refine (popN_top (s := T.setVm vm1) (f := F0 m pc ls (.int 20 :: .int 4 :: rest)) (args := [.int 4, .int 20]) (rest := rest) htop rfl).mpr ?_
  simp only [List.mapM_cons, List.mapM_nil, jz_bind, jz_pure]
  refine hw _ _ _ _ _ (fun d1 a1 => ?_)
  simp only [Jvm.W.mark, Jvm.W.pushRef, State.topJava?_setTop' _ htop1, Option.some.injEq, exists_eq_left', State.setTop_setTop]
  intro a2
  rw [afterInstr_ok]
  exact ht
end
