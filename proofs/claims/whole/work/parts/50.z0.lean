/-! constructors: rows -/
section
variable {p : Program} {l : Launch} {e : Env} {R : Room} {s : State} {m : MethodId} {args : Array Value} {below : List Frame} {meth : Method} {c : Code} {H : Heap} {locs : List Loc} {cells slots : Nat} {Q : State → Prop} {pc : Nat} {ls : Array Slot} {rest : List Value} {D : va_G} {A : Nat → Prop} {ws : va_W} {H0 : Heap} {tys : List (ClassId × FieldType)} {cI cT : ClassId}
theorem jz_newi {cc : ByteArray} (hx : p.tables.exec = Jvm.exec) (hb : c.code = cc) (harr : (Cond.arrayClass .int).before args s = true) (hK : va_K D vwCl tys s) (hcI : tys[0]? = some (cI, .int)) (hP : va_P D vwCl ws H) (hD : va_D A ws) (hS : va_S A H0 H locs) (hA : ∀ q, H0.size ≤ q → A q) {n : Int32} (N' : Nat) (hn : ¬ n < 0) (hN : n.toNatClampNeg = N') (hbytes : N' ≤ 100) (hcells : cells + 1 ≤ R.cells) (hslots : slots + N' ≤ R.slots) (hdg : decode cc pc = .ok (.newarray .int, 2))
    (kk : ∀ (q : Nat) (H1 : Heap), va_P D vwCl (ws ++ [(q, .inl (cI, N', .inl jz_0))]) H1 → va_D A (ws ++ [(q, .inl (cI, N', .inl jz_0))]) → va_S A H0 H1 locs → W p l e R s m args below meth c H1 locs (cells + 1) (slots + N') Q (F0 m (pc + 2) ls (.ref q :: rest))) : W p l e R s m args below meth c H locs cells slots Q (F0 m pc ls (.int n :: rest)) := by
  refine va_newa (atype := .int) (ty := .int) (a0 := (N', .inl jz_0)) hx hb harr rfl hK hP hD hS hA (fun _ => rfl) hn hN (by show N' * 4 ≤ 536870912; omega) hcells hslots hdg (fun q cA H1 hK1 hP1 hD1 hS1 => ?_)
  have e : cA = cI := by
    have h1 : s.vm.findClass ("[" ++ (FieldType.int).toString) = some cA := (hK1.2 tys.length (cA, .int) (by rw [List.getElem?_append_right (Nat.le_refl _), Nat.sub_self]; rfl)).2
    have h2 : s.vm.findClass ("[" ++ (FieldType.int).toString) = some cI := (hK.2 0 _ hcI).2
    exact Option.some.inj (h1.symm.trans h2)
  subst e
  exact kk q H1 hP1 hD1 hS1
theorem jz_newb {cc : ByteArray} (hx : p.tables.exec = Jvm.exec) (hb : c.code = cc) (harr : (Cond.arrayClass .boolean).before args s = true) (hK : va_K D vwCl tys s) (hcT : tys[1]? = some (cT, .boolean)) (hP : va_P D vwCl ws H) (hD : va_D A ws) (hS : va_S A H0 H locs) (hA : ∀ q, H0.size ≤ q → A q) {n : Int32} (N' : Nat) (hn : ¬ n < 0) (hN : n.toNatClampNeg = N') (hbytes : N' ≤ 100) (hcells : cells + 1 ≤ R.cells) (hslots : slots + N' ≤ R.slots) (hdg : decode cc pc = .ok (.newarray .boolean, 2))
    (kk : ∀ (q : Nat) (H1 : Heap), va_P D vwCl (ws ++ [(q, .inl (cT, N', .inl jz_0))]) H1 → va_D A (ws ++ [(q, .inl (cT, N', .inl jz_0))]) → va_S A H0 H1 locs → W p l e R s m args below meth c H1 locs (cells + 1) (slots + N') Q (F0 m (pc + 2) ls (.ref q :: rest))) : W p l e R s m args below meth c H locs cells slots Q (F0 m pc ls (.int n :: rest)) := by
  refine va_newa (atype := .boolean) (ty := .boolean) (a0 := (N', .inl jz_0)) hx hb harr rfl hK hP hD hS hA (fun _ => rfl) hn hN (by show N' * 1 ≤ 536870912; omega) hcells hslots hdg (fun q cA H1 hK1 hP1 hD1 hS1 => ?_)
  have e : cA = cT := by
    have h1 : s.vm.findClass ("[" ++ (FieldType.boolean).toString) = some cA := (hK1.2 tys.length (cA, .boolean) (by rw [List.getElem?_append_right (Nat.le_refl _), Nat.sub_self]; rfl)).2
    have h2 : s.vm.findClass ("[" ++ (FieldType.boolean).toString) = some cT := (hK.2 1 _ hcT).2
    exact Option.some.inj (h1.symm.trans h2)
  subst e
  exact kk q H1 hP1 hD1 hS1
theorem jz_mna {cc : ByteArray} (hexec : p.tables.exec = Jvm.exec) (hb : c.code = cc) {own : String} {index : Nat} (hown : s.vm.findClass own = some m.cls) (hclink : (Cond.classLink own index "[[I").before args s = true) (hover : jz_AO s) (harr : (Cond.arrayClass .int).before args s = true)
    (hK : va_K D vwCl tys s) (hcI : tys[0]? = some (cI, .int)) (hcT : tys[1]? = some (cT, .array .int)) (hP : va_P D vwCl ws H) (hD : va_D A ws) (hS : va_S A H0 H locs) (hA : ∀ q, H0.size ≤ q → A q) (hcells : cells + 5 ≤ R.cells) (hslots : slots + 84 ≤ R.slots) (hdg : decode cc pc = .ok (.multianewarray index 2, 4))
    (kk : ∀ (q : Nat) (r : Nat → Nat) (H1 : Heap),
      va_P D vwCl (ws ++ [(q, .inl (cT, 4, .inr (.inr (.inr (.inr (fun i => if i < 4 then some (r i) else none)))))), (r 0, .inl (cI, 20, .inl jz_0)), (r 1, .inl (cI, 20, .inl jz_0)), (r 2, .inl (cI, 20, .inl jz_0)), (r 3, .inl (cI, 20, .inl jz_0))]) H1 → va_D A (ws ++ [(q, .inl (cT, 4, .inr (.inr (.inr (.inr (fun i => if i < 4 then some (r i) else none)))))), (r 0, .inl (cI, 20, .inl jz_0)), (r 1, .inl (cI, 20, .inl jz_0)), (r 2, .inl (cI, 20, .inl jz_0)), (r 3, .inl (cI, 20, .inl jz_0))]) → va_S A H0 H1 locs →
      W p l e R s m args below meth c H1 locs (cells + 5) (slots + 84) Q (F0 m (pc + 4) ls (.ref q :: rest))) : W p l e R s m args below meth c H locs cells slots Q (F0 m pc ls (.int 20 :: .int 4 :: rest)) := by
  intro T hT Xs
  subst hb
  obtain ⟨cT2, cI2, S0, F, fC, fA, hS0, ⟨X', -, f1, f2, f3, f4⟩, step⟩ := jz_mnaS Xs hexec hown hclink hover harr (ls := ls) (rest := rest) hdg hcells hslots
  have ec : cI = cI2 := Option.some.inj (((hK.2 0 _ hcI).2 : s.vm.findClass ("[" ++ (FieldType.int).toString) = some cI).symm.trans fC)
  have eA : cT = cT2 := Option.some.inj (((hK.2 1 _ hcT).2 : s.vm.findClass ("[" ++ (FieldType.array .int).toString) = some cT).symm.trans fA)
  subst ec
  subst eA
  have hTh : S0.heap = H := hS0.trans hT
  rw [hTh] at f1 f2
  have hold : ∀ x : Nat, x < H.size → F.heap[x]? = H[x]? := fun x hx => by
    have := f4 x (by rw [hTh]; exact hx)
    rw [hTh] at this
    exact this
  have hrow : ∀ j : Nat, j < 4 → F.heap[H.size + 1 + j]? = some (vp_cell cI (20, .inl jz_0)) := fun j hj => by
    have := f3 j hj
    rw [hTh] at this
    exact this
  have hP0 : va_P D vwCl ws F.heap := hP.kept (fun k9 x hx => hold x.1 ((hP k9 x hx).lt))
  have hP2 := hP0.app (w2 := [(H.size, .inl (cT, 4, .inr (.inr (.inr (.inr (fun i => if i < 4 then some (H.size + 1 + i) else none)))))), (H.size + 1 + 0, .inl (cI, 20, .inl jz_0)), (H.size + 1 + 1, .inl (cI, 20, .inl jz_0)), (H.size + 1 + 2, .inl (cI, 20, .inl jz_0)), (H.size + 1 + 3, .inl (cI, 20, .inl jz_0))]) (fun k9 x hx => by
    have h0 : k9 < 5 := (List.getElem?_eq_some_iff.mp hx).1
    rcases (show k9 = 0 ∨ k9 = 1 ∨ k9 = 2 ∨ k9 = 3 ∨ k9 = 4 by omega) with q | q | q | q | q
    · subst q
      cases hx
      exact f2
    · subst q
      cases hx
      exact hrow 0 (by omega)
    · subst q
      cases hx
      exact hrow 1 (by omega)
    · subst q
      cases hx
      exact hrow 2 (by omega)
    · subst q
      cases hx
      exact hrow 3 (by omega))
  have hD2 : va_D A (ws ++ [(H.size, .inl (cT, 4, .inr (.inr (.inr (.inr (fun i => if i < 4 then some (H.size + 1 + i) else none)))))), (H.size + 1 + 0, .inl (cI, 20, .inl jz_0)), (H.size + 1 + 1, .inl (cI, 20, .inl jz_0)), (H.size + 1 + 2, .inl (cI, 20, .inl jz_0)), (H.size + 1 + 3, .inl (cI, 20, .inl jz_0))]) := by
    generalize hz : ([(H.size, .inl (cT, 4, .inr (.inr (.inr (.inr (fun i => if i < 4 then some (H.size + 1 + i) else none)))))), (H.size + 1 + 0, .inl (cI, 20, .inl jz_0)), (H.size + 1 + 1, .inl (cI, 20, .inl jz_0)), (H.size + 1 + 2, .inl (cI, 20, .inl jz_0)), (H.size + 1 + 3, .inl (cI, 20, .inl jz_0))] : va_W) = zs
    have hr : ∀ (k9 : Nat) (x : Nat × va_E), zs[k9]? = some x → x.1 = H.size + k9 := fun k9 x hx => by
      subst hz
      have h0 : k9 < 5 := (List.getElem?_eq_some_iff.mp hx).1
      rcases (show k9 = 0 ∨ k9 = 1 ∨ k9 = 2 ∨ k9 = 3 ∨ k9 = 4 by omega) with q | q | q | q | q
      all_goals
        subst q
        cases hx
        rfl
    have hle : ∀ (k9 : Nat) (x : Nat × va_E), ws[k9]? = some x → x.1 < H.size := fun k9 x hx => (hP k9 x hx).lt
    refine ⟨fun i j x y hi hj hxy => ?_, fun k9 x hx => ?_⟩
    · by_cases h1 : i < ws.length <;> by_cases h2 : j < ws.length
      · rw [List.getElem?_append_left h1] at hi
        rw [List.getElem?_append_left h2] at hj
        exact hD.1 i j x y hi hj hxy
      · rw [List.getElem?_append_left h1] at hi
        rw [List.getElem?_append_right (by omega)] at hj
        have := hle _ _ hi
        have := hr _ _ hj
        omega
      · rw [List.getElem?_append_right (by omega)] at hi
        rw [List.getElem?_append_left h2] at hj
        have := hle _ _ hj
        have := hr _ _ hi
        omega
      · rw [List.getElem?_append_right (by omega)] at hi hj
        have := hr _ _ hi
        have := hr _ _ hj
        omega
    · by_cases h1 : k9 < ws.length
      · rw [List.getElem?_append_left h1] at hx
        exact hD.2 k9 x hx
      · rw [List.getElem?_append_right (by omega)] at hx
        have := hr _ _ hx
        exact hA _ (by have := hS.1; omega)
  obtain ⟨t, a1, b1⟩ := kk H.size (fun i => H.size + 1 + i) F.heap hP2 hD2 ⟨by rw [f1]; have := hS.1; omega, fun x h1 h2 => (hold x (Nat.lt_of_lt_of_le h1 hS.1)).trans (hS.2.1 x h1 h2), hS.2.2⟩ F rfl X'
  refine ⟨t, step t ?_, b1⟩
  have e : T.heap.size = H.size := by rw [hT]
  rw [e]
  exact a1
end
