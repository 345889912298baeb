/-! constructors: Sight, Reader, Trial -/
set_option maxHeartbeats 4000000 in
set_option maxRecDepth 100000 in
theorem jz_c_X2 (l : Launch) (D : va_G) (cI cT : ClassId) (h0 bd sz : Nat) : Met l yX2_init wsX2_init ({ frames := 1, cells := 4, slots := 32, locals := 12 }) (va_Pc [.ref h0, .ref bd] (fun U => U.heap.size = sz ∧ va_P D vwCl [(h0, .inr (2, [.null, .null, .null, .null, .null, .int 0]))] U.heap ∧ va_K D vwCl (jx_ty cI cT) U ∧ va_D (fun _ => True) [(h0, .inr (2, [.null, .null, .null, .null, .null, .int 0]))])) (va_Qv (fun (_ : Unit) => True) (fun _ t => ∃ (q1 : Nat) (q2 : Nat) (q3 : Nat) (q4 : Nat), va_P D vwCl [(h0, .inr (2, [.ref bd, .ref q1, .ref q2, .ref q3, .ref q4, .int 0])), (q1, .inl (cI, 4, .inl jz_0)), (q2, .inl (cI, 4, .inl jz_0)), (q3, .inl (cI, 4, .inl jz_0)), (q4, .inl (cI, 20, .inl jz_0))] t.heap ∧ va_D (va_A [(h0, .inr (2, [.null, .null, .null, .null, .null, .int 0]))] sz) [(h0, .inr (2, [.ref bd, .ref q1, .ref q2, .ref q3, .ref q4, .int 0])), (q1, .inl (cI, 4, .inl jz_0)), (q2, .inl (cI, 4, .inl jz_0)), (q3, .inl (cI, 4, .inl jz_0)), (q4, .inl (cI, 20, .inl jz_0))]) (va_A [(h0, .inr (2, [.null, .null, .null, .null, .null, .int 0]))] sz)) 4 32 (va_A [(h0, .inr (2, [.null, .null, .null, .null, .null, .int 0]))] sz) := by
  refine Met.ofW (cc := cX2_init) (maxL := 2) (ret := none) (by decide) rfl ?_
  intro p e s m args below meth c s₁ BB hml hv
  obtain ⟨rfl, hsz, hP, hK, hD0⟩ := hv
  have hx := BB.exec
  have hb := BB.bytes
  have hr := BB.returns
  have hts := atoms_spec (ws := wsX2_init) BB.pre
  have hown : s.vm.findClass RX2 = some m.cls := findClass_of_methodNamed BB.named
  have hlocks := BB.notSynchronized
  have hin : meth.name = "<init>" := (name_of_methodNamed BB.named BB.method).1
  subst hsz
  have hD := hD0.self (sz := s.heap.size)
  generalize hAe : va_A [(h0, .inr (2, [.null, .null, .null, .null, .null, .int 0]))] s.heap.size = A at hD ⊢
  have hA : ∀ q : Nat, s.heap.size ≤ q → A q := fun q h => by rw [← hAe]; exact Or.inr h
  have hS : va_S A s.heap s.heap [] := va_S.rf
  have hP : va_P D vwCl [(h0, .inr (2, [.null, .null, .null, .null, .null, .int 0]))] s.heap := hP
  have hl := lv_entry ([.ref h0, .ref bd]) (n := 2) (Nat.le_of_ble_eq_true rfl)
  rw [lg_entry_eq]
  generalize (lg_sl ([.ref h0, .ref bd]) ++ List.replicate (2 - (lg_sl ([.ref h0, .ref bd])).length) Slot.unset).toArray = ls at hl ⊢
  have hl : lv_has ls 2 [(0, .ref h0), (1, .ref bd)] := hl
  have hiX2 : ∀ w ∈ wsX20, w ∈ wsX2_init := by decide +kernel
  refine lv_aload_n hx hb dX2_init_0 rfl (lv_at hl 0 rfl) ?_
  refine W.objInit hx hb hown (hts (.methodLink RX2 3 objectInit) (by decide +kernel)) (hts (.instanceMethod objectInit) (by decide +kernel)) (hts _ (List.mem_of_getElem? (i := 3) rfl)) rfl (by rw [hml]; exact hl.1) rfl dX2_init_1 (Nat.le_of_ble_eq_true rfl) (Nat.le_of_ble_eq_true rfl) ?_
  refine W.eq (g2 := F0 m 4 ls []) rfl ?_
  refine lv_aload_n hx hb dX2_init_4 rfl (lv_at hl 0 rfl) ?_
  refine lv_iconst (v := 4) hx hb dX2_init_5 (by decide) ?_
  refine jz_newi hx hb (hts (.arrayClass .int) (by decide +kernel)) hK rfl hP hD hS hA 4 (by decide) (by decide) (by decide) (Nat.le_of_ble_eq_true rfl) (Nat.le_of_ble_eq_true rfl) dX2_init_6 (fun q1 H hP hD hS => ?_)
  have hP : va_P D vwCl [(h0, .inr (2, [.null, .null, .null, .null, .null, .int 0])), (q1, .inl (cI, 4, .inl jz_0))] H := hP
  have hD : va_D A [(h0, .inr (2, [.null, .null, .null, .null, .null, .int 0])), (q1, .inl (cI, 4, .inl jz_0))] := hD
  refine va_putF (D := D) (ci := 2) (v := .ref q1) (ty := .array .int) (C := RX2) (T := TX2) (N := 6) hx hb hts hiX2 tyX2 tyX2_ok nmX2 hown hK hP hD hS 0 rfl rfl 1 (by decide) (hts (.fieldLink RX2 9 "JudgesLists$Sight" "depths" "[I") (by decide +kernel)) (fun _ h9 => h9) rfl hin rfl (by decide +kernel) rfl rfl (Nat.le_of_ble_eq_true rfl) dX2_init_8 (fun H locs hP hD hS => ?_)
  have hP : va_P D vwCl [(h0, .inr (2, [.null, .ref q1, .null, .null, .null, .int 0])), (q1, .inl (cI, 4, .inl jz_0))] H := hP
  have hD : va_D A [(h0, .inr (2, [.null, .ref q1, .null, .null, .null, .int 0])), (q1, .inl (cI, 4, .inl jz_0))] := hD
  refine lv_aload_n hx hb dX2_init_11 rfl (lv_at hl 0 rfl) ?_
  refine lv_iconst (v := 4) hx hb dX2_init_12 (by decide) ?_
  refine jz_newi hx hb (hts (.arrayClass .int) (by decide +kernel)) hK rfl hP hD hS hA 4 (by decide) (by decide) (by decide) (Nat.le_of_ble_eq_true rfl) (Nat.le_of_ble_eq_true rfl) dX2_init_13 (fun q2 H hP hD hS => ?_)
  have hP : va_P D vwCl [(h0, .inr (2, [.null, .ref q1, .null, .null, .null, .int 0])), (q1, .inl (cI, 4, .inl jz_0)), (q2, .inl (cI, 4, .inl jz_0))] H := hP
  have hD : va_D A [(h0, .inr (2, [.null, .ref q1, .null, .null, .null, .int 0])), (q1, .inl (cI, 4, .inl jz_0)), (q2, .inl (cI, 4, .inl jz_0))] := hD
  refine va_putF (D := D) (ci := 2) (v := .ref q2) (ty := .array .int) (C := RX2) (T := TX2) (N := 6) hx hb hts hiX2 tyX2 tyX2_ok nmX2 hown hK hP hD hS 0 rfl rfl 2 (by decide) (hts (.fieldLink RX2 15 "JudgesLists$Sight" "lookedUp" "[I") (by decide +kernel)) (fun _ h9 => h9) rfl hin rfl (by decide +kernel) rfl rfl (Nat.le_of_ble_eq_true rfl) dX2_init_15 (fun H locs hP hD hS => ?_)
  have hP : va_P D vwCl [(h0, .inr (2, [.null, .ref q1, .ref q2, .null, .null, .int 0])), (q1, .inl (cI, 4, .inl jz_0)), (q2, .inl (cI, 4, .inl jz_0))] H := hP
  have hD : va_D A [(h0, .inr (2, [.null, .ref q1, .ref q2, .null, .null, .int 0])), (q1, .inl (cI, 4, .inl jz_0)), (q2, .inl (cI, 4, .inl jz_0))] := hD
  refine lv_aload_n hx hb dX2_init_18 rfl (lv_at hl 0 rfl) ?_
  refine lv_iconst (v := 4) hx hb dX2_init_19 (by decide) ?_
  refine jz_newi hx hb (hts (.arrayClass .int) (by decide +kernel)) hK rfl hP hD hS hA 4 (by decide) (by decide) (by decide) (Nat.le_of_ble_eq_true rfl) (Nat.le_of_ble_eq_true rfl) dX2_init_20 (fun q3 H hP hD hS => ?_)
  have hP : va_P D vwCl [(h0, .inr (2, [.null, .ref q1, .ref q2, .null, .null, .int 0])), (q1, .inl (cI, 4, .inl jz_0)), (q2, .inl (cI, 4, .inl jz_0)), (q3, .inl (cI, 4, .inl jz_0))] H := hP
  have hD : va_D A [(h0, .inr (2, [.null, .ref q1, .ref q2, .null, .null, .int 0])), (q1, .inl (cI, 4, .inl jz_0)), (q2, .inl (cI, 4, .inl jz_0)), (q3, .inl (cI, 4, .inl jz_0))] := hD
  refine va_putF (D := D) (ci := 2) (v := .ref q3) (ty := .array .int) (C := RX2) (T := TX2) (N := 6) hx hb hts hiX2 tyX2 tyX2_ok nmX2 hown hK hP hD hS 0 rfl rfl 3 (by decide) (hts (.fieldLink RX2 18 "JudgesLists$Sight" "ofOneThing" "[I") (by decide +kernel)) (fun _ h9 => h9) rfl hin rfl (by decide +kernel) rfl rfl (Nat.le_of_ble_eq_true rfl) dX2_init_22 (fun H locs hP hD hS => ?_)
  have hP : va_P D vwCl [(h0, .inr (2, [.null, .ref q1, .ref q2, .ref q3, .null, .int 0])), (q1, .inl (cI, 4, .inl jz_0)), (q2, .inl (cI, 4, .inl jz_0)), (q3, .inl (cI, 4, .inl jz_0))] H := hP
  have hD : va_D A [(h0, .inr (2, [.null, .ref q1, .ref q2, .ref q3, .null, .int 0])), (q1, .inl (cI, 4, .inl jz_0)), (q2, .inl (cI, 4, .inl jz_0)), (q3, .inl (cI, 4, .inl jz_0))] := hD
  refine lv_aload_n hx hb dX2_init_25 rfl (lv_at hl 0 rfl) ?_
  refine lv_bipush (v := 20) hx hb dX2_init_26 (by decide) ?_
  refine jz_newi hx hb (hts (.arrayClass .int) (by decide +kernel)) hK rfl hP hD hS hA 20 (by decide) (by decide) (by decide) (Nat.le_of_ble_eq_true rfl) (Nat.le_of_ble_eq_true rfl) dX2_init_28 (fun q4 H hP hD hS => ?_)
  have hP : va_P D vwCl [(h0, .inr (2, [.null, .ref q1, .ref q2, .ref q3, .null, .int 0])), (q1, .inl (cI, 4, .inl jz_0)), (q2, .inl (cI, 4, .inl jz_0)), (q3, .inl (cI, 4, .inl jz_0)), (q4, .inl (cI, 20, .inl jz_0))] H := hP
  have hD : va_D A [(h0, .inr (2, [.null, .ref q1, .ref q2, .ref q3, .null, .int 0])), (q1, .inl (cI, 4, .inl jz_0)), (q2, .inl (cI, 4, .inl jz_0)), (q3, .inl (cI, 4, .inl jz_0)), (q4, .inl (cI, 20, .inl jz_0))] := hD
  refine va_putF (D := D) (ci := 2) (v := .ref q4) (ty := .array .int) (C := RX2) (T := TX2) (N := 6) hx hb hts hiX2 tyX2 tyX2_ok nmX2 hown hK hP hD hS 0 rfl rfl 4 (by decide) (hts (.fieldLink RX2 21 "JudgesLists$Sight" "lows" "[I") (by decide +kernel)) (fun _ h9 => h9) rfl hin rfl (by decide +kernel) rfl rfl (Nat.le_of_ble_eq_true rfl) dX2_init_30 (fun H locs hP hD hS => ?_)
  have hP : va_P D vwCl [(h0, .inr (2, [.null, .ref q1, .ref q2, .ref q3, .ref q4, .int 0])), (q1, .inl (cI, 4, .inl jz_0)), (q2, .inl (cI, 4, .inl jz_0)), (q3, .inl (cI, 4, .inl jz_0)), (q4, .inl (cI, 20, .inl jz_0))] H := hP
  have hD : va_D A [(h0, .inr (2, [.null, .ref q1, .ref q2, .ref q3, .ref q4, .int 0])), (q1, .inl (cI, 4, .inl jz_0)), (q2, .inl (cI, 4, .inl jz_0)), (q3, .inl (cI, 4, .inl jz_0)), (q4, .inl (cI, 20, .inl jz_0))] := hD
  refine lv_aload_n hx hb dX2_init_33 rfl (lv_at hl 0 rfl) ?_
  refine lv_aload_n hx hb dX2_init_34 rfl (lv_at hl 1 rfl) ?_
  refine va_putF (D := D) (ci := 2) (v := .ref bd) (ty := .object "JudgesLists$Board") (C := RX2) (T := TX2) (N := 6) hx hb hts hiX2 tyX2 tyX2_ok nmX2 hown hK hP hD hS 0 rfl rfl 0 (by decide) (hts (.fieldLink RX2 24 "JudgesLists$Sight" "board" "LJudgesLists$Board;") (by decide +kernel)) (fun _ h9 => h9) rfl hin rfl (by decide +kernel) rfl rfl (Nat.le_of_ble_eq_true rfl) dX2_init_35 (fun H locs hP hD hS => ?_)
  have hP : va_P D vwCl [(h0, .inr (2, [.ref bd, .ref q1, .ref q2, .ref q3, .ref q4, .int 0])), (q1, .inl (cI, 4, .inl jz_0)), (q2, .inl (cI, 4, .inl jz_0)), (q3, .inl (cI, 4, .inl jz_0)), (q4, .inl (cI, 20, .inl jz_0))] H := hP
  have hD : va_D A [(h0, .inr (2, [.ref bd, .ref q1, .ref q2, .ref q3, .ref q4, .int 0])), (q1, .inl (cI, 4, .inl jz_0)), (q2, .inl (cI, 4, .inl jz_0)), (q3, .inl (cI, 4, .inl jz_0)), (q4, .inl (cI, 20, .inl jz_0))] := hD
  refine W.widen (k := 4) (n := 32) (Nat.le_of_ble_eq_true rfl) (Nat.le_of_ble_eq_true rfl) ?_
  exact W.vret hx hb hr (fun t ht hW => ⟨⟨(), rfl, trivial, q1, q2, q3, q4, by rw [ht]; exact hP, hD⟩, hS.F ht⟩) hS.2.2 dX2_init_38
set_option maxHeartbeats 4000000 in
set_option maxRecDepth 100000 in
theorem jz_c_X1 (l : Launch) (D : va_G) (cI cT : ClassId) (h0 bd sz : Nat) : Met l yX1_init wsX1_init ({ frames := 2, cells := 5, slots := 38, locals := 33 }) (va_Pc [.ref h0, .ref bd] (fun U => U.heap.size = sz ∧ va_P D vwCl [(h0, .inr (1, [.null, .null, .int 0, .int 0, .int 0, .int 0, .int 0, .int 0, .int 0, .int 0]))] U.heap ∧ va_K D vwCl (jx_ty cI cT) U ∧ va_D (fun _ => True) [(h0, .inr (1, [.null, .null, .int 0, .int 0, .int 0, .int 0, .int 0, .int 0, .int 0, .int 0]))])) (va_Qv (fun (_ : Unit) => True) (fun _ t => ∃ (q1 : Nat) (q2 : Nat) (q3 : Nat) (q4 : Nat) (q5 : Nat), va_P D vwCl [(h0, .inr (1, [.ref bd, .ref q1, .int 0, .int 0, .int 0, .int 0, .int 0, .int 0, .int 0, .int 0])), (q1, .inr (2, [.ref bd, .ref q2, .ref q3, .ref q4, .ref q5, .int 0])), (q2, .inl (cI, 4, .inl jz_0)), (q3, .inl (cI, 4, .inl jz_0)), (q4, .inl (cI, 4, .inl jz_0)), (q5, .inl (cI, 20, .inl jz_0))] t.heap ∧ va_D (va_A [(h0, .inr (1, [.null, .null, .int 0, .int 0, .int 0, .int 0, .int 0, .int 0, .int 0, .int 0]))] sz) [(h0, .inr (1, [.ref bd, .ref q1, .int 0, .int 0, .int 0, .int 0, .int 0, .int 0, .int 0, .int 0])), (q1, .inr (2, [.ref bd, .ref q2, .ref q3, .ref q4, .ref q5, .int 0])), (q2, .inl (cI, 4, .inl jz_0)), (q3, .inl (cI, 4, .inl jz_0)), (q4, .inl (cI, 4, .inl jz_0)), (q5, .inl (cI, 20, .inl jz_0))]) (va_A [(h0, .inr (1, [.null, .null, .int 0, .int 0, .int 0, .int 0, .int 0, .int 0, .int 0, .int 0]))] sz)) 5 38 (va_A [(h0, .inr (1, [.null, .null, .int 0, .int 0, .int 0, .int 0, .int 0, .int 0, .int 0, .int 0]))] sz) := by
  refine Met.ofW (cc := cX1_init) (maxL := 2) (ret := none) (by decide) rfl ?_
  intro p e s m args below meth c s₁ BB hml hv
  obtain ⟨rfl, hsz, hP, hK, hD0⟩ := hv
  have hx := BB.exec
  have hb := BB.bytes
  have hr := BB.returns
  have hts := atoms_spec (ws := wsX1_init) BB.pre
  have hown : s.vm.findClass RX1 = some m.cls := findClass_of_methodNamed BB.named
  have hlocks := BB.notSynchronized
  have hin : meth.name = "<init>" := (name_of_methodNamed BB.named BB.method).1
  subst hsz
  have hD := hD0.self (sz := s.heap.size)
  generalize hAe : va_A [(h0, .inr (1, [.null, .null, .int 0, .int 0, .int 0, .int 0, .int 0, .int 0, .int 0, .int 0]))] s.heap.size = A at hD ⊢
  have hA : ∀ q : Nat, s.heap.size ≤ q → A q := fun q h => by rw [← hAe]; exact Or.inr h
  have hS : va_S A s.heap s.heap [] := va_S.rf
  have hP : va_P D vwCl [(h0, .inr (1, [.null, .null, .int 0, .int 0, .int 0, .int 0, .int 0, .int 0, .int 0, .int 0]))] s.heap := hP
  have hl := lv_entry ([.ref h0, .ref bd]) (n := 2) (Nat.le_of_ble_eq_true rfl)
  rw [lg_entry_eq]
  generalize (lg_sl ([.ref h0, .ref bd]) ++ List.replicate (2 - (lg_sl ([.ref h0, .ref bd])).length) Slot.unset).toArray = ls at hl ⊢
  have hl : lv_has ls 2 [(0, .ref h0), (1, .ref bd)] := hl
  have hiX1 : ∀ w ∈ wsX10, w ∈ wsX1_init := by decide +kernel
  have hiX2 : ∀ w ∈ wsX20, w ∈ wsX1_init := by decide +kernel
  refine lv_aload_n hx hb dX1_init_0 rfl (lv_at hl 0 rfl) ?_
  refine W.objInit hx hb hown (hts (.methodLink RX1 3 objectInit) (by decide +kernel)) (hts (.instanceMethod objectInit) (by decide +kernel)) (hts _ (List.mem_of_getElem? (i := 3) rfl)) rfl (by rw [hml]; exact hl.1) rfl dX1_init_1 (Nat.le_of_ble_eq_true rfl) (Nat.le_of_ble_eq_true rfl) ?_
  refine W.eq (g2 := F0 m 4 ls []) rfl ?_
  refine lv_aload_n hx hb dX1_init_4 rfl (lv_at hl 0 rfl) ?_
  refine lv_aload_n hx hb dX1_init_5 rfl (lv_at hl 1 rfl) ?_
  refine va_putF (D := D) (ci := 1) (v := .ref bd) (ty := .object "JudgesLists$Board") (C := RX1) (T := TX1) (N := 10) hx hb hts hiX1 tyX1 tyX1_ok nmX1 hown hK hP hD hS 0 rfl rfl 0 (by decide) (hts (.fieldLink RX1 9 "JudgesLists$Reader" "board" "LJudgesLists$Board;") (by decide +kernel)) (fun _ h9 => h9) rfl hin rfl (by decide +kernel) rfl rfl (Nat.le_of_ble_eq_true rfl) dX1_init_6 (fun H locs hP hD hS => ?_)
  have hP : va_P D vwCl [(h0, .inr (1, [.ref bd, .null, .int 0, .int 0, .int 0, .int 0, .int 0, .int 0, .int 0, .int 0]))] H := hP
  have hD : va_D A [(h0, .inr (1, [.ref bd, .null, .int 0, .int 0, .int 0, .int 0, .int 0, .int 0, .int 0, .int 0]))] := hD
  refine lv_aload_n hx hb dX1_init_9 rfl (lv_at hl 0 rfl) ?_
  refine va_new (ci := 2) (fs := [.null, .null, .null, .null, .null, .int 0]) (C := RX2) (T := TX2) (N := 6) hx hb hts hiX2 tyX2 tyX2_ok hown (hts (.classLink RX1 15 RX2) (by decide +kernel)) (hts (.instantiable RX2 6) (by decide +kernel)) (hts (.initialized RX2) (by decide +kernel)) hK hP hD hS hA rfl (fun j hj => by rcases (show j = 0 ∨ j = 1 ∨ j = 2 ∨ j = 3 ∨ j = 4 ∨ j = 5 by omega) with rfl | rfl | rfl | rfl | rfl | rfl <;> rfl) (Nat.le_of_ble_eq_true rfl) (Nat.le_of_ble_eq_true rfl) dX1_init_10 (fun q1 H hP hD hS => ?_)
  have hP : va_P D vwCl [(h0, .inr (1, [.ref bd, .null, .int 0, .int 0, .int 0, .int 0, .int 0, .int 0, .int 0, .int 0])), (q1, .inr (2, [.null, .null, .null, .null, .null, .int 0]))] H := hP
  have hD : va_D A [(h0, .inr (1, [.ref bd, .null, .int 0, .int 0, .int 0, .int 0, .int 0, .int 0, .int 0, .int 0])), (q1, .inr (2, [.null, .null, .null, .null, .null, .int 0]))] := hD
  refine lv_dup hx hb dX1_init_13 rfl ?_
  refine lv_aload_n hx hb dX1_init_14 rfl (lv_at hl 1 rfl) ?_
  have hPc := hP.sub (ws' := [(q1, .inr (2, [.null, .null, .null, .null, .null, .int 0]))]) [1] rfl
  have hDc := hD.sub (ws' := [(q1, .inr (2, [.null, .null, .null, .null, .null, .int 0]))]) [1] (by decide) rfl
  have hFc := va_free (wc := [(q1, .inr (2, [.null, .null, .null, .null, .null, .int 0]))]) hD hS hA [1] rfl
  refine va_callv (va_runI (As := [.ref bd]) (rest := [.ref q1, .ref h0]) ⟨hx, hb, hml, hown, hts⟩ (jz_c_X2 l D cI cT q1 bd H.size) (cwI 1 hts gX1_init_X2_init rfl rfl rfl (hts (.initialized RX2) (by decide +kernel)) (hts (.methodLink RX1 17 yX2_init) (by decide +kernel)) (hts (.instanceMethod yX2_init) (by decide +kernel)) rfl (by decide +kernel) ⟨(Nat.le_of_ble_eq_true rfl), (Nat.le_of_ble_eq_true rfl)⟩) ⟨fun a U g mk q => by obtain ⟨q0, q1, qP, qK, qD⟩ := q; exact ⟨q0, q1, qP, va_K.moved (u := U) (U := U.calling g mk a) (Vm.Alike.refl U.vm) qK, qD⟩, fun U hU hW => ⟨rfl, by rw [hU], by rw [hU]; exact hPc, va_K.moved hW.alike hK, hDc.weaken (fun _ _ _ _ => trivial)⟩⟩ rfl rfl hl.1 rfl (lv_room (Nat.le_of_ble_eq_true rfl)) dX1_init_15 ⟨(Nat.le_of_ble_eq_true rfl), (Nat.le_of_ble_eq_true rfl)⟩) hS (fun q _ h => hFc q h) hFc (fun u t H1 locs ht hvm _ hB hz1 hk1 hS => ?_)
  obtain ⟨q2, q3, q4, q5, hP1, hD1⟩ := hB
  rw [ht] at hP1
  obtain ⟨hP, hD⟩ := va_join (wr := [(h0, .inr (1, [.ref bd, .null, .int 0, .int 0, .int 0, .int 0, .int 0, .int 0, .int 0, .int 0]))]) (w1 := [(q1, .inr (2, [.ref bd, .ref q2, .ref q3, .ref q4, .ref q5, .int 0])), (q2, .inl (cI, 4, .inl jz_0)), (q3, .inl (cI, 4, .inl jz_0)), (q4, .inl (cI, 4, .inl jz_0)), (q5, .inl (cI, 20, .inl jz_0))]) hP hD [1] [0] rfl rfl (by decide) (by decide) hk1 hFc hP1 hD1
  generalize H1 = H at hP hS ⊢
  have hP : va_P D vwCl [(h0, .inr (1, [.ref bd, .null, .int 0, .int 0, .int 0, .int 0, .int 0, .int 0, .int 0, .int 0])), (q1, .inr (2, [.ref bd, .ref q2, .ref q3, .ref q4, .ref q5, .int 0])), (q2, .inl (cI, 4, .inl jz_0)), (q3, .inl (cI, 4, .inl jz_0)), (q4, .inl (cI, 4, .inl jz_0)), (q5, .inl (cI, 20, .inl jz_0))] H := hP
  have hD : va_D A [(h0, .inr (1, [.ref bd, .null, .int 0, .int 0, .int 0, .int 0, .int 0, .int 0, .int 0, .int 0])), (q1, .inr (2, [.ref bd, .ref q2, .ref q3, .ref q4, .ref q5, .int 0])), (q2, .inl (cI, 4, .inl jz_0)), (q3, .inl (cI, 4, .inl jz_0)), (q4, .inl (cI, 4, .inl jz_0)), (q5, .inl (cI, 20, .inl jz_0))] := hD
  refine va_putF (D := D) (ci := 1) (v := .ref q1) (ty := .object "JudgesLists$Sight") (C := RX1) (T := TX1) (N := 10) hx hb hts hiX1 tyX1 tyX1_ok nmX1 hown hK hP hD hS 0 rfl rfl 1 (by decide) (hts (.fieldLink RX1 20 "JudgesLists$Reader" "sight" "LJudgesLists$Sight;") (by decide +kernel)) (fun _ h9 => h9) rfl hin rfl (by decide +kernel) rfl rfl (Nat.le_of_ble_eq_true rfl) dX1_init_18 (fun H locs hP hD hS => ?_)
  have hP : va_P D vwCl [(h0, .inr (1, [.ref bd, .ref q1, .int 0, .int 0, .int 0, .int 0, .int 0, .int 0, .int 0, .int 0])), (q1, .inr (2, [.ref bd, .ref q2, .ref q3, .ref q4, .ref q5, .int 0])), (q2, .inl (cI, 4, .inl jz_0)), (q3, .inl (cI, 4, .inl jz_0)), (q4, .inl (cI, 4, .inl jz_0)), (q5, .inl (cI, 20, .inl jz_0))] H := hP
  have hD : va_D A [(h0, .inr (1, [.ref bd, .ref q1, .int 0, .int 0, .int 0, .int 0, .int 0, .int 0, .int 0, .int 0])), (q1, .inr (2, [.ref bd, .ref q2, .ref q3, .ref q4, .ref q5, .int 0])), (q2, .inl (cI, 4, .inl jz_0)), (q3, .inl (cI, 4, .inl jz_0)), (q4, .inl (cI, 4, .inl jz_0)), (q5, .inl (cI, 20, .inl jz_0))] := hD
  refine W.widen (k := 5) (n := 38) (Nat.le_of_ble_eq_true rfl) (Nat.le_of_ble_eq_true rfl) ?_
  exact W.vret hx hb hr (fun t ht hW => ⟨⟨(), rfl, trivial, q1, q2, q3, q4, q5, by rw [ht]; exact hP, hD⟩, hS.F ht⟩) hS.2.2 dX1_init_21
set_option maxHeartbeats 4000000 in
set_option maxRecDepth 100000 in
theorem jz_c_X3 (l : Launch) (D : va_G) (cI cT : ClassId) (h0 bd sz : Nat) : Met l yX3_init wsX3_init ({ frames := 2, cells := 6, slots := 42, locals := 33 }) (va_Pc [.ref h0, .ref bd] (fun U => U.heap.size = sz ∧ va_P D vwCl [(h0, .inr (3, [.null, .null, .null]))] U.heap ∧ va_K D vwCl (jx_ty cI cT) U ∧ va_D (fun _ => True) [(h0, .inr (3, [.null, .null, .null]))])) (va_Qv (fun (_ : Unit) => True) (fun _ t => ∃ (q1 : Nat) (q2 : Nat) (q3 : Nat) (q4 : Nat) (q5 : Nat) (q6 : Nat), va_P D vwCl [(h0, .inr (3, [.ref bd, .ref q2, .ref q1])), (q1, .inl (cI, 4, .inl jz_0)), (q2, .inr (2, [.ref bd, .ref q3, .ref q4, .ref q5, .ref q6, .int 0])), (q3, .inl (cI, 4, .inl jz_0)), (q4, .inl (cI, 4, .inl jz_0)), (q5, .inl (cI, 4, .inl jz_0)), (q6, .inl (cI, 20, .inl jz_0))] t.heap ∧ va_D (va_A [(h0, .inr (3, [.null, .null, .null]))] sz) [(h0, .inr (3, [.ref bd, .ref q2, .ref q1])), (q1, .inl (cI, 4, .inl jz_0)), (q2, .inr (2, [.ref bd, .ref q3, .ref q4, .ref q5, .ref q6, .int 0])), (q3, .inl (cI, 4, .inl jz_0)), (q4, .inl (cI, 4, .inl jz_0)), (q5, .inl (cI, 4, .inl jz_0)), (q6, .inl (cI, 20, .inl jz_0))]) (va_A [(h0, .inr (3, [.null, .null, .null]))] sz)) 6 42 (va_A [(h0, .inr (3, [.null, .null, .null]))] sz) := by
  refine Met.ofW (cc := cX3_init) (maxL := 2) (ret := none) (by decide) rfl ?_
  intro p e s m args below meth c s₁ BB hml hv
  obtain ⟨rfl, hsz, hP, hK, hD0⟩ := hv
  have hx := BB.exec
  have hb := BB.bytes
  have hr := BB.returns
  have hts := atoms_spec (ws := wsX3_init) BB.pre
  have hown : s.vm.findClass RX3 = some m.cls := findClass_of_methodNamed BB.named
  have hlocks := BB.notSynchronized
  have hin : meth.name = "<init>" := (name_of_methodNamed BB.named BB.method).1
  subst hsz
  have hD := hD0.self (sz := s.heap.size)
  generalize hAe : va_A [(h0, .inr (3, [.null, .null, .null]))] s.heap.size = A at hD ⊢
  have hA : ∀ q : Nat, s.heap.size ≤ q → A q := fun q h => by rw [← hAe]; exact Or.inr h
  have hS : va_S A s.heap s.heap [] := va_S.rf
  have hP : va_P D vwCl [(h0, .inr (3, [.null, .null, .null]))] s.heap := hP
  have hl := lv_entry ([.ref h0, .ref bd]) (n := 2) (Nat.le_of_ble_eq_true rfl)
  rw [lg_entry_eq]
  generalize (lg_sl ([.ref h0, .ref bd]) ++ List.replicate (2 - (lg_sl ([.ref h0, .ref bd])).length) Slot.unset).toArray = ls at hl ⊢
  have hl : lv_has ls 2 [(0, .ref h0), (1, .ref bd)] := hl
  have hiX2 : ∀ w ∈ wsX20, w ∈ wsX3_init := by decide +kernel
  have hiX3 : ∀ w ∈ wsX30, w ∈ wsX3_init := by decide +kernel
  refine lv_aload_n hx hb dX3_init_0 rfl (lv_at hl 0 rfl) ?_
  refine W.objInit hx hb hown (hts (.methodLink RX3 3 objectInit) (by decide +kernel)) (hts (.instanceMethod objectInit) (by decide +kernel)) (hts _ (List.mem_of_getElem? (i := 3) rfl)) rfl (by rw [hml]; exact hl.1) rfl dX3_init_1 (Nat.le_of_ble_eq_true rfl) (Nat.le_of_ble_eq_true rfl) ?_
  refine W.eq (g2 := F0 m 4 ls []) rfl ?_
  refine lv_aload_n hx hb dX3_init_4 rfl (lv_at hl 0 rfl) ?_
  refine lv_iconst (v := 4) hx hb dX3_init_5 (by decide) ?_
  refine jz_newi hx hb (hts (.arrayClass .int) (by decide +kernel)) hK rfl hP hD hS hA 4 (by decide) (by decide) (by decide) (Nat.le_of_ble_eq_true rfl) (Nat.le_of_ble_eq_true rfl) dX3_init_6 (fun q1 H hP hD hS => ?_)
  have hP : va_P D vwCl [(h0, .inr (3, [.null, .null, .null])), (q1, .inl (cI, 4, .inl jz_0))] H := hP
  have hD : va_D A [(h0, .inr (3, [.null, .null, .null])), (q1, .inl (cI, 4, .inl jz_0))] := hD
  refine va_putF (D := D) (ci := 3) (v := .ref q1) (ty := .array .int) (C := RX3) (T := TX3) (N := 3) hx hb hts hiX3 tyX3 tyX3_ok nmX3 hown hK hP hD hS 0 rfl rfl 2 (by decide) (hts (.fieldLink RX3 9 "JudgesLists$Trial" "told" "[I") (by decide +kernel)) (fun _ h9 => h9) rfl hin rfl (by decide +kernel) rfl rfl (Nat.le_of_ble_eq_true rfl) dX3_init_8 (fun H locs hP hD hS => ?_)
  have hP : va_P D vwCl [(h0, .inr (3, [.null, .null, .ref q1])), (q1, .inl (cI, 4, .inl jz_0))] H := hP
  have hD : va_D A [(h0, .inr (3, [.null, .null, .ref q1])), (q1, .inl (cI, 4, .inl jz_0))] := hD
  refine lv_aload_n hx hb dX3_init_11 rfl (lv_at hl 0 rfl) ?_
  refine lv_aload_n hx hb dX3_init_12 rfl (lv_at hl 1 rfl) ?_
  refine va_putF (D := D) (ci := 3) (v := .ref bd) (ty := .object "JudgesLists$Board") (C := RX3) (T := TX3) (N := 3) hx hb hts hiX3 tyX3 tyX3_ok nmX3 hown hK hP hD hS 0 rfl rfl 0 (by decide) (hts (.fieldLink RX3 15 "JudgesLists$Trial" "board" "LJudgesLists$Board;") (by decide +kernel)) (fun _ h9 => h9) rfl hin rfl (by decide +kernel) rfl rfl (Nat.le_of_ble_eq_true rfl) dX3_init_13 (fun H locs hP hD hS => ?_)
  have hP : va_P D vwCl [(h0, .inr (3, [.ref bd, .null, .ref q1])), (q1, .inl (cI, 4, .inl jz_0))] H := hP
  have hD : va_D A [(h0, .inr (3, [.ref bd, .null, .ref q1])), (q1, .inl (cI, 4, .inl jz_0))] := hD
  refine lv_aload_n hx hb dX3_init_16 rfl (lv_at hl 0 rfl) ?_
  refine va_new (ci := 2) (fs := [.null, .null, .null, .null, .null, .int 0]) (C := RX2) (T := TX2) (N := 6) hx hb hts hiX2 tyX2 tyX2_ok hown (hts (.classLink RX3 19 RX2) (by decide +kernel)) (hts (.instantiable RX2 6) (by decide +kernel)) (hts (.initialized RX2) (by decide +kernel)) hK hP hD hS hA rfl (fun j hj => by rcases (show j = 0 ∨ j = 1 ∨ j = 2 ∨ j = 3 ∨ j = 4 ∨ j = 5 by omega) with rfl | rfl | rfl | rfl | rfl | rfl <;> rfl) (Nat.le_of_ble_eq_true rfl) (Nat.le_of_ble_eq_true rfl) dX3_init_17 (fun q2 H hP hD hS => ?_)
  have hP : va_P D vwCl [(h0, .inr (3, [.ref bd, .null, .ref q1])), (q1, .inl (cI, 4, .inl jz_0)), (q2, .inr (2, [.null, .null, .null, .null, .null, .int 0]))] H := hP
  have hD : va_D A [(h0, .inr (3, [.ref bd, .null, .ref q1])), (q1, .inl (cI, 4, .inl jz_0)), (q2, .inr (2, [.null, .null, .null, .null, .null, .int 0]))] := hD
  refine lv_dup hx hb dX3_init_20 rfl ?_
  refine lv_aload_n hx hb dX3_init_21 rfl (lv_at hl 1 rfl) ?_
  have hPc := hP.sub (ws' := [(q2, .inr (2, [.null, .null, .null, .null, .null, .int 0]))]) [2] rfl
  have hDc := hD.sub (ws' := [(q2, .inr (2, [.null, .null, .null, .null, .null, .int 0]))]) [2] (by decide) rfl
  have hFc := va_free (wc := [(q2, .inr (2, [.null, .null, .null, .null, .null, .int 0]))]) hD hS hA [2] rfl
  refine va_callv (va_runI (As := [.ref bd]) (rest := [.ref q2, .ref h0]) ⟨hx, hb, hml, hown, hts⟩ (jz_c_X2 l D cI cT q2 bd H.size) (cwI 1 hts gX3_init_X2_init rfl rfl rfl (hts (.initialized RX2) (by decide +kernel)) (hts (.methodLink RX3 21 yX2_init) (by decide +kernel)) (hts (.instanceMethod yX2_init) (by decide +kernel)) rfl (by decide +kernel) ⟨(Nat.le_of_ble_eq_true rfl), (Nat.le_of_ble_eq_true rfl)⟩) ⟨fun a U g mk q => by obtain ⟨q0, q1, qP, qK, qD⟩ := q; exact ⟨q0, q1, qP, va_K.moved (u := U) (U := U.calling g mk a) (Vm.Alike.refl U.vm) qK, qD⟩, fun U hU hW => ⟨rfl, by rw [hU], by rw [hU]; exact hPc, va_K.moved hW.alike hK, hDc.weaken (fun _ _ _ _ => trivial)⟩⟩ rfl rfl hl.1 rfl (lv_room (Nat.le_of_ble_eq_true rfl)) dX3_init_22 ⟨(Nat.le_of_ble_eq_true rfl), (Nat.le_of_ble_eq_true rfl)⟩) hS (fun q _ h => hFc q h) hFc (fun u t H1 locs ht hvm _ hB hz1 hk1 hS => ?_)
  obtain ⟨q3, q4, q5, q6, hP1, hD1⟩ := hB
  rw [ht] at hP1
  obtain ⟨hP, hD⟩ := va_join (wr := [(h0, .inr (3, [.ref bd, .null, .ref q1])), (q1, .inl (cI, 4, .inl jz_0))]) (w1 := [(q2, .inr (2, [.ref bd, .ref q3, .ref q4, .ref q5, .ref q6, .int 0])), (q3, .inl (cI, 4, .inl jz_0)), (q4, .inl (cI, 4, .inl jz_0)), (q5, .inl (cI, 4, .inl jz_0)), (q6, .inl (cI, 20, .inl jz_0))]) hP hD [2] [0, 1] rfl rfl (by decide) (by decide) hk1 hFc hP1 hD1
  generalize H1 = H at hP hS ⊢
  have hP : va_P D vwCl [(h0, .inr (3, [.ref bd, .null, .ref q1])), (q1, .inl (cI, 4, .inl jz_0)), (q2, .inr (2, [.ref bd, .ref q3, .ref q4, .ref q5, .ref q6, .int 0])), (q3, .inl (cI, 4, .inl jz_0)), (q4, .inl (cI, 4, .inl jz_0)), (q5, .inl (cI, 4, .inl jz_0)), (q6, .inl (cI, 20, .inl jz_0))] H := hP
  have hD : va_D A [(h0, .inr (3, [.ref bd, .null, .ref q1])), (q1, .inl (cI, 4, .inl jz_0)), (q2, .inr (2, [.ref bd, .ref q3, .ref q4, .ref q5, .ref q6, .int 0])), (q3, .inl (cI, 4, .inl jz_0)), (q4, .inl (cI, 4, .inl jz_0)), (q5, .inl (cI, 4, .inl jz_0)), (q6, .inl (cI, 20, .inl jz_0))] := hD
  refine va_putF (D := D) (ci := 3) (v := .ref q2) (ty := .object "JudgesLists$Sight") (C := RX3) (T := TX3) (N := 3) hx hb hts hiX3 tyX3 tyX3_ok nmX3 hown hK hP hD hS 0 rfl rfl 1 (by decide) (hts (.fieldLink RX3 24 "JudgesLists$Trial" "sight" "LJudgesLists$Sight;") (by decide +kernel)) (fun _ h9 => h9) rfl hin rfl (by decide +kernel) rfl rfl (Nat.le_of_ble_eq_true rfl) dX3_init_25 (fun H locs hP hD hS => ?_)
  have hP : va_P D vwCl [(h0, .inr (3, [.ref bd, .ref q2, .ref q1])), (q1, .inl (cI, 4, .inl jz_0)), (q2, .inr (2, [.ref bd, .ref q3, .ref q4, .ref q5, .ref q6, .int 0])), (q3, .inl (cI, 4, .inl jz_0)), (q4, .inl (cI, 4, .inl jz_0)), (q5, .inl (cI, 4, .inl jz_0)), (q6, .inl (cI, 20, .inl jz_0))] H := hP
  have hD : va_D A [(h0, .inr (3, [.ref bd, .ref q2, .ref q1])), (q1, .inl (cI, 4, .inl jz_0)), (q2, .inr (2, [.ref bd, .ref q3, .ref q4, .ref q5, .ref q6, .int 0])), (q3, .inl (cI, 4, .inl jz_0)), (q4, .inl (cI, 4, .inl jz_0)), (q5, .inl (cI, 4, .inl jz_0)), (q6, .inl (cI, 20, .inl jz_0))] := hD
  refine W.widen (k := 6) (n := 42) (Nat.le_of_ble_eq_true rfl) (Nat.le_of_ble_eq_true rfl) ?_
  exact W.vret hx hb hr (fun t ht hW => ⟨⟨(), rfl, trivial, q1, q2, q3, q4, q5, q6, by rw [ht]; exact hP, hD⟩, hS.F ht⟩) hS.2.2 dX3_init_28
