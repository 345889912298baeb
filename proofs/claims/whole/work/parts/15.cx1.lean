section
variable {p : Program} {l : Launch} {e : Env} {R : Room} {s : State} {m : MethodId} {args : Array Value} {below : List Frame} {meth : Method} {c : Code} {H : Heap} {locs : List Loc} {Q : State → Prop} {ls : Array Slot} {D : va_G} {cI cT : ClassId} {B : Nat → Nat} {M : jl_Mem} {H0 : Heap}
set_option maxHeartbeats 4000000 in
set_option maxRecDepth 100000 in
theorem jb_X4_within (hx : p.tables.exec = Jvm.exec) (hb : c.code = cX4_within) (hml : c.maxLocals = 3) (hown : s.vm.findClass RX4 = some m.cls) (hts : ∀ w ∈ wsX4_within, w.before args s = true) (hK : va_K D vwCl (jx_ty cI cT) s) (hB : jx_inj B) (hN : jx_N s) (hRf : 0 ≤ R.frames) (hRl : 0 ≤ R.locals) {a1 : Int32} {a2 : Int32} {a3 : Int32} {z : Int32 × jl_Mem} (h : jf_X4_within a1 a2 a3 M = some z)
    (kr : ∀ (v : Int32) (M1 : jl_Mem) (H1 : Heap) (locs1 : List Loc) (pc1 : Nat) (ls1 : Array Slot), (v, M1) = z → jl_isB v = true → decode cX4_within pc1 = .ok (.ireturn, 1) → va_P D vwCl (jx_w cI cT B M1) H1 → va_S (jx_A B) H0 H1 locs1 → W p l e R s m args below meth c H1 locs1 0 0 Q (F0 m pc1 ls1 [.int v]))
    (hP : va_P D vwCl (jx_w cI cT B M) H) (hS : va_S (jx_A B) H0 H locs) (hl : lv_has ls 3 [(0, .int a1), (1, .int a2), (2, .int a3)]) : W p l e R s m args below meth c H locs 0 0 Q (F0 m 0 ls []) := by
  unfold jf_X4_within at h
  refine lv_iload_n hx hb dX4_within_0 rfl (lv_at hl 0 rfl) ?_
  refine lv_iload_n hx hb dX4_within_1 rfl (lv_at hl 1 rfl) ?_
  refine lv_icmp_lt (tgt := 14) hx hb dX4_within_2 (by decide) (fun c_2 => ?_) (fun c_2 => ?_)
  · have h := jl_ift c_2 h
    refine lv_iconst (v := 0) hx hb dX4_within_14 (by decide) ?_
    exact kr _ _ _ _ _ _ (Option.some.inj h) (by decide) dX4_within_15 hP hS
  · have h := jl_iff c_2 h
    refine lv_iload_n hx hb dX4_within_5 rfl (lv_at hl 0 rfl) ?_
    refine lv_iload_n hx hb dX4_within_6 rfl (lv_at hl 2 rfl) ?_
    refine lv_icmp_gt (tgt := 14) hx hb dX4_within_7 (by decide) (fun c_7 => ?_) (fun c_7 => ?_)
    · have h := jl_ift c_7 h
      refine lv_iconst (v := 0) hx hb dX4_within_14 (by decide) ?_
      exact kr _ _ _ _ _ _ (Option.some.inj h) (by decide) dX4_within_15 hP hS
    · have h := jl_iff c_7 h
      refine lv_iconst (v := 1) hx hb dX4_within_10 (by decide) ?_
      refine lv_goto (tgt := 15) hx hb dX4_within_11 (by decide) ?_
      exact kr _ _ _ _ _ _ (Option.some.inj h) (by decide) dX4_within_15 hP hS
theorem jc_X4_within {a1 : Int32} {a2 : Int32} {a3 : Int32} {z : Int32 × jl_Mem} (h : jf_X4_within a1 a2 a3 M = some z) : Met l yX4_within wsX4_within ({ frames := 0, cells := 0, slots := 0, locals := 0 }) (va_Pc [.int a1, .int a2, .int a3] (jx_U D cI cT B M)) (va_Qi (fun (q : Int32) (_ : Unit) => q = z.1) (fun _ t => va_P D vwCl (jx_w cI cT B z.2) t.heap) (jx_A B)) 0 0 (jx_A B) := by
  refine Met.ofW (cc := cX4_within) (maxL := 3) (ret := (some .boolean)) (by decide) rfl ?_
  intro p e s m args below meth c s1 BB hml hv
  obtain ⟨rfl, hK, hP, hB, hN⟩ := hv
  have hl := lv_entry ([.int a1, .int a2, .int a3]) (n := 3) (Nat.le_of_ble_eq_true rfl)
  rw [lg_entry_eq]
  generalize (lg_sl ([.int a1, .int a2, .int a3]) ++ List.replicate (3 - (lg_sl ([.int a1, .int a2, .int a3])).length) Slot.unset).toArray = ls at hl ⊢
  exact jb_X4_within BB.exec BB.bytes hml (findClass_of_methodNamed BB.named) (atoms_spec (ws := wsX4_within) BB.pre) hK hB hN (Nat.le_refl _) (Nat.le_refl _) h (fun v M1 H locs pc ls e1 hz hd hP hS => W.zret BB.exec BB.bytes BB.returns (jl_nar hz) (fun t ht hW => ⟨⟨_, (), rfl, by rw [← e1], by show va_P D vwCl (jx_w cI cT B z.2) t.heap; rw [ht, ← e1]; exact hP⟩, hS.F ht⟩) hS.2.2 hd BB.notSynchronized) hP va_S.rf hl
end
section
variable {p : Program} {l : Launch} {e : Env} {R : Room} {s : State} {m : MethodId} {args : Array Value} {below : List Frame} {meth : Method} {c : Code} {H : Heap} {locs : List Loc} {Q : State → Prop} {ls : Array Slot} {D : va_G} {cI cT : ClassId} {B : Nat → Nat} {M : jl_Mem} {H0 : Heap}
set_option maxHeartbeats 4000000 in
set_option maxRecDepth 100000 in
theorem jb_X0_hasThing (hx : p.tables.exec = Jvm.exec) (hb : c.code = cX0_hasThing) (hml : c.maxLocals = 2) (hown : s.vm.findClass RX0 = some m.cls) (hts : ∀ w ∈ wsX0_hasThing, w.before args s = true) (hK : va_K D vwCl (jx_ty cI cT) s) (hB : jx_inj B) (hN : jx_N s) (hRf : 1 ≤ R.frames) (hRl : 22 ≤ R.locals) {a1 : Int32} {z : Int32 × jl_Mem} (h : jf_X0_hasThing a1 M = some z)
    (kr : ∀ (v : Int32) (M1 : jl_Mem) (H1 : Heap) (locs1 : List Loc) (pc1 : Nat) (ls1 : Array Slot), (v, M1) = z → jl_isB v = true → decode cX0_hasThing pc1 = .ok (.ireturn, 1) → va_P D vwCl (jx_w cI cT B M1) H1 → va_S (jx_A B) H0 H1 locs1 → W p l e R s m args below meth c H1 locs1 0 0 Q (F0 m pc1 ls1 [.int v]))
    (hP : va_P D vwCl (jx_w cI cT B M) H) (hS : va_S (jx_A B) H0 H locs) (hl : lv_has ls 2 [(0, .ref (B 1)), (1, .int a1)]) : W p l e R s m args below meth c H locs 0 0 Q (F0 m 0 ls []) := by
  unfold jf_X0_hasThing at h
  have hiX0 : ∀ w ∈ wsX00, w ∈ wsX0_hasThing := by decide +kernel
  have hf45 := hts (.fieldLink RX0 45 "JudgesLists$Board" "things" "I") (by decide +kernel)
  refine lv_iload_n hx hb dX0_hasThing_0 rfl (lv_at hl 1 rfl) ?_
  refine lv_iconst (v := 0) hx hb dX0_hasThing_1 (by decide) ?_
  refine lv_aload_n hx hb dX0_hasThing_2 rfl (lv_at hl 0 rfl) ?_
  refine jx_g_X0_things hx hb hts hiX0 hown hK hP hf45 dX0_hasThing_3 ?_
  refine lv_iconst (v := 1) hx hb dX0_hasThing_6 (by decide) ?_
  refine lv_isub hx hb dX0_hasThing_7 ?_
  obtain ⟨r_8, M_8, hc_8, h⟩ := jl_bnd_o h
  refine jx_callNi (As := [.int a1, .int 0, .int ((M 1 0) - (1 : Int32))]) (rest := []) ⟨hx, hb, hml, hown, hts⟩ (jc_X4_within hc_8) ⟨va_cnB 3 hts gX0_hasThing_X4_within_n48 rfl rfl rfl hN.1 (hts (.initialized RX4) (by decide +kernel)) (by decide +kernel) ⟨Nat.le_trans (by decide) hRf, Nat.le_trans (by decide) hRl⟩, hts (.static yX4_within) (by decide +kernel), trivial⟩ hK hB hN hP hS rfl dX0_hasThing_8 rfl hl.1 (Nat.le_of_ble_eq_true rfl) ⟨Nat.zero_le _, Nat.zero_le _⟩ (fun H locs hP hS => ?_)
  obtain ⟨i_11, h⟩ := jl_chk_o h
  exact kr _ _ _ _ _ _ (Option.some.inj h) i_11 dX0_hasThing_11 hP hS
theorem jc_X0_hasThing {a1 : Int32} {z : Int32 × jl_Mem} (h : jf_X0_hasThing a1 M = some z) : Met l yX0_hasThing wsX0_hasThing ({ frames := 1, cells := 0, slots := 0, locals := 22 }) (va_Pc [.ref (B 1), .int a1] (jx_U D cI cT B M)) (va_Qi (fun (q : Int32) (_ : Unit) => q = z.1) (fun _ t => va_P D vwCl (jx_w cI cT B z.2) t.heap) (jx_A B)) 0 0 (jx_A B) := by
  refine Met.ofW (cc := cX0_hasThing) (maxL := 2) (ret := (some .boolean)) (by decide) rfl ?_
  intro p e s m args below meth c s1 BB hml hv
  obtain ⟨rfl, hK, hP, hB, hN⟩ := hv
  have hl := lv_entry ([.ref (B 1), .int a1]) (n := 2) (Nat.le_of_ble_eq_true rfl)
  rw [lg_entry_eq]
  generalize (lg_sl ([.ref (B 1), .int a1]) ++ List.replicate (2 - (lg_sl ([.ref (B 1), .int a1])).length) Slot.unset).toArray = ls at hl ⊢
  exact jb_X0_hasThing BB.exec BB.bytes hml (findClass_of_methodNamed BB.named) (atoms_spec (ws := wsX0_hasThing) BB.pre) hK hB hN (Nat.le_refl _) (Nat.le_refl _) h (fun v M1 H locs pc ls e1 hz hd hP hS => W.zret BB.exec BB.bytes BB.returns (jl_nar hz) (fun t ht hW => ⟨⟨_, (), rfl, by rw [← e1], by show va_P D vwCl (jx_w cI cT B z.2) t.heap; rw [ht, ← e1]; exact hP⟩, hS.F ht⟩) hS.2.2 hd BB.notSynchronized) hP va_S.rf hl
end
section
variable {p : Program} {l : Launch} {e : Env} {R : Room} {s : State} {m : MethodId} {args : Array Value} {below : List Frame} {meth : Method} {c : Code} {H : Heap} {locs : List Loc} {Q : State → Prop} {ls : Array Slot} {D : va_G} {cI cT : ClassId} {B : Nat → Nat} {M : jl_Mem} {H0 : Heap}
set_option maxHeartbeats 4000000 in
set_option maxRecDepth 100000 in
theorem jb_X0_hasList (hx : p.tables.exec = Jvm.exec) (hb : c.code = cX0_hasList) (hml : c.maxLocals = 2) (hown : s.vm.findClass RX0 = some m.cls) (hts : ∀ w ∈ wsX0_hasList, w.before args s = true) (hK : va_K D vwCl (jx_ty cI cT) s) (hB : jx_inj B) (hN : jx_N s) (hRf : 1 ≤ R.frames) (hRl : 22 ≤ R.locals) {a1 : Int32} {z : Int32 × jl_Mem} (h : jf_X0_hasList a1 M = some z)
    (kr : ∀ (v : Int32) (M1 : jl_Mem) (H1 : Heap) (locs1 : List Loc) (pc1 : Nat) (ls1 : Array Slot), (v, M1) = z → jl_isB v = true → decode cX0_hasList pc1 = .ok (.ireturn, 1) → va_P D vwCl (jx_w cI cT B M1) H1 → va_S (jx_A B) H0 H1 locs1 → W p l e R s m args below meth c H1 locs1 0 0 Q (F0 m pc1 ls1 [.int v]))
    (hP : va_P D vwCl (jx_w cI cT B M) H) (hS : va_S (jx_A B) H0 H locs) (hl : lv_has ls 2 [(0, .ref (B 1)), (1, .int a1)]) : W p l e R s m args below meth c H locs 0 0 Q (F0 m 0 ls []) := by
  unfold jf_X0_hasList at h
  have hiX0 : ∀ w ∈ wsX00, w ∈ wsX0_hasList := by decide +kernel
  have hf52 := hts (.fieldLink RX0 52 "JudgesLists$Board" "lists" "I") (by decide +kernel)
  refine lv_iload_n hx hb dX0_hasList_0 rfl (lv_at hl 1 rfl) ?_
  refine lv_iconst (v := 0) hx hb dX0_hasList_1 (by decide) ?_
  refine lv_aload_n hx hb dX0_hasList_2 rfl (lv_at hl 0 rfl) ?_
  refine jx_g_X0_lists hx hb hts hiX0 hown hK hP hf52 dX0_hasList_3 ?_
  refine lv_iconst (v := 1) hx hb dX0_hasList_6 (by decide) ?_
  refine lv_isub hx hb dX0_hasList_7 ?_
  obtain ⟨r_8, M_8, hc_8, h⟩ := jl_bnd_o h
  refine jx_callNi (As := [.int a1, .int 0, .int ((M 1 1) - (1 : Int32))]) (rest := []) ⟨hx, hb, hml, hown, hts⟩ (jc_X4_within hc_8) ⟨va_cnB 3 hts gX0_hasList_X4_within_n48 rfl rfl rfl hN.1 (hts (.initialized RX4) (by decide +kernel)) (by decide +kernel) ⟨Nat.le_trans (by decide) hRf, Nat.le_trans (by decide) hRl⟩, hts (.static yX4_within) (by decide +kernel), trivial⟩ hK hB hN hP hS rfl dX0_hasList_8 rfl hl.1 (Nat.le_of_ble_eq_true rfl) ⟨Nat.zero_le _, Nat.zero_le _⟩ (fun H locs hP hS => ?_)
  obtain ⟨i_11, h⟩ := jl_chk_o h
  exact kr _ _ _ _ _ _ (Option.some.inj h) i_11 dX0_hasList_11 hP hS
theorem jc_X0_hasList {a1 : Int32} {z : Int32 × jl_Mem} (h : jf_X0_hasList a1 M = some z) : Met l yX0_hasList wsX0_hasList ({ frames := 1, cells := 0, slots := 0, locals := 22 }) (va_Pc [.ref (B 1), .int a1] (jx_U D cI cT B M)) (va_Qi (fun (q : Int32) (_ : Unit) => q = z.1) (fun _ t => va_P D vwCl (jx_w cI cT B z.2) t.heap) (jx_A B)) 0 0 (jx_A B) := by
  refine Met.ofW (cc := cX0_hasList) (maxL := 2) (ret := (some .boolean)) (by decide) rfl ?_
  intro p e s m args below meth c s1 BB hml hv
  obtain ⟨rfl, hK, hP, hB, hN⟩ := hv
  have hl := lv_entry ([.ref (B 1), .int a1]) (n := 2) (Nat.le_of_ble_eq_true rfl)
  rw [lg_entry_eq]
  generalize (lg_sl ([.ref (B 1), .int a1]) ++ List.replicate (2 - (lg_sl ([.ref (B 1), .int a1])).length) Slot.unset).toArray = ls at hl ⊢
  exact jb_X0_hasList BB.exec BB.bytes hml (findClass_of_methodNamed BB.named) (atoms_spec (ws := wsX0_hasList) BB.pre) hK hB hN (Nat.le_refl _) (Nat.le_refl _) h (fun v M1 H locs pc ls e1 hz hd hP hS => W.zret BB.exec BB.bytes BB.returns (jl_nar hz) (fun t ht hW => ⟨⟨_, (), rfl, by rw [← e1], by show va_P D vwCl (jx_w cI cT B z.2) t.heap; rw [ht, ← e1]; exact hP⟩, hS.F ht⟩) hS.2.2 hd BB.notSynchronized) hP va_S.rf hl
end
section
variable {p : Program} {l : Launch} {e : Env} {R : Room} {s : State} {m : MethodId} {args : Array Value} {below : List Frame} {meth : Method} {c : Code} {H : Heap} {locs : List Loc} {Q : State → Prop} {ls : Array Slot} {D : va_G} {cI cT : ClassId} {B : Nat → Nat} {M : jl_Mem} {H0 : Heap}
set_option maxHeartbeats 4000000 in
set_option maxRecDepth 100000 in
theorem jb_X0_mayAskFor (hx : p.tables.exec = Jvm.exec) (hb : c.code = cX0_mayAskFor) (hml : c.maxLocals = 2) (hown : s.vm.findClass RX0 = some m.cls) (hts : ∀ w ∈ wsX0_mayAskFor, w.before args s = true) (hK : va_K D vwCl (jx_ty cI cT) s) (hB : jx_inj B) (hN : jx_N s) (hRf : 1 ≤ R.frames) (hRl : 22 ≤ R.locals) {a1 : Int32} {z : Int32 × jl_Mem} (h : jf_X0_mayAskFor a1 M = some z)
    (kr : ∀ (v : Int32) (M1 : jl_Mem) (H1 : Heap) (locs1 : List Loc) (pc1 : Nat) (ls1 : Array Slot), (v, M1) = z → jl_isB v = true → decode cX0_mayAskFor pc1 = .ok (.ireturn, 1) → va_P D vwCl (jx_w cI cT B M1) H1 → va_S (jx_A B) H0 H1 locs1 → W p l e R s m args below meth c H1 locs1 0 0 Q (F0 m pc1 ls1 [.int v]))
    (hP : va_P D vwCl (jx_w cI cT B M) H) (hS : va_S (jx_A B) H0 H locs) (hl : lv_has ls 2 [(0, .ref (B 1)), (1, .int a1)]) : W p l e R s m args below meth c H locs 0 0 Q (F0 m 0 ls []) := by
  unfold jf_X0_mayAskFor at h
  have hiX0 : ∀ w ∈ wsX00, w ∈ wsX0_mayAskFor := by decide +kernel
  have hf45 := hts (.fieldLink RX0 45 "JudgesLists$Board" "things" "I") (by decide +kernel)
  refine lv_iload_n hx hb dX0_mayAskFor_0 rfl (lv_at hl 1 rfl) ?_
  refine lv_iconst (v := 1) hx hb dX0_mayAskFor_1 (by decide) ?_
  refine lv_aload_n hx hb dX0_mayAskFor_2 rfl (lv_at hl 0 rfl) ?_
  refine jx_g_X0_things hx hb hts hiX0 hown hK hP hf45 dX0_mayAskFor_3 ?_
  obtain ⟨r_6, M_6, hc_6, h⟩ := jl_bnd_o h
  refine jx_callNi (As := [.int a1, .int 1, .int (M 1 0)]) (rest := []) ⟨hx, hb, hml, hown, hts⟩ (jc_X4_within hc_6) ⟨va_cnB 3 hts gX0_mayAskFor_X4_within_n48 rfl rfl rfl hN.1 (hts (.initialized RX4) (by decide +kernel)) (by decide +kernel) ⟨Nat.le_trans (by decide) hRf, Nat.le_trans (by decide) hRl⟩, hts (.static yX4_within) (by decide +kernel), trivial⟩ hK hB hN hP hS rfl dX0_mayAskFor_6 rfl hl.1 (Nat.le_of_ble_eq_true rfl) ⟨Nat.zero_le _, Nat.zero_le _⟩ (fun H locs hP hS => ?_)
  obtain ⟨i_9, h⟩ := jl_chk_o h
  exact kr _ _ _ _ _ _ (Option.some.inj h) i_9 dX0_mayAskFor_9 hP hS
theorem jc_X0_mayAskFor {a1 : Int32} {z : Int32 × jl_Mem} (h : jf_X0_mayAskFor a1 M = some z) : Met l yX0_mayAskFor wsX0_mayAskFor ({ frames := 1, cells := 0, slots := 0, locals := 22 }) (va_Pc [.ref (B 1), .int a1] (jx_U D cI cT B M)) (va_Qi (fun (q : Int32) (_ : Unit) => q = z.1) (fun _ t => va_P D vwCl (jx_w cI cT B z.2) t.heap) (jx_A B)) 0 0 (jx_A B) := by
  refine Met.ofW (cc := cX0_mayAskFor) (maxL := 2) (ret := (some .boolean)) (by decide) rfl ?_
  intro p e s m args below meth c s1 BB hml hv
  obtain ⟨rfl, hK, hP, hB, hN⟩ := hv
  have hl := lv_entry ([.ref (B 1), .int a1]) (n := 2) (Nat.le_of_ble_eq_true rfl)
  rw [lg_entry_eq]
  generalize (lg_sl ([.ref (B 1), .int a1]) ++ List.replicate (2 - (lg_sl ([.ref (B 1), .int a1])).length) Slot.unset).toArray = ls at hl ⊢
  exact jb_X0_mayAskFor BB.exec BB.bytes hml (findClass_of_methodNamed BB.named) (atoms_spec (ws := wsX0_mayAskFor) BB.pre) hK hB hN (Nat.le_refl _) (Nat.le_refl _) h (fun v M1 H locs pc ls e1 hz hd hP hS => W.zret BB.exec BB.bytes BB.returns (jl_nar hz) (fun t ht hW => ⟨⟨_, (), rfl, by rw [← e1], by show va_P D vwCl (jx_w cI cT B z.2) t.heap; rw [ht, ← e1]; exact hP⟩, hS.F ht⟩) hS.2.2 hd BB.notSynchronized) hP va_S.rf hl
end
section
variable {p : Program} {l : Launch} {e : Env} {R : Room} {s : State} {m : MethodId} {args : Array Value} {below : List Frame} {meth : Method} {c : Code} {H : Heap} {locs : List Loc} {Q : State → Prop} {ls : Array Slot} {D : va_G} {cI cT : ClassId} {B : Nat → Nat} {M : jl_Mem} {H0 : Heap}
set_option maxHeartbeats 4000000 in
set_option maxRecDepth 100000 in
theorem jb_X0_isDepth (hx : p.tables.exec = Jvm.exec) (hb : c.code = cX0_isDepth) (hml : c.maxLocals = 3) (hown : s.vm.findClass RX0 = some m.cls) (hts : ∀ w ∈ wsX0_isDepth, w.before args s = true) (hK : va_K D vwCl (jx_ty cI cT) s) (hB : jx_inj B) (hN : jx_N s) (hRf : 2 ≤ R.frames) (hRl : 43 ≤ R.locals) {a1 : Int32} {a2 : Int32} {z : Int32 × jl_Mem} (h : jf_X0_isDepth a1 a2 M = some z)
    (kr : ∀ (v : Int32) (M1 : jl_Mem) (H1 : Heap) (locs1 : List Loc) (pc1 : Nat) (ls1 : Array Slot), (v, M1) = z → jl_isB v = true → decode cX0_isDepth pc1 = .ok (.ireturn, 1) → va_P D vwCl (jx_w cI cT B M1) H1 → va_S (jx_A B) H0 H1 locs1 → W p l e R s m args below meth c H1 locs1 0 0 Q (F0 m pc1 ls1 [.int v]))
    (hP : va_P D vwCl (jx_w cI cT B M) H) (hS : va_S (jx_A B) H0 H locs) (hl : lv_has ls 3 [(0, .ref (B 1)), (1, .int a1), (2, .int a2)]) : W p l e R s m args below meth c H locs 0 0 Q (F0 m 0 ls []) := by
  unfold jf_X0_isDepth at h
  have hiX0 : ∀ w ∈ wsX00, w ∈ wsX0_isDepth := by decide +kernel
  have hf25 := hts (.fieldLink RX0 25 "JudgesLists$Board" "lengths" "[I") (by decide +kernel)
  refine lv_iload_n hx hb dX0_isDepth_0 rfl (lv_at hl 2 rfl) ?_
  refine lv_iconst (v := 0) hx hb dX0_isDepth_1 (by decide) ?_
  refine lv_aload_n hx hb dX0_isDepth_2 rfl (lv_at hl 0 rfl) ?_
  refine lv_iload_n hx hb dX0_isDepth_3 rfl (lv_at hl 1 rfl) ?_
  obtain ⟨r_4, M_4, hc_4, h⟩ := jl_bnd_o h
  refine jx_callVi (As := [.int a1]) (rest := [.int 0, .int a2]) ⟨hx, hb, hml, hown, hts⟩ (jc_X0_hasList hc_4) (cwV 1 hts gX0_isDepth_X0_hasList rfl rfl rfl (by decide +kernel) ⟨Nat.le_trans (by decide) hRf, Nat.le_trans (by decide) hRl⟩) (jx_rv_X0 hK hP) hK hB hN hP hS rfl dX0_isDepth_4 rfl hl.1 (Nat.le_of_ble_eq_true rfl) ⟨Nat.zero_le _, Nat.zero_le _⟩ (fun H locs hP hS => ?_)
  refine lv_if_eq (tgt := 19) hx hb dX0_isDepth_7 (by decide) (fun c_7 => ?_) (fun c_7 => ?_)
  · have h := jl_ift c_7 h
    refine lv_iconst (v := 0) hx hb dX0_isDepth_19 (by decide) ?_
    obtain ⟨r_20, M_20, hc_20, h⟩ := jl_bnd_o h
    refine jx_callNi (As := [.int a2, .int 0, .int 0]) (rest := []) ⟨hx, hb, hml, hown, hts⟩ (jc_X4_within hc_20) ⟨va_cnB 3 hts gX0_isDepth_X4_within_n48 rfl rfl rfl hN.1 (hts (.initialized RX4) (by decide +kernel)) (by decide +kernel) ⟨Nat.le_trans (by decide) hRf, Nat.le_trans (by decide) hRl⟩, hts (.static yX4_within) (by decide +kernel), trivial⟩ hK hB hN hP hS rfl dX0_isDepth_20 rfl hl.1 (Nat.le_of_ble_eq_true rfl) ⟨Nat.zero_le _, Nat.zero_le _⟩ (fun H locs hP hS => ?_)
    obtain ⟨i_23, h⟩ := jl_chk_o h
    exact kr _ _ _ _ _ _ (Option.some.inj h) i_23 dX0_isDepth_23 hP hS
  · have h := jl_iff c_7 h
    refine lv_aload_n hx hb dX0_isDepth_10 rfl (lv_at hl 0 rfl) ?_
    refine jx_g_X0_lengths hx hb hts hiX0 hown hK hP hf25 dX0_isDepth_11 ?_
    refine lv_iload_n hx hb dX0_isDepth_14 rfl (lv_at hl 1 rfl) ?_
    obtain ⟨i_15, h⟩ := jl_chk_o h
    refine jx_iaload hx hb hK hP rfl i_15 dX0_isDepth_15 ?_
    refine lv_goto (tgt := 20) hx hb dX0_isDepth_16 (by decide) ?_
    obtain ⟨r_20, M_20, hc_20, h⟩ := jl_bnd_o h
    refine jx_callNi (As := [.int a2, .int 0, .int (M_4 5 a1.toNatClampNeg)]) (rest := []) ⟨hx, hb, hml, hown, hts⟩ (jc_X4_within hc_20) ⟨va_cnB 3 hts gX0_isDepth_X4_within_n48 rfl rfl rfl hN.1 (hts (.initialized RX4) (by decide +kernel)) (by decide +kernel) ⟨Nat.le_trans (by decide) hRf, Nat.le_trans (by decide) hRl⟩, hts (.static yX4_within) (by decide +kernel), trivial⟩ hK hB hN hP hS rfl dX0_isDepth_20 rfl hl.1 (Nat.le_of_ble_eq_true rfl) ⟨Nat.zero_le _, Nat.zero_le _⟩ (fun H locs hP hS => ?_)
    obtain ⟨i_23, h⟩ := jl_chk_o h
    exact kr _ _ _ _ _ _ (Option.some.inj h) i_23 dX0_isDepth_23 hP hS
theorem jc_X0_isDepth {a1 : Int32} {a2 : Int32} {z : Int32 × jl_Mem} (h : jf_X0_isDepth a1 a2 M = some z) : Met l yX0_isDepth wsX0_isDepth ({ frames := 2, cells := 0, slots := 0, locals := 43 }) (va_Pc [.ref (B 1), .int a1, .int a2] (jx_U D cI cT B M)) (va_Qi (fun (q : Int32) (_ : Unit) => q = z.1) (fun _ t => va_P D vwCl (jx_w cI cT B z.2) t.heap) (jx_A B)) 0 0 (jx_A B) := by
  refine Met.ofW (cc := cX0_isDepth) (maxL := 3) (ret := (some .boolean)) (by decide) rfl ?_
  intro p e s m args below meth c s1 BB hml hv
  obtain ⟨rfl, hK, hP, hB, hN⟩ := hv
  have hl := lv_entry ([.ref (B 1), .int a1, .int a2]) (n := 3) (Nat.le_of_ble_eq_true rfl)
  rw [lg_entry_eq]
  generalize (lg_sl ([.ref (B 1), .int a1, .int a2]) ++ List.replicate (3 - (lg_sl ([.ref (B 1), .int a1, .int a2])).length) Slot.unset).toArray = ls at hl ⊢
  exact jb_X0_isDepth BB.exec BB.bytes hml (findClass_of_methodNamed BB.named) (atoms_spec (ws := wsX0_isDepth) BB.pre) hK hB hN (Nat.le_refl _) (Nat.le_refl _) h (fun v M1 H locs pc ls e1 hz hd hP hS => W.zret BB.exec BB.bytes BB.returns (jl_nar hz) (fun t ht hW => ⟨⟨_, (), rfl, by rw [← e1], by show va_P D vwCl (jx_w cI cT B z.2) t.heap; rw [ht, ← e1]; exact hP⟩, hS.F ht⟩) hS.2.2 hd BB.notSynchronized) hP va_S.rf hl
end
section
variable {p : Program} {l : Launch} {e : Env} {R : Room} {s : State} {m : MethodId} {args : Array Value} {below : List Frame} {meth : Method} {c : Code} {H : Heap} {locs : List Loc} {Q : State → Prop} {ls : Array Slot} {D : va_G} {cI cT : ClassId} {B : Nat → Nat} {M : jl_Mem} {H0 : Heap}
set_option maxHeartbeats 4000000 in
set_option maxRecDepth 100000 in
theorem jb_X0_depthRows (hx : p.tables.exec = Jvm.exec) (hb : c.code = cX0_depthRows) (hml : c.maxLocals = 3) (hown : s.vm.findClass RX0 = some m.cls) (hts : ∀ w ∈ wsX0_depthRows, w.before args s = true) (hK : va_K D vwCl (jx_ty cI cT) s) (hB : jx_inj B) (hN : jx_N s) (hRf : 0 ≤ R.frames) (hRl : 0 ≤ R.locals) {z : Int32 × jl_Mem} (h : jf_X0_depthRows M = some z)
    (kr : ∀ (v : Int32) (M1 : jl_Mem) (H1 : Heap) (locs1 : List Loc) (pc1 : Nat) (ls1 : Array Slot), (v, M1) = z → decode cX0_depthRows pc1 = .ok (.ireturn, 1) → va_P D vwCl (jx_w cI cT B M1) H1 → va_S (jx_A B) H0 H1 locs1 → W p l e R s m args below meth c H1 locs1 0 0 Q (F0 m pc1 ls1 [.int v]))
    (hP : va_P D vwCl (jx_w cI cT B M) H) (hS : va_S (jx_A B) H0 H locs) (hl : lv_has ls 3 [(0, .ref (B 1))]) : W p l e R s m args below meth c H locs 0 0 Q (F0 m 0 ls []) := by
  unfold jf_X0_depthRows at h
  have hiX0 : ∀ w ∈ wsX00, w ∈ wsX0_depthRows := by decide +kernel
  have hf52 := hts (.fieldLink RX0 52 "JudgesLists$Board" "lists" "I") (by decide +kernel)
  have hf25 := hts (.fieldLink RX0 25 "JudgesLists$Board" "lengths" "[I") (by decide +kernel)
  refine lv_iconst (v := 1) hx hb dX0_depthRows_0 (by decide) ?_
  refine lv_topi (fun x1_1 ex1_1 => ?_)
  have h := jl_lt_o h ex1_1
  refine lv_istore_n (lv' := [(1, .int x1_1), (0, .ref (B 1))]) hx hb dX0_depthRows_1 rfl hl (by decide) rfl (fun ls hl => ?_)
  refine lv_iconst (v := 0) hx hb dX0_depthRows_2 (by decide) ?_
  refine lv_topi (fun x2_3 ex2_3 => ?_)
  have h := jl_lt_o h ex2_3
  refine lv_istore_n (lv' := [(2, .int x2_3), (1, .int x1_1), (0, .ref (B 1))]) hx hb dX0_depthRows_3 rfl hl (by decide) rfl (fun ls hl => ?_)
  have k4 : ∀ (n4 : Nat) (x1L4 : Int32) (x2L4 : Int32) (ML4 : jl_Mem), jl_wh (fun q => jf_X0_depthRows_L4 q.1 q.2.1 q.2.2) n4 (x1L4, x2L4, ML4) = some z → ∀ (H : Heap) (locs : List Loc) (ls : Array Slot), va_P D vwCl (jx_w cI cT B ML4) H → va_S (jx_A B) H0 H locs → lv_has ls 3 [(0, .ref (B 1)), (1, .int x1L4), (2, .int x2L4)] → W p l e R s m args below meth c H locs 0 0 Q (F0 m 4 ls []) := by
    intro n4
    induction n4 with
    | zero => exact fun _ _ _ h => (jl_wh_0 h).elim
    | succ n4 ih4 =>
      intro x1L4 x2L4 ML4 h H locs ls hP hS hl
      obtain ⟨o4, h, hz4⟩ := jl_wh_s h
      replace h : jf_X0_depthRows_L4 x1L4 x2L4 ML4 = some o4 := h
      unfold jf_X0_depthRows_L4 at h
      refine lv_iload_n hx hb dX0_depthRows_4 rfl (lv_at hl 2 rfl) ?_
      refine lv_aload_n hx hb dX0_depthRows_5 rfl (lv_at hl 0 rfl) ?_
      refine jx_g_X0_lists hx hb hts hiX0 hown hK hP hf52 dX0_depthRows_6 ?_
      refine lv_icmp_ge (tgt := 29) hx hb dX0_depthRows_9 (by decide) (fun c_9 => ?_) (fun c_9 => ?_)
      · have h := jl_ift c_9 h
        have h := jl_ex_o h hz4
        refine lv_iload_n hx hb dX0_depthRows_29 rfl (lv_at hl 1 rfl) ?_
        exact kr _ _ _ _ _ _ (Option.some.inj h) dX0_depthRows_30 hP hS
      · have h := jl_iff c_9 h
        refine lv_iload_n hx hb dX0_depthRows_12 rfl (lv_at hl 1 rfl) ?_
        refine lv_aload_n hx hb dX0_depthRows_13 rfl (lv_at hl 0 rfl) ?_
        refine jx_g_X0_lengths hx hb hts hiX0 hown hK hP hf25 dX0_depthRows_14 ?_
        refine lv_iload_n hx hb dX0_depthRows_17 rfl (lv_at hl 2 rfl) ?_
        obtain ⟨i_18, h⟩ := jl_chk_o h
        refine jx_iaload hx hb hK hP rfl i_18 dX0_depthRows_18 ?_
        refine lv_iconst (v := 1) hx hb dX0_depthRows_19 (by decide) ?_
        refine lv_iadd hx hb dX0_depthRows_20 ?_
        refine lv_imul hx hb dX0_depthRows_21 ?_
        refine lv_topi (fun x1_22 ex1_22 => ?_)
        have h := jl_lt_o h ex1_22
        refine lv_istore_n (lv' := [(1, .int x1_22), (0, .ref (B 1)), (2, .int x2L4)]) hx hb dX0_depthRows_22 rfl hl (by decide) rfl (fun ls hl => ?_)
        obtain ⟨x2_23, ex2_23⟩ : ∃ y : Int32, y = x2L4 + 1 := ⟨_, rfl⟩
        have h := jl_lt_o h ex2_23
        refine lv_iinc (v := x2_23) (lv' := [(2, .int x2_23), (1, .int x1_22), (0, .ref (B 1))]) hx hb dX0_depthRows_23 hl (k := 2) rfl (by rw [ex2_23]; rfl) (by decide) rfl (fun ls hl => ?_)
        refine lv_goto (tgt := 4) hx hb dX0_depthRows_26 (by decide) ?_
        exact ih4 _ _ _ (jl_L (Option.some.inj h) hz4) _ _ _ hP hS (lv_sub hl [2, 1, 0] rfl)
  exact k4 _ _ _ _ h _ _ _ hP hS (lv_sub hl [2, 1, 0] rfl)
theorem jc_X0_depthRows {z : Int32 × jl_Mem} (h : jf_X0_depthRows M = some z) : Met l yX0_depthRows wsX0_depthRows ({ frames := 0, cells := 0, slots := 0, locals := 0 }) (va_Pc [.ref (B 1)] (jx_U D cI cT B M)) (va_Qi (fun (q : Int32) (_ : Unit) => q = z.1) (fun _ t => va_P D vwCl (jx_w cI cT B z.2) t.heap) (jx_A B)) 0 0 (jx_A B) := by
  refine Met.ofW (cc := cX0_depthRows) (maxL := 3) (ret := (some .int)) (by decide) rfl ?_
  intro p e s m args below meth c s1 BB hml hv
  obtain ⟨rfl, hK, hP, hB, hN⟩ := hv
  have hl := lv_entry ([.ref (B 1)]) (n := 3) (Nat.le_of_ble_eq_true rfl)
  rw [lg_entry_eq]
  generalize (lg_sl ([.ref (B 1)]) ++ List.replicate (3 - (lg_sl ([.ref (B 1)])).length) Slot.unset).toArray = ls at hl ⊢
  exact jb_X0_depthRows BB.exec BB.bytes hml (findClass_of_methodNamed BB.named) (atoms_spec (ws := wsX0_depthRows) BB.pre) hK hB hN (Nat.le_refl _) (Nat.le_refl _) h (fun v M1 H locs pc ls e1 hd hP hS => W.iret BB.exec BB.bytes BB.returns (fun t ht hW => ⟨⟨_, (), rfl, by rw [← e1], by show va_P D vwCl (jx_w cI cT B z.2) t.heap; rw [ht, ← e1]; exact hP⟩, hS.F ht⟩) hS.2.2 hd BB.notSynchronized) hP va_S.rf hl
end
section
variable {p : Program} {l : Launch} {e : Env} {R : Room} {s : State} {m : MethodId} {args : Array Value} {below : List Frame} {meth : Method} {c : Code} {H : Heap} {locs : List Loc} {Q : State → Prop} {ls : Array Slot} {D : va_G} {cI cT : ClassId} {B : Nat → Nat} {M : jl_Mem} {H0 : Heap}
set_option maxHeartbeats 4000000 in
set_option maxRecDepth 100000 in
theorem jb_X0_addList (hx : p.tables.exec = Jvm.exec) (hb : c.code = cX0_addList) (hml : c.maxLocals = 5) (hown : s.vm.findClass RX0 = some m.cls) (hts : ∀ w ∈ wsX0_addList, w.before args s = true) (hK : va_K D vwCl (jx_ty cI cT) s) (hB : jx_inj B) (hN : jx_N s) (hRf : 0 ≤ R.frames) (hRl : 0 ≤ R.locals) {a1 : Int32} {a2 : Int32} {a3 : Int32} {z : Int32 × jl_Mem} (h : jf_X0_addList a1 a2 a3 M = some z)
    (kr : ∀ (v : Int32) (M1 : jl_Mem) (H1 : Heap) (locs1 : List Loc) (pc1 : Nat) (ls1 : Array Slot), (v, M1) = z → decode cX0_addList pc1 = .ok (.ireturn, 1) → va_P D vwCl (jx_w cI cT B M1) H1 → va_S (jx_A B) H0 H1 locs1 → W p l e R s m args below meth c H1 locs1 0 0 Q (F0 m pc1 ls1 [.int v]))
    (hP : va_P D vwCl (jx_w cI cT B M) H) (hS : va_S (jx_A B) H0 H locs) (hl : lv_has ls 5 [(0, .ref (B 1)), (1, .int a1), (2, .int a2), (3, .int a3)]) : W p l e R s m args below meth c H locs 0 0 Q (F0 m 0 ls []) := by
  unfold jf_X0_addList at h
  have hiX0 : ∀ w ∈ wsX00, w ∈ wsX0_addList := by decide +kernel
  have hf52 := hts (.fieldLink RX0 52 "JudgesLists$Board" "lists" "I") (by decide +kernel)
  have hf15 := hts (.fieldLink RX0 15 "JudgesLists$Board" "weights" "[I") (by decide +kernel)
  have hf19 := hts (.fieldLink RX0 19 "JudgesLists$Board" "downs" "[I") (by decide +kernel)
  have hf22 := hts (.fieldLink RX0 22 "JudgesLists$Board" "ups" "[I") (by decide +kernel)
  refine lv_aload_n hx hb dX0_addList_0 rfl (lv_at hl 0 rfl) ?_
  refine jx_g_X0_lists hx hb hts hiX0 hown hK hP hf52 dX0_addList_1 ?_
  refine lv_topi (fun x4_4 ex4_4 => ?_)
  have h := jl_lt_o h ex4_4
  refine lv_istore (lv' := [(4, .int x4_4), (0, .ref (B 1)), (1, .int a1), (2, .int a2), (3, .int a3)]) hx hb dX0_addList_4 hl (by decide) rfl (fun ls hl => ?_)
  refine lv_aload_n hx hb dX0_addList_6 rfl (lv_at hl 1 rfl) ?_
  refine jx_g_X0_weights hx hb hts hiX0 hown hK hP hf15 dX0_addList_7 ?_
  refine lv_iload hx hb dX0_addList_10 (lv_at hl 0 rfl) ?_
  refine lv_iload_n hx hb dX0_addList_12 rfl (lv_at hl 2 rfl) ?_
  obtain ⟨i_13, h⟩ := jl_chk_o h
  refine jx_iastore hx hb hK hB hP hS rfl i_13 dX0_addList_13 (fun M_13 H locs eM_13 hP hS => ?_)
  have h := jl_lt_o h eM_13
  refine lv_aload_n hx hb dX0_addList_14 rfl (lv_at hl 1 rfl) ?_
  refine jx_g_X0_downs hx hb hts hiX0 hown hK hP hf19 dX0_addList_15 ?_
  refine lv_iload hx hb dX0_addList_18 (lv_at hl 0 rfl) ?_
  refine lv_iload_n hx hb dX0_addList_20 rfl (lv_at hl 3 rfl) ?_
  refine jx_iastore hx hb hK hB hP hS rfl i_13 dX0_addList_21 (fun M_21 H locs eM_21 hP hS => ?_)
  have h := jl_lt_o h eM_21
  refine lv_aload_n hx hb dX0_addList_22 rfl (lv_at hl 1 rfl) ?_
  refine jx_g_X0_ups hx hb hts hiX0 hown hK hP hf22 dX0_addList_23 ?_
  refine lv_iload hx hb dX0_addList_26 (lv_at hl 0 rfl) ?_
  refine lv_iload_n hx hb dX0_addList_28 rfl (lv_at hl 4 rfl) ?_
  refine jx_iastore hx hb hK hB hP hS rfl i_13 dX0_addList_29 (fun M_29 H locs eM_29 hP hS => ?_)
  have h := jl_lt_o h eM_29
  refine lv_aload_n hx hb dX0_addList_30 rfl (lv_at hl 1 rfl) ?_
  refine lv_dup hx hb dX0_addList_31 rfl ?_
  refine jx_g_X0_lists hx hb hts hiX0 hown hK hP hf52 dX0_addList_32 ?_
  refine lv_iconst (v := 1) hx hb dX0_addList_35 (by decide) ?_
  refine lv_iadd hx hb dX0_addList_36 ?_
  refine jx_p_X0_lists hx hb hts hiX0 hown hK hB hP hS hf52 dX0_addList_37 (fun M_37 H locs eM_37 hP hS => ?_)
  have h := jl_lt_o h eM_37
  refine lv_iload hx hb dX0_addList_40 (lv_at hl 0 rfl) ?_
  exact kr _ _ _ _ _ _ (Option.some.inj h) dX0_addList_42 hP hS
theorem jc_X0_addList {a1 : Int32} {a2 : Int32} {a3 : Int32} {z : Int32 × jl_Mem} (h : jf_X0_addList a1 a2 a3 M = some z) : Met l yX0_addList wsX0_addList ({ frames := 0, cells := 0, slots := 0, locals := 0 }) (va_Pc [.ref (B 1), .int a1, .int a2, .int a3] (jx_U D cI cT B M)) (va_Qi (fun (q : Int32) (_ : Unit) => q = z.1) (fun _ t => va_P D vwCl (jx_w cI cT B z.2) t.heap) (jx_A B)) 0 0 (jx_A B) := by
  refine Met.ofW (cc := cX0_addList) (maxL := 5) (ret := (some .int)) (by decide) rfl ?_
  intro p e s m args below meth c s1 BB hml hv
  obtain ⟨rfl, hK, hP, hB, hN⟩ := hv
  have hl := lv_entry ([.ref (B 1), .int a1, .int a2, .int a3]) (n := 5) (Nat.le_of_ble_eq_true rfl)
  rw [lg_entry_eq]
  generalize (lg_sl ([.ref (B 1), .int a1, .int a2, .int a3]) ++ List.replicate (5 - (lg_sl ([.ref (B 1), .int a1, .int a2, .int a3])).length) Slot.unset).toArray = ls at hl ⊢
  exact jb_X0_addList BB.exec BB.bytes hml (findClass_of_methodNamed BB.named) (atoms_spec (ws := wsX0_addList) BB.pre) hK hB hN (Nat.le_refl _) (Nat.le_refl _) h (fun v M1 H locs pc ls e1 hd hP hS => W.iret BB.exec BB.bytes BB.returns (fun t ht hW => ⟨⟨_, (), rfl, by rw [← e1], by show va_P D vwCl (jx_w cI cT B z.2) t.heap; rw [ht, ← e1]; exact hP⟩, hS.F ht⟩) hS.2.2 hd BB.notSynchronized) hP va_S.rf hl
end
section
variable {p : Program} {l : Launch} {e : Env} {R : Room} {s : State} {m : MethodId} {args : Array Value} {below : List Frame} {meth : Method} {c : Code} {H : Heap} {locs : List Loc} {Q : State → Prop} {ls : Array Slot} {D : va_G} {cI cT : ClassId} {B : Nat → Nat} {M : jl_Mem} {H0 : Heap}
set_option maxHeartbeats 4000000 in
set_option maxRecDepth 100000 in
theorem jb_X4_yes (hx : p.tables.exec = Jvm.exec) (hb : c.code = cX4_yes) (hml : c.maxLocals = 1) (hown : s.vm.findClass RX4 = some m.cls) (hts : ∀ w ∈ wsX4_yes, w.before args s = true) (hK : va_K D vwCl (jx_ty cI cT) s) (hB : jx_inj B) (hN : jx_N s) (hRf : 0 ≤ R.frames) (hRl : 0 ≤ R.locals) {a1 : Int32} {z : Int32 × jl_Mem} (h : jf_X4_yes a1 M = some z)
    (kr : ∀ (v : Int32) (M1 : jl_Mem) (H1 : Heap) (locs1 : List Loc) (pc1 : Nat) (ls1 : Array Slot), (v, M1) = z → decode cX4_yes pc1 = .ok (.ireturn, 1) → va_P D vwCl (jx_w cI cT B M1) H1 → va_S (jx_A B) H0 H1 locs1 → W p l e R s m args below meth c H1 locs1 0 0 Q (F0 m pc1 ls1 [.int v]))
    (hP : va_P D vwCl (jx_w cI cT B M) H) (hS : va_S (jx_A B) H0 H locs) (hl : lv_has ls 1 [(0, .int a1)]) : W p l e R s m args below meth c H locs 0 0 Q (F0 m 0 ls []) := by
  unfold jf_X4_yes at h
  refine lv_iload_n hx hb dX4_yes_0 rfl (lv_at hl 0 rfl) ?_
  refine lv_if_eq (tgt := 8) hx hb dX4_yes_1 (by decide) (fun c_1 => ?_) (fun c_1 => ?_)
  · have h := jl_ift c_1 h
    refine lv_iconst (v := 0) hx hb dX4_yes_8 (by decide) ?_
    exact kr _ _ _ _ _ _ (Option.some.inj h) dX4_yes_9 hP hS
  · have h := jl_iff c_1 h
    refine lv_iconst (v := 1) hx hb dX4_yes_4 (by decide) ?_
    refine lv_goto (tgt := 9) hx hb dX4_yes_5 (by decide) ?_
    exact kr _ _ _ _ _ _ (Option.some.inj h) dX4_yes_9 hP hS
theorem jc_X4_yes {a1 : Int32} {z : Int32 × jl_Mem} (h : jf_X4_yes a1 M = some z) : Met l yX4_yes wsX4_yes ({ frames := 0, cells := 0, slots := 0, locals := 0 }) (va_Pc [.int a1] (jx_U D cI cT B M)) (va_Qi (fun (q : Int32) (_ : Unit) => q = z.1) (fun _ t => va_P D vwCl (jx_w cI cT B z.2) t.heap) (jx_A B)) 0 0 (jx_A B) := by
  refine Met.ofW (cc := cX4_yes) (maxL := 1) (ret := (some .int)) (by decide) rfl ?_
  intro p e s m args below meth c s1 BB hml hv
  obtain ⟨rfl, hK, hP, hB, hN⟩ := hv
  have hl := lv_entry ([.int a1]) (n := 1) (Nat.le_of_ble_eq_true rfl)
  rw [lg_entry_eq]
  generalize (lg_sl ([.int a1]) ++ List.replicate (1 - (lg_sl ([.int a1])).length) Slot.unset).toArray = ls at hl ⊢
  exact jb_X4_yes BB.exec BB.bytes hml (findClass_of_methodNamed BB.named) (atoms_spec (ws := wsX4_yes) BB.pre) hK hB hN (Nat.le_refl _) (Nat.le_refl _) h (fun v M1 H locs pc ls e1 hd hP hS => W.iret BB.exec BB.bytes BB.returns (fun t ht hW => ⟨⟨_, (), rfl, by rw [← e1], by show va_P D vwCl (jx_w cI cT B z.2) t.heap; rw [ht, ← e1]; exact hP⟩, hS.F ht⟩) hS.2.2 hd BB.notSynchronized) hP va_S.rf hl
end
section
variable {p : Program} {l : Launch} {e : Env} {R : Room} {s : State} {m : MethodId} {args : Array Value} {below : List Frame} {meth : Method} {c : Code} {H : Heap} {locs : List Loc} {Q : State → Prop} {ls : Array Slot} {D : va_G} {cI cT : ClassId} {B : Nat → Nat} {M : jl_Mem} {H0 : Heap}
set_option maxHeartbeats 4000000 in
set_option maxRecDepth 100000 in
theorem jb_X4_comesFirst (hx : p.tables.exec = Jvm.exec) (hb : c.code = cX4_comesFirst) (hml : c.maxLocals = 4) (hown : s.vm.findClass RX4 = some m.cls) (hts : ∀ w ∈ wsX4_comesFirst, w.before args s = true) (hK : va_K D vwCl (jx_ty cI cT) s) (hB : jx_inj B) (hN : jx_N s) (hRf : 0 ≤ R.frames) (hRl : 0 ≤ R.locals) {a1 : Int32} {a2 : Int32} {a3 : Int32} {a4 : Int32} {z : Int32 × jl_Mem} (h : jf_X4_comesFirst a1 a2 a3 a4 M = some z)
    (kr : ∀ (v : Int32) (M1 : jl_Mem) (H1 : Heap) (locs1 : List Loc) (pc1 : Nat) (ls1 : Array Slot), (v, M1) = z → jl_isB v = true → decode cX4_comesFirst pc1 = .ok (.ireturn, 1) → va_P D vwCl (jx_w cI cT B M1) H1 → va_S (jx_A B) H0 H1 locs1 → W p l e R s m args below meth c H1 locs1 0 0 Q (F0 m pc1 ls1 [.int v]))
    (hP : va_P D vwCl (jx_w cI cT B M) H) (hS : va_S (jx_A B) H0 H locs) (hl : lv_has ls 4 [(0, .int a1), (1, .int a2), (2, .int a3), (3, .int a4)]) : W p l e R s m args below meth c H locs 0 0 Q (F0 m 0 ls []) := by
  unfold jf_X4_comesFirst at h
  refine lv_iload_n hx hb dX4_comesFirst_0 rfl (lv_at hl 1 rfl) ?_
  refine lv_iload_n hx hb dX4_comesFirst_1 rfl (lv_at hl 3 rfl) ?_
  refine lv_icmp_gt (tgt := 15) hx hb dX4_comesFirst_2 (by decide) (fun c_2 => ?_) (fun c_2 => ?_)
  · have h := jl_ift c_2 h
    refine lv_iconst (v := 1) hx hb dX4_comesFirst_15 (by decide) ?_
    refine lv_goto (tgt := 20) hx hb dX4_comesFirst_16 (by decide) ?_
    exact kr _ _ _ _ _ _ (Option.some.inj h) (by decide) dX4_comesFirst_20 hP hS
  · have h := jl_iff c_2 h
    refine lv_iload_n hx hb dX4_comesFirst_5 rfl (lv_at hl 1 rfl) ?_
    refine lv_iload_n hx hb dX4_comesFirst_6 rfl (lv_at hl 3 rfl) ?_
    refine lv_icmp_ne (tgt := 19) hx hb dX4_comesFirst_7 (by decide) (fun c_7 => ?_) (fun c_7 => ?_)
    · have h := jl_iff c_7 h
      refine lv_iconst (v := 0) hx hb dX4_comesFirst_19 (by decide) ?_
      exact kr _ _ _ _ _ _ (Option.some.inj h) (by decide) dX4_comesFirst_20 hP hS
    · have h := jl_ift c_7 h
      refine lv_iload_n hx hb dX4_comesFirst_10 rfl (lv_at hl 0 rfl) ?_
      refine lv_iload_n hx hb dX4_comesFirst_11 rfl (lv_at hl 2 rfl) ?_
      refine lv_icmp_ge (tgt := 19) hx hb dX4_comesFirst_12 (by decide) (fun c_12 => ?_) (fun c_12 => ?_)
      · have h := jl_ift c_12 h
        refine lv_iconst (v := 0) hx hb dX4_comesFirst_19 (by decide) ?_
        exact kr _ _ _ _ _ _ (Option.some.inj h) (by decide) dX4_comesFirst_20 hP hS
      · have h := jl_iff c_12 h
        refine lv_iconst (v := 1) hx hb dX4_comesFirst_15 (by decide) ?_
        refine lv_goto (tgt := 20) hx hb dX4_comesFirst_16 (by decide) ?_
        exact kr _ _ _ _ _ _ (Option.some.inj h) (by decide) dX4_comesFirst_20 hP hS
theorem jc_X4_comesFirst {a1 : Int32} {a2 : Int32} {a3 : Int32} {a4 : Int32} {z : Int32 × jl_Mem} (h : jf_X4_comesFirst a1 a2 a3 a4 M = some z) : Met l yX4_comesFirst wsX4_comesFirst ({ frames := 0, cells := 0, slots := 0, locals := 0 }) (va_Pc [.int a1, .int a2, .int a3, .int a4] (jx_U D cI cT B M)) (va_Qi (fun (q : Int32) (_ : Unit) => q = z.1) (fun _ t => va_P D vwCl (jx_w cI cT B z.2) t.heap) (jx_A B)) 0 0 (jx_A B) := by
  refine Met.ofW (cc := cX4_comesFirst) (maxL := 4) (ret := (some .boolean)) (by decide) rfl ?_
  intro p e s m args below meth c s1 BB hml hv
  obtain ⟨rfl, hK, hP, hB, hN⟩ := hv
  have hl := lv_entry ([.int a1, .int a2, .int a3, .int a4]) (n := 4) (Nat.le_of_ble_eq_true rfl)
  rw [lg_entry_eq]
  generalize (lg_sl ([.int a1, .int a2, .int a3, .int a4]) ++ List.replicate (4 - (lg_sl ([.int a1, .int a2, .int a3, .int a4])).length) Slot.unset).toArray = ls at hl ⊢
  exact jb_X4_comesFirst BB.exec BB.bytes hml (findClass_of_methodNamed BB.named) (atoms_spec (ws := wsX4_comesFirst) BB.pre) hK hB hN (Nat.le_refl _) (Nat.le_refl _) h (fun v M1 H locs pc ls e1 hz hd hP hS => W.zret BB.exec BB.bytes BB.returns (jl_nar hz) (fun t ht hW => ⟨⟨_, (), rfl, by rw [← e1], by show va_P D vwCl (jx_w cI cT B z.2) t.heap; rw [ht, ← e1]; exact hP⟩, hS.F ht⟩) hS.2.2 hd BB.notSynchronized) hP va_S.rf hl
end
section
variable {p : Program} {l : Launch} {e : Env} {R : Room} {s : State} {m : MethodId} {args : Array Value} {below : List Frame} {meth : Method} {c : Code} {H : Heap} {locs : List Loc} {Q : State → Prop} {ls : Array Slot} {D : va_G} {cI cT : ClassId} {B : Nat → Nat} {M : jl_Mem} {H0 : Heap}
set_option maxHeartbeats 4000000 in
set_option maxRecDepth 100000 in
theorem jb_X0_rankOf (hx : p.tables.exec = Jvm.exec) (hb : c.code = cX0_rankOf) (hml : c.maxLocals = 5) (hown : s.vm.findClass RX0 = some m.cls) (hts : ∀ w ∈ wsX0_rankOf, w.before args s = true) (hK : va_K D vwCl (jx_ty cI cT) s) (hB : jx_inj B) (hN : jx_N s) (hRf : 1 ≤ R.frames) (hRl : 23 ≤ R.locals) {a1 : Int32} {a2 : Nat} {z : Int32 × jl_Mem} (h : jf_X0_rankOf a1 a2 M = some z)
    (kr : ∀ (v : Int32) (M1 : jl_Mem) (H1 : Heap) (locs1 : List Loc) (pc1 : Nat) (ls1 : Array Slot), (v, M1) = z → decode cX0_rankOf pc1 = .ok (.ireturn, 1) → va_P D vwCl (jx_w cI cT B M1) H1 → va_S (jx_A B) H0 H1 locs1 → W p l e R s m args below meth c H1 locs1 0 0 Q (F0 m pc1 ls1 [.int v]))
    (hP : va_P D vwCl (jx_w cI cT B M) H) (hS : va_S (jx_A B) H0 H locs) (hl : lv_has ls 5 [(0, .ref (B 1)), (1, .int a1), (2, .ref (B a2))]) : W p l e R s m args below meth c H locs 0 0 Q (F0 m 0 ls []) := by
  unfold jf_X0_rankOf at h
  have hiX0 : ∀ w ∈ wsX00, w ∈ wsX0_rankOf := by decide +kernel
  have hf45 := hts (.fieldLink RX0 45 "JudgesLists$Board" "things" "I") (by decide +kernel)
  refine lv_iconst (v := 0) hx hb dX0_rankOf_0 (by decide) ?_
  refine lv_topi (fun x3_1 ex3_1 => ?_)
  have h := jl_lt_o h ex3_1
  refine lv_istore_n (lv' := [(3, .int x3_1), (0, .ref (B 1)), (1, .int a1), (2, .ref (B a2))]) hx hb dX0_rankOf_1 rfl hl (by decide) rfl (fun ls hl => ?_)
  refine lv_iconst (v := 0) hx hb dX0_rankOf_2 (by decide) ?_
  refine lv_topi (fun x4_3 ex4_3 => ?_)
  have h := jl_lt_o h ex4_3
  refine lv_istore (lv' := [(4, .int x4_3), (3, .int x3_1), (0, .ref (B 1)), (1, .int a1), (2, .ref (B a2))]) hx hb dX0_rankOf_3 hl (by decide) rfl (fun ls hl => ?_)
  have k5 : ∀ (n5 : Nat) (x3L5 : Int32) (x4L5 : Int32) (ML5 : jl_Mem), jl_wh (fun q => jf_X0_rankOf_L5 a1 a2 q.1 q.2.1 q.2.2) n5 (x3L5, x4L5, ML5) = some z → ∀ (H : Heap) (locs : List Loc) (ls : Array Slot), va_P D vwCl (jx_w cI cT B ML5) H → va_S (jx_A B) H0 H locs → lv_has ls 5 [(0, .ref (B 1)), (1, .int a1), (2, .ref (B a2)), (3, .int x3L5), (4, .int x4L5)] → W p l e R s m args below meth c H locs 0 0 Q (F0 m 5 ls []) := by
    intro n5
    induction n5 with
    | zero => exact fun _ _ _ h => (jl_wh_0 h).elim
    | succ n5 ih5 =>
      intro x3L5 x4L5 ML5 h H locs ls hP hS hl
      obtain ⟨o5, h, hz5⟩ := jl_wh_s h
      replace h : jf_X0_rankOf_L5 a1 a2 x3L5 x4L5 ML5 = some o5 := h
      unfold jf_X0_rankOf_L5 at h
      refine lv_iload hx hb dX0_rankOf_5 (lv_at hl 4 rfl) ?_
      refine lv_aload_n hx hb dX0_rankOf_7 rfl (lv_at hl 0 rfl) ?_
      refine jx_g_X0_things hx hb hts hiX0 hown hK hP hf45 dX0_rankOf_8 ?_
      refine lv_icmp_ge (tgt := 39) hx hb dX0_rankOf_11 (by decide) (fun c_11 => ?_) (fun c_11 => ?_)
      · have h := jl_ift c_11 h
        have h := jl_ex_o h hz5
        refine lv_iload_n hx hb dX0_rankOf_39 rfl (lv_at hl 3 rfl) ?_
        exact kr _ _ _ _ _ _ (Option.some.inj h) dX0_rankOf_40 hP hS
      · have h := jl_iff c_11 h
        refine lv_iload hx hb dX0_rankOf_14 (lv_at hl 4 rfl) ?_
        refine lv_aload_n hx hb dX0_rankOf_16 rfl (lv_at hl 2 rfl) ?_
        refine lv_iload hx hb dX0_rankOf_17 (lv_at hl 4 rfl) ?_
        obtain ⟨i_19, h⟩ := jl_chk_o h
        refine jx_iaload hx hb hK hP rfl i_19 dX0_rankOf_19 ?_
        refine lv_iload_n hx hb dX0_rankOf_20 rfl (lv_at hl 1 rfl) ?_
        refine lv_aload_n hx hb dX0_rankOf_21 rfl (lv_at hl 2 rfl) ?_
        refine lv_iload_n hx hb dX0_rankOf_22 rfl (lv_at hl 1 rfl) ?_
        obtain ⟨i_23, h⟩ := jl_chk_o h
        refine jx_iaload hx hb hK hP rfl i_23 dX0_rankOf_23 ?_
        obtain ⟨r_24, M_24, hc_24, h⟩ := jl_bnd_o h
        refine jx_callNi (As := [.int x4L5, .int (ML5 a2 x4L5.toNatClampNeg), .int a1, .int (ML5 a2 a1.toNatClampNeg)]) (rest := []) ⟨hx, hb, hml, hown, hts⟩ (jc_X4_comesFirst hc_24) ⟨va_cnB 4 hts gX0_rankOf_X4_comesFirst_n74 rfl rfl rfl hN.2.2.1 (hts (.initialized RX4) (by decide +kernel)) (by decide +kernel) ⟨Nat.le_trans (by decide) hRf, Nat.le_trans (by decide) hRl⟩, hts (.static yX4_comesFirst) (by decide +kernel), trivial⟩ hK hB hN hP hS rfl dX0_rankOf_24 rfl hl.1 (Nat.le_of_ble_eq_true rfl) ⟨Nat.zero_le _, Nat.zero_le _⟩ (fun H locs hP hS => ?_)
        refine lv_if_eq (tgt := 33) hx hb dX0_rankOf_27 (by decide) (fun c_27 => ?_) (fun c_27 => ?_)
        · have h := jl_ift c_27 h
          obtain ⟨x4_33, ex4_33⟩ : ∃ y : Int32, y = x4L5 + 1 := ⟨_, rfl⟩
          have h := jl_lt_o h ex4_33
          refine lv_iinc (v := x4_33) (lv' := [(4, .int x4_33), (0, .ref (B 1)), (1, .int a1), (2, .ref (B a2)), (3, .int x3L5)]) hx hb dX0_rankOf_33 hl (k := 4) rfl (by rw [ex4_33]; rfl) (by decide) rfl (fun ls hl => ?_)
          refine lv_goto (tgt := 5) hx hb dX0_rankOf_36 (by decide) ?_
          exact ih5 _ _ _ (jl_L (Option.some.inj h) hz5) _ _ _ hP hS (lv_sub hl [1, 2, 3, 4, 0] rfl)
        · have h := jl_iff c_27 h
          obtain ⟨x3_30, ex3_30⟩ : ∃ y : Int32, y = x3L5 + 1 := ⟨_, rfl⟩
          have h := jl_lt_o h ex3_30
          refine lv_iinc (v := x3_30) (lv' := [(3, .int x3_30), (0, .ref (B 1)), (1, .int a1), (2, .ref (B a2)), (4, .int x4L5)]) hx hb dX0_rankOf_30 hl (k := 3) rfl (by rw [ex3_30]; rfl) (by decide) rfl (fun ls hl => ?_)
          obtain ⟨x4_33, ex4_33⟩ : ∃ y : Int32, y = x4L5 + 1 := ⟨_, rfl⟩
          have h := jl_lt_o h ex4_33
          refine lv_iinc (v := x4_33) (lv' := [(4, .int x4_33), (3, .int x3_30), (0, .ref (B 1)), (1, .int a1), (2, .ref (B a2))]) hx hb dX0_rankOf_33 hl (k := 4) rfl (by rw [ex4_33]; rfl) (by decide) rfl (fun ls hl => ?_)
          refine lv_goto (tgt := 5) hx hb dX0_rankOf_36 (by decide) ?_
          exact ih5 _ _ _ (jl_L (Option.some.inj h) hz5) _ _ _ hP hS (lv_sub hl [2, 3, 4, 1, 0] rfl)
  exact k5 _ _ _ _ h _ _ _ hP hS (lv_sub hl [2, 3, 4, 1, 0] rfl)
theorem jc_X0_rankOf {a1 : Int32} {a2 : Nat} {z : Int32 × jl_Mem} (h : jf_X0_rankOf a1 a2 M = some z) : Met l yX0_rankOf wsX0_rankOf ({ frames := 1, cells := 0, slots := 0, locals := 23 }) (va_Pc [.ref (B 1), .int a1, .ref (B a2)] (jx_U D cI cT B M)) (va_Qi (fun (q : Int32) (_ : Unit) => q = z.1) (fun _ t => va_P D vwCl (jx_w cI cT B z.2) t.heap) (jx_A B)) 0 0 (jx_A B) := by
  refine Met.ofW (cc := cX0_rankOf) (maxL := 5) (ret := (some .int)) (by decide) rfl ?_
  intro p e s m args below meth c s1 BB hml hv
  obtain ⟨rfl, hK, hP, hB, hN⟩ := hv
  have hl := lv_entry ([.ref (B 1), .int a1, .ref (B a2)]) (n := 5) (Nat.le_of_ble_eq_true rfl)
  rw [lg_entry_eq]
  generalize (lg_sl ([.ref (B 1), .int a1, .ref (B a2)]) ++ List.replicate (5 - (lg_sl ([.ref (B 1), .int a1, .ref (B a2)])).length) Slot.unset).toArray = ls at hl ⊢
  exact jb_X0_rankOf BB.exec BB.bytes hml (findClass_of_methodNamed BB.named) (atoms_spec (ws := wsX0_rankOf) BB.pre) hK hB hN (Nat.le_refl _) (Nat.le_refl _) h (fun v M1 H locs pc ls e1 hd hP hS => W.iret BB.exec BB.bytes BB.returns (fun t ht hW => ⟨⟨_, (), rfl, by rw [← e1], by show va_P D vwCl (jx_w cI cT B z.2) t.heap; rw [ht, ← e1]; exact hP⟩, hS.F ht⟩) hS.2.2 hd BB.notSynchronized) hP va_S.rf hl
end
section
variable {p : Program} {l : Launch} {e : Env} {R : Room} {s : State} {m : MethodId} {args : Array Value} {below : List Frame} {meth : Method} {c : Code} {H : Heap} {locs : List Loc} {Q : State → Prop} {ls : Array Slot} {D : va_G} {cI cT : ClassId} {B : Nat → Nat} {M : jl_Mem} {H0 : Heap}
set_option maxHeartbeats 4000000 in
set_option maxRecDepth 100000 in
theorem jb_X0_orderRow (hx : p.tables.exec = Jvm.exec) (hb : c.code = cX0_orderRow) (hml : c.maxLocals = 5) (hown : s.vm.findClass RX0 = some m.cls) (hts : ∀ w ∈ wsX0_orderRow, w.before args s = true) (hK : va_K D vwCl (jx_ty cI cT) s) (hB : jx_inj B) (hN : jx_N s) (hRf : 2 ≤ R.frames) (hRl : 47 ≤ R.locals) {a1 : Int32} {z : Int32 × jl_Mem} (h : jf_X0_orderRow a1 M = some z)
    (kr : ∀ (M1 : jl_Mem) (H1 : Heap) (locs1 : List Loc) (pc1 : Nat) (ls1 : Array Slot), (0, M1) = z → decode cX0_orderRow pc1 = .ok (.return_, 1) → va_P D vwCl (jx_w cI cT B M1) H1 → va_S (jx_A B) H0 H1 locs1 → W p l e R s m args below meth c H1 locs1 0 0 Q (F0 m pc1 ls1 []))
    (hP : va_P D vwCl (jx_w cI cT B M) H) (hS : va_S (jx_A B) H0 H locs) (hl : lv_has ls 5 [(0, .ref (B 1)), (1, .int a1)]) : W p l e R s m args below meth c H locs 0 0 Q (F0 m 0 ls []) := by
  unfold jf_X0_orderRow at h
  have hiX0 : ∀ w ∈ wsX00, w ∈ wsX0_orderRow := by decide +kernel
  have hf30 := hts (.fieldLink RX0 30 "JudgesLists$Board" "marks" "[[I") (by decide +kernel)
  have hf45 := hts (.fieldLink RX0 45 "JudgesLists$Board" "things" "I") (by decide +kernel)
  have hf36 := hts (.fieldLink RX0 36 "JudgesLists$Board" "places" "[[I") (by decide +kernel)
  have hf33 := hts (.fieldLink RX0 33 "JudgesLists$Board" "rows" "[[I") (by decide +kernel)
  refine lv_aload_n hx hb dX0_orderRow_0 rfl (lv_at hl 0 rfl) ?_
  refine jx_g_X0_marks hx hb hts hiX0 hown hK hP hf30 dX0_orderRow_1 ?_
  refine lv_iload_n hx hb dX0_orderRow_4 rfl (lv_at hl 1 rfl) ?_
  obtain ⟨i_5, h⟩ := jl_chk_o h
  refine jx_aaload6 hx hb hK hP i_5 dX0_orderRow_5 ?_
  refine lv_astore_n (lv' := [(2, .ref (B (7 + a1.toNatClampNeg))), (0, .ref (B 1)), (1, .int a1)]) hx hb dX0_orderRow_6 rfl hl (by decide) rfl (fun ls hl => ?_)
  refine lv_iconst (v := 0) hx hb dX0_orderRow_7 (by decide) ?_
  refine lv_topi (fun x3_8 ex3_8 => ?_)
  have h := jl_lt_o h ex3_8
  refine lv_istore_n (lv' := [(3, .int x3_8), (2, .ref (B (7 + a1.toNatClampNeg))), (0, .ref (B 1)), (1, .int a1)]) hx hb dX0_orderRow_8 rfl hl (by decide) rfl (fun ls hl => ?_)
  have k9 : ∀ (n9 : Nat) (x3L9 : Int32) (ML9 : jl_Mem), jl_wh (fun q => jf_X0_orderRow_L9 a1 q.1 q.2) n9 (x3L9, ML9) = some z → ∀ (H : Heap) (locs : List Loc) (ls : Array Slot), va_P D vwCl (jx_w cI cT B ML9) H → va_S (jx_A B) H0 H locs → lv_has ls 5 [(0, .ref (B 1)), (1, .int a1), (2, .ref (B (7 + a1.toNatClampNeg))), (3, .int x3L9)] → W p l e R s m args below meth c H locs 0 0 Q (F0 m 9 ls []) := by
    intro n9
    induction n9 with
    | zero => exact fun _ _ h => (jl_wh_0 h).elim
    | succ n9 ih9 =>
      intro x3L9 ML9 h H locs ls hP hS hl
      obtain ⟨o9, h, hz9⟩ := jl_wh_s h
      replace h : jf_X0_orderRow_L9 a1 x3L9 ML9 = some o9 := h
      unfold jf_X0_orderRow_L9 at h
      refine lv_iload_n hx hb dX0_orderRow_9 rfl (lv_at hl 3 rfl) ?_
      refine lv_aload_n hx hb dX0_orderRow_10 rfl (lv_at hl 0 rfl) ?_
      refine jx_g_X0_things hx hb hts hiX0 hown hK hP hf45 dX0_orderRow_11 ?_
      refine lv_icmp_ge (tgt := 57) hx hb dX0_orderRow_14 (by decide) (fun c_14 => ?_) (fun c_14 => ?_)
      · have h := jl_ift c_14 h
        have h := jl_ex_o h hz9
        exact kr _ _ _ _ _ (Option.some.inj h) dX0_orderRow_57 hP hS
      · have h := jl_iff c_14 h
        refine lv_aload_n hx hb dX0_orderRow_17 rfl (lv_at hl 2 rfl) ?_
        refine lv_iload_n hx hb dX0_orderRow_18 rfl (lv_at hl 3 rfl) ?_
        obtain ⟨i_19, h⟩ := jl_chk_o h
        refine jx_iaload hx hb hK hP (jx_lr7 i_5) i_19 dX0_orderRow_19 ?_
        refine lv_if_eq (tgt := 51) hx hb dX0_orderRow_20 (by decide) (fun c_20 => ?_) (fun c_20 => ?_)
        · have h := jl_ift c_20 h
          obtain ⟨x3_51, ex3_51⟩ : ∃ y : Int32, y = x3L9 + 1 := ⟨_, rfl⟩
          have h := jl_lt_o h ex3_51
          refine lv_iinc (v := x3_51) (lv' := [(3, .int x3_51), (0, .ref (B 1)), (1, .int a1), (2, .ref (B (7 + a1.toNatClampNeg)))]) hx hb dX0_orderRow_51 hl (k := 3) rfl (by rw [ex3_51]; rfl) (by decide) rfl (fun ls hl => ?_)
          refine lv_goto (tgt := 9) hx hb dX0_orderRow_54 (by decide) ?_
          exact ih9 _ _ (jl_L (Option.some.inj h) hz9) _ _ _ hP hS (lv_sub hl [1, 2, 3, 0] rfl)
        · have h := jl_iff c_20 h
          refine lv_aload_n hx hb dX0_orderRow_23 rfl (lv_at hl 0 rfl) ?_
          refine lv_iload_n hx hb dX0_orderRow_24 rfl (lv_at hl 3 rfl) ?_
          refine lv_aload_n hx hb dX0_orderRow_25 rfl (lv_at hl 2 rfl) ?_
          obtain ⟨r_26, M_26, hc_26, h⟩ := jl_bnd_o h
          refine jx_callVi (As := [.int x3L9, .ref (B (7 + a1.toNatClampNeg))]) (rest := []) ⟨hx, hb, hml, hown, hts⟩ (jc_X0_rankOf hc_26) (cwV 2 hts gX0_orderRow_X0_rankOf rfl rfl rfl (by decide +kernel) ⟨Nat.le_trans (by decide) hRf, Nat.le_trans (by decide) hRl⟩) (jx_rv_X0 hK hP) hK hB hN hP hS rfl dX0_orderRow_26 rfl hl.1 (Nat.le_of_ble_eq_true rfl) ⟨Nat.zero_le _, Nat.zero_le _⟩ (fun H locs hP hS => ?_)
          refine lv_topi (fun x4_29 ex4_29 => ?_)
          have h := jl_lt_o h ex4_29
          refine lv_istore (lv' := [(4, .int x4_29), (0, .ref (B 1)), (1, .int a1), (2, .ref (B (7 + a1.toNatClampNeg))), (3, .int x3L9)]) hx hb dX0_orderRow_29 hl (by decide) rfl (fun ls hl => ?_)
          refine lv_aload_n hx hb dX0_orderRow_31 rfl (lv_at hl 1 rfl) ?_
          refine jx_g_X0_places hx hb hts hiX0 hown hK hP hf36 dX0_orderRow_32 ?_
          refine lv_iload_n hx hb dX0_orderRow_35 rfl (lv_at hl 2 rfl) ?_
          refine jx_aaload16 hx hb hK hP i_5 dX0_orderRow_36 ?_
          refine lv_iload_n hx hb dX0_orderRow_37 rfl (lv_at hl 4 rfl) ?_
          refine lv_iload hx hb dX0_orderRow_38 (lv_at hl 0 rfl) ?_
          refine jx_iastore hx hb hK hB hP hS (jx_lr17 i_5) i_19 dX0_orderRow_40 (fun M_40 H locs eM_40 hP hS => ?_)
          have h := jl_lt_o h eM_40
          refine lv_aload_n hx hb dX0_orderRow_41 rfl (lv_at hl 1 rfl) ?_
          refine jx_g_X0_rows hx hb hts hiX0 hown hK hP hf33 dX0_orderRow_42 ?_
          refine lv_iload_n hx hb dX0_orderRow_45 rfl (lv_at hl 2 rfl) ?_
          refine jx_aaload11 hx hb hK hP i_5 dX0_orderRow_46 ?_
          refine lv_iload hx hb dX0_orderRow_47 (lv_at hl 0 rfl) ?_
          refine lv_iload_n hx hb dX0_orderRow_49 rfl (lv_at hl 4 rfl) ?_
          obtain ⟨i_50, h⟩ := jl_chk_o h
          refine jx_iastore hx hb hK hB hP hS (jx_lr12 i_5) i_50 dX0_orderRow_50 (fun M_50 H locs eM_50 hP hS => ?_)
          have h := jl_lt_o h eM_50
          obtain ⟨x3_51, ex3_51⟩ : ∃ y : Int32, y = x3L9 + 1 := ⟨_, rfl⟩
          have h := jl_lt_o h ex3_51
          refine lv_iinc (v := x3_51) (lv' := [(3, .int x3_51), (4, .int x4_29), (0, .ref (B 1)), (1, .int a1), (2, .ref (B (7 + a1.toNatClampNeg)))]) hx hb dX0_orderRow_51 hl (k := 4) rfl (by rw [ex3_51]; rfl) (by decide) rfl (fun ls hl => ?_)
          refine lv_goto (tgt := 9) hx hb dX0_orderRow_54 (by decide) ?_
          exact ih9 _ _ (jl_L (Option.some.inj h) hz9) _ _ _ hP hS (lv_sub hl [2, 3, 4, 0] rfl)
  exact k9 _ _ _ h _ _ _ hP hS (lv_sub hl [2, 3, 1, 0] rfl)
theorem jc_X0_orderRow {a1 : Int32} {z : Int32 × jl_Mem} (h : jf_X0_orderRow a1 M = some z) : Met l yX0_orderRow wsX0_orderRow ({ frames := 2, cells := 0, slots := 0, locals := 47 }) (va_Pc [.ref (B 1), .int a1] (jx_U D cI cT B M)) (va_Qv (fun (_ : Unit) => True) (fun _ t => va_P D vwCl (jx_w cI cT B z.2) t.heap) (jx_A B)) 0 0 (jx_A B) := by
  refine Met.ofW (cc := cX0_orderRow) (maxL := 5) (ret := none) (by decide) rfl ?_
  intro p e s m args below meth c s1 BB hml hv
  obtain ⟨rfl, hK, hP, hB, hN⟩ := hv
  have hl := lv_entry ([.ref (B 1), .int a1]) (n := 5) (Nat.le_of_ble_eq_true rfl)
  rw [lg_entry_eq]
  generalize (lg_sl ([.ref (B 1), .int a1]) ++ List.replicate (5 - (lg_sl ([.ref (B 1), .int a1])).length) Slot.unset).toArray = ls at hl ⊢
  exact jb_X0_orderRow BB.exec BB.bytes hml (findClass_of_methodNamed BB.named) (atoms_spec (ws := wsX0_orderRow) BB.pre) hK hB hN (Nat.le_refl _) (Nat.le_refl _) h (fun M1 H locs pc ls e1 hd hP hS => W.vret BB.exec BB.bytes BB.returns (fun t ht hW => ⟨⟨(), rfl, trivial, by show va_P D vwCl (jx_w cI cT B z.2) t.heap; rw [ht, ← e1]; exact hP⟩, hS.F ht⟩) hS.2.2 hd BB.notSynchronized) hP va_S.rf hl
end
section
variable {p : Program} {l : Launch} {e : Env} {R : Room} {s : State} {m : MethodId} {args : Array Value} {below : List Frame} {meth : Method} {c : Code} {H : Heap} {locs : List Loc} {Q : State → Prop} {ls : Array Slot} {D : va_G} {cI cT : ClassId} {B : Nat → Nat} {M : jl_Mem} {H0 : Heap}
set_option maxHeartbeats 4000000 in
set_option maxRecDepth 100000 in
theorem jb_X0_setMark (hx : p.tables.exec = Jvm.exec) (hb : c.code = cX0_setMark) (hml : c.maxLocals = 5) (hown : s.vm.findClass RX0 = some m.cls) (hts : ∀ w ∈ wsX0_setMark, w.before args s = true) (hK : va_K D vwCl (jx_ty cI cT) s) (hB : jx_inj B) (hN : jx_N s) (hRf : 3 ≤ R.frames) (hRl : 71 ≤ R.locals) {a1 : Int32} {a2 : Int32} {a3 : Int32} {z : Int32 × jl_Mem} (h : jf_X0_setMark a1 a2 a3 M = some z)
    (kr : ∀ (M1 : jl_Mem) (H1 : Heap) (locs1 : List Loc) (pc1 : Nat) (ls1 : Array Slot), (0, M1) = z → decode cX0_setMark pc1 = .ok (.return_, 1) → va_P D vwCl (jx_w cI cT B M1) H1 → va_S (jx_A B) H0 H1 locs1 → W p l e R s m args below meth c H1 locs1 0 0 Q (F0 m pc1 ls1 []))
    (hP : va_P D vwCl (jx_w cI cT B M) H) (hS : va_S (jx_A B) H0 H locs) (hl : lv_has ls 5 [(0, .ref (B 1)), (1, .int a1), (2, .int a2), (3, .int a3)]) : W p l e R s m args below meth c H locs 0 0 Q (F0 m 0 ls []) := by
  unfold jf_X0_setMark at h
  have hiX0 : ∀ w ∈ wsX00, w ∈ wsX0_setMark := by decide +kernel
  have hf30 := hts (.fieldLink RX0 30 "JudgesLists$Board" "marks" "[[I") (by decide +kernel)
  have hf25 := hts (.fieldLink RX0 25 "JudgesLists$Board" "lengths" "[I") (by decide +kernel)
  have hf63 := hts (.fieldLink RX0 63 "JudgesLists$Board" "markCount" "I") (by decide +kernel)
  refine lv_iload_n hx hb dX0_setMark_0 rfl (lv_at hl 3 rfl) ?_
  refine lv_if_eq (tgt := 8) hx hb dX0_setMark_1 (by decide) (fun c_1 => ?_) (fun c_1 => ?_)
  · have h := jl_ift c_1 h
    refine lv_iconst (v := 0) hx hb dX0_setMark_8 (by decide) ?_
    obtain ⟨r_9, M_9, hc_9, h⟩ := jl_bnd_o h
    refine jx_callNi (As := [.int 0]) (rest := []) ⟨hx, hb, hml, hown, hts⟩ (jc_X4_yes hc_9) ⟨va_cnB 1 hts gX0_setMark_X4_yes_n59 rfl rfl rfl hN.2.1 (hts (.initialized RX4) (by decide +kernel)) (by decide +kernel) ⟨Nat.le_trans (by decide) hRf, Nat.le_trans (by decide) hRl⟩, hts (.static yX4_yes) (by decide +kernel), trivial⟩ hK hB hN hP hS rfl dX0_setMark_9 rfl hl.1 (Nat.le_of_ble_eq_true rfl) ⟨Nat.zero_le _, Nat.zero_le _⟩ (fun H locs hP hS => ?_)
    refine lv_aload_n hx hb dX0_setMark_12 rfl (lv_at hl 0 rfl) ?_
    refine jx_g_X0_marks hx hb hts hiX0 hown hK hP hf30 dX0_setMark_13 ?_
    refine lv_iload_n hx hb dX0_setMark_16 rfl (lv_at hl 1 rfl) ?_
    obtain ⟨i_17, h⟩ := jl_chk_o h
    refine jx_aaload6 hx hb hK hP i_17 dX0_setMark_17 ?_
    refine lv_iload_n hx hb dX0_setMark_18 rfl (lv_at hl 2 rfl) ?_
    obtain ⟨i_19, h⟩ := jl_chk_o h
    refine jx_iaload hx hb hK hP (jx_lr7 i_17) i_19 dX0_setMark_19 ?_
    refine lv_if_eq (tgt := 27) hx hb dX0_setMark_20 (by decide) (fun c_20 => ?_) (fun c_20 => ?_)
    · have h := jl_ift c_20 h
      refine lv_iconst (v := 0) hx hb dX0_setMark_27 (by decide) ?_
      obtain ⟨r_28, M_28, hc_28, h⟩ := jl_bnd_o h
      refine jx_callNi (As := [.int 0]) (rest := [.int r_9]) ⟨hx, hb, hml, hown, hts⟩ (jc_X4_yes hc_28) ⟨va_cnB 1 hts gX0_setMark_X4_yes_n59 rfl rfl rfl hN.2.1 (hts (.initialized RX4) (by decide +kernel)) (by decide +kernel) ⟨Nat.le_trans (by decide) hRf, Nat.le_trans (by decide) hRl⟩, hts (.static yX4_yes) (by decide +kernel), trivial⟩ hK hB hN hP hS rfl dX0_setMark_28 rfl hl.1 (Nat.le_of_ble_eq_true rfl) ⟨Nat.zero_le _, Nat.zero_le _⟩ (fun H locs hP hS => ?_)
      refine lv_isub hx hb dX0_setMark_31 ?_
      refine lv_topi (fun x4_32 ex4_32 => ?_)
      have h := jl_lt_o h ex4_32
      refine lv_istore (lv' := [(4, .int x4_32), (0, .ref (B 1)), (1, .int a1), (2, .int a2), (3, .int a3)]) hx hb dX0_setMark_32 hl (by decide) rfl (fun ls hl => ?_)
      refine lv_aload_n hx hb dX0_setMark_34 rfl (lv_at hl 1 rfl) ?_
      refine jx_g_X0_marks hx hb hts hiX0 hown hK hP hf30 dX0_setMark_35 ?_
      refine lv_iload_n hx hb dX0_setMark_38 rfl (lv_at hl 2 rfl) ?_
      refine jx_aaload6 hx hb hK hP i_17 dX0_setMark_39 ?_
      refine lv_iload_n hx hb dX0_setMark_40 rfl (lv_at hl 3 rfl) ?_
      refine lv_iload_n hx hb dX0_setMark_41 rfl (lv_at hl 4 rfl) ?_
      refine jx_iastore hx hb hK hB hP hS (jx_lr7 i_17) i_19 dX0_setMark_42 (fun M_42 H locs eM_42 hP hS => ?_)
      have h := jl_lt_o h eM_42
      refine lv_aload_n hx hb dX0_setMark_43 rfl (lv_at hl 1 rfl) ?_
      refine jx_g_X0_lengths hx hb hts hiX0 hown hK hP hf25 dX0_setMark_44 ?_
      refine lv_iload_n hx hb dX0_setMark_47 rfl (lv_at hl 2 rfl) ?_
      refine lv_dup2_11 hx hb dX0_setMark_48 rfl rfl ?_
      refine jx_iaload hx hb hK hP rfl i_17 dX0_setMark_49 ?_
      refine lv_iload hx hb dX0_setMark_50 (lv_at hl 0 rfl) ?_
      refine lv_iadd hx hb dX0_setMark_52 ?_
      refine jx_iastore hx hb hK hB hP hS rfl i_17 dX0_setMark_53 (fun M_53 H locs eM_53 hP hS => ?_)
      have h := jl_lt_o h eM_53
      refine lv_aload_n hx hb dX0_setMark_54 rfl (lv_at hl 1 rfl) ?_
      refine lv_dup hx hb dX0_setMark_55 rfl ?_
      refine jx_g_X0_markCount hx hb hts hiX0 hown hK hP hf63 dX0_setMark_56 ?_
      refine lv_iload hx hb dX0_setMark_59 (lv_at hl 0 rfl) ?_
      refine lv_iadd hx hb dX0_setMark_61 ?_
      refine jx_p_X0_markCount hx hb hts hiX0 hown hK hB hP hS hf63 dX0_setMark_62 (fun M_62 H locs eM_62 hP hS => ?_)
      have h := jl_lt_o h eM_62
      refine lv_aload_n hx hb dX0_setMark_65 rfl (lv_at hl 1 rfl) ?_
      refine lv_iload_n hx hb dX0_setMark_66 rfl (lv_at hl 2 rfl) ?_
      obtain ⟨r_67, M_67, hc_67, h⟩ := jl_bnd_o h
      refine jx_callVv (As := [.int a1]) (rest := []) ⟨hx, hb, hml, hown, hts⟩ (jc_X0_orderRow hc_67) (cwV 1 hts gX0_setMark_X0_orderRow rfl rfl rfl (by decide +kernel) ⟨Nat.le_trans (by decide) hRf, Nat.le_trans (by decide) hRl⟩) (jx_rv_X0 hK hP) hK hB hN hP hS rfl dX0_setMark_67 rfl hl.1 (Nat.le_of_ble_eq_true rfl) ⟨Nat.zero_le _, Nat.zero_le _⟩ (fun H locs hP hS => ?_)
      exact kr _ _ _ _ _ (Option.some.inj h) dX0_setMark_70 hP hS
    · have h := jl_iff c_20 h
      refine lv_iconst (v := 1) hx hb dX0_setMark_23 (by decide) ?_
      refine lv_goto (tgt := 28) hx hb dX0_setMark_24 (by decide) ?_
      obtain ⟨r_28, M_28, hc_28, h⟩ := jl_bnd_o h
      refine jx_callNi (As := [.int 1]) (rest := [.int r_9]) ⟨hx, hb, hml, hown, hts⟩ (jc_X4_yes hc_28) ⟨va_cnB 1 hts gX0_setMark_X4_yes_n59 rfl rfl rfl hN.2.1 (hts (.initialized RX4) (by decide +kernel)) (by decide +kernel) ⟨Nat.le_trans (by decide) hRf, Nat.le_trans (by decide) hRl⟩, hts (.static yX4_yes) (by decide +kernel), trivial⟩ hK hB hN hP hS rfl dX0_setMark_28 rfl hl.1 (Nat.le_of_ble_eq_true rfl) ⟨Nat.zero_le _, Nat.zero_le _⟩ (fun H locs hP hS => ?_)
      refine lv_isub hx hb dX0_setMark_31 ?_
      refine lv_topi (fun x4_32 ex4_32 => ?_)
      have h := jl_lt_o h ex4_32
      refine lv_istore (lv' := [(4, .int x4_32), (0, .ref (B 1)), (1, .int a1), (2, .int a2), (3, .int a3)]) hx hb dX0_setMark_32 hl (by decide) rfl (fun ls hl => ?_)
      refine lv_aload_n hx hb dX0_setMark_34 rfl (lv_at hl 1 rfl) ?_
      refine jx_g_X0_marks hx hb hts hiX0 hown hK hP hf30 dX0_setMark_35 ?_
      refine lv_iload_n hx hb dX0_setMark_38 rfl (lv_at hl 2 rfl) ?_
      refine jx_aaload6 hx hb hK hP i_17 dX0_setMark_39 ?_
      refine lv_iload_n hx hb dX0_setMark_40 rfl (lv_at hl 3 rfl) ?_
      refine lv_iload_n hx hb dX0_setMark_41 rfl (lv_at hl 4 rfl) ?_
      refine jx_iastore hx hb hK hB hP hS (jx_lr7 i_17) i_19 dX0_setMark_42 (fun M_42 H locs eM_42 hP hS => ?_)
      have h := jl_lt_o h eM_42
      refine lv_aload_n hx hb dX0_setMark_43 rfl (lv_at hl 1 rfl) ?_
      refine jx_g_X0_lengths hx hb hts hiX0 hown hK hP hf25 dX0_setMark_44 ?_
      refine lv_iload_n hx hb dX0_setMark_47 rfl (lv_at hl 2 rfl) ?_
      refine lv_dup2_11 hx hb dX0_setMark_48 rfl rfl ?_
      refine jx_iaload hx hb hK hP rfl i_17 dX0_setMark_49 ?_
      refine lv_iload hx hb dX0_setMark_50 (lv_at hl 0 rfl) ?_
      refine lv_iadd hx hb dX0_setMark_52 ?_
      refine jx_iastore hx hb hK hB hP hS rfl i_17 dX0_setMark_53 (fun M_53 H locs eM_53 hP hS => ?_)
      have h := jl_lt_o h eM_53
      refine lv_aload_n hx hb dX0_setMark_54 rfl (lv_at hl 1 rfl) ?_
      refine lv_dup hx hb dX0_setMark_55 rfl ?_
      refine jx_g_X0_markCount hx hb hts hiX0 hown hK hP hf63 dX0_setMark_56 ?_
      refine lv_iload hx hb dX0_setMark_59 (lv_at hl 0 rfl) ?_
      refine lv_iadd hx hb dX0_setMark_61 ?_
      refine jx_p_X0_markCount hx hb hts hiX0 hown hK hB hP hS hf63 dX0_setMark_62 (fun M_62 H locs eM_62 hP hS => ?_)
      have h := jl_lt_o h eM_62
      refine lv_aload_n hx hb dX0_setMark_65 rfl (lv_at hl 1 rfl) ?_
      refine lv_iload_n hx hb dX0_setMark_66 rfl (lv_at hl 2 rfl) ?_
      obtain ⟨r_67, M_67, hc_67, h⟩ := jl_bnd_o h
      refine jx_callVv (As := [.int a1]) (rest := []) ⟨hx, hb, hml, hown, hts⟩ (jc_X0_orderRow hc_67) (cwV 1 hts gX0_setMark_X0_orderRow rfl rfl rfl (by decide +kernel) ⟨Nat.le_trans (by decide) hRf, Nat.le_trans (by decide) hRl⟩) (jx_rv_X0 hK hP) hK hB hN hP hS rfl dX0_setMark_67 rfl hl.1 (Nat.le_of_ble_eq_true rfl) ⟨Nat.zero_le _, Nat.zero_le _⟩ (fun H locs hP hS => ?_)
      exact kr _ _ _ _ _ (Option.some.inj h) dX0_setMark_70 hP hS
  · have h := jl_iff c_1 h
    refine lv_iconst (v := 1) hx hb dX0_setMark_4 (by decide) ?_
    refine lv_goto (tgt := 9) hx hb dX0_setMark_5 (by decide) ?_
    obtain ⟨r_9, M_9, hc_9, h⟩ := jl_bnd_o h
    refine jx_callNi (As := [.int 1]) (rest := []) ⟨hx, hb, hml, hown, hts⟩ (jc_X4_yes hc_9) ⟨va_cnB 1 hts gX0_setMark_X4_yes_n59 rfl rfl rfl hN.2.1 (hts (.initialized RX4) (by decide +kernel)) (by decide +kernel) ⟨Nat.le_trans (by decide) hRf, Nat.le_trans (by decide) hRl⟩, hts (.static yX4_yes) (by decide +kernel), trivial⟩ hK hB hN hP hS rfl dX0_setMark_9 rfl hl.1 (Nat.le_of_ble_eq_true rfl) ⟨Nat.zero_le _, Nat.zero_le _⟩ (fun H locs hP hS => ?_)
    refine lv_aload_n hx hb dX0_setMark_12 rfl (lv_at hl 0 rfl) ?_
    refine jx_g_X0_marks hx hb hts hiX0 hown hK hP hf30 dX0_setMark_13 ?_
    refine lv_iload_n hx hb dX0_setMark_16 rfl (lv_at hl 1 rfl) ?_
    obtain ⟨i_17, h⟩ := jl_chk_o h
    refine jx_aaload6 hx hb hK hP i_17 dX0_setMark_17 ?_
    refine lv_iload_n hx hb dX0_setMark_18 rfl (lv_at hl 2 rfl) ?_
    obtain ⟨i_19, h⟩ := jl_chk_o h
    refine jx_iaload hx hb hK hP (jx_lr7 i_17) i_19 dX0_setMark_19 ?_
    refine lv_if_eq (tgt := 27) hx hb dX0_setMark_20 (by decide) (fun c_20 => ?_) (fun c_20 => ?_)
    · have h := jl_ift c_20 h
      refine lv_iconst (v := 0) hx hb dX0_setMark_27 (by decide) ?_
      obtain ⟨r_28, M_28, hc_28, h⟩ := jl_bnd_o h
      refine jx_callNi (As := [.int 0]) (rest := [.int r_9]) ⟨hx, hb, hml, hown, hts⟩ (jc_X4_yes hc_28) ⟨va_cnB 1 hts gX0_setMark_X4_yes_n59 rfl rfl rfl hN.2.1 (hts (.initialized RX4) (by decide +kernel)) (by decide +kernel) ⟨Nat.le_trans (by decide) hRf, Nat.le_trans (by decide) hRl⟩, hts (.static yX4_yes) (by decide +kernel), trivial⟩ hK hB hN hP hS rfl dX0_setMark_28 rfl hl.1 (Nat.le_of_ble_eq_true rfl) ⟨Nat.zero_le _, Nat.zero_le _⟩ (fun H locs hP hS => ?_)
      refine lv_isub hx hb dX0_setMark_31 ?_
      refine lv_topi (fun x4_32 ex4_32 => ?_)
      have h := jl_lt_o h ex4_32
      refine lv_istore (lv' := [(4, .int x4_32), (0, .ref (B 1)), (1, .int a1), (2, .int a2), (3, .int a3)]) hx hb dX0_setMark_32 hl (by decide) rfl (fun ls hl => ?_)
      refine lv_aload_n hx hb dX0_setMark_34 rfl (lv_at hl 1 rfl) ?_
      refine jx_g_X0_marks hx hb hts hiX0 hown hK hP hf30 dX0_setMark_35 ?_
      refine lv_iload_n hx hb dX0_setMark_38 rfl (lv_at hl 2 rfl) ?_
      refine jx_aaload6 hx hb hK hP i_17 dX0_setMark_39 ?_
      refine lv_iload_n hx hb dX0_setMark_40 rfl (lv_at hl 3 rfl) ?_
      refine lv_iload_n hx hb dX0_setMark_41 rfl (lv_at hl 4 rfl) ?_
      refine jx_iastore hx hb hK hB hP hS (jx_lr7 i_17) i_19 dX0_setMark_42 (fun M_42 H locs eM_42 hP hS => ?_)
      have h := jl_lt_o h eM_42
      refine lv_aload_n hx hb dX0_setMark_43 rfl (lv_at hl 1 rfl) ?_
      refine jx_g_X0_lengths hx hb hts hiX0 hown hK hP hf25 dX0_setMark_44 ?_
      refine lv_iload_n hx hb dX0_setMark_47 rfl (lv_at hl 2 rfl) ?_
      refine lv_dup2_11 hx hb dX0_setMark_48 rfl rfl ?_
      refine jx_iaload hx hb hK hP rfl i_17 dX0_setMark_49 ?_
      refine lv_iload hx hb dX0_setMark_50 (lv_at hl 0 rfl) ?_
      refine lv_iadd hx hb dX0_setMark_52 ?_
      refine jx_iastore hx hb hK hB hP hS rfl i_17 dX0_setMark_53 (fun M_53 H locs eM_53 hP hS => ?_)
      have h := jl_lt_o h eM_53
      refine lv_aload_n hx hb dX0_setMark_54 rfl (lv_at hl 1 rfl) ?_
      refine lv_dup hx hb dX0_setMark_55 rfl ?_
      refine jx_g_X0_markCount hx hb hts hiX0 hown hK hP hf63 dX0_setMark_56 ?_
      refine lv_iload hx hb dX0_setMark_59 (lv_at hl 0 rfl) ?_
      refine lv_iadd hx hb dX0_setMark_61 ?_
      refine jx_p_X0_markCount hx hb hts hiX0 hown hK hB hP hS hf63 dX0_setMark_62 (fun M_62 H locs eM_62 hP hS => ?_)
      have h := jl_lt_o h eM_62
      refine lv_aload_n hx hb dX0_setMark_65 rfl (lv_at hl 1 rfl) ?_
      refine lv_iload_n hx hb dX0_setMark_66 rfl (lv_at hl 2 rfl) ?_
      obtain ⟨r_67, M_67, hc_67, h⟩ := jl_bnd_o h
      refine jx_callVv (As := [.int a1]) (rest := []) ⟨hx, hb, hml, hown, hts⟩ (jc_X0_orderRow hc_67) (cwV 1 hts gX0_setMark_X0_orderRow rfl rfl rfl (by decide +kernel) ⟨Nat.le_trans (by decide) hRf, Nat.le_trans (by decide) hRl⟩) (jx_rv_X0 hK hP) hK hB hN hP hS rfl dX0_setMark_67 rfl hl.1 (Nat.le_of_ble_eq_true rfl) ⟨Nat.zero_le _, Nat.zero_le _⟩ (fun H locs hP hS => ?_)
      exact kr _ _ _ _ _ (Option.some.inj h) dX0_setMark_70 hP hS
    · have h := jl_iff c_20 h
      refine lv_iconst (v := 1) hx hb dX0_setMark_23 (by decide) ?_
      refine lv_goto (tgt := 28) hx hb dX0_setMark_24 (by decide) ?_
      obtain ⟨r_28, M_28, hc_28, h⟩ := jl_bnd_o h
      refine jx_callNi (As := [.int 1]) (rest := [.int r_9]) ⟨hx, hb, hml, hown, hts⟩ (jc_X4_yes hc_28) ⟨va_cnB 1 hts gX0_setMark_X4_yes_n59 rfl rfl rfl hN.2.1 (hts (.initialized RX4) (by decide +kernel)) (by decide +kernel) ⟨Nat.le_trans (by decide) hRf, Nat.le_trans (by decide) hRl⟩, hts (.static yX4_yes) (by decide +kernel), trivial⟩ hK hB hN hP hS rfl dX0_setMark_28 rfl hl.1 (Nat.le_of_ble_eq_true rfl) ⟨Nat.zero_le _, Nat.zero_le _⟩ (fun H locs hP hS => ?_)
      refine lv_isub hx hb dX0_setMark_31 ?_
      refine lv_topi (fun x4_32 ex4_32 => ?_)
      have h := jl_lt_o h ex4_32
      refine lv_istore (lv' := [(4, .int x4_32), (0, .ref (B 1)), (1, .int a1), (2, .int a2), (3, .int a3)]) hx hb dX0_setMark_32 hl (by decide) rfl (fun ls hl => ?_)
      refine lv_aload_n hx hb dX0_setMark_34 rfl (lv_at hl 1 rfl) ?_
      refine jx_g_X0_marks hx hb hts hiX0 hown hK hP hf30 dX0_setMark_35 ?_
      refine lv_iload_n hx hb dX0_setMark_38 rfl (lv_at hl 2 rfl) ?_
      refine jx_aaload6 hx hb hK hP i_17 dX0_setMark_39 ?_
      refine lv_iload_n hx hb dX0_setMark_40 rfl (lv_at hl 3 rfl) ?_
      refine lv_iload_n hx hb dX0_setMark_41 rfl (lv_at hl 4 rfl) ?_
      refine jx_iastore hx hb hK hB hP hS (jx_lr7 i_17) i_19 dX0_setMark_42 (fun M_42 H locs eM_42 hP hS => ?_)
      have h := jl_lt_o h eM_42
      refine lv_aload_n hx hb dX0_setMark_43 rfl (lv_at hl 1 rfl) ?_
      refine jx_g_X0_lengths hx hb hts hiX0 hown hK hP hf25 dX0_setMark_44 ?_
      refine lv_iload_n hx hb dX0_setMark_47 rfl (lv_at hl 2 rfl) ?_
      refine lv_dup2_11 hx hb dX0_setMark_48 rfl rfl ?_
      refine jx_iaload hx hb hK hP rfl i_17 dX0_setMark_49 ?_
      refine lv_iload hx hb dX0_setMark_50 (lv_at hl 0 rfl) ?_
      refine lv_iadd hx hb dX0_setMark_52 ?_
      refine jx_iastore hx hb hK hB hP hS rfl i_17 dX0_setMark_53 (fun M_53 H locs eM_53 hP hS => ?_)
      have h := jl_lt_o h eM_53
      refine lv_aload_n hx hb dX0_setMark_54 rfl (lv_at hl 1 rfl) ?_
      refine lv_dup hx hb dX0_setMark_55 rfl ?_
      refine jx_g_X0_markCount hx hb hts hiX0 hown hK hP hf63 dX0_setMark_56 ?_
      refine lv_iload hx hb dX0_setMark_59 (lv_at hl 0 rfl) ?_
      refine lv_iadd hx hb dX0_setMark_61 ?_
      refine jx_p_X0_markCount hx hb hts hiX0 hown hK hB hP hS hf63 dX0_setMark_62 (fun M_62 H locs eM_62 hP hS => ?_)
      have h := jl_lt_o h eM_62
      refine lv_aload_n hx hb dX0_setMark_65 rfl (lv_at hl 1 rfl) ?_
      refine lv_iload_n hx hb dX0_setMark_66 rfl (lv_at hl 2 rfl) ?_
      obtain ⟨r_67, M_67, hc_67, h⟩ := jl_bnd_o h
      refine jx_callVv (As := [.int a1]) (rest := []) ⟨hx, hb, hml, hown, hts⟩ (jc_X0_orderRow hc_67) (cwV 1 hts gX0_setMark_X0_orderRow rfl rfl rfl (by decide +kernel) ⟨Nat.le_trans (by decide) hRf, Nat.le_trans (by decide) hRl⟩) (jx_rv_X0 hK hP) hK hB hN hP hS rfl dX0_setMark_67 rfl hl.1 (Nat.le_of_ble_eq_true rfl) ⟨Nat.zero_le _, Nat.zero_le _⟩ (fun H locs hP hS => ?_)
      exact kr _ _ _ _ _ (Option.some.inj h) dX0_setMark_70 hP hS
theorem jc_X0_setMark {a1 : Int32} {a2 : Int32} {a3 : Int32} {z : Int32 × jl_Mem} (h : jf_X0_setMark a1 a2 a3 M = some z) : Met l yX0_setMark wsX0_setMark ({ frames := 3, cells := 0, slots := 0, locals := 71 }) (va_Pc [.ref (B 1), .int a1, .int a2, .int a3] (jx_U D cI cT B M)) (va_Qv (fun (_ : Unit) => True) (fun _ t => va_P D vwCl (jx_w cI cT B z.2) t.heap) (jx_A B)) 0 0 (jx_A B) := by
  refine Met.ofW (cc := cX0_setMark) (maxL := 5) (ret := none) (by decide) rfl ?_
  intro p e s m args below meth c s1 BB hml hv
  obtain ⟨rfl, hK, hP, hB, hN⟩ := hv
  have hl := lv_entry ([.ref (B 1), .int a1, .int a2, .int a3]) (n := 5) (Nat.le_of_ble_eq_true rfl)
  rw [lg_entry_eq]
  generalize (lg_sl ([.ref (B 1), .int a1, .int a2, .int a3]) ++ List.replicate (5 - (lg_sl ([.ref (B 1), .int a1, .int a2, .int a3])).length) Slot.unset).toArray = ls at hl ⊢
  exact jb_X0_setMark BB.exec BB.bytes hml (findClass_of_methodNamed BB.named) (atoms_spec (ws := wsX0_setMark) BB.pre) hK hB hN (Nat.le_refl _) (Nat.le_refl _) h (fun M1 H locs pc ls e1 hd hP hS => W.vret BB.exec BB.bytes BB.returns (fun t ht hW => ⟨⟨(), rfl, trivial, by show va_P D vwCl (jx_w cI cT B z.2) t.heap; rw [ht, ← e1]; exact hP⟩, hS.F ht⟩) hS.2.2 hd BB.notSynchronized) hP va_S.rf hl
end
section
variable {p : Program} {l : Launch} {e : Env} {R : Room} {s : State} {m : MethodId} {args : Array Value} {below : List Frame} {meth : Method} {c : Code} {H : Heap} {locs : List Loc} {Q : State → Prop} {ls : Array Slot} {D : va_G} {cI cT : ClassId} {B : Nat → Nat} {M : jl_Mem} {H0 : Heap}
set_option maxHeartbeats 4000000 in
set_option maxRecDepth 100000 in
theorem jb_X0_combined (hx : p.tables.exec = Jvm.exec) (hb : c.code = cX0_combined) (hml : c.maxLocals = 7) (hown : s.vm.findClass RX0 = some m.cls) (hts : ∀ w ∈ wsX0_combined, w.before args s = true) (hK : va_K D vwCl (jx_ty cI cT) s) (hB : jx_inj B) (hN : jx_N s) (hRf : 1 ≤ R.frames) (hRl : 21 ≤ R.locals) {a1 : Nat} {z : Int32 × jl_Mem} (h : jf_X0_combined a1 M = some z)
    (kr : ∀ (v : Int32) (M1 : jl_Mem) (H1 : Heap) (locs1 : List Loc) (pc1 : Nat) (ls1 : Array Slot), (v, M1) = z → decode cX0_combined pc1 = .ok (.ireturn, 1) → va_P D vwCl (jx_w cI cT B M1) H1 → va_S (jx_A B) H0 H1 locs1 → W p l e R s m args below meth c H1 locs1 0 0 Q (F0 m pc1 ls1 [.int v]))
    (hP : va_P D vwCl (jx_w cI cT B M) H) (hS : va_S (jx_A B) H0 H locs) (hl : lv_has ls 7 [(0, .ref (B 1)), (1, .ref (B a1))]) : W p l e R s m args below meth c H locs 0 0 Q (F0 m 0 ls []) := by
  unfold jf_X0_combined at h
  have hiX0 : ∀ w ∈ wsX00, w ∈ wsX0_combined := by decide +kernel
  have hf52 := hts (.fieldLink RX0 52 "JudgesLists$Board" "lists" "I") (by decide +kernel)
  have hf9 := hts (.fieldLink RX0 9 "JudgesLists$Board" "theRule" "I") (by decide +kernel)
  have hf15 := hts (.fieldLink RX0 15 "JudgesLists$Board" "weights" "[I") (by decide +kernel)
  refine lv_iconst (v := 0) hx hb dX0_combined_0 (by decide) ?_
  refine lv_topi (fun x2_1 ex2_1 => ?_)
  have h := jl_lt_o h ex2_1
  refine lv_istore_n (lv' := [(2, .int x2_1), (0, .ref (B 1)), (1, .ref (B a1))]) hx hb dX0_combined_1 rfl hl (by decide) rfl (fun ls hl => ?_)
  refine lv_iconst (v := 0) hx hb dX0_combined_2 (by decide) ?_
  refine lv_topi (fun x3_3 ex3_3 => ?_)
  have h := jl_lt_o h ex3_3
  refine lv_istore_n (lv' := [(3, .int x3_3), (2, .int x2_1), (0, .ref (B 1)), (1, .ref (B a1))]) hx hb dX0_combined_3 rfl hl (by decide) rfl (fun ls hl => ?_)
  refine lv_iconst (v := 0) hx hb dX0_combined_4 (by decide) ?_
  refine lv_topi (fun x4_5 ex4_5 => ?_)
  have h := jl_lt_o h ex4_5
  refine lv_istore (lv' := [(4, .int x4_5), (3, .int x3_3), (2, .int x2_1), (0, .ref (B 1)), (1, .ref (B a1))]) hx hb dX0_combined_5 hl (by decide) rfl (fun ls hl => ?_)
  refine lv_iconst (v := 0) hx hb dX0_combined_7 (by decide) ?_
  refine lv_topi (fun x5_8 ex5_8 => ?_)
  have h := jl_lt_o h ex5_8
  refine lv_istore (lv' := [(5, .int x5_8), (4, .int x4_5), (3, .int x3_3), (2, .int x2_1), (0, .ref (B 1)), (1, .ref (B a1))]) hx hb dX0_combined_8 hl (by decide) rfl (fun ls hl => ?_)
  refine lv_iconst (v := 0) hx hb dX0_combined_10 (by decide) ?_
  refine lv_topi (fun x6_11 ex6_11 => ?_)
  have h := jl_lt_o h ex6_11
  refine lv_istore (lv' := [(6, .int x6_11), (5, .int x5_8), (4, .int x4_5), (3, .int x3_3), (2, .int x2_1), (0, .ref (B 1)), (1, .ref (B a1))]) hx hb dX0_combined_11 hl (by decide) rfl (fun ls hl => ?_)
  have k13 : ∀ (n13 : Nat) (x2L13 : Int32) (x3L13 : Int32) (x4L13 : Int32) (x5L13 : Int32) (x6L13 : Int32) (ML13 : jl_Mem), jl_wh (fun q => jf_X0_combined_L13 a1 q.1 q.2.1 q.2.2.1 q.2.2.2.1 q.2.2.2.2.1 q.2.2.2.2.2) n13 (x2L13, x3L13, x4L13, x5L13, x6L13, ML13) = some z → ∀ (H : Heap) (locs : List Loc) (ls : Array Slot), va_P D vwCl (jx_w cI cT B ML13) H → va_S (jx_A B) H0 H locs → lv_has ls 7 [(0, .ref (B 1)), (1, .ref (B a1)), (2, .int x2L13), (3, .int x3L13), (4, .int x4L13), (5, .int x5L13), (6, .int x6L13)] → W p l e R s m args below meth c H locs 0 0 Q (F0 m 13 ls []) := by
    intro n13
    induction n13 with
    | zero => exact fun _ _ _ _ _ _ h => (jl_wh_0 h).elim
    | succ n13 ih13 =>
      intro x2L13 x3L13 x4L13 x5L13 x6L13 ML13 h H locs ls hP hS hl
      obtain ⟨o13, h, hz13⟩ := jl_wh_s h
      replace h : jf_X0_combined_L13 a1 x2L13 x3L13 x4L13 x5L13 x6L13 ML13 = some o13 := h
      unfold jf_X0_combined_L13 at h
      refine lv_iload hx hb dX0_combined_13 (lv_at hl 6 rfl) ?_
      refine lv_aload_n hx hb dX0_combined_15 rfl (lv_at hl 0 rfl) ?_
      refine jx_g_X0_lists hx hb hts hiX0 hown hK hP hf52 dX0_combined_16 ?_
      refine lv_icmp_ge (tgt := 88) hx hb dX0_combined_19 (by decide) (fun c_19 => ?_) (fun c_19 => ?_)
      · have h := jl_ift c_19 h
        have h := jl_ex_o h hz13
        refine lv_aload_n hx hb dX0_combined_88 rfl (lv_at hl 0 rfl) ?_
        refine jx_g_X0_theRule hx hb hts hiX0 hown hK hP hf9 dX0_combined_89 ?_
        refine lv_if_ne (tgt := 97) hx hb dX0_combined_92 (by decide) (fun c_92 => ?_) (fun c_92 => ?_)
        · have h := jl_iff c_92 h
          refine lv_aload_n hx hb dX0_combined_97 rfl (lv_at hl 0 rfl) ?_
          refine jx_g_X0_theRule hx hb hts hiX0 hown hK hP hf9 dX0_combined_98 ?_
          refine lv_iconst (v := 1) hx hb dX0_combined_101 (by decide) ?_
          refine lv_icmp_ne (tgt := 110) hx hb dX0_combined_102 (by decide) (fun c_102 => ?_) (fun c_102 => ?_)
          · have h := jl_iff c_102 h
            refine lv_iload hx hb dX0_combined_110 (lv_at hl 5 rfl) ?_
            exact kr _ _ _ _ _ _ (Option.some.inj h) dX0_combined_112 hP hS
          · have h := jl_ift c_102 h
            refine lv_iload hx hb dX0_combined_105 (lv_at hl 4 rfl) ?_
            refine lv_goto (tgt := 112) hx hb dX0_combined_107 (by decide) ?_
            exact kr _ _ _ _ _ _ (Option.some.inj h) dX0_combined_112 hP hS
        · have h := jl_ift c_92 h
          refine lv_iload_n hx hb dX0_combined_95 rfl (lv_at hl 3 rfl) ?_
          exact kr _ _ _ _ _ _ (Option.some.inj h) dX0_combined_96 hP hS
      · have h := jl_iff c_19 h
        refine lv_aload_n hx hb dX0_combined_22 rfl (lv_at hl 0 rfl) ?_
        refine jx_g_X0_weights hx hb hts hiX0 hown hK hP hf15 dX0_combined_23 ?_
        refine lv_iload hx hb dX0_combined_26 (lv_at hl 6 rfl) ?_
        obtain ⟨i_28, h⟩ := jl_chk_o h
        refine jx_iaload hx hb hK hP rfl i_28 dX0_combined_28 ?_
        refine lv_if_le (tgt := 82) hx hb dX0_combined_29 (by decide) (fun c_29 => ?_) (fun c_29 => ?_)
        · have h := jl_ift c_29 h
          obtain ⟨x6_82, ex6_82⟩ : ∃ y : Int32, y = x6L13 + 1 := ⟨_, rfl⟩
          have h := jl_lt_o h ex6_82
          refine lv_iinc (v := x6_82) (lv' := [(6, .int x6_82), (0, .ref (B 1)), (1, .ref (B a1)), (2, .int x2L13), (3, .int x3L13), (4, .int x4L13), (5, .int x5L13)]) hx hb dX0_combined_82 hl (k := 6) rfl (by rw [ex6_82]; rfl) (by decide) rfl (fun ls hl => ?_)
          refine lv_goto (tgt := 13) hx hb dX0_combined_85 (by decide) ?_
          exact ih13 _ _ _ _ _ _ (jl_L (Option.some.inj h) hz13) _ _ _ hP hS (lv_sub hl [1, 2, 3, 4, 5, 6, 0] rfl)
        · have h := jl_iff c_29 h
          refine lv_iload_n hx hb dX0_combined_32 rfl (lv_at hl 3 rfl) ?_
          refine lv_aload_n hx hb dX0_combined_33 rfl (lv_at hl 0 rfl) ?_
          refine jx_g_X0_weights hx hb hts hiX0 hown hK hP hf15 dX0_combined_34 ?_
          refine lv_iload hx hb dX0_combined_37 (lv_at hl 6 rfl) ?_
          refine jx_iaload hx hb hK hP rfl i_28 dX0_combined_39 ?_
          refine lv_aload_n hx hb dX0_combined_40 rfl (lv_at hl 1 rfl) ?_
          refine lv_iload hx hb dX0_combined_41 (lv_at hl 6 rfl) ?_
          obtain ⟨i_43, h⟩ := jl_chk_o h
          refine jx_iaload hx hb hK hP rfl i_43 dX0_combined_43 ?_
          refine lv_imul hx hb dX0_combined_44 ?_
          refine lv_iadd hx hb dX0_combined_45 ?_
          refine lv_topi (fun x3_46 ex3_46 => ?_)
          have h := jl_lt_o h ex3_46
          refine lv_istore_n (lv' := [(3, .int x3_46), (0, .ref (B 1)), (1, .ref (B a1)), (2, .int x2L13), (4, .int x4L13), (5, .int x5L13), (6, .int x6L13)]) hx hb dX0_combined_46 rfl hl (by decide) rfl (fun ls hl => ?_)
          refine lv_iload_n hx hb dX0_combined_47 rfl (lv_at hl 3 rfl) ?_
          refine lv_if_eq (tgt := 63) hx hb dX0_combined_48 (by decide) (fun c_48 => ?_) (fun c_48 => ?_)
          · have h := jl_ift c_48 h
            refine lv_aload_n hx hb dX0_combined_63 rfl (lv_at hl 2 rfl) ?_
            refine lv_iload hx hb dX0_combined_64 (lv_at hl 6 rfl) ?_
            refine jx_iaload hx hb hK hP rfl i_43 dX0_combined_66 ?_
            refine lv_topi (fun x4_67 ex4_67 => ?_)
            have h := jl_lt_o h ex4_67
            refine lv_istore (lv' := [(4, .int x4_67), (3, .int x3_46), (0, .ref (B 1)), (1, .ref (B a1)), (2, .int x2L13), (5, .int x5L13), (6, .int x6L13)]) hx hb dX0_combined_67 hl (by decide) rfl (fun ls hl => ?_)
            refine lv_iload hx hb dX0_combined_69 (lv_at hl 5 rfl) ?_
            refine lv_aload_n hx hb dX0_combined_71 rfl (lv_at hl 3 rfl) ?_
            refine lv_iload hx hb dX0_combined_72 (lv_at hl 6 rfl) ?_
            refine jx_iaload hx hb hK hP rfl i_43 dX0_combined_74 ?_
            refine va_mmax hx hb (hml.trans hl.1.symm) hown (hts (.methodLink RX0 88 Lib.Math.max.name) (by decide +kernel)) (hts (.static Lib.Math.max.name) (by decide +kernel)) (hts (.initialized "java/lang/Math") (by decide +kernel)) (hts (.code Lib.Math.max.name Lib.Math.max.code 2 (some .int)) (by decide +kernel)) (Nat.le_trans (by decide) hRf) (Nat.le_trans (Nat.le_of_ble_eq_true rfl) hRl) (Nat.zero_le _) (Nat.zero_le _) dX0_combined_75 ?_
            refine lv_topi (fun x5_78 ex5_78 => ?_)
            have h := jl_lt_o h ex5_78
            refine lv_istore (lv' := [(5, .int x5_78), (4, .int x4_67), (3, .int x3_46), (0, .ref (B 1)), (1, .ref (B a1)), (2, .int x2L13), (6, .int x6L13)]) hx hb dX0_combined_78 hl (by decide) rfl (fun ls hl => ?_)
            refine lv_iconst (v := 1) hx hb dX0_combined_80 (by decide) ?_
            refine lv_topi (fun x2_81 ex2_81 => ?_)
            have h := jl_lt_o h ex2_81
            refine lv_istore_n (lv' := [(2, .int x2_81), (5, .int x5_78), (4, .int x4_67), (3, .int x3_46), (0, .ref (B 1)), (1, .ref (B a1)), (6, .int x6L13)]) hx hb dX0_combined_81 rfl hl (by decide) rfl (fun ls hl => ?_)
            obtain ⟨x6_82, ex6_82⟩ : ∃ y : Int32, y = x6L13 + 1 := ⟨_, rfl⟩
            have h := jl_lt_o h ex6_82
            refine lv_iinc (v := x6_82) (lv' := [(6, .int x6_82), (2, .int x2_81), (5, .int x5_78), (4, .int x4_67), (3, .int x3_46), (0, .ref (B 1)), (1, .ref (B a1))]) hx hb dX0_combined_82 hl (k := 6) rfl (by rw [ex6_82]; rfl) (by decide) rfl (fun ls hl => ?_)
            refine lv_goto (tgt := 13) hx hb dX0_combined_85 (by decide) ?_
            exact ih13 _ _ _ _ _ _ (jl_L (Option.some.inj h) hz13) _ _ _ hP hS (lv_sub hl [5, 6, 1, 4, 3, 2, 0] rfl)
          · have h := jl_iff c_48 h
            refine lv_iload hx hb dX0_combined_51 (lv_at hl 4 rfl) ?_
            refine lv_aload_n hx hb dX0_combined_53 rfl (lv_at hl 2 rfl) ?_
            refine lv_iload hx hb dX0_combined_54 (lv_at hl 6 rfl) ?_
            refine jx_iaload hx hb hK hP rfl i_43 dX0_combined_56 ?_
            refine va_mmin hx hb (hml.trans hl.1.symm) hown (hts (.methodLink RX0 82 Lib.Math.min.name) (by decide +kernel)) (hts (.static Lib.Math.min.name) (by decide +kernel)) (hts (.initialized "java/lang/Math") (by decide +kernel)) (hts (.code Lib.Math.min.name Lib.Math.min.code 2 (some .int)) (by decide +kernel)) (Nat.le_trans (by decide) hRf) (Nat.le_trans (Nat.le_of_ble_eq_true rfl) hRl) (Nat.zero_le _) (Nat.zero_le _) dX0_combined_57 ?_
            refine lv_goto (tgt := 67) hx hb dX0_combined_60 (by decide) ?_
            refine lv_topi (fun x4_67 ex4_67 => ?_)
            have h := jl_lt_o h ex4_67
            refine lv_istore (lv' := [(4, .int x4_67), (3, .int x3_46), (0, .ref (B 1)), (1, .ref (B a1)), (2, .int x2L13), (5, .int x5L13), (6, .int x6L13)]) hx hb dX0_combined_67 hl (by decide) rfl (fun ls hl => ?_)
            refine lv_iload hx hb dX0_combined_69 (lv_at hl 5 rfl) ?_
            refine lv_aload_n hx hb dX0_combined_71 rfl (lv_at hl 3 rfl) ?_
            refine lv_iload hx hb dX0_combined_72 (lv_at hl 6 rfl) ?_
            refine jx_iaload hx hb hK hP rfl i_43 dX0_combined_74 ?_
            refine va_mmax hx hb (hml.trans hl.1.symm) hown (hts (.methodLink RX0 88 Lib.Math.max.name) (by decide +kernel)) (hts (.static Lib.Math.max.name) (by decide +kernel)) (hts (.initialized "java/lang/Math") (by decide +kernel)) (hts (.code Lib.Math.max.name Lib.Math.max.code 2 (some .int)) (by decide +kernel)) (Nat.le_trans (by decide) hRf) (Nat.le_trans (Nat.le_of_ble_eq_true rfl) hRl) (Nat.zero_le _) (Nat.zero_le _) dX0_combined_75 ?_
            refine lv_topi (fun x5_78 ex5_78 => ?_)
            have h := jl_lt_o h ex5_78
            refine lv_istore (lv' := [(5, .int x5_78), (4, .int x4_67), (3, .int x3_46), (0, .ref (B 1)), (1, .ref (B a1)), (2, .int x2L13), (6, .int x6L13)]) hx hb dX0_combined_78 hl (by decide) rfl (fun ls hl => ?_)
            refine lv_iconst (v := 1) hx hb dX0_combined_80 (by decide) ?_
            refine lv_topi (fun x2_81 ex2_81 => ?_)
            have h := jl_lt_o h ex2_81
            refine lv_istore_n (lv' := [(2, .int x2_81), (5, .int x5_78), (4, .int x4_67), (3, .int x3_46), (0, .ref (B 1)), (1, .ref (B a1)), (6, .int x6L13)]) hx hb dX0_combined_81 rfl hl (by decide) rfl (fun ls hl => ?_)
            obtain ⟨x6_82, ex6_82⟩ : ∃ y : Int32, y = x6L13 + 1 := ⟨_, rfl⟩
            have h := jl_lt_o h ex6_82
            refine lv_iinc (v := x6_82) (lv' := [(6, .int x6_82), (2, .int x2_81), (5, .int x5_78), (4, .int x4_67), (3, .int x3_46), (0, .ref (B 1)), (1, .ref (B a1))]) hx hb dX0_combined_82 hl (k := 6) rfl (by rw [ex6_82]; rfl) (by decide) rfl (fun ls hl => ?_)
            refine lv_goto (tgt := 13) hx hb dX0_combined_85 (by decide) ?_
            exact ih13 _ _ _ _ _ _ (jl_L (Option.some.inj h) hz13) _ _ _ hP hS (lv_sub hl [5, 6, 1, 4, 3, 2, 0] rfl)
  exact k13 _ _ _ _ _ _ _ h _ _ _ hP hS (lv_sub hl [5, 6, 4, 3, 2, 1, 0] rfl)
theorem jc_X0_combined {a1 : Nat} {z : Int32 × jl_Mem} (h : jf_X0_combined a1 M = some z) : Met l yX0_combined wsX0_combined ({ frames := 1, cells := 0, slots := 0, locals := 21 }) (va_Pc [.ref (B 1), .ref (B a1)] (jx_U D cI cT B M)) (va_Qi (fun (q : Int32) (_ : Unit) => q = z.1) (fun _ t => va_P D vwCl (jx_w cI cT B z.2) t.heap) (jx_A B)) 0 0 (jx_A B) := by
  refine Met.ofW (cc := cX0_combined) (maxL := 7) (ret := (some .int)) (by decide) rfl ?_
  intro p e s m args below meth c s1 BB hml hv
  obtain ⟨rfl, hK, hP, hB, hN⟩ := hv
  have hl := lv_entry ([.ref (B 1), .ref (B a1)]) (n := 7) (Nat.le_of_ble_eq_true rfl)
  rw [lg_entry_eq]
  generalize (lg_sl ([.ref (B 1), .ref (B a1)]) ++ List.replicate (7 - (lg_sl ([.ref (B 1), .ref (B a1)])).length) Slot.unset).toArray = ls at hl ⊢
  exact jb_X0_combined BB.exec BB.bytes hml (findClass_of_methodNamed BB.named) (atoms_spec (ws := wsX0_combined) BB.pre) hK hB hN (Nat.le_refl _) (Nat.le_refl _) h (fun v M1 H locs pc ls e1 hd hP hS => W.iret BB.exec BB.bytes BB.returns (fun t ht hW => ⟨⟨_, (), rfl, by rw [← e1], by show va_P D vwCl (jx_w cI cT B z.2) t.heap; rw [ht, ← e1]; exact hP⟩, hS.F ht⟩) hS.2.2 hd BB.notSynchronized) hP va_S.rf hl
end
section
variable {p : Program} {l : Launch} {e : Env} {R : Room} {s : State} {m : MethodId} {args : Array Value} {below : List Frame} {meth : Method} {c : Code} {H : Heap} {locs : List Loc} {Q : State → Prop} {ls : Array Slot} {D : va_G} {cI cT : ClassId} {B : Nat → Nat} {M : jl_Mem} {H0 : Heap}
set_option maxHeartbeats 4000000 in
set_option maxRecDepth 100000 in
theorem jb_X0_totalOf (hx : p.tables.exec = Jvm.exec) (hb : c.code = cX0_totalOf) (hml : c.maxLocals = 3) (hown : s.vm.findClass RX0 = some m.cls) (hts : ∀ w ∈ wsX0_totalOf, w.before args s = true) (hK : va_K D vwCl (jx_ty cI cT) s) (hB : jx_inj B) (hN : jx_N s) (hRf : 2 ≤ R.frames) (hRl : 47 ≤ R.locals) {a1 : Int32} {z : Int32 × jl_Mem} (h : jf_X0_totalOf a1 M = some z)
    (kr : ∀ (v : Int32) (M1 : jl_Mem) (H1 : Heap) (locs1 : List Loc) (pc1 : Nat) (ls1 : Array Slot), (v, M1) = z → decode cX0_totalOf pc1 = .ok (.ireturn, 1) → va_P D vwCl (jx_w cI cT B M1) H1 → va_S (jx_A B) H0 H1 locs1 → W p l e R s m args below meth c H1 locs1 0 0 Q (F0 m pc1 ls1 [.int v]))
    (hP : va_P D vwCl (jx_w cI cT B M) H) (hS : va_S (jx_A B) H0 H locs) (hl : lv_has ls 3 [(0, .ref (B 1)), (1, .int a1)]) : W p l e R s m args below meth c H locs 0 0 Q (F0 m 0 ls []) := by
  unfold jf_X0_totalOf at h
  have hiX0 : ∀ w ∈ wsX00, w ∈ wsX0_totalOf := by decide +kernel
  have hf52 := hts (.fieldLink RX0 52 "JudgesLists$Board" "lists" "I") (by decide +kernel)
  have hf39 := hts (.fieldLink RX0 39 "JudgesLists$Board" "ofOneThing" "[I") (by decide +kernel)
  have hf30 := hts (.fieldLink RX0 30 "JudgesLists$Board" "marks" "[[I") (by decide +kernel)
  refine lv_iconst (v := 0) hx hb dX0_totalOf_0 (by decide) ?_
  refine lv_topi (fun x2_1 ex2_1 => ?_)
  have h := jl_lt_o h ex2_1
  refine lv_istore_n (lv' := [(2, .int x2_1), (0, .ref (B 1)), (1, .int a1)]) hx hb dX0_totalOf_1 rfl hl (by decide) rfl (fun ls hl => ?_)
  have k2 : ∀ (n2 : Nat) (x2L2 : Int32) (ML2 : jl_Mem), jl_wh (fun q => jf_X0_totalOf_L2 a1 q.1 q.2) n2 (x2L2, ML2) = some z → ∀ (H : Heap) (locs : List Loc) (ls : Array Slot), va_P D vwCl (jx_w cI cT B ML2) H → va_S (jx_A B) H0 H locs → lv_has ls 3 [(0, .ref (B 1)), (1, .int a1), (2, .int x2L2)] → W p l e R s m args below meth c H locs 0 0 Q (F0 m 2 ls []) := by
    intro n2
    induction n2 with
    | zero => exact fun _ _ h => (jl_wh_0 h).elim
    | succ n2 ih2 =>
      intro x2L2 ML2 h H locs ls hP hS hl
      obtain ⟨o2, h, hz2⟩ := jl_wh_s h
      replace h : jf_X0_totalOf_L2 a1 x2L2 ML2 = some o2 := h
      unfold jf_X0_totalOf_L2 at h
      refine lv_iload_n hx hb dX0_totalOf_2 rfl (lv_at hl 2 rfl) ?_
      refine lv_aload_n hx hb dX0_totalOf_3 rfl (lv_at hl 0 rfl) ?_
      refine jx_g_X0_lists hx hb hts hiX0 hown hK hP hf52 dX0_totalOf_4 ?_
      refine lv_icmp_ge (tgt := 30) hx hb dX0_totalOf_7 (by decide) (fun c_7 => ?_) (fun c_7 => ?_)
      · have h := jl_ift c_7 h
        have h := jl_ex_o h hz2
        refine lv_aload_n hx hb dX0_totalOf_30 rfl (lv_at hl 0 rfl) ?_
        refine lv_aload_n hx hb dX0_totalOf_31 rfl (lv_at hl 0 rfl) ?_
        refine jx_g_X0_ofOneThing hx hb hts hiX0 hown hK hP hf39 dX0_totalOf_32 ?_
        obtain ⟨r_35, M_35, hc_35, h⟩ := jl_bnd_o h
        refine jx_callVi (As := [.ref (B 21)]) (rest := []) ⟨hx, hb, hml, hown, hts⟩ (jc_X0_combined hc_35) (cwV 1 hts gX0_totalOf_X0_combined rfl rfl rfl (by decide +kernel) ⟨Nat.le_trans (by decide) hRf, Nat.le_trans (by decide) hRl⟩) (jx_rv_X0 hK hP) hK hB hN hP hS rfl dX0_totalOf_35 rfl hl.1 (Nat.le_of_ble_eq_true rfl) ⟨Nat.zero_le _, Nat.zero_le _⟩ (fun H locs hP hS => ?_)
        exact kr _ _ _ _ _ _ (Option.some.inj h) dX0_totalOf_38 hP hS
      · have h := jl_iff c_7 h
        refine lv_aload_n hx hb dX0_totalOf_10 rfl (lv_at hl 0 rfl) ?_
        refine jx_g_X0_ofOneThing hx hb hts hiX0 hown hK hP hf39 dX0_totalOf_11 ?_
        refine lv_iload_n hx hb dX0_totalOf_14 rfl (lv_at hl 2 rfl) ?_
        refine lv_aload_n hx hb dX0_totalOf_15 rfl (lv_at hl 0 rfl) ?_
        refine jx_g_X0_marks hx hb hts hiX0 hown hK hP hf30 dX0_totalOf_16 ?_
        refine lv_iload_n hx hb dX0_totalOf_19 rfl (lv_at hl 2 rfl) ?_
        obtain ⟨i_20, h⟩ := jl_chk_o h
        refine jx_aaload6 hx hb hK hP i_20 dX0_totalOf_20 ?_
        refine lv_iload_n hx hb dX0_totalOf_21 rfl (lv_at hl 1 rfl) ?_
        obtain ⟨i_22, h⟩ := jl_chk_o h
        refine jx_iaload hx hb hK hP (jx_lr7 i_20) i_22 dX0_totalOf_22 ?_
        refine jx_iastore hx hb hK hB hP hS rfl i_20 dX0_totalOf_23 (fun M_23 H locs eM_23 hP hS => ?_)
        have h := jl_lt_o h eM_23
        obtain ⟨x2_24, ex2_24⟩ : ∃ y : Int32, y = x2L2 + 1 := ⟨_, rfl⟩
        have h := jl_lt_o h ex2_24
        refine lv_iinc (v := x2_24) (lv' := [(2, .int x2_24), (0, .ref (B 1)), (1, .int a1)]) hx hb dX0_totalOf_24 hl (k := 2) rfl (by rw [ex2_24]; rfl) (by decide) rfl (fun ls hl => ?_)
        refine lv_goto (tgt := 2) hx hb dX0_totalOf_27 (by decide) ?_
        exact ih2 _ _ (jl_L (Option.some.inj h) hz2) _ _ _ hP hS (lv_sub hl [1, 2, 0] rfl)
  exact k2 _ _ _ h _ _ _ hP hS (lv_sub hl [1, 2, 0] rfl)
theorem jc_X0_totalOf {a1 : Int32} {z : Int32 × jl_Mem} (h : jf_X0_totalOf a1 M = some z) : Met l yX0_totalOf wsX0_totalOf ({ frames := 2, cells := 0, slots := 0, locals := 47 }) (va_Pc [.ref (B 1), .int a1] (jx_U D cI cT B M)) (va_Qi (fun (q : Int32) (_ : Unit) => q = z.1) (fun _ t => va_P D vwCl (jx_w cI cT B z.2) t.heap) (jx_A B)) 0 0 (jx_A B) := by
  refine Met.ofW (cc := cX0_totalOf) (maxL := 3) (ret := (some .int)) (by decide) rfl ?_
  intro p e s m args below meth c s1 BB hml hv
  obtain ⟨rfl, hK, hP, hB, hN⟩ := hv
  have hl := lv_entry ([.ref (B 1), .int a1]) (n := 3) (Nat.le_of_ble_eq_true rfl)
  rw [lg_entry_eq]
  generalize (lg_sl ([.ref (B 1), .int a1]) ++ List.replicate (3 - (lg_sl ([.ref (B 1), .int a1])).length) Slot.unset).toArray = ls at hl ⊢
  exact jb_X0_totalOf BB.exec BB.bytes hml (findClass_of_methodNamed BB.named) (atoms_spec (ws := wsX0_totalOf) BB.pre) hK hB hN (Nat.le_refl _) (Nat.le_refl _) h (fun v M1 H locs pc ls e1 hd hP hS => W.iret BB.exec BB.bytes BB.returns (fun t ht hW => ⟨⟨_, (), rfl, by rw [← e1], by show va_P D vwCl (jx_w cI cT B z.2) t.heap; rw [ht, ← e1]; exact hP⟩, hS.F ht⟩) hS.2.2 hd BB.notSynchronized) hP va_S.rf hl
end
