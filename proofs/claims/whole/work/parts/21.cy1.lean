section
variable {p : Program} {l : Launch} {e : Env} {R : Room} {s : State} {m : MethodId} {args : Array Value} {below : List Frame} {meth : Method} {c : Code} {H : Heap} {locs : List Loc} {Q : State → Prop} {ls : Array Slot} {D : va_G} {cI cT : ClassId} {B : Nat → Nat} {M : jl_Mem} {H0 : Heap}
set_option maxHeartbeats 4000000 in
set_option maxRecDepth 100000 in
theorem jb_X5_in (hx : p.tables.exec = Jvm.exec) (hb : c.code = cX5_in) (hml : c.maxLocals = 3) (hown : s.vm.findClass RX5 = some m.cls) (hts : ∀ w ∈ wsX5_in, w.before args s = true) (hK : va_K D vwCl (jy_ty cI cT) s) (hB : jy_inj B) (hN : jy_N s) (hRf : 0 ≤ R.frames) (hRl : 0 ≤ R.locals) {a1 : Int32} {a2 : Int32} {a3 : Int32} {z : Int32 × jl_Mem} (h : jf_X5_in a1 a2 a3 M = some z)
    (kr : ∀ (v : Int32) (M1 : jl_Mem) (H1 : Heap) (locs1 : List Loc) (pc1 : Nat) (ls1 : Array Slot), (v, M1) = z → jl_isB v = true → decode cX5_in pc1 = .ok (.ireturn, 1) → va_P D vwCl (jy_w cI cT B M1) H1 → va_S (jy_A B) H0 H1 locs1 → W p l e R s m args below meth c H1 locs1 0 0 Q (F0 m pc1 ls1 [.int v]))
    (hP : va_P D vwCl (jy_w cI cT B M) H) (hS : va_S (jy_A B) H0 H locs) (hl : lv_has ls 3 [(0, .int a1), (1, .int a2), (2, .int a3)]) : W p l e R s m args below meth c H locs 0 0 Q (F0 m 0 ls []) := by
  unfold jf_X5_in at h
  refine lv_iload_n hx hb dX5_in_0 rfl (lv_at hl 0 rfl) ?_
  refine lv_iload_n hx hb dX5_in_1 rfl (lv_at hl 1 rfl) ?_
  refine lv_icmp_lt (tgt := 14) hx hb dX5_in_2 (by decide) (fun c_2 => ?_) (fun c_2 => ?_)
  · have h := jl_ift c_2 h
    refine lv_iconst (v := 0) hx hb dX5_in_14 (by decide) ?_
    exact kr _ _ _ _ _ _ (Option.some.inj h) (by decide) dX5_in_15 hP hS
  · have h := jl_iff c_2 h
    refine lv_iload_n hx hb dX5_in_5 rfl (lv_at hl 0 rfl) ?_
    refine lv_iload_n hx hb dX5_in_6 rfl (lv_at hl 2 rfl) ?_
    refine lv_icmp_gt (tgt := 14) hx hb dX5_in_7 (by decide) (fun c_7 => ?_) (fun c_7 => ?_)
    · have h := jl_ift c_7 h
      refine lv_iconst (v := 0) hx hb dX5_in_14 (by decide) ?_
      exact kr _ _ _ _ _ _ (Option.some.inj h) (by decide) dX5_in_15 hP hS
    · have h := jl_iff c_7 h
      refine lv_iconst (v := 1) hx hb dX5_in_10 (by decide) ?_
      refine lv_goto (tgt := 15) hx hb dX5_in_11 (by decide) ?_
      exact kr _ _ _ _ _ _ (Option.some.inj h) (by decide) dX5_in_15 hP hS
theorem jc_X5_in {a1 : Int32} {a2 : Int32} {a3 : Int32} {z : Int32 × jl_Mem} (h : jf_X5_in a1 a2 a3 M = some z) : Met l yX5_in wsX5_in ({ frames := 0, cells := 0, slots := 0, locals := 0 }) (va_Pc [.int a1, .int a2, .int a3] (jy_U D cI cT B M)) (va_Qi (fun (q : Int32) (_ : Unit) => q = z.1) (fun _ t => va_P D vwCl (jy_w cI cT B z.2) t.heap) (jy_A B)) 0 0 (jy_A B) := by
  refine Met.ofW (cc := cX5_in) (maxL := 3) (ret := (some .boolean)) (by decide) rfl ?_
  intro p e s m args below meth c s1 BB hml hv
  obtain ⟨rfl, hK, hP, hB, hN⟩ := hv
  have hl := lv_entry ([.int a1, .int a2, .int a3]) (n := 3) (Nat.le_of_ble_eq_true rfl)
  rw [lg_entry_eq]
  generalize (lg_sl ([.int a1, .int a2, .int a3]) ++ List.replicate (3 - (lg_sl ([.int a1, .int a2, .int a3])).length) Slot.unset).toArray = ls at hl ⊢
  exact jb_X5_in BB.exec BB.bytes hml (findClass_of_methodNamed BB.named) (atoms_spec (ws := wsX5_in) BB.pre) hK hB hN (Nat.le_refl _) (Nat.le_refl _) h (fun v M1 H locs pc ls e1 hz hd hP hS => W.zret BB.exec BB.bytes BB.returns (jl_nar hz) (fun t ht hW => ⟨⟨_, (), rfl, by rw [← e1], by show va_P D vwCl (jy_w cI cT B z.2) t.heap; rw [ht, ← e1]; exact hP⟩, hS.F ht⟩) hS.2.2 hd BB.notSynchronized) hP va_S.rf hl
end
section
variable {p : Program} {l : Launch} {e : Env} {R : Room} {s : State} {m : MethodId} {args : Array Value} {below : List Frame} {meth : Method} {c : Code} {H : Heap} {locs : List Loc} {Q : State → Prop} {ls : Array Slot} {D : va_G} {cI cT : ClassId} {B : Nat → Nat} {M : jl_Mem} {H0 : Heap}
set_option maxHeartbeats 4000000 in
set_option maxRecDepth 100000 in
theorem jb_X5_isThing (hx : p.tables.exec = Jvm.exec) (hb : c.code = cX5_isThing) (hml : c.maxLocals = 2) (hown : s.vm.findClass RX5 = some m.cls) (hts : ∀ w ∈ wsX5_isThing, w.before args s = true) (hK : va_K D vwCl (jy_ty cI cT) s) (hB : jy_inj B) (hN : jy_N s) (hRf : 1 ≤ R.frames) (hRl : 22 ≤ R.locals) {a1 : Int32} {z : Int32 × jl_Mem} (h : jf_X5_isThing a1 M = some z)
    (kr : ∀ (v : Int32) (M1 : jl_Mem) (H1 : Heap) (locs1 : List Loc) (pc1 : Nat) (ls1 : Array Slot), (v, M1) = z → jl_isB v = true → decode cX5_isThing pc1 = .ok (.ireturn, 1) → va_P D vwCl (jy_w cI cT B M1) H1 → va_S (jy_A B) H0 H1 locs1 → W p l e R s m args below meth c H1 locs1 0 0 Q (F0 m pc1 ls1 [.int v]))
    (hP : va_P D vwCl (jy_w cI cT B M) H) (hS : va_S (jy_A B) H0 H locs) (hl : lv_has ls 2 [(0, .ref (B 0)), (1, .int a1)]) : W p l e R s m args below meth c H locs 0 0 Q (F0 m 0 ls []) := by
  unfold jf_X5_isThing at h
  have hiX5 : ∀ w ∈ wsX50, w ∈ wsX5_isThing := by decide +kernel
  have hf63 := hts (.fieldLink RX5 63 "JudgesListsModel" "things" "I") (by decide +kernel)
  refine lv_iload_n hx hb dX5_isThing_0 rfl (lv_at hl 1 rfl) ?_
  refine lv_iconst (v := 0) hx hb dX5_isThing_1 (by decide) ?_
  refine lv_aload_n hx hb dX5_isThing_2 rfl (lv_at hl 0 rfl) ?_
  refine jy_g_X5_things hx hb hts hiX5 hown hK hP hf63 dX5_isThing_3 ?_
  refine lv_iconst (v := 1) hx hb dX5_isThing_6 (by decide) ?_
  refine lv_isub hx hb dX5_isThing_7 ?_
  obtain ⟨r_8, M_8, hc_8, h⟩ := jl_bnd_o h
  refine jy_callSi (As := [.int a1, .int 0, .int ((M 0 1) - (1 : Int32))]) (rest := []) ⟨hx, hb, hml, hown, hts⟩ (jc_X5_in hc_8) (va_cwS 3 hts gX5_isThing_X5_in rfl rfl rfl (by decide +kernel) ⟨Nat.le_trans (by decide) hRf, Nat.le_trans (by decide) hRl⟩) hK hB hN hP hS rfl dX5_isThing_8 rfl hl.1 (Nat.le_of_ble_eq_true rfl) ⟨Nat.zero_le _, Nat.zero_le _⟩ (fun H locs hP hS => ?_)
  obtain ⟨i_11, h⟩ := jl_chk_o h
  exact kr _ _ _ _ _ _ (Option.some.inj h) i_11 dX5_isThing_11 hP hS
theorem jc_X5_isThing {a1 : Int32} {z : Int32 × jl_Mem} (h : jf_X5_isThing a1 M = some z) : Met l yX5_isThing wsX5_isThing ({ frames := 1, cells := 0, slots := 0, locals := 22 }) (va_Pc [.ref (B 0), .int a1] (jy_U D cI cT B M)) (va_Qi (fun (q : Int32) (_ : Unit) => q = z.1) (fun _ t => va_P D vwCl (jy_w cI cT B z.2) t.heap) (jy_A B)) 0 0 (jy_A B) := by
  refine Met.ofW (cc := cX5_isThing) (maxL := 2) (ret := (some .boolean)) (by decide) rfl ?_
  intro p e s m args below meth c s1 BB hml hv
  obtain ⟨rfl, hK, hP, hB, hN⟩ := hv
  have hl := lv_entry ([.ref (B 0), .int a1]) (n := 2) (Nat.le_of_ble_eq_true rfl)
  rw [lg_entry_eq]
  generalize (lg_sl ([.ref (B 0), .int a1]) ++ List.replicate (2 - (lg_sl ([.ref (B 0), .int a1])).length) Slot.unset).toArray = ls at hl ⊢
  exact jb_X5_isThing BB.exec BB.bytes hml (findClass_of_methodNamed BB.named) (atoms_spec (ws := wsX5_isThing) BB.pre) hK hB hN (Nat.le_refl _) (Nat.le_refl _) h (fun v M1 H locs pc ls e1 hz hd hP hS => W.zret BB.exec BB.bytes BB.returns (jl_nar hz) (fun t ht hW => ⟨⟨_, (), rfl, by rw [← e1], by show va_P D vwCl (jy_w cI cT B z.2) t.heap; rw [ht, ← e1]; exact hP⟩, hS.F ht⟩) hS.2.2 hd BB.notSynchronized) hP va_S.rf hl
end
section
variable {p : Program} {l : Launch} {e : Env} {R : Room} {s : State} {m : MethodId} {args : Array Value} {below : List Frame} {meth : Method} {c : Code} {H : Heap} {locs : List Loc} {Q : State → Prop} {ls : Array Slot} {D : va_G} {cI cT : ClassId} {B : Nat → Nat} {M : jl_Mem} {H0 : Heap}
set_option maxHeartbeats 4000000 in
set_option maxRecDepth 100000 in
theorem jb_X5_isList (hx : p.tables.exec = Jvm.exec) (hb : c.code = cX5_isList) (hml : c.maxLocals = 2) (hown : s.vm.findClass RX5 = some m.cls) (hts : ∀ w ∈ wsX5_isList, w.before args s = true) (hK : va_K D vwCl (jy_ty cI cT) s) (hB : jy_inj B) (hN : jy_N s) (hRf : 1 ≤ R.frames) (hRl : 22 ≤ R.locals) {a1 : Int32} {z : Int32 × jl_Mem} (h : jf_X5_isList a1 M = some z)
    (kr : ∀ (v : Int32) (M1 : jl_Mem) (H1 : Heap) (locs1 : List Loc) (pc1 : Nat) (ls1 : Array Slot), (v, M1) = z → jl_isB v = true → decode cX5_isList pc1 = .ok (.ireturn, 1) → va_P D vwCl (jy_w cI cT B M1) H1 → va_S (jy_A B) H0 H1 locs1 → W p l e R s m args below meth c H1 locs1 0 0 Q (F0 m pc1 ls1 [.int v]))
    (hP : va_P D vwCl (jy_w cI cT B M) H) (hS : va_S (jy_A B) H0 H locs) (hl : lv_has ls 2 [(0, .ref (B 0)), (1, .int a1)]) : W p l e R s m args below meth c H locs 0 0 Q (F0 m 0 ls []) := by
  unfold jf_X5_isList at h
  have hiX5 : ∀ w ∈ wsX50, w ∈ wsX5_isList := by decide +kernel
  have hf70 := hts (.fieldLink RX5 70 "JudgesListsModel" "lists" "I") (by decide +kernel)
  refine lv_iload_n hx hb dX5_isList_0 rfl (lv_at hl 1 rfl) ?_
  refine lv_iconst (v := 0) hx hb dX5_isList_1 (by decide) ?_
  refine lv_aload_n hx hb dX5_isList_2 rfl (lv_at hl 0 rfl) ?_
  refine jy_g_X5_lists hx hb hts hiX5 hown hK hP hf70 dX5_isList_3 ?_
  refine lv_iconst (v := 1) hx hb dX5_isList_6 (by decide) ?_
  refine lv_isub hx hb dX5_isList_7 ?_
  obtain ⟨r_8, M_8, hc_8, h⟩ := jl_bnd_o h
  refine jy_callSi (As := [.int a1, .int 0, .int ((M 0 2) - (1 : Int32))]) (rest := []) ⟨hx, hb, hml, hown, hts⟩ (jc_X5_in hc_8) (va_cwS 3 hts gX5_isList_X5_in rfl rfl rfl (by decide +kernel) ⟨Nat.le_trans (by decide) hRf, Nat.le_trans (by decide) hRl⟩) hK hB hN hP hS rfl dX5_isList_8 rfl hl.1 (Nat.le_of_ble_eq_true rfl) ⟨Nat.zero_le _, Nat.zero_le _⟩ (fun H locs hP hS => ?_)
  obtain ⟨i_11, h⟩ := jl_chk_o h
  exact kr _ _ _ _ _ _ (Option.some.inj h) i_11 dX5_isList_11 hP hS
theorem jc_X5_isList {a1 : Int32} {z : Int32 × jl_Mem} (h : jf_X5_isList a1 M = some z) : Met l yX5_isList wsX5_isList ({ frames := 1, cells := 0, slots := 0, locals := 22 }) (va_Pc [.ref (B 0), .int a1] (jy_U D cI cT B M)) (va_Qi (fun (q : Int32) (_ : Unit) => q = z.1) (fun _ t => va_P D vwCl (jy_w cI cT B z.2) t.heap) (jy_A B)) 0 0 (jy_A B) := by
  refine Met.ofW (cc := cX5_isList) (maxL := 2) (ret := (some .boolean)) (by decide) rfl ?_
  intro p e s m args below meth c s1 BB hml hv
  obtain ⟨rfl, hK, hP, hB, hN⟩ := hv
  have hl := lv_entry ([.ref (B 0), .int a1]) (n := 2) (Nat.le_of_ble_eq_true rfl)
  rw [lg_entry_eq]
  generalize (lg_sl ([.ref (B 0), .int a1]) ++ List.replicate (2 - (lg_sl ([.ref (B 0), .int a1])).length) Slot.unset).toArray = ls at hl ⊢
  exact jb_X5_isList BB.exec BB.bytes hml (findClass_of_methodNamed BB.named) (atoms_spec (ws := wsX5_isList) BB.pre) hK hB hN (Nat.le_refl _) (Nat.le_refl _) h (fun v M1 H locs pc ls e1 hz hd hP hS => W.zret BB.exec BB.bytes BB.returns (jl_nar hz) (fun t ht hW => ⟨⟨_, (), rfl, by rw [← e1], by show va_P D vwCl (jy_w cI cT B z.2) t.heap; rw [ht, ← e1]; exact hP⟩, hS.F ht⟩) hS.2.2 hd BB.notSynchronized) hP va_S.rf hl
end
section
variable {p : Program} {l : Launch} {e : Env} {R : Room} {s : State} {m : MethodId} {args : Array Value} {below : List Frame} {meth : Method} {c : Code} {H : Heap} {locs : List Loc} {Q : State → Prop} {ls : Array Slot} {D : va_G} {cI cT : ClassId} {B : Nat → Nat} {M : jl_Mem} {H0 : Heap}
set_option maxHeartbeats 4000000 in
set_option maxRecDepth 100000 in
theorem jb_X5_thing (hx : p.tables.exec = Jvm.exec) (hb : c.code = cX5_thing) (hml : c.maxLocals = 2) (hown : s.vm.findClass RX5 = some m.cls) (hts : ∀ w ∈ wsX5_thing, w.before args s = true) (hK : va_K D vwCl (jy_ty cI cT) s) (hB : jy_inj B) (hN : jy_N s) (hRf : 0 ≤ R.frames) (hRl : 0 ≤ R.locals) {z : Int32 × jl_Mem} (h : jf_X5_thing M = some z)
    (kr : ∀ (v : Int32) (M1 : jl_Mem) (H1 : Heap) (locs1 : List Loc) (pc1 : Nat) (ls1 : Array Slot), (v, M1) = z → decode cX5_thing pc1 = .ok (.ireturn, 1) → va_P D vwCl (jy_w cI cT B M1) H1 → va_S (jy_A B) H0 H1 locs1 → W p l e R s m args below meth c H1 locs1 0 0 Q (F0 m pc1 ls1 [.int v]))
    (hP : va_P D vwCl (jy_w cI cT B M) H) (hS : va_S (jy_A B) H0 H locs) (hl : lv_has ls 2 [(0, .ref (B 0))]) : W p l e R s m args below meth c H locs 0 0 Q (F0 m 0 ls []) := by
  unfold jf_X5_thing at h
  have hiX5 : ∀ w ∈ wsX50, w ∈ wsX5_thing := by decide +kernel
  have hf63 := hts (.fieldLink RX5 63 "JudgesListsModel" "things" "I") (by decide +kernel)
  have hf73 := hts (.fieldLink RX5 73 "JudgesListsModel" "reads" "Z") (by decide +kernel)
  have hf19 := hts (.fieldLink RX5 19 "JudgesListsModel" "mark" "[I") (by decide +kernel)
  refine lv_aload_n hx hb dX5_thing_0 rfl (lv_at hl 0 rfl) ?_
  refine jy_g_X5_things hx hb hts hiX5 hown hK hP hf63 dX5_thing_1 ?_
  refine lv_bipush (v := 20) hx hb dX5_thing_4 (by decide) ?_
  refine lv_icmp_ne (tgt := 12) hx hb dX5_thing_6 (by decide) (fun c_6 => ?_) (fun c_6 => ?_)
  · have h := jl_iff c_6 h
    refine lv_iconst (v := 0) hx hb dX5_thing_12 (by decide) ?_
    refine lv_topi (fun x1_13 ex1_13 => ?_)
    have h := jl_lt_o h ex1_13
    refine lv_istore_n (lv' := [(1, .int x1_13), (0, .ref (B 0))]) hx hb dX5_thing_13 rfl hl (by decide) rfl (fun ls hl => ?_)
    have k14 : ∀ (n14 : Nat) (x1L14 : Int32) (ML14 : jl_Mem), jl_wh (fun q => jf_X5_thing_L14 q.1 q.2) n14 (x1L14, ML14) = some z → ∀ (H : Heap) (locs : List Loc) (ls : Array Slot), va_P D vwCl (jy_w cI cT B ML14) H → va_S (jy_A B) H0 H locs → lv_has ls 2 [(0, .ref (B 0)), (1, .int x1L14)] → W p l e R s m args below meth c H locs 0 0 Q (F0 m 14 ls []) := by
      intro n14
      induction n14 with
      | zero => exact fun _ _ h => (jl_wh_0 h).elim
      | succ n14 ih14 =>
        intro x1L14 ML14 h H locs ls hP hS hl
        obtain ⟨o14, h, hz14⟩ := jl_wh_s h
        replace h : jf_X5_thing_L14 x1L14 ML14 = some o14 := h
        unfold jf_X5_thing_L14 at h
        refine lv_iload_n hx hb dX5_thing_14 rfl (lv_at hl 1 rfl) ?_
        refine lv_iconst (v := 4) hx hb dX5_thing_15 (by decide) ?_
        refine lv_icmp_ge (tgt := 40) hx hb dX5_thing_16 (by decide) (fun c_16 => ?_) (fun c_16 => ?_)
        · have h := jl_ift c_16 h
          have h := jl_ex_o h hz14
          refine lv_aload_n hx hb dX5_thing_40 rfl (lv_at hl 0 rfl) ?_
          refine lv_dup hx hb dX5_thing_41 rfl ?_
          refine jy_g_X5_things hx hb hts hiX5 hown hK hP hf63 dX5_thing_42 ?_
          refine lv_iconst (v := 1) hx hb dX5_thing_45 (by decide) ?_
          refine lv_iadd hx hb dX5_thing_46 ?_
          refine jy_p_X5_things hx hb hts hiX5 hown hK hB hP hS hf63 dX5_thing_47 (fun M_47 H locs eM_47 hP hS => ?_)
          have h := jl_lt_o h eM_47
          refine lv_aload_n hx hb dX5_thing_50 rfl (lv_at hl 0 rfl) ?_
          refine lv_iconst (v := 0) hx hb dX5_thing_51 (by decide) ?_
          refine jy_p_X5_reads hx hb hts hiX5 hown hK hB hP hS hf73 (by decide) dX5_thing_52 (fun M_52 H locs eM_52 hP hS => ?_)
          have h := jl_lt_o h eM_52
          refine lv_aload_n hx hb dX5_thing_55 rfl (lv_at hl 0 rfl) ?_
          refine jy_g_X5_things hx hb hts hiX5 hown hK hP hf63 dX5_thing_56 ?_
          refine lv_iconst (v := 1) hx hb dX5_thing_59 (by decide) ?_
          refine lv_isub hx hb dX5_thing_60 ?_
          exact kr _ _ _ _ _ _ (Option.some.inj h) dX5_thing_61 hP hS
        · have h := jl_iff c_16 h
          refine lv_aload_n hx hb dX5_thing_19 rfl (lv_at hl 0 rfl) ?_
          refine jy_g_X5_mark hx hb hts hiX5 hown hK hP hf19 dX5_thing_20 ?_
          refine lv_bipush (v := 20) hx hb dX5_thing_23 (by decide) ?_
          refine lv_iload_n hx hb dX5_thing_25 rfl (lv_at hl 1 rfl) ?_
          refine lv_imul hx hb dX5_thing_26 ?_
          refine lv_aload_n hx hb dX5_thing_27 rfl (lv_at hl 0 rfl) ?_
          refine jy_g_X5_things hx hb hts hiX5 hown hK hP hf63 dX5_thing_28 ?_
          refine lv_iadd hx hb dX5_thing_31 ?_
          refine lv_iconst (v := 0) hx hb dX5_thing_32 (by decide) ?_
          obtain ⟨i_33, h⟩ := jl_chk_o h
          refine jy_iastore hx hb hK hB hP hS rfl i_33 dX5_thing_33 (fun M_33 H locs eM_33 hP hS => ?_)
          have h := jl_lt_o h eM_33
          obtain ⟨x1_34, ex1_34⟩ : ∃ y : Int32, y = x1L14 + 1 := ⟨_, rfl⟩
          have h := jl_lt_o h ex1_34
          refine lv_iinc (v := x1_34) (lv' := [(1, .int x1_34), (0, .ref (B 0))]) hx hb dX5_thing_34 hl (k := 1) rfl (by rw [ex1_34]; rfl) (by decide) rfl (fun ls hl => ?_)
          refine lv_goto (tgt := 14) hx hb dX5_thing_37 (by decide) ?_
          exact ih14 _ _ (jl_L (Option.some.inj h) hz14) _ _ _ hP hS (lv_sub hl [1, 0] rfl)
    exact k14 _ _ _ h _ _ _ hP hS (lv_sub hl [1, 0] rfl)
  · have h := jl_ift c_6 h
    refine lv_bipush (v := (-4)) hx hb dX5_thing_9 (by decide) ?_
    exact kr _ _ _ _ _ _ (Option.some.inj h) dX5_thing_11 hP hS
theorem jc_X5_thing {z : Int32 × jl_Mem} (h : jf_X5_thing M = some z) : Met l yX5_thing wsX5_thing ({ frames := 0, cells := 0, slots := 0, locals := 0 }) (va_Pc [.ref (B 0)] (jy_U D cI cT B M)) (va_Qi (fun (q : Int32) (_ : Unit) => q = z.1) (fun _ t => va_P D vwCl (jy_w cI cT B z.2) t.heap) (jy_A B)) 0 0 (jy_A B) := by
  refine Met.ofW (cc := cX5_thing) (maxL := 2) (ret := (some .int)) (by decide) rfl ?_
  intro p e s m args below meth c s1 BB hml hv
  obtain ⟨rfl, hK, hP, hB, hN⟩ := hv
  have hl := lv_entry ([.ref (B 0)]) (n := 2) (Nat.le_of_ble_eq_true rfl)
  rw [lg_entry_eq]
  generalize (lg_sl ([.ref (B 0)]) ++ List.replicate (2 - (lg_sl ([.ref (B 0)])).length) Slot.unset).toArray = ls at hl ⊢
  exact jb_X5_thing BB.exec BB.bytes hml (findClass_of_methodNamed BB.named) (atoms_spec (ws := wsX5_thing) BB.pre) hK hB hN (Nat.le_refl _) (Nat.le_refl _) h (fun v M1 H locs pc ls e1 hd hP hS => W.iret BB.exec BB.bytes BB.returns (fun t ht hW => ⟨⟨_, (), rfl, by rw [← e1], by show va_P D vwCl (jy_w cI cT B z.2) t.heap; rw [ht, ← e1]; exact hP⟩, hS.F ht⟩) hS.2.2 hd BB.notSynchronized) hP va_S.rf hl
end
section
variable {p : Program} {l : Launch} {e : Env} {R : Room} {s : State} {m : MethodId} {args : Array Value} {below : List Frame} {meth : Method} {c : Code} {H : Heap} {locs : List Loc} {Q : State → Prop} {ls : Array Slot} {D : va_G} {cI cT : ClassId} {B : Nat → Nat} {M : jl_Mem} {H0 : Heap}
set_option maxHeartbeats 4000000 in
set_option maxRecDepth 100000 in
theorem jb_X5_list (hx : p.tables.exec = Jvm.exec) (hb : c.code = cX5_list) (hml : c.maxLocals = 4) (hown : s.vm.findClass RX5 = some m.cls) (hts : ∀ w ∈ wsX5_list, w.before args s = true) (hK : va_K D vwCl (jy_ty cI cT) s) (hB : jy_inj B) (hN : jy_N s) (hRf : 1 ≤ R.frames) (hRl : 22 ≤ R.locals) {a1 : Int32} {a2 : Int32} {a3 : Int32} {z : Int32 × jl_Mem} (h : jf_X5_list a1 a2 a3 M = some z)
    (kr : ∀ (v : Int32) (M1 : jl_Mem) (H1 : Heap) (locs1 : List Loc) (pc1 : Nat) (ls1 : Array Slot), (v, M1) = z → decode cX5_list pc1 = .ok (.ireturn, 1) → va_P D vwCl (jy_w cI cT B M1) H1 → va_S (jy_A B) H0 H1 locs1 → W p l e R s m args below meth c H1 locs1 0 0 Q (F0 m pc1 ls1 [.int v]))
    (hP : va_P D vwCl (jy_w cI cT B M) H) (hS : va_S (jy_A B) H0 H locs) (hl : lv_has ls 4 [(0, .ref (B 0)), (1, .int a1), (2, .int a2), (3, .int a3)]) : W p l e R s m args below meth c H locs 0 0 Q (F0 m 0 ls []) := by
  unfold jf_X5_list at h
  have hiX5 : ∀ w ∈ wsX50, w ∈ wsX5_list := by decide +kernel
  have hf70 := hts (.fieldLink RX5 70 "JudgesListsModel" "lists" "I") (by decide +kernel)
  have hf7 := hts (.fieldLink RX5 7 "JudgesListsModel" "weight" "[I") (by decide +kernel)
  have hf13 := hts (.fieldLink RX5 13 "JudgesListsModel" "down" "[I") (by decide +kernel)
  have hf16 := hts (.fieldLink RX5 16 "JudgesListsModel" "up" "[I") (by decide +kernel)
  have hf25 := hts (.fieldLink RX5 25 "JudgesListsModel" "length" "[I") (by decide +kernel)
  have hf73 := hts (.fieldLink RX5 73 "JudgesListsModel" "reads" "Z") (by decide +kernel)
  refine lv_iload_n hx hb dX5_list_0 rfl (lv_at hl 1 rfl) ?_
  refine lv_iconst (v := 0) hx hb dX5_list_1 (by decide) ?_
  refine lv_bipush (v := 10) hx hb dX5_list_2 (by decide) ?_
  obtain ⟨r_4, M_4, hc_4, h⟩ := jl_bnd_o h
  refine jy_callSi (As := [.int a1, .int 0, .int 10]) (rest := []) ⟨hx, hb, hml, hown, hts⟩ (jc_X5_in hc_4) (va_cwS 3 hts gX5_list_X5_in rfl rfl rfl (by decide +kernel) ⟨Nat.le_trans (by decide) hRf, Nat.le_trans (by decide) hRl⟩) hK hB hN hP hS rfl dX5_list_4 rfl hl.1 (Nat.le_of_ble_eq_true rfl) ⟨Nat.zero_le _, Nat.zero_le _⟩ (fun H locs hP hS => ?_)
  refine lv_if_eq (tgt := 30) hx hb dX5_list_7 (by decide) (fun c_7 => ?_) (fun c_7 => ?_)
  · have h := jl_ift c_7 h
    refine lv_bipush (v := (-2)) hx hb dX5_list_30 (by decide) ?_
    exact kr _ _ _ _ _ _ (Option.some.inj h) dX5_list_32 hP hS
  · have h := jl_iff c_7 h
    refine lv_iload_n hx hb dX5_list_10 rfl (lv_at hl 2 rfl) ?_
    refine lv_iconst (v := 1) hx hb dX5_list_11 (by decide) ?_
    refine lv_bipush (v := 100) hx hb dX5_list_12 (by decide) ?_
    obtain ⟨r_14, M_14, hc_14, h⟩ := jl_bnd_o h
    refine jy_callSi (As := [.int a2, .int 1, .int 100]) (rest := []) ⟨hx, hb, hml, hown, hts⟩ (jc_X5_in hc_14) (va_cwS 3 hts gX5_list_X5_in rfl rfl rfl (by decide +kernel) ⟨Nat.le_trans (by decide) hRf, Nat.le_trans (by decide) hRl⟩) hK hB hN hP hS rfl dX5_list_14 rfl hl.1 (Nat.le_of_ble_eq_true rfl) ⟨Nat.zero_le _, Nat.zero_le _⟩ (fun H locs hP hS => ?_)
    refine lv_if_eq (tgt := 30) hx hb dX5_list_17 (by decide) (fun c_17 => ?_) (fun c_17 => ?_)
    · have h := jl_ift c_17 h
      refine lv_bipush (v := (-2)) hx hb dX5_list_30 (by decide) ?_
      exact kr _ _ _ _ _ _ (Option.some.inj h) dX5_list_32 hP hS
    · have h := jl_iff c_17 h
      refine lv_iload_n hx hb dX5_list_20 rfl (lv_at hl 3 rfl) ?_
      refine lv_iconst (v := 0) hx hb dX5_list_21 (by decide) ?_
      refine lv_bipush (v := 100) hx hb dX5_list_22 (by decide) ?_
      obtain ⟨r_24, M_24, hc_24, h⟩ := jl_bnd_o h
      refine jy_callSi (As := [.int a3, .int 0, .int 100]) (rest := []) ⟨hx, hb, hml, hown, hts⟩ (jc_X5_in hc_24) (va_cwS 3 hts gX5_list_X5_in rfl rfl rfl (by decide +kernel) ⟨Nat.le_trans (by decide) hRf, Nat.le_trans (by decide) hRl⟩) hK hB hN hP hS rfl dX5_list_24 rfl hl.1 (Nat.le_of_ble_eq_true rfl) ⟨Nat.zero_le _, Nat.zero_le _⟩ (fun H locs hP hS => ?_)
      refine lv_if_ne (tgt := 33) hx hb dX5_list_27 (by decide) (fun c_27 => ?_) (fun c_27 => ?_)
      · have h := jl_iff c_27 h
        refine lv_aload_n hx hb dX5_list_33 rfl (lv_at hl 0 rfl) ?_
        refine jy_g_X5_lists hx hb hts hiX5 hown hK hP hf70 dX5_list_34 ?_
        refine lv_iconst (v := 4) hx hb dX5_list_37 (by decide) ?_
        refine lv_icmp_ne (tgt := 44) hx hb dX5_list_38 (by decide) (fun c_38 => ?_) (fun c_38 => ?_)
        · have h := jl_iff c_38 h
          refine lv_aload_n hx hb dX5_list_44 rfl (lv_at hl 0 rfl) ?_
          refine jy_g_X5_weight hx hb hts hiX5 hown hK hP hf7 dX5_list_45 ?_
          refine lv_aload_n hx hb dX5_list_48 rfl (lv_at hl 0 rfl) ?_
          refine jy_g_X5_lists hx hb hts hiX5 hown hK hP hf70 dX5_list_49 ?_
          refine lv_iload_n hx hb dX5_list_52 rfl (lv_at hl 1 rfl) ?_
          obtain ⟨i_53, h⟩ := jl_chk_o h
          refine jy_iastore hx hb hK hB hP hS rfl i_53 dX5_list_53 (fun M_53 H locs eM_53 hP hS => ?_)
          have h := jl_lt_o h eM_53
          refine lv_aload_n hx hb dX5_list_54 rfl (lv_at hl 0 rfl) ?_
          refine jy_g_X5_down hx hb hts hiX5 hown hK hP hf13 dX5_list_55 ?_
          refine lv_aload_n hx hb dX5_list_58 rfl (lv_at hl 0 rfl) ?_
          refine jy_g_X5_lists hx hb hts hiX5 hown hK hP hf70 dX5_list_59 ?_
          refine lv_iload_n hx hb dX5_list_62 rfl (lv_at hl 2 rfl) ?_
          obtain ⟨i_63, h⟩ := jl_chk_o h
          refine jy_iastore hx hb hK hB hP hS rfl i_63 dX5_list_63 (fun M_63 H locs eM_63 hP hS => ?_)
          have h := jl_lt_o h eM_63
          refine lv_aload_n hx hb dX5_list_64 rfl (lv_at hl 0 rfl) ?_
          refine jy_g_X5_up hx hb hts hiX5 hown hK hP hf16 dX5_list_65 ?_
          refine lv_aload_n hx hb dX5_list_68 rfl (lv_at hl 0 rfl) ?_
          refine jy_g_X5_lists hx hb hts hiX5 hown hK hP hf70 dX5_list_69 ?_
          refine lv_iload_n hx hb dX5_list_72 rfl (lv_at hl 3 rfl) ?_
          obtain ⟨i_73, h⟩ := jl_chk_o h
          refine jy_iastore hx hb hK hB hP hS rfl i_73 dX5_list_73 (fun M_73 H locs eM_73 hP hS => ?_)
          have h := jl_lt_o h eM_73
          refine lv_aload_n hx hb dX5_list_74 rfl (lv_at hl 0 rfl) ?_
          refine jy_g_X5_length hx hb hts hiX5 hown hK hP hf25 dX5_list_75 ?_
          refine lv_aload_n hx hb dX5_list_78 rfl (lv_at hl 0 rfl) ?_
          refine jy_g_X5_lists hx hb hts hiX5 hown hK hP hf70 dX5_list_79 ?_
          refine lv_iconst (v := 0) hx hb dX5_list_82 (by decide) ?_
          obtain ⟨i_83, h⟩ := jl_chk_o h
          refine jy_iastore hx hb hK hB hP hS rfl i_83 dX5_list_83 (fun M_83 H locs eM_83 hP hS => ?_)
          have h := jl_lt_o h eM_83
          refine lv_aload_n hx hb dX5_list_84 rfl (lv_at hl 0 rfl) ?_
          refine lv_dup hx hb dX5_list_85 rfl ?_
          refine jy_g_X5_lists hx hb hts hiX5 hown hK hP hf70 dX5_list_86 ?_
          refine lv_iconst (v := 1) hx hb dX5_list_89 (by decide) ?_
          refine lv_iadd hx hb dX5_list_90 ?_
          refine jy_p_X5_lists hx hb hts hiX5 hown hK hB hP hS hf70 dX5_list_91 (fun M_91 H locs eM_91 hP hS => ?_)
          have h := jl_lt_o h eM_91
          refine lv_aload_n hx hb dX5_list_94 rfl (lv_at hl 0 rfl) ?_
          refine lv_iconst (v := 0) hx hb dX5_list_95 (by decide) ?_
          refine jy_p_X5_reads hx hb hts hiX5 hown hK hB hP hS hf73 (by decide) dX5_list_96 (fun M_96 H locs eM_96 hP hS => ?_)
          have h := jl_lt_o h eM_96
          refine lv_aload_n hx hb dX5_list_99 rfl (lv_at hl 0 rfl) ?_
          refine jy_g_X5_lists hx hb hts hiX5 hown hK hP hf70 dX5_list_100 ?_
          refine lv_iconst (v := 1) hx hb dX5_list_103 (by decide) ?_
          refine lv_isub hx hb dX5_list_104 ?_
          exact kr _ _ _ _ _ _ (Option.some.inj h) dX5_list_105 hP hS
        · have h := jl_ift c_38 h
          refine lv_bipush (v := (-4)) hx hb dX5_list_41 (by decide) ?_
          exact kr _ _ _ _ _ _ (Option.some.inj h) dX5_list_43 hP hS
      · have h := jl_ift c_27 h
        refine lv_bipush (v := (-2)) hx hb dX5_list_30 (by decide) ?_
        exact kr _ _ _ _ _ _ (Option.some.inj h) dX5_list_32 hP hS
theorem jc_X5_list {a1 : Int32} {a2 : Int32} {a3 : Int32} {z : Int32 × jl_Mem} (h : jf_X5_list a1 a2 a3 M = some z) : Met l yX5_list wsX5_list ({ frames := 1, cells := 0, slots := 0, locals := 22 }) (va_Pc [.ref (B 0), .int a1, .int a2, .int a3] (jy_U D cI cT B M)) (va_Qi (fun (q : Int32) (_ : Unit) => q = z.1) (fun _ t => va_P D vwCl (jy_w cI cT B z.2) t.heap) (jy_A B)) 0 0 (jy_A B) := by
  refine Met.ofW (cc := cX5_list) (maxL := 4) (ret := (some .int)) (by decide) rfl ?_
  intro p e s m args below meth c s1 BB hml hv
  obtain ⟨rfl, hK, hP, hB, hN⟩ := hv
  have hl := lv_entry ([.ref (B 0), .int a1, .int a2, .int a3]) (n := 4) (Nat.le_of_ble_eq_true rfl)
  rw [lg_entry_eq]
  generalize (lg_sl ([.ref (B 0), .int a1, .int a2, .int a3]) ++ List.replicate (4 - (lg_sl ([.ref (B 0), .int a1, .int a2, .int a3])).length) Slot.unset).toArray = ls at hl ⊢
  exact jb_X5_list BB.exec BB.bytes hml (findClass_of_methodNamed BB.named) (atoms_spec (ws := wsX5_list) BB.pre) hK hB hN (Nat.le_refl _) (Nat.le_refl _) h (fun v M1 H locs pc ls e1 hd hP hS => W.iret BB.exec BB.bytes BB.returns (fun t ht hW => ⟨⟨_, (), rfl, by rw [← e1], by show va_P D vwCl (jy_w cI cT B z.2) t.heap; rw [ht, ← e1]; exact hP⟩, hS.F ht⟩) hS.2.2 hd BB.notSynchronized) hP va_S.rf hl
end
section
variable {p : Program} {l : Launch} {e : Env} {R : Room} {s : State} {m : MethodId} {args : Array Value} {below : List Frame} {meth : Method} {c : Code} {H : Heap} {locs : List Loc} {Q : State → Prop} {ls : Array Slot} {D : va_G} {cI cT : ClassId} {B : Nat → Nat} {M : jl_Mem} {H0 : Heap}
set_option maxHeartbeats 4000000 in
set_option maxRecDepth 100000 in
theorem jb_X5_order (hx : p.tables.exec = Jvm.exec) (hb : c.code = cX5_order) (hml : c.maxLocals = 4) (hown : s.vm.findClass RX5 = some m.cls) (hts : ∀ w ∈ wsX5_order, w.before args s = true) (hK : va_K D vwCl (jy_ty cI cT) s) (hB : jy_inj B) (hN : jy_N s) (hRf : 0 ≤ R.frames) (hRl : 0 ≤ R.locals) {a1 : Int32} {z : Int32 × jl_Mem} (h : jf_X5_order a1 M = some z)
    (kr : ∀ (M1 : jl_Mem) (H1 : Heap) (locs1 : List Loc) (pc1 : Nat) (ls1 : Array Slot), (0, M1) = z → decode cX5_order pc1 = .ok (.return_, 1) → va_P D vwCl (jy_w cI cT B M1) H1 → va_S (jy_A B) H0 H1 locs1 → W p l e R s m args below meth c H1 locs1 0 0 Q (F0 m pc1 ls1 []))
    (hP : va_P D vwCl (jy_w cI cT B M) H) (hS : va_S (jy_A B) H0 H locs) (hl : lv_has ls 4 [(0, .ref (B 0)), (1, .int a1)]) : W p l e R s m args below meth c H locs 0 0 Q (F0 m 0 ls []) := by
  unfold jf_X5_order at h
  have hiX5 : ∀ w ∈ wsX50, w ∈ wsX5_order := by decide +kernel
  have hf25 := hts (.fieldLink RX5 25 "JudgesListsModel" "length" "[I") (by decide +kernel)
  have hf63 := hts (.fieldLink RX5 63 "JudgesListsModel" "things" "I") (by decide +kernel)
  have hf73 := hts (.fieldLink RX5 73 "JudgesListsModel" "reads" "Z") (by decide +kernel)
  have hf19 := hts (.fieldLink RX5 19 "JudgesListsModel" "mark" "[I") (by decide +kernel)
  have hf22 := hts (.fieldLink RX5 22 "JudgesListsModel" "row" "[I") (by decide +kernel)
  refine lv_aload_n hx hb dX5_order_0 rfl (lv_at hl 0 rfl) ?_
  refine jy_g_X5_length hx hb hts hiX5 hown hK hP hf25 dX5_order_1 ?_
  refine lv_iload_n hx hb dX5_order_4 rfl (lv_at hl 1 rfl) ?_
  refine lv_iconst (v := 0) hx hb dX5_order_5 (by decide) ?_
  obtain ⟨i_6, h⟩ := jl_chk_o h
  refine jy_iastore hx hb hK hB hP hS rfl i_6 dX5_order_6 (fun M_6 H locs eM_6 hP hS => ?_)
  have h := jl_lt_o h eM_6
  refine lv_iconst (v := 0) hx hb dX5_order_7 (by decide) ?_
  refine lv_topi (fun x2_8 ex2_8 => ?_)
  have h := jl_lt_o h ex2_8
  refine lv_istore_n (lv' := [(2, .int x2_8), (0, .ref (B 0)), (1, .int a1)]) hx hb dX5_order_8 rfl hl (by decide) rfl (fun ls hl => ?_)
  have k9 : ∀ (n9 : Nat) (x2L9 : Int32) (ML9 : jl_Mem), jl_wh (fun q => jf_X5_order_L9 a1 q.1 q.2) n9 (x2L9, ML9) = some z → ∀ (H : Heap) (locs : List Loc) (ls : Array Slot), va_P D vwCl (jy_w cI cT B ML9) H → va_S (jy_A B) H0 H locs → lv_has ls 4 [(0, .ref (B 0)), (1, .int a1), (2, .int x2L9)] → W p l e R s m args below meth c H locs 0 0 Q (F0 m 9 ls []) := by
    intro n9
    induction n9 with
    | zero => exact fun _ _ h => (jl_wh_0 h).elim
    | succ n9 ih9 =>
      intro x2L9 ML9 h H locs ls hP hS hl
      obtain ⟨o9, h, hz9⟩ := jl_wh_s h
      replace h : jf_X5_order_L9 a1 x2L9 ML9 = some o9 := h
      unfold jf_X5_order_L9 at h
      refine lv_iload_n hx hb dX5_order_9 rfl (lv_at hl 2 rfl) ?_
      refine lv_aload_n hx hb dX5_order_10 rfl (lv_at hl 0 rfl) ?_
      refine jy_g_X5_things hx hb hts hiX5 hown hK hP hf63 dX5_order_11 ?_
      refine lv_icmp_ge (tgt := 140) hx hb dX5_order_14 (by decide) (fun c_14 => ?_) (fun c_14 => ?_)
      · have h := jl_ift c_14 h
        have h := jl_ex_o h hz9
        refine lv_aload_n hx hb dX5_order_140 rfl (lv_at hl 0 rfl) ?_
        refine lv_iconst (v := 0) hx hb dX5_order_141 (by decide) ?_
        refine jy_p_X5_reads hx hb hts hiX5 hown hK hB hP hS hf73 (by decide) dX5_order_142 (fun M_142 H locs eM_142 hP hS => ?_)
        have h := jl_lt_o h eM_142
        exact kr _ _ _ _ _ (Option.some.inj h) dX5_order_145 hP hS
      · have h := jl_iff c_14 h
        refine lv_aload_n hx hb dX5_order_17 rfl (lv_at hl 0 rfl) ?_
        refine jy_g_X5_mark hx hb hts hiX5 hown hK hP hf19 dX5_order_18 ?_
        refine lv_bipush (v := 20) hx hb dX5_order_21 (by decide) ?_
        refine lv_iload_n hx hb dX5_order_23 rfl (lv_at hl 1 rfl) ?_
        refine lv_imul hx hb dX5_order_24 ?_
        refine lv_iload_n hx hb dX5_order_25 rfl (lv_at hl 2 rfl) ?_
        refine lv_iadd hx hb dX5_order_26 ?_
        obtain ⟨i_27, h⟩ := jl_chk_o h
        refine jy_iaload hx hb hK hP rfl i_27 dX5_order_27 ?_
        refine lv_if_ne (tgt := 34) hx hb dX5_order_28 (by decide) (fun c_28 => ?_) (fun c_28 => ?_)
        · have h := jl_iff c_28 h
          refine lv_aload_n hx hb dX5_order_34 rfl (lv_at hl 0 rfl) ?_
          refine jy_g_X5_length hx hb hts hiX5 hown hK hP hf25 dX5_order_35 ?_
          refine lv_iload_n hx hb dX5_order_38 rfl (lv_at hl 1 rfl) ?_
          refine jy_iaload hx hb hK hP rfl i_6 dX5_order_39 ?_
          refine lv_topi (fun x3_40 ex3_40 => ?_)
          have h := jl_lt_o h ex3_40
          refine lv_istore_n (lv' := [(3, .int x3_40), (0, .ref (B 0)), (1, .int a1), (2, .int x2L9)]) hx hb dX5_order_40 rfl hl (by decide) rfl (fun ls hl => ?_)
          have k41 : ∀ (n41 : Nat) (x3L41 : Int32) (ML41 : jl_Mem), jl_wh (fun q => jf_X5_order_L41 a1 x2L9 q.1 q.2) n41 (x3L41, ML41) = some o9 → ∀ (H : Heap) (locs : List Loc) (ls : Array Slot), va_P D vwCl (jy_w cI cT B ML41) H → va_S (jy_A B) H0 H locs → lv_has ls 4 [(0, .ref (B 0)), (1, .int a1), (2, .int x2L9), (3, .int x3L41)] → W p l e R s m args below meth c H locs 0 0 Q (F0 m 41 ls []) := by
            intro n41
            induction n41 with
            | zero => exact fun _ _ h => (jl_wh_0 h).elim
            | succ n41 ih41 =>
              intro x3L41 ML41 h H locs ls hP hS hl
              obtain ⟨o41, h, hz41⟩ := jl_wh_s h
              replace h : jf_X5_order_L41 a1 x2L9 x3L41 ML41 = some o41 := h
              unfold jf_X5_order_L41 at h
              refine lv_iload_n hx hb dX5_order_41 rfl (lv_at hl 3 rfl) ?_
              refine lv_if_le (tgt := 112) hx hb dX5_order_42 (by decide) (fun c_42 => ?_) (fun c_42 => ?_)
              · have h := jl_ift c_42 h
                have h := jl_ex_o h hz41
                refine lv_aload_n hx hb dX5_order_112 rfl (lv_at hl 0 rfl) ?_
                refine jy_g_X5_row hx hb hts hiX5 hown hK hP hf22 dX5_order_113 ?_
                refine lv_bipush (v := 20) hx hb dX5_order_116 (by decide) ?_
                refine lv_iload_n hx hb dX5_order_118 rfl (lv_at hl 1 rfl) ?_
                refine lv_imul hx hb dX5_order_119 ?_
                refine lv_iload_n hx hb dX5_order_120 rfl (lv_at hl 3 rfl) ?_
                refine lv_iadd hx hb dX5_order_121 ?_
                refine lv_iload_n hx hb dX5_order_122 rfl (lv_at hl 2 rfl) ?_
                obtain ⟨i_123, h⟩ := jl_chk_o h
                refine jy_iastore hx hb hK hB hP hS rfl i_123 dX5_order_123 (fun M_123 H locs eM_123 hP hS => ?_)
                have h := jl_lt_o h eM_123
                refine lv_aload_n hx hb dX5_order_124 rfl (lv_at hl 0 rfl) ?_
                refine jy_g_X5_length hx hb hts hiX5 hown hK hP hf25 dX5_order_125 ?_
                refine lv_iload_n hx hb dX5_order_128 rfl (lv_at hl 1 rfl) ?_
                refine lv_dup2_11 hx hb dX5_order_129 rfl rfl ?_
                refine jy_iaload hx hb hK hP rfl i_6 dX5_order_130 ?_
                refine lv_iconst (v := 1) hx hb dX5_order_131 (by decide) ?_
                refine lv_iadd hx hb dX5_order_132 ?_
                refine jy_iastore hx hb hK hB hP hS rfl i_6 dX5_order_133 (fun M_133 H locs eM_133 hP hS => ?_)
                have h := jl_lt_o h eM_133
                obtain ⟨x2_134, ex2_134⟩ : ∃ y : Int32, y = x2L9 + 1 := ⟨_, rfl⟩
                have h := jl_lt_o h ex2_134
                refine lv_iinc (v := x2_134) (lv' := [(2, .int x2_134), (0, .ref (B 0)), (1, .int a1), (3, .int x3L41)]) hx hb dX5_order_134 hl (k := 2) rfl (by rw [ex2_134]; rfl) (by decide) rfl (fun ls hl => ?_)
                refine lv_goto (tgt := 9) hx hb dX5_order_137 (by decide) ?_
                exact ih9 _ _ (jl_L (Option.some.inj h) hz9) _ _ _ hP hS (lv_sub hl [1, 2, 0] rfl)
              · have h := jl_iff c_42 h
                refine lv_aload_n hx hb dX5_order_45 rfl (lv_at hl 0 rfl) ?_
                refine jy_g_X5_mark hx hb hts hiX5 hown hK hP hf19 dX5_order_46 ?_
                refine lv_bipush (v := 20) hx hb dX5_order_49 (by decide) ?_
                refine lv_iload_n hx hb dX5_order_51 rfl (lv_at hl 1 rfl) ?_
                refine lv_imul hx hb dX5_order_52 ?_
                refine lv_aload_n hx hb dX5_order_53 rfl (lv_at hl 0 rfl) ?_
                refine jy_g_X5_row hx hb hts hiX5 hown hK hP hf22 dX5_order_54 ?_
                refine lv_bipush (v := 20) hx hb dX5_order_57 (by decide) ?_
                refine lv_iload_n hx hb dX5_order_59 rfl (lv_at hl 1 rfl) ?_
                refine lv_imul hx hb dX5_order_60 ?_
                refine lv_iload_n hx hb dX5_order_61 rfl (lv_at hl 3 rfl) ?_
                refine lv_iadd hx hb dX5_order_62 ?_
                refine lv_iconst (v := 1) hx hb dX5_order_63 (by decide) ?_
                refine lv_isub hx hb dX5_order_64 ?_
                obtain ⟨i_65, h⟩ := jl_chk_o h
                refine jy_iaload hx hb hK hP rfl i_65 dX5_order_65 ?_
                refine lv_iadd hx hb dX5_order_66 ?_
                obtain ⟨i_67, h⟩ := jl_chk_o h
                refine jy_iaload hx hb hK hP rfl i_67 dX5_order_67 ?_
                refine lv_aload_n hx hb dX5_order_68 rfl (lv_at hl 0 rfl) ?_
                refine jy_g_X5_mark hx hb hts hiX5 hown hK hP hf19 dX5_order_69 ?_
                refine lv_bipush (v := 20) hx hb dX5_order_72 (by decide) ?_
                refine lv_iload_n hx hb dX5_order_74 rfl (lv_at hl 1 rfl) ?_
                refine lv_imul hx hb dX5_order_75 ?_
                refine lv_iload_n hx hb dX5_order_76 rfl (lv_at hl 2 rfl) ?_
                refine lv_iadd hx hb dX5_order_77 ?_
                refine jy_iaload hx hb hK hP rfl i_27 dX5_order_78 ?_
                refine lv_icmp_ge (tgt := 112) hx hb dX5_order_79 (by decide) (fun c_79 => ?_) (fun c_79 => ?_)
                · have h := jl_ift c_79 h
                  have h := jl_ex_o h hz41
                  refine lv_aload_n hx hb dX5_order_112 rfl (lv_at hl 0 rfl) ?_
                  refine jy_g_X5_row hx hb hts hiX5 hown hK hP hf22 dX5_order_113 ?_
                  refine lv_bipush (v := 20) hx hb dX5_order_116 (by decide) ?_
                  refine lv_iload_n hx hb dX5_order_118 rfl (lv_at hl 1 rfl) ?_
                  refine lv_imul hx hb dX5_order_119 ?_
                  refine lv_iload_n hx hb dX5_order_120 rfl (lv_at hl 3 rfl) ?_
                  refine lv_iadd hx hb dX5_order_121 ?_
                  refine lv_iload_n hx hb dX5_order_122 rfl (lv_at hl 2 rfl) ?_
                  obtain ⟨i_123, h⟩ := jl_chk_o h
                  refine jy_iastore hx hb hK hB hP hS rfl i_123 dX5_order_123 (fun M_123 H locs eM_123 hP hS => ?_)
                  have h := jl_lt_o h eM_123
                  refine lv_aload_n hx hb dX5_order_124 rfl (lv_at hl 0 rfl) ?_
                  refine jy_g_X5_length hx hb hts hiX5 hown hK hP hf25 dX5_order_125 ?_
                  refine lv_iload_n hx hb dX5_order_128 rfl (lv_at hl 1 rfl) ?_
                  refine lv_dup2_11 hx hb dX5_order_129 rfl rfl ?_
                  refine jy_iaload hx hb hK hP rfl i_6 dX5_order_130 ?_
                  refine lv_iconst (v := 1) hx hb dX5_order_131 (by decide) ?_
                  refine lv_iadd hx hb dX5_order_132 ?_
                  refine jy_iastore hx hb hK hB hP hS rfl i_6 dX5_order_133 (fun M_133 H locs eM_133 hP hS => ?_)
                  have h := jl_lt_o h eM_133
                  obtain ⟨x2_134, ex2_134⟩ : ∃ y : Int32, y = x2L9 + 1 := ⟨_, rfl⟩
                  have h := jl_lt_o h ex2_134
                  refine lv_iinc (v := x2_134) (lv' := [(2, .int x2_134), (0, .ref (B 0)), (1, .int a1), (3, .int x3L41)]) hx hb dX5_order_134 hl (k := 2) rfl (by rw [ex2_134]; rfl) (by decide) rfl (fun ls hl => ?_)
                  refine lv_goto (tgt := 9) hx hb dX5_order_137 (by decide) ?_
                  exact ih9 _ _ (jl_L (Option.some.inj h) hz9) _ _ _ hP hS (lv_sub hl [1, 2, 0] rfl)
                · have h := jl_iff c_79 h
                  refine lv_aload_n hx hb dX5_order_82 rfl (lv_at hl 0 rfl) ?_
                  refine jy_g_X5_row hx hb hts hiX5 hown hK hP hf22 dX5_order_83 ?_
                  refine lv_bipush (v := 20) hx hb dX5_order_86 (by decide) ?_
                  refine lv_iload_n hx hb dX5_order_88 rfl (lv_at hl 1 rfl) ?_
                  refine lv_imul hx hb dX5_order_89 ?_
                  refine lv_iload_n hx hb dX5_order_90 rfl (lv_at hl 3 rfl) ?_
                  refine lv_iadd hx hb dX5_order_91 ?_
                  refine lv_aload_n hx hb dX5_order_92 rfl (lv_at hl 0 rfl) ?_
                  refine jy_g_X5_row hx hb hts hiX5 hown hK hP hf22 dX5_order_93 ?_
                  refine lv_bipush (v := 20) hx hb dX5_order_96 (by decide) ?_
                  refine lv_iload_n hx hb dX5_order_98 rfl (lv_at hl 1 rfl) ?_
                  refine lv_imul hx hb dX5_order_99 ?_
                  refine lv_iload_n hx hb dX5_order_100 rfl (lv_at hl 3 rfl) ?_
                  refine lv_iadd hx hb dX5_order_101 ?_
                  refine lv_iconst (v := 1) hx hb dX5_order_102 (by decide) ?_
                  refine lv_isub hx hb dX5_order_103 ?_
                  refine jy_iaload hx hb hK hP rfl i_65 dX5_order_104 ?_
                  obtain ⟨i_105, h⟩ := jl_chk_o h
                  refine jy_iastore hx hb hK hB hP hS rfl i_105 dX5_order_105 (fun M_105 H locs eM_105 hP hS => ?_)
                  have h := jl_lt_o h eM_105
                  obtain ⟨x3_106, ex3_106⟩ : ∃ y : Int32, y = x3L41 + (-1) := ⟨_, rfl⟩
                  have h := jl_lt_o h ex3_106
                  refine lv_iinc (v := x3_106) (lv' := [(3, .int x3_106), (0, .ref (B 0)), (1, .int a1), (2, .int x2L9)]) hx hb dX5_order_106 hl (k := 3) rfl (by rw [ex3_106]; rfl) (by decide) rfl (fun ls hl => ?_)
                  refine lv_goto (tgt := 41) hx hb dX5_order_109 (by decide) ?_
                  exact ih41 _ _ (jl_L (Option.some.inj h) hz41) _ _ _ hP hS (lv_sub hl [1, 2, 3, 0] rfl)
          exact k41 _ _ _ h _ _ _ hP hS (lv_sub hl [1, 2, 3, 0] rfl)
        · have h := jl_ift c_28 h
          refine lv_goto (tgt := 134) hx hb dX5_order_31 (by decide) ?_
          obtain ⟨x2_134, ex2_134⟩ : ∃ y : Int32, y = x2L9 + 1 := ⟨_, rfl⟩
          have h := jl_lt_o h ex2_134
          refine lv_iinc (v := x2_134) (lv' := [(2, .int x2_134), (0, .ref (B 0)), (1, .int a1)]) hx hb dX5_order_134 hl (k := 2) rfl (by rw [ex2_134]; rfl) (by decide) rfl (fun ls hl => ?_)
          refine lv_goto (tgt := 9) hx hb dX5_order_137 (by decide) ?_
          exact ih9 _ _ (jl_L (Option.some.inj h) hz9) _ _ _ hP hS (lv_sub hl [1, 2, 0] rfl)
  exact k9 _ _ _ h _ _ _ hP hS (lv_sub hl [1, 2, 0] rfl)
theorem jc_X5_order {a1 : Int32} {z : Int32 × jl_Mem} (h : jf_X5_order a1 M = some z) : Met l yX5_order wsX5_order ({ frames := 0, cells := 0, slots := 0, locals := 0 }) (va_Pc [.ref (B 0), .int a1] (jy_U D cI cT B M)) (va_Qv (fun (_ : Unit) => True) (fun _ t => va_P D vwCl (jy_w cI cT B z.2) t.heap) (jy_A B)) 0 0 (jy_A B) := by
  refine Met.ofW (cc := cX5_order) (maxL := 4) (ret := none) (by decide) rfl ?_
  intro p e s m args below meth c s1 BB hml hv
  obtain ⟨rfl, hK, hP, hB, hN⟩ := hv
  have hl := lv_entry ([.ref (B 0), .int a1]) (n := 4) (Nat.le_of_ble_eq_true rfl)
  rw [lg_entry_eq]
  generalize (lg_sl ([.ref (B 0), .int a1]) ++ List.replicate (4 - (lg_sl ([.ref (B 0), .int a1])).length) Slot.unset).toArray = ls at hl ⊢
  exact jb_X5_order BB.exec BB.bytes hml (findClass_of_methodNamed BB.named) (atoms_spec (ws := wsX5_order) BB.pre) hK hB hN (Nat.le_refl _) (Nat.le_refl _) h (fun M1 H locs pc ls e1 hd hP hS => W.vret BB.exec BB.bytes BB.returns (fun t ht hW => ⟨⟨(), rfl, trivial, by show va_P D vwCl (jy_w cI cT B z.2) t.heap; rw [ht, ← e1]; exact hP⟩, hS.F ht⟩) hS.2.2 hd BB.notSynchronized) hP va_S.rf hl
end
section
variable {p : Program} {l : Launch} {e : Env} {R : Room} {s : State} {m : MethodId} {args : Array Value} {below : List Frame} {meth : Method} {c : Code} {H : Heap} {locs : List Loc} {Q : State → Prop} {ls : Array Slot} {D : va_G} {cI cT : ClassId} {B : Nat → Nat} {M : jl_Mem} {H0 : Heap}
set_option maxHeartbeats 4000000 in
set_option maxRecDepth 100000 in
theorem jb_X5_mark (hx : p.tables.exec = Jvm.exec) (hb : c.code = cX5_mark) (hml : c.maxLocals = 5) (hown : s.vm.findClass RX5 = some m.cls) (hts : ∀ w ∈ wsX5_mark, w.before args s = true) (hK : va_K D vwCl (jy_ty cI cT) s) (hB : jy_inj B) (hN : jy_N s) (hRf : 2 ≤ R.frames) (hRl : 43 ≤ R.locals) {a1 : Int32} {a2 : Int32} {a3 : Int32} {z : Int32 × jl_Mem} (h : jf_X5_mark a1 a2 a3 M = some z)
    (kr : ∀ (v : Int32) (M1 : jl_Mem) (H1 : Heap) (locs1 : List Loc) (pc1 : Nat) (ls1 : Array Slot), (v, M1) = z → decode cX5_mark pc1 = .ok (.ireturn, 1) → va_P D vwCl (jy_w cI cT B M1) H1 → va_S (jy_A B) H0 H1 locs1 → W p l e R s m args below meth c H1 locs1 0 0 Q (F0 m pc1 ls1 [.int v]))
    (hP : va_P D vwCl (jy_w cI cT B M) H) (hS : va_S (jy_A B) H0 H locs) (hl : lv_has ls 5 [(0, .ref (B 0)), (1, .int a1), (2, .int a2), (3, .int a3)]) : W p l e R s m args below meth c H locs 0 0 Q (F0 m 0 ls []) := by
  unfold jf_X5_mark at h
  have hiX5 : ∀ w ∈ wsX50, w ∈ wsX5_mark := by decide +kernel
  have hf19 := hts (.fieldLink RX5 19 "JudgesListsModel" "mark" "[I") (by decide +kernel)
  refine lv_aload_n hx hb dX5_mark_0 rfl (lv_at hl 0 rfl) ?_
  refine lv_iload_n hx hb dX5_mark_1 rfl (lv_at hl 1 rfl) ?_
  obtain ⟨r_2, M_2, hc_2, h⟩ := jl_bnd_o h
  refine jy_callVi (As := [.int a1]) (rest := []) ⟨hx, hb, hml, hown, hts⟩ (jc_X5_isList hc_2) (cwV 1 hts gX5_mark_X5_isList rfl rfl rfl (by decide +kernel) ⟨Nat.le_trans (by decide) hRf, Nat.le_trans (by decide) hRl⟩) (jy_rv_X5 hK hP) hK hB hN hP hS rfl dX5_mark_2 rfl hl.1 (Nat.le_of_ble_eq_true rfl) ⟨Nat.zero_le _, Nat.zero_le _⟩ (fun H locs hP hS => ?_)
  refine lv_if_eq (tgt := 16) hx hb dX5_mark_5 (by decide) (fun c_5 => ?_) (fun c_5 => ?_)
  · have h := jl_ift c_5 h
    refine lv_iconst (v := (-1)) hx hb dX5_mark_16 (by decide) ?_
    exact kr _ _ _ _ _ _ (Option.some.inj h) dX5_mark_17 hP hS
  · have h := jl_iff c_5 h
    refine lv_aload_n hx hb dX5_mark_8 rfl (lv_at hl 0 rfl) ?_
    refine lv_iload_n hx hb dX5_mark_9 rfl (lv_at hl 2 rfl) ?_
    obtain ⟨r_10, M_10, hc_10, h⟩ := jl_bnd_o h
    refine jy_callVi (As := [.int a2]) (rest := []) ⟨hx, hb, hml, hown, hts⟩ (jc_X5_isThing hc_10) (cwV 1 hts gX5_mark_X5_isThing rfl rfl rfl (by decide +kernel) ⟨Nat.le_trans (by decide) hRf, Nat.le_trans (by decide) hRl⟩) (jy_rv_X5 hK hP) hK hB hN hP hS rfl dX5_mark_10 rfl hl.1 (Nat.le_of_ble_eq_true rfl) ⟨Nat.zero_le _, Nat.zero_le _⟩ (fun H locs hP hS => ?_)
    refine lv_if_ne (tgt := 18) hx hb dX5_mark_13 (by decide) (fun c_13 => ?_) (fun c_13 => ?_)
    · have h := jl_iff c_13 h
      refine lv_iload_n hx hb dX5_mark_18 rfl (lv_at hl 3 rfl) ?_
      refine lv_iconst (v := 1) hx hb dX5_mark_19 (by decide) ?_
      refine lv_sipush (v := 1000) hx hb dX5_mark_20 (by decide) ?_
      obtain ⟨r_23, M_23, hc_23, h⟩ := jl_bnd_o h
      refine jy_callSi (As := [.int a3, .int 1, .int 1000]) (rest := []) ⟨hx, hb, hml, hown, hts⟩ (jc_X5_in hc_23) (va_cwS 3 hts gX5_mark_X5_in rfl rfl rfl (by decide +kernel) ⟨Nat.le_trans (by decide) hRf, Nat.le_trans (by decide) hRl⟩) hK hB hN hP hS rfl dX5_mark_23 rfl hl.1 (Nat.le_of_ble_eq_true rfl) ⟨Nat.zero_le _, Nat.zero_le _⟩ (fun H locs hP hS => ?_)
      refine lv_if_ne (tgt := 32) hx hb dX5_mark_26 (by decide) (fun c_26 => ?_) (fun c_26 => ?_)
      · have h := jl_iff c_26 h
        refine lv_aload_n hx hb dX5_mark_32 rfl (lv_at hl 0 rfl) ?_
        refine jy_g_X5_mark hx hb hts hiX5 hown hK hP hf19 dX5_mark_33 ?_
        refine lv_bipush (v := 20) hx hb dX5_mark_36 (by decide) ?_
        refine lv_iload_n hx hb dX5_mark_38 rfl (lv_at hl 1 rfl) ?_
        refine lv_imul hx hb dX5_mark_39 ?_
        refine lv_iload_n hx hb dX5_mark_40 rfl (lv_at hl 2 rfl) ?_
        refine lv_iadd hx hb dX5_mark_41 ?_
        obtain ⟨i_42, h⟩ := jl_chk_o h
        refine jy_iaload hx hb hK hP rfl i_42 dX5_mark_42 ?_
        refine lv_topi (fun x4_43 ex4_43 => ?_)
        have h := jl_lt_o h ex4_43
        refine lv_istore (lv' := [(4, .int x4_43), (0, .ref (B 0)), (1, .int a1), (2, .int a2), (3, .int a3)]) hx hb dX5_mark_43 hl (by decide) rfl (fun ls hl => ?_)
        refine lv_aload_n hx hb dX5_mark_45 rfl (lv_at hl 1 rfl) ?_
        refine jy_g_X5_mark hx hb hts hiX5 hown hK hP hf19 dX5_mark_46 ?_
        refine lv_bipush (v := 20) hx hb dX5_mark_49 (by decide) ?_
        refine lv_iload_n hx hb dX5_mark_51 rfl (lv_at hl 2 rfl) ?_
        refine lv_imul hx hb dX5_mark_52 ?_
        refine lv_iload_n hx hb dX5_mark_53 rfl (lv_at hl 3 rfl) ?_
        refine lv_iadd hx hb dX5_mark_54 ?_
        refine lv_iload_n hx hb dX5_mark_55 rfl (lv_at hl 4 rfl) ?_
        refine jy_iastore hx hb hK hB hP hS rfl i_42 dX5_mark_56 (fun M_56 H locs eM_56 hP hS => ?_)
        have h := jl_lt_o h eM_56
        refine lv_iload_n hx hb dX5_mark_57 rfl (lv_at hl 4 rfl) ?_
        refine lv_iload hx hb dX5_mark_58 (lv_at hl 0 rfl) ?_
        refine lv_icmp_eq (tgt := 68) hx hb dX5_mark_60 (by decide) (fun c_60 => ?_) (fun c_60 => ?_)
        · have h := jl_ift c_60 h
          refine lv_iload hx hb dX5_mark_68 (lv_at hl 0 rfl) ?_
          exact kr _ _ _ _ _ _ (Option.some.inj h) dX5_mark_70 hP hS
        · have h := jl_iff c_60 h
          refine lv_aload_n hx hb dX5_mark_63 rfl (lv_at hl 1 rfl) ?_
          refine lv_iload_n hx hb dX5_mark_64 rfl (lv_at hl 2 rfl) ?_
          obtain ⟨r_65, M_65, hc_65, h⟩ := jl_bnd_o h
          refine jy_callVv (As := [.int a1]) (rest := []) ⟨hx, hb, hml, hown, hts⟩ (jc_X5_order hc_65) (cwV 1 hts gX5_mark_X5_order rfl rfl rfl (by decide +kernel) ⟨Nat.le_trans (by decide) hRf, Nat.le_trans (by decide) hRl⟩) (jy_rv_X5 hK hP) hK hB hN hP hS rfl dX5_mark_65 rfl hl.1 (Nat.le_of_ble_eq_true rfl) ⟨Nat.zero_le _, Nat.zero_le _⟩ (fun H locs hP hS => ?_)
          refine lv_iload hx hb dX5_mark_68 (lv_at hl 0 rfl) ?_
          exact kr _ _ _ _ _ _ (Option.some.inj h) dX5_mark_70 hP hS
      · have h := jl_ift c_26 h
        refine lv_bipush (v := (-2)) hx hb dX5_mark_29 (by decide) ?_
        exact kr _ _ _ _ _ _ (Option.some.inj h) dX5_mark_31 hP hS
    · have h := jl_ift c_13 h
      refine lv_iconst (v := (-1)) hx hb dX5_mark_16 (by decide) ?_
      exact kr _ _ _ _ _ _ (Option.some.inj h) dX5_mark_17 hP hS
theorem jc_X5_mark {a1 : Int32} {a2 : Int32} {a3 : Int32} {z : Int32 × jl_Mem} (h : jf_X5_mark a1 a2 a3 M = some z) : Met l yX5_mark wsX5_mark ({ frames := 2, cells := 0, slots := 0, locals := 43 }) (va_Pc [.ref (B 0), .int a1, .int a2, .int a3] (jy_U D cI cT B M)) (va_Qi (fun (q : Int32) (_ : Unit) => q = z.1) (fun _ t => va_P D vwCl (jy_w cI cT B z.2) t.heap) (jy_A B)) 0 0 (jy_A B) := by
  refine Met.ofW (cc := cX5_mark) (maxL := 5) (ret := (some .int)) (by decide) rfl ?_
  intro p e s m args below meth c s1 BB hml hv
  obtain ⟨rfl, hK, hP, hB, hN⟩ := hv
  have hl := lv_entry ([.ref (B 0), .int a1, .int a2, .int a3]) (n := 5) (Nat.le_of_ble_eq_true rfl)
  rw [lg_entry_eq]
  generalize (lg_sl ([.ref (B 0), .int a1, .int a2, .int a3]) ++ List.replicate (5 - (lg_sl ([.ref (B 0), .int a1, .int a2, .int a3])).length) Slot.unset).toArray = ls at hl ⊢
  exact jb_X5_mark BB.exec BB.bytes hml (findClass_of_methodNamed BB.named) (atoms_spec (ws := wsX5_mark) BB.pre) hK hB hN (Nat.le_refl _) (Nat.le_refl _) h (fun v M1 H locs pc ls e1 hd hP hS => W.iret BB.exec BB.bytes BB.returns (fun t ht hW => ⟨⟨_, (), rfl, by rw [← e1], by show va_P D vwCl (jy_w cI cT B z.2) t.heap; rw [ht, ← e1]; exact hP⟩, hS.F ht⟩) hS.2.2 hd BB.notSynchronized) hP va_S.rf hl
end
section
variable {p : Program} {l : Launch} {e : Env} {R : Room} {s : State} {m : MethodId} {args : Array Value} {below : List Frame} {meth : Method} {c : Code} {H : Heap} {locs : List Loc} {Q : State → Prop} {ls : Array Slot} {D : va_G} {cI cT : ClassId} {B : Nat → Nat} {M : jl_Mem} {H0 : Heap}
set_option maxHeartbeats 4000000 in
set_option maxRecDepth 100000 in
theorem jb_X5_unmark (hx : p.tables.exec = Jvm.exec) (hb : c.code = cX5_unmark) (hml : c.maxLocals = 4) (hown : s.vm.findClass RX5 = some m.cls) (hts : ∀ w ∈ wsX5_unmark, w.before args s = true) (hK : va_K D vwCl (jy_ty cI cT) s) (hB : jy_inj B) (hN : jy_N s) (hRf : 2 ≤ R.frames) (hRl : 43 ≤ R.locals) {a1 : Int32} {a2 : Int32} {z : Int32 × jl_Mem} (h : jf_X5_unmark a1 a2 M = some z)
    (kr : ∀ (v : Int32) (M1 : jl_Mem) (H1 : Heap) (locs1 : List Loc) (pc1 : Nat) (ls1 : Array Slot), (v, M1) = z → decode cX5_unmark pc1 = .ok (.ireturn, 1) → va_P D vwCl (jy_w cI cT B M1) H1 → va_S (jy_A B) H0 H1 locs1 → W p l e R s m args below meth c H1 locs1 0 0 Q (F0 m pc1 ls1 [.int v]))
    (hP : va_P D vwCl (jy_w cI cT B M) H) (hS : va_S (jy_A B) H0 H locs) (hl : lv_has ls 4 [(0, .ref (B 0)), (1, .int a1), (2, .int a2)]) : W p l e R s m args below meth c H locs 0 0 Q (F0 m 0 ls []) := by
  unfold jf_X5_unmark at h
  have hiX5 : ∀ w ∈ wsX50, w ∈ wsX5_unmark := by decide +kernel
  have hf19 := hts (.fieldLink RX5 19 "JudgesListsModel" "mark" "[I") (by decide +kernel)
  refine lv_aload_n hx hb dX5_unmark_0 rfl (lv_at hl 0 rfl) ?_
  refine lv_iload_n hx hb dX5_unmark_1 rfl (lv_at hl 1 rfl) ?_
  obtain ⟨r_2, M_2, hc_2, h⟩ := jl_bnd_o h
  refine jy_callVi (As := [.int a1]) (rest := []) ⟨hx, hb, hml, hown, hts⟩ (jc_X5_isList hc_2) (cwV 1 hts gX5_unmark_X5_isList rfl rfl rfl (by decide +kernel) ⟨Nat.le_trans (by decide) hRf, Nat.le_trans (by decide) hRl⟩) (jy_rv_X5 hK hP) hK hB hN hP hS rfl dX5_unmark_2 rfl hl.1 (Nat.le_of_ble_eq_true rfl) ⟨Nat.zero_le _, Nat.zero_le _⟩ (fun H locs hP hS => ?_)
  refine lv_if_eq (tgt := 16) hx hb dX5_unmark_5 (by decide) (fun c_5 => ?_) (fun c_5 => ?_)
  · have h := jl_ift c_5 h
    refine lv_iconst (v := (-1)) hx hb dX5_unmark_16 (by decide) ?_
    exact kr _ _ _ _ _ _ (Option.some.inj h) dX5_unmark_17 hP hS
  · have h := jl_iff c_5 h
    refine lv_aload_n hx hb dX5_unmark_8 rfl (lv_at hl 0 rfl) ?_
    refine lv_iload_n hx hb dX5_unmark_9 rfl (lv_at hl 2 rfl) ?_
    obtain ⟨r_10, M_10, hc_10, h⟩ := jl_bnd_o h
    refine jy_callVi (As := [.int a2]) (rest := []) ⟨hx, hb, hml, hown, hts⟩ (jc_X5_isThing hc_10) (cwV 1 hts gX5_unmark_X5_isThing rfl rfl rfl (by decide +kernel) ⟨Nat.le_trans (by decide) hRf, Nat.le_trans (by decide) hRl⟩) (jy_rv_X5 hK hP) hK hB hN hP hS rfl dX5_unmark_10 rfl hl.1 (Nat.le_of_ble_eq_true rfl) ⟨Nat.zero_le _, Nat.zero_le _⟩ (fun H locs hP hS => ?_)
    refine lv_if_ne (tgt := 18) hx hb dX5_unmark_13 (by decide) (fun c_13 => ?_) (fun c_13 => ?_)
    · have h := jl_iff c_13 h
      refine lv_aload_n hx hb dX5_unmark_18 rfl (lv_at hl 0 rfl) ?_
      refine jy_g_X5_mark hx hb hts hiX5 hown hK hP hf19 dX5_unmark_19 ?_
      refine lv_bipush (v := 20) hx hb dX5_unmark_22 (by decide) ?_
      refine lv_iload_n hx hb dX5_unmark_24 rfl (lv_at hl 1 rfl) ?_
      refine lv_imul hx hb dX5_unmark_25 ?_
      refine lv_iload_n hx hb dX5_unmark_26 rfl (lv_at hl 2 rfl) ?_
      refine lv_iadd hx hb dX5_unmark_27 ?_
      obtain ⟨i_28, h⟩ := jl_chk_o h
      refine jy_iaload hx hb hK hP rfl i_28 dX5_unmark_28 ?_
      refine lv_topi (fun x3_29 ex3_29 => ?_)
      have h := jl_lt_o h ex3_29
      refine lv_istore_n (lv' := [(3, .int x3_29), (0, .ref (B 0)), (1, .int a1), (2, .int a2)]) hx hb dX5_unmark_29 rfl hl (by decide) rfl (fun ls hl => ?_)
      refine lv_aload_n hx hb dX5_unmark_30 rfl (lv_at hl 1 rfl) ?_
      refine jy_g_X5_mark hx hb hts hiX5 hown hK hP hf19 dX5_unmark_31 ?_
      refine lv_bipush (v := 20) hx hb dX5_unmark_34 (by decide) ?_
      refine lv_iload_n hx hb dX5_unmark_36 rfl (lv_at hl 2 rfl) ?_
      refine lv_imul hx hb dX5_unmark_37 ?_
      refine lv_iload_n hx hb dX5_unmark_38 rfl (lv_at hl 3 rfl) ?_
      refine lv_iadd hx hb dX5_unmark_39 ?_
      refine lv_iconst (v := 0) hx hb dX5_unmark_40 (by decide) ?_
      refine jy_iastore hx hb hK hB hP hS rfl i_28 dX5_unmark_41 (fun M_41 H locs eM_41 hP hS => ?_)
      have h := jl_lt_o h eM_41
      refine lv_iload_n hx hb dX5_unmark_42 rfl (lv_at hl 0 rfl) ?_
      refine lv_if_eq (tgt := 51) hx hb dX5_unmark_43 (by decide) (fun c_43 => ?_) (fun c_43 => ?_)
      · have h := jl_ift c_43 h
        refine lv_iload_n hx hb dX5_unmark_51 rfl (lv_at hl 0 rfl) ?_
        exact kr _ _ _ _ _ _ (Option.some.inj h) dX5_unmark_52 hP hS
      · have h := jl_iff c_43 h
        refine lv_aload_n hx hb dX5_unmark_46 rfl (lv_at hl 1 rfl) ?_
        refine lv_iload_n hx hb dX5_unmark_47 rfl (lv_at hl 2 rfl) ?_
        obtain ⟨r_48, M_48, hc_48, h⟩ := jl_bnd_o h
        refine jy_callVv (As := [.int a1]) (rest := []) ⟨hx, hb, hml, hown, hts⟩ (jc_X5_order hc_48) (cwV 1 hts gX5_unmark_X5_order rfl rfl rfl (by decide +kernel) ⟨Nat.le_trans (by decide) hRf, Nat.le_trans (by decide) hRl⟩) (jy_rv_X5 hK hP) hK hB hN hP hS rfl dX5_unmark_48 rfl hl.1 (Nat.le_of_ble_eq_true rfl) ⟨Nat.zero_le _, Nat.zero_le _⟩ (fun H locs hP hS => ?_)
        refine lv_iload_n hx hb dX5_unmark_51 rfl (lv_at hl 0 rfl) ?_
        exact kr _ _ _ _ _ _ (Option.some.inj h) dX5_unmark_52 hP hS
    · have h := jl_ift c_13 h
      refine lv_iconst (v := (-1)) hx hb dX5_unmark_16 (by decide) ?_
      exact kr _ _ _ _ _ _ (Option.some.inj h) dX5_unmark_17 hP hS
theorem jc_X5_unmark {a1 : Int32} {a2 : Int32} {z : Int32 × jl_Mem} (h : jf_X5_unmark a1 a2 M = some z) : Met l yX5_unmark wsX5_unmark ({ frames := 2, cells := 0, slots := 0, locals := 43 }) (va_Pc [.ref (B 0), .int a1, .int a2] (jy_U D cI cT B M)) (va_Qi (fun (q : Int32) (_ : Unit) => q = z.1) (fun _ t => va_P D vwCl (jy_w cI cT B z.2) t.heap) (jy_A B)) 0 0 (jy_A B) := by
  refine Met.ofW (cc := cX5_unmark) (maxL := 4) (ret := (some .int)) (by decide) rfl ?_
  intro p e s m args below meth c s1 BB hml hv
  obtain ⟨rfl, hK, hP, hB, hN⟩ := hv
  have hl := lv_entry ([.ref (B 0), .int a1, .int a2]) (n := 4) (Nat.le_of_ble_eq_true rfl)
  rw [lg_entry_eq]
  generalize (lg_sl ([.ref (B 0), .int a1, .int a2]) ++ List.replicate (4 - (lg_sl ([.ref (B 0), .int a1, .int a2])).length) Slot.unset).toArray = ls at hl ⊢
  exact jb_X5_unmark BB.exec BB.bytes hml (findClass_of_methodNamed BB.named) (atoms_spec (ws := wsX5_unmark) BB.pre) hK hB hN (Nat.le_refl _) (Nat.le_refl _) h (fun v M1 H locs pc ls e1 hd hP hS => W.iret BB.exec BB.bytes BB.returns (fun t ht hW => ⟨⟨_, (), rfl, by rw [← e1], by show va_P D vwCl (jy_w cI cT B z.2) t.heap; rw [ht, ← e1]; exact hP⟩, hS.F ht⟩) hS.2.2 hd BB.notSynchronized) hP va_S.rf hl
end
section
variable {p : Program} {l : Launch} {e : Env} {R : Room} {s : State} {m : MethodId} {args : Array Value} {below : List Frame} {meth : Method} {c : Code} {H : Heap} {locs : List Loc} {Q : State → Prop} {ls : Array Slot} {D : va_G} {cI cT : ClassId} {B : Nat → Nat} {M : jl_Mem} {H0 : Heap}
set_option maxHeartbeats 4000000 in
set_option maxRecDepth 100000 in
theorem jb_X5_weigh (hx : p.tables.exec = Jvm.exec) (hb : c.code = cX5_weigh) (hml : c.maxLocals = 4) (hown : s.vm.findClass RX5 = some m.cls) (hts : ∀ w ∈ wsX5_weigh, w.before args s = true) (hK : va_K D vwCl (jy_ty cI cT) s) (hB : jy_inj B) (hN : jy_N s) (hRf : 2 ≤ R.frames) (hRl : 43 ≤ R.locals) {a1 : Int32} {a2 : Int32} {z : Int32 × jl_Mem} (h : jf_X5_weigh a1 a2 M = some z)
    (kr : ∀ (v : Int32) (M1 : jl_Mem) (H1 : Heap) (locs1 : List Loc) (pc1 : Nat) (ls1 : Array Slot), (v, M1) = z → decode cX5_weigh pc1 = .ok (.ireturn, 1) → va_P D vwCl (jy_w cI cT B M1) H1 → va_S (jy_A B) H0 H1 locs1 → W p l e R s m args below meth c H1 locs1 0 0 Q (F0 m pc1 ls1 [.int v]))
    (hP : va_P D vwCl (jy_w cI cT B M) H) (hS : va_S (jy_A B) H0 H locs) (hl : lv_has ls 4 [(0, .ref (B 0)), (1, .int a1), (2, .int a2)]) : W p l e R s m args below meth c H locs 0 0 Q (F0 m 0 ls []) := by
  unfold jf_X5_weigh at h
  have hiX5 : ∀ w ∈ wsX50, w ∈ wsX5_weigh := by decide +kernel
  have hf7 := hts (.fieldLink RX5 7 "JudgesListsModel" "weight" "[I") (by decide +kernel)
  have hf73 := hts (.fieldLink RX5 73 "JudgesListsModel" "reads" "Z") (by decide +kernel)
  refine lv_aload_n hx hb dX5_weigh_0 rfl (lv_at hl 0 rfl) ?_
  refine lv_iload_n hx hb dX5_weigh_1 rfl (lv_at hl 1 rfl) ?_
  obtain ⟨r_2, M_2, hc_2, h⟩ := jl_bnd_o h
  refine jy_callVi (As := [.int a1]) (rest := []) ⟨hx, hb, hml, hown, hts⟩ (jc_X5_isList hc_2) (cwV 1 hts gX5_weigh_X5_isList rfl rfl rfl (by decide +kernel) ⟨Nat.le_trans (by decide) hRf, Nat.le_trans (by decide) hRl⟩) (jy_rv_X5 hK hP) hK hB hN hP hS rfl dX5_weigh_2 rfl hl.1 (Nat.le_of_ble_eq_true rfl) ⟨Nat.zero_le _, Nat.zero_le _⟩ (fun H locs hP hS => ?_)
  refine lv_if_ne (tgt := 10) hx hb dX5_weigh_5 (by decide) (fun c_5 => ?_) (fun c_5 => ?_)
  · have h := jl_iff c_5 h
    refine lv_iload_n hx hb dX5_weigh_10 rfl (lv_at hl 2 rfl) ?_
    refine lv_iconst (v := 0) hx hb dX5_weigh_11 (by decide) ?_
    refine lv_bipush (v := 10) hx hb dX5_weigh_12 (by decide) ?_
    obtain ⟨r_14, M_14, hc_14, h⟩ := jl_bnd_o h
    refine jy_callSi (As := [.int a2, .int 0, .int 10]) (rest := []) ⟨hx, hb, hml, hown, hts⟩ (jc_X5_in hc_14) (va_cwS 3 hts gX5_weigh_X5_in rfl rfl rfl (by decide +kernel) ⟨Nat.le_trans (by decide) hRf, Nat.le_trans (by decide) hRl⟩) hK hB hN hP hS rfl dX5_weigh_14 rfl hl.1 (Nat.le_of_ble_eq_true rfl) ⟨Nat.zero_le _, Nat.zero_le _⟩ (fun H locs hP hS => ?_)
    refine lv_if_ne (tgt := 23) hx hb dX5_weigh_17 (by decide) (fun c_17 => ?_) (fun c_17 => ?_)
    · have h := jl_iff c_17 h
      refine lv_aload_n hx hb dX5_weigh_23 rfl (lv_at hl 0 rfl) ?_
      refine jy_g_X5_weight hx hb hts hiX5 hown hK hP hf7 dX5_weigh_24 ?_
      refine lv_iload_n hx hb dX5_weigh_27 rfl (lv_at hl 1 rfl) ?_
      obtain ⟨i_28, h⟩ := jl_chk_o h
      refine jy_iaload hx hb hK hP rfl i_28 dX5_weigh_28 ?_
      refine lv_topi (fun x3_29 ex3_29 => ?_)
      have h := jl_lt_o h ex3_29
      refine lv_istore_n (lv' := [(3, .int x3_29), (0, .ref (B 0)), (1, .int a1), (2, .int a2)]) hx hb dX5_weigh_29 rfl hl (by decide) rfl (fun ls hl => ?_)
      refine lv_aload_n hx hb dX5_weigh_30 rfl (lv_at hl 1 rfl) ?_
      refine jy_g_X5_weight hx hb hts hiX5 hown hK hP hf7 dX5_weigh_31 ?_
      refine lv_iload_n hx hb dX5_weigh_34 rfl (lv_at hl 2 rfl) ?_
      refine lv_iload_n hx hb dX5_weigh_35 rfl (lv_at hl 3 rfl) ?_
      refine jy_iastore hx hb hK hB hP hS rfl i_28 dX5_weigh_36 (fun M_36 H locs eM_36 hP hS => ?_)
      have h := jl_lt_o h eM_36
      refine lv_aload_n hx hb dX5_weigh_37 rfl (lv_at hl 1 rfl) ?_
      refine lv_aload_n hx hb dX5_weigh_38 rfl (lv_at hl 1 rfl) ?_
      refine jy_g_X5_reads hx hb hts hiX5 hown hK hP hf73 dX5_weigh_39 ?_
      refine lv_if_eq (tgt := 54) hx hb dX5_weigh_42 (by decide) (fun c_42 => ?_) (fun c_42 => ?_)
      · have h := jl_ift c_42 h
        refine lv_iconst (v := 0) hx hb dX5_weigh_54 (by decide) ?_
        refine jy_p_X5_reads hx hb hts hiX5 hown hK hB hP hS hf73 (by decide) dX5_weigh_55 (fun M_55 H locs eM_55 hP hS => ?_)
        have h := jl_lt_o h eM_55
        refine lv_iload_n hx hb dX5_weigh_58 rfl (lv_at hl 0 rfl) ?_
        exact kr _ _ _ _ _ _ (Option.some.inj h) dX5_weigh_59 hP hS
      · have h := jl_iff c_42 h
        refine lv_iload_n hx hb dX5_weigh_45 rfl (lv_at hl 3 rfl) ?_
        refine lv_iload_n hx hb dX5_weigh_46 rfl (lv_at hl 0 rfl) ?_
        refine lv_icmp_ne (tgt := 54) hx hb dX5_weigh_47 (by decide) (fun c_47 => ?_) (fun c_47 => ?_)
        · have h := jl_iff c_47 h
          refine lv_iconst (v := 0) hx hb dX5_weigh_54 (by decide) ?_
          refine jy_p_X5_reads hx hb hts hiX5 hown hK hB hP hS hf73 (by decide) dX5_weigh_55 (fun M_55 H locs eM_55 hP hS => ?_)
          have h := jl_lt_o h eM_55
          refine lv_iload_n hx hb dX5_weigh_58 rfl (lv_at hl 0 rfl) ?_
          exact kr _ _ _ _ _ _ (Option.some.inj h) dX5_weigh_59 hP hS
        · have h := jl_ift c_47 h
          refine lv_iconst (v := 1) hx hb dX5_weigh_50 (by decide) ?_
          refine lv_goto (tgt := 55) hx hb dX5_weigh_51 (by decide) ?_
          refine jy_p_X5_reads hx hb hts hiX5 hown hK hB hP hS hf73 (by decide) dX5_weigh_55 (fun M_55 H locs eM_55 hP hS => ?_)
          have h := jl_lt_o h eM_55
          refine lv_iload_n hx hb dX5_weigh_58 rfl (lv_at hl 0 rfl) ?_
          exact kr _ _ _ _ _ _ (Option.some.inj h) dX5_weigh_59 hP hS
    · have h := jl_ift c_17 h
      refine lv_bipush (v := (-2)) hx hb dX5_weigh_20 (by decide) ?_
      exact kr _ _ _ _ _ _ (Option.some.inj h) dX5_weigh_22 hP hS
  · have h := jl_ift c_5 h
    refine lv_iconst (v := (-1)) hx hb dX5_weigh_8 (by decide) ?_
    exact kr _ _ _ _ _ _ (Option.some.inj h) dX5_weigh_9 hP hS
theorem jc_X5_weigh {a1 : Int32} {a2 : Int32} {z : Int32 × jl_Mem} (h : jf_X5_weigh a1 a2 M = some z) : Met l yX5_weigh wsX5_weigh ({ frames := 2, cells := 0, slots := 0, locals := 43 }) (va_Pc [.ref (B 0), .int a1, .int a2] (jy_U D cI cT B M)) (va_Qi (fun (q : Int32) (_ : Unit) => q = z.1) (fun _ t => va_P D vwCl (jy_w cI cT B z.2) t.heap) (jy_A B)) 0 0 (jy_A B) := by
  refine Met.ofW (cc := cX5_weigh) (maxL := 4) (ret := (some .int)) (by decide) rfl ?_
  intro p e s m args below meth c s1 BB hml hv
  obtain ⟨rfl, hK, hP, hB, hN⟩ := hv
  have hl := lv_entry ([.ref (B 0), .int a1, .int a2]) (n := 4) (Nat.le_of_ble_eq_true rfl)
  rw [lg_entry_eq]
  generalize (lg_sl ([.ref (B 0), .int a1, .int a2]) ++ List.replicate (4 - (lg_sl ([.ref (B 0), .int a1, .int a2])).length) Slot.unset).toArray = ls at hl ⊢
  exact jb_X5_weigh BB.exec BB.bytes hml (findClass_of_methodNamed BB.named) (atoms_spec (ws := wsX5_weigh) BB.pre) hK hB hN (Nat.le_refl _) (Nat.le_refl _) h (fun v M1 H locs pc ls e1 hd hP hS => W.iret BB.exec BB.bytes BB.returns (fun t ht hW => ⟨⟨_, (), rfl, by rw [← e1], by show va_P D vwCl (jy_w cI cT B z.2) t.heap; rw [ht, ← e1]; exact hP⟩, hS.F ht⟩) hS.2.2 hd BB.notSynchronized) hP va_S.rf hl
end
section
variable {p : Program} {l : Launch} {e : Env} {R : Room} {s : State} {m : MethodId} {args : Array Value} {below : List Frame} {meth : Method} {c : Code} {H : Heap} {locs : List Loc} {Q : State → Prop} {ls : Array Slot} {D : va_G} {cI cT : ClassId} {B : Nat → Nat} {M : jl_Mem} {H0 : Heap}
set_option maxHeartbeats 4000000 in
set_option maxRecDepth 100000 in
theorem jb_X5_rule (hx : p.tables.exec = Jvm.exec) (hb : c.code = cX5_rule) (hml : c.maxLocals = 3) (hown : s.vm.findClass RX5 = some m.cls) (hts : ∀ w ∈ wsX5_rule, w.before args s = true) (hK : va_K D vwCl (jy_ty cI cT) s) (hB : jy_inj B) (hN : jy_N s) (hRf : 1 ≤ R.frames) (hRl : 22 ≤ R.locals) {a1 : Int32} {z : Int32 × jl_Mem} (h : jf_X5_rule a1 M = some z)
    (kr : ∀ (v : Int32) (M1 : jl_Mem) (H1 : Heap) (locs1 : List Loc) (pc1 : Nat) (ls1 : Array Slot), (v, M1) = z → decode cX5_rule pc1 = .ok (.ireturn, 1) → va_P D vwCl (jy_w cI cT B M1) H1 → va_S (jy_A B) H0 H1 locs1 → W p l e R s m args below meth c H1 locs1 0 0 Q (F0 m pc1 ls1 [.int v]))
    (hP : va_P D vwCl (jy_w cI cT B M) H) (hS : va_S (jy_A B) H0 H locs) (hl : lv_has ls 3 [(0, .ref (B 0)), (1, .int a1)]) : W p l e R s m args below meth c H locs 0 0 Q (F0 m 0 ls []) := by
  unfold jf_X5_rule at h
  have hiX5 : ∀ w ∈ wsX50, w ∈ wsX5_rule := by decide +kernel
  have hf88 := hts (.fieldLink RX5 88 "JudgesListsModel" "rule" "I") (by decide +kernel)
  have hf73 := hts (.fieldLink RX5 73 "JudgesListsModel" "reads" "Z") (by decide +kernel)
  refine lv_iload_n hx hb dX5_rule_0 rfl (lv_at hl 1 rfl) ?_
  refine lv_iconst (v := 0) hx hb dX5_rule_1 (by decide) ?_
  refine lv_iconst (v := 2) hx hb dX5_rule_2 (by decide) ?_
  obtain ⟨r_3, M_3, hc_3, h⟩ := jl_bnd_o h
  refine jy_callSi (As := [.int a1, .int 0, .int 2]) (rest := []) ⟨hx, hb, hml, hown, hts⟩ (jc_X5_in hc_3) (va_cwS 3 hts gX5_rule_X5_in rfl rfl rfl (by decide +kernel) ⟨Nat.le_trans (by decide) hRf, Nat.le_trans (by decide) hRl⟩) hK hB hN hP hS rfl dX5_rule_3 rfl hl.1 (Nat.le_of_ble_eq_true rfl) ⟨Nat.zero_le _, Nat.zero_le _⟩ (fun H locs hP hS => ?_)
  refine lv_if_ne (tgt := 12) hx hb dX5_rule_6 (by decide) (fun c_6 => ?_) (fun c_6 => ?_)
  · have h := jl_iff c_6 h
    refine lv_aload_n hx hb dX5_rule_12 rfl (lv_at hl 0 rfl) ?_
    refine jy_g_X5_rule hx hb hts hiX5 hown hK hP hf88 dX5_rule_13 ?_
    refine lv_topi (fun x2_16 ex2_16 => ?_)
    have h := jl_lt_o h ex2_16
    refine lv_istore_n (lv' := [(2, .int x2_16), (0, .ref (B 0)), (1, .int a1)]) hx hb dX5_rule_16 rfl hl (by decide) rfl (fun ls hl => ?_)
    refine lv_aload_n hx hb dX5_rule_17 rfl (lv_at hl 1 rfl) ?_
    refine lv_iload_n hx hb dX5_rule_18 rfl (lv_at hl 2 rfl) ?_
    refine jy_p_X5_rule hx hb hts hiX5 hown hK hB hP hS hf88 dX5_rule_19 (fun M_19 H locs eM_19 hP hS => ?_)
    have h := jl_lt_o h eM_19
    refine lv_aload_n hx hb dX5_rule_22 rfl (lv_at hl 1 rfl) ?_
    refine lv_aload_n hx hb dX5_rule_23 rfl (lv_at hl 1 rfl) ?_
    refine jy_g_X5_reads hx hb hts hiX5 hown hK hP hf73 dX5_rule_24 ?_
    refine lv_if_eq (tgt := 39) hx hb dX5_rule_27 (by decide) (fun c_27 => ?_) (fun c_27 => ?_)
    · have h := jl_ift c_27 h
      refine lv_iconst (v := 0) hx hb dX5_rule_39 (by decide) ?_
      refine jy_p_X5_reads hx hb hts hiX5 hown hK hB hP hS hf73 (by decide) dX5_rule_40 (fun M_40 H locs eM_40 hP hS => ?_)
      have h := jl_lt_o h eM_40
      refine lv_iload_n hx hb dX5_rule_43 rfl (lv_at hl 0 rfl) ?_
      exact kr _ _ _ _ _ _ (Option.some.inj h) dX5_rule_44 hP hS
    · have h := jl_iff c_27 h
      refine lv_iload_n hx hb dX5_rule_30 rfl (lv_at hl 2 rfl) ?_
      refine lv_iload_n hx hb dX5_rule_31 rfl (lv_at hl 0 rfl) ?_
      refine lv_icmp_ne (tgt := 39) hx hb dX5_rule_32 (by decide) (fun c_32 => ?_) (fun c_32 => ?_)
      · have h := jl_iff c_32 h
        refine lv_iconst (v := 0) hx hb dX5_rule_39 (by decide) ?_
        refine jy_p_X5_reads hx hb hts hiX5 hown hK hB hP hS hf73 (by decide) dX5_rule_40 (fun M_40 H locs eM_40 hP hS => ?_)
        have h := jl_lt_o h eM_40
        refine lv_iload_n hx hb dX5_rule_43 rfl (lv_at hl 0 rfl) ?_
        exact kr _ _ _ _ _ _ (Option.some.inj h) dX5_rule_44 hP hS
      · have h := jl_ift c_32 h
        refine lv_iconst (v := 1) hx hb dX5_rule_35 (by decide) ?_
        refine lv_goto (tgt := 40) hx hb dX5_rule_36 (by decide) ?_
        refine jy_p_X5_reads hx hb hts hiX5 hown hK hB hP hS hf73 (by decide) dX5_rule_40 (fun M_40 H locs eM_40 hP hS => ?_)
        have h := jl_lt_o h eM_40
        refine lv_iload_n hx hb dX5_rule_43 rfl (lv_at hl 0 rfl) ?_
        exact kr _ _ _ _ _ _ (Option.some.inj h) dX5_rule_44 hP hS
  · have h := jl_ift c_6 h
    refine lv_bipush (v := (-2)) hx hb dX5_rule_9 (by decide) ?_
    exact kr _ _ _ _ _ _ (Option.some.inj h) dX5_rule_11 hP hS
theorem jc_X5_rule {a1 : Int32} {z : Int32 × jl_Mem} (h : jf_X5_rule a1 M = some z) : Met l yX5_rule wsX5_rule ({ frames := 1, cells := 0, slots := 0, locals := 22 }) (va_Pc [.ref (B 0), .int a1] (jy_U D cI cT B M)) (va_Qi (fun (q : Int32) (_ : Unit) => q = z.1) (fun _ t => va_P D vwCl (jy_w cI cT B z.2) t.heap) (jy_A B)) 0 0 (jy_A B) := by
  refine Met.ofW (cc := cX5_rule) (maxL := 3) (ret := (some .int)) (by decide) rfl ?_
  intro p e s m args below meth c s1 BB hml hv
  obtain ⟨rfl, hK, hP, hB, hN⟩ := hv
  have hl := lv_entry ([.ref (B 0), .int a1]) (n := 3) (Nat.le_of_ble_eq_true rfl)
  rw [lg_entry_eq]
  generalize (lg_sl ([.ref (B 0), .int a1]) ++ List.replicate (3 - (lg_sl ([.ref (B 0), .int a1])).length) Slot.unset).toArray = ls at hl ⊢
  exact jb_X5_rule BB.exec BB.bytes hml (findClass_of_methodNamed BB.named) (atoms_spec (ws := wsX5_rule) BB.pre) hK hB hN (Nat.le_refl _) (Nat.le_refl _) h (fun v M1 H locs pc ls e1 hd hP hS => W.iret BB.exec BB.bytes BB.returns (fun t ht hW => ⟨⟨_, (), rfl, by rw [← e1], by show va_P D vwCl (jy_w cI cT B z.2) t.heap; rw [ht, ← e1]; exact hP⟩, hS.F ht⟩) hS.2.2 hd BB.notSynchronized) hP va_S.rf hl
end
section
variable {p : Program} {l : Launch} {e : Env} {R : Room} {s : State} {m : MethodId} {args : Array Value} {below : List Frame} {meth : Method} {c : Code} {H : Heap} {locs : List Loc} {Q : State → Prop} {ls : Array Slot} {D : va_G} {cI cT : ClassId} {B : Nat → Nat} {M : jl_Mem} {H0 : Heap}
set_option maxHeartbeats 4000000 in
set_option maxRecDepth 100000 in
theorem jb_X5_about (hx : p.tables.exec = Jvm.exec) (hb : c.code = cX5_about) (hml : c.maxLocals = 3) (hown : s.vm.findClass RX5 = some m.cls) (hts : ∀ w ∈ wsX5_about, w.before args s = true) (hK : va_K D vwCl (jy_ty cI cT) s) (hB : jy_inj B) (hN : jy_N s) (hRf : 2 ≤ R.frames) (hRl : 43 ≤ R.locals) {a1 : Int32} {a2 : Int32} {z : Int32 × jl_Mem} (h : jf_X5_about a1 a2 M = some z)
    (kr : ∀ (v : Int32) (M1 : jl_Mem) (H1 : Heap) (locs1 : List Loc) (pc1 : Nat) (ls1 : Array Slot), (v, M1) = z → decode cX5_about pc1 = .ok (.ireturn, 1) → va_P D vwCl (jy_w cI cT B M1) H1 → va_S (jy_A B) H0 H1 locs1 → W p l e R s m args below meth c H1 locs1 0 0 Q (F0 m pc1 ls1 [.int v]))
    (hP : va_P D vwCl (jy_w cI cT B M) H) (hS : va_S (jy_A B) H0 H locs) (hl : lv_has ls 3 [(0, .ref (B 0)), (1, .int a1), (2, .int a2)]) : W p l e R s m args below meth c H locs 0 0 Q (F0 m 0 ls []) := by
  unfold jf_X5_about at h
  have hiX5 : ∀ w ∈ wsX50, w ∈ wsX5_about := by decide +kernel
  have hf7 := hts (.fieldLink RX5 7 "JudgesListsModel" "weight" "[I") (by decide +kernel)
  have hf13 := hts (.fieldLink RX5 13 "JudgesListsModel" "down" "[I") (by decide +kernel)
  have hf16 := hts (.fieldLink RX5 16 "JudgesListsModel" "up" "[I") (by decide +kernel)
  have hf25 := hts (.fieldLink RX5 25 "JudgesListsModel" "length" "[I") (by decide +kernel)
  refine lv_aload_n hx hb dX5_about_0 rfl (lv_at hl 0 rfl) ?_
  refine lv_iload_n hx hb dX5_about_1 rfl (lv_at hl 1 rfl) ?_
  obtain ⟨r_2, M_2, hc_2, h⟩ := jl_bnd_o h
  refine jy_callVi (As := [.int a1]) (rest := []) ⟨hx, hb, hml, hown, hts⟩ (jc_X5_isList hc_2) (cwV 1 hts gX5_about_X5_isList rfl rfl rfl (by decide +kernel) ⟨Nat.le_trans (by decide) hRf, Nat.le_trans (by decide) hRl⟩) (jy_rv_X5 hK hP) hK hB hN hP hS rfl dX5_about_2 rfl hl.1 (Nat.le_of_ble_eq_true rfl) ⟨Nat.zero_le _, Nat.zero_le _⟩ (fun H locs hP hS => ?_)
  refine lv_if_ne (tgt := 10) hx hb dX5_about_5 (by decide) (fun c_5 => ?_) (fun c_5 => ?_)
  · have h := jl_iff c_5 h
    refine lv_iload_n hx hb dX5_about_10 rfl (lv_at hl 2 rfl) ?_
    rcases Decidable.em (a2 = 0) with c0_11 | c0_11
    · have h := jl_ift c0_11 h
      refine lv_tableIn (tgt := 40) (off := 29) hx hb dX5_about_11 (by rw [c0_11]; decide) (by rw [c0_11]; decide) (by rw [c0_11]; rfl) (by decide) ?_
      refine lv_aload_n hx hb dX5_about_40 rfl (lv_at hl 0 rfl) ?_
      refine jy_g_X5_weight hx hb hts hiX5 hown hK hP hf7 dX5_about_41 ?_
      refine lv_iload_n hx hb dX5_about_44 rfl (lv_at hl 1 rfl) ?_
      obtain ⟨i_45, h⟩ := jl_chk_o h
      refine jy_iaload hx hb hK hP rfl i_45 dX5_about_45 ?_
      exact kr _ _ _ _ _ _ (Option.some.inj h) dX5_about_46 hP hS
    · have h := jl_iff c0_11 h
      rcases Decidable.em (a2 = 1) with c1_11 | c1_11
      · have h := jl_ift c1_11 h
        refine lv_tableIn (tgt := 47) (off := 36) hx hb dX5_about_11 (by rw [c1_11]; decide) (by rw [c1_11]; decide) (by rw [c1_11]; rfl) (by decide) ?_
        refine lv_aload_n hx hb dX5_about_47 rfl (lv_at hl 0 rfl) ?_
        refine jy_g_X5_down hx hb hts hiX5 hown hK hP hf13 dX5_about_48 ?_
        refine lv_iload_n hx hb dX5_about_51 rfl (lv_at hl 1 rfl) ?_
        obtain ⟨i_52, h⟩ := jl_chk_o h
        refine jy_iaload hx hb hK hP rfl i_52 dX5_about_52 ?_
        exact kr _ _ _ _ _ _ (Option.some.inj h) dX5_about_53 hP hS
      · have h := jl_iff c1_11 h
        rcases Decidable.em (a2 = 2) with c2_11 | c2_11
        · have h := jl_ift c2_11 h
          refine lv_tableIn (tgt := 54) (off := 43) hx hb dX5_about_11 (by rw [c2_11]; decide) (by rw [c2_11]; decide) (by rw [c2_11]; rfl) (by decide) ?_
          refine lv_aload_n hx hb dX5_about_54 rfl (lv_at hl 0 rfl) ?_
          refine jy_g_X5_up hx hb hts hiX5 hown hK hP hf16 dX5_about_55 ?_
          refine lv_iload_n hx hb dX5_about_58 rfl (lv_at hl 1 rfl) ?_
          obtain ⟨i_59, h⟩ := jl_chk_o h
          refine jy_iaload hx hb hK hP rfl i_59 dX5_about_59 ?_
          exact kr _ _ _ _ _ _ (Option.some.inj h) dX5_about_60 hP hS
        · have h := jl_iff c2_11 h
          rcases Decidable.em (a2 = 3) with c3_11 | c3_11
          · have h := jl_ift c3_11 h
            refine lv_tableIn (tgt := 61) (off := 50) hx hb dX5_about_11 (by rw [c3_11]; decide) (by rw [c3_11]; decide) (by rw [c3_11]; rfl) (by decide) ?_
            refine lv_aload_n hx hb dX5_about_61 rfl (lv_at hl 0 rfl) ?_
            refine jy_g_X5_length hx hb hts hiX5 hown hK hP hf25 dX5_about_62 ?_
            refine lv_iload_n hx hb dX5_about_65 rfl (lv_at hl 1 rfl) ?_
            obtain ⟨i_66, h⟩ := jl_chk_o h
            refine jy_iaload hx hb hK hP rfl i_66 dX5_about_66 ?_
            exact kr _ _ _ _ _ _ (Option.some.inj h) dX5_about_67 hP hS
          · have h := jl_iff c3_11 h
            have hd : (a2).toInt < 0 ∨ ((4 : Nat) : Int) - 1 < (a2).toInt := jl_tab 4 (by decide) (fun k hk => match k, hk with
            | 0, _ => c0_11
            | 1, _ => c1_11
            | 2, _ => c2_11
            | 3, _ => c3_11
            | k + 4, hk => absurd hk (by omega))
            refine lv_tableOut (tgt := 68) hx hb dX5_about_11 (hd.imp id (fun q => by omega)) (by decide) ?_
            refine lv_iconst (v := (-1)) hx hb dX5_about_68 (by decide) ?_
            exact kr _ _ _ _ _ _ (Option.some.inj h) dX5_about_69 hP hS
  · have h := jl_ift c_5 h
    refine lv_iconst (v := (-1)) hx hb dX5_about_8 (by decide) ?_
    exact kr _ _ _ _ _ _ (Option.some.inj h) dX5_about_9 hP hS
theorem jc_X5_about {a1 : Int32} {a2 : Int32} {z : Int32 × jl_Mem} (h : jf_X5_about a1 a2 M = some z) : Met l yX5_about wsX5_about ({ frames := 2, cells := 0, slots := 0, locals := 43 }) (va_Pc [.ref (B 0), .int a1, .int a2] (jy_U D cI cT B M)) (va_Qi (fun (q : Int32) (_ : Unit) => q = z.1) (fun _ t => va_P D vwCl (jy_w cI cT B z.2) t.heap) (jy_A B)) 0 0 (jy_A B) := by
  refine Met.ofW (cc := cX5_about) (maxL := 3) (ret := (some .int)) (by decide) rfl ?_
  intro p e s m args below meth c s1 BB hml hv
  obtain ⟨rfl, hK, hP, hB, hN⟩ := hv
  have hl := lv_entry ([.ref (B 0), .int a1, .int a2]) (n := 3) (Nat.le_of_ble_eq_true rfl)
  rw [lg_entry_eq]
  generalize (lg_sl ([.ref (B 0), .int a1, .int a2]) ++ List.replicate (3 - (lg_sl ([.ref (B 0), .int a1, .int a2])).length) Slot.unset).toArray = ls at hl ⊢
  exact jb_X5_about BB.exec BB.bytes hml (findClass_of_methodNamed BB.named) (atoms_spec (ws := wsX5_about) BB.pre) hK hB hN (Nat.le_refl _) (Nat.le_refl _) h (fun v M1 H locs pc ls e1 hd hP hS => W.iret BB.exec BB.bytes BB.returns (fun t ht hW => ⟨⟨_, (), rfl, by rw [← e1], by show va_P D vwCl (jy_w cI cT B z.2) t.heap; rw [ht, ← e1]; exact hP⟩, hS.F ht⟩) hS.2.2 hd BB.notSynchronized) hP va_S.rf hl
end
section
variable {p : Program} {l : Launch} {e : Env} {R : Room} {s : State} {m : MethodId} {args : Array Value} {below : List Frame} {meth : Method} {c : Code} {H : Heap} {locs : List Loc} {Q : State → Prop} {ls : Array Slot} {D : va_G} {cI cT : ClassId} {B : Nat → Nat} {M : jl_Mem} {H0 : Heap}
set_option maxHeartbeats 4000000 in
set_option maxRecDepth 100000 in
theorem jb_X5_row (hx : p.tables.exec = Jvm.exec) (hb : c.code = cX5_row) (hml : c.maxLocals = 3) (hown : s.vm.findClass RX5 = some m.cls) (hts : ∀ w ∈ wsX5_row, w.before args s = true) (hK : va_K D vwCl (jy_ty cI cT) s) (hB : jy_inj B) (hN : jy_N s) (hRf : 2 ≤ R.frames) (hRl : 43 ≤ R.locals) {a1 : Int32} {a2 : Int32} {z : Int32 × jl_Mem} (h : jf_X5_row a1 a2 M = some z)
    (kr : ∀ (v : Int32) (M1 : jl_Mem) (H1 : Heap) (locs1 : List Loc) (pc1 : Nat) (ls1 : Array Slot), (v, M1) = z → decode cX5_row pc1 = .ok (.ireturn, 1) → va_P D vwCl (jy_w cI cT B M1) H1 → va_S (jy_A B) H0 H1 locs1 → W p l e R s m args below meth c H1 locs1 0 0 Q (F0 m pc1 ls1 [.int v]))
    (hP : va_P D vwCl (jy_w cI cT B M) H) (hS : va_S (jy_A B) H0 H locs) (hl : lv_has ls 3 [(0, .ref (B 0)), (1, .int a1), (2, .int a2)]) : W p l e R s m args below meth c H locs 0 0 Q (F0 m 0 ls []) := by
  unfold jf_X5_row at h
  have hiX5 : ∀ w ∈ wsX50, w ∈ wsX5_row := by decide +kernel
  have hf25 := hts (.fieldLink RX5 25 "JudgesListsModel" "length" "[I") (by decide +kernel)
  have hf22 := hts (.fieldLink RX5 22 "JudgesListsModel" "row" "[I") (by decide +kernel)
  refine lv_aload_n hx hb dX5_row_0 rfl (lv_at hl 0 rfl) ?_
  refine lv_iload_n hx hb dX5_row_1 rfl (lv_at hl 1 rfl) ?_
  obtain ⟨r_2, M_2, hc_2, h⟩ := jl_bnd_o h
  refine jy_callVi (As := [.int a1]) (rest := []) ⟨hx, hb, hml, hown, hts⟩ (jc_X5_isList hc_2) (cwV 1 hts gX5_row_X5_isList rfl rfl rfl (by decide +kernel) ⟨Nat.le_trans (by decide) hRf, Nat.le_trans (by decide) hRl⟩) (jy_rv_X5 hK hP) hK hB hN hP hS rfl dX5_row_2 rfl hl.1 (Nat.le_of_ble_eq_true rfl) ⟨Nat.zero_le _, Nat.zero_le _⟩ (fun H locs hP hS => ?_)
  refine lv_if_eq (tgt := 38) hx hb dX5_row_5 (by decide) (fun c_5 => ?_) (fun c_5 => ?_)
  · have h := jl_ift c_5 h
    refine lv_iconst (v := (-1)) hx hb dX5_row_38 (by decide) ?_
    exact kr _ _ _ _ _ _ (Option.some.inj h) dX5_row_39 hP hS
  · have h := jl_iff c_5 h
    refine lv_iload_n hx hb dX5_row_8 rfl (lv_at hl 2 rfl) ?_
    refine lv_iconst (v := 0) hx hb dX5_row_9 (by decide) ?_
    refine lv_aload_n hx hb dX5_row_10 rfl (lv_at hl 0 rfl) ?_
    refine jy_g_X5_length hx hb hts hiX5 hown hK hP hf25 dX5_row_11 ?_
    refine lv_iload_n hx hb dX5_row_14 rfl (lv_at hl 1 rfl) ?_
    obtain ⟨i_15, h⟩ := jl_chk_o h
    refine jy_iaload hx hb hK hP rfl i_15 dX5_row_15 ?_
    refine lv_iconst (v := 1) hx hb dX5_row_16 (by decide) ?_
    refine lv_isub hx hb dX5_row_17 ?_
    obtain ⟨r_18, M_18, hc_18, h⟩ := jl_bnd_o h
    refine jy_callSi (As := [.int a2, .int 0, .int ((M_2 6 a1.toNatClampNeg) - (1 : Int32))]) (rest := []) ⟨hx, hb, hml, hown, hts⟩ (jc_X5_in hc_18) (va_cwS 3 hts gX5_row_X5_in rfl rfl rfl (by decide +kernel) ⟨Nat.le_trans (by decide) hRf, Nat.le_trans (by decide) hRl⟩) hK hB hN hP hS rfl dX5_row_18 rfl hl.1 (Nat.le_of_ble_eq_true rfl) ⟨Nat.zero_le _, Nat.zero_le _⟩ (fun H locs hP hS => ?_)
    refine lv_if_eq (tgt := 38) hx hb dX5_row_21 (by decide) (fun c_21 => ?_) (fun c_21 => ?_)
    · have h := jl_ift c_21 h
      refine lv_iconst (v := (-1)) hx hb dX5_row_38 (by decide) ?_
      exact kr _ _ _ _ _ _ (Option.some.inj h) dX5_row_39 hP hS
    · have h := jl_iff c_21 h
      refine lv_aload_n hx hb dX5_row_24 rfl (lv_at hl 0 rfl) ?_
      refine jy_g_X5_row hx hb hts hiX5 hown hK hP hf22 dX5_row_25 ?_
      refine lv_bipush (v := 20) hx hb dX5_row_28 (by decide) ?_
      refine lv_iload_n hx hb dX5_row_30 rfl (lv_at hl 1 rfl) ?_
      refine lv_imul hx hb dX5_row_31 ?_
      refine lv_iload_n hx hb dX5_row_32 rfl (lv_at hl 2 rfl) ?_
      refine lv_iadd hx hb dX5_row_33 ?_
      obtain ⟨i_34, h⟩ := jl_chk_o h
      refine jy_iaload hx hb hK hP rfl i_34 dX5_row_34 ?_
      refine lv_goto (tgt := 39) hx hb dX5_row_35 (by decide) ?_
      exact kr _ _ _ _ _ _ (Option.some.inj h) dX5_row_39 hP hS
theorem jc_X5_row {a1 : Int32} {a2 : Int32} {z : Int32 × jl_Mem} (h : jf_X5_row a1 a2 M = some z) : Met l yX5_row wsX5_row ({ frames := 2, cells := 0, slots := 0, locals := 43 }) (va_Pc [.ref (B 0), .int a1, .int a2] (jy_U D cI cT B M)) (va_Qi (fun (q : Int32) (_ : Unit) => q = z.1) (fun _ t => va_P D vwCl (jy_w cI cT B z.2) t.heap) (jy_A B)) 0 0 (jy_A B) := by
  refine Met.ofW (cc := cX5_row) (maxL := 3) (ret := (some .int)) (by decide) rfl ?_
  intro p e s m args below meth c s1 BB hml hv
  obtain ⟨rfl, hK, hP, hB, hN⟩ := hv
  have hl := lv_entry ([.ref (B 0), .int a1, .int a2]) (n := 3) (Nat.le_of_ble_eq_true rfl)
  rw [lg_entry_eq]
  generalize (lg_sl ([.ref (B 0), .int a1, .int a2]) ++ List.replicate (3 - (lg_sl ([.ref (B 0), .int a1, .int a2])).length) Slot.unset).toArray = ls at hl ⊢
  exact jb_X5_row BB.exec BB.bytes hml (findClass_of_methodNamed BB.named) (atoms_spec (ws := wsX5_row) BB.pre) hK hB hN (Nat.le_refl _) (Nat.le_refl _) h (fun v M1 H locs pc ls e1 hd hP hS => W.iret BB.exec BB.bytes BB.returns (fun t ht hW => ⟨⟨_, (), rfl, by rw [← e1], by show va_P D vwCl (jy_w cI cT B z.2) t.heap; rw [ht, ← e1]; exact hP⟩, hS.F ht⟩) hS.2.2 hd BB.notSynchronized) hP va_S.rf hl
end
section
variable {p : Program} {l : Launch} {e : Env} {R : Room} {s : State} {m : MethodId} {args : Array Value} {below : List Frame} {meth : Method} {c : Code} {H : Heap} {locs : List Loc} {Q : State → Prop} {ls : Array Slot} {D : va_G} {cI cT : ClassId} {B : Nat → Nat} {M : jl_Mem} {H0 : Heap}
set_option maxHeartbeats 4000000 in
set_option maxRecDepth 100000 in
theorem jb_X5_placeOf (hx : p.tables.exec = Jvm.exec) (hb : c.code = cX5_placeOf) (hml : c.maxLocals = 4) (hown : s.vm.findClass RX5 = some m.cls) (hts : ∀ w ∈ wsX5_placeOf, w.before args s = true) (hK : va_K D vwCl (jy_ty cI cT) s) (hB : jy_inj B) (hN : jy_N s) (hRf : 0 ≤ R.frames) (hRl : 0 ≤ R.locals) {a1 : Int32} {a2 : Int32} {z : Int32 × jl_Mem} (h : jf_X5_placeOf a1 a2 M = some z)
    (kr : ∀ (v : Int32) (M1 : jl_Mem) (H1 : Heap) (locs1 : List Loc) (pc1 : Nat) (ls1 : Array Slot), (v, M1) = z → decode cX5_placeOf pc1 = .ok (.ireturn, 1) → va_P D vwCl (jy_w cI cT B M1) H1 → va_S (jy_A B) H0 H1 locs1 → W p l e R s m args below meth c H1 locs1 0 0 Q (F0 m pc1 ls1 [.int v]))
    (hP : va_P D vwCl (jy_w cI cT B M) H) (hS : va_S (jy_A B) H0 H locs) (hl : lv_has ls 4 [(0, .ref (B 0)), (1, .int a1), (2, .int a2)]) : W p l e R s m args below meth c H locs 0 0 Q (F0 m 0 ls []) := by
  unfold jf_X5_placeOf at h
  have hiX5 : ∀ w ∈ wsX50, w ∈ wsX5_placeOf := by decide +kernel
  have hf25 := hts (.fieldLink RX5 25 "JudgesListsModel" "length" "[I") (by decide +kernel)
  have hf22 := hts (.fieldLink RX5 22 "JudgesListsModel" "row" "[I") (by decide +kernel)
  refine lv_iconst (v := 0) hx hb dX5_placeOf_0 (by decide) ?_
  refine lv_topi (fun x3_1 ex3_1 => ?_)
  have h := jl_lt_o h ex3_1
  refine lv_istore_n (lv' := [(3, .int x3_1), (0, .ref (B 0)), (1, .int a1), (2, .int a2)]) hx hb dX5_placeOf_1 rfl hl (by decide) rfl (fun ls hl => ?_)
  have k2 : ∀ (n2 : Nat) (x3L2 : Int32) (ML2 : jl_Mem), jl_wh (fun q => jf_X5_placeOf_L2 a1 a2 q.1 q.2) n2 (x3L2, ML2) = some z → ∀ (H : Heap) (locs : List Loc) (ls : Array Slot), va_P D vwCl (jy_w cI cT B ML2) H → va_S (jy_A B) H0 H locs → lv_has ls 4 [(0, .ref (B 0)), (1, .int a1), (2, .int a2), (3, .int x3L2)] → W p l e R s m args below meth c H locs 0 0 Q (F0 m 2 ls []) := by
    intro n2
    induction n2 with
    | zero => exact fun _ _ h => (jl_wh_0 h).elim
    | succ n2 ih2 =>
      intro x3L2 ML2 h H locs ls hP hS hl
      obtain ⟨o2, h, hz2⟩ := jl_wh_s h
      replace h : jf_X5_placeOf_L2 a1 a2 x3L2 ML2 = some o2 := h
      unfold jf_X5_placeOf_L2 at h
      refine lv_iload_n hx hb dX5_placeOf_2 rfl (lv_at hl 3 rfl) ?_
      refine lv_aload_n hx hb dX5_placeOf_3 rfl (lv_at hl 0 rfl) ?_
      refine jy_g_X5_length hx hb hts hiX5 hown hK hP hf25 dX5_placeOf_4 ?_
      refine lv_iload_n hx hb dX5_placeOf_7 rfl (lv_at hl 1 rfl) ?_
      obtain ⟨i_8, h⟩ := jl_chk_o h
      refine jy_iaload hx hb hK hP rfl i_8 dX5_placeOf_8 ?_
      refine lv_icmp_ge (tgt := 35) hx hb dX5_placeOf_9 (by decide) (fun c_9 => ?_) (fun c_9 => ?_)
      · have h := jl_ift c_9 h
        have h := jl_ex_o h hz2
        refine lv_iconst (v := (-1)) hx hb dX5_placeOf_35 (by decide) ?_
        exact kr _ _ _ _ _ _ (Option.some.inj h) dX5_placeOf_36 hP hS
      · have h := jl_iff c_9 h
        refine lv_aload_n hx hb dX5_placeOf_12 rfl (lv_at hl 0 rfl) ?_
        refine jy_g_X5_row hx hb hts hiX5 hown hK hP hf22 dX5_placeOf_13 ?_
        refine lv_bipush (v := 20) hx hb dX5_placeOf_16 (by decide) ?_
        refine lv_iload_n hx hb dX5_placeOf_18 rfl (lv_at hl 1 rfl) ?_
        refine lv_imul hx hb dX5_placeOf_19 ?_
        refine lv_iload_n hx hb dX5_placeOf_20 rfl (lv_at hl 3 rfl) ?_
        refine lv_iadd hx hb dX5_placeOf_21 ?_
        obtain ⟨i_22, h⟩ := jl_chk_o h
        refine jy_iaload hx hb hK hP rfl i_22 dX5_placeOf_22 ?_
        refine lv_iload_n hx hb dX5_placeOf_23 rfl (lv_at hl 2 rfl) ?_
        refine lv_icmp_ne (tgt := 29) hx hb dX5_placeOf_24 (by decide) (fun c_24 => ?_) (fun c_24 => ?_)
        · have h := jl_iff c_24 h
          obtain ⟨x3_29, ex3_29⟩ : ∃ y : Int32, y = x3L2 + 1 := ⟨_, rfl⟩
          have h := jl_lt_o h ex3_29
          refine lv_iinc (v := x3_29) (lv' := [(3, .int x3_29), (0, .ref (B 0)), (1, .int a1), (2, .int a2)]) hx hb dX5_placeOf_29 hl (k := 3) rfl (by rw [ex3_29]; rfl) (by decide) rfl (fun ls hl => ?_)
          refine lv_goto (tgt := 2) hx hb dX5_placeOf_32 (by decide) ?_
          exact ih2 _ _ (jl_L (Option.some.inj h) hz2) _ _ _ hP hS (lv_sub hl [1, 2, 3, 0] rfl)
        · have h := jl_ift c_24 h
          have h := jl_ex_o h hz2
          refine lv_iload_n hx hb dX5_placeOf_27 rfl (lv_at hl 3 rfl) ?_
          exact kr _ _ _ _ _ _ (Option.some.inj h) dX5_placeOf_28 hP hS
  exact k2 _ _ _ h _ _ _ hP hS (lv_sub hl [1, 2, 3, 0] rfl)
theorem jc_X5_placeOf {a1 : Int32} {a2 : Int32} {z : Int32 × jl_Mem} (h : jf_X5_placeOf a1 a2 M = some z) : Met l yX5_placeOf wsX5_placeOf ({ frames := 0, cells := 0, slots := 0, locals := 0 }) (va_Pc [.ref (B 0), .int a1, .int a2] (jy_U D cI cT B M)) (va_Qi (fun (q : Int32) (_ : Unit) => q = z.1) (fun _ t => va_P D vwCl (jy_w cI cT B z.2) t.heap) (jy_A B)) 0 0 (jy_A B) := by
  refine Met.ofW (cc := cX5_placeOf) (maxL := 4) (ret := (some .int)) (by decide) rfl ?_
  intro p e s m args below meth c s1 BB hml hv
  obtain ⟨rfl, hK, hP, hB, hN⟩ := hv
  have hl := lv_entry ([.ref (B 0), .int a1, .int a2]) (n := 4) (Nat.le_of_ble_eq_true rfl)
  rw [lg_entry_eq]
  generalize (lg_sl ([.ref (B 0), .int a1, .int a2]) ++ List.replicate (4 - (lg_sl ([.ref (B 0), .int a1, .int a2])).length) Slot.unset).toArray = ls at hl ⊢
  exact jb_X5_placeOf BB.exec BB.bytes hml (findClass_of_methodNamed BB.named) (atoms_spec (ws := wsX5_placeOf) BB.pre) hK hB hN (Nat.le_refl _) (Nat.le_refl _) h (fun v M1 H locs pc ls e1 hd hP hS => W.iret BB.exec BB.bytes BB.returns (fun t ht hW => ⟨⟨_, (), rfl, by rw [← e1], by show va_P D vwCl (jy_w cI cT B z.2) t.heap; rw [ht, ← e1]; exact hP⟩, hS.F ht⟩) hS.2.2 hd BB.notSynchronized) hP va_S.rf hl
end
