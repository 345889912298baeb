section
variable {p : Program} {l : Launch} {e : Env} {R : Room} {s : State} {m : MethodId} {args : Array Value} {below : List Frame} {meth : Method} {c : Code} {H : Heap} {locs : List Loc} {Q : State → Prop} {ls : Array Slot} {D : va_G} {cI cT : ClassId} {B : Nat → Nat} {M : jl_Mem} {H0 : Heap}
set_option maxHeartbeats 4000000 in
set_option maxRecDepth 100000 in
theorem jb_X4_row (hx : p.tables.exec = Jvm.exec) (hb : c.code = cX4_row) (hml : c.maxLocals = 3) (hown : s.vm.findClass RX4 = some m.cls) (hts : ∀ w ∈ wsX4_row, w.before args s = true) (hK : va_K D vwCl (jx_ty cI cT) s) (hB : jx_inj B) (hN : jx_N s) (hRf : 2 ≤ R.frames) (hRl : 43 ≤ R.locals) {a1 : Int32} {a2 : Int32} {z : Int32 × jl_Mem} (h : jf_X4_row a1 a2 M = some z)
    (kr : ∀ (v : Int32) (M1 : jl_Mem) (H1 : Heap) (locs1 : List Loc) (pc1 : Nat) (ls1 : Array Slot), (v, M1) = z → decode cX4_row pc1 = .ok (.ireturn, 1) → va_P D vwCl (jx_w cI cT B M1) H1 → va_S (jx_A B) H0 H1 locs1 → W p l e R s m args below meth c H1 locs1 0 0 Q (F0 m pc1 ls1 [.int v]))
    (hP : va_P D vwCl (jx_w cI cT B M) H) (hS : va_S (jx_A B) H0 H locs) (hl : lv_has ls 3 [(0, .ref (B 0)), (1, .int a1), (2, .int a2)]) : W p l e R s m args below meth c H locs 0 0 Q (F0 m 0 ls []) := by
  unfold jf_X4_row at h
  have hiX4 : ∀ w ∈ wsX40, w ∈ wsX4_row := by decide +kernel
  have hiX0 : ∀ w ∈ wsX00, w ∈ wsX4_row := by decide +kernel
  have hf10 := hts (.fieldLink RX4 10 "JudgesLists" "board" "LJudgesLists$Board;") (by decide +kernel)
  have hf74 := hts (.fieldLink RX4 74 "JudgesLists$Board" "lengths" "[I") (by decide +kernel)
  have hf77 := hts (.fieldLink RX4 77 "JudgesLists$Board" "rows" "[[I") (by decide +kernel)
  refine lv_aload_n hx hb dX4_row_0 rfl (lv_at hl 0 rfl) ?_
  refine jx_g_X4_board hx hb hts hiX4 hown hK hP hf10 dX4_row_1 ?_
  refine lv_iload_n hx hb dX4_row_4 rfl (lv_at hl 1 rfl) ?_
  obtain ⟨r_5, M_5, hc_5, h⟩ := jl_bnd_o h
  refine jx_callVi (As := [.int a1]) (rest := []) ⟨hx, hb, hml, hown, hts⟩ (jc_X0_hasList hc_5) (cwV 1 hts gX4_row_X0_hasList rfl rfl rfl (by decide +kernel) ⟨Nat.le_trans (by decide) hRf, Nat.le_trans (by decide) hRl⟩) (jx_rv_X0 hK hP) hK hB hN hP hS rfl dX4_row_5 rfl hl.1 (Nat.le_of_ble_eq_true rfl) ⟨Nat.zero_le _, Nat.zero_le _⟩ (fun H locs hP hS => ?_)
  refine lv_if_eq (tgt := 30) hx hb dX4_row_8 (by decide) (fun c_8 => ?_) (fun c_8 => ?_)
  · have h := jl_ift c_8 h
    refine lv_iconst (v := (-1)) hx hb dX4_row_30 (by decide) ?_
    exact kr _ _ _ _ _ _ (Option.some.inj h) dX4_row_31 hP hS
  · have h := jl_iff c_8 h
    refine lv_iload_n hx hb dX4_row_11 rfl (lv_at hl 2 rfl) ?_
    refine lv_iconst (v := 0) hx hb dX4_row_12 (by decide) ?_
    refine lv_aload_n hx hb dX4_row_13 rfl (lv_at hl 0 rfl) ?_
    refine jx_g_X4_board hx hb hts hiX4 hown hK hP hf10 dX4_row_14 ?_
    refine jx_g_X0_lengths hx hb hts hiX0 hown hK hP hf74 dX4_row_17 ?_
    refine lv_iload_n hx hb dX4_row_20 rfl (lv_at hl 1 rfl) ?_
    obtain ⟨i_21, h⟩ := jl_chk_o h
    refine jx_iaload hx hb hK hP rfl i_21 dX4_row_21 ?_
    refine lv_iconst (v := 1) hx hb dX4_row_22 (by decide) ?_
    refine lv_isub hx hb dX4_row_23 ?_
    obtain ⟨r_24, M_24, hc_24, h⟩ := jl_bnd_o h
    refine jx_callSi (As := [.int a2, .int 0, .int ((M_5 5 a1.toNatClampNeg) - (1 : Int32))]) (rest := []) ⟨hx, hb, hml, hown, hts⟩ (jc_X4_within hc_24) (va_cwS 3 hts gX4_row_X4_within rfl rfl rfl (by decide +kernel) ⟨Nat.le_trans (by decide) hRf, Nat.le_trans (by decide) hRl⟩) hK hB hN hP hS rfl dX4_row_24 rfl hl.1 (Nat.le_of_ble_eq_true rfl) ⟨Nat.zero_le _, Nat.zero_le _⟩ (fun H locs hP hS => ?_)
    refine lv_if_ne (tgt := 32) hx hb dX4_row_27 (by decide) (fun c_27 => ?_) (fun c_27 => ?_)
    · have h := jl_iff c_27 h
      refine lv_aload_n hx hb dX4_row_32 rfl (lv_at hl 0 rfl) ?_
      refine jx_g_X4_board hx hb hts hiX4 hown hK hP hf10 dX4_row_33 ?_
      refine jx_g_X0_rows hx hb hts hiX0 hown hK hP hf77 dX4_row_36 ?_
      refine lv_iload_n hx hb dX4_row_39 rfl (lv_at hl 1 rfl) ?_
      refine jx_aaload11 hx hb hK hP i_21 dX4_row_40 ?_
      refine lv_iload_n hx hb dX4_row_41 rfl (lv_at hl 2 rfl) ?_
      obtain ⟨i_42, h⟩ := jl_chk_o h
      refine jx_iaload hx hb hK hP (jx_lr12 i_21) i_42 dX4_row_42 ?_
      exact kr _ _ _ _ _ _ (Option.some.inj h) dX4_row_43 hP hS
    · have h := jl_ift c_27 h
      refine lv_iconst (v := (-1)) hx hb dX4_row_30 (by decide) ?_
      exact kr _ _ _ _ _ _ (Option.some.inj h) dX4_row_31 hP hS
theorem jc_X4_row {a1 : Int32} {a2 : Int32} {z : Int32 × jl_Mem} (h : jf_X4_row a1 a2 M = some z) : Met l yX4_row wsX4_row ({ frames := 2, cells := 0, slots := 0, locals := 43 }) (va_Pc [.ref (B 0), .int a1, .int a2] (jx_U D cI cT B M)) (va_Qi (fun (q : Int32) (_ : Unit) => q = z.1) (fun _ t => va_P D vwCl (jx_w cI cT B z.2) t.heap) (jx_A B)) 0 0 (jx_A B) := by
  refine Met.ofW (cc := cX4_row) (maxL := 3) (ret := (some .int)) (by decide) rfl ?_
  intro p e s m args below meth c s1 BB hml hv
  obtain ⟨rfl, hK, hP, hB, hN⟩ := hv
  have hl := lv_entry ([.ref (B 0), .int a1, .int a2]) (n := 3) (Nat.le_of_ble_eq_true rfl)
  rw [lg_entry_eq]
  generalize (lg_sl ([.ref (B 0), .int a1, .int a2]) ++ List.replicate (3 - (lg_sl ([.ref (B 0), .int a1, .int a2])).length) Slot.unset).toArray = ls at hl ⊢
  exact jb_X4_row BB.exec BB.bytes hml (findClass_of_methodNamed BB.named) (atoms_spec (ws := wsX4_row) BB.pre) hK hB hN (Nat.le_refl _) (Nat.le_refl _) h (fun v M1 H locs pc ls e1 hd hP hS => W.iret BB.exec BB.bytes BB.returns (fun t ht hW => ⟨⟨_, (), rfl, by rw [← e1], by show va_P D vwCl (jx_w cI cT B z.2) t.heap; rw [ht, ← e1]; exact hP⟩, hS.F ht⟩) hS.2.2 hd BB.notSynchronized) hP va_S.rf hl
end
section
variable {p : Program} {l : Launch} {e : Env} {R : Room} {s : State} {m : MethodId} {args : Array Value} {below : List Frame} {meth : Method} {c : Code} {H : Heap} {locs : List Loc} {Q : State → Prop} {ls : Array Slot} {D : va_G} {cI cT : ClassId} {B : Nat → Nat} {M : jl_Mem} {H0 : Heap}
set_option maxHeartbeats 4000000 in
set_option maxRecDepth 100000 in
theorem jb_X4_place (hx : p.tables.exec = Jvm.exec) (hb : c.code = cX4_place) (hml : c.maxLocals = 4) (hown : s.vm.findClass RX4 = some m.cls) (hts : ∀ w ∈ wsX4_place, w.before args s = true) (hK : va_K D vwCl (jx_ty cI cT) s) (hB : jx_inj B) (hN : jx_N s) (hRf : 2 ≤ R.frames) (hRl : 43 ≤ R.locals) {a1 : Int32} {a2 : Int32} {a3 : Int32} {z : Int32 × jl_Mem} (h : jf_X4_place a1 a2 a3 M = some z)
    (kr : ∀ (v : Int32) (M1 : jl_Mem) (H1 : Heap) (locs1 : List Loc) (pc1 : Nat) (ls1 : Array Slot), (v, M1) = z → decode cX4_place pc1 = .ok (.ireturn, 1) → va_P D vwCl (jx_w cI cT B M1) H1 → va_S (jx_A B) H0 H1 locs1 → W p l e R s m args below meth c H1 locs1 0 0 Q (F0 m pc1 ls1 [.int v]))
    (hP : va_P D vwCl (jx_w cI cT B M) H) (hS : va_S (jx_A B) H0 H locs) (hl : lv_has ls 4 [(0, .ref (B 0)), (1, .int a1), (2, .int a2), (3, .int a3)]) : W p l e R s m args below meth c H locs 0 0 Q (F0 m 0 ls []) := by
  unfold jf_X4_place at h
  have hiX4 : ∀ w ∈ wsX40, w ∈ wsX4_place := by decide +kernel
  have hiX0 : ∀ w ∈ wsX00, w ∈ wsX4_place := by decide +kernel
  have hf10 := hts (.fieldLink RX4 10 "JudgesLists" "board" "LJudgesLists$Board;") (by decide +kernel)
  have hf81 := hts (.fieldLink RX4 81 "JudgesLists$Board" "marks" "[[I") (by decide +kernel)
  have hf84 := hts (.fieldLink RX4 84 "JudgesLists$Board" "places" "[[I") (by decide +kernel)
  refine lv_aload_n hx hb dX4_place_0 rfl (lv_at hl 0 rfl) ?_
  refine jx_g_X4_board hx hb hts hiX4 hown hK hP hf10 dX4_place_1 ?_
  refine lv_iload_n hx hb dX4_place_4 rfl (lv_at hl 1 rfl) ?_
  obtain ⟨r_5, M_5, hc_5, h⟩ := jl_bnd_o h
  refine jx_callVi (As := [.int a1]) (rest := []) ⟨hx, hb, hml, hown, hts⟩ (jc_X0_hasList hc_5) (cwV 1 hts gX4_place_X0_hasList rfl rfl rfl (by decide +kernel) ⟨Nat.le_trans (by decide) hRf, Nat.le_trans (by decide) hRl⟩) (jx_rv_X0 hK hP) hK hB hN hP hS rfl dX4_place_5 rfl hl.1 (Nat.le_of_ble_eq_true rfl) ⟨Nat.zero_le _, Nat.zero_le _⟩ (fun H locs hP hS => ?_)
  refine lv_if_eq (tgt := 31) hx hb dX4_place_8 (by decide) (fun c_8 => ?_) (fun c_8 => ?_)
  · have h := jl_ift c_8 h
    refine lv_iconst (v := (-1)) hx hb dX4_place_31 (by decide) ?_
    exact kr _ _ _ _ _ _ (Option.some.inj h) dX4_place_32 hP hS
  · have h := jl_iff c_8 h
    refine lv_aload_n hx hb dX4_place_11 rfl (lv_at hl 0 rfl) ?_
    refine jx_g_X4_board hx hb hts hiX4 hown hK hP hf10 dX4_place_12 ?_
    refine lv_iload_n hx hb dX4_place_15 rfl (lv_at hl 2 rfl) ?_
    obtain ⟨r_16, M_16, hc_16, h⟩ := jl_bnd_o h
    refine jx_callVi (As := [.int a2]) (rest := []) ⟨hx, hb, hml, hown, hts⟩ (jc_X0_hasThing hc_16) (cwV 1 hts gX4_place_X0_hasThing rfl rfl rfl (by decide +kernel) ⟨Nat.le_trans (by decide) hRf, Nat.le_trans (by decide) hRl⟩) (jx_rv_X0 hK hP) hK hB hN hP hS rfl dX4_place_16 rfl hl.1 (Nat.le_of_ble_eq_true rfl) ⟨Nat.zero_le _, Nat.zero_le _⟩ (fun H locs hP hS => ?_)
    refine lv_if_eq (tgt := 31) hx hb dX4_place_19 (by decide) (fun c_19 => ?_) (fun c_19 => ?_)
    · have h := jl_ift c_19 h
      refine lv_iconst (v := (-1)) hx hb dX4_place_31 (by decide) ?_
      exact kr _ _ _ _ _ _ (Option.some.inj h) dX4_place_32 hP hS
    · have h := jl_iff c_19 h
      refine lv_iload_n hx hb dX4_place_22 rfl (lv_at hl 3 rfl) ?_
      refine lv_iconst (v := 0) hx hb dX4_place_23 (by decide) ?_
      refine lv_iconst (v := 1) hx hb dX4_place_24 (by decide) ?_
      obtain ⟨r_25, M_25, hc_25, h⟩ := jl_bnd_o h
      refine jx_callSi (As := [.int a3, .int 0, .int 1]) (rest := []) ⟨hx, hb, hml, hown, hts⟩ (jc_X4_within hc_25) (va_cwS 3 hts gX4_place_X4_within rfl rfl rfl (by decide +kernel) ⟨Nat.le_trans (by decide) hRf, Nat.le_trans (by decide) hRl⟩) hK hB hN hP hS rfl dX4_place_25 rfl hl.1 (Nat.le_of_ble_eq_true rfl) ⟨Nat.zero_le _, Nat.zero_le _⟩ (fun H locs hP hS => ?_)
      refine lv_if_ne (tgt := 33) hx hb dX4_place_28 (by decide) (fun c_28 => ?_) (fun c_28 => ?_)
      · have h := jl_iff c_28 h
        refine lv_aload_n hx hb dX4_place_33 rfl (lv_at hl 0 rfl) ?_
        refine jx_g_X4_board hx hb hts hiX4 hown hK hP hf10 dX4_place_34 ?_
        refine jx_g_X0_marks hx hb hts hiX0 hown hK hP hf81 dX4_place_37 ?_
        refine lv_iload_n hx hb dX4_place_40 rfl (lv_at hl 1 rfl) ?_
        obtain ⟨i_41, h⟩ := jl_chk_o h
        refine jx_aaload6 hx hb hK hP i_41 dX4_place_41 ?_
        refine lv_iload_n hx hb dX4_place_42 rfl (lv_at hl 2 rfl) ?_
        obtain ⟨i_43, h⟩ := jl_chk_o h
        refine jx_iaload hx hb hK hP (jx_lr7 i_41) i_43 dX4_place_43 ?_
        refine lv_if_ne (tgt := 49) hx hb dX4_place_44 (by decide) (fun c_44 => ?_) (fun c_44 => ?_)
        · have h := jl_iff c_44 h
          refine lv_iload_n hx hb dX4_place_49 rfl (lv_at hl 3 rfl) ?_
          refine lv_if_ne (tgt := 67) hx hb dX4_place_50 (by decide) (fun c_50 => ?_) (fun c_50 => ?_)
          · have h := jl_iff c_50 h
            refine lv_aload_n hx hb dX4_place_67 rfl (lv_at hl 0 rfl) ?_
            refine jx_g_X4_board hx hb hts hiX4 hown hK hP hf10 dX4_place_68 ?_
            refine jx_g_X0_marks hx hb hts hiX0 hown hK hP hf81 dX4_place_71 ?_
            refine lv_iload_n hx hb dX4_place_74 rfl (lv_at hl 1 rfl) ?_
            refine jx_aaload6 hx hb hK hP i_41 dX4_place_75 ?_
            refine lv_iload_n hx hb dX4_place_76 rfl (lv_at hl 2 rfl) ?_
            refine jx_iaload hx hb hK hP (jx_lr7 i_41) i_43 dX4_place_77 ?_
            exact kr _ _ _ _ _ _ (Option.some.inj h) dX4_place_78 hP hS
          · have h := jl_ift c_50 h
            refine lv_aload_n hx hb dX4_place_53 rfl (lv_at hl 0 rfl) ?_
            refine jx_g_X4_board hx hb hts hiX4 hown hK hP hf10 dX4_place_54 ?_
            refine jx_g_X0_places hx hb hts hiX0 hown hK hP hf84 dX4_place_57 ?_
            refine lv_iload_n hx hb dX4_place_60 rfl (lv_at hl 1 rfl) ?_
            refine jx_aaload16 hx hb hK hP i_41 dX4_place_61 ?_
            refine lv_iload_n hx hb dX4_place_62 rfl (lv_at hl 2 rfl) ?_
            refine jx_iaload hx hb hK hP (jx_lr17 i_41) i_43 dX4_place_63 ?_
            refine lv_goto (tgt := 78) hx hb dX4_place_64 (by decide) ?_
            exact kr _ _ _ _ _ _ (Option.some.inj h) dX4_place_78 hP hS
        · have h := jl_ift c_44 h
          refine lv_iconst (v := (-1)) hx hb dX4_place_47 (by decide) ?_
          exact kr _ _ _ _ _ _ (Option.some.inj h) dX4_place_48 hP hS
      · have h := jl_ift c_28 h
        refine lv_iconst (v := (-1)) hx hb dX4_place_31 (by decide) ?_
        exact kr _ _ _ _ _ _ (Option.some.inj h) dX4_place_32 hP hS
theorem jc_X4_place {a1 : Int32} {a2 : Int32} {a3 : Int32} {z : Int32 × jl_Mem} (h : jf_X4_place a1 a2 a3 M = some z) : Met l yX4_place wsX4_place ({ frames := 2, cells := 0, slots := 0, locals := 43 }) (va_Pc [.ref (B 0), .int a1, .int a2, .int a3] (jx_U D cI cT B M)) (va_Qi (fun (q : Int32) (_ : Unit) => q = z.1) (fun _ t => va_P D vwCl (jx_w cI cT B z.2) t.heap) (jx_A B)) 0 0 (jx_A B) := by
  refine Met.ofW (cc := cX4_place) (maxL := 4) (ret := (some .int)) (by decide) rfl ?_
  intro p e s m args below meth c s1 BB hml hv
  obtain ⟨rfl, hK, hP, hB, hN⟩ := hv
  have hl := lv_entry ([.ref (B 0), .int a1, .int a2, .int a3]) (n := 4) (Nat.le_of_ble_eq_true rfl)
  rw [lg_entry_eq]
  generalize (lg_sl ([.ref (B 0), .int a1, .int a2, .int a3]) ++ List.replicate (4 - (lg_sl ([.ref (B 0), .int a1, .int a2, .int a3])).length) Slot.unset).toArray = ls at hl ⊢
  exact jb_X4_place BB.exec BB.bytes hml (findClass_of_methodNamed BB.named) (atoms_spec (ws := wsX4_place) BB.pre) hK hB hN (Nat.le_refl _) (Nat.le_refl _) h (fun v M1 H locs pc ls e1 hd hP hS => W.iret BB.exec BB.bytes BB.returns (fun t ht hW => ⟨⟨_, (), rfl, by rw [← e1], by show va_P D vwCl (jx_w cI cT B z.2) t.heap; rw [ht, ← e1]; exact hP⟩, hS.F ht⟩) hS.2.2 hd BB.notSynchronized) hP va_S.rf hl
end
section
variable {p : Program} {l : Launch} {e : Env} {R : Room} {s : State} {m : MethodId} {args : Array Value} {below : List Frame} {meth : Method} {c : Code} {H : Heap} {locs : List Loc} {Q : State → Prop} {ls : Array Slot} {D : va_G} {cI cT : ClassId} {B : Nat → Nat} {M : jl_Mem} {H0 : Heap}
set_option maxHeartbeats 4000000 in
set_option maxRecDepth 100000 in
theorem jb_X4_total (hx : p.tables.exec = Jvm.exec) (hb : c.code = cX4_total) (hml : c.maxLocals = 2) (hown : s.vm.findClass RX4 = some m.cls) (hts : ∀ w ∈ wsX4_total, w.before args s = true) (hK : va_K D vwCl (jx_ty cI cT) s) (hB : jx_inj B) (hN : jx_N s) (hRf : 3 ≤ R.frames) (hRl : 69 ≤ R.locals) {a1 : Int32} {z : Int32 × jl_Mem} (h : jf_X4_total a1 M = some z)
    (kr : ∀ (v : Int32) (M1 : jl_Mem) (H1 : Heap) (locs1 : List Loc) (pc1 : Nat) (ls1 : Array Slot), (v, M1) = z → decode cX4_total pc1 = .ok (.ireturn, 1) → va_P D vwCl (jx_w cI cT B M1) H1 → va_S (jx_A B) H0 H1 locs1 → W p l e R s m args below meth c H1 locs1 0 0 Q (F0 m pc1 ls1 [.int v]))
    (hP : va_P D vwCl (jx_w cI cT B M) H) (hS : va_S (jx_A B) H0 H locs) (hl : lv_has ls 2 [(0, .ref (B 0)), (1, .int a1)]) : W p l e R s m args below meth c H locs 0 0 Q (F0 m 0 ls []) := by
  unfold jf_X4_total at h
  have hiX4 : ∀ w ∈ wsX40, w ∈ wsX4_total := by decide +kernel
  have hf10 := hts (.fieldLink RX4 10 "JudgesLists" "board" "LJudgesLists$Board;") (by decide +kernel)
  refine lv_aload_n hx hb dX4_total_0 rfl (lv_at hl 0 rfl) ?_
  refine jx_g_X4_board hx hb hts hiX4 hown hK hP hf10 dX4_total_1 ?_
  refine lv_iload_n hx hb dX4_total_4 rfl (lv_at hl 1 rfl) ?_
  obtain ⟨r_5, M_5, hc_5, h⟩ := jl_bnd_o h
  refine jx_callVi (As := [.int a1]) (rest := []) ⟨hx, hb, hml, hown, hts⟩ (jc_X0_hasThing hc_5) (cwV 1 hts gX4_total_X0_hasThing rfl rfl rfl (by decide +kernel) ⟨Nat.le_trans (by decide) hRf, Nat.le_trans (by decide) hRl⟩) (jx_rv_X0 hK hP) hK hB hN hP hS rfl dX4_total_5 rfl hl.1 (Nat.le_of_ble_eq_true rfl) ⟨Nat.zero_le _, Nat.zero_le _⟩ (fun H locs hP hS => ?_)
  refine lv_if_eq (tgt := 22) hx hb dX4_total_8 (by decide) (fun c_8 => ?_) (fun c_8 => ?_)
  · have h := jl_ift c_8 h
    refine lv_iconst (v := (-1)) hx hb dX4_total_22 (by decide) ?_
    exact kr _ _ _ _ _ _ (Option.some.inj h) dX4_total_23 hP hS
  · have h := jl_iff c_8 h
    refine lv_aload_n hx hb dX4_total_11 rfl (lv_at hl 0 rfl) ?_
    refine jx_g_X4_board hx hb hts hiX4 hown hK hP hf10 dX4_total_12 ?_
    refine lv_iload_n hx hb dX4_total_15 rfl (lv_at hl 1 rfl) ?_
    obtain ⟨r_16, M_16, hc_16, h⟩ := jl_bnd_o h
    refine jx_callVi (As := [.int a1]) (rest := []) ⟨hx, hb, hml, hown, hts⟩ (jc_X0_totalOf hc_16) (cwV 1 hts gX4_total_X0_totalOf rfl rfl rfl (by decide +kernel) ⟨Nat.le_trans (by decide) hRf, Nat.le_trans (by decide) hRl⟩) (jx_rv_X0 hK hP) hK hB hN hP hS rfl dX4_total_16 rfl hl.1 (Nat.le_of_ble_eq_true rfl) ⟨Nat.zero_le _, Nat.zero_le _⟩ (fun H locs hP hS => ?_)
    refine lv_goto (tgt := 23) hx hb dX4_total_19 (by decide) ?_
    exact kr _ _ _ _ _ _ (Option.some.inj h) dX4_total_23 hP hS
theorem jc_X4_total {a1 : Int32} {z : Int32 × jl_Mem} (h : jf_X4_total a1 M = some z) : Met l yX4_total wsX4_total ({ frames := 3, cells := 0, slots := 0, locals := 69 }) (va_Pc [.ref (B 0), .int a1] (jx_U D cI cT B M)) (va_Qi (fun (q : Int32) (_ : Unit) => q = z.1) (fun _ t => va_P D vwCl (jx_w cI cT B z.2) t.heap) (jx_A B)) 0 0 (jx_A B) := by
  refine Met.ofW (cc := cX4_total) (maxL := 2) (ret := (some .int)) (by decide) rfl ?_
  intro p e s m args below meth c s1 BB hml hv
  obtain ⟨rfl, hK, hP, hB, hN⟩ := hv
  have hl := lv_entry ([.ref (B 0), .int a1]) (n := 2) (Nat.le_of_ble_eq_true rfl)
  rw [lg_entry_eq]
  generalize (lg_sl ([.ref (B 0), .int a1]) ++ List.replicate (2 - (lg_sl ([.ref (B 0), .int a1])).length) Slot.unset).toArray = ls at hl ⊢
  exact jb_X4_total BB.exec BB.bytes hml (findClass_of_methodNamed BB.named) (atoms_spec (ws := wsX4_total) BB.pre) hK hB hN (Nat.le_refl _) (Nat.le_refl _) h (fun v M1 H locs pc ls e1 hd hP hS => W.iret BB.exec BB.bytes BB.returns (fun t ht hW => ⟨⟨_, (), rfl, by rw [← e1], by show va_P D vwCl (jx_w cI cT B z.2) t.heap; rw [ht, ← e1]; exact hP⟩, hS.F ht⟩) hS.2.2 hd BB.notSynchronized) hP va_S.rf hl
end
section
variable {p : Program} {l : Launch} {e : Env} {R : Room} {s : State} {m : MethodId} {args : Array Value} {below : List Frame} {meth : Method} {c : Code} {H : Heap} {locs : List Loc} {Q : State → Prop} {ls : Array Slot} {D : va_G} {cI cT : ClassId} {B : Nat → Nat} {M : jl_Mem} {H0 : Heap}
set_option maxHeartbeats 4000000 in
set_option maxRecDepth 100000 in
theorem jb_X4_best (hx : p.tables.exec = Jvm.exec) (hb : c.code = cX4_best) (hml : c.maxLocals = 2) (hown : s.vm.findClass RX4 = some m.cls) (hts : ∀ w ∈ wsX4_best, w.before args s = true) (hK : va_K D vwCl (jx_ty cI cT) s) (hB : jx_inj B) (hN : jx_N s) (hRf : 4 ≤ R.frames) (hRl : 91 ≤ R.locals) {a1 : Int32} {z : Int32 × jl_Mem} (h : jf_X4_best a1 M = some z)
    (kr : ∀ (v : Int32) (M1 : jl_Mem) (H1 : Heap) (locs1 : List Loc) (pc1 : Nat) (ls1 : Array Slot), (v, M1) = z → decode cX4_best pc1 = .ok (.ireturn, 1) → va_P D vwCl (jx_w cI cT B M1) H1 → va_S (jx_A B) H0 H1 locs1 → W p l e R s m args below meth c H1 locs1 0 0 Q (F0 m pc1 ls1 [.int v]))
    (hP : va_P D vwCl (jx_w cI cT B M) H) (hS : va_S (jx_A B) H0 H locs) (hl : lv_has ls 2 [(0, .ref (B 0)), (1, .int a1)]) : W p l e R s m args below meth c H locs 0 0 Q (F0 m 0 ls []) := by
  unfold jf_X4_best at h
  have hiX4 : ∀ w ∈ wsX40, w ∈ wsX4_best := by decide +kernel
  have hf10 := hts (.fieldLink RX4 10 "JudgesLists" "board" "LJudgesLists$Board;") (by decide +kernel)
  refine lv_aload_n hx hb dX4_best_0 rfl (lv_at hl 0 rfl) ?_
  refine jx_g_X4_board hx hb hts hiX4 hown hK hP hf10 dX4_best_1 ?_
  refine lv_iload_n hx hb dX4_best_4 rfl (lv_at hl 1 rfl) ?_
  obtain ⟨r_5, M_5, hc_5, h⟩ := jl_bnd_o h
  refine jx_callVi (As := [.int a1]) (rest := []) ⟨hx, hb, hml, hown, hts⟩ (jc_X0_hasThing hc_5) (cwV 1 hts gX4_best_X0_hasThing rfl rfl rfl (by decide +kernel) ⟨Nat.le_trans (by decide) hRf, Nat.le_trans (by decide) hRl⟩) (jx_rv_X0 hK hP) hK hB hN hP hS rfl dX4_best_5 rfl hl.1 (Nat.le_of_ble_eq_true rfl) ⟨Nat.zero_le _, Nat.zero_le _⟩ (fun H locs hP hS => ?_)
  refine lv_if_eq (tgt := 22) hx hb dX4_best_8 (by decide) (fun c_8 => ?_) (fun c_8 => ?_)
  · have h := jl_ift c_8 h
    refine lv_iconst (v := (-1)) hx hb dX4_best_22 (by decide) ?_
    exact kr _ _ _ _ _ _ (Option.some.inj h) dX4_best_23 hP hS
  · have h := jl_iff c_8 h
    refine lv_aload_n hx hb dX4_best_11 rfl (lv_at hl 0 rfl) ?_
    refine jx_g_X4_board hx hb hts hiX4 hown hK hP hf10 dX4_best_12 ?_
    refine lv_iload_n hx hb dX4_best_15 rfl (lv_at hl 1 rfl) ?_
    obtain ⟨r_16, M_16, hc_16, h⟩ := jl_bnd_o h
    refine jx_callVi (As := [.int a1]) (rest := []) ⟨hx, hb, hml, hown, hts⟩ (jc_X0_bestAt hc_16) (cwV 1 hts gX4_best_X0_bestAt rfl rfl rfl (by decide +kernel) ⟨Nat.le_trans (by decide) hRf, Nat.le_trans (by decide) hRl⟩) (jx_rv_X0 hK hP) hK hB hN hP hS rfl dX4_best_16 rfl hl.1 (Nat.le_of_ble_eq_true rfl) ⟨Nat.zero_le _, Nat.zero_le _⟩ (fun H locs hP hS => ?_)
    refine lv_goto (tgt := 23) hx hb dX4_best_19 (by decide) ?_
    exact kr _ _ _ _ _ _ (Option.some.inj h) dX4_best_23 hP hS
theorem jc_X4_best {a1 : Int32} {z : Int32 × jl_Mem} (h : jf_X4_best a1 M = some z) : Met l yX4_best wsX4_best ({ frames := 4, cells := 0, slots := 0, locals := 91 }) (va_Pc [.ref (B 0), .int a1] (jx_U D cI cT B M)) (va_Qi (fun (q : Int32) (_ : Unit) => q = z.1) (fun _ t => va_P D vwCl (jx_w cI cT B z.2) t.heap) (jx_A B)) 0 0 (jx_A B) := by
  refine Met.ofW (cc := cX4_best) (maxL := 2) (ret := (some .int)) (by decide) rfl ?_
  intro p e s m args below meth c s1 BB hml hv
  obtain ⟨rfl, hK, hP, hB, hN⟩ := hv
  have hl := lv_entry ([.ref (B 0), .int a1]) (n := 2) (Nat.le_of_ble_eq_true rfl)
  rw [lg_entry_eq]
  generalize (lg_sl ([.ref (B 0), .int a1]) ++ List.replicate (2 - (lg_sl ([.ref (B 0), .int a1])).length) Slot.unset).toArray = ls at hl ⊢
  exact jb_X4_best BB.exec BB.bytes hml (findClass_of_methodNamed BB.named) (atoms_spec (ws := wsX4_best) BB.pre) hK hB hN (Nat.le_refl _) (Nat.le_refl _) h (fun v M1 H locs pc ls e1 hd hP hS => W.iret BB.exec BB.bytes BB.returns (fun t ht hW => ⟨⟨_, (), rfl, by rw [← e1], by show va_P D vwCl (jx_w cI cT B z.2) t.heap; rw [ht, ← e1]; exact hP⟩, hS.F ht⟩) hS.2.2 hd BB.notSynchronized) hP va_S.rf hl
end
section
variable {p : Program} {l : Launch} {e : Env} {R : Room} {s : State} {m : MethodId} {args : Array Value} {below : List Frame} {meth : Method} {c : Code} {H : Heap} {locs : List Loc} {Q : State → Prop} {ls : Array Slot} {D : va_G} {cI cT : ClassId} {B : Nat → Nat} {M : jl_Mem} {H0 : Heap}
set_option maxHeartbeats 4000000 in
set_option maxRecDepth 100000 in
theorem jb_X4_begin (hx : p.tables.exec = Jvm.exec) (hb : c.code = cX4_begin) (hml : c.maxLocals = 4) (hown : s.vm.findClass RX4 = some m.cls) (hts : ∀ w ∈ wsX4_begin, w.before args s = true) (hK : va_K D vwCl (jx_ty cI cT) s) (hB : jx_inj B) (hN : jx_N s) (hRf : 5 ≤ R.frames) (hRl : 115 ≤ R.locals) {a1 : Int32} {a2 : Int32} {a3 : Int32} {z : Int32 × jl_Mem} (h : jf_X4_begin a1 a2 a3 M = some z)
    (kr : ∀ (v : Int32) (M1 : jl_Mem) (H1 : Heap) (locs1 : List Loc) (pc1 : Nat) (ls1 : Array Slot), (v, M1) = z → decode cX4_begin pc1 = .ok (.ireturn, 1) → va_P D vwCl (jx_w cI cT B M1) H1 → va_S (jx_A B) H0 H1 locs1 → W p l e R s m args below meth c H1 locs1 0 0 Q (F0 m pc1 ls1 [.int v]))
    (hP : va_P D vwCl (jx_w cI cT B M) H) (hS : va_S (jx_A B) H0 H locs) (hl : lv_has ls 4 [(0, .ref (B 0)), (1, .int a1), (2, .int a2), (3, .int a3)]) : W p l e R s m args below meth c H locs 0 0 Q (F0 m 0 ls []) := by
  unfold jf_X4_begin at h
  have hiX4 : ∀ w ∈ wsX40, w ∈ wsX4_begin := by decide +kernel
  have hiX1 : ∀ w ∈ wsX10, w ∈ wsX4_begin := by decide +kernel
  have hf10 := hts (.fieldLink RX4 10 "JudgesLists" "board" "LJudgesLists$Board;") (by decide +kernel)
  have hf21 := hts (.fieldLink RX4 21 "JudgesLists" "reader" "LJudgesLists$Reader;") (by decide +kernel)
  have hf101 := hts (.fieldLink RX4 101 "JudgesLists$Reader" "done" "Z") (by decide +kernel)
  refine lv_aload_n hx hb dX4_begin_0 rfl (lv_at hl 0 rfl) ?_
  refine jx_g_X4_board hx hb hts hiX4 hown hK hP hf10 dX4_begin_1 ?_
  refine lv_iload_n hx hb dX4_begin_4 rfl (lv_at hl 2 rfl) ?_
  obtain ⟨r_5, M_5, hc_5, h⟩ := jl_bnd_o h
  refine jx_callVi (As := [.int a2]) (rest := []) ⟨hx, hb, hml, hown, hts⟩ (jc_X0_mayAskFor hc_5) (cwV 1 hts gX4_begin_X0_mayAskFor rfl rfl rfl (by decide +kernel) ⟨Nat.le_trans (by decide) hRf, Nat.le_trans (by decide) hRl⟩) (jx_rv_X0 hK hP) hK hB hN hP hS rfl dX4_begin_5 rfl hl.1 (Nat.le_of_ble_eq_true rfl) ⟨Nat.zero_le _, Nat.zero_le _⟩ (fun H locs hP hS => ?_)
  refine lv_if_eq (tgt := 20) hx hb dX4_begin_8 (by decide) (fun c_8 => ?_) (fun c_8 => ?_)
  · have h := jl_ift c_8 h
    refine lv_bipush (v := (-2)) hx hb dX4_begin_20 (by decide) ?_
    exact kr _ _ _ _ _ _ (Option.some.inj h) dX4_begin_22 hP hS
  · have h := jl_iff c_8 h
    refine lv_iload_n hx hb dX4_begin_11 rfl (lv_at hl 1 rfl) ?_
    refine lv_iconst (v := 0) hx hb dX4_begin_12 (by decide) ?_
    refine lv_iconst (v := 2) hx hb dX4_begin_13 (by decide) ?_
    obtain ⟨r_14, M_14, hc_14, h⟩ := jl_bnd_o h
    refine jx_callSi (As := [.int a1, .int 0, .int 2]) (rest := []) ⟨hx, hb, hml, hown, hts⟩ (jc_X4_within hc_14) (va_cwS 3 hts gX4_begin_X4_within rfl rfl rfl (by decide +kernel) ⟨Nat.le_trans (by decide) hRf, Nat.le_trans (by decide) hRl⟩) hK hB hN hP hS rfl dX4_begin_14 rfl hl.1 (Nat.le_of_ble_eq_true rfl) ⟨Nat.zero_le _, Nat.zero_le _⟩ (fun H locs hP hS => ?_)
    refine lv_if_ne (tgt := 23) hx hb dX4_begin_17 (by decide) (fun c_17 => ?_) (fun c_17 => ?_)
    · have h := jl_iff c_17 h
      refine lv_iload_n hx hb dX4_begin_23 rfl (lv_at hl 1 rfl) ?_
      refine lv_iconst (v := 2) hx hb dX4_begin_24 (by decide) ?_
      refine lv_icmp_ne (tgt := 41) hx hb dX4_begin_25 (by decide) (fun c_25 => ?_) (fun c_25 => ?_)
      · have h := jl_iff c_25 h
        refine lv_iload_n hx hb dX4_begin_41 rfl (lv_at hl 3 rfl) ?_
        refine lv_if_eq (tgt := 48) hx hb dX4_begin_42 (by decide) (fun c_42 => ?_) (fun c_42 => ?_)
        · have h := jl_ift c_42 h
          refine lv_aload_n hx hb dX4_begin_48 rfl (lv_at hl 0 rfl) ?_
          refine jx_g_X4_reader hx hb hts hiX4 hown hK hP hf21 dX4_begin_49 ?_
          refine lv_iload_n hx hb dX4_begin_52 rfl (lv_at hl 1 rfl) ?_
          refine lv_iload_n hx hb dX4_begin_53 rfl (lv_at hl 2 rfl) ?_
          refine lv_iload_n hx hb dX4_begin_54 rfl (lv_at hl 3 rfl) ?_
          obtain ⟨r_55, M_55, hc_55, h⟩ := jl_bnd_o h
          refine jx_callVv (As := [.int a1, .int a2, .int a3]) (rest := []) ⟨hx, hb, hml, hown, hts⟩ (jc_X1_start hc_55) (cwV 3 hts gX4_begin_X1_start rfl rfl rfl (by decide +kernel) ⟨Nat.le_trans (by decide) hRf, Nat.le_trans (by decide) hRl⟩) (jx_rv_X1 hK hP) hK hB hN hP hS rfl dX4_begin_55 rfl hl.1 (Nat.le_of_ble_eq_true rfl) ⟨Nat.zero_le _, Nat.zero_le _⟩ (fun H locs hP hS => ?_)
          refine lv_aload_n hx hb dX4_begin_58 rfl (lv_at hl 0 rfl) ?_
          refine jx_g_X4_reader hx hb hts hiX4 hown hK hP hf21 dX4_begin_59 ?_
          refine jx_g_X1_done hx hb hts hiX1 hown hK hP hf101 dX4_begin_62 ?_
          obtain ⟨r_65, M_65, hc_65, h⟩ := jl_bnd_o h
          refine jx_callSi (As := [.int (M_55 23 3)]) (rest := []) ⟨hx, hb, hml, hown, hts⟩ (jc_X4_yes hc_65) (va_cwS 1 hts gX4_begin_X4_yes rfl rfl rfl (by decide +kernel) ⟨Nat.le_trans (by decide) hRf, Nat.le_trans (by decide) hRl⟩) hK hB hN hP hS rfl dX4_begin_65 rfl hl.1 (Nat.le_of_ble_eq_true rfl) ⟨Nat.zero_le _, Nat.zero_le _⟩ (fun H locs hP hS => ?_)
          exact kr _ _ _ _ _ _ (Option.some.inj h) dX4_begin_68 hP hS
        · have h := jl_iff c_42 h
          refine lv_bipush (v := (-2)) hx hb dX4_begin_45 (by decide) ?_
          exact kr _ _ _ _ _ _ (Option.some.inj h) dX4_begin_47 hP hS
      · have h := jl_ift c_25 h
        refine lv_iload_n hx hb dX4_begin_28 rfl (lv_at hl 3 rfl) ?_
        refine lv_iconst (v := 1) hx hb dX4_begin_29 (by decide) ?_
        refine lv_bipush (v := 10) hx hb dX4_begin_30 (by decide) ?_
        obtain ⟨r_32, M_32, hc_32, h⟩ := jl_bnd_o h
        refine jx_callSi (As := [.int a3, .int 1, .int 10]) (rest := []) ⟨hx, hb, hml, hown, hts⟩ (jc_X4_within hc_32) (va_cwS 3 hts gX4_begin_X4_within rfl rfl rfl (by decide +kernel) ⟨Nat.le_trans (by decide) hRf, Nat.le_trans (by decide) hRl⟩) hK hB hN hP hS rfl dX4_begin_32 rfl hl.1 (Nat.le_of_ble_eq_true rfl) ⟨Nat.zero_le _, Nat.zero_le _⟩ (fun H locs hP hS => ?_)
        refine lv_if_ne (tgt := 48) hx hb dX4_begin_35 (by decide) (fun c_35 => ?_) (fun c_35 => ?_)
        · have h := jl_iff c_35 h
          refine lv_aload_n hx hb dX4_begin_48 rfl (lv_at hl 0 rfl) ?_
          refine jx_g_X4_reader hx hb hts hiX4 hown hK hP hf21 dX4_begin_49 ?_
          refine lv_iload_n hx hb dX4_begin_52 rfl (lv_at hl 1 rfl) ?_
          refine lv_iload_n hx hb dX4_begin_53 rfl (lv_at hl 2 rfl) ?_
          refine lv_iload_n hx hb dX4_begin_54 rfl (lv_at hl 3 rfl) ?_
          obtain ⟨r_55, M_55, hc_55, h⟩ := jl_bnd_o h
          refine jx_callVv (As := [.int a1, .int a2, .int a3]) (rest := []) ⟨hx, hb, hml, hown, hts⟩ (jc_X1_start hc_55) (cwV 3 hts gX4_begin_X1_start rfl rfl rfl (by decide +kernel) ⟨Nat.le_trans (by decide) hRf, Nat.le_trans (by decide) hRl⟩) (jx_rv_X1 hK hP) hK hB hN hP hS rfl dX4_begin_55 rfl hl.1 (Nat.le_of_ble_eq_true rfl) ⟨Nat.zero_le _, Nat.zero_le _⟩ (fun H locs hP hS => ?_)
          refine lv_aload_n hx hb dX4_begin_58 rfl (lv_at hl 0 rfl) ?_
          refine jx_g_X4_reader hx hb hts hiX4 hown hK hP hf21 dX4_begin_59 ?_
          refine jx_g_X1_done hx hb hts hiX1 hown hK hP hf101 dX4_begin_62 ?_
          obtain ⟨r_65, M_65, hc_65, h⟩ := jl_bnd_o h
          refine jx_callSi (As := [.int (M_55 23 3)]) (rest := []) ⟨hx, hb, hml, hown, hts⟩ (jc_X4_yes hc_65) (va_cwS 1 hts gX4_begin_X4_yes rfl rfl rfl (by decide +kernel) ⟨Nat.le_trans (by decide) hRf, Nat.le_trans (by decide) hRl⟩) hK hB hN hP hS rfl dX4_begin_65 rfl hl.1 (Nat.le_of_ble_eq_true rfl) ⟨Nat.zero_le _, Nat.zero_le _⟩ (fun H locs hP hS => ?_)
          exact kr _ _ _ _ _ _ (Option.some.inj h) dX4_begin_68 hP hS
        · have h := jl_ift c_35 h
          refine lv_goto (tgt := 45) hx hb dX4_begin_38 (by decide) ?_
          refine lv_bipush (v := (-2)) hx hb dX4_begin_45 (by decide) ?_
          exact kr _ _ _ _ _ _ (Option.some.inj h) dX4_begin_47 hP hS
    · have h := jl_ift c_17 h
      refine lv_bipush (v := (-2)) hx hb dX4_begin_20 (by decide) ?_
      exact kr _ _ _ _ _ _ (Option.some.inj h) dX4_begin_22 hP hS
theorem jc_X4_begin {a1 : Int32} {a2 : Int32} {a3 : Int32} {z : Int32 × jl_Mem} (h : jf_X4_begin a1 a2 a3 M = some z) : Met l yX4_begin wsX4_begin ({ frames := 5, cells := 0, slots := 0, locals := 115 }) (va_Pc [.ref (B 0), .int a1, .int a2, .int a3] (jx_U D cI cT B M)) (va_Qi (fun (q : Int32) (_ : Unit) => q = z.1) (fun _ t => va_P D vwCl (jx_w cI cT B z.2) t.heap) (jx_A B)) 0 0 (jx_A B) := by
  refine Met.ofW (cc := cX4_begin) (maxL := 4) (ret := (some .int)) (by decide) rfl ?_
  intro p e s m args below meth c s1 BB hml hv
  obtain ⟨rfl, hK, hP, hB, hN⟩ := hv
  have hl := lv_entry ([.ref (B 0), .int a1, .int a2, .int a3]) (n := 4) (Nat.le_of_ble_eq_true rfl)
  rw [lg_entry_eq]
  generalize (lg_sl ([.ref (B 0), .int a1, .int a2, .int a3]) ++ List.replicate (4 - (lg_sl ([.ref (B 0), .int a1, .int a2, .int a3])).length) Slot.unset).toArray = ls at hl ⊢
  exact jb_X4_begin BB.exec BB.bytes hml (findClass_of_methodNamed BB.named) (atoms_spec (ws := wsX4_begin) BB.pre) hK hB hN (Nat.le_refl _) (Nat.le_refl _) h (fun v M1 H locs pc ls e1 hd hP hS => W.iret BB.exec BB.bytes BB.returns (fun t ht hW => ⟨⟨_, (), rfl, by rw [← e1], by show va_P D vwCl (jx_w cI cT B z.2) t.heap; rw [ht, ← e1]; exact hP⟩, hS.F ht⟩) hS.2.2 hd BB.notSynchronized) hP va_S.rf hl
end
section
variable {p : Program} {l : Launch} {e : Env} {R : Room} {s : State} {m : MethodId} {args : Array Value} {below : List Frame} {meth : Method} {c : Code} {H : Heap} {locs : List Loc} {Q : State → Prop} {ls : Array Slot} {D : va_G} {cI cT : ClassId} {B : Nat → Nat} {M : jl_Mem} {H0 : Heap}
set_option maxHeartbeats 4000000 in
set_option maxRecDepth 100000 in
theorem jb_X4_round (hx : p.tables.exec = Jvm.exec) (hb : c.code = cX4_round) (hml : c.maxLocals = 1) (hown : s.vm.findClass RX4 = some m.cls) (hts : ∀ w ∈ wsX4_round, w.before args s = true) (hK : va_K D vwCl (jx_ty cI cT) s) (hB : jx_inj B) (hN : jx_N s) (hRf : 6 ≤ R.frames) (hRl : 136 ≤ R.locals) {z : Int32 × jl_Mem} (h : jf_X4_round M = some z)
    (kr : ∀ (v : Int32) (M1 : jl_Mem) (H1 : Heap) (locs1 : List Loc) (pc1 : Nat) (ls1 : Array Slot), (v, M1) = z → decode cX4_round pc1 = .ok (.ireturn, 1) → va_P D vwCl (jx_w cI cT B M1) H1 → va_S (jx_A B) H0 H1 locs1 → W p l e R s m args below meth c H1 locs1 0 0 Q (F0 m pc1 ls1 [.int v]))
    (hP : va_P D vwCl (jx_w cI cT B M) H) (hS : va_S (jx_A B) H0 H locs) (hl : lv_has ls 1 [(0, .ref (B 0))]) : W p l e R s m args below meth c H locs 0 0 Q (F0 m 0 ls []) := by
  unfold jf_X4_round at h
  have hiX4 : ∀ w ∈ wsX40, w ∈ wsX4_round := by decide +kernel
  have hiX1 : ∀ w ∈ wsX10, w ∈ wsX4_round := by decide +kernel
  have hf21 := hts (.fieldLink RX4 21 "JudgesLists" "reader" "LJudgesLists$Reader;") (by decide +kernel)
  have hf36 := hts (.fieldLink RX4 36 "JudgesLists$Reader" "there" "Z") (by decide +kernel)
  have hf101 := hts (.fieldLink RX4 101 "JudgesLists$Reader" "done" "Z") (by decide +kernel)
  refine lv_aload_n hx hb dX4_round_0 rfl (lv_at hl 0 rfl) ?_
  refine jx_g_X4_reader hx hb hts hiX4 hown hK hP hf21 dX4_round_1 ?_
  refine jx_g_X1_there hx hb hts hiX1 hown hK hP hf36 dX4_round_4 ?_
  refine lv_if_ne (tgt := 12) hx hb dX4_round_7 (by decide) (fun c_7 => ?_) (fun c_7 => ?_)
  · have h := jl_iff c_7 h
    refine lv_aload_n hx hb dX4_round_12 rfl (lv_at hl 0 rfl) ?_
    refine jx_g_X4_reader hx hb hts hiX4 hown hK hP hf21 dX4_round_13 ?_
    refine jx_g_X1_done hx hb hts hiX1 hown hK hP hf101 dX4_round_16 ?_
    refine lv_if_eq (tgt := 25) hx hb dX4_round_19 (by decide) (fun c_19 => ?_) (fun c_19 => ?_)
    · have h := jl_ift c_19 h
      refine lv_aload_n hx hb dX4_round_25 rfl (lv_at hl 0 rfl) ?_
      refine jx_g_X4_reader hx hb hts hiX4 hown hK hP hf21 dX4_round_26 ?_
      obtain ⟨r_29, M_29, hc_29, h⟩ := jl_bnd_o h
      refine jx_callVv (As := []) (rest := []) ⟨hx, hb, hml, hown, hts⟩ (jc_X1_workRound hc_29) (cwV 0 hts gX4_round_X1_workRound rfl rfl rfl (by decide +kernel) ⟨Nat.le_trans (by decide) hRf, Nat.le_trans (by decide) hRl⟩) (jx_rv_X1 hK hP) hK hB hN hP hS rfl dX4_round_29 rfl hl.1 (Nat.le_of_ble_eq_true rfl) ⟨Nat.zero_le _, Nat.zero_le _⟩ (fun H locs hP hS => ?_)
      refine lv_aload_n hx hb dX4_round_32 rfl (lv_at hl 0 rfl) ?_
      refine jx_g_X4_reader hx hb hts hiX4 hown hK hP hf21 dX4_round_33 ?_
      refine jx_g_X1_done hx hb hts hiX1 hown hK hP hf101 dX4_round_36 ?_
      obtain ⟨r_39, M_39, hc_39, h⟩ := jl_bnd_o h
      refine jx_callSi (As := [.int (M_29 23 3)]) (rest := []) ⟨hx, hb, hml, hown, hts⟩ (jc_X4_yes hc_39) (va_cwS 1 hts gX4_round_X4_yes rfl rfl rfl (by decide +kernel) ⟨Nat.le_trans (by decide) hRf, Nat.le_trans (by decide) hRl⟩) hK hB hN hP hS rfl dX4_round_39 rfl hl.1 (Nat.le_of_ble_eq_true rfl) ⟨Nat.zero_le _, Nat.zero_le _⟩ (fun H locs hP hS => ?_)
      exact kr _ _ _ _ _ _ (Option.some.inj h) dX4_round_42 hP hS
    · have h := jl_iff c_19 h
      refine lv_bipush (v := (-3)) hx hb dX4_round_22 (by decide) ?_
      exact kr _ _ _ _ _ _ (Option.some.inj h) dX4_round_24 hP hS
  · have h := jl_ift c_7 h
    refine lv_iconst (v := (-1)) hx hb dX4_round_10 (by decide) ?_
    exact kr _ _ _ _ _ _ (Option.some.inj h) dX4_round_11 hP hS
theorem jc_X4_round {z : Int32 × jl_Mem} (h : jf_X4_round M = some z) : Met l yX4_round wsX4_round ({ frames := 6, cells := 0, slots := 0, locals := 136 }) (va_Pc [.ref (B 0)] (jx_U D cI cT B M)) (va_Qi (fun (q : Int32) (_ : Unit) => q = z.1) (fun _ t => va_P D vwCl (jx_w cI cT B z.2) t.heap) (jx_A B)) 0 0 (jx_A B) := by
  refine Met.ofW (cc := cX4_round) (maxL := 1) (ret := (some .int)) (by decide) rfl ?_
  intro p e s m args below meth c s1 BB hml hv
  obtain ⟨rfl, hK, hP, hB, hN⟩ := hv
  have hl := lv_entry ([.ref (B 0)]) (n := 1) (Nat.le_of_ble_eq_true rfl)
  rw [lg_entry_eq]
  generalize (lg_sl ([.ref (B 0)]) ++ List.replicate (1 - (lg_sl ([.ref (B 0)])).length) Slot.unset).toArray = ls at hl ⊢
  exact jb_X4_round BB.exec BB.bytes hml (findClass_of_methodNamed BB.named) (atoms_spec (ws := wsX4_round) BB.pre) hK hB hN (Nat.le_refl _) (Nat.le_refl _) h (fun v M1 H locs pc ls e1 hd hP hS => W.iret BB.exec BB.bytes BB.returns (fun t ht hW => ⟨⟨_, (), rfl, by rw [← e1], by show va_P D vwCl (jx_w cI cT B z.2) t.heap; rw [ht, ← e1]; exact hP⟩, hS.F ht⟩) hS.2.2 hd BB.notSynchronized) hP va_S.rf hl
end
section
variable {p : Program} {l : Launch} {e : Env} {R : Room} {s : State} {m : MethodId} {args : Array Value} {below : List Frame} {meth : Method} {c : Code} {H : Heap} {locs : List Loc} {Q : State → Prop} {ls : Array Slot} {D : va_G} {cI cT : ClassId} {B : Nat → Nat} {M : jl_Mem} {H0 : Heap}
set_option maxHeartbeats 4000000 in
set_option maxRecDepth 100000 in
theorem jb_X4_finish (hx : p.tables.exec = Jvm.exec) (hb : c.code = cX4_finish) (hml : c.maxLocals = 3) (hown : s.vm.findClass RX4 = some m.cls) (hts : ∀ w ∈ wsX4_finish, w.before args s = true) (hK : va_K D vwCl (jx_ty cI cT) s) (hB : jx_inj B) (hN : jx_N s) (hRf : 6 ≤ R.frames) (hRl : 136 ≤ R.locals) {z : Int32 × jl_Mem} (h : jf_X4_finish M = some z)
    (kr : ∀ (v : Int32) (M1 : jl_Mem) (H1 : Heap) (locs1 : List Loc) (pc1 : Nat) (ls1 : Array Slot), (v, M1) = z → decode cX4_finish pc1 = .ok (.ireturn, 1) → va_P D vwCl (jx_w cI cT B M1) H1 → va_S (jx_A B) H0 H1 locs1 → W p l e R s m args below meth c H1 locs1 0 0 Q (F0 m pc1 ls1 [.int v]))
    (hP : va_P D vwCl (jx_w cI cT B M) H) (hS : va_S (jx_A B) H0 H locs) (hl : lv_has ls 3 [(0, .ref (B 0))]) : W p l e R s m args below meth c H locs 0 0 Q (F0 m 0 ls []) := by
  unfold jf_X4_finish at h
  have hiX4 : ∀ w ∈ wsX40, w ∈ wsX4_finish := by decide +kernel
  have hiX1 : ∀ w ∈ wsX10, w ∈ wsX4_finish := by decide +kernel
  have hf21 := hts (.fieldLink RX4 21 "JudgesLists" "reader" "LJudgesLists$Reader;") (by decide +kernel)
  have hf36 := hts (.fieldLink RX4 36 "JudgesLists$Reader" "there" "Z") (by decide +kernel)
  have hf101 := hts (.fieldLink RX4 101 "JudgesLists$Reader" "done" "Z") (by decide +kernel)
  have hf111 := hts (.fieldLink RX4 111 "JudgesLists$Reader" "rounds" "I") (by decide +kernel)
  refine lv_aload_n hx hb dX4_finish_0 rfl (lv_at hl 0 rfl) ?_
  refine jx_g_X4_reader hx hb hts hiX4 hown hK hP hf21 dX4_finish_1 ?_
  refine jx_g_X1_there hx hb hts hiX1 hown hK hP hf36 dX4_finish_4 ?_
  refine lv_if_ne (tgt := 12) hx hb dX4_finish_7 (by decide) (fun c_7 => ?_) (fun c_7 => ?_)
  · have h := jl_iff c_7 h
    refine lv_aload_n hx hb dX4_finish_12 rfl (lv_at hl 0 rfl) ?_
    refine jx_g_X4_reader hx hb hts hiX4 hown hK hP hf21 dX4_finish_13 ?_
    refine jx_g_X1_done hx hb hts hiX1 hown hK hP hf101 dX4_finish_16 ?_
    refine lv_if_eq (tgt := 25) hx hb dX4_finish_19 (by decide) (fun c_19 => ?_) (fun c_19 => ?_)
    · have h := jl_ift c_19 h
      refine lv_aload_n hx hb dX4_finish_25 rfl (lv_at hl 0 rfl) ?_
      refine jx_g_X4_reader hx hb hts hiX4 hown hK hP hf21 dX4_finish_26 ?_
      refine jx_g_X1_rounds hx hb hts hiX1 hown hK hP hf111 dX4_finish_29 ?_
      refine lv_topi (fun x1_32 ex1_32 => ?_)
      have h := jl_lt_o h ex1_32
      refine lv_istore_n (lv' := [(1, .int x1_32), (0, .ref (B 0))]) hx hb dX4_finish_32 rfl hl (by decide) rfl (fun ls hl => ?_)
      refine lv_iconst (v := 0) hx hb dX4_finish_33 (by decide) ?_
      refine lv_topi (fun x2_34 ex2_34 => ?_)
      have h := jl_lt_o h ex2_34
      refine lv_istore_n (lv' := [(2, .int x2_34), (1, .int x1_32), (0, .ref (B 0))]) hx hb dX4_finish_34 rfl hl (by decide) rfl (fun ls hl => ?_)
      have k35 : ∀ (n35 : Nat) (x2L35 : Int32) (ML35 : jl_Mem), jl_wh (fun q => jf_X4_finish_L35 x1_32 q.1 q.2) n35 (x2L35, ML35) = some z → ∀ (H : Heap) (locs : List Loc) (ls : Array Slot), va_P D vwCl (jx_w cI cT B ML35) H → va_S (jx_A B) H0 H locs → lv_has ls 3 [(0, .ref (B 0)), (1, .int x1_32), (2, .int x2L35)] → W p l e R s m args below meth c H locs 0 0 Q (F0 m 35 ls []) := by
        intro n35
        induction n35 with
        | zero => exact fun _ _ h => (jl_wh_0 h).elim
        | succ n35 ih35 =>
          intro x2L35 ML35 h H locs ls hP hS hl
          obtain ⟨o35, h, hz35⟩ := jl_wh_s h
          replace h : jf_X4_finish_L35 x1_32 x2L35 ML35 = some o35 := h
          unfold jf_X4_finish_L35 at h
          refine lv_iload_n hx hb dX4_finish_35 rfl (lv_at hl 2 rfl) ?_
          refine lv_bipush (v := 20) hx hb dX4_finish_36 (by decide) ?_
          refine lv_icmp_ge (tgt := 64) hx hb dX4_finish_38 (by decide) (fun c_38 => ?_) (fun c_38 => ?_)
          · have h := jl_ift c_38 h
            have h := jl_ex_o h hz35
            refine lv_aload_n hx hb dX4_finish_64 rfl (lv_at hl 0 rfl) ?_
            refine jx_g_X4_reader hx hb hts hiX4 hown hK hP hf21 dX4_finish_65 ?_
            refine jx_g_X1_rounds hx hb hts hiX1 hown hK hP hf111 dX4_finish_68 ?_
            refine lv_iload_n hx hb dX4_finish_71 rfl (lv_at hl 1 rfl) ?_
            refine lv_isub hx hb dX4_finish_72 ?_
            exact kr _ _ _ _ _ _ (Option.some.inj h) dX4_finish_73 hP hS
          · have h := jl_iff c_38 h
            refine lv_aload_n hx hb dX4_finish_41 rfl (lv_at hl 0 rfl) ?_
            refine jx_g_X4_reader hx hb hts hiX4 hown hK hP hf21 dX4_finish_42 ?_
            refine jx_g_X1_done hx hb hts hiX1 hown hK hP hf101 dX4_finish_45 ?_
            refine lv_if_ne (tgt := 64) hx hb dX4_finish_48 (by decide) (fun c_48 => ?_) (fun c_48 => ?_)
            · have h := jl_iff c_48 h
              have h := jl_ex_o h hz35
              refine lv_aload_n hx hb dX4_finish_64 rfl (lv_at hl 0 rfl) ?_
              refine jx_g_X4_reader hx hb hts hiX4 hown hK hP hf21 dX4_finish_65 ?_
              refine jx_g_X1_rounds hx hb hts hiX1 hown hK hP hf111 dX4_finish_68 ?_
              refine lv_iload_n hx hb dX4_finish_71 rfl (lv_at hl 1 rfl) ?_
              refine lv_isub hx hb dX4_finish_72 ?_
              exact kr _ _ _ _ _ _ (Option.some.inj h) dX4_finish_73 hP hS
            · have h := jl_ift c_48 h
              refine lv_aload_n hx hb dX4_finish_51 rfl (lv_at hl 0 rfl) ?_
              refine jx_g_X4_reader hx hb hts hiX4 hown hK hP hf21 dX4_finish_52 ?_
              obtain ⟨r_55, M_55, hc_55, h⟩ := jl_bnd_o h
              refine jx_callVv (As := []) (rest := []) ⟨hx, hb, hml, hown, hts⟩ (jc_X1_workRound hc_55) (cwV 0 hts gX4_finish_X1_workRound rfl rfl rfl (by decide +kernel) ⟨Nat.le_trans (by decide) hRf, Nat.le_trans (by decide) hRl⟩) (jx_rv_X1 hK hP) hK hB hN hP hS rfl dX4_finish_55 rfl hl.1 (Nat.le_of_ble_eq_true rfl) ⟨Nat.zero_le _, Nat.zero_le _⟩ (fun H locs hP hS => ?_)
              obtain ⟨x2_58, ex2_58⟩ : ∃ y : Int32, y = x2L35 + 1 := ⟨_, rfl⟩
              have h := jl_lt_o h ex2_58
              refine lv_iinc (v := x2_58) (lv' := [(2, .int x2_58), (0, .ref (B 0)), (1, .int x1_32)]) hx hb dX4_finish_58 hl (k := 2) rfl (by rw [ex2_58]; rfl) (by decide) rfl (fun ls hl => ?_)
              refine lv_goto (tgt := 35) hx hb dX4_finish_61 (by decide) ?_
              exact ih35 _ _ (jl_L (Option.some.inj h) hz35) _ _ _ hP hS (lv_sub hl [1, 2, 0] rfl)
      exact k35 _ _ _ h _ _ _ hP hS (lv_sub hl [2, 1, 0] rfl)
    · have h := jl_iff c_19 h
      refine lv_bipush (v := (-3)) hx hb dX4_finish_22 (by decide) ?_
      exact kr _ _ _ _ _ _ (Option.some.inj h) dX4_finish_24 hP hS
  · have h := jl_ift c_7 h
    refine lv_iconst (v := (-1)) hx hb dX4_finish_10 (by decide) ?_
    exact kr _ _ _ _ _ _ (Option.some.inj h) dX4_finish_11 hP hS
theorem jc_X4_finish {z : Int32 × jl_Mem} (h : jf_X4_finish M = some z) : Met l yX4_finish wsX4_finish ({ frames := 6, cells := 0, slots := 0, locals := 136 }) (va_Pc [.ref (B 0)] (jx_U D cI cT B M)) (va_Qi (fun (q : Int32) (_ : Unit) => q = z.1) (fun _ t => va_P D vwCl (jx_w cI cT B z.2) t.heap) (jx_A B)) 0 0 (jx_A B) := by
  refine Met.ofW (cc := cX4_finish) (maxL := 3) (ret := (some .int)) (by decide) rfl ?_
  intro p e s m args below meth c s1 BB hml hv
  obtain ⟨rfl, hK, hP, hB, hN⟩ := hv
  have hl := lv_entry ([.ref (B 0)]) (n := 3) (Nat.le_of_ble_eq_true rfl)
  rw [lg_entry_eq]
  generalize (lg_sl ([.ref (B 0)]) ++ List.replicate (3 - (lg_sl ([.ref (B 0)])).length) Slot.unset).toArray = ls at hl ⊢
  exact jb_X4_finish BB.exec BB.bytes hml (findClass_of_methodNamed BB.named) (atoms_spec (ws := wsX4_finish) BB.pre) hK hB hN (Nat.le_refl _) (Nat.le_refl _) h (fun v M1 H locs pc ls e1 hd hP hS => W.iret BB.exec BB.bytes BB.returns (fun t ht hW => ⟨⟨_, (), rfl, by rw [← e1], by show va_P D vwCl (jx_w cI cT B z.2) t.heap; rw [ht, ← e1]; exact hP⟩, hS.F ht⟩) hS.2.2 hd BB.notSynchronized) hP va_S.rf hl
end
section
variable {p : Program} {l : Launch} {e : Env} {R : Room} {s : State} {m : MethodId} {args : Array Value} {below : List Frame} {meth : Method} {c : Code} {H : Heap} {locs : List Loc} {Q : State → Prop} {ls : Array Slot} {D : va_G} {cI cT : ClassId} {B : Nat → Nat} {M : jl_Mem} {H0 : Heap}
set_option maxHeartbeats 4000000 in
set_option maxRecDepth 100000 in
theorem jb_X4_reader (hx : p.tables.exec = Jvm.exec) (hb : c.code = cX4_reader) (hml : c.maxLocals = 2) (hown : s.vm.findClass RX4 = some m.cls) (hts : ∀ w ∈ wsX4_reader, w.before args s = true) (hK : va_K D vwCl (jx_ty cI cT) s) (hB : jx_inj B) (hN : jx_N s) (hRf : 3 ≤ R.frames) (hRl : 66 ≤ R.locals) {a1 : Int32} {z : Int32 × jl_Mem} (h : jf_X4_reader a1 M = some z)
    (kr : ∀ (v : Int32) (M1 : jl_Mem) (H1 : Heap) (locs1 : List Loc) (pc1 : Nat) (ls1 : Array Slot), (v, M1) = z → decode cX4_reader pc1 = .ok (.ireturn, 1) → va_P D vwCl (jx_w cI cT B M1) H1 → va_S (jx_A B) H0 H1 locs1 → W p l e R s m args below meth c H1 locs1 0 0 Q (F0 m pc1 ls1 [.int v]))
    (hP : va_P D vwCl (jx_w cI cT B M) H) (hS : va_S (jx_A B) H0 H locs) (hl : lv_has ls 2 [(0, .ref (B 0)), (1, .int a1)]) : W p l e R s m args below meth c H locs 0 0 Q (F0 m 0 ls []) := by
  unfold jf_X4_reader at h
  have hiX4 : ∀ w ∈ wsX40, w ∈ wsX4_reader := by decide +kernel
  have hiX1 : ∀ w ∈ wsX10, w ∈ wsX4_reader := by decide +kernel
  have hf21 := hts (.fieldLink RX4 21 "JudgesLists" "reader" "LJudgesLists$Reader;") (by decide +kernel)
  have hf36 := hts (.fieldLink RX4 36 "JudgesLists$Reader" "there" "Z") (by decide +kernel)
  have hf114 := hts (.fieldLink RX4 114 "JudgesLists$Reader" "kind" "I") (by decide +kernel)
  have hf117 := hts (.fieldLink RX4 117 "JudgesLists$Reader" "wanted" "I") (by decide +kernel)
  have hf111 := hts (.fieldLink RX4 111 "JudgesLists$Reader" "rounds" "I") (by decide +kernel)
  have hf120 := hts (.fieldLink RX4 120 "JudgesLists$Reader" "sight" "LJudgesLists$Sight;") (by decide +kernel)
  have hf130 := hts (.fieldLink RX4 130 "JudgesLists$Reader" "lookUps" "I") (by decide +kernel)
  have hf133 := hts (.fieldLink RX4 133 "JudgesLists$Reader" "cost" "I") (by decide +kernel)
  have hf101 := hts (.fieldLink RX4 101 "JudgesLists$Reader" "done" "Z") (by decide +kernel)
  refine lv_aload_n hx hb dX4_reader_0 rfl (lv_at hl 0 rfl) ?_
  refine jx_g_X4_reader hx hb hts hiX4 hown hK hP hf21 dX4_reader_1 ?_
  refine jx_g_X1_there hx hb hts hiX1 hown hK hP hf36 dX4_reader_4 ?_
  refine lv_if_ne (tgt := 12) hx hb dX4_reader_7 (by decide) (fun c_7 => ?_) (fun c_7 => ?_)
  · have h := jl_iff c_7 h
    refine lv_iload_n hx hb dX4_reader_12 rfl (lv_at hl 1 rfl) ?_
    rcases Decidable.em (a1 = 0) with c0_13 | c0_13
    · have h := jl_ift c0_13 h
      refine lv_tableIn (tgt := 60) (off := 47) hx hb dX4_reader_13 (by rw [c0_13]; decide) (by rw [c0_13]; decide) (by rw [c0_13]; rfl) (by decide) ?_
      refine lv_aload_n hx hb dX4_reader_60 rfl (lv_at hl 0 rfl) ?_
      refine jx_g_X4_reader hx hb hts hiX4 hown hK hP hf21 dX4_reader_61 ?_
      refine jx_g_X1_kind hx hb hts hiX1 hown hK hP hf114 dX4_reader_64 ?_
      exact kr _ _ _ _ _ _ (Option.some.inj h) dX4_reader_67 hP hS
    · have h := jl_iff c0_13 h
      rcases Decidable.em (a1 = 1) with c1_13 | c1_13
      · have h := jl_ift c1_13 h
        refine lv_tableIn (tgt := 68) (off := 55) hx hb dX4_reader_13 (by rw [c1_13]; decide) (by rw [c1_13]; decide) (by rw [c1_13]; rfl) (by decide) ?_
        refine lv_aload_n hx hb dX4_reader_68 rfl (lv_at hl 0 rfl) ?_
        refine jx_g_X4_reader hx hb hts hiX4 hown hK hP hf21 dX4_reader_69 ?_
        refine jx_g_X1_wanted hx hb hts hiX1 hown hK hP hf117 dX4_reader_72 ?_
        exact kr _ _ _ _ _ _ (Option.some.inj h) dX4_reader_75 hP hS
      · have h := jl_iff c1_13 h
        rcases Decidable.em (a1 = 2) with c2_13 | c2_13
        · have h := jl_ift c2_13 h
          refine lv_tableIn (tgt := 76) (off := 63) hx hb dX4_reader_13 (by rw [c2_13]; decide) (by rw [c2_13]; decide) (by rw [c2_13]; rfl) (by decide) ?_
          refine lv_aload_n hx hb dX4_reader_76 rfl (lv_at hl 0 rfl) ?_
          refine jx_g_X4_reader hx hb hts hiX4 hown hK hP hf21 dX4_reader_77 ?_
          refine jx_g_X1_rounds hx hb hts hiX1 hown hK hP hf111 dX4_reader_80 ?_
          exact kr _ _ _ _ _ _ (Option.some.inj h) dX4_reader_83 hP hS
        · have h := jl_iff c2_13 h
          rcases Decidable.em (a1 = 3) with c3_13 | c3_13
          · have h := jl_ift c3_13 h
            refine lv_tableIn (tgt := 84) (off := 71) hx hb dX4_reader_13 (by rw [c3_13]; decide) (by rw [c3_13]; decide) (by rw [c3_13]; rfl) (by decide) ?_
            refine lv_aload_n hx hb dX4_reader_84 rfl (lv_at hl 0 rfl) ?_
            refine jx_g_X4_reader hx hb hts hiX4 hown hK hP hf21 dX4_reader_85 ?_
            refine jx_g_X1_sight hx hb hts hiX1 hown hK hP hf120 dX4_reader_88 ?_
            obtain ⟨r_91, M_91, hc_91, h⟩ := jl_bnd_o h
            refine jx_callVi (As := []) (rest := []) ⟨hx, hb, hml, hown, hts⟩ (jc_X2_placesSeen (ts := 24) (Or.inl rfl) hc_91) (cwV 0 hts gX4_reader_X2_placesSeen rfl rfl rfl (by decide +kernel) ⟨Nat.le_trans (by decide) hRf, Nat.le_trans (by decide) hRl⟩) (jx_rv_X2 hK hP (ts := 24) (Or.inl rfl)) hK hB hN hP hS rfl dX4_reader_91 rfl hl.1 (Nat.le_of_ble_eq_true rfl) ⟨Nat.zero_le _, Nat.zero_le _⟩ (fun H locs hP hS => ?_)
            exact kr _ _ _ _ _ _ (Option.some.inj h) dX4_reader_94 hP hS
          · have h := jl_iff c3_13 h
            rcases Decidable.em (a1 = 4) with c4_13 | c4_13
            · have h := jl_ift c4_13 h
              refine lv_tableIn (tgt := 95) (off := 82) hx hb dX4_reader_13 (by rw [c4_13]; decide) (by rw [c4_13]; decide) (by rw [c4_13]; rfl) (by decide) ?_
              refine lv_aload_n hx hb dX4_reader_95 rfl (lv_at hl 0 rfl) ?_
              refine jx_g_X4_reader hx hb hts hiX4 hown hK hP hf21 dX4_reader_96 ?_
              refine jx_g_X1_lookUps hx hb hts hiX1 hown hK hP hf130 dX4_reader_99 ?_
              exact kr _ _ _ _ _ _ (Option.some.inj h) dX4_reader_102 hP hS
            · have h := jl_iff c4_13 h
              rcases Decidable.em (a1 = 5) with c5_13 | c5_13
              · have h := jl_ift c5_13 h
                refine lv_tableIn (tgt := 103) (off := 90) hx hb dX4_reader_13 (by rw [c5_13]; decide) (by rw [c5_13]; decide) (by rw [c5_13]; rfl) (by decide) ?_
                refine lv_aload_n hx hb dX4_reader_103 rfl (lv_at hl 0 rfl) ?_
                refine jx_g_X4_reader hx hb hts hiX4 hown hK hP hf21 dX4_reader_104 ?_
                refine jx_g_X1_cost hx hb hts hiX1 hown hK hP hf133 dX4_reader_107 ?_
                exact kr _ _ _ _ _ _ (Option.some.inj h) dX4_reader_110 hP hS
              · have h := jl_iff c5_13 h
                rcases Decidable.em (a1 = 6) with c6_13 | c6_13
                · have h := jl_ift c6_13 h
                  refine lv_tableIn (tgt := 111) (off := 98) hx hb dX4_reader_13 (by rw [c6_13]; decide) (by rw [c6_13]; decide) (by rw [c6_13]; rfl) (by decide) ?_
                  refine lv_aload_n hx hb dX4_reader_111 rfl (lv_at hl 0 rfl) ?_
                  refine jx_g_X4_reader hx hb hts hiX4 hown hK hP hf21 dX4_reader_112 ?_
                  refine jx_g_X1_done hx hb hts hiX1 hown hK hP hf101 dX4_reader_115 ?_
                  obtain ⟨r_118, M_118, hc_118, h⟩ := jl_bnd_o h
                  refine jx_callSi (As := [.int (M 23 3)]) (rest := []) ⟨hx, hb, hml, hown, hts⟩ (jc_X4_yes hc_118) (va_cwS 1 hts gX4_reader_X4_yes rfl rfl rfl (by decide +kernel) ⟨Nat.le_trans (by decide) hRf, Nat.le_trans (by decide) hRl⟩) hK hB hN hP hS rfl dX4_reader_118 rfl hl.1 (Nat.le_of_ble_eq_true rfl) ⟨Nat.zero_le _, Nat.zero_le _⟩ (fun H locs hP hS => ?_)
                  exact kr _ _ _ _ _ _ (Option.some.inj h) dX4_reader_121 hP hS
                · have h := jl_iff c6_13 h
                  rcases Decidable.em (a1 = 7) with c7_13 | c7_13
                  · have h := jl_ift c7_13 h
                    refine lv_tableIn (tgt := 122) (off := 109) hx hb dX4_reader_13 (by rw [c7_13]; decide) (by rw [c7_13]; decide) (by rw [c7_13]; rfl) (by decide) ?_
                    refine lv_aload_n hx hb dX4_reader_122 rfl (lv_at hl 0 rfl) ?_
                    refine jx_g_X4_reader hx hb hts hiX4 hown hK hP hf21 dX4_reader_123 ?_
                    refine jx_g_X1_sight hx hb hts hiX1 hown hK hP hf120 dX4_reader_126 ?_
                    obtain ⟨r_129, M_129, hc_129, h⟩ := jl_bnd_o h
                    refine jx_callVi (As := []) (rest := []) ⟨hx, hb, hml, hown, hts⟩ (jc_X2_thingsSeen (ts := 24) (Or.inl rfl) hc_129) (cwV 0 hts gX4_reader_X2_thingsSeen rfl rfl rfl (by decide +kernel) ⟨Nat.le_trans (by decide) hRf, Nat.le_trans (by decide) hRl⟩) (jx_rv_X2 hK hP (ts := 24) (Or.inl rfl)) hK hB hN hP hS rfl dX4_reader_129 rfl hl.1 (Nat.le_of_ble_eq_true rfl) ⟨Nat.zero_le _, Nat.zero_le _⟩ (fun H locs hP hS => ?_)
                    exact kr _ _ _ _ _ _ (Option.some.inj h) dX4_reader_132 hP hS
                  · have h := jl_iff c7_13 h
                    have hd : (a1).toInt < 0 ∨ ((8 : Nat) : Int) - 1 < (a1).toInt := jl_tab 8 (by decide) (fun k hk => match k, hk with
                    | 0, _ => c0_13
                    | 1, _ => c1_13
                    | 2, _ => c2_13
                    | 3, _ => c3_13
                    | 4, _ => c4_13
                    | 5, _ => c5_13
                    | 6, _ => c6_13
                    | 7, _ => c7_13
                    | k + 8, hk => absurd hk (by omega))
                    refine lv_tableOut (tgt := 133) hx hb dX4_reader_13 (hd.imp id (fun q => by omega)) (by decide) ?_
                    refine lv_iconst (v := (-1)) hx hb dX4_reader_133 (by decide) ?_
                    exact kr _ _ _ _ _ _ (Option.some.inj h) dX4_reader_134 hP hS
  · have h := jl_ift c_7 h
    refine lv_iconst (v := (-1)) hx hb dX4_reader_10 (by decide) ?_
    exact kr _ _ _ _ _ _ (Option.some.inj h) dX4_reader_11 hP hS
theorem jc_X4_reader {a1 : Int32} {z : Int32 × jl_Mem} (h : jf_X4_reader a1 M = some z) : Met l yX4_reader wsX4_reader ({ frames := 3, cells := 0, slots := 0, locals := 66 }) (va_Pc [.ref (B 0), .int a1] (jx_U D cI cT B M)) (va_Qi (fun (q : Int32) (_ : Unit) => q = z.1) (fun _ t => va_P D vwCl (jx_w cI cT B z.2) t.heap) (jx_A B)) 0 0 (jx_A B) := by
  refine Met.ofW (cc := cX4_reader) (maxL := 2) (ret := (some .int)) (by decide) rfl ?_
  intro p e s m args below meth c s1 BB hml hv
  obtain ⟨rfl, hK, hP, hB, hN⟩ := hv
  have hl := lv_entry ([.ref (B 0), .int a1]) (n := 2) (Nat.le_of_ble_eq_true rfl)
  rw [lg_entry_eq]
  generalize (lg_sl ([.ref (B 0), .int a1]) ++ List.replicate (2 - (lg_sl ([.ref (B 0), .int a1])).length) Slot.unset).toArray = ls at hl ⊢
  exact jb_X4_reader BB.exec BB.bytes hml (findClass_of_methodNamed BB.named) (atoms_spec (ws := wsX4_reader) BB.pre) hK hB hN (Nat.le_refl _) (Nat.le_refl _) h (fun v M1 H locs pc ls e1 hd hP hS => W.iret BB.exec BB.bytes BB.returns (fun t ht hW => ⟨⟨_, (), rfl, by rw [← e1], by show va_P D vwCl (jx_w cI cT B z.2) t.heap; rw [ht, ← e1]; exact hP⟩, hS.F ht⟩) hS.2.2 hd BB.notSynchronized) hP va_S.rf hl
end
section
variable {p : Program} {l : Launch} {e : Env} {R : Room} {s : State} {m : MethodId} {args : Array Value} {below : List Frame} {meth : Method} {c : Code} {H : Heap} {locs : List Loc} {Q : State → Prop} {ls : Array Slot} {D : va_G} {cI cT : ClassId} {B : Nat → Nat} {M : jl_Mem} {H0 : Heap}
set_option maxHeartbeats 4000000 in
set_option maxRecDepth 100000 in
theorem jb_X4_depth (hx : p.tables.exec = Jvm.exec) (hb : c.code = cX4_depth) (hml : c.maxLocals = 3) (hown : s.vm.findClass RX4 = some m.cls) (hts : ∀ w ∈ wsX4_depth, w.before args s = true) (hK : va_K D vwCl (jx_ty cI cT) s) (hB : jx_inj B) (hN : jx_N s) (hRf : 2 ≤ R.frames) (hRl : 43 ≤ R.locals) {a1 : Int32} {a2 : Int32} {z : Int32 × jl_Mem} (h : jf_X4_depth a1 a2 M = some z)
    (kr : ∀ (v : Int32) (M1 : jl_Mem) (H1 : Heap) (locs1 : List Loc) (pc1 : Nat) (ls1 : Array Slot), (v, M1) = z → decode cX4_depth pc1 = .ok (.ireturn, 1) → va_P D vwCl (jx_w cI cT B M1) H1 → va_S (jx_A B) H0 H1 locs1 → W p l e R s m args below meth c H1 locs1 0 0 Q (F0 m pc1 ls1 [.int v]))
    (hP : va_P D vwCl (jx_w cI cT B M) H) (hS : va_S (jx_A B) H0 H locs) (hl : lv_has ls 3 [(0, .ref (B 0)), (1, .int a1), (2, .int a2)]) : W p l e R s m args below meth c H locs 0 0 Q (F0 m 0 ls []) := by
  unfold jf_X4_depth at h
  have hiX4 : ∀ w ∈ wsX40, w ∈ wsX4_depth := by decide +kernel
  have hiX1 : ∀ w ∈ wsX10, w ∈ wsX4_depth := by decide +kernel
  have hiX2 : ∀ w ∈ wsX20, w ∈ wsX4_depth := by decide +kernel
  have hf10 := hts (.fieldLink RX4 10 "JudgesLists" "board" "LJudgesLists$Board;") (by decide +kernel)
  have hf21 := hts (.fieldLink RX4 21 "JudgesLists" "reader" "LJudgesLists$Reader;") (by decide +kernel)
  have hf36 := hts (.fieldLink RX4 36 "JudgesLists$Reader" "there" "Z") (by decide +kernel)
  have hf120 := hts (.fieldLink RX4 120 "JudgesLists$Reader" "sight" "LJudgesLists$Sight;") (by decide +kernel)
  have hf139 := hts (.fieldLink RX4 139 "JudgesLists$Sight" "depths" "[I") (by decide +kernel)
  refine lv_aload_n hx hb dX4_depth_0 rfl (lv_at hl 0 rfl) ?_
  refine jx_g_X4_board hx hb hts hiX4 hown hK hP hf10 dX4_depth_1 ?_
  refine lv_iload_n hx hb dX4_depth_4 rfl (lv_at hl 1 rfl) ?_
  obtain ⟨r_5, M_5, hc_5, h⟩ := jl_bnd_o h
  refine jx_callVi (As := [.int a1]) (rest := []) ⟨hx, hb, hml, hown, hts⟩ (jc_X0_hasList hc_5) (cwV 1 hts gX4_depth_X0_hasList rfl rfl rfl (by decide +kernel) ⟨Nat.le_trans (by decide) hRf, Nat.le_trans (by decide) hRl⟩) (jx_rv_X0 hK hP) hK hB hN hP hS rfl dX4_depth_5 rfl hl.1 (Nat.le_of_ble_eq_true rfl) ⟨Nat.zero_le _, Nat.zero_le _⟩ (fun H locs hP hS => ?_)
  refine lv_if_eq (tgt := 30) hx hb dX4_depth_8 (by decide) (fun c_8 => ?_) (fun c_8 => ?_)
  · have h := jl_ift c_8 h
    refine lv_iconst (v := (-1)) hx hb dX4_depth_30 (by decide) ?_
    exact kr _ _ _ _ _ _ (Option.some.inj h) dX4_depth_31 hP hS
  · have h := jl_iff c_8 h
    refine lv_iload_n hx hb dX4_depth_11 rfl (lv_at hl 2 rfl) ?_
    refine lv_iconst (v := 0) hx hb dX4_depth_12 (by decide) ?_
    refine lv_iconst (v := 1) hx hb dX4_depth_13 (by decide) ?_
    obtain ⟨r_14, M_14, hc_14, h⟩ := jl_bnd_o h
    refine jx_callSi (As := [.int a2, .int 0, .int 1]) (rest := []) ⟨hx, hb, hml, hown, hts⟩ (jc_X4_within hc_14) (va_cwS 3 hts gX4_depth_X4_within rfl rfl rfl (by decide +kernel) ⟨Nat.le_trans (by decide) hRf, Nat.le_trans (by decide) hRl⟩) hK hB hN hP hS rfl dX4_depth_14 rfl hl.1 (Nat.le_of_ble_eq_true rfl) ⟨Nat.zero_le _, Nat.zero_le _⟩ (fun H locs hP hS => ?_)
    refine lv_if_eq (tgt := 30) hx hb dX4_depth_17 (by decide) (fun c_17 => ?_) (fun c_17 => ?_)
    · have h := jl_ift c_17 h
      refine lv_iconst (v := (-1)) hx hb dX4_depth_30 (by decide) ?_
      exact kr _ _ _ _ _ _ (Option.some.inj h) dX4_depth_31 hP hS
    · have h := jl_iff c_17 h
      refine lv_aload_n hx hb dX4_depth_20 rfl (lv_at hl 0 rfl) ?_
      refine jx_g_X4_reader hx hb hts hiX4 hown hK hP hf21 dX4_depth_21 ?_
      refine jx_g_X1_there hx hb hts hiX1 hown hK hP hf36 dX4_depth_24 ?_
      refine lv_if_ne (tgt := 32) hx hb dX4_depth_27 (by decide) (fun c_27 => ?_) (fun c_27 => ?_)
      · have h := jl_iff c_27 h
        refine lv_iload_n hx hb dX4_depth_32 rfl (lv_at hl 2 rfl) ?_
        refine lv_if_ne (tgt := 51) hx hb dX4_depth_33 (by decide) (fun c_33 => ?_) (fun c_33 => ?_)
        · have h := jl_iff c_33 h
          refine lv_aload_n hx hb dX4_depth_51 rfl (lv_at hl 0 rfl) ?_
          refine jx_g_X4_reader hx hb hts hiX4 hown hK hP hf21 dX4_depth_52 ?_
          refine jx_g_X1_sight hx hb hts hiX1 hown hK hP hf120 dX4_depth_55 ?_
          refine lv_iload_n hx hb dX4_depth_58 rfl (lv_at hl 1 rfl) ?_
          obtain ⟨r_59, M_59, hc_59, h⟩ := jl_bnd_o h
          refine jx_callVi (As := [.int a1]) (rest := []) ⟨hx, hb, hml, hown, hts⟩ (jc_X2_topOf (ts := 24) (Or.inl rfl) hc_59) (cwV 1 hts gX4_depth_X2_topOf rfl rfl rfl (by decide +kernel) ⟨Nat.le_trans (by decide) hRf, Nat.le_trans (by decide) hRl⟩) (jx_rv_X2 hK hP (ts := 24) (Or.inl rfl)) hK hB hN hP hS rfl dX4_depth_59 rfl hl.1 (Nat.le_of_ble_eq_true rfl) ⟨Nat.zero_le _, Nat.zero_le _⟩ (fun H locs hP hS => ?_)
          exact kr _ _ _ _ _ _ (Option.some.inj h) dX4_depth_62 hP hS
        · have h := jl_ift c_33 h
          refine lv_aload_n hx hb dX4_depth_36 rfl (lv_at hl 0 rfl) ?_
          refine jx_g_X4_reader hx hb hts hiX4 hown hK hP hf21 dX4_depth_37 ?_
          refine jx_g_X1_sight hx hb hts hiX1 hown hK hP hf120 dX4_depth_40 ?_
          refine jx_g_X2_depths hx hb hts hiX2 hown hK hP (ts := 24) (Or.inl rfl) hf139 dX4_depth_43 ?_
          refine lv_iload_n hx hb dX4_depth_46 rfl (lv_at hl 1 rfl) ?_
          obtain ⟨i_47, h⟩ := jl_chk_o h
          refine jx_iaload hx hb hK hP rfl i_47 dX4_depth_47 ?_
          refine lv_goto (tgt := 62) hx hb dX4_depth_48 (by decide) ?_
          exact kr _ _ _ _ _ _ (Option.some.inj h) dX4_depth_62 hP hS
      · have h := jl_ift c_27 h
        refine lv_iconst (v := (-1)) hx hb dX4_depth_30 (by decide) ?_
        exact kr _ _ _ _ _ _ (Option.some.inj h) dX4_depth_31 hP hS
theorem jc_X4_depth {a1 : Int32} {a2 : Int32} {z : Int32 × jl_Mem} (h : jf_X4_depth a1 a2 M = some z) : Met l yX4_depth wsX4_depth ({ frames := 2, cells := 0, slots := 0, locals := 43 }) (va_Pc [.ref (B 0), .int a1, .int a2] (jx_U D cI cT B M)) (va_Qi (fun (q : Int32) (_ : Unit) => q = z.1) (fun _ t => va_P D vwCl (jx_w cI cT B z.2) t.heap) (jx_A B)) 0 0 (jx_A B) := by
  refine Met.ofW (cc := cX4_depth) (maxL := 3) (ret := (some .int)) (by decide) rfl ?_
  intro p e s m args below meth c s1 BB hml hv
  obtain ⟨rfl, hK, hP, hB, hN⟩ := hv
  have hl := lv_entry ([.ref (B 0), .int a1, .int a2]) (n := 3) (Nat.le_of_ble_eq_true rfl)
  rw [lg_entry_eq]
  generalize (lg_sl ([.ref (B 0), .int a1, .int a2]) ++ List.replicate (3 - (lg_sl ([.ref (B 0), .int a1, .int a2])).length) Slot.unset).toArray = ls at hl ⊢
  exact jb_X4_depth BB.exec BB.bytes hml (findClass_of_methodNamed BB.named) (atoms_spec (ws := wsX4_depth) BB.pre) hK hB hN (Nat.le_refl _) (Nat.le_refl _) h (fun v M1 H locs pc ls e1 hd hP hS => W.iret BB.exec BB.bytes BB.returns (fun t ht hW => ⟨⟨_, (), rfl, by rw [← e1], by show va_P D vwCl (jx_w cI cT B z.2) t.heap; rw [ht, ← e1]; exact hP⟩, hS.F ht⟩) hS.2.2 hd BB.notSynchronized) hP va_S.rf hl
end
section
variable {p : Program} {l : Launch} {e : Env} {R : Room} {s : State} {m : MethodId} {args : Array Value} {below : List Frame} {meth : Method} {c : Code} {H : Heap} {locs : List Loc} {Q : State → Prop} {ls : Array Slot} {D : va_G} {cI cT : ClassId} {B : Nat → Nat} {M : jl_Mem} {H0 : Heap}
set_option maxHeartbeats 4000000 in
set_option maxRecDepth 100000 in
theorem jb_X4_known (hx : p.tables.exec = Jvm.exec) (hb : c.code = cX4_known) (hml : c.maxLocals = 3) (hown : s.vm.findClass RX4 = some m.cls) (hts : ∀ w ∈ wsX4_known, w.before args s = true) (hK : va_K D vwCl (jx_ty cI cT) s) (hB : jx_inj B) (hN : jx_N s) (hRf : 2 ≤ R.frames) (hRl : 44 ≤ R.locals) {a1 : Int32} {a2 : Int32} {z : Int32 × jl_Mem} (h : jf_X4_known a1 a2 M = some z)
    (kr : ∀ (v : Int32) (M1 : jl_Mem) (H1 : Heap) (locs1 : List Loc) (pc1 : Nat) (ls1 : Array Slot), (v, M1) = z → decode cX4_known pc1 = .ok (.ireturn, 1) → va_P D vwCl (jx_w cI cT B M1) H1 → va_S (jx_A B) H0 H1 locs1 → W p l e R s m args below meth c H1 locs1 0 0 Q (F0 m pc1 ls1 [.int v]))
    (hP : va_P D vwCl (jx_w cI cT B M) H) (hS : va_S (jx_A B) H0 H locs) (hl : lv_has ls 3 [(0, .ref (B 0)), (1, .int a1), (2, .int a2)]) : W p l e R s m args below meth c H locs 0 0 Q (F0 m 0 ls []) := by
  unfold jf_X4_known at h
  have hiX4 : ∀ w ∈ wsX40, w ∈ wsX4_known := by decide +kernel
  have hiX1 : ∀ w ∈ wsX10, w ∈ wsX4_known := by decide +kernel
  have hf10 := hts (.fieldLink RX4 10 "JudgesLists" "board" "LJudgesLists$Board;") (by decide +kernel)
  have hf21 := hts (.fieldLink RX4 21 "JudgesLists" "reader" "LJudgesLists$Reader;") (by decide +kernel)
  have hf36 := hts (.fieldLink RX4 36 "JudgesLists$Reader" "there" "Z") (by decide +kernel)
  have hf120 := hts (.fieldLink RX4 120 "JudgesLists$Reader" "sight" "LJudgesLists$Sight;") (by decide +kernel)
  refine lv_aload_n hx hb dX4_known_0 rfl (lv_at hl 0 rfl) ?_
  refine jx_g_X4_board hx hb hts hiX4 hown hK hP hf10 dX4_known_1 ?_
  refine lv_iload_n hx hb dX4_known_4 rfl (lv_at hl 1 rfl) ?_
  obtain ⟨r_5, M_5, hc_5, h⟩ := jl_bnd_o h
  refine jx_callVi (As := [.int a1]) (rest := []) ⟨hx, hb, hml, hown, hts⟩ (jc_X0_hasList hc_5) (cwV 1 hts gX4_known_X0_hasList rfl rfl rfl (by decide +kernel) ⟨Nat.le_trans (by decide) hRf, Nat.le_trans (by decide) hRl⟩) (jx_rv_X0 hK hP) hK hB hN hP hS rfl dX4_known_5 rfl hl.1 (Nat.le_of_ble_eq_true rfl) ⟨Nat.zero_le _, Nat.zero_le _⟩ (fun H locs hP hS => ?_)
  refine lv_if_eq (tgt := 32) hx hb dX4_known_8 (by decide) (fun c_8 => ?_) (fun c_8 => ?_)
  · have h := jl_ift c_8 h
    refine lv_iconst (v := (-1)) hx hb dX4_known_32 (by decide) ?_
    exact kr _ _ _ _ _ _ (Option.some.inj h) dX4_known_33 hP hS
  · have h := jl_iff c_8 h
    refine lv_aload_n hx hb dX4_known_11 rfl (lv_at hl 0 rfl) ?_
    refine jx_g_X4_board hx hb hts hiX4 hown hK hP hf10 dX4_known_12 ?_
    refine lv_iload_n hx hb dX4_known_15 rfl (lv_at hl 2 rfl) ?_
    obtain ⟨r_16, M_16, hc_16, h⟩ := jl_bnd_o h
    refine jx_callVi (As := [.int a2]) (rest := []) ⟨hx, hb, hml, hown, hts⟩ (jc_X0_hasThing hc_16) (cwV 1 hts gX4_known_X0_hasThing rfl rfl rfl (by decide +kernel) ⟨Nat.le_trans (by decide) hRf, Nat.le_trans (by decide) hRl⟩) (jx_rv_X0 hK hP) hK hB hN hP hS rfl dX4_known_16 rfl hl.1 (Nat.le_of_ble_eq_true rfl) ⟨Nat.zero_le _, Nat.zero_le _⟩ (fun H locs hP hS => ?_)
    refine lv_if_eq (tgt := 32) hx hb dX4_known_19 (by decide) (fun c_19 => ?_) (fun c_19 => ?_)
    · have h := jl_ift c_19 h
      refine lv_iconst (v := (-1)) hx hb dX4_known_32 (by decide) ?_
      exact kr _ _ _ _ _ _ (Option.some.inj h) dX4_known_33 hP hS
    · have h := jl_iff c_19 h
      refine lv_aload_n hx hb dX4_known_22 rfl (lv_at hl 0 rfl) ?_
      refine jx_g_X4_reader hx hb hts hiX4 hown hK hP hf21 dX4_known_23 ?_
      refine jx_g_X1_there hx hb hts hiX1 hown hK hP hf36 dX4_known_26 ?_
      refine lv_if_ne (tgt := 34) hx hb dX4_known_29 (by decide) (fun c_29 => ?_) (fun c_29 => ?_)
      · have h := jl_iff c_29 h
        refine lv_aload_n hx hb dX4_known_34 rfl (lv_at hl 0 rfl) ?_
        refine jx_g_X4_reader hx hb hts hiX4 hown hK hP hf21 dX4_known_35 ?_
        refine jx_g_X1_sight hx hb hts hiX1 hown hK hP hf120 dX4_known_38 ?_
        refine lv_iload_n hx hb dX4_known_41 rfl (lv_at hl 1 rfl) ?_
        refine lv_iload_n hx hb dX4_known_42 rfl (lv_at hl 2 rfl) ?_
        obtain ⟨r_43, M_43, hc_43, h⟩ := jl_bnd_o h
        refine jx_callVi (As := [.int a1, .int a2]) (rest := []) ⟨hx, hb, hml, hown, hts⟩ (jc_X2_isKnown (ts := 24) (Or.inl rfl) hc_43) (cwV 2 hts gX4_known_X2_isKnown rfl rfl rfl (by decide +kernel) ⟨Nat.le_trans (by decide) hRf, Nat.le_trans (by decide) hRl⟩) (jx_rv_X2 hK hP (ts := 24) (Or.inl rfl)) hK hB hN hP hS rfl dX4_known_43 rfl hl.1 (Nat.le_of_ble_eq_true rfl) ⟨Nat.zero_le _, Nat.zero_le _⟩ (fun H locs hP hS => ?_)
        obtain ⟨r_46, M_46, hc_46, h⟩ := jl_bnd_o h
        refine jx_callSi (As := [.int r_43]) (rest := []) ⟨hx, hb, hml, hown, hts⟩ (jc_X4_yes hc_46) (va_cwS 1 hts gX4_known_X4_yes rfl rfl rfl (by decide +kernel) ⟨Nat.le_trans (by decide) hRf, Nat.le_trans (by decide) hRl⟩) hK hB hN hP hS rfl dX4_known_46 rfl hl.1 (Nat.le_of_ble_eq_true rfl) ⟨Nat.zero_le _, Nat.zero_le _⟩ (fun H locs hP hS => ?_)
        exact kr _ _ _ _ _ _ (Option.some.inj h) dX4_known_49 hP hS
      · have h := jl_ift c_29 h
        refine lv_iconst (v := (-1)) hx hb dX4_known_32 (by decide) ?_
        exact kr _ _ _ _ _ _ (Option.some.inj h) dX4_known_33 hP hS
theorem jc_X4_known {a1 : Int32} {a2 : Int32} {z : Int32 × jl_Mem} (h : jf_X4_known a1 a2 M = some z) : Met l yX4_known wsX4_known ({ frames := 2, cells := 0, slots := 0, locals := 44 }) (va_Pc [.ref (B 0), .int a1, .int a2] (jx_U D cI cT B M)) (va_Qi (fun (q : Int32) (_ : Unit) => q = z.1) (fun _ t => va_P D vwCl (jx_w cI cT B z.2) t.heap) (jx_A B)) 0 0 (jx_A B) := by
  refine Met.ofW (cc := cX4_known) (maxL := 3) (ret := (some .int)) (by decide) rfl ?_
  intro p e s m args below meth c s1 BB hml hv
  obtain ⟨rfl, hK, hP, hB, hN⟩ := hv
  have hl := lv_entry ([.ref (B 0), .int a1, .int a2]) (n := 3) (Nat.le_of_ble_eq_true rfl)
  rw [lg_entry_eq]
  generalize (lg_sl ([.ref (B 0), .int a1, .int a2]) ++ List.replicate (3 - (lg_sl ([.ref (B 0), .int a1, .int a2])).length) Slot.unset).toArray = ls at hl ⊢
  exact jb_X4_known BB.exec BB.bytes hml (findClass_of_methodNamed BB.named) (atoms_spec (ws := wsX4_known) BB.pre) hK hB hN (Nat.le_refl _) (Nat.le_refl _) h (fun v M1 H locs pc ls e1 hd hP hS => W.iret BB.exec BB.bytes BB.returns (fun t ht hW => ⟨⟨_, (), rfl, by rw [← e1], by show va_P D vwCl (jx_w cI cT B z.2) t.heap; rw [ht, ← e1]; exact hP⟩, hS.F ht⟩) hS.2.2 hd BB.notSynchronized) hP va_S.rf hl
end
section
variable {p : Program} {l : Launch} {e : Env} {R : Room} {s : State} {m : MethodId} {args : Array Value} {below : List Frame} {meth : Method} {c : Code} {H : Heap} {locs : List Loc} {Q : State → Prop} {ls : Array Slot} {D : va_G} {cI cT : ClassId} {B : Nat → Nat} {M : jl_Mem} {H0 : Heap}
set_option maxHeartbeats 4000000 in
set_option maxRecDepth 100000 in
theorem jb_X4_bound (hx : p.tables.exec = Jvm.exec) (hb : c.code = cX4_bound) (hml : c.maxLocals = 3) (hown : s.vm.findClass RX4 = some m.cls) (hts : ∀ w ∈ wsX4_bound, w.before args s = true) (hK : va_K D vwCl (jx_ty cI cT) s) (hB : jx_inj B) (hN : jx_N s) (hRf : 3 ≤ R.frames) (hRl : 69 ≤ R.locals) {a1 : Int32} {a2 : Int32} {z : Int32 × jl_Mem} (h : jf_X4_bound a1 a2 M = some z)
    (kr : ∀ (v : Int32) (M1 : jl_Mem) (H1 : Heap) (locs1 : List Loc) (pc1 : Nat) (ls1 : Array Slot), (v, M1) = z → decode cX4_bound pc1 = .ok (.ireturn, 1) → va_P D vwCl (jx_w cI cT B M1) H1 → va_S (jx_A B) H0 H1 locs1 → W p l e R s m args below meth c H1 locs1 0 0 Q (F0 m pc1 ls1 [.int v]))
    (hP : va_P D vwCl (jx_w cI cT B M) H) (hS : va_S (jx_A B) H0 H locs) (hl : lv_has ls 3 [(0, .ref (B 0)), (1, .int a1), (2, .int a2)]) : W p l e R s m args below meth c H locs 0 0 Q (F0 m 0 ls []) := by
  unfold jf_X4_bound at h
  have hiX4 : ∀ w ∈ wsX40, w ∈ wsX4_bound := by decide +kernel
  have hiX1 : ∀ w ∈ wsX10, w ∈ wsX4_bound := by decide +kernel
  have hf10 := hts (.fieldLink RX4 10 "JudgesLists" "board" "LJudgesLists$Board;") (by decide +kernel)
  have hf21 := hts (.fieldLink RX4 21 "JudgesLists" "reader" "LJudgesLists$Reader;") (by decide +kernel)
  have hf36 := hts (.fieldLink RX4 36 "JudgesLists$Reader" "there" "Z") (by decide +kernel)
  have hf120 := hts (.fieldLink RX4 120 "JudgesLists$Reader" "sight" "LJudgesLists$Sight;") (by decide +kernel)
  refine lv_aload_n hx hb dX4_bound_0 rfl (lv_at hl 0 rfl) ?_
  refine jx_g_X4_board hx hb hts hiX4 hown hK hP hf10 dX4_bound_1 ?_
  refine lv_iload_n hx hb dX4_bound_4 rfl (lv_at hl 1 rfl) ?_
  obtain ⟨r_5, M_5, hc_5, h⟩ := jl_bnd_o h
  refine jx_callVi (As := [.int a1]) (rest := []) ⟨hx, hb, hml, hown, hts⟩ (jc_X0_hasThing hc_5) (cwV 1 hts gX4_bound_X0_hasThing rfl rfl rfl (by decide +kernel) ⟨Nat.le_trans (by decide) hRf, Nat.le_trans (by decide) hRl⟩) (jx_rv_X0 hK hP) hK hB hN hP hS rfl dX4_bound_5 rfl hl.1 (Nat.le_of_ble_eq_true rfl) ⟨Nat.zero_le _, Nat.zero_le _⟩ (fun H locs hP hS => ?_)
  refine lv_if_eq (tgt := 21) hx hb dX4_bound_8 (by decide) (fun c_8 => ?_) (fun c_8 => ?_)
  · have h := jl_ift c_8 h
    refine lv_iconst (v := (-1)) hx hb dX4_bound_21 (by decide) ?_
    exact kr _ _ _ _ _ _ (Option.some.inj h) dX4_bound_22 hP hS
  · have h := jl_iff c_8 h
    refine lv_aload_n hx hb dX4_bound_11 rfl (lv_at hl 0 rfl) ?_
    refine jx_g_X4_reader hx hb hts hiX4 hown hK hP hf21 dX4_bound_12 ?_
    refine jx_g_X1_there hx hb hts hiX1 hown hK hP hf36 dX4_bound_15 ?_
    refine lv_if_ne (tgt := 23) hx hb dX4_bound_18 (by decide) (fun c_18 => ?_) (fun c_18 => ?_)
    · have h := jl_iff c_18 h
      refine lv_iload_n hx hb dX4_bound_23 rfl (lv_at hl 2 rfl) ?_
      refine lv_iconst (v := 0) hx hb dX4_bound_24 (by decide) ?_
      refine lv_iconst (v := 1) hx hb dX4_bound_25 (by decide) ?_
      obtain ⟨r_26, M_26, hc_26, h⟩ := jl_bnd_o h
      refine jx_callSi (As := [.int a2, .int 0, .int 1]) (rest := []) ⟨hx, hb, hml, hown, hts⟩ (jc_X4_within hc_26) (va_cwS 3 hts gX4_bound_X4_within rfl rfl rfl (by decide +kernel) ⟨Nat.le_trans (by decide) hRf, Nat.le_trans (by decide) hRl⟩) hK hB hN hP hS rfl dX4_bound_26 rfl hl.1 (Nat.le_of_ble_eq_true rfl) ⟨Nat.zero_le _, Nat.zero_le _⟩ (fun H locs hP hS => ?_)
      refine lv_if_ne (tgt := 35) hx hb dX4_bound_29 (by decide) (fun c_29 => ?_) (fun c_29 => ?_)
      · have h := jl_iff c_29 h
        refine lv_iload_n hx hb dX4_bound_35 rfl (lv_at hl 2 rfl) ?_
        refine lv_iconst (v := 1) hx hb dX4_bound_36 (by decide) ?_
        refine lv_icmp_ne (tgt := 54) hx hb dX4_bound_37 (by decide) (fun c_37 => ?_) (fun c_37 => ?_)
        · have h := jl_iff c_37 h
          refine lv_aload_n hx hb dX4_bound_54 rfl (lv_at hl 0 rfl) ?_
          refine jx_g_X4_reader hx hb hts hiX4 hown hK hP hf21 dX4_bound_55 ?_
          refine jx_g_X1_sight hx hb hts hiX1 hown hK hP hf120 dX4_bound_58 ?_
          refine lv_iload_n hx hb dX4_bound_61 rfl (lv_at hl 1 rfl) ?_
          obtain ⟨r_62, M_62, hc_62, h⟩ := jl_bnd_o h
          refine jx_callVi (As := [.int a1]) (rest := []) ⟨hx, hb, hml, hown, hts⟩ (jc_X2_lowOf (ts := 24) (Or.inl rfl) hc_62) (cwV 1 hts gX4_bound_X2_lowOf rfl rfl rfl (by decide +kernel) ⟨Nat.le_trans (by decide) hRf, Nat.le_trans (by decide) hRl⟩) (jx_rv_X2 hK hP (ts := 24) (Or.inl rfl)) hK hB hN hP hS rfl dX4_bound_62 rfl hl.1 (Nat.le_of_ble_eq_true rfl) ⟨Nat.zero_le _, Nat.zero_le _⟩ (fun H locs hP hS => ?_)
          exact kr _ _ _ _ _ _ (Option.some.inj h) dX4_bound_65 hP hS
        · have h := jl_ift c_37 h
          refine lv_aload_n hx hb dX4_bound_40 rfl (lv_at hl 0 rfl) ?_
          refine jx_g_X4_reader hx hb hts hiX4 hown hK hP hf21 dX4_bound_41 ?_
          refine jx_g_X1_sight hx hb hts hiX1 hown hK hP hf120 dX4_bound_44 ?_
          refine lv_iload_n hx hb dX4_bound_47 rfl (lv_at hl 1 rfl) ?_
          obtain ⟨r_48, M_48, hc_48, h⟩ := jl_bnd_o h
          refine jx_callVi (As := [.int a1]) (rest := []) ⟨hx, hb, hml, hown, hts⟩ (jc_X2_highOf (ts := 24) (Or.inl rfl) hc_48) (cwV 1 hts gX4_bound_X2_highOf rfl rfl rfl (by decide +kernel) ⟨Nat.le_trans (by decide) hRf, Nat.le_trans (by decide) hRl⟩) (jx_rv_X2 hK hP (ts := 24) (Or.inl rfl)) hK hB hN hP hS rfl dX4_bound_48 rfl hl.1 (Nat.le_of_ble_eq_true rfl) ⟨Nat.zero_le _, Nat.zero_le _⟩ (fun H locs hP hS => ?_)
          refine lv_goto (tgt := 65) hx hb dX4_bound_51 (by decide) ?_
          exact kr _ _ _ _ _ _ (Option.some.inj h) dX4_bound_65 hP hS
      · have h := jl_ift c_29 h
        refine lv_bipush (v := (-2)) hx hb dX4_bound_32 (by decide) ?_
        exact kr _ _ _ _ _ _ (Option.some.inj h) dX4_bound_34 hP hS
    · have h := jl_ift c_18 h
      refine lv_iconst (v := (-1)) hx hb dX4_bound_21 (by decide) ?_
      exact kr _ _ _ _ _ _ (Option.some.inj h) dX4_bound_22 hP hS
theorem jc_X4_bound {a1 : Int32} {a2 : Int32} {z : Int32 × jl_Mem} (h : jf_X4_bound a1 a2 M = some z) : Met l yX4_bound wsX4_bound ({ frames := 3, cells := 0, slots := 0, locals := 69 }) (va_Pc [.ref (B 0), .int a1, .int a2] (jx_U D cI cT B M)) (va_Qi (fun (q : Int32) (_ : Unit) => q = z.1) (fun _ t => va_P D vwCl (jx_w cI cT B z.2) t.heap) (jx_A B)) 0 0 (jx_A B) := by
  refine Met.ofW (cc := cX4_bound) (maxL := 3) (ret := (some .int)) (by decide) rfl ?_
  intro p e s m args below meth c s1 BB hml hv
  obtain ⟨rfl, hK, hP, hB, hN⟩ := hv
  have hl := lv_entry ([.ref (B 0), .int a1, .int a2]) (n := 3) (Nat.le_of_ble_eq_true rfl)
  rw [lg_entry_eq]
  generalize (lg_sl ([.ref (B 0), .int a1, .int a2]) ++ List.replicate (3 - (lg_sl ([.ref (B 0), .int a1, .int a2])).length) Slot.unset).toArray = ls at hl ⊢
  exact jb_X4_bound BB.exec BB.bytes hml (findClass_of_methodNamed BB.named) (atoms_spec (ws := wsX4_bound) BB.pre) hK hB hN (Nat.le_refl _) (Nat.le_refl _) h (fun v M1 H locs pc ls e1 hd hP hS => W.iret BB.exec BB.bytes BB.returns (fun t ht hW => ⟨⟨_, (), rfl, by rw [← e1], by show va_P D vwCl (jx_w cI cT B z.2) t.heap; rw [ht, ← e1]; exact hP⟩, hS.F ht⟩) hS.2.2 hd BB.notSynchronized) hP va_S.rf hl
end
section
variable {p : Program} {l : Launch} {e : Env} {R : Room} {s : State} {m : MethodId} {args : Array Value} {below : List Frame} {meth : Method} {c : Code} {H : Heap} {locs : List Loc} {Q : State → Prop} {ls : Array Slot} {D : va_G} {cI cT : ClassId} {B : Nat → Nat} {M : jl_Mem} {H0 : Heap}
set_option maxHeartbeats 4000000 in
set_option maxRecDepth 100000 in
theorem jb_X4_ahead (hx : p.tables.exec = Jvm.exec) (hb : c.code = cX4_ahead) (hml : c.maxLocals = 3) (hown : s.vm.findClass RX4 = some m.cls) (hts : ∀ w ∈ wsX4_ahead, w.before args s = true) (hK : va_K D vwCl (jx_ty cI cT) s) (hB : jx_inj B) (hN : jx_N s) (hRf : 3 ≤ R.frames) (hRl : 69 ≤ R.locals) {a1 : Int32} {a2 : Int32} {z : Int32 × jl_Mem} (h : jf_X4_ahead a1 a2 M = some z)
    (kr : ∀ (v : Int32) (M1 : jl_Mem) (H1 : Heap) (locs1 : List Loc) (pc1 : Nat) (ls1 : Array Slot), (v, M1) = z → decode cX4_ahead pc1 = .ok (.ireturn, 1) → va_P D vwCl (jx_w cI cT B M1) H1 → va_S (jx_A B) H0 H1 locs1 → W p l e R s m args below meth c H1 locs1 0 0 Q (F0 m pc1 ls1 [.int v]))
    (hP : va_P D vwCl (jx_w cI cT B M) H) (hS : va_S (jx_A B) H0 H locs) (hl : lv_has ls 3 [(0, .ref (B 0)), (1, .int a1), (2, .int a2)]) : W p l e R s m args below meth c H locs 0 0 Q (F0 m 0 ls []) := by
  unfold jf_X4_ahead at h
  have hiX4 : ∀ w ∈ wsX40, w ∈ wsX4_ahead := by decide +kernel
  have hiX1 : ∀ w ∈ wsX10, w ∈ wsX4_ahead := by decide +kernel
  have hf10 := hts (.fieldLink RX4 10 "JudgesLists" "board" "LJudgesLists$Board;") (by decide +kernel)
  have hf21 := hts (.fieldLink RX4 21 "JudgesLists" "reader" "LJudgesLists$Reader;") (by decide +kernel)
  have hf36 := hts (.fieldLink RX4 36 "JudgesLists$Reader" "there" "Z") (by decide +kernel)
  have hf120 := hts (.fieldLink RX4 120 "JudgesLists$Reader" "sight" "LJudgesLists$Sight;") (by decide +kernel)
  refine lv_aload_n hx hb dX4_ahead_0 rfl (lv_at hl 0 rfl) ?_
  refine jx_g_X4_board hx hb hts hiX4 hown hK hP hf10 dX4_ahead_1 ?_
  refine lv_iload_n hx hb dX4_ahead_4 rfl (lv_at hl 1 rfl) ?_
  obtain ⟨r_5, M_5, hc_5, h⟩ := jl_bnd_o h
  refine jx_callVi (As := [.int a1]) (rest := []) ⟨hx, hb, hml, hown, hts⟩ (jc_X0_hasThing hc_5) (cwV 1 hts gX4_ahead_X0_hasThing rfl rfl rfl (by decide +kernel) ⟨Nat.le_trans (by decide) hRf, Nat.le_trans (by decide) hRl⟩) (jx_rv_X0 hK hP) hK hB hN hP hS rfl dX4_ahead_5 rfl hl.1 (Nat.le_of_ble_eq_true rfl) ⟨Nat.zero_le _, Nat.zero_le _⟩ (fun H locs hP hS => ?_)
  refine lv_if_eq (tgt := 32) hx hb dX4_ahead_8 (by decide) (fun c_8 => ?_) (fun c_8 => ?_)
  · have h := jl_ift c_8 h
    refine lv_iconst (v := (-1)) hx hb dX4_ahead_32 (by decide) ?_
    exact kr _ _ _ _ _ _ (Option.some.inj h) dX4_ahead_33 hP hS
  · have h := jl_iff c_8 h
    refine lv_aload_n hx hb dX4_ahead_11 rfl (lv_at hl 0 rfl) ?_
    refine jx_g_X4_board hx hb hts hiX4 hown hK hP hf10 dX4_ahead_12 ?_
    refine lv_iload_n hx hb dX4_ahead_15 rfl (lv_at hl 2 rfl) ?_
    obtain ⟨r_16, M_16, hc_16, h⟩ := jl_bnd_o h
    refine jx_callVi (As := [.int a2]) (rest := []) ⟨hx, hb, hml, hown, hts⟩ (jc_X0_hasThing hc_16) (cwV 1 hts gX4_ahead_X0_hasThing rfl rfl rfl (by decide +kernel) ⟨Nat.le_trans (by decide) hRf, Nat.le_trans (by decide) hRl⟩) (jx_rv_X0 hK hP) hK hB hN hP hS rfl dX4_ahead_16 rfl hl.1 (Nat.le_of_ble_eq_true rfl) ⟨Nat.zero_le _, Nat.zero_le _⟩ (fun H locs hP hS => ?_)
    refine lv_if_eq (tgt := 32) hx hb dX4_ahead_19 (by decide) (fun c_19 => ?_) (fun c_19 => ?_)
    · have h := jl_ift c_19 h
      refine lv_iconst (v := (-1)) hx hb dX4_ahead_32 (by decide) ?_
      exact kr _ _ _ _ _ _ (Option.some.inj h) dX4_ahead_33 hP hS
    · have h := jl_iff c_19 h
      refine lv_aload_n hx hb dX4_ahead_22 rfl (lv_at hl 0 rfl) ?_
      refine jx_g_X4_reader hx hb hts hiX4 hown hK hP hf21 dX4_ahead_23 ?_
      refine jx_g_X1_there hx hb hts hiX1 hown hK hP hf36 dX4_ahead_26 ?_
      refine lv_if_ne (tgt := 34) hx hb dX4_ahead_29 (by decide) (fun c_29 => ?_) (fun c_29 => ?_)
      · have h := jl_iff c_29 h
        refine lv_iload_n hx hb dX4_ahead_34 rfl (lv_at hl 1 rfl) ?_
        refine lv_iload_n hx hb dX4_ahead_35 rfl (lv_at hl 2 rfl) ?_
        refine lv_icmp_ne (tgt := 42) hx hb dX4_ahead_36 (by decide) (fun c_36 => ?_) (fun c_36 => ?_)
        · have h := jl_iff c_36 h
          refine lv_iload_n hx hb dX4_ahead_42 rfl (lv_at hl 1 rfl) ?_
          refine lv_aload_n hx hb dX4_ahead_43 rfl (lv_at hl 0 rfl) ?_
          refine jx_g_X4_reader hx hb hts hiX4 hown hK hP hf21 dX4_ahead_44 ?_
          refine jx_g_X1_sight hx hb hts hiX1 hown hK hP hf120 dX4_ahead_47 ?_
          refine lv_iload_n hx hb dX4_ahead_50 rfl (lv_at hl 1 rfl) ?_
          obtain ⟨r_51, M_51, hc_51, h⟩ := jl_bnd_o h
          refine jx_callVi (As := [.int a1]) (rest := [.int a1]) ⟨hx, hb, hml, hown, hts⟩ (jc_X2_lowOf (ts := 24) (Or.inl rfl) hc_51) (cwV 1 hts gX4_ahead_X2_lowOf rfl rfl rfl (by decide +kernel) ⟨Nat.le_trans (by decide) hRf, Nat.le_trans (by decide) hRl⟩) (jx_rv_X2 hK hP (ts := 24) (Or.inl rfl)) hK hB hN hP hS rfl dX4_ahead_51 rfl hl.1 (Nat.le_of_ble_eq_true rfl) ⟨Nat.zero_le _, Nat.zero_le _⟩ (fun H locs hP hS => ?_)
          refine lv_iload_n hx hb dX4_ahead_54 rfl (lv_at hl 2 rfl) ?_
          refine lv_aload_n hx hb dX4_ahead_55 rfl (lv_at hl 0 rfl) ?_
          refine jx_g_X4_reader hx hb hts hiX4 hown hK hP hf21 dX4_ahead_56 ?_
          refine jx_g_X1_sight hx hb hts hiX1 hown hK hP hf120 dX4_ahead_59 ?_
          refine lv_iload_n hx hb dX4_ahead_62 rfl (lv_at hl 2 rfl) ?_
          obtain ⟨r_63, M_63, hc_63, h⟩ := jl_bnd_o h
          refine jx_callVi (As := [.int a2]) (rest := [.int a2, .int r_51, .int a1]) ⟨hx, hb, hml, hown, hts⟩ (jc_X2_highOf (ts := 24) (Or.inl rfl) hc_63) (cwV 1 hts gX4_ahead_X2_highOf rfl rfl rfl (by decide +kernel) ⟨Nat.le_trans (by decide) hRf, Nat.le_trans (by decide) hRl⟩) (jx_rv_X2 hK hP (ts := 24) (Or.inl rfl)) hK hB hN hP hS rfl dX4_ahead_63 rfl hl.1 (Nat.le_of_ble_eq_true rfl) ⟨Nat.zero_le _, Nat.zero_le _⟩ (fun H locs hP hS => ?_)
          obtain ⟨r_66, M_66, hc_66, h⟩ := jl_bnd_o h
          refine jx_callSi (As := [.int a1, .int r_51, .int a2, .int r_63]) (rest := []) ⟨hx, hb, hml, hown, hts⟩ (jc_X4_comesFirst hc_66) (va_cwS 4 hts gX4_ahead_X4_comesFirst rfl rfl rfl (by decide +kernel) ⟨Nat.le_trans (by decide) hRf, Nat.le_trans (by decide) hRl⟩) hK hB hN hP hS rfl dX4_ahead_66 rfl hl.1 (Nat.le_of_ble_eq_true rfl) ⟨Nat.zero_le _, Nat.zero_le _⟩ (fun H locs hP hS => ?_)
          obtain ⟨r_69, M_69, hc_69, h⟩ := jl_bnd_o h
          refine jx_callSi (As := [.int r_66]) (rest := []) ⟨hx, hb, hml, hown, hts⟩ (jc_X4_yes hc_69) (va_cwS 1 hts gX4_ahead_X4_yes rfl rfl rfl (by decide +kernel) ⟨Nat.le_trans (by decide) hRf, Nat.le_trans (by decide) hRl⟩) hK hB hN hP hS rfl dX4_ahead_69 rfl hl.1 (Nat.le_of_ble_eq_true rfl) ⟨Nat.zero_le _, Nat.zero_le _⟩ (fun H locs hP hS => ?_)
          exact kr _ _ _ _ _ _ (Option.some.inj h) dX4_ahead_72 hP hS
        · have h := jl_ift c_36 h
          refine lv_bipush (v := (-2)) hx hb dX4_ahead_39 (by decide) ?_
          exact kr _ _ _ _ _ _ (Option.some.inj h) dX4_ahead_41 hP hS
      · have h := jl_ift c_29 h
        refine lv_iconst (v := (-1)) hx hb dX4_ahead_32 (by decide) ?_
        exact kr _ _ _ _ _ _ (Option.some.inj h) dX4_ahead_33 hP hS
theorem jc_X4_ahead {a1 : Int32} {a2 : Int32} {z : Int32 × jl_Mem} (h : jf_X4_ahead a1 a2 M = some z) : Met l yX4_ahead wsX4_ahead ({ frames := 3, cells := 0, slots := 0, locals := 69 }) (va_Pc [.ref (B 0), .int a1, .int a2] (jx_U D cI cT B M)) (va_Qi (fun (q : Int32) (_ : Unit) => q = z.1) (fun _ t => va_P D vwCl (jx_w cI cT B z.2) t.heap) (jx_A B)) 0 0 (jx_A B) := by
  refine Met.ofW (cc := cX4_ahead) (maxL := 3) (ret := (some .int)) (by decide) rfl ?_
  intro p e s m args below meth c s1 BB hml hv
  obtain ⟨rfl, hK, hP, hB, hN⟩ := hv
  have hl := lv_entry ([.ref (B 0), .int a1, .int a2]) (n := 3) (Nat.le_of_ble_eq_true rfl)
  rw [lg_entry_eq]
  generalize (lg_sl ([.ref (B 0), .int a1, .int a2]) ++ List.replicate (3 - (lg_sl ([.ref (B 0), .int a1, .int a2])).length) Slot.unset).toArray = ls at hl ⊢
  exact jb_X4_ahead BB.exec BB.bytes hml (findClass_of_methodNamed BB.named) (atoms_spec (ws := wsX4_ahead) BB.pre) hK hB hN (Nat.le_refl _) (Nat.le_refl _) h (fun v M1 H locs pc ls e1 hd hP hS => W.iret BB.exec BB.bytes BB.returns (fun t ht hW => ⟨⟨_, (), rfl, by rw [← e1], by show va_P D vwCl (jx_w cI cT B z.2) t.heap; rw [ht, ← e1]; exact hP⟩, hS.F ht⟩) hS.2.2 hd BB.notSynchronized) hP va_S.rf hl
end
section
variable {p : Program} {l : Launch} {e : Env} {R : Room} {s : State} {m : MethodId} {args : Array Value} {below : List Frame} {meth : Method} {c : Code} {H : Heap} {locs : List Loc} {Q : State → Prop} {ls : Array Slot} {D : va_G} {cI cT : ClassId} {B : Nat → Nat} {M : jl_Mem} {H0 : Heap}
set_option maxHeartbeats 4000000 in
set_option maxRecDepth 100000 in
theorem jb_X4_found (hx : p.tables.exec = Jvm.exec) (hb : c.code = cX4_found) (hml : c.maxLocals = 2) (hown : s.vm.findClass RX4 = some m.cls) (hts : ∀ w ∈ wsX4_found, w.before args s = true) (hK : va_K D vwCl (jx_ty cI cT) s) (hB : jx_inj B) (hN : jx_N s) (hRf : 2 ≤ R.frames) (hRl : 44 ≤ R.locals) {a1 : Int32} {z : Int32 × jl_Mem} (h : jf_X4_found a1 M = some z)
    (kr : ∀ (v : Int32) (M1 : jl_Mem) (H1 : Heap) (locs1 : List Loc) (pc1 : Nat) (ls1 : Array Slot), (v, M1) = z → decode cX4_found pc1 = .ok (.ireturn, 1) → va_P D vwCl (jx_w cI cT B M1) H1 → va_S (jx_A B) H0 H1 locs1 → W p l e R s m args below meth c H1 locs1 0 0 Q (F0 m pc1 ls1 [.int v]))
    (hP : va_P D vwCl (jx_w cI cT B M) H) (hS : va_S (jx_A B) H0 H locs) (hl : lv_has ls 2 [(0, .ref (B 0)), (1, .int a1)]) : W p l e R s m args below meth c H locs 0 0 Q (F0 m 0 ls []) := by
  unfold jf_X4_found at h
  have hiX4 : ∀ w ∈ wsX40, w ∈ wsX4_found := by decide +kernel
  have hiX1 : ∀ w ∈ wsX10, w ∈ wsX4_found := by decide +kernel
  have hf21 := hts (.fieldLink RX4 21 "JudgesLists" "reader" "LJudgesLists$Reader;") (by decide +kernel)
  have hf36 := hts (.fieldLink RX4 36 "JudgesLists$Reader" "there" "Z") (by decide +kernel)
  have hf117 := hts (.fieldLink RX4 117 "JudgesLists$Reader" "wanted" "I") (by decide +kernel)
  have hf101 := hts (.fieldLink RX4 101 "JudgesLists$Reader" "done" "Z") (by decide +kernel)
  have hf120 := hts (.fieldLink RX4 120 "JudgesLists$Reader" "sight" "LJudgesLists$Sight;") (by decide +kernel)
  refine lv_aload_n hx hb dX4_found_0 rfl (lv_at hl 0 rfl) ?_
  refine jx_g_X4_reader hx hb hts hiX4 hown hK hP hf21 dX4_found_1 ?_
  refine jx_g_X1_there hx hb hts hiX1 hown hK hP hf36 dX4_found_4 ?_
  refine lv_if_eq (tgt := 27) hx hb dX4_found_7 (by decide) (fun c_7 => ?_) (fun c_7 => ?_)
  · have h := jl_ift c_7 h
    refine lv_iconst (v := (-1)) hx hb dX4_found_27 (by decide) ?_
    exact kr _ _ _ _ _ _ (Option.some.inj h) dX4_found_28 hP hS
  · have h := jl_iff c_7 h
    refine lv_iload_n hx hb dX4_found_10 rfl (lv_at hl 1 rfl) ?_
    refine lv_iconst (v := 0) hx hb dX4_found_11 (by decide) ?_
    refine lv_aload_n hx hb dX4_found_12 rfl (lv_at hl 0 rfl) ?_
    refine jx_g_X4_reader hx hb hts hiX4 hown hK hP hf21 dX4_found_13 ?_
    refine jx_g_X1_wanted hx hb hts hiX1 hown hK hP hf117 dX4_found_16 ?_
    refine lv_iconst (v := 1) hx hb dX4_found_19 (by decide) ?_
    refine lv_isub hx hb dX4_found_20 ?_
    obtain ⟨r_21, M_21, hc_21, h⟩ := jl_bnd_o h
    refine jx_callSi (As := [.int a1, .int 0, .int ((M 23 5) - (1 : Int32))]) (rest := []) ⟨hx, hb, hml, hown, hts⟩ (jc_X4_within hc_21) (va_cwS 3 hts gX4_found_X4_within rfl rfl rfl (by decide +kernel) ⟨Nat.le_trans (by decide) hRf, Nat.le_trans (by decide) hRl⟩) hK hB hN hP hS rfl dX4_found_21 rfl hl.1 (Nat.le_of_ble_eq_true rfl) ⟨Nat.zero_le _, Nat.zero_le _⟩ (fun H locs hP hS => ?_)
    refine lv_if_ne (tgt := 29) hx hb dX4_found_24 (by decide) (fun c_24 => ?_) (fun c_24 => ?_)
    · have h := jl_iff c_24 h
      refine lv_aload_n hx hb dX4_found_29 rfl (lv_at hl 0 rfl) ?_
      refine jx_g_X4_reader hx hb hts hiX4 hown hK hP hf21 dX4_found_30 ?_
      refine jx_g_X1_done hx hb hts hiX1 hown hK hP hf101 dX4_found_33 ?_
      refine lv_if_ne (tgt := 42) hx hb dX4_found_36 (by decide) (fun c_36 => ?_) (fun c_36 => ?_)
      · have h := jl_iff c_36 h
        refine lv_aload_n hx hb dX4_found_42 rfl (lv_at hl 0 rfl) ?_
        refine jx_g_X4_reader hx hb hts hiX4 hown hK hP hf21 dX4_found_43 ?_
        refine jx_g_X1_sight hx hb hts hiX1 hown hK hP hf120 dX4_found_46 ?_
        refine lv_iload_n hx hb dX4_found_49 rfl (lv_at hl 1 rfl) ?_
        obtain ⟨r_50, M_50, hc_50, h⟩ := jl_bnd_o h
        refine jx_callVi (As := [.int a1]) (rest := []) ⟨hx, hb, hml, hown, hts⟩ (jc_X2_foundAt (ts := 24) (Or.inl rfl) hc_50) (cwV 1 hts gX4_found_X2_foundAt rfl rfl rfl (by decide +kernel) ⟨Nat.le_trans (by decide) hRf, Nat.le_trans (by decide) hRl⟩) (jx_rv_X2 hK hP (ts := 24) (Or.inl rfl)) hK hB hN hP hS rfl dX4_found_50 rfl hl.1 (Nat.le_of_ble_eq_true rfl) ⟨Nat.zero_le _, Nat.zero_le _⟩ (fun H locs hP hS => ?_)
        exact kr _ _ _ _ _ _ (Option.some.inj h) dX4_found_53 hP hS
      · have h := jl_ift c_36 h
        refine lv_bipush (v := (-3)) hx hb dX4_found_39 (by decide) ?_
        exact kr _ _ _ _ _ _ (Option.some.inj h) dX4_found_41 hP hS
    · have h := jl_ift c_24 h
      refine lv_iconst (v := (-1)) hx hb dX4_found_27 (by decide) ?_
      exact kr _ _ _ _ _ _ (Option.some.inj h) dX4_found_28 hP hS
theorem jc_X4_found {a1 : Int32} {z : Int32 × jl_Mem} (h : jf_X4_found a1 M = some z) : Met l yX4_found wsX4_found ({ frames := 2, cells := 0, slots := 0, locals := 44 }) (va_Pc [.ref (B 0), .int a1] (jx_U D cI cT B M)) (va_Qi (fun (q : Int32) (_ : Unit) => q = z.1) (fun _ t => va_P D vwCl (jx_w cI cT B z.2) t.heap) (jx_A B)) 0 0 (jx_A B) := by
  refine Met.ofW (cc := cX4_found) (maxL := 2) (ret := (some .int)) (by decide) rfl ?_
  intro p e s m args below meth c s1 BB hml hv
  obtain ⟨rfl, hK, hP, hB, hN⟩ := hv
  have hl := lv_entry ([.ref (B 0), .int a1]) (n := 2) (Nat.le_of_ble_eq_true rfl)
  rw [lg_entry_eq]
  generalize (lg_sl ([.ref (B 0), .int a1]) ++ List.replicate (2 - (lg_sl ([.ref (B 0), .int a1])).length) Slot.unset).toArray = ls at hl ⊢
  exact jb_X4_found BB.exec BB.bytes hml (findClass_of_methodNamed BB.named) (atoms_spec (ws := wsX4_found) BB.pre) hK hB hN (Nat.le_refl _) (Nat.le_refl _) h (fun v M1 H locs pc ls e1 hd hP hS => W.iret BB.exec BB.bytes BB.returns (fun t ht hW => ⟨⟨_, (), rfl, by rw [← e1], by show va_P D vwCl (jx_w cI cT B z.2) t.heap; rw [ht, ← e1]; exact hP⟩, hS.F ht⟩) hS.2.2 hd BB.notSynchronized) hP va_S.rf hl
end
