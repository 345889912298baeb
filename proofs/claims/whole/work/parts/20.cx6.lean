section
variable {p : Program} {l : Launch} {e : Env} {R : Room} {s : State} {m : MethodId} {args : Array Value} {below : List Frame} {meth : Method} {c : Code} {H : Heap} {locs : List Loc} {Q : State → Prop} {ls : Array Slot} {D : va_G} {cI cT : ClassId} {B : Nat → Nat} {M : jl_Mem} {H0 : Heap}
set_option maxHeartbeats 4000000 in
set_option maxRecDepth 100000 in
theorem jb_X4_enough (hx : p.tables.exec = Jvm.exec) (hb : c.code = cX4_enough) (hml : c.maxLocals = 6) (hown : s.vm.findClass RX4 = some m.cls) (hts : ∀ w ∈ wsX4_enough, w.before args s = true) (hK : va_K D vwCl (jx_ty cI cT) s) (hB : jx_inj B) (hN : jx_N s) (hRf : 5 ≤ R.frames) (hRl : 117 ≤ R.locals) {a1 : Int32} {a2 : Int32} {a3 : Int32} {a4 : Int32} {a5 : Int32} {z : Int32 × jl_Mem} (h : jf_X4_enough a1 a2 a3 a4 a5 M = some z)
    (kr : ∀ (v : Int32) (M1 : jl_Mem) (H1 : Heap) (locs1 : List Loc) (pc1 : Nat) (ls1 : Array Slot), (v, M1) = z → decode cX4_enough pc1 = .ok (.ireturn, 1) → va_P D vwCl (jx_w cI cT B M1) H1 → va_S (jx_A B) H0 H1 locs1 → W p l e R s m args below meth c H1 locs1 0 0 Q (F0 m pc1 ls1 [.int v]))
    (hP : va_P D vwCl (jx_w cI cT B M) H) (hS : va_S (jx_A B) H0 H locs) (hl : lv_has ls 6 [(0, .ref (B 0)), (1, .int a1), (2, .int a2), (3, .int a3), (4, .int a4), (5, .int a5)]) : W p l e R s m args below meth c H locs 0 0 Q (F0 m 0 ls []) := by
  unfold jf_X4_enough at h
  have hiX4 : ∀ w ∈ wsX40, w ∈ wsX4_enough := by decide +kernel
  have hf10 := hts (.fieldLink RX4 10 "JudgesLists" "board" "LJudgesLists$Board;") (by decide +kernel)
  have hf28 := hts (.fieldLink RX4 28 "JudgesLists" "trial" "LJudgesLists$Trial;") (by decide +kernel)
  refine lv_aload_n hx hb dX4_enough_0 rfl (lv_at hl 0 rfl) ?_
  refine jx_g_X4_board hx hb hts hiX4 hown hK hP hf10 dX4_enough_1 ?_
  refine lv_iload_n hx hb dX4_enough_4 rfl (lv_at hl 1 rfl) ?_
  obtain ⟨r_5, M_5, hc_5, h⟩ := jl_bnd_o h
  refine jx_callVi (As := [.int a1]) (rest := []) ⟨hx, hb, hml, hown, hts⟩ (jc_X0_mayAskFor hc_5) (cwV 1 hts gX4_enough_X0_mayAskFor rfl rfl rfl (by decide +kernel) ⟨Nat.le_trans (by decide) hRf, Nat.le_trans (by decide) hRl⟩) (jx_rv_X0 hK hP) hK hB hN hP hS rfl dX4_enough_5 rfl hl.1 (Nat.le_of_ble_eq_true rfl) ⟨Nat.zero_le _, Nat.zero_le _⟩ (fun H locs hP hS => ?_)
  refine lv_if_ne (tgt := 14) hx hb dX4_enough_8 (by decide) (fun c_8 => ?_) (fun c_8 => ?_)
  · have h := jl_iff c_8 h
    refine lv_aload_n hx hb dX4_enough_14 rfl (lv_at hl 0 rfl) ?_
    refine jx_g_X4_board hx hb hts hiX4 hown hK hP hf10 dX4_enough_15 ?_
    refine lv_iconst (v := 0) hx hb dX4_enough_18 (by decide) ?_
    refine lv_iload_n hx hb dX4_enough_19 rfl (lv_at hl 2 rfl) ?_
    obtain ⟨r_20, M_20, hc_20, h⟩ := jl_bnd_o h
    refine jx_callVi (As := [.int 0, .int a2]) (rest := []) ⟨hx, hb, hml, hown, hts⟩ (jc_X0_isDepth hc_20) (cwV 2 hts gX4_enough_X0_isDepth rfl rfl rfl (by decide +kernel) ⟨Nat.le_trans (by decide) hRf, Nat.le_trans (by decide) hRl⟩) (jx_rv_X0 hK hP) hK hB hN hP hS rfl dX4_enough_20 rfl hl.1 (Nat.le_of_ble_eq_true rfl) ⟨Nat.zero_le _, Nat.zero_le _⟩ (fun H locs hP hS => ?_)
    refine lv_if_eq (tgt := 64) hx hb dX4_enough_23 (by decide) (fun c_23 => ?_) (fun c_23 => ?_)
    · have h := jl_ift c_23 h
      refine lv_bipush (v := (-2)) hx hb dX4_enough_64 (by decide) ?_
      exact kr _ _ _ _ _ _ (Option.some.inj h) dX4_enough_66 hP hS
    · have h := jl_iff c_23 h
      refine lv_aload_n hx hb dX4_enough_26 rfl (lv_at hl 0 rfl) ?_
      refine jx_g_X4_board hx hb hts hiX4 hown hK hP hf10 dX4_enough_27 ?_
      refine lv_iconst (v := 1) hx hb dX4_enough_30 (by decide) ?_
      refine lv_iload_n hx hb dX4_enough_31 rfl (lv_at hl 3 rfl) ?_
      obtain ⟨r_32, M_32, hc_32, h⟩ := jl_bnd_o h
      refine jx_callVi (As := [.int 1, .int a3]) (rest := []) ⟨hx, hb, hml, hown, hts⟩ (jc_X0_isDepth hc_32) (cwV 2 hts gX4_enough_X0_isDepth rfl rfl rfl (by decide +kernel) ⟨Nat.le_trans (by decide) hRf, Nat.le_trans (by decide) hRl⟩) (jx_rv_X0 hK hP) hK hB hN hP hS rfl dX4_enough_32 rfl hl.1 (Nat.le_of_ble_eq_true rfl) ⟨Nat.zero_le _, Nat.zero_le _⟩ (fun H locs hP hS => ?_)
      refine lv_if_eq (tgt := 64) hx hb dX4_enough_35 (by decide) (fun c_35 => ?_) (fun c_35 => ?_)
      · have h := jl_ift c_35 h
        refine lv_bipush (v := (-2)) hx hb dX4_enough_64 (by decide) ?_
        exact kr _ _ _ _ _ _ (Option.some.inj h) dX4_enough_66 hP hS
      · have h := jl_iff c_35 h
        refine lv_aload_n hx hb dX4_enough_38 rfl (lv_at hl 0 rfl) ?_
        refine jx_g_X4_board hx hb hts hiX4 hown hK hP hf10 dX4_enough_39 ?_
        refine lv_iconst (v := 2) hx hb dX4_enough_42 (by decide) ?_
        refine lv_iload hx hb dX4_enough_43 (lv_at hl 4 rfl) ?_
        obtain ⟨r_45, M_45, hc_45, h⟩ := jl_bnd_o h
        refine jx_callVi (As := [.int 2, .int a4]) (rest := []) ⟨hx, hb, hml, hown, hts⟩ (jc_X0_isDepth hc_45) (cwV 2 hts gX4_enough_X0_isDepth rfl rfl rfl (by decide +kernel) ⟨Nat.le_trans (by decide) hRf, Nat.le_trans (by decide) hRl⟩) (jx_rv_X0 hK hP) hK hB hN hP hS rfl dX4_enough_45 rfl hl.1 (Nat.le_of_ble_eq_true rfl) ⟨Nat.zero_le _, Nat.zero_le _⟩ (fun H locs hP hS => ?_)
        refine lv_if_eq (tgt := 64) hx hb dX4_enough_48 (by decide) (fun c_48 => ?_) (fun c_48 => ?_)
        · have h := jl_ift c_48 h
          refine lv_bipush (v := (-2)) hx hb dX4_enough_64 (by decide) ?_
          exact kr _ _ _ _ _ _ (Option.some.inj h) dX4_enough_66 hP hS
        · have h := jl_iff c_48 h
          refine lv_aload_n hx hb dX4_enough_51 rfl (lv_at hl 0 rfl) ?_
          refine jx_g_X4_board hx hb hts hiX4 hown hK hP hf10 dX4_enough_52 ?_
          refine lv_iconst (v := 3) hx hb dX4_enough_55 (by decide) ?_
          refine lv_iload hx hb dX4_enough_56 (lv_at hl 5 rfl) ?_
          obtain ⟨r_58, M_58, hc_58, h⟩ := jl_bnd_o h
          refine jx_callVi (As := [.int 3, .int a5]) (rest := []) ⟨hx, hb, hml, hown, hts⟩ (jc_X0_isDepth hc_58) (cwV 2 hts gX4_enough_X0_isDepth rfl rfl rfl (by decide +kernel) ⟨Nat.le_trans (by decide) hRf, Nat.le_trans (by decide) hRl⟩) (jx_rv_X0 hK hP) hK hB hN hP hS rfl dX4_enough_58 rfl hl.1 (Nat.le_of_ble_eq_true rfl) ⟨Nat.zero_le _, Nat.zero_le _⟩ (fun H locs hP hS => ?_)
          refine lv_if_ne (tgt := 67) hx hb dX4_enough_61 (by decide) (fun c_61 => ?_) (fun c_61 => ?_)
          · have h := jl_iff c_61 h
            refine lv_aload_n hx hb dX4_enough_67 rfl (lv_at hl 0 rfl) ?_
            refine jx_g_X4_trial hx hb hts hiX4 hown hK hP hf28 dX4_enough_68 ?_
            refine lv_iload_n hx hb dX4_enough_71 rfl (lv_at hl 1 rfl) ?_
            refine lv_iload_n hx hb dX4_enough_72 rfl (lv_at hl 2 rfl) ?_
            refine lv_iload_n hx hb dX4_enough_73 rfl (lv_at hl 3 rfl) ?_
            refine lv_iload hx hb dX4_enough_74 (lv_at hl 4 rfl) ?_
            refine lv_iload hx hb dX4_enough_76 (lv_at hl 5 rfl) ?_
            obtain ⟨r_78, M_78, hc_78, h⟩ := jl_bnd_o h
            refine jx_callVi (As := [.int a1, .int a2, .int a3, .int a4, .int a5]) (rest := []) ⟨hx, hb, hml, hown, hts⟩ (jc_X3_isEnough hc_78) (cwV 5 hts gX4_enough_X3_isEnough rfl rfl rfl (by decide +kernel) ⟨Nat.le_trans (by decide) hRf, Nat.le_trans (by decide) hRl⟩) (jx_rv_X3 hK hP) hK hB hN hP hS rfl dX4_enough_78 rfl hl.1 (Nat.le_of_ble_eq_true rfl) ⟨Nat.zero_le _, Nat.zero_le _⟩ (fun H locs hP hS => ?_)
            obtain ⟨r_81, M_81, hc_81, h⟩ := jl_bnd_o h
            refine jx_callSi (As := [.int r_78]) (rest := []) ⟨hx, hb, hml, hown, hts⟩ (jc_X4_yes hc_81) (va_cwS 1 hts gX4_enough_X4_yes rfl rfl rfl (by decide +kernel) ⟨Nat.le_trans (by decide) hRf, Nat.le_trans (by decide) hRl⟩) hK hB hN hP hS rfl dX4_enough_81 rfl hl.1 (Nat.le_of_ble_eq_true rfl) ⟨Nat.zero_le _, Nat.zero_le _⟩ (fun H locs hP hS => ?_)
            exact kr _ _ _ _ _ _ (Option.some.inj h) dX4_enough_84 hP hS
          · have h := jl_ift c_61 h
            refine lv_bipush (v := (-2)) hx hb dX4_enough_64 (by decide) ?_
            exact kr _ _ _ _ _ _ (Option.some.inj h) dX4_enough_66 hP hS
  · have h := jl_ift c_8 h
    refine lv_bipush (v := (-2)) hx hb dX4_enough_11 (by decide) ?_
    exact kr _ _ _ _ _ _ (Option.some.inj h) dX4_enough_13 hP hS
theorem jc_X4_enough {a1 : Int32} {a2 : Int32} {a3 : Int32} {a4 : Int32} {a5 : Int32} {z : Int32 × jl_Mem} (h : jf_X4_enough a1 a2 a3 a4 a5 M = some z) : Met l yX4_enough wsX4_enough ({ frames := 5, cells := 0, slots := 0, locals := 117 }) (va_Pc [.ref (B 0), .int a1, .int a2, .int a3, .int a4, .int a5] (jx_U D cI cT B M)) (va_Qi (fun (q : Int32) (_ : Unit) => q = z.1) (fun _ t => va_P D vwCl (jx_w cI cT B z.2) t.heap) (jx_A B)) 0 0 (jx_A B) := by
  refine Met.ofW (cc := cX4_enough) (maxL := 6) (ret := (some .int)) (by decide) rfl ?_
  intro p e s m args below meth c s1 BB hml hv
  obtain ⟨rfl, hK, hP, hB, hN⟩ := hv
  have hl := lv_entry ([.ref (B 0), .int a1, .int a2, .int a3, .int a4, .int a5]) (n := 6) (Nat.le_of_ble_eq_true rfl)
  rw [lg_entry_eq]
  generalize (lg_sl ([.ref (B 0), .int a1, .int a2, .int a3, .int a4, .int a5]) ++ List.replicate (6 - (lg_sl ([.ref (B 0), .int a1, .int a2, .int a3, .int a4, .int a5])).length) Slot.unset).toArray = ls at hl ⊢
  exact jb_X4_enough BB.exec BB.bytes hml (findClass_of_methodNamed BB.named) (atoms_spec (ws := wsX4_enough) BB.pre) hK hB hN (Nat.le_refl _) (Nat.le_refl _) h (fun v M1 H locs pc ls e1 hd hP hS => W.iret BB.exec BB.bytes BB.returns (fun t ht hW => ⟨⟨_, (), rfl, by rw [← e1], by show va_P D vwCl (jx_w cI cT B z.2) t.heap; rw [ht, ← e1]; exact hP⟩, hS.F ht⟩) hS.2.2 hd BB.notSynchronized) hP va_S.rf hl
end
section
variable {p : Program} {l : Launch} {e : Env} {R : Room} {s : State} {m : MethodId} {args : Array Value} {below : List Frame} {meth : Method} {c : Code} {H : Heap} {locs : List Loc} {Q : State → Prop} {ls : Array Slot} {D : va_G} {cI cT : ClassId} {B : Nat → Nat} {M : jl_Mem} {H0 : Heap}
set_option maxHeartbeats 4000000 in
set_option maxRecDepth 100000 in
theorem jb_X4_least (hx : p.tables.exec = Jvm.exec) (hb : c.code = cX4_least) (hml : c.maxLocals = 2) (hown : s.vm.findClass RX4 = some m.cls) (hts : ∀ w ∈ wsX4_least, w.before args s = true) (hK : va_K D vwCl (jx_ty cI cT) s) (hB : jx_inj B) (hN : jx_N s) (hRf : 5 ≤ R.frames) (hRl : 117 ≤ R.locals) {a1 : Int32} {z : Int32 × jl_Mem} (h : jf_X4_least a1 M = some z)
    (kr : ∀ (v : Int32) (M1 : jl_Mem) (H1 : Heap) (locs1 : List Loc) (pc1 : Nat) (ls1 : Array Slot), (v, M1) = z → decode cX4_least pc1 = .ok (.ireturn, 1) → va_P D vwCl (jx_w cI cT B M1) H1 → va_S (jx_A B) H0 H1 locs1 → W p l e R s m args below meth c H1 locs1 0 0 Q (F0 m pc1 ls1 [.int v]))
    (hP : va_P D vwCl (jx_w cI cT B M) H) (hS : va_S (jx_A B) H0 H locs) (hl : lv_has ls 2 [(0, .ref (B 0)), (1, .int a1)]) : W p l e R s m args below meth c H locs 0 0 Q (F0 m 0 ls []) := by
  unfold jf_X4_least at h
  have hiX4 : ∀ w ∈ wsX40, w ∈ wsX4_least := by decide +kernel
  have hf10 := hts (.fieldLink RX4 10 "JudgesLists" "board" "LJudgesLists$Board;") (by decide +kernel)
  have hf28 := hts (.fieldLink RX4 28 "JudgesLists" "trial" "LJudgesLists$Trial;") (by decide +kernel)
  refine lv_aload_n hx hb dX4_least_0 rfl (lv_at hl 0 rfl) ?_
  refine jx_g_X4_board hx hb hts hiX4 hown hK hP hf10 dX4_least_1 ?_
  refine lv_iload_n hx hb dX4_least_4 rfl (lv_at hl 1 rfl) ?_
  obtain ⟨r_5, M_5, hc_5, h⟩ := jl_bnd_o h
  refine jx_callVi (As := [.int a1]) (rest := []) ⟨hx, hb, hml, hown, hts⟩ (jc_X0_mayAskFor hc_5) (cwV 1 hts gX4_least_X0_mayAskFor rfl rfl rfl (by decide +kernel) ⟨Nat.le_trans (by decide) hRf, Nat.le_trans (by decide) hRl⟩) (jx_rv_X0 hK hP) hK hB hN hP hS rfl dX4_least_5 rfl hl.1 (Nat.le_of_ble_eq_true rfl) ⟨Nat.zero_le _, Nat.zero_le _⟩ (fun H locs hP hS => ?_)
  refine lv_if_ne (tgt := 14) hx hb dX4_least_8 (by decide) (fun c_8 => ?_) (fun c_8 => ?_)
  · have h := jl_iff c_8 h
    refine lv_aload_n hx hb dX4_least_14 rfl (lv_at hl 0 rfl) ?_
    refine jx_g_X4_board hx hb hts hiX4 hown hK hP hf10 dX4_least_15 ?_
    obtain ⟨r_18, M_18, hc_18, h⟩ := jl_bnd_o h
    refine jx_callVi (As := []) (rest := []) ⟨hx, hb, hml, hown, hts⟩ (jc_X0_depthRows hc_18) (cwV 0 hts gX4_least_X0_depthRows rfl rfl rfl (by decide +kernel) ⟨Nat.le_trans (by decide) hRf, Nat.le_trans (by decide) hRl⟩) (jx_rv_X0 hK hP) hK hB hN hP hS rfl dX4_least_18 rfl hl.1 (Nat.le_of_ble_eq_true rfl) ⟨Nat.zero_le _, Nat.zero_le _⟩ (fun H locs hP hS => ?_)
    refine lv_sipush (v := 500) hx hb dX4_least_21 (by decide) ?_
    refine lv_icmp_le (tgt := 30) hx hb dX4_least_24 (by decide) (fun c_24 => ?_) (fun c_24 => ?_)
    · have h := jl_ift c_24 h
      refine lv_aload_n hx hb dX4_least_30 rfl (lv_at hl 0 rfl) ?_
      refine jx_g_X4_trial hx hb hts hiX4 hown hK hP hf28 dX4_least_31 ?_
      refine lv_iload_n hx hb dX4_least_34 rfl (lv_at hl 1 rfl) ?_
      obtain ⟨r_35, M_35, hc_35, h⟩ := jl_bnd_o h
      refine jx_callVi (As := [.int a1]) (rest := []) ⟨hx, hb, hml, hown, hts⟩ (jc_X3_cheapest hc_35) (cwV 1 hts gX4_least_X3_cheapest rfl rfl rfl (by decide +kernel) ⟨Nat.le_trans (by decide) hRf, Nat.le_trans (by decide) hRl⟩) (jx_rv_X3 hK hP) hK hB hN hP hS rfl dX4_least_35 rfl hl.1 (Nat.le_of_ble_eq_true rfl) ⟨Nat.zero_le _, Nat.zero_le _⟩ (fun H locs hP hS => ?_)
      exact kr _ _ _ _ _ _ (Option.some.inj h) dX4_least_38 hP hS
    · have h := jl_iff c_24 h
      refine lv_bipush (v := (-3)) hx hb dX4_least_27 (by decide) ?_
      exact kr _ _ _ _ _ _ (Option.some.inj h) dX4_least_29 hP hS
  · have h := jl_ift c_8 h
    refine lv_bipush (v := (-2)) hx hb dX4_least_11 (by decide) ?_
    exact kr _ _ _ _ _ _ (Option.some.inj h) dX4_least_13 hP hS
theorem jc_X4_least {a1 : Int32} {z : Int32 × jl_Mem} (h : jf_X4_least a1 M = some z) : Met l yX4_least wsX4_least ({ frames := 5, cells := 0, slots := 0, locals := 117 }) (va_Pc [.ref (B 0), .int a1] (jx_U D cI cT B M)) (va_Qi (fun (q : Int32) (_ : Unit) => q = z.1) (fun _ t => va_P D vwCl (jx_w cI cT B z.2) t.heap) (jx_A B)) 0 0 (jx_A B) := by
  refine Met.ofW (cc := cX4_least) (maxL := 2) (ret := (some .int)) (by decide) rfl ?_
  intro p e s m args below meth c s1 BB hml hv
  obtain ⟨rfl, hK, hP, hB, hN⟩ := hv
  have hl := lv_entry ([.ref (B 0), .int a1]) (n := 2) (Nat.le_of_ble_eq_true rfl)
  rw [lg_entry_eq]
  generalize (lg_sl ([.ref (B 0), .int a1]) ++ List.replicate (2 - (lg_sl ([.ref (B 0), .int a1])).length) Slot.unset).toArray = ls at hl ⊢
  exact jb_X4_least BB.exec BB.bytes hml (findClass_of_methodNamed BB.named) (atoms_spec (ws := wsX4_least) BB.pre) hK hB hN (Nat.le_refl _) (Nat.le_refl _) h (fun v M1 H locs pc ls e1 hd hP hS => W.iret BB.exec BB.bytes BB.returns (fun t ht hW => ⟨⟨_, (), rfl, by rw [← e1], by show va_P D vwCl (jx_w cI cT B z.2) t.heap; rw [ht, ← e1]; exact hP⟩, hS.F ht⟩) hS.2.2 hd BB.notSynchronized) hP va_S.rf hl
end
section
variable {p : Program} {l : Launch} {e : Env} {R : Room} {s : State} {m : MethodId} {args : Array Value} {below : List Frame} {meth : Method} {c : Code} {H : Heap} {locs : List Loc} {Q : State → Prop} {ls : Array Slot} {D : va_G} {cI cT : ClassId} {B : Nat → Nat} {M : jl_Mem} {H0 : Heap}
set_option maxHeartbeats 4000000 in
set_option maxRecDepth 100000 in
theorem jb_X4_leastDepth (hx : p.tables.exec = Jvm.exec) (hb : c.code = cX4_leastDepth) (hml : c.maxLocals = 2) (hown : s.vm.findClass RX4 = some m.cls) (hts : ∀ w ∈ wsX4_leastDepth, w.before args s = true) (hK : va_K D vwCl (jx_ty cI cT) s) (hB : jx_inj B) (hN : jx_N s) (hRf : 1 ≤ R.frames) (hRl : 22 ≤ R.locals) {a1 : Int32} {z : Int32 × jl_Mem} (h : jf_X4_leastDepth a1 M = some z)
    (kr : ∀ (v : Int32) (M1 : jl_Mem) (H1 : Heap) (locs1 : List Loc) (pc1 : Nat) (ls1 : Array Slot), (v, M1) = z → decode cX4_leastDepth pc1 = .ok (.ireturn, 1) → va_P D vwCl (jx_w cI cT B M1) H1 → va_S (jx_A B) H0 H1 locs1 → W p l e R s m args below meth c H1 locs1 0 0 Q (F0 m pc1 ls1 [.int v]))
    (hP : va_P D vwCl (jx_w cI cT B M) H) (hS : va_S (jx_A B) H0 H locs) (hl : lv_has ls 2 [(0, .ref (B 0)), (1, .int a1)]) : W p l e R s m args below meth c H locs 0 0 Q (F0 m 0 ls []) := by
  unfold jf_X4_leastDepth at h
  have hiX4 : ∀ w ∈ wsX40, w ∈ wsX4_leastDepth := by decide +kernel
  have hiX3 : ∀ w ∈ wsX30, w ∈ wsX4_leastDepth := by decide +kernel
  have hf28 := hts (.fieldLink RX4 28 "JudgesLists" "trial" "LJudgesLists$Trial;") (by decide +kernel)
  have hf175 := hts (.fieldLink RX4 175 "JudgesLists$Trial" "told" "[I") (by decide +kernel)
  refine lv_iload_n hx hb dX4_leastDepth_0 rfl (lv_at hl 1 rfl) ?_
  refine lv_iconst (v := 0) hx hb dX4_leastDepth_1 (by decide) ?_
  refine lv_iconst (v := 3) hx hb dX4_leastDepth_2 (by decide) ?_
  obtain ⟨r_3, M_3, hc_3, h⟩ := jl_bnd_o h
  refine jx_callSi (As := [.int a1, .int 0, .int 3]) (rest := []) ⟨hx, hb, hml, hown, hts⟩ (jc_X4_within hc_3) (va_cwS 3 hts gX4_leastDepth_X4_within rfl rfl rfl (by decide +kernel) ⟨Nat.le_trans (by decide) hRf, Nat.le_trans (by decide) hRl⟩) hK hB hN hP hS rfl dX4_leastDepth_3 rfl hl.1 (Nat.le_of_ble_eq_true rfl) ⟨Nat.zero_le _, Nat.zero_le _⟩ (fun H locs hP hS => ?_)
  refine lv_if_eq (tgt := 21) hx hb dX4_leastDepth_6 (by decide) (fun c_6 => ?_) (fun c_6 => ?_)
  · have h := jl_ift c_6 h
    refine lv_iconst (v := (-1)) hx hb dX4_leastDepth_21 (by decide) ?_
    exact kr _ _ _ _ _ _ (Option.some.inj h) dX4_leastDepth_22 hP hS
  · have h := jl_iff c_6 h
    refine lv_aload_n hx hb dX4_leastDepth_9 rfl (lv_at hl 0 rfl) ?_
    refine jx_g_X4_trial hx hb hts hiX4 hown hK hP hf28 dX4_leastDepth_10 ?_
    refine jx_g_X3_told hx hb hts hiX3 hown hK hP hf175 dX4_leastDepth_13 ?_
    refine lv_iload_n hx hb dX4_leastDepth_16 rfl (lv_at hl 1 rfl) ?_
    obtain ⟨i_17, h⟩ := jl_chk_o h
    refine jx_iaload hx hb hK hP rfl i_17 dX4_leastDepth_17 ?_
    refine lv_goto (tgt := 22) hx hb dX4_leastDepth_18 (by decide) ?_
    exact kr _ _ _ _ _ _ (Option.some.inj h) dX4_leastDepth_22 hP hS
theorem jc_X4_leastDepth {a1 : Int32} {z : Int32 × jl_Mem} (h : jf_X4_leastDepth a1 M = some z) : Met l yX4_leastDepth wsX4_leastDepth ({ frames := 1, cells := 0, slots := 0, locals := 22 }) (va_Pc [.ref (B 0), .int a1] (jx_U D cI cT B M)) (va_Qi (fun (q : Int32) (_ : Unit) => q = z.1) (fun _ t => va_P D vwCl (jx_w cI cT B z.2) t.heap) (jx_A B)) 0 0 (jx_A B) := by
  refine Met.ofW (cc := cX4_leastDepth) (maxL := 2) (ret := (some .int)) (by decide) rfl ?_
  intro p e s m args below meth c s1 BB hml hv
  obtain ⟨rfl, hK, hP, hB, hN⟩ := hv
  have hl := lv_entry ([.ref (B 0), .int a1]) (n := 2) (Nat.le_of_ble_eq_true rfl)
  rw [lg_entry_eq]
  generalize (lg_sl ([.ref (B 0), .int a1]) ++ List.replicate (2 - (lg_sl ([.ref (B 0), .int a1])).length) Slot.unset).toArray = ls at hl ⊢
  exact jb_X4_leastDepth BB.exec BB.bytes hml (findClass_of_methodNamed BB.named) (atoms_spec (ws := wsX4_leastDepth) BB.pre) hK hB hN (Nat.le_refl _) (Nat.le_refl _) h (fun v M1 H locs pc ls e1 hd hP hS => W.iret BB.exec BB.bytes BB.returns (fun t ht hW => ⟨⟨_, (), rfl, by rw [← e1], by show va_P D vwCl (jx_w cI cT B z.2) t.heap; rw [ht, ← e1]; exact hP⟩, hS.F ht⟩) hS.2.2 hd BB.notSynchronized) hP va_S.rf hl
end
section
variable {p : Program} {l : Launch} {e : Env} {R : Room} {s : State} {m : MethodId} {args : Array Value} {below : List Frame} {meth : Method} {c : Code} {H : Heap} {locs : List Loc} {Q : State → Prop} {ls : Array Slot} {D : va_G} {cI cT : ClassId} {B : Nat → Nat} {M : jl_Mem} {H0 : Heap}
set_option maxHeartbeats 4000000 in
set_option maxRecDepth 100000 in
theorem jb_X4_count (hx : p.tables.exec = Jvm.exec) (hb : c.code = cX4_count) (hml : c.maxLocals = 2) (hown : s.vm.findClass RX4 = some m.cls) (hts : ∀ w ∈ wsX4_count, w.before args s = true) (hK : va_K D vwCl (jx_ty cI cT) s) (hB : jx_inj B) (hN : jx_N s) (hRf : 1 ≤ R.frames) (hRl : 20 ≤ R.locals) {a1 : Int32} {z : Int32 × jl_Mem} (h : jf_X4_count a1 M = some z)
    (kr : ∀ (v : Int32) (M1 : jl_Mem) (H1 : Heap) (locs1 : List Loc) (pc1 : Nat) (ls1 : Array Slot), (v, M1) = z → decode cX4_count pc1 = .ok (.ireturn, 1) → va_P D vwCl (jx_w cI cT B M1) H1 → va_S (jx_A B) H0 H1 locs1 → W p l e R s m args below meth c H1 locs1 0 0 Q (F0 m pc1 ls1 [.int v]))
    (hP : va_P D vwCl (jx_w cI cT B M) H) (hS : va_S (jx_A B) H0 H locs) (hl : lv_has ls 2 [(0, .ref (B 0)), (1, .int a1)]) : W p l e R s m args below meth c H locs 0 0 Q (F0 m 0 ls []) := by
  unfold jf_X4_count at h
  have hiX4 : ∀ w ∈ wsX40, w ∈ wsX4_count := by decide +kernel
  have hiX0 : ∀ w ∈ wsX00, w ∈ wsX4_count := by decide +kernel
  have hiX1 : ∀ w ∈ wsX10, w ∈ wsX4_count := by decide +kernel
  have hf10 := hts (.fieldLink RX4 10 "JudgesLists" "board" "LJudgesLists$Board;") (by decide +kernel)
  have hf32 := hts (.fieldLink RX4 32 "JudgesLists$Board" "things" "I") (by decide +kernel)
  have hf44 := hts (.fieldLink RX4 44 "JudgesLists$Board" "lists" "I") (by decide +kernel)
  have hf178 := hts (.fieldLink RX4 178 "JudgesLists$Board" "markCount" "I") (by decide +kernel)
  have hf65 := hts (.fieldLink RX4 65 "JudgesLists$Board" "theRule" "I") (by decide +kernel)
  have hf21 := hts (.fieldLink RX4 21 "JudgesLists" "reader" "LJudgesLists$Reader;") (by decide +kernel)
  have hf36 := hts (.fieldLink RX4 36 "JudgesLists$Reader" "there" "Z") (by decide +kernel)
  refine lv_iload_n hx hb dX4_count_0 rfl (lv_at hl 1 rfl) ?_
  rcases Decidable.em (a1 = 0) with c0_1 | c0_1
  · have h := jl_ift c0_1 h
    refine lv_tableIn (tgt := 36) (off := 35) hx hb dX4_count_1 (by rw [c0_1]; decide) (by rw [c0_1]; decide) (by rw [c0_1]; rfl) (by decide) ?_
    refine lv_aload_n hx hb dX4_count_36 rfl (lv_at hl 0 rfl) ?_
    refine jx_g_X4_board hx hb hts hiX4 hown hK hP hf10 dX4_count_37 ?_
    refine jx_g_X0_things hx hb hts hiX0 hown hK hP hf32 dX4_count_40 ?_
    exact kr _ _ _ _ _ _ (Option.some.inj h) dX4_count_43 hP hS
  · have h := jl_iff c0_1 h
    rcases Decidable.em (a1 = 1) with c1_1 | c1_1
    · have h := jl_ift c1_1 h
      refine lv_tableIn (tgt := 44) (off := 43) hx hb dX4_count_1 (by rw [c1_1]; decide) (by rw [c1_1]; decide) (by rw [c1_1]; rfl) (by decide) ?_
      refine lv_aload_n hx hb dX4_count_44 rfl (lv_at hl 0 rfl) ?_
      refine jx_g_X4_board hx hb hts hiX4 hown hK hP hf10 dX4_count_45 ?_
      refine jx_g_X0_lists hx hb hts hiX0 hown hK hP hf44 dX4_count_48 ?_
      exact kr _ _ _ _ _ _ (Option.some.inj h) dX4_count_51 hP hS
    · have h := jl_iff c1_1 h
      rcases Decidable.em (a1 = 2) with c2_1 | c2_1
      · have h := jl_ift c2_1 h
        refine lv_tableIn (tgt := 52) (off := 51) hx hb dX4_count_1 (by rw [c2_1]; decide) (by rw [c2_1]; decide) (by rw [c2_1]; rfl) (by decide) ?_
        refine lv_aload_n hx hb dX4_count_52 rfl (lv_at hl 0 rfl) ?_
        refine jx_g_X4_board hx hb hts hiX4 hown hK hP hf10 dX4_count_53 ?_
        refine jx_g_X0_markCount hx hb hts hiX0 hown hK hP hf178 dX4_count_56 ?_
        exact kr _ _ _ _ _ _ (Option.some.inj h) dX4_count_59 hP hS
      · have h := jl_iff c2_1 h
        rcases Decidable.em (a1 = 3) with c3_1 | c3_1
        · have h := jl_ift c3_1 h
          refine lv_tableIn (tgt := 60) (off := 59) hx hb dX4_count_1 (by rw [c3_1]; decide) (by rw [c3_1]; decide) (by rw [c3_1]; rfl) (by decide) ?_
          refine lv_aload_n hx hb dX4_count_60 rfl (lv_at hl 0 rfl) ?_
          refine jx_g_X4_board hx hb hts hiX4 hown hK hP hf10 dX4_count_61 ?_
          refine jx_g_X0_theRule hx hb hts hiX0 hown hK hP hf65 dX4_count_64 ?_
          exact kr _ _ _ _ _ _ (Option.some.inj h) dX4_count_67 hP hS
        · have h := jl_iff c3_1 h
          rcases Decidable.em (a1 = 4) with c4_1 | c4_1
          · have h := jl_ift c4_1 h
            refine lv_tableIn (tgt := 68) (off := 67) hx hb dX4_count_1 (by rw [c4_1]; decide) (by rw [c4_1]; decide) (by rw [c4_1]; rfl) (by decide) ?_
            refine lv_aload_n hx hb dX4_count_68 rfl (lv_at hl 0 rfl) ?_
            refine jx_g_X4_reader hx hb hts hiX4 hown hK hP hf21 dX4_count_69 ?_
            refine jx_g_X1_there hx hb hts hiX1 hown hK hP hf36 dX4_count_72 ?_
            obtain ⟨r_75, M_75, hc_75, h⟩ := jl_bnd_o h
            refine jx_callSi (As := [.int (M 23 2)]) (rest := []) ⟨hx, hb, hml, hown, hts⟩ (jc_X4_yes hc_75) (va_cwS 1 hts gX4_count_X4_yes rfl rfl rfl (by decide +kernel) ⟨Nat.le_trans (by decide) hRf, Nat.le_trans (by decide) hRl⟩) hK hB hN hP hS rfl dX4_count_75 rfl hl.1 (Nat.le_of_ble_eq_true rfl) ⟨Nat.zero_le _, Nat.zero_le _⟩ (fun H locs hP hS => ?_)
            exact kr _ _ _ _ _ _ (Option.some.inj h) dX4_count_78 hP hS
          · have h := jl_iff c4_1 h
            have hd : (a1).toInt < 0 ∨ ((5 : Nat) : Int) - 1 < (a1).toInt := jl_tab 5 (by decide) (fun k hk => match k, hk with
              | 0, _ => c0_1
              | 1, _ => c1_1
              | 2, _ => c2_1
              | 3, _ => c3_1
              | 4, _ => c4_1
              | k + 5, hk => absurd hk (by omega))
            refine lv_tableOut (tgt := 79) hx hb dX4_count_1 (hd.imp id (fun q => by omega)) (by decide) ?_
            refine lv_iconst (v := (-1)) hx hb dX4_count_79 (by decide) ?_
            exact kr _ _ _ _ _ _ (Option.some.inj h) dX4_count_80 hP hS
theorem jc_X4_count {a1 : Int32} {z : Int32 × jl_Mem} (h : jf_X4_count a1 M = some z) : Met l yX4_count wsX4_count ({ frames := 1, cells := 0, slots := 0, locals := 20 }) (va_Pc [.ref (B 0), .int a1] (jx_U D cI cT B M)) (va_Qi (fun (q : Int32) (_ : Unit) => q = z.1) (fun _ t => va_P D vwCl (jx_w cI cT B z.2) t.heap) (jx_A B)) 0 0 (jx_A B) := by
  refine Met.ofW (cc := cX4_count) (maxL := 2) (ret := (some .int)) (by decide) rfl ?_
  intro p e s m args below meth c s1 BB hml hv
  obtain ⟨rfl, hK, hP, hB, hN⟩ := hv
  have hl := lv_entry ([.ref (B 0), .int a1]) (n := 2) (Nat.le_of_ble_eq_true rfl)
  rw [lg_entry_eq]
  generalize (lg_sl ([.ref (B 0), .int a1]) ++ List.replicate (2 - (lg_sl ([.ref (B 0), .int a1])).length) Slot.unset).toArray = ls at hl ⊢
  exact jb_X4_count BB.exec BB.bytes hml (findClass_of_methodNamed BB.named) (atoms_spec (ws := wsX4_count) BB.pre) hK hB hN (Nat.le_refl _) (Nat.le_refl _) h (fun v M1 H locs pc ls e1 hd hP hS => W.iret BB.exec BB.bytes BB.returns (fun t ht hW => ⟨⟨_, (), rfl, by rw [← e1], by show va_P D vwCl (jx_w cI cT B z.2) t.heap; rw [ht, ← e1]; exact hP⟩, hS.F ht⟩) hS.2.2 hd BB.notSynchronized) hP va_S.rf hl
end
