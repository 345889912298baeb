section
variable {p : Program} {l : Launch} {e : Env} {R : Room} {s : State} {m : MethodId} {args : Array Value} {below : List Frame} {meth : Method} {c : Code} {H : Heap} {locs : List Loc} {Q : State → Prop} {ls : Array Slot} {D : va_G} {cI cT : ClassId} {B : Nat → Nat} {M : jl_Mem} {H0 : Heap}
set_option maxHeartbeats 4000000 in
set_option maxRecDepth 100000 in
theorem jb_X3_isEnough (hx : p.tables.exec = Jvm.exec) (hb : c.code = cX3_isEnough) (hml : c.maxLocals = 6) (hown : s.vm.findClass RX3 = some m.cls) (hts : ∀ w ∈ wsX3_isEnough, w.before args s = true) (hK : va_K D vwCl (jx_ty cI cT) s) (hB : jx_inj B) (hN : jx_N s) (hRf : 4 ≤ R.frames) (hRl : 92 ≤ R.locals) {a1 : Int32} {a2 : Int32} {a3 : Int32} {a4 : Int32} {a5 : Int32} {z : Int32 × jl_Mem} (h : jf_X3_isEnough a1 a2 a3 a4 a5 M = some z)
    (kr : ∀ (v : Int32) (M1 : jl_Mem) (H1 : Heap) (locs1 : List Loc) (pc1 : Nat) (ls1 : Array Slot), (v, M1) = z → jl_isB v = true → decode cX3_isEnough pc1 = .ok (.ireturn, 1) → va_P D vwCl (jx_w cI cT B M1) H1 → va_S (jx_A B) H0 H1 locs1 → W p l e R s m args below meth c H1 locs1 0 0 Q (F0 m pc1 ls1 [.int v]))
    (hP : va_P D vwCl (jx_w cI cT B M) H) (hS : va_S (jx_A B) H0 H locs) (hl : lv_has ls 6 [(0, .ref (B 29)), (1, .int a1), (2, .int a2), (3, .int a3), (4, .int a4), (5, .int a5)]) : W p l e R s m args below meth c H locs 0 0 Q (F0 m 0 ls []) := by
  unfold jf_X3_isEnough at h
  have hiX3 : ∀ w ∈ wsX30, w ∈ wsX3_isEnough := by decide +kernel
  have hiX2 : ∀ w ∈ wsX20, w ∈ wsX3_isEnough := by decide +kernel
  have hf24 := hts (.fieldLink RX3 24 "JudgesLists$Trial" "sight" "LJudgesLists$Sight;") (by decide +kernel)
  have hf28 := hts (.fieldLink RX3 28 "JudgesLists$Sight" "depths" "[I") (by decide +kernel)
  refine lv_aload_n hx hb dX3_isEnough_0 rfl (lv_at hl 0 rfl) ?_
  refine jx_g_X3_sight hx hb hts hiX3 hown hK hP hf24 dX3_isEnough_1 ?_
  refine jx_g_X2_depths hx hb hts hiX2 hown hK hP (ts := 30) (Or.inr rfl) hf28 dX3_isEnough_4 ?_
  refine lv_iconst (v := 0) hx hb dX3_isEnough_7 (by decide) ?_
  refine lv_iload_n hx hb dX3_isEnough_8 rfl (lv_at hl 2 rfl) ?_
  obtain ⟨i_9, h⟩ := jl_chk_o h
  refine jx_iastore hx hb hK hB hP hS rfl i_9 dX3_isEnough_9 (fun M_9 H locs eM_9 hP hS => ?_)
  have h := jl_lt_o h eM_9
  refine lv_aload_n hx hb dX3_isEnough_10 rfl (lv_at hl 0 rfl) ?_
  refine jx_g_X3_sight hx hb hts hiX3 hown hK hP hf24 dX3_isEnough_11 ?_
  refine jx_g_X2_depths hx hb hts hiX2 hown hK hP (ts := 30) (Or.inr rfl) hf28 dX3_isEnough_14 ?_
  refine lv_iconst (v := 1) hx hb dX3_isEnough_17 (by decide) ?_
  refine lv_iload_n hx hb dX3_isEnough_18 rfl (lv_at hl 3 rfl) ?_
  obtain ⟨i_19, h⟩ := jl_chk_o h
  refine jx_iastore hx hb hK hB hP hS rfl i_19 dX3_isEnough_19 (fun M_19 H locs eM_19 hP hS => ?_)
  have h := jl_lt_o h eM_19
  refine lv_aload_n hx hb dX3_isEnough_20 rfl (lv_at hl 0 rfl) ?_
  refine jx_g_X3_sight hx hb hts hiX3 hown hK hP hf24 dX3_isEnough_21 ?_
  refine jx_g_X2_depths hx hb hts hiX2 hown hK hP (ts := 30) (Or.inr rfl) hf28 dX3_isEnough_24 ?_
  refine lv_iconst (v := 2) hx hb dX3_isEnough_27 (by decide) ?_
  refine lv_iload hx hb dX3_isEnough_28 (lv_at hl 4 rfl) ?_
  obtain ⟨i_30, h⟩ := jl_chk_o h
  refine jx_iastore hx hb hK hB hP hS rfl i_30 dX3_isEnough_30 (fun M_30 H locs eM_30 hP hS => ?_)
  have h := jl_lt_o h eM_30
  refine lv_aload_n hx hb dX3_isEnough_31 rfl (lv_at hl 0 rfl) ?_
  refine jx_g_X3_sight hx hb hts hiX3 hown hK hP hf24 dX3_isEnough_32 ?_
  refine jx_g_X2_depths hx hb hts hiX2 hown hK hP (ts := 30) (Or.inr rfl) hf28 dX3_isEnough_35 ?_
  refine lv_iconst (v := 3) hx hb dX3_isEnough_38 (by decide) ?_
  refine lv_iload hx hb dX3_isEnough_39 (lv_at hl 5 rfl) ?_
  obtain ⟨i_41, h⟩ := jl_chk_o h
  refine jx_iastore hx hb hK hB hP hS rfl i_41 dX3_isEnough_41 (fun M_41 H locs eM_41 hP hS => ?_)
  have h := jl_lt_o h eM_41
  refine lv_aload_n hx hb dX3_isEnough_42 rfl (lv_at hl 0 rfl) ?_
  refine jx_g_X3_sight hx hb hts hiX3 hown hK hP hf24 dX3_isEnough_43 ?_
  refine lv_iload_n hx hb dX3_isEnough_46 rfl (lv_at hl 1 rfl) ?_
  obtain ⟨r_47, M_47, hc_47, h⟩ := jl_bnd_o h
  refine jx_callVi (As := [.int a1]) (rest := []) ⟨hx, hb, hml, hown, hts⟩ (jc_X2_isSure (ts := 30) (Or.inr rfl) hc_47) (cwV 1 hts gX3_isEnough_X2_isSure rfl rfl rfl (by decide +kernel) ⟨Nat.le_trans (by decide) hRf, Nat.le_trans (by decide) hRl⟩) (jx_rv_X2 hK hP (ts := 30) (Or.inr rfl)) hK hB hN hP hS rfl dX3_isEnough_47 rfl hl.1 (Nat.le_of_ble_eq_true rfl) ⟨Nat.zero_le _, Nat.zero_le _⟩ (fun H locs hP hS => ?_)
  obtain ⟨i_50, h⟩ := jl_chk_o h
  exact kr _ _ _ _ _ _ (Option.some.inj h) i_50 dX3_isEnough_50 hP hS
theorem jc_X3_isEnough {a1 : Int32} {a2 : Int32} {a3 : Int32} {a4 : Int32} {a5 : Int32} {z : Int32 × jl_Mem} (h : jf_X3_isEnough a1 a2 a3 a4 a5 M = some z) : Met l yX3_isEnough wsX3_isEnough ({ frames := 4, cells := 0, slots := 0, locals := 92 }) (va_Pc [.ref (B 29), .int a1, .int a2, .int a3, .int a4, .int a5] (jx_U D cI cT B M)) (va_Qi (fun (q : Int32) (_ : Unit) => q = z.1) (fun _ t => va_P D vwCl (jx_w cI cT B z.2) t.heap) (jx_A B)) 0 0 (jx_A B) := by
  refine Met.ofW (cc := cX3_isEnough) (maxL := 6) (ret := (some .boolean)) (by decide) rfl ?_
  intro p e s m args below meth c s1 BB hml hv
  obtain ⟨rfl, hK, hP, hB, hN⟩ := hv
  have hl := lv_entry ([.ref (B 29), .int a1, .int a2, .int a3, .int a4, .int a5]) (n := 6) (Nat.le_of_ble_eq_true rfl)
  rw [lg_entry_eq]
  generalize (lg_sl ([.ref (B 29), .int a1, .int a2, .int a3, .int a4, .int a5]) ++ List.replicate (6 - (lg_sl ([.ref (B 29), .int a1, .int a2, .int a3, .int a4, .int a5])).length) Slot.unset).toArray = ls at hl ⊢
  exact jb_X3_isEnough BB.exec BB.bytes hml (findClass_of_methodNamed BB.named) (atoms_spec (ws := wsX3_isEnough) BB.pre) hK hB hN (Nat.le_refl _) (Nat.le_refl _) h (fun v M1 H locs pc ls e1 hz hd hP hS => W.zret BB.exec BB.bytes BB.returns (jl_nar hz) (fun t ht hW => ⟨⟨_, (), rfl, by rw [← e1], by show va_P D vwCl (jx_w cI cT B z.2) t.heap; rw [ht, ← e1]; exact hP⟩, hS.F ht⟩) hS.2.2 hd BB.notSynchronized) hP va_S.rf hl
end
section
variable {p : Program} {l : Launch} {e : Env} {R : Room} {s : State} {m : MethodId} {args : Array Value} {below : List Frame} {meth : Method} {c : Code} {H : Heap} {locs : List Loc} {Q : State → Prop} {ls : Array Slot} {D : va_G} {cI cT : ClassId} {B : Nat → Nat} {M : jl_Mem} {H0 : Heap}
set_option maxHeartbeats 4000000 in
set_option maxRecDepth 100000 in
theorem jb_X3_costOfDepths (hx : p.tables.exec = Jvm.exec) (hb : c.code = cX3_costOfDepths) (hml : c.maxLocals = 3) (hown : s.vm.findClass RX3 = some m.cls) (hts : ∀ w ∈ wsX3_costOfDepths, w.before args s = true) (hK : va_K D vwCl (jx_ty cI cT) s) (hB : jx_inj B) (hN : jx_N s) (hRf : 0 ≤ R.frames) (hRl : 0 ≤ R.locals) {z : Int32 × jl_Mem} (h : jf_X3_costOfDepths M = some z)
    (kr : ∀ (v : Int32) (M1 : jl_Mem) (H1 : Heap) (locs1 : List Loc) (pc1 : Nat) (ls1 : Array Slot), (v, M1) = z → decode cX3_costOfDepths pc1 = .ok (.ireturn, 1) → va_P D vwCl (jx_w cI cT B M1) H1 → va_S (jx_A B) H0 H1 locs1 → W p l e R s m args below meth c H1 locs1 0 0 Q (F0 m pc1 ls1 [.int v]))
    (hP : va_P D vwCl (jx_w cI cT B M) H) (hS : va_S (jx_A B) H0 H locs) (hl : lv_has ls 3 [(0, .ref (B 29))]) : W p l e R s m args below meth c H locs 0 0 Q (F0 m 0 ls []) := by
  unfold jf_X3_costOfDepths at h
  have hiX3 : ∀ w ∈ wsX30, w ∈ wsX3_costOfDepths := by decide +kernel
  have hiX0 : ∀ w ∈ wsX00, w ∈ wsX3_costOfDepths := by decide +kernel
  have hiX2 : ∀ w ∈ wsX20, w ∈ wsX3_costOfDepths := by decide +kernel
  have hf15 := hts (.fieldLink RX3 15 "JudgesLists$Trial" "board" "LJudgesLists$Board;") (by decide +kernel)
  have hf56 := hts (.fieldLink RX3 56 "JudgesLists$Board" "lists" "I") (by decide +kernel)
  have hf60 := hts (.fieldLink RX3 60 "JudgesLists$Board" "downs" "[I") (by decide +kernel)
  have hf24 := hts (.fieldLink RX3 24 "JudgesLists$Trial" "sight" "LJudgesLists$Sight;") (by decide +kernel)
  have hf28 := hts (.fieldLink RX3 28 "JudgesLists$Sight" "depths" "[I") (by decide +kernel)
  refine lv_iconst (v := 0) hx hb dX3_costOfDepths_0 (by decide) ?_
  refine lv_topi (fun x1_1 ex1_1 => ?_)
  have h := jl_lt_o h ex1_1
  refine lv_istore_n (lv' := [(1, .int x1_1), (0, .ref (B 29))]) hx hb dX3_costOfDepths_1 rfl hl (by decide) rfl (fun ls hl => ?_)
  refine lv_iconst (v := 0) hx hb dX3_costOfDepths_2 (by decide) ?_
  refine lv_topi (fun x2_3 ex2_3 => ?_)
  have h := jl_lt_o h ex2_3
  refine lv_istore_n (lv' := [(2, .int x2_3), (1, .int x1_1), (0, .ref (B 29))]) hx hb dX3_costOfDepths_3 rfl hl (by decide) rfl (fun ls hl => ?_)
  have k4 : ∀ (n4 : Nat) (x1L4 : Int32) (x2L4 : Int32) (ML4 : jl_Mem), jl_wh (fun q => jf_X3_costOfDepths_L4 q.1 q.2.1 q.2.2) n4 (x1L4, x2L4, ML4) = some z → ∀ (H : Heap) (locs : List Loc) (ls : Array Slot), va_P D vwCl (jx_w cI cT B ML4) H → va_S (jx_A B) H0 H locs → lv_has ls 3 [(0, .ref (B 29)), (1, .int x1L4), (2, .int x2L4)] → W p l e R s m args below meth c H locs 0 0 Q (F0 m 4 ls []) := by
    intro n4
    induction n4 with
    | zero => exact fun _ _ _ h => (jl_wh_0 h).elim
    | succ n4 ih4 =>
      intro x1L4 x2L4 ML4 h H locs ls hP hS hl
      obtain ⟨o4, h, hz4⟩ := jl_wh_s h
      replace h : jf_X3_costOfDepths_L4 x1L4 x2L4 ML4 = some o4 := h
      unfold jf_X3_costOfDepths_L4 at h
      refine lv_iload_n hx hb dX3_costOfDepths_4 rfl (lv_at hl 2 rfl) ?_
      refine lv_aload_n hx hb dX3_costOfDepths_5 rfl (lv_at hl 0 rfl) ?_
      refine jx_g_X3_board hx hb hts hiX3 hown hK hP hf15 dX3_costOfDepths_6 ?_
      refine jx_g_X0_lists hx hb hts hiX0 hown hK hP hf56 dX3_costOfDepths_9 ?_
      refine lv_icmp_ge (tgt := 43) hx hb dX3_costOfDepths_12 (by decide) (fun c_12 => ?_) (fun c_12 => ?_)
      · have h := jl_ift c_12 h
        have h := jl_ex_o h hz4
        refine lv_iload_n hx hb dX3_costOfDepths_43 rfl (lv_at hl 1 rfl) ?_
        exact kr _ _ _ _ _ _ (Option.some.inj h) dX3_costOfDepths_44 hP hS
      · have h := jl_iff c_12 h
        refine lv_iload_n hx hb dX3_costOfDepths_15 rfl (lv_at hl 1 rfl) ?_
        refine lv_aload_n hx hb dX3_costOfDepths_16 rfl (lv_at hl 0 rfl) ?_
        refine jx_g_X3_board hx hb hts hiX3 hown hK hP hf15 dX3_costOfDepths_17 ?_
        refine jx_g_X0_downs hx hb hts hiX0 hown hK hP hf60 dX3_costOfDepths_20 ?_
        refine lv_iload_n hx hb dX3_costOfDepths_23 rfl (lv_at hl 2 rfl) ?_
        obtain ⟨i_24, h⟩ := jl_chk_o h
        refine jx_iaload hx hb hK hP rfl i_24 dX3_costOfDepths_24 ?_
        refine lv_aload_n hx hb dX3_costOfDepths_25 rfl (lv_at hl 0 rfl) ?_
        refine jx_g_X3_sight hx hb hts hiX3 hown hK hP hf24 dX3_costOfDepths_26 ?_
        refine jx_g_X2_depths hx hb hts hiX2 hown hK hP (ts := 30) (Or.inr rfl) hf28 dX3_costOfDepths_29 ?_
        refine lv_iload_n hx hb dX3_costOfDepths_32 rfl (lv_at hl 2 rfl) ?_
        refine jx_iaload hx hb hK hP rfl i_24 dX3_costOfDepths_33 ?_
        refine lv_imul hx hb dX3_costOfDepths_34 ?_
        refine lv_iadd hx hb dX3_costOfDepths_35 ?_
        refine lv_topi (fun x1_36 ex1_36 => ?_)
        have h := jl_lt_o h ex1_36
        refine lv_istore_n (lv' := [(1, .int x1_36), (0, .ref (B 29)), (2, .int x2L4)]) hx hb dX3_costOfDepths_36 rfl hl (by decide) rfl (fun ls hl => ?_)
        obtain ⟨x2_37, ex2_37⟩ : ∃ y : Int32, y = x2L4 + 1 := ⟨_, rfl⟩
        have h := jl_lt_o h ex2_37
        refine lv_iinc (v := x2_37) (lv' := [(2, .int x2_37), (1, .int x1_36), (0, .ref (B 29))]) hx hb dX3_costOfDepths_37 hl (k := 2) rfl (by rw [ex2_37]; rfl) (by decide) rfl (fun ls hl => ?_)
        refine lv_goto (tgt := 4) hx hb dX3_costOfDepths_40 (by decide) ?_
        exact ih4 _ _ _ (jl_L (Option.some.inj h) hz4) _ _ _ hP hS (lv_sub hl [2, 1, 0] rfl)
  exact k4 _ _ _ _ h _ _ _ hP hS (lv_sub hl [2, 1, 0] rfl)
theorem jc_X3_costOfDepths {z : Int32 × jl_Mem} (h : jf_X3_costOfDepths M = some z) : Met l yX3_costOfDepths wsX3_costOfDepths ({ frames := 0, cells := 0, slots := 0, locals := 0 }) (va_Pc [.ref (B 29)] (jx_U D cI cT B M)) (va_Qi (fun (q : Int32) (_ : Unit) => q = z.1) (fun _ t => va_P D vwCl (jx_w cI cT B z.2) t.heap) (jx_A B)) 0 0 (jx_A B) := by
  refine Met.ofW (cc := cX3_costOfDepths) (maxL := 3) (ret := (some .int)) (by decide) rfl ?_
  intro p e s m args below meth c s1 BB hml hv
  obtain ⟨rfl, hK, hP, hB, hN⟩ := hv
  have hl := lv_entry ([.ref (B 29)]) (n := 3) (Nat.le_of_ble_eq_true rfl)
  rw [lg_entry_eq]
  generalize (lg_sl ([.ref (B 29)]) ++ List.replicate (3 - (lg_sl ([.ref (B 29)])).length) Slot.unset).toArray = ls at hl ⊢
  exact jb_X3_costOfDepths BB.exec BB.bytes hml (findClass_of_methodNamed BB.named) (atoms_spec (ws := wsX3_costOfDepths) BB.pre) hK hB hN (Nat.le_refl _) (Nat.le_refl _) h (fun v M1 H locs pc ls e1 hd hP hS => W.iret BB.exec BB.bytes BB.returns (fun t ht hW => ⟨⟨_, (), rfl, by rw [← e1], by show va_P D vwCl (jx_w cI cT B z.2) t.heap; rw [ht, ← e1]; exact hP⟩, hS.F ht⟩) hS.2.2 hd BB.notSynchronized) hP va_S.rf hl
end
section
variable {p : Program} {l : Launch} {e : Env} {R : Room} {s : State} {m : MethodId} {args : Array Value} {below : List Frame} {meth : Method} {c : Code} {H : Heap} {locs : List Loc} {Q : State → Prop} {ls : Array Slot} {D : va_G} {cI cT : ClassId} {B : Nat → Nat} {M : jl_Mem} {H0 : Heap}
set_option maxHeartbeats 4000000 in
set_option maxRecDepth 100000 in
theorem jb_X3_goToNextDepths (hx : p.tables.exec = Jvm.exec) (hb : c.code = cX3_goToNextDepths) (hml : c.maxLocals = 2) (hown : s.vm.findClass RX3 = some m.cls) (hts : ∀ w ∈ wsX3_goToNextDepths, w.before args s = true) (hK : va_K D vwCl (jx_ty cI cT) s) (hB : jx_inj B) (hN : jx_N s) (hRf : 1 ≤ R.frames) (hRl : 21 ≤ R.locals) {z : Int32 × jl_Mem} (h : jf_X3_goToNextDepths M = some z)
    (kr : ∀ (M1 : jl_Mem) (H1 : Heap) (locs1 : List Loc) (pc1 : Nat) (ls1 : Array Slot), (0, M1) = z → decode cX3_goToNextDepths pc1 = .ok (.return_, 1) → va_P D vwCl (jx_w cI cT B M1) H1 → va_S (jx_A B) H0 H1 locs1 → W p l e R s m args below meth c H1 locs1 0 0 Q (F0 m pc1 ls1 []))
    (hP : va_P D vwCl (jx_w cI cT B M) H) (hS : va_S (jx_A B) H0 H locs) (hl : lv_has ls 2 [(0, .ref (B 29))]) : W p l e R s m args below meth c H locs 0 0 Q (F0 m 0 ls []) := by
  unfold jf_X3_goToNextDepths at h
  have hiX3 : ∀ w ∈ wsX30, w ∈ wsX3_goToNextDepths := by decide +kernel
  have hiX0 : ∀ w ∈ wsX00, w ∈ wsX3_goToNextDepths := by decide +kernel
  have hiX2 : ∀ w ∈ wsX20, w ∈ wsX3_goToNextDepths := by decide +kernel
  have hf15 := hts (.fieldLink RX3 15 "JudgesLists$Trial" "board" "LJudgesLists$Board;") (by decide +kernel)
  have hf56 := hts (.fieldLink RX3 56 "JudgesLists$Board" "lists" "I") (by decide +kernel)
  have hf24 := hts (.fieldLink RX3 24 "JudgesLists$Trial" "sight" "LJudgesLists$Sight;") (by decide +kernel)
  have hf28 := hts (.fieldLink RX3 28 "JudgesLists$Sight" "depths" "[I") (by decide +kernel)
  refine lv_aload_n hx hb dX3_goToNextDepths_0 rfl (lv_at hl 0 rfl) ?_
  refine jx_g_X3_board hx hb hts hiX3 hown hK hP hf15 dX3_goToNextDepths_1 ?_
  refine jx_g_X0_lists hx hb hts hiX0 hown hK hP hf56 dX3_goToNextDepths_4 ?_
  refine lv_iconst (v := 1) hx hb dX3_goToNextDepths_7 (by decide) ?_
  refine lv_isub hx hb dX3_goToNextDepths_8 ?_
  refine lv_topi (fun x1_9 ex1_9 => ?_)
  have h := jl_lt_o h ex1_9
  refine lv_istore_n (lv' := [(1, .int x1_9), (0, .ref (B 29))]) hx hb dX3_goToNextDepths_9 rfl hl (by decide) rfl (fun ls hl => ?_)
  have k10 : ∀ (n10 : Nat) (x1L10 : Int32) (ML10 : jl_Mem), jl_wh (fun q => jf_X3_goToNextDepths_L10 q.1 q.2) n10 (x1L10, ML10) = some z → ∀ (H : Heap) (locs : List Loc) (ls : Array Slot), va_P D vwCl (jx_w cI cT B ML10) H → va_S (jx_A B) H0 H locs → lv_has ls 2 [(0, .ref (B 29)), (1, .int x1L10)] → W p l e R s m args below meth c H locs 0 0 Q (F0 m 10 ls []) := by
    intro n10
    induction n10 with
    | zero => exact fun _ _ h => (jl_wh_0 h).elim
    | succ n10 ih10 =>
      intro x1L10 ML10 h H locs ls hP hS hl
      obtain ⟨o10, h, hz10⟩ := jl_wh_s h
      replace h : jf_X3_goToNextDepths_L10 x1L10 ML10 = some o10 := h
      unfold jf_X3_goToNextDepths_L10 at h
      refine lv_iload_n hx hb dX3_goToNextDepths_10 rfl (lv_at hl 1 rfl) ?_
      refine lv_if_lt (tgt := 55) hx hb dX3_goToNextDepths_11 (by decide) (fun c_11 => ?_) (fun c_11 => ?_)
      · have h := jl_ift c_11 h
        have h := jl_ex_o h hz10
        exact kr _ _ _ _ _ (Option.some.inj h) dX3_goToNextDepths_55 hP hS
      · have h := jl_iff c_11 h
        refine lv_aload_n hx hb dX3_goToNextDepths_14 rfl (lv_at hl 0 rfl) ?_
        refine jx_g_X3_sight hx hb hts hiX3 hown hK hP hf24 dX3_goToNextDepths_15 ?_
        refine lv_iload_n hx hb dX3_goToNextDepths_18 rfl (lv_at hl 1 rfl) ?_
        obtain ⟨r_19, M_19, hc_19, h⟩ := jl_bnd_o h
        refine jx_callVi (As := [.int x1L10]) (rest := []) ⟨hx, hb, hml, hown, hts⟩ (jc_X2_isWhole (ts := 30) (Or.inr rfl) hc_19) (cwV 1 hts gX3_goToNextDepths_X2_isWhole rfl rfl rfl (by decide +kernel) ⟨Nat.le_trans (by decide) hRf, Nat.le_trans (by decide) hRl⟩) (jx_rv_X2 hK hP (ts := 30) (Or.inr rfl)) hK hB hN hP hS rfl dX3_goToNextDepths_19 rfl hl.1 (Nat.le_of_ble_eq_true rfl) ⟨Nat.zero_le _, Nat.zero_le _⟩ (fun H locs hP hS => ?_)
        refine lv_if_ne (tgt := 39) hx hb dX3_goToNextDepths_22 (by decide) (fun c_22 => ?_) (fun c_22 => ?_)
        · have h := jl_iff c_22 h
          refine lv_aload_n hx hb dX3_goToNextDepths_39 rfl (lv_at hl 0 rfl) ?_
          refine jx_g_X3_sight hx hb hts hiX3 hown hK hP hf24 dX3_goToNextDepths_40 ?_
          refine jx_g_X2_depths hx hb hts hiX2 hown hK hP (ts := 30) (Or.inr rfl) hf28 dX3_goToNextDepths_43 ?_
          refine lv_iload_n hx hb dX3_goToNextDepths_46 rfl (lv_at hl 1 rfl) ?_
          refine lv_iconst (v := 0) hx hb dX3_goToNextDepths_47 (by decide) ?_
          obtain ⟨i_48, h⟩ := jl_chk_o h
          refine jx_iastore hx hb hK hB hP hS rfl i_48 dX3_goToNextDepths_48 (fun M_48 H locs eM_48 hP hS => ?_)
          have h := jl_lt_o h eM_48
          obtain ⟨x1_49, ex1_49⟩ : ∃ y : Int32, y = x1L10 + (-1) := ⟨_, rfl⟩
          have h := jl_lt_o h ex1_49
          refine lv_iinc (v := x1_49) (lv' := [(1, .int x1_49), (0, .ref (B 29))]) hx hb dX3_goToNextDepths_49 hl (k := 1) rfl (by rw [ex1_49]; rfl) (by decide) rfl (fun ls hl => ?_)
          refine lv_goto (tgt := 10) hx hb dX3_goToNextDepths_52 (by decide) ?_
          exact ih10 _ _ (jl_L (Option.some.inj h) hz10) _ _ _ hP hS (lv_sub hl [1, 0] rfl)
        · have h := jl_ift c_22 h
          have h := jl_ex_o h hz10
          refine lv_aload_n hx hb dX3_goToNextDepths_25 rfl (lv_at hl 0 rfl) ?_
          refine jx_g_X3_sight hx hb hts hiX3 hown hK hP hf24 dX3_goToNextDepths_26 ?_
          refine jx_g_X2_depths hx hb hts hiX2 hown hK hP (ts := 30) (Or.inr rfl) hf28 dX3_goToNextDepths_29 ?_
          refine lv_iload_n hx hb dX3_goToNextDepths_32 rfl (lv_at hl 1 rfl) ?_
          refine lv_dup2_11 hx hb dX3_goToNextDepths_33 rfl rfl ?_
          obtain ⟨i_34, h⟩ := jl_chk_o h
          refine jx_iaload hx hb hK hP rfl i_34 dX3_goToNextDepths_34 ?_
          refine lv_iconst (v := 1) hx hb dX3_goToNextDepths_35 (by decide) ?_
          refine lv_iadd hx hb dX3_goToNextDepths_36 ?_
          refine jx_iastore hx hb hK hB hP hS rfl i_34 dX3_goToNextDepths_37 (fun M_37 H locs eM_37 hP hS => ?_)
          have h := jl_lt_o h eM_37
          exact kr _ _ _ _ _ (Option.some.inj h) dX3_goToNextDepths_38 hP hS
  exact k10 _ _ _ h _ _ _ hP hS (lv_sub hl [1, 0] rfl)
theorem jc_X3_goToNextDepths {z : Int32 × jl_Mem} (h : jf_X3_goToNextDepths M = some z) : Met l yX3_goToNextDepths wsX3_goToNextDepths ({ frames := 1, cells := 0, slots := 0, locals := 21 }) (va_Pc [.ref (B 29)] (jx_U D cI cT B M)) (va_Qv (fun (_ : Unit) => True) (fun _ t => va_P D vwCl (jx_w cI cT B z.2) t.heap) (jx_A B)) 0 0 (jx_A B) := by
  refine Met.ofW (cc := cX3_goToNextDepths) (maxL := 2) (ret := none) (by decide) rfl ?_
  intro p e s m args below meth c s1 BB hml hv
  obtain ⟨rfl, hK, hP, hB, hN⟩ := hv
  have hl := lv_entry ([.ref (B 29)]) (n := 2) (Nat.le_of_ble_eq_true rfl)
  rw [lg_entry_eq]
  generalize (lg_sl ([.ref (B 29)]) ++ List.replicate (2 - (lg_sl ([.ref (B 29)])).length) Slot.unset).toArray = ls at hl ⊢
  exact jb_X3_goToNextDepths BB.exec BB.bytes hml (findClass_of_methodNamed BB.named) (atoms_spec (ws := wsX3_goToNextDepths) BB.pre) hK hB hN (Nat.le_refl _) (Nat.le_refl _) h (fun M1 H locs pc ls e1 hd hP hS => W.vret BB.exec BB.bytes BB.returns (fun t ht hW => ⟨⟨(), rfl, trivial, by show va_P D vwCl (jx_w cI cT B z.2) t.heap; rw [ht, ← e1]; exact hP⟩, hS.F ht⟩) hS.2.2 hd BB.notSynchronized) hP va_S.rf hl
end
section
variable {p : Program} {l : Launch} {e : Env} {R : Room} {s : State} {m : MethodId} {args : Array Value} {below : List Frame} {meth : Method} {c : Code} {H : Heap} {locs : List Loc} {Q : State → Prop} {ls : Array Slot} {D : va_G} {cI cT : ClassId} {B : Nat → Nat} {M : jl_Mem} {H0 : Heap}
set_option maxHeartbeats 4000000 in
set_option maxRecDepth 100000 in
theorem jb_X3_cheapest (hx : p.tables.exec = Jvm.exec) (hb : c.code = cX3_cheapest) (hml : c.maxLocals = 6) (hown : s.vm.findClass RX3 = some m.cls) (hts : ∀ w ∈ wsX3_cheapest, w.before args s = true) (hK : va_K D vwCl (jx_ty cI cT) s) (hB : jx_inj B) (hN : jx_N s) (hRf : 4 ≤ R.frames) (hRl : 92 ≤ R.locals) {a1 : Int32} {z : Int32 × jl_Mem} (h : jf_X3_cheapest a1 M = some z)
    (kr : ∀ (v : Int32) (M1 : jl_Mem) (H1 : Heap) (locs1 : List Loc) (pc1 : Nat) (ls1 : Array Slot), (v, M1) = z → decode cX3_cheapest pc1 = .ok (.ireturn, 1) → va_P D vwCl (jx_w cI cT B M1) H1 → va_S (jx_A B) H0 H1 locs1 → W p l e R s m args below meth c H1 locs1 0 0 Q (F0 m pc1 ls1 [.int v]))
    (hP : va_P D vwCl (jx_w cI cT B M) H) (hS : va_S (jx_A B) H0 H locs) (hl : lv_has ls 6 [(0, .ref (B 29)), (1, .int a1)]) : W p l e R s m args below meth c H locs 0 0 Q (F0 m 0 ls []) := by
  unfold jf_X3_cheapest at h
  have hiX3 : ∀ w ∈ wsX30, w ∈ wsX3_cheapest := by decide +kernel
  have hiX2 : ∀ w ∈ wsX20, w ∈ wsX3_cheapest := by decide +kernel
  have hf24 := hts (.fieldLink RX3 24 "JudgesLists$Trial" "sight" "LJudgesLists$Sight;") (by decide +kernel)
  have hf15 := hts (.fieldLink RX3 15 "JudgesLists$Trial" "board" "LJudgesLists$Board;") (by decide +kernel)
  have hf28 := hts (.fieldLink RX3 28 "JudgesLists$Sight" "depths" "[I") (by decide +kernel)
  have hf9 := hts (.fieldLink RX3 9 "JudgesLists$Trial" "told" "[I") (by decide +kernel)
  refine lv_aload_n hx hb dX3_cheapest_0 rfl (lv_at hl 0 rfl) ?_
  refine jx_g_X3_sight hx hb hts hiX3 hown hK hP hf24 dX3_cheapest_1 ?_
  obtain ⟨r_4, M_4, hc_4, h⟩ := jl_bnd_o h
  refine jx_callVv (As := []) (rest := []) ⟨hx, hb, hml, hown, hts⟩ (jc_X2_forget (ts := 30) (Or.inr rfl) hc_4) (cwV 0 hts gX3_cheapest_X2_forget rfl rfl rfl (by decide +kernel) ⟨Nat.le_trans (by decide) hRf, Nat.le_trans (by decide) hRl⟩) (jx_rv_X2 hK hP (ts := 30) (Or.inr rfl)) hK hB hN hP hS rfl dX3_cheapest_4 rfl hl.1 (Nat.le_of_ble_eq_true rfl) ⟨Nat.zero_le _, Nat.zero_le _⟩ (fun H locs hP hS => ?_)
  refine lv_aload_n hx hb dX3_cheapest_7 rfl (lv_at hl 0 rfl) ?_
  refine jx_g_X3_board hx hb hts hiX3 hown hK hP hf15 dX3_cheapest_8 ?_
  obtain ⟨r_11, M_11, hc_11, h⟩ := jl_bnd_o h
  refine jx_callVi (As := []) (rest := []) ⟨hx, hb, hml, hown, hts⟩ (jc_X0_depthRows hc_11) (cwV 0 hts gX3_cheapest_X0_depthRows rfl rfl rfl (by decide +kernel) ⟨Nat.le_trans (by decide) hRf, Nat.le_trans (by decide) hRl⟩) (jx_rv_X0 hK hP) hK hB hN hP hS rfl dX3_cheapest_11 rfl hl.1 (Nat.le_of_ble_eq_true rfl) ⟨Nat.zero_le _, Nat.zero_le _⟩ (fun H locs hP hS => ?_)
  refine lv_topi (fun x2_14 ex2_14 => ?_)
  have h := jl_lt_o h ex2_14
  refine lv_istore_n (lv' := [(2, .int x2_14), (0, .ref (B 29)), (1, .int a1)]) hx hb dX3_cheapest_14 rfl hl (by decide) rfl (fun ls hl => ?_)
  refine lv_iconst (v := (-1)) hx hb dX3_cheapest_15 (by decide) ?_
  refine lv_topi (fun x3_16 ex3_16 => ?_)
  have h := jl_lt_o h ex3_16
  refine lv_istore_n (lv' := [(3, .int x3_16), (2, .int x2_14), (0, .ref (B 29)), (1, .int a1)]) hx hb dX3_cheapest_16 rfl hl (by decide) rfl (fun ls hl => ?_)
  refine lv_iconst (v := 0) hx hb dX3_cheapest_17 (by decide) ?_
  refine lv_topi (fun x4_18 ex4_18 => ?_)
  have h := jl_lt_o h ex4_18
  refine lv_istore (lv' := [(4, .int x4_18), (3, .int x3_16), (2, .int x2_14), (0, .ref (B 29)), (1, .int a1)]) hx hb dX3_cheapest_18 hl (by decide) rfl (fun ls hl => ?_)
  have k20 : ∀ (n20 : Nat) (x3L20 : Int32) (x4L20 : Int32) (ML20 : jl_Mem), jl_wh (fun q => jf_X3_cheapest_L20 a1 x2_14 q.1 q.2.1 q.2.2) n20 (x3L20, x4L20, ML20) = some z → ∀ (H : Heap) (locs : List Loc) (ls : Array Slot), va_P D vwCl (jx_w cI cT B ML20) H → va_S (jx_A B) H0 H locs → lv_has ls 6 [(0, .ref (B 29)), (1, .int a1), (2, .int x2_14), (3, .int x3L20), (4, .int x4L20)] → W p l e R s m args below meth c H locs 0 0 Q (F0 m 20 ls []) := by
    intro n20
    induction n20 with
    | zero => exact fun _ _ _ h => (jl_wh_0 h).elim
    | succ n20 ih20 =>
      intro x3L20 x4L20 ML20 h H locs ls hP hS hl
      obtain ⟨o20, h, hz20⟩ := jl_wh_s h
      replace h : jf_X3_cheapest_L20 a1 x2_14 x3L20 x4L20 ML20 = some o20 := h
      unfold jf_X3_cheapest_L20 at h
      refine lv_iload hx hb dX3_cheapest_20 (lv_at hl 4 rfl) ?_
      refine lv_iload_n hx hb dX3_cheapest_22 rfl (lv_at hl 2 rfl) ?_
      refine lv_icmp_ge (tgt := 84) hx hb dX3_cheapest_23 (by decide) (fun c_23 => ?_) (fun c_23 => ?_)
      · have h := jl_ift c_23 h
        have h := jl_ex_o h hz20
        refine lv_iload_n hx hb dX3_cheapest_84 rfl (lv_at hl 3 rfl) ?_
        exact kr _ _ _ _ _ _ (Option.some.inj h) dX3_cheapest_85 hP hS
      · have h := jl_iff c_23 h
        refine lv_aload_n hx hb dX3_cheapest_26 rfl (lv_at hl 0 rfl) ?_
        obtain ⟨r_27, M_27, hc_27, h⟩ := jl_bnd_o h
        refine jx_callVi (As := []) (rest := []) ⟨hx, hb, hml, hown, hts⟩ (jc_X3_costOfDepths hc_27) (cwV 0 hts gX3_cheapest_X3_costOfDepths rfl rfl rfl (by decide +kernel) ⟨Nat.le_trans (by decide) hRf, Nat.le_trans (by decide) hRl⟩) (jx_rv_X3 hK hP) hK hB hN hP hS rfl dX3_cheapest_27 rfl hl.1 (Nat.le_of_ble_eq_true rfl) ⟨Nat.zero_le _, Nat.zero_le _⟩ (fun H locs hP hS => ?_)
        refine lv_topi (fun x5_30 ex5_30 => ?_)
        have h := jl_lt_o h ex5_30
        refine lv_istore (lv' := [(5, .int x5_30), (0, .ref (B 29)), (1, .int a1), (2, .int x2_14), (3, .int x3L20), (4, .int x4L20)]) hx hb dX3_cheapest_30 hl (by decide) rfl (fun ls hl => ?_)
        refine lv_iload_n hx hb dX3_cheapest_32 rfl (lv_at hl 4 rfl) ?_
        refine lv_iconst (v := (-1)) hx hb dX3_cheapest_33 (by decide) ?_
        refine lv_icmp_eq (tgt := 43) hx hb dX3_cheapest_34 (by decide) (fun c_34 => ?_) (fun c_34 => ?_)
        · have h := jl_ift c_34 h
          refine lv_aload_n hx hb dX3_cheapest_43 rfl (lv_at hl 1 rfl) ?_
          refine jx_g_X3_sight hx hb hts hiX3 hown hK hP hf24 dX3_cheapest_44 ?_
          refine lv_iload_n hx hb dX3_cheapest_47 rfl (lv_at hl 2 rfl) ?_
          obtain ⟨r_48, M_48, hc_48, h⟩ := jl_bnd_o h
          refine jx_callVi (As := [.int a1]) (rest := []) ⟨hx, hb, hml, hown, hts⟩ (jc_X2_isSure (ts := 30) (Or.inr rfl) hc_48) (cwV 1 hts gX3_cheapest_X2_isSure rfl rfl rfl (by decide +kernel) ⟨Nat.le_trans (by decide) hRf, Nat.le_trans (by decide) hRl⟩) (jx_rv_X2 hK hP (ts := 30) (Or.inr rfl)) hK hB hN hP hS rfl dX3_cheapest_48 rfl hl.1 (Nat.le_of_ble_eq_true rfl) ⟨Nat.zero_le _, Nat.zero_le _⟩ (fun H locs hP hS => ?_)
          refine lv_if_eq (tgt := 74) hx hb dX3_cheapest_51 (by decide) (fun c_51 => ?_) (fun c_51 => ?_)
          · have h := jl_ift c_51 h
            refine lv_aload_n hx hb dX3_cheapest_74 rfl (lv_at hl 1 rfl) ?_
            obtain ⟨r_75, M_75, hc_75, h⟩ := jl_bnd_o h
            refine jx_callVv (As := []) (rest := []) ⟨hx, hb, hml, hown, hts⟩ (jc_X3_goToNextDepths hc_75) (cwV 0 hts gX3_cheapest_X3_goToNextDepths rfl rfl rfl (by decide +kernel) ⟨Nat.le_trans (by decide) hRf, Nat.le_trans (by decide) hRl⟩) (jx_rv_X3 hK hP) hK hB hN hP hS rfl dX3_cheapest_75 rfl hl.1 (Nat.le_of_ble_eq_true rfl) ⟨Nat.zero_le _, Nat.zero_le _⟩ (fun H locs hP hS => ?_)
            obtain ⟨x4_78, ex4_78⟩ : ∃ y : Int32, y = x4L20 + 1 := ⟨_, rfl⟩
            have h := jl_lt_o h ex4_78
            refine lv_iinc (v := x4_78) (lv' := [(4, .int x4_78), (5, .int x5_30), (0, .ref (B 29)), (1, .int a1), (2, .int x2_14), (3, .int x3L20)]) hx hb dX3_cheapest_78 hl (k := 5) rfl (by rw [ex4_78]; rfl) (by decide) rfl (fun ls hl => ?_)
            refine lv_goto (tgt := 20) hx hb dX3_cheapest_81 (by decide) ?_
            exact ih20 _ _ _ (jl_L (Option.some.inj h) hz20) _ _ _ hP hS (lv_sub hl [2, 3, 4, 5, 0] rfl)
          · have h := jl_iff c_51 h
            refine lv_iload hx hb dX3_cheapest_54 (lv_at hl 0 rfl) ?_
            refine lv_topi (fun x3_56 ex3_56 => ?_)
            have h := jl_lt_o h ex3_56
            refine lv_istore_n (lv' := [(3, .int x3_56), (5, .int x5_30), (0, .ref (B 29)), (1, .int a1), (2, .int x2_14), (4, .int x4L20)]) hx hb dX3_cheapest_56 rfl hl (by decide) rfl (fun ls hl => ?_)
            refine lv_aload_n hx hb dX3_cheapest_57 rfl (lv_at hl 2 rfl) ?_
            refine jx_g_X3_sight hx hb hts hiX3 hown hK hP hf24 dX3_cheapest_58 ?_
            refine jx_g_X2_depths hx hb hts hiX2 hown hK hP (ts := 30) (Or.inr rfl) hf28 dX3_cheapest_61 ?_
            refine lv_iconst (v := 0) hx hb dX3_cheapest_64 (by decide) ?_
            refine lv_aload_n hx hb dX3_cheapest_65 rfl (lv_at hl 2 rfl) ?_
            refine jx_g_X3_told hx hb hts hiX3 hown hK hP hf9 dX3_cheapest_66 ?_
            refine lv_iconst (v := 0) hx hb dX3_cheapest_69 (by decide) ?_
            refine lv_iconst (v := 4) hx hb dX3_cheapest_70 (by decide) ?_
            refine va_copyi hx hb (hml.trans hl.1.symm) hown (hts (.methodLink RX3 47 arraycopyName) (by decide +kernel)) (hts (.native arraycopyName) (by decide +kernel)) (hts (.static arraycopyName) (by decide +kernel)) (hts (.initialized "java/lang/System") (by decide +kernel)) hK hP (jx_D hB) hS 31 35 0 0 (ty := .int) (jx_len_at (n := 4) rfl (by decide)) (jx_len_at (n := 4) rfl (by decide)) rfl rfl rfl (by decide) (by decide) (by decide) (by decide) (by decide) (fun _ _ => rfl) (Nat.le_trans (by decide) hRf) (Nat.le_trans (Nat.le_of_ble_eq_true rfl) hRl) dX3_cheapest_71 (fun H locs hP _ hS => ?_)
            obtain ⟨M_71, eM_71⟩ : ∃ y : jl_Mem, y = jl_sa M_48 35 (va_cpy (M_48 31) (M_48 35) 0 0 4) := ⟨_, rfl⟩
            have h := jl_lt_o h eM_71
            have hP : va_P D vwCl (jx_w cI cT B M_71) H := by
              rw [eM_71, ← jx_len_set (v := 35) (n := 4) rfl (by decide)]
              exact hP
            refine lv_aload_n hx hb dX3_cheapest_74 rfl (lv_at hl 2 rfl) ?_
            obtain ⟨r_75, M_75, hc_75, h⟩ := jl_bnd_o h
            refine jx_callVv (As := []) (rest := []) ⟨hx, hb, hml, hown, hts⟩ (jc_X3_goToNextDepths hc_75) (cwV 0 hts gX3_cheapest_X3_goToNextDepths rfl rfl rfl (by decide +kernel) ⟨Nat.le_trans (by decide) hRf, Nat.le_trans (by decide) hRl⟩) (jx_rv_X3 hK hP) hK hB hN hP hS rfl dX3_cheapest_75 rfl hl.1 (Nat.le_of_ble_eq_true rfl) ⟨Nat.zero_le _, Nat.zero_le _⟩ (fun H locs hP hS => ?_)
            obtain ⟨x4_78, ex4_78⟩ : ∃ y : Int32, y = x4L20 + 1 := ⟨_, rfl⟩
            have h := jl_lt_o h ex4_78
            refine lv_iinc (v := x4_78) (lv' := [(4, .int x4_78), (3, .int x3_56), (5, .int x5_30), (0, .ref (B 29)), (1, .int a1), (2, .int x2_14)]) hx hb dX3_cheapest_78 hl (k := 5) rfl (by rw [ex4_78]; rfl) (by decide) rfl (fun ls hl => ?_)
            refine lv_goto (tgt := 20) hx hb dX3_cheapest_81 (by decide) ?_
            exact ih20 _ _ _ (jl_L (Option.some.inj h) hz20) _ _ _ hP hS (lv_sub hl [3, 4, 5, 1, 0] rfl)
        · have h := jl_iff c_34 h
          refine lv_iload hx hb dX3_cheapest_37 (lv_at hl 0 rfl) ?_
          refine lv_iload_n hx hb dX3_cheapest_39 rfl (lv_at hl 4 rfl) ?_
          refine lv_icmp_ge (tgt := 74) hx hb dX3_cheapest_40 (by decide) (fun c_40 => ?_) (fun c_40 => ?_)
          · have h := jl_ift c_40 h
            refine lv_aload_n hx hb dX3_cheapest_74 rfl (lv_at hl 1 rfl) ?_
            obtain ⟨r_75, M_75, hc_75, h⟩ := jl_bnd_o h
            refine jx_callVv (As := []) (rest := []) ⟨hx, hb, hml, hown, hts⟩ (jc_X3_goToNextDepths hc_75) (cwV 0 hts gX3_cheapest_X3_goToNextDepths rfl rfl rfl (by decide +kernel) ⟨Nat.le_trans (by decide) hRf, Nat.le_trans (by decide) hRl⟩) (jx_rv_X3 hK hP) hK hB hN hP hS rfl dX3_cheapest_75 rfl hl.1 (Nat.le_of_ble_eq_true rfl) ⟨Nat.zero_le _, Nat.zero_le _⟩ (fun H locs hP hS => ?_)
            obtain ⟨x4_78, ex4_78⟩ : ∃ y : Int32, y = x4L20 + 1 := ⟨_, rfl⟩
            have h := jl_lt_o h ex4_78
            refine lv_iinc (v := x4_78) (lv' := [(4, .int x4_78), (5, .int x5_30), (0, .ref (B 29)), (1, .int a1), (2, .int x2_14), (3, .int x3L20)]) hx hb dX3_cheapest_78 hl (k := 5) rfl (by rw [ex4_78]; rfl) (by decide) rfl (fun ls hl => ?_)
            refine lv_goto (tgt := 20) hx hb dX3_cheapest_81 (by decide) ?_
            exact ih20 _ _ _ (jl_L (Option.some.inj h) hz20) _ _ _ hP hS (lv_sub hl [2, 3, 4, 5, 0] rfl)
          · have h := jl_iff c_40 h
            refine lv_aload_n hx hb dX3_cheapest_43 rfl (lv_at hl 1 rfl) ?_
            refine jx_g_X3_sight hx hb hts hiX3 hown hK hP hf24 dX3_cheapest_44 ?_
            refine lv_iload_n hx hb dX3_cheapest_47 rfl (lv_at hl 2 rfl) ?_
            obtain ⟨r_48, M_48, hc_48, h⟩ := jl_bnd_o h
            refine jx_callVi (As := [.int a1]) (rest := []) ⟨hx, hb, hml, hown, hts⟩ (jc_X2_isSure (ts := 30) (Or.inr rfl) hc_48) (cwV 1 hts gX3_cheapest_X2_isSure rfl rfl rfl (by decide +kernel) ⟨Nat.le_trans (by decide) hRf, Nat.le_trans (by decide) hRl⟩) (jx_rv_X2 hK hP (ts := 30) (Or.inr rfl)) hK hB hN hP hS rfl dX3_cheapest_48 rfl hl.1 (Nat.le_of_ble_eq_true rfl) ⟨Nat.zero_le _, Nat.zero_le _⟩ (fun H locs hP hS => ?_)
            refine lv_if_eq (tgt := 74) hx hb dX3_cheapest_51 (by decide) (fun c_51 => ?_) (fun c_51 => ?_)
            · have h := jl_ift c_51 h
              refine lv_aload_n hx hb dX3_cheapest_74 rfl (lv_at hl 1 rfl) ?_
              obtain ⟨r_75, M_75, hc_75, h⟩ := jl_bnd_o h
              refine jx_callVv (As := []) (rest := []) ⟨hx, hb, hml, hown, hts⟩ (jc_X3_goToNextDepths hc_75) (cwV 0 hts gX3_cheapest_X3_goToNextDepths rfl rfl rfl (by decide +kernel) ⟨Nat.le_trans (by decide) hRf, Nat.le_trans (by decide) hRl⟩) (jx_rv_X3 hK hP) hK hB hN hP hS rfl dX3_cheapest_75 rfl hl.1 (Nat.le_of_ble_eq_true rfl) ⟨Nat.zero_le _, Nat.zero_le _⟩ (fun H locs hP hS => ?_)
              obtain ⟨x4_78, ex4_78⟩ : ∃ y : Int32, y = x4L20 + 1 := ⟨_, rfl⟩
              have h := jl_lt_o h ex4_78
              refine lv_iinc (v := x4_78) (lv' := [(4, .int x4_78), (5, .int x5_30), (0, .ref (B 29)), (1, .int a1), (2, .int x2_14), (3, .int x3L20)]) hx hb dX3_cheapest_78 hl (k := 5) rfl (by rw [ex4_78]; rfl) (by decide) rfl (fun ls hl => ?_)
              refine lv_goto (tgt := 20) hx hb dX3_cheapest_81 (by decide) ?_
              exact ih20 _ _ _ (jl_L (Option.some.inj h) hz20) _ _ _ hP hS (lv_sub hl [2, 3, 4, 5, 0] rfl)
            · have h := jl_iff c_51 h
              refine lv_iload hx hb dX3_cheapest_54 (lv_at hl 0 rfl) ?_
              refine lv_topi (fun x3_56 ex3_56 => ?_)
              have h := jl_lt_o h ex3_56
              refine lv_istore_n (lv' := [(3, .int x3_56), (5, .int x5_30), (0, .ref (B 29)), (1, .int a1), (2, .int x2_14), (4, .int x4L20)]) hx hb dX3_cheapest_56 rfl hl (by decide) rfl (fun ls hl => ?_)
              refine lv_aload_n hx hb dX3_cheapest_57 rfl (lv_at hl 2 rfl) ?_
              refine jx_g_X3_sight hx hb hts hiX3 hown hK hP hf24 dX3_cheapest_58 ?_
              refine jx_g_X2_depths hx hb hts hiX2 hown hK hP (ts := 30) (Or.inr rfl) hf28 dX3_cheapest_61 ?_
              refine lv_iconst (v := 0) hx hb dX3_cheapest_64 (by decide) ?_
              refine lv_aload_n hx hb dX3_cheapest_65 rfl (lv_at hl 2 rfl) ?_
              refine jx_g_X3_told hx hb hts hiX3 hown hK hP hf9 dX3_cheapest_66 ?_
              refine lv_iconst (v := 0) hx hb dX3_cheapest_69 (by decide) ?_
              refine lv_iconst (v := 4) hx hb dX3_cheapest_70 (by decide) ?_
              refine va_copyi hx hb (hml.trans hl.1.symm) hown (hts (.methodLink RX3 47 arraycopyName) (by decide +kernel)) (hts (.native arraycopyName) (by decide +kernel)) (hts (.static arraycopyName) (by decide +kernel)) (hts (.initialized "java/lang/System") (by decide +kernel)) hK hP (jx_D hB) hS 31 35 0 0 (ty := .int) (jx_len_at (n := 4) rfl (by decide)) (jx_len_at (n := 4) rfl (by decide)) rfl rfl rfl (by decide) (by decide) (by decide) (by decide) (by decide) (fun _ _ => rfl) (Nat.le_trans (by decide) hRf) (Nat.le_trans (Nat.le_of_ble_eq_true rfl) hRl) dX3_cheapest_71 (fun H locs hP _ hS => ?_)
              obtain ⟨M_71, eM_71⟩ : ∃ y : jl_Mem, y = jl_sa M_48 35 (va_cpy (M_48 31) (M_48 35) 0 0 4) := ⟨_, rfl⟩
              have h := jl_lt_o h eM_71
              have hP : va_P D vwCl (jx_w cI cT B M_71) H := by
                rw [eM_71, ← jx_len_set (v := 35) (n := 4) rfl (by decide)]
                exact hP
              refine lv_aload_n hx hb dX3_cheapest_74 rfl (lv_at hl 2 rfl) ?_
              obtain ⟨r_75, M_75, hc_75, h⟩ := jl_bnd_o h
              refine jx_callVv (As := []) (rest := []) ⟨hx, hb, hml, hown, hts⟩ (jc_X3_goToNextDepths hc_75) (cwV 0 hts gX3_cheapest_X3_goToNextDepths rfl rfl rfl (by decide +kernel) ⟨Nat.le_trans (by decide) hRf, Nat.le_trans (by decide) hRl⟩) (jx_rv_X3 hK hP) hK hB hN hP hS rfl dX3_cheapest_75 rfl hl.1 (Nat.le_of_ble_eq_true rfl) ⟨Nat.zero_le _, Nat.zero_le _⟩ (fun H locs hP hS => ?_)
              obtain ⟨x4_78, ex4_78⟩ : ∃ y : Int32, y = x4L20 + 1 := ⟨_, rfl⟩
              have h := jl_lt_o h ex4_78
              refine lv_iinc (v := x4_78) (lv' := [(4, .int x4_78), (3, .int x3_56), (5, .int x5_30), (0, .ref (B 29)), (1, .int a1), (2, .int x2_14)]) hx hb dX3_cheapest_78 hl (k := 5) rfl (by rw [ex4_78]; rfl) (by decide) rfl (fun ls hl => ?_)
              refine lv_goto (tgt := 20) hx hb dX3_cheapest_81 (by decide) ?_
              exact ih20 _ _ _ (jl_L (Option.some.inj h) hz20) _ _ _ hP hS (lv_sub hl [3, 4, 5, 1, 0] rfl)
  exact k20 _ _ _ _ h _ _ _ hP hS (lv_sub hl [3, 4, 2, 1, 0] rfl)
theorem jc_X3_cheapest {a1 : Int32} {z : Int32 × jl_Mem} (h : jf_X3_cheapest a1 M = some z) : Met l yX3_cheapest wsX3_cheapest ({ frames := 4, cells := 0, slots := 0, locals := 92 }) (va_Pc [.ref (B 29), .int a1] (jx_U D cI cT B M)) (va_Qi (fun (q : Int32) (_ : Unit) => q = z.1) (fun _ t => va_P D vwCl (jx_w cI cT B z.2) t.heap) (jx_A B)) 0 0 (jx_A B) := by
  refine Met.ofW (cc := cX3_cheapest) (maxL := 6) (ret := (some .int)) (by decide) rfl ?_
  intro p e s m args below meth c s1 BB hml hv
  obtain ⟨rfl, hK, hP, hB, hN⟩ := hv
  have hl := lv_entry ([.ref (B 29), .int a1]) (n := 6) (Nat.le_of_ble_eq_true rfl)
  rw [lg_entry_eq]
  generalize (lg_sl ([.ref (B 29), .int a1]) ++ List.replicate (6 - (lg_sl ([.ref (B 29), .int a1])).length) Slot.unset).toArray = ls at hl ⊢
  exact jb_X3_cheapest BB.exec BB.bytes hml (findClass_of_methodNamed BB.named) (atoms_spec (ws := wsX3_cheapest) BB.pre) hK hB hN (Nat.le_refl _) (Nat.le_refl _) h (fun v M1 H locs pc ls e1 hd hP hS => W.iret BB.exec BB.bytes BB.returns (fun t ht hW => ⟨⟨_, (), rfl, by rw [← e1], by show va_P D vwCl (jx_w cI cT B z.2) t.heap; rw [ht, ← e1]; exact hP⟩, hS.F ht⟩) hS.2.2 hd BB.notSynchronized) hP va_S.rf hl
end
section
variable {p : Program} {l : Launch} {e : Env} {R : Room} {s : State} {m : MethodId} {args : Array Value} {below : List Frame} {meth : Method} {c : Code} {H : Heap} {locs : List Loc} {Q : State → Prop} {ls : Array Slot} {D : va_G} {cI cT : ClassId} {B : Nat → Nat} {M : jl_Mem} {H0 : Heap}
set_option maxHeartbeats 4000000 in
set_option maxRecDepth 100000 in
theorem jb_X4_thing (hx : p.tables.exec = Jvm.exec) (hb : c.code = cX4_thing) (hml : c.maxLocals = 1) (hown : s.vm.findClass RX4 = some m.cls) (hts : ∀ w ∈ wsX4_thing, w.before args s = true) (hK : va_K D vwCl (jx_ty cI cT) s) (hB : jx_inj B) (hN : jx_N s) (hRf : 0 ≤ R.frames) (hRl : 0 ≤ R.locals) {z : Int32 × jl_Mem} (h : jf_X4_thing M = some z)
    (kr : ∀ (v : Int32) (M1 : jl_Mem) (H1 : Heap) (locs1 : List Loc) (pc1 : Nat) (ls1 : Array Slot), (v, M1) = z → decode cX4_thing pc1 = .ok (.ireturn, 1) → va_P D vwCl (jx_w cI cT B M1) H1 → va_S (jx_A B) H0 H1 locs1 → W p l e R s m args below meth c H1 locs1 0 0 Q (F0 m pc1 ls1 [.int v]))
    (hP : va_P D vwCl (jx_w cI cT B M) H) (hS : va_S (jx_A B) H0 H locs) (hl : lv_has ls 1 [(0, .ref (B 0))]) : W p l e R s m args below meth c H locs 0 0 Q (F0 m 0 ls []) := by
  unfold jf_X4_thing at h
  have hiX4 : ∀ w ∈ wsX40, w ∈ wsX4_thing := by decide +kernel
  have hiX0 : ∀ w ∈ wsX00, w ∈ wsX4_thing := by decide +kernel
  have hiX1 : ∀ w ∈ wsX10, w ∈ wsX4_thing := by decide +kernel
  have hf10 := hts (.fieldLink RX4 10 "JudgesLists" "board" "LJudgesLists$Board;") (by decide +kernel)
  have hf32 := hts (.fieldLink RX4 32 "JudgesLists$Board" "things" "I") (by decide +kernel)
  have hf21 := hts (.fieldLink RX4 21 "JudgesLists" "reader" "LJudgesLists$Reader;") (by decide +kernel)
  have hf36 := hts (.fieldLink RX4 36 "JudgesLists$Reader" "there" "Z") (by decide +kernel)
  refine lv_aload_n hx hb dX4_thing_0 rfl (lv_at hl 0 rfl) ?_
  refine jx_g_X4_board hx hb hts hiX4 hown hK hP hf10 dX4_thing_1 ?_
  refine jx_g_X0_things hx hb hts hiX0 hown hK hP hf32 dX4_thing_4 ?_
  refine lv_bipush (v := 20) hx hb dX4_thing_7 (by decide) ?_
  refine lv_icmp_lt (tgt := 15) hx hb dX4_thing_9 (by decide) (fun c_9 => ?_) (fun c_9 => ?_)
  · have h := jl_ift c_9 h
    refine lv_aload_n hx hb dX4_thing_15 rfl (lv_at hl 0 rfl) ?_
    refine jx_g_X4_reader hx hb hts hiX4 hown hK hP hf21 dX4_thing_16 ?_
    refine lv_iconst (v := 0) hx hb dX4_thing_19 (by decide) ?_
    refine jx_p_X1_there hx hb hts hiX1 hown hK hB hP hS hf36 (by decide) dX4_thing_20 (fun M_20 H locs eM_20 hP hS => ?_)
    have h := jl_lt_o h eM_20
    refine lv_aload_n hx hb dX4_thing_23 rfl (lv_at hl 0 rfl) ?_
    refine jx_g_X4_board hx hb hts hiX4 hown hK hP hf10 dX4_thing_24 ?_
    refine lv_dup hx hb dX4_thing_27 rfl ?_
    refine jx_g_X0_things hx hb hts hiX0 hown hK hP hf32 dX4_thing_28 ?_
    refine lv_iconst (v := 1) hx hb dX4_thing_31 (by decide) ?_
    refine lv_iadd hx hb dX4_thing_32 ?_
    refine jx_p_X0_things hx hb hts hiX0 hown hK hB hP hS hf32 dX4_thing_33 (fun M_33 H locs eM_33 hP hS => ?_)
    have h := jl_lt_o h eM_33
    refine lv_aload_n hx hb dX4_thing_36 rfl (lv_at hl 0 rfl) ?_
    refine jx_g_X4_board hx hb hts hiX4 hown hK hP hf10 dX4_thing_37 ?_
    refine jx_g_X0_things hx hb hts hiX0 hown hK hP hf32 dX4_thing_40 ?_
    refine lv_iconst (v := 1) hx hb dX4_thing_43 (by decide) ?_
    refine lv_isub hx hb dX4_thing_44 ?_
    exact kr _ _ _ _ _ _ (Option.some.inj h) dX4_thing_45 hP hS
  · have h := jl_iff c_9 h
    refine lv_bipush (v := (-4)) hx hb dX4_thing_12 (by decide) ?_
    exact kr _ _ _ _ _ _ (Option.some.inj h) dX4_thing_14 hP hS
theorem jc_X4_thing {z : Int32 × jl_Mem} (h : jf_X4_thing M = some z) : Met l yX4_thing wsX4_thing ({ frames := 0, cells := 0, slots := 0, locals := 0 }) (va_Pc [.ref (B 0)] (jx_U D cI cT B M)) (va_Qi (fun (q : Int32) (_ : Unit) => q = z.1) (fun _ t => va_P D vwCl (jx_w cI cT B z.2) t.heap) (jx_A B)) 0 0 (jx_A B) := by
  refine Met.ofW (cc := cX4_thing) (maxL := 1) (ret := (some .int)) (by decide) rfl ?_
  intro p e s m args below meth c s1 BB hml hv
  obtain ⟨rfl, hK, hP, hB, hN⟩ := hv
  have hl := lv_entry ([.ref (B 0)]) (n := 1) (Nat.le_of_ble_eq_true rfl)
  rw [lg_entry_eq]
  generalize (lg_sl ([.ref (B 0)]) ++ List.replicate (1 - (lg_sl ([.ref (B 0)])).length) Slot.unset).toArray = ls at hl ⊢
  exact jb_X4_thing BB.exec BB.bytes hml (findClass_of_methodNamed BB.named) (atoms_spec (ws := wsX4_thing) BB.pre) hK hB hN (Nat.le_refl _) (Nat.le_refl _) h (fun v M1 H locs pc ls e1 hd hP hS => W.iret BB.exec BB.bytes BB.returns (fun t ht hW => ⟨⟨_, (), rfl, by rw [← e1], by show va_P D vwCl (jx_w cI cT B z.2) t.heap; rw [ht, ← e1]; exact hP⟩, hS.F ht⟩) hS.2.2 hd BB.notSynchronized) hP va_S.rf hl
end
section
variable {p : Program} {l : Launch} {e : Env} {R : Room} {s : State} {m : MethodId} {args : Array Value} {below : List Frame} {meth : Method} {c : Code} {H : Heap} {locs : List Loc} {Q : State → Prop} {ls : Array Slot} {D : va_G} {cI cT : ClassId} {B : Nat → Nat} {M : jl_Mem} {H0 : Heap}
set_option maxHeartbeats 4000000 in
set_option maxRecDepth 100000 in
theorem jb_X4_list (hx : p.tables.exec = Jvm.exec) (hb : c.code = cX4_list) (hml : c.maxLocals = 4) (hown : s.vm.findClass RX4 = some m.cls) (hts : ∀ w ∈ wsX4_list, w.before args s = true) (hK : va_K D vwCl (jx_ty cI cT) s) (hB : jx_inj B) (hN : jx_N s) (hRf : 1 ≤ R.frames) (hRl : 24 ≤ R.locals) {a1 : Int32} {a2 : Int32} {a3 : Int32} {z : Int32 × jl_Mem} (h : jf_X4_list a1 a2 a3 M = some z)
    (kr : ∀ (v : Int32) (M1 : jl_Mem) (H1 : Heap) (locs1 : List Loc) (pc1 : Nat) (ls1 : Array Slot), (v, M1) = z → decode cX4_list pc1 = .ok (.ireturn, 1) → va_P D vwCl (jx_w cI cT B M1) H1 → va_S (jx_A B) H0 H1 locs1 → W p l e R s m args below meth c H1 locs1 0 0 Q (F0 m pc1 ls1 [.int v]))
    (hP : va_P D vwCl (jx_w cI cT B M) H) (hS : va_S (jx_A B) H0 H locs) (hl : lv_has ls 4 [(0, .ref (B 0)), (1, .int a1), (2, .int a2), (3, .int a3)]) : W p l e R s m args below meth c H locs 0 0 Q (F0 m 0 ls []) := by
  unfold jf_X4_list at h
  have hiX4 : ∀ w ∈ wsX40, w ∈ wsX4_list := by decide +kernel
  have hiX0 : ∀ w ∈ wsX00, w ∈ wsX4_list := by decide +kernel
  have hiX1 : ∀ w ∈ wsX10, w ∈ wsX4_list := by decide +kernel
  have hf10 := hts (.fieldLink RX4 10 "JudgesLists" "board" "LJudgesLists$Board;") (by decide +kernel)
  have hf44 := hts (.fieldLink RX4 44 "JudgesLists$Board" "lists" "I") (by decide +kernel)
  have hf21 := hts (.fieldLink RX4 21 "JudgesLists" "reader" "LJudgesLists$Reader;") (by decide +kernel)
  have hf36 := hts (.fieldLink RX4 36 "JudgesLists$Reader" "there" "Z") (by decide +kernel)
  refine lv_iload_n hx hb dX4_list_0 rfl (lv_at hl 1 rfl) ?_
  refine lv_iconst (v := 0) hx hb dX4_list_1 (by decide) ?_
  refine lv_bipush (v := 10) hx hb dX4_list_2 (by decide) ?_
  obtain ⟨r_4, M_4, hc_4, h⟩ := jl_bnd_o h
  refine jx_callSi (As := [.int a1, .int 0, .int 10]) (rest := []) ⟨hx, hb, hml, hown, hts⟩ (jc_X4_within hc_4) (va_cwS 3 hts gX4_list_X4_within rfl rfl rfl (by decide +kernel) ⟨Nat.le_trans (by decide) hRf, Nat.le_trans (by decide) hRl⟩) hK hB hN hP hS rfl dX4_list_4 rfl hl.1 (Nat.le_of_ble_eq_true rfl) ⟨Nat.zero_le _, Nat.zero_le _⟩ (fun H locs hP hS => ?_)
  refine lv_if_eq (tgt := 30) hx hb dX4_list_7 (by decide) (fun c_7 => ?_) (fun c_7 => ?_)
  · have h := jl_ift c_7 h
    refine lv_bipush (v := (-2)) hx hb dX4_list_30 (by decide) ?_
    exact kr _ _ _ _ _ _ (Option.some.inj h) dX4_list_32 hP hS
  · have h := jl_iff c_7 h
    refine lv_iload_n hx hb dX4_list_10 rfl (lv_at hl 2 rfl) ?_
    refine lv_iconst (v := 1) hx hb dX4_list_11 (by decide) ?_
    refine lv_bipush (v := 100) hx hb dX4_list_12 (by decide) ?_
    obtain ⟨r_14, M_14, hc_14, h⟩ := jl_bnd_o h
    refine jx_callSi (As := [.int a2, .int 1, .int 100]) (rest := []) ⟨hx, hb, hml, hown, hts⟩ (jc_X4_within hc_14) (va_cwS 3 hts gX4_list_X4_within rfl rfl rfl (by decide +kernel) ⟨Nat.le_trans (by decide) hRf, Nat.le_trans (by decide) hRl⟩) hK hB hN hP hS rfl dX4_list_14 rfl hl.1 (Nat.le_of_ble_eq_true rfl) ⟨Nat.zero_le _, Nat.zero_le _⟩ (fun H locs hP hS => ?_)
    refine lv_if_eq (tgt := 30) hx hb dX4_list_17 (by decide) (fun c_17 => ?_) (fun c_17 => ?_)
    · have h := jl_ift c_17 h
      refine lv_bipush (v := (-2)) hx hb dX4_list_30 (by decide) ?_
      exact kr _ _ _ _ _ _ (Option.some.inj h) dX4_list_32 hP hS
    · have h := jl_iff c_17 h
      refine lv_iload_n hx hb dX4_list_20 rfl (lv_at hl 3 rfl) ?_
      refine lv_iconst (v := 0) hx hb dX4_list_21 (by decide) ?_
      refine lv_bipush (v := 100) hx hb dX4_list_22 (by decide) ?_
      obtain ⟨r_24, M_24, hc_24, h⟩ := jl_bnd_o h
      refine jx_callSi (As := [.int a3, .int 0, .int 100]) (rest := []) ⟨hx, hb, hml, hown, hts⟩ (jc_X4_within hc_24) (va_cwS 3 hts gX4_list_X4_within rfl rfl rfl (by decide +kernel) ⟨Nat.le_trans (by decide) hRf, Nat.le_trans (by decide) hRl⟩) hK hB hN hP hS rfl dX4_list_24 rfl hl.1 (Nat.le_of_ble_eq_true rfl) ⟨Nat.zero_le _, Nat.zero_le _⟩ (fun H locs hP hS => ?_)
      refine lv_if_ne (tgt := 33) hx hb dX4_list_27 (by decide) (fun c_27 => ?_) (fun c_27 => ?_)
      · have h := jl_iff c_27 h
        refine lv_aload_n hx hb dX4_list_33 rfl (lv_at hl 0 rfl) ?_
        refine jx_g_X4_board hx hb hts hiX4 hown hK hP hf10 dX4_list_34 ?_
        refine jx_g_X0_lists hx hb hts hiX0 hown hK hP hf44 dX4_list_37 ?_
        refine lv_iconst (v := 4) hx hb dX4_list_40 (by decide) ?_
        refine lv_icmp_lt (tgt := 47) hx hb dX4_list_41 (by decide) (fun c_41 => ?_) (fun c_41 => ?_)
        · have h := jl_ift c_41 h
          refine lv_aload_n hx hb dX4_list_47 rfl (lv_at hl 0 rfl) ?_
          refine jx_g_X4_reader hx hb hts hiX4 hown hK hP hf21 dX4_list_48 ?_
          refine lv_iconst (v := 0) hx hb dX4_list_51 (by decide) ?_
          refine jx_p_X1_there hx hb hts hiX1 hown hK hB hP hS hf36 (by decide) dX4_list_52 (fun M_52 H locs eM_52 hP hS => ?_)
          have h := jl_lt_o h eM_52
          refine lv_aload_n hx hb dX4_list_55 rfl (lv_at hl 0 rfl) ?_
          refine jx_g_X4_board hx hb hts hiX4 hown hK hP hf10 dX4_list_56 ?_
          refine lv_iload_n hx hb dX4_list_59 rfl (lv_at hl 1 rfl) ?_
          refine lv_iload_n hx hb dX4_list_60 rfl (lv_at hl 2 rfl) ?_
          refine lv_iload_n hx hb dX4_list_61 rfl (lv_at hl 3 rfl) ?_
          obtain ⟨r_62, M_62, hc_62, h⟩ := jl_bnd_o h
          refine jx_callVi (As := [.int a1, .int a2, .int a3]) (rest := []) ⟨hx, hb, hml, hown, hts⟩ (jc_X0_addList hc_62) (cwV 3 hts gX4_list_X0_addList rfl rfl rfl (by decide +kernel) ⟨Nat.le_trans (by decide) hRf, Nat.le_trans (by decide) hRl⟩) (jx_rv_X0 hK hP) hK hB hN hP hS rfl dX4_list_62 rfl hl.1 (Nat.le_of_ble_eq_true rfl) ⟨Nat.zero_le _, Nat.zero_le _⟩ (fun H locs hP hS => ?_)
          exact kr _ _ _ _ _ _ (Option.some.inj h) dX4_list_65 hP hS
        · have h := jl_iff c_41 h
          refine lv_bipush (v := (-4)) hx hb dX4_list_44 (by decide) ?_
          exact kr _ _ _ _ _ _ (Option.some.inj h) dX4_list_46 hP hS
      · have h := jl_ift c_27 h
        refine lv_bipush (v := (-2)) hx hb dX4_list_30 (by decide) ?_
        exact kr _ _ _ _ _ _ (Option.some.inj h) dX4_list_32 hP hS
theorem jc_X4_list {a1 : Int32} {a2 : Int32} {a3 : Int32} {z : Int32 × jl_Mem} (h : jf_X4_list a1 a2 a3 M = some z) : Met l yX4_list wsX4_list ({ frames := 1, cells := 0, slots := 0, locals := 24 }) (va_Pc [.ref (B 0), .int a1, .int a2, .int a3] (jx_U D cI cT B M)) (va_Qi (fun (q : Int32) (_ : Unit) => q = z.1) (fun _ t => va_P D vwCl (jx_w cI cT B z.2) t.heap) (jx_A B)) 0 0 (jx_A B) := by
  refine Met.ofW (cc := cX4_list) (maxL := 4) (ret := (some .int)) (by decide) rfl ?_
  intro p e s m args below meth c s1 BB hml hv
  obtain ⟨rfl, hK, hP, hB, hN⟩ := hv
  have hl := lv_entry ([.ref (B 0), .int a1, .int a2, .int a3]) (n := 4) (Nat.le_of_ble_eq_true rfl)
  rw [lg_entry_eq]
  generalize (lg_sl ([.ref (B 0), .int a1, .int a2, .int a3]) ++ List.replicate (4 - (lg_sl ([.ref (B 0), .int a1, .int a2, .int a3])).length) Slot.unset).toArray = ls at hl ⊢
  exact jb_X4_list BB.exec BB.bytes hml (findClass_of_methodNamed BB.named) (atoms_spec (ws := wsX4_list) BB.pre) hK hB hN (Nat.le_refl _) (Nat.le_refl _) h (fun v M1 H locs pc ls e1 hd hP hS => W.iret BB.exec BB.bytes BB.returns (fun t ht hW => ⟨⟨_, (), rfl, by rw [← e1], by show va_P D vwCl (jx_w cI cT B z.2) t.heap; rw [ht, ← e1]; exact hP⟩, hS.F ht⟩) hS.2.2 hd BB.notSynchronized) hP va_S.rf hl
end
section
variable {p : Program} {l : Launch} {e : Env} {R : Room} {s : State} {m : MethodId} {args : Array Value} {below : List Frame} {meth : Method} {c : Code} {H : Heap} {locs : List Loc} {Q : State → Prop} {ls : Array Slot} {D : va_G} {cI cT : ClassId} {B : Nat → Nat} {M : jl_Mem} {H0 : Heap}
set_option maxHeartbeats 4000000 in
set_option maxRecDepth 100000 in
theorem jb_X4_changeMark (hx : p.tables.exec = Jvm.exec) (hb : c.code = cX4_changeMark) (hml : c.maxLocals = 5) (hown : s.vm.findClass RX4 = some m.cls) (hts : ∀ w ∈ wsX4_changeMark, w.before args s = true) (hK : va_K D vwCl (jx_ty cI cT) s) (hB : jx_inj B) (hN : jx_N s) (hRf : 4 ≤ R.frames) (hRl : 95 ≤ R.locals) {a1 : Int32} {a2 : Int32} {a3 : Int32} {z : Int32 × jl_Mem} (h : jf_X4_changeMark a1 a2 a3 M = some z)
    (kr : ∀ (v : Int32) (M1 : jl_Mem) (H1 : Heap) (locs1 : List Loc) (pc1 : Nat) (ls1 : Array Slot), (v, M1) = z → decode cX4_changeMark pc1 = .ok (.ireturn, 1) → va_P D vwCl (jx_w cI cT B M1) H1 → va_S (jx_A B) H0 H1 locs1 → W p l e R s m args below meth c H1 locs1 0 0 Q (F0 m pc1 ls1 [.int v]))
    (hP : va_P D vwCl (jx_w cI cT B M) H) (hS : va_S (jx_A B) H0 H locs) (hl : lv_has ls 5 [(0, .ref (B 0)), (1, .int a1), (2, .int a2), (3, .int a3)]) : W p l e R s m args below meth c H locs 0 0 Q (F0 m 0 ls []) := by
  unfold jf_X4_changeMark at h
  have hiX4 : ∀ w ∈ wsX40, w ∈ wsX4_changeMark := by decide +kernel
  have hiX0 : ∀ w ∈ wsX00, w ∈ wsX4_changeMark := by decide +kernel
  have hiX1 : ∀ w ∈ wsX10, w ∈ wsX4_changeMark := by decide +kernel
  have hf10 := hts (.fieldLink RX4 10 "JudgesLists" "board" "LJudgesLists$Board;") (by decide +kernel)
  have hf81 := hts (.fieldLink RX4 81 "JudgesLists$Board" "marks" "[[I") (by decide +kernel)
  have hf21 := hts (.fieldLink RX4 21 "JudgesLists" "reader" "LJudgesLists$Reader;") (by decide +kernel)
  have hf36 := hts (.fieldLink RX4 36 "JudgesLists$Reader" "there" "Z") (by decide +kernel)
  refine lv_aload_n hx hb dX4_changeMark_0 rfl (lv_at hl 0 rfl) ?_
  refine jx_g_X4_board hx hb hts hiX4 hown hK hP hf10 dX4_changeMark_1 ?_
  refine jx_g_X0_marks hx hb hts hiX0 hown hK hP hf81 dX4_changeMark_4 ?_
  refine lv_iload_n hx hb dX4_changeMark_7 rfl (lv_at hl 1 rfl) ?_
  obtain ⟨i_8, h⟩ := jl_chk_o h
  refine jx_aaload6 hx hb hK hP i_8 dX4_changeMark_8 ?_
  refine lv_iload_n hx hb dX4_changeMark_9 rfl (lv_at hl 2 rfl) ?_
  obtain ⟨i_10, h⟩ := jl_chk_o h
  refine jx_iaload hx hb hK hP (jx_lr7 i_8) i_10 dX4_changeMark_10 ?_
  refine lv_topi (fun x4_11 ex4_11 => ?_)
  have h := jl_lt_o h ex4_11
  refine lv_istore (lv' := [(4, .int x4_11), (0, .ref (B 0)), (1, .int a1), (2, .int a2), (3, .int a3)]) hx hb dX4_changeMark_11 hl (by decide) rfl (fun ls hl => ?_)
  refine lv_iload hx hb dX4_changeMark_13 (lv_at hl 0 rfl) ?_
  refine lv_iload_n hx hb dX4_changeMark_15 rfl (lv_at hl 4 rfl) ?_
  refine lv_icmp_eq (tgt := 37) hx hb dX4_changeMark_16 (by decide) (fun c_16 => ?_) (fun c_16 => ?_)
  · have h := jl_ift c_16 h
    refine lv_iload hx hb dX4_changeMark_37 (lv_at hl 0 rfl) ?_
    exact kr _ _ _ _ _ _ (Option.some.inj h) dX4_changeMark_39 hP hS
  · have h := jl_iff c_16 h
    refine lv_aload_n hx hb dX4_changeMark_19 rfl (lv_at hl 1 rfl) ?_
    refine jx_g_X4_reader hx hb hts hiX4 hown hK hP hf21 dX4_changeMark_20 ?_
    refine lv_iconst (v := 0) hx hb dX4_changeMark_23 (by decide) ?_
    refine jx_p_X1_there hx hb hts hiX1 hown hK hB hP hS hf36 (by decide) dX4_changeMark_24 (fun M_24 H locs eM_24 hP hS => ?_)
    have h := jl_lt_o h eM_24
    refine lv_aload_n hx hb dX4_changeMark_27 rfl (lv_at hl 1 rfl) ?_
    refine jx_g_X4_board hx hb hts hiX4 hown hK hP hf10 dX4_changeMark_28 ?_
    refine lv_iload_n hx hb dX4_changeMark_31 rfl (lv_at hl 2 rfl) ?_
    refine lv_iload_n hx hb dX4_changeMark_32 rfl (lv_at hl 3 rfl) ?_
    refine lv_iload_n hx hb dX4_changeMark_33 rfl (lv_at hl 4 rfl) ?_
    obtain ⟨r_34, M_34, hc_34, h⟩ := jl_bnd_o h
    refine jx_callVv (As := [.int a1, .int a2, .int a3]) (rest := []) ⟨hx, hb, hml, hown, hts⟩ (jc_X0_setMark hc_34) (cwV 3 hts gX4_changeMark_X0_setMark rfl rfl rfl (by decide +kernel) ⟨Nat.le_trans (by decide) hRf, Nat.le_trans (by decide) hRl⟩) (jx_rv_X0 hK hP) hK hB hN hP hS rfl dX4_changeMark_34 rfl hl.1 (Nat.le_of_ble_eq_true rfl) ⟨Nat.zero_le _, Nat.zero_le _⟩ (fun H locs hP hS => ?_)
    refine lv_iload hx hb dX4_changeMark_37 (lv_at hl 0 rfl) ?_
    exact kr _ _ _ _ _ _ (Option.some.inj h) dX4_changeMark_39 hP hS
theorem jc_X4_changeMark {a1 : Int32} {a2 : Int32} {a3 : Int32} {z : Int32 × jl_Mem} (h : jf_X4_changeMark a1 a2 a3 M = some z) : Met l yX4_changeMark wsX4_changeMark ({ frames := 4, cells := 0, slots := 0, locals := 95 }) (va_Pc [.ref (B 0), .int a1, .int a2, .int a3] (jx_U D cI cT B M)) (va_Qi (fun (q : Int32) (_ : Unit) => q = z.1) (fun _ t => va_P D vwCl (jx_w cI cT B z.2) t.heap) (jx_A B)) 0 0 (jx_A B) := by
  refine Met.ofW (cc := cX4_changeMark) (maxL := 5) (ret := (some .int)) (by decide) rfl ?_
  intro p e s m args below meth c s1 BB hml hv
  obtain ⟨rfl, hK, hP, hB, hN⟩ := hv
  have hl := lv_entry ([.ref (B 0), .int a1, .int a2, .int a3]) (n := 5) (Nat.le_of_ble_eq_true rfl)
  rw [lg_entry_eq]
  generalize (lg_sl ([.ref (B 0), .int a1, .int a2, .int a3]) ++ List.replicate (5 - (lg_sl ([.ref (B 0), .int a1, .int a2, .int a3])).length) Slot.unset).toArray = ls at hl ⊢
  exact jb_X4_changeMark BB.exec BB.bytes hml (findClass_of_methodNamed BB.named) (atoms_spec (ws := wsX4_changeMark) BB.pre) hK hB hN (Nat.le_refl _) (Nat.le_refl _) h (fun v M1 H locs pc ls e1 hd hP hS => W.iret BB.exec BB.bytes BB.returns (fun t ht hW => ⟨⟨_, (), rfl, by rw [← e1], by show va_P D vwCl (jx_w cI cT B z.2) t.heap; rw [ht, ← e1]; exact hP⟩, hS.F ht⟩) hS.2.2 hd BB.notSynchronized) hP va_S.rf hl
end
section
variable {p : Program} {l : Launch} {e : Env} {R : Room} {s : State} {m : MethodId} {args : Array Value} {below : List Frame} {meth : Method} {c : Code} {H : Heap} {locs : List Loc} {Q : State → Prop} {ls : Array Slot} {D : va_G} {cI cT : ClassId} {B : Nat → Nat} {M : jl_Mem} {H0 : Heap}
set_option maxHeartbeats 4000000 in
set_option maxRecDepth 100000 in
theorem jb_X4_mark (hx : p.tables.exec = Jvm.exec) (hb : c.code = cX4_mark) (hml : c.maxLocals = 4) (hown : s.vm.findClass RX4 = some m.cls) (hts : ∀ w ∈ wsX4_mark, w.before args s = true) (hK : va_K D vwCl (jx_ty cI cT) s) (hB : jx_inj B) (hN : jx_N s) (hRf : 5 ≤ R.frames) (hRl : 119 ≤ R.locals) {a1 : Int32} {a2 : Int32} {a3 : Int32} {z : Int32 × jl_Mem} (h : jf_X4_mark a1 a2 a3 M = some z)
    (kr : ∀ (v : Int32) (M1 : jl_Mem) (H1 : Heap) (locs1 : List Loc) (pc1 : Nat) (ls1 : Array Slot), (v, M1) = z → decode cX4_mark pc1 = .ok (.ireturn, 1) → va_P D vwCl (jx_w cI cT B M1) H1 → va_S (jx_A B) H0 H1 locs1 → W p l e R s m args below meth c H1 locs1 0 0 Q (F0 m pc1 ls1 [.int v]))
    (hP : va_P D vwCl (jx_w cI cT B M) H) (hS : va_S (jx_A B) H0 H locs) (hl : lv_has ls 4 [(0, .ref (B 0)), (1, .int a1), (2, .int a2), (3, .int a3)]) : W p l e R s m args below meth c H locs 0 0 Q (F0 m 0 ls []) := by
  unfold jf_X4_mark at h
  have hiX4 : ∀ w ∈ wsX40, w ∈ wsX4_mark := by decide +kernel
  have hf10 := hts (.fieldLink RX4 10 "JudgesLists" "board" "LJudgesLists$Board;") (by decide +kernel)
  refine lv_aload_n hx hb dX4_mark_0 rfl (lv_at hl 0 rfl) ?_
  refine jx_g_X4_board hx hb hts hiX4 hown hK hP hf10 dX4_mark_1 ?_
  refine lv_iload_n hx hb dX4_mark_4 rfl (lv_at hl 1 rfl) ?_
  obtain ⟨r_5, M_5, hc_5, h⟩ := jl_bnd_o h
  refine jx_callVi (As := [.int a1]) (rest := []) ⟨hx, hb, hml, hown, hts⟩ (jc_X0_hasList hc_5) (cwV 1 hts gX4_mark_X0_hasList rfl rfl rfl (by decide +kernel) ⟨Nat.le_trans (by decide) hRf, Nat.le_trans (by decide) hRl⟩) (jx_rv_X0 hK hP) hK hB hN hP hS rfl dX4_mark_5 rfl hl.1 (Nat.le_of_ble_eq_true rfl) ⟨Nat.zero_le _, Nat.zero_le _⟩ (fun H locs hP hS => ?_)
  refine lv_if_eq (tgt := 22) hx hb dX4_mark_8 (by decide) (fun c_8 => ?_) (fun c_8 => ?_)
  · have h := jl_ift c_8 h
    refine lv_iconst (v := (-1)) hx hb dX4_mark_22 (by decide) ?_
    exact kr _ _ _ _ _ _ (Option.some.inj h) dX4_mark_23 hP hS
  · have h := jl_iff c_8 h
    refine lv_aload_n hx hb dX4_mark_11 rfl (lv_at hl 0 rfl) ?_
    refine jx_g_X4_board hx hb hts hiX4 hown hK hP hf10 dX4_mark_12 ?_
    refine lv_iload_n hx hb dX4_mark_15 rfl (lv_at hl 2 rfl) ?_
    obtain ⟨r_16, M_16, hc_16, h⟩ := jl_bnd_o h
    refine jx_callVi (As := [.int a2]) (rest := []) ⟨hx, hb, hml, hown, hts⟩ (jc_X0_hasThing hc_16) (cwV 1 hts gX4_mark_X0_hasThing rfl rfl rfl (by decide +kernel) ⟨Nat.le_trans (by decide) hRf, Nat.le_trans (by decide) hRl⟩) (jx_rv_X0 hK hP) hK hB hN hP hS rfl dX4_mark_16 rfl hl.1 (Nat.le_of_ble_eq_true rfl) ⟨Nat.zero_le _, Nat.zero_le _⟩ (fun H locs hP hS => ?_)
    refine lv_if_ne (tgt := 24) hx hb dX4_mark_19 (by decide) (fun c_19 => ?_) (fun c_19 => ?_)
    · have h := jl_iff c_19 h
      refine lv_iload_n hx hb dX4_mark_24 rfl (lv_at hl 3 rfl) ?_
      refine lv_iconst (v := 1) hx hb dX4_mark_25 (by decide) ?_
      refine lv_sipush (v := 1000) hx hb dX4_mark_26 (by decide) ?_
      obtain ⟨r_29, M_29, hc_29, h⟩ := jl_bnd_o h
      refine jx_callSi (As := [.int a3, .int 1, .int 1000]) (rest := []) ⟨hx, hb, hml, hown, hts⟩ (jc_X4_within hc_29) (va_cwS 3 hts gX4_mark_X4_within rfl rfl rfl (by decide +kernel) ⟨Nat.le_trans (by decide) hRf, Nat.le_trans (by decide) hRl⟩) hK hB hN hP hS rfl dX4_mark_29 rfl hl.1 (Nat.le_of_ble_eq_true rfl) ⟨Nat.zero_le _, Nat.zero_le _⟩ (fun H locs hP hS => ?_)
      refine lv_if_ne (tgt := 38) hx hb dX4_mark_32 (by decide) (fun c_32 => ?_) (fun c_32 => ?_)
      · have h := jl_iff c_32 h
        refine lv_aload_n hx hb dX4_mark_38 rfl (lv_at hl 0 rfl) ?_
        refine lv_iload_n hx hb dX4_mark_39 rfl (lv_at hl 1 rfl) ?_
        refine lv_iload_n hx hb dX4_mark_40 rfl (lv_at hl 2 rfl) ?_
        refine lv_iload_n hx hb dX4_mark_41 rfl (lv_at hl 3 rfl) ?_
        obtain ⟨r_42, M_42, hc_42, h⟩ := jl_bnd_o h
        refine jx_callVi (As := [.int a1, .int a2, .int a3]) (rest := []) ⟨hx, hb, hml, hown, hts⟩ (jc_X4_changeMark hc_42) (cwV 3 hts gX4_mark_X4_changeMark rfl rfl rfl (by decide +kernel) ⟨Nat.le_trans (by decide) hRf, Nat.le_trans (by decide) hRl⟩) (jx_rv_X4 hK hP) hK hB hN hP hS rfl dX4_mark_42 rfl hl.1 (Nat.le_of_ble_eq_true rfl) ⟨Nat.zero_le _, Nat.zero_le _⟩ (fun H locs hP hS => ?_)
        exact kr _ _ _ _ _ _ (Option.some.inj h) dX4_mark_45 hP hS
      · have h := jl_ift c_32 h
        refine lv_bipush (v := (-2)) hx hb dX4_mark_35 (by decide) ?_
        exact kr _ _ _ _ _ _ (Option.some.inj h) dX4_mark_37 hP hS
    · have h := jl_ift c_19 h
      refine lv_iconst (v := (-1)) hx hb dX4_mark_22 (by decide) ?_
      exact kr _ _ _ _ _ _ (Option.some.inj h) dX4_mark_23 hP hS
theorem jc_X4_mark {a1 : Int32} {a2 : Int32} {a3 : Int32} {z : Int32 × jl_Mem} (h : jf_X4_mark a1 a2 a3 M = some z) : Met l yX4_mark wsX4_mark ({ frames := 5, cells := 0, slots := 0, locals := 119 }) (va_Pc [.ref (B 0), .int a1, .int a2, .int a3] (jx_U D cI cT B M)) (va_Qi (fun (q : Int32) (_ : Unit) => q = z.1) (fun _ t => va_P D vwCl (jx_w cI cT B z.2) t.heap) (jx_A B)) 0 0 (jx_A B) := by
  refine Met.ofW (cc := cX4_mark) (maxL := 4) (ret := (some .int)) (by decide) rfl ?_
  intro p e s m args below meth c s1 BB hml hv
  obtain ⟨rfl, hK, hP, hB, hN⟩ := hv
  have hl := lv_entry ([.ref (B 0), .int a1, .int a2, .int a3]) (n := 4) (Nat.le_of_ble_eq_true rfl)
  rw [lg_entry_eq]
  generalize (lg_sl ([.ref (B 0), .int a1, .int a2, .int a3]) ++ List.replicate (4 - (lg_sl ([.ref (B 0), .int a1, .int a2, .int a3])).length) Slot.unset).toArray = ls at hl ⊢
  exact jb_X4_mark BB.exec BB.bytes hml (findClass_of_methodNamed BB.named) (atoms_spec (ws := wsX4_mark) BB.pre) hK hB hN (Nat.le_refl _) (Nat.le_refl _) h (fun v M1 H locs pc ls e1 hd hP hS => W.iret BB.exec BB.bytes BB.returns (fun t ht hW => ⟨⟨_, (), rfl, by rw [← e1], by show va_P D vwCl (jx_w cI cT B z.2) t.heap; rw [ht, ← e1]; exact hP⟩, hS.F ht⟩) hS.2.2 hd BB.notSynchronized) hP va_S.rf hl
end
section
variable {p : Program} {l : Launch} {e : Env} {R : Room} {s : State} {m : MethodId} {args : Array Value} {below : List Frame} {meth : Method} {c : Code} {H : Heap} {locs : List Loc} {Q : State → Prop} {ls : Array Slot} {D : va_G} {cI cT : ClassId} {B : Nat → Nat} {M : jl_Mem} {H0 : Heap}
set_option maxHeartbeats 4000000 in
set_option maxRecDepth 100000 in
theorem jb_X4_unmark (hx : p.tables.exec = Jvm.exec) (hb : c.code = cX4_unmark) (hml : c.maxLocals = 3) (hown : s.vm.findClass RX4 = some m.cls) (hts : ∀ w ∈ wsX4_unmark, w.before args s = true) (hK : va_K D vwCl (jx_ty cI cT) s) (hB : jx_inj B) (hN : jx_N s) (hRf : 5 ≤ R.frames) (hRl : 119 ≤ R.locals) {a1 : Int32} {a2 : Int32} {z : Int32 × jl_Mem} (h : jf_X4_unmark a1 a2 M = some z)
    (kr : ∀ (v : Int32) (M1 : jl_Mem) (H1 : Heap) (locs1 : List Loc) (pc1 : Nat) (ls1 : Array Slot), (v, M1) = z → decode cX4_unmark pc1 = .ok (.ireturn, 1) → va_P D vwCl (jx_w cI cT B M1) H1 → va_S (jx_A B) H0 H1 locs1 → W p l e R s m args below meth c H1 locs1 0 0 Q (F0 m pc1 ls1 [.int v]))
    (hP : va_P D vwCl (jx_w cI cT B M) H) (hS : va_S (jx_A B) H0 H locs) (hl : lv_has ls 3 [(0, .ref (B 0)), (1, .int a1), (2, .int a2)]) : W p l e R s m args below meth c H locs 0 0 Q (F0 m 0 ls []) := by
  unfold jf_X4_unmark at h
  have hiX4 : ∀ w ∈ wsX40, w ∈ wsX4_unmark := by decide +kernel
  have hf10 := hts (.fieldLink RX4 10 "JudgesLists" "board" "LJudgesLists$Board;") (by decide +kernel)
  refine lv_aload_n hx hb dX4_unmark_0 rfl (lv_at hl 0 rfl) ?_
  refine jx_g_X4_board hx hb hts hiX4 hown hK hP hf10 dX4_unmark_1 ?_
  refine lv_iload_n hx hb dX4_unmark_4 rfl (lv_at hl 1 rfl) ?_
  obtain ⟨r_5, M_5, hc_5, h⟩ := jl_bnd_o h
  refine jx_callVi (As := [.int a1]) (rest := []) ⟨hx, hb, hml, hown, hts⟩ (jc_X0_hasList hc_5) (cwV 1 hts gX4_unmark_X0_hasList rfl rfl rfl (by decide +kernel) ⟨Nat.le_trans (by decide) hRf, Nat.le_trans (by decide) hRl⟩) (jx_rv_X0 hK hP) hK hB hN hP hS rfl dX4_unmark_5 rfl hl.1 (Nat.le_of_ble_eq_true rfl) ⟨Nat.zero_le _, Nat.zero_le _⟩ (fun H locs hP hS => ?_)
  refine lv_if_eq (tgt := 22) hx hb dX4_unmark_8 (by decide) (fun c_8 => ?_) (fun c_8 => ?_)
  · have h := jl_ift c_8 h
    refine lv_iconst (v := (-1)) hx hb dX4_unmark_22 (by decide) ?_
    exact kr _ _ _ _ _ _ (Option.some.inj h) dX4_unmark_23 hP hS
  · have h := jl_iff c_8 h
    refine lv_aload_n hx hb dX4_unmark_11 rfl (lv_at hl 0 rfl) ?_
    refine jx_g_X4_board hx hb hts hiX4 hown hK hP hf10 dX4_unmark_12 ?_
    refine lv_iload_n hx hb dX4_unmark_15 rfl (lv_at hl 2 rfl) ?_
    obtain ⟨r_16, M_16, hc_16, h⟩ := jl_bnd_o h
    refine jx_callVi (As := [.int a2]) (rest := []) ⟨hx, hb, hml, hown, hts⟩ (jc_X0_hasThing hc_16) (cwV 1 hts gX4_unmark_X0_hasThing rfl rfl rfl (by decide +kernel) ⟨Nat.le_trans (by decide) hRf, Nat.le_trans (by decide) hRl⟩) (jx_rv_X0 hK hP) hK hB hN hP hS rfl dX4_unmark_16 rfl hl.1 (Nat.le_of_ble_eq_true rfl) ⟨Nat.zero_le _, Nat.zero_le _⟩ (fun H locs hP hS => ?_)
    refine lv_if_ne (tgt := 24) hx hb dX4_unmark_19 (by decide) (fun c_19 => ?_) (fun c_19 => ?_)
    · have h := jl_iff c_19 h
      refine lv_aload_n hx hb dX4_unmark_24 rfl (lv_at hl 0 rfl) ?_
      refine lv_iload_n hx hb dX4_unmark_25 rfl (lv_at hl 1 rfl) ?_
      refine lv_iload_n hx hb dX4_unmark_26 rfl (lv_at hl 2 rfl) ?_
      refine lv_iconst (v := 0) hx hb dX4_unmark_27 (by decide) ?_
      obtain ⟨r_28, M_28, hc_28, h⟩ := jl_bnd_o h
      refine jx_callVi (As := [.int a1, .int a2, .int 0]) (rest := []) ⟨hx, hb, hml, hown, hts⟩ (jc_X4_changeMark hc_28) (cwV 3 hts gX4_unmark_X4_changeMark rfl rfl rfl (by decide +kernel) ⟨Nat.le_trans (by decide) hRf, Nat.le_trans (by decide) hRl⟩) (jx_rv_X4 hK hP) hK hB hN hP hS rfl dX4_unmark_28 rfl hl.1 (Nat.le_of_ble_eq_true rfl) ⟨Nat.zero_le _, Nat.zero_le _⟩ (fun H locs hP hS => ?_)
      exact kr _ _ _ _ _ _ (Option.some.inj h) dX4_unmark_31 hP hS
    · have h := jl_ift c_19 h
      refine lv_iconst (v := (-1)) hx hb dX4_unmark_22 (by decide) ?_
      exact kr _ _ _ _ _ _ (Option.some.inj h) dX4_unmark_23 hP hS
theorem jc_X4_unmark {a1 : Int32} {a2 : Int32} {z : Int32 × jl_Mem} (h : jf_X4_unmark a1 a2 M = some z) : Met l yX4_unmark wsX4_unmark ({ frames := 5, cells := 0, slots := 0, locals := 119 }) (va_Pc [.ref (B 0), .int a1, .int a2] (jx_U D cI cT B M)) (va_Qi (fun (q : Int32) (_ : Unit) => q = z.1) (fun _ t => va_P D vwCl (jx_w cI cT B z.2) t.heap) (jx_A B)) 0 0 (jx_A B) := by
  refine Met.ofW (cc := cX4_unmark) (maxL := 3) (ret := (some .int)) (by decide) rfl ?_
  intro p e s m args below meth c s1 BB hml hv
  obtain ⟨rfl, hK, hP, hB, hN⟩ := hv
  have hl := lv_entry ([.ref (B 0), .int a1, .int a2]) (n := 3) (Nat.le_of_ble_eq_true rfl)
  rw [lg_entry_eq]
  generalize (lg_sl ([.ref (B 0), .int a1, .int a2]) ++ List.replicate (3 - (lg_sl ([.ref (B 0), .int a1, .int a2])).length) Slot.unset).toArray = ls at hl ⊢
  exact jb_X4_unmark BB.exec BB.bytes hml (findClass_of_methodNamed BB.named) (atoms_spec (ws := wsX4_unmark) BB.pre) hK hB hN (Nat.le_refl _) (Nat.le_refl _) h (fun v M1 H locs pc ls e1 hd hP hS => W.iret BB.exec BB.bytes BB.returns (fun t ht hW => ⟨⟨_, (), rfl, by rw [← e1], by show va_P D vwCl (jx_w cI cT B z.2) t.heap; rw [ht, ← e1]; exact hP⟩, hS.F ht⟩) hS.2.2 hd BB.notSynchronized) hP va_S.rf hl
end
section
variable {p : Program} {l : Launch} {e : Env} {R : Room} {s : State} {m : MethodId} {args : Array Value} {below : List Frame} {meth : Method} {c : Code} {H : Heap} {locs : List Loc} {Q : State → Prop} {ls : Array Slot} {D : va_G} {cI cT : ClassId} {B : Nat → Nat} {M : jl_Mem} {H0 : Heap}
set_option maxHeartbeats 4000000 in
set_option maxRecDepth 100000 in
theorem jb_X4_weigh (hx : p.tables.exec = Jvm.exec) (hb : c.code = cX4_weigh) (hml : c.maxLocals = 4) (hown : s.vm.findClass RX4 = some m.cls) (hts : ∀ w ∈ wsX4_weigh, w.before args s = true) (hK : va_K D vwCl (jx_ty cI cT) s) (hB : jx_inj B) (hN : jx_N s) (hRf : 2 ≤ R.frames) (hRl : 43 ≤ R.locals) {a1 : Int32} {a2 : Int32} {z : Int32 × jl_Mem} (h : jf_X4_weigh a1 a2 M = some z)
    (kr : ∀ (v : Int32) (M1 : jl_Mem) (H1 : Heap) (locs1 : List Loc) (pc1 : Nat) (ls1 : Array Slot), (v, M1) = z → decode cX4_weigh pc1 = .ok (.ireturn, 1) → va_P D vwCl (jx_w cI cT B M1) H1 → va_S (jx_A B) H0 H1 locs1 → W p l e R s m args below meth c H1 locs1 0 0 Q (F0 m pc1 ls1 [.int v]))
    (hP : va_P D vwCl (jx_w cI cT B M) H) (hS : va_S (jx_A B) H0 H locs) (hl : lv_has ls 4 [(0, .ref (B 0)), (1, .int a1), (2, .int a2)]) : W p l e R s m args below meth c H locs 0 0 Q (F0 m 0 ls []) := by
  unfold jf_X4_weigh at h
  have hiX4 : ∀ w ∈ wsX40, w ∈ wsX4_weigh := by decide +kernel
  have hiX0 : ∀ w ∈ wsX00, w ∈ wsX4_weigh := by decide +kernel
  have hiX1 : ∀ w ∈ wsX10, w ∈ wsX4_weigh := by decide +kernel
  have hf10 := hts (.fieldLink RX4 10 "JudgesLists" "board" "LJudgesLists$Board;") (by decide +kernel)
  have hf61 := hts (.fieldLink RX4 61 "JudgesLists$Board" "weights" "[I") (by decide +kernel)
  have hf21 := hts (.fieldLink RX4 21 "JudgesLists" "reader" "LJudgesLists$Reader;") (by decide +kernel)
  have hf36 := hts (.fieldLink RX4 36 "JudgesLists$Reader" "there" "Z") (by decide +kernel)
  refine lv_aload_n hx hb dX4_weigh_0 rfl (lv_at hl 0 rfl) ?_
  refine jx_g_X4_board hx hb hts hiX4 hown hK hP hf10 dX4_weigh_1 ?_
  refine lv_iload_n hx hb dX4_weigh_4 rfl (lv_at hl 1 rfl) ?_
  obtain ⟨r_5, M_5, hc_5, h⟩ := jl_bnd_o h
  refine jx_callVi (As := [.int a1]) (rest := []) ⟨hx, hb, hml, hown, hts⟩ (jc_X0_hasList hc_5) (cwV 1 hts gX4_weigh_X0_hasList rfl rfl rfl (by decide +kernel) ⟨Nat.le_trans (by decide) hRf, Nat.le_trans (by decide) hRl⟩) (jx_rv_X0 hK hP) hK hB hN hP hS rfl dX4_weigh_5 rfl hl.1 (Nat.le_of_ble_eq_true rfl) ⟨Nat.zero_le _, Nat.zero_le _⟩ (fun H locs hP hS => ?_)
  refine lv_if_ne (tgt := 13) hx hb dX4_weigh_8 (by decide) (fun c_8 => ?_) (fun c_8 => ?_)
  · have h := jl_iff c_8 h
    refine lv_iload_n hx hb dX4_weigh_13 rfl (lv_at hl 2 rfl) ?_
    refine lv_iconst (v := 0) hx hb dX4_weigh_14 (by decide) ?_
    refine lv_bipush (v := 10) hx hb dX4_weigh_15 (by decide) ?_
    obtain ⟨r_17, M_17, hc_17, h⟩ := jl_bnd_o h
    refine jx_callSi (As := [.int a2, .int 0, .int 10]) (rest := []) ⟨hx, hb, hml, hown, hts⟩ (jc_X4_within hc_17) (va_cwS 3 hts gX4_weigh_X4_within rfl rfl rfl (by decide +kernel) ⟨Nat.le_trans (by decide) hRf, Nat.le_trans (by decide) hRl⟩) hK hB hN hP hS rfl dX4_weigh_17 rfl hl.1 (Nat.le_of_ble_eq_true rfl) ⟨Nat.zero_le _, Nat.zero_le _⟩ (fun H locs hP hS => ?_)
    refine lv_if_ne (tgt := 26) hx hb dX4_weigh_20 (by decide) (fun c_20 => ?_) (fun c_20 => ?_)
    · have h := jl_iff c_20 h
      refine lv_aload_n hx hb dX4_weigh_26 rfl (lv_at hl 0 rfl) ?_
      refine jx_g_X4_board hx hb hts hiX4 hown hK hP hf10 dX4_weigh_27 ?_
      refine jx_g_X0_weights hx hb hts hiX0 hown hK hP hf61 dX4_weigh_30 ?_
      refine lv_iload_n hx hb dX4_weigh_33 rfl (lv_at hl 1 rfl) ?_
      obtain ⟨i_34, h⟩ := jl_chk_o h
      refine jx_iaload hx hb hK hP rfl i_34 dX4_weigh_34 ?_
      refine lv_topi (fun x3_35 ex3_35 => ?_)
      have h := jl_lt_o h ex3_35
      refine lv_istore_n (lv' := [(3, .int x3_35), (0, .ref (B 0)), (1, .int a1), (2, .int a2)]) hx hb dX4_weigh_35 rfl hl (by decide) rfl (fun ls hl => ?_)
      refine lv_iload_n hx hb dX4_weigh_36 rfl (lv_at hl 0 rfl) ?_
      refine lv_iload_n hx hb dX4_weigh_37 rfl (lv_at hl 3 rfl) ?_
      refine lv_icmp_eq (tgt := 49) hx hb dX4_weigh_38 (by decide) (fun c_38 => ?_) (fun c_38 => ?_)
      · have h := jl_ift c_38 h
        refine lv_aload_n hx hb dX4_weigh_49 rfl (lv_at hl 1 rfl) ?_
        refine jx_g_X4_board hx hb hts hiX4 hown hK hP hf10 dX4_weigh_50 ?_
        refine jx_g_X0_weights hx hb hts hiX0 hown hK hP hf61 dX4_weigh_53 ?_
        refine lv_iload_n hx hb dX4_weigh_56 rfl (lv_at hl 2 rfl) ?_
        refine lv_iload_n hx hb dX4_weigh_57 rfl (lv_at hl 3 rfl) ?_
        refine jx_iastore hx hb hK hB hP hS rfl i_34 dX4_weigh_58 (fun M_58 H locs eM_58 hP hS => ?_)
        have h := jl_lt_o h eM_58
        refine lv_iload_n hx hb dX4_weigh_59 rfl (lv_at hl 0 rfl) ?_
        exact kr _ _ _ _ _ _ (Option.some.inj h) dX4_weigh_60 hP hS
      · have h := jl_iff c_38 h
        refine lv_aload_n hx hb dX4_weigh_41 rfl (lv_at hl 1 rfl) ?_
        refine jx_g_X4_reader hx hb hts hiX4 hown hK hP hf21 dX4_weigh_42 ?_
        refine lv_iconst (v := 0) hx hb dX4_weigh_45 (by decide) ?_
        refine jx_p_X1_there hx hb hts hiX1 hown hK hB hP hS hf36 (by decide) dX4_weigh_46 (fun M_46 H locs eM_46 hP hS => ?_)
        have h := jl_lt_o h eM_46
        refine lv_aload_n hx hb dX4_weigh_49 rfl (lv_at hl 1 rfl) ?_
        refine jx_g_X4_board hx hb hts hiX4 hown hK hP hf10 dX4_weigh_50 ?_
        refine jx_g_X0_weights hx hb hts hiX0 hown hK hP hf61 dX4_weigh_53 ?_
        refine lv_iload_n hx hb dX4_weigh_56 rfl (lv_at hl 2 rfl) ?_
        refine lv_iload_n hx hb dX4_weigh_57 rfl (lv_at hl 3 rfl) ?_
        refine jx_iastore hx hb hK hB hP hS rfl i_34 dX4_weigh_58 (fun M_58 H locs eM_58 hP hS => ?_)
        have h := jl_lt_o h eM_58
        refine lv_iload_n hx hb dX4_weigh_59 rfl (lv_at hl 0 rfl) ?_
        exact kr _ _ _ _ _ _ (Option.some.inj h) dX4_weigh_60 hP hS
    · have h := jl_ift c_20 h
      refine lv_bipush (v := (-2)) hx hb dX4_weigh_23 (by decide) ?_
      exact kr _ _ _ _ _ _ (Option.some.inj h) dX4_weigh_25 hP hS
  · have h := jl_ift c_8 h
    refine lv_iconst (v := (-1)) hx hb dX4_weigh_11 (by decide) ?_
    exact kr _ _ _ _ _ _ (Option.some.inj h) dX4_weigh_12 hP hS
theorem jc_X4_weigh {a1 : Int32} {a2 : Int32} {z : Int32 × jl_Mem} (h : jf_X4_weigh a1 a2 M = some z) : Met l yX4_weigh wsX4_weigh ({ frames := 2, cells := 0, slots := 0, locals := 43 }) (va_Pc [.ref (B 0), .int a1, .int a2] (jx_U D cI cT B M)) (va_Qi (fun (q : Int32) (_ : Unit) => q = z.1) (fun _ t => va_P D vwCl (jx_w cI cT B z.2) t.heap) (jx_A B)) 0 0 (jx_A B) := by
  refine Met.ofW (cc := cX4_weigh) (maxL := 4) (ret := (some .int)) (by decide) rfl ?_
  intro p e s m args below meth c s1 BB hml hv
  obtain ⟨rfl, hK, hP, hB, hN⟩ := hv
  have hl := lv_entry ([.ref (B 0), .int a1, .int a2]) (n := 4) (Nat.le_of_ble_eq_true rfl)
  rw [lg_entry_eq]
  generalize (lg_sl ([.ref (B 0), .int a1, .int a2]) ++ List.replicate (4 - (lg_sl ([.ref (B 0), .int a1, .int a2])).length) Slot.unset).toArray = ls at hl ⊢
  exact jb_X4_weigh BB.exec BB.bytes hml (findClass_of_methodNamed BB.named) (atoms_spec (ws := wsX4_weigh) BB.pre) hK hB hN (Nat.le_refl _) (Nat.le_refl _) h (fun v M1 H locs pc ls e1 hd hP hS => W.iret BB.exec BB.bytes BB.returns (fun t ht hW => ⟨⟨_, (), rfl, by rw [← e1], by show va_P D vwCl (jx_w cI cT B z.2) t.heap; rw [ht, ← e1]; exact hP⟩, hS.F ht⟩) hS.2.2 hd BB.notSynchronized) hP va_S.rf hl
end
section
variable {p : Program} {l : Launch} {e : Env} {R : Room} {s : State} {m : MethodId} {args : Array Value} {below : List Frame} {meth : Method} {c : Code} {H : Heap} {locs : List Loc} {Q : State → Prop} {ls : Array Slot} {D : va_G} {cI cT : ClassId} {B : Nat → Nat} {M : jl_Mem} {H0 : Heap}
set_option maxHeartbeats 4000000 in
set_option maxRecDepth 100000 in
theorem jb_X4_rule (hx : p.tables.exec = Jvm.exec) (hb : c.code = cX4_rule) (hml : c.maxLocals = 3) (hown : s.vm.findClass RX4 = some m.cls) (hts : ∀ w ∈ wsX4_rule, w.before args s = true) (hK : va_K D vwCl (jx_ty cI cT) s) (hB : jx_inj B) (hN : jx_N s) (hRf : 1 ≤ R.frames) (hRl : 22 ≤ R.locals) {a1 : Int32} {z : Int32 × jl_Mem} (h : jf_X4_rule a1 M = some z)
    (kr : ∀ (v : Int32) (M1 : jl_Mem) (H1 : Heap) (locs1 : List Loc) (pc1 : Nat) (ls1 : Array Slot), (v, M1) = z → decode cX4_rule pc1 = .ok (.ireturn, 1) → va_P D vwCl (jx_w cI cT B M1) H1 → va_S (jx_A B) H0 H1 locs1 → W p l e R s m args below meth c H1 locs1 0 0 Q (F0 m pc1 ls1 [.int v]))
    (hP : va_P D vwCl (jx_w cI cT B M) H) (hS : va_S (jx_A B) H0 H locs) (hl : lv_has ls 3 [(0, .ref (B 0)), (1, .int a1)]) : W p l e R s m args below meth c H locs 0 0 Q (F0 m 0 ls []) := by
  unfold jf_X4_rule at h
  have hiX4 : ∀ w ∈ wsX40, w ∈ wsX4_rule := by decide +kernel
  have hiX0 : ∀ w ∈ wsX00, w ∈ wsX4_rule := by decide +kernel
  have hiX1 : ∀ w ∈ wsX10, w ∈ wsX4_rule := by decide +kernel
  have hf10 := hts (.fieldLink RX4 10 "JudgesLists" "board" "LJudgesLists$Board;") (by decide +kernel)
  have hf65 := hts (.fieldLink RX4 65 "JudgesLists$Board" "theRule" "I") (by decide +kernel)
  have hf21 := hts (.fieldLink RX4 21 "JudgesLists" "reader" "LJudgesLists$Reader;") (by decide +kernel)
  have hf36 := hts (.fieldLink RX4 36 "JudgesLists$Reader" "there" "Z") (by decide +kernel)
  refine lv_iload_n hx hb dX4_rule_0 rfl (lv_at hl 1 rfl) ?_
  refine lv_iconst (v := 0) hx hb dX4_rule_1 (by decide) ?_
  refine lv_iconst (v := 2) hx hb dX4_rule_2 (by decide) ?_
  obtain ⟨r_3, M_3, hc_3, h⟩ := jl_bnd_o h
  refine jx_callSi (As := [.int a1, .int 0, .int 2]) (rest := []) ⟨hx, hb, hml, hown, hts⟩ (jc_X4_within hc_3) (va_cwS 3 hts gX4_rule_X4_within rfl rfl rfl (by decide +kernel) ⟨Nat.le_trans (by decide) hRf, Nat.le_trans (by decide) hRl⟩) hK hB hN hP hS rfl dX4_rule_3 rfl hl.1 (Nat.le_of_ble_eq_true rfl) ⟨Nat.zero_le _, Nat.zero_le _⟩ (fun H locs hP hS => ?_)
  refine lv_if_ne (tgt := 12) hx hb dX4_rule_6 (by decide) (fun c_6 => ?_) (fun c_6 => ?_)
  · have h := jl_iff c_6 h
    refine lv_aload_n hx hb dX4_rule_12 rfl (lv_at hl 0 rfl) ?_
    refine jx_g_X4_board hx hb hts hiX4 hown hK hP hf10 dX4_rule_13 ?_
    refine jx_g_X0_theRule hx hb hts hiX0 hown hK hP hf65 dX4_rule_16 ?_
    refine lv_topi (fun x2_19 ex2_19 => ?_)
    have h := jl_lt_o h ex2_19
    refine lv_istore_n (lv' := [(2, .int x2_19), (0, .ref (B 0)), (1, .int a1)]) hx hb dX4_rule_19 rfl hl (by decide) rfl (fun ls hl => ?_)
    refine lv_iload_n hx hb dX4_rule_20 rfl (lv_at hl 0 rfl) ?_
    refine lv_iload_n hx hb dX4_rule_21 rfl (lv_at hl 2 rfl) ?_
    refine lv_icmp_eq (tgt := 33) hx hb dX4_rule_22 (by decide) (fun c_22 => ?_) (fun c_22 => ?_)
    · have h := jl_ift c_22 h
      refine lv_aload_n hx hb dX4_rule_33 rfl (lv_at hl 1 rfl) ?_
      refine jx_g_X4_board hx hb hts hiX4 hown hK hP hf10 dX4_rule_34 ?_
      refine lv_iload_n hx hb dX4_rule_37 rfl (lv_at hl 2 rfl) ?_
      refine jx_p_X0_theRule hx hb hts hiX0 hown hK hB hP hS hf65 dX4_rule_38 (fun M_38 H locs eM_38 hP hS => ?_)
      have h := jl_lt_o h eM_38
      refine lv_iload_n hx hb dX4_rule_41 rfl (lv_at hl 0 rfl) ?_
      exact kr _ _ _ _ _ _ (Option.some.inj h) dX4_rule_42 hP hS
    · have h := jl_iff c_22 h
      refine lv_aload_n hx hb dX4_rule_25 rfl (lv_at hl 1 rfl) ?_
      refine jx_g_X4_reader hx hb hts hiX4 hown hK hP hf21 dX4_rule_26 ?_
      refine lv_iconst (v := 0) hx hb dX4_rule_29 (by decide) ?_
      refine jx_p_X1_there hx hb hts hiX1 hown hK hB hP hS hf36 (by decide) dX4_rule_30 (fun M_30 H locs eM_30 hP hS => ?_)
      have h := jl_lt_o h eM_30
      refine lv_aload_n hx hb dX4_rule_33 rfl (lv_at hl 1 rfl) ?_
      refine jx_g_X4_board hx hb hts hiX4 hown hK hP hf10 dX4_rule_34 ?_
      refine lv_iload_n hx hb dX4_rule_37 rfl (lv_at hl 2 rfl) ?_
      refine jx_p_X0_theRule hx hb hts hiX0 hown hK hB hP hS hf65 dX4_rule_38 (fun M_38 H locs eM_38 hP hS => ?_)
      have h := jl_lt_o h eM_38
      refine lv_iload_n hx hb dX4_rule_41 rfl (lv_at hl 0 rfl) ?_
      exact kr _ _ _ _ _ _ (Option.some.inj h) dX4_rule_42 hP hS
  · have h := jl_ift c_6 h
    refine lv_bipush (v := (-2)) hx hb dX4_rule_9 (by decide) ?_
    exact kr _ _ _ _ _ _ (Option.some.inj h) dX4_rule_11 hP hS
theorem jc_X4_rule {a1 : Int32} {z : Int32 × jl_Mem} (h : jf_X4_rule a1 M = some z) : Met l yX4_rule wsX4_rule ({ frames := 1, cells := 0, slots := 0, locals := 22 }) (va_Pc [.ref (B 0), .int a1] (jx_U D cI cT B M)) (va_Qi (fun (q : Int32) (_ : Unit) => q = z.1) (fun _ t => va_P D vwCl (jx_w cI cT B z.2) t.heap) (jx_A B)) 0 0 (jx_A B) := by
  refine Met.ofW (cc := cX4_rule) (maxL := 3) (ret := (some .int)) (by decide) rfl ?_
  intro p e s m args below meth c s1 BB hml hv
  obtain ⟨rfl, hK, hP, hB, hN⟩ := hv
  have hl := lv_entry ([.ref (B 0), .int a1]) (n := 3) (Nat.le_of_ble_eq_true rfl)
  rw [lg_entry_eq]
  generalize (lg_sl ([.ref (B 0), .int a1]) ++ List.replicate (3 - (lg_sl ([.ref (B 0), .int a1])).length) Slot.unset).toArray = ls at hl ⊢
  exact jb_X4_rule BB.exec BB.bytes hml (findClass_of_methodNamed BB.named) (atoms_spec (ws := wsX4_rule) BB.pre) hK hB hN (Nat.le_refl _) (Nat.le_refl _) h (fun v M1 H locs pc ls e1 hd hP hS => W.iret BB.exec BB.bytes BB.returns (fun t ht hW => ⟨⟨_, (), rfl, by rw [← e1], by show va_P D vwCl (jx_w cI cT B z.2) t.heap; rw [ht, ← e1]; exact hP⟩, hS.F ht⟩) hS.2.2 hd BB.notSynchronized) hP va_S.rf hl
end
section
variable {p : Program} {l : Launch} {e : Env} {R : Room} {s : State} {m : MethodId} {args : Array Value} {below : List Frame} {meth : Method} {c : Code} {H : Heap} {locs : List Loc} {Q : State → Prop} {ls : Array Slot} {D : va_G} {cI cT : ClassId} {B : Nat → Nat} {M : jl_Mem} {H0 : Heap}
set_option maxHeartbeats 4000000 in
set_option maxRecDepth 100000 in
theorem jb_X4_about (hx : p.tables.exec = Jvm.exec) (hb : c.code = cX4_about) (hml : c.maxLocals = 3) (hown : s.vm.findClass RX4 = some m.cls) (hts : ∀ w ∈ wsX4_about, w.before args s = true) (hK : va_K D vwCl (jx_ty cI cT) s) (hB : jx_inj B) (hN : jx_N s) (hRf : 2 ≤ R.frames) (hRl : 43 ≤ R.locals) {a1 : Int32} {a2 : Int32} {z : Int32 × jl_Mem} (h : jf_X4_about a1 a2 M = some z)
    (kr : ∀ (v : Int32) (M1 : jl_Mem) (H1 : Heap) (locs1 : List Loc) (pc1 : Nat) (ls1 : Array Slot), (v, M1) = z → decode cX4_about pc1 = .ok (.ireturn, 1) → va_P D vwCl (jx_w cI cT B M1) H1 → va_S (jx_A B) H0 H1 locs1 → W p l e R s m args below meth c H1 locs1 0 0 Q (F0 m pc1 ls1 [.int v]))
    (hP : va_P D vwCl (jx_w cI cT B M) H) (hS : va_S (jx_A B) H0 H locs) (hl : lv_has ls 3 [(0, .ref (B 0)), (1, .int a1), (2, .int a2)]) : W p l e R s m args below meth c H locs 0 0 Q (F0 m 0 ls []) := by
  unfold jf_X4_about at h
  have hiX4 : ∀ w ∈ wsX40, w ∈ wsX4_about := by decide +kernel
  have hiX0 : ∀ w ∈ wsX00, w ∈ wsX4_about := by decide +kernel
  have hf10 := hts (.fieldLink RX4 10 "JudgesLists" "board" "LJudgesLists$Board;") (by decide +kernel)
  have hf61 := hts (.fieldLink RX4 61 "JudgesLists$Board" "weights" "[I") (by decide +kernel)
  have hf68 := hts (.fieldLink RX4 68 "JudgesLists$Board" "downs" "[I") (by decide +kernel)
  have hf71 := hts (.fieldLink RX4 71 "JudgesLists$Board" "ups" "[I") (by decide +kernel)
  have hf74 := hts (.fieldLink RX4 74 "JudgesLists$Board" "lengths" "[I") (by decide +kernel)
  refine lv_aload_n hx hb dX4_about_0 rfl (lv_at hl 0 rfl) ?_
  refine jx_g_X4_board hx hb hts hiX4 hown hK hP hf10 dX4_about_1 ?_
  refine lv_iload_n hx hb dX4_about_4 rfl (lv_at hl 1 rfl) ?_
  obtain ⟨r_5, M_5, hc_5, h⟩ := jl_bnd_o h
  refine jx_callVi (As := [.int a1]) (rest := []) ⟨hx, hb, hml, hown, hts⟩ (jc_X0_hasList hc_5) (cwV 1 hts gX4_about_X0_hasList rfl rfl rfl (by decide +kernel) ⟨Nat.le_trans (by decide) hRf, Nat.le_trans (by decide) hRl⟩) (jx_rv_X0 hK hP) hK hB hN hP hS rfl dX4_about_5 rfl hl.1 (Nat.le_of_ble_eq_true rfl) ⟨Nat.zero_le _, Nat.zero_le _⟩ (fun H locs hP hS => ?_)
  refine lv_if_ne (tgt := 13) hx hb dX4_about_8 (by decide) (fun c_8 => ?_) (fun c_8 => ?_)
  · have h := jl_iff c_8 h
    refine lv_iload_n hx hb dX4_about_13 rfl (lv_at hl 2 rfl) ?_
    rcases Decidable.em (a2 = 0) with c0_14 | c0_14
    · have h := jl_ift c0_14 h
      refine lv_tableIn (tgt := 44) (off := 30) hx hb dX4_about_14 (by rw [c0_14]; decide) (by rw [c0_14]; decide) (by rw [c0_14]; rfl) (by decide) ?_
      refine lv_aload_n hx hb dX4_about_44 rfl (lv_at hl 0 rfl) ?_
      refine jx_g_X4_board hx hb hts hiX4 hown hK hP hf10 dX4_about_45 ?_
      refine jx_g_X0_weights hx hb hts hiX0 hown hK hP hf61 dX4_about_48 ?_
      refine lv_iload_n hx hb dX4_about_51 rfl (lv_at hl 1 rfl) ?_
      obtain ⟨i_52, h⟩ := jl_chk_o h
      refine jx_iaload hx hb hK hP rfl i_52 dX4_about_52 ?_
      exact kr _ _ _ _ _ _ (Option.some.inj h) dX4_about_53 hP hS
    · have h := jl_iff c0_14 h
      rcases Decidable.em (a2 = 1) with c1_14 | c1_14
      · have h := jl_ift c1_14 h
        refine lv_tableIn (tgt := 54) (off := 40) hx hb dX4_about_14 (by rw [c1_14]; decide) (by rw [c1_14]; decide) (by rw [c1_14]; rfl) (by decide) ?_
        refine lv_aload_n hx hb dX4_about_54 rfl (lv_at hl 0 rfl) ?_
        refine jx_g_X4_board hx hb hts hiX4 hown hK hP hf10 dX4_about_55 ?_
        refine jx_g_X0_downs hx hb hts hiX0 hown hK hP hf68 dX4_about_58 ?_
        refine lv_iload_n hx hb dX4_about_61 rfl (lv_at hl 1 rfl) ?_
        obtain ⟨i_62, h⟩ := jl_chk_o h
        refine jx_iaload hx hb hK hP rfl i_62 dX4_about_62 ?_
        exact kr _ _ _ _ _ _ (Option.some.inj h) dX4_about_63 hP hS
      · have h := jl_iff c1_14 h
        rcases Decidable.em (a2 = 2) with c2_14 | c2_14
        · have h := jl_ift c2_14 h
          refine lv_tableIn (tgt := 64) (off := 50) hx hb dX4_about_14 (by rw [c2_14]; decide) (by rw [c2_14]; decide) (by rw [c2_14]; rfl) (by decide) ?_
          refine lv_aload_n hx hb dX4_about_64 rfl (lv_at hl 0 rfl) ?_
          refine jx_g_X4_board hx hb hts hiX4 hown hK hP hf10 dX4_about_65 ?_
          refine jx_g_X0_ups hx hb hts hiX0 hown hK hP hf71 dX4_about_68 ?_
          refine lv_iload_n hx hb dX4_about_71 rfl (lv_at hl 1 rfl) ?_
          obtain ⟨i_72, h⟩ := jl_chk_o h
          refine jx_iaload hx hb hK hP rfl i_72 dX4_about_72 ?_
          exact kr _ _ _ _ _ _ (Option.some.inj h) dX4_about_73 hP hS
        · have h := jl_iff c2_14 h
          rcases Decidable.em (a2 = 3) with c3_14 | c3_14
          · have h := jl_ift c3_14 h
            refine lv_tableIn (tgt := 74) (off := 60) hx hb dX4_about_14 (by rw [c3_14]; decide) (by rw [c3_14]; decide) (by rw [c3_14]; rfl) (by decide) ?_
            refine lv_aload_n hx hb dX4_about_74 rfl (lv_at hl 0 rfl) ?_
            refine jx_g_X4_board hx hb hts hiX4 hown hK hP hf10 dX4_about_75 ?_
            refine jx_g_X0_lengths hx hb hts hiX0 hown hK hP hf74 dX4_about_78 ?_
            refine lv_iload_n hx hb dX4_about_81 rfl (lv_at hl 1 rfl) ?_
            obtain ⟨i_82, h⟩ := jl_chk_o h
            refine jx_iaload hx hb hK hP rfl i_82 dX4_about_82 ?_
            exact kr _ _ _ _ _ _ (Option.some.inj h) dX4_about_83 hP hS
          · have h := jl_iff c3_14 h
            have hd : (a2).toInt < 0 ∨ ((4 : Nat) : Int) - 1 < (a2).toInt := jl_tab 4 (by decide) (fun k hk => match k, hk with
            | 0, _ => c0_14
            | 1, _ => c1_14
            | 2, _ => c2_14
            | 3, _ => c3_14
            | k + 4, hk => absurd hk (by omega))
            refine lv_tableOut (tgt := 84) hx hb dX4_about_14 (hd.imp id (fun q => by omega)) (by decide) ?_
            refine lv_iconst (v := (-1)) hx hb dX4_about_84 (by decide) ?_
            exact kr _ _ _ _ _ _ (Option.some.inj h) dX4_about_85 hP hS
  · have h := jl_ift c_8 h
    refine lv_iconst (v := (-1)) hx hb dX4_about_11 (by decide) ?_
    exact kr _ _ _ _ _ _ (Option.some.inj h) dX4_about_12 hP hS
theorem jc_X4_about {a1 : Int32} {a2 : Int32} {z : Int32 × jl_Mem} (h : jf_X4_about a1 a2 M = some z) : Met l yX4_about wsX4_about ({ frames := 2, cells := 0, slots := 0, locals := 43 }) (va_Pc [.ref (B 0), .int a1, .int a2] (jx_U D cI cT B M)) (va_Qi (fun (q : Int32) (_ : Unit) => q = z.1) (fun _ t => va_P D vwCl (jx_w cI cT B z.2) t.heap) (jx_A B)) 0 0 (jx_A B) := by
  refine Met.ofW (cc := cX4_about) (maxL := 3) (ret := (some .int)) (by decide) rfl ?_
  intro p e s m args below meth c s1 BB hml hv
  obtain ⟨rfl, hK, hP, hB, hN⟩ := hv
  have hl := lv_entry ([.ref (B 0), .int a1, .int a2]) (n := 3) (Nat.le_of_ble_eq_true rfl)
  rw [lg_entry_eq]
  generalize (lg_sl ([.ref (B 0), .int a1, .int a2]) ++ List.replicate (3 - (lg_sl ([.ref (B 0), .int a1, .int a2])).length) Slot.unset).toArray = ls at hl ⊢
  exact jb_X4_about BB.exec BB.bytes hml (findClass_of_methodNamed BB.named) (atoms_spec (ws := wsX4_about) BB.pre) hK hB hN (Nat.le_refl _) (Nat.le_refl _) h (fun v M1 H locs pc ls e1 hd hP hS => W.iret BB.exec BB.bytes BB.returns (fun t ht hW => ⟨⟨_, (), rfl, by rw [← e1], by show va_P D vwCl (jx_w cI cT B z.2) t.heap; rw [ht, ← e1]; exact hP⟩, hS.F ht⟩) hS.2.2 hd BB.notSynchronized) hP va_S.rf hl
end
