section
variable {p : Program} {l : Launch} {e : Env} {R : Room} {s : State} {m : MethodId} {args : Array Value} {below : List Frame} {meth : Method} {c : Code} {H : Heap} {locs : List Loc} {Q : State → Prop} {ls : Array Slot} {D : va_G} {cI cT : ClassId} {B : Nat → Nat} {M : jl_Mem} {H0 : Heap}
set_option maxHeartbeats 4000000 in
set_option maxRecDepth 100000 in
theorem jb_X1_seeNextPlace (hx : p.tables.exec = Jvm.exec) (hb : c.code = cX1_seeNextPlace) (hml : c.maxLocals = 3) (hown : s.vm.findClass RX1 = some m.cls) (hts : ∀ w ∈ wsX1_seeNextPlace, w.before args s = true) (hK : va_K D vwCl (jx_ty cI cT) s) (hB : jx_inj B) (hN : jx_N s) (hRf : 4 ≤ R.frames) (hRl : 92 ≤ R.locals) {a1 : Int32} {z : Int32 × jl_Mem} (h : jf_X1_seeNextPlace a1 M = some z)
    (kr : ∀ (v : Int32) (M1 : jl_Mem) (H1 : Heap) (locs1 : List Loc) (pc1 : Nat) (ls1 : Array Slot), (v, M1) = z → decode cX1_seeNextPlace pc1 = .ok (.ireturn, 1) → va_P D vwCl (jx_w cI cT B M1) H1 → va_S (jx_A B) H0 H1 locs1 → W p l e R s m args below meth c H1 locs1 0 0 Q (F0 m pc1 ls1 [.int v]))
    (hP : va_P D vwCl (jx_w cI cT B M) H) (hS : va_S (jx_A B) H0 H locs) (hl : lv_has ls 3 [(0, .ref (B 23)), (1, .int a1)]) : W p l e R s m args below meth c H locs 0 0 Q (F0 m 0 ls []) := by
  unfold jf_X1_seeNextPlace at h
  have hiX1 : ∀ w ∈ wsX10, w ∈ wsX1_seeNextPlace := by decide +kernel
  have hiX0 : ∀ w ∈ wsX00, w ∈ wsX1_seeNextPlace := by decide +kernel
  have hiX2 : ∀ w ∈ wsX20, w ∈ wsX1_seeNextPlace := by decide +kernel
  have hf9 := hts (.fieldLink RX1 9 "JudgesLists$Reader" "board" "LJudgesLists$Board;") (by decide +kernel)
  have hf77 := hts (.fieldLink RX1 77 "JudgesLists$Board" "rows" "[[I") (by decide +kernel)
  have hf20 := hts (.fieldLink RX1 20 "JudgesLists$Reader" "sight" "LJudgesLists$Sight;") (by decide +kernel)
  have hf81 := hts (.fieldLink RX1 81 "JudgesLists$Sight" "depths" "[I") (by decide +kernel)
  have hf44 := hts (.fieldLink RX1 44 "JudgesLists$Reader" "cost" "I") (by decide +kernel)
  have hf85 := hts (.fieldLink RX1 85 "JudgesLists$Board" "downs" "[I") (by decide +kernel)
  have hf32 := hts (.fieldLink RX1 32 "JudgesLists$Reader" "wanted" "I") (by decide +kernel)
  have hf54 := hts (.fieldLink RX1 54 "JudgesLists$Reader" "done" "Z") (by decide +kernel)
  refine lv_aload_n hx hb dX1_seeNextPlace_0 rfl (lv_at hl 0 rfl) ?_
  refine jx_g_X1_board hx hb hts hiX1 hown hK hP hf9 dX1_seeNextPlace_1 ?_
  refine jx_g_X0_rows hx hb hts hiX0 hown hK hP hf77 dX1_seeNextPlace_4 ?_
  refine lv_iload_n hx hb dX1_seeNextPlace_7 rfl (lv_at hl 1 rfl) ?_
  obtain ⟨i_8, h⟩ := jl_chk_o h
  refine jx_aaload11 hx hb hK hP i_8 dX1_seeNextPlace_8 ?_
  refine lv_aload_n hx hb dX1_seeNextPlace_9 rfl (lv_at hl 0 rfl) ?_
  refine jx_g_X1_sight hx hb hts hiX1 hown hK hP hf20 dX1_seeNextPlace_10 ?_
  refine jx_g_X2_depths hx hb hts hiX2 hown hK hP (ts := 24) (Or.inl rfl) hf81 dX1_seeNextPlace_13 ?_
  refine lv_iload_n hx hb dX1_seeNextPlace_16 rfl (lv_at hl 1 rfl) ?_
  refine jx_iaload hx hb hK hP rfl i_8 dX1_seeNextPlace_17 ?_
  obtain ⟨i_18, h⟩ := jl_chk_o h
  refine jx_iaload hx hb hK hP (jx_lr12 i_8) i_18 dX1_seeNextPlace_18 ?_
  refine lv_topi (fun x2_19 ex2_19 => ?_)
  have h := jl_lt_o h ex2_19
  refine lv_istore_n (lv' := [(2, .int x2_19), (0, .ref (B 23)), (1, .int a1)]) hx hb dX1_seeNextPlace_19 rfl hl (by decide) rfl (fun ls hl => ?_)
  refine lv_aload_n hx hb dX1_seeNextPlace_20 rfl (lv_at hl 1 rfl) ?_
  refine jx_g_X1_sight hx hb hts hiX1 hown hK hP hf20 dX1_seeNextPlace_21 ?_
  refine jx_g_X2_depths hx hb hts hiX2 hown hK hP (ts := 24) (Or.inl rfl) hf81 dX1_seeNextPlace_24 ?_
  refine lv_iload_n hx hb dX1_seeNextPlace_27 rfl (lv_at hl 2 rfl) ?_
  refine lv_dup2_11 hx hb dX1_seeNextPlace_28 rfl rfl ?_
  refine jx_iaload hx hb hK hP rfl i_8 dX1_seeNextPlace_29 ?_
  refine lv_iconst (v := 1) hx hb dX1_seeNextPlace_30 (by decide) ?_
  refine lv_iadd hx hb dX1_seeNextPlace_31 ?_
  refine jx_iastore hx hb hK hB hP hS rfl i_8 dX1_seeNextPlace_32 (fun M_32 H locs eM_32 hP hS => ?_)
  have h := jl_lt_o h eM_32
  refine lv_aload_n hx hb dX1_seeNextPlace_33 rfl (lv_at hl 1 rfl) ?_
  refine lv_dup hx hb dX1_seeNextPlace_34 rfl ?_
  refine jx_g_X1_cost hx hb hts hiX1 hown hK hP hf44 dX1_seeNextPlace_35 ?_
  refine lv_aload_n hx hb dX1_seeNextPlace_38 rfl (lv_at hl 1 rfl) ?_
  refine jx_g_X1_board hx hb hts hiX1 hown hK hP hf9 dX1_seeNextPlace_39 ?_
  refine jx_g_X0_downs hx hb hts hiX0 hown hK hP hf85 dX1_seeNextPlace_42 ?_
  refine lv_iload_n hx hb dX1_seeNextPlace_45 rfl (lv_at hl 2 rfl) ?_
  refine jx_iaload hx hb hK hP rfl i_8 dX1_seeNextPlace_46 ?_
  refine lv_iadd hx hb dX1_seeNextPlace_47 ?_
  refine jx_p_X1_cost hx hb hts hiX1 hown hK hB hP hS hf44 dX1_seeNextPlace_48 (fun M_48 H locs eM_48 hP hS => ?_)
  have h := jl_lt_o h eM_48
  refine lv_aload_n hx hb dX1_seeNextPlace_51 rfl (lv_at hl 1 rfl) ?_
  refine lv_aload_n hx hb dX1_seeNextPlace_52 rfl (lv_at hl 1 rfl) ?_
  refine jx_g_X1_sight hx hb hts hiX1 hown hK hP hf20 dX1_seeNextPlace_53 ?_
  refine lv_aload_n hx hb dX1_seeNextPlace_56 rfl (lv_at hl 1 rfl) ?_
  refine jx_g_X1_wanted hx hb hts hiX1 hown hK hP hf32 dX1_seeNextPlace_57 ?_
  obtain ⟨r_60, M_60, hc_60, h⟩ := jl_bnd_o h
  refine jx_callVi (As := [.int (M_48 23 5)]) (rest := [.ref (B 23)]) ⟨hx, hb, hml, hown, hts⟩ (jc_X2_isSure (ts := 24) (Or.inl rfl) hc_60) (cwV 1 hts gX1_seeNextPlace_X2_isSure rfl rfl rfl (by decide +kernel) ⟨Nat.le_trans (by decide) hRf, Nat.le_trans (by decide) hRl⟩) (jx_rv_X2 hK hP (ts := 24) (Or.inl rfl)) hK hB hN hP hS rfl dX1_seeNextPlace_60 rfl hl.1 (Nat.le_of_ble_eq_true rfl) ⟨Nat.zero_le _, Nat.zero_le _⟩ (fun H locs hP hS => ?_)
  obtain ⟨i_63, h⟩ := jl_chk_o h
  refine jx_p_X1_done hx hb hts hiX1 hown hK hB hP hS hf54 i_63 dX1_seeNextPlace_63 (fun M_63 H locs eM_63 hP hS => ?_)
  have h := jl_lt_o h eM_63
  refine lv_iload_n hx hb dX1_seeNextPlace_66 rfl (lv_at hl 0 rfl) ?_
  exact kr _ _ _ _ _ _ (Option.some.inj h) dX1_seeNextPlace_67 hP hS
theorem jc_X1_seeNextPlace {a1 : Int32} {z : Int32 × jl_Mem} (h : jf_X1_seeNextPlace a1 M = some z) : Met l yX1_seeNextPlace wsX1_seeNextPlace ({ frames := 4, cells := 0, slots := 0, locals := 92 }) (va_Pc [.ref (B 23), .int a1] (jx_U D cI cT B M)) (va_Qi (fun (q : Int32) (_ : Unit) => q = z.1) (fun _ t => va_P D vwCl (jx_w cI cT B z.2) t.heap) (jx_A B)) 0 0 (jx_A B) := by
  refine Met.ofW (cc := cX1_seeNextPlace) (maxL := 3) (ret := (some .int)) (by decide) rfl ?_
  intro p e s m args below meth c s1 BB hml hv
  obtain ⟨rfl, hK, hP, hB, hN⟩ := hv
  have hl := lv_entry ([.ref (B 23), .int a1]) (n := 3) (Nat.le_of_ble_eq_true rfl)
  rw [lg_entry_eq]
  generalize (lg_sl ([.ref (B 23), .int a1]) ++ List.replicate (3 - (lg_sl ([.ref (B 23), .int a1])).length) Slot.unset).toArray = ls at hl ⊢
  exact jb_X1_seeNextPlace BB.exec BB.bytes hml (findClass_of_methodNamed BB.named) (atoms_spec (ws := wsX1_seeNextPlace) BB.pre) hK hB hN (Nat.le_refl _) (Nat.le_refl _) h (fun v M1 H locs pc ls e1 hd hP hS => W.iret BB.exec BB.bytes BB.returns (fun t ht hW => ⟨⟨_, (), rfl, by rw [← e1], by show va_P D vwCl (jx_w cI cT B z.2) t.heap; rw [ht, ← e1]; exact hP⟩, hS.F ht⟩) hS.2.2 hd BB.notSynchronized) hP va_S.rf hl
end
section
variable {p : Program} {l : Launch} {e : Env} {R : Room} {s : State} {m : MethodId} {args : Array Value} {below : List Frame} {meth : Method} {c : Code} {H : Heap} {locs : List Loc} {Q : State → Prop} {ls : Array Slot} {D : va_G} {cI cT : ClassId} {B : Nat → Nat} {M : jl_Mem} {H0 : Heap}
set_option maxHeartbeats 4000000 in
set_option maxRecDepth 100000 in
theorem jb_X2_mayBeLookedUp (hx : p.tables.exec = Jvm.exec) (hb : c.code = cX2_mayBeLookedUp) (hml : c.maxLocals = 3) (hown : s.vm.findClass RX2 = some m.cls) (hts : ∀ w ∈ wsX2_mayBeLookedUp, w.before args s = true) (hK : va_K D vwCl (jx_ty cI cT) s) (hB : jx_inj B) (hN : jx_N s) (hRf : 2 ≤ R.frames) (hRl : 44 ≤ R.locals) {ts : Nat} (hs : jx_isS ts) {a1 : Int32} {a2 : Int32} {z : Int32 × jl_Mem} (h : jf_X2_mayBeLookedUp ts a1 a2 M = some z)
    (kr : ∀ (v : Int32) (M1 : jl_Mem) (H1 : Heap) (locs1 : List Loc) (pc1 : Nat) (ls1 : Array Slot), (v, M1) = z → jl_isB v = true → decode cX2_mayBeLookedUp pc1 = .ok (.ireturn, 1) → va_P D vwCl (jx_w cI cT B M1) H1 → va_S (jx_A B) H0 H1 locs1 → W p l e R s m args below meth c H1 locs1 0 0 Q (F0 m pc1 ls1 [.int v]))
    (hP : va_P D vwCl (jx_w cI cT B M) H) (hS : va_S (jx_A B) H0 H locs) (hl : lv_has ls 3 [(0, .ref (B ts)), (1, .int a1), (2, .int a2)]) : W p l e R s m args below meth c H locs 0 0 Q (F0 m 0 ls []) := by
  unfold jf_X2_mayBeLookedUp at h
  have hiX2 : ∀ w ∈ wsX20, w ∈ wsX2_mayBeLookedUp := by decide +kernel
  have hiX0 : ∀ w ∈ wsX00, w ∈ wsX2_mayBeLookedUp := by decide +kernel
  have hf24 := hts (.fieldLink RX2 24 "JudgesLists$Sight" "board" "LJudgesLists$Board;") (by decide +kernel)
  have hf52 := hts (.fieldLink RX2 52 "JudgesLists$Board" "ups" "[I") (by decide +kernel)
  refine lv_aload_n hx hb dX2_mayBeLookedUp_0 rfl (lv_at hl 0 rfl) ?_
  refine jx_g_X2_board hx hb hts hiX2 hown hK hP hs hf24 dX2_mayBeLookedUp_1 ?_
  refine jx_g_X0_ups hx hb hts hiX0 hown hK hP hf52 dX2_mayBeLookedUp_4 ?_
  refine lv_iload_n hx hb dX2_mayBeLookedUp_7 rfl (lv_at hl 1 rfl) ?_
  obtain ⟨i_8, h⟩ := jl_chk_o h
  refine jx_iaload hx hb hK hP rfl i_8 dX2_mayBeLookedUp_8 ?_
  refine lv_if_le (tgt := 25) hx hb dX2_mayBeLookedUp_9 (by decide) (fun c_9 => ?_) (fun c_9 => ?_)
  · have h := jl_ift c_9 h
    refine lv_iconst (v := 0) hx hb dX2_mayBeLookedUp_25 (by decide) ?_
    exact kr _ _ _ _ _ _ (Option.some.inj h) (by decide) dX2_mayBeLookedUp_26 hP hS
  · have h := jl_iff c_9 h
    refine lv_aload_n hx hb dX2_mayBeLookedUp_12 rfl (lv_at hl 0 rfl) ?_
    refine lv_iload_n hx hb dX2_mayBeLookedUp_13 rfl (lv_at hl 1 rfl) ?_
    refine lv_iload_n hx hb dX2_mayBeLookedUp_14 rfl (lv_at hl 2 rfl) ?_
    obtain ⟨r_15, M_15, hc_15, h⟩ := jl_bnd_o h
    refine jx_callVi (As := [.int a1, .int a2]) (rest := []) ⟨hx, hb, hml, hown, hts⟩ (jc_X2_isKnown hs hc_15) (cwV 2 hts gX2_mayBeLookedUp_X2_isKnown rfl rfl rfl (by decide +kernel) ⟨Nat.le_trans (by decide) hRf, Nat.le_trans (by decide) hRl⟩) (jx_rv_X2 hK hP hs) hK hB hN hP hS rfl dX2_mayBeLookedUp_15 rfl hl.1 (Nat.le_of_ble_eq_true rfl) ⟨Nat.zero_le _, Nat.zero_le _⟩ (fun H locs hP hS => ?_)
    refine lv_if_ne (tgt := 25) hx hb dX2_mayBeLookedUp_18 (by decide) (fun c_18 => ?_) (fun c_18 => ?_)
    · have h := jl_iff c_18 h
      refine lv_iconst (v := 0) hx hb dX2_mayBeLookedUp_25 (by decide) ?_
      exact kr _ _ _ _ _ _ (Option.some.inj h) (by decide) dX2_mayBeLookedUp_26 hP hS
    · have h := jl_ift c_18 h
      refine lv_iconst (v := 1) hx hb dX2_mayBeLookedUp_21 (by decide) ?_
      refine lv_goto (tgt := 26) hx hb dX2_mayBeLookedUp_22 (by decide) ?_
      exact kr _ _ _ _ _ _ (Option.some.inj h) (by decide) dX2_mayBeLookedUp_26 hP hS
theorem jc_X2_mayBeLookedUp {ts : Nat} (hs : jx_isS ts) {a1 : Int32} {a2 : Int32} {z : Int32 × jl_Mem} (h : jf_X2_mayBeLookedUp ts a1 a2 M = some z) : Met l yX2_mayBeLookedUp wsX2_mayBeLookedUp ({ frames := 2, cells := 0, slots := 0, locals := 44 }) (va_Pc [.ref (B ts), .int a1, .int a2] (jx_U D cI cT B M)) (va_Qi (fun (q : Int32) (_ : Unit) => q = z.1) (fun _ t => va_P D vwCl (jx_w cI cT B z.2) t.heap) (jx_A B)) 0 0 (jx_A B) := by
  refine Met.ofW (cc := cX2_mayBeLookedUp) (maxL := 3) (ret := (some .boolean)) (by decide) rfl ?_
  intro p e s m args below meth c s1 BB hml hv
  obtain ⟨rfl, hK, hP, hB, hN⟩ := hv
  have hl := lv_entry ([.ref (B ts), .int a1, .int a2]) (n := 3) (Nat.le_of_ble_eq_true rfl)
  rw [lg_entry_eq]
  generalize (lg_sl ([.ref (B ts), .int a1, .int a2]) ++ List.replicate (3 - (lg_sl ([.ref (B ts), .int a1, .int a2])).length) Slot.unset).toArray = ls at hl ⊢
  exact jb_X2_mayBeLookedUp BB.exec BB.bytes hml (findClass_of_methodNamed BB.named) (atoms_spec (ws := wsX2_mayBeLookedUp) BB.pre) hK hB hN (Nat.le_refl _) (Nat.le_refl _) hs h (fun v M1 H locs pc ls e1 hz hd hP hS => W.zret BB.exec BB.bytes BB.returns (jl_nar hz) (fun t ht hW => ⟨⟨_, (), rfl, by rw [← e1], by show va_P D vwCl (jx_w cI cT B z.2) t.heap; rw [ht, ← e1]; exact hP⟩, hS.F ht⟩) hS.2.2 hd BB.notSynchronized) hP va_S.rf hl
end
section
variable {p : Program} {l : Launch} {e : Env} {R : Room} {s : State} {m : MethodId} {args : Array Value} {below : List Frame} {meth : Method} {c : Code} {H : Heap} {locs : List Loc} {Q : State → Prop} {ls : Array Slot} {D : va_G} {cI cT : ClassId} {B : Nat → Nat} {M : jl_Mem} {H0 : Heap}
set_option maxHeartbeats 4000000 in
set_option maxRecDepth 100000 in
theorem jb_X2_noteLookUp (hx : p.tables.exec = Jvm.exec) (hb : c.code = cX2_noteLookUp) (hml : c.maxLocals = 3) (hown : s.vm.findClass RX2 = some m.cls) (hts : ∀ w ∈ wsX2_noteLookUp, w.before args s = true) (hK : va_K D vwCl (jx_ty cI cT) s) (hB : jx_inj B) (hN : jx_N s) (hRf : 0 ≤ R.frames) (hRl : 0 ≤ R.locals) {ts : Nat} (hs : jx_isS ts) {a1 : Int32} {a2 : Int32} {z : Int32 × jl_Mem} (h : jf_X2_noteLookUp ts a1 a2 M = some z)
    (kr : ∀ (M1 : jl_Mem) (H1 : Heap) (locs1 : List Loc) (pc1 : Nat) (ls1 : Array Slot), (0, M1) = z → decode cX2_noteLookUp pc1 = .ok (.return_, 1) → va_P D vwCl (jx_w cI cT B M1) H1 → va_S (jx_A B) H0 H1 locs1 → W p l e R s m args below meth c H1 locs1 0 0 Q (F0 m pc1 ls1 []))
    (hP : va_P D vwCl (jx_w cI cT B M) H) (hS : va_S (jx_A B) H0 H locs) (hl : lv_has ls 3 [(0, .ref (B ts)), (1, .int a1), (2, .int a2)]) : W p l e R s m args below meth c H locs 0 0 Q (F0 m 0 ls []) := by
  unfold jf_X2_noteLookUp at h
  have hiX2 : ∀ w ∈ wsX20, w ∈ wsX2_noteLookUp := by decide +kernel
  have hf15 := hts (.fieldLink RX2 15 "JudgesLists$Sight" "lookedUp" "[I") (by decide +kernel)
  refine lv_aload_n hx hb dX2_noteLookUp_0 rfl (lv_at hl 0 rfl) ?_
  refine jx_g_X2_lookedUp hx hb hts hiX2 hown hK hP hs hf15 dX2_noteLookUp_1 ?_
  refine lv_iload_n hx hb dX2_noteLookUp_4 rfl (lv_at hl 1 rfl) ?_
  refine lv_dup2_11 hx hb dX2_noteLookUp_5 rfl rfl ?_
  obtain ⟨i_6, h⟩ := jl_chk_o h
  refine jx_iaload hx hb hK hP (jx_ls2 hs) i_6 dX2_noteLookUp_6 ?_
  refine lv_iconst (v := 1) hx hb dX2_noteLookUp_7 (by decide) ?_
  refine lv_iload_n hx hb dX2_noteLookUp_8 rfl (lv_at hl 2 rfl) ?_
  refine lv_ishl hx hb dX2_noteLookUp_9 ?_
  refine lv_ior hx hb dX2_noteLookUp_10 ?_
  refine jx_iastore hx hb hK hB hP hS (jx_ls2 hs) i_6 dX2_noteLookUp_11 (fun M_11 H locs eM_11 hP hS => ?_)
  have h := jl_lt_o h eM_11
  exact kr _ _ _ _ _ (Option.some.inj h) dX2_noteLookUp_12 hP hS
theorem jc_X2_noteLookUp {ts : Nat} (hs : jx_isS ts) {a1 : Int32} {a2 : Int32} {z : Int32 × jl_Mem} (h : jf_X2_noteLookUp ts a1 a2 M = some z) : Met l yX2_noteLookUp wsX2_noteLookUp ({ frames := 0, cells := 0, slots := 0, locals := 0 }) (va_Pc [.ref (B ts), .int a1, .int a2] (jx_U D cI cT B M)) (va_Qv (fun (_ : Unit) => True) (fun _ t => va_P D vwCl (jx_w cI cT B z.2) t.heap) (jx_A B)) 0 0 (jx_A B) := by
  refine Met.ofW (cc := cX2_noteLookUp) (maxL := 3) (ret := none) (by decide) rfl ?_
  intro p e s m args below meth c s1 BB hml hv
  obtain ⟨rfl, hK, hP, hB, hN⟩ := hv
  have hl := lv_entry ([.ref (B ts), .int a1, .int a2]) (n := 3) (Nat.le_of_ble_eq_true rfl)
  rw [lg_entry_eq]
  generalize (lg_sl ([.ref (B ts), .int a1, .int a2]) ++ List.replicate (3 - (lg_sl ([.ref (B ts), .int a1, .int a2])).length) Slot.unset).toArray = ls at hl ⊢
  exact jb_X2_noteLookUp BB.exec BB.bytes hml (findClass_of_methodNamed BB.named) (atoms_spec (ws := wsX2_noteLookUp) BB.pre) hK hB hN (Nat.le_refl _) (Nat.le_refl _) hs h (fun M1 H locs pc ls e1 hd hP hS => W.vret BB.exec BB.bytes BB.returns (fun t ht hW => ⟨⟨(), rfl, trivial, by show va_P D vwCl (jx_w cI cT B z.2) t.heap; rw [ht, ← e1]; exact hP⟩, hS.F ht⟩) hS.2.2 hd BB.notSynchronized) hP va_S.rf hl
end
section
variable {p : Program} {l : Launch} {e : Env} {R : Room} {s : State} {m : MethodId} {args : Array Value} {below : List Frame} {meth : Method} {c : Code} {H : Heap} {locs : List Loc} {Q : State → Prop} {ls : Array Slot} {D : va_G} {cI cT : ClassId} {B : Nat → Nat} {M : jl_Mem} {H0 : Heap}
set_option maxHeartbeats 4000000 in
set_option maxRecDepth 100000 in
theorem jb_X1_lookUpEverywhere (hx : p.tables.exec = Jvm.exec) (hb : c.code = cX1_lookUpEverywhere) (hml : c.maxLocals = 3) (hown : s.vm.findClass RX1 = some m.cls) (hts : ∀ w ∈ wsX1_lookUpEverywhere, w.before args s = true) (hK : va_K D vwCl (jx_ty cI cT) s) (hB : jx_inj B) (hN : jx_N s) (hRf : 4 ≤ R.frames) (hRl : 92 ≤ R.locals) {a1 : Int32} {z : Int32 × jl_Mem} (h : jf_X1_lookUpEverywhere a1 M = some z)
    (kr : ∀ (M1 : jl_Mem) (H1 : Heap) (locs1 : List Loc) (pc1 : Nat) (ls1 : Array Slot), (0, M1) = z → decode cX1_lookUpEverywhere pc1 = .ok (.return_, 1) → va_P D vwCl (jx_w cI cT B M1) H1 → va_S (jx_A B) H0 H1 locs1 → W p l e R s m args below meth c H1 locs1 0 0 Q (F0 m pc1 ls1 []))
    (hP : va_P D vwCl (jx_w cI cT B M) H) (hS : va_S (jx_A B) H0 H locs) (hl : lv_has ls 3 [(0, .ref (B 23)), (1, .int a1)]) : W p l e R s m args below meth c H locs 0 0 Q (F0 m 0 ls []) := by
  unfold jf_X1_lookUpEverywhere at h
  have hiX1 : ∀ w ∈ wsX10, w ∈ wsX1_lookUpEverywhere := by decide +kernel
  have hiX0 : ∀ w ∈ wsX00, w ∈ wsX1_lookUpEverywhere := by decide +kernel
  have hf9 := hts (.fieldLink RX1 9 "JudgesLists$Reader" "board" "LJudgesLists$Board;") (by decide +kernel)
  have hf57 := hts (.fieldLink RX1 57 "JudgesLists$Board" "lists" "I") (by decide +kernel)
  have hf54 := hts (.fieldLink RX1 54 "JudgesLists$Reader" "done" "Z") (by decide +kernel)
  have hf20 := hts (.fieldLink RX1 20 "JudgesLists$Reader" "sight" "LJudgesLists$Sight;") (by decide +kernel)
  have hf41 := hts (.fieldLink RX1 41 "JudgesLists$Reader" "lookUps" "I") (by decide +kernel)
  have hf44 := hts (.fieldLink RX1 44 "JudgesLists$Reader" "cost" "I") (by decide +kernel)
  have hf96 := hts (.fieldLink RX1 96 "JudgesLists$Board" "ups" "[I") (by decide +kernel)
  have hf32 := hts (.fieldLink RX1 32 "JudgesLists$Reader" "wanted" "I") (by decide +kernel)
  refine lv_iconst (v := 0) hx hb dX1_lookUpEverywhere_0 (by decide) ?_
  refine lv_topi (fun x2_1 ex2_1 => ?_)
  have h := jl_lt_o h ex2_1
  refine lv_istore_n (lv' := [(2, .int x2_1), (0, .ref (B 23)), (1, .int a1)]) hx hb dX1_lookUpEverywhere_1 rfl hl (by decide) rfl (fun ls hl => ?_)
  have k2 : ∀ (n2 : Nat) (x2L2 : Int32) (ML2 : jl_Mem), jl_wh (fun q => jf_X1_lookUpEverywhere_L2 a1 q.1 q.2) n2 (x2L2, ML2) = some z → ∀ (H : Heap) (locs : List Loc) (ls : Array Slot), va_P D vwCl (jx_w cI cT B ML2) H → va_S (jx_A B) H0 H locs → lv_has ls 3 [(0, .ref (B 23)), (1, .int a1), (2, .int x2L2)] → W p l e R s m args below meth c H locs 0 0 Q (F0 m 2 ls []) := by
    intro n2
    induction n2 with
    | zero => exact fun _ _ h => (jl_wh_0 h).elim
    | succ n2 ih2 =>
      intro x2L2 ML2 h H locs ls hP hS hl
      obtain ⟨o2, h, hz2⟩ := jl_wh_s h
      replace h : jf_X1_lookUpEverywhere_L2 a1 x2L2 ML2 = some o2 := h
      unfold jf_X1_lookUpEverywhere_L2 at h
      refine lv_iload_n hx hb dX1_lookUpEverywhere_2 rfl (lv_at hl 2 rfl) ?_
      refine lv_aload_n hx hb dX1_lookUpEverywhere_3 rfl (lv_at hl 0 rfl) ?_
      refine jx_g_X1_board hx hb hts hiX1 hown hK hP hf9 dX1_lookUpEverywhere_4 ?_
      refine jx_g_X0_lists hx hb hts hiX0 hown hK hP hf57 dX1_lookUpEverywhere_7 ?_
      refine lv_icmp_ge (tgt := 90) hx hb dX1_lookUpEverywhere_10 (by decide) (fun c_10 => ?_) (fun c_10 => ?_)
      · have h := jl_ift c_10 h
        have h := jl_ex_o h hz2
        exact kr _ _ _ _ _ (Option.some.inj h) dX1_lookUpEverywhere_90 hP hS
      · have h := jl_iff c_10 h
        refine lv_aload_n hx hb dX1_lookUpEverywhere_13 rfl (lv_at hl 0 rfl) ?_
        refine jx_g_X1_done hx hb hts hiX1 hown hK hP hf54 dX1_lookUpEverywhere_14 ?_
        refine lv_if_ne (tgt := 90) hx hb dX1_lookUpEverywhere_17 (by decide) (fun c_17 => ?_) (fun c_17 => ?_)
        · have h := jl_iff c_17 h
          have h := jl_ex_o h hz2
          exact kr _ _ _ _ _ (Option.some.inj h) dX1_lookUpEverywhere_90 hP hS
        · have h := jl_ift c_17 h
          refine lv_aload_n hx hb dX1_lookUpEverywhere_20 rfl (lv_at hl 0 rfl) ?_
          refine jx_g_X1_sight hx hb hts hiX1 hown hK hP hf20 dX1_lookUpEverywhere_21 ?_
          refine lv_iload_n hx hb dX1_lookUpEverywhere_24 rfl (lv_at hl 2 rfl) ?_
          refine lv_iload_n hx hb dX1_lookUpEverywhere_25 rfl (lv_at hl 1 rfl) ?_
          obtain ⟨r_26, M_26, hc_26, h⟩ := jl_bnd_o h
          refine jx_callVi (As := [.int x2L2, .int a1]) (rest := []) ⟨hx, hb, hml, hown, hts⟩ (jc_X2_mayBeLookedUp (ts := 24) (Or.inl rfl) hc_26) (cwV 2 hts gX1_lookUpEverywhere_X2_mayBeLookedUp rfl rfl rfl (by decide +kernel) ⟨Nat.le_trans (by decide) hRf, Nat.le_trans (by decide) hRl⟩) (jx_rv_X2 hK hP (ts := 24) (Or.inl rfl)) hK hB hN hP hS rfl dX1_lookUpEverywhere_26 rfl hl.1 (Nat.le_of_ble_eq_true rfl) ⟨Nat.zero_le _, Nat.zero_le _⟩ (fun H locs hP hS => ?_)
          refine lv_if_eq (tgt := 84) hx hb dX1_lookUpEverywhere_29 (by decide) (fun c_29 => ?_) (fun c_29 => ?_)
          · have h := jl_ift c_29 h
            obtain ⟨x2_84, ex2_84⟩ : ∃ y : Int32, y = x2L2 + 1 := ⟨_, rfl⟩
            have h := jl_lt_o h ex2_84
            refine lv_iinc (v := x2_84) (lv' := [(2, .int x2_84), (0, .ref (B 23)), (1, .int a1)]) hx hb dX1_lookUpEverywhere_84 hl (k := 2) rfl (by rw [ex2_84]; rfl) (by decide) rfl (fun ls hl => ?_)
            refine lv_goto (tgt := 2) hx hb dX1_lookUpEverywhere_87 (by decide) ?_
            exact ih2 _ _ (jl_L (Option.some.inj h) hz2) _ _ _ hP hS (lv_sub hl [1, 2, 0] rfl)
          · have h := jl_iff c_29 h
            refine lv_aload_n hx hb dX1_lookUpEverywhere_32 rfl (lv_at hl 0 rfl) ?_
            refine jx_g_X1_sight hx hb hts hiX1 hown hK hP hf20 dX1_lookUpEverywhere_33 ?_
            refine lv_iload_n hx hb dX1_lookUpEverywhere_36 rfl (lv_at hl 2 rfl) ?_
            refine lv_iload_n hx hb dX1_lookUpEverywhere_37 rfl (lv_at hl 1 rfl) ?_
            obtain ⟨r_38, M_38, hc_38, h⟩ := jl_bnd_o h
            refine jx_callVv (As := [.int x2L2, .int a1]) (rest := []) ⟨hx, hb, hml, hown, hts⟩ (jc_X2_noteLookUp (ts := 24) (Or.inl rfl) hc_38) (cwV 2 hts gX1_lookUpEverywhere_X2_noteLookUp rfl rfl rfl (by decide +kernel) ⟨Nat.le_trans (by decide) hRf, Nat.le_trans (by decide) hRl⟩) (jx_rv_X2 hK hP (ts := 24) (Or.inl rfl)) hK hB hN hP hS rfl dX1_lookUpEverywhere_38 rfl hl.1 (Nat.le_of_ble_eq_true rfl) ⟨Nat.zero_le _, Nat.zero_le _⟩ (fun H locs hP hS => ?_)
            refine lv_aload_n hx hb dX1_lookUpEverywhere_41 rfl (lv_at hl 0 rfl) ?_
            refine lv_dup hx hb dX1_lookUpEverywhere_42 rfl ?_
            refine jx_g_X1_lookUps hx hb hts hiX1 hown hK hP hf41 dX1_lookUpEverywhere_43 ?_
            refine lv_iconst (v := 1) hx hb dX1_lookUpEverywhere_46 (by decide) ?_
            refine lv_iadd hx hb dX1_lookUpEverywhere_47 ?_
            refine jx_p_X1_lookUps hx hb hts hiX1 hown hK hB hP hS hf41 dX1_lookUpEverywhere_48 (fun M_48 H locs eM_48 hP hS => ?_)
            have h := jl_lt_o h eM_48
            refine lv_aload_n hx hb dX1_lookUpEverywhere_51 rfl (lv_at hl 0 rfl) ?_
            refine lv_dup hx hb dX1_lookUpEverywhere_52 rfl ?_
            refine jx_g_X1_cost hx hb hts hiX1 hown hK hP hf44 dX1_lookUpEverywhere_53 ?_
            refine lv_aload_n hx hb dX1_lookUpEverywhere_56 rfl (lv_at hl 0 rfl) ?_
            refine jx_g_X1_board hx hb hts hiX1 hown hK hP hf9 dX1_lookUpEverywhere_57 ?_
            refine jx_g_X0_ups hx hb hts hiX0 hown hK hP hf96 dX1_lookUpEverywhere_60 ?_
            refine lv_iload_n hx hb dX1_lookUpEverywhere_63 rfl (lv_at hl 2 rfl) ?_
            obtain ⟨i_64, h⟩ := jl_chk_o h
            refine jx_iaload hx hb hK hP rfl i_64 dX1_lookUpEverywhere_64 ?_
            refine lv_iadd hx hb dX1_lookUpEverywhere_65 ?_
            refine jx_p_X1_cost hx hb hts hiX1 hown hK hB hP hS hf44 dX1_lookUpEverywhere_66 (fun M_66 H locs eM_66 hP hS => ?_)
            have h := jl_lt_o h eM_66
            refine lv_aload_n hx hb dX1_lookUpEverywhere_69 rfl (lv_at hl 0 rfl) ?_
            refine lv_aload_n hx hb dX1_lookUpEverywhere_70 rfl (lv_at hl 0 rfl) ?_
            refine jx_g_X1_sight hx hb hts hiX1 hown hK hP hf20 dX1_lookUpEverywhere_71 ?_
            refine lv_aload_n hx hb dX1_lookUpEverywhere_74 rfl (lv_at hl 0 rfl) ?_
            refine jx_g_X1_wanted hx hb hts hiX1 hown hK hP hf32 dX1_lookUpEverywhere_75 ?_
            obtain ⟨r_78, M_78, hc_78, h⟩ := jl_bnd_o h
            refine jx_callVi (As := [.int (M_66 23 5)]) (rest := [.ref (B 23)]) ⟨hx, hb, hml, hown, hts⟩ (jc_X2_isSure (ts := 24) (Or.inl rfl) hc_78) (cwV 1 hts gX1_lookUpEverywhere_X2_isSure rfl rfl rfl (by decide +kernel) ⟨Nat.le_trans (by decide) hRf, Nat.le_trans (by decide) hRl⟩) (jx_rv_X2 hK hP (ts := 24) (Or.inl rfl)) hK hB hN hP hS rfl dX1_lookUpEverywhere_78 rfl hl.1 (Nat.le_of_ble_eq_true rfl) ⟨Nat.zero_le _, Nat.zero_le _⟩ (fun H locs hP hS => ?_)
            obtain ⟨i_81, h⟩ := jl_chk_o h
            refine jx_p_X1_done hx hb hts hiX1 hown hK hB hP hS hf54 i_81 dX1_lookUpEverywhere_81 (fun M_81 H locs eM_81 hP hS => ?_)
            have h := jl_lt_o h eM_81
            obtain ⟨x2_84, ex2_84⟩ : ∃ y : Int32, y = x2L2 + 1 := ⟨_, rfl⟩
            have h := jl_lt_o h ex2_84
            refine lv_iinc (v := x2_84) (lv' := [(2, .int x2_84), (0, .ref (B 23)), (1, .int a1)]) hx hb dX1_lookUpEverywhere_84 hl (k := 2) rfl (by rw [ex2_84]; rfl) (by decide) rfl (fun ls hl => ?_)
            refine lv_goto (tgt := 2) hx hb dX1_lookUpEverywhere_87 (by decide) ?_
            exact ih2 _ _ (jl_L (Option.some.inj h) hz2) _ _ _ hP hS (lv_sub hl [1, 2, 0] rfl)
  exact k2 _ _ _ h _ _ _ hP hS (lv_sub hl [1, 2, 0] rfl)
theorem jc_X1_lookUpEverywhere {a1 : Int32} {z : Int32 × jl_Mem} (h : jf_X1_lookUpEverywhere a1 M = some z) : Met l yX1_lookUpEverywhere wsX1_lookUpEverywhere ({ frames := 4, cells := 0, slots := 0, locals := 92 }) (va_Pc [.ref (B 23), .int a1] (jx_U D cI cT B M)) (va_Qv (fun (_ : Unit) => True) (fun _ t => va_P D vwCl (jx_w cI cT B z.2) t.heap) (jx_A B)) 0 0 (jx_A B) := by
  refine Met.ofW (cc := cX1_lookUpEverywhere) (maxL := 3) (ret := none) (by decide) rfl ?_
  intro p e s m args below meth c s1 BB hml hv
  obtain ⟨rfl, hK, hP, hB, hN⟩ := hv
  have hl := lv_entry ([.ref (B 23), .int a1]) (n := 3) (Nat.le_of_ble_eq_true rfl)
  rw [lg_entry_eq]
  generalize (lg_sl ([.ref (B 23), .int a1]) ++ List.replicate (3 - (lg_sl ([.ref (B 23), .int a1])).length) Slot.unset).toArray = ls at hl ⊢
  exact jb_X1_lookUpEverywhere BB.exec BB.bytes hml (findClass_of_methodNamed BB.named) (atoms_spec (ws := wsX1_lookUpEverywhere) BB.pre) hK hB hN (Nat.le_refl _) (Nat.le_refl _) h (fun M1 H locs pc ls e1 hd hP hS => W.vret BB.exec BB.bytes BB.returns (fun t ht hW => ⟨⟨(), rfl, trivial, by show va_P D vwCl (jx_w cI cT B z.2) t.heap; rw [ht, ← e1]; exact hP⟩, hS.F ht⟩) hS.2.2 hd BB.notSynchronized) hP va_S.rf hl
end
section
variable {p : Program} {l : Launch} {e : Env} {R : Room} {s : State} {m : MethodId} {args : Array Value} {below : List Frame} {meth : Method} {c : Code} {H : Heap} {locs : List Loc} {Q : State → Prop} {ls : Array Slot} {D : va_G} {cI cT : ClassId} {B : Nat → Nat} {M : jl_Mem} {H0 : Heap}
set_option maxHeartbeats 4000000 in
set_option maxRecDepth 100000 in
theorem jb_X2_isSeen (hx : p.tables.exec = Jvm.exec) (hb : c.code = cX2_isSeen) (hml : c.maxLocals = 3) (hown : s.vm.findClass RX2 = some m.cls) (hts : ∀ w ∈ wsX2_isSeen, w.before args s = true) (hK : va_K D vwCl (jx_ty cI cT) s) (hB : jx_inj B) (hN : jx_N s) (hRf : 1 ≤ R.frames) (hRl : 22 ≤ R.locals) {ts : Nat} (hs : jx_isS ts) {a1 : Int32} {z : Int32 × jl_Mem} (h : jf_X2_isSeen ts a1 M = some z)
    (kr : ∀ (v : Int32) (M1 : jl_Mem) (H1 : Heap) (locs1 : List Loc) (pc1 : Nat) (ls1 : Array Slot), (v, M1) = z → jl_isB v = true → decode cX2_isSeen pc1 = .ok (.ireturn, 1) → va_P D vwCl (jx_w cI cT B M1) H1 → va_S (jx_A B) H0 H1 locs1 → W p l e R s m args below meth c H1 locs1 0 0 Q (F0 m pc1 ls1 [.int v]))
    (hP : va_P D vwCl (jx_w cI cT B M) H) (hS : va_S (jx_A B) H0 H locs) (hl : lv_has ls 3 [(0, .ref (B ts)), (1, .int a1)]) : W p l e R s m args below meth c H locs 0 0 Q (F0 m 0 ls []) := by
  unfold jf_X2_isSeen at h
  have hiX2 : ∀ w ∈ wsX20, w ∈ wsX2_isSeen := by decide +kernel
  have hiX0 : ∀ w ∈ wsX00, w ∈ wsX2_isSeen := by decide +kernel
  have hf24 := hts (.fieldLink RX2 24 "JudgesLists$Sight" "board" "LJudgesLists$Board;") (by decide +kernel)
  have hf48 := hts (.fieldLink RX2 48 "JudgesLists$Board" "lists" "I") (by decide +kernel)
  refine lv_iconst (v := 0) hx hb dX2_isSeen_0 (by decide) ?_
  refine lv_topi (fun x2_1 ex2_1 => ?_)
  have h := jl_lt_o h ex2_1
  refine lv_istore_n (lv' := [(2, .int x2_1), (0, .ref (B ts)), (1, .int a1)]) hx hb dX2_isSeen_1 rfl hl (by decide) rfl (fun ls hl => ?_)
  have k2 : ∀ (n2 : Nat) (x2L2 : Int32) (ML2 : jl_Mem), jl_wh (fun q => jf_X2_isSeen_L2 ts a1 q.1 q.2) n2 (x2L2, ML2) = some z → ∀ (H : Heap) (locs : List Loc) (ls : Array Slot), va_P D vwCl (jx_w cI cT B ML2) H → va_S (jx_A B) H0 H locs → lv_has ls 3 [(0, .ref (B ts)), (1, .int a1), (2, .int x2L2)] → W p l e R s m args below meth c H locs 0 0 Q (F0 m 2 ls []) := by
    intro n2
    induction n2 with
    | zero => exact fun _ _ h => (jl_wh_0 h).elim
    | succ n2 ih2 =>
      intro x2L2 ML2 h H locs ls hP hS hl
      obtain ⟨o2, h, hz2⟩ := jl_wh_s h
      replace h : jf_X2_isSeen_L2 ts a1 x2L2 ML2 = some o2 := h
      unfold jf_X2_isSeen_L2 at h
      refine lv_iload_n hx hb dX2_isSeen_2 rfl (lv_at hl 2 rfl) ?_
      refine lv_aload_n hx hb dX2_isSeen_3 rfl (lv_at hl 0 rfl) ?_
      refine jx_g_X2_board hx hb hts hiX2 hown hK hP hs hf24 dX2_isSeen_4 ?_
      refine jx_g_X0_lists hx hb hts hiX0 hown hK hP hf48 dX2_isSeen_7 ?_
      refine lv_icmp_ge (tgt := 30) hx hb dX2_isSeen_10 (by decide) (fun c_10 => ?_) (fun c_10 => ?_)
      · have h := jl_ift c_10 h
        have h := jl_ex_o h hz2
        refine lv_iconst (v := 0) hx hb dX2_isSeen_30 (by decide) ?_
        exact kr _ _ _ _ _ _ (Option.some.inj h) (by decide) dX2_isSeen_31 hP hS
      · have h := jl_iff c_10 h
        refine lv_aload_n hx hb dX2_isSeen_13 rfl (lv_at hl 0 rfl) ?_
        refine lv_iload_n hx hb dX2_isSeen_14 rfl (lv_at hl 2 rfl) ?_
        refine lv_iload_n hx hb dX2_isSeen_15 rfl (lv_at hl 1 rfl) ?_
        obtain ⟨r_16, M_16, hc_16, h⟩ := jl_bnd_o h
        refine jx_callVi (As := [.int x2L2, .int a1]) (rest := []) ⟨hx, hb, hml, hown, hts⟩ (jc_X2_isAtSeenPlace hs hc_16) (cwV 2 hts gX2_isSeen_X2_isAtSeenPlace rfl rfl rfl (by decide +kernel) ⟨Nat.le_trans (by decide) hRf, Nat.le_trans (by decide) hRl⟩) (jx_rv_X2 hK hP hs) hK hB hN hP hS rfl dX2_isSeen_16 rfl hl.1 (Nat.le_of_ble_eq_true rfl) ⟨Nat.zero_le _, Nat.zero_le _⟩ (fun H locs hP hS => ?_)
        refine lv_if_eq (tgt := 24) hx hb dX2_isSeen_19 (by decide) (fun c_19 => ?_) (fun c_19 => ?_)
        · have h := jl_ift c_19 h
          obtain ⟨x2_24, ex2_24⟩ : ∃ y : Int32, y = x2L2 + 1 := ⟨_, rfl⟩
          have h := jl_lt_o h ex2_24
          refine lv_iinc (v := x2_24) (lv' := [(2, .int x2_24), (0, .ref (B ts)), (1, .int a1)]) hx hb dX2_isSeen_24 hl (k := 2) rfl (by rw [ex2_24]; rfl) (by decide) rfl (fun ls hl => ?_)
          refine lv_goto (tgt := 2) hx hb dX2_isSeen_27 (by decide) ?_
          exact ih2 _ _ (jl_L (Option.some.inj h) hz2) _ _ _ hP hS (lv_sub hl [1, 2, 0] rfl)
        · have h := jl_iff c_19 h
          have h := jl_ex_o h hz2
          refine lv_iconst (v := 1) hx hb dX2_isSeen_22 (by decide) ?_
          exact kr _ _ _ _ _ _ (Option.some.inj h) (by decide) dX2_isSeen_23 hP hS
  exact k2 _ _ _ h _ _ _ hP hS (lv_sub hl [1, 2, 0] rfl)
theorem jc_X2_isSeen {ts : Nat} (hs : jx_isS ts) {a1 : Int32} {z : Int32 × jl_Mem} (h : jf_X2_isSeen ts a1 M = some z) : Met l yX2_isSeen wsX2_isSeen ({ frames := 1, cells := 0, slots := 0, locals := 22 }) (va_Pc [.ref (B ts), .int a1] (jx_U D cI cT B M)) (va_Qi (fun (q : Int32) (_ : Unit) => q = z.1) (fun _ t => va_P D vwCl (jx_w cI cT B z.2) t.heap) (jx_A B)) 0 0 (jx_A B) := by
  refine Met.ofW (cc := cX2_isSeen) (maxL := 3) (ret := (some .boolean)) (by decide) rfl ?_
  intro p e s m args below meth c s1 BB hml hv
  obtain ⟨rfl, hK, hP, hB, hN⟩ := hv
  have hl := lv_entry ([.ref (B ts), .int a1]) (n := 3) (Nat.le_of_ble_eq_true rfl)
  rw [lg_entry_eq]
  generalize (lg_sl ([.ref (B ts), .int a1]) ++ List.replicate (3 - (lg_sl ([.ref (B ts), .int a1])).length) Slot.unset).toArray = ls at hl ⊢
  exact jb_X2_isSeen BB.exec BB.bytes hml (findClass_of_methodNamed BB.named) (atoms_spec (ws := wsX2_isSeen) BB.pre) hK hB hN (Nat.le_refl _) (Nat.le_refl _) hs h (fun v M1 H locs pc ls e1 hz hd hP hS => W.zret BB.exec BB.bytes BB.returns (jl_nar hz) (fun t ht hW => ⟨⟨_, (), rfl, by rw [← e1], by show va_P D vwCl (jx_w cI cT B z.2) t.heap; rw [ht, ← e1]; exact hP⟩, hS.F ht⟩) hS.2.2 hd BB.notSynchronized) hP va_S.rf hl
end
section
variable {p : Program} {l : Launch} {e : Env} {R : Room} {s : State} {m : MethodId} {args : Array Value} {below : List Frame} {meth : Method} {c : Code} {H : Heap} {locs : List Loc} {Q : State → Prop} {ls : Array Slot} {D : va_G} {cI cT : ClassId} {B : Nat → Nat} {M : jl_Mem} {H0 : Heap}
set_option maxHeartbeats 4000000 in
set_option maxRecDepth 100000 in
theorem jb_X1_hasLookUpsLeft (hx : p.tables.exec = Jvm.exec) (hb : c.code = cX1_hasLookUpsLeft) (hml : c.maxLocals = 3) (hown : s.vm.findClass RX1 = some m.cls) (hts : ∀ w ∈ wsX1_hasLookUpsLeft, w.before args s = true) (hK : va_K D vwCl (jx_ty cI cT) s) (hB : jx_inj B) (hN : jx_N s) (hRf : 3 ≤ R.frames) (hRl : 66 ≤ R.locals) {a1 : Int32} {z : Int32 × jl_Mem} (h : jf_X1_hasLookUpsLeft a1 M = some z)
    (kr : ∀ (v : Int32) (M1 : jl_Mem) (H1 : Heap) (locs1 : List Loc) (pc1 : Nat) (ls1 : Array Slot), (v, M1) = z → jl_isB v = true → decode cX1_hasLookUpsLeft pc1 = .ok (.ireturn, 1) → va_P D vwCl (jx_w cI cT B M1) H1 → va_S (jx_A B) H0 H1 locs1 → W p l e R s m args below meth c H1 locs1 0 0 Q (F0 m pc1 ls1 [.int v]))
    (hP : va_P D vwCl (jx_w cI cT B M) H) (hS : va_S (jx_A B) H0 H locs) (hl : lv_has ls 3 [(0, .ref (B 23)), (1, .int a1)]) : W p l e R s m args below meth c H locs 0 0 Q (F0 m 0 ls []) := by
  unfold jf_X1_hasLookUpsLeft at h
  have hiX1 : ∀ w ∈ wsX10, w ∈ wsX1_hasLookUpsLeft := by decide +kernel
  have hiX0 : ∀ w ∈ wsX00, w ∈ wsX1_hasLookUpsLeft := by decide +kernel
  have hf9 := hts (.fieldLink RX1 9 "JudgesLists$Reader" "board" "LJudgesLists$Board;") (by decide +kernel)
  have hf57 := hts (.fieldLink RX1 57 "JudgesLists$Board" "lists" "I") (by decide +kernel)
  have hf20 := hts (.fieldLink RX1 20 "JudgesLists$Reader" "sight" "LJudgesLists$Sight;") (by decide +kernel)
  refine lv_iconst (v := 0) hx hb dX1_hasLookUpsLeft_0 (by decide) ?_
  refine lv_topi (fun x2_1 ex2_1 => ?_)
  have h := jl_lt_o h ex2_1
  refine lv_istore_n (lv' := [(2, .int x2_1), (0, .ref (B 23)), (1, .int a1)]) hx hb dX1_hasLookUpsLeft_1 rfl hl (by decide) rfl (fun ls hl => ?_)
  have k2 : ∀ (n2 : Nat) (x2L2 : Int32) (ML2 : jl_Mem), jl_wh (fun q => jf_X1_hasLookUpsLeft_L2 a1 q.1 q.2) n2 (x2L2, ML2) = some z → ∀ (H : Heap) (locs : List Loc) (ls : Array Slot), va_P D vwCl (jx_w cI cT B ML2) H → va_S (jx_A B) H0 H locs → lv_has ls 3 [(0, .ref (B 23)), (1, .int a1), (2, .int x2L2)] → W p l e R s m args below meth c H locs 0 0 Q (F0 m 2 ls []) := by
    intro n2
    induction n2 with
    | zero => exact fun _ _ h => (jl_wh_0 h).elim
    | succ n2 ih2 =>
      intro x2L2 ML2 h H locs ls hP hS hl
      obtain ⟨o2, h, hz2⟩ := jl_wh_s h
      replace h : jf_X1_hasLookUpsLeft_L2 a1 x2L2 ML2 = some o2 := h
      unfold jf_X1_hasLookUpsLeft_L2 at h
      refine lv_iload_n hx hb dX1_hasLookUpsLeft_2 rfl (lv_at hl 2 rfl) ?_
      refine lv_aload_n hx hb dX1_hasLookUpsLeft_3 rfl (lv_at hl 0 rfl) ?_
      refine jx_g_X1_board hx hb hts hiX1 hown hK hP hf9 dX1_hasLookUpsLeft_4 ?_
      refine jx_g_X0_lists hx hb hts hiX0 hown hK hP hf57 dX1_hasLookUpsLeft_7 ?_
      refine lv_icmp_ge (tgt := 33) hx hb dX1_hasLookUpsLeft_10 (by decide) (fun c_10 => ?_) (fun c_10 => ?_)
      · have h := jl_ift c_10 h
        have h := jl_ex_o h hz2
        refine lv_iconst (v := 0) hx hb dX1_hasLookUpsLeft_33 (by decide) ?_
        exact kr _ _ _ _ _ _ (Option.some.inj h) (by decide) dX1_hasLookUpsLeft_34 hP hS
      · have h := jl_iff c_10 h
        refine lv_aload_n hx hb dX1_hasLookUpsLeft_13 rfl (lv_at hl 0 rfl) ?_
        refine jx_g_X1_sight hx hb hts hiX1 hown hK hP hf20 dX1_hasLookUpsLeft_14 ?_
        refine lv_iload_n hx hb dX1_hasLookUpsLeft_17 rfl (lv_at hl 2 rfl) ?_
        refine lv_iload_n hx hb dX1_hasLookUpsLeft_18 rfl (lv_at hl 1 rfl) ?_
        obtain ⟨r_19, M_19, hc_19, h⟩ := jl_bnd_o h
        refine jx_callVi (As := [.int x2L2, .int a1]) (rest := []) ⟨hx, hb, hml, hown, hts⟩ (jc_X2_mayBeLookedUp (ts := 24) (Or.inl rfl) hc_19) (cwV 2 hts gX1_hasLookUpsLeft_X2_mayBeLookedUp rfl rfl rfl (by decide +kernel) ⟨Nat.le_trans (by decide) hRf, Nat.le_trans (by decide) hRl⟩) (jx_rv_X2 hK hP (ts := 24) (Or.inl rfl)) hK hB hN hP hS rfl dX1_hasLookUpsLeft_19 rfl hl.1 (Nat.le_of_ble_eq_true rfl) ⟨Nat.zero_le _, Nat.zero_le _⟩ (fun H locs hP hS => ?_)
        refine lv_if_eq (tgt := 27) hx hb dX1_hasLookUpsLeft_22 (by decide) (fun c_22 => ?_) (fun c_22 => ?_)
        · have h := jl_ift c_22 h
          obtain ⟨x2_27, ex2_27⟩ : ∃ y : Int32, y = x2L2 + 1 := ⟨_, rfl⟩
          have h := jl_lt_o h ex2_27
          refine lv_iinc (v := x2_27) (lv' := [(2, .int x2_27), (0, .ref (B 23)), (1, .int a1)]) hx hb dX1_hasLookUpsLeft_27 hl (k := 2) rfl (by rw [ex2_27]; rfl) (by decide) rfl (fun ls hl => ?_)
          refine lv_goto (tgt := 2) hx hb dX1_hasLookUpsLeft_30 (by decide) ?_
          exact ih2 _ _ (jl_L (Option.some.inj h) hz2) _ _ _ hP hS (lv_sub hl [1, 2, 0] rfl)
        · have h := jl_iff c_22 h
          have h := jl_ex_o h hz2
          refine lv_iconst (v := 1) hx hb dX1_hasLookUpsLeft_25 (by decide) ?_
          exact kr _ _ _ _ _ _ (Option.some.inj h) (by decide) dX1_hasLookUpsLeft_26 hP hS
  exact k2 _ _ _ h _ _ _ hP hS (lv_sub hl [1, 2, 0] rfl)
theorem jc_X1_hasLookUpsLeft {a1 : Int32} {z : Int32 × jl_Mem} (h : jf_X1_hasLookUpsLeft a1 M = some z) : Met l yX1_hasLookUpsLeft wsX1_hasLookUpsLeft ({ frames := 3, cells := 0, slots := 0, locals := 66 }) (va_Pc [.ref (B 23), .int a1] (jx_U D cI cT B M)) (va_Qi (fun (q : Int32) (_ : Unit) => q = z.1) (fun _ t => va_P D vwCl (jx_w cI cT B z.2) t.heap) (jx_A B)) 0 0 (jx_A B) := by
  refine Met.ofW (cc := cX1_hasLookUpsLeft) (maxL := 3) (ret := (some .boolean)) (by decide) rfl ?_
  intro p e s m args below meth c s1 BB hml hv
  obtain ⟨rfl, hK, hP, hB, hN⟩ := hv
  have hl := lv_entry ([.ref (B 23), .int a1]) (n := 3) (Nat.le_of_ble_eq_true rfl)
  rw [lg_entry_eq]
  generalize (lg_sl ([.ref (B 23), .int a1]) ++ List.replicate (3 - (lg_sl ([.ref (B 23), .int a1])).length) Slot.unset).toArray = ls at hl ⊢
  exact jb_X1_hasLookUpsLeft BB.exec BB.bytes hml (findClass_of_methodNamed BB.named) (atoms_spec (ws := wsX1_hasLookUpsLeft) BB.pre) hK hB hN (Nat.le_refl _) (Nat.le_refl _) h (fun v M1 H locs pc ls e1 hz hd hP hS => W.zret BB.exec BB.bytes BB.returns (jl_nar hz) (fun t ht hW => ⟨⟨_, (), rfl, by rw [← e1], by show va_P D vwCl (jx_w cI cT B z.2) t.heap; rw [ht, ← e1]; exact hP⟩, hS.F ht⟩) hS.2.2 hd BB.notSynchronized) hP va_S.rf hl
end
section
variable {p : Program} {l : Launch} {e : Env} {R : Room} {s : State} {m : MethodId} {args : Array Value} {below : List Frame} {meth : Method} {c : Code} {H : Heap} {locs : List Loc} {Q : State → Prop} {ls : Array Slot} {D : va_G} {cI cT : ClassId} {B : Nat → Nat} {M : jl_Mem} {H0 : Heap}
set_option maxHeartbeats 4000000 in
set_option maxRecDepth 100000 in
theorem jb_X1_mostPromising (hx : p.tables.exec = Jvm.exec) (hb : c.code = cX1_mostPromising) (hml : c.maxLocals = 5) (hown : s.vm.findClass RX1 = some m.cls) (hts : ∀ w ∈ wsX1_mostPromising, w.before args s = true) (hK : va_K D vwCl (jx_ty cI cT) s) (hB : jx_inj B) (hN : jx_N s) (hRf : 4 ≤ R.frames) (hRl : 88 ≤ R.locals) {z : Int32 × jl_Mem} (h : jf_X1_mostPromising M = some z)
    (kr : ∀ (v : Int32) (M1 : jl_Mem) (H1 : Heap) (locs1 : List Loc) (pc1 : Nat) (ls1 : Array Slot), (v, M1) = z → decode cX1_mostPromising pc1 = .ok (.ireturn, 1) → va_P D vwCl (jx_w cI cT B M1) H1 → va_S (jx_A B) H0 H1 locs1 → W p l e R s m args below meth c H1 locs1 0 0 Q (F0 m pc1 ls1 [.int v]))
    (hP : va_P D vwCl (jx_w cI cT B M) H) (hS : va_S (jx_A B) H0 H locs) (hl : lv_has ls 5 [(0, .ref (B 23))]) : W p l e R s m args below meth c H locs 0 0 Q (F0 m 0 ls []) := by
  unfold jf_X1_mostPromising at h
  have hiX1 : ∀ w ∈ wsX10, w ∈ wsX1_mostPromising := by decide +kernel
  have hiX0 : ∀ w ∈ wsX00, w ∈ wsX1_mostPromising := by decide +kernel
  have hf9 := hts (.fieldLink RX1 9 "JudgesLists$Reader" "board" "LJudgesLists$Board;") (by decide +kernel)
  have hf99 := hts (.fieldLink RX1 99 "JudgesLists$Board" "things" "I") (by decide +kernel)
  have hf20 := hts (.fieldLink RX1 20 "JudgesLists$Reader" "sight" "LJudgesLists$Sight;") (by decide +kernel)
  refine lv_iconst (v := (-1)) hx hb dX1_mostPromising_0 (by decide) ?_
  refine lv_topi (fun x1_1 ex1_1 => ?_)
  have h := jl_lt_o h ex1_1
  refine lv_istore_n (lv' := [(1, .int x1_1), (0, .ref (B 23))]) hx hb dX1_mostPromising_1 rfl hl (by decide) rfl (fun ls hl => ?_)
  refine lv_iconst (v := 0) hx hb dX1_mostPromising_2 (by decide) ?_
  refine lv_topi (fun x2_3 ex2_3 => ?_)
  have h := jl_lt_o h ex2_3
  refine lv_istore_n (lv' := [(2, .int x2_3), (1, .int x1_1), (0, .ref (B 23))]) hx hb dX1_mostPromising_3 rfl hl (by decide) rfl (fun ls hl => ?_)
  refine lv_iconst (v := 0) hx hb dX1_mostPromising_4 (by decide) ?_
  refine lv_topi (fun x3_5 ex3_5 => ?_)
  have h := jl_lt_o h ex3_5
  refine lv_istore_n (lv' := [(3, .int x3_5), (2, .int x2_3), (1, .int x1_1), (0, .ref (B 23))]) hx hb dX1_mostPromising_5 rfl hl (by decide) rfl (fun ls hl => ?_)
  have k6 : ∀ (n6 : Nat) (x1L6 : Int32) (x2L6 : Int32) (x3L6 : Int32) (ML6 : jl_Mem), jl_wh (fun q => jf_X1_mostPromising_L6 q.1 q.2.1 q.2.2.1 q.2.2.2) n6 (x1L6, x2L6, x3L6, ML6) = some z → ∀ (H : Heap) (locs : List Loc) (ls : Array Slot), va_P D vwCl (jx_w cI cT B ML6) H → va_S (jx_A B) H0 H locs → lv_has ls 5 [(0, .ref (B 23)), (1, .int x1L6), (2, .int x2L6), (3, .int x3L6)] → W p l e R s m args below meth c H locs 0 0 Q (F0 m 6 ls []) := by
    intro n6
    induction n6 with
    | zero => exact fun _ _ _ _ h => (jl_wh_0 h).elim
    | succ n6 ih6 =>
      intro x1L6 x2L6 x3L6 ML6 h H locs ls hP hS hl
      obtain ⟨o6, h, hz6⟩ := jl_wh_s h
      replace h : jf_X1_mostPromising_L6 x1L6 x2L6 x3L6 ML6 = some o6 := h
      unfold jf_X1_mostPromising_L6 at h
      refine lv_iload_n hx hb dX1_mostPromising_6 rfl (lv_at hl 3 rfl) ?_
      refine lv_aload_n hx hb dX1_mostPromising_7 rfl (lv_at hl 0 rfl) ?_
      refine jx_g_X1_board hx hb hts hiX1 hown hK hP hf9 dX1_mostPromising_8 ?_
      refine jx_g_X0_things hx hb hts hiX0 hown hK hP hf99 dX1_mostPromising_11 ?_
      refine lv_icmp_ge (tgt := 68) hx hb dX1_mostPromising_14 (by decide) (fun c_14 => ?_) (fun c_14 => ?_)
      · have h := jl_ift c_14 h
        have h := jl_ex_o h hz6
        refine lv_iload_n hx hb dX1_mostPromising_68 rfl (lv_at hl 1 rfl) ?_
        exact kr _ _ _ _ _ _ (Option.some.inj h) dX1_mostPromising_69 hP hS
      · have h := jl_iff c_14 h
        refine lv_aload_n hx hb dX1_mostPromising_17 rfl (lv_at hl 0 rfl) ?_
        refine jx_g_X1_sight hx hb hts hiX1 hown hK hP hf20 dX1_mostPromising_18 ?_
        refine lv_iload_n hx hb dX1_mostPromising_21 rfl (lv_at hl 3 rfl) ?_
        obtain ⟨r_22, M_22, hc_22, h⟩ := jl_bnd_o h
        refine jx_callVi (As := [.int x3L6]) (rest := []) ⟨hx, hb, hml, hown, hts⟩ (jc_X2_isSeen (ts := 24) (Or.inl rfl) hc_22) (cwV 1 hts gX1_mostPromising_X2_isSeen rfl rfl rfl (by decide +kernel) ⟨Nat.le_trans (by decide) hRf, Nat.le_trans (by decide) hRl⟩) (jx_rv_X2 hK hP (ts := 24) (Or.inl rfl)) hK hB hN hP hS rfl dX1_mostPromising_22 rfl hl.1 (Nat.le_of_ble_eq_true rfl) ⟨Nat.zero_le _, Nat.zero_le _⟩ (fun H locs hP hS => ?_)
        refine lv_if_eq (tgt := 62) hx hb dX1_mostPromising_25 (by decide) (fun c_25 => ?_) (fun c_25 => ?_)
        · have h := jl_ift c_25 h
          obtain ⟨x3_62, ex3_62⟩ : ∃ y : Int32, y = x3L6 + 1 := ⟨_, rfl⟩
          have h := jl_lt_o h ex3_62
          refine lv_iinc (v := x3_62) (lv' := [(3, .int x3_62), (0, .ref (B 23)), (1, .int x1L6), (2, .int x2L6)]) hx hb dX1_mostPromising_62 hl (k := 3) rfl (by rw [ex3_62]; rfl) (by decide) rfl (fun ls hl => ?_)
          refine lv_goto (tgt := 6) hx hb dX1_mostPromising_65 (by decide) ?_
          exact ih6 _ _ _ _ (jl_L (Option.some.inj h) hz6) _ _ _ hP hS (lv_sub hl [1, 2, 3, 0] rfl)
        · have h := jl_iff c_25 h
          refine lv_aload_n hx hb dX1_mostPromising_28 rfl (lv_at hl 0 rfl) ?_
          refine lv_iload_n hx hb dX1_mostPromising_29 rfl (lv_at hl 3 rfl) ?_
          obtain ⟨r_30, M_30, hc_30, h⟩ := jl_bnd_o h
          refine jx_callVi (As := [.int x3L6]) (rest := []) ⟨hx, hb, hml, hown, hts⟩ (jc_X1_hasLookUpsLeft hc_30) (cwV 1 hts gX1_mostPromising_X1_hasLookUpsLeft rfl rfl rfl (by decide +kernel) ⟨Nat.le_trans (by decide) hRf, Nat.le_trans (by decide) hRl⟩) (jx_rv_X1 hK hP) hK hB hN hP hS rfl dX1_mostPromising_30 rfl hl.1 (Nat.le_of_ble_eq_true rfl) ⟨Nat.zero_le _, Nat.zero_le _⟩ (fun H locs hP hS => ?_)
          refine lv_if_eq (tgt := 62) hx hb dX1_mostPromising_33 (by decide) (fun c_33 => ?_) (fun c_33 => ?_)
          · have h := jl_ift c_33 h
            obtain ⟨x3_62, ex3_62⟩ : ∃ y : Int32, y = x3L6 + 1 := ⟨_, rfl⟩
            have h := jl_lt_o h ex3_62
            refine lv_iinc (v := x3_62) (lv' := [(3, .int x3_62), (0, .ref (B 23)), (1, .int x1L6), (2, .int x2L6)]) hx hb dX1_mostPromising_62 hl (k := 3) rfl (by rw [ex3_62]; rfl) (by decide) rfl (fun ls hl => ?_)
            refine lv_goto (tgt := 6) hx hb dX1_mostPromising_65 (by decide) ?_
            exact ih6 _ _ _ _ (jl_L (Option.some.inj h) hz6) _ _ _ hP hS (lv_sub hl [1, 2, 3, 0] rfl)
          · have h := jl_iff c_33 h
            refine lv_aload_n hx hb dX1_mostPromising_36 rfl (lv_at hl 0 rfl) ?_
            refine jx_g_X1_sight hx hb hts hiX1 hown hK hP hf20 dX1_mostPromising_37 ?_
            refine lv_iload_n hx hb dX1_mostPromising_40 rfl (lv_at hl 3 rfl) ?_
            obtain ⟨r_41, M_41, hc_41, h⟩ := jl_bnd_o h
            refine jx_callVi (As := [.int x3L6]) (rest := []) ⟨hx, hb, hml, hown, hts⟩ (jc_X2_highOf (ts := 24) (Or.inl rfl) hc_41) (cwV 1 hts gX1_mostPromising_X2_highOf rfl rfl rfl (by decide +kernel) ⟨Nat.le_trans (by decide) hRf, Nat.le_trans (by decide) hRl⟩) (jx_rv_X2 hK hP (ts := 24) (Or.inl rfl)) hK hB hN hP hS rfl dX1_mostPromising_41 rfl hl.1 (Nat.le_of_ble_eq_true rfl) ⟨Nat.zero_le _, Nat.zero_le _⟩ (fun H locs hP hS => ?_)
            refine lv_topi (fun x4_44 ex4_44 => ?_)
            have h := jl_lt_o h ex4_44
            refine lv_istore (lv' := [(4, .int x4_44), (0, .ref (B 23)), (1, .int x1L6), (2, .int x2L6), (3, .int x3L6)]) hx hb dX1_mostPromising_44 hl (by decide) rfl (fun ls hl => ?_)
            refine lv_iload_n hx hb dX1_mostPromising_46 rfl (lv_at hl 2 rfl) ?_
            refine lv_iconst (v := (-1)) hx hb dX1_mostPromising_47 (by decide) ?_
            refine lv_icmp_eq (tgt := 57) hx hb dX1_mostPromising_48 (by decide) (fun c_48 => ?_) (fun c_48 => ?_)
            · have h := jl_ift c_48 h
              refine lv_iload_n hx hb dX1_mostPromising_57 rfl (lv_at hl 4 rfl) ?_
              refine lv_topi (fun x1_58 ex1_58 => ?_)
              have h := jl_lt_o h ex1_58
              refine lv_istore_n (lv' := [(1, .int x1_58), (4, .int x4_44), (0, .ref (B 23)), (2, .int x2L6), (3, .int x3L6)]) hx hb dX1_mostPromising_58 rfl hl (by decide) rfl (fun ls hl => ?_)
              refine lv_iload hx hb dX1_mostPromising_59 (lv_at hl 1 rfl) ?_
              refine lv_topi (fun x2_61 ex2_61 => ?_)
              have h := jl_lt_o h ex2_61
              refine lv_istore_n (lv' := [(2, .int x2_61), (1, .int x1_58), (4, .int x4_44), (0, .ref (B 23)), (3, .int x3L6)]) hx hb dX1_mostPromising_61 rfl hl (by decide) rfl (fun ls hl => ?_)
              obtain ⟨x3_62, ex3_62⟩ : ∃ y : Int32, y = x3L6 + 1 := ⟨_, rfl⟩
              have h := jl_lt_o h ex3_62
              refine lv_iinc (v := x3_62) (lv' := [(3, .int x3_62), (2, .int x2_61), (1, .int x1_58), (4, .int x4_44), (0, .ref (B 23))]) hx hb dX1_mostPromising_62 hl (k := 4) rfl (by rw [ex3_62]; rfl) (by decide) rfl (fun ls hl => ?_)
              refine lv_goto (tgt := 6) hx hb dX1_mostPromising_65 (by decide) ?_
              exact ih6 _ _ _ _ (jl_L (Option.some.inj h) hz6) _ _ _ hP hS (lv_sub hl [4, 2, 1, 0] rfl)
            · have h := jl_iff c_48 h
              refine lv_iload hx hb dX1_mostPromising_51 (lv_at hl 0 rfl) ?_
              refine lv_iload_n hx hb dX1_mostPromising_53 rfl (lv_at hl 3 rfl) ?_
              refine lv_icmp_le (tgt := 62) hx hb dX1_mostPromising_54 (by decide) (fun c_54 => ?_) (fun c_54 => ?_)
              · have h := jl_ift c_54 h
                obtain ⟨x3_62, ex3_62⟩ : ∃ y : Int32, y = x3L6 + 1 := ⟨_, rfl⟩
                have h := jl_lt_o h ex3_62
                refine lv_iinc (v := x3_62) (lv' := [(3, .int x3_62), (4, .int x4_44), (0, .ref (B 23)), (1, .int x1L6), (2, .int x2L6)]) hx hb dX1_mostPromising_62 hl (k := 4) rfl (by rw [ex3_62]; rfl) (by decide) rfl (fun ls hl => ?_)
                refine lv_goto (tgt := 6) hx hb dX1_mostPromising_65 (by decide) ?_
                exact ih6 _ _ _ _ (jl_L (Option.some.inj h) hz6) _ _ _ hP hS (lv_sub hl [2, 3, 4, 0] rfl)
              · have h := jl_iff c_54 h
                refine lv_iload_n hx hb dX1_mostPromising_57 rfl (lv_at hl 4 rfl) ?_
                refine lv_topi (fun x1_58 ex1_58 => ?_)
                have h := jl_lt_o h ex1_58
                refine lv_istore_n (lv' := [(1, .int x1_58), (4, .int x4_44), (0, .ref (B 23)), (2, .int x2L6), (3, .int x3L6)]) hx hb dX1_mostPromising_58 rfl hl (by decide) rfl (fun ls hl => ?_)
                refine lv_iload hx hb dX1_mostPromising_59 (lv_at hl 1 rfl) ?_
                refine lv_topi (fun x2_61 ex2_61 => ?_)
                have h := jl_lt_o h ex2_61
                refine lv_istore_n (lv' := [(2, .int x2_61), (1, .int x1_58), (4, .int x4_44), (0, .ref (B 23)), (3, .int x3L6)]) hx hb dX1_mostPromising_61 rfl hl (by decide) rfl (fun ls hl => ?_)
                obtain ⟨x3_62, ex3_62⟩ : ∃ y : Int32, y = x3L6 + 1 := ⟨_, rfl⟩
                have h := jl_lt_o h ex3_62
                refine lv_iinc (v := x3_62) (lv' := [(3, .int x3_62), (2, .int x2_61), (1, .int x1_58), (4, .int x4_44), (0, .ref (B 23))]) hx hb dX1_mostPromising_62 hl (k := 4) rfl (by rw [ex3_62]; rfl) (by decide) rfl (fun ls hl => ?_)
                refine lv_goto (tgt := 6) hx hb dX1_mostPromising_65 (by decide) ?_
                exact ih6 _ _ _ _ (jl_L (Option.some.inj h) hz6) _ _ _ hP hS (lv_sub hl [4, 2, 1, 0] rfl)
  exact k6 _ _ _ _ _ h _ _ _ hP hS (lv_sub hl [3, 2, 1, 0] rfl)
theorem jc_X1_mostPromising {z : Int32 × jl_Mem} (h : jf_X1_mostPromising M = some z) : Met l yX1_mostPromising wsX1_mostPromising ({ frames := 4, cells := 0, slots := 0, locals := 88 }) (va_Pc [.ref (B 23)] (jx_U D cI cT B M)) (va_Qi (fun (q : Int32) (_ : Unit) => q = z.1) (fun _ t => va_P D vwCl (jx_w cI cT B z.2) t.heap) (jx_A B)) 0 0 (jx_A B) := by
  refine Met.ofW (cc := cX1_mostPromising) (maxL := 5) (ret := (some .int)) (by decide) rfl ?_
  intro p e s m args below meth c s1 BB hml hv
  obtain ⟨rfl, hK, hP, hB, hN⟩ := hv
  have hl := lv_entry ([.ref (B 23)]) (n := 5) (Nat.le_of_ble_eq_true rfl)
  rw [lg_entry_eq]
  generalize (lg_sl ([.ref (B 23)]) ++ List.replicate (5 - (lg_sl ([.ref (B 23)])).length) Slot.unset).toArray = ls at hl ⊢
  exact jb_X1_mostPromising BB.exec BB.bytes hml (findClass_of_methodNamed BB.named) (atoms_spec (ws := wsX1_mostPromising) BB.pre) hK hB hN (Nat.le_refl _) (Nat.le_refl _) h (fun v M1 H locs pc ls e1 hd hP hS => W.iret BB.exec BB.bytes BB.returns (fun t ht hW => ⟨⟨_, (), rfl, by rw [← e1], by show va_P D vwCl (jx_w cI cT B z.2) t.heap; rw [ht, ← e1]; exact hP⟩, hS.F ht⟩) hS.2.2 hd BB.notSynchronized) hP va_S.rf hl
end
section
variable {p : Program} {l : Launch} {e : Env} {R : Room} {s : State} {m : MethodId} {args : Array Value} {below : List Frame} {meth : Method} {c : Code} {H : Heap} {locs : List Loc} {Q : State → Prop} {ls : Array Slot} {D : va_G} {cI cT : ClassId} {B : Nat → Nat} {M : jl_Mem} {H0 : Heap}
set_option maxHeartbeats 4000000 in
set_option maxRecDepth 100000 in
theorem jb_X1_workRound (hx : p.tables.exec = Jvm.exec) (hb : c.code = cX1_workRound) (hml : c.maxLocals = 3) (hown : s.vm.findClass RX1 = some m.cls) (hts : ∀ w ∈ wsX1_workRound, w.before args s = true) (hK : va_K D vwCl (jx_ty cI cT) s) (hB : jx_inj B) (hN : jx_N s) (hRf : 5 ≤ R.frames) (hRl : 114 ≤ R.locals) {z : Int32 × jl_Mem} (h : jf_X1_workRound M = some z)
    (kr : ∀ (M1 : jl_Mem) (H1 : Heap) (locs1 : List Loc) (pc1 : Nat) (ls1 : Array Slot), (0, M1) = z → decode cX1_workRound pc1 = .ok (.return_, 1) → va_P D vwCl (jx_w cI cT B M1) H1 → va_S (jx_A B) H0 H1 locs1 → W p l e R s m args below meth c H1 locs1 0 0 Q (F0 m pc1 ls1 []))
    (hP : va_P D vwCl (jx_w cI cT B M) H) (hS : va_S (jx_A B) H0 H locs) (hl : lv_has ls 3 [(0, .ref (B 23))]) : W p l e R s m args below meth c H locs 0 0 Q (F0 m 0 ls []) := by
  unfold jf_X1_workRound at h
  have hiX1 : ∀ w ∈ wsX10, w ∈ wsX1_workRound := by decide +kernel
  have hiX0 : ∀ w ∈ wsX00, w ∈ wsX1_workRound := by decide +kernel
  have hf38 := hts (.fieldLink RX1 38 "JudgesLists$Reader" "rounds" "I") (by decide +kernel)
  have hf9 := hts (.fieldLink RX1 9 "JudgesLists$Reader" "board" "LJudgesLists$Board;") (by decide +kernel)
  have hf57 := hts (.fieldLink RX1 57 "JudgesLists$Board" "lists" "I") (by decide +kernel)
  have hf28 := hts (.fieldLink RX1 28 "JudgesLists$Reader" "kind" "I") (by decide +kernel)
  have hf54 := hts (.fieldLink RX1 54 "JudgesLists$Reader" "done" "Z") (by decide +kernel)
  have hf35 := hts (.fieldLink RX1 35 "JudgesLists$Reader" "step" "I") (by decide +kernel)
  have hf20 := hts (.fieldLink RX1 20 "JudgesLists$Reader" "sight" "LJudgesLists$Sight;") (by decide +kernel)
  refine lv_aload_n hx hb dX1_workRound_0 rfl (lv_at hl 0 rfl) ?_
  refine lv_dup hx hb dX1_workRound_1 rfl ?_
  refine jx_g_X1_rounds hx hb hts hiX1 hown hK hP hf38 dX1_workRound_2 ?_
  refine lv_iconst (v := 1) hx hb dX1_workRound_5 (by decide) ?_
  refine lv_iadd hx hb dX1_workRound_6 ?_
  refine jx_p_X1_rounds hx hb hts hiX1 hown hK hB hP hS hf38 dX1_workRound_7 (fun M_7 H locs eM_7 hP hS => ?_)
  have h := jl_lt_o h eM_7
  refine lv_iconst (v := 0) hx hb dX1_workRound_10 (by decide) ?_
  refine lv_topi (fun x1_11 ex1_11 => ?_)
  have h := jl_lt_o h ex1_11
  refine lv_istore_n (lv' := [(1, .int x1_11), (0, .ref (B 23))]) hx hb dX1_workRound_11 rfl hl (by decide) rfl (fun ls hl => ?_)
  have k12 : ∀ (n12 : Nat) (x1L12 : Int32) (ML12 : jl_Mem), jl_wh (fun q => jf_X1_workRound_L12 q.1 q.2) n12 (x1L12, ML12) = some z → ∀ (H : Heap) (locs : List Loc) (ls : Array Slot), va_P D vwCl (jx_w cI cT B ML12) H → va_S (jx_A B) H0 H locs → lv_has ls 3 [(0, .ref (B 23)), (1, .int x1L12)] → W p l e R s m args below meth c H locs 0 0 Q (F0 m 12 ls []) := by
    intro n12
    induction n12 with
    | zero => exact fun _ _ h => (jl_wh_0 h).elim
    | succ n12 ih12 =>
      intro x1L12 ML12 h H locs ls hP hS hl
      obtain ⟨o12, h, hz12⟩ := jl_wh_s h
      replace h : jf_X1_workRound_L12 x1L12 ML12 = some o12 := h
      unfold jf_X1_workRound_L12 at h
      refine lv_iload_n hx hb dX1_workRound_12 rfl (lv_at hl 1 rfl) ?_
      refine lv_aload_n hx hb dX1_workRound_13 rfl (lv_at hl 0 rfl) ?_
      refine jx_g_X1_board hx hb hts hiX1 hown hK hP hf9 dX1_workRound_14 ?_
      refine jx_g_X0_lists hx hb hts hiX0 hown hK hP hf57 dX1_workRound_17 ?_
      refine lv_icmp_ge (tgt := 66) hx hb dX1_workRound_20 (by decide) (fun c_20 => ?_) (fun c_20 => ?_)
      · have h := jl_ift c_20 h
        have h := jl_ex_o h hz12
        refine lv_aload_n hx hb dX1_workRound_66 rfl (lv_at hl 0 rfl) ?_
        refine jx_g_X1_kind hx hb hts hiX1 hown hK hP hf28 dX1_workRound_67 ?_
        refine lv_iconst (v := 2) hx hb dX1_workRound_70 (by decide) ?_
        refine lv_icmp_ne (tgt := 115) hx hb dX1_workRound_71 (by decide) (fun c_71 => ?_) (fun c_71 => ?_)
        · have h := jl_iff c_71 h
          exact kr _ _ _ _ _ (Option.some.inj h) dX1_workRound_115 hP hS
        · have h := jl_ift c_71 h
          refine lv_aload_n hx hb dX1_workRound_74 rfl (lv_at hl 0 rfl) ?_
          refine jx_g_X1_done hx hb hts hiX1 hown hK hP hf54 dX1_workRound_75 ?_
          refine lv_if_ne (tgt := 115) hx hb dX1_workRound_78 (by decide) (fun c_78 => ?_) (fun c_78 => ?_)
          · have h := jl_iff c_78 h
            exact kr _ _ _ _ _ (Option.some.inj h) dX1_workRound_115 hP hS
          · have h := jl_ift c_78 h
            refine lv_aload_n hx hb dX1_workRound_81 rfl (lv_at hl 0 rfl) ?_
            refine jx_g_X1_step hx hb hts hiX1 hown hK hP hf35 dX1_workRound_82 ?_
            refine lv_if_le (tgt := 115) hx hb dX1_workRound_85 (by decide) (fun c_85 => ?_) (fun c_85 => ?_)
            · have h := jl_ift c_85 h
              exact kr _ _ _ _ _ (Option.some.inj h) dX1_workRound_115 hP hS
            · have h := jl_iff c_85 h
              refine lv_aload_n hx hb dX1_workRound_88 rfl (lv_at hl 0 rfl) ?_
              refine jx_g_X1_rounds hx hb hts hiX1 hown hK hP hf38 dX1_workRound_89 ?_
              refine lv_aload_n hx hb dX1_workRound_92 rfl (lv_at hl 0 rfl) ?_
              refine jx_g_X1_step hx hb hts hiX1 hown hK hP hf35 dX1_workRound_93 ?_
              obtain ⟨i_96, h⟩ := jl_chk_o h
              refine lv_irem hx hb dX1_workRound_96 (jl_nz_o i_96) ?_
              refine lv_if_ne (tgt := 115) hx hb dX1_workRound_97 (by decide) (fun c_97 => ?_) (fun c_97 => ?_)
              · have h := jl_iff c_97 h
                exact kr _ _ _ _ _ (Option.some.inj h) dX1_workRound_115 hP hS
              · have h := jl_ift c_97 h
                refine lv_aload_n hx hb dX1_workRound_100 rfl (lv_at hl 0 rfl) ?_
                obtain ⟨r_101, M_101, hc_101, h⟩ := jl_bnd_o h
                refine jx_callVi (As := []) (rest := []) ⟨hx, hb, hml, hown, hts⟩ (jc_X1_mostPromising hc_101) (cwV 0 hts gX1_workRound_X1_mostPromising rfl rfl rfl (by decide +kernel) ⟨Nat.le_trans (by decide) hRf, Nat.le_trans (by decide) hRl⟩) (jx_rv_X1 hK hP) hK hB hN hP hS rfl dX1_workRound_101 rfl hl.1 (Nat.le_of_ble_eq_true rfl) ⟨Nat.zero_le _, Nat.zero_le _⟩ (fun H locs hP hS => ?_)
                refine lv_topi (fun x1_104 ex1_104 => ?_)
                have h := jl_lt_o h ex1_104
                refine lv_istore_n (lv' := [(1, .int x1_104), (0, .ref (B 23))]) hx hb dX1_workRound_104 rfl hl (by decide) rfl (fun ls hl => ?_)
                refine lv_iload_n hx hb dX1_workRound_105 rfl (lv_at hl 0 rfl) ?_
                refine lv_iconst (v := (-1)) hx hb dX1_workRound_106 (by decide) ?_
                refine lv_icmp_eq (tgt := 115) hx hb dX1_workRound_107 (by decide) (fun c_107 => ?_) (fun c_107 => ?_)
                · have h := jl_ift c_107 h
                  exact kr _ _ _ _ _ (Option.some.inj h) dX1_workRound_115 hP hS
                · have h := jl_iff c_107 h
                  refine lv_aload_n hx hb dX1_workRound_110 rfl (lv_at hl 1 rfl) ?_
                  refine lv_iload_n hx hb dX1_workRound_111 rfl (lv_at hl 0 rfl) ?_
                  obtain ⟨r_112, M_112, hc_112, h⟩ := jl_bnd_o h
                  refine jx_callVv (As := [.int x1_104]) (rest := []) ⟨hx, hb, hml, hown, hts⟩ (jc_X1_lookUpEverywhere hc_112) (cwV 1 hts gX1_workRound_X1_lookUpEverywhere rfl rfl rfl (by decide +kernel) ⟨Nat.le_trans (by decide) hRf, Nat.le_trans (by decide) hRl⟩) (jx_rv_X1 hK hP) hK hB hN hP hS rfl dX1_workRound_112 rfl hl.1 (Nat.le_of_ble_eq_true rfl) ⟨Nat.zero_le _, Nat.zero_le _⟩ (fun H locs hP hS => ?_)
                  exact kr _ _ _ _ _ (Option.some.inj h) dX1_workRound_115 hP hS
      · have h := jl_iff c_20 h
        refine lv_aload_n hx hb dX1_workRound_23 rfl (lv_at hl 0 rfl) ?_
        refine jx_g_X1_done hx hb hts hiX1 hown hK hP hf54 dX1_workRound_24 ?_
        refine lv_if_ne (tgt := 66) hx hb dX1_workRound_27 (by decide) (fun c_27 => ?_) (fun c_27 => ?_)
        · have h := jl_iff c_27 h
          have h := jl_ex_o h hz12
          refine lv_aload_n hx hb dX1_workRound_66 rfl (lv_at hl 0 rfl) ?_
          refine jx_g_X1_kind hx hb hts hiX1 hown hK hP hf28 dX1_workRound_67 ?_
          refine lv_iconst (v := 2) hx hb dX1_workRound_70 (by decide) ?_
          refine lv_icmp_ne (tgt := 115) hx hb dX1_workRound_71 (by decide) (fun c_71 => ?_) (fun c_71 => ?_)
          · have h := jl_iff c_71 h
            exact kr _ _ _ _ _ (Option.some.inj h) dX1_workRound_115 hP hS
          · have h := jl_ift c_71 h
            refine lv_aload_n hx hb dX1_workRound_74 rfl (lv_at hl 0 rfl) ?_
            refine jx_g_X1_done hx hb hts hiX1 hown hK hP hf54 dX1_workRound_75 ?_
            refine lv_if_ne (tgt := 115) hx hb dX1_workRound_78 (by decide) (fun c_78 => ?_) (fun c_78 => ?_)
            · have h := jl_iff c_78 h
              exact kr _ _ _ _ _ (Option.some.inj h) dX1_workRound_115 hP hS
            · have h := jl_ift c_78 h
              refine lv_aload_n hx hb dX1_workRound_81 rfl (lv_at hl 0 rfl) ?_
              refine jx_g_X1_step hx hb hts hiX1 hown hK hP hf35 dX1_workRound_82 ?_
              refine lv_if_le (tgt := 115) hx hb dX1_workRound_85 (by decide) (fun c_85 => ?_) (fun c_85 => ?_)
              · have h := jl_ift c_85 h
                exact kr _ _ _ _ _ (Option.some.inj h) dX1_workRound_115 hP hS
              · have h := jl_iff c_85 h
                refine lv_aload_n hx hb dX1_workRound_88 rfl (lv_at hl 0 rfl) ?_
                refine jx_g_X1_rounds hx hb hts hiX1 hown hK hP hf38 dX1_workRound_89 ?_
                refine lv_aload_n hx hb dX1_workRound_92 rfl (lv_at hl 0 rfl) ?_
                refine jx_g_X1_step hx hb hts hiX1 hown hK hP hf35 dX1_workRound_93 ?_
                obtain ⟨i_96, h⟩ := jl_chk_o h
                refine lv_irem hx hb dX1_workRound_96 (jl_nz_o i_96) ?_
                refine lv_if_ne (tgt := 115) hx hb dX1_workRound_97 (by decide) (fun c_97 => ?_) (fun c_97 => ?_)
                · have h := jl_iff c_97 h
                  exact kr _ _ _ _ _ (Option.some.inj h) dX1_workRound_115 hP hS
                · have h := jl_ift c_97 h
                  refine lv_aload_n hx hb dX1_workRound_100 rfl (lv_at hl 0 rfl) ?_
                  obtain ⟨r_101, M_101, hc_101, h⟩ := jl_bnd_o h
                  refine jx_callVi (As := []) (rest := []) ⟨hx, hb, hml, hown, hts⟩ (jc_X1_mostPromising hc_101) (cwV 0 hts gX1_workRound_X1_mostPromising rfl rfl rfl (by decide +kernel) ⟨Nat.le_trans (by decide) hRf, Nat.le_trans (by decide) hRl⟩) (jx_rv_X1 hK hP) hK hB hN hP hS rfl dX1_workRound_101 rfl hl.1 (Nat.le_of_ble_eq_true rfl) ⟨Nat.zero_le _, Nat.zero_le _⟩ (fun H locs hP hS => ?_)
                  refine lv_topi (fun x1_104 ex1_104 => ?_)
                  have h := jl_lt_o h ex1_104
                  refine lv_istore_n (lv' := [(1, .int x1_104), (0, .ref (B 23))]) hx hb dX1_workRound_104 rfl hl (by decide) rfl (fun ls hl => ?_)
                  refine lv_iload_n hx hb dX1_workRound_105 rfl (lv_at hl 0 rfl) ?_
                  refine lv_iconst (v := (-1)) hx hb dX1_workRound_106 (by decide) ?_
                  refine lv_icmp_eq (tgt := 115) hx hb dX1_workRound_107 (by decide) (fun c_107 => ?_) (fun c_107 => ?_)
                  · have h := jl_ift c_107 h
                    exact kr _ _ _ _ _ (Option.some.inj h) dX1_workRound_115 hP hS
                  · have h := jl_iff c_107 h
                    refine lv_aload_n hx hb dX1_workRound_110 rfl (lv_at hl 1 rfl) ?_
                    refine lv_iload_n hx hb dX1_workRound_111 rfl (lv_at hl 0 rfl) ?_
                    obtain ⟨r_112, M_112, hc_112, h⟩ := jl_bnd_o h
                    refine jx_callVv (As := [.int x1_104]) (rest := []) ⟨hx, hb, hml, hown, hts⟩ (jc_X1_lookUpEverywhere hc_112) (cwV 1 hts gX1_workRound_X1_lookUpEverywhere rfl rfl rfl (by decide +kernel) ⟨Nat.le_trans (by decide) hRf, Nat.le_trans (by decide) hRl⟩) (jx_rv_X1 hK hP) hK hB hN hP hS rfl dX1_workRound_112 rfl hl.1 (Nat.le_of_ble_eq_true rfl) ⟨Nat.zero_le _, Nat.zero_le _⟩ (fun H locs hP hS => ?_)
                    exact kr _ _ _ _ _ (Option.some.inj h) dX1_workRound_115 hP hS
        · have h := jl_ift c_27 h
          refine lv_aload_n hx hb dX1_workRound_30 rfl (lv_at hl 0 rfl) ?_
          refine jx_g_X1_sight hx hb hts hiX1 hown hK hP hf20 dX1_workRound_31 ?_
          refine lv_iload_n hx hb dX1_workRound_34 rfl (lv_at hl 1 rfl) ?_
          obtain ⟨r_35, M_35, hc_35, h⟩ := jl_bnd_o h
          refine jx_callVi (As := [.int x1L12]) (rest := []) ⟨hx, hb, hml, hown, hts⟩ (jc_X2_isWhole (ts := 24) (Or.inl rfl) hc_35) (cwV 1 hts gX1_workRound_X2_isWhole rfl rfl rfl (by decide +kernel) ⟨Nat.le_trans (by decide) hRf, Nat.le_trans (by decide) hRl⟩) (jx_rv_X2 hK hP (ts := 24) (Or.inl rfl)) hK hB hN hP hS rfl dX1_workRound_35 rfl hl.1 (Nat.le_of_ble_eq_true rfl) ⟨Nat.zero_le _, Nat.zero_le _⟩ (fun H locs hP hS => ?_)
          refine lv_if_ne (tgt := 60) hx hb dX1_workRound_38 (by decide) (fun c_38 => ?_) (fun c_38 => ?_)
          · have h := jl_iff c_38 h
            obtain ⟨x1_60, ex1_60⟩ : ∃ y : Int32, y = x1L12 + 1 := ⟨_, rfl⟩
            have h := jl_lt_o h ex1_60
            refine lv_iinc (v := x1_60) (lv' := [(1, .int x1_60), (0, .ref (B 23))]) hx hb dX1_workRound_60 hl (k := 1) rfl (by rw [ex1_60]; rfl) (by decide) rfl (fun ls hl => ?_)
            refine lv_goto (tgt := 12) hx hb dX1_workRound_63 (by decide) ?_
            exact ih12 _ _ (jl_L (Option.some.inj h) hz12) _ _ _ hP hS (lv_sub hl [1, 0] rfl)
          · have h := jl_ift c_38 h
            refine lv_aload_n hx hb dX1_workRound_41 rfl (lv_at hl 0 rfl) ?_
            refine lv_iload_n hx hb dX1_workRound_42 rfl (lv_at hl 1 rfl) ?_
            obtain ⟨r_43, M_43, hc_43, h⟩ := jl_bnd_o h
            refine jx_callVi (As := [.int x1L12]) (rest := []) ⟨hx, hb, hml, hown, hts⟩ (jc_X1_seeNextPlace hc_43) (cwV 1 hts gX1_workRound_X1_seeNextPlace rfl rfl rfl (by decide +kernel) ⟨Nat.le_trans (by decide) hRf, Nat.le_trans (by decide) hRl⟩) (jx_rv_X1 hK hP) hK hB hN hP hS rfl dX1_workRound_43 rfl hl.1 (Nat.le_of_ble_eq_true rfl) ⟨Nat.zero_le _, Nat.zero_le _⟩ (fun H locs hP hS => ?_)
            refine lv_topi (fun x2_46 ex2_46 => ?_)
            have h := jl_lt_o h ex2_46
            refine lv_istore_n (lv' := [(2, .int x2_46), (0, .ref (B 23)), (1, .int x1L12)]) hx hb dX1_workRound_46 rfl hl (by decide) rfl (fun ls hl => ?_)
            refine lv_aload_n hx hb dX1_workRound_47 rfl (lv_at hl 1 rfl) ?_
            refine jx_g_X1_kind hx hb hts hiX1 hown hK hP hf28 dX1_workRound_48 ?_
            refine lv_iconst (v := 1) hx hb dX1_workRound_51 (by decide) ?_
            refine lv_icmp_ne (tgt := 60) hx hb dX1_workRound_52 (by decide) (fun c_52 => ?_) (fun c_52 => ?_)
            · have h := jl_iff c_52 h
              obtain ⟨x1_60, ex1_60⟩ : ∃ y : Int32, y = x1L12 + 1 := ⟨_, rfl⟩
              have h := jl_lt_o h ex1_60
              refine lv_iinc (v := x1_60) (lv' := [(1, .int x1_60), (2, .int x2_46), (0, .ref (B 23))]) hx hb dX1_workRound_60 hl (k := 2) rfl (by rw [ex1_60]; rfl) (by decide) rfl (fun ls hl => ?_)
              refine lv_goto (tgt := 12) hx hb dX1_workRound_63 (by decide) ?_
              exact ih12 _ _ (jl_L (Option.some.inj h) hz12) _ _ _ hP hS (lv_sub hl [2, 0] rfl)
            · have h := jl_ift c_52 h
              refine lv_aload_n hx hb dX1_workRound_55 rfl (lv_at hl 1 rfl) ?_
              refine lv_iload_n hx hb dX1_workRound_56 rfl (lv_at hl 0 rfl) ?_
              obtain ⟨r_57, M_57, hc_57, h⟩ := jl_bnd_o h
              refine jx_callVv (As := [.int x2_46]) (rest := []) ⟨hx, hb, hml, hown, hts⟩ (jc_X1_lookUpEverywhere hc_57) (cwV 1 hts gX1_workRound_X1_lookUpEverywhere rfl rfl rfl (by decide +kernel) ⟨Nat.le_trans (by decide) hRf, Nat.le_trans (by decide) hRl⟩) (jx_rv_X1 hK hP) hK hB hN hP hS rfl dX1_workRound_57 rfl hl.1 (Nat.le_of_ble_eq_true rfl) ⟨Nat.zero_le _, Nat.zero_le _⟩ (fun H locs hP hS => ?_)
              obtain ⟨x1_60, ex1_60⟩ : ∃ y : Int32, y = x1L12 + 1 := ⟨_, rfl⟩
              have h := jl_lt_o h ex1_60
              refine lv_iinc (v := x1_60) (lv' := [(1, .int x1_60), (2, .int x2_46), (0, .ref (B 23))]) hx hb dX1_workRound_60 hl (k := 2) rfl (by rw [ex1_60]; rfl) (by decide) rfl (fun ls hl => ?_)
              refine lv_goto (tgt := 12) hx hb dX1_workRound_63 (by decide) ?_
              exact ih12 _ _ (jl_L (Option.some.inj h) hz12) _ _ _ hP hS (lv_sub hl [2, 0] rfl)
  exact k12 _ _ _ h _ _ _ hP hS (lv_sub hl [1, 0] rfl)
theorem jc_X1_workRound {z : Int32 × jl_Mem} (h : jf_X1_workRound M = some z) : Met l yX1_workRound wsX1_workRound ({ frames := 5, cells := 0, slots := 0, locals := 114 }) (va_Pc [.ref (B 23)] (jx_U D cI cT B M)) (va_Qv (fun (_ : Unit) => True) (fun _ t => va_P D vwCl (jx_w cI cT B z.2) t.heap) (jx_A B)) 0 0 (jx_A B) := by
  refine Met.ofW (cc := cX1_workRound) (maxL := 3) (ret := none) (by decide) rfl ?_
  intro p e s m args below meth c s1 BB hml hv
  obtain ⟨rfl, hK, hP, hB, hN⟩ := hv
  have hl := lv_entry ([.ref (B 23)]) (n := 3) (Nat.le_of_ble_eq_true rfl)
  rw [lg_entry_eq]
  generalize (lg_sl ([.ref (B 23)]) ++ List.replicate (3 - (lg_sl ([.ref (B 23)])).length) Slot.unset).toArray = ls at hl ⊢
  exact jb_X1_workRound BB.exec BB.bytes hml (findClass_of_methodNamed BB.named) (atoms_spec (ws := wsX1_workRound) BB.pre) hK hB hN (Nat.le_refl _) (Nat.le_refl _) h (fun M1 H locs pc ls e1 hd hP hS => W.vret BB.exec BB.bytes BB.returns (fun t ht hW => ⟨⟨(), rfl, trivial, by show va_P D vwCl (jx_w cI cT B z.2) t.heap; rw [ht, ← e1]; exact hP⟩, hS.F ht⟩) hS.2.2 hd BB.notSynchronized) hP va_S.rf hl
end
section
variable {p : Program} {l : Launch} {e : Env} {R : Room} {s : State} {m : MethodId} {args : Array Value} {below : List Frame} {meth : Method} {c : Code} {H : Heap} {locs : List Loc} {Q : State → Prop} {ls : Array Slot} {D : va_G} {cI cT : ClassId} {B : Nat → Nat} {M : jl_Mem} {H0 : Heap}
set_option maxHeartbeats 4000000 in
set_option maxRecDepth 100000 in
theorem jb_X2_placesSeen (hx : p.tables.exec = Jvm.exec) (hb : c.code = cX2_placesSeen) (hml : c.maxLocals = 3) (hown : s.vm.findClass RX2 = some m.cls) (hts : ∀ w ∈ wsX2_placesSeen, w.before args s = true) (hK : va_K D vwCl (jx_ty cI cT) s) (hB : jx_inj B) (hN : jx_N s) (hRf : 0 ≤ R.frames) (hRl : 0 ≤ R.locals) {ts : Nat} (hs : jx_isS ts) {z : Int32 × jl_Mem} (h : jf_X2_placesSeen ts M = some z)
    (kr : ∀ (v : Int32) (M1 : jl_Mem) (H1 : Heap) (locs1 : List Loc) (pc1 : Nat) (ls1 : Array Slot), (v, M1) = z → decode cX2_placesSeen pc1 = .ok (.ireturn, 1) → va_P D vwCl (jx_w cI cT B M1) H1 → va_S (jx_A B) H0 H1 locs1 → W p l e R s m args below meth c H1 locs1 0 0 Q (F0 m pc1 ls1 [.int v]))
    (hP : va_P D vwCl (jx_w cI cT B M) H) (hS : va_S (jx_A B) H0 H locs) (hl : lv_has ls 3 [(0, .ref (B ts))]) : W p l e R s m args below meth c H locs 0 0 Q (F0 m 0 ls []) := by
  unfold jf_X2_placesSeen at h
  have hiX2 : ∀ w ∈ wsX20, w ∈ wsX2_placesSeen := by decide +kernel
  have hiX0 : ∀ w ∈ wsX00, w ∈ wsX2_placesSeen := by decide +kernel
  have hf24 := hts (.fieldLink RX2 24 "JudgesLists$Sight" "board" "LJudgesLists$Board;") (by decide +kernel)
  have hf48 := hts (.fieldLink RX2 48 "JudgesLists$Board" "lists" "I") (by decide +kernel)
  have hf9 := hts (.fieldLink RX2 9 "JudgesLists$Sight" "depths" "[I") (by decide +kernel)
  refine lv_iconst (v := 0) hx hb dX2_placesSeen_0 (by decide) ?_
  refine lv_topi (fun x1_1 ex1_1 => ?_)
  have h := jl_lt_o h ex1_1
  refine lv_istore_n (lv' := [(1, .int x1_1), (0, .ref (B ts))]) hx hb dX2_placesSeen_1 rfl hl (by decide) rfl (fun ls hl => ?_)
  refine lv_iconst (v := 0) hx hb dX2_placesSeen_2 (by decide) ?_
  refine lv_topi (fun x2_3 ex2_3 => ?_)
  have h := jl_lt_o h ex2_3
  refine lv_istore_n (lv' := [(2, .int x2_3), (1, .int x1_1), (0, .ref (B ts))]) hx hb dX2_placesSeen_3 rfl hl (by decide) rfl (fun ls hl => ?_)
  have k4 : ∀ (n4 : Nat) (x1L4 : Int32) (x2L4 : Int32) (ML4 : jl_Mem), jl_wh (fun q => jf_X2_placesSeen_L4 ts q.1 q.2.1 q.2.2) n4 (x1L4, x2L4, ML4) = some z → ∀ (H : Heap) (locs : List Loc) (ls : Array Slot), va_P D vwCl (jx_w cI cT B ML4) H → va_S (jx_A B) H0 H locs → lv_has ls 3 [(0, .ref (B ts)), (1, .int x1L4), (2, .int x2L4)] → W p l e R s m args below meth c H locs 0 0 Q (F0 m 4 ls []) := by
    intro n4
    induction n4 with
    | zero => exact fun _ _ _ h => (jl_wh_0 h).elim
    | succ n4 ih4 =>
      intro x1L4 x2L4 ML4 h H locs ls hP hS hl
      obtain ⟨o4, h, hz4⟩ := jl_wh_s h
      replace h : jf_X2_placesSeen_L4 ts x1L4 x2L4 ML4 = some o4 := h
      unfold jf_X2_placesSeen_L4 at h
      refine lv_iload_n hx hb dX2_placesSeen_4 rfl (lv_at hl 2 rfl) ?_
      refine lv_aload_n hx hb dX2_placesSeen_5 rfl (lv_at hl 0 rfl) ?_
      refine jx_g_X2_board hx hb hts hiX2 hown hK hP hs hf24 dX2_placesSeen_6 ?_
      refine jx_g_X0_lists hx hb hts hiX0 hown hK hP hf48 dX2_placesSeen_9 ?_
      refine lv_icmp_ge (tgt := 30) hx hb dX2_placesSeen_12 (by decide) (fun c_12 => ?_) (fun c_12 => ?_)
      · have h := jl_ift c_12 h
        have h := jl_ex_o h hz4
        refine lv_iload_n hx hb dX2_placesSeen_30 rfl (lv_at hl 1 rfl) ?_
        exact kr _ _ _ _ _ _ (Option.some.inj h) dX2_placesSeen_31 hP hS
      · have h := jl_iff c_12 h
        refine lv_iload_n hx hb dX2_placesSeen_15 rfl (lv_at hl 1 rfl) ?_
        refine lv_aload_n hx hb dX2_placesSeen_16 rfl (lv_at hl 0 rfl) ?_
        refine jx_g_X2_depths hx hb hts hiX2 hown hK hP hs hf9 dX2_placesSeen_17 ?_
        refine lv_iload_n hx hb dX2_placesSeen_20 rfl (lv_at hl 2 rfl) ?_
        obtain ⟨i_21, h⟩ := jl_chk_o h
        refine jx_iaload hx hb hK hP (jx_ls1 hs) i_21 dX2_placesSeen_21 ?_
        refine lv_iadd hx hb dX2_placesSeen_22 ?_
        refine lv_topi (fun x1_23 ex1_23 => ?_)
        have h := jl_lt_o h ex1_23
        refine lv_istore_n (lv' := [(1, .int x1_23), (0, .ref (B ts)), (2, .int x2L4)]) hx hb dX2_placesSeen_23 rfl hl (by decide) rfl (fun ls hl => ?_)
        obtain ⟨x2_24, ex2_24⟩ : ∃ y : Int32, y = x2L4 + 1 := ⟨_, rfl⟩
        have h := jl_lt_o h ex2_24
        refine lv_iinc (v := x2_24) (lv' := [(2, .int x2_24), (1, .int x1_23), (0, .ref (B ts))]) hx hb dX2_placesSeen_24 hl (k := 2) rfl (by rw [ex2_24]; rfl) (by decide) rfl (fun ls hl => ?_)
        refine lv_goto (tgt := 4) hx hb dX2_placesSeen_27 (by decide) ?_
        exact ih4 _ _ _ (jl_L (Option.some.inj h) hz4) _ _ _ hP hS (lv_sub hl [2, 1, 0] rfl)
  exact k4 _ _ _ _ h _ _ _ hP hS (lv_sub hl [2, 1, 0] rfl)
theorem jc_X2_placesSeen {ts : Nat} (hs : jx_isS ts) {z : Int32 × jl_Mem} (h : jf_X2_placesSeen ts M = some z) : Met l yX2_placesSeen wsX2_placesSeen ({ frames := 0, cells := 0, slots := 0, locals := 0 }) (va_Pc [.ref (B ts)] (jx_U D cI cT B M)) (va_Qi (fun (q : Int32) (_ : Unit) => q = z.1) (fun _ t => va_P D vwCl (jx_w cI cT B z.2) t.heap) (jx_A B)) 0 0 (jx_A B) := by
  refine Met.ofW (cc := cX2_placesSeen) (maxL := 3) (ret := (some .int)) (by decide) rfl ?_
  intro p e s m args below meth c s1 BB hml hv
  obtain ⟨rfl, hK, hP, hB, hN⟩ := hv
  have hl := lv_entry ([.ref (B ts)]) (n := 3) (Nat.le_of_ble_eq_true rfl)
  rw [lg_entry_eq]
  generalize (lg_sl ([.ref (B ts)]) ++ List.replicate (3 - (lg_sl ([.ref (B ts)])).length) Slot.unset).toArray = ls at hl ⊢
  exact jb_X2_placesSeen BB.exec BB.bytes hml (findClass_of_methodNamed BB.named) (atoms_spec (ws := wsX2_placesSeen) BB.pre) hK hB hN (Nat.le_refl _) (Nat.le_refl _) hs h (fun v M1 H locs pc ls e1 hd hP hS => W.iret BB.exec BB.bytes BB.returns (fun t ht hW => ⟨⟨_, (), rfl, by rw [← e1], by show va_P D vwCl (jx_w cI cT B z.2) t.heap; rw [ht, ← e1]; exact hP⟩, hS.F ht⟩) hS.2.2 hd BB.notSynchronized) hP va_S.rf hl
end
section
variable {p : Program} {l : Launch} {e : Env} {R : Room} {s : State} {m : MethodId} {args : Array Value} {below : List Frame} {meth : Method} {c : Code} {H : Heap} {locs : List Loc} {Q : State → Prop} {ls : Array Slot} {D : va_G} {cI cT : ClassId} {B : Nat → Nat} {M : jl_Mem} {H0 : Heap}
set_option maxHeartbeats 4000000 in
set_option maxRecDepth 100000 in
theorem jb_X2_thingsSeen (hx : p.tables.exec = Jvm.exec) (hb : c.code = cX2_thingsSeen) (hml : c.maxLocals = 3) (hown : s.vm.findClass RX2 = some m.cls) (hts : ∀ w ∈ wsX2_thingsSeen, w.before args s = true) (hK : va_K D vwCl (jx_ty cI cT) s) (hB : jx_inj B) (hN : jx_N s) (hRf : 2 ≤ R.frames) (hRl : 44 ≤ R.locals) {ts : Nat} (hs : jx_isS ts) {z : Int32 × jl_Mem} (h : jf_X2_thingsSeen ts M = some z)
    (kr : ∀ (v : Int32) (M1 : jl_Mem) (H1 : Heap) (locs1 : List Loc) (pc1 : Nat) (ls1 : Array Slot), (v, M1) = z → decode cX2_thingsSeen pc1 = .ok (.ireturn, 1) → va_P D vwCl (jx_w cI cT B M1) H1 → va_S (jx_A B) H0 H1 locs1 → W p l e R s m args below meth c H1 locs1 0 0 Q (F0 m pc1 ls1 [.int v]))
    (hP : va_P D vwCl (jx_w cI cT B M) H) (hS : va_S (jx_A B) H0 H locs) (hl : lv_has ls 3 [(0, .ref (B ts))]) : W p l e R s m args below meth c H locs 0 0 Q (F0 m 0 ls []) := by
  unfold jf_X2_thingsSeen at h
  have hiX2 : ∀ w ∈ wsX20, w ∈ wsX2_thingsSeen := by decide +kernel
  have hiX0 : ∀ w ∈ wsX00, w ∈ wsX2_thingsSeen := by decide +kernel
  have hf24 := hts (.fieldLink RX2 24 "JudgesLists$Sight" "board" "LJudgesLists$Board;") (by decide +kernel)
  have hf58 := hts (.fieldLink RX2 58 "JudgesLists$Board" "things" "I") (by decide +kernel)
  refine lv_iconst (v := 0) hx hb dX2_thingsSeen_0 (by decide) ?_
  refine lv_topi (fun x1_1 ex1_1 => ?_)
  have h := jl_lt_o h ex1_1
  refine lv_istore_n (lv' := [(1, .int x1_1), (0, .ref (B ts))]) hx hb dX2_thingsSeen_1 rfl hl (by decide) rfl (fun ls hl => ?_)
  refine lv_iconst (v := 0) hx hb dX2_thingsSeen_2 (by decide) ?_
  refine lv_topi (fun x2_3 ex2_3 => ?_)
  have h := jl_lt_o h ex2_3
  refine lv_istore_n (lv' := [(2, .int x2_3), (1, .int x1_1), (0, .ref (B ts))]) hx hb dX2_thingsSeen_3 rfl hl (by decide) rfl (fun ls hl => ?_)
  have k4 : ∀ (n4 : Nat) (x1L4 : Int32) (x2L4 : Int32) (ML4 : jl_Mem), jl_wh (fun q => jf_X2_thingsSeen_L4 ts q.1 q.2.1 q.2.2) n4 (x1L4, x2L4, ML4) = some z → ∀ (H : Heap) (locs : List Loc) (ls : Array Slot), va_P D vwCl (jx_w cI cT B ML4) H → va_S (jx_A B) H0 H locs → lv_has ls 3 [(0, .ref (B ts)), (1, .int x1L4), (2, .int x2L4)] → W p l e R s m args below meth c H locs 0 0 Q (F0 m 4 ls []) := by
    intro n4
    induction n4 with
    | zero => exact fun _ _ _ h => (jl_wh_0 h).elim
    | succ n4 ih4 =>
      intro x1L4 x2L4 ML4 h H locs ls hP hS hl
      obtain ⟨o4, h, hz4⟩ := jl_wh_s h
      replace h : jf_X2_thingsSeen_L4 ts x1L4 x2L4 ML4 = some o4 := h
      unfold jf_X2_thingsSeen_L4 at h
      refine lv_iload_n hx hb dX2_thingsSeen_4 rfl (lv_at hl 2 rfl) ?_
      refine lv_aload_n hx hb dX2_thingsSeen_5 rfl (lv_at hl 0 rfl) ?_
      refine jx_g_X2_board hx hb hts hiX2 hown hK hP hs hf24 dX2_thingsSeen_6 ?_
      refine jx_g_X0_things hx hb hts hiX0 hown hK hP hf58 dX2_thingsSeen_9 ?_
      refine lv_icmp_ge (tgt := 32) hx hb dX2_thingsSeen_12 (by decide) (fun c_12 => ?_) (fun c_12 => ?_)
      · have h := jl_ift c_12 h
        have h := jl_ex_o h hz4
        refine lv_iload_n hx hb dX2_thingsSeen_32 rfl (lv_at hl 1 rfl) ?_
        exact kr _ _ _ _ _ _ (Option.some.inj h) dX2_thingsSeen_33 hP hS
      · have h := jl_iff c_12 h
        refine lv_iload_n hx hb dX2_thingsSeen_15 rfl (lv_at hl 1 rfl) ?_
        refine lv_aload_n hx hb dX2_thingsSeen_16 rfl (lv_at hl 0 rfl) ?_
        refine lv_iload_n hx hb dX2_thingsSeen_17 rfl (lv_at hl 2 rfl) ?_
        obtain ⟨r_18, M_18, hc_18, h⟩ := jl_bnd_o h
        refine jx_callVi (As := [.int x2L4]) (rest := [.int x1L4]) ⟨hx, hb, hml, hown, hts⟩ (jc_X2_isSeen hs hc_18) (cwV 1 hts gX2_thingsSeen_X2_isSeen rfl rfl rfl (by decide +kernel) ⟨Nat.le_trans (by decide) hRf, Nat.le_trans (by decide) hRl⟩) (jx_rv_X2 hK hP hs) hK hB hN hP hS rfl dX2_thingsSeen_18 rfl hl.1 (Nat.le_of_ble_eq_true rfl) ⟨Nat.zero_le _, Nat.zero_le _⟩ (fun H locs hP hS => ?_)
        obtain ⟨r_21, M_21, hc_21, h⟩ := jl_bnd_o h
        refine jx_callNi (As := [.int r_18]) (rest := [.int x1L4]) ⟨hx, hb, hml, hown, hts⟩ (jc_X4_yes hc_21) ⟨va_cnB 1 hts gX2_thingsSeen_X4_yes_n64 rfl rfl rfl hN.2.2.2.2 (hts (.initialized RX4) (by decide +kernel)) (by decide +kernel) ⟨Nat.le_trans (by decide) hRf, Nat.le_trans (by decide) hRl⟩, hts (.static yX4_yes) (by decide +kernel), trivial⟩ hK hB hN hP hS rfl dX2_thingsSeen_21 rfl hl.1 (Nat.le_of_ble_eq_true rfl) ⟨Nat.zero_le _, Nat.zero_le _⟩ (fun H locs hP hS => ?_)
        refine lv_iadd hx hb dX2_thingsSeen_24 ?_
        refine lv_topi (fun x1_25 ex1_25 => ?_)
        have h := jl_lt_o h ex1_25
        refine lv_istore_n (lv' := [(1, .int x1_25), (0, .ref (B ts)), (2, .int x2L4)]) hx hb dX2_thingsSeen_25 rfl hl (by decide) rfl (fun ls hl => ?_)
        obtain ⟨x2_26, ex2_26⟩ : ∃ y : Int32, y = x2L4 + 1 := ⟨_, rfl⟩
        have h := jl_lt_o h ex2_26
        refine lv_iinc (v := x2_26) (lv' := [(2, .int x2_26), (1, .int x1_25), (0, .ref (B ts))]) hx hb dX2_thingsSeen_26 hl (k := 2) rfl (by rw [ex2_26]; rfl) (by decide) rfl (fun ls hl => ?_)
        refine lv_goto (tgt := 4) hx hb dX2_thingsSeen_29 (by decide) ?_
        exact ih4 _ _ _ (jl_L (Option.some.inj h) hz4) _ _ _ hP hS (lv_sub hl [2, 1, 0] rfl)
  exact k4 _ _ _ _ h _ _ _ hP hS (lv_sub hl [2, 1, 0] rfl)
theorem jc_X2_thingsSeen {ts : Nat} (hs : jx_isS ts) {z : Int32 × jl_Mem} (h : jf_X2_thingsSeen ts M = some z) : Met l yX2_thingsSeen wsX2_thingsSeen ({ frames := 2, cells := 0, slots := 0, locals := 44 }) (va_Pc [.ref (B ts)] (jx_U D cI cT B M)) (va_Qi (fun (q : Int32) (_ : Unit) => q = z.1) (fun _ t => va_P D vwCl (jx_w cI cT B z.2) t.heap) (jx_A B)) 0 0 (jx_A B) := by
  refine Met.ofW (cc := cX2_thingsSeen) (maxL := 3) (ret := (some .int)) (by decide) rfl ?_
  intro p e s m args below meth c s1 BB hml hv
  obtain ⟨rfl, hK, hP, hB, hN⟩ := hv
  have hl := lv_entry ([.ref (B ts)]) (n := 3) (Nat.le_of_ble_eq_true rfl)
  rw [lg_entry_eq]
  generalize (lg_sl ([.ref (B ts)]) ++ List.replicate (3 - (lg_sl ([.ref (B ts)])).length) Slot.unset).toArray = ls at hl ⊢
  exact jb_X2_thingsSeen BB.exec BB.bytes hml (findClass_of_methodNamed BB.named) (atoms_spec (ws := wsX2_thingsSeen) BB.pre) hK hB hN (Nat.le_refl _) (Nat.le_refl _) hs h (fun v M1 H locs pc ls e1 hd hP hS => W.iret BB.exec BB.bytes BB.returns (fun t ht hW => ⟨⟨_, (), rfl, by rw [← e1], by show va_P D vwCl (jx_w cI cT B z.2) t.heap; rw [ht, ← e1]; exact hP⟩, hS.F ht⟩) hS.2.2 hd BB.notSynchronized) hP va_S.rf hl
end
section
variable {p : Program} {l : Launch} {e : Env} {R : Room} {s : State} {m : MethodId} {args : Array Value} {below : List Frame} {meth : Method} {c : Code} {H : Heap} {locs : List Loc} {Q : State → Prop} {ls : Array Slot} {D : va_G} {cI cT : ClassId} {B : Nat → Nat} {M : jl_Mem} {H0 : Heap}
set_option maxHeartbeats 4000000 in
set_option maxRecDepth 100000 in
theorem jb_X2_foundAt (hx : p.tables.exec = Jvm.exec) (hb : c.code = cX2_foundAt) (hml : c.maxLocals = 4) (hown : s.vm.findClass RX2 = some m.cls) (hts : ∀ w ∈ wsX2_foundAt, w.before args s = true) (hK : va_K D vwCl (jx_ty cI cT) s) (hB : jx_inj B) (hN : jx_N s) (hRf : 1 ≤ R.frames) (hRl : 21 ≤ R.locals) {ts : Nat} (hs : jx_isS ts) {a1 : Int32} {z : Int32 × jl_Mem} (h : jf_X2_foundAt ts a1 M = some z)
    (kr : ∀ (v : Int32) (M1 : jl_Mem) (H1 : Heap) (locs1 : List Loc) (pc1 : Nat) (ls1 : Array Slot), (v, M1) = z → decode cX2_foundAt pc1 = .ok (.ireturn, 1) → va_P D vwCl (jx_w cI cT B M1) H1 → va_S (jx_A B) H0 H1 locs1 → W p l e R s m args below meth c H1 locs1 0 0 Q (F0 m pc1 ls1 [.int v]))
    (hP : va_P D vwCl (jx_w cI cT B M) H) (hS : va_S (jx_A B) H0 H locs) (hl : lv_has ls 4 [(0, .ref (B ts)), (1, .int a1)]) : W p l e R s m args below meth c H locs 0 0 Q (F0 m 0 ls []) := by
  unfold jf_X2_foundAt at h
  have hiX2 : ∀ w ∈ wsX20, w ∈ wsX2_foundAt := by decide +kernel
  have hiX0 : ∀ w ∈ wsX00, w ∈ wsX2_foundAt := by decide +kernel
  have hf24 := hts (.fieldLink RX2 24 "JudgesLists$Sight" "board" "LJudgesLists$Board;") (by decide +kernel)
  have hf58 := hts (.fieldLink RX2 58 "JudgesLists$Board" "things" "I") (by decide +kernel)
  refine lv_iconst (v := 0) hx hb dX2_foundAt_0 (by decide) ?_
  refine lv_topi (fun x2_1 ex2_1 => ?_)
  have h := jl_lt_o h ex2_1
  refine lv_istore_n (lv' := [(2, .int x2_1), (0, .ref (B ts)), (1, .int a1)]) hx hb dX2_foundAt_1 rfl hl (by decide) rfl (fun ls hl => ?_)
  refine lv_iconst (v := 0) hx hb dX2_foundAt_2 (by decide) ?_
  refine lv_topi (fun x3_3 ex3_3 => ?_)
  have h := jl_lt_o h ex3_3
  refine lv_istore_n (lv' := [(3, .int x3_3), (2, .int x2_1), (0, .ref (B ts)), (1, .int a1)]) hx hb dX2_foundAt_3 rfl hl (by decide) rfl (fun ls hl => ?_)
  have k4 : ∀ (n4 : Nat) (x2L4 : Int32) (x3L4 : Int32) (ML4 : jl_Mem), jl_wh (fun q => jf_X2_foundAt_L4 ts a1 q.1 q.2.1 q.2.2) n4 (x2L4, x3L4, ML4) = some z → ∀ (H : Heap) (locs : List Loc) (ls : Array Slot), va_P D vwCl (jx_w cI cT B ML4) H → va_S (jx_A B) H0 H locs → lv_has ls 4 [(0, .ref (B ts)), (1, .int a1), (2, .int x2L4), (3, .int x3L4)] → W p l e R s m args below meth c H locs 0 0 Q (F0 m 4 ls []) := by
    intro n4
    induction n4 with
    | zero => exact fun _ _ _ h => (jl_wh_0 h).elim
    | succ n4 ih4 =>
      intro x2L4 x3L4 ML4 h H locs ls hP hS hl
      obtain ⟨o4, h, hz4⟩ := jl_wh_s h
      replace h : jf_X2_foundAt_L4 ts a1 x2L4 x3L4 ML4 = some o4 := h
      unfold jf_X2_foundAt_L4 at h
      refine lv_iload_n hx hb dX2_foundAt_4 rfl (lv_at hl 3 rfl) ?_
      refine lv_aload_n hx hb dX2_foundAt_5 rfl (lv_at hl 0 rfl) ?_
      refine jx_g_X2_board hx hb hts hiX2 hown hK hP hs hf24 dX2_foundAt_6 ?_
      refine jx_g_X0_things hx hb hts hiX0 hown hK hP hf58 dX2_foundAt_9 ?_
      refine lv_icmp_ge (tgt := 39) hx hb dX2_foundAt_12 (by decide) (fun c_12 => ?_) (fun c_12 => ?_)
      · have h := jl_ift c_12 h
        have h := jl_ex_o h hz4
        refine lv_iconst (v := (-1)) hx hb dX2_foundAt_39 (by decide) ?_
        exact kr _ _ _ _ _ _ (Option.some.inj h) dX2_foundAt_40 hP hS
      · have h := jl_iff c_12 h
        refine lv_aload_n hx hb dX2_foundAt_15 rfl (lv_at hl 0 rfl) ?_
        refine lv_iload_n hx hb dX2_foundAt_16 rfl (lv_at hl 3 rfl) ?_
        obtain ⟨r_17, M_17, hc_17, h⟩ := jl_bnd_o h
        refine jx_callVi (As := [.int x3L4]) (rest := []) ⟨hx, hb, hml, hown, hts⟩ (jc_X2_isFound hs hc_17) (cwV 1 hts gX2_foundAt_X2_isFound rfl rfl rfl (by decide +kernel) ⟨Nat.le_trans (by decide) hRf, Nat.le_trans (by decide) hRl⟩) (jx_rv_X2 hK hP hs) hK hB hN hP hS rfl dX2_foundAt_17 rfl hl.1 (Nat.le_of_ble_eq_true rfl) ⟨Nat.zero_le _, Nat.zero_le _⟩ (fun H locs hP hS => ?_)
        refine lv_if_eq (tgt := 33) hx hb dX2_foundAt_20 (by decide) (fun c_20 => ?_) (fun c_20 => ?_)
        · have h := jl_ift c_20 h
          obtain ⟨x3_33, ex3_33⟩ : ∃ y : Int32, y = x3L4 + 1 := ⟨_, rfl⟩
          have h := jl_lt_o h ex3_33
          refine lv_iinc (v := x3_33) (lv' := [(3, .int x3_33), (0, .ref (B ts)), (1, .int a1), (2, .int x2L4)]) hx hb dX2_foundAt_33 hl (k := 3) rfl (by rw [ex3_33]; rfl) (by decide) rfl (fun ls hl => ?_)
          refine lv_goto (tgt := 4) hx hb dX2_foundAt_36 (by decide) ?_
          exact ih4 _ _ _ (jl_L (Option.some.inj h) hz4) _ _ _ hP hS (lv_sub hl [1, 2, 3, 0] rfl)
        · have h := jl_iff c_20 h
          refine lv_iload_n hx hb dX2_foundAt_23 rfl (lv_at hl 2 rfl) ?_
          refine lv_iload_n hx hb dX2_foundAt_24 rfl (lv_at hl 1 rfl) ?_
          refine lv_icmp_ne (tgt := 30) hx hb dX2_foundAt_25 (by decide) (fun c_25 => ?_) (fun c_25 => ?_)
          · have h := jl_iff c_25 h
            obtain ⟨x2_30, ex2_30⟩ : ∃ y : Int32, y = x2L4 + 1 := ⟨_, rfl⟩
            have h := jl_lt_o h ex2_30
            refine lv_iinc (v := x2_30) (lv' := [(2, .int x2_30), (0, .ref (B ts)), (1, .int a1), (3, .int x3L4)]) hx hb dX2_foundAt_30 hl (k := 2) rfl (by rw [ex2_30]; rfl) (by decide) rfl (fun ls hl => ?_)
            obtain ⟨x3_33, ex3_33⟩ : ∃ y : Int32, y = x3L4 + 1 := ⟨_, rfl⟩
            have h := jl_lt_o h ex3_33
            refine lv_iinc (v := x3_33) (lv' := [(3, .int x3_33), (2, .int x2_30), (0, .ref (B ts)), (1, .int a1)]) hx hb dX2_foundAt_33 hl (k := 3) rfl (by rw [ex3_33]; rfl) (by decide) rfl (fun ls hl => ?_)
            refine lv_goto (tgt := 4) hx hb dX2_foundAt_36 (by decide) ?_
            exact ih4 _ _ _ (jl_L (Option.some.inj h) hz4) _ _ _ hP hS (lv_sub hl [2, 3, 1, 0] rfl)
          · have h := jl_ift c_25 h
            have h := jl_ex_o h hz4
            refine lv_iload_n hx hb dX2_foundAt_28 rfl (lv_at hl 3 rfl) ?_
            exact kr _ _ _ _ _ _ (Option.some.inj h) dX2_foundAt_29 hP hS
  exact k4 _ _ _ _ h _ _ _ hP hS (lv_sub hl [2, 3, 1, 0] rfl)
theorem jc_X2_foundAt {ts : Nat} (hs : jx_isS ts) {a1 : Int32} {z : Int32 × jl_Mem} (h : jf_X2_foundAt ts a1 M = some z) : Met l yX2_foundAt wsX2_foundAt ({ frames := 1, cells := 0, slots := 0, locals := 21 }) (va_Pc [.ref (B ts), .int a1] (jx_U D cI cT B M)) (va_Qi (fun (q : Int32) (_ : Unit) => q = z.1) (fun _ t => va_P D vwCl (jx_w cI cT B z.2) t.heap) (jx_A B)) 0 0 (jx_A B) := by
  refine Met.ofW (cc := cX2_foundAt) (maxL := 4) (ret := (some .int)) (by decide) rfl ?_
  intro p e s m args below meth c s1 BB hml hv
  obtain ⟨rfl, hK, hP, hB, hN⟩ := hv
  have hl := lv_entry ([.ref (B ts), .int a1]) (n := 4) (Nat.le_of_ble_eq_true rfl)
  rw [lg_entry_eq]
  generalize (lg_sl ([.ref (B ts), .int a1]) ++ List.replicate (4 - (lg_sl ([.ref (B ts), .int a1])).length) Slot.unset).toArray = ls at hl ⊢
  exact jb_X2_foundAt BB.exec BB.bytes hml (findClass_of_methodNamed BB.named) (atoms_spec (ws := wsX2_foundAt) BB.pre) hK hB hN (Nat.le_refl _) (Nat.le_refl _) hs h (fun v M1 H locs pc ls e1 hd hP hS => W.iret BB.exec BB.bytes BB.returns (fun t ht hW => ⟨⟨_, (), rfl, by rw [← e1], by show va_P D vwCl (jx_w cI cT B z.2) t.heap; rw [ht, ← e1]; exact hP⟩, hS.F ht⟩) hS.2.2 hd BB.notSynchronized) hP va_S.rf hl
end
