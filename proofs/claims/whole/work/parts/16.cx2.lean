section
variable {p : Program} {l : Launch} {e : Env} {R : Room} {s : State} {m : MethodId} {args : Array Value} {below : List Frame} {meth : Method} {c : Code} {H : Heap} {locs : List Loc} {Q : State → Prop} {ls : Array Slot} {D : va_G} {cI cT : ClassId} {B : Nat → Nat} {M : jl_Mem} {H0 : Heap}
set_option maxHeartbeats 4000000 in
set_option maxRecDepth 100000 in
theorem jb_X0_bestAt (hx : p.tables.exec = Jvm.exec) (hb : c.code = cX0_bestAt) (hml : c.maxLocals = 3) (hown : s.vm.findClass RX0 = some m.cls) (hts : ∀ w ∈ wsX0_bestAt, w.before args s = true) (hK : va_K D vwCl (jx_ty cI cT) s) (hB : jx_inj B) (hN : jx_N s) (hRf : 3 ≤ R.frames) (hRl : 69 ≤ R.locals) {a1 : Int32} {z : Int32 × jl_Mem} (h : jf_X0_bestAt a1 M = some z)
    (kr : ∀ (v : Int32) (M1 : jl_Mem) (H1 : Heap) (locs1 : List Loc) (pc1 : Nat) (ls1 : Array Slot), (v, M1) = z → decode cX0_bestAt pc1 = .ok (.ireturn, 1) → va_P D vwCl (jx_w cI cT B M1) H1 → va_S (jx_A B) H0 H1 locs1 → W p l e R s m args below meth c H1 locs1 0 0 Q (F0 m pc1 ls1 [.int v]))
    (hP : va_P D vwCl (jx_w cI cT B M) H) (hS : va_S (jx_A B) H0 H locs) (hl : lv_has ls 3 [(0, .ref (B 1)), (1, .int a1)]) : W p l e R s m args below meth c H locs 0 0 Q (F0 m 0 ls []) := by
  unfold jf_X0_bestAt at h
  have hiX0 : ∀ w ∈ wsX00, w ∈ wsX0_bestAt := by decide +kernel
  have hf45 := hts (.fieldLink RX0 45 "JudgesLists$Board" "things" "I") (by decide +kernel)
  have hf42 := hts (.fieldLink RX0 42 "JudgesLists$Board" "totals" "[I") (by decide +kernel)
  refine lv_iconst (v := 0) hx hb dX0_bestAt_0 (by decide) ?_
  refine lv_topi (fun x2_1 ex2_1 => ?_)
  have h := jl_lt_o h ex2_1
  refine lv_istore_n (lv' := [(2, .int x2_1), (0, .ref (B 1)), (1, .int a1)]) hx hb dX0_bestAt_1 rfl hl (by decide) rfl (fun ls hl => ?_)
  have k2 : ∀ (n2 : Nat) (x2L2 : Int32) (ML2 : jl_Mem), jl_wh (fun q => jf_X0_bestAt_L2 a1 q.1 q.2) n2 (x2L2, ML2) = some z → ∀ (H : Heap) (locs : List Loc) (ls : Array Slot), va_P D vwCl (jx_w cI cT B ML2) H → va_S (jx_A B) H0 H locs → lv_has ls 3 [(0, .ref (B 1)), (1, .int a1), (2, .int x2L2)] → W p l e R s m args below meth c H locs 0 0 Q (F0 m 2 ls []) := by
    intro n2
    induction n2 with
    | zero => exact fun _ _ h => (jl_wh_0 h).elim
    | succ n2 ih2 =>
      intro x2L2 ML2 h H locs ls hP hS hl
      obtain ⟨o2, h, hz2⟩ := jl_wh_s h
      replace h : jf_X0_bestAt_L2 a1 x2L2 ML2 = some o2 := h
      unfold jf_X0_bestAt_L2 at h
      refine lv_iload_n hx hb dX0_bestAt_2 rfl (lv_at hl 2 rfl) ?_
      refine lv_aload_n hx hb dX0_bestAt_3 rfl (lv_at hl 0 rfl) ?_
      refine jx_g_X0_things hx hb hts hiX0 hown hK hP hf45 dX0_bestAt_4 ?_
      refine lv_icmp_ge (tgt := 27) hx hb dX0_bestAt_7 (by decide) (fun c_7 => ?_) (fun c_7 => ?_)
      · have h := jl_ift c_7 h
        have h := jl_ex_o h hz2
        refine lv_iconst (v := 0) hx hb dX0_bestAt_27 (by decide) ?_
        refine lv_topi (fun x2_28 ex2_28 => ?_)
        have h := jl_lt_o h ex2_28
        refine lv_istore_n (lv' := [(2, .int x2_28), (0, .ref (B 1)), (1, .int a1)]) hx hb dX0_bestAt_28 rfl hl (by decide) rfl (fun ls hl => ?_)
        have k29 : ∀ (n29 : Nat) (x2L29 : Int32) (ML29 : jl_Mem), jl_wh (fun q => jf_X0_bestAt_L29 a1 q.1 q.2) n29 (x2L29, ML29) = some z → ∀ (H : Heap) (locs : List Loc) (ls : Array Slot), va_P D vwCl (jx_w cI cT B ML29) H → va_S (jx_A B) H0 H locs → lv_has ls 3 [(0, .ref (B 1)), (1, .int a1), (2, .int x2L29)] → W p l e R s m args below meth c H locs 0 0 Q (F0 m 29 ls []) := by
          intro n29
          induction n29 with
          | zero => exact fun _ _ h => (jl_wh_0 h).elim
          | succ n29 ih29 =>
            intro x2L29 ML29 h H locs ls hP hS hl
            obtain ⟨o29, h, hz29⟩ := jl_wh_s h
            replace h : jf_X0_bestAt_L29 a1 x2L29 ML29 = some o29 := h
            unfold jf_X0_bestAt_L29 at h
            refine lv_iload_n hx hb dX0_bestAt_29 rfl (lv_at hl 2 rfl) ?_
            refine lv_aload_n hx hb dX0_bestAt_30 rfl (lv_at hl 0 rfl) ?_
            refine jx_g_X0_things hx hb hts hiX0 hown hK hP hf45 dX0_bestAt_31 ?_
            refine lv_icmp_ge (tgt := 58) hx hb dX0_bestAt_34 (by decide) (fun c_34 => ?_) (fun c_34 => ?_)
            · have h := jl_ift c_34 h
              have h := jl_ex_o h hz29
              refine lv_iconst (v := (-1)) hx hb dX0_bestAt_58 (by decide) ?_
              exact kr _ _ _ _ _ _ (Option.some.inj h) dX0_bestAt_59 hP hS
            · have h := jl_iff c_34 h
              refine lv_aload_n hx hb dX0_bestAt_37 rfl (lv_at hl 0 rfl) ?_
              refine lv_iload_n hx hb dX0_bestAt_38 rfl (lv_at hl 2 rfl) ?_
              refine lv_aload_n hx hb dX0_bestAt_39 rfl (lv_at hl 0 rfl) ?_
              refine jx_g_X0_totals hx hb hts hiX0 hown hK hP hf42 dX0_bestAt_40 ?_
              obtain ⟨r_43, M_43, hc_43, h⟩ := jl_bnd_o h
              refine jx_callVi (As := [.int x2L29, .ref (B 22)]) (rest := []) ⟨hx, hb, hml, hown, hts⟩ (jc_X0_rankOf hc_43) (cwV 2 hts gX0_bestAt_X0_rankOf rfl rfl rfl (by decide +kernel) ⟨Nat.le_trans (by decide) hRf, Nat.le_trans (by decide) hRl⟩) (jx_rv_X0 hK hP) hK hB hN hP hS rfl dX0_bestAt_43 rfl hl.1 (Nat.le_of_ble_eq_true rfl) ⟨Nat.zero_le _, Nat.zero_le _⟩ (fun H locs hP hS => ?_)
              refine lv_iload_n hx hb dX0_bestAt_46 rfl (lv_at hl 1 rfl) ?_
              refine lv_icmp_ne (tgt := 52) hx hb dX0_bestAt_47 (by decide) (fun c_47 => ?_) (fun c_47 => ?_)
              · have h := jl_iff c_47 h
                obtain ⟨x2_52, ex2_52⟩ : ∃ y : Int32, y = x2L29 + 1 := ⟨_, rfl⟩
                have h := jl_lt_o h ex2_52
                refine lv_iinc (v := x2_52) (lv' := [(2, .int x2_52), (0, .ref (B 1)), (1, .int a1)]) hx hb dX0_bestAt_52 hl (k := 2) rfl (by rw [ex2_52]; rfl) (by decide) rfl (fun ls hl => ?_)
                refine lv_goto (tgt := 29) hx hb dX0_bestAt_55 (by decide) ?_
                exact ih29 _ _ (jl_L (Option.some.inj h) hz29) _ _ _ hP hS (lv_sub hl [1, 2, 0] rfl)
              · have h := jl_ift c_47 h
                have h := jl_ex_o h hz29
                refine lv_iload_n hx hb dX0_bestAt_50 rfl (lv_at hl 2 rfl) ?_
                exact kr _ _ _ _ _ _ (Option.some.inj h) dX0_bestAt_51 hP hS
        exact k29 _ _ _ h _ _ _ hP hS (lv_sub hl [1, 2, 0] rfl)
      · have h := jl_iff c_7 h
        refine lv_aload_n hx hb dX0_bestAt_10 rfl (lv_at hl 0 rfl) ?_
        refine jx_g_X0_totals hx hb hts hiX0 hown hK hP hf42 dX0_bestAt_11 ?_
        refine lv_iload_n hx hb dX0_bestAt_14 rfl (lv_at hl 2 rfl) ?_
        refine lv_aload_n hx hb dX0_bestAt_15 rfl (lv_at hl 0 rfl) ?_
        refine lv_iload_n hx hb dX0_bestAt_16 rfl (lv_at hl 2 rfl) ?_
        obtain ⟨r_17, M_17, hc_17, h⟩ := jl_bnd_o h
        refine jx_callVi (As := [.int x2L2]) (rest := [.int x2L2, .ref (B 22)]) ⟨hx, hb, hml, hown, hts⟩ (jc_X0_totalOf hc_17) (cwV 1 hts gX0_bestAt_X0_totalOf rfl rfl rfl (by decide +kernel) ⟨Nat.le_trans (by decide) hRf, Nat.le_trans (by decide) hRl⟩) (jx_rv_X0 hK hP) hK hB hN hP hS rfl dX0_bestAt_17 rfl hl.1 (Nat.le_of_ble_eq_true rfl) ⟨Nat.zero_le _, Nat.zero_le _⟩ (fun H locs hP hS => ?_)
        obtain ⟨i_20, h⟩ := jl_chk_o h
        refine jx_iastore hx hb hK hB hP hS rfl i_20 dX0_bestAt_20 (fun M_20 H locs eM_20 hP hS => ?_)
        have h := jl_lt_o h eM_20
        obtain ⟨x2_21, ex2_21⟩ : ∃ y : Int32, y = x2L2 + 1 := ⟨_, rfl⟩
        have h := jl_lt_o h ex2_21
        refine lv_iinc (v := x2_21) (lv' := [(2, .int x2_21), (0, .ref (B 1)), (1, .int a1)]) hx hb dX0_bestAt_21 hl (k := 2) rfl (by rw [ex2_21]; rfl) (by decide) rfl (fun ls hl => ?_)
        refine lv_goto (tgt := 2) hx hb dX0_bestAt_24 (by decide) ?_
        exact ih2 _ _ (jl_L (Option.some.inj h) hz2) _ _ _ hP hS (lv_sub hl [1, 2, 0] rfl)
  exact k2 _ _ _ h _ _ _ hP hS (lv_sub hl [1, 2, 0] rfl)
theorem jc_X0_bestAt {a1 : Int32} {z : Int32 × jl_Mem} (h : jf_X0_bestAt a1 M = some z) : Met l yX0_bestAt wsX0_bestAt ({ frames := 3, cells := 0, slots := 0, locals := 69 }) (va_Pc [.ref (B 1), .int a1] (jx_U D cI cT B M)) (va_Qi (fun (q : Int32) (_ : Unit) => q = z.1) (fun _ t => va_P D vwCl (jx_w cI cT B z.2) t.heap) (jx_A B)) 0 0 (jx_A B) := by
  refine Met.ofW (cc := cX0_bestAt) (maxL := 3) (ret := (some .int)) (by decide) rfl ?_
  intro p e s m args below meth c s1 BB hml hv
  obtain ⟨rfl, hK, hP, hB, hN⟩ := hv
  have hl := lv_entry ([.ref (B 1), .int a1]) (n := 3) (Nat.le_of_ble_eq_true rfl)
  rw [lg_entry_eq]
  generalize (lg_sl ([.ref (B 1), .int a1]) ++ List.replicate (3 - (lg_sl ([.ref (B 1), .int a1])).length) Slot.unset).toArray = ls at hl ⊢
  exact jb_X0_bestAt BB.exec BB.bytes hml (findClass_of_methodNamed BB.named) (atoms_spec (ws := wsX0_bestAt) BB.pre) hK hB hN (Nat.le_refl _) (Nat.le_refl _) h (fun v M1 H locs pc ls e1 hd hP hS => W.iret BB.exec BB.bytes BB.returns (fun t ht hW => ⟨⟨_, (), rfl, by rw [← e1], by show va_P D vwCl (jx_w cI cT B z.2) t.heap; rw [ht, ← e1]; exact hP⟩, hS.F ht⟩) hS.2.2 hd BB.notSynchronized) hP va_S.rf hl
end
section
variable {p : Program} {l : Launch} {e : Env} {R : Room} {s : State} {m : MethodId} {args : Array Value} {below : List Frame} {meth : Method} {c : Code} {H : Heap} {locs : List Loc} {Q : State → Prop} {ls : Array Slot} {D : va_G} {cI cT : ClassId} {B : Nat → Nat} {M : jl_Mem} {H0 : Heap}
set_option maxHeartbeats 4000000 in
set_option maxRecDepth 100000 in
theorem jb_X2_forget (hx : p.tables.exec = Jvm.exec) (hb : c.code = cX2_forget) (hml : c.maxLocals = 2) (hown : s.vm.findClass RX2 = some m.cls) (hts : ∀ w ∈ wsX2_forget, w.before args s = true) (hK : va_K D vwCl (jx_ty cI cT) s) (hB : jx_inj B) (hN : jx_N s) (hRf : 0 ≤ R.frames) (hRl : 0 ≤ R.locals) {ts : Nat} (hs : jx_isS ts) {z : Int32 × jl_Mem} (h : jf_X2_forget ts M = some z)
    (kr : ∀ (M1 : jl_Mem) (H1 : Heap) (locs1 : List Loc) (pc1 : Nat) (ls1 : Array Slot), (0, M1) = z → decode cX2_forget pc1 = .ok (.return_, 1) → va_P D vwCl (jx_w cI cT B M1) H1 → va_S (jx_A B) H0 H1 locs1 → W p l e R s m args below meth c H1 locs1 0 0 Q (F0 m pc1 ls1 []))
    (hP : va_P D vwCl (jx_w cI cT B M) H) (hS : va_S (jx_A B) H0 H locs) (hl : lv_has ls 2 [(0, .ref (B ts))]) : W p l e R s m args below meth c H locs 0 0 Q (F0 m 0 ls []) := by
  unfold jf_X2_forget at h
  have hiX2 : ∀ w ∈ wsX20, w ∈ wsX2_forget := by decide +kernel
  have hf9 := hts (.fieldLink RX2 9 "JudgesLists$Sight" "depths" "[I") (by decide +kernel)
  have hf15 := hts (.fieldLink RX2 15 "JudgesLists$Sight" "lookedUp" "[I") (by decide +kernel)
  refine lv_iconst (v := 0) hx hb dX2_forget_0 (by decide) ?_
  refine lv_topi (fun x1_1 ex1_1 => ?_)
  have h := jl_lt_o h ex1_1
  refine lv_istore_n (lv' := [(1, .int x1_1), (0, .ref (B ts))]) hx hb dX2_forget_1 rfl hl (by decide) rfl (fun ls hl => ?_)
  have k2 : ∀ (n2 : Nat) (x1L2 : Int32) (ML2 : jl_Mem), jl_wh (fun q => jf_X2_forget_L2 ts q.1 q.2) n2 (x1L2, ML2) = some z → ∀ (H : Heap) (locs : List Loc) (ls : Array Slot), va_P D vwCl (jx_w cI cT B ML2) H → va_S (jx_A B) H0 H locs → lv_has ls 2 [(0, .ref (B ts)), (1, .int x1L2)] → W p l e R s m args below meth c H locs 0 0 Q (F0 m 2 ls []) := by
    intro n2
    induction n2 with
    | zero => exact fun _ _ h => (jl_wh_0 h).elim
    | succ n2 ih2 =>
      intro x1L2 ML2 h H locs ls hP hS hl
      obtain ⟨o2, h, hz2⟩ := jl_wh_s h
      replace h : jf_X2_forget_L2 ts x1L2 ML2 = some o2 := h
      unfold jf_X2_forget_L2 at h
      refine lv_iload_n hx hb dX2_forget_2 rfl (lv_at hl 1 rfl) ?_
      refine lv_iconst (v := 4) hx hb dX2_forget_3 (by decide) ?_
      refine lv_icmp_ge (tgt := 27) hx hb dX2_forget_4 (by decide) (fun c_4 => ?_) (fun c_4 => ?_)
      · have h := jl_ift c_4 h
        have h := jl_ex_o h hz2
        exact kr _ _ _ _ _ (Option.some.inj h) dX2_forget_27 hP hS
      · have h := jl_iff c_4 h
        refine lv_aload_n hx hb dX2_forget_7 rfl (lv_at hl 0 rfl) ?_
        refine jx_g_X2_depths hx hb hts hiX2 hown hK hP hs hf9 dX2_forget_8 ?_
        refine lv_iload_n hx hb dX2_forget_11 rfl (lv_at hl 1 rfl) ?_
        refine lv_iconst (v := 0) hx hb dX2_forget_12 (by decide) ?_
        obtain ⟨i_13, h⟩ := jl_chk_o h
        refine jx_iastore hx hb hK hB hP hS (jx_ls1 hs) i_13 dX2_forget_13 (fun M_13 H locs eM_13 hP hS => ?_)
        have h := jl_lt_o h eM_13
        refine lv_aload_n hx hb dX2_forget_14 rfl (lv_at hl 0 rfl) ?_
        refine jx_g_X2_lookedUp hx hb hts hiX2 hown hK hP hs hf15 dX2_forget_15 ?_
        refine lv_iload_n hx hb dX2_forget_18 rfl (lv_at hl 1 rfl) ?_
        refine lv_iconst (v := 0) hx hb dX2_forget_19 (by decide) ?_
        refine jx_iastore hx hb hK hB hP hS (jx_ls2 hs) i_13 dX2_forget_20 (fun M_20 H locs eM_20 hP hS => ?_)
        have h := jl_lt_o h eM_20
        obtain ⟨x1_21, ex1_21⟩ : ∃ y : Int32, y = x1L2 + 1 := ⟨_, rfl⟩
        have h := jl_lt_o h ex1_21
        refine lv_iinc (v := x1_21) (lv' := [(1, .int x1_21), (0, .ref (B ts))]) hx hb dX2_forget_21 hl (k := 1) rfl (by rw [ex1_21]; rfl) (by decide) rfl (fun ls hl => ?_)
        refine lv_goto (tgt := 2) hx hb dX2_forget_24 (by decide) ?_
        exact ih2 _ _ (jl_L (Option.some.inj h) hz2) _ _ _ hP hS (lv_sub hl [1, 0] rfl)
  exact k2 _ _ _ h _ _ _ hP hS (lv_sub hl [1, 0] rfl)
theorem jc_X2_forget {ts : Nat} (hs : jx_isS ts) {z : Int32 × jl_Mem} (h : jf_X2_forget ts M = some z) : Met l yX2_forget wsX2_forget ({ frames := 0, cells := 0, slots := 0, locals := 0 }) (va_Pc [.ref (B ts)] (jx_U D cI cT B M)) (va_Qv (fun (_ : Unit) => True) (fun _ t => va_P D vwCl (jx_w cI cT B z.2) t.heap) (jx_A B)) 0 0 (jx_A B) := by
  refine Met.ofW (cc := cX2_forget) (maxL := 2) (ret := none) (by decide) rfl ?_
  intro p e s m args below meth c s1 BB hml hv
  obtain ⟨rfl, hK, hP, hB, hN⟩ := hv
  have hl := lv_entry ([.ref (B ts)]) (n := 2) (Nat.le_of_ble_eq_true rfl)
  rw [lg_entry_eq]
  generalize (lg_sl ([.ref (B ts)]) ++ List.replicate (2 - (lg_sl ([.ref (B ts)])).length) Slot.unset).toArray = ls at hl ⊢
  exact jb_X2_forget BB.exec BB.bytes hml (findClass_of_methodNamed BB.named) (atoms_spec (ws := wsX2_forget) BB.pre) hK hB hN (Nat.le_refl _) (Nat.le_refl _) hs h (fun M1 H locs pc ls e1 hd hP hS => W.vret BB.exec BB.bytes BB.returns (fun t ht hW => ⟨⟨(), rfl, trivial, by show va_P D vwCl (jx_w cI cT B z.2) t.heap; rw [ht, ← e1]; exact hP⟩, hS.F ht⟩) hS.2.2 hd BB.notSynchronized) hP va_S.rf hl
end
section
variable {p : Program} {l : Launch} {e : Env} {R : Room} {s : State} {m : MethodId} {args : Array Value} {below : List Frame} {meth : Method} {c : Code} {H : Heap} {locs : List Loc} {Q : State → Prop} {ls : Array Slot} {D : va_G} {cI cT : ClassId} {B : Nat → Nat} {M : jl_Mem} {H0 : Heap}
set_option maxHeartbeats 4000000 in
set_option maxRecDepth 100000 in
theorem jb_X2_isWhole (hx : p.tables.exec = Jvm.exec) (hb : c.code = cX2_isWhole) (hml : c.maxLocals = 2) (hown : s.vm.findClass RX2 = some m.cls) (hts : ∀ w ∈ wsX2_isWhole, w.before args s = true) (hK : va_K D vwCl (jx_ty cI cT) s) (hB : jx_inj B) (hN : jx_N s) (hRf : 0 ≤ R.frames) (hRl : 0 ≤ R.locals) {ts : Nat} (hs : jx_isS ts) {a1 : Int32} {z : Int32 × jl_Mem} (h : jf_X2_isWhole ts a1 M = some z)
    (kr : ∀ (v : Int32) (M1 : jl_Mem) (H1 : Heap) (locs1 : List Loc) (pc1 : Nat) (ls1 : Array Slot), (v, M1) = z → jl_isB v = true → decode cX2_isWhole pc1 = .ok (.ireturn, 1) → va_P D vwCl (jx_w cI cT B M1) H1 → va_S (jx_A B) H0 H1 locs1 → W p l e R s m args below meth c H1 locs1 0 0 Q (F0 m pc1 ls1 [.int v]))
    (hP : va_P D vwCl (jx_w cI cT B M) H) (hS : va_S (jx_A B) H0 H locs) (hl : lv_has ls 2 [(0, .ref (B ts)), (1, .int a1)]) : W p l e R s m args below meth c H locs 0 0 Q (F0 m 0 ls []) := by
  unfold jf_X2_isWhole at h
  have hiX2 : ∀ w ∈ wsX20, w ∈ wsX2_isWhole := by decide +kernel
  have hiX0 : ∀ w ∈ wsX00, w ∈ wsX2_isWhole := by decide +kernel
  have hf9 := hts (.fieldLink RX2 9 "JudgesLists$Sight" "depths" "[I") (by decide +kernel)
  have hf24 := hts (.fieldLink RX2 24 "JudgesLists$Sight" "board" "LJudgesLists$Board;") (by decide +kernel)
  have hf28 := hts (.fieldLink RX2 28 "JudgesLists$Board" "lengths" "[I") (by decide +kernel)
  refine lv_aload_n hx hb dX2_isWhole_0 rfl (lv_at hl 0 rfl) ?_
  refine jx_g_X2_depths hx hb hts hiX2 hown hK hP hs hf9 dX2_isWhole_1 ?_
  refine lv_iload_n hx hb dX2_isWhole_4 rfl (lv_at hl 1 rfl) ?_
  obtain ⟨i_5, h⟩ := jl_chk_o h
  refine jx_iaload hx hb hK hP (jx_ls1 hs) i_5 dX2_isWhole_5 ?_
  refine lv_aload_n hx hb dX2_isWhole_6 rfl (lv_at hl 0 rfl) ?_
  refine jx_g_X2_board hx hb hts hiX2 hown hK hP hs hf24 dX2_isWhole_7 ?_
  refine jx_g_X0_lengths hx hb hts hiX0 hown hK hP hf28 dX2_isWhole_10 ?_
  refine lv_iload_n hx hb dX2_isWhole_13 rfl (lv_at hl 1 rfl) ?_
  refine jx_iaload hx hb hK hP rfl i_5 dX2_isWhole_14 ?_
  refine lv_icmp_lt (tgt := 22) hx hb dX2_isWhole_15 (by decide) (fun c_15 => ?_) (fun c_15 => ?_)
  · have h := jl_ift c_15 h
    refine lv_iconst (v := 0) hx hb dX2_isWhole_22 (by decide) ?_
    exact kr _ _ _ _ _ _ (Option.some.inj h) (by decide) dX2_isWhole_23 hP hS
  · have h := jl_iff c_15 h
    refine lv_iconst (v := 1) hx hb dX2_isWhole_18 (by decide) ?_
    refine lv_goto (tgt := 23) hx hb dX2_isWhole_19 (by decide) ?_
    exact kr _ _ _ _ _ _ (Option.some.inj h) (by decide) dX2_isWhole_23 hP hS
theorem jc_X2_isWhole {ts : Nat} (hs : jx_isS ts) {a1 : Int32} {z : Int32 × jl_Mem} (h : jf_X2_isWhole ts a1 M = some z) : Met l yX2_isWhole wsX2_isWhole ({ frames := 0, cells := 0, slots := 0, locals := 0 }) (va_Pc [.ref (B ts), .int a1] (jx_U D cI cT B M)) (va_Qi (fun (q : Int32) (_ : Unit) => q = z.1) (fun _ t => va_P D vwCl (jx_w cI cT B z.2) t.heap) (jx_A B)) 0 0 (jx_A B) := by
  refine Met.ofW (cc := cX2_isWhole) (maxL := 2) (ret := (some .boolean)) (by decide) rfl ?_
  intro p e s m args below meth c s1 BB hml hv
  obtain ⟨rfl, hK, hP, hB, hN⟩ := hv
  have hl := lv_entry ([.ref (B ts), .int a1]) (n := 2) (Nat.le_of_ble_eq_true rfl)
  rw [lg_entry_eq]
  generalize (lg_sl ([.ref (B ts), .int a1]) ++ List.replicate (2 - (lg_sl ([.ref (B ts), .int a1])).length) Slot.unset).toArray = ls at hl ⊢
  exact jb_X2_isWhole BB.exec BB.bytes hml (findClass_of_methodNamed BB.named) (atoms_spec (ws := wsX2_isWhole) BB.pre) hK hB hN (Nat.le_refl _) (Nat.le_refl _) hs h (fun v M1 H locs pc ls e1 hz hd hP hS => W.zret BB.exec BB.bytes BB.returns (jl_nar hz) (fun t ht hW => ⟨⟨_, (), rfl, by rw [← e1], by show va_P D vwCl (jx_w cI cT B z.2) t.heap; rw [ht, ← e1]; exact hP⟩, hS.F ht⟩) hS.2.2 hd BB.notSynchronized) hP va_S.rf hl
end
section
variable {p : Program} {l : Launch} {e : Env} {R : Room} {s : State} {m : MethodId} {args : Array Value} {below : List Frame} {meth : Method} {c : Code} {H : Heap} {locs : List Loc} {Q : State → Prop} {ls : Array Slot} {D : va_G} {cI cT : ClassId} {B : Nat → Nat} {M : jl_Mem} {H0 : Heap}
set_option maxHeartbeats 4000000 in
set_option maxRecDepth 100000 in
theorem jb_X2_isAtSeenPlace (hx : p.tables.exec = Jvm.exec) (hb : c.code = cX2_isAtSeenPlace) (hml : c.maxLocals = 3) (hown : s.vm.findClass RX2 = some m.cls) (hts : ∀ w ∈ wsX2_isAtSeenPlace, w.before args s = true) (hK : va_K D vwCl (jx_ty cI cT) s) (hB : jx_inj B) (hN : jx_N s) (hRf : 0 ≤ R.frames) (hRl : 0 ≤ R.locals) {ts : Nat} (hs : jx_isS ts) {a1 : Int32} {a2 : Int32} {z : Int32 × jl_Mem} (h : jf_X2_isAtSeenPlace ts a1 a2 M = some z)
    (kr : ∀ (v : Int32) (M1 : jl_Mem) (H1 : Heap) (locs1 : List Loc) (pc1 : Nat) (ls1 : Array Slot), (v, M1) = z → jl_isB v = true → decode cX2_isAtSeenPlace pc1 = .ok (.ireturn, 1) → va_P D vwCl (jx_w cI cT B M1) H1 → va_S (jx_A B) H0 H1 locs1 → W p l e R s m args below meth c H1 locs1 0 0 Q (F0 m pc1 ls1 [.int v]))
    (hP : va_P D vwCl (jx_w cI cT B M) H) (hS : va_S (jx_A B) H0 H locs) (hl : lv_has ls 3 [(0, .ref (B ts)), (1, .int a1), (2, .int a2)]) : W p l e R s m args below meth c H locs 0 0 Q (F0 m 0 ls []) := by
  unfold jf_X2_isAtSeenPlace at h
  have hiX2 : ∀ w ∈ wsX20, w ∈ wsX2_isAtSeenPlace := by decide +kernel
  have hiX0 : ∀ w ∈ wsX00, w ∈ wsX2_isAtSeenPlace := by decide +kernel
  have hf24 := hts (.fieldLink RX2 24 "JudgesLists$Sight" "board" "LJudgesLists$Board;") (by decide +kernel)
  have hf33 := hts (.fieldLink RX2 33 "JudgesLists$Board" "marks" "[[I") (by decide +kernel)
  have hf37 := hts (.fieldLink RX2 37 "JudgesLists$Board" "places" "[[I") (by decide +kernel)
  have hf9 := hts (.fieldLink RX2 9 "JudgesLists$Sight" "depths" "[I") (by decide +kernel)
  refine lv_aload_n hx hb dX2_isAtSeenPlace_0 rfl (lv_at hl 0 rfl) ?_
  refine jx_g_X2_board hx hb hts hiX2 hown hK hP hs hf24 dX2_isAtSeenPlace_1 ?_
  refine jx_g_X0_marks hx hb hts hiX0 hown hK hP hf33 dX2_isAtSeenPlace_4 ?_
  refine lv_iload_n hx hb dX2_isAtSeenPlace_7 rfl (lv_at hl 1 rfl) ?_
  obtain ⟨i_8, h⟩ := jl_chk_o h
  refine jx_aaload6 hx hb hK hP i_8 dX2_isAtSeenPlace_8 ?_
  refine lv_iload_n hx hb dX2_isAtSeenPlace_9 rfl (lv_at hl 2 rfl) ?_
  obtain ⟨i_10, h⟩ := jl_chk_o h
  refine jx_iaload hx hb hK hP (jx_lr7 i_8) i_10 dX2_isAtSeenPlace_10 ?_
  refine lv_if_eq (tgt := 38) hx hb dX2_isAtSeenPlace_11 (by decide) (fun c_11 => ?_) (fun c_11 => ?_)
  · have h := jl_ift c_11 h
    refine lv_iconst (v := 0) hx hb dX2_isAtSeenPlace_38 (by decide) ?_
    exact kr _ _ _ _ _ _ (Option.some.inj h) (by decide) dX2_isAtSeenPlace_39 hP hS
  · have h := jl_iff c_11 h
    refine lv_aload_n hx hb dX2_isAtSeenPlace_14 rfl (lv_at hl 0 rfl) ?_
    refine jx_g_X2_board hx hb hts hiX2 hown hK hP hs hf24 dX2_isAtSeenPlace_15 ?_
    refine jx_g_X0_places hx hb hts hiX0 hown hK hP hf37 dX2_isAtSeenPlace_18 ?_
    refine lv_iload_n hx hb dX2_isAtSeenPlace_21 rfl (lv_at hl 1 rfl) ?_
    refine jx_aaload16 hx hb hK hP i_8 dX2_isAtSeenPlace_22 ?_
    refine lv_iload_n hx hb dX2_isAtSeenPlace_23 rfl (lv_at hl 2 rfl) ?_
    refine jx_iaload hx hb hK hP (jx_lr17 i_8) i_10 dX2_isAtSeenPlace_24 ?_
    refine lv_aload_n hx hb dX2_isAtSeenPlace_25 rfl (lv_at hl 0 rfl) ?_
    refine jx_g_X2_depths hx hb hts hiX2 hown hK hP hs hf9 dX2_isAtSeenPlace_26 ?_
    refine lv_iload_n hx hb dX2_isAtSeenPlace_29 rfl (lv_at hl 1 rfl) ?_
    refine jx_iaload hx hb hK hP (jx_ls1 hs) i_8 dX2_isAtSeenPlace_30 ?_
    refine lv_icmp_ge (tgt := 38) hx hb dX2_isAtSeenPlace_31 (by decide) (fun c_31 => ?_) (fun c_31 => ?_)
    · have h := jl_ift c_31 h
      refine lv_iconst (v := 0) hx hb dX2_isAtSeenPlace_38 (by decide) ?_
      exact kr _ _ _ _ _ _ (Option.some.inj h) (by decide) dX2_isAtSeenPlace_39 hP hS
    · have h := jl_iff c_31 h
      refine lv_iconst (v := 1) hx hb dX2_isAtSeenPlace_34 (by decide) ?_
      refine lv_goto (tgt := 39) hx hb dX2_isAtSeenPlace_35 (by decide) ?_
      exact kr _ _ _ _ _ _ (Option.some.inj h) (by decide) dX2_isAtSeenPlace_39 hP hS
theorem jc_X2_isAtSeenPlace {ts : Nat} (hs : jx_isS ts) {a1 : Int32} {a2 : Int32} {z : Int32 × jl_Mem} (h : jf_X2_isAtSeenPlace ts a1 a2 M = some z) : Met l yX2_isAtSeenPlace wsX2_isAtSeenPlace ({ frames := 0, cells := 0, slots := 0, locals := 0 }) (va_Pc [.ref (B ts), .int a1, .int a2] (jx_U D cI cT B M)) (va_Qi (fun (q : Int32) (_ : Unit) => q = z.1) (fun _ t => va_P D vwCl (jx_w cI cT B z.2) t.heap) (jx_A B)) 0 0 (jx_A B) := by
  refine Met.ofW (cc := cX2_isAtSeenPlace) (maxL := 3) (ret := (some .boolean)) (by decide) rfl ?_
  intro p e s m args below meth c s1 BB hml hv
  obtain ⟨rfl, hK, hP, hB, hN⟩ := hv
  have hl := lv_entry ([.ref (B ts), .int a1, .int a2]) (n := 3) (Nat.le_of_ble_eq_true rfl)
  rw [lg_entry_eq]
  generalize (lg_sl ([.ref (B ts), .int a1, .int a2]) ++ List.replicate (3 - (lg_sl ([.ref (B ts), .int a1, .int a2])).length) Slot.unset).toArray = ls at hl ⊢
  exact jb_X2_isAtSeenPlace BB.exec BB.bytes hml (findClass_of_methodNamed BB.named) (atoms_spec (ws := wsX2_isAtSeenPlace) BB.pre) hK hB hN (Nat.le_refl _) (Nat.le_refl _) hs h (fun v M1 H locs pc ls e1 hz hd hP hS => W.zret BB.exec BB.bytes BB.returns (jl_nar hz) (fun t ht hW => ⟨⟨_, (), rfl, by rw [← e1], by show va_P D vwCl (jx_w cI cT B z.2) t.heap; rw [ht, ← e1]; exact hP⟩, hS.F ht⟩) hS.2.2 hd BB.notSynchronized) hP va_S.rf hl
end
section
variable {p : Program} {l : Launch} {e : Env} {R : Room} {s : State} {m : MethodId} {args : Array Value} {below : List Frame} {meth : Method} {c : Code} {H : Heap} {locs : List Loc} {Q : State → Prop} {ls : Array Slot} {D : va_G} {cI cT : ClassId} {B : Nat → Nat} {M : jl_Mem} {H0 : Heap}
set_option maxHeartbeats 4000000 in
set_option maxRecDepth 100000 in
theorem jb_X2_isKnown (hx : p.tables.exec = Jvm.exec) (hb : c.code = cX2_isKnown) (hml : c.maxLocals = 3) (hown : s.vm.findClass RX2 = some m.cls) (hts : ∀ w ∈ wsX2_isKnown, w.before args s = true) (hK : va_K D vwCl (jx_ty cI cT) s) (hB : jx_inj B) (hN : jx_N s) (hRf : 1 ≤ R.frames) (hRl : 22 ≤ R.locals) {ts : Nat} (hs : jx_isS ts) {a1 : Int32} {a2 : Int32} {z : Int32 × jl_Mem} (h : jf_X2_isKnown ts a1 a2 M = some z)
    (kr : ∀ (v : Int32) (M1 : jl_Mem) (H1 : Heap) (locs1 : List Loc) (pc1 : Nat) (ls1 : Array Slot), (v, M1) = z → jl_isB v = true → decode cX2_isKnown pc1 = .ok (.ireturn, 1) → va_P D vwCl (jx_w cI cT B M1) H1 → va_S (jx_A B) H0 H1 locs1 → W p l e R s m args below meth c H1 locs1 0 0 Q (F0 m pc1 ls1 [.int v]))
    (hP : va_P D vwCl (jx_w cI cT B M) H) (hS : va_S (jx_A B) H0 H locs) (hl : lv_has ls 3 [(0, .ref (B ts)), (1, .int a1), (2, .int a2)]) : W p l e R s m args below meth c H locs 0 0 Q (F0 m 0 ls []) := by
  unfold jf_X2_isKnown at h
  have hiX2 : ∀ w ∈ wsX20, w ∈ wsX2_isKnown := by decide +kernel
  have hf15 := hts (.fieldLink RX2 15 "JudgesLists$Sight" "lookedUp" "[I") (by decide +kernel)
  refine lv_aload_n hx hb dX2_isKnown_0 rfl (lv_at hl 0 rfl) ?_
  refine lv_iload_n hx hb dX2_isKnown_1 rfl (lv_at hl 1 rfl) ?_
  obtain ⟨r_2, M_2, hc_2, h⟩ := jl_bnd_o h
  refine jx_callVi (As := [.int a1]) (rest := []) ⟨hx, hb, hml, hown, hts⟩ (jc_X2_isWhole hs hc_2) (cwV 1 hts gX2_isKnown_X2_isWhole rfl rfl rfl (by decide +kernel) ⟨Nat.le_trans (by decide) hRf, Nat.le_trans (by decide) hRl⟩) (jx_rv_X2 hK hP hs) hK hB hN hP hS rfl dX2_isKnown_2 rfl hl.1 (Nat.le_of_ble_eq_true rfl) ⟨Nat.zero_le _, Nat.zero_le _⟩ (fun H locs hP hS => ?_)
  refine lv_if_ne (tgt := 31) hx hb dX2_isKnown_5 (by decide) (fun c_5 => ?_) (fun c_5 => ?_)
  · have h := jl_iff c_5 h
    refine lv_iconst (v := 1) hx hb dX2_isKnown_31 (by decide) ?_
    refine lv_goto (tgt := 36) hx hb dX2_isKnown_32 (by decide) ?_
    exact kr _ _ _ _ _ _ (Option.some.inj h) (by decide) dX2_isKnown_36 hP hS
  · have h := jl_ift c_5 h
    refine lv_aload_n hx hb dX2_isKnown_8 rfl (lv_at hl 0 rfl) ?_
    refine lv_iload_n hx hb dX2_isKnown_9 rfl (lv_at hl 1 rfl) ?_
    refine lv_iload_n hx hb dX2_isKnown_10 rfl (lv_at hl 2 rfl) ?_
    obtain ⟨r_11, M_11, hc_11, h⟩ := jl_bnd_o h
    refine jx_callVi (As := [.int a1, .int a2]) (rest := []) ⟨hx, hb, hml, hown, hts⟩ (jc_X2_isAtSeenPlace hs hc_11) (cwV 2 hts gX2_isKnown_X2_isAtSeenPlace rfl rfl rfl (by decide +kernel) ⟨Nat.le_trans (by decide) hRf, Nat.le_trans (by decide) hRl⟩) (jx_rv_X2 hK hP hs) hK hB hN hP hS rfl dX2_isKnown_11 rfl hl.1 (Nat.le_of_ble_eq_true rfl) ⟨Nat.zero_le _, Nat.zero_le _⟩ (fun H locs hP hS => ?_)
    refine lv_if_ne (tgt := 31) hx hb dX2_isKnown_14 (by decide) (fun c_14 => ?_) (fun c_14 => ?_)
    · have h := jl_iff c_14 h
      refine lv_iconst (v := 1) hx hb dX2_isKnown_31 (by decide) ?_
      refine lv_goto (tgt := 36) hx hb dX2_isKnown_32 (by decide) ?_
      exact kr _ _ _ _ _ _ (Option.some.inj h) (by decide) dX2_isKnown_36 hP hS
    · have h := jl_ift c_14 h
      refine lv_aload_n hx hb dX2_isKnown_17 rfl (lv_at hl 0 rfl) ?_
      refine jx_g_X2_lookedUp hx hb hts hiX2 hown hK hP hs hf15 dX2_isKnown_18 ?_
      refine lv_iload_n hx hb dX2_isKnown_21 rfl (lv_at hl 1 rfl) ?_
      obtain ⟨i_22, h⟩ := jl_chk_o h
      refine jx_iaload hx hb hK hP (jx_ls2 hs) i_22 dX2_isKnown_22 ?_
      refine lv_iload_n hx hb dX2_isKnown_23 rfl (lv_at hl 2 rfl) ?_
      refine lv_ishr hx hb dX2_isKnown_24 ?_
      refine lv_iconst (v := 1) hx hb dX2_isKnown_25 (by decide) ?_
      refine lv_iand hx hb dX2_isKnown_26 ?_
      refine lv_iconst (v := 1) hx hb dX2_isKnown_27 (by decide) ?_
      refine lv_icmp_ne (tgt := 35) hx hb dX2_isKnown_28 (by decide) (fun c_28 => ?_) (fun c_28 => ?_)
      · have h := jl_iff c_28 h
        refine lv_iconst (v := 0) hx hb dX2_isKnown_35 (by decide) ?_
        exact kr _ _ _ _ _ _ (Option.some.inj h) (by decide) dX2_isKnown_36 hP hS
      · have h := jl_ift c_28 h
        refine lv_iconst (v := 1) hx hb dX2_isKnown_31 (by decide) ?_
        refine lv_goto (tgt := 36) hx hb dX2_isKnown_32 (by decide) ?_
        exact kr _ _ _ _ _ _ (Option.some.inj h) (by decide) dX2_isKnown_36 hP hS
theorem jc_X2_isKnown {ts : Nat} (hs : jx_isS ts) {a1 : Int32} {a2 : Int32} {z : Int32 × jl_Mem} (h : jf_X2_isKnown ts a1 a2 M = some z) : Met l yX2_isKnown wsX2_isKnown ({ frames := 1, cells := 0, slots := 0, locals := 22 }) (va_Pc [.ref (B ts), .int a1, .int a2] (jx_U D cI cT B M)) (va_Qi (fun (q : Int32) (_ : Unit) => q = z.1) (fun _ t => va_P D vwCl (jx_w cI cT B z.2) t.heap) (jx_A B)) 0 0 (jx_A B) := by
  refine Met.ofW (cc := cX2_isKnown) (maxL := 3) (ret := (some .boolean)) (by decide) rfl ?_
  intro p e s m args below meth c s1 BB hml hv
  obtain ⟨rfl, hK, hP, hB, hN⟩ := hv
  have hl := lv_entry ([.ref (B ts), .int a1, .int a2]) (n := 3) (Nat.le_of_ble_eq_true rfl)
  rw [lg_entry_eq]
  generalize (lg_sl ([.ref (B ts), .int a1, .int a2]) ++ List.replicate (3 - (lg_sl ([.ref (B ts), .int a1, .int a2])).length) Slot.unset).toArray = ls at hl ⊢
  exact jb_X2_isKnown BB.exec BB.bytes hml (findClass_of_methodNamed BB.named) (atoms_spec (ws := wsX2_isKnown) BB.pre) hK hB hN (Nat.le_refl _) (Nat.le_refl _) hs h (fun v M1 H locs pc ls e1 hz hd hP hS => W.zret BB.exec BB.bytes BB.returns (jl_nar hz) (fun t ht hW => ⟨⟨_, (), rfl, by rw [← e1], by show va_P D vwCl (jx_w cI cT B z.2) t.heap; rw [ht, ← e1]; exact hP⟩, hS.F ht⟩) hS.2.2 hd BB.notSynchronized) hP va_S.rf hl
end
section
variable {p : Program} {l : Launch} {e : Env} {R : Room} {s : State} {m : MethodId} {args : Array Value} {below : List Frame} {meth : Method} {c : Code} {H : Heap} {locs : List Loc} {Q : State → Prop} {ls : Array Slot} {D : va_G} {cI cT : ClassId} {B : Nat → Nat} {M : jl_Mem} {H0 : Heap}
set_option maxHeartbeats 4000000 in
set_option maxRecDepth 100000 in
theorem jb_X2_lowOf (hx : p.tables.exec = Jvm.exec) (hb : c.code = cX2_lowOf) (hml : c.maxLocals = 3) (hown : s.vm.findClass RX2 = some m.cls) (hts : ∀ w ∈ wsX2_lowOf, w.before args s = true) (hK : va_K D vwCl (jx_ty cI cT) s) (hB : jx_inj B) (hN : jx_N s) (hRf : 2 ≤ R.frames) (hRl : 47 ≤ R.locals) {ts : Nat} (hs : jx_isS ts) {a1 : Int32} {z : Int32 × jl_Mem} (h : jf_X2_lowOf ts a1 M = some z)
    (kr : ∀ (v : Int32) (M1 : jl_Mem) (H1 : Heap) (locs1 : List Loc) (pc1 : Nat) (ls1 : Array Slot), (v, M1) = z → decode cX2_lowOf pc1 = .ok (.ireturn, 1) → va_P D vwCl (jx_w cI cT B M1) H1 → va_S (jx_A B) H0 H1 locs1 → W p l e R s m args below meth c H1 locs1 0 0 Q (F0 m pc1 ls1 [.int v]))
    (hP : va_P D vwCl (jx_w cI cT B M) H) (hS : va_S (jx_A B) H0 H locs) (hl : lv_has ls 3 [(0, .ref (B ts)), (1, .int a1)]) : W p l e R s m args below meth c H locs 0 0 Q (F0 m 0 ls []) := by
  unfold jf_X2_lowOf at h
  have hiX2 : ∀ w ∈ wsX20, w ∈ wsX2_lowOf := by decide +kernel
  have hiX0 : ∀ w ∈ wsX00, w ∈ wsX2_lowOf := by decide +kernel
  have hf24 := hts (.fieldLink RX2 24 "JudgesLists$Sight" "board" "LJudgesLists$Board;") (by decide +kernel)
  have hf48 := hts (.fieldLink RX2 48 "JudgesLists$Board" "lists" "I") (by decide +kernel)
  have hf18 := hts (.fieldLink RX2 18 "JudgesLists$Sight" "ofOneThing" "[I") (by decide +kernel)
  have hf33 := hts (.fieldLink RX2 33 "JudgesLists$Board" "marks" "[[I") (by decide +kernel)
  refine lv_iconst (v := 0) hx hb dX2_lowOf_0 (by decide) ?_
  refine lv_topi (fun x2_1 ex2_1 => ?_)
  have h := jl_lt_o h ex2_1
  refine lv_istore_n (lv' := [(2, .int x2_1), (0, .ref (B ts)), (1, .int a1)]) hx hb dX2_lowOf_1 rfl hl (by decide) rfl (fun ls hl => ?_)
  have k2 : ∀ (n2 : Nat) (x2L2 : Int32) (ML2 : jl_Mem), jl_wh (fun q => jf_X2_lowOf_L2 ts a1 q.1 q.2) n2 (x2L2, ML2) = some z → ∀ (H : Heap) (locs : List Loc) (ls : Array Slot), va_P D vwCl (jx_w cI cT B ML2) H → va_S (jx_A B) H0 H locs → lv_has ls 3 [(0, .ref (B ts)), (1, .int a1), (2, .int x2L2)] → W p l e R s m args below meth c H locs 0 0 Q (F0 m 2 ls []) := by
    intro n2
    induction n2 with
    | zero => exact fun _ _ h => (jl_wh_0 h).elim
    | succ n2 ih2 =>
      intro x2L2 ML2 h H locs ls hP hS hl
      obtain ⟨o2, h, hz2⟩ := jl_wh_s h
      replace h : jf_X2_lowOf_L2 ts a1 x2L2 ML2 = some o2 := h
      unfold jf_X2_lowOf_L2 at h
      refine lv_iload_n hx hb dX2_lowOf_2 rfl (lv_at hl 2 rfl) ?_
      refine lv_aload_n hx hb dX2_lowOf_3 rfl (lv_at hl 0 rfl) ?_
      refine jx_g_X2_board hx hb hts hiX2 hown hK hP hs hf24 dX2_lowOf_4 ?_
      refine jx_g_X0_lists hx hb hts hiX0 hown hK hP hf48 dX2_lowOf_7 ?_
      refine lv_icmp_ge (tgt := 49) hx hb dX2_lowOf_10 (by decide) (fun c_10 => ?_) (fun c_10 => ?_)
      · have h := jl_ift c_10 h
        have h := jl_ex_o h hz2
        refine lv_aload_n hx hb dX2_lowOf_49 rfl (lv_at hl 0 rfl) ?_
        refine jx_g_X2_board hx hb hts hiX2 hown hK hP hs hf24 dX2_lowOf_50 ?_
        refine lv_aload_n hx hb dX2_lowOf_53 rfl (lv_at hl 0 rfl) ?_
        refine jx_g_X2_ofOneThing hx hb hts hiX2 hown hK hP hs hf18 dX2_lowOf_54 ?_
        obtain ⟨r_57, M_57, hc_57, h⟩ := jl_bnd_o h
        refine jx_callVi (As := [.ref (B (ts + 3))]) (rest := []) ⟨hx, hb, hml, hown, hts⟩ (jc_X0_combined hc_57) (cwV 1 hts gX2_lowOf_X0_combined rfl rfl rfl (by decide +kernel) ⟨Nat.le_trans (by decide) hRf, Nat.le_trans (by decide) hRl⟩) (jx_rv_X0 hK hP) hK hB hN hP hS rfl dX2_lowOf_57 rfl hl.1 (Nat.le_of_ble_eq_true rfl) ⟨Nat.zero_le _, Nat.zero_le _⟩ (fun H locs hP hS => ?_)
        exact kr _ _ _ _ _ _ (Option.some.inj h) dX2_lowOf_60 hP hS
      · have h := jl_iff c_10 h
        refine lv_aload_n hx hb dX2_lowOf_13 rfl (lv_at hl 0 rfl) ?_
        refine jx_g_X2_ofOneThing hx hb hts hiX2 hown hK hP hs hf18 dX2_lowOf_14 ?_
        refine lv_iload_n hx hb dX2_lowOf_17 rfl (lv_at hl 2 rfl) ?_
        refine lv_aload_n hx hb dX2_lowOf_18 rfl (lv_at hl 0 rfl) ?_
        refine lv_iload_n hx hb dX2_lowOf_19 rfl (lv_at hl 2 rfl) ?_
        refine lv_iload_n hx hb dX2_lowOf_20 rfl (lv_at hl 1 rfl) ?_
        obtain ⟨r_21, M_21, hc_21, h⟩ := jl_bnd_o h
        refine jx_callVi (As := [.int x2L2, .int a1]) (rest := [.int x2L2, .ref (B (ts + 3))]) ⟨hx, hb, hml, hown, hts⟩ (jc_X2_isKnown hs hc_21) (cwV 2 hts gX2_lowOf_X2_isKnown rfl rfl rfl (by decide +kernel) ⟨Nat.le_trans (by decide) hRf, Nat.le_trans (by decide) hRl⟩) (jx_rv_X2 hK hP hs) hK hB hN hP hS rfl dX2_lowOf_21 rfl hl.1 (Nat.le_of_ble_eq_true rfl) ⟨Nat.zero_le _, Nat.zero_le _⟩ (fun H locs hP hS => ?_)
        refine lv_if_eq (tgt := 41) hx hb dX2_lowOf_24 (by decide) (fun c_24 => ?_) (fun c_24 => ?_)
        · have h := jl_ift c_24 h
          refine lv_iconst (v := 0) hx hb dX2_lowOf_41 (by decide) ?_
          obtain ⟨i_42, h⟩ := jl_chk_o h
          refine jx_iastore hx hb hK hB hP hS (jx_ls3 hs) i_42 dX2_lowOf_42 (fun M_42 H locs eM_42 hP hS => ?_)
          have h := jl_lt_o h eM_42
          obtain ⟨x2_43, ex2_43⟩ : ∃ y : Int32, y = x2L2 + 1 := ⟨_, rfl⟩
          have h := jl_lt_o h ex2_43
          refine lv_iinc (v := x2_43) (lv' := [(2, .int x2_43), (0, .ref (B ts)), (1, .int a1)]) hx hb dX2_lowOf_43 hl (k := 2) rfl (by rw [ex2_43]; rfl) (by decide) rfl (fun ls hl => ?_)
          refine lv_goto (tgt := 2) hx hb dX2_lowOf_46 (by decide) ?_
          exact ih2 _ _ (jl_L (Option.some.inj h) hz2) _ _ _ hP hS (lv_sub hl [1, 2, 0] rfl)
        · have h := jl_iff c_24 h
          refine lv_aload_n hx hb dX2_lowOf_27 rfl (lv_at hl 0 rfl) ?_
          refine jx_g_X2_board hx hb hts hiX2 hown hK hP hs hf24 dX2_lowOf_28 ?_
          refine jx_g_X0_marks hx hb hts hiX0 hown hK hP hf33 dX2_lowOf_31 ?_
          refine lv_iload_n hx hb dX2_lowOf_34 rfl (lv_at hl 2 rfl) ?_
          obtain ⟨i_35, h⟩ := jl_chk_o h
          refine jx_aaload6 hx hb hK hP i_35 dX2_lowOf_35 ?_
          refine lv_iload_n hx hb dX2_lowOf_36 rfl (lv_at hl 1 rfl) ?_
          obtain ⟨i_37, h⟩ := jl_chk_o h
          refine jx_iaload hx hb hK hP (jx_lr7 i_35) i_37 dX2_lowOf_37 ?_
          refine lv_goto (tgt := 42) hx hb dX2_lowOf_38 (by decide) ?_
          refine jx_iastore hx hb hK hB hP hS (jx_ls3 hs) i_35 dX2_lowOf_42 (fun M_42 H locs eM_42 hP hS => ?_)
          have h := jl_lt_o h eM_42
          obtain ⟨x2_43, ex2_43⟩ : ∃ y : Int32, y = x2L2 + 1 := ⟨_, rfl⟩
          have h := jl_lt_o h ex2_43
          refine lv_iinc (v := x2_43) (lv' := [(2, .int x2_43), (0, .ref (B ts)), (1, .int a1)]) hx hb dX2_lowOf_43 hl (k := 2) rfl (by rw [ex2_43]; rfl) (by decide) rfl (fun ls hl => ?_)
          refine lv_goto (tgt := 2) hx hb dX2_lowOf_46 (by decide) ?_
          exact ih2 _ _ (jl_L (Option.some.inj h) hz2) _ _ _ hP hS (lv_sub hl [1, 2, 0] rfl)
  exact k2 _ _ _ h _ _ _ hP hS (lv_sub hl [1, 2, 0] rfl)
theorem jc_X2_lowOf {ts : Nat} (hs : jx_isS ts) {a1 : Int32} {z : Int32 × jl_Mem} (h : jf_X2_lowOf ts a1 M = some z) : Met l yX2_lowOf wsX2_lowOf ({ frames := 2, cells := 0, slots := 0, locals := 47 }) (va_Pc [.ref (B ts), .int a1] (jx_U D cI cT B M)) (va_Qi (fun (q : Int32) (_ : Unit) => q = z.1) (fun _ t => va_P D vwCl (jx_w cI cT B z.2) t.heap) (jx_A B)) 0 0 (jx_A B) := by
  refine Met.ofW (cc := cX2_lowOf) (maxL := 3) (ret := (some .int)) (by decide) rfl ?_
  intro p e s m args below meth c s1 BB hml hv
  obtain ⟨rfl, hK, hP, hB, hN⟩ := hv
  have hl := lv_entry ([.ref (B ts), .int a1]) (n := 3) (Nat.le_of_ble_eq_true rfl)
  rw [lg_entry_eq]
  generalize (lg_sl ([.ref (B ts), .int a1]) ++ List.replicate (3 - (lg_sl ([.ref (B ts), .int a1])).length) Slot.unset).toArray = ls at hl ⊢
  exact jb_X2_lowOf BB.exec BB.bytes hml (findClass_of_methodNamed BB.named) (atoms_spec (ws := wsX2_lowOf) BB.pre) hK hB hN (Nat.le_refl _) (Nat.le_refl _) hs h (fun v M1 H locs pc ls e1 hd hP hS => W.iret BB.exec BB.bytes BB.returns (fun t ht hW => ⟨⟨_, (), rfl, by rw [← e1], by show va_P D vwCl (jx_w cI cT B z.2) t.heap; rw [ht, ← e1]; exact hP⟩, hS.F ht⟩) hS.2.2 hd BB.notSynchronized) hP va_S.rf hl
end
section
variable {p : Program} {l : Launch} {e : Env} {R : Room} {s : State} {m : MethodId} {args : Array Value} {below : List Frame} {meth : Method} {c : Code} {H : Heap} {locs : List Loc} {Q : State → Prop} {ls : Array Slot} {D : va_G} {cI cT : ClassId} {B : Nat → Nat} {M : jl_Mem} {H0 : Heap}
set_option maxHeartbeats 4000000 in
set_option maxRecDepth 100000 in
theorem jb_X2_isFound (hx : p.tables.exec = Jvm.exec) (hb : c.code = cX2_isFound) (hml : c.maxLocals = 2) (hown : s.vm.findClass RX2 = some m.cls) (hts : ∀ w ∈ wsX2_isFound, w.before args s = true) (hK : va_K D vwCl (jx_ty cI cT) s) (hB : jx_inj B) (hN : jx_N s) (hRf : 0 ≤ R.frames) (hRl : 0 ≤ R.locals) {ts : Nat} (hs : jx_isS ts) {a1 : Int32} {z : Int32 × jl_Mem} (h : jf_X2_isFound ts a1 M = some z)
    (kr : ∀ (v : Int32) (M1 : jl_Mem) (H1 : Heap) (locs1 : List Loc) (pc1 : Nat) (ls1 : Array Slot), (v, M1) = z → jl_isB v = true → decode cX2_isFound pc1 = .ok (.ireturn, 1) → va_P D vwCl (jx_w cI cT B M1) H1 → va_S (jx_A B) H0 H1 locs1 → W p l e R s m args below meth c H1 locs1 0 0 Q (F0 m pc1 ls1 [.int v]))
    (hP : va_P D vwCl (jx_w cI cT B M) H) (hS : va_S (jx_A B) H0 H locs) (hl : lv_has ls 2 [(0, .ref (B ts)), (1, .int a1)]) : W p l e R s m args below meth c H locs 0 0 Q (F0 m 0 ls []) := by
  unfold jf_X2_isFound at h
  have hiX2 : ∀ w ∈ wsX20, w ∈ wsX2_isFound := by decide +kernel
  have hf95 := hts (.fieldLink RX2 95 "JudgesLists$Sight" "foundBits" "I") (by decide +kernel)
  refine lv_aload_n hx hb dX2_isFound_0 rfl (lv_at hl 0 rfl) ?_
  refine jx_g_X2_foundBits hx hb hts hiX2 hown hK hP hs hf95 dX2_isFound_1 ?_
  refine lv_iload_n hx hb dX2_isFound_4 rfl (lv_at hl 1 rfl) ?_
  refine lv_ishr hx hb dX2_isFound_5 ?_
  refine lv_iconst (v := 1) hx hb dX2_isFound_6 (by decide) ?_
  refine lv_iand hx hb dX2_isFound_7 ?_
  refine lv_iconst (v := 1) hx hb dX2_isFound_8 (by decide) ?_
  refine lv_icmp_ne (tgt := 16) hx hb dX2_isFound_9 (by decide) (fun c_9 => ?_) (fun c_9 => ?_)
  · have h := jl_iff c_9 h
    refine lv_iconst (v := 0) hx hb dX2_isFound_16 (by decide) ?_
    exact kr _ _ _ _ _ _ (Option.some.inj h) (by decide) dX2_isFound_17 hP hS
  · have h := jl_ift c_9 h
    refine lv_iconst (v := 1) hx hb dX2_isFound_12 (by decide) ?_
    refine lv_goto (tgt := 17) hx hb dX2_isFound_13 (by decide) ?_
    exact kr _ _ _ _ _ _ (Option.some.inj h) (by decide) dX2_isFound_17 hP hS
theorem jc_X2_isFound {ts : Nat} (hs : jx_isS ts) {a1 : Int32} {z : Int32 × jl_Mem} (h : jf_X2_isFound ts a1 M = some z) : Met l yX2_isFound wsX2_isFound ({ frames := 0, cells := 0, slots := 0, locals := 0 }) (va_Pc [.ref (B ts), .int a1] (jx_U D cI cT B M)) (va_Qi (fun (q : Int32) (_ : Unit) => q = z.1) (fun _ t => va_P D vwCl (jx_w cI cT B z.2) t.heap) (jx_A B)) 0 0 (jx_A B) := by
  refine Met.ofW (cc := cX2_isFound) (maxL := 2) (ret := (some .boolean)) (by decide) rfl ?_
  intro p e s m args below meth c s1 BB hml hv
  obtain ⟨rfl, hK, hP, hB, hN⟩ := hv
  have hl := lv_entry ([.ref (B ts), .int a1]) (n := 2) (Nat.le_of_ble_eq_true rfl)
  rw [lg_entry_eq]
  generalize (lg_sl ([.ref (B ts), .int a1]) ++ List.replicate (2 - (lg_sl ([.ref (B ts), .int a1])).length) Slot.unset).toArray = ls at hl ⊢
  exact jb_X2_isFound BB.exec BB.bytes hml (findClass_of_methodNamed BB.named) (atoms_spec (ws := wsX2_isFound) BB.pre) hK hB hN (Nat.le_refl _) (Nat.le_refl _) hs h (fun v M1 H locs pc ls e1 hz hd hP hS => W.zret BB.exec BB.bytes BB.returns (jl_nar hz) (fun t ht hW => ⟨⟨_, (), rfl, by rw [← e1], by show va_P D vwCl (jx_w cI cT B z.2) t.heap; rw [ht, ← e1]; exact hP⟩, hS.F ht⟩) hS.2.2 hd BB.notSynchronized) hP va_S.rf hl
end
section
variable {p : Program} {l : Launch} {e : Env} {R : Room} {s : State} {m : MethodId} {args : Array Value} {below : List Frame} {meth : Method} {c : Code} {H : Heap} {locs : List Loc} {Q : State → Prop} {ls : Array Slot} {D : va_G} {cI cT : ClassId} {B : Nat → Nat} {M : jl_Mem} {H0 : Heap}
set_option maxHeartbeats 4000000 in
set_option maxRecDepth 100000 in
theorem jb_X2_firstLeftByLow (hx : p.tables.exec = Jvm.exec) (hb : c.code = cX2_firstLeftByLow) (hml : c.maxLocals = 3) (hown : s.vm.findClass RX2 = some m.cls) (hts : ∀ w ∈ wsX2_firstLeftByLow, w.before args s = true) (hK : va_K D vwCl (jx_ty cI cT) s) (hB : jx_inj B) (hN : jx_N s) (hRf : 1 ≤ R.frames) (hRl : 21 ≤ R.locals) {ts : Nat} (hs : jx_isS ts) {z : Int32 × jl_Mem} (h : jf_X2_firstLeftByLow ts M = some z)
    (kr : ∀ (v : Int32) (M1 : jl_Mem) (H1 : Heap) (locs1 : List Loc) (pc1 : Nat) (ls1 : Array Slot), (v, M1) = z → decode cX2_firstLeftByLow pc1 = .ok (.ireturn, 1) → va_P D vwCl (jx_w cI cT B M1) H1 → va_S (jx_A B) H0 H1 locs1 → W p l e R s m args below meth c H1 locs1 0 0 Q (F0 m pc1 ls1 [.int v]))
    (hP : va_P D vwCl (jx_w cI cT B M) H) (hS : va_S (jx_A B) H0 H locs) (hl : lv_has ls 3 [(0, .ref (B ts))]) : W p l e R s m args below meth c H locs 0 0 Q (F0 m 0 ls []) := by
  unfold jf_X2_firstLeftByLow at h
  have hiX2 : ∀ w ∈ wsX20, w ∈ wsX2_firstLeftByLow := by decide +kernel
  have hiX0 : ∀ w ∈ wsX00, w ∈ wsX2_firstLeftByLow := by decide +kernel
  have hf24 := hts (.fieldLink RX2 24 "JudgesLists$Sight" "board" "LJudgesLists$Board;") (by decide +kernel)
  have hf58 := hts (.fieldLink RX2 58 "JudgesLists$Board" "things" "I") (by decide +kernel)
  have hf21 := hts (.fieldLink RX2 21 "JudgesLists$Sight" "lows" "[I") (by decide +kernel)
  refine lv_iconst (v := (-1)) hx hb dX2_firstLeftByLow_0 (by decide) ?_
  refine lv_topi (fun x1_1 ex1_1 => ?_)
  have h := jl_lt_o h ex1_1
  refine lv_istore_n (lv' := [(1, .int x1_1), (0, .ref (B ts))]) hx hb dX2_firstLeftByLow_1 rfl hl (by decide) rfl (fun ls hl => ?_)
  refine lv_iconst (v := 0) hx hb dX2_firstLeftByLow_2 (by decide) ?_
  refine lv_topi (fun x2_3 ex2_3 => ?_)
  have h := jl_lt_o h ex2_3
  refine lv_istore_n (lv' := [(2, .int x2_3), (1, .int x1_1), (0, .ref (B ts))]) hx hb dX2_firstLeftByLow_3 rfl hl (by decide) rfl (fun ls hl => ?_)
  have k4 : ∀ (n4 : Nat) (x1L4 : Int32) (x2L4 : Int32) (ML4 : jl_Mem), jl_wh (fun q => jf_X2_firstLeftByLow_L4 ts q.1 q.2.1 q.2.2) n4 (x1L4, x2L4, ML4) = some z → ∀ (H : Heap) (locs : List Loc) (ls : Array Slot), va_P D vwCl (jx_w cI cT B ML4) H → va_S (jx_A B) H0 H locs → lv_has ls 3 [(0, .ref (B ts)), (1, .int x1L4), (2, .int x2L4)] → W p l e R s m args below meth c H locs 0 0 Q (F0 m 4 ls []) := by
    intro n4
    induction n4 with
    | zero => exact fun _ _ _ h => (jl_wh_0 h).elim
    | succ n4 ih4 =>
      intro x1L4 x2L4 ML4 h H locs ls hP hS hl
      obtain ⟨o4, h, hz4⟩ := jl_wh_s h
      replace h : jf_X2_firstLeftByLow_L4 ts x1L4 x2L4 ML4 = some o4 := h
      unfold jf_X2_firstLeftByLow_L4 at h
      refine lv_iload_n hx hb dX2_firstLeftByLow_4 rfl (lv_at hl 2 rfl) ?_
      refine lv_aload_n hx hb dX2_firstLeftByLow_5 rfl (lv_at hl 0 rfl) ?_
      refine jx_g_X2_board hx hb hts hiX2 hown hK hP hs hf24 dX2_firstLeftByLow_6 ?_
      refine jx_g_X0_things hx hb hts hiX0 hown hK hP hf58 dX2_firstLeftByLow_9 ?_
      refine lv_icmp_ge (tgt := 51) hx hb dX2_firstLeftByLow_12 (by decide) (fun c_12 => ?_) (fun c_12 => ?_)
      · have h := jl_ift c_12 h
        have h := jl_ex_o h hz4
        refine lv_iload_n hx hb dX2_firstLeftByLow_51 rfl (lv_at hl 1 rfl) ?_
        exact kr _ _ _ _ _ _ (Option.some.inj h) dX2_firstLeftByLow_52 hP hS
      · have h := jl_iff c_12 h
        refine lv_aload_n hx hb dX2_firstLeftByLow_15 rfl (lv_at hl 0 rfl) ?_
        refine lv_iload_n hx hb dX2_firstLeftByLow_16 rfl (lv_at hl 2 rfl) ?_
        obtain ⟨r_17, M_17, hc_17, h⟩ := jl_bnd_o h
        refine jx_callVi (As := [.int x2L4]) (rest := []) ⟨hx, hb, hml, hown, hts⟩ (jc_X2_isFound hs hc_17) (cwV 1 hts gX2_firstLeftByLow_X2_isFound rfl rfl rfl (by decide +kernel) ⟨Nat.le_trans (by decide) hRf, Nat.le_trans (by decide) hRl⟩) (jx_rv_X2 hK hP hs) hK hB hN hP hS rfl dX2_firstLeftByLow_17 rfl hl.1 (Nat.le_of_ble_eq_true rfl) ⟨Nat.zero_le _, Nat.zero_le _⟩ (fun H locs hP hS => ?_)
        refine lv_if_ne (tgt := 45) hx hb dX2_firstLeftByLow_20 (by decide) (fun c_20 => ?_) (fun c_20 => ?_)
        · have h := jl_iff c_20 h
          obtain ⟨x2_45, ex2_45⟩ : ∃ y : Int32, y = x2L4 + 1 := ⟨_, rfl⟩
          have h := jl_lt_o h ex2_45
          refine lv_iinc (v := x2_45) (lv' := [(2, .int x2_45), (0, .ref (B ts)), (1, .int x1L4)]) hx hb dX2_firstLeftByLow_45 hl (k := 2) rfl (by rw [ex2_45]; rfl) (by decide) rfl (fun ls hl => ?_)
          refine lv_goto (tgt := 4) hx hb dX2_firstLeftByLow_48 (by decide) ?_
          exact ih4 _ _ _ (jl_L (Option.some.inj h) hz4) _ _ _ hP hS (lv_sub hl [1, 2, 0] rfl)
        · have h := jl_ift c_20 h
          refine lv_iload_n hx hb dX2_firstLeftByLow_23 rfl (lv_at hl 1 rfl) ?_
          refine lv_iconst (v := (-1)) hx hb dX2_firstLeftByLow_24 (by decide) ?_
          refine lv_icmp_eq (tgt := 43) hx hb dX2_firstLeftByLow_25 (by decide) (fun c_25 => ?_) (fun c_25 => ?_)
          · have h := jl_ift c_25 h
            refine lv_iload_n hx hb dX2_firstLeftByLow_43 rfl (lv_at hl 2 rfl) ?_
            refine lv_topi (fun x1_44 ex1_44 => ?_)
            have h := jl_lt_o h ex1_44
            refine lv_istore_n (lv' := [(1, .int x1_44), (0, .ref (B ts)), (2, .int x2L4)]) hx hb dX2_firstLeftByLow_44 rfl hl (by decide) rfl (fun ls hl => ?_)
            obtain ⟨x2_45, ex2_45⟩ : ∃ y : Int32, y = x2L4 + 1 := ⟨_, rfl⟩
            have h := jl_lt_o h ex2_45
            refine lv_iinc (v := x2_45) (lv' := [(2, .int x2_45), (1, .int x1_44), (0, .ref (B ts))]) hx hb dX2_firstLeftByLow_45 hl (k := 2) rfl (by rw [ex2_45]; rfl) (by decide) rfl (fun ls hl => ?_)
            refine lv_goto (tgt := 4) hx hb dX2_firstLeftByLow_48 (by decide) ?_
            exact ih4 _ _ _ (jl_L (Option.some.inj h) hz4) _ _ _ hP hS (lv_sub hl [2, 1, 0] rfl)
          · have h := jl_iff c_25 h
            refine lv_aload_n hx hb dX2_firstLeftByLow_28 rfl (lv_at hl 0 rfl) ?_
            refine jx_g_X2_lows hx hb hts hiX2 hown hK hP hs hf21 dX2_firstLeftByLow_29 ?_
            refine lv_iload_n hx hb dX2_firstLeftByLow_32 rfl (lv_at hl 2 rfl) ?_
            obtain ⟨i_33, h⟩ := jl_chk_o h
            refine jx_iaload hx hb hK hP (jx_ls4 hs) i_33 dX2_firstLeftByLow_33 ?_
            refine lv_aload_n hx hb dX2_firstLeftByLow_34 rfl (lv_at hl 0 rfl) ?_
            refine jx_g_X2_lows hx hb hts hiX2 hown hK hP hs hf21 dX2_firstLeftByLow_35 ?_
            refine lv_iload_n hx hb dX2_firstLeftByLow_38 rfl (lv_at hl 1 rfl) ?_
            obtain ⟨i_39, h⟩ := jl_chk_o h
            refine jx_iaload hx hb hK hP (jx_ls4 hs) i_39 dX2_firstLeftByLow_39 ?_
            refine lv_icmp_le (tgt := 45) hx hb dX2_firstLeftByLow_40 (by decide) (fun c_40 => ?_) (fun c_40 => ?_)
            · have h := jl_ift c_40 h
              obtain ⟨x2_45, ex2_45⟩ : ∃ y : Int32, y = x2L4 + 1 := ⟨_, rfl⟩
              have h := jl_lt_o h ex2_45
              refine lv_iinc (v := x2_45) (lv' := [(2, .int x2_45), (0, .ref (B ts)), (1, .int x1L4)]) hx hb dX2_firstLeftByLow_45 hl (k := 2) rfl (by rw [ex2_45]; rfl) (by decide) rfl (fun ls hl => ?_)
              refine lv_goto (tgt := 4) hx hb dX2_firstLeftByLow_48 (by decide) ?_
              exact ih4 _ _ _ (jl_L (Option.some.inj h) hz4) _ _ _ hP hS (lv_sub hl [1, 2, 0] rfl)
            · have h := jl_iff c_40 h
              refine lv_iload_n hx hb dX2_firstLeftByLow_43 rfl (lv_at hl 2 rfl) ?_
              refine lv_topi (fun x1_44 ex1_44 => ?_)
              have h := jl_lt_o h ex1_44
              refine lv_istore_n (lv' := [(1, .int x1_44), (0, .ref (B ts)), (2, .int x2L4)]) hx hb dX2_firstLeftByLow_44 rfl hl (by decide) rfl (fun ls hl => ?_)
              obtain ⟨x2_45, ex2_45⟩ : ∃ y : Int32, y = x2L4 + 1 := ⟨_, rfl⟩
              have h := jl_lt_o h ex2_45
              refine lv_iinc (v := x2_45) (lv' := [(2, .int x2_45), (1, .int x1_44), (0, .ref (B ts))]) hx hb dX2_firstLeftByLow_45 hl (k := 2) rfl (by rw [ex2_45]; rfl) (by decide) rfl (fun ls hl => ?_)
              refine lv_goto (tgt := 4) hx hb dX2_firstLeftByLow_48 (by decide) ?_
              exact ih4 _ _ _ (jl_L (Option.some.inj h) hz4) _ _ _ hP hS (lv_sub hl [2, 1, 0] rfl)
  exact k4 _ _ _ _ h _ _ _ hP hS (lv_sub hl [2, 1, 0] rfl)
theorem jc_X2_firstLeftByLow {ts : Nat} (hs : jx_isS ts) {z : Int32 × jl_Mem} (h : jf_X2_firstLeftByLow ts M = some z) : Met l yX2_firstLeftByLow wsX2_firstLeftByLow ({ frames := 1, cells := 0, slots := 0, locals := 21 }) (va_Pc [.ref (B ts)] (jx_U D cI cT B M)) (va_Qi (fun (q : Int32) (_ : Unit) => q = z.1) (fun _ t => va_P D vwCl (jx_w cI cT B z.2) t.heap) (jx_A B)) 0 0 (jx_A B) := by
  refine Met.ofW (cc := cX2_firstLeftByLow) (maxL := 3) (ret := (some .int)) (by decide) rfl ?_
  intro p e s m args below meth c s1 BB hml hv
  obtain ⟨rfl, hK, hP, hB, hN⟩ := hv
  have hl := lv_entry ([.ref (B ts)]) (n := 3) (Nat.le_of_ble_eq_true rfl)
  rw [lg_entry_eq]
  generalize (lg_sl ([.ref (B ts)]) ++ List.replicate (3 - (lg_sl ([.ref (B ts)])).length) Slot.unset).toArray = ls at hl ⊢
  exact jb_X2_firstLeftByLow BB.exec BB.bytes hml (findClass_of_methodNamed BB.named) (atoms_spec (ws := wsX2_firstLeftByLow) BB.pre) hK hB hN (Nat.le_refl _) (Nat.le_refl _) hs h (fun v M1 H locs pc ls e1 hd hP hS => W.iret BB.exec BB.bytes BB.returns (fun t ht hW => ⟨⟨_, (), rfl, by rw [← e1], by show va_P D vwCl (jx_w cI cT B z.2) t.heap; rw [ht, ← e1]; exact hP⟩, hS.F ht⟩) hS.2.2 hd BB.notSynchronized) hP va_S.rf hl
end
section
variable {p : Program} {l : Launch} {e : Env} {R : Room} {s : State} {m : MethodId} {args : Array Value} {below : List Frame} {meth : Method} {c : Code} {H : Heap} {locs : List Loc} {Q : State → Prop} {ls : Array Slot} {D : va_G} {cI cT : ClassId} {B : Nat → Nat} {M : jl_Mem} {H0 : Heap}
set_option maxHeartbeats 4000000 in
set_option maxRecDepth 100000 in
theorem jb_X2_chooseByLow (hx : p.tables.exec = Jvm.exec) (hb : c.code = cX2_chooseByLow) (hml : c.maxLocals = 4) (hown : s.vm.findClass RX2 = some m.cls) (hts : ∀ w ∈ wsX2_chooseByLow, w.before args s = true) (hK : va_K D vwCl (jx_ty cI cT) s) (hB : jx_inj B) (hN : jx_N s) (hRf : 2 ≤ R.frames) (hRl : 43 ≤ R.locals) {ts : Nat} (hs : jx_isS ts) {a1 : Int32} {z : Int32 × jl_Mem} (h : jf_X2_chooseByLow ts a1 M = some z)
    (kr : ∀ (v : Int32) (M1 : jl_Mem) (H1 : Heap) (locs1 : List Loc) (pc1 : Nat) (ls1 : Array Slot), (v, M1) = z → decode cX2_chooseByLow pc1 = .ok (.ireturn, 1) → va_P D vwCl (jx_w cI cT B M1) H1 → va_S (jx_A B) H0 H1 locs1 → W p l e R s m args below meth c H1 locs1 0 0 Q (F0 m pc1 ls1 [.int v]))
    (hP : va_P D vwCl (jx_w cI cT B M) H) (hS : va_S (jx_A B) H0 H locs) (hl : lv_has ls 4 [(0, .ref (B ts)), (1, .int a1)]) : W p l e R s m args below meth c H locs 0 0 Q (F0 m 0 ls []) := by
  unfold jf_X2_chooseByLow at h
  have hiX2 : ∀ w ∈ wsX20, w ∈ wsX2_chooseByLow := by decide +kernel
  have hiX0 : ∀ w ∈ wsX00, w ∈ wsX2_chooseByLow := by decide +kernel
  have hf95 := hts (.fieldLink RX2 95 "JudgesLists$Sight" "foundBits" "I") (by decide +kernel)
  have hf24 := hts (.fieldLink RX2 24 "JudgesLists$Sight" "board" "LJudgesLists$Board;") (by decide +kernel)
  have hf58 := hts (.fieldLink RX2 58 "JudgesLists$Board" "things" "I") (by decide +kernel)
  refine lv_aload_n hx hb dX2_chooseByLow_0 rfl (lv_at hl 0 rfl) ?_
  refine lv_iconst (v := 0) hx hb dX2_chooseByLow_1 (by decide) ?_
  refine jx_p_X2_foundBits hx hb hts hiX2 hown hK hB hP hS hs hf95 dX2_chooseByLow_2 (fun M_2 H locs eM_2 hP hS => ?_)
  have h := jl_lt_o h eM_2
  refine lv_iconst (v := (-1)) hx hb dX2_chooseByLow_5 (by decide) ?_
  refine lv_topi (fun x2_6 ex2_6 => ?_)
  have h := jl_lt_o h ex2_6
  refine lv_istore_n (lv' := [(2, .int x2_6), (0, .ref (B ts)), (1, .int a1)]) hx hb dX2_chooseByLow_6 rfl hl (by decide) rfl (fun ls hl => ?_)
  refine lv_iconst (v := 0) hx hb dX2_chooseByLow_7 (by decide) ?_
  refine lv_topi (fun x3_8 ex3_8 => ?_)
  have h := jl_lt_o h ex3_8
  refine lv_istore_n (lv' := [(3, .int x3_8), (2, .int x2_6), (0, .ref (B ts)), (1, .int a1)]) hx hb dX2_chooseByLow_8 rfl hl (by decide) rfl (fun ls hl => ?_)
  have k9 : ∀ (n9 : Nat) (x2L9 : Int32) (x3L9 : Int32) (ML9 : jl_Mem), jl_wh (fun q => jf_X2_chooseByLow_L9 ts a1 q.1 q.2.1 q.2.2) n9 (x2L9, x3L9, ML9) = some z → ∀ (H : Heap) (locs : List Loc) (ls : Array Slot), va_P D vwCl (jx_w cI cT B ML9) H → va_S (jx_A B) H0 H locs → lv_has ls 4 [(0, .ref (B ts)), (1, .int a1), (2, .int x2L9), (3, .int x3L9)] → W p l e R s m args below meth c H locs 0 0 Q (F0 m 9 ls []) := by
    intro n9
    induction n9 with
    | zero => exact fun _ _ _ h => (jl_wh_0 h).elim
    | succ n9 ih9 =>
      intro x2L9 x3L9 ML9 h H locs ls hP hS hl
      obtain ⟨o9, h, hz9⟩ := jl_wh_s h
      replace h : jf_X2_chooseByLow_L9 ts a1 x2L9 x3L9 ML9 = some o9 := h
      unfold jf_X2_chooseByLow_L9 at h
      refine lv_iload_n hx hb dX2_chooseByLow_9 rfl (lv_at hl 3 rfl) ?_
      refine lv_iload_n hx hb dX2_chooseByLow_10 rfl (lv_at hl 1 rfl) ?_
      refine lv_aload_n hx hb dX2_chooseByLow_11 rfl (lv_at hl 0 rfl) ?_
      refine jx_g_X2_board hx hb hts hiX2 hown hK hP hs hf24 dX2_chooseByLow_12 ?_
      refine jx_g_X0_things hx hb hts hiX0 hown hK hP hf58 dX2_chooseByLow_15 ?_
      refine va_mmin hx hb (hml.trans hl.1.symm) hown (hts (.methodLink RX2 98 Lib.Math.min.name) (by decide +kernel)) (hts (.static Lib.Math.min.name) (by decide +kernel)) (hts (.initialized "java/lang/Math") (by decide +kernel)) (hts (.code Lib.Math.min.name Lib.Math.min.code 2 (some .int)) (by decide +kernel)) (Nat.le_trans (by decide) hRf) (Nat.le_trans (Nat.le_of_ble_eq_true rfl) hRl) (Nat.zero_le _) (Nat.zero_le _) dX2_chooseByLow_18 ?_
      refine lv_icmp_ge (tgt := 47) hx hb dX2_chooseByLow_21 (by decide) (fun c_21 => ?_) (fun c_21 => ?_)
      · have h := jl_ift c_21 h
        have h := jl_ex_o h hz9
        refine lv_iload_n hx hb dX2_chooseByLow_47 rfl (lv_at hl 2 rfl) ?_
        exact kr _ _ _ _ _ _ (Option.some.inj h) dX2_chooseByLow_48 hP hS
      · have h := jl_iff c_21 h
        refine lv_aload_n hx hb dX2_chooseByLow_24 rfl (lv_at hl 0 rfl) ?_
        obtain ⟨r_25, M_25, hc_25, h⟩ := jl_bnd_o h
        refine jx_callVi (As := []) (rest := []) ⟨hx, hb, hml, hown, hts⟩ (jc_X2_firstLeftByLow hs hc_25) (cwV 0 hts gX2_chooseByLow_X2_firstLeftByLow rfl rfl rfl (by decide +kernel) ⟨Nat.le_trans (by decide) hRf, Nat.le_trans (by decide) hRl⟩) (jx_rv_X2 hK hP hs) hK hB hN hP hS rfl dX2_chooseByLow_25 rfl hl.1 (Nat.le_of_ble_eq_true rfl) ⟨Nat.zero_le _, Nat.zero_le _⟩ (fun H locs hP hS => ?_)
        refine lv_topi (fun x2_28 ex2_28 => ?_)
        have h := jl_lt_o h ex2_28
        refine lv_istore_n (lv' := [(2, .int x2_28), (0, .ref (B ts)), (1, .int a1), (3, .int x3L9)]) hx hb dX2_chooseByLow_28 rfl hl (by decide) rfl (fun ls hl => ?_)
        refine lv_aload_n hx hb dX2_chooseByLow_29 rfl (lv_at hl 1 rfl) ?_
        refine lv_dup hx hb dX2_chooseByLow_30 rfl ?_
        refine jx_g_X2_foundBits hx hb hts hiX2 hown hK hP hs hf95 dX2_chooseByLow_31 ?_
        refine lv_iconst (v := 1) hx hb dX2_chooseByLow_34 (by decide) ?_
        refine lv_iload_n hx hb dX2_chooseByLow_35 rfl (lv_at hl 0 rfl) ?_
        refine lv_ishl hx hb dX2_chooseByLow_36 ?_
        refine lv_ior hx hb dX2_chooseByLow_37 ?_
        refine jx_p_X2_foundBits hx hb hts hiX2 hown hK hB hP hS hs hf95 dX2_chooseByLow_38 (fun M_38 H locs eM_38 hP hS => ?_)
        have h := jl_lt_o h eM_38
        obtain ⟨x3_41, ex3_41⟩ : ∃ y : Int32, y = x3L9 + 1 := ⟨_, rfl⟩
        have h := jl_lt_o h ex3_41
        refine lv_iinc (v := x3_41) (lv' := [(3, .int x3_41), (2, .int x2_28), (0, .ref (B ts)), (1, .int a1)]) hx hb dX2_chooseByLow_41 hl (k := 3) rfl (by rw [ex3_41]; rfl) (by decide) rfl (fun ls hl => ?_)
        refine lv_goto (tgt := 9) hx hb dX2_chooseByLow_44 (by decide) ?_
        exact ih9 _ _ _ (jl_L (Option.some.inj h) hz9) _ _ _ hP hS (lv_sub hl [2, 3, 1, 0] rfl)
  exact k9 _ _ _ _ h _ _ _ hP hS (lv_sub hl [2, 3, 1, 0] rfl)
theorem jc_X2_chooseByLow {ts : Nat} (hs : jx_isS ts) {a1 : Int32} {z : Int32 × jl_Mem} (h : jf_X2_chooseByLow ts a1 M = some z) : Met l yX2_chooseByLow wsX2_chooseByLow ({ frames := 2, cells := 0, slots := 0, locals := 43 }) (va_Pc [.ref (B ts), .int a1] (jx_U D cI cT B M)) (va_Qi (fun (q : Int32) (_ : Unit) => q = z.1) (fun _ t => va_P D vwCl (jx_w cI cT B z.2) t.heap) (jx_A B)) 0 0 (jx_A B) := by
  refine Met.ofW (cc := cX2_chooseByLow) (maxL := 4) (ret := (some .int)) (by decide) rfl ?_
  intro p e s m args below meth c s1 BB hml hv
  obtain ⟨rfl, hK, hP, hB, hN⟩ := hv
  have hl := lv_entry ([.ref (B ts), .int a1]) (n := 4) (Nat.le_of_ble_eq_true rfl)
  rw [lg_entry_eq]
  generalize (lg_sl ([.ref (B ts), .int a1]) ++ List.replicate (4 - (lg_sl ([.ref (B ts), .int a1])).length) Slot.unset).toArray = ls at hl ⊢
  exact jb_X2_chooseByLow BB.exec BB.bytes hml (findClass_of_methodNamed BB.named) (atoms_spec (ws := wsX2_chooseByLow) BB.pre) hK hB hN (Nat.le_refl _) (Nat.le_refl _) hs h (fun v M1 H locs pc ls e1 hd hP hS => W.iret BB.exec BB.bytes BB.returns (fun t ht hW => ⟨⟨_, (), rfl, by rw [← e1], by show va_P D vwCl (jx_w cI cT B z.2) t.heap; rw [ht, ← e1]; exact hP⟩, hS.F ht⟩) hS.2.2 hd BB.notSynchronized) hP va_S.rf hl
end
section
variable {p : Program} {l : Launch} {e : Env} {R : Room} {s : State} {m : MethodId} {args : Array Value} {below : List Frame} {meth : Method} {c : Code} {H : Heap} {locs : List Loc} {Q : State → Prop} {ls : Array Slot} {D : va_G} {cI cT : ClassId} {B : Nat → Nat} {M : jl_Mem} {H0 : Heap}
set_option maxHeartbeats 4000000 in
set_option maxRecDepth 100000 in
theorem jb_X2_topOf (hx : p.tables.exec = Jvm.exec) (hb : c.code = cX2_topOf) (hml : c.maxLocals = 3) (hown : s.vm.findClass RX2 = some m.cls) (hts : ∀ w ∈ wsX2_topOf, w.before args s = true) (hK : va_K D vwCl (jx_ty cI cT) s) (hB : jx_inj B) (hN : jx_N s) (hRf : 1 ≤ R.frames) (hRl : 21 ≤ R.locals) {ts : Nat} (hs : jx_isS ts) {a1 : Int32} {z : Int32 × jl_Mem} (h : jf_X2_topOf ts a1 M = some z)
    (kr : ∀ (v : Int32) (M1 : jl_Mem) (H1 : Heap) (locs1 : List Loc) (pc1 : Nat) (ls1 : Array Slot), (v, M1) = z → decode cX2_topOf pc1 = .ok (.ireturn, 1) → va_P D vwCl (jx_w cI cT B M1) H1 → va_S (jx_A B) H0 H1 locs1 → W p l e R s m args below meth c H1 locs1 0 0 Q (F0 m pc1 ls1 [.int v]))
    (hP : va_P D vwCl (jx_w cI cT B M) H) (hS : va_S (jx_A B) H0 H locs) (hl : lv_has ls 3 [(0, .ref (B ts)), (1, .int a1)]) : W p l e R s m args below meth c H locs 0 0 Q (F0 m 0 ls []) := by
  unfold jf_X2_topOf at h
  have hiX2 : ∀ w ∈ wsX20, w ∈ wsX2_topOf := by decide +kernel
  have hiX0 : ∀ w ∈ wsX00, w ∈ wsX2_topOf := by decide +kernel
  have hf9 := hts (.fieldLink RX2 9 "JudgesLists$Sight" "depths" "[I") (by decide +kernel)
  have hf24 := hts (.fieldLink RX2 24 "JudgesLists$Sight" "board" "LJudgesLists$Board;") (by decide +kernel)
  have hf33 := hts (.fieldLink RX2 33 "JudgesLists$Board" "marks" "[[I") (by decide +kernel)
  have hf68 := hts (.fieldLink RX2 68 "JudgesLists$Board" "rows" "[[I") (by decide +kernel)
  refine lv_aload_n hx hb dX2_topOf_0 rfl (lv_at hl 0 rfl) ?_
  refine lv_iload_n hx hb dX2_topOf_1 rfl (lv_at hl 1 rfl) ?_
  obtain ⟨r_2, M_2, hc_2, h⟩ := jl_bnd_o h
  refine jx_callVi (As := [.int a1]) (rest := []) ⟨hx, hb, hml, hown, hts⟩ (jc_X2_isWhole hs hc_2) (cwV 1 hts gX2_topOf_X2_isWhole rfl rfl rfl (by decide +kernel) ⟨Nat.le_trans (by decide) hRf, Nat.le_trans (by decide) hRl⟩) (jx_rv_X2 hK hP hs) hK hB hN hP hS rfl dX2_topOf_2 rfl hl.1 (Nat.le_of_ble_eq_true rfl) ⟨Nat.zero_le _, Nat.zero_le _⟩ (fun H locs hP hS => ?_)
  refine lv_if_eq (tgt := 10) hx hb dX2_topOf_5 (by decide) (fun c_5 => ?_) (fun c_5 => ?_)
  · have h := jl_ift c_5 h
    refine lv_aload_n hx hb dX2_topOf_10 rfl (lv_at hl 0 rfl) ?_
    refine jx_g_X2_depths hx hb hts hiX2 hown hK hP hs hf9 dX2_topOf_11 ?_
    refine lv_iload_n hx hb dX2_topOf_14 rfl (lv_at hl 1 rfl) ?_
    obtain ⟨i_15, h⟩ := jl_chk_o h
    refine jx_iaload hx hb hK hP (jx_ls1 hs) i_15 dX2_topOf_15 ?_
    refine lv_topi (fun x2_16 ex2_16 => ?_)
    have h := jl_lt_o h ex2_16
    refine lv_istore_n (lv' := [(2, .int x2_16), (0, .ref (B ts)), (1, .int a1)]) hx hb dX2_topOf_16 rfl hl (by decide) rfl (fun ls hl => ?_)
    refine lv_iload_n hx hb dX2_topOf_17 rfl (lv_at hl 0 rfl) ?_
    refine lv_if_ne (tgt := 27) hx hb dX2_topOf_18 (by decide) (fun c_18 => ?_) (fun c_18 => ?_)
    · have h := jl_iff c_18 h
      refine lv_aload_n hx hb dX2_topOf_27 rfl (lv_at hl 1 rfl) ?_
      refine jx_g_X2_board hx hb hts hiX2 hown hK hP hs hf24 dX2_topOf_28 ?_
      refine jx_g_X0_marks hx hb hts hiX0 hown hK hP hf33 dX2_topOf_31 ?_
      refine lv_iload_n hx hb dX2_topOf_34 rfl (lv_at hl 2 rfl) ?_
      refine jx_aaload6 hx hb hK hP i_15 dX2_topOf_35 ?_
      refine lv_aload_n hx hb dX2_topOf_36 rfl (lv_at hl 1 rfl) ?_
      refine jx_g_X2_board hx hb hts hiX2 hown hK hP hs hf24 dX2_topOf_37 ?_
      refine jx_g_X0_rows hx hb hts hiX0 hown hK hP hf68 dX2_topOf_40 ?_
      refine lv_iload_n hx hb dX2_topOf_43 rfl (lv_at hl 2 rfl) ?_
      refine jx_aaload11 hx hb hK hP i_15 dX2_topOf_44 ?_
      refine lv_iload_n hx hb dX2_topOf_45 rfl (lv_at hl 0 rfl) ?_
      refine lv_iconst (v := 1) hx hb dX2_topOf_46 (by decide) ?_
      refine lv_isub hx hb dX2_topOf_47 ?_
      obtain ⟨i_48, h⟩ := jl_chk_o h
      refine jx_iaload hx hb hK hP (jx_lr12 i_15) i_48 dX2_topOf_48 ?_
      obtain ⟨i_49, h⟩ := jl_chk_o h
      refine jx_iaload hx hb hK hP (jx_lr7 i_15) i_49 dX2_topOf_49 ?_
      exact kr _ _ _ _ _ _ (Option.some.inj h) dX2_topOf_50 hP hS
    · have h := jl_ift c_18 h
      refine lv_sipush (v := 1000) hx hb dX2_topOf_21 (by decide) ?_
      refine lv_goto (tgt := 50) hx hb dX2_topOf_24 (by decide) ?_
      exact kr _ _ _ _ _ _ (Option.some.inj h) dX2_topOf_50 hP hS
  · have h := jl_iff c_5 h
    refine lv_iconst (v := 0) hx hb dX2_topOf_8 (by decide) ?_
    exact kr _ _ _ _ _ _ (Option.some.inj h) dX2_topOf_9 hP hS
theorem jc_X2_topOf {ts : Nat} (hs : jx_isS ts) {a1 : Int32} {z : Int32 × jl_Mem} (h : jf_X2_topOf ts a1 M = some z) : Met l yX2_topOf wsX2_topOf ({ frames := 1, cells := 0, slots := 0, locals := 21 }) (va_Pc [.ref (B ts), .int a1] (jx_U D cI cT B M)) (va_Qi (fun (q : Int32) (_ : Unit) => q = z.1) (fun _ t => va_P D vwCl (jx_w cI cT B z.2) t.heap) (jx_A B)) 0 0 (jx_A B) := by
  refine Met.ofW (cc := cX2_topOf) (maxL := 3) (ret := (some .int)) (by decide) rfl ?_
  intro p e s m args below meth c s1 BB hml hv
  obtain ⟨rfl, hK, hP, hB, hN⟩ := hv
  have hl := lv_entry ([.ref (B ts), .int a1]) (n := 3) (Nat.le_of_ble_eq_true rfl)
  rw [lg_entry_eq]
  generalize (lg_sl ([.ref (B ts), .int a1]) ++ List.replicate (3 - (lg_sl ([.ref (B ts), .int a1])).length) Slot.unset).toArray = ls at hl ⊢
  exact jb_X2_topOf BB.exec BB.bytes hml (findClass_of_methodNamed BB.named) (atoms_spec (ws := wsX2_topOf) BB.pre) hK hB hN (Nat.le_refl _) (Nat.le_refl _) hs h (fun v M1 H locs pc ls e1 hd hP hS => W.iret BB.exec BB.bytes BB.returns (fun t ht hW => ⟨⟨_, (), rfl, by rw [← e1], by show va_P D vwCl (jx_w cI cT B z.2) t.heap; rw [ht, ← e1]; exact hP⟩, hS.F ht⟩) hS.2.2 hd BB.notSynchronized) hP va_S.rf hl
end
section
variable {p : Program} {l : Launch} {e : Env} {R : Room} {s : State} {m : MethodId} {args : Array Value} {below : List Frame} {meth : Method} {c : Code} {H : Heap} {locs : List Loc} {Q : State → Prop} {ls : Array Slot} {D : va_G} {cI cT : ClassId} {B : Nat → Nat} {M : jl_Mem} {H0 : Heap}
set_option maxHeartbeats 4000000 in
set_option maxRecDepth 100000 in
theorem jb_X2_highOf (hx : p.tables.exec = Jvm.exec) (hb : c.code = cX2_highOf) (hml : c.maxLocals = 3) (hown : s.vm.findClass RX2 = some m.cls) (hts : ∀ w ∈ wsX2_highOf, w.before args s = true) (hK : va_K D vwCl (jx_ty cI cT) s) (hB : jx_inj B) (hN : jx_N s) (hRf : 2 ≤ R.frames) (hRl : 47 ≤ R.locals) {ts : Nat} (hs : jx_isS ts) {a1 : Int32} {z : Int32 × jl_Mem} (h : jf_X2_highOf ts a1 M = some z)
    (kr : ∀ (v : Int32) (M1 : jl_Mem) (H1 : Heap) (locs1 : List Loc) (pc1 : Nat) (ls1 : Array Slot), (v, M1) = z → decode cX2_highOf pc1 = .ok (.ireturn, 1) → va_P D vwCl (jx_w cI cT B M1) H1 → va_S (jx_A B) H0 H1 locs1 → W p l e R s m args below meth c H1 locs1 0 0 Q (F0 m pc1 ls1 [.int v]))
    (hP : va_P D vwCl (jx_w cI cT B M) H) (hS : va_S (jx_A B) H0 H locs) (hl : lv_has ls 3 [(0, .ref (B ts)), (1, .int a1)]) : W p l e R s m args below meth c H locs 0 0 Q (F0 m 0 ls []) := by
  unfold jf_X2_highOf at h
  have hiX2 : ∀ w ∈ wsX20, w ∈ wsX2_highOf := by decide +kernel
  have hiX0 : ∀ w ∈ wsX00, w ∈ wsX2_highOf := by decide +kernel
  have hf24 := hts (.fieldLink RX2 24 "JudgesLists$Sight" "board" "LJudgesLists$Board;") (by decide +kernel)
  have hf48 := hts (.fieldLink RX2 48 "JudgesLists$Board" "lists" "I") (by decide +kernel)
  have hf18 := hts (.fieldLink RX2 18 "JudgesLists$Sight" "ofOneThing" "[I") (by decide +kernel)
  have hf33 := hts (.fieldLink RX2 33 "JudgesLists$Board" "marks" "[[I") (by decide +kernel)
  refine lv_iconst (v := 0) hx hb dX2_highOf_0 (by decide) ?_
  refine lv_topi (fun x2_1 ex2_1 => ?_)
  have h := jl_lt_o h ex2_1
  refine lv_istore_n (lv' := [(2, .int x2_1), (0, .ref (B ts)), (1, .int a1)]) hx hb dX2_highOf_1 rfl hl (by decide) rfl (fun ls hl => ?_)
  have k2 : ∀ (n2 : Nat) (x2L2 : Int32) (ML2 : jl_Mem), jl_wh (fun q => jf_X2_highOf_L2 ts a1 q.1 q.2) n2 (x2L2, ML2) = some z → ∀ (H : Heap) (locs : List Loc) (ls : Array Slot), va_P D vwCl (jx_w cI cT B ML2) H → va_S (jx_A B) H0 H locs → lv_has ls 3 [(0, .ref (B ts)), (1, .int a1), (2, .int x2L2)] → W p l e R s m args below meth c H locs 0 0 Q (F0 m 2 ls []) := by
    intro n2
    induction n2 with
    | zero => exact fun _ _ h => (jl_wh_0 h).elim
    | succ n2 ih2 =>
      intro x2L2 ML2 h H locs ls hP hS hl
      obtain ⟨o2, h, hz2⟩ := jl_wh_s h
      replace h : jf_X2_highOf_L2 ts a1 x2L2 ML2 = some o2 := h
      unfold jf_X2_highOf_L2 at h
      refine lv_iload_n hx hb dX2_highOf_2 rfl (lv_at hl 2 rfl) ?_
      refine lv_aload_n hx hb dX2_highOf_3 rfl (lv_at hl 0 rfl) ?_
      refine jx_g_X2_board hx hb hts hiX2 hown hK hP hs hf24 dX2_highOf_4 ?_
      refine jx_g_X0_lists hx hb hts hiX0 hown hK hP hf48 dX2_highOf_7 ?_
      refine lv_icmp_ge (tgt := 53) hx hb dX2_highOf_10 (by decide) (fun c_10 => ?_) (fun c_10 => ?_)
      · have h := jl_ift c_10 h
        have h := jl_ex_o h hz2
        refine lv_aload_n hx hb dX2_highOf_53 rfl (lv_at hl 0 rfl) ?_
        refine jx_g_X2_board hx hb hts hiX2 hown hK hP hs hf24 dX2_highOf_54 ?_
        refine lv_aload_n hx hb dX2_highOf_57 rfl (lv_at hl 0 rfl) ?_
        refine jx_g_X2_ofOneThing hx hb hts hiX2 hown hK hP hs hf18 dX2_highOf_58 ?_
        obtain ⟨r_61, M_61, hc_61, h⟩ := jl_bnd_o h
        refine jx_callVi (As := [.ref (B (ts + 3))]) (rest := []) ⟨hx, hb, hml, hown, hts⟩ (jc_X0_combined hc_61) (cwV 1 hts gX2_highOf_X0_combined rfl rfl rfl (by decide +kernel) ⟨Nat.le_trans (by decide) hRf, Nat.le_trans (by decide) hRl⟩) (jx_rv_X0 hK hP) hK hB hN hP hS rfl dX2_highOf_61 rfl hl.1 (Nat.le_of_ble_eq_true rfl) ⟨Nat.zero_le _, Nat.zero_le _⟩ (fun H locs hP hS => ?_)
        exact kr _ _ _ _ _ _ (Option.some.inj h) dX2_highOf_64 hP hS
      · have h := jl_iff c_10 h
        refine lv_aload_n hx hb dX2_highOf_13 rfl (lv_at hl 0 rfl) ?_
        refine jx_g_X2_ofOneThing hx hb hts hiX2 hown hK hP hs hf18 dX2_highOf_14 ?_
        refine lv_iload_n hx hb dX2_highOf_17 rfl (lv_at hl 2 rfl) ?_
        refine lv_aload_n hx hb dX2_highOf_18 rfl (lv_at hl 0 rfl) ?_
        refine lv_iload_n hx hb dX2_highOf_19 rfl (lv_at hl 2 rfl) ?_
        refine lv_iload_n hx hb dX2_highOf_20 rfl (lv_at hl 1 rfl) ?_
        obtain ⟨r_21, M_21, hc_21, h⟩ := jl_bnd_o h
        refine jx_callVi (As := [.int x2L2, .int a1]) (rest := [.int x2L2, .ref (B (ts + 3))]) ⟨hx, hb, hml, hown, hts⟩ (jc_X2_isKnown hs hc_21) (cwV 2 hts gX2_highOf_X2_isKnown rfl rfl rfl (by decide +kernel) ⟨Nat.le_trans (by decide) hRf, Nat.le_trans (by decide) hRl⟩) (jx_rv_X2 hK hP hs) hK hB hN hP hS rfl dX2_highOf_21 rfl hl.1 (Nat.le_of_ble_eq_true rfl) ⟨Nat.zero_le _, Nat.zero_le _⟩ (fun H locs hP hS => ?_)
        refine lv_if_eq (tgt := 41) hx hb dX2_highOf_24 (by decide) (fun c_24 => ?_) (fun c_24 => ?_)
        · have h := jl_ift c_24 h
          refine lv_aload_n hx hb dX2_highOf_41 rfl (lv_at hl 0 rfl) ?_
          refine lv_iload_n hx hb dX2_highOf_42 rfl (lv_at hl 2 rfl) ?_
          obtain ⟨r_43, M_43, hc_43, h⟩ := jl_bnd_o h
          refine jx_callVi (As := [.int x2L2]) (rest := [.int x2L2, .ref (B (ts + 3))]) ⟨hx, hb, hml, hown, hts⟩ (jc_X2_topOf hs hc_43) (cwV 1 hts gX2_highOf_X2_topOf rfl rfl rfl (by decide +kernel) ⟨Nat.le_trans (by decide) hRf, Nat.le_trans (by decide) hRl⟩) (jx_rv_X2 hK hP hs) hK hB hN hP hS rfl dX2_highOf_43 rfl hl.1 (Nat.le_of_ble_eq_true rfl) ⟨Nat.zero_le _, Nat.zero_le _⟩ (fun H locs hP hS => ?_)
          obtain ⟨i_46, h⟩ := jl_chk_o h
          refine jx_iastore hx hb hK hB hP hS (jx_ls3 hs) i_46 dX2_highOf_46 (fun M_46 H locs eM_46 hP hS => ?_)
          have h := jl_lt_o h eM_46
          obtain ⟨x2_47, ex2_47⟩ : ∃ y : Int32, y = x2L2 + 1 := ⟨_, rfl⟩
          have h := jl_lt_o h ex2_47
          refine lv_iinc (v := x2_47) (lv' := [(2, .int x2_47), (0, .ref (B ts)), (1, .int a1)]) hx hb dX2_highOf_47 hl (k := 2) rfl (by rw [ex2_47]; rfl) (by decide) rfl (fun ls hl => ?_)
          refine lv_goto (tgt := 2) hx hb dX2_highOf_50 (by decide) ?_
          exact ih2 _ _ (jl_L (Option.some.inj h) hz2) _ _ _ hP hS (lv_sub hl [1, 2, 0] rfl)
        · have h := jl_iff c_24 h
          refine lv_aload_n hx hb dX2_highOf_27 rfl (lv_at hl 0 rfl) ?_
          refine jx_g_X2_board hx hb hts hiX2 hown hK hP hs hf24 dX2_highOf_28 ?_
          refine jx_g_X0_marks hx hb hts hiX0 hown hK hP hf33 dX2_highOf_31 ?_
          refine lv_iload_n hx hb dX2_highOf_34 rfl (lv_at hl 2 rfl) ?_
          obtain ⟨i_35, h⟩ := jl_chk_o h
          refine jx_aaload6 hx hb hK hP i_35 dX2_highOf_35 ?_
          refine lv_iload_n hx hb dX2_highOf_36 rfl (lv_at hl 1 rfl) ?_
          obtain ⟨i_37, h⟩ := jl_chk_o h
          refine jx_iaload hx hb hK hP (jx_lr7 i_35) i_37 dX2_highOf_37 ?_
          refine lv_goto (tgt := 46) hx hb dX2_highOf_38 (by decide) ?_
          refine jx_iastore hx hb hK hB hP hS (jx_ls3 hs) i_35 dX2_highOf_46 (fun M_46 H locs eM_46 hP hS => ?_)
          have h := jl_lt_o h eM_46
          obtain ⟨x2_47, ex2_47⟩ : ∃ y : Int32, y = x2L2 + 1 := ⟨_, rfl⟩
          have h := jl_lt_o h ex2_47
          refine lv_iinc (v := x2_47) (lv' := [(2, .int x2_47), (0, .ref (B ts)), (1, .int a1)]) hx hb dX2_highOf_47 hl (k := 2) rfl (by rw [ex2_47]; rfl) (by decide) rfl (fun ls hl => ?_)
          refine lv_goto (tgt := 2) hx hb dX2_highOf_50 (by decide) ?_
          exact ih2 _ _ (jl_L (Option.some.inj h) hz2) _ _ _ hP hS (lv_sub hl [1, 2, 0] rfl)
  exact k2 _ _ _ h _ _ _ hP hS (lv_sub hl [1, 2, 0] rfl)
theorem jc_X2_highOf {ts : Nat} (hs : jx_isS ts) {a1 : Int32} {z : Int32 × jl_Mem} (h : jf_X2_highOf ts a1 M = some z) : Met l yX2_highOf wsX2_highOf ({ frames := 2, cells := 0, slots := 0, locals := 47 }) (va_Pc [.ref (B ts), .int a1] (jx_U D cI cT B M)) (va_Qi (fun (q : Int32) (_ : Unit) => q = z.1) (fun _ t => va_P D vwCl (jx_w cI cT B z.2) t.heap) (jx_A B)) 0 0 (jx_A B) := by
  refine Met.ofW (cc := cX2_highOf) (maxL := 3) (ret := (some .int)) (by decide) rfl ?_
  intro p e s m args below meth c s1 BB hml hv
  obtain ⟨rfl, hK, hP, hB, hN⟩ := hv
  have hl := lv_entry ([.ref (B ts), .int a1]) (n := 3) (Nat.le_of_ble_eq_true rfl)
  rw [lg_entry_eq]
  generalize (lg_sl ([.ref (B ts), .int a1]) ++ List.replicate (3 - (lg_sl ([.ref (B ts), .int a1])).length) Slot.unset).toArray = ls at hl ⊢
  exact jb_X2_highOf BB.exec BB.bytes hml (findClass_of_methodNamed BB.named) (atoms_spec (ws := wsX2_highOf) BB.pre) hK hB hN (Nat.le_refl _) (Nat.le_refl _) hs h (fun v M1 H locs pc ls e1 hd hP hS => W.iret BB.exec BB.bytes BB.returns (fun t ht hW => ⟨⟨_, (), rfl, by rw [← e1], by show va_P D vwCl (jx_w cI cT B z.2) t.heap; rw [ht, ← e1]; exact hP⟩, hS.F ht⟩) hS.2.2 hd BB.notSynchronized) hP va_S.rf hl
end
section
variable {p : Program} {l : Launch} {e : Env} {R : Room} {s : State} {m : MethodId} {args : Array Value} {below : List Frame} {meth : Method} {c : Code} {H : Heap} {locs : List Loc} {Q : State → Prop} {ls : Array Slot} {D : va_G} {cI cT : ClassId} {B : Nat → Nat} {M : jl_Mem} {H0 : Heap}
set_option maxHeartbeats 4000000 in
set_option maxRecDepth 100000 in
theorem jb_X2_isSure (hx : p.tables.exec = Jvm.exec) (hb : c.code = cX2_isSure) (hml : c.maxLocals = 4) (hown : s.vm.findClass RX2 = some m.cls) (hts : ∀ w ∈ wsX2_isSure, w.before args s = true) (hK : va_K D vwCl (jx_ty cI cT) s) (hB : jx_inj B) (hN : jx_N s) (hRf : 3 ≤ R.frames) (hRl : 69 ≤ R.locals) {ts : Nat} (hs : jx_isS ts) {a1 : Int32} {z : Int32 × jl_Mem} (h : jf_X2_isSure ts a1 M = some z)
    (kr : ∀ (v : Int32) (M1 : jl_Mem) (H1 : Heap) (locs1 : List Loc) (pc1 : Nat) (ls1 : Array Slot), (v, M1) = z → jl_isB v = true → decode cX2_isSure pc1 = .ok (.ireturn, 1) → va_P D vwCl (jx_w cI cT B M1) H1 → va_S (jx_A B) H0 H1 locs1 → W p l e R s m args below meth c H1 locs1 0 0 Q (F0 m pc1 ls1 [.int v]))
    (hP : va_P D vwCl (jx_w cI cT B M) H) (hS : va_S (jx_A B) H0 H locs) (hl : lv_has ls 4 [(0, .ref (B ts)), (1, .int a1)]) : W p l e R s m args below meth c H locs 0 0 Q (F0 m 0 ls []) := by
  unfold jf_X2_isSure at h
  have hiX2 : ∀ w ∈ wsX20, w ∈ wsX2_isSure := by decide +kernel
  have hiX0 : ∀ w ∈ wsX00, w ∈ wsX2_isSure := by decide +kernel
  have hf24 := hts (.fieldLink RX2 24 "JudgesLists$Sight" "board" "LJudgesLists$Board;") (by decide +kernel)
  have hf58 := hts (.fieldLink RX2 58 "JudgesLists$Board" "things" "I") (by decide +kernel)
  have hf21 := hts (.fieldLink RX2 21 "JudgesLists$Sight" "lows" "[I") (by decide +kernel)
  refine lv_iconst (v := 0) hx hb dX2_isSure_0 (by decide) ?_
  refine lv_topi (fun x2_1 ex2_1 => ?_)
  have h := jl_lt_o h ex2_1
  refine lv_istore_n (lv' := [(2, .int x2_1), (0, .ref (B ts)), (1, .int a1)]) hx hb dX2_isSure_1 rfl hl (by decide) rfl (fun ls hl => ?_)
  have k2 : ∀ (n2 : Nat) (x2L2 : Int32) (ML2 : jl_Mem), jl_wh (fun q => jf_X2_isSure_L2 ts a1 q.1 q.2) n2 (x2L2, ML2) = some z → ∀ (H : Heap) (locs : List Loc) (ls : Array Slot), va_P D vwCl (jx_w cI cT B ML2) H → va_S (jx_A B) H0 H locs → lv_has ls 4 [(0, .ref (B ts)), (1, .int a1), (2, .int x2L2)] → W p l e R s m args below meth c H locs 0 0 Q (F0 m 2 ls []) := by
    intro n2
    induction n2 with
    | zero => exact fun _ _ h => (jl_wh_0 h).elim
    | succ n2 ih2 =>
      intro x2L2 ML2 h H locs ls hP hS hl
      obtain ⟨o2, h, hz2⟩ := jl_wh_s h
      replace h : jf_X2_isSure_L2 ts a1 x2L2 ML2 = some o2 := h
      unfold jf_X2_isSure_L2 at h
      refine lv_iload_n hx hb dX2_isSure_2 rfl (lv_at hl 2 rfl) ?_
      refine lv_aload_n hx hb dX2_isSure_3 rfl (lv_at hl 0 rfl) ?_
      refine jx_g_X2_board hx hb hts hiX2 hown hK hP hs hf24 dX2_isSure_4 ?_
      refine jx_g_X0_things hx hb hts hiX0 hown hK hP hf58 dX2_isSure_7 ?_
      refine lv_icmp_ge (tgt := 30) hx hb dX2_isSure_10 (by decide) (fun c_10 => ?_) (fun c_10 => ?_)
      · have h := jl_ift c_10 h
        have h := jl_ex_o h hz2
        refine lv_aload_n hx hb dX2_isSure_30 rfl (lv_at hl 0 rfl) ?_
        refine lv_iload_n hx hb dX2_isSure_31 rfl (lv_at hl 1 rfl) ?_
        obtain ⟨r_32, M_32, hc_32, h⟩ := jl_bnd_o h
        refine jx_callVi (As := [.int a1]) (rest := []) ⟨hx, hb, hml, hown, hts⟩ (jc_X2_chooseByLow hs hc_32) (cwV 1 hts gX2_isSure_X2_chooseByLow rfl rfl rfl (by decide +kernel) ⟨Nat.le_trans (by decide) hRf, Nat.le_trans (by decide) hRl⟩) (jx_rv_X2 hK hP hs) hK hB hN hP hS rfl dX2_isSure_32 rfl hl.1 (Nat.le_of_ble_eq_true rfl) ⟨Nat.zero_le _, Nat.zero_le _⟩ (fun H locs hP hS => ?_)
        refine lv_topi (fun x2_35 ex2_35 => ?_)
        have h := jl_lt_o h ex2_35
        refine lv_istore_n (lv' := [(2, .int x2_35), (0, .ref (B ts)), (1, .int a1)]) hx hb dX2_isSure_35 rfl hl (by decide) rfl (fun ls hl => ?_)
        refine lv_iload_n hx hb dX2_isSure_36 rfl (lv_at hl 0 rfl) ?_
        refine lv_iconst (v := (-1)) hx hb dX2_isSure_37 (by decide) ?_
        refine lv_icmp_ne (tgt := 43) hx hb dX2_isSure_38 (by decide) (fun c_38 => ?_) (fun c_38 => ?_)
        · have h := jl_iff c_38 h
          refine lv_iconst (v := 0) hx hb dX2_isSure_43 (by decide) ?_
          refine lv_topi (fun x3_44 ex3_44 => ?_)
          have h := jl_lt_o h ex3_44
          refine lv_istore_n (lv' := [(3, .int x3_44), (2, .int x2_35), (0, .ref (B ts)), (1, .int a1)]) hx hb dX2_isSure_44 rfl hl (by decide) rfl (fun ls hl => ?_)
          have k45 : ∀ (n45 : Nat) (x3L45 : Int32) (ML45 : jl_Mem), jl_wh (fun q => jf_X2_isSure_L45 ts x2_35 q.1 q.2) n45 (x3L45, ML45) = some z → ∀ (H : Heap) (locs : List Loc) (ls : Array Slot), va_P D vwCl (jx_w cI cT B ML45) H → va_S (jx_A B) H0 H locs → lv_has ls 4 [(0, .ref (B ts)), (2, .int x2_35), (3, .int x3L45)] → W p l e R s m args below meth c H locs 0 0 Q (F0 m 45 ls []) := by
            intro n45
            induction n45 with
            | zero => exact fun _ _ h => (jl_wh_0 h).elim
            | succ n45 ih45 =>
              intro x3L45 ML45 h H locs ls hP hS hl
              obtain ⟨o45, h, hz45⟩ := jl_wh_s h
              replace h : jf_X2_isSure_L45 ts x2_35 x3L45 ML45 = some o45 := h
              unfold jf_X2_isSure_L45 at h
              refine lv_iload_n hx hb dX2_isSure_45 rfl (lv_at hl 2 rfl) ?_
              refine lv_aload_n hx hb dX2_isSure_46 rfl (lv_at hl 0 rfl) ?_
              refine jx_g_X2_board hx hb hts hiX2 hown hK hP hs hf24 dX2_isSure_47 ?_
              refine jx_g_X0_things hx hb hts hiX0 hown hK hP hf58 dX2_isSure_50 ?_
              refine lv_icmp_ge (tgt := 91) hx hb dX2_isSure_53 (by decide) (fun c_53 => ?_) (fun c_53 => ?_)
              · have h := jl_ift c_53 h
                have h := jl_ex_o h hz45
                refine lv_iconst (v := 1) hx hb dX2_isSure_91 (by decide) ?_
                exact kr _ _ _ _ _ _ (Option.some.inj h) (by decide) dX2_isSure_92 hP hS
              · have h := jl_iff c_53 h
                refine lv_aload_n hx hb dX2_isSure_56 rfl (lv_at hl 0 rfl) ?_
                refine lv_iload_n hx hb dX2_isSure_57 rfl (lv_at hl 2 rfl) ?_
                obtain ⟨r_58, M_58, hc_58, h⟩ := jl_bnd_o h
                refine jx_callVi (As := [.int x3L45]) (rest := []) ⟨hx, hb, hml, hown, hts⟩ (jc_X2_isFound hs hc_58) (cwV 1 hts gX2_isSure_X2_isFound rfl rfl rfl (by decide +kernel) ⟨Nat.le_trans (by decide) hRf, Nat.le_trans (by decide) hRl⟩) (jx_rv_X2 hK hP hs) hK hB hN hP hS rfl dX2_isSure_58 rfl hl.1 (Nat.le_of_ble_eq_true rfl) ⟨Nat.zero_le _, Nat.zero_le _⟩ (fun H locs hP hS => ?_)
                refine lv_if_ne (tgt := 85) hx hb dX2_isSure_61 (by decide) (fun c_61 => ?_) (fun c_61 => ?_)
                · have h := jl_iff c_61 h
                  obtain ⟨x3_85, ex3_85⟩ : ∃ y : Int32, y = x3L45 + 1 := ⟨_, rfl⟩
                  have h := jl_lt_o h ex3_85
                  refine lv_iinc (v := x3_85) (lv' := [(3, .int x3_85), (0, .ref (B ts)), (2, .int x2_35)]) hx hb dX2_isSure_85 hl (k := 2) rfl (by rw [ex3_85]; rfl) (by decide) rfl (fun ls hl => ?_)
                  refine lv_goto (tgt := 45) hx hb dX2_isSure_88 (by decide) ?_
                  exact ih45 _ _ (jl_L (Option.some.inj h) hz45) _ _ _ hP hS (lv_sub hl [1, 2, 0] rfl)
                · have h := jl_ift c_61 h
                  refine lv_iload_n hx hb dX2_isSure_64 rfl (lv_at hl 1 rfl) ?_
                  refine lv_aload_n hx hb dX2_isSure_65 rfl (lv_at hl 0 rfl) ?_
                  refine jx_g_X2_lows hx hb hts hiX2 hown hK hP hs hf21 dX2_isSure_66 ?_
                  refine lv_iload_n hx hb dX2_isSure_69 rfl (lv_at hl 1 rfl) ?_
                  obtain ⟨i_70, h⟩ := jl_chk_o h
                  refine jx_iaload hx hb hK hP (jx_ls4 hs) i_70 dX2_isSure_70 ?_
                  refine lv_iload_n hx hb dX2_isSure_71 rfl (lv_at hl 2 rfl) ?_
                  refine lv_aload_n hx hb dX2_isSure_72 rfl (lv_at hl 0 rfl) ?_
                  refine lv_iload_n hx hb dX2_isSure_73 rfl (lv_at hl 2 rfl) ?_
                  obtain ⟨r_74, M_74, hc_74, h⟩ := jl_bnd_o h
                  refine jx_callVi (As := [.int x3L45]) (rest := [.int x3L45, .int (M_58 (ts + 4) x2_35.toNatClampNeg), .int x2_35]) ⟨hx, hb, hml, hown, hts⟩ (jc_X2_highOf hs hc_74) (cwV 1 hts gX2_isSure_X2_highOf rfl rfl rfl (by decide +kernel) ⟨Nat.le_trans (by decide) hRf, Nat.le_trans (by decide) hRl⟩) (jx_rv_X2 hK hP hs) hK hB hN hP hS rfl dX2_isSure_74 rfl hl.1 (Nat.le_of_ble_eq_true rfl) ⟨Nat.zero_le _, Nat.zero_le _⟩ (fun H locs hP hS => ?_)
                  obtain ⟨r_77, M_77, hc_77, h⟩ := jl_bnd_o h
                  refine jx_callNi (As := [.int x2_35, .int (M_58 (ts + 4) x2_35.toNatClampNeg), .int x3L45, .int r_74]) (rest := []) ⟨hx, hb, hml, hown, hts⟩ (jc_X4_comesFirst hc_77) ⟨va_cnB 4 hts gX2_isSure_X4_comesFirst_n91 rfl rfl rfl hN.2.2.2.1 (hts (.initialized RX4) (by decide +kernel)) (by decide +kernel) ⟨Nat.le_trans (by decide) hRf, Nat.le_trans (by decide) hRl⟩, hts (.static yX4_comesFirst) (by decide +kernel), trivial⟩ hK hB hN hP hS rfl dX2_isSure_77 rfl hl.1 (Nat.le_of_ble_eq_true rfl) ⟨Nat.zero_le _, Nat.zero_le _⟩ (fun H locs hP hS => ?_)
                  refine lv_if_ne (tgt := 85) hx hb dX2_isSure_80 (by decide) (fun c_80 => ?_) (fun c_80 => ?_)
                  · have h := jl_iff c_80 h
                    obtain ⟨x3_85, ex3_85⟩ : ∃ y : Int32, y = x3L45 + 1 := ⟨_, rfl⟩
                    have h := jl_lt_o h ex3_85
                    refine lv_iinc (v := x3_85) (lv' := [(3, .int x3_85), (0, .ref (B ts)), (2, .int x2_35)]) hx hb dX2_isSure_85 hl (k := 2) rfl (by rw [ex3_85]; rfl) (by decide) rfl (fun ls hl => ?_)
                    refine lv_goto (tgt := 45) hx hb dX2_isSure_88 (by decide) ?_
                    exact ih45 _ _ (jl_L (Option.some.inj h) hz45) _ _ _ hP hS (lv_sub hl [1, 2, 0] rfl)
                  · have h := jl_ift c_80 h
                    have h := jl_ex_o h hz45
                    refine lv_iconst (v := 0) hx hb dX2_isSure_83 (by decide) ?_
                    exact kr _ _ _ _ _ _ (Option.some.inj h) (by decide) dX2_isSure_84 hP hS
          exact k45 _ _ _ h _ _ _ hP hS (lv_sub hl [2, 1, 0] rfl)
        · have h := jl_ift c_38 h
          refine lv_iconst (v := 0) hx hb dX2_isSure_41 (by decide) ?_
          exact kr _ _ _ _ _ _ (Option.some.inj h) (by decide) dX2_isSure_42 hP hS
      · have h := jl_iff c_10 h
        refine lv_aload_n hx hb dX2_isSure_13 rfl (lv_at hl 0 rfl) ?_
        refine jx_g_X2_lows hx hb hts hiX2 hown hK hP hs hf21 dX2_isSure_14 ?_
        refine lv_iload_n hx hb dX2_isSure_17 rfl (lv_at hl 2 rfl) ?_
        refine lv_aload_n hx hb dX2_isSure_18 rfl (lv_at hl 0 rfl) ?_
        refine lv_iload_n hx hb dX2_isSure_19 rfl (lv_at hl 2 rfl) ?_
        obtain ⟨r_20, M_20, hc_20, h⟩ := jl_bnd_o h
        refine jx_callVi (As := [.int x2L2]) (rest := [.int x2L2, .ref (B (ts + 4))]) ⟨hx, hb, hml, hown, hts⟩ (jc_X2_lowOf hs hc_20) (cwV 1 hts gX2_isSure_X2_lowOf rfl rfl rfl (by decide +kernel) ⟨Nat.le_trans (by decide) hRf, Nat.le_trans (by decide) hRl⟩) (jx_rv_X2 hK hP hs) hK hB hN hP hS rfl dX2_isSure_20 rfl hl.1 (Nat.le_of_ble_eq_true rfl) ⟨Nat.zero_le _, Nat.zero_le _⟩ (fun H locs hP hS => ?_)
        obtain ⟨i_23, h⟩ := jl_chk_o h
        refine jx_iastore hx hb hK hB hP hS (jx_ls4 hs) i_23 dX2_isSure_23 (fun M_23 H locs eM_23 hP hS => ?_)
        have h := jl_lt_o h eM_23
        obtain ⟨x2_24, ex2_24⟩ : ∃ y : Int32, y = x2L2 + 1 := ⟨_, rfl⟩
        have h := jl_lt_o h ex2_24
        refine lv_iinc (v := x2_24) (lv' := [(2, .int x2_24), (0, .ref (B ts)), (1, .int a1)]) hx hb dX2_isSure_24 hl (k := 2) rfl (by rw [ex2_24]; rfl) (by decide) rfl (fun ls hl => ?_)
        refine lv_goto (tgt := 2) hx hb dX2_isSure_27 (by decide) ?_
        exact ih2 _ _ (jl_L (Option.some.inj h) hz2) _ _ _ hP hS (lv_sub hl [1, 2, 0] rfl)
  exact k2 _ _ _ h _ _ _ hP hS (lv_sub hl [1, 2, 0] rfl)
theorem jc_X2_isSure {ts : Nat} (hs : jx_isS ts) {a1 : Int32} {z : Int32 × jl_Mem} (h : jf_X2_isSure ts a1 M = some z) : Met l yX2_isSure wsX2_isSure ({ frames := 3, cells := 0, slots := 0, locals := 69 }) (va_Pc [.ref (B ts), .int a1] (jx_U D cI cT B M)) (va_Qi (fun (q : Int32) (_ : Unit) => q = z.1) (fun _ t => va_P D vwCl (jx_w cI cT B z.2) t.heap) (jx_A B)) 0 0 (jx_A B) := by
  refine Met.ofW (cc := cX2_isSure) (maxL := 4) (ret := (some .boolean)) (by decide) rfl ?_
  intro p e s m args below meth c s1 BB hml hv
  obtain ⟨rfl, hK, hP, hB, hN⟩ := hv
  have hl := lv_entry ([.ref (B ts), .int a1]) (n := 4) (Nat.le_of_ble_eq_true rfl)
  rw [lg_entry_eq]
  generalize (lg_sl ([.ref (B ts), .int a1]) ++ List.replicate (4 - (lg_sl ([.ref (B ts), .int a1])).length) Slot.unset).toArray = ls at hl ⊢
  exact jb_X2_isSure BB.exec BB.bytes hml (findClass_of_methodNamed BB.named) (atoms_spec (ws := wsX2_isSure) BB.pre) hK hB hN (Nat.le_refl _) (Nat.le_refl _) hs h (fun v M1 H locs pc ls e1 hz hd hP hS => W.zret BB.exec BB.bytes BB.returns (jl_nar hz) (fun t ht hW => ⟨⟨_, (), rfl, by rw [← e1], by show va_P D vwCl (jx_w cI cT B z.2) t.heap; rw [ht, ← e1]; exact hP⟩, hS.F ht⟩) hS.2.2 hd BB.notSynchronized) hP va_S.rf hl
end
section
variable {p : Program} {l : Launch} {e : Env} {R : Room} {s : State} {m : MethodId} {args : Array Value} {below : List Frame} {meth : Method} {c : Code} {H : Heap} {locs : List Loc} {Q : State → Prop} {ls : Array Slot} {D : va_G} {cI cT : ClassId} {B : Nat → Nat} {M : jl_Mem} {H0 : Heap}
set_option maxHeartbeats 4000000 in
set_option maxRecDepth 100000 in
theorem jb_X1_start (hx : p.tables.exec = Jvm.exec) (hb : c.code = cX1_start) (hml : c.maxLocals = 4) (hown : s.vm.findClass RX1 = some m.cls) (hts : ∀ w ∈ wsX1_start, w.before args s = true) (hK : va_K D vwCl (jx_ty cI cT) s) (hB : jx_inj B) (hN : jx_N s) (hRf : 4 ≤ R.frames) (hRl : 92 ≤ R.locals) {a1 : Int32} {a2 : Int32} {a3 : Int32} {z : Int32 × jl_Mem} (h : jf_X1_start a1 a2 a3 M = some z)
    (kr : ∀ (M1 : jl_Mem) (H1 : Heap) (locs1 : List Loc) (pc1 : Nat) (ls1 : Array Slot), (0, M1) = z → decode cX1_start pc1 = .ok (.return_, 1) → va_P D vwCl (jx_w cI cT B M1) H1 → va_S (jx_A B) H0 H1 locs1 → W p l e R s m args below meth c H1 locs1 0 0 Q (F0 m pc1 ls1 []))
    (hP : va_P D vwCl (jx_w cI cT B M) H) (hS : va_S (jx_A B) H0 H locs) (hl : lv_has ls 4 [(0, .ref (B 23)), (1, .int a1), (2, .int a2), (3, .int a3)]) : W p l e R s m args below meth c H locs 0 0 Q (F0 m 0 ls []) := by
  unfold jf_X1_start at h
  have hiX1 : ∀ w ∈ wsX10, w ∈ wsX1_start := by decide +kernel
  have hf24 := hts (.fieldLink RX1 24 "JudgesLists$Reader" "there" "Z") (by decide +kernel)
  have hf28 := hts (.fieldLink RX1 28 "JudgesLists$Reader" "kind" "I") (by decide +kernel)
  have hf32 := hts (.fieldLink RX1 32 "JudgesLists$Reader" "wanted" "I") (by decide +kernel)
  have hf35 := hts (.fieldLink RX1 35 "JudgesLists$Reader" "step" "I") (by decide +kernel)
  have hf38 := hts (.fieldLink RX1 38 "JudgesLists$Reader" "rounds" "I") (by decide +kernel)
  have hf41 := hts (.fieldLink RX1 41 "JudgesLists$Reader" "lookUps" "I") (by decide +kernel)
  have hf44 := hts (.fieldLink RX1 44 "JudgesLists$Reader" "cost" "I") (by decide +kernel)
  have hf20 := hts (.fieldLink RX1 20 "JudgesLists$Reader" "sight" "LJudgesLists$Sight;") (by decide +kernel)
  have hf54 := hts (.fieldLink RX1 54 "JudgesLists$Reader" "done" "Z") (by decide +kernel)
  refine lv_aload_n hx hb dX1_start_0 rfl (lv_at hl 0 rfl) ?_
  refine lv_iconst (v := 1) hx hb dX1_start_1 (by decide) ?_
  refine jx_p_X1_there hx hb hts hiX1 hown hK hB hP hS hf24 (by decide) dX1_start_2 (fun M_2 H locs eM_2 hP hS => ?_)
  have h := jl_lt_o h eM_2
  refine lv_aload_n hx hb dX1_start_5 rfl (lv_at hl 0 rfl) ?_
  refine lv_iload_n hx hb dX1_start_6 rfl (lv_at hl 1 rfl) ?_
  refine jx_p_X1_kind hx hb hts hiX1 hown hK hB hP hS hf28 dX1_start_7 (fun M_7 H locs eM_7 hP hS => ?_)
  have h := jl_lt_o h eM_7
  refine lv_aload_n hx hb dX1_start_10 rfl (lv_at hl 0 rfl) ?_
  refine lv_iload_n hx hb dX1_start_11 rfl (lv_at hl 2 rfl) ?_
  refine jx_p_X1_wanted hx hb hts hiX1 hown hK hB hP hS hf32 dX1_start_12 (fun M_12 H locs eM_12 hP hS => ?_)
  have h := jl_lt_o h eM_12
  refine lv_aload_n hx hb dX1_start_15 rfl (lv_at hl 0 rfl) ?_
  refine lv_iload_n hx hb dX1_start_16 rfl (lv_at hl 3 rfl) ?_
  refine jx_p_X1_step hx hb hts hiX1 hown hK hB hP hS hf35 dX1_start_17 (fun M_17 H locs eM_17 hP hS => ?_)
  have h := jl_lt_o h eM_17
  refine lv_aload_n hx hb dX1_start_20 rfl (lv_at hl 0 rfl) ?_
  refine lv_iconst (v := 0) hx hb dX1_start_21 (by decide) ?_
  refine jx_p_X1_rounds hx hb hts hiX1 hown hK hB hP hS hf38 dX1_start_22 (fun M_22 H locs eM_22 hP hS => ?_)
  have h := jl_lt_o h eM_22
  refine lv_aload_n hx hb dX1_start_25 rfl (lv_at hl 0 rfl) ?_
  refine lv_iconst (v := 0) hx hb dX1_start_26 (by decide) ?_
  refine jx_p_X1_lookUps hx hb hts hiX1 hown hK hB hP hS hf41 dX1_start_27 (fun M_27 H locs eM_27 hP hS => ?_)
  have h := jl_lt_o h eM_27
  refine lv_aload_n hx hb dX1_start_30 rfl (lv_at hl 0 rfl) ?_
  refine lv_iconst (v := 0) hx hb dX1_start_31 (by decide) ?_
  refine jx_p_X1_cost hx hb hts hiX1 hown hK hB hP hS hf44 dX1_start_32 (fun M_32 H locs eM_32 hP hS => ?_)
  have h := jl_lt_o h eM_32
  refine lv_aload_n hx hb dX1_start_35 rfl (lv_at hl 0 rfl) ?_
  refine jx_g_X1_sight hx hb hts hiX1 hown hK hP hf20 dX1_start_36 ?_
  obtain ⟨r_39, M_39, hc_39, h⟩ := jl_bnd_o h
  refine jx_callVv (As := []) (rest := []) ⟨hx, hb, hml, hown, hts⟩ (jc_X2_forget (ts := 24) (Or.inl rfl) hc_39) (cwV 0 hts gX1_start_X2_forget rfl rfl rfl (by decide +kernel) ⟨Nat.le_trans (by decide) hRf, Nat.le_trans (by decide) hRl⟩) (jx_rv_X2 hK hP (ts := 24) (Or.inl rfl)) hK hB hN hP hS rfl dX1_start_39 rfl hl.1 (Nat.le_of_ble_eq_true rfl) ⟨Nat.zero_le _, Nat.zero_le _⟩ (fun H locs hP hS => ?_)
  refine lv_aload_n hx hb dX1_start_42 rfl (lv_at hl 0 rfl) ?_
  refine lv_aload_n hx hb dX1_start_43 rfl (lv_at hl 0 rfl) ?_
  refine jx_g_X1_sight hx hb hts hiX1 hown hK hP hf20 dX1_start_44 ?_
  refine lv_iload_n hx hb dX1_start_47 rfl (lv_at hl 2 rfl) ?_
  obtain ⟨r_48, M_48, hc_48, h⟩ := jl_bnd_o h
  refine jx_callVi (As := [.int a2]) (rest := [.ref (B 23)]) ⟨hx, hb, hml, hown, hts⟩ (jc_X2_isSure (ts := 24) (Or.inl rfl) hc_48) (cwV 1 hts gX1_start_X2_isSure rfl rfl rfl (by decide +kernel) ⟨Nat.le_trans (by decide) hRf, Nat.le_trans (by decide) hRl⟩) (jx_rv_X2 hK hP (ts := 24) (Or.inl rfl)) hK hB hN hP hS rfl dX1_start_48 rfl hl.1 (Nat.le_of_ble_eq_true rfl) ⟨Nat.zero_le _, Nat.zero_le _⟩ (fun H locs hP hS => ?_)
  obtain ⟨i_51, h⟩ := jl_chk_o h
  refine jx_p_X1_done hx hb hts hiX1 hown hK hB hP hS hf54 i_51 dX1_start_51 (fun M_51 H locs eM_51 hP hS => ?_)
  have h := jl_lt_o h eM_51
  exact kr _ _ _ _ _ (Option.some.inj h) dX1_start_54 hP hS
theorem jc_X1_start {a1 : Int32} {a2 : Int32} {a3 : Int32} {z : Int32 × jl_Mem} (h : jf_X1_start a1 a2 a3 M = some z) : Met l yX1_start wsX1_start ({ frames := 4, cells := 0, slots := 0, locals := 92 }) (va_Pc [.ref (B 23), .int a1, .int a2, .int a3] (jx_U D cI cT B M)) (va_Qv (fun (_ : Unit) => True) (fun _ t => va_P D vwCl (jx_w cI cT B z.2) t.heap) (jx_A B)) 0 0 (jx_A B) := by
  refine Met.ofW (cc := cX1_start) (maxL := 4) (ret := none) (by decide) rfl ?_
  intro p e s m args below meth c s1 BB hml hv
  obtain ⟨rfl, hK, hP, hB, hN⟩ := hv
  have hl := lv_entry ([.ref (B 23), .int a1, .int a2, .int a3]) (n := 4) (Nat.le_of_ble_eq_true rfl)
  rw [lg_entry_eq]
  generalize (lg_sl ([.ref (B 23), .int a1, .int a2, .int a3]) ++ List.replicate (4 - (lg_sl ([.ref (B 23), .int a1, .int a2, .int a3])).length) Slot.unset).toArray = ls at hl ⊢
  exact jb_X1_start BB.exec BB.bytes hml (findClass_of_methodNamed BB.named) (atoms_spec (ws := wsX1_start) BB.pre) hK hB hN (Nat.le_refl _) (Nat.le_refl _) h (fun M1 H locs pc ls e1 hd hP hS => W.vret BB.exec BB.bytes BB.returns (fun t ht hW => ⟨⟨(), rfl, trivial, by show va_P D vwCl (jx_w cI cT B z.2) t.heap; rw [ht, ← e1]; exact hP⟩, hS.F ht⟩) hS.2.2 hd BB.notSynchronized) hP va_S.rf hl
end
