section
variable {p : Program} {l : Launch} {e : Env} {R : Room} {s : State} {m : MethodId} {args : Array Value} {below : List Frame} {meth : Method} {c : Code} {H : Heap} {locs : List Loc} {Q : State → Prop} {ls : Array Slot} {D : va_G} {cI cT : ClassId} {B : Nat → Nat} {M : jl_Mem} {H0 : Heap}
set_option maxHeartbeats 4000000 in
set_option maxRecDepth 100000 in
theorem jb_X5_aside (hx : p.tables.exec = Jvm.exec) (hb : c.code = cX5_aside) (hml : c.maxLocals = 2) (hown : s.vm.findClass RX5 = some m.cls) (hts : ∀ w ∈ wsX5_aside, w.before args s = true) (hK : va_K D vwCl (jy_ty cI cT) s) (hB : jy_inj B) (hN : jy_N s) (hRf : 1 ≤ R.frames) (hRl : 21 ≤ R.locals) {z : Int32 × jl_Mem} (h : jf_X5_aside M = some z)
    (kr : ∀ (M1 : jl_Mem) (H1 : Heap) (locs1 : List Loc) (pc1 : Nat) (ls1 : Array Slot), (0, M1) = z → decode cX5_aside pc1 = .ok (.return_, 1) → va_P D vwCl (jy_w cI cT B M1) H1 → va_S (jy_A B) H0 H1 locs1 → W p l e R s m args below meth c H1 locs1 0 0 Q (F0 m pc1 ls1 []))
    (hP : va_P D vwCl (jy_w cI cT B M) H) (hS : va_S (jy_A B) H0 H locs) (hl : lv_has ls 2 [(0, .ref (B 0))]) : W p l e R s m args below meth c H locs 0 0 Q (F0 m 0 ls []) := by
  unfold jf_X5_aside at h
  have hiX5 : ∀ w ∈ wsX50, w ∈ wsX5_aside := by decide +kernel
  have hf53 := hts (.fieldLink RX5 53 "JudgesListsModel" "keptLooked" "[Z") (by decide +kernel)
  have hf34 := hts (.fieldLink RX5 34 "JudgesListsModel" "looked" "[Z") (by decide +kernel)
  have hf50 := hts (.fieldLink RX5 50 "JudgesListsModel" "keptDepth" "[I") (by decide +kernel)
  have hf31 := hts (.fieldLink RX5 31 "JudgesListsModel" "depth" "[I") (by decide +kernel)
  refine lv_iconst (v := 0) hx hb dX5_aside_0 (by decide) ?_
  refine lv_topi (fun x1_1 ex1_1 => ?_)
  have h := jl_lt_o h ex1_1
  refine lv_istore_n (lv' := [(1, .int x1_1), (0, .ref (B 0))]) hx hb dX5_aside_1 rfl hl (by decide) rfl (fun ls hl => ?_)
  have k2 : ∀ (n2 : Nat) (x1L2 : Int32) (ML2 : jl_Mem), jl_wh (fun q => jf_X5_aside_L2 q.1 q.2) n2 (x1L2, ML2) = some z → ∀ (H : Heap) (locs : List Loc) (ls : Array Slot), va_P D vwCl (jy_w cI cT B ML2) H → va_S (jy_A B) H0 H locs → lv_has ls 2 [(0, .ref (B 0)), (1, .int x1L2)] → W p l e R s m args below meth c H locs 0 0 Q (F0 m 2 ls []) := by
    intro n2
    induction n2 with
    | zero => exact fun _ _ h => (jl_wh_0 h).elim
    | succ n2 ih2 =>
      intro x1L2 ML2 h H locs ls hP hS hl
      obtain ⟨o2, h, hz2⟩ := jl_wh_s h
      replace h : jf_X5_aside_L2 x1L2 ML2 = some o2 := h
      unfold jf_X5_aside_L2 at h
      refine lv_iload_n hx hb dX5_aside_2 rfl (lv_at hl 1 rfl) ?_
      refine lv_iconst (v := 4) hx hb dX5_aside_3 (by decide) ?_
      refine lv_icmp_ge (tgt := 25) hx hb dX5_aside_4 (by decide) (fun c_4 => ?_) (fun c_4 => ?_)
      · have h := jl_ift c_4 h
        have h := jl_ex_o h hz2
        refine lv_iconst (v := 0) hx hb dX5_aside_25 (by decide) ?_
        refine lv_topi (fun x1_26 ex1_26 => ?_)
        have h := jl_lt_o h ex1_26
        refine lv_istore_n (lv' := [(1, .int x1_26), (0, .ref (B 0))]) hx hb dX5_aside_26 rfl hl (by decide) rfl (fun ls hl => ?_)
        have k27 : ∀ (n27 : Nat) (x1L27 : Int32) (ML27 : jl_Mem), jl_wh (fun q => jf_X5_aside_L27 q.1 q.2) n27 (x1L27, ML27) = some z → ∀ (H : Heap) (locs : List Loc) (ls : Array Slot), va_P D vwCl (jy_w cI cT B ML27) H → va_S (jy_A B) H0 H locs → lv_has ls 2 [(0, .ref (B 0)), (1, .int x1L27)] → W p l e R s m args below meth c H locs 0 0 Q (F0 m 27 ls []) := by
          intro n27
          induction n27 with
          | zero => exact fun _ _ h => (jl_wh_0 h).elim
          | succ n27 ih27 =>
            intro x1L27 ML27 h H locs ls hP hS hl
            obtain ⟨o27, h, hz27⟩ := jl_wh_s h
            replace h : jf_X5_aside_L27 x1L27 ML27 = some o27 := h
            unfold jf_X5_aside_L27 at h
            refine lv_iload_n hx hb dX5_aside_27 rfl (lv_at hl 1 rfl) ?_
            refine lv_bipush (v := 80) hx hb dX5_aside_28 (by decide) ?_
            refine lv_icmp_ge (tgt := 51) hx hb dX5_aside_30 (by decide) (fun c_30 => ?_) (fun c_30 => ?_)
            · have h := jl_ift c_30 h
              have h := jl_ex_o h hz27
              refine lv_aload_n hx hb dX5_aside_51 rfl (lv_at hl 0 rfl) ?_
              obtain ⟨r_52, M_52, hc_52, h⟩ := jl_bnd_o h
              refine jy_callVv (As := []) (rest := []) ⟨hx, hb, hml, hown, hts⟩ (jc_X5_clear hc_52) (cwV 0 hts gX5_aside_X5_clear rfl rfl rfl (by decide +kernel) ⟨Nat.le_trans (by decide) hRf, Nat.le_trans (by decide) hRl⟩) (jy_rv_X5 hK hP) hK hB hN hP hS rfl dX5_aside_52 rfl hl.1 (Nat.le_of_ble_eq_true rfl) ⟨Nat.zero_le _, Nat.zero_le _⟩ (fun H locs hP hS => ?_)
              exact kr _ _ _ _ _ (Option.some.inj h) dX5_aside_55 hP hS
            · have h := jl_iff c_30 h
              refine lv_aload_n hx hb dX5_aside_33 rfl (lv_at hl 0 rfl) ?_
              refine jy_g_X5_keptLooked hx hb hts hiX5 hown hK hP hf53 dX5_aside_34 ?_
              refine lv_iload_n hx hb dX5_aside_37 rfl (lv_at hl 1 rfl) ?_
              refine lv_aload_n hx hb dX5_aside_38 rfl (lv_at hl 0 rfl) ?_
              refine jy_g_X5_looked hx hb hts hiX5 hown hK hP hf34 dX5_aside_39 ?_
              refine lv_iload_n hx hb dX5_aside_42 rfl (lv_at hl 1 rfl) ?_
              obtain ⟨i_43, h⟩ := jl_chk_o h
              refine jy_baload hx hb hK hP rfl i_43 dX5_aside_43 ?_
              obtain ⟨ib_44, h⟩ := jl_chk_o h
              refine jy_bastore hx hb hK hB hP hS rfl i_43 ib_44 dX5_aside_44 (fun M_44 H locs eM_44 hP hS => ?_)
              have h := jl_lt_o h eM_44
              obtain ⟨x1_45, ex1_45⟩ : ∃ y : Int32, y = x1L27 + 1 := ⟨_, rfl⟩
              have h := jl_lt_o h ex1_45
              refine lv_iinc (v := x1_45) (lv' := [(1, .int x1_45), (0, .ref (B 0))]) hx hb dX5_aside_45 hl (k := 1) rfl (by rw [ex1_45]; rfl) (by decide) rfl (fun ls hl => ?_)
              refine lv_goto (tgt := 27) hx hb dX5_aside_48 (by decide) ?_
              exact ih27 _ _ (jl_L (Option.some.inj h) hz27) _ _ _ hP hS (lv_sub hl [1, 0] rfl)
        exact k27 _ _ _ h _ _ _ hP hS (lv_sub hl [1, 0] rfl)
      · have h := jl_iff c_4 h
        refine lv_aload_n hx hb dX5_aside_7 rfl (lv_at hl 0 rfl) ?_
        refine jy_g_X5_keptDepth hx hb hts hiX5 hown hK hP hf50 dX5_aside_8 ?_
        refine lv_iload_n hx hb dX5_aside_11 rfl (lv_at hl 1 rfl) ?_
        refine lv_aload_n hx hb dX5_aside_12 rfl (lv_at hl 0 rfl) ?_
        refine jy_g_X5_depth hx hb hts hiX5 hown hK hP hf31 dX5_aside_13 ?_
        refine lv_iload_n hx hb dX5_aside_16 rfl (lv_at hl 1 rfl) ?_
        obtain ⟨i_17, h⟩ := jl_chk_o h
        refine jy_iaload hx hb hK hP rfl i_17 dX5_aside_17 ?_
        refine jy_iastore hx hb hK hB hP hS rfl i_17 dX5_aside_18 (fun M_18 H locs eM_18 hP hS => ?_)
        have h := jl_lt_o h eM_18
        obtain ⟨x1_19, ex1_19⟩ : ∃ y : Int32, y = x1L2 + 1 := ⟨_, rfl⟩
        have h := jl_lt_o h ex1_19
        refine lv_iinc (v := x1_19) (lv' := [(1, .int x1_19), (0, .ref (B 0))]) hx hb dX5_aside_19 hl (k := 1) rfl (by rw [ex1_19]; rfl) (by decide) rfl (fun ls hl => ?_)
        refine lv_goto (tgt := 2) hx hb dX5_aside_22 (by decide) ?_
        exact ih2 _ _ (jl_L (Option.some.inj h) hz2) _ _ _ hP hS (lv_sub hl [1, 0] rfl)
  exact k2 _ _ _ h _ _ _ hP hS (lv_sub hl [1, 0] rfl)
theorem jc_X5_aside {z : Int32 × jl_Mem} (h : jf_X5_aside M = some z) : Met l yX5_aside wsX5_aside ({ frames := 1, cells := 0, slots := 0, locals := 21 }) (va_Pc [.ref (B 0)] (jy_U D cI cT B M)) (va_Qv (fun (_ : Unit) => True) (fun _ t => va_P D vwCl (jy_w cI cT B z.2) t.heap) (jy_A B)) 0 0 (jy_A B) := by
  refine Met.ofW (cc := cX5_aside) (maxL := 2) (ret := none) (by decide) rfl ?_
  intro p e s m args below meth c s1 BB hml hv
  obtain ⟨rfl, hK, hP, hB, hN⟩ := hv
  have hl := lv_entry ([.ref (B 0)]) (n := 2) (Nat.le_of_ble_eq_true rfl)
  rw [lg_entry_eq]
  generalize (lg_sl ([.ref (B 0)]) ++ List.replicate (2 - (lg_sl ([.ref (B 0)])).length) Slot.unset).toArray = ls at hl ⊢
  exact jb_X5_aside BB.exec BB.bytes hml (findClass_of_methodNamed BB.named) (atoms_spec (ws := wsX5_aside) BB.pre) hK hB hN (Nat.le_refl _) (Nat.le_refl _) h (fun M1 H locs pc ls e1 hd hP hS => W.vret BB.exec BB.bytes BB.returns (fun t ht hW => ⟨⟨(), rfl, trivial, by show va_P D vwCl (jy_w cI cT B z.2) t.heap; rw [ht, ← e1]; exact hP⟩, hS.F ht⟩) hS.2.2 hd BB.notSynchronized) hP va_S.rf hl
end
section
variable {p : Program} {l : Launch} {e : Env} {R : Room} {s : State} {m : MethodId} {args : Array Value} {below : List Frame} {meth : Method} {c : Code} {H : Heap} {locs : List Loc} {Q : State → Prop} {ls : Array Slot} {D : va_G} {cI cT : ClassId} {B : Nat → Nat} {M : jl_Mem} {H0 : Heap}
set_option maxHeartbeats 4000000 in
set_option maxRecDepth 100000 in
theorem jb_X5_again (hx : p.tables.exec = Jvm.exec) (hb : c.code = cX5_again) (hml : c.maxLocals = 2) (hown : s.vm.findClass RX5 = some m.cls) (hts : ∀ w ∈ wsX5_again, w.before args s = true) (hK : va_K D vwCl (jy_ty cI cT) s) (hB : jy_inj B) (hN : jy_N s) (hRf : 0 ≤ R.frames) (hRl : 0 ≤ R.locals) {z : Int32 × jl_Mem} (h : jf_X5_again M = some z)
    (kr : ∀ (M1 : jl_Mem) (H1 : Heap) (locs1 : List Loc) (pc1 : Nat) (ls1 : Array Slot), (0, M1) = z → decode cX5_again pc1 = .ok (.return_, 1) → va_P D vwCl (jy_w cI cT B M1) H1 → va_S (jy_A B) H0 H1 locs1 → W p l e R s m args below meth c H1 locs1 0 0 Q (F0 m pc1 ls1 []))
    (hP : va_P D vwCl (jy_w cI cT B M) H) (hS : va_S (jy_A B) H0 H locs) (hl : lv_has ls 2 [(0, .ref (B 0))]) : W p l e R s m args below meth c H locs 0 0 Q (F0 m 0 ls []) := by
  unfold jf_X5_again at h
  have hiX5 : ∀ w ∈ wsX50, w ∈ wsX5_again := by decide +kernel
  have hf34 := hts (.fieldLink RX5 34 "JudgesListsModel" "looked" "[Z") (by decide +kernel)
  have hf53 := hts (.fieldLink RX5 53 "JudgesListsModel" "keptLooked" "[Z") (by decide +kernel)
  have hf31 := hts (.fieldLink RX5 31 "JudgesListsModel" "depth" "[I") (by decide +kernel)
  have hf50 := hts (.fieldLink RX5 50 "JudgesListsModel" "keptDepth" "[I") (by decide +kernel)
  refine lv_iconst (v := 0) hx hb dX5_again_0 (by decide) ?_
  refine lv_topi (fun x1_1 ex1_1 => ?_)
  have h := jl_lt_o h ex1_1
  refine lv_istore_n (lv' := [(1, .int x1_1), (0, .ref (B 0))]) hx hb dX5_again_1 rfl hl (by decide) rfl (fun ls hl => ?_)
  have k2 : ∀ (n2 : Nat) (x1L2 : Int32) (ML2 : jl_Mem), jl_wh (fun q => jf_X5_again_L2 q.1 q.2) n2 (x1L2, ML2) = some z → ∀ (H : Heap) (locs : List Loc) (ls : Array Slot), va_P D vwCl (jy_w cI cT B ML2) H → va_S (jy_A B) H0 H locs → lv_has ls 2 [(0, .ref (B 0)), (1, .int x1L2)] → W p l e R s m args below meth c H locs 0 0 Q (F0 m 2 ls []) := by
    intro n2
    induction n2 with
    | zero => exact fun _ _ h => (jl_wh_0 h).elim
    | succ n2 ih2 =>
      intro x1L2 ML2 h H locs ls hP hS hl
      obtain ⟨o2, h, hz2⟩ := jl_wh_s h
      replace h : jf_X5_again_L2 x1L2 ML2 = some o2 := h
      unfold jf_X5_again_L2 at h
      refine lv_iload_n hx hb dX5_again_2 rfl (lv_at hl 1 rfl) ?_
      refine lv_iconst (v := 4) hx hb dX5_again_3 (by decide) ?_
      refine lv_icmp_ge (tgt := 25) hx hb dX5_again_4 (by decide) (fun c_4 => ?_) (fun c_4 => ?_)
      · have h := jl_ift c_4 h
        have h := jl_ex_o h hz2
        refine lv_iconst (v := 0) hx hb dX5_again_25 (by decide) ?_
        refine lv_topi (fun x1_26 ex1_26 => ?_)
        have h := jl_lt_o h ex1_26
        refine lv_istore_n (lv' := [(1, .int x1_26), (0, .ref (B 0))]) hx hb dX5_again_26 rfl hl (by decide) rfl (fun ls hl => ?_)
        have k27 : ∀ (n27 : Nat) (x1L27 : Int32) (ML27 : jl_Mem), jl_wh (fun q => jf_X5_again_L27 q.1 q.2) n27 (x1L27, ML27) = some z → ∀ (H : Heap) (locs : List Loc) (ls : Array Slot), va_P D vwCl (jy_w cI cT B ML27) H → va_S (jy_A B) H0 H locs → lv_has ls 2 [(0, .ref (B 0)), (1, .int x1L27)] → W p l e R s m args below meth c H locs 0 0 Q (F0 m 27 ls []) := by
          intro n27
          induction n27 with
          | zero => exact fun _ _ h => (jl_wh_0 h).elim
          | succ n27 ih27 =>
            intro x1L27 ML27 h H locs ls hP hS hl
            obtain ⟨o27, h, hz27⟩ := jl_wh_s h
            replace h : jf_X5_again_L27 x1L27 ML27 = some o27 := h
            unfold jf_X5_again_L27 at h
            refine lv_iload_n hx hb dX5_again_27 rfl (lv_at hl 1 rfl) ?_
            refine lv_bipush (v := 80) hx hb dX5_again_28 (by decide) ?_
            refine lv_icmp_ge (tgt := 51) hx hb dX5_again_30 (by decide) (fun c_30 => ?_) (fun c_30 => ?_)
            · have h := jl_ift c_30 h
              have h := jl_ex_o h hz27
              exact kr _ _ _ _ _ (Option.some.inj h) dX5_again_51 hP hS
            · have h := jl_iff c_30 h
              refine lv_aload_n hx hb dX5_again_33 rfl (lv_at hl 0 rfl) ?_
              refine jy_g_X5_looked hx hb hts hiX5 hown hK hP hf34 dX5_again_34 ?_
              refine lv_iload_n hx hb dX5_again_37 rfl (lv_at hl 1 rfl) ?_
              refine lv_aload_n hx hb dX5_again_38 rfl (lv_at hl 0 rfl) ?_
              refine jy_g_X5_keptLooked hx hb hts hiX5 hown hK hP hf53 dX5_again_39 ?_
              refine lv_iload_n hx hb dX5_again_42 rfl (lv_at hl 1 rfl) ?_
              obtain ⟨i_43, h⟩ := jl_chk_o h
              refine jy_baload hx hb hK hP rfl i_43 dX5_again_43 ?_
              obtain ⟨ib_44, h⟩ := jl_chk_o h
              refine jy_bastore hx hb hK hB hP hS rfl i_43 ib_44 dX5_again_44 (fun M_44 H locs eM_44 hP hS => ?_)
              have h := jl_lt_o h eM_44
              obtain ⟨x1_45, ex1_45⟩ : ∃ y : Int32, y = x1L27 + 1 := ⟨_, rfl⟩
              have h := jl_lt_o h ex1_45
              refine lv_iinc (v := x1_45) (lv' := [(1, .int x1_45), (0, .ref (B 0))]) hx hb dX5_again_45 hl (k := 1) rfl (by rw [ex1_45]; rfl) (by decide) rfl (fun ls hl => ?_)
              refine lv_goto (tgt := 27) hx hb dX5_again_48 (by decide) ?_
              exact ih27 _ _ (jl_L (Option.some.inj h) hz27) _ _ _ hP hS (lv_sub hl [1, 0] rfl)
        exact k27 _ _ _ h _ _ _ hP hS (lv_sub hl [1, 0] rfl)
      · have h := jl_iff c_4 h
        refine lv_aload_n hx hb dX5_again_7 rfl (lv_at hl 0 rfl) ?_
        refine jy_g_X5_depth hx hb hts hiX5 hown hK hP hf31 dX5_again_8 ?_
        refine lv_iload_n hx hb dX5_again_11 rfl (lv_at hl 1 rfl) ?_
        refine lv_aload_n hx hb dX5_again_12 rfl (lv_at hl 0 rfl) ?_
        refine jy_g_X5_keptDepth hx hb hts hiX5 hown hK hP hf50 dX5_again_13 ?_
        refine lv_iload_n hx hb dX5_again_16 rfl (lv_at hl 1 rfl) ?_
        obtain ⟨i_17, h⟩ := jl_chk_o h
        refine jy_iaload hx hb hK hP rfl i_17 dX5_again_17 ?_
        refine jy_iastore hx hb hK hB hP hS rfl i_17 dX5_again_18 (fun M_18 H locs eM_18 hP hS => ?_)
        have h := jl_lt_o h eM_18
        obtain ⟨x1_19, ex1_19⟩ : ∃ y : Int32, y = x1L2 + 1 := ⟨_, rfl⟩
        have h := jl_lt_o h ex1_19
        refine lv_iinc (v := x1_19) (lv' := [(1, .int x1_19), (0, .ref (B 0))]) hx hb dX5_again_19 hl (k := 1) rfl (by rw [ex1_19]; rfl) (by decide) rfl (fun ls hl => ?_)
        refine lv_goto (tgt := 2) hx hb dX5_again_22 (by decide) ?_
        exact ih2 _ _ (jl_L (Option.some.inj h) hz2) _ _ _ hP hS (lv_sub hl [1, 0] rfl)
  exact k2 _ _ _ h _ _ _ hP hS (lv_sub hl [1, 0] rfl)
theorem jc_X5_again {z : Int32 × jl_Mem} (h : jf_X5_again M = some z) : Met l yX5_again wsX5_again ({ frames := 0, cells := 0, slots := 0, locals := 0 }) (va_Pc [.ref (B 0)] (jy_U D cI cT B M)) (va_Qv (fun (_ : Unit) => True) (fun _ t => va_P D vwCl (jy_w cI cT B z.2) t.heap) (jy_A B)) 0 0 (jy_A B) := by
  refine Met.ofW (cc := cX5_again) (maxL := 2) (ret := none) (by decide) rfl ?_
  intro p e s m args below meth c s1 BB hml hv
  obtain ⟨rfl, hK, hP, hB, hN⟩ := hv
  have hl := lv_entry ([.ref (B 0)]) (n := 2) (Nat.le_of_ble_eq_true rfl)
  rw [lg_entry_eq]
  generalize (lg_sl ([.ref (B 0)]) ++ List.replicate (2 - (lg_sl ([.ref (B 0)])).length) Slot.unset).toArray = ls at hl ⊢
  exact jb_X5_again BB.exec BB.bytes hml (findClass_of_methodNamed BB.named) (atoms_spec (ws := wsX5_again) BB.pre) hK hB hN (Nat.le_refl _) (Nat.le_refl _) h (fun M1 H locs pc ls e1 hd hP hS => W.vret BB.exec BB.bytes BB.returns (fun t ht hW => ⟨⟨(), rfl, trivial, by show va_P D vwCl (jy_w cI cT B z.2) t.heap; rw [ht, ← e1]; exact hP⟩, hS.F ht⟩) hS.2.2 hd BB.notSynchronized) hP va_S.rf hl
end
section
variable {p : Program} {l : Launch} {e : Env} {R : Room} {s : State} {m : MethodId} {args : Array Value} {below : List Frame} {meth : Method} {c : Code} {H : Heap} {locs : List Loc} {Q : State → Prop} {ls : Array Slot} {D : va_G} {cI cT : ClassId} {B : Nat → Nat} {M : jl_Mem} {H0 : Heap}
set_option maxHeartbeats 4000000 in
set_option maxRecDepth 100000 in
theorem jb_X5_mayBe (hx : p.tables.exec = Jvm.exec) (hb : c.code = cX5_mayBe) (hml : c.maxLocals = 3) (hown : s.vm.findClass RX5 = some m.cls) (hts : ∀ w ∈ wsX5_mayBe, w.before args s = true) (hK : va_K D vwCl (jy_ty cI cT) s) (hB : jy_inj B) (hN : jy_N s) (hRf : 1 ≤ R.frames) (hRl : 22 ≤ R.locals) {a1 : Int32} {a2 : Int32} {z : Int32 × jl_Mem} (h : jf_X5_mayBe a1 a2 M = some z)
    (kr : ∀ (v : Int32) (M1 : jl_Mem) (H1 : Heap) (locs1 : List Loc) (pc1 : Nat) (ls1 : Array Slot), (v, M1) = z → jl_isB v = true → decode cX5_mayBe pc1 = .ok (.ireturn, 1) → va_P D vwCl (jy_w cI cT B M1) H1 → va_S (jy_A B) H0 H1 locs1 → W p l e R s m args below meth c H1 locs1 0 0 Q (F0 m pc1 ls1 [.int v]))
    (hP : va_P D vwCl (jy_w cI cT B M) H) (hS : va_S (jy_A B) H0 H locs) (hl : lv_has ls 3 [(0, .ref (B 0)), (1, .int a1), (2, .int a2)]) : W p l e R s m args below meth c H locs 0 0 Q (F0 m 0 ls []) := by
  unfold jf_X5_mayBe at h
  have hiX5 : ∀ w ∈ wsX50, w ∈ wsX5_mayBe := by decide +kernel
  have hf70 := hts (.fieldLink RX5 70 "JudgesListsModel" "lists" "I") (by decide +kernel)
  have hf25 := hts (.fieldLink RX5 25 "JudgesListsModel" "length" "[I") (by decide +kernel)
  refine lv_iload_n hx hb dX5_mayBe_0 rfl (lv_at hl 2 rfl) ?_
  refine lv_iconst (v := 0) hx hb dX5_mayBe_1 (by decide) ?_
  refine lv_iload_n hx hb dX5_mayBe_2 rfl (lv_at hl 1 rfl) ?_
  refine lv_aload_n hx hb dX5_mayBe_3 rfl (lv_at hl 0 rfl) ?_
  refine jy_g_X5_lists hx hb hts hiX5 hown hK hP hf70 dX5_mayBe_4 ?_
  refine lv_icmp_ge (tgt := 19) hx hb dX5_mayBe_7 (by decide) (fun c_7 => ?_) (fun c_7 => ?_)
  · have h := jl_ift c_7 h
    refine lv_iconst (v := 0) hx hb dX5_mayBe_19 (by decide) ?_
    obtain ⟨r_20, M_20, hc_20, h⟩ := jl_bnd_o h
    refine jy_callSi (As := [.int a2, .int 0, .int 0]) (rest := []) ⟨hx, hb, hml, hown, hts⟩ (jc_X5_in hc_20) (va_cwS 3 hts gX5_mayBe_X5_in rfl rfl rfl (by decide +kernel) ⟨Nat.le_trans (by decide) hRf, Nat.le_trans (by decide) hRl⟩) hK hB hN hP hS rfl dX5_mayBe_20 rfl hl.1 (Nat.le_of_ble_eq_true rfl) ⟨Nat.zero_le _, Nat.zero_le _⟩ (fun H locs hP hS => ?_)
    obtain ⟨i_23, h⟩ := jl_chk_o h
    exact kr _ _ _ _ _ _ (Option.some.inj h) i_23 dX5_mayBe_23 hP hS
  · have h := jl_iff c_7 h
    refine lv_aload_n hx hb dX5_mayBe_10 rfl (lv_at hl 0 rfl) ?_
    refine jy_g_X5_length hx hb hts hiX5 hown hK hP hf25 dX5_mayBe_11 ?_
    refine lv_iload_n hx hb dX5_mayBe_14 rfl (lv_at hl 1 rfl) ?_
    obtain ⟨i_15, h⟩ := jl_chk_o h
    refine jy_iaload hx hb hK hP rfl i_15 dX5_mayBe_15 ?_
    refine lv_goto (tgt := 20) hx hb dX5_mayBe_16 (by decide) ?_
    obtain ⟨r_20, M_20, hc_20, h⟩ := jl_bnd_o h
    refine jy_callSi (As := [.int a2, .int 0, .int (M 6 a1.toNatClampNeg)]) (rest := []) ⟨hx, hb, hml, hown, hts⟩ (jc_X5_in hc_20) (va_cwS 3 hts gX5_mayBe_X5_in rfl rfl rfl (by decide +kernel) ⟨Nat.le_trans (by decide) hRf, Nat.le_trans (by decide) hRl⟩) hK hB hN hP hS rfl dX5_mayBe_20 rfl hl.1 (Nat.le_of_ble_eq_true rfl) ⟨Nat.zero_le _, Nat.zero_le _⟩ (fun H locs hP hS => ?_)
    obtain ⟨i_23, h⟩ := jl_chk_o h
    exact kr _ _ _ _ _ _ (Option.some.inj h) i_23 dX5_mayBe_23 hP hS
theorem jc_X5_mayBe {a1 : Int32} {a2 : Int32} {z : Int32 × jl_Mem} (h : jf_X5_mayBe a1 a2 M = some z) : Met l yX5_mayBe wsX5_mayBe ({ frames := 1, cells := 0, slots := 0, locals := 22 }) (va_Pc [.ref (B 0), .int a1, .int a2] (jy_U D cI cT B M)) (va_Qi (fun (q : Int32) (_ : Unit) => q = z.1) (fun _ t => va_P D vwCl (jy_w cI cT B z.2) t.heap) (jy_A B)) 0 0 (jy_A B) := by
  refine Met.ofW (cc := cX5_mayBe) (maxL := 3) (ret := (some .boolean)) (by decide) rfl ?_
  intro p e s m args below meth c s1 BB hml hv
  obtain ⟨rfl, hK, hP, hB, hN⟩ := hv
  have hl := lv_entry ([.ref (B 0), .int a1, .int a2]) (n := 3) (Nat.le_of_ble_eq_true rfl)
  rw [lg_entry_eq]
  generalize (lg_sl ([.ref (B 0), .int a1, .int a2]) ++ List.replicate (3 - (lg_sl ([.ref (B 0), .int a1, .int a2])).length) Slot.unset).toArray = ls at hl ⊢
  exact jb_X5_mayBe BB.exec BB.bytes hml (findClass_of_methodNamed BB.named) (atoms_spec (ws := wsX5_mayBe) BB.pre) hK hB hN (Nat.le_refl _) (Nat.le_refl _) h (fun v M1 H locs pc ls e1 hz hd hP hS => W.zret BB.exec BB.bytes BB.returns (jl_nar hz) (fun t ht hW => ⟨⟨_, (), rfl, by rw [← e1], by show va_P D vwCl (jy_w cI cT B z.2) t.heap; rw [ht, ← e1]; exact hP⟩, hS.F ht⟩) hS.2.2 hd BB.notSynchronized) hP va_S.rf hl
end
section
variable {p : Program} {l : Launch} {e : Env} {R : Room} {s : State} {m : MethodId} {args : Array Value} {below : List Frame} {meth : Method} {c : Code} {H : Heap} {locs : List Loc} {Q : State → Prop} {ls : Array Slot} {D : va_G} {cI cT : ClassId} {B : Nat → Nat} {M : jl_Mem} {H0 : Heap}
set_option maxHeartbeats 4000000 in
set_option maxRecDepth 100000 in
theorem jb_X5_enough (hx : p.tables.exec = Jvm.exec) (hb : c.code = cX5_enough) (hml : c.maxLocals = 7) (hown : s.vm.findClass RX5 = some m.cls) (hts : ∀ w ∈ wsX5_enough, w.before args s = true) (hK : va_K D vwCl (jy_ty cI cT) s) (hB : jy_inj B) (hN : jy_N s) (hRf : 4 ≤ R.frames) (hRl : 92 ≤ R.locals) {a1 : Int32} {a2 : Int32} {a3 : Int32} {a4 : Int32} {a5 : Int32} {z : Int32 × jl_Mem} (h : jf_X5_enough a1 a2 a3 a4 a5 M = some z)
    (kr : ∀ (v : Int32) (M1 : jl_Mem) (H1 : Heap) (locs1 : List Loc) (pc1 : Nat) (ls1 : Array Slot), (v, M1) = z → decode cX5_enough pc1 = .ok (.ireturn, 1) → va_P D vwCl (jy_w cI cT B M1) H1 → va_S (jy_A B) H0 H1 locs1 → W p l e R s m args below meth c H1 locs1 0 0 Q (F0 m pc1 ls1 [.int v]))
    (hP : va_P D vwCl (jy_w cI cT B M) H) (hS : va_S (jy_A B) H0 H locs) (hl : lv_has ls 7 [(0, .ref (B 0)), (1, .int a1), (2, .int a2), (3, .int a3), (4, .int a4), (5, .int a5)]) : W p l e R s m args below meth c H locs 0 0 Q (F0 m 0 ls []) := by
  unfold jf_X5_enough at h
  have hiX5 : ∀ w ∈ wsX50, w ∈ wsX5_enough := by decide +kernel
  have hf63 := hts (.fieldLink RX5 63 "JudgesListsModel" "things" "I") (by decide +kernel)
  have hf31 := hts (.fieldLink RX5 31 "JudgesListsModel" "depth" "[I") (by decide +kernel)
  refine lv_iload_n hx hb dX5_enough_0 rfl (lv_at hl 1 rfl) ?_
  refine lv_iconst (v := 1) hx hb dX5_enough_1 (by decide) ?_
  refine lv_aload_n hx hb dX5_enough_2 rfl (lv_at hl 0 rfl) ?_
  refine jy_g_X5_things hx hb hts hiX5 hown hK hP hf63 dX5_enough_3 ?_
  obtain ⟨r_6, M_6, hc_6, h⟩ := jl_bnd_o h
  refine jy_callSi (As := [.int a1, .int 1, .int (M 0 1)]) (rest := []) ⟨hx, hb, hml, hown, hts⟩ (jc_X5_in hc_6) (va_cwS 3 hts gX5_enough_X5_in rfl rfl rfl (by decide +kernel) ⟨Nat.le_trans (by decide) hRf, Nat.le_trans (by decide) hRl⟩) hK hB hN hP hS rfl dX5_enough_6 rfl hl.1 (Nat.le_of_ble_eq_true rfl) ⟨Nat.zero_le _, Nat.zero_le _⟩ (fun H locs hP hS => ?_)
  refine lv_if_eq (tgt := 50) hx hb dX5_enough_9 (by decide) (fun c_9 => ?_) (fun c_9 => ?_)
  · have h := jl_ift c_9 h
    refine lv_bipush (v := (-2)) hx hb dX5_enough_50 (by decide) ?_
    exact kr _ _ _ _ _ _ (Option.some.inj h) dX5_enough_52 hP hS
  · have h := jl_iff c_9 h
    refine lv_aload_n hx hb dX5_enough_12 rfl (lv_at hl 0 rfl) ?_
    refine lv_iconst (v := 0) hx hb dX5_enough_13 (by decide) ?_
    refine lv_iload_n hx hb dX5_enough_14 rfl (lv_at hl 2 rfl) ?_
    obtain ⟨r_15, M_15, hc_15, h⟩ := jl_bnd_o h
    refine jy_callVi (As := [.int 0, .int a2]) (rest := []) ⟨hx, hb, hml, hown, hts⟩ (jc_X5_mayBe hc_15) (cwV 2 hts gX5_enough_X5_mayBe rfl rfl rfl (by decide +kernel) ⟨Nat.le_trans (by decide) hRf, Nat.le_trans (by decide) hRl⟩) (jy_rv_X5 hK hP) hK hB hN hP hS rfl dX5_enough_15 rfl hl.1 (Nat.le_of_ble_eq_true rfl) ⟨Nat.zero_le _, Nat.zero_le _⟩ (fun H locs hP hS => ?_)
    refine lv_if_eq (tgt := 50) hx hb dX5_enough_18 (by decide) (fun c_18 => ?_) (fun c_18 => ?_)
    · have h := jl_ift c_18 h
      refine lv_bipush (v := (-2)) hx hb dX5_enough_50 (by decide) ?_
      exact kr _ _ _ _ _ _ (Option.some.inj h) dX5_enough_52 hP hS
    · have h := jl_iff c_18 h
      refine lv_aload_n hx hb dX5_enough_21 rfl (lv_at hl 0 rfl) ?_
      refine lv_iconst (v := 1) hx hb dX5_enough_22 (by decide) ?_
      refine lv_iload_n hx hb dX5_enough_23 rfl (lv_at hl 3 rfl) ?_
      obtain ⟨r_24, M_24, hc_24, h⟩ := jl_bnd_o h
      refine jy_callVi (As := [.int 1, .int a3]) (rest := []) ⟨hx, hb, hml, hown, hts⟩ (jc_X5_mayBe hc_24) (cwV 2 hts gX5_enough_X5_mayBe rfl rfl rfl (by decide +kernel) ⟨Nat.le_trans (by decide) hRf, Nat.le_trans (by decide) hRl⟩) (jy_rv_X5 hK hP) hK hB hN hP hS rfl dX5_enough_24 rfl hl.1 (Nat.le_of_ble_eq_true rfl) ⟨Nat.zero_le _, Nat.zero_le _⟩ (fun H locs hP hS => ?_)
      refine lv_if_eq (tgt := 50) hx hb dX5_enough_27 (by decide) (fun c_27 => ?_) (fun c_27 => ?_)
      · have h := jl_ift c_27 h
        refine lv_bipush (v := (-2)) hx hb dX5_enough_50 (by decide) ?_
        exact kr _ _ _ _ _ _ (Option.some.inj h) dX5_enough_52 hP hS
      · have h := jl_iff c_27 h
        refine lv_aload_n hx hb dX5_enough_30 rfl (lv_at hl 0 rfl) ?_
        refine lv_iconst (v := 2) hx hb dX5_enough_31 (by decide) ?_
        refine lv_iload hx hb dX5_enough_32 (lv_at hl 4 rfl) ?_
        obtain ⟨r_34, M_34, hc_34, h⟩ := jl_bnd_o h
        refine jy_callVi (As := [.int 2, .int a4]) (rest := []) ⟨hx, hb, hml, hown, hts⟩ (jc_X5_mayBe hc_34) (cwV 2 hts gX5_enough_X5_mayBe rfl rfl rfl (by decide +kernel) ⟨Nat.le_trans (by decide) hRf, Nat.le_trans (by decide) hRl⟩) (jy_rv_X5 hK hP) hK hB hN hP hS rfl dX5_enough_34 rfl hl.1 (Nat.le_of_ble_eq_true rfl) ⟨Nat.zero_le _, Nat.zero_le _⟩ (fun H locs hP hS => ?_)
        refine lv_if_eq (tgt := 50) hx hb dX5_enough_37 (by decide) (fun c_37 => ?_) (fun c_37 => ?_)
        · have h := jl_ift c_37 h
          refine lv_bipush (v := (-2)) hx hb dX5_enough_50 (by decide) ?_
          exact kr _ _ _ _ _ _ (Option.some.inj h) dX5_enough_52 hP hS
        · have h := jl_iff c_37 h
          refine lv_aload_n hx hb dX5_enough_40 rfl (lv_at hl 0 rfl) ?_
          refine lv_iconst (v := 3) hx hb dX5_enough_41 (by decide) ?_
          refine lv_iload hx hb dX5_enough_42 (lv_at hl 5 rfl) ?_
          obtain ⟨r_44, M_44, hc_44, h⟩ := jl_bnd_o h
          refine jy_callVi (As := [.int 3, .int a5]) (rest := []) ⟨hx, hb, hml, hown, hts⟩ (jc_X5_mayBe hc_44) (cwV 2 hts gX5_enough_X5_mayBe rfl rfl rfl (by decide +kernel) ⟨Nat.le_trans (by decide) hRf, Nat.le_trans (by decide) hRl⟩) (jy_rv_X5 hK hP) hK hB hN hP hS rfl dX5_enough_44 rfl hl.1 (Nat.le_of_ble_eq_true rfl) ⟨Nat.zero_le _, Nat.zero_le _⟩ (fun H locs hP hS => ?_)
          refine lv_if_ne (tgt := 53) hx hb dX5_enough_47 (by decide) (fun c_47 => ?_) (fun c_47 => ?_)
          · have h := jl_iff c_47 h
            refine lv_aload_n hx hb dX5_enough_53 rfl (lv_at hl 0 rfl) ?_
            obtain ⟨r_54, M_54, hc_54, h⟩ := jl_bnd_o h
            refine jy_callVv (As := []) (rest := []) ⟨hx, hb, hml, hown, hts⟩ (jc_X5_aside hc_54) (cwV 0 hts gX5_enough_X5_aside rfl rfl rfl (by decide +kernel) ⟨Nat.le_trans (by decide) hRf, Nat.le_trans (by decide) hRl⟩) (jy_rv_X5 hK hP) hK hB hN hP hS rfl dX5_enough_54 rfl hl.1 (Nat.le_of_ble_eq_true rfl) ⟨Nat.zero_le _, Nat.zero_le _⟩ (fun H locs hP hS => ?_)
            refine lv_aload_n hx hb dX5_enough_57 rfl (lv_at hl 0 rfl) ?_
            refine jy_g_X5_depth hx hb hts hiX5 hown hK hP hf31 dX5_enough_58 ?_
            refine lv_iconst (v := 0) hx hb dX5_enough_61 (by decide) ?_
            refine lv_iload_n hx hb dX5_enough_62 rfl (lv_at hl 2 rfl) ?_
            obtain ⟨i_63, h⟩ := jl_chk_o h
            refine jy_iastore hx hb hK hB hP hS rfl i_63 dX5_enough_63 (fun M_63 H locs eM_63 hP hS => ?_)
            have h := jl_lt_o h eM_63
            refine lv_aload_n hx hb dX5_enough_64 rfl (lv_at hl 0 rfl) ?_
            refine jy_g_X5_depth hx hb hts hiX5 hown hK hP hf31 dX5_enough_65 ?_
            refine lv_iconst (v := 1) hx hb dX5_enough_68 (by decide) ?_
            refine lv_iload_n hx hb dX5_enough_69 rfl (lv_at hl 3 rfl) ?_
            obtain ⟨i_70, h⟩ := jl_chk_o h
            refine jy_iastore hx hb hK hB hP hS rfl i_70 dX5_enough_70 (fun M_70 H locs eM_70 hP hS => ?_)
            have h := jl_lt_o h eM_70
            refine lv_aload_n hx hb dX5_enough_71 rfl (lv_at hl 0 rfl) ?_
            refine jy_g_X5_depth hx hb hts hiX5 hown hK hP hf31 dX5_enough_72 ?_
            refine lv_iconst (v := 2) hx hb dX5_enough_75 (by decide) ?_
            refine lv_iload hx hb dX5_enough_76 (lv_at hl 4 rfl) ?_
            obtain ⟨i_78, h⟩ := jl_chk_o h
            refine jy_iastore hx hb hK hB hP hS rfl i_78 dX5_enough_78 (fun M_78 H locs eM_78 hP hS => ?_)
            have h := jl_lt_o h eM_78
            refine lv_aload_n hx hb dX5_enough_79 rfl (lv_at hl 0 rfl) ?_
            refine jy_g_X5_depth hx hb hts hiX5 hown hK hP hf31 dX5_enough_80 ?_
            refine lv_iconst (v := 3) hx hb dX5_enough_83 (by decide) ?_
            refine lv_iload hx hb dX5_enough_84 (lv_at hl 5 rfl) ?_
            obtain ⟨i_86, h⟩ := jl_chk_o h
            refine jy_iastore hx hb hK hB hP hS rfl i_86 dX5_enough_86 (fun M_86 H locs eM_86 hP hS => ?_)
            have h := jl_lt_o h eM_86
            refine lv_aload_n hx hb dX5_enough_87 rfl (lv_at hl 0 rfl) ?_
            refine lv_iload_n hx hb dX5_enough_88 rfl (lv_at hl 1 rfl) ?_
            obtain ⟨r_89, M_89, hc_89, h⟩ := jl_bnd_o h
            refine jy_callVi (As := [.int a1]) (rest := []) ⟨hx, hb, hml, hown, hts⟩ (jc_X5_isSure hc_89) (cwV 1 hts gX5_enough_X5_isSure rfl rfl rfl (by decide +kernel) ⟨Nat.le_trans (by decide) hRf, Nat.le_trans (by decide) hRl⟩) (jy_rv_X5 hK hP) hK hB hN hP hS rfl dX5_enough_89 rfl hl.1 (Nat.le_of_ble_eq_true rfl) ⟨Nat.zero_le _, Nat.zero_le _⟩ (fun H locs hP hS => ?_)
            refine lv_topi (fun x6_92 ex6_92 => ?_)
            have h := jl_lt_o h ex6_92
            refine lv_istore (lv' := [(6, .int x6_92), (0, .ref (B 0)), (1, .int a1), (2, .int a2), (3, .int a3), (4, .int a4), (5, .int a5)]) hx hb dX5_enough_92 hl (by decide) rfl (fun ls hl => ?_)
            refine lv_aload_n hx hb dX5_enough_94 rfl (lv_at hl 1 rfl) ?_
            obtain ⟨r_95, M_95, hc_95, h⟩ := jl_bnd_o h
            refine jy_callVv (As := []) (rest := []) ⟨hx, hb, hml, hown, hts⟩ (jc_X5_again hc_95) (cwV 0 hts gX5_enough_X5_again rfl rfl rfl (by decide +kernel) ⟨Nat.le_trans (by decide) hRf, Nat.le_trans (by decide) hRl⟩) (jy_rv_X5 hK hP) hK hB hN hP hS rfl dX5_enough_95 rfl hl.1 (Nat.le_of_ble_eq_true rfl) ⟨Nat.zero_le _, Nat.zero_le _⟩ (fun H locs hP hS => ?_)
            refine lv_iload hx hb dX5_enough_98 (lv_at hl 0 rfl) ?_
            refine lv_if_eq (tgt := 107) hx hb dX5_enough_100 (by decide) (fun c_100 => ?_) (fun c_100 => ?_)
            · have h := jl_ift c_100 h
              refine lv_iconst (v := 0) hx hb dX5_enough_107 (by decide) ?_
              exact kr _ _ _ _ _ _ (Option.some.inj h) dX5_enough_108 hP hS
            · have h := jl_iff c_100 h
              refine lv_iconst (v := 1) hx hb dX5_enough_103 (by decide) ?_
              refine lv_goto (tgt := 108) hx hb dX5_enough_104 (by decide) ?_
              exact kr _ _ _ _ _ _ (Option.some.inj h) dX5_enough_108 hP hS
          · have h := jl_ift c_47 h
            refine lv_bipush (v := (-2)) hx hb dX5_enough_50 (by decide) ?_
            exact kr _ _ _ _ _ _ (Option.some.inj h) dX5_enough_52 hP hS
theorem jc_X5_enough {a1 : Int32} {a2 : Int32} {a3 : Int32} {a4 : Int32} {a5 : Int32} {z : Int32 × jl_Mem} (h : jf_X5_enough a1 a2 a3 a4 a5 M = some z) : Met l yX5_enough wsX5_enough ({ frames := 4, cells := 0, slots := 0, locals := 92 }) (va_Pc [.ref (B 0), .int a1, .int a2, .int a3, .int a4, .int a5] (jy_U D cI cT B M)) (va_Qi (fun (q : Int32) (_ : Unit) => q = z.1) (fun _ t => va_P D vwCl (jy_w cI cT B z.2) t.heap) (jy_A B)) 0 0 (jy_A B) := by
  refine Met.ofW (cc := cX5_enough) (maxL := 7) (ret := (some .int)) (by decide) rfl ?_
  intro p e s m args below meth c s1 BB hml hv
  obtain ⟨rfl, hK, hP, hB, hN⟩ := hv
  have hl := lv_entry ([.ref (B 0), .int a1, .int a2, .int a3, .int a4, .int a5]) (n := 7) (Nat.le_of_ble_eq_true rfl)
  rw [lg_entry_eq]
  generalize (lg_sl ([.ref (B 0), .int a1, .int a2, .int a3, .int a4, .int a5]) ++ List.replicate (7 - (lg_sl ([.ref (B 0), .int a1, .int a2, .int a3, .int a4, .int a5])).length) Slot.unset).toArray = ls at hl ⊢
  exact jb_X5_enough BB.exec BB.bytes hml (findClass_of_methodNamed BB.named) (atoms_spec (ws := wsX5_enough) BB.pre) hK hB hN (Nat.le_refl _) (Nat.le_refl _) h (fun v M1 H locs pc ls e1 hd hP hS => W.iret BB.exec BB.bytes BB.returns (fun t ht hW => ⟨⟨_, (), rfl, by rw [← e1], by show va_P D vwCl (jy_w cI cT B z.2) t.heap; rw [ht, ← e1]; exact hP⟩, hS.F ht⟩) hS.2.2 hd BB.notSynchronized) hP va_S.rf hl
end
section
variable {p : Program} {l : Launch} {e : Env} {R : Room} {s : State} {m : MethodId} {args : Array Value} {below : List Frame} {meth : Method} {c : Code} {H : Heap} {locs : List Loc} {Q : State → Prop} {ls : Array Slot} {D : va_G} {cI cT : ClassId} {B : Nat → Nat} {M : jl_Mem} {H0 : Heap}
set_option maxHeartbeats 4000000 in
set_option maxRecDepth 100000 in
theorem jb_X5_next (hx : p.tables.exec = Jvm.exec) (hb : c.code = cX5_next) (hml : c.maxLocals = 2) (hown : s.vm.findClass RX5 = some m.cls) (hts : ∀ w ∈ wsX5_next, w.before args s = true) (hK : va_K D vwCl (jy_ty cI cT) s) (hB : jy_inj B) (hN : jy_N s) (hRf : 0 ≤ R.frames) (hRl : 0 ≤ R.locals) {z : Int32 × jl_Mem} (h : jf_X5_next M = some z)
    (kr : ∀ (v : Int32) (M1 : jl_Mem) (H1 : Heap) (locs1 : List Loc) (pc1 : Nat) (ls1 : Array Slot), (v, M1) = z → jl_isB v = true → decode cX5_next pc1 = .ok (.ireturn, 1) → va_P D vwCl (jy_w cI cT B M1) H1 → va_S (jy_A B) H0 H1 locs1 → W p l e R s m args below meth c H1 locs1 0 0 Q (F0 m pc1 ls1 [.int v]))
    (hP : va_P D vwCl (jy_w cI cT B M) H) (hS : va_S (jy_A B) H0 H locs) (hl : lv_has ls 2 [(0, .ref (B 0))]) : W p l e R s m args below meth c H locs 0 0 Q (F0 m 0 ls []) := by
  unfold jf_X5_next at h
  have hiX5 : ∀ w ∈ wsX50, w ∈ wsX5_next := by decide +kernel
  have hf70 := hts (.fieldLink RX5 70 "JudgesListsModel" "lists" "I") (by decide +kernel)
  have hf31 := hts (.fieldLink RX5 31 "JudgesListsModel" "depth" "[I") (by decide +kernel)
  have hf25 := hts (.fieldLink RX5 25 "JudgesListsModel" "length" "[I") (by decide +kernel)
  refine lv_aload_n hx hb dX5_next_0 rfl (lv_at hl 0 rfl) ?_
  refine jy_g_X5_lists hx hb hts hiX5 hown hK hP hf70 dX5_next_1 ?_
  refine lv_iconst (v := 1) hx hb dX5_next_4 (by decide) ?_
  refine lv_isub hx hb dX5_next_5 ?_
  refine lv_topi (fun x1_6 ex1_6 => ?_)
  have h := jl_lt_o h ex1_6
  refine lv_istore_n (lv' := [(1, .int x1_6), (0, .ref (B 0))]) hx hb dX5_next_6 rfl hl (by decide) rfl (fun ls hl => ?_)
  have k7 : ∀ (n7 : Nat) (x1L7 : Int32) (ML7 : jl_Mem), jl_wh (fun q => jf_X5_next_L7 q.1 q.2) n7 (x1L7, ML7) = some z → ∀ (H : Heap) (locs : List Loc) (ls : Array Slot), va_P D vwCl (jy_w cI cT B ML7) H → va_S (jy_A B) H0 H locs → lv_has ls 2 [(0, .ref (B 0)), (1, .int x1L7)] → W p l e R s m args below meth c H locs 0 0 Q (F0 m 7 ls []) := by
    intro n7
    induction n7 with
    | zero => exact fun _ _ h => (jl_wh_0 h).elim
    | succ n7 ih7 =>
      intro x1L7 ML7 h H locs ls hP hS hl
      obtain ⟨o7, h, hz7⟩ := jl_wh_s h
      replace h : jf_X5_next_L7 x1L7 ML7 = some o7 := h
      unfold jf_X5_next_L7 at h
      refine lv_iload_n hx hb dX5_next_7 rfl (lv_at hl 1 rfl) ?_
      refine lv_if_lt (tgt := 51) hx hb dX5_next_8 (by decide) (fun c_8 => ?_) (fun c_8 => ?_)
      · have h := jl_ift c_8 h
        have h := jl_ex_o h hz7
        refine lv_iconst (v := 0) hx hb dX5_next_51 (by decide) ?_
        exact kr _ _ _ _ _ _ (Option.some.inj h) (by decide) dX5_next_52 hP hS
      · have h := jl_iff c_8 h
        refine lv_aload_n hx hb dX5_next_11 rfl (lv_at hl 0 rfl) ?_
        refine jy_g_X5_depth hx hb hts hiX5 hown hK hP hf31 dX5_next_12 ?_
        refine lv_iload_n hx hb dX5_next_15 rfl (lv_at hl 1 rfl) ?_
        obtain ⟨i_16, h⟩ := jl_chk_o h
        refine jy_iaload hx hb hK hP rfl i_16 dX5_next_16 ?_
        refine lv_aload_n hx hb dX5_next_17 rfl (lv_at hl 0 rfl) ?_
        refine jy_g_X5_length hx hb hts hiX5 hown hK hP hf25 dX5_next_18 ?_
        refine lv_iload_n hx hb dX5_next_21 rfl (lv_at hl 1 rfl) ?_
        refine jy_iaload hx hb hK hP rfl i_16 dX5_next_22 ?_
        refine lv_icmp_ge (tgt := 38) hx hb dX5_next_23 (by decide) (fun c_23 => ?_) (fun c_23 => ?_)
        · have h := jl_ift c_23 h
          refine lv_aload_n hx hb dX5_next_38 rfl (lv_at hl 0 rfl) ?_
          refine jy_g_X5_depth hx hb hts hiX5 hown hK hP hf31 dX5_next_39 ?_
          refine lv_iload_n hx hb dX5_next_42 rfl (lv_at hl 1 rfl) ?_
          refine lv_iconst (v := 0) hx hb dX5_next_43 (by decide) ?_
          refine jy_iastore hx hb hK hB hP hS rfl i_16 dX5_next_44 (fun M_44 H locs eM_44 hP hS => ?_)
          have h := jl_lt_o h eM_44
          obtain ⟨x1_45, ex1_45⟩ : ∃ y : Int32, y = x1L7 + (-1) := ⟨_, rfl⟩
          have h := jl_lt_o h ex1_45
          refine lv_iinc (v := x1_45) (lv' := [(1, .int x1_45), (0, .ref (B 0))]) hx hb dX5_next_45 hl (k := 1) rfl (by rw [ex1_45]; rfl) (by decide) rfl (fun ls hl => ?_)
          refine lv_goto (tgt := 7) hx hb dX5_next_48 (by decide) ?_
          exact ih7 _ _ (jl_L (Option.some.inj h) hz7) _ _ _ hP hS (lv_sub hl [1, 0] rfl)
        · have h := jl_iff c_23 h
          have h := jl_ex_o h hz7
          refine lv_aload_n hx hb dX5_next_26 rfl (lv_at hl 0 rfl) ?_
          refine jy_g_X5_depth hx hb hts hiX5 hown hK hP hf31 dX5_next_27 ?_
          refine lv_iload_n hx hb dX5_next_30 rfl (lv_at hl 1 rfl) ?_
          refine lv_dup2_11 hx hb dX5_next_31 rfl rfl ?_
          refine jy_iaload hx hb hK hP rfl i_16 dX5_next_32 ?_
          refine lv_iconst (v := 1) hx hb dX5_next_33 (by decide) ?_
          refine lv_iadd hx hb dX5_next_34 ?_
          refine jy_iastore hx hb hK hB hP hS rfl i_16 dX5_next_35 (fun M_35 H locs eM_35 hP hS => ?_)
          have h := jl_lt_o h eM_35
          refine lv_iconst (v := 1) hx hb dX5_next_36 (by decide) ?_
          exact kr _ _ _ _ _ _ (Option.some.inj h) (by decide) dX5_next_37 hP hS
  exact k7 _ _ _ h _ _ _ hP hS (lv_sub hl [1, 0] rfl)
theorem jc_X5_next {z : Int32 × jl_Mem} (h : jf_X5_next M = some z) : Met l yX5_next wsX5_next ({ frames := 0, cells := 0, slots := 0, locals := 0 }) (va_Pc [.ref (B 0)] (jy_U D cI cT B M)) (va_Qi (fun (q : Int32) (_ : Unit) => q = z.1) (fun _ t => va_P D vwCl (jy_w cI cT B z.2) t.heap) (jy_A B)) 0 0 (jy_A B) := by
  refine Met.ofW (cc := cX5_next) (maxL := 2) (ret := (some .boolean)) (by decide) rfl ?_
  intro p e s m args below meth c s1 BB hml hv
  obtain ⟨rfl, hK, hP, hB, hN⟩ := hv
  have hl := lv_entry ([.ref (B 0)]) (n := 2) (Nat.le_of_ble_eq_true rfl)
  rw [lg_entry_eq]
  generalize (lg_sl ([.ref (B 0)]) ++ List.replicate (2 - (lg_sl ([.ref (B 0)])).length) Slot.unset).toArray = ls at hl ⊢
  exact jb_X5_next BB.exec BB.bytes hml (findClass_of_methodNamed BB.named) (atoms_spec (ws := wsX5_next) BB.pre) hK hB hN (Nat.le_refl _) (Nat.le_refl _) h (fun v M1 H locs pc ls e1 hz hd hP hS => W.zret BB.exec BB.bytes BB.returns (jl_nar hz) (fun t ht hW => ⟨⟨_, (), rfl, by rw [← e1], by show va_P D vwCl (jy_w cI cT B z.2) t.heap; rw [ht, ← e1]; exact hP⟩, hS.F ht⟩) hS.2.2 hd BB.notSynchronized) hP va_S.rf hl
end
section
variable {p : Program} {l : Launch} {e : Env} {R : Room} {s : State} {m : MethodId} {args : Array Value} {below : List Frame} {meth : Method} {c : Code} {H : Heap} {locs : List Loc} {Q : State → Prop} {ls : Array Slot} {D : va_G} {cI cT : ClassId} {B : Nat → Nat} {M : jl_Mem} {H0 : Heap}
set_option maxHeartbeats 4000000 in
set_option maxRecDepth 100000 in
theorem jb_X5_least (hx : p.tables.exec = Jvm.exec) (hb : c.code = cX5_least) (hml : c.maxLocals = 7) (hown : s.vm.findClass RX5 = some m.cls) (hts : ∀ w ∈ wsX5_least, w.before args s = true) (hK : va_K D vwCl (jy_ty cI cT) s) (hB : jy_inj B) (hN : jy_N s) (hRf : 4 ≤ R.frames) (hRl : 92 ≤ R.locals) {a1 : Int32} {z : Int32 × jl_Mem} (h : jf_X5_least a1 M = some z)
    (kr : ∀ (v : Int32) (M1 : jl_Mem) (H1 : Heap) (locs1 : List Loc) (pc1 : Nat) (ls1 : Array Slot), (v, M1) = z → decode cX5_least pc1 = .ok (.ireturn, 1) → va_P D vwCl (jy_w cI cT B M1) H1 → va_S (jy_A B) H0 H1 locs1 → W p l e R s m args below meth c H1 locs1 0 0 Q (F0 m pc1 ls1 [.int v]))
    (hP : va_P D vwCl (jy_w cI cT B M) H) (hS : va_S (jy_A B) H0 H locs) (hl : lv_has ls 7 [(0, .ref (B 0)), (1, .int a1)]) : W p l e R s m args below meth c H locs 0 0 Q (F0 m 0 ls []) := by
  unfold jf_X5_least at h
  have hiX5 : ∀ w ∈ wsX50, w ∈ wsX5_least := by decide +kernel
  have hf63 := hts (.fieldLink RX5 63 "JudgesListsModel" "things" "I") (by decide +kernel)
  have hf70 := hts (.fieldLink RX5 70 "JudgesListsModel" "lists" "I") (by decide +kernel)
  have hf56 := hts (.fieldLink RX5 56 "JudgesListsModel" "leastDepths" "[I") (by decide +kernel)
  have hf31 := hts (.fieldLink RX5 31 "JudgesListsModel" "depth" "[I") (by decide +kernel)
  have hf13 := hts (.fieldLink RX5 13 "JudgesListsModel" "down" "[I") (by decide +kernel)
  have hf25 := hts (.fieldLink RX5 25 "JudgesListsModel" "length" "[I") (by decide +kernel)
  refine lv_iload_n hx hb dX5_least_0 rfl (lv_at hl 1 rfl) ?_
  refine lv_iconst (v := 1) hx hb dX5_least_1 (by decide) ?_
  refine lv_aload_n hx hb dX5_least_2 rfl (lv_at hl 0 rfl) ?_
  refine jy_g_X5_things hx hb hts hiX5 hown hK hP hf63 dX5_least_3 ?_
  obtain ⟨r_6, M_6, hc_6, h⟩ := jl_bnd_o h
  refine jy_callSi (As := [.int a1, .int 1, .int (M 0 1)]) (rest := []) ⟨hx, hb, hml, hown, hts⟩ (jc_X5_in hc_6) (va_cwS 3 hts gX5_least_X5_in rfl rfl rfl (by decide +kernel) ⟨Nat.le_trans (by decide) hRf, Nat.le_trans (by decide) hRl⟩) hK hB hN hP hS rfl dX5_least_6 rfl hl.1 (Nat.le_of_ble_eq_true rfl) ⟨Nat.zero_le _, Nat.zero_le _⟩ (fun H locs hP hS => ?_)
  refine lv_if_ne (tgt := 15) hx hb dX5_least_9 (by decide) (fun c_9 => ?_) (fun c_9 => ?_)
  · have h := jl_iff c_9 h
    refine lv_iconst (v := 1) hx hb dX5_least_15 (by decide) ?_
    refine lv_topi (fun x2_16 ex2_16 => ?_)
    have h := jl_lt_o h ex2_16
    refine lv_istore_n (lv' := [(2, .int x2_16), (0, .ref (B 0)), (1, .int a1)]) hx hb dX5_least_16 rfl hl (by decide) rfl (fun ls hl => ?_)
    refine lv_iconst (v := 0) hx hb dX5_least_17 (by decide) ?_
    refine lv_topi (fun x3_18 ex3_18 => ?_)
    have h := jl_lt_o h ex3_18
    refine lv_istore_n (lv' := [(3, .int x3_18), (2, .int x2_16), (0, .ref (B 0)), (1, .int a1)]) hx hb dX5_least_18 rfl hl (by decide) rfl (fun ls hl => ?_)
    have k19 : ∀ (n19 : Nat) (x2L19 : Int32) (x3L19 : Int32) (ML19 : jl_Mem), jl_wh (fun q => jf_X5_least_L19 a1 q.1 q.2.1 q.2.2) n19 (x2L19, x3L19, ML19) = some z → ∀ (H : Heap) (locs : List Loc) (ls : Array Slot), va_P D vwCl (jy_w cI cT B ML19) H → va_S (jy_A B) H0 H locs → lv_has ls 7 [(0, .ref (B 0)), (1, .int a1), (2, .int x2L19), (3, .int x3L19)] → W p l e R s m args below meth c H locs 0 0 Q (F0 m 19 ls []) := by
      intro n19
      induction n19 with
      | zero => exact fun _ _ _ h => (jl_wh_0 h).elim
      | succ n19 ih19 =>
        intro x2L19 x3L19 ML19 h H locs ls hP hS hl
        obtain ⟨o19, h, hz19⟩ := jl_wh_s h
        replace h : jf_X5_least_L19 a1 x2L19 x3L19 ML19 = some o19 := h
        unfold jf_X5_least_L19 at h
        refine lv_iload_n hx hb dX5_least_19 rfl (lv_at hl 3 rfl) ?_
        refine lv_aload_n hx hb dX5_least_20 rfl (lv_at hl 0 rfl) ?_
        refine jy_g_X5_lists hx hb hts hiX5 hown hK hP hf70 dX5_least_21 ?_
        refine lv_icmp_ge (tgt := 44) hx hb dX5_least_24 (by decide) (fun c_24 => ?_) (fun c_24 => ?_)
        · have h := jl_ift c_24 h
          have h := jl_ex_o h hz19
          refine lv_iload_n hx hb dX5_least_44 rfl (lv_at hl 2 rfl) ?_
          refine lv_sipush (v := 500) hx hb dX5_least_45 (by decide) ?_
          refine lv_icmp_le (tgt := 54) hx hb dX5_least_48 (by decide) (fun c_48 => ?_) (fun c_48 => ?_)
          · have h := jl_ift c_48 h
            refine lv_aload_n hx hb dX5_least_54 rfl (lv_at hl 0 rfl) ?_
            obtain ⟨r_55, M_55, hc_55, h⟩ := jl_bnd_o h
            refine jy_callVv (As := []) (rest := []) ⟨hx, hb, hml, hown, hts⟩ (jc_X5_aside hc_55) (cwV 0 hts gX5_least_X5_aside rfl rfl rfl (by decide +kernel) ⟨Nat.le_trans (by decide) hRf, Nat.le_trans (by decide) hRl⟩) (jy_rv_X5 hK hP) hK hB hN hP hS rfl dX5_least_55 rfl hl.1 (Nat.le_of_ble_eq_true rfl) ⟨Nat.zero_le _, Nat.zero_le _⟩ (fun H locs hP hS => ?_)
            refine lv_iconst (v := (-1)) hx hb dX5_least_58 (by decide) ?_
            refine lv_topi (fun x3_59 ex3_59 => ?_)
            have h := jl_lt_o h ex3_59
            refine lv_istore_n (lv' := [(3, .int x3_59), (0, .ref (B 0)), (1, .int a1), (2, .int x2L19)]) hx hb dX5_least_59 rfl hl (by decide) rfl (fun ls hl => ?_)
            refine lv_iconst (v := 1) hx hb dX5_least_60 (by decide) ?_
            refine lv_topi (fun x4_61 ex4_61 => ?_)
            have h := jl_lt_o h ex4_61
            refine lv_istore (lv' := [(4, .int x4_61), (3, .int x3_59), (0, .ref (B 0)), (1, .int a1), (2, .int x2L19)]) hx hb dX5_least_61 hl (by decide) rfl (fun ls hl => ?_)
            have k63 : ∀ (n63 : Nat) (x3L63 : Int32) (x4L63 : Int32) (ML63 : jl_Mem), jl_wh (fun q => jf_X5_least_L63 a1 q.1 q.2.1 q.2.2) n63 (x3L63, x4L63, ML63) = some z → ∀ (H : Heap) (locs : List Loc) (ls : Array Slot), va_P D vwCl (jy_w cI cT B ML63) H → va_S (jy_A B) H0 H locs → lv_has ls 7 [(0, .ref (B 0)), (1, .int a1), (3, .int x3L63), (4, .int x4L63)] → W p l e R s m args below meth c H locs 0 0 Q (F0 m 63 ls []) := by
              intro n63
              induction n63 with
              | zero => exact fun _ _ _ h => (jl_wh_0 h).elim
              | succ n63 ih63 =>
                intro x3L63 x4L63 ML63 h H locs ls hP hS hl
                obtain ⟨o63, h, hz63⟩ := jl_wh_s h
                replace h : jf_X5_least_L63 a1 x3L63 x4L63 ML63 = some o63 := h
                unfold jf_X5_least_L63 at h
                refine lv_iload hx hb dX5_least_63 (lv_at hl 3 rfl) ?_
                refine lv_if_eq (tgt := 169) hx hb dX5_least_65 (by decide) (fun c_65 => ?_) (fun c_65 => ?_)
                · have h := jl_ift c_65 h
                  have h := jl_ex_o h hz63
                  refine lv_aload_n hx hb dX5_least_169 rfl (lv_at hl 0 rfl) ?_
                  obtain ⟨r_170, M_170, hc_170, h⟩ := jl_bnd_o h
                  refine jy_callVv (As := []) (rest := []) ⟨hx, hb, hml, hown, hts⟩ (jc_X5_again hc_170) (cwV 0 hts gX5_least_X5_again rfl rfl rfl (by decide +kernel) ⟨Nat.le_trans (by decide) hRf, Nat.le_trans (by decide) hRl⟩) (jy_rv_X5 hK hP) hK hB hN hP hS rfl dX5_least_170 rfl hl.1 (Nat.le_of_ble_eq_true rfl) ⟨Nat.zero_le _, Nat.zero_le _⟩ (fun H locs hP hS => ?_)
                  refine lv_iload_n hx hb dX5_least_173 rfl (lv_at hl 2 rfl) ?_
                  exact kr _ _ _ _ _ _ (Option.some.inj h) dX5_least_174 hP hS
                · have h := jl_iff c_65 h
                  refine lv_iconst (v := 0) hx hb dX5_least_68 (by decide) ?_
                  refine lv_topi (fun x5_69 ex5_69 => ?_)
                  have h := jl_lt_o h ex5_69
                  refine lv_istore (lv' := [(5, .int x5_69), (0, .ref (B 0)), (1, .int a1), (3, .int x3L63), (4, .int x4L63)]) hx hb dX5_least_69 hl (by decide) rfl (fun ls hl => ?_)
                  refine lv_iconst (v := 0) hx hb dX5_least_71 (by decide) ?_
                  refine lv_topi (fun x6_72 ex6_72 => ?_)
                  have h := jl_lt_o h ex6_72
                  refine lv_istore (lv' := [(6, .int x6_72), (5, .int x5_69), (0, .ref (B 0)), (1, .int a1), (3, .int x3L63), (4, .int x4L63)]) hx hb dX5_least_72 hl (by decide) rfl (fun ls hl => ?_)
                  have k74 : ∀ (n74 : Nat) (x5L74 : Int32) (x6L74 : Int32) (ML74 : jl_Mem), jl_wh (fun q => jf_X5_least_L74 a1 x3L63 q.1 q.2.1 q.2.2) n74 (x5L74, x6L74, ML74) = some o63 → ∀ (H : Heap) (locs : List Loc) (ls : Array Slot), va_P D vwCl (jy_w cI cT B ML74) H → va_S (jy_A B) H0 H locs → lv_has ls 7 [(0, .ref (B 0)), (1, .int a1), (3, .int x3L63), (5, .int x5L74), (6, .int x6L74)] → W p l e R s m args below meth c H locs 0 0 Q (F0 m 74 ls []) := by
                    intro n74
                    induction n74 with
                    | zero => exact fun _ _ _ h => (jl_wh_0 h).elim
                    | succ n74 ih74 =>
                      intro x5L74 x6L74 ML74 h H locs ls hP hS hl
                      obtain ⟨o74, h, hz74⟩ := jl_wh_s h
                      replace h : jf_X5_least_L74 a1 x3L63 x5L74 x6L74 ML74 = some o74 := h
                      unfold jf_X5_least_L74 at h
                      refine lv_iload hx hb dX5_least_74 (lv_at hl 4 rfl) ?_
                      refine lv_aload_n hx hb dX5_least_76 rfl (lv_at hl 0 rfl) ?_
                      refine jy_g_X5_lists hx hb hts hiX5 hown hK hP hf70 dX5_least_77 ?_
                      refine lv_icmp_ge (tgt := 109) hx hb dX5_least_80 (by decide) (fun c_80 => ?_) (fun c_80 => ?_)
                      · have h := jl_ift c_80 h
                        have h := jl_ex_o h hz74
                        refine lv_iload_n hx hb dX5_least_109 rfl (lv_at hl 2 rfl) ?_
                        refine lv_iconst (v := (-1)) hx hb dX5_least_110 (by decide) ?_
                        refine lv_icmp_eq (tgt := 120) hx hb dX5_least_111 (by decide) (fun c_111 => ?_) (fun c_111 => ?_)
                        · have h := jl_ift c_111 h
                          refine lv_aload_n hx hb dX5_least_120 rfl (lv_at hl 0 rfl) ?_
                          refine lv_iload_n hx hb dX5_least_121 rfl (lv_at hl 1 rfl) ?_
                          obtain ⟨r_122, M_122, hc_122, h⟩ := jl_bnd_o h
                          refine jy_callVi (As := [.int a1]) (rest := []) ⟨hx, hb, hml, hown, hts⟩ (jc_X5_isSure hc_122) (cwV 1 hts gX5_least_X5_isSure rfl rfl rfl (by decide +kernel) ⟨Nat.le_trans (by decide) hRf, Nat.le_trans (by decide) hRl⟩) (jy_rv_X5 hK hP) hK hB hN hP hS rfl dX5_least_122 rfl hl.1 (Nat.le_of_ble_eq_true rfl) ⟨Nat.zero_le _, Nat.zero_le _⟩ (fun H locs hP hS => ?_)
                          refine lv_if_eq (tgt := 160) hx hb dX5_least_125 (by decide) (fun c_125 => ?_) (fun c_125 => ?_)
                          · have h := jl_ift c_125 h
                            refine lv_aload_n hx hb dX5_least_160 rfl (lv_at hl 0 rfl) ?_
                            obtain ⟨r_161, M_161, hc_161, h⟩ := jl_bnd_o h
                            refine jy_callVi (As := []) (rest := []) ⟨hx, hb, hml, hown, hts⟩ (jc_X5_next hc_161) (cwV 0 hts gX5_least_X5_next rfl rfl rfl (by decide +kernel) ⟨Nat.le_trans (by decide) hRf, Nat.le_trans (by decide) hRl⟩) (jy_rv_X5 hK hP) hK hB hN hP hS rfl dX5_least_161 rfl hl.1 (Nat.le_of_ble_eq_true rfl) ⟨Nat.zero_le _, Nat.zero_le _⟩ (fun H locs hP hS => ?_)
                            refine lv_topi (fun x4_164 ex4_164 => ?_)
                            have h := jl_lt_o h ex4_164
                            refine lv_istore (lv' := [(4, .int x4_164), (0, .ref (B 0)), (1, .int a1), (3, .int x3L63), (5, .int x5L74), (6, .int x6L74)]) hx hb dX5_least_164 hl (by decide) rfl (fun ls hl => ?_)
                            refine lv_goto (tgt := 63) hx hb dX5_least_166 (by decide) ?_
                            exact ih63 _ _ _ (jl_L (Option.some.inj h) hz63) _ _ _ hP hS (lv_sub hl [1, 2, 3, 0] rfl)
                          · have h := jl_iff c_125 h
                            refine lv_iload hx hb dX5_least_128 (lv_at hl 3 rfl) ?_
                            refine lv_topi (fun x3_130 ex3_130 => ?_)
                            have h := jl_lt_o h ex3_130
                            refine lv_istore_n (lv' := [(3, .int x3_130), (0, .ref (B 0)), (1, .int a1), (5, .int x5L74), (6, .int x6L74)]) hx hb dX5_least_130 rfl hl (by decide) rfl (fun ls hl => ?_)
                            refine lv_iconst (v := 0) hx hb dX5_least_131 (by decide) ?_
                            refine lv_topi (fun x6_132 ex6_132 => ?_)
                            have h := jl_lt_o h ex6_132
                            refine lv_istore (lv' := [(6, .int x6_132), (3, .int x3_130), (0, .ref (B 0)), (1, .int a1), (5, .int x5L74)]) hx hb dX5_least_132 hl (by decide) rfl (fun ls hl => ?_)
                            have k134 : ∀ (n134 : Nat) (x6L134 : Int32) (ML134 : jl_Mem), jl_wh (fun q => jf_X5_least_L134 a1 x3_130 q.1 q.2) n134 (x6L134, ML134) = some o63 → ∀ (H : Heap) (locs : List Loc) (ls : Array Slot), va_P D vwCl (jy_w cI cT B ML134) H → va_S (jy_A B) H0 H locs → lv_has ls 7 [(0, .ref (B 0)), (1, .int a1), (3, .int x3_130), (6, .int x6L134)] → W p l e R s m args below meth c H locs 0 0 Q (F0 m 134 ls []) := by
                              intro n134
                              induction n134 with
                              | zero => exact fun _ _ h => (jl_wh_0 h).elim
                              | succ n134 ih134 =>
                                intro x6L134 ML134 h H locs ls hP hS hl
                                obtain ⟨o134, h, hz134⟩ := jl_wh_s h
                                replace h : jf_X5_least_L134 a1 x3_130 x6L134 ML134 = some o134 := h
                                unfold jf_X5_least_L134 at h
                                refine lv_iload hx hb dX5_least_134 (lv_at hl 3 rfl) ?_
                                refine lv_iconst (v := 4) hx hb dX5_least_136 (by decide) ?_
                                refine lv_icmp_ge (tgt := 160) hx hb dX5_least_137 (by decide) (fun c_137 => ?_) (fun c_137 => ?_)
                                · have h := jl_ift c_137 h
                                  have h := jl_ex_o h hz134
                                  refine lv_aload_n hx hb dX5_least_160 rfl (lv_at hl 0 rfl) ?_
                                  obtain ⟨r_161, M_161, hc_161, h⟩ := jl_bnd_o h
                                  refine jy_callVi (As := []) (rest := []) ⟨hx, hb, hml, hown, hts⟩ (jc_X5_next hc_161) (cwV 0 hts gX5_least_X5_next rfl rfl rfl (by decide +kernel) ⟨Nat.le_trans (by decide) hRf, Nat.le_trans (by decide) hRl⟩) (jy_rv_X5 hK hP) hK hB hN hP hS rfl dX5_least_161 rfl hl.1 (Nat.le_of_ble_eq_true rfl) ⟨Nat.zero_le _, Nat.zero_le _⟩ (fun H locs hP hS => ?_)
                                  refine lv_topi (fun x4_164 ex4_164 => ?_)
                                  have h := jl_lt_o h ex4_164
                                  refine lv_istore (lv' := [(4, .int x4_164), (0, .ref (B 0)), (1, .int a1), (3, .int x3_130), (6, .int x6L134)]) hx hb dX5_least_164 hl (by decide) rfl (fun ls hl => ?_)
                                  refine lv_goto (tgt := 63) hx hb dX5_least_166 (by decide) ?_
                                  exact ih63 _ _ _ (jl_L (Option.some.inj h) hz63) _ _ _ hP hS (lv_sub hl [1, 2, 3, 0] rfl)
                                · have h := jl_iff c_137 h
                                  refine lv_aload_n hx hb dX5_least_140 rfl (lv_at hl 0 rfl) ?_
                                  refine jy_g_X5_leastDepths hx hb hts hiX5 hown hK hP hf56 dX5_least_141 ?_
                                  refine lv_iload hx hb dX5_least_144 (lv_at hl 3 rfl) ?_
                                  refine lv_aload_n hx hb dX5_least_146 rfl (lv_at hl 0 rfl) ?_
                                  refine jy_g_X5_depth hx hb hts hiX5 hown hK hP hf31 dX5_least_147 ?_
                                  refine lv_iload hx hb dX5_least_150 (lv_at hl 3 rfl) ?_
                                  obtain ⟨i_152, h⟩ := jl_chk_o h
                                  refine jy_iaload hx hb hK hP rfl i_152 dX5_least_152 ?_
                                  refine jy_iastore hx hb hK hB hP hS rfl i_152 dX5_least_153 (fun M_153 H locs eM_153 hP hS => ?_)
                                  have h := jl_lt_o h eM_153
                                  obtain ⟨x6_154, ex6_154⟩ : ∃ y : Int32, y = x6L134 + 1 := ⟨_, rfl⟩
                                  have h := jl_lt_o h ex6_154
                                  refine lv_iinc (v := x6_154) (lv' := [(6, .int x6_154), (0, .ref (B 0)), (1, .int a1), (3, .int x3_130)]) hx hb dX5_least_154 hl (k := 3) rfl (by rw [ex6_154]; rfl) (by decide) rfl (fun ls hl => ?_)
                                  refine lv_goto (tgt := 134) hx hb dX5_least_157 (by decide) ?_
                                  exact ih134 _ _ (jl_L (Option.some.inj h) hz134) _ _ _ hP hS (lv_sub hl [1, 2, 3, 0] rfl)
                            exact k134 _ _ _ h _ _ _ hP hS (lv_sub hl [2, 3, 1, 0] rfl)
                        · have h := jl_iff c_111 h
                          refine lv_iload hx hb dX5_least_114 (lv_at hl 3 rfl) ?_
                          refine lv_iload_n hx hb dX5_least_116 rfl (lv_at hl 2 rfl) ?_
                          refine lv_icmp_ge (tgt := 160) hx hb dX5_least_117 (by decide) (fun c_117 => ?_) (fun c_117 => ?_)
                          · have h := jl_ift c_117 h
                            refine lv_aload_n hx hb dX5_least_160 rfl (lv_at hl 0 rfl) ?_
                            obtain ⟨r_161, M_161, hc_161, h⟩ := jl_bnd_o h
                            refine jy_callVi (As := []) (rest := []) ⟨hx, hb, hml, hown, hts⟩ (jc_X5_next hc_161) (cwV 0 hts gX5_least_X5_next rfl rfl rfl (by decide +kernel) ⟨Nat.le_trans (by decide) hRf, Nat.le_trans (by decide) hRl⟩) (jy_rv_X5 hK hP) hK hB hN hP hS rfl dX5_least_161 rfl hl.1 (Nat.le_of_ble_eq_true rfl) ⟨Nat.zero_le _, Nat.zero_le _⟩ (fun H locs hP hS => ?_)
                            refine lv_topi (fun x4_164 ex4_164 => ?_)
                            have h := jl_lt_o h ex4_164
                            refine lv_istore (lv' := [(4, .int x4_164), (0, .ref (B 0)), (1, .int a1), (3, .int x3L63), (5, .int x5L74), (6, .int x6L74)]) hx hb dX5_least_164 hl (by decide) rfl (fun ls hl => ?_)
                            refine lv_goto (tgt := 63) hx hb dX5_least_166 (by decide) ?_
                            exact ih63 _ _ _ (jl_L (Option.some.inj h) hz63) _ _ _ hP hS (lv_sub hl [1, 2, 3, 0] rfl)
                          · have h := jl_iff c_117 h
                            refine lv_aload_n hx hb dX5_least_120 rfl (lv_at hl 0 rfl) ?_
                            refine lv_iload_n hx hb dX5_least_121 rfl (lv_at hl 1 rfl) ?_
                            obtain ⟨r_122, M_122, hc_122, h⟩ := jl_bnd_o h
                            refine jy_callVi (As := [.int a1]) (rest := []) ⟨hx, hb, hml, hown, hts⟩ (jc_X5_isSure hc_122) (cwV 1 hts gX5_least_X5_isSure rfl rfl rfl (by decide +kernel) ⟨Nat.le_trans (by decide) hRf, Nat.le_trans (by decide) hRl⟩) (jy_rv_X5 hK hP) hK hB hN hP hS rfl dX5_least_122 rfl hl.1 (Nat.le_of_ble_eq_true rfl) ⟨Nat.zero_le _, Nat.zero_le _⟩ (fun H locs hP hS => ?_)
                            refine lv_if_eq (tgt := 160) hx hb dX5_least_125 (by decide) (fun c_125 => ?_) (fun c_125 => ?_)
                            · have h := jl_ift c_125 h
                              refine lv_aload_n hx hb dX5_least_160 rfl (lv_at hl 0 rfl) ?_
                              obtain ⟨r_161, M_161, hc_161, h⟩ := jl_bnd_o h
                              refine jy_callVi (As := []) (rest := []) ⟨hx, hb, hml, hown, hts⟩ (jc_X5_next hc_161) (cwV 0 hts gX5_least_X5_next rfl rfl rfl (by decide +kernel) ⟨Nat.le_trans (by decide) hRf, Nat.le_trans (by decide) hRl⟩) (jy_rv_X5 hK hP) hK hB hN hP hS rfl dX5_least_161 rfl hl.1 (Nat.le_of_ble_eq_true rfl) ⟨Nat.zero_le _, Nat.zero_le _⟩ (fun H locs hP hS => ?_)
                              refine lv_topi (fun x4_164 ex4_164 => ?_)
                              have h := jl_lt_o h ex4_164
                              refine lv_istore (lv' := [(4, .int x4_164), (0, .ref (B 0)), (1, .int a1), (3, .int x3L63), (5, .int x5L74), (6, .int x6L74)]) hx hb dX5_least_164 hl (by decide) rfl (fun ls hl => ?_)
                              refine lv_goto (tgt := 63) hx hb dX5_least_166 (by decide) ?_
                              exact ih63 _ _ _ (jl_L (Option.some.inj h) hz63) _ _ _ hP hS (lv_sub hl [1, 2, 3, 0] rfl)
                            · have h := jl_iff c_125 h
                              refine lv_iload hx hb dX5_least_128 (lv_at hl 3 rfl) ?_
                              refine lv_topi (fun x3_130 ex3_130 => ?_)
                              have h := jl_lt_o h ex3_130
                              refine lv_istore_n (lv' := [(3, .int x3_130), (0, .ref (B 0)), (1, .int a1), (5, .int x5L74), (6, .int x6L74)]) hx hb dX5_least_130 rfl hl (by decide) rfl (fun ls hl => ?_)
                              refine lv_iconst (v := 0) hx hb dX5_least_131 (by decide) ?_
                              refine lv_topi (fun x6_132 ex6_132 => ?_)
                              have h := jl_lt_o h ex6_132
                              refine lv_istore (lv' := [(6, .int x6_132), (3, .int x3_130), (0, .ref (B 0)), (1, .int a1), (5, .int x5L74)]) hx hb dX5_least_132 hl (by decide) rfl (fun ls hl => ?_)
                              have k134 : ∀ (n134 : Nat) (x6L134 : Int32) (ML134 : jl_Mem), jl_wh (fun q => jf_X5_least_L134 a1 x3_130 q.1 q.2) n134 (x6L134, ML134) = some o63 → ∀ (H : Heap) (locs : List Loc) (ls : Array Slot), va_P D vwCl (jy_w cI cT B ML134) H → va_S (jy_A B) H0 H locs → lv_has ls 7 [(0, .ref (B 0)), (1, .int a1), (3, .int x3_130), (6, .int x6L134)] → W p l e R s m args below meth c H locs 0 0 Q (F0 m 134 ls []) := by
                                intro n134
                                induction n134 with
                                | zero => exact fun _ _ h => (jl_wh_0 h).elim
                                | succ n134 ih134 =>
                                  intro x6L134 ML134 h H locs ls hP hS hl
                                  obtain ⟨o134, h, hz134⟩ := jl_wh_s h
                                  replace h : jf_X5_least_L134 a1 x3_130 x6L134 ML134 = some o134 := h
                                  unfold jf_X5_least_L134 at h
                                  refine lv_iload hx hb dX5_least_134 (lv_at hl 3 rfl) ?_
                                  refine lv_iconst (v := 4) hx hb dX5_least_136 (by decide) ?_
                                  refine lv_icmp_ge (tgt := 160) hx hb dX5_least_137 (by decide) (fun c_137 => ?_) (fun c_137 => ?_)
                                  · have h := jl_ift c_137 h
                                    have h := jl_ex_o h hz134
                                    refine lv_aload_n hx hb dX5_least_160 rfl (lv_at hl 0 rfl) ?_
                                    obtain ⟨r_161, M_161, hc_161, h⟩ := jl_bnd_o h
                                    refine jy_callVi (As := []) (rest := []) ⟨hx, hb, hml, hown, hts⟩ (jc_X5_next hc_161) (cwV 0 hts gX5_least_X5_next rfl rfl rfl (by decide +kernel) ⟨Nat.le_trans (by decide) hRf, Nat.le_trans (by decide) hRl⟩) (jy_rv_X5 hK hP) hK hB hN hP hS rfl dX5_least_161 rfl hl.1 (Nat.le_of_ble_eq_true rfl) ⟨Nat.zero_le _, Nat.zero_le _⟩ (fun H locs hP hS => ?_)
                                    refine lv_topi (fun x4_164 ex4_164 => ?_)
                                    have h := jl_lt_o h ex4_164
                                    refine lv_istore (lv' := [(4, .int x4_164), (0, .ref (B 0)), (1, .int a1), (3, .int x3_130), (6, .int x6L134)]) hx hb dX5_least_164 hl (by decide) rfl (fun ls hl => ?_)
                                    refine lv_goto (tgt := 63) hx hb dX5_least_166 (by decide) ?_
                                    exact ih63 _ _ _ (jl_L (Option.some.inj h) hz63) _ _ _ hP hS (lv_sub hl [1, 2, 3, 0] rfl)
                                  · have h := jl_iff c_137 h
                                    refine lv_aload_n hx hb dX5_least_140 rfl (lv_at hl 0 rfl) ?_
                                    refine jy_g_X5_leastDepths hx hb hts hiX5 hown hK hP hf56 dX5_least_141 ?_
                                    refine lv_iload hx hb dX5_least_144 (lv_at hl 3 rfl) ?_
                                    refine lv_aload_n hx hb dX5_least_146 rfl (lv_at hl 0 rfl) ?_
                                    refine jy_g_X5_depth hx hb hts hiX5 hown hK hP hf31 dX5_least_147 ?_
                                    refine lv_iload hx hb dX5_least_150 (lv_at hl 3 rfl) ?_
                                    obtain ⟨i_152, h⟩ := jl_chk_o h
                                    refine jy_iaload hx hb hK hP rfl i_152 dX5_least_152 ?_
                                    refine jy_iastore hx hb hK hB hP hS rfl i_152 dX5_least_153 (fun M_153 H locs eM_153 hP hS => ?_)
                                    have h := jl_lt_o h eM_153
                                    obtain ⟨x6_154, ex6_154⟩ : ∃ y : Int32, y = x6L134 + 1 := ⟨_, rfl⟩
                                    have h := jl_lt_o h ex6_154
                                    refine lv_iinc (v := x6_154) (lv' := [(6, .int x6_154), (0, .ref (B 0)), (1, .int a1), (3, .int x3_130)]) hx hb dX5_least_154 hl (k := 3) rfl (by rw [ex6_154]; rfl) (by decide) rfl (fun ls hl => ?_)
                                    refine lv_goto (tgt := 134) hx hb dX5_least_157 (by decide) ?_
                                    exact ih134 _ _ (jl_L (Option.some.inj h) hz134) _ _ _ hP hS (lv_sub hl [1, 2, 3, 0] rfl)
                              exact k134 _ _ _ h _ _ _ hP hS (lv_sub hl [2, 3, 1, 0] rfl)
                      · have h := jl_iff c_80 h
                        refine lv_iload hx hb dX5_least_83 (lv_at hl 3 rfl) ?_
                        refine lv_aload_n hx hb dX5_least_85 rfl (lv_at hl 0 rfl) ?_
                        refine jy_g_X5_down hx hb hts hiX5 hown hK hP hf13 dX5_least_86 ?_
                        refine lv_iload hx hb dX5_least_89 (lv_at hl 4 rfl) ?_
                        obtain ⟨i_91, h⟩ := jl_chk_o h
                        refine jy_iaload hx hb hK hP rfl i_91 dX5_least_91 ?_
                        refine lv_aload_n hx hb dX5_least_92 rfl (lv_at hl 0 rfl) ?_
                        refine jy_g_X5_depth hx hb hts hiX5 hown hK hP hf31 dX5_least_93 ?_
                        refine lv_iload hx hb dX5_least_96 (lv_at hl 4 rfl) ?_
                        refine jy_iaload hx hb hK hP rfl i_91 dX5_least_98 ?_
                        refine lv_imul hx hb dX5_least_99 ?_
                        refine lv_iadd hx hb dX5_least_100 ?_
                        refine lv_topi (fun x5_101 ex5_101 => ?_)
                        have h := jl_lt_o h ex5_101
                        refine lv_istore (lv' := [(5, .int x5_101), (0, .ref (B 0)), (1, .int a1), (3, .int x3L63), (6, .int x6L74)]) hx hb dX5_least_101 hl (by decide) rfl (fun ls hl => ?_)
                        obtain ⟨x6_103, ex6_103⟩ : ∃ y : Int32, y = x6L74 + 1 := ⟨_, rfl⟩
                        have h := jl_lt_o h ex6_103
                        refine lv_iinc (v := x6_103) (lv' := [(6, .int x6_103), (5, .int x5_101), (0, .ref (B 0)), (1, .int a1), (3, .int x3L63)]) hx hb dX5_least_103 hl (k := 4) rfl (by rw [ex6_103]; rfl) (by decide) rfl (fun ls hl => ?_)
                        refine lv_goto (tgt := 74) hx hb dX5_least_106 (by decide) ?_
                        exact ih74 _ _ _ (jl_L (Option.some.inj h) hz74) _ _ _ hP hS (lv_sub hl [2, 3, 4, 1, 0] rfl)
                  exact k74 _ _ _ _ h _ _ _ hP hS (lv_sub hl [2, 3, 4, 1, 0] rfl)
            exact k63 _ _ _ _ h _ _ _ hP hS (lv_sub hl [2, 3, 1, 0] rfl)
          · have h := jl_iff c_48 h
            refine lv_bipush (v := (-3)) hx hb dX5_least_51 (by decide) ?_
            exact kr _ _ _ _ _ _ (Option.some.inj h) dX5_least_53 hP hS
        · have h := jl_iff c_24 h
          refine lv_iload_n hx hb dX5_least_27 rfl (lv_at hl 2 rfl) ?_
          refine lv_aload_n hx hb dX5_least_28 rfl (lv_at hl 0 rfl) ?_
          refine jy_g_X5_length hx hb hts hiX5 hown hK hP hf25 dX5_least_29 ?_
          refine lv_iload_n hx hb dX5_least_32 rfl (lv_at hl 3 rfl) ?_
          obtain ⟨i_33, h⟩ := jl_chk_o h
          refine jy_iaload hx hb hK hP rfl i_33 dX5_least_33 ?_
          refine lv_iconst (v := 1) hx hb dX5_least_34 (by decide) ?_
          refine lv_iadd hx hb dX5_least_35 ?_
          refine lv_imul hx hb dX5_least_36 ?_
          refine lv_topi (fun x2_37 ex2_37 => ?_)
          have h := jl_lt_o h ex2_37
          refine lv_istore_n (lv' := [(2, .int x2_37), (0, .ref (B 0)), (1, .int a1), (3, .int x3L19)]) hx hb dX5_least_37 rfl hl (by decide) rfl (fun ls hl => ?_)
          obtain ⟨x3_38, ex3_38⟩ : ∃ y : Int32, y = x3L19 + 1 := ⟨_, rfl⟩
          have h := jl_lt_o h ex3_38
          refine lv_iinc (v := x3_38) (lv' := [(3, .int x3_38), (2, .int x2_37), (0, .ref (B 0)), (1, .int a1)]) hx hb dX5_least_38 hl (k := 3) rfl (by rw [ex3_38]; rfl) (by decide) rfl (fun ls hl => ?_)
          refine lv_goto (tgt := 19) hx hb dX5_least_41 (by decide) ?_
          exact ih19 _ _ _ (jl_L (Option.some.inj h) hz19) _ _ _ hP hS (lv_sub hl [2, 3, 1, 0] rfl)
    exact k19 _ _ _ _ h _ _ _ hP hS (lv_sub hl [2, 3, 1, 0] rfl)
  · have h := jl_ift c_9 h
    refine lv_bipush (v := (-2)) hx hb dX5_least_12 (by decide) ?_
    exact kr _ _ _ _ _ _ (Option.some.inj h) dX5_least_14 hP hS
theorem jc_X5_least {a1 : Int32} {z : Int32 × jl_Mem} (h : jf_X5_least a1 M = some z) : Met l yX5_least wsX5_least ({ frames := 4, cells := 0, slots := 0, locals := 92 }) (va_Pc [.ref (B 0), .int a1] (jy_U D cI cT B M)) (va_Qi (fun (q : Int32) (_ : Unit) => q = z.1) (fun _ t => va_P D vwCl (jy_w cI cT B z.2) t.heap) (jy_A B)) 0 0 (jy_A B) := by
  refine Met.ofW (cc := cX5_least) (maxL := 7) (ret := (some .int)) (by decide) rfl ?_
  intro p e s m args below meth c s1 BB hml hv
  obtain ⟨rfl, hK, hP, hB, hN⟩ := hv
  have hl := lv_entry ([.ref (B 0), .int a1]) (n := 7) (Nat.le_of_ble_eq_true rfl)
  rw [lg_entry_eq]
  generalize (lg_sl ([.ref (B 0), .int a1]) ++ List.replicate (7 - (lg_sl ([.ref (B 0), .int a1])).length) Slot.unset).toArray = ls at hl ⊢
  exact jb_X5_least BB.exec BB.bytes hml (findClass_of_methodNamed BB.named) (atoms_spec (ws := wsX5_least) BB.pre) hK hB hN (Nat.le_refl _) (Nat.le_refl _) h (fun v M1 H locs pc ls e1 hd hP hS => W.iret BB.exec BB.bytes BB.returns (fun t ht hW => ⟨⟨_, (), rfl, by rw [← e1], by show va_P D vwCl (jy_w cI cT B z.2) t.heap; rw [ht, ← e1]; exact hP⟩, hS.F ht⟩) hS.2.2 hd BB.notSynchronized) hP va_S.rf hl
end
section
variable {p : Program} {l : Launch} {e : Env} {R : Room} {s : State} {m : MethodId} {args : Array Value} {below : List Frame} {meth : Method} {c : Code} {H : Heap} {locs : List Loc} {Q : State → Prop} {ls : Array Slot} {D : va_G} {cI cT : ClassId} {B : Nat → Nat} {M : jl_Mem} {H0 : Heap}
set_option maxHeartbeats 4000000 in
set_option maxRecDepth 100000 in
theorem jb_X5_leastDepth (hx : p.tables.exec = Jvm.exec) (hb : c.code = cX5_leastDepth) (hml : c.maxLocals = 2) (hown : s.vm.findClass RX5 = some m.cls) (hts : ∀ w ∈ wsX5_leastDepth, w.before args s = true) (hK : va_K D vwCl (jy_ty cI cT) s) (hB : jy_inj B) (hN : jy_N s) (hRf : 1 ≤ R.frames) (hRl : 22 ≤ R.locals) {a1 : Int32} {z : Int32 × jl_Mem} (h : jf_X5_leastDepth a1 M = some z)
    (kr : ∀ (v : Int32) (M1 : jl_Mem) (H1 : Heap) (locs1 : List Loc) (pc1 : Nat) (ls1 : Array Slot), (v, M1) = z → decode cX5_leastDepth pc1 = .ok (.ireturn, 1) → va_P D vwCl (jy_w cI cT B M1) H1 → va_S (jy_A B) H0 H1 locs1 → W p l e R s m args below meth c H1 locs1 0 0 Q (F0 m pc1 ls1 [.int v]))
    (hP : va_P D vwCl (jy_w cI cT B M) H) (hS : va_S (jy_A B) H0 H locs) (hl : lv_has ls 2 [(0, .ref (B 0)), (1, .int a1)]) : W p l e R s m args below meth c H locs 0 0 Q (F0 m 0 ls []) := by
  unfold jf_X5_leastDepth at h
  have hiX5 : ∀ w ∈ wsX50, w ∈ wsX5_leastDepth := by decide +kernel
  have hf56 := hts (.fieldLink RX5 56 "JudgesListsModel" "leastDepths" "[I") (by decide +kernel)
  refine lv_iload_n hx hb dX5_leastDepth_0 rfl (lv_at hl 1 rfl) ?_
  refine lv_iconst (v := 0) hx hb dX5_leastDepth_1 (by decide) ?_
  refine lv_iconst (v := 3) hx hb dX5_leastDepth_2 (by decide) ?_
  obtain ⟨r_3, M_3, hc_3, h⟩ := jl_bnd_o h
  refine jy_callSi (As := [.int a1, .int 0, .int 3]) (rest := []) ⟨hx, hb, hml, hown, hts⟩ (jc_X5_in hc_3) (va_cwS 3 hts gX5_leastDepth_X5_in rfl rfl rfl (by decide +kernel) ⟨Nat.le_trans (by decide) hRf, Nat.le_trans (by decide) hRl⟩) hK hB hN hP hS rfl dX5_leastDepth_3 rfl hl.1 (Nat.le_of_ble_eq_true rfl) ⟨Nat.zero_le _, Nat.zero_le _⟩ (fun H locs hP hS => ?_)
  refine lv_if_eq (tgt := 18) hx hb dX5_leastDepth_6 (by decide) (fun c_6 => ?_) (fun c_6 => ?_)
  · have h := jl_ift c_6 h
    refine lv_iconst (v := (-1)) hx hb dX5_leastDepth_18 (by decide) ?_
    exact kr _ _ _ _ _ _ (Option.some.inj h) dX5_leastDepth_19 hP hS
  · have h := jl_iff c_6 h
    refine lv_aload_n hx hb dX5_leastDepth_9 rfl (lv_at hl 0 rfl) ?_
    refine jy_g_X5_leastDepths hx hb hts hiX5 hown hK hP hf56 dX5_leastDepth_10 ?_
    refine lv_iload_n hx hb dX5_leastDepth_13 rfl (lv_at hl 1 rfl) ?_
    obtain ⟨i_14, h⟩ := jl_chk_o h
    refine jy_iaload hx hb hK hP rfl i_14 dX5_leastDepth_14 ?_
    refine lv_goto (tgt := 19) hx hb dX5_leastDepth_15 (by decide) ?_
    exact kr _ _ _ _ _ _ (Option.some.inj h) dX5_leastDepth_19 hP hS
theorem jc_X5_leastDepth {a1 : Int32} {z : Int32 × jl_Mem} (h : jf_X5_leastDepth a1 M = some z) : Met l yX5_leastDepth wsX5_leastDepth ({ frames := 1, cells := 0, slots := 0, locals := 22 }) (va_Pc [.ref (B 0), .int a1] (jy_U D cI cT B M)) (va_Qi (fun (q : Int32) (_ : Unit) => q = z.1) (fun _ t => va_P D vwCl (jy_w cI cT B z.2) t.heap) (jy_A B)) 0 0 (jy_A B) := by
  refine Met.ofW (cc := cX5_leastDepth) (maxL := 2) (ret := (some .int)) (by decide) rfl ?_
  intro p e s m args below meth c s1 BB hml hv
  obtain ⟨rfl, hK, hP, hB, hN⟩ := hv
  have hl := lv_entry ([.ref (B 0), .int a1]) (n := 2) (Nat.le_of_ble_eq_true rfl)
  rw [lg_entry_eq]
  generalize (lg_sl ([.ref (B 0), .int a1]) ++ List.replicate (2 - (lg_sl ([.ref (B 0), .int a1])).length) Slot.unset).toArray = ls at hl ⊢
  exact jb_X5_leastDepth BB.exec BB.bytes hml (findClass_of_methodNamed BB.named) (atoms_spec (ws := wsX5_leastDepth) BB.pre) hK hB hN (Nat.le_refl _) (Nat.le_refl _) h (fun v M1 H locs pc ls e1 hd hP hS => W.iret BB.exec BB.bytes BB.returns (fun t ht hW => ⟨⟨_, (), rfl, by rw [← e1], by show va_P D vwCl (jy_w cI cT B z.2) t.heap; rw [ht, ← e1]; exact hP⟩, hS.F ht⟩) hS.2.2 hd BB.notSynchronized) hP va_S.rf hl
end
section
variable {p : Program} {l : Launch} {e : Env} {R : Room} {s : State} {m : MethodId} {args : Array Value} {below : List Frame} {meth : Method} {c : Code} {H : Heap} {locs : List Loc} {Q : State → Prop} {ls : Array Slot} {D : va_G} {cI cT : ClassId} {B : Nat → Nat} {M : jl_Mem} {H0 : Heap}
set_option maxHeartbeats 4000000 in
set_option maxRecDepth 100000 in
theorem jb_X5_count (hx : p.tables.exec = Jvm.exec) (hb : c.code = cX5_count) (hml : c.maxLocals = 4) (hown : s.vm.findClass RX5 = some m.cls) (hts : ∀ w ∈ wsX5_count, w.before args s = true) (hK : va_K D vwCl (jy_ty cI cT) s) (hB : jy_inj B) (hN : jy_N s) (hRf : 0 ≤ R.frames) (hRl : 0 ≤ R.locals) {a1 : Int32} {z : Int32 × jl_Mem} (h : jf_X5_count a1 M = some z)
    (kr : ∀ (v : Int32) (M1 : jl_Mem) (H1 : Heap) (locs1 : List Loc) (pc1 : Nat) (ls1 : Array Slot), (v, M1) = z → decode cX5_count pc1 = .ok (.ireturn, 1) → va_P D vwCl (jy_w cI cT B M1) H1 → va_S (jy_A B) H0 H1 locs1 → W p l e R s m args below meth c H1 locs1 0 0 Q (F0 m pc1 ls1 [.int v]))
    (hP : va_P D vwCl (jy_w cI cT B M) H) (hS : va_S (jy_A B) H0 H locs) (hl : lv_has ls 4 [(0, .ref (B 0)), (1, .int a1)]) : W p l e R s m args below meth c H locs 0 0 Q (F0 m 0 ls []) := by
  unfold jf_X5_count at h
  have hiX5 : ∀ w ∈ wsX50, w ∈ wsX5_count := by decide +kernel
  have hf63 := hts (.fieldLink RX5 63 "JudgesListsModel" "things" "I") (by decide +kernel)
  have hf70 := hts (.fieldLink RX5 70 "JudgesListsModel" "lists" "I") (by decide +kernel)
  have hf25 := hts (.fieldLink RX5 25 "JudgesListsModel" "length" "[I") (by decide +kernel)
  have hf88 := hts (.fieldLink RX5 88 "JudgesListsModel" "rule" "I") (by decide +kernel)
  have hf73 := hts (.fieldLink RX5 73 "JudgesListsModel" "reads" "Z") (by decide +kernel)
  refine lv_iconst (v := 0) hx hb dX5_count_0 (by decide) ?_
  refine lv_topi (fun x2_1 ex2_1 => ?_)
  have h := jl_lt_o h ex2_1
  refine lv_istore_n (lv' := [(2, .int x2_1), (0, .ref (B 0)), (1, .int a1)]) hx hb dX5_count_1 rfl hl (by decide) rfl (fun ls hl => ?_)
  refine lv_iload_n hx hb dX5_count_2 rfl (lv_at hl 2 rfl) ?_
  rcases Decidable.em (a1 = 0) with c0_3 | c0_3
  · have h := jl_ift c0_3 h
    refine lv_tableIn (tgt := 36) (off := 33) hx hb dX5_count_3 (by rw [c0_3]; decide) (by rw [c0_3]; decide) (by rw [c0_3]; rfl) (by decide) ?_
    refine lv_aload_n hx hb dX5_count_36 rfl (lv_at hl 1 rfl) ?_
    refine jy_g_X5_things hx hb hts hiX5 hown hK hP hf63 dX5_count_37 ?_
    exact kr _ _ _ _ _ _ (Option.some.inj h) dX5_count_40 hP hS
  · have h := jl_iff c0_3 h
    rcases Decidable.em (a1 = 1) with c1_3 | c1_3
    · have h := jl_ift c1_3 h
      refine lv_tableIn (tgt := 41) (off := 38) hx hb dX5_count_3 (by rw [c1_3]; decide) (by rw [c1_3]; decide) (by rw [c1_3]; rfl) (by decide) ?_
      refine lv_aload_n hx hb dX5_count_41 rfl (lv_at hl 1 rfl) ?_
      refine jy_g_X5_lists hx hb hts hiX5 hown hK hP hf70 dX5_count_42 ?_
      exact kr _ _ _ _ _ _ (Option.some.inj h) dX5_count_45 hP hS
    · have h := jl_iff c1_3 h
      rcases Decidable.em (a1 = 2) with c2_3 | c2_3
      · have h := jl_ift c2_3 h
        refine lv_tableIn (tgt := 46) (off := 43) hx hb dX5_count_3 (by rw [c2_3]; decide) (by rw [c2_3]; decide) (by rw [c2_3]; rfl) (by decide) ?_
        refine lv_iconst (v := 0) hx hb dX5_count_46 (by decide) ?_
        refine lv_topi (fun x3_47 ex3_47 => ?_)
        have h := jl_lt_o h ex3_47
        refine lv_istore_n (lv' := [(3, .int x3_47), (2, .int x2_1), (0, .ref (B 0)), (1, .int a1)]) hx hb dX5_count_47 rfl hl (by decide) rfl (fun ls hl => ?_)
        have k48 : ∀ (n48 : Nat) (x2L48 : Int32) (x3L48 : Int32) (ML48 : jl_Mem), jl_wh (fun q => jf_X5_count_L48 q.1 q.2.1 q.2.2) n48 (x2L48, x3L48, ML48) = some z → ∀ (H : Heap) (locs : List Loc) (ls : Array Slot), va_P D vwCl (jy_w cI cT B ML48) H → va_S (jy_A B) H0 H locs → lv_has ls 4 [(0, .ref (B 0)), (2, .int x2L48), (3, .int x3L48)] → W p l e R s m args below meth c H locs 0 0 Q (F0 m 48 ls []) := by
          intro n48
          induction n48 with
          | zero => exact fun _ _ _ h => (jl_wh_0 h).elim
          | succ n48 ih48 =>
            intro x2L48 x3L48 ML48 h H locs ls hP hS hl
            obtain ⟨o48, h, hz48⟩ := jl_wh_s h
            replace h : jf_X5_count_L48 x2L48 x3L48 ML48 = some o48 := h
            unfold jf_X5_count_L48 at h
            refine lv_iload_n hx hb dX5_count_48 rfl (lv_at hl 2 rfl) ?_
            refine lv_aload_n hx hb dX5_count_49 rfl (lv_at hl 0 rfl) ?_
            refine jy_g_X5_lists hx hb hts hiX5 hown hK hP hf70 dX5_count_50 ?_
            refine lv_icmp_ge (tgt := 71) hx hb dX5_count_53 (by decide) (fun c_53 => ?_) (fun c_53 => ?_)
            · have h := jl_ift c_53 h
              have h := jl_ex_o h hz48
              refine lv_iload_n hx hb dX5_count_71 rfl (lv_at hl 1 rfl) ?_
              exact kr _ _ _ _ _ _ (Option.some.inj h) dX5_count_72 hP hS
            · have h := jl_iff c_53 h
              refine lv_iload_n hx hb dX5_count_56 rfl (lv_at hl 1 rfl) ?_
              refine lv_aload_n hx hb dX5_count_57 rfl (lv_at hl 0 rfl) ?_
              refine jy_g_X5_length hx hb hts hiX5 hown hK hP hf25 dX5_count_58 ?_
              refine lv_iload_n hx hb dX5_count_61 rfl (lv_at hl 2 rfl) ?_
              obtain ⟨i_62, h⟩ := jl_chk_o h
              refine jy_iaload hx hb hK hP rfl i_62 dX5_count_62 ?_
              refine lv_iadd hx hb dX5_count_63 ?_
              refine lv_topi (fun x2_64 ex2_64 => ?_)
              have h := jl_lt_o h ex2_64
              refine lv_istore_n (lv' := [(2, .int x2_64), (0, .ref (B 0)), (3, .int x3L48)]) hx hb dX5_count_64 rfl hl (by decide) rfl (fun ls hl => ?_)
              obtain ⟨x3_65, ex3_65⟩ : ∃ y : Int32, y = x3L48 + 1 := ⟨_, rfl⟩
              have h := jl_lt_o h ex3_65
              refine lv_iinc (v := x3_65) (lv' := [(3, .int x3_65), (2, .int x2_64), (0, .ref (B 0))]) hx hb dX5_count_65 hl (k := 2) rfl (by rw [ex3_65]; rfl) (by decide) rfl (fun ls hl => ?_)
              refine lv_goto (tgt := 48) hx hb dX5_count_68 (by decide) ?_
              exact ih48 _ _ _ (jl_L (Option.some.inj h) hz48) _ _ _ hP hS (lv_sub hl [2, 1, 0] rfl)
        exact k48 _ _ _ _ h _ _ _ hP hS (lv_sub hl [2, 1, 0] rfl)
      · have h := jl_iff c2_3 h
        rcases Decidable.em (a1 = 3) with c3_3 | c3_3
        · have h := jl_ift c3_3 h
          refine lv_tableIn (tgt := 73) (off := 70) hx hb dX5_count_3 (by rw [c3_3]; decide) (by rw [c3_3]; decide) (by rw [c3_3]; rfl) (by decide) ?_
          refine lv_aload_n hx hb dX5_count_73 rfl (lv_at hl 1 rfl) ?_
          refine jy_g_X5_rule hx hb hts hiX5 hown hK hP hf88 dX5_count_74 ?_
          exact kr _ _ _ _ _ _ (Option.some.inj h) dX5_count_77 hP hS
        · have h := jl_iff c3_3 h
          rcases Decidable.em (a1 = 4) with c4_3 | c4_3
          · have h := jl_ift c4_3 h
            refine lv_tableIn (tgt := 78) (off := 75) hx hb dX5_count_3 (by rw [c4_3]; decide) (by rw [c4_3]; decide) (by rw [c4_3]; rfl) (by decide) ?_
            refine lv_aload_n hx hb dX5_count_78 rfl (lv_at hl 1 rfl) ?_
            refine jy_g_X5_reads hx hb hts hiX5 hown hK hP hf73 dX5_count_79 ?_
            refine lv_if_eq (tgt := 89) hx hb dX5_count_82 (by decide) (fun c_82 => ?_) (fun c_82 => ?_)
            · have h := jl_ift c_82 h
              refine lv_iconst (v := 0) hx hb dX5_count_89 (by decide) ?_
              exact kr _ _ _ _ _ _ (Option.some.inj h) dX5_count_90 hP hS
            · have h := jl_iff c_82 h
              refine lv_iconst (v := 1) hx hb dX5_count_85 (by decide) ?_
              refine lv_goto (tgt := 90) hx hb dX5_count_86 (by decide) ?_
              exact kr _ _ _ _ _ _ (Option.some.inj h) dX5_count_90 hP hS
          · have h := jl_iff c4_3 h
            have hd : (a1).toInt < 0 ∨ ((5 : Nat) : Int) - 1 < (a1).toInt := jl_tab 5 (by decide) (fun k hk => match k, hk with
              | 0, _ => c0_3
              | 1, _ => c1_3
              | 2, _ => c2_3
              | 3, _ => c3_3
              | 4, _ => c4_3
              | k + 5, hk => absurd hk (by omega))
            refine lv_tableOut (tgt := 91) hx hb dX5_count_3 (hd.imp id (fun q => by omega)) (by decide) ?_
            refine lv_iconst (v := (-1)) hx hb dX5_count_91 (by decide) ?_
            exact kr _ _ _ _ _ _ (Option.some.inj h) dX5_count_92 hP hS
theorem jc_X5_count {a1 : Int32} {z : Int32 × jl_Mem} (h : jf_X5_count a1 M = some z) : Met l yX5_count wsX5_count ({ frames := 0, cells := 0, slots := 0, locals := 0 }) (va_Pc [.ref (B 0), .int a1] (jy_U D cI cT B M)) (va_Qi (fun (q : Int32) (_ : Unit) => q = z.1) (fun _ t => va_P D vwCl (jy_w cI cT B z.2) t.heap) (jy_A B)) 0 0 (jy_A B) := by
  refine Met.ofW (cc := cX5_count) (maxL := 4) (ret := (some .int)) (by decide) rfl ?_
  intro p e s m args below meth c s1 BB hml hv
  obtain ⟨rfl, hK, hP, hB, hN⟩ := hv
  have hl := lv_entry ([.ref (B 0), .int a1]) (n := 4) (Nat.le_of_ble_eq_true rfl)
  rw [lg_entry_eq]
  generalize (lg_sl ([.ref (B 0), .int a1]) ++ List.replicate (4 - (lg_sl ([.ref (B 0), .int a1])).length) Slot.unset).toArray = ls at hl ⊢
  exact jb_X5_count BB.exec BB.bytes hml (findClass_of_methodNamed BB.named) (atoms_spec (ws := wsX5_count) BB.pre) hK hB hN (Nat.le_refl _) (Nat.le_refl _) h (fun v M1 H locs pc ls e1 hd hP hS => W.iret BB.exec BB.bytes BB.returns (fun t ht hW => ⟨⟨_, (), rfl, by rw [← e1], by show va_P D vwCl (jy_w cI cT B z.2) t.heap; rw [ht, ← e1]; exact hP⟩, hS.F ht⟩) hS.2.2 hd BB.notSynchronized) hP va_S.rf hl
end
