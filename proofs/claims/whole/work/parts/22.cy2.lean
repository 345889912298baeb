section
variable {p : Program} {l : Launch} {e : Env} {R : Room} {s : State} {m : MethodId} {args : Array Value} {below : List Frame} {meth : Method} {c : Code} {H : Heap} {locs : List Loc} {Q : State → Prop} {ls : Array Slot} {D : va_G} {cI cT : ClassId} {B : Nat → Nat} {M : jl_Mem} {H0 : Heap}
set_option maxHeartbeats 4000000 in
set_option maxRecDepth 100000 in
theorem jb_X5_place (hx : p.tables.exec = Jvm.exec) (hb : c.code = cX5_place) (hml : c.maxLocals = 4) (hown : s.vm.findClass RX5 = some m.cls) (hts : ∀ w ∈ wsX5_place, w.before args s = true) (hK : va_K D vwCl (jy_ty cI cT) s) (hB : jy_inj B) (hN : jy_N s) (hRf : 2 ≤ R.frames) (hRl : 43 ≤ R.locals) {a1 : Int32} {a2 : Int32} {a3 : Int32} {z : Int32 × jl_Mem} (h : jf_X5_place a1 a2 a3 M = some z)
    (kr : ∀ (v : Int32) (M1 : jl_Mem) (H1 : Heap) (locs1 : List Loc) (pc1 : Nat) (ls1 : Array Slot), (v, M1) = z → decode cX5_place pc1 = .ok (.ireturn, 1) → va_P D vwCl (jy_w cI cT B M1) H1 → va_S (jy_A B) H0 H1 locs1 → W p l e R s m args below meth c H1 locs1 0 0 Q (F0 m pc1 ls1 [.int v]))
    (hP : va_P D vwCl (jy_w cI cT B M) H) (hS : va_S (jy_A B) H0 H locs) (hl : lv_has ls 4 [(0, .ref (B 0)), (1, .int a1), (2, .int a2), (3, .int a3)]) : W p l e R s m args below meth c H locs 0 0 Q (F0 m 0 ls []) := by
  unfold jf_X5_place at h
  have hiX5 : ∀ w ∈ wsX50, w ∈ wsX5_place := by decide +kernel
  have hf19 := hts (.fieldLink RX5 19 "JudgesListsModel" "mark" "[I") (by decide +kernel)
  refine lv_aload_n hx hb dX5_place_0 rfl (lv_at hl 0 rfl) ?_
  refine lv_iload_n hx hb dX5_place_1 rfl (lv_at hl 1 rfl) ?_
  obtain ⟨r_2, M_2, hc_2, h⟩ := jl_bnd_o h
  refine jy_callVi (As := [.int a1]) (rest := []) ⟨hx, hb, hml, hown, hts⟩ (jc_X5_isList hc_2) (cwV 1 hts gX5_place_X5_isList rfl rfl rfl (by decide +kernel) ⟨Nat.le_trans (by decide) hRf, Nat.le_trans (by decide) hRl⟩) (jy_rv_X5 hK hP) hK hB hN hP hS rfl dX5_place_2 rfl hl.1 (Nat.le_of_ble_eq_true rfl) ⟨Nat.zero_le _, Nat.zero_le _⟩ (fun H locs hP hS => ?_)
  refine lv_if_eq (tgt := 39) hx hb dX5_place_5 (by decide) (fun c_5 => ?_) (fun c_5 => ?_)
  · have h := jl_ift c_5 h
    refine lv_iconst (v := (-1)) hx hb dX5_place_39 (by decide) ?_
    exact kr _ _ _ _ _ _ (Option.some.inj h) dX5_place_40 hP hS
  · have h := jl_iff c_5 h
    refine lv_aload_n hx hb dX5_place_8 rfl (lv_at hl 0 rfl) ?_
    refine lv_iload_n hx hb dX5_place_9 rfl (lv_at hl 2 rfl) ?_
    obtain ⟨r_10, M_10, hc_10, h⟩ := jl_bnd_o h
    refine jy_callVi (As := [.int a2]) (rest := []) ⟨hx, hb, hml, hown, hts⟩ (jc_X5_isThing hc_10) (cwV 1 hts gX5_place_X5_isThing rfl rfl rfl (by decide +kernel) ⟨Nat.le_trans (by decide) hRf, Nat.le_trans (by decide) hRl⟩) (jy_rv_X5 hK hP) hK hB hN hP hS rfl dX5_place_10 rfl hl.1 (Nat.le_of_ble_eq_true rfl) ⟨Nat.zero_le _, Nat.zero_le _⟩ (fun H locs hP hS => ?_)
    refine lv_if_eq (tgt := 39) hx hb dX5_place_13 (by decide) (fun c_13 => ?_) (fun c_13 => ?_)
    · have h := jl_ift c_13 h
      refine lv_iconst (v := (-1)) hx hb dX5_place_39 (by decide) ?_
      exact kr _ _ _ _ _ _ (Option.some.inj h) dX5_place_40 hP hS
    · have h := jl_iff c_13 h
      refine lv_iload_n hx hb dX5_place_16 rfl (lv_at hl 3 rfl) ?_
      refine lv_iconst (v := 0) hx hb dX5_place_17 (by decide) ?_
      refine lv_iconst (v := 1) hx hb dX5_place_18 (by decide) ?_
      obtain ⟨r_19, M_19, hc_19, h⟩ := jl_bnd_o h
      refine jy_callSi (As := [.int a3, .int 0, .int 1]) (rest := []) ⟨hx, hb, hml, hown, hts⟩ (jc_X5_in hc_19) (va_cwS 3 hts gX5_place_X5_in rfl rfl rfl (by decide +kernel) ⟨Nat.le_trans (by decide) hRf, Nat.le_trans (by decide) hRl⟩) hK hB hN hP hS rfl dX5_place_19 rfl hl.1 (Nat.le_of_ble_eq_true rfl) ⟨Nat.zero_le _, Nat.zero_le _⟩ (fun H locs hP hS => ?_)
      refine lv_if_eq (tgt := 39) hx hb dX5_place_22 (by decide) (fun c_22 => ?_) (fun c_22 => ?_)
      · have h := jl_ift c_22 h
        refine lv_iconst (v := (-1)) hx hb dX5_place_39 (by decide) ?_
        exact kr _ _ _ _ _ _ (Option.some.inj h) dX5_place_40 hP hS
      · have h := jl_iff c_22 h
        refine lv_aload_n hx hb dX5_place_25 rfl (lv_at hl 0 rfl) ?_
        refine jy_g_X5_mark hx hb hts hiX5 hown hK hP hf19 dX5_place_26 ?_
        refine lv_bipush (v := 20) hx hb dX5_place_29 (by decide) ?_
        refine lv_iload_n hx hb dX5_place_31 rfl (lv_at hl 1 rfl) ?_
        refine lv_imul hx hb dX5_place_32 ?_
        refine lv_iload_n hx hb dX5_place_33 rfl (lv_at hl 2 rfl) ?_
        refine lv_iadd hx hb dX5_place_34 ?_
        obtain ⟨i_35, h⟩ := jl_chk_o h
        refine jy_iaload hx hb hK hP rfl i_35 dX5_place_35 ?_
        refine lv_if_ne (tgt := 41) hx hb dX5_place_36 (by decide) (fun c_36 => ?_) (fun c_36 => ?_)
        · have h := jl_iff c_36 h
          refine lv_iload_n hx hb dX5_place_41 rfl (lv_at hl 3 rfl) ?_
          refine lv_if_ne (tgt := 54) hx hb dX5_place_42 (by decide) (fun c_42 => ?_) (fun c_42 => ?_)
          · have h := jl_iff c_42 h
            refine lv_aload_n hx hb dX5_place_54 rfl (lv_at hl 0 rfl) ?_
            refine jy_g_X5_mark hx hb hts hiX5 hown hK hP hf19 dX5_place_55 ?_
            refine lv_bipush (v := 20) hx hb dX5_place_58 (by decide) ?_
            refine lv_iload_n hx hb dX5_place_60 rfl (lv_at hl 1 rfl) ?_
            refine lv_imul hx hb dX5_place_61 ?_
            refine lv_iload_n hx hb dX5_place_62 rfl (lv_at hl 2 rfl) ?_
            refine lv_iadd hx hb dX5_place_63 ?_
            refine jy_iaload hx hb hK hP rfl i_35 dX5_place_64 ?_
            exact kr _ _ _ _ _ _ (Option.some.inj h) dX5_place_65 hP hS
          · have h := jl_ift c_42 h
            refine lv_aload_n hx hb dX5_place_45 rfl (lv_at hl 0 rfl) ?_
            refine lv_iload_n hx hb dX5_place_46 rfl (lv_at hl 1 rfl) ?_
            refine lv_iload_n hx hb dX5_place_47 rfl (lv_at hl 2 rfl) ?_
            obtain ⟨r_48, M_48, hc_48, h⟩ := jl_bnd_o h
            refine jy_callVi (As := [.int a1, .int a2]) (rest := []) ⟨hx, hb, hml, hown, hts⟩ (jc_X5_placeOf hc_48) (cwV 2 hts gX5_place_X5_placeOf rfl rfl rfl (by decide +kernel) ⟨Nat.le_trans (by decide) hRf, Nat.le_trans (by decide) hRl⟩) (jy_rv_X5 hK hP) hK hB hN hP hS rfl dX5_place_48 rfl hl.1 (Nat.le_of_ble_eq_true rfl) ⟨Nat.zero_le _, Nat.zero_le _⟩ (fun H locs hP hS => ?_)
            refine lv_goto (tgt := 65) hx hb dX5_place_51 (by decide) ?_
            exact kr _ _ _ _ _ _ (Option.some.inj h) dX5_place_65 hP hS
        · have h := jl_ift c_36 h
          refine lv_iconst (v := (-1)) hx hb dX5_place_39 (by decide) ?_
          exact kr _ _ _ _ _ _ (Option.some.inj h) dX5_place_40 hP hS
theorem jc_X5_place {a1 : Int32} {a2 : Int32} {a3 : Int32} {z : Int32 × jl_Mem} (h : jf_X5_place a1 a2 a3 M = some z) : Met l yX5_place wsX5_place ({ frames := 2, cells := 0, slots := 0, locals := 43 }) (va_Pc [.ref (B 0), .int a1, .int a2, .int a3] (jy_U D cI cT B M)) (va_Qi (fun (q : Int32) (_ : Unit) => q = z.1) (fun _ t => va_P D vwCl (jy_w cI cT B z.2) t.heap) (jy_A B)) 0 0 (jy_A B) := by
  refine Met.ofW (cc := cX5_place) (maxL := 4) (ret := (some .int)) (by decide) rfl ?_
  intro p e s m args below meth c s1 BB hml hv
  obtain ⟨rfl, hK, hP, hB, hN⟩ := hv
  have hl := lv_entry ([.ref (B 0), .int a1, .int a2, .int a3]) (n := 4) (Nat.le_of_ble_eq_true rfl)
  rw [lg_entry_eq]
  generalize (lg_sl ([.ref (B 0), .int a1, .int a2, .int a3]) ++ List.replicate (4 - (lg_sl ([.ref (B 0), .int a1, .int a2, .int a3])).length) Slot.unset).toArray = ls at hl ⊢
  exact jb_X5_place BB.exec BB.bytes hml (findClass_of_methodNamed BB.named) (atoms_spec (ws := wsX5_place) BB.pre) hK hB hN (Nat.le_refl _) (Nat.le_refl _) h (fun v M1 H locs pc ls e1 hd hP hS => W.iret BB.exec BB.bytes BB.returns (fun t ht hW => ⟨⟨_, (), rfl, by rw [← e1], by show va_P D vwCl (jy_w cI cT B z.2) t.heap; rw [ht, ← e1]; exact hP⟩, hS.F ht⟩) hS.2.2 hd BB.notSynchronized) hP va_S.rf hl
end
section
variable {p : Program} {l : Launch} {e : Env} {R : Room} {s : State} {m : MethodId} {args : Array Value} {below : List Frame} {meth : Method} {c : Code} {H : Heap} {locs : List Loc} {Q : State → Prop} {ls : Array Slot} {D : va_G} {cI cT : ClassId} {B : Nat → Nat} {M : jl_Mem} {H0 : Heap}
set_option maxHeartbeats 4000000 in
set_option maxRecDepth 100000 in
theorem jb_X5_totalOfHand (hx : p.tables.exec = Jvm.exec) (hb : c.code = cX5_totalOfHand) (hml : c.maxLocals = 4) (hown : s.vm.findClass RX5 = some m.cls) (hts : ∀ w ∈ wsX5_totalOfHand, w.before args s = true) (hK : va_K D vwCl (jy_ty cI cT) s) (hB : jy_inj B) (hN : jy_N s) (hRf : 0 ≤ R.frames) (hRl : 0 ≤ R.locals) {z : Int32 × jl_Mem} (h : jf_X5_totalOfHand M = some z)
    (kr : ∀ (v : Int32) (M1 : jl_Mem) (H1 : Heap) (locs1 : List Loc) (pc1 : Nat) (ls1 : Array Slot), (v, M1) = z → decode cX5_totalOfHand pc1 = .ok (.ireturn, 1) → va_P D vwCl (jy_w cI cT B M1) H1 → va_S (jy_A B) H0 H1 locs1 → W p l e R s m args below meth c H1 locs1 0 0 Q (F0 m pc1 ls1 [.int v]))
    (hP : va_P D vwCl (jy_w cI cT B M) H) (hS : va_S (jy_A B) H0 H locs) (hl : lv_has ls 4 [(0, .ref (B 0))]) : W p l e R s m args below meth c H locs 0 0 Q (F0 m 0 ls []) := by
  unfold jf_X5_totalOfHand at h
  have hiX5 : ∀ w ∈ wsX50, w ∈ wsX5_totalOfHand := by decide +kernel
  have hf70 := hts (.fieldLink RX5 70 "JudgesListsModel" "lists" "I") (by decide +kernel)
  have hf88 := hts (.fieldLink RX5 88 "JudgesListsModel" "rule" "I") (by decide +kernel)
  have hf7 := hts (.fieldLink RX5 7 "JudgesListsModel" "weight" "[I") (by decide +kernel)
  have hf28 := hts (.fieldLink RX5 28 "JudgesListsModel" "hand" "[I") (by decide +kernel)
  refine lv_iconst (v := 0) hx hb dX5_totalOfHand_0 (by decide) ?_
  refine lv_topi (fun x1_1 ex1_1 => ?_)
  have h := jl_lt_o h ex1_1
  refine lv_istore_n (lv' := [(1, .int x1_1), (0, .ref (B 0))]) hx hb dX5_totalOfHand_1 rfl hl (by decide) rfl (fun ls hl => ?_)
  refine lv_iconst (v := 0) hx hb dX5_totalOfHand_2 (by decide) ?_
  refine lv_topi (fun x2_3 ex2_3 => ?_)
  have h := jl_lt_o h ex2_3
  refine lv_istore_n (lv' := [(2, .int x2_3), (1, .int x1_1), (0, .ref (B 0))]) hx hb dX5_totalOfHand_3 rfl hl (by decide) rfl (fun ls hl => ?_)
  refine lv_iconst (v := 0) hx hb dX5_totalOfHand_4 (by decide) ?_
  refine lv_topi (fun x3_5 ex3_5 => ?_)
  have h := jl_lt_o h ex3_5
  refine lv_istore_n (lv' := [(3, .int x3_5), (2, .int x2_3), (1, .int x1_1), (0, .ref (B 0))]) hx hb dX5_totalOfHand_5 rfl hl (by decide) rfl (fun ls hl => ?_)
  have k6 : ∀ (n6 : Nat) (x1L6 : Int32) (x2L6 : Int32) (x3L6 : Int32) (ML6 : jl_Mem), jl_wh (fun q => jf_X5_totalOfHand_L6 q.1 q.2.1 q.2.2.1 q.2.2.2) n6 (x1L6, x2L6, x3L6, ML6) = some z → ∀ (H : Heap) (locs : List Loc) (ls : Array Slot), va_P D vwCl (jy_w cI cT B ML6) H → va_S (jy_A B) H0 H locs → lv_has ls 4 [(0, .ref (B 0)), (1, .int x1L6), (2, .int x2L6), (3, .int x3L6)] → W p l e R s m args below meth c H locs 0 0 Q (F0 m 6 ls []) := by
    intro n6
    induction n6 with
    | zero => exact fun _ _ _ _ h => (jl_wh_0 h).elim
    | succ n6 ih6 =>
      intro x1L6 x2L6 x3L6 ML6 h H locs ls hP hS hl
      obtain ⟨o6, h, hz6⟩ := jl_wh_s h
      replace h : jf_X5_totalOfHand_L6 x1L6 x2L6 x3L6 ML6 = some o6 := h
      unfold jf_X5_totalOfHand_L6 at h
      refine lv_iload_n hx hb dX5_totalOfHand_6 rfl (lv_at hl 3 rfl) ?_
      refine lv_aload_n hx hb dX5_totalOfHand_7 rfl (lv_at hl 0 rfl) ?_
      refine jy_g_X5_lists hx hb hts hiX5 hown hK hP hf70 dX5_totalOfHand_8 ?_
      refine lv_icmp_ge (tgt := 112) hx hb dX5_totalOfHand_11 (by decide) (fun c_11 => ?_) (fun c_11 => ?_)
      · have h := jl_ift c_11 h
        have h := jl_ex_o h hz6
        refine lv_iload_n hx hb dX5_totalOfHand_112 rfl (lv_at hl 1 rfl) ?_
        exact kr _ _ _ _ _ _ (Option.some.inj h) dX5_totalOfHand_113 hP hS
      · have h := jl_iff c_11 h
        refine lv_aload_n hx hb dX5_totalOfHand_14 rfl (lv_at hl 0 rfl) ?_
        refine jy_g_X5_rule hx hb hts hiX5 hown hK hP hf88 dX5_totalOfHand_15 ?_
        refine lv_if_ne (tgt := 40) hx hb dX5_totalOfHand_18 (by decide) (fun c_18 => ?_) (fun c_18 => ?_)
        · have h := jl_iff c_18 h
          refine lv_aload_n hx hb dX5_totalOfHand_40 rfl (lv_at hl 0 rfl) ?_
          refine jy_g_X5_weight hx hb hts hiX5 hown hK hP hf7 dX5_totalOfHand_41 ?_
          refine lv_iload_n hx hb dX5_totalOfHand_44 rfl (lv_at hl 3 rfl) ?_
          obtain ⟨i_45, h⟩ := jl_chk_o h
          refine jy_iaload hx hb hK hP rfl i_45 dX5_totalOfHand_45 ?_
          refine lv_if_le (tgt := 106) hx hb dX5_totalOfHand_46 (by decide) (fun c_46 => ?_) (fun c_46 => ?_)
          · have h := jl_ift c_46 h
            obtain ⟨x3_106, ex3_106⟩ : ∃ y : Int32, y = x3L6 + 1 := ⟨_, rfl⟩
            have h := jl_lt_o h ex3_106
            refine lv_iinc (v := x3_106) (lv' := [(3, .int x3_106), (0, .ref (B 0)), (1, .int x1L6), (2, .int x2L6)]) hx hb dX5_totalOfHand_106 hl (k := 3) rfl (by rw [ex3_106]; rfl) (by decide) rfl (fun ls hl => ?_)
            refine lv_goto (tgt := 6) hx hb dX5_totalOfHand_109 (by decide) ?_
            exact ih6 _ _ _ _ (jl_L (Option.some.inj h) hz6) _ _ _ hP hS (lv_sub hl [1, 2, 3, 0] rfl)
          · have h := jl_iff c_46 h
            refine lv_iload_n hx hb dX5_totalOfHand_49 rfl (lv_at hl 2 rfl) ?_
            refine lv_if_ne (tgt := 62) hx hb dX5_totalOfHand_50 (by decide) (fun c_50 => ?_) (fun c_50 => ?_)
            · have h := jl_iff c_50 h
              refine lv_aload_n hx hb dX5_totalOfHand_62 rfl (lv_at hl 0 rfl) ?_
              refine jy_g_X5_hand hx hb hts hiX5 hown hK hP hf28 dX5_totalOfHand_63 ?_
              refine lv_iload_n hx hb dX5_totalOfHand_66 rfl (lv_at hl 3 rfl) ?_
              refine jy_iaload hx hb hK hP rfl i_45 dX5_totalOfHand_67 ?_
              refine lv_iload_n hx hb dX5_totalOfHand_68 rfl (lv_at hl 1 rfl) ?_
              refine lv_icmp_ge (tgt := 76) hx hb dX5_totalOfHand_69 (by decide) (fun c_69 => ?_) (fun c_69 => ?_)
              · have h := jl_ift c_69 h
                refine lv_iconst (v := 0) hx hb dX5_totalOfHand_76 (by decide) ?_
                refine lv_aload_n hx hb dX5_totalOfHand_77 rfl (lv_at hl 0 rfl) ?_
                refine jy_g_X5_rule hx hb hts hiX5 hown hK hP hf88 dX5_totalOfHand_78 ?_
                refine lv_iconst (v := 1) hx hb dX5_totalOfHand_81 (by decide) ?_
                refine lv_icmp_ne (tgt := 89) hx hb dX5_totalOfHand_82 (by decide) (fun c_82 => ?_) (fun c_82 => ?_)
                · have h := jl_iff c_82 h
                  refine lv_iconst (v := 0) hx hb dX5_totalOfHand_89 (by decide) ?_
                  refine lv_icmp_ne (tgt := 102) hx hb dX5_totalOfHand_90 (by decide) (fun c0 => absurd c0 (by decide)) (fun _ => ?_)
                  refine lv_aload_n hx hb dX5_totalOfHand_93 rfl (lv_at hl 0 rfl) ?_
                  refine jy_g_X5_hand hx hb hts hiX5 hown hK hP hf28 dX5_totalOfHand_94 ?_
                  refine lv_iload_n hx hb dX5_totalOfHand_97 rfl (lv_at hl 3 rfl) ?_
                  refine jy_iaload hx hb hK hP rfl i_45 dX5_totalOfHand_98 ?_
                  refine lv_goto (tgt := 103) hx hb dX5_totalOfHand_99 (by decide) ?_
                  refine lv_topi (fun x1_103 ex1_103 => ?_)
                  have h := jl_lt_o h ex1_103
                  refine lv_istore_n (lv' := [(1, .int x1_103), (0, .ref (B 0)), (2, .int x2L6), (3, .int x3L6)]) hx hb dX5_totalOfHand_103 rfl hl (by decide) rfl (fun ls hl => ?_)
                  refine lv_iconst (v := 1) hx hb dX5_totalOfHand_104 (by decide) ?_
                  refine lv_topi (fun x2_105 ex2_105 => ?_)
                  have h := jl_lt_o h ex2_105
                  refine lv_istore_n (lv' := [(2, .int x2_105), (1, .int x1_103), (0, .ref (B 0)), (3, .int x3L6)]) hx hb dX5_totalOfHand_105 rfl hl (by decide) rfl (fun ls hl => ?_)
                  obtain ⟨x3_106, ex3_106⟩ : ∃ y : Int32, y = x3L6 + 1 := ⟨_, rfl⟩
                  have h := jl_lt_o h ex3_106
                  refine lv_iinc (v := x3_106) (lv' := [(3, .int x3_106), (2, .int x2_105), (1, .int x1_103), (0, .ref (B 0))]) hx hb dX5_totalOfHand_106 hl (k := 3) rfl (by rw [ex3_106]; rfl) (by decide) rfl (fun ls hl => ?_)
                  refine lv_goto (tgt := 6) hx hb dX5_totalOfHand_109 (by decide) ?_
                  exact ih6 _ _ _ _ (jl_L (Option.some.inj h) hz6) _ _ _ hP hS (lv_sub hl [3, 2, 1, 0] rfl)
                · have h := jl_ift c_82 h
                  refine lv_iconst (v := 1) hx hb dX5_totalOfHand_85 (by decide) ?_
                  refine lv_goto (tgt := 90) hx hb dX5_totalOfHand_86 (by decide) ?_
                  refine lv_icmp_ne (tgt := 102) hx hb dX5_totalOfHand_90 (by decide) (fun _ => ?_) (fun c0 => absurd c0 (by decide))
                  refine lv_iload_n hx hb dX5_totalOfHand_102 rfl (lv_at hl 1 rfl) ?_
                  refine lv_topi (fun x1_103 ex1_103 => ?_)
                  have h := jl_lt_o h ex1_103
                  refine lv_istore_n (lv' := [(1, .int x1_103), (0, .ref (B 0)), (2, .int x2L6), (3, .int x3L6)]) hx hb dX5_totalOfHand_103 rfl hl (by decide) rfl (fun ls hl => ?_)
                  refine lv_iconst (v := 1) hx hb dX5_totalOfHand_104 (by decide) ?_
                  refine lv_topi (fun x2_105 ex2_105 => ?_)
                  have h := jl_lt_o h ex2_105
                  refine lv_istore_n (lv' := [(2, .int x2_105), (1, .int x1_103), (0, .ref (B 0)), (3, .int x3L6)]) hx hb dX5_totalOfHand_105 rfl hl (by decide) rfl (fun ls hl => ?_)
                  obtain ⟨x3_106, ex3_106⟩ : ∃ y : Int32, y = x3L6 + 1 := ⟨_, rfl⟩
                  have h := jl_lt_o h ex3_106
                  refine lv_iinc (v := x3_106) (lv' := [(3, .int x3_106), (2, .int x2_105), (1, .int x1_103), (0, .ref (B 0))]) hx hb dX5_totalOfHand_106 hl (k := 3) rfl (by rw [ex3_106]; rfl) (by decide) rfl (fun ls hl => ?_)
                  refine lv_goto (tgt := 6) hx hb dX5_totalOfHand_109 (by decide) ?_
                  exact ih6 _ _ _ _ (jl_L (Option.some.inj h) hz6) _ _ _ hP hS (lv_sub hl [3, 2, 1, 0] rfl)
              · have h := jl_iff c_69 h
                refine lv_iconst (v := 1) hx hb dX5_totalOfHand_72 (by decide) ?_
                refine lv_goto (tgt := 77) hx hb dX5_totalOfHand_73 (by decide) ?_
                refine lv_aload_n hx hb dX5_totalOfHand_77 rfl (lv_at hl 0 rfl) ?_
                refine jy_g_X5_rule hx hb hts hiX5 hown hK hP hf88 dX5_totalOfHand_78 ?_
                refine lv_iconst (v := 1) hx hb dX5_totalOfHand_81 (by decide) ?_
                refine lv_icmp_ne (tgt := 89) hx hb dX5_totalOfHand_82 (by decide) (fun c_82 => ?_) (fun c_82 => ?_)
                · have h := jl_iff c_82 h
                  refine lv_iconst (v := 0) hx hb dX5_totalOfHand_89 (by decide) ?_
                  refine lv_icmp_ne (tgt := 102) hx hb dX5_totalOfHand_90 (by decide) (fun _ => ?_) (fun c0 => absurd c0 (by decide))
                  refine lv_iload_n hx hb dX5_totalOfHand_102 rfl (lv_at hl 1 rfl) ?_
                  refine lv_topi (fun x1_103 ex1_103 => ?_)
                  have h := jl_lt_o h ex1_103
                  refine lv_istore_n (lv' := [(1, .int x1_103), (0, .ref (B 0)), (2, .int x2L6), (3, .int x3L6)]) hx hb dX5_totalOfHand_103 rfl hl (by decide) rfl (fun ls hl => ?_)
                  refine lv_iconst (v := 1) hx hb dX5_totalOfHand_104 (by decide) ?_
                  refine lv_topi (fun x2_105 ex2_105 => ?_)
                  have h := jl_lt_o h ex2_105
                  refine lv_istore_n (lv' := [(2, .int x2_105), (1, .int x1_103), (0, .ref (B 0)), (3, .int x3L6)]) hx hb dX5_totalOfHand_105 rfl hl (by decide) rfl (fun ls hl => ?_)
                  obtain ⟨x3_106, ex3_106⟩ : ∃ y : Int32, y = x3L6 + 1 := ⟨_, rfl⟩
                  have h := jl_lt_o h ex3_106
                  refine lv_iinc (v := x3_106) (lv' := [(3, .int x3_106), (2, .int x2_105), (1, .int x1_103), (0, .ref (B 0))]) hx hb dX5_totalOfHand_106 hl (k := 3) rfl (by rw [ex3_106]; rfl) (by decide) rfl (fun ls hl => ?_)
                  refine lv_goto (tgt := 6) hx hb dX5_totalOfHand_109 (by decide) ?_
                  exact ih6 _ _ _ _ (jl_L (Option.some.inj h) hz6) _ _ _ hP hS (lv_sub hl [3, 2, 1, 0] rfl)
                · have h := jl_ift c_82 h
                  refine lv_iconst (v := 1) hx hb dX5_totalOfHand_85 (by decide) ?_
                  refine lv_goto (tgt := 90) hx hb dX5_totalOfHand_86 (by decide) ?_
                  refine lv_icmp_ne (tgt := 102) hx hb dX5_totalOfHand_90 (by decide) (fun c0 => absurd c0 (by decide)) (fun _ => ?_)
                  refine lv_aload_n hx hb dX5_totalOfHand_93 rfl (lv_at hl 0 rfl) ?_
                  refine jy_g_X5_hand hx hb hts hiX5 hown hK hP hf28 dX5_totalOfHand_94 ?_
                  refine lv_iload_n hx hb dX5_totalOfHand_97 rfl (lv_at hl 3 rfl) ?_
                  refine jy_iaload hx hb hK hP rfl i_45 dX5_totalOfHand_98 ?_
                  refine lv_goto (tgt := 103) hx hb dX5_totalOfHand_99 (by decide) ?_
                  refine lv_topi (fun x1_103 ex1_103 => ?_)
                  have h := jl_lt_o h ex1_103
                  refine lv_istore_n (lv' := [(1, .int x1_103), (0, .ref (B 0)), (2, .int x2L6), (3, .int x3L6)]) hx hb dX5_totalOfHand_103 rfl hl (by decide) rfl (fun ls hl => ?_)
                  refine lv_iconst (v := 1) hx hb dX5_totalOfHand_104 (by decide) ?_
                  refine lv_topi (fun x2_105 ex2_105 => ?_)
                  have h := jl_lt_o h ex2_105
                  refine lv_istore_n (lv' := [(2, .int x2_105), (1, .int x1_103), (0, .ref (B 0)), (3, .int x3L6)]) hx hb dX5_totalOfHand_105 rfl hl (by decide) rfl (fun ls hl => ?_)
                  obtain ⟨x3_106, ex3_106⟩ : ∃ y : Int32, y = x3L6 + 1 := ⟨_, rfl⟩
                  have h := jl_lt_o h ex3_106
                  refine lv_iinc (v := x3_106) (lv' := [(3, .int x3_106), (2, .int x2_105), (1, .int x1_103), (0, .ref (B 0))]) hx hb dX5_totalOfHand_106 hl (k := 3) rfl (by rw [ex3_106]; rfl) (by decide) rfl (fun ls hl => ?_)
                  refine lv_goto (tgt := 6) hx hb dX5_totalOfHand_109 (by decide) ?_
                  exact ih6 _ _ _ _ (jl_L (Option.some.inj h) hz6) _ _ _ hP hS (lv_sub hl [3, 2, 1, 0] rfl)
            · have h := jl_ift c_50 h
              refine lv_aload_n hx hb dX5_totalOfHand_53 rfl (lv_at hl 0 rfl) ?_
              refine jy_g_X5_hand hx hb hts hiX5 hown hK hP hf28 dX5_totalOfHand_54 ?_
              refine lv_iload_n hx hb dX5_totalOfHand_57 rfl (lv_at hl 3 rfl) ?_
              refine jy_iaload hx hb hK hP rfl i_45 dX5_totalOfHand_58 ?_
              refine lv_goto (tgt := 103) hx hb dX5_totalOfHand_59 (by decide) ?_
              refine lv_topi (fun x1_103 ex1_103 => ?_)
              have h := jl_lt_o h ex1_103
              refine lv_istore_n (lv' := [(1, .int x1_103), (0, .ref (B 0)), (2, .int x2L6), (3, .int x3L6)]) hx hb dX5_totalOfHand_103 rfl hl (by decide) rfl (fun ls hl => ?_)
              refine lv_iconst (v := 1) hx hb dX5_totalOfHand_104 (by decide) ?_
              refine lv_topi (fun x2_105 ex2_105 => ?_)
              have h := jl_lt_o h ex2_105
              refine lv_istore_n (lv' := [(2, .int x2_105), (1, .int x1_103), (0, .ref (B 0)), (3, .int x3L6)]) hx hb dX5_totalOfHand_105 rfl hl (by decide) rfl (fun ls hl => ?_)
              obtain ⟨x3_106, ex3_106⟩ : ∃ y : Int32, y = x3L6 + 1 := ⟨_, rfl⟩
              have h := jl_lt_o h ex3_106
              refine lv_iinc (v := x3_106) (lv' := [(3, .int x3_106), (2, .int x2_105), (1, .int x1_103), (0, .ref (B 0))]) hx hb dX5_totalOfHand_106 hl (k := 3) rfl (by rw [ex3_106]; rfl) (by decide) rfl (fun ls hl => ?_)
              refine lv_goto (tgt := 6) hx hb dX5_totalOfHand_109 (by decide) ?_
              exact ih6 _ _ _ _ (jl_L (Option.some.inj h) hz6) _ _ _ hP hS (lv_sub hl [3, 2, 1, 0] rfl)
        · have h := jl_ift c_18 h
          refine lv_iload_n hx hb dX5_totalOfHand_21 rfl (lv_at hl 1 rfl) ?_
          refine lv_aload_n hx hb dX5_totalOfHand_22 rfl (lv_at hl 0 rfl) ?_
          refine jy_g_X5_weight hx hb hts hiX5 hown hK hP hf7 dX5_totalOfHand_23 ?_
          refine lv_iload_n hx hb dX5_totalOfHand_26 rfl (lv_at hl 3 rfl) ?_
          obtain ⟨i_27, h⟩ := jl_chk_o h
          refine jy_iaload hx hb hK hP rfl i_27 dX5_totalOfHand_27 ?_
          refine lv_aload_n hx hb dX5_totalOfHand_28 rfl (lv_at hl 0 rfl) ?_
          refine jy_g_X5_hand hx hb hts hiX5 hown hK hP hf28 dX5_totalOfHand_29 ?_
          refine lv_iload_n hx hb dX5_totalOfHand_32 rfl (lv_at hl 3 rfl) ?_
          refine jy_iaload hx hb hK hP rfl i_27 dX5_totalOfHand_33 ?_
          refine lv_imul hx hb dX5_totalOfHand_34 ?_
          refine lv_iadd hx hb dX5_totalOfHand_35 ?_
          refine lv_topi (fun x1_36 ex1_36 => ?_)
          have h := jl_lt_o h ex1_36
          refine lv_istore_n (lv' := [(1, .int x1_36), (0, .ref (B 0)), (2, .int x2L6), (3, .int x3L6)]) hx hb dX5_totalOfHand_36 rfl hl (by decide) rfl (fun ls hl => ?_)
          refine lv_goto (tgt := 106) hx hb dX5_totalOfHand_37 (by decide) ?_
          obtain ⟨x3_106, ex3_106⟩ : ∃ y : Int32, y = x3L6 + 1 := ⟨_, rfl⟩
          have h := jl_lt_o h ex3_106
          refine lv_iinc (v := x3_106) (lv' := [(3, .int x3_106), (1, .int x1_36), (0, .ref (B 0)), (2, .int x2L6)]) hx hb dX5_totalOfHand_106 hl (k := 3) rfl (by rw [ex3_106]; rfl) (by decide) rfl (fun ls hl => ?_)
          refine lv_goto (tgt := 6) hx hb dX5_totalOfHand_109 (by decide) ?_
          exact ih6 _ _ _ _ (jl_L (Option.some.inj h) hz6) _ _ _ hP hS (lv_sub hl [2, 1, 3, 0] rfl)
  exact k6 _ _ _ _ _ h _ _ _ hP hS (lv_sub hl [3, 2, 1, 0] rfl)
theorem jc_X5_totalOfHand {z : Int32 × jl_Mem} (h : jf_X5_totalOfHand M = some z) : Met l yX5_totalOfHand wsX5_totalOfHand ({ frames := 0, cells := 0, slots := 0, locals := 0 }) (va_Pc [.ref (B 0)] (jy_U D cI cT B M)) (va_Qi (fun (q : Int32) (_ : Unit) => q = z.1) (fun _ t => va_P D vwCl (jy_w cI cT B z.2) t.heap) (jy_A B)) 0 0 (jy_A B) := by
  refine Met.ofW (cc := cX5_totalOfHand) (maxL := 4) (ret := (some .int)) (by decide) rfl ?_
  intro p e s m args below meth c s1 BB hml hv
  obtain ⟨rfl, hK, hP, hB, hN⟩ := hv
  have hl := lv_entry ([.ref (B 0)]) (n := 4) (Nat.le_of_ble_eq_true rfl)
  rw [lg_entry_eq]
  generalize (lg_sl ([.ref (B 0)]) ++ List.replicate (4 - (lg_sl ([.ref (B 0)])).length) Slot.unset).toArray = ls at hl ⊢
  exact jb_X5_totalOfHand BB.exec BB.bytes hml (findClass_of_methodNamed BB.named) (atoms_spec (ws := wsX5_totalOfHand) BB.pre) hK hB hN (Nat.le_refl _) (Nat.le_refl _) h (fun v M1 H locs pc ls e1 hd hP hS => W.iret BB.exec BB.bytes BB.returns (fun t ht hW => ⟨⟨_, (), rfl, by rw [← e1], by show va_P D vwCl (jy_w cI cT B z.2) t.heap; rw [ht, ← e1]; exact hP⟩, hS.F ht⟩) hS.2.2 hd BB.notSynchronized) hP va_S.rf hl
end
section
variable {p : Program} {l : Launch} {e : Env} {R : Room} {s : State} {m : MethodId} {args : Array Value} {below : List Frame} {meth : Method} {c : Code} {H : Heap} {locs : List Loc} {Q : State → Prop} {ls : Array Slot} {D : va_G} {cI cT : ClassId} {B : Nat → Nat} {M : jl_Mem} {H0 : Heap}
set_option maxHeartbeats 4000000 in
set_option maxRecDepth 100000 in
theorem jb_X5_totalOf (hx : p.tables.exec = Jvm.exec) (hb : c.code = cX5_totalOf) (hml : c.maxLocals = 3) (hown : s.vm.findClass RX5 = some m.cls) (hts : ∀ w ∈ wsX5_totalOf, w.before args s = true) (hK : va_K D vwCl (jy_ty cI cT) s) (hB : jy_inj B) (hN : jy_N s) (hRf : 1 ≤ R.frames) (hRl : 23 ≤ R.locals) {a1 : Int32} {z : Int32 × jl_Mem} (h : jf_X5_totalOf a1 M = some z)
    (kr : ∀ (v : Int32) (M1 : jl_Mem) (H1 : Heap) (locs1 : List Loc) (pc1 : Nat) (ls1 : Array Slot), (v, M1) = z → decode cX5_totalOf pc1 = .ok (.ireturn, 1) → va_P D vwCl (jy_w cI cT B M1) H1 → va_S (jy_A B) H0 H1 locs1 → W p l e R s m args below meth c H1 locs1 0 0 Q (F0 m pc1 ls1 [.int v]))
    (hP : va_P D vwCl (jy_w cI cT B M) H) (hS : va_S (jy_A B) H0 H locs) (hl : lv_has ls 3 [(0, .ref (B 0)), (1, .int a1)]) : W p l e R s m args below meth c H locs 0 0 Q (F0 m 0 ls []) := by
  unfold jf_X5_totalOf at h
  have hiX5 : ∀ w ∈ wsX50, w ∈ wsX5_totalOf := by decide +kernel
  have hf70 := hts (.fieldLink RX5 70 "JudgesListsModel" "lists" "I") (by decide +kernel)
  have hf28 := hts (.fieldLink RX5 28 "JudgesListsModel" "hand" "[I") (by decide +kernel)
  have hf19 := hts (.fieldLink RX5 19 "JudgesListsModel" "mark" "[I") (by decide +kernel)
  refine lv_iconst (v := 0) hx hb dX5_totalOf_0 (by decide) ?_
  refine lv_topi (fun x2_1 ex2_1 => ?_)
  have h := jl_lt_o h ex2_1
  refine lv_istore_n (lv' := [(2, .int x2_1), (0, .ref (B 0)), (1, .int a1)]) hx hb dX5_totalOf_1 rfl hl (by decide) rfl (fun ls hl => ?_)
  have k2 : ∀ (n2 : Nat) (x2L2 : Int32) (ML2 : jl_Mem), jl_wh (fun q => jf_X5_totalOf_L2 a1 q.1 q.2) n2 (x2L2, ML2) = some z → ∀ (H : Heap) (locs : List Loc) (ls : Array Slot), va_P D vwCl (jy_w cI cT B ML2) H → va_S (jy_A B) H0 H locs → lv_has ls 3 [(0, .ref (B 0)), (1, .int a1), (2, .int x2L2)] → W p l e R s m args below meth c H locs 0 0 Q (F0 m 2 ls []) := by
    intro n2
    induction n2 with
    | zero => exact fun _ _ h => (jl_wh_0 h).elim
    | succ n2 ih2 =>
      intro x2L2 ML2 h H locs ls hP hS hl
      obtain ⟨o2, h, hz2⟩ := jl_wh_s h
      replace h : jf_X5_totalOf_L2 a1 x2L2 ML2 = some o2 := h
      unfold jf_X5_totalOf_L2 at h
      refine lv_iload_n hx hb dX5_totalOf_2 rfl (lv_at hl 2 rfl) ?_
      refine lv_aload_n hx hb dX5_totalOf_3 rfl (lv_at hl 0 rfl) ?_
      refine jy_g_X5_lists hx hb hts hiX5 hown hK hP hf70 dX5_totalOf_4 ?_
      refine lv_icmp_ge (tgt := 33) hx hb dX5_totalOf_7 (by decide) (fun c_7 => ?_) (fun c_7 => ?_)
      · have h := jl_ift c_7 h
        have h := jl_ex_o h hz2
        refine lv_aload_n hx hb dX5_totalOf_33 rfl (lv_at hl 0 rfl) ?_
        obtain ⟨r_34, M_34, hc_34, h⟩ := jl_bnd_o h
        refine jy_callVi (As := []) (rest := []) ⟨hx, hb, hml, hown, hts⟩ (jc_X5_totalOfHand hc_34) (cwV 0 hts gX5_totalOf_X5_totalOfHand rfl rfl rfl (by decide +kernel) ⟨Nat.le_trans (by decide) hRf, Nat.le_trans (by decide) hRl⟩) (jy_rv_X5 hK hP) hK hB hN hP hS rfl dX5_totalOf_34 rfl hl.1 (Nat.le_of_ble_eq_true rfl) ⟨Nat.zero_le _, Nat.zero_le _⟩ (fun H locs hP hS => ?_)
        exact kr _ _ _ _ _ _ (Option.some.inj h) dX5_totalOf_37 hP hS
      · have h := jl_iff c_7 h
        refine lv_aload_n hx hb dX5_totalOf_10 rfl (lv_at hl 0 rfl) ?_
        refine jy_g_X5_hand hx hb hts hiX5 hown hK hP hf28 dX5_totalOf_11 ?_
        refine lv_iload_n hx hb dX5_totalOf_14 rfl (lv_at hl 2 rfl) ?_
        refine lv_aload_n hx hb dX5_totalOf_15 rfl (lv_at hl 0 rfl) ?_
        refine jy_g_X5_mark hx hb hts hiX5 hown hK hP hf19 dX5_totalOf_16 ?_
        refine lv_bipush (v := 20) hx hb dX5_totalOf_19 (by decide) ?_
        refine lv_iload_n hx hb dX5_totalOf_21 rfl (lv_at hl 2 rfl) ?_
        refine lv_imul hx hb dX5_totalOf_22 ?_
        refine lv_iload_n hx hb dX5_totalOf_23 rfl (lv_at hl 1 rfl) ?_
        refine lv_iadd hx hb dX5_totalOf_24 ?_
        obtain ⟨i_25, h⟩ := jl_chk_o h
        refine jy_iaload hx hb hK hP rfl i_25 dX5_totalOf_25 ?_
        obtain ⟨i_26, h⟩ := jl_chk_o h
        refine jy_iastore hx hb hK hB hP hS rfl i_26 dX5_totalOf_26 (fun M_26 H locs eM_26 hP hS => ?_)
        have h := jl_lt_o h eM_26
        obtain ⟨x2_27, ex2_27⟩ : ∃ y : Int32, y = x2L2 + 1 := ⟨_, rfl⟩
        have h := jl_lt_o h ex2_27
        refine lv_iinc (v := x2_27) (lv' := [(2, .int x2_27), (0, .ref (B 0)), (1, .int a1)]) hx hb dX5_totalOf_27 hl (k := 2) rfl (by rw [ex2_27]; rfl) (by decide) rfl (fun ls hl => ?_)
        refine lv_goto (tgt := 2) hx hb dX5_totalOf_30 (by decide) ?_
        exact ih2 _ _ (jl_L (Option.some.inj h) hz2) _ _ _ hP hS (lv_sub hl [1, 2, 0] rfl)
  exact k2 _ _ _ h _ _ _ hP hS (lv_sub hl [1, 2, 0] rfl)
theorem jc_X5_totalOf {a1 : Int32} {z : Int32 × jl_Mem} (h : jf_X5_totalOf a1 M = some z) : Met l yX5_totalOf wsX5_totalOf ({ frames := 1, cells := 0, slots := 0, locals := 23 }) (va_Pc [.ref (B 0), .int a1] (jy_U D cI cT B M)) (va_Qi (fun (q : Int32) (_ : Unit) => q = z.1) (fun _ t => va_P D vwCl (jy_w cI cT B z.2) t.heap) (jy_A B)) 0 0 (jy_A B) := by
  refine Met.ofW (cc := cX5_totalOf) (maxL := 3) (ret := (some .int)) (by decide) rfl ?_
  intro p e s m args below meth c s1 BB hml hv
  obtain ⟨rfl, hK, hP, hB, hN⟩ := hv
  have hl := lv_entry ([.ref (B 0), .int a1]) (n := 3) (Nat.le_of_ble_eq_true rfl)
  rw [lg_entry_eq]
  generalize (lg_sl ([.ref (B 0), .int a1]) ++ List.replicate (3 - (lg_sl ([.ref (B 0), .int a1])).length) Slot.unset).toArray = ls at hl ⊢
  exact jb_X5_totalOf BB.exec BB.bytes hml (findClass_of_methodNamed BB.named) (atoms_spec (ws := wsX5_totalOf) BB.pre) hK hB hN (Nat.le_refl _) (Nat.le_refl _) h (fun v M1 H locs pc ls e1 hd hP hS => W.iret BB.exec BB.bytes BB.returns (fun t ht hW => ⟨⟨_, (), rfl, by rw [← e1], by show va_P D vwCl (jy_w cI cT B z.2) t.heap; rw [ht, ← e1]; exact hP⟩, hS.F ht⟩) hS.2.2 hd BB.notSynchronized) hP va_S.rf hl
end
section
variable {p : Program} {l : Launch} {e : Env} {R : Room} {s : State} {m : MethodId} {args : Array Value} {below : List Frame} {meth : Method} {c : Code} {H : Heap} {locs : List Loc} {Q : State → Prop} {ls : Array Slot} {D : va_G} {cI cT : ClassId} {B : Nat → Nat} {M : jl_Mem} {H0 : Heap}
set_option maxHeartbeats 4000000 in
set_option maxRecDepth 100000 in
theorem jb_X5_total (hx : p.tables.exec = Jvm.exec) (hb : c.code = cX5_total) (hml : c.maxLocals = 2) (hown : s.vm.findClass RX5 = some m.cls) (hts : ∀ w ∈ wsX5_total, w.before args s = true) (hK : va_K D vwCl (jy_ty cI cT) s) (hB : jy_inj B) (hN : jy_N s) (hRf : 2 ≤ R.frames) (hRl : 45 ≤ R.locals) {a1 : Int32} {z : Int32 × jl_Mem} (h : jf_X5_total a1 M = some z)
    (kr : ∀ (v : Int32) (M1 : jl_Mem) (H1 : Heap) (locs1 : List Loc) (pc1 : Nat) (ls1 : Array Slot), (v, M1) = z → decode cX5_total pc1 = .ok (.ireturn, 1) → va_P D vwCl (jy_w cI cT B M1) H1 → va_S (jy_A B) H0 H1 locs1 → W p l e R s m args below meth c H1 locs1 0 0 Q (F0 m pc1 ls1 [.int v]))
    (hP : va_P D vwCl (jy_w cI cT B M) H) (hS : va_S (jy_A B) H0 H locs) (hl : lv_has ls 2 [(0, .ref (B 0)), (1, .int a1)]) : W p l e R s m args below meth c H locs 0 0 Q (F0 m 0 ls []) := by
  unfold jf_X5_total at h
  refine lv_aload_n hx hb dX5_total_0 rfl (lv_at hl 0 rfl) ?_
  refine lv_iload_n hx hb dX5_total_1 rfl (lv_at hl 1 rfl) ?_
  obtain ⟨r_2, M_2, hc_2, h⟩ := jl_bnd_o h
  refine jy_callVi (As := [.int a1]) (rest := []) ⟨hx, hb, hml, hown, hts⟩ (jc_X5_isThing hc_2) (cwV 1 hts gX5_total_X5_isThing rfl rfl rfl (by decide +kernel) ⟨Nat.le_trans (by decide) hRf, Nat.le_trans (by decide) hRl⟩) (jy_rv_X5 hK hP) hK hB hN hP hS rfl dX5_total_2 rfl hl.1 (Nat.le_of_ble_eq_true rfl) ⟨Nat.zero_le _, Nat.zero_le _⟩ (fun H locs hP hS => ?_)
  refine lv_if_eq (tgt := 16) hx hb dX5_total_5 (by decide) (fun c_5 => ?_) (fun c_5 => ?_)
  · have h := jl_ift c_5 h
    refine lv_iconst (v := (-1)) hx hb dX5_total_16 (by decide) ?_
    exact kr _ _ _ _ _ _ (Option.some.inj h) dX5_total_17 hP hS
  · have h := jl_iff c_5 h
    refine lv_aload_n hx hb dX5_total_8 rfl (lv_at hl 0 rfl) ?_
    refine lv_iload_n hx hb dX5_total_9 rfl (lv_at hl 1 rfl) ?_
    obtain ⟨r_10, M_10, hc_10, h⟩ := jl_bnd_o h
    refine jy_callVi (As := [.int a1]) (rest := []) ⟨hx, hb, hml, hown, hts⟩ (jc_X5_totalOf hc_10) (cwV 1 hts gX5_total_X5_totalOf rfl rfl rfl (by decide +kernel) ⟨Nat.le_trans (by decide) hRf, Nat.le_trans (by decide) hRl⟩) (jy_rv_X5 hK hP) hK hB hN hP hS rfl dX5_total_10 rfl hl.1 (Nat.le_of_ble_eq_true rfl) ⟨Nat.zero_le _, Nat.zero_le _⟩ (fun H locs hP hS => ?_)
    refine lv_goto (tgt := 17) hx hb dX5_total_13 (by decide) ?_
    exact kr _ _ _ _ _ _ (Option.some.inj h) dX5_total_17 hP hS
theorem jc_X5_total {a1 : Int32} {z : Int32 × jl_Mem} (h : jf_X5_total a1 M = some z) : Met l yX5_total wsX5_total ({ frames := 2, cells := 0, slots := 0, locals := 45 }) (va_Pc [.ref (B 0), .int a1] (jy_U D cI cT B M)) (va_Qi (fun (q : Int32) (_ : Unit) => q = z.1) (fun _ t => va_P D vwCl (jy_w cI cT B z.2) t.heap) (jy_A B)) 0 0 (jy_A B) := by
  refine Met.ofW (cc := cX5_total) (maxL := 2) (ret := (some .int)) (by decide) rfl ?_
  intro p e s m args below meth c s1 BB hml hv
  obtain ⟨rfl, hK, hP, hB, hN⟩ := hv
  have hl := lv_entry ([.ref (B 0), .int a1]) (n := 2) (Nat.le_of_ble_eq_true rfl)
  rw [lg_entry_eq]
  generalize (lg_sl ([.ref (B 0), .int a1]) ++ List.replicate (2 - (lg_sl ([.ref (B 0), .int a1])).length) Slot.unset).toArray = ls at hl ⊢
  exact jb_X5_total BB.exec BB.bytes hml (findClass_of_methodNamed BB.named) (atoms_spec (ws := wsX5_total) BB.pre) hK hB hN (Nat.le_refl _) (Nat.le_refl _) h (fun v M1 H locs pc ls e1 hd hP hS => W.iret BB.exec BB.bytes BB.returns (fun t ht hW => ⟨⟨_, (), rfl, by rw [← e1], by show va_P D vwCl (jy_w cI cT B z.2) t.heap; rw [ht, ← e1]; exact hP⟩, hS.F ht⟩) hS.2.2 hd BB.notSynchronized) hP va_S.rf hl
end
section
variable {p : Program} {l : Launch} {e : Env} {R : Room} {s : State} {m : MethodId} {args : Array Value} {below : List Frame} {meth : Method} {c : Code} {H : Heap} {locs : List Loc} {Q : State → Prop} {ls : Array Slot} {D : va_G} {cI cT : ClassId} {B : Nat → Nat} {M : jl_Mem} {H0 : Heap}
set_option maxHeartbeats 4000000 in
set_option maxRecDepth 100000 in
theorem jb_X5_best (hx : p.tables.exec = Jvm.exec) (hb : c.code = cX5_best) (hml : c.maxLocals = 5) (hown : s.vm.findClass RX5 = some m.cls) (hts : ∀ w ∈ wsX5_best, w.before args s = true) (hK : va_K D vwCl (jy_ty cI cT) s) (hB : jy_inj B) (hN : jy_N s) (hRf : 2 ≤ R.frames) (hRl : 45 ≤ R.locals) {a1 : Int32} {z : Int32 × jl_Mem} (h : jf_X5_best a1 M = some z)
    (kr : ∀ (v : Int32) (M1 : jl_Mem) (H1 : Heap) (locs1 : List Loc) (pc1 : Nat) (ls1 : Array Slot), (v, M1) = z → decode cX5_best pc1 = .ok (.ireturn, 1) → va_P D vwCl (jy_w cI cT B M1) H1 → va_S (jy_A B) H0 H1 locs1 → W p l e R s m args below meth c H1 locs1 0 0 Q (F0 m pc1 ls1 [.int v]))
    (hP : va_P D vwCl (jy_w cI cT B M) H) (hS : va_S (jy_A B) H0 H locs) (hl : lv_has ls 5 [(0, .ref (B 0)), (1, .int a1)]) : W p l e R s m args below meth c H locs 0 0 Q (F0 m 0 ls []) := by
  unfold jf_X5_best at h
  have hiX5 : ∀ w ∈ wsX50, w ∈ wsX5_best := by decide +kernel
  have hf63 := hts (.fieldLink RX5 63 "JudgesListsModel" "things" "I") (by decide +kernel)
  refine lv_aload_n hx hb dX5_best_0 rfl (lv_at hl 0 rfl) ?_
  refine lv_iload_n hx hb dX5_best_1 rfl (lv_at hl 1 rfl) ?_
  obtain ⟨r_2, M_2, hc_2, h⟩ := jl_bnd_o h
  refine jy_callVi (As := [.int a1]) (rest := []) ⟨hx, hb, hml, hown, hts⟩ (jc_X5_isThing hc_2) (cwV 1 hts gX5_best_X5_isThing rfl rfl rfl (by decide +kernel) ⟨Nat.le_trans (by decide) hRf, Nat.le_trans (by decide) hRl⟩) (jy_rv_X5 hK hP) hK hB hN hP hS rfl dX5_best_2 rfl hl.1 (Nat.le_of_ble_eq_true rfl) ⟨Nat.zero_le _, Nat.zero_le _⟩ (fun H locs hP hS => ?_)
  refine lv_if_ne (tgt := 10) hx hb dX5_best_5 (by decide) (fun c_5 => ?_) (fun c_5 => ?_)
  · have h := jl_iff c_5 h
    refine lv_iconst (v := 0) hx hb dX5_best_10 (by decide) ?_
    refine lv_topi (fun x2_11 ex2_11 => ?_)
    have h := jl_lt_o h ex2_11
    refine lv_istore_n (lv' := [(2, .int x2_11), (0, .ref (B 0)), (1, .int a1)]) hx hb dX5_best_11 rfl hl (by decide) rfl (fun ls hl => ?_)
    have k12 : ∀ (n12 : Nat) (x2L12 : Int32) (ML12 : jl_Mem), jl_wh (fun q => jf_X5_best_L12 a1 q.1 q.2) n12 (x2L12, ML12) = some z → ∀ (H : Heap) (locs : List Loc) (ls : Array Slot), va_P D vwCl (jy_w cI cT B ML12) H → va_S (jy_A B) H0 H locs → lv_has ls 5 [(0, .ref (B 0)), (1, .int a1), (2, .int x2L12)] → W p l e R s m args below meth c H locs 0 0 Q (F0 m 12 ls []) := by
      intro n12
      induction n12 with
      | zero => exact fun _ _ h => (jl_wh_0 h).elim
      | succ n12 ih12 =>
        intro x2L12 ML12 h H locs ls hP hS hl
        obtain ⟨o12, h, hz12⟩ := jl_wh_s h
        replace h : jf_X5_best_L12 a1 x2L12 ML12 = some o12 := h
        unfold jf_X5_best_L12 at h
        refine lv_iload_n hx hb dX5_best_12 rfl (lv_at hl 2 rfl) ?_
        refine lv_aload_n hx hb dX5_best_13 rfl (lv_at hl 0 rfl) ?_
        refine jy_g_X5_things hx hb hts hiX5 hown hK hP hf63 dX5_best_14 ?_
        refine lv_icmp_ge (tgt := 95) hx hb dX5_best_17 (by decide) (fun c_17 => ?_) (fun c_17 => ?_)
        · have h := jl_ift c_17 h
          have h := jl_ex_o h hz12
          refine lv_iconst (v := (-1)) hx hb dX5_best_95 (by decide) ?_
          exact kr _ _ _ _ _ _ (Option.some.inj h) dX5_best_96 hP hS
        · have h := jl_iff c_17 h
          refine lv_iconst (v := 0) hx hb dX5_best_20 (by decide) ?_
          refine lv_topi (fun x3_21 ex3_21 => ?_)
          have h := jl_lt_o h ex3_21
          refine lv_istore_n (lv' := [(3, .int x3_21), (0, .ref (B 0)), (1, .int a1), (2, .int x2L12)]) hx hb dX5_best_21 rfl hl (by decide) rfl (fun ls hl => ?_)
          refine lv_iconst (v := 0) hx hb dX5_best_22 (by decide) ?_
          refine lv_topi (fun x4_23 ex4_23 => ?_)
          have h := jl_lt_o h ex4_23
          refine lv_istore (lv' := [(4, .int x4_23), (3, .int x3_21), (0, .ref (B 0)), (1, .int a1), (2, .int x2L12)]) hx hb dX5_best_23 hl (by decide) rfl (fun ls hl => ?_)
          have k25 : ∀ (n25 : Nat) (x3L25 : Int32) (x4L25 : Int32) (ML25 : jl_Mem), jl_wh (fun q => jf_X5_best_L25 a1 x2L12 q.1 q.2.1 q.2.2) n25 (x3L25, x4L25, ML25) = some o12 → ∀ (H : Heap) (locs : List Loc) (ls : Array Slot), va_P D vwCl (jy_w cI cT B ML25) H → va_S (jy_A B) H0 H locs → lv_has ls 5 [(0, .ref (B 0)), (1, .int a1), (2, .int x2L12), (3, .int x3L25), (4, .int x4L25)] → W p l e R s m args below meth c H locs 0 0 Q (F0 m 25 ls []) := by
            intro n25
            induction n25 with
            | zero => exact fun _ _ _ h => (jl_wh_0 h).elim
            | succ n25 ih25 =>
              intro x3L25 x4L25 ML25 h H locs ls hP hS hl
              obtain ⟨o25, h, hz25⟩ := jl_wh_s h
              replace h : jf_X5_best_L25 a1 x2L12 x3L25 x4L25 ML25 = some o25 := h
              unfold jf_X5_best_L25 at h
              refine lv_iload hx hb dX5_best_25 (lv_at hl 4 rfl) ?_
              refine lv_aload_n hx hb dX5_best_27 rfl (lv_at hl 0 rfl) ?_
              refine jy_g_X5_things hx hb hts hiX5 hown hK hP hf63 dX5_best_28 ?_
              refine lv_icmp_ge (tgt := 82) hx hb dX5_best_31 (by decide) (fun c_31 => ?_) (fun c_31 => ?_)
              · have h := jl_ift c_31 h
                have h := jl_ex_o h hz25
                refine lv_iload_n hx hb dX5_best_82 rfl (lv_at hl 3 rfl) ?_
                refine lv_iload_n hx hb dX5_best_83 rfl (lv_at hl 1 rfl) ?_
                refine lv_icmp_ne (tgt := 89) hx hb dX5_best_84 (by decide) (fun c_84 => ?_) (fun c_84 => ?_)
                · have h := jl_iff c_84 h
                  obtain ⟨x2_89, ex2_89⟩ : ∃ y : Int32, y = x2L12 + 1 := ⟨_, rfl⟩
                  have h := jl_lt_o h ex2_89
                  refine lv_iinc (v := x2_89) (lv' := [(2, .int x2_89), (0, .ref (B 0)), (1, .int a1), (3, .int x3L25), (4, .int x4L25)]) hx hb dX5_best_89 hl (k := 2) rfl (by rw [ex2_89]; rfl) (by decide) rfl (fun ls hl => ?_)
                  refine lv_goto (tgt := 12) hx hb dX5_best_92 (by decide) ?_
                  exact ih12 _ _ (jl_L (Option.some.inj h) hz12) _ _ _ hP hS (lv_sub hl [1, 2, 0] rfl)
                · have h := jl_ift c_84 h
                  have h := jl_ex_o h hz12
                  refine lv_iload_n hx hb dX5_best_87 rfl (lv_at hl 2 rfl) ?_
                  exact kr _ _ _ _ _ _ (Option.some.inj h) dX5_best_88 hP hS
              · have h := jl_iff c_31 h
                refine lv_iload_n hx hb dX5_best_34 rfl (lv_at hl 3 rfl) ?_
                refine lv_aload_n hx hb dX5_best_35 rfl (lv_at hl 0 rfl) ?_
                refine lv_iload hx hb dX5_best_36 (lv_at hl 4 rfl) ?_
                obtain ⟨r_38, M_38, hc_38, h⟩ := jl_bnd_o h
                refine jy_callVi (As := [.int x4L25]) (rest := [.int x3L25]) ⟨hx, hb, hml, hown, hts⟩ (jc_X5_totalOf hc_38) (cwV 1 hts gX5_best_X5_totalOf rfl rfl rfl (by decide +kernel) ⟨Nat.le_trans (by decide) hRf, Nat.le_trans (by decide) hRl⟩) (jy_rv_X5 hK hP) hK hB hN hP hS rfl dX5_best_38 rfl hl.1 (Nat.le_of_ble_eq_true rfl) ⟨Nat.zero_le _, Nat.zero_le _⟩ (fun H locs hP hS => ?_)
                refine lv_aload_n hx hb dX5_best_41 rfl (lv_at hl 0 rfl) ?_
                refine lv_iload_n hx hb dX5_best_42 rfl (lv_at hl 2 rfl) ?_
                obtain ⟨r_43, M_43, hc_43, h⟩ := jl_bnd_o h
                refine jy_callVi (As := [.int x2L12]) (rest := [.int r_38, .int x3L25]) ⟨hx, hb, hml, hown, hts⟩ (jc_X5_totalOf hc_43) (cwV 1 hts gX5_best_X5_totalOf rfl rfl rfl (by decide +kernel) ⟨Nat.le_trans (by decide) hRf, Nat.le_trans (by decide) hRl⟩) (jy_rv_X5 hK hP) hK hB hN hP hS rfl dX5_best_43 rfl hl.1 (Nat.le_of_ble_eq_true rfl) ⟨Nat.zero_le _, Nat.zero_le _⟩ (fun H locs hP hS => ?_)
                refine lv_icmp_gt (tgt := 69) hx hb dX5_best_46 (by decide) (fun c_46 => ?_) (fun c_46 => ?_)
                · have h := jl_ift c_46 h
                  refine lv_iconst (v := 1) hx hb dX5_best_69 (by decide) ?_
                  refine lv_goto (tgt := 74) hx hb dX5_best_70 (by decide) ?_
                  refine lv_iadd hx hb dX5_best_74 ?_
                  refine lv_topi (fun x3_75 ex3_75 => ?_)
                  have h := jl_lt_o h ex3_75
                  refine lv_istore_n (lv' := [(3, .int x3_75), (0, .ref (B 0)), (1, .int a1), (2, .int x2L12), (4, .int x4L25)]) hx hb dX5_best_75 rfl hl (by decide) rfl (fun ls hl => ?_)
                  obtain ⟨x4_76, ex4_76⟩ : ∃ y : Int32, y = x4L25 + 1 := ⟨_, rfl⟩
                  have h := jl_lt_o h ex4_76
                  refine lv_iinc (v := x4_76) (lv' := [(4, .int x4_76), (3, .int x3_75), (0, .ref (B 0)), (1, .int a1), (2, .int x2L12)]) hx hb dX5_best_76 hl (k := 4) rfl (by rw [ex4_76]; rfl) (by decide) rfl (fun ls hl => ?_)
                  refine lv_goto (tgt := 25) hx hb dX5_best_79 (by decide) ?_
                  exact ih25 _ _ _ (jl_L (Option.some.inj h) hz25) _ _ _ hP hS (lv_sub hl [2, 3, 4, 1, 0] rfl)
                · have h := jl_iff c_46 h
                  refine lv_aload_n hx hb dX5_best_49 rfl (lv_at hl 0 rfl) ?_
                  refine lv_iload hx hb dX5_best_50 (lv_at hl 4 rfl) ?_
                  obtain ⟨r_52, M_52, hc_52, h⟩ := jl_bnd_o h
                  refine jy_callVi (As := [.int x4L25]) (rest := [.int x3L25]) ⟨hx, hb, hml, hown, hts⟩ (jc_X5_totalOf hc_52) (cwV 1 hts gX5_best_X5_totalOf rfl rfl rfl (by decide +kernel) ⟨Nat.le_trans (by decide) hRf, Nat.le_trans (by decide) hRl⟩) (jy_rv_X5 hK hP) hK hB hN hP hS rfl dX5_best_52 rfl hl.1 (Nat.le_of_ble_eq_true rfl) ⟨Nat.zero_le _, Nat.zero_le _⟩ (fun H locs hP hS => ?_)
                  refine lv_aload_n hx hb dX5_best_55 rfl (lv_at hl 0 rfl) ?_
                  refine lv_iload_n hx hb dX5_best_56 rfl (lv_at hl 2 rfl) ?_
                  obtain ⟨r_57, M_57, hc_57, h⟩ := jl_bnd_o h
                  refine jy_callVi (As := [.int x2L12]) (rest := [.int r_52, .int x3L25]) ⟨hx, hb, hml, hown, hts⟩ (jc_X5_totalOf hc_57) (cwV 1 hts gX5_best_X5_totalOf rfl rfl rfl (by decide +kernel) ⟨Nat.le_trans (by decide) hRf, Nat.le_trans (by decide) hRl⟩) (jy_rv_X5 hK hP) hK hB hN hP hS rfl dX5_best_57 rfl hl.1 (Nat.le_of_ble_eq_true rfl) ⟨Nat.zero_le _, Nat.zero_le _⟩ (fun H locs hP hS => ?_)
                  refine lv_icmp_ne (tgt := 73) hx hb dX5_best_60 (by decide) (fun c_60 => ?_) (fun c_60 => ?_)
                  · have h := jl_iff c_60 h
                    refine lv_iconst (v := 0) hx hb dX5_best_73 (by decide) ?_
                    refine lv_iadd hx hb dX5_best_74 ?_
                    refine lv_topi (fun x3_75 ex3_75 => ?_)
                    have h := jl_lt_o h ex3_75
                    refine lv_istore_n (lv' := [(3, .int x3_75), (0, .ref (B 0)), (1, .int a1), (2, .int x2L12), (4, .int x4L25)]) hx hb dX5_best_75 rfl hl (by decide) rfl (fun ls hl => ?_)
                    obtain ⟨x4_76, ex4_76⟩ : ∃ y : Int32, y = x4L25 + 1 := ⟨_, rfl⟩
                    have h := jl_lt_o h ex4_76
                    refine lv_iinc (v := x4_76) (lv' := [(4, .int x4_76), (3, .int x3_75), (0, .ref (B 0)), (1, .int a1), (2, .int x2L12)]) hx hb dX5_best_76 hl (k := 4) rfl (by rw [ex4_76]; rfl) (by decide) rfl (fun ls hl => ?_)
                    refine lv_goto (tgt := 25) hx hb dX5_best_79 (by decide) ?_
                    exact ih25 _ _ _ (jl_L (Option.some.inj h) hz25) _ _ _ hP hS (lv_sub hl [2, 3, 4, 1, 0] rfl)
                  · have h := jl_ift c_60 h
                    refine lv_iload hx hb dX5_best_63 (lv_at hl 4 rfl) ?_
                    refine lv_iload_n hx hb dX5_best_65 rfl (lv_at hl 2 rfl) ?_
                    refine lv_icmp_ge (tgt := 73) hx hb dX5_best_66 (by decide) (fun c_66 => ?_) (fun c_66 => ?_)
                    · have h := jl_ift c_66 h
                      refine lv_iconst (v := 0) hx hb dX5_best_73 (by decide) ?_
                      refine lv_iadd hx hb dX5_best_74 ?_
                      refine lv_topi (fun x3_75 ex3_75 => ?_)
                      have h := jl_lt_o h ex3_75
                      refine lv_istore_n (lv' := [(3, .int x3_75), (0, .ref (B 0)), (1, .int a1), (2, .int x2L12), (4, .int x4L25)]) hx hb dX5_best_75 rfl hl (by decide) rfl (fun ls hl => ?_)
                      obtain ⟨x4_76, ex4_76⟩ : ∃ y : Int32, y = x4L25 + 1 := ⟨_, rfl⟩
                      have h := jl_lt_o h ex4_76
                      refine lv_iinc (v := x4_76) (lv' := [(4, .int x4_76), (3, .int x3_75), (0, .ref (B 0)), (1, .int a1), (2, .int x2L12)]) hx hb dX5_best_76 hl (k := 4) rfl (by rw [ex4_76]; rfl) (by decide) rfl (fun ls hl => ?_)
                      refine lv_goto (tgt := 25) hx hb dX5_best_79 (by decide) ?_
                      exact ih25 _ _ _ (jl_L (Option.some.inj h) hz25) _ _ _ hP hS (lv_sub hl [2, 3, 4, 1, 0] rfl)
                    · have h := jl_iff c_66 h
                      refine lv_iconst (v := 1) hx hb dX5_best_69 (by decide) ?_
                      refine lv_goto (tgt := 74) hx hb dX5_best_70 (by decide) ?_
                      refine lv_iadd hx hb dX5_best_74 ?_
                      refine lv_topi (fun x3_75 ex3_75 => ?_)
                      have h := jl_lt_o h ex3_75
                      refine lv_istore_n (lv' := [(3, .int x3_75), (0, .ref (B 0)), (1, .int a1), (2, .int x2L12), (4, .int x4L25)]) hx hb dX5_best_75 rfl hl (by decide) rfl (fun ls hl => ?_)
                      obtain ⟨x4_76, ex4_76⟩ : ∃ y : Int32, y = x4L25 + 1 := ⟨_, rfl⟩
                      have h := jl_lt_o h ex4_76
                      refine lv_iinc (v := x4_76) (lv' := [(4, .int x4_76), (3, .int x3_75), (0, .ref (B 0)), (1, .int a1), (2, .int x2L12)]) hx hb dX5_best_76 hl (k := 4) rfl (by rw [ex4_76]; rfl) (by decide) rfl (fun ls hl => ?_)
                      refine lv_goto (tgt := 25) hx hb dX5_best_79 (by decide) ?_
                      exact ih25 _ _ _ (jl_L (Option.some.inj h) hz25) _ _ _ hP hS (lv_sub hl [2, 3, 4, 1, 0] rfl)
          exact k25 _ _ _ _ h _ _ _ hP hS (lv_sub hl [2, 3, 4, 1, 0] rfl)
    exact k12 _ _ _ h _ _ _ hP hS (lv_sub hl [1, 2, 0] rfl)
  · have h := jl_ift c_5 h
    refine lv_iconst (v := (-1)) hx hb dX5_best_8 (by decide) ?_
    exact kr _ _ _ _ _ _ (Option.some.inj h) dX5_best_9 hP hS
theorem jc_X5_best {a1 : Int32} {z : Int32 × jl_Mem} (h : jf_X5_best a1 M = some z) : Met l yX5_best wsX5_best ({ frames := 2, cells := 0, slots := 0, locals := 45 }) (va_Pc [.ref (B 0), .int a1] (jy_U D cI cT B M)) (va_Qi (fun (q : Int32) (_ : Unit) => q = z.1) (fun _ t => va_P D vwCl (jy_w cI cT B z.2) t.heap) (jy_A B)) 0 0 (jy_A B) := by
  refine Met.ofW (cc := cX5_best) (maxL := 5) (ret := (some .int)) (by decide) rfl ?_
  intro p e s m args below meth c s1 BB hml hv
  obtain ⟨rfl, hK, hP, hB, hN⟩ := hv
  have hl := lv_entry ([.ref (B 0), .int a1]) (n := 5) (Nat.le_of_ble_eq_true rfl)
  rw [lg_entry_eq]
  generalize (lg_sl ([.ref (B 0), .int a1]) ++ List.replicate (5 - (lg_sl ([.ref (B 0), .int a1])).length) Slot.unset).toArray = ls at hl ⊢
  exact jb_X5_best BB.exec BB.bytes hml (findClass_of_methodNamed BB.named) (atoms_spec (ws := wsX5_best) BB.pre) hK hB hN (Nat.le_refl _) (Nat.le_refl _) h (fun v M1 H locs pc ls e1 hd hP hS => W.iret BB.exec BB.bytes BB.returns (fun t ht hW => ⟨⟨_, (), rfl, by rw [← e1], by show va_P D vwCl (jy_w cI cT B z.2) t.heap; rw [ht, ← e1]; exact hP⟩, hS.F ht⟩) hS.2.2 hd BB.notSynchronized) hP va_S.rf hl
end
section
variable {p : Program} {l : Launch} {e : Env} {R : Room} {s : State} {m : MethodId} {args : Array Value} {below : List Frame} {meth : Method} {c : Code} {H : Heap} {locs : List Loc} {Q : State → Prop} {ls : Array Slot} {D : va_G} {cI cT : ClassId} {B : Nat → Nat} {M : jl_Mem} {H0 : Heap}
set_option maxHeartbeats 4000000 in
set_option maxRecDepth 100000 in
theorem jb_X5_isKnown (hx : p.tables.exec = Jvm.exec) (hb : c.code = cX5_isKnown) (hml : c.maxLocals = 3) (hown : s.vm.findClass RX5 = some m.cls) (hts : ∀ w ∈ wsX5_isKnown, w.before args s = true) (hK : va_K D vwCl (jy_ty cI cT) s) (hB : jy_inj B) (hN : jy_N s) (hRf : 1 ≤ R.frames) (hRl : 23 ≤ R.locals) {a1 : Int32} {a2 : Int32} {z : Int32 × jl_Mem} (h : jf_X5_isKnown a1 a2 M = some z)
    (kr : ∀ (v : Int32) (M1 : jl_Mem) (H1 : Heap) (locs1 : List Loc) (pc1 : Nat) (ls1 : Array Slot), (v, M1) = z → jl_isB v = true → decode cX5_isKnown pc1 = .ok (.ireturn, 1) → va_P D vwCl (jy_w cI cT B M1) H1 → va_S (jy_A B) H0 H1 locs1 → W p l e R s m args below meth c H1 locs1 0 0 Q (F0 m pc1 ls1 [.int v]))
    (hP : va_P D vwCl (jy_w cI cT B M) H) (hS : va_S (jy_A B) H0 H locs) (hl : lv_has ls 3 [(0, .ref (B 0)), (1, .int a1), (2, .int a2)]) : W p l e R s m args below meth c H locs 0 0 Q (F0 m 0 ls []) := by
  unfold jf_X5_isKnown at h
  have hiX5 : ∀ w ∈ wsX50, w ∈ wsX5_isKnown := by decide +kernel
  have hf34 := hts (.fieldLink RX5 34 "JudgesListsModel" "looked" "[Z") (by decide +kernel)
  have hf31 := hts (.fieldLink RX5 31 "JudgesListsModel" "depth" "[I") (by decide +kernel)
  have hf25 := hts (.fieldLink RX5 25 "JudgesListsModel" "length" "[I") (by decide +kernel)
  have hf19 := hts (.fieldLink RX5 19 "JudgesListsModel" "mark" "[I") (by decide +kernel)
  refine lv_aload_n hx hb dX5_isKnown_0 rfl (lv_at hl 0 rfl) ?_
  refine jy_g_X5_looked hx hb hts hiX5 hown hK hP hf34 dX5_isKnown_1 ?_
  refine lv_bipush (v := 20) hx hb dX5_isKnown_4 (by decide) ?_
  refine lv_iload_n hx hb dX5_isKnown_6 rfl (lv_at hl 1 rfl) ?_
  refine lv_imul hx hb dX5_isKnown_7 ?_
  refine lv_iload_n hx hb dX5_isKnown_8 rfl (lv_at hl 2 rfl) ?_
  refine lv_iadd hx hb dX5_isKnown_9 ?_
  obtain ⟨i_10, h⟩ := jl_chk_o h
  refine jy_baload hx hb hK hP rfl i_10 dX5_isKnown_10 ?_
  refine lv_if_ne (tgt := 29) hx hb dX5_isKnown_11 (by decide) (fun c_11 => ?_) (fun c_11 => ?_)
  · have h := jl_iff c_11 h
    refine lv_iconst (v := 1) hx hb dX5_isKnown_29 (by decide) ?_
    exact kr _ _ _ _ _ _ (Option.some.inj h) (by decide) dX5_isKnown_30 hP hS
  · have h := jl_ift c_11 h
    refine lv_aload_n hx hb dX5_isKnown_14 rfl (lv_at hl 0 rfl) ?_
    refine jy_g_X5_depth hx hb hts hiX5 hown hK hP hf31 dX5_isKnown_15 ?_
    refine lv_iload_n hx hb dX5_isKnown_18 rfl (lv_at hl 1 rfl) ?_
    obtain ⟨i_19, h⟩ := jl_chk_o h
    refine jy_iaload hx hb hK hP rfl i_19 dX5_isKnown_19 ?_
    refine lv_aload_n hx hb dX5_isKnown_20 rfl (lv_at hl 0 rfl) ?_
    refine jy_g_X5_length hx hb hts hiX5 hown hK hP hf25 dX5_isKnown_21 ?_
    refine lv_iload_n hx hb dX5_isKnown_24 rfl (lv_at hl 1 rfl) ?_
    refine jy_iaload hx hb hK hP rfl i_19 dX5_isKnown_25 ?_
    refine lv_icmp_ne (tgt := 31) hx hb dX5_isKnown_26 (by decide) (fun c_26 => ?_) (fun c_26 => ?_)
    · have h := jl_iff c_26 h
      refine lv_aload_n hx hb dX5_isKnown_31 rfl (lv_at hl 0 rfl) ?_
      refine jy_g_X5_mark hx hb hts hiX5 hown hK hP hf19 dX5_isKnown_32 ?_
      refine lv_bipush (v := 20) hx hb dX5_isKnown_35 (by decide) ?_
      refine lv_iload_n hx hb dX5_isKnown_37 rfl (lv_at hl 1 rfl) ?_
      refine lv_imul hx hb dX5_isKnown_38 ?_
      refine lv_iload_n hx hb dX5_isKnown_39 rfl (lv_at hl 2 rfl) ?_
      refine lv_iadd hx hb dX5_isKnown_40 ?_
      refine jy_iaload hx hb hK hP rfl i_10 dX5_isKnown_41 ?_
      refine lv_if_le (tgt := 64) hx hb dX5_isKnown_42 (by decide) (fun c_42 => ?_) (fun c_42 => ?_)
      · have h := jl_ift c_42 h
        refine lv_iconst (v := 0) hx hb dX5_isKnown_64 (by decide) ?_
        exact kr _ _ _ _ _ _ (Option.some.inj h) (by decide) dX5_isKnown_65 hP hS
      · have h := jl_iff c_42 h
        refine lv_aload_n hx hb dX5_isKnown_45 rfl (lv_at hl 0 rfl) ?_
        refine lv_iload_n hx hb dX5_isKnown_46 rfl (lv_at hl 1 rfl) ?_
        refine lv_iload_n hx hb dX5_isKnown_47 rfl (lv_at hl 2 rfl) ?_
        obtain ⟨r_48, M_48, hc_48, h⟩ := jl_bnd_o h
        refine jy_callVi (As := [.int a1, .int a2]) (rest := []) ⟨hx, hb, hml, hown, hts⟩ (jc_X5_placeOf hc_48) (cwV 2 hts gX5_isKnown_X5_placeOf rfl rfl rfl (by decide +kernel) ⟨Nat.le_trans (by decide) hRf, Nat.le_trans (by decide) hRl⟩) (jy_rv_X5 hK hP) hK hB hN hP hS rfl dX5_isKnown_48 rfl hl.1 (Nat.le_of_ble_eq_true rfl) ⟨Nat.zero_le _, Nat.zero_le _⟩ (fun H locs hP hS => ?_)
        refine lv_aload_n hx hb dX5_isKnown_51 rfl (lv_at hl 0 rfl) ?_
        refine jy_g_X5_depth hx hb hts hiX5 hown hK hP hf31 dX5_isKnown_52 ?_
        refine lv_iload_n hx hb dX5_isKnown_55 rfl (lv_at hl 1 rfl) ?_
        refine jy_iaload hx hb hK hP rfl i_19 dX5_isKnown_56 ?_
        refine lv_icmp_ge (tgt := 64) hx hb dX5_isKnown_57 (by decide) (fun c_57 => ?_) (fun c_57 => ?_)
        · have h := jl_ift c_57 h
          refine lv_iconst (v := 0) hx hb dX5_isKnown_64 (by decide) ?_
          exact kr _ _ _ _ _ _ (Option.some.inj h) (by decide) dX5_isKnown_65 hP hS
        · have h := jl_iff c_57 h
          refine lv_iconst (v := 1) hx hb dX5_isKnown_60 (by decide) ?_
          refine lv_goto (tgt := 65) hx hb dX5_isKnown_61 (by decide) ?_
          exact kr _ _ _ _ _ _ (Option.some.inj h) (by decide) dX5_isKnown_65 hP hS
    · have h := jl_ift c_26 h
      refine lv_iconst (v := 1) hx hb dX5_isKnown_29 (by decide) ?_
      exact kr _ _ _ _ _ _ (Option.some.inj h) (by decide) dX5_isKnown_30 hP hS
theorem jc_X5_isKnown {a1 : Int32} {a2 : Int32} {z : Int32 × jl_Mem} (h : jf_X5_isKnown a1 a2 M = some z) : Met l yX5_isKnown wsX5_isKnown ({ frames := 1, cells := 0, slots := 0, locals := 23 }) (va_Pc [.ref (B 0), .int a1, .int a2] (jy_U D cI cT B M)) (va_Qi (fun (q : Int32) (_ : Unit) => q = z.1) (fun _ t => va_P D vwCl (jy_w cI cT B z.2) t.heap) (jy_A B)) 0 0 (jy_A B) := by
  refine Met.ofW (cc := cX5_isKnown) (maxL := 3) (ret := (some .boolean)) (by decide) rfl ?_
  intro p e s m args below meth c s1 BB hml hv
  obtain ⟨rfl, hK, hP, hB, hN⟩ := hv
  have hl := lv_entry ([.ref (B 0), .int a1, .int a2]) (n := 3) (Nat.le_of_ble_eq_true rfl)
  rw [lg_entry_eq]
  generalize (lg_sl ([.ref (B 0), .int a1, .int a2]) ++ List.replicate (3 - (lg_sl ([.ref (B 0), .int a1, .int a2])).length) Slot.unset).toArray = ls at hl ⊢
  exact jb_X5_isKnown BB.exec BB.bytes hml (findClass_of_methodNamed BB.named) (atoms_spec (ws := wsX5_isKnown) BB.pre) hK hB hN (Nat.le_refl _) (Nat.le_refl _) h (fun v M1 H locs pc ls e1 hz hd hP hS => W.zret BB.exec BB.bytes BB.returns (jl_nar hz) (fun t ht hW => ⟨⟨_, (), rfl, by rw [← e1], by show va_P D vwCl (jy_w cI cT B z.2) t.heap; rw [ht, ← e1]; exact hP⟩, hS.F ht⟩) hS.2.2 hd BB.notSynchronized) hP va_S.rf hl
end
section
variable {p : Program} {l : Launch} {e : Env} {R : Room} {s : State} {m : MethodId} {args : Array Value} {below : List Frame} {meth : Method} {c : Code} {H : Heap} {locs : List Loc} {Q : State → Prop} {ls : Array Slot} {D : va_G} {cI cT : ClassId} {B : Nat → Nat} {M : jl_Mem} {H0 : Heap}
set_option maxHeartbeats 4000000 in
set_option maxRecDepth 100000 in
theorem jb_X5_topOf (hx : p.tables.exec = Jvm.exec) (hb : c.code = cX5_topOf) (hml : c.maxLocals = 2) (hown : s.vm.findClass RX5 = some m.cls) (hts : ∀ w ∈ wsX5_topOf, w.before args s = true) (hK : va_K D vwCl (jy_ty cI cT) s) (hB : jy_inj B) (hN : jy_N s) (hRf : 0 ≤ R.frames) (hRl : 0 ≤ R.locals) {a1 : Int32} {z : Int32 × jl_Mem} (h : jf_X5_topOf a1 M = some z)
    (kr : ∀ (v : Int32) (M1 : jl_Mem) (H1 : Heap) (locs1 : List Loc) (pc1 : Nat) (ls1 : Array Slot), (v, M1) = z → decode cX5_topOf pc1 = .ok (.ireturn, 1) → va_P D vwCl (jy_w cI cT B M1) H1 → va_S (jy_A B) H0 H1 locs1 → W p l e R s m args below meth c H1 locs1 0 0 Q (F0 m pc1 ls1 [.int v]))
    (hP : va_P D vwCl (jy_w cI cT B M) H) (hS : va_S (jy_A B) H0 H locs) (hl : lv_has ls 2 [(0, .ref (B 0)), (1, .int a1)]) : W p l e R s m args below meth c H locs 0 0 Q (F0 m 0 ls []) := by
  unfold jf_X5_topOf at h
  have hiX5 : ∀ w ∈ wsX50, w ∈ wsX5_topOf := by decide +kernel
  have hf31 := hts (.fieldLink RX5 31 "JudgesListsModel" "depth" "[I") (by decide +kernel)
  have hf25 := hts (.fieldLink RX5 25 "JudgesListsModel" "length" "[I") (by decide +kernel)
  have hf19 := hts (.fieldLink RX5 19 "JudgesListsModel" "mark" "[I") (by decide +kernel)
  have hf22 := hts (.fieldLink RX5 22 "JudgesListsModel" "row" "[I") (by decide +kernel)
  refine lv_aload_n hx hb dX5_topOf_0 rfl (lv_at hl 0 rfl) ?_
  refine jy_g_X5_depth hx hb hts hiX5 hown hK hP hf31 dX5_topOf_1 ?_
  refine lv_iload_n hx hb dX5_topOf_4 rfl (lv_at hl 1 rfl) ?_
  obtain ⟨i_5, h⟩ := jl_chk_o h
  refine jy_iaload hx hb hK hP rfl i_5 dX5_topOf_5 ?_
  refine lv_aload_n hx hb dX5_topOf_6 rfl (lv_at hl 0 rfl) ?_
  refine jy_g_X5_length hx hb hts hiX5 hown hK hP hf25 dX5_topOf_7 ?_
  refine lv_iload_n hx hb dX5_topOf_10 rfl (lv_at hl 1 rfl) ?_
  refine jy_iaload hx hb hK hP rfl i_5 dX5_topOf_11 ?_
  refine lv_icmp_ne (tgt := 17) hx hb dX5_topOf_12 (by decide) (fun c_12 => ?_) (fun c_12 => ?_)
  · have h := jl_iff c_12 h
    refine lv_aload_n hx hb dX5_topOf_17 rfl (lv_at hl 0 rfl) ?_
    refine jy_g_X5_depth hx hb hts hiX5 hown hK hP hf31 dX5_topOf_18 ?_
    refine lv_iload_n hx hb dX5_topOf_21 rfl (lv_at hl 1 rfl) ?_
    refine jy_iaload hx hb hK hP rfl i_5 dX5_topOf_22 ?_
    refine lv_if_ne (tgt := 32) hx hb dX5_topOf_23 (by decide) (fun c_23 => ?_) (fun c_23 => ?_)
    · have h := jl_iff c_23 h
      refine lv_aload_n hx hb dX5_topOf_32 rfl (lv_at hl 0 rfl) ?_
      refine jy_g_X5_mark hx hb hts hiX5 hown hK hP hf19 dX5_topOf_33 ?_
      refine lv_bipush (v := 20) hx hb dX5_topOf_36 (by decide) ?_
      refine lv_iload_n hx hb dX5_topOf_38 rfl (lv_at hl 1 rfl) ?_
      refine lv_imul hx hb dX5_topOf_39 ?_
      refine lv_aload_n hx hb dX5_topOf_40 rfl (lv_at hl 0 rfl) ?_
      refine jy_g_X5_row hx hb hts hiX5 hown hK hP hf22 dX5_topOf_41 ?_
      refine lv_bipush (v := 20) hx hb dX5_topOf_44 (by decide) ?_
      refine lv_iload_n hx hb dX5_topOf_46 rfl (lv_at hl 1 rfl) ?_
      refine lv_imul hx hb dX5_topOf_47 ?_
      refine lv_aload_n hx hb dX5_topOf_48 rfl (lv_at hl 0 rfl) ?_
      refine jy_g_X5_depth hx hb hts hiX5 hown hK hP hf31 dX5_topOf_49 ?_
      refine lv_iload_n hx hb dX5_topOf_52 rfl (lv_at hl 1 rfl) ?_
      refine jy_iaload hx hb hK hP rfl i_5 dX5_topOf_53 ?_
      refine lv_iadd hx hb dX5_topOf_54 ?_
      refine lv_iconst (v := 1) hx hb dX5_topOf_55 (by decide) ?_
      refine lv_isub hx hb dX5_topOf_56 ?_
      obtain ⟨i_57, h⟩ := jl_chk_o h
      refine jy_iaload hx hb hK hP rfl i_57 dX5_topOf_57 ?_
      refine lv_iadd hx hb dX5_topOf_58 ?_
      obtain ⟨i_59, h⟩ := jl_chk_o h
      refine jy_iaload hx hb hK hP rfl i_59 dX5_topOf_59 ?_
      exact kr _ _ _ _ _ _ (Option.some.inj h) dX5_topOf_60 hP hS
    · have h := jl_ift c_23 h
      refine lv_sipush (v := 1000) hx hb dX5_topOf_26 (by decide) ?_
      refine lv_goto (tgt := 60) hx hb dX5_topOf_29 (by decide) ?_
      exact kr _ _ _ _ _ _ (Option.some.inj h) dX5_topOf_60 hP hS
  · have h := jl_ift c_12 h
    refine lv_iconst (v := 0) hx hb dX5_topOf_15 (by decide) ?_
    exact kr _ _ _ _ _ _ (Option.some.inj h) dX5_topOf_16 hP hS
theorem jc_X5_topOf {a1 : Int32} {z : Int32 × jl_Mem} (h : jf_X5_topOf a1 M = some z) : Met l yX5_topOf wsX5_topOf ({ frames := 0, cells := 0, slots := 0, locals := 0 }) (va_Pc [.ref (B 0), .int a1] (jy_U D cI cT B M)) (va_Qi (fun (q : Int32) (_ : Unit) => q = z.1) (fun _ t => va_P D vwCl (jy_w cI cT B z.2) t.heap) (jy_A B)) 0 0 (jy_A B) := by
  refine Met.ofW (cc := cX5_topOf) (maxL := 2) (ret := (some .int)) (by decide) rfl ?_
  intro p e s m args below meth c s1 BB hml hv
  obtain ⟨rfl, hK, hP, hB, hN⟩ := hv
  have hl := lv_entry ([.ref (B 0), .int a1]) (n := 2) (Nat.le_of_ble_eq_true rfl)
  rw [lg_entry_eq]
  generalize (lg_sl ([.ref (B 0), .int a1]) ++ List.replicate (2 - (lg_sl ([.ref (B 0), .int a1])).length) Slot.unset).toArray = ls at hl ⊢
  exact jb_X5_topOf BB.exec BB.bytes hml (findClass_of_methodNamed BB.named) (atoms_spec (ws := wsX5_topOf) BB.pre) hK hB hN (Nat.le_refl _) (Nat.le_refl _) h (fun v M1 H locs pc ls e1 hd hP hS => W.iret BB.exec BB.bytes BB.returns (fun t ht hW => ⟨⟨_, (), rfl, by rw [← e1], by show va_P D vwCl (jy_w cI cT B z.2) t.heap; rw [ht, ← e1]; exact hP⟩, hS.F ht⟩) hS.2.2 hd BB.notSynchronized) hP va_S.rf hl
end
section
variable {p : Program} {l : Launch} {e : Env} {R : Room} {s : State} {m : MethodId} {args : Array Value} {below : List Frame} {meth : Method} {c : Code} {H : Heap} {locs : List Loc} {Q : State → Prop} {ls : Array Slot} {D : va_G} {cI cT : ClassId} {B : Nat → Nat} {M : jl_Mem} {H0 : Heap}
set_option maxHeartbeats 4000000 in
set_option maxRecDepth 100000 in
theorem jb_X5_boundOf (hx : p.tables.exec = Jvm.exec) (hb : c.code = cX5_boundOf) (hml : c.maxLocals = 4) (hown : s.vm.findClass RX5 = some m.cls) (hts : ∀ w ∈ wsX5_boundOf, w.before args s = true) (hK : va_K D vwCl (jy_ty cI cT) s) (hB : jy_inj B) (hN : jy_N s) (hRf : 2 ≤ R.frames) (hRl : 45 ≤ R.locals) {a1 : Int32} {a2 : Int32} {z : Int32 × jl_Mem} (h : jf_X5_boundOf a1 a2 M = some z)
    (kr : ∀ (v : Int32) (M1 : jl_Mem) (H1 : Heap) (locs1 : List Loc) (pc1 : Nat) (ls1 : Array Slot), (v, M1) = z → decode cX5_boundOf pc1 = .ok (.ireturn, 1) → va_P D vwCl (jy_w cI cT B M1) H1 → va_S (jy_A B) H0 H1 locs1 → W p l e R s m args below meth c H1 locs1 0 0 Q (F0 m pc1 ls1 [.int v]))
    (hP : va_P D vwCl (jy_w cI cT B M) H) (hS : va_S (jy_A B) H0 H locs) (hl : lv_has ls 4 [(0, .ref (B 0)), (1, .int a1), (2, .int a2)]) : W p l e R s m args below meth c H locs 0 0 Q (F0 m 0 ls []) := by
  unfold jf_X5_boundOf at h
  have hiX5 : ∀ w ∈ wsX50, w ∈ wsX5_boundOf := by decide +kernel
  have hf70 := hts (.fieldLink RX5 70 "JudgesListsModel" "lists" "I") (by decide +kernel)
  have hf28 := hts (.fieldLink RX5 28 "JudgesListsModel" "hand" "[I") (by decide +kernel)
  have hf19 := hts (.fieldLink RX5 19 "JudgesListsModel" "mark" "[I") (by decide +kernel)
  refine lv_iconst (v := 0) hx hb dX5_boundOf_0 (by decide) ?_
  refine lv_topi (fun x3_1 ex3_1 => ?_)
  have h := jl_lt_o h ex3_1
  refine lv_istore_n (lv' := [(3, .int x3_1), (0, .ref (B 0)), (1, .int a1), (2, .int a2)]) hx hb dX5_boundOf_1 rfl hl (by decide) rfl (fun ls hl => ?_)
  have k2 : ∀ (n2 : Nat) (x3L2 : Int32) (ML2 : jl_Mem), jl_wh (fun q => jf_X5_boundOf_L2 a1 a2 q.1 q.2) n2 (x3L2, ML2) = some z → ∀ (H : Heap) (locs : List Loc) (ls : Array Slot), va_P D vwCl (jy_w cI cT B ML2) H → va_S (jy_A B) H0 H locs → lv_has ls 4 [(0, .ref (B 0)), (1, .int a1), (2, .int a2), (3, .int x3L2)] → W p l e R s m args below meth c H locs 0 0 Q (F0 m 2 ls []) := by
    intro n2
    induction n2 with
    | zero => exact fun _ _ h => (jl_wh_0 h).elim
    | succ n2 ih2 =>
      intro x3L2 ML2 h H locs ls hP hS hl
      obtain ⟨o2, h, hz2⟩ := jl_wh_s h
      replace h : jf_X5_boundOf_L2 a1 a2 x3L2 ML2 = some o2 := h
      unfold jf_X5_boundOf_L2 at h
      refine lv_iload_n hx hb dX5_boundOf_2 rfl (lv_at hl 3 rfl) ?_
      refine lv_aload_n hx hb dX5_boundOf_3 rfl (lv_at hl 0 rfl) ?_
      refine jy_g_X5_lists hx hb hts hiX5 hown hK hP hf70 dX5_boundOf_4 ?_
      refine lv_icmp_ge (tgt := 58) hx hb dX5_boundOf_7 (by decide) (fun c_7 => ?_) (fun c_7 => ?_)
      · have h := jl_ift c_7 h
        have h := jl_ex_o h hz2
        refine lv_aload_n hx hb dX5_boundOf_58 rfl (lv_at hl 0 rfl) ?_
        obtain ⟨r_59, M_59, hc_59, h⟩ := jl_bnd_o h
        refine jy_callVi (As := []) (rest := []) ⟨hx, hb, hml, hown, hts⟩ (jc_X5_totalOfHand hc_59) (cwV 0 hts gX5_boundOf_X5_totalOfHand rfl rfl rfl (by decide +kernel) ⟨Nat.le_trans (by decide) hRf, Nat.le_trans (by decide) hRl⟩) (jy_rv_X5 hK hP) hK hB hN hP hS rfl dX5_boundOf_59 rfl hl.1 (Nat.le_of_ble_eq_true rfl) ⟨Nat.zero_le _, Nat.zero_le _⟩ (fun H locs hP hS => ?_)
        exact kr _ _ _ _ _ _ (Option.some.inj h) dX5_boundOf_62 hP hS
      · have h := jl_iff c_7 h
        refine lv_aload_n hx hb dX5_boundOf_10 rfl (lv_at hl 0 rfl) ?_
        refine jy_g_X5_hand hx hb hts hiX5 hown hK hP hf28 dX5_boundOf_11 ?_
        refine lv_iload_n hx hb dX5_boundOf_14 rfl (lv_at hl 3 rfl) ?_
        refine lv_aload_n hx hb dX5_boundOf_15 rfl (lv_at hl 0 rfl) ?_
        refine lv_iload_n hx hb dX5_boundOf_16 rfl (lv_at hl 3 rfl) ?_
        refine lv_iload_n hx hb dX5_boundOf_17 rfl (lv_at hl 1 rfl) ?_
        obtain ⟨r_18, M_18, hc_18, h⟩ := jl_bnd_o h
        refine jy_callVi (As := [.int x3L2, .int a1]) (rest := [.int x3L2, .ref (B 7)]) ⟨hx, hb, hml, hown, hts⟩ (jc_X5_isKnown hc_18) (cwV 2 hts gX5_boundOf_X5_isKnown rfl rfl rfl (by decide +kernel) ⟨Nat.le_trans (by decide) hRf, Nat.le_trans (by decide) hRl⟩) (jy_rv_X5 hK hP) hK hB hN hP hS rfl dX5_boundOf_18 rfl hl.1 (Nat.le_of_ble_eq_true rfl) ⟨Nat.zero_le _, Nat.zero_le _⟩ (fun H locs hP hS => ?_)
        refine lv_if_eq (tgt := 38) hx hb dX5_boundOf_21 (by decide) (fun c_21 => ?_) (fun c_21 => ?_)
        · have h := jl_ift c_21 h
          refine lv_iload_n hx hb dX5_boundOf_38 rfl (lv_at hl 2 rfl) ?_
          refine lv_if_eq (tgt := 50) hx hb dX5_boundOf_39 (by decide) (fun c_39 => ?_) (fun c_39 => ?_)
          · have h := jl_ift c_39 h
            refine lv_iconst (v := 0) hx hb dX5_boundOf_50 (by decide) ?_
            obtain ⟨i_51, h⟩ := jl_chk_o h
            refine jy_iastore hx hb hK hB hP hS rfl i_51 dX5_boundOf_51 (fun M_51 H locs eM_51 hP hS => ?_)
            have h := jl_lt_o h eM_51
            obtain ⟨x3_52, ex3_52⟩ : ∃ y : Int32, y = x3L2 + 1 := ⟨_, rfl⟩
            have h := jl_lt_o h ex3_52
            refine lv_iinc (v := x3_52) (lv' := [(3, .int x3_52), (0, .ref (B 0)), (1, .int a1), (2, .int a2)]) hx hb dX5_boundOf_52 hl (k := 3) rfl (by rw [ex3_52]; rfl) (by decide) rfl (fun ls hl => ?_)
            refine lv_goto (tgt := 2) hx hb dX5_boundOf_55 (by decide) ?_
            exact ih2 _ _ (jl_L (Option.some.inj h) hz2) _ _ _ hP hS (lv_sub hl [1, 2, 3, 0] rfl)
          · have h := jl_iff c_39 h
            refine lv_aload_n hx hb dX5_boundOf_42 rfl (lv_at hl 0 rfl) ?_
            refine lv_iload_n hx hb dX5_boundOf_43 rfl (lv_at hl 3 rfl) ?_
            obtain ⟨r_44, M_44, hc_44, h⟩ := jl_bnd_o h
            refine jy_callVi (As := [.int x3L2]) (rest := [.int x3L2, .ref (B 7)]) ⟨hx, hb, hml, hown, hts⟩ (jc_X5_topOf hc_44) (cwV 1 hts gX5_boundOf_X5_topOf rfl rfl rfl (by decide +kernel) ⟨Nat.le_trans (by decide) hRf, Nat.le_trans (by decide) hRl⟩) (jy_rv_X5 hK hP) hK hB hN hP hS rfl dX5_boundOf_44 rfl hl.1 (Nat.le_of_ble_eq_true rfl) ⟨Nat.zero_le _, Nat.zero_le _⟩ (fun H locs hP hS => ?_)
            refine lv_goto (tgt := 51) hx hb dX5_boundOf_47 (by decide) ?_
            obtain ⟨i_51, h⟩ := jl_chk_o h
            refine jy_iastore hx hb hK hB hP hS rfl i_51 dX5_boundOf_51 (fun M_51 H locs eM_51 hP hS => ?_)
            have h := jl_lt_o h eM_51
            obtain ⟨x3_52, ex3_52⟩ : ∃ y : Int32, y = x3L2 + 1 := ⟨_, rfl⟩
            have h := jl_lt_o h ex3_52
            refine lv_iinc (v := x3_52) (lv' := [(3, .int x3_52), (0, .ref (B 0)), (1, .int a1), (2, .int a2)]) hx hb dX5_boundOf_52 hl (k := 3) rfl (by rw [ex3_52]; rfl) (by decide) rfl (fun ls hl => ?_)
            refine lv_goto (tgt := 2) hx hb dX5_boundOf_55 (by decide) ?_
            exact ih2 _ _ (jl_L (Option.some.inj h) hz2) _ _ _ hP hS (lv_sub hl [1, 2, 3, 0] rfl)
        · have h := jl_iff c_21 h
          refine lv_aload_n hx hb dX5_boundOf_24 rfl (lv_at hl 0 rfl) ?_
          refine jy_g_X5_mark hx hb hts hiX5 hown hK hP hf19 dX5_boundOf_25 ?_
          refine lv_bipush (v := 20) hx hb dX5_boundOf_28 (by decide) ?_
          refine lv_iload_n hx hb dX5_boundOf_30 rfl (lv_at hl 3 rfl) ?_
          refine lv_imul hx hb dX5_boundOf_31 ?_
          refine lv_iload_n hx hb dX5_boundOf_32 rfl (lv_at hl 1 rfl) ?_
          refine lv_iadd hx hb dX5_boundOf_33 ?_
          obtain ⟨i_34, h⟩ := jl_chk_o h
          refine jy_iaload hx hb hK hP rfl i_34 dX5_boundOf_34 ?_
          refine lv_goto (tgt := 51) hx hb dX5_boundOf_35 (by decide) ?_
          obtain ⟨i_51, h⟩ := jl_chk_o h
          refine jy_iastore hx hb hK hB hP hS rfl i_51 dX5_boundOf_51 (fun M_51 H locs eM_51 hP hS => ?_)
          have h := jl_lt_o h eM_51
          obtain ⟨x3_52, ex3_52⟩ : ∃ y : Int32, y = x3L2 + 1 := ⟨_, rfl⟩
          have h := jl_lt_o h ex3_52
          refine lv_iinc (v := x3_52) (lv' := [(3, .int x3_52), (0, .ref (B 0)), (1, .int a1), (2, .int a2)]) hx hb dX5_boundOf_52 hl (k := 3) rfl (by rw [ex3_52]; rfl) (by decide) rfl (fun ls hl => ?_)
          refine lv_goto (tgt := 2) hx hb dX5_boundOf_55 (by decide) ?_
          exact ih2 _ _ (jl_L (Option.some.inj h) hz2) _ _ _ hP hS (lv_sub hl [1, 2, 3, 0] rfl)
  exact k2 _ _ _ h _ _ _ hP hS (lv_sub hl [1, 2, 3, 0] rfl)
theorem jc_X5_boundOf {a1 : Int32} {a2 : Int32} {z : Int32 × jl_Mem} (h : jf_X5_boundOf a1 a2 M = some z) : Met l yX5_boundOf wsX5_boundOf ({ frames := 2, cells := 0, slots := 0, locals := 45 }) (va_Pc [.ref (B 0), .int a1, .int a2] (jy_U D cI cT B M)) (va_Qi (fun (q : Int32) (_ : Unit) => q = z.1) (fun _ t => va_P D vwCl (jy_w cI cT B z.2) t.heap) (jy_A B)) 0 0 (jy_A B) := by
  refine Met.ofW (cc := cX5_boundOf) (maxL := 4) (ret := (some .int)) (by decide) rfl ?_
  intro p e s m args below meth c s1 BB hml hv
  obtain ⟨rfl, hK, hP, hB, hN⟩ := hv
  have hl := lv_entry ([.ref (B 0), .int a1, .int a2]) (n := 4) (Nat.le_of_ble_eq_true rfl)
  rw [lg_entry_eq]
  generalize (lg_sl ([.ref (B 0), .int a1, .int a2]) ++ List.replicate (4 - (lg_sl ([.ref (B 0), .int a1, .int a2])).length) Slot.unset).toArray = ls at hl ⊢
  exact jb_X5_boundOf BB.exec BB.bytes hml (findClass_of_methodNamed BB.named) (atoms_spec (ws := wsX5_boundOf) BB.pre) hK hB hN (Nat.le_refl _) (Nat.le_refl _) h (fun v M1 H locs pc ls e1 hd hP hS => W.iret BB.exec BB.bytes BB.returns (fun t ht hW => ⟨⟨_, (), rfl, by rw [← e1], by show va_P D vwCl (jy_w cI cT B z.2) t.heap; rw [ht, ← e1]; exact hP⟩, hS.F ht⟩) hS.2.2 hd BB.notSynchronized) hP va_S.rf hl
end
section
variable {p : Program} {l : Launch} {e : Env} {R : Room} {s : State} {m : MethodId} {args : Array Value} {below : List Frame} {meth : Method} {c : Code} {H : Heap} {locs : List Loc} {Q : State → Prop} {ls : Array Slot} {D : va_G} {cI cT : ClassId} {B : Nat → Nat} {M : jl_Mem} {H0 : Heap}
set_option maxHeartbeats 4000000 in
set_option maxRecDepth 100000 in
theorem jb_X5_isAhead (hx : p.tables.exec = Jvm.exec) (hb : c.code = cX5_isAhead) (hml : c.maxLocals = 5) (hown : s.vm.findClass RX5 = some m.cls) (hts : ∀ w ∈ wsX5_isAhead, w.before args s = true) (hK : va_K D vwCl (jy_ty cI cT) s) (hB : jy_inj B) (hN : jy_N s) (hRf : 3 ≤ R.frames) (hRl : 68 ≤ R.locals) {a1 : Int32} {a2 : Int32} {z : Int32 × jl_Mem} (h : jf_X5_isAhead a1 a2 M = some z)
    (kr : ∀ (v : Int32) (M1 : jl_Mem) (H1 : Heap) (locs1 : List Loc) (pc1 : Nat) (ls1 : Array Slot), (v, M1) = z → jl_isB v = true → decode cX5_isAhead pc1 = .ok (.ireturn, 1) → va_P D vwCl (jy_w cI cT B M1) H1 → va_S (jy_A B) H0 H1 locs1 → W p l e R s m args below meth c H1 locs1 0 0 Q (F0 m pc1 ls1 [.int v]))
    (hP : va_P D vwCl (jy_w cI cT B M) H) (hS : va_S (jy_A B) H0 H locs) (hl : lv_has ls 5 [(0, .ref (B 0)), (1, .int a1), (2, .int a2)]) : W p l e R s m args below meth c H locs 0 0 Q (F0 m 0 ls []) := by
  unfold jf_X5_isAhead at h
  refine lv_aload_n hx hb dX5_isAhead_0 rfl (lv_at hl 0 rfl) ?_
  refine lv_iload_n hx hb dX5_isAhead_1 rfl (lv_at hl 1 rfl) ?_
  refine lv_iconst (v := 0) hx hb dX5_isAhead_2 (by decide) ?_
  obtain ⟨r_3, M_3, hc_3, h⟩ := jl_bnd_o h
  refine jy_callVi (As := [.int a1, .int 0]) (rest := []) ⟨hx, hb, hml, hown, hts⟩ (jc_X5_boundOf hc_3) (cwV 2 hts gX5_isAhead_X5_boundOf rfl rfl rfl (by decide +kernel) ⟨Nat.le_trans (by decide) hRf, Nat.le_trans (by decide) hRl⟩) (jy_rv_X5 hK hP) hK hB hN hP hS rfl dX5_isAhead_3 rfl hl.1 (Nat.le_of_ble_eq_true rfl) ⟨Nat.zero_le _, Nat.zero_le _⟩ (fun H locs hP hS => ?_)
  refine lv_topi (fun x3_6 ex3_6 => ?_)
  have h := jl_lt_o h ex3_6
  refine lv_istore_n (lv' := [(3, .int x3_6), (0, .ref (B 0)), (1, .int a1), (2, .int a2)]) hx hb dX5_isAhead_6 rfl hl (by decide) rfl (fun ls hl => ?_)
  refine lv_aload_n hx hb dX5_isAhead_7 rfl (lv_at hl 1 rfl) ?_
  refine lv_iload_n hx hb dX5_isAhead_8 rfl (lv_at hl 3 rfl) ?_
  refine lv_iconst (v := 1) hx hb dX5_isAhead_9 (by decide) ?_
  obtain ⟨r_10, M_10, hc_10, h⟩ := jl_bnd_o h
  refine jy_callVi (As := [.int a2, .int 1]) (rest := []) ⟨hx, hb, hml, hown, hts⟩ (jc_X5_boundOf hc_10) (cwV 2 hts gX5_isAhead_X5_boundOf rfl rfl rfl (by decide +kernel) ⟨Nat.le_trans (by decide) hRf, Nat.le_trans (by decide) hRl⟩) (jy_rv_X5 hK hP) hK hB hN hP hS rfl dX5_isAhead_10 rfl hl.1 (Nat.le_of_ble_eq_true rfl) ⟨Nat.zero_le _, Nat.zero_le _⟩ (fun H locs hP hS => ?_)
  refine lv_topi (fun x4_13 ex4_13 => ?_)
  have h := jl_lt_o h ex4_13
  refine lv_istore (lv' := [(4, .int x4_13), (3, .int x3_6), (0, .ref (B 0)), (1, .int a1), (2, .int a2)]) hx hb dX5_isAhead_13 hl (by decide) rfl (fun ls hl => ?_)
  refine lv_iload_n hx hb dX5_isAhead_15 rfl (lv_at hl 1 rfl) ?_
  refine lv_iload hx hb dX5_isAhead_16 (lv_at hl 0 rfl) ?_
  refine lv_icmp_gt (tgt := 32) hx hb dX5_isAhead_18 (by decide) (fun c_18 => ?_) (fun c_18 => ?_)
  · have h := jl_ift c_18 h
    refine lv_iconst (v := 1) hx hb dX5_isAhead_32 (by decide) ?_
    refine lv_goto (tgt := 37) hx hb dX5_isAhead_33 (by decide) ?_
    exact kr _ _ _ _ _ _ (Option.some.inj h) (by decide) dX5_isAhead_37 hP hS
  · have h := jl_iff c_18 h
    refine lv_iload_n hx hb dX5_isAhead_21 rfl (lv_at hl 1 rfl) ?_
    refine lv_iload hx hb dX5_isAhead_22 (lv_at hl 0 rfl) ?_
    refine lv_icmp_ne (tgt := 36) hx hb dX5_isAhead_24 (by decide) (fun c_24 => ?_) (fun c_24 => ?_)
    · have h := jl_iff c_24 h
      refine lv_iconst (v := 0) hx hb dX5_isAhead_36 (by decide) ?_
      exact kr _ _ _ _ _ _ (Option.some.inj h) (by decide) dX5_isAhead_37 hP hS
    · have h := jl_ift c_24 h
      refine lv_iload_n hx hb dX5_isAhead_27 rfl (lv_at hl 3 rfl) ?_
      refine lv_iload_n hx hb dX5_isAhead_28 rfl (lv_at hl 4 rfl) ?_
      refine lv_icmp_ge (tgt := 36) hx hb dX5_isAhead_29 (by decide) (fun c_29 => ?_) (fun c_29 => ?_)
      · have h := jl_ift c_29 h
        refine lv_iconst (v := 0) hx hb dX5_isAhead_36 (by decide) ?_
        exact kr _ _ _ _ _ _ (Option.some.inj h) (by decide) dX5_isAhead_37 hP hS
      · have h := jl_iff c_29 h
        refine lv_iconst (v := 1) hx hb dX5_isAhead_32 (by decide) ?_
        refine lv_goto (tgt := 37) hx hb dX5_isAhead_33 (by decide) ?_
        exact kr _ _ _ _ _ _ (Option.some.inj h) (by decide) dX5_isAhead_37 hP hS
theorem jc_X5_isAhead {a1 : Int32} {a2 : Int32} {z : Int32 × jl_Mem} (h : jf_X5_isAhead a1 a2 M = some z) : Met l yX5_isAhead wsX5_isAhead ({ frames := 3, cells := 0, slots := 0, locals := 68 }) (va_Pc [.ref (B 0), .int a1, .int a2] (jy_U D cI cT B M)) (va_Qi (fun (q : Int32) (_ : Unit) => q = z.1) (fun _ t => va_P D vwCl (jy_w cI cT B z.2) t.heap) (jy_A B)) 0 0 (jy_A B) := by
  refine Met.ofW (cc := cX5_isAhead) (maxL := 5) (ret := (some .boolean)) (by decide) rfl ?_
  intro p e s m args below meth c s1 BB hml hv
  obtain ⟨rfl, hK, hP, hB, hN⟩ := hv
  have hl := lv_entry ([.ref (B 0), .int a1, .int a2]) (n := 5) (Nat.le_of_ble_eq_true rfl)
  rw [lg_entry_eq]
  generalize (lg_sl ([.ref (B 0), .int a1, .int a2]) ++ List.replicate (5 - (lg_sl ([.ref (B 0), .int a1, .int a2])).length) Slot.unset).toArray = ls at hl ⊢
  exact jb_X5_isAhead BB.exec BB.bytes hml (findClass_of_methodNamed BB.named) (atoms_spec (ws := wsX5_isAhead) BB.pre) hK hB hN (Nat.le_refl _) (Nat.le_refl _) h (fun v M1 H locs pc ls e1 hz hd hP hS => W.zret BB.exec BB.bytes BB.returns (jl_nar hz) (fun t ht hW => ⟨⟨_, (), rfl, by rw [← e1], by show va_P D vwCl (jy_w cI cT B z.2) t.heap; rw [ht, ← e1]; exact hP⟩, hS.F ht⟩) hS.2.2 hd BB.notSynchronized) hP va_S.rf hl
end
