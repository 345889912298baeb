section
variable {p : Program} {l : Launch} {e : Env} {R : Room} {s : State} {m : MethodId} {args : Array Value} {below : List Frame} {meth : Method} {c : Code} {H : Heap} {locs : List Loc} {Q : State → Prop} {ls : Array Slot} {D : va_G} {cI cT : ClassId} {B : Nat → Nat} {M : jl_Mem} {H0 : Heap}
set_option maxHeartbeats 4000000 in
set_option maxRecDepth 100000 in
theorem jb_X5_works (hx : p.tables.exec = Jvm.exec) (hb : c.code = cX5_works) (hml : c.maxLocals = 3) (hown : s.vm.findClass RX5 = some m.cls) (hts : ∀ w ∈ wsX5_works, w.before args s = true) (hK : va_K D vwCl (jy_ty cI cT) s) (hB : jy_inj B) (hN : jy_N s) (hRf : 6 ≤ R.frames) (hRl : 135 ≤ R.locals) {z : Int32 × jl_Mem} (h : jf_X5_works M = some z)
    (kr : ∀ (M1 : jl_Mem) (H1 : Heap) (locs1 : List Loc) (pc1 : Nat) (ls1 : Array Slot), (0, M1) = z → decode cX5_works pc1 = .ok (.return_, 1) → va_P D vwCl (jy_w cI cT B M1) H1 → va_S (jy_A B) H0 H1 locs1 → W p l e R s m args below meth c H1 locs1 0 0 Q (F0 m pc1 ls1 []))
    (hP : va_P D vwCl (jy_w cI cT B M) H) (hS : va_S (jy_A B) H0 H locs) (hl : lv_has ls 3 [(0, .ref (B 0))]) : W p l e R s m args below meth c H locs 0 0 Q (F0 m 0 ls []) := by
  unfold jf_X5_works at h
  have hiX5 : ∀ w ∈ wsX50, w ∈ wsX5_works := by decide +kernel
  have hf129 := hts (.fieldLink RX5 129 "JudgesListsModel" "rounds" "I") (by decide +kernel)
  have hf70 := hts (.fieldLink RX5 70 "JudgesListsModel" "lists" "I") (by decide +kernel)
  have hf123 := hts (.fieldLink RX5 123 "JudgesListsModel" "kind" "I") (by decide +kernel)
  have hf126 := hts (.fieldLink RX5 126 "JudgesListsModel" "turn" "I") (by decide +kernel)
  have hf63 := hts (.fieldLink RX5 63 "JudgesListsModel" "things" "I") (by decide +kernel)
  have hf31 := hts (.fieldLink RX5 31 "JudgesListsModel" "depth" "[I") (by decide +kernel)
  have hf25 := hts (.fieldLink RX5 25 "JudgesListsModel" "length" "[I") (by decide +kernel)
  have hf22 := hts (.fieldLink RX5 22 "JudgesListsModel" "row" "[I") (by decide +kernel)
  have hf132 := hts (.fieldLink RX5 132 "JudgesListsModel" "seen" "I") (by decide +kernel)
  have hf138 := hts (.fieldLink RX5 138 "JudgesListsModel" "cost" "I") (by decide +kernel)
  have hf13 := hts (.fieldLink RX5 13 "JudgesListsModel" "down" "[I") (by decide +kernel)
  refine lv_aload_n hx hb dX5_works_0 rfl (lv_at hl 0 rfl) ?_
  refine lv_dup hx hb dX5_works_1 rfl ?_
  refine jy_g_X5_rounds hx hb hts hiX5 hown hK hP hf129 dX5_works_2 ?_
  refine lv_iconst (v := 1) hx hb dX5_works_5 (by decide) ?_
  refine lv_iadd hx hb dX5_works_6 ?_
  refine jy_p_X5_rounds hx hb hts hiX5 hown hK hB hP hS hf129 dX5_works_7 (fun M_7 H locs eM_7 hP hS => ?_)
  have h := jl_lt_o h eM_7
  refine lv_iconst (v := 0) hx hb dX5_works_10 (by decide) ?_
  refine lv_topi (fun x1_11 ex1_11 => ?_)
  have h := jl_lt_o h ex1_11
  refine lv_istore_n (lv' := [(1, .int x1_11), (0, .ref (B 0))]) hx hb dX5_works_11 rfl hl (by decide) rfl (fun ls hl => ?_)
  have k12 : ∀ (n12 : Nat) (x1L12 : Int32) (ML12 : jl_Mem), jl_wh (fun q => jf_X5_works_L12 q.1 q.2) n12 (x1L12, ML12) = some z → ∀ (H : Heap) (locs : List Loc) (ls : Array Slot), va_P D vwCl (jy_w cI cT B ML12) H → va_S (jy_A B) H0 H locs → lv_has ls 3 [(0, .ref (B 0)), (1, .int x1L12)] → W p l e R s m args below meth c H locs 0 0 Q (F0 m 12 ls []) := by
    intro n12
    induction n12 with
    | zero => exact fun _ _ h => (jl_wh_0 h).elim
    | succ n12 ih12 =>
      intro x1L12 ML12 h H locs ls hP hS hl
      obtain ⟨o12, h, hz12⟩ := jl_wh_s h
      replace h : jf_X5_works_L12 x1L12 ML12 = some o12 := h
      unfold jf_X5_works_L12 at h
      refine lv_iload_n hx hb dX5_works_12 rfl (lv_at hl 1 rfl) ?_
      refine lv_aload_n hx hb dX5_works_13 rfl (lv_at hl 0 rfl) ?_
      refine jy_g_X5_lists hx hb hts hiX5 hown hK hP hf70 dX5_works_14 ?_
      refine lv_icmp_ge (tgt := 120) hx hb dX5_works_17 (by decide) (fun c_17 => ?_) (fun c_17 => ?_)
      · have h := jl_ift c_17 h
        have h := jl_ex_o h hz12
        refine lv_aload_n hx hb dX5_works_120 rfl (lv_at hl 0 rfl) ?_
        refine jy_g_X5_kind hx hb hts hiX5 hown hK hP hf123 dX5_works_121 ?_
        refine lv_iconst (v := 2) hx hb dX5_works_124 (by decide) ?_
        refine lv_icmp_lt (tgt := 140) hx hb dX5_works_125 (by decide) (fun c_125 => ?_) (fun c_125 => ?_)
        · have h := jl_ift c_125 h
          exact kr _ _ _ _ _ (Option.some.inj h) dX5_works_140 hP hS
        · have h := jl_iff c_125 h
          refine lv_aload_n hx hb dX5_works_128 rfl (lv_at hl 0 rfl) ?_
          refine jy_g_X5_rounds hx hb hts hiX5 hown hK hP hf129 dX5_works_129 ?_
          refine lv_aload_n hx hb dX5_works_132 rfl (lv_at hl 0 rfl) ?_
          refine jy_g_X5_turn hx hb hts hiX5 hown hK hP hf126 dX5_works_133 ?_
          obtain ⟨i_136, h⟩ := jl_chk_o h
          refine lv_irem hx hb dX5_works_136 (jl_nz_o i_136) ?_
          refine lv_if_eq (tgt := 141) hx hb dX5_works_137 (by decide) (fun c_137 => ?_) (fun c_137 => ?_)
          · have h := jl_ift c_137 h
            refine lv_iconst (v := (-1)) hx hb dX5_works_141 (by decide) ?_
            refine lv_topi (fun x1_142 ex1_142 => ?_)
            have h := jl_lt_o h ex1_142
            refine lv_istore_n (lv' := [(1, .int x1_142), (0, .ref (B 0))]) hx hb dX5_works_142 rfl hl (by decide) rfl (fun ls hl => ?_)
            refine lv_iconst (v := 0) hx hb dX5_works_143 (by decide) ?_
            refine lv_topi (fun x2_144 ex2_144 => ?_)
            have h := jl_lt_o h ex2_144
            refine lv_istore_n (lv' := [(2, .int x2_144), (1, .int x1_142), (0, .ref (B 0))]) hx hb dX5_works_144 rfl hl (by decide) rfl (fun ls hl => ?_)
            have k145 : ∀ (n145 : Nat) (x1L145 : Int32) (x2L145 : Int32) (ML145 : jl_Mem), jl_wh (fun q => jf_X5_works_L145 q.1 q.2.1 q.2.2) n145 (x1L145, x2L145, ML145) = some z → ∀ (H : Heap) (locs : List Loc) (ls : Array Slot), va_P D vwCl (jy_w cI cT B ML145) H → va_S (jy_A B) H0 H locs → lv_has ls 3 [(0, .ref (B 0)), (1, .int x1L145), (2, .int x2L145)] → W p l e R s m args below meth c H locs 0 0 Q (F0 m 145 ls []) := by
              intro n145
              induction n145 with
              | zero => exact fun _ _ _ h => (jl_wh_0 h).elim
              | succ n145 ih145 =>
                intro x1L145 x2L145 ML145 h H locs ls hP hS hl
                obtain ⟨o145, h, hz145⟩ := jl_wh_s h
                replace h : jf_X5_works_L145 x1L145 x2L145 ML145 = some o145 := h
                unfold jf_X5_works_L145 at h
                refine lv_iload_n hx hb dX5_works_145 rfl (lv_at hl 2 rfl) ?_
                refine lv_aload_n hx hb dX5_works_146 rfl (lv_at hl 0 rfl) ?_
                refine jy_g_X5_things hx hb hts hiX5 hown hK hP hf63 dX5_works_147 ?_
                refine lv_icmp_ge (tgt := 197) hx hb dX5_works_150 (by decide) (fun c_150 => ?_) (fun c_150 => ?_)
                · have h := jl_ift c_150 h
                  have h := jl_ex_o h hz145
                  refine lv_iload_n hx hb dX5_works_197 rfl (lv_at hl 1 rfl) ?_
                  refine lv_iconst (v := (-1)) hx hb dX5_works_198 (by decide) ?_
                  refine lv_icmp_eq (tgt := 211) hx hb dX5_works_199 (by decide) (fun c_199 => ?_) (fun c_199 => ?_)
                  · have h := jl_ift c_199 h
                    exact kr _ _ _ _ _ (Option.some.inj h) dX5_works_211 hP hS
                  · have h := jl_iff c_199 h
                    refine lv_aload_n hx hb dX5_works_202 rfl (lv_at hl 0 rfl) ?_
                    refine lv_iload_n hx hb dX5_works_203 rfl (lv_at hl 1 rfl) ?_
                    obtain ⟨r_204, M_204, hc_204, h⟩ := jl_bnd_o h
                    refine jy_callVi (As := [.int x1L145]) (rest := []) ⟨hx, hb, hml, hown, hts⟩ (jc_X5_looksUp hc_204) (cwV 1 hts gX5_works_X5_looksUp rfl rfl rfl (by decide +kernel) ⟨Nat.le_trans (by decide) hRf, Nat.le_trans (by decide) hRl⟩) (jy_rv_X5 hK hP) hK hB hN hP hS rfl dX5_works_204 rfl hl.1 (Nat.le_of_ble_eq_true rfl) ⟨Nat.zero_le _, Nat.zero_le _⟩ (fun H locs hP hS => ?_)
                    refine lv_if_eq (tgt := 211) hx hb dX5_works_207 (by decide) (fun c_207 => ?_) (fun c_207 => ?_)
                    · have h := jl_ift c_207 h
                      exact kr _ _ _ _ _ (Option.some.inj h) dX5_works_211 hP hS
                    · have h := jl_iff c_207 h
                      exact kr _ _ _ _ _ (Option.some.inj h) dX5_works_210 hP hS
                · have h := jl_iff c_150 h
                  refine lv_aload_n hx hb dX5_works_153 rfl (lv_at hl 0 rfl) ?_
                  refine lv_iload_n hx hb dX5_works_154 rfl (lv_at hl 2 rfl) ?_
                  obtain ⟨r_155, M_155, hc_155, h⟩ := jl_bnd_o h
                  refine jy_callVi (As := [.int x2L145]) (rest := []) ⟨hx, hb, hml, hown, hts⟩ (jc_X5_isSeen hc_155) (cwV 1 hts gX5_works_X5_isSeen rfl rfl rfl (by decide +kernel) ⟨Nat.le_trans (by decide) hRf, Nat.le_trans (by decide) hRl⟩) (jy_rv_X5 hK hP) hK hB hN hP hS rfl dX5_works_155 rfl hl.1 (Nat.le_of_ble_eq_true rfl) ⟨Nat.zero_le _, Nat.zero_le _⟩ (fun H locs hP hS => ?_)
                  refine lv_if_eq (tgt := 191) hx hb dX5_works_158 (by decide) (fun c_158 => ?_) (fun c_158 => ?_)
                  · have h := jl_ift c_158 h
                    obtain ⟨x2_191, ex2_191⟩ : ∃ y : Int32, y = x2L145 + 1 := ⟨_, rfl⟩
                    have h := jl_lt_o h ex2_191
                    refine lv_iinc (v := x2_191) (lv' := [(2, .int x2_191), (0, .ref (B 0)), (1, .int x1L145)]) hx hb dX5_works_191 hl (k := 2) rfl (by rw [ex2_191]; rfl) (by decide) rfl (fun ls hl => ?_)
                    refine lv_goto (tgt := 145) hx hb dX5_works_194 (by decide) ?_
                    exact ih145 _ _ _ (jl_L (Option.some.inj h) hz145) _ _ _ hP hS (lv_sub hl [1, 2, 0] rfl)
                  · have h := jl_iff c_158 h
                    refine lv_aload_n hx hb dX5_works_161 rfl (lv_at hl 0 rfl) ?_
                    refine lv_iload_n hx hb dX5_works_162 rfl (lv_at hl 2 rfl) ?_
                    obtain ⟨r_163, M_163, hc_163, h⟩ := jl_bnd_o h
                    refine jy_callVi (As := [.int x2L145]) (rest := []) ⟨hx, hb, hml, hown, hts⟩ (jc_X5_isOpen hc_163) (cwV 1 hts gX5_works_X5_isOpen rfl rfl rfl (by decide +kernel) ⟨Nat.le_trans (by decide) hRf, Nat.le_trans (by decide) hRl⟩) (jy_rv_X5 hK hP) hK hB hN hP hS rfl dX5_works_163 rfl hl.1 (Nat.le_of_ble_eq_true rfl) ⟨Nat.zero_le _, Nat.zero_le _⟩ (fun H locs hP hS => ?_)
                    refine lv_if_eq (tgt := 191) hx hb dX5_works_166 (by decide) (fun c_166 => ?_) (fun c_166 => ?_)
                    · have h := jl_ift c_166 h
                      obtain ⟨x2_191, ex2_191⟩ : ∃ y : Int32, y = x2L145 + 1 := ⟨_, rfl⟩
                      have h := jl_lt_o h ex2_191
                      refine lv_iinc (v := x2_191) (lv' := [(2, .int x2_191), (0, .ref (B 0)), (1, .int x1L145)]) hx hb dX5_works_191 hl (k := 2) rfl (by rw [ex2_191]; rfl) (by decide) rfl (fun ls hl => ?_)
                      refine lv_goto (tgt := 145) hx hb dX5_works_194 (by decide) ?_
                      exact ih145 _ _ _ (jl_L (Option.some.inj h) hz145) _ _ _ hP hS (lv_sub hl [1, 2, 0] rfl)
                    · have h := jl_iff c_166 h
                      refine lv_iload_n hx hb dX5_works_169 rfl (lv_at hl 1 rfl) ?_
                      refine lv_iconst (v := (-1)) hx hb dX5_works_170 (by decide) ?_
                      refine lv_icmp_eq (tgt := 189) hx hb dX5_works_171 (by decide) (fun c_171 => ?_) (fun c_171 => ?_)
                      · have h := jl_ift c_171 h
                        refine lv_iload_n hx hb dX5_works_189 rfl (lv_at hl 2 rfl) ?_
                        refine lv_topi (fun x1_190 ex1_190 => ?_)
                        have h := jl_lt_o h ex1_190
                        refine lv_istore_n (lv' := [(1, .int x1_190), (0, .ref (B 0)), (2, .int x2L145)]) hx hb dX5_works_190 rfl hl (by decide) rfl (fun ls hl => ?_)
                        obtain ⟨x2_191, ex2_191⟩ : ∃ y : Int32, y = x2L145 + 1 := ⟨_, rfl⟩
                        have h := jl_lt_o h ex2_191
                        refine lv_iinc (v := x2_191) (lv' := [(2, .int x2_191), (1, .int x1_190), (0, .ref (B 0))]) hx hb dX5_works_191 hl (k := 2) rfl (by rw [ex2_191]; rfl) (by decide) rfl (fun ls hl => ?_)
                        refine lv_goto (tgt := 145) hx hb dX5_works_194 (by decide) ?_
                        exact ih145 _ _ _ (jl_L (Option.some.inj h) hz145) _ _ _ hP hS (lv_sub hl [2, 1, 0] rfl)
                      · have h := jl_iff c_171 h
                        refine lv_aload_n hx hb dX5_works_174 rfl (lv_at hl 0 rfl) ?_
                        refine lv_iload_n hx hb dX5_works_175 rfl (lv_at hl 2 rfl) ?_
                        refine lv_iconst (v := 1) hx hb dX5_works_176 (by decide) ?_
                        obtain ⟨r_177, M_177, hc_177, h⟩ := jl_bnd_o h
                        refine jy_callVi (As := [.int x2L145, .int 1]) (rest := []) ⟨hx, hb, hml, hown, hts⟩ (jc_X5_boundOf hc_177) (cwV 2 hts gX5_works_X5_boundOf rfl rfl rfl (by decide +kernel) ⟨Nat.le_trans (by decide) hRf, Nat.le_trans (by decide) hRl⟩) (jy_rv_X5 hK hP) hK hB hN hP hS rfl dX5_works_177 rfl hl.1 (Nat.le_of_ble_eq_true rfl) ⟨Nat.zero_le _, Nat.zero_le _⟩ (fun H locs hP hS => ?_)
                        refine lv_aload_n hx hb dX5_works_180 rfl (lv_at hl 0 rfl) ?_
                        refine lv_iload_n hx hb dX5_works_181 rfl (lv_at hl 1 rfl) ?_
                        refine lv_iconst (v := 1) hx hb dX5_works_182 (by decide) ?_
                        obtain ⟨r_183, M_183, hc_183, h⟩ := jl_bnd_o h
                        refine jy_callVi (As := [.int x1L145, .int 1]) (rest := [.int r_177]) ⟨hx, hb, hml, hown, hts⟩ (jc_X5_boundOf hc_183) (cwV 2 hts gX5_works_X5_boundOf rfl rfl rfl (by decide +kernel) ⟨Nat.le_trans (by decide) hRf, Nat.le_trans (by decide) hRl⟩) (jy_rv_X5 hK hP) hK hB hN hP hS rfl dX5_works_183 rfl hl.1 (Nat.le_of_ble_eq_true rfl) ⟨Nat.zero_le _, Nat.zero_le _⟩ (fun H locs hP hS => ?_)
                        refine lv_icmp_le (tgt := 191) hx hb dX5_works_186 (by decide) (fun c_186 => ?_) (fun c_186 => ?_)
                        · have h := jl_ift c_186 h
                          obtain ⟨x2_191, ex2_191⟩ : ∃ y : Int32, y = x2L145 + 1 := ⟨_, rfl⟩
                          have h := jl_lt_o h ex2_191
                          refine lv_iinc (v := x2_191) (lv' := [(2, .int x2_191), (0, .ref (B 0)), (1, .int x1L145)]) hx hb dX5_works_191 hl (k := 2) rfl (by rw [ex2_191]; rfl) (by decide) rfl (fun ls hl => ?_)
                          refine lv_goto (tgt := 145) hx hb dX5_works_194 (by decide) ?_
                          exact ih145 _ _ _ (jl_L (Option.some.inj h) hz145) _ _ _ hP hS (lv_sub hl [1, 2, 0] rfl)
                        · have h := jl_iff c_186 h
                          refine lv_iload_n hx hb dX5_works_189 rfl (lv_at hl 2 rfl) ?_
                          refine lv_topi (fun x1_190 ex1_190 => ?_)
                          have h := jl_lt_o h ex1_190
                          refine lv_istore_n (lv' := [(1, .int x1_190), (0, .ref (B 0)), (2, .int x2L145)]) hx hb dX5_works_190 rfl hl (by decide) rfl (fun ls hl => ?_)
                          obtain ⟨x2_191, ex2_191⟩ : ∃ y : Int32, y = x2L145 + 1 := ⟨_, rfl⟩
                          have h := jl_lt_o h ex2_191
                          refine lv_iinc (v := x2_191) (lv' := [(2, .int x2_191), (1, .int x1_190), (0, .ref (B 0))]) hx hb dX5_works_191 hl (k := 2) rfl (by rw [ex2_191]; rfl) (by decide) rfl (fun ls hl => ?_)
                          refine lv_goto (tgt := 145) hx hb dX5_works_194 (by decide) ?_
                          exact ih145 _ _ _ (jl_L (Option.some.inj h) hz145) _ _ _ hP hS (lv_sub hl [2, 1, 0] rfl)
            exact k145 _ _ _ _ h _ _ _ hP hS (lv_sub hl [2, 1, 0] rfl)
          · have h := jl_iff c_137 h
            exact kr _ _ _ _ _ (Option.some.inj h) dX5_works_140 hP hS
      · have h := jl_iff c_17 h
        refine lv_aload_n hx hb dX5_works_20 rfl (lv_at hl 0 rfl) ?_
        refine jy_g_X5_depth hx hb hts hiX5 hown hK hP hf31 dX5_works_21 ?_
        refine lv_iload_n hx hb dX5_works_24 rfl (lv_at hl 1 rfl) ?_
        obtain ⟨i_25, h⟩ := jl_chk_o h
        refine jy_iaload hx hb hK hP rfl i_25 dX5_works_25 ?_
        refine lv_aload_n hx hb dX5_works_26 rfl (lv_at hl 0 rfl) ?_
        refine jy_g_X5_length hx hb hts hiX5 hown hK hP hf25 dX5_works_27 ?_
        refine lv_iload_n hx hb dX5_works_30 rfl (lv_at hl 1 rfl) ?_
        refine jy_iaload hx hb hK hP rfl i_25 dX5_works_31 ?_
        refine lv_icmp_ne (tgt := 38) hx hb dX5_works_32 (by decide) (fun c_32 => ?_) (fun c_32 => ?_)
        · have h := jl_iff c_32 h
          refine lv_aload_n hx hb dX5_works_38 rfl (lv_at hl 0 rfl) ?_
          refine jy_g_X5_row hx hb hts hiX5 hown hK hP hf22 dX5_works_39 ?_
          refine lv_bipush (v := 20) hx hb dX5_works_42 (by decide) ?_
          refine lv_iload_n hx hb dX5_works_44 rfl (lv_at hl 1 rfl) ?_
          refine lv_imul hx hb dX5_works_45 ?_
          refine lv_aload_n hx hb dX5_works_46 rfl (lv_at hl 0 rfl) ?_
          refine jy_g_X5_depth hx hb hts hiX5 hown hK hP hf31 dX5_works_47 ?_
          refine lv_iload_n hx hb dX5_works_50 rfl (lv_at hl 1 rfl) ?_
          refine jy_iaload hx hb hK hP rfl i_25 dX5_works_51 ?_
          refine lv_iadd hx hb dX5_works_52 ?_
          obtain ⟨i_53, h⟩ := jl_chk_o h
          refine jy_iaload hx hb hK hP rfl i_53 dX5_works_53 ?_
          refine lv_topi (fun x2_54 ex2_54 => ?_)
          have h := jl_lt_o h ex2_54
          refine lv_istore_n (lv' := [(2, .int x2_54), (0, .ref (B 0)), (1, .int x1L12)]) hx hb dX5_works_54 rfl hl (by decide) rfl (fun ls hl => ?_)
          refine lv_aload_n hx hb dX5_works_55 rfl (lv_at hl 1 rfl) ?_
          refine jy_g_X5_depth hx hb hts hiX5 hown hK hP hf31 dX5_works_56 ?_
          refine lv_iload_n hx hb dX5_works_59 rfl (lv_at hl 2 rfl) ?_
          refine lv_dup2_11 hx hb dX5_works_60 rfl rfl ?_
          refine jy_iaload hx hb hK hP rfl i_25 dX5_works_61 ?_
          refine lv_iconst (v := 1) hx hb dX5_works_62 (by decide) ?_
          refine lv_iadd hx hb dX5_works_63 ?_
          refine jy_iastore hx hb hK hB hP hS rfl i_25 dX5_works_64 (fun M_64 H locs eM_64 hP hS => ?_)
          have h := jl_lt_o h eM_64
          refine lv_aload_n hx hb dX5_works_65 rfl (lv_at hl 1 rfl) ?_
          refine lv_dup hx hb dX5_works_66 rfl ?_
          refine jy_g_X5_seen hx hb hts hiX5 hown hK hP hf132 dX5_works_67 ?_
          refine lv_iconst (v := 1) hx hb dX5_works_70 (by decide) ?_
          refine lv_iadd hx hb dX5_works_71 ?_
          refine jy_p_X5_seen hx hb hts hiX5 hown hK hB hP hS hf132 dX5_works_72 (fun M_72 H locs eM_72 hP hS => ?_)
          have h := jl_lt_o h eM_72
          refine lv_aload_n hx hb dX5_works_75 rfl (lv_at hl 1 rfl) ?_
          refine lv_dup hx hb dX5_works_76 rfl ?_
          refine jy_g_X5_cost hx hb hts hiX5 hown hK hP hf138 dX5_works_77 ?_
          refine lv_aload_n hx hb dX5_works_80 rfl (lv_at hl 1 rfl) ?_
          refine jy_g_X5_down hx hb hts hiX5 hown hK hP hf13 dX5_works_81 ?_
          refine lv_iload_n hx hb dX5_works_84 rfl (lv_at hl 2 rfl) ?_
          refine jy_iaload hx hb hK hP rfl i_25 dX5_works_85 ?_
          refine lv_iadd hx hb dX5_works_86 ?_
          refine jy_p_X5_cost hx hb hts hiX5 hown hK hB hP hS hf138 dX5_works_87 (fun M_87 H locs eM_87 hP hS => ?_)
          have h := jl_lt_o h eM_87
          refine lv_aload_n hx hb dX5_works_90 rfl (lv_at hl 1 rfl) ?_
          obtain ⟨r_91, M_91, hc_91, h⟩ := jl_bnd_o h
          refine jy_callVi (As := []) (rest := []) ⟨hx, hb, hml, hown, hts⟩ (jc_X5_looks hc_91) (cwV 0 hts gX5_works_X5_looks rfl rfl rfl (by decide +kernel) ⟨Nat.le_trans (by decide) hRf, Nat.le_trans (by decide) hRl⟩) (jy_rv_X5 hK hP) hK hB hN hP hS rfl dX5_works_91 rfl hl.1 (Nat.le_of_ble_eq_true rfl) ⟨Nat.zero_le _, Nat.zero_le _⟩ (fun H locs hP hS => ?_)
          refine lv_if_ne (tgt := 113) hx hb dX5_works_94 (by decide) (fun c_94 => ?_) (fun c_94 => ?_)
          · have h := jl_iff c_94 h
            have h := jl_ex_o h hz12
            exact kr _ _ _ _ _ (Option.some.inj h) dX5_works_113 hP hS
          · have h := jl_ift c_94 h
            refine lv_aload_n hx hb dX5_works_97 rfl (lv_at hl 1 rfl) ?_
            refine jy_g_X5_kind hx hb hts hiX5 hown hK hP hf123 dX5_works_98 ?_
            refine lv_iconst (v := 1) hx hb dX5_works_101 (by decide) ?_
            refine lv_icmp_ne (tgt := 114) hx hb dX5_works_102 (by decide) (fun c_102 => ?_) (fun c_102 => ?_)
            · have h := jl_iff c_102 h
              obtain ⟨x1_114, ex1_114⟩ : ∃ y : Int32, y = x1L12 + 1 := ⟨_, rfl⟩
              have h := jl_lt_o h ex1_114
              refine lv_iinc (v := x1_114) (lv' := [(1, .int x1_114), (2, .int x2_54), (0, .ref (B 0))]) hx hb dX5_works_114 hl (k := 2) rfl (by rw [ex1_114]; rfl) (by decide) rfl (fun ls hl => ?_)
              refine lv_goto (tgt := 12) hx hb dX5_works_117 (by decide) ?_
              exact ih12 _ _ (jl_L (Option.some.inj h) hz12) _ _ _ hP hS (lv_sub hl [2, 0] rfl)
            · have h := jl_ift c_102 h
              refine lv_aload_n hx hb dX5_works_105 rfl (lv_at hl 1 rfl) ?_
              refine lv_iload_n hx hb dX5_works_106 rfl (lv_at hl 0 rfl) ?_
              obtain ⟨r_107, M_107, hc_107, h⟩ := jl_bnd_o h
              refine jy_callVi (As := [.int x2_54]) (rest := []) ⟨hx, hb, hml, hown, hts⟩ (jc_X5_looksUp hc_107) (cwV 1 hts gX5_works_X5_looksUp rfl rfl rfl (by decide +kernel) ⟨Nat.le_trans (by decide) hRf, Nat.le_trans (by decide) hRl⟩) (jy_rv_X5 hK hP) hK hB hN hP hS rfl dX5_works_107 rfl hl.1 (Nat.le_of_ble_eq_true rfl) ⟨Nat.zero_le _, Nat.zero_le _⟩ (fun H locs hP hS => ?_)
              refine lv_if_eq (tgt := 114) hx hb dX5_works_110 (by decide) (fun c_110 => ?_) (fun c_110 => ?_)
              · have h := jl_ift c_110 h
                obtain ⟨x1_114, ex1_114⟩ : ∃ y : Int32, y = x1L12 + 1 := ⟨_, rfl⟩
                have h := jl_lt_o h ex1_114
                refine lv_iinc (v := x1_114) (lv' := [(1, .int x1_114), (2, .int x2_54), (0, .ref (B 0))]) hx hb dX5_works_114 hl (k := 2) rfl (by rw [ex1_114]; rfl) (by decide) rfl (fun ls hl => ?_)
                refine lv_goto (tgt := 12) hx hb dX5_works_117 (by decide) ?_
                exact ih12 _ _ (jl_L (Option.some.inj h) hz12) _ _ _ hP hS (lv_sub hl [2, 0] rfl)
              · have h := jl_iff c_110 h
                have h := jl_ex_o h hz12
                exact kr _ _ _ _ _ (Option.some.inj h) dX5_works_113 hP hS
        · have h := jl_ift c_32 h
          refine lv_goto (tgt := 114) hx hb dX5_works_35 (by decide) ?_
          obtain ⟨x1_114, ex1_114⟩ : ∃ y : Int32, y = x1L12 + 1 := ⟨_, rfl⟩
          have h := jl_lt_o h ex1_114
          refine lv_iinc (v := x1_114) (lv' := [(1, .int x1_114), (0, .ref (B 0))]) hx hb dX5_works_114 hl (k := 1) rfl (by rw [ex1_114]; rfl) (by decide) rfl (fun ls hl => ?_)
          refine lv_goto (tgt := 12) hx hb dX5_works_117 (by decide) ?_
          exact ih12 _ _ (jl_L (Option.some.inj h) hz12) _ _ _ hP hS (lv_sub hl [1, 0] rfl)
  exact k12 _ _ _ h _ _ _ hP hS (lv_sub hl [1, 0] rfl)
theorem jc_X5_works {z : Int32 × jl_Mem} (h : jf_X5_works M = some z) : Met l yX5_works wsX5_works ({ frames := 6, cells := 0, slots := 0, locals := 135 }) (va_Pc [.ref (B 0)] (jy_U D cI cT B M)) (va_Qv (fun (_ : Unit) => True) (fun _ t => va_P D vwCl (jy_w cI cT B z.2) t.heap) (jy_A B)) 0 0 (jy_A B) := by
  refine Met.ofW (cc := cX5_works) (maxL := 3) (ret := none) (by decide) rfl ?_
  intro p e s m args below meth c s1 BB hml hv
  obtain ⟨rfl, hK, hP, hB, hN⟩ := hv
  have hl := lv_entry ([.ref (B 0)]) (n := 3) (Nat.le_of_ble_eq_true rfl)
  rw [lg_entry_eq]
  generalize (lg_sl ([.ref (B 0)]) ++ List.replicate (3 - (lg_sl ([.ref (B 0)])).length) Slot.unset).toArray = ls at hl ⊢
  exact jb_X5_works BB.exec BB.bytes hml (findClass_of_methodNamed BB.named) (atoms_spec (ws := wsX5_works) BB.pre) hK hB hN (Nat.le_refl _) (Nat.le_refl _) h (fun M1 H locs pc ls e1 hd hP hS => W.vret BB.exec BB.bytes BB.returns (fun t ht hW => ⟨⟨(), rfl, trivial, by show va_P D vwCl (jy_w cI cT B z.2) t.heap; rw [ht, ← e1]; exact hP⟩, hS.F ht⟩) hS.2.2 hd BB.notSynchronized) hP va_S.rf hl
end
section
variable {p : Program} {l : Launch} {e : Env} {R : Room} {s : State} {m : MethodId} {args : Array Value} {below : List Frame} {meth : Method} {c : Code} {H : Heap} {locs : List Loc} {Q : State → Prop} {ls : Array Slot} {D : va_G} {cI cT : ClassId} {B : Nat → Nat} {M : jl_Mem} {H0 : Heap}
set_option maxHeartbeats 4000000 in
set_option maxRecDepth 100000 in
theorem jb_X5_round (hx : p.tables.exec = Jvm.exec) (hb : c.code = cX5_round) (hml : c.maxLocals = 1) (hown : s.vm.findClass RX5 = some m.cls) (hts : ∀ w ∈ wsX5_round, w.before args s = true) (hK : va_K D vwCl (jy_ty cI cT) s) (hB : jy_inj B) (hN : jy_N s) (hRf : 7 ≤ R.frames) (hRl : 157 ≤ R.locals) {z : Int32 × jl_Mem} (h : jf_X5_round M = some z)
    (kr : ∀ (v : Int32) (M1 : jl_Mem) (H1 : Heap) (locs1 : List Loc) (pc1 : Nat) (ls1 : Array Slot), (v, M1) = z → decode cX5_round pc1 = .ok (.ireturn, 1) → va_P D vwCl (jy_w cI cT B M1) H1 → va_S (jy_A B) H0 H1 locs1 → W p l e R s m args below meth c H1 locs1 0 0 Q (F0 m pc1 ls1 [.int v]))
    (hP : va_P D vwCl (jy_w cI cT B M) H) (hS : va_S (jy_A B) H0 H locs) (hl : lv_has ls 1 [(0, .ref (B 0))]) : W p l e R s m args below meth c H locs 0 0 Q (F0 m 0 ls []) := by
  unfold jf_X5_round at h
  have hiX5 : ∀ w ∈ wsX50, w ∈ wsX5_round := by decide +kernel
  have hf73 := hts (.fieldLink RX5 73 "JudgesListsModel" "reads" "Z") (by decide +kernel)
  have hf120 := hts (.fieldLink RX5 120 "JudgesListsModel" "done" "Z") (by decide +kernel)
  refine lv_aload_n hx hb dX5_round_0 rfl (lv_at hl 0 rfl) ?_
  refine jy_g_X5_reads hx hb hts hiX5 hown hK hP hf73 dX5_round_1 ?_
  refine lv_if_ne (tgt := 9) hx hb dX5_round_4 (by decide) (fun c_4 => ?_) (fun c_4 => ?_)
  · have h := jl_iff c_4 h
    refine lv_aload_n hx hb dX5_round_9 rfl (lv_at hl 0 rfl) ?_
    refine jy_g_X5_done hx hb hts hiX5 hown hK hP hf120 dX5_round_10 ?_
    refine lv_if_eq (tgt := 19) hx hb dX5_round_13 (by decide) (fun c_13 => ?_) (fun c_13 => ?_)
    · have h := jl_ift c_13 h
      refine lv_aload_n hx hb dX5_round_19 rfl (lv_at hl 0 rfl) ?_
      obtain ⟨r_20, M_20, hc_20, h⟩ := jl_bnd_o h
      refine jy_callVv (As := []) (rest := []) ⟨hx, hb, hml, hown, hts⟩ (jc_X5_works hc_20) (cwV 0 hts gX5_round_X5_works rfl rfl rfl (by decide +kernel) ⟨Nat.le_trans (by decide) hRf, Nat.le_trans (by decide) hRl⟩) (jy_rv_X5 hK hP) hK hB hN hP hS rfl dX5_round_20 rfl hl.1 (Nat.le_of_ble_eq_true rfl) ⟨Nat.zero_le _, Nat.zero_le _⟩ (fun H locs hP hS => ?_)
      refine lv_aload_n hx hb dX5_round_23 rfl (lv_at hl 0 rfl) ?_
      refine jy_g_X5_done hx hb hts hiX5 hown hK hP hf120 dX5_round_24 ?_
      refine lv_if_eq (tgt := 34) hx hb dX5_round_27 (by decide) (fun c_27 => ?_) (fun c_27 => ?_)
      · have h := jl_ift c_27 h
        refine lv_iconst (v := 0) hx hb dX5_round_34 (by decide) ?_
        exact kr _ _ _ _ _ _ (Option.some.inj h) dX5_round_35 hP hS
      · have h := jl_iff c_27 h
        refine lv_iconst (v := 1) hx hb dX5_round_30 (by decide) ?_
        refine lv_goto (tgt := 35) hx hb dX5_round_31 (by decide) ?_
        exact kr _ _ _ _ _ _ (Option.some.inj h) dX5_round_35 hP hS
    · have h := jl_iff c_13 h
      refine lv_bipush (v := (-3)) hx hb dX5_round_16 (by decide) ?_
      exact kr _ _ _ _ _ _ (Option.some.inj h) dX5_round_18 hP hS
  · have h := jl_ift c_4 h
    refine lv_iconst (v := (-1)) hx hb dX5_round_7 (by decide) ?_
    exact kr _ _ _ _ _ _ (Option.some.inj h) dX5_round_8 hP hS
theorem jc_X5_round {z : Int32 × jl_Mem} (h : jf_X5_round M = some z) : Met l yX5_round wsX5_round ({ frames := 7, cells := 0, slots := 0, locals := 157 }) (va_Pc [.ref (B 0)] (jy_U D cI cT B M)) (va_Qi (fun (q : Int32) (_ : Unit) => q = z.1) (fun _ t => va_P D vwCl (jy_w cI cT B z.2) t.heap) (jy_A B)) 0 0 (jy_A B) := by
  refine Met.ofW (cc := cX5_round) (maxL := 1) (ret := (some .int)) (by decide) rfl ?_
  intro p e s m args below meth c s1 BB hml hv
  obtain ⟨rfl, hK, hP, hB, hN⟩ := hv
  have hl := lv_entry ([.ref (B 0)]) (n := 1) (Nat.le_of_ble_eq_true rfl)
  rw [lg_entry_eq]
  generalize (lg_sl ([.ref (B 0)]) ++ List.replicate (1 - (lg_sl ([.ref (B 0)])).length) Slot.unset).toArray = ls at hl ⊢
  exact jb_X5_round BB.exec BB.bytes hml (findClass_of_methodNamed BB.named) (atoms_spec (ws := wsX5_round) BB.pre) hK hB hN (Nat.le_refl _) (Nat.le_refl _) h (fun v M1 H locs pc ls e1 hd hP hS => W.iret BB.exec BB.bytes BB.returns (fun t ht hW => ⟨⟨_, (), rfl, by rw [← e1], by show va_P D vwCl (jy_w cI cT B z.2) t.heap; rw [ht, ← e1]; exact hP⟩, hS.F ht⟩) hS.2.2 hd BB.notSynchronized) hP va_S.rf hl
end
section
variable {p : Program} {l : Launch} {e : Env} {R : Room} {s : State} {m : MethodId} {args : Array Value} {below : List Frame} {meth : Method} {c : Code} {H : Heap} {locs : List Loc} {Q : State → Prop} {ls : Array Slot} {D : va_G} {cI cT : ClassId} {B : Nat → Nat} {M : jl_Mem} {H0 : Heap}
set_option maxHeartbeats 4000000 in
set_option maxRecDepth 100000 in
theorem jb_X5_finish (hx : p.tables.exec = Jvm.exec) (hb : c.code = cX5_finish) (hml : c.maxLocals = 2) (hown : s.vm.findClass RX5 = some m.cls) (hts : ∀ w ∈ wsX5_finish, w.before args s = true) (hK : va_K D vwCl (jy_ty cI cT) s) (hB : jy_inj B) (hN : jy_N s) (hRf : 7 ≤ R.frames) (hRl : 157 ≤ R.locals) {z : Int32 × jl_Mem} (h : jf_X5_finish M = some z)
    (kr : ∀ (v : Int32) (M1 : jl_Mem) (H1 : Heap) (locs1 : List Loc) (pc1 : Nat) (ls1 : Array Slot), (v, M1) = z → decode cX5_finish pc1 = .ok (.ireturn, 1) → va_P D vwCl (jy_w cI cT B M1) H1 → va_S (jy_A B) H0 H1 locs1 → W p l e R s m args below meth c H1 locs1 0 0 Q (F0 m pc1 ls1 [.int v]))
    (hP : va_P D vwCl (jy_w cI cT B M) H) (hS : va_S (jy_A B) H0 H locs) (hl : lv_has ls 2 [(0, .ref (B 0))]) : W p l e R s m args below meth c H locs 0 0 Q (F0 m 0 ls []) := by
  unfold jf_X5_finish at h
  have hiX5 : ∀ w ∈ wsX50, w ∈ wsX5_finish := by decide +kernel
  have hf73 := hts (.fieldLink RX5 73 "JudgesListsModel" "reads" "Z") (by decide +kernel)
  have hf120 := hts (.fieldLink RX5 120 "JudgesListsModel" "done" "Z") (by decide +kernel)
  have hf129 := hts (.fieldLink RX5 129 "JudgesListsModel" "rounds" "I") (by decide +kernel)
  refine lv_aload_n hx hb dX5_finish_0 rfl (lv_at hl 0 rfl) ?_
  refine jy_g_X5_reads hx hb hts hiX5 hown hK hP hf73 dX5_finish_1 ?_
  refine lv_if_ne (tgt := 9) hx hb dX5_finish_4 (by decide) (fun c_4 => ?_) (fun c_4 => ?_)
  · have h := jl_iff c_4 h
    refine lv_aload_n hx hb dX5_finish_9 rfl (lv_at hl 0 rfl) ?_
    refine jy_g_X5_done hx hb hts hiX5 hown hK hP hf120 dX5_finish_10 ?_
    refine lv_if_eq (tgt := 19) hx hb dX5_finish_13 (by decide) (fun c_13 => ?_) (fun c_13 => ?_)
    · have h := jl_ift c_13 h
      refine lv_aload_n hx hb dX5_finish_19 rfl (lv_at hl 0 rfl) ?_
      refine jy_g_X5_rounds hx hb hts hiX5 hown hK hP hf129 dX5_finish_20 ?_
      refine lv_topi (fun x1_23 ex1_23 => ?_)
      have h := jl_lt_o h ex1_23
      refine lv_istore_n (lv' := [(1, .int x1_23), (0, .ref (B 0))]) hx hb dX5_finish_23 rfl hl (by decide) rfl (fun ls hl => ?_)
      have k24 : ∀ (n24 : Nat) (ML24 : jl_Mem), jl_wh (fun q => jf_X5_finish_L24 x1_23 q) n24 ML24 = some z → ∀ (H : Heap) (locs : List Loc) (ls : Array Slot), va_P D vwCl (jy_w cI cT B ML24) H → va_S (jy_A B) H0 H locs → lv_has ls 2 [(0, .ref (B 0)), (1, .int x1_23)] → W p l e R s m args below meth c H locs 0 0 Q (F0 m 24 ls []) := by
        intro n24
        induction n24 with
        | zero => exact fun _ h => (jl_wh_0 h).elim
        | succ n24 ih24 =>
          intro ML24 h H locs ls hP hS hl
          obtain ⟨o24, h, hz24⟩ := jl_wh_s h
          replace h : jf_X5_finish_L24 x1_23 ML24 = some o24 := h
          unfold jf_X5_finish_L24 at h
          refine lv_aload_n hx hb dX5_finish_24 rfl (lv_at hl 0 rfl) ?_
          refine jy_g_X5_done hx hb hts hiX5 hown hK hP hf120 dX5_finish_25 ?_
          refine lv_if_ne (tgt := 38) hx hb dX5_finish_28 (by decide) (fun c_28 => ?_) (fun c_28 => ?_)
          · have h := jl_iff c_28 h
            have h := jl_ex_o h hz24
            refine lv_aload_n hx hb dX5_finish_38 rfl (lv_at hl 0 rfl) ?_
            refine jy_g_X5_rounds hx hb hts hiX5 hown hK hP hf129 dX5_finish_39 ?_
            refine lv_iload_n hx hb dX5_finish_42 rfl (lv_at hl 1 rfl) ?_
            refine lv_isub hx hb dX5_finish_43 ?_
            exact kr _ _ _ _ _ _ (Option.some.inj h) dX5_finish_44 hP hS
          · have h := jl_ift c_28 h
            refine lv_aload_n hx hb dX5_finish_31 rfl (lv_at hl 0 rfl) ?_
            obtain ⟨r_32, M_32, hc_32, h⟩ := jl_bnd_o h
            refine jy_callVv (As := []) (rest := []) ⟨hx, hb, hml, hown, hts⟩ (jc_X5_works hc_32) (cwV 0 hts gX5_finish_X5_works rfl rfl rfl (by decide +kernel) ⟨Nat.le_trans (by decide) hRf, Nat.le_trans (by decide) hRl⟩) (jy_rv_X5 hK hP) hK hB hN hP hS rfl dX5_finish_32 rfl hl.1 (Nat.le_of_ble_eq_true rfl) ⟨Nat.zero_le _, Nat.zero_le _⟩ (fun H locs hP hS => ?_)
            refine lv_goto (tgt := 24) hx hb dX5_finish_35 (by decide) ?_
            exact ih24 _ (jl_L (Option.some.inj h) hz24) _ _ _ hP hS (lv_sub hl [0, 1] rfl)
      exact k24 _ _ h _ _ _ hP hS (lv_sub hl [1, 0] rfl)
    · have h := jl_iff c_13 h
      refine lv_bipush (v := (-3)) hx hb dX5_finish_16 (by decide) ?_
      exact kr _ _ _ _ _ _ (Option.some.inj h) dX5_finish_18 hP hS
  · have h := jl_ift c_4 h
    refine lv_iconst (v := (-1)) hx hb dX5_finish_7 (by decide) ?_
    exact kr _ _ _ _ _ _ (Option.some.inj h) dX5_finish_8 hP hS
theorem jc_X5_finish {z : Int32 × jl_Mem} (h : jf_X5_finish M = some z) : Met l yX5_finish wsX5_finish ({ frames := 7, cells := 0, slots := 0, locals := 157 }) (va_Pc [.ref (B 0)] (jy_U D cI cT B M)) (va_Qi (fun (q : Int32) (_ : Unit) => q = z.1) (fun _ t => va_P D vwCl (jy_w cI cT B z.2) t.heap) (jy_A B)) 0 0 (jy_A B) := by
  refine Met.ofW (cc := cX5_finish) (maxL := 2) (ret := (some .int)) (by decide) rfl ?_
  intro p e s m args below meth c s1 BB hml hv
  obtain ⟨rfl, hK, hP, hB, hN⟩ := hv
  have hl := lv_entry ([.ref (B 0)]) (n := 2) (Nat.le_of_ble_eq_true rfl)
  rw [lg_entry_eq]
  generalize (lg_sl ([.ref (B 0)]) ++ List.replicate (2 - (lg_sl ([.ref (B 0)])).length) Slot.unset).toArray = ls at hl ⊢
  exact jb_X5_finish BB.exec BB.bytes hml (findClass_of_methodNamed BB.named) (atoms_spec (ws := wsX5_finish) BB.pre) hK hB hN (Nat.le_refl _) (Nat.le_refl _) h (fun v M1 H locs pc ls e1 hd hP hS => W.iret BB.exec BB.bytes BB.returns (fun t ht hW => ⟨⟨_, (), rfl, by rw [← e1], by show va_P D vwCl (jy_w cI cT B z.2) t.heap; rw [ht, ← e1]; exact hP⟩, hS.F ht⟩) hS.2.2 hd BB.notSynchronized) hP va_S.rf hl
end
section
variable {p : Program} {l : Launch} {e : Env} {R : Room} {s : State} {m : MethodId} {args : Array Value} {below : List Frame} {meth : Method} {c : Code} {H : Heap} {locs : List Loc} {Q : State → Prop} {ls : Array Slot} {D : va_G} {cI cT : ClassId} {B : Nat → Nat} {M : jl_Mem} {H0 : Heap}
set_option maxHeartbeats 4000000 in
set_option maxRecDepth 100000 in
theorem jb_X5_reader (hx : p.tables.exec = Jvm.exec) (hb : c.code = cX5_reader) (hml : c.maxLocals = 6) (hown : s.vm.findClass RX5 = some m.cls) (hts : ∀ w ∈ wsX5_reader, w.before args s = true) (hK : va_K D vwCl (jy_ty cI cT) s) (hB : jy_inj B) (hN : jy_N s) (hRf : 2 ≤ R.frames) (hRl : 45 ≤ R.locals) {a1 : Int32} {z : Int32 × jl_Mem} (h : jf_X5_reader a1 M = some z)
    (kr : ∀ (v : Int32) (M1 : jl_Mem) (H1 : Heap) (locs1 : List Loc) (pc1 : Nat) (ls1 : Array Slot), (v, M1) = z → decode cX5_reader pc1 = .ok (.ireturn, 1) → va_P D vwCl (jy_w cI cT B M1) H1 → va_S (jy_A B) H0 H1 locs1 → W p l e R s m args below meth c H1 locs1 0 0 Q (F0 m pc1 ls1 [.int v]))
    (hP : va_P D vwCl (jy_w cI cT B M) H) (hS : va_S (jy_A B) H0 H locs) (hl : lv_has ls 6 [(0, .ref (B 0)), (1, .int a1)]) : W p l e R s m args below meth c H locs 0 0 Q (F0 m 0 ls []) := by
  unfold jf_X5_reader at h
  have hiX5 : ∀ w ∈ wsX50, w ∈ wsX5_reader := by decide +kernel
  have hf73 := hts (.fieldLink RX5 73 "JudgesListsModel" "reads" "Z") (by decide +kernel)
  have hf123 := hts (.fieldLink RX5 123 "JudgesListsModel" "kind" "I") (by decide +kernel)
  have hf114 := hts (.fieldLink RX5 114 "JudgesListsModel" "wants" "I") (by decide +kernel)
  have hf129 := hts (.fieldLink RX5 129 "JudgesListsModel" "rounds" "I") (by decide +kernel)
  have hf132 := hts (.fieldLink RX5 132 "JudgesListsModel" "seen" "I") (by decide +kernel)
  have hf135 := hts (.fieldLink RX5 135 "JudgesListsModel" "ups" "I") (by decide +kernel)
  have hf138 := hts (.fieldLink RX5 138 "JudgesListsModel" "cost" "I") (by decide +kernel)
  have hf120 := hts (.fieldLink RX5 120 "JudgesListsModel" "done" "Z") (by decide +kernel)
  have hf63 := hts (.fieldLink RX5 63 "JudgesListsModel" "things" "I") (by decide +kernel)
  have hf70 := hts (.fieldLink RX5 70 "JudgesListsModel" "lists" "I") (by decide +kernel)
  have hf34 := hts (.fieldLink RX5 34 "JudgesListsModel" "looked" "[Z") (by decide +kernel)
  refine lv_aload_n hx hb dX5_reader_0 rfl (lv_at hl 0 rfl) ?_
  refine jy_g_X5_reads hx hb hts hiX5 hown hK hP hf73 dX5_reader_1 ?_
  refine lv_if_ne (tgt := 9) hx hb dX5_reader_4 (by decide) (fun c_4 => ?_) (fun c_4 => ?_)
  · have h := jl_iff c_4 h
    refine lv_iconst (v := 0) hx hb dX5_reader_9 (by decide) ?_
    refine lv_topi (fun x2_10 ex2_10 => ?_)
    have h := jl_lt_o h ex2_10
    refine lv_istore_n (lv' := [(2, .int x2_10), (0, .ref (B 0)), (1, .int a1)]) hx hb dX5_reader_10 rfl hl (by decide) rfl (fun ls hl => ?_)
    refine lv_iload_n hx hb dX5_reader_11 rfl (lv_at hl 2 rfl) ?_
    rcases Decidable.em (a1 = 0) with c0_12 | c0_12
    · have h := jl_ift c0_12 h
      refine lv_tableIn (tgt := 60) (off := 48) hx hb dX5_reader_12 (by rw [c0_12]; decide) (by rw [c0_12]; decide) (by rw [c0_12]; rfl) (by decide) ?_
      refine lv_aload_n hx hb dX5_reader_60 rfl (lv_at hl 1 rfl) ?_
      refine jy_g_X5_kind hx hb hts hiX5 hown hK hP hf123 dX5_reader_61 ?_
      exact kr _ _ _ _ _ _ (Option.some.inj h) dX5_reader_64 hP hS
    · have h := jl_iff c0_12 h
      rcases Decidable.em (a1 = 1) with c1_12 | c1_12
      · have h := jl_ift c1_12 h
        refine lv_tableIn (tgt := 65) (off := 53) hx hb dX5_reader_12 (by rw [c1_12]; decide) (by rw [c1_12]; decide) (by rw [c1_12]; rfl) (by decide) ?_
        refine lv_aload_n hx hb dX5_reader_65 rfl (lv_at hl 1 rfl) ?_
        refine jy_g_X5_wants hx hb hts hiX5 hown hK hP hf114 dX5_reader_66 ?_
        exact kr _ _ _ _ _ _ (Option.some.inj h) dX5_reader_69 hP hS
      · have h := jl_iff c1_12 h
        rcases Decidable.em (a1 = 2) with c2_12 | c2_12
        · have h := jl_ift c2_12 h
          refine lv_tableIn (tgt := 70) (off := 58) hx hb dX5_reader_12 (by rw [c2_12]; decide) (by rw [c2_12]; decide) (by rw [c2_12]; rfl) (by decide) ?_
          refine lv_aload_n hx hb dX5_reader_70 rfl (lv_at hl 1 rfl) ?_
          refine jy_g_X5_rounds hx hb hts hiX5 hown hK hP hf129 dX5_reader_71 ?_
          exact kr _ _ _ _ _ _ (Option.some.inj h) dX5_reader_74 hP hS
        · have h := jl_iff c2_12 h
          rcases Decidable.em (a1 = 3) with c3_12 | c3_12
          · have h := jl_ift c3_12 h
            refine lv_tableIn (tgt := 75) (off := 63) hx hb dX5_reader_12 (by rw [c3_12]; decide) (by rw [c3_12]; decide) (by rw [c3_12]; rfl) (by decide) ?_
            refine lv_aload_n hx hb dX5_reader_75 rfl (lv_at hl 1 rfl) ?_
            refine jy_g_X5_seen hx hb hts hiX5 hown hK hP hf132 dX5_reader_76 ?_
            exact kr _ _ _ _ _ _ (Option.some.inj h) dX5_reader_79 hP hS
          · have h := jl_iff c3_12 h
            rcases Decidable.em (a1 = 4) with c4_12 | c4_12
            · have h := jl_ift c4_12 h
              refine lv_tableIn (tgt := 80) (off := 68) hx hb dX5_reader_12 (by rw [c4_12]; decide) (by rw [c4_12]; decide) (by rw [c4_12]; rfl) (by decide) ?_
              refine lv_aload_n hx hb dX5_reader_80 rfl (lv_at hl 1 rfl) ?_
              refine jy_g_X5_ups hx hb hts hiX5 hown hK hP hf135 dX5_reader_81 ?_
              exact kr _ _ _ _ _ _ (Option.some.inj h) dX5_reader_84 hP hS
            · have h := jl_iff c4_12 h
              rcases Decidable.em (a1 = 5) with c5_12 | c5_12
              · have h := jl_ift c5_12 h
                refine lv_tableIn (tgt := 85) (off := 73) hx hb dX5_reader_12 (by rw [c5_12]; decide) (by rw [c5_12]; decide) (by rw [c5_12]; rfl) (by decide) ?_
                refine lv_aload_n hx hb dX5_reader_85 rfl (lv_at hl 1 rfl) ?_
                refine jy_g_X5_cost hx hb hts hiX5 hown hK hP hf138 dX5_reader_86 ?_
                exact kr _ _ _ _ _ _ (Option.some.inj h) dX5_reader_89 hP hS
              · have h := jl_iff c5_12 h
                rcases Decidable.em (a1 = 6) with c6_12 | c6_12
                · have h := jl_ift c6_12 h
                  refine lv_tableIn (tgt := 90) (off := 78) hx hb dX5_reader_12 (by rw [c6_12]; decide) (by rw [c6_12]; decide) (by rw [c6_12]; rfl) (by decide) ?_
                  refine lv_aload_n hx hb dX5_reader_90 rfl (lv_at hl 1 rfl) ?_
                  refine jy_g_X5_done hx hb hts hiX5 hown hK hP hf120 dX5_reader_91 ?_
                  refine lv_if_eq (tgt := 101) hx hb dX5_reader_94 (by decide) (fun c_94 => ?_) (fun c_94 => ?_)
                  · have h := jl_ift c_94 h
                    refine lv_iconst (v := 0) hx hb dX5_reader_101 (by decide) ?_
                    exact kr _ _ _ _ _ _ (Option.some.inj h) dX5_reader_102 hP hS
                  · have h := jl_iff c_94 h
                    refine lv_iconst (v := 1) hx hb dX5_reader_97 (by decide) ?_
                    refine lv_goto (tgt := 102) hx hb dX5_reader_98 (by decide) ?_
                    exact kr _ _ _ _ _ _ (Option.some.inj h) dX5_reader_102 hP hS
                · have h := jl_iff c6_12 h
                  rcases Decidable.em (a1 = 7) with c7_12 | c7_12
                  · have h := jl_ift c7_12 h
                    refine lv_tableIn (tgt := 103) (off := 91) hx hb dX5_reader_12 (by rw [c7_12]; decide) (by rw [c7_12]; decide) (by rw [c7_12]; rfl) (by decide) ?_
                    refine lv_iconst (v := 0) hx hb dX5_reader_103 (by decide) ?_
                    refine lv_topi (fun x3_104 ex3_104 => ?_)
                    have h := jl_lt_o h ex3_104
                    refine lv_istore_n (lv' := [(3, .int x3_104), (2, .int x2_10), (0, .ref (B 0)), (1, .int a1)]) hx hb dX5_reader_104 rfl hl (by decide) rfl (fun ls hl => ?_)
                    have k105 : ∀ (n105 : Nat) (x2L105 : Int32) (x3L105 : Int32) (ML105 : jl_Mem), jl_wh (fun q => jf_X5_reader_L105 q.1 q.2.1 q.2.2) n105 (x2L105, x3L105, ML105) = some z → ∀ (H : Heap) (locs : List Loc) (ls : Array Slot), va_P D vwCl (jy_w cI cT B ML105) H → va_S (jy_A B) H0 H locs → lv_has ls 6 [(0, .ref (B 0)), (2, .int x2L105), (3, .int x3L105)] → W p l e R s m args below meth c H locs 0 0 Q (F0 m 105 ls []) := by
                      intro n105
                      induction n105 with
                      | zero => exact fun _ _ _ h => (jl_wh_0 h).elim
                      | succ n105 ih105 =>
                        intro x2L105 x3L105 ML105 h H locs ls hP hS hl
                        obtain ⟨o105, h, hz105⟩ := jl_wh_s h
                        replace h : jf_X5_reader_L105 x2L105 x3L105 ML105 = some o105 := h
                        unfold jf_X5_reader_L105 at h
                        refine lv_iload_n hx hb dX5_reader_105 rfl (lv_at hl 2 rfl) ?_
                        refine lv_aload_n hx hb dX5_reader_106 rfl (lv_at hl 0 rfl) ?_
                        refine jy_g_X5_things hx hb hts hiX5 hown hK hP hf63 dX5_reader_107 ?_
                        refine lv_icmp_ge (tgt := 184) hx hb dX5_reader_110 (by decide) (fun c_110 => ?_) (fun c_110 => ?_)
                        · have h := jl_ift c_110 h
                          have h := jl_ex_o h hz105
                          refine lv_iload_n hx hb dX5_reader_184 rfl (lv_at hl 1 rfl) ?_
                          exact kr _ _ _ _ _ _ (Option.some.inj h) dX5_reader_185 hP hS
                        · have h := jl_iff c_110 h
                          refine lv_aload_n hx hb dX5_reader_113 rfl (lv_at hl 0 rfl) ?_
                          refine lv_iload_n hx hb dX5_reader_114 rfl (lv_at hl 2 rfl) ?_
                          obtain ⟨r_115, M_115, hc_115, h⟩ := jl_bnd_o h
                          refine jy_callVi (As := [.int x3L105]) (rest := []) ⟨hx, hb, hml, hown, hts⟩ (jc_X5_isSeen hc_115) (cwV 1 hts gX5_reader_X5_isSeen rfl rfl rfl (by decide +kernel) ⟨Nat.le_trans (by decide) hRf, Nat.le_trans (by decide) hRl⟩) (jy_rv_X5 hK hP) hK hB hN hP hS rfl dX5_reader_115 rfl hl.1 (Nat.le_of_ble_eq_true rfl) ⟨Nat.zero_le _, Nat.zero_le _⟩ (fun H locs hP hS => ?_)
                          refine lv_topi (fun x4_118 ex4_118 => ?_)
                          have h := jl_lt_o h ex4_118
                          refine lv_istore (lv' := [(4, .int x4_118), (0, .ref (B 0)), (2, .int x2L105), (3, .int x3L105)]) hx hb dX5_reader_118 hl (by decide) rfl (fun ls hl => ?_)
                          refine lv_iconst (v := 0) hx hb dX5_reader_120 (by decide) ?_
                          refine lv_topi (fun x5_121 ex5_121 => ?_)
                          have h := jl_lt_o h ex5_121
                          refine lv_istore (lv' := [(5, .int x5_121), (4, .int x4_118), (0, .ref (B 0)), (2, .int x2L105), (3, .int x3L105)]) hx hb dX5_reader_121 hl (by decide) rfl (fun ls hl => ?_)
                          have k123 : ∀ (n123 : Nat) (x4L123 : Int32) (x5L123 : Int32) (ML123 : jl_Mem), jl_wh (fun q => jf_X5_reader_L123 x2L105 x3L105 q.1 q.2.1 q.2.2) n123 (x4L123, x5L123, ML123) = some o105 → ∀ (H : Heap) (locs : List Loc) (ls : Array Slot), va_P D vwCl (jy_w cI cT B ML123) H → va_S (jy_A B) H0 H locs → lv_has ls 6 [(0, .ref (B 0)), (2, .int x2L105), (3, .int x3L105), (4, .int x4L123), (5, .int x5L123)] → W p l e R s m args below meth c H locs 0 0 Q (F0 m 123 ls []) := by
                            intro n123
                            induction n123 with
                            | zero => exact fun _ _ _ h => (jl_wh_0 h).elim
                            | succ n123 ih123 =>
                              intro x4L123 x5L123 ML123 h H locs ls hP hS hl
                              obtain ⟨o123, h, hz123⟩ := jl_wh_s h
                              replace h : jf_X5_reader_L123 x2L105 x3L105 x4L123 x5L123 ML123 = some o123 := h
                              unfold jf_X5_reader_L123 at h
                              refine lv_iload hx hb dX5_reader_123 (lv_at hl 4 rfl) ?_
                              refine lv_aload_n hx hb dX5_reader_125 rfl (lv_at hl 0 rfl) ?_
                              refine jy_g_X5_lists hx hb hts hiX5 hown hK hP hf70 dX5_reader_126 ?_
                              refine lv_icmp_ge (tgt := 165) hx hb dX5_reader_129 (by decide) (fun c_129 => ?_) (fun c_129 => ?_)
                              · have h := jl_ift c_129 h
                                have h := jl_ex_o h hz123
                                refine lv_iload_n hx hb dX5_reader_165 rfl (lv_at hl 1 rfl) ?_
                                refine lv_iload hx hb dX5_reader_166 (lv_at hl 3 rfl) ?_
                                refine lv_if_eq (tgt := 175) hx hb dX5_reader_168 (by decide) (fun c_168 => ?_) (fun c_168 => ?_)
                                · have h := jl_ift c_168 h
                                  refine lv_iconst (v := 0) hx hb dX5_reader_175 (by decide) ?_
                                  refine lv_iadd hx hb dX5_reader_176 ?_
                                  refine lv_topi (fun x2_177 ex2_177 => ?_)
                                  have h := jl_lt_o h ex2_177
                                  refine lv_istore_n (lv' := [(2, .int x2_177), (0, .ref (B 0)), (3, .int x3L105), (4, .int x4L123), (5, .int x5L123)]) hx hb dX5_reader_177 rfl hl (by decide) rfl (fun ls hl => ?_)
                                  obtain ⟨x3_178, ex3_178⟩ : ∃ y : Int32, y = x3L105 + 1 := ⟨_, rfl⟩
                                  have h := jl_lt_o h ex3_178
                                  refine lv_iinc (v := x3_178) (lv' := [(3, .int x3_178), (2, .int x2_177), (0, .ref (B 0)), (4, .int x4L123), (5, .int x5L123)]) hx hb dX5_reader_178 hl (k := 2) rfl (by rw [ex3_178]; rfl) (by decide) rfl (fun ls hl => ?_)
                                  refine lv_goto (tgt := 105) hx hb dX5_reader_181 (by decide) ?_
                                  exact ih105 _ _ _ (jl_L (Option.some.inj h) hz105) _ _ _ hP hS (lv_sub hl [2, 1, 0] rfl)
                                · have h := jl_iff c_168 h
                                  refine lv_iconst (v := 1) hx hb dX5_reader_171 (by decide) ?_
                                  refine lv_goto (tgt := 176) hx hb dX5_reader_172 (by decide) ?_
                                  refine lv_iadd hx hb dX5_reader_176 ?_
                                  refine lv_topi (fun x2_177 ex2_177 => ?_)
                                  have h := jl_lt_o h ex2_177
                                  refine lv_istore_n (lv' := [(2, .int x2_177), (0, .ref (B 0)), (3, .int x3L105), (4, .int x4L123), (5, .int x5L123)]) hx hb dX5_reader_177 rfl hl (by decide) rfl (fun ls hl => ?_)
                                  obtain ⟨x3_178, ex3_178⟩ : ∃ y : Int32, y = x3L105 + 1 := ⟨_, rfl⟩
                                  have h := jl_lt_o h ex3_178
                                  refine lv_iinc (v := x3_178) (lv' := [(3, .int x3_178), (2, .int x2_177), (0, .ref (B 0)), (4, .int x4L123), (5, .int x5L123)]) hx hb dX5_reader_178 hl (k := 2) rfl (by rw [ex3_178]; rfl) (by decide) rfl (fun ls hl => ?_)
                                  refine lv_goto (tgt := 105) hx hb dX5_reader_181 (by decide) ?_
                                  exact ih105 _ _ _ (jl_L (Option.some.inj h) hz105) _ _ _ hP hS (lv_sub hl [2, 1, 0] rfl)
                              · have h := jl_iff c_129 h
                                refine lv_iload hx hb dX5_reader_132 (lv_at hl 3 rfl) ?_
                                refine lv_if_ne (tgt := 152) hx hb dX5_reader_134 (by decide) (fun c_134 => ?_) (fun c_134 => ?_)
                                · have h := jl_iff c_134 h
                                  refine lv_iconst (v := 1) hx hb dX5_reader_152 (by decide) ?_
                                  refine lv_goto (tgt := 157) hx hb dX5_reader_153 (by decide) ?_
                                  refine lv_topi (fun x4_157 ex4_157 => ?_)
                                  have h := jl_lt_o h ex4_157
                                  refine lv_istore (lv' := [(4, .int x4_157), (0, .ref (B 0)), (2, .int x2L105), (3, .int x3L105), (5, .int x5L123)]) hx hb dX5_reader_157 hl (by decide) rfl (fun ls hl => ?_)
                                  obtain ⟨x5_159, ex5_159⟩ : ∃ y : Int32, y = x5L123 + 1 := ⟨_, rfl⟩
                                  have h := jl_lt_o h ex5_159
                                  refine lv_iinc (v := x5_159) (lv' := [(5, .int x5_159), (4, .int x4_157), (0, .ref (B 0)), (2, .int x2L105), (3, .int x3L105)]) hx hb dX5_reader_159 hl (k := 4) rfl (by rw [ex5_159]; rfl) (by decide) rfl (fun ls hl => ?_)
                                  refine lv_goto (tgt := 123) hx hb dX5_reader_162 (by decide) ?_
                                  exact ih123 _ _ _ (jl_L (Option.some.inj h) hz123) _ _ _ hP hS (lv_sub hl [2, 3, 4, 1, 0] rfl)
                                · have h := jl_ift c_134 h
                                  refine lv_aload_n hx hb dX5_reader_137 rfl (lv_at hl 0 rfl) ?_
                                  refine jy_g_X5_looked hx hb hts hiX5 hown hK hP hf34 dX5_reader_138 ?_
                                  refine lv_bipush (v := 20) hx hb dX5_reader_141 (by decide) ?_
                                  refine lv_iload hx hb dX5_reader_143 (lv_at hl 4 rfl) ?_
                                  refine lv_imul hx hb dX5_reader_145 ?_
                                  refine lv_iload_n hx hb dX5_reader_146 rfl (lv_at hl 2 rfl) ?_
                                  refine lv_iadd hx hb dX5_reader_147 ?_
                                  obtain ⟨i_148, h⟩ := jl_chk_o h
                                  refine jy_baload hx hb hK hP rfl i_148 dX5_reader_148 ?_
                                  refine lv_if_eq (tgt := 156) hx hb dX5_reader_149 (by decide) (fun c_149 => ?_) (fun c_149 => ?_)
                                  · have h := jl_ift c_149 h
                                    refine lv_iconst (v := 0) hx hb dX5_reader_156 (by decide) ?_
                                    refine lv_topi (fun x4_157 ex4_157 => ?_)
                                    have h := jl_lt_o h ex4_157
                                    refine lv_istore (lv' := [(4, .int x4_157), (0, .ref (B 0)), (2, .int x2L105), (3, .int x3L105), (5, .int x5L123)]) hx hb dX5_reader_157 hl (by decide) rfl (fun ls hl => ?_)
                                    obtain ⟨x5_159, ex5_159⟩ : ∃ y : Int32, y = x5L123 + 1 := ⟨_, rfl⟩
                                    have h := jl_lt_o h ex5_159
                                    refine lv_iinc (v := x5_159) (lv' := [(5, .int x5_159), (4, .int x4_157), (0, .ref (B 0)), (2, .int x2L105), (3, .int x3L105)]) hx hb dX5_reader_159 hl (k := 4) rfl (by rw [ex5_159]; rfl) (by decide) rfl (fun ls hl => ?_)
                                    refine lv_goto (tgt := 123) hx hb dX5_reader_162 (by decide) ?_
                                    exact ih123 _ _ _ (jl_L (Option.some.inj h) hz123) _ _ _ hP hS (lv_sub hl [2, 3, 4, 1, 0] rfl)
                                  · have h := jl_iff c_149 h
                                    refine lv_iconst (v := 1) hx hb dX5_reader_152 (by decide) ?_
                                    refine lv_goto (tgt := 157) hx hb dX5_reader_153 (by decide) ?_
                                    refine lv_topi (fun x4_157 ex4_157 => ?_)
                                    have h := jl_lt_o h ex4_157
                                    refine lv_istore (lv' := [(4, .int x4_157), (0, .ref (B 0)), (2, .int x2L105), (3, .int x3L105), (5, .int x5L123)]) hx hb dX5_reader_157 hl (by decide) rfl (fun ls hl => ?_)
                                    obtain ⟨x5_159, ex5_159⟩ : ∃ y : Int32, y = x5L123 + 1 := ⟨_, rfl⟩
                                    have h := jl_lt_o h ex5_159
                                    refine lv_iinc (v := x5_159) (lv' := [(5, .int x5_159), (4, .int x4_157), (0, .ref (B 0)), (2, .int x2L105), (3, .int x3L105)]) hx hb dX5_reader_159 hl (k := 4) rfl (by rw [ex5_159]; rfl) (by decide) rfl (fun ls hl => ?_)
                                    refine lv_goto (tgt := 123) hx hb dX5_reader_162 (by decide) ?_
                                    exact ih123 _ _ _ (jl_L (Option.some.inj h) hz123) _ _ _ hP hS (lv_sub hl [2, 3, 4, 1, 0] rfl)
                          exact k123 _ _ _ _ h _ _ _ hP hS (lv_sub hl [2, 3, 4, 1, 0] rfl)
                    exact k105 _ _ _ _ h _ _ _ hP hS (lv_sub hl [2, 1, 0] rfl)
                  · have h := jl_iff c7_12 h
                    have hd : (a1).toInt < 0 ∨ ((8 : Nat) : Int) - 1 < (a1).toInt := jl_tab 8 (by decide) (fun k hk => match k, hk with
                    | 0, _ => c0_12
                    | 1, _ => c1_12
                    | 2, _ => c2_12
                    | 3, _ => c3_12
                    | 4, _ => c4_12
                    | 5, _ => c5_12
                    | 6, _ => c6_12
                    | 7, _ => c7_12
                    | k + 8, hk => absurd hk (by omega))
                    refine lv_tableOut (tgt := 186) hx hb dX5_reader_12 (hd.imp id (fun q => by omega)) (by decide) ?_
                    refine lv_iconst (v := (-1)) hx hb dX5_reader_186 (by decide) ?_
                    exact kr _ _ _ _ _ _ (Option.some.inj h) dX5_reader_187 hP hS
  · have h := jl_ift c_4 h
    refine lv_iconst (v := (-1)) hx hb dX5_reader_7 (by decide) ?_
    exact kr _ _ _ _ _ _ (Option.some.inj h) dX5_reader_8 hP hS
theorem jc_X5_reader {a1 : Int32} {z : Int32 × jl_Mem} (h : jf_X5_reader a1 M = some z) : Met l yX5_reader wsX5_reader ({ frames := 2, cells := 0, slots := 0, locals := 45 }) (va_Pc [.ref (B 0), .int a1] (jy_U D cI cT B M)) (va_Qi (fun (q : Int32) (_ : Unit) => q = z.1) (fun _ t => va_P D vwCl (jy_w cI cT B z.2) t.heap) (jy_A B)) 0 0 (jy_A B) := by
  refine Met.ofW (cc := cX5_reader) (maxL := 6) (ret := (some .int)) (by decide) rfl ?_
  intro p e s m args below meth c s1 BB hml hv
  obtain ⟨rfl, hK, hP, hB, hN⟩ := hv
  have hl := lv_entry ([.ref (B 0), .int a1]) (n := 6) (Nat.le_of_ble_eq_true rfl)
  rw [lg_entry_eq]
  generalize (lg_sl ([.ref (B 0), .int a1]) ++ List.replicate (6 - (lg_sl ([.ref (B 0), .int a1])).length) Slot.unset).toArray = ls at hl ⊢
  exact jb_X5_reader BB.exec BB.bytes hml (findClass_of_methodNamed BB.named) (atoms_spec (ws := wsX5_reader) BB.pre) hK hB hN (Nat.le_refl _) (Nat.le_refl _) h (fun v M1 H locs pc ls e1 hd hP hS => W.iret BB.exec BB.bytes BB.returns (fun t ht hW => ⟨⟨_, (), rfl, by rw [← e1], by show va_P D vwCl (jy_w cI cT B z.2) t.heap; rw [ht, ← e1]; exact hP⟩, hS.F ht⟩) hS.2.2 hd BB.notSynchronized) hP va_S.rf hl
end
section
variable {p : Program} {l : Launch} {e : Env} {R : Room} {s : State} {m : MethodId} {args : Array Value} {below : List Frame} {meth : Method} {c : Code} {H : Heap} {locs : List Loc} {Q : State → Prop} {ls : Array Slot} {D : va_G} {cI cT : ClassId} {B : Nat → Nat} {M : jl_Mem} {H0 : Heap}
set_option maxHeartbeats 4000000 in
set_option maxRecDepth 100000 in
theorem jb_X5_depth (hx : p.tables.exec = Jvm.exec) (hb : c.code = cX5_depth) (hml : c.maxLocals = 3) (hown : s.vm.findClass RX5 = some m.cls) (hts : ∀ w ∈ wsX5_depth, w.before args s = true) (hK : va_K D vwCl (jy_ty cI cT) s) (hB : jy_inj B) (hN : jy_N s) (hRf : 2 ≤ R.frames) (hRl : 43 ≤ R.locals) {a1 : Int32} {a2 : Int32} {z : Int32 × jl_Mem} (h : jf_X5_depth a1 a2 M = some z)
    (kr : ∀ (v : Int32) (M1 : jl_Mem) (H1 : Heap) (locs1 : List Loc) (pc1 : Nat) (ls1 : Array Slot), (v, M1) = z → decode cX5_depth pc1 = .ok (.ireturn, 1) → va_P D vwCl (jy_w cI cT B M1) H1 → va_S (jy_A B) H0 H1 locs1 → W p l e R s m args below meth c H1 locs1 0 0 Q (F0 m pc1 ls1 [.int v]))
    (hP : va_P D vwCl (jy_w cI cT B M) H) (hS : va_S (jy_A B) H0 H locs) (hl : lv_has ls 3 [(0, .ref (B 0)), (1, .int a1), (2, .int a2)]) : W p l e R s m args below meth c H locs 0 0 Q (F0 m 0 ls []) := by
  unfold jf_X5_depth at h
  have hiX5 : ∀ w ∈ wsX50, w ∈ wsX5_depth := by decide +kernel
  have hf73 := hts (.fieldLink RX5 73 "JudgesListsModel" "reads" "Z") (by decide +kernel)
  have hf31 := hts (.fieldLink RX5 31 "JudgesListsModel" "depth" "[I") (by decide +kernel)
  refine lv_aload_n hx hb dX5_depth_0 rfl (lv_at hl 0 rfl) ?_
  refine jy_g_X5_reads hx hb hts hiX5 hown hK hP hf73 dX5_depth_1 ?_
  refine lv_if_eq (tgt := 15) hx hb dX5_depth_4 (by decide) (fun c_4 => ?_) (fun c_4 => ?_)
  · have h := jl_ift c_4 h
    refine lv_iconst (v := (-1)) hx hb dX5_depth_15 (by decide) ?_
    exact kr _ _ _ _ _ _ (Option.some.inj h) dX5_depth_16 hP hS
  · have h := jl_iff c_4 h
    refine lv_aload_n hx hb dX5_depth_7 rfl (lv_at hl 0 rfl) ?_
    refine lv_iload_n hx hb dX5_depth_8 rfl (lv_at hl 1 rfl) ?_
    obtain ⟨r_9, M_9, hc_9, h⟩ := jl_bnd_o h
    refine jy_callVi (As := [.int a1]) (rest := []) ⟨hx, hb, hml, hown, hts⟩ (jc_X5_isList hc_9) (cwV 1 hts gX5_depth_X5_isList rfl rfl rfl (by decide +kernel) ⟨Nat.le_trans (by decide) hRf, Nat.le_trans (by decide) hRl⟩) (jy_rv_X5 hK hP) hK hB hN hP hS rfl dX5_depth_9 rfl hl.1 (Nat.le_of_ble_eq_true rfl) ⟨Nat.zero_le _, Nat.zero_le _⟩ (fun H locs hP hS => ?_)
    refine lv_if_ne (tgt := 17) hx hb dX5_depth_12 (by decide) (fun c_12 => ?_) (fun c_12 => ?_)
    · have h := jl_iff c_12 h
      refine lv_iload_n hx hb dX5_depth_17 rfl (lv_at hl 2 rfl) ?_
      refine lv_if_ne (tgt := 30) hx hb dX5_depth_18 (by decide) (fun c_18 => ?_) (fun c_18 => ?_)
      · have h := jl_iff c_18 h
        refine lv_iload_n hx hb dX5_depth_30 rfl (lv_at hl 2 rfl) ?_
        refine lv_iconst (v := 1) hx hb dX5_depth_31 (by decide) ?_
        refine lv_icmp_ne (tgt := 43) hx hb dX5_depth_32 (by decide) (fun c_32 => ?_) (fun c_32 => ?_)
        · have h := jl_iff c_32 h
          refine lv_iconst (v := (-1)) hx hb dX5_depth_43 (by decide) ?_
          exact kr _ _ _ _ _ _ (Option.some.inj h) dX5_depth_44 hP hS
        · have h := jl_ift c_32 h
          refine lv_aload_n hx hb dX5_depth_35 rfl (lv_at hl 0 rfl) ?_
          refine lv_iload_n hx hb dX5_depth_36 rfl (lv_at hl 1 rfl) ?_
          obtain ⟨r_37, M_37, hc_37, h⟩ := jl_bnd_o h
          refine jy_callVi (As := [.int a1]) (rest := []) ⟨hx, hb, hml, hown, hts⟩ (jc_X5_topOf hc_37) (cwV 1 hts gX5_depth_X5_topOf rfl rfl rfl (by decide +kernel) ⟨Nat.le_trans (by decide) hRf, Nat.le_trans (by decide) hRl⟩) (jy_rv_X5 hK hP) hK hB hN hP hS rfl dX5_depth_37 rfl hl.1 (Nat.le_of_ble_eq_true rfl) ⟨Nat.zero_le _, Nat.zero_le _⟩ (fun H locs hP hS => ?_)
          refine lv_goto (tgt := 44) hx hb dX5_depth_40 (by decide) ?_
          exact kr _ _ _ _ _ _ (Option.some.inj h) dX5_depth_44 hP hS
      · have h := jl_ift c_18 h
        refine lv_aload_n hx hb dX5_depth_21 rfl (lv_at hl 0 rfl) ?_
        refine jy_g_X5_depth hx hb hts hiX5 hown hK hP hf31 dX5_depth_22 ?_
        refine lv_iload_n hx hb dX5_depth_25 rfl (lv_at hl 1 rfl) ?_
        obtain ⟨i_26, h⟩ := jl_chk_o h
        refine jy_iaload hx hb hK hP rfl i_26 dX5_depth_26 ?_
        refine lv_goto (tgt := 44) hx hb dX5_depth_27 (by decide) ?_
        exact kr _ _ _ _ _ _ (Option.some.inj h) dX5_depth_44 hP hS
    · have h := jl_ift c_12 h
      refine lv_iconst (v := (-1)) hx hb dX5_depth_15 (by decide) ?_
      exact kr _ _ _ _ _ _ (Option.some.inj h) dX5_depth_16 hP hS
theorem jc_X5_depth {a1 : Int32} {a2 : Int32} {z : Int32 × jl_Mem} (h : jf_X5_depth a1 a2 M = some z) : Met l yX5_depth wsX5_depth ({ frames := 2, cells := 0, slots := 0, locals := 43 }) (va_Pc [.ref (B 0), .int a1, .int a2] (jy_U D cI cT B M)) (va_Qi (fun (q : Int32) (_ : Unit) => q = z.1) (fun _ t => va_P D vwCl (jy_w cI cT B z.2) t.heap) (jy_A B)) 0 0 (jy_A B) := by
  refine Met.ofW (cc := cX5_depth) (maxL := 3) (ret := (some .int)) (by decide) rfl ?_
  intro p e s m args below meth c s1 BB hml hv
  obtain ⟨rfl, hK, hP, hB, hN⟩ := hv
  have hl := lv_entry ([.ref (B 0), .int a1, .int a2]) (n := 3) (Nat.le_of_ble_eq_true rfl)
  rw [lg_entry_eq]
  generalize (lg_sl ([.ref (B 0), .int a1, .int a2]) ++ List.replicate (3 - (lg_sl ([.ref (B 0), .int a1, .int a2])).length) Slot.unset).toArray = ls at hl ⊢
  exact jb_X5_depth BB.exec BB.bytes hml (findClass_of_methodNamed BB.named) (atoms_spec (ws := wsX5_depth) BB.pre) hK hB hN (Nat.le_refl _) (Nat.le_refl _) h (fun v M1 H locs pc ls e1 hd hP hS => W.iret BB.exec BB.bytes BB.returns (fun t ht hW => ⟨⟨_, (), rfl, by rw [← e1], by show va_P D vwCl (jy_w cI cT B z.2) t.heap; rw [ht, ← e1]; exact hP⟩, hS.F ht⟩) hS.2.2 hd BB.notSynchronized) hP va_S.rf hl
end
section
variable {p : Program} {l : Launch} {e : Env} {R : Room} {s : State} {m : MethodId} {args : Array Value} {below : List Frame} {meth : Method} {c : Code} {H : Heap} {locs : List Loc} {Q : State → Prop} {ls : Array Slot} {D : va_G} {cI cT : ClassId} {B : Nat → Nat} {M : jl_Mem} {H0 : Heap}
set_option maxHeartbeats 4000000 in
set_option maxRecDepth 100000 in
theorem jb_X5_known (hx : p.tables.exec = Jvm.exec) (hb : c.code = cX5_known) (hml : c.maxLocals = 3) (hown : s.vm.findClass RX5 = some m.cls) (hts : ∀ w ∈ wsX5_known, w.before args s = true) (hK : va_K D vwCl (jy_ty cI cT) s) (hB : jy_inj B) (hN : jy_N s) (hRf : 2 ≤ R.frames) (hRl : 45 ≤ R.locals) {a1 : Int32} {a2 : Int32} {z : Int32 × jl_Mem} (h : jf_X5_known a1 a2 M = some z)
    (kr : ∀ (v : Int32) (M1 : jl_Mem) (H1 : Heap) (locs1 : List Loc) (pc1 : Nat) (ls1 : Array Slot), (v, M1) = z → decode cX5_known pc1 = .ok (.ireturn, 1) → va_P D vwCl (jy_w cI cT B M1) H1 → va_S (jy_A B) H0 H1 locs1 → W p l e R s m args below meth c H1 locs1 0 0 Q (F0 m pc1 ls1 [.int v]))
    (hP : va_P D vwCl (jy_w cI cT B M) H) (hS : va_S (jy_A B) H0 H locs) (hl : lv_has ls 3 [(0, .ref (B 0)), (1, .int a1), (2, .int a2)]) : W p l e R s m args below meth c H locs 0 0 Q (F0 m 0 ls []) := by
  unfold jf_X5_known at h
  have hiX5 : ∀ w ∈ wsX50, w ∈ wsX5_known := by decide +kernel
  have hf73 := hts (.fieldLink RX5 73 "JudgesListsModel" "reads" "Z") (by decide +kernel)
  refine lv_aload_n hx hb dX5_known_0 rfl (lv_at hl 0 rfl) ?_
  refine jy_g_X5_reads hx hb hts hiX5 hown hK hP hf73 dX5_known_1 ?_
  refine lv_if_eq (tgt := 23) hx hb dX5_known_4 (by decide) (fun c_4 => ?_) (fun c_4 => ?_)
  · have h := jl_ift c_4 h
    refine lv_iconst (v := (-1)) hx hb dX5_known_23 (by decide) ?_
    exact kr _ _ _ _ _ _ (Option.some.inj h) dX5_known_24 hP hS
  · have h := jl_iff c_4 h
    refine lv_aload_n hx hb dX5_known_7 rfl (lv_at hl 0 rfl) ?_
    refine lv_iload_n hx hb dX5_known_8 rfl (lv_at hl 1 rfl) ?_
    obtain ⟨r_9, M_9, hc_9, h⟩ := jl_bnd_o h
    refine jy_callVi (As := [.int a1]) (rest := []) ⟨hx, hb, hml, hown, hts⟩ (jc_X5_isList hc_9) (cwV 1 hts gX5_known_X5_isList rfl rfl rfl (by decide +kernel) ⟨Nat.le_trans (by decide) hRf, Nat.le_trans (by decide) hRl⟩) (jy_rv_X5 hK hP) hK hB hN hP hS rfl dX5_known_9 rfl hl.1 (Nat.le_of_ble_eq_true rfl) ⟨Nat.zero_le _, Nat.zero_le _⟩ (fun H locs hP hS => ?_)
    refine lv_if_eq (tgt := 23) hx hb dX5_known_12 (by decide) (fun c_12 => ?_) (fun c_12 => ?_)
    · have h := jl_ift c_12 h
      refine lv_iconst (v := (-1)) hx hb dX5_known_23 (by decide) ?_
      exact kr _ _ _ _ _ _ (Option.some.inj h) dX5_known_24 hP hS
    · have h := jl_iff c_12 h
      refine lv_aload_n hx hb dX5_known_15 rfl (lv_at hl 0 rfl) ?_
      refine lv_iload_n hx hb dX5_known_16 rfl (lv_at hl 2 rfl) ?_
      obtain ⟨r_17, M_17, hc_17, h⟩ := jl_bnd_o h
      refine jy_callVi (As := [.int a2]) (rest := []) ⟨hx, hb, hml, hown, hts⟩ (jc_X5_isThing hc_17) (cwV 1 hts gX5_known_X5_isThing rfl rfl rfl (by decide +kernel) ⟨Nat.le_trans (by decide) hRf, Nat.le_trans (by decide) hRl⟩) (jy_rv_X5 hK hP) hK hB hN hP hS rfl dX5_known_17 rfl hl.1 (Nat.le_of_ble_eq_true rfl) ⟨Nat.zero_le _, Nat.zero_le _⟩ (fun H locs hP hS => ?_)
      refine lv_if_ne (tgt := 25) hx hb dX5_known_20 (by decide) (fun c_20 => ?_) (fun c_20 => ?_)
      · have h := jl_iff c_20 h
        refine lv_aload_n hx hb dX5_known_25 rfl (lv_at hl 0 rfl) ?_
        refine lv_iload_n hx hb dX5_known_26 rfl (lv_at hl 1 rfl) ?_
        refine lv_iload_n hx hb dX5_known_27 rfl (lv_at hl 2 rfl) ?_
        obtain ⟨r_28, M_28, hc_28, h⟩ := jl_bnd_o h
        refine jy_callVi (As := [.int a1, .int a2]) (rest := []) ⟨hx, hb, hml, hown, hts⟩ (jc_X5_isKnown hc_28) (cwV 2 hts gX5_known_X5_isKnown rfl rfl rfl (by decide +kernel) ⟨Nat.le_trans (by decide) hRf, Nat.le_trans (by decide) hRl⟩) (jy_rv_X5 hK hP) hK hB hN hP hS rfl dX5_known_28 rfl hl.1 (Nat.le_of_ble_eq_true rfl) ⟨Nat.zero_le _, Nat.zero_le _⟩ (fun H locs hP hS => ?_)
        refine lv_if_eq (tgt := 38) hx hb dX5_known_31 (by decide) (fun c_31 => ?_) (fun c_31 => ?_)
        · have h := jl_ift c_31 h
          refine lv_iconst (v := 0) hx hb dX5_known_38 (by decide) ?_
          exact kr _ _ _ _ _ _ (Option.some.inj h) dX5_known_39 hP hS
        · have h := jl_iff c_31 h
          refine lv_iconst (v := 1) hx hb dX5_known_34 (by decide) ?_
          refine lv_goto (tgt := 39) hx hb dX5_known_35 (by decide) ?_
          exact kr _ _ _ _ _ _ (Option.some.inj h) dX5_known_39 hP hS
      · have h := jl_ift c_20 h
        refine lv_iconst (v := (-1)) hx hb dX5_known_23 (by decide) ?_
        exact kr _ _ _ _ _ _ (Option.some.inj h) dX5_known_24 hP hS
theorem jc_X5_known {a1 : Int32} {a2 : Int32} {z : Int32 × jl_Mem} (h : jf_X5_known a1 a2 M = some z) : Met l yX5_known wsX5_known ({ frames := 2, cells := 0, slots := 0, locals := 45 }) (va_Pc [.ref (B 0), .int a1, .int a2] (jy_U D cI cT B M)) (va_Qi (fun (q : Int32) (_ : Unit) => q = z.1) (fun _ t => va_P D vwCl (jy_w cI cT B z.2) t.heap) (jy_A B)) 0 0 (jy_A B) := by
  refine Met.ofW (cc := cX5_known) (maxL := 3) (ret := (some .int)) (by decide) rfl ?_
  intro p e s m args below meth c s1 BB hml hv
  obtain ⟨rfl, hK, hP, hB, hN⟩ := hv
  have hl := lv_entry ([.ref (B 0), .int a1, .int a2]) (n := 3) (Nat.le_of_ble_eq_true rfl)
  rw [lg_entry_eq]
  generalize (lg_sl ([.ref (B 0), .int a1, .int a2]) ++ List.replicate (3 - (lg_sl ([.ref (B 0), .int a1, .int a2])).length) Slot.unset).toArray = ls at hl ⊢
  exact jb_X5_known BB.exec BB.bytes hml (findClass_of_methodNamed BB.named) (atoms_spec (ws := wsX5_known) BB.pre) hK hB hN (Nat.le_refl _) (Nat.le_refl _) h (fun v M1 H locs pc ls e1 hd hP hS => W.iret BB.exec BB.bytes BB.returns (fun t ht hW => ⟨⟨_, (), rfl, by rw [← e1], by show va_P D vwCl (jy_w cI cT B z.2) t.heap; rw [ht, ← e1]; exact hP⟩, hS.F ht⟩) hS.2.2 hd BB.notSynchronized) hP va_S.rf hl
end
section
variable {p : Program} {l : Launch} {e : Env} {R : Room} {s : State} {m : MethodId} {args : Array Value} {below : List Frame} {meth : Method} {c : Code} {H : Heap} {locs : List Loc} {Q : State → Prop} {ls : Array Slot} {D : va_G} {cI cT : ClassId} {B : Nat → Nat} {M : jl_Mem} {H0 : Heap}
set_option maxHeartbeats 4000000 in
set_option maxRecDepth 100000 in
theorem jb_X5_bound (hx : p.tables.exec = Jvm.exec) (hb : c.code = cX5_bound) (hml : c.maxLocals = 3) (hown : s.vm.findClass RX5 = some m.cls) (hts : ∀ w ∈ wsX5_bound, w.before args s = true) (hK : va_K D vwCl (jy_ty cI cT) s) (hB : jy_inj B) (hN : jy_N s) (hRf : 3 ≤ R.frames) (hRl : 68 ≤ R.locals) {a1 : Int32} {a2 : Int32} {z : Int32 × jl_Mem} (h : jf_X5_bound a1 a2 M = some z)
    (kr : ∀ (v : Int32) (M1 : jl_Mem) (H1 : Heap) (locs1 : List Loc) (pc1 : Nat) (ls1 : Array Slot), (v, M1) = z → decode cX5_bound pc1 = .ok (.ireturn, 1) → va_P D vwCl (jy_w cI cT B M1) H1 → va_S (jy_A B) H0 H1 locs1 → W p l e R s m args below meth c H1 locs1 0 0 Q (F0 m pc1 ls1 [.int v]))
    (hP : va_P D vwCl (jy_w cI cT B M) H) (hS : va_S (jy_A B) H0 H locs) (hl : lv_has ls 3 [(0, .ref (B 0)), (1, .int a1), (2, .int a2)]) : W p l e R s m args below meth c H locs 0 0 Q (F0 m 0 ls []) := by
  unfold jf_X5_bound at h
  have hiX5 : ∀ w ∈ wsX50, w ∈ wsX5_bound := by decide +kernel
  have hf73 := hts (.fieldLink RX5 73 "JudgesListsModel" "reads" "Z") (by decide +kernel)
  refine lv_aload_n hx hb dX5_bound_0 rfl (lv_at hl 0 rfl) ?_
  refine jy_g_X5_reads hx hb hts hiX5 hown hK hP hf73 dX5_bound_1 ?_
  refine lv_if_eq (tgt := 15) hx hb dX5_bound_4 (by decide) (fun c_4 => ?_) (fun c_4 => ?_)
  · have h := jl_ift c_4 h
    refine lv_iconst (v := (-1)) hx hb dX5_bound_15 (by decide) ?_
    exact kr _ _ _ _ _ _ (Option.some.inj h) dX5_bound_16 hP hS
  · have h := jl_iff c_4 h
    refine lv_aload_n hx hb dX5_bound_7 rfl (lv_at hl 0 rfl) ?_
    refine lv_iload_n hx hb dX5_bound_8 rfl (lv_at hl 1 rfl) ?_
    obtain ⟨r_9, M_9, hc_9, h⟩ := jl_bnd_o h
    refine jy_callVi (As := [.int a1]) (rest := []) ⟨hx, hb, hml, hown, hts⟩ (jc_X5_isThing hc_9) (cwV 1 hts gX5_bound_X5_isThing rfl rfl rfl (by decide +kernel) ⟨Nat.le_trans (by decide) hRf, Nat.le_trans (by decide) hRl⟩) (jy_rv_X5 hK hP) hK hB hN hP hS rfl dX5_bound_9 rfl hl.1 (Nat.le_of_ble_eq_true rfl) ⟨Nat.zero_le _, Nat.zero_le _⟩ (fun H locs hP hS => ?_)
    refine lv_if_ne (tgt := 17) hx hb dX5_bound_12 (by decide) (fun c_12 => ?_) (fun c_12 => ?_)
    · have h := jl_iff c_12 h
      refine lv_iload_n hx hb dX5_bound_17 rfl (lv_at hl 2 rfl) ?_
      refine lv_iconst (v := 0) hx hb dX5_bound_18 (by decide) ?_
      refine lv_iconst (v := 1) hx hb dX5_bound_19 (by decide) ?_
      obtain ⟨r_20, M_20, hc_20, h⟩ := jl_bnd_o h
      refine jy_callSi (As := [.int a2, .int 0, .int 1]) (rest := []) ⟨hx, hb, hml, hown, hts⟩ (jc_X5_in hc_20) (va_cwS 3 hts gX5_bound_X5_in rfl rfl rfl (by decide +kernel) ⟨Nat.le_trans (by decide) hRf, Nat.le_trans (by decide) hRl⟩) hK hB hN hP hS rfl dX5_bound_20 rfl hl.1 (Nat.le_of_ble_eq_true rfl) ⟨Nat.zero_le _, Nat.zero_le _⟩ (fun H locs hP hS => ?_)
      refine lv_if_eq (tgt := 44) hx hb dX5_bound_23 (by decide) (fun c_23 => ?_) (fun c_23 => ?_)
      · have h := jl_ift c_23 h
        refine lv_bipush (v := (-2)) hx hb dX5_bound_44 (by decide) ?_
        exact kr _ _ _ _ _ _ (Option.some.inj h) dX5_bound_46 hP hS
      · have h := jl_iff c_23 h
        refine lv_aload_n hx hb dX5_bound_26 rfl (lv_at hl 0 rfl) ?_
        refine lv_iload_n hx hb dX5_bound_27 rfl (lv_at hl 1 rfl) ?_
        refine lv_iload_n hx hb dX5_bound_28 rfl (lv_at hl 2 rfl) ?_
        refine lv_iconst (v := 1) hx hb dX5_bound_29 (by decide) ?_
        refine lv_icmp_ne (tgt := 37) hx hb dX5_bound_30 (by decide) (fun c_30 => ?_) (fun c_30 => ?_)
        · have h := jl_iff c_30 h
          refine lv_iconst (v := 0) hx hb dX5_bound_37 (by decide) ?_
          obtain ⟨r_38, M_38, hc_38, h⟩ := jl_bnd_o h
          refine jy_callVi (As := [.int a1, .int 0]) (rest := []) ⟨hx, hb, hml, hown, hts⟩ (jc_X5_boundOf hc_38) (cwV 2 hts gX5_bound_X5_boundOf rfl rfl rfl (by decide +kernel) ⟨Nat.le_trans (by decide) hRf, Nat.le_trans (by decide) hRl⟩) (jy_rv_X5 hK hP) hK hB hN hP hS rfl dX5_bound_38 rfl hl.1 (Nat.le_of_ble_eq_true rfl) ⟨Nat.zero_le _, Nat.zero_le _⟩ (fun H locs hP hS => ?_)
          refine lv_goto (tgt := 46) hx hb dX5_bound_41 (by decide) ?_
          exact kr _ _ _ _ _ _ (Option.some.inj h) dX5_bound_46 hP hS
        · have h := jl_ift c_30 h
          refine lv_iconst (v := 1) hx hb dX5_bound_33 (by decide) ?_
          refine lv_goto (tgt := 38) hx hb dX5_bound_34 (by decide) ?_
          obtain ⟨r_38, M_38, hc_38, h⟩ := jl_bnd_o h
          refine jy_callVi (As := [.int a1, .int 1]) (rest := []) ⟨hx, hb, hml, hown, hts⟩ (jc_X5_boundOf hc_38) (cwV 2 hts gX5_bound_X5_boundOf rfl rfl rfl (by decide +kernel) ⟨Nat.le_trans (by decide) hRf, Nat.le_trans (by decide) hRl⟩) (jy_rv_X5 hK hP) hK hB hN hP hS rfl dX5_bound_38 rfl hl.1 (Nat.le_of_ble_eq_true rfl) ⟨Nat.zero_le _, Nat.zero_le _⟩ (fun H locs hP hS => ?_)
          refine lv_goto (tgt := 46) hx hb dX5_bound_41 (by decide) ?_
          exact kr _ _ _ _ _ _ (Option.some.inj h) dX5_bound_46 hP hS
    · have h := jl_ift c_12 h
      refine lv_iconst (v := (-1)) hx hb dX5_bound_15 (by decide) ?_
      exact kr _ _ _ _ _ _ (Option.some.inj h) dX5_bound_16 hP hS
theorem jc_X5_bound {a1 : Int32} {a2 : Int32} {z : Int32 × jl_Mem} (h : jf_X5_bound a1 a2 M = some z) : Met l yX5_bound wsX5_bound ({ frames := 3, cells := 0, slots := 0, locals := 68 }) (va_Pc [.ref (B 0), .int a1, .int a2] (jy_U D cI cT B M)) (va_Qi (fun (q : Int32) (_ : Unit) => q = z.1) (fun _ t => va_P D vwCl (jy_w cI cT B z.2) t.heap) (jy_A B)) 0 0 (jy_A B) := by
  refine Met.ofW (cc := cX5_bound) (maxL := 3) (ret := (some .int)) (by decide) rfl ?_
  intro p e s m args below meth c s1 BB hml hv
  obtain ⟨rfl, hK, hP, hB, hN⟩ := hv
  have hl := lv_entry ([.ref (B 0), .int a1, .int a2]) (n := 3) (Nat.le_of_ble_eq_true rfl)
  rw [lg_entry_eq]
  generalize (lg_sl ([.ref (B 0), .int a1, .int a2]) ++ List.replicate (3 - (lg_sl ([.ref (B 0), .int a1, .int a2])).length) Slot.unset).toArray = ls at hl ⊢
  exact jb_X5_bound BB.exec BB.bytes hml (findClass_of_methodNamed BB.named) (atoms_spec (ws := wsX5_bound) BB.pre) hK hB hN (Nat.le_refl _) (Nat.le_refl _) h (fun v M1 H locs pc ls e1 hd hP hS => W.iret BB.exec BB.bytes BB.returns (fun t ht hW => ⟨⟨_, (), rfl, by rw [← e1], by show va_P D vwCl (jy_w cI cT B z.2) t.heap; rw [ht, ← e1]; exact hP⟩, hS.F ht⟩) hS.2.2 hd BB.notSynchronized) hP va_S.rf hl
end
section
variable {p : Program} {l : Launch} {e : Env} {R : Room} {s : State} {m : MethodId} {args : Array Value} {below : List Frame} {meth : Method} {c : Code} {H : Heap} {locs : List Loc} {Q : State → Prop} {ls : Array Slot} {D : va_G} {cI cT : ClassId} {B : Nat → Nat} {M : jl_Mem} {H0 : Heap}
set_option maxHeartbeats 4000000 in
set_option maxRecDepth 100000 in
theorem jb_X5_ahead (hx : p.tables.exec = Jvm.exec) (hb : c.code = cX5_ahead) (hml : c.maxLocals = 3) (hown : s.vm.findClass RX5 = some m.cls) (hts : ∀ w ∈ wsX5_ahead, w.before args s = true) (hK : va_K D vwCl (jy_ty cI cT) s) (hB : jy_inj B) (hN : jy_N s) (hRf : 4 ≤ R.frames) (hRl : 92 ≤ R.locals) {a1 : Int32} {a2 : Int32} {z : Int32 × jl_Mem} (h : jf_X5_ahead a1 a2 M = some z)
    (kr : ∀ (v : Int32) (M1 : jl_Mem) (H1 : Heap) (locs1 : List Loc) (pc1 : Nat) (ls1 : Array Slot), (v, M1) = z → decode cX5_ahead pc1 = .ok (.ireturn, 1) → va_P D vwCl (jy_w cI cT B M1) H1 → va_S (jy_A B) H0 H1 locs1 → W p l e R s m args below meth c H1 locs1 0 0 Q (F0 m pc1 ls1 [.int v]))
    (hP : va_P D vwCl (jy_w cI cT B M) H) (hS : va_S (jy_A B) H0 H locs) (hl : lv_has ls 3 [(0, .ref (B 0)), (1, .int a1), (2, .int a2)]) : W p l e R s m args below meth c H locs 0 0 Q (F0 m 0 ls []) := by
  unfold jf_X5_ahead at h
  have hiX5 : ∀ w ∈ wsX50, w ∈ wsX5_ahead := by decide +kernel
  have hf73 := hts (.fieldLink RX5 73 "JudgesListsModel" "reads" "Z") (by decide +kernel)
  refine lv_aload_n hx hb dX5_ahead_0 rfl (lv_at hl 0 rfl) ?_
  refine jy_g_X5_reads hx hb hts hiX5 hown hK hP hf73 dX5_ahead_1 ?_
  refine lv_if_eq (tgt := 23) hx hb dX5_ahead_4 (by decide) (fun c_4 => ?_) (fun c_4 => ?_)
  · have h := jl_ift c_4 h
    refine lv_iconst (v := (-1)) hx hb dX5_ahead_23 (by decide) ?_
    exact kr _ _ _ _ _ _ (Option.some.inj h) dX5_ahead_24 hP hS
  · have h := jl_iff c_4 h
    refine lv_aload_n hx hb dX5_ahead_7 rfl (lv_at hl 0 rfl) ?_
    refine lv_iload_n hx hb dX5_ahead_8 rfl (lv_at hl 1 rfl) ?_
    obtain ⟨r_9, M_9, hc_9, h⟩ := jl_bnd_o h
    refine jy_callVi (As := [.int a1]) (rest := []) ⟨hx, hb, hml, hown, hts⟩ (jc_X5_isThing hc_9) (cwV 1 hts gX5_ahead_X5_isThing rfl rfl rfl (by decide +kernel) ⟨Nat.le_trans (by decide) hRf, Nat.le_trans (by decide) hRl⟩) (jy_rv_X5 hK hP) hK hB hN hP hS rfl dX5_ahead_9 rfl hl.1 (Nat.le_of_ble_eq_true rfl) ⟨Nat.zero_le _, Nat.zero_le _⟩ (fun H locs hP hS => ?_)
    refine lv_if_eq (tgt := 23) hx hb dX5_ahead_12 (by decide) (fun c_12 => ?_) (fun c_12 => ?_)
    · have h := jl_ift c_12 h
      refine lv_iconst (v := (-1)) hx hb dX5_ahead_23 (by decide) ?_
      exact kr _ _ _ _ _ _ (Option.some.inj h) dX5_ahead_24 hP hS
    · have h := jl_iff c_12 h
      refine lv_aload_n hx hb dX5_ahead_15 rfl (lv_at hl 0 rfl) ?_
      refine lv_iload_n hx hb dX5_ahead_16 rfl (lv_at hl 2 rfl) ?_
      obtain ⟨r_17, M_17, hc_17, h⟩ := jl_bnd_o h
      refine jy_callVi (As := [.int a2]) (rest := []) ⟨hx, hb, hml, hown, hts⟩ (jc_X5_isThing hc_17) (cwV 1 hts gX5_ahead_X5_isThing rfl rfl rfl (by decide +kernel) ⟨Nat.le_trans (by decide) hRf, Nat.le_trans (by decide) hRl⟩) (jy_rv_X5 hK hP) hK hB hN hP hS rfl dX5_ahead_17 rfl hl.1 (Nat.le_of_ble_eq_true rfl) ⟨Nat.zero_le _, Nat.zero_le _⟩ (fun H locs hP hS => ?_)
      refine lv_if_ne (tgt := 25) hx hb dX5_ahead_20 (by decide) (fun c_20 => ?_) (fun c_20 => ?_)
      · have h := jl_iff c_20 h
        refine lv_iload_n hx hb dX5_ahead_25 rfl (lv_at hl 1 rfl) ?_
        refine lv_iload_n hx hb dX5_ahead_26 rfl (lv_at hl 2 rfl) ?_
        refine lv_icmp_ne (tgt := 33) hx hb dX5_ahead_27 (by decide) (fun c_27 => ?_) (fun c_27 => ?_)
        · have h := jl_iff c_27 h
          refine lv_aload_n hx hb dX5_ahead_33 rfl (lv_at hl 0 rfl) ?_
          refine lv_iload_n hx hb dX5_ahead_34 rfl (lv_at hl 1 rfl) ?_
          refine lv_iload_n hx hb dX5_ahead_35 rfl (lv_at hl 2 rfl) ?_
          obtain ⟨r_36, M_36, hc_36, h⟩ := jl_bnd_o h
          refine jy_callVi (As := [.int a1, .int a2]) (rest := []) ⟨hx, hb, hml, hown, hts⟩ (jc_X5_isAhead hc_36) (cwV 2 hts gX5_ahead_X5_isAhead rfl rfl rfl (by decide +kernel) ⟨Nat.le_trans (by decide) hRf, Nat.le_trans (by decide) hRl⟩) (jy_rv_X5 hK hP) hK hB hN hP hS rfl dX5_ahead_36 rfl hl.1 (Nat.le_of_ble_eq_true rfl) ⟨Nat.zero_le _, Nat.zero_le _⟩ (fun H locs hP hS => ?_)
          refine lv_if_eq (tgt := 46) hx hb dX5_ahead_39 (by decide) (fun c_39 => ?_) (fun c_39 => ?_)
          · have h := jl_ift c_39 h
            refine lv_iconst (v := 0) hx hb dX5_ahead_46 (by decide) ?_
            exact kr _ _ _ _ _ _ (Option.some.inj h) dX5_ahead_47 hP hS
          · have h := jl_iff c_39 h
            refine lv_iconst (v := 1) hx hb dX5_ahead_42 (by decide) ?_
            refine lv_goto (tgt := 47) hx hb dX5_ahead_43 (by decide) ?_
            exact kr _ _ _ _ _ _ (Option.some.inj h) dX5_ahead_47 hP hS
        · have h := jl_ift c_27 h
          refine lv_bipush (v := (-2)) hx hb dX5_ahead_30 (by decide) ?_
          exact kr _ _ _ _ _ _ (Option.some.inj h) dX5_ahead_32 hP hS
      · have h := jl_ift c_20 h
        refine lv_iconst (v := (-1)) hx hb dX5_ahead_23 (by decide) ?_
        exact kr _ _ _ _ _ _ (Option.some.inj h) dX5_ahead_24 hP hS
theorem jc_X5_ahead {a1 : Int32} {a2 : Int32} {z : Int32 × jl_Mem} (h : jf_X5_ahead a1 a2 M = some z) : Met l yX5_ahead wsX5_ahead ({ frames := 4, cells := 0, slots := 0, locals := 92 }) (va_Pc [.ref (B 0), .int a1, .int a2] (jy_U D cI cT B M)) (va_Qi (fun (q : Int32) (_ : Unit) => q = z.1) (fun _ t => va_P D vwCl (jy_w cI cT B z.2) t.heap) (jy_A B)) 0 0 (jy_A B) := by
  refine Met.ofW (cc := cX5_ahead) (maxL := 3) (ret := (some .int)) (by decide) rfl ?_
  intro p e s m args below meth c s1 BB hml hv
  obtain ⟨rfl, hK, hP, hB, hN⟩ := hv
  have hl := lv_entry ([.ref (B 0), .int a1, .int a2]) (n := 3) (Nat.le_of_ble_eq_true rfl)
  rw [lg_entry_eq]
  generalize (lg_sl ([.ref (B 0), .int a1, .int a2]) ++ List.replicate (3 - (lg_sl ([.ref (B 0), .int a1, .int a2])).length) Slot.unset).toArray = ls at hl ⊢
  exact jb_X5_ahead BB.exec BB.bytes hml (findClass_of_methodNamed BB.named) (atoms_spec (ws := wsX5_ahead) BB.pre) hK hB hN (Nat.le_refl _) (Nat.le_refl _) h (fun v M1 H locs pc ls e1 hd hP hS => W.iret BB.exec BB.bytes BB.returns (fun t ht hW => ⟨⟨_, (), rfl, by rw [← e1], by show va_P D vwCl (jy_w cI cT B z.2) t.heap; rw [ht, ← e1]; exact hP⟩, hS.F ht⟩) hS.2.2 hd BB.notSynchronized) hP va_S.rf hl
end
section
variable {p : Program} {l : Launch} {e : Env} {R : Room} {s : State} {m : MethodId} {args : Array Value} {below : List Frame} {meth : Method} {c : Code} {H : Heap} {locs : List Loc} {Q : State → Prop} {ls : Array Slot} {D : va_G} {cI cT : ClassId} {B : Nat → Nat} {M : jl_Mem} {H0 : Heap}
set_option maxHeartbeats 4000000 in
set_option maxRecDepth 100000 in
theorem jb_X5_found (hx : p.tables.exec = Jvm.exec) (hb : c.code = cX5_found) (hml : c.maxLocals = 4) (hown : s.vm.findClass RX5 = some m.cls) (hts : ∀ w ∈ wsX5_found, w.before args s = true) (hK : va_K D vwCl (jy_ty cI cT) s) (hB : jy_inj B) (hN : jy_N s) (hRf : 1 ≤ R.frames) (hRl : 22 ≤ R.locals) {a1 : Int32} {z : Int32 × jl_Mem} (h : jf_X5_found a1 M = some z)
    (kr : ∀ (v : Int32) (M1 : jl_Mem) (H1 : Heap) (locs1 : List Loc) (pc1 : Nat) (ls1 : Array Slot), (v, M1) = z → decode cX5_found pc1 = .ok (.ireturn, 1) → va_P D vwCl (jy_w cI cT B M1) H1 → va_S (jy_A B) H0 H1 locs1 → W p l e R s m args below meth c H1 locs1 0 0 Q (F0 m pc1 ls1 [.int v]))
    (hP : va_P D vwCl (jy_w cI cT B M) H) (hS : va_S (jy_A B) H0 H locs) (hl : lv_has ls 4 [(0, .ref (B 0)), (1, .int a1)]) : W p l e R s m args below meth c H locs 0 0 Q (F0 m 0 ls []) := by
  unfold jf_X5_found at h
  have hiX5 : ∀ w ∈ wsX50, w ∈ wsX5_found := by decide +kernel
  have hf73 := hts (.fieldLink RX5 73 "JudgesListsModel" "reads" "Z") (by decide +kernel)
  have hf114 := hts (.fieldLink RX5 114 "JudgesListsModel" "wants" "I") (by decide +kernel)
  have hf120 := hts (.fieldLink RX5 120 "JudgesListsModel" "done" "Z") (by decide +kernel)
  have hf63 := hts (.fieldLink RX5 63 "JudgesListsModel" "things" "I") (by decide +kernel)
  have hf47 := hts (.fieldLink RX5 47 "JudgesListsModel" "found" "[Z") (by decide +kernel)
  refine lv_aload_n hx hb dX5_found_0 rfl (lv_at hl 0 rfl) ?_
  refine jy_g_X5_reads hx hb hts hiX5 hown hK hP hf73 dX5_found_1 ?_
  refine lv_if_eq (tgt := 21) hx hb dX5_found_4 (by decide) (fun c_4 => ?_) (fun c_4 => ?_)
  · have h := jl_ift c_4 h
    refine lv_iconst (v := (-1)) hx hb dX5_found_21 (by decide) ?_
    exact kr _ _ _ _ _ _ (Option.some.inj h) dX5_found_22 hP hS
  · have h := jl_iff c_4 h
    refine lv_iload_n hx hb dX5_found_7 rfl (lv_at hl 1 rfl) ?_
    refine lv_iconst (v := 0) hx hb dX5_found_8 (by decide) ?_
    refine lv_aload_n hx hb dX5_found_9 rfl (lv_at hl 0 rfl) ?_
    refine jy_g_X5_wants hx hb hts hiX5 hown hK hP hf114 dX5_found_10 ?_
    refine lv_iconst (v := 1) hx hb dX5_found_13 (by decide) ?_
    refine lv_isub hx hb dX5_found_14 ?_
    obtain ⟨r_15, M_15, hc_15, h⟩ := jl_bnd_o h
    refine jy_callSi (As := [.int a1, .int 0, .int ((M 0 18) - (1 : Int32))]) (rest := []) ⟨hx, hb, hml, hown, hts⟩ (jc_X5_in hc_15) (va_cwS 3 hts gX5_found_X5_in rfl rfl rfl (by decide +kernel) ⟨Nat.le_trans (by decide) hRf, Nat.le_trans (by decide) hRl⟩) hK hB hN hP hS rfl dX5_found_15 rfl hl.1 (Nat.le_of_ble_eq_true rfl) ⟨Nat.zero_le _, Nat.zero_le _⟩ (fun H locs hP hS => ?_)
    refine lv_if_ne (tgt := 23) hx hb dX5_found_18 (by decide) (fun c_18 => ?_) (fun c_18 => ?_)
    · have h := jl_iff c_18 h
      refine lv_aload_n hx hb dX5_found_23 rfl (lv_at hl 0 rfl) ?_
      refine jy_g_X5_done hx hb hts hiX5 hown hK hP hf120 dX5_found_24 ?_
      refine lv_if_ne (tgt := 33) hx hb dX5_found_27 (by decide) (fun c_27 => ?_) (fun c_27 => ?_)
      · have h := jl_iff c_27 h
        refine lv_iconst (v := 0) hx hb dX5_found_33 (by decide) ?_
        refine lv_topi (fun x2_34 ex2_34 => ?_)
        have h := jl_lt_o h ex2_34
        refine lv_istore_n (lv' := [(2, .int x2_34), (0, .ref (B 0)), (1, .int a1)]) hx hb dX5_found_34 rfl hl (by decide) rfl (fun ls hl => ?_)
        refine lv_iconst (v := 0) hx hb dX5_found_35 (by decide) ?_
        refine lv_topi (fun x3_36 ex3_36 => ?_)
        have h := jl_lt_o h ex3_36
        refine lv_istore_n (lv' := [(3, .int x3_36), (2, .int x2_34), (0, .ref (B 0)), (1, .int a1)]) hx hb dX5_found_36 rfl hl (by decide) rfl (fun ls hl => ?_)
        have k37 : ∀ (n37 : Nat) (x2L37 : Int32) (x3L37 : Int32) (ML37 : jl_Mem), jl_wh (fun q => jf_X5_found_L37 a1 q.1 q.2.1 q.2.2) n37 (x2L37, x3L37, ML37) = some z → ∀ (H : Heap) (locs : List Loc) (ls : Array Slot), va_P D vwCl (jy_w cI cT B ML37) H → va_S (jy_A B) H0 H locs → lv_has ls 4 [(0, .ref (B 0)), (1, .int a1), (2, .int x2L37), (3, .int x3L37)] → W p l e R s m args below meth c H locs 0 0 Q (F0 m 37 ls []) := by
          intro n37
          induction n37 with
          | zero => exact fun _ _ _ h => (jl_wh_0 h).elim
          | succ n37 ih37 =>
            intro x2L37 x3L37 ML37 h H locs ls hP hS hl
            obtain ⟨o37, h, hz37⟩ := jl_wh_s h
            replace h : jf_X5_found_L37 a1 x2L37 x3L37 ML37 = some o37 := h
            unfold jf_X5_found_L37 at h
            refine lv_iload_n hx hb dX5_found_37 rfl (lv_at hl 3 rfl) ?_
            refine lv_aload_n hx hb dX5_found_38 rfl (lv_at hl 0 rfl) ?_
            refine jy_g_X5_things hx hb hts hiX5 hown hK hP hf63 dX5_found_39 ?_
            refine lv_icmp_ge (tgt := 73) hx hb dX5_found_42 (by decide) (fun c_42 => ?_) (fun c_42 => ?_)
            · have h := jl_ift c_42 h
              have h := jl_ex_o h hz37
              refine lv_iconst (v := (-1)) hx hb dX5_found_73 (by decide) ?_
              exact kr _ _ _ _ _ _ (Option.some.inj h) dX5_found_74 hP hS
            · have h := jl_iff c_42 h
              refine lv_aload_n hx hb dX5_found_45 rfl (lv_at hl 0 rfl) ?_
              refine jy_g_X5_found hx hb hts hiX5 hown hK hP hf47 dX5_found_46 ?_
              refine lv_iload_n hx hb dX5_found_49 rfl (lv_at hl 3 rfl) ?_
              obtain ⟨i_50, h⟩ := jl_chk_o h
              refine jy_baload hx hb hK hP rfl i_50 dX5_found_50 ?_
              refine lv_if_ne (tgt := 57) hx hb dX5_found_51 (by decide) (fun c_51 => ?_) (fun c_51 => ?_)
              · have h := jl_iff c_51 h
                refine lv_iload_n hx hb dX5_found_57 rfl (lv_at hl 2 rfl) ?_
                refine lv_iload_n hx hb dX5_found_58 rfl (lv_at hl 1 rfl) ?_
                refine lv_icmp_ne (tgt := 64) hx hb dX5_found_59 (by decide) (fun c_59 => ?_) (fun c_59 => ?_)
                · have h := jl_iff c_59 h
                  obtain ⟨x2_64, ex2_64⟩ : ∃ y : Int32, y = x2L37 + 1 := ⟨_, rfl⟩
                  have h := jl_lt_o h ex2_64
                  refine lv_iinc (v := x2_64) (lv' := [(2, .int x2_64), (0, .ref (B 0)), (1, .int a1), (3, .int x3L37)]) hx hb dX5_found_64 hl (k := 2) rfl (by rw [ex2_64]; rfl) (by decide) rfl (fun ls hl => ?_)
                  obtain ⟨x3_67, ex3_67⟩ : ∃ y : Int32, y = x3L37 + 1 := ⟨_, rfl⟩
                  have h := jl_lt_o h ex3_67
                  refine lv_iinc (v := x3_67) (lv' := [(3, .int x3_67), (2, .int x2_64), (0, .ref (B 0)), (1, .int a1)]) hx hb dX5_found_67 hl (k := 3) rfl (by rw [ex3_67]; rfl) (by decide) rfl (fun ls hl => ?_)
                  refine lv_goto (tgt := 37) hx hb dX5_found_70 (by decide) ?_
                  exact ih37 _ _ _ (jl_L (Option.some.inj h) hz37) _ _ _ hP hS (lv_sub hl [2, 3, 1, 0] rfl)
                · have h := jl_ift c_59 h
                  have h := jl_ex_o h hz37
                  refine lv_iload_n hx hb dX5_found_62 rfl (lv_at hl 3 rfl) ?_
                  exact kr _ _ _ _ _ _ (Option.some.inj h) dX5_found_63 hP hS
              · have h := jl_ift c_51 h
                refine lv_goto (tgt := 67) hx hb dX5_found_54 (by decide) ?_
                obtain ⟨x3_67, ex3_67⟩ : ∃ y : Int32, y = x3L37 + 1 := ⟨_, rfl⟩
                have h := jl_lt_o h ex3_67
                refine lv_iinc (v := x3_67) (lv' := [(3, .int x3_67), (0, .ref (B 0)), (1, .int a1), (2, .int x2L37)]) hx hb dX5_found_67 hl (k := 3) rfl (by rw [ex3_67]; rfl) (by decide) rfl (fun ls hl => ?_)
                refine lv_goto (tgt := 37) hx hb dX5_found_70 (by decide) ?_
                exact ih37 _ _ _ (jl_L (Option.some.inj h) hz37) _ _ _ hP hS (lv_sub hl [1, 2, 3, 0] rfl)
        exact k37 _ _ _ _ h _ _ _ hP hS (lv_sub hl [2, 3, 1, 0] rfl)
      · have h := jl_ift c_27 h
        refine lv_bipush (v := (-3)) hx hb dX5_found_30 (by decide) ?_
        exact kr _ _ _ _ _ _ (Option.some.inj h) dX5_found_32 hP hS
    · have h := jl_ift c_18 h
      refine lv_iconst (v := (-1)) hx hb dX5_found_21 (by decide) ?_
      exact kr _ _ _ _ _ _ (Option.some.inj h) dX5_found_22 hP hS
theorem jc_X5_found {a1 : Int32} {z : Int32 × jl_Mem} (h : jf_X5_found a1 M = some z) : Met l yX5_found wsX5_found ({ frames := 1, cells := 0, slots := 0, locals := 22 }) (va_Pc [.ref (B 0), .int a1] (jy_U D cI cT B M)) (va_Qi (fun (q : Int32) (_ : Unit) => q = z.1) (fun _ t => va_P D vwCl (jy_w cI cT B z.2) t.heap) (jy_A B)) 0 0 (jy_A B) := by
  refine Met.ofW (cc := cX5_found) (maxL := 4) (ret := (some .int)) (by decide) rfl ?_
  intro p e s m args below meth c s1 BB hml hv
  obtain ⟨rfl, hK, hP, hB, hN⟩ := hv
  have hl := lv_entry ([.ref (B 0), .int a1]) (n := 4) (Nat.le_of_ble_eq_true rfl)
  rw [lg_entry_eq]
  generalize (lg_sl ([.ref (B 0), .int a1]) ++ List.replicate (4 - (lg_sl ([.ref (B 0), .int a1])).length) Slot.unset).toArray = ls at hl ⊢
  exact jb_X5_found BB.exec BB.bytes hml (findClass_of_methodNamed BB.named) (atoms_spec (ws := wsX5_found) BB.pre) hK hB hN (Nat.le_refl _) (Nat.le_refl _) h (fun v M1 H locs pc ls e1 hd hP hS => W.iret BB.exec BB.bytes BB.returns (fun t ht hW => ⟨⟨_, (), rfl, by rw [← e1], by show va_P D vwCl (jy_w cI cT B z.2) t.heap; rw [ht, ← e1]; exact hP⟩, hS.F ht⟩) hS.2.2 hd BB.notSynchronized) hP va_S.rf hl
end
