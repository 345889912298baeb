section
variable {p : Program} {l : Launch} {e : Env} {R : Room} {s : State} {m : MethodId} {args : Array Value} {below : List Frame} {meth : Method} {c : Code} {H : Heap} {locs : List Loc} {Q : State → Prop} {ls : Array Slot} {D : va_G} {cI cT : ClassId} {B : Nat → Nat} {M : jl_Mem} {H0 : Heap}
set_option maxHeartbeats 4000000 in
set_option maxRecDepth 100000 in
theorem jb_X5_isSure (hx : p.tables.exec = Jvm.exec) (hb : c.code = cX5_isSure) (hml : c.maxLocals = 5) (hown : s.vm.findClass RX5 = some m.cls) (hts : ∀ w ∈ wsX5_isSure, w.before args s = true) (hK : va_K D vwCl (jy_ty cI cT) s) (hB : jy_inj B) (hN : jy_N s) (hRf : 3 ≤ R.frames) (hRl : 68 ≤ R.locals) {a1 : Int32} {z : Int32 × jl_Mem} (h : jf_X5_isSure a1 M = some z)
    (kr : ∀ (v : Int32) (M1 : jl_Mem) (H1 : Heap) (locs1 : List Loc) (pc1 : Nat) (ls1 : Array Slot), (v, M1) = z → jl_isB v = true → decode cX5_isSure pc1 = .ok (.ireturn, 1) → va_P D vwCl (jy_w cI cT B M1) H1 → va_S (jy_A B) H0 H1 locs1 → W p l e R s m args below meth c H1 locs1 0 0 Q (F0 m pc1 ls1 [.int v]))
    (hP : va_P D vwCl (jy_w cI cT B M) H) (hS : va_S (jy_A B) H0 H locs) (hl : lv_has ls 5 [(0, .ref (B 0)), (1, .int a1)]) : W p l e R s m args below meth c H locs 0 0 Q (F0 m 0 ls []) := by
  unfold jf_X5_isSure at h
  have hiX5 : ∀ w ∈ wsX50, w ∈ wsX5_isSure := by decide +kernel
  have hf63 := hts (.fieldLink RX5 63 "JudgesListsModel" "things" "I") (by decide +kernel)
  have hf38 := hts (.fieldLink RX5 38 "JudgesListsModel" "chosen" "[Z") (by decide +kernel)
  have hf41 := hts (.fieldLink RX5 41 "JudgesListsModel" "lows" "[I") (by decide +kernel)
  have hf44 := hts (.fieldLink RX5 44 "JudgesListsModel" "highs" "[I") (by decide +kernel)
  refine lv_iconst (v := 0) hx hb dX5_isSure_0 (by decide) ?_
  refine lv_topi (fun x2_1 ex2_1 => ?_)
  have h := jl_lt_o h ex2_1
  refine lv_istore_n (lv' := [(2, .int x2_1), (0, .ref (B 0)), (1, .int a1)]) hx hb dX5_isSure_1 rfl hl (by decide) rfl (fun ls hl => ?_)
  have k2 : ∀ (n2 : Nat) (x2L2 : Int32) (ML2 : jl_Mem), jl_wh (fun q => jf_X5_isSure_L2 a1 q.1 q.2) n2 (x2L2, ML2) = some z → ∀ (H : Heap) (locs : List Loc) (ls : Array Slot), va_P D vwCl (jy_w cI cT B ML2) H → va_S (jy_A B) H0 H locs → lv_has ls 5 [(0, .ref (B 0)), (1, .int a1), (2, .int x2L2)] → W p l e R s m args below meth c H locs 0 0 Q (F0 m 2 ls []) := by
    intro n2
    induction n2 with
    | zero => exact fun _ _ h => (jl_wh_0 h).elim
    | succ n2 ih2 =>
      intro x2L2 ML2 h H locs ls hP hS hl
      obtain ⟨o2, h, hz2⟩ := jl_wh_s h
      replace h : jf_X5_isSure_L2 a1 x2L2 ML2 = some o2 := h
      unfold jf_X5_isSure_L2 at h
      refine lv_iload_n hx hb dX5_isSure_2 rfl (lv_at hl 2 rfl) ?_
      refine lv_aload_n hx hb dX5_isSure_3 rfl (lv_at hl 0 rfl) ?_
      refine jy_g_X5_things hx hb hts hiX5 hown hK hP hf63 dX5_isSure_4 ?_
      refine lv_icmp_ge (tgt := 40) hx hb dX5_isSure_7 (by decide) (fun c_7 => ?_) (fun c_7 => ?_)
      · have h := jl_ift c_7 h
        have h := jl_ex_o h hz2
        refine lv_iconst (v := 0) hx hb dX5_isSure_40 (by decide) ?_
        refine lv_topi (fun x2_41 ex2_41 => ?_)
        have h := jl_lt_o h ex2_41
        refine lv_istore_n (lv' := [(2, .int x2_41), (0, .ref (B 0)), (1, .int a1)]) hx hb dX5_isSure_41 rfl hl (by decide) rfl (fun ls hl => ?_)
        have k42 : ∀ (n42 : Nat) (x2L42 : Int32) (ML42 : jl_Mem), jl_wh (fun q => jf_X5_isSure_L42 a1 q.1 q.2) n42 (x2L42, ML42) = some z → ∀ (H : Heap) (locs : List Loc) (ls : Array Slot), va_P D vwCl (jy_w cI cT B ML42) H → va_S (jy_A B) H0 H locs → lv_has ls 5 [(0, .ref (B 0)), (1, .int a1), (2, .int x2L42)] → W p l e R s m args below meth c H locs 0 0 Q (F0 m 42 ls []) := by
          intro n42
          induction n42 with
          | zero => exact fun _ _ h => (jl_wh_0 h).elim
          | succ n42 ih42 =>
            intro x2L42 ML42 h H locs ls hP hS hl
            obtain ⟨o42, h, hz42⟩ := jl_wh_s h
            replace h : jf_X5_isSure_L42 a1 x2L42 ML42 = some o42 := h
            unfold jf_X5_isSure_L42 at h
            refine lv_iload_n hx hb dX5_isSure_42 rfl (lv_at hl 2 rfl) ?_
            refine lv_aload_n hx hb dX5_isSure_43 rfl (lv_at hl 0 rfl) ?_
            refine jy_g_X5_things hx hb hts hiX5 hown hK hP hf63 dX5_isSure_44 ?_
            refine lv_icmp_ge (tgt := 138) hx hb dX5_isSure_47 (by decide) (fun c_47 => ?_) (fun c_47 => ?_)
            · have h := jl_ift c_47 h
              have h := jl_ex_o h hz42
              refine lv_iconst (v := 0) hx hb dX5_isSure_138 (by decide) ?_
              refine lv_topi (fun x2_139 ex2_139 => ?_)
              have h := jl_lt_o h ex2_139
              refine lv_istore_n (lv' := [(2, .int x2_139), (0, .ref (B 0)), (1, .int a1)]) hx hb dX5_isSure_139 rfl hl (by decide) rfl (fun ls hl => ?_)
              have k140 : ∀ (n140 : Nat) (x2L140 : Int32) (ML140 : jl_Mem), jl_wh (fun q => jf_X5_isSure_L140 q.1 q.2) n140 (x2L140, ML140) = some z → ∀ (H : Heap) (locs : List Loc) (ls : Array Slot), va_P D vwCl (jy_w cI cT B ML140) H → va_S (jy_A B) H0 H locs → lv_has ls 5 [(0, .ref (B 0)), (2, .int x2L140)] → W p l e R s m args below meth c H locs 0 0 Q (F0 m 140 ls []) := by
                intro n140
                induction n140 with
                | zero => exact fun _ _ h => (jl_wh_0 h).elim
                | succ n140 ih140 =>
                  intro x2L140 ML140 h H locs ls hP hS hl
                  obtain ⟨o140, h, hz140⟩ := jl_wh_s h
                  replace h : jf_X5_isSure_L140 x2L140 ML140 = some o140 := h
                  unfold jf_X5_isSure_L140 at h
                  refine lv_iload_n hx hb dX5_isSure_140 rfl (lv_at hl 1 rfl) ?_
                  refine lv_aload_n hx hb dX5_isSure_141 rfl (lv_at hl 0 rfl) ?_
                  refine jy_g_X5_things hx hb hts hiX5 hown hK hP hf63 dX5_isSure_142 ?_
                  refine lv_icmp_ge (tgt := 225) hx hb dX5_isSure_145 (by decide) (fun c_145 => ?_) (fun c_145 => ?_)
                  · have h := jl_ift c_145 h
                    have h := jl_ex_o h hz140
                    refine lv_iconst (v := 1) hx hb dX5_isSure_225 (by decide) ?_
                    exact kr _ _ _ _ _ _ (Option.some.inj h) (by decide) dX5_isSure_226 hP hS
                  · have h := jl_iff c_145 h
                    refine lv_iconst (v := 0) hx hb dX5_isSure_148 (by decide) ?_
                    refine lv_topi (fun x3_149 ex3_149 => ?_)
                    have h := jl_lt_o h ex3_149
                    refine lv_istore_n (lv' := [(3, .int x3_149), (0, .ref (B 0)), (2, .int x2L140)]) hx hb dX5_isSure_149 rfl hl (by decide) rfl (fun ls hl => ?_)
                    have k150 : ∀ (n150 : Nat) (x3L150 : Int32) (ML150 : jl_Mem), jl_wh (fun q => jf_X5_isSure_L150 x2L140 q.1 q.2) n150 (x3L150, ML150) = some o140 → ∀ (H : Heap) (locs : List Loc) (ls : Array Slot), va_P D vwCl (jy_w cI cT B ML150) H → va_S (jy_A B) H0 H locs → lv_has ls 5 [(0, .ref (B 0)), (2, .int x2L140), (3, .int x3L150)] → W p l e R s m args below meth c H locs 0 0 Q (F0 m 150 ls []) := by
                      intro n150
                      induction n150 with
                      | zero => exact fun _ _ h => (jl_wh_0 h).elim
                      | succ n150 ih150 =>
                        intro x3L150 ML150 h H locs ls hP hS hl
                        obtain ⟨o150, h, hz150⟩ := jl_wh_s h
                        replace h : jf_X5_isSure_L150 x2L140 x3L150 ML150 = some o150 := h
                        unfold jf_X5_isSure_L150 at h
                        refine lv_iload_n hx hb dX5_isSure_150 rfl (lv_at hl 2 rfl) ?_
                        refine lv_aload_n hx hb dX5_isSure_151 rfl (lv_at hl 0 rfl) ?_
                        refine jy_g_X5_things hx hb hts hiX5 hown hK hP hf63 dX5_isSure_152 ?_
                        refine lv_icmp_ge (tgt := 219) hx hb dX5_isSure_155 (by decide) (fun c_155 => ?_) (fun c_155 => ?_)
                        · have h := jl_ift c_155 h
                          have h := jl_ex_o h hz150
                          obtain ⟨x2_219, ex2_219⟩ : ∃ y : Int32, y = x2L140 + 1 := ⟨_, rfl⟩
                          have h := jl_lt_o h ex2_219
                          refine lv_iinc (v := x2_219) (lv' := [(2, .int x2_219), (0, .ref (B 0)), (3, .int x3L150)]) hx hb dX5_isSure_219 hl (k := 1) rfl (by rw [ex2_219]; rfl) (by decide) rfl (fun ls hl => ?_)
                          refine lv_goto (tgt := 140) hx hb dX5_isSure_222 (by decide) ?_
                          exact ih140 _ _ (jl_L (Option.some.inj h) hz140) _ _ _ hP hS (lv_sub hl [1, 0] rfl)
                        · have h := jl_iff c_155 h
                          refine lv_aload_n hx hb dX5_isSure_158 rfl (lv_at hl 0 rfl) ?_
                          refine jy_g_X5_chosen hx hb hts hiX5 hown hK hP hf38 dX5_isSure_159 ?_
                          refine lv_iload_n hx hb dX5_isSure_162 rfl (lv_at hl 1 rfl) ?_
                          obtain ⟨i_163, h⟩ := jl_chk_o h
                          refine jy_baload hx hb hK hP rfl i_163 dX5_isSure_163 ?_
                          refine lv_if_eq (tgt := 213) hx hb dX5_isSure_164 (by decide) (fun c_164 => ?_) (fun c_164 => ?_)
                          · have h := jl_ift c_164 h
                            obtain ⟨x3_213, ex3_213⟩ : ∃ y : Int32, y = x3L150 + 1 := ⟨_, rfl⟩
                            have h := jl_lt_o h ex3_213
                            refine lv_iinc (v := x3_213) (lv' := [(3, .int x3_213), (0, .ref (B 0)), (2, .int x2L140)]) hx hb dX5_isSure_213 hl (k := 2) rfl (by rw [ex3_213]; rfl) (by decide) rfl (fun ls hl => ?_)
                            refine lv_goto (tgt := 150) hx hb dX5_isSure_216 (by decide) ?_
                            exact ih150 _ _ (jl_L (Option.some.inj h) hz150) _ _ _ hP hS (lv_sub hl [1, 2, 0] rfl)
                          · have h := jl_iff c_164 h
                            refine lv_aload_n hx hb dX5_isSure_167 rfl (lv_at hl 0 rfl) ?_
                            refine jy_g_X5_chosen hx hb hts hiX5 hown hK hP hf38 dX5_isSure_168 ?_
                            refine lv_iload_n hx hb dX5_isSure_171 rfl (lv_at hl 2 rfl) ?_
                            obtain ⟨i_172, h⟩ := jl_chk_o h
                            refine jy_baload hx hb hK hP rfl i_172 dX5_isSure_172 ?_
                            refine lv_if_ne (tgt := 213) hx hb dX5_isSure_173 (by decide) (fun c_173 => ?_) (fun c_173 => ?_)
                            · have h := jl_iff c_173 h
                              obtain ⟨x3_213, ex3_213⟩ : ∃ y : Int32, y = x3L150 + 1 := ⟨_, rfl⟩
                              have h := jl_lt_o h ex3_213
                              refine lv_iinc (v := x3_213) (lv' := [(3, .int x3_213), (0, .ref (B 0)), (2, .int x2L140)]) hx hb dX5_isSure_213 hl (k := 2) rfl (by rw [ex3_213]; rfl) (by decide) rfl (fun ls hl => ?_)
                              refine lv_goto (tgt := 150) hx hb dX5_isSure_216 (by decide) ?_
                              exact ih150 _ _ (jl_L (Option.some.inj h) hz150) _ _ _ hP hS (lv_sub hl [1, 2, 0] rfl)
                            · have h := jl_ift c_173 h
                              refine lv_aload_n hx hb dX5_isSure_176 rfl (lv_at hl 0 rfl) ?_
                              refine jy_g_X5_lows hx hb hts hiX5 hown hK hP hf41 dX5_isSure_177 ?_
                              refine lv_iload_n hx hb dX5_isSure_180 rfl (lv_at hl 1 rfl) ?_
                              refine jy_iaload hx hb hK hP rfl i_163 dX5_isSure_181 ?_
                              refine lv_aload_n hx hb dX5_isSure_182 rfl (lv_at hl 0 rfl) ?_
                              refine jy_g_X5_highs hx hb hts hiX5 hown hK hP hf44 dX5_isSure_183 ?_
                              refine lv_iload_n hx hb dX5_isSure_186 rfl (lv_at hl 2 rfl) ?_
                              refine jy_iaload hx hb hK hP rfl i_172 dX5_isSure_187 ?_
                              refine lv_icmp_lt (tgt := 211) hx hb dX5_isSure_188 (by decide) (fun c_188 => ?_) (fun c_188 => ?_)
                              · have h := jl_ift c_188 h
                                have h := jl_ex_o h hz150
                                have h := jl_ex_o h hz140
                                refine lv_iconst (v := 0) hx hb dX5_isSure_211 (by decide) ?_
                                exact kr _ _ _ _ _ _ (Option.some.inj h) (by decide) dX5_isSure_212 hP hS
                              · have h := jl_iff c_188 h
                                refine lv_aload_n hx hb dX5_isSure_191 rfl (lv_at hl 0 rfl) ?_
                                refine jy_g_X5_lows hx hb hts hiX5 hown hK hP hf41 dX5_isSure_192 ?_
                                refine lv_iload_n hx hb dX5_isSure_195 rfl (lv_at hl 1 rfl) ?_
                                refine jy_iaload hx hb hK hP rfl i_163 dX5_isSure_196 ?_
                                refine lv_aload_n hx hb dX5_isSure_197 rfl (lv_at hl 0 rfl) ?_
                                refine jy_g_X5_highs hx hb hts hiX5 hown hK hP hf44 dX5_isSure_198 ?_
                                refine lv_iload_n hx hb dX5_isSure_201 rfl (lv_at hl 2 rfl) ?_
                                refine jy_iaload hx hb hK hP rfl i_172 dX5_isSure_202 ?_
                                refine lv_icmp_ne (tgt := 213) hx hb dX5_isSure_203 (by decide) (fun c_203 => ?_) (fun c_203 => ?_)
                                · have h := jl_iff c_203 h
                                  obtain ⟨x3_213, ex3_213⟩ : ∃ y : Int32, y = x3L150 + 1 := ⟨_, rfl⟩
                                  have h := jl_lt_o h ex3_213
                                  refine lv_iinc (v := x3_213) (lv' := [(3, .int x3_213), (0, .ref (B 0)), (2, .int x2L140)]) hx hb dX5_isSure_213 hl (k := 2) rfl (by rw [ex3_213]; rfl) (by decide) rfl (fun ls hl => ?_)
                                  refine lv_goto (tgt := 150) hx hb dX5_isSure_216 (by decide) ?_
                                  exact ih150 _ _ (jl_L (Option.some.inj h) hz150) _ _ _ hP hS (lv_sub hl [1, 2, 0] rfl)
                                · have h := jl_ift c_203 h
                                  refine lv_iload_n hx hb dX5_isSure_206 rfl (lv_at hl 1 rfl) ?_
                                  refine lv_iload_n hx hb dX5_isSure_207 rfl (lv_at hl 2 rfl) ?_
                                  refine lv_icmp_le (tgt := 213) hx hb dX5_isSure_208 (by decide) (fun c_208 => ?_) (fun c_208 => ?_)
                                  · have h := jl_ift c_208 h
                                    obtain ⟨x3_213, ex3_213⟩ : ∃ y : Int32, y = x3L150 + 1 := ⟨_, rfl⟩
                                    have h := jl_lt_o h ex3_213
                                    refine lv_iinc (v := x3_213) (lv' := [(3, .int x3_213), (0, .ref (B 0)), (2, .int x2L140)]) hx hb dX5_isSure_213 hl (k := 2) rfl (by rw [ex3_213]; rfl) (by decide) rfl (fun ls hl => ?_)
                                    refine lv_goto (tgt := 150) hx hb dX5_isSure_216 (by decide) ?_
                                    exact ih150 _ _ (jl_L (Option.some.inj h) hz150) _ _ _ hP hS (lv_sub hl [1, 2, 0] rfl)
                                  · have h := jl_iff c_208 h
                                    have h := jl_ex_o h hz150
                                    have h := jl_ex_o h hz140
                                    refine lv_iconst (v := 0) hx hb dX5_isSure_211 (by decide) ?_
                                    exact kr _ _ _ _ _ _ (Option.some.inj h) (by decide) dX5_isSure_212 hP hS
                    exact k150 _ _ _ h _ _ _ hP hS (lv_sub hl [1, 2, 0] rfl)
              exact k140 _ _ _ h _ _ _ hP hS (lv_sub hl [1, 0] rfl)
            · have h := jl_iff c_47 h
              refine lv_iconst (v := 0) hx hb dX5_isSure_50 (by decide) ?_
              refine lv_topi (fun x3_51 ex3_51 => ?_)
              have h := jl_lt_o h ex3_51
              refine lv_istore_n (lv' := [(3, .int x3_51), (0, .ref (B 0)), (1, .int a1), (2, .int x2L42)]) hx hb dX5_isSure_51 rfl hl (by decide) rfl (fun ls hl => ?_)
              refine lv_iconst (v := 0) hx hb dX5_isSure_52 (by decide) ?_
              refine lv_topi (fun x4_53 ex4_53 => ?_)
              have h := jl_lt_o h ex4_53
              refine lv_istore (lv' := [(4, .int x4_53), (3, .int x3_51), (0, .ref (B 0)), (1, .int a1), (2, .int x2L42)]) hx hb dX5_isSure_53 hl (by decide) rfl (fun ls hl => ?_)
              have k55 : ∀ (n55 : Nat) (x3L55 : Int32) (x4L55 : Int32) (ML55 : jl_Mem), jl_wh (fun q => jf_X5_isSure_L55 a1 x2L42 q.1 q.2.1 q.2.2) n55 (x3L55, x4L55, ML55) = some o42 → ∀ (H : Heap) (locs : List Loc) (ls : Array Slot), va_P D vwCl (jy_w cI cT B ML55) H → va_S (jy_A B) H0 H locs → lv_has ls 5 [(0, .ref (B 0)), (1, .int a1), (2, .int x2L42), (3, .int x3L55), (4, .int x4L55)] → W p l e R s m args below meth c H locs 0 0 Q (F0 m 55 ls []) := by
                intro n55
                induction n55 with
                | zero => exact fun _ _ _ h => (jl_wh_0 h).elim
                | succ n55 ih55 =>
                  intro x3L55 x4L55 ML55 h H locs ls hP hS hl
                  obtain ⟨o55, h, hz55⟩ := jl_wh_s h
                  replace h : jf_X5_isSure_L55 a1 x2L42 x3L55 x4L55 ML55 = some o55 := h
                  unfold jf_X5_isSure_L55 at h
                  refine lv_iload hx hb dX5_isSure_55 (lv_at hl 4 rfl) ?_
                  refine lv_aload_n hx hb dX5_isSure_57 rfl (lv_at hl 0 rfl) ?_
                  refine jy_g_X5_things hx hb hts hiX5 hown hK hP hf63 dX5_isSure_58 ?_
                  refine lv_icmp_ge (tgt := 116) hx hb dX5_isSure_61 (by decide) (fun c_61 => ?_) (fun c_61 => ?_)
                  · have h := jl_ift c_61 h
                    have h := jl_ex_o h hz55
                    refine lv_aload_n hx hb dX5_isSure_116 rfl (lv_at hl 0 rfl) ?_
                    refine jy_g_X5_chosen hx hb hts hiX5 hown hK hP hf38 dX5_isSure_117 ?_
                    refine lv_iload_n hx hb dX5_isSure_120 rfl (lv_at hl 2 rfl) ?_
                    refine lv_iload_n hx hb dX5_isSure_121 rfl (lv_at hl 3 rfl) ?_
                    refine lv_iload_n hx hb dX5_isSure_122 rfl (lv_at hl 1 rfl) ?_
                    refine lv_icmp_ge (tgt := 130) hx hb dX5_isSure_123 (by decide) (fun c_123 => ?_) (fun c_123 => ?_)
                    · have h := jl_ift c_123 h
                      refine lv_iconst (v := 0) hx hb dX5_isSure_130 (by decide) ?_
                      obtain ⟨i_131, h⟩ := jl_chk_o h
                      refine jy_bastore hx hb hK hB hP hS rfl i_131 (by decide) dX5_isSure_131 (fun M_131 H locs eM_131 hP hS => ?_)
                      have h := jl_lt_o h eM_131
                      obtain ⟨x2_132, ex2_132⟩ : ∃ y : Int32, y = x2L42 + 1 := ⟨_, rfl⟩
                      have h := jl_lt_o h ex2_132
                      refine lv_iinc (v := x2_132) (lv' := [(2, .int x2_132), (0, .ref (B 0)), (1, .int a1), (3, .int x3L55), (4, .int x4L55)]) hx hb dX5_isSure_132 hl (k := 2) rfl (by rw [ex2_132]; rfl) (by decide) rfl (fun ls hl => ?_)
                      refine lv_goto (tgt := 42) hx hb dX5_isSure_135 (by decide) ?_
                      exact ih42 _ _ (jl_L (Option.some.inj h) hz42) _ _ _ hP hS (lv_sub hl [1, 2, 0] rfl)
                    · have h := jl_iff c_123 h
                      refine lv_iconst (v := 1) hx hb dX5_isSure_126 (by decide) ?_
                      refine lv_goto (tgt := 131) hx hb dX5_isSure_127 (by decide) ?_
                      obtain ⟨i_131, h⟩ := jl_chk_o h
                      refine jy_bastore hx hb hK hB hP hS rfl i_131 (by decide) dX5_isSure_131 (fun M_131 H locs eM_131 hP hS => ?_)
                      have h := jl_lt_o h eM_131
                      obtain ⟨x2_132, ex2_132⟩ : ∃ y : Int32, y = x2L42 + 1 := ⟨_, rfl⟩
                      have h := jl_lt_o h ex2_132
                      refine lv_iinc (v := x2_132) (lv' := [(2, .int x2_132), (0, .ref (B 0)), (1, .int a1), (3, .int x3L55), (4, .int x4L55)]) hx hb dX5_isSure_132 hl (k := 2) rfl (by rw [ex2_132]; rfl) (by decide) rfl (fun ls hl => ?_)
                      refine lv_goto (tgt := 42) hx hb dX5_isSure_135 (by decide) ?_
                      exact ih42 _ _ (jl_L (Option.some.inj h) hz42) _ _ _ hP hS (lv_sub hl [1, 2, 0] rfl)
                  · have h := jl_iff c_61 h
                    refine lv_iload_n hx hb dX5_isSure_64 rfl (lv_at hl 3 rfl) ?_
                    refine lv_aload_n hx hb dX5_isSure_65 rfl (lv_at hl 0 rfl) ?_
                    refine jy_g_X5_lows hx hb hts hiX5 hown hK hP hf41 dX5_isSure_66 ?_
                    refine lv_iload hx hb dX5_isSure_69 (lv_at hl 4 rfl) ?_
                    obtain ⟨i_71, h⟩ := jl_chk_o h
                    refine jy_iaload hx hb hK hP rfl i_71 dX5_isSure_71 ?_
                    refine lv_aload_n hx hb dX5_isSure_72 rfl (lv_at hl 0 rfl) ?_
                    refine jy_g_X5_lows hx hb hts hiX5 hown hK hP hf41 dX5_isSure_73 ?_
                    refine lv_iload_n hx hb dX5_isSure_76 rfl (lv_at hl 2 rfl) ?_
                    obtain ⟨i_77, h⟩ := jl_chk_o h
                    refine jy_iaload hx hb hK hP rfl i_77 dX5_isSure_77 ?_
                    refine lv_icmp_gt (tgt := 103) hx hb dX5_isSure_78 (by decide) (fun c_78 => ?_) (fun c_78 => ?_)
                    · have h := jl_ift c_78 h
                      refine lv_iconst (v := 1) hx hb dX5_isSure_103 (by decide) ?_
                      refine lv_goto (tgt := 108) hx hb dX5_isSure_104 (by decide) ?_
                      refine lv_iadd hx hb dX5_isSure_108 ?_
                      refine lv_topi (fun x3_109 ex3_109 => ?_)
                      have h := jl_lt_o h ex3_109
                      refine lv_istore_n (lv' := [(3, .int x3_109), (0, .ref (B 0)), (1, .int a1), (2, .int x2L42), (4, .int x4L55)]) hx hb dX5_isSure_109 rfl hl (by decide) rfl (fun ls hl => ?_)
                      obtain ⟨x4_110, ex4_110⟩ : ∃ y : Int32, y = x4L55 + 1 := ⟨_, rfl⟩
                      have h := jl_lt_o h ex4_110
                      refine lv_iinc (v := x4_110) (lv' := [(4, .int x4_110), (3, .int x3_109), (0, .ref (B 0)), (1, .int a1), (2, .int x2L42)]) hx hb dX5_isSure_110 hl (k := 4) rfl (by rw [ex4_110]; rfl) (by decide) rfl (fun ls hl => ?_)
                      refine lv_goto (tgt := 55) hx hb dX5_isSure_113 (by decide) ?_
                      exact ih55 _ _ _ (jl_L (Option.some.inj h) hz55) _ _ _ hP hS (lv_sub hl [2, 3, 4, 1, 0] rfl)
                    · have h := jl_iff c_78 h
                      refine lv_aload_n hx hb dX5_isSure_81 rfl (lv_at hl 0 rfl) ?_
                      refine jy_g_X5_lows hx hb hts hiX5 hown hK hP hf41 dX5_isSure_82 ?_
                      refine lv_iload hx hb dX5_isSure_85 (lv_at hl 4 rfl) ?_
                      refine jy_iaload hx hb hK hP rfl i_71 dX5_isSure_87 ?_
                      refine lv_aload_n hx hb dX5_isSure_88 rfl (lv_at hl 0 rfl) ?_
                      refine jy_g_X5_lows hx hb hts hiX5 hown hK hP hf41 dX5_isSure_89 ?_
                      refine lv_iload_n hx hb dX5_isSure_92 rfl (lv_at hl 2 rfl) ?_
                      refine jy_iaload hx hb hK hP rfl i_77 dX5_isSure_93 ?_
                      refine lv_icmp_ne (tgt := 107) hx hb dX5_isSure_94 (by decide) (fun c_94 => ?_) (fun c_94 => ?_)
                      · have h := jl_iff c_94 h
                        refine lv_iconst (v := 0) hx hb dX5_isSure_107 (by decide) ?_
                        refine lv_iadd hx hb dX5_isSure_108 ?_
                        refine lv_topi (fun x3_109 ex3_109 => ?_)
                        have h := jl_lt_o h ex3_109
                        refine lv_istore_n (lv' := [(3, .int x3_109), (0, .ref (B 0)), (1, .int a1), (2, .int x2L42), (4, .int x4L55)]) hx hb dX5_isSure_109 rfl hl (by decide) rfl (fun ls hl => ?_)
                        obtain ⟨x4_110, ex4_110⟩ : ∃ y : Int32, y = x4L55 + 1 := ⟨_, rfl⟩
                        have h := jl_lt_o h ex4_110
                        refine lv_iinc (v := x4_110) (lv' := [(4, .int x4_110), (3, .int x3_109), (0, .ref (B 0)), (1, .int a1), (2, .int x2L42)]) hx hb dX5_isSure_110 hl (k := 4) rfl (by rw [ex4_110]; rfl) (by decide) rfl (fun ls hl => ?_)
                        refine lv_goto (tgt := 55) hx hb dX5_isSure_113 (by decide) ?_
                        exact ih55 _ _ _ (jl_L (Option.some.inj h) hz55) _ _ _ hP hS (lv_sub hl [2, 3, 4, 1, 0] rfl)
                      · have h := jl_ift c_94 h
                        refine lv_iload hx hb dX5_isSure_97 (lv_at hl 4 rfl) ?_
                        refine lv_iload_n hx hb dX5_isSure_99 rfl (lv_at hl 2 rfl) ?_
                        refine lv_icmp_ge (tgt := 107) hx hb dX5_isSure_100 (by decide) (fun c_100 => ?_) (fun c_100 => ?_)
                        · have h := jl_ift c_100 h
                          refine lv_iconst (v := 0) hx hb dX5_isSure_107 (by decide) ?_
                          refine lv_iadd hx hb dX5_isSure_108 ?_
                          refine lv_topi (fun x3_109 ex3_109 => ?_)
                          have h := jl_lt_o h ex3_109
                          refine lv_istore_n (lv' := [(3, .int x3_109), (0, .ref (B 0)), (1, .int a1), (2, .int x2L42), (4, .int x4L55)]) hx hb dX5_isSure_109 rfl hl (by decide) rfl (fun ls hl => ?_)
                          obtain ⟨x4_110, ex4_110⟩ : ∃ y : Int32, y = x4L55 + 1 := ⟨_, rfl⟩
                          have h := jl_lt_o h ex4_110
                          refine lv_iinc (v := x4_110) (lv' := [(4, .int x4_110), (3, .int x3_109), (0, .ref (B 0)), (1, .int a1), (2, .int x2L42)]) hx hb dX5_isSure_110 hl (k := 4) rfl (by rw [ex4_110]; rfl) (by decide) rfl (fun ls hl => ?_)
                          refine lv_goto (tgt := 55) hx hb dX5_isSure_113 (by decide) ?_
                          exact ih55 _ _ _ (jl_L (Option.some.inj h) hz55) _ _ _ hP hS (lv_sub hl [2, 3, 4, 1, 0] rfl)
                        · have h := jl_iff c_100 h
                          refine lv_iconst (v := 1) hx hb dX5_isSure_103 (by decide) ?_
                          refine lv_goto (tgt := 108) hx hb dX5_isSure_104 (by decide) ?_
                          refine lv_iadd hx hb dX5_isSure_108 ?_
                          refine lv_topi (fun x3_109 ex3_109 => ?_)
                          have h := jl_lt_o h ex3_109
                          refine lv_istore_n (lv' := [(3, .int x3_109), (0, .ref (B 0)), (1, .int a1), (2, .int x2L42), (4, .int x4L55)]) hx hb dX5_isSure_109 rfl hl (by decide) rfl (fun ls hl => ?_)
                          obtain ⟨x4_110, ex4_110⟩ : ∃ y : Int32, y = x4L55 + 1 := ⟨_, rfl⟩
                          have h := jl_lt_o h ex4_110
                          refine lv_iinc (v := x4_110) (lv' := [(4, .int x4_110), (3, .int x3_109), (0, .ref (B 0)), (1, .int a1), (2, .int x2L42)]) hx hb dX5_isSure_110 hl (k := 4) rfl (by rw [ex4_110]; rfl) (by decide) rfl (fun ls hl => ?_)
                          refine lv_goto (tgt := 55) hx hb dX5_isSure_113 (by decide) ?_
                          exact ih55 _ _ _ (jl_L (Option.some.inj h) hz55) _ _ _ hP hS (lv_sub hl [2, 3, 4, 1, 0] rfl)
              exact k55 _ _ _ _ h _ _ _ hP hS (lv_sub hl [2, 3, 4, 1, 0] rfl)
        exact k42 _ _ _ h _ _ _ hP hS (lv_sub hl [1, 2, 0] rfl)
      · have h := jl_iff c_7 h
        refine lv_aload_n hx hb dX5_isSure_10 rfl (lv_at hl 0 rfl) ?_
        refine jy_g_X5_lows hx hb hts hiX5 hown hK hP hf41 dX5_isSure_11 ?_
        refine lv_iload_n hx hb dX5_isSure_14 rfl (lv_at hl 2 rfl) ?_
        refine lv_aload_n hx hb dX5_isSure_15 rfl (lv_at hl 0 rfl) ?_
        refine lv_iload_n hx hb dX5_isSure_16 rfl (lv_at hl 2 rfl) ?_
        refine lv_iconst (v := 0) hx hb dX5_isSure_17 (by decide) ?_
        obtain ⟨r_18, M_18, hc_18, h⟩ := jl_bnd_o h
        refine jy_callVi (As := [.int x2L2, .int 0]) (rest := [.int x2L2, .ref (B 11)]) ⟨hx, hb, hml, hown, hts⟩ (jc_X5_boundOf hc_18) (cwV 2 hts gX5_isSure_X5_boundOf rfl rfl rfl (by decide +kernel) ⟨Nat.le_trans (by decide) hRf, Nat.le_trans (by decide) hRl⟩) (jy_rv_X5 hK hP) hK hB hN hP hS rfl dX5_isSure_18 rfl hl.1 (Nat.le_of_ble_eq_true rfl) ⟨Nat.zero_le _, Nat.zero_le _⟩ (fun H locs hP hS => ?_)
        obtain ⟨i_21, h⟩ := jl_chk_o h
        refine jy_iastore hx hb hK hB hP hS rfl i_21 dX5_isSure_21 (fun M_21 H locs eM_21 hP hS => ?_)
        have h := jl_lt_o h eM_21
        refine lv_aload_n hx hb dX5_isSure_22 rfl (lv_at hl 0 rfl) ?_
        refine jy_g_X5_highs hx hb hts hiX5 hown hK hP hf44 dX5_isSure_23 ?_
        refine lv_iload_n hx hb dX5_isSure_26 rfl (lv_at hl 2 rfl) ?_
        refine lv_aload_n hx hb dX5_isSure_27 rfl (lv_at hl 0 rfl) ?_
        refine lv_iload_n hx hb dX5_isSure_28 rfl (lv_at hl 2 rfl) ?_
        refine lv_iconst (v := 1) hx hb dX5_isSure_29 (by decide) ?_
        obtain ⟨r_30, M_30, hc_30, h⟩ := jl_bnd_o h
        refine jy_callVi (As := [.int x2L2, .int 1]) (rest := [.int x2L2, .ref (B 12)]) ⟨hx, hb, hml, hown, hts⟩ (jc_X5_boundOf hc_30) (cwV 2 hts gX5_isSure_X5_boundOf rfl rfl rfl (by decide +kernel) ⟨Nat.le_trans (by decide) hRf, Nat.le_trans (by decide) hRl⟩) (jy_rv_X5 hK hP) hK hB hN hP hS rfl dX5_isSure_30 rfl hl.1 (Nat.le_of_ble_eq_true rfl) ⟨Nat.zero_le _, Nat.zero_le _⟩ (fun H locs hP hS => ?_)
        refine jy_iastore hx hb hK hB hP hS rfl i_21 dX5_isSure_33 (fun M_33 H locs eM_33 hP hS => ?_)
        have h := jl_lt_o h eM_33
        obtain ⟨x2_34, ex2_34⟩ : ∃ y : Int32, y = x2L2 + 1 := ⟨_, rfl⟩
        have h := jl_lt_o h ex2_34
        refine lv_iinc (v := x2_34) (lv' := [(2, .int x2_34), (0, .ref (B 0)), (1, .int a1)]) hx hb dX5_isSure_34 hl (k := 2) rfl (by rw [ex2_34]; rfl) (by decide) rfl (fun ls hl => ?_)
        refine lv_goto (tgt := 2) hx hb dX5_isSure_37 (by decide) ?_
        exact ih2 _ _ (jl_L (Option.some.inj h) hz2) _ _ _ hP hS (lv_sub hl [1, 2, 0] rfl)
  exact k2 _ _ _ h _ _ _ hP hS (lv_sub hl [1, 2, 0] rfl)
theorem jc_X5_isSure {a1 : Int32} {z : Int32 × jl_Mem} (h : jf_X5_isSure a1 M = some z) : Met l yX5_isSure wsX5_isSure ({ frames := 3, cells := 0, slots := 0, locals := 68 }) (va_Pc [.ref (B 0), .int a1] (jy_U D cI cT B M)) (va_Qi (fun (q : Int32) (_ : Unit) => q = z.1) (fun _ t => va_P D vwCl (jy_w cI cT B z.2) t.heap) (jy_A B)) 0 0 (jy_A B) := by
  refine Met.ofW (cc := cX5_isSure) (maxL := 5) (ret := (some .boolean)) (by decide) rfl ?_
  intro p e s m args below meth c s1 BB hml hv
  obtain ⟨rfl, hK, hP, hB, hN⟩ := hv
  have hl := lv_entry ([.ref (B 0), .int a1]) (n := 5) (Nat.le_of_ble_eq_true rfl)
  rw [lg_entry_eq]
  generalize (lg_sl ([.ref (B 0), .int a1]) ++ List.replicate (5 - (lg_sl ([.ref (B 0), .int a1])).length) Slot.unset).toArray = ls at hl ⊢
  exact jb_X5_isSure BB.exec BB.bytes hml (findClass_of_methodNamed BB.named) (atoms_spec (ws := wsX5_isSure) BB.pre) hK hB hN (Nat.le_refl _) (Nat.le_refl _) h (fun v M1 H locs pc ls e1 hz hd hP hS => W.zret BB.exec BB.bytes BB.returns (jl_nar hz) (fun t ht hW => ⟨⟨_, (), rfl, by rw [← e1], by show va_P D vwCl (jy_w cI cT B z.2) t.heap; rw [ht, ← e1]; exact hP⟩, hS.F ht⟩) hS.2.2 hd BB.notSynchronized) hP va_S.rf hl
end
section
variable {p : Program} {l : Launch} {e : Env} {R : Room} {s : State} {m : MethodId} {args : Array Value} {below : List Frame} {meth : Method} {c : Code} {H : Heap} {locs : List Loc} {Q : State → Prop} {ls : Array Slot} {D : va_G} {cI cT : ClassId} {B : Nat → Nat} {M : jl_Mem} {H0 : Heap}
set_option maxHeartbeats 4000000 in
set_option maxRecDepth 100000 in
theorem jb_X5_looks (hx : p.tables.exec = Jvm.exec) (hb : c.code = cX5_looks) (hml : c.maxLocals = 2) (hown : s.vm.findClass RX5 = some m.cls) (hts : ∀ w ∈ wsX5_looks, w.before args s = true) (hK : va_K D vwCl (jy_ty cI cT) s) (hB : jy_inj B) (hN : jy_N s) (hRf : 4 ≤ R.frames) (hRl : 92 ≤ R.locals) {z : Int32 × jl_Mem} (h : jf_X5_looks M = some z)
    (kr : ∀ (v : Int32) (M1 : jl_Mem) (H1 : Heap) (locs1 : List Loc) (pc1 : Nat) (ls1 : Array Slot), (v, M1) = z → jl_isB v = true → decode cX5_looks pc1 = .ok (.ireturn, 1) → va_P D vwCl (jy_w cI cT B M1) H1 → va_S (jy_A B) H0 H1 locs1 → W p l e R s m args below meth c H1 locs1 0 0 Q (F0 m pc1 ls1 [.int v]))
    (hP : va_P D vwCl (jy_w cI cT B M) H) (hS : va_S (jy_A B) H0 H locs) (hl : lv_has ls 2 [(0, .ref (B 0))]) : W p l e R s m args below meth c H locs 0 0 Q (F0 m 0 ls []) := by
  unfold jf_X5_looks at h
  have hiX5 : ∀ w ∈ wsX50, w ∈ wsX5_looks := by decide +kernel
  have hf114 := hts (.fieldLink RX5 114 "JudgesListsModel" "wants" "I") (by decide +kernel)
  have hf120 := hts (.fieldLink RX5 120 "JudgesListsModel" "done" "Z") (by decide +kernel)
  have hf47 := hts (.fieldLink RX5 47 "JudgesListsModel" "found" "[Z") (by decide +kernel)
  have hf38 := hts (.fieldLink RX5 38 "JudgesListsModel" "chosen" "[Z") (by decide +kernel)
  refine lv_aload_n hx hb dX5_looks_0 rfl (lv_at hl 0 rfl) ?_
  refine lv_aload_n hx hb dX5_looks_1 rfl (lv_at hl 0 rfl) ?_
  refine lv_aload_n hx hb dX5_looks_2 rfl (lv_at hl 0 rfl) ?_
  refine jy_g_X5_wants hx hb hts hiX5 hown hK hP hf114 dX5_looks_3 ?_
  obtain ⟨r_6, M_6, hc_6, h⟩ := jl_bnd_o h
  refine jy_callVi (As := [.int (M 0 18)]) (rest := [.ref (B 0)]) ⟨hx, hb, hml, hown, hts⟩ (jc_X5_isSure hc_6) (cwV 1 hts gX5_looks_X5_isSure rfl rfl rfl (by decide +kernel) ⟨Nat.le_trans (by decide) hRf, Nat.le_trans (by decide) hRl⟩) (jy_rv_X5 hK hP) hK hB hN hP hS rfl dX5_looks_6 rfl hl.1 (Nat.le_of_ble_eq_true rfl) ⟨Nat.zero_le _, Nat.zero_le _⟩ (fun H locs hP hS => ?_)
  obtain ⟨i_9, h⟩ := jl_chk_o h
  refine jy_p_X5_done hx hb hts hiX5 hown hK hB hP hS hf120 i_9 dX5_looks_9 (fun M_9 H locs eM_9 hP hS => ?_)
  have h := jl_lt_o h eM_9
  refine lv_iconst (v := 0) hx hb dX5_looks_12 (by decide) ?_
  refine lv_topi (fun x1_13 ex1_13 => ?_)
  have h := jl_lt_o h ex1_13
  refine lv_istore_n (lv' := [(1, .int x1_13), (0, .ref (B 0))]) hx hb dX5_looks_13 rfl hl (by decide) rfl (fun ls hl => ?_)
  have k14 : ∀ (n14 : Nat) (x1L14 : Int32) (ML14 : jl_Mem), jl_wh (fun q => jf_X5_looks_L14 q.1 q.2) n14 (x1L14, ML14) = some z → ∀ (H : Heap) (locs : List Loc) (ls : Array Slot), va_P D vwCl (jy_w cI cT B ML14) H → va_S (jy_A B) H0 H locs → lv_has ls 2 [(0, .ref (B 0)), (1, .int x1L14)] → W p l e R s m args below meth c H locs 0 0 Q (F0 m 14 ls []) := by
    intro n14
    induction n14 with
    | zero => exact fun _ _ h => (jl_wh_0 h).elim
    | succ n14 ih14 =>
      intro x1L14 ML14 h H locs ls hP hS hl
      obtain ⟨o14, h, hz14⟩ := jl_wh_s h
      replace h : jf_X5_looks_L14 x1L14 ML14 = some o14 := h
      unfold jf_X5_looks_L14 at h
      refine lv_iload_n hx hb dX5_looks_14 rfl (lv_at hl 1 rfl) ?_
      refine lv_bipush (v := 20) hx hb dX5_looks_15 (by decide) ?_
      refine lv_icmp_ge (tgt := 38) hx hb dX5_looks_17 (by decide) (fun c_17 => ?_) (fun c_17 => ?_)
      · have h := jl_ift c_17 h
        have h := jl_ex_o h hz14
        refine lv_aload_n hx hb dX5_looks_38 rfl (lv_at hl 0 rfl) ?_
        refine jy_g_X5_done hx hb hts hiX5 hown hK hP hf120 dX5_looks_39 ?_
        obtain ⟨i_42, h⟩ := jl_chk_o h
        exact kr _ _ _ _ _ _ (Option.some.inj h) i_42 dX5_looks_42 hP hS
      · have h := jl_iff c_17 h
        refine lv_aload_n hx hb dX5_looks_20 rfl (lv_at hl 0 rfl) ?_
        refine jy_g_X5_found hx hb hts hiX5 hown hK hP hf47 dX5_looks_21 ?_
        refine lv_iload_n hx hb dX5_looks_24 rfl (lv_at hl 1 rfl) ?_
        refine lv_aload_n hx hb dX5_looks_25 rfl (lv_at hl 0 rfl) ?_
        refine jy_g_X5_chosen hx hb hts hiX5 hown hK hP hf38 dX5_looks_26 ?_
        refine lv_iload_n hx hb dX5_looks_29 rfl (lv_at hl 1 rfl) ?_
        obtain ⟨i_30, h⟩ := jl_chk_o h
        refine jy_baload hx hb hK hP rfl i_30 dX5_looks_30 ?_
        obtain ⟨ib_31, h⟩ := jl_chk_o h
        refine jy_bastore hx hb hK hB hP hS rfl i_30 ib_31 dX5_looks_31 (fun M_31 H locs eM_31 hP hS => ?_)
        have h := jl_lt_o h eM_31
        obtain ⟨x1_32, ex1_32⟩ : ∃ y : Int32, y = x1L14 + 1 := ⟨_, rfl⟩
        have h := jl_lt_o h ex1_32
        refine lv_iinc (v := x1_32) (lv' := [(1, .int x1_32), (0, .ref (B 0))]) hx hb dX5_looks_32 hl (k := 1) rfl (by rw [ex1_32]; rfl) (by decide) rfl (fun ls hl => ?_)
        refine lv_goto (tgt := 14) hx hb dX5_looks_35 (by decide) ?_
        exact ih14 _ _ (jl_L (Option.some.inj h) hz14) _ _ _ hP hS (lv_sub hl [1, 0] rfl)
  exact k14 _ _ _ h _ _ _ hP hS (lv_sub hl [1, 0] rfl)
theorem jc_X5_looks {z : Int32 × jl_Mem} (h : jf_X5_looks M = some z) : Met l yX5_looks wsX5_looks ({ frames := 4, cells := 0, slots := 0, locals := 92 }) (va_Pc [.ref (B 0)] (jy_U D cI cT B M)) (va_Qi (fun (q : Int32) (_ : Unit) => q = z.1) (fun _ t => va_P D vwCl (jy_w cI cT B z.2) t.heap) (jy_A B)) 0 0 (jy_A B) := by
  refine Met.ofW (cc := cX5_looks) (maxL := 2) (ret := (some .boolean)) (by decide) rfl ?_
  intro p e s m args below meth c s1 BB hml hv
  obtain ⟨rfl, hK, hP, hB, hN⟩ := hv
  have hl := lv_entry ([.ref (B 0)]) (n := 2) (Nat.le_of_ble_eq_true rfl)
  rw [lg_entry_eq]
  generalize (lg_sl ([.ref (B 0)]) ++ List.replicate (2 - (lg_sl ([.ref (B 0)])).length) Slot.unset).toArray = ls at hl ⊢
  exact jb_X5_looks BB.exec BB.bytes hml (findClass_of_methodNamed BB.named) (atoms_spec (ws := wsX5_looks) BB.pre) hK hB hN (Nat.le_refl _) (Nat.le_refl _) h (fun v M1 H locs pc ls e1 hz hd hP hS => W.zret BB.exec BB.bytes BB.returns (jl_nar hz) (fun t ht hW => ⟨⟨_, (), rfl, by rw [← e1], by show va_P D vwCl (jy_w cI cT B z.2) t.heap; rw [ht, ← e1]; exact hP⟩, hS.F ht⟩) hS.2.2 hd BB.notSynchronized) hP va_S.rf hl
end
section
variable {p : Program} {l : Launch} {e : Env} {R : Room} {s : State} {m : MethodId} {args : Array Value} {below : List Frame} {meth : Method} {c : Code} {H : Heap} {locs : List Loc} {Q : State → Prop} {ls : Array Slot} {D : va_G} {cI cT : ClassId} {B : Nat → Nat} {M : jl_Mem} {H0 : Heap}
set_option maxHeartbeats 4000000 in
set_option maxRecDepth 100000 in
theorem jb_X5_clear (hx : p.tables.exec = Jvm.exec) (hb : c.code = cX5_clear) (hml : c.maxLocals = 2) (hown : s.vm.findClass RX5 = some m.cls) (hts : ∀ w ∈ wsX5_clear, w.before args s = true) (hK : va_K D vwCl (jy_ty cI cT) s) (hB : jy_inj B) (hN : jy_N s) (hRf : 0 ≤ R.frames) (hRl : 0 ≤ R.locals) {z : Int32 × jl_Mem} (h : jf_X5_clear M = some z)
    (kr : ∀ (M1 : jl_Mem) (H1 : Heap) (locs1 : List Loc) (pc1 : Nat) (ls1 : Array Slot), (0, M1) = z → decode cX5_clear pc1 = .ok (.return_, 1) → va_P D vwCl (jy_w cI cT B M1) H1 → va_S (jy_A B) H0 H1 locs1 → W p l e R s m args below meth c H1 locs1 0 0 Q (F0 m pc1 ls1 []))
    (hP : va_P D vwCl (jy_w cI cT B M) H) (hS : va_S (jy_A B) H0 H locs) (hl : lv_has ls 2 [(0, .ref (B 0))]) : W p l e R s m args below meth c H locs 0 0 Q (F0 m 0 ls []) := by
  unfold jf_X5_clear at h
  have hiX5 : ∀ w ∈ wsX50, w ∈ wsX5_clear := by decide +kernel
  have hf34 := hts (.fieldLink RX5 34 "JudgesListsModel" "looked" "[Z") (by decide +kernel)
  have hf31 := hts (.fieldLink RX5 31 "JudgesListsModel" "depth" "[I") (by decide +kernel)
  refine lv_iconst (v := 0) hx hb dX5_clear_0 (by decide) ?_
  refine lv_topi (fun x1_1 ex1_1 => ?_)
  have h := jl_lt_o h ex1_1
  refine lv_istore_n (lv' := [(1, .int x1_1), (0, .ref (B 0))]) hx hb dX5_clear_1 rfl hl (by decide) rfl (fun ls hl => ?_)
  have k2 : ∀ (n2 : Nat) (x1L2 : Int32) (ML2 : jl_Mem), jl_wh (fun q => jf_X5_clear_L2 q.1 q.2) n2 (x1L2, ML2) = some z → ∀ (H : Heap) (locs : List Loc) (ls : Array Slot), va_P D vwCl (jy_w cI cT B ML2) H → va_S (jy_A B) H0 H locs → lv_has ls 2 [(0, .ref (B 0)), (1, .int x1L2)] → W p l e R s m args below meth c H locs 0 0 Q (F0 m 2 ls []) := by
    intro n2
    induction n2 with
    | zero => exact fun _ _ h => (jl_wh_0 h).elim
    | succ n2 ih2 =>
      intro x1L2 ML2 h H locs ls hP hS hl
      obtain ⟨o2, h, hz2⟩ := jl_wh_s h
      replace h : jf_X5_clear_L2 x1L2 ML2 = some o2 := h
      unfold jf_X5_clear_L2 at h
      refine lv_iload_n hx hb dX5_clear_2 rfl (lv_at hl 1 rfl) ?_
      refine lv_iconst (v := 4) hx hb dX5_clear_3 (by decide) ?_
      refine lv_icmp_ge (tgt := 20) hx hb dX5_clear_4 (by decide) (fun c_4 => ?_) (fun c_4 => ?_)
      · have h := jl_ift c_4 h
        have h := jl_ex_o h hz2
        refine lv_iconst (v := 0) hx hb dX5_clear_20 (by decide) ?_
        refine lv_topi (fun x1_21 ex1_21 => ?_)
        have h := jl_lt_o h ex1_21
        refine lv_istore_n (lv' := [(1, .int x1_21), (0, .ref (B 0))]) hx hb dX5_clear_21 rfl hl (by decide) rfl (fun ls hl => ?_)
        have k22 : ∀ (n22 : Nat) (x1L22 : Int32) (ML22 : jl_Mem), jl_wh (fun q => jf_X5_clear_L22 q.1 q.2) n22 (x1L22, ML22) = some z → ∀ (H : Heap) (locs : List Loc) (ls : Array Slot), va_P D vwCl (jy_w cI cT B ML22) H → va_S (jy_A B) H0 H locs → lv_has ls 2 [(0, .ref (B 0)), (1, .int x1L22)] → W p l e R s m args below meth c H locs 0 0 Q (F0 m 22 ls []) := by
          intro n22
          induction n22 with
          | zero => exact fun _ _ h => (jl_wh_0 h).elim
          | succ n22 ih22 =>
            intro x1L22 ML22 h H locs ls hP hS hl
            obtain ⟨o22, h, hz22⟩ := jl_wh_s h
            replace h : jf_X5_clear_L22 x1L22 ML22 = some o22 := h
            unfold jf_X5_clear_L22 at h
            refine lv_iload_n hx hb dX5_clear_22 rfl (lv_at hl 1 rfl) ?_
            refine lv_bipush (v := 80) hx hb dX5_clear_23 (by decide) ?_
            refine lv_icmp_ge (tgt := 41) hx hb dX5_clear_25 (by decide) (fun c_25 => ?_) (fun c_25 => ?_)
            · have h := jl_ift c_25 h
              have h := jl_ex_o h hz22
              exact kr _ _ _ _ _ (Option.some.inj h) dX5_clear_41 hP hS
            · have h := jl_iff c_25 h
              refine lv_aload_n hx hb dX5_clear_28 rfl (lv_at hl 0 rfl) ?_
              refine jy_g_X5_looked hx hb hts hiX5 hown hK hP hf34 dX5_clear_29 ?_
              refine lv_iload_n hx hb dX5_clear_32 rfl (lv_at hl 1 rfl) ?_
              refine lv_iconst (v := 0) hx hb dX5_clear_33 (by decide) ?_
              obtain ⟨i_34, h⟩ := jl_chk_o h
              refine jy_bastore hx hb hK hB hP hS rfl i_34 (by decide) dX5_clear_34 (fun M_34 H locs eM_34 hP hS => ?_)
              have h := jl_lt_o h eM_34
              obtain ⟨x1_35, ex1_35⟩ : ∃ y : Int32, y = x1L22 + 1 := ⟨_, rfl⟩
              have h := jl_lt_o h ex1_35
              refine lv_iinc (v := x1_35) (lv' := [(1, .int x1_35), (0, .ref (B 0))]) hx hb dX5_clear_35 hl (k := 1) rfl (by rw [ex1_35]; rfl) (by decide) rfl (fun ls hl => ?_)
              refine lv_goto (tgt := 22) hx hb dX5_clear_38 (by decide) ?_
              exact ih22 _ _ (jl_L (Option.some.inj h) hz22) _ _ _ hP hS (lv_sub hl [1, 0] rfl)
        exact k22 _ _ _ h _ _ _ hP hS (lv_sub hl [1, 0] rfl)
      · have h := jl_iff c_4 h
        refine lv_aload_n hx hb dX5_clear_7 rfl (lv_at hl 0 rfl) ?_
        refine jy_g_X5_depth hx hb hts hiX5 hown hK hP hf31 dX5_clear_8 ?_
        refine lv_iload_n hx hb dX5_clear_11 rfl (lv_at hl 1 rfl) ?_
        refine lv_iconst (v := 0) hx hb dX5_clear_12 (by decide) ?_
        obtain ⟨i_13, h⟩ := jl_chk_o h
        refine jy_iastore hx hb hK hB hP hS rfl i_13 dX5_clear_13 (fun M_13 H locs eM_13 hP hS => ?_)
        have h := jl_lt_o h eM_13
        obtain ⟨x1_14, ex1_14⟩ : ∃ y : Int32, y = x1L2 + 1 := ⟨_, rfl⟩
        have h := jl_lt_o h ex1_14
        refine lv_iinc (v := x1_14) (lv' := [(1, .int x1_14), (0, .ref (B 0))]) hx hb dX5_clear_14 hl (k := 1) rfl (by rw [ex1_14]; rfl) (by decide) rfl (fun ls hl => ?_)
        refine lv_goto (tgt := 2) hx hb dX5_clear_17 (by decide) ?_
        exact ih2 _ _ (jl_L (Option.some.inj h) hz2) _ _ _ hP hS (lv_sub hl [1, 0] rfl)
  exact k2 _ _ _ h _ _ _ hP hS (lv_sub hl [1, 0] rfl)
theorem jc_X5_clear {z : Int32 × jl_Mem} (h : jf_X5_clear M = some z) : Met l yX5_clear wsX5_clear ({ frames := 0, cells := 0, slots := 0, locals := 0 }) (va_Pc [.ref (B 0)] (jy_U D cI cT B M)) (va_Qv (fun (_ : Unit) => True) (fun _ t => va_P D vwCl (jy_w cI cT B z.2) t.heap) (jy_A B)) 0 0 (jy_A B) := by
  refine Met.ofW (cc := cX5_clear) (maxL := 2) (ret := none) (by decide) rfl ?_
  intro p e s m args below meth c s1 BB hml hv
  obtain ⟨rfl, hK, hP, hB, hN⟩ := hv
  have hl := lv_entry ([.ref (B 0)]) (n := 2) (Nat.le_of_ble_eq_true rfl)
  rw [lg_entry_eq]
  generalize (lg_sl ([.ref (B 0)]) ++ List.replicate (2 - (lg_sl ([.ref (B 0)])).length) Slot.unset).toArray = ls at hl ⊢
  exact jb_X5_clear BB.exec BB.bytes hml (findClass_of_methodNamed BB.named) (atoms_spec (ws := wsX5_clear) BB.pre) hK hB hN (Nat.le_refl _) (Nat.le_refl _) h (fun M1 H locs pc ls e1 hd hP hS => W.vret BB.exec BB.bytes BB.returns (fun t ht hW => ⟨⟨(), rfl, trivial, by show va_P D vwCl (jy_w cI cT B z.2) t.heap; rw [ht, ← e1]; exact hP⟩, hS.F ht⟩) hS.2.2 hd BB.notSynchronized) hP va_S.rf hl
end
section
variable {p : Program} {l : Launch} {e : Env} {R : Room} {s : State} {m : MethodId} {args : Array Value} {below : List Frame} {meth : Method} {c : Code} {H : Heap} {locs : List Loc} {Q : State → Prop} {ls : Array Slot} {D : va_G} {cI cT : ClassId} {B : Nat → Nat} {M : jl_Mem} {H0 : Heap}
set_option maxHeartbeats 4000000 in
set_option maxRecDepth 100000 in
theorem jb_X5_begin (hx : p.tables.exec = Jvm.exec) (hb : c.code = cX5_begin) (hml : c.maxLocals = 4) (hown : s.vm.findClass RX5 = some m.cls) (hts : ∀ w ∈ wsX5_begin, w.before args s = true) (hK : va_K D vwCl (jy_ty cI cT) s) (hB : jy_inj B) (hN : jy_N s) (hRf : 5 ≤ R.frames) (hRl : 113 ≤ R.locals) {a1 : Int32} {a2 : Int32} {a3 : Int32} {z : Int32 × jl_Mem} (h : jf_X5_begin a1 a2 a3 M = some z)
    (kr : ∀ (v : Int32) (M1 : jl_Mem) (H1 : Heap) (locs1 : List Loc) (pc1 : Nat) (ls1 : Array Slot), (v, M1) = z → decode cX5_begin pc1 = .ok (.ireturn, 1) → va_P D vwCl (jy_w cI cT B M1) H1 → va_S (jy_A B) H0 H1 locs1 → W p l e R s m args below meth c H1 locs1 0 0 Q (F0 m pc1 ls1 [.int v]))
    (hP : va_P D vwCl (jy_w cI cT B M) H) (hS : va_S (jy_A B) H0 H locs) (hl : lv_has ls 4 [(0, .ref (B 0)), (1, .int a1), (2, .int a2), (3, .int a3)]) : W p l e R s m args below meth c H locs 0 0 Q (F0 m 0 ls []) := by
  unfold jf_X5_begin at h
  have hiX5 : ∀ w ∈ wsX50, w ∈ wsX5_begin := by decide +kernel
  have hf63 := hts (.fieldLink RX5 63 "JudgesListsModel" "things" "I") (by decide +kernel)
  have hf73 := hts (.fieldLink RX5 73 "JudgesListsModel" "reads" "Z") (by decide +kernel)
  have hf123 := hts (.fieldLink RX5 123 "JudgesListsModel" "kind" "I") (by decide +kernel)
  have hf114 := hts (.fieldLink RX5 114 "JudgesListsModel" "wants" "I") (by decide +kernel)
  have hf126 := hts (.fieldLink RX5 126 "JudgesListsModel" "turn" "I") (by decide +kernel)
  have hf129 := hts (.fieldLink RX5 129 "JudgesListsModel" "rounds" "I") (by decide +kernel)
  have hf132 := hts (.fieldLink RX5 132 "JudgesListsModel" "seen" "I") (by decide +kernel)
  have hf135 := hts (.fieldLink RX5 135 "JudgesListsModel" "ups" "I") (by decide +kernel)
  have hf138 := hts (.fieldLink RX5 138 "JudgesListsModel" "cost" "I") (by decide +kernel)
  refine lv_iload_n hx hb dX5_begin_0 rfl (lv_at hl 2 rfl) ?_
  refine lv_iconst (v := 1) hx hb dX5_begin_1 (by decide) ?_
  refine lv_aload_n hx hb dX5_begin_2 rfl (lv_at hl 0 rfl) ?_
  refine jy_g_X5_things hx hb hts hiX5 hown hK hP hf63 dX5_begin_3 ?_
  obtain ⟨r_6, M_6, hc_6, h⟩ := jl_bnd_o h
  refine jy_callSi (As := [.int a2, .int 1, .int (M 0 1)]) (rest := []) ⟨hx, hb, hml, hown, hts⟩ (jc_X5_in hc_6) (va_cwS 3 hts gX5_begin_X5_in rfl rfl rfl (by decide +kernel) ⟨Nat.le_trans (by decide) hRf, Nat.le_trans (by decide) hRl⟩) hK hB hN hP hS rfl dX5_begin_6 rfl hl.1 (Nat.le_of_ble_eq_true rfl) ⟨Nat.zero_le _, Nat.zero_le _⟩ (fun H locs hP hS => ?_)
  refine lv_if_eq (tgt := 43) hx hb dX5_begin_9 (by decide) (fun c_9 => ?_) (fun c_9 => ?_)
  · have h := jl_ift c_9 h
    refine lv_bipush (v := (-2)) hx hb dX5_begin_43 (by decide) ?_
    exact kr _ _ _ _ _ _ (Option.some.inj h) dX5_begin_45 hP hS
  · have h := jl_iff c_9 h
    refine lv_iload_n hx hb dX5_begin_12 rfl (lv_at hl 1 rfl) ?_
    refine lv_iconst (v := 0) hx hb dX5_begin_13 (by decide) ?_
    refine lv_iconst (v := 2) hx hb dX5_begin_14 (by decide) ?_
    obtain ⟨r_15, M_15, hc_15, h⟩ := jl_bnd_o h
    refine jy_callSi (As := [.int a1, .int 0, .int 2]) (rest := []) ⟨hx, hb, hml, hown, hts⟩ (jc_X5_in hc_15) (va_cwS 3 hts gX5_begin_X5_in rfl rfl rfl (by decide +kernel) ⟨Nat.le_trans (by decide) hRf, Nat.le_trans (by decide) hRl⟩) hK hB hN hP hS rfl dX5_begin_15 rfl hl.1 (Nat.le_of_ble_eq_true rfl) ⟨Nat.zero_le _, Nat.zero_le _⟩ (fun H locs hP hS => ?_)
    refine lv_if_eq (tgt := 43) hx hb dX5_begin_18 (by decide) (fun c_18 => ?_) (fun c_18 => ?_)
    · have h := jl_ift c_18 h
      refine lv_bipush (v := (-2)) hx hb dX5_begin_43 (by decide) ?_
      exact kr _ _ _ _ _ _ (Option.some.inj h) dX5_begin_45 hP hS
    · have h := jl_iff c_18 h
      refine lv_iload_n hx hb dX5_begin_21 rfl (lv_at hl 1 rfl) ?_
      refine lv_iconst (v := 2) hx hb dX5_begin_22 (by decide) ?_
      refine lv_icmp_ne (tgt := 39) hx hb dX5_begin_23 (by decide) (fun c_23 => ?_) (fun c_23 => ?_)
      · have h := jl_iff c_23 h
        refine lv_iload_n hx hb dX5_begin_39 rfl (lv_at hl 3 rfl) ?_
        refine lv_if_eq (tgt := 46) hx hb dX5_begin_40 (by decide) (fun c_40 => ?_) (fun c_40 => ?_)
        · have h := jl_ift c_40 h
          refine lv_aload_n hx hb dX5_begin_46 rfl (lv_at hl 0 rfl) ?_
          refine lv_iconst (v := 1) hx hb dX5_begin_47 (by decide) ?_
          refine jy_p_X5_reads hx hb hts hiX5 hown hK hB hP hS hf73 (by decide) dX5_begin_48 (fun M_48 H locs eM_48 hP hS => ?_)
          have h := jl_lt_o h eM_48
          refine lv_aload_n hx hb dX5_begin_51 rfl (lv_at hl 0 rfl) ?_
          refine lv_iload_n hx hb dX5_begin_52 rfl (lv_at hl 1 rfl) ?_
          refine jy_p_X5_kind hx hb hts hiX5 hown hK hB hP hS hf123 dX5_begin_53 (fun M_53 H locs eM_53 hP hS => ?_)
          have h := jl_lt_o h eM_53
          refine lv_aload_n hx hb dX5_begin_56 rfl (lv_at hl 0 rfl) ?_
          refine lv_iload_n hx hb dX5_begin_57 rfl (lv_at hl 2 rfl) ?_
          refine jy_p_X5_wants hx hb hts hiX5 hown hK hB hP hS hf114 dX5_begin_58 (fun M_58 H locs eM_58 hP hS => ?_)
          have h := jl_lt_o h eM_58
          refine lv_aload_n hx hb dX5_begin_61 rfl (lv_at hl 0 rfl) ?_
          refine lv_iload_n hx hb dX5_begin_62 rfl (lv_at hl 3 rfl) ?_
          refine jy_p_X5_turn hx hb hts hiX5 hown hK hB hP hS hf126 dX5_begin_63 (fun M_63 H locs eM_63 hP hS => ?_)
          have h := jl_lt_o h eM_63
          refine lv_aload_n hx hb dX5_begin_66 rfl (lv_at hl 0 rfl) ?_
          refine lv_iconst (v := 0) hx hb dX5_begin_67 (by decide) ?_
          refine jy_p_X5_rounds hx hb hts hiX5 hown hK hB hP hS hf129 dX5_begin_68 (fun M_68 H locs eM_68 hP hS => ?_)
          have h := jl_lt_o h eM_68
          refine lv_aload_n hx hb dX5_begin_71 rfl (lv_at hl 0 rfl) ?_
          refine lv_iconst (v := 0) hx hb dX5_begin_72 (by decide) ?_
          refine jy_p_X5_seen hx hb hts hiX5 hown hK hB hP hS hf132 dX5_begin_73 (fun M_73 H locs eM_73 hP hS => ?_)
          have h := jl_lt_o h eM_73
          refine lv_aload_n hx hb dX5_begin_76 rfl (lv_at hl 0 rfl) ?_
          refine lv_iconst (v := 0) hx hb dX5_begin_77 (by decide) ?_
          refine jy_p_X5_ups hx hb hts hiX5 hown hK hB hP hS hf135 dX5_begin_78 (fun M_78 H locs eM_78 hP hS => ?_)
          have h := jl_lt_o h eM_78
          refine lv_aload_n hx hb dX5_begin_81 rfl (lv_at hl 0 rfl) ?_
          refine lv_iconst (v := 0) hx hb dX5_begin_82 (by decide) ?_
          refine jy_p_X5_cost hx hb hts hiX5 hown hK hB hP hS hf138 dX5_begin_83 (fun M_83 H locs eM_83 hP hS => ?_)
          have h := jl_lt_o h eM_83
          refine lv_aload_n hx hb dX5_begin_86 rfl (lv_at hl 0 rfl) ?_
          obtain ⟨r_87, M_87, hc_87, h⟩ := jl_bnd_o h
          refine jy_callVv (As := []) (rest := []) ⟨hx, hb, hml, hown, hts⟩ (jc_X5_clear hc_87) (cwV 0 hts gX5_begin_X5_clear rfl rfl rfl (by decide +kernel) ⟨Nat.le_trans (by decide) hRf, Nat.le_trans (by decide) hRl⟩) (jy_rv_X5 hK hP) hK hB hN hP hS rfl dX5_begin_87 rfl hl.1 (Nat.le_of_ble_eq_true rfl) ⟨Nat.zero_le _, Nat.zero_le _⟩ (fun H locs hP hS => ?_)
          refine lv_aload_n hx hb dX5_begin_90 rfl (lv_at hl 0 rfl) ?_
          obtain ⟨r_91, M_91, hc_91, h⟩ := jl_bnd_o h
          refine jy_callVi (As := []) (rest := []) ⟨hx, hb, hml, hown, hts⟩ (jc_X5_looks hc_91) (cwV 0 hts gX5_begin_X5_looks rfl rfl rfl (by decide +kernel) ⟨Nat.le_trans (by decide) hRf, Nat.le_trans (by decide) hRl⟩) (jy_rv_X5 hK hP) hK hB hN hP hS rfl dX5_begin_91 rfl hl.1 (Nat.le_of_ble_eq_true rfl) ⟨Nat.zero_le _, Nat.zero_le _⟩ (fun H locs hP hS => ?_)
          refine lv_if_eq (tgt := 101) hx hb dX5_begin_94 (by decide) (fun c_94 => ?_) (fun c_94 => ?_)
          · have h := jl_ift c_94 h
            refine lv_iconst (v := 0) hx hb dX5_begin_101 (by decide) ?_
            exact kr _ _ _ _ _ _ (Option.some.inj h) dX5_begin_102 hP hS
          · have h := jl_iff c_94 h
            refine lv_iconst (v := 1) hx hb dX5_begin_97 (by decide) ?_
            refine lv_goto (tgt := 102) hx hb dX5_begin_98 (by decide) ?_
            exact kr _ _ _ _ _ _ (Option.some.inj h) dX5_begin_102 hP hS
        · have h := jl_iff c_40 h
          refine lv_bipush (v := (-2)) hx hb dX5_begin_43 (by decide) ?_
          exact kr _ _ _ _ _ _ (Option.some.inj h) dX5_begin_45 hP hS
      · have h := jl_ift c_23 h
        refine lv_iload_n hx hb dX5_begin_26 rfl (lv_at hl 3 rfl) ?_
        refine lv_iconst (v := 1) hx hb dX5_begin_27 (by decide) ?_
        refine lv_bipush (v := 10) hx hb dX5_begin_28 (by decide) ?_
        obtain ⟨r_30, M_30, hc_30, h⟩ := jl_bnd_o h
        refine jy_callSi (As := [.int a3, .int 1, .int 10]) (rest := []) ⟨hx, hb, hml, hown, hts⟩ (jc_X5_in hc_30) (va_cwS 3 hts gX5_begin_X5_in rfl rfl rfl (by decide +kernel) ⟨Nat.le_trans (by decide) hRf, Nat.le_trans (by decide) hRl⟩) hK hB hN hP hS rfl dX5_begin_30 rfl hl.1 (Nat.le_of_ble_eq_true rfl) ⟨Nat.zero_le _, Nat.zero_le _⟩ (fun H locs hP hS => ?_)
        refine lv_if_ne (tgt := 46) hx hb dX5_begin_33 (by decide) (fun c_33 => ?_) (fun c_33 => ?_)
        · have h := jl_iff c_33 h
          refine lv_aload_n hx hb dX5_begin_46 rfl (lv_at hl 0 rfl) ?_
          refine lv_iconst (v := 1) hx hb dX5_begin_47 (by decide) ?_
          refine jy_p_X5_reads hx hb hts hiX5 hown hK hB hP hS hf73 (by decide) dX5_begin_48 (fun M_48 H locs eM_48 hP hS => ?_)
          have h := jl_lt_o h eM_48
          refine lv_aload_n hx hb dX5_begin_51 rfl (lv_at hl 0 rfl) ?_
          refine lv_iload_n hx hb dX5_begin_52 rfl (lv_at hl 1 rfl) ?_
          refine jy_p_X5_kind hx hb hts hiX5 hown hK hB hP hS hf123 dX5_begin_53 (fun M_53 H locs eM_53 hP hS => ?_)
          have h := jl_lt_o h eM_53
          refine lv_aload_n hx hb dX5_begin_56 rfl (lv_at hl 0 rfl) ?_
          refine lv_iload_n hx hb dX5_begin_57 rfl (lv_at hl 2 rfl) ?_
          refine jy_p_X5_wants hx hb hts hiX5 hown hK hB hP hS hf114 dX5_begin_58 (fun M_58 H locs eM_58 hP hS => ?_)
          have h := jl_lt_o h eM_58
          refine lv_aload_n hx hb dX5_begin_61 rfl (lv_at hl 0 rfl) ?_
          refine lv_iload_n hx hb dX5_begin_62 rfl (lv_at hl 3 rfl) ?_
          refine jy_p_X5_turn hx hb hts hiX5 hown hK hB hP hS hf126 dX5_begin_63 (fun M_63 H locs eM_63 hP hS => ?_)
          have h := jl_lt_o h eM_63
          refine lv_aload_n hx hb dX5_begin_66 rfl (lv_at hl 0 rfl) ?_
          refine lv_iconst (v := 0) hx hb dX5_begin_67 (by decide) ?_
          refine jy_p_X5_rounds hx hb hts hiX5 hown hK hB hP hS hf129 dX5_begin_68 (fun M_68 H locs eM_68 hP hS => ?_)
          have h := jl_lt_o h eM_68
          refine lv_aload_n hx hb dX5_begin_71 rfl (lv_at hl 0 rfl) ?_
          refine lv_iconst (v := 0) hx hb dX5_begin_72 (by decide) ?_
          refine jy_p_X5_seen hx hb hts hiX5 hown hK hB hP hS hf132 dX5_begin_73 (fun M_73 H locs eM_73 hP hS => ?_)
          have h := jl_lt_o h eM_73
          refine lv_aload_n hx hb dX5_begin_76 rfl (lv_at hl 0 rfl) ?_
          refine lv_iconst (v := 0) hx hb dX5_begin_77 (by decide) ?_
          refine jy_p_X5_ups hx hb hts hiX5 hown hK hB hP hS hf135 dX5_begin_78 (fun M_78 H locs eM_78 hP hS => ?_)
          have h := jl_lt_o h eM_78
          refine lv_aload_n hx hb dX5_begin_81 rfl (lv_at hl 0 rfl) ?_
          refine lv_iconst (v := 0) hx hb dX5_begin_82 (by decide) ?_
          refine jy_p_X5_cost hx hb hts hiX5 hown hK hB hP hS hf138 dX5_begin_83 (fun M_83 H locs eM_83 hP hS => ?_)
          have h := jl_lt_o h eM_83
          refine lv_aload_n hx hb dX5_begin_86 rfl (lv_at hl 0 rfl) ?_
          obtain ⟨r_87, M_87, hc_87, h⟩ := jl_bnd_o h
          refine jy_callVv (As := []) (rest := []) ⟨hx, hb, hml, hown, hts⟩ (jc_X5_clear hc_87) (cwV 0 hts gX5_begin_X5_clear rfl rfl rfl (by decide +kernel) ⟨Nat.le_trans (by decide) hRf, Nat.le_trans (by decide) hRl⟩) (jy_rv_X5 hK hP) hK hB hN hP hS rfl dX5_begin_87 rfl hl.1 (Nat.le_of_ble_eq_true rfl) ⟨Nat.zero_le _, Nat.zero_le _⟩ (fun H locs hP hS => ?_)
          refine lv_aload_n hx hb dX5_begin_90 rfl (lv_at hl 0 rfl) ?_
          obtain ⟨r_91, M_91, hc_91, h⟩ := jl_bnd_o h
          refine jy_callVi (As := []) (rest := []) ⟨hx, hb, hml, hown, hts⟩ (jc_X5_looks hc_91) (cwV 0 hts gX5_begin_X5_looks rfl rfl rfl (by decide +kernel) ⟨Nat.le_trans (by decide) hRf, Nat.le_trans (by decide) hRl⟩) (jy_rv_X5 hK hP) hK hB hN hP hS rfl dX5_begin_91 rfl hl.1 (Nat.le_of_ble_eq_true rfl) ⟨Nat.zero_le _, Nat.zero_le _⟩ (fun H locs hP hS => ?_)
          refine lv_if_eq (tgt := 101) hx hb dX5_begin_94 (by decide) (fun c_94 => ?_) (fun c_94 => ?_)
          · have h := jl_ift c_94 h
            refine lv_iconst (v := 0) hx hb dX5_begin_101 (by decide) ?_
            exact kr _ _ _ _ _ _ (Option.some.inj h) dX5_begin_102 hP hS
          · have h := jl_iff c_94 h
            refine lv_iconst (v := 1) hx hb dX5_begin_97 (by decide) ?_
            refine lv_goto (tgt := 102) hx hb dX5_begin_98 (by decide) ?_
            exact kr _ _ _ _ _ _ (Option.some.inj h) dX5_begin_102 hP hS
        · have h := jl_ift c_33 h
          refine lv_goto (tgt := 43) hx hb dX5_begin_36 (by decide) ?_
          refine lv_bipush (v := (-2)) hx hb dX5_begin_43 (by decide) ?_
          exact kr _ _ _ _ _ _ (Option.some.inj h) dX5_begin_45 hP hS
theorem jc_X5_begin {a1 : Int32} {a2 : Int32} {a3 : Int32} {z : Int32 × jl_Mem} (h : jf_X5_begin a1 a2 a3 M = some z) : Met l yX5_begin wsX5_begin ({ frames := 5, cells := 0, slots := 0, locals := 113 }) (va_Pc [.ref (B 0), .int a1, .int a2, .int a3] (jy_U D cI cT B M)) (va_Qi (fun (q : Int32) (_ : Unit) => q = z.1) (fun _ t => va_P D vwCl (jy_w cI cT B z.2) t.heap) (jy_A B)) 0 0 (jy_A B) := by
  refine Met.ofW (cc := cX5_begin) (maxL := 4) (ret := (some .int)) (by decide) rfl ?_
  intro p e s m args below meth c s1 BB hml hv
  obtain ⟨rfl, hK, hP, hB, hN⟩ := hv
  have hl := lv_entry ([.ref (B 0), .int a1, .int a2, .int a3]) (n := 4) (Nat.le_of_ble_eq_true rfl)
  rw [lg_entry_eq]
  generalize (lg_sl ([.ref (B 0), .int a1, .int a2, .int a3]) ++ List.replicate (4 - (lg_sl ([.ref (B 0), .int a1, .int a2, .int a3])).length) Slot.unset).toArray = ls at hl ⊢
  exact jb_X5_begin BB.exec BB.bytes hml (findClass_of_methodNamed BB.named) (atoms_spec (ws := wsX5_begin) BB.pre) hK hB hN (Nat.le_refl _) (Nat.le_refl _) h (fun v M1 H locs pc ls e1 hd hP hS => W.iret BB.exec BB.bytes BB.returns (fun t ht hW => ⟨⟨_, (), rfl, by rw [← e1], by show va_P D vwCl (jy_w cI cT B z.2) t.heap; rw [ht, ← e1]; exact hP⟩, hS.F ht⟩) hS.2.2 hd BB.notSynchronized) hP va_S.rf hl
end
section
variable {p : Program} {l : Launch} {e : Env} {R : Room} {s : State} {m : MethodId} {args : Array Value} {below : List Frame} {meth : Method} {c : Code} {H : Heap} {locs : List Loc} {Q : State → Prop} {ls : Array Slot} {D : va_G} {cI cT : ClassId} {B : Nat → Nat} {M : jl_Mem} {H0 : Heap}
set_option maxHeartbeats 4000000 in
set_option maxRecDepth 100000 in
theorem jb_X5_looksUp (hx : p.tables.exec = Jvm.exec) (hb : c.code = cX5_looksUp) (hml : c.maxLocals = 3) (hown : s.vm.findClass RX5 = some m.cls) (hts : ∀ w ∈ wsX5_looksUp, w.before args s = true) (hK : va_K D vwCl (jy_ty cI cT) s) (hB : jy_inj B) (hN : jy_N s) (hRf : 5 ≤ R.frames) (hRl : 113 ≤ R.locals) {a1 : Int32} {z : Int32 × jl_Mem} (h : jf_X5_looksUp a1 M = some z)
    (kr : ∀ (v : Int32) (M1 : jl_Mem) (H1 : Heap) (locs1 : List Loc) (pc1 : Nat) (ls1 : Array Slot), (v, M1) = z → jl_isB v = true → decode cX5_looksUp pc1 = .ok (.ireturn, 1) → va_P D vwCl (jy_w cI cT B M1) H1 → va_S (jy_A B) H0 H1 locs1 → W p l e R s m args below meth c H1 locs1 0 0 Q (F0 m pc1 ls1 [.int v]))
    (hP : va_P D vwCl (jy_w cI cT B M) H) (hS : va_S (jy_A B) H0 H locs) (hl : lv_has ls 3 [(0, .ref (B 0)), (1, .int a1)]) : W p l e R s m args below meth c H locs 0 0 Q (F0 m 0 ls []) := by
  unfold jf_X5_looksUp at h
  have hiX5 : ∀ w ∈ wsX50, w ∈ wsX5_looksUp := by decide +kernel
  have hf70 := hts (.fieldLink RX5 70 "JudgesListsModel" "lists" "I") (by decide +kernel)
  have hf16 := hts (.fieldLink RX5 16 "JudgesListsModel" "up" "[I") (by decide +kernel)
  have hf34 := hts (.fieldLink RX5 34 "JudgesListsModel" "looked" "[Z") (by decide +kernel)
  have hf135 := hts (.fieldLink RX5 135 "JudgesListsModel" "ups" "I") (by decide +kernel)
  have hf138 := hts (.fieldLink RX5 138 "JudgesListsModel" "cost" "I") (by decide +kernel)
  refine lv_iconst (v := 0) hx hb dX5_looksUp_0 (by decide) ?_
  refine lv_topi (fun x2_1 ex2_1 => ?_)
  have h := jl_lt_o h ex2_1
  refine lv_istore_n (lv' := [(2, .int x2_1), (0, .ref (B 0)), (1, .int a1)]) hx hb dX5_looksUp_1 rfl hl (by decide) rfl (fun ls hl => ?_)
  have k2 : ∀ (n2 : Nat) (x2L2 : Int32) (ML2 : jl_Mem), jl_wh (fun q => jf_X5_looksUp_L2 a1 q.1 q.2) n2 (x2L2, ML2) = some z → ∀ (H : Heap) (locs : List Loc) (ls : Array Slot), va_P D vwCl (jy_w cI cT B ML2) H → va_S (jy_A B) H0 H locs → lv_has ls 3 [(0, .ref (B 0)), (1, .int a1), (2, .int x2L2)] → W p l e R s m args below meth c H locs 0 0 Q (F0 m 2 ls []) := by
    intro n2
    induction n2 with
    | zero => exact fun _ _ h => (jl_wh_0 h).elim
    | succ n2 ih2 =>
      intro x2L2 ML2 h H locs ls hP hS hl
      obtain ⟨o2, h, hz2⟩ := jl_wh_s h
      replace h : jf_X5_looksUp_L2 a1 x2L2 ML2 = some o2 := h
      unfold jf_X5_looksUp_L2 at h
      refine lv_iload_n hx hb dX5_looksUp_2 rfl (lv_at hl 2 rfl) ?_
      refine lv_aload_n hx hb dX5_looksUp_3 rfl (lv_at hl 0 rfl) ?_
      refine jy_g_X5_lists hx hb hts hiX5 hown hK hP hf70 dX5_looksUp_4 ?_
      refine lv_icmp_ge (tgt := 83) hx hb dX5_looksUp_7 (by decide) (fun c_7 => ?_) (fun c_7 => ?_)
      · have h := jl_ift c_7 h
        have h := jl_ex_o h hz2
        refine lv_iconst (v := 0) hx hb dX5_looksUp_83 (by decide) ?_
        exact kr _ _ _ _ _ _ (Option.some.inj h) (by decide) dX5_looksUp_84 hP hS
      · have h := jl_iff c_7 h
        refine lv_aload_n hx hb dX5_looksUp_10 rfl (lv_at hl 0 rfl) ?_
        refine jy_g_X5_up hx hb hts hiX5 hown hK hP hf16 dX5_looksUp_11 ?_
        refine lv_iload_n hx hb dX5_looksUp_14 rfl (lv_at hl 2 rfl) ?_
        obtain ⟨i_15, h⟩ := jl_chk_o h
        refine jy_iaload hx hb hK hP rfl i_15 dX5_looksUp_15 ?_
        refine lv_if_eq (tgt := 77) hx hb dX5_looksUp_16 (by decide) (fun c_16 => ?_) (fun c_16 => ?_)
        · have h := jl_ift c_16 h
          obtain ⟨x2_77, ex2_77⟩ : ∃ y : Int32, y = x2L2 + 1 := ⟨_, rfl⟩
          have h := jl_lt_o h ex2_77
          refine lv_iinc (v := x2_77) (lv' := [(2, .int x2_77), (0, .ref (B 0)), (1, .int a1)]) hx hb dX5_looksUp_77 hl (k := 2) rfl (by rw [ex2_77]; rfl) (by decide) rfl (fun ls hl => ?_)
          refine lv_goto (tgt := 2) hx hb dX5_looksUp_80 (by decide) ?_
          exact ih2 _ _ (jl_L (Option.some.inj h) hz2) _ _ _ hP hS (lv_sub hl [1, 2, 0] rfl)
        · have h := jl_iff c_16 h
          refine lv_aload_n hx hb dX5_looksUp_19 rfl (lv_at hl 0 rfl) ?_
          refine lv_iload_n hx hb dX5_looksUp_20 rfl (lv_at hl 2 rfl) ?_
          refine lv_iload_n hx hb dX5_looksUp_21 rfl (lv_at hl 1 rfl) ?_
          obtain ⟨r_22, M_22, hc_22, h⟩ := jl_bnd_o h
          refine jy_callVi (As := [.int x2L2, .int a1]) (rest := []) ⟨hx, hb, hml, hown, hts⟩ (jc_X5_isKnown hc_22) (cwV 2 hts gX5_looksUp_X5_isKnown rfl rfl rfl (by decide +kernel) ⟨Nat.le_trans (by decide) hRf, Nat.le_trans (by decide) hRl⟩) (jy_rv_X5 hK hP) hK hB hN hP hS rfl dX5_looksUp_22 rfl hl.1 (Nat.le_of_ble_eq_true rfl) ⟨Nat.zero_le _, Nat.zero_le _⟩ (fun H locs hP hS => ?_)
          refine lv_if_eq (tgt := 31) hx hb dX5_looksUp_25 (by decide) (fun c_25 => ?_) (fun c_25 => ?_)
          · have h := jl_ift c_25 h
            refine lv_aload_n hx hb dX5_looksUp_31 rfl (lv_at hl 0 rfl) ?_
            refine jy_g_X5_looked hx hb hts hiX5 hown hK hP hf34 dX5_looksUp_32 ?_
            refine lv_bipush (v := 20) hx hb dX5_looksUp_35 (by decide) ?_
            refine lv_iload_n hx hb dX5_looksUp_37 rfl (lv_at hl 2 rfl) ?_
            refine lv_imul hx hb dX5_looksUp_38 ?_
            refine lv_iload_n hx hb dX5_looksUp_39 rfl (lv_at hl 1 rfl) ?_
            refine lv_iadd hx hb dX5_looksUp_40 ?_
            refine lv_iconst (v := 1) hx hb dX5_looksUp_41 (by decide) ?_
            obtain ⟨i_42, h⟩ := jl_chk_o h
            refine jy_bastore hx hb hK hB hP hS rfl i_42 (by decide) dX5_looksUp_42 (fun M_42 H locs eM_42 hP hS => ?_)
            have h := jl_lt_o h eM_42
            refine lv_aload_n hx hb dX5_looksUp_43 rfl (lv_at hl 0 rfl) ?_
            refine lv_dup hx hb dX5_looksUp_44 rfl ?_
            refine jy_g_X5_ups hx hb hts hiX5 hown hK hP hf135 dX5_looksUp_45 ?_
            refine lv_iconst (v := 1) hx hb dX5_looksUp_48 (by decide) ?_
            refine lv_iadd hx hb dX5_looksUp_49 ?_
            refine jy_p_X5_ups hx hb hts hiX5 hown hK hB hP hS hf135 dX5_looksUp_50 (fun M_50 H locs eM_50 hP hS => ?_)
            have h := jl_lt_o h eM_50
            refine lv_aload_n hx hb dX5_looksUp_53 rfl (lv_at hl 0 rfl) ?_
            refine lv_dup hx hb dX5_looksUp_54 rfl ?_
            refine jy_g_X5_cost hx hb hts hiX5 hown hK hP hf138 dX5_looksUp_55 ?_
            refine lv_aload_n hx hb dX5_looksUp_58 rfl (lv_at hl 0 rfl) ?_
            refine jy_g_X5_up hx hb hts hiX5 hown hK hP hf16 dX5_looksUp_59 ?_
            refine lv_iload_n hx hb dX5_looksUp_62 rfl (lv_at hl 2 rfl) ?_
            refine jy_iaload hx hb hK hP rfl i_15 dX5_looksUp_63 ?_
            refine lv_iadd hx hb dX5_looksUp_64 ?_
            refine jy_p_X5_cost hx hb hts hiX5 hown hK hB hP hS hf138 dX5_looksUp_65 (fun M_65 H locs eM_65 hP hS => ?_)
            have h := jl_lt_o h eM_65
            refine lv_aload_n hx hb dX5_looksUp_68 rfl (lv_at hl 0 rfl) ?_
            obtain ⟨r_69, M_69, hc_69, h⟩ := jl_bnd_o h
            refine jy_callVi (As := []) (rest := []) ⟨hx, hb, hml, hown, hts⟩ (jc_X5_looks hc_69) (cwV 0 hts gX5_looksUp_X5_looks rfl rfl rfl (by decide +kernel) ⟨Nat.le_trans (by decide) hRf, Nat.le_trans (by decide) hRl⟩) (jy_rv_X5 hK hP) hK hB hN hP hS rfl dX5_looksUp_69 rfl hl.1 (Nat.le_of_ble_eq_true rfl) ⟨Nat.zero_le _, Nat.zero_le _⟩ (fun H locs hP hS => ?_)
            refine lv_if_eq (tgt := 77) hx hb dX5_looksUp_72 (by decide) (fun c_72 => ?_) (fun c_72 => ?_)
            · have h := jl_ift c_72 h
              obtain ⟨x2_77, ex2_77⟩ : ∃ y : Int32, y = x2L2 + 1 := ⟨_, rfl⟩
              have h := jl_lt_o h ex2_77
              refine lv_iinc (v := x2_77) (lv' := [(2, .int x2_77), (0, .ref (B 0)), (1, .int a1)]) hx hb dX5_looksUp_77 hl (k := 2) rfl (by rw [ex2_77]; rfl) (by decide) rfl (fun ls hl => ?_)
              refine lv_goto (tgt := 2) hx hb dX5_looksUp_80 (by decide) ?_
              exact ih2 _ _ (jl_L (Option.some.inj h) hz2) _ _ _ hP hS (lv_sub hl [1, 2, 0] rfl)
            · have h := jl_iff c_72 h
              have h := jl_ex_o h hz2
              refine lv_iconst (v := 1) hx hb dX5_looksUp_75 (by decide) ?_
              exact kr _ _ _ _ _ _ (Option.some.inj h) (by decide) dX5_looksUp_76 hP hS
          · have h := jl_iff c_25 h
            refine lv_goto (tgt := 77) hx hb dX5_looksUp_28 (by decide) ?_
            obtain ⟨x2_77, ex2_77⟩ : ∃ y : Int32, y = x2L2 + 1 := ⟨_, rfl⟩
            have h := jl_lt_o h ex2_77
            refine lv_iinc (v := x2_77) (lv' := [(2, .int x2_77), (0, .ref (B 0)), (1, .int a1)]) hx hb dX5_looksUp_77 hl (k := 2) rfl (by rw [ex2_77]; rfl) (by decide) rfl (fun ls hl => ?_)
            refine lv_goto (tgt := 2) hx hb dX5_looksUp_80 (by decide) ?_
            exact ih2 _ _ (jl_L (Option.some.inj h) hz2) _ _ _ hP hS (lv_sub hl [1, 2, 0] rfl)
  exact k2 _ _ _ h _ _ _ hP hS (lv_sub hl [1, 2, 0] rfl)
theorem jc_X5_looksUp {a1 : Int32} {z : Int32 × jl_Mem} (h : jf_X5_looksUp a1 M = some z) : Met l yX5_looksUp wsX5_looksUp ({ frames := 5, cells := 0, slots := 0, locals := 113 }) (va_Pc [.ref (B 0), .int a1] (jy_U D cI cT B M)) (va_Qi (fun (q : Int32) (_ : Unit) => q = z.1) (fun _ t => va_P D vwCl (jy_w cI cT B z.2) t.heap) (jy_A B)) 0 0 (jy_A B) := by
  refine Met.ofW (cc := cX5_looksUp) (maxL := 3) (ret := (some .boolean)) (by decide) rfl ?_
  intro p e s m args below meth c s1 BB hml hv
  obtain ⟨rfl, hK, hP, hB, hN⟩ := hv
  have hl := lv_entry ([.ref (B 0), .int a1]) (n := 3) (Nat.le_of_ble_eq_true rfl)
  rw [lg_entry_eq]
  generalize (lg_sl ([.ref (B 0), .int a1]) ++ List.replicate (3 - (lg_sl ([.ref (B 0), .int a1])).length) Slot.unset).toArray = ls at hl ⊢
  exact jb_X5_looksUp BB.exec BB.bytes hml (findClass_of_methodNamed BB.named) (atoms_spec (ws := wsX5_looksUp) BB.pre) hK hB hN (Nat.le_refl _) (Nat.le_refl _) h (fun v M1 H locs pc ls e1 hz hd hP hS => W.zret BB.exec BB.bytes BB.returns (jl_nar hz) (fun t ht hW => ⟨⟨_, (), rfl, by rw [← e1], by show va_P D vwCl (jy_w cI cT B z.2) t.heap; rw [ht, ← e1]; exact hP⟩, hS.F ht⟩) hS.2.2 hd BB.notSynchronized) hP va_S.rf hl
end
section
variable {p : Program} {l : Launch} {e : Env} {R : Room} {s : State} {m : MethodId} {args : Array Value} {below : List Frame} {meth : Method} {c : Code} {H : Heap} {locs : List Loc} {Q : State → Prop} {ls : Array Slot} {D : va_G} {cI cT : ClassId} {B : Nat → Nat} {M : jl_Mem} {H0 : Heap}
set_option maxHeartbeats 4000000 in
set_option maxRecDepth 100000 in
theorem jb_X5_isSeen (hx : p.tables.exec = Jvm.exec) (hb : c.code = cX5_isSeen) (hml : c.maxLocals = 3) (hown : s.vm.findClass RX5 = some m.cls) (hts : ∀ w ∈ wsX5_isSeen, w.before args s = true) (hK : va_K D vwCl (jy_ty cI cT) s) (hB : jy_inj B) (hN : jy_N s) (hRf : 1 ≤ R.frames) (hRl : 23 ≤ R.locals) {a1 : Int32} {z : Int32 × jl_Mem} (h : jf_X5_isSeen a1 M = some z)
    (kr : ∀ (v : Int32) (M1 : jl_Mem) (H1 : Heap) (locs1 : List Loc) (pc1 : Nat) (ls1 : Array Slot), (v, M1) = z → jl_isB v = true → decode cX5_isSeen pc1 = .ok (.ireturn, 1) → va_P D vwCl (jy_w cI cT B M1) H1 → va_S (jy_A B) H0 H1 locs1 → W p l e R s m args below meth c H1 locs1 0 0 Q (F0 m pc1 ls1 [.int v]))
    (hP : va_P D vwCl (jy_w cI cT B M) H) (hS : va_S (jy_A B) H0 H locs) (hl : lv_has ls 3 [(0, .ref (B 0)), (1, .int a1)]) : W p l e R s m args below meth c H locs 0 0 Q (F0 m 0 ls []) := by
  unfold jf_X5_isSeen at h
  have hiX5 : ∀ w ∈ wsX50, w ∈ wsX5_isSeen := by decide +kernel
  have hf70 := hts (.fieldLink RX5 70 "JudgesListsModel" "lists" "I") (by decide +kernel)
  have hf19 := hts (.fieldLink RX5 19 "JudgesListsModel" "mark" "[I") (by decide +kernel)
  have hf31 := hts (.fieldLink RX5 31 "JudgesListsModel" "depth" "[I") (by decide +kernel)
  refine lv_iconst (v := 0) hx hb dX5_isSeen_0 (by decide) ?_
  refine lv_topi (fun x2_1 ex2_1 => ?_)
  have h := jl_lt_o h ex2_1
  refine lv_istore_n (lv' := [(2, .int x2_1), (0, .ref (B 0)), (1, .int a1)]) hx hb dX5_isSeen_1 rfl hl (by decide) rfl (fun ls hl => ?_)
  have k2 : ∀ (n2 : Nat) (x2L2 : Int32) (ML2 : jl_Mem), jl_wh (fun q => jf_X5_isSeen_L2 a1 q.1 q.2) n2 (x2L2, ML2) = some z → ∀ (H : Heap) (locs : List Loc) (ls : Array Slot), va_P D vwCl (jy_w cI cT B ML2) H → va_S (jy_A B) H0 H locs → lv_has ls 3 [(0, .ref (B 0)), (1, .int a1), (2, .int x2L2)] → W p l e R s m args below meth c H locs 0 0 Q (F0 m 2 ls []) := by
    intro n2
    induction n2 with
    | zero => exact fun _ _ h => (jl_wh_0 h).elim
    | succ n2 ih2 =>
      intro x2L2 ML2 h H locs ls hP hS hl
      obtain ⟨o2, h, hz2⟩ := jl_wh_s h
      replace h : jf_X5_isSeen_L2 a1 x2L2 ML2 = some o2 := h
      unfold jf_X5_isSeen_L2 at h
      refine lv_iload_n hx hb dX5_isSeen_2 rfl (lv_at hl 2 rfl) ?_
      refine lv_aload_n hx hb dX5_isSeen_3 rfl (lv_at hl 0 rfl) ?_
      refine jy_g_X5_lists hx hb hts hiX5 hown hK hP hf70 dX5_isSeen_4 ?_
      refine lv_icmp_ge (tgt := 47) hx hb dX5_isSeen_7 (by decide) (fun c_7 => ?_) (fun c_7 => ?_)
      · have h := jl_ift c_7 h
        have h := jl_ex_o h hz2
        refine lv_iconst (v := 0) hx hb dX5_isSeen_47 (by decide) ?_
        exact kr _ _ _ _ _ _ (Option.some.inj h) (by decide) dX5_isSeen_48 hP hS
      · have h := jl_iff c_7 h
        refine lv_aload_n hx hb dX5_isSeen_10 rfl (lv_at hl 0 rfl) ?_
        refine jy_g_X5_mark hx hb hts hiX5 hown hK hP hf19 dX5_isSeen_11 ?_
        refine lv_bipush (v := 20) hx hb dX5_isSeen_14 (by decide) ?_
        refine lv_iload_n hx hb dX5_isSeen_16 rfl (lv_at hl 2 rfl) ?_
        refine lv_imul hx hb dX5_isSeen_17 ?_
        refine lv_iload_n hx hb dX5_isSeen_18 rfl (lv_at hl 1 rfl) ?_
        refine lv_iadd hx hb dX5_isSeen_19 ?_
        obtain ⟨i_20, h⟩ := jl_chk_o h
        refine jy_iaload hx hb hK hP rfl i_20 dX5_isSeen_20 ?_
        refine lv_if_le (tgt := 41) hx hb dX5_isSeen_21 (by decide) (fun c_21 => ?_) (fun c_21 => ?_)
        · have h := jl_ift c_21 h
          obtain ⟨x2_41, ex2_41⟩ : ∃ y : Int32, y = x2L2 + 1 := ⟨_, rfl⟩
          have h := jl_lt_o h ex2_41
          refine lv_iinc (v := x2_41) (lv' := [(2, .int x2_41), (0, .ref (B 0)), (1, .int a1)]) hx hb dX5_isSeen_41 hl (k := 2) rfl (by rw [ex2_41]; rfl) (by decide) rfl (fun ls hl => ?_)
          refine lv_goto (tgt := 2) hx hb dX5_isSeen_44 (by decide) ?_
          exact ih2 _ _ (jl_L (Option.some.inj h) hz2) _ _ _ hP hS (lv_sub hl [1, 2, 0] rfl)
        · have h := jl_iff c_21 h
          refine lv_aload_n hx hb dX5_isSeen_24 rfl (lv_at hl 0 rfl) ?_
          refine lv_iload_n hx hb dX5_isSeen_25 rfl (lv_at hl 2 rfl) ?_
          refine lv_iload_n hx hb dX5_isSeen_26 rfl (lv_at hl 1 rfl) ?_
          obtain ⟨r_27, M_27, hc_27, h⟩ := jl_bnd_o h
          refine jy_callVi (As := [.int x2L2, .int a1]) (rest := []) ⟨hx, hb, hml, hown, hts⟩ (jc_X5_placeOf hc_27) (cwV 2 hts gX5_isSeen_X5_placeOf rfl rfl rfl (by decide +kernel) ⟨Nat.le_trans (by decide) hRf, Nat.le_trans (by decide) hRl⟩) (jy_rv_X5 hK hP) hK hB hN hP hS rfl dX5_isSeen_27 rfl hl.1 (Nat.le_of_ble_eq_true rfl) ⟨Nat.zero_le _, Nat.zero_le _⟩ (fun H locs hP hS => ?_)
          refine lv_aload_n hx hb dX5_isSeen_30 rfl (lv_at hl 0 rfl) ?_
          refine jy_g_X5_depth hx hb hts hiX5 hown hK hP hf31 dX5_isSeen_31 ?_
          refine lv_iload_n hx hb dX5_isSeen_34 rfl (lv_at hl 2 rfl) ?_
          obtain ⟨i_35, h⟩ := jl_chk_o h
          refine jy_iaload hx hb hK hP rfl i_35 dX5_isSeen_35 ?_
          refine lv_icmp_ge (tgt := 41) hx hb dX5_isSeen_36 (by decide) (fun c_36 => ?_) (fun c_36 => ?_)
          · have h := jl_ift c_36 h
            obtain ⟨x2_41, ex2_41⟩ : ∃ y : Int32, y = x2L2 + 1 := ⟨_, rfl⟩
            have h := jl_lt_o h ex2_41
            refine lv_iinc (v := x2_41) (lv' := [(2, .int x2_41), (0, .ref (B 0)), (1, .int a1)]) hx hb dX5_isSeen_41 hl (k := 2) rfl (by rw [ex2_41]; rfl) (by decide) rfl (fun ls hl => ?_)
            refine lv_goto (tgt := 2) hx hb dX5_isSeen_44 (by decide) ?_
            exact ih2 _ _ (jl_L (Option.some.inj h) hz2) _ _ _ hP hS (lv_sub hl [1, 2, 0] rfl)
          · have h := jl_iff c_36 h
            have h := jl_ex_o h hz2
            refine lv_iconst (v := 1) hx hb dX5_isSeen_39 (by decide) ?_
            exact kr _ _ _ _ _ _ (Option.some.inj h) (by decide) dX5_isSeen_40 hP hS
  exact k2 _ _ _ h _ _ _ hP hS (lv_sub hl [1, 2, 0] rfl)
theorem jc_X5_isSeen {a1 : Int32} {z : Int32 × jl_Mem} (h : jf_X5_isSeen a1 M = some z) : Met l yX5_isSeen wsX5_isSeen ({ frames := 1, cells := 0, slots := 0, locals := 23 }) (va_Pc [.ref (B 0), .int a1] (jy_U D cI cT B M)) (va_Qi (fun (q : Int32) (_ : Unit) => q = z.1) (fun _ t => va_P D vwCl (jy_w cI cT B z.2) t.heap) (jy_A B)) 0 0 (jy_A B) := by
  refine Met.ofW (cc := cX5_isSeen) (maxL := 3) (ret := (some .boolean)) (by decide) rfl ?_
  intro p e s m args below meth c s1 BB hml hv
  obtain ⟨rfl, hK, hP, hB, hN⟩ := hv
  have hl := lv_entry ([.ref (B 0), .int a1]) (n := 3) (Nat.le_of_ble_eq_true rfl)
  rw [lg_entry_eq]
  generalize (lg_sl ([.ref (B 0), .int a1]) ++ List.replicate (3 - (lg_sl ([.ref (B 0), .int a1])).length) Slot.unset).toArray = ls at hl ⊢
  exact jb_X5_isSeen BB.exec BB.bytes hml (findClass_of_methodNamed BB.named) (atoms_spec (ws := wsX5_isSeen) BB.pre) hK hB hN (Nat.le_refl _) (Nat.le_refl _) h (fun v M1 H locs pc ls e1 hz hd hP hS => W.zret BB.exec BB.bytes BB.returns (jl_nar hz) (fun t ht hW => ⟨⟨_, (), rfl, by rw [← e1], by show va_P D vwCl (jy_w cI cT B z.2) t.heap; rw [ht, ← e1]; exact hP⟩, hS.F ht⟩) hS.2.2 hd BB.notSynchronized) hP va_S.rf hl
end
section
variable {p : Program} {l : Launch} {e : Env} {R : Room} {s : State} {m : MethodId} {args : Array Value} {below : List Frame} {meth : Method} {c : Code} {H : Heap} {locs : List Loc} {Q : State → Prop} {ls : Array Slot} {D : va_G} {cI cT : ClassId} {B : Nat → Nat} {M : jl_Mem} {H0 : Heap}
set_option maxHeartbeats 4000000 in
set_option maxRecDepth 100000 in
theorem jb_X5_isOpen (hx : p.tables.exec = Jvm.exec) (hb : c.code = cX5_isOpen) (hml : c.maxLocals = 3) (hown : s.vm.findClass RX5 = some m.cls) (hts : ∀ w ∈ wsX5_isOpen, w.before args s = true) (hK : va_K D vwCl (jy_ty cI cT) s) (hB : jy_inj B) (hN : jy_N s) (hRf : 2 ≤ R.frames) (hRl : 45 ≤ R.locals) {a1 : Int32} {z : Int32 × jl_Mem} (h : jf_X5_isOpen a1 M = some z)
    (kr : ∀ (v : Int32) (M1 : jl_Mem) (H1 : Heap) (locs1 : List Loc) (pc1 : Nat) (ls1 : Array Slot), (v, M1) = z → jl_isB v = true → decode cX5_isOpen pc1 = .ok (.ireturn, 1) → va_P D vwCl (jy_w cI cT B M1) H1 → va_S (jy_A B) H0 H1 locs1 → W p l e R s m args below meth c H1 locs1 0 0 Q (F0 m pc1 ls1 [.int v]))
    (hP : va_P D vwCl (jy_w cI cT B M) H) (hS : va_S (jy_A B) H0 H locs) (hl : lv_has ls 3 [(0, .ref (B 0)), (1, .int a1)]) : W p l e R s m args below meth c H locs 0 0 Q (F0 m 0 ls []) := by
  unfold jf_X5_isOpen at h
  have hiX5 : ∀ w ∈ wsX50, w ∈ wsX5_isOpen := by decide +kernel
  have hf70 := hts (.fieldLink RX5 70 "JudgesListsModel" "lists" "I") (by decide +kernel)
  have hf16 := hts (.fieldLink RX5 16 "JudgesListsModel" "up" "[I") (by decide +kernel)
  refine lv_iconst (v := 0) hx hb dX5_isOpen_0 (by decide) ?_
  refine lv_topi (fun x2_1 ex2_1 => ?_)
  have h := jl_lt_o h ex2_1
  refine lv_istore_n (lv' := [(2, .int x2_1), (0, .ref (B 0)), (1, .int a1)]) hx hb dX5_isOpen_1 rfl hl (by decide) rfl (fun ls hl => ?_)
  have k2 : ∀ (n2 : Nat) (x2L2 : Int32) (ML2 : jl_Mem), jl_wh (fun q => jf_X5_isOpen_L2 a1 q.1 q.2) n2 (x2L2, ML2) = some z → ∀ (H : Heap) (locs : List Loc) (ls : Array Slot), va_P D vwCl (jy_w cI cT B ML2) H → va_S (jy_A B) H0 H locs → lv_has ls 3 [(0, .ref (B 0)), (1, .int a1), (2, .int x2L2)] → W p l e R s m args below meth c H locs 0 0 Q (F0 m 2 ls []) := by
    intro n2
    induction n2 with
    | zero => exact fun _ _ h => (jl_wh_0 h).elim
    | succ n2 ih2 =>
      intro x2L2 ML2 h H locs ls hP hS hl
      obtain ⟨o2, h, hz2⟩ := jl_wh_s h
      replace h : jf_X5_isOpen_L2 a1 x2L2 ML2 = some o2 := h
      unfold jf_X5_isOpen_L2 at h
      refine lv_iload_n hx hb dX5_isOpen_2 rfl (lv_at hl 2 rfl) ?_
      refine lv_aload_n hx hb dX5_isOpen_3 rfl (lv_at hl 0 rfl) ?_
      refine jy_g_X5_lists hx hb hts hiX5 hown hK hP hf70 dX5_isOpen_4 ?_
      refine lv_icmp_ge (tgt := 36) hx hb dX5_isOpen_7 (by decide) (fun c_7 => ?_) (fun c_7 => ?_)
      · have h := jl_ift c_7 h
        have h := jl_ex_o h hz2
        refine lv_iconst (v := 0) hx hb dX5_isOpen_36 (by decide) ?_
        exact kr _ _ _ _ _ _ (Option.some.inj h) (by decide) dX5_isOpen_37 hP hS
      · have h := jl_iff c_7 h
        refine lv_aload_n hx hb dX5_isOpen_10 rfl (lv_at hl 0 rfl) ?_
        refine jy_g_X5_up hx hb hts hiX5 hown hK hP hf16 dX5_isOpen_11 ?_
        refine lv_iload_n hx hb dX5_isOpen_14 rfl (lv_at hl 2 rfl) ?_
        obtain ⟨i_15, h⟩ := jl_chk_o h
        refine jy_iaload hx hb hK hP rfl i_15 dX5_isOpen_15 ?_
        refine lv_if_le (tgt := 30) hx hb dX5_isOpen_16 (by decide) (fun c_16 => ?_) (fun c_16 => ?_)
        · have h := jl_ift c_16 h
          obtain ⟨x2_30, ex2_30⟩ : ∃ y : Int32, y = x2L2 + 1 := ⟨_, rfl⟩
          have h := jl_lt_o h ex2_30
          refine lv_iinc (v := x2_30) (lv' := [(2, .int x2_30), (0, .ref (B 0)), (1, .int a1)]) hx hb dX5_isOpen_30 hl (k := 2) rfl (by rw [ex2_30]; rfl) (by decide) rfl (fun ls hl => ?_)
          refine lv_goto (tgt := 2) hx hb dX5_isOpen_33 (by decide) ?_
          exact ih2 _ _ (jl_L (Option.some.inj h) hz2) _ _ _ hP hS (lv_sub hl [1, 2, 0] rfl)
        · have h := jl_iff c_16 h
          refine lv_aload_n hx hb dX5_isOpen_19 rfl (lv_at hl 0 rfl) ?_
          refine lv_iload_n hx hb dX5_isOpen_20 rfl (lv_at hl 2 rfl) ?_
          refine lv_iload_n hx hb dX5_isOpen_21 rfl (lv_at hl 1 rfl) ?_
          obtain ⟨r_22, M_22, hc_22, h⟩ := jl_bnd_o h
          refine jy_callVi (As := [.int x2L2, .int a1]) (rest := []) ⟨hx, hb, hml, hown, hts⟩ (jc_X5_isKnown hc_22) (cwV 2 hts gX5_isOpen_X5_isKnown rfl rfl rfl (by decide +kernel) ⟨Nat.le_trans (by decide) hRf, Nat.le_trans (by decide) hRl⟩) (jy_rv_X5 hK hP) hK hB hN hP hS rfl dX5_isOpen_22 rfl hl.1 (Nat.le_of_ble_eq_true rfl) ⟨Nat.zero_le _, Nat.zero_le _⟩ (fun H locs hP hS => ?_)
          refine lv_if_ne (tgt := 30) hx hb dX5_isOpen_25 (by decide) (fun c_25 => ?_) (fun c_25 => ?_)
          · have h := jl_iff c_25 h
            obtain ⟨x2_30, ex2_30⟩ : ∃ y : Int32, y = x2L2 + 1 := ⟨_, rfl⟩
            have h := jl_lt_o h ex2_30
            refine lv_iinc (v := x2_30) (lv' := [(2, .int x2_30), (0, .ref (B 0)), (1, .int a1)]) hx hb dX5_isOpen_30 hl (k := 2) rfl (by rw [ex2_30]; rfl) (by decide) rfl (fun ls hl => ?_)
            refine lv_goto (tgt := 2) hx hb dX5_isOpen_33 (by decide) ?_
            exact ih2 _ _ (jl_L (Option.some.inj h) hz2) _ _ _ hP hS (lv_sub hl [1, 2, 0] rfl)
          · have h := jl_ift c_25 h
            have h := jl_ex_o h hz2
            refine lv_iconst (v := 1) hx hb dX5_isOpen_28 (by decide) ?_
            exact kr _ _ _ _ _ _ (Option.some.inj h) (by decide) dX5_isOpen_29 hP hS
  exact k2 _ _ _ h _ _ _ hP hS (lv_sub hl [1, 2, 0] rfl)
theorem jc_X5_isOpen {a1 : Int32} {z : Int32 × jl_Mem} (h : jf_X5_isOpen a1 M = some z) : Met l yX5_isOpen wsX5_isOpen ({ frames := 2, cells := 0, slots := 0, locals := 45 }) (va_Pc [.ref (B 0), .int a1] (jy_U D cI cT B M)) (va_Qi (fun (q : Int32) (_ : Unit) => q = z.1) (fun _ t => va_P D vwCl (jy_w cI cT B z.2) t.heap) (jy_A B)) 0 0 (jy_A B) := by
  refine Met.ofW (cc := cX5_isOpen) (maxL := 3) (ret := (some .boolean)) (by decide) rfl ?_
  intro p e s m args below meth c s1 BB hml hv
  obtain ⟨rfl, hK, hP, hB, hN⟩ := hv
  have hl := lv_entry ([.ref (B 0), .int a1]) (n := 3) (Nat.le_of_ble_eq_true rfl)
  rw [lg_entry_eq]
  generalize (lg_sl ([.ref (B 0), .int a1]) ++ List.replicate (3 - (lg_sl ([.ref (B 0), .int a1])).length) Slot.unset).toArray = ls at hl ⊢
  exact jb_X5_isOpen BB.exec BB.bytes hml (findClass_of_methodNamed BB.named) (atoms_spec (ws := wsX5_isOpen) BB.pre) hK hB hN (Nat.le_refl _) (Nat.le_refl _) h (fun v M1 H locs pc ls e1 hz hd hP hS => W.zret BB.exec BB.bytes BB.returns (jl_nar hz) (fun t ht hW => ⟨⟨_, (), rfl, by rw [← e1], by show va_P D vwCl (jy_w cI cT B z.2) t.heap; rw [ht, ← e1]; exact hP⟩, hS.F ht⟩) hS.2.2 hd BB.notSynchronized) hP va_S.rf hl
end
