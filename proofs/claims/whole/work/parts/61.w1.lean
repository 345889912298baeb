/-! the law: the calls -/
section
variable {p : Program} {l : Launch} {e : Env} {s : State} {m : MethodId} {below : List Frame} {meth : Method} {c : Code} {H : Heap} {locs : List Loc} {cells slots : Nat} {Q : State → Prop} {ls : Array Slot} {D : va_G} {cI cT cZ : ClassId} {B C : Nat → Nat} {X Y : jl_Mem} {b L : Nat} {xs : Nat → Int32}
set_option maxHeartbeats 4000000 in
set_option maxRecDepth 100000 in
theorem jw_k_mark (hc : jw_Ctx p s m c b L xs D cI cT cZ B C) (hf : cells ≤ room_1.cells ∧ slots ≤ room_1.slots) {n0 m0 : Nat} (hA : jr_A n0 m0 X Y) {x3 : Int32} (hi1 : vp_in (x3 + 1) L) (hi2 : vp_in (x3 + 2) L) (hi3 : vp_in (x3 + 3) L) (hi4 : vp_in (x3 + 4) L) (hi5 : vp_in (x3 + 5) L) (hP : va_P D vwCl (jx_w cI cT B X) H) (hQ : va_P D vwCl (jy_w cI cZ C Y) H) (hS : va_S (fun q : Nat => s.heap.size ≤ q) s.heap H locs) (hl : lv_has ls 4 [(0, .ref b), (1, .ref (B 0)), (2, .ref (C 0)), (3, .int x3)])
    (kk : ∀ (n2 m2 : Nat) (X2 Y2 : jl_Mem) (H1 : Heap) (locs1 : List Loc), jr_A n2 m2 X2 Y2 → va_P D vwCl (jx_w cI cT B X2) H1 → va_P D vwCl (jy_w cI cZ C Y2) H1 → va_S (fun q : Nat => s.heap.size ≤ q) s.heap H1 locs1 → W p l e room_1 s m #[Value.ref b] below meth c H1 locs1 cells slots Q (F0 m 866 ls [])) : W p l e room_1 s m #[Value.ref b] below meth c H locs cells slots Q (F0 m 200 ls []) := by
  obtain ⟨hx, hb, hml, hown, hts, -, -, -, -, hG, hX, hbl⟩ := id hc
  have hbA : ¬ (fun q : Nat => s.heap.size ≤ q) b := Nat.not_le.mpr hbl
  obtain ⟨r, X2, Y2, n2, m2, f1, f2, hA2⟩ := jk_mark hA (xs (x3 + 1).toNatClampNeg) (xs (x3 + 2).toNatClampNeg) (xs (x3 + 3).toNatClampNeg)
  refine lv_aload_n hx hb dL_law_200 rfl (lv_at hl 1 rfl) ?_
  refine lv_aload_n hx hb dL_law_201 rfl (lv_at hl 0 rfl) ?_
  refine lv_iload_n hx hb dL_law_202 rfl (lv_at hl 3 rfl) ?_
  refine lv_iconst (v := 1) hx hb dL_law_203 (by decide) ?_
  refine lv_iadd hx hb dL_law_204 ?_
  refine va_sld hx hb hX hbl hbA hS hi1 dL_law_205 ?_
  refine lv_aload_n hx hb dL_law_206 rfl (lv_at hl 0 rfl) ?_
  refine lv_iload_n hx hb dL_law_207 rfl (lv_at hl 3 rfl) ?_
  refine lv_iconst (v := 2) hx hb dL_law_208 (by decide) ?_
  refine lv_iadd hx hb dL_law_209 ?_
  refine va_sld hx hb hX hbl hbA hS hi2 dL_law_210 ?_
  refine lv_aload_n hx hb dL_law_211 rfl (lv_at hl 0 rfl) ?_
  refine lv_iload_n hx hb dL_law_212 rfl (lv_at hl 3 rfl) ?_
  refine lv_iconst (v := 3) hx hb dL_law_213 (by decide) ?_
  refine lv_iadd hx hb dL_law_214 ?_
  refine va_sld hx hb hX hbl hbA hS hi3 dL_law_215 ?_
  refine jw_cx (As := [.int (xs (x3 + 1).toNatClampNeg), .int (xs (x3 + 2).toNatClampNeg), .int (xs (x3 + 3).toNatClampNeg)]) (rest := []) (r := r) (X2 := X2) hc (jc_X4_mark f1) (cwV 3 hts gL_law_X4_mark rfl rfl rfl (by decide +kernel) ⟨(Nat.le_of_ble_eq_true rfl), (Nat.le_of_ble_eq_true rfl)⟩) hP hQ hS rfl dL_law_216 rfl hl.1 (Nat.le_of_ble_eq_true rfl) hf (fun H locs hP hQ hS => ?_)
  refine lv_aload_n hx hb dL_law_219 rfl (lv_at hl 2 rfl) ?_
  refine lv_aload_n hx hb dL_law_220 rfl (lv_at hl 0 rfl) ?_
  refine lv_iload_n hx hb dL_law_221 rfl (lv_at hl 3 rfl) ?_
  refine lv_iconst (v := 1) hx hb dL_law_222 (by decide) ?_
  refine lv_iadd hx hb dL_law_223 ?_
  refine va_sld hx hb hX hbl hbA hS hi1 dL_law_224 ?_
  refine lv_aload_n hx hb dL_law_225 rfl (lv_at hl 0 rfl) ?_
  refine lv_iload_n hx hb dL_law_226 rfl (lv_at hl 3 rfl) ?_
  refine lv_iconst (v := 2) hx hb dL_law_227 (by decide) ?_
  refine lv_iadd hx hb dL_law_228 ?_
  refine va_sld hx hb hX hbl hbA hS hi2 dL_law_229 ?_
  refine lv_aload_n hx hb dL_law_230 rfl (lv_at hl 0 rfl) ?_
  refine lv_iload_n hx hb dL_law_231 rfl (lv_at hl 3 rfl) ?_
  refine lv_iconst (v := 3) hx hb dL_law_232 (by decide) ?_
  refine lv_iadd hx hb dL_law_233 ?_
  refine va_sld hx hb hX hbl hbA hS hi3 dL_law_234 ?_
  refine jw_cy (As := [.int (xs (x3 + 1).toNatClampNeg), .int (xs (x3 + 2).toNatClampNeg), .int (xs (x3 + 3).toNatClampNeg)]) (rest := [.int r]) (r := r) (Y2 := Y2) hc (jc_X5_mark f2) (cwV 3 hts gL_law_X5_mark rfl rfl rfl (by decide +kernel) ⟨(Nat.le_of_ble_eq_true rfl), (Nat.le_of_ble_eq_true rfl)⟩) hP hQ hS rfl dL_law_235 rfl hl.1 (Nat.le_of_ble_eq_true rfl) hf (fun H locs hP hQ hS => ?_)
  exact lv_icmp_eq (tgt := 866) hx hb dL_law_238 (by decide) (fun _ => kk n2 m2 X2 Y2 H locs hA2 hP hQ hS) (fun h => absurd rfl h)
set_option maxHeartbeats 4000000 in
set_option maxRecDepth 100000 in
theorem jw_k_unmark (hc : jw_Ctx p s m c b L xs D cI cT cZ B C) (hf : cells ≤ room_1.cells ∧ slots ≤ room_1.slots) {n0 m0 : Nat} (hA : jr_A n0 m0 X Y) {x3 : Int32} (hi1 : vp_in (x3 + 1) L) (hi2 : vp_in (x3 + 2) L) (hi3 : vp_in (x3 + 3) L) (hi4 : vp_in (x3 + 4) L) (hi5 : vp_in (x3 + 5) L) (hP : va_P D vwCl (jx_w cI cT B X) H) (hQ : va_P D vwCl (jy_w cI cZ C Y) H) (hS : va_S (fun q : Nat => s.heap.size ≤ q) s.heap H locs) (hl : lv_has ls 4 [(0, .ref b), (1, .ref (B 0)), (2, .ref (C 0)), (3, .int x3)])
    (kk : ∀ (n2 m2 : Nat) (X2 Y2 : jl_Mem) (H1 : Heap) (locs1 : List Loc), jr_A n2 m2 X2 Y2 → va_P D vwCl (jx_w cI cT B X2) H1 → va_P D vwCl (jy_w cI cZ C Y2) H1 → va_S (fun q : Nat => s.heap.size ≤ q) s.heap H1 locs1 → W p l e room_1 s m #[Value.ref b] below meth c H1 locs1 cells slots Q (F0 m 866 ls [])) : W p l e room_1 s m #[Value.ref b] below meth c H locs cells slots Q (F0 m 243 ls []) := by
  obtain ⟨hx, hb, hml, hown, hts, -, -, -, -, hG, hX, hbl⟩ := id hc
  have hbA : ¬ (fun q : Nat => s.heap.size ≤ q) b := Nat.not_le.mpr hbl
  obtain ⟨r, X2, Y2, n2, m2, f1, f2, hA2⟩ := jk_unmark hA (xs (x3 + 1).toNatClampNeg) (xs (x3 + 2).toNatClampNeg)
  refine lv_aload_n hx hb dL_law_243 rfl (lv_at hl 1 rfl) ?_
  refine lv_aload_n hx hb dL_law_244 rfl (lv_at hl 0 rfl) ?_
  refine lv_iload_n hx hb dL_law_245 rfl (lv_at hl 3 rfl) ?_
  refine lv_iconst (v := 1) hx hb dL_law_246 (by decide) ?_
  refine lv_iadd hx hb dL_law_247 ?_
  refine va_sld hx hb hX hbl hbA hS hi1 dL_law_248 ?_
  refine lv_aload_n hx hb dL_law_249 rfl (lv_at hl 0 rfl) ?_
  refine lv_iload_n hx hb dL_law_250 rfl (lv_at hl 3 rfl) ?_
  refine lv_iconst (v := 2) hx hb dL_law_251 (by decide) ?_
  refine lv_iadd hx hb dL_law_252 ?_
  refine va_sld hx hb hX hbl hbA hS hi2 dL_law_253 ?_
  refine jw_cx (As := [.int (xs (x3 + 1).toNatClampNeg), .int (xs (x3 + 2).toNatClampNeg)]) (rest := []) (r := r) (X2 := X2) hc (jc_X4_unmark f1) (cwV 2 hts gL_law_X4_unmark rfl rfl rfl (by decide +kernel) ⟨(Nat.le_of_ble_eq_true rfl), (Nat.le_of_ble_eq_true rfl)⟩) hP hQ hS rfl dL_law_254 rfl hl.1 (Nat.le_of_ble_eq_true rfl) hf (fun H locs hP hQ hS => ?_)
  refine lv_aload_n hx hb dL_law_257 rfl (lv_at hl 2 rfl) ?_
  refine lv_aload_n hx hb dL_law_258 rfl (lv_at hl 0 rfl) ?_
  refine lv_iload_n hx hb dL_law_259 rfl (lv_at hl 3 rfl) ?_
  refine lv_iconst (v := 1) hx hb dL_law_260 (by decide) ?_
  refine lv_iadd hx hb dL_law_261 ?_
  refine va_sld hx hb hX hbl hbA hS hi1 dL_law_262 ?_
  refine lv_aload_n hx hb dL_law_263 rfl (lv_at hl 0 rfl) ?_
  refine lv_iload_n hx hb dL_law_264 rfl (lv_at hl 3 rfl) ?_
  refine lv_iconst (v := 2) hx hb dL_law_265 (by decide) ?_
  refine lv_iadd hx hb dL_law_266 ?_
  refine va_sld hx hb hX hbl hbA hS hi2 dL_law_267 ?_
  refine jw_cy (As := [.int (xs (x3 + 1).toNatClampNeg), .int (xs (x3 + 2).toNatClampNeg)]) (rest := [.int r]) (r := r) (Y2 := Y2) hc (jc_X5_unmark f2) (cwV 2 hts gL_law_X5_unmark rfl rfl rfl (by decide +kernel) ⟨(Nat.le_of_ble_eq_true rfl), (Nat.le_of_ble_eq_true rfl)⟩) hP hQ hS rfl dL_law_268 rfl hl.1 (Nat.le_of_ble_eq_true rfl) hf (fun H locs hP hQ hS => ?_)
  exact lv_icmp_eq (tgt := 866) hx hb dL_law_271 (by decide) (fun _ => kk n2 m2 X2 Y2 H locs hA2 hP hQ hS) (fun h => absurd rfl h)
set_option maxHeartbeats 4000000 in
set_option maxRecDepth 100000 in
theorem jw_k_weigh (hc : jw_Ctx p s m c b L xs D cI cT cZ B C) (hf : cells ≤ room_1.cells ∧ slots ≤ room_1.slots) {n0 m0 : Nat} (hA : jr_A n0 m0 X Y) {x3 : Int32} (hi1 : vp_in (x3 + 1) L) (hi2 : vp_in (x3 + 2) L) (hi3 : vp_in (x3 + 3) L) (hi4 : vp_in (x3 + 4) L) (hi5 : vp_in (x3 + 5) L) (hP : va_P D vwCl (jx_w cI cT B X) H) (hQ : va_P D vwCl (jy_w cI cZ C Y) H) (hS : va_S (fun q : Nat => s.heap.size ≤ q) s.heap H locs) (hl : lv_has ls 4 [(0, .ref b), (1, .ref (B 0)), (2, .ref (C 0)), (3, .int x3)])
    (kk : ∀ (n2 m2 : Nat) (X2 Y2 : jl_Mem) (H1 : Heap) (locs1 : List Loc), jr_A n2 m2 X2 Y2 → va_P D vwCl (jx_w cI cT B X2) H1 → va_P D vwCl (jy_w cI cZ C Y2) H1 → va_S (fun q : Nat => s.heap.size ≤ q) s.heap H1 locs1 → W p l e room_1 s m #[Value.ref b] below meth c H1 locs1 cells slots Q (F0 m 866 ls [])) : W p l e room_1 s m #[Value.ref b] below meth c H locs cells slots Q (F0 m 276 ls []) := by
  obtain ⟨hx, hb, hml, hown, hts, -, -, -, -, hG, hX, hbl⟩ := id hc
  have hbA : ¬ (fun q : Nat => s.heap.size ≤ q) b := Nat.not_le.mpr hbl
  obtain ⟨r, X2, Y2, n2, m2, f1, f2, hA2⟩ := jk_weigh hA (xs (x3 + 1).toNatClampNeg) (xs (x3 + 2).toNatClampNeg)
  refine lv_aload_n hx hb dL_law_276 rfl (lv_at hl 1 rfl) ?_
  refine lv_aload_n hx hb dL_law_277 rfl (lv_at hl 0 rfl) ?_
  refine lv_iload_n hx hb dL_law_278 rfl (lv_at hl 3 rfl) ?_
  refine lv_iconst (v := 1) hx hb dL_law_279 (by decide) ?_
  refine lv_iadd hx hb dL_law_280 ?_
  refine va_sld hx hb hX hbl hbA hS hi1 dL_law_281 ?_
  refine lv_aload_n hx hb dL_law_282 rfl (lv_at hl 0 rfl) ?_
  refine lv_iload_n hx hb dL_law_283 rfl (lv_at hl 3 rfl) ?_
  refine lv_iconst (v := 2) hx hb dL_law_284 (by decide) ?_
  refine lv_iadd hx hb dL_law_285 ?_
  refine va_sld hx hb hX hbl hbA hS hi2 dL_law_286 ?_
  refine jw_cx (As := [.int (xs (x3 + 1).toNatClampNeg), .int (xs (x3 + 2).toNatClampNeg)]) (rest := []) (r := r) (X2 := X2) hc (jc_X4_weigh f1) (cwV 2 hts gL_law_X4_weigh rfl rfl rfl (by decide +kernel) ⟨(Nat.le_of_ble_eq_true rfl), (Nat.le_of_ble_eq_true rfl)⟩) hP hQ hS rfl dL_law_287 rfl hl.1 (Nat.le_of_ble_eq_true rfl) hf (fun H locs hP hQ hS => ?_)
  refine lv_aload_n hx hb dL_law_290 rfl (lv_at hl 2 rfl) ?_
  refine lv_aload_n hx hb dL_law_291 rfl (lv_at hl 0 rfl) ?_
  refine lv_iload_n hx hb dL_law_292 rfl (lv_at hl 3 rfl) ?_
  refine lv_iconst (v := 1) hx hb dL_law_293 (by decide) ?_
  refine lv_iadd hx hb dL_law_294 ?_
  refine va_sld hx hb hX hbl hbA hS hi1 dL_law_295 ?_
  refine lv_aload_n hx hb dL_law_296 rfl (lv_at hl 0 rfl) ?_
  refine lv_iload_n hx hb dL_law_297 rfl (lv_at hl 3 rfl) ?_
  refine lv_iconst (v := 2) hx hb dL_law_298 (by decide) ?_
  refine lv_iadd hx hb dL_law_299 ?_
  refine va_sld hx hb hX hbl hbA hS hi2 dL_law_300 ?_
  refine jw_cy (As := [.int (xs (x3 + 1).toNatClampNeg), .int (xs (x3 + 2).toNatClampNeg)]) (rest := [.int r]) (r := r) (Y2 := Y2) hc (jc_X5_weigh f2) (cwV 2 hts gL_law_X5_weigh rfl rfl rfl (by decide +kernel) ⟨(Nat.le_of_ble_eq_true rfl), (Nat.le_of_ble_eq_true rfl)⟩) hP hQ hS rfl dL_law_301 rfl hl.1 (Nat.le_of_ble_eq_true rfl) hf (fun H locs hP hQ hS => ?_)
  exact lv_icmp_eq (tgt := 866) hx hb dL_law_304 (by decide) (fun _ => kk n2 m2 X2 Y2 H locs hA2 hP hQ hS) (fun h => absurd rfl h)
set_option maxHeartbeats 4000000 in
set_option maxRecDepth 100000 in
theorem jw_k_rule (hc : jw_Ctx p s m c b L xs D cI cT cZ B C) (hf : cells ≤ room_1.cells ∧ slots ≤ room_1.slots) {n0 m0 : Nat} (hA : jr_A n0 m0 X Y) {x3 : Int32} (hi1 : vp_in (x3 + 1) L) (hi2 : vp_in (x3 + 2) L) (hi3 : vp_in (x3 + 3) L) (hi4 : vp_in (x3 + 4) L) (hi5 : vp_in (x3 + 5) L) (hP : va_P D vwCl (jx_w cI cT B X) H) (hQ : va_P D vwCl (jy_w cI cZ C Y) H) (hS : va_S (fun q : Nat => s.heap.size ≤ q) s.heap H locs) (hl : lv_has ls 4 [(0, .ref b), (1, .ref (B 0)), (2, .ref (C 0)), (3, .int x3)])
    (kk : ∀ (n2 m2 : Nat) (X2 Y2 : jl_Mem) (H1 : Heap) (locs1 : List Loc), jr_A n2 m2 X2 Y2 → va_P D vwCl (jx_w cI cT B X2) H1 → va_P D vwCl (jy_w cI cZ C Y2) H1 → va_S (fun q : Nat => s.heap.size ≤ q) s.heap H1 locs1 → W p l e room_1 s m #[Value.ref b] below meth c H1 locs1 cells slots Q (F0 m 866 ls [])) : W p l e room_1 s m #[Value.ref b] below meth c H locs cells slots Q (F0 m 309 ls []) := by
  obtain ⟨hx, hb, hml, hown, hts, -, -, -, -, hG, hX, hbl⟩ := id hc
  have hbA : ¬ (fun q : Nat => s.heap.size ≤ q) b := Nat.not_le.mpr hbl
  obtain ⟨r, X2, Y2, n2, m2, f1, f2, hA2⟩ := jk_rule hA (xs (x3 + 1).toNatClampNeg)
  refine lv_aload_n hx hb dL_law_309 rfl (lv_at hl 1 rfl) ?_
  refine lv_aload_n hx hb dL_law_310 rfl (lv_at hl 0 rfl) ?_
  refine lv_iload_n hx hb dL_law_311 rfl (lv_at hl 3 rfl) ?_
  refine lv_iconst (v := 1) hx hb dL_law_312 (by decide) ?_
  refine lv_iadd hx hb dL_law_313 ?_
  refine va_sld hx hb hX hbl hbA hS hi1 dL_law_314 ?_
  refine jw_cx (As := [.int (xs (x3 + 1).toNatClampNeg)]) (rest := []) (r := r) (X2 := X2) hc (jc_X4_rule f1) (cwV 1 hts gL_law_X4_rule rfl rfl rfl (by decide +kernel) ⟨(Nat.le_of_ble_eq_true rfl), (Nat.le_of_ble_eq_true rfl)⟩) hP hQ hS rfl dL_law_315 rfl hl.1 (Nat.le_of_ble_eq_true rfl) hf (fun H locs hP hQ hS => ?_)
  refine lv_aload_n hx hb dL_law_318 rfl (lv_at hl 2 rfl) ?_
  refine lv_aload_n hx hb dL_law_319 rfl (lv_at hl 0 rfl) ?_
  refine lv_iload_n hx hb dL_law_320 rfl (lv_at hl 3 rfl) ?_
  refine lv_iconst (v := 1) hx hb dL_law_321 (by decide) ?_
  refine lv_iadd hx hb dL_law_322 ?_
  refine va_sld hx hb hX hbl hbA hS hi1 dL_law_323 ?_
  refine jw_cy (As := [.int (xs (x3 + 1).toNatClampNeg)]) (rest := [.int r]) (r := r) (Y2 := Y2) hc (jc_X5_rule f2) (cwV 1 hts gL_law_X5_rule rfl rfl rfl (by decide +kernel) ⟨(Nat.le_of_ble_eq_true rfl), (Nat.le_of_ble_eq_true rfl)⟩) hP hQ hS rfl dL_law_324 rfl hl.1 (Nat.le_of_ble_eq_true rfl) hf (fun H locs hP hQ hS => ?_)
  exact lv_icmp_eq (tgt := 866) hx hb dL_law_327 (by decide) (fun _ => kk n2 m2 X2 Y2 H locs hA2 hP hQ hS) (fun h => absurd rfl h)
set_option maxHeartbeats 4000000 in
set_option maxRecDepth 100000 in
theorem jw_k_about (hc : jw_Ctx p s m c b L xs D cI cT cZ B C) (hf : cells ≤ room_1.cells ∧ slots ≤ room_1.slots) {n0 m0 : Nat} (hA : jr_A n0 m0 X Y) {x3 : Int32} (hi1 : vp_in (x3 + 1) L) (hi2 : vp_in (x3 + 2) L) (hi3 : vp_in (x3 + 3) L) (hi4 : vp_in (x3 + 4) L) (hi5 : vp_in (x3 + 5) L) (hP : va_P D vwCl (jx_w cI cT B X) H) (hQ : va_P D vwCl (jy_w cI cZ C Y) H) (hS : va_S (fun q : Nat => s.heap.size ≤ q) s.heap H locs) (hl : lv_has ls 4 [(0, .ref b), (1, .ref (B 0)), (2, .ref (C 0)), (3, .int x3)])
    (kk : ∀ (n2 m2 : Nat) (X2 Y2 : jl_Mem) (H1 : Heap) (locs1 : List Loc), jr_A n2 m2 X2 Y2 → va_P D vwCl (jx_w cI cT B X2) H1 → va_P D vwCl (jy_w cI cZ C Y2) H1 → va_S (fun q : Nat => s.heap.size ≤ q) s.heap H1 locs1 → W p l e room_1 s m #[Value.ref b] below meth c H1 locs1 cells slots Q (F0 m 866 ls [])) : W p l e room_1 s m #[Value.ref b] below meth c H locs cells slots Q (F0 m 332 ls []) := by
  obtain ⟨hx, hb, hml, hown, hts, -, -, -, -, hG, hX, hbl⟩ := id hc
  have hbA : ¬ (fun q : Nat => s.heap.size ≤ q) b := Nat.not_le.mpr hbl
  obtain ⟨r, X2, Y2, n2, m2, f1, f2, hA2⟩ := jk_about hA (xs (x3 + 1).toNatClampNeg) (xs (x3 + 2).toNatClampNeg)
  refine lv_aload_n hx hb dL_law_332 rfl (lv_at hl 1 rfl) ?_
  refine lv_aload_n hx hb dL_law_333 rfl (lv_at hl 0 rfl) ?_
  refine lv_iload_n hx hb dL_law_334 rfl (lv_at hl 3 rfl) ?_
  refine lv_iconst (v := 1) hx hb dL_law_335 (by decide) ?_
  refine lv_iadd hx hb dL_law_336 ?_
  refine va_sld hx hb hX hbl hbA hS hi1 dL_law_337 ?_
  refine lv_aload_n hx hb dL_law_338 rfl (lv_at hl 0 rfl) ?_
  refine lv_iload_n hx hb dL_law_339 rfl (lv_at hl 3 rfl) ?_
  refine lv_iconst (v := 2) hx hb dL_law_340 (by decide) ?_
  refine lv_iadd hx hb dL_law_341 ?_
  refine va_sld hx hb hX hbl hbA hS hi2 dL_law_342 ?_
  refine jw_cx (As := [.int (xs (x3 + 1).toNatClampNeg), .int (xs (x3 + 2).toNatClampNeg)]) (rest := []) (r := r) (X2 := X2) hc (jc_X4_about f1) (cwV 2 hts gL_law_X4_about rfl rfl rfl (by decide +kernel) ⟨(Nat.le_of_ble_eq_true rfl), (Nat.le_of_ble_eq_true rfl)⟩) hP hQ hS rfl dL_law_343 rfl hl.1 (Nat.le_of_ble_eq_true rfl) hf (fun H locs hP hQ hS => ?_)
  refine lv_aload_n hx hb dL_law_346 rfl (lv_at hl 2 rfl) ?_
  refine lv_aload_n hx hb dL_law_347 rfl (lv_at hl 0 rfl) ?_
  refine lv_iload_n hx hb dL_law_348 rfl (lv_at hl 3 rfl) ?_
  refine lv_iconst (v := 1) hx hb dL_law_349 (by decide) ?_
  refine lv_iadd hx hb dL_law_350 ?_
  refine va_sld hx hb hX hbl hbA hS hi1 dL_law_351 ?_
  refine lv_aload_n hx hb dL_law_352 rfl (lv_at hl 0 rfl) ?_
  refine lv_iload_n hx hb dL_law_353 rfl (lv_at hl 3 rfl) ?_
  refine lv_iconst (v := 2) hx hb dL_law_354 (by decide) ?_
  refine lv_iadd hx hb dL_law_355 ?_
  refine va_sld hx hb hX hbl hbA hS hi2 dL_law_356 ?_
  refine jw_cy (As := [.int (xs (x3 + 1).toNatClampNeg), .int (xs (x3 + 2).toNatClampNeg)]) (rest := [.int r]) (r := r) (Y2 := Y2) hc (jc_X5_about f2) (cwV 2 hts gL_law_X5_about rfl rfl rfl (by decide +kernel) ⟨(Nat.le_of_ble_eq_true rfl), (Nat.le_of_ble_eq_true rfl)⟩) hP hQ hS rfl dL_law_357 rfl hl.1 (Nat.le_of_ble_eq_true rfl) hf (fun H locs hP hQ hS => ?_)
  exact lv_icmp_eq (tgt := 866) hx hb dL_law_360 (by decide) (fun _ => kk n2 m2 X2 Y2 H locs hA2 hP hQ hS) (fun h => absurd rfl h)
set_option maxHeartbeats 4000000 in
set_option maxRecDepth 100000 in
theorem jw_k_row (hc : jw_Ctx p s m c b L xs D cI cT cZ B C) (hf : cells ≤ room_1.cells ∧ slots ≤ room_1.slots) {n0 m0 : Nat} (hA : jr_A n0 m0 X Y) {x3 : Int32} (hi1 : vp_in (x3 + 1) L) (hi2 : vp_in (x3 + 2) L) (hi3 : vp_in (x3 + 3) L) (hi4 : vp_in (x3 + 4) L) (hi5 : vp_in (x3 + 5) L) (hP : va_P D vwCl (jx_w cI cT B X) H) (hQ : va_P D vwCl (jy_w cI cZ C Y) H) (hS : va_S (fun q : Nat => s.heap.size ≤ q) s.heap H locs) (hl : lv_has ls 4 [(0, .ref b), (1, .ref (B 0)), (2, .ref (C 0)), (3, .int x3)])
    (kk : ∀ (n2 m2 : Nat) (X2 Y2 : jl_Mem) (H1 : Heap) (locs1 : List Loc), jr_A n2 m2 X2 Y2 → va_P D vwCl (jx_w cI cT B X2) H1 → va_P D vwCl (jy_w cI cZ C Y2) H1 → va_S (fun q : Nat => s.heap.size ≤ q) s.heap H1 locs1 → W p l e room_1 s m #[Value.ref b] below meth c H1 locs1 cells slots Q (F0 m 866 ls [])) : W p l e room_1 s m #[Value.ref b] below meth c H locs cells slots Q (F0 m 365 ls []) := by
  obtain ⟨hx, hb, hml, hown, hts, -, -, -, -, hG, hX, hbl⟩ := id hc
  have hbA : ¬ (fun q : Nat => s.heap.size ≤ q) b := Nat.not_le.mpr hbl
  obtain ⟨r, X2, Y2, n2, m2, f1, f2, hA2⟩ := jk_row hA (xs (x3 + 1).toNatClampNeg) (xs (x3 + 2).toNatClampNeg)
  refine lv_aload_n hx hb dL_law_365 rfl (lv_at hl 1 rfl) ?_
  refine lv_aload_n hx hb dL_law_366 rfl (lv_at hl 0 rfl) ?_
  refine lv_iload_n hx hb dL_law_367 rfl (lv_at hl 3 rfl) ?_
  refine lv_iconst (v := 1) hx hb dL_law_368 (by decide) ?_
  refine lv_iadd hx hb dL_law_369 ?_
  refine va_sld hx hb hX hbl hbA hS hi1 dL_law_370 ?_
  refine lv_aload_n hx hb dL_law_371 rfl (lv_at hl 0 rfl) ?_
  refine lv_iload_n hx hb dL_law_372 rfl (lv_at hl 3 rfl) ?_
  refine lv_iconst (v := 2) hx hb dL_law_373 (by decide) ?_
  refine lv_iadd hx hb dL_law_374 ?_
  refine va_sld hx hb hX hbl hbA hS hi2 dL_law_375 ?_
  refine jw_cx (As := [.int (xs (x3 + 1).toNatClampNeg), .int (xs (x3 + 2).toNatClampNeg)]) (rest := []) (r := r) (X2 := X2) hc (jc_X4_row f1) (cwV 2 hts gL_law_X4_row rfl rfl rfl (by decide +kernel) ⟨(Nat.le_of_ble_eq_true rfl), (Nat.le_of_ble_eq_true rfl)⟩) hP hQ hS rfl dL_law_376 rfl hl.1 (Nat.le_of_ble_eq_true rfl) hf (fun H locs hP hQ hS => ?_)
  refine lv_aload_n hx hb dL_law_379 rfl (lv_at hl 2 rfl) ?_
  refine lv_aload_n hx hb dL_law_380 rfl (lv_at hl 0 rfl) ?_
  refine lv_iload_n hx hb dL_law_381 rfl (lv_at hl 3 rfl) ?_
  refine lv_iconst (v := 1) hx hb dL_law_382 (by decide) ?_
  refine lv_iadd hx hb dL_law_383 ?_
  refine va_sld hx hb hX hbl hbA hS hi1 dL_law_384 ?_
  refine lv_aload_n hx hb dL_law_385 rfl (lv_at hl 0 rfl) ?_
  refine lv_iload_n hx hb dL_law_386 rfl (lv_at hl 3 rfl) ?_
  refine lv_iconst (v := 2) hx hb dL_law_387 (by decide) ?_
  refine lv_iadd hx hb dL_law_388 ?_
  refine va_sld hx hb hX hbl hbA hS hi2 dL_law_389 ?_
  refine jw_cy (As := [.int (xs (x3 + 1).toNatClampNeg), .int (xs (x3 + 2).toNatClampNeg)]) (rest := [.int r]) (r := r) (Y2 := Y2) hc (jc_X5_row f2) (cwV 2 hts gL_law_X5_row rfl rfl rfl (by decide +kernel) ⟨(Nat.le_of_ble_eq_true rfl), (Nat.le_of_ble_eq_true rfl)⟩) hP hQ hS rfl dL_law_390 rfl hl.1 (Nat.le_of_ble_eq_true rfl) hf (fun H locs hP hQ hS => ?_)
  exact lv_icmp_eq (tgt := 866) hx hb dL_law_393 (by decide) (fun _ => kk n2 m2 X2 Y2 H locs hA2 hP hQ hS) (fun h => absurd rfl h)
set_option maxHeartbeats 4000000 in
set_option maxRecDepth 100000 in
theorem jw_k_place (hc : jw_Ctx p s m c b L xs D cI cT cZ B C) (hf : cells ≤ room_1.cells ∧ slots ≤ room_1.slots) {n0 m0 : Nat} (hA : jr_A n0 m0 X Y) {x3 : Int32} (hi1 : vp_in (x3 + 1) L) (hi2 : vp_in (x3 + 2) L) (hi3 : vp_in (x3 + 3) L) (hi4 : vp_in (x3 + 4) L) (hi5 : vp_in (x3 + 5) L) (hP : va_P D vwCl (jx_w cI cT B X) H) (hQ : va_P D vwCl (jy_w cI cZ C Y) H) (hS : va_S (fun q : Nat => s.heap.size ≤ q) s.heap H locs) (hl : lv_has ls 4 [(0, .ref b), (1, .ref (B 0)), (2, .ref (C 0)), (3, .int x3)])
    (kk : ∀ (n2 m2 : Nat) (X2 Y2 : jl_Mem) (H1 : Heap) (locs1 : List Loc), jr_A n2 m2 X2 Y2 → va_P D vwCl (jx_w cI cT B X2) H1 → va_P D vwCl (jy_w cI cZ C Y2) H1 → va_S (fun q : Nat => s.heap.size ≤ q) s.heap H1 locs1 → W p l e room_1 s m #[Value.ref b] below meth c H1 locs1 cells slots Q (F0 m 866 ls [])) : W p l e room_1 s m #[Value.ref b] below meth c H locs cells slots Q (F0 m 398 ls []) := by
  obtain ⟨hx, hb, hml, hown, hts, -, -, -, -, hG, hX, hbl⟩ := id hc
  have hbA : ¬ (fun q : Nat => s.heap.size ≤ q) b := Nat.not_le.mpr hbl
  obtain ⟨r, X2, Y2, n2, m2, f1, f2, hA2⟩ := jk_place hA (xs (x3 + 1).toNatClampNeg) (xs (x3 + 2).toNatClampNeg) (xs (x3 + 3).toNatClampNeg)
  refine lv_aload_n hx hb dL_law_398 rfl (lv_at hl 1 rfl) ?_
  refine lv_aload_n hx hb dL_law_399 rfl (lv_at hl 0 rfl) ?_
  refine lv_iload_n hx hb dL_law_400 rfl (lv_at hl 3 rfl) ?_
  refine lv_iconst (v := 1) hx hb dL_law_401 (by decide) ?_
  refine lv_iadd hx hb dL_law_402 ?_
  refine va_sld hx hb hX hbl hbA hS hi1 dL_law_403 ?_
  refine lv_aload_n hx hb dL_law_404 rfl (lv_at hl 0 rfl) ?_
  refine lv_iload_n hx hb dL_law_405 rfl (lv_at hl 3 rfl) ?_
  refine lv_iconst (v := 2) hx hb dL_law_406 (by decide) ?_
  refine lv_iadd hx hb dL_law_407 ?_
  refine va_sld hx hb hX hbl hbA hS hi2 dL_law_408 ?_
  refine lv_aload_n hx hb dL_law_409 rfl (lv_at hl 0 rfl) ?_
  refine lv_iload_n hx hb dL_law_410 rfl (lv_at hl 3 rfl) ?_
  refine lv_iconst (v := 3) hx hb dL_law_411 (by decide) ?_
  refine lv_iadd hx hb dL_law_412 ?_
  refine va_sld hx hb hX hbl hbA hS hi3 dL_law_413 ?_
  refine jw_cx (As := [.int (xs (x3 + 1).toNatClampNeg), .int (xs (x3 + 2).toNatClampNeg), .int (xs (x3 + 3).toNatClampNeg)]) (rest := []) (r := r) (X2 := X2) hc (jc_X4_place f1) (cwV 3 hts gL_law_X4_place rfl rfl rfl (by decide +kernel) ⟨(Nat.le_of_ble_eq_true rfl), (Nat.le_of_ble_eq_true rfl)⟩) hP hQ hS rfl dL_law_414 rfl hl.1 (Nat.le_of_ble_eq_true rfl) hf (fun H locs hP hQ hS => ?_)
  refine lv_aload_n hx hb dL_law_417 rfl (lv_at hl 2 rfl) ?_
  refine lv_aload_n hx hb dL_law_418 rfl (lv_at hl 0 rfl) ?_
  refine lv_iload_n hx hb dL_law_419 rfl (lv_at hl 3 rfl) ?_
  refine lv_iconst (v := 1) hx hb dL_law_420 (by decide) ?_
  refine lv_iadd hx hb dL_law_421 ?_
  refine va_sld hx hb hX hbl hbA hS hi1 dL_law_422 ?_
  refine lv_aload_n hx hb dL_law_423 rfl (lv_at hl 0 rfl) ?_
  refine lv_iload_n hx hb dL_law_424 rfl (lv_at hl 3 rfl) ?_
  refine lv_iconst (v := 2) hx hb dL_law_425 (by decide) ?_
  refine lv_iadd hx hb dL_law_426 ?_
  refine va_sld hx hb hX hbl hbA hS hi2 dL_law_427 ?_
  refine lv_aload_n hx hb dL_law_428 rfl (lv_at hl 0 rfl) ?_
  refine lv_iload_n hx hb dL_law_429 rfl (lv_at hl 3 rfl) ?_
  refine lv_iconst (v := 3) hx hb dL_law_430 (by decide) ?_
  refine lv_iadd hx hb dL_law_431 ?_
  refine va_sld hx hb hX hbl hbA hS hi3 dL_law_432 ?_
  refine jw_cy (As := [.int (xs (x3 + 1).toNatClampNeg), .int (xs (x3 + 2).toNatClampNeg), .int (xs (x3 + 3).toNatClampNeg)]) (rest := [.int r]) (r := r) (Y2 := Y2) hc (jc_X5_place f2) (cwV 3 hts gL_law_X5_place rfl rfl rfl (by decide +kernel) ⟨(Nat.le_of_ble_eq_true rfl), (Nat.le_of_ble_eq_true rfl)⟩) hP hQ hS rfl dL_law_433 rfl hl.1 (Nat.le_of_ble_eq_true rfl) hf (fun H locs hP hQ hS => ?_)
  exact lv_icmp_eq (tgt := 866) hx hb dL_law_436 (by decide) (fun _ => kk n2 m2 X2 Y2 H locs hA2 hP hQ hS) (fun h => absurd rfl h)
set_option maxHeartbeats 4000000 in
set_option maxRecDepth 100000 in
theorem jw_k_total (hc : jw_Ctx p s m c b L xs D cI cT cZ B C) (hf : cells ≤ room_1.cells ∧ slots ≤ room_1.slots) {n0 m0 : Nat} (hA : jr_A n0 m0 X Y) {x3 : Int32} (hi1 : vp_in (x3 + 1) L) (hi2 : vp_in (x3 + 2) L) (hi3 : vp_in (x3 + 3) L) (hi4 : vp_in (x3 + 4) L) (hi5 : vp_in (x3 + 5) L) (hP : va_P D vwCl (jx_w cI cT B X) H) (hQ : va_P D vwCl (jy_w cI cZ C Y) H) (hS : va_S (fun q : Nat => s.heap.size ≤ q) s.heap H locs) (hl : lv_has ls 4 [(0, .ref b), (1, .ref (B 0)), (2, .ref (C 0)), (3, .int x3)])
    (kk : ∀ (n2 m2 : Nat) (X2 Y2 : jl_Mem) (H1 : Heap) (locs1 : List Loc), jr_A n2 m2 X2 Y2 → va_P D vwCl (jx_w cI cT B X2) H1 → va_P D vwCl (jy_w cI cZ C Y2) H1 → va_S (fun q : Nat => s.heap.size ≤ q) s.heap H1 locs1 → W p l e room_1 s m #[Value.ref b] below meth c H1 locs1 cells slots Q (F0 m 866 ls [])) : W p l e room_1 s m #[Value.ref b] below meth c H locs cells slots Q (F0 m 441 ls []) := by
  obtain ⟨hx, hb, hml, hown, hts, -, -, -, -, hG, hX, hbl⟩ := id hc
  have hbA : ¬ (fun q : Nat => s.heap.size ≤ q) b := Nat.not_le.mpr hbl
  obtain ⟨r, X2, Y2, n2, m2, f1, f2, hA2⟩ := jk_total hA (xs (x3 + 1).toNatClampNeg)
  refine lv_aload_n hx hb dL_law_441 rfl (lv_at hl 1 rfl) ?_
  refine lv_aload_n hx hb dL_law_442 rfl (lv_at hl 0 rfl) ?_
  refine lv_iload_n hx hb dL_law_443 rfl (lv_at hl 3 rfl) ?_
  refine lv_iconst (v := 1) hx hb dL_law_444 (by decide) ?_
  refine lv_iadd hx hb dL_law_445 ?_
  refine va_sld hx hb hX hbl hbA hS hi1 dL_law_446 ?_
  refine jw_cx (As := [.int (xs (x3 + 1).toNatClampNeg)]) (rest := []) (r := r) (X2 := X2) hc (jc_X4_total f1) (cwV 1 hts gL_law_X4_total rfl rfl rfl (by decide +kernel) ⟨(Nat.le_of_ble_eq_true rfl), (Nat.le_of_ble_eq_true rfl)⟩) hP hQ hS rfl dL_law_447 rfl hl.1 (Nat.le_of_ble_eq_true rfl) hf (fun H locs hP hQ hS => ?_)
  refine lv_aload_n hx hb dL_law_450 rfl (lv_at hl 2 rfl) ?_
  refine lv_aload_n hx hb dL_law_451 rfl (lv_at hl 0 rfl) ?_
  refine lv_iload_n hx hb dL_law_452 rfl (lv_at hl 3 rfl) ?_
  refine lv_iconst (v := 1) hx hb dL_law_453 (by decide) ?_
  refine lv_iadd hx hb dL_law_454 ?_
  refine va_sld hx hb hX hbl hbA hS hi1 dL_law_455 ?_
  refine jw_cy (As := [.int (xs (x3 + 1).toNatClampNeg)]) (rest := [.int r]) (r := r) (Y2 := Y2) hc (jc_X5_total f2) (cwV 1 hts gL_law_X5_total rfl rfl rfl (by decide +kernel) ⟨(Nat.le_of_ble_eq_true rfl), (Nat.le_of_ble_eq_true rfl)⟩) hP hQ hS rfl dL_law_456 rfl hl.1 (Nat.le_of_ble_eq_true rfl) hf (fun H locs hP hQ hS => ?_)
  exact lv_icmp_eq (tgt := 866) hx hb dL_law_459 (by decide) (fun _ => kk n2 m2 X2 Y2 H locs hA2 hP hQ hS) (fun h => absurd rfl h)
set_option maxHeartbeats 4000000 in
set_option maxRecDepth 100000 in
theorem jw_k_best (hc : jw_Ctx p s m c b L xs D cI cT cZ B C) (hf : cells ≤ room_1.cells ∧ slots ≤ room_1.slots) {n0 m0 : Nat} (hA : jr_A n0 m0 X Y) {x3 : Int32} (hi1 : vp_in (x3 + 1) L) (hi2 : vp_in (x3 + 2) L) (hi3 : vp_in (x3 + 3) L) (hi4 : vp_in (x3 + 4) L) (hi5 : vp_in (x3 + 5) L) (hP : va_P D vwCl (jx_w cI cT B X) H) (hQ : va_P D vwCl (jy_w cI cZ C Y) H) (hS : va_S (fun q : Nat => s.heap.size ≤ q) s.heap H locs) (hl : lv_has ls 4 [(0, .ref b), (1, .ref (B 0)), (2, .ref (C 0)), (3, .int x3)])
    (kk : ∀ (n2 m2 : Nat) (X2 Y2 : jl_Mem) (H1 : Heap) (locs1 : List Loc), jr_A n2 m2 X2 Y2 → va_P D vwCl (jx_w cI cT B X2) H1 → va_P D vwCl (jy_w cI cZ C Y2) H1 → va_S (fun q : Nat => s.heap.size ≤ q) s.heap H1 locs1 → W p l e room_1 s m #[Value.ref b] below meth c H1 locs1 cells slots Q (F0 m 866 ls [])) : W p l e room_1 s m #[Value.ref b] below meth c H locs cells slots Q (F0 m 464 ls []) := by
  obtain ⟨hx, hb, hml, hown, hts, -, -, -, -, hG, hX, hbl⟩ := id hc
  have hbA : ¬ (fun q : Nat => s.heap.size ≤ q) b := Nat.not_le.mpr hbl
  obtain ⟨r, X2, Y2, n2, m2, f1, f2, hA2⟩ := jk_best hA (xs (x3 + 1).toNatClampNeg)
  refine lv_aload_n hx hb dL_law_464 rfl (lv_at hl 1 rfl) ?_
  refine lv_aload_n hx hb dL_law_465 rfl (lv_at hl 0 rfl) ?_
  refine lv_iload_n hx hb dL_law_466 rfl (lv_at hl 3 rfl) ?_
  refine lv_iconst (v := 1) hx hb dL_law_467 (by decide) ?_
  refine lv_iadd hx hb dL_law_468 ?_
  refine va_sld hx hb hX hbl hbA hS hi1 dL_law_469 ?_
  refine jw_cx (As := [.int (xs (x3 + 1).toNatClampNeg)]) (rest := []) (r := r) (X2 := X2) hc (jc_X4_best f1) (cwV 1 hts gL_law_X4_best rfl rfl rfl (by decide +kernel) ⟨(Nat.le_of_ble_eq_true rfl), (Nat.le_of_ble_eq_true rfl)⟩) hP hQ hS rfl dL_law_470 rfl hl.1 (Nat.le_of_ble_eq_true rfl) hf (fun H locs hP hQ hS => ?_)
  refine lv_aload_n hx hb dL_law_473 rfl (lv_at hl 2 rfl) ?_
  refine lv_aload_n hx hb dL_law_474 rfl (lv_at hl 0 rfl) ?_
  refine lv_iload_n hx hb dL_law_475 rfl (lv_at hl 3 rfl) ?_
  refine lv_iconst (v := 1) hx hb dL_law_476 (by decide) ?_
  refine lv_iadd hx hb dL_law_477 ?_
  refine va_sld hx hb hX hbl hbA hS hi1 dL_law_478 ?_
  refine jw_cy (As := [.int (xs (x3 + 1).toNatClampNeg)]) (rest := [.int r]) (r := r) (Y2 := Y2) hc (jc_X5_best f2) (cwV 1 hts gL_law_X5_best rfl rfl rfl (by decide +kernel) ⟨(Nat.le_of_ble_eq_true rfl), (Nat.le_of_ble_eq_true rfl)⟩) hP hQ hS rfl dL_law_479 rfl hl.1 (Nat.le_of_ble_eq_true rfl) hf (fun H locs hP hQ hS => ?_)
  exact lv_icmp_eq (tgt := 866) hx hb dL_law_482 (by decide) (fun _ => kk n2 m2 X2 Y2 H locs hA2 hP hQ hS) (fun h => absurd rfl h)
set_option maxHeartbeats 4000000 in
set_option maxRecDepth 100000 in
theorem jw_k_begin (hc : jw_Ctx p s m c b L xs D cI cT cZ B C) (hf : cells ≤ room_1.cells ∧ slots ≤ room_1.slots) {n0 m0 : Nat} (hA : jr_A n0 m0 X Y) {x3 : Int32} (hi1 : vp_in (x3 + 1) L) (hi2 : vp_in (x3 + 2) L) (hi3 : vp_in (x3 + 3) L) (hi4 : vp_in (x3 + 4) L) (hi5 : vp_in (x3 + 5) L) (hP : va_P D vwCl (jx_w cI cT B X) H) (hQ : va_P D vwCl (jy_w cI cZ C Y) H) (hS : va_S (fun q : Nat => s.heap.size ≤ q) s.heap H locs) (hl : lv_has ls 4 [(0, .ref b), (1, .ref (B 0)), (2, .ref (C 0)), (3, .int x3)])
    (kk : ∀ (n2 m2 : Nat) (X2 Y2 : jl_Mem) (H1 : Heap) (locs1 : List Loc), jr_A n2 m2 X2 Y2 → va_P D vwCl (jx_w cI cT B X2) H1 → va_P D vwCl (jy_w cI cZ C Y2) H1 → va_S (fun q : Nat => s.heap.size ≤ q) s.heap H1 locs1 → W p l e room_1 s m #[Value.ref b] below meth c H1 locs1 cells slots Q (F0 m 866 ls [])) : W p l e room_1 s m #[Value.ref b] below meth c H locs cells slots Q (F0 m 487 ls []) := by
  obtain ⟨hx, hb, hml, hown, hts, -, -, -, -, hG, hX, hbl⟩ := id hc
  have hbA : ¬ (fun q : Nat => s.heap.size ≤ q) b := Nat.not_le.mpr hbl
  obtain ⟨r, X2, Y2, n2, m2, f1, f2, hA2⟩ := jk_begin hA (xs (x3 + 1).toNatClampNeg) (xs (x3 + 2).toNatClampNeg) (xs (x3 + 3).toNatClampNeg)
  refine lv_aload_n hx hb dL_law_487 rfl (lv_at hl 1 rfl) ?_
  refine lv_aload_n hx hb dL_law_488 rfl (lv_at hl 0 rfl) ?_
  refine lv_iload_n hx hb dL_law_489 rfl (lv_at hl 3 rfl) ?_
  refine lv_iconst (v := 1) hx hb dL_law_490 (by decide) ?_
  refine lv_iadd hx hb dL_law_491 ?_
  refine va_sld hx hb hX hbl hbA hS hi1 dL_law_492 ?_
  refine lv_aload_n hx hb dL_law_493 rfl (lv_at hl 0 rfl) ?_
  refine lv_iload_n hx hb dL_law_494 rfl (lv_at hl 3 rfl) ?_
  refine lv_iconst (v := 2) hx hb dL_law_495 (by decide) ?_
  refine lv_iadd hx hb dL_law_496 ?_
  refine va_sld hx hb hX hbl hbA hS hi2 dL_law_497 ?_
  refine lv_aload_n hx hb dL_law_498 rfl (lv_at hl 0 rfl) ?_
  refine lv_iload_n hx hb dL_law_499 rfl (lv_at hl 3 rfl) ?_
  refine lv_iconst (v := 3) hx hb dL_law_500 (by decide) ?_
  refine lv_iadd hx hb dL_law_501 ?_
  refine va_sld hx hb hX hbl hbA hS hi3 dL_law_502 ?_
  refine jw_cx (As := [.int (xs (x3 + 1).toNatClampNeg), .int (xs (x3 + 2).toNatClampNeg), .int (xs (x3 + 3).toNatClampNeg)]) (rest := []) (r := r) (X2 := X2) hc (jc_X4_begin f1) (cwV 3 hts gL_law_X4_begin rfl rfl rfl (by decide +kernel) ⟨(Nat.le_of_ble_eq_true rfl), (Nat.le_of_ble_eq_true rfl)⟩) hP hQ hS rfl dL_law_503 rfl hl.1 (Nat.le_of_ble_eq_true rfl) hf (fun H locs hP hQ hS => ?_)
  refine lv_aload_n hx hb dL_law_506 rfl (lv_at hl 2 rfl) ?_
  refine lv_aload_n hx hb dL_law_507 rfl (lv_at hl 0 rfl) ?_
  refine lv_iload_n hx hb dL_law_508 rfl (lv_at hl 3 rfl) ?_
  refine lv_iconst (v := 1) hx hb dL_law_509 (by decide) ?_
  refine lv_iadd hx hb dL_law_510 ?_
  refine va_sld hx hb hX hbl hbA hS hi1 dL_law_511 ?_
  refine lv_aload_n hx hb dL_law_512 rfl (lv_at hl 0 rfl) ?_
  refine lv_iload_n hx hb dL_law_513 rfl (lv_at hl 3 rfl) ?_
  refine lv_iconst (v := 2) hx hb dL_law_514 (by decide) ?_
  refine lv_iadd hx hb dL_law_515 ?_
  refine va_sld hx hb hX hbl hbA hS hi2 dL_law_516 ?_
  refine lv_aload_n hx hb dL_law_517 rfl (lv_at hl 0 rfl) ?_
  refine lv_iload_n hx hb dL_law_518 rfl (lv_at hl 3 rfl) ?_
  refine lv_iconst (v := 3) hx hb dL_law_519 (by decide) ?_
  refine lv_iadd hx hb dL_law_520 ?_
  refine va_sld hx hb hX hbl hbA hS hi3 dL_law_521 ?_
  refine jw_cy (As := [.int (xs (x3 + 1).toNatClampNeg), .int (xs (x3 + 2).toNatClampNeg), .int (xs (x3 + 3).toNatClampNeg)]) (rest := [.int r]) (r := r) (Y2 := Y2) hc (jc_X5_begin f2) (cwV 3 hts gL_law_X5_begin rfl rfl rfl (by decide +kernel) ⟨(Nat.le_of_ble_eq_true rfl), (Nat.le_of_ble_eq_true rfl)⟩) hP hQ hS rfl dL_law_522 rfl hl.1 (Nat.le_of_ble_eq_true rfl) hf (fun H locs hP hQ hS => ?_)
  exact lv_icmp_eq (tgt := 866) hx hb dL_law_525 (by decide) (fun _ => kk n2 m2 X2 Y2 H locs hA2 hP hQ hS) (fun h => absurd rfl h)
set_option maxHeartbeats 4000000 in
set_option maxRecDepth 100000 in
theorem jw_k_round (hc : jw_Ctx p s m c b L xs D cI cT cZ B C) (hf : cells ≤ room_1.cells ∧ slots ≤ room_1.slots) {n0 m0 : Nat} (hA : jr_A n0 m0 X Y) {x3 : Int32} (hi1 : vp_in (x3 + 1) L) (hi2 : vp_in (x3 + 2) L) (hi3 : vp_in (x3 + 3) L) (hi4 : vp_in (x3 + 4) L) (hi5 : vp_in (x3 + 5) L) (hP : va_P D vwCl (jx_w cI cT B X) H) (hQ : va_P D vwCl (jy_w cI cZ C Y) H) (hS : va_S (fun q : Nat => s.heap.size ≤ q) s.heap H locs) (hl : lv_has ls 4 [(0, .ref b), (1, .ref (B 0)), (2, .ref (C 0)), (3, .int x3)])
    (kk : ∀ (n2 m2 : Nat) (X2 Y2 : jl_Mem) (H1 : Heap) (locs1 : List Loc), jr_A n2 m2 X2 Y2 → va_P D vwCl (jx_w cI cT B X2) H1 → va_P D vwCl (jy_w cI cZ C Y2) H1 → va_S (fun q : Nat => s.heap.size ≤ q) s.heap H1 locs1 → W p l e room_1 s m #[Value.ref b] below meth c H1 locs1 cells slots Q (F0 m 866 ls [])) : W p l e room_1 s m #[Value.ref b] below meth c H locs cells slots Q (F0 m 530 ls []) := by
  obtain ⟨hx, hb, hml, hown, hts, -, -, -, -, hG, hX, hbl⟩ := id hc
  have hbA : ¬ (fun q : Nat => s.heap.size ≤ q) b := Nat.not_le.mpr hbl
  obtain ⟨r, X2, Y2, n2, m2, f1, f2, hA2⟩ := jk_round hA
  refine lv_aload_n hx hb dL_law_530 rfl (lv_at hl 1 rfl) ?_
  refine jw_cx (As := []) (rest := []) (r := r) (X2 := X2) hc (jc_X4_round f1) (cwV 0 hts gL_law_X4_round rfl rfl rfl (by decide +kernel) ⟨(Nat.le_of_ble_eq_true rfl), (Nat.le_of_ble_eq_true rfl)⟩) hP hQ hS rfl dL_law_531 rfl hl.1 (Nat.le_of_ble_eq_true rfl) hf (fun H locs hP hQ hS => ?_)
  refine lv_aload_n hx hb dL_law_534 rfl (lv_at hl 2 rfl) ?_
  refine jw_cy (As := []) (rest := [.int r]) (r := r) (Y2 := Y2) hc (jc_X5_round f2) (cwV 0 hts gL_law_X5_round rfl rfl rfl (by decide +kernel) ⟨(Nat.le_of_ble_eq_true rfl), (Nat.le_of_ble_eq_true rfl)⟩) hP hQ hS rfl dL_law_535 rfl hl.1 (Nat.le_of_ble_eq_true rfl) hf (fun H locs hP hQ hS => ?_)
  exact lv_icmp_eq (tgt := 866) hx hb dL_law_538 (by decide) (fun _ => kk n2 m2 X2 Y2 H locs hA2 hP hQ hS) (fun h => absurd rfl h)
set_option maxHeartbeats 4000000 in
set_option maxRecDepth 100000 in
theorem jw_k_finish (hc : jw_Ctx p s m c b L xs D cI cT cZ B C) (hf : cells ≤ room_1.cells ∧ slots ≤ room_1.slots) {n0 m0 : Nat} (hA : jr_A n0 m0 X Y) {x3 : Int32} (hi1 : vp_in (x3 + 1) L) (hi2 : vp_in (x3 + 2) L) (hi3 : vp_in (x3 + 3) L) (hi4 : vp_in (x3 + 4) L) (hi5 : vp_in (x3 + 5) L) (hP : va_P D vwCl (jx_w cI cT B X) H) (hQ : va_P D vwCl (jy_w cI cZ C Y) H) (hS : va_S (fun q : Nat => s.heap.size ≤ q) s.heap H locs) (hl : lv_has ls 4 [(0, .ref b), (1, .ref (B 0)), (2, .ref (C 0)), (3, .int x3)])
    (kk : ∀ (n2 m2 : Nat) (X2 Y2 : jl_Mem) (H1 : Heap) (locs1 : List Loc), jr_A n2 m2 X2 Y2 → va_P D vwCl (jx_w cI cT B X2) H1 → va_P D vwCl (jy_w cI cZ C Y2) H1 → va_S (fun q : Nat => s.heap.size ≤ q) s.heap H1 locs1 → W p l e room_1 s m #[Value.ref b] below meth c H1 locs1 cells slots Q (F0 m 866 ls [])) : W p l e room_1 s m #[Value.ref b] below meth c H locs cells slots Q (F0 m 543 ls []) := by
  obtain ⟨hx, hb, hml, hown, hts, -, -, -, -, hG, hX, hbl⟩ := id hc
  have hbA : ¬ (fun q : Nat => s.heap.size ≤ q) b := Nat.not_le.mpr hbl
  obtain ⟨r, X2, Y2, n2, m2, f1, f2, hA2⟩ := jk_finish hA
  refine lv_aload_n hx hb dL_law_543 rfl (lv_at hl 1 rfl) ?_
  refine jw_cx (As := []) (rest := []) (r := r) (X2 := X2) hc (jc_X4_finish f1) (cwV 0 hts gL_law_X4_finish rfl rfl rfl (by decide +kernel) ⟨(Nat.le_of_ble_eq_true rfl), (Nat.le_of_ble_eq_true rfl)⟩) hP hQ hS rfl dL_law_544 rfl hl.1 (Nat.le_of_ble_eq_true rfl) hf (fun H locs hP hQ hS => ?_)
  refine lv_aload_n hx hb dL_law_547 rfl (lv_at hl 2 rfl) ?_
  refine jw_cy (As := []) (rest := [.int r]) (r := r) (Y2 := Y2) hc (jc_X5_finish f2) (cwV 0 hts gL_law_X5_finish rfl rfl rfl (by decide +kernel) ⟨(Nat.le_of_ble_eq_true rfl), (Nat.le_of_ble_eq_true rfl)⟩) hP hQ hS rfl dL_law_548 rfl hl.1 (Nat.le_of_ble_eq_true rfl) hf (fun H locs hP hQ hS => ?_)
  exact lv_icmp_eq (tgt := 866) hx hb dL_law_551 (by decide) (fun _ => kk n2 m2 X2 Y2 H locs hA2 hP hQ hS) (fun h => absurd rfl h)
set_option maxHeartbeats 4000000 in
set_option maxRecDepth 100000 in
theorem jw_k_reader (hc : jw_Ctx p s m c b L xs D cI cT cZ B C) (hf : cells ≤ room_1.cells ∧ slots ≤ room_1.slots) {n0 m0 : Nat} (hA : jr_A n0 m0 X Y) {x3 : Int32} (hi1 : vp_in (x3 + 1) L) (hi2 : vp_in (x3 + 2) L) (hi3 : vp_in (x3 + 3) L) (hi4 : vp_in (x3 + 4) L) (hi5 : vp_in (x3 + 5) L) (hP : va_P D vwCl (jx_w cI cT B X) H) (hQ : va_P D vwCl (jy_w cI cZ C Y) H) (hS : va_S (fun q : Nat => s.heap.size ≤ q) s.heap H locs) (hl : lv_has ls 4 [(0, .ref b), (1, .ref (B 0)), (2, .ref (C 0)), (3, .int x3)])
    (kk : ∀ (n2 m2 : Nat) (X2 Y2 : jl_Mem) (H1 : Heap) (locs1 : List Loc), jr_A n2 m2 X2 Y2 → va_P D vwCl (jx_w cI cT B X2) H1 → va_P D vwCl (jy_w cI cZ C Y2) H1 → va_S (fun q : Nat => s.heap.size ≤ q) s.heap H1 locs1 → W p l e room_1 s m #[Value.ref b] below meth c H1 locs1 cells slots Q (F0 m 866 ls [])) : W p l e room_1 s m #[Value.ref b] below meth c H locs cells slots Q (F0 m 556 ls []) := by
  obtain ⟨hx, hb, hml, hown, hts, -, -, -, -, hG, hX, hbl⟩ := id hc
  have hbA : ¬ (fun q : Nat => s.heap.size ≤ q) b := Nat.not_le.mpr hbl
  obtain ⟨r, X2, Y2, n2, m2, f1, f2, hA2⟩ := jk_reader hA (xs (x3 + 1).toNatClampNeg)
  refine lv_aload_n hx hb dL_law_556 rfl (lv_at hl 1 rfl) ?_
  refine lv_aload_n hx hb dL_law_557 rfl (lv_at hl 0 rfl) ?_
  refine lv_iload_n hx hb dL_law_558 rfl (lv_at hl 3 rfl) ?_
  refine lv_iconst (v := 1) hx hb dL_law_559 (by decide) ?_
  refine lv_iadd hx hb dL_law_560 ?_
  refine va_sld hx hb hX hbl hbA hS hi1 dL_law_561 ?_
  refine jw_cx (As := [.int (xs (x3 + 1).toNatClampNeg)]) (rest := []) (r := r) (X2 := X2) hc (jc_X4_reader f1) (cwV 1 hts gL_law_X4_reader rfl rfl rfl (by decide +kernel) ⟨(Nat.le_of_ble_eq_true rfl), (Nat.le_of_ble_eq_true rfl)⟩) hP hQ hS rfl dL_law_562 rfl hl.1 (Nat.le_of_ble_eq_true rfl) hf (fun H locs hP hQ hS => ?_)
  refine lv_aload_n hx hb dL_law_565 rfl (lv_at hl 2 rfl) ?_
  refine lv_aload_n hx hb dL_law_566 rfl (lv_at hl 0 rfl) ?_
  refine lv_iload_n hx hb dL_law_567 rfl (lv_at hl 3 rfl) ?_
  refine lv_iconst (v := 1) hx hb dL_law_568 (by decide) ?_
  refine lv_iadd hx hb dL_law_569 ?_
  refine va_sld hx hb hX hbl hbA hS hi1 dL_law_570 ?_
  refine jw_cy (As := [.int (xs (x3 + 1).toNatClampNeg)]) (rest := [.int r]) (r := r) (Y2 := Y2) hc (jc_X5_reader f2) (cwV 1 hts gL_law_X5_reader rfl rfl rfl (by decide +kernel) ⟨(Nat.le_of_ble_eq_true rfl), (Nat.le_of_ble_eq_true rfl)⟩) hP hQ hS rfl dL_law_571 rfl hl.1 (Nat.le_of_ble_eq_true rfl) hf (fun H locs hP hQ hS => ?_)
  exact lv_icmp_eq (tgt := 866) hx hb dL_law_574 (by decide) (fun _ => kk n2 m2 X2 Y2 H locs hA2 hP hQ hS) (fun h => absurd rfl h)
set_option maxHeartbeats 4000000 in
set_option maxRecDepth 100000 in
theorem jw_k_depth (hc : jw_Ctx p s m c b L xs D cI cT cZ B C) (hf : cells ≤ room_1.cells ∧ slots ≤ room_1.slots) {n0 m0 : Nat} (hA : jr_A n0 m0 X Y) {x3 : Int32} (hi1 : vp_in (x3 + 1) L) (hi2 : vp_in (x3 + 2) L) (hi3 : vp_in (x3 + 3) L) (hi4 : vp_in (x3 + 4) L) (hi5 : vp_in (x3 + 5) L) (hP : va_P D vwCl (jx_w cI cT B X) H) (hQ : va_P D vwCl (jy_w cI cZ C Y) H) (hS : va_S (fun q : Nat => s.heap.size ≤ q) s.heap H locs) (hl : lv_has ls 4 [(0, .ref b), (1, .ref (B 0)), (2, .ref (C 0)), (3, .int x3)])
    (kk : ∀ (n2 m2 : Nat) (X2 Y2 : jl_Mem) (H1 : Heap) (locs1 : List Loc), jr_A n2 m2 X2 Y2 → va_P D vwCl (jx_w cI cT B X2) H1 → va_P D vwCl (jy_w cI cZ C Y2) H1 → va_S (fun q : Nat => s.heap.size ≤ q) s.heap H1 locs1 → W p l e room_1 s m #[Value.ref b] below meth c H1 locs1 cells slots Q (F0 m 866 ls [])) : W p l e room_1 s m #[Value.ref b] below meth c H locs cells slots Q (F0 m 579 ls []) := by
  obtain ⟨hx, hb, hml, hown, hts, -, -, -, -, hG, hX, hbl⟩ := id hc
  have hbA : ¬ (fun q : Nat => s.heap.size ≤ q) b := Nat.not_le.mpr hbl
  obtain ⟨r, X2, Y2, n2, m2, f1, f2, hA2⟩ := jk_depth hA (xs (x3 + 1).toNatClampNeg) (xs (x3 + 2).toNatClampNeg)
  refine lv_aload_n hx hb dL_law_579 rfl (lv_at hl 1 rfl) ?_
  refine lv_aload_n hx hb dL_law_580 rfl (lv_at hl 0 rfl) ?_
  refine lv_iload_n hx hb dL_law_581 rfl (lv_at hl 3 rfl) ?_
  refine lv_iconst (v := 1) hx hb dL_law_582 (by decide) ?_
  refine lv_iadd hx hb dL_law_583 ?_
  refine va_sld hx hb hX hbl hbA hS hi1 dL_law_584 ?_
  refine lv_aload_n hx hb dL_law_585 rfl (lv_at hl 0 rfl) ?_
  refine lv_iload_n hx hb dL_law_586 rfl (lv_at hl 3 rfl) ?_
  refine lv_iconst (v := 2) hx hb dL_law_587 (by decide) ?_
  refine lv_iadd hx hb dL_law_588 ?_
  refine va_sld hx hb hX hbl hbA hS hi2 dL_law_589 ?_
  refine jw_cx (As := [.int (xs (x3 + 1).toNatClampNeg), .int (xs (x3 + 2).toNatClampNeg)]) (rest := []) (r := r) (X2 := X2) hc (jc_X4_depth f1) (cwV 2 hts gL_law_X4_depth rfl rfl rfl (by decide +kernel) ⟨(Nat.le_of_ble_eq_true rfl), (Nat.le_of_ble_eq_true rfl)⟩) hP hQ hS rfl dL_law_590 rfl hl.1 (Nat.le_of_ble_eq_true rfl) hf (fun H locs hP hQ hS => ?_)
  refine lv_aload_n hx hb dL_law_593 rfl (lv_at hl 2 rfl) ?_
  refine lv_aload_n hx hb dL_law_594 rfl (lv_at hl 0 rfl) ?_
  refine lv_iload_n hx hb dL_law_595 rfl (lv_at hl 3 rfl) ?_
  refine lv_iconst (v := 1) hx hb dL_law_596 (by decide) ?_
  refine lv_iadd hx hb dL_law_597 ?_
  refine va_sld hx hb hX hbl hbA hS hi1 dL_law_598 ?_
  refine lv_aload_n hx hb dL_law_599 rfl (lv_at hl 0 rfl) ?_
  refine lv_iload_n hx hb dL_law_600 rfl (lv_at hl 3 rfl) ?_
  refine lv_iconst (v := 2) hx hb dL_law_601 (by decide) ?_
  refine lv_iadd hx hb dL_law_602 ?_
  refine va_sld hx hb hX hbl hbA hS hi2 dL_law_603 ?_
  refine jw_cy (As := [.int (xs (x3 + 1).toNatClampNeg), .int (xs (x3 + 2).toNatClampNeg)]) (rest := [.int r]) (r := r) (Y2 := Y2) hc (jc_X5_depth f2) (cwV 2 hts gL_law_X5_depth rfl rfl rfl (by decide +kernel) ⟨(Nat.le_of_ble_eq_true rfl), (Nat.le_of_ble_eq_true rfl)⟩) hP hQ hS rfl dL_law_604 rfl hl.1 (Nat.le_of_ble_eq_true rfl) hf (fun H locs hP hQ hS => ?_)
  exact lv_icmp_eq (tgt := 866) hx hb dL_law_607 (by decide) (fun _ => kk n2 m2 X2 Y2 H locs hA2 hP hQ hS) (fun h => absurd rfl h)
set_option maxHeartbeats 4000000 in
set_option maxRecDepth 100000 in
theorem jw_k_known (hc : jw_Ctx p s m c b L xs D cI cT cZ B C) (hf : cells ≤ room_1.cells ∧ slots ≤ room_1.slots) {n0 m0 : Nat} (hA : jr_A n0 m0 X Y) {x3 : Int32} (hi1 : vp_in (x3 + 1) L) (hi2 : vp_in (x3 + 2) L) (hi3 : vp_in (x3 + 3) L) (hi4 : vp_in (x3 + 4) L) (hi5 : vp_in (x3 + 5) L) (hP : va_P D vwCl (jx_w cI cT B X) H) (hQ : va_P D vwCl (jy_w cI cZ C Y) H) (hS : va_S (fun q : Nat => s.heap.size ≤ q) s.heap H locs) (hl : lv_has ls 4 [(0, .ref b), (1, .ref (B 0)), (2, .ref (C 0)), (3, .int x3)])
    (kk : ∀ (n2 m2 : Nat) (X2 Y2 : jl_Mem) (H1 : Heap) (locs1 : List Loc), jr_A n2 m2 X2 Y2 → va_P D vwCl (jx_w cI cT B X2) H1 → va_P D vwCl (jy_w cI cZ C Y2) H1 → va_S (fun q : Nat => s.heap.size ≤ q) s.heap H1 locs1 → W p l e room_1 s m #[Value.ref b] below meth c H1 locs1 cells slots Q (F0 m 866 ls [])) : W p l e room_1 s m #[Value.ref b] below meth c H locs cells slots Q (F0 m 612 ls []) := by
  obtain ⟨hx, hb, hml, hown, hts, -, -, -, -, hG, hX, hbl⟩ := id hc
  have hbA : ¬ (fun q : Nat => s.heap.size ≤ q) b := Nat.not_le.mpr hbl
  obtain ⟨r, X2, Y2, n2, m2, f1, f2, hA2⟩ := jk_known hA (xs (x3 + 1).toNatClampNeg) (xs (x3 + 2).toNatClampNeg)
  refine lv_aload_n hx hb dL_law_612 rfl (lv_at hl 1 rfl) ?_
  refine lv_aload_n hx hb dL_law_613 rfl (lv_at hl 0 rfl) ?_
  refine lv_iload_n hx hb dL_law_614 rfl (lv_at hl 3 rfl) ?_
  refine lv_iconst (v := 1) hx hb dL_law_615 (by decide) ?_
  refine lv_iadd hx hb dL_law_616 ?_
  refine va_sld hx hb hX hbl hbA hS hi1 dL_law_617 ?_
  refine lv_aload_n hx hb dL_law_618 rfl (lv_at hl 0 rfl) ?_
  refine lv_iload_n hx hb dL_law_619 rfl (lv_at hl 3 rfl) ?_
  refine lv_iconst (v := 2) hx hb dL_law_620 (by decide) ?_
  refine lv_iadd hx hb dL_law_621 ?_
  refine va_sld hx hb hX hbl hbA hS hi2 dL_law_622 ?_
  refine jw_cx (As := [.int (xs (x3 + 1).toNatClampNeg), .int (xs (x3 + 2).toNatClampNeg)]) (rest := []) (r := r) (X2 := X2) hc (jc_X4_known f1) (cwV 2 hts gL_law_X4_known rfl rfl rfl (by decide +kernel) ⟨(Nat.le_of_ble_eq_true rfl), (Nat.le_of_ble_eq_true rfl)⟩) hP hQ hS rfl dL_law_623 rfl hl.1 (Nat.le_of_ble_eq_true rfl) hf (fun H locs hP hQ hS => ?_)
  refine lv_aload_n hx hb dL_law_626 rfl (lv_at hl 2 rfl) ?_
  refine lv_aload_n hx hb dL_law_627 rfl (lv_at hl 0 rfl) ?_
  refine lv_iload_n hx hb dL_law_628 rfl (lv_at hl 3 rfl) ?_
  refine lv_iconst (v := 1) hx hb dL_law_629 (by decide) ?_
  refine lv_iadd hx hb dL_law_630 ?_
  refine va_sld hx hb hX hbl hbA hS hi1 dL_law_631 ?_
  refine lv_aload_n hx hb dL_law_632 rfl (lv_at hl 0 rfl) ?_
  refine lv_iload_n hx hb dL_law_633 rfl (lv_at hl 3 rfl) ?_
  refine lv_iconst (v := 2) hx hb dL_law_634 (by decide) ?_
  refine lv_iadd hx hb dL_law_635 ?_
  refine va_sld hx hb hX hbl hbA hS hi2 dL_law_636 ?_
  refine jw_cy (As := [.int (xs (x3 + 1).toNatClampNeg), .int (xs (x3 + 2).toNatClampNeg)]) (rest := [.int r]) (r := r) (Y2 := Y2) hc (jc_X5_known f2) (cwV 2 hts gL_law_X5_known rfl rfl rfl (by decide +kernel) ⟨(Nat.le_of_ble_eq_true rfl), (Nat.le_of_ble_eq_true rfl)⟩) hP hQ hS rfl dL_law_637 rfl hl.1 (Nat.le_of_ble_eq_true rfl) hf (fun H locs hP hQ hS => ?_)
  exact lv_icmp_eq (tgt := 866) hx hb dL_law_640 (by decide) (fun _ => kk n2 m2 X2 Y2 H locs hA2 hP hQ hS) (fun h => absurd rfl h)
set_option maxHeartbeats 4000000 in
set_option maxRecDepth 100000 in
theorem jw_k_bound (hc : jw_Ctx p s m c b L xs D cI cT cZ B C) (hf : cells ≤ room_1.cells ∧ slots ≤ room_1.slots) {n0 m0 : Nat} (hA : jr_A n0 m0 X Y) {x3 : Int32} (hi1 : vp_in (x3 + 1) L) (hi2 : vp_in (x3 + 2) L) (hi3 : vp_in (x3 + 3) L) (hi4 : vp_in (x3 + 4) L) (hi5 : vp_in (x3 + 5) L) (hP : va_P D vwCl (jx_w cI cT B X) H) (hQ : va_P D vwCl (jy_w cI cZ C Y) H) (hS : va_S (fun q : Nat => s.heap.size ≤ q) s.heap H locs) (hl : lv_has ls 4 [(0, .ref b), (1, .ref (B 0)), (2, .ref (C 0)), (3, .int x3)])
    (kk : ∀ (n2 m2 : Nat) (X2 Y2 : jl_Mem) (H1 : Heap) (locs1 : List Loc), jr_A n2 m2 X2 Y2 → va_P D vwCl (jx_w cI cT B X2) H1 → va_P D vwCl (jy_w cI cZ C Y2) H1 → va_S (fun q : Nat => s.heap.size ≤ q) s.heap H1 locs1 → W p l e room_1 s m #[Value.ref b] below meth c H1 locs1 cells slots Q (F0 m 866 ls [])) : W p l e room_1 s m #[Value.ref b] below meth c H locs cells slots Q (F0 m 645 ls []) := by
  obtain ⟨hx, hb, hml, hown, hts, -, -, -, -, hG, hX, hbl⟩ := id hc
  have hbA : ¬ (fun q : Nat => s.heap.size ≤ q) b := Nat.not_le.mpr hbl
  obtain ⟨r, X2, Y2, n2, m2, f1, f2, hA2⟩ := jk_bound hA (xs (x3 + 1).toNatClampNeg) (xs (x3 + 2).toNatClampNeg)
  refine lv_aload_n hx hb dL_law_645 rfl (lv_at hl 1 rfl) ?_
  refine lv_aload_n hx hb dL_law_646 rfl (lv_at hl 0 rfl) ?_
  refine lv_iload_n hx hb dL_law_647 rfl (lv_at hl 3 rfl) ?_
  refine lv_iconst (v := 1) hx hb dL_law_648 (by decide) ?_
  refine lv_iadd hx hb dL_law_649 ?_
  refine va_sld hx hb hX hbl hbA hS hi1 dL_law_650 ?_
  refine lv_aload_n hx hb dL_law_651 rfl (lv_at hl 0 rfl) ?_
  refine lv_iload_n hx hb dL_law_652 rfl (lv_at hl 3 rfl) ?_
  refine lv_iconst (v := 2) hx hb dL_law_653 (by decide) ?_
  refine lv_iadd hx hb dL_law_654 ?_
  refine va_sld hx hb hX hbl hbA hS hi2 dL_law_655 ?_
  refine jw_cx (As := [.int (xs (x3 + 1).toNatClampNeg), .int (xs (x3 + 2).toNatClampNeg)]) (rest := []) (r := r) (X2 := X2) hc (jc_X4_bound f1) (cwV 2 hts gL_law_X4_bound rfl rfl rfl (by decide +kernel) ⟨(Nat.le_of_ble_eq_true rfl), (Nat.le_of_ble_eq_true rfl)⟩) hP hQ hS rfl dL_law_656 rfl hl.1 (Nat.le_of_ble_eq_true rfl) hf (fun H locs hP hQ hS => ?_)
  refine lv_aload_n hx hb dL_law_659 rfl (lv_at hl 2 rfl) ?_
  refine lv_aload_n hx hb dL_law_660 rfl (lv_at hl 0 rfl) ?_
  refine lv_iload_n hx hb dL_law_661 rfl (lv_at hl 3 rfl) ?_
  refine lv_iconst (v := 1) hx hb dL_law_662 (by decide) ?_
  refine lv_iadd hx hb dL_law_663 ?_
  refine va_sld hx hb hX hbl hbA hS hi1 dL_law_664 ?_
  refine lv_aload_n hx hb dL_law_665 rfl (lv_at hl 0 rfl) ?_
  refine lv_iload_n hx hb dL_law_666 rfl (lv_at hl 3 rfl) ?_
  refine lv_iconst (v := 2) hx hb dL_law_667 (by decide) ?_
  refine lv_iadd hx hb dL_law_668 ?_
  refine va_sld hx hb hX hbl hbA hS hi2 dL_law_669 ?_
  refine jw_cy (As := [.int (xs (x3 + 1).toNatClampNeg), .int (xs (x3 + 2).toNatClampNeg)]) (rest := [.int r]) (r := r) (Y2 := Y2) hc (jc_X5_bound f2) (cwV 2 hts gL_law_X5_bound rfl rfl rfl (by decide +kernel) ⟨(Nat.le_of_ble_eq_true rfl), (Nat.le_of_ble_eq_true rfl)⟩) hP hQ hS rfl dL_law_670 rfl hl.1 (Nat.le_of_ble_eq_true rfl) hf (fun H locs hP hQ hS => ?_)
  exact lv_icmp_eq (tgt := 866) hx hb dL_law_673 (by decide) (fun _ => kk n2 m2 X2 Y2 H locs hA2 hP hQ hS) (fun h => absurd rfl h)
set_option maxHeartbeats 4000000 in
set_option maxRecDepth 100000 in
theorem jw_k_ahead (hc : jw_Ctx p s m c b L xs D cI cT cZ B C) (hf : cells ≤ room_1.cells ∧ slots ≤ room_1.slots) {n0 m0 : Nat} (hA : jr_A n0 m0 X Y) {x3 : Int32} (hi1 : vp_in (x3 + 1) L) (hi2 : vp_in (x3 + 2) L) (hi3 : vp_in (x3 + 3) L) (hi4 : vp_in (x3 + 4) L) (hi5 : vp_in (x3 + 5) L) (hP : va_P D vwCl (jx_w cI cT B X) H) (hQ : va_P D vwCl (jy_w cI cZ C Y) H) (hS : va_S (fun q : Nat => s.heap.size ≤ q) s.heap H locs) (hl : lv_has ls 4 [(0, .ref b), (1, .ref (B 0)), (2, .ref (C 0)), (3, .int x3)])
    (kk : ∀ (n2 m2 : Nat) (X2 Y2 : jl_Mem) (H1 : Heap) (locs1 : List Loc), jr_A n2 m2 X2 Y2 → va_P D vwCl (jx_w cI cT B X2) H1 → va_P D vwCl (jy_w cI cZ C Y2) H1 → va_S (fun q : Nat => s.heap.size ≤ q) s.heap H1 locs1 → W p l e room_1 s m #[Value.ref b] below meth c H1 locs1 cells slots Q (F0 m 866 ls [])) : W p l e room_1 s m #[Value.ref b] below meth c H locs cells slots Q (F0 m 678 ls []) := by
  obtain ⟨hx, hb, hml, hown, hts, -, -, -, -, hG, hX, hbl⟩ := id hc
  have hbA : ¬ (fun q : Nat => s.heap.size ≤ q) b := Nat.not_le.mpr hbl
  obtain ⟨r, X2, Y2, n2, m2, f1, f2, hA2⟩ := jk_ahead hA (xs (x3 + 1).toNatClampNeg) (xs (x3 + 2).toNatClampNeg)
  refine lv_aload_n hx hb dL_law_678 rfl (lv_at hl 1 rfl) ?_
  refine lv_aload_n hx hb dL_law_679 rfl (lv_at hl 0 rfl) ?_
  refine lv_iload_n hx hb dL_law_680 rfl (lv_at hl 3 rfl) ?_
  refine lv_iconst (v := 1) hx hb dL_law_681 (by decide) ?_
  refine lv_iadd hx hb dL_law_682 ?_
  refine va_sld hx hb hX hbl hbA hS hi1 dL_law_683 ?_
  refine lv_aload_n hx hb dL_law_684 rfl (lv_at hl 0 rfl) ?_
  refine lv_iload_n hx hb dL_law_685 rfl (lv_at hl 3 rfl) ?_
  refine lv_iconst (v := 2) hx hb dL_law_686 (by decide) ?_
  refine lv_iadd hx hb dL_law_687 ?_
  refine va_sld hx hb hX hbl hbA hS hi2 dL_law_688 ?_
  refine jw_cx (As := [.int (xs (x3 + 1).toNatClampNeg), .int (xs (x3 + 2).toNatClampNeg)]) (rest := []) (r := r) (X2 := X2) hc (jc_X4_ahead f1) (cwV 2 hts gL_law_X4_ahead rfl rfl rfl (by decide +kernel) ⟨(Nat.le_of_ble_eq_true rfl), (Nat.le_of_ble_eq_true rfl)⟩) hP hQ hS rfl dL_law_689 rfl hl.1 (Nat.le_of_ble_eq_true rfl) hf (fun H locs hP hQ hS => ?_)
  refine lv_aload_n hx hb dL_law_692 rfl (lv_at hl 2 rfl) ?_
  refine lv_aload_n hx hb dL_law_693 rfl (lv_at hl 0 rfl) ?_
  refine lv_iload_n hx hb dL_law_694 rfl (lv_at hl 3 rfl) ?_
  refine lv_iconst (v := 1) hx hb dL_law_695 (by decide) ?_
  refine lv_iadd hx hb dL_law_696 ?_
  refine va_sld hx hb hX hbl hbA hS hi1 dL_law_697 ?_
  refine lv_aload_n hx hb dL_law_698 rfl (lv_at hl 0 rfl) ?_
  refine lv_iload_n hx hb dL_law_699 rfl (lv_at hl 3 rfl) ?_
  refine lv_iconst (v := 2) hx hb dL_law_700 (by decide) ?_
  refine lv_iadd hx hb dL_law_701 ?_
  refine va_sld hx hb hX hbl hbA hS hi2 dL_law_702 ?_
  refine jw_cy (As := [.int (xs (x3 + 1).toNatClampNeg), .int (xs (x3 + 2).toNatClampNeg)]) (rest := [.int r]) (r := r) (Y2 := Y2) hc (jc_X5_ahead f2) (cwV 2 hts gL_law_X5_ahead rfl rfl rfl (by decide +kernel) ⟨(Nat.le_of_ble_eq_true rfl), (Nat.le_of_ble_eq_true rfl)⟩) hP hQ hS rfl dL_law_703 rfl hl.1 (Nat.le_of_ble_eq_true rfl) hf (fun H locs hP hQ hS => ?_)
  exact lv_icmp_eq (tgt := 866) hx hb dL_law_706 (by decide) (fun _ => kk n2 m2 X2 Y2 H locs hA2 hP hQ hS) (fun h => absurd rfl h)
set_option maxHeartbeats 4000000 in
set_option maxRecDepth 100000 in
theorem jw_k_found (hc : jw_Ctx p s m c b L xs D cI cT cZ B C) (hf : cells ≤ room_1.cells ∧ slots ≤ room_1.slots) {n0 m0 : Nat} (hA : jr_A n0 m0 X Y) {x3 : Int32} (hi1 : vp_in (x3 + 1) L) (hi2 : vp_in (x3 + 2) L) (hi3 : vp_in (x3 + 3) L) (hi4 : vp_in (x3 + 4) L) (hi5 : vp_in (x3 + 5) L) (hP : va_P D vwCl (jx_w cI cT B X) H) (hQ : va_P D vwCl (jy_w cI cZ C Y) H) (hS : va_S (fun q : Nat => s.heap.size ≤ q) s.heap H locs) (hl : lv_has ls 4 [(0, .ref b), (1, .ref (B 0)), (2, .ref (C 0)), (3, .int x3)])
    (kk : ∀ (n2 m2 : Nat) (X2 Y2 : jl_Mem) (H1 : Heap) (locs1 : List Loc), jr_A n2 m2 X2 Y2 → va_P D vwCl (jx_w cI cT B X2) H1 → va_P D vwCl (jy_w cI cZ C Y2) H1 → va_S (fun q : Nat => s.heap.size ≤ q) s.heap H1 locs1 → W p l e room_1 s m #[Value.ref b] below meth c H1 locs1 cells slots Q (F0 m 866 ls [])) : W p l e room_1 s m #[Value.ref b] below meth c H locs cells slots Q (F0 m 711 ls []) := by
  obtain ⟨hx, hb, hml, hown, hts, -, -, -, -, hG, hX, hbl⟩ := id hc
  have hbA : ¬ (fun q : Nat => s.heap.size ≤ q) b := Nat.not_le.mpr hbl
  obtain ⟨r, X2, Y2, n2, m2, f1, f2, hA2⟩ := jk_found hA (xs (x3 + 1).toNatClampNeg)
  refine lv_aload_n hx hb dL_law_711 rfl (lv_at hl 1 rfl) ?_
  refine lv_aload_n hx hb dL_law_712 rfl (lv_at hl 0 rfl) ?_
  refine lv_iload_n hx hb dL_law_713 rfl (lv_at hl 3 rfl) ?_
  refine lv_iconst (v := 1) hx hb dL_law_714 (by decide) ?_
  refine lv_iadd hx hb dL_law_715 ?_
  refine va_sld hx hb hX hbl hbA hS hi1 dL_law_716 ?_
  refine jw_cx (As := [.int (xs (x3 + 1).toNatClampNeg)]) (rest := []) (r := r) (X2 := X2) hc (jc_X4_found f1) (cwV 1 hts gL_law_X4_found rfl rfl rfl (by decide +kernel) ⟨(Nat.le_of_ble_eq_true rfl), (Nat.le_of_ble_eq_true rfl)⟩) hP hQ hS rfl dL_law_717 rfl hl.1 (Nat.le_of_ble_eq_true rfl) hf (fun H locs hP hQ hS => ?_)
  refine lv_aload_n hx hb dL_law_720 rfl (lv_at hl 2 rfl) ?_
  refine lv_aload_n hx hb dL_law_721 rfl (lv_at hl 0 rfl) ?_
  refine lv_iload_n hx hb dL_law_722 rfl (lv_at hl 3 rfl) ?_
  refine lv_iconst (v := 1) hx hb dL_law_723 (by decide) ?_
  refine lv_iadd hx hb dL_law_724 ?_
  refine va_sld hx hb hX hbl hbA hS hi1 dL_law_725 ?_
  refine jw_cy (As := [.int (xs (x3 + 1).toNatClampNeg)]) (rest := [.int r]) (r := r) (Y2 := Y2) hc (jc_X5_found f2) (cwV 1 hts gL_law_X5_found rfl rfl rfl (by decide +kernel) ⟨(Nat.le_of_ble_eq_true rfl), (Nat.le_of_ble_eq_true rfl)⟩) hP hQ hS rfl dL_law_726 rfl hl.1 (Nat.le_of_ble_eq_true rfl) hf (fun H locs hP hQ hS => ?_)
  exact lv_icmp_eq (tgt := 866) hx hb dL_law_729 (by decide) (fun _ => kk n2 m2 X2 Y2 H locs hA2 hP hQ hS) (fun h => absurd rfl h)
set_option maxHeartbeats 4000000 in
set_option maxRecDepth 100000 in
theorem jw_k_enough (hc : jw_Ctx p s m c b L xs D cI cT cZ B C) (hf : cells ≤ room_1.cells ∧ slots ≤ room_1.slots) {n0 m0 : Nat} (hA : jr_A n0 m0 X Y) {x3 : Int32} (hi1 : vp_in (x3 + 1) L) (hi2 : vp_in (x3 + 2) L) (hi3 : vp_in (x3 + 3) L) (hi4 : vp_in (x3 + 4) L) (hi5 : vp_in (x3 + 5) L) (hP : va_P D vwCl (jx_w cI cT B X) H) (hQ : va_P D vwCl (jy_w cI cZ C Y) H) (hS : va_S (fun q : Nat => s.heap.size ≤ q) s.heap H locs) (hl : lv_has ls 4 [(0, .ref b), (1, .ref (B 0)), (2, .ref (C 0)), (3, .int x3)])
    (kk : ∀ (n2 m2 : Nat) (X2 Y2 : jl_Mem) (H1 : Heap) (locs1 : List Loc), jr_A n2 m2 X2 Y2 → va_P D vwCl (jx_w cI cT B X2) H1 → va_P D vwCl (jy_w cI cZ C Y2) H1 → va_S (fun q : Nat => s.heap.size ≤ q) s.heap H1 locs1 → W p l e room_1 s m #[Value.ref b] below meth c H1 locs1 cells slots Q (F0 m 866 ls [])) : W p l e room_1 s m #[Value.ref b] below meth c H locs cells slots Q (F0 m 734 ls []) := by
  obtain ⟨hx, hb, hml, hown, hts, -, -, -, -, hG, hX, hbl⟩ := id hc
  have hbA : ¬ (fun q : Nat => s.heap.size ≤ q) b := Nat.not_le.mpr hbl
  obtain ⟨r, X2, Y2, n2, m2, f1, f2, hA2⟩ := jk_enough hA (xs (x3 + 1).toNatClampNeg) (xs (x3 + 2).toNatClampNeg) (xs (x3 + 3).toNatClampNeg) (xs (x3 + 4).toNatClampNeg) (xs (x3 + 5).toNatClampNeg)
  refine lv_aload_n hx hb dL_law_734 rfl (lv_at hl 1 rfl) ?_
  refine lv_aload_n hx hb dL_law_735 rfl (lv_at hl 0 rfl) ?_
  refine lv_iload_n hx hb dL_law_736 rfl (lv_at hl 3 rfl) ?_
  refine lv_iconst (v := 1) hx hb dL_law_737 (by decide) ?_
  refine lv_iadd hx hb dL_law_738 ?_
  refine va_sld hx hb hX hbl hbA hS hi1 dL_law_739 ?_
  refine lv_aload_n hx hb dL_law_740 rfl (lv_at hl 0 rfl) ?_
  refine lv_iload_n hx hb dL_law_741 rfl (lv_at hl 3 rfl) ?_
  refine lv_iconst (v := 2) hx hb dL_law_742 (by decide) ?_
  refine lv_iadd hx hb dL_law_743 ?_
  refine va_sld hx hb hX hbl hbA hS hi2 dL_law_744 ?_
  refine lv_aload_n hx hb dL_law_745 rfl (lv_at hl 0 rfl) ?_
  refine lv_iload_n hx hb dL_law_746 rfl (lv_at hl 3 rfl) ?_
  refine lv_iconst (v := 3) hx hb dL_law_747 (by decide) ?_
  refine lv_iadd hx hb dL_law_748 ?_
  refine va_sld hx hb hX hbl hbA hS hi3 dL_law_749 ?_
  refine lv_aload_n hx hb dL_law_750 rfl (lv_at hl 0 rfl) ?_
  refine lv_iload_n hx hb dL_law_751 rfl (lv_at hl 3 rfl) ?_
  refine lv_iconst (v := 4) hx hb dL_law_752 (by decide) ?_
  refine lv_iadd hx hb dL_law_753 ?_
  refine va_sld hx hb hX hbl hbA hS hi4 dL_law_754 ?_
  refine lv_aload_n hx hb dL_law_755 rfl (lv_at hl 0 rfl) ?_
  refine lv_iload_n hx hb dL_law_756 rfl (lv_at hl 3 rfl) ?_
  refine lv_iconst (v := 5) hx hb dL_law_757 (by decide) ?_
  refine lv_iadd hx hb dL_law_758 ?_
  refine va_sld hx hb hX hbl hbA hS hi5 dL_law_759 ?_
  refine jw_cx (As := [.int (xs (x3 + 1).toNatClampNeg), .int (xs (x3 + 2).toNatClampNeg), .int (xs (x3 + 3).toNatClampNeg), .int (xs (x3 + 4).toNatClampNeg), .int (xs (x3 + 5).toNatClampNeg)]) (rest := []) (r := r) (X2 := X2) hc (jc_X4_enough f1) (cwV 5 hts gL_law_X4_enough rfl rfl rfl (by decide +kernel) ⟨(Nat.le_of_ble_eq_true rfl), (Nat.le_of_ble_eq_true rfl)⟩) hP hQ hS rfl dL_law_760 rfl hl.1 (Nat.le_of_ble_eq_true rfl) hf (fun H locs hP hQ hS => ?_)
  refine lv_aload_n hx hb dL_law_763 rfl (lv_at hl 2 rfl) ?_
  refine lv_aload_n hx hb dL_law_764 rfl (lv_at hl 0 rfl) ?_
  refine lv_iload_n hx hb dL_law_765 rfl (lv_at hl 3 rfl) ?_
  refine lv_iconst (v := 1) hx hb dL_law_766 (by decide) ?_
  refine lv_iadd hx hb dL_law_767 ?_
  refine va_sld hx hb hX hbl hbA hS hi1 dL_law_768 ?_
  refine lv_aload_n hx hb dL_law_769 rfl (lv_at hl 0 rfl) ?_
  refine lv_iload_n hx hb dL_law_770 rfl (lv_at hl 3 rfl) ?_
  refine lv_iconst (v := 2) hx hb dL_law_771 (by decide) ?_
  refine lv_iadd hx hb dL_law_772 ?_
  refine va_sld hx hb hX hbl hbA hS hi2 dL_law_773 ?_
  refine lv_aload_n hx hb dL_law_774 rfl (lv_at hl 0 rfl) ?_
  refine lv_iload_n hx hb dL_law_775 rfl (lv_at hl 3 rfl) ?_
  refine lv_iconst (v := 3) hx hb dL_law_776 (by decide) ?_
  refine lv_iadd hx hb dL_law_777 ?_
  refine va_sld hx hb hX hbl hbA hS hi3 dL_law_778 ?_
  refine lv_aload_n hx hb dL_law_779 rfl (lv_at hl 0 rfl) ?_
  refine lv_iload_n hx hb dL_law_780 rfl (lv_at hl 3 rfl) ?_
  refine lv_iconst (v := 4) hx hb dL_law_781 (by decide) ?_
  refine lv_iadd hx hb dL_law_782 ?_
  refine va_sld hx hb hX hbl hbA hS hi4 dL_law_783 ?_
  refine lv_aload_n hx hb dL_law_784 rfl (lv_at hl 0 rfl) ?_
  refine lv_iload_n hx hb dL_law_785 rfl (lv_at hl 3 rfl) ?_
  refine lv_iconst (v := 5) hx hb dL_law_786 (by decide) ?_
  refine lv_iadd hx hb dL_law_787 ?_
  refine va_sld hx hb hX hbl hbA hS hi5 dL_law_788 ?_
  refine jw_cy (As := [.int (xs (x3 + 1).toNatClampNeg), .int (xs (x3 + 2).toNatClampNeg), .int (xs (x3 + 3).toNatClampNeg), .int (xs (x3 + 4).toNatClampNeg), .int (xs (x3 + 5).toNatClampNeg)]) (rest := [.int r]) (r := r) (Y2 := Y2) hc (jc_X5_enough f2) (cwV 5 hts gL_law_X5_enough rfl rfl rfl (by decide +kernel) ⟨(Nat.le_of_ble_eq_true rfl), (Nat.le_of_ble_eq_true rfl)⟩) hP hQ hS rfl dL_law_789 rfl hl.1 (Nat.le_of_ble_eq_true rfl) hf (fun H locs hP hQ hS => ?_)
  exact lv_icmp_eq (tgt := 866) hx hb dL_law_792 (by decide) (fun _ => kk n2 m2 X2 Y2 H locs hA2 hP hQ hS) (fun h => absurd rfl h)
set_option maxHeartbeats 4000000 in
set_option maxRecDepth 100000 in
theorem jw_k_least (hc : jw_Ctx p s m c b L xs D cI cT cZ B C) (hf : cells ≤ room_1.cells ∧ slots ≤ room_1.slots) {n0 m0 : Nat} (hA : jr_A n0 m0 X Y) {x3 : Int32} (hi1 : vp_in (x3 + 1) L) (hi2 : vp_in (x3 + 2) L) (hi3 : vp_in (x3 + 3) L) (hi4 : vp_in (x3 + 4) L) (hi5 : vp_in (x3 + 5) L) (hP : va_P D vwCl (jx_w cI cT B X) H) (hQ : va_P D vwCl (jy_w cI cZ C Y) H) (hS : va_S (fun q : Nat => s.heap.size ≤ q) s.heap H locs) (hl : lv_has ls 4 [(0, .ref b), (1, .ref (B 0)), (2, .ref (C 0)), (3, .int x3)])
    (kk : ∀ (n2 m2 : Nat) (X2 Y2 : jl_Mem) (H1 : Heap) (locs1 : List Loc), jr_A n2 m2 X2 Y2 → va_P D vwCl (jx_w cI cT B X2) H1 → va_P D vwCl (jy_w cI cZ C Y2) H1 → va_S (fun q : Nat => s.heap.size ≤ q) s.heap H1 locs1 → W p l e room_1 s m #[Value.ref b] below meth c H1 locs1 cells slots Q (F0 m 866 ls [])) : W p l e room_1 s m #[Value.ref b] below meth c H locs cells slots Q (F0 m 797 ls []) := by
  obtain ⟨hx, hb, hml, hown, hts, -, -, -, -, hG, hX, hbl⟩ := id hc
  have hbA : ¬ (fun q : Nat => s.heap.size ≤ q) b := Nat.not_le.mpr hbl
  obtain ⟨r, X2, Y2, n2, m2, f1, f2, hA2⟩ := jk_least hA (xs (x3 + 1).toNatClampNeg)
  refine lv_aload_n hx hb dL_law_797 rfl (lv_at hl 1 rfl) ?_
  refine lv_aload_n hx hb dL_law_798 rfl (lv_at hl 0 rfl) ?_
  refine lv_iload_n hx hb dL_law_799 rfl (lv_at hl 3 rfl) ?_
  refine lv_iconst (v := 1) hx hb dL_law_800 (by decide) ?_
  refine lv_iadd hx hb dL_law_801 ?_
  refine va_sld hx hb hX hbl hbA hS hi1 dL_law_802 ?_
  refine jw_cx (As := [.int (xs (x3 + 1).toNatClampNeg)]) (rest := []) (r := r) (X2 := X2) hc (jc_X4_least f1) (cwV 1 hts gL_law_X4_least rfl rfl rfl (by decide +kernel) ⟨(Nat.le_of_ble_eq_true rfl), (Nat.le_of_ble_eq_true rfl)⟩) hP hQ hS rfl dL_law_803 rfl hl.1 (Nat.le_of_ble_eq_true rfl) hf (fun H locs hP hQ hS => ?_)
  refine lv_aload_n hx hb dL_law_806 rfl (lv_at hl 2 rfl) ?_
  refine lv_aload_n hx hb dL_law_807 rfl (lv_at hl 0 rfl) ?_
  refine lv_iload_n hx hb dL_law_808 rfl (lv_at hl 3 rfl) ?_
  refine lv_iconst (v := 1) hx hb dL_law_809 (by decide) ?_
  refine lv_iadd hx hb dL_law_810 ?_
  refine va_sld hx hb hX hbl hbA hS hi1 dL_law_811 ?_
  refine jw_cy (As := [.int (xs (x3 + 1).toNatClampNeg)]) (rest := [.int r]) (r := r) (Y2 := Y2) hc (jc_X5_least f2) (cwV 1 hts gL_law_X5_least rfl rfl rfl (by decide +kernel) ⟨(Nat.le_of_ble_eq_true rfl), (Nat.le_of_ble_eq_true rfl)⟩) hP hQ hS rfl dL_law_812 rfl hl.1 (Nat.le_of_ble_eq_true rfl) hf (fun H locs hP hQ hS => ?_)
  exact lv_icmp_eq (tgt := 866) hx hb dL_law_815 (by decide) (fun _ => kk n2 m2 X2 Y2 H locs hA2 hP hQ hS) (fun h => absurd rfl h)
set_option maxHeartbeats 4000000 in
set_option maxRecDepth 100000 in
theorem jw_k_leastDepth (hc : jw_Ctx p s m c b L xs D cI cT cZ B C) (hf : cells ≤ room_1.cells ∧ slots ≤ room_1.slots) {n0 m0 : Nat} (hA : jr_A n0 m0 X Y) {x3 : Int32} (hi1 : vp_in (x3 + 1) L) (hi2 : vp_in (x3 + 2) L) (hi3 : vp_in (x3 + 3) L) (hi4 : vp_in (x3 + 4) L) (hi5 : vp_in (x3 + 5) L) (hP : va_P D vwCl (jx_w cI cT B X) H) (hQ : va_P D vwCl (jy_w cI cZ C Y) H) (hS : va_S (fun q : Nat => s.heap.size ≤ q) s.heap H locs) (hl : lv_has ls 4 [(0, .ref b), (1, .ref (B 0)), (2, .ref (C 0)), (3, .int x3)])
    (kk : ∀ (n2 m2 : Nat) (X2 Y2 : jl_Mem) (H1 : Heap) (locs1 : List Loc), jr_A n2 m2 X2 Y2 → va_P D vwCl (jx_w cI cT B X2) H1 → va_P D vwCl (jy_w cI cZ C Y2) H1 → va_S (fun q : Nat => s.heap.size ≤ q) s.heap H1 locs1 → W p l e room_1 s m #[Value.ref b] below meth c H1 locs1 cells slots Q (F0 m 866 ls [])) : W p l e room_1 s m #[Value.ref b] below meth c H locs cells slots Q (F0 m 820 ls []) := by
  obtain ⟨hx, hb, hml, hown, hts, -, -, -, -, hG, hX, hbl⟩ := id hc
  have hbA : ¬ (fun q : Nat => s.heap.size ≤ q) b := Nat.not_le.mpr hbl
  obtain ⟨r, X2, Y2, n2, m2, f1, f2, hA2⟩ := jk_leastDepth hA (xs (x3 + 1).toNatClampNeg)
  refine lv_aload_n hx hb dL_law_820 rfl (lv_at hl 1 rfl) ?_
  refine lv_aload_n hx hb dL_law_821 rfl (lv_at hl 0 rfl) ?_
  refine lv_iload_n hx hb dL_law_822 rfl (lv_at hl 3 rfl) ?_
  refine lv_iconst (v := 1) hx hb dL_law_823 (by decide) ?_
  refine lv_iadd hx hb dL_law_824 ?_
  refine va_sld hx hb hX hbl hbA hS hi1 dL_law_825 ?_
  refine jw_cx (As := [.int (xs (x3 + 1).toNatClampNeg)]) (rest := []) (r := r) (X2 := X2) hc (jc_X4_leastDepth f1) (cwV 1 hts gL_law_X4_leastDepth rfl rfl rfl (by decide +kernel) ⟨(Nat.le_of_ble_eq_true rfl), (Nat.le_of_ble_eq_true rfl)⟩) hP hQ hS rfl dL_law_826 rfl hl.1 (Nat.le_of_ble_eq_true rfl) hf (fun H locs hP hQ hS => ?_)
  refine lv_aload_n hx hb dL_law_829 rfl (lv_at hl 2 rfl) ?_
  refine lv_aload_n hx hb dL_law_830 rfl (lv_at hl 0 rfl) ?_
  refine lv_iload_n hx hb dL_law_831 rfl (lv_at hl 3 rfl) ?_
  refine lv_iconst (v := 1) hx hb dL_law_832 (by decide) ?_
  refine lv_iadd hx hb dL_law_833 ?_
  refine va_sld hx hb hX hbl hbA hS hi1 dL_law_834 ?_
  refine jw_cy (As := [.int (xs (x3 + 1).toNatClampNeg)]) (rest := [.int r]) (r := r) (Y2 := Y2) hc (jc_X5_leastDepth f2) (cwV 1 hts gL_law_X5_leastDepth rfl rfl rfl (by decide +kernel) ⟨(Nat.le_of_ble_eq_true rfl), (Nat.le_of_ble_eq_true rfl)⟩) hP hQ hS rfl dL_law_835 rfl hl.1 (Nat.le_of_ble_eq_true rfl) hf (fun H locs hP hQ hS => ?_)
  exact lv_icmp_eq (tgt := 866) hx hb dL_law_838 (by decide) (fun _ => kk n2 m2 X2 Y2 H locs hA2 hP hQ hS) (fun h => absurd rfl h)
set_option maxHeartbeats 4000000 in
set_option maxRecDepth 100000 in
theorem jw_k_count (hc : jw_Ctx p s m c b L xs D cI cT cZ B C) (hf : cells ≤ room_1.cells ∧ slots ≤ room_1.slots) {n0 m0 : Nat} (hA : jr_A n0 m0 X Y) {x3 : Int32} (hi1 : vp_in (x3 + 1) L) (hi2 : vp_in (x3 + 2) L) (hi3 : vp_in (x3 + 3) L) (hi4 : vp_in (x3 + 4) L) (hi5 : vp_in (x3 + 5) L) (hP : va_P D vwCl (jx_w cI cT B X) H) (hQ : va_P D vwCl (jy_w cI cZ C Y) H) (hS : va_S (fun q : Nat => s.heap.size ≤ q) s.heap H locs) (hl : lv_has ls 4 [(0, .ref b), (1, .ref (B 0)), (2, .ref (C 0)), (3, .int x3)])
    (kk : ∀ (n2 m2 : Nat) (X2 Y2 : jl_Mem) (H1 : Heap) (locs1 : List Loc), jr_A n2 m2 X2 Y2 → va_P D vwCl (jx_w cI cT B X2) H1 → va_P D vwCl (jy_w cI cZ C Y2) H1 → va_S (fun q : Nat => s.heap.size ≤ q) s.heap H1 locs1 → W p l e room_1 s m #[Value.ref b] below meth c H1 locs1 cells slots Q (F0 m 866 ls [])) : W p l e room_1 s m #[Value.ref b] below meth c H locs cells slots Q (F0 m 843 ls []) := by
  obtain ⟨hx, hb, hml, hown, hts, -, -, -, -, hG, hX, hbl⟩ := id hc
  have hbA : ¬ (fun q : Nat => s.heap.size ≤ q) b := Nat.not_le.mpr hbl
  obtain ⟨r, X2, Y2, n2, m2, f1, f2, hA2⟩ := jk_count hA (xs (x3 + 1).toNatClampNeg)
  refine lv_aload_n hx hb dL_law_843 rfl (lv_at hl 1 rfl) ?_
  refine lv_aload_n hx hb dL_law_844 rfl (lv_at hl 0 rfl) ?_
  refine lv_iload_n hx hb dL_law_845 rfl (lv_at hl 3 rfl) ?_
  refine lv_iconst (v := 1) hx hb dL_law_846 (by decide) ?_
  refine lv_iadd hx hb dL_law_847 ?_
  refine va_sld hx hb hX hbl hbA hS hi1 dL_law_848 ?_
  refine jw_cx (As := [.int (xs (x3 + 1).toNatClampNeg)]) (rest := []) (r := r) (X2 := X2) hc (jc_X4_count f1) (cwV 1 hts gL_law_X4_count rfl rfl rfl (by decide +kernel) ⟨(Nat.le_of_ble_eq_true rfl), (Nat.le_of_ble_eq_true rfl)⟩) hP hQ hS rfl dL_law_849 rfl hl.1 (Nat.le_of_ble_eq_true rfl) hf (fun H locs hP hQ hS => ?_)
  refine lv_aload_n hx hb dL_law_852 rfl (lv_at hl 2 rfl) ?_
  refine lv_aload_n hx hb dL_law_853 rfl (lv_at hl 0 rfl) ?_
  refine lv_iload_n hx hb dL_law_854 rfl (lv_at hl 3 rfl) ?_
  refine lv_iconst (v := 1) hx hb dL_law_855 (by decide) ?_
  refine lv_iadd hx hb dL_law_856 ?_
  refine va_sld hx hb hX hbl hbA hS hi1 dL_law_857 ?_
  refine jw_cy (As := [.int (xs (x3 + 1).toNatClampNeg)]) (rest := [.int r]) (r := r) (Y2 := Y2) hc (jc_X5_count f2) (cwV 1 hts gL_law_X5_count rfl rfl rfl (by decide +kernel) ⟨(Nat.le_of_ble_eq_true rfl), (Nat.le_of_ble_eq_true rfl)⟩) hP hQ hS rfl dL_law_858 rfl hl.1 (Nat.le_of_ble_eq_true rfl) hf (fun H locs hP hQ hS => ?_)
  exact lv_icmp_eq (tgt := 866) hx hb dL_law_861 (by decide) (fun _ => kk n2 m2 X2 Y2 H locs hA2 hP hQ hS) (fun h => absurd rfl h)
end
