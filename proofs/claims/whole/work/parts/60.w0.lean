/-! the law: both worlds side by side, one call on each -/
def jw_G (B C : Nat → Nat) (sz : Nat) : Prop := jx_inj B ∧ jy_inj C ∧ (∀ i j : Nat, i < 36 → j < 17 → B i ≠ C j) ∧ (∀ i : Nat, i < 36 → sz ≤ B i) ∧ (∀ j : Nat, j < 17 → sz ≤ C j)
def jw_Ctx (p : Program) (s : State) (m : MethodId) (c : Code) (b L : Nat) (xs : Nat → Int32) (D : va_G) (cI cT cZ : ClassId) (B C : Nat → Nat) : Prop :=
  p.tables.exec = Jvm.exec ∧ c.code = code ∧ c.maxLocals = 4 ∧ s.vm.findClass RL = some m.cls ∧ (∀ w ∈ wsL_law, w.before #[Value.ref b] s = true) ∧ va_K D vwCl (jx_ty cI cT) s ∧ va_K D vwCl (jy_ty cI cZ) s ∧ jx_N s ∧ jy_N s ∧ jw_G B C s.heap.size ∧ va_X b L xs s s.heap ∧ b < s.heap.size
section
variable {p : Program} {l : Launch} {e : Env} {s : State} {m : MethodId} {below : List Frame} {meth : Method} {c : Code} {H : Heap} {locs : List Loc} {cells slots : Nat} {Q : State → Prop} {pc : Nat} {ls : Array Slot} {D : va_G} {cI cT cZ : ClassId} {B C : Nat → Nat} {X Y : jl_Mem} {b L : Nat} {xs : Nat → Int32}
theorem jw_cx {y : MethodName} {bytes : ByteArray} {maxL n index : Nat} {ret : Option FieldType} {ws : List Cond} {rm : Room} {As st0 rest : List Value} {r : Int32} {X2 : jl_Mem} (hc : jw_Ctx p s m c b L xs D cI cT cZ B C) (hM : Met l y ws rm (va_Pc (.ref (B 0) :: As) (jx_U D cI cT B X)) (va_Qi (fun (q : Int32) (_ : Unit) => q = r) (fun _ t => va_P D vwCl (jx_w cI cT B X2) t.heap) (jx_A B)) 0 0 (jx_A B)) (cw : CallW room_1 s #[Value.ref b] RL RX4 index y bytes maxL ret ws rm 0 0 n)
    (hP : va_P D vwCl (jx_w cI cT B X) H) (hQ : va_P D vwCl (jy_w cI cZ C Y) H) (hS : va_S (fun q : Nat => s.heap.size ≤ q) s.heap H locs) (hst : st0 = As.reverse ++ .ref (B 0) :: rest) (hdg : decode code pc = .ok (.invokevirtual index, 3)) (hn : As.length = n) (hsize : ls.size = 4) (hW : (rest.map fun v => v.category).sum ≤ 8) (hf : cells ≤ room_1.cells ∧ slots ≤ room_1.slots)
    (kk : ∀ (H1 : Heap) (locs1 : List Loc), va_P D vwCl (jx_w cI cT B X2) H1 → va_P D vwCl (jy_w cI cZ C Y) H1 → va_S (fun q : Nat => s.heap.size ≤ q) s.heap H1 locs1 → W p l e room_1 s m #[Value.ref b] below meth c H1 locs1 cells slots Q (F0 m (pc + 3) ls (.int r :: rest))) : W p l e room_1 s m #[Value.ref b] below meth c H locs cells slots Q (F0 m pc ls st0) := by
  obtain ⟨hx, hb, hml, hown, hts, hK, -, hN, -, ⟨hB, hC, hap, hb1, hb2⟩, -, -⟩ := hc
  have hA : ∀ q : Nat, jx_A B q → s.heap.size ≤ q := fun q ⟨k, hk, e⟩ => by rw [e]; exact hb1 k hk
  exact va_calli (va_runV (As := As) (rest := rest) ⟨hx, hb, hml, hown, hts⟩ hM cw ⟨jx_blind, va_recv (q := (RX4, TX4, 3)) (q0 := 0) hK hP (ci := 4) rfl rfl, fun U hU hWm => ⟨rfl, va_K.moved hWm.alike hK, by rw [hU]; exact hP, hB, jx_N.warm hWm hN⟩⟩ rfl hn hsize hst (lv_room hW) hdg hf) hS (fun q _ h => hA q h) hA (fun q u t H1 locs1 ht _ hq hB1 _ hk hS1 => by
    rw [hq]
    refine kk H1 locs1 (by rw [← ht]; exact hB1) (hQ.kept (fun k x hx => hk x.1 ((hQ k x hx).lt) (fun ⟨i, hi, e⟩ => ?_))) hS1
    obtain ⟨h1, h2⟩ := jy_adr hx
    exact hap i k hi h1 (e.symm.trans h2))
theorem jw_cy {y : MethodName} {bytes : ByteArray} {maxL n index : Nat} {ret : Option FieldType} {ws : List Cond} {rm : Room} {As st0 rest : List Value} {r : Int32} {Y2 : jl_Mem} (hc : jw_Ctx p s m c b L xs D cI cT cZ B C) (hM : Met l y ws rm (va_Pc (.ref (C 0) :: As) (jy_U D cI cZ C Y)) (va_Qi (fun (q : Int32) (_ : Unit) => q = r) (fun _ t => va_P D vwCl (jy_w cI cZ C Y2) t.heap) (jy_A C)) 0 0 (jy_A C)) (cw : CallW room_1 s #[Value.ref b] RL RX5 index y bytes maxL ret ws rm 0 0 n)
    (hP : va_P D vwCl (jx_w cI cT B X) H) (hQ : va_P D vwCl (jy_w cI cZ C Y) H) (hS : va_S (fun q : Nat => s.heap.size ≤ q) s.heap H locs) (hst : st0 = As.reverse ++ .ref (C 0) :: rest) (hdg : decode code pc = .ok (.invokevirtual index, 3)) (hn : As.length = n) (hsize : ls.size = 4) (hW : (rest.map fun v => v.category).sum ≤ 8) (hf : cells ≤ room_1.cells ∧ slots ≤ room_1.slots)
    (kk : ∀ (H1 : Heap) (locs1 : List Loc), va_P D vwCl (jx_w cI cT B X) H1 → va_P D vwCl (jy_w cI cZ C Y2) H1 → va_S (fun q : Nat => s.heap.size ≤ q) s.heap H1 locs1 → W p l e room_1 s m #[Value.ref b] below meth c H1 locs1 cells slots Q (F0 m (pc + 3) ls (.int r :: rest))) : W p l e room_1 s m #[Value.ref b] below meth c H locs cells slots Q (F0 m pc ls st0) := by
  obtain ⟨hx, hb, hml, hown, hts, -, hK, -, hN, ⟨hB, hC, hap, hb1, hb2⟩, -, -⟩ := hc
  have hA : ∀ q : Nat, jy_A C q → s.heap.size ≤ q := fun q ⟨k, hk, e⟩ => by rw [e]; exact hb2 k hk
  exact va_calli (va_runV (As := As) (rest := rest) ⟨hx, hb, hml, hown, hts⟩ hM cw ⟨jy_blind, va_recv (q := (RX5, TX5, 29)) (q0 := 0) hK hQ (ci := 5) rfl rfl, fun U hU hWm => ⟨rfl, va_K.moved hWm.alike hK, by rw [hU]; exact hQ, hC, jy_N.warm hWm hN⟩⟩ rfl hn hsize hst (lv_room hW) hdg hf) hS (fun q _ h => hA q h) hA (fun q u t H1 locs1 ht _ hq hB1 _ hk hS1 => by
    rw [hq]
    refine kk H1 locs1 (hP.kept (fun k x hx => hk x.1 ((hP k x hx).lt) (fun ⟨i, hi, e⟩ => ?_))) (by rw [← ht]; exact hB1) hS1
    obtain ⟨h1, h2⟩ := jx_adr hx
    exact hap k i h1 hi (h2.symm.trans e))
end
section
variable {p : Program} {l : Launch} {e : Env} {s : State} {m : MethodId} {below : List Frame} {meth : Method} {c : Code} {H : Heap} {locs : List Loc} {cells slots : Nat} {Q : State → Prop} {ls : Array Slot} {D : va_G} {cI cT cZ : ClassId} {B C : Nat → Nat} {X Y : jl_Mem} {b L : Nat} {xs : Nat → Int32}
set_option maxHeartbeats 4000000 in
set_option maxRecDepth 100000 in
theorem jw_k_thing (hc : jw_Ctx p s m c b L xs D cI cT cZ B C) (hf : cells ≤ room_1.cells ∧ slots ≤ room_1.slots) {n0 m0 : Nat} (hA : jr_A n0 m0 X Y) {x3 : Int32} (hi1 : vp_in (x3 + 1) L) (hi2 : vp_in (x3 + 2) L) (hi3 : vp_in (x3 + 3) L) (hi4 : vp_in (x3 + 4) L) (hi5 : vp_in (x3 + 5) L) (hP : va_P D vwCl (jx_w cI cT B X) H) (hQ : va_P D vwCl (jy_w cI cZ C Y) H) (hS : va_S (fun q : Nat => s.heap.size ≤ q) s.heap H locs) (hl : lv_has ls 4 [(0, .ref b), (1, .ref (B 0)), (2, .ref (C 0)), (3, .int x3)])
    (kk : ∀ (n2 m2 : Nat) (X2 Y2 : jl_Mem) (H1 : Heap) (locs1 : List Loc), jr_A n2 m2 X2 Y2 → va_P D vwCl (jx_w cI cT B X2) H1 → va_P D vwCl (jy_w cI cZ C Y2) H1 → va_S (fun q : Nat => s.heap.size ≤ q) s.heap H1 locs1 → W p l e room_1 s m #[Value.ref b] below meth c H1 locs1 cells slots Q (F0 m 866 ls [])) : W p l e room_1 s m #[Value.ref b] below meth c H locs cells slots Q (F0 m 144 ls []) := by
  obtain ⟨hx, hb, hml, hown, hts, -, -, -, -, hG, hX, hbl⟩ := id hc
  have hbA : ¬ (fun q : Nat => s.heap.size ≤ q) b := Nat.not_le.mpr hbl
  obtain ⟨r, X2, Y2, n2, m2, f1, f2, hA2⟩ := jk_thing hA
  refine lv_aload_n hx hb dL_law_144 rfl (lv_at hl 1 rfl) ?_
  refine jw_cx (As := []) (rest := []) (r := r) (X2 := X2) hc (jc_X4_thing f1) (cwV 0 hts gL_law_X4_thing rfl rfl rfl (by decide +kernel) ⟨(Nat.le_of_ble_eq_true rfl), (Nat.le_of_ble_eq_true rfl)⟩) hP hQ hS rfl dL_law_145 rfl hl.1 (Nat.le_of_ble_eq_true rfl) hf (fun H locs hP hQ hS => ?_)
  refine lv_aload_n hx hb dL_law_148 rfl (lv_at hl 2 rfl) ?_
  refine jw_cy (As := []) (rest := [.int r]) (r := r) (Y2 := Y2) hc (jc_X5_thing f2) (cwV 0 hts gL_law_X5_thing rfl rfl rfl (by decide +kernel) ⟨(Nat.le_of_ble_eq_true rfl), (Nat.le_of_ble_eq_true rfl)⟩) hP hQ hS rfl dL_law_149 rfl hl.1 (Nat.le_of_ble_eq_true rfl) hf (fun H locs hP hQ hS => ?_)
  exact lv_icmp_eq (tgt := 866) hx hb dL_law_152 (by decide) (fun _ => kk n2 m2 X2 Y2 H locs hA2 hP hQ hS) (fun h => absurd rfl h)
set_option maxHeartbeats 4000000 in
set_option maxRecDepth 100000 in
theorem jw_k_list (hc : jw_Ctx p s m c b L xs D cI cT cZ B C) (hf : cells ≤ room_1.cells ∧ slots ≤ room_1.slots) {n0 m0 : Nat} (hA : jr_A n0 m0 X Y) {x3 : Int32} (hi1 : vp_in (x3 + 1) L) (hi2 : vp_in (x3 + 2) L) (hi3 : vp_in (x3 + 3) L) (hi4 : vp_in (x3 + 4) L) (hi5 : vp_in (x3 + 5) L) (hP : va_P D vwCl (jx_w cI cT B X) H) (hQ : va_P D vwCl (jy_w cI cZ C Y) H) (hS : va_S (fun q : Nat => s.heap.size ≤ q) s.heap H locs) (hl : lv_has ls 4 [(0, .ref b), (1, .ref (B 0)), (2, .ref (C 0)), (3, .int x3)])
    (kk : ∀ (n2 m2 : Nat) (X2 Y2 : jl_Mem) (H1 : Heap) (locs1 : List Loc), jr_A n2 m2 X2 Y2 → va_P D vwCl (jx_w cI cT B X2) H1 → va_P D vwCl (jy_w cI cZ C Y2) H1 → va_S (fun q : Nat => s.heap.size ≤ q) s.heap H1 locs1 → W p l e room_1 s m #[Value.ref b] below meth c H1 locs1 cells slots Q (F0 m 866 ls [])) : W p l e room_1 s m #[Value.ref b] below meth c H locs cells slots Q (F0 m 157 ls []) := by
  obtain ⟨hx, hb, hml, hown, hts, -, -, -, -, hG, hX, hbl⟩ := id hc
  have hbA : ¬ (fun q : Nat => s.heap.size ≤ q) b := Nat.not_le.mpr hbl
  obtain ⟨r, X2, Y2, n2, m2, f1, f2, hA2⟩ := jk_list hA (xs (x3 + 1).toNatClampNeg) (xs (x3 + 2).toNatClampNeg) (xs (x3 + 3).toNatClampNeg)
  refine lv_aload_n hx hb dL_law_157 rfl (lv_at hl 1 rfl) ?_
  refine lv_aload_n hx hb dL_law_158 rfl (lv_at hl 0 rfl) ?_
  refine lv_iload_n hx hb dL_law_159 rfl (lv_at hl 3 rfl) ?_
  refine lv_iconst (v := 1) hx hb dL_law_160 (by decide) ?_
  refine lv_iadd hx hb dL_law_161 ?_
  refine va_sld hx hb hX hbl hbA hS hi1 dL_law_162 ?_
  refine lv_aload_n hx hb dL_law_163 rfl (lv_at hl 0 rfl) ?_
  refine lv_iload_n hx hb dL_law_164 rfl (lv_at hl 3 rfl) ?_
  refine lv_iconst (v := 2) hx hb dL_law_165 (by decide) ?_
  refine lv_iadd hx hb dL_law_166 ?_
  refine va_sld hx hb hX hbl hbA hS hi2 dL_law_167 ?_
  refine lv_aload_n hx hb dL_law_168 rfl (lv_at hl 0 rfl) ?_
  refine lv_iload_n hx hb dL_law_169 rfl (lv_at hl 3 rfl) ?_
  refine lv_iconst (v := 3) hx hb dL_law_170 (by decide) ?_
  refine lv_iadd hx hb dL_law_171 ?_
  refine va_sld hx hb hX hbl hbA hS hi3 dL_law_172 ?_
  refine jw_cx (As := [.int (xs (x3 + 1).toNatClampNeg), .int (xs (x3 + 2).toNatClampNeg), .int (xs (x3 + 3).toNatClampNeg)]) (rest := []) (r := r) (X2 := X2) hc (jc_X4_list f1) (cwV 3 hts gL_law_X4_list rfl rfl rfl (by decide +kernel) ⟨(Nat.le_of_ble_eq_true rfl), (Nat.le_of_ble_eq_true rfl)⟩) hP hQ hS rfl dL_law_173 rfl hl.1 (Nat.le_of_ble_eq_true rfl) hf (fun H locs hP hQ hS => ?_)
  refine lv_aload_n hx hb dL_law_176 rfl (lv_at hl 2 rfl) ?_
  refine lv_aload_n hx hb dL_law_177 rfl (lv_at hl 0 rfl) ?_
  refine lv_iload_n hx hb dL_law_178 rfl (lv_at hl 3 rfl) ?_
  refine lv_iconst (v := 1) hx hb dL_law_179 (by decide) ?_
  refine lv_iadd hx hb dL_law_180 ?_
  refine va_sld hx hb hX hbl hbA hS hi1 dL_law_181 ?_
  refine lv_aload_n hx hb dL_law_182 rfl (lv_at hl 0 rfl) ?_
  refine lv_iload_n hx hb dL_law_183 rfl (lv_at hl 3 rfl) ?_
  refine lv_iconst (v := 2) hx hb dL_law_184 (by decide) ?_
  refine lv_iadd hx hb dL_law_185 ?_
  refine va_sld hx hb hX hbl hbA hS hi2 dL_law_186 ?_
  refine lv_aload_n hx hb dL_law_187 rfl (lv_at hl 0 rfl) ?_
  refine lv_iload_n hx hb dL_law_188 rfl (lv_at hl 3 rfl) ?_
  refine lv_iconst (v := 3) hx hb dL_law_189 (by decide) ?_
  refine lv_iadd hx hb dL_law_190 ?_
  refine va_sld hx hb hX hbl hbA hS hi3 dL_law_191 ?_
  refine jw_cy (As := [.int (xs (x3 + 1).toNatClampNeg), .int (xs (x3 + 2).toNatClampNeg), .int (xs (x3 + 3).toNatClampNeg)]) (rest := [.int r]) (r := r) (Y2 := Y2) hc (jc_X5_list f2) (cwV 3 hts gL_law_X5_list rfl rfl rfl (by decide +kernel) ⟨(Nat.le_of_ble_eq_true rfl), (Nat.le_of_ble_eq_true rfl)⟩) hP hQ hS rfl dL_law_192 rfl hl.1 (Nat.le_of_ble_eq_true rfl) hf (fun H locs hP hQ hS => ?_)
  exact lv_icmp_eq (tgt := 866) hx hb dL_law_195 (by decide) (fun _ => kk n2 m2 X2 Y2 H locs hA2 hP hQ hS) (fun h => absurd rfl h)
end
