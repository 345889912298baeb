/-! pure 16: begin -/
theorem jn_4 : (4 : Int32) = nI 4 := by decide
theorem jn_80 : (80 : Int32) = nI 80 := by decide
theorem jp_forget {ts : Nat} {X : jl_Mem} : ∃ X2, jf_X2_forget ts X = some (0, X2) ∧ (∀ l, l < 4 → X2 (ts + 1) l = 0 ∧ X2 (ts + 2) l = 0) ∧ (∀ k, k ≠ ts + 1 → k ≠ ts + 2 → X2 k = X k) := by
  unfold jf_X2_forget
  rw [jl_lt_e]
  obtain ⟨r, h1, X2, h2, h3⟩ := jl_loopF (f := fun q => jf_X2_forget_L2 ts q.1 q.2) (fun i s => s.1 = nI i ∧ (∀ l, l < i → s.2 (ts + 1) l = 0 ∧ s.2 (ts + 2) l = 0) ∧ (∀ k, k ≠ ts + 1 → k ≠ ts + 2 → s.2 k = X k))
    (fun r => ∃ X2, r = (0, X2) ∧ (∀ l, l < 4 → X2 (ts + 1) l = 0 ∧ X2 (ts + 2) l = 0) ∧ (∀ k, k ≠ ts + 1 → k ≠ ts + 2 → X2 k = X k)) 4 (by omega) (s0 := ((0 : Int32), X)) ⟨rfl, fun l hl => absurd hl (Nat.not_lt_zero l), fun _ _ _ => rfl⟩ (by
    rintro i ⟨x0, x⟩ hi ⟨q1, q2, q3⟩
    dsimp only at q1 q2 q3
    subst q1
    show (i < 4 ∧ ∃ s2, jf_X2_forget_L2 ts (nI i) x = some (.inl s2) ∧ _) ∨ ∃ r, jf_X2_forget_L2 ts (nI i) x = some (.inr r) ∧ _
    unfold jf_X2_forget_L2
    rw [jn_4]
    rcases Nat.lt_or_ge i 4 with q | q
    · rw [if_neg (nI_ge q (by omega)), jl_inb_n q (by omega), jl_chk_t, nI_clamp (by omega), jl_lt_e, jl_lt_e, jl_lt_e, nI_1]
      refine Or.inl ⟨q, _, rfl, rfl, fun l hl => ?_, fun k k1 k2 => ?_⟩
      · show jl_st (jl_st x (ts + 1) i 0) (ts + 2) i 0 (ts + 1) l = 0 ∧ jl_st (jl_st x (ts + 1) i 0) (ts + 2) i 0 (ts + 2) l = 0
        rw [jl_st_ne _ _ _ (by omega), jl_st_cell, jl_st_cell, jl_st_ne _ _ _ (by omega)]
        unfold upd
        by_cases e : l = i
        · rw [if_pos e, if_pos e]
          exact ⟨rfl, rfl⟩
        · rw [if_neg e, if_neg e]
          exact q2 l (by omega)
      · show jl_st (jl_st x (ts + 1) i 0) (ts + 2) i 0 k = X k
        rw [jl_st_ne _ _ _ k2, jl_st_ne _ _ _ k1]
        exact q3 k k1 k2
    · have ei : i = 4 := by omega
      subst ei
      rw [if_pos (nI_le (Nat.le_refl _) (by omega)), jl_ex_s]
      exact Or.inr ⟨_, rfl, x, rfl, q2, q3⟩)
  exact ⟨X2, by rw [h1, h2], h3⟩
theorem jp_clear {Y : jl_Mem} : ∃ Y2, jf_X5_clear Y = some (0, Y2) ∧ (∀ l, l < 4 → Y2 8 l = 0) ∧ (∀ l, 4 ≤ l → Y2 8 l = Y 8 l) ∧ (∀ k, k < 80 → Y2 9 k = 0) ∧ (∀ k, 80 ≤ k → Y2 9 k = Y 9 k) ∧ (∀ k, k ≠ 8 → k ≠ 9 → Y2 k = Y k) := by
  unfold jf_X5_clear
  rw [jl_lt_e]
  obtain ⟨r, h1, Y2, h2, h3⟩ := jl_loopF (f := fun q => jf_X5_clear_L2 q.1 q.2) (fun i s => s.1 = nI i ∧ (∀ l, l < i → s.2 8 l = 0) ∧ (∀ l, i ≤ l → s.2 8 l = Y 8 l) ∧ (∀ k, k ≠ 8 → s.2 k = Y k))
    (fun r => ∃ Y2, r = (0, Y2) ∧ (∀ l, l < 4 → Y2 8 l = 0) ∧ (∀ l, 4 ≤ l → Y2 8 l = Y 8 l) ∧ (∀ k, k < 80 → Y2 9 k = 0) ∧ (∀ k, 80 ≤ k → Y2 9 k = Y 9 k) ∧ (∀ k, k ≠ 8 → k ≠ 9 → Y2 k = Y k)) 4 (by omega) (s0 := ((0 : Int32), Y)) ⟨rfl, fun l hl => absurd hl (Nat.not_lt_zero l), fun _ _ => rfl, fun _ _ => rfl⟩ (by
    rintro i ⟨x0, y⟩ hi ⟨q1, q2, q3, q4⟩
    dsimp only at q1 q2 q3 q4
    subst q1
    show (i < 4 ∧ ∃ s2, jf_X5_clear_L2 (nI i) y = some (.inl s2) ∧ _) ∨ ∃ r, jf_X5_clear_L2 (nI i) y = some (.inr r) ∧ _
    unfold jf_X5_clear_L2
    rw [jn_4]
    rcases Nat.lt_or_ge i 4 with q | q
    · rw [if_neg (nI_ge q (by omega)), jl_inb_n q (by omega), jl_chk_t, nI_clamp (by omega), jl_lt_e, jl_lt_e, nI_1]
      refine Or.inl ⟨q, _, rfl, rfl, fun l hl => ?_, fun l hl => ?_, fun k k1 => ?_⟩
      · show jl_st y 8 i 0 8 l = 0
        rw [jl_st_cell]
        unfold upd
        by_cases e : l = i
        · rw [if_pos e]
        · rw [if_neg e]
          exact q2 l (by omega)
      · show jl_st y 8 i 0 8 l = Y 8 l
        rw [jl_st_cell, pk_un (by omega)]
        exact q3 l (by omega)
      · show jl_st y 8 i 0 k = Y k
        rw [jl_st_ne _ _ _ k1]
        exact q4 k k1
    · have ei : i = 4 := by omega
      subst ei
      rw [if_pos (nI_le (Nat.le_refl _) (by omega)), jl_lt_e]
      obtain ⟨r, g1, y2, g2, g3, g4, g5⟩ := jl_loopF (f := fun q => jf_X5_clear_L22 q.1 q.2) (fun i s => s.1 = nI i ∧ (∀ l, l < i → s.2 9 l = 0) ∧ (∀ l, i ≤ l → s.2 9 l = Y 9 l) ∧ (∀ k, k ≠ 9 → s.2 k = y k))
        (fun r => ∃ Y2, r = (0, Y2) ∧ (∀ k, k < 80 → Y2 9 k = 0) ∧ (∀ k, 80 ≤ k → Y2 9 k = Y 9 k) ∧ (∀ k, k ≠ 9 → Y2 k = y k)) 80 (by omega) (s0 := ((0 : Int32), y)) ⟨rfl, fun l hl => absurd hl (Nat.not_lt_zero l), fun l _ => by show y 9 l = Y 9 l; rw [q4 9 (by decide)], fun _ _ => rfl⟩ (by
        rintro j ⟨x0, z⟩ hj ⟨p1, p2, p3, p4⟩
        dsimp only at p1 p2 p3 p4
        subst p1
        show (j < 80 ∧ ∃ s2, jf_X5_clear_L22 (nI j) z = some (.inl s2) ∧ _) ∨ ∃ r, jf_X5_clear_L22 (nI j) z = some (.inr r) ∧ _
        unfold jf_X5_clear_L22
        rw [jn_80]
        rcases Nat.lt_or_ge j 80 with q | q
        · rw [if_neg (nI_ge q (by omega)), jl_inb_n q (by omega), jl_chk_t, nI_clamp (by omega), jl_lt_e, jl_lt_e, nI_1]
          refine Or.inl ⟨q, _, rfl, rfl, fun l hl => ?_, fun l hl => ?_, fun k k1 => ?_⟩
          · show jl_st z 9 j 0 9 l = 0
            rw [jl_st_cell]
            unfold upd
            by_cases e : l = j
            · rw [if_pos e]
            · rw [if_neg e]
              exact p2 l (by omega)
          · show jl_st z 9 j 0 9 l = Y 9 l
            rw [jl_st_cell, pk_un (by omega)]
            exact p3 l (by omega)
          · show jl_st z 9 j 0 k = y k
            rw [jl_st_ne _ _ _ k1]
            exact p4 k k1
        · have ej : j = 80 := by omega
          subst ej
          rw [if_pos (nI_le (Nat.le_refl _) (by omega)), jl_ex_s]
          exact Or.inr ⟨_, rfl, z, rfl, p2, p3, p4⟩)
      rw [g1, jl_ex_s]
      refine Or.inr ⟨_, rfl, y2, g2, fun l hl => by rw [g5 8 (by decide)]; exact q2 l hl, fun l hl => by rw [g5 8 (by decide)]; exact q3 l hl, g3, g4, fun k k1 k2 => by rw [g5 k k2, q4 k k1]⟩)
  exact ⟨Y2, by rw [h1, h2], h3⟩
theorem jn_rng1 {x : Int32} {n : Nat} (hn : n < 2 ^ 30) : (1 ≤ x ∧ x ≤ nI n) ↔ ∃ k, 0 < k ∧ k ≤ n ∧ x = nI k := by
  constructor
  · rintro ⟨a, b⟩
    have h9 : (1 : Int32).toInt = 1 := by decide
    have h8 : (0 : Int32).toInt = 0 := by decide
    rw [jn_le, h9] at a
    have a' : ¬ x < 0 := by
      rw [jn_lt, h8]
      omega
    obtain ⟨j, hj, e⟩ := nI_of a'
    rw [e, nI_toInt hj] at a
    rw [jn_le, e, nI_toInt hj, nI_toInt (by omega)] at b
    exact ⟨j, by omega, by omega, e⟩
  · rintro ⟨k, h1, h2, e⟩
    rw [e]
    exact ⟨nI_le (a := 1) h1 (by omega), nI_le h2 (by omega)⟩
theorem jq_sum_0 {f : Nat → Int32} : ∀ {m : Nat}, (∀ l, l < m → f l = 0) → jq_sum f m = 0
  | 0, _ => rfl
  | m + 1, h => by
    unfold jq_sum
    rw [jq_sum_0 (fun l hl => h l (by omega)), h m (by omega)]
    decide
theorem jp_start {n m k : Nat} {X Y : jl_Mem} {a1 a3 : Int32} (h : jr_A n m X Y) (k0 : 0 < k) (kn : k ≤ n) (ha : a1 = 0 ∨ a1 = 1 ∨ a1 = 2) (ha3 : a1 = 2 → 0 < a3) :
    ∃ (b : Bool) (X2 Y1 Y2 : jl_Mem), jf_X1_start a1 (nI k) a3 X = some (0, X2) ∧
      jf_X5_clear (jl_st (jl_st (jl_st (jl_st (jl_st (jl_st (jl_st (jl_st Y 0 16 1) 0 17 a1) 0 18 (nI k)) 0 19 a3) 0 20 0) 0 21 0) 0 22 0) 0 23 0) = some (0, Y1) ∧ jf_X5_looks Y1 = some (jq_i b, Y2) ∧ jr_A n m X2 Y2 ∧ X2 23 3 = jq_i b := by
  obtain ⟨hI, hB, hZ, hT, hY, -⟩ := h
  have hm := hI.1.2.1
  have hn := hI.1.1
  obtain ⟨X1, eX⟩ : ∃ X1, X1 = jl_st (jl_st (jl_st (jl_st (jl_st (jl_st (jl_st X 23 2 1) 23 4 a1) 23 5 (nI k)) 23 6 a3) 23 7 0) 23 8 0) 23 9 0 := ⟨_, rfl⟩
  obtain ⟨Y0, eY⟩ : ∃ Y0, Y0 = jl_st (jl_st (jl_st (jl_st (jl_st (jl_st (jl_st (jl_st Y 0 16 1) 0 17 a1) 0 18 (nI k)) 0 19 a3) 0 20 0) 0 21 0) 0 22 0) 0 23 0 := ⟨_, rfl⟩
  rw [← eY]
  have c9 : ∀ q, q ≠ 23 → X1 q = X q := fun q hq => by rw [eX, jl_st_ne _ _ _ hq, jl_st_ne _ _ _ hq, jl_st_ne _ _ _ hq, jl_st_ne _ _ _ hq, jl_st_ne _ _ _ hq, jl_st_ne _ _ _ hq, jl_st_ne _ _ _ hq]
  have d9 : ∀ q, q ≠ 0 → Y0 q = Y q := fun q hq => by rw [eY, jl_st_ne _ _ _ hq, jl_st_ne _ _ _ hq, jl_st_ne _ _ _ hq, jl_st_ne _ _ _ hq, jl_st_ne _ _ _ hq, jl_st_ne _ _ _ hq, jl_st_ne _ _ _ hq, jl_st_ne _ _ _ hq]
  have c23 : X1 23 = upd (upd (upd (upd (upd (upd (upd (X 23) 2 1) 4 a1) 5 (nI k)) 6 a3) 7 0) 8 0) 9 0 := by rw [eX, jl_st_cell, jl_st_cell, jl_st_cell, jl_st_cell, jl_st_cell, jl_st_cell, jl_st_cell]
  have d0 : Y0 0 = upd (upd (upd (upd (upd (upd (upd (upd (Y 0) 16 1) 17 a1) 18 (nI k)) 19 a3) 20 0) 21 0) 22 0) 23 0 := by rw [eY, jl_st_cell, jl_st_cell, jl_st_cell, jl_st_cell, jl_st_cell, jl_st_cell, jl_st_cell, jl_st_cell]
  obtain ⟨Xf, f1, f2, f3⟩ := jp_forget (ts := 24) (X := X1)
  obtain ⟨Yf, g1, g2, g3, g4, g5, g6⟩ := jp_clear (Y := Y0)
  have x23 : Xf 23 = X1 23 := f3 23 (by decide) (by decide)
  have y0 : Yf 0 = Y0 0 := g6 0 (by decide) (by decide)
  have cx : ∀ q, q ≠ 23 → q ≠ 25 → q ≠ 26 → Xf q = X q := fun q h1 h2 h3 => by rw [f3 q h2 h3, c9 q h1]
  have cy : ∀ q, q ≠ 0 → q ≠ 8 → q ≠ 9 → Yf q = Y q := fun q h1 h2 h3 => by rw [g6 q h2 h3, d9 q h1]
  have cxl : ∀ q, q < 21 → Xf q = X q := fun q hq => cx q (by omega) (by omega) (by omega)
  have hl0 : ∀ l t, l < m → t < n → jq_bit (Xf 26 l) t = false := fun l t hl ht => by
    rw [(f2 l (by omega)).2]
    exact jq_bit_0 (by omega)
  have hP : jr_P n m Xf Yf := by
    refine ⟨?_, ?_, hZ.cx hm cxl, ⟨fun l hl => by rw [cy 16 (by decide) (by decide) (by decide), cx 35 (by decide) (by decide) (by decide)]; exact hT.1 l hl, fun l hl => by rw [cx 32 (by decide) (by decide) (by decide)]; exact hT.2 l hl⟩, ⟨fun q hq => by rw [g4 q hq]; decide, fun t ht => by rw [cy 10 (by decide) (by decide) (by decide)]; exact hY.2 t ht⟩, ⟨by rw [x23, c23]; rfl, by rw [y0, d0]; rfl⟩, fun l hl => ⟨0, by omega, (f2 l (by omega)).1, ?_⟩, ⟨fun l hl => by rw [g2 l (by omega), (f2 l (by omega)).1], fun l t hl ht => ⟨fun _ => hl0 l t hl ht, fun _ => g4 _ (by omega)⟩⟩, ⟨by rw [x23, y0, c23, d0]; rfl, by rw [x23, y0, c23, d0]; rfl, by rw [x23, y0, c23, d0]; rfl, by rw [x23, y0, c23, d0]; rfl, by rw [x23, y0, c23, d0]; rfl, by rw [x23, y0, c23, d0]; rfl⟩, ⟨k, k0, kn, by rw [x23, c23]; rfl⟩, ?_, fun l t hl ht hb => absurd (hb.symm.trans (hl0 l t hl ht)) (by decide), ?_⟩
    · obtain ⟨⟨a, b, c, d⟩, e, f, g⟩ := hI
      refine ⟨⟨a, b, by rw [cxl 1 (by omega)]; exact c, by rw [cxl 1 (by omega)]; exact d⟩, fun o ho => by rw [cxl 2 (by omega)]; exact e o ho, fun o u ho hu => by rw [cxl (7 + o) (by omega)]; exact f o u ho hu, fun o ho => ?_⟩
      rw [cxl 5 (by omega), cxl (12 + o) (by omega), cxl (7 + o) (by omega), cxl (17 + o) (by omega)]
      exact g o ho
    · refine jr_B.cx ?_ hm cxl
      obtain ⟨b1, b2, b3, b4, b5, b6, b7⟩ := hB
      refine ⟨by rw [y0, d0]; exact b1, by rw [y0, d0]; exact b2, by rw [y0, d0]; exact b3, ?_, ?_, ?_, ?_⟩
      · rw [cy 1 (by decide) (by decide) (by decide), cy 2 (by decide) (by decide) (by decide), cy 3 (by decide) (by decide) (by decide)]
        exact b4
      · rw [cy 6 (by decide) (by decide) (by decide)]
        exact b5
      · rw [cy 4 (by decide) (by decide) (by decide)]
        exact b6
      · rw [cy 5 (by decide) (by decide) (by decide)]
        exact b7
    · rw [cxl 5 (by omega)]
      obtain ⟨ln, a1, a2, -⟩ := hI.2.2.2 l hl
      rw [a2]
      exact nI_le (by omega) (by omega)
    · rw [jq_sum_0 (fun l hl => (f2 l (by omega)).1), y0, d0]
      rfl
    · have e4 : Xf 23 4 = a1 := by rw [x23, c23]; rfl
      have e6 : Xf 23 6 = a3 := by rw [x23, c23]; rfl
      rw [e4, e6]
      exact ⟨ha, ha3⟩
  have e5 : Xf 23 5 = nI k := by rw [x23, c23]; rfl
  obtain ⟨b, X2, Y2, p1, p2, p3, p4, p5, p6, p7⟩ := jp_look hP
  rw [e5] at p1
  refine ⟨b, jl_st X2 23 3 (jq_i b), Yf, Y2, ?_, g1, p2, p3, p5⟩
  unfold jf_X1_start
  simp only [jl_lt_e]
  rw [← eX, f1, jl_bnd_s, p1, jl_bnd_s, jq_b, jl_chk_t]
theorem jk_begin {n m : Nat} {X Y : jl_Mem} (h : jr_A n m X Y) (a b c : Int32) : jr_ok (jf_X4_begin a b c X) (jf_X5_begin a b c Y) := by
  obtain ⟨hI, hB, -⟩ := id h
  have hn := hI.1.1
  unfold jf_X4_begin jf_X5_begin jf_X0_mayAskFor
  rw [hI.1.2.2.1, hB.1]
  by_cases hk : 1 ≤ b ∧ b ≤ nI n
  · rw [jp_wi_y hk, jp_in_y hk, jl_bnd_s, jl_bnd_s, jl_isB_1, jl_chk_t, jl_bnd_s, jq_10, jq_10]
    obtain ⟨k, k0, kn, rfl⟩ := (jn_rng1 (by omega)).mp hk
    by_cases hw : 0 ≤ a ∧ a ≤ 2
    · rw [jp_wi_y hw, jp_in_y hw, jl_bnd_s, jl_bnd_s, jq_10, jq_10]
      have ha : a = 0 ∨ a = 1 ∨ a = 2 := by
        obtain ⟨t, ht, e⟩ := (jn_rng (x := a) (n := 3) (by omega)).mp hw
        rcases (show t = 0 ∨ t = 1 ∨ t = 2 by omega) with q | q | q
        · subst q
          exact Or.inl e
        · subst q
          exact Or.inr (Or.inl e)
        · subst q
          exact Or.inr (Or.inr e)
      by_cases h2 : a = 2
      · rw [if_pos h2, if_pos h2]
        by_cases hc : 1 ≤ c ∧ c ≤ 10
        · have hc0 : 0 < c := by
            have h9 := hc.1
            rw [jn_le] at h9
            rw [jn_lt]
            have h8 : (1 : Int32).toInt = 1 := by decide
            have h7 : (0 : Int32).toInt = 0 := by decide
            omega
          rw [jp_wi_y hc, jp_in_y hc, jl_bnd_s, jl_bnd_s, jq_10, jq_10]
          obtain ⟨d, X2, Y1, Y2, g1, g2, g3, g4, g5⟩ := jp_start h k0 kn ha (fun _ => hc0)
          simp only [jl_lt_e]
          rw [g1, jl_bnd_s, g2, jl_bnd_s, g3, jl_bnd_s, g5, jq_yes, jl_bnd_s]
          refine ⟨jq_i d, X2, Y2, n, m, rfl, ?_, g4⟩
          cases d <;> rfl
        · rw [jp_wi_n hc, jp_in_n hc, jl_bnd_s, jl_bnd_s, jq_00, jq_00]
          exact h.id rfl rfl
      · rw [if_neg h2, if_neg h2]
        by_cases hc : c = 0
        · rw [if_pos hc, if_pos hc]
          obtain ⟨d, X2, Y1, Y2, g1, g2, g3, g4, g5⟩ := jp_start (a3 := c) h k0 kn ha (fun q => absurd q h2)
          simp only [jl_lt_e]
          rw [g1, jl_bnd_s, g2, jl_bnd_s, g3, jl_bnd_s, g5, jq_yes, jl_bnd_s]
          refine ⟨jq_i d, X2, Y2, n, m, rfl, ?_, g4⟩
          cases d <;> rfl
        · rw [if_neg hc, if_neg hc]
          exact h.id rfl rfl
    · rw [jp_wi_n hw, jp_in_n hw, jl_bnd_s, jl_bnd_s, jq_00, jq_00]
      exact h.id rfl rfl
  · rw [jp_wi_n hk, jp_in_n hk, jl_bnd_s, jl_bnd_s, jl_isB_0, jl_chk_t, jl_bnd_s, jq_00, jq_00]
    exact h.id rfl rfl
