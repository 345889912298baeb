/-! pure 17: enough -/
theorem jl_copy {R : Type} {f : Int32 × jl_Mem → Option ((Int32 × jl_Mem) ⊕ R)} {a b N : Nat} {Y : jl_Mem} (Post : R → Prop) (hab : a ≠ b) (hN : N < 1000)
    (step : ∀ i y, i < N → (∀ k, k ≠ b → y k = Y k) → f (nI i, y) = some (.inl (nI (i + 1), jl_st y b i (y a i))))
    (fin : ∀ y, (∀ l, l < N → y b l = Y a l) → (∀ l, N ≤ l → y b l = Y b l) → (∀ k, k ≠ b → y k = Y k) → ∃ r, f (nI N, y) = some (.inr r) ∧ Post r) : ∃ r, jl_wh f jl_F ((0 : Int32), Y) = some r ∧ Post r := by
  refine jl_loopF (f := f) (fun i s => s.1 = nI i ∧ (∀ l, l < i → s.2 b l = Y a l) ∧ (∀ l, i ≤ l → s.2 b l = Y b l) ∧ (∀ k, k ≠ b → s.2 k = Y k)) Post N hN (s0 := ((0 : Int32), Y)) ⟨rfl, fun l hl => absurd hl (Nat.not_lt_zero l), fun _ _ => rfl, fun _ _ => rfl⟩ ?_
  rintro i ⟨x0, y⟩ hi ⟨q1, q2, q3, q4⟩
  dsimp only at q1 q2 q3 q4
  subst q1
  rcases Nat.lt_or_ge i N with q | q
  · refine Or.inl ⟨q, _, step i y q q4, rfl, fun l hl => ?_, fun l hl => ?_, fun k hk => ?_⟩
    · show jl_st y b i (y a i) b l = Y a l
      rw [jl_st_cell]
      unfold upd
      by_cases e : l = i
      · rw [if_pos e, q4 a hab, e]
      · rw [if_neg e]
        exact q2 l (by omega)
    · show jl_st y b i (y a i) b l = Y b l
      rw [jl_st_cell, pk_un (by omega)]
      exact q3 l (by omega)
    · show jl_st y b i (y a i) k = Y k
      rw [jl_st_ne _ _ _ hk]
      exact q4 k hk
  · have ei : i = N := by omega
    subst ei
    exact Or.inr (fin y q2 q3 q4)
theorem jp_aside {Y : jl_Mem} (hb : ∀ k, k < 80 → jl_isB (Y 9 k) = true) : ∃ Y2, jf_X5_aside Y = some (0, Y2) ∧ (∀ l, l < 4 → Y2 14 l = Y 8 l) ∧ (∀ k, k < 80 → Y2 15 k = Y 9 k) ∧ (∀ l, l < 4 → Y2 8 l = 0) ∧ (∀ l, 4 ≤ l → Y2 8 l = Y 8 l) ∧ (∀ k, k < 80 → Y2 9 k = 0) ∧ (∀ k, 80 ≤ k → Y2 9 k = Y 9 k) ∧ (∀ k, k ≠ 8 → k ≠ 9 → k ≠ 14 → k ≠ 15 → Y2 k = Y k) := by
  unfold jf_X5_aside
  rw [jl_lt_e]
  obtain ⟨r, h1, Y2, h2, h3⟩ := jl_copy (f := fun q => jf_X5_aside_L2 q.1 q.2) (a := 8) (b := 14) (N := 4) (Y := Y) (fun r => ∃ Y2, r = (0, Y2) ∧ (∀ l, l < 4 → Y2 14 l = Y 8 l) ∧ (∀ k, k < 80 → Y2 15 k = Y 9 k) ∧ (∀ l, l < 4 → Y2 8 l = 0) ∧ (∀ l, 4 ≤ l → Y2 8 l = Y 8 l) ∧ (∀ k, k < 80 → Y2 9 k = 0) ∧ (∀ k, 80 ≤ k → Y2 9 k = Y 9 k) ∧ (∀ k, k ≠ 8 → k ≠ 9 → k ≠ 14 → k ≠ 15 → Y2 k = Y k)) (by decide) (by decide) (by
    intro i y hi q
    show jf_X5_aside_L2 (nI i) y = _
    unfold jf_X5_aside_L2
    rw [jn_4, if_neg (nI_ge hi (by omega)), jl_inb_n hi (by omega), jl_chk_t, nI_clamp (by omega), jl_lt_e, jl_lt_e, nI_1]) (by
    intro y q1 q2 q3
    show ∃ r, jf_X5_aside_L2 (nI 4) y = some (.inr r) ∧ _
    unfold jf_X5_aside_L2
    rw [jn_4, if_pos (nI_le (Nat.le_refl _) (by omega)), jl_lt_e]
    obtain ⟨r, g1, g2⟩ := jl_copy (f := fun q => jf_X5_aside_L27 q.1 q.2) (a := 9) (b := 15) (N := 80) (Y := y) (fun r => ∃ Y2, r = (0, Y2) ∧ (∀ l, l < 4 → Y2 14 l = Y 8 l) ∧ (∀ k, k < 80 → Y2 15 k = Y 9 k) ∧ (∀ l, l < 4 → Y2 8 l = 0) ∧ (∀ l, 4 ≤ l → Y2 8 l = Y 8 l) ∧ (∀ k, k < 80 → Y2 9 k = 0) ∧ (∀ k, 80 ≤ k → Y2 9 k = Y 9 k) ∧ (∀ k, k ≠ 8 → k ≠ 9 → k ≠ 14 → k ≠ 15 → Y2 k = Y k)) (by decide) (by decide) (by
      intro i z hi q
      show jf_X5_aside_L27 (nI i) z = _
      unfold jf_X5_aside_L27
      rw [jn_80, if_neg (nI_ge hi (by omega)), jl_inb_n hi (by omega), jl_chk_t, nI_clamp (by omega), q 9 (by decide), q3 9 (by decide), hb i hi, jl_chk_t, jl_lt_e, jl_lt_e, nI_1]) (by
      intro z p1 p2 p3
      show ∃ r, jf_X5_aside_L27 (nI 80) z = some (.inr r) ∧ _
      unfold jf_X5_aside_L27
      obtain ⟨Y2, c1, c2, c3, c4, c5, c6⟩ := jp_clear (Y := z)
      rw [jn_80, if_pos (nI_le (Nat.le_refl _) (by omega)), c1, jl_bnd_s, jl_ex_s]
      refine ⟨_, rfl, Y2, rfl, fun l hl => ?_, fun k hk => ?_, c2, fun l hl => ?_, c4, fun k hk => ?_, fun k k1 k2 k3 k4 => ?_⟩
      · rw [c6 14 (by decide) (by decide), p3 14 (by decide)]
        exact q1 l hl
      · rw [c6 15 (by decide) (by decide), p1 k hk, q3 9 (by decide)]
      · rw [c3 l hl, p3 8 (by decide), q3 8 (by decide)]
      · rw [c5 k hk, p3 9 (by decide), q3 9 (by decide)]
      · rw [c6 k k1 k2, p3 k k4, q3 k k3])
    rw [g1, jl_ex_s]
    exact ⟨r, rfl, g2⟩)
  exact ⟨Y2, by rw [h1, h2], h3⟩
theorem jp_again {Y : jl_Mem} (hb : ∀ k, k < 80 → jl_isB (Y 15 k) = true) : ∃ Y2, jf_X5_again Y = some (0, Y2) ∧ (∀ l, l < 4 → Y2 8 l = Y 14 l) ∧ (∀ l, 4 ≤ l → Y2 8 l = Y 8 l) ∧ (∀ k, k < 80 → Y2 9 k = Y 15 k) ∧ (∀ k, 80 ≤ k → Y2 9 k = Y 9 k) ∧ (∀ k, k ≠ 8 → k ≠ 9 → Y2 k = Y k) := by
  unfold jf_X5_again
  rw [jl_lt_e]
  obtain ⟨r, h1, Y2, h2, h3⟩ := jl_copy (f := fun q => jf_X5_again_L2 q.1 q.2) (a := 14) (b := 8) (N := 4) (Y := Y) (fun r => ∃ Y2, r = (0, Y2) ∧ (∀ l, l < 4 → Y2 8 l = Y 14 l) ∧ (∀ l, 4 ≤ l → Y2 8 l = Y 8 l) ∧ (∀ k, k < 80 → Y2 9 k = Y 15 k) ∧ (∀ k, 80 ≤ k → Y2 9 k = Y 9 k) ∧ (∀ k, k ≠ 8 → k ≠ 9 → Y2 k = Y k)) (by decide) (by decide) (by
    intro i y hi q
    show jf_X5_again_L2 (nI i) y = _
    unfold jf_X5_again_L2
    rw [jn_4, if_neg (nI_ge hi (by omega)), jl_inb_n hi (by omega), jl_chk_t, nI_clamp (by omega), jl_lt_e, jl_lt_e, nI_1]) (by
    intro y q1 q2 q3
    show ∃ r, jf_X5_again_L2 (nI 4) y = some (.inr r) ∧ _
    unfold jf_X5_again_L2
    rw [jn_4, if_pos (nI_le (Nat.le_refl _) (by omega)), jl_lt_e]
    obtain ⟨r, g1, g2⟩ := jl_copy (f := fun q => jf_X5_again_L27 q.1 q.2) (a := 15) (b := 9) (N := 80) (Y := y) (fun r => ∃ Y2, r = (0, Y2) ∧ (∀ l, l < 4 → Y2 8 l = Y 14 l) ∧ (∀ l, 4 ≤ l → Y2 8 l = Y 8 l) ∧ (∀ k, k < 80 → Y2 9 k = Y 15 k) ∧ (∀ k, 80 ≤ k → Y2 9 k = Y 9 k) ∧ (∀ k, k ≠ 8 → k ≠ 9 → Y2 k = Y k)) (by decide) (by decide) (by
      intro i z hi q
      show jf_X5_again_L27 (nI i) z = _
      unfold jf_X5_again_L27
      rw [jn_80, if_neg (nI_ge hi (by omega)), jl_inb_n hi (by omega), jl_chk_t, nI_clamp (by omega), q 15 (by decide), q3 15 (by decide), hb i hi, jl_chk_t, jl_lt_e, jl_lt_e, nI_1]) (by
      intro z p1 p2 p3
      show ∃ r, jf_X5_again_L27 (nI 80) z = some (.inr r) ∧ _
      unfold jf_X5_again_L27
      rw [jn_80, if_pos (nI_le (Nat.le_refl _) (by omega)), jl_ex_s]
      refine ⟨_, rfl, z, rfl, fun l hl => ?_, fun l hl => ?_, fun k hk => ?_, fun k hk => ?_, fun k k1 k2 => ?_⟩
      · rw [p3 8 (by decide)]
        exact q1 l hl
      · rw [p3 8 (by decide)]
        exact q2 l hl
      · rw [p1 k hk, q3 15 (by decide)]
      · rw [p2 k hk, q3 9 (by decide)]
      · rw [p3 k k2, q3 k k1])
    rw [g1, jl_ex_s]
    exact ⟨r, rfl, g2⟩)
  exact ⟨Y2, by rw [h1, h2], h3⟩
theorem jp_isDepth {n m l : Nat} {X : jl_Mem} {L a : Int32} (hI : jx_I n m X) (hZ : jr_Z n m X) (hL : L = nI l) (hl : l < 4) : jf_X0_isDepth L a X = some (jq_i (decide (0 ≤ a ∧ a ≤ X 5 l)), X) := by
  have hm := hI.1.2.1
  subst hL
  unfold jf_X0_isDepth
  rcases Nat.lt_or_ge l m with q | q
  · rw [jp_hL_y hI.1.2.2.2 hm q, jl_bnd_s, jq_10, jl_inb_n hl (by omega), jl_chk_t, nI_clamp (by omega)]
    by_cases c : 0 ≤ a ∧ a ≤ X 5 l
    · rw [jp_wi_y c, decide_eq_true c]
      rfl
    · rw [jp_wi_n c, decide_eq_false c]
      rfl
  · rw [jp_hL_n hI.1.2.2.2 hm (fun ⟨t, ht, e⟩ => by have := (nI_eq (by omega) (by omega)).mp e; omega), jl_bnd_s, jq_00, hZ.2.1 l q hl]
    by_cases c : 0 ≤ a ∧ a ≤ 0
    · rw [jp_wi_y c, decide_eq_true c]
      rfl
    · rw [jp_wi_n c, decide_eq_false c]
      rfl
theorem jp_mayBeY {n m l : Nat} {X Y : jl_Mem} {L a : Int32} (hI : jx_I n m X) (hZ : jr_Z n m X) (hB : jr_B n m X Y) (hL : L = nI l) (hl : l < 4) : jf_X5_mayBe L a Y = some (jq_i (decide (0 ≤ a ∧ a ≤ X 5 l)), Y) := by
  have hm := hI.1.2.1
  subst hL
  unfold jf_X5_mayBe
  rw [hB.2.1]
  rcases Nat.lt_or_ge l m with q | q
  · rw [if_neg (nI_ge q (by omega)), jl_inb_n hl (by omega), jl_chk_t, nI_clamp (by omega), hB.2.2.2.2.1 l q]
    by_cases c : 0 ≤ a ∧ a ≤ X 5 l
    · rw [jp_in_y c, decide_eq_true c]
      rfl
    · rw [jp_in_n c, decide_eq_false c]
      rfl
  · rw [if_pos (nI_le q (by omega)), hZ.2.1 l q hl]
    by_cases c : 0 ≤ a ∧ a ≤ 0
    · rw [jp_in_y c, decide_eq_true c]
      rfl
    · rw [jp_in_n c, decide_eq_false c]
      rfl
theorem jn_dep {a : Int32} {ln : Nat} (hln : ln < 2 ^ 29) (h : 0 ≤ a ∧ a ≤ nI ln) : ∃ d, d ≤ ln ∧ a = nI d := by
  have h2 : 0 ≤ a ∧ a ≤ nI (ln + 1) - 1 := by
    rw [nI_pred]
    exact h
  obtain ⟨t, ht, e⟩ := (jn_rng (by omega)).mp h2
  exact ⟨t, by omega, e⟩
/-- the sight of the trial and the depths of the reference set aside: sure alike -/
theorem jp_sureT {n m k : Nat} {x y : jl_Mem} (hI : jx_I n m x) (hV : jx_V m x 30) (hB : jr_B n m x y) (h8 : ∀ l, l < m → y 8 l = x 31 l) (h9 : ∀ q, q < 80 → y 9 q = 0) (h32 : ∀ l, l < 4 → x 32 l = 0) (k0 : 0 < k) (kn : k ≤ n) (hy : ∀ t, t < 20 → jl_isB (y 10 t) = true) :
    ∃ (b : Bool) (x2 y2 : jl_Mem), jf_X2_isSure 30 (nI k) x = some (jq_i b, x2) ∧ jf_X5_isSure (nI k) y = some (jq_i b, y2) ∧ jx_a3 30 x x2 ∧ jy_a4 y y2 ∧ (∀ t, t < 20 → jl_isB (y2 10 t) = true) := by
  have hm := hI.1.2.1
  have hn := hI.1.1
  have hS : jr_S n m x 30 y := ⟨h8, fun l t hl ht => ⟨fun _ => by rw [show x (30 + 2) l = 0 from h32 l (by omega)]; exact jq_bit_0 (by omega), fun _ => h9 _ (by omega)⟩⟩
  obtain ⟨b, x2, f1, f2, f3, f4⟩ := jp_isSure (ts := 30) (Or.inr rfl) hI hV kn k0
  obtain ⟨b2, y2, g1, g2, g3, g4, g5⟩ := jp_isSureY hI hV hB hS kn
  have eb : b2 = b := by
    cases b with
    | true => exact g2.mpr (f2.mp rfl)
    | false =>
      cases b2 with
      | false => rfl
      | true => exact absurd (f2.mpr (g2.mp rfl)) (by decide)
  rw [eb] at g1
  refine ⟨b, x2, y2, f1, g1, f3, g3, fun t ht => ?_⟩
  rcases Nat.lt_or_ge t n with q | q
  · rw [g4 t q]
    exact jq_b _
  · rw [g5 t q]
    exact hy t ht
theorem jk_enough {n m : Nat} {X Y : jl_Mem} (h : jr_A n m X Y) (a a2 a3 a4 a5 : Int32) : jr_ok (jf_X4_enough a a2 a3 a4 a5 X) (jf_X5_enough a a2 a3 a4 a5 Y) := by
  obtain ⟨hI, hB, hZ, hT, hY, -⟩ := id h
  have hn := hI.1.1
  have hm := hI.1.2.1
  unfold jf_X4_enough jf_X5_enough jf_X0_mayAskFor
  rw [hI.1.2.2.1, hB.1]
  by_cases hk : 1 ≤ a ∧ a ≤ nI n
  · rw [jp_wi_y hk, jp_in_y hk, jl_bnd_s, jl_bnd_s, jl_isB_1, jl_chk_t, jl_bnd_s, jq_10, jq_10]
    obtain ⟨k, k0, kn, rfl⟩ := (jn_rng1 (by omega)).mp hk
    rw [jp_isDepth (L := 0) (l := 0) hI hZ (by decide) (by omega), jl_bnd_s, jp_mayBeY (L := 0) (l := 0) hI hZ hB (by decide) (by omega), jl_bnd_s]
    by_cases c0 : 0 ≤ a2 ∧ a2 ≤ X 5 0
    · rw [decide_eq_true c0, jq_t, jq_10, jq_10, jp_isDepth (L := 1) (l := 1) hI hZ (by decide) (by omega), jl_bnd_s, jp_mayBeY (L := 1) (l := 1) hI hZ hB (by decide) (by omega), jl_bnd_s]
      by_cases c1 : 0 ≤ a3 ∧ a3 ≤ X 5 1
      · rw [decide_eq_true c1, jq_t, jq_10, jq_10, jp_isDepth (L := 2) (l := 2) hI hZ (by decide) (by omega), jl_bnd_s, jp_mayBeY (L := 2) (l := 2) hI hZ hB (by decide) (by omega), jl_bnd_s]
        by_cases c2 : 0 ≤ a4 ∧ a4 ≤ X 5 2
        · rw [decide_eq_true c2, jq_t, jq_10, jq_10, jp_isDepth (L := 3) (l := 3) hI hZ (by decide) (by omega), jl_bnd_s, jp_mayBeY (L := 3) (l := 3) hI hZ hB (by decide) (by omega), jl_bnd_s]
          by_cases c3 : 0 ≤ a5 ∧ a5 ≤ X 5 3
          · rw [decide_eq_true c3, jq_t, jq_10, jq_10]
            obtain ⟨Y1, p1, p2, p3, p4, p5, p6, p7, p8⟩ := jp_aside hY.1
            rw [p1, jl_bnd_s]
            unfold jf_X3_isEnough
            have i0 : jl_inb (0 : Int32) 4 = true := by decide
            have i1 : jl_inb (1 : Int32) 4 = true := by decide
            have i2 : jl_inb (2 : Int32) 4 = true := by decide
            have i3 : jl_inb (3 : Int32) 4 = true := by decide
            have j0 : (0 : Int32).toNatClampNeg = 0 := by decide
            have j1 : (1 : Int32).toNatClampNeg = 1 := by decide
            have j2 : (2 : Int32).toNatClampNeg = 2 := by decide
            have j3 : (3 : Int32).toNatClampNeg = 3 := by decide
            rw [i0, i1, i2, i3, j0, j1, j2, j3]
            simp only [jl_chk_t, jl_lt_e]
            obtain ⟨x, ex⟩ : ∃ x, x = jl_st (jl_st (jl_st (jl_st X 31 0 a2) 31 1 a3) 31 2 a4) 31 3 a5 := ⟨_, rfl⟩
            obtain ⟨y, ey⟩ : ∃ y, y = jl_st (jl_st (jl_st (jl_st Y1 8 0 a2) 8 1 a3) 8 2 a4) 8 3 a5 := ⟨_, rfl⟩
            rw [← ex, ← ey]
            have x31 : x 31 = upd (upd (upd (upd (X 31) 0 a2) 1 a3) 2 a4) 3 a5 := by rw [ex, jl_st_cell, jl_st_cell, jl_st_cell, jl_st_cell]
            have y8 : y 8 = upd (upd (upd (upd (Y1 8) 0 a2) 1 a3) 2 a4) 3 a5 := by rw [ey, jl_st_cell, jl_st_cell, jl_st_cell, jl_st_cell]
            have xk : ∀ q, q ≠ 31 → x q = X q := fun q hq => by rw [ex, jl_st_ne _ _ _ hq, jl_st_ne _ _ _ hq, jl_st_ne _ _ _ hq, jl_st_ne _ _ _ hq]
            have yk : ∀ q, q ≠ 8 → y q = Y1 q := fun q hq => by rw [ey, jl_st_ne _ _ _ hq, jl_st_ne _ _ _ hq, jl_st_ne _ _ _ hq, jl_st_ne _ _ _ hq]
            have h4 : ∀ l, l < 4 → y 8 l = x 31 l ∧ 0 ≤ x 31 l ∧ x 31 l ≤ X 5 l := fun l hl => by
              rw [x31, y8]
              rcases (show l = 0 ∨ l = 1 ∨ l = 2 ∨ l = 3 by omega) with e | e | e | e
              · subst e
                exact ⟨rfl, c0⟩
              · subst e
                exact ⟨rfl, c1⟩
              · subst e
                exact ⟨rfl, c2⟩
              · subst e
                exact ⟨rfl, c3⟩
            have hg : jx_sg 24 X x := fun q hq => xk q (by omega)
            have hIx := hg.I hI
            have hVx : jx_V m x 30 := fun l hl => by
              obtain ⟨ln, b1, b2, -⟩ := hI.2.2.2 l hl
              have h5 := (h4 l (by omega)).2
              rw [b2] at h5
              obtain ⟨d, d1, d2⟩ := jn_dep (by omega) h5
              exact ⟨d, by omega, d2, by rw [xk 5 (by decide), b2]; exact nI_le d1 (by omega)⟩
            have hBx : jr_B n m x y := (hB.cx hm (fun q hq => xk q (by omega))).cy (fun q hq => by rw [yk q (by omega), p8 q (by omega) (by omega) (by omega) (by omega)])
            obtain ⟨b, x2, y2, g1, g2, g3, g4, g5⟩ := jp_sureT hIx hVx hBx (fun l hl => (h4 l (by omega)).1) (fun q hq => by rw [yk 9 (by decide)]; exact p6 q hq) (fun l hl => by rw [xk 32 (by decide)]; exact hT.2 l hl) k0 kn (fun t ht => by rw [yk 10 (by decide), p8 10 (by decide) (by decide) (by decide) (by decide)]; exact hY.2 t ht)
            have y15 : ∀ q, q < 80 → y2 15 q = Y 9 q := fun q hq => by rw [g4 15 (by decide) (by decide) (by decide) (by decide), yk 15 (by decide)]; exact p3 q hq
            obtain ⟨Y3, s1, s2, s3, s4, s5, s6⟩ := jp_again (Y := y2) (fun q hq => by rw [y15 q hq]; exact hY.1 q hq)
            rw [g1, jl_bnd_s, jq_b, jl_chk_t, jl_bnd_s, jq_yes, jl_bnd_s, g2, jl_bnd_s, s1, jl_bnd_s]
            refine ⟨jq_i b, x2, Y3, n, m, rfl, by cases b <;> rfl, h.sc (fun q q1 q2 q3 q4 q5 q6 q7 q8 => by rw [g3 q q5 q7 q8, xk q q6]) (fun q q1 q2 q3 q4 q5 q6 => ?_) (fun t ht => by rw [s6 10 (by decide) (by decide)]; exact g5 t ht)⟩
            by_cases e8 : q = 8
            · subst e8
              funext l
              rcases Nat.lt_or_ge l 4 with w | w
              · rw [s2 l w, g4 14 (by decide) (by decide) (by decide) (by decide), yk 14 (by decide), p2 l w]
              · rw [s3 l w, g4 8 (by decide) (by decide) (by decide) (by decide), y8, pk_un (by omega), pk_un (by omega), pk_un (by omega), pk_un (by omega), p5 l w]
            · by_cases e9 : q = 9
              · subst e9
                funext l
                rcases Nat.lt_or_ge l 80 with w | w
                · rw [s4 l w, y15 l w]
                · rw [s5 l w, g4 9 (by decide) (by decide) (by decide) (by decide), yk 9 (by decide), p7 l w]
              · rw [s6 q e8 e9, g4 q q1 q2 q3 q4, yk q e8, p8 q e8 e9 q5 q6]
          · rw [decide_eq_false c3, jq_f, jq_00, jq_00]
            exact h.id rfl rfl
        · rw [decide_eq_false c2, jq_f, jq_00, jq_00]
          exact h.id rfl rfl
      · rw [decide_eq_false c1, jq_f, jq_00, jq_00]
        exact h.id rfl rfl
    · rw [decide_eq_false c0, jq_f, jq_00, jq_00]
      exact h.id rfl rfl
  · rw [jp_wi_n hk, jp_in_n hk, jl_bnd_s, jl_bnd_s, jl_isB_0, jl_chk_t, jl_bnd_s, jq_00, jq_00]
    exact h.id rfl rfl
