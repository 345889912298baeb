/-! pure 19: the least depths, the loop -/
def jx_co (w d : Nat → Int32) : Nat → Int32
  | 0 => 0
  | l + 1 => jx_co w d l + w l * d l
theorem jx_co_c {w d w2 d2 : Nat → Int32} : ∀ {m : Nat}, (∀ l, l < m → w l = w2 l ∧ d l = d2 l) → jx_co w d m = jx_co w2 d2 m
  | 0, _ => rfl
  | m + 1, h => by
    unfold jx_co
    rw [jx_co_c (fun l hl => h l (by omega)), (h m (by omega)).1, (h m (by omega)).2]
theorem jp_cost {m : Nat} {X : jl_Mem} (h : X 1 1 = nI m) (hm : m ≤ 4) : jf_X3_costOfDepths X = some (jx_co (X 3) (X 31) m, X) := by
  unfold jf_X3_costOfDepths
  rw [jl_lt_e, jl_lt_e]
  refine jl_loopE (fun i => (jx_co (X 3) (X 31) i, nI i, X)) _ m (by omega) (fun i hi => ?_) ?_
  · show jf_X3_costOfDepths_L4 (jx_co (X 3) (X 31) i) (nI i) X = _
    unfold jf_X3_costOfDepths_L4
    rw [h, if_neg (nI_ge hi (by omega)), jl_inb_n (by omega) (by omega), jl_chk_t, nI_clamp (by omega), jl_lt_e, jl_lt_e, nI_1]
    rfl
  · show jf_X3_costOfDepths_L4 (jx_co (X 3) (X 31) m) (nI m) X = _
    unfold jf_X3_costOfDepths_L4
    rw [h, if_pos (nI_le (Nat.le_refl _) (by omega)), jl_ex_s]
theorem jp_cost74 {m : Nat} {Y : jl_Mem} {a1 be : Int32} {r : (Int32 × Int32 × jl_Mem) ⊕ (Int32 × jl_Mem)} (h : Y 0 2 = nI m) (hm : m ≤ 4) (he : jf_X5_least_L74 a1 be (jx_co (Y 2) (Y 8) m) (nI m) Y = some (.inr r)) :
    jl_wh (fun q => jf_X5_least_L74 a1 be q.1 q.2.1 q.2.2) jl_F ((0 : Int32), (0 : Int32), Y) = some r := by
  refine jl_loopE (fun i => (jx_co (Y 2) (Y 8) i, nI i, Y)) _ m (by omega) (fun i hi => ?_) he
  show jf_X5_least_L74 a1 be (jx_co (Y 2) (Y 8) i) (nI i) Y = _
  unfold jf_X5_least_L74
  rw [h, if_neg (nI_ge hi (by omega)), jl_inb_n (by omega) (by omega), jl_chk_t, nI_clamp (by omega), jl_lt_e, jl_lt_e, nI_1]
  rfl
def jr_L (m : Nat) (ln : Nat → Nat) (X Y : jl_Mem) (i N : Nat) (x y : jl_Mem) : Prop :=
  (∀ k, (k < 21 ∨ k = 23 ∨ k = 24 ∨ k = 25 ∨ k = 26) → x k = X k) ∧ (∀ l, l < 4 → x 32 l = 0) ∧ (∀ k, (k < 7 ∨ k = 13) → y k = Y k) ∧ (∀ l, l < 4 → y 14 l = Y 8 l) ∧ (∀ k, k < 80 → y 15 k = Y 9 k) ∧ (∀ l, 4 ≤ l → y 8 l = Y 8 l) ∧ (∀ k, k < 80 → y 9 k = 0) ∧ (∀ k, 80 ≤ k → y 9 k = Y 9 k) ∧
  (∀ t, t < 20 → jl_isB (y 10 t) = true) ∧ (∀ l, l < 4 → y 16 l = x 35 l) ∧ ∃ d : Nat → Nat, (∀ l, l < m → d l ≤ ln l ∧ x 31 l = nI (d l)) ∧ (∀ l, l < 4 → y 8 l = x 31 l) ∧ (i < N → jx_cv ln d m = i)
theorem jr_L.nx {n m i : Nat} {ln : Nat → Nat} {X Y x y : jl_Mem} (h : jr_L m ln X Y i (jx_pr ln m) x y) (hi : i < jx_pr ln m) (hI : jx_I n m X) (hB : jr_B n m X Y) (hln : ∀ l, l < m → X 5 l = nI (ln l) ∧ ln l ≤ 20) :
    ∃ x2 y2 : jl_Mem, jf_X3_goToNextDepths x = some (0, x2) ∧ jf_X5_next y = some (jq_i (decide (i + 1 < jx_pr ln m)), y2) ∧ jr_L m ln X Y (i + 1) (jx_pr ln m) x2 y2 := by
  obtain ⟨h1, h2, h3, h4, h5, h6, h7, h8, h9, h10, d, d1, d2, d3⟩ := h
  have hm := hI.1.2.1
  obtain ⟨b, x2, y2, e, f1, f2, f3, f4, f5, f6, f7, f8⟩ := jp_next (X := x) (Y := y) (ln := ln) (d := d) hm (by rw [h1 1 (by omega)]; exact hI.1.2.2.2) (by rw [h3 0 (by omega)]; exact hB.2.1) (fun l hl => ⟨by rw [h1 5 (by omega)]; exact (hln l hl).1, by rw [h3 6 (by omega), hB.2.2.2.2.1 l hl]; exact (hln l hl).1, (hln l hl).2⟩) (fun l hl => ⟨(d1 l hl).1, (d1 l hl).2, by rw [d2 l (by omega)]; exact (d1 l hl).2⟩)
  have hc := d3 hi
  have hb : b = decide (i + 1 < jx_pr ln m) := by
    cases b with
    | true =>
      have := jx_cv_lt (ln := ln) (d := e) (m := m) (fun l hl => (f3 l hl).1)
      rw [f7 rfl, hc] at this
      exact (decide_eq_true this).symm
    | false =>
      have := f8 rfl
      rw [hc] at this
      exact (decide_eq_false (by omega)).symm
  rw [hb] at f2
  refine ⟨x2, y2, f1, f2, fun k hk => by rw [f5 k (by omega)]; exact h1 k hk, fun l hl => by rw [f5 32 (by decide)]; exact h2 l hl, fun k hk => by rw [f6 k (by omega)]; exact h3 k hk, fun l hl => by rw [f6 14 (by decide)]; exact h4 l hl, fun k hk => by rw [f6 15 (by decide)]; exact h5 k hk, fun l hl => by rw [(f4 l (by omega)).2]; exact h6 l hl, fun k hk => by rw [f6 9 (by decide)]; exact h7 k hk, fun k hk => by rw [f6 9 (by decide)]; exact h8 k hk, fun t ht => by rw [f6 10 (by decide)]; exact h9 t ht, fun l hl => by rw [f6 16 (by decide), f5 35 (by decide)]; exact h10 l hl, e, fun l hl => ⟨(f3 l hl).1, (f3 l hl).2.1⟩, fun l hl => ?_, fun q => ?_⟩
  · rcases Nat.lt_or_ge l m with q | q
    · rw [(f3 l q).2.1, (f3 l q).2.2]
    · rw [(f4 l q).1, (f4 l q).2]
      exact d2 l hl
  · rw [f7 (by rw [hb]; exact decide_eq_true q), hc]
theorem jp_tryL {n m k i : Nat} {ln : Nat → Nat} {X Y x y : jl_Mem} (be co : Int32) (h : jr_L m ln X Y i (jx_pr ln m) x y) (hi : i < jx_pr ln m) (hI : jx_I n m X) (hB : jr_B n m X Y) (hln : ∀ l, l < m → X 5 l = nI (ln l) ∧ ln l ≤ 20) (k0 : 0 < k) (kn : k ≤ n) :
    ∃ (be2 : Int32) (x3 y3 : jl_Mem), (jl_bnd (jf_X2_isSure 30 (nI k) x) (fun r_48 M_48 =>
  if r_48 = 0 then (
  jl_bnd (jf_X3_goToNextDepths M_48) (fun _ M_75 =>
  jl_lt (nI i + 1) (fun (x4_78 : Int32) =>
  some (.inl (be, x4_78, M_75))))) else (
  jl_lt co (fun (x3_56 : Int32) =>
  jl_lt (jl_sa M_48 35 (va_cpy (M_48 31) (M_48 35) 0 0 4)) (fun (M_71 : jl_Mem) =>
  jl_bnd (jf_X3_goToNextDepths M_71) (fun _ M_75 =>
  jl_lt (nI i + 1) (fun (x4_78 : Int32) =>
  some (.inl (x3_56, x4_78, M_75)))))))) : Option ((Int32 × Int32 × jl_Mem) ⊕ (Int32 × jl_Mem))) = some (.inl (be2, nI (i + 1), x3)) ∧
  (jl_bnd (jf_X5_isSure (nI k) y) (fun r_122 M_122 =>
  if r_122 = 0 then (
  jl_bnd (jf_X5_next M_122) (fun r_161 M_161 =>
  jl_lt r_161 (fun (x4_164 : Int32) =>
  some (.inl (be, x4_164, M_161))))) else (
  jl_lt co (fun (x3_130 : Int32) =>
  jl_lt (0 : Int32) (fun (x6_132 : Int32) =>
  jl_wh (fun q => jf_X5_least_L134 (nI k) x3_130 q.1 q.2) jl_F (x6_132, M_122))))) : Option ((Int32 × Int32 × jl_Mem) ⊕ (Int32 × jl_Mem))) = some (.inl (be2, jq_i (decide (i + 1 < jx_pr ln m)), y3)) ∧ jr_L m ln X Y (i + 1) (jx_pr ln m) x3 y3 := by
  obtain ⟨h1, h2, h3, h4, h5, h6, h7, h8, h9, h10, d, d1, d2, d3⟩ := id h
  have hm := hI.1.2.1
  have hn := hI.1.1
  have hg : jx_sg 24 X x ∨ True := Or.inr trivial
  have hIx : jx_I n m x := by
    obtain ⟨⟨a, b, c, d⟩, e, f, g⟩ := hI
    refine ⟨⟨a, b, by rw [h1 1 (by omega)]; exact c, by rw [h1 1 (by omega)]; exact d⟩, fun o ho => by rw [h1 2 (by omega)]; exact e o ho, fun o u ho hu => by rw [h1 (7 + o) (by omega)]; exact f o u ho hu, fun o ho => ?_⟩
    rw [h1 5 (by omega), h1 (12 + o) (by omega), h1 (7 + o) (by omega), h1 (17 + o) (by omega)]
    exact g o ho
  have hVx : jx_V m x 30 := fun l hl => ⟨d l, by have := (d1 l hl).1; have := (hln l hl).2; omega, (d1 l hl).2, by rw [h1 5 (by omega), (hln l hl).1]; exact nI_le (d1 l hl).1 (by have := (hln l hl).2; omega)⟩
  have hBx : jr_B n m x y := (hB.cx hm (fun q hq => h1 q (by omega))).cy (fun q hq => h3 q (by omega))
  obtain ⟨b, x2, y2, g1, g2, g3, g4, g5⟩ := jp_sureT hIx hVx hBx (fun l hl => d2 l (by omega)) h7 h2 k0 kn h9
  have cx : ∀ q, q ≠ 30 → q ≠ 33 → q ≠ 34 → x2 q = x q := g3
  have hL : jr_L m ln X Y i (jx_pr ln m) x2 y2 := ⟨fun q hq => by rw [cx q (by omega) (by omega) (by omega)]; exact h1 q hq, fun l hl => by rw [cx 32 (by decide) (by decide) (by decide)]; exact h2 l hl, fun q hq => by rw [g4 q (by omega) (by omega) (by omega) (by omega)]; exact h3 q hq, fun l hl => by rw [g4 14 (by decide) (by decide) (by decide) (by decide)]; exact h4 l hl, fun q hq => by rw [g4 15 (by decide) (by decide) (by decide) (by decide)]; exact h5 q hq, fun l hl => by rw [g4 8 (by decide) (by decide) (by decide) (by decide)]; exact h6 l hl, fun q hq => by rw [g4 9 (by decide) (by decide) (by decide) (by decide)]; exact h7 q hq, fun q hq => by rw [g4 9 (by decide) (by decide) (by decide) (by decide)]; exact h8 q hq, g5, fun l hl => by rw [g4 16 (by decide) (by decide) (by decide) (by decide), cx 35 (by decide) (by decide) (by decide)]; exact h10 l hl, d, fun l hl => by rw [cx 31 (by decide) (by decide) (by decide)]; exact d1 l hl, fun l hl => by rw [g4 8 (by decide) (by decide) (by decide) (by decide), cx 31 (by decide) (by decide) (by decide)]; exact d2 l hl, d3⟩
  rw [g1, jl_bnd_s, g2, jl_bnd_s, jq_if, jq_if]
  cases b with
  | false =>
    obtain ⟨x3, y3, s1, s2, s3⟩ := hL.nx hi hI hB hln
    simp only [Bool.false_eq_true, if_false]
    rw [s1, jl_bnd_s, s2, jl_bnd_s, jl_lt_e, jl_lt_e, nI_1]
    exact ⟨be, x3, y3, rfl, rfl, s3⟩
  | true =>
    simp only [if_true, jl_lt_e]
    obtain ⟨r1, r2, r3, r4, r5, r6, r7, r8, r9, r10, e, e1, e2, e3⟩ := hL
    obtain ⟨r, w1, x3, y3, w2, w3, w4⟩ := jl_copy (f := fun q => jf_X5_least_L134 (nI k) co q.1 q.2) (a := 8) (b := 16) (N := 4) (Y := y2) (fun r => ∃ x3 y3 : jl_Mem, jf_X3_goToNextDepths (jl_sa x2 35 (va_cpy (x2 31) (x2 35) 0 0 4)) = some (0, x3) ∧ r = .inl (co, jq_i (decide (i + 1 < jx_pr ln m)), y3) ∧ jr_L m ln X Y (i + 1) (jx_pr ln m) x3 y3) (by decide) (by decide) (by
      intro j z hj q
      show jf_X5_least_L134 (nI k) co (nI j) z = _
      unfold jf_X5_least_L134
      rw [jn_4, if_neg (nI_ge hj (by omega)), jl_inb_n hj (by omega), jl_chk_t, nI_clamp (by omega), jl_lt_e, jl_lt_e, nI_1]) (by
      intro z q1 q2 q3
      show ∃ r, jf_X5_least_L134 (nI k) co (nI 4) z = some (.inr r) ∧ _
      have hL2 : jr_L m ln X Y i (jx_pr ln m) (jl_sa x2 35 (va_cpy (x2 31) (x2 35) 0 0 4)) z := ⟨fun q hq => by rw [jl_sa_ne _ _ (by omega)]; exact r1 q hq, fun l hl => by rw [jl_sa_ne _ _ (by decide)]; exact r2 l hl, fun q hq => by rw [q3 q (by omega)]; exact r3 q hq, fun l hl => by rw [q3 14 (by decide)]; exact r4 l hl, fun q hq => by rw [q3 15 (by decide)]; exact r5 q hq, fun l hl => by rw [q3 8 (by decide)]; exact r6 l hl, fun q hq => by rw [q3 9 (by decide)]; exact r7 q hq, fun q hq => by rw [q3 9 (by decide)]; exact r8 q hq, fun t ht => by rw [q3 10 (by decide)]; exact r9 t ht, fun l hl => by rw [q1 l hl, jl_sa_same, pk_cpy_in (Nat.zero_le _) (by omega), Nat.sub_zero, Nat.zero_add]; exact e2 l hl, e, fun l hl => by rw [jl_sa_ne _ _ (by decide)]; exact e1 l hl, fun l hl => by rw [q3 8 (by decide), jl_sa_ne _ _ (by decide)]; exact e2 l hl, e3⟩
      obtain ⟨x3, y3, s1, s2, s3⟩ := hL2.nx hi hI hB hln
      unfold jf_X5_least_L134
      rw [jn_4, if_pos (nI_le (Nat.le_refl _) (by omega)), s2, jl_bnd_s, jl_lt_e, jl_ex_s]
      exact ⟨_, rfl, x3, y3, s1, rfl, s3⟩)
    rw [w1, w2, jl_bnd_s, nI_1, w3]
    exact ⟨co, x3, y3, rfl, rfl, w4⟩
theorem jk_least {n m : Nat} {X Y : jl_Mem} (h : jr_A n m X Y) (a : Int32) : jr_ok (jf_X4_least a X) (jf_X5_least a Y) := by
  obtain ⟨hI, hB, hZ, hT, hY, -⟩ := id h
  have hn := hI.1.1
  have hm := hI.1.2.1
  unfold jf_X4_least jf_X5_least jf_X0_mayAskFor
  rw [hI.1.2.2.1, hB.1]
  by_cases hk : 1 ≤ a ∧ a ≤ nI n
  · rw [jp_wi_y hk, jp_in_y hk, jl_bnd_s, jl_bnd_s, jl_isB_1, jl_chk_t, jl_bnd_s, jq_10, jq_10, jl_lt_e, jl_lt_e]
    obtain ⟨k, k0, kn, rfl⟩ := (jn_rng1 (by omega)).mp hk
    obtain ⟨ln, eln⟩ : ∃ ln : Nat → Nat, ∀ l, ln l = (X 5 l).toNatClampNeg := ⟨fun l => (X 5 l).toNatClampNeg, fun _ => rfl⟩
    have hln : ∀ l, l < m → X 5 l = nI (ln l) ∧ ln l ≤ 20 := fun l hl => by
      obtain ⟨q, b1, b2, -⟩ := hI.2.2.2 l hl
      rw [eln, b2, nI_clamp (by omega)]
      exact ⟨rfl, by omega⟩
    have hpr := jx_pr_4 hm (fun l hl => (hln l hl).2)
    have hdp : jx_dp X m = nI (jx_pr ln m) := jx_dp_pr (fun l hl => (hln l hl).1)
    rw [jp_depthRows hI.1.2.2.2 hm, jl_bnd_s, hdp]
    have hY19 : ∀ r, jf_X5_least_L19 (nI k) (jx_dp X m) (nI m) Y = some (.inr r) → jl_wh (fun q => jf_X5_least_L19 (nI k) q.1 q.2.1 q.2.2) jl_F ((1 : Int32), (0 : Int32), Y) = some r := fun r he => by
      refine jl_loopE (fun i => (jx_dp X i, nI i, Y)) _ m (by omega) (fun i hi => ?_) he
      show jf_X5_least_L19 (nI k) (jx_dp X i) (nI i) Y = _
      unfold jf_X5_least_L19
      rw [hB.2.1, if_neg (nI_ge hi (by omega)), jl_inb_n (by omega) (by omega), jl_chk_t, nI_clamp (by omega), hB.2.2.2.2.1 i hi, jl_lt_e, jl_lt_e, nI_1]
      rfl
    have e500 : (500 : Int32) = nI 500 := by decide
    by_cases c : jx_pr ln m ≤ 500
    · rw [e500, if_pos (nI_le c (by omega))]
      obtain ⟨X1, f1, f2, f3⟩ := jp_forget (ts := 30) (X := X)
      obtain ⟨Y1, p1, p2, p3, p4, p5, p6, p7, p8⟩ := jp_aside hY.1
      have hdp1 : jx_dp X1 m = nI (jx_pr ln m) := jx_dp_pr (fun l hl => by rw [f3 5 (by decide) (by decide)]; exact (hln l hl).1)
      have hpos : 0 < jx_pr ln m := by
        have := jx_cv_lt (ln := ln) (d := ln) (m := m) (fun _ _ => Nat.le_refl _)
        omega
      have hc0 : ∀ q, jx_cv ln (fun _ => 0) q = 0 := fun q => by
        induction q with
        | zero => rfl
        | succ q ih =>
          unfold jx_cv
          rw [ih, Nat.zero_mul]
      have hL0 : jr_L m ln X Y 0 (jx_pr ln m) X1 Y1 := ⟨fun q hq => f3 q (by omega) (by omega), fun l hl => (f2 l hl).2, fun q hq => p8 q (by omega) (by omega) (by omega) (by omega), p2, p3, p5, p6, p7, fun t ht => by rw [p8 10 (by decide) (by decide) (by decide) (by decide)]; exact hY.2 t ht, fun l hl => by rw [p8 16 (by decide) (by decide) (by decide) (by decide), f3 35 (by decide) (by decide)]; exact hT.1 l hl, fun _ => 0, fun l hl => ⟨Nat.zero_le _, (f2 l (by omega)).1⟩, fun l hl => by rw [p4 l hl]; exact (f2 l hl).1.symm, fun _ => hc0 m⟩
      obtain ⟨r1, r2, g1, g2, w, X2, Y2, e1, e2, e3⟩ := jl_bis (f := fun q => jf_X3_cheapest_L20 (nI k) (nI (jx_pr ln m)) q.1 q.2.1 q.2.2) (g := fun q => jf_X5_least_L63 (nI k) q.1 q.2.1 q.2.2)
        (fun i s1 s2 => ∃ (be : Int32) (x y : jl_Mem), s1 = (be, nI i, x) ∧ s2 = (be, jq_i (decide (i < jx_pr ln m)), y) ∧ jr_L m ln X Y i (jx_pr ln m) x y)
        (fun a c => ∃ (w : Int32) (X2 Y2 : jl_Mem), a = (w, X2) ∧ c = (w, Y2) ∧ jr_A n m X2 Y2) (jx_pr ln m) (by omega) (s1 := ((-1 : Int32), (0 : Int32), X1)) (s2 := ((-1 : Int32), (1 : Int32), Y1)) ⟨-1, X1, Y1, rfl, by rw [decide_eq_true hpos]; rfl, hL0⟩ (by
        rintro i s1 s2 hi ⟨be, x, y, q1, q2, hL⟩
        subst q1
        subst q2
        show (i < jx_pr ln m ∧ ∃ u v, jf_X3_cheapest_L20 (nI k) (nI (jx_pr ln m)) be (nI i) x = some (.inl u) ∧ jf_X5_least_L63 (nI k) be (jq_i (decide (i < jx_pr ln m))) y = some (.inl v) ∧ _) ∨ (∃ u v, jf_X3_cheapest_L20 (nI k) (nI (jx_pr ln m)) be (nI i) x = some (.inr u) ∧ jf_X5_least_L63 (nI k) be (jq_i (decide (i < jx_pr ln m))) y = some (.inr v) ∧ _) ∨ _
        obtain ⟨h1, h2, h3, h4, h5, h6, h7, h8, h9, h10, d, d1, d2, d3⟩ := id hL
        unfold jf_X3_cheapest_L20 jf_X5_least_L63
        rcases Nat.lt_or_ge i (jx_pr ln m) with q | q
        · refine Or.inl ⟨q, ?_⟩
          have hco : jx_co (y 2) (y 8) m = jx_co (x 3) (x 31) m := jx_co_c (fun l hl => ⟨by rw [h3 2 (by omega), h1 3 (by omega)]; exact (hB.2.2.2.1 l (by omega)).2.1, d2 l (by omega)⟩)
          have hy2 : y 0 2 = nI m := by rw [h3 0 (by omega)]; exact hB.2.1
          rw [if_neg (nI_ge q (by omega)), jp_cost (by rw [h1 1 (by omega)]; exact hI.1.2.2.2) hm, jl_bnd_s, jl_lt_e, decide_eq_true q, jq_t, jq_10, jl_lt_e, jl_lt_e]
          obtain ⟨be2, x3, y3, t1, t2, t3⟩ := jp_tryL (k := k) be (jx_co (x 3) (x 31) m) hL q hI hB hln k0 kn
          by_cases c1 : be = -1
          · rw [if_pos c1, t1]
            refine ⟨_, _, rfl, jp_cost74 (r := .inl (be2, jq_i (decide (i + 1 < jx_pr ln m)), y3)) hy2 hm ?_, be2, x3, y3, rfl, rfl, t3⟩
            unfold jf_X5_least_L74
            rw [hy2, if_pos (nI_le (Nat.le_refl _) (by omega)), if_pos c1, hco, t2, jl_ex_s]
          · rw [if_neg c1]
            by_cases c2 : be ≤ jx_co (x 3) (x 31) m
            · obtain ⟨x4, y4, s1, s2, s3⟩ := hL.nx q hI hB hln
              rw [if_pos c2, s1, jl_bnd_s, jl_lt_e, nI_1]
              refine ⟨_, _, rfl, jp_cost74 (r := .inl (be, jq_i (decide (i + 1 < jx_pr ln m)), y4)) hy2 hm ?_, be, x4, y4, rfl, rfl, s3⟩
              unfold jf_X5_least_L74
              rw [hy2, if_pos (nI_le (Nat.le_refl _) (by omega)), if_neg c1, hco, if_pos c2, s2, jl_bnd_s, jl_lt_e, jl_ex_s]
            · rw [if_neg c2, t1]
              refine ⟨_, _, rfl, jp_cost74 (r := .inl (be2, jq_i (decide (i + 1 < jx_pr ln m)), y3)) hy2 hm ?_, be2, x3, y3, rfl, rfl, t3⟩
              unfold jf_X5_least_L74
              rw [hy2, if_pos (nI_le (Nat.le_refl _) (by omega)), if_neg c1, hco, if_neg c2, t2, jl_ex_s]
        · have ei : i = jx_pr ln m := by omega
          obtain ⟨Y3, s1, s2, s3, s4, s5, s6⟩ := jp_again (Y := y) (fun q hq => by rw [h5 q hq]; exact hY.1 q hq)
          rw [if_pos (nI_le q (by omega)), decide_eq_false (by omega), jq_f, jq_00, jl_ex_s, s1, jl_bnd_s, jl_ex_s]
          refine Or.inr (Or.inl ⟨_, _, rfl, rfl, be, x, Y3, rfl, rfl, h.sc2 h1 (fun q hq => ?_) ⟨fun l hl => by rw [s6 16 (by decide) (by decide)]; exact h10 l hl, h2⟩ (fun t ht => by rw [s6 10 (by decide) (by decide)]; exact h9 t ht)⟩)
          by_cases e8 : q = 8
          · subst e8
            funext l
            rcases Nat.lt_or_ge l 4 with w | w
            · rw [s2 l w, h4 l w]
            · rw [s3 l w, h6 l w]
          · by_cases e9 : q = 9
            · subst e9
              funext l
              rcases Nat.lt_or_ge l 80 with w | w
              · rw [s4 l w, h5 l w]
              · rw [s5 l w, h8 l w]
            · rw [s6 q e8 e9, h3 q (by omega)])
      unfold jf_X3_cheapest
      rw [f1, jl_bnd_s, jp_depthRows (m := m) (by rw [f3 1 (by decide) (by decide)]; exact hI.1.2.2.2) hm, jl_bnd_s, hdp1, jl_lt_e, jl_lt_e, jl_lt_e, g1, e1, jl_bnd_s]
      refine ⟨w, X2, Y2, n, m, rfl, hY19 _ ?_, e3⟩
      unfold jf_X5_least_L19
      rw [hB.2.1, if_pos (nI_le (Nat.le_refl _) (by omega)), hdp, e500, if_pos (nI_le c (by omega)), p1, jl_bnd_s, jl_lt_e, jl_lt_e, g2, e2, jl_ex_s]
    · rw [e500, if_neg (nI_ge (by omega) (by omega))]
      refine h.id rfl (hY19 _ ?_)
      unfold jf_X5_least_L19
      rw [hB.2.1, if_pos (nI_le (Nat.le_refl _) (by omega)), hdp, e500, if_neg (nI_ge (by omega) (by omega)), jl_ex_s]
  · rw [jp_wi_n hk, jp_in_n hk, jl_bnd_s, jl_bnd_s, jl_isB_0, jl_chk_t, jl_bnd_s, jq_00, jq_00]
    exact h.id rfl rfl
