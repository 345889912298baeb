/-! pure 18: the least depths -/
theorem jr_A.sc2 {n m : Nat} {X Y X2 Y2 : jl_Mem} (h : jr_A n m X Y) (cx : ∀ k, (k < 21 ∨ k = 23 ∨ k = 24 ∨ k = 25 ∨ k = 26) → X2 k = X k) (cy : ∀ k, (k < 7 ∨ k = 8 ∨ k = 9 ∨ k = 13) → Y2 k = Y k) (hT : jr_T X2 Y2) (h10 : ∀ t, t < 20 → jl_isB (Y2 10 t) = true) : jr_A n m X2 Y2 := by
  obtain ⟨hI, hB, hZ, -, hY, hH⟩ := h
  have hm := hI.1.2.1
  have hg : jx_sg 24 X X2 := fun k hk => cx k (by omega)
  refine ⟨hg.I hI, (hB.cx hm (fun k hk => cx k (by omega))).cy (fun k hk => cy k (by omega)), hZ.cx hm (fun k hk => cx k (by omega)), hT, ⟨fun k hk => by rw [cy 9 (by omega)]; exact hY.1 k hk, h10⟩, ?_⟩
  obtain ⟨a1, a2, a3⟩ := hH
  refine ⟨by rw [cy 0 (by omega), cx 23 (by omega)]; exact a1, by rw [cx 23 (by omega)]; exact a2, fun q => ?_⟩
  rw [cx 23 (by omega)] at q
  exact (a3 q).c hm (fun k hk => cx k (by omega)) (fun k hk => cy k (by omega))
def jx_dp (X : jl_Mem) : Nat → Int32
  | 0 => 1
  | l + 1 => jx_dp X l * (X 5 l + 1)
def jx_pr (ln : Nat → Nat) : Nat → Nat
  | 0 => 1
  | l + 1 => jx_pr ln l * (ln l + 1)
def jx_cv (ln d : Nat → Nat) : Nat → Nat
  | 0 => 0
  | l + 1 => jx_cv ln d l * (ln l + 1) + d l
theorem jx_dp_pr {X : jl_Mem} {ln : Nat → Nat} : ∀ {m : Nat}, (∀ l, l < m → X 5 l = nI (ln l)) → jx_dp X m = nI (jx_pr ln m)
  | 0, _ => rfl
  | m + 1, h => by
    unfold jx_dp jx_pr
    rw [jx_dp_pr (fun l hl => h l (by omega)), h m (by omega), nI_1, pk_mul]
theorem jx_pr_le {ln : Nat → Nat} : ∀ {m : Nat}, (∀ l, l < m → ln l ≤ 20) → jx_pr ln m ≤ 21 ^ m
  | 0, _ => Nat.le_refl _
  | m + 1, h => by
    unfold jx_pr
    rw [Nat.pow_succ]
    exact Nat.mul_le_mul (jx_pr_le (fun l hl => h l (by omega))) (by have := h m (by omega); omega)
theorem jx_pr_4 {ln : Nat → Nat} {m : Nat} (hm : m ≤ 4) (h : ∀ l, l < m → ln l ≤ 20) : jx_pr ln m < 2 ^ 20 := by
  have h1 := jx_pr_le h
  have h2 : 21 ^ m ≤ 21 ^ 4 := Nat.pow_le_pow_right (by omega) hm
  have h3 : 21 ^ 4 < 2 ^ 20 := by decide
  omega
theorem jx_cv_lt {ln d : Nat → Nat} : ∀ {m : Nat}, (∀ l, l < m → d l ≤ ln l) → jx_cv ln d m < jx_pr ln m
  | 0, _ => Nat.zero_lt_one
  | m + 1, h => by
    have ih := jx_cv_lt (ln := ln) (d := d) (m := m) (fun l hl => h l (by omega))
    have h1 := h m (by omega)
    unfold jx_cv jx_pr
    have h2 : (jx_cv ln d m + 1) * (ln m + 1) ≤ jx_pr ln m * (ln m + 1) := Nat.mul_le_mul_right _ ih
    rw [Nat.succ_mul] at h2
    omega
theorem jx_cv_max {ln d : Nat → Nat} : ∀ {m : Nat}, (∀ l, l < m → d l = ln l) → jx_cv ln d m + 1 = jx_pr ln m
  | 0, _ => rfl
  | m + 1, h => by
    have ih := jx_cv_max (ln := ln) (d := d) (m := m) (fun l hl => h l (by omega))
    unfold jx_cv jx_pr
    rw [← ih, h m (by omega), Nat.succ_mul]
    omega
theorem jx_cv_c {ln d d2 : Nat → Nat} : ∀ {m : Nat}, (∀ l, l < m → d l = d2 l) → jx_cv ln d m = jx_cv ln d2 m
  | 0, _ => rfl
  | m + 1, h => by
    unfold jx_cv
    rw [jx_cv_c (fun l hl => h l (by omega)), h m (by omega)]
theorem jx_cv_up {ln d d2 : Nat → Nat} {q : Nat} (h0 : jx_cv ln d2 q = jx_cv ln d q + 1) : ∀ {i : Nat}, (∀ l, q ≤ l → l < q + i → d l = ln l ∧ d2 l = 0) → jx_cv ln d2 (q + i) = jx_cv ln d (q + i) + 1
  | 0, _ => h0
  | i + 1, h => by
    have ih := jx_cv_up h0 (i := i) (fun l h1 h2 => h l h1 (by omega))
    obtain ⟨e1, e2⟩ := h (q + i) (by omega) (by omega)
    show jx_cv ln d2 (q + i + 1) = jx_cv ln d (q + i + 1) + 1
    unfold jx_cv
    rw [ih, e1, e2, Nat.succ_mul]
    omega
theorem jp_depthRows {m : Nat} {X : jl_Mem} (h : X 1 1 = nI m) (hm : m ≤ 4) : jf_X0_depthRows X = some (jx_dp X m, X) := by
  unfold jf_X0_depthRows
  rw [jl_lt_e, jl_lt_e]
  refine jl_loopE (fun i => (jx_dp X i, nI i, X)) _ m (by omega) (fun i hi => ?_) ?_
  · show jf_X0_depthRows_L4 (jx_dp X i) (nI i) X = _
    unfold jf_X0_depthRows_L4
    rw [h, if_neg (nI_ge hi (by omega)), jl_inb_n (by omega) (by omega), jl_chk_t, nI_clamp (by omega), jl_lt_e, jl_lt_e, nI_1]
    rfl
  · show jf_X0_depthRows_L4 (jx_dp X m) (nI m) X = _
    unfold jf_X0_depthRows_L4
    rw [h, if_pos (nI_le (Nat.le_refl _) (by omega)), jl_ex_s]
theorem jn_dec (a : Int32) : a + (-1) = a - 1 := (Int32.sub_eq_add_neg a 1).symm
theorem jp_next {m : Nat} {ln d : Nat → Nat} {X Y : jl_Mem} (hm : m ≤ 4) (hx : X 1 1 = nI m) (hy : Y 0 2 = nI m) (h5 : ∀ l, l < m → X 5 l = nI (ln l) ∧ Y 6 l = nI (ln l) ∧ ln l ≤ 20) (hd : ∀ l, l < m → d l ≤ ln l ∧ X 31 l = nI (d l) ∧ Y 8 l = nI (d l)) :
    ∃ (b : Bool) (X2 Y2 : jl_Mem) (d2 : Nat → Nat), jf_X3_goToNextDepths X = some (0, X2) ∧ jf_X5_next Y = some (jq_i b, Y2) ∧ (∀ l, l < m → d2 l ≤ ln l ∧ X2 31 l = nI (d2 l) ∧ Y2 8 l = nI (d2 l)) ∧ (∀ l, m ≤ l → X2 31 l = X 31 l ∧ Y2 8 l = Y 8 l) ∧ (∀ k, k ≠ 31 → X2 k = X k) ∧ (∀ k, k ≠ 8 → Y2 k = Y k) ∧ (b = true → jx_cv ln d2 m = jx_cv ln d m + 1) ∧ (b = false → jx_cv ln d m + 1 = jx_pr ln m) := by
  unfold jf_X3_goToNextDepths jf_X5_next
  rw [jl_lt_e, jl_lt_e, hx, hy]
  obtain ⟨r1, r2, f1, f2, b, X2, Y2, d2, e1, e2, f3⟩ := jl_bis (f := fun q => jf_X3_goToNextDepths_L10 q.1 q.2) (g := fun q => jf_X5_next_L7 q.1 q.2)
    (fun i s1 s2 => ∃ q, q + i = m ∧ s1.1 = nI q - 1 ∧ s2.1 = nI q - 1 ∧ (∀ l, l < q → s1.2 31 l = nI (d l) ∧ s2.2 8 l = nI (d l)) ∧ (∀ l, q ≤ l → l < m → d l = ln l ∧ s1.2 31 l = 0 ∧ s2.2 8 l = 0) ∧ (∀ l, m ≤ l → s1.2 31 l = X 31 l ∧ s2.2 8 l = Y 8 l) ∧ (∀ k, k ≠ 31 → s1.2 k = X k) ∧ (∀ k, k ≠ 8 → s2.2 k = Y k))
    (fun a c => ∃ (b : Bool) (X2 Y2 : jl_Mem) (d2 : Nat → Nat), a = (0, X2) ∧ c = (jq_i b, Y2) ∧ (∀ l, l < m → d2 l ≤ ln l ∧ X2 31 l = nI (d2 l) ∧ Y2 8 l = nI (d2 l)) ∧ (∀ l, m ≤ l → X2 31 l = X 31 l ∧ Y2 8 l = Y 8 l) ∧ (∀ k, k ≠ 31 → X2 k = X k) ∧ (∀ k, k ≠ 8 → Y2 k = Y k) ∧ (b = true → jx_cv ln d2 m = jx_cv ln d m + 1) ∧ (b = false → jx_cv ln d m + 1 = jx_pr ln m)) m (by omega) (s1 := (nI m - 1, X)) (s2 := (nI m - 1, Y)) ⟨m, rfl, rfl, rfl, fun l hl => (hd l hl).2, fun l h1 h2 => absurd h2 (by omega), fun _ _ => ⟨rfl, rfl⟩, fun _ _ => rfl, fun _ _ => rfl⟩ (by
    rintro i ⟨x0, x⟩ ⟨y0, y⟩ hi ⟨q, q0, q1, q2, q3, q4, q5, q6, q7⟩
    dsimp only at q1 q2 q3 q4 q5 q6 q7
    subst q1
    subst q2
    show (i < m ∧ ∃ u v, jf_X3_goToNextDepths_L10 (nI q - 1) x = some (.inl u) ∧ jf_X5_next_L7 (nI q - 1) y = some (.inl v) ∧ _) ∨ (∃ u v, jf_X3_goToNextDepths_L10 (nI q - 1) x = some (.inr u) ∧ jf_X5_next_L7 (nI q - 1) y = some (.inr v) ∧ _) ∨ _
    unfold jf_X3_goToNextDepths_L10 jf_X5_next_L7
    cases q with
    | zero =>
      rw [if_pos (by decide), if_pos (by decide), jl_ex_s, jl_ex_s]
      exact Or.inr (Or.inl ⟨_, _, rfl, rfl, false, x, y, fun _ => 0, rfl, rfl, fun l hl => ⟨Nat.zero_le _, (q4 l (by omega) hl).2⟩, q5, q6, q7, fun e => absurd e (by decide), fun _ => jx_cv_max (fun l hl => (q4 l (by omega) hl).1)⟩)
    | succ r =>
      obtain ⟨w1, w2, w3⟩ := h5 r (by omega)
      obtain ⟨v1, v2, v3⟩ := hd r (by omega)
      obtain ⟨u1, u2⟩ := q3 r (by omega)
      have ew : jx_wl x 30 r = decide (ln r ≤ d r) := by
        unfold jx_wl
        rw [show x (30 + 1) r = nI (d r) from u1, q6 5 (by decide), w1]
        by_cases c : ln r ≤ d r
        · rw [decide_eq_true c, decide_eq_true (nI_le c (by omega))]
        · rw [decide_eq_false c, decide_eq_false (nI_ge (by omega) (by omega))]
      rw [nI_pred, if_neg (nI_pos (by omega)), if_neg (nI_pos (by omega)), jp_isWhole (by omega), jl_bnd_s, jq_if, ew, jl_inb_n (by omega) (by omega), jl_chk_t, jl_chk_t, jl_chk_t, nI_clamp (by omega), q7 6 (by decide), w2, u1, u2, jl_lt_e, jl_lt_e, jl_lt_e, jl_lt_e, jl_lt_e, jl_lt_e, nI_1, jn_dec]
      by_cases c : ln r ≤ d r
      · rw [decide_eq_true c, if_pos rfl, if_pos (nI_le c (by omega))]
        refine Or.inl ⟨by omega, _, _, rfl, rfl, r, by omega, rfl, rfl, fun l hl => ?_, fun l h1 h2 => ?_, fun l hl => ?_, fun k hk => ?_, fun k hk => ?_⟩
        · show jl_st x 31 r 0 31 l = _ ∧ jl_st y 8 r 0 8 l = _
          rw [jl_st_cell, jl_st_cell, pk_un (by omega), pk_un (by omega)]
          exact q3 l (by omega)
        · show _ ∧ jl_st x 31 r 0 31 l = _ ∧ jl_st y 8 r 0 8 l = _
          rw [jl_st_cell, jl_st_cell]
          by_cases e : l = r
          · subst e
            rw [pk_us, pk_us]
            exact ⟨by omega, rfl, rfl⟩
          · rw [pk_un e, pk_un e]
            exact q4 l (by omega) h2
        · show jl_st x 31 r 0 31 l = _ ∧ jl_st y 8 r 0 8 l = _
          rw [jl_st_cell, jl_st_cell, pk_un (by omega), pk_un (by omega)]
          exact q5 l hl
        · show jl_st x 31 r 0 k = _
          rw [jl_st_ne _ _ _ hk]
          exact q6 k hk
        · show jl_st y 8 r 0 k = _
          rw [jl_st_ne _ _ _ hk]
          exact q7 k hk
      · rw [decide_eq_false c, if_neg (by decide), if_neg (nI_ge (by omega) (by omega)), jl_ex_s, jl_ex_s]
        refine Or.inr (Or.inl ⟨_, _, rfl, rfl, true, _, _, fun l => if l < r then d l else if l = r then d r + 1 else 0, rfl, rfl, fun l hl => ?_, fun l hl => ?_, fun k hk => ?_, fun k hk => ?_, fun _ => ?_, fun e => absurd e (by decide)⟩)
        · rw [jl_st_cell, jl_st_cell]
          show (if l < r then d l else if l = r then d r + 1 else 0) ≤ ln l ∧ _ = nI (if l < r then d l else if l = r then d r + 1 else 0) ∧ _ = nI (if l < r then d l else if l = r then d r + 1 else 0)
          by_cases e : l = r
          · subst e
            rw [pk_us, pk_us, if_neg (Nat.lt_irrefl l), if_pos rfl]
            exact ⟨by omega, rfl, rfl⟩
          · rw [pk_un e, pk_un e]
            by_cases e2 : l < r
            · rw [if_pos e2]
              exact ⟨(hd l hl).1, q3 l (by omega)⟩
            · rw [if_neg e2, if_neg e]
              exact ⟨Nat.zero_le _, (q4 l (by omega) hl).2⟩
        · rw [jl_st_cell, jl_st_cell, pk_un (by omega), pk_un (by omega)]
          exact q5 l hl
        · rw [jl_st_ne _ _ _ hk]
          exact q6 k hk
        · rw [jl_st_ne _ _ _ hk]
          exact q7 k hk
        · rw [← q0]
          refine jx_cv_up ?_ (fun l h1 h2 => ⟨(q4 l h1 (by omega)).1, ?_⟩)
          · unfold jx_cv
            rw [jx_cv_c (d2 := d) (fun l hl => if_pos hl), if_neg (Nat.lt_irrefl r), if_pos rfl]
            omega
          · show (if l < r then d l else if l = r then d r + 1 else 0) = 0
            rw [if_neg (by omega), if_neg (by omega)])
  exact ⟨b, X2, Y2, d2, by rw [f1, e1], by rw [f2, e2], f3⟩
