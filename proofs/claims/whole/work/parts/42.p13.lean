/-! pure 13: the next place is seen -/
theorem jp_seeP {n m l : Nat} {X Y : jl_Mem} (h : jr_P n m X Y) (hl : l < m) (hw : jx_wl X 24 l = false) :
    ∃ d t, X 25 l = nI d ∧ d < 20 ∧ nI d < X 5 l ∧ t < n ∧ X (12 + l) d = nI t ∧ jr_P n m (jl_st (jl_st X 25 l (nI (d + 1))) 23 9 (X 23 9 + X 3 l)) (jl_st (jl_st (jl_st Y 8 l (nI (d + 1))) 0 21 (Y 0 21 + 1)) 0 23 (Y 0 23 + Y 2 l)) ∧
      ∃ l2, l2 < m ∧ jx_se (jl_st (jl_st X 25 l (nI (d + 1))) 23 9 (X 23 9 + X 3 l)) 24 l2 t = true := by
  obtain ⟨hI, hB, hZ, hT, hY, ⟨h2, h16⟩, q1, q2, ⟨e2, e3, e4, e5, e6, e7⟩, hk, q5, q7, q8⟩ := h
  have hm := hI.1.2.1
  have hn := hI.1.1
  obtain ⟨d, ln, a1, a2, a3, a4, a5⟩ := jx_dep hI q1 hl
  have a4' : X 25 l = nI d := a4
  have hlt : d < ln := by
    have h9 : ¬ X 5 l ≤ X (24 + 1) l := of_decide_eq_false hw
    rw [a4, a5, nI_leI (by omega) (by omega)] at h9
    omega
  obtain ⟨ln2, b1, b2, b3, -⟩ := hI.2.2.2 l hl
  have eln : ln2 = ln := (nI_eq (by omega) (by omega)).mp (b2.symm.trans a5)
  obtain ⟨t, t1, t2, t3, t4⟩ := b3 d (by omega)
  have e3l := (hB.2.2.2.1 l (by omega)).2.1
  refine ⟨d, t, a4', by omega, by rw [a5]; exact nI_lt hlt (by omega), t1, t2, ?_⟩
  obtain ⟨X2, eX⟩ : ∃ X2, X2 = jl_st (jl_st X 25 l (nI (d + 1))) 23 9 (X 23 9 + X 3 l) := ⟨_, rfl⟩
  obtain ⟨Y2, eY⟩ : ∃ Y2, Y2 = jl_st (jl_st (jl_st Y 8 l (nI (d + 1))) 0 21 (Y 0 21 + 1)) 0 23 (Y 0 23 + Y 2 l) := ⟨_, rfl⟩
  rw [← eX, ← eY]
  have c25 : X2 25 = upd (X 25) l (nI (d + 1)) := by rw [eX, jl_st_ne _ _ _ (by decide), jl_st_cell]
  have c25b : X2 (24 + 1) = upd (X 25) l (nI (d + 1)) := c25
  have c23 : ∀ j, X2 23 j = upd (X 23) 9 (X 23 9 + X 3 l) j := fun j => by rw [eX, jl_st_cell, jl_st_ne _ _ _ (by decide)]
  have c9 : ∀ k, k ≠ 23 → k ≠ 25 → X2 k = X k := fun k k1 k2 => by rw [eX, jl_st_ne _ _ _ k1, jl_st_ne _ _ _ k2]
  have d8 : Y2 8 = upd (Y 8) l (nI (d + 1)) := by rw [eY, jl_st_ne _ _ _ (by decide), jl_st_ne _ _ _ (by decide), jl_st_cell]
  have d0 : ∀ j, Y2 0 j = upd (upd (Y 0) 21 (Y 0 21 + 1)) 23 (Y 0 23 + Y 2 l) j := fun j => by rw [eY, jl_st_cell, jl_st_cell, jl_st_ne _ _ _ (by decide)]
  have dk : ∀ k, k ≠ 0 → k ≠ 8 → Y2 k = Y k := fun k k1 k2 => by rw [eY, jl_st_ne _ _ _ k1, jl_st_ne _ _ _ k1, jl_st_ne _ _ _ k2]
  have cx : ∀ k, k < 21 → X2 k = X k := fun k hk => c9 k (by omega) (by omega)
  have hse2 : ∀ l2 u, l2 < m → jx_se X 24 l2 u = true → jx_se X2 24 l2 u = true := fun l2 u h3 h4 => by
    unfold jx_se at h4 ⊢
    rw [c9 (7 + l2) (by omega) (by omega), c9 (17 + l2) (by omega) (by omega), c25b]
    rw [Bool.and_eq_true] at h4 ⊢
    refine ⟨h4.1, decide_eq_true ?_⟩
    have h5 := of_decide_eq_true h4.2
    unfold upd
    by_cases e : l2 = l
    · rw [if_pos e]
      subst e
      rw [a4] at h5
      rw [jn_lt, nI_toInt (by omega)] at h5
      rw [jn_lt, nI_toInt (by omega)]
      omega
    · rw [if_neg e]
      exact h5
  refine ⟨⟨?_, ?_, hZ.cx hm cx, ?_, ?_, ⟨by rw [c23, pk_un (by decide)]; exact h2, by rw [d0, pk_un (by decide), pk_un (by decide)]; exact h16⟩, ?_, ?_, ?_, ?_, ?_, ?_, ?_⟩, l, hl, ?_⟩
  · obtain ⟨⟨a, b, c, d⟩, e, f, g⟩ := hI
    refine ⟨⟨a, b, by rw [cx 1 (by omega)]; exact c, by rw [cx 1 (by omega)]; exact d⟩, fun o ho => by rw [cx 2 (by omega)]; exact e o ho, fun o u ho hu => by rw [cx (7 + o) (by omega)]; exact f o u ho hu, fun o ho => ?_⟩
    rw [cx 5 (by omega), cx (12 + o) (by omega), cx (7 + o) (by omega), cx (17 + o) (by omega)]
    exact g o ho
  · refine jr_B.cx ?_ hm cx
    obtain ⟨b1, b2, b3, b4, b5, b6, b7⟩ := hB
    refine ⟨by rw [d0, pk_un (by decide), pk_un (by decide)]; exact b1, by rw [d0, pk_un (by decide), pk_un (by decide)]; exact b2, by rw [d0, pk_un (by decide), pk_un (by decide)]; exact b3, ?_, ?_, ?_, ?_⟩
    · rw [dk 1 (by decide) (by decide), dk 2 (by decide) (by decide), dk 3 (by decide) (by decide)]
      exact b4
    · rw [dk 6 (by decide) (by decide)]
      exact b5
    · rw [dk 4 (by decide) (by decide)]
      exact b6
    · rw [dk 5 (by decide) (by decide)]
      exact b7
  · exact ⟨fun o ho => by rw [dk 16 (by decide) (by decide), c9 35 (by omega) (by omega)]; exact hT.1 o ho, fun o ho => by rw [c9 32 (by omega) (by omega)]; exact hT.2 o ho⟩
  · exact ⟨fun k hk => by rw [dk 9 (by decide) (by decide)]; exact hY.1 k hk, fun u hu => by rw [dk 10 (by decide) (by decide)]; exact hY.2 u hu⟩
  · intro o ho
    rw [c25b, cx 5 (by omega)]
    unfold upd
    by_cases e : o = l
    · subst e
      rw [if_pos rfl]
      exact ⟨d + 1, by omega, rfl, by rw [a5]; exact nI_le (by omega) (by omega)⟩
    · rw [if_neg e]
      exact q1 o ho
  · refine ⟨fun o ho => ?_, fun o u ho hu => by rw [dk 9 (by decide) (by decide), c9 (24 + 2) (by omega) (by omega)]; exact q2.2 o u ho hu⟩
    rw [d8, c25b]
    unfold upd
    by_cases e : o = l
    · rw [if_pos e, if_pos e]
    · rw [if_neg e, if_neg e]
      exact q2.1 o ho
  · refine ⟨by rw [d0, pk_un (by decide), pk_un (by decide), c23, pk_un (by decide)]; exact e2, by rw [d0, pk_un (by decide), pk_un (by decide), c23, pk_un (by decide)]; exact e3, by rw [d0, pk_un (by decide), pk_un (by decide), c23, pk_un (by decide)]; exact e4, by rw [d0, pk_un (by decide), pk_un (by decide), c23, pk_un (by decide)]; exact e5, by rw [d0, pk_un (by decide), pk_un (by decide), c23, pk_un (by decide)]; exact e6, by rw [d0, pk_us, c23, pk_us, e7, e3l]⟩
  · rw [c23, pk_un (by decide)]
    exact hk
  · rw [d0, pk_un (by decide), pk_us, c25, ← nI_1, ← a4', jq_sum_upd hl, q5]
  · intro o u ho hu hb
    rw [c9 26 (by omega) (by omega)] at hb
    obtain ⟨l2, a1, a2⟩ := q7 o u ho hu hb
    exact ⟨l2, a1, hse2 l2 u a1 a2⟩
  · rw [c23, pk_un (by decide), c23, pk_un (by decide)]
    exact q8
  · unfold jx_se
    rw [c9 (7 + l) (by omega) (by omega), c9 (17 + l) (by omega) (by omega), c25b, pk_us, t4, decide_eq_true t3, decide_eq_true (nI_lt (by omega) (by omega))]
    rfl
/-- the next place of list l is seen, with the look behind it, on both sides -/
theorem jp_see {n m l : Nat} {X Y : jl_Mem} (h : jr_A n m X Y) (h2 : X 23 2 = 1) (hl : l < m) (hw : jx_wl X 24 l = false) :
    ∃ (b : Bool) (d t : Nat) (X2 Y2 : jl_Mem), X 25 l = nI d ∧ d < 20 ∧ t < n ∧ Y 8 l = nI d ∧ ¬ Y 8 l = Y 6 l ∧ Y 5 (20 * l + d) = nI t ∧ jf_X1_seeNextPlace (nI l) X = some (nI t, X2) ∧ jf_X5_looks (jl_st (jl_st (jl_st Y 8 l (nI (d + 1))) 0 21 (Y 0 21 + 1)) 0 23 (Y 0 23 + Y 2 l)) = some (jq_i b, Y2) ∧ jr_A n m X2 Y2 ∧ X2 23 3 = jq_i b ∧ (∃ l2, l2 < m ∧ jx_se X2 24 l2 t = true) ∧
      (∀ k, k ≠ 23 → k ≠ 24 → k ≠ 25 → k ≠ 27 → k ≠ 28 → X2 k = X k) ∧ (∀ j, j ≠ 3 → j ≠ 9 → X2 23 j = X 23 j) ∧ X2 25 = upd (X 25) l (nI (d + 1)) := by
  have hm := h.1.1.2.1
  have hn := h.1.1.1
  obtain ⟨d, t, a1, a2, a3, a4, a5, a6, l3, a7, a8⟩ := jp_seeP (h.P h2) hl hw
  obtain ⟨hI, hB, -, -, -, hH⟩ := h
  obtain ⟨r1, r2, -⟩ := hH.2.2 h2
  have y8 : Y 8 l = nI d := by
    rw [r2.1 l hl]
    exact a1
  have hne : ¬ Y 8 l = Y 6 l := by
    rw [y8, hB.2.2.2.2.1 l hl]
    intro e
    rw [← e] at a3
    exact absurd a3 (nI_nlt (Nat.le_refl _) (by omega))
  obtain ⟨b, X2, Y2, g1, g2, g3, g4, g5, g6, g7⟩ := jp_look a6
  obtain ⟨Z, eZ⟩ : ∃ Z, Z = jl_st (jl_st X 25 l (nI (d + 1))) 23 9 (X 23 9 + X 3 l) := ⟨_, rfl⟩
  have z25 : Z 25 = upd (X 25) l (nI (d + 1)) := by rw [eZ, jl_st_ne _ _ _ (by decide), jl_st_cell]
  have z23 : ∀ j, j ≠ 9 → Z 23 j = X 23 j := fun j hj => by rw [eZ, jl_st_cell, pk_un hj, jl_st_ne _ _ _ (by decide)]
  have zk : ∀ k, k ≠ 23 → k ≠ 25 → Z k = X k := fun k k1 k2 => by rw [eZ, jl_st_ne _ _ _ k1, jl_st_ne _ _ _ k2]
  have hf : jf_X1_seeNextPlace (nI l) X = some (nI t, jl_st X2 23 3 (jq_i b)) := by
    unfold jf_X1_seeNextPlace
    have v1 : ∀ w, jl_st X 25 l w 23 = X 23 := fun w => jl_st_ne _ _ _ (by decide)
    have v2 : ∀ w, jl_st X 25 l w 3 = X 3 := fun w => jl_st_ne _ _ _ (by decide)
    rw [jl_inb_n (by omega) (by omega), jl_chk_t, nI_clamp (by omega), a1, jl_inb_n a2 (by omega), jl_chk_t, nI_clamp (by omega), a5, jl_lt_e, jl_lt_e, jl_lt_e, nI_1, v1, v2, g1, jl_bnd_s, jq_b, jl_chk_t, jl_lt_e]
  rw [← eZ] at g4 g6 a8
  refine ⟨b, d, t, jl_st X2 23 3 (jq_i b), Y2, a1, a2, a4, y8, hne, by rw [hB.2.2.2.2.2.2 l d hl a2 a3]; exact a5, hf, g2, g3, g5, ?_, fun k k1 k2 k3 k4 k5 => by rw [g6 k k1 k2 k4 k5, zk k k1 k3], fun j j1 j2 => by rw [g4 j j1, z23 j j2], by rw [g6 25 (by decide) (by decide) (by decide) (by decide), z25]⟩
  refine ⟨l3, a7, ?_⟩
  unfold jx_se at a8 ⊢
  rw [g6 (7 + l3) (by omega) (by omega) (by omega) (by omega), g6 (17 + l3) (by omega) (by omega) (by omega) (by omega), g6 (24 + 1) (by omega) (by omega) (by omega) (by omega)]
  exact a8
/-- whether something of t is left to look up -/
def jx_op (X : jl_Mem) (t : Nat) : Nat → Bool
  | 0 => false
  | m + 1 => jx_op X t m || (decide (¬ X 4 m ≤ 0) && !jx_kn X 24 m t)
theorem jx_op_iff {X : jl_Mem} {t : Nat} : ∀ {m : Nat}, jx_op X t m = true ↔ ∃ l, l < m ∧ (decide (¬ X 4 l ≤ 0) && !jx_kn X 24 l t) = true
  | 0 => ⟨fun h => absurd h (by unfold jx_op; decide), fun ⟨l, h, _⟩ => absurd h (Nat.not_lt_zero l)⟩
  | m + 1 => by
    unfold jx_op
    rw [Bool.or_eq_true, jx_op_iff (m := m)]
    constructor
    · rintro (⟨l, h1, h2⟩ | h)
      · exact ⟨l, by omega, h2⟩
      · exact ⟨m, by omega, h⟩
    · rintro ⟨l, h1, h2⟩
      by_cases e : l = m
      · subst e
        exact Or.inr h2
      · exact Or.inl ⟨l, by omega, h2⟩
theorem jp_hasLeft {n m t : Nat} {X : jl_Mem} (hI : jx_I n m X) (ht : t < n) : jf_X1_hasLookUpsLeft (nI t) X = some (jq_i (jx_op X t m), X) := by
  have hn := hI.1.1
  have hm := hI.1.2.1
  unfold jf_X1_hasLookUpsLeft
  rw [jl_lt_e]
  obtain ⟨r, h1, h2⟩ := jl_loopF (f := fun q => jf_X1_hasLookUpsLeft_L2 (nI t) q.1 q.2) (fun i s => s = (nI i, X) ∧ jx_op X t i = false) (fun r => r = (jq_i (jx_op X t m), X)) m (by omega) (s0 := ((0 : Int32), X)) ⟨rfl, rfl⟩ (by
    rintro i s hi ⟨e, hs⟩
    subst e
    show (i < m ∧ ∃ s2, jf_X1_hasLookUpsLeft_L2 (nI t) (nI i) X = some (.inl s2) ∧ _) ∨ ∃ r, jf_X1_hasLookUpsLeft_L2 (nI t) (nI i) X = some (.inr r) ∧ _
    unfold jf_X1_hasLookUpsLeft_L2
    rw [hI.1.2.2.2]
    rcases Nat.lt_or_ge i m with q | q
    · rw [if_neg (nI_ge q (by omega)), jp_mayBe (by omega) (by omega), jl_bnd_s, jq_if, jl_lt_e, nI_1, jl_ex_s]
      cases c : (decide (¬ X 4 i ≤ 0) && !jx_kn X 24 i t) with
      | true =>
        rw [if_pos rfl]
        refine Or.inr ⟨_, rfl, ?_⟩
        rw [jx_op_iff.mpr ⟨i, q, c⟩]
        rfl
      | false =>
        refine Or.inl ⟨q, _, rfl, rfl, ?_⟩
        unfold jx_op
        rw [hs, c]
        rfl
    · have ei : i = m := by omega
      subst ei
      rw [if_pos (nI_le (Nat.le_refl _) (by omega)), jl_ex_s]
      exact Or.inr ⟨_, rfl, by rw [hs]; rfl⟩)
  rw [h1, h2]
theorem jp_isOpenY {n m t : Nat} {X Y : jl_Mem} (hI : jx_I n m X) (hV : jx_V m X 24) (hB : jr_B n m X Y) (hS : jr_S n m X 24 Y) (ht : t < n) : jf_X5_isOpen (nI t) Y = some (jq_i (jx_op X t m), Y) := by
  have hn := hI.1.1
  have hm := hI.1.2.1
  unfold jf_X5_isOpen
  rw [jl_lt_e]
  obtain ⟨r, h1, h2⟩ := jl_loopF (f := fun q => jf_X5_isOpen_L2 (nI t) q.1 q.2) (fun i s => s = (nI i, Y) ∧ jx_op X t i = false) (fun r => r = (jq_i (jx_op X t m), Y)) m (by omega) (s0 := ((0 : Int32), Y)) ⟨rfl, rfl⟩ (by
    rintro i s hi ⟨e, hs⟩
    subst e
    show (i < m ∧ ∃ s2, jf_X5_isOpen_L2 (nI t) (nI i) Y = some (.inl s2) ∧ _) ∨ ∃ r, jf_X5_isOpen_L2 (nI t) (nI i) Y = some (.inr r) ∧ _
    unfold jf_X5_isOpen_L2
    rw [hB.2.1]
    rcases Nat.lt_or_ge i m with q | q
    · rw [if_neg (nI_ge q (by omega)), jl_inb_n (by omega) (by omega), jl_chk_t, nI_clamp (by omega), (hB.2.2.2.1 i (by omega)).2.2, jp_isKnownY hI hV hB hS q ht, jl_bnd_s, jq_if, jl_lt_e, nI_1, jl_ex_s]
      by_cases c : X 4 i ≤ 0
      · rw [if_pos c]
        refine Or.inl ⟨q, _, rfl, rfl, ?_⟩
        unfold jx_op
        rw [hs, decide_eq_false (fun x => x c)]
        rfl
      · rw [if_neg c]
        cases d : jx_kn X 24 i t with
        | true =>
          rw [if_pos rfl]
          refine Or.inl ⟨q, _, rfl, rfl, ?_⟩
          unfold jx_op
          rw [hs, d, Bool.not_true, Bool.and_false]
          rfl
        | false =>
          refine Or.inr ⟨_, rfl, ?_⟩
          rw [jx_op_iff.mpr ⟨i, q, by rw [d, decide_eq_true c]; rfl⟩]
          rfl
    · have ei : i = m := by omega
      subst ei
      rw [if_pos (nI_le (Nat.le_refl _) (by omega)), jl_ex_s]
      exact Or.inr ⟨_, rfl, by rw [hs]; rfl⟩)
  rw [h1, h2]
