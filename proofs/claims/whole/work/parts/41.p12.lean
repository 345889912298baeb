/-! pure 12: a look, a lookup -/
def jr_Q (n m : Nat) (X Y : jl_Mem) : Prop := jx_V m X 24 ∧ jr_S n m X 24 Y ∧ (Y 0 17 = X 23 4 ∧ Y 0 18 = X 23 5 ∧ Y 0 19 = X 23 6 ∧ Y 0 20 = X 23 7 ∧ Y 0 22 = X 23 8 ∧ Y 0 23 = X 23 9) ∧
  (∃ k, 0 < k ∧ k ≤ n ∧ X 23 5 = nI k) ∧ Y 0 21 = jq_sum (X 25) m ∧ (∀ l t, l < m → t < n → jq_bit (X 26 l) t = true → ∃ l2, l2 < m ∧ jx_se X 24 l2 t = true) ∧ ((X 23 4 = 0 ∨ X 23 4 = 1 ∨ X 23 4 = 2) ∧ (X 23 4 = 2 → 0 < X 23 6))
/-- before a look -/
def jr_P (n m : Nat) (X Y : jl_Mem) : Prop := jx_I n m X ∧ jr_B n m X Y ∧ jr_Z n m X ∧ jr_T X Y ∧ jr_Y Y ∧ (X 23 2 = 1 ∧ Y 0 16 = 1) ∧ jr_Q n m X Y
theorem jr_A.P {n m : Nat} {X Y : jl_Mem} (h : jr_A n m X Y) (h2 : X 23 2 = 1) : jr_P n m X Y := by
  obtain ⟨hI, hB, hZ, hT, hY, hH⟩ := h
  obtain ⟨r1, r2, ⟨-, e2, e3, e4, e5, e6, e7⟩, ⟨k, k1, k2, k3, -⟩, r5, -, r7, r8⟩ := hH.2.2 h2
  exact ⟨hI, hB, hZ, hT, hY, ⟨h2, hH.1.trans h2⟩, r1, r2, ⟨e2, e3, e4, e5, e6, e7⟩, ⟨k, k1, k2, k3⟩, r5, r7, r8⟩
theorem jp_looksY {n : Nat} {Y Y1 : jl_Mem} {b : Bool} {k : Int32} (hk : Y 0 18 = k) (h1 : jf_X5_isSure k Y = some (jq_i b, Y1)) (h10 : ∀ t, t < 20 → jl_isB (Y1 10 t) = true) :
    ∃ Y2, jf_X5_looks Y = some (jq_i b, Y2) ∧ (∀ t, t < 20 → Y2 13 t = Y1 10 t) ∧ (∀ j, j ≠ 24 → Y2 0 j = Y1 0 j) ∧ Y2 0 24 = jq_i b ∧ (∀ q, q ≠ 0 → q ≠ 13 → Y2 q = Y1 q) := by
  unfold jf_X5_looks
  rw [hk, h1, jl_bnd_s, jq_b, jl_chk_t, jl_lt_e, jl_lt_e]
  obtain ⟨Z, eZ⟩ : ∃ Z, Z = jl_st Y1 0 24 (jq_i b) := ⟨_, rfl⟩
  rw [← eZ]
  have z10 : Z 10 = Y1 10 := by rw [eZ, jl_st_ne _ _ _ (by decide)]
  have z24 : Z 0 24 = jq_i b := by rw [eZ, jl_st_same]
  refine ⟨jl_sa Z 13 (jq_fl (Y1 10) (Z 13) 20), ?_, fun t ht => by rw [jl_sa_same, jq_fl_in ht], fun j hj => by rw [jl_sa_ne _ _ (by decide), eZ, jl_st_cell, pk_un hj], by rw [jl_sa_ne _ _ (by decide), z24], fun q q0 q13 => by rw [jl_sa_ne _ _ q13, eZ, jl_st_ne _ _ _ q0]⟩
  have h0 : ((0 : Int32), Z) = (nI 0, jl_sa Z 13 (jq_fl (Y1 10) (Z 13) 0)) := by rw [jq_fl_0, jl_sa_self, nI_0]
  rw [h0]
  refine jl_loopE (fun i => (nI i, jl_sa Z 13 (jq_fl (Y1 10) (Z 13) i))) _ 20 (by omega) (fun i hi => ?_) ?_
  · show jf_X5_looks_L14 (nI i) (jl_sa Z 13 (jq_fl (Y1 10) (Z 13) i)) = _
    unfold jf_X5_looks_L14
    have e20 : (20 : Int32) = nI 20 := by decide
    rw [e20, if_neg (nI_ge hi (by omega)), jl_inb_n hi (by omega), jl_chk_t, nI_clamp (by omega), jl_sa_ne _ _ (show (10 : Nat) ≠ 13 by decide), z10, h10 i hi, jl_chk_t, jl_lt_e, jl_lt_e, nI_1, jl_st_fl]
  · show jf_X5_looks_L14 (nI 20) (jl_sa Z 13 (jq_fl (Y1 10) (Z 13) 20)) = _
    unfold jf_X5_looks_L14
    rw [if_pos (by decide), jl_sa_ne _ _ (show (0 : Nat) ≠ 13 by decide), z24, jq_b, jl_chk_t, jl_ex_s]
theorem jp_look {n m : Nat} {X Y : jl_Mem} (h : jr_P n m X Y) : ∃ (b : Bool) (X2 Y2 : jl_Mem), jf_X2_isSure 24 (X 23 5) X = some (jq_i b, X2) ∧ jf_X5_looks Y = some (jq_i b, Y2) ∧ jr_A n m (jl_st X2 23 3 (jq_i b)) Y2 ∧ (∀ j, j ≠ 3 → jl_st X2 23 3 (jq_i b) 23 j = X 23 j) ∧ jl_st X2 23 3 (jq_i b) 23 3 = jq_i b ∧ (∀ k, k ≠ 23 → k ≠ 24 → k ≠ 27 → k ≠ 28 → jl_st X2 23 3 (jq_i b) k = X k) ∧ X2 23 = X 23 := by
  obtain ⟨hI, hB, hZ, hT, hY, ⟨h2, h16⟩, q1, q2, ⟨e2, e3, e4, e5, e6, e7⟩, ⟨k, k1, k2, k3⟩, q5, q7, q8⟩ := h
  have hm := hI.1.2.1
  have hn := hI.1.1
  obtain ⟨b, X2, f1, f2, f3, f4⟩ := jp_isSure (ts := 24) (Or.inl rfl) hI q1 k2 k1
  obtain ⟨b2, Y1, g1, g2, g3, g4, g5⟩ := jp_isSureY hI q1 hB q2 k2
  have eb : b2 = b := by
    cases b with
    | true => exact g2.mpr (f2.mp rfl)
    | false =>
      cases b2 with
      | false => rfl
      | true => exact absurd (f2.mpr (g2.mp rfl)) (by decide)
  rw [eb] at g1
  have y10 : ∀ t, t < 20 → jl_isB (Y1 10 t) = true := fun t ht => by
    rcases Nat.lt_or_ge t n with q | q
    · rw [g4 t q]
      exact jq_b _
    · rw [g5 t q]
      exact hY.2 t ht
  obtain ⟨Y2, p1, p2, p3, p4, p5⟩ := jp_looksY (n := n) (e3.trans k3) g1 y10
  have e23 : X2 23 = X 23 := f3 23 (by decide) (by decide) (by decide)
  have c1 : ∀ j, j ≠ 3 → jl_st X2 23 3 (jq_i b) 23 j = X 23 j := fun j hj => by rw [jl_st_cell, pk_un hj, e23]
  have c2 : jl_st X2 23 3 (jq_i b) 23 3 = jq_i b := jl_st_same _ _ _ _
  have c3 : ∀ k, k ≠ 23 → k ≠ 24 → k ≠ 27 → k ≠ 28 → jl_st X2 23 3 (jq_i b) k = X k := fun k a1 a2 a3 a4 => by rw [jl_st_ne _ _ _ a1, f3 k a2 a3 a4]
  have c4 : jl_st X2 23 3 (jq_i b) 24 5 = X2 24 5 := by rw [jl_st_ne _ _ _ (by decide)]
  refine ⟨b, X2, Y2, by rw [k3]; exact f1, p1, ?_, c1, c2, c3, e23⟩
  generalize jl_st X2 23 3 (jq_i b) = X3 at c1 c2 c3 c4
  have hg : jx_sg 24 X X3 := fun k hk => c3 k (by omega) (by omega) (by omega) (by omega)
  have cx : ∀ k, k < 21 → X3 k = X k := fun k hk => c3 k (by omega) (by omega) (by omega) (by omega)
  have cy : ∀ k, k ≠ 0 → k ≠ 7 → k ≠ 10 → k ≠ 11 → k ≠ 12 → k ≠ 13 → Y2 k = Y k := fun k a0 a1 a2 a3 a4 a5 => by rw [p5 k a0 a5, g3 k a1 a2 a3 a4]
  have cy0 : ∀ j, j ≠ 24 → Y2 0 j = Y 0 j := fun j hj => by rw [p3 j hj, g3 0 (by decide) (by decide) (by decide) (by decide)]
  refine ⟨hg.I hI, ?_, hZ.cx hm cx, ⟨fun l hl => by rw [cy 16 (by decide) (by decide) (by decide) (by decide) (by decide) (by decide), c3 35 (by decide) (by decide) (by decide) (by decide)]; exact hT.1 l hl, fun l hl => by rw [c3 32 (by decide) (by decide) (by decide) (by decide)]; exact hT.2 l hl⟩, ⟨fun k hk => by rw [cy 9 (by decide) (by decide) (by decide) (by decide) (by decide) (by decide)]; exact hY.1 k hk, fun t ht => by rw [p5 10 (by decide) (by decide)]; exact y10 t ht⟩, by rw [cy0 16 (by decide), c1 2 (by decide), h2, h16], by rw [c1 2 (by decide), h2]; decide, fun _ => ?_⟩
  · refine jr_B.cx ?_ hm cx
    obtain ⟨b1, b2, b3, b4, b5, b6, b7⟩ := hB
    refine ⟨by rw [cy0 1 (by decide)]; exact b1, by rw [cy0 2 (by decide)]; exact b2, by rw [cy0 3 (by decide)]; exact b3, ?_, ?_, ?_, ?_⟩
    · rw [cy 1 (by decide) (by decide) (by decide) (by decide) (by decide) (by decide), cy 2 (by decide) (by decide) (by decide) (by decide) (by decide) (by decide), cy 3 (by decide) (by decide) (by decide) (by decide) (by decide) (by decide)]
      exact b4
    · rw [cy 6 (by decide) (by decide) (by decide) (by decide) (by decide) (by decide)]
      exact b5
    · rw [cy 4 (by decide) (by decide) (by decide) (by decide) (by decide) (by decide)]
      exact b6
    · rw [cy 5 (by decide) (by decide) (by decide) (by decide) (by decide) (by decide)]
      exact b7
  · refine ⟨hg.V q1, ⟨fun l hl => by rw [cy 8 (by decide) (by decide) (by decide) (by decide) (by decide) (by decide), hg (24 + 1) (by omega)]; exact q2.1 l hl, fun l t hl ht => by rw [cy 9 (by decide) (by decide) (by decide) (by decide) (by decide) (by decide), hg (24 + 2) (by omega)]; exact q2.2 l t hl ht⟩, ⟨by rw [p4, c2], by rw [cy0 17 (by decide), c1 4 (by decide)]; exact e2, by rw [cy0 18 (by decide), c1 5 (by decide)]; exact e3, by rw [cy0 19 (by decide), c1 6 (by decide)]; exact e4, by rw [cy0 20 (by decide), c1 7 (by decide)]; exact e5, by rw [cy0 22 (by decide), c1 8 (by decide)]; exact e6, by rw [cy0 23 (by decide), c1 9 (by decide)]; exact e7⟩, ⟨k, k1, k2, by rw [c1 5 (by decide)]; exact k3, b, c2, ?_⟩, by rw [cy0 21 (by decide), c3 25 (by decide) (by decide) (by decide) (by decide)]; exact q5, fun t ht => ?_, fun l t hl ht hb => ?_, by rw [c1 4 (by decide), c1 6 (by decide)]; exact q8⟩
    · rw [f2]
      exact jx_sure_cong (fun t _ => (hg.lo hm).symm) (fun t _ => (hg.hi hm).symm)
    · rw [p2 t (by omega), g4 t ht, c4, f4 t ht]
    · rw [c3 26 (by decide) (by decide) (by decide) (by decide)] at hb
      obtain ⟨l2, a1, a2⟩ := q7 l t hl ht hb
      exact ⟨l2, a1, by rw [hg.se (by omega)]; exact a2⟩
theorem jp_mayBe {l t : Nat} {X : jl_Mem} (hl : l < 4) (ht : t < 20) : jf_X2_mayBeLookedUp 24 (nI l) (nI t) X = some (jq_i (decide (¬ X 4 l ≤ 0) && !jx_kn X 24 l t), X) := by
  unfold jf_X2_mayBeLookedUp
  rw [jl_inb_n hl (by omega), jl_chk_t, nI_clamp (by omega), jp_isKnown hl ht, jl_bnd_s, jq_if]
  by_cases c : X 4 l ≤ 0
  · rw [if_pos c, decide_eq_false (fun x => x c)]
    rfl
  · rw [if_neg c, decide_eq_true c]
    cases jx_kn X 24 l t <;> rfl
/-- one lookup, before the look behind it -/
theorem jp_note {n m l t : Nat} {X Y : jl_Mem} (h : jr_P n m X Y) (hl : l < m) (ht : t < n) (hse : ∃ l2, l2 < m ∧ jx_se X 24 l2 t = true) :
    jr_P n m (jl_st (jl_st (jl_st X 26 l (X 26 l ||| ((1 : Int32) <<< (nI t &&& 31)))) 23 8 (X 23 8 + 1)) 23 9 (X 23 9 + X 4 l)) (jl_st (jl_st (jl_st Y 9 (20 * l + t) 1) 0 22 (Y 0 22 + 1)) 0 23 (Y 0 23 + Y 3 l)) := by
  obtain ⟨hI, hB, hZ, hT, hY, ⟨h2, h16⟩, q1, q2, ⟨e2, e3, e4, e5, e6, e7⟩, hk, q5, q7, q8⟩ := h
  have hm := hI.1.2.1
  have hn := hI.1.1
  have e3l := (hB.2.2.2.1 l (by omega)).2.2
  obtain ⟨X2, eX⟩ : ∃ X2, X2 = jl_st (jl_st (jl_st X 26 l (X 26 l ||| ((1 : Int32) <<< (nI t &&& 31)))) 23 8 (X 23 8 + 1)) 23 9 (X 23 9 + X 4 l) := ⟨_, rfl⟩
  obtain ⟨Y2, eY⟩ : ∃ Y2, Y2 = jl_st (jl_st (jl_st Y 9 (20 * l + t) 1) 0 22 (Y 0 22 + 1)) 0 23 (Y 0 23 + Y 3 l) := ⟨_, rfl⟩
  rw [← eX, ← eY]
  have c26 : X2 26 = upd (X 26) l (X 26 l ||| ((1 : Int32) <<< (nI t &&& 31))) := by rw [eX, jl_st_ne _ _ _ (by decide), jl_st_ne _ _ _ (by decide), jl_st_cell]
  have c23 : ∀ j, X2 23 j = upd (upd (X 23) 8 (X 23 8 + 1)) 9 (X 23 9 + X 4 l) j := fun j => by rw [eX, jl_st_cell, jl_st_cell, jl_st_ne _ _ _ (by decide)]
  have c9 : ∀ k, k ≠ 23 → k ≠ 26 → X2 k = X k := fun k k1 k2 => by rw [eX, jl_st_ne _ _ _ k1, jl_st_ne _ _ _ k1, jl_st_ne _ _ _ k2]
  have d9 : Y2 9 = upd (Y 9) (20 * l + t) 1 := by rw [eY, jl_st_ne _ _ _ (by decide), jl_st_ne _ _ _ (by decide), jl_st_cell]
  have d0 : ∀ j, Y2 0 j = upd (upd (Y 0) 22 (Y 0 22 + 1)) 23 (Y 0 23 + Y 3 l) j := fun j => by rw [eY, jl_st_cell, jl_st_cell, jl_st_ne _ _ _ (by decide)]
  have dk : ∀ k, k ≠ 0 → k ≠ 9 → Y2 k = Y k := fun k k1 k2 => by rw [eY, jl_st_ne _ _ _ k1, jl_st_ne _ _ _ k1, jl_st_ne _ _ _ k2]
  have cx : ∀ k, k < 21 → X2 k = X k := fun k hk => c9 k (by omega) (by omega)
  have hse2 : ∀ l2 u, l2 < m → jx_se X2 24 l2 u = jx_se X 24 l2 u := fun l2 u h3 => by
    unfold jx_se
    rw [c9 (7 + l2) (by omega) (by omega), c9 (17 + l2) (by omega) (by omega), c9 (24 + 1) (by omega) (by omega)]
  refine ⟨?_, ?_, hZ.cx hm cx, ?_, ?_, ⟨by rw [c23, pk_un (by decide), pk_un (by decide)]; exact h2, by rw [d0, pk_un (by decide), pk_un (by decide)]; exact h16⟩, ?_, ?_, ?_, ?_, ?_, ?_, ?_⟩
  · obtain ⟨⟨a, b, c, d⟩, e, f, g⟩ := hI
    refine ⟨⟨a, b, by rw [cx 1 (by omega)]; exact c, by rw [cx 1 (by omega)]; exact d⟩, fun o ho => by rw [cx 2 (by omega)]; exact e o ho, fun o u ho hu => by rw [cx (7 + o) (by omega)]; exact f o u ho hu, fun o ho => ?_⟩
    rw [cx 5 (by omega), cx (12 + o) (by omega), cx (7 + o) (by omega), cx (17 + o) (by omega)]
    exact g o ho
  · refine jr_B.cx ?_ hm cx
    obtain ⟨b1, b2, b3, b4, b5, b6, b7⟩ := hB
    refine ⟨by rw [d0, pk_un (by decide), pk_un (by decide)]; exact b1, by rw [d0, pk_un (by decide), pk_un (by decide)]; exact b2, by rw [d0, pk_un (by decide), pk_un (by decide)]; exact b3, ?_, ?_, ?_, ?_⟩
    · rw [dk 1 (by decide) (by decide), dk 2 (by decide) (by decide), dk 3 (by decide) (by decide)]
      exact b4
    · rw [dk 6 (by decide) (by decide)]
      exact b5
    · rw [dk 4 (by decide) (by decide)]
      exact b6
    · rw [dk 5 (by decide) (by decide)]
      exact b7
  · exact ⟨fun o ho => by rw [dk 16 (by decide) (by decide), c9 35 (by omega) (by omega)]; exact hT.1 o ho, fun o ho => by rw [c9 32 (by omega) (by omega)]; exact hT.2 o ho⟩
  · refine ⟨fun k hk => ?_, fun u hu => by rw [dk 10 (by decide) (by decide)]; exact hY.2 u hu⟩
    rw [d9]
    unfold upd
    by_cases e : k = 20 * l + t
    · rw [if_pos e]
      decide
    · rw [if_neg e]
      exact hY.1 k hk
  · intro o ho
    rw [c9 (24 + 1) (by omega) (by omega), cx 5 (by omega)]
    exact q1 o ho
  · refine ⟨fun o ho => by rw [dk 8 (by decide) (by decide), c9 (24 + 1) (by omega) (by omega)]; exact q2.1 o ho, fun o u ho hu => ?_⟩
    rw [d9]
    show _ ↔ jq_bit (X2 26 o) u = false
    rw [c26]
    unfold upd
    by_cases e : o = l
    · subst e
      rw [if_pos rfl, jq_bit_or (by omega) (by omega)]
      by_cases e2 : u = t
      · rw [if_pos (by rw [e2]), decide_eq_true e2, Bool.or_true]
        decide
      · rw [if_neg (by omega), decide_eq_false e2, Bool.or_false]
        exact q2.2 o u ho hu
    · rw [if_neg (by omega), if_neg e]
      exact q2.2 o u ho hu
  · refine ⟨by rw [d0, pk_un (by decide), pk_un (by decide), c23, pk_un (by decide), pk_un (by decide)]; exact e2, by rw [d0, pk_un (by decide), pk_un (by decide), c23, pk_un (by decide), pk_un (by decide)]; exact e3, by rw [d0, pk_un (by decide), pk_un (by decide), c23, pk_un (by decide), pk_un (by decide)]; exact e4, by rw [d0, pk_un (by decide), pk_un (by decide), c23, pk_un (by decide), pk_un (by decide)]; exact e5, by rw [d0, pk_un (by decide), pk_us, c23, pk_un (by decide), pk_us, e6], by rw [d0, pk_us, c23, pk_us, e7, e3l]⟩
  · rw [c23, pk_un (by decide), pk_un (by decide)]
    exact hk
  · rw [d0, pk_un (by decide), pk_un (by decide), c9 25 (by omega) (by omega)]
    exact q5
  · intro o u ho hu hb
    rw [c26] at hb
    unfold upd at hb
    have hold : ∀ o2, o2 < m → jq_bit (X 26 o2) u = true → ∃ l2, l2 < m ∧ jx_se X2 24 l2 u = true := fun o2 ho2 hb2 => by
      obtain ⟨l2, a1, a2⟩ := q7 o2 u ho2 hu hb2
      exact ⟨l2, a1, by rw [hse2 l2 u a1]; exact a2⟩
    by_cases e : o = l
    · rw [if_pos e, jq_bit_or (by omega) (by omega), Bool.or_eq_true] at hb
      rcases hb with hb | hb
      · exact hold l hl hb
      · have := of_decide_eq_true hb
        subst this
        obtain ⟨l2, a1, a2⟩ := hse
        exact ⟨l2, a1, by rw [hse2 l2 u a1]; exact a2⟩
    · rw [if_neg e] at hb
      exact hold o ho hb
  · rw [c23, pk_un (by decide), pk_un (by decide), c23, pk_un (by decide), pk_un (by decide)]
    exact q8
/-- what a lookup leaves as it was -/
def jx_fr (X X2 : jl_Mem) : Prop := (∀ k, k ≠ 23 → k ≠ 24 → k ≠ 26 → k ≠ 27 → k ≠ 28 → X2 k = X k) ∧ (∀ j, j ≠ 3 → j ≠ 8 → j ≠ 9 → X2 23 j = X 23 j)
theorem jx_fr.rf {X : jl_Mem} : jx_fr X X := ⟨fun _ _ _ _ _ _ => rfl, fun _ _ _ _ => rfl⟩
theorem jx_fr.tr {X X2 X3 : jl_Mem} (h : jx_fr X X2) (h2 : jx_fr X2 X3) : jx_fr X X3 := ⟨fun k a b c d e => (h2.1 k a b c d e).trans (h.1 k a b c d e), fun j a b c => (h2.2 j a b c).trans (h.2 j a b c)⟩
theorem jp_lookUp {n m t : Nat} {X Y : jl_Mem} (h : jr_A n m X Y) (h2 : X 23 2 = 1) (hd : X 23 3 = 0) (ht : t < n) (hse : ∃ l2, l2 < m ∧ jx_se X 24 l2 t = true) :
    ∃ (b : Bool) (X2 Y2 : jl_Mem), jf_X1_lookUpEverywhere (nI t) X = some (0, X2) ∧ jf_X5_looksUp (nI t) Y = some (jq_i b, Y2) ∧ jr_A n m X2 Y2 ∧ X2 23 3 = jq_i b ∧ jx_fr X X2 := by
  have hn := h.1.1.1
  have hm := h.1.1.2.1
  unfold jf_X1_lookUpEverywhere jf_X5_looksUp
  rw [jl_lt_e, jl_lt_e]
  obtain ⟨r1, r2, f1, f2, b, X2, Y2, f3, f4, f5⟩ := jl_bis (f := fun q => jf_X1_lookUpEverywhere_L2 (nI t) q.1 q.2) (g := fun q => jf_X5_looksUp_L2 (nI t) q.1 q.2)
    (fun i s1 s2 => s1.1 = nI i ∧ s2.1 = nI i ∧ jr_A n m s1.2 s2.2 ∧ s1.2 23 3 = 0 ∧ jx_fr X s1.2)
    (fun a c => ∃ (b : Bool) (X2 Y2 : jl_Mem), a = (0, X2) ∧ c = (jq_i b, Y2) ∧ jr_A n m X2 Y2 ∧ X2 23 3 = jq_i b ∧ jx_fr X X2) m (by omega) (s1 := ((0 : Int32), X)) (s2 := ((0 : Int32), Y)) ⟨rfl, rfl, h, hd, jx_fr.rf⟩ (by
    rintro i ⟨x, z⟩ ⟨x2, y⟩ hi ⟨q1, q2, hA, hz, hfr⟩
    dsimp only at q1 q2 hA hz hfr
    subst q1
    subst q2
    show (i < m ∧ ∃ u v, jf_X1_lookUpEverywhere_L2 (nI t) (nI i) z = some (.inl u) ∧ jf_X5_looksUp_L2 (nI t) (nI i) y = some (.inl v) ∧ _) ∨ (∃ u v, jf_X1_lookUpEverywhere_L2 (nI t) (nI i) z = some (.inr u) ∧ jf_X5_looksUp_L2 (nI t) (nI i) y = some (.inr v) ∧ _) ∨ (∃ c u v, jf_X1_lookUpEverywhere_L2 (nI t) (nI i) z = some (.inl c) ∧ _ ∧ jf_X5_looksUp_L2 (nI t) (nI i) y = some (.inr v) ∧ _)
    have z2 : z 23 2 = 1 := by rw [hfr.2 2 (by decide) (by decide) (by decide)]; exact h2
    obtain ⟨hI, hB, hZ, -, -, hH⟩ := id hA
    unfold jf_X1_lookUpEverywhere_L2 jf_X5_looksUp_L2
    rw [hI.1.2.2.2, hB.2.1]
    rcases Nat.lt_or_ge i m with q | q
    · obtain ⟨r1, r2, -⟩ := hH.2.2 z2
      rw [if_neg (nI_ge q (by omega)), if_neg (nI_ge q (by omega)), if_pos hz, jp_mayBe (by omega) (by omega), jl_bnd_s, jq_if, jl_inb_n (by omega) (by omega), jl_chk_t, nI_clamp (by omega), (hB.2.2.2.1 i (by omega)).2.2, jp_isKnownY hI r1 hB r2 q ht, jl_bnd_s, jq_if]
      have hup : z 4 i = 0 ↔ z 4 i ≤ 0 := ⟨fun e => by rw [e]; decide, fun e => Int32.le_antisymm e (hZ.2.2.1 i q)⟩
      by_cases c : z 4 i ≤ 0
      · rw [if_pos (hup.mpr c), decide_eq_false (fun x => x c)]
        simp only [Bool.false_and, Bool.false_eq_true, if_false, jl_lt_e]
        rw [nI_1]
        exact Or.inl ⟨q, _, _, rfl, rfl, rfl, rfl, hA, hz, hfr⟩
      · rw [if_neg (fun x => c (hup.mp x)), decide_eq_true c]
        cases hkn : jx_kn z 24 i t with
        | true =>
          simp only [Bool.not_true, Bool.and_false, Bool.false_eq_true, if_false, if_true, jl_lt_e]
          rw [nI_1]
          exact Or.inl ⟨q, _, _, rfl, rfl, rfl, rfl, hA, hz, hfr⟩
        | false =>
          simp only [Bool.not_false, Bool.and_true, Bool.false_eq_true, if_false, if_true]
          have hse2 : ∃ l2, l2 < m ∧ jx_se z 24 l2 t = true := by
            obtain ⟨l2, a1, a2⟩ := hse
            refine ⟨l2, a1, ?_⟩
            unfold jx_se at a2 ⊢
            rw [hfr.1 (7 + l2) (by omega) (by omega) (by omega) (by omega) (by omega), hfr.1 (17 + l2) (by omega) (by omega) (by omega) (by omega) (by omega), hfr.1 (24 + 1) (by omega) (by omega) (by omega) (by omega) (by omega)]
            exact a2
          have hP := jp_note (hA.P z2) q ht hse2
          unfold jf_X2_noteLookUp
          rw [jl_inb_n (by omega) (by omega), jl_chk_t, nI_clamp (by omega), jl_lt_e, jl_bnd_s, jl_lt_e, jl_chk_t, jl_lt_e, jn_ix, jl_inb_n (by omega) (by omega), jl_chk_t, nI_clamp (by omega), jl_lt_e, jl_lt_e, jl_lt_e]
          have v1 : ∀ w, jl_st z (24 + 2) i w 23 = z 23 := fun w => jl_st_ne _ _ _ (by decide)
          have v2 : ∀ w w2, jl_st (jl_st z (24 + 2) i w) 23 8 w2 23 9 = z 23 9 := fun w w2 => by rw [jl_st_cell, pk_un (by decide), v1]
          have v3 : ∀ w w2, jl_st (jl_st z (24 + 2) i w) 23 8 w2 4 = z 4 := fun w w2 => by rw [jl_st_ne _ _ _ (by decide), jl_st_ne _ _ _ (by decide)]
          have u1 : ∀ w, jl_st y 9 (20 * i + t) w 0 = y 0 := fun w => jl_st_ne _ _ _ (by decide)
          have u2 : ∀ w w2, jl_st (jl_st y 9 (20 * i + t) w) 0 22 w2 0 23 = y 0 23 := fun w w2 => by rw [jl_st_cell, pk_un (by decide), u1]
          have u3 : ∀ w w2, jl_st (jl_st y 9 (20 * i + t) w) 0 22 w2 3 = y 3 := fun w w2 => by rw [jl_st_ne _ _ _ (by decide), jl_st_ne _ _ _ (by decide)]
          rw [v1, v2, v3, u1, u2, u3]
          rw [show (24 : Nat) + 2 = 26 from rfl]
          have hf0 : jx_fr z (jl_st (jl_st (jl_st z 26 i (z 26 i ||| ((1 : Int32) <<< (nI t &&& 31)))) 23 8 (z 23 8 + 1)) 23 9 (z 23 9 + z 4 i)) := ⟨fun k a b c d e => by rw [jl_st_ne _ _ _ a, jl_st_ne _ _ _ a, jl_st_ne _ _ _ c], fun j a b c => by rw [jl_st_cell, pk_un c, jl_st_cell, pk_un b, jl_st_ne _ _ _ (by decide)]⟩
          generalize jl_st (jl_st (jl_st z 26 i (z 26 i ||| ((1 : Int32) <<< (nI t &&& 31)))) 23 8 (z 23 8 + 1)) 23 9 (z 23 9 + z 4 i) = z5 at hP hf0 ⊢
          generalize jl_st (jl_st (jl_st y 9 (20 * i + t) 1) 0 22 (y 0 22 + 1)) 0 23 (y 0 23 + y 3 i) = y5 at hP ⊢
          obtain ⟨b, X2, Y2, g1, g2, g3, g4, g5, g6, g7⟩ := jp_look hP
          rw [g1, jl_bnd_s, jq_b, jl_chk_t, jl_lt_e, jl_lt_e, g2, jl_bnd_s, jq_if, jl_lt_e, nI_1]
          have hfr2 : jx_fr X (jl_st X2 23 3 (jq_i b)) := hfr.tr (hf0.tr ⟨fun k a b c d e => g6 k a b d e, fun j a b c => g4 j a⟩)
          generalize jl_st X2 23 3 (jq_i b) = X3 at g3 g5 hfr2 ⊢
          cases b with
          | false =>
            refine Or.inl ⟨q, _, _, rfl, rfl, rfl, rfl, g3, g5, hfr2⟩
          | true =>
            refine Or.inr (Or.inr ⟨_, (0, X3), _, rfl, ?_, rfl, true, X3, Y2, rfl, rfl, g3, g5, hfr2⟩)
            show jf_X1_lookUpEverywhere_L2 (nI t) (nI (i + 1)) X3 = _
            unfold jf_X1_lookUpEverywhere_L2
            by_cases c9 : X3 1 1 ≤ nI (i + 1)
            · rw [if_pos c9, jl_ex_s]
            · rw [if_neg c9, if_neg (by rw [g5]; decide), jl_ex_s]
    · rw [if_pos (nI_le q (by omega)), if_pos (nI_le q (by omega)), jl_ex_s, jl_ex_s]
      exact Or.inr (Or.inl ⟨_, _, rfl, rfl, false, z, y, rfl, rfl, hA, hz, hfr⟩))
  exact ⟨b, X2, Y2, by rw [f1, f3], by rw [f2, f4], f5⟩
