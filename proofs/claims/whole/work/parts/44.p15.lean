/-! pure 15: rounds, finish -/
theorem jr_A.tick {n m : Nat} {X Y X2 Y2 : jl_Mem} (h : jr_A n m X Y) (cx9 : ∀ k, k ≠ 23 → X2 k = X k) (c23 : ∀ j, j ≠ 7 → X2 23 j = X 23 j) (cy9 : ∀ k, k ≠ 0 → Y2 k = Y k) (cy0 : ∀ j, j ≠ 20 → Y2 0 j = Y 0 j) (e20 : Y2 0 20 = X2 23 7) : jr_A n m X2 Y2 := by
  obtain ⟨hI, hB, hZ, hT, hY, hH⟩ := h
  have hm := hI.1.2.1
  have hg : jx_sg 24 X X2 := fun k hk => cx9 k (by omega)
  have cx : ∀ k, k < 21 → X2 k = X k := fun k hk => cx9 k (by omega)
  refine ⟨hg.I hI, ?_, hZ.cx hm cx, ⟨fun l hl => by rw [cy9 16 (by decide), cx9 35 (by decide)]; exact hT.1 l hl, fun l hl => by rw [cx9 32 (by decide)]; exact hT.2 l hl⟩, ⟨fun k hk => by rw [cy9 9 (by decide)]; exact hY.1 k hk, fun t ht => by rw [cy9 10 (by decide)]; exact hY.2 t ht⟩, by rw [cy0 16 (by decide), c23 2 (by decide)]; exact hH.1, by rw [c23 2 (by decide)]; exact hH.2.1, fun q => ?_⟩
  · refine jr_B.cx ?_ hm cx
    obtain ⟨b1, b2, b3, b4, b5, b6, b7⟩ := hB
    refine ⟨by rw [cy0 1 (by decide)]; exact b1, by rw [cy0 2 (by decide)]; exact b2, by rw [cy0 3 (by decide)]; exact b3, ?_, ?_, ?_, ?_⟩
    · rw [cy9 1 (by decide), cy9 2 (by decide), cy9 3 (by decide)]
      exact b4
    · rw [cy9 6 (by decide)]
      exact b5
    · rw [cy9 4 (by decide)]
      exact b6
    · rw [cy9 5 (by decide)]
      exact b7
  · rw [c23 2 (by decide)] at q
    obtain ⟨r1, r2, ⟨e1, e2, e3, e4, e5, e6, e7⟩, ⟨k, k1, k2, k3, b, k4, k5⟩, r5, r6, r7, r8⟩ := hH.2.2 q
    refine ⟨hg.V r1, ⟨fun l hl => by rw [cy9 8 (by decide), cx9 (24 + 1) (by decide)]; exact r2.1 l hl, fun l t hl ht => by rw [cy9 9 (by decide), cx9 (24 + 2) (by decide)]; exact r2.2 l t hl ht⟩, ⟨by rw [cy0 24 (by decide), c23 3 (by decide)]; exact e1, by rw [cy0 17 (by decide), c23 4 (by decide)]; exact e2, by rw [cy0 18 (by decide), c23 5 (by decide)]; exact e3, by rw [cy0 19 (by decide), c23 6 (by decide)]; exact e4, e20, by rw [cy0 22 (by decide), c23 8 (by decide)]; exact e6, by rw [cy0 23 (by decide), c23 9 (by decide)]; exact e7⟩, ⟨k, k1, k2, by rw [c23 5 (by decide)]; exact k3, b, by rw [c23 3 (by decide)]; exact k4, ?_⟩, by rw [cy0 21 (by decide), cx9 25 (by decide)]; exact r5, fun t ht => by rw [cy9 13 (by decide), cx9 24 (by decide)]; exact r6 t ht, fun l t hl ht hb => ?_, by rw [c23 4 (by decide), c23 6 (by decide)]; exact r8⟩
    · rw [k5]
      exact jx_sure_cong (fun t _ => (hg.lo hm).symm) (fun t _ => (hg.hi hm).symm)
    · rw [cx9 26 (by decide)] at hb
      obtain ⟨l2, a1, a2⟩ := r7 l t hl ht hb
      exact ⟨l2, a1, by rw [hg.se (by omega)]; exact a2⟩
/-- how much of each row is left, in the midst of a round -/
def jx_rp (m i R : Nat) (X : jl_Mem) : Prop := ∀ l, l < m → ∃ d ln, d ≤ 20 ∧ ln ≤ 20 ∧ X 25 l = nI d ∧ X 5 l = nI ln ∧ ln ≤ d + (if l < i then R else R + 1)
theorem jx_rp.all {n m : Nat} {X : jl_Mem} (hI : jx_I n m X) (hV : jx_V m X 24) : jx_rp m 0 19 X := by
  intro l hl
  obtain ⟨d, ln, a1, a2, a3, a4, a5⟩ := jx_dep hI hV hl
  exact ⟨d, ln, by omega, by omega, a4, a5, by rw [if_neg (Nat.not_lt_zero l)]; omega⟩
theorem jx_rp.c {m i R : Nat} {X X2 : jl_Mem} (h : jx_rp m i R X) (e25 : X2 25 = X 25) (e5 : X2 5 = X 5) : jx_rp m i R X2 := by
  intro l hl
  rw [e25, e5]
  exact h l hl
theorem jx_rp.nx {m i R : Nat} {X : jl_Mem} (h : jx_rp m m R X) : jx_rp m i R X := by
  intro l hl
  obtain ⟨d, ln, a1, a2, a4, a5, a6⟩ := h l hl
  rw [if_pos hl] at a6
  exact ⟨d, ln, a1, a2, a4, a5, by split <;> omega⟩
theorem jx_rp.dn {m R : Nat} {X : jl_Mem} (h : jx_rp m m (R + 1) X) : jx_rp m 0 R X := by
  intro l hl
  obtain ⟨d, ln, a1, a2, a4, a5, a6⟩ := h l hl
  rw [if_pos hl] at a6
  exact ⟨d, ln, a1, a2, a4, a5, by rw [if_neg (Nat.not_lt_zero l)]; omega⟩
theorem jp_wrDone {i : Int32} {X : jl_Mem} (hd : ¬ X 23 3 = 0) : jf_X1_workRound_L12 i X = some (.inr (0, X)) := by
  unfold jf_X1_workRound_L12
  rw [if_neg hd, if_neg hd]
  by_cases c : X 1 1 ≤ i
  · rw [if_pos c]
    by_cases c2 : X 23 4 = 2
    · rw [if_pos c2, jl_ex_s]
    · rw [if_neg c2, jl_ex_s]
  · rw [if_neg c]
    by_cases c2 : X 23 4 = 2
    · rw [if_pos c2, jl_ex_s]
    · rw [if_neg c2, jl_ex_s]
theorem jn_nz {x : Int32} (h : 0 < x) : jl_nz x = true := by
  refine decide_eq_true fun e => ?_
  rw [e] at h
  exact absurd h (by decide)
theorem jp_works {n m R : Nat} {X Y : jl_Mem} (h : jr_A n m X Y) (h2 : X 23 2 = 1) (hd : X 23 3 = 0) (hR : jx_rp m 0 R X) :
    ∃ X2 Y2 : jl_Mem, jf_X1_workRound X = some (0, X2) ∧ jf_X5_works Y = some (0, Y2) ∧ jr_A n m X2 Y2 ∧ X2 23 2 = 1 ∧ (X2 23 3 = 0 → jx_rp m m R X2) := by
  have hn := h.1.1.1
  have hm := h.1.1.2.1
  unfold jf_X1_workRound jf_X5_works
  rw [jl_lt_e, jl_lt_e, jl_lt_e, jl_lt_e]
  obtain ⟨X1, eX⟩ : ∃ X1, X1 = jl_st X 23 7 (X 23 7 + 1) := ⟨_, rfl⟩
  obtain ⟨Y1, eY⟩ : ∃ Y1, Y1 = jl_st Y 0 20 (Y 0 20 + 1) := ⟨_, rfl⟩
  rw [← eX, ← eY]
  have c9 : ∀ k, k ≠ 23 → X1 k = X k := fun k hk => by rw [eX, jl_st_ne _ _ _ hk]
  have c23 : ∀ j, j ≠ 7 → X1 23 j = X 23 j := fun j hj => by rw [eX, jl_st_cell, pk_un hj]
  have hA1 : jr_A n m X1 Y1 := h.tick c9 c23 (fun k hk => by rw [eY, jl_st_ne _ _ _ hk]) (fun j hj => by rw [eY, jl_st_cell, pk_un hj]) (by rw [eX, eY, jl_st_same, jl_st_same, (h.R h2).2.2.1.2.2.2.2.1])
  obtain ⟨r1, r2, f1, f2, X2, Y2, e1, e2, f3⟩ := jl_bis (f := fun q => jf_X1_workRound_L12 q.1 q.2) (g := fun q => jf_X5_works_L12 q.1 q.2)
    (fun i s1 s2 => s1.1 = nI i ∧ s2.1 = nI i ∧ jr_A n m s1.2 s2.2 ∧ s1.2 23 2 = 1 ∧ s1.2 23 3 = 0 ∧ jx_rp m i R s1.2)
    (fun a c => ∃ X2 Y2 : jl_Mem, a = (0, X2) ∧ c = (0, Y2) ∧ jr_A n m X2 Y2 ∧ X2 23 2 = 1 ∧ (X2 23 3 = 0 → jx_rp m m R X2)) m (by omega) (s1 := ((0 : Int32), X1)) (s2 := ((0 : Int32), Y1)) ⟨rfl, rfl, hA1, (c23 2 (by decide)).trans h2, (c23 3 (by decide)).trans hd, hR.c (c9 25 (by decide)) (c9 5 (by decide))⟩ (by
    rintro i ⟨x0, x⟩ ⟨y0, y⟩ hi ⟨q1, q2, hA, x2, hz, hrp⟩
    dsimp only at q1 q2 hA x2 hz hrp
    subst q1
    subst q2
    show (i < m ∧ ∃ u v, jf_X1_workRound_L12 (nI i) x = some (.inl u) ∧ jf_X5_works_L12 (nI i) y = some (.inl v) ∧ _) ∨ (∃ u v, jf_X1_workRound_L12 (nI i) x = some (.inr u) ∧ jf_X5_works_L12 (nI i) y = some (.inr v) ∧ _) ∨ (∃ c u v, jf_X1_workRound_L12 (nI i) x = some (.inl c) ∧ jf_X1_workRound_L12 c.1 c.2 = some (.inr u) ∧ jf_X5_works_L12 (nI i) y = some (.inr v) ∧ _)
    obtain ⟨hI, hB, -⟩ := id hA
    obtain ⟨r1, r2, ⟨e1, e2, e3, e4, e5, e6, e7⟩, -, -, -, -, r8⟩ := hA.R x2
    unfold jf_X5_works_L12
    rw [hB.2.1]
    rcases Nat.lt_or_ge i m with q | q
    · have hw9 : jx_wl x 24 i = true ↔ y 8 i = y 6 i := by
        rw [r2.1 i q, hB.2.2.2.2.1 i q]
        exact (jx_wl_eq hI r1 q).symm
      rw [if_neg (nI_ge q (by omega)), jl_inb_n (by omega) (by omega), jl_chk_t, nI_clamp (by omega)]
      cases hw : jx_wl x 24 i with
      | true =>
        rw [if_pos (hw9.mp hw), jl_lt_e, nI_1]
        have ef : jf_X1_workRound_L12 (nI i) x = some (.inl (nI (i + 1), x)) := by
          unfold jf_X1_workRound_L12
          rw [hI.1.2.2.2, if_neg (nI_ge q (by omega)), if_pos hz, jp_isWhole (by omega), jl_bnd_s, hw, jq_t, jq_10, jl_lt_e, nI_1]
        refine Or.inl ⟨q, _, _, ef, rfl, rfl, rfl, hA, x2, hz, fun l hl => ?_⟩
        obtain ⟨d, ln, a1, a2, a3, a4, a5⟩ := hrp l hl
        refine ⟨d, ln, a1, a2, a3, a4, ?_⟩
        by_cases e : l = i
        · subst e
          rw [if_pos (by omega)]
          have h9 : x 5 l ≤ x (24 + 1) l := of_decide_eq_true hw
          rw [show x (24 + 1) l = nI d from a3, a4, nI_leI (by omega) (by omega)] at h9
          omega
        · by_cases e2 : l < i
          · rw [if_pos e2] at a5
            rw [if_pos (by omega)]
            exact a5
          · rw [if_neg e2] at a5
            rw [if_neg (by omega)]
            exact a5
      | false =>
        obtain ⟨b, d, t, X2, Y2, a1, a2, a3, a4, a5, a6, a7, a8, a9, a10, a11, a12, a13, a14⟩ := jp_see hA x2 q hw
        have x22 : X2 23 2 = 1 := by rw [a13 2 (by decide) (by decide)]; exact x2
        rw [if_neg a5, a4, jn_ix, jl_inb_n (by omega) (by omega), jl_chk_t, nI_clamp (by omega), a6, jl_lt_e, jl_lt_e, jl_lt_e, jl_lt_e, nI_1]
        have u1 : ∀ w, jl_st y 8 i w 0 = y 0 := fun w => jl_st_ne _ _ _ (by decide)
        have u2 : ∀ w w2, jl_st (jl_st y 8 i w) 0 21 w2 0 23 = y 0 23 := fun w w2 => by rw [jl_st_cell, pk_un (by decide), u1]
        have u3 : ∀ w w2, jl_st (jl_st y 8 i w) 0 21 w2 2 = y 2 := fun w w2 => by rw [jl_st_ne _ _ _ (by decide), jl_st_ne _ _ _ (by decide)]
        rw [u1, u2, u3, a8, jl_bnd_s, jq_if]
        have k2 := (a9.R x22).2.2.1.2.1
        have hrp2 : jx_rp m (i + 1) R X2 := fun l hl => by
          obtain ⟨d2, ln, b1, b2, b3, b4, b5⟩ := hrp l hl
          rw [a14, a12 5 (by decide) (by decide) (by decide) (by decide) (by decide)]
          unfold upd
          by_cases e : l = i
          · subst e
            rw [if_pos rfl]
            have ed : d2 = d := (nI_eq (by omega) (by omega)).mp (b3.symm.trans a1)
            refine ⟨d + 1, ln, by omega, b2, rfl, b4, ?_⟩
            rw [if_pos (by omega)]
            rw [if_neg (by omega)] at b5
            omega
          · rw [if_neg e]
            refine ⟨d2, ln, b1, b2, b3, b4, ?_⟩
            by_cases e2 : l < i
            · rw [if_pos e2] at b5
              rw [if_pos (by omega)]
              exact b5
            · rw [if_neg e2] at b5
              rw [if_neg (by omega)]
              exact b5
        have ef : jf_X1_workRound_L12 (nI i) x = if X2 23 4 = 1 then jl_bnd (jf_X1_lookUpEverywhere (nI t) X2) (fun _ M => some (.inl (nI (i + 1), M))) else some (.inl (nI (i + 1), X2)) := by
          unfold jf_X1_workRound_L12
          rw [hI.1.2.2.2, if_neg (nI_ge q (by omega)), if_pos hz, jp_isWhole (by omega), jl_bnd_s, hw, jq_f, jq_00, a7, jl_bnd_s, jl_lt_e, nI_1]
          rfl
        rw [ef, k2]
        cases b with
        | true =>
          have hnd : ¬ X2 23 3 = 0 := by rw [a10]; decide
          rw [jp_lookDone hnd, jl_bnd_s, if_pos rfl, jl_ex_s]
          refine Or.inr (Or.inr ⟨(nI (i + 1), X2), (0, X2), (0, Y2), ?_, jp_wrDone hnd, rfl, X2, Y2, rfl, rfl, a9, x22, fun e => absurd e hnd⟩)
          split <;> rfl
        | false =>
          simp only [Bool.false_eq_true, if_false, jl_lt_e]
          by_cases k1 : X2 23 4 = 1
          · rw [if_pos k1, if_pos k1]
            obtain ⟨b2, X3, Y3, g1, g2, g3, g4, g5⟩ := jp_lookUp a9 x22 a10 a3 a11
            have x32 : X3 23 2 = 1 := by rw [g5.2 2 (by decide) (by decide) (by decide)]; exact x22
            rw [g1, jl_bnd_s, g2, jl_bnd_s, jq_if, nI_1]
            cases b2 with
            | true =>
              have hnd : ¬ X3 23 3 = 0 := by rw [g4]; decide
              rw [if_pos rfl, jl_ex_s]
              exact Or.inr (Or.inr ⟨(nI (i + 1), X3), (0, X3), (0, Y3), rfl, jp_wrDone hnd, rfl, X3, Y3, rfl, rfl, g3, x32, fun e => absurd e hnd⟩)
            | false =>
              refine Or.inl ⟨q, _, _, rfl, rfl, rfl, rfl, g3, x32, g4, hrp2.c (g5.1 25 (by decide) (by decide) (by decide) (by decide) (by decide)) (g5.1 5 (by decide) (by decide) (by decide) (by decide) (by decide))⟩
          · rw [if_neg k1, if_neg k1, nI_1]
            exact Or.inl ⟨q, _, _, rfl, rfl, rfl, rfl, a9, x22, a10, hrp2⟩
    · have ei : i = m := by omega
      subst ei
      refine Or.inr (Or.inl ?_)
      unfold jf_X1_workRound_L12
      rw [hI.1.2.2.2, if_pos (nI_le q (by omega)), if_pos (nI_le q (by omega)), if_pos hz, e2, e4, e5]
      rcases r8.1 with k | k | k
      · rw [k, if_neg (by decide), if_pos (by decide), jl_ex_s, jl_ex_s]
        exact ⟨_, _, rfl, rfl, x, y, rfl, rfl, hA, x2, fun _ => hrp⟩
      · rw [k, if_neg (by decide), if_pos (by decide), jl_ex_s, jl_ex_s]
        exact ⟨_, _, rfl, rfl, x, y, rfl, rfl, hA, x2, fun _ => hrp⟩
      · have hs := r8.2 k
        rw [k, if_pos rfl, if_neg (Int32.not_le.mpr hs), if_neg (show ¬ (2 : Int32) < 2 by decide), jn_nz hs, jl_chk_t, jl_chk_t]
        by_cases c : x 23 7 - x 23 7 / x 23 6 * x 23 6 = 0
        · rw [if_pos c, if_pos c, jl_lt_e, jl_lt_e]
          obtain ⟨X2, Y2, g1, g2, g3, g4⟩ := jp_mixed hA x2 hz
          rw [g1, g2, jl_ex_s, jl_ex_s]
          exact ⟨_, _, rfl, rfl, X2, Y2, rfl, rfl, g3, by rw [g4.2 2 (by decide) (by decide) (by decide)]; exact x2, fun _ => hrp.c (g4.1 25 (by decide) (by decide) (by decide) (by decide) (by decide)) (g4.1 5 (by decide) (by decide) (by decide) (by decide) (by decide))⟩
        · rw [if_neg c, if_neg c, jl_ex_s, jl_ex_s]
          exact ⟨_, _, rfl, rfl, x, y, rfl, rfl, hA, x2, fun _ => hrp⟩)
  exact ⟨X2, Y2, by rw [f1, e1], by rw [f2, e2], f3⟩
/-- all rows seen: it is sure -/
theorem jp_allSeen {n m : Nat} {X Y : jl_Mem} (h : jr_A n m X Y) (h2 : X 23 2 = 1) (hR : jx_rp m m 0 X) : ¬ X 23 3 = 0 := by
  obtain ⟨hI, -⟩ := id h
  have hn := hI.1.1
  obtain ⟨r1, -, -, ⟨k, k1, k2, k3, b, k4, k5⟩, -⟩ := h.R h2
  rw [k4, k5.mpr ?_]
  · decide
  have hkn : ∀ l t, l < m → jx_kn X 24 l t = true := fun l t hl => by
    obtain ⟨d, ln, a1, a2, a3, a4, a5⟩ := hR l hl
    rw [if_pos hl] at a5
    unfold jx_kn jx_wl
    rw [show X (24 + 1) l = nI d from a3, a4, decide_eq_true (nI_le (by omega) (by omega))]
    rfl
  have hlh : ∀ t, jx_hi X 24 m t = jx_lo X 24 m t := fun t => by
    unfold jx_hi jx_lo
    refine jt_cong (fun l hl => ⟨rfl, ?_⟩)
    unfold jx_hh jx_lh
    rw [if_pos (hkn l t hl), if_pos (hkn l t hl)]
  intro a c ha hc q1 q2 q3
  rw [hlh] at q3
  have q4 : jc_f (jx_lo X 24 m) c a = true := by
    unfold jc_f
    refine decide_eq_true ?_
    rcases q3 with q | ⟨q, q'⟩
    · exact Or.inl q
    · exact Or.inr ⟨q.symm, q'⟩
  have := jr_mono hc q4
  omega
theorem jk_round {n m : Nat} {X Y : jl_Mem} (h : jr_A n m X Y) : jr_ok (jf_X4_round X) (jf_X5_round Y) := by
  obtain ⟨hI, hB, -, -, -, hH⟩ := id h
  unfold jf_X4_round jf_X5_round
  rw [hH.1]
  by_cases h0 : X 23 2 = 0
  · rw [if_pos h0, if_pos h0]
    exact h.id rfl rfl
  · obtain ⟨r, h2⟩ := hH.no h0
    rw [if_neg h0, if_neg h0, r.2.2.1.1]
    by_cases hd : X 23 3 = 0
    · rw [if_pos hd, if_pos hd]
      obtain ⟨X2, Y2, g1, g2, g3, g4, -⟩ := jp_works h h2 hd (jx_rp.all hI r.1)
      obtain ⟨-, -, e, ⟨k, -, -, -, b, k4, -⟩, -⟩ := g3.R g4
      rw [g1, g2, jl_bnd_s, jl_bnd_s, e.1, k4, jq_yes, jl_bnd_s]
      refine ⟨jq_i b, X2, Y2, n, m, rfl, ?_, g3⟩
      cases b <;> rfl
    · rw [if_neg hd, if_neg hd]
      exact h.id rfl rfl
theorem jk_finish {n m : Nat} {X Y : jl_Mem} (h : jr_A n m X Y) : jr_ok (jf_X4_finish X) (jf_X5_finish Y) := by
  obtain ⟨hI, hB, -, -, -, hH⟩ := id h
  unfold jf_X4_finish jf_X5_finish
  rw [hH.1]
  by_cases h0 : X 23 2 = 0
  · rw [if_pos h0, if_pos h0]
    exact h.id rfl rfl
  · obtain ⟨r, h2⟩ := hH.no h0
    rw [if_neg h0, if_neg h0, r.2.2.1.1, r.2.2.1.2.2.2.2.1]
    by_cases hd : X 23 3 = 0
    · rw [if_pos hd, if_pos hd, jl_lt_e, jl_lt_e, jl_lt_e]
      obtain ⟨a, c, f1, f2, w, X2, Y2, e1, e2, e3⟩ := jl_bis (f := fun q => jf_X4_finish_L35 (X 23 7) q.1 q.2) (g := fun q => jf_X5_finish_L24 (X 23 7) q)
        (fun i s1 y => s1.1 = nI i ∧ jr_A n m s1.2 y ∧ s1.2 23 2 = 1 ∧ (s1.2 23 3 = 0 → jx_rp m m (20 - i) s1.2))
        (fun a c => ∃ (w : Int32) (X2 Y2 : jl_Mem), a = (w, X2) ∧ c = (w, Y2) ∧ jr_A n m X2 Y2) 20 (by omega) (s1 := ((0 : Int32), X)) (s2 := Y) ⟨rfl, h, h2, fun _ l hl => by
          obtain ⟨d, ln, a1, a2, a3, a4, a5⟩ := jx_dep hI r.1 hl
          exact ⟨d, ln, by omega, by omega, a4, a5, by rw [if_pos hl]; omega⟩⟩ (by
        rintro i ⟨x0, x⟩ y hi ⟨q1, hA, x2, hrp⟩
        dsimp only at q1 hA x2 hrp
        subst q1
        show (i < 20 ∧ ∃ u v, jf_X4_finish_L35 (X 23 7) (nI i) x = some (.inl u) ∧ jf_X5_finish_L24 (X 23 7) y = some (.inl v) ∧ _) ∨ (∃ u v, jf_X4_finish_L35 (X 23 7) (nI i) x = some (.inr u) ∧ jf_X5_finish_L24 (X 23 7) y = some (.inr v) ∧ _) ∨ _
        obtain ⟨-, -, e, -⟩ := hA.R x2
        unfold jf_X4_finish_L35 jf_X5_finish_L24
        rw [e.1, e.2.2.2.2.1]
        by_cases hz : x 23 3 = 0
        · have hr := hrp hz
          rcases Nat.lt_or_ge i 20 with q | q
          · obtain ⟨R, eR⟩ : ∃ R, 20 - i = R + 1 := ⟨20 - i - 1, by omega⟩
            rw [eR] at hr
            have e20 : (20 : Int32) = nI 20 := by decide
            obtain ⟨X2, Y2, g1, g2, g3, g4, g5⟩ := jp_works hA x2 hz hr.dn
            rw [e20, if_neg (nI_ge q (by omega)), if_pos hz, if_pos hz, g1, g2, jl_bnd_s, jl_bnd_s, jl_lt_e, nI_1]
            refine Or.inl ⟨q, _, _, rfl, rfl, rfl, g3, g4, fun hz2 => ?_⟩
            rw [show 20 - (i + 1) = R by omega]
            exact g5 hz2
          · rw [show 20 - i = 0 by omega] at hr
            exact absurd hz (jp_allSeen hA x2 hr)
        · rw [if_neg hz, if_neg hz, jl_ex_s]
          refine Or.inr (Or.inl ⟨(x 23 7 - X 23 7, x), (x 23 7 - X 23 7, y), ?_, rfl, _, x, y, rfl, rfl, hA⟩)
          split <;> rfl)
      exact ⟨w, X2, Y2, n, m, by rw [f1, e1], by rw [f2, e2], e3⟩
    · rw [if_neg hd, if_neg hd]
      exact h.id rfl rfl
