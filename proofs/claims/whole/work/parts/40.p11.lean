/-! pure 11: weigh, rule, mark, unmark -/
theorem jk_weigh {n m : Nat} {X Y : jl_Mem} (h : jr_A n m X Y) (a b : Int32) : jr_ok (jf_X4_weigh a b X) (jf_X5_weigh a b Y) := by
  obtain ⟨hI, hB, hZ, hT, hY, hH⟩ := id h
  have hm := hI.1.2.1
  unfold jf_X4_weigh jf_X5_weigh
  by_cases hl : ∃ l, l < m ∧ a = nI l
  · obtain ⟨l, hl, rfl⟩ := hl
    rw [jp_hL_y hI.1.2.2.2 hm hl, jp_iL_y hB.2.1 hm hl, jl_bnd_s, jl_bnd_s, jq_10, jq_10]
    by_cases w1 : 0 ≤ b ∧ b ≤ 10
    · have e2 := (hB.2.2.2.1 l (by omega)).1
      rw [jp_wi_y w1, jp_in_y w1, jl_bnd_s, jl_bnd_s, jq_10, jq_10, jl_inb_n (by omega) (by omega), nI_clamp (by omega), e2]
      simp only [jl_chk_t, jl_lt_e]
      rw [jl_st_ne Y l b (show (0 : Nat) ≠ 1 by decide), hH.1]
      by_cases c : X 2 l = b
      · rw [if_pos c, if_pos c.symm, jl_st_id c, jl_st_id (M := Y) (by rw [e2]; exact c)]
        by_cases h0 : X 23 2 = 0
        · rw [if_pos h0, jl_st_id (by rw [hH.1]; exact h0)]
          exact h.id rfl rfl
        · rw [if_neg h0, jl_st_id (by rw [hH.1]; exact (hH.no h0).2)]
          exact h.id rfl rfl
      · rw [if_neg c, if_neg (show ¬ b = X 2 l from fun x => c x.symm)]
        have hif : ∀ (u : Option (Int32 × jl_Mem)), (if X 23 2 = 0 then u else u) = u := fun u => by
          by_cases h0 : X 23 2 = 0
          · rw [if_pos h0]
          · rw [if_neg h0]
        rw [hif]
        obtain ⟨X2, eX⟩ : ∃ X2, X2 = jl_st (jl_st X 23 2 0) 2 l b := ⟨_, rfl⟩
        obtain ⟨Y2, eY⟩ : ∃ Y2, Y2 = jl_st (jl_st Y 1 l b) 0 16 0 := ⟨_, rfl⟩
        rw [← eX, ← eY]
        have c2 : X2 2 = upd (X 2) l b := by rw [eX, jl_st_cell, jl_st_ne _ _ _ (by decide)]
        have c5 : X2 23 2 = 0 := by rw [eX, jl_st_ne _ _ _ (by decide), jl_st_same]
        have c6 : ∀ k, k ≠ 2 → k ≠ 23 → X2 k = X k := fun k k1 k2 => by rw [eX, jl_st_ne _ _ _ k1, jl_st_ne _ _ _ k2]
        have d0 : ∀ j, Y2 0 j = upd (Y 0) 16 0 j := fun j => by rw [eY, jl_st_cell, jl_st_ne _ _ _ (by decide)]
        have d1 : Y2 1 = upd (Y 1) l b := by rw [eY, jl_st_ne _ _ _ (by decide), jl_st_cell]
        have d7 : ∀ k, k ≠ 0 → k ≠ 1 → Y2 k = Y k := fun k k0 k1 => by rw [eY, jl_st_ne _ _ _ k0, jl_st_ne _ _ _ k1]
        refine ⟨_, X2, Y2, n, m, rfl, rfl, ?_, ?_, ?_, ?_, ?_, jr_H.gone c5 (by rw [d0, pk_us])⟩
        · refine ⟨by rw [c6 1 (by decide) (by decide)]; exact hI.1, fun o ho => ?_, fun o t ho ht => by rw [c6 (7 + o) (by omega) (by omega)]; exact hI.2.2.1 o t ho ht, fun o ho => ?_⟩
          · rw [c2]
            by_cases e : o = l
            · rw [e, pk_us]
              exact w1.1
            · rw [pk_un e]
              exact hI.2.1 o ho
          · rw [c6 5 (by omega) (by omega), c6 (12 + o) (by omega) (by omega), c6 (7 + o) (by omega) (by omega), c6 (17 + o) (by omega) (by omega)]
            exact hI.2.2.2 o ho
        · obtain ⟨b1, b2, b3, b4, b5, b6, b7⟩ := hB
          refine ⟨by rw [d0, pk_un (by decide)]; exact b1, by rw [d0, pk_un (by decide)]; exact b2, by rw [d0, pk_un (by decide), c6 1 (by decide) (by decide)]; exact b3, fun o ho => ?_, fun o ho => by rw [d7 6 (by decide) (by decide), c6 5 (by decide) (by decide)]; exact b5 o ho, fun o t ho ht => by rw [d7 4 (by decide) (by decide), c6 (7 + o) (by omega) (by omega)]; exact b6 o t ho ht, fun o p ho hp hq => ?_⟩
          · rw [d1, d7 2 (by decide) (by decide), d7 3 (by decide) (by decide), c2, c6 3 (by decide) (by decide), c6 4 (by decide) (by decide)]
            refine ⟨?_, (b4 o ho).2⟩
            by_cases e : o = l
            · rw [e, pk_us, pk_us]
            · rw [pk_un e, pk_un e]
              exact (b4 o ho).1
          · rw [c6 5 (by decide) (by decide)] at hq
            rw [d7 5 (by decide) (by decide), c6 (12 + o) (by omega) (by omega)]
            exact b7 o p ho hp hq
        · obtain ⟨z1, z2, z3, z4, z5⟩ := hZ
          exact ⟨fun o t ho ht q => by rw [c6 (7 + o) (by omega) (by omega)]; exact z1 o t ho ht q, fun o h1 h2 => by rw [c6 5 (by omega) (by omega)]; exact z2 o h1 h2, fun o ho => by rw [c6 4 (by omega) (by omega)]; exact z3 o ho, fun o ho => by rw [c6 5 (by omega) (by omega), c6 (7 + o) (by omega) (by omega)]; exact z4 o ho, by rw [c6 1 (by omega) (by omega), c6 5 (by omega) (by omega)]; exact z5⟩
        · exact ⟨fun o ho => by rw [d7 16 (by decide) (by decide), c6 35 (by omega) (by omega)]; exact hT.1 o ho, fun o ho => by rw [c6 32 (by omega) (by omega)]; exact hT.2 o ho⟩
        · exact ⟨fun k hk => by rw [d7 9 (by decide) (by decide)]; exact hY.1 k hk, fun t ht => by rw [d7 10 (by decide) (by decide)]; exact hY.2 t ht⟩
    · rw [jp_wi_n w1, jp_in_n w1, jl_bnd_s, jl_bnd_s, jq_00, jq_00]
      exact h.id rfl rfl
  · rw [jp_hL_n hI.1.2.2.2 hm hl, jp_iL_n hB.2.1 hm hl, jl_bnd_s, jl_bnd_s, jq_00, jq_00]
    exact h.id rfl rfl
theorem jk_rule {n m : Nat} {X Y : jl_Mem} (h : jr_A n m X Y) (a : Int32) : jr_ok (jf_X4_rule a X) (jf_X5_rule a Y) := by
  obtain ⟨hI, hB, hZ, hT, hY, hH⟩ := id h
  have hm := hI.1.2.1
  unfold jf_X4_rule jf_X5_rule
  by_cases w1 : 0 ≤ a ∧ a ≤ 2
  · rw [jp_wi_y w1, jp_in_y w1, jl_bnd_s, jl_bnd_s, jq_10, jq_10, hB.2.2.1]
    simp only [jl_lt_e]
    have e16 : jl_st Y 0 3 a 0 16 = X 23 2 := by rw [jl_st_cell, pk_un (by decide), hH.1]
    rw [e16]
    by_cases c : X 1 3 = a
    · rw [if_pos c, if_pos c.symm, jl_st_id c, jl_st_id (M := Y) (by rw [hB.2.2.1]; exact c)]
      by_cases h0 : X 23 2 = 0
      · rw [if_pos h0, jl_st_id (by rw [hH.1]; exact h0)]
        exact h.id rfl rfl
      · rw [if_neg h0, jl_st_id (by rw [hH.1]; exact (hH.no h0).2)]
        exact h.id rfl rfl
    · rw [if_neg c, if_neg (show ¬ a = X 1 3 from fun x => c x.symm)]
      have hif : ∀ (u : Option (Int32 × jl_Mem)), (if X 23 2 = 0 then u else u) = u := fun u => by
        by_cases h0 : X 23 2 = 0
        · rw [if_pos h0]
        · rw [if_neg h0]
      rw [hif]
      obtain ⟨X2, eX⟩ : ∃ X2, X2 = jl_st (jl_st X 23 2 0) 1 3 a := ⟨_, rfl⟩
      obtain ⟨Y2, eY⟩ : ∃ Y2, Y2 = jl_st (jl_st Y 0 3 a) 0 16 0 := ⟨_, rfl⟩
      rw [← eX, ← eY]
      have c1 : ∀ j, X2 1 j = upd (X 1) 3 a j := fun j => by rw [eX, jl_st_cell, jl_st_ne _ _ _ (by decide)]
      have c5 : X2 23 2 = 0 := by rw [eX, jl_st_ne _ _ _ (by decide), jl_st_same]
      have c6 : ∀ k, k ≠ 1 → k ≠ 23 → X2 k = X k := fun k k1 k2 => by rw [eX, jl_st_ne _ _ _ k1, jl_st_ne _ _ _ k2]
      have d0 : ∀ j, Y2 0 j = upd (upd (Y 0) 3 a) 16 0 j := fun j => by rw [eY, jl_st_cell, jl_st_cell]
      have d7 : ∀ k, k ≠ 0 → Y2 k = Y k := fun k k0 => by rw [eY, jl_st_ne _ _ _ k0, jl_st_ne _ _ _ k0]
      refine ⟨_, X2, Y2, n, m, rfl, rfl, ?_, ?_, ?_, ?_, ?_, jr_H.gone c5 (by rw [d0, pk_us])⟩
      · refine ⟨⟨hI.1.1, hm, by rw [c1, pk_un (by decide)]; exact hI.1.2.2.1, by rw [c1, pk_un (by decide)]; exact hI.1.2.2.2⟩, fun o ho => by rw [c6 2 (by decide) (by decide)]; exact hI.2.1 o ho, fun o t ho ht => by rw [c6 (7 + o) (by omega) (by omega)]; exact hI.2.2.1 o t ho ht, fun o ho => ?_⟩
        rw [c6 5 (by omega) (by omega), c6 (12 + o) (by omega) (by omega), c6 (7 + o) (by omega) (by omega), c6 (17 + o) (by omega) (by omega)]
        exact hI.2.2.2 o ho
      · obtain ⟨b1, b2, b3, b4, b5, b6, b7⟩ := hB
        refine ⟨by rw [d0, pk_un (by decide), pk_un (by decide)]; exact b1, by rw [d0, pk_un (by decide), pk_un (by decide)]; exact b2, by rw [d0, pk_un (by decide), pk_us, c1, pk_us], fun o ho => by rw [d7 1 (by decide), d7 2 (by decide), d7 3 (by decide), c6 2 (by decide) (by decide), c6 3 (by decide) (by decide), c6 4 (by decide) (by decide)]; exact b4 o ho, fun o ho => by rw [d7 6 (by decide), c6 5 (by decide) (by decide)]; exact b5 o ho, fun o t ho ht => by rw [d7 4 (by decide), c6 (7 + o) (by omega) (by omega)]; exact b6 o t ho ht, fun o p ho hp hq => ?_⟩
        rw [c6 5 (by decide) (by decide)] at hq
        rw [d7 5 (by decide), c6 (12 + o) (by omega) (by omega)]
        exact b7 o p ho hp hq
      · obtain ⟨z1, z2, z3, z4, z5⟩ := hZ
        exact ⟨fun o t ho ht q => by rw [c6 (7 + o) (by omega) (by omega)]; exact z1 o t ho ht q, fun o h1 h2 => by rw [c6 5 (by omega) (by omega)]; exact z2 o h1 h2, fun o ho => by rw [c6 4 (by omega) (by omega)]; exact z3 o ho, fun o ho => by rw [c6 5 (by omega) (by omega), c6 (7 + o) (by omega) (by omega)]; exact z4 o ho, by rw [c1, pk_un (by decide), c6 5 (by omega) (by omega)]; exact z5⟩
      · exact ⟨fun o ho => by rw [d7 16 (by decide), c6 35 (by omega) (by omega)]; exact hT.1 o ho, fun o ho => by rw [c6 32 (by omega) (by omega)]; exact hT.2 o ho⟩
      · exact ⟨fun k hk => by rw [d7 9 (by decide)]; exact hY.1 k hk, fun t ht => by rw [d7 10 (by decide)]; exact hY.2 t ht⟩
  · rw [jp_wi_n w1, jp_in_n w1, jl_bnd_s, jl_bnd_s, jq_00, jq_00]
    exact h.id rfl rfl
theorem jq_sum_upd {f : Nat → Int32} {l : Nat} {d : Int32} : ∀ {m : Nat}, l < m → jq_sum (upd f l (f l + d)) m = jq_sum f m + d
  | 0, h => absurd h (Nat.not_lt_zero l)
  | m + 1, h => by
    unfold jq_sum
    by_cases e : l = m
    · subst e
      rw [pk_us, jq_sum_cong (g := f) (fun k hk => pk_un (by omega)), Int32.add_assoc]
    · rw [jq_sum_upd (by omega), pk_un (by omega), Int32.add_assoc, Int32.add_comm d, ← Int32.add_assoc]
def jx_mo (b p : Bool) : Int32 := jq_i b - jq_i p
theorem jp_setMark {l t : Nat} {X : jl_Mem} {v : Int32} (hl : l < 4) (ht : t < 20) : jf_X0_setMark (nI l) (nI t) v X = jl_bnd (jf_X0_orderRow (nI l) (jl_st (jl_st (jl_st X (7 + l) t v) 5 l ((jl_st X (7 + l) t v) 5 l + jx_mo (decide (¬ v = 0)) (decide (¬ X (7 + l) t = 0)))) 1 2 ((jl_st (jl_st X (7 + l) t v) 5 l ((jl_st X (7 + l) t v) 5 l + jx_mo (decide (¬ v = 0)) (decide (¬ X (7 + l) t = 0)))) 1 2 + jx_mo (decide (¬ v = 0)) (decide (¬ X (7 + l) t = 0))))) (fun _ M => some (0, M)) := by
  unfold jf_X0_setMark
  rw [jl_inb_n hl (by omega), jl_inb_n ht (by omega), nI_clamp (by omega), nI_clamp (by omega), jp_yes0, jp_yes1]
  simp only [jl_chk_t, jl_lt_e, jl_bnd_s, jp_yes0, jp_yes1]
  unfold jx_mo
  by_cases c : v = 0
  · rw [if_pos c, decide_eq_false (fun x => x c)]
    by_cases d : X (7 + l) t = 0
    · rw [if_pos d, decide_eq_false (fun x => x d)]
      rfl
    · rw [if_neg d, decide_eq_true d]
      rfl
  · rw [if_neg c, decide_eq_true c]
    by_cases d : X (7 + l) t = 0
    · rw [if_pos d, decide_eq_false (fun x => x d)]
      rfl
    · rw [if_neg d, decide_eq_true d]
      rfl
theorem jx_mo_ct {p : Nat → Bool} {b : Bool} {t n : Nat} (ht : t < n) : nI (fb_ct p n) + jx_mo b (p t) = nI (fb_ct (fun k => if k = t then b else p k) n) := by
  have h := fb_ct_upd p b ht
  unfold jx_mo
  cases b with
  | true =>
    cases q : p t with
    | true =>
      rw [q] at h
      simp only [if_true] at h
      rw [show fb_ct (fun k => if k = t then true else p k) n = fb_ct p n by omega]
      show nI (fb_ct p n) + (1 - 1) = _
      rw [show (1 : Int32) - 1 = 0 from by decide, Int32.add_zero]
    | false =>
      rw [q] at h
      simp only [if_true, Bool.false_eq_true, if_false] at h
      rw [show fb_ct (fun k => if k = t then true else p k) n = fb_ct p n + 1 by omega]
      show nI (fb_ct p n) + (1 - 0) = _
      rw [show (1 : Int32) - 0 = 1 from by decide, nI_1]
  | false =>
    cases q : p t with
    | true =>
      rw [q] at h
      simp only [if_true, Bool.false_eq_true, if_false] at h
      rw [show fb_ct p n = fb_ct (fun k => if k = t then false else p k) n + 1 by omega]
      show nI (fb_ct (fun k => if k = t then false else p k) n + 1) + (0 - 1) = _
      rw [show (0 : Int32) - 1 = -1 from by decide, pk_m1]
    | false =>
      rw [q] at h
      simp only [Bool.false_eq_true, if_false] at h
      rw [show fb_ct (fun k => if k = t then false else p k) n = fb_ct p n by omega]
      show nI (fb_ct p n) + (0 - 0) = _
      rw [show (0 : Int32) - 0 = 0 from by decide, Int32.add_zero]
theorem jp_changed {n m l t : Nat} {X Y : jl_Mem} {v : Int32} (h : jr_A n m X Y) (hl : l < m) (ht : t < n) (hv : 0 ≤ v) (hne : ¬ X (7 + l) t = v) :
    ∃ X2 Y2, jf_X4_changeMark (nI l) (nI t) v X = some (X (7 + l) t, X2) ∧ jf_X5_order (nI l) (jl_st Y 4 (20 * l + t) v) = some (0, Y2) ∧ jr_A n m X2 Y2 := by
  obtain ⟨hI, hB, hZ, hT, hY, hH⟩ := h
  have hn := hI.1.1
  have hm := hI.1.2.1
  obtain ⟨z1, z2, z3, z4, z5⟩ := hZ
  obtain ⟨b1, b2, b3, b4, b5, b6, b7⟩ := hB
  obtain ⟨g, eg⟩ : ∃ g, g = upd (X (7 + l)) t v := ⟨_, rfl⟩
  have hgp : ∀ o, o < 20 → 0 ≤ g o := fun o ho => by
    rw [eg]
    unfold upd
    by_cases e : o = t
    · rw [if_pos e]
      exact hv
    · rw [if_neg e]
      exact hI.2.2.1 l o (by omega) ho
  have y4 : ∀ k j, k < 4 → j < 20 → jl_st Y 4 (20 * l + t) v 4 (20 * k + j) = if k = l ∧ j = t then v else X (7 + k) j := fun k j hk hj => by
    rw [jl_st_cell]
    unfold upd
    by_cases e : k = l ∧ j = t
    · rw [if_pos e, if_pos (by rw [e.1, e.2])]
    · rw [if_neg e, if_neg (by omega)]
      exact b6 k j hk hj
  obtain ⟨Y2, p1, p2, p3, p4, p5, p6, p7, p8⟩ := jp_order (n := n) (l := l) (Y := jl_st Y 4 (20 * l + t) v) (g := g) (by rw [jl_st_ne _ _ _ (by decide)]; exact b1) hn (by omega) (fun o ho => by
    rw [y4 l o (by omega) (by omega), eg]
    unfold upd
    by_cases e : o = t
    · rw [if_pos ⟨rfl, e⟩, if_pos e]
    · rw [if_neg (fun x => e x.2), if_neg e]) (fun o ho => hgp o (by omega))
  obtain ⟨d, ed⟩ : ∃ d, d = jx_mo (decide (¬ v = 0)) (decide (¬ X (7 + l) t = 0)) := ⟨_, rfl⟩
  obtain ⟨X1, e1⟩ : ∃ X1, X1 = jl_st (jl_st (jl_st (jl_st X 23 2 0) (7 + l) t v) 5 l (X 5 l + d)) 1 2 (X 1 2 + d) := ⟨_, rfl⟩
  have a1 : ∀ j, X1 1 j = upd (X 1) 2 (X 1 2 + d) j := fun j => by rw [e1, jl_st_cell, jl_st_ne _ _ _ (by omega), jl_st_ne _ _ _ (by omega), jl_st_ne _ _ _ (by omega)]
  have a5 : X1 5 = upd (X 5) l (X 5 l + d) := by rw [e1, jl_st_ne _ _ _ (by omega), jl_st_cell, jl_st_ne _ _ _ (by omega), jl_st_ne _ _ _ (by omega)]
  have a7 : X1 (7 + l) = g := by rw [e1, jl_st_ne _ _ _ (by omega), jl_st_ne _ _ _ (by omega), jl_st_cell, jl_st_ne _ _ _ (by omega), eg]
  have a23 : X1 23 2 = 0 := by rw [e1, jl_st_ne _ _ _ (by omega), jl_st_ne _ _ _ (by omega), jl_st_ne _ _ _ (by omega), jl_st_same]
  have a9 : ∀ k, k ≠ 1 → k ≠ 5 → k ≠ 7 + l → k ≠ 23 → X1 k = X k := fun k k1 k2 k3 k4 => by rw [e1, jl_st_ne _ _ _ k1, jl_st_ne _ _ _ k2, jl_st_ne _ _ _ k3, jl_st_ne _ _ _ k4]
  obtain ⟨X2, q1, q2, q3⟩ := jp_orderRow (n := n) (l := l) (X := X1) (by rw [a1, pk_un (by decide)]; exact hI.1.2.2.1) hn (by omega)
  have hcm : jf_X4_changeMark (nI l) (nI t) v X = some (X (7 + l) t, X2) := by
    unfold jf_X4_changeMark
    rw [jl_inb_n (by omega) (by omega), jl_inb_n (by omega) (by omega), jl_chk_t, jl_chk_t, nI_clamp (by omega), nI_clamp (by omega), jl_lt_e, if_neg hne, jl_lt_e, jp_setMark (by omega) (by omega)]
    have f1 : jl_st X 23 2 0 (7 + l) = X (7 + l) := jl_st_ne _ _ _ (by omega)
    have f2 : jl_st (jl_st X 23 2 0) (7 + l) t v 5 = X 5 := by rw [jl_st_ne _ _ _ (by omega), jl_st_ne _ _ _ (by omega)]
    have f3 : ∀ w, jl_st (jl_st (jl_st X 23 2 0) (7 + l) t v) 5 l w 1 = X 1 := fun w => by rw [jl_st_ne _ _ _ (by omega), jl_st_ne _ _ _ (by omega), jl_st_ne _ _ _ (by omega)]
    rw [f1, f2, f3, ← ed, ← e1, q1, jl_bnd_s, jl_bnd_s]
  have x7 : ∀ k, k < 4 → X2 (7 + k) = if k = l then g else X (7 + k) := fun k hk => by
    rw [q2 (7 + k) (by omega) (by omega)]
    by_cases e : k = l
    · rw [if_pos e, e, a7]
    · rw [if_neg e, a9 (7 + k) (by omega) (by omega) (by omega) (by omega)]
  have x5 : X2 5 = upd (X 5) l (X 5 l + d) := by rw [q2 5 (by omega) (by omega), a5]
  have hct : X 5 l + d = nI (fb_ct (fun o => decide (¬ g o = 0)) n) := by
    rw [z4 l hl, ed, jx_mo_ct (p := fun o => decide (¬ X (7 + l) o = 0)) ht]
    congr 1
    refine fb_ct_cong (fun o ho => ?_)
    rw [eg]
    unfold upd
    by_cases e : o = t
    · rw [if_pos e, if_pos e]
    · rw [if_neg e, if_neg e]
  have hcle := fb_ct_le (fun o => decide (¬ g o = 0)) n
  rw [a7] at q3
  have xr : ∀ p, p < fb_ct (fun o => decide (¬ g o = 0)) n → ∃ o, o < n ∧ ¬ g o = 0 ∧ X2 (12 + l) p = nI o ∧ X2 (17 + l) o = nI p ∧ Y2 5 (20 * l + p) = nI o := fun p hp => by
    obtain ⟨o, r1, r2, r3, r4⟩ := p8 p hp
    obtain ⟨s1, s2⟩ := q3 o r1 r2
    rw [r4] at s1 s2
    exact ⟨o, r1, r2, s2, s1, r3⟩
  have xo : ∀ k, k ≠ 1 → k ≠ 5 → k ≠ 7 + l → k ≠ 12 + l → k ≠ 17 + l → k ≠ 23 → X2 k = X k := fun k k1 k2 k3 k4 k5 k6 => by rw [q2 k k4 k5, a9 k k1 k2 k3 k6]
  have x1 : ∀ j, X2 1 j = upd (X 1) 2 (X 1 2 + d) j := fun j => by rw [q2 1 (by omega) (by omega), a1]
  have yo : ∀ k, k ≠ 0 → k ≠ 4 → k ≠ 5 → k ≠ 6 → Y2 k = Y k := fun k k0 k4 k5 k6 => by rw [p2 k k0 k5 k6, jl_st_ne _ _ _ k4]
  have y0 : ∀ j, j ≠ 16 → Y2 0 j = Y 0 j := fun j hj => by rw [p3 j hj, jl_st_ne _ _ _ (by decide)]
  refine ⟨X2, Y2, hcm, p1, ?_, ?_, ?_, ?_, ?_, jr_H.gone (by rw [q2 23 (by omega) (by omega)]; exact a23) p4⟩
  · refine ⟨⟨hn, hm, by rw [x1, pk_un (by decide)]; exact hI.1.2.2.1, by rw [x1, pk_un (by decide)]; exact hI.1.2.2.2⟩, fun o ho => by rw [xo 2 (by omega) (by omega) (by omega) (by omega) (by omega) (by omega)]; exact hI.2.1 o ho, fun o j ho hj => ?_, fun o ho => ?_⟩
    · rw [x7 o ho]
      by_cases e : o = l
      · rw [if_pos e]
        exact hgp j hj
      · rw [if_neg e]
        exact hI.2.2.1 o j ho hj
    · rw [x5, x7 o (by omega)]
      by_cases e : o = l
      · subst e
        rw [pk_us, if_pos rfl]
        refine ⟨_, hcle, hct, fun p hp => ?_, fun j hj hk => ?_⟩
        · obtain ⟨u, r1, r2, r3, r4, -⟩ := xr p hp
          exact ⟨u, r1, r3, r2, r4⟩
        · exact ⟨_, jr_mk_lt (fun i hi => hgp i (by omega)) hj hk, (q3 j hj hk).2⟩
      · rw [pk_un e, if_neg e, xo (12 + o) (by omega) (by omega) (by omega) (by omega) (by omega) (by omega), xo (17 + o) (by omega) (by omega) (by omega) (by omega) (by omega) (by omega)]
        exact hI.2.2.2 o ho
  · refine ⟨by rw [y0 1 (by decide)]; exact b1, by rw [y0 2 (by decide)]; exact b2, by rw [y0 3 (by decide), x1, pk_un (by decide)]; exact b3, fun o ho => by rw [yo 1 (by decide) (by decide) (by decide) (by decide), yo 2 (by decide) (by decide) (by decide) (by decide), yo 3 (by decide) (by decide) (by decide) (by decide), xo 2 (by omega) (by omega) (by omega) (by omega) (by omega) (by omega), xo 3 (by omega) (by omega) (by omega) (by omega) (by omega) (by omega), xo 4 (by omega) (by omega) (by omega) (by omega) (by omega) (by omega)]; exact b4 o ho, fun o ho => ?_, fun o j ho hj => ?_, fun o p ho hp hq => ?_⟩
    · rw [x5]
      by_cases e : o = l
      · rw [e, pk_us, p7, hct]
      · rw [pk_un e, p6 o e, jl_st_ne _ _ _ (by decide)]
        exact b5 o ho
    · rw [p2 4 (by decide) (by decide) (by decide), y4 o j ho hj, x7 o ho]
      by_cases e : o = l
      · subst e
        rw [if_pos rfl, eg]
        unfold upd
        by_cases e2 : j = t
        · rw [if_pos ⟨rfl, e2⟩, if_pos e2]
        · rw [if_neg (fun x => e2 x.2), if_neg e2]
      · rw [if_neg (fun x => e x.1), if_neg e]
    · rw [x5] at hq
      by_cases e : o = l
      · subst e
        rw [pk_us, hct] at hq
        obtain ⟨u, -, -, r3, -, r5⟩ := xr p ((nI_ltI (by omega) (by omega)).mp hq)
        rw [r3, r5]
      · rw [pk_un e] at hq
        rw [p5 _ (by omega), jl_st_ne _ _ _ (by decide), xo (12 + o) (by omega) (by omega) (by omega) (by omega) (by omega) (by omega)]
        exact b7 o p ho hp hq
  · refine ⟨fun o j ho hj hq => ?_, fun o h1 h2 => ?_, fun o ho => by rw [xo 4 (by omega) (by omega) (by omega) (by omega) (by omega) (by omega)]; exact z3 o ho, fun o ho => ?_, ?_⟩
    · rw [x7 o ho]
      by_cases e : o = l
      · subst e
        rw [if_pos rfl, eg, pk_un (by omega)]
        exact z1 o j ho hj hq
      · rw [if_neg e]
        exact z1 o j ho hj hq
    · rw [x5, pk_un (by omega)]
      exact z2 o h1 h2
    · rw [x5, x7 o (by omega)]
      by_cases e : o = l
      · subst e
        rw [pk_us, if_pos rfl]
        exact hct
      · rw [pk_un e, if_neg e]
        exact z4 o ho
    · rw [x1, pk_us, x5, jq_sum_upd hl, z5]
  · exact ⟨fun o ho => by rw [yo 16 (by decide) (by decide) (by decide) (by decide), xo 35 (by omega) (by omega) (by omega) (by omega) (by omega) (by omega)]; exact hT.1 o ho, fun o ho => by rw [xo 32 (by omega) (by omega) (by omega) (by omega) (by omega) (by omega)]; exact hT.2 o ho⟩
  · exact ⟨fun k hk => by rw [yo 9 (by decide) (by decide) (by decide) (by decide)]; exact hY.1 k hk, fun j hj => by rw [yo 10 (by decide) (by decide) (by decide) (by decide)]; exact hY.2 j hj⟩
theorem jp_same {n m l t : Nat} {X : jl_Mem} {v : Int32} (hI : jx_I n m X) (hl : l < m) (ht : t < n) (he : X (7 + l) t = v) : jf_X4_changeMark (nI l) (nI t) v X = some (X (7 + l) t, X) := by
  have hn := hI.1.1
  have hm := hI.1.2.1
  unfold jf_X4_changeMark
  rw [jl_inb_n (by omega) (by omega), jl_inb_n (by omega) (by omega), jl_chk_t, jl_chk_t, nI_clamp (by omega), nI_clamp (by omega), jl_lt_e, if_pos he]
theorem jk_mark {n m : Nat} {X Y : jl_Mem} (h : jr_A n m X Y) (a b c : Int32) : jr_ok (jf_X4_mark a b c X) (jf_X5_mark a b c Y) := by
  obtain ⟨hI, hB, -⟩ := id h
  have hm := hI.1.2.1
  have hn := hI.1.1
  unfold jf_X4_mark jf_X5_mark
  by_cases hl : ∃ l, l < m ∧ a = nI l
  · obtain ⟨l, hl, rfl⟩ := hl
    rw [jp_hL_y hI.1.2.2.2 hm hl, jp_iL_y hB.2.1 hm hl, jl_bnd_s, jl_bnd_s, jq_10, jq_10]
    by_cases ht : ∃ t, t < n ∧ b = nI t
    · obtain ⟨t, ht, rfl⟩ := ht
      rw [jp_hT_y hI.1.2.2.1 hn ht, jp_iT_y hB.1 hn ht, jl_bnd_s, jl_bnd_s, jq_10, jq_10]
      by_cases hw : 1 ≤ c ∧ c ≤ 1000
      · have e4 := hB.2.2.2.2.2.1 l t (by omega) (by omega)
        rw [jp_wi_y hw, jp_in_y hw, jl_bnd_s, jl_bnd_s, jq_10, jq_10, jn_ix, jl_inb_n (by omega) (by omega), jl_chk_t, nI_clamp (by omega), jl_lt_e, jl_lt_e, e4]
        by_cases hk : X (7 + l) t = c
        · rw [jp_same hI hl ht hk, jl_bnd_s, if_pos hk.symm, jl_st_id (by rw [e4]; exact hk)]
          exact h.id rfl rfl
        · obtain ⟨X2, Y2, g1, g2, g3⟩ := jp_changed h hl ht (Int32.le_trans (by decide) hw.1) hk
          rw [g1, jl_bnd_s, if_neg (fun x => hk x.symm), g2, jl_bnd_s]
          exact ⟨_, X2, Y2, n, m, rfl, rfl, g3⟩
      · rw [jp_wi_n hw, jp_in_n hw, jl_bnd_s, jl_bnd_s, jq_00, jq_00]
        exact h.id rfl rfl
    · rw [jp_hT_n hI.1.2.2.1 hn ht, jp_iT_n hB.1 hn ht, jl_bnd_s, jl_bnd_s, jq_00, jq_00]
      exact h.id rfl rfl
  · rw [jp_hL_n hI.1.2.2.2 hm hl, jp_iL_n hB.2.1 hm hl, jl_bnd_s, jl_bnd_s, jq_00, jq_00]
    exact h.id rfl rfl
theorem jk_unmark {n m : Nat} {X Y : jl_Mem} (h : jr_A n m X Y) (a b : Int32) : jr_ok (jf_X4_unmark a b X) (jf_X5_unmark a b Y) := by
  obtain ⟨hI, hB, -⟩ := id h
  have hm := hI.1.2.1
  have hn := hI.1.1
  unfold jf_X4_unmark jf_X5_unmark
  by_cases hl : ∃ l, l < m ∧ a = nI l
  · obtain ⟨l, hl, rfl⟩ := hl
    rw [jp_hL_y hI.1.2.2.2 hm hl, jp_iL_y hB.2.1 hm hl, jl_bnd_s, jl_bnd_s, jq_10, jq_10]
    by_cases ht : ∃ t, t < n ∧ b = nI t
    · obtain ⟨t, ht, rfl⟩ := ht
      have e4 := hB.2.2.2.2.2.1 l t (by omega) (by omega)
      rw [jp_hT_y hI.1.2.2.1 hn ht, jp_iT_y hB.1 hn ht, jl_bnd_s, jl_bnd_s, jq_10, jq_10, jn_ix, jl_inb_n (by omega) (by omega), jl_chk_t, nI_clamp (by omega), jl_lt_e, jl_lt_e, e4]
      by_cases hk : X (7 + l) t = 0
      · rw [jp_same hI hl ht hk, jl_bnd_s, if_pos hk, jl_st_id (by rw [e4]; exact hk)]
        exact h.id rfl rfl
      · obtain ⟨X2, Y2, g1, g2, g3⟩ := jp_changed h hl ht (by decide) hk
        rw [g1, jl_bnd_s, if_neg hk, g2, jl_bnd_s]
        exact ⟨_, X2, Y2, n, m, rfl, rfl, g3⟩
    · rw [jp_hT_n hI.1.2.2.1 hn ht, jp_iT_n hB.1 hn ht, jl_bnd_s, jl_bnd_s, jq_00, jq_00]
      exact h.id rfl rfl
  · rw [jp_hL_n hI.1.2.2.2 hm hl, jp_iL_n hB.2.1 hm hl, jl_bnd_s, jl_bnd_s, jq_00, jq_00]
    exact h.id rfl rfl
