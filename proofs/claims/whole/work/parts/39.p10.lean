/-! pure 10: things, lists, weights, the rule, marks -/
theorem jl_st_id {M : jl_Mem} {k j : Nat} {v : Int32} (h : M k j = v) : jl_st M k j v = M := by
  unfold jl_st
  have : upd (M k) j v = M k := by
    funext q
    unfold upd
    by_cases e : q = j
    · rw [if_pos e, e, h]
    · rw [if_neg e]
  rw [this, jl_sa_self]
theorem jr_H.gone {n m : Nat} {X Y : jl_Mem} (h1 : X 23 2 = 0) (h2 : Y 0 16 = 0) : jr_H n m X Y := ⟨by rw [h1, h2], by rw [h1]; decide, fun q => absurd (h1.symm.trans q) (by decide)⟩
theorem jk_thing {n m : Nat} {X Y : jl_Mem} (h : jr_A n m X Y) : jr_ok (jf_X4_thing X) (jf_X5_thing Y) := by
  obtain ⟨hI, hB, hZ, hT, hY, hH⟩ := id h
  have hn := hI.1.1
  have hm := hI.1.2.1
  unfold jf_X4_thing jf_X5_thing
  rw [hI.1.2.2.1, hB.1]
  have e20 : (20 : Int32) = nI 20 := by decide
  rw [e20]
  rcases Nat.lt_or_ge n 20 with q | q
  · have hw : jl_wh (fun q => jf_X5_thing_L14 q.1 q.2) jl_F ((0 : Int32), Y) = some (nI n, jl_st (jl_st Y 0 1 (nI (n + 1))) 0 16 0) := by
      refine jl_loopE (fun l => (nI l, Y)) _ 4 (by omega) (fun l hl => ?_) ?_
      · show jf_X5_thing_L14 (nI l) Y = _
        unfold jf_X5_thing_L14
        have e4 : (4 : Int32) = nI 4 := by decide
        rw [e4, if_neg (nI_ge hl (by omega)), hB.1, jn_ix, jl_inb_n (by omega) (by omega), jl_chk_t, jl_lt_e, jl_lt_e, nI_clamp (by omega), jl_st_id (by rw [hB.2.2.2.2.2.1 l n hl q]; exact hZ.1 l n hl q (Or.inr (Nat.le_refl _))), nI_1]
      · show jf_X5_thing_L14 (nI 4) Y = _
        unfold jf_X5_thing_L14
        rw [if_pos (by decide), jl_lt_e, jl_lt_e, hB.1, nI_1, jl_ex_s]
        have e : (jl_st (jl_st Y 0 1 (nI (n + 1))) 0 16 0) 0 1 = nI (n + 1) := by
          rw [jl_st_cell, pk_un (by decide), jl_st_same]
        rw [e, nI_pred]
    rw [if_pos (nI_lt q (by omega)), if_neg (fun x => by have := (nI_eq (by omega) (by omega)).mp x; omega), jl_lt_e, jl_lt_e, jl_lt_e, hw]
    have e1 : jl_st X 23 2 0 1 = X 1 := jl_st_ne _ _ _ (by decide)
    rw [e1, hI.1.2.2.1, nI_1]
    have ca : jl_st (jl_st X 23 2 0) 1 0 (nI (n + 1)) 1 0 = nI (n + 1) := jl_st_same _ _ _ _
    have cb : ∀ j, j ≠ 0 → jl_st (jl_st X 23 2 0) 1 0 (nI (n + 1)) 1 j = X 1 j := fun j hj => by rw [jl_st_cell, pk_un hj, e1]
    have cc : ∀ k, k ≠ 1 → k ≠ 23 → jl_st (jl_st X 23 2 0) 1 0 (nI (n + 1)) k = X k := fun k h1 h2 => by rw [jl_st_ne _ _ _ h1, jl_st_ne _ _ _ h2]
    have cd : jl_st (jl_st X 23 2 0) 1 0 (nI (n + 1)) 23 2 = 0 := by rw [jl_st_ne _ _ _ (by decide), jl_st_same]
    generalize jl_st (jl_st X 23 2 0) 1 0 (nI (n + 1)) = X2 at ca cb cc cd
    have da : jl_st (jl_st Y 0 1 (nI (n + 1))) 0 16 0 0 1 = nI (n + 1) := by rw [jl_st_cell, pk_un (by decide), jl_st_same]
    have db : ∀ j, j ≠ 1 → j ≠ 16 → jl_st (jl_st Y 0 1 (nI (n + 1))) 0 16 0 0 j = Y 0 j := fun j h1 h2 => by rw [jl_st_cell, pk_un h2, jl_st_cell, pk_un h1]
    have dc : ∀ k, k ≠ 0 → jl_st (jl_st Y 0 1 (nI (n + 1))) 0 16 0 k = Y k := fun k h1 => by rw [jl_st_ne _ _ _ h1, jl_st_ne _ _ _ h1]
    have dd : jl_st (jl_st Y 0 1 (nI (n + 1))) 0 16 0 0 16 = 0 := jl_st_same _ _ _ _
    generalize jl_st (jl_st Y 0 1 (nI (n + 1))) 0 16 0 = Y2 at da db dc dd
    refine ⟨_, X2, Y2, n + 1, m, rfl, by rw [ca, nI_pred], ?_, ?_, ?_, ?_, ?_, jr_H.gone cd dd⟩
    · refine ⟨⟨by omega, hm, ca, by rw [cb 1 (by decide)]; exact hI.1.2.2.2⟩, fun l hl => by rw [cc 2 (by decide) (by decide)]; exact hI.2.1 l hl, fun l t hl ht => by rw [cc (7 + l) (by omega) (by omega)]; exact hI.2.2.1 l t hl ht, fun l hl => ?_⟩
      rw [cc 5 (by decide) (by decide), cc (12 + l) (by omega) (by omega), cc (7 + l) (by omega) (by omega), cc (17 + l) (by omega) (by omega)]
      obtain ⟨ln, a1, a2, a3, a4⟩ := hI.2.2.2 l hl
      refine ⟨ln, by omega, a2, fun p hp => ?_, fun t ht hk => ?_⟩
      · obtain ⟨t, b1, b2⟩ := a3 p hp
        exact ⟨t, by omega, b2⟩
      · refine a4 t ?_ hk
        rcases Nat.lt_or_ge t n with q2 | q2
        · exact q2
        · exact absurd (hZ.1 l t (by omega) (by omega) (Or.inr q2)) hk
    · obtain ⟨b1, b2, b3, b4, b5, b6, b7⟩ := hB
      refine ⟨da, by rw [db 2 (by decide) (by decide)]; exact b2, by rw [db 3 (by decide) (by decide), cb 3 (by decide)]; exact b3, fun l hl => by rw [dc 1 (by decide), dc 2 (by decide), dc 3 (by decide), cc 2 (by decide) (by decide), cc 3 (by decide) (by decide), cc 4 (by decide) (by decide)]; exact b4 l hl, fun l hl => by rw [dc 6 (by decide), cc 5 (by decide) (by decide)]; exact b5 l hl, fun l t hl ht => by rw [dc 4 (by decide), cc (7 + l) (by omega) (by omega)]; exact b6 l t hl ht, fun l p hl hp hq => ?_⟩
      rw [cc 5 (by decide) (by decide)] at hq
      rw [dc 5 (by decide), cc (12 + l) (by omega) (by omega)]
      exact b7 l p hl hp hq
    · obtain ⟨z1, z2, z3, z4, z5⟩ := hZ
      refine ⟨fun l t hl ht hq => by rw [cc (7 + l) (by omega) (by omega)]; exact z1 l t hl ht (by omega), fun l a1 a2 => by rw [cc 5 (by decide) (by decide)]; exact z2 l a1 a2, fun l hl => by rw [cc 4 (by decide) (by decide)]; exact z3 l hl, fun l hl => ?_, by rw [cb 2 (by decide), cc 5 (by decide) (by decide)]; exact z5⟩
      rw [cc 5 (by decide) (by decide), cc (7 + l) (by omega) (by omega), fb_ct_succ, decide_eq_false (fun x => x (z1 l n (by omega) q (Or.inr (Nat.le_refl _))))]
      exact z4 l hl
    · exact ⟨fun l hl => by rw [dc 16 (by decide), cc 35 (by decide) (by decide)]; exact hT.1 l hl, fun l hl => by rw [cc 32 (by decide) (by decide)]; exact hT.2 l hl⟩
    · exact ⟨fun k hk => by rw [dc 9 (by decide)]; exact hY.1 k hk, fun t ht => by rw [dc 10 (by decide)]; exact hY.2 t ht⟩
  · have en : n = 20 := by omega
    rw [if_neg (nI_nlt q (by omega)), if_pos (by rw [en])]
    exact h.id rfl rfl
theorem jk_list {n m : Nat} {X Y : jl_Mem} (h : jr_A n m X Y) (a b c : Int32) : jr_ok (jf_X4_list a b c X) (jf_X5_list a b c Y) := by
  obtain ⟨hI, hB, hZ, hT, hY, hH⟩ := id h
  have hn := hI.1.1
  have hm := hI.1.2.1
  unfold jf_X4_list jf_X5_list
  by_cases w1 : 0 ≤ a ∧ a ≤ 10
  · rw [jp_wi_y w1, jp_in_y w1, jl_bnd_s, jl_bnd_s, jq_10, jq_10]
    by_cases w2 : 1 ≤ b ∧ b ≤ 100
    · rw [jp_wi_y w2, jp_in_y w2, jl_bnd_s, jl_bnd_s, jq_10, jq_10]
      by_cases w3 : 0 ≤ c ∧ c ≤ 100
      · rw [jp_wi_y w3, jp_in_y w3, jl_bnd_s, jl_bnd_s, jq_10, jq_10, hI.1.2.2.2, hB.2.1]
        have e4 : (4 : Int32) = nI 4 := by decide
        rw [e4]
        rcases Nat.lt_or_ge m 4 with q | q
        · rw [if_pos (nI_lt q (by omega)), if_neg (fun x => by have := (nI_eq (by omega) (by omega)).mp x; omega), jl_inb_n q (by omega), jl_chk_t, nI_clamp (by omega)]
          unfold jf_X0_addList
          simp only [jl_lt_e]
          have e1 : jl_st X 23 2 0 1 = X 1 := jl_st_ne _ _ _ (by decide)
          rw [e1, hI.1.2.2.2, jl_inb_n q (by omega), jl_chk_t, nI_clamp (by omega), jl_bnd_s]
          have y1 : ∀ v, jl_st Y 1 m v 0 = Y 0 := fun v => jl_st_ne _ _ _ (by decide)
          rw [y1, hB.2.1, jl_inb_n q (by omega), jl_chk_t, nI_clamp (by omega)]
          have y2 : jl_st (jl_st Y 1 m a) 2 m b 0 = Y 0 := by rw [jl_st_ne _ _ _ (by decide), jl_st_ne _ _ _ (by decide)]
          rw [y2, hB.2.1, jl_inb_n q (by omega), jl_chk_t, nI_clamp (by omega)]
          have y3 : jl_st (jl_st (jl_st Y 1 m a) 2 m b) 3 m c 0 = Y 0 := by rw [jl_st_ne _ _ _ (by decide), y2]
          rw [y3, hB.2.1, jl_inb_n q (by omega), jl_chk_t, nI_clamp (by omega)]
          have y4 : jl_st (jl_st (jl_st (jl_st Y 1 m a) 2 m b) 3 m c) 6 m 0 0 = Y 0 := by rw [jl_st_ne _ _ _ (by decide), y3]
          rw [y4, hB.2.1, nI_1]
          have x4 : jl_st (jl_st (jl_st (jl_st X 23 2 0) 2 m a) 3 m b) 4 m c 1 = X 1 := by rw [jl_st_ne _ _ _ (by decide), jl_st_ne _ _ _ (by decide), jl_st_ne _ _ _ (by decide), jl_st_ne _ _ _ (by decide)]
          rw [x4, hI.1.2.2.2, nI_1]
          obtain ⟨X2, eX⟩ : ∃ X2, X2 = jl_st (jl_st (jl_st (jl_st (jl_st X 23 2 0) 2 m a) 3 m b) 4 m c) 1 1 (nI (m + 1)) := ⟨_, rfl⟩
          obtain ⟨Y2, eY⟩ : ∃ Y2, Y2 = jl_st (jl_st (jl_st (jl_st (jl_st (jl_st Y 1 m a) 2 m b) 3 m c) 6 m 0) 0 2 (nI (m + 1))) 0 16 0 := ⟨_, rfl⟩
          have c1 : ∀ j, X2 1 j = upd (X 1) 1 (nI (m + 1)) j := fun j => by rw [eX, jl_st_cell, x4]
          have c2 : X2 2 = upd (X 2) m a := by rw [eX, jl_st_ne _ _ _ (by decide), jl_st_ne _ _ _ (by decide), jl_st_ne _ _ _ (by decide), jl_st_cell, jl_st_ne _ _ _ (by decide)]
          have c3 : X2 3 = upd (X 3) m b := by rw [eX, jl_st_ne _ _ _ (by decide), jl_st_ne _ _ _ (by decide), jl_st_cell, jl_st_ne _ _ _ (by decide), jl_st_ne _ _ _ (by decide)]
          have c4 : X2 4 = upd (X 4) m c := by rw [eX, jl_st_ne _ _ _ (by decide), jl_st_cell, jl_st_ne _ _ _ (by decide), jl_st_ne _ _ _ (by decide), jl_st_ne _ _ _ (by decide)]
          have c5 : X2 23 2 = 0 := by rw [eX, jl_st_ne _ _ _ (by decide), jl_st_ne _ _ _ (by decide), jl_st_ne _ _ _ (by decide), jl_st_ne _ _ _ (by decide), jl_st_same]
          have c6 : ∀ k, k ≠ 1 → k ≠ 2 → k ≠ 3 → k ≠ 4 → k ≠ 23 → X2 k = X k := fun k k1 k2 k3 k4 k5 => by rw [eX, jl_st_ne _ _ _ k1, jl_st_ne _ _ _ k4, jl_st_ne _ _ _ k3, jl_st_ne _ _ _ k2, jl_st_ne _ _ _ k5]
          have d0 : ∀ j, Y2 0 j = upd (upd (Y 0) 2 (nI (m + 1))) 16 0 j := fun j => by rw [eY, jl_st_cell, jl_st_cell, y4]
          have d1 : Y2 1 = upd (Y 1) m a := by rw [eY, jl_st_ne _ _ _ (by decide), jl_st_ne _ _ _ (by decide), jl_st_ne _ _ _ (by decide), jl_st_ne _ _ _ (by decide), jl_st_ne _ _ _ (by decide), jl_st_cell]
          have d2 : Y2 2 = upd (Y 2) m b := by rw [eY, jl_st_ne _ _ _ (by decide), jl_st_ne _ _ _ (by decide), jl_st_ne _ _ _ (by decide), jl_st_ne _ _ _ (by decide), jl_st_cell, jl_st_ne _ _ _ (by decide)]
          have d3 : Y2 3 = upd (Y 3) m c := by rw [eY, jl_st_ne _ _ _ (by decide), jl_st_ne _ _ _ (by decide), jl_st_ne _ _ _ (by decide), jl_st_cell, jl_st_ne _ _ _ (by decide), jl_st_ne _ _ _ (by decide)]
          have d6 : Y2 6 = upd (Y 6) m 0 := by rw [eY, jl_st_ne _ _ _ (by decide), jl_st_ne _ _ _ (by decide), jl_st_cell, jl_st_ne _ _ _ (by decide), jl_st_ne _ _ _ (by decide), jl_st_ne _ _ _ (by decide)]
          have d7 : ∀ k, k ≠ 0 → k ≠ 1 → k ≠ 2 → k ≠ 3 → k ≠ 6 → Y2 k = Y k := fun k k0 k1 k2 k3 k6 => by rw [eY, jl_st_ne _ _ _ k0, jl_st_ne _ _ _ k0, jl_st_ne _ _ _ k6, jl_st_ne _ _ _ k3, jl_st_ne _ _ _ k2, jl_st_ne _ _ _ k1]
          rw [← eX, ← eY]
          have d02 : Y2 0 2 = nI (m + 1) := by rw [d0, pk_un (by decide), pk_us]
          rw [d02, nI_pred]
          obtain ⟨z1, z2, z3, z4, z5⟩ := hZ
          refine ⟨_, X2, Y2, n, m + 1, rfl, rfl, ?_, ?_, ?_, ?_, ?_, jr_H.gone c5 (by rw [d0, pk_us])⟩
          · refine ⟨⟨hn, by omega, by rw [c1, pk_un (by decide)]; exact hI.1.2.2.1, by rw [c1, pk_us]⟩, fun l hl => ?_, fun l t hl ht => by rw [c6 (7 + l) (by omega) (by omega) (by omega) (by omega) (by omega)]; exact hI.2.2.1 l t hl ht, fun l hl => ?_⟩
            · rw [c2]
              by_cases e : l = m
              · rw [e, pk_us]
                exact w1.1
              · rw [pk_un e]
                exact hI.2.1 l (by omega)
            · rw [c6 5 (by omega) (by omega) (by omega) (by omega) (by omega), c6 (12 + l) (by omega) (by omega) (by omega) (by omega) (by omega), c6 (7 + l) (by omega) (by omega) (by omega) (by omega) (by omega), c6 (17 + l) (by omega) (by omega) (by omega) (by omega) (by omega)]
              by_cases e : l = m
              · subst e
                refine ⟨0, Nat.zero_le _, z2 l (Nat.le_refl _) q, fun p hp => absurd hp (Nat.not_lt_zero p), fun t ht hk => absurd (z1 l t q (by omega) (Or.inl (Nat.le_refl _))) hk⟩
              · exact hI.2.2.2 l (by omega)
          · obtain ⟨b1, b2, b3, b4, b5, b6, b7⟩ := hB
            refine ⟨by rw [d0, pk_un (by decide), pk_un (by decide)]; exact b1, d02, by rw [d0, pk_un (by decide), pk_un (by decide), c1, pk_un (by decide)]; exact b3, fun l hl => ?_, fun l hl => ?_, fun l t hl ht => by rw [d7 4 (by decide) (by decide) (by decide) (by decide) (by decide), c6 (7 + l) (by omega) (by omega) (by omega) (by omega) (by omega)]; exact b6 l t hl ht, fun l p hl hp hq => ?_⟩
            · rw [d1, d2, d3, c2, c3, c4]
              by_cases e : l = m
              · rw [e, pk_us, pk_us, pk_us, pk_us, pk_us, pk_us]
                exact ⟨rfl, rfl, rfl⟩
              · rw [pk_un e, pk_un e, pk_un e, pk_un e, pk_un e, pk_un e]
                exact b4 l hl
            · rw [d6, c6 5 (by omega) (by omega) (by omega) (by omega) (by omega)]
              by_cases e : l = m
              · rw [e, pk_us, z2 m (Nat.le_refl _) q]
              · rw [pk_un e]
                exact b5 l (by omega)
            · rw [c6 5 (by omega) (by omega) (by omega) (by omega) (by omega)] at hq
              rw [d7 5 (by decide) (by decide) (by decide) (by decide) (by decide), c6 (12 + l) (by omega) (by omega) (by omega) (by omega) (by omega)]
              by_cases e : l = m
              · rw [e, z2 m (Nat.le_refl _) q] at hq
                exact absurd hq (nI_pos (by omega))
              · exact b7 l p (by omega) hp hq
          · refine ⟨fun l t hl ht hq => by rw [c6 (7 + l) (by omega) (by omega) (by omega) (by omega) (by omega)]; exact z1 l t hl ht (by omega), fun l a1 a2 => by rw [c6 5 (by omega) (by omega) (by omega) (by omega) (by omega)]; exact z2 l (by omega) a2, fun l hl => ?_, fun l hl => ?_, ?_⟩
            · rw [c4]
              by_cases e : l = m
              · rw [e, pk_us]
                exact w3.1
              · rw [pk_un e]
                exact z3 l (by omega)
            · rw [c6 5 (by omega) (by omega) (by omega) (by omega) (by omega), c6 (7 + l) (by omega) (by omega) (by omega) (by omega) (by omega)]
              by_cases e : l = m
              · subst e
                have hz : fb_ct (fun t => decide (¬ X (7 + l) t = 0)) n = 0 := fb_ct_zero.mpr (fun t ht => decide_eq_false (fun x => x (z1 l t q (by omega) (Or.inl (Nat.le_refl _)))))
                rw [hz]
                exact z2 l (Nat.le_refl _) q
              · exact z4 l (by omega)
            · rw [c1, pk_un (by decide), c6 5 (by omega) (by omega) (by omega) (by omega) (by omega)]
              show X 1 2 = jq_sum (X 5) m + X 5 m
              rw [z2 m (Nat.le_refl _) q, Int32.add_zero]
              exact z5
          · exact ⟨fun l hl => by rw [d7 16 (by decide) (by decide) (by decide) (by decide) (by decide), c6 35 (by omega) (by omega) (by omega) (by omega) (by omega)]; exact hT.1 l hl, fun l hl => by rw [c6 32 (by omega) (by omega) (by omega) (by omega) (by omega)]; exact hT.2 l hl⟩
          · exact ⟨fun k hk => by rw [d7 9 (by decide) (by decide) (by decide) (by decide) (by decide)]; exact hY.1 k hk, fun t ht => by rw [d7 10 (by decide) (by decide) (by decide) (by decide) (by decide)]; exact hY.2 t ht⟩
        · have em : m = 4 := by omega
          rw [if_neg (nI_nlt q (by omega)), if_pos (by rw [em])]
          exact h.id rfl rfl
      · rw [jp_wi_n w3, jp_in_n w3, jl_bnd_s, jl_bnd_s, jq_00, jq_00]
        exact h.id rfl rfl
    · rw [jp_wi_n w2, jp_in_n w2, jl_bnd_s, jl_bnd_s, jq_00, jq_00]
      exact h.id rfl rfl
  · rw [jp_wi_n w1, jp_in_n w1, jl_bnd_s, jl_bnd_s, jq_00, jq_00]
    exact h.id rfl rfl
