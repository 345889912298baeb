/-! pure 9: depth, known, bound, ahead, found -/
theorem jk_depth {n m : Nat} {X Y : jl_Mem} (h : jr_A n m X Y) (a b : Int32) : jr_ok (jf_X4_depth a b X) (jf_X5_depth a b Y) := by
  obtain ⟨hI, hB, -, -, -, hH⟩ := id h
  have hm := hI.1.2.1
  unfold jf_X4_depth jf_X5_depth
  rw [hH.1]
  by_cases hl : ∃ l, l < m ∧ a = nI l
  · obtain ⟨l, hl, rfl⟩ := hl
    rw [jp_hL_y hI.1.2.2.2 hm hl, jp_iL_y hB.2.1 hm hl, jl_bnd_s, jl_bnd_s, jq_10, jq_10]
    by_cases h0 : X 23 2 = 0
    · rw [if_pos h0]
      by_cases hw : 0 ≤ b ∧ b ≤ 1
      · rw [jp_wi_y hw, jl_bnd_s, jq_10, if_pos h0]
        exact h.id rfl rfl
      · rw [jp_wi_n hw, jl_bnd_s, jq_00]
        exact h.id rfl rfl
    · obtain ⟨⟨r1, r2, -⟩, -⟩ := hH.no h0
      rw [if_neg h0]
      by_cases c0 : b = 0
      · have hw : 0 ≤ b ∧ b ≤ 1 := by
          rw [c0]
          decide
        rw [jp_wi_y hw, jl_bnd_s, jq_10, if_neg h0, if_pos c0, if_pos c0, jl_inb_n (by omega) (by omega), jl_chk_t, jl_chk_t, nI_clamp (by omega), r2.1 l hl]
        exact h.id rfl rfl
      · by_cases c1 : b = 1
        · have hw : 0 ≤ b ∧ b ≤ 1 := by
            rw [c1]
            decide
          rw [jp_wi_y hw, jl_bnd_s, jq_10, if_neg h0, if_neg c0, if_neg c0, if_pos c1, jp_topOf hI r1 hl, jp_topOfY hI r1 hB r2 hl, jl_bnd_s, jl_bnd_s]
          exact h.id rfl rfl
        · have hw : ¬ (0 ≤ b ∧ b ≤ 1) := fun q => by
            rw [jn_le, jn_le] at q
            rw [jn_eq] at c0 c1
            have e0 : (0 : Int32).toInt = 0 := by decide
            have e1 : (1 : Int32).toInt = 1 := by decide
            rw [e0, e1] at q
            rw [e0] at c0
            rw [e1] at c1
            omega
          rw [jp_wi_n hw, jl_bnd_s, jq_00, if_neg c0, if_neg c1]
          exact h.id rfl rfl
  · rw [jp_hL_n hI.1.2.2.2 hm hl, jp_iL_n hB.2.1 hm hl, jl_bnd_s, jl_bnd_s, jq_00, jq_00]
    by_cases h0 : X 23 2 = 0
    · rw [if_pos h0]
      exact h.id rfl rfl
    · rw [if_neg h0]
      exact h.id rfl rfl
theorem jk_known {n m : Nat} {X Y : jl_Mem} (h : jr_A n m X Y) (a b : Int32) : jr_ok (jf_X4_known a b X) (jf_X5_known a b Y) := by
  obtain ⟨hI, hB, -, -, -, hH⟩ := id h
  have hm := hI.1.2.1
  have hn := hI.1.1
  unfold jf_X4_known jf_X5_known
  rw [hH.1]
  by_cases h0 : X 23 2 = 0
  · rw [if_pos h0]
    by_cases hl : ∃ l, l < m ∧ a = nI l
    · obtain ⟨l, hl, rfl⟩ := hl
      rw [jp_hL_y hI.1.2.2.2 hm hl, jl_bnd_s, jq_10]
      by_cases ht : ∃ t, t < n ∧ b = nI t
      · obtain ⟨t, ht, rfl⟩ := ht
        rw [jp_hT_y hI.1.2.2.1 hn ht, jl_bnd_s, jq_10, if_pos h0]
        exact h.id rfl rfl
      · rw [jp_hT_n hI.1.2.2.1 hn ht, jl_bnd_s, jq_00]
        exact h.id rfl rfl
    · rw [jp_hL_n hI.1.2.2.2 hm hl, jl_bnd_s, jq_00]
      exact h.id rfl rfl
  · obtain ⟨⟨r1, r2, -⟩, -⟩ := hH.no h0
    rw [if_neg h0]
    by_cases hl : ∃ l, l < m ∧ a = nI l
    · obtain ⟨l, hl, rfl⟩ := hl
      rw [jp_hL_y hI.1.2.2.2 hm hl, jp_iL_y hB.2.1 hm hl, jl_bnd_s, jl_bnd_s, jq_10, jq_10]
      by_cases ht : ∃ t, t < n ∧ b = nI t
      · obtain ⟨t, ht, rfl⟩ := ht
        rw [jp_hT_y hI.1.2.2.1 hn ht, jp_iT_y hB.1 hn ht, jl_bnd_s, jl_bnd_s, jq_10, jq_10, if_neg h0, jp_isKnown (by omega) (by omega), jp_isKnownY hI r1 hB r2 hl ht, jl_bnd_s, jl_bnd_s, jq_yes, jl_bnd_s, jq_if]
        cases jx_kn X 24 l t <;> exact h.id rfl rfl
      · rw [jp_hT_n hI.1.2.2.1 hn ht, jp_iT_n hB.1 hn ht, jl_bnd_s, jl_bnd_s, jq_00, jq_00]
        exact h.id rfl rfl
    · rw [jp_hL_n hI.1.2.2.2 hm hl, jp_iL_n hB.2.1 hm hl, jl_bnd_s, jl_bnd_s, jq_00, jq_00]
      exact h.id rfl rfl
theorem jk_bound {n m : Nat} {X Y : jl_Mem} (h : jr_A n m X Y) (a b : Int32) : jr_ok (jf_X4_bound a b X) (jf_X5_bound a b Y) := by
  obtain ⟨hI, hB, -, -, -, hH⟩ := id h
  have hm := hI.1.2.1
  have hn := hI.1.1
  unfold jf_X4_bound jf_X5_bound
  rw [hH.1]
  by_cases ht : ∃ t, t < n ∧ a = nI t
  · obtain ⟨t, ht, rfl⟩ := ht
    rw [jp_hT_y hI.1.2.2.1 hn ht, jp_iT_y hB.1 hn ht, jl_bnd_s, jl_bnd_s, jq_10, jq_10]
    by_cases h0 : X 23 2 = 0
    · rw [if_pos h0, if_pos h0]
      exact h.id rfl rfl
    · obtain ⟨⟨r1, r2, -⟩, -⟩ := hH.no h0
      rw [if_neg h0, if_neg h0]
      by_cases hw : 0 ≤ b ∧ b ≤ 1
      · rw [jp_wi_y hw, jp_in_y hw, jl_bnd_s, jl_bnd_s, jq_10, jq_10]
        obtain ⟨f, hf⟩ := jp_lowOf (ts := 24) (Or.inl rfl) hI ht
        obtain ⟨g, hg⟩ := jp_highOf (ts := 24) (Or.inl rfl) hI r1 ht
        obtain ⟨f2, hf2⟩ := jp_boundY false hI r1 hB r2 ht
        obtain ⟨g2, hg2⟩ := jp_boundY true hI r1 hB r2 ht
        rw [jq_f] at hf2
        rw [jq_t] at hg2
        simp only [Bool.false_eq_true, if_false] at hf2
        simp only [if_true] at hg2
        by_cases c1 : b = 1
        · rw [if_pos c1, if_pos c1, hg, hg2, jl_bnd_s, jl_bnd_s]
          exact h.ok rfl rfl (jx_sc_sa (Or.inr (Or.inr (Or.inl rfl)))) (jy_sc_sa (Or.inl rfl)) (jl_sa_ne _ _ (by decide))
        · rw [if_neg c1, if_neg c1, hf, hf2, jl_bnd_s, jl_bnd_s]
          exact h.ok rfl rfl (jx_sc_sa (Or.inr (Or.inr (Or.inl rfl)))) (jy_sc_sa (Or.inl rfl)) (jl_sa_ne _ _ (by decide))
      · rw [jp_wi_n hw, jp_in_n hw, jl_bnd_s, jl_bnd_s, jq_00, jq_00]
        exact h.id rfl rfl
  · rw [jp_hT_n hI.1.2.2.1 hn ht, jp_iT_n hB.1 hn ht, jl_bnd_s, jl_bnd_s, jq_00, jq_00]
    by_cases h0 : X 23 2 = 0
    · rw [if_pos h0]
      exact h.id rfl rfl
    · rw [if_neg h0]
      exact h.id rfl rfl
theorem jk_ahead {n m : Nat} {X Y : jl_Mem} (h : jr_A n m X Y) (a b : Int32) : jr_ok (jf_X4_ahead a b X) (jf_X5_ahead a b Y) := by
  obtain ⟨hI, hB, -, -, -, hH⟩ := id h
  have hm := hI.1.2.1
  have hn := hI.1.1
  unfold jf_X4_ahead jf_X5_ahead
  rw [hH.1]
  by_cases h0 : X 23 2 = 0
  · rw [if_pos h0]
    by_cases hl : ∃ t, t < n ∧ a = nI t
    · obtain ⟨l, hl, rfl⟩ := hl
      rw [jp_hT_y hI.1.2.2.1 hn hl, jl_bnd_s, jq_10]
      by_cases ht : ∃ t, t < n ∧ b = nI t
      · obtain ⟨t, ht, rfl⟩ := ht
        rw [jp_hT_y hI.1.2.2.1 hn ht, jl_bnd_s, jq_10, if_pos h0]
        exact h.id rfl rfl
      · rw [jp_hT_n hI.1.2.2.1 hn ht, jl_bnd_s, jq_00]
        exact h.id rfl rfl
    · rw [jp_hT_n hI.1.2.2.1 hn hl, jl_bnd_s, jq_00]
      exact h.id rfl rfl
  · obtain ⟨⟨r1, r2, -⟩, -⟩ := hH.no h0
    rw [if_neg h0]
    by_cases hl : ∃ t, t < n ∧ a = nI t
    · obtain ⟨u, hu, rfl⟩ := hl
      rw [jp_hT_y hI.1.2.2.1 hn hu, jp_iT_y hB.1 hn hu, jl_bnd_s, jl_bnd_s, jq_10, jq_10]
      by_cases ht : ∃ t, t < n ∧ b = nI t
      · obtain ⟨t, ht, rfl⟩ := ht
        rw [jp_hT_y hI.1.2.2.1 hn ht, jp_iT_y hB.1 hn ht, jl_bnd_s, jl_bnd_s, jq_10, jq_10, if_neg h0]
        by_cases c : nI u = nI t
        · rw [if_pos c, if_pos c]
          exact h.id rfl rfl
        · rw [if_neg c, if_neg c]
          obtain ⟨f, hf⟩ := jp_lowOf (ts := 24) (Or.inl rfl) hI hu
          have hg : jx_sg 24 X (jl_sa X (24 + 3) f) := jx_sg_sa (Or.inl rfl) (Or.inr (Or.inl rfl))
          obtain ⟨g, hg2⟩ := jp_highOf (ts := 24) (Or.inl rfl) (hg.I hI) (hg.V r1) ht
          obtain ⟨f2, hf2⟩ := jp_boundY false hI r1 hB r2 hu
          have ha : jy_a4 Y (jl_sa Y 7 f2) := jy_a4_sa (Or.inl rfl)
          obtain ⟨g2, hg3⟩ := jp_boundY true hI r1 (ha.B hB) (ha.S r2) ht
          rw [jq_f] at hf2
          rw [jq_t] at hg3
          simp only [Bool.false_eq_true, if_false] at hf2
          simp only [if_true] at hg3
          unfold jf_X5_isAhead
          rw [hf, jl_bnd_s, hg2, jl_bnd_s, hg.hi hm, jp_cf (by omega) (by omega), jl_bnd_s, hf2, jl_bnd_s, jl_lt_e, hg3, jl_bnd_s, jl_lt_e]
          have hsx : jx_sc X (jl_sa (jl_sa X (24 + 3) f) (24 + 3) g) := (jx_sc_sa (Or.inr (Or.inr (Or.inl rfl)))).tr (jx_sc_sa (Or.inr (Or.inr (Or.inl rfl))))
          have hsy : jy_sc Y (jl_sa (jl_sa Y 7 f2) 7 g2) := (jy_sc_sa (Or.inl rfl)).tr (jy_sc_sa (Or.inl rfl))
          have h10 : jl_sa (jl_sa Y 7 f2) 7 g2 10 = Y 10 := by rw [jl_sa_ne _ _ (by decide), jl_sa_ne _ _ (by decide)]
          by_cases c1 : jx_hi X 24 m t < jx_lo X 24 m u
          · rw [if_pos (Or.inl c1), if_pos c1, jp_yes1, jl_bnd_s, jl_bnd_s, jq_10]
            exact h.ok rfl rfl hsx hsy h10
          · rw [if_neg c1]
            by_cases c2 : jx_lo X 24 m u = jx_hi X 24 m t
            · rw [if_pos c2]
              by_cases c3 : u < t
              · rw [if_pos (Or.inr ⟨c2, c3⟩), if_neg (nI_ge c3 (by omega)), jp_yes1, jl_bnd_s, jl_bnd_s, jq_10]
                exact h.ok rfl rfl hsx hsy h10
              · rw [if_neg (fun q => by rcases q with q | q; exact c1 q; exact c3 q.2), if_pos (nI_le (by omega) (by omega)), jp_yes0, jl_bnd_s, jl_bnd_s, jq_00]
                exact h.ok rfl rfl hsx hsy h10
            · rw [if_neg c2, if_neg (fun q => by rcases q with q | q; exact c1 q; exact c2 q.1), jp_yes0, jl_bnd_s, jl_bnd_s, jq_00]
              exact h.ok rfl rfl hsx hsy h10
      · rw [jp_hT_n hI.1.2.2.1 hn ht, jp_iT_n hB.1 hn ht, jl_bnd_s, jl_bnd_s, jq_00, jq_00]
        exact h.id rfl rfl
    · rw [jp_hT_n hI.1.2.2.1 hn hl, jp_iT_n hB.1 hn hl, jl_bnd_s, jl_bnd_s, jq_00, jq_00]
      exact h.id rfl rfl
theorem jk_found {n m : Nat} {X Y : jl_Mem} (h : jr_A n m X Y) (a : Int32) : jr_ok (jf_X4_found a X) (jf_X5_found a Y) := by
  obtain ⟨hI, hB, -, -, -, hH⟩ := id h
  have hn := hI.1.1
  unfold jf_X4_found jf_X5_found
  rw [hH.1]
  by_cases h0 : X 23 2 = 0
  · rw [if_pos h0, if_pos h0]
    exact h.id rfl rfl
  · obtain ⟨⟨-, -, ⟨e1, e2, e3, -⟩, -, -, r6, -⟩, -⟩ := hH.no h0
    rw [if_neg h0, if_neg h0, e3]
    by_cases hw : 0 ≤ a ∧ a ≤ X 23 5 - 1
    · rw [jp_wi_y hw, jp_in_y hw, jl_bnd_s, jl_bnd_s, jq_10, jq_10, e1]
      by_cases hd : X 23 3 = 0
      · rw [if_pos hd, if_pos hd]
        exact h.id rfl rfl
      · rw [if_neg hd, if_neg hd]
        unfold jf_X2_foundAt
        rw [jl_lt_e, jl_lt_e, jl_lt_e, jl_lt_e]
        obtain ⟨r1, r2, f1, f2, f3, f4, f5⟩ := jl_bis (f := fun q => jf_X2_foundAt_L4 24 a q.1 q.2.1 q.2.2) (g := fun q => jf_X5_found_L37 a q.1 q.2.1 q.2.2)
          (fun i s1 s2 => s1.1 = s2.1 ∧ s1.2.1 = nI i ∧ s2.2.1 = nI i ∧ s1.2.2 = X ∧ s2.2.2 = Y) (fun a b => a.1 = b.1 ∧ a.2 = X ∧ b.2 = Y) n (by omega) (s1 := ((0 : Int32), (0 : Int32), X)) (s2 := ((0 : Int32), (0 : Int32), Y)) ⟨rfl, rfl, rfl, rfl, rfl⟩ (by
          rintro i ⟨x, y, z⟩ ⟨x2, y2, z2⟩ hi ⟨q1, q2, q3, q4, q5⟩
          dsimp only at q1 q2 q3 q4 q5
          subst q1
          subst q2
          subst q3
          subst q4
          subst q5
          show (i < n ∧ ∃ u v, jf_X2_foundAt_L4 24 a x (nI i) z = some (.inl u) ∧ jf_X5_found_L37 a x (nI i) z2 = some (.inl v) ∧ _) ∨ (∃ u v, jf_X2_foundAt_L4 24 a x (nI i) z = some (.inr u) ∧ jf_X5_found_L37 a x (nI i) z2 = some (.inr v) ∧ _) ∨ _
          unfold jf_X2_foundAt_L4 jf_X5_found_L37
          rw [hI.1.2.2.1, hB.1]
          rcases Nat.lt_or_ge i n with q | q
          · rw [if_neg (nI_ge q (by omega)), if_neg (nI_ge q (by omega)), jp_isFound, jl_bnd_s, jq_if, jl_inb_n (by omega) (by omega), jl_chk_t, nI_clamp (by omega), r6 i q, jq_if]
            simp only [jl_lt_e, jl_ex_s]
            rw [nI_1]
            cases jq_bit (z 24 5) i with
            | false => exact Or.inl ⟨q, _, _, rfl, rfl, rfl, rfl, rfl, rfl, rfl⟩
            | true =>
              simp only [if_true]
              by_cases c : x = a
              · rw [if_pos c, if_pos c]
                exact Or.inr (Or.inl ⟨_, _, rfl, rfl, rfl, rfl, rfl⟩)
              · rw [if_neg c, if_neg c]
                exact Or.inl ⟨q, _, _, rfl, rfl, rfl, rfl, rfl, rfl, rfl⟩
          · rw [if_pos (nI_le q (by omega)), if_pos (nI_le q (by omega)), jl_ex_s, jl_ex_s]
            exact Or.inr (Or.inl ⟨_, _, rfl, rfl, rfl, rfl, rfl⟩))
        rw [f1, f2]
        obtain ⟨a1, a2⟩ := r1
        obtain ⟨b1, b2⟩ := r2
        dsimp only at f3 f4 f5
        subst f3
        subst f4
        subst f5
        exact h.id rfl rfl
    · rw [jp_wi_n hw, jp_in_n hw, jl_bnd_s, jl_bnd_s, jq_00, jq_00]
      exact h.id rfl rfl
