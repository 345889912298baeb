/-! pure 14: the most promising thing; a round -/
theorem jn_m1 {u : Nat} (h : u < 2 ^ 31) : ¬ nI u = -1 := by
  intro e
  have := jn_eq.mp e
  rw [nI_toInt h] at this
  have h9 : (-1 : Int32).toInt = -1 := by decide
  rw [h9] at this
  omega
theorem jp_lookDone {t : Int32} {X : jl_Mem} (hd : ¬ X 23 3 = 0) : jf_X1_lookUpEverywhere t X = some (0, X) := by
  unfold jf_X1_lookUpEverywhere
  rw [jl_lt_e]
  refine jl_loopE (fun _ => ((0 : Int32), X)) _ 0 (by omega) (fun i hi => absurd hi (Nat.not_lt_zero i)) ?_
  show jf_X1_lookUpEverywhere_L2 t 0 X = _
  unfold jf_X1_lookUpEverywhere_L2
  by_cases c : X 1 1 ≤ 0
  · rw [if_pos c, jl_ex_s]
  · rw [if_neg c, if_neg hd, jl_ex_s]
theorem jr_A.R {n m : Nat} {X Y : jl_Mem} (h : jr_A n m X Y) (h2 : X 23 2 = 1) : jr_R n m X Y := h.2.2.2.2.2.2.2 h2
theorem jp_mixed {n m : Nat} {X Y : jl_Mem} (h : jr_A n m X Y) (h2 : X 23 2 = 1) (hd : X 23 3 = 0) :
    ∃ X2 Y2 : jl_Mem, jl_bnd (jf_X1_mostPromising X) (fun r_101 M_101 => jl_lt r_101 (fun (x1_104 : Int32) => if x1_104 = (-1 : Int32) then (some ((0 : Int32), M_101)) else (jl_bnd (jf_X1_lookUpEverywhere x1_104 M_101) (fun _ M_112 => some ((0 : Int32), M_112))))) = some (0, X2) ∧
      jl_wh (fun q => jf_X5_works_L145 q.1 q.2.1 q.2.2) jl_F ((-1 : Int32), (0 : Int32), Y) = some (0, Y2) ∧ jr_A n m X2 Y2 ∧ jx_fr X X2 := by
  have hn := h.1.1.1
  have hm := h.1.1.2.1
  unfold jf_X1_mostPromising
  rw [jl_lt_e, jl_lt_e, jl_lt_e]
  obtain ⟨r1, r2, f1, f2, f3⟩ := jl_bis (f := fun q => jf_X1_mostPromising_L6 q.1 q.2.1 q.2.2.1 q.2.2.2) (g := fun q => jf_X5_works_L145 q.1 q.2.1 q.2.2)
    (fun j s1 s2 => ∃ (f hh : Int32) (x y : jl_Mem), s1 = (f, hh, nI j, x) ∧ s2 = (f, nI j, y) ∧ jr_A n m x y ∧ x 23 3 = 0 ∧ jx_fr X x ∧ (f = -1 ∨ ∃ u, u < n ∧ f = nI u ∧ hh = jx_hi x 24 m u ∧ jx_sn x 24 u m = true))
    (fun a c => ∃ X1 Y2 : jl_Mem, c = (0, Y2) ∧ ((a = (-1, X1) ∧ jr_A n m X1 Y2 ∧ jx_fr X X1) ∨ (∃ (u : Nat) (X2 : jl_Mem), u < n ∧ a = (nI u, X1) ∧ jf_X1_lookUpEverywhere (nI u) X1 = some (0, X2) ∧ jr_A n m X2 Y2 ∧ jx_fr X X2))) n (by omega) (s1 := ((-1 : Int32), (0 : Int32), (0 : Int32), X)) (s2 := ((-1 : Int32), (0 : Int32), Y)) ⟨-1, 0, X, Y, rfl, rfl, h, hd, jx_fr.rf, Or.inl rfl⟩ (by
    rintro j s1 s2 hj ⟨f, hh, x, y, q1, q2, hA, hz, hfr, hf⟩
    subst q1
    subst q2
    show (j < n ∧ ∃ u v, jf_X1_mostPromising_L6 f hh (nI j) x = some (.inl u) ∧ jf_X5_works_L145 f (nI j) y = some (.inl v) ∧ _) ∨ (∃ u v, jf_X1_mostPromising_L6 f hh (nI j) x = some (.inr u) ∧ jf_X5_works_L145 f (nI j) y = some (.inr v) ∧ _) ∨ (∃ c u v, jf_X1_mostPromising_L6 f hh (nI j) x = some (.inl c) ∧ _ ∧ jf_X5_works_L145 f (nI j) y = some (.inr v) ∧ _)
    have x2 : x 23 2 = 1 := by rw [hfr.2 2 (by decide) (by decide) (by decide)]; exact h2
    obtain ⟨hI, hB, -⟩ := id hA
    obtain ⟨r1, r2, -⟩ := hA.R x2
    unfold jf_X1_mostPromising_L6 jf_X5_works_L145
    rw [hI.1.2.2.1, hB.1]
    rcases Nat.lt_or_ge j n with q | q
    · refine Or.inl ⟨q, ?_⟩
      rw [if_neg (nI_ge q (by omega)), if_neg (nI_ge q (by omega)), jp_isSeen hI q, jl_bnd_s, jq_if, jp_isSeenY hI hB r2 q, jl_bnd_s, jq_if]
      cases hsn : jx_sn x 24 j m with
      | false =>
        simp only [Bool.false_eq_true, if_false, jl_lt_e]
        rw [nI_1]
        exact ⟨_, _, rfl, rfl, f, hh, x, y, rfl, rfl, hA, hz, hfr, hf⟩
      | true =>
        simp only [if_true]
        rw [jp_hasLeft hI q, jl_bnd_s, jq_if, jp_isOpenY hI r1 hB r2 q, jl_bnd_s, jq_if]
        cases hop : jx_op x j m with
        | false =>
          simp only [Bool.false_eq_true, if_false, jl_lt_e]
          rw [nI_1]
          exact ⟨_, _, rfl, rfl, f, hh, x, y, rfl, rfl, hA, hz, hfr, hf⟩
        | true =>
          simp only [if_true, jl_lt_e]
          obtain ⟨g, hg⟩ := jp_highOf (ts := 24) (Or.inl rfl) hI r1 q
          rw [hg, jl_bnd_s]
          have hsg : jx_sg 24 x (jl_sa x (24 + 3) g) := jx_sg_sa (Or.inl rfl) (by omega)
          have hsc : jx_sc x (jl_sa x (24 + 3) g) := jx_sc_sa (by omega)
          have hfr2 : jx_fr X (jl_sa x (24 + 3) g) := hfr.tr ⟨fun k a b c d e => jl_sa_ne _ _ (by omega), fun k a b c => by rw [jl_sa_ne _ _ (by omega)]⟩
          have hz2 : jl_sa x (24 + 3) g 23 3 = 0 := by rw [jl_sa_ne _ _ (by omega)]; exact hz
          generalize jl_sa x (24 + 3) g = x3 at hsg hsc hfr2 hz2 ⊢
          have hsn3 : ∀ u, jx_sn x 24 u m = true → jx_sn x3 24 u m = true := fun u hu => by
            obtain ⟨l, a1, a2⟩ := jx_sn_iff.mp hu
            exact jx_sn_iff.mpr ⟨l, a1, by rw [hsg.se (by omega)]; exact a2⟩
          have hn1 : ∃ u, u < n ∧ nI j = nI u ∧ jx_hi x 24 m j = jx_hi x3 24 m u ∧ jx_sn x3 24 u m = true := ⟨j, q, rfl, (hsg.hi hm).symm, hsn3 j hsn⟩
          rcases hf with e | ⟨u, u1, u2, u3, u4⟩
          · rw [if_pos e, if_pos e, nI_1]
            exact ⟨_, _, rfl, rfl, _, _, x3, y, rfl, rfl, hA.sc hsc jy_sc.rf hA.2.2.2.2.1.2, hz2, hfr2, Or.inr hn1⟩
          · have hne : ¬ f = -1 := by rw [u2]; exact jn_m1 (by omega)
            rw [if_neg hne, if_neg hne, u2, u3]
            obtain ⟨g2, hg2⟩ := jp_boundY true hI r1 hB r2 q
            rw [jq_t] at hg2
            rw [hg2, jl_bnd_s]
            have ha : jy_a4 y (jl_sa y 7 g2) := jy_a4_sa (Or.inl rfl)
            obtain ⟨g3, hg3⟩ := jp_boundY true hI r1 (ha.B hB) (ha.S r2) u1
            rw [jq_t] at hg3
            rw [hg3, jl_bnd_s, if_pos rfl, if_pos rfl, jl_sa_sa, nI_1]
            have hA3 : jr_A n m x3 (jl_sa y 7 g3) := hA.sc hsc (jy_sc_sa (Or.inl rfl)) (fun t ht => by rw [jl_sa_ne _ _ (by omega)]; exact hA.2.2.2.2.1.2 t ht)
            by_cases c : jx_hi x 24 m j ≤ jx_hi x 24 m u
            · rw [if_pos c, if_pos c]
              exact ⟨_, _, rfl, rfl, _, _, x3, _, rfl, rfl, hA3, hz2, hfr2, Or.inr ⟨u, u1, rfl, (hsg.hi hm).symm, hsn3 u u4⟩⟩
            · rw [if_neg c, if_neg c]
              exact ⟨_, _, rfl, rfl, _, _, x3, _, rfl, rfl, hA3, hz2, hfr2, Or.inr hn1⟩
    · refine Or.inr (Or.inl ?_)
      rw [if_pos (nI_le q (by omega)), if_pos (nI_le q (by omega)), jl_ex_s]
      rcases hf with e | ⟨u, u1, u2, u3, u4⟩
      · rw [if_pos e, jl_ex_s, e]
        exact ⟨_, _, rfl, rfl, x, y, rfl, Or.inl ⟨rfl, hA, hfr⟩⟩
      · rw [u2, if_neg (jn_m1 (by omega))]
        obtain ⟨b, X2, Y2, g1, g2, g3, g4, g5⟩ := jp_lookUp hA x2 hz u1 (jx_sn_iff.mp u4)
        rw [g2, jl_bnd_s]
        refine ⟨_, (0, Y2), rfl, ?_, x, Y2, rfl, Or.inr ⟨u, X2, u1, rfl, g1, g3, hfr.tr g5⟩⟩
        by_cases c : jq_i b = 0
        · rw [if_pos c, jl_ex_s]
        · rw [if_neg c, jl_ex_s])
  rw [f1, f2]
  obtain ⟨X1, Y2, e, ⟨e1, e2, e3⟩ | ⟨u, X2, e1, e2, e3, e4, e5⟩⟩ := f3
  · rw [e, e1]
    refine ⟨X1, Y2, ?_, rfl, e2, e3⟩
    rw [jl_bnd_s, jl_lt_e, if_pos rfl]
  · rw [e, e2]
    refine ⟨X2, Y2, ?_, rfl, e4, e5⟩
    rw [jl_bnd_s, jl_lt_e, if_neg (jn_m1 (by omega)), e3, jl_bnd_s]
