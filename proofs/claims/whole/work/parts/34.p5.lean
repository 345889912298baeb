/-! pure 5: the reference's sight, held against the class's -/
def jr_B (n m : Nat) (X Y : jl_Mem) : Prop := Y 0 1 = nI n ∧ Y 0 2 = nI m ∧ Y 0 3 = X 1 3 ∧ (∀ l, l < 4 → Y 1 l = X 2 l ∧ Y 2 l = X 3 l ∧ Y 3 l = X 4 l) ∧ (∀ l, l < m → Y 6 l = X 5 l) ∧ (∀ l t, l < 4 → t < 20 → Y 4 (20 * l + t) = X (7 + l) t) ∧ (∀ l p, l < m → p < 20 → nI p < X 5 l → Y 5 (20 * l + p) = X (12 + l) p)
def jr_S (n m : Nat) (X : jl_Mem) (ts : Nat) (Y : jl_Mem) : Prop := (∀ l, l < m → Y 8 l = X (ts + 1) l) ∧ (∀ l t, l < m → t < n → (Y 9 (20 * l + t) = 0 ↔ jq_bit (X (ts + 2) l) t = false))
/-- all but the reference's scratch is the same -/
def jy_a4 (Y Y2 : jl_Mem) : Prop := ∀ k, k ≠ 7 → k ≠ 10 → k ≠ 11 → k ≠ 12 → Y2 k = Y k
theorem jy_a4.rf {Y : jl_Mem} : jy_a4 Y Y := fun _ _ _ _ _ => rfl
theorem jy_a4.tr {Y Y2 Y3 : jl_Mem} (h : jy_a4 Y Y2) (h2 : jy_a4 Y2 Y3) : jy_a4 Y Y3 := fun k a b d e => (h2 k a b d e).trans (h k a b d e)
theorem jy_a4_sa {k : Nat} {Y : jl_Mem} {f : Nat → Int32} (hk : k = 7 ∨ k = 10 ∨ k = 11 ∨ k = 12) : jy_a4 Y (jl_sa Y k f) := fun q h1 h2 h3 h4 => jl_sa_ne Y f (by omega)
theorem jy_a4.B {n m : Nat} {X Y Y2 : jl_Mem} (h : jy_a4 Y Y2) (hB : jr_B n m X Y) : jr_B n m X Y2 := by
  unfold jr_B
  rw [h 0 (by omega) (by omega) (by omega) (by omega), h 1 (by omega) (by omega) (by omega) (by omega), h 2 (by omega) (by omega) (by omega) (by omega), h 3 (by omega) (by omega) (by omega) (by omega), h 4 (by omega) (by omega) (by omega) (by omega), h 5 (by omega) (by omega) (by omega) (by omega), h 6 (by omega) (by omega) (by omega) (by omega)]
  exact hB
theorem jy_a4.S {n m ts : Nat} {X Y Y2 : jl_Mem} (h : jy_a4 Y Y2) (hB : jr_S n m X ts Y) : jr_S n m X ts Y2 := by
  unfold jr_S
  rw [h 8 (by omega) (by omega) (by omega) (by omega), h 9 (by omega) (by omega) (by omega) (by omega)]
  exact hB
theorem jx_place {n m l t : Nat} {X : jl_Mem} (hI : jx_I n m X) (hl : l < m) (ht : t < n) (hk : ¬ X (7 + l) t = 0) : ∃ p ln, p < ln ∧ ln ≤ n ∧ X 5 l = nI ln ∧ X (12 + l) p = nI t ∧ X (17 + l) t = nI p ∧ ∀ q, q < p → ∃ u, u < n ∧ u ≠ t ∧ X (12 + l) q = nI u := by
  have hn := hI.1.1
  obtain ⟨-, -, -, g⟩ := hI
  obtain ⟨ln, h1, h2, h3, h4⟩ := g l hl
  obtain ⟨p, hp, e⟩ := h4 t ht hk
  have hpl : ∀ q, q < ln → ∀ u, u < n → X (12 + l) q = nI u → X (17 + l) u = nI q := fun q hq u hu eu => by
    obtain ⟨u2, a1, a2, -, a4⟩ := h3 q hq
    have : u2 = u := (nI_eq (by omega) (by omega)).mp (a2.symm.trans eu)
    rw [← this]
    exact a4
  refine ⟨p, ln, hp, h1, h2, e, hpl p hp t ht e, fun q hq => ?_⟩
  obtain ⟨u, a1, a2, -, a4⟩ := h3 q (by omega)
  refine ⟨u, a1, fun eu => ?_, a2⟩
  have b1 := hpl p hp t ht e
  rw [← eu, a4] at b1
  have := (nI_eq (by omega) (by omega)).mp b1
  omega
theorem jp_placeOf {n m l t : Nat} {X Y : jl_Mem} (hI : jx_I n m X) (hB : jr_B n m X Y) (hl : l < m) (ht : t < n) (hk : ¬ X (7 + l) t = 0) : jf_X5_placeOf (nI l) (nI t) Y = some (X (17 + l) t, Y) := by
  have hn := hI.1.1
  have hm := hI.1.2.1
  obtain ⟨p, ln, h1, h2, h3, h4, h5, h6⟩ := jx_place hI hl ht hk
  obtain ⟨-, -, -, -, b5, -, b7⟩ := hB
  unfold jf_X5_placeOf
  rw [jl_lt_e]
  refine jl_loopE (fun i => (nI i, Y)) _ p (by omega) (fun i hi => ?_) ?_
  · show jf_X5_placeOf_L2 (nI l) (nI t) (nI i) Y = _
    unfold jf_X5_placeOf_L2
    obtain ⟨u, a1, a2, a3⟩ := h6 i hi
    rw [jl_inb_n (by omega) (by omega), jl_chk_t, nI_clamp (by omega), b5 l hl, h3, if_neg (nI_ge (by omega) (by omega)), jn_ix, jl_inb_n (by omega) (by omega), jl_chk_t, nI_clamp (by omega), b7 l i hl (by omega) (by rw [h3]; exact nI_lt (by omega) (by omega)), a3, if_neg (fun q => a2 ((nI_eq (by omega) (by omega)).mp q)), jl_lt_e, nI_1]
  · show jf_X5_placeOf_L2 (nI l) (nI t) (nI p) Y = _
    unfold jf_X5_placeOf_L2
    rw [jl_inb_n (by omega) (by omega), jl_chk_t, nI_clamp (by omega), b5 l hl, h3, if_neg (nI_ge (by omega) (by omega)), jn_ix, jl_inb_n (by omega) (by omega), jl_chk_t, nI_clamp (by omega), b7 l p hl (by omega) (by rw [h3]; exact nI_lt (by omega) (by omega)), h4, if_pos rfl, jl_ex_s, h5]
theorem jx_wl_eq {n m ts l : Nat} {X : jl_Mem} (hI : jx_I n m X) (hV : jx_V m X ts) (hl : l < m) : X (ts + 1) l = X 5 l ↔ jx_wl X ts l = true := by
  obtain ⟨d, ln, h1, h2, h3, h4, h5⟩ := jx_dep hI hV hl
  unfold jx_wl
  rw [decide_eq_true_iff, h4, h5, nI_eq (by omega) (by omega), nI_leI (by omega) (by omega)]
  omega
theorem jp_isKnownY {n m ts l t : Nat} {X Y : jl_Mem} (hI : jx_I n m X) (hV : jx_V m X ts) (hB : jr_B n m X Y) (hS : jr_S n m X ts Y) (hl : l < m) (ht : t < n) : jf_X5_isKnown (nI l) (nI t) Y = some (jq_i (jx_kn X ts l t), Y) := by
  have hn := hI.1.1
  have hm := hI.1.2.1
  have hpl := fun hk => jp_placeOf hI hB hl ht hk
  have hmk := hI.2.2.1 l t (by omega) (by omega)
  obtain ⟨-, -, -, -, b5, b6, -⟩ := hB
  obtain ⟨s1, s2⟩ := hS
  have hw := jx_wl_eq hI hV hl
  unfold jf_X5_isKnown
  rw [jn_ix, jl_inb_n (by omega) (by omega), jl_chk_t, jl_inb_n (by omega) (by omega), jl_chk_t, nI_clamp (by omega), nI_clamp (by omega), s1 l hl, b5 l hl, b6 l t (by omega) (by omega)]
  unfold jx_kn
  by_cases h1 : Y 9 (20 * l + t) = 0
  · rw [if_pos h1, (s2 l t hl ht).mp h1, Bool.or_false]
    by_cases h2 : X (ts + 1) l = X 5 l
    · rw [if_pos h2, hw.mp h2, Bool.true_or]
      rfl
    · have h2' : jx_wl X ts l = false := by
        cases q : jx_wl X ts l with
        | false => rfl
        | true => exact absurd (hw.mpr q) h2
      rw [if_neg h2, h2', Bool.false_or]
      unfold jx_se
      by_cases h3 : X (7 + l) t = 0
      · rw [if_pos (by rw [h3]; decide), decide_eq_false (fun q => q h3)]
        rfl
      · have h3' : ¬ X (7 + l) t ≤ 0 := fun q => h3 (Int32.le_antisymm q hmk)
        rw [if_neg h3', hpl h3, jl_bnd_s, s1 l hl, decide_eq_true h3, Bool.true_and]
        by_cases h4 : X (ts + 1) l ≤ X (17 + l) t
        · rw [if_pos h4, decide_eq_false (Int32.not_lt.mpr h4)]
          rfl
        · rw [if_neg h4, decide_eq_true (Int32.not_le.mp h4)]
          rfl
  · have h1' : jq_bit (X (ts + 2) l) t = true := by
      cases q : jq_bit (X (ts + 2) l) t with
      | true => rfl
      | false => exact absurd ((s2 l t hl ht).mpr q) h1
    rw [if_neg h1, h1', Bool.or_true]
    rfl
theorem jp_topOfY {n m ts l : Nat} {X Y : jl_Mem} (hI : jx_I n m X) (hV : jx_V m X ts) (hB : jr_B n m X Y) (hS : jr_S n m X ts Y) (hl : l < m) : jf_X5_topOf (nI l) Y = some (jx_tp X ts l, Y) := by
  have hn := hI.1.1
  have hm := hI.1.2.1
  obtain ⟨-, -, -, -, b5, b6, b7⟩ := hB
  obtain ⟨s1, s2⟩ := hS
  have hw := jx_wl_eq hI hV hl
  unfold jf_X5_topOf
  rw [jl_inb_n (by omega) (by omega), jl_chk_t, nI_clamp (by omega), s1 l hl, b5 l hl]
  unfold jx_tp
  by_cases h2 : X (ts + 1) l = X 5 l
  · rw [if_pos h2, if_pos (hw.mp h2)]
  · rw [if_neg h2, if_neg (fun q => h2 (hw.mpr q))]
    by_cases h3 : X (ts + 1) l = 0
    · rw [if_pos h3, if_pos h3]
    · rw [if_neg h3, if_neg h3]
      obtain ⟨d, t, e1, e2, e3, e4⟩ := jx_last hI hV hl h3
      obtain ⟨d2, ln, f1, f2, f3, f4, f5⟩ := jx_dep hI hV hl
      have ed : d2 = d + 1 := (nI_eq (by omega) (by omega)).mp (f4.symm.trans e1)
      rw [e1, jn_ix, ← Nat.add_assoc, nI_pred, jl_inb_n (by omega) (by omega), jl_chk_t, nI_clamp (by omega), b7 l d hl e2 (by rw [f5]; exact nI_lt (by omega) (by omega)), e4, jn_ix, jl_inb_n (by omega) (by omega), jl_chk_t, nI_clamp (by omega), b6 l t (by omega) (by omega), nI_pred, nI_clamp (by omega), e4, nI_clamp (by omega)]
theorem jp_boundY {n m ts t : Nat} {X Y : jl_Mem} (b : Bool) (hI : jx_I n m X) (hV : jx_V m X ts) (hB : jr_B n m X Y) (hS : jr_S n m X ts Y) (ht : t < n) :
    ∃ f, jf_X5_boundOf (nI t) (jq_i b) Y = some (if b = true then jx_hi X ts m t else jx_lo X ts m t, jl_sa Y 7 f) := by
  have hn := hI.1.1
  have hm := hI.1.2.1
  have hg : ∃ g : Nat → Int32, g = (fun l => if b = true then jx_hh X ts t l else jx_lh X ts t l) := ⟨_, rfl⟩
  obtain ⟨g, eg⟩ := hg
  refine ⟨jq_fl g (Y 7) m, ?_⟩
  unfold jf_X5_boundOf
  rw [jl_lt_e]
  have h0 : ((0 : Int32), Y) = (nI 0, jl_sa Y 7 (jq_fl g (Y 7) 0)) := by rw [jq_fl_0, jl_sa_self, nI_0]
  rw [h0]
  have ha : ∀ i, jy_a4 Y (jl_sa Y 7 (jq_fl g (Y 7) i)) := fun i => jy_a4_sa (Or.inl rfl)
  refine jl_loopE (fun i => (nI i, jl_sa Y 7 (jq_fl g (Y 7) i))) _ m (by omega) (fun i hi => ?_) ?_
  · show jf_X5_boundOf_L2 (nI t) (jq_i b) (nI i) (jl_sa Y 7 (jq_fl g (Y 7) i)) = _
    have hy := ha i
    have e := jl_st_fl Y 7 i g (Y 7)
    generalize jl_sa Y 7 (jq_fl g (Y 7) i) = Y2 at hy e ⊢
    have hB2 := hy.B hB
    have hS2 := hy.S hS
    unfold jf_X5_boundOf_L2
    rw [hB2.2.1, if_neg (nI_ge hi (by omega)), jp_isKnownY hI hV hB2 hS2 hi ht, jl_bnd_s, jq_if, jq_if, jp_topOfY hI hV hB2 hS2 hi, jl_bnd_s, jn_ix, jl_inb_n (by omega) (by omega), jl_inb_n (show i < 4 by omega) (by omega), nI_clamp (by omega), nI_clamp (by omega), hB2.2.2.2.2.2.1 i t (by omega) (by omega)]
    simp only [jl_chk_t, jl_lt_e]
    rw [nI_1, ← e, eg]
    dsimp only
    unfold jx_hh jx_lh
    by_cases h : jx_kn X ts i t = true
    · rw [if_pos h, if_pos h, if_pos h]
      cases b <;> rfl
    · rw [if_neg h, if_neg h, if_neg h]
      cases b <;> rfl
  · show jf_X5_boundOf_L2 (nI t) (jq_i b) (nI m) (jl_sa Y 7 (jq_fl g (Y 7) m)) = _
    have hy := ha m
    have e7 : (jl_sa Y 7 (jq_fl g (Y 7) m)) 7 = jq_fl g (Y 7) m := jl_sa_same _ _ _
    generalize jl_sa Y 7 (jq_fl g (Y 7) m) = Y2 at hy e7 ⊢
    have hB2 := hy.B hB
    unfold jf_X5_boundOf_L2
    rw [hB2.2.1, if_pos (nI_le (Nat.le_refl _) (by omega)), jp_totH hB2.2.1 hm, jl_bnd_s, jl_ex_s, hB2.2.2.1, e7, jt_cong (w2 := X 2) (h2 := g) (fun l hl => ⟨(hB2.2.2.2.1 l (by omega)).1, jq_fl_in hl⟩), eg]
    cases b <;> rfl
/-- the reference's isSure -/
theorem jp_isSureY {n m ts k : Nat} {X Y : jl_Mem} (hI : jx_I n m X) (hV : jx_V m X ts) (hB : jr_B n m X Y) (hS : jr_S n m X ts Y) (hk : k ≤ n) :
    ∃ (b : Bool) (Y2 : jl_Mem), jf_X5_isSure (nI k) Y = some (jq_i b, Y2) ∧ (b = true ↔ jx_sure (jx_lo X ts m) (jx_hi X ts m) n k) ∧ jy_a4 Y Y2 ∧ (∀ t, t < n → Y2 10 t = jq_i (decide (jr_k (jx_lo X ts m) n t < k))) ∧ (∀ t, n ≤ t → Y2 10 t = Y 10 t) := by
  have hn := hI.1.1
  have hm := hI.1.2.1
  unfold jf_X5_isSure
  rw [jl_lt_e]
  obtain ⟨r, h1, b, Y2, h2, h3, h4, h5, h6⟩ := jl_loopF (f := fun q => jf_X5_isSure_L2 (nI k) q.1 q.2)
    (fun i s => s.1 = nI i ∧ jy_a4 Y s.2 ∧ s.2 10 = Y 10 ∧ (∀ t, t < i → s.2 11 t = jx_lo X ts m t ∧ s.2 12 t = jx_hi X ts m t))
    (fun r => ∃ (b : Bool) (Y2 : jl_Mem), r = (jq_i b, Y2) ∧ (b = true ↔ jx_sure (jx_lo X ts m) (jx_hi X ts m) n k) ∧ jy_a4 Y Y2 ∧ (∀ t, t < n → Y2 10 t = jq_i (decide (jr_k (jx_lo X ts m) n t < k))) ∧ (∀ t, n ≤ t → Y2 10 t = Y 10 t))
    n (by omega) (s0 := ((0 : Int32), Y)) ⟨rfl, jy_a4.rf, rfl, fun t ht => absurd ht (Nat.not_lt_zero t)⟩ (by
    rintro i ⟨x, z⟩ hi ⟨e1, ha, h10, hlo⟩
    dsimp only at e1 ha h10 hlo
    subst e1
    show (i < n ∧ ∃ s2, jf_X5_isSure_L2 (nI k) (nI i) z = some (.inl s2) ∧ _) ∨ ∃ r, jf_X5_isSure_L2 (nI k) (nI i) z = some (.inr r) ∧ _
    unfold jf_X5_isSure_L2
    have hBz := ha.B hB
    rw [hBz.1]
    rcases Nat.lt_or_ge i n with q | q
    · refine Or.inl ⟨q, ?_⟩
      obtain ⟨f1, hf1⟩ := jp_boundY false hI hV hBz (ha.S hS) q
      have ha1 : jy_a4 Y (jl_st (jl_sa z 7 f1) 11 i (jx_lo X ts m i)) := (ha.tr (jy_a4_sa (Or.inl rfl))).tr (jy_a4_sa (Or.inr (Or.inr (Or.inl rfl))))
      obtain ⟨f2, hf2⟩ := jp_boundY true hI hV (ha1.B hB) (ha1.S hS) q
      rw [jq_f] at hf1
      rw [jq_t] at hf2
      simp only [Bool.false_eq_true, if_false] at hf1
      simp only [if_true] at hf2
      rw [if_neg (nI_ge q (by omega)), hf1, jl_bnd_s, jl_inb_n (by omega) (by omega), jl_chk_t, jl_lt_e, nI_clamp (by omega), hf2, jl_bnd_s, jl_lt_e, jl_lt_e, nI_1]
      refine ⟨_, rfl, rfl, (ha1.tr (jy_a4_sa (Or.inl rfl))).tr (jy_a4_sa (Or.inr (Or.inr (Or.inr rfl)))), ?_, fun t ht => ⟨?_, ?_⟩⟩
      · show jl_st (jl_sa (jl_st (jl_sa z 7 f1) 11 i (jx_lo X ts m i)) 7 f2) 12 i (jx_hi X ts m i) 10 = _
        rw [jl_st_ne _ _ _ (by decide), jl_sa_ne _ _ (by decide), jl_st_ne _ _ _ (by decide), jl_sa_ne _ _ (by decide), h10]
      · show jl_st (jl_sa (jl_st (jl_sa z 7 f1) 11 i (jx_lo X ts m i)) 7 f2) 12 i (jx_hi X ts m i) 11 t = _
        rw [jl_st_ne _ _ _ (by decide), jl_sa_ne _ _ (by decide), jl_st_cell, jl_sa_ne _ _ (by decide)]
        unfold upd
        by_cases e : t = i
        · rw [if_pos e, e]
        · rw [if_neg e]
          exact (hlo t (by omega)).1
      · show jl_st (jl_sa (jl_st (jl_sa z 7 f1) 11 i (jx_lo X ts m i)) 7 f2) 12 i (jx_hi X ts m i) 12 t = _
        rw [jl_st_cell, jl_sa_ne _ _ (by decide), jl_st_ne _ _ _ (by decide), jl_sa_ne _ _ (by decide)]
        unfold upd
        by_cases e : t = i
        · rw [if_pos e, e]
        · rw [if_neg e]
          exact (hlo t (by omega)).2
    · have ei : i = n := by omega
      subst ei
      refine Or.inr ?_
      rw [if_pos (nI_le (Nat.le_refl _) (by omega)), jl_lt_e]
      have hrk : ∀ t, t < i → jr_k (z 11) i t = jr_k (jx_lo X ts m) i t := fun t ht => jr_cong (fun q hq => (hlo q hq).1) (hlo t ht).1
      obtain ⟨r, g1, b, Y2, g2, g3, g4, g5, g6⟩ := jl_loopF (f := fun q => jf_X5_isSure_L42 (nI k) q.1 q.2)
        (fun j s => s.1 = nI j ∧ jy_a4 Y s.2 ∧ s.2 11 = z 11 ∧ s.2 12 = z 12 ∧ (∀ t, t < j → s.2 10 t = jq_i (decide (jr_k (jx_lo X ts m) i t < k))) ∧ (∀ t, i ≤ t → s.2 10 t = Y 10 t))
        (fun r => ∃ (b : Bool) (Y2 : jl_Mem), r = (jq_i b, Y2) ∧ (b = true ↔ jx_sure (jx_lo X ts m) (jx_hi X ts m) i k) ∧ jy_a4 Y Y2 ∧ (∀ t, t < i → Y2 10 t = jq_i (decide (jr_k (jx_lo X ts m) i t < k))) ∧ (∀ t, i ≤ t → Y2 10 t = Y 10 t))
        i (by omega) (s0 := ((0 : Int32), z)) ⟨rfl, ha, rfl, rfl, fun t ht => absurd ht (Nat.not_lt_zero t), fun t _ => congrFun h10 t⟩ (by
        rintro j ⟨x, y⟩ hj ⟨e1, hy, hy1, hy2, hy3, hy4⟩
        dsimp only at e1 hy hy1 hy2 hy3 hy4
        subst e1
        show (j < i ∧ ∃ s2, jf_X5_isSure_L42 (nI k) (nI j) y = some (.inl s2) ∧ _) ∨ ∃ r, jf_X5_isSure_L42 (nI k) (nI j) y = some (.inr r) ∧ _
        unfold jf_X5_isSure_L42
        have hBy := hy.B hB
        rw [hBy.1]
        rcases Nat.lt_or_ge j i with q | q
        · refine Or.inl ⟨q, ?_⟩
          rw [if_neg (nI_ge q (by omega)), jl_lt_e, jl_lt_e]
          have hw : jl_wh (fun q => jf_X5_isSure_L55 (nI k) (nI j) q.1 q.2.1 q.2.2) jl_F ((0 : Int32), (0 : Int32), y) = some (.inl (nI (j + 1), jl_st y 10 j (jq_i (decide (jr_k (jx_lo X ts m) i j < k))))) := by
            refine jl_loopE (fun o => (nI (jr_k (z 11) o j), nI o, y)) _ i (by omega) (fun o ho => ?_) ?_
            · show jf_X5_isSure_L55 (nI k) (nI j) (nI (jr_k (z 11) o j)) (nI o) y = _
              unfold jf_X5_isSure_L55
              rw [hBy.1, if_neg (nI_ge ho (by omega)), jl_inb_n (by omega) (by omega), jl_chk_t, jl_inb_n (by omega) (by omega), jl_chk_t, nI_clamp (by omega), nI_clamp (by omega), hy1, jr_succ]
              simp only [jl_lt_e]
              rw [nI_1, nI_1, Int32.add_zero]
              by_cases c1 : z 11 j < z 11 o
              · rw [if_pos c1, if_pos (by rw [jc_iff]; rw [jn_lt] at c1; omega)]
              · rw [if_neg c1]
                by_cases c2 : z 11 o = z 11 j
                · rw [if_pos c2]
                  by_cases c3 : j ≤ o
                  · rw [if_pos ((nI_leI (by omega) (by omega)).mpr c3), if_neg (by rw [jc_iff]; rw [jn_lt] at c1; rw [jn_eq] at c2; omega)]
                    rfl
                  · rw [if_neg (fun q => c3 ((nI_leI (by omega) (by omega)).mp q)), if_pos (by rw [jc_iff]; rw [jn_eq] at c2; omega)]
                · rw [if_neg c2, if_neg (by rw [jc_iff]; rw [jn_lt] at c1; rw [jn_eq] at c2; omega)]
                  rfl
            · show jf_X5_isSure_L55 (nI k) (nI j) (nI (jr_k (z 11) i j)) (nI i) y = _
              unfold jf_X5_isSure_L55
              have hle := jr_le (z 11) i j
              rw [hBy.1, if_pos (nI_le (Nat.le_refl _) (by omega)), jl_inb_n (by omega) (by omega), jl_chk_t, nI_clamp (by omega), hrk j q]
              rw [hrk j q] at hle
              simp only [jl_chk_t, jl_lt_e]
              rw [nI_1]
              by_cases c : jr_k (jx_lo X ts m) i j < k
              · rw [if_neg (nI_ge c (by omega)), jl_ex_s, decide_eq_true c]
                rfl
              · rw [if_pos (nI_le (by omega) (by omega)), jl_ex_s, decide_eq_false c]
                rfl
          refine ⟨_, hw, rfl, hy.tr (jy_a4_sa (Or.inr (Or.inl rfl))), ?_, ?_, fun t ht => ?_, fun t ht => ?_⟩
          · show jl_st y 10 j (jq_i (decide (jr_k (jx_lo X ts m) i j < k))) 11 = _
            rw [jl_st_ne _ _ _ (by decide), hy1]
          · show jl_st y 10 j (jq_i (decide (jr_k (jx_lo X ts m) i j < k))) 12 = _
            rw [jl_st_ne _ _ _ (by decide), hy2]
          · show jl_st y 10 j (jq_i (decide (jr_k (jx_lo X ts m) i j < k))) 10 t = _
            rw [jl_st_cell]
            unfold upd
            by_cases e : t = j
            · rw [if_pos e, e]
            · rw [if_neg e]
              exact hy3 t (by omega)
          · show jl_st y 10 j (jq_i (decide (jr_k (jx_lo X ts m) i j < k))) 10 t = _
            rw [jl_st_cell]
            unfold upd
            rw [if_neg (by omega)]
            exact hy4 t ht
        · have ej : j = i := by omega
          subst ej
          refine Or.inr ?_
          rw [if_pos (nI_le (Nat.le_refl _) (by omega)), jl_lt_e]
          obtain ⟨r, w1, b, w2, w3⟩ := jl_loopF (f := fun q => jf_X5_isSure_L140 q.1 q.2)
            (fun a s => s = (nI a, y) ∧ ∀ a2 b2, a2 < a → b2 < j → jr_k (jx_lo X ts m) j a2 < k → ¬ jr_k (jx_lo X ts m) j b2 < k → ¬ (jx_lo X ts m a2 < jx_hi X ts m b2 ∨ (jx_lo X ts m a2 = jx_hi X ts m b2 ∧ b2 < a2)))
            (fun r => ∃ b : Bool, r = (jq_i b, y) ∧ (b = true ↔ jx_sure (jx_lo X ts m) (jx_hi X ts m) j k)) j (by omega) (s0 := ((0 : Int32), y)) ⟨rfl, fun a2 b2 h => absurd h (Nat.not_lt_zero a2)⟩ (by
            rintro a s haj ⟨e1, hall⟩
            subst e1
            show (a < j ∧ ∃ s2, jf_X5_isSure_L140 (nI a) y = some (.inl s2) ∧ _) ∨ ∃ r, jf_X5_isSure_L140 (nI a) y = some (.inr r) ∧ _
            unfold jf_X5_isSure_L140
            rw [hBy.1]
            rcases Nat.lt_or_ge a j with q2 | q2
            · rw [if_neg (nI_ge q2 (by omega)), jl_lt_e]
              have ca := hy3 a q2
              obtain ⟨r, v1, v2⟩ := jl_loopF (f := fun q => jf_X5_isSure_L150 (nI a) q.1 q.2)
                (fun b s => s = (nI b, y) ∧ ∀ b2, b2 < b → jr_k (jx_lo X ts m) j a < k → ¬ jr_k (jx_lo X ts m) j b2 < k → ¬ (jx_lo X ts m a < jx_hi X ts m b2 ∨ (jx_lo X ts m a = jx_hi X ts m b2 ∧ b2 < a)))
                (fun r => (r = .inl (nI (a + 1), y) ∧ ∀ b2, b2 < j → jr_k (jx_lo X ts m) j a < k → ¬ jr_k (jx_lo X ts m) j b2 < k → ¬ (jx_lo X ts m a < jx_hi X ts m b2 ∨ (jx_lo X ts m a = jx_hi X ts m b2 ∧ b2 < a))) ∨ (r = .inr (jq_i false, y) ∧ ¬ jx_sure (jx_lo X ts m) (jx_hi X ts m) j k)) j (by omega) (s0 := ((0 : Int32), y)) ⟨rfl, fun b2 h => absurd h (Nat.not_lt_zero b2)⟩ (by
                rintro b s hbj ⟨e1, hal⟩
                subst e1
                show (b < j ∧ ∃ s2, jf_X5_isSure_L150 (nI a) (nI b) y = some (.inl s2) ∧ _) ∨ ∃ r, jf_X5_isSure_L150 (nI a) (nI b) y = some (.inr r) ∧ _
                unfold jf_X5_isSure_L150
                rw [hBy.1]
                rcases Nat.lt_or_ge b j with q3 | q3
                · have cb := hy3 b q3
                  rw [if_neg (nI_ge q3 (by omega)), jl_inb_n (by omega) (by omega), jl_chk_t, jl_inb_n (by omega) (by omega), jl_chk_t, nI_clamp (by omega), nI_clamp (by omega), ca, cb, jq_if, jq_if, hy1, hy2, (hlo a q2).1, (hlo b q3).2]
                  simp only [jl_lt_e, jl_ex_s]
                  rw [nI_1]
                  by_cases c1 : jr_k (jx_lo X ts m) j a < k
                  · rw [decide_eq_true c1, if_pos rfl]
                    by_cases c2 : jr_k (jx_lo X ts m) j b < k
                    · rw [decide_eq_true c2, if_pos rfl]
                      refine Or.inl ⟨q3, _, rfl, rfl, fun b2 hb2 x1 x2 => ?_⟩
                      by_cases e : b2 = b
                      · subst e
                        exact absurd c2 x2
                      · exact hal b2 (by omega) x1 x2
                    · rw [decide_eq_false c2]
                      simp only [Bool.false_eq_true, if_false]
                      by_cases c3 : jx_lo X ts m a < jx_hi X ts m b
                      · rw [if_pos c3]
                        exact Or.inr ⟨_, rfl, Or.inr ⟨rfl, fun x => x a b q2 q3 c1 c2 (Or.inl c3)⟩⟩
                      · rw [if_neg c3]
                        by_cases c4 : jx_lo X ts m a = jx_hi X ts m b
                        · rw [if_pos c4]
                          by_cases c5 : a ≤ b
                          · rw [if_pos ((nI_leI (by omega) (by omega)).mpr c5)]
                            refine Or.inl ⟨q3, _, rfl, rfl, fun b2 hb2 x1 x2 => ?_⟩
                            by_cases e : b2 = b
                            · subst e
                              rintro (y1 | y1)
                              · exact c3 y1
                              · omega
                            · exact hal b2 (by omega) x1 x2
                          · rw [if_neg (fun q => c5 ((nI_leI (by omega) (by omega)).mp q))]
                            exact Or.inr ⟨_, rfl, Or.inr ⟨rfl, fun x => x a b q2 q3 c1 c2 (Or.inr ⟨c4, by omega⟩)⟩⟩
                        · rw [if_neg c4]
                          refine Or.inl ⟨q3, _, rfl, rfl, fun b2 hb2 x1 x2 => ?_⟩
                          by_cases e : b2 = b
                          · subst e
                            rintro (y1 | y1)
                            · exact c3 y1
                            · exact c4 y1.1
                          · exact hal b2 (by omega) x1 x2
                  · rw [decide_eq_false c1]
                    simp only [Bool.false_eq_true, if_false]
                    exact Or.inl ⟨q3, _, rfl, rfl, fun b2 hb2 x1 x2 => absurd x1 c1⟩
                · have eb : b = j := by omega
                  subst eb
                  rw [if_pos (nI_le (Nat.le_refl _) (by omega)), jl_lt_e, jl_ex_s, nI_1]
                  exact Or.inr ⟨_, rfl, Or.inl ⟨rfl, hal⟩⟩)
              rcases v2 with ⟨v2, v3⟩ | ⟨v2, v3⟩
              · refine Or.inl ⟨q2, _, by rw [v1, v2], rfl, fun a2 b2 x1 x2 x3 x4 => ?_⟩
                by_cases e : a2 = a
                · subst e
                  exact v3 b2 x2 x3 x4
                · exact hall a2 b2 (by omega) x2 x3 x4
              · exact Or.inr ⟨_, by rw [v1, v2], false, rfl, ⟨fun x => absurd x (by decide), fun x => absurd x v3⟩⟩
            · have ea : a = j := by omega
              subst ea
              rw [if_pos (nI_le (Nat.le_refl _) (by omega)), jl_ex_s]
              exact Or.inr ⟨_, rfl, true, rfl, ⟨fun _ a2 b2 x1 x2 x3 x4 => hall a2 b2 x1 x2 x3 x4, fun _ => rfl⟩⟩)
          refine ⟨_, by rw [w1, w2, jl_ex_s], b, y, rfl, w3, hy, hy3, hy4⟩)
      exact ⟨_, by rw [g1, g2, jl_ex_s], b, Y2, rfl, g3, g4, g5, g6⟩)
  exact ⟨b, Y2, by rw [h1, h2], h3, h4, h5, h6⟩
