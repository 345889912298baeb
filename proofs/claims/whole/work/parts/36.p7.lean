/-! pure 7: both objects side by side -/
def jq_sum (f : Nat → Int32) : Nat → Int32
  | 0 => 0
  | n + 1 => jq_sum f n + f n
theorem jq_sum_cong {f g : Nat → Int32} : ∀ {n : Nat}, (∀ k, k < n → f k = g k) → jq_sum f n = jq_sum g n
  | 0, _ => rfl
  | n + 1, h => by
    unfold jq_sum
    rw [jq_sum_cong (fun k hk => h k (by omega)), h n (by omega)]
theorem jq_10 {α : Type} {u v : α} : (if (1 : Int32) = 0 then u else v) = v := rfl
theorem jq_00 {α : Type} {u v : α} : (if (0 : Int32) = 0 then u else v) = u := rfl
def jr_Z (n m : Nat) (X : jl_Mem) : Prop := (∀ l t, l < 4 → t < 20 → (m ≤ l ∨ n ≤ t) → X (7 + l) t = 0) ∧ (∀ l, m ≤ l → l < 4 → X 5 l = 0) ∧ (∀ l, l < m → 0 ≤ X 4 l) ∧ (∀ l, l < m → X 5 l = nI (fb_ct (fun t => decide (¬ X (7 + l) t = 0)) n)) ∧ X 1 2 = jq_sum (X 5) m
def jr_T (X Y : jl_Mem) : Prop := (∀ l, l < 4 → Y 16 l = X 35 l) ∧ (∀ l, l < 4 → X 32 l = 0)
def jr_Y (Y : jl_Mem) : Prop := (∀ k, k < 80 → jl_isB (Y 9 k) = true) ∧ (∀ t, t < 20 → jl_isB (Y 10 t) = true)
def jr_R (n m : Nat) (X Y : jl_Mem) : Prop := jx_V m X 24 ∧ jr_S n m X 24 Y ∧ (Y 0 24 = X 23 3 ∧ Y 0 17 = X 23 4 ∧ Y 0 18 = X 23 5 ∧ Y 0 19 = X 23 6 ∧ Y 0 20 = X 23 7 ∧ Y 0 22 = X 23 8 ∧ Y 0 23 = X 23 9) ∧
  (∃ k, 0 < k ∧ k ≤ n ∧ X 23 5 = nI k ∧ ∃ b : Bool, X 23 3 = jq_i b ∧ (b = true ↔ jx_sure (jx_lo X 24 m) (jx_hi X 24 m) n k)) ∧
  Y 0 21 = jq_sum (X 25) m ∧ (∀ t, t < n → Y 13 t = jq_i (jq_bit (X 24 5) t)) ∧ (∀ l t, l < m → t < n → jq_bit (X 26 l) t = true → ∃ l2, l2 < m ∧ jx_se X 24 l2 t = true) ∧ ((X 23 4 = 0 ∨ X 23 4 = 1 ∨ X 23 4 = 2) ∧ (X 23 4 = 2 → 0 < X 23 6))
def jr_H (n m : Nat) (X Y : jl_Mem) : Prop := Y 0 16 = X 23 2 ∧ jl_isB (X 23 2) = true ∧ (X 23 2 = 1 → jr_R n m X Y)
def jr_A (n m : Nat) (X Y : jl_Mem) : Prop := jx_I n m X ∧ jr_B n m X Y ∧ jr_Z n m X ∧ jr_T X Y ∧ jr_Y Y ∧ jr_H n m X Y
/-- a call on both: the same answer, and side by side again -/
def jr_ok (fx fy : Option (Int32 × jl_Mem)) : Prop := ∃ (r : Int32) (X2 Y2 : jl_Mem) (n2 m2 : Nat), fx = some (r, X2) ∧ fy = some (r, Y2) ∧ jr_A n2 m2 X2 Y2
def jx_sc (X X2 : jl_Mem) : Prop := ∀ k, k ≠ 21 → k ≠ 22 → k ≠ 27 → k ≠ 28 → k ≠ 30 → k ≠ 31 → k ≠ 33 → k ≠ 34 → X2 k = X k
def jy_sc (Y Y2 : jl_Mem) : Prop := ∀ k, k ≠ 7 → k ≠ 10 → k ≠ 11 → k ≠ 12 → k ≠ 14 → k ≠ 15 → Y2 k = Y k
theorem jx_sc.rf {X : jl_Mem} : jx_sc X X := fun _ _ _ _ _ _ _ _ _ => rfl
theorem jy_sc.rf {Y : jl_Mem} : jy_sc Y Y := fun _ _ _ _ _ _ _ => rfl
theorem jr_B.cx {n m : Nat} {X X2 Y : jl_Mem} (h : jr_B n m X Y) (hm : m ≤ 4) (hx : ∀ k, k < 21 → X2 k = X k) : jr_B n m X2 Y := by
  obtain ⟨b1, b2, b3, b4, b5, b6, b7⟩ := h
  refine ⟨b1, b2, by rw [hx 1 (by omega)]; exact b3, fun l hl => by rw [hx 2 (by omega), hx 3 (by omega), hx 4 (by omega)]; exact b4 l hl, fun l hl => by rw [hx 5 (by omega)]; exact b5 l hl, fun l t hl ht => by rw [hx (7 + l) (by omega)]; exact b6 l t hl ht, fun l p hl hp hq => ?_⟩
  rw [hx 5 (by omega)] at hq
  rw [hx (12 + l) (by omega)]
  exact b7 l p hl hp hq
theorem jr_B.cy {n m : Nat} {X Y Y2 : jl_Mem} (h : jr_B n m X Y) (hy : ∀ k, k < 7 → Y2 k = Y k) : jr_B n m X Y2 := by
  unfold jr_B
  rw [hy 0 (by omega), hy 1 (by omega), hy 2 (by omega), hy 3 (by omega), hy 4 (by omega), hy 5 (by omega), hy 6 (by omega)]
  exact h
theorem jr_Z.cx {n m : Nat} {X X2 : jl_Mem} (h : jr_Z n m X) (hm : m ≤ 4) (hx : ∀ k, k < 21 → X2 k = X k) : jr_Z n m X2 := by
  obtain ⟨z1, z2, z3, z4, z5⟩ := h
  refine ⟨fun l t hl ht q => by rw [hx (7 + l) (by omega)]; exact z1 l t hl ht q, fun l h1 h2 => by rw [hx 5 (by omega)]; exact z2 l h1 h2, fun l hl => by rw [hx 4 (by omega)]; exact z3 l hl, fun l hl => by rw [hx 5 (by omega), hx (7 + l) (by omega)]; exact z4 l hl, by rw [hx 1 (by omega), hx 5 (by omega)]; exact z5⟩
theorem jr_R.c {n m : Nat} {X X2 Y Y2 : jl_Mem} (h : jr_R n m X Y) (hm : m ≤ 4) (hx : ∀ k, (k < 21 ∨ k = 23 ∨ k = 24 ∨ k = 25 ∨ k = 26) → X2 k = X k) (hy : ∀ k, (k = 0 ∨ k = 8 ∨ k = 9 ∨ k = 13) → Y2 k = Y k) : jr_R n m X2 Y2 := by
  have hg : jx_sg 24 X X2 := fun k hk => hx k (by omega)
  obtain ⟨r1, r2, r3, ⟨k, k1, k2, k3, b, k4, k5⟩, r5, r6, r7, r8⟩ := h
  have e0 := hy 0 (by omega)
  have e23 := hx 23 (by omega)
  have e24 := hx 24 (by omega)
  have e25 := hx 25 (by omega)
  have e26 := hx 26 (by omega)
  refine ⟨hg.V r1, ⟨fun l hl => by rw [hy 8 (by omega), hx (24 + 1) (by omega)]; exact r2.1 l hl, fun l t hl ht => by rw [hy 9 (by omega), hx (24 + 2) (by omega)]; exact r2.2 l t hl ht⟩, by rw [e0, e23]; exact r3, ⟨k, k1, k2, by rw [e23]; exact k3, b, by rw [e23]; exact k4, ?_⟩, by rw [e0, e25]; exact r5, fun t ht => by rw [hy 13 (by omega), e24]; exact r6 t ht, fun l t hl ht hb => ?_, by rw [e23]; exact r8⟩
  · rw [k5]
    exact jx_sure_cong (fun t _ => (hg.lo hm).symm) (fun t _ => (hg.hi hm).symm)
  · rw [e26] at hb
    obtain ⟨l2, a1, a2⟩ := r7 l t hl ht hb
    exact ⟨l2, a1, by rw [hg.se (by omega)]; exact a2⟩
theorem jr_A.sc {n m : Nat} {X Y X2 Y2 : jl_Mem} (h : jr_A n m X Y) (hx : jx_sc X X2) (hy : jy_sc Y Y2) (h10 : ∀ t, t < 20 → jl_isB (Y2 10 t) = true) : jr_A n m X2 Y2 := by
  obtain ⟨hI, hB, hZ, hT, hY, hH⟩ := h
  have hm := hI.1.2.1
  have cx : ∀ k, (k < 21 ∨ k = 23 ∨ k = 24 ∨ k = 25 ∨ k = 26 ∨ k = 32 ∨ k = 35) → X2 k = X k := fun k hk => hx k (by omega) (by omega) (by omega) (by omega) (by omega) (by omega) (by omega) (by omega)
  have cy : ∀ k, (k < 7 ∨ k = 8 ∨ k = 9 ∨ k = 13 ∨ k = 16) → Y2 k = Y k := fun k hk => hy k (by omega) (by omega) (by omega) (by omega) (by omega) (by omega)
  have hg : jx_sg 24 X X2 := fun k hk => cx k (by omega)
  refine ⟨hg.I hI, (hB.cx hm (fun k hk => cx k (by omega))).cy (fun k hk => cy k (by omega)), hZ.cx hm (fun k hk => cx k (by omega)), ⟨fun l hl => by rw [cy 16 (by omega), cx 35 (by omega)]; exact hT.1 l hl, fun l hl => by rw [cx 32 (by omega)]; exact hT.2 l hl⟩, ⟨fun k hk => by rw [cy 9 (by omega)]; exact hY.1 k hk, h10⟩, ?_⟩
  obtain ⟨a1, a2, a3⟩ := hH
  refine ⟨by rw [cy 0 (by omega), cx 23 (by omega)]; exact a1, by rw [cx 23 (by omega)]; exact a2, fun q => ?_⟩
  rw [cx 23 (by omega)] at q
  exact (a3 q).c hm (fun k hk => cx k (by omega)) (fun k hk => cy k (by omega))
/-- the answer is told, nothing but scratch was written -/
theorem jr_A.ok {n m : Nat} {X Y X2 Y2 : jl_Mem} {r : Int32} {fx fy : Option (Int32 × jl_Mem)} (h : jr_A n m X Y) (h1 : fx = some (r, X2)) (h2 : fy = some (r, Y2)) (hx : jx_sc X X2) (hy : jy_sc Y Y2) (h10 : Y2 10 = Y 10) : jr_ok fx fy := ⟨r, X2, Y2, n, m, h1, h2, h.sc hx hy (fun t ht => by rw [h10]; exact h.2.2.2.2.1.2 t ht)⟩
theorem jr_A.id {n m : Nat} {X Y : jl_Mem} {r : Int32} {fx fy : Option (Int32 × jl_Mem)} (h : jr_A n m X Y) (h1 : fx = some (r, X)) (h2 : fy = some (r, Y)) : jr_ok fx fy := ⟨r, X, Y, n, m, h1, h2, h⟩
theorem jx_sc_sa {k : Nat} {X : jl_Mem} {f : Nat → Int32} (hk : k = 21 ∨ k = 22 ∨ k = 27 ∨ k = 28 ∨ k = 30 ∨ k = 31 ∨ k = 33 ∨ k = 34) : jx_sc X (jl_sa X k f) := fun q h1 h2 h3 h4 h5 h6 h7 h8 => jl_sa_ne X f (by omega)
theorem jy_sc_sa {k : Nat} {Y : jl_Mem} {f : Nat → Int32} (hk : k = 7 ∨ k = 10 ∨ k = 11 ∨ k = 12 ∨ k = 14 ∨ k = 15) : jy_sc Y (jl_sa Y k f) := fun q h1 h2 h3 h4 h5 h6 => jl_sa_ne Y f (by omega)
theorem jx_sc.tr {X X2 X3 : jl_Mem} (h : jx_sc X X2) (h2 : jx_sc X2 X3) : jx_sc X X3 := fun k a b c d e f g i => (h2 k a b c d e f g i).trans (h k a b c d e f g i)
theorem jy_sc.tr {Y Y2 Y3 : jl_Mem} (h : jy_sc Y Y2) (h2 : jy_sc Y2 Y3) : jy_sc Y Y3 := fun k a b c d e f => (h2 k a b c d e f).trans (h k a b c d e f)
/-! questions that need no reader -/
theorem jk_about {n m : Nat} {X Y : jl_Mem} (h : jr_A n m X Y) (a b : Int32) : jr_ok (jf_X4_about a b X) (jf_X5_about a b Y) := by
  obtain ⟨hI, hB, -⟩ := id h
  have hm := hI.1.2.1
  unfold jf_X4_about jf_X5_about
  by_cases hl : ∃ l, l < m ∧ a = nI l
  · obtain ⟨l, hl, rfl⟩ := hl
    obtain ⟨e1, e2, e3⟩ := hB.2.2.2.1 l (by omega)
    rw [jp_hL_y hI.1.2.2.2 hm hl, jp_iL_y hB.2.1 hm hl, jl_bnd_s, jl_bnd_s, jq_10, jq_10, jl_inb_n (by omega) (by omega), nI_clamp (by omega), e1, e2, e3, hB.2.2.2.2.1 l hl]
    simp only [jl_chk_t]
    by_cases c0 : b = 0
    · rw [if_pos c0, if_pos c0]
      exact h.id rfl rfl
    · rw [if_neg c0, if_neg c0]
      by_cases c1 : b = 1
      · rw [if_pos c1, if_pos c1]
        exact h.id rfl rfl
      · rw [if_neg c1, if_neg c1]
        by_cases c2 : b = 2
        · rw [if_pos c2, if_pos c2]
          exact h.id rfl rfl
        · rw [if_neg c2, if_neg c2]
          by_cases c3 : b = 3
          · rw [if_pos c3, if_pos c3]
            exact h.id rfl rfl
          · rw [if_neg c3, if_neg c3]
            exact h.id rfl rfl
  · rw [jp_hL_n hI.1.2.2.2 hm hl, jp_iL_n hB.2.1 hm hl, jl_bnd_s, jl_bnd_s, jq_00, jq_00]
    exact h.id rfl rfl
theorem jk_row {n m : Nat} {X Y : jl_Mem} (h : jr_A n m X Y) (a b : Int32) : jr_ok (jf_X4_row a b X) (jf_X5_row a b Y) := by
  obtain ⟨hI, hB, -⟩ := id h
  have hm := hI.1.2.1
  have hn := hI.1.1
  unfold jf_X4_row jf_X5_row
  by_cases hl : ∃ l, l < m ∧ a = nI l
  · obtain ⟨l, hl, rfl⟩ := hl
    obtain ⟨ln, q1, q2, q3, -⟩ := hI.2.2.2 l hl
    rw [jp_hL_y hI.1.2.2.2 hm hl, jp_iL_y hB.2.1 hm hl, jl_bnd_s, jl_bnd_s, jq_10, jq_10, jl_inb_n (by omega) (by omega), nI_clamp (by omega), jl_chk_t, jl_chk_t, hB.2.2.2.2.1 l hl, q2]
    by_cases hp : ∃ p, p < ln ∧ b = nI p
    · obtain ⟨p, hp, rfl⟩ := hp
      have hr : 0 ≤ nI p ∧ nI p ≤ nI ln - 1 := (jn_rng (by omega)).mpr ⟨p, hp, rfl⟩
      rw [jp_wi_y hr, jp_in_y hr, jl_bnd_s, jl_bnd_s, jq_10, jq_10, jl_inb_n (show p < 20 by omega) (by omega), jn_ix, jl_inb_n (by omega) (by omega), jl_chk_t, jl_chk_t, nI_clamp (by omega), nI_clamp (by omega), hB.2.2.2.2.2.2 l p hl (by omega) (by rw [q2]; exact nI_lt hp (by omega))]
      exact h.id rfl rfl
    · have hr : ¬ (0 ≤ b ∧ b ≤ nI ln - 1) := fun q => hp ((jn_rng (by omega)).mp q)
      rw [jp_wi_n hr, jp_in_n hr, jl_bnd_s, jl_bnd_s, jq_00, jq_00]
      exact h.id rfl rfl
  · rw [jp_hL_n hI.1.2.2.2 hm hl, jp_iL_n hB.2.1 hm hl, jl_bnd_s, jl_bnd_s, jq_00, jq_00]
    exact h.id rfl rfl
theorem jk_place {n m : Nat} {X Y : jl_Mem} (h : jr_A n m X Y) (a b c : Int32) : jr_ok (jf_X4_place a b c X) (jf_X5_place a b c Y) := by
  obtain ⟨hI, hB, -⟩ := id h
  have hm := hI.1.2.1
  have hn := hI.1.1
  unfold jf_X4_place jf_X5_place
  by_cases hl : ∃ l, l < m ∧ a = nI l
  · obtain ⟨l, hl, rfl⟩ := hl
    rw [jp_hL_y hI.1.2.2.2 hm hl, jp_iL_y hB.2.1 hm hl, jl_bnd_s, jl_bnd_s, jq_10, jq_10]
    by_cases ht : ∃ t, t < n ∧ b = nI t
    · obtain ⟨t, ht, rfl⟩ := ht
      rw [jp_hT_y hI.1.2.2.1 hn ht, jp_iT_y hB.1 hn ht, jl_bnd_s, jl_bnd_s, jq_10, jq_10]
      by_cases hw : 0 ≤ c ∧ c ≤ 1
      · rw [jp_wi_y hw, jp_in_y hw, jl_bnd_s, jl_bnd_s, jq_10, jq_10, jl_inb_n (show l < 4 by omega) (by omega), jl_inb_n (show t < 20 by omega) (by omega), jn_ix, jl_inb_n (by omega) (by omega), nI_clamp (by omega), nI_clamp (by omega), nI_clamp (by omega), hB.2.2.2.2.2.1 l t (by omega) (by omega)]
        simp only [jl_chk_t]
        by_cases hk : X (7 + l) t = 0
        · rw [if_pos hk, if_pos hk]
          exact h.id rfl rfl
        · rw [if_neg hk, if_neg hk]
          by_cases hc : c = 0
          · rw [if_pos hc, if_pos hc, jp_placeOf hI hB hl ht hk, jl_bnd_s]
            exact h.id rfl rfl
          · rw [if_neg hc, if_neg hc]
            exact h.id rfl rfl
      · rw [jp_wi_n hw, jp_in_n hw, jl_bnd_s, jl_bnd_s, jq_00, jq_00]
        exact h.id rfl rfl
    · rw [jp_hT_n hI.1.2.2.1 hn ht, jp_iT_n hB.1 hn ht, jl_bnd_s, jl_bnd_s, jq_00, jq_00]
      exact h.id rfl rfl
  · rw [jp_hL_n hI.1.2.2.2 hm hl, jp_iL_n hB.2.1 hm hl, jl_bnd_s, jl_bnd_s, jq_00, jq_00]
    exact h.id rfl rfl
def jx_to (X : jl_Mem) (m t : Nat) : Int32 := jt_tot (X 1 3) m (X 2) (fun l => X (7 + l) t)
theorem jp_totalOf {n m t : Nat} {X : jl_Mem} (hI : jx_I n m X) (ht : t < n) : ∃ f, jf_X0_totalOf (nI t) X = some (jx_to X m t, jl_sa X 21 f) := by
  have hn := hI.1.1
  have hm := hI.1.2.1
  refine ⟨jq_fl (fun l => X (7 + l) t) (X 21) m, ?_⟩
  unfold jf_X0_totalOf
  rw [jl_lt_e]
  have h0 : ((0 : Int32), X) = (nI 0, jl_sa X 21 (jq_fl (fun l => X (7 + l) t) (X 21) 0)) := by rw [jq_fl_0, jl_sa_self, nI_0]
  rw [h0]
  have hc : ∀ i k, k ≠ 21 → (jl_sa X 21 (jq_fl (fun l => X (7 + l) t) (X 21) i)) k = X k := fun i k hk => jl_sa_ne _ _ hk
  refine jl_loopE (fun i => (nI i, jl_sa X 21 (jq_fl (fun l => X (7 + l) t) (X 21) i))) _ m (by omega) (fun i hi => ?_) ?_
  · show jf_X0_totalOf_L2 (nI t) (nI i) (jl_sa X 21 (jq_fl (fun l => X (7 + l) t) (X 21) i)) = _
    have hz := hc i
    have e := jl_st_fl X 21 i (fun l => X (7 + l) t) (X 21)
    generalize jl_sa X 21 (jq_fl (fun l => X (7 + l) t) (X 21) i) = X2 at hz e ⊢
    unfold jf_X0_totalOf_L2
    rw [hz 1 (by omega), hI.1.2.2.2, if_neg (nI_ge hi (by omega)), jl_inb_n (by omega) (by omega), jl_chk_t, jl_inb_n (by omega) (by omega), jl_chk_t, jl_lt_e, jl_lt_e, nI_clamp (by omega), nI_clamp (by omega), hz (7 + i) (by omega), nI_1, ← e]
  · show jf_X0_totalOf_L2 (nI t) (nI m) (jl_sa X 21 (jq_fl (fun l => X (7 + l) t) (X 21) m)) = _
    have hz := hc m
    have e3 : (jl_sa X 21 (jq_fl (fun l => X (7 + l) t) (X 21) m)) 21 = jq_fl (fun l => X (7 + l) t) (X 21) m := jl_sa_same _ _ _
    generalize jl_sa X 21 (jq_fl (fun l => X (7 + l) t) (X 21) m) = X2 at hz e3 ⊢
    unfold jf_X0_totalOf_L2
    rw [hz 1 (by omega), hI.1.2.2.2, if_pos (nI_le (Nat.le_refl _) (by omega)), jp_comb (m := m) (v := 21) (by rw [hz 1 (by omega)]; exact hI.1.2.2.2) hm rfl (fun l hl => ⟨by rw [hz 2 (by omega)]; exact hI.2.1 l hl, by rw [e3, jq_fl_in hl]; exact hI.2.2.1 l t (by omega) (by omega)⟩), jl_bnd_s, jl_ex_s, e3, hz 1 (by omega), hz 2 (by omega)]
    unfold jx_to
    rw [jt_cong (fun l hl => ⟨rfl, jq_fl_in hl⟩)]
theorem jp_totalOfY {n m t : Nat} {X Y : jl_Mem} (hI : jx_I n m X) (hB : jr_B n m X Y) (ht : t < n) : ∃ f, jf_X5_totalOf (nI t) Y = some (jx_to X m t, jl_sa Y 7 f) := by
  have hn := hI.1.1
  have hm := hI.1.2.1
  refine ⟨jq_fl (fun l => X (7 + l) t) (Y 7) m, ?_⟩
  unfold jf_X5_totalOf
  rw [jl_lt_e]
  have h0 : ((0 : Int32), Y) = (nI 0, jl_sa Y 7 (jq_fl (fun l => X (7 + l) t) (Y 7) 0)) := by rw [jq_fl_0, jl_sa_self, nI_0]
  rw [h0]
  have ha : ∀ i, jy_a4 Y (jl_sa Y 7 (jq_fl (fun l => X (7 + l) t) (Y 7) i)) := fun i => jy_a4_sa (Or.inl rfl)
  refine jl_loopE (fun i => (nI i, jl_sa Y 7 (jq_fl (fun l => X (7 + l) t) (Y 7) i))) _ m (by omega) (fun i hi => ?_) ?_
  · show jf_X5_totalOf_L2 (nI t) (nI i) (jl_sa Y 7 (jq_fl (fun l => X (7 + l) t) (Y 7) i)) = _
    have hB2 := (ha i).B hB
    have e := jl_st_fl Y 7 i (fun l => X (7 + l) t) (Y 7)
    generalize jl_sa Y 7 (jq_fl (fun l => X (7 + l) t) (Y 7) i) = Y2 at hB2 e ⊢
    unfold jf_X5_totalOf_L2
    rw [hB2.2.1, if_neg (nI_ge hi (by omega)), jn_ix, jl_inb_n (by omega) (by omega), jl_chk_t, jl_inb_n (by omega) (by omega), jl_chk_t, jl_lt_e, jl_lt_e, nI_clamp (by omega), nI_clamp (by omega), hB2.2.2.2.2.2.1 i t (by omega) (by omega), nI_1, ← e]
  · show jf_X5_totalOf_L2 (nI t) (nI m) (jl_sa Y 7 (jq_fl (fun l => X (7 + l) t) (Y 7) m)) = _
    have hB2 := (ha m).B hB
    have e7 : (jl_sa Y 7 (jq_fl (fun l => X (7 + l) t) (Y 7) m)) 7 = jq_fl (fun l => X (7 + l) t) (Y 7) m := jl_sa_same _ _ _
    generalize jl_sa Y 7 (jq_fl (fun l => X (7 + l) t) (Y 7) m) = Y2 at hB2 e7 ⊢
    unfold jf_X5_totalOf_L2
    rw [hB2.2.1, if_pos (nI_le (Nat.le_refl _) (by omega)), jp_totH hB2.2.1 hm, jl_bnd_s, jl_ex_s, hB2.2.2.1, e7, jt_cong (w := Y2 1) (w2 := X 2) (h := jq_fl (fun l => X (7 + l) t) (Y 7) m) (h2 := fun l => X (7 + l) t) (m := m) (fun l hl => ⟨(hB2.2.2.2.1 l (by omega)).1, jq_fl_in (g := fun l => X (7 + l) t) hl⟩)]
    rfl
theorem jk_total {n m : Nat} {X Y : jl_Mem} (h : jr_A n m X Y) (a : Int32) : jr_ok (jf_X4_total a X) (jf_X5_total a Y) := by
  obtain ⟨hI, hB, -⟩ := id h
  have hm := hI.1.2.1
  have hn := hI.1.1
  unfold jf_X4_total jf_X5_total
  by_cases ht : ∃ t, t < n ∧ a = nI t
  · obtain ⟨t, ht, rfl⟩ := ht
    obtain ⟨f, hf⟩ := jp_totalOf hI ht
    obtain ⟨g, hg⟩ := jp_totalOfY hI hB ht
    rw [jp_hT_y hI.1.2.2.1 hn ht, jp_iT_y hB.1 hn ht, jl_bnd_s, jl_bnd_s, jq_10, jq_10, hf, hg, jl_bnd_s, jl_bnd_s]
    exact h.ok rfl rfl (jx_sc_sa (Or.inl rfl)) (jy_sc_sa (Or.inl rfl)) (jl_sa_ne _ _ (by decide))
  · rw [jp_hT_n hI.1.2.2.1 hn ht, jp_iT_n hB.1 hn ht, jl_bnd_s, jl_bnd_s, jq_00, jq_00]
    exact h.id rfl rfl
theorem jk_leastDepth {n m : Nat} {X Y : jl_Mem} (h : jr_A n m X Y) (a : Int32) : jr_ok (jf_X4_leastDepth a X) (jf_X5_leastDepth a Y) := by
  have hT := h.2.2.2.1
  unfold jf_X4_leastDepth jf_X5_leastDepth
  have e3 : (3 : Int32) = nI 4 - 1 := by decide
  by_cases hl : ∃ l, l < 4 ∧ a = nI l
  · have hr : 0 ≤ a ∧ a ≤ 3 := by
      rw [e3]
      exact (jn_rng (by omega)).mpr hl
    obtain ⟨l, hl, rfl⟩ := hl
    rw [jp_wi_y hr, jp_in_y hr, jl_bnd_s, jl_bnd_s, jq_10, jq_10, jl_inb_n hl (by omega), jl_chk_t, jl_chk_t, nI_clamp (by omega), hT.1 l hl]
    exact h.id rfl rfl
  · have hr : ¬ (0 ≤ a ∧ a ≤ 3) := fun q => hl (by
      rw [e3] at q
      exact (jn_rng (by omega)).mp q)
    rw [jp_wi_n hr, jp_in_n hr, jl_bnd_s, jl_bnd_s, jq_00, jq_00]
    exact h.id rfl rfl
