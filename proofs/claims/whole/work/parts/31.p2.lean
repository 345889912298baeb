/-! pure 2: small answers; ranks and totals as the code finds them -/
theorem jp_in_y {x a b : Int32} {M : jl_Mem} (h : a ≤ x ∧ x ≤ b) : jf_X5_in x a b M = some (1, M) := by
  unfold jf_X5_in
  rw [if_neg (Int32.not_lt.mpr h.1), if_neg (Int32.not_lt.mpr h.2)]
theorem jp_in_n {x a b : Int32} {M : jl_Mem} (h : ¬ (a ≤ x ∧ x ≤ b)) : jf_X5_in x a b M = some (0, M) := by
  unfold jf_X5_in
  by_cases h1 : x < a
  · rw [if_pos h1]
  · rw [if_neg h1, if_pos (Int32.not_le.mp fun q => h ⟨Int32.not_lt.mp h1, q⟩)]
theorem jp_wi_y {x a b : Int32} {M : jl_Mem} (h : a ≤ x ∧ x ≤ b) : jf_X4_within x a b M = some (1, M) := by
  unfold jf_X4_within
  rw [if_neg (Int32.not_lt.mpr h.1), if_neg (Int32.not_lt.mpr h.2)]
theorem jp_wi_n {x a b : Int32} {M : jl_Mem} (h : ¬ (a ≤ x ∧ x ≤ b)) : jf_X4_within x a b M = some (0, M) := by
  unfold jf_X4_within
  by_cases h1 : x < a
  · rw [if_pos h1]
  · rw [if_neg h1, if_pos (Int32.not_le.mp fun q => h ⟨Int32.not_lt.mp h1, q⟩)]
theorem jp_yes {b : Bool} {M : jl_Mem} : jf_X4_yes (if b = true then 1 else 0) M = some (if b = true then 1 else 0, M) := by
  unfold jf_X4_yes
  cases b <;> rfl
theorem jp_yes0 {M : jl_Mem} : jf_X4_yes 0 M = some (0, M) := rfl
theorem jp_yes1 {M : jl_Mem} : jf_X4_yes 1 M = some (1, M) := rfl
theorem jp_hT_y {n t : Nat} {X : jl_Mem} (h : X 1 0 = nI n) (hn : n ≤ 20) (ht : t < n) : jf_X0_hasThing (nI t) X = some (1, X) := by
  unfold jf_X0_hasThing
  rw [h, jp_wi_y ((jn_rng (by omega)).mpr ⟨t, ht, rfl⟩), jl_bnd_s, jl_isB_1, jl_chk_t]
theorem jp_hT_n {n : Nat} {x : Int32} {X : jl_Mem} (h : X 1 0 = nI n) (hn : n ≤ 20) (ht : ¬ ∃ t, t < n ∧ x = nI t) : jf_X0_hasThing x X = some (0, X) := by
  unfold jf_X0_hasThing
  rw [h, jp_wi_n (fun q => ht ((jn_rng (by omega)).mp q)), jl_bnd_s, jl_isB_0, jl_chk_t]
theorem jp_hL_y {n t : Nat} {X : jl_Mem} (h : X 1 1 = nI n) (hn : n ≤ 4) (ht : t < n) : jf_X0_hasList (nI t) X = some (1, X) := by
  unfold jf_X0_hasList
  rw [h, jp_wi_y ((jn_rng (by omega)).mpr ⟨t, ht, rfl⟩), jl_bnd_s, jl_isB_1, jl_chk_t]
theorem jp_hL_n {n : Nat} {x : Int32} {X : jl_Mem} (h : X 1 1 = nI n) (hn : n ≤ 4) (ht : ¬ ∃ t, t < n ∧ x = nI t) : jf_X0_hasList x X = some (0, X) := by
  unfold jf_X0_hasList
  rw [h, jp_wi_n (fun q => ht ((jn_rng (by omega)).mp q)), jl_bnd_s, jl_isB_0, jl_chk_t]
theorem jp_iT_y {n t : Nat} {Y : jl_Mem} (h : Y 0 1 = nI n) (hn : n ≤ 20) (ht : t < n) : jf_X5_isThing (nI t) Y = some (1, Y) := by
  unfold jf_X5_isThing
  rw [h, jp_in_y ((jn_rng (by omega)).mpr ⟨t, ht, rfl⟩), jl_bnd_s, jl_isB_1, jl_chk_t]
theorem jp_iT_n {n : Nat} {x : Int32} {Y : jl_Mem} (h : Y 0 1 = nI n) (hn : n ≤ 20) (ht : ¬ ∃ t, t < n ∧ x = nI t) : jf_X5_isThing x Y = some (0, Y) := by
  unfold jf_X5_isThing
  rw [h, jp_in_n (fun q => ht ((jn_rng (by omega)).mp q)), jl_bnd_s, jl_isB_0, jl_chk_t]
theorem jp_iL_y {n t : Nat} {Y : jl_Mem} (h : Y 0 2 = nI n) (hn : n ≤ 4) (ht : t < n) : jf_X5_isList (nI t) Y = some (1, Y) := by
  unfold jf_X5_isList
  rw [h, jp_in_y ((jn_rng (by omega)).mpr ⟨t, ht, rfl⟩), jl_bnd_s, jl_isB_1, jl_chk_t]
theorem jp_iL_n {n : Nat} {x : Int32} {Y : jl_Mem} (h : Y 0 2 = nI n) (hn : n ≤ 4) (ht : ¬ ∃ t, t < n ∧ x = nI t) : jf_X5_isList x Y = some (0, Y) := by
  unfold jf_X5_isList
  rw [h, jp_in_n (fun q => ht ((jn_rng (by omega)).mp q)), jl_bnd_s, jl_isB_0, jl_chk_t]
theorem jp_cf {a b : Nat} (ha : a < 2 ^ 31) (hb : b < 2 ^ 31) (u v : Int32) (M : jl_Mem) : jf_X4_comesFirst (nI a) u (nI b) v M = some (if (v < u ∨ (u = v ∧ a < b)) then 1 else 0, M) := by
  unfold jf_X4_comesFirst
  by_cases h1 : v < u
  · rw [if_pos h1, if_pos (Or.inl h1)]
  · rw [if_neg h1]
    by_cases h2 : u = v
    · rw [if_pos h2]
      by_cases h3 : a < b
      · rw [if_neg (fun q => by rw [nI_leI hb ha] at q; omega), if_pos (Or.inr ⟨h2, h3⟩)]
      · rw [if_pos ((nI_leI hb ha).mpr (by omega)), if_neg (fun q => by rcases q with q | q; exact h1 q; exact h3 q.2)]
    · rw [if_neg h2, if_neg (fun q => by rcases q with q | q; exact h1 q; exact h2 q.1)]
theorem jp_cff {a b : Nat} (ha : a < 2 ^ 31) (hb : b < 2 ^ 31) (f : Nat → Int32) (M : jl_Mem) : jf_X4_comesFirst (nI a) (f a) (nI b) (f b) M = some (if jc_f f a b = true then 1 else 0, M) := by
  rw [jp_cf ha hb]
  unfold jc_f
  by_cases h : f b < f a ∨ (f a = f b ∧ a < b)
  · rw [if_pos h, if_pos (decide_eq_true h)]
  · rw [if_neg h, if_neg (fun q => h (of_decide_eq_true q))]
theorem jp_rank {n t v : Nat} {X : jl_Mem} (hX : X 1 0 = nI n) (hn : n ≤ 20) (ht : t < 20) (hv : jx_len v = 20) : jf_X0_rankOf (nI t) v X = some (nI (jr_k (X v) n t), X) := by
  unfold jf_X0_rankOf
  rw [jl_lt_e, jl_lt_e]
  refine jl_loopE (fun i => (nI (jr_k (X v) i t), nI i, X)) _ n (by omega) (fun i hi => ?_) ?_
  · show jf_X0_rankOf_L5 (nI t) v (nI (jr_k (X v) i t)) (nI i) X = _
    unfold jf_X0_rankOf_L5
    rw [hX, if_neg (nI_ge hi (by omega)), hv, jl_inb_n (by omega) (by omega), jl_inb_n ht (by omega), jl_chk_t, jl_chk_t, nI_clamp (by omega), nI_clamp (by omega), jp_cff (by omega) (by omega), jl_bnd_s, jr_succ, nI_1]
    by_cases h : jc_f (X v) i t = true
    · rw [if_pos h, if_pos h, if_neg (by decide), jl_lt_e, jl_lt_e, nI_1]
    · rw [if_neg h, if_neg h, if_pos rfl, jl_lt_e]
      rfl
  · show jf_X0_rankOf_L5 (nI t) v (nI (jr_k (X v) n t)) (nI n) X = _
    unfold jf_X0_rankOf_L5
    rw [hX, if_pos (nI_le (Nat.le_refl _) (by omega)), jl_ex_s]
/-! what the rule makes of one number of each list: (the number so far, whether there was one) -/
def jt_st (ru : Int32) (w h : Nat → Int32) : Nat → Int32 × Int32
  | 0 => (0, 0)
  | l + 1 => if ru = 0 then ((jt_st ru w h l).1 + w l * h l, (jt_st ru w h l).2) else if w l ≤ 0 then jt_st ru w h l else if (jt_st ru w h l).2 = 0 then (h l, 1)
    else (if ru = 1 then (if h l < (jt_st ru w h l).1 then h l else (jt_st ru w h l).1) else (if (jt_st ru w h l).1 ≤ h l then h l else (jt_st ru w h l).1), 1)
def jt_tot (ru : Int32) (m : Nat) (w h : Nat → Int32) : Int32 := (jt_st ru w h m).1
theorem jt_st_cong {ru : Int32} {w w2 h h2 : Nat → Int32} : ∀ {m : Nat}, (∀ l, l < m → w l = w2 l ∧ h l = h2 l) → jt_st ru w h m = jt_st ru w2 h2 m
  | 0, _ => rfl
  | m + 1, q => by
    have ih := jt_st_cong (ru := ru) (m := m) (fun l hl => q l (by omega))
    obtain ⟨e1, e2⟩ := q m (by omega)
    unfold jt_st
    rw [ih, e1, e2]
theorem jt_cong {ru : Int32} {w w2 h h2 : Nat → Int32} {m : Nat} (q : ∀ l, l < m → w l = w2 l ∧ h l = h2 l) : jt_tot ru m w h = jt_tot ru m w2 h2 := by
  unfold jt_tot
  rw [jt_st_cong q]
theorem jt_any {ru : Int32} {w h : Nat → Int32} (hr : ¬ ru = 0) : ∀ m : Nat, (jt_st ru w h m).2 = 0 ∨ (jt_st ru w h m).2 = 1
  | 0 => Or.inl rfl
  | m + 1 => by
    unfold jt_st
    rw [if_neg hr]
    by_cases h1 : w m ≤ 0
    · rw [if_pos h1]
      exact jt_any hr m
    · rw [if_neg h1]
      by_cases h2 : (jt_st ru w h m).2 = 0
      · rw [if_pos h2]
        exact Or.inr rfl
      · rw [if_neg h2]
        exact Or.inr rfl
theorem jp_totH {m : Nat} {Y : jl_Mem} (h : Y 0 2 = nI m) (hm : m ≤ 4) : jf_X5_totalOfHand Y = some (jt_tot (Y 0 3) m (Y 1) (Y 7), Y) := by
  unfold jf_X5_totalOfHand
  rw [jl_lt_e, jl_lt_e, jl_lt_e]
  refine jl_loopE (fun i => ((jt_st (Y 0 3) (Y 1) (Y 7) i).1, (jt_st (Y 0 3) (Y 1) (Y 7) i).2, nI i, Y)) _ m (by omega) (fun i hi => ?_) ?_
  · show jf_X5_totalOfHand_L6 (jt_st (Y 0 3) (Y 1) (Y 7) i).1 (jt_st (Y 0 3) (Y 1) (Y 7) i).2 (nI i) Y = _
    unfold jf_X5_totalOfHand_L6
    rw [h, if_neg (nI_ge hi (by omega)), jl_inb_n (by omega) (by omega), nI_clamp (by omega), nI_1]
    simp only [jl_chk_t, jl_lt_e]
    rw [jt_st]
    by_cases h0 : Y 0 3 = 0
    · rw [if_pos h0, if_pos h0]
    · rw [if_neg h0, if_neg h0]
      by_cases h1 : Y 1 i ≤ 0
      · rw [if_pos h1, if_pos h1]
      · rw [if_neg h1, if_neg h1]
        by_cases h2 : (jt_st (Y 0 3) (Y 1) (Y 7) i).2 = 0
        · rw [if_pos h2, if_pos h2]
        · rw [if_neg h2, if_neg h2]
          by_cases h3 : (jt_st (Y 0 3) (Y 1) (Y 7) i).1 ≤ Y 7 i
          · rw [if_pos h3, if_pos h3, if_neg (Int32.not_lt.mpr h3)]
            by_cases h4 : Y 0 3 = 1
            · rw [if_pos h4, if_pos h4]
            · rw [if_neg h4, if_neg h4]
          · rw [if_neg h3, if_neg h3, if_pos (Int32.not_le.mp h3)]
            by_cases h4 : Y 0 3 = 1
            · rw [if_pos h4, if_pos h4]
            · rw [if_neg h4, if_neg h4]
  · show jf_X5_totalOfHand_L6 (jt_st (Y 0 3) (Y 1) (Y 7) m).1 (jt_st (Y 0 3) (Y 1) (Y 7) m).2 (nI m) Y = _
    unfold jf_X5_totalOfHand_L6
    rw [h, if_pos (nI_le (Nat.le_refl _) (by omega)), jl_ex_s]
    rfl
/-- what the class counts of each list: any, sum, least, greatest -/
def jt_c (w h : Nat → Int32) : Nat → Int32 × Int32 × Int32 × Int32
  | 0 => (0, 0, 0, 0)
  | l + 1 => if w l ≤ 0 then jt_c w h l else (1, (jt_c w h l).2.1 + w l * h l, (if (jt_c w h l).1 = 0 then h l else (if h l < (jt_c w h l).2.2.1 then h l else (jt_c w h l).2.2.1)), (if (jt_c w h l).2.2.2 < h l then h l else (jt_c w h l).2.2.2))
theorem jt_ceq {ru : Int32} {w h : Nat → Int32} : ∀ {m : Nat}, (∀ l, l < m → 0 ≤ w l ∧ 0 ≤ h l) →
    (ru = 0 → (jt_c w h m).2.1 = (jt_st ru w h m).1) ∧ (ru = 1 → (jt_c w h m).1 = (jt_st ru w h m).2 ∧ (jt_c w h m).2.2.1 = (jt_st ru w h m).1)
    ∧ (¬ ru = 0 → ¬ ru = 1 → (jt_c w h m).1 = (jt_st ru w h m).2 ∧ (jt_c w h m).2.2.2 = (jt_st ru w h m).1 ∧ ((jt_st ru w h m).2 = 0 → (jt_st ru w h m).1 = 0))
  | 0, _ => ⟨fun _ => rfl, fun _ => ⟨rfl, rfl⟩, fun _ _ => ⟨rfl, rfl, fun _ => rfl⟩⟩
  | m + 1, q => by
    obtain ⟨i1, i2, i3⟩ := jt_ceq (ru := ru) (m := m) (fun l hl => q l (by omega))
    obtain ⟨q1, q2⟩ := q m (by omega)
    refine ⟨fun r => ?_, fun r => ?_, fun r r2 => ?_⟩
    · unfold jt_c jt_st
      rw [if_pos r]
      by_cases h1 : w m ≤ 0
      · have e : w m = 0 := Int32.le_antisymm h1 q1
        rw [if_pos h1, i1 r, e, Int32.zero_mul, Int32.add_zero]
      · rw [if_neg h1, i1 r]
    · obtain ⟨a, b⟩ := i2 r
      have r0 : ¬ ru = 0 := by
        rw [r]
        decide
      unfold jt_c jt_st
      rw [if_neg r0]
      by_cases h1 : w m ≤ 0
      · rw [if_pos h1, if_pos h1]
        exact ⟨a, b⟩
      · rw [if_neg h1, if_neg h1, a, b]
        by_cases h2 : (jt_st ru w h m).2 = 0
        · rw [if_pos h2, if_pos h2]
          exact ⟨rfl, rfl⟩
        · rw [if_neg h2, if_neg h2, if_pos r]
          exact ⟨rfl, rfl⟩
    · obtain ⟨a, b, d⟩ := i3 r r2
      unfold jt_c jt_st
      rw [if_neg r]
      by_cases h1 : w m ≤ 0
      · rw [if_pos h1, if_pos h1]
        exact ⟨a, b, d⟩
      · rw [if_neg h1, if_neg h1, b]
        by_cases h2 : (jt_st ru w h m).2 = 0
        · rw [if_pos h2, d h2]
          refine ⟨rfl, ?_, fun x => absurd (show (1 : Int32) = 0 from x) (by decide)⟩
          show (if (0 : Int32) < h m then h m else 0) = h m
          by_cases h3 : 0 < h m
          · rw [if_pos h3]
          · rw [if_neg h3]
            exact Int32.le_antisymm q2 (Int32.not_lt.mp h3)
        · rw [if_neg h2, if_neg r2]
          refine ⟨rfl, ?_, fun x => absurd (show (1 : Int32) = 0 from x) (by decide)⟩
          show (if (jt_st ru w h m).1 < h m then h m else (jt_st ru w h m).1) = (if (jt_st ru w h m).1 ≤ h m then h m else (jt_st ru w h m).1)
          by_cases h3 : (jt_st ru w h m).1 < h m
          · rw [if_pos h3, if_pos (Int32.le_of_lt h3)]
          · rw [if_neg h3]
            by_cases h4 : (jt_st ru w h m).1 ≤ h m
            · rw [if_pos h4]
              exact Int32.le_antisymm h4 (Int32.not_lt.mp h3)
            · rw [if_neg h4]
theorem jp_comb {m v : Nat} {X : jl_Mem} (h : X 1 1 = nI m) (hm : m ≤ 4) (hv : jx_len v = 4) (hq : ∀ l, l < m → 0 ≤ X 2 l ∧ 0 ≤ X v l) : jf_X0_combined v X = some (jt_tot (X 1 3) m (X 2) (X v), X) := by
  unfold jf_X0_combined
  rw [jl_lt_e, jl_lt_e, jl_lt_e, jl_lt_e, jl_lt_e]
  refine jl_loopE (fun i => ((jt_c (X 2) (X v) i).1, (jt_c (X 2) (X v) i).2.1, (jt_c (X 2) (X v) i).2.2.1, (jt_c (X 2) (X v) i).2.2.2, nI i, X)) _ m (by omega) (fun i hi => ?_) ?_
  · show jf_X0_combined_L13 v (jt_c (X 2) (X v) i).1 (jt_c (X 2) (X v) i).2.1 (jt_c (X 2) (X v) i).2.2.1 (jt_c (X 2) (X v) i).2.2.2 (nI i) X = _
    unfold jf_X0_combined_L13
    rw [h, if_neg (nI_ge hi (by omega)), hv, jl_inb_n (by omega) (by omega), nI_clamp (by omega), nI_1]
    simp only [jl_chk_t, jl_lt_e]
    rw [jt_c]
    by_cases h1 : X 2 i ≤ 0
    · rw [if_pos h1, if_pos h1]
    · rw [if_neg h1, if_neg h1]
      by_cases h2 : (jt_c (X 2) (X v) i).1 = 0
      · rw [if_pos h2, if_pos h2]
      · rw [if_neg h2, if_neg h2]
  · show jf_X0_combined_L13 v (jt_c (X 2) (X v) m).1 (jt_c (X 2) (X v) m).2.1 (jt_c (X 2) (X v) m).2.2.1 (jt_c (X 2) (X v) m).2.2.2 (nI m) X = _
    unfold jf_X0_combined_L13
    rw [h, if_pos (nI_le (Nat.le_refl _) (by omega))]
    obtain ⟨i1, i2, i3⟩ := jt_ceq (ru := X 1 3) hq
    by_cases h0 : X 1 3 = 0
    · rw [if_pos h0, i1 h0]
      rfl
    · rw [if_neg h0]
      by_cases h1 : X 1 3 = 1
      · rw [if_pos h1, (i2 h1).2]
        rfl
      · rw [if_neg h1, (i3 h0 h1).2.1]
        rfl
