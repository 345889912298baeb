/-! pure 8: loops of both in step; questions to the reader -/
theorem jl_bis0 {S1 S2 R1 R2 : Type} {f : S1 → Option (S1 ⊕ R1)} {g : S2 → Option (S2 ⊕ R2)} (I : Nat → S1 → S2 → Prop) (P : R1 → R2 → Prop) (N : Nat)
    (hs : ∀ i s1 s2, i ≤ N → I i s1 s2 → (i < N ∧ ∃ a b, f s1 = some (.inl a) ∧ g s2 = some (.inl b) ∧ I (i + 1) a b) ∨ (∃ a b, f s1 = some (.inr a) ∧ g s2 = some (.inr b) ∧ P a b) ∨ (∃ c a b, f s1 = some (.inl c) ∧ f c = some (.inr a) ∧ g s2 = some (.inr b) ∧ P a b)) :
    ∀ (k i : Nat) (s1 : S1) (s2 : S2), I i s1 s2 → i ≤ N → N + 1 < i + k → ∃ a b, jl_wh f k s1 = some a ∧ jl_wh g k s2 = some b ∧ P a b := by
  intro k
  induction k with
  | zero =>
    intro i s1 s2 _ h1 h2
    omega
  | succ k ih =>
    intro i s1 s2 hI h1 h2
    rcases hs i s1 s2 h1 hI with ⟨h3, a, b, h4, h5, h6⟩ | ⟨a, b, h4, h5, h6⟩ | ⟨c, a, b, h4, h5, h6, h7⟩
    · obtain ⟨a2, b2, g1, g2, g3⟩ := ih (i + 1) a b h6 (by omega) (by omega)
      refine ⟨a2, b2, ?_, ?_, g3⟩
      · simp only [jl_wh, h4]
        exact g1
      · simp only [jl_wh, h5]
        exact g2
    · refine ⟨a, b, ?_, ?_, h6⟩
      · simp only [jl_wh, h4]
      · simp only [jl_wh, h5]
    · cases k with
      | zero => omega
      | succ k =>
        refine ⟨a, b, ?_, ?_, h7⟩
        · simp only [jl_wh, h4, h5]
        · simp only [jl_wh, h6]
theorem jl_bis {S1 S2 R1 R2 : Type} {f : S1 → Option (S1 ⊕ R1)} {g : S2 → Option (S2 ⊕ R2)} (I : Nat → S1 → S2 → Prop) (P : R1 → R2 → Prop) (N : Nat) (hN : N < 900) {s1 : S1} {s2 : S2} (h0 : I 0 s1 s2)
    (hs : ∀ i s1 s2, i ≤ N → I i s1 s2 → (i < N ∧ ∃ a b, f s1 = some (.inl a) ∧ g s2 = some (.inl b) ∧ I (i + 1) a b) ∨ (∃ a b, f s1 = some (.inr a) ∧ g s2 = some (.inr b) ∧ P a b) ∨ (∃ c a b, f s1 = some (.inl c) ∧ f c = some (.inr a) ∧ g s2 = some (.inr b) ∧ P a b)) :
    ∃ a b, jl_wh f jl_F s1 = some a ∧ jl_wh g jl_F s2 = some b ∧ P a b := jl_bis0 I P N hs jl_F 0 s1 s2 h0 (Nat.zero_le _) (by show N + 1 < 0 + 1000; omega)
theorem jp_countY {m : Nat} {Y : jl_Mem} (h : Y 0 2 = nI m) (hm : m ≤ 4) : jl_wh (fun q => jf_X5_count_L48 q.1 q.2.1 q.2.2) jl_F ((0 : Int32), (0 : Int32), Y) = some (jq_sum (Y 6) m, Y) := by
  refine jl_loopE (fun i => (jq_sum (Y 6) i, nI i, Y)) _ m (by omega) (fun i hi => ?_) ?_
  · show jf_X5_count_L48 (jq_sum (Y 6) i) (nI i) Y = _
    unfold jf_X5_count_L48
    rw [h, if_neg (nI_ge hi (by omega)), jl_inb_n (by omega) (by omega), jl_chk_t, jl_lt_e, jl_lt_e, nI_clamp (by omega), nI_1]
    rfl
  · show jf_X5_count_L48 (jq_sum (Y 6) m) (nI m) Y = _
    unfold jf_X5_count_L48
    rw [h, if_pos (nI_le (Nat.le_refl _) (by omega)), jl_ex_s]
theorem jk_count {n m : Nat} {X Y : jl_Mem} (h : jr_A n m X Y) (a : Int32) : jr_ok (jf_X4_count a X) (jf_X5_count a Y) := by
  obtain ⟨hI, hB, hZ, -, -, hH⟩ := id h
  have hm := hI.1.2.1
  unfold jf_X4_count jf_X5_count
  rw [jl_lt_e, jl_lt_e, jp_countY hB.2.1 hm, jq_sum_cong (fun l hl => hB.2.2.2.2.1 l hl), ← hZ.2.2.2.2, hB.1, hB.2.1, hB.2.2.1, hI.1.2.2.1, hI.1.2.2.2, hH.1]
  by_cases c0 : a = 0
  · rw [if_pos c0, if_pos c0]
    exact h.id rfl rfl
  · rw [if_neg c0, if_neg c0]
    by_cases c1 : a = 1
    · rw [if_pos c1, if_pos c1]
      exact h.id rfl rfl
    · rw [if_neg c1, if_neg c1]
      by_cases c2 : a = 2
      · rw [if_pos c2, if_pos c2]
        exact h.id rfl rfl
      · rw [if_neg c2, if_neg c2]
        by_cases c3 : a = 3
        · rw [if_pos c3, if_pos c3]
          exact h.id rfl rfl
        · rw [if_neg c3, if_neg c3]
          by_cases c4 : a = 4
          · rw [if_pos c4, if_pos c4]
            rcases jl_isB_o hH.2.1 with e | e
            · rw [e, jp_yes0, jl_bnd_s, jq_00]
              exact h.id rfl rfl
            · rw [e, jp_yes1, jl_bnd_s, jq_10]
              exact h.id rfl rfl
          · rw [if_neg c4, if_neg c4]
            exact h.id rfl rfl
theorem jx_to_c {m t : Nat} {X X2 : jl_Mem} (hm : m ≤ 4) (hx : ∀ k, k < 21 → X2 k = X k) : jx_to X2 m t = jx_to X m t := by
  unfold jx_to
  rw [hx 1 (by omega), hx 2 (by omega)]
  exact jt_cong (fun l hl => ⟨rfl, by rw [hx (7 + l) (by omega)]⟩)
theorem jp_bestAt {n m i : Nat} {X : jl_Mem} (hI : jx_I n m X) {u : Nat} (hu : u < n) (hi : jr_k (jx_to X m) n u = i) : ∃ X2, jf_X0_bestAt (nI i) X = some (nI u, X2) ∧ ∀ k, k ≠ 21 → k ≠ 22 → X2 k = X k := by
  have hn := hI.1.1
  have hm := hI.1.2.1
  unfold jf_X0_bestAt
  rw [jl_lt_e]
  obtain ⟨r, h1, X2, h2, h3⟩ := jl_loopF (f := fun q => jf_X0_bestAt_L2 (nI i) q.1 q.2)
    (fun j s => s.1 = nI j ∧ (∀ k, k ≠ 21 → k ≠ 22 → s.2 k = X k) ∧ ∀ t, t < j → s.2 22 t = jx_to X m t)
    (fun r => ∃ X2, r = (nI u, X2) ∧ ∀ k, k ≠ 21 → k ≠ 22 → X2 k = X k) n (by omega) (s0 := ((0 : Int32), X)) ⟨rfl, fun _ _ _ => rfl, fun t ht => absurd ht (Nat.not_lt_zero t)⟩ (by
    rintro j ⟨x, z⟩ hj ⟨e1, hz, hzt⟩
    dsimp only at e1 hz hzt
    subst e1
    show (j < n ∧ ∃ s2, jf_X0_bestAt_L2 (nI i) (nI j) z = some (.inl s2) ∧ _) ∨ ∃ r, jf_X0_bestAt_L2 (nI i) (nI j) z = some (.inr r) ∧ _
    unfold jf_X0_bestAt_L2
    have hg : jx_sg 24 X z := fun k hk => hz k (by omega) (by omega)
    rw [hz 1 (by omega) (by omega), hI.1.2.2.1]
    rcases Nat.lt_or_ge j n with q | q
    · refine Or.inl ⟨q, ?_⟩
      obtain ⟨f, hf⟩ := jp_totalOf (hg.I hI) q
      rw [if_neg (nI_ge q (by omega)), hf, jl_bnd_s, jl_inb_n (by omega) (by omega), jl_chk_t, jl_lt_e, jl_lt_e, nI_clamp (by omega), nI_1, jx_to_c hm (fun k hk => hz k (by omega) (by omega))]
      refine ⟨_, rfl, rfl, fun k k1 k2 => ?_, fun t ht => ?_⟩
      · show jl_st (jl_sa z 21 f) 22 j (jx_to X m j) k = _
        rw [jl_st_ne _ _ _ k2, jl_sa_ne _ _ k1]
        exact hz k k1 k2
      · show jl_st (jl_sa z 21 f) 22 j (jx_to X m j) 22 t = _
        rw [jl_st_cell, jl_sa_ne _ _ (by decide)]
        unfold upd
        by_cases e : t = j
        · rw [if_pos e, e]
        · rw [if_neg e]
          exact hzt t (by omega)
    · have ej : j = n := by omega
      subst ej
      refine Or.inr ⟨(nI u, z), ?_, z, rfl, hz⟩
      have hrk : ∀ t, t < j → jf_X0_rankOf (nI t) 22 z = some (nI (jr_k (jx_to X m) j t), z) := fun t ht => by
        rw [jp_rank (n := j) (by rw [hz 1 (by omega) (by omega)]; exact hI.1.2.2.1) hn (by omega) rfl, jr_cong hzt (hzt t ht)]
      have hw : jl_wh (fun q => jf_X0_bestAt_L29 (nI i) q.1 q.2) jl_F ((0 : Int32), z) = some (nI u, z) := by
        refine jl_loopE (fun t => (nI t, z)) _ u (by omega) (fun t ht => ?_) ?_
        · show jf_X0_bestAt_L29 (nI i) (nI t) z = _
          unfold jf_X0_bestAt_L29
          have hne : jr_k (jx_to X m) j t ≠ i := fun x => by
            have := jr_inj (by omega) hu (x.trans hi.symm)
            omega
          have hle := jr_le (jx_to X m) j t
          have hle2 := jr_le (jx_to X m) j u
          rw [hz 1 (by omega) (by omega), hI.1.2.2.1, if_neg (nI_ge (by omega) (by omega)), hrk t (by omega), jl_bnd_s, if_neg (fun x => hne ((nI_eq (by omega) (by omega)).mp x)), jl_lt_e, nI_1]
        · show jf_X0_bestAt_L29 (nI i) (nI u) z = _
          unfold jf_X0_bestAt_L29
          rw [hz 1 (by omega) (by omega), hI.1.2.2.1, if_neg (nI_ge hu (by omega)), hrk u hu, jl_bnd_s, hi, if_pos rfl, jl_ex_s]
      rw [if_pos (nI_le (Nat.le_refl _) (by omega)), jl_lt_e, hw, jl_ex_s])
  exact ⟨X2, by rw [h1, h2], h3⟩
theorem jp_bestY {n m i : Nat} {X Y : jl_Mem} (hI : jx_I n m X) (hB : jr_B n m X Y) {u : Nat} (hu : u < n) (hi : jr_k (jx_to X m) n u = i) : ∃ Y2, jl_wh (fun q => jf_X5_best_L12 (nI i) q.1 q.2) jl_F ((0 : Int32), Y) = some (nI u, Y2) ∧ ∀ k, k ≠ 7 → Y2 k = Y k := by
  have hn := hI.1.1
  have hm := hI.1.2.1
  have hle2 := jr_le (jx_to X m) n u
  have hBz : ∀ z : jl_Mem, (∀ k, k ≠ 7 → z k = Y k) → jr_B n m X z := fun z hz => hB.cy (fun k hk => hz k (by omega))
  obtain ⟨r, h1, Y2, h2, h3⟩ := jl_loopF (f := fun q => jf_X5_best_L12 (nI i) q.1 q.2)
    (fun j s => s.1 = nI j ∧ ∀ k, k ≠ 7 → s.2 k = Y k)
    (fun r => ∃ Y2, r = (nI u, Y2) ∧ ∀ k, k ≠ 7 → Y2 k = Y k) u (by omega) (s0 := ((0 : Int32), Y)) ⟨rfl, fun _ _ => rfl⟩ (by
    rintro j ⟨x, z⟩ hj ⟨e1, hz⟩
    dsimp only at e1 hz
    subst e1
    show (j < u ∧ ∃ s2, jf_X5_best_L12 (nI i) (nI j) z = some (.inl s2) ∧ _) ∨ ∃ r, jf_X5_best_L12 (nI i) (nI j) z = some (.inr r) ∧ _
    unfold jf_X5_best_L12
    rw [(hBz z hz).1, if_neg (nI_ge (by omega) (by omega)), jl_lt_e, jl_lt_e]
    have hle := jr_le (jx_to X m) n j
    obtain ⟨r, g1, z2, g2, g3⟩ := jl_loopF (f := fun q => jf_X5_best_L25 (nI i) (nI j) q.1 q.2.1 q.2.2)
      (fun o s => s.1 = nI (jr_k (jx_to X m) o j) ∧ s.2.1 = nI o ∧ ∀ k, k ≠ 7 → s.2.2 k = Y k)
      (fun r => ∃ z2 : jl_Mem, (∀ k, k ≠ 7 → z2 k = Y k) ∧ r = (if nI (jr_k (jx_to X m) n j) = nI i then .inr (nI j, z2) else .inl (nI (j + 1), z2))) n (by omega) (s0 := ((0 : Int32), (0 : Int32), z)) ⟨rfl, rfl, hz⟩ (by
      rintro o ⟨a, b, y⟩ ho ⟨e1, e2, hy⟩
      dsimp only at e1 e2 hy
      subst e1
      subst e2
      show (o < n ∧ ∃ s2, jf_X5_best_L25 (nI i) (nI j) (nI (jr_k (jx_to X m) o j)) (nI o) y = some (.inl s2) ∧ _) ∨ ∃ r, jf_X5_best_L25 (nI i) (nI j) (nI (jr_k (jx_to X m) o j)) (nI o) y = some (.inr r) ∧ _
      unfold jf_X5_best_L25
      rw [(hBz y hy).1]
      rcases Nat.lt_or_ge o n with q | q
      · refine Or.inl ⟨q, ?_⟩
        have st : ∀ (z3 : jl_Mem) (f : Nat → Int32), (∀ k, k ≠ 7 → z3 k = Y k) → ∀ k, k ≠ 7 → jl_sa z3 7 f k = Y k := fun z3 f h k hk => by rw [jl_sa_ne _ _ hk]; exact h k hk
        obtain ⟨f1, k1⟩ := jp_totalOfY (t := o) hI (hBz y hy) q
        have y1 := st y f1 hy
        generalize jl_sa y 7 f1 = z3 at k1 y1
        obtain ⟨f2, k2⟩ := jp_totalOfY (t := j) hI (hBz z3 y1) (by omega)
        have y2 := st z3 f2 y1
        generalize jl_sa z3 7 f2 = z4 at k2 y2
        obtain ⟨f3, k3⟩ := jp_totalOfY (t := o) hI (hBz z4 y2) q
        have y3 := st z4 f3 y2
        generalize jl_sa z4 7 f3 = z5 at k3 y3
        obtain ⟨f4, k4⟩ := jp_totalOfY (t := j) hI (hBz z5 y3) (by omega)
        have y4 := st z5 f4 y3
        generalize jl_sa z5 7 f4 = z6 at k4 y4
        rw [if_neg (nI_ge q (by omega)), k1, jl_bnd_s, k2, jl_bnd_s, k3, jl_bnd_s, k4, jl_bnd_s]
        simp only [jl_lt_e]
        rw [nI_1, nI_1, Int32.add_zero]
        by_cases c1 : jx_to X m j < jx_to X m o
        · rw [if_pos c1]
          refine ⟨_, rfl, ?_, rfl, y2⟩
          show nI (jr_k (jx_to X m) o j + 1) = _
          rw [jr_succ, if_pos (by rw [jc_iff]; rw [jn_lt] at c1; omega)]
        · rw [if_neg c1]
          by_cases c2 : jx_to X m o = jx_to X m j
          · rw [if_pos c2]
            by_cases c3 : j ≤ o
            · rw [if_pos ((nI_leI (by omega) (by omega)).mpr c3)]
              refine ⟨_, rfl, ?_, rfl, y4⟩
              show nI (jr_k (jx_to X m) o j) = _
              rw [jr_succ, if_neg (by rw [jc_iff]; rw [jn_lt] at c1; rw [jn_eq] at c2; omega), Nat.add_zero]
            · rw [if_neg (fun x => c3 ((nI_leI (by omega) (by omega)).mp x))]
              refine ⟨_, rfl, ?_, rfl, y4⟩
              show nI (jr_k (jx_to X m) o j + 1) = _
              rw [jr_succ, if_pos (by rw [jc_iff]; rw [jn_eq] at c2; omega)]
          · rw [if_neg c2]
            refine ⟨_, rfl, ?_, rfl, y4⟩
            show nI (jr_k (jx_to X m) o j) = _
            rw [jr_succ, if_neg (by rw [jc_iff]; rw [jn_lt] at c1; rw [jn_eq] at c2; omega), Nat.add_zero]
      · have eo : o = n := by omega
        subst eo
        refine Or.inr ?_
        rw [if_pos (nI_le (Nat.le_refl _) (by omega)), jl_lt_e, nI_1]
        by_cases c : nI (jr_k (jx_to X m) o j) = nI i
        · rw [if_pos c, jl_ex_s, jl_ex_s]
          exact ⟨_, rfl, y, hy, by rw [if_pos c]⟩
        · rw [if_neg c, jl_ex_s]
          exact ⟨_, rfl, y, hy, by rw [if_neg c]⟩)
    rcases Nat.lt_or_ge j u with q | q
    · have hne : ¬ nI (jr_k (jx_to X m) n j) = nI i := fun x => by
        have := jr_inj (by omega) hu (((nI_eq (by omega) (by omega)).mp x).trans hi.symm)
        omega
      rw [if_neg hne] at g3
      exact Or.inl ⟨q, _, by rw [g1, g3], rfl, g2⟩
    · have ej : j = u := by omega
      subst ej
      rw [hi, if_pos rfl] at g3
      exact Or.inr ⟨_, by rw [g1, g3], z2, rfl, g2⟩)
  exact ⟨Y2, by rw [h1, h2], h3⟩
theorem jk_best {n m : Nat} {X Y : jl_Mem} (h : jr_A n m X Y) (a : Int32) : jr_ok (jf_X4_best a X) (jf_X5_best a Y) := by
  obtain ⟨hI, hB, -⟩ := id h
  have hm := hI.1.2.1
  have hn := hI.1.1
  unfold jf_X4_best jf_X5_best
  by_cases ht : ∃ t, t < n ∧ a = nI t
  · obtain ⟨i, hi, rfl⟩ := ht
    obtain ⟨u, hu, hr⟩ := jr_onto (f := jx_to X m) hi
    obtain ⟨X2, f1, f2⟩ := jp_bestAt hI hu hr
    obtain ⟨Y2, g1, g2⟩ := jp_bestY hI hB hu hr
    rw [jp_hT_y hI.1.2.2.1 hn hi, jp_iT_y hB.1 hn hi, jl_bnd_s, jl_bnd_s, jq_10, jq_10, f1, jl_bnd_s, jl_lt_e, g1]
    exact h.ok rfl rfl (fun k h1 h2 _ _ _ _ _ _ => f2 k h1 h2) (fun k h1 _ _ _ _ _ => g2 k h1) (g2 10 (by decide))
  · rw [jp_hT_n hI.1.2.2.1 hn ht, jp_iT_n hB.1 hn ht, jl_bnd_s, jl_bnd_s, jq_00, jq_00]
    exact h.id rfl rfl
def jx_sn (X : jl_Mem) (ts t : Nat) : Nat → Bool
  | 0 => false
  | m + 1 => jx_sn X ts t m || jx_se X ts m t
theorem jx_sn_iff {X : jl_Mem} {ts t : Nat} : ∀ {m : Nat}, jx_sn X ts t m = true ↔ ∃ l, l < m ∧ jx_se X ts l t = true
  | 0 => ⟨fun h => absurd h (by unfold jx_sn; decide), fun ⟨l, h, _⟩ => absurd h (Nat.not_lt_zero l)⟩
  | m + 1 => by
    unfold jx_sn
    rw [Bool.or_eq_true, jx_sn_iff (m := m)]
    constructor
    · rintro (⟨l, h1, h2⟩ | h)
      · exact ⟨l, by omega, h2⟩
      · exact ⟨m, by omega, h⟩
    · rintro ⟨l, h1, h2⟩
      by_cases e : l = m
      · subst e
        exact Or.inr h2
      · exact Or.inl ⟨l, by omega, h2⟩
theorem jp_isSeen {n m ts t : Nat} {X : jl_Mem} (hI : jx_I n m X) (ht : t < n) : jf_X2_isSeen ts (nI t) X = some (jq_i (jx_sn X ts t m), X) := by
  have hn := hI.1.1
  have hm := hI.1.2.1
  unfold jf_X2_isSeen
  rw [jl_lt_e]
  obtain ⟨r, h1, h2⟩ := jl_loopF (f := fun q => jf_X2_isSeen_L2 ts (nI t) q.1 q.2) (fun i s => s = (nI i, X) ∧ jx_sn X ts t i = false) (fun r => r = (jq_i (jx_sn X ts t m), X)) m (by omega) (s0 := ((0 : Int32), X)) ⟨rfl, rfl⟩ (by
    rintro i s hi ⟨e, hs⟩
    subst e
    show (i < m ∧ ∃ s2, jf_X2_isSeen_L2 ts (nI t) (nI i) X = some (.inl s2) ∧ _) ∨ ∃ r, jf_X2_isSeen_L2 ts (nI t) (nI i) X = some (.inr r) ∧ _
    unfold jf_X2_isSeen_L2
    rw [hI.1.2.2.2]
    rcases Nat.lt_or_ge i m with q | q
    · rw [if_neg (nI_ge q (by omega)), jp_atSeen (by omega) (by omega), jl_bnd_s, jq_if, jl_lt_e, nI_1, jl_ex_s]
      cases c : jx_se X ts i t with
      | true =>
        rw [if_pos rfl]
        refine Or.inr ⟨_, rfl, ?_⟩
        rw [jx_sn_iff.mpr ⟨i, q, c⟩]
        rfl
      | false =>
        refine Or.inl ⟨q, _, rfl, rfl, ?_⟩
        unfold jx_sn
        rw [hs, c]
        rfl
    · have ei : i = m := by omega
      subst ei
      rw [if_pos (nI_le (Nat.le_refl _) (by omega)), jl_ex_s]
      exact Or.inr ⟨_, rfl, by rw [hs]; rfl⟩)
  rw [h1, h2]
theorem jp_isSeenY {n m ts t : Nat} {X Y : jl_Mem} (hI : jx_I n m X) (hB : jr_B n m X Y) (hS : jr_S n m X ts Y) (ht : t < n) : jf_X5_isSeen (nI t) Y = some (jq_i (jx_sn X ts t m), Y) := by
  have hn := hI.1.1
  have hm := hI.1.2.1
  unfold jf_X5_isSeen
  rw [jl_lt_e]
  obtain ⟨r, h1, h2⟩ := jl_loopF (f := fun q => jf_X5_isSeen_L2 (nI t) q.1 q.2) (fun i s => s = (nI i, Y) ∧ jx_sn X ts t i = false) (fun r => r = (jq_i (jx_sn X ts t m), Y)) m (by omega) (s0 := ((0 : Int32), Y)) ⟨rfl, rfl⟩ (by
    rintro i s hi ⟨e, hs⟩
    subst e
    show (i < m ∧ ∃ s2, jf_X5_isSeen_L2 (nI t) (nI i) Y = some (.inl s2) ∧ _) ∨ ∃ r, jf_X5_isSeen_L2 (nI t) (nI i) Y = some (.inr r) ∧ _
    unfold jf_X5_isSeen_L2
    rw [hB.2.1]
    rcases Nat.lt_or_ge i m with q | q
    · have hmk := hI.2.2.1 i t (by omega) (by omega)
      rw [if_neg (nI_ge q (by omega)), jn_ix, jl_inb_n (by omega) (by omega), jl_chk_t, nI_clamp (by omega), hB.2.2.2.2.2.1 i t (by omega) (by omega), jl_lt_e, nI_1]
      by_cases h3 : X (7 + i) t = 0
      · rw [if_pos (by rw [h3]; decide)]
        refine Or.inl ⟨q, _, rfl, rfl, ?_⟩
        unfold jx_sn jx_se
        rw [hs, decide_eq_false (fun x => x h3)]
        rfl
      · have h3' : ¬ X (7 + i) t ≤ 0 := fun x => h3 (Int32.le_antisymm x hmk)
        rw [if_neg h3', jp_placeOf hI hB q ht h3, jl_bnd_s, jl_inb_n (by omega) (by omega), jl_chk_t, nI_clamp (by omega), hS.1 i q, jl_lt_e, jl_ex_s]
        by_cases h4 : X (ts + 1) i ≤ X (17 + i) t
        · rw [if_pos h4]
          refine Or.inl ⟨q, _, rfl, rfl, ?_⟩
          unfold jx_sn jx_se
          rw [hs, decide_eq_false (Int32.not_lt.mpr h4), Bool.and_false]
          rfl
        · rw [if_neg h4]
          refine Or.inr ⟨_, rfl, ?_⟩
          rw [jx_sn_iff.mpr ⟨i, q, by unfold jx_se; rw [decide_eq_true h3, decide_eq_true (Int32.not_le.mp h4)]; rfl⟩]
          rfl
    · have ei : i = m := by omega
      subst ei
      rw [if_pos (nI_le (Nat.le_refl _) (by omega)), jl_ex_s]
      exact Or.inr ⟨_, rfl, by rw [hs]; rfl⟩)
  rw [h1, h2]
theorem jp_placesSeen {n m ts : Nat} {X : jl_Mem} (hI : jx_I n m X) : jf_X2_placesSeen ts X = some (jq_sum (X (ts + 1)) m, X) := by
  have hm := hI.1.2.1
  unfold jf_X2_placesSeen
  rw [jl_lt_e, jl_lt_e]
  refine jl_loopE (fun i => (jq_sum (X (ts + 1)) i, nI i, X)) _ m (by omega) (fun i hi => ?_) ?_
  · show jf_X2_placesSeen_L4 ts (jq_sum (X (ts + 1)) i) (nI i) X = _
    unfold jf_X2_placesSeen_L4
    rw [hI.1.2.2.2, if_neg (nI_ge hi (by omega)), jl_inb_n (by omega) (by omega), jl_chk_t, jl_lt_e, jl_lt_e, nI_clamp (by omega), nI_1]
    rfl
  · show jf_X2_placesSeen_L4 ts (jq_sum (X (ts + 1)) m) (nI m) X = _
    unfold jf_X2_placesSeen_L4
    rw [hI.1.2.2.2, if_pos (nI_le (Nat.le_refl _) (by omega)), jl_ex_s]
theorem jp_thingsSeen {n m ts : Nat} {X : jl_Mem} (hI : jx_I n m X) : jf_X2_thingsSeen ts X = some (jq_sum (fun t => jq_i (jx_sn X ts t m)) n, X) := by
  have hn := hI.1.1
  unfold jf_X2_thingsSeen
  rw [jl_lt_e, jl_lt_e]
  refine jl_loopE (fun i => (jq_sum (fun t => jq_i (jx_sn X ts t m)) i, nI i, X)) _ n (by omega) (fun i hi => ?_) ?_
  · show jf_X2_thingsSeen_L4 ts (jq_sum (fun t => jq_i (jx_sn X ts t m)) i) (nI i) X = _
    unfold jf_X2_thingsSeen_L4
    rw [hI.1.2.2.1, if_neg (nI_ge hi (by omega)), jp_isSeen hI hi, jl_bnd_s, jq_yes, jl_bnd_s, jl_lt_e, jl_lt_e, nI_1]
    rfl
  · show jf_X2_thingsSeen_L4 ts (jq_sum (fun t => jq_i (jx_sn X ts t m)) n) (nI n) X = _
    unfold jf_X2_thingsSeen_L4
    rw [hI.1.2.2.1, if_pos (nI_le (Nat.le_refl _) (by omega)), jl_ex_s]
theorem jp_seenY {n m ts : Nat} {X Y : jl_Mem} (hI : jx_I n m X) (hB : jr_B n m X Y) (hS : jr_S n m X ts Y) (hl : ∀ l t, l < m → t < n → jq_bit (X (ts + 2) l) t = true → ∃ l2, l2 < m ∧ jx_se X ts l2 t = true) :
    jl_wh (fun q => jf_X5_reader_L105 q.1 q.2.1 q.2.2) jl_F ((0 : Int32), (0 : Int32), Y) = some (jq_sum (fun t => jq_i (jx_sn X ts t m)) n, Y) := by
  have hn := hI.1.1
  have hm := hI.1.2.1
  refine jl_loopE (fun i => (jq_sum (fun t => jq_i (jx_sn X ts t m)) i, nI i, Y)) _ n (by omega) (fun i hi => ?_) ?_
  · show jf_X5_reader_L105 (jq_sum (fun t => jq_i (jx_sn X ts t m)) i) (nI i) Y = _
    unfold jf_X5_reader_L105
    rw [hB.1, if_neg (nI_ge hi (by omega)), jp_isSeenY hI hB hS hi, jl_bnd_s, jl_lt_e, jl_lt_e]
    refine jl_loopE (fun l => (jq_i (jx_sn X ts i m), nI l, Y)) _ m (by omega) (fun l hlm => ?_) ?_
    · show jf_X5_reader_L123 (jq_sum (fun t => jq_i (jx_sn X ts t m)) i) (nI i) (jq_i (jx_sn X ts i m)) (nI l) Y = _
      unfold jf_X5_reader_L123
      rw [hB.2.1, if_neg (nI_ge hlm (by omega)), jq_if, jn_ix, jl_inb_n (by omega) (by omega), jl_chk_t, nI_clamp (by omega)]
      simp only [jl_lt_e]
      rw [nI_1]
      cases c : jx_sn X ts i m with
      | true => rfl
      | false =>
        have hz : Y 9 (20 * l + i) = 0 := by
          rw [hS.2 l i hlm hi]
          cases d : jq_bit (X (ts + 2) l) i with
          | false => rfl
          | true =>
            rw [jx_sn_iff.mpr (hl l i hlm hi d)] at c
            exact absurd c (by decide)
        simp only [Bool.false_eq_true, if_false]
        rw [if_pos hz]
        rfl
    · show jf_X5_reader_L123 (jq_sum (fun t => jq_i (jx_sn X ts t m)) i) (nI i) (jq_i (jx_sn X ts i m)) (nI m) Y = _
      unfold jf_X5_reader_L123
      rw [hB.2.1, if_pos (nI_le (Nat.le_refl _) (by omega)), jq_if]
      simp only [jl_lt_e]
      rw [nI_1]
      show _ = some (Sum.inr (Sum.inl (jq_sum (fun t => jq_i (jx_sn X ts t m)) i + jq_i (jx_sn X ts i m), nI (i + 1), Y)))
      cases jx_sn X ts i m with
      | true => rfl
      | false => rfl
  · show jf_X5_reader_L105 (jq_sum (fun t => jq_i (jx_sn X ts t m)) n) (nI n) Y = _
    unfold jf_X5_reader_L105
    rw [hB.1, if_pos (nI_le (Nat.le_refl _) (by omega)), jl_ex_s]
theorem jr_H.no {n m : Nat} {X Y : jl_Mem} (h : jr_H n m X Y) (h0 : ¬ X 23 2 = 0) : jr_R n m X Y ∧ X 23 2 = 1 := by
  rcases jl_isB_o h.2.1 with e | e
  · exact absurd e h0
  · exact ⟨h.2.2 e, e⟩
theorem jk_reader {n m : Nat} {X Y : jl_Mem} (h : jr_A n m X Y) (a : Int32) : jr_ok (jf_X4_reader a X) (jf_X5_reader a Y) := by
  obtain ⟨hI, hB, hZ, -, -, hH⟩ := id h
  unfold jf_X4_reader jf_X5_reader
  rw [hH.1]
  by_cases h0 : X 23 2 = 0
  · rw [if_pos h0, if_pos h0]
    exact h.id rfl rfl
  · obtain ⟨⟨-, r2, ⟨e1, e2, e3, e4, e5, e6, e7⟩, ⟨k, -, -, -, b, hb, -⟩, r5, -, r7, -⟩, -⟩ := hH.no h0
    rw [if_neg h0, if_neg h0, jl_lt_e, jl_lt_e, jp_seenY hI hB r2 r7, jp_placesSeen hI, jp_thingsSeen hI, jl_bnd_s, jl_bnd_s, e1, e2, e3, e5, e6, e7, r5, hb, jq_yes, jl_bnd_s, jq_if]
    by_cases c0 : a = 0
    · rw [if_pos c0, if_pos c0]
      exact h.id rfl rfl
    · rw [if_neg c0, if_neg c0]
      by_cases c1 : a = 1
      · rw [if_pos c1, if_pos c1]
        exact h.id rfl rfl
      · rw [if_neg c1, if_neg c1]
        by_cases c2 : a = 2
        · rw [if_pos c2, if_pos c2]
          exact h.id rfl rfl
        · rw [if_neg c2, if_neg c2]
          by_cases c3 : a = 3
          · rw [if_pos c3, if_pos c3]
            exact h.id rfl rfl
          · rw [if_neg c3, if_neg c3]
            by_cases c4 : a = 4
            · rw [if_pos c4, if_pos c4]
              exact h.id rfl rfl
            · rw [if_neg c4, if_neg c4]
              by_cases c5 : a = 5
              · rw [if_pos c5, if_pos c5]
                exact h.id rfl rfl
              · rw [if_neg c5, if_neg c5]
                by_cases c6 : a = 6
                · rw [if_pos c6, if_pos c6]
                  cases b <;> exact h.id rfl rfl
                · rw [if_neg c6, if_neg c6]
                  by_cases c7 : a = 7
                  · rw [if_pos c7, if_pos c7]
                    exact h.id rfl rfl
                  · rw [if_neg c7, if_neg c7]
                    exact h.id rfl rfl
