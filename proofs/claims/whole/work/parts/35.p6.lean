/-! pure 6: rows, by ranks in the class, by insertion in the reference -/
theorem jr_mk_lt {g : Nat → Int32} {n o : Nat} (hg : ∀ t, t < n → 0 ≤ g t) (ho : o < n) (hm : ¬ g o = 0) : jr_k g n o < fb_ct (fun t => decide (¬ g t = 0)) n := by
  unfold jr_k
  refine jr_ct_lt (fun k hk h => ?_) ⟨o, ho, decide_eq_true hm, jc_ir g o⟩
  apply decide_eq_true
  intro e
  rw [jc_iff, e] at h
  have h0 := hg o ho
  rw [jn_le] at h0
  have hne : (g o).toInt ≠ (0 : Int32).toInt := fun q => hm (jn_eq.mpr q)
  omega
theorem jr_ins {g : Nat → Int32} {t o : Nat} (ho : o < t) : jc_f g o t = true ↔ jr_k g t o < jr_k g t t := by
  refine ⟨fun h => jr_mono ho h, fun h => ?_⟩
  rcases jc_tot g (show o ≠ t by omega) with q | q
  · exact q
  · have : jr_k g t t ≤ jr_k g t o := by
      unfold jr_k
      exact fb_ct_sub (fun k _ hk => jc_tr hk q)
    omega
/-- the row while room is made for t: from place k on one further -/
def jr_sh (l k L : Nat) (f : Nat → Int32) : Nat → Int32 := fun q => if 20 * l + k < q ∧ q ≤ 20 * l + L then f (q - 1) else f q
theorem jr_sh_L (l L : Nat) (f : Nat → Int32) : jr_sh l L L f = f := by
  funext q
  unfold jr_sh
  rw [if_neg (by omega)]
theorem jr_sh_s {l k L : Nat} (h : k < L) (f : Nat → Int32) : upd (jr_sh l (k + 1) L f) (20 * l + (k + 1)) (f (20 * l + k)) = jr_sh l k L f := by
  funext q
  unfold upd jr_sh
  by_cases e : q = 20 * l + (k + 1)
  · rw [if_pos e, if_pos (by omega), e]
    rfl
  · rw [if_neg e]
    by_cases e2 : 20 * l + (k + 1) < q ∧ q ≤ 20 * l + L
    · rw [if_pos e2, if_pos (by omega)]
    · rw [if_neg e2, if_neg (by omega)]
theorem jp_ins {n l t L : Nat} {Y : jl_Mem} {g : Nat → Int32} (hl : l < 4) (ht : t < 20) (hL : L ≤ t) (eg : ∀ o, o ≤ t → Y 4 (20 * l + o) = g o) (h6 : Y 6 l = nI L) (hr : ∀ p, p < L → ∃ o, o < t ∧ Y 5 (20 * l + p) = nI o ∧ jr_k g t o = p) (hK : jr_k g t t ≤ L) :
    jl_wh (fun q => jf_X5_order_L41 (nI l) (nI t) q.1 q.2) jl_F (nI L, Y) = some (.inl (nI (t + 1), jl_st (jl_st (jl_sa Y 5 (jr_sh l (jr_k g t t) L (Y 5))) 5 (20 * l + jr_k g t t) (nI t)) 6 l (nI (L + 1)))) := by
  obtain ⟨K, eK⟩ : ∃ K, K = jr_k g t t := ⟨_, rfl⟩
  rw [← eK] at hK ⊢
  have h0 : (nI L, Y) = (nI (L - 0), jl_sa Y 5 (jr_sh l (L - 0) L (Y 5))) := by rw [Nat.sub_zero, jr_sh_L, jl_sa_self]
  rw [h0]
  have e4 : ∀ i, (jl_sa Y 5 (jr_sh l (L - i) L (Y 5))) 4 = Y 4 := fun i => jl_sa_ne _ _ (by decide)
  have e5 : ∀ i, (jl_sa Y 5 (jr_sh l (L - i) L (Y 5))) 5 = jr_sh l (L - i) L (Y 5) := fun i => jl_sa_same _ _ _
  have e6 : ∀ i, (jl_sa Y 5 (jr_sh l (L - i) L (Y 5))) 6 = Y 6 := fun i => jl_sa_ne _ _ (by decide)
  refine jl_loopE (fun i => (nI (L - i), jl_sa Y 5 (jr_sh l (L - i) L (Y 5)))) _ (L - K) (by omega) (fun i hi => ?_) ?_
  · show jf_X5_order_L41 (nI l) (nI t) (nI (L - i)) (jl_sa Y 5 (jr_sh l (L - i) L (Y 5))) = _
    obtain ⟨k, ek⟩ : ∃ k, L - i = k + 1 := ⟨L - i - 1, by omega⟩
    have ek2 : L - (i + 1) = k := by omega
    obtain ⟨o, ho, eo, ro⟩ := hr k (by omega)
    have hs : jr_sh l (k + 1) L (Y 5) (20 * l + k) = nI o := by
      unfold jr_sh
      rw [if_neg (by omega)]
      exact eo
    have hc : ¬ jc_f g o t = true := fun q => by
      have := (jr_ins ho).mp q
      omega
    have hc2 : ¬ g t ≤ g o := fun q => hc (by
      rw [jc_iff]
      rw [jn_le] at q
      omega)
    unfold jf_X5_order_L41
    rw [e4, e5, ek, if_neg (nI_nle (by omega) (by omega)), jn_ix, ← Nat.add_assoc, nI_pred, jl_inb_n (by omega) (by omega), jl_chk_t, nI_clamp (by omega), hs, jn_ix, jl_inb_n (by omega) (by omega), jl_chk_t, jn_ix, nI_clamp (by omega), nI_clamp (by omega), eg t (Nat.le_refl _), eg o (by omega), if_neg hc2, jl_inb_n (by omega) (by omega), jl_chk_t, jl_lt_e, jl_lt_e, nI_clamp (by omega), pk_m1, ek2]
    congr 3
    unfold jl_st
    rw [jl_sa_same, jl_sa_sa, Nat.add_assoc, ← eo, jr_sh_s (by omega)]
  · show jf_X5_order_L41 (nI l) (nI t) (nI (L - (L - K))) (jl_sa Y 5 (jr_sh l (L - (L - K)) L (Y 5))) = _
    have eLK : L - (L - K) = K := by omega
    have e6' := e6 (L - K)
    have e4' := e4 (L - K)
    have e5' := e5 (L - K)
    rw [eLK] at e4' e5' e6' ⊢
    unfold jf_X5_order_L41
    rw [e4', e5', jn_ix, nI_clamp (show 20 * l + K < 2 ^ 31 by omega), nI_clamp (show l < 2 ^ 31 by omega)]
    simp only [jl_lt_e]
    rw [jl_inb_n (show 20 * l + K < 80 by omega) (by omega), jl_chk_t, jl_st_ne _ _ _ (show (6 : Nat) ≠ 5 by decide), e6', h6, nI_1, nI_1]
    cases K with
    | zero => rw [if_pos (by decide), jl_ex_s]
    | succ k =>
      obtain ⟨o, ho, eo, ro⟩ := hr k (by omega)
      have hs : jr_sh l (k + 1) L (Y 5) (20 * l + k) = nI o := by
        unfold jr_sh
        rw [if_neg (by omega)]
        exact eo
      have hc : g t ≤ g o := by
        have := (jr_ins (g := g) ho).mpr (by omega)
        rw [jc_iff] at this
        rw [jn_le]
        omega
      rw [if_neg (nI_nle (by omega) (by omega)), ← Nat.add_assoc, nI_pred, jl_inb_n (by omega) (by omega), jl_chk_t, nI_clamp (by omega), hs, jn_ix, jl_inb_n (by omega) (by omega), jl_chk_t, jn_ix, nI_clamp (by omega), nI_clamp (by omega), eg t (Nat.le_refl _), eg o (by omega), if_pos hc, jl_ex_s]
theorem jp_order {n l : Nat} {Y : jl_Mem} {g : Nat → Int32} (hY : Y 0 1 = nI n) (hn : n ≤ 20) (hl : l < 4) (eg : ∀ t, t < n → Y 4 (20 * l + t) = g t) (hg : ∀ t, t < n → 0 ≤ g t) :
    ∃ Y2, jf_X5_order (nI l) Y = some (0, Y2) ∧ (∀ k, k ≠ 0 → k ≠ 5 → k ≠ 6 → Y2 k = Y k) ∧ (∀ q, q ≠ 16 → Y2 0 q = Y 0 q) ∧ Y2 0 16 = 0 ∧ (∀ q, (q < 20 * l ∨ 20 * l + 20 ≤ q) → Y2 5 q = Y 5 q) ∧ (∀ q, q ≠ l → Y2 6 q = Y 6 q) ∧
      Y2 6 l = nI (fb_ct (fun t => decide (¬ g t = 0)) n) ∧ (∀ p, p < fb_ct (fun t => decide (¬ g t = 0)) n → ∃ o, o < n ∧ ¬ g o = 0 ∧ Y2 5 (20 * l + p) = nI o ∧ jr_k g n o = p) := by
  unfold jf_X5_order
  rw [jl_inb_n hl (by omega), jl_chk_t, jl_lt_e, jl_lt_e, nI_clamp (by omega)]
  obtain ⟨r, h1, Y2, h2, h3⟩ := jl_loopF (f := fun q => jf_X5_order_L9 (nI l) q.1 q.2)
    (fun t s => s.1 = nI t ∧ (∀ k, k ≠ 5 → k ≠ 6 → s.2 k = Y k) ∧ (∀ q, (q < 20 * l ∨ 20 * l + 20 ≤ q) → s.2 5 q = Y 5 q) ∧ (∀ q, q ≠ l → s.2 6 q = Y 6 q) ∧ s.2 6 l = nI (fb_ct (fun t => decide (¬ g t = 0)) t) ∧ (∀ p, p < fb_ct (fun t => decide (¬ g t = 0)) t → ∃ o, o < t ∧ ¬ g o = 0 ∧ s.2 5 (20 * l + p) = nI o ∧ jr_k g t o = p))
    (fun r => ∃ Y2 : jl_Mem, r = (0, Y2) ∧ (∀ k, k ≠ 0 → k ≠ 5 → k ≠ 6 → Y2 k = Y k) ∧ (∀ q, q ≠ 16 → Y2 0 q = Y 0 q) ∧ Y2 0 16 = 0 ∧ (∀ q, (q < 20 * l ∨ 20 * l + 20 ≤ q) → Y2 5 q = Y 5 q) ∧ (∀ q, q ≠ l → Y2 6 q = Y 6 q) ∧
      Y2 6 l = nI (fb_ct (fun t => decide (¬ g t = 0)) n) ∧ (∀ p, p < fb_ct (fun t => decide (¬ g t = 0)) n → ∃ o, o < n ∧ ¬ g o = 0 ∧ Y2 5 (20 * l + p) = nI o ∧ jr_k g n o = p))
    n (by omega) (s0 := ((0 : Int32), jl_st Y 6 l 0)) (by
    refine ⟨rfl, fun k _ h => jl_st_ne Y _ _ h, fun q _ => congrFun (jl_st_ne Y l 0 (show (5 : Nat) ≠ 6 by decide)) q, fun q hq => ?_, jl_st_same Y 6 l 0, fun p hp => absurd hp (Nat.not_lt_zero p)⟩
    show jl_st Y 6 l 0 6 q = Y 6 q
    rw [jl_st_cell]
    exact pk_un hq) (by
    rintro t ⟨x, z⟩ htn ⟨e1, hz, hz5, hz6, hzl, hzr⟩
    dsimp only at e1 hz hz5 hz6 hzl hzr
    subst e1
    show (t < n ∧ ∃ s2, jf_X5_order_L9 (nI l) (nI t) z = some (.inl s2) ∧ _) ∨ ∃ r, jf_X5_order_L9 (nI l) (nI t) z = some (.inr r) ∧ _
    unfold jf_X5_order_L9
    rw [hz 0 (by decide) (by decide), hY]
    rcases Nat.lt_or_ge t n with q | q
    · refine Or.inl ⟨q, ?_⟩
      have hct := fb_ct_le (fun t => decide (¬ g t = 0)) t
      rw [if_neg (nI_ge q (by omega)), jn_ix, jl_inb_n (by omega) (by omega), jl_chk_t, nI_clamp (by omega), nI_clamp (by omega), hz 4 (by decide) (by decide), eg t q]
      by_cases c : g t = 0
      · rw [if_pos c, jl_lt_e, nI_1]
        have ec : fb_ct (fun t => decide (¬ g t = 0)) (t + 1) = fb_ct (fun t => decide (¬ g t = 0)) t := by
          rw [fb_ct_succ, decide_eq_false (fun x => x c)]
          rfl
        refine ⟨_, rfl, rfl, hz, hz5, hz6, by rw [ec]; exact hzl, fun p hp => ?_⟩
        rw [ec] at hp
        obtain ⟨o, a1, a2, a3, a4⟩ := hzr p hp
        refine ⟨o, by omega, a2, a3, ?_⟩
        rw [jr_succ, a4, if_neg (fun x => by
          rw [jc_iff, c] at x
          have b1 := hg o (by omega)
          rw [jn_le] at b1
          have b2 : (g o).toInt ≠ (0 : Int32).toInt := fun y => a2 (jn_eq.mpr y)
          omega), Nat.add_zero]
      · rw [if_neg c, jl_lt_e, hzl]
        have ec : fb_ct (fun t => decide (¬ g t = 0)) (t + 1) = fb_ct (fun t => decide (¬ g t = 0)) t + 1 := by
          rw [fb_ct_succ, decide_eq_true c]
          rfl
        have hK : jr_k g t t ≤ fb_ct (fun t => decide (¬ g t = 0)) t := by
          unfold jr_k
          refine fb_ct_sub (fun k hk h => decide_eq_true (fun e => ?_))
          rw [jc_iff, e] at h
          have b1 := hg t q
          rw [jn_le] at b1
          have b2 : (g t).toInt ≠ (0 : Int32).toInt := fun y => c (jn_eq.mpr y)
          omega
        have hw := jp_ins (n := n) (l := l) (t := t) (L := fb_ct (fun t => decide (¬ g t = 0)) t) (Y := z) (g := g) hl (by omega) hct (fun o ho => by rw [hz 4 (by decide) (by decide)]; exact eg o (by omega)) hzl (fun p hp => by
          obtain ⟨o, a1, -, a3, a4⟩ := hzr p hp
          exact ⟨o, a1, a3, a4⟩) hK
        refine ⟨_, hw, rfl, ?_⟩
        generalize fb_ct (fun t => decide (¬ g t = 0)) t = L at hct hK hzr ec ⊢
        obtain ⟨K, eK⟩ : ∃ K, K = jr_k g t t := ⟨_, rfl⟩
        rw [← eK] at hK ⊢
        have f5 : (jl_st (jl_st (jl_sa z 5 (jr_sh l K L (z 5))) 5 (20 * l + K) (nI t)) 6 l (nI (L + 1))) 5 = upd (jr_sh l K L (z 5)) (20 * l + K) (nI t) := by rw [jl_st_ne _ _ _ (by decide), jl_st_cell, jl_sa_same]
        have f6 : (jl_st (jl_st (jl_sa z 5 (jr_sh l K L (z 5))) 5 (20 * l + K) (nI t)) 6 l (nI (L + 1))) 6 = upd (z 6) l (nI (L + 1)) := by rw [jl_st_cell, jl_st_ne _ _ _ (by decide), jl_sa_ne _ _ (by decide)]
        refine ⟨fun k h5 h6 => ?_, fun p hp => ?_, fun p hp => ?_, ?_, fun p hp => ?_⟩
        · show (jl_st (jl_st (jl_sa z 5 (jr_sh l K L (z 5))) 5 (20 * l + K) (nI t)) 6 l (nI (L + 1))) k = _
          rw [jl_st_ne _ _ _ h6, jl_st_ne _ _ _ h5, jl_sa_ne _ _ h5]
          exact hz k h5 h6
        · show (jl_st (jl_st (jl_sa z 5 (jr_sh l K L (z 5))) 5 (20 * l + K) (nI t)) 6 l (nI (L + 1))) 5 p = _
          rw [f5, pk_un (by omega)]
          unfold jr_sh
          rw [if_neg (by omega)]
          exact hz5 p hp
        · show (jl_st (jl_st (jl_sa z 5 (jr_sh l K L (z 5))) 5 (20 * l + K) (nI t)) 6 l (nI (L + 1))) 6 p = _
          rw [f6, pk_un hp]
          exact hz6 p hp
        · show (jl_st (jl_st (jl_sa z 5 (jr_sh l K L (z 5))) 5 (20 * l + K) (nI t)) 6 l (nI (L + 1))) 6 l = _
          rw [f6, pk_us, ec]
        · rw [ec] at hp
          show ∃ o, o < t + 1 ∧ ¬ g o = 0 ∧ (jl_st (jl_st (jl_sa z 5 (jr_sh l K L (z 5))) 5 (20 * l + K) (nI t)) 6 l (nI (L + 1))) 5 (20 * l + p) = nI o ∧ jr_k g (t + 1) o = p
          rw [f5]
          by_cases e : p = K
          · refine ⟨t, by omega, c, by rw [e, pk_us], ?_⟩
            rw [jr_succ, jc_ir, ← eK, e]
            rfl
          · rw [pk_un (by omega)]
            unfold jr_sh
            by_cases e2 : p < K
            · rw [if_neg (by omega)]
              obtain ⟨o, a1, a2, a3, a4⟩ := hzr p (by omega)
              have hc := (jr_ins (g := g) a1).mpr (by omega)
              refine ⟨o, by omega, a2, a3, ?_⟩
              rw [jr_succ, jc_as hc, a4]
              rfl
            · rw [if_pos (by omega)]
              obtain ⟨o, a1, a2, a3, a4⟩ := hzr (p - 1) (by omega)
              have hc : ¬ jc_f g o t = true := fun x => by
                have := (jr_ins (g := g) a1).mp x
                omega
              have hc2 : jc_f g t o = true := (jc_tot g (show t ≠ o by omega)).resolve_right hc
              refine ⟨o, by omega, a2, by rw [show 20 * l + p - 1 = 20 * l + (p - 1) by omega]; exact a3, ?_⟩
              rw [jr_succ, a4, if_pos hc2]
              omega
    · have et : t = n := by omega
      subst et
      refine Or.inr ⟨_, by rw [if_pos (nI_le (Nat.le_refl _) (by omega)), jl_lt_e, jl_ex_s], _, rfl, fun k h0 h5 h6 => ?_, fun q hq => ?_, jl_st_same _ _ _ _, fun q hq => ?_, fun q hq => ?_, ?_, fun p hp => ?_⟩
      · rw [jl_st_ne _ _ _ h0]
        exact hz k h5 h6
      · rw [jl_st_cell, pk_un hq, hz 0 (by decide) (by decide)]
      · rw [jl_st_ne _ _ _ (by decide)]
        exact hz5 q hq
      · rw [jl_st_ne _ _ _ (by decide)]
        exact hz6 q hq
      · rw [jl_st_ne _ _ _ (by decide)]
        exact hzl
      · rw [jl_st_ne _ _ _ (by decide)]
        exact hzr p hp)
  exact ⟨Y2, by rw [h1, h2], h3⟩
theorem jx_len_mk {l : Nat} (hl : l < 4) : jx_len (7 + l) = 20 := by
  rcases (show l = 0 ∨ l = 1 ∨ l = 2 ∨ l = 3 by omega) with e | e | e | e <;> rw [e] <;> rfl
theorem jp_orderRow {n l : Nat} {X : jl_Mem} (hX : X 1 0 = nI n) (hn : n ≤ 20) (hl : l < 4) :
    ∃ X2, jf_X0_orderRow (nI l) X = some (0, X2) ∧ (∀ k, k ≠ 12 + l → k ≠ 17 + l → X2 k = X k) ∧ (∀ t, t < n → ¬ X (7 + l) t = 0 → X2 (17 + l) t = nI (jr_k (X (7 + l)) n t) ∧ X2 (12 + l) (jr_k (X (7 + l)) n t) = nI t) := by
  unfold jf_X0_orderRow
  rw [jl_inb_n hl (by omega), jl_chk_t, jl_lt_e]
  obtain ⟨r, h1, X2, h2, h3⟩ := jl_loopF (f := fun q => jf_X0_orderRow_L9 (nI l) q.1 q.2)
    (fun i s => s.1 = nI i ∧ (∀ k, k ≠ 12 + l → k ≠ 17 + l → s.2 k = X k) ∧ (∀ t, t < i → ¬ X (7 + l) t = 0 → s.2 (17 + l) t = nI (jr_k (X (7 + l)) n t) ∧ s.2 (12 + l) (jr_k (X (7 + l)) n t) = nI t))
    (fun r => ∃ X2 : jl_Mem, r = (0, X2) ∧ (∀ k, k ≠ 12 + l → k ≠ 17 + l → X2 k = X k) ∧ (∀ t, t < n → ¬ X (7 + l) t = 0 → X2 (17 + l) t = nI (jr_k (X (7 + l)) n t) ∧ X2 (12 + l) (jr_k (X (7 + l)) n t) = nI t))
    n (by omega) (s0 := ((0 : Int32), X)) ⟨rfl, fun _ _ _ => rfl, fun t ht => absurd ht (Nat.not_lt_zero t)⟩ (by
    rintro i ⟨x, z⟩ hi ⟨e1, hz, hzr⟩
    dsimp only at e1 hz hzr
    subst e1
    show (i < n ∧ ∃ s2, jf_X0_orderRow_L9 (nI l) (nI i) z = some (.inl s2) ∧ _) ∨ ∃ r, jf_X0_orderRow_L9 (nI l) (nI i) z = some (.inr r) ∧ _
    unfold jf_X0_orderRow_L9
    rw [hz 1 (by omega) (by omega), hX]
    rcases Nat.lt_or_ge i n with q | q
    · refine Or.inl ⟨q, ?_⟩
      rw [if_neg (nI_ge q (by omega)), jl_inb_n (by omega) (by omega), jl_chk_t, nI_clamp (by omega), nI_clamp (by omega), hz (7 + l) (by omega) (by omega)]
      by_cases c : X (7 + l) i = 0
      · rw [if_pos c, jl_lt_e, nI_1]
        refine ⟨_, rfl, rfl, hz, fun t ht hm => ?_⟩
        by_cases e : t = i
        · subst e
          exact absurd c hm
        · exact hzr t (by omega) hm
      · have hrk := jr_lt (f := X (7 + l)) q
        rw [if_neg c, jp_rank (n := n) (by rw [hz 1 (by omega) (by omega)]; exact hX) hn (by omega) (jx_len_mk hl), jl_bnd_s, jl_lt_e, hz (7 + l) (by omega) (by omega), jl_inb_n (by omega) (by omega), jl_lt_e, jl_chk_t, jl_lt_e, jl_lt_e, nI_clamp (by omega), nI_1]
        refine ⟨_, rfl, rfl, fun k h1 h2 => ?_, fun t ht hm => ?_⟩
        · show jl_st (jl_st z (17 + l) i (nI (jr_k (X (7 + l)) n i))) (12 + l) (jr_k (X (7 + l)) n i) (nI i) k = _
          rw [jl_st_ne _ _ _ h1, jl_st_ne _ _ _ h2]
          exact hz k h1 h2
        · show jl_st (jl_st z (17 + l) i (nI (jr_k (X (7 + l)) n i))) (12 + l) (jr_k (X (7 + l)) n i) (nI i) (17 + l) t = _ ∧ jl_st (jl_st z (17 + l) i (nI (jr_k (X (7 + l)) n i))) (12 + l) (jr_k (X (7 + l)) n i) (nI i) (12 + l) _ = _
          rw [jl_st_ne _ _ _ (show 17 + l ≠ 12 + l by omega), jl_st_cell, jl_st_cell, jl_st_ne _ _ _ (show 12 + l ≠ 17 + l by omega)]
          by_cases e : t = i
          · subst e
            rw [pk_us, pk_us]
            exact ⟨rfl, rfl⟩
          · have hne : jr_k (X (7 + l)) n t ≠ jr_k (X (7 + l)) n i := fun x => e (jr_inj (by omega) q x)
            rw [pk_un e, pk_un hne]
            exact hzr t (by omega) hm
    · have ei : i = n := by omega
      subst ei
      exact Or.inr ⟨_, by rw [if_pos (nI_le (Nat.le_refl _) (by omega)), jl_ex_s], _, rfl, hz, hzr⟩)
  exact ⟨X2, by rw [h1, h2], h3⟩
