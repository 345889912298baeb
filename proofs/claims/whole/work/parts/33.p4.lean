/-! pure 4: the class's isSure -/
/-- the k first by lo are ahead of all others for sure -/
def jx_sure (lo hi : Nat → Int32) (n k : Nat) : Prop := ∀ a b, a < n → b < n → jr_k lo n a < k → ¬ jr_k lo n b < k → ¬ (lo a < hi b ∨ (lo a = hi b ∧ b < a))
theorem jx_sure_last {lo hi : Nat → Int32} {n k u : Nat} (hu : u < n) (hk : jr_k lo n u + 1 = k) : jx_sure lo hi n k ↔ ∀ b, b < n → ¬ jr_k lo n b < k → (hi b < lo u ∨ (lo u = hi b ∧ u < b)) := by
  constructor
  · intro h b hb h2
    have h3 := h u b hu hb (by omega) h2
    have hne : u ≠ b := fun e => by
      subst e
      omega
    rw [jn_lt, jn_eq] at h3 ⊢
    omega
  · intro h a b ha hb h1 h2 h3
    have h4 := h b hb h2
    have h5 : a = u ∨ jc_f lo a u = true := by
      by_cases e : a = u
      · exact Or.inl e
      · refine Or.inr ((jr_iff ha hu).mpr ?_)
        have : jr_k lo n a ≠ jr_k lo n u := fun q => e (jr_inj ha hu q)
        omega
    rw [jn_lt, jn_eq] at h3 h4
    rcases h5 with e | e
    · subst e
      omega
    · rw [jc_iff] at e
      omega
theorem jx_sure_cong {lo hi lo2 hi2 : Nat → Int32} {n k : Nat} (h1 : ∀ t, t < n → lo t = lo2 t) (h2 : ∀ t, t < n → hi t = hi2 t) : jx_sure lo hi n k ↔ jx_sure lo2 hi2 n k := by
  have hr : ∀ t, t < n → jr_k lo n t = jr_k lo2 n t := fun t ht => jr_cong h1 (h1 t ht)
  constructor
  · intro h a b ha hb x y z
    exact h a b ha hb (by rw [hr a ha]; exact x) (by rw [hr b hb]; exact y) (by rw [h1 a ha, h2 b hb]; exact z)
  · intro h a b ha hb x y z
    exact h a b ha hb (by rw [← hr a ha]; exact x) (by rw [← hr b hb]; exact y) (by rw [← h1 a ha, ← h2 b hb]; exact z)
theorem jp_isFound {ts t : Nat} {X : jl_Mem} : jf_X2_isFound ts (nI t) X = some (jq_i (jq_bit (X ts 5) t), X) := by
  unfold jf_X2_isFound
  unfold jq_bit
  by_cases h : ((X ts 5 >>> (nI t &&& 31)) &&& 1) = 1
  · rw [if_pos h, decide_eq_true h]
    rfl
  · rw [if_neg h, decide_eq_false h]
    rfl
theorem jp_first {n ts i : Nat} {X : jl_Mem} (hX : X 1 0 = nI n) (hn : n ≤ 20) (hi : i < n) (hf : ∀ t, t < n → jq_bit (X ts 5) t = decide (jr_k (X (ts + 4)) n t < i)) :
    ∃ u, u < n ∧ jr_k (X (ts + 4)) n u = i ∧ jf_X2_firstLeftByLow ts X = some (nI u, X) := by
  unfold jf_X2_firstLeftByLow
  rw [jl_lt_e, jl_lt_e]
  obtain ⟨r, h1, u, hu, hr, e⟩ := jl_loopF (f := fun q => jf_X2_firstLeftByLow_L4 ts q.1 q.2.1 q.2.2)
    (fun j s => s.2.1 = nI j ∧ s.2.2 = X ∧ ((s.1 = -1 ∧ ∀ t, t < j → jr_k (X (ts + 4)) n t < i) ∨ (∃ u, u < j ∧ s.1 = nI u ∧ ¬ jr_k (X (ts + 4)) n u < i ∧ ∀ t, t < j → t ≠ u → ¬ jr_k (X (ts + 4)) n t < i → jc_f (X (ts + 4)) u t = true)))
    (fun r => ∃ u, u < n ∧ jr_k (X (ts + 4)) n u = i ∧ r = (nI u, X)) n (by omega) (s0 := ((-1 : Int32), (0 : Int32), X)) ⟨rfl, rfl, Or.inl ⟨rfl, fun t ht => absurd ht (Nat.not_lt_zero t)⟩⟩ (by
    rintro j ⟨x, y, z⟩ hj ⟨e1, e2, h⟩
    dsimp only at e1 e2 h
    subst e1
    subst e2
    show (j < n ∧ ∃ s2, jf_X2_firstLeftByLow_L4 ts x (nI j) z = some (.inl s2) ∧ _) ∨ ∃ r, jf_X2_firstLeftByLow_L4 ts x (nI j) z = some (.inr r) ∧ _
    unfold jf_X2_firstLeftByLow_L4
    rcases Nat.lt_or_ge j n with q | q
    · refine Or.inl ⟨q, ?_⟩
      rw [hX, if_neg (nI_ge q (by omega)), jp_isFound, jl_bnd_s, jq_if, hf j q]
      by_cases hk : jr_k (z (ts + 4)) n j < i
      · rw [decide_eq_true hk, if_pos rfl, jl_lt_e, nI_1]
        refine ⟨_, rfl, rfl, rfl, ?_⟩
        rcases h with ⟨h1, h2⟩ | ⟨u, h1, h2, h3, h4⟩
        · exact Or.inl ⟨h1, fun t ht => by
            by_cases e : t = j
            · subst e
              exact hk
            · exact h2 t (by omega)⟩
        · exact Or.inr ⟨u, by omega, h2, h3, fun t ht hne hnk => by
            by_cases e : t = j
            · subst e
              exact absurd hk hnk
            · exact h4 t (by omega) hne hnk⟩
      · rw [decide_eq_false hk]
        simp only [Bool.false_eq_true, if_false, jl_lt_e]
        rcases h with ⟨h1, h2⟩ | ⟨u, h1, h2, h3, h4⟩
        · rw [if_pos h1, nI_1]
          refine ⟨_, rfl, rfl, rfl, Or.inr ⟨j, by omega, rfl, hk, fun t ht hne hnk => ?_⟩⟩
          exact absurd (h2 t (by omega)) hnk
        · have hne : ¬ x = -1 := by
            rw [h2]
            intro e
            have := jn_eq.mp e
            rw [nI_toInt (by omega)] at this
            have h9 : (-1 : Int32).toInt = -1 := by decide
            rw [h9] at this
            omega
          rw [if_neg hne, jl_inb_n (by omega) (by omega), jl_chk_t, h2, jl_inb_n (by omega) (by omega), jl_chk_t, nI_clamp (by omega), nI_clamp (by omega), nI_1]
          by_cases hc : z (ts + 4) j ≤ z (ts + 4) u
          · rw [if_pos hc]
            refine ⟨_, rfl, rfl, rfl, Or.inr ⟨u, by omega, rfl, h3, fun t ht hnu hnk => ?_⟩⟩
            by_cases e : t = j
            · subst e
              rw [jc_iff]
              rw [jn_le] at hc
              omega
            · exact h4 t (by omega) hnu hnk
          · rw [if_neg hc]
            have hju : jc_f (z (ts + 4)) j u = true := by
              rw [jc_iff]
              rw [jn_le] at hc
              omega
            refine ⟨_, rfl, rfl, rfl, Or.inr ⟨j, by omega, rfl, hk, fun t ht hnj hnk => ?_⟩⟩
            by_cases e : t = u
            · rw [e]
              exact hju
            · exact jc_tr hju (h4 t (by omega) e hnk)
    · have ej : j = n := by omega
      subst ej
      refine Or.inr ⟨_, by rw [hX, if_pos (nI_le (Nat.le_refl _) (by omega)), jl_ex_s], ?_⟩
      obtain ⟨t, ht, hti⟩ := jr_onto (f := z (ts + 4)) hi
      rcases h with ⟨h1, h2⟩ | ⟨u, h1, h2, h3, h4⟩
      · have := h2 t ht
        omega
      · refine ⟨u, h1, ?_, by rw [h2]⟩
        by_cases e : t = u
        · rw [← e]
          exact hti
        · have := jr_mono (n := j) h1 (h4 t ht e (by omega))
          omega)
  exact ⟨u, hu, hr, by rw [h1, e]⟩
theorem jp_choose {n ts k : Nat} {X : jl_Mem} (hs : jx_isS ts) (hX : X 1 0 = nI n) (hn : n ≤ 20) (hk : k ≤ n) (hk0 : 0 < k) :
    ∃ u v, u < n ∧ jr_k (X (ts + 4)) n u + 1 = k ∧ (∀ t, t < n → jq_bit v t = decide (jr_k (X (ts + 4)) n t < k)) ∧ jf_X2_chooseByLow ts (nI k) X = some (nI u, jl_st X ts 5 v) := by
  unfold jf_X2_chooseByLow
  rw [jl_lt_e, jl_lt_e, jl_lt_e]
  have hne1 : (1 : Nat) ≠ ts := by rcases hs with e | e <;> omega
  have hne4 : ts + 4 ≠ ts := by omega
  have st2 : ∀ v w, jl_st (jl_st X ts 5 v) ts 5 w = jl_st X ts 5 w := by
    intro v w
    unfold jl_st
    rw [jl_sa_sa, jl_sa_same]
    congr 1
    funext j
    unfold upd
    by_cases e : j = 5
    · rw [if_pos e, if_pos e]
    · rw [if_neg e, if_neg e, if_neg e]
  obtain ⟨r, h1, u, v, hu, hr, hb, e⟩ := jl_loopF (f := fun q => jf_X2_chooseByLow_L9 ts (nI k) q.1 q.2.1 q.2.2)
    (fun i s => s.2.1 = nI i ∧ ∃ v, s.2.2 = jl_st X ts 5 v ∧ (∀ t, t < n → jq_bit v t = decide (jr_k (X (ts + 4)) n t < i)) ∧ (0 < i → ∃ u, u < n ∧ s.1 = nI u ∧ jr_k (X (ts + 4)) n u + 1 = i))
    (fun r => ∃ u v, u < n ∧ jr_k (X (ts + 4)) n u + 1 = k ∧ (∀ t, t < n → jq_bit v t = decide (jr_k (X (ts + 4)) n t < k)) ∧ r = (nI u, jl_st X ts 5 v)) k (by omega) (s0 := ((-1 : Int32), (0 : Int32), jl_st X ts 5 0))
    ⟨rfl, 0, rfl, fun t ht => by rw [jq_bit_0 (by omega), decide_eq_false (Nat.not_lt_zero _)], fun h => absurd h (Nat.lt_irrefl 0)⟩ (by
    rintro i ⟨x, y, z⟩ hi ⟨e1, v, e2, hb, hl⟩
    dsimp only at e1 e2 hl
    subst e1
    subst e2
    show (i < k ∧ ∃ s2, jf_X2_chooseByLow_L9 ts (nI k) x (nI i) (jl_st X ts 5 v) = some (.inl s2) ∧ _) ∨ ∃ r, jf_X2_chooseByLow_L9 ts (nI k) x (nI i) (jl_st X ts 5 v) = some (.inr r) ∧ _
    unfold jf_X2_chooseByLow_L9
    rw [jl_st_ne X 5 v hne1, hX, if_neg (nI_nlt hk (by omega))]
    rcases Nat.lt_or_ge i k with q | q
    · refine Or.inl ⟨q, ?_⟩
      have e4 : jl_st X ts 5 v (ts + 4) = X (ts + 4) := jl_st_ne X 5 v hne4
      have e5 : jl_st X ts 5 v ts 5 = v := jl_st_same X ts 5 v
      obtain ⟨u, hu, hur, hfu⟩ := jp_first (ts := ts) (i := i) (X := jl_st X ts 5 v) (by rw [jl_st_ne X 5 v hne1]; exact hX) hn (by omega) (by rw [e4, e5]; exact hb)
      rw [e4] at hur
      rw [if_neg (nI_ge q (by omega)), hfu, jl_bnd_s, jl_lt_e, jl_lt_e, jl_lt_e, e5, st2, nI_1]
      refine ⟨_, rfl, rfl, _, rfl, fun t ht => ?_, fun _ => ⟨u, hu, rfl, by rw [hur]⟩⟩
      rw [jq_bit_or (by omega) (by omega), hb t ht]
      by_cases e : t = u
      · subst e
        rw [hur, decide_eq_true rfl, Bool.or_true, decide_eq_true (by omega)]
      · have : jr_k (X (ts + 4)) n t ≠ i := fun q2 => e (jr_inj ht hu (q2.trans hur.symm))
        rw [decide_eq_false e, Bool.or_false]
        by_cases q3 : jr_k (X (ts + 4)) n t < i
        · rw [decide_eq_true q3, decide_eq_true (by omega)]
        · rw [decide_eq_false q3, decide_eq_false (by omega)]
    · have ei : i = k := by omega
      subst ei
      obtain ⟨u, h1, h2, h3⟩ := hl hk0
      refine Or.inr ⟨_, by rw [if_pos (nI_le (Nat.le_refl _) (by omega)), jl_ex_s], u, v, h1, h3, hb, by rw [h2]⟩)
  exact ⟨u, v, hu, hr, hb, by rw [h1, e]⟩
theorem jp_isSure {n m ts k : Nat} {X : jl_Mem} (hs : jx_isS ts) (hI : jx_I n m X) (hV : jx_V m X ts) (hk : k ≤ n) (hk0 : 0 < k) :
    ∃ (b : Bool) (X2 : jl_Mem), jf_X2_isSure ts (nI k) X = some (jq_i b, X2) ∧ (b = true ↔ jx_sure (jx_lo X ts m) (jx_hi X ts m) n k) ∧ jx_a3 ts X X2 ∧ (∀ t, t < n → jq_bit (X2 ts 5) t = decide (jr_k (jx_lo X ts m) n t < k)) := by
  have hn := hI.1.1
  have hm := hI.1.2.1
  have hX := hI.1.2.2.1
  unfold jf_X2_isSure
  rw [jl_lt_e]
  obtain ⟨r, h1, b, X2, h2, h3, h4, h5⟩ := jl_loopF (f := fun q => jf_X2_isSure_L2 ts (nI k) q.1 q.2)
    (fun i s => s.1 = nI i ∧ jx_a3 ts X s.2 ∧ ∀ t, t < i → s.2 (ts + 4) t = jx_lo X ts m t)
    (fun r => ∃ (b : Bool) (X2 : jl_Mem), r = (jq_i b, X2) ∧ (b = true ↔ jx_sure (jx_lo X ts m) (jx_hi X ts m) n k) ∧ jx_a3 ts X X2 ∧ (∀ t, t < n → jq_bit (X2 ts 5) t = decide (jr_k (jx_lo X ts m) n t < k)))
    n (by omega) (s0 := ((0 : Int32), X)) ⟨rfl, jx_a3.rf, fun t ht => absurd ht (Nat.not_lt_zero t)⟩ (by
    rintro i ⟨x, z⟩ hi ⟨e1, ha, hlo⟩
    dsimp only at e1 ha hlo
    subst e1
    have hg := ha.sg hs
    show (i < n ∧ ∃ s2, jf_X2_isSure_L2 ts (nI k) (nI i) z = some (.inl s2) ∧ _) ∨ ∃ r, jf_X2_isSure_L2 ts (nI k) (nI i) z = some (.inr r) ∧ _
    unfold jf_X2_isSure_L2
    rw [hg 1 (by omega), hX]
    rcases Nat.lt_or_ge i n with q | q
    · refine Or.inl ⟨q, ?_⟩
      obtain ⟨f, hf⟩ := jp_lowOf hs (hg.I hI) q
      rw [if_neg (nI_ge q (by omega)), hf, jl_bnd_s, jl_inb_n (by omega) (by omega), jl_chk_t, jl_lt_e, jl_lt_e, nI_clamp (by omega), nI_1]
      refine ⟨_, rfl, rfl, ?_, ?_⟩
      · exact (ha.tr (jx_a3_sa (Or.inr (Or.inl rfl)))).tr (jx_a3_sa (Or.inr (Or.inr rfl)))
      · intro t ht
        show jl_st (jl_sa z (ts + 3) f) (ts + 4) i (jx_lo z ts m i) (ts + 4) t = _
        rw [jl_st_cell, jl_sa_ne z f (by omega)]
        unfold upd
        by_cases e : t = i
        · rw [if_pos e, e]
          exact hg.lo hm
        · rw [if_neg e]
          exact hlo t (by omega)
    · have ei : i = n := by omega
      subst ei
      refine Or.inr ?_
      obtain ⟨u, v, hu, hr, hb, hc⟩ := jp_choose (X := z) hs (by rw [hg 1 (by omega)]; exact hX) hn hk hk0
      have hrk : ∀ t, t < i → jr_k (z (ts + 4)) i t = jr_k (jx_lo X ts m) i t := fun t ht => jr_cong hlo (hlo t ht)
      rw [hrk u hu] at hr
      have hb2 : ∀ t, t < i → jq_bit v t = decide (jr_k (jx_lo X ts m) i t < k) := fun t ht => by rw [hb t ht, hrk t ht]
      have hne : ¬ nI u = -1 := by
        intro e
        have := jn_eq.mp e
        rw [nI_toInt (by omega)] at this
        have h9 : (-1 : Int32).toInt = -1 := by decide
        rw [h9] at this
        omega
      rw [if_pos (nI_le (Nat.le_refl _) (by omega)), hc, jl_bnd_s, jl_lt_e, if_neg hne, jl_lt_e]
      have ha2 : jx_a3 ts X (jl_st z ts 5 v) := ha.tr (jx_a3_sa (Or.inl rfl))
      have hlo2 : jl_st z ts 5 v (ts + 4) = z (ts + 4) := jl_st_ne z 5 v (by omega)
      have hbit : jl_st z ts 5 v ts 5 = v := jl_st_same z ts 5 v
      generalize jl_st z ts 5 v = z2 at ha2 hlo2 hbit ⊢
      obtain ⟨r, g1, g2⟩ := jl_loopF (f := fun q => jf_X2_isSure_L45 ts (nI u) q.1 q.2)
        (fun j s => s.1 = nI j ∧ jx_a3 ts X s.2 ∧ s.2 (ts + 4) = z (ts + 4) ∧ s.2 ts 5 = v ∧ ∀ b, b < j → ¬ jr_k (jx_lo X ts m) i b < k → (jx_hi X ts m b < jx_lo X ts m u ∨ (jx_lo X ts m u = jx_hi X ts m b ∧ u < b)))
        (fun r => ∃ (b : Bool) (X2 : jl_Mem), r = (jq_i b, X2) ∧ (b = true ↔ jx_sure (jx_lo X ts m) (jx_hi X ts m) i k) ∧ jx_a3 ts X X2 ∧ X2 ts 5 = v) i (by omega) (s0 := ((0 : Int32), z2)) ⟨rfl, ha2, hlo2, hbit, fun t ht => absurd ht (Nat.not_lt_zero t)⟩ (by
        rintro j ⟨x, y⟩ hj ⟨e1, hy, hy4, hy5, hall⟩
        dsimp only at e1 hy hy4 hy5
        subst e1
        have hgy := hy.sg hs
        show (j < i ∧ ∃ s2, jf_X2_isSure_L45 ts (nI u) (nI j) y = some (.inl s2) ∧ _) ∨ ∃ r, jf_X2_isSure_L45 ts (nI u) (nI j) y = some (.inr r) ∧ _
        unfold jf_X2_isSure_L45
        rw [hgy 1 (by omega), hX]
        rcases Nat.lt_or_ge j i with q | q
        · rw [if_neg (nI_ge q (by omega)), jp_isFound, jl_bnd_s, jq_if, hy5, hb2 j q]
          by_cases hc : jr_k (jx_lo X ts m) i j < k
          · rw [decide_eq_true hc, if_pos rfl, jl_lt_e, nI_1]
            refine Or.inl ⟨q, _, rfl, rfl, hy, hy4, hy5, fun b hb hnb => ?_⟩
            by_cases e : b = j
            · subst e
              exact absurd hc hnb
            · exact hall b (by omega) hnb
          · obtain ⟨f, hf⟩ := jp_highOf hs (hgy.I hI) (hgy.V hV) q
            rw [decide_eq_false hc]
            simp only [Bool.false_eq_true, if_false]
            rw [jl_inb_n (by omega) (by omega), jl_chk_t, hf, jl_bnd_s, nI_clamp (by omega), hy4, hlo u hu, hgy.hi hm, jp_cf (by omega) (by omega), jl_bnd_s, jl_lt_e, nI_1, jl_ex_s]
            by_cases h9 : jx_hi X ts m j < jx_lo X ts m u ∨ (jx_lo X ts m u = jx_hi X ts m j ∧ u < j)
            · rw [if_pos h9, if_neg (by decide)]
              refine Or.inl ⟨q, _, rfl, rfl, hy.tr (jx_a3_sa (Or.inr (Or.inl rfl))), ?_, ?_, fun b hb hnb => ?_⟩
              · show jl_sa y (ts + 3) f (ts + 4) = _
                rw [jl_sa_ne y f (by omega)]
                exact hy4
              · show jl_sa y (ts + 3) f ts 5 = _
                rw [jl_sa_ne y f (by omega)]
                exact hy5
              · by_cases e : b = j
                · subst e
                  exact h9
                · exact hall b (by omega) hnb
            · rw [if_neg h9, if_pos rfl]
              refine Or.inr ⟨_, rfl, false, _, rfl, ⟨fun x => absurd x (by decide), fun x => ?_⟩, hy.tr (jx_a3_sa (Or.inr (Or.inl rfl))), ?_⟩
              · exact absurd ((jx_sure_last hu hr).mp x j q hc) h9
              · rw [jl_sa_ne y f (by omega)]
                exact hy5
        · have ej : j = i := by omega
          subst ej
          rw [if_pos (nI_le (Nat.le_refl _) (by omega)), jl_ex_s]
          exact Or.inr ⟨_, rfl, true, _, rfl, ⟨fun _ => (jx_sure_last hu hr).mpr hall, fun _ => rfl⟩, hy, hy5⟩)
      obtain ⟨b, X2, g3, g4, g5, g6⟩ := g2
      refine ⟨_, by rw [g1, g3, jl_ex_s], b, X2, rfl, g4, g5, fun t ht => ?_⟩
      rw [g6]
      exact hb2 t ht)
  exact ⟨b, X2, by rw [h1, h2], h3, h4, h5⟩
