/-! pure 3: what the class's sight says -/
def jq_i (b : Bool) : Int32 := if b = true then 1 else 0
theorem jq_t : jq_i true = 1 := rfl
theorem jq_f : jq_i false = 0 := rfl
theorem jq_b (b : Bool) : jl_isB (jq_i b) = true := by cases b <;> decide
theorem jq_0 {b : Bool} : jq_i b = 0 ↔ b = false := by cases b <;> decide
theorem jq_if {α : Type} {b : Bool} {u v : α} : (if jq_i b = 0 then u else v) = (if b = true then v else u) := by cases b <;> rfl
theorem jq_yes {b : Bool} {M : jl_Mem} : jf_X4_yes (jq_i b) M = some (jq_i b, M) := by cases b <;> rfl
theorem b_1 (i : Nat) : bt 1 i = decide (i = 0) := by
  rcases Nat.lt_or_ge i 32 with h | h
  · exact (by decide +kernel : ∀ i, i < 32 → bt 1 i = decide (i = 0)) i h
  · rw [b_big h, decide_eq_false (by omega)]
def jq_bit (x : Int32) (t : Nat) : Bool := decide (((x >>> (nI t &&& 31)) &&& 1) = 1)
theorem jq_bit_bt {x : Int32} {t : Nat} (ht : t < 32) : jq_bit x t = bt x t := by
  unfold jq_bit
  have h0 : bt (x >>> (nI t &&& 31)) 0 = bt x t := by rw [b_sshr t ht x (by omega), if_pos (by omega), Nat.add_zero]
  cases h : bt x t with
  | true =>
    apply decide_eq_true
    apply b_ext
    intro i hi
    rw [b_and, b_1]
    by_cases e : i = 0
    · subst e
      rw [h0, h]
      rfl
    · rw [decide_eq_false e, Bool.and_false]
  | false =>
    apply decide_eq_false
    intro e
    have h2 : bt ((x >>> (nI t &&& 31)) &&& 1) 0 = bt 1 0 := by rw [e]
    rw [b_and, h0, h, b_1] at h2
    exact absurd h2 (by decide)
theorem jq_bit_or {x : Int32} {t u : Nat} (ht : t < 32) (hu : u < 32) : jq_bit (x ||| ((1 : Int32) <<< (nI u &&& 31))) t = (jq_bit x t || decide (t = u)) := by
  rw [jq_bit_bt ht, b_or, b_shl u hu 1 ht, b_1, jq_bit_bt ht]
  congr 1
  by_cases e : t = u
  · subst e
    simp
  · rw [decide_eq_false e]
    by_cases h : u ≤ t
    · rw [decide_eq_true h, decide_eq_false (by omega)]
      rfl
    · rw [decide_eq_false h]
      rfl
theorem jq_bit_0 {t : Nat} (ht : t < 32) : jq_bit 0 t = false := by rw [jq_bit_bt ht, b_0]
theorem jl_sa_self (M : jl_Mem) (k : Nat) : jl_sa M k (M k) = M := by
  funext q
  unfold jl_sa
  by_cases h : q = k
  · rw [if_pos h, h]
  · rw [if_neg h]
theorem jl_sa_sa (M : jl_Mem) (k : Nat) (f g : Nat → Int32) : jl_sa (jl_sa M k f) k g = jl_sa M k g := by
  funext q
  unfold jl_sa
  by_cases h : q = k
  · rw [if_pos h, if_pos h]
  · rw [if_neg h, if_neg h, if_neg h]
/-- the first i places of g, then those of h -/
def jq_fl (g h : Nat → Int32) (i : Nat) : Nat → Int32 := fun k => if k < i then g k else h k
theorem jq_fl_0 (g h : Nat → Int32) : jq_fl g h 0 = h := rfl
theorem jq_fl_in {g h : Nat → Int32} {i k : Nat} (q : k < i) : jq_fl g h i k = g k := if_pos q
theorem jq_fl_s (g h : Nat → Int32) (i : Nat) : upd (jq_fl g h i) i (g i) = jq_fl g h (i + 1) := by
  funext k
  unfold upd jq_fl
  by_cases e : k = i
  · subst e
    rw [if_pos rfl, if_pos (by omega)]
  · rw [if_neg e]
    by_cases q : k < i
    · rw [if_pos q, if_pos (by omega)]
    · rw [if_neg q, if_neg (by omega)]
theorem jl_st_fl (M : jl_Mem) (k i : Nat) (g h : Nat → Int32) : jl_st (jl_sa M k (jq_fl g h i)) k i (g i) = jl_sa M k (jq_fl g h (i + 1)) := by
  unfold jl_st
  rw [jl_sa_same, jl_sa_sa, jq_fl_s]
/-- the board as it must be: things, lists, weights, marks, rows and places -/
def jx_I (n m : Nat) (X : jl_Mem) : Prop := (n ≤ 20 ∧ m ≤ 4 ∧ X 1 0 = nI n ∧ X 1 1 = nI m) ∧ (∀ l, l < m → 0 ≤ X 2 l) ∧ (∀ l t, l < 4 → t < 20 → 0 ≤ X (7 + l) t) ∧
  (∀ l, l < m → ∃ ln, ln ≤ n ∧ X 5 l = nI ln ∧ (∀ p, p < ln → ∃ t, t < n ∧ X (12 + l) p = nI t ∧ ¬ X (7 + l) t = 0 ∧ X (17 + l) t = nI p) ∧ (∀ t, t < n → ¬ X (7 + l) t = 0 → ∃ p, p < ln ∧ X (12 + l) p = nI t))
/-- the depths of a sight -/
def jx_V (m : Nat) (X : jl_Mem) (ts : Nat) : Prop := ∀ l, l < m → ∃ d, d ≤ 20 ∧ X (ts + 1) l = nI d ∧ nI d ≤ X 5 l
/-- what a sight rests on is the same -/
def jx_sg (ts : Nat) (X X2 : jl_Mem) : Prop := ∀ k, (k < 21 ∨ k = ts + 1 ∨ k = ts + 2) → X2 k = X k
/-- all but a sight's own scratch is the same -/
def jx_a3 (ts : Nat) (X X2 : jl_Mem) : Prop := ∀ k, k ≠ ts → k ≠ ts + 3 → k ≠ ts + 4 → X2 k = X k
theorem jx_a3.rf {ts : Nat} {X : jl_Mem} : jx_a3 ts X X := fun _ _ _ _ => rfl
theorem jx_a3.tr {ts : Nat} {X X2 X3 : jl_Mem} (h : jx_a3 ts X X2) (h2 : jx_a3 ts X2 X3) : jx_a3 ts X X3 := fun k a b d => (h2 k a b d).trans (h k a b d)
theorem jx_a3.sg {ts : Nat} {X X2 : jl_Mem} (hs : jx_isS ts) (h : jx_a3 ts X X2) : jx_sg ts X X2 := fun k hk => by
  rcases hs with e | e <;> exact h k (by omega) (by omega) (by omega)
theorem jx_sg.rf {ts : Nat} {X : jl_Mem} : jx_sg ts X X := fun _ _ => rfl
theorem jx_sg.I {n m ts : Nat} {X X2 : jl_Mem} (h : jx_sg ts X X2) (hI : jx_I n m X) : jx_I n m X2 := by
  obtain ⟨⟨a, b, c, d⟩, e, f, g⟩ := hI
  refine ⟨⟨a, b, by rw [h 1 (by omega)]; exact c, by rw [h 1 (by omega)]; exact d⟩, fun l hl => by rw [h 2 (by omega)]; exact e l hl, fun l t hl ht => by rw [h (7 + l) (by omega)]; exact f l t hl ht, fun l hl => ?_⟩
  rw [h 5 (by omega), h (12 + l) (by omega), h (7 + l) (by omega), h (17 + l) (by omega)]
  exact g l hl
theorem jx_sg.V {m ts : Nat} {X X2 : jl_Mem} (h : jx_sg ts X X2) (hV : jx_V m X ts) : jx_V m X2 ts := fun l hl => by
  rw [h (ts + 1) (by omega), h 5 (by omega)]
  exact hV l hl
def jx_wl (X : jl_Mem) (ts l : Nat) : Bool := decide (X 5 l ≤ X (ts + 1) l)
def jx_se (X : jl_Mem) (ts l t : Nat) : Bool := decide (¬ X (7 + l) t = 0) && decide (X (17 + l) t < X (ts + 1) l)
def jx_kn (X : jl_Mem) (ts l t : Nat) : Bool := jx_wl X ts l || jx_se X ts l t || jq_bit (X (ts + 2) l) t
def jx_tp (X : jl_Mem) (ts l : Nat) : Int32 := if jx_wl X ts l = true then 0 else if X (ts + 1) l = 0 then 1000 else X (7 + l) (X (12 + l) (X (ts + 1) l - 1).toNatClampNeg).toNatClampNeg
def jx_lh (X : jl_Mem) (ts t l : Nat) : Int32 := if jx_kn X ts l t = true then X (7 + l) t else 0
def jx_hh (X : jl_Mem) (ts t l : Nat) : Int32 := if jx_kn X ts l t = true then X (7 + l) t else jx_tp X ts l
def jx_lo (X : jl_Mem) (ts m t : Nat) : Int32 := jt_tot (X 1 3) m (X 2) (jx_lh X ts t)
def jx_hi (X : jl_Mem) (ts m t : Nat) : Int32 := jt_tot (X 1 3) m (X 2) (jx_hh X ts t)
theorem jx_sg.wl {ts l : Nat} {X X2 : jl_Mem} (h : jx_sg ts X X2) : jx_wl X2 ts l = jx_wl X ts l := by
  unfold jx_wl
  rw [h 5 (by omega), h (ts + 1) (by omega)]
theorem jx_sg.se {ts l t : Nat} {X X2 : jl_Mem} (h : jx_sg ts X X2) (hl : l < 4) : jx_se X2 ts l t = jx_se X ts l t := by
  unfold jx_se
  rw [h (7 + l) (by omega), h (17 + l) (by omega), h (ts + 1) (by omega)]
theorem jx_sg.kn {ts l t : Nat} {X X2 : jl_Mem} (h : jx_sg ts X X2) (hl : l < 4) : jx_kn X2 ts l t = jx_kn X ts l t := by
  unfold jx_kn
  rw [h.wl, h.se hl, h (ts + 2) (by omega)]
theorem jx_sg.tp {ts l : Nat} {X X2 : jl_Mem} (h : jx_sg ts X X2) (hl : l < 4) : jx_tp X2 ts l = jx_tp X ts l := by
  unfold jx_tp
  rw [h.wl, h (7 + l) (by omega), h (12 + l) (by omega), h (ts + 1) (by omega)]
theorem jx_sg.lo {ts m t : Nat} {X X2 : jl_Mem} (h : jx_sg ts X X2) (hm : m ≤ 4) : jx_lo X2 ts m t = jx_lo X ts m t := by
  unfold jx_lo
  rw [h 1 (by omega), h 2 (by omega)]
  refine jt_cong (fun l hl => ⟨rfl, ?_⟩)
  unfold jx_lh
  rw [h.kn (by omega), h (7 + l) (by omega)]
theorem jx_sg.hi {ts m t : Nat} {X X2 : jl_Mem} (h : jx_sg ts X X2) (hm : m ≤ 4) : jx_hi X2 ts m t = jx_hi X ts m t := by
  unfold jx_hi
  rw [h 1 (by omega), h 2 (by omega)]
  refine jt_cong (fun l hl => ⟨rfl, ?_⟩)
  unfold jx_hh
  rw [h.kn (by omega), h (7 + l) (by omega), h.tp (by omega)]
theorem jp_isWhole {ts l : Nat} {X : jl_Mem} (hl : l < 4) : jf_X2_isWhole ts (nI l) X = some (jq_i (jx_wl X ts l), X) := by
  unfold jf_X2_isWhole
  rw [jl_inb_n hl (by omega), jl_chk_t, nI_clamp (by omega)]
  unfold jx_wl
  by_cases h : X (ts + 1) l < X 5 l
  · rw [if_pos h, decide_eq_false (Int32.not_le.mpr h)]
    rfl
  · rw [if_neg h, decide_eq_true (Int32.not_lt.mp h)]
    rfl
theorem jp_atSeen {ts l t : Nat} {X : jl_Mem} (hl : l < 4) (ht : t < 20) : jf_X2_isAtSeenPlace ts (nI l) (nI t) X = some (jq_i (jx_se X ts l t), X) := by
  unfold jf_X2_isAtSeenPlace
  rw [jl_inb_n hl (by omega), jl_inb_n ht (by omega), nI_clamp (by omega), nI_clamp (by omega), jl_chk_t, jl_chk_t]
  unfold jx_se
  by_cases h : X (7 + l) t = 0
  · rw [if_pos h, decide_eq_false (fun q => q h)]
    rfl
  · rw [if_neg h, decide_eq_true h]
    by_cases h2 : X (ts + 1) l ≤ X (17 + l) t
    · rw [if_pos h2, decide_eq_false (Int32.not_lt.mpr h2)]
      rfl
    · rw [if_neg h2, decide_eq_true (Int32.not_le.mp h2)]
      rfl
theorem jp_isKnown {ts l t : Nat} {X : jl_Mem} (hl : l < 4) (ht : t < 20) : jf_X2_isKnown ts (nI l) (nI t) X = some (jq_i (jx_kn X ts l t), X) := by
  unfold jf_X2_isKnown
  rw [jp_isWhole hl, jl_bnd_s, jq_if, jp_atSeen hl ht, jl_bnd_s, jq_if, jl_inb_n hl (by omega), nI_clamp (by omega), jl_chk_t]
  unfold jx_kn
  cases jx_wl X ts l with
  | true => rfl
  | false =>
    cases jx_se X ts l t with
    | true => rfl
    | false =>
      show (if ((X (ts + 2) l >>> (nI t &&& 31)) &&& 1) = 1 then some (1, X) else some (0, X)) = some (jq_i (jq_bit (X (ts + 2) l) t), X)
      unfold jq_bit
      by_cases h : ((X (ts + 2) l >>> (nI t &&& 31)) &&& 1) = 1
      · rw [if_pos h, decide_eq_true h]
        rfl
      · rw [if_neg h, decide_eq_false h]
        rfl
/-- a list that wasn't read to its end: the depth, and the thing at the last place that was seen -/
theorem jx_dep {n m ts l : Nat} {X : jl_Mem} (hI : jx_I n m X) (hV : jx_V m X ts) (hl : l < m) : ∃ d ln, d ≤ ln ∧ ln ≤ n ∧ n ≤ 20 ∧ X (ts + 1) l = nI d ∧ X 5 l = nI ln := by
  obtain ⟨⟨a, -⟩, -, -, g⟩ := hI
  obtain ⟨ln, h1, h2, -⟩ := g l hl
  obtain ⟨d, h3, h4, h5⟩ := hV l hl
  rw [h2, nI_leI (by omega) (by omega)] at h5
  exact ⟨d, ln, h5, h1, a, h4, h2⟩
theorem jx_last {n m ts l : Nat} {X : jl_Mem} (hI : jx_I n m X) (hV : jx_V m X ts) (hl : l < m) (h0 : ¬ X (ts + 1) l = 0) : ∃ d t, X (ts + 1) l = nI (d + 1) ∧ d < 20 ∧ t < n ∧ X (12 + l) d = nI t := by
  obtain ⟨d, ln, h1, h2, h3, h4, h5⟩ := jx_dep hI hV hl
  obtain ⟨-, -, -, g⟩ := hI
  obtain ⟨ln2, q1, q2, q3, -⟩ := g l hl
  have e : ln2 = ln := (nI_eq (by omega) (by omega)).mp (q2.symm.trans h5)
  subst e
  cases d with
  | zero => exact absurd h4 h0
  | succ d =>
    obtain ⟨t, a1, a2, -⟩ := q3 d (by omega)
    exact ⟨d, t, h4, by omega, a1, a2⟩
theorem jp_topOf {n m ts l : Nat} {X : jl_Mem} (hI : jx_I n m X) (hV : jx_V m X ts) (hl : l < m) : jf_X2_topOf ts (nI l) X = some (jx_tp X ts l, X) := by
  have hm : m ≤ 4 := hI.1.2.1
  unfold jf_X2_topOf
  rw [jp_isWhole (by omega), jl_bnd_s, jq_if, jl_inb_n (by omega) (by omega), nI_clamp (by omega)]
  simp only [jl_chk_t, jl_lt_e]
  unfold jx_tp
  cases jx_wl X ts l with
  | true => rfl
  | false =>
    simp only [Bool.false_eq_true, if_false]
    by_cases h : X (ts + 1) l = 0
    · rw [if_pos h, if_pos h]
    · rw [if_neg h, if_neg h]
      obtain ⟨d, t, h1, h2, h3, h4⟩ := jx_last hI hV hl h
      have hn := hI.1.1
      rw [h1, nI_pred, jl_inb_n h2 (by omega), jl_chk_t, nI_clamp (by omega), h4, jl_inb_n (by omega) (by omega), jl_chk_t]
theorem jx_tp_pos {n m ts l : Nat} {X : jl_Mem} (hI : jx_I n m X) (hV : jx_V m X ts) (hl : l < m) : 0 ≤ jx_tp X ts l := by
  unfold jx_tp
  by_cases h : jx_wl X ts l = true
  · rw [if_pos h]
    decide
  · rw [if_neg h]
    by_cases h0 : X (ts + 1) l = 0
    · rw [if_pos h0]
      decide
    · rw [if_neg h0]
      obtain ⟨d, t, h1, h2, h3, h4⟩ := jx_last hI hV hl h0
      have hn := hI.1.1
      have hm := hI.1.2.1
      rw [h1, nI_pred, nI_clamp (by omega), h4, nI_clamp (by omega)]
      exact hI.2.2.1 l t (by omega) (by omega)
theorem jx_lh_pos {n m ts l t : Nat} {X : jl_Mem} (hI : jx_I n m X) (hl : l < m) (ht : t < n) : 0 ≤ jx_lh X ts t l := by
  unfold jx_lh
  have hn := hI.1.1
  have hm := hI.1.2.1
  by_cases h : jx_kn X ts l t = true
  · rw [if_pos h]
    exact hI.2.2.1 l t (by omega) (by omega)
  · rw [if_neg h]
    decide
theorem jx_hh_pos {n m ts l t : Nat} {X : jl_Mem} (hI : jx_I n m X) (hV : jx_V m X ts) (hl : l < m) (ht : t < n) : 0 ≤ jx_hh X ts t l := by
  unfold jx_hh
  have hn := hI.1.1
  have hm := hI.1.2.1
  by_cases h : jx_kn X ts l t = true
  · rw [if_pos h]
    exact hI.2.2.1 l t (by omega) (by omega)
  · rw [if_neg h]
    exact jx_tp_pos hI hV hl
theorem jx_sg_sa {ts k : Nat} {X : jl_Mem} {f : Nat → Int32} (hs : jx_isS ts) (hk : k = ts ∨ k = ts + 3 ∨ k = ts + 4) : jx_sg ts X (jl_sa X k f) := fun q hq => jl_sa_ne X f (by rcases hs with e | e <;> omega)
theorem jx_a3_sa {ts k : Nat} {X : jl_Mem} {f : Nat → Int32} (hk : k = ts ∨ k = ts + 3 ∨ k = ts + 4) : jx_a3 ts X (jl_sa X k f) := fun q h1 h2 h3 => jl_sa_ne X f (by omega)
theorem jp_lowOf {n m ts t : Nat} {X : jl_Mem} (hs : jx_isS ts) (hI : jx_I n m X) (ht : t < n) : ∃ f, jf_X2_lowOf ts (nI t) X = some (jx_lo X ts m t, jl_sa X (ts + 3) f) := by
  have hn := hI.1.1
  have hm := hI.1.2.1
  refine ⟨jq_fl (jx_lh X ts t) (X (ts + 3)) m, ?_⟩
  unfold jf_X2_lowOf
  rw [jl_lt_e]
  have hsg : ∀ i, jx_sg ts X (jl_sa X (ts + 3) (jq_fl (jx_lh X ts t) (X (ts + 3)) i)) := fun i => jx_sg_sa hs (Or.inr (Or.inl rfl))
  have h0 : ((0 : Int32), X) = (nI 0, jl_sa X (ts + 3) (jq_fl (jx_lh X ts t) (X (ts + 3)) 0)) := by rw [jq_fl_0, jl_sa_self, nI_0]
  rw [h0]
  refine jl_loopE (fun i => (nI i, jl_sa X (ts + 3) (jq_fl (jx_lh X ts t) (X (ts + 3)) i))) _ m (by omega) (fun i hi => ?_) ?_
  · show jf_X2_lowOf_L2 ts (nI t) (nI i) (jl_sa X (ts + 3) (jq_fl (jx_lh X ts t) (X (ts + 3)) i)) = _
    have hg := hsg i
    have e := jl_st_fl X (ts + 3) i (jx_lh X ts t) (X (ts + 3))
    generalize jl_sa X (ts + 3) (jq_fl (jx_lh X ts t) (X (ts + 3)) i) = X2 at hg e ⊢
    unfold jf_X2_lowOf_L2
    rw [hg 1 (by omega), hI.1.2.2.2, if_neg (nI_ge hi (by omega)), jp_isKnown (by omega) (by omega), jl_bnd_s, jq_if, hg.kn (by omega), jl_inb_n (by omega) (by omega), jl_inb_n (show t < 20 by omega) (by omega), nI_clamp (by omega), nI_clamp (by omega), hg (7 + i) (by omega)]
    simp only [jl_chk_t, jl_lt_e]
    rw [nI_1, ← e]
    unfold jx_lh
    by_cases h : jx_kn X ts i t = true
    · rw [if_pos h, if_pos h]
    · rw [if_neg h, if_neg h]
  · show jf_X2_lowOf_L2 ts (nI t) (nI m) (jl_sa X (ts + 3) (jq_fl (jx_lh X ts t) (X (ts + 3)) m)) = _
    have hg := hsg m
    have e3 : (jl_sa X (ts + 3) (jq_fl (jx_lh X ts t) (X (ts + 3)) m)) (ts + 3) = jq_fl (jx_lh X ts t) (X (ts + 3)) m := jl_sa_same _ _ _
    generalize jl_sa X (ts + 3) (jq_fl (jx_lh X ts t) (X (ts + 3)) m) = X2 at hg e3 ⊢
    unfold jf_X2_lowOf_L2
    rw [hg 1 (by omega), hI.1.2.2.2, if_pos (nI_le (Nat.le_refl _) (by omega)), jp_comb (m := m) (by rw [hg 1 (by omega)]; exact hI.1.2.2.2) hm (jx_ls3 hs) (fun l hl => ⟨by rw [hg 2 (by omega)]; exact hI.2.1 l hl, by rw [e3, jq_fl_in hl]; exact jx_lh_pos hI hl ht⟩), jl_bnd_s, jl_ex_s, e3, hg 1 (by omega), hg 2 (by omega)]
    unfold jx_lo
    rw [jt_cong (fun l hl => ⟨rfl, jq_fl_in hl⟩)]
theorem jp_highOf {n m ts t : Nat} {X : jl_Mem} (hs : jx_isS ts) (hI : jx_I n m X) (hV : jx_V m X ts) (ht : t < n) : ∃ f, jf_X2_highOf ts (nI t) X = some (jx_hi X ts m t, jl_sa X (ts + 3) f) := by
  have hn := hI.1.1
  have hm := hI.1.2.1
  refine ⟨jq_fl (jx_hh X ts t) (X (ts + 3)) m, ?_⟩
  unfold jf_X2_highOf
  rw [jl_lt_e]
  have hsg : ∀ i, jx_sg ts X (jl_sa X (ts + 3) (jq_fl (jx_hh X ts t) (X (ts + 3)) i)) := fun i => jx_sg_sa hs (Or.inr (Or.inl rfl))
  have h0 : ((0 : Int32), X) = (nI 0, jl_sa X (ts + 3) (jq_fl (jx_hh X ts t) (X (ts + 3)) 0)) := by rw [jq_fl_0, jl_sa_self, nI_0]
  rw [h0]
  refine jl_loopE (fun i => (nI i, jl_sa X (ts + 3) (jq_fl (jx_hh X ts t) (X (ts + 3)) i))) _ m (by omega) (fun i hi => ?_) ?_
  · show jf_X2_highOf_L2 ts (nI t) (nI i) (jl_sa X (ts + 3) (jq_fl (jx_hh X ts t) (X (ts + 3)) i)) = _
    have hg := hsg i
    have e := jl_st_fl X (ts + 3) i (jx_hh X ts t) (X (ts + 3))
    generalize jl_sa X (ts + 3) (jq_fl (jx_hh X ts t) (X (ts + 3)) i) = X2 at hg e ⊢
    unfold jf_X2_highOf_L2
    rw [hg 1 (by omega), hI.1.2.2.2, if_neg (nI_ge hi (by omega)), jp_isKnown (by omega) (by omega), jl_bnd_s, jq_if, hg.kn (by omega), jp_topOf (hg.I hI) (hg.V hV) hi, jl_bnd_s, hg.tp (by omega), jl_inb_n (by omega) (by omega), jl_inb_n (show t < 20 by omega) (by omega), nI_clamp (by omega), nI_clamp (by omega), hg (7 + i) (by omega)]
    simp only [jl_chk_t, jl_lt_e]
    rw [nI_1, ← e]
    unfold jx_hh
    by_cases h : jx_kn X ts i t = true
    · rw [if_pos h, if_pos h]
    · rw [if_neg h, if_neg h]
  · show jf_X2_highOf_L2 ts (nI t) (nI m) (jl_sa X (ts + 3) (jq_fl (jx_hh X ts t) (X (ts + 3)) m)) = _
    have hg := hsg m
    have e3 : (jl_sa X (ts + 3) (jq_fl (jx_hh X ts t) (X (ts + 3)) m)) (ts + 3) = jq_fl (jx_hh X ts t) (X (ts + 3)) m := jl_sa_same _ _ _
    generalize jl_sa X (ts + 3) (jq_fl (jx_hh X ts t) (X (ts + 3)) m) = X2 at hg e3 ⊢
    unfold jf_X2_highOf_L2
    rw [hg 1 (by omega), hI.1.2.2.2, if_pos (nI_le (Nat.le_refl _) (by omega)), jp_comb (m := m) (by rw [hg 1 (by omega)]; exact hI.1.2.2.2) hm (jx_ls3 hs) (fun l hl => ⟨by rw [hg 2 (by omega)]; exact hI.2.1 l hl, by rw [e3, jq_fl_in hl]; exact jx_hh_pos hI hV hl ht⟩), jl_bnd_s, jl_ex_s, e3, hg 1 (by omega), hg 2 (by omega)]
    unfold jx_hi
    rw [jt_cong (fun l hl => ⟨rfl, jq_fl_in hl⟩)]
