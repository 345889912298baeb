/-! ===== drawers: more things than places ===== -/
theorem fb_holes : ∀ (m n : Nat) (f : Nat → Nat), (∀ i, i < n → f i < m) → (∀ i j, i < j → j < n → f i ≠ f j) → n ≤ m := by
  intro m
  induction m with
  | zero =>
    intro n f h1 _
    rcases Nat.eq_zero_or_pos n with h | h
    · omega
    · exact absurd (h1 0 h) (Nat.not_lt_zero _)
  | succ m ih =>
    intro n f h1 h2
    by_cases hx : ∃ i, i < n ∧ f i = m
    · obtain ⟨a, ha, hfa⟩ := hx
      have hg := ih (n - 1) (fun i => if i < a then f i else f (i + 1)) (by
        intro i hi
        by_cases q : i < a
        · simp only [if_pos q]
          have b1 := h1 i (by omega)
          have b2 := h2 i a q ha
          omega
        · simp only [if_neg q]
          have b1 := h1 (i + 1) (by omega)
          have b2 := h2 a (i + 1) (by omega) (by omega)
          omega) (by
        intro i j hij hj
        by_cases q : i < a
        · by_cases r : j < a
          · simp only [if_pos q, if_pos r]
            exact h2 i j hij (by omega)
          · simp only [if_pos q, if_neg r]
            exact h2 i (j + 1) (by omega) (by omega)
        · have r : ¬ j < a := by omega
          simp only [if_neg q, if_neg r]
          exact h2 (i + 1) (j + 1) (by omega) (by omega))
      omega
    · have hg := ih n f (fun i hi => by
        have b1 := h1 i hi
        have b2 : f i ≠ m := fun e => hx ⟨i, hi, e⟩
        omega) h2
      omega
/-- two of them in one place -/
theorem fb_twice {m n : Nat} {f : Nat → Nat} (h : ∀ i, i < n → f i < m) (hm : m < n) : ∃ i j, i < j ∧ j < n ∧ f i = f j := by
  refine Classical.byContradiction fun hx => ?_
  have := fb_holes m n f h (fun i j hij hj e => hx ⟨i, j, hij, hj, e⟩)
  omega
/-- as many as places, none twice: each place is taken -/
theorem fb_onto {n : Nat} {f : Nat → Nat} (h : ∀ i, i < n → f i < n) (h2 : ∀ i j, i < j → j < n → f i ≠ f j) {y : Nat} (hy : y < n) : ∃ i, i < n ∧ f i = y := by
  refine Classical.byContradiction fun hx => ?_
  have hne : ∀ i, i < n → f i ≠ y := fun i hi e => hx ⟨i, hi, e⟩
  have := fb_holes (n - 1) n (fun i => if f i < y then f i else f i - 1) (by
    intro i hi
    have b1 := h i hi
    have b2 := hne i hi
    by_cases q : f i < y
    · simp only [if_pos q]; omega
    · simp only [if_neg q]; omega) (by
    intro i j hij hj
    have b1 := hne i (by omega)
    have b2 := hne j hj
    have b3 := h2 i j hij hj
    by_cases q : f i < y
    · by_cases r : f j < y
      · simp only [if_pos q, if_pos r]; exact b3
      · simp only [if_pos q, if_neg r]; omega
    · by_cases r : f j < y
      · simp only [if_neg q, if_pos r]; omega
      · simp only [if_neg q, if_neg r]; omega)
  omega
/-! ===== how many places have a property ===== -/
def fb_ct (p : Nat → Bool) : Nat → Nat
  | 0 => 0
  | n + 1 => fb_ct p n + (if p n then 1 else 0)
theorem fb_ct_succ (p : Nat → Bool) (n : Nat) : fb_ct p (n + 1) = fb_ct p n + (if p n then 1 else 0) := rfl
theorem fb_ct_le (p : Nat → Bool) : ∀ n, fb_ct p n ≤ n
  | 0 => Nat.le_refl _
  | n + 1 => by
    have h := fb_ct_le p n
    rw [fb_ct_succ]
    split <;> omega
theorem fb_ct_step (p : Nat → Bool) (m : Nat) : ∀ n, fb_ct p m ≤ fb_ct p (m + n)
  | 0 => Nat.le_refl _
  | n + 1 => by
    have h := fb_ct_step p m n
    show fb_ct p m ≤ fb_ct p (m + n + 1)
    rw [fb_ct_succ]
    omega
theorem fb_ct_mono (p : Nat → Bool) {m n : Nat} (h : m ≤ n) : fb_ct p m ≤ fb_ct p n := by
  have := fb_ct_step p m (n - m)
  rwa [Nat.add_sub_cancel' h] at this
theorem fb_ct_cong {p q : Nat → Bool} : ∀ {n : Nat}, (∀ k, k < n → p k = q k) → fb_ct p n = fb_ct q n
  | 0, _ => rfl
  | n + 1, h => by
    rw [fb_ct_succ, fb_ct_succ, fb_ct_cong (fun k hk => h k (by omega)), h n (by omega)]
/-- one place changed -/
theorem fb_ct_out (p : Nat → Bool) (b : Bool) {i n : Nat} (h : n ≤ i) : fb_ct (fun k => if k = i then b else p k) n = fb_ct p n :=
  fb_ct_cong fun k hk => if_neg (by omega)
theorem fb_ct_upd (p : Nat → Bool) (b : Bool) {i : Nat} : ∀ {n : Nat}, i < n → fb_ct (fun k => if k = i then b else p k) n + (if p i then 1 else 0) = fb_ct p n + (if b then 1 else 0)
  | 0, h => absurd h (Nat.not_lt_zero i)
  | n + 1, h => by
    rw [fb_ct_succ, fb_ct_succ]
    rcases Nat.lt_or_ge i n with q | q
    · have := fb_ct_upd p b q
      have e : (if n = i then b else p n) = p n := if_neg (by omega)
      rw [e]
      omega
    · have e : i = n := by omega
      subst e
      rw [fb_ct_out p b (Nat.le_refl _)]
      simp only [if_true]
      omega
theorem fb_ct_sub {p q : Nat → Bool} : ∀ {n : Nat}, (∀ k, k < n → p k = true → q k = true) → fb_ct p n ≤ fb_ct q n
  | 0, _ => Nat.le_refl _
  | n + 1, h => by
    have h1 := fb_ct_sub (n := n) (p := p) (q := q) (fun k hk => h k (by omega))
    have h2 := h n (by omega)
    rw [fb_ct_succ, fb_ct_succ]
    cases hp : p n <;> cases hq : q n <;> simp_all <;> omega
theorem fb_ct_or {p q : Nat → Bool} : ∀ {n : Nat}, (∀ k, k < n → ¬ (p k = true ∧ q k = true)) → fb_ct (fun k => p k || q k) n = fb_ct p n + fb_ct q n
  | 0, _ => rfl
  | n + 1, h => by
    have h1 := fb_ct_or (n := n) (p := p) (q := q) (fun k hk => h k (by omega))
    have h2 := h n (by omega)
    rw [fb_ct_succ, fb_ct_succ, fb_ct_succ, h1]
    cases hp : p n <;> cases hq : q n <;> simp_all <;> omega
theorem fb_ct_not (p : Nat → Bool) : ∀ n, fb_ct p n + fb_ct (fun k => !p k) n = n
  | 0 => rfl
  | n + 1 => by
    have h := fb_ct_not p n
    rw [fb_ct_succ, fb_ct_succ]
    cases p n <;> simp <;> omega
theorem fb_ct_split (p : Nat → Bool) (m : Nat) : ∀ n, fb_ct p (m + n) = fb_ct p m + fb_ct (fun k => p (m + k)) n
  | 0 => rfl
  | n + 1 => by
    have h := fb_ct_split p m n
    show fb_ct p (m + n + 1) = _
    rw [fb_ct_succ, fb_ct_succ, h, Nat.add_assoc]
theorem fb_ct_zero {p : Nat → Bool} : ∀ {n : Nat}, fb_ct p n = 0 ↔ ∀ k, k < n → p k = false
  | 0 => ⟨fun _ k hk => absurd hk (Nat.not_lt_zero k), fun _ => rfl⟩
  | n + 1 => by
    have h := fb_ct_zero (p := p) (n := n)
    rw [fb_ct_succ]
    constructor
    · intro e k hk
      have e1 : fb_ct p n = 0 := by omega
      rcases Nat.lt_or_ge k n with q | q
      · exact h.mp e1 k q
      · have ek : k = n := by omega
        subst ek
        cases hp : p k
        · rfl
        · simp [hp] at e
    · intro a
      rw [h.mpr (fun k hk => a k (by omega)), a n (by omega)]
      rfl
theorem fb_ct_pos {p : Nat → Bool} {n : Nat} : 0 < fb_ct p n ↔ ∃ k, k < n ∧ p k = true := by
  constructor
  · intro h
    refine Classical.byContradiction fun hx => ?_
    have := fb_ct_zero.mpr (fun k hk => by
      cases hp : p k
      · rfl
      · exact absurd ⟨k, hk, hp⟩ hx : ∀ k, k < n → p k = false)
    omega
  · rintro ⟨k, hk, hp⟩
    rcases Nat.eq_zero_or_pos (fb_ct p n) with e | e
    · have := fb_ct_zero.mp e k hk
      rw [this] at hp
      cases hp
    · exact e
theorem fb_ct_all {p : Nat → Bool} {n : Nat} : fb_ct p n = n ↔ ∀ k, k < n → p k = true := by
  have h := fb_ct_not p n
  constructor
  · intro e k hk
    have z : fb_ct (fun k => !p k) n = 0 := by omega
    have := fb_ct_zero.mp z k hk
    cases hp : p k
    · simp [hp] at this
    · rfl
  · intro a
    have z : fb_ct (fun k => !p k) n = 0 := fb_ct_zero.mpr (fun k hk => by simp [a k hk])
    omega
/-- the k-th place with the property -/
theorem fb_ct_kth {p : Nat → Bool} {k : Nat} : ∀ {n : Nat}, k < fb_ct p n → ∃ i, i < n ∧ p i = true ∧ fb_ct p i = k
  | 0, h => absurd h (Nat.not_lt_zero k)
  | n + 1, h => by
    rcases Nat.lt_or_ge k (fb_ct p n) with q | q
    · obtain ⟨i, h1, h2⟩ := fb_ct_kth q
      exact ⟨i, by omega, h2⟩
    · rw [fb_ct_succ] at h
      cases hp : p n
      · simp [hp] at h; omega
      · simp [hp] at h
        exact ⟨n, by omega, hp, by omega⟩
theorem fb_ct_kth_one {p : Nat → Bool} {i j : Nat} (hi : p i = true) (hj : p j = true) (e : fb_ct p i = fb_ct p j) : i = j := by
  have key : ∀ a b : Nat, a < b → p a = true → fb_ct p a < fb_ct p b := by
    intro a b hab ha
    have h := fb_ct_mono p (show a + 1 ≤ b from hab)
    rw [fb_ct_succ, ha] at h
    simp at h
    omega
  rcases Nat.lt_trichotomy i j with q | q | q
  · have := key i j q hi; omega
  · exact q
  · have := key j i q hj; omega
/-! ===== Int32 by its bits: bt x i ===== -/
def bt (x : Int32) (i : Nat) : Bool := x.toBitVec.getLsbD i
theorem b_ext {x y : Int32} (h : ∀ i, i < 32 → bt x i = bt y i) : x = y := Int32.toBitVec_inj.mp (BitVec.eq_of_getLsbD_eq (fun i hi => h i hi))
theorem b_or (x y : Int32) (i : Nat) : bt (x ||| y) i = (bt x i || bt y i) := by unfold bt; rw [Int32.toBitVec_or, BitVec.getLsbD_or]
theorem b_and (x y : Int32) (i : Nat) : bt (x &&& y) i = (bt x i && bt y i) := by unfold bt; rw [Int32.toBitVec_and, BitVec.getLsbD_and]
theorem b_xor (x y : Int32) (i : Nat) : bt (x ^^^ y) i = (bt x i ^^ bt y i) := by unfold bt; rw [Int32.toBitVec_xor, BitVec.getLsbD_xor]
theorem b_big {x : Int32} {i : Nat} (h : 32 ≤ i) : bt x i = false := BitVec.getLsbD_of_ge _ _ h
theorem b_255 (i : Nat) : bt 255 i = decide (i < 8) := by
  rcases Nat.lt_or_ge i 32 with h | h
  · exact (by decide +kernel : ∀ i, i < 32 → bt 255 i = decide (i < 8)) i h
  · rw [b_big h, decide_eq_false (by omega)]
theorem b_65535 (i : Nat) : bt 65535 i = decide (i < 16) := by
  rcases Nat.lt_or_ge i 32 with h | h
  · exact (by decide +kernel : ∀ i, i < 32 → bt 65535 i = decide (i < 16)) i h
  · rw [b_big h, decide_eq_false (by omega)]
theorem b_m1 : ∀ i, i < 32 → bt (-1) i = true := by decide +kernel
theorem b_0 (i : Nat) : bt 0 i = false := BitVec.getLsbD_zero
theorem s_l : ∀ n, n < 32 → ((nI n &&& 31).toBitVec.smod 32).toNat = n := by decide +kernel
theorem s_u : ∀ n, n < 32 → (((nI n).toUInt32 &&& Int32.toUInt32 31).toBitVec % 32).toNat = n := by decide +kernel
theorem b_shl (n : Nat) (hn : n < 32) (x : Int32) {i : Nat} (hi : i < 32) : bt (x <<< (nI n &&& 31)) i = (decide (n ≤ i) && bt x (i - n)) := by
  unfold bt
  rw [Int32.toBitVec_shiftLeft]
  show (x.toBitVec <<< ((nI n &&& 31).toBitVec.smod 32).toNat).getLsbD i = _
  rw [s_l n hn, BitVec.getLsbD_shiftLeft]
  rcases Nat.lt_or_ge i n with h | h
  · simp [h, Nat.not_le.mpr h]
  · simp [hi, h, Nat.not_lt.mpr h]
theorem b_ushr (n : Nat) (hn : n < 32) (x : Int32) (i : Nat) : bt ((x.toUInt32 >>> ((nI n).toUInt32 &&& Int32.toUInt32 31)).toInt32) i = bt x (n + i) := by
  show (x.toUInt32 >>> ((nI n).toUInt32 &&& Int32.toUInt32 31)).toBitVec.getLsbD i = x.toUInt32.toBitVec.getLsbD (n + i)
  rw [UInt32.toBitVec_shiftRight]
  show (x.toUInt32.toBitVec >>> (((nI n).toUInt32 &&& Int32.toUInt32 31).toBitVec % 32).toNat).getLsbD i = _
  rw [s_u n hn, BitVec.getLsbD_ushiftRight]
theorem b_sshr (n : Nat) (hn : n < 32) (x : Int32) {i : Nat} (hi : i < 32) : bt (x >>> (nI n &&& 31)) i = if n + i < 32 then bt x (n + i) else bt x 31 := by
  unfold bt
  rw [Int32.toBitVec_shiftRight]
  show (x.toBitVec.sshiftRight ((nI n &&& 31).toBitVec.smod 32).toNat).getLsbD i = _
  rw [s_l n hn, BitVec.getLsbD_sshiftRight, BitVec.msb_eq_getLsbD_last]
  simp [hi]
theorem b_shl8 (x : Int32) {i : Nat} (hi : i < 32) : bt (x <<< ((8 : Int32) &&& 31)) i = (decide (8 ≤ i) && bt x (i - 8)) := b_shl 8 (by omega) x hi
theorem b_shl16 (x : Int32) {i : Nat} (hi : i < 32) : bt (x <<< ((16 : Int32) &&& 31)) i = (decide (16 ≤ i) && bt x (i - 16)) := b_shl 16 (by omega) x hi
theorem b_shl24 (x : Int32) {i : Nat} (hi : i < 32) : bt (x <<< ((24 : Int32) &&& 31)) i = (decide (24 ≤ i) && bt x (i - 24)) := b_shl 24 (by omega) x hi
theorem b_sshr8 (x : Int32) {i : Nat} (hi : i < 32) : bt (x >>> ((8 : Int32) &&& 31)) i = if 8 + i < 32 then bt x (8 + i) else bt x 31 := b_sshr 8 (by omega) x hi
/-! ===== signed ints as whole numbers, within bounds ===== -/
theorem fb_rng (x : Int32) : -2147483648 ≤ x.toInt ∧ x.toInt < 2147483648 := by
  have h1 := Int32.le_toInt x
  have h2 := Int32.toInt_lt x
  omega
theorem fb_bmod {z : Int} (h1 : -2147483648 ≤ z) (h2 : z < 2147483648) : z.bmod (2 ^ 32) = z := by
  rw [Int.bmod_eq_of_le (by omega) (by omega)]
theorem fb_addI {x y : Int32} (h1 : -2147483648 ≤ x.toInt + y.toInt) (h2 : x.toInt + y.toInt < 2147483648) : (x + y).toInt = x.toInt + y.toInt := by
  rw [Int32.toInt_add, fb_bmod h1 h2]
theorem fb_subI {x y : Int32} (h1 : -2147483648 ≤ x.toInt - y.toInt) (h2 : x.toInt - y.toInt < 2147483648) : (x - y).toInt = x.toInt - y.toInt := by
  rw [Int32.toInt_sub, fb_bmod h1 h2]
theorem fb_mulI {x y : Int32} (h1 : -2147483648 ≤ x.toInt * y.toInt) (h2 : x.toInt * y.toInt < 2147483648) : (x * y).toInt = x.toInt * y.toInt := by
  rw [Int32.toInt_mul, fb_bmod h1 h2]
theorem fb_negI {x : Int32} (h : x.toInt ≠ -2147483648) : (-x).toInt = -x.toInt := by
  have := fb_rng x
  rw [Int32.toInt_neg, fb_bmod (by omega) (by omega)]
theorem fb_ofI {z : Int} (h1 : -2147483648 ≤ z) (h2 : z < 2147483648) : (Int32.ofInt z).toInt = z := by
  rw [Int32.toInt_ofInt, fb_bmod h1 h2]
theorem fb_asI (x : Int32) : Int32.ofInt x.toInt = x := Int32.ofInt_toInt x
theorem fb_rngL (x : Int64) : -9223372036854775808 ≤ x.toInt ∧ x.toInt < 9223372036854775808 := by
  have h1 := Int64.le_toInt x
  have h2 := Int64.toInt_lt x
  omega
theorem fb_bmodL {z : Int} (h1 : -9223372036854775808 ≤ z) (h2 : z < 9223372036854775808) : z.bmod (2 ^ 64) = z := by
  rw [Int.bmod_eq_of_le (by omega) (by omega)]
theorem fb_addL {x y : Int64} (h1 : -9223372036854775808 ≤ x.toInt + y.toInt) (h2 : x.toInt + y.toInt < 9223372036854775808) : (x + y).toInt = x.toInt + y.toInt := by
  rw [Int64.toInt_add, fb_bmodL h1 h2]
theorem fb_subL {x y : Int64} (h1 : -9223372036854775808 ≤ x.toInt - y.toInt) (h2 : x.toInt - y.toInt < 9223372036854775808) : (x - y).toInt = x.toInt - y.toInt := by
  rw [Int64.toInt_sub, fb_bmodL h1 h2]
theorem fb_mulL {x y : Int64} (h1 : -9223372036854775808 ≤ x.toInt * y.toInt) (h2 : x.toInt * y.toInt < 9223372036854775808) : (x * y).toInt = x.toInt * y.toInt := by
  rw [Int64.toInt_mul, fb_bmodL h1 h2]
/-! pure 1: loops, indices, order, ranks -/
theorem jl_lt_e {α β : Type} (x : α) (k : α → Option β) : jl_lt x k = k x := rfl
theorem jl_chk_t {α : Type} (k : Option α) : jl_chk true k = k := rfl
theorem jl_bnd_s {α : Type} (r : Int32) (M : jl_Mem) (k : Int32 → jl_Mem → Option α) : jl_bnd (some (r, M)) k = k r M := rfl
theorem jl_isB_0 : jl_isB 0 = true := by decide
theorem jl_isB_1 : jl_isB 1 = true := by decide
theorem jl_inb_n {i n : Nat} (h : i < n) (hn : n < 2 ^ 31) : jl_inb (nI i) n = true := jl_inb_of (vp_in_nI h hn)
theorem jl_loop {S R : Type} {f : S → Option (S ⊕ R)} (I : Nat → S → Prop) (Post : R → Prop) (N : Nat)
    (hs : ∀ i s, i ≤ N → I i s → (i < N ∧ ∃ s2, f s = some (.inl s2) ∧ I (i + 1) s2) ∨ (∃ r, f s = some (.inr r) ∧ Post r)) :
    ∀ (k i : Nat) (s : S), I i s → i ≤ N → N < i + k → ∃ r, jl_wh f k s = some r ∧ Post r := by
  intro k
  induction k with
  | zero =>
    intro i s _ h1 h2
    omega
  | succ k ih =>
    intro i s hI h1 h2
    rcases hs i s h1 hI with ⟨h3, s2, h4, h5⟩ | ⟨r, h4, h5⟩
    · obtain ⟨r, h6, h7⟩ := ih (i + 1) s2 h5 (by omega) (by omega)
      refine ⟨r, ?_, h7⟩
      simp only [jl_wh, h4]
      exact h6
    · refine ⟨r, ?_, h5⟩
      simp only [jl_wh, h4]
theorem jl_loopF {S R : Type} {f : S → Option (S ⊕ R)} (I : Nat → S → Prop) (Post : R → Prop) (N : Nat) (hN : N < 1000) {s0 : S} (h0 : I 0 s0)
    (hs : ∀ i s, i ≤ N → I i s → (i < N ∧ ∃ s2, f s = some (.inl s2) ∧ I (i + 1) s2) ∨ (∃ r, f s = some (.inr r) ∧ Post r)) : ∃ r, jl_wh f jl_F s0 = some r ∧ Post r :=
  jl_loop I Post N hs jl_F 0 s0 h0 (Nat.zero_le _) (by show N < 0 + 1000; omega)
/-- a loop whose states are known: N turns, then the answer -/
theorem jl_loopE {S R : Type} {f : S → Option (S ⊕ R)} (st : Nat → S) (r0 : R) (N : Nat) (hN : N < 1000)
    (hs : ∀ i, i < N → f (st i) = some (.inl (st (i + 1)))) (he : f (st N) = some (.inr r0)) : jl_wh f jl_F (st 0) = some r0 := by
  obtain ⟨r, h1, h2⟩ := jl_loopF (f := f) (fun i s => s = st i) (fun r => r = r0) N hN (s0 := st 0) rfl (by
    intro i s hi e
    subst e
    rcases Nat.lt_or_ge i N with q | q
    · exact Or.inl ⟨q, _, hs i q, rfl⟩
    · have : i = N := by omega
      subst this
      exact Or.inr ⟨_, he, rfl⟩)
  rw [h1, h2]
theorem jn_lt {a b : Int32} : a < b ↔ a.toInt < b.toInt := Int32.lt_iff_toInt_lt
theorem jn_le {a b : Int32} : a ≤ b ↔ a.toInt ≤ b.toInt := Int32.le_iff_toInt_le
theorem jn_eq {a b : Int32} : a = b ↔ a.toInt = b.toInt := ⟨fun h => by rw [h], fun h => Int32.toInt_inj.mp h⟩
theorem jn_20 (l : Nat) : (20 : Int32) * nI l = nI (20 * l) := pk_mul 20 l
theorem jn_ix (l t : Nat) : (20 : Int32) * nI l + nI t = nI (20 * l + t) := by rw [jn_20, nI_add]
theorem jn_rng {x : Int32} {n : Nat} (hn : n < 2 ^ 30) : (0 ≤ x ∧ x ≤ nI n - 1) ↔ ∃ t, t < n ∧ x = nI t := by
  have h1 : (nI n - 1).toInt = (n : Int) - 1 := by
    have := pk_sub_toInt (a := n) (b := 1) hn (by decide)
    exact this
  constructor
  · rintro ⟨a, b⟩
    have a' : ¬ x < 0 := Int32.not_lt.mpr a
    obtain ⟨j, hj, e⟩ := nI_of a'
    refine ⟨j, ?_, e⟩
    rw [jn_le, h1, e, nI_toInt hj] at b
    omega
  · rintro ⟨t, ht, e⟩
    rw [e]
    refine ⟨nI_pos' (by omega), ?_⟩
    rw [jn_le, h1, nI_toInt (by omega)]
    omega
/-! order of things by numbers, the greater first, then the less thing -/
def jc_f (f : Nat → Int32) (a b : Nat) : Bool := decide (f b < f a ∨ (f a = f b ∧ a < b))
theorem jc_iff {f : Nat → Int32} {a b : Nat} : jc_f f a b = true ↔ ((f b).toInt < (f a).toInt ∨ ((f a).toInt = (f b).toInt ∧ a < b)) := by
  unfold jc_f
  rw [decide_eq_true_iff, jn_lt, jn_eq]
theorem jc_tr {f : Nat → Int32} {a b c : Nat} (h1 : jc_f f a b = true) (h2 : jc_f f b c = true) : jc_f f a c = true := by
  rw [jc_iff] at *
  omega
theorem jc_ir (f : Nat → Int32) (a : Nat) : jc_f f a a = false := by
  cases h : jc_f f a a with
  | false => rfl
  | true =>
    rw [jc_iff] at h
    omega
theorem jc_tot (f : Nat → Int32) {a b : Nat} (h : a ≠ b) : jc_f f a b = true ∨ jc_f f b a = true := by
  rw [jc_iff, jc_iff]
  omega
theorem jc_as {f : Nat → Int32} {a b : Nat} (h : jc_f f a b = true) : jc_f f b a = false := by
  cases h2 : jc_f f b a with
  | false => rfl
  | true =>
    rw [jc_iff] at h h2
    omega
theorem jc_cong {f g : Nat → Int32} {a b : Nat} (ha : f a = g a) (hb : f b = g b) : jc_f f a b = jc_f g a b := by
  unfold jc_f
  rw [ha, hb]
theorem jr_ct_lt {p q : Nat → Bool} : ∀ {n : Nat}, (∀ k, k < n → p k = true → q k = true) → (∃ k, k < n ∧ q k = true ∧ p k = false) → fb_ct p n < fb_ct q n
  | 0, _, h => by
    obtain ⟨k, h1, -⟩ := h
    omega
  | n + 1, h, hx => by
    rw [fb_ct_succ, fb_ct_succ]
    obtain ⟨k, h1, h2, h3⟩ := hx
    have hs := fb_ct_sub (p := p) (q := q) (n := n) (fun k hk => h k (by omega))
    have hn := h n (by omega)
    by_cases e : k = n
    · subst e
      rw [h2, h3]
      simp only [if_true, Bool.false_eq_true, if_false]
      omega
    · have := jr_ct_lt (p := p) (q := q) (n := n) (fun k hk => h k (by omega)) ⟨k, by omega, h2, h3⟩
      cases hp : p n with
      | false =>
        simp only [Bool.false_eq_true, if_false]
        omega
      | true =>
        rw [hn hp]
        simp only [if_true]
        omega
/-- how many of the first n come ahead of t -/
def jr_k (f : Nat → Int32) (n t : Nat) : Nat := fb_ct (fun o => jc_f f o t) n
theorem jr_succ (f : Nat → Int32) (n t : Nat) : jr_k f (n + 1) t = jr_k f n t + (if jc_f f n t = true then 1 else 0) := by
  unfold jr_k
  rw [fb_ct_succ]
theorem jr_cong {f g : Nat → Int32} {n t : Nat} (h : ∀ k, k < n → f k = g k) (ht : f t = g t) : jr_k f n t = jr_k g n t := by
  unfold jr_k
  exact fb_ct_cong (fun k hk => jc_cong (h k hk) ht)
theorem jr_le (f : Nat → Int32) (n t : Nat) : jr_k f n t ≤ n := fb_ct_le _ n
theorem jr_mono {f : Nat → Int32} {n a b : Nat} (ha : a < n) (h : jc_f f a b = true) : jr_k f n a < jr_k f n b := by
  unfold jr_k
  exact jr_ct_lt (fun k _ h1 => jc_tr h1 h) ⟨a, ha, h, jc_ir f a⟩
theorem jr_iff {f : Nat → Int32} {n a b : Nat} (ha : a < n) (hb : b < n) : jc_f f a b = true ↔ jr_k f n a < jr_k f n b := by
  refine ⟨jr_mono ha, fun h => ?_⟩
  by_cases e : a = b
  · subst e
    omega
  · rcases jc_tot f e with q | q
    · exact q
    · have := jr_mono hb q
      omega
theorem jr_inj {f : Nat → Int32} {n a b : Nat} (ha : a < n) (hb : b < n) (h : jr_k f n a = jr_k f n b) : a = b := by
  refine Classical.byContradiction fun e => ?_
  rcases jc_tot f e with q | q
  · have := jr_mono ha q
    omega
  · have := jr_mono hb q
    omega
theorem jr_lt {f : Nat → Int32} {n t : Nat} (ht : t < n) : jr_k f n t < n := by
  have h := jr_ct_lt (p := fun o => jc_f f o t) (q := fun _ => true) (n := n) (fun _ _ _ => rfl) ⟨t, ht, rfl, jc_ir f t⟩
  have h2 : fb_ct (fun _ => true) n = n := fb_ct_all.mpr (fun _ _ => rfl)
  unfold jr_k
  omega
theorem jr_onto {f : Nat → Int32} {n y : Nat} (hy : y < n) : ∃ t, t < n ∧ jr_k f n t = y :=
  fb_onto (f := fun t => jr_k f n t) (fun i hi => jr_lt hi) (fun i j hij hj e => by
    have := jr_inj (by omega) hj e
    omega) hy
