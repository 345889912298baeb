/-! the memory of a world: cell, place, what stands there; and the words of the programs as functions -/
abbrev jl_Mem : Type := Nat → Nat → Int32
def jl_sa (M : jl_Mem) (k : Nat) (f : Nat → Int32) : jl_Mem := fun q => if q = k then f else M q
def jl_st (M : jl_Mem) (k j : Nat) (v : Int32) : jl_Mem := jl_sa M k (upd (M k) j v)
theorem jl_sa_same (M : jl_Mem) (k : Nat) (f : Nat → Int32) : jl_sa M k f k = f := if_pos rfl
theorem jl_sa_ne (M : jl_Mem) {k q : Nat} (f : Nat → Int32) (h : q ≠ k) : jl_sa M k f q = M q := if_neg h
theorem jl_st_same (M : jl_Mem) (k j : Nat) (v : Int32) : jl_st M k j v k j = v := by
  unfold jl_st
  rw [jl_sa_same]
  exact pk_us
theorem jl_st_cell (M : jl_Mem) (k j : Nat) (v : Int32) : jl_st M k j v k = upd (M k) j v := jl_sa_same M k _
theorem jl_st_ne (M : jl_Mem) {k q : Nat} (j : Nat) (v : Int32) (h : q ≠ k) : jl_st M k j v q = M q := jl_sa_ne M _ h
def jl_chk {α : Type} (b : Bool) (k : Option α) : Option α := if b = true then k else none
def jl_inb (i : Int32) (n : Nat) : Bool := decide (¬ (i < 0 ∨ n ≤ i.toNatClampNeg))
def jl_isB (x : Int32) : Bool := decide (x = 0 ∨ x = 1)
def jl_nz (x : Int32) : Bool := decide (¬ x = 0)
def jl_lt {α β : Type} (x : α) (k : α → Option β) : Option β := k x
def jl_bnd {α : Type} (x : Option (Int32 × jl_Mem)) (k : Int32 → jl_Mem → Option α) : Option α := match x with
  | none => none
  | some q => k q.1 q.2
def jl_wh {S R : Type} (f : S → Option (S ⊕ R)) : Nat → S → Option R
  | 0, _ => none
  | n + 1, s => match f s with
    | none => none
    | some (.inl s2) => jl_wh f n s2
    | some (.inr r) => some r
def jl_whz {S R : Type} (f : S → Option (S ⊕ R)) (n : Nat) (z : R) (o : S ⊕ R) : Prop := match o with
  | .inl s2 => jl_wh f n s2 = some z
  | .inr r => r = z
/-- out of a loop: what comes behind it -/
def jl_ex {S R : Type} (x : Option R) : Option (S ⊕ R) := match x with
  | none => none
  | some r => some (.inr r)
/-- how often a loop may turn -/
def jl_F : Nat := 1000
theorem jl_chk_o {α : Type} {b : Bool} {k : Option α} {z : α} (h : jl_chk b k = some z) : b = true ∧ k = some z := by
  unfold jl_chk at h
  by_cases q : b = true
  · rw [if_pos q] at h
    exact ⟨q, h⟩
  · rw [if_neg q] at h
    cases h
theorem jl_chk_i {α : Type} {b : Bool} (k : Option α) (h : b = true) : jl_chk b k = k := if_pos h
theorem jl_bnd_o {α : Type} {x : Option (Int32 × jl_Mem)} {k : Int32 → jl_Mem → Option α} {z : α} (h : jl_bnd x k = some z) : ∃ (r : Int32) (M : jl_Mem), x = some (r, M) ∧ k r M = some z := by
  cases x with
  | none => cases h
  | some q => exact ⟨q.1, q.2, rfl, h⟩
theorem jl_bnd_i {α : Type} {x : Option (Int32 × jl_Mem)} {r : Int32} {M : jl_Mem} (h : x = some (r, M)) (k : Int32 → jl_Mem → Option α) : jl_bnd x k = k r M := by
  rw [h]
  rfl
theorem jl_lt_o {α β : Type} {x y : α} {k : α → Option β} {z : β} (h : jl_lt x k = some z) (e : y = x) : k y = some z := by
  rw [e]
  exact h
theorem jl_ift {α : Type} {c : Prop} {d : Decidable c} {a b z : α} (hc : c) (h : (@ite α c d a b) = z) : a = z := (if_pos hc).symm.trans h
theorem jl_iff {α : Type} {c : Prop} {d : Decidable c} {a b z : α} (hc : ¬ c) (h : (@ite α c d a b) = z) : b = z := (if_neg hc).symm.trans h
theorem jl_wh_0 {S R : Type} {f : S → Option (S ⊕ R)} {s : S} {z : R} (h : jl_wh f 0 s = some z) : False := by cases h
theorem jl_wh_s {S R : Type} {f : S → Option (S ⊕ R)} {n : Nat} {s : S} {z : R} (h : jl_wh f (n + 1) s = some z) : ∃ o : S ⊕ R, f s = some o ∧ jl_whz f n z o := by
  cases hf : f s with
  | none =>
    simp only [jl_wh, hf] at h
    cases h
  | some o =>
    refine ⟨o, rfl, ?_⟩
    cases o with
    | inl s2 =>
      simp only [jl_wh, hf] at h
      exact h
    | inr r =>
      simp only [jl_wh, hf] at h
      exact Option.some.inj h
theorem jl_zl {S R : Type} {f : S → Option (S ⊕ R)} {n : Nat} {z : R} {s : S} (h : jl_whz f n z (.inl s)) : jl_wh f n s = some z := h
theorem jl_zr {S R : Type} {f : S → Option (S ⊕ R)} {n : Nat} {z r : R} (h : jl_whz f n z (.inr r)) : r = z := h
theorem jl_R {S R : Type} {f : S → Option (S ⊕ R)} {n : Nat} {z r : R} {o : S ⊕ R} (e : Sum.inr r = o) (h : jl_whz f n z o) : r = z := by
  subst e
  exact h
theorem jl_L {S R : Type} {f : S → Option (S ⊕ R)} {n : Nat} {z : R} {s : S} {o : S ⊕ R} (e : Sum.inl s = o) (h : jl_whz f n z o) : jl_wh f n s = some z := by
  subst e
  exact h
theorem jl_ex_o {S R : Type} {f : S → Option (S ⊕ R)} {n : Nat} {z : R} {o : S ⊕ R} {x : Option R} (h : jl_ex x = some o) (hz : jl_whz f n z o) : x = some z := by
  cases x with
  | none => cases h
  | some r => rw [jl_R (Option.some.inj h) hz]
theorem jl_ex_s {S R : Type} (r : R) : (jl_ex (some r) : Option (S ⊕ R)) = some (.inr r) := rfl
theorem jl_in {i : Int32} {n : Nat} (h : jl_inb i n = true) : vp_in i n := of_decide_eq_true (p := ¬ (i < 0 ∨ n ≤ i.toNatClampNeg)) h
theorem jl_inb_of {i : Int32} {n : Nat} (h : vp_in i n) : jl_inb i n = true := decide_eq_true (p := ¬ (i < 0 ∨ n ≤ i.toNatClampNeg)) h
theorem jl_inb_pos {i : Int32} {n : Nat} (h : jl_inb i n = true) : n ≠ 0 := fun e => by
  subst e
  exact jl_in h (Or.inr (Nat.zero_le _))
theorem jl_inb_lt {i : Int32} {n : Nat} (h : jl_inb i n = true) : i.toNatClampNeg < n := Nat.not_le.mp fun q => jl_in h (Or.inr q)
theorem jl_isB_o {x : Int32} (h : jl_isB x = true) : x = 0 ∨ x = 1 := of_decide_eq_true h
theorem jl_nar {x : Int32} (h : jl_isB x = true) : narrow .boolean (.int x) = .int x := by
  rcases jl_isB_o h with rfl | rfl <;> rfl
theorem jl_fit {x : Int32} (h : jl_isB x = true) : fits .boolean (.int x) = true := by
  rcases jl_isB_o h with rfl | rfl <;> rfl
theorem jl_vnar {x : Int32} (h : jl_isB x = true) : vp_nar .boolean x = x := by
  rcases jl_isB_o h with rfl | rfl <;> rfl
theorem jl_nz_o {x : Int32} (h : jl_nz x = true) : ¬ x = 0 := of_decide_eq_true h
/-- outside the table of a switch over 0 .. n - 1 -/
theorem jl_tab {x : Int32} (n : Nat) (hn : n < 2 ^ 31) (h : ∀ k : Nat, k < n → ¬ x = nI k) : x.toInt < 0 ∨ ((n : Int) - 1) < x.toInt := by
  by_cases h1 : x.toInt < 0
  · exact Or.inl h1
  · refine Or.inr ?_
    by_cases h2 : ((n : Int) - 1) < x.toInt
    · exact h2
    · exfalso
      have h3 : ¬ x < 0 := fun q => h1 (by simpa using Int32.lt_iff_toInt_lt.mp q)
      obtain ⟨j, hj, e⟩ := nI_of h3
      have e2 : x.toInt = (j : Int) := by rw [e]; exact nI_toInt hj
      exact h j (by omega) e
