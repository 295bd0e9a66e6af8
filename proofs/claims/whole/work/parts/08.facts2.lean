/-! plain facts of the reference's meaning that its walk needs -/
theorem mup_at {u : vM} {q : Nat} {i x : Int32} {j : Nat} : mup u q i x q j = if j = i.toNatClampNeg then x else u q j := by
  unfold mup mR
  rw [Nat.beq_refl]
  rfl
theorem vqX2_in {x a b : Int32} (h : ¬ rX2_in x a b = 0) : ¬ x < a ∧ ¬ b < x := by
  unfold rX2_in at h
  by_cases h1 : x < a
  · rw [if_pos h1] at h; exact absurd rfl h
  · rw [if_neg h1] at h
    by_cases h2 : b < x
    · rw [if_pos h2] at h; exact absurd rfl h
    · exact ⟨h1, h2⟩
theorem vq_le {x N : Int32} {n : Nat} (h1 : ¬ x < 0) (h2 : ¬ N < x) (hN : N.toInt + 1 = (n : Int) := by decide) : vp_in x n := by
  rw [vp_in_iff]
  rw [Int32.lt_iff_toInt_lt, Int32.toInt_zero] at h1
  rw [Int32.lt_iff_toInt_lt] at h2
  omega
theorem vqX2_in5 {x : Int32} (h : ¬ rX2_in x 0 4 = 0) : vp_in x 5 := vq_le (vqX2_in h).1 (vqX2_in h).2
theorem vqX2_isCell {x : Int32} (h : ¬ rX2_isCell x = 0) : vp_in x 24 := vq_le (vqX2_in h).1 (vqX2_in h).2
theorem vqX2_isSheet {x : Int32} (h : ¬ rX2_isSheet x = 0) : vp_in x 4 := vq_le (vqX2_in h).1 (vqX2_in h).2
theorem vqX2_isCaller {x y : Int32} (h : ¬ rX2_isCaller x y = 0) : vp_in x 5 ∧ vp_in y 24 := by
  unfold rX2_isCaller at h
  by_cases h1 : rX2_in x 0 4 = 0
  · rw [if_pos h1] at h; exact absurd rfl h
  · rw [if_neg h1] at h
    by_cases h2 : rX2_isCell y = 0
    · rw [if_pos h2] at h; exact absurd rfl h
    · exact ⟨vqX2_in5 h1, vqX2_isCell h2⟩
theorem vqX2_isCaller1 {x y : Int32} (h : ¬ rX2_isCaller x y = 0) : vp_in x 5 := (vqX2_isCaller h).1
theorem vqX2_isCaller2 {x y : Int32} (h : ¬ rX2_isCaller x y = 0) : vp_in y 24 := (vqX2_isCaller h).2
/-- what a cell reads: nothing, or a cell -/
def rk (x : Int32) : Prop := x = -1 ∨ vp_in x 24
theorem vqX2_isMetered {x y : Int32} (h : ¬ rX2_isMetered x y = 0) (hk : rk y) : vp_in y 24 := by
  rcases hk with e | e
  · unfold rX2_isMetered at h
    rw [if_pos e] at h
    exact absurd rfl h
  · exact e
/-- the cells that formulas name are cells -/
def fm (u : vM) : Prop := ∀ i : Nat, i < 24 → vp_in (u 2 i) 24 ∧ vp_in (u 3 i) 24
theorem fm_congr {u u' : vM} (h2 : u' 2 = u 2) (h3 : u' 3 = u 3) (h : fm u) : fm u' := by
  intro i hi
  rw [h2, h3]
  exact h i hi
theorem vp_in_clamp {x : Int32} {n : Nat} (h : vp_in x n) : x.toNatClampNeg < n := Nat.not_le.mp fun q => h (Or.inr q)
theorem vq_fm2 {u : vM} {x : Int32} (h : fm u) (hx : vp_in x 24) : vp_in (mrd u 2 x) 24 := (h _ (vp_in_clamp hx)).1
theorem vq_fm3 {u : vM} {x : Int32} (h : fm u) (hx : vp_in x 24) : vp_in (mrd u 3 x) 24 := (h _ (vp_in_clamp hx)).2
theorem fm_up2 {u : vM} {i x : Int32} (h : fm u) (hx : vp_in x 24) : fm (mup u 2 i x) := by
  intro j hj
  refine ⟨?_, (h j hj).2⟩
  rw [mup_at]
  split
  · exact hx
  · exact (h j hj).1
theorem fm_up3 {u : vM} {i x : Int32} (h : fm u) (hx : vp_in x 24) : fm (mup u 3 i x) := by
  intro j hj
  refine ⟨(h j hj).1, ?_⟩
  rw [mup_at]
  split
  · exact hx
  · exact (h j hj).2
theorem vq_one {u : vM} {x : Int32} (h : fm u) (hx : vp_in x 24) (h1 : ¬ rX2_one u x = (-1)) : vp_in (rX2_one u x) 24 := by
  unfold rX2_one at h1 ⊢
  split
  · rename_i h2
    rw [if_pos h2] at h1
    exact absurd rfl h1
  · exact vq_fm2 h hx
theorem vq_one_rk {u : vM} {x : Int32} (h : fm u) (hx : vp_in x 24) : rk (rX2_one u x) := by
  by_cases h1 : rX2_one u x = (-1)
  · exact Or.inl h1
  · exact Or.inr (vq_one h hx h1)
theorem vq_other_rk {u : vM} {x : Int32} (h : fm u) (hx : vp_in x 24) : rk (rX2_other u x) := by
  unfold rX2_other
  dsimp only
  (repeat' split) <;> first | exact Or.inl rfl | exact Or.inr (vq_fm3 h hx)
theorem vq_other {u : vM} {x : Int32} (h : fm u) (hx : vp_in x 24) (h1 : ¬ rX2_other u x = (-1)) : vp_in (rX2_other u x) 24 := (vq_other_rk h hx).resolve_left h1
/-- how many readings are kept: 0 to 500 -/
def kc2 (u : vM) : Prop := ∃ j : Nat, j ≤ 500 ∧ u 17 0 = nI j
theorem kc2_congr {u u' : vM} (e : u' 17 = u 17) (h : kc2 u) : kc2 u' := by
  obtain ⟨j, h1, h2⟩ := h
  exact ⟨j, h1, by rw [e]; exact h2⟩
theorem vq_kc2 {u : vM} (h : kc2 u) (h2 : ¬ 500 ≤ mfd u 17) : vp_in (mfd u 17) 500 := by
  obtain ⟨j, hj, e⟩ := h
  unfold mfd at h2 ⊢
  rw [e] at h2 ⊢
  refine vp_in_nI ?_ (by decide)
  rcases Nat.lt_or_ge j 500 with q | q
  · exact q
  · exact absurd (nI_le q (by omega)) h2
theorem vqX2_reading {u : vM} {x : Int32} (h : kc2 u) (h2 : ¬ rX2_in x 0 (mfd u 17 - 1) = 0) : vp_in x 500 := by
  obtain ⟨h3, h4⟩ := vqX2_in h2
  obtain ⟨j, hj, e⟩ := h
  unfold mfd at h4
  rw [e] at h4
  rw [Int32.lt_iff_toInt_lt, Int32.toInt_zero] at h3
  rw [vp_in_iff]
  rw [Int32.lt_iff_toInt_lt] at h4
  cases j with
  | zero =>
    have e1 : (nI 0 - 1 : Int32).toInt = -1 := by decide
    rw [e1] at h4
    omega
  | succ j =>
    rw [nI_pred, nI_toInt (by omega)] at h4
    omega
theorem kc2_X2_pay {u : vM} {a b c : Int32} (h : kc2 u) : kc2 (uX2_pay u a b c) := by
  unfold uX2_pay
  by_cases h1 : rX2_isMetered b c = 0
  · rw [if_pos h1]; exact h
  · rw [if_neg h1]
    dsimp only
    split
    · exact h
    · rename_i h2
      obtain ⟨j, hj, e⟩ := h
      have h3 : ¬ (500 : Int32) ≤ u 17 0 := h2
      rw [e] at h3
      have h4 : j < 500 := by
        rcases Nat.lt_or_ge j 500 with q | q
        · exact q
        · exact absurd (nI_le q (by omega)) h3
      refine ⟨j + 1, h4, ?_⟩
      show u 17 0 + 1 = nI (j + 1)
      rw [e]
      exact nI_1 j
theorem kc2_ite {c : Prop} [Decidable c] {u v : vM} (h1 : kc2 u) (h2 : kc2 v) : kc2 (if c then u else v) := by
  by_cases h : c
  · rw [if_pos h]; exact h1
  · rw [if_neg h]; exact h2
theorem kc2_X2_compute {u : vM} {a b : Int32} (h : kc2 u) : kc2 (uX2_compute u a b) := by
  unfold uX2_compute
  dsimp only
  refine kc2_ite (kc2_congr ?_ (kc2_X2_pay (a := a) (b := b) (c := rX2_other (uX2_pay u a b (rX2_one u b)) b) (kc2_X2_pay (a := a) (b := b) (c := rX2_one u b) h))) (kc2_congr (mup_ne (by decide)) h)
  rw [mup_ne (by decide), mup_ne (by decide), mup_ne (by decide)]
/-- the order's row holds cells -/
def od (u : vM) : Prop := ∀ i : Nat, i < 24 → vp_in (u 9 i) 24
theorem od_congr {u u' : vM} (e : u' 9 = u 9) (h : od u) : od u' := by
  intro i hi
  rw [e]
  exact h i hi
theorem vq_od {u : vM} {x : Int32} (h : od u) (hx : vp_in x 24) : vp_in (mrd u 9 x) 24 := h _ (vp_in_clamp hx)
/-- formulas read one another in no circle: there are ranks that fall -/
def LY (k o t : Nat → Int32) : Prop := ∃ rank : Nat → Nat, ∀ i, i < 24 → (k i ≠ 0 → rank (o i).toNatClampNeg < rank i) ∧ ((k i = 1 ∨ k i = 2) → rank (t i).toNatClampNeg < rank i)
def ly (u : vM) : Prop := LY (u 1) (u 2) (u 3)
theorem ly_congr {u u' : vM} (h1 : u' 1 = u 1) (h2 : u' 2 = u 2) (h3 : u' 3 = u 3) (h : ly u) : ly u' := by
  unfold ly
  rw [h1, h2, h3]
  exact h
/-- a cell's formula is changed -/
def chg (u : vM) (cell kind one other number : Int32) : vM := mup (mup (mup (mup u 1 cell kind) 2 cell one) 3 cell other) 4 cell number
/-- the search for the next cell finds one, in each of the n rounds to come -/
def sr (n k : Nat) (u : vM) : Prop := ∀ j, j < n → vp_in (lpX2_layOrder_34 (lpX2_layOrder_23 j k u) 24 (-1)) 24
