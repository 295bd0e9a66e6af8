/-! plain facts of the class's meaning that its walk needs: indices within their rows, the count of kept readings -/
theorem vq_lt {x N : Int32} {n : Nat} (h1 : ¬ x < 0) (h2 : ¬ N ≤ x) (hN : N.toInt = (n : Int) := by decide) : vp_in x n := by
  rw [vp_in_iff]
  rw [Int32.lt_iff_toInt_lt, Int32.toInt_zero] at h1
  rw [Int32.le_iff_toInt_le, hN] at h2
  omega
theorem vq_lt1 {x N : Int32} {n : Nat} (h1 : ¬ x < 0) (h2 : x < N) (hN : N.toInt = (n : Int) := by decide) : vp_in x n := by
  rw [vp_in_iff]
  rw [Int32.lt_iff_toInt_lt, Int32.toInt_zero] at h1
  rw [Int32.lt_iff_toInt_lt, hN] at h2
  omega
theorem vqX1_isCell {x : Int32} (h : ¬ rX1_isCell x = 0) : vp_in x 24 := by
  unfold rX1_isCell at h
  by_cases h1 : x < 0
  · rw [if_pos h1] at h; exact absurd rfl h
  · rw [if_neg h1] at h
    by_cases h2 : (24 : Int32) ≤ x
    · rw [if_pos h2] at h; exact absurd rfl h
    · exact vq_lt h1 h2
theorem vqX1_isUser {x : Int32} (h : ¬ rX1_isUser x = 0) : vp_in x 5 := by
  unfold rX1_isUser at h
  by_cases h1 : x < 0
  · rw [if_pos h1] at h; exact absurd rfl h
  · rw [if_neg h1] at h
    by_cases h2 : (5 : Int32) ≤ x
    · rw [if_pos h2] at h; exact absurd rfl h
    · exact vq_lt h1 h2
theorem vqX1_isSheet {x : Int32} (h : ¬ rX1_isSheet x = 0) : vp_in x 4 := by
  unfold rX1_isSheet at h
  by_cases h1 : x < 0
  · rw [if_pos h1] at h; exact absurd rfl h
  · rw [if_neg h1] at h
    by_cases h2 : (4 : Int32) ≤ x
    · rw [if_pos h2] at h; exact absurd rfl h
    · exact vq_lt h1 h2
theorem vq_d6_all : ∀ j, j < 24 → ¬ (nI j / 6 < 0 ∨ 4 ≤ (nI j / 6).toNatClampNeg) := by decide +kernel
theorem vq_d6 {x : Int32} (h : vp_in x 24) : vp_in (x / 6) 4 := by
  obtain ⟨j, hj, rfl⟩ := vp_in_of h (by decide)
  exact vq_d6_all j hj
theorem vqX1_sheetOf {x : Int32} (h : vp_in x 24) : vp_in (rX1_sheetOf x) 4 := vq_d6 h
theorem vq_576_all : ∀ j, j < 24 → ∀ k, k < 24 → ¬ (nI j * 24 + nI k < 0 ∨ 576 ≤ (nI j * 24 + nI k).toNatClampNeg) := by decide +kernel
theorem vq_576 {x y : Int32} (h : vp_in x 24) (h2 : vp_in y 24) : vp_in ((x * 24) + y) 576 := by
  obtain ⟨j, hj, rfl⟩ := vp_in_of h (by decide)
  obtain ⟨k, hk, rfl⟩ := vp_in_of h2 (by decide)
  exact vq_576_all j hj k hk
theorem vq_576' {x y : Int32} (h : vp_in x 24) (h2 : vp_in y 24) : vp_in ((24 * x) + y) 576 := by rw [Int32.mul_comm]; exact vq_576 h h2
/-- how many readings are kept: 0 to 500 -/
def kc (u : vM) : Prop := ∃ j : Nat, j ≤ 500 ∧ u 8 0 = nI j
theorem vq_kc {u : vM} (h : kc u) (h2 : ¬ 500 ≤ mfd u 8) : vp_in (mfd u 8) 500 := by
  obtain ⟨j, hj, e⟩ := h
  unfold mfd at h2 ⊢
  rw [e] at h2 ⊢
  refine vp_in_nI ?_ (by decide)
  rcases Nat.lt_or_ge j 500 with q | q
  · exact q
  · exact absurd (nI_le q (by omega)) h2
theorem kc_X0_enter {u : vM} {a b c : Int32} (h : kc u) : kc (uX0_enter u a b c) := by
  unfold uX0_enter
  by_cases h1 : rX1_isCell c = 0
  · rw [if_pos h1]; exact h
  · rw [if_neg h1]
    dsimp only
    split
    · exact h
    · rename_i h2
      obtain ⟨j, hj, e⟩ := h
      have h3 : ¬ (500 : Int32) ≤ u 8 0 := h2
      rw [e] at h3
      have h4 : j < 500 := by
        rcases Nat.lt_or_ge j 500 with q | q
        · exact q
        · exact absurd (nI_le q (by omega)) h3
      refine ⟨j + 1, h4, ?_⟩
      show u 8 0 + 1 = nI (j + 1)
      rw [e]
      exact nI_1 j
theorem kc_X0_paysFor {u : vM} {a b c d : Int32} (h : kc u) : kc (uX0_paysFor u a b c d) := by
  unfold uX0_paysFor
  dsimp only
  split
  · exact kc_X0_enter (kc_X0_enter h)
  · exact h
theorem kc_X1_compute {u : vM} {a b : Int32} (h : kc u) : kc (uX1_compute u a b) := by
  unfold uX1_compute
  dsimp only
  (repeat' split) <;> exact kc_X0_paysFor (u := u) h
theorem kc_lpX1_putInOrder_2 : ∀ (n k : Nat) (u : vM), kc u → kc (lpX1_putInOrder_2 n k u)
  | 0, _, _, h => h
  | n + 1, k, u, h => kc_lpX1_putInOrder_2 n (k + 1) _ h
theorem kc_lpX1_putInOrder_23 : ∀ (n k : Nat) (u : vM), kc u → kc (lpX1_putInOrder_23 n k u)
  | 0, _, _, h => h
  | n + 1, k, u, h => by
    unfold lpX1_putInOrder_23
    dsimp only
    split
    · exact kc_lpX1_putInOrder_23 n (k + 1) _ h
    · exact kc_lpX1_putInOrder_23 n (k + 1) _ h
theorem kc_X1_putInOrder {u : vM} (h : kc u) : kc (uX1_putInOrder u) := kc_lpX1_putInOrder_23 24 0 _ (kc_lpX1_putInOrder_2 24 0 _ h)
theorem kc_lpX1_forgetChanges_2 : ∀ (n k : Nat) (u : vM), kc u → kc (lpX1_forgetChanges_2 n k u)
  | 0, _, _, h => h
  | n + 1, k, u, h => kc_lpX1_forgetChanges_2 n (k + 1) _ h
theorem kc_X1_forgetChanges {u : vM} (h : kc u) : kc (uX1_forgetChanges u) := kc_lpX1_forgetChanges_2 24 0 _ h
theorem kc_congr {u u' : vM} (e : u' 8 = u 8) (h : kc u) : kc u' := by
  obtain ⟨j, h1, h2⟩ := h
  exact ⟨j, h1, by rw [e]; exact h2⟩
/-- a row of truth values -/
def bo (u : vM) (q : Nat) : Prop := ∀ i : Nat, u q i = 0 ∨ u q i = 1
