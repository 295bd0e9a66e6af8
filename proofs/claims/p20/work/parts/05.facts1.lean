/-! plain facts of the class's meaning that its walk needs: indices within their rows, the count of kept readings -/
theorem vq_lt {x N : Int32} {n : Nat} (h1 : ¬ x < 0) (h2 : ¬ N ≤ x) (hN : N.toInt = (n : Int) := by decide) : vp_in x n := by
  rw [vp_in_iff]
  rw [Int32.lt_iff_toInt_lt, Int32.toInt_zero] at h1
  rw [Int32.le_iff_toInt_le, hN] at h2
  omega
theorem vq_lt1 {x N : Int32} {n : Nat} (h1 : ¬ x < 0) (h2 : x < N) (hN : N.toInt = (n : Int) := by decide) : vp_in x n := by
  rw [vp_in_iff]
  rw [Int32.lt_iff_toInt_lt, Int32.toInt_zero] at h1
  rw [Int32.lt_iff_toInt_lt, hN] at h2
  omega
theorem vqX1_isCell {x : Int32} (h : ¬ rX1_isCell x = 0) : vp_in x 24 := by
  unfold rX1_isCell at h
  by_cases h1 : x < 0
  · rw [if_pos h1] at h; exact absurd rfl h
  · rw [if_neg h1] at h
    by_cases h2 : (24 : Int32) ≤ x
    · rw [if_pos h2] at h; exact absurd rfl h
    · exact vq_lt h1 h2
theorem vqX1_isUser {x : Int32} (h : ¬ rX1_isUser x = 0) : vp_in x 5 := by
  unfold rX1_isUser at h
  by_cases h1 : x < 0
  · rw [if_pos h1] at h; exact absurd rfl h
  · rw [if_neg h1] at h
    by_cases h2 : (5 : Int32) ≤ x
    · rw [if_pos h2] at h; exact absurd rfl h
    · exact vq_lt h1 h2
theorem vqX1_isSheet {x : Int32} (h : ¬ rX1_isSheet x = 0) : vp_in x 4 := by
  unfold rX1_isSheet at h
  by_cases h1 : x < 0
  · rw [if_pos h1] at h; exact absurd rfl h
  · rw [if_neg h1] at h
    by_cases h2 : (4 : Int32) ≤ x
    · rw [if_pos h2] at h; exact absurd rfl h
    · exact vq_lt h1 h2
theorem vq_d6_all : ∀ j, j < 24 → ¬ (nI j / 6 < 0 ∨ 4 ≤ (nI j / 6).toNatClampNeg) := by decide +kernel
theorem vq_d6 {x : Int32} (h : vp_in x 24) : vp_in (x / 6) 4 := by
  obtain ⟨j, hj, rfl⟩ := vp_in_of h (by decide)
  exact vq_d6_all j hj
theorem vqX1_sheetOf {x : Int32} (h : vp_in x 24) : vp_in (rX1_sheetOf x) 4 := vq_d6 h
theorem vq_576_all : ∀ j, j < 24 → ∀ k, k < 24 → ¬ (nI j * 24 + nI k < 0 ∨ 576 ≤ (nI j * 24 + nI k).toNatClampNeg) := by decide +kernel
theorem vq_576 {x y : Int32} (h : vp_in x 24) (h2 : vp_in y 24) : vp_in ((x * 24) + y) 576 := by
  obtain ⟨j, hj, rfl⟩ := vp_in_of h (by decide)
  obtain ⟨k, hk, rfl⟩ := vp_in_of h2 (by decide)
  exact vq_576_all j hj k hk
theorem vq_576' {x y : Int32} (h : vp_in x 24) (h2 : vp_in y 24) : vp_in ((24 * x) + y) 576 := by rw [Int32.mul_comm]; exact vq_576 h h2
/-- how many readings are kept: 0 to 500 -/
def kc (u : vM) : Prop := ∃ j : Nat, j ≤ 500 ∧ u 8 0 = nI j
theorem vq_kc {u : vM} (h : kc u) (h2 : ¬ 500 ≤ mfd u 8) : vp_in (mfd u 8) 500 := by
  obtain ⟨j, hj, e⟩ := h
  unfold mfd at h2 ⊢
  rw [e] at h2 ⊢
  refine vp_in_nI ?_ (by decide)
  rcases Nat.lt_or_ge j 500 with q | q
  · exact q
  · exact absurd (nI_le q (by omega)) h2
theorem kc_X0_enter {u : vM} {a b c : Int32} (h : kc u) : kc (uX0_enter u a b c) := by
  unfold uX0_enter
  by_cases h1 : rX1_isCell c = 0
  · rw [if_pos h1]; exact h
  · rw [if_neg h1]
    dsimp only
    split
    · exact h
    · rename_i h2
      obtain ⟨j, hj, e⟩ := h
      have h3 : ¬ (500 : Int32) ≤ u 8 0 := h2
      rw [e] at h3
      have h4 : j < 500 := by
        rcases Nat.lt_or_ge j 500 with q | q
        · exact q
        · exact absurd (nI_le q (by omega)) h3
      refine ⟨j + 1, h4, ?_⟩
      show u 8 0 + 1 = nI (j + 1)
      rw [e]
      exact nI_1 j
theorem kc_X0_paysFor {u : vM} {a b c d : Int32} (h : kc u) : kc (uX0_paysFor u a b c d) := by
  unfold uX0_paysFor
  dsimp only
  split
  · exact kc_X0_enter (kc_X0_enter h)
  · exact h
theorem kc_X1_compute {u : vM} {a b : Int32} (h : kc u) : kc (uX1_compute u a b) := by
  unfold uX1_compute
  dsimp only
  (repeat' split) <;> exact kc_X0_paysFor (u := u) h
theorem kc_lpX1_putInOrder_2 : ∀ (n k : Nat) (u : vM), kc u → kc (lpX1_putInOrder_2 n k u)
  | 0, _, _, h => h
  | n + 1, k, u, h => kc_lpX1_putInOrder_2 n (k + 1) _ h
theorem kc_lpX1_putInOrder_23 : ∀ (n k : Nat) (u : vM), kc u → kc (lpX1_putInOrder_23 n k u)
  | 0, _, _, h => h
  | n + 1, k, u, h => by
    unfold lpX1_putInOrder_23
    dsimp only
    split
    · exact kc_lpX1_putInOrder_23 n (k + 1) _ h
    · exact kc_lpX1_putInOrder_23 n (k + 1) _ h
theorem kc_X1_putInOrder {u : vM} (h : kc u) : kc (uX1_putInOrder u) := kc_lpX1_putInOrder_23 24 0 _ (kc_lpX1_putInOrder_2 24 0 _ h)
theorem kc_lpX1_forgetChanges_2 : ∀ (n k : Nat) (u : vM), kc u → kc (lpX1_forgetChanges_2 n k u)
  | 0, _, _, h => h
  | n + 1, k, u, h => kc_lpX1_forgetChanges_2 n (k + 1) _ h
theorem kc_X1_forgetChanges {u : vM} (h : kc u) : kc (uX1_forgetChanges u) := kc_lpX1_forgetChanges_2 24 0 _ h
theorem kc_congr {u u' : vM} (e : u' 8 = u 8) (h : kc u) : kc u' := by
  obtain ⟨j, h1, h2⟩ := h
  exact ⟨j, h1, by rw [e]; exact h2⟩
/-- a row of truth values -/
def bo (u : vM) (q : Nat) : Prop := ∀ i : Nat, u q i = 0 ∨ u q i = 1
/-! what the law's own walk needs: numbers in their ranges, calls that don't throw -/
theorem in_of {x : Int32} {n : Nat} (h : vp_in x n) : ¬ x < 0 ∧ x.toInt < n := by
  obtain ⟨h1, h2⟩ := vp_in_iff.mp h
  exact ⟨fun q => by rw [Int32.lt_iff_toInt_lt, Int32.toInt_zero] at q; omega, h2⟩
theorem in_nle {x N : Int32} {n : Nat} (h : vp_in x n) (hN : N.toInt = (n : Int) := by decide) : ¬ N ≤ x := by
  intro q
  have h2 := (vp_in_iff.mp h).2
  rw [Int32.le_iff_toInt_le, hN] at q
  omega
theorem cell1_in {x : Int32} (h : vp_in x 24) : rX1_isCell x = 1 := by
  unfold rX1_isCell
  rw [if_neg (in_of h).1, if_neg (in_nle h)]
theorem user1_in {x : Int32} (h : vp_in x 5) : rX1_isUser x = 1 := by
  unfold rX1_isUser
  rw [if_neg (in_of h).1, if_neg (in_nle h)]
theorem sheet1_in {x : Int32} (h : vp_in x 4) : rX1_isSheet x = 1 := by
  unfold rX1_isSheet
  rw [if_neg (in_of h).1, if_neg (in_nle h)]
theorem c10 : ¬ (1 : Int32) = 0 := by decide
theorem xq_budget {u : vM} {a : Int32} (h : vp_in a 4) : xX1_budget u a = 0 := by unfold xX1_budget; rw [sheet1_in h, if_neg c10]
theorem xq_earned {u : vM} {a : Int32} (h : vp_in a 4) : xX1_earned u a = 0 := by unfold xX1_earned; rw [sheet1_in h, if_neg c10]
theorem xq_readOf {u : vM} {a : Int32} (h : vp_in a 4) : xX1_readOf u a = 0 := by unfold xX1_readOf; rw [sheet1_in h, if_neg c10]
theorem xq_caused {u : vM} {a : Int32} (h : vp_in a 5) : xX1_caused u a = 0 := by unfold xX1_caused; rw [user1_in h, if_neg c10]
theorem xq_isMarked {u : vM} {a : Int32} (h : vp_in a 24) : xX1_isMarked u a = 0 := by unfold xX1_isMarked; rw [cell1_in h, if_neg c10]
theorem xq_value {u : vM} {a : Int32} (h : vp_in a 24) : xX1_value u a = 0 := by unfold xX1_value; rw [cell1_in h, if_neg c10]
theorem xq_valueAnew {u : vM} {a : Int32} (h : vp_in a 24) : xX1_valueAnew u a = 0 := by unfold xX1_valueAnew; rw [cell1_in h, if_neg c10]
theorem ush1 (x : Int32) : ∃ j : Nat, j < 2 ^ 31 ∧ ush x 1 = nI j := by
  have e : ush x 1 = nI (x.toUInt32.toNat / 2) := by
    unfold ush nI
    have h1 : ((1 : Int32).toUInt32 &&& Int32.toUInt32 31) = 1 := by decide
    rw [h1]
    apply Int32.toBitVec_inj.mp
    apply BitVec.eq_of_toNat_eq
    show (x.toUInt32 >>> 1).toBitVec.toNat = (Int32.ofNat (x.toUInt32.toNat / 2)).toBitVec.toNat
    have h2 : (x.toUInt32 >>> 1).toBitVec.toNat = (x.toUInt32 >>> 1).toNat := rfl
    rw [h2, UInt32.toNat_shiftRight]
    have h3 : (Int32.ofNat (x.toUInt32.toNat / 2)).toBitVec = BitVec.ofNat 32 (x.toUInt32.toNat / 2) := rfl
    rw [h3, BitVec.toNat_ofNat]
    have h4 := x.toUInt32.toNat_lt
    have h5 : (1 : UInt32).toNat % 32 = 1 := by decide
    rw [h5, Nat.shiftRight_eq_div_pow]
    have h6 : x.toUInt32.toNat / 2 ^ 1 < 2 ^ 32 := by omega
    rw [Nat.mod_eq_of_lt (by omega)]
  exact ⟨x.toUInt32.toNat / 2, by have := x.toUInt32.toNat_lt; omega, e⟩
theorem at_nI (x : Int32) {n : Nat} (h0 : 0 < n) (hn : n < 2 ^ 31) : ∃ j : Nat, j < n ∧ rL_at x (nI n) = nI j := by
  obtain ⟨j, hj, e⟩ := ush1 x
  refine ⟨j % n, Nat.mod_lt _ h0, ?_⟩
  unfold rL_at
  rw [e]
  exact pk_rem hj h0 hn
theorem at_in {x N : Int32} {n : Nat} (hN : N = nI n := by rfl) (h0 : 0 < n := by decide) (hn : n < 2 ^ 31 := by decide) : vp_in (rL_at x N) n := by
  subst hN
  obtain ⟨j, hj, e⟩ := at_nI x h0 hn
  rw [e]
  exact vp_in_nI hj hn
theorem within_at {x N M : Int32} {m : Nat} (hN : N = nI (2 * m + 1) := by rfl) (hM : M = nI m := by rfl) (hm : 2 * m + 1 < 2 ^ 30 := by decide) : rX1_isWithin (rL_at x N - M) M = 1 := by
  subst hN; subst hM
  obtain ⟨j, hj, e⟩ := at_nI x (n := 2 * m + 1) (by omega) (by omega)
  rw [e]
  have h1 : (nI j - nI m).toInt = (j : Int) - m := pk_sub_toInt (by omega) (by omega)
  have h2 : (-nI m : Int32).toInt = -(m : Int) := by
    have h3 : (-nI m : Int32) = nI 0 - nI m := by rw [nI_0, Int32.zero_sub]
    rw [h3, pk_sub_toInt (by decide) (by omega)]
    omega
  unfold rX1_isWithin
  rw [if_neg (fun q => by rw [Int32.lt_iff_toInt_lt, h1, h2] at q; omega), if_neg (fun q => by rw [Int32.lt_iff_toInt_lt, h1, nI_toInt (by omega)] at q; omega)]
/-- what the law's gift needs of the memory and the user -/
def gv (u : vM) (us : Int32) : Prop := kc u ∧ vp_in us 5 ∧ ∀ c a b : Int32, vp_in c 24 → vp_in a 24 → b = -1 ∨ vp_in b 24 → a < c → b < c → rX1_wouldReadItself u c a b = 0
theorem x_num {u : vM} {us a1 a2 c : Int32} (h : gv u us) (hc : rL_at a1 24 = c) : xX1_setNumber u us c (rL_at a2 2000001 - 1000000) = 0 := by
  subst hc
  unfold xX1_setNumber
  rw [user1_in h.2.1, if_neg c10, cell1_in (at_in (n := 24)), if_neg c10, within_at (m := 1000000), if_neg c10]
theorem x_sum {u : vM} {us a1 a2 a3 a4 c a b : Int32} (h : gv u us) (hc : rL_at a1 24 = c) (ha : rL_at a2 24 = a) (hb : rL_at a3 24 = b) (h1 : ¬ c ≤ a) (h2 : b < c) : xX1_setSum u us c a b (rL_at a4 2001 - 1000) = 0 := by
  have h1' : a < c := Int32.not_le.mp h1
  subst hc; subst ha; subst hb
  unfold xX1_setSum
  rw [user1_in h.2.1, if_neg c10, cell1_in (at_in (n := 24)), if_neg c10, cell1_in (at_in (n := 24)), if_neg c10, cell1_in (at_in (n := 24)), if_neg c10, within_at (m := 1000), if_neg c10, h.2.2 _ _ _ (at_in (n := 24)) (at_in (n := 24)) (Or.inr (at_in (n := 24))) h1' h2, if_pos rfl]
theorem x_gre {u : vM} {us a1 a2 a3 c a b : Int32} (h : gv u us) (hc : rL_at a1 24 = c) (ha : rL_at a2 24 = a) (hb : rL_at a3 24 = b) (h1 : ¬ c ≤ a) (h2 : b < c) : xX1_setGreater u us c a b = 0 := by
  have h1' : a < c := Int32.not_le.mp h1
  subst hc; subst ha; subst hb
  unfold xX1_setGreater
  rw [user1_in h.2.1, if_neg c10, cell1_in (at_in (n := 24)), if_neg c10, cell1_in (at_in (n := 24)), if_neg c10, cell1_in (at_in (n := 24)), if_neg c10, h.2.2 _ _ _ (at_in (n := 24)) (at_in (n := 24)) (Or.inr (at_in (n := 24))) h1' h2, if_pos rfl]
theorem m1_lt {c : Int32} (h : vp_in c 24) : (-1 : Int32) < c := by
  rw [Int32.lt_iff_toInt_lt]
  have h1 := (vp_in_iff.mp h).1
  have h2 : (-1 : Int32).toInt = -1 := by decide
  omega
theorem x_tim {u : vM} {us a1 a2 a4 c a : Int32} (h : gv u us) (hc : rL_at a1 24 = c) (ha : rL_at a2 24 = a) (h1 : ¬ c ≤ a) : xX1_setTimes u us c a (rL_at a4 201 - 100) = 0 := by
  have h1' : a < c := Int32.not_le.mp h1
  subst hc; subst ha
  unfold xX1_setTimes
  rw [user1_in h.2.1, if_neg c10, cell1_in (at_in (n := 24)), if_neg c10, cell1_in (at_in (n := 24)), if_neg c10, within_at (m := 100), if_neg c10, h.2.2 _ _ _ (at_in (n := 24)) (at_in (n := 24)) (Or.inl rfl) h1' (m1_lt (at_in (n := 24))), if_pos rfl]
