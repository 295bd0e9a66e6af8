/-! a cell is computed, in step -/
def CR (u g : vM) : Prop := QL u g ∧ u 14 = g 12 ∧ RO u g ∧ KI g ∧ RS u g ∧ fm g ∧ kc u ∧ bo u 6 ∧ bo u 9
def mt (c r : Int32) : Int32 := if rX2_isMetered c r = 0 then -1 else r
theorem mt_m1 {c : Int32} : mt c (-1) = -1 := by
  unfold mt
  split <;> rfl
theorem mm_m1 {c : Int32} : rX1_meteredRead c (-1) = -1 := by
  unfold rX1_meteredRead
  rw [if_pos cell1_m1]
theorem mm_in {c r : Int32} (h : vp_in r 24) : rX1_meteredRead c r = mt c r := by
  unfold rX1_meteredRead mt rX2_isMetered rX1_sheetOf
  rw [cell1_in h, if_neg (by decide), if_neg (vp_ne1 h)]
  by_cases e : r / 6 = c / 6
  · rw [if_pos e, if_pos e.symm, if_pos rfl]
  · have e' : ¬ c / 6 = r / 6 := fun z => e z.symm
    rw [if_neg e, if_neg e', if_neg (by decide)]
theorem k12_ne0 {x : Int32} (a : x = 1 ∨ x = 2) : x ≠ 0 := by
  intro z
  rw [z] at a
  rcases a with a | a <;> exact absurd a (by decide)
theorem paid_one {u g : vM} (hf : fm g) (ho : RO u g) {c : Nat} (hc : c < 24) : rX1_meteredRead (nI c) (mrd u 2 (nI c)) = mt (nI c) (rX2_one g (nI c)) := by
  rw [mrd_nI hc, (ho c hc).1, one_eq hc]
  by_cases k : g 1 c = 0
  · rw [if_pos k, mm_m1, mt_m1]
  · rw [if_neg k, mm_in (hf c hc).1]
theorem paid_other {u g : vM} (hf : fm g) (ho : RO u g) {c : Nat} (hc : c < 24) : (if mrd u 3 (nI c) = mrd u 2 (nI c) then -1 else rX1_meteredRead (nI c) (mrd u 3 (nI c))) = mt (nI c) (rX2_other g (nI c)) := by
  rw [mrd_nI hc, mrd_nI hc, (ho c hc).1, (ho c hc).2, other_eq hc]
  by_cases a : g 1 c = 1 ∨ g 1 c = 2
  · rw [if_pos a, if_neg (k12_ne0 a), if_pos a]
    by_cases q : g 3 c = g 2 c
    · rw [if_pos q, if_pos q, mt_m1]
    · rw [if_neg q, if_neg q, mm_in (hf c hc).2]
  · rw [if_neg a, if_neg a, mm_m1, mt_m1, ite_self]
theorem cost_eq {u g : vM} (h : QL u g) {c r : Int32} (hr : rk r) : rX0_costOf u (mt c r) = rX2_priceOf g c r := by
  unfold rX0_costOf rX2_priceOf mt rX1_sheetOf
  by_cases M : rX2_isMetered c r = 0
  · rw [if_pos M, if_pos cell1_m1, if_pos M]
  · rw [if_neg M, if_neg (by rw [cell1_in (vqX2_isMetered M hr)]; decide), if_neg M, QL_mrd 13 11 h]
theorem upd_self {f : Nat → Int32} {k : Nat} : upd f k (f k) = f := by
  funext j
  rw [upd_at]
  by_cases e : j = k
  · rw [if_pos e, e]
  · rw [if_neg e]
theorem upd_upd {f : Nat → Int32} {k : Nat} {x y : Int32} : upd (upd f k x) k y = upd f k y := by
  funext j
  rw [upd_at, upd_at, upd_at]
  by_cases e : j = k
  · rw [if_pos e, if_pos e]
  · rw [if_neg e, if_neg e, if_neg e]
theorem i32_sub0 (x : Int32) : x - 0 = x := by rw [Int32.sub_eq_add_neg, Int32.neg_zero, Int32.add_zero]
theorem i32_sub2 (x y z : Int32) : x - y - z = x - (y + z) := by rw [Int32.sub_eq_add_neg, Int32.sub_eq_add_neg, Int32.sub_eq_add_neg, Int32.neg_add, Int32.sub_eq_add_neg, Int32.add_assoc]
theorem pay12' {g : vM} {a c r : Int32} : (uX2_pay g a c r) 12 = upd (g 12) (c / 6).toNatClampNeg (g 12 (c / 6).toNatClampNeg - rX2_priceOf g c r) := by
  unfold rX2_priceOf
  by_cases M : rX2_isMetered c r = 0
  · rw [if_pos M, i32_sub0, upd_self]
    unfold uX2_pay
    rw [if_pos M]
  · rw [if_neg M, pay12 M]
theorem step_QL {u g : vM} {a r : Int32} {c : Nat} (hc : c < 24) (hr : rk r) (h : QL u g) (hs : RS u g) : QL (uX0_enter u a (nI c) (mt (nI c) r)) (uX2_pay g a (nI c) r) ∧ RS (uX0_enter u a (nI c) (mt (nI c) r)) (uX2_pay g a (nI c) r) := by
  unfold mt
  by_cases M : rX2_isMetered (nI c) r = 0
  · rw [if_pos M]
    have e1 : uX0_enter u a (nI c) (-1) = u := by
      unfold uX0_enter
      rw [if_pos cell1_m1]
    have e2 : uX2_pay g a (nI c) r = g := by
      unfold uX2_pay
      rw [if_pos M]
    rw [e1, e2]
    exact ⟨h, hs⟩
  · rw [if_neg M]
    have hv := vqX2_isMetered M hr
    have h1 : rX1_isCell r ≠ 0 := by rw [cell1_in hv]; decide
    refine ⟨QL_enter h1 M h, ?_⟩
    have q1 := en16 (u := u) (a := a) (c := nI c) h1
    have q2 := pay16 (u := g) (a := a) M
    obtain ⟨j, hj, rfl⟩ := vp_in_of hv (by decide)
    exact RS_read hc hj hs q1 q2
/-- both pay for a cell's reads -/
theorem paid {u g : vM} (h : CR u g) {c : Nat} (hc : c < 24) (a : Int32) : CR (uX0_enter (uX0_enter (mup u 14 (nI c / 6) (mrd u 14 (nI c / 6) - (rX2_priceOf g (nI c) (rX2_one g (nI c)) + rX2_priceOf g (nI c) (rX2_other g (nI c))))) a (nI c) (mt (nI c) (rX2_one g (nI c)))) a (nI c) (mt (nI c) (rX2_other g (nI c)))) (uX2_pay (uX2_pay g a (nI c) (rX2_one g (nI c))) a (nI c) (rX2_other (uX2_pay g a (nI c) (rX2_one g (nI c))) (nI c))) := by
  obtain ⟨hQ, hB, hO, hK, hS, hf, hk, h6, h9⟩ := h
  have hv : vp_in (nI c) 24 := vp_in_nI hc (by decide)
  have r1 := vq_one_rk hf hv
  have r2 := vq_other_rk hf hv
  have e0 : rX2_other (uX2_pay g a (nI c) (rX2_one g (nI c))) (nI c) = rX2_other g (nI c) := by
    rw [other_eq hc, other_eq hc, fr_uX2_pay (by decide) (by decide) (by decide) (by decide) (by decide) (by decide), fr_uX2_pay (by decide) (by decide) (by decide) (by decide) (by decide) (by decide), fr_uX2_pay (by decide) (by decide) (by decide) (by decide) (by decide) (by decide)]
  rw [e0]
  generalize rX2_one g (nI c) = x1 at r1 ⊢
  generalize rX2_other g (nI c) = x2 at r2 ⊢
  have hQ0 : QL (mup u 14 (nI c / 6) (mrd u 14 (nI c / 6) - (rX2_priceOf g (nI c) x1 + rX2_priceOf g (nI c) x2))) g := QL_L (by decide) hQ
  have hS0 : RS (mup u 14 (nI c / 6) (mrd u 14 (nI c / 6) - (rX2_priceOf g (nI c) x1 + rX2_priceOf g (nI c) x2))) g := by
    intro s hs
    rw [mup_ne (by decide)]
    exact hS s hs
  obtain ⟨q1, s1⟩ := step_QL (a := a) hc r1 hQ0 hS0
  obtain ⟨q2, s2⟩ := step_QL (a := a) hc r2 q1 s1
  have fu : ∀ q, q ≠ 8 → q ≠ 14 → q ≠ 15 → q ≠ 16 → q ≠ 17 → q ≠ 18 → q ≠ 19 → uX0_enter (uX0_enter (mup u 14 (nI c / 6) (mrd u 14 (nI c / 6) - (rX2_priceOf g (nI c) x1 + rX2_priceOf g (nI c) x2))) a (nI c) (mt (nI c) x1)) a (nI c) (mt (nI c) x2) q = u q := fun q h8 h14 h15 h16 h17 h18 h19 => by rw [fr_uX0_enter h8 h15 h16 h17 h18 h19, fr_uX0_enter h8 h15 h16 h17 h18 h19, mup_ne h14]
  have fg : ∀ q, q ≠ 12 → q ≠ 13 → q ≠ 14 → q ≠ 15 → q ≠ 16 → q ≠ 17 → uX2_pay (uX2_pay g a (nI c) x1) a (nI c) x2 q = g q := fun q h1 h2 h3 h4 h5 h6 => by rw [fr_uX2_pay h1 h2 h3 h4 h5 h6, fr_uX2_pay h1 h2 h3 h4 h5 h6]
  refine ⟨q2, ?_, RO_fr (fu 2 (by decide) (by decide) (by decide) (by decide) (by decide) (by decide) (by decide)) (fu 3 (by decide) (by decide) (by decide) (by decide) (by decide) (by decide) (by decide)) (fg 1 (by decide) (by decide) (by decide) (by decide) (by decide) (by decide)) (fg 2 (by decide) (by decide) (by decide) (by decide) (by decide) (by decide)) (fg 3 (by decide) (by decide) (by decide) (by decide) (by decide) (by decide)) hO, ?_, s2, fm_congr (fg 2 (by decide) (by decide) (by decide) (by decide) (by decide) (by decide)) (fg 3 (by decide) (by decide) (by decide) (by decide) (by decide) (by decide)) hf, kc_X0_enter (kc_X0_enter (kc_congr (mup_ne (by decide)) hk)), ?_, ?_⟩
  · rw [fr_uX0_enter (by decide) (by decide) (by decide) (by decide) (by decide) (by decide), fr_uX0_enter (by decide) (by decide) (by decide) (by decide) (by decide) (by decide), mup_row, pay12', pay12', upd_upd, upd_at, if_pos rfl, hB]
    have e3 : rX2_priceOf (uX2_pay g a (nI c) x1) (nI c) x2 = rX2_priceOf g (nI c) x2 := by
      unfold rX2_priceOf mrd
      rw [fr_uX2_pay (by decide) (by decide) (by decide) (by decide) (by decide) (by decide)]
    rw [e3, i32_sub2]
    unfold mrd
    rw [hB]
  · intro i hi
    rw [fg 1 (by decide) (by decide) (by decide) (by decide) (by decide) (by decide)]
    exact hK i hi
  · intro i
    rw [fu 6 (by decide) (by decide) (by decide) (by decide) (by decide) (by decide) (by decide)]
    exact h6 i
  · intro i
    rw [fu 9 (by decide) (by decide) (by decide) (by decide) (by decide) (by decide) (by decide)]
    exact h9 i
/-! what a cell comes to -/
theorem held_eq (x : Int32) : rX1_held x = rX2_held x := by
  unfold rX1_held rX2_held
  have e1 : (1000000 : Int32).toInt = 1000000 := by decide
  have e2 : (-1000000 : Int32).toInt = -1000000 := by decide
  apply Int32.toInt_inj.mp
  (repeat' split) <;> (simp only [Int32.lt_iff_toInt_lt, Int32.le_iff_toInt_le, e1, e2] at *) <;> omega
theorem vin_lt {x : Int32} (h : vp_in x 24) : ¬ x < 0 ∧ ¬ (24 : Int32) ≤ x := by
  rw [vp_in_iff] at h
  have e : (24 : Int32).toInt = 24 := by decide
  rw [Int32.lt_iff_toInt_lt, Int32.le_iff_toInt_le, Int32.toInt_zero, e]
  omega
theorem vi5_in {u : vM} {x : Int32} (h : vp_in x 24) : rX1_valueIn_v5 u x = mrd u 5 x := by
  unfold rX1_valueIn_v5
  rw [if_neg (vin_lt h).1, if_neg (vin_lt h).2]
theorem vi12_in {u : vM} {x : Int32} (h : vp_in x 24) : rX1_valueIn_v12 u x = mrd u 12 x := by
  unfold rX1_valueIn_v12
  rw [if_neg (vin_lt h).1, if_neg (vin_lt h).2]
theorem mx_eq (a b : Int32) : (if a < b then b else a) = (if a ≤ b then b else a) := by
  apply Int32.toInt_inj.mp
  (repeat' split) <;> (simp only [Int32.lt_iff_toInt_lt, Int32.le_iff_toInt_le] at *) <;> omega
theorem n01 : ((0 : Int32) = 1) = False := eq_false (by decide)
theorem n02 : ((0 : Int32) = 2) = False := eq_false (by decide)
theorem n03 : ((0 : Int32) = 3) = False := eq_false (by decide)
theorem n10 : ((1 : Int32) = 0) = False := eq_false (by decide)
theorem n12 : ((1 : Int32) = 2) = False := eq_false (by decide)
theorem n13 : ((1 : Int32) = 3) = False := eq_false (by decide)
theorem n20 : ((2 : Int32) = 0) = False := eq_false (by decide)
theorem n21 : ((2 : Int32) = 1) = False := eq_false (by decide)
theorem n23 : ((2 : Int32) = 3) = False := eq_false (by decide)
theorem n30 : ((3 : Int32) = 0) = False := eq_false (by decide)
theorem n31 : ((3 : Int32) = 1) = False := eq_false (by decide)
theorem n32 : ((3 : Int32) = 2) = False := eq_false (by decide)
theorem res5 {u g : vM} (hQ : QL u g) (hO : RO u g) (hK : KI g) (hf : fm g) {c : Nat} (hc : c < 24) : rX1_resultOf_v5 u (nI c) = rX2_comesTo_v5 g (nI c) := by
  unfold rX1_resultOf_v5 rX2_comesTo_v5
  dsimp only
  rw [QL_mrd 1 1 hQ, QL_mrd 4 4 hQ]
  simp only [mrd_nI hc, (hO c hc).1, (hO c hc).2]
  rcases hK c hc with k | k | k | k
  · simp only [k, n01, n02, n03, n10, n12, n13, n20, n21, n23, n30, n31, n32, if_true, if_false]
  · simp only [k, n01, n02, n03, n10, n12, n13, n20, n21, n23, n30, n31, n32, if_true, if_false, true_or, or_true, vi5_in (hf c hc).1, vi5_in (hf c hc).2, held_eq, QL_mrd 5 5 hQ]
  · simp only [k, n01, n02, n03, n10, n12, n13, n20, n21, n23, n30, n31, n32, if_true, if_false, true_or, or_true, vi5_in (hf c hc).1, vi5_in (hf c hc).2, mx_eq, QL_mrd 5 5 hQ]
  · simp only [k, n01, n02, n03, n10, n12, n13, n20, n21, n23, n30, n31, n32, if_true, if_false, true_or, or_true, vi5_in (hf c hc).1, held_eq, QL_mrd 5 5 hQ]
theorem res12 {u g : vM} (hQ : QL u g) (hO : RO u g) (hK : KI g) (hf : fm g) {c : Nat} (hc : c < 24) : rX1_resultOf_v12 u (nI c) = rX2_comesTo_v8 g (nI c) := by
  unfold rX1_resultOf_v12 rX2_comesTo_v8
  dsimp only
  rw [QL_mrd 1 1 hQ, QL_mrd 4 4 hQ]
  simp only [mrd_nI hc, (hO c hc).1, (hO c hc).2]
  rcases hK c hc with k | k | k | k
  · simp only [k, n01, n02, n03, n10, n12, n13, n20, n21, n23, n30, n31, n32, if_true, if_false]
  · simp only [k, n01, n02, n03, n10, n12, n13, n20, n21, n23, n30, n31, n32, if_true, if_false, true_or, or_true, vi12_in (hf c hc).1, vi12_in (hf c hc).2, held_eq, QL_mrd 12 8 hQ]
  · simp only [k, n01, n02, n03, n10, n12, n13, n20, n21, n23, n30, n31, n32, if_true, if_false, true_or, or_true, vi12_in (hf c hc).1, vi12_in (hf c hc).2, mx_eq, QL_mrd 12 8 hQ]
  · simp only [k, n01, n02, n03, n10, n12, n13, n20, n21, n23, n30, n31, n32, if_true, if_false, true_or, or_true, vi12_in (hf c hc).1, held_eq, QL_mrd 12 8 hQ]
