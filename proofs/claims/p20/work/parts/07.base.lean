/-! plain facts of rows, for the mathematics of the law -/
theorem upd_at {f : Nat → Int32} {k : Nat} {x : Int32} {j : Nat} : upd f k x j = if j = k then x else f j := rfl
theorem upd_eq {f : Nat → Int32} {k : Nat} {x : Int32} : upd f k x k = x := if_pos rfl
theorem upd_ne {f : Nat → Int32} {k j : Nat} {x : Int32} (h : j ≠ k) : upd f k x j = f j := if_neg h
theorem mup_row {u : vM} {q : Nat} {i x : Int32} : mup u q i x q = upd (u q) i.toNatClampNeg x := by
  unfold mup mR
  rw [Nat.beq_refl]
  rfl
theorem mst_row {u : vM} {q : Nat} {x : Int32} : mst u q x q = fun _ => x := by
  unfold mst mR
  rw [Nat.beq_refl]
  rfl
theorem mrd_nI {u : vM} {q i : Nat} (h : i < 2 ^ 31) : mrd u q (nI i) = u q i := by
  unfold mrd
  rw [nI_clamp h]
theorem mup_nI {u : vM} {q i : Nat} {x : Int32} (h : i < 2 ^ 31) : mup u q (nI i) x q = upd (u q) i x := by rw [mup_row, nI_clamp h]
theorem mrd_ne {u : vM} {q q' : Nat} {i x j : Int32} (h : q' ≠ q) : mrd (mup u q i x) q' j = mrd u q' j := by unfold mrd; rw [mup_ne h]
theorem d6_nI {j : Nat} (h : j < 2 ^ 31) : nI j / 6 = nI (j / 6) := pk_div h (by decide) (by decide)
theorem ix_nI {i j : Nat} (hi : i < 24) (hj : j < 24) : nI i * 24 + nI j = nI (24 * i + j) := by
  rw [show (24 : Int32) = nI 24 from rfl, pk_mul, nI_add, Nat.mul_comm]
theorem cell1_nI {j : Nat} (h : j < 24) : rX1_isCell (nI j) = 1 := cell1_in (vp_in_nI h (by decide))
theorem cell1_m1 : rX1_isCell (-1) = 0 := by decide +kernel
theorem add_cancel_l (x y : Int32) : x + -y + y = x := by grind
theorem bo_up {u : vM} {q : Nat} {i x : Int32} (h : bo u q) (hx : x = 0 ∨ x = 1) : bo (mup u q i x) q := by
  intro j
  rw [mup_row, upd_at]
  split
  · exact hx
  · exact h j
theorem bo_fr {u u' : vM} {q : Nat} (e : u' q = u q) (h : bo u q) : bo u' q := fun j => by rw [e]; exact h j
