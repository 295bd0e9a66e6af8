def rX2_thrown (u : vM) : Int32 := (mfd u 18)
def rmX2_thrown : Room := { frames := 0, cells := 0, slots := 0, locals := 0 }
def rX2_fails (u : vM) (a1 : Int32) : Int32 := 0
def uX2_fails (u : vM) (a1 : Int32) : vM := (mst u 18 a1)
def rmX2_fails : Room := { frames := 0, cells := 0, slots := 0, locals := 0 }
theorem fr_uX2_fails {u : vM} {a1 : Int32} {q : Nat} (h18 : q ≠ 18) : uX2_fails u a1 q = u q := by
  unfold uX2_fails
  (try dsimp only)
  (repeat' split) <;> (try simp only [mup_ne h18, mst_ne h18])
def rX2_in (a0 : Int32) (a1 : Int32) (a2 : Int32) : Int32 := (if a0 < a1 then 0 else (if a2 < a0 then 0 else 1))
def rmX2_in : Room := { frames := 0, cells := 0, slots := 0, locals := 0 }
theorem bX2_in (a0 : Int32) (a1 : Int32) (a2 : Int32) : rX2_in a0 a1 a2 = 0 ∨ rX2_in a0 a1 a2 = 1 := by
  unfold rX2_in
  (try dsimp only)
  (repeat' split) <;> first | with_reducible exact Or.inl rfl | with_reducible exact Or.inr rfl
def rX2_isCell (a0 : Int32) : Int32 := (rX2_in a0 0 23)
def rmX2_isCell : Room := { frames := 1, cells := 0, slots := 0, locals := 22 }
theorem bX2_isCell (a0 : Int32) : rX2_isCell a0 = 0 ∨ rX2_isCell a0 = 1 := by
  unfold rX2_isCell
  (try dsimp only)
  (repeat' split) <;> first | with_reducible exact Or.inl rfl | with_reducible exact Or.inr rfl | exact bX2_in _ _ _
def rX2_isSheet (a0 : Int32) : Int32 := (rX2_in a0 0 3)
def rmX2_isSheet : Room := { frames := 1, cells := 0, slots := 0, locals := 22 }
theorem bX2_isSheet (a0 : Int32) : rX2_isSheet a0 = 0 ∨ rX2_isSheet a0 = 1 := by
  unfold rX2_isSheet
  (try dsimp only)
  (repeat' split) <;> first | with_reducible exact Or.inl rfl | with_reducible exact Or.inr rfl | exact bX2_in _ _ _
def rX2_one (u : vM) (a1 : Int32) : Int32 := (if (mrd u 1 a1) = 0 then (-1) else (mrd u 2 a1))
def rmX2_one : Room := { frames := 0, cells := 0, slots := 0, locals := 0 }
def rX2_other (u : vM) (a1 : Int32) : Int32 := (let j25 : Int32 := (if (mrd u 1 a1) = 1 then 1 else (if (mrd u 1 a1) = 2 then 1 else 0)); (if j25 = 0 then (-1) else (if (mrd u 3 a1) = (mrd u 2 a1) then (-1) else (mrd u 3 a1))))
def rmX2_other : Room := { frames := 0, cells := 0, slots := 0, locals := 0 }
def lpX2_layOrder_2 : Nat → Nat → vM → vM
  | 0, _, u => u
  | n + 1, k, u => (let u14 : vM := mup u 10 (nI k) 0; lpX2_layOrder_2 n (k + 1) u14)
def lpX2_layOrder_34 (u : vM) : Nat → Int32 → Int32
  | 0, x2 => x2
  | n + 1, x2 => (let j66 : Int32 := (if (rX2_one u (nI n)) = (-1) then 1 else (if (mrd u 10 (rX2_one u (nI n))) = 1 then 1 else 0)); (let j96 : Int32 := (if (rX2_other u (nI n)) = (-1) then 1 else (if (mrd u 10 (rX2_other u (nI n))) = 1 then 1 else 0)); (let j122 : Int32 := (if (mrd u 10 (nI n)) = 0 then (if j66 = 0 then x2 else (if j96 = 0 then x2 else (nI n))) else x2); lpX2_layOrder_34 u n j122)))
def lpX2_layOrder_23 : Nat → Nat → vM → vM
  | 0, _, u => u
  | n + 1, k, u => (let r34 := lpX2_layOrder_34 u 24 (-1); (let u135 : vM := mup u 9 (nI k) r34; (let u142 : vM := mup u135 10 r34 1; lpX2_layOrder_23 n (k + 1) u142)))
def uX2_layOrder (u : vM) : vM := (let r2 := lpX2_layOrder_2 24 0 u; (lpX2_layOrder_23 24 0 r2))
def rmX2_layOrder : Room := { frames := 1, cells := 0, slots := 0, locals := 22 }
theorem fr_lpX2_layOrder_2_all {q : Nat} (h10 : q ≠ 10) : ∀ (n k : Nat) (u : vM), (lpX2_layOrder_2 n k u) q = u q := by
  intro n
  induction n with
  | zero => intro k u; rfl
  | succ n ih =>
    intro k u
    unfold lpX2_layOrder_2
    (try dsimp only)
    (repeat' split) <;> (simp only [ih, mup_ne h10, mst_ne h10])
theorem fr_lpX2_layOrder_2{n k : Nat} {u : vM} {q : Nat} (h10 : q ≠ 10) : (lpX2_layOrder_2 n k u) q = u q := fr_lpX2_layOrder_2_all h10 n k u
theorem fr_lpX2_layOrder_23_all {q : Nat} (h9 : q ≠ 9) (h10 : q ≠ 10) : ∀ (n k : Nat) (u : vM), (lpX2_layOrder_23 n k u) q = u q := by
  intro n
  induction n with
  | zero => intro k u; rfl
  | succ n ih =>
    intro k u
    unfold lpX2_layOrder_23
    (try dsimp only)
    (repeat' split) <;> (simp only [ih, mup_ne h9, mup_ne h10, mst_ne h9, mst_ne h10])
theorem fr_lpX2_layOrder_23{n k : Nat} {u : vM} {q : Nat} (h9 : q ≠ 9) (h10 : q ≠ 10) : (lpX2_layOrder_23 n k u) q = u q := fr_lpX2_layOrder_23_all h9 h10 n k u
theorem fr_uX2_layOrder {u : vM} {q : Nat} (h9 : q ≠ 9) (h10 : q ≠ 10) : uX2_layOrder u q = u q := by
  unfold uX2_layOrder
  (try dsimp only)
  (repeat' split) <;> (try simp only [mup_ne h9, mup_ne h10, mst_ne h9, mst_ne h10, fr_lpX2_layOrder_2 h10, fr_lpX2_layOrder_23 h9 h10])
def rX2_held (a0 : Int32) : Int32 := (if a0 ≤ 1000000 then (if (-1000000) ≤ a0 then a0 else (-1000000)) else 1000000)
def rmX2_held : Room := { frames := 0, cells := 0, slots := 0, locals := 0 }
def rX2_comesTo_v5 (u : vM) (a1 : Int32) : Int32 := (let y6 : Int32 := (mrd u 2 a1); (let y13 : Int32 := (mrd u 3 a1); (if (mrd u 1 a1) = 0 then (mrd u 4 a1) else (if (mrd u 1 a1) = 1 then (rX2_held (((mrd u 5 y6) + (mrd u 5 y13)) + (mrd u 4 a1))) else (if (mrd u 1 a1) = 2 then (if (mrd u 5 y6) ≤ (mrd u 5 y13) then (mrd u 5 y13) else (mrd u 5 y6)) else (rX2_held ((mrd u 5 y6) * (mrd u 4 a1))))))))
def rmX2_comesTo : Room := { frames := 1, cells := 0, slots := 0, locals := 20 }
def rX2_comesTo_v8 (u : vM) (a1 : Int32) : Int32 := (let y6 : Int32 := (mrd u 2 a1); (let y13 : Int32 := (mrd u 3 a1); (if (mrd u 1 a1) = 0 then (mrd u 4 a1) else (if (mrd u 1 a1) = 1 then (rX2_held (((mrd u 8 y6) + (mrd u 8 y13)) + (mrd u 4 a1))) else (if (mrd u 1 a1) = 2 then (if (mrd u 8 y6) ≤ (mrd u 8 y13) then (mrd u 8 y13) else (mrd u 8 y6)) else (rX2_held ((mrd u 8 y6) * (mrd u 4 a1))))))))
def rX2_isMetered (a0 : Int32) (a1 : Int32) : Int32 := (if a1 = (-1) then 0 else (if (a0 / 6) = (a1 / 6) then 0 else 1))
def rmX2_isMetered : Room := { frames := 0, cells := 0, slots := 0, locals := 0 }
theorem bX2_isMetered (a0 : Int32) (a1 : Int32) : rX2_isMetered a0 a1 = 0 ∨ rX2_isMetered a0 a1 = 1 := by
  unfold rX2_isMetered
  (try dsimp only)
  (repeat' split) <;> first | with_reducible exact Or.inl rfl | with_reducible exact Or.inr rfl
def rX2_priceOf (u : vM) (a1 : Int32) (a2 : Int32) : Int32 := (if (rX2_isMetered a1 a2) = 0 then 0 else (mrd u 11 (a2 / 6)))
def rmX2_priceOf : Room := { frames := 1, cells := 0, slots := 0, locals := 21 }
def uX2_pay (u : vM) (a1 : Int32) (a2 : Int32) (a3 : Int32) : vM := (if (rX2_isMetered a2 a3) = 0 then u else (let y17 : Int32 := (mrd u 11 (a3 / 6)); (let u32 : vM := mup u 12 (a2 / 6) ((mrd u 12 (a2 / 6)) - y17); (let u46 : vM := mup u32 13 (a3 / 6) ((mrd u32 13 (a3 / 6)) + y17); (let u57 : vM := mup u46 14 a1 ((mrd u46 14 a1) + y17); (let u72 : vM := mup u57 16 ((24 * a2) + a3) ((mrd u57 16 ((24 * a2) + a3)) + 1); (if 500 ≤ (mfd u72 17) then u72 else (let u103 : vM := mup u72 15 (mfd u72 17) (((10000 * a1) + (100 * a2)) + a3); (mst u103 17 ((mfd u103 17) + 1))))))))))
def rmX2_pay : Room := { frames := 1, cells := 0, slots := 0, locals := 21 }
theorem fr_uX2_pay {u : vM} {a1 : Int32} {a2 : Int32} {a3 : Int32} {q : Nat} (h12 : q ≠ 12) (h13 : q ≠ 13) (h14 : q ≠ 14) (h15 : q ≠ 15) (h16 : q ≠ 16) (h17 : q ≠ 17) : uX2_pay u a1 a2 a3 q = u q := by
  unfold uX2_pay
  (try dsimp only)
  (repeat' split) <;> (try simp only [mup_ne h12, mup_ne h13, mup_ne h14, mup_ne h15, mup_ne h16, mup_ne h17, mst_ne h12, mst_ne h13, mst_ne h14, mst_ne h15, mst_ne h16, mst_ne h17])
def uX2_compute (u : vM) (a1 : Int32) (a2 : Int32) : vM := (let y21 : Int32 := ((rX2_priceOf u a2 (rX2_one u a2)) + (rX2_priceOf u a2 (rX2_other u a2))); (if y21 ≤ (mrd u 12 (a2 / 6)) then (let u51 : vM := uX2_pay u a1 a2 (rX2_one u a2); (let u62 : vM := uX2_pay u51 a1 a2 (rX2_other u51 a2); (let y74 : Int32 := (rX2_comesTo_v5 u62 a2); (let j97 : Int32 := (if y74 = (mrd u62 5 a2) then 0 else 1); (let u97 : vM := mup u62 7 a2 j97; (let u105 : vM := mup u97 5 a2 y74; (mup u105 6 a2 0))))))) else (mup u 6 a2 1)))
def rmX2_compute : Room := { frames := 2, cells := 0, slots := 0, locals := 45 }
theorem fr_uX2_compute {u : vM} {a1 : Int32} {a2 : Int32} {q : Nat} (h5 : q ≠ 5) (h6 : q ≠ 6) (h7 : q ≠ 7) (h12 : q ≠ 12) (h13 : q ≠ 13) (h14 : q ≠ 14) (h15 : q ≠ 15) (h16 : q ≠ 16) (h17 : q ≠ 17) : uX2_compute u a1 a2 q = u q := by
  unfold uX2_compute
  (try dsimp only)
  (repeat' split) <;> (try simp only [mup_ne h5, mup_ne h6, mup_ne h7, mup_ne h12, mup_ne h13, mup_ne h14, mup_ne h15, mup_ne h16, mup_ne h17, mst_ne h5, mst_ne h6, mst_ne h7, mst_ne h12, mst_ne h13, mst_ne h14, mst_ne h15, mst_ne h16, mst_ne h17, fr_uX2_pay h12 h13 h14 h15 h16 h17])
def rX2_readsChanged (u : vM) (a1 : Int32) : Int32 := (if (rX2_one u a1) = (-1) then (if (rX2_other u a1) = (-1) then 0 else (if (mrd u 7 (rX2_other u a1)) = 1 then 1 else 0)) else (if (mrd u 7 (rX2_one u a1)) = 1 then 1 else (if (rX2_other u a1) = (-1) then 0 else (if (mrd u 7 (rX2_other u a1)) = 1 then 1 else 0))))
def rmX2_readsChanged : Room := { frames := 1, cells := 0, slots := 0, locals := 22 }
theorem bX2_readsChanged (u : vM) (a1 : Int32) : rX2_readsChanged u a1 = 0 ∨ rX2_readsChanged u a1 = 1 := by
  unfold rX2_readsChanged
  (try dsimp only)
  (repeat' split) <;> first | with_reducible exact Or.inl rfl | with_reducible exact Or.inr rfl | exact bX2_one _ _ | exact bX2_other _ _
def lpX2_goThrough_9 (a1 : Int32) (a2 : Int32) : Nat → Nat → vM → Int32 → vM × Int32
  | 0, _, u, x3 => (u, x3)
  | n + 1, k, u, x3 => (let y23 : Int32 := (mrd u 9 (nI k)); (if a2 = 0 then (if (rX2_readsChanged u y23) = 0 then lpX2_goThrough_9 a1 a2 n (k + 1) u x3 else (let u53 : vM := uX2_compute u a1 y23; lpX2_goThrough_9 a1 a2 n (k + 1) u53 (x3 + 1))) else (if (mrd u 6 y23) = 1 then (let u53 : vM := uX2_compute u a1 y23; lpX2_goThrough_9 a1 a2 n (k + 1) u53 (x3 + 1)) else (if (rX2_readsChanged u y23) = 0 then lpX2_goThrough_9 a1 a2 n (k + 1) u x3 else (let u53 : vM := uX2_compute u a1 y23; lpX2_goThrough_9 a1 a2 n (k + 1) u53 (x3 + 1))))))
def rX2_goThrough (u : vM) (a1 : Int32) (a2 : Int32) : Int32 := (let u1 : vM := uX2_layOrder u; (let r9 := lpX2_goThrough_9 a1 a2 24 0 u1 0; r9.2))
def uX2_goThrough (u : vM) (a1 : Int32) (a2 : Int32) : vM := (let u1 : vM := uX2_layOrder u; (let r9 := lpX2_goThrough_9 a1 a2 24 0 u1 0; r9.1))
def rmX2_goThrough : Room := { frames := 3, cells := 0, slots := 0, locals := 69 }
theorem fr_lpX2_goThrough_9_all {a1 : Int32} {a2 : Int32} {q : Nat} (h5 : q ≠ 5) (h6 : q ≠ 6) (h7 : q ≠ 7) (h12 : q ≠ 12) (h13 : q ≠ 13) (h14 : q ≠ 14) (h15 : q ≠ 15) (h16 : q ≠ 16) (h17 : q ≠ 17) : ∀ (n k : Nat) (u : vM) (x3 : Int32), (lpX2_goThrough_9 a1 a2 n k u x3).1 q = u q := by
  intro n
  induction n with
  | zero => intro k u x3; rfl
  | succ n ih =>
    intro k u x3
    unfold lpX2_goThrough_9
    (try dsimp only)
    (repeat' split) <;> (simp only [ih, mup_ne h5, mup_ne h6, mup_ne h7, mup_ne h12, mup_ne h13, mup_ne h14, mup_ne h15, mup_ne h16, mup_ne h17, mst_ne h5, mst_ne h6, mst_ne h7, mst_ne h12, mst_ne h13, mst_ne h14, mst_ne h15, mst_ne h16, mst_ne h17, fr_uX2_compute h5 h6 h7 h12 h13 h14 h15 h16 h17])
theorem fr_lpX2_goThrough_9 {a1 : Int32} {a2 : Int32}{n k : Nat} {u : vM} {x3 : Int32} {q : Nat} (h5 : q ≠ 5) (h6 : q ≠ 6) (h7 : q ≠ 7) (h12 : q ≠ 12) (h13 : q ≠ 13) (h14 : q ≠ 14) (h15 : q ≠ 15) (h16 : q ≠ 16) (h17 : q ≠ 17) : (lpX2_goThrough_9 a1 a2 n k u x3).1 q = u q := fr_lpX2_goThrough_9_all h5 h6 h7 h12 h13 h14 h15 h16 h17 n k u x3
theorem fr_uX2_goThrough {u : vM} {a1 : Int32} {a2 : Int32} {q : Nat} (h5 : q ≠ 5) (h6 : q ≠ 6) (h7 : q ≠ 7) (h9 : q ≠ 9) (h10 : q ≠ 10) (h12 : q ≠ 12) (h13 : q ≠ 13) (h14 : q ≠ 14) (h15 : q ≠ 15) (h16 : q ≠ 16) (h17 : q ≠ 17) : uX2_goThrough u a1 a2 q = u q := by
  unfold uX2_goThrough
  (try dsimp only)
  (repeat' split) <;> (try simp only [mup_ne h5, mup_ne h6, mup_ne h7, mup_ne h9, mup_ne h10, mup_ne h12, mup_ne h13, mup_ne h14, mup_ne h15, mup_ne h16, mup_ne h17, mst_ne h5, mst_ne h6, mst_ne h7, mst_ne h9, mst_ne h10, mst_ne h12, mst_ne h13, mst_ne h14, mst_ne h15, mst_ne h16, mst_ne h17, fr_lpX2_goThrough_9 h5 h6 h7 h12 h13 h14 h15 h16 h17, fr_uX2_layOrder h9 h10])
def lpX2_reaches_2 (a1 : Int32) : Nat → Nat → vM → vM
  | 0, _, u => u
  | n + 1, k, u => (let j23 : Int32 := (if (nI k) = a1 then 1 else 0); (let u23 : vM := mup u 10 (nI k) j23; lpX2_reaches_2 a1 n (k + 1) u23))
def lpX2_reaches_41 : Nat → Nat → vM → vM
  | 0, _, u => u
  | n + 1, k, u => (if (mrd u 10 (nI k)) = 1 then (if (rX2_one u (nI k)) = (-1) then (if (rX2_other u (nI k)) = (-1) then lpX2_reaches_41 n (k + 1) u else (let u102 : vM := mup u 10 (rX2_other u (nI k)) 1; lpX2_reaches_41 n (k + 1) u102)) else (let u80 : vM := mup u 10 (rX2_one u (nI k)) 1; (if (rX2_other u80 (nI k)) = (-1) then lpX2_reaches_41 n (k + 1) u80 else (let u102 : vM := mup u80 10 (rX2_other u80 (nI k)) 1; lpX2_reaches_41 n (k + 1) u102)))) else lpX2_reaches_41 n (k + 1) u)
def lpX2_reaches_32 : Nat → Nat → vM → vM
  | 0, _, u => u
  | n + 1, k, u => (let r41 := lpX2_reaches_41 24 0 u; lpX2_reaches_32 n (k + 1) r41)
def rX2_reaches (u : vM) (a1 : Int32) (a2 : Int32) : Int32 := (let r2 := lpX2_reaches_2 a1 24 0 u; (let r32 := lpX2_reaches_32 24 0 r2; (if (mrd r32 10 a2) = 1 then 1 else 0)))
def uX2_reaches (u : vM) (a1 : Int32) (a2 : Int32) : vM := (let r2 := lpX2_reaches_2 a1 24 0 u; (lpX2_reaches_32 24 0 r2))
def rmX2_reaches : Room := { frames := 1, cells := 0, slots := 0, locals := 22 }
theorem bX2_reaches (u : vM) (a1 : Int32) (a2 : Int32) : rX2_reaches u a1 a2 = 0 ∨ rX2_reaches u a1 a2 = 1 := by
  unfold rX2_reaches
  (try dsimp only)
  (repeat' split) <;> first | with_reducible exact Or.inl rfl | with_reducible exact Or.inr rfl
theorem fr_lpX2_reaches_2_all {a1 : Int32} {q : Nat} (h10 : q ≠ 10) : ∀ (n k : Nat) (u : vM), (lpX2_reaches_2 a1 n k u) q = u q := by
  intro n
  induction n with
  | zero => intro k u; rfl
  | succ n ih =>
    intro k u
    unfold lpX2_reaches_2
    (try dsimp only)
    (repeat' split) <;> (simp only [ih, mup_ne h10, mst_ne h10])
theorem fr_lpX2_reaches_2 {a1 : Int32}{n k : Nat} {u : vM} {q : Nat} (h10 : q ≠ 10) : (lpX2_reaches_2 a1 n k u) q = u q := fr_lpX2_reaches_2_all h10 n k u
theorem fr_lpX2_reaches_41_all {q : Nat} (h10 : q ≠ 10) : ∀ (n k : Nat) (u : vM), (lpX2_reaches_41 n k u) q = u q := by
  intro n
  induction n with
  | zero => intro k u; rfl
  | succ n ih =>
    intro k u
    unfold lpX2_reaches_41
    (try dsimp only)
    (repeat' split) <;> (simp only [ih, mup_ne h10, mst_ne h10])
theorem fr_lpX2_reaches_41{n k : Nat} {u : vM} {q : Nat} (h10 : q ≠ 10) : (lpX2_reaches_41 n k u) q = u q := fr_lpX2_reaches_41_all h10 n k u
theorem fr_lpX2_reaches_32_all {q : Nat} (h10 : q ≠ 10) : ∀ (n k : Nat) (u : vM), (lpX2_reaches_32 n k u) q = u q := by
  intro n
  induction n with
  | zero => intro k u; rfl
  | succ n ih =>
    intro k u
    unfold lpX2_reaches_32
    (try dsimp only)
    (repeat' split) <;> (simp only [ih, mup_ne h10, mst_ne h10, fr_lpX2_reaches_41 h10])
theorem fr_lpX2_reaches_32{n k : Nat} {u : vM} {q : Nat} (h10 : q ≠ 10) : (lpX2_reaches_32 n k u) q = u q := fr_lpX2_reaches_32_all h10 n k u
theorem fr_uX2_reaches {u : vM} {a1 : Int32} {a2 : Int32} {q : Nat} (h10 : q ≠ 10) : uX2_reaches u a1 a2 q = u q := by
  unfold uX2_reaches
  (try dsimp only)
  (repeat' split) <;> (try simp only [mup_ne h10, mst_ne h10, fr_lpX2_reaches_2 h10, fr_lpX2_reaches_32 h10])
def lpX2_change_34 : Nat → Nat → vM → vM
  | 0, _, u => u
  | n + 1, k, u => (let u48 : vM := mup u 7 (nI k) 0; lpX2_change_34 n (k + 1) u48)
def rX2_change (u : vM) (a1 : Int32) (a2 : Int32) (a3 : Int32) (a4 : Int32) (a5 : Int32) (a6 : Int32) : Int32 := (let u6 : vM := mup u 1 a2 a3; (let u14 : vM := mup u6 2 a2 a4; (let u22 : vM := mup u14 3 a2 a5; (let u30 : vM := mup u22 4 a2 a6; (let r34 := lpX2_change_34 24 0 u30; (let u58 : vM := uX2_compute r34 a1 a2; (1 + (rX2_goThrough u58 a1 0))))))))
def uX2_change (u : vM) (a1 : Int32) (a2 : Int32) (a3 : Int32) (a4 : Int32) (a5 : Int32) (a6 : Int32) : vM := (let u6 : vM := mup u 1 a2 a3; (let u14 : vM := mup u6 2 a2 a4; (let u22 : vM := mup u14 3 a2 a5; (let u30 : vM := mup u22 4 a2 a6; (let r34 := lpX2_change_34 24 0 u30; (let u58 : vM := uX2_compute r34 a1 a2; (uX2_goThrough u58 a1 0)))))))
def rmX2_change : Room := { frames := 4, cells := 0, slots := 0, locals := 94 }
theorem fr_lpX2_change_34_all {q : Nat} (h7 : q ≠ 7) : ∀ (n k : Nat) (u : vM), (lpX2_change_34 n k u) q = u q := by
  intro n
  induction n with
  | zero => intro k u; rfl
  | succ n ih =>
    intro k u
    unfold lpX2_change_34
    (try dsimp only)
    (repeat' split) <;> (simp only [ih, mup_ne h7, mst_ne h7])
theorem fr_lpX2_change_34{n k : Nat} {u : vM} {q : Nat} (h7 : q ≠ 7) : (lpX2_change_34 n k u) q = u q := fr_lpX2_change_34_all h7 n k u
theorem fr_uX2_change {u : vM} {a1 : Int32} {a2 : Int32} {a3 : Int32} {a4 : Int32} {a5 : Int32} {a6 : Int32} {q : Nat} (h1 : q ≠ 1) (h2 : q ≠ 2) (h3 : q ≠ 3) (h4 : q ≠ 4) (h5 : q ≠ 5) (h6 : q ≠ 6) (h7 : q ≠ 7) (h9 : q ≠ 9) (h10 : q ≠ 10) (h12 : q ≠ 12) (h13 : q ≠ 13) (h14 : q ≠ 14) (h15 : q ≠ 15) (h16 : q ≠ 16) (h17 : q ≠ 17) : uX2_change u a1 a2 a3 a4 a5 a6 q = u q := by
  unfold uX2_change
  (try dsimp only)
  (repeat' split) <;> (try simp only [mup_ne h1, mup_ne h2, mup_ne h3, mup_ne h4, mup_ne h5, mup_ne h6, mup_ne h7, mup_ne h9, mup_ne h10, mup_ne h12, mup_ne h13, mup_ne h14, mup_ne h15, mup_ne h16, mup_ne h17, mst_ne h1, mst_ne h2, mst_ne h3, mst_ne h4, mst_ne h5, mst_ne h6, mst_ne h7, mst_ne h9, mst_ne h10, mst_ne h12, mst_ne h13, mst_ne h14, mst_ne h15, mst_ne h16, mst_ne h17, fr_lpX2_change_34 h7, fr_uX2_compute h5 h6 h7 h12 h13 h14 h15 h16 h17, fr_uX2_goThrough h5 h6 h7 h9 h10 h12 h13 h14 h15 h16 h17])
def rX2_isCaller (a0 : Int32) (a1 : Int32) : Int32 := (if (rX2_in a0 0 4) = 0 then 0 else (if (rX2_isCell a1) = 0 then 0 else 1))
def rmX2_isCaller : Room := { frames := 2, cells := 0, slots := 0, locals := 42 }
theorem bX2_isCaller (a0 : Int32) (a1 : Int32) : rX2_isCaller a0 a1 = 0 ∨ rX2_isCaller a0 a1 = 1 := by
  unfold rX2_isCaller
  (try dsimp only)
  (repeat' split) <;> first | with_reducible exact Or.inl rfl | with_reducible exact Or.inr rfl | exact bX2_in _ _ _ | exact bX2_isCell _
def rX2_setNumber (u : vM) (a1 : Int32) (a2 : Int32) (a3 : Int32) : Int32 := (let u2 : vM := mst u 18 0; (if (rX2_isCaller a1 a2) = 0 then (rX2_fails u2 1) else (if (rX2_in a3 (-1000000) 1000000) = 0 then (rX2_fails u2 1) else (rX2_change u2 a1 a2 0 0 0 a3))))
def uX2_setNumber (u : vM) (a1 : Int32) (a2 : Int32) (a3 : Int32) : vM := (let u2 : vM := mst u 18 0; (if (rX2_isCaller a1 a2) = 0 then (uX2_fails u2 1) else (if (rX2_in a3 (-1000000) 1000000) = 0 then (uX2_fails u2 1) else (uX2_change u2 a1 a2 0 0 0 a3))))
def rmX2_setNumber : Room := { frames := 5, cells := 0, slots := 0, locals := 121 }
theorem fr_uX2_setNumber {u : vM} {a1 : Int32} {a2 : Int32} {a3 : Int32} {q : Nat} (h1 : q ≠ 1) (h2 : q ≠ 2) (h3 : q ≠ 3) (h4 : q ≠ 4) (h5 : q ≠ 5) (h6 : q ≠ 6) (h7 : q ≠ 7) (h9 : q ≠ 9) (h10 : q ≠ 10) (h12 : q ≠ 12) (h13 : q ≠ 13) (h14 : q ≠ 14) (h15 : q ≠ 15) (h16 : q ≠ 16) (h17 : q ≠ 17) (h18 : q ≠ 18) : uX2_setNumber u a1 a2 a3 q = u q := by
  unfold uX2_setNumber
  (try dsimp only)
  (repeat' split) <;> (try simp only [mup_ne h1, mup_ne h2, mup_ne h3, mup_ne h4, mup_ne h5, mup_ne h6, mup_ne h7, mup_ne h9, mup_ne h10, mup_ne h12, mup_ne h13, mup_ne h14, mup_ne h15, mup_ne h16, mup_ne h17, mup_ne h18, mst_ne h1, mst_ne h2, mst_ne h3, mst_ne h4, mst_ne h5, mst_ne h6, mst_ne h7, mst_ne h9, mst_ne h10, mst_ne h12, mst_ne h13, mst_ne h14, mst_ne h15, mst_ne h16, mst_ne h17, mst_ne h18, fr_uX2_change h1 h2 h3 h4 h5 h6 h7 h9 h10 h12 h13 h14 h15 h16 h17, fr_uX2_fails h18])
def rX2_setSum (u : vM) (a1 : Int32) (a2 : Int32) (a3 : Int32) (a4 : Int32) (a5 : Int32) : Int32 := (let u2 : vM := mst u 18 0; (if (rX2_isCaller a1 a2) = 0 then (rX2_fails u2 1) else (if (rX2_isCell a3) = 0 then (rX2_fails u2 1) else (if (rX2_isCell a4) = 0 then (rX2_fails u2 1) else (if (rX2_in a5 (-1000) 1000) = 0 then (rX2_fails u2 1) else (let u51 : vM := uX2_reaches u2 a3 a2; (if (rX2_reaches u2 a3 a2) = 0 then (let u61 : vM := uX2_reaches u51 a4 a2; (if (rX2_reaches u51 a4 a2) = 0 then (rX2_change u61 a1 a2 1 a3 a4 a5) else (rX2_fails u61 2))) else (rX2_fails u51 2))))))))
def uX2_setSum (u : vM) (a1 : Int32) (a2 : Int32) (a3 : Int32) (a4 : Int32) (a5 : Int32) : vM := (let u2 : vM := mst u 18 0; (if (rX2_isCaller a1 a2) = 0 then (uX2_fails u2 1) else (if (rX2_isCell a3) = 0 then (uX2_fails u2 1) else (if (rX2_isCell a4) = 0 then (uX2_fails u2 1) else (if (rX2_in a5 (-1000) 1000) = 0 then (uX2_fails u2 1) else (let u51 : vM := uX2_reaches u2 a3 a2; (if (rX2_reaches u2 a3 a2) = 0 then (let u61 : vM := uX2_reaches u51 a4 a2; (if (rX2_reaches u51 a4 a2) = 0 then (uX2_change u61 a1 a2 1 a3 a4 a5) else (uX2_fails u61 2))) else (uX2_fails u51 2))))))))
def rmX2_setSum : Room := { frames := 5, cells := 0, slots := 0, locals := 121 }
theorem fr_uX2_setSum {u : vM} {a1 : Int32} {a2 : Int32} {a3 : Int32} {a4 : Int32} {a5 : Int32} {q : Nat} (h1 : q ≠ 1) (h2 : q ≠ 2) (h3 : q ≠ 3) (h4 : q ≠ 4) (h5 : q ≠ 5) (h6 : q ≠ 6) (h7 : q ≠ 7) (h9 : q ≠ 9) (h10 : q ≠ 10) (h12 : q ≠ 12) (h13 : q ≠ 13) (h14 : q ≠ 14) (h15 : q ≠ 15) (h16 : q ≠ 16) (h17 : q ≠ 17) (h18 : q ≠ 18) : uX2_setSum u a1 a2 a3 a4 a5 q = u q := by
  unfold uX2_setSum
  (try dsimp only)
  (repeat' split) <;> (try simp only [mup_ne h1, mup_ne h2, mup_ne h3, mup_ne h4, mup_ne h5, mup_ne h6, mup_ne h7, mup_ne h9, mup_ne h10, mup_ne h12, mup_ne h13, mup_ne h14, mup_ne h15, mup_ne h16, mup_ne h17, mup_ne h18, mst_ne h1, mst_ne h2, mst_ne h3, mst_ne h4, mst_ne h5, mst_ne h6, mst_ne h7, mst_ne h9, mst_ne h10, mst_ne h12, mst_ne h13, mst_ne h14, mst_ne h15, mst_ne h16, mst_ne h17, mst_ne h18, fr_uX2_change h1 h2 h3 h4 h5 h6 h7 h9 h10 h12 h13 h14 h15 h16 h17, fr_uX2_fails h18, fr_uX2_reaches h10])
def rX2_setGreater (u : vM) (a1 : Int32) (a2 : Int32) (a3 : Int32) (a4 : Int32) : Int32 := (let u2 : vM := mst u 18 0; (if (rX2_isCaller a1 a2) = 0 then (rX2_fails u2 1) else (if (rX2_isCell a3) = 0 then (rX2_fails u2 1) else (if (rX2_isCell a4) = 0 then (rX2_fails u2 1) else (let u37 : vM := uX2_reaches u2 a3 a2; (if (rX2_reaches u2 a3 a2) = 0 then (let u47 : vM := uX2_reaches u37 a4 a2; (if (rX2_reaches u37 a4 a2) = 0 then (rX2_change u47 a1 a2 2 a3 a4 0) else (rX2_fails u47 2))) else (rX2_fails u37 2)))))))
def uX2_setGreater (u : vM) (a1 : Int32) (a2 : Int32) (a3 : Int32) (a4 : Int32) : vM := (let u2 : vM := mst u 18 0; (if (rX2_isCaller a1 a2) = 0 then (uX2_fails u2 1) else (if (rX2_isCell a3) = 0 then (uX2_fails u2 1) else (if (rX2_isCell a4) = 0 then (uX2_fails u2 1) else (let u37 : vM := uX2_reaches u2 a3 a2; (if (rX2_reaches u2 a3 a2) = 0 then (let u47 : vM := uX2_reaches u37 a4 a2; (if (rX2_reaches u37 a4 a2) = 0 then (uX2_change u47 a1 a2 2 a3 a4 0) else (uX2_fails u47 2))) else (uX2_fails u37 2)))))))
def rmX2_setGreater : Room := { frames := 5, cells := 0, slots := 0, locals := 121 }
theorem fr_uX2_setGreater {u : vM} {a1 : Int32} {a2 : Int32} {a3 : Int32} {a4 : Int32} {q : Nat} (h1 : q ≠ 1) (h2 : q ≠ 2) (h3 : q ≠ 3) (h4 : q ≠ 4) (h5 : q ≠ 5) (h6 : q ≠ 6) (h7 : q ≠ 7) (h9 : q ≠ 9) (h10 : q ≠ 10) (h12 : q ≠ 12) (h13 : q ≠ 13) (h14 : q ≠ 14) (h15 : q ≠ 15) (h16 : q ≠ 16) (h17 : q ≠ 17) (h18 : q ≠ 18) : uX2_setGreater u a1 a2 a3 a4 q = u q := by
  unfold uX2_setGreater
  (try dsimp only)
  (repeat' split) <;> (try simp only [mup_ne h1, mup_ne h2, mup_ne h3, mup_ne h4, mup_ne h5, mup_ne h6, mup_ne h7, mup_ne h9, mup_ne h10, mup_ne h12, mup_ne h13, mup_ne h14, mup_ne h15, mup_ne h16, mup_ne h17, mup_ne h18, mst_ne h1, mst_ne h2, mst_ne h3, mst_ne h4, mst_ne h5, mst_ne h6, mst_ne h7, mst_ne h9, mst_ne h10, mst_ne h12, mst_ne h13, mst_ne h14, mst_ne h15, mst_ne h16, mst_ne h17, mst_ne h18, fr_uX2_change h1 h2 h3 h4 h5 h6 h7 h9 h10 h12 h13 h14 h15 h16 h17, fr_uX2_fails h18, fr_uX2_reaches h10])
def rX2_setTimes (u : vM) (a1 : Int32) (a2 : Int32) (a3 : Int32) (a4 : Int32) : Int32 := (let u2 : vM := mst u 18 0; (if (rX2_isCaller a1 a2) = 0 then (rX2_fails u2 1) else (if (rX2_isCell a3) = 0 then (rX2_fails u2 1) else (if (rX2_in a4 (-100) 100) = 0 then (rX2_fails u2 1) else (let u41 : vM := uX2_reaches u2 a3 a2; (if (rX2_reaches u2 a3 a2) = 0 then (rX2_change u41 a1 a2 3 a3 a3 a4) else (rX2_fails u41 2)))))))
def uX2_setTimes (u : vM) (a1 : Int32) (a2 : Int32) (a3 : Int32) (a4 : Int32) : vM := (let u2 : vM := mst u 18 0; (if (rX2_isCaller a1 a2) = 0 then (uX2_fails u2 1) else (if (rX2_isCell a3) = 0 then (uX2_fails u2 1) else (if (rX2_in a4 (-100) 100) = 0 then (uX2_fails u2 1) else (let u41 : vM := uX2_reaches u2 a3 a2; (if (rX2_reaches u2 a3 a2) = 0 then (uX2_change u41 a1 a2 3 a3 a3 a4) else (uX2_fails u41 2)))))))
def rmX2_setTimes : Room := { frames := 5, cells := 0, slots := 0, locals := 121 }
theorem fr_uX2_setTimes {u : vM} {a1 : Int32} {a2 : Int32} {a3 : Int32} {a4 : Int32} {q : Nat} (h1 : q ≠ 1) (h2 : q ≠ 2) (h3 : q ≠ 3) (h4 : q ≠ 4) (h5 : q ≠ 5) (h6 : q ≠ 6) (h7 : q ≠ 7) (h9 : q ≠ 9) (h10 : q ≠ 10) (h12 : q ≠ 12) (h13 : q ≠ 13) (h14 : q ≠ 14) (h15 : q ≠ 15) (h16 : q ≠ 16) (h17 : q ≠ 17) (h18 : q ≠ 18) : uX2_setTimes u a1 a2 a3 a4 q = u q := by
  unfold uX2_setTimes
  (try dsimp only)
  (repeat' split) <;> (try simp only [mup_ne h1, mup_ne h2, mup_ne h3, mup_ne h4, mup_ne h5, mup_ne h6, mup_ne h7, mup_ne h9, mup_ne h10, mup_ne h12, mup_ne h13, mup_ne h14, mup_ne h15, mup_ne h16, mup_ne h17, mup_ne h18, mst_ne h1, mst_ne h2, mst_ne h3, mst_ne h4, mst_ne h5, mst_ne h6, mst_ne h7, mst_ne h9, mst_ne h10, mst_ne h12, mst_ne h13, mst_ne h14, mst_ne h15, mst_ne h16, mst_ne h17, mst_ne h18, fr_uX2_change h1 h2 h3 h4 h5 h6 h7 h9 h10 h12 h13 h14 h15 h16 h17, fr_uX2_fails h18, fr_uX2_reaches h10])
def lpX2_refresh_22 : Nat → Nat → vM → vM
  | 0, _, u => u
  | n + 1, k, u => (let u34 : vM := mup u 7 (nI k) 0; lpX2_refresh_22 n (k + 1) u34)
def rX2_refresh (u : vM) (a1 : Int32) : Int32 := (let u2 : vM := mst u 18 0; (if (rX2_in a1 0 4) = 0 then (rX2_fails u2 1) else (let r22 := lpX2_refresh_22 24 0 u2; (rX2_goThrough r22 a1 1))))
def uX2_refresh (u : vM) (a1 : Int32) : vM := (let u2 : vM := mst u 18 0; (if (rX2_in a1 0 4) = 0 then (uX2_fails u2 1) else (let r22 := lpX2_refresh_22 24 0 u2; (uX2_goThrough r22 a1 1))))
def rmX2_refresh : Room := { frames := 4, cells := 0, slots := 0, locals := 94 }
theorem fr_lpX2_refresh_22_all {q : Nat} (h7 : q ≠ 7) : ∀ (n k : Nat) (u : vM), (lpX2_refresh_22 n k u) q = u q := by
  intro n
  induction n with
  | zero => intro k u; rfl
  | succ n ih =>
    intro k u
    unfold lpX2_refresh_22
    (try dsimp only)
    (repeat' split) <;> (simp only [ih, mup_ne h7, mst_ne h7])
theorem fr_lpX2_refresh_22{n k : Nat} {u : vM} {q : Nat} (h7 : q ≠ 7) : (lpX2_refresh_22 n k u) q = u q := fr_lpX2_refresh_22_all h7 n k u
theorem fr_uX2_refresh {u : vM} {a1 : Int32} {q : Nat} (h5 : q ≠ 5) (h6 : q ≠ 6) (h7 : q ≠ 7) (h9 : q ≠ 9) (h10 : q ≠ 10) (h12 : q ≠ 12) (h13 : q ≠ 13) (h14 : q ≠ 14) (h15 : q ≠ 15) (h16 : q ≠ 16) (h17 : q ≠ 17) (h18 : q ≠ 18) : uX2_refresh u a1 q = u q := by
  unfold uX2_refresh
  (try dsimp only)
  (repeat' split) <;> (try simp only [mup_ne h5, mup_ne h6, mup_ne h7, mup_ne h9, mup_ne h10, mup_ne h12, mup_ne h13, mup_ne h14, mup_ne h15, mup_ne h16, mup_ne h17, mup_ne h18, mst_ne h5, mst_ne h6, mst_ne h7, mst_ne h9, mst_ne h10, mst_ne h12, mst_ne h13, mst_ne h14, mst_ne h15, mst_ne h16, mst_ne h17, mst_ne h18, fr_lpX2_refresh_22 h7, fr_uX2_fails h18, fr_uX2_goThrough h5 h6 h7 h9 h10 h12 h13 h14 h15 h16 h17])
def rX2_setPrice (u : vM) (a1 : Int32) (a2 : Int32) : Int32 := (let u2 : vM := mst u 18 0; (if (rX2_isSheet a1) = 0 then (rX2_fails u2 1) else (if (rX2_in a2 0 100) = 0 then (rX2_fails u2 1) else (mrd u2 11 a1))))
def uX2_setPrice (u : vM) (a1 : Int32) (a2 : Int32) : vM := (let u2 : vM := mst u 18 0; (if (rX2_isSheet a1) = 0 then (uX2_fails u2 1) else (if (rX2_in a2 0 100) = 0 then (uX2_fails u2 1) else (mup u2 11 a1 a2))))
def rmX2_setPrice : Room := { frames := 2, cells := 0, slots := 0, locals := 42 }
theorem fr_uX2_setPrice {u : vM} {a1 : Int32} {a2 : Int32} {q : Nat} (h11 : q ≠ 11) (h18 : q ≠ 18) : uX2_setPrice u a1 a2 q = u q := by
  unfold uX2_setPrice
  (try dsimp only)
  (repeat' split) <;> (try simp only [mup_ne h11, mup_ne h18, mst_ne h11, mst_ne h18, fr_uX2_fails h18])
def rX2_grant (u : vM) (a1 : Int32) (a2 : Int32) : Int32 := (let u2 : vM := mst u 18 0; (if (rX2_isSheet a1) = 0 then (rX2_fails u2 1) else (if (rX2_in a2 1 10000) = 0 then (rX2_fails u2 1) else (let u38 : vM := mup u2 12 a1 ((mrd u2 12 a1) + a2); (mrd u38 12 a1)))))
def uX2_grant (u : vM) (a1 : Int32) (a2 : Int32) : vM := (let u2 : vM := mst u 18 0; (if (rX2_isSheet a1) = 0 then (uX2_fails u2 1) else (if (rX2_in a2 1 10000) = 0 then (uX2_fails u2 1) else (mup u2 12 a1 ((mrd u2 12 a1) + a2)))))
def rmX2_grant : Room := { frames := 2, cells := 0, slots := 0, locals := 42 }
theorem fr_uX2_grant {u : vM} {a1 : Int32} {a2 : Int32} {q : Nat} (h12 : q ≠ 12) (h18 : q ≠ 18) : uX2_grant u a1 a2 q = u q := by
  unfold uX2_grant
  (try dsimp only)
  (repeat' split) <;> (try simp only [mup_ne h12, mup_ne h18, mst_ne h12, mst_ne h18, fr_uX2_fails h18])
def rX2_budget (u : vM) (a1 : Int32) : Int32 := (let u2 : vM := mst u 18 0; (if (rX2_isSheet a1) = 0 then (rX2_fails u2 1) else (mrd u2 12 a1)))
def uX2_budget (u : vM) (a1 : Int32) : vM := (let u2 : vM := mst u 18 0; (if (rX2_isSheet a1) = 0 then (uX2_fails u2 1) else u2))
def rmX2_budget : Room := { frames := 2, cells := 0, slots := 0, locals := 42 }
theorem fr_uX2_budget {u : vM} {a1 : Int32} {q : Nat} (h18 : q ≠ 18) : uX2_budget u a1 q = u q := by
  unfold uX2_budget
  (try dsimp only)
  (repeat' split) <;> (try simp only [mup_ne h18, mst_ne h18, fr_uX2_fails h18])
def rX2_earned (u : vM) (a1 : Int32) : Int32 := (let u2 : vM := mst u 18 0; (if (rX2_isSheet a1) = 0 then (rX2_fails u2 1) else (mrd u2 13 a1)))
def uX2_earned (u : vM) (a1 : Int32) : vM := (let u2 : vM := mst u 18 0; (if (rX2_isSheet a1) = 0 then (uX2_fails u2 1) else u2))
def rmX2_earned : Room := { frames := 2, cells := 0, slots := 0, locals := 42 }
theorem fr_uX2_earned {u : vM} {a1 : Int32} {q : Nat} (h18 : q ≠ 18) : uX2_earned u a1 q = u q := by
  unfold uX2_earned
  (try dsimp only)
  (repeat' split) <;> (try simp only [mup_ne h18, mst_ne h18, fr_uX2_fails h18])
def rX2_caused (u : vM) (a1 : Int32) : Int32 := (let u2 : vM := mst u 18 0; (if (rX2_in a1 0 4) = 0 then (rX2_fails u2 1) else (mrd u2 14 a1)))
def uX2_caused (u : vM) (a1 : Int32) : vM := (let u2 : vM := mst u 18 0; (if (rX2_in a1 0 4) = 0 then (uX2_fails u2 1) else u2))
def rmX2_caused : Room := { frames := 1, cells := 0, slots := 0, locals := 22 }
theorem fr_uX2_caused {u : vM} {a1 : Int32} {q : Nat} (h18 : q ≠ 18) : uX2_caused u a1 q = u q := by
  unfold uX2_caused
  (try dsimp only)
  (repeat' split) <;> (try simp only [mup_ne h18, mst_ne h18, fr_uX2_fails h18])
def rX2_value (u : vM) (a1 : Int32) : Int32 := (let u2 : vM := mst u 18 0; (if (rX2_isCell a1) = 0 then (rX2_fails u2 1) else (mrd u2 5 a1)))
def uX2_value (u : vM) (a1 : Int32) : vM := (let u2 : vM := mst u 18 0; (if (rX2_isCell a1) = 0 then (uX2_fails u2 1) else u2))
def rmX2_value : Room := { frames := 2, cells := 0, slots := 0, locals := 42 }
theorem fr_uX2_value {u : vM} {a1 : Int32} {q : Nat} (h18 : q ≠ 18) : uX2_value u a1 q = u q := by
  unfold uX2_value
  (try dsimp only)
  (repeat' split) <;> (try simp only [mup_ne h18, mst_ne h18, fr_uX2_fails h18])
def rX2_isMarked (u : vM) (a1 : Int32) : Int32 := (let u2 : vM := mst u 18 0; (if (rX2_isCell a1) = 0 then 0 else (if (mrd u2 6 a1) = 1 then 1 else 0)))
def uX2_isMarked (u : vM) (a1 : Int32) : vM := (let u2 : vM := mst u 18 0; (if (rX2_isCell a1) = 0 then (uX2_fails u2 1) else u2))
def rmX2_isMarked : Room := { frames := 2, cells := 0, slots := 0, locals := 42 }
theorem bX2_isMarked (u : vM) (a1 : Int32) : rX2_isMarked u a1 = 0 ∨ rX2_isMarked u a1 = 1 := by
  unfold rX2_isMarked
  (try dsimp only)
  (repeat' split) <;> first | with_reducible exact Or.inl rfl | with_reducible exact Or.inr rfl | exact bX2_isCell _
theorem fr_uX2_isMarked {u : vM} {a1 : Int32} {q : Nat} (h18 : q ≠ 18) : uX2_isMarked u a1 q = u q := by
  unfold uX2_isMarked
  (try dsimp only)
  (repeat' split) <;> (try simp only [mup_ne h18, mst_ne h18, fr_uX2_fails h18])
def lpX2_valueAnew_24 : Nat → Nat → vM → vM
  | 0, _, u => u
  | n + 1, k, u => (let u54 : vM := mup u 8 (mrd u 9 (nI k)) (rX2_comesTo_v8 u (mrd u 9 (nI k))); lpX2_valueAnew_24 n (k + 1) u54)
def rX2_valueAnew (u : vM) (a1 : Int32) : Int32 := (let u2 : vM := mst u 18 0; (if (rX2_isCell a1) = 0 then (rX2_fails u2 1) else (let u19 : vM := uX2_layOrder u2; (let r24 := lpX2_valueAnew_24 24 0 u19; (mrd r24 8 a1)))))
def uX2_valueAnew (u : vM) (a1 : Int32) : vM := (let u2 : vM := mst u 18 0; (if (rX2_isCell a1) = 0 then (uX2_fails u2 1) else (let u19 : vM := uX2_layOrder u2; (lpX2_valueAnew_24 24 0 u19))))
def rmX2_valueAnew : Room := { frames := 2, cells := 0, slots := 0, locals := 47 }
theorem fr_lpX2_valueAnew_24_all {q : Nat} (h8 : q ≠ 8) : ∀ (n k : Nat) (u : vM), (lpX2_valueAnew_24 n k u) q = u q := by
  intro n
  induction n with
  | zero => intro k u; rfl
  | succ n ih =>
    intro k u
    unfold lpX2_valueAnew_24
    (try dsimp only)
    (repeat' split) <;> (simp only [ih, mup_ne h8, mst_ne h8])
theorem fr_lpX2_valueAnew_24{n k : Nat} {u : vM} {q : Nat} (h8 : q ≠ 8) : (lpX2_valueAnew_24 n k u) q = u q := fr_lpX2_valueAnew_24_all h8 n k u
theorem fr_uX2_valueAnew {u : vM} {a1 : Int32} {q : Nat} (h8 : q ≠ 8) (h9 : q ≠ 9) (h10 : q ≠ 10) (h18 : q ≠ 18) : uX2_valueAnew u a1 q = u q := by
  unfold uX2_valueAnew
  (try dsimp only)
  (repeat' split) <;> (try simp only [mup_ne h8, mup_ne h9, mup_ne h10, mup_ne h18, mst_ne h8, mst_ne h9, mst_ne h10, mst_ne h18, fr_lpX2_valueAnew_24 h8, fr_uX2_fails h18, fr_uX2_layOrder h9 h10])
def rX2_readings (u : vM) : Int32 := (let u2 : vM := mst u 18 0; (mfd u2 17))
def uX2_readings (u : vM) : vM := (mst u 18 0)
def rmX2_readings : Room := { frames := 0, cells := 0, slots := 0, locals := 0 }
theorem fr_uX2_readings {u : vM} {q : Nat} (h18 : q ≠ 18) : uX2_readings u q = u q := by
  unfold uX2_readings
  (try dsimp only)
  (repeat' split) <;> (try simp only [mup_ne h18, mst_ne h18])
def rX2_reading (u : vM) (a1 : Int32) : Int32 := (let u2 : vM := mst u 18 0; (if (rX2_in a1 0 ((mfd u2 17) - 1)) = 0 then (rX2_fails u2 1) else (mrd u2 15 a1)))
def uX2_reading (u : vM) (a1 : Int32) : vM := (let u2 : vM := mst u 18 0; (if (rX2_in a1 0 ((mfd u2 17) - 1)) = 0 then (uX2_fails u2 1) else u2))
def rmX2_reading : Room := { frames := 1, cells := 0, slots := 0, locals := 22 }
theorem fr_uX2_reading {u : vM} {a1 : Int32} {q : Nat} (h18 : q ≠ 18) : uX2_reading u a1 q = u q := by
  unfold uX2_reading
  (try dsimp only)
  (repeat' split) <;> (try simp only [mup_ne h18, mst_ne h18, fr_uX2_fails h18])
def rX2_timesRead (u : vM) (a1 : Int32) (a2 : Int32) : Int32 := (let u2 : vM := mst u 18 0; (if (rX2_isCell a1) = 0 then (rX2_fails u2 1) else (if (rX2_isCell a2) = 0 then (rX2_fails u2 1) else (mrd u2 16 ((24 * a1) + a2)))))
def uX2_timesRead (u : vM) (a1 : Int32) (a2 : Int32) : vM := (let u2 : vM := mst u 18 0; (if (rX2_isCell a1) = 0 then (uX2_fails u2 1) else (if (rX2_isCell a2) = 0 then (uX2_fails u2 1) else u2)))
def rmX2_timesRead : Room := { frames := 2, cells := 0, slots := 0, locals := 42 }
theorem fr_uX2_timesRead {u : vM} {a1 : Int32} {a2 : Int32} {q : Nat} (h18 : q ≠ 18) : uX2_timesRead u a1 a2 q = u q := by
  unfold uX2_timesRead
  (try dsimp only)
  (repeat' split) <;> (try simp only [mup_ne h18, mst_ne h18, fr_uX2_fails h18])
def lpX2_readOf_22 (a1 : Int32) (u : vM) : Nat → Nat → Int32 → Int32
  | 0, _, x2 => x2
  | n + 1, k, x2 => (let j51 : Int32 := (if (((nI k) - (nI k) / 24 * 24) / 6) = a1 then (mrd u 16 (nI k)) else 0); (let y52 : Int32 := (x2 + j51); lpX2_readOf_22 a1 u n (k + 1) y52))
def rX2_readOf (u : vM) (a1 : Int32) : Int32 := (let u2 : vM := mst u 18 0; (if (rX2_isSheet a1) = 0 then (rX2_fails u2 1) else (lpX2_readOf_22 a1 u2 576 0 0)))
def uX2_readOf (u : vM) (a1 : Int32) : vM := (let u2 : vM := mst u 18 0; (if (rX2_isSheet a1) = 0 then (uX2_fails u2 1) else u2))
def rmX2_readOf : Room := { frames := 2, cells := 0, slots := 0, locals := 42 }
theorem fr_uX2_readOf {u : vM} {a1 : Int32} {q : Nat} (h18 : q ≠ 18) : uX2_readOf u a1 q = u q := by
  unfold uX2_readOf
  (try dsimp only)
  (repeat' split) <;> (try simp only [mup_ne h18, mst_ne h18, fr_uX2_fails h18])
