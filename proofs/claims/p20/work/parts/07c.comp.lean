/-! COMPUTING a cell, and going through all of them: a cell that isn't marked stays what its formula comes to -/
/-- a cell that the formula of c may name: none, or one below -/
def rdw (x : Int32) (c : Nat) : Prop := x = -1 ∨ ∃ j, j < c ∧ x = nI j
/-- formulas read cells below alone -/
def FS (u : vM) : Prop := ∀ c, c < 24 → rdw (u 2 c) c ∧ rdw (u 3 c) c
theorem FS_fr {u u' : vM} (e2 : u' 2 = u 2) (e3 : u' 3 = u 3) (h : FS u) : FS u' := fun c hc => by rw [e2, e3]; exact h c hc
/-- the order is that of the numbers -/
def OD (u : vM) : Prop := ∀ c, c < 24 → u 7 c = nI c
theorem OD_fr {u u' : vM} (e : u' 7 = u 7) (h : OD u) : OD u' := fun c hc => by rw [e]; exact h c hc
def DD (u : vM) (c j : Nat) : Prop := u 2 c = nI j ∨ u 3 c = nI j
def CS (u : vM) (c : Nat) : Prop := u 5 c = rX1_resultOf_v5 u (nI c)
def GG (u : vM) (K c : Nat) : Prop := CS u c ∨ (K ≤ c ∧ ∃ j, j < 24 ∧ DD u c j ∧ u 9 j = 1)
theorem res_fr {u u' : vM} {a : Int32} (h1 : u' 1 = u 1) (h2 : u' 2 = u 2) (h3 : u' 3 = u 3) (h4 : u' 4 = u 4) (h5 : u' 5 = u 5) : rX1_resultOf_v5 u' a = rX1_resultOf_v5 u a := by
  unfold rX1_resultOf_v5 rX1_valueIn_v5 mrd
  rw [h1, h2, h3, h4, h5]
theorem nI_inj {a b : Nat} (ha : a < 24) (hb : b < 24) (h : nI a = nI b) : a = b := (nI_eq (by omega) (by omega)).mp h
theorem m1_ne {j : Nat} (hj : j < 24) : (-1 : Int32) ≠ nI j := by
  intro e
  have h := nI_toInt (n := j) (by omega)
  rw [← e] at h
  have h2 : (-1 : Int32).toInt = -1 := by decide
  omega
theorem vi5_m1 {u : vM} : rX1_valueIn_v5 u (-1) = 0 := by unfold rX1_valueIn_v5; rw [if_pos (by decide)]
theorem vi5_nI {u : vM} {j : Nat} (h : j < 24) : rX1_valueIn_v5 u (nI j) = u 5 j := by
  unfold rX1_valueIn_v5
  rw [if_neg (nI_pos (by omega)), if_neg (in_nle (vp_in_nI h (by decide))), mrd_nI (by omega)]
theorem vi5_congr {u u' : vM} {x : Int32} {c : Nat} (hc : c < 24) (hx : rdw x c) (h : ∀ j, j < c → x = nI j → u' 5 j = u 5 j) : rX1_valueIn_v5 u' x = rX1_valueIn_v5 u x := by
  rcases hx with rfl | ⟨j, hj, rfl⟩
  · rw [vi5_m1, vi5_m1]
  · rw [vi5_nI (by omega), vi5_nI (by omega), h j hj rfl]
theorem res_congr {u u' : vM} {c : Nat} (hF : FS u) (hc : c < 24) (h1 : u' 1 = u 1) (h2 : u' 2 = u 2) (h3 : u' 3 = u 3) (h4 : u' 4 = u 4) (h : ∀ j, j < c → DD u c j → u' 5 j = u 5 j) : rX1_resultOf_v5 u' (nI c) = rX1_resultOf_v5 u (nI c) := by
  have a2 : mrd u' 2 (nI c) = u 2 c := by rw [mrd_nI (by omega), h2]
  have a3 : mrd u' 3 (nI c) = u 3 c := by rw [mrd_nI (by omega), h3]
  have b2 : mrd u 2 (nI c) = u 2 c := mrd_nI (by omega)
  have b3 : mrd u 3 (nI c) = u 3 c := mrd_nI (by omega)
  have e1 : mrd u' 1 (nI c) = mrd u 1 (nI c) := by unfold mrd; rw [h1]
  have e4 : mrd u' 4 (nI c) = mrd u 4 (nI c) := by unfold mrd; rw [h4]
  unfold rX1_resultOf_v5
  rw [a2, a3, b2, b3, e1, e4, vi5_congr (u := u) (u' := u') hc (hF c hc).1 (fun j hj e => h j hj (Or.inl e)), vi5_congr (u := u) (u' := u') hc (hF c hc).2 (fun j hj e => h j hj (Or.inr e))]
theorem met_ot {c : Nat} {x : Int32} (hc : c < 24) (hx : rdw x c) : ot c (rX1_meteredRead (nI c) x) := by
  rcases hx with rfl | ⟨j, hj, rfl⟩
  · unfold rX1_meteredRead
    rw [cell1_m1, if_pos rfl]
    exact Or.inl rfl
  · unfold rX1_meteredRead rX1_sheetOf
    rw [cell1_nI (by omega), if_neg c10, d6_nI (by omega), d6_nI (by omega)]
    split
    · exact Or.inl rfl
    · rename_i h
      exact Or.inr ⟨j, by omega, fun e => h (by rw [e]), rfl⟩
/-- what computing leaves: the cell marked and nothing else but the ledger; or its value, unmarked -/
theorem comp_rows {us m1 B S c : Nat} {u : vM} (hB : B < 2 ^ 30) (hus : us < 5) (hc : c < 24) (hF : FS u) (h : LG us m1 B S 0 u) :
    (∃ S', S ≤ S' ∧ S' ≤ S + 2 ∧ LG us m1 B S' 0 (uX1_compute u (nI us) (nI c))) ∧
    ((uX1_compute u (nI us) (nI c) 5 = u 5 ∧ uX1_compute u (nI us) (nI c) 6 = upd (u 6) c 1 ∧ uX1_compute u (nI us) (nI c) 9 = u 9) ∨
     (uX1_compute u (nI us) (nI c) 5 = upd (u 5) c (rX1_resultOf_v5 u (nI c)) ∧ uX1_compute u (nI us) (nI c) 6 = upd (u 6) c 0 ∧ uX1_compute u (nI us) (nI c) 9 = upd (u 9) c (if rX1_resultOf_v5 u (nI c) = u 5 c then 0 else 1))) := by
  have hx : ot c (rX1_meteredRead (nI c) (mrd u 2 (nI c))) := by rw [mrd_nI (by omega)]; exact met_ot hc (hF c hc).1
  have hy : ot c (if mrd u 3 (nI c) = mrd u 2 (nI c) then (-1) else rX1_meteredRead (nI c) (mrd u 3 (nI c))) := by
    split
    · exact Or.inl rfl
    · rw [mrd_nI (by omega)]; exact met_ot hc (hF c hc).2
  unfold uX1_compute
  dsimp only
  generalize rX1_meteredRead (nI c) (mrd u 2 (nI c)) = x at hx ⊢
  generalize (if mrd u 3 (nI c) = mrd u 2 (nI c) then (-1) else rX1_meteredRead (nI c) (mrd u 3 (nI c))) = y at hy ⊢
  obtain ⟨S', g1, g2, g3⟩ := LG_pay hB hus hc hx hy h
  have en : ∀ q : Nat, q ≠ 8 → q ≠ 14 → q ≠ 15 → q ≠ 16 → q ≠ 17 → q ≠ 18 → q ≠ 19 → uX0_paysFor u (nI us) (nI c) x y q = u q := fun q a b c d e f g => fr_uX0_paysFor a b c d e f g
  generalize uX0_paysFor u (nI us) (nI c) x y = w at g3 en ⊢
  have w1 : w 1 = u 1 := en 1 (by decide) (by decide) (by decide) (by decide) (by decide) (by decide) (by decide)
  have w2 : w 2 = u 2 := en 2 (by decide) (by decide) (by decide) (by decide) (by decide) (by decide) (by decide)
  have w3 : w 3 = u 3 := en 3 (by decide) (by decide) (by decide) (by decide) (by decide) (by decide) (by decide)
  have w4 : w 4 = u 4 := en 4 (by decide) (by decide) (by decide) (by decide) (by decide) (by decide) (by decide)
  have w5 : w 5 = u 5 := en 5 (by decide) (by decide) (by decide) (by decide) (by decide) (by decide) (by decide)
  have w6 : w 6 = u 6 := en 6 (by decide) (by decide) (by decide) (by decide) (by decide) (by decide) (by decide)
  have w9 : w 9 = u 9 := en 9 (by decide) (by decide) (by decide) (by decide) (by decide) (by decide) (by decide)
  have hcl : (nI c).toNatClampNeg = c := nI_clamp (by omega)
  by_cases hp : rX0_paysFor u (nI us) (nI c) x y = 0
  · rw [if_pos hp]
    have hm : mrd (mup w 6 (nI c) 1) 6 (nI c) = 1 := by rw [mrd_nI (by omega), mup_nI (by omega), upd_eq]
    rw [if_neg (by rw [hm]; decide)]
    refine ⟨⟨S', g1, g2, LG_fr g3 ?_ ?_ ?_ ?_ ?_ ?_ ?_ ?_ ?_⟩, Or.inl ⟨?_, ?_, ?_⟩⟩
    all_goals first | (simp [mup_ne, mup_row, hcl, w5, w6, w9]; done) | rw [mup_ne (by decide)]
  · rw [if_neg hp]
    have hm : mrd (mup w 6 (nI c) 0) 6 (nI c) = 0 := by rw [mrd_nI (by omega), mup_nI (by omega), upd_eq]
    rw [if_pos hm]
    have hr : rX1_resultOf_v5 (mup w 6 (nI c) 0) (nI c) = rX1_resultOf_v5 u (nI c) := res_fr (by rw [mup_ne (by decide), w1]) (by rw [mup_ne (by decide), w2]) (by rw [mup_ne (by decide), w3]) (by rw [mup_ne (by decide), w4]) (by rw [mup_ne (by decide), w5])
    have h5 : mrd (mup w 6 (nI c) 0) 5 (nI c) = u 5 c := by rw [mrd_nI (by omega), mup_ne (by decide), w5]
    rw [hr, h5]
    refine ⟨⟨S', g1, g2, LG_fr g3 ?_ ?_ ?_ ?_ ?_ ?_ ?_ ?_ ?_⟩, Or.inr ⟨?_, ?_, ?_⟩⟩
    all_goals first | (simp [mup_ne, mup_row, hcl, w5, w6, w9]; done) | rw [mup_ne (by decide), mup_ne (by decide), mup_ne (by decide)]
