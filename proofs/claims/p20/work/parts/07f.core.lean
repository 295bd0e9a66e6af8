/-! WHAT HOLDS BETWEEN CALLS, and that each call keeps it -/
def inr (x : Int32) : Prop := ¬ (1000000 : Int32) < x ∧ (-1000000 : Int32) ≤ x
def KN (u : vM) : Prop := ∀ c, c < 24 → u 1 c = 1 ∨ u 1 c = 2 ∨ u 1 c = 3 ∨ inr (u 4 c)
/-- formulas, order, marks, values -/
def SH (u : vM) : Prop := FS u ∧ KN u ∧ OD u ∧ bo u 6 ∧ bo u 9 ∧ ∀ i, i < 24 → u 6 i = 0 → CS u i
def CO (us m1 t : Nat) (u : vM) : Prop := SH u ∧ ∃ S, S ≤ 50 * t ∧ m1 ≤ min S 500 ∧ LG us m1 (100 + 90 * t) S 0 u
theorem SH_fr {u u' : vM} (e : ∀ q, q ≤ 9 → u' q = u q) (h : SH u) : SH u' := by
  obtain ⟨h1, h2, h3, h4, h5, h6⟩ := h
  refine ⟨FS_fr (e 2 (by decide)) (e 3 (by decide)) h1, fun c hc => by rw [e 1 (by decide), e 4 (by decide)]; exact h2 c hc, OD_fr (e 7 (by decide)) h3, bo_fr (e 6 (by decide)) h4, bo_fr (e 9 (by decide)) h5, fun i hi q => ?_⟩
  rw [e 6 (by decide)] at q
  unfold CS
  rw [res_fr (e 1 (by decide)) (e 2 (by decide)) (e 3 (by decide)) (e 4 (by decide)) (e 5 (by decide)), e 5 (by decide)]
  exact h6 i hi q
theorem res_at {u u' : vM} {i : Nat} (hi : i < 24) (h1 : u' 1 i = u 1 i) (h2 : u' 2 i = u 2 i) (h3 : u' 3 i = u 3 i) (h4 : u' 4 i = u 4 i) (h5 : u' 5 = u 5) : rX1_resultOf_v5 u' (nI i) = rX1_resultOf_v5 u (nI i) := by
  have hv : ∀ x, rX1_valueIn_v5 u' x = rX1_valueIn_v5 u x := fun x => by unfold rX1_valueIn_v5 mrd; rw [h5]
  unfold rX1_resultOf_v5
  dsimp only
  rw [mrd_nI (show i < 2 ^ 31 by omega), mrd_nI (show i < 2 ^ 31 by omega), mrd_nI (show i < 2 ^ 31 by omega), mrd_nI (show i < 2 ^ 31 by omega), mrd_nI (show i < 2 ^ 31 by omega), mrd_nI (show i < 2 ^ 31 by omega), mrd_nI (show i < 2 ^ 31 by omega), mrd_nI (show i < 2 ^ 31 by omega), h1, h2, h3, h4, hv, hv]
/-- a new formula -/
theorem give_CO {us m1 t c : Nat} {u : vM} {kd x y nm : Int32} (ht : t ≤ 40) (hus : us < 5) (hc : c < 24) (hx : rdw x c) (hy : rdw y c) (hkn : kd = 1 ∨ kd = 2 ∨ kd = 3 ∨ inr nm) (h : CO us m1 t u) :
    CO us m1 (t + 1) (uX1_giveFormula u (nI us) (nI c) kd x y nm) ∧ ∃ m, m ≤ 23 ∧ rX1_giveFormula u (nI us) (nI c) kd x y nm = nI (m + 1) := by
  obtain ⟨⟨hF, hK, hO, h6, h9, hC⟩, S, hS, hm1, hL⟩ := h
  have hcl : (nI c).toNatClampNeg = c := nI_clamp (by omega)
  unfold uX1_giveFormula rX1_giveFormula
  dsimp only
  -- the formula's rows
  have a1 : mup (mup (mup (mup u 1 (nI c) kd) 2 (nI c) x) 3 (nI c) y) 4 (nI c) nm 1 = upd (u 1) c kd := by simp [mup_ne, mup_row, hcl]
  have a2 : mup (mup (mup (mup u 1 (nI c) kd) 2 (nI c) x) 3 (nI c) y) 4 (nI c) nm 2 = upd (u 2) c x := by simp [mup_ne, mup_row, hcl]
  have a3 : mup (mup (mup (mup u 1 (nI c) kd) 2 (nI c) x) 3 (nI c) y) 4 (nI c) nm 3 = upd (u 3) c y := by simp [mup_ne, mup_row, hcl]
  have a4 : mup (mup (mup (mup u 1 (nI c) kd) 2 (nI c) x) 3 (nI c) y) 4 (nI c) nm 4 = upd (u 4) c nm := by simp [mup_ne, mup_row, hcl]
  have an : ∀ q : Nat, q ≠ 1 → q ≠ 2 → q ≠ 3 → q ≠ 4 → mup (mup (mup (mup u 1 (nI c) kd) 2 (nI c) x) 3 (nI c) y) 4 (nI c) nm q = u q := fun q p1 p2 p3 p4 => by rw [mup_ne p4, mup_ne p3, mup_ne p2, mup_ne p1]
  generalize mup (mup (mup (mup u 1 (nI c) kd) 2 (nI c) x) 3 (nI c) y) 4 (nI c) nm = w at a1 a2 a3 a4 an ⊢
  have wF : FS w := by
    intro i hi
    rw [a2, a3, upd_at, upd_at]
    by_cases z : i = c
    · rw [if_pos z, if_pos z, z]; exact ⟨hx, hy⟩
    · rw [if_neg z, if_neg z]; exact hF i hi
  -- order, changes
  have bO := order_id wF
  have bn : ∀ q : Nat, q ≠ 7 → q ≠ 10 → uX1_putInOrder w q = w q := fun q p1 p2 => fr_uX1_putInOrder p1 p2
  generalize uX1_putInOrder w = w1 at bO bn ⊢
  have cn : ∀ q : Nat, q ≠ 9 → uX1_forgetChanges w1 q = w1 q := fun q p1 => fr_uX1_forgetChanges p1
  have c0 : ∀ j, j < 24 → uX1_forgetChanges w1 9 j = 0 := fun j hj => forget_0 hj
  have cb : bo (uX1_forgetChanges w1) 9 := forget_bo (bo_fr (show w1 9 = u 9 by rw [bn 9 (by decide) (by decide), an 9 (by decide) (by decide) (by decide) (by decide)]) h9)
  generalize uX1_forgetChanges w1 = v at cn c0 cb ⊢
  have v1 : v 1 = upd (u 1) c kd := by rw [cn 1 (by decide), bn 1 (by decide) (by decide), a1]
  have v2 : v 2 = upd (u 2) c x := by rw [cn 2 (by decide), bn 2 (by decide) (by decide), a2]
  have v3 : v 3 = upd (u 3) c y := by rw [cn 3 (by decide), bn 3 (by decide) (by decide), a3]
  have v4 : v 4 = upd (u 4) c nm := by rw [cn 4 (by decide), bn 4 (by decide) (by decide), a4]
  have vn : ∀ q : Nat, q ≠ 1 → q ≠ 2 → q ≠ 3 → q ≠ 4 → q ≠ 7 → q ≠ 9 → q ≠ 10 → v q = u q := fun q p1 p2 p3 p4 p7 p9 p10 => by rw [cn q p9, bn q p7 p10, an q p1 p2 p3 p4]
  have v5 : v 5 = u 5 := by apply vn <;> decide
  have v6 : v 6 = u 6 := by apply vn <;> decide
  have vO : OD v := OD_fr (cn 7 (by decide)) bO
  have vF : FS v := FS_fr (by rw [cn 2 (by decide), bn 2 (by decide) (by decide)]) (by rw [cn 3 (by decide), bn 3 (by decide) (by decide)]) wF
  have vK : KN v := by
    intro i hi
    rw [v1, v4, upd_at, upd_at]
    by_cases z : i = c
    · rw [if_pos z, if_pos z]; exact hkn
    · rw [if_neg z, if_neg z]; exact hK i hi
  have vL : LG us m1 (100 + 90 * t) S 0 v := by
    refine LG_fr hL ?_ ?_ ?_ ?_ ?_ ?_ ?_ ?_ (by rw [show v 20 = u 20 by apply vn <;> decide])
    all_goals (apply vn <;> decide)
  have vG : ∀ i, i < 24 → i ≠ c → v 6 i = 0 → GG v 0 i := by
    intro i hi z q
    rw [v6] at q
    left
    unfold CS
    rw [res_at hi (by rw [v1, upd_ne z]) (by rw [v2, upd_ne z]) (by rw [v3, upd_ne z]) (by rw [v4, upd_ne z]) v5, v5]
    exact hC i hi q
  -- the cell is computed
  obtain ⟨⟨S1, s1, s2, gL⟩, gr⟩ := comp_rows (by omega) hus hc vF vL
  have gn : ∀ q : Nat, q ≠ 5 → q ≠ 6 → q ≠ 8 → q ≠ 9 → q ≠ 14 → q ≠ 15 → q ≠ 16 → q ≠ 17 → q ≠ 18 → q ≠ 19 → uX1_compute v (nI us) (nI c) q = v q := fun q a b c d e f g h i j => fr_uX1_compute a b c d e f g h i j
  generalize uX1_compute v (nI us) (nI c) = g at gL gr gn ⊢
  have g1 : g 1 = v 1 := by apply gn <;> decide
  have g2 : g 2 = v 2 := by apply gn <;> decide
  have g3 : g 3 = v 3 := by apply gn <;> decide
  have g4 : g 4 = v 4 := by apply gn <;> decide
  have g7 : g 7 = v 7 := by apply gn <;> decide
  have gb := bo_comp (bo_fr v6 h6) cb gr
  have gG := comp_GG (K := 0) hc vF (Nat.zero_le _) (c0 c hc) vG g1 g2 g3 g4 gr
  have gz : ∀ j, j < 24 → j ≠ c → g 9 j = 0 := by
    intro j hj z
    rcases gr with ⟨-, -, e9⟩ | ⟨-, -, e9⟩
    · rw [e9]; exact c0 j hj
    · rw [e9, upd_ne z]; exact c0 j hj
  have gF := FS_fr g2 g3 vF
  have gO := OD_fr g7 vO
  have gG2 : ∀ i, i < 24 → g 6 i = 0 → GG g (c + 1) i := by
    intro i hi q
    rcases gG i hi q with e | ⟨-, j, e2, e3, e4⟩
    · exact Or.inl e
    · refine Or.inr ⟨?_, j, e2, e3, e4⟩
      have hj : j = c := by
        rcases Nat.decEq j c with z | z
        · exact absurd ((gz j e2 z).symm.trans e4) (by decide)
        · exact z
      subst hj
      rcases e3 with e | e
      · rcases (gF i hi).1 with z | ⟨j', hj', z⟩
        · rw [z] at e; exact absurd e (m1_ne hc)
        · rw [z] at e; have := nI_inj (show j' < 24 by omega) hc e; omega
      · rcases (gF i hi).2 with z | ⟨j', hj', z⟩
        · rw [z] at e; exact absurd e (m1_ne hc)
        · rw [z] at e; have := nI_inj (show j' < 24 by omega) hc e; omega
  -- all are gone through
  have hsk := go_skip (a1 := nI us) hc gF gO (fun j hj => gz j (by omega) (by omega)) (nI 0) (c + 1) 0 (by omega)
  obtain ⟨⟨S2, s3, s4, rL⟩, r6, rC, m, hm, rm⟩ := go_loop (by omega) hus 0 (24 - (c + 1)) (c + 1) S1 0 g (by omega) gF gO gb.1 gb.2 gL gG2 (fun j hj hj2 => gz j hj2 (by omega))
  unfold uX1_goThrough rX1_goThrough
  dsimp only
  have hz : lpX1_goThrough_5 (nI us) 0 24 0 g 0 = lpX1_goThrough_5 (nI us) 0 (24 - (c + 1)) (c + 1) g (nI 0) := hsk
  rw [hz]
  have rn : ∀ q : Nat, q ≠ 5 → q ≠ 6 → q ≠ 8 → q ≠ 9 → q ≠ 14 → q ≠ 15 → q ≠ 16 → q ≠ 17 → q ≠ 18 → q ≠ 19 → (lpX1_goThrough_5 (nI us) 0 (24 - (c + 1)) (c + 1) g (nI 0)).1 q = g q := fun q a b c d e f g h i j => fr_lpX1_goThrough_5 a b c d e f g h i j
  have rb9 := go_bo9 (a1 := nI us) (a2 := 0) (24 - (c + 1)) (c + 1) g (nI 0) gb.2
  generalize lpX1_goThrough_5 (nI us) 0 (24 - (c + 1)) (c + 1) g (nI 0) = r at rL r6 rC rm rn rb9 ⊢
  refine ⟨⟨⟨FS_fr (by apply rn <;> decide) (by apply rn <;> decide) gF, fun i hi => ?_, OD_fr (by apply rn <;> decide) gO, r6, rb9, rC⟩, S2, by omega, by omega, LG_wide rL (by omega)⟩, m, by omega, ?_⟩
  · rw [show r.1 1 = g 1 by apply rn <;> decide, show r.1 4 = g 4 by apply rn <;> decide, g1, g4]
    exact vK i hi
  · rw [rm, show 1 + nI (0 + m) = nI (1 + (0 + m)) from nI_add 1 (0 + m)]
    congr 1
    omega
