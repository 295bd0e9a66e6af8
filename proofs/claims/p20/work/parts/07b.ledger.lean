/-! THE LEDGER: what it holds, and that paying keeps it -/
def s4 (f : Nat → Int32) : Int32 := 0 + f 0 + f 1 + f 2 + f 3
def s5 (f : Nat → Int32) : Int32 := 0 + f 0 + f 1 + f 2 + f 3 + f 4
theorem s4_upd {f : Nat → Int32} {q : Nat} {x : Int32} (h : q < 4) : s4 (upd f q (f q + x)) = s4 f + x := by
  rcases (show q = 0 ∨ q = 1 ∨ q = 2 ∨ q = 3 by omega) with rfl | rfl | rfl | rfl <;> simp [s4, upd_at] <;> grind
theorem s5_upd {f : Nat → Int32} {q : Nat} {x : Int32} (h : q < 5) : s5 (upd f q (f q + x)) = s5 f + x := by
  rcases (show q = 0 ∨ q = 1 ∨ q = 2 ∨ q = 3 ∨ q = 4 by omega) with rfl | rfl | rfl | rfl | rfl <;> simp [s5, upd_at] <;> grind
/-- a kept reading: by this user, over sheets, counted -/
def EN (us S : Nat) (u : vM) (n : Nat) : Prop := ∃ rd rr c : Nat, rd < 24 ∧ rr < 24 ∧ rd / 6 ≠ rr / 6 ∧ u 19 n = nI (10000 * us + 100 * rd + rr) ∧ 1 ≤ c ∧ c ≤ S ∧ u 18 (24 * rd + rr) = nI c
/-- the ledger: prices, budgets up to B, money (d is paid and not yet entered), S readings in all, those from m1 on of the user us -/
def LG (us m1 B S : Nat) (d : Int32) (u : vM) : Prop :=
  (∀ q, q < 4 → ∃ p : Nat, p ≤ 100 ∧ u 13 q = nI p) ∧
  (∀ q, q < 4 → ∃ b : Nat, b ≤ B ∧ u 14 q = nI b) ∧
  (s4 (u 14) + s4 (u 15) + d = u 20 0 ∧ s5 (u 17) = s4 (u 15)) ∧
  (s4 (u 16) = nI S ∧ u 8 0 = nI (min S 500)) ∧
  (∀ i, i < 576 → ∃ c : Nat, c ≤ S ∧ u 18 i = nI c) ∧
  (∀ n, m1 ≤ n → n < min S 500 → EN us S u n)
theorem LG_fr {us m1 B S : Nat} {d : Int32} {u u' : vM} (h : LG us m1 B S d u) (e8 : u' 8 = u 8) (e13 : u' 13 = u 13) (e14 : u' 14 = u 14) (e15 : u' 15 = u 15) (e16 : u' 16 = u 16) (e17 : u' 17 = u 17) (e18 : u' 18 = u 18) (e19 : u' 19 = u 19) (e20 : u' 20 0 = u 20 0) : LG us m1 B S d u' := by
  unfold LG EN at *
  rw [e8, e13, e14, e15, e16, e17, e18, e19, e20]
  exact h
theorem LG_wide {us m1 B B' S : Nat} {d : Int32} {u : vM} (h : LG us m1 B S d u) (hB : B ≤ B') : LG us m1 B' S d u := by
  obtain ⟨h1, h2, h3⟩ := h
  refine ⟨h1, fun q hq => ?_, h3⟩
  obtain ⟨b, hb, e⟩ := h2 q hq
  exact ⟨b, Nat.le_trans hb hB, e⟩
theorem en_rows {u : vM} {us c r : Nat} (hus : us < 5) (hc : c < 24) (hr : r < 24) :
    uX0_enter u (nI us) (nI c) (nI r) 15 = upd (u 15) (r / 6) (u 15 (r / 6) + u 13 (r / 6)) ∧
    uX0_enter u (nI us) (nI c) (nI r) 17 = upd (u 17) us (u 17 us + u 13 (r / 6)) ∧
    uX0_enter u (nI us) (nI c) (nI r) 16 = upd (u 16) (r / 6) (u 16 (r / 6) + 1) ∧
    uX0_enter u (nI us) (nI c) (nI r) 18 = upd (u 18) (24 * c + r) (u 18 (24 * c + r) + 1) ∧
    ((500 : Int32) ≤ u 8 0 → uX0_enter u (nI us) (nI c) (nI r) 8 = u 8 ∧ uX0_enter u (nI us) (nI c) (nI r) 19 = u 19) ∧
    (¬ (500 : Int32) ≤ u 8 0 → uX0_enter u (nI us) (nI c) (nI r) 8 0 = u 8 0 + 1 ∧ uX0_enter u (nI us) (nI c) (nI r) 19 = upd (u 19) (u 8 0).toNatClampNeg (10000 * nI us + 100 * nI c + nI r)) := by
  have h0 : ¬ rX1_isCell (nI r) = 0 := by rw [cell1_nI hr]; decide
  have h6 : (nI (r / 6)).toNatClampNeg = r / 6 := nI_clamp (by omega)
  have h7 : (nI us).toNatClampNeg = us := nI_clamp (by omega)
  have h8 : (nI (24 * c + r)).toNatClampNeg = 24 * c + r := nI_clamp (by omega)
  unfold uX0_enter rX1_sheetOf
  rw [if_neg h0, d6_nI (show r < 2 ^ 31 by omega), ix_nI hc hr]
  dsimp only
  refine ⟨?_, ?_, ?_, ?_, fun hK => ?_, fun hK => ?_⟩
  · split <;> simp [mrd, mfd, mup_row, mup_ne, mst_ne, h6, h7, h8]
  · split <;> simp [mrd, mfd, mup_row, mup_ne, mst_ne, h6, h7, h8]
  · split <;> simp [mrd, mfd, mup_row, mup_ne, mst_ne, h6, h7, h8]
  · split <;> simp [mrd, mfd, mup_row, mup_ne, mst_ne, h6, h7, h8]
  · rw [if_pos (by simpa [mfd, mup_ne] using hK)]
    constructor <;> simp [mup_ne]
  · rw [if_neg (by simpa [mfd, mup_ne] using hK)]
    constructor <;> simp [mrd, mfd, mup_row, mup_ne, mst_ne, mst_row]
theorem LG_enter {us m1 B S c r : Nat} {d : Int32} {u : vM} (hus : us < 5) (hc : c < 24) (hr : r < 24) (hd : c / 6 ≠ r / 6) (h : LG us m1 B S (u 13 (r / 6) + d) u) : LG us m1 B (S + 1) d (uX0_enter u (nI us) (nI c) (nI r)) := by
  obtain ⟨h13, h14, ⟨hm1, hm2⟩, ⟨hs1, hs2⟩, hcn, hen⟩ := h
  obtain ⟨e15, e17, e16, e18, eA, eB⟩ := en_rows (u := u) hus hc hr
  have e13 : uX0_enter u (nI us) (nI c) (nI r) 13 = u 13 := fr_uX0_enter (by decide) (by decide) (by decide) (by decide) (by decide) (by decide)
  have e14 : uX0_enter u (nI us) (nI c) (nI r) 14 = u 14 := fr_uX0_enter (by decide) (by decide) (by decide) (by decide) (by decide) (by decide)
  have e20 : uX0_enter u (nI us) (nI c) (nI r) 20 = u 20 := fr_uX0_enter (by decide) (by decide) (by decide) (by decide) (by decide) (by decide)
  have hcn' : ∀ i, i < 576 → ∃ c' : Nat, c' ≤ S + 1 ∧ uX0_enter u (nI us) (nI c) (nI r) 18 i = nI c' ∧ (u 18 i = nI c' ∨ ∃ c0, c' = c0 + 1 ∧ u 18 i = nI c0 ∧ i = 24 * c + r) := by
    intro i hi
    obtain ⟨c0, hc0, e0⟩ := hcn i hi
    rw [e18, upd_at]
    by_cases z : i = 24 * c + r
    · rw [if_pos z, ← z, e0]
      exact ⟨c0 + 1, by omega, nI_1 c0, Or.inr ⟨c0, rfl, rfl, rfl⟩⟩
    · rw [if_neg z]
      exact ⟨c0, by omega, e0, Or.inl e0⟩
  have hold : ∀ n, m1 ≤ n → n < min S 500 → uX0_enter u (nI us) (nI c) (nI r) 19 n = u 19 n → EN us (S + 1) (uX0_enter u (nI us) (nI c) (nI r)) n := by
    intro n hn1 hn2 e19
    obtain ⟨rd, rr, c0, g1, g2, g3, g4, g5, g6, g7⟩ := hen n hn1 hn2
    have gi : 24 * rd + rr < 576 := by omega
    refine ⟨rd, rr, ?_⟩
    by_cases z : 24 * rd + rr = 24 * c + r
    · refine ⟨c0 + 1, g1, g2, g3, by rw [e19]; exact g4, by omega, by omega, ?_⟩
      rw [e18, z, upd_eq, ← z, g7]
      exact nI_1 c0
    · refine ⟨c0, g1, g2, g3, by rw [e19]; exact g4, g5, by omega, ?_⟩
      rw [e18, upd_ne z]
      exact g7
  refine ⟨fun q hq => by rw [e13]; exact h13 q hq, fun q hq => by rw [e14]; exact h14 q hq, ⟨?_, ?_⟩, ⟨?_, ?_⟩, fun i hi => ?_, ?_⟩
  · rw [e14, e15, e20, s4_upd (by omega)]
    rw [← hm1]
    grind
  · rw [e17, e15, s5_upd hus, s4_upd (by omega), hm2]
  · rw [e16, s4_upd (by omega), hs1]
    exact nI_1 S
  · by_cases hS : S < 500
    · have h5 : ¬ (500 : Int32) ≤ u 8 0 := by
        rw [hs2, show min S 500 = S by omega]
        exact nI_ge (b := 500) hS (by decide)
      rw [(eB h5).1, hs2, show min S 500 = S by omega, show min (S + 1) 500 = S + 1 by omega]
      exact nI_1 S
    · have h5 : (500 : Int32) ≤ u 8 0 := by
        rw [hs2, show min S 500 = 500 by omega]
        decide
      rw [(eA h5).1, hs2, show min S 500 = 500 by omega, show min (S + 1) 500 = 500 by omega]
  · obtain ⟨c', g1, g2, -⟩ := hcn' i hi
    exact ⟨c', g1, g2⟩
  · intro n hn1 hn2
    by_cases hS : S < 500
    · have h5 : ¬ (500 : Int32) ≤ u 8 0 := by
        rw [hs2, show min S 500 = S by omega]
        exact nI_ge (b := 500) hS (by decide)
      have e19 := (eB h5).2
      rw [hs2, show min S 500 = S by omega, nI_clamp (by omega)] at e19
      by_cases z : n = S
      · subst z
        obtain ⟨c0, hc0, e0⟩ := hcn (24 * c + r) (by omega)
        refine ⟨c, r, c0 + 1, hc, hr, hd, ?_, by omega, by omega, ?_⟩
        · rw [e19, upd_eq, show (10000 : Int32) = nI 10000 from rfl, show (100 : Int32) = nI 100 from rfl, pk_mul, pk_mul, nI_add, nI_add]
        · rw [e18, upd_eq, e0]
          exact nI_1 c0
      · exact hold n hn1 (by omega) (by rw [e19, upd_ne z])
    · have h5 : (500 : Int32) ≤ u 8 0 := by
        rw [hs2, show min S 500 = 500 by omega]
        decide
      exact hold n hn1 (by omega) (by rw [(eA h5).2])
/-- what a cell may be billed for: no cell, or a cell of another sheet -/
def ot (c : Nat) (x : Int32) : Prop := x = -1 ∨ ∃ r, r < 24 ∧ c / 6 ≠ r / 6 ∧ x = nI r
theorem cost_m1 {u : vM} : rX0_costOf u (-1) = 0 := by unfold rX0_costOf; rw [cell1_m1, if_pos rfl]
theorem cost_nI {u : vM} {r : Nat} (h : r < 24) : rX0_costOf u (nI r) = u 13 (r / 6) := by
  unfold rX0_costOf rX1_sheetOf
  rw [cell1_nI h, if_neg c10, d6_nI (by omega), mrd_nI (by omega)]
theorem enter_m1 {u : vM} {a b : Int32} : uX0_enter u a b (-1) = u := by unfold uX0_enter; rw [cell1_m1, if_pos rfl]
theorem LG_ot {us m1 B S c : Nat} {d x : Int32} {u : vM} (hus : us < 5) (hc : c < 24) (hx : ot c x) (h : LG us m1 B S (rX0_costOf u x + d) u) : ∃ S', S ≤ S' ∧ S' ≤ S + 1 ∧ LG us m1 B S' d (uX0_enter u (nI us) (nI c) x) := by
  rcases hx with rfl | ⟨r, hr, hd, rfl⟩
  · rw [cost_m1, Int32.zero_add] at h
    rw [enter_m1]
    exact ⟨S, Nat.le_refl _, Nat.le_succ _, h⟩
  · rw [cost_nI hr] at h
    exact ⟨S + 1, Nat.le_succ _, Nat.le_refl _, LG_enter hus hc hr hd h⟩
theorem cost_fr {u u' : vM} (e : u' 13 = u 13) {x : Int32} : rX0_costOf u' x = rX0_costOf u x := by
  unfold rX0_costOf mrd
  rw [e]
theorem cost_b {us m1 B S : Nat} {d : Int32} {u : vM} (h : LG us m1 B S d u) {c : Nat} {x : Int32} (hx : ot c x) : ∃ p, p ≤ 100 ∧ rX0_costOf u x = nI p := by
  rcases hx with rfl | ⟨r, hr, hd, rfl⟩
  · exact ⟨0, by omega, cost_m1⟩
  · rw [cost_nI hr]
    exact h.1 (r / 6) (by omega)
/-- paying keeps the ledger -/
theorem LG_pay {us m1 B S c : Nat} {x y : Int32} {u : vM} (hB : B < 2 ^ 30) (hus : us < 5) (hc : c < 24) (hx : ot c x) (hy : ot c y) (h : LG us m1 B S 0 u) : ∃ S', S ≤ S' ∧ S' ≤ S + 2 ∧ LG us m1 B S' 0 (uX0_paysFor u (nI us) (nI c) x y) := by
  unfold uX0_paysFor rX1_sheetOf
  rw [d6_nI (show c < 2 ^ 31 by omega)]
  dsimp only
  split
  · rename_i hle
    obtain ⟨p1, hp1, e1⟩ := cost_b h hx
    obtain ⟨p2, hp2, e2⟩ := cost_b h hy
    obtain ⟨b, hb, eb⟩ := h.2.1 (c / 6) (by omega)
    rw [mrd_nI (by omega), e1, e2, nI_add, eb] at hle
    have hle' : p1 + p2 ≤ b := (nI_leI (by omega) (by omega)).mp hle
    have h1 : LG us m1 B S (rX0_costOf u x + rX0_costOf u y) (mup u 14 (nI (c / 6)) (mrd u 14 (nI (c / 6)) - (rX0_costOf u x + rX0_costOf u y))) := by
      obtain ⟨h13, h14, ⟨hm1, hm2⟩, h5⟩ := h
      have e14 : mup u 14 (nI (c / 6)) (mrd u 14 (nI (c / 6)) - (rX0_costOf u x + rX0_costOf u y)) 14 = upd (u 14) (c / 6) (u 14 (c / 6) + -(rX0_costOf u x + rX0_costOf u y)) := by
        rw [mup_nI (by omega), mrd_nI (by omega), Int32.sub_eq_add_neg]
      have en : ∀ q : Nat, q ≠ 14 → mup u 14 (nI (c / 6)) (mrd u 14 (nI (c / 6)) - (rX0_costOf u x + rX0_costOf u y)) q = u q := fun q hq => mup_ne hq
      generalize hw : mup u 14 (nI (c / 6)) (mrd u 14 (nI (c / 6)) - (rX0_costOf u x + rX0_costOf u y)) = w at e14 en
      refine ⟨fun q hq => by rw [en 13 (by decide)]; exact h13 q hq, fun q hq => ?_, ⟨?_, by rw [en 17 (by decide), en 15 (by decide)]; exact hm2⟩, ?_⟩
      · rw [e14, upd_at]
        by_cases z : q = c / 6
        · rw [if_pos z, eb, e1, e2, nI_add, ← Int32.sub_eq_add_neg, pk_sub hle']
          exact ⟨b - (p1 + p2), by omega, rfl⟩
        · rw [if_neg z]
          exact h14 q hq
      · rw [e14, s4_upd (by omega), en 15 (by decide), en 20 (by decide), ← hm1]
        grind
      · unfold EN at *
        rw [en 16 (by decide), en 8 (by decide), en 18 (by decide), en 19 (by decide)]
        exact h5
    generalize hw : mup u 14 (nI (c / 6)) (mrd u 14 (nI (c / 6)) - (rX0_costOf u x + rX0_costOf u y)) = w at h1
    have ew : w 13 = u 13 := by rw [← hw]; exact mup_ne (by decide)
    rw [← cost_fr (x := x) ew, ← cost_fr (x := y) ew] at h1
    obtain ⟨S1, g1, g2, h2⟩ := LG_ot hus hc hx h1
    have ev : uX0_enter w (nI us) (nI c) x 13 = w 13 := fr_uX0_enter (by decide) (by decide) (by decide) (by decide) (by decide) (by decide)
    rw [← cost_fr (x := y) ev, ← Int32.add_zero (rX0_costOf _ y)] at h2
    obtain ⟨S2, g3, g4, h3⟩ := LG_ot hus hc hy h2
    exact ⟨S2, by omega, by omega, h3⟩
  · exact ⟨S, Nat.le_refl _, by omega, h⟩
