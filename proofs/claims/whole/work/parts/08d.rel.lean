/-! what the class's memory and the reference's have to do with one another -/
/-- rows that both keep alike -/
def PL : List (Nat × Nat) := [(1, 1), (4, 4), (5, 5), (6, 6), (8, 17), (9, 7), (12, 8), (13, 11), (15, 13), (17, 14), (18, 16), (19, 15)]
def QL (u g : vM) : Prop := ∀ p ∈ PL, u p.1 = g p.2
theorem PL_inj : ∀ p ∈ PL, ∀ r ∈ PL, (p.1 = r.1 ↔ p.2 = r.2) := by decide
theorem QL_row {u g : vM} (a b : Nat) (h : QL u g) (hp : (a, b) ∈ PL := by decide) : u a = g b := h (a, b) hp
theorem mst_row {u : vM} {q : Nat} {x : Int32} : mst u q x q = fun _ => x := by
  unfold mst mR
  rw [Nat.beq_refl]
  rfl
theorem QL_up {u g : vM} {a b : Nat} {i i' x x' : Int32} (hp : (a, b) ∈ PL) (hi : i = i') (h : QL u g) (hx : QL u g → x = x') : QL (mup u a i x) (mup g b i' x') := by
  have hx := hx h
  subst hi hx
  intro p hq
  by_cases e : p.1 = a
  · have e2 : p.2 = b := (PL_inj p hq (a, b) hp).mp e
    rw [e, e2, mup_row, mup_row, QL_row a b h hp]
  · have e2 : p.2 ≠ b := fun z => e ((PL_inj p hq (a, b) hp).mpr z)
    rw [mup_ne e, mup_ne e2]
    exact h p hq
theorem QL_st {u g : vM} {a b : Nat} {x x' : Int32} (hp : (a, b) ∈ PL) (h : QL u g) (hx : QL u g → x = x') : QL (mst u a x) (mst g b x') := by
  have hx := hx h
  subst hx
  intro p hq
  by_cases e : p.1 = a
  · have e2 : p.2 = b := (PL_inj p hq (a, b) hp).mp e
    rw [e, e2, mst_row, mst_row]
  · have e2 : p.2 ≠ b := fun z => e ((PL_inj p hq (a, b) hp).mpr z)
    rw [mst_ne e, mst_ne e2]
    exact h p hq
theorem QL_fr {u g u' g' : vM} (hu : ∀ p ∈ PL, u' p.1 = u p.1) (hg : ∀ p ∈ PL, g' p.2 = g p.2) (h : QL u g) : QL u' g' := fun p hp => by rw [hu p hp, hg p hp]; exact h p hp
theorem QL_L {u g : vM} {a : Nat} {i x : Int32} (ha : ∀ p ∈ PL, p.1 ≠ a) (h : QL u g) : QL (mup u a i x) g := fun p hp => by rw [mup_ne (ha p hp)]; exact h p hp
theorem QL_R {u g : vM} {a : Nat} {i x : Int32} (ha : ∀ p ∈ PL, p.2 ≠ a) (h : QL u g) : QL u (mup g a i x) := fun p hp => by rw [mup_ne (ha p hp)]; exact h p hp
theorem QL_ite {c c' : Prop} [Decidable c] [Decidable c'] {A A' B B' : vM} (hc : c ↔ c') (h1 : QL A A') (h2 : QL B B') : QL (if c then A else B) (if c' then A' else B') := by
  by_cases h : c
  · rw [if_pos h, if_pos (hc.mp h)]; exact h1
  · rw [if_neg h, if_neg fun z => h (hc.mpr z)]; exact h2
theorem QL_mrd {u g : vM} (a b : Nat) (h : QL u g) (i : Int32) (hp : (a, b) ∈ PL := by decide) : mrd u a i = mrd g b i := by
  unfold mrd
  rw [QL_row a b h hp]
theorem QL_mfd {u g : vM} (a b : Nat) (h : QL u g) (hp : (a, b) ∈ PL := by decide) : mfd u a = mfd g b := by
  unfold mfd
  rw [QL_row a b h hp]
/-- kinds -/
def KI (g : vM) : Prop := ∀ i, i < 24 → g 1 i = 0 ∨ g 1 i = 1 ∨ g 1 i = 2 ∨ g 1 i = 3
/-- what the class keeps of what a formula reads -/
def RO (u g : vM) : Prop := ∀ i, i < 24 → u 2 i = (if g 1 i = 0 then -1 else g 2 i) ∧ u 3 i = (if g 1 i = 1 ∨ g 1 i = 2 then g 3 i else -1)
theorem RO_fr {u g u' g' : vM} (h2 : u' 2 = u 2) (h3 : u' 3 = u 3) (k1 : g' 1 = g 1) (k2 : g' 2 = g 2) (k3 : g' 3 = g 3) (h : RO u g) : RO u' g' := by
  intro i hi
  rw [h2, h3, k1, k2, k3]
  exact h i hi
/-- the readings of a sheet, summed -/
def SM (a : Int32) (f : Nat → Int32) : Nat → Int32
  | 0 => 0
  | n + 1 => SM a f n + (if ((nI n) - (nI n) / 24 * 24) / 6 = a then f n else 0)
theorem SM_lp (a : Int32) (u : vM) : ∀ (n k : Nat) (x : Int32), k + n ≤ 576 → x = SM a (u 16) k → lpX2_readOf_22 a u n k x = SM a (u 16) (k + n) := by
  intro n
  induction n with
  | zero => intro k x _ h; exact h
  | succ n ih =>
    intro k x hk h
    show lpX2_readOf_22 a u n (k + 1) (x + (if ((nI k) - (nI k) / 24 * 24) / 6 = a then mrd u 16 (nI k) else 0)) = _
    have e : mrd u 16 (nI k) = u 16 k := by
      unfold mrd
      rw [nI_clamp (by omega)]
    rw [e, ih (k + 1) _ (by omega) (by rw [h]; rfl), show k + (n + 1) = k + 1 + n by omega]
theorem SM_upd (a : Int32) (f : Nat → Int32) (k0 : Nat) : ∀ n, SM a (upd f k0 (f k0 + 1)) n = SM a f n + (if k0 < n ∧ ((nI k0) - (nI k0) / 24 * 24) / 6 = a then 1 else 0) := by
  intro n
  induction n with
  | zero => rw [if_neg (fun h => absurd h.1 (by omega))]; rfl
  | succ n ih =>
    show SM a (upd f k0 (f k0 + 1)) n + (if ((nI n) - (nI n) / 24 * 24) / 6 = a then upd f k0 (f k0 + 1) n else 0) = SM a f n + (if ((nI n) - (nI n) / 24 * 24) / 6 = a then f n else 0) + _
    rw [ih]
    by_cases e : n = k0
    · rw [e, upd_at, if_pos rfl, if_neg (show ¬ (k0 < k0 ∧ _) from fun h => absurd h.1 (by omega))]
      by_cases q : ((nI k0) - (nI k0) / 24 * 24) / 6 = a
      · rw [if_pos q, if_pos q, if_pos ⟨by omega, q⟩, Int32.add_zero, Int32.add_assoc]
      · rw [if_neg q, if_neg q, if_neg fun h => q h.2]
    · rw [upd_at, if_neg e]
      have e2 : (k0 < n + 1 ∧ ((nI k0) - (nI k0) / 24 * 24) / 6 = a) ↔ (k0 < n ∧ ((nI k0) - (nI k0) / 24 * 24) / 6 = a) := ⟨fun h => ⟨by omega, h.2⟩, fun h => ⟨by omega, h.2⟩⟩
      by_cases q : k0 < n ∧ ((nI k0) - (nI k0) / 24 * 24) / 6 = a
      · rw [if_pos q, if_pos (e2.mpr q), Int32.add_assoc, Int32.add_comm 1, ← Int32.add_assoc]
      · rw [if_neg q, if_neg fun z => q (e2.mp z), Int32.add_zero, Int32.add_zero]
def RS (u g : vM) : Prop := ∀ s, s < 4 → u 16 s = SM (nI s) (g 16) 576
theorem rs_all : ∀ i, i < 24 → ∀ j, j < 24 → ((nI (24 * i + j)) - (nI (24 * i + j)) / 24 * 24) / 6 = nI (j / 6) := by decide +kernel
theorem d6_all : ∀ j, j < 24 → nI j / 6 = nI (j / 6) := by decide +kernel
theorem ix_all : ∀ i, i < 24 → ∀ j, j < 24 → ((24 : Int32) * nI i + nI j).toNatClampNeg = 24 * i + j := by decide +kernel
theorem RS_read {u g u' g' : vM} {i j : Nat} (hi : i < 24) (hj : j < 24) (h : RS u g) (hu : u' 16 = upd (u 16) (nI j / 6).toNatClampNeg (u 16 (nI j / 6).toNatClampNeg + 1)) (hg : g' 16 = upd (g 16) ((24 : Int32) * nI i + nI j).toNatClampNeg (g 16 ((24 : Int32) * nI i + nI j).toNatClampNeg + 1)) : RS u' g' := by
  rw [d6_all j hj, nI_clamp (by omega)] at hu
  rw [ix_all i hi j hj] at hg
  intro s hs
  rw [hu, hg, SM_upd, upd_at, rs_all i hi j hj]
  by_cases e : s = j / 6
  · rw [if_pos e, ← e, h s hs, if_pos ⟨by omega, rfl⟩]
  · rw [if_neg e, h s hs, if_neg (fun z => e ((nI_eq (by omega) (by omega)).mp z.2).symm), Int32.add_zero]
/-! a read is paid and entered -/
theorem cell1_all : ∀ j, j < 24 → rX1_isCell (nI j) = 1 := by decide +kernel
theorem cell1_in {x : Int32} (h : vp_in x 24) : rX1_isCell x = 1 := by
  obtain ⟨j, hj, rfl⟩ := vp_in_of h (by decide)
  exact cell1_all j hj
theorem cell1_m1 : rX1_isCell (-1) = 0 := by decide +kernel
theorem en16 {u : vM} {a c r : Int32} (h : rX1_isCell r ≠ 0) : (uX0_enter u a c r) 16 = upd (u 16) (r / 6).toNatClampNeg (u 16 (r / 6).toNatClampNeg + 1) := by
  unfold uX0_enter rX1_sheetOf
  rw [if_neg h]
  dsimp only
  split <;> simp only [mrd, mup_row, mup_ne (show (16 : Nat) ≠ 8 by decide), mup_ne (show (16 : Nat) ≠ 15 by decide), mup_ne (show (16 : Nat) ≠ 17 by decide), mup_ne (show (16 : Nat) ≠ 18 by decide), mup_ne (show (16 : Nat) ≠ 19 by decide), mst_ne (show (16 : Nat) ≠ 8 by decide), mst_ne (show (16 : Nat) ≠ 15 by decide), mst_ne (show (16 : Nat) ≠ 17 by decide), mst_ne (show (16 : Nat) ≠ 18 by decide), mst_ne (show (16 : Nat) ≠ 19 by decide)]
theorem pay16 {u : vM} {a c r : Int32} (h : rX2_isMetered c r ≠ 0) : (uX2_pay u a c r) 16 = upd (u 16) ((24 * c) + r).toNatClampNeg (u 16 ((24 * c) + r).toNatClampNeg + 1) := by
  unfold uX2_pay
  rw [if_neg h]
  dsimp only
  split <;> simp only [mrd, mup_row, mup_ne (show (16 : Nat) ≠ 12 by decide), mup_ne (show (16 : Nat) ≠ 13 by decide), mup_ne (show (16 : Nat) ≠ 14 by decide), mup_ne (show (16 : Nat) ≠ 15 by decide), mup_ne (show (16 : Nat) ≠ 17 by decide), mst_ne (show (16 : Nat) ≠ 12 by decide), mst_ne (show (16 : Nat) ≠ 13 by decide), mst_ne (show (16 : Nat) ≠ 14 by decide), mst_ne (show (16 : Nat) ≠ 15 by decide), mst_ne (show (16 : Nat) ≠ 17 by decide)]
theorem pay12 {u : vM} {a c r : Int32} (h : rX2_isMetered c r ≠ 0) : (uX2_pay u a c r) 12 = upd (u 12) (c / 6).toNatClampNeg (u 12 (c / 6).toNatClampNeg - mrd u 11 (r / 6)) := by
  unfold uX2_pay
  rw [if_neg h]
  dsimp only
  split <;> simp only [mrd, mup_row, mup_ne (show (12 : Nat) ≠ 13 by decide), mup_ne (show (12 : Nat) ≠ 14 by decide), mup_ne (show (12 : Nat) ≠ 15 by decide), mup_ne (show (12 : Nat) ≠ 16 by decide), mup_ne (show (12 : Nat) ≠ 17 by decide), mst_ne (show (12 : Nat) ≠ 13 by decide), mst_ne (show (12 : Nat) ≠ 14 by decide), mst_ne (show (12 : Nat) ≠ 15 by decide), mst_ne (show (12 : Nat) ≠ 16 by decide), mst_ne (show (12 : Nat) ≠ 17 by decide)]
theorem QL_enter {u g : vM} {a c r : Int32} (h1 : rX1_isCell r ≠ 0) (h2 : rX2_isMetered c r ≠ 0) (h : QL u g) : QL (uX0_enter u a c r) (uX2_pay g a c r) := by
  unfold uX0_enter rX1_sheetOf uX2_pay
  rw [if_neg h1, if_neg h2]
  dsimp only
  have hA : QL (mup u 15 (r / 6) ((mrd u 15 (r / 6)) + (mrd u 13 (r / 6)))) (mup (mup g 12 (c / 6) ((mrd g 12 (c / 6)) - (mrd g 11 (r / 6)))) 13 (r / 6) ((mrd (mup g 12 (c / 6) ((mrd g 12 (c / 6)) - (mrd g 11 (r / 6)))) 13 (r / 6)) + (mrd g 11 (r / 6)))) := by
    refine QL_up (by decide) rfl (QL_R (by decide) h) fun q => ?_
    rw [QL_mrd 15 13 q, QL_mrd 13 11 h]
  have hB := QL_up (a := 17) (b := 14) (i := a) (i' := a) (by decide) rfl hA (x := (mrd (mup u 15 (r / 6) ((mrd u 15 (r / 6)) + (mrd u 13 (r / 6)))) 17 a) + (mrd (mup u 15 (r / 6) ((mrd u 15 (r / 6)) + (mrd u 13 (r / 6)))) 13 (r / 6))) (x' := (mrd (mup (mup g 12 (c / 6) ((mrd g 12 (c / 6)) - (mrd g 11 (r / 6)))) 13 (r / 6) ((mrd (mup g 12 (c / 6) ((mrd g 12 (c / 6)) - (mrd g 11 (r / 6)))) 13 (r / 6)) + (mrd g 11 (r / 6)))) 14 a) + (mrd g 11 (r / 6))) fun q => by
    rw [QL_mrd 17 14 q]
    congr 1
    rw [QL_mrd 13 11 q]
    unfold mrd
    rw [mup_ne (by decide), mup_ne (by decide)]
  generalize mup (mup u 15 (r / 6) ((mrd u 15 (r / 6)) + (mrd u 13 (r / 6)))) 17 a _ = U at hB ⊢
  generalize mup (mup (mup g 12 (c / 6) _) 13 (r / 6) _) 14 a _ = G at hB ⊢
  have hC : QL (mup (mup U 16 (r / 6) (mrd U 16 (r / 6) + 1)) 18 (c * 24 + r) (mrd (mup U 16 (r / 6) (mrd U 16 (r / 6) + 1)) 18 (c * 24 + r) + 1)) (mup G 16 (24 * c + r) (mrd G 16 (24 * c + r) + 1)) := by
    refine QL_up (by decide) (by rw [Int32.mul_comm]) (QL_L (by decide) hB) fun q => ?_
    rw [QL_mrd 18 16 q, Int32.mul_comm]
  refine QL_ite (by rw [QL_mfd 8 17 hC]) hC ?_
  refine QL_st (by decide) ?_ fun q => by rw [QL_mfd 8 17 q]
  exact QL_up (by decide) (QL_mfd 8 17 hC) hC fun _ => rfl
