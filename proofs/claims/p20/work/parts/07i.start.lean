/-! at the start -/
theorem x0_fr {q : Nat} (h1 : q ≠ 1) (h2 : q ≠ 2) : ∀ (n k : Nat) (u : vM), lpX0_init_64 n k u q = u q := by
  intro n
  induction n with
  | zero => intro k u; rfl
  | succ n ih =>
    intro k u
    refine (ih (k + 1) _).trans ?_
    rw [mup_ne h2, mup_ne h1]
theorem x1_fr {q : Nat} (h2 : q ≠ 2) (h3 : q ≠ 3) (h7 : q ≠ 7) : ∀ (n k : Nat) (u : vM), lpX1_init_105 n k u q = u q := by
  intro n
  induction n with
  | zero => intro k u; rfl
  | succ n ih =>
    intro k u
    refine (ih (k + 1) _).trans ?_
    rw [mup_ne h7, mup_ne h3, mup_ne h2]
theorem x1_rows : ∀ (n k : Nat) (u : vM), k + n ≤ 24 → ∀ j, lpX1_init_105 n k u 2 j = (if k ≤ j ∧ j < k + n then -1 else u 2 j) ∧ lpX1_init_105 n k u 3 j = (if k ≤ j ∧ j < k + n then -1 else u 3 j) ∧ lpX1_init_105 n k u 7 j = (if k ≤ j ∧ j < k + n then nI j else u 7 j) := by
  intro n
  induction n with
  | zero => intro k u _ j; rw [if_neg (by omega), if_neg (by omega), if_neg (by omega)]; exact ⟨rfl, rfl, rfl⟩
  | succ n ih =>
    intro k u hk j
    have q := ih (k + 1) (mup (mup (mup u 2 (nI k) (-1)) 3 (nI k) (-1)) 7 (nI k) (nI k)) (by omega) j
    have e2 : mup (mup (mup u 2 (nI k) (-1)) 3 (nI k) (-1)) 7 (nI k) (nI k) 2 j = if j = k then -1 else u 2 j := by
      rw [mup_ne (by decide), mup_ne (by decide), mup_at, nI_clamp (by omega)]
    have e3 : mup (mup (mup u 2 (nI k) (-1)) 3 (nI k) (-1)) 7 (nI k) (nI k) 3 j = if j = k then -1 else u 3 j := by
      rw [mup_ne (by decide), mup_at, nI_clamp (by omega), mup_ne (by decide)]
    have e7 : mup (mup (mup u 2 (nI k) (-1)) 3 (nI k) (-1)) 7 (nI k) (nI k) 7 j = if j = k then nI k else u 7 j := by
      rw [mup_at, nI_clamp (by omega), mup_ne (by decide), mup_ne (by decide)]
    rw [e2, e3, e7] at q
    refine ⟨q.1.trans ?_, q.2.1.trans ?_, q.2.2.trans ?_⟩
    all_goals
      by_cases e : j = k
      · subst e
        rw [if_neg (by omega), if_pos rfl]
        exact (if_pos (by omega)).symm
      · rw [if_neg e]
        by_cases z : k ≤ j ∧ j < k + (n + 1)
        · rw [if_pos z, if_pos (by omega)]
        · rw [if_neg z, if_neg (by omega)]
theorem x0_rows : ∀ (n k : Nat) (u : vM), k + n ≤ 4 → ∀ j, lpX0_init_64 n k u 1 j = (if k ≤ j ∧ j < k + n then 1 else u 1 j) ∧ lpX0_init_64 n k u 2 j = (if k ≤ j ∧ j < k + n then 100 else u 2 j) := by
  intro n
  induction n with
  | zero => intro k u _ j; rw [if_neg (by omega), if_neg (by omega)]; exact ⟨rfl, rfl⟩
  | succ n ih =>
    intro k u hk j
    have q := ih (k + 1) (mup (mup u 1 (nI k) 1) 2 (nI k) 100) (by omega) j
    have e1 : mup (mup u 1 (nI k) 1) 2 (nI k) 100 1 j = if j = k then 1 else u 1 j := by
      rw [mup_ne (by decide), mup_at, nI_clamp (by omega)]
    have e2 : mup (mup u 1 (nI k) 1) 2 (nI k) 100 2 j = if j = k then 100 else u 2 j := by
      rw [mup_at, nI_clamp (by omega), mup_ne (by decide)]
    rw [e1, e2] at q
    refine ⟨q.1.trans ?_, q.2.trans ?_⟩
    all_goals
      by_cases e : j = k
      · subst e
        rw [if_neg (by omega), if_pos rfl]
        exact (if_pos (by omega)).symm
      · rw [if_neg e]
        by_cases z : k ≤ j ∧ j < k + (n + 1)
        · rw [if_pos z, if_pos (by omega)]
        · rw [if_neg z, if_neg (by omega)]
/-- the law's start: a new object, and its own two numbers -/
def uM0 : vM := mup (mR uX1_init 20 (fun _ => 0)) 20 0 400
theorem mR_ne {u : vM} {q q' : Nat} {f : Nat → Int32} (h : q' ≠ q) : mR u q f q' = u q' := by
  unfold mR
  rw [show Nat.beq q' q = false by cases hb : Nat.beq q' q with
    | true => exact absurd (Nat.eq_of_beq_eq_true hb) h
    | false => rfl]
  rfl
theorem mR_row {u : vM} {q : Nat} {f : Nat → Int32} : mR u q f q = f := by
  unfold mR
  rw [Nat.beq_refl]
  rfl
theorem m0_ne {q : Nat} (h : q ≠ 20) : uM0 q = uX1_init q := by unfold uM0; rw [mup_ne h, mR_ne h]
theorem i1_fr {q : Nat} (h2 : q ≠ 2) (h3 : q ≠ 3) (h7 : q ≠ 7) : uX1_init q = mC0 q := x1_fr h2 h3 h7 24 0 mC0
theorem c0_k {q : Nat} (h1 : q ≠ 1) (h2 : q ≠ 2) : uX0_init q = fun _ => 0 := x0_fr h1 h2 4 0 mz
theorem c0_m : mC0 1 = (fun _ => 0) ∧ mC0 4 = (fun _ => 0) ∧ mC0 5 = (fun _ => 0) ∧ mC0 6 = (fun _ => 0) ∧ mC0 9 = (fun _ => 0) := ⟨rfl, rfl, rfl, rfl, rfl⟩
theorem c0_r : mC0 8 = uX0_init 8 ∧ mC0 13 = uX0_init 1 ∧ mC0 14 = uX0_init 2 ∧ mC0 15 = uX0_init 3 ∧ mC0 16 = uX0_init 4 ∧ mC0 17 = uX0_init 5 ∧ mC0 18 = uX0_init 6 ∧ mC0 19 = uX0_init 7 := ⟨rfl, rfl, rfl, rfl, rfl, rfl, rfl, rfl⟩
theorem s4_0 : s4 (fun _ => 0) = 0 := by decide
theorem s5_0 : s5 (fun _ => 0) = 0 := by decide
theorem IV_0 : IV 0 uM0 := by
  obtain ⟨m1, m4, m5, m6, m9⟩ := c0_m
  obtain ⟨r8, r13, r14, r15, r16, r17, r18, r19⟩ := c0_r
  have e1 : uM0 1 = fun _ => 0 := by rw [m0_ne (by decide), i1_fr (by decide) (by decide) (by decide), m1]
  have e4 : uM0 4 = fun _ => 0 := by rw [m0_ne (by decide), i1_fr (by decide) (by decide) (by decide), m4]
  have e5 : uM0 5 = fun _ => 0 := by rw [m0_ne (by decide), i1_fr (by decide) (by decide) (by decide), m5]
  have e6 : uM0 6 = fun _ => 0 := by rw [m0_ne (by decide), i1_fr (by decide) (by decide) (by decide), m6]
  have e9 : uM0 9 = fun _ => 0 := by rw [m0_ne (by decide), i1_fr (by decide) (by decide) (by decide), m9]
  have e8 : uM0 8 = fun _ => 0 := by rw [m0_ne (by decide), i1_fr (by decide) (by decide) (by decide), r8, c0_k (by decide) (by decide)]
  have e15 : uM0 15 = fun _ => 0 := by rw [m0_ne (by decide), i1_fr (by decide) (by decide) (by decide), r15, c0_k (by decide) (by decide)]
  have e16 : uM0 16 = fun _ => 0 := by rw [m0_ne (by decide), i1_fr (by decide) (by decide) (by decide), r16, c0_k (by decide) (by decide)]
  have e17 : uM0 17 = fun _ => 0 := by rw [m0_ne (by decide), i1_fr (by decide) (by decide) (by decide), r17, c0_k (by decide) (by decide)]
  have e18 : uM0 18 = fun _ => 0 := by rw [m0_ne (by decide), i1_fr (by decide) (by decide) (by decide), r18, c0_k (by decide) (by decide)]
  have e13 : ∀ q, q < 4 → uM0 13 q = 1 := by
    intro q hq
    rw [m0_ne (by decide), i1_fr (by decide) (by decide) (by decide), r13]
    exact (x0_rows 4 0 mz (by decide) q).1.trans (if_pos (by omega))
  have e14 : ∀ q, q < 4 → uM0 14 q = 100 := by
    intro q hq
    rw [m0_ne (by decide), i1_fr (by decide) (by decide) (by decide), r14]
    exact (x0_rows 4 0 mz (by decide) q).2.trans (if_pos (by omega))
  have e2 : ∀ c, c < 24 → uM0 2 c = -1 := by
    intro c hc
    rw [m0_ne (by decide)]
    exact (x1_rows 24 0 mC0 (by decide) c).1.trans (if_pos (by omega))
  have e3 : ∀ c, c < 24 → uM0 3 c = -1 := by
    intro c hc
    rw [m0_ne (by decide)]
    exact (x1_rows 24 0 mC0 (by decide) c).2.1.trans (if_pos (by omega))
  have e7 : ∀ c, c < 24 → uM0 7 c = nI c := by
    intro c hc
    rw [m0_ne (by decide)]
    exact (x1_rows 24 0 mC0 (by decide) c).2.2.trans (if_pos (by omega))
  have e20 : uM0 20 0 = 400 ∧ uM0 20 1 = 0 := by
    unfold uM0
    rw [show (0 : Int32) = nI 0 from nI_0.symm, mup_nI (by decide), upd_eq, upd_ne (by decide), mR_row]
    exact ⟨rfl, rfl⟩
  have hs : s4 (uM0 14) = 400 := by
    unfold s4
    rw [e14 0 (by decide), e14 1 (by decide), e14 2 (by decide), e14 3 (by decide)]
    decide
  generalize uM0 = w at *
  refine ⟨⟨fun c hc => ⟨Or.inl (e2 c hc), Or.inl (e3 c hc)⟩, fun c hc => Or.inr (Or.inr (Or.inr ?_)), e7, fun i => by rw [e6]; exact Or.inl rfl, fun i => by rw [e9]; exact Or.inl rfl, fun i hi _ => ?_⟩, 0, Nat.le_refl _, ⟨fun q hq => ⟨1, by decide, e13 q hq⟩, fun q hq => ⟨100, by decide, e14 q hq⟩, ⟨?_, ?_⟩, ⟨?_, ?_⟩, fun i hi => ⟨0, by decide, by rw [e18]; exact nI_0.symm⟩, fun n _ hn => absurd hn (by omega)⟩, by rw [e20.2]; exact nI_0.symm⟩
  · rw [e4]; exact (show inr 0 from ⟨by decide, by decide⟩)
  · unfold CS
    unfold rX1_resultOf_v5
    dsimp only
    rw [show mrd w 1 (nI i) = 0 by unfold mrd; rw [e1], if_neg (by decide), if_neg (by decide), if_neg (by decide), show mrd w 4 (nI i) = 0 by unfold mrd; rw [e4], e5]
  · rw [hs, e15, s4_0, e20.1]; decide
  · rw [e17, e15, s4_0, s5_0]
  · rw [e16, s4_0]; exact nI_0.symm
  · rw [e8]; exact nI_0.symm
