/-! at the start -/
theorem x0_lock : ∀ (n k : Nat) (u g : vM), u 1 = g 11 → u 2 = g 12 → lpX0_init_64 n k u 1 = lpX2_init_132 n k g 11 ∧ lpX0_init_64 n k u 2 = lpX2_init_132 n k g 12 := by
  intro n
  induction n with
  | zero => intro k u g h1 h2; exact ⟨h1, h2⟩
  | succ n ih =>
    intro k u g h1 h2
    refine ih (k + 1) _ _ ?_ ?_
    · rw [mup_ne (by decide), mup_row, mup_ne (by decide), mup_row, h1]
    · rw [mup_row, mup_ne (by decide), mup_row, mup_ne (by decide), h2]
theorem x0_fr {q : Nat} (h1 : q ≠ 1) (h2 : q ≠ 2) : ∀ (n k : Nat) (u : vM), lpX0_init_64 n k u q = u q := by
  intro n
  induction n with
  | zero => intro k u; rfl
  | succ n ih =>
    intro k u
    refine (ih (k + 1) _).trans ?_
    rw [mup_ne h2, mup_ne h1]
theorem x1_fr {q : Nat} (h2 : q ≠ 2) (h3 : q ≠ 3) (h7 : q ≠ 7) : ∀ (n k : Nat) (u : vM), lpX1_init_105 n k u q = u q := by
  intro n
  induction n with
  | zero => intro k u; rfl
  | succ n ih =>
    intro k u
    refine (ih (k + 1) _).trans ?_
    rw [mup_ne h7, mup_ne h3, mup_ne h2]
theorem x2_fr {q : Nat} (h1 : q ≠ 11) (h2 : q ≠ 12) : ∀ (n k : Nat) (u : vM), lpX2_init_132 n k u q = u q := by
  intro n
  induction n with
  | zero => intro k u; rfl
  | succ n ih =>
    intro k u
    refine (ih (k + 1) _).trans ?_
    rw [mup_ne h2, mup_ne h1]
theorem x1_rows : ∀ (n k : Nat) (u : vM), k + n ≤ 24 → ∀ j, lpX1_init_105 n k u 2 j = (if k ≤ j ∧ j < k + n then -1 else u 2 j) ∧ lpX1_init_105 n k u 3 j = (if k ≤ j ∧ j < k + n then -1 else u 3 j) ∧ lpX1_init_105 n k u 7 j = (if k ≤ j ∧ j < k + n then nI j else u 7 j) := by
  intro n
  induction n with
  | zero => intro k u _ j; rw [if_neg (by omega), if_neg (by omega), if_neg (by omega)]; exact ⟨rfl, rfl, rfl⟩
  | succ n ih =>
    intro k u hk j
    have q := ih (k + 1) (mup (mup (mup u 2 (nI k) (-1)) 3 (nI k) (-1)) 7 (nI k) (nI k)) (by omega) j
    have e2 : mup (mup (mup u 2 (nI k) (-1)) 3 (nI k) (-1)) 7 (nI k) (nI k) 2 j = if j = k then -1 else u 2 j := by
      rw [mup_ne (by decide), mup_ne (by decide), mup_at, nI_clamp (by omega)]
    have e3 : mup (mup (mup u 2 (nI k) (-1)) 3 (nI k) (-1)) 7 (nI k) (nI k) 3 j = if j = k then -1 else u 3 j := by
      rw [mup_ne (by decide), mup_at, nI_clamp (by omega), mup_ne (by decide)]
    have e7 : mup (mup (mup u 2 (nI k) (-1)) 3 (nI k) (-1)) 7 (nI k) (nI k) 7 j = if j = k then nI k else u 7 j := by
      rw [mup_at, nI_clamp (by omega), mup_ne (by decide), mup_ne (by decide)]
    rw [e2, e3, e7] at q
    refine ⟨q.1.trans ?_, q.2.1.trans ?_, q.2.2.trans ?_⟩
    all_goals
      by_cases e : j = k
      · subst e
        rw [if_neg (by omega), if_pos rfl]
        exact (if_pos (by omega)).symm
      · rw [if_neg e]
        by_cases z : k ≤ j ∧ j < k + (n + 1)
        · rw [if_pos z, if_pos (by omega)]
        · rw [if_neg z, if_neg (by omega)]
theorem SM_0 (a : Int32) : ∀ n, SM a (fun _ => 0) n = 0 := by
  intro n
  induction n with
  | zero => rfl
  | succ n ih =>
    show SM a (fun _ => 0) n + (if ((nI n) - (nI n) / 24 * 24) / 6 = a then 0 else 0) = 0
    rw [ih, ite_self, Int32.add_zero]
theorem i1_fr {q : Nat} (h2 : q ≠ 2) (h3 : q ≠ 3) (h7 : q ≠ 7) : uX1_init q = mC0 q := x1_fr h2 h3 h7 24 0 mC0
theorem i2_fr {q : Nat} (h1 : q ≠ 11) (h2 : q ≠ 12) : uX2_init q = fun _ => 0 := x2_fr h1 h2 4 0 mz
theorem c0_m : mC0 1 = (fun _ => 0) ∧ mC0 4 = (fun _ => 0) ∧ mC0 5 = (fun _ => 0) ∧ mC0 6 = (fun _ => 0) ∧ mC0 9 = (fun _ => 0) ∧ mC0 12 = (fun _ => 0) := ⟨rfl, rfl, rfl, rfl, rfl, rfl⟩
theorem c0_k {q : Nat} (h1 : q ≠ 1) (h2 : q ≠ 2) : uX0_init q = fun _ => 0 := x0_fr h1 h2 4 0 mz
theorem c0_8 : mC0 8 = uX0_init 8 := rfl
theorem c0_13 : mC0 13 = uX0_init 1 := rfl
theorem c0_14 : mC0 14 = uX0_init 2 := rfl
theorem c0_15 : mC0 15 = uX0_init 3 := rfl
theorem c0_16 : mC0 16 = uX0_init 4 := rfl
theorem c0_17 : mC0 17 = uX0_init 5 := rfl
theorem c0_18 : mC0 18 = uX0_init 6 := rfl
theorem c0_19 : mC0 19 = uX0_init 7 := rfl
theorem i_lock : uX0_init 1 = uX2_init 11 ∧ uX0_init 2 = uX2_init 12 := x0_lock 4 0 mz mz rfl rfl
theorem init_QL : QL uX1_init uX2_init := by
  obtain ⟨m1, m4, m5, m6, m9, m12⟩ := c0_m
  intro p hp
  simp only [PL, List.mem_cons, List.not_mem_nil, or_false] at hp
  rcases hp with e | e | e | e | e | e | e | e | e | e | e | e <;> subst e
  · show uX1_init 1 = uX2_init 1
    rw [i1_fr (by decide) (by decide) (by decide), i2_fr (by decide) (by decide), m1]
  · show uX1_init 4 = uX2_init 4
    rw [i1_fr (by decide) (by decide) (by decide), i2_fr (by decide) (by decide), m4]
  · show uX1_init 5 = uX2_init 5
    rw [i1_fr (by decide) (by decide) (by decide), i2_fr (by decide) (by decide), m5]
  · show uX1_init 6 = uX2_init 6
    rw [i1_fr (by decide) (by decide) (by decide), i2_fr (by decide) (by decide), m6]
  · show uX1_init 8 = uX2_init 17
    rw [i1_fr (by decide) (by decide) (by decide), i2_fr (by decide) (by decide), c0_8, c0_k (by decide) (by decide)]
  · show uX1_init 9 = uX2_init 7
    rw [i1_fr (by decide) (by decide) (by decide), i2_fr (by decide) (by decide), m9]
  · show uX1_init 12 = uX2_init 8
    rw [i1_fr (by decide) (by decide) (by decide), i2_fr (by decide) (by decide), m12]
  · show uX1_init 13 = uX2_init 11
    rw [i1_fr (by decide) (by decide) (by decide), c0_13, i_lock.1]
  · show uX1_init 15 = uX2_init 13
    rw [i1_fr (by decide) (by decide) (by decide), i2_fr (by decide) (by decide), c0_15, c0_k (by decide) (by decide)]
  · show uX1_init 17 = uX2_init 14
    rw [i1_fr (by decide) (by decide) (by decide), i2_fr (by decide) (by decide), c0_17, c0_k (by decide) (by decide)]
  · show uX1_init 18 = uX2_init 16
    rw [i1_fr (by decide) (by decide) (by decide), i2_fr (by decide) (by decide), c0_18, c0_k (by decide) (by decide)]
  · show uX1_init 19 = uX2_init 15
    rw [i1_fr (by decide) (by decide) (by decide), i2_fr (by decide) (by decide), c0_19, c0_k (by decide) (by decide)]
theorem init_D : ∀ i j, ¬ D2 uX2_init i j := by
  have e : uX2_init 1 = fun _ => 0 := i2_fr (by decide) (by decide)
  rintro i j (⟨a, _⟩ | ⟨a, _⟩)
  · rw [e] at a
    exact a rfl
  · rw [e] at a
    rcases a with a | a
    · exact absurd (show (0 : Int32) = 1 from a) (by decide)
    · exact absurd (show (0 : Int32) = 2 from a) (by decide)
theorem rl_init : Rel uX1_init uX2_init := by
  have e1 : uX2_init 1 = fun _ => 0 := i2_fr (by decide) (by decide)
  have e2 : uX2_init 2 = fun _ => 0 := i2_fr (by decide) (by decide)
  have e3 : uX2_init 3 = fun _ => 0 := i2_fr (by decide) (by decide)
  have e16 : uX2_init 16 = fun _ => 0 := i2_fr (by decide) (by decide)
  have u6 : uX1_init 6 = fun _ => 0 := (i1_fr (by decide) (by decide) (by decide)).trans c0_m.2.2.2.1
  have u9 : uX1_init 9 = fun _ => 0 := (i1_fr (by decide) (by decide) (by decide)).trans c0_m.2.2.2.2.1
  have u8 : uX1_init 8 = fun _ => 0 := ((i1_fr (by decide) (by decide) (by decide)).trans c0_8).trans (c0_k (by decide) (by decide))
  have u16 : uX1_init 16 = fun _ => 0 := ((i1_fr (by decide) (by decide) (by decide)).trans c0_16).trans (c0_k (by decide) (by decide))
  have u14 : uX1_init 14 = uX2_init 12 := ((i1_fr (by decide) (by decide) (by decide)).trans c0_14).trans i_lock.2
  refine ⟨⟨init_QL, u14, fun i hi => ?_, fun i hi => ?_, fun s hs => ?_, fun i hi => ?_, ⟨0, by decide, ?_⟩, fun i => ?_, fun i => ?_⟩, ⟨fun i => i, fun i hi => ⟨?_, hi, ⟨fun m hm => ?_, fun r hr => absurd hr (init_D _ _)⟩, fun j hj q => ?_⟩⟩, ly_of (fun _ => 0) fun i hi j hd => absurd hd (init_D _ _)⟩
  · obtain ⟨r2, r3, -⟩ := x1_rows 24 0 mC0 (by decide) i
    rw [e1, if_pos rfl, if_neg (show ¬ ((0 : Int32) = 1 ∨ (0 : Int32) = 2) by decide)]
    rw [if_pos (by omega)] at r2 r3
    exact ⟨r2, r3⟩
  · rw [e1]; exact Or.inl rfl
  · rw [u16, e16, SM_0]
  · rw [e2, e3]; exact ⟨vp0, vp0⟩
  · rw [u8]; exact nI_0.symm
  · rw [u6]; exact Or.inl rfl
  · rw [u9]; exact Or.inl rfl
  · obtain ⟨-, -, r7⟩ := x1_rows 24 0 mC0 (by decide) i
    rw [if_pos (by omega)] at r7
    exact r7
  · exact Nat.ne_of_lt hm
  · exact q.1 j hj rfl
