/-! each call keeps the relation, and the answers agree -/
theorem le_lt {x N M : Int32} (h : N.toInt = M.toInt + 1) : N ≤ x ↔ M < x := by
  rw [Int32.le_iff_toInt_le, Int32.lt_iff_toInt_lt, h]
  omega
theorem in_eq {x N M : Int32} (h : N.toInt = M.toInt + 1) : (if x < 0 then (0 : Int32) else (if N ≤ x then 0 else 1)) = rX2_in x 0 M := by
  unfold rX2_in
  by_cases h1 : x < 0
  · rw [if_pos h1, if_pos h1]
  · rw [if_neg h1, if_neg h1]
    by_cases h2 : N ≤ x
    · rw [if_pos h2, if_pos ((le_lt h).mp h2)]
    · rw [if_neg h2, if_neg fun z => h2 ((le_lt h).mpr z)]
theorem isUser_eq (x : Int32) : rX1_isUser x = rX2_in x 0 4 := in_eq (by decide)
theorem isCell_eq (x : Int32) : rX1_isCell x = rX2_isCell x := in_eq (N := 24) (M := 23) (by decide)
theorem isSheet_eq (x : Int32) : rX1_isSheet x = rX2_isSheet x := in_eq (N := 4) (M := 3) (by decide)
theorem within_eq (x : Int32) : rX1_isWithin x 1000000 = rX2_in x (-1000000) 1000000 := rfl
theorem within_eq2 (x : Int32) : rX1_isWithin x 1000 = rX2_in x (-1000) 1000 := rfl
theorem within_eq3 (x : Int32) : rX1_isWithin x 100 = rX2_in x (-100) 100 := rfl
theorem caller_1 {x y : Int32} (h : rX2_in x 0 4 = 0) : rX2_isCaller x y = 0 := by
  unfold rX2_isCaller
  rw [if_pos h]
theorem caller_2 {x y : Int32} (h : ¬ rX2_in x 0 4 = 0) (h2 : rX2_isCell y = 0) : rX2_isCaller x y = 0 := by
  unfold rX2_isCaller
  rw [if_neg h, if_pos h2]
theorem caller_3 {x y : Int32} (h : ¬ rX2_in x 0 4 = 0) (h2 : ¬ rX2_isCell y = 0) : ¬ rX2_isCaller x y = 0 := by
  unfold rX2_isCaller
  rw [if_neg h, if_neg h2]
  decide
theorem mfd_mst {u : vM} {q : Nat} {x : Int32} : mfd (mst u q x) q = x := by
  unfold mfd
  rw [mst_row]
theorem Rel_18 {u g : vM} (h : Rel u g) (x : Int32) : Rel u (mst g 18 x) := Rel_fr h (fun _ _ _ => rfl) fun _ _ _ h18 => mst_ne h18
theorem vp0 : vp_in 0 24 := vp_in_nI (n := 0) (by decide) (by decide)
theorem ne10 : ¬ (1 : Int32) = 0 := by decide
theorem ne20 : ¬ (2 : Int32) = 0 := by decide
theorem rl_bad {u g : vM} {y z : Int32} (h : Rel u g) (x : Int32) (hx : ¬ x = 0) : mfd (uX2_fails g x) 18 = x ∧ (x = 0 → y = z) ∧ Rel u (uX2_fails g x) := ⟨mfd_mst, fun z => absurd z hx, Rel_18 h x⟩
theorem rl_good {u g : vM} {y z : Int32} (h : Rel u g) (e : y = z) : mfd (mst g 18 0) 18 = 0 ∧ ((0 : Int32) = 0 → y = z) ∧ Rel u (mst g 18 0) := ⟨mfd_mst, fun _ => e, Rel_18 h 0⟩
theorem mrd_18 {g : vM} {q : Nat} {x i : Int32} (h : q ≠ 18) : mrd (mst g 18 x) q i = mrd g q i := by
  unfold mrd
  rw [mst_ne h]
theorem mfd_18 {g : vM} {q : Nat} {x : Int32} (h : q ≠ 18) : mfd (mst g 18 x) q = mfd g q := by
  unfold mfd
  rw [mst_ne h]
theorem mrd_14 {u g : vM} (h : Rel u g) (i : Int32) : mrd u 14 i = mrd g 12 i := by
  unfold mrd
  rw [h.1.2.1]
theorem rl_setNumber {u g : vM} (a1 a2 a3 : Int32) (h : Rel u g) : mfd (uX2_setNumber g a1 a2 a3) 18 = xX1_setNumber u a1 a2 a3 ∧ (xX1_setNumber u a1 a2 a3 = 0 → rX1_setNumber u a1 a2 a3 = rX2_setNumber g a1 a2 a3) ∧ Rel (uX1_setNumber u a1 a2 a3) (uX2_setNumber g a1 a2 a3) := by
  have h0 := Rel_18 h 0
  unfold xX1_setNumber rX1_setNumber uX1_setNumber rX2_setNumber uX2_setNumber
  dsimp only
  rw [isUser_eq, isCell_eq, within_eq]
  by_cases c1 : rX2_in a1 0 4 = 0
  · simp only [if_pos c1, if_pos (caller_1 (y := a2) c1)]
    exact rl_bad h0 1 ne10
  · by_cases c2 : rX2_isCell a2 = 0
    · simp only [if_neg c1, if_pos c2, if_pos (caller_2 c1 c2)]
      exact rl_bad h0 1 ne10
    · by_cases c3 : rX2_in a3 (-1000000) 1000000 = 0
      · simp only [if_neg c1, if_neg c2, if_neg (caller_3 c1 c2), if_pos c3]
        exact rl_bad h0 1 ne10
      · simp only [if_neg c1, if_neg c2, if_neg (caller_3 c1 c2), if_neg c3]
        obtain ⟨a, ha, rfl⟩ := vp_in_of (vqX2_isCell c2) (by decide)
        obtain ⟨k1, k2⟩ := change_Rel h0 ha (kd := 0) (o := -1) (t := -1) (b := 0) (d := 0) (x := a3) a1 vp0 vp0 (Or.inl rfl) (by rw [if_pos rfl]) (by rw [if_neg (by decide)]) (ly_chg_number h0.2.2)
        refine ⟨?_, fun _ => k2, k1⟩
        unfold mfd
        rw [change_18, mst_row]
theorem rl_circle {u g : vM} {y z : Int32} (h : Rel u g) : mfd (uX2_fails g 2) 18 = 2 ∧ ((2 : Int32) = 0 → y = z) ∧ Rel u (uX2_fails g 2) := rl_bad h 2 ne20
theorem w_Rel {u g : vM} (h : Rel u g) (a b d : Int32) : Rel (uX1_wouldReadItself u a b d) g := Rel_fr h (fun q _ h11 => fr_uX1_wouldReadItself h11) fun _ _ _ _ => rfl
theorem rc_Rel {u g : vM} (h : Rel u g) (a b : Int32) : Rel u (uX2_reaches g a b) := Rel_fr h (fun _ _ _ => rfl) fun q _ h10 _ => fr_uX2_reaches h10
theorem two_rl {u g : vM} (h : Rel u g) (h18 : mfd g 18 = 0) {a b d : Nat} (ha : a < 24) (hb : b < 24) (hd : d < 24) (w kd x : Int32) (hk : kd = 1 ∨ kd = 2) : mfd (if rX2_reaches g (nI b) (nI a) = 0 then (if rX2_reaches (uX2_reaches g (nI b) (nI a)) (nI d) (nI a) = 0 then uX2_change (uX2_reaches (uX2_reaches g (nI b) (nI a)) (nI d) (nI a)) w (nI a) kd (nI b) (nI d) x else uX2_fails (uX2_reaches (uX2_reaches g (nI b) (nI a)) (nI d) (nI a)) 2) else uX2_fails (uX2_reaches g (nI b) (nI a)) 2) 18 = (if rX1_wouldReadItself u (nI a) (nI b) (nI d) = 0 then 0 else 2) ∧ ((if rX1_wouldReadItself u (nI a) (nI b) (nI d) = 0 then (0 : Int32) else 2) = 0 → (if rX1_wouldReadItself u (nI a) (nI b) (nI d) = 0 then rX1_giveFormula (uX1_wouldReadItself u (nI a) (nI b) (nI d)) w (nI a) kd (nI b) (nI d) x else 0) = (if rX2_reaches g (nI b) (nI a) = 0 then (if rX2_reaches (uX2_reaches g (nI b) (nI a)) (nI d) (nI a) = 0 then rX2_change (uX2_reaches (uX2_reaches g (nI b) (nI a)) (nI d) (nI a)) w (nI a) kd (nI b) (nI d) x else rX2_fails (uX2_reaches (uX2_reaches g (nI b) (nI a)) (nI d) (nI a)) 2) else rX2_fails (uX2_reaches g (nI b) (nI a)) 2)) ∧ Rel (if rX1_wouldReadItself u (nI a) (nI b) (nI d) = 0 then uX1_giveFormula (uX1_wouldReadItself u (nI a) (nI b) (nI d)) w (nI a) kd (nI b) (nI d) x else uX1_wouldReadItself u (nI a) (nI b) (nI d)) (if rX2_reaches g (nI b) (nI a) = 0 then (if rX2_reaches (uX2_reaches g (nI b) (nI a)) (nI d) (nI a) = 0 then uX2_change (uX2_reaches (uX2_reaches g (nI b) (nI a)) (nI d) (nI a)) w (nI a) kd (nI b) (nI d) x else uX2_fails (uX2_reaches (uX2_reaches g (nI b) (nI a)) (nI d) (nI a)) 2) else uX2_fails (uX2_reaches g (nI b) (nI a)) 2) := by
  have h1 := rc_Rel h (nI b) (nI a)
  have h2 := rc_Rel h1 (nI d) (nI a)
  have va : vp_in (nI a) 24 := vp_in_nI ha (by decide)
  have vb : vp_in (nI b) 24 := vp_in_nI hb (by decide)
  have vd : vp_in (nI d) 24 := vp_in_nI hd (by decide)
  have hw := wri_two (rel_fm h) h.1.2.2.1 h.2.1 (rel_fm h1) h1.1.2.2.1 h1.2.1 ha hb hd
  by_cases c1 : rX2_reaches g (nI b) (nI a) = 0
  · by_cases c2 : rX2_reaches (uX2_reaches g (nI b) (nI a)) (nI d) (nI a) = 0
    · simp only [if_pos c1, if_pos c2, if_pos (hw.mpr ⟨c1, c2⟩)]
      obtain ⟨k1, k2⟩ := change_Rel (w_Rel h2 (nI a) (nI b) (nI d)) ha (kd := kd) (o := nI b) (t := nI d) (b := nI b) (d := nI d) (x := x) w vb vd (hk.elim (fun z => Or.inr (Or.inl z)) fun z => Or.inr (Or.inr (Or.inl z))) (by rw [if_neg (k12_ne0 hk)]) (by rw [if_pos hk]) (ly_chg_two (rel_fm h) h.2.2 va vb vd c1 rfl c2 rfl)
      refine ⟨?_, fun _ => k2, k1⟩
      unfold mfd at h18 ⊢
      rw [change_18, fr_uX2_reaches (by decide), fr_uX2_reaches (by decide), h18]
    · have hn : ¬ rX1_wouldReadItself u (nI a) (nI b) (nI d) = 0 := fun z => c2 (hw.mp z).2
      simp only [if_pos c1, if_neg c2, if_neg hn]
      exact rl_circle (w_Rel h2 (nI a) (nI b) (nI d))
  · have hn : ¬ rX1_wouldReadItself u (nI a) (nI b) (nI d) = 0 := fun z => c1 (hw.mp z).1
    simp only [if_neg c1, if_neg hn]
    exact rl_circle (w_Rel h1 (nI a) (nI b) (nI d))
theorem rl_setSum {u g : vM} (a1 a2 a3 a4 a5 : Int32) (h : Rel u g) : mfd (uX2_setSum g a1 a2 a3 a4 a5) 18 = xX1_setSum u a1 a2 a3 a4 a5 ∧ (xX1_setSum u a1 a2 a3 a4 a5 = 0 → rX1_setSum u a1 a2 a3 a4 a5 = rX2_setSum g a1 a2 a3 a4 a5) ∧ Rel (uX1_setSum u a1 a2 a3 a4 a5) (uX2_setSum g a1 a2 a3 a4 a5) := by
  have h0 := Rel_18 h 0
  unfold xX1_setSum rX1_setSum uX1_setSum rX2_setSum uX2_setSum
  dsimp only
  rw [isUser_eq, isCell_eq, isCell_eq, isCell_eq, within_eq2]
  by_cases c1 : rX2_in a1 0 4 = 0
  · simp only [if_pos c1, if_pos (caller_1 (y := a2) c1)]
    exact rl_bad h0 1 ne10
  · by_cases c2 : rX2_isCell a2 = 0
    · simp only [if_neg c1, if_pos c2, if_pos (caller_2 c1 c2)]
      exact rl_bad h0 1 ne10
    · by_cases c3 : rX2_isCell a3 = 0
      · simp only [if_neg c1, if_neg c2, if_neg (caller_3 c1 c2), if_pos c3]
        exact rl_bad h0 1 ne10
      · by_cases c4 : rX2_isCell a4 = 0
        · simp only [if_neg c1, if_neg c2, if_neg (caller_3 c1 c2), if_neg c3, if_pos c4]
          exact rl_bad h0 1 ne10
        · by_cases c5 : rX2_in a5 (-1000) 1000 = 0
          · simp only [if_neg c1, if_neg c2, if_neg (caller_3 c1 c2), if_neg c3, if_neg c4, if_pos c5]
            exact rl_bad h0 1 ne10
          · simp only [if_neg c1, if_neg c2, if_neg (caller_3 c1 c2), if_neg c3, if_neg c4, if_neg c5]
            obtain ⟨a, ha, rfl⟩ := vp_in_of (vqX2_isCell c2) (by decide)
            obtain ⟨b, hb, rfl⟩ := vp_in_of (vqX2_isCell c3) (by decide)
            obtain ⟨d, hd, rfl⟩ := vp_in_of (vqX2_isCell c4) (by decide)
            exact two_rl h0 mfd_mst ha hb hd a1 1 a5 (Or.inl rfl)
theorem rl_setGreater {u g : vM} (a1 a2 a3 a4 : Int32) (h : Rel u g) : mfd (uX2_setGreater g a1 a2 a3 a4) 18 = xX1_setGreater u a1 a2 a3 a4 ∧ (xX1_setGreater u a1 a2 a3 a4 = 0 → rX1_setGreater u a1 a2 a3 a4 = rX2_setGreater g a1 a2 a3 a4) ∧ Rel (uX1_setGreater u a1 a2 a3 a4) (uX2_setGreater g a1 a2 a3 a4) := by
  have h0 := Rel_18 h 0
  unfold xX1_setGreater rX1_setGreater uX1_setGreater rX2_setGreater uX2_setGreater
  dsimp only
  rw [isUser_eq, isCell_eq, isCell_eq, isCell_eq]
  by_cases c1 : rX2_in a1 0 4 = 0
  · simp only [if_pos c1, if_pos (caller_1 (y := a2) c1)]
    exact rl_bad h0 1 ne10
  · by_cases c2 : rX2_isCell a2 = 0
    · simp only [if_neg c1, if_pos c2, if_pos (caller_2 c1 c2)]
      exact rl_bad h0 1 ne10
    · by_cases c3 : rX2_isCell a3 = 0
      · simp only [if_neg c1, if_neg c2, if_neg (caller_3 c1 c2), if_pos c3]
        exact rl_bad h0 1 ne10
      · by_cases c4 : rX2_isCell a4 = 0
        · simp only [if_neg c1, if_neg c2, if_neg (caller_3 c1 c2), if_neg c3, if_pos c4]
          exact rl_bad h0 1 ne10
        · simp only [if_neg c1, if_neg c2, if_neg (caller_3 c1 c2), if_neg c3, if_neg c4]
          obtain ⟨a, ha, rfl⟩ := vp_in_of (vqX2_isCell c2) (by decide)
          obtain ⟨b, hb, rfl⟩ := vp_in_of (vqX2_isCell c3) (by decide)
          obtain ⟨d, hd, rfl⟩ := vp_in_of (vqX2_isCell c4) (by decide)
          exact two_rl h0 mfd_mst ha hb hd a1 2 0 (Or.inr rfl)
theorem rl_setTimes {u g : vM} (a1 a2 a3 a4 : Int32) (h : Rel u g) : mfd (uX2_setTimes g a1 a2 a3 a4) 18 = xX1_setTimes u a1 a2 a3 a4 ∧ (xX1_setTimes u a1 a2 a3 a4 = 0 → rX1_setTimes u a1 a2 a3 a4 = rX2_setTimes g a1 a2 a3 a4) ∧ Rel (uX1_setTimes u a1 a2 a3 a4) (uX2_setTimes g a1 a2 a3 a4) := by
  have h0 := Rel_18 h 0
  unfold xX1_setTimes rX1_setTimes uX1_setTimes rX2_setTimes uX2_setTimes
  dsimp only
  rw [isUser_eq, isCell_eq, isCell_eq, within_eq3]
  by_cases c1 : rX2_in a1 0 4 = 0
  · simp only [if_pos c1, if_pos (caller_1 (y := a2) c1)]
    exact rl_bad h0 1 ne10
  · by_cases c2 : rX2_isCell a2 = 0
    · simp only [if_neg c1, if_pos c2, if_pos (caller_2 c1 c2)]
      exact rl_bad h0 1 ne10
    · by_cases c3 : rX2_isCell a3 = 0
      · simp only [if_neg c1, if_neg c2, if_neg (caller_3 c1 c2), if_pos c3]
        exact rl_bad h0 1 ne10
      · by_cases c4 : rX2_in a4 (-100) 100 = 0
        · simp only [if_neg c1, if_neg c2, if_neg (caller_3 c1 c2), if_neg c3, if_pos c4]
          exact rl_bad h0 1 ne10
        · simp only [if_neg c1, if_neg c2, if_neg (caller_3 c1 c2), if_neg c3, if_neg c4]
          have va := vqX2_isCell c2
          have vb := vqX2_isCell c3
          obtain ⟨a, ha, rfl⟩ := vp_in_of va (by decide)
          obtain ⟨b, hb, rfl⟩ := vp_in_of vb (by decide)
          have h1 := rc_Rel h0 (nI b) (nI a)
          have hw := wri_one (rel_fm h0) h0.1.2.2.1 h0.2.1 ha hb
          by_cases c5 : rX2_reaches (mst g 18 0) (nI b) (nI a) = 0
          · simp only [if_pos c5, if_pos (hw.mpr c5)]
            obtain ⟨k1, k2⟩ := change_Rel (w_Rel h1 (nI a) (nI b) (-1)) ha (kd := 3) (o := nI b) (t := -1) (b := nI b) (d := nI b) (x := a4) a1 vb vb (Or.inr (Or.inr (Or.inr rfl))) (by rw [if_neg (by decide)]) (by rw [if_neg (by decide)]) (ly_chg_one (rel_fm h0) h0.2.2 va vb c5 rfl)
            refine ⟨?_, fun _ => k2, k1⟩
            unfold mfd
            rw [change_18, fr_uX2_reaches (by decide), mst_row]
          · simp only [if_neg c5, if_neg fun z => c5 (hw.mp z)]
            exact rl_circle (w_Rel h1 (nI a) (nI b) (-1))
theorem rl_refresh {u g : vM} (a1 : Int32) (h : Rel u g) : mfd (uX2_refresh g a1) 18 = xX1_refresh u a1 ∧ (xX1_refresh u a1 = 0 → rX1_refresh u a1 = rX2_refresh g a1) ∧ Rel (uX1_refresh u a1) (uX2_refresh g a1) := by
  have h0 := Rel_18 h 0
  unfold xX1_refresh rX1_refresh uX1_refresh rX2_refresh uX2_refresh
  dsimp only
  rw [isUser_eq]
  by_cases c1 : rX2_in a1 0 4 = 0
  · simp only [if_pos c1]
    exact rl_bad h0 1 ne10
  · simp only [if_neg c1]
    obtain ⟨k1, k2⟩ := go_Rel (fo2_Rel h0) a1 1
    refine ⟨?_, fun _ => k2, k1⟩
    unfold mfd
    rw [fr_uX2_goThrough (by decide) (by decide) (by decide) (by decide) (by decide) (by decide) (by decide) (by decide) (by decide) (by decide) (by decide), fr_lpX2_refresh_22 (by decide), mst_row]
theorem rl_setPrice {u g : vM} (a1 a2 : Int32) (h : Rel u g) : mfd (uX2_setPrice g a1 a2) 18 = xX1_setPrice u a1 a2 ∧ (xX1_setPrice u a1 a2 = 0 → rX1_setPrice u a1 a2 = rX2_setPrice g a1 a2) ∧ Rel (uX1_setPrice u a1 a2) (uX2_setPrice g a1 a2) := by
  have h0 := Rel_18 h 0
  unfold xX1_setPrice rX1_setPrice uX1_setPrice rX2_setPrice uX2_setPrice rX2_in
  dsimp only
  rw [isSheet_eq]
  by_cases c1 : rX2_isSheet a1 = 0
  · simp only [if_pos c1]
    exact rl_bad h0 1 ne10
  · by_cases c2 : a2 < 0
    · simp only [if_neg c1, if_pos c2, if_pos (rfl : (0 : Int32) = 0)]
      exact rl_bad h0 1 ne10
    · by_cases c3 : a2 ≤ 100
      · have c4 : ¬ (100 : Int32) < a2 := by
          rw [Int32.le_iff_toInt_le] at c3
          rw [Int32.lt_iff_toInt_lt]
          omega
        simp only [if_neg c1, if_neg c2, if_pos c3, if_neg c4, if_neg ne10]
        refine ⟨?_, fun _ => by rw [QL_mrd 13 11 h0.1.1], Rel_of h0 (CR_up (by decide) h0.1 (fun _ => rfl) (fun z => absurd z (by decide))) (mup_ne (by decide)) (mup_ne (by decide)) (mup_ne (by decide)) (mup_ne (by decide))⟩
        unfold mfd
        rw [mup_ne (by decide), mst_row]
      · have c4 : (100 : Int32) < a2 := by
          rw [Int32.le_iff_toInt_le] at c3
          rw [Int32.lt_iff_toInt_lt]
          omega
        simp only [if_neg c1, if_neg c2, if_neg c3, if_pos c4, if_pos (rfl : (0 : Int32) = 0)]
        exact rl_bad h0 1 ne10
theorem rl_grant {u g : vM} (a1 a2 : Int32) (h : Rel u g) : mfd (uX2_grant g a1 a2) 18 = xX1_grant u a1 a2 ∧ (xX1_grant u a1 a2 = 0 → rX1_grant u a1 a2 = rX2_grant g a1 a2) ∧ Rel (uX1_grant u a1 a2) (uX2_grant g a1 a2) := by
  have h0 := Rel_18 h 0
  unfold xX1_grant rX1_grant uX1_grant rX2_grant uX2_grant rX2_in
  dsimp only
  rw [isSheet_eq]
  by_cases c1 : rX2_isSheet a1 = 0
  · simp only [if_pos c1]
    exact rl_bad h0 1 ne10
  · by_cases c2 : a2 < 1
    · simp only [if_neg c1, if_pos c2, if_pos (rfl : (0 : Int32) = 0)]
      exact rl_bad h0 1 ne10
    · by_cases c3 : a2 ≤ 10000
      · have c4 : ¬ (10000 : Int32) < a2 := by
          rw [Int32.le_iff_toInt_le] at c3
          rw [Int32.lt_iff_toInt_lt]
          omega
        simp only [if_neg c1, if_neg c2, if_pos c3, if_neg c4, if_neg ne10]
        have e : mrd u 14 a1 = mrd (mst g 18 0) 12 a1 := mrd_14 h0 a1
        refine ⟨?_, fun _ => ?_, ?_, ?_, ?_⟩
        · unfold mfd
          rw [mup_ne (by decide), mst_row]
        · unfold mrd
          rw [mup_row, mup_row, upd_at, upd_at, if_pos rfl, if_pos rfl]
          exact congrArg (· + a2) e
        · obtain ⟨hQ, hB, hO, hK, hS, hf, hk, h6, h9⟩ := h0.1
          refine ⟨QL_R (by decide) (QL_L (by decide) hQ), ?_, RO_fr (mup_ne (by decide)) (mup_ne (by decide)) (mup_ne (by decide)) (mup_ne (by decide)) (mup_ne (by decide)) hO, ?_, ?_, fm_congr (mup_ne (by decide)) (mup_ne (by decide)) hf, kc_congr (mup_ne (by decide)) hk, bo_fr (mup_ne (by decide)) h6, bo_fr (mup_ne (by decide)) h9⟩
          · rw [mup_row, mup_row, e, hB]
          · intro i hi
            rw [mup_ne (by decide)]
            exact hK i hi
          · intro s hs
            rw [mup_ne (by decide), mup_ne (by decide)]
            exact hS s hs
        · rw [D2_congr (u := mst g 18 0) (mup_ne (by decide)) (mup_ne (by decide)) (mup_ne (by decide)), mup_ne (by decide)]
          exact h0.2.1
        · exact ly_congr (mup_ne (by decide)) (mup_ne (by decide)) (mup_ne (by decide)) h0.2.2
      · have c4 : (10000 : Int32) < a2 := by
          rw [Int32.le_iff_toInt_le] at c3
          rw [Int32.lt_iff_toInt_lt]
          omega
        simp only [if_neg c1, if_neg c2, if_neg c3, if_pos c4, if_pos (rfl : (0 : Int32) = 0)]
        exact rl_bad h0 1 ne10
theorem rl_budget {u g : vM} (a1 : Int32) (h : Rel u g) : mfd (uX2_budget g a1) 18 = xX1_budget u a1 ∧ (xX1_budget u a1 = 0 → rX1_budget u a1 = rX2_budget g a1) ∧ Rel u (uX2_budget g a1) := by
  unfold xX1_budget rX1_budget rX2_budget uX2_budget
  dsimp only
  rw [isSheet_eq]
  by_cases c1 : rX2_isSheet a1 = 0
  · simp only [if_pos c1]
    exact rl_bad (Rel_18 h 0) 1 ne10
  · simp only [if_neg c1]
    refine ⟨mfd_mst, fun _ => ?_, Rel_18 h 0⟩
    rw [mrd_14 h, mrd_18 (by decide)]
theorem rl_earned {u g : vM} (a1 : Int32) (h : Rel u g) : mfd (uX2_earned g a1) 18 = xX1_earned u a1 ∧ (xX1_earned u a1 = 0 → rX1_earned u a1 = rX2_earned g a1) ∧ Rel u (uX2_earned g a1) := by
  unfold xX1_earned rX1_earned rX2_earned uX2_earned
  dsimp only
  rw [isSheet_eq]
  by_cases c1 : rX2_isSheet a1 = 0
  · simp only [if_pos c1]
    exact rl_bad (Rel_18 h 0) 1 ne10
  · simp only [if_neg c1]
    refine ⟨mfd_mst, fun _ => ?_, Rel_18 h 0⟩
    rw [QL_mrd 15 13 h.1.1, mrd_18 (by decide)]
theorem rl_caused {u g : vM} (a1 : Int32) (h : Rel u g) : mfd (uX2_caused g a1) 18 = xX1_caused u a1 ∧ (xX1_caused u a1 = 0 → rX1_caused u a1 = rX2_caused g a1) ∧ Rel u (uX2_caused g a1) := by
  unfold xX1_caused rX1_caused rX2_caused uX2_caused
  dsimp only
  rw [isUser_eq]
  by_cases c1 : rX2_in a1 0 4 = 0
  · simp only [if_pos c1]
    exact rl_bad (Rel_18 h 0) 1 ne10
  · simp only [if_neg c1]
    refine ⟨mfd_mst, fun _ => ?_, Rel_18 h 0⟩
    rw [QL_mrd 17 14 h.1.1, mrd_18 (by decide)]
theorem rl_value {u g : vM} (a1 : Int32) (h : Rel u g) : mfd (uX2_value g a1) 18 = xX1_value u a1 ∧ (xX1_value u a1 = 0 → rX1_value u a1 = rX2_value g a1) ∧ Rel u (uX2_value g a1) := by
  unfold xX1_value rX1_value rX2_value uX2_value
  dsimp only
  rw [isCell_eq]
  by_cases c1 : rX2_isCell a1 = 0
  · simp only [if_pos c1]
    exact rl_bad (Rel_18 h 0) 1 ne10
  · simp only [if_neg c1]
    refine ⟨mfd_mst, fun _ => ?_, Rel_18 h 0⟩
    rw [QL_mrd 5 5 h.1.1, mrd_18 (by decide)]
theorem rl_isMarked {u g : vM} (a1 : Int32) (h : Rel u g) : mfd (uX2_isMarked g a1) 18 = xX1_isMarked u a1 ∧ (xX1_isMarked u a1 = 0 → rX1_isMarked u a1 = rX2_isMarked g a1) ∧ Rel u (uX2_isMarked g a1) := by
  unfold xX1_isMarked rX1_isMarked rX2_isMarked uX2_isMarked
  dsimp only
  rw [isCell_eq]
  by_cases c1 : rX2_isCell a1 = 0
  · simp only [if_pos c1]
    exact ⟨mfd_mst, fun _ => trivial, Rel_18 (Rel_18 h 0) 1⟩
  · simp only [if_neg c1]
    refine ⟨mfd_mst, fun _ => ?_, Rel_18 h 0⟩
    rw [mrd_18 (by decide), ← QL_mrd 6 6 h.1.1]
    rcases rel_bo h a1.toNatClampNeg with q | q
    · have q : mrd u 6 a1 = 0 := q
      rw [q, if_neg (by decide)]
    · have q : mrd u 6 a1 = 1 := q
      rw [q, if_pos rfl]
theorem va_loop : ∀ (n k : Nat) (u g : vM), k + n ≤ 24 → CR u g → (∀ i, i < 24 → ∃ c, c < 24 ∧ u 7 i = nI c ∧ g 9 i = nI c) → CR (lpX1_valueAnew_19 n k u) (lpX2_valueAnew_24 n k g) := by
  intro n
  induction n with
  | zero => intro k u g _ h _; exact h
  | succ n ih =>
    intro k u g hk h ho
    obtain ⟨c, hc, e1, e2⟩ := ho k (by omega)
    have m1 : mrd u 7 (nI k) = nI c := by rw [mrd_nI (by omega)]; exact e1
    have m2 : mrd g 9 (nI k) = nI c := by rw [mrd_nI (by omega)]; exact e2
    unfold lpX1_valueAnew_19 lpX2_valueAnew_24
    dsimp only
    rw [m1, m2, if_neg (show ¬ rX1_isCell (nI c) = 0 by rw [cell1_all c hc]; decide)]
    refine ih (k + 1) _ _ (by omega) (CR_up (by decide) h (fun _ => res12 h.1 h.2.2.1 h.2.2.2.1 h.2.2.2.2.2.1 hc) fun z => absurd z (by decide)) fun i hi => ?_
    rw [mup_ne (by decide), mup_ne (by decide)]
    exact ho i hi
theorem rl_valueAnew {u g : vM} (a1 : Int32) (h : Rel u g) : mfd (uX2_valueAnew g a1) 18 = xX1_valueAnew u a1 ∧ (xX1_valueAnew u a1 = 0 → rX1_valueAnew u a1 = rX2_valueAnew g a1) ∧ Rel (uX1_valueAnew u a1) (uX2_valueAnew g a1) := by
  have h0 := Rel_18 h 0
  unfold xX1_valueAnew rX1_valueAnew uX1_valueAnew rX2_valueAnew uX2_valueAnew
  dsimp only
  rw [isCell_eq]
  by_cases c1 : rX2_isCell a1 = 0
  · simp only [if_pos c1]
    exact rl_bad h0 1 ne10
  · simp only [if_neg c1]
    obtain ⟨k1, k2⟩ := lo_Rel h0
    have k3 := va_loop 24 0 u _ (by decide) k1.1 k2
    refine ⟨?_, fun _ => QL_mrd 12 8 k3.1 a1, Rel_of k1 k3 (fr_lpX1_valueAnew_19 (by decide)) (fr_lpX2_valueAnew_24 (by decide)) (fr_lpX2_valueAnew_24 (by decide)) (fr_lpX2_valueAnew_24 (by decide))⟩
    unfold mfd
    rw [fr_lpX2_valueAnew_24 (by decide), fr_uX2_layOrder (by decide) (by decide), mst_row]
theorem rl_reading {u g : vM} (a1 : Int32) (h : Rel u g) : mfd (uX2_reading g a1) 18 = xX1_reading u a1 ∧ (xX1_reading u a1 = 0 → rX1_reading u a1 = rX2_reading g a1) ∧ Rel u (uX2_reading g a1) := by
  have h0 := Rel_18 h 0
  obtain ⟨j, hj, e⟩ := rel_kc2 h
  have e1 : mfd (mst g 18 0) 17 = nI j := by
    rw [mfd_18 (by decide)]
    exact e
  have e2 : mfd u 8 = nI j := by
    rw [QL_mfd 8 17 h.1.1]
    exact e
  unfold xX1_reading rX1_reading rX2_reading uX2_reading rX2_in
  dsimp only
  rw [e1, e2]
  have ej : (nI j).toInt = (j : Int) := nI_toInt (by omega)
  have ej1 : (nI j - 1).toInt = (j : Int) - 1 := by
    cases j with
    | zero => decide
    | succ j => rw [nI_pred, nI_toInt (by omega)]; omega
  by_cases c1 : a1 < 0
  · simp only [if_pos c1, if_pos (rfl : (0 : Int32) = 0)]
    exact rl_bad h0 1 ne10
  · by_cases c2 : nI j ≤ a1
    · have c3 : nI j - 1 < a1 := by
        rw [Int32.le_iff_toInt_le] at c2
        rw [Int32.lt_iff_toInt_lt]
        omega
      simp only [if_neg c1, if_pos c2, if_pos c3, if_pos (rfl : (0 : Int32) = 0)]
      exact rl_bad h0 1 ne10
    · have c3 : ¬ nI j - 1 < a1 := by
        rw [Int32.le_iff_toInt_le] at c2
        rw [Int32.lt_iff_toInt_lt]
        omega
      have c4 : a1 < 500 := by
        rw [Int32.le_iff_toInt_le] at c2
        rw [Int32.lt_iff_toInt_lt]
        have : (500 : Int32).toInt = 500 := by decide
        omega
      simp only [if_neg c1, if_neg c2, if_neg c3, if_pos c4, if_neg ne10]
      refine ⟨mfd_mst, fun _ => ?_, Rel_18 h 0⟩
      rw [QL_mrd 19 15 h0.1.1]
theorem rl_timesRead {u g : vM} (a1 a2 : Int32) (h : Rel u g) : mfd (uX2_timesRead g a1 a2) 18 = xX1_timesRead u a1 a2 ∧ (xX1_timesRead u a1 a2 = 0 → rX1_timesRead u a1 a2 = rX2_timesRead g a1 a2) ∧ Rel u (uX2_timesRead g a1 a2) := by
  have h0 := Rel_18 h 0
  unfold xX1_timesRead rX1_timesRead rX2_timesRead uX2_timesRead
  dsimp only
  rw [isCell_eq, isCell_eq]
  by_cases c1 : rX2_isCell a1 = 0
  · simp only [if_pos c1]
    exact rl_bad h0 1 ne10
  · by_cases c2 : rX2_isCell a2 = 0
    · simp only [if_neg c1, if_pos c2]
      exact rl_bad h0 1 ne10
    · simp only [if_neg c1, if_neg c2]
      refine ⟨mfd_mst, fun _ => ?_, Rel_18 h 0⟩
      rw [Int32.mul_comm, QL_mrd 18 16 h0.1.1]
theorem rl_readOf {u g : vM} (a1 : Int32) (h : Rel u g) : mfd (uX2_readOf g a1) 18 = xX1_readOf u a1 ∧ (xX1_readOf u a1 = 0 → rX1_readOf u a1 = rX2_readOf g a1) ∧ Rel u (uX2_readOf g a1) := by
  have h0 := Rel_18 h 0
  unfold xX1_readOf rX1_readOf rX2_readOf uX2_readOf
  dsimp only
  rw [isSheet_eq]
  by_cases c1 : rX2_isSheet a1 = 0
  · simp only [if_pos c1]
    exact rl_bad h0 1 ne10
  · simp only [if_neg c1]
    refine ⟨mfd_mst, fun _ => ?_, Rel_18 h 0⟩
    obtain ⟨s, hs, rfl⟩ := vp_in_of (vqX2_isSheet c1) (by decide)
    rw [SM_lp (nI s) (mst g 18 0) 576 0 0 (by decide) rfl]
    have := h0.1.2.2.2.2.1 s hs
    unfold mrd
    rw [nI_clamp (by omega)]
    exact this
theorem rl_readings {u g : vM} (h : Rel u g) : rX1_readings u = rX2_readings g ∧ Rel u (uX2_readings g) := by
  refine ⟨?_, Rel_18 h 0⟩
  show mfd u 8 = mfd (mst g 18 0) 17
  rw [mfd_18 (by decide), QL_mfd 8 17 h.1.1]
