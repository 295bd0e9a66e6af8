/-! the order is that of the numbers; no cell reads itself -/
theorem mup_at {u : vM} {q : Nat} {i x : Int32} {j : Nat} : mup u q i x q j = if j = i.toNatClampNeg then x else u q j := by rw [mup_row, upd_at]
theorem c_clear : ∀ (n k : Nat) (u : vM), k + n ≤ 24 → ∀ j, (lpX1_putInOrder_2 n k u) 10 j = if k ≤ j ∧ j < k + n then 0 else u 10 j := by
  intro n
  induction n with
  | zero => intro k u _ j; rw [if_neg (by omega)]; rfl
  | succ n ih =>
    intro k u hk j
    show lpX1_putInOrder_2 n (k + 1) (mup u 10 (nI k) 0) 10 j = _
    rw [ih (k + 1) _ (by omega) j, mup_at, nI_clamp (by omega)]
    by_cases e : j = k
    · rw [if_neg (by omega), if_pos e, if_pos (by omega)]
    · rw [if_neg e]
      by_cases q : k ≤ j ∧ j < k + (n + 1)
      · rw [if_pos q, if_pos (by omega)]
      · rw [if_neg q, if_neg (by omega)]
theorem isReady_ok {u : vM} {x : Int32} {k : Nat} (hk : k < 24) (hx : rdw x k) (h : ∀ j, j < k → u 10 j = 1) : rX1_isReady u x = 1 := by
  rcases hx with rfl | ⟨j, hj, rfl⟩
  · unfold rX1_isReady
    rw [if_pos rfl]
  · have e : rX1_isIn_v10 u (nI j) = 1 := by
      unfold rX1_isIn_v10
      rw [if_neg (nI_pos (by omega)), if_neg (in_nle (vp_in_nI (show j < 24 by omega) (by decide))), mrd_nI (by omega), h j hj, if_neg c10]
    unfold rX1_isReady
    rw [if_neg (fun q => m1_ne (show j < 24 by omega) q.symm), e, if_neg c10]
theorem lowest_k {u : vM} {k : Nat} (hk : k < 24) (hF : FS u) (h : ∀ j, j < k → u 10 j = 1) (h0 : u 10 k = 0) : ∀ (n j : Nat), j + n = 24 → j ≤ k → lpX1_lowestFreeCell_2 u n j = nI k := by
  intro n
  induction n with
  | zero => intro j hj hjk; omega
  | succ n ih =>
    intro j hj hjk
    unfold lpX1_lowestFreeCell_2
    rw [mrd_nI (by omega)]
    by_cases z : j = k
    · subst z
      rw [h0, if_pos rfl, mrd_nI (by omega), mrd_nI (by omega), isReady_ok hk (hF j hk).1 h, if_neg c10, isReady_ok hk (hF j hk).2 h, if_neg c10]
    · rw [h j (by omega), if_neg c10]
      exact ih (j + 1) (by omega) (by omega)
theorem order_loop : ∀ (n k : Nat) (u : vM), k + n = 24 → FS u → (∀ j, j < k → u 7 j = nI j ∧ u 10 j = 1) → (∀ j, k ≤ j → j < 24 → u 10 j = 0) → OD (lpX1_putInOrder_23 n k u) := by
  intro n
  induction n with
  | zero => intro k u hk hF h h0 c hc; exact (h c (by omega)).1
  | succ n ih =>
    intro k u hk hF h h0
    have hk24 : k < 24 := by omega
    have hcl : (nI k).toNatClampNeg = k := nI_clamp (by omega)
    unfold lpX1_putInOrder_23
    dsimp only
    have e : rX1_lowestFreeCell u = nI k := lowest_k hk24 hF (fun j hj => (h j hj).2) (h0 k (Nat.le_refl _) hk24) 24 0 rfl (Nat.zero_le _)
    rw [e, cell1_nI hk24, if_neg c10]
    refine ih (k + 1) _ (by omega) (FS_fr (by rw [mup_ne (by decide), mup_ne (by decide)]) (by rw [mup_ne (by decide), mup_ne (by decide)]) hF) (fun j hj => ?_) (fun j hj hj2 => ?_)
    · rw [mup_ne (show (7 : Nat) ≠ 10 by decide), mup_at, mup_at, mup_ne (show (10 : Nat) ≠ 7 by decide), hcl]
      by_cases z : j = k
      · rw [if_pos z, if_pos z, z]
        exact ⟨rfl, rfl⟩
      · rw [if_neg z, if_neg z]
        exact h j (by omega)
    · rw [mup_at, mup_ne (show (10 : Nat) ≠ 7 by decide), hcl, if_neg (by omega)]
      exact h0 j (by omega) hj2
theorem order_id {u : vM} (hF : FS u) : OD (uX1_putInOrder u) := by
  unfold uX1_putInOrder
  dsimp only
  refine order_loop 24 0 _ rfl (FS_fr (fr_lpX1_putInOrder_2 (by decide)) (fr_lpX1_putInOrder_2 (by decide)) hF) (fun j hj => absurd hj (Nat.not_lt_zero _)) (fun j _ hj => ?_)
  rw [c_clear 24 0 u (by decide) j, if_pos (by omega)]
theorem f_clear : ∀ (n k : Nat) (u : vM), k + n ≤ 24 → ∀ j, (lpX1_forgetChanges_2 n k u) 9 j = if k ≤ j ∧ j < k + n then 0 else u 9 j := by
  intro n
  induction n with
  | zero => intro k u _ j; rw [if_neg (by omega)]; rfl
  | succ n ih =>
    intro k u hk j
    show lpX1_forgetChanges_2 n (k + 1) (mup u 9 (nI k) 0) 9 j = _
    rw [ih (k + 1) _ (by omega) j, mup_at, nI_clamp (by omega)]
    by_cases e : j = k
    · rw [if_neg (by omega), if_pos e, if_pos (by omega)]
    · rw [if_neg e]
      by_cases q : k ≤ j ∧ j < k + (n + 1)
      · rw [if_pos q, if_pos (by omega)]
      · rw [if_neg q, if_neg (by omega)]
theorem forget_0 {u : vM} {j : Nat} (h : j < 24) : uX1_forgetChanges u 9 j = 0 := by
  unfold uX1_forgetChanges
  rw [f_clear 24 0 u (by decide) j, if_pos (by omega)]
theorem forget_bo {u : vM} (h : bo u 9) : bo (uX1_forgetChanges u) 9 := by
  intro j
  unfold uX1_forgetChanges
  rw [f_clear 24 0 u (by decide) j]
  split
  · exact Or.inl rfl
  · exact h j
theorem w_clear (a : Int32) : ∀ (n k : Nat) (u : vM), k + n ≤ 24 → ∀ j, (lpX1_wouldReadItself_3 a n k u) 11 j = if k ≤ j ∧ j < k + n then (if nI j = a then 1 else 0) else u 11 j := by
  intro n
  induction n with
  | zero => intro k u _ j; rw [if_neg (by omega)]; rfl
  | succ n ih =>
    intro k u hk j
    show lpX1_wouldReadItself_3 a n (k + 1) (mup u 11 (nI k) (if nI k = a then 1 else 0)) 11 j = _
    rw [ih (k + 1) _ (by omega) j, mup_at, nI_clamp (by omega)]
    by_cases e : j = k
    · rw [if_neg (by omega), if_pos e, e]
      exact (if_pos (by omega)).symm
    · rw [if_neg e]
      by_cases q : k ≤ j ∧ j < k + (n + 1)
      · rw [if_pos q, if_pos (by omega)]
      · rw [if_neg q, if_neg (by omega)]
theorem isIn11_nI {u : vM} {j : Nat} (h : j < 24) : rX1_isIn_v11 u (nI j) = 0 ↔ u 11 j = 0 := by
  unfold rX1_isIn_v11
  rw [if_neg (nI_pos (by omega)), if_neg (in_nle (vp_in_nI h (by decide))), mrd_nI (by omega)]
  by_cases z : u 11 j = 0
  · rw [if_pos z]; exact ⟨fun _ => z, fun _ => rfl⟩
  · rw [if_neg z]; exact ⟨fun q => absurd q c10, fun q => absurd q z⟩
theorem isIn11_m1 {u : vM} : rX1_isIn_v11 u (-1) = 0 := by unfold rX1_isIn_v11; rw [if_pos (by decide)]
theorem isIn11_rdw {u : vM} {x : Int32} {c : Nat} (hc : c < 24) (hx : rdw x c) (h : ∀ j, j < c → u 11 j = 0) : rX1_isIn_v11 u x = 0 := by
  rcases hx with rfl | ⟨j, hj, rfl⟩
  · exact isIn11_m1
  · exact (isIn11_nI (by omega)).mpr (h j hj)
theorem w_low {c : Nat} (hc : c < 24) : ∀ (n k : Nat) (u : vM), k + n = 24 → FS u → OD u → (∀ j, j < c → u 11 j = 0) → ∀ j, j < c → lpX1_wouldReadItself_37 n k u 11 j = 0 := by
  intro n
  induction n with
  | zero => intro k u hk hF hO h; exact h
  | succ n ih =>
    intro k u hk hF hO h
    have hk24 : k < 24 := by omega
    unfold lpX1_wouldReadItself_37
    dsimp only
    rw [od_mrd hO hk24, cell1_nI hk24, if_neg c10]
    by_cases z : rX1_readsOneOf_v11 u (nI k) = 0
    · rw [if_pos z]
      exact ih (k + 1) u (by omega) hF hO h
    · rw [if_neg z]
      refine ih (k + 1) _ (by omega) (FS_fr (mup_ne (by decide)) (mup_ne (by decide)) hF) (OD_fr (mup_ne (by decide)) hO) (fun j hj => ?_)
      rw [mup_at, nI_clamp (by omega)]
      by_cases q : j = k
      · exfalso
        apply z
        have hlow : ∀ i, i < k → u 11 i = 0 := fun i hi => h i (by omega)
        unfold rX1_readsOneOf_v11
        rw [mrd_nI (by omega), mrd_nI (by omega), if_pos (isIn11_rdw hk24 (hF k hk24).1 hlow), if_pos (isIn11_rdw hk24 (hF k hk24).2 hlow)]
      · rw [if_neg q]
        exact h j hj
theorem w_no {u : vM} {c : Nat} {x y : Int32} (hc : c < 24) (hF : FS u) (hO : OD u) (hx : rdw x c) (hy : rdw y c) : rX1_wouldReadItself u (nI c) x y = 0 := by
  unfold rX1_wouldReadItself
  dsimp only
  have hl : ∀ j, j < c → lpX1_wouldReadItself_37 24 0 (lpX1_wouldReadItself_3 (nI c) 24 0 u) 11 j = 0 := by
    refine w_low hc 24 0 _ rfl (FS_fr (fr_lpX1_wouldReadItself_3 (by decide)) (fr_lpX1_wouldReadItself_3 (by decide)) hF) (OD_fr (fr_lpX1_wouldReadItself_3 (by decide)) hO) (fun j hj => ?_)
    rw [w_clear (nI c) 24 0 u (by decide) j, if_pos (by omega), if_neg (fun q => by have := nI_inj (show j < 24 by omega) hc q; omega)]
  rw [if_pos (isIn11_rdw hc hx hl), if_pos (isIn11_rdw hc hy hl)]
