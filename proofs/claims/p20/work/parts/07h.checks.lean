/-! THE LAW'S CHECKS -/
theorem or_zero {x y : Int32} (h : x ||| y = 0) : x = 0 ∧ y = 0 := by
  have h1 : (x ||| y).toBitVec = 0#32 := by rw [h]; rfl
  rw [Int32.toBitVec_or, BitVec.or_eq_zero_iff] at h1
  exact ⟨Int32.toBitVec_inj.mp h1.1, Int32.toBitVec_inj.mp h1.2⟩
theorem shl_ne : ∀ k, k < 24 → ¬ ((1 : Int32) <<< (nI k &&& 31)) = 0 := by decide +kernel
theorem isMarked_nI {u : vM} {k : Nat} (h : k < 24) : rX1_isMarked u (nI k) = u 6 k := by
  unfold rX1_isMarked
  rw [cell1_nI h, if_neg c10, mrd_nI (by omega)]
theorem marked_loop {u : vM} : ∀ (n k : Nat) (x : Int32), k + n = 24 → lpL_marked_4 u n k x = 0 → x = 0 ∧ ∀ j, k ≤ j → j < 24 → u 6 j = 0 := by
  intro n
  induction n with
  | zero => intro k x hk h; exact ⟨h, fun j h1 h2 => by omega⟩
  | succ n ih =>
    intro k x hk h
    unfold lpL_marked_4 at h
    dsimp only at h
    rw [isMarked_nI (by omega)] at h
    obtain ⟨h1, h2⟩ := ih (k + 1) _ (by omega) h
    obtain ⟨h3, h4⟩ := or_zero h1
    refine ⟨h3, fun j hj hj2 => ?_⟩
    rcases Nat.lt_or_ge k j with z | z
    · exact h2 j z hj2
    · obtain rfl : j = k := by omega
      by_cases q : u 6 j = 0
      · exact q
      · rw [if_neg q] at h4
        exact absurd h4 (shl_ne j hj2)
theorem marked_0 {u : vM} (h : rL_marked u = 0) : ∀ j, j < 24 → u 6 j = 0 := fun j hj => (marked_loop 24 0 0 rfl h).2 j (Nat.zero_le _) hj
/-- a value anew -/
theorem vi12_m1 {u : vM} : rX1_valueIn_v12 u (-1) = 0 := by unfold rX1_valueIn_v12; rw [if_pos (by decide)]
theorem vi12_nI {u : vM} {j : Nat} (h : j < 24) : rX1_valueIn_v12 u (nI j) = u 12 j := by
  unfold rX1_valueIn_v12
  rw [if_neg (nI_pos (by omega)), if_neg (in_nle (vp_in_nI h (by decide))), mrd_nI (by omega)]
theorem vi12_5 {u : vM} {x : Int32} {c : Nat} (hc : c < 24) (hx : rdw x c) (h : ∀ j, j < c → u 12 j = u 5 j) : rX1_valueIn_v12 u x = rX1_valueIn_v5 u x := by
  rcases hx with rfl | ⟨j, hj, rfl⟩
  · rw [vi12_m1, vi5_m1]
  · rw [vi12_nI (by omega), vi5_nI (by omega), h j hj]
theorem res12 {u : vM} {c : Nat} (hc : c < 24) (hF : FS u) (h : ∀ j, j < c → u 12 j = u 5 j) : rX1_resultOf_v12 u (nI c) = rX1_resultOf_v5 u (nI c) := by
  unfold rX1_resultOf_v12 rX1_resultOf_v5
  dsimp only
  rw [show mrd u 2 (nI c) = u 2 c from mrd_nI (by omega), show mrd u 3 (nI c) = u 3 c from mrd_nI (by omega), vi12_5 hc (hF c hc).1 h, vi12_5 hc (hF c hc).2 h]
theorem val_loop : ∀ (n k : Nat) (u : vM), k + n = 24 → FS u → OD u → (∀ i, i < 24 → CS u i) → (∀ j, j < k → u 12 j = u 5 j) → ∀ j, j < 24 → lpX1_valueAnew_19 n k u 12 j = u 5 j := by
  intro n
  induction n with
  | zero => intro k u hk hF hO hC h j hj; exact h j (by omega)
  | succ n ih =>
    intro k u hk hF hO hC h
    have hk24 : k < 24 := by omega
    unfold lpX1_valueAnew_19
    dsimp only
    rw [od_mrd hO hk24, cell1_nI hk24, if_neg c10, res12 hk24 hF h, ← hC k hk24]
    have en : ∀ q : Nat, q ≠ 12 → mup u 12 (nI k) (u 5 k) q = u q := fun q hq => mup_ne hq
    have e12 : mup u 12 (nI k) (u 5 k) 12 = upd (u 12) k (u 5 k) := mup_nI (by omega)
    generalize mup u 12 (nI k) (u 5 k) = w at en e12 ⊢
    intro j hj
    rw [ih (k + 1) w (by omega) (FS_fr (en 2 (by decide)) (en 3 (by decide)) hF) (OD_fr (en 7 (by decide)) hO) (fun i hi => ?_) (fun i hi => ?_) j hj, en 5 (by decide)]
    · unfold CS
      rw [res_fr (en 1 (by decide)) (en 2 (by decide)) (en 3 (by decide)) (en 4 (by decide)) (en 5 (by decide)), en 5 (by decide)]
      exact hC i hi
    · rw [e12, en 5 (by decide), upd_at]
      split
      · rename_i z; rw [z]
      · exact h i (by omega)
theorem held_inr (x : Int32) : inr (rX1_held x) := by
  have m : (1000000 : Int32).toInt = 1000000 := by decide
  have n : (-1000000 : Int32).toInt = -1000000 := by decide
  unfold rX1_held inr
  by_cases a : x < 1000000
  · rw [if_pos a]
    by_cases b : (-1000000 : Int32) < x
    · rw [if_pos b]
      rw [Int32.lt_iff_toInt_lt, m] at a
      rw [Int32.lt_iff_toInt_lt, n] at b
      rw [Int32.lt_iff_toInt_lt, Int32.le_iff_toInt_le, m, n]
      omega
    · rw [if_neg b]; decide
  · rw [if_neg a]; decide
theorem val_inr {u : vM} (hF : FS u) (hK : KN u) (hC : ∀ i, i < 24 → CS u i) : ∀ m i, i < m → i < 24 → inr (u 5 i) := by
  intro m
  induction m with
  | zero => intro i hi; omega
  | succ m ih =>
    intro i hi hi2
    have key : ∀ x, rdw x i → inr (rX1_valueIn_v5 u x) := by
      rintro x (rfl | ⟨j, hj, rfl⟩)
      · rw [vi5_m1]; exact ⟨by decide, by decide⟩
      · rw [vi5_nI (by omega)]; exact ih j (by omega) (by omega)
    have k2 := key _ (hF i hi2).1
    have k3 := key _ (hF i hi2).2
    rw [hC i hi2]
    unfold rX1_resultOf_v5
    dsimp only
    rw [show mrd u 2 (nI i) = u 2 i from mrd_nI (by omega), show mrd u 3 (nI i) = u 3 i from mrd_nI (by omega), show mrd u 1 (nI i) = u 1 i from mrd_nI (by omega), show mrd u 4 (nI i) = u 4 i from mrd_nI (by omega)]
    by_cases a : u 1 i = 1
    · rw [if_pos a]; exact held_inr _
    · rw [if_neg a]
      by_cases b : u 1 i = 2
      · rw [if_pos b]
        split
        · exact k3
        · exact k2
      · rw [if_neg b]
        by_cases c : u 1 i = 3
        · rw [if_pos c]; exact held_inr _
        · rw [if_neg c]
          rcases hK i hi2 with z | z | z | z
          · exact absurd z a
          · exact absurd z b
          · exact absurd z c
          · exact z
/-- without marks all is as if computed anew, also at another memory of what is computed anew -/
def rgs (u : vM) : Prop := ∀ v : vM, (∀ q, q ≠ 12 → v q = u q) → ∀ i, i < 24 → rX1_value v (nI i) = rX1_valueAnew v (nI i) ∧ ¬ (1000000 : Int32) < rX1_value v (nI i) ∧ (-1000000 : Int32) ≤ rX1_value v (nI i)
theorem rgs_of {u : vM} (h : SH u) (h0 : rL_marked u = 0) : rgs u := by
  intro v hv i hi
  have hs : SH v := SH_fr (fun q hq => hv q (by omega)) h
  have hm : ∀ j, j < 24 → v 6 j = 0 := fun j hj => by rw [hv 6 (by decide)]; exact marked_0 h0 j hj
  obtain ⟨hF, hK, hO, -, -, hC⟩ := hs
  have hC' : ∀ j, j < 24 → CS v j := fun j hj => hC j hj (hm j hj)
  have e : rX1_value v (nI i) = v 5 i := by unfold rX1_value; rw [cell1_nI hi, if_neg c10, mrd_nI (by omega)]
  have e2 : rX1_valueAnew v (nI i) = v 5 i := by
    unfold rX1_valueAnew
    rw [cell1_nI hi, if_neg c10]
    dsimp only
    rw [mrd_nI (by omega)]
    exact val_loop 24 0 v rfl hF hO hC' (fun j hj => absurd hj (Nat.not_lt_zero _)) i hi
  rw [e, e2]
  exact ⟨rfl, val_inr hF hK hC' 24 i hi hi⟩
/-- the accounts -/
theorem acc_1 {us m1 t : Nat} {u : vM} (ht : t ≤ 41) (h : CO us m1 t u) : rL_accounts u = 1 := by
  obtain ⟨hs, S, hS, hm1, h13, h14, ⟨hma, hmb⟩, ⟨hr1, hr2⟩, h5⟩ := h
  have hb : ∀ q, q < 4 → rX1_budget u (nI q) = u 14 q := fun q hq => by unfold rX1_budget; rw [sheet1_in (vp_in_nI hq (by decide)), if_neg c10, mrd_nI (by omega)]
  have he : ∀ q, q < 4 → rX1_earned u (nI q) = u 15 q := fun q hq => by unfold rX1_earned; rw [sheet1_in (vp_in_nI hq (by decide)), if_neg c10, mrd_nI (by omega)]
  have hr : ∀ q, q < 4 → rX1_readOf u (nI q) = u 16 q := fun q hq => by unfold rX1_readOf; rw [sheet1_in (vp_in_nI hq (by decide)), if_neg c10, mrd_nI (by omega)]
  have hc : ∀ q, q < 5 → rX1_caused u (nI q) = u 17 q := fun q hq => by unfold rX1_caused; rw [user1_in (vp_in_nI hq (by decide)), if_neg c10, mrd_nI (by omega)]
  have hp : ∀ q, q < 4 → (0 : Int32) ≤ u 14 q := fun q hq => by
    obtain ⟨b, g1, g2⟩ := h14 q hq
    rw [g2]
    exact nI_pos' (by omega)
  have h68 : lpL_accounts_68 u 5 0 0 = s5 (u 17) := by
    simp only [lpL_accounts_68, s5, hc 0 (by decide), hc (0 + 1) (by decide), hc (0 + 1 + 1) (by decide), hc (0 + 1 + 1 + 1) (by decide), hc (0 + 1 + 1 + 1 + 1) (by decide)]
  unfold rL_accounts
  rw [lpL_accounts_13]
  rw [hb 0 (by decide), he 0 (by decide), hr 0 (by decide), if_pos (hp 0 (by decide))]
  dsimp only
  rw [lpL_accounts_13]
  rw [hb (0 + 1) (by decide), he (0 + 1) (by decide), hr (0 + 1) (by decide), if_pos (hp (0 + 1) (by decide))]
  dsimp only
  rw [lpL_accounts_13]
  rw [hb (0 + 1 + 1) (by decide), he (0 + 1 + 1) (by decide), hr (0 + 1 + 1) (by decide), if_pos (hp (0 + 1 + 1) (by decide))]
  dsimp only
  rw [lpL_accounts_13]
  rw [hb (0 + 1 + 1 + 1) (by decide), he (0 + 1 + 1 + 1) (by decide), hr (0 + 1 + 1 + 1) (by decide), if_pos (hp (0 + 1 + 1 + 1) (by decide))]
  dsimp only
  rw [lpL_accounts_13]
  dsimp only
  rw [h68]
  have q1 : 0 + u 14 0 + u 14 (0 + 1) + u 14 (0 + 1 + 1) + u 14 (0 + 1 + 1 + 1) = s4 (u 14) := rfl
  have q2 : 0 + u 15 0 + u 15 (0 + 1) + u 15 (0 + 1 + 1) + u 15 (0 + 1 + 1 + 1) = s4 (u 15) := rfl
  have q3 : 0 + u 16 0 + u 16 (0 + 1) + u 16 (0 + 1 + 1) + u 16 (0 + 1 + 1 + 1) = s4 (u 16) := rfl
  rw [q1, q2, q3, if_pos (by rw [show (0 : Int32) = nI 0 from nI_0.symm, mrd_nI (by decide), ← hma, Int32.add_zero]), if_pos hmb, hr1]
  have q4 : (if (500 : Int32) ≤ nI S then 500 else nI S) = nI (min S 500) := by
    by_cases z : 500 ≤ S
    · rw [if_pos (show (500 : Int32) ≤ nI S from nI_le (a := 500) z (by omega)), show min S 500 = 500 by omega]
      rfl
    · rw [if_neg (show ¬ (500 : Int32) ≤ nI S from nI_ge (b := 500) (by omega) (by decide)), show min S 500 = S by omega]
  rw [q4]
  exact if_pos hr2
/-- new readings: what the trace is asked -/
def TR (a : Int32) (u : vM) : Prop := ∃ m1 K us : Nat, u 20 1 = nI m1 ∧ m1 ≤ K ∧ K ≤ 500 ∧ u 8 0 = nI K ∧ a = nI us ∧ us < 5 ∧ ∀ n, m1 ≤ n → n < K → ∃ rd rr c : Nat, rd < 24 ∧ rr < 24 ∧ rd / 6 ≠ rr / 6 ∧ u 19 n = nI (10000 * us + 100 * rd + rr) ∧ 1 ≤ c ∧ c < 2 ^ 20 ∧ u 18 (24 * rd + rr) = nI c
/-- behind a turn's act -/
def MD (us t : Nat) (u : vM) : Prop := ∃ m1, u 20 1 = nI m1 ∧ CO us m1 (t + 1) u
theorem MD_TR {us t : Nat} {u : vM} (ht : t ≤ 40) (hus : us < 5) (h : MD us t u) : TR (nI us) u := by
  obtain ⟨m1, e, hs, S, hS, hm1, h13, h14, h15, ⟨hr1, hr2⟩, hcn, hen⟩ := h
  refine ⟨m1, min S 500, us, e, hm1, by omega, hr2, rfl, hus, fun n h1 h2 => ?_⟩
  obtain ⟨rd, rr, c, g1, g2, g3, g4, g5, g6, g7⟩ := hen n h1 h2
  exact ⟨rd, rr, c, g1, g2, g3, g4, g5, by omega, g7⟩
/-- between turns -/
def IV (t : Nat) (u : vM) : Prop := SH u ∧ ∃ S, S ≤ 50 * t ∧ LG 0 (min S 500) (100 + 90 * t) S 0 u ∧ u 20 1 = nI (min S 500)
theorem IV_CO {t : Nat} {u : vM} (us : Nat) (h : IV t u) : ∃ m1, u 20 1 = nI m1 ∧ CO us m1 t u := by
  obtain ⟨hs, S, hS, ⟨h1, h2, h3, h4, h5, h6⟩, e⟩ := h
  exact ⟨min S 500, e, hs, S, hS, Nat.le_refl _, h1, h2, h3, h4, h5, fun n a b => absurd b (Nat.not_lt.mpr a)⟩
theorem MD_acc {us t : Nat} {u : vM} (ht : t ≤ 40) (h : MD us t u) : rL_accounts (mup u 20 1 (mfd u 8)) = 1 := by
  obtain ⟨m1, e, h⟩ := h
  refine acc_1 (t := t + 1) (by omega) (CO_fr h (fun q hq => mup_ne (by omega)) (fun q h1 h2 => mup_ne (by omega)) ?_)
  rw [show (1 : Int32) = nI 1 from rfl, mup_nI (by decide), upd_ne (by decide)]
theorem MD_IV {us t : Nat} {u : vM} (h : MD us t u) : IV (t + 1) (mup u 20 1 (mfd u 8)) := by
  obtain ⟨m1, e, h⟩ := h
  have h' := CO_fr (u' := mup u 20 1 (mfd u 8)) h (fun q hq => mup_ne (by omega)) (fun q h1 h2 => mup_ne (by omega)) (by rw [show (1 : Int32) = nI 1 from rfl, mup_nI (by decide), upd_ne (by decide)])
  have e8 : u 8 0 = mup u 20 1 (mfd u 8) 8 0 := by rw [mup_ne (by decide)]
  have e20 : mup u 20 1 (mfd u 8) 20 1 = u 8 0 := by rw [show (1 : Int32) = nI 1 from rfl, mup_nI (by decide), upd_eq]; rfl
  generalize mup u 20 1 (mfd u 8) = w at h' e8 e20 ⊢
  obtain ⟨hs, S, hS, hm, h1, h2, h3, h4, h5, h6⟩ := h'
  exact ⟨hs, S, hS, ⟨h1, h2, h3, h4, h5, fun n a b => absurd b (Nat.not_lt.mpr a)⟩, by rw [e20, e8]; exact h4.2⟩
theorem IV_fr {t : Nat} {u u' : vM} (h : IV t u) (e : ∀ q, q ≠ 12 → u' q = u q) : IV t u' := by
  obtain ⟨hs, S, hS, hL, h20⟩ := h
  exact ⟨SH_fr (fun q hq => e q (by omega)) hs, S, hS, LG_fr hL (e 8 (by decide)) (e 13 (by decide)) (e 14 (by decide)) (e 15 (by decide)) (e 16 (by decide)) (e 17 (by decide)) (e 18 (by decide)) (e 19 (by decide)) (by rw [e 20 (by decide)]), by rw [e 20 (by decide)]; exact h20⟩
