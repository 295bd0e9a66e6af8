/-! going through all cells -/
theorem upd_same {f : Nat → Int32} {k : Nat} {x : Int32} (h : f k = x) : upd f k x = f := by
  funext j
  rw [upd_at]
  split
  · rename_i e; rw [e, h]
  · rfl
theorem comp_GG {c K : Nat} {u u' : vM} (hc : c < 24) (hF : FS u) (hK : K ≤ c + 1) (h9 : u 9 c = 0)
    (hG : ∀ i, i < 24 → i ≠ c → u 6 i = 0 → GG u K i) (e1 : u' 1 = u 1) (e2 : u' 2 = u 2) (e3 : u' 3 = u 3) (e4 : u' 4 = u 4)
    (hr : (u' 5 = u 5 ∧ u' 6 = upd (u 6) c 1 ∧ u' 9 = u 9) ∨ (u' 5 = upd (u 5) c (rX1_resultOf_v5 u (nI c)) ∧ u' 6 = upd (u 6) c 0 ∧ u' 9 = upd (u 9) c (if rX1_resultOf_v5 u (nI c) = u 5 c then 0 else 1))) :
    ∀ i, i < 24 → u' 6 i = 0 → GG u' K i := by
  intro i hi h6
  rcases hr with ⟨e5, e6, e9⟩ | ⟨e5, e6, e9⟩
  · rw [e6, upd_at] at h6
    by_cases z : i = c
    · rw [if_pos z] at h6
      exact absurd h6 (by decide)
    · rw [if_neg z] at h6
      rcases hG i hi z h6 with g | ⟨g1, j, g2, g3, g4⟩
      · left
        unfold CS
        rw [res_fr e1 e2 e3 e4 e5, e5]
        exact g
      · right
        refine ⟨g1, j, g2, ?_, by rw [e9]; exact g4⟩
        unfold DD
        rw [e2, e3]
        exact g3
  · by_cases z : i = c
    · left
      subst z
      unfold CS
      rw [res_congr hF hi e1 e2 e3 e4 (fun j hj _ => by rw [e5, upd_ne (by omega)]), e5, upd_eq]
    · rw [e6, upd_ne z] at h6
      have hDD : ∀ j, DD u' i j ↔ DD u i j := fun j => by unfold DD; rw [e2, e3]
      by_cases hrd : DD u i c
      · have hlt : c < i := by
          rcases hrd with e | e
          · rcases (hF i hi).1 with a | ⟨j, hj, a⟩
            · rw [a] at e; exact absurd e (m1_ne hc)
            · rw [a] at e; rw [nI_inj (by omega) hc e] at hj; exact hj
          · rcases (hF i hi).2 with a | ⟨j, hj, a⟩
            · rw [a] at e; exact absurd e (m1_ne hc)
            · rw [a] at e; rw [nI_inj (by omega) hc e] at hj; exact hj
        by_cases hch : rX1_resultOf_v5 u (nI c) = u 5 c
        · rw [if_pos hch, upd_same h9] at e9
          rw [hch, upd_same rfl] at e5
          rcases hG i hi z h6 with g | ⟨g1, j, g2, g3, g4⟩
          · left
            unfold CS
            rw [res_fr e1 e2 e3 e4 e5, e5]
            exact g
          · exact Or.inr ⟨g1, j, g2, (hDD j).mpr g3, by rw [e9]; exact g4⟩
        · rw [if_neg hch] at e9
          exact Or.inr ⟨by omega, c, hc, (hDD c).mpr hrd, by rw [e9, upd_eq]⟩
      · rcases hG i hi z h6 with g | ⟨g1, j, g2, g3, g4⟩
        · left
          unfold CS
          rw [res_congr hF hi e1 e2 e3 e4 (fun j hj hd => by rw [e5, upd_ne (show j ≠ c from fun q => hrd (by rw [← q]; exact hd))]), e5, upd_ne z]
          exact g
        · have hj : j ≠ c := fun q => hrd (by rw [← q]; exact g3)
          exact Or.inr ⟨g1, j, g2, (hDD j).mpr g3, by rw [e9, upd_ne hj]; exact g4⟩
theorem isIn9_nI {u : vM} {j : Nat} (h : j < 24) : rX1_isIn_v9 u (nI j) = 0 ↔ u 9 j = 0 := by
  unfold rX1_isIn_v9
  rw [if_neg (nI_pos (by omega)), if_neg (in_nle (vp_in_nI h (by decide))), mrd_nI (by omega)]
  by_cases z : u 9 j = 0
  · rw [if_pos z]; exact ⟨fun _ => z, fun _ => rfl⟩
  · rw [if_neg z]; exact ⟨fun q => absurd q c10, fun q => absurd q z⟩
theorem isIn9_m1 {u : vM} : rX1_isIn_v9 u (-1) = 0 := by unfold rX1_isIn_v9; rw [if_pos (by decide)]
/-- a cell that reads none that has changed -/
theorem ro9_no {u : vM} {k : Nat} (hk : k < 24) (h : rX1_readsOneOf_v9 u (nI k) = 0) : ∀ j, j < 24 → DD u k j → u 9 j = 0 := by
  unfold rX1_readsOneOf_v9 at h
  rw [mrd_nI (by omega), mrd_nI (by omega)] at h
  intro j hj hd
  by_cases a : rX1_isIn_v9 u (u 2 k) = 0
  · rw [if_pos a] at h
    by_cases b : rX1_isIn_v9 u (u 3 k) = 0
    · rcases hd with e | e
      · rw [e] at a; exact (isIn9_nI hj).mp a
      · rw [e] at b; exact (isIn9_nI hj).mp b
    · rw [if_neg b] at h; exact absurd h (by decide)
  · rw [if_neg a] at h; exact absurd h (by decide)
theorem ro9_yes {u : vM} {k : Nat} (hk : k < 24) (hF : FS u) (h : ∀ j, j < k → u 9 j = 0) : rX1_readsOneOf_v9 u (nI k) = 0 := by
  have key : ∀ x, rdw x k → rX1_isIn_v9 u x = 0 := by
    rintro x (rfl | ⟨j, hj, rfl⟩)
    · exact isIn9_m1
    · exact (isIn9_nI (by omega)).mpr (h j hj)
  unfold rX1_readsOneOf_v9
  rw [mrd_nI (by omega), mrd_nI (by omega), if_pos (key _ (hF k hk).1), if_pos (key _ (hF k hk).2)]
theorem od_mrd {u : vM} (h : OD u) {k : Nat} (hk : k < 24) : mrd u 7 (nI k) = nI k := by rw [mrd_nI (by omega), h k hk]
theorem bo_comp {c : Nat} {u u' : vM} (h6 : bo u 6) (h9 : bo u 9)
    (hr : (u' 5 = u 5 ∧ u' 6 = upd (u 6) c 1 ∧ u' 9 = u 9) ∨ (u' 5 = upd (u 5) c (rX1_resultOf_v5 u (nI c)) ∧ u' 6 = upd (u 6) c 0 ∧ u' 9 = upd (u 9) c (if rX1_resultOf_v5 u (nI c) = u 5 c then 0 else 1))) : bo u' 6 ∧ bo u' 9 := by
  have key : ∀ {f g : Nat → Int32} {x : Int32}, (∀ i, f i = 0 ∨ f i = 1) → (x = 0 ∨ x = 1) → g = upd f c x → ∀ i, g i = 0 ∨ g i = 1 := by
    intro f g x hf hx hg i
    rw [hg, upd_at]
    split
    · exact hx
    · exact hf i
  rcases hr with ⟨-, e6, e9⟩ | ⟨-, e6, e9⟩
  · exact ⟨key h6 (Or.inr rfl) e6, fun i => by rw [e9]; exact h9 i⟩
  · refine ⟨key h6 (Or.inl rfl) e6, key h9 ?_ e9⟩
    split
    · exact Or.inl rfl
    · exact Or.inr rfl
/-- going through: from place k on -/
theorem go_loop {us m1 B : Nat} (hB : B < 2 ^ 30) (hus : us < 5) (a2 : Int32) : ∀ (n k S X : Nat) (u : vM), k + n = 24 → FS u → OD u → bo u 6 → bo u 9 → LG us m1 B S 0 u → (∀ i, i < 24 → u 6 i = 0 → GG u k i) → (∀ j, k ≤ j → j < 24 → u 9 j = 0) →
    (∃ S', S ≤ S' ∧ S' ≤ S + 2 * n ∧ LG us m1 B S' 0 (lpX1_goThrough_5 (nI us) a2 n k u (nI X)).1) ∧ bo (lpX1_goThrough_5 (nI us) a2 n k u (nI X)).1 6 ∧ (∀ i, i < 24 → (lpX1_goThrough_5 (nI us) a2 n k u (nI X)).1 6 i = 0 → CS (lpX1_goThrough_5 (nI us) a2 n k u (nI X)).1 i) ∧ ∃ m, m ≤ n ∧ (lpX1_goThrough_5 (nI us) a2 n k u (nI X)).2 = nI (X + m) := by
  intro n
  induction n with
  | zero =>
    intro k S X u hk hF hO h6 h9 hL hG hz
    refine ⟨⟨S, Nat.le_refl _, Nat.le_refl _, hL⟩, h6, fun i hi q => ?_, 0, Nat.le_refl _, rfl⟩
    rcases hG i hi q with g | ⟨g, -⟩
    · exact g
    · omega
  | succ n ih =>
    intro k S X u hk hF hO h6 h9 hL hG hz
    have hk24 : k < 24 := by omega
    have skip : rX1_readsOneOf_v9 u (nI k) = 0 → ∀ i, i < 24 → u 6 i = 0 → GG u (k + 1) i := by
      intro hno i hi q
      rcases hG i hi q with g | ⟨g1, j, g2, g3, g4⟩
      · exact Or.inl g
      · refine Or.inr ⟨?_, j, g2, g3, g4⟩
        rcases Nat.lt_or_ge k i with z | z
        · exact z
        · obtain rfl : i = k := by omega
          exact absurd ((ro9_no hk24 hno j g2 g3).symm.trans g4) (by decide)
    have doit : (∃ S', S ≤ S' ∧ S' ≤ S + 2 * (n + 1) ∧ LG us m1 B S' 0 (lpX1_goThrough_5 (nI us) a2 n (k + 1) (uX1_compute u (nI us) (nI k)) (nI X + 1)).1) ∧ bo (lpX1_goThrough_5 (nI us) a2 n (k + 1) (uX1_compute u (nI us) (nI k)) (nI X + 1)).1 6 ∧ (∀ i, i < 24 → (lpX1_goThrough_5 (nI us) a2 n (k + 1) (uX1_compute u (nI us) (nI k)) (nI X + 1)).1 6 i = 0 → CS (lpX1_goThrough_5 (nI us) a2 n (k + 1) (uX1_compute u (nI us) (nI k)) (nI X + 1)).1 i) ∧ ∃ m, m ≤ n + 1 ∧ (lpX1_goThrough_5 (nI us) a2 n (k + 1) (uX1_compute u (nI us) (nI k)) (nI X + 1)).2 = nI (X + m) := by
      obtain ⟨⟨S1, s1, s2, hL1⟩, hr⟩ := comp_rows hB hus hk24 hF hL
      have en : ∀ q : Nat, q ≠ 5 → q ≠ 6 → q ≠ 8 → q ≠ 9 → q ≠ 14 → q ≠ 15 → q ≠ 16 → q ≠ 17 → q ≠ 18 → q ≠ 19 → uX1_compute u (nI us) (nI k) q = u q := fun q a b c d e f g h i j => fr_uX1_compute a b c d e f g h i j
      generalize uX1_compute u (nI us) (nI k) = v at hL1 hr en ⊢
      have e1 : v 1 = u 1 := by apply en <;> decide
      have e2 : v 2 = u 2 := by apply en <;> decide
      have e3 : v 3 = u 3 := by apply en <;> decide
      have e4 : v 4 = u 4 := by apply en <;> decide
      have e7 : v 7 = u 7 := by apply en <;> decide
      have hG' := comp_GG (K := k + 1) hk24 hF (Nat.le_refl _) (hz k (Nat.le_refl _) hk24) (fun i hi hne q => by
        rcases hG i hi q with g | ⟨g1, g2⟩
        · exact Or.inl g
        · exact Or.inr ⟨by omega, g2⟩) e1 e2 e3 e4 hr
      have hb := bo_comp h6 h9 hr
      have hz' : ∀ j, k + 1 ≤ j → j < 24 → v 9 j = 0 := by
        intro j hj hj2
        rcases hr with ⟨-, -, e9⟩ | ⟨-, -, e9⟩
        · rw [e9]; exact hz j (by omega) hj2
        · rw [e9, upd_ne (by omega)]; exact hz j (by omega) hj2
      rw [show nI X + 1 = nI (X + 1) from nI_1 X]
      obtain ⟨⟨S2, s3, s4, hL2⟩, r1, r2, m, hm, r3⟩ := ih (k + 1) S1 (X + 1) v (by omega) (FS_fr e2 e3 hF) (OD_fr e7 hO) hb.1 hb.2 hL1 hG' hz'
      exact ⟨⟨S2, by omega, by omega, hL2⟩, r1, r2, m + 1, by omega, by rw [r3]; congr 1; omega⟩
    have pass : rX1_readsOneOf_v9 u (nI k) = 0 → (∃ S', S ≤ S' ∧ S' ≤ S + 2 * (n + 1) ∧ LG us m1 B S' 0 (lpX1_goThrough_5 (nI us) a2 n (k + 1) u (nI X)).1) ∧ bo (lpX1_goThrough_5 (nI us) a2 n (k + 1) u (nI X)).1 6 ∧ (∀ i, i < 24 → (lpX1_goThrough_5 (nI us) a2 n (k + 1) u (nI X)).1 6 i = 0 → CS (lpX1_goThrough_5 (nI us) a2 n (k + 1) u (nI X)).1 i) ∧ ∃ m, m ≤ n + 1 ∧ (lpX1_goThrough_5 (nI us) a2 n (k + 1) u (nI X)).2 = nI (X + m) := by
      intro hno
      obtain ⟨⟨S2, s3, s4, hL2⟩, r1, r2, m, hm, r3⟩ := ih (k + 1) S X u (by omega) hF hO h6 h9 hL (skip hno) (fun j hj hj2 => hz j (by omega) hj2)
      exact ⟨⟨S2, by omega, by omega, hL2⟩, r1, r2, m, by omega, r3⟩
    unfold lpX1_goThrough_5
    dsimp only
    rw [od_mrd hO hk24, cell1_nI hk24, if_neg c10]
    by_cases h1 : rX1_readsOneOf_v9 u (nI k) = 0
    · rw [if_pos h1]
      by_cases h2 : a2 = 0
      · rw [if_pos h2]; exact pass h1
      · rw [if_neg h2]
        by_cases h3 : mrd u 6 (nI k) = 0
        · rw [if_pos h3]; exact pass h1
        · rw [if_neg h3]; exact doit
    · rw [if_neg h1]; exact doit
/-- nothing is due up to the first cell that has changed -/
theorem go_skip {a1 : Int32} {u : vM} {c : Nat} (hc : c < 24) (hF : FS u) (hO : OD u) (hz : ∀ j, j < c → u 9 j = 0) (x : Int32) : ∀ (d k : Nat), k + d = c + 1 → lpX1_goThrough_5 a1 0 (24 - k) k u x = lpX1_goThrough_5 a1 0 (24 - (c + 1)) (c + 1) u x := by
  intro d
  induction d with
  | zero =>
    intro k hk
    obtain rfl : k = c + 1 := by omega
    rfl
  | succ d ih =>
    intro k hk
    rw [← ih (k + 1) (by omega), show 24 - k = (24 - (k + 1)) + 1 by omega]
    conv => lhs; unfold lpX1_goThrough_5
    dsimp only
    rw [od_mrd hO (by omega), cell1_nI (by omega), if_neg c10, if_pos (ro9_yes (by omega) hF (fun j hj => hz j (by omega))), if_pos rfl]
/-- a refresh without marks does nothing -/
theorem go_none {a1 a2 : Int32} {u : vM} (hF : FS u) (hO : OD u) (hz : ∀ j, j < 24 → u 9 j = 0) (h6 : ∀ j, j < 24 → u 6 j = 0) (x : Int32) : ∀ (n k : Nat), k + n = 24 → lpX1_goThrough_5 a1 a2 n k u x = (u, x) := by
  intro n
  induction n with
  | zero => intro k hk; rfl
  | succ n ih =>
    intro k hk
    unfold lpX1_goThrough_5
    dsimp only
    rw [od_mrd hO (by omega), cell1_nI (by omega), if_neg c10, if_pos (ro9_yes (by omega) hF (fun j hj => hz j (by omega))), mrd_nI (by omega), h6 k (by omega), if_pos rfl]
    split <;> exact ih (k + 1) (by omega)
theorem comp_bo9 {u : vM} {a b : Int32} (h : bo u 9) : bo (uX1_compute u a b) 9 := by
  unfold uX1_compute
  dsimp only
  generalize (if mrd u 3 b = mrd u 2 b then (-1) else rX1_meteredRead b (mrd u 3 b)) = y
  generalize rX1_meteredRead b (mrd u 2 b) = x
  have hp : bo (uX0_paysFor u a b x y) 9 := bo_fr (fr_uX0_paysFor (by decide) (by decide) (by decide) (by decide) (by decide) (by decide) (by decide)) h
  generalize uX0_paysFor u a b x y = w at hp ⊢
  generalize (if rX0_paysFor u a b x y = 0 then (1 : Int32) else 0) = z
  have hw : bo (mup w 6 b z) 9 := bo_fr (mup_ne (by decide)) hp
  generalize mup w 6 b z = v at hw ⊢
  split
  · refine bo_fr (mup_ne (by decide)) (bo_up hw ?_)
    split
    · exact Or.inl rfl
    · exact Or.inr rfl
  · exact hw
theorem go_bo9 {a1 a2 : Int32} : ∀ (n k : Nat) (u : vM) (x : Int32), bo u 9 → bo (lpX1_goThrough_5 a1 a2 n k u x).1 9 := by
  intro n
  induction n with
  | zero => intro k u x h; exact h
  | succ n ih =>
    intro k u x h
    unfold lpX1_goThrough_5
    dsimp only
    (repeat' split) <;> first | exact ih _ _ _ h | exact ih _ _ _ (comp_bo9 h)
