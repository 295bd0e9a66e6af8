/-! what the reference's marks hold: all that a cell reaches, and nothing else -/
def cnt (s : Nat → Int32) : Nat → Nat
  | 0 => 0
  | n + 1 => cnt s n + (if s n = 1 then 1 else 0)
theorem cnt_le (s : Nat → Int32) : ∀ n, cnt s n ≤ n := by
  intro n
  induction n with
  | zero => exact Nat.le_refl 0
  | succ n ih =>
    show cnt s n + (if s n = 1 then 1 else 0) ≤ n + 1
    by_cases h : s n = 1
    · rw [if_pos h]; omega
    · rw [if_neg h]; omega
theorem cnt_mono {s s' : Nat → Int32} : ∀ n, (∀ j, j < n → s j = 1 → s' j = 1) → cnt s n ≤ cnt s' n := by
  intro n
  induction n with
  | zero => intro _; exact Nat.le_refl 0
  | succ n ih =>
    intro h
    show cnt s n + (if s n = 1 then 1 else 0) ≤ cnt s' n + (if s' n = 1 then 1 else 0)
    have q := ih fun j hj => h j (by omega)
    by_cases h1 : s n = 1
    · rw [if_pos h1, if_pos (h n (by omega) h1)]; omega
    · rw [if_neg h1]; omega
theorem cnt_lt {s s' : Nat → Int32} : ∀ n, (∀ j, j < n → s j = 1 → s' j = 1) → (∃ j, j < n ∧ s' j = 1 ∧ s j ≠ 1) → cnt s n + 1 ≤ cnt s' n := by
  intro n
  induction n with
  | zero => rintro _ ⟨j, hj, _⟩; exact absurd hj (by omega)
  | succ n ih =>
    rintro h ⟨j, hj, h1, h2⟩
    show cnt s n + (if s n = 1 then 1 else 0) + 1 ≤ cnt s' n + (if s' n = 1 then 1 else 0)
    by_cases e : j = n
    · subst e
      have q := cnt_mono (s := s) (s' := s') j fun i hi => h i (by omega)
      rw [if_neg h2, if_pos h1]
      omega
    · have q := ih (fun i hi => h i (by omega)) ⟨j, by omega, h1, h2⟩
      by_cases h3 : s n = 1
      · rw [if_pos h3, if_pos (h n (by omega) h3)]; omega
      · rw [if_neg h3]; omega
theorem mup_one {u : vM} {i x : Int32} {j : Nat} : mup u 10 i x 10 j = if j = i.toNatClampNeg then x else u 10 j := mup_at
theorem mup_1 {u : vM} {i : Int32} {j : Nat} (h : u 10 j = 1) : mup u 10 i 1 10 j = 1 := by
  rw [mup_at]
  by_cases e : j = i.toNatClampNeg
  · rw [if_pos e]
  · rw [if_neg e]; exact h
theorem mup_2 {u : vM} {i : Int32} {j : Nat} (h : mup u 10 i 1 10 j = 1) : u 10 j = 1 ∨ j = i.toNatClampNeg := by
  rw [mup_at] at h
  by_cases e : j = i.toNatClampNeg
  · exact Or.inr e
  · rw [if_neg e] at h; exact Or.inl h
theorem mup_3 {u : vM} {i : Int32} : mup u 10 i 1 10 i.toNatClampNeg = 1 := by rw [mup_at, if_pos rfl]
theorem other_mup {u : vM} {i x : Int32} {k : Nat} (hk : k < 24) : rX2_other (mup u 10 i x) (nI k) = rX2_other u (nI k) := by
  rw [other_eq hk, other_eq hk, mup_ne (by decide), mup_ne (by decide), mup_ne (by decide)]
/-- a step of a sweep -/
theorem swp {u : vM} (hf : fm u) {k : Nat} (hk : k < 24) : ∃ u' : vM, (∀ q, q ≠ 10 → u' q = u q) ∧ (∀ j, u 10 j = 1 → u' 10 j = 1) ∧ (u 10 k = 1 → ∀ j, D2 u k j → u' 10 j = 1) ∧ (∀ j, u' 10 j = 1 → u 10 j = 1 ∨ (u 10 k = 1 ∧ D2 u k j)) ∧ ∀ n, lpX2_reaches_41 (n + 1) k u = lpX2_reaches_41 n (k + 1) u' := by
  by_cases h0 : mrd u 10 (nI k) = 1
  · have h0' : u 10 k = 1 := by rw [mrd_nI hk] at h0; exact h0
    by_cases h1 : rX2_one u (nI k) = -1
    · have k0 : u 1 k = 0 := by
        rw [one_eq hk] at h1
        by_cases z : u 1 k = 0
        · exact z
        · rw [if_neg z] at h1; exact absurd h1 (vp_ne1 (hf k hk).1)
      have nod : ∀ j, ¬ D2 u k j := by
        rintro j (⟨a, _⟩ | ⟨a, _⟩)
        · exact a k0
        · rw [k0] at a; rcases a with a | a <;> exact absurd a (by decide)
      have h2 : rX2_other u (nI k) = -1 := by
        rw [other_eq hk, if_neg]
        intro a
        rw [k0] at a
        rcases a with a | a <;> exact absurd a (by decide)
      refine ⟨u, fun _ _ => rfl, fun _ h => h, fun _ j hd => absurd hd (nod j), fun _ h => Or.inl h, fun n => ?_⟩
      show (if mrd u 10 (nI k) = 1 then _ else _) = _
      rw [if_pos h0, if_pos h1, if_pos h2]
    · have k0 : u 1 k ≠ 0 := by
        intro z
        rw [one_eq hk, if_pos z] at h1
        exact h1 rfl
      have e1 : rX2_one u (nI k) = u 2 k := by rw [one_eq hk, if_neg k0]
      by_cases h2 : rX2_other u (nI k) = -1
      · have nod : ∀ j, D2 u k j → j = (u 2 k).toNatClampNeg := by
          rintro j (⟨a, e⟩ | ⟨a, e⟩)
          · exact e
          · rw [other_eq hk, if_pos a] at h2
            by_cases q : u 3 k = u 2 k
            · rw [e, q]
            · rw [if_neg q] at h2; exact absurd h2 (vp_ne1 (hf k hk).2)
        refine ⟨mup u 10 (rX2_one u (nI k)) 1, fun q hq => mup_ne hq, fun j h => mup_1 h, fun _ j hd => ?_, fun j h => ?_, fun n => ?_⟩
        · rw [nod j hd, e1]; exact mup_3
        · rcases mup_2 h with h | h
          · exact Or.inl h
          · rw [e1] at h; exact Or.inr ⟨h0', Or.inl ⟨k0, h⟩⟩
        · show (if mrd u 10 (nI k) = 1 then _ else _) = _
          rw [if_pos h0, if_neg h1]
          (try dsimp only)
          rw [if_pos (by rw [other_mup hk]; exact h2)]
      · have k1 : u 1 k = 1 ∨ u 1 k = 2 := by
          rcases Classical.em (u 1 k = 1 ∨ u 1 k = 2) with q | q
          · exact q
          · rw [other_eq hk, if_neg q] at h2; exact absurd rfl h2
        have e2 : rX2_other u (nI k) = u 3 k := by
          rw [other_eq hk, if_pos k1] at h2 ⊢
          by_cases q : u 3 k = u 2 k
          · rw [if_pos q] at h2; exact absurd rfl h2
          · rw [if_neg q]
        refine ⟨mup (mup u 10 (rX2_one u (nI k)) 1) 10 (rX2_other u (nI k)) 1, fun q hq => by rw [mup_ne hq, mup_ne hq], fun j h => mup_1 (mup_1 h), fun _ j hd => ?_, fun j h => ?_, fun n => ?_⟩
        · rcases hd with ⟨_, e⟩ | ⟨_, e⟩
          · rw [e, e1]; exact mup_1 mup_3
          · rw [e, e2]; exact mup_3
        · rcases mup_2 h with h | h
          · rcases mup_2 h with h | h
            · exact Or.inl h
            · rw [e1] at h; exact Or.inr ⟨h0', Or.inl ⟨k0, h⟩⟩
          · rw [e2] at h; exact Or.inr ⟨h0', Or.inr ⟨k1, h⟩⟩
        · show (if mrd u 10 (nI k) = 1 then _ else _) = _
          rw [if_pos h0, if_neg h1]
          (try dsimp only)
          rw [if_neg (by rw [other_mup hk]; exact h2), other_mup hk]
  · have h0' : u 10 k ≠ 1 := by rw [mrd_nI hk] at h0; exact h0
    refine ⟨u, fun _ _ => rfl, fun _ h => h, fun h => absurd h h0', fun _ h => Or.inl h, fun n => ?_⟩
    show (if mrd u 10 (nI k) = 1 then _ else _) = _
    rw [if_neg h0]
/-- a set that holds all that its members read -/
def cl (D : Nat → Nat → Prop) (C : Nat → Prop) : Prop := ∀ i, i < 24 → C i → ∀ j, D i j → C j
theorem sweep : ∀ (n k : Nat) (u : vM), fm u → k + n = 24 → (∀ j, u 10 j = 1 → (lpX2_reaches_41 n k u) 10 j = 1) ∧ (∀ i, k ≤ i → i < 24 → u 10 i = 1 → ∀ j, D2 u i j → (lpX2_reaches_41 n k u) 10 j = 1) ∧ (∀ C : Nat → Prop, cl (D2 u) C → (∀ j, j < 24 → u 10 j = 1 → C j) → ∀ j, j < 24 → (lpX2_reaches_41 n k u) 10 j = 1 → C j) := by
  intro n
  induction n with
  | zero => intro k u _ hk; exact ⟨fun _ h => h, fun i h1 h2 => absurd h2 (by omega), fun _ _ h => h⟩
  | succ n ih =>
    intro k u hf hk
    obtain ⟨u', f, a, b, c, e⟩ := swp hf (show k < 24 by omega)
    have eD : D2 u' = D2 u := D2_congr (f 1 (by decide)) (f 2 (by decide)) (f 3 (by decide))
    obtain ⟨i1, i2, i3⟩ := ih (k + 1) u' (fm_congr (f 2 (by decide)) (f 3 (by decide)) hf) (by omega)
    rw [e]
    rw [eD] at i2 i3
    refine ⟨fun j h => i1 j (a j h), fun i h1 h2 h3 j hd => ?_, fun C hC hm => i3 C hC fun j hj h => ?_⟩
    · by_cases q : i = k
      · subst q
        exact i1 j (b h3 j hd)
      · exact i2 i (by omega) h2 (a i h3) j hd
    · rcases c j h with h | ⟨h, hd⟩
      · exact hm j hj h
      · exact hC k (by omega) (hm k (by omega) h) j hd
theorem rounds : ∀ (n k m : Nat) (u : vM), fm u → (cl (D2 u) (fun i => u 10 i = 1) ∨ m + 1 ≤ cnt (u 10) 24) → (cl (D2 u) (fun i => (lpX2_reaches_32 n k u) 10 i = 1) ∨ m + n + 1 ≤ cnt ((lpX2_reaches_32 n k u) 10) 24) ∧ (∀ j, u 10 j = 1 → (lpX2_reaches_32 n k u) 10 j = 1) ∧ (∀ C : Nat → Prop, cl (D2 u) C → (∀ j, j < 24 → u 10 j = 1 → C j) → ∀ j, j < 24 → (lpX2_reaches_32 n k u) 10 j = 1 → C j) := by
  intro n
  induction n with
  | zero => intro k m u _ h; exact ⟨h, fun _ h => h, fun _ _ h => h⟩
  | succ n ih =>
    intro k m u hf h
    obtain ⟨s1, s2, s3⟩ := sweep 24 0 u hf (by decide)
    have f : ∀ q, q ≠ 10 → lpX2_reaches_41 24 0 u q = u q := fun q hq => fr_lpX2_reaches_41 hq
    have eD : D2 (lpX2_reaches_41 24 0 u) = D2 u := D2_congr (f 1 (by decide)) (f 2 (by decide)) (f 3 (by decide))
    have hn : cl (D2 (lpX2_reaches_41 24 0 u)) (fun i => (lpX2_reaches_41 24 0 u) 10 i = 1) ∨ m + 1 + 1 ≤ cnt ((lpX2_reaches_41 24 0 u) 10) 24 := by
      rw [eD]
      rcases Classical.em (∃ j, j < 24 ∧ (lpX2_reaches_41 24 0 u) 10 j = 1 ∧ u 10 j ≠ 1) with q | q
      · rcases h with h | h
        · obtain ⟨j, hj, h1, h2⟩ := q
          exact absurd (s3 _ h (fun _ _ h => h) j hj h1) h2
        · right
          have := cnt_lt 24 (fun j _ => s1 j) q
          omega
      · left
        intro i hi h1 j hd
        refine s2 i (by omega) hi ?_ j hd
        exact Classical.byContradiction fun z => q ⟨i, hi, h1, z⟩
    have := ih (k + 1) (m + 1) (lpX2_reaches_41 24 0 u) (fm_congr (f 2 (by decide)) (f 3 (by decide)) hf) hn
    rw [eD] at this
    obtain ⟨i1, i2, i3⟩ := this
    show (cl (D2 u) (fun i => (lpX2_reaches_32 n (k + 1) (lpX2_reaches_41 24 0 u)) 10 i = 1) ∨ m + (n + 1) + 1 ≤ cnt ((lpX2_reaches_32 n (k + 1) (lpX2_reaches_41 24 0 u)) 10) 24) ∧ (∀ j, u 10 j = 1 → (lpX2_reaches_32 n (k + 1) (lpX2_reaches_41 24 0 u)) 10 j = 1) ∧ (∀ C : Nat → Prop, cl (D2 u) C → (∀ j, j < 24 → u 10 j = 1 → C j) → ∀ j, j < 24 → (lpX2_reaches_32 n (k + 1) (lpX2_reaches_41 24 0 u)) 10 j = 1 → C j)
    refine ⟨?_, fun j h => i2 j (s1 j h), fun C hC hm => i3 C hC fun j hj h => s3 C hC hm j hj h⟩
    rw [show m + (n + 1) + 1 = m + 1 + n + 1 by omega]
    exact i1
theorem rc_start (a : Int32) : ∀ (n k : Nat) (u : vM), k + n ≤ 24 → ∀ j, (lpX2_reaches_2 a n k u) 10 j = if k ≤ j ∧ j < k + n then (if nI j = a then 1 else 0) else u 10 j := by
  intro n
  induction n with
  | zero => intro k u _ j; rw [if_neg (by omega)]; rfl
  | succ n ih =>
    intro k u hk j
    show lpX2_reaches_2 a n (k + 1) (mup u 10 (nI k) (if nI k = a then 1 else 0)) 10 j = _
    rw [ih (k + 1) _ (by omega) j, mup_at, nI_clamp (by omega)]
    by_cases e : j = k
    · rw [if_neg (by omega), if_pos e, e]
      exact (if_pos (by omega)).symm
    · rw [if_neg e]
      by_cases q : k ≤ j ∧ j < k + (n + 1)
      · rw [if_pos q, if_pos (by omega)]
      · rw [if_neg q, if_neg (by omega)]
theorem reach_spec {u : vM} (hf : fm u) {b : Nat} (hb : b < 24) (a : Int32) : (uX2_reaches u (nI b) a) 10 b = 1 ∧ cl (D2 u) (fun i => (uX2_reaches u (nI b) a) 10 i = 1) ∧ (∀ C : Nat → Prop, cl (D2 u) C → C b → ∀ j, j < 24 → (uX2_reaches u (nI b) a) 10 j = 1 → C j) := by
  have f : ∀ q, q ≠ 10 → lpX2_reaches_2 (nI b) 24 0 u q = u q := fun q hq => fr_lpX2_reaches_2 hq
  have eD : D2 (lpX2_reaches_2 (nI b) 24 0 u) = D2 u := D2_congr (f 1 (by decide)) (f 2 (by decide)) (f 3 (by decide))
  have e : ∀ j, j < 24 → ((lpX2_reaches_2 (nI b) 24 0 u) 10 j = 1 ↔ j = b) := by
    intro j hj
    rw [rc_start (nI b) 24 0 u (by decide) j, if_pos (by omega)]
    by_cases q : j = b
    · rw [if_pos (by rw [q])]; exact ⟨fun _ => q, fun _ => rfl⟩
    · rw [if_neg (fun z => q ((nI_eq (by omega) (by omega)).mp z))]
      exact ⟨fun z => absurd z (by decide), fun z => absurd z q⟩
  have hc : 0 + 1 ≤ cnt ((lpX2_reaches_2 (nI b) 24 0 u) 10) 24 := by
    have := cnt_lt (s := fun _ => 0) (s' := (lpX2_reaches_2 (nI b) 24 0 u) 10) 24 (fun j _ z => absurd z (by decide)) ⟨b, hb, (e b hb).mpr rfl, by decide⟩
    omega
  have := rounds 24 0 0 (lpX2_reaches_2 (nI b) 24 0 u) (fm_congr (f 2 (by decide)) (f 3 (by decide)) hf) (Or.inr hc)
  rw [eD] at this
  obtain ⟨r1, r2, r3⟩ := this
  refine ⟨r2 b ((e b hb).mpr rfl), ?_, fun C hC hb2 j hj h => r3 C hC (fun i hi h => ?_) j hj h⟩
  · rcases r1 with r1 | r1
    · exact r1
    · have := cnt_le ((lpX2_reaches_32 24 0 (lpX2_reaches_2 (nI b) 24 0 u)) 10) 24
      omega
  · rw [(e i hi).mp h]; exact hb2
theorem reach_iff {u : vM} {b a : Int32} : rX2_reaches u b a = 0 ↔ ¬ (uX2_reaches u b a) 10 a.toNatClampNeg = 1 := by
  show (if mrd (uX2_reaches u b a) 10 a = 1 then (1 : Int32) else 0) = 0 ↔ ¬ mrd (uX2_reaches u b a) 10 a = 1
  by_cases h : mrd (uX2_reaches u b a) 10 a = 1
  · rw [if_pos h]; exact ⟨fun z => absurd z (by decide), fun z => absurd h z⟩
  · rw [if_neg h]; exact ⟨fun _ => h, fun _ => rfl⟩
theorem chg_1 {u : vM} {a kd b d x : Int32} {i : Nat} : chg u a kd b d x 1 i = if i = a.toNatClampNeg then kd else u 1 i := by
  unfold chg
  rw [mup_ne (by decide), mup_ne (by decide), mup_ne (by decide), mup_at]
theorem chg_2 {u : vM} {a kd b d x : Int32} {i : Nat} : chg u a kd b d x 2 i = if i = a.toNatClampNeg then b else u 2 i := by
  unfold chg
  rw [mup_ne (by decide), mup_ne (by decide), mup_at, mup_ne (by decide)]
theorem chg_3 {u : vM} {a kd b d x : Int32} {i : Nat} : chg u a kd b d x 3 i = if i = a.toNatClampNeg then d else u 3 i := by
  unfold chg
  rw [mup_ne (by decide), mup_at, mup_ne (by decide), mup_ne (by decide)]
theorem D2_chg {u : vM} {a kd b d x : Int32} {i j : Nat} (h : D2 (chg u a kd b d x) i j) : (i = a.toNatClampNeg ∧ kd ≠ 0 ∧ (j = b.toNatClampNeg ∨ j = d.toNatClampNeg)) ∨ (i ≠ a.toNatClampNeg ∧ D2 u i j) := by
  unfold D2 RD at h
  rw [chg_1, chg_2, chg_3] at h
  by_cases e : i = a.toNatClampNeg
  · rw [if_pos e, if_pos e, if_pos e] at h
    left
    rcases h with ⟨h1, h2⟩ | ⟨h1, h2⟩
    · exact ⟨e, h1, Or.inl h2⟩
    · refine ⟨e, fun z => ?_, Or.inr h2⟩
      rw [z] at h1
      rcases h1 with h1 | h1 <;> exact absurd h1 (by decide)
  · rw [if_neg e, if_neg e, if_neg e] at h
    exact Or.inr ⟨e, h⟩
theorem ly_chg_number {u : vM} {a x : Int32} (h : ly u) : ly (chg u a 0 0 0 x) := by
  obtain ⟨rank, hr⟩ := ly_rank h
  refine ly_of rank fun i hi j hd => ?_
  rcases D2_chg hd with ⟨_, h1, _⟩ | ⟨_, h1⟩
  · exact absurd rfl h1
  · exact hr i hi j h1
theorem ly_chg_set {u : vM} {a b d x kd : Int32} (h2 : ly u) (B : Nat → Prop) (hB : cl (D2 u) B) (hb : B b.toNatClampNeg) (hd : B d.toNatClampNeg) (ha : ¬ B a.toNatClampNeg) : ly (chg u a kd b d x) := by
  obtain ⟨rank, hr⟩ := ly_rank h2
  have hdec : ∀ i, Decidable (B i) := fun i => Classical.propDecidable _
  refine ly_of (fun i => if B i then rank i else rank i + (rank b.toNatClampNeg + rank d.toNatClampNeg + 1)) fun i hi j h => ?_
  (try dsimp only)
  rcases D2_chg h with ⟨e, _, h1⟩ | ⟨e, h1⟩
  · rw [if_neg (show ¬ B i by rw [e]; exact ha)]
    rcases h1 with h1 | h1
    · rw [h1, if_pos hb]; omega
    · rw [h1, if_pos hd]; omega
  · have q := hr i hi j h1
    by_cases z : B i
    · rw [if_pos z, if_pos (hB i hi z j h1)]; exact q
    · rw [if_neg z]
      by_cases z2 : B j
      · rw [if_pos z2]; omega
      · rw [if_neg z2]; omega
theorem rc_D {u : vM} {b a : Int32} : D2 (uX2_reaches u b a) = D2 u := D2_congr (fr_uX2_reaches (by decide)) (fr_uX2_reaches (by decide)) (fr_uX2_reaches (by decide))
theorem rc_fm {u : vM} {b a : Int32} (h : fm u) : fm (uX2_reaches u b a) := fm_congr (fr_uX2_reaches (by decide)) (fr_uX2_reaches (by decide)) h
theorem rc_ly {u : vM} {b a : Int32} (h : ly u) : ly (uX2_reaches u b a) := ly_congr (fr_uX2_reaches (by decide)) (fr_uX2_reaches (by decide)) (fr_uX2_reaches (by decide)) h
theorem ly_chg_one {u u1 : vM} {a b x kd : Int32} (h : fm u) (h2 : ly u) (ha : vp_in a 24) (hb : vp_in b 24) (h3 : rX2_reaches u b a = 0) (e1 : uX2_reaches u b a = u1) : ly (chg u1 a kd b b x) := by
  subst e1
  obtain ⟨b', hb', rfl⟩ := vp_in_of hb (by decide)
  obtain ⟨r1, r2, -⟩ := reach_spec h hb' a
  have r3 := reach_iff.mp h3
  have q : b' = (nI b').toNatClampNeg := (nI_clamp (by omega)).symm
  refine ly_chg_set (rc_ly h2) (fun i => (uX2_reaches u (nI b') a) 10 i = 1) (by rw [rc_D]; exact r2) ?_ ?_ r3
  · rw [← q]; exact r1
  · rw [← q]; exact r1
theorem ly_chg_two {u u1 u2 : vM} {a b d x kd : Int32} (h : fm u) (h2 : ly u) (ha : vp_in a 24) (hb : vp_in b 24) (hd : vp_in d 24) (h3 : rX2_reaches u b a = 0) (e1 : uX2_reaches u b a = u1) (h4 : rX2_reaches u1 d a = 0) (e2 : uX2_reaches u1 d a = u2) : ly (chg u2 a kd b d x) := by
  subst e1 e2
  obtain ⟨b', hb', rfl⟩ := vp_in_of hb (by decide)
  obtain ⟨d', hd', rfl⟩ := vp_in_of hd (by decide)
  obtain ⟨r1, r2, -⟩ := reach_spec h hb' a
  obtain ⟨s1, s2, -⟩ := reach_spec (rc_fm (b := nI b') (a := a) h) hd' a
  rw [rc_D] at s2
  have r3 := reach_iff.mp h3
  have s3 := reach_iff.mp h4
  have q : b' = (nI b').toNatClampNeg := (nI_clamp (by omega)).symm
  have q2 : d' = (nI d').toNatClampNeg := (nI_clamp (by omega)).symm
  refine ly_chg_set (rc_ly (rc_ly h2)) (fun i => (uX2_reaches u (nI b') a) 10 i = 1 ∨ (uX2_reaches (uX2_reaches u (nI b') a) (nI d') a) 10 i = 1) ?_ ?_ ?_ ?_
  · rw [rc_D, rc_D]
    intro i hi hm j hj
    rcases hm with hm | hm
    · exact Or.inl (r2 i hi hm j hj)
    · exact Or.inr (s2 i hi hm j hj)
  · rw [← q]; exact Or.inl r1
  · rw [← q2]; exact Or.inr s1
  · rintro (z | z)
    · exact r3 z
    · exact s3 z
