/-! the order of the cells: what it is, that the reference lays it, what reaches what -/
theorem upd_at {f : Nat → Int32} {k : Nat} {x : Int32} {j : Nat} : upd f k x j = if j = k then x else f j := rfl
theorem vp_ne1 {x : Int32} {n : Nat} (h : vp_in x n) : x ≠ -1 := by
  intro e
  rw [vp_in_iff, e] at h
  exact absurd h.1 (by decide)
theorem mrd_nI {u : vM} {q i : Nat} (h : i < 24) : mrd u q (nI i) = u q i := by
  unfold mrd
  rw [nI_clamp (by omega)]
/-- what a cell's formula reads -/
def RD (k o t : Nat → Int32) (i j : Nat) : Prop := (k i ≠ 0 ∧ j = (o i).toNatClampNeg) ∨ ((k i = 1 ∨ k i = 2) ∧ j = (t i).toNatClampNeg)
def D2 (u : vM) : Nat → Nat → Prop := RD (u 1) (u 2) (u 3)
theorem D2_congr {u v : vM} (h1 : v 1 = u 1) (h2 : v 2 = u 2) (h3 : v 3 = u 3) : D2 v = D2 u := by
  unfold D2
  rw [h1, h2, h3]
theorem D2_lt {u : vM} (h : fm u) {i j : Nat} (hi : i < 24) (hd : D2 u i j) : j < 24 := by
  rcases hd with ⟨_, e⟩ | ⟨_, e⟩
  · rw [e]; exact vp_in_clamp (h i hi).1
  · rw [e]; exact vp_in_clamp (h i hi).2
theorem ly_rank {u : vM} (h : ly u) : ∃ rank : Nat → Nat, ∀ i, i < 24 → ∀ j, D2 u i j → rank j < rank i := by
  obtain ⟨r, hr⟩ := h
  refine ⟨r, fun i hi j hd => ?_⟩
  rcases hd with ⟨a, e⟩ | ⟨a, e⟩
  · rw [e]; exact (hr i hi).1 a
  · rw [e]; exact (hr i hi).2 a
theorem ly_of {u : vM} (rank : Nat → Nat) (h : ∀ i, i < 24 → ∀ j, D2 u i j → rank j < rank i) : ly u := ⟨rank, fun i hi => ⟨fun a => h i hi _ (Or.inl ⟨a, rfl⟩), fun a => h i hi _ (Or.inr ⟨a, rfl⟩)⟩⟩
theorem one_eq {u : vM} {i : Nat} (h : i < 24) : rX2_one u (nI i) = if u 1 i = 0 then -1 else u 2 i := by
  unfold rX2_one
  rw [mrd_nI h, mrd_nI h]
theorem ift2 {a b : Prop} [Decidable a] [Decidable b] : (if a then (1 : Int32) else if b then 1 else 0) = 0 ↔ ¬ (a ∨ b) := by
  by_cases h1 : a
  · rw [if_pos h1]; exact ⟨fun h => absurd h (by decide), fun h => absurd (Or.inl h1) h⟩
  · rw [if_neg h1]
    by_cases h2 : b
    · rw [if_pos h2]; exact ⟨fun h => absurd h (by decide), fun h => absurd (Or.inr h2) h⟩
    · rw [if_neg h2]; exact ⟨fun _ h => h.elim h1 h2, fun _ => rfl⟩
theorem other_eq {u : vM} {i : Nat} (h : i < 24) : rX2_other u (nI i) = if u 1 i = 1 ∨ u 1 i = 2 then (if u 3 i = u 2 i then -1 else u 3 i) else -1 := by
  unfold rX2_other
  (try dsimp only)
  rw [mrd_nI h, mrd_nI h, mrd_nI h]
  by_cases h1 : u 1 i = 1 ∨ u 1 i = 2
  · rw [if_pos h1, if_neg (fun e => ift2.mp e h1)]
  · rw [if_neg h1, if_pos (ift2.mpr h1)]
/-- a cell is ready to be placed -/
def Rdy (u : vM) (i : Nat) : Prop := mrd u 10 (nI i) = 0 ∧ (rX2_one u (nI i) = -1 ∨ mrd u 10 (rX2_one u (nI i)) = 1) ∧ (rX2_other u (nI i) = -1 ∨ mrd u 10 (rX2_other u (nI i)) = 1)
theorem srch_step (u : vM) (n : Nat) (x : Int32) : (Rdy u n → lpX2_layOrder_34 u (n + 1) x = lpX2_layOrder_34 u n (nI n)) ∧ (¬ Rdy u n → lpX2_layOrder_34 u (n + 1) x = lpX2_layOrder_34 u n x) := by
  constructor
  · intro hr
    show lpX2_layOrder_34 u n _ = _
    (try dsimp only)
    rw [if_pos hr.1, if_neg (fun e => ift2.mp e hr.2.1), if_neg (fun e => ift2.mp e hr.2.2)]
  · intro hr
    show lpX2_layOrder_34 u n _ = _
    (try dsimp only)
    by_cases h0 : mrd u 10 (nI n) = 0
    · rw [if_pos h0]
      by_cases h1 : (rX2_one u (nI n) = -1 ∨ mrd u 10 (rX2_one u (nI n)) = 1)
      · rw [if_neg (fun e => ift2.mp e h1)]
        by_cases h2 : (rX2_other u (nI n) = -1 ∨ mrd u 10 (rX2_other u (nI n)) = 1)
        · exact absurd ⟨h0, h1, h2⟩ hr
        · rw [if_pos (ift2.mpr h2)]
      · rw [if_pos (ift2.mpr h1)]
    · rw [if_neg h0]
theorem srch (u : vM) : ∀ (n : Nat) (x : Int32), (∃ i, i < n ∧ Rdy u i ∧ (∀ j, j < i → ¬ Rdy u j) ∧ lpX2_layOrder_34 u n x = nI i) ∨ ((∀ i, i < n → ¬ Rdy u i) ∧ lpX2_layOrder_34 u n x = x) := by
  intro n
  induction n with
  | zero => intro x; exact Or.inr ⟨fun i hi => absurd hi (by omega), rfl⟩
  | succ n ih =>
    intro x
    by_cases hr : Rdy u n
    · rw [(srch_step u n x).1 hr]
      rcases ih (nI n) with ⟨i, a, b, c, d⟩ | ⟨a, b⟩
      · exact Or.inl ⟨i, by omega, b, c, d⟩
      · exact Or.inl ⟨n, by omega, hr, a, b⟩
    · rw [(srch_step u n x).2 hr]
      rcases ih x with ⟨i, a, b, c, d⟩ | ⟨a, b⟩
      · exact Or.inl ⟨i, by omega, b, c, d⟩
      · refine Or.inr ⟨fun i hi => ?_, b⟩
        by_cases e : i = n
        · rw [e]; exact hr
        · exact a i (by omega)
theorem Rdy_iff {u : vM} (hf : fm u) {i : Nat} (hi : i < 24) : Rdy u i ↔ (u 10 i = 0 ∧ ∀ j, D2 u i j → u 10 j = 1) := by
  unfold Rdy
  rw [mrd_nI hi, one_eq hi, other_eq hi]
  constructor
  · rintro ⟨h0, h1, h2⟩
    have g1 : u 1 i ≠ 0 → u 10 (u 2 i).toNatClampNeg = 1 := by
      intro a
      rw [if_neg a] at h1
      rcases h1 with h1 | h1
      · exact absurd h1 (vp_ne1 (hf i hi).1)
      · exact h1
    refine ⟨h0, fun j hd => ?_⟩
    rcases hd with ⟨a, e⟩ | ⟨a, e⟩
    · rw [e]; exact g1 a
    · rw [e]
      by_cases q : u 3 i = u 2 i
      · rw [q]
        refine g1 fun z => ?_
        rw [z] at a
        rcases a with a | a <;> exact absurd a (by decide)
      · rw [if_pos a, if_neg q] at h2
        rcases h2 with h2 | h2
        · exact absurd h2 (vp_ne1 (hf i hi).2)
        · exact h2
  · rintro ⟨h0, hj⟩
    refine ⟨h0, ?_, ?_⟩
    · by_cases a : u 1 i = 0
      · rw [if_pos a]; exact Or.inl rfl
      · rw [if_neg a]; exact Or.inr (hj _ (Or.inl ⟨a, rfl⟩))
    · by_cases a : u 1 i = 1 ∨ u 1 i = 2
      · rw [if_pos a]
        by_cases q : u 3 i = u 2 i
        · rw [if_pos q]; exact Or.inl rfl
        · rw [if_neg q]; exact Or.inr (hj _ (Or.inr ⟨a, rfl⟩))
      · rw [if_neg a]; exact Or.inl rfl
/-! pigeonholes -/
theorem pgi : ∀ (n k : Nat) (c : Nat → Nat), (∀ m, m < k → c m < n) → (∀ a b, a < k → b < k → c a = c b → a = b) → k ≤ n := by
  intro n
  induction n with
  | zero =>
    intro k c h1 _
    rcases Nat.eq_zero_or_pos k with e | e
    · omega
    · exact absurd (h1 0 e) (by omega)
  | succ n ih =>
    intro k c h1 h2
    by_cases hx : ∃ m, m < k ∧ c m = n
    · obtain ⟨m0, a, b⟩ := hx
      have := ih (k - 1) (fun m => if m = m0 then c (k - 1) else c m) (fun m hm => by
          (try dsimp only)
          by_cases e : m = m0
          · rw [if_pos e]
            have q1 := h1 (k - 1) (by omega)
            have q2 : c (k - 1) ≠ n := fun z => by
              have := h2 (k - 1) m0 (by omega) a (by rw [z, b])
              omega
            omega
          · rw [if_neg e]
            have q1 := h1 m (by omega)
            have q2 : c m ≠ n := fun z => e (h2 m m0 (by omega) a (by rw [z, b]))
            omega) (fun x y hx hy e => by
          (try dsimp only at e)
          by_cases ex : x = m0
          · by_cases ey : y = m0
            · rw [ex, ey]
            · rw [if_pos ex, if_neg ey] at e
              have := h2 (k - 1) y (by omega) (by omega) e
              omega
          · by_cases ey : y = m0
            · rw [if_neg ex, if_pos ey] at e
              have := h2 x (k - 1) (by omega) (by omega) e
              omega
            · rw [if_neg ex, if_neg ey] at e
              exact h2 x y (by omega) (by omega) e)
      omega
    · have := ih k c (fun m hm => by
          have q1 := h1 m hm
          have q2 : c m ≠ n := fun z => hx ⟨m, hm, z⟩
          omega) h2
      omega
theorem pgs {n k : Nat} {c : Nat → Nat} (h : ∀ j, j < n → ∃ m, m < k ∧ c m = j) : n ≤ k := by
  refine pgi k n (fun j => if q : j < n then Classical.choose (h j q) else 0) (fun m hm => ?_) (fun a b ha hb e => ?_)
  · (try dsimp only)
    rw [dif_pos hm]
    exact (Classical.choose_spec (h m hm)).1
  · (try dsimp only at e)
    rw [dif_pos ha, dif_pos hb] at e
    have q1 := (Classical.choose_spec (h a ha)).2
    have q2 := (Classical.choose_spec (h b hb)).2
    rw [← q1, ← q2, e]
/-! the order: at each place the least cell that is free there -/
def Fr (D : Nat → Nat → Prop) (c : Nat → Nat) (i j : Nat) : Prop := (∀ m, m < i → c m ≠ j) ∧ ∀ r, D j r → ∃ m, m < i ∧ c m = r
theorem Fr_congr {D : Nat → Nat → Prop} {c c' : Nat → Nat} {i j : Nat} (e : ∀ m, m < i → c' m = c m) (h : Fr D c i j) : Fr D c' i j := by
  refine ⟨fun m hm => ?_, fun r hr => ?_⟩
  · rw [e m hm]; exact h.1 m hm
  · obtain ⟨m, a, b⟩ := h.2 r hr
    exact ⟨m, a, by rw [e m a]; exact b⟩
def OK1 (D : Nat → Nat → Prop) (c : Nat → Nat) (o : Nat → Int32) (i : Nat) : Prop := o i = nI (c i) ∧ c i < 24 ∧ Fr D c i (c i) ∧ ∀ j, j < c i → ¬ Fr D c i j
theorem OK1_congr {D : Nat → Nat → Prop} {c c' : Nat → Nat} {o o' : Nat → Int32} {i : Nat} (e : ∀ m, m ≤ i → c' m = c m) (eo : o' i = o i) (h : OK1 D c o i) : OK1 D c' o' i := by
  obtain ⟨h1, h2, h3, h4⟩ := h
  unfold OK1
  rw [eo, e i (Nat.le_refl i)]
  exact ⟨h1, h2, Fr_congr (fun m hm => e m (by omega)) h3, fun j hj q => h4 j hj (Fr_congr (fun m hm => (e m (by omega)).symm) q)⟩
def OR (D : Nat → Nat → Prop) (o : Nat → Int32) : Prop := ∃ c : Nat → Nat, ∀ i, i < 24 → OK1 D c o i
theorem OR_eq {D : Nat → Nat → Prop} {o o' : Nat → Int32} (h : OR D o) (h' : OR D o') : ∀ i, i < 24 → o i = o' i := by
  obtain ⟨c, hc⟩ := h
  obtain ⟨c', hc'⟩ := h'
  have key : ∀ n, ∀ i, i < n → i < 24 → c i = c' i := by
    intro n
    induction n with
    | zero => intro i hi; exact absurd hi (by omega)
    | succ n ih =>
      intro i hi hi2
      have e : ∀ m, m < i → c' m = c m := fun m hm => (ih m (by omega) (by omega)).symm
      rcases Nat.lt_trichotomy (c i) (c' i) with q | q | q
      · exact absurd (Fr_congr e (hc i hi2).2.2.1) ((hc' i hi2).2.2.2 _ q)
      · exact q
      · exact absurd (Fr_congr (fun m hm => (e m hm).symm) (hc' i hi2).2.2.1) ((hc i hi2).2.2.2 _ q)
  intro i hi
  rw [(hc i hi).1, (hc' i hi).1, key (i + 1) i (by omega) hi]
theorem OR_congr {D : Nat → Nat → Prop} {o o' : Nat → Int32} (e : ∀ i, i < 24 → o' i = o i) (h : OR D o) : OR D o' := by
  obtain ⟨c, hc⟩ := h
  exact ⟨c, fun i hi => OK1_congr (fun _ _ => rfl) (e i hi) (hc i hi)⟩
/-- what the order gives: cells, no cell twice, what is read stands before, every cell stands -/
theorem OR_facts {D : Nat → Nat → Prop} {o : Nat → Int32} (h : OR D o) : ∃ c : Nat → Nat, (∀ i, i < 24 → o i = nI (c i) ∧ c i < 24) ∧ (∀ a b, a < 24 → b < 24 → c a = c b → a = b) ∧ (∀ i, i < 24 → ∀ r, D (c i) r → ∃ m, m < i ∧ c m = r) ∧ (∀ j, j < 24 → ∃ i, i < 24 ∧ c i = j) := by
  obtain ⟨c, hc⟩ := h
  have hinj : ∀ a b, a < 24 → b < 24 → c a = c b → a = b := by
    intro a b ha hb e
    rcases Nat.lt_trichotomy a b with q | q | q
    · exact absurd e ((hc b hb).2.2.1.1 a q)
    · exact q
    · exact absurd e.symm ((hc a ha).2.2.1.1 b q)
  refine ⟨c, fun i hi => ⟨(hc i hi).1, (hc i hi).2.1⟩, hinj, fun i hi => (hc i hi).2.2.1.2, fun j hj => ?_⟩
  rcases Classical.em (∃ i, i < 24 ∧ c i = j) with q | q
  · exact q
  · have := pgi 24 25 (fun m => if m < 24 then c m else j) (fun m _ => by
        (try dsimp only)
        by_cases e : m < 24
        · rw [if_pos e]; exact (hc m e).2.1
        · rw [if_neg e]; exact hj) (fun a b ha hb e => by
        (try dsimp only at e)
        by_cases ea : a < 24
        · by_cases eb : b < 24
          · rw [if_pos ea, if_pos eb] at e; exact hinj a b ea eb e
          · rw [if_pos ea, if_neg eb] at e; exact absurd ⟨a, ea, e⟩ q
        · by_cases eb : b < 24
          · rw [if_neg ea, if_pos eb] at e; exact absurd ⟨b, eb, e.symm⟩ q
          · omega)
    omega
/-- k places are laid: the row of the order, the row of those that stand -/
def Inv (D : Nat → Nat → Prop) (k : Nat) (o s : Nat → Int32) : Prop := ∃ c : Nat → Nat, (∀ i, i < k → OK1 D c o i) ∧ (∀ j, j < 24 → s j = 0 ∨ s j = 1) ∧ (∀ j, j < 24 → (s j = 1 ↔ ∃ m, m < k ∧ c m = j))
theorem Inv_zero {D : Nat → Nat → Prop} {o s : Nat → Int32} (h : ∀ j, j < 24 → s j = 0) : Inv D 0 o s := by
  refine ⟨fun _ => 0, fun i hi => absurd hi (by omega), fun j hj => Or.inl (h j hj), fun j hj => ⟨fun e => ?_, fun ⟨m, hm, _⟩ => absurd hm (by omega)⟩⟩
  rw [h j hj] at e
  exact absurd e (by decide)
theorem Inv_OR {D : Nat → Nat → Prop} {o s : Nat → Int32} (h : Inv D 24 o s) : OR D o := by
  obtain ⟨c, hc, -⟩ := h
  exact ⟨c, hc⟩
theorem Inv_ex {D : Nat → Nat → Prop} {k : Nat} {o s : Nat → Int32} {rank : Nat → Nat} (hr : ∀ i, i < 24 → ∀ j, D i j → rank j < rank i) (hD : ∀ i, i < 24 → ∀ j, D i j → j < 24) (hk : k < 24) (h : Inv D k o s) : ∃ v, v < 24 ∧ s v = 0 ∧ ∀ r, D v r → s r = 1 := by
  obtain ⟨c, hc, hb, hs⟩ := h
  have h0 : ∃ v, v < 24 ∧ s v = 0 := by
    rcases Classical.em (∃ v, v < 24 ∧ s v = 0) with q | q
    · exact q
    · have := pgs (n := 24) (k := k) (c := c) (fun j hj => (hs j hj).mp ((hb j hj).resolve_left fun z => q ⟨j, hj, z⟩))
      omega
  have key : ∀ n v, rank v < n → v < 24 → s v = 0 → ∃ v, v < 24 ∧ s v = 0 ∧ ∀ r, D v r → s r = 1 := by
    intro n
    induction n with
    | zero => intro v hv; exact absurd hv (by omega)
    | succ n ih =>
      intro v hv hv2 hv3
      rcases Classical.em (∀ r, D v r → s r = 1) with q | q
      · exact ⟨v, hv2, hv3, q⟩
      · obtain ⟨r, hq⟩ := Classical.not_forall.mp q
        have hd : D v r := Classical.byContradiction fun z => hq fun w => absurd w z
        have hn : s r ≠ 1 := fun z => hq fun _ => z
        have := hr v hv2 r hd
        have hr24 := hD v hv2 r hd
        exact ih r (by omega) hr24 ((hb r hr24).resolve_right hn)
  obtain ⟨v, hv, hv0⟩ := h0
  exact key (rank v + 1) v (by omega) hv hv0
theorem Inv_step {D : Nat → Nat → Prop} {k : Nat} {o s : Nat → Int32} {v : Nat} (hD : ∀ i, i < 24 → ∀ j, D i j → j < 24) (h : Inv D k o s) (hv : v < 24) (h1 : s v = 0 ∧ ∀ r, D v r → s r = 1) (h2 : ∀ j, j < v → ¬ (s j = 0 ∧ ∀ r, D j r → s r = 1)) : Inv D (k + 1) (upd o k (nI v)) (upd s v 1) := by
  obtain ⟨c, hc, hb, hs⟩ := h
  have hF : ∀ j, j < 24 → (Fr D c k j ↔ (s j = 0 ∧ ∀ r, D j r → s r = 1)) := by
    intro j hj
    constructor
    · rintro ⟨a, b⟩
      refine ⟨(hb j hj).resolve_right fun z => ?_, fun r hr => (hs r (hD j hj r hr)).mpr (b r hr)⟩
      obtain ⟨m, hm, e⟩ := (hs j hj).mp z
      exact a m hm e
    · rintro ⟨a, b⟩
      refine ⟨fun m hm e => ?_, fun r hr => (hs r (hD j hj r hr)).mp (b r hr)⟩
      have := (hs j hj).mpr ⟨m, hm, e⟩
      rw [a] at this
      exact absurd this (by decide)
  refine ⟨fun m => if m = k then v else c m, fun i hi => ?_, fun j hj => ?_, fun j hj => ?_⟩
  · by_cases e : i = k
    · subst e
      have e2 : ∀ m, m < i → (fun m => if m = i then v else c m) m = c m := fun m hm => if_neg (by omega)
      refine ⟨?_, ?_, ?_, ?_⟩
      · rw [upd_at, if_pos rfl]
        (try dsimp only)
        rw [if_pos rfl]
      · (try dsimp only); rw [if_pos rfl]; exact hv
      · (try dsimp only at e2 ⊢)
        rw [if_pos rfl]
        exact Fr_congr e2 ((hF v hv).mpr h1)
      · intro j hj
        (try dsimp only at hj)
        rw [if_pos rfl] at hj
        intro q
        exact h2 j hj ((hF j (by omega)).mp (Fr_congr (fun m hm => (e2 m hm).symm) q))
    · exact OK1_congr (fun m hm => if_neg (by omega)) (by rw [upd_at, if_neg e]) (hc i (by omega))
  · rw [upd_at]
    by_cases e : j = v
    · rw [if_pos e]; exact Or.inr rfl
    · rw [if_neg e]; exact hb j hj
  · rw [upd_at]
    by_cases e : j = v
    · rw [if_pos e]
      exact ⟨fun _ => ⟨k, by omega, by (try dsimp only); rw [if_pos rfl, e]⟩, fun _ => rfl⟩
    · rw [if_neg e, hs j hj]
      constructor
      · rintro ⟨m, hm, q⟩
        exact ⟨m, by omega, by (try dsimp only); rw [if_neg (by omega)]; exact q⟩
      · rintro ⟨m, hm, q⟩
        (try dsimp only at q)
        by_cases em : m = k
        · rw [if_pos em] at q; exact absurd q.symm e
        · rw [if_neg em] at q; exact ⟨m, by omega, q⟩
theorem mup_row {u : vM} {q : Nat} {i x : Int32} : mup u q i x q = upd (u q) i.toNatClampNeg x := by
  funext j
  exact mup_at
/-- a round of the reference's search -/
theorem lo_round {u : vM} (hf : fm u) (hl : ly u) {k : Nat} (hk : k < 24) (h : Inv (D2 u) k (u 9) (u 10)) : ∃ v, v < 24 ∧ lpX2_layOrder_34 u 24 (-1) = nI v ∧ Inv (D2 u) (k + 1) (upd (u 9) k (nI v)) (upd (u 10) v 1) := by
  obtain ⟨rank, hr⟩ := ly_rank hl
  have hD : ∀ i, i < 24 → ∀ j, D2 u i j → j < 24 := fun i hi j hd => D2_lt hf hi hd
  rcases srch u 24 (-1) with ⟨i, a, b, c, d⟩ | ⟨a, -⟩
  · exact ⟨i, a, d, Inv_step hD h a ((Rdy_iff hf a).mp b) fun j hj q => c j hj ((Rdy_iff hf (by omega)).mpr q)⟩
  · obtain ⟨v, hv, h0, h1⟩ := Inv_ex hr hD hk h
    exact absurd ((Rdy_iff hf hv).mpr ⟨h0, h1⟩) (a v hv)
theorem lo_loop : ∀ (n k : Nat) (u : vM), fm u → ly u → k + n ≤ 24 → Inv (D2 u) k (u 9) (u 10) → Inv (D2 u) (k + n) ((lpX2_layOrder_23 n k u) 9) ((lpX2_layOrder_23 n k u) 10) := by
  intro n
  induction n with
  | zero => intro k u _ _ _ h; exact h
  | succ n ih =>
    intro k u hf hl hk h
    obtain ⟨v, hv, e, hi⟩ := lo_round hf hl (by omega) h
    show Inv (D2 u) (k + (n + 1)) (lpX2_layOrder_23 n (k + 1) (mup (mup u 9 (nI k) (lpX2_layOrder_34 u 24 (-1))) 10 (lpX2_layOrder_34 u 24 (-1)) 1) 9) (lpX2_layOrder_23 n (k + 1) (mup (mup u 9 (nI k) (lpX2_layOrder_34 u 24 (-1))) 10 (lpX2_layOrder_34 u 24 (-1)) 1) 10)
    rw [e]
    have f : ∀ q, q ≠ 9 → q ≠ 10 → mup (mup u 9 (nI k) (nI v)) 10 (nI v) 1 q = u q := fun q h9 h10 => by rw [mup_ne h10, mup_ne h9]
    have e1 := f 1 (by decide) (by decide)
    have e2 := f 2 (by decide) (by decide)
    have e3 := f 3 (by decide) (by decide)
    have eD := D2_congr e1 e2 e3
    have e9 : mup (mup u 9 (nI k) (nI v)) 10 (nI v) 1 9 = upd (u 9) k (nI v) := by
      rw [mup_ne (by decide), mup_row, nI_clamp (by omega)]
    have e10 : mup (mup u 9 (nI k) (nI v)) 10 (nI v) 1 10 = upd (u 10) v 1 := by
      rw [mup_row, mup_ne (by decide), nI_clamp (by omega)]
    have := ih (k + 1) (mup (mup u 9 (nI k) (nI v)) 10 (nI v) 1) (fm_congr e2 e3 hf) (ly_congr e1 e2 e3 hl) (by omega) (by rw [eD, e9, e10]; exact hi)
    rw [eD] at this
    rw [show k + (n + 1) = k + 1 + n by omega]
    exact this
theorem lo_clear : ∀ (n k : Nat) (u : vM), k + n ≤ 24 → ∀ j, (lpX2_layOrder_2 n k u) 10 j = if k ≤ j ∧ j < k + n then 0 else u 10 j := by
  intro n
  induction n with
  | zero => intro k u _ j; rw [if_neg (by omega)]; rfl
  | succ n ih =>
    intro k u hk j
    show lpX2_layOrder_2 n (k + 1) (mup u 10 (nI k) 0) 10 j = _
    rw [ih (k + 1) _ (by omega) j, mup_at, nI_clamp (by omega)]
    by_cases e : j = k
    · rw [if_neg (by omega), if_pos e, if_pos (by omega)]
    · rw [if_neg e]
      by_cases q : k ≤ j ∧ j < k + (n + 1)
      · rw [if_pos q, if_pos (by omega)]
      · rw [if_neg q, if_neg (by omega)]
theorem lo_start {u : vM} : Inv (D2 u) 0 ((lpX2_layOrder_2 24 0 u) 9) ((lpX2_layOrder_2 24 0 u) 10) := by
  refine Inv_zero fun j hj => ?_
  rw [lo_clear 24 0 u (by decide) j, if_pos (by omega)]
theorem lo_D {u : vM} : D2 (lpX2_layOrder_2 24 0 u) = D2 u := D2_congr (fr_lpX2_layOrder_2 (by decide)) (fr_lpX2_layOrder_2 (by decide)) (fr_lpX2_layOrder_2 (by decide))
theorem lo_inv {u : vM} (hf : fm u) (hl : ly u) (n : Nat) (hn : n ≤ 24) : Inv (D2 u) n ((lpX2_layOrder_23 n 0 (lpX2_layOrder_2 24 0 u)) 9) ((lpX2_layOrder_23 n 0 (lpX2_layOrder_2 24 0 u)) 10) := by
  have := lo_loop n 0 (lpX2_layOrder_2 24 0 u) (fm_congr (fr_lpX2_layOrder_2 (by decide)) (fr_lpX2_layOrder_2 (by decide)) hf) (ly_congr (fr_lpX2_layOrder_2 (by decide)) (fr_lpX2_layOrder_2 (by decide)) (fr_lpX2_layOrder_2 (by decide)) hl) (by omega) (by rw [lo_D]; exact lo_start)
  rw [lo_D, Nat.zero_add] at this
  exact this
theorem sr_start {u : vM} (h : fm u) (h2 : ly u) : sr 24 0 (lpX2_layOrder_2 24 0 u) := by
  intro j hj
  have hi := lo_inv h h2 j (by omega)
  have e : ∀ q, q ≠ 9 → q ≠ 10 → lpX2_layOrder_23 j 0 (lpX2_layOrder_2 24 0 u) q = u q := fun q h9 h10 => by rw [fr_lpX2_layOrder_23 h9 h10, fr_lpX2_layOrder_2 h10]
  have e1 := e 1 (by decide) (by decide)
  have e2 := e 2 (by decide) (by decide)
  have e3 := e 3 (by decide) (by decide)
  obtain ⟨v, hv, q, -⟩ := lo_round (u := lpX2_layOrder_23 j 0 (lpX2_layOrder_2 24 0 u)) (fm_congr e2 e3 h) (ly_congr e1 e2 e3 h2) hj (by rw [D2_congr e1 e2 e3]; exact hi)
  rw [q]
  exact vp_in_nI hv (by decide)
theorem lo_OR {u : vM} (h : fm u) (h2 : ly u) : OR (D2 u) (uX2_layOrder u 9) := Inv_OR (lo_inv h h2 24 (Nat.le_refl 24))
theorem od_X2_layOrder {u : vM} (h : fm u) (h2 : ly u) : od (uX2_layOrder u) := by
  obtain ⟨c, hc⟩ := lo_OR h h2
  intro i hi
  rw [(hc i hi).1]
  exact vp_in_nI (hc i hi).2.1 (by decide)
