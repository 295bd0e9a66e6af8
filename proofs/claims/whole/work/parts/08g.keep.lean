/-! the class's order, its test of circles, a change -/
theorem rd_iff {u : vM} {x : Int32} (h : vp_in x 24) : rX1_isReady u x = 0 ↔ u 10 x.toNatClampNeg = 0 := by
  have e : rX1_isReady u x = 0 ↔ isInq 10 u x = 0 := by
    show (if x = -1 then (1 : Int32) else if isInq 10 u x = 0 then 0 else 1) = 0 ↔ _
    rw [if_neg (vp_ne1 h)]
    by_cases q : isInq 10 u x = 0
    · rw [if_pos q]; exact ⟨fun _ => q, fun _ => rfl⟩
    · rw [if_neg q]; exact ⟨fun z => absurd z (by decide), fun z => absurd z q⟩
  rw [e, isInq_in h]
theorem rd_m1 {u : vM} : rX1_isReady u (-1) ≠ 0 := by
  unfold rX1_isReady
  rw [if_pos rfl]
  decide
def CRd (u : vM) (i : Nat) : Prop := mrd u 10 (nI i) = 0 ∧ ¬ rX1_isReady u (mrd u 2 (nI i)) = 0 ∧ ¬ rX1_isReady u (mrd u 3 (nI i)) = 0
theorem csrch (u : vM) : ∀ (n k : Nat), (∃ i, k ≤ i ∧ i < k + n ∧ CRd u i ∧ (∀ j, k ≤ j → j < i → ¬ CRd u j) ∧ lpX1_lowestFreeCell_2 u n k = nI i) ∨ ((∀ i, k ≤ i → i < k + n → ¬ CRd u i) ∧ lpX1_lowestFreeCell_2 u n k = -1) := by
  intro n
  induction n with
  | zero => intro k; exact Or.inr ⟨fun i h1 h2 => absurd h2 (by omega), rfl⟩
  | succ n ih =>
    intro k
    by_cases hr : CRd u k
    · refine Or.inl ⟨k, by omega, by omega, hr, fun j h1 h2 => absurd h2 (by omega), ?_⟩
      unfold lpX1_lowestFreeCell_2
      rw [if_pos hr.1, if_neg hr.2.1, if_neg hr.2.2]
    · have e : lpX1_lowestFreeCell_2 u (n + 1) k = lpX1_lowestFreeCell_2 u n (k + 1) := by
        show (if (mrd u 10 (nI k)) = 0 then (if (rX1_isReady u (mrd u 2 (nI k))) = 0 then lpX1_lowestFreeCell_2 u n (k + 1) else (if (rX1_isReady u (mrd u 3 (nI k))) = 0 then lpX1_lowestFreeCell_2 u n (k + 1) else (nI k))) else lpX1_lowestFreeCell_2 u n (k + 1)) = _
        by_cases h0 : mrd u 10 (nI k) = 0
        · rw [if_pos h0]
          by_cases h1 : rX1_isReady u (mrd u 2 (nI k)) = 0
          · rw [if_pos h1]
          · rw [if_neg h1]
            by_cases h2 : rX1_isReady u (mrd u 3 (nI k)) = 0
            · rw [if_pos h2]
            · exact absurd ⟨h0, h1, h2⟩ hr
        · rw [if_neg h0]
      rw [e]
      rcases ih (k + 1) with ⟨i, a1, a2, b, c, d⟩ | ⟨a, b⟩
      · refine Or.inl ⟨i, by omega, by omega, b, fun j h1 h2 => ?_, d⟩
        by_cases q : j = k
        · rw [q]; exact hr
        · exact c j (by omega) h2
      · refine Or.inr ⟨fun i h1 h2 => ?_, b⟩
        by_cases q : i = k
        · rw [q]; exact hr
        · exact a i (by omega) (by omega)
theorem CRd_iff {u g : vM} (hf : fm g) (hO : RO u g) (hs : ∀ j, j < 24 → u 10 j = 0 ∨ u 10 j = 1) {i : Nat} (hi : i < 24) : CRd u i ↔ (u 10 i = 0 ∧ ∀ j, D2 g i j → u 10 j = 1) := by
  unfold CRd
  rw [mrd_nI hi, mrd_nI hi, mrd_nI hi, (hO i hi).1, (hO i hi).2]
  constructor
  · rintro ⟨h0, h1, h2⟩
    refine ⟨h0, ?_⟩
    rintro j (⟨a, e⟩ | ⟨a, e⟩)
    · rw [if_neg a, rd_iff (hf i hi).1, ← e] at h1
      exact (hs j (by rw [e]; exact vp_in_clamp (hf i hi).1)).resolve_left h1
    · rw [if_pos a, rd_iff (hf i hi).2, ← e] at h2
      exact (hs j (by rw [e]; exact vp_in_clamp (hf i hi).2)).resolve_left h2
  · rintro ⟨h0, hj⟩
    refine ⟨h0, ?_, ?_⟩
    · by_cases a : g 1 i = 0
      · rw [if_pos a]; exact rd_m1
      · rw [if_neg a, rd_iff (hf i hi).1, hj _ (Or.inl ⟨a, rfl⟩)]
        decide
    · by_cases a : g 1 i = 1 ∨ g 1 i = 2
      · rw [if_pos a, rd_iff (hf i hi).2, hj _ (Or.inr ⟨a, rfl⟩)]
        decide
      · rw [if_neg a]; exact rd_m1
theorem c_round {u g : vM} (hf : fm g) (hl : ly g) (hO : RO u g) {k : Nat} (hk : k < 24) (h : Inv (D2 g) k (u 7) (u 10)) : ∃ v, v < 24 ∧ rX1_lowestFreeCell u = nI v ∧ Inv (D2 g) (k + 1) (upd (u 7) k (nI v)) (upd (u 10) v 1) := by
  obtain ⟨rank, hr⟩ := ly_rank hl
  have hD : ∀ i, i < 24 → ∀ j, D2 g i j → j < 24 := fun i hi j hd => D2_lt hf hi hd
  have hs : ∀ j, j < 24 → u 10 j = 0 ∨ u 10 j = 1 := by
    obtain ⟨_, _, q, _⟩ := h
    exact q
  rcases csrch u 24 0 with ⟨i, _, a, b, c, d⟩ | ⟨a, -⟩
  · exact ⟨i, by omega, d, Inv_step hD h (by omega) ((CRd_iff hf hO hs (by omega)).mp b) fun j hj q => c j (by omega) hj ((CRd_iff hf hO hs (by omega)).mpr q)⟩
  · obtain ⟨v, hv, h0, h1⟩ := Inv_ex hr hD hk h
    exact absurd ((CRd_iff hf hO hs hv).mpr ⟨h0, h1⟩) (a v (by omega) (by omega))
theorem c_loop {g : vM} (hf : fm g) (hl : ly g) : ∀ (n k : Nat) (u : vM), RO u g → k + n ≤ 24 → Inv (D2 g) k (u 7) (u 10) → Inv (D2 g) (k + n) ((lpX1_putInOrder_23 n k u) 7) ((lpX1_putInOrder_23 n k u) 10) := by
  intro n
  induction n with
  | zero => intro k u _ _ h; exact h
  | succ n ih =>
    intro k u hO hk h
    obtain ⟨v, hv, e, hi⟩ := c_round hf hl hO (by omega) h
    unfold lpX1_putInOrder_23
    dsimp only
    rw [e, if_neg (by rw [cell1_all v hv]; decide)]
    have e7 : mup (mup u 7 (nI k) (nI v)) 10 (nI v) 1 7 = upd (u 7) k (nI v) := by
      rw [mup_ne (by decide), mup_row, nI_clamp (by omega)]
    have e10 : mup (mup u 7 (nI k) (nI v)) 10 (nI v) 1 10 = upd (u 10) v 1 := by
      rw [mup_row, mup_ne (by decide), nI_clamp (by omega)]
    have := ih (k + 1) (mup (mup u 7 (nI k) (nI v)) 10 (nI v) 1) (RO_fr (by rw [mup_ne (by decide), mup_ne (by decide)]) (by rw [mup_ne (by decide), mup_ne (by decide)]) rfl rfl rfl hO) (by omega) (by rw [e7, e10]; exact hi)
    rw [show k + (n + 1) = k + 1 + n by omega]
    exact this
theorem c_clear : ∀ (n k : Nat) (u : vM), k + n ≤ 24 → ∀ j, (lpX1_putInOrder_2 n k u) 10 j = if k ≤ j ∧ j < k + n then 0 else u 10 j := by
  intro n
  induction n with
  | zero => intro k u _ j; rw [if_neg (by omega)]; rfl
  | succ n ih =>
    intro k u hk j
    show lpX1_putInOrder_2 n (k + 1) (mup u 10 (nI k) 0) 10 j = _
    rw [ih (k + 1) _ (by omega) j, mup_at, nI_clamp (by omega)]
    by_cases e : j = k
    · rw [if_neg (by omega), if_pos e, if_pos (by omega)]
    · rw [if_neg e]
      by_cases q : k ≤ j ∧ j < k + (n + 1)
      · rw [if_pos q, if_pos (by omega)]
      · rw [if_neg q, if_neg (by omega)]
theorem c_OR {u g : vM} (hf : fm g) (hl : ly g) (hO : RO u g) : OR (D2 g) (uX1_putInOrder u 7) := by
  refine Inv_OR (s := uX1_putInOrder u 10) ?_
  have := c_loop hf hl 24 0 (lpX1_putInOrder_2 24 0 u) (RO_fr (fr_lpX1_putInOrder_2 (by decide)) (fr_lpX1_putInOrder_2 (by decide)) rfl rfl rfl hO) (by decide) (Inv_zero fun j hj => by rw [c_clear 24 0 u (by decide) j, if_pos (by omega)])
  exact this
/-! circles -/
theorem w_clear (a : Int32) : ∀ (n k : Nat) (u : vM), k + n ≤ 24 → ∀ j, (lpX1_wouldReadItself_3 a n k u) 11 j = if k ≤ j ∧ j < k + n then (if nI j = a then 1 else 0) else u 11 j := by
  intro n
  induction n with
  | zero => intro k u _ j; rw [if_neg (by omega)]; rfl
  | succ n ih =>
    intro k u hk j
    show lpX1_wouldReadItself_3 a n (k + 1) (mup u 11 (nI k) (if nI k = a then 1 else 0)) 11 j = _
    rw [ih (k + 1) _ (by omega) j, mup_at, nI_clamp (by omega)]
    by_cases e : j = k
    · rw [if_neg (by omega), if_pos e, e]
      exact (if_pos (by omega)).symm
    · rw [if_neg e]
      by_cases q : k ≤ j ∧ j < k + (n + 1)
      · rw [if_pos q, if_pos (by omega)]
      · rw [if_neg q, if_neg (by omega)]
/-- a set that holds all that read its members -/
def ucl (D : Nat → Nat → Prop) (C : Nat → Prop) : Prop := ∀ i, i < 24 → ∀ j, D i j → C j → C i
theorem w_loop {g : vM} (hf : fm g) {c : Nat → Nat} (hc : ∀ i, i < 24 → c i < 24) (hinj : ∀ a b, a < 24 → b < 24 → c a = c b → a = b) (htop : ∀ i, i < 24 → ∀ r, D2 g (c i) r → ∃ m, m < i ∧ c m = r) : ∀ (n k : Nat) (u : vM), k + n = 24 → RO u g → (∀ i, i < 24 → u 7 i = nI (c i)) → (∀ m, m < k → ∀ j, D2 g (c m) j → u 11 j ≠ 0 → u 11 (c m) ≠ 0) → (∀ m, m < 24 → ∀ j, D2 g (c m) j → (lpX1_wouldReadItself_37 n k u) 11 j ≠ 0 → (lpX1_wouldReadItself_37 n k u) 11 (c m) ≠ 0) ∧ (∀ j, u 11 j ≠ 0 → (lpX1_wouldReadItself_37 n k u) 11 j ≠ 0) ∧ (∀ C : Nat → Prop, ucl (D2 g) C → (∀ j, j < 24 → u 11 j ≠ 0 → C j) → ∀ j, j < 24 → (lpX1_wouldReadItself_37 n k u) 11 j ≠ 0 → C j) := by
  intro n
  induction n with
  | zero =>
    intro k u hk _ _ h
    exact ⟨fun m hm => h m (by omega), fun _ h => h, fun _ _ h => h⟩
  | succ n ih =>
    intro k u hk hO h7 h
    have hck := hc k (by omega)
    have m1 : mrd u 7 (nI k) = nI (c k) := by rw [mrd_nI (by omega)]; exact h7 k (by omega)
    unfold lpX1_wouldReadItself_37
    dsimp only
    rw [m1, if_neg (show ¬ rX1_isCell (nI (c k)) = 0 by rw [cell1_all _ hck]; decide)]
    by_cases hr : rX1_readsOneOf_v11 u (nI (c k)) = 0
    · rw [if_pos hr]
      have hn := (ro11 hf hO hck).mp hr
      refine ih (k + 1) u (by omega) hO h7 fun m hm j hd hj => ?_
      by_cases e : m = k
      · rw [e] at hd
        exact absurd (hn j hd) hj
      · exact h m (by omega) j hd hj
    · rw [if_neg hr]
      have hat : ∀ j, mup u 11 (nI (c k)) 1 11 j = if j = c k then 1 else u 11 j := fun j => by rw [mup_at, nI_clamp (by omega)]
      obtain ⟨i1, i2, i3⟩ := ih (k + 1) (mup u 11 (nI (c k)) 1) (by omega) (RO_fr (mup_ne (by decide)) (mup_ne (by decide)) rfl rfl rfl hO) (fun i hi => by rw [mup_ne (by decide)]; exact h7 i hi) (fun m hm j hd hj => by
        rw [hat] at hj ⊢
        by_cases e : c m = c k
        · rw [if_pos e]; decide
        · rw [if_neg e]
          by_cases ej : j = c k
          · obtain ⟨m', hm', e'⟩ := htop m (by omega) j hd
            have := hinj m' k (by omega) (by omega) (by rw [e', ej])
            omega
          · rw [if_neg ej] at hj
            refine h m ?_ j hd hj
            have : m ≠ k := fun z => e (by rw [z])
            omega)
      refine ⟨i1, fun j hj => i2 j ?_, fun C hC hm => i3 C hC fun j hj hn => ?_⟩
      · rw [hat]
        by_cases ej : j = c k
        · rw [if_pos ej]; decide
        · rw [if_neg ej]; exact hj
      · rw [hat] at hn
        by_cases ej : j = c k
        · have hx : ∃ r, D2 g (c k) r ∧ u 11 r ≠ 0 := Classical.byContradiction fun z => hr ((ro11 hf hO hck).mpr fun r hd => Classical.byContradiction fun w => z ⟨r, hd, w⟩)
          obtain ⟨r, hd, hn2⟩ := hx
          rw [ej]
          exact hC (c k) hck r hd (hm r (D2_lt hf hck hd) hn2)
        · rw [if_neg ej] at hn
          exact hm j hj hn
theorem w_spec {u g : vM} (hf : fm g) (hO : RO u g) (h7 : OR (D2 g) (u 7)) {a : Nat} (ha : a < 24) (x y : Int32) : uX1_wouldReadItself u (nI a) x y 11 a ≠ 0 ∧ ucl (D2 g) (fun i => uX1_wouldReadItself u (nI a) x y 11 i ≠ 0) ∧ (∀ C : Nat → Prop, ucl (D2 g) C → C a → ∀ j, j < 24 → uX1_wouldReadItself u (nI a) x y 11 j ≠ 0 → C j) := by
  obtain ⟨c, h1, h2, h3, h4⟩ := OR_facts h7
  have fr : ∀ q, q ≠ 11 → lpX1_wouldReadItself_3 (nI a) 24 0 u q = u q := fun q hq => fr_lpX1_wouldReadItself_3 hq
  have e : ∀ j, j < 24 → ((lpX1_wouldReadItself_3 (nI a) 24 0 u) 11 j ≠ 0 ↔ j = a) := by
    intro j hj
    rw [w_clear (nI a) 24 0 u (by decide) j, if_pos (by omega)]
    by_cases q : j = a
    · rw [if_pos (by rw [q])]; exact ⟨fun _ => q, fun _ => by decide⟩
    · rw [if_neg (fun z => q ((nI_eq (by omega) (by omega)).mp z))]
      exact ⟨fun z => absurd rfl z, fun z => absurd z q⟩
  obtain ⟨i1, i2, i3⟩ := w_loop hf (fun i hi => (h1 i hi).2) h2 h3 24 0 (lpX1_wouldReadItself_3 (nI a) 24 0 u) (by decide) (RO_fr (fr 2 (by decide)) (fr 3 (by decide)) rfl rfl rfl hO) (fun i hi => by rw [fr 7 (by decide)]; exact (h1 i hi).1) (fun m hm => absurd hm (by omega))
  refine ⟨i2 a ((e a ha).mpr rfl), fun i hi j hd hj => ?_, fun C hC hCa j hj hn => i3 C hC (fun i hi hm => ?_) j hj hn⟩
  · obtain ⟨m, hm, em⟩ := h4 i hi
    rw [← em] at hd ⊢
    exact i1 m hm j hd hj
  · rw [(e i hi).mp hm]; exact hCa
/-- the two tests of circles agree -/
theorem w_reach {u g : vM} (hf : fm g) (hO : RO u g) (h7 : OR (D2 g) (u 7)) {a b : Nat} (ha : a < 24) (hb : b < 24) (x y : Int32) : uX1_wouldReadItself u (nI a) x y 11 b = 0 ↔ rX2_reaches g (nI b) (nI a) = 0 := by
  obtain ⟨w1, w2, w3⟩ := w_spec hf hO h7 ha x y
  obtain ⟨r1, r2, r3⟩ := reach_spec hf hb (nI a)
  rw [reach_iff, nI_clamp (by omega)]
  constructor
  · intro h0 hr
    exact w1 (r3 (fun i => uX1_wouldReadItself u (nI a) x y 11 i = 0) (fun i hi hm j hd => Classical.byContradiction fun z => w2 i hi j hd z hm) h0 a ha hr)
  · intro hr
    refine Classical.byContradiction fun h0 => ?_
    exact w3 (fun i => ¬ uX2_reaches g (nI b) (nI a) 10 i = 1) (fun i hi j hd hj hm => hj (r2 i hi hm j hd)) hr b hb h0 r1
theorem wri_two {u g g' : vM} (hf : fm g) (hO : RO u g) (h7 : OR (D2 g) (u 7)) (hf' : fm g') (hO' : RO u g') (h7' : OR (D2 g') (u 7)) {a b d : Nat} (ha : a < 24) (hb : b < 24) (hd : d < 24) : rX1_wouldReadItself u (nI a) (nI b) (nI d) = 0 ↔ (rX2_reaches g (nI b) (nI a) = 0 ∧ rX2_reaches g' (nI d) (nI a) = 0) := by
  rw [← w_reach hf hO h7 ha hb (nI b) (nI d), ← w_reach hf' hO' h7' ha hd (nI b) (nI d)]
  have q1 := isInq_in (q := 11) (u := uX1_wouldReadItself u (nI a) (nI b) (nI d)) (vp_in_nI hb (by decide))
  have q2 := isInq_in (q := 11) (u := uX1_wouldReadItself u (nI a) (nI b) (nI d)) (vp_in_nI hd (by decide))
  rw [nI_clamp (by omega)] at q1 q2
  rw [← q1, ← q2]
  exact ite01
theorem wri_one {u g : vM} (hf : fm g) (hO : RO u g) (h7 : OR (D2 g) (u 7)) {a b : Nat} (ha : a < 24) (hb : b < 24) : rX1_wouldReadItself u (nI a) (nI b) (-1) = 0 ↔ rX2_reaches g (nI b) (nI a) = 0 := by
  rw [← w_reach hf hO h7 ha hb (nI b) (-1)]
  have q1 := isInq_in (q := 11) (u := uX1_wouldReadItself u (nI a) (nI b) (-1)) (vp_in_nI hb (by decide))
  rw [nI_clamp (by omega)] at q1
  rw [← q1]
  have q2 := isInq_m1 (q := 11) (u := uX1_wouldReadItself u (nI a) (nI b) (-1))
  refine (ite01 (a := isInq 11 (uX1_wouldReadItself u (nI a) (nI b) (-1)) (nI b) = 0) (b := isInq 11 (uX1_wouldReadItself u (nI a) (nI b) (-1)) (-1) = 0)).trans ⟨fun z => z.1, fun z => ⟨z, q2⟩⟩
