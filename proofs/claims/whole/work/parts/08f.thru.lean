/-! a cell is computed in step, and all the cells in their order -/
theorem CR_fr {u g u' g' : vM} (h : CR u g) (hq : QL u' g') (u2 : u' 2 = u 2) (u3 : u' 3 = u 3) (u8 : u' 8 = u 8) (u14 : u' 14 = u 14) (u16 : u' 16 = u 16) (g1 : g' 1 = g 1) (g2 : g' 2 = g 2) (g3 : g' 3 = g 3) (g12 : g' 12 = g 12) (g16 : g' 16 = g 16) (b6 : bo u' 6) (b9 : bo u' 9) : CR u' g' := by
  obtain ⟨hQ, hB, hO, hK, hS, hf, hk, h6, h9⟩ := h
  refine ⟨hq, by rw [u14, g12]; exact hB, RO_fr u2 u3 g1 g2 g3 hO, ?_, ?_, fm_congr g2 g3 hf, kc_congr u8 hk, b6, b9⟩
  · intro i hi
    rw [g1]
    exact hK i hi
  · intro s hs
    rw [u16, g16]
    exact hS s hs
theorem bo_up {u : vM} {q : Nat} {i x : Int32} (h : bo u q) (hx : x = 0 ∨ x = 1) : bo (mup u q i x) q := by
  intro j
  rw [mup_at]
  by_cases e : j = i.toNatClampNeg
  · rw [if_pos e]; exact hx
  · rw [if_neg e]; exact h j
theorem bo_fr {u u' : vM} {q : Nat} (e : u' q = u q) (h : bo u q) : bo u' q := by
  intro j
  rw [e]
  exact h j
theorem CR_up {u g : vM} {a b : Nat} {i x x' : Int32} (hp : (a, b) ∈ [(5, 5), (6, 6), (9, 7), (12, 8), (13, 11)]) (h : CR u g) (hx : QL u g → x = x') (hb : a = 6 ∨ a = 9 → x = 0 ∨ x = 1) : CR (mup u a i x) (mup g b i x') := by
  have k : ∀ p ∈ [((5 : Nat), (5 : Nat)), (6, 6), (9, 7), (12, 8), (13, 11)], p ∈ PL ∧ 2 ≠ p.1 ∧ 3 ≠ p.1 ∧ 8 ≠ p.1 ∧ 14 ≠ p.1 ∧ 16 ≠ p.1 ∧ 1 ≠ p.2 ∧ 2 ≠ p.2 ∧ 3 ≠ p.2 ∧ 12 ≠ p.2 ∧ 16 ≠ p.2 := by decide
  obtain ⟨k0, k1, k2, k3, k4, k5, k6, k7, k8, k9, k10⟩ := k _ hp
  refine CR_fr h (QL_up k0 rfl h.1 hx) (mup_ne k1) (mup_ne k2) (mup_ne k3) (mup_ne k4) (mup_ne k5) (mup_ne k6) (mup_ne k7) (mup_ne k8) (mup_ne k9) (mup_ne k10) ?_ ?_
  · by_cases e : a = 6
    · subst e
      exact bo_up h.2.2.2.2.2.2.2.1 (hb (Or.inl rfl))
    · exact bo_fr (mup_ne fun z => e z.symm) h.2.2.2.2.2.2.2.1
  · by_cases e : a = 9
    · subst e
      exact bo_up h.2.2.2.2.2.2.2.2 (hb (Or.inr rfl))
    · exact bo_fr (mup_ne fun z => e z.symm) h.2.2.2.2.2.2.2.2
theorem mup_comm {u : vM} {q q' : Nat} {i i' x x' : Int32} (h : q ≠ q') : mup (mup u q i x) q' i' x' = mup (mup u q' i' x') q i x := by
  funext r
  by_cases e : r = q
  · subst e
    rw [mup_ne h, mup_row, mup_row, mup_ne h]
  · by_cases e' : r = q'
    · subst e'
      rw [mup_row, mup_ne e, mup_ne e, mup_row]
    · rw [mup_ne e', mup_ne e, mup_ne e, mup_ne e']
theorem res_fr {u u' : vM} {a : Int32} (h1 : u' 1 = u 1) (h2 : u' 2 = u 2) (h3 : u' 3 = u 3) (h4 : u' 4 = u 4) (h5 : u' 5 = u 5) : rX1_resultOf_v5 u' a = rX1_resultOf_v5 u a := by
  unfold rX1_resultOf_v5 rX1_valueIn_v5 mrd
  rw [h1, h2, h3, h4, h5]
theorem pf_r {u g : vM} (hf : fm g) (hQ : QL u g) (hB : u 14 = g 12) {c : Nat} (hc : c < 24) (a : Int32) : rX0_paysFor u a (nI c) (mt (nI c) (rX2_one g (nI c))) (mt (nI c) (rX2_other g (nI c))) = if rX2_priceOf g (nI c) (rX2_one g (nI c)) + rX2_priceOf g (nI c) (rX2_other g (nI c)) ≤ mrd g 12 (nI c / 6) then 1 else 0 := by
  have hv : vp_in (nI c) 24 := vp_in_nI hc (by decide)
  unfold rX0_paysFor rX1_sheetOf
  dsimp only
  rw [cost_eq hQ (vq_one_rk hf hv), cost_eq hQ (vq_other_rk hf hv)]
  unfold mrd
  rw [hB]
theorem pf_u {u g : vM} (hf : fm g) (hQ : QL u g) (hB : u 14 = g 12) {c : Nat} (hc : c < 24) (a : Int32) : uX0_paysFor u a (nI c) (mt (nI c) (rX2_one g (nI c))) (mt (nI c) (rX2_other g (nI c))) = if rX2_priceOf g (nI c) (rX2_one g (nI c)) + rX2_priceOf g (nI c) (rX2_other g (nI c)) ≤ mrd g 12 (nI c / 6) then (uX0_enter (uX0_enter (mup u 14 (nI c / 6) (mrd u 14 (nI c / 6) - (rX2_priceOf g (nI c) (rX2_one g (nI c)) + rX2_priceOf g (nI c) (rX2_other g (nI c))))) a (nI c) (mt (nI c) (rX2_one g (nI c)))) a (nI c) (mt (nI c) (rX2_other g (nI c)))) else u := by
  have hv : vp_in (nI c) 24 := vp_in_nI hc (by decide)
  unfold uX0_paysFor rX1_sheetOf
  dsimp only
  rw [cost_eq hQ (vq_one_rk hf hv), cost_eq hQ (vq_other_rk hf hv)]
  have e : mrd u 14 (nI c / 6) = mrd g 12 (nI c / 6) := by
    unfold mrd
    rw [hB]
  rw [e]
theorem compute_CR {u g : vM} (h : CR u g) {c : Nat} (hc : c < 24) (a : Int32) : CR (uX1_compute u a (nI c)) (uX2_compute g a (nI c)) := by
  have hp := paid h hc a
  obtain ⟨hQ, hB, hO, hK, hS, hf, hk, h6, h9⟩ := id h
  unfold uX1_compute uX2_compute
  dsimp only
  rw [paid_one hf hO hc, paid_other hf hO hc, pf_r hf hQ hB hc, pf_u hf hQ hB hc]
  by_cases P : rX2_priceOf g (nI c) (rX2_one g (nI c)) + rX2_priceOf g (nI c) (rX2_other g (nI c)) ≤ mrd g 12 (nI c / 6)
  · rw [if_pos P, if_pos P, if_pos P]
    generalize uX0_enter (uX0_enter (mup u 14 (nI c / 6) (mrd u 14 (nI c / 6) - (rX2_priceOf g (nI c) (rX2_one g (nI c)) + rX2_priceOf g (nI c) (rX2_other g (nI c))))) a (nI c) (mt (nI c) (rX2_one g (nI c)))) a (nI c) (mt (nI c) (rX2_other g (nI c))) = U at hp ⊢
    generalize uX2_pay (uX2_pay g a (nI c) (rX2_one g (nI c))) a (nI c) (rX2_other (uX2_pay g a (nI c) (rX2_one g (nI c))) (nI c)) = G at hp ⊢
    rw [if_neg (show ¬ (1 : Int32) = 0 by decide)]
    have e0 : mrd (mup U 6 (nI c) 0) 6 (nI c) = 0 := by
      unfold mrd
      rw [mup_at, if_pos rfl]
    rw [if_pos e0, res_fr (u := U) (mup_ne (by decide)) (mup_ne (by decide)) (mup_ne (by decide)) (mup_ne (by decide)) (mup_ne (by decide)), res5 hp.1 hp.2.2.1 hp.2.2.2.1 hp.2.2.2.2.2.1 hc]
    have e1 : mrd (mup U 6 (nI c) 0) 5 (nI c) = mrd G 5 (nI c) := by
      rw [← QL_mrd 5 5 hp.1]
      unfold mrd
      rw [mup_ne (by decide)]
    rw [e1, mup_comm (q := 6) (q' := 9) (by decide), mup_comm (q := 6) (q' := 5) (by decide)]
    refine CR_up (by decide) (CR_up (by decide) (CR_up (by decide) hp (fun _ => rfl) ?_) (fun _ => rfl) ?_) (fun _ => rfl) ?_
    · intro _
      split
      · exact Or.inl rfl
      · exact Or.inr rfl
    · intro z
      exact absurd z (by decide)
    · intro _
      exact Or.inl rfl
  · rw [if_neg P, if_neg P, if_neg P, if_pos (show (0 : Int32) = 0 from rfl)]
    have e0 : mrd (mup u 6 (nI c) 1) 6 (nI c) = 1 := by
      unfold mrd
      rw [mup_at, if_pos rfl]
    rw [e0, if_neg (show ¬ (1 : Int32) = 0 by decide)]
    exact CR_up (by decide) h (fun _ => rfl) (fun _ => Or.inr rfl)
/-! has a cell a read that is marked so -/
def isInq (q : Nat) (u : vM) (x : Int32) : Int32 := (if x < 0 then 0 else (if 24 ≤ x then 0 else (if (mrd u q x) = 0 then 0 else 1)))
theorem isInq_in {q : Nat} {u : vM} {x : Int32} (h : vp_in x 24) : isInq q u x = 0 ↔ u q x.toNatClampNeg = 0 := by
  unfold isInq
  rw [if_neg (vin_lt h).1, if_neg (vin_lt h).2]
  show (if u q x.toNatClampNeg = 0 then (0 : Int32) else 1) = 0 ↔ _
  by_cases e : u q x.toNatClampNeg = 0
  · rw [if_pos e]; exact ⟨fun _ => e, fun _ => rfl⟩
  · rw [if_neg e]; exact ⟨fun z => absurd z (by decide), fun z => absurd z e⟩
theorem isInq_m1 {q : Nat} {u : vM} : isInq q u (-1) = 0 := by
  unfold isInq
  rw [if_pos (by decide)]
/-- none of a cell's reads is in row q -/
theorem reads_none {q : Nat} {u g : vM} (hf : fm g) (hO : RO u g) {c : Nat} (hc : c < 24) : (isInq q u (mrd u 2 (nI c)) = 0 ∧ isInq q u (mrd u 3 (nI c)) = 0) ↔ ∀ j, D2 g c j → u q j = 0 := by
  rw [mrd_nI hc, mrd_nI hc, (hO c hc).1, (hO c hc).2]
  constructor
  · rintro ⟨h1, h2⟩ j (⟨a, e⟩ | ⟨a, e⟩)
    · rw [if_neg a, isInq_in (hf c hc).1] at h1
      rw [e]; exact h1
    · rw [if_pos a, isInq_in (hf c hc).2] at h2
      rw [e]; exact h2
  · intro h
    constructor
    · by_cases a : g 1 c = 0
      · rw [if_pos a]; exact isInq_m1
      · rw [if_neg a, isInq_in (hf c hc).1]; exact h _ (Or.inl ⟨a, rfl⟩)
    · by_cases a : g 1 c = 1 ∨ g 1 c = 2
      · rw [if_pos a, isInq_in (hf c hc).2]; exact h _ (Or.inr ⟨a, rfl⟩)
      · rw [if_neg a]; exact isInq_m1
theorem ite01 {a b : Prop} [Decidable a] [Decidable b] : (if a then (if b then (0 : Int32) else 1) else 1) = 0 ↔ a ∧ b := by
  by_cases h1 : a
  · rw [if_pos h1]
    by_cases h2 : b
    · rw [if_pos h2]; exact ⟨fun _ => ⟨h1, h2⟩, fun _ => rfl⟩
    · rw [if_neg h2]; exact ⟨fun z => absurd z (by decide), fun z => absurd z.2 h2⟩
  · rw [if_neg h1]; exact ⟨fun z => absurd z (by decide), fun z => absurd z.1 h1⟩
theorem ro9 {u g : vM} (hf : fm g) (hO : RO u g) {c : Nat} (hc : c < 24) : rX1_readsOneOf_v9 u (nI c) = 0 ↔ ∀ j, D2 g c j → u 9 j = 0 := by
  rw [← reads_none hf hO hc]
  exact ite01
theorem ro11 {u g : vM} (hf : fm g) (hO : RO u g) {c : Nat} (hc : c < 24) : rX1_readsOneOf_v11 u (nI c) = 0 ↔ ∀ j, D2 g c j → u 11 j = 0 := by
  rw [← reads_none hf hO hc]
  exact ite01
theorem rc7 {g : vM} (hf : fm g) {c : Nat} (hc : c < 24) : rX2_readsChanged g (nI c) = 0 ↔ ∀ j, D2 g c j → ¬ g 7 j = 1 := by
  have key : rX2_readsChanged g (nI c) = 0 ↔ (rX2_one g (nI c) = -1 ∨ ¬ mrd g 7 (rX2_one g (nI c)) = 1) ∧ (rX2_other g (nI c) = -1 ∨ ¬ mrd g 7 (rX2_other g (nI c)) = 1) := by
    unfold rX2_readsChanged
    by_cases h1 : rX2_one g (nI c) = -1 <;> by_cases h2 : rX2_other g (nI c) = -1 <;> by_cases h3 : mrd g 7 (rX2_one g (nI c)) = 1 <;> by_cases h4 : mrd g 7 (rX2_other g (nI c)) = 1 <;> simp [h1, h2, h3, h4]
  rw [key, one_eq hc, other_eq hc]
  constructor
  · rintro ⟨h1, h2⟩ j (⟨a, e⟩ | ⟨a, e⟩)
    · rw [if_neg a] at h1
      rw [e]
      exact h1.resolve_left (vp_ne1 (hf c hc).1)
    · rw [e]
      by_cases q : g 3 c = g 2 c
      · rw [if_neg (k12_ne0 a)] at h1
        rw [q]
        exact h1.resolve_left (vp_ne1 (hf c hc).1)
      · rw [if_pos a, if_neg q] at h2
        exact h2.resolve_left (vp_ne1 (hf c hc).2)
  · intro h
    constructor
    · by_cases a : g 1 c = 0
      · rw [if_pos a]; exact Or.inl rfl
      · rw [if_neg a]; exact Or.inr (h _ (Or.inl ⟨a, rfl⟩))
    · by_cases a : g 1 c = 1 ∨ g 1 c = 2
      · rw [if_pos a]
        by_cases q : g 3 c = g 2 c
        · rw [if_pos q]; exact Or.inl rfl
        · rw [if_neg q]; exact Or.inr (h _ (Or.inr ⟨a, rfl⟩))
      · rw [if_neg a]; exact Or.inl rfl
theorem chg_same {u g : vM} (h : CR u g) {c : Nat} (hc : c < 24) : rX1_readsOneOf_v9 u (nI c) = 0 ↔ rX2_readsChanged g (nI c) = 0 := by
  obtain ⟨hQ, hB, hO, hK, hS, hf, hk, h6, h9⟩ := h
  rw [ro9 hf hO hc, rc7 hf hc, ← QL_row 9 7 hQ]
  constructor
  · intro h j hd e
    rw [h j hd] at e
    exact absurd e (by decide)
  · intro h j hd
    exact (h9 j).resolve_right (h j hd)
theorem gt_loop (a a2 : Int32) : ∀ (n k : Nat) (u g : vM) (x : Int32), k + n ≤ 24 → CR u g → (∀ i, i < 24 → ∃ c, c < 24 ∧ u 7 i = nI c ∧ g 9 i = nI c) → CR (lpX1_goThrough_5 a a2 n k u x).1 (lpX2_goThrough_9 a a2 n k g x).1 ∧ (lpX1_goThrough_5 a a2 n k u x).2 = (lpX2_goThrough_9 a a2 n k g x).2 := by
  intro n
  induction n with
  | zero => intro k u g x _ h _; exact ⟨h, rfl⟩
  | succ n ih =>
    intro k u g x hk h ho
    obtain ⟨c, hc, e1, e2⟩ := ho k (by omega)
    have hcell : ¬ rX1_isCell (nI c) = 0 := by rw [cell1_all c hc]; decide
    have m1 : mrd u 7 (nI k) = nI c := by rw [mrd_nI (by omega)]; exact e1
    have m2 : mrd g 9 (nI k) = nI c := by rw [mrd_nI (by omega)]; exact e2
    have skip := ih (k + 1) u g x (by omega) h ho
    have comp := ih (k + 1) (uX1_compute u a (nI c)) (uX2_compute g a (nI c)) (x + 1) (by omega) (compute_CR h hc a) (fun i hi => by
      rw [fr_uX1_compute (by decide) (by decide) (by decide) (by decide) (by decide) (by decide) (by decide) (by decide) (by decide) (by decide), fr_uX2_compute (by decide) (by decide) (by decide) (by decide) (by decide) (by decide) (by decide) (by decide) (by decide)]
      exact ho i hi)
    unfold lpX1_goThrough_5 lpX2_goThrough_9
    dsimp only
    rw [m1, m2, if_neg hcell]
    have h6 : mrd u 6 (nI c) = 0 ↔ ¬ mrd g 6 (nI c) = 1 := by
      rw [← QL_mrd 6 6 h.1]
      have := h.2.2.2.2.2.2.2.1 (nI c).toNatClampNeg
      constructor
      · intro z w
        rw [z] at w
        exact absurd w (by decide)
      · intro z
        exact this.resolve_right z
    by_cases hr : rX2_readsChanged g (nI c) = 0
    · rw [if_pos ((chg_same h hc).mpr hr), if_pos hr]
      by_cases ha : a2 = 0
      · rw [if_pos ha, if_pos ha]; exact skip
      · rw [if_neg ha, if_neg ha]
        by_cases hm : mrd g 6 (nI c) = 1
        · rw [if_pos hm, if_neg fun z => h6.mp z hm]; exact comp
        · rw [if_neg hm, if_pos (h6.mpr hm)]; exact skip
    · rw [if_neg (fun z => hr ((chg_same h hc).mp z)), if_neg hr]
      by_cases ha : a2 = 0
      · rw [if_pos ha]; exact comp
      · rw [if_neg ha]
        by_cases hm : mrd g 6 (nI c) = 1
        · rw [if_pos hm]; exact comp
        · rw [if_neg hm]; exact comp
