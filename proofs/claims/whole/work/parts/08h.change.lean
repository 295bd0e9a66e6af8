/-! the relation, and that a change keeps it -/
def Rel (u g : vM) : Prop := CR u g ∧ OR (D2 g) (u 7) ∧ ly g
theorem rel_kc {u g : vM} (h : Rel u g) : kc u := h.1.2.2.2.2.2.2.1
theorem rel_bo {u g : vM} (h : Rel u g) : bo u 6 := h.1.2.2.2.2.2.2.2.1
theorem rel_fm {u g : vM} (h : Rel u g) : fm g := h.1.2.2.2.2.2.1
theorem rel_kc2 {u g : vM} (h : Rel u g) : kc2 g := by
  obtain ⟨j, hj, e⟩ := rel_kc h
  exact ⟨j, hj, by rw [← QL_row 8 17 h.1.1]; exact e⟩
theorem rel_ly {u g : vM} (h : Rel u g) : ly g := h.2.2
theorem PL_ne : ∀ p ∈ PL, p.1 ≠ 7 ∧ p.1 ≠ 10 ∧ p.1 ≠ 11 ∧ p.2 ≠ 9 ∧ p.2 ≠ 10 ∧ p.2 ≠ 18 := by decide
theorem CR_fr2 {u g u' g' : vM} (h : CR u g) (hu : ∀ q, q ≠ 7 → q ≠ 10 → q ≠ 11 → u' q = u q) (hg : ∀ q, q ≠ 9 → q ≠ 10 → q ≠ 18 → g' q = g q) : CR u' g' := by
  refine CR_fr h (QL_fr (fun p hp => ?_) (fun p hp => ?_) h.1) (hu 2 (by decide) (by decide) (by decide)) (hu 3 (by decide) (by decide) (by decide)) (hu 8 (by decide) (by decide) (by decide)) (hu 14 (by decide) (by decide) (by decide)) (hu 16 (by decide) (by decide) (by decide)) (hg 1 (by decide) (by decide) (by decide)) (hg 2 (by decide) (by decide) (by decide)) (hg 3 (by decide) (by decide) (by decide)) (hg 12 (by decide) (by decide) (by decide)) (hg 16 (by decide) (by decide) (by decide)) (bo_fr (hu 6 (by decide) (by decide) (by decide)) h.2.2.2.2.2.2.2.1) (bo_fr (hu 9 (by decide) (by decide) (by decide)) h.2.2.2.2.2.2.2.2)
  · obtain ⟨a, b, c, _⟩ := PL_ne p hp
    exact hu _ a b c
  · obtain ⟨_, _, _, a, b, c⟩ := PL_ne p hp
    exact hg _ a b c
theorem Rel_fr {u g u' g' : vM} (h : Rel u g) (hu : ∀ q, q ≠ 10 → q ≠ 11 → u' q = u q) (hg : ∀ q, q ≠ 9 → q ≠ 10 → q ≠ 18 → g' q = g q) : Rel u' g' := by
  have g1 := hg 1 (by decide) (by decide) (by decide)
  have g2 := hg 2 (by decide) (by decide) (by decide)
  have g3 := hg 3 (by decide) (by decide) (by decide)
  refine ⟨CR_fr2 h.1 (fun q _ => hu q) hg, ?_, ly_congr g1 g2 g3 h.2.2⟩
  rw [D2_congr g1 g2 g3, hu 7 (by decide) (by decide)]
  exact h.2.1
theorem Rel_of {u g u' g' : vM} (h : Rel u g) (hC : CR u' g') (u7 : u' 7 = u 7) (g1 : g' 1 = g 1) (g2 : g' 2 = g 2) (g3 : g' 3 = g 3) : Rel u' g' := by
  refine ⟨hC, ?_, ly_congr g1 g2 g3 h.2.2⟩
  rw [D2_congr g1 g2 g3, u7]
  exact h.2.1
theorem compute_Rel {u g : vM} (h : Rel u g) {c : Nat} (hc : c < 24) (a : Int32) : Rel (uX1_compute u a (nI c)) (uX2_compute g a (nI c)) := by
  refine Rel_of h (compute_CR h.1 hc a) ?_ ?_ ?_ ?_
  · rw [fr_uX1_compute (by decide) (by decide) (by decide) (by decide) (by decide) (by decide) (by decide) (by decide) (by decide) (by decide)]
  all_goals rw [fr_uX2_compute (by decide) (by decide) (by decide) (by decide) (by decide) (by decide) (by decide) (by decide) (by decide)]
theorem lo_Rel {u g : vM} (h : Rel u g) : Rel u (uX2_layOrder g) ∧ ∀ i, i < 24 → ∃ c, c < 24 ∧ u 7 i = nI c ∧ uX2_layOrder g 9 i = nI c := by
  refine ⟨Rel_fr h (fun _ _ _ => rfl) fun q h9 h10 _ => fr_uX2_layOrder h9 h10, fun i hi => ?_⟩
  have e := OR_eq h.2.1 (lo_OR (rel_fm h) h.2.2) i hi
  obtain ⟨c, hc⟩ := h.2.1
  exact ⟨c i, (hc i hi).2.1, (hc i hi).1, by rw [← e]; exact (hc i hi).1⟩
theorem go_Rel {u g : vM} (h : Rel u g) (a m : Int32) : Rel (uX1_goThrough u a m) (uX2_goThrough g a m) ∧ rX1_goThrough u a m = rX2_goThrough g a m := by
  obtain ⟨h1, h2⟩ := lo_Rel h
  obtain ⟨h3, h4⟩ := gt_loop a m 24 0 u (uX2_layOrder g) 0 (by decide) h1.1 h2
  refine ⟨Rel_of h h3 ?_ ?_ ?_ ?_, h4⟩
  · exact fr_uX1_goThrough (u := u) (a1 := a) (a2 := m) (by decide) (by decide) (by decide) (by decide) (by decide) (by decide) (by decide) (by decide) (by decide) (by decide)
  all_goals exact fr_uX2_goThrough (u := g) (a1 := a) (a2 := m) (by decide) (by decide) (by decide) (by decide) (by decide) (by decide) (by decide) (by decide) (by decide) (by decide) (by decide)
theorem fo_loop : ∀ (n k : Nat) (u g : vM), CR u g → CR (lpX1_forgetChanges_2 n k u) (lpX2_change_34 n k g) := by
  intro n
  induction n with
  | zero => intro k u g h; exact h
  | succ n ih => intro k u g h; exact ih (k + 1) _ _ (CR_up (by decide) h (fun _ => rfl) fun _ => Or.inl rfl)
theorem fo2_loop : ∀ (n k : Nat) (u g : vM), CR u g → CR (lpX1_forgetChanges_2 n k u) (lpX2_refresh_22 n k g) := by
  intro n
  induction n with
  | zero => intro k u g h; exact h
  | succ n ih => intro k u g h; exact ih (k + 1) _ _ (CR_up (by decide) h (fun _ => rfl) fun _ => Or.inl rfl)
theorem fo_Rel {u g : vM} (h : Rel u g) : Rel (uX1_forgetChanges u) (lpX2_change_34 24 0 g) := Rel_of h (fo_loop 24 0 u g h.1) (fr_uX1_forgetChanges (by decide)) (fr_lpX2_change_34 (by decide)) (fr_lpX2_change_34 (by decide)) (fr_lpX2_change_34 (by decide))
theorem fo2_Rel {u g : vM} (h : Rel u g) : Rel (uX1_forgetChanges u) (lpX2_refresh_22 24 0 g) := Rel_of h (fo2_loop 24 0 u g h.1) (fr_uX1_forgetChanges (by decide)) (fr_lpX2_refresh_22 (by decide)) (fr_lpX2_refresh_22 (by decide)) (fr_lpX2_refresh_22 (by decide))
theorem chg_ne {u : vM} {a kd b d x : Int32} {q : Nat} (h1 : q ≠ 1) (h2 : q ≠ 2) (h3 : q ≠ 3) (h4 : q ≠ 4) : chg u a kd b d x q = u q := by
  unfold chg
  rw [mup_ne h4, mup_ne h3, mup_ne h2, mup_ne h1]
theorem chg_CR {u g : vM} (h : CR u g) {a : Nat} (ha : a < 24) {kd o t b d x : Int32} (hb : vp_in b 24) (hd : vp_in d 24) (hk : kd = 0 ∨ kd = 1 ∨ kd = 2 ∨ kd = 3) (ho : o = if kd = 0 then -1 else b) (ht : t = if kd = 1 ∨ kd = 2 then d else -1) : CR (chg u (nI a) kd o t x) (chg g (nI a) kd b d x) := by
  obtain ⟨hQ, hB, hO, hK, hS, hf, hkc, h6, h9⟩ := h
  have ea : (nI a).toNatClampNeg = a := nI_clamp (by omega)
  refine ⟨?_, ?_, ?_, ?_, ?_, ?_, kc_congr (chg_ne (by decide) (by decide) (by decide) (by decide)) hkc, bo_fr (chg_ne (by decide) (by decide) (by decide) (by decide)) h6, bo_fr (chg_ne (by decide) (by decide) (by decide) (by decide)) h9⟩
  · unfold chg
    exact QL_up (by decide) rfl (QL_R (by decide) (QL_L (by decide) (QL_R (by decide) (QL_L (by decide) (QL_up (by decide) rfl hQ fun _ => rfl))))) fun _ => rfl
  · rw [chg_ne (by decide) (by decide) (by decide) (by decide), chg_ne (by decide) (by decide) (by decide) (by decide)]
    exact hB
  · intro i hi
    rw [chg_2, chg_3, chg_1, chg_2, chg_3, ea]
    by_cases e : i = a
    · simp only [if_pos e]
      exact ⟨ho, ht⟩
    · simp only [if_neg e]
      exact hO i hi
  · intro i hi
    rw [chg_1, ea]
    by_cases e : i = a
    · rw [if_pos e]; exact hk
    · rw [if_neg e]; exact hK i hi
  · intro s hs
    rw [chg_ne (by decide) (by decide) (by decide) (by decide), chg_ne (by decide) (by decide) (by decide) (by decide)]
    exact hS s hs
  · intro i hi
    rw [chg_2, chg_3, ea]
    by_cases e : i = a
    · simp only [if_pos e]
      exact ⟨hb, hd⟩
    · simp only [if_neg e]
      exact hf i hi
theorem change_Rel {u g : vM} (h : Rel u g) {a : Nat} (ha : a < 24) {kd o t b d x : Int32} (w : Int32) (hb : vp_in b 24) (hd : vp_in d 24) (hk : kd = 0 ∨ kd = 1 ∨ kd = 2 ∨ kd = 3) (ho : o = if kd = 0 then -1 else b) (ht : t = if kd = 1 ∨ kd = 2 then d else -1) (hl : ly (chg g (nI a) kd b d x)) : Rel (uX1_giveFormula u w (nI a) kd o t x) (uX2_change g w (nI a) kd b d x) ∧ rX1_giveFormula u w (nI a) kd o t x = rX2_change g w (nI a) kd b d x := by
  have h1 := chg_CR h.1 ha (x := x) hb hd hk ho ht
  have h2 : Rel (uX1_putInOrder (chg u (nI a) kd o t x)) (chg g (nI a) kd b d x) := ⟨CR_fr2 h1 (fun q h7 h10 _ => fr_uX1_putInOrder h7 h10) (fun _ _ _ _ => rfl), c_OR h1.2.2.2.2.2.1 hl h1.2.2.1, hl⟩
  have h3 := compute_Rel (fo_Rel h2) ha w
  obtain ⟨h4, h5⟩ := go_Rel h3 w 0
  refine ⟨h4, ?_⟩
  show 1 + rX1_goThrough (uX1_compute (uX1_forgetChanges (uX1_putInOrder (chg u (nI a) kd o t x))) w (nI a)) w 0 = 1 + rX2_goThrough (uX2_compute (lpX2_change_34 24 0 (chg g (nI a) kd b d x)) w (nI a)) w 0
  rw [h5]
theorem change_18 {g : vM} {w a kd b d x : Int32} : uX2_change g w a kd b d x 18 = g 18 := fr_uX2_change (by decide) (by decide) (by decide) (by decide) (by decide) (by decide) (by decide) (by decide) (by decide) (by decide) (by decide) (by decide) (by decide) (by decide) (by decide)
