/-! EACH CALL OF THE LAW keeps what holds -/
theorem CO_fr {us m1 t : Nat} {u u' : vM} (h : CO us m1 t u) (e : ∀ q, q ≤ 9 → u' q = u q) (e2 : ∀ q, 13 ≤ q → q ≤ 19 → u' q = u q) (e20 : u' 20 0 = u 20 0) : CO us m1 t u' := by
  obtain ⟨h1, S, h2, h3, h4⟩ := h
  exact ⟨SH_fr e h1, S, h2, h3, LG_fr h4 (e 8 (by decide)) (e2 13 (by decide) (by decide)) (e2 14 (by decide) (by decide)) (e2 15 (by decide) (by decide)) (e2 16 (by decide) (by decide)) (e2 17 (by decide) (by decide)) (e2 18 (by decide) (by decide)) (e2 19 (by decide) (by decide)) e20⟩
theorem CO_kc {us m1 t : Nat} {u : vM} (h : CO us m1 t u) : kc u := by
  obtain ⟨h1, S, h2, h3, h4⟩ := h
  exact ⟨min S 500, by omega, h4.2.2.2.1.2⟩
theorem user_in {us : Nat} (h : us < 5) : vp_in (nI us) 5 := vp_in_nI h (by decide)
theorem gv_of {us m1 t : Nat} {u : vM} (hus : us < 5) (h : CO us m1 t u) : gv u (nI us) := by
  refine ⟨CO_kc h, user_in hus, fun c a b hc ha hb h1 h2 => ?_⟩
  obtain ⟨c', hc', rfl⟩ := vp_in_of hc (by decide)
  obtain ⟨a', ha', rfl⟩ := vp_in_of ha (by decide)
  refine w_no hc' h.1.1 h.1.2.2.1 (Or.inr ⟨a', (nI_ltI (by omega) (by omega)).mp h1, rfl⟩) ?_
  rcases hb with rfl | hb
  · exact Or.inl rfl
  · obtain ⟨b', hb', rfl⟩ := vp_in_of hb (by decide)
    exact Or.inr ⟨b', (nI_ltI (by omega) (by omega)).mp h2, rfl⟩
theorem inr_of {x : Int32} (h : rX1_isWithin x 1000000 = 1) : inr x := by
  unfold rX1_isWithin at h
  by_cases a : x < -1000000
  · rw [if_pos a] at h; exact absurd h (by decide)
  · rw [if_neg a] at h
    by_cases b : (1000000 : Int32) < x
    · rw [if_pos b] at h; exact absurd h (by decide)
    · exact ⟨b, Int32.not_lt.mp a⟩
theorem num_eq {u : vM} {us c : Nat} {v : Int32} (hus : us < 5) (hc : c < 24) (hv : rX1_isWithin v 1000000 = 1) : uX1_setNumber u (nI us) (nI c) v = uX1_giveFormula u (nI us) (nI c) 0 (-1) (-1) v ∧ rX1_setNumber u (nI us) (nI c) v = rX1_giveFormula u (nI us) (nI c) 0 (-1) (-1) v := by
  unfold uX1_setNumber rX1_setNumber
  rw [user1_in (user_in hus), if_neg c10, if_neg c10, cell1_nI hc, if_neg c10, if_neg c10, hv, if_neg c10, if_neg c10]
  exact ⟨rfl, rfl⟩
theorem sum_eq {u : vM} {us c a b : Nat} {v : Int32} (hus : us < 5) (hc : c < 24) (ha : a < 24) (hb : b < 24) (hv : rX1_isWithin v 1000 = 1) (hw : rX1_wouldReadItself u (nI c) (nI a) (nI b) = 0) : uX1_setSum u (nI us) (nI c) (nI a) (nI b) v = uX1_giveFormula (uX1_wouldReadItself u (nI c) (nI a) (nI b)) (nI us) (nI c) 1 (nI a) (nI b) v ∧ rX1_setSum u (nI us) (nI c) (nI a) (nI b) v = rX1_giveFormula (uX1_wouldReadItself u (nI c) (nI a) (nI b)) (nI us) (nI c) 1 (nI a) (nI b) v := by
  unfold uX1_setSum rX1_setSum
  dsimp only
  rw [user1_in (user_in hus), if_neg c10, if_neg c10, cell1_nI hc, if_neg c10, if_neg c10, cell1_nI ha, if_neg c10, if_neg c10, cell1_nI hb, if_neg c10, if_neg c10, hv, if_neg c10, if_neg c10, hw, if_pos rfl, if_pos rfl]
  exact ⟨rfl, rfl⟩
theorem gre_eq {u : vM} {us c a b : Nat} (hus : us < 5) (hc : c < 24) (ha : a < 24) (hb : b < 24) (hw : rX1_wouldReadItself u (nI c) (nI a) (nI b) = 0) : uX1_setGreater u (nI us) (nI c) (nI a) (nI b) = uX1_giveFormula (uX1_wouldReadItself u (nI c) (nI a) (nI b)) (nI us) (nI c) 2 (nI a) (nI b) 0 ∧ rX1_setGreater u (nI us) (nI c) (nI a) (nI b) = rX1_giveFormula (uX1_wouldReadItself u (nI c) (nI a) (nI b)) (nI us) (nI c) 2 (nI a) (nI b) 0 := by
  unfold uX1_setGreater rX1_setGreater
  dsimp only
  rw [user1_in (user_in hus), if_neg c10, if_neg c10, cell1_nI hc, if_neg c10, if_neg c10, cell1_nI ha, if_neg c10, if_neg c10, cell1_nI hb, if_neg c10, if_neg c10, hw, if_pos rfl, if_pos rfl]
  exact ⟨rfl, rfl⟩
theorem tim_eq {u : vM} {us c a : Nat} {v : Int32} (hus : us < 5) (hc : c < 24) (ha : a < 24) (hv : rX1_isWithin v 100 = 1) (hw : rX1_wouldReadItself u (nI c) (nI a) (-1) = 0) : uX1_setTimes u (nI us) (nI c) (nI a) v = uX1_giveFormula (uX1_wouldReadItself u (nI c) (nI a) (-1)) (nI us) (nI c) 3 (nI a) (-1) v ∧ rX1_setTimes u (nI us) (nI c) (nI a) v = rX1_giveFormula (uX1_wouldReadItself u (nI c) (nI a) (-1)) (nI us) (nI c) 3 (nI a) (-1) v := by
  unfold uX1_setTimes rX1_setTimes
  dsimp only
  rw [user1_in (user_in hus), if_neg c10, if_neg c10, cell1_nI hc, if_neg c10, if_neg c10, cell1_nI ha, if_neg c10, if_neg c10, hv, if_neg c10, if_neg c10, hw, if_pos rfl, if_pos rfl]
  exact ⟨rfl, rfl⟩
theorem wri_CO {us m1 t : Nat} {u : vM} {a b c : Int32} (h : CO us m1 t u) : CO us m1 t (uX1_wouldReadItself u a b c) :=
  CO_fr h (fun q hq => fr_uX1_wouldReadItself (by omega)) (fun q hq _ => fr_uX1_wouldReadItself (by omega)) (by rw [fr_uX1_wouldReadItself (by decide)])
/-- the law's gift of a formula -/
theorem give_law {us m1 t : Nat} {u : vM} (ht : t ≤ 40) (hus : us < 5) (a1 a2 : Int32) (h : CO us m1 t u) : CO us m1 (t + 1) (uL_give u a1 a2 (nI us)) ∧ ∃ m, m ≤ 23 ∧ rL_give u a1 a2 (nI us) = nI (m + 1) := by
  unfold uL_give rL_give
  dsimp only
  obtain ⟨c, hc, ec⟩ := at_nI a1 (n := 24) (by decide) (by decide)
  obtain ⟨a, ha, ea⟩ := at_nI a2 (n := 24) (by decide) (by decide)
  obtain ⟨b, hb, eb⟩ := at_nI (a2 >>> (5 &&& 31)) (n := 24) (by decide) (by decide)
  rw [show (24 : Int32) = nI 24 from rfl, ec, ea, eb]
  generalize rL_at (a1 >>> (5 &&& 31)) 4 = kd
  have hn := num_eq (u := u) hus hc (within_at (x := a2) (N := 2000001) (M := 1000000) (m := 1000000))
  have hN : CO us m1 (t + 1) (uX1_setNumber u (nI us) (nI c) (rL_at a2 2000001 - 1000000)) ∧ ∃ m, m ≤ 23 ∧ rX1_setNumber u (nI us) (nI c) (rL_at a2 2000001 - 1000000) = nI (m + 1) := by
    rw [hn.1, hn.2]
    exact give_CO ht hus hc (Or.inl rfl) (Or.inl rfl) (Or.inr (Or.inr (Or.inr (inr_of (within_at (m := 1000000)))))) h
  by_cases h0 : kd = 0
  · rw [if_pos h0, if_pos h0]; exact hN
  · rw [if_neg h0, if_neg h0]
    by_cases h1 : nI c ≤ nI a
    · rw [if_pos h1, if_pos h1]; exact hN
    · rw [if_neg h1, if_neg h1]
      have hac : a < c := by
        rcases Nat.lt_or_ge a c with q | q
        · exact q
        · exact absurd (nI_le q (by omega)) h1
      by_cases h2 : nI b < nI c
      · rw [if_pos h2, if_pos h2]
        have hbc : b < c := (nI_ltI (by omega) (by omega)).mp h2
        have ra : rdw (nI a) c := Or.inr ⟨a, hac, rfl⟩
        have rb : rdw (nI b) c := Or.inr ⟨b, hbc, rfl⟩
        have w2 := w_no hc h.1.1 h.1.2.2.1 ra rb
        have w1 := w_no hc h.1.1 h.1.2.2.1 ra (Or.inl rfl : rdw (-1) c)
        by_cases h3 : kd = 1
        · rw [if_pos h3, if_pos h3]
          have e := sum_eq (u := u) hus hc ha hb (within_at (x := a1 >>> (7 &&& 31)) (N := 2001) (M := 1000) (m := 1000)) w2
          rw [e.1, e.2]
          exact give_CO ht hus hc ra rb (Or.inl rfl) (wri_CO h)
        · rw [if_neg h3, if_neg h3]
          by_cases h4 : kd = 2
          · rw [if_pos h4, if_pos h4]
            have e := gre_eq (u := u) hus hc ha hb w2
            rw [e.1, e.2]
            exact give_CO ht hus hc ra rb (Or.inr (Or.inl rfl)) (wri_CO h)
          · rw [if_neg h4, if_neg h4]
            have e := tim_eq (u := u) hus hc ha (within_at (x := a1 >>> (7 &&& 31)) (N := 201) (M := 100) (m := 100)) w1
            rw [e.1, e.2]
            exact give_CO ht hus hc ra (Or.inl rfl) (Or.inr (Or.inr (Or.inl rfl))) (wri_CO h)
      · rw [if_neg h2, if_neg h2]; exact hN
/-- a refresh -/
theorem refresh_law {us m1 t : Nat} {u : vM} (ht : t ≤ 40) (hus : us < 5) (h : CO us m1 t u) : CO us m1 (t + 1) (uX1_refresh u (nI us)) ∧ ∃ m, m ≤ 24 ∧ rX1_refresh u (nI us) = nI m ∧ ((∀ j, j < 24 → u 6 j = 0) → m = 0) := by
  obtain ⟨⟨hF, hK, hO, h6, h9, hC⟩, S, hS, hm1, hL⟩ := h
  unfold uX1_refresh rX1_refresh
  rw [user1_in (user_in hus), if_neg c10, if_neg c10]
  dsimp only
  have cn : ∀ q : Nat, q ≠ 9 → uX1_forgetChanges u q = u q := fun q p1 => fr_uX1_forgetChanges p1
  have c0 : ∀ j, j < 24 → uX1_forgetChanges u 9 j = 0 := fun j hj => forget_0 hj
  have cb : bo (uX1_forgetChanges u) 9 := forget_bo h9
  generalize uX1_forgetChanges u = v at cn c0 cb ⊢
  have v5 : v 5 = u 5 := cn 5 (by decide)
  have vF : FS v := FS_fr (cn 2 (by decide)) (cn 3 (by decide)) hF
  have vO : OD v := OD_fr (cn 7 (by decide)) hO
  have vL : LG us m1 (100 + 90 * t) S 0 v := LG_fr hL (cn 8 (by decide)) (cn 13 (by decide)) (cn 14 (by decide)) (cn 15 (by decide)) (cn 16 (by decide)) (cn 17 (by decide)) (cn 18 (by decide)) (cn 19 (by decide)) (by rw [cn 20 (by decide)])
  have vG : ∀ i, i < 24 → v 6 i = 0 → GG v 0 i := by
    intro i hi q
    rw [cn 6 (by decide)] at q
    left
    unfold CS
    rw [res_fr (cn 1 (by decide)) (cn 2 (by decide)) (cn 3 (by decide)) (cn 4 (by decide)) v5, v5]
    exact hC i hi q
  obtain ⟨⟨S2, s3, s4, rL⟩, r6, rC, m, hm, rm⟩ := go_loop (by omega) hus 1 24 0 S 0 v rfl vF vO (bo_fr (cn 6 (by decide)) h6) cb vL vG (fun j _ hj => c0 j hj)
  have hno : (∀ j, j < 24 → u 6 j = 0) → lpX1_goThrough_5 (nI us) 1 24 0 v (nI 0) = (v, nI 0) := fun hz => go_none vF vO c0 (fun j hj => by rw [cn 6 (by decide)]; exact hz j hj) (nI 0) 24 0 rfl
  have rn : ∀ q : Nat, q ≠ 5 → q ≠ 6 → q ≠ 8 → q ≠ 9 → q ≠ 14 → q ≠ 15 → q ≠ 16 → q ≠ 17 → q ≠ 18 → q ≠ 19 → (lpX1_goThrough_5 (nI us) 1 24 0 v (nI 0)).1 q = v q := fun q a b c d e f g h i j => fr_lpX1_goThrough_5 a b c d e f g h i j
  have rb9 := go_bo9 (a1 := nI us) (a2 := 1) 24 0 v (nI 0) cb
  unfold uX1_goThrough rX1_goThrough
  dsimp only
  rw [show (0 : Int32) = nI 0 from nI_0.symm]
  generalize lpX1_goThrough_5 (nI us) 1 24 0 v (nI 0) = r at rL r6 rC rm rn rb9 hno ⊢
  refine ⟨⟨⟨FS_fr (by apply rn <;> decide) (by apply rn <;> decide) vF, fun i hi => ?_, OD_fr (by apply rn <;> decide) vO, r6, rb9, rC⟩, S2, by omega, by omega, LG_wide rL (by omega)⟩, m, hm, by rw [rm, Nat.zero_add], fun hz => ?_⟩
  · rw [show r.1 1 = v 1 by apply rn <;> decide, show r.1 4 = v 4 by apply rn <;> decide, cn 1 (by decide), cn 4 (by decide)]
    exact hK i hi
  · have e := hno (fun j hj => by rw [hz j hj]; exact nI_0.symm)
    rw [e] at rm
    have e2 : nI 0 = nI (0 + m) := rm
    have := (nI_eq (by omega) (by omega)).mp e2
    omega
theorem price_x {q p : Nat} {u : vM} (hq : q < 4) (hp : p ≤ 100) : xX1_setPrice u (nI q) (nI p) = 0 := by
  unfold xX1_setPrice
  rw [sheet1_in (vp_in_nI hq (by decide)), if_neg c10, if_neg (nI_pos (by omega)), if_pos (show nI p ≤ (100 : Int32) from nI_le (b := 100) hp (by decide))]
theorem price_law {us m1 t q p : Nat} {u : vM} (hq : q < 4) (hp : p ≤ 100) (h : CO us m1 t u) : CO us m1 (t + 1) (uX1_setPrice u (nI q) (nI p)) ∧ ¬ rX1_setPrice u (nI q) (nI p) < 0 := by
  obtain ⟨hs, S, hS, hm1, hL⟩ := h
  unfold uX1_setPrice rX1_setPrice
  rw [sheet1_in (vp_in_nI hq (by decide)), if_neg c10, if_neg c10, if_neg (nI_pos (by omega)), if_neg (nI_pos (by omega)), if_pos (show nI p ≤ (100 : Int32) from nI_le (b := 100) hp (by decide)), if_pos (show nI p ≤ (100 : Int32) from nI_le (b := 100) hp (by decide)), mrd_nI (by omega)]
  refine ⟨⟨SH_fr (fun i hi => mup_ne (by omega)) hs, S, by omega, hm1, LG_wide (B := 100 + 90 * t) ?_ (by omega)⟩, ?_⟩
  · obtain ⟨h13, h14, hm, h5⟩ := hL
    unfold LG EN at *
    rw [mup_ne (show (14 : Nat) ≠ 13 by decide), mup_ne (show (15 : Nat) ≠ 13 by decide), mup_ne (show (20 : Nat) ≠ 13 by decide), mup_ne (show (17 : Nat) ≠ 13 by decide), mup_ne (show (16 : Nat) ≠ 13 by decide), mup_ne (show (8 : Nat) ≠ 13 by decide), mup_ne (show (18 : Nat) ≠ 13 by decide), mup_ne (show (19 : Nat) ≠ 13 by decide)]
    refine ⟨fun i hi => ?_, h14, hm, h5⟩
    rw [mup_nI (by omega), upd_at]
    split
    · exact ⟨p, hp, rfl⟩
    · exact h13 i hi
  · obtain ⟨p0, g1, g2⟩ := hL.1 q hq
    rw [g2]
    exact nI_pos (by omega)
theorem grant_x {q m : Nat} {u : vM} (hq : q < 4) (h1 : 1 ≤ m) (h2 : m ≤ 10000) : xX1_grant u (nI q) (nI m) = 0 := by
  unfold xX1_grant
  rw [sheet1_in (vp_in_nI hq (by decide)), if_neg c10, if_neg (show ¬ nI m < (1 : Int32) from nI_nlt (b := 1) h1 (by omega)), if_pos (show nI m ≤ (10000 : Int32) from nI_le (b := 10000) h2 (by decide))]
theorem grant_law {us m1 t q m : Nat} {u : vM} (ht : t ≤ 40) (hq : q < 4) (h1 : 1 ≤ m) (h2 : m ≤ 90) (h : CO us m1 t u) : rX1_grant u (nI q) (nI m) = rX1_budget u (nI q) + nI m ∧ CO us m1 (t + 1) (mup (uX1_grant u (nI q) (nI m)) 20 0 (mrd (uX1_grant u (nI q) (nI m)) 20 0 + nI m)) := by
  obtain ⟨hs, S, hS, hm1, hL⟩ := h
  unfold uX1_grant rX1_grant rX1_budget
  dsimp only
  rw [sheet1_in (vp_in_nI hq (by decide)), if_neg c10, if_neg c10, if_neg c10, if_neg (show ¬ nI m < (1 : Int32) from nI_nlt (b := 1) h1 (by omega)), if_neg (show ¬ nI m < (1 : Int32) from nI_nlt (b := 1) h1 (by omega)), if_pos (show nI m ≤ (10000 : Int32) from nI_le (b := 10000) (by omega) (by decide)), if_pos (show nI m ≤ (10000 : Int32) from nI_le (b := 10000) (by omega) (by decide))]
  refine ⟨by rw [mrd_nI (by omega), mup_nI (by omega), upd_eq], SH_fr (fun i hi => by rw [mup_ne (by omega), mup_ne (by omega)]) hs, S, by omega, hm1, ?_⟩
  have e14 : mup (mup u 14 (nI q) (mrd u 14 (nI q) + nI m)) 20 0 (mrd (mup u 14 (nI q) (mrd u 14 (nI q) + nI m)) 20 0 + nI m) 14 = upd (u 14) q (u 14 q + nI m) := by
    rw [mup_ne (by decide), mup_nI (by omega), mrd_nI (by omega)]
  have e20 : mup (mup u 14 (nI q) (mrd u 14 (nI q) + nI m)) 20 0 (mrd (mup u 14 (nI q) (mrd u 14 (nI q) + nI m)) 20 0 + nI m) 20 0 = u 20 0 + nI m := by
    rw [show (0 : Int32) = nI 0 from nI_0.symm, mup_nI (by decide), upd_eq, mrd_nI (by decide), mup_ne (by decide)]
  have en : ∀ i : Nat, i ≠ 14 → i ≠ 20 → mup (mup u 14 (nI q) (mrd u 14 (nI q) + nI m)) 20 0 (mrd (mup u 14 (nI q) (mrd u 14 (nI q) + nI m)) 20 0 + nI m) i = u i := fun i a b => by rw [mup_ne b, mup_ne a]
  generalize mup (mup u 14 (nI q) (mrd u 14 (nI q) + nI m)) 20 0 (mrd (mup u 14 (nI q) (mrd u 14 (nI q) + nI m)) 20 0 + nI m) = w at e14 e20 en ⊢
  obtain ⟨h13, h14, ⟨hma, hmb⟩, h5⟩ := hL
  refine ⟨fun i hi => by rw [en 13 (by decide) (by decide)]; exact h13 i hi, fun i hi => ?_, ⟨?_, by rw [en 17 (by decide) (by decide), en 15 (by decide) (by decide)]; exact hmb⟩, ?_⟩
  · rw [e14, upd_at]
    obtain ⟨b, hb, eb⟩ := h14 i hi
    by_cases z : i = q
    · rw [if_pos z, ← z, eb, nI_add]
      exact ⟨b + m, by omega, rfl⟩
    · rw [if_neg z]
      exact ⟨b, by omega, eb⟩
  · rw [e14, s4_upd hq, en 15 (by decide) (by decide), e20, ← hma]
    grind
  · unfold EN at *
    rw [en 16 (by decide) (by decide), en 8 (by decide) (by decide), en 18 (by decide) (by decide), en 19 (by decide) (by decide)]
    exact h5
