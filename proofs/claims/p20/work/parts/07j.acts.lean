/-! a turn's acts -/
theorem MD_give {us t : Nat} {u : vM} (ht : t ≤ 40) (hus : us < 5) (a1 a2 : Int32) (h : IV t u) : gv u (nI us) ∧ MD us t (uL_give u a1 a2 (nI us)) ∧ ∃ m, m ≤ 23 ∧ rL_give u a1 a2 (nI us) = nI (m + 1) := by
  obtain ⟨m1, e, hc⟩ := IV_CO us h
  obtain ⟨h1, h2⟩ := give_law ht hus a1 a2 hc
  exact ⟨gv_of hus hc, ⟨m1, by rw [fr_uL_give (by decide) (by decide) (by decide) (by decide) (by decide) (by decide) (by decide) (by decide) (by decide) (by decide) (by decide) (by decide) (by decide) (by decide) (by decide) (by decide) (by decide)]; exact e, h1⟩, h2⟩
theorem MD_refresh {us t : Nat} {u : vM} (ht : t ≤ 40) (hus : us < 5) (h : IV t u) : kc u ∧ xX1_refresh u (nI us) = 0 ∧ MD us t (uX1_refresh u (nI us)) ∧ ∃ m, m ≤ 24 ∧ rX1_refresh u (nI us) = nI m ∧ (rL_marked u = 0 → m = 0) := by
  obtain ⟨m1, e, hc⟩ := IV_CO us h
  obtain ⟨h1, m, h2, h3, h4⟩ := refresh_law ht hus hc
  exact ⟨CO_kc hc, by unfold xX1_refresh; rw [user1_in (user_in hus), if_neg c10], ⟨m1, by rw [fr_uX1_refresh (by decide) (by decide) (by decide) (by decide) (by decide) (by decide) (by decide) (by decide) (by decide) (by decide)]; exact e, h1⟩, m, h2, h3, fun hz => h4 (marked_0 hz)⟩
theorem MD_price {us t q p : Nat} {u : vM} (hq : q < 4) (hp : p ≤ 100) (h : IV t u) : xX1_setPrice u (nI q) (nI p) = 0 ∧ MD us t (uX1_setPrice u (nI q) (nI p)) ∧ (0 : Int32) ≤ rX1_setPrice u (nI q) (nI p) := by
  obtain ⟨m1, e, hc⟩ := IV_CO us h
  obtain ⟨h1, h2⟩ := price_law hq hp hc
  exact ⟨price_x hq hp, ⟨m1, by rw [fr_uX1_setPrice (by decide)]; exact e, h1⟩, Int32.not_lt.mp h2⟩
theorem MD_grant {us t q m : Nat} {u : vM} (ht : t ≤ 40) (hq : q < 4) (hm1 : 1 ≤ m) (hm : m ≤ 90) (h : IV t u) : xX1_grant u (nI q) (nI m) = 0 ∧ MD us t (mup (uX1_grant u (nI q) (nI m)) 20 0 (mrd (uX1_grant u (nI q) (nI m)) 20 0 + nI m)) ∧ rX1_grant u (nI q) (nI m) = rX1_budget u (nI q) + nI m := by
  obtain ⟨m1, e, hc⟩ := IV_CO us h
  obtain ⟨h1, h2⟩ := grant_law ht hq hm1 hm hc
  refine ⟨grant_x hq hm1 (by omega), ⟨m1, ?_, h2⟩, h1⟩
  rw [mup_at, if_neg (by decide), fr_uX1_grant (by decide)]
  exact e
