theorem ls_nW : ∀ w ∈ nWords, w ∈ lw_tbl := by decide +kernel
theorem ls_nT : ∀ w ∈ nWords, w.onTables = true := by decide +kernel
theorem ls_i0 : Cond.instantiable RX0 8 ∈ lw_tbl := by decide +kernel
theorem ls_i1 : Cond.instantiable RX1 12 ∈ wsL_law := by decide +kernel
theorem ls_aI : Cond.arrayClass .int ∈ wsL_law := by decide +kernel
theorem ls_aZ : Cond.arrayClass .boolean ∈ lw_tbl := by decide +kernel
theorem ls_c1 : Cond.classLink RL 9 RX1 ∈ wsL_law := by decide +kernel
theorem ls_n1 : Cond.initialized RX1 ∈ wsL_law := by decide +kernel
theorem ls_m1 : Cond.methodLink RL 71 yX1_init ∈ wsL_law := by decide +kernel
theorem ls_o1 : Cond.instanceMethod yX1_init ∈ wsL_law := by decide +kernel
theorem ls_xN {args : Array Value} {s : State} (hts : ∀ w ∈ lw_tbl, w.before args s = true) : xN s := fun w hw => va_Nw.of (ls_nT w hw) (hts w (ls_nW w hw))
/-- the places of the object's cells, and of the law's own numbers -/
def ad1 (ad : Nat → Nat) (q : Nat) : Nat → Nat := fun i => cond (Nat.beq i 20) q (ad i)
theorem wC_of (cI cZ : ClassId) (ad : Nat → Nat) (q : Nat) (u : vM) : ([] ++ wK cI cZ ad u) ++ [(q, .inl (cI, 2, .inl (fun _ => 0)))] = wC cI cZ (ad1 ad q) (mR u 20 (fun _ => 0)) := rfl
theorem wC_ad (cI cZ : ClassId) (ad : Nat → Nat) (q : Nat) (u v : vM) : (([] ++ wK cI cZ ad u) ++ [(q, (.inl (cI, 2, .inl (fun _ => 0)) : va_E))]).map Prod.fst = (wC cI cZ (ad1 ad q) v).map Prod.fst := rfl
set_option maxHeartbeats 1000000 in
set_option maxRecDepth 100000 in
/-- THE LAW, from its entry -/
theorem whole_start {p : Program} {e : Env} {s : State} {m : MethodId} {below : List Frame} {meth : Method} {c : Code} (l : Launch) (hflags : l.flags = flags0) {b L : Nat} {xs : Nat → Int32} (hL : L ≤ 260) (C0 : lw_At p s m meth c b L xs) : W p l e room_1 s m #[Value.ref b] below meth c s.heap [] 0 0 (lw_Z below #[Value.ref b] s) (entryFrame m ([Value.ref b] : List Value).toArray 11) := by
  obtain ⟨hx, hb, hr, hml, hown, hts0, hX, hbl, hlocks, hgv⟩ := id C0
  have hts : ∀ w ∈ wsL_law, w.before #[Value.ref b] s = true := fun w h => hts0 w (wsL_law_in w h)
  have hbA : ¬ (fun q : Nat => s.heap.size ≤ q) b := Nat.not_le.mpr hbl
  obtain ⟨c0, iS0, hKn0⟩ := u_known (C := RX0) (T := TX0) (N := 8) (n := 8) hts inlX0 (hts0 _ ls_i0)
  obtain ⟨c1, iS1, hKn1⟩ := u_known (C := RX1) (T := TX1) (N := 12) (n := 12) hts inlX1 (hts _ ls_i1)
  obtain ⟨D, hKc⟩ : ∃ D : va_G, ∀ (k : Nat) (q : vw_C), vwCl[k]? = some q → u_Kn s q.1 q.2.1 q.2.2 (D.1 k) (D.2 k) := by
    refine ⟨(fun k => if k = 0 then c0 else c1, fun k => if k = 0 then iS0 else iS1), ?_⟩
    intro k q hq
    match k, hq with
    | 0, hq => cases hq; exact hKn0
    | 1, hq => cases hq; exact hKn1
    | k + 2, hq => simp [vwCl] at hq
  obtain ⟨cI, kI, compI, hI1, hI2, hI3⟩ := Cond.arrayClass_spec (hts _ ls_aI)
  obtain ⟨cZ, kZ, compZ, hZ1, hZ2, hZ3⟩ := Cond.arrayClass_spec (hts0 _ ls_aZ)
  have hK : va_K D vwCl (tyF cI cZ) s := by
    refine ⟨hKc, fun k q hq => ?_⟩
    match k, hq with
    | 0, hq => cases hq; exact ⟨fun n z => ⟨fun k h => (by cases h), kI, hI2, compI, hI3⟩, hI1⟩
    | 1, hq => cases hq; exact ⟨fun n z => ⟨fun k h => (by cases h), kZ, hZ2, compZ, hZ3⟩, hZ1⟩
    | k + 2, hq => simp [tyF] at hq
  have C : vC p s m #[Value.ref b] meth c D vwCl (tyF cI cZ) xN (fun q : Nat => s.heap.size ≤ q) (uW []) cL_law RL wsL_law 11 (some .boolean) :=
    ⟨hx, hb, hts, hown, hK, fun _ => ⟨fun i j p q h => by simp at h, fun k q h => by simp at h⟩, fun _ h => h, hml, hlocks, hr, ls_xN hts0⟩
  have hl := lv_entry [.ref b] (n := 11) (Nat.le_of_ble_eq_true rfl)
  rw [lg_entry_eq]
  have hV : V p l e room_1 s m #[Value.ref b] below meth c D vwCl (fun q : Nat => s.heap.size ≤ q) (uW []) 11 0 0 (lw_Z below #[Value.ref b] s) () 0 (lv_args 0 [.ref b]) [] := by
    refine V_ls (ls' := [(0, .ref b)]) rfl ?_
    refine V_new (ci := 1) (fs := [.null, .null, .null, .null, .null, .null, .null, .null, .null, .null, .null, .null]) C inlX1 tyX1 tyX1_ok ls_c1 ls_i1 ls_n1 rfl (fun j hj => by rcases (show j = 0 ∨ j = 1 ∨ j = 2 ∨ j = 3 ∨ j = 4 ∨ j = 5 ∨ j = 6 ∨ j = 7 ∨ j = 8 ∨ j = 9 ∨ j = 10 ∨ j = 11 by omega) with rfl | rfl | rfl | rfl | rfl | rfl | rfl | rfl | rfl | rfl | rfl | rfl <;> rfl) (Nat.le_of_ble_eq_true rfl) (Nat.le_of_ble_eq_true rfl) dL_law_0 (fun q1 C => ?_)
    refine V_dup C dL_law_3 rfl ?_
    refine V_ctorI (i0 := 0) (Post := fun ad => wK cI cZ ad uX1_init) C xN_ok id (tys' := tyF cI cZ) ⟨[0, 1], rfl⟩ (kX1_init q1) (cwI 0 C.2.2.1 gL_law_X1_init rfl rfl rfl (C.2.2.1 _ ls_n1) (C.2.2.1 _ ls_m1) (C.2.2.1 _ ls_o1) rfl hdX1_init ⟨Nat.le_of_ble_eq_true rfl, Nat.le_of_ble_eq_true rfl⟩) [] [] rfl rfl rfl (by decide) (Nat.le_of_ble_eq_true rfl) ⟨Nat.le_of_ble_eq_true rfl, Nat.le_of_ble_eq_true rfl⟩ dL_law_4 (fun ad had C2 => ?_)
    subst had
    have C := C2
    refine V_astore_n (ls' := [(0, .ref b), (1, .ref (ad 0))]) C dL_law_7 rfl (by decide) rfl rfl ?_
    refine V_iconst (v := 2) C dL_law_8 (by decide) ?_
    refine V_newa (atype := .int) (ty := .int) (a0 := (2, .inl (fun _ => 0))) C rfl ls_aI 0 rfl (fun _ => rfl) (by decide) (by decide) (Nat.le_of_ble_eq_true rfl) (Nat.le_of_ble_eq_true rfl) (Nat.le_of_ble_eq_true rfl) dL_law_9 (fun q9 C => ?_)
    have C3 : vC p s m #[Value.ref b] meth c D vwCl (tyF cI cZ) xN (fun q : Nat => s.heap.size ≤ q) (wC cI cZ (ad1 ad q9)) cL_law RL wsL_law 11 (some .boolean) := vC_w C (fun u => va_D.addr (C.2.2.2.2.2.1 ()) (wC_ad cI cZ ad q9 uX1_init u))
    refine V_astore_n (ls' := [(0, .ref b), (1, .ref (ad1 ad q9 0)), (2, .ref (ad1 ad q9 20))]) C dL_law_11 rfl (by decide) rfl rfl ?_
    refine V_conv (w := wC cI cZ (ad1 ad q9)) (u := mR uX1_init 20 (fun _ => 0)) (wC_of cI cZ ad q9 uX1_init) ?_
    refine V_aload_n C3 dL_law_12 rfl 2 rfl ?_
    refine V_iconst (v := 0) C3 dL_law_13 (by decide) ?_
    refine V_sipush (v := 400) C3 dL_law_14 (by decide) ?_
    refine Vm_iast C3 20 0 rfl rfl (by unfold vp_in; decide) wC_s20 dL_law_17 ?_
    refine V_iconst (v := nI 0) C3 dL_law_18 (by decide) ?_
    refine V_istore_n (ls' := [(0, .ref b), (1, .ref (ad1 ad q9 0)), (2, .ref (ad1 ad q9 20)), (3, .int (nI 0))]) C3 dL_law_19 rfl (by decide) rfl rfl ?_
    exact law_loop C3 hX hbl hbA hL (fun _ h => h) 40 0 rfl uM0 IV_0
  exact hV s.heap [] _ (fun k q h => by simp at h) va_S.rf hl
