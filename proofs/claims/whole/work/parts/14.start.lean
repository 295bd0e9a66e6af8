section VS
variable {p : Program} {l : Launch} {e : Env} {R : Room} {s : State} {m : MethodId} {args : Array Value} {below : List Frame} {meth : Method} {c : Code} {D : va_G} {cl : List vw_C} {tys : List (ClassId × FieldType)} {X : State → Prop} {A : Nat → Prop} {cc : ByteArray} {own : String} {Ts : List Cond} {nL k n : Nat} {rt : Option FieldType} {Q : State → Prop} {pc : Nat} {ls : List (Nat × Value)} {st : List Value} {ws : va_W}
/-- a public constructor, called on its new object -/
theorem V_ctorI (C : vC p s m args meth c D cl tys X A (uW ws) cc own Ts nL rt) {Y : State → Prop} (hY : xOK Y) (hXY : X s → Y s) {tys' : List (ClassId × FieldType)} (htys : ∃ is : List Nat, is.filterMap (fun i => tys[i]?) = tys') {y : MethodName} {bytes : ByteArray} {maxL index mc ms q ci i0 : Nat} {ws2 : List Cond} {rm : Room} {fs : List Value} {Post : (Nat → Nat) → va_W}
    (h : mN D cl tys' Y l y ws2 rm q ci fs mc ms Post) (cw : CallB R s args own index y bytes maxL none ws2 rm mc ms 0 ∧ y.name = "<init>" ∧ (Cond.instanceMethod y).before args s = true) (isR : List Nat) (wr : va_W) (hC : ws[i0]? = some (q, .inr (ci, fs))) (hR : isR.map (fun i => ws[i]?) = wr.map some) (hnd : va_nd isR = true) (hdis : i0 ∉ isR) (hst : (st.map fun v => v.category).sum ≤ 8) (hf : k + mc ≤ R.cells ∧ n + ms ≤ R.slots) (d : decode cc pc = .ok (.invokespecial index, 3))
    (K : ∀ ad : Nat → Nat, ad 0 = q → vC p s m args meth c D cl tys X A (uW (wr ++ Post ad)) cc own Ts nL rt → V p l e R s m args below meth c D cl A (uW (wr ++ Post ad)) nL (k + mc) (n + ms) Q () (pc + 3) ls st) : V p l e R s m args below meth c D cl A (uW ws) nL k n Q () pc ls (.ref q :: st) := by
  intro H locs la hP hS hl
  obtain ⟨is, his⟩ := htys
  have hDc := (C.2.2.2.2.2.1 ()).sub (ws' := [(q, .inr (ci, fs))]) [i0] rfl (by simp [hC])
  have hPc := hP.sub (ws' := [(q, .inr (ci, fs))]) [i0] (by simp [hC])
  have hFc := va_free (wc := [(q, .inr (ci, fs))]) (C.2.2.2.2.2.1 ()) hS C.2.2.2.2.2.2.1 [i0] (by simp [hC])
  refine va_callv (va_runI (b := q) (As := []) (rest := st) (vfx C) (h H.size) cw ⟨mPc_blind hY, fun U hU hW => ?_⟩ rfl rfl hl.1 rfl (lv_room hst) d hf) hS (fun x _ hx => hFc x hx) hFc (fun _ t H1 locs1 ht hvm hw hB hz1 hk1 hS1 => ?_)
  · exact ⟨rfl, by rw [hU], by rw [hU]; exact hPc, va_K.moved hW.alike (C.2.2.2.2.1.sub is his), hDc.weaken (fun _ _ _ _ => trivial), hY s U hW (hXY C.2.2.2.2.2.2.2.2.2.2)⟩
  · obtain ⟨ad, had, hP1, hD1⟩ := hB
    rw [ht] at hP1
    obtain ⟨hP2, hD2⟩ := va_join (wr := wr) (w1 := Post ad) hP (C.2.2.2.2.2.1 ()) [i0] isR (by simp [hC]) hR hnd (fun i hi => by simp; intro hi2; subst hi2; exact hdis hi) hk1 hFc hP1 hD1
    exact K ad had (vC_w C (fun _ => hD2)) H1 locs1 la hP2 hS1 hl
end VS
theorem ls_nW : ∀ w ∈ nWords, w ∈ lw_tbl := by decide +kernel
theorem ls_nT : ∀ w ∈ nWords, w.onTables = true := by decide +kernel
theorem ls_eW : ∀ z ∈ eNames, ∀ w ∈ eB z, w ∈ lw_tbl := by decide +kernel
theorem ls_eT : ∀ z ∈ eNames, ∀ w ∈ eB z, w.onTables = true := by decide +kernel
theorem ls_sW : ∀ q ∈ sWords, Cond.stringRef RX1 q.1 q.2 ∈ lw_tbl := by decide +kernel
theorem ls_sX : ∀ q ∈ sWords, Cond.exactly (.string RX1 q.1) "java/lang/String" ∈ flatC (Jvm.Cond.and given_1 narrow_1) := by decide +kernel
theorem ls_nc : Cond.not (.castable "java/lang/IllegalStateException" "java/lang/IllegalArgumentException") ∈ flatC (Jvm.Cond.and given_1 narrow_1) := by decide +kernel
theorem ls_z1 : Cond.isRef (.static Bundle.tN "UNASSIGNED_STACK" Bundle.steD) ∈ flatC (Jvm.Cond.and given_1 narrow_1) := by decide +kernel
theorem ls_z2 : Cond.isRef (.static Bundle.tN "SUPPRESSED_SENTINEL" Bundle.listD) ∈ flatC (Jvm.Cond.and given_1 narrow_1) := by decide +kernel
theorem ls_l1 : Cond.laysStatic Bundle.tN "UNASSIGNED_STACK" Bundle.steD ∈ lw_tbl := by decide +kernel
theorem ls_l2 : Cond.laysStatic Bundle.tN "SUPPRESSED_SENTINEL" Bundle.listD ∈ lw_tbl := by decide +kernel
theorem ls_ti : Cond.initialized Bundle.tN ∈ lw_tbl := by decide +kernel
theorem ls_i0 : Cond.instantiable RX0 8 ∈ lw_tbl := by decide +kernel
theorem ls_i1 : Cond.instantiable RX1 12 ∈ wsL_law := by decide +kernel
theorem ls_i2 : Cond.instantiable RX2 18 ∈ wsL_law := by decide +kernel
theorem ls_aI : Cond.arrayClass .int ∈ lw_tbl := by decide +kernel
theorem ls_aZ : Cond.arrayClass .boolean ∈ lw_tbl := by decide +kernel
theorem ls_aJ : Cond.arrayClass .long ∈ wsL_law := by decide +kernel
theorem ls_c1 : Cond.classLink RL 8 RX1 ∈ wsL_law := by decide +kernel
theorem ls_c2 : Cond.classLink RL 70 RX2 ∈ wsL_law := by decide +kernel
theorem ls_n1 : Cond.initialized RX1 ∈ wsL_law := by decide +kernel
theorem ls_n2 : Cond.initialized RX2 ∈ wsL_law := by decide +kernel
theorem ls_m1 : Cond.methodLink RL 69 yX1_init ∈ wsL_law := by decide +kernel
theorem ls_m2 : Cond.methodLink RL 72 yX2_init ∈ wsL_law := by decide +kernel
theorem ls_o1 : Cond.instanceMethod yX1_init ∈ wsL_law := by decide +kernel
theorem ls_o2 : Cond.instanceMethod yX2_init ∈ wsL_law := by decide +kernel
theorem ls_xL {args : Array Value} {s : State} (hts : ∀ w ∈ lw_tbl, w.before args s = true) (hgv : (Jvm.Cond.and given_1 narrow_1).before args s = true) : xL s := by
  have hs := flat_of_before _ hgv
  refine ⟨⟨fun w hw => va_Nw.of (ls_nT w hw) (hts w (ls_nW w hw)), fun z hz w hw => va_Nw.of (ls_eT z hz w hw) (hts w (ls_eW z hz w hw)), fun q hq => ?_⟩, va_Nc.of (hs _ ls_nc)⟩
  have h1 := hts _ (ls_sW q hq)
  have h2 := hs _ (ls_sX q hq)
  obtain ⟨a, c, cell, k, h3, -⟩ := Cond.exactly_spec h2
  exact ⟨a, vk_R.of h1 h3⟩
theorem ls_zq {args : Array Value} {s : State} (hts : ∀ w ∈ lw_tbl, w.before args s = true) (hgv : (Jvm.Cond.and given_1 narrow_1).before args s = true) {A : Nat → Prop} (hA : ∀ a : Nat, a < s.heap.size → ¬ A a) : zq A s s.heap := by
  have hs := flat_of_before _ hgv
  exact ⟨vx_Zqof (hts _ ls_l1) (hts _ ls_ti) (hs _ ls_z1) hA, vx_Zqof (hts _ ls_l2) (hts _ ls_ti) (hs _ ls_z2) hA⟩
set_option maxHeartbeats 4000000 in
set_option maxRecDepth 100000 in
/-- THE LAW, from its entry -/
theorem whole_start {p : Program} {e : Env} {s : State} {m : MethodId} {below : List Frame} {meth : Method} {c : Code} (l : Launch) (hflags : l.flags = flags0) {b L : Nat} {xs : Nat → Int32} (hL : L ≤ 3072) (C0 : lw_At p s m meth c b L xs) : W p l e room_1 s m #[Value.ref b] below meth c s.heap [] 0 0 (lw_Z below #[Value.ref b] s) (entryFrame m ([Value.ref b] : List Value).toArray 7) := by
  obtain ⟨hx, hb, hr, hml, hown, hts0, hX, hbl, hlocks, hgv⟩ := id C0
  have hl0 : l.stackTraces = false := by
    unfold Launch.stackTraces
    rw [hflags]
    decide +kernel
  have hts : ∀ w ∈ wsL_law, w.before #[Value.ref b] s = true := fun w h => hts0 w (wsL_law_in w h)
  have hbA : ¬ (fun q : Nat => s.heap.size ≤ q) b := Nat.not_le.mpr hbl
  obtain ⟨c0, iS0, hKn0⟩ := u_known (C := RX0) (T := TX0) (N := 8) (n := 8) hts inlX0 (hts0 _ ls_i0)
  obtain ⟨c1, iS1, hKn1⟩ := u_known (C := RX1) (T := TX1) (N := 12) (n := 12) hts inlX1 (hts _ ls_i1)
  obtain ⟨c2, iS2, hKn2⟩ := u_known (C := RX2) (T := TX2) (N := 18) (n := 18) hts inlX2 (hts _ ls_i2)
  obtain ⟨D, hKc⟩ : ∃ D : va_G, ∀ (k : Nat) (q : vw_C), vwCl[k]? = some q → u_Kn s q.1 q.2.1 q.2.2 (D.1 k) (D.2 k) := by
    refine ⟨(fun k => if k = 0 then c0 else if k = 1 then c1 else c2, fun k => if k = 0 then iS0 else if k = 1 then iS1 else iS2), ?_⟩
    intro k q hq
    match k, hq with
    | 0, hq => cases hq; exact hKn0
    | 1, hq => cases hq; exact hKn1
    | 2, hq => cases hq; exact hKn2
    | k + 3, hq => simp [vwCl] at hq
  obtain ⟨cI, kI, compI, hI1, hI2, hI3⟩ := Cond.arrayClass_spec (hts0 _ ls_aI)
  obtain ⟨cZ, kZ, compZ, hZ1, hZ2, hZ3⟩ := Cond.arrayClass_spec (hts0 _ ls_aZ)
  obtain ⟨cJ, kJ, compJ, hJ1, hJ2, hJ3⟩ := Cond.arrayClass_spec (hts _ ls_aJ)
  have hK : va_K D vwCl (tyO cI cZ cJ) s := by
    refine ⟨hKc, fun k q hq => ?_⟩
    match k, hq with
    | 0, hq => cases hq; exact ⟨fun n z => ⟨fun k h => (by cases h), kI, hI2, compI, hI3⟩, hI1⟩
    | 1, hq => cases hq; exact ⟨fun n z => ⟨fun k h => (by cases h), kZ, hZ2, compZ, hZ3⟩, hZ1⟩
    | 2, hq => cases hq; exact ⟨fun n z => ⟨fun k h => (by cases h), kJ, hJ2, compJ, hJ3⟩, hJ1⟩
    | k + 3, hq => simp [tyO] at hq
  have C : vC p s m #[Value.ref b] meth c D vwCl (tyO cI cZ cJ) xL (fun q : Nat => s.heap.size ≤ q) (uW []) cL_law RL wsL_law 7 (some .boolean) :=
    ⟨hx, hb, hts, hown, hK, fun _ => ⟨fun i j p q h => by simp at h, fun k q h => by simp at h⟩, fun _ h => h, hml, hlocks, hr, ls_xL hts0 hgv⟩
  have hZ : zq (fun q : Nat => s.heap.size ≤ q) s s.heap := ls_zq hts0 hgv (fun a h => Nat.not_le.mpr h)
  have hl := lv_entry [.ref b] (n := 7) (Nat.le_of_ble_eq_true rfl)
  rw [lg_entry_eq]
  have hV : V p l e room_1 s m #[Value.ref b] below meth c D vwCl (fun q : Nat => s.heap.size ≤ q) (uW []) 7 0 0 (lw_Z below #[Value.ref b] s) () 0 (lv_args 0 [.ref b]) [] := by
    refine V_ls (ls' := [(0, .ref b)]) rfl ?_
    refine V_new (ci := 1) (fs := [.null, .null, .null, .null, .null, .null, .null, .null, .null, .null, .null, .null]) C inlX1 tyX1 tyX1_ok ls_c1 ls_i1 ls_n1 rfl (fun j hj => by rcases (show j = 0 ∨ j = 1 ∨ j = 2 ∨ j = 3 ∨ j = 4 ∨ j = 5 ∨ j = 6 ∨ j = 7 ∨ j = 8 ∨ j = 9 ∨ j = 10 ∨ j = 11 by omega) with rfl | rfl | rfl | rfl | rfl | rfl | rfl | rfl | rfl | rfl | rfl | rfl <;> rfl) (Nat.le_of_ble_eq_true rfl) (Nat.le_of_ble_eq_true rfl) dL_law_0 (fun q1 C => ?_)
    refine V_dup C dL_law_3 rfl ?_
    refine V_ctorI (i0 := 0) (Post := fun ad => wC cI cZ ad uX1_init) C xN_ok (fun h => h.1.1) (tys' := tyF cI cZ) ⟨[0, 1], rfl⟩ (kX1_init q1) (cwI 0 C.2.2.1 gL_law_X1_init rfl rfl rfl (C.2.2.1 _ ls_n1) (C.2.2.1 _ ls_m1) (C.2.2.1 _ ls_o1) rfl hdX1_init ⟨Nat.le_of_ble_eq_true rfl, Nat.le_of_ble_eq_true rfl⟩) [] [] rfl rfl rfl (by decide) (Nat.le_of_ble_eq_true rfl) ⟨Nat.le_of_ble_eq_true rfl, Nat.le_of_ble_eq_true rfl⟩ dL_law_4 (fun ad had C2 => ?_)
    subst had
    have C := C2
    refine V_astore_n (ls' := [(0, .ref b), (1, .ref (ad 0))]) C dL_law_7 rfl (by decide) rfl rfl ?_
    refine V_new (ci := 2) (fs := [.null, .null, .null, .null, .null, .null, .null, .null, .null, .null, .null, .null, .null, .null, .null, .int 0, .null, .int 0]) C inlX2 tyX2 tyX2_ok ls_c2 ls_i2 ls_n2 rfl (fun j hj => by rcases (show j = 0 ∨ j = 1 ∨ j = 2 ∨ j = 3 ∨ j = 4 ∨ j = 5 ∨ j = 6 ∨ j = 7 ∨ j = 8 ∨ j = 9 ∨ j = 10 ∨ j = 11 ∨ j = 12 ∨ j = 13 ∨ j = 14 ∨ j = 15 ∨ j = 16 ∨ j = 17 by omega) with rfl | rfl | rfl | rfl | rfl | rfl | rfl | rfl | rfl | rfl | rfl | rfl | rfl | rfl | rfl | rfl | rfl | rfl <;> rfl) (Nat.le_of_ble_eq_true rfl) (Nat.le_of_ble_eq_true rfl) dL_law_8 (fun q2 C => ?_)
    refine V_dup C dL_law_11 rfl ?_
    refine V_ctorI (i0 := 20) (Post := fun ad => wM cI ad uX2_init) C xT_ok (fun _ => trivial) (tys' := tyM cI) ⟨[0], rfl⟩ (kX2_init q2) (cwI 0 C.2.2.1 gL_law_X2_init rfl rfl rfl (C.2.2.1 _ ls_n2) (C.2.2.1 _ ls_m2) (C.2.2.1 _ ls_o2) rfl hdX2_init ⟨Nat.le_of_ble_eq_true rfl, Nat.le_of_ble_eq_true rfl⟩) [0, 1, 2, 3, 4, 5, 6, 7, 8, 9, 10, 11, 12, 13, 14, 15, 16, 17, 18, 19] (wC cI cZ ad uX1_init) rfl rfl rfl (by decide) (Nat.le_of_ble_eq_true rfl) ⟨Nat.le_of_ble_eq_true rfl, Nat.le_of_ble_eq_true rfl⟩ dL_law_12 (fun ad2 had2 C2 => ?_)
    subst had2
    have C := C2
    refine V_astore_n (ls' := [(0, .ref b), (1, .ref (ad 0)), (2, .ref (ad2 0))]) C dL_law_15 rfl (by decide) rfl rfl ?_
    refine V_iconst (v := 1) C dL_law_16 (by decide) ?_
    refine V_newa (atype := .long) (ty := .long) (a0 := (1, .inr (.inl (fun _ => 0)))) C rfl ls_aJ 2 rfl (fun _ => rfl) (by decide) (by decide) (Nat.le_of_ble_eq_true rfl) (Nat.le_of_ble_eq_true rfl) (Nat.le_of_ble_eq_true rfl) dL_law_17 (fun ao C => ?_)
    refine V_astore_n (ls' := [(0, .ref b), (1, .ref (ad 0)), (2, .ref (ad2 0)), (3, .ref ao)]) C dL_law_19 rfl (by decide) rfl rfl ?_
    refine V_iconst (v := nI (6 * 0)) C dL_law_20 (by decide) ?_
    refine V_istore (ls' := [(0, .ref b), (1, .ref (ad 0)), (2, .ref (ad2 0)), (3, .ref ao), (4, .int (nI (6 * 0)))]) C dL_law_21 (by decide) rfl rfl ?_
    have C3 : vC p s m #[Value.ref b] meth c D vwCl (tyO cI cZ cJ) xL (fun q : Nat => s.heap.size ≤ q) (wA cI cZ cJ ad ad2 ao) cL_law RL wsL_law 7 (some .boolean) := vC_w C (fun u => va_D.addr (C.2.2.2.2.2.1 ()) rfl)
    refine V_conv (w := wA cI cZ cJ ad ad2 ao) (u := (uX1_init, uX2_init, fun _ => 0)) rfl ?_
    exact law_loop C3 hl0 hZ hX hbl hbA hL (fun _ h => h) 513 0 rfl (Nat.zero_le _) uX1_init uX2_init (fun _ => 0) rl_init
  exact hV s.heap [] _ (fun k q h => by simp at h) va_S.rf hl
