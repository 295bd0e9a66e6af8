variable {p : Program} {l : Launch} {e : Env} {s : State} {m : MethodId} {args : Array Value} {below : List Frame} {meth : Method} {c : Code} {D : va_G} {cI cZ : ClassId} {ad : Nat → Nat} {A : Nat → Prop}
def rmL_traced : Room := { frames := 4, cells := 0, slots := 0, locals := 90 }
theorem hdL_traced : yL_traced.cls ≠ "java/lang/invoke/MethodHandle" ∧ yL_traced.cls ≠ "java/lang/invoke/VarHandle" ∧ (parseMethodDescriptor yL_traced.desc).map (fun d => d.parameters.length) = some 3 := by decide +kernel
theorem xq_reading {u : vM} {n K : Nat} (hK : u 8 0 = nI K) (hn : n < K) (hK5 : K ≤ 500) : xX1_reading u (nI n) = 0 ∧ rX1_reading u (nI n) = u 19 n := by
  have h1 : ¬ mfd u 8 ≤ nI n := by
    unfold mfd
    rw [hK]
    exact nI_ge hn (by omega)
  have h2 : nI n < (500 : Int32) := nI_lt (b := 500) (by omega) (by decide)
  unfold xX1_reading rX1_reading
  rw [if_neg (nI_pos (by omega)), if_neg (nI_pos (by omega)), if_neg h1, if_neg h1, if_pos h2, if_pos h2, mrd_nI (by omega)]
  exact ⟨rfl, rfl⟩
theorem xq_times {u : vM} {a b : Nat} (ha : a < 24) (hb : b < 24) : xX1_timesRead u (nI a) (nI b) = 0 ∧ rX1_timesRead u (nI a) (nI b) = u 18 (24 * a + b) := by
  unfold xX1_timesRead rX1_timesRead
  rw [cell1_nI ha, cell1_nI hb, if_neg c10, if_neg c10, if_neg c10, if_neg c10, ix_nI ha hb, mrd_nI (by omega)]
  exact ⟨rfl, rfl⟩
set_option maxHeartbeats 4000000 in
theorem qL_traced_4 (C : vC p s m args meth c D vwCl (tyF cI cZ) xN A (wC cI cZ ad) cL_traced RL wsL_traced 7 (some .boolean)) {u : vM} {m1 K us : Nat} (hK5 : K ≤ 500) (h8 : u 8 0 = nI K) (hus : us < 5) (hen : ∀ n, m1 ≤ n → n < K → ∃ rd rr c : Nat, rd < 24 ∧ rr < 24 ∧ rd / 6 ≠ rr / 6 ∧ u 19 n = nI (10000 * us + 100 * rd + rr) ∧ 1 ≤ c ∧ c < 2 ^ 20 ∧ u 18 (24 * rd + rr) = nI c) : ∀ (n k : Nat), k + n = K → m1 ≤ k → V p l e rmL_traced s m args below meth c D vwCl A (wC cI cZ ad) 7 0 0 (MQ below (mQi D vwCl (wC cI cZ ad) A 1 (mup u 20 1 (mfd u 8))) args s 0 0 A) u 4 [(0, .ref (ad 0)), (1, .int (nI us)), (2, .ref (ad 20)), (3, .int (nI k))] [] := by
  intro n
  induction n with
  | zero =>
    intro k hk hm
    obtain rfl : k = K := by omega
    refine V_iload_n C dL_traced_4 rfl 3 rfl ?_
    refine V_aload_n C dL_traced_5 rfl 0 rfl ?_
    refine V_cVi0 C xN_ok (kX1_readings _) (cwV 0 C.2.2.1 gL_traced_X1_readings rfl rfl rfl hvX1_readings ⟨Nat.le_of_ble_eq_true rfl, Nat.le_of_ble_eq_true rfl⟩) 0 rfl rfl (Nat.le_of_ble_eq_true rfl) ⟨(Nat.le_of_ble_eq_true rfl), (Nat.le_of_ble_eq_true rfl)⟩ dL_traced_6 ?_
    refine V_icmp_ge (tgt := 93) C dL_traced_9 (by decide) (fun _ => ?_) (fun h => absurd (show u 8 0 ≤ nI k by rw [h8]; exact nI_le (Nat.le_refl _) (by omega)) h)
    refine V_aload_n C dL_traced_93 rfl 2 rfl ?_
    refine V_iconst (v := 1) C dL_traced_94 (by decide) ?_
    refine V_aload_n C dL_traced_95 rfl 0 rfl ?_
    refine V_cVi0 C xN_ok (kX1_readings _) (cwV 0 C.2.2.1 gL_traced_X1_readings rfl rfl rfl hvX1_readings ⟨Nat.le_of_ble_eq_true rfl, Nat.le_of_ble_eq_true rfl⟩) 0 rfl rfl (Nat.le_of_ble_eq_true rfl) ⟨(Nat.le_of_ble_eq_true rfl), (Nat.le_of_ble_eq_true rfl)⟩ dL_traced_96 ?_
    refine Vm_iast C 20 0 rfl rfl (by unfold vp_in; decide) wC_s20 dL_traced_99 ?_
    refine V_iconst (v := 1) C dL_traced_100 (by decide) ?_
    exact V_iret C rfl rfl rfl rfl dL_traced_101
  | succ n ih =>
    intro k hk hm
    have hkK : k < K := by omega
    obtain ⟨rd, rr, cc, g1, g2, g3, g4, g5, g6, g7⟩ := hen k hm hkK
    have hT : 10000 * us + 100 * rd + rr < 2 ^ 31 := by omega
    refine V_iload_n C dL_traced_4 rfl 3 rfl ?_
    refine V_aload_n C dL_traced_5 rfl 0 rfl ?_
    refine V_cVi0 C xN_ok (kX1_readings _) (cwV 0 C.2.2.1 gL_traced_X1_readings rfl rfl rfl hvX1_readings ⟨Nat.le_of_ble_eq_true rfl, Nat.le_of_ble_eq_true rfl⟩) 0 rfl rfl (Nat.le_of_ble_eq_true rfl) ⟨(Nat.le_of_ble_eq_true rfl), (Nat.le_of_ble_eq_true rfl)⟩ dL_traced_6 ?_
    refine V_icmp_ge (tgt := 93) C dL_traced_9 (by decide) (fun h => absurd (show u 8 0 ≤ nI k from h) (by rw [h8]; exact nI_ge hkK (by omega))) (fun _ => ?_)
    refine V_aload_n C dL_traced_12 rfl 0 rfl ?_
    refine V_iload_n C dL_traced_13 rfl 3 rfl ?_
    refine V_cVi1 C xN_ok (kX1_reading _ _ (xq_reading h8 hkK hK5).1) (cwV 1 C.2.2.1 gL_traced_X1_reading rfl rfl rfl hvX1_reading ⟨Nat.le_of_ble_eq_true rfl, Nat.le_of_ble_eq_true rfl⟩) 0 rfl rfl (Nat.le_of_ble_eq_true rfl) ⟨(Nat.le_of_ble_eq_true rfl), (Nat.le_of_ble_eq_true rfl)⟩ dL_traced_14 ?_
    refine V_top (fun told ht => ?_)
    obtain rfl : told = nI (10000 * us + 100 * rd + rr) := ht.symm.trans ((xq_reading h8 hkK hK5).2.trans g4)
    clear ht
    refine V_istore (ls' := [(0, .ref (ad 0)), (1, .int (nI us)), (2, .ref (ad 20)), (3, .int (nI k)), (4, .int (nI (10000 * us + 100 * rd + rr)))]) C dL_traced_17 (by decide) rfl rfl ?_
    refine V_iload C dL_traced_19 4 rfl ?_
    refine V_bipush (v := 100) C dL_traced_21 (by decide) ?_
    refine V_idiv C dL_traced_23 (by decide) ?_
    refine V_top (fun y hy => ?_)
    obtain rfl : y = nI (100 * us + rd) := hy.symm.trans ((pk_div (d := 100) hT (by decide) (by decide)).trans (congrArg nI (by omega)))
    clear hy
    refine V_bipush (v := 100) C dL_traced_24 (by decide) ?_
    refine V_irem C dL_traced_26 (by decide) ?_
    refine V_top (fun y hy => ?_)
    obtain rfl : y = nI rd := hy.symm.trans ((pk_rem (d := 100) (by omega) (by decide) (by decide)).trans (congrArg nI (by omega)))
    clear hy
    refine V_istore (ls' := [(0, .ref (ad 0)), (1, .int (nI us)), (2, .ref (ad 20)), (3, .int (nI k)), (4, .int (nI (10000 * us + 100 * rd + rr))), (5, .int (nI rd))]) C dL_traced_27 (by decide) rfl rfl ?_
    refine V_iload C dL_traced_29 4 rfl ?_
    refine V_bipush (v := 100) C dL_traced_31 (by decide) ?_
    refine V_irem C dL_traced_33 (by decide) ?_
    refine V_top (fun y hy => ?_)
    obtain rfl : y = nI rr := hy.symm.trans ((pk_rem (d := 100) hT (by decide) (by decide)).trans (congrArg nI (by omega)))
    clear hy
    refine V_istore (ls' := [(0, .ref (ad 0)), (1, .int (nI us)), (2, .ref (ad 20)), (3, .int (nI k)), (4, .int (nI (10000 * us + 100 * rd + rr))), (5, .int (nI rd)), (6, .int (nI rr))]) C dL_traced_34 (by decide) rfl rfl ?_
    refine V_iload C dL_traced_36 4 rfl ?_
    refine V_sipush (v := 10000) C dL_traced_38 (by decide) ?_
    refine V_idiv C dL_traced_41 (by decide) ?_
    refine V_top (fun y hy => ?_)
    obtain rfl : y = nI us := hy.symm.trans ((pk_div (d := 10000) hT (by decide) (by decide)).trans (congrArg nI (by omega)))
    clear hy
    refine V_iload_n C dL_traced_42 rfl 1 rfl ?_
    refine V_icmp_ne (tgt := 85) C dL_traced_43 (by decide) (fun h => absurd rfl h) (fun _ => ?_)
    refine V_iload C dL_traced_46 5 rfl ?_
    refine V_bipush (v := 23) C dL_traced_48 (by decide) ?_
    refine V_icmp_gt (tgt := 85) C dL_traced_50 (by decide) (fun h => absurd h (nI_nlt (a := 23) (by omega) (by decide))) (fun _ => ?_)
    refine V_iload C dL_traced_53 6 rfl ?_
    refine V_bipush (v := 23) C dL_traced_55 (by decide) ?_
    refine V_icmp_gt (tgt := 85) C dL_traced_57 (by decide) (fun h => absurd h (nI_nlt (a := 23) (by omega) (by decide))) (fun _ => ?_)
    refine V_iload C dL_traced_60 5 rfl ?_
    refine V_bipush (v := 6) C dL_traced_62 (by decide) ?_
    refine V_idiv C dL_traced_64 (by decide) ?_
    refine V_iload C dL_traced_65 6 rfl ?_
    refine V_bipush (v := 6) C dL_traced_67 (by decide) ?_
    refine V_idiv C dL_traced_69 (by decide) ?_
    refine V_icmp_eq (tgt := 85) C dL_traced_70 (by decide) (fun h => absurd h (by rw [d6_nI (by omega), d6_nI (by omega)]; exact fun q => g3 ((nI_eq (by omega) (by omega)).mp q))) (fun _ => ?_)
    refine V_aload_n C dL_traced_73 rfl 0 rfl ?_
    refine V_iload C dL_traced_74 5 rfl ?_
    refine V_iload C dL_traced_76 6 rfl ?_
    refine V_cVi2 C xN_ok (kX1_timesRead _ _ _ (xq_times g1 g2).1) (cwV 2 C.2.2.1 gL_traced_X1_timesRead rfl rfl rfl hvX1_timesRead ⟨Nat.le_of_ble_eq_true rfl, Nat.le_of_ble_eq_true rfl⟩) 0 rfl rfl (Nat.le_of_ble_eq_true rfl) ⟨(Nat.le_of_ble_eq_true rfl), (Nat.le_of_ble_eq_true rfl)⟩ dL_traced_78 ?_
    refine V_iconst (v := 1) C dL_traced_81 (by decide) ?_
    refine V_icmp_ge (tgt := 87) C dL_traced_82 (by decide) (fun _ => ?_) (fun h => absurd (show (1 : Int32) ≤ rX1_timesRead u (nI rd) (nI rr) by rw [(xq_times g1 g2).2, g7]; exact nI_le (a := 1) g5 (by omega)) h)
    refine V_sub (ls' := [(0, .ref (ad 0)), (1, .int (nI us)), (2, .ref (ad 20)), (3, .int (nI k))]) [0, 1, 2, 3] rfl ?_
    refine V_iinc (v := nI (k + 1)) (ls' := [(0, .ref (ad 0)), (1, .int (nI us)), (2, .ref (ad 20)), (3, .int (nI (k + 1)))]) C dL_traced_87 3 rfl (nI_1 k) (by decide) rfl rfl ?_
    refine V_goto (tgt := 4) C dL_traced_90 (by decide) ?_
    exact ih (k + 1) (by omega) (by omega)
set_option maxHeartbeats 4000000 in
theorem kL_traced (u : vM) (a1 : Int32) (h : TR a1 u) : mI D vwCl (tyF cI cZ) xN (wC cI cZ ad) l yL_traced wsL_traced rmL_traced [.ref (ad 0), .int a1, .ref (ad 20)] u 1 (mup u 20 1 (mfd u 8)) := by
  obtain ⟨m1, K, us, h20, hmK, hK5, h8, rfl, hus, hen⟩ := h
  refine mI_of (cc := cL_traced) (maxL := 7) (ret := (some .boolean)) (own := RL) rfl (by decide) rfl (wC_ok cI cZ ad) (Nat.le_of_ble_eq_true rfl) (fun p e s m args below meth c A C => ?_)
  refine V_ls (ls' := [(0, .ref (ad 0)), (1, .int (nI us)), (2, .ref (ad 20))]) rfl ?_
  refine V_aload_n C dL_traced_0 rfl 2 rfl ?_
  refine V_iconst (v := 1) C dL_traced_1 (by decide) ?_
  refine Vm_iald C 20 0 rfl rfl (by unfold vp_in; decide) dL_traced_2 ?_
  refine V_top (fun y hy => ?_)
  obtain rfl : y = nI m1 := hy.symm.trans ((mrd_nI (i := 1) (by decide)).trans h20)
  clear hy
  refine V_istore_n (ls' := [(0, .ref (ad 0)), (1, .int (nI us)), (2, .ref (ad 20)), (3, .int (nI m1))]) C dL_traced_3 rfl (by decide) rfl rfl ?_
  exact qL_traced_4 C hK5 h8 hus hen (K - m1) m1 (by omega) (Nat.le_refl _)
