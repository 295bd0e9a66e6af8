variable {p : Program} {l : Launch} {e : Env} {s : State} {m : MethodId} {args : Array Value} {below : List Frame} {meth : Method} {c : Code} {D : va_G} {cI cZ : ClassId} {ad : Nat → Nat} {A : Nat → Prop}
theorem hdL_at : yL_at.cls ≠ "java/lang/invoke/MethodHandle" ∧ yL_at.cls ≠ "java/lang/invoke/VarHandle" ∧ (parseMethodDescriptor yL_at.desc).map (fun d => d.parameters.length) = some 2 := by decide +kernel
theorem hvL_at : yL_at.cls = RL ∧ yL_at.cls ≠ "java/lang/invoke/MethodHandle" ∧ yL_at.cls ≠ "java/lang/invoke/VarHandle" ∧ (parseMethodDescriptor yL_at.desc).map (fun d => d.parameters.length) = some 2 := by decide +kernel
set_option maxHeartbeats 4000000 in
theorem kL_at {l : Launch} {D : va_G} {cI cZ : ClassId} {ad : Nat → Nat} (u : vM) (a0 : Int32) (a1 : Int32) (hp0 : ¬ a1 = 0) : mI D vwCl (tyF cI cZ) xN (wC cI cZ ad) l yL_at wsL_at rmL_at [.int a0, .int a1] u (rL_at a0 a1) u := by
  refine mI_of (cc := cL_at) (maxL := 2) (ret := (some .int)) (own := RL) rfl (by decide) rfl (wC_ok cI cZ ad) (Nat.le_of_ble_eq_true rfl) (fun p e s m args below meth c A C => ?_)
  refine V_ls (ls' := [(0, .int a0), (1, .int a1)]) rfl ?_
  refine V_iload_n C dL_at_0 rfl 0 rfl ?_
  refine V_iconst (v := 1) C dL_at_1 (by decide) ?_
  refine V_iushr C dL_at_2 ?_
  refine V_iload_n C dL_at_3 rfl 1 rfl ?_
  refine V_irem C dL_at_4 hp0 ?_
  exact V_iret C rfl (vp_nar_int _) rfl rfl dL_at_5
theorem hdL_marked : yL_marked.cls ≠ "java/lang/invoke/MethodHandle" ∧ yL_marked.cls ≠ "java/lang/invoke/VarHandle" ∧ (parseMethodDescriptor yL_marked.desc).map (fun d => d.parameters.length) = some 1 := by decide +kernel
theorem hvL_marked : yL_marked.cls = RL ∧ yL_marked.cls ≠ "java/lang/invoke/MethodHandle" ∧ yL_marked.cls ≠ "java/lang/invoke/VarHandle" ∧ (parseMethodDescriptor yL_marked.desc).map (fun d => d.parameters.length) = some 1 := by decide +kernel
set_option maxHeartbeats 4000000 in
theorem qL_marked_4 (C : vC p s m args meth c D vwCl (tyF cI cZ) xN A (wC cI cZ ad) cL_marked RL wsL_marked 3 (some .int)) {Q : State → Prop} : ∀ (n k : Nat), k + n = 24 → ∀ (u : vM) (x1 : Int32), bo u 6 → (∀ r : Int32, lpL_marked_4 u n k x1 = r → bo u 6 → V p l e rmL_marked s m args below meth c D vwCl A (wC cI cZ ad) 3 0 0 Q u 34 [(0, .ref (ad 0)), (1, .int r), (2, .int (nI 24))] []) → V p l e rmL_marked s m args below meth c D vwCl A (wC cI cZ ad) 3 0 0 Q u 4 [(0, .ref (ad 0)), (1, .int x1), (2, .int (nI k))] [] := by
  intro n
  induction n with
  | zero =>
    intro k hk u x1 hi0 KK
    obtain rfl : k = 24 := by omega
    refine V_iload_n C dL_marked_4 rfl 2 rfl ?_
    refine V_bipush (v := 24) C dL_marked_5 (by decide) ?_
    refine V_icmp_ge (tgt := 34) C dL_marked_7 (by decide) (fun _ => ?_) (fun h => absurd (by decide : (24 : Int32) ≤ nI 24) h)
    exact KK _ rfl hi0
  | succ n ih =>
    intro k hk u x1 hi0 KK
    have hkB : k < 24 := by omega
    refine V_iload_n C dL_marked_4 rfl 2 rfl ?_
    refine V_bipush (v := 24) C dL_marked_5 (by decide) ?_
    refine V_icmp_ge (tgt := 34) C dL_marked_7 (by decide) (fun h => absurd h (nI_ge hkB (by decide))) (fun _ => ?_)
    refine V_iload_n C dL_marked_10 rfl 1 rfl ?_
    refine V_aload_n C dL_marked_11 rfl 0 rfl ?_
    refine V_iload_n C dL_marked_12 rfl 2 rfl ?_
    refine V_cVi1 C xN_ok (kX1_isMarked _ _ hi0 (xq_isMarked (vp_in_nI hkB (by decide)))) (cwV 1 C.2.2.1 gL_marked_X1_isMarked rfl rfl rfl hvX1_isMarked ⟨Nat.le_of_ble_eq_true rfl, Nat.le_of_ble_eq_true rfl⟩) 0 rfl rfl (Nat.le_of_ble_eq_true rfl) ⟨(Nat.le_of_ble_eq_true rfl), (Nat.le_of_ble_eq_true rfl)⟩ dL_marked_13 ?_
    refine V_join1 (J := 26) (T := (if (rX1_isMarked u (nI k)) = 0 then 0 else (1 <<< ((nI k) &&& 31)))) (fun j26 hj26 => ?_) (fun J26 => ?_)
    ·
      refine V_ior C dL_marked_26 ?_
      refine V_top (fun y27 hy27 => ?_)
      refine V_istore_n (ls' := [(0, .ref (ad 0)), (1, .int y27), (2, .int (nI k))]) C dL_marked_27 rfl (by decide) rfl rfl ?_
      refine V_iinc (v := (nI (k + 1))) (ls' := [(0, .ref (ad 0)), (1, .int y27), (2, .int (nI (k + 1)))]) C dL_marked_28 2 rfl (nI_1 k) (by decide) rfl rfl ?_
      refine V_goto (tgt := 4) C dL_marked_31 (by decide) ?_
      subst hy27
      subst hj26
      exact ih (k + 1) (by omega) _ _ hi0 (fun r hr => KK r (rfl.trans hr))
    ·
      refine V_if_eq (tgt := 25) C dL_marked_16 (by decide) (fun h16 => ?_) (fun h16 => ?_)
      ·
        refine V_iconst (v := 0) C dL_marked_25 (by decide) ?_
        exact J26 _ ((if_pos h16).trans rfl)
      ·
        refine V_iconst (v := 1) C dL_marked_19 (by decide) ?_
        refine V_iload_n C dL_marked_20 rfl 2 rfl ?_
        refine V_ishl C dL_marked_21 ?_
        refine V_goto (tgt := 26) C dL_marked_22 (by decide) ?_
        exact J26 _ ((if_neg h16).trans rfl)
set_option maxHeartbeats 4000000 in
theorem kL_marked {l : Launch} {D : va_G} {cI cZ : ClassId} {ad : Nat → Nat} (u : vM) (hp0 : bo u 6) : mI D vwCl (tyF cI cZ) xN (wC cI cZ ad) l yL_marked wsL_marked rmL_marked [.ref (ad 0)] u (rL_marked u) u := by
  refine mI_of (cc := cL_marked) (maxL := 3) (ret := (some .int)) (own := RL) rfl (by decide) rfl (wC_ok cI cZ ad) (Nat.le_of_ble_eq_true rfl) (fun p e s m args below meth c A C => ?_)
  refine V_ls (ls' := [(0, .ref (ad 0))]) rfl ?_
  refine V_iconst (v := 0) C dL_marked_0 (by decide) ?_
  refine V_istore_n (ls' := [(0, .ref (ad 0)), (1, .int 0)]) C dL_marked_1 rfl (by decide) rfl rfl ?_
  refine V_iconst (v := 0) C dL_marked_2 (by decide) ?_
  refine V_istore_n (ls' := [(0, .ref (ad 0)), (1, .int 0), (2, .int 0)]) C dL_marked_3 rfl (by decide) rfl rfl ?_
  refine V_sub (ls' := [(0, .ref (ad 0)), (1, .int 0), (2, .int 0)]) [0, 1, 2] rfl ?_
  refine qL_marked_4 C 24 0 (by decide) u 0 hp0 (fun r4 hr4 hi0_4 => ?_)
  refine V_iload_n C dL_marked_34 rfl 1 rfl ?_
  subst hr4
  exact V_iret C rfl (vp_nar_int _) rfl rfl dL_marked_35
theorem hdL_accounts : yL_accounts.cls ≠ "java/lang/invoke/MethodHandle" ∧ yL_accounts.cls ≠ "java/lang/invoke/VarHandle" ∧ (parseMethodDescriptor yL_accounts.desc).map (fun d => d.parameters.length) = some 2 := by decide +kernel
theorem hvL_accounts : yL_accounts.cls = RL ∧ yL_accounts.cls ≠ "java/lang/invoke/MethodHandle" ∧ yL_accounts.cls ≠ "java/lang/invoke/VarHandle" ∧ (parseMethodDescriptor yL_accounts.desc).map (fun d => d.parameters.length) = some 2 := by decide +kernel
set_option maxHeartbeats 4000000 in
theorem qL_accounts_68 (C : vC p s m args meth c D vwCl (tyF cI cZ) xN A (wC cI cZ ad) cL_accounts RL wsL_accounts 7 (some .boolean)) {Q : State → Prop} (a2 : Int32) (a3 : Int32) (a5 : Int32) : ∀ (n k : Nat), k + n = 5 → ∀ (u : vM) (x4 : Int32), (∀ r : Int32, lpL_accounts_68 u n k x4 = r → V p l e rmL_accounts s m args below meth c D vwCl A (wC cI cZ ad) 7 0 0 Q u 91 [(0, .ref (ad 0)), (1, .ref (ad 20)), (2, .int a2), (3, .int a3), (4, .int r), (5, .int a5), (6, .int (nI 5))] []) → V p l e rmL_accounts s m args below meth c D vwCl A (wC cI cZ ad) 7 0 0 Q u 68 [(0, .ref (ad 0)), (1, .ref (ad 20)), (2, .int a2), (3, .int a3), (4, .int x4), (5, .int a5), (6, .int (nI k))] [] := by
  intro n
  induction n with
  | zero =>
    intro k hk u x4 KK
    obtain rfl : k = 5 := by omega
    refine V_iload C dL_accounts_68 6 rfl ?_
    refine V_iconst (v := 5) C dL_accounts_70 (by decide) ?_
    refine V_icmp_ge (tgt := 91) C dL_accounts_71 (by decide) (fun _ => ?_) (fun h => absurd (by decide : (5 : Int32) ≤ nI 5) h)
    exact KK _ rfl
  | succ n ih =>
    intro k hk u x4 KK
    have hkB : k < 5 := by omega
    refine V_iload C dL_accounts_68 6 rfl ?_
    refine V_iconst (v := 5) C dL_accounts_70 (by decide) ?_
    refine V_icmp_ge (tgt := 91) C dL_accounts_71 (by decide) (fun h => absurd h (nI_ge hkB (by decide))) (fun _ => ?_)
    refine V_iload C dL_accounts_74 4 rfl ?_
    refine V_aload_n C dL_accounts_76 rfl 0 rfl ?_
    refine V_iload C dL_accounts_77 6 rfl ?_
    refine V_cVi1 C xN_ok (kX1_caused _ _ (xq_caused (vp_in_nI hkB (by decide)))) (cwV 1 C.2.2.1 gL_accounts_X1_caused rfl rfl rfl hvX1_caused ⟨Nat.le_of_ble_eq_true rfl, Nat.le_of_ble_eq_true rfl⟩) 0 rfl rfl (Nat.le_of_ble_eq_true rfl) ⟨(Nat.le_of_ble_eq_true rfl), (Nat.le_of_ble_eq_true rfl)⟩ dL_accounts_79 ?_
    refine V_iadd C dL_accounts_82 ?_
    refine V_top (fun y83 hy83 => ?_)
    refine V_istore (ls' := [(0, .ref (ad 0)), (1, .ref (ad 20)), (2, .int a2), (3, .int a3), (4, .int y83), (5, .int a5), (6, .int (nI k))]) C dL_accounts_83 (by decide) rfl rfl ?_
    refine V_iinc (v := (nI (k + 1))) (ls' := [(0, .ref (ad 0)), (1, .ref (ad 20)), (2, .int a2), (3, .int a3), (4, .int y83), (5, .int a5), (6, .int (nI (k + 1)))]) C dL_accounts_85 6 rfl (nI_1 k) (by decide) rfl rfl ?_
    refine V_goto (tgt := 68) C dL_accounts_88 (by decide) ?_
    subst hy83
    exact ih (k + 1) (by omega) _ _ (fun r hr => KK r (rfl.trans hr))
set_option maxHeartbeats 4000000 in
theorem qL_accounts_13 (C : vC p s m args meth c D vwCl (tyF cI cZ) xN A (wC cI cZ ad) cL_accounts RL wsL_accounts 7 (some .boolean))  (a4 : Int32) : ∀ (n k : Nat), k + n = 4 → ∀ (u : vM) (x2 x3 x5 : Int32), ∀ (r : Int32) (u' : vM), r = lpL_accounts_13 a4 u n k x2 x3 x5 → u' = u → V p l e rmL_accounts s m args below meth c D vwCl A (wC cI cZ ad) 7 0 0 (MQ below (mQi D vwCl (wC cI cZ ad) A r u') args s 0 0 A) u 13 [(0, .ref (ad 0)), (1, .ref (ad 20)), (2, .int x2), (3, .int x3), (4, .int a4), (5, .int x5), (6, .int (nI k))] [] := by
  intro n
  induction n with
  | zero =>
    intro k hk u x2 x3 x5 r u' hr hu
    obtain rfl : k = 4 := by omega
    refine V_iload C dL_accounts_13 6 rfl ?_
    refine V_iconst (v := 4) C dL_accounts_15 (by decide) ?_
    refine V_icmp_ge (tgt := 65) C dL_accounts_16 (by decide) (fun _ => ?_) (fun h => absurd (by decide : (4 : Int32) ≤ nI 4) h)
    refine V_iconst (v := 0) C dL_accounts_65 (by decide) ?_
    refine V_istore (ls' := [(0, .ref (ad 0)), (1, .ref (ad 20)), (2, .int x2), (3, .int x3), (4, .int a4), (5, .int x5), (6, .int 0)]) C dL_accounts_66 (by decide) rfl rfl ?_
    refine V_sub (ls' := [(0, .ref (ad 0)), (1, .ref (ad 20)), (2, .int x2), (3, .int x3), (4, .int a4), (5, .int x5), (6, .int 0)]) [0, 1, 2, 3, 4, 5, 6] rfl ?_
    refine qL_accounts_68 C x2 x3 x5 5 0 (by decide) u a4 (fun r68 hr68 => ?_)
    refine V_iload_n C dL_accounts_91 rfl 2 rfl ?_
    refine V_iload_n C dL_accounts_92 rfl 3 rfl ?_
    refine V_iadd C dL_accounts_93 ?_
    refine V_aload_n C dL_accounts_94 rfl 1 rfl ?_
    refine V_iconst (v := 0) C dL_accounts_95 (by decide) ?_
    refine Vm_iald C 20 0 rfl rfl (by unfold vp_in; decide) dL_accounts_96 ?_
    refine V_join2 (J := 134) (T := (if (x2 + x3) = (mrd u 20 0) then (if r68 = x3 then (let j126 : Int32 := (if 500 ≤ x5 then 500 else x5); (if (rX1_readings u) = j126 then 1 else 0)) else 0) else 0)) (fun j134 hj134 => ?_) (fun J134 => ?_)
    ·
      subst hj134
      subst hr68
      exact V_iret C rfl (by (try dsimp only); (repeat' split) <;> rfl) (hr.trans rfl) hu dL_accounts_134
    ·
      refine V_icmp_ne (tgt := 133) C dL_accounts_97 (by decide) (fun h97 => ?_) (fun h97 => ?_)
      ·
        refine V_iconst (v := 0) C dL_accounts_133 (by decide) ?_
        exact J134 _ ((if_neg h97).trans rfl)
      ·
        refine V_iload C dL_accounts_100 4 rfl ?_
        refine V_iload_n C dL_accounts_102 rfl 3 rfl ?_
        refine V_icmp_ne (tgt := 133) C dL_accounts_103 (by decide) (fun h103 => ?_) (fun h103 => ?_)
        ·
          refine V_iconst (v := 0) C dL_accounts_133 (by decide) ?_
          exact J134 _ ((if_pos h97).trans ((if_neg h103).trans rfl))
        ·
          refine V_aload_n C dL_accounts_106 rfl 0 rfl ?_
          refine V_cVi0 C xN_ok (kX1_readings _) (cwV 0 C.2.2.1 gL_accounts_X1_readings rfl rfl rfl hvX1_readings ⟨Nat.le_of_ble_eq_true rfl, Nat.le_of_ble_eq_true rfl⟩) 0 rfl rfl (Nat.le_of_ble_eq_true rfl) ⟨(Nat.le_of_ble_eq_true rfl), (Nat.le_of_ble_eq_true rfl)⟩ dL_accounts_107 ?_
          refine V_iload C dL_accounts_110 5 rfl ?_
          refine V_sipush (v := 500) C dL_accounts_112 (by decide) ?_
          refine V_join2 (J := 126) (T := (if 500 ≤ x5 then 500 else x5)) (fun j126 hj126 => ?_) (fun J126 => ?_)
          ·
            refine V_icmp_ne (tgt := 133) C dL_accounts_126 (by decide) (fun h126 => ?_) (fun h126 => ?_)
            ·
              refine V_iconst (v := 0) C dL_accounts_133 (by decide) ?_
              subst hj126
              exact J134 _ ((if_pos h97).trans ((if_pos h103).trans ((if_neg h126).trans rfl)))
            ·
              refine V_iconst (v := 1) C dL_accounts_129 (by decide) ?_
              refine V_goto (tgt := 134) C dL_accounts_130 (by decide) ?_
              subst hj126
              exact J134 _ ((if_pos h97).trans ((if_pos h103).trans ((if_pos h126).trans rfl)))
          ·
            refine V_icmp_ge (tgt := 123) C dL_accounts_115 (by decide) (fun h115 => ?_) (fun h115 => ?_)
            ·
              refine V_sipush (v := 500) C dL_accounts_123 (by decide) ?_
              exact J126 _ ((if_pos h115).trans rfl)
            ·
              refine V_iload C dL_accounts_118 5 rfl ?_
              refine V_goto (tgt := 126) C dL_accounts_120 (by decide) ?_
              exact J126 _ ((if_neg h115).trans rfl)
  | succ n ih =>
    intro k hk u x2 x3 x5 r u' hr hu
    have hkB : k < 4 := by omega
    refine V_iload C dL_accounts_13 6 rfl ?_
    refine V_iconst (v := 4) C dL_accounts_15 (by decide) ?_
    refine V_icmp_ge (tgt := 65) C dL_accounts_16 (by decide) (fun h => absurd h (nI_ge hkB (by decide))) (fun _ => ?_)
    refine V_aload_n C dL_accounts_19 rfl 0 rfl ?_
    refine V_iload C dL_accounts_20 6 rfl ?_
    refine V_cVi1 C xN_ok (kX1_budget _ _ (xq_budget (vp_in_nI hkB (by decide)))) (cwV 1 C.2.2.1 gL_accounts_X1_budget rfl rfl rfl hvX1_budget ⟨Nat.le_of_ble_eq_true rfl, Nat.le_of_ble_eq_true rfl⟩) 0 rfl rfl (Nat.le_of_ble_eq_true rfl) ⟨(Nat.le_of_ble_eq_true rfl), (Nat.le_of_ble_eq_true rfl)⟩ dL_accounts_22 ?_
    refine V_if_ge (tgt := 30) C dL_accounts_25 (by decide) (fun h25 => ?_) (fun h25 => ?_)
    ·
      refine V_iload_n C dL_accounts_30 rfl 2 rfl ?_
      refine V_aload_n C dL_accounts_31 rfl 0 rfl ?_
      refine V_iload C dL_accounts_32 6 rfl ?_
      refine V_cVi1 C xN_ok (kX1_budget _ _ (xq_budget (vp_in_nI hkB (by decide)))) (cwV 1 C.2.2.1 gL_accounts_X1_budget rfl rfl rfl hvX1_budget ⟨Nat.le_of_ble_eq_true rfl, Nat.le_of_ble_eq_true rfl⟩) 0 rfl rfl (Nat.le_of_ble_eq_true rfl) ⟨(Nat.le_of_ble_eq_true rfl), (Nat.le_of_ble_eq_true rfl)⟩ dL_accounts_34 ?_
      refine V_iadd C dL_accounts_37 ?_
      refine V_top (fun y38 hy38 => ?_)
      refine V_istore_n (ls' := [(0, .ref (ad 0)), (1, .ref (ad 20)), (2, .int y38), (3, .int x3), (4, .int a4), (5, .int x5), (6, .int (nI k))]) C dL_accounts_38 rfl (by decide) rfl rfl ?_
      refine V_iload_n C dL_accounts_39 rfl 3 rfl ?_
      refine V_aload_n C dL_accounts_40 rfl 0 rfl ?_
      refine V_iload C dL_accounts_41 6 rfl ?_
      refine V_cVi1 C xN_ok (kX1_earned _ _ (xq_earned (vp_in_nI hkB (by decide)))) (cwV 1 C.2.2.1 gL_accounts_X1_earned rfl rfl rfl hvX1_earned ⟨Nat.le_of_ble_eq_true rfl, Nat.le_of_ble_eq_true rfl⟩) 0 rfl rfl (Nat.le_of_ble_eq_true rfl) ⟨(Nat.le_of_ble_eq_true rfl), (Nat.le_of_ble_eq_true rfl)⟩ dL_accounts_43 ?_
      refine V_iadd C dL_accounts_46 ?_
      refine V_top (fun y47 hy47 => ?_)
      refine V_istore_n (ls' := [(0, .ref (ad 0)), (1, .ref (ad 20)), (2, .int y38), (3, .int y47), (4, .int a4), (5, .int x5), (6, .int (nI k))]) C dL_accounts_47 rfl (by decide) rfl rfl ?_
      refine V_iload C dL_accounts_48 5 rfl ?_
      refine V_aload_n C dL_accounts_50 rfl 0 rfl ?_
      refine V_iload C dL_accounts_51 6 rfl ?_
      refine V_cVi1 C xN_ok (kX1_readOf _ _ (xq_readOf (vp_in_nI hkB (by decide)))) (cwV 1 C.2.2.1 gL_accounts_X1_readOf rfl rfl rfl hvX1_readOf ⟨Nat.le_of_ble_eq_true rfl, Nat.le_of_ble_eq_true rfl⟩) 0 rfl rfl (Nat.le_of_ble_eq_true rfl) ⟨(Nat.le_of_ble_eq_true rfl), (Nat.le_of_ble_eq_true rfl)⟩ dL_accounts_53 ?_
      refine V_iadd C dL_accounts_56 ?_
      refine V_top (fun y57 hy57 => ?_)
      refine V_istore (ls' := [(0, .ref (ad 0)), (1, .ref (ad 20)), (2, .int y38), (3, .int y47), (4, .int a4), (5, .int y57), (6, .int (nI k))]) C dL_accounts_57 (by decide) rfl rfl ?_
      refine V_iinc (v := (nI (k + 1))) (ls' := [(0, .ref (ad 0)), (1, .ref (ad 20)), (2, .int y38), (3, .int y47), (4, .int a4), (5, .int y57), (6, .int (nI (k + 1)))]) C dL_accounts_59 6 rfl (nI_1 k) (by decide) rfl rfl ?_
      refine V_goto (tgt := 13) C dL_accounts_62 (by decide) ?_
      subst hy57
      subst hy47
      subst hy38
      exact ih (k + 1) (by omega) _ _ _ _ r u' (hr.trans ((if_pos h25).trans rfl)) hu
    ·
      refine V_iconst (v := 0) C dL_accounts_28 (by decide) ?_
      exact V_iret C rfl rfl (hr.trans ((if_neg h25).trans rfl)) hu dL_accounts_29
set_option maxHeartbeats 4000000 in
theorem kL_accounts {l : Launch} {D : va_G} {cI cZ : ClassId} {ad : Nat → Nat} (u : vM) : mI D vwCl (tyF cI cZ) xN (wC cI cZ ad) l yL_accounts wsL_accounts rmL_accounts [.ref (ad 0), .ref (ad 20)] u (rL_accounts u) u := by
  refine mI_of (cc := cL_accounts) (maxL := 7) (ret := (some .boolean)) (own := RL) rfl (by decide) rfl (wC_ok cI cZ ad) (Nat.le_of_ble_eq_true rfl) (fun p e s m args below meth c A C => ?_)
  refine V_ls (ls' := [(0, .ref (ad 0)), (1, .ref (ad 20))]) rfl ?_
  refine V_iconst (v := 0) C dL_accounts_0 (by decide) ?_
  refine V_istore_n (ls' := [(0, .ref (ad 0)), (1, .ref (ad 20)), (2, .int 0)]) C dL_accounts_1 rfl (by decide) rfl rfl ?_
  refine V_iconst (v := 0) C dL_accounts_2 (by decide) ?_
  refine V_istore_n (ls' := [(0, .ref (ad 0)), (1, .ref (ad 20)), (2, .int 0), (3, .int 0)]) C dL_accounts_3 rfl (by decide) rfl rfl ?_
  refine V_iconst (v := 0) C dL_accounts_4 (by decide) ?_
  refine V_istore (ls' := [(0, .ref (ad 0)), (1, .ref (ad 20)), (2, .int 0), (3, .int 0), (4, .int 0)]) C dL_accounts_5 (by decide) rfl rfl ?_
  refine V_iconst (v := 0) C dL_accounts_7 (by decide) ?_
  refine V_istore (ls' := [(0, .ref (ad 0)), (1, .ref (ad 20)), (2, .int 0), (3, .int 0), (4, .int 0), (5, .int 0)]) C dL_accounts_8 (by decide) rfl rfl ?_
  refine V_iconst (v := 0) C dL_accounts_10 (by decide) ?_
  refine V_istore (ls' := [(0, .ref (ad 0)), (1, .ref (ad 20)), (2, .int 0), (3, .int 0), (4, .int 0), (5, .int 0), (6, .int 0)]) C dL_accounts_11 (by decide) rfl rfl ?_
  refine V_sub (ls' := [(0, .ref (ad 0)), (1, .ref (ad 20)), (2, .int 0), (3, .int 0), (4, .int 0), (5, .int 0), (6, .int 0)]) [0, 1, 2, 3, 4, 5, 6] rfl ?_
  exact qL_accounts_13 C 0 4 0 (by decide) u 0 0 0 _ _ (by rfl) rfl
theorem hdL_give : yL_give.cls ≠ "java/lang/invoke/MethodHandle" ∧ yL_give.cls ≠ "java/lang/invoke/VarHandle" ∧ (parseMethodDescriptor yL_give.desc).map (fun d => d.parameters.length) = some 4 := by decide +kernel
theorem hvL_give : yL_give.cls = RL ∧ yL_give.cls ≠ "java/lang/invoke/MethodHandle" ∧ yL_give.cls ≠ "java/lang/invoke/VarHandle" ∧ (parseMethodDescriptor yL_give.desc).map (fun d => d.parameters.length) = some 4 := by decide +kernel
theorem hkL_give_43 : Cond.constant RL 43 (2000001) ∈ wsL_give := by decide +kernel
theorem hkL_give_44 : Cond.constant RL 44 (1000000) ∈ wsL_give := by decide +kernel
set_option maxHeartbeats 4000000 in
theorem kL_give {l : Launch} {D : va_G} {cI cZ : ClassId} {ad : Nat → Nat} (u : vM) (a1 : Int32) (a2 : Int32) (a3 : Int32) (hp0 : gv u a3) : mI D vwCl (tyF cI cZ) xN (wC cI cZ ad) l yL_give wsL_give rmL_give [.ref (ad 0), .int a1, .int a2, .int a3] u (rL_give u a1 a2 a3) (uL_give u a1 a2 a3) := by
  refine mI_of (cc := cL_give) (maxL := 8) (ret := (some .int)) (own := RL) rfl (by decide) rfl (wC_ok cI cZ ad) (Nat.le_of_ble_eq_true rfl) (fun p e s m args below meth c A C => ?_)
  refine V_ls (ls' := [(0, .ref (ad 0)), (1, .int a1), (2, .int a2), (3, .int a3)]) rfl ?_
  refine V_iload_n C dL_give_0 rfl 1 rfl ?_
  refine V_bipush (v := 24) C dL_give_1 (by decide) ?_
  refine V_cSi2 C xN_ok (kL_at _ _ _ (by decide)) (va_cwS 2 C.2.2.1 gL_give_L_at rfl rfl rfl hdL_at ⟨Nat.le_of_ble_eq_true rfl, Nat.le_of_ble_eq_true rfl⟩) (Nat.le_of_ble_eq_true rfl) ⟨(Nat.le_of_ble_eq_true rfl), (Nat.le_of_ble_eq_true rfl)⟩ dL_give_3 ?_
  refine V_top (fun y6 hy6 => ?_)
  refine V_istore (ls' := [(0, .ref (ad 0)), (1, .int a1), (2, .int a2), (3, .int a3), (4, .int y6)]) C dL_give_6 (by decide) rfl rfl ?_
  refine V_iload_n C dL_give_8 rfl 2 rfl ?_
  refine V_bipush (v := 24) C dL_give_9 (by decide) ?_
  refine V_cSi2 C xN_ok (kL_at _ _ _ (by decide)) (va_cwS 2 C.2.2.1 gL_give_L_at rfl rfl rfl hdL_at ⟨Nat.le_of_ble_eq_true rfl, Nat.le_of_ble_eq_true rfl⟩) (Nat.le_of_ble_eq_true rfl) ⟨(Nat.le_of_ble_eq_true rfl), (Nat.le_of_ble_eq_true rfl)⟩ dL_give_11 ?_
  refine V_top (fun y14 hy14 => ?_)
  refine V_istore (ls' := [(0, .ref (ad 0)), (1, .int a1), (2, .int a2), (3, .int a3), (4, .int y6), (5, .int y14)]) C dL_give_14 (by decide) rfl rfl ?_
  refine V_iload_n C dL_give_16 rfl 2 rfl ?_
  refine V_iconst (v := 5) C dL_give_17 (by decide) ?_
  refine V_ishr C dL_give_18 ?_
  refine V_bipush (v := 24) C dL_give_19 (by decide) ?_
  refine V_cSi2 C xN_ok (kL_at _ _ _ (by decide)) (va_cwS 2 C.2.2.1 gL_give_L_at rfl rfl rfl hdL_at ⟨Nat.le_of_ble_eq_true rfl, Nat.le_of_ble_eq_true rfl⟩) (Nat.le_of_ble_eq_true rfl) ⟨(Nat.le_of_ble_eq_true rfl), (Nat.le_of_ble_eq_true rfl)⟩ dL_give_21 ?_
  refine V_top (fun y24 hy24 => ?_)
  refine V_istore (ls' := [(0, .ref (ad 0)), (1, .int a1), (2, .int a2), (3, .int a3), (4, .int y6), (5, .int y14), (6, .int y24)]) C dL_give_24 (by decide) rfl rfl ?_
  refine V_iload_n C dL_give_26 rfl 1 rfl ?_
  refine V_iconst (v := 5) C dL_give_27 (by decide) ?_
  refine V_ishr C dL_give_28 ?_
  refine V_iconst (v := 4) C dL_give_29 (by decide) ?_
  refine V_cSi2 C xN_ok (kL_at _ _ _ (by decide)) (va_cwS 2 C.2.2.1 gL_give_L_at rfl rfl rfl hdL_at ⟨Nat.le_of_ble_eq_true rfl, Nat.le_of_ble_eq_true rfl⟩) (Nat.le_of_ble_eq_true rfl) ⟨(Nat.le_of_ble_eq_true rfl), (Nat.le_of_ble_eq_true rfl)⟩ dL_give_30 ?_
  refine V_top (fun y33 hy33 => ?_)
  refine V_istore (ls' := [(0, .ref (ad 0)), (1, .int a1), (2, .int a2), (3, .int a3), (4, .int y6), (5, .int y14), (6, .int y24), (7, .int y33)]) C dL_give_33 (by decide) rfl rfl ?_
  refine V_iload C dL_give_35 7 rfl ?_
  refine V_if_eq (tgt := 54) C dL_give_37 (by decide) (fun h37 => ?_) (fun h37 => ?_)
  ·
    refine V_aload_n C dL_give_54 rfl 0 rfl ?_
    refine V_iload_n C dL_give_55 rfl 3 rfl ?_
    refine V_iload C dL_give_56 4 rfl ?_
    refine V_iload_n C dL_give_58 rfl 2 rfl ?_
    refine V_ldc (v := 2000001) C hkL_give_43 dL_give_59 ?_
    refine V_cSi2 C xN_ok (kL_at _ _ _ (by decide)) (va_cwS 2 C.2.2.1 gL_give_L_at rfl rfl rfl hdL_at ⟨Nat.le_of_ble_eq_true rfl, Nat.le_of_ble_eq_true rfl⟩) (Nat.le_of_ble_eq_true rfl) ⟨(Nat.le_of_ble_eq_true rfl), (Nat.le_of_ble_eq_true rfl)⟩ dL_give_61 ?_
    refine V_ldc (v := 1000000) C hkL_give_44 dL_give_64 ?_
    refine V_isub C dL_give_66 ?_
    refine V_cVi3 C xN_ok (kX1_setNumber _ _ _ _ hp0.1 (x_num hp0 hy6)) (cwV 3 C.2.2.1 gL_give_X1_setNumber rfl rfl rfl hvX1_setNumber ⟨Nat.le_of_ble_eq_true rfl, Nat.le_of_ble_eq_true rfl⟩) 0 rfl rfl (Nat.le_of_ble_eq_true rfl) ⟨(Nat.le_of_ble_eq_true rfl), (Nat.le_of_ble_eq_true rfl)⟩ dL_give_67 ?_
    refine V_u (fun u67 hu67 => ?_)
    subst hu67
    subst hy33
    subst hy24
    subst hy14
    subst hy6
    exact V_iret C rfl (vp_nar_int _) ((if_pos h37).trans rfl) ((if_pos h37).trans rfl) dL_give_70
  ·
    refine V_iload C dL_give_40 5 rfl ?_
    refine V_iload C dL_give_42 4 rfl ?_
    refine V_icmp_ge (tgt := 54) C dL_give_44 (by decide) (fun h44 => ?_) (fun h44 => ?_)
    ·
      refine V_aload_n C dL_give_54 rfl 0 rfl ?_
      refine V_iload_n C dL_give_55 rfl 3 rfl ?_
      refine V_iload C dL_give_56 4 rfl ?_
      refine V_iload_n C dL_give_58 rfl 2 rfl ?_
      refine V_ldc (v := 2000001) C hkL_give_43 dL_give_59 ?_
      refine V_cSi2 C xN_ok (kL_at _ _ _ (by decide)) (va_cwS 2 C.2.2.1 gL_give_L_at rfl rfl rfl hdL_at ⟨Nat.le_of_ble_eq_true rfl, Nat.le_of_ble_eq_true rfl⟩) (Nat.le_of_ble_eq_true rfl) ⟨(Nat.le_of_ble_eq_true rfl), (Nat.le_of_ble_eq_true rfl)⟩ dL_give_61 ?_
      refine V_ldc (v := 1000000) C hkL_give_44 dL_give_64 ?_
      refine V_isub C dL_give_66 ?_
      refine V_cVi3 C xN_ok (kX1_setNumber _ _ _ _ hp0.1 (x_num hp0 hy6)) (cwV 3 C.2.2.1 gL_give_X1_setNumber rfl rfl rfl hvX1_setNumber ⟨Nat.le_of_ble_eq_true rfl, Nat.le_of_ble_eq_true rfl⟩) 0 rfl rfl (Nat.le_of_ble_eq_true rfl) ⟨(Nat.le_of_ble_eq_true rfl), (Nat.le_of_ble_eq_true rfl)⟩ dL_give_67 ?_
      refine V_u (fun u67 hu67 => ?_)
      subst hu67
      subst hy33
      subst hy24
      subst hy14
      subst hy6
      exact V_iret C rfl (vp_nar_int _) ((if_neg h37).trans ((if_pos h44).trans rfl)) ((if_neg h37).trans ((if_pos h44).trans rfl)) dL_give_70
    ·
      refine V_iload C dL_give_47 6 rfl ?_
      refine V_iload C dL_give_49 4 rfl ?_
      refine V_icmp_lt (tgt := 71) C dL_give_51 (by decide) (fun h51 => ?_) (fun h51 => ?_)
      ·
        refine V_iload C dL_give_71 7 rfl ?_
        refine V_iconst (v := 1) C dL_give_73 (by decide) ?_
        refine V_icmp_ne (tgt := 103) C dL_give_74 (by decide) (fun h74 => ?_) (fun h74 => ?_)
        ·
          refine V_iload C dL_give_103 7 rfl ?_
          refine V_iconst (v := 2) C dL_give_105 (by decide) ?_
          refine V_icmp_ne (tgt := 123) C dL_give_106 (by decide) (fun h106 => ?_) (fun h106 => ?_)
          ·
            refine V_aload_n C dL_give_123 rfl 0 rfl ?_
            refine V_iload_n C dL_give_124 rfl 3 rfl ?_
            refine V_iload C dL_give_125 4 rfl ?_
            refine V_iload C dL_give_127 5 rfl ?_
            refine V_iload_n C dL_give_129 rfl 1 rfl ?_
            refine V_bipush (v := 7) C dL_give_130 (by decide) ?_
            refine V_ishr C dL_give_132 ?_
            refine V_sipush (v := 201) C dL_give_133 (by decide) ?_
            refine V_cSi2 C xN_ok (kL_at _ _ _ (by decide)) (va_cwS 2 C.2.2.1 gL_give_L_at rfl rfl rfl hdL_at ⟨Nat.le_of_ble_eq_true rfl, Nat.le_of_ble_eq_true rfl⟩) (Nat.le_of_ble_eq_true rfl) ⟨(Nat.le_of_ble_eq_true rfl), (Nat.le_of_ble_eq_true rfl)⟩ dL_give_136 ?_
            refine V_bipush (v := 100) C dL_give_139 (by decide) ?_
            refine V_isub C dL_give_141 ?_
            refine V_cVi4 C xN_ok (kX1_setTimes _ _ _ _ _ hp0.1 (x_tim hp0 hy6 hy14 h44)) (cwV 4 C.2.2.1 gL_give_X1_setTimes rfl rfl rfl hvX1_setTimes ⟨Nat.le_of_ble_eq_true rfl, Nat.le_of_ble_eq_true rfl⟩) 0 rfl rfl (Nat.le_of_ble_eq_true rfl) ⟨(Nat.le_of_ble_eq_true rfl), (Nat.le_of_ble_eq_true rfl)⟩ dL_give_142 ?_
            refine V_u (fun u142 hu142 => ?_)
            subst hu142
            subst hy33
            subst hy24
            subst hy14
            subst hy6
            exact V_iret C rfl (vp_nar_int _) ((if_neg h37).trans ((if_neg h44).trans ((if_pos h51).trans ((if_neg h74).trans ((if_neg h106).trans rfl))))) ((if_neg h37).trans ((if_neg h44).trans ((if_pos h51).trans ((if_neg h74).trans ((if_neg h106).trans rfl))))) dL_give_145
          ·
            refine V_aload_n C dL_give_109 rfl 0 rfl ?_
            refine V_iload_n C dL_give_110 rfl 3 rfl ?_
            refine V_iload C dL_give_111 4 rfl ?_
            refine V_iload C dL_give_113 5 rfl ?_
            refine V_iload C dL_give_115 6 rfl ?_
            refine V_cVi4 C xN_ok (kX1_setGreater _ _ _ _ _ hp0.1 (x_gre hp0 hy6 hy14 hy24 h44 h51)) (cwV 4 C.2.2.1 gL_give_X1_setGreater rfl rfl rfl hvX1_setGreater ⟨Nat.le_of_ble_eq_true rfl, Nat.le_of_ble_eq_true rfl⟩) 0 rfl rfl (Nat.le_of_ble_eq_true rfl) ⟨(Nat.le_of_ble_eq_true rfl), (Nat.le_of_ble_eq_true rfl)⟩ dL_give_117 ?_
            refine V_u (fun u117 hu117 => ?_)
            refine V_goto (tgt := 145) C dL_give_120 (by decide) ?_
            subst hu117
            subst hy33
            subst hy24
            subst hy14
            subst hy6
            exact V_iret C rfl (vp_nar_int _) ((if_neg h37).trans ((if_neg h44).trans ((if_pos h51).trans ((if_neg h74).trans ((if_pos h106).trans rfl))))) ((if_neg h37).trans ((if_neg h44).trans ((if_pos h51).trans ((if_neg h74).trans ((if_pos h106).trans rfl))))) dL_give_145
        ·
          refine V_aload_n C dL_give_77 rfl 0 rfl ?_
          refine V_iload_n C dL_give_78 rfl 3 rfl ?_
          refine V_iload C dL_give_79 4 rfl ?_
          refine V_iload C dL_give_81 5 rfl ?_
          refine V_iload C dL_give_83 6 rfl ?_
          refine V_iload_n C dL_give_85 rfl 1 rfl ?_
          refine V_bipush (v := 7) C dL_give_86 (by decide) ?_
          refine V_ishr C dL_give_88 ?_
          refine V_sipush (v := 2001) C dL_give_89 (by decide) ?_
          refine V_cSi2 C xN_ok (kL_at _ _ _ (by decide)) (va_cwS 2 C.2.2.1 gL_give_L_at rfl rfl rfl hdL_at ⟨Nat.le_of_ble_eq_true rfl, Nat.le_of_ble_eq_true rfl⟩) (Nat.le_of_ble_eq_true rfl) ⟨(Nat.le_of_ble_eq_true rfl), (Nat.le_of_ble_eq_true rfl)⟩ dL_give_92 ?_
          refine V_sipush (v := 1000) C dL_give_95 (by decide) ?_
          refine V_isub C dL_give_98 ?_
          refine V_cVi5 C xN_ok (kX1_setSum _ _ _ _ _ _ hp0.1 (x_sum hp0 hy6 hy14 hy24 h44 h51)) (cwV 5 C.2.2.1 gL_give_X1_setSum rfl rfl rfl hvX1_setSum ⟨Nat.le_of_ble_eq_true rfl, Nat.le_of_ble_eq_true rfl⟩) 0 rfl rfl (Nat.le_of_ble_eq_true rfl) ⟨(Nat.le_of_ble_eq_true rfl), (Nat.le_of_ble_eq_true rfl)⟩ dL_give_99 ?_
          refine V_u (fun u99 hu99 => ?_)
          subst hu99
          subst hy33
          subst hy24
          subst hy14
          subst hy6
          exact V_iret C rfl (vp_nar_int _) ((if_neg h37).trans ((if_neg h44).trans ((if_pos h51).trans ((if_pos h74).trans rfl)))) ((if_neg h37).trans ((if_neg h44).trans ((if_pos h51).trans ((if_pos h74).trans rfl)))) dL_give_102
      ·
        refine V_aload_n C dL_give_54 rfl 0 rfl ?_
        refine V_iload_n C dL_give_55 rfl 3 rfl ?_
        refine V_iload C dL_give_56 4 rfl ?_
        refine V_iload_n C dL_give_58 rfl 2 rfl ?_
        refine V_ldc (v := 2000001) C hkL_give_43 dL_give_59 ?_
        refine V_cSi2 C xN_ok (kL_at _ _ _ (by decide)) (va_cwS 2 C.2.2.1 gL_give_L_at rfl rfl rfl hdL_at ⟨Nat.le_of_ble_eq_true rfl, Nat.le_of_ble_eq_true rfl⟩) (Nat.le_of_ble_eq_true rfl) ⟨(Nat.le_of_ble_eq_true rfl), (Nat.le_of_ble_eq_true rfl)⟩ dL_give_61 ?_
        refine V_ldc (v := 1000000) C hkL_give_44 dL_give_64 ?_
        refine V_isub C dL_give_66 ?_
        refine V_cVi3 C xN_ok (kX1_setNumber _ _ _ _ hp0.1 (x_num hp0 hy6)) (cwV 3 C.2.2.1 gL_give_X1_setNumber rfl rfl rfl hvX1_setNumber ⟨Nat.le_of_ble_eq_true rfl, Nat.le_of_ble_eq_true rfl⟩) 0 rfl rfl (Nat.le_of_ble_eq_true rfl) ⟨(Nat.le_of_ble_eq_true rfl), (Nat.le_of_ble_eq_true rfl)⟩ dL_give_67 ?_
        refine V_u (fun u67 hu67 => ?_)
        subst hu67
        subst hy33
        subst hy24
        subst hy14
        subst hy6
        exact V_iret C rfl (vp_nar_int _) ((if_neg h37).trans ((if_neg h44).trans ((if_neg h51).trans rfl))) ((if_neg h37).trans ((if_neg h44).trans ((if_neg h51).trans rfl))) dL_give_70
