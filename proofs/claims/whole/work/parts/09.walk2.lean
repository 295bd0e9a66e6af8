variable {p : Program} {l : Launch} {e : Env} {s : State} {m : MethodId} {args : Array Value} {below : List Frame} {meth : Method} {c : Code} {D : va_G} {cI cZ : ClassId} {ad : Nat → Nat} {A : Nat → Prop}
theorem hdX2_thrown : yX2_thrown.cls ≠ "java/lang/invoke/MethodHandle" ∧ yX2_thrown.cls ≠ "java/lang/invoke/VarHandle" ∧ (parseMethodDescriptor yX2_thrown.desc).map (fun d => d.parameters.length) = some 0 := by decide +kernel
theorem hvX2_thrown : yX2_thrown.cls = RX2 ∧ yX2_thrown.cls ≠ "java/lang/invoke/MethodHandle" ∧ yX2_thrown.cls ≠ "java/lang/invoke/VarHandle" ∧ (parseMethodDescriptor yX2_thrown.desc).map (fun d => d.parameters.length) = some 0 := by decide +kernel
theorem hinX2_thrown_X2 : ∀ w ∈ u_ws RX2 TX2 18, w ∈ wsX2_thrown := by decide +kernel
theorem hfX2_thrown_58 : Cond.fieldLink RX2 58 "MeteredSheetsModel" "thrown" "I" ∈ wsX2_thrown := by decide +kernel
set_option maxHeartbeats 4000000 in
theorem kX2_thrown {l : Launch} {D : va_G} {cI : ClassId} {ad : Nat → Nat} (u : vM) : mI D vwCl (tyM cI) xT (wM cI ad) l yX2_thrown wsX2_thrown rmX2_thrown [.ref (ad 0)] u (rX2_thrown u) u := by
  refine mI_of (cc := cX2_thrown) (maxL := 1) (ret := (some .int)) (own := RX2) rfl (by decide) rfl (wM_ok cI ad) (Nat.le_of_ble_eq_true rfl) (fun p e s m args below meth c A C => ?_)
  refine V_ls (ls' := [(0, .ref (ad 0))]) rfl ?_
  refine V_aload_n C dX2_thrown_0 rfl 0 rfl ?_
  refine V_get (Cn := RX2) (T := TX2) (N := 18) C hinX2_thrown_X2 0 rfl rfl 17 (by decide) hfX2_thrown_58 rfl rfl dX2_thrown_1 ?_
  show V p l e _ s m args below meth c D vwCl A (wM cI ad) _ _ _ _ _ _ _ (.int (mfd u 18) :: _)
  exact V_iret C rfl (vp_nar_int _) rfl rfl dX2_thrown_4
theorem hdX2_fails : yX2_fails.cls ≠ "java/lang/invoke/MethodHandle" ∧ yX2_fails.cls ≠ "java/lang/invoke/VarHandle" ∧ (parseMethodDescriptor yX2_fails.desc).map (fun d => d.parameters.length) = some 1 := by decide +kernel
theorem hvX2_fails : yX2_fails.cls = RX2 ∧ yX2_fails.cls ≠ "java/lang/invoke/MethodHandle" ∧ yX2_fails.cls ≠ "java/lang/invoke/VarHandle" ∧ (parseMethodDescriptor yX2_fails.desc).map (fun d => d.parameters.length) = some 1 := by decide +kernel
theorem hinX2_fails_X2 : ∀ w ∈ u_ws RX2 TX2 18, w ∈ wsX2_fails := by decide +kernel
theorem hfX2_fails_58 : Cond.fieldLink RX2 58 "MeteredSheetsModel" "thrown" "I" ∈ wsX2_fails := by decide +kernel
set_option maxHeartbeats 4000000 in
theorem kX2_fails {l : Launch} {D : va_G} {cI : ClassId} {ad : Nat → Nat} (u : vM) (a1 : Int32) : mI D vwCl (tyM cI) xT (wM cI ad) l yX2_fails wsX2_fails rmX2_fails [.ref (ad 0), .int a1] u (rX2_fails u a1) (uX2_fails u a1) := by
  refine mI_of (cc := cX2_fails) (maxL := 2) (ret := (some .int)) (own := RX2) rfl (by decide) rfl (wM_ok cI ad) (Nat.le_of_ble_eq_true rfl) (fun p e s m args below meth c A C => ?_)
  refine V_ls (ls' := [(0, .ref (ad 0)), (1, .int a1)]) rfl ?_
  refine V_aload_n C dX2_fails_0 rfl 0 rfl ?_
  refine V_iload_n C dX2_fails_1 rfl 1 rfl ?_
  refine V_put (Cn := RX2) (T := TX2) (N := 18) C hinX2_fails_X2 tyX2 tyX2_ok nmX2 0 rfl rfl 17 (by decide) hfX2_fails_58 rfl rfl rfl (Nat.le_of_ble_eq_true rfl) wM_s18 dX2_fails_2 ?_
  refine V_u (fun u2 hu2 => ?_)
  refine V_iconst (v := 0) C dX2_fails_5 (by decide) ?_
  subst hu2
  exact V_iret C rfl (vp_nar_int _) rfl rfl dX2_fails_6
theorem hdX2_in : yX2_in.cls ≠ "java/lang/invoke/MethodHandle" ∧ yX2_in.cls ≠ "java/lang/invoke/VarHandle" ∧ (parseMethodDescriptor yX2_in.desc).map (fun d => d.parameters.length) = some 3 := by decide +kernel
theorem hvX2_in : yX2_in.cls = RX2 ∧ yX2_in.cls ≠ "java/lang/invoke/MethodHandle" ∧ yX2_in.cls ≠ "java/lang/invoke/VarHandle" ∧ (parseMethodDescriptor yX2_in.desc).map (fun d => d.parameters.length) = some 3 := by decide +kernel
set_option maxHeartbeats 4000000 in
theorem kX2_in {l : Launch} {D : va_G} {cI : ClassId} {ad : Nat → Nat} (u : vM) (a0 : Int32) (a1 : Int32) (a2 : Int32) : mI D vwCl (tyM cI) xT (wM cI ad) l yX2_in wsX2_in rmX2_in [.int a0, .int a1, .int a2] u (rX2_in a0 a1 a2) u := by
  refine mI_of (cc := cX2_in) (maxL := 3) (ret := (some .boolean)) (own := RX2) rfl (by decide) rfl (wM_ok cI ad) (Nat.le_of_ble_eq_true rfl) (fun p e s m args below meth c A C => ?_)
  refine V_ls (ls' := [(0, .int a0), (1, .int a1), (2, .int a2)]) rfl ?_
  refine V_iload_n C dX2_in_0 rfl 0 rfl ?_
  refine V_iload_n C dX2_in_1 rfl 1 rfl ?_
  refine V_join2 (J := 15) (T := (if a0 < a1 then 0 else (if a2 < a0 then 0 else 1))) (fun j15 hj15 => ?_) (fun J15 => ?_)
  ·
    subst hj15
    exact V_iret C rfl (by (repeat' split) <;> rfl) rfl rfl dX2_in_15
  ·
    refine V_icmp_lt (tgt := 14) C dX2_in_2 (by decide) (fun h2 => ?_) (fun h2 => ?_)
    ·
      refine V_iconst (v := 0) C dX2_in_14 (by decide) ?_
      exact J15 _ ((if_pos h2).trans rfl)
    ·
      refine V_iload_n C dX2_in_5 rfl 0 rfl ?_
      refine V_iload_n C dX2_in_6 rfl 2 rfl ?_
      refine V_icmp_gt (tgt := 14) C dX2_in_7 (by decide) (fun h7 => ?_) (fun h7 => ?_)
      ·
        refine V_iconst (v := 0) C dX2_in_14 (by decide) ?_
        exact J15 _ ((if_neg h2).trans ((if_pos h7).trans rfl))
      ·
        refine V_iconst (v := 1) C dX2_in_10 (by decide) ?_
        refine V_goto (tgt := 15) C dX2_in_11 (by decide) ?_
        exact J15 _ ((if_neg h2).trans ((if_neg h7).trans rfl))
theorem hdX2_isCell : yX2_isCell.cls ≠ "java/lang/invoke/MethodHandle" ∧ yX2_isCell.cls ≠ "java/lang/invoke/VarHandle" ∧ (parseMethodDescriptor yX2_isCell.desc).map (fun d => d.parameters.length) = some 1 := by decide +kernel
theorem hvX2_isCell : yX2_isCell.cls = RX2 ∧ yX2_isCell.cls ≠ "java/lang/invoke/MethodHandle" ∧ yX2_isCell.cls ≠ "java/lang/invoke/VarHandle" ∧ (parseMethodDescriptor yX2_isCell.desc).map (fun d => d.parameters.length) = some 1 := by decide +kernel
set_option maxHeartbeats 4000000 in
theorem kX2_isCell {l : Launch} {D : va_G} {cI : ClassId} {ad : Nat → Nat} (u : vM) (a0 : Int32) : mI D vwCl (tyM cI) xT (wM cI ad) l yX2_isCell wsX2_isCell rmX2_isCell [.int a0] u (rX2_isCell a0) u := by
  refine mI_of (cc := cX2_isCell) (maxL := 1) (ret := (some .boolean)) (own := RX2) rfl (by decide) rfl (wM_ok cI ad) (Nat.le_of_ble_eq_true rfl) (fun p e s m args below meth c A C => ?_)
  refine V_ls (ls' := [(0, .int a0)]) rfl ?_
  refine V_iload_n C dX2_isCell_0 rfl 0 rfl ?_
  refine V_iconst (v := 0) C dX2_isCell_1 (by decide) ?_
  refine V_bipush (v := 23) C dX2_isCell_2 (by decide) ?_
  refine V_cSi3 C xT_ok (kX2_in _ _ _ _) (va_cwS 3 C.2.2.1 gX2_isCell_X2_in rfl rfl rfl hdX2_in ⟨Nat.le_of_ble_eq_true rfl, Nat.le_of_ble_eq_true rfl⟩) (Nat.le_of_ble_eq_true rfl) ⟨(Nat.le_of_ble_eq_true rfl), (Nat.le_of_ble_eq_true rfl)⟩ dX2_isCell_4 ?_
  exact V_iret C rfl (nb_of (bX2_in a0 0 23)) rfl rfl dX2_isCell_7
theorem hdX2_isSheet : yX2_isSheet.cls ≠ "java/lang/invoke/MethodHandle" ∧ yX2_isSheet.cls ≠ "java/lang/invoke/VarHandle" ∧ (parseMethodDescriptor yX2_isSheet.desc).map (fun d => d.parameters.length) = some 1 := by decide +kernel
theorem hvX2_isSheet : yX2_isSheet.cls = RX2 ∧ yX2_isSheet.cls ≠ "java/lang/invoke/MethodHandle" ∧ yX2_isSheet.cls ≠ "java/lang/invoke/VarHandle" ∧ (parseMethodDescriptor yX2_isSheet.desc).map (fun d => d.parameters.length) = some 1 := by decide +kernel
set_option maxHeartbeats 4000000 in
theorem kX2_isSheet {l : Launch} {D : va_G} {cI : ClassId} {ad : Nat → Nat} (u : vM) (a0 : Int32) : mI D vwCl (tyM cI) xT (wM cI ad) l yX2_isSheet wsX2_isSheet rmX2_isSheet [.int a0] u (rX2_isSheet a0) u := by
  refine mI_of (cc := cX2_isSheet) (maxL := 1) (ret := (some .boolean)) (own := RX2) rfl (by decide) rfl (wM_ok cI ad) (Nat.le_of_ble_eq_true rfl) (fun p e s m args below meth c A C => ?_)
  refine V_ls (ls' := [(0, .int a0)]) rfl ?_
  refine V_iload_n C dX2_isSheet_0 rfl 0 rfl ?_
  refine V_iconst (v := 0) C dX2_isSheet_1 (by decide) ?_
  refine V_iconst (v := 3) C dX2_isSheet_2 (by decide) ?_
  refine V_cSi3 C xT_ok (kX2_in _ _ _ _) (va_cwS 3 C.2.2.1 gX2_isSheet_X2_in rfl rfl rfl hdX2_in ⟨Nat.le_of_ble_eq_true rfl, Nat.le_of_ble_eq_true rfl⟩) (Nat.le_of_ble_eq_true rfl) ⟨(Nat.le_of_ble_eq_true rfl), (Nat.le_of_ble_eq_true rfl)⟩ dX2_isSheet_3 ?_
  exact V_iret C rfl (nb_of (bX2_in a0 0 3)) rfl rfl dX2_isSheet_6
theorem hdX2_one : yX2_one.cls ≠ "java/lang/invoke/MethodHandle" ∧ yX2_one.cls ≠ "java/lang/invoke/VarHandle" ∧ (parseMethodDescriptor yX2_one.desc).map (fun d => d.parameters.length) = some 1 := by decide +kernel
theorem hvX2_one : yX2_one.cls = RX2 ∧ yX2_one.cls ≠ "java/lang/invoke/MethodHandle" ∧ yX2_one.cls ≠ "java/lang/invoke/VarHandle" ∧ (parseMethodDescriptor yX2_one.desc).map (fun d => d.parameters.length) = some 1 := by decide +kernel
theorem hinX2_one_X2 : ∀ w ∈ u_ws RX2 TX2 18, w ∈ wsX2_one := by decide +kernel
theorem hfX2_one_7 : Cond.fieldLink RX2 7 "MeteredSheetsModel" "kinds" "[I" ∈ wsX2_one := by decide +kernel
theorem hfX2_one_13 : Cond.fieldLink RX2 13 "MeteredSheetsModel" "ones" "[I" ∈ wsX2_one := by decide +kernel
set_option maxHeartbeats 4000000 in
theorem kX2_one {l : Launch} {D : va_G} {cI : ClassId} {ad : Nat → Nat} (u : vM) (a1 : Int32) (hp0 : vp_in a1 24) : mI D vwCl (tyM cI) xT (wM cI ad) l yX2_one wsX2_one rmX2_one [.ref (ad 0), .int a1] u (rX2_one u a1) u := by
  refine mI_of (cc := cX2_one) (maxL := 2) (ret := (some .int)) (own := RX2) rfl (by decide) rfl (wM_ok cI ad) (Nat.le_of_ble_eq_true rfl) (fun p e s m args below meth c A C => ?_)
  refine V_ls (ls' := [(0, .ref (ad 0)), (1, .int a1)]) rfl ?_
  refine V_aload_n C dX2_one_0 rfl 0 rfl ?_
  refine V_get (Cn := RX2) (T := TX2) (N := 18) C hinX2_one_X2 0 rfl rfl 0 (by decide) hfX2_one_7 rfl rfl dX2_one_1 ?_
  refine V_iload_n C dX2_one_4 rfl 1 rfl ?_
  refine Vm_iald C 1 0 rfl rfl hp0 dX2_one_5 ?_
  refine V_join1 (J := 19) (T := (if (mrd u 1 a1) = 0 then (-1) else (mrd u 2 a1))) (fun j19 hj19 => ?_) (fun J19 => ?_)
  ·
    subst hj19
    exact V_iret C rfl (vp_nar_int _) rfl rfl dX2_one_19
  ·
    refine V_if_ne (tgt := 13) C dX2_one_6 (by decide) (fun h6 => ?_) (fun h6 => ?_)
    ·
      refine V_aload_n C dX2_one_13 rfl 0 rfl ?_
      refine V_get (Cn := RX2) (T := TX2) (N := 18) C hinX2_one_X2 0 rfl rfl 1 (by decide) hfX2_one_13 rfl rfl dX2_one_14 ?_
      refine V_iload_n C dX2_one_17 rfl 1 rfl ?_
      refine Vm_iald C 2 0 rfl rfl hp0 dX2_one_18 ?_
      exact J19 _ ((if_neg h6).trans rfl)
    ·
      refine V_iconst (v := (-1)) C dX2_one_9 (by decide) ?_
      refine V_goto (tgt := 19) C dX2_one_10 (by decide) ?_
      exact J19 _ ((if_pos h6).trans rfl)
theorem hdX2_other : yX2_other.cls ≠ "java/lang/invoke/MethodHandle" ∧ yX2_other.cls ≠ "java/lang/invoke/VarHandle" ∧ (parseMethodDescriptor yX2_other.desc).map (fun d => d.parameters.length) = some 1 := by decide +kernel
theorem hvX2_other : yX2_other.cls = RX2 ∧ yX2_other.cls ≠ "java/lang/invoke/MethodHandle" ∧ yX2_other.cls ≠ "java/lang/invoke/VarHandle" ∧ (parseMethodDescriptor yX2_other.desc).map (fun d => d.parameters.length) = some 1 := by decide +kernel
theorem hinX2_other_X2 : ∀ w ∈ u_ws RX2 TX2 18, w ∈ wsX2_other := by decide +kernel
theorem hfX2_other_7 : Cond.fieldLink RX2 7 "MeteredSheetsModel" "kinds" "[I" ∈ wsX2_other := by decide +kernel
theorem hfX2_other_16 : Cond.fieldLink RX2 16 "MeteredSheetsModel" "others" "[I" ∈ wsX2_other := by decide +kernel
theorem hfX2_other_13 : Cond.fieldLink RX2 13 "MeteredSheetsModel" "ones" "[I" ∈ wsX2_other := by decide +kernel
set_option maxHeartbeats 4000000 in
theorem kX2_other {l : Launch} {D : va_G} {cI : ClassId} {ad : Nat → Nat} (u : vM) (a1 : Int32) (hp0 : vp_in a1 24) : mI D vwCl (tyM cI) xT (wM cI ad) l yX2_other wsX2_other rmX2_other [.ref (ad 0), .int a1] u (rX2_other u a1) u := by
  refine mI_of (cc := cX2_other) (maxL := 3) (ret := (some .int)) (own := RX2) rfl (by decide) rfl (wM_ok cI ad) (Nat.le_of_ble_eq_true rfl) (fun p e s m args below meth c A C => ?_)
  refine V_ls (ls' := [(0, .ref (ad 0)), (1, .int a1)]) rfl ?_
  refine V_aload_n C dX2_other_0 rfl 0 rfl ?_
  refine V_get (Cn := RX2) (T := TX2) (N := 18) C hinX2_other_X2 0 rfl rfl 0 (by decide) hfX2_other_7 rfl rfl dX2_other_1 ?_
  refine V_iload_n C dX2_other_4 rfl 1 rfl ?_
  refine Vm_iald C 1 0 rfl rfl hp0 dX2_other_5 ?_
  refine V_iconst (v := 1) C dX2_other_6 (by decide) ?_
  refine V_join2 (J := 25) (T := (if (mrd u 1 a1) = 1 then 1 else (if (mrd u 1 a1) = 2 then 1 else 0))) (fun j25 hj25 => ?_) (fun J25 => ?_)
  ·
    refine V_istore_n (ls' := [(0, .ref (ad 0)), (1, .int a1), (2, .int j25)]) C dX2_other_25 rfl (by decide) rfl rfl ?_
    refine V_iload_n C dX2_other_26 rfl 2 rfl ?_
    refine V_join1 (J := 55) (T := (if j25 = 0 then (-1) else (if (mrd u 3 a1) = (mrd u 2 a1) then (-1) else (mrd u 3 a1)))) (fun j55 hj55 => ?_) (fun J55 => ?_)
    ·
      subst hj55
      subst hj25
      exact V_iret C rfl (vp_nar_int _) rfl rfl dX2_other_55
    ·
      refine V_if_eq (tgt := 54) C dX2_other_27 (by decide) (fun h27 => ?_) (fun h27 => ?_)
      ·
        refine V_iconst (v := (-1)) C dX2_other_54 (by decide) ?_
        exact J55 _ ((if_pos h27).trans rfl)
      ·
        refine V_aload_n C dX2_other_30 rfl 0 rfl ?_
        refine V_get (Cn := RX2) (T := TX2) (N := 18) C hinX2_other_X2 0 rfl rfl 2 (by decide) hfX2_other_16 rfl rfl dX2_other_31 ?_
        refine V_iload_n C dX2_other_34 rfl 1 rfl ?_
        refine Vm_iald C 3 0 rfl rfl hp0 dX2_other_35 ?_
        refine V_aload_n C dX2_other_36 rfl 0 rfl ?_
        refine V_get (Cn := RX2) (T := TX2) (N := 18) C hinX2_other_X2 0 rfl rfl 1 (by decide) hfX2_other_13 rfl rfl dX2_other_37 ?_
        refine V_iload_n C dX2_other_40 rfl 1 rfl ?_
        refine Vm_iald C 2 0 rfl rfl hp0 dX2_other_41 ?_
        refine V_icmp_eq (tgt := 54) C dX2_other_42 (by decide) (fun h42 => ?_) (fun h42 => ?_)
        ·
          refine V_iconst (v := (-1)) C dX2_other_54 (by decide) ?_
          exact J55 _ ((if_neg h27).trans ((if_pos h42).trans rfl))
        ·
          refine V_aload_n C dX2_other_45 rfl 0 rfl ?_
          refine V_get (Cn := RX2) (T := TX2) (N := 18) C hinX2_other_X2 0 rfl rfl 2 (by decide) hfX2_other_16 rfl rfl dX2_other_46 ?_
          refine V_iload_n C dX2_other_49 rfl 1 rfl ?_
          refine Vm_iald C 3 0 rfl rfl hp0 dX2_other_50 ?_
          refine V_goto (tgt := 55) C dX2_other_51 (by decide) ?_
          exact J55 _ ((if_neg h27).trans ((if_neg h42).trans rfl))
  ·
    refine V_icmp_eq (tgt := 20) C dX2_other_7 (by decide) (fun h7 => ?_) (fun h7 => ?_)
    ·
      refine V_iconst (v := 1) C dX2_other_20 (by decide) ?_
      refine V_goto (tgt := 25) C dX2_other_21 (by decide) ?_
      exact J25 _ ((if_pos h7).trans rfl)
    ·
      refine V_aload_n C dX2_other_10 rfl 0 rfl ?_
      refine V_get (Cn := RX2) (T := TX2) (N := 18) C hinX2_other_X2 0 rfl rfl 0 (by decide) hfX2_other_7 rfl rfl dX2_other_11 ?_
      refine V_iload_n C dX2_other_14 rfl 1 rfl ?_
      refine Vm_iald C 1 0 rfl rfl hp0 dX2_other_15 ?_
      refine V_iconst (v := 2) C dX2_other_16 (by decide) ?_
      refine V_icmp_ne (tgt := 24) C dX2_other_17 (by decide) (fun h17 => ?_) (fun h17 => ?_)
      ·
        refine V_iconst (v := 0) C dX2_other_24 (by decide) ?_
        exact J25 _ ((if_neg h7).trans ((if_neg h17).trans rfl))
      ·
        refine V_iconst (v := 1) C dX2_other_20 (by decide) ?_
        refine V_goto (tgt := 25) C dX2_other_21 (by decide) ?_
        exact J25 _ ((if_neg h7).trans ((if_pos h17).trans rfl))
theorem hdX2_layOrder : yX2_layOrder.cls ≠ "java/lang/invoke/MethodHandle" ∧ yX2_layOrder.cls ≠ "java/lang/invoke/VarHandle" ∧ (parseMethodDescriptor yX2_layOrder.desc).map (fun d => d.parameters.length) = some 0 := by decide +kernel
theorem hvX2_layOrder : yX2_layOrder.cls = RX2 ∧ yX2_layOrder.cls ≠ "java/lang/invoke/MethodHandle" ∧ yX2_layOrder.cls ≠ "java/lang/invoke/VarHandle" ∧ (parseMethodDescriptor yX2_layOrder.desc).map (fun d => d.parameters.length) = some 0 := by decide +kernel
theorem hinX2_layOrder_X2 : ∀ w ∈ u_ws RX2 TX2 18, w ∈ wsX2_layOrder := by decide +kernel
theorem hfX2_layOrder_37 : Cond.fieldLink RX2 37 "MeteredSheetsModel" "stands" "[I" ∈ wsX2_layOrder := by decide +kernel
theorem hfX2_layOrder_34 : Cond.fieldLink RX2 34 "MeteredSheetsModel" "order" "[I" ∈ wsX2_layOrder := by decide +kernel
set_option maxHeartbeats 4000000 in
theorem qX2_layOrder_2 (C : vC p s m args meth c D vwCl (tyM cI) xT A (wM cI ad) cX2_layOrder RX2 wsX2_layOrder 6 none) {Q : State → Prop} : ∀ (n k : Nat), k + n = 24 → ∀ (u : vM), (∀ r : vM, lpX2_layOrder_2 n k u = r → V p l e rmX2_layOrder s m args below meth c D vwCl A (wM cI ad) 6 0 0 Q r 21 [(0, .ref (ad 0)), (1, .int (nI 24))] []) → V p l e rmX2_layOrder s m args below meth c D vwCl A (wM cI ad) 6 0 0 Q u 2 [(0, .ref (ad 0)), (1, .int (nI k))] [] := by
  intro n
  induction n with
  | zero =>
    intro k hk u KK
    obtain rfl : k = 24 := by omega
    refine V_iload_n C dX2_layOrder_2 rfl 1 rfl ?_
    refine V_bipush (v := 24) C dX2_layOrder_3 (by decide) ?_
    refine V_icmp_ge (tgt := 21) C dX2_layOrder_5 (by decide) (fun _ => ?_) (fun h => absurd (by decide : (24 : Int32) ≤ nI 24) h)
    exact KK _ rfl
  | succ n ih =>
    intro k hk u KK
    have hkB : k < 24 := by omega
    refine V_iload_n C dX2_layOrder_2 rfl 1 rfl ?_
    refine V_bipush (v := 24) C dX2_layOrder_3 (by decide) ?_
    refine V_icmp_ge (tgt := 21) C dX2_layOrder_5 (by decide) (fun h => absurd h (nI_ge hkB (by decide))) (fun _ => ?_)
    refine V_aload_n C dX2_layOrder_8 rfl 0 rfl ?_
    refine V_get (Cn := RX2) (T := TX2) (N := 18) C hinX2_layOrder_X2 0 rfl rfl 9 (by decide) hfX2_layOrder_37 rfl rfl dX2_layOrder_9 ?_
    refine V_iload_n C dX2_layOrder_12 rfl 1 rfl ?_
    refine V_iconst (v := 0) C dX2_layOrder_13 (by decide) ?_
    refine Vm_iast C 10 0 rfl rfl (vp_in_nI hkB (by decide)) wM_s10 dX2_layOrder_14 ?_
    refine V_u (fun u14 hu14 => ?_)
    refine V_iinc (v := (nI (k + 1))) (ls' := [(0, .ref (ad 0)), (1, .int (nI (k + 1)))]) C dX2_layOrder_15 1 rfl (nI_1 k) (by decide) rfl rfl ?_
    refine V_goto (tgt := 2) C dX2_layOrder_18 (by decide) ?_
    subst hu14
    exact ih (k + 1) (by omega) _ (fun r hr => KK r (rfl.trans hr))
set_option maxHeartbeats 4000000 in
theorem qX2_layOrder_34 (C : vC p s m args meth c D vwCl (tyM cI) xT A (wM cI ad) cX2_layOrder RX2 wsX2_layOrder 6 none) {Q : State → Prop} (a1 : Int32) : ∀ (n : Nat), n ≤ 24 → ∀ (u : vM) (x2 : Int32), fm u → (∀ r : Int32, lpX2_layOrder_34 u n x2 = r → fm u → V p l e rmX2_layOrder s m args below meth c D vwCl A (wM cI ad) 6 0 0 Q u 129 [(0, .ref (ad 0)), (1, .int a1), (2, .int r), (3, .int (-1))] []) → V p l e rmX2_layOrder s m args below meth c D vwCl A (wM cI ad) 6 0 0 Q u 34 [(0, .ref (ad 0)), (1, .int a1), (2, .int x2), (3, .int (nD n))] [] := by
  intro n
  induction n with
  | zero =>
    intro hk u x2 hi0 KK
    refine V_iload_n C dX2_layOrder_34 rfl 3 rfl ?_
    refine V_if_lt (tgt := 129) C dX2_layOrder_35 (by decide) (fun _ => ?_) (fun h => absurd (by decide : nD 0 < 0) h)
    exact KK _ rfl hi0
  | succ n ih =>
    intro hk u x2 hi0 KK
    have hkB : n < 24 := by omega
    refine V_iload_n C dX2_layOrder_34 rfl 3 rfl ?_
    refine V_if_lt (tgt := 129) C dX2_layOrder_35 (by decide) (fun h => absurd h (nI_pos (Nat.lt_of_lt_of_le hkB (by decide)))) (fun _ => ?_)
    refine V_aload_n C dX2_layOrder_38 rfl 0 rfl ?_
    refine V_iload_n C dX2_layOrder_39 rfl 3 rfl ?_
    refine V_cVi1 C xT_ok (kX2_one _ _ (vp_in_nI hkB (by decide))) (cwV 1 C.2.2.1 gX2_layOrder_X2_one rfl rfl rfl hvX2_one ⟨Nat.le_of_ble_eq_true rfl, Nat.le_of_ble_eq_true rfl⟩) 0 rfl rfl (Nat.le_of_ble_eq_true rfl) ⟨(Nat.le_of_ble_eq_true rfl), (Nat.le_of_ble_eq_true rfl)⟩ dX2_layOrder_40 ?_
    refine V_iconst (v := (-1)) C dX2_layOrder_43 (by decide) ?_
    refine V_join2 (J := 66) (T := (if (rX2_one u (nI n)) = (-1) then 1 else (if (mrd u 10 (rX2_one u (nI n))) = 1 then 1 else 0))) (fun j66 hj66 => ?_) (fun J66 => ?_)
    ·
      refine V_istore (ls' := [(0, .ref (ad 0)), (1, .int a1), (2, .int x2), (3, .int (nI n)), (4, .int j66)]) C dX2_layOrder_66 (by decide) rfl rfl ?_
      refine V_aload_n C dX2_layOrder_68 rfl 0 rfl ?_
      refine V_iload_n C dX2_layOrder_69 rfl 3 rfl ?_
      refine V_cVi1 C xT_ok (kX2_other _ _ (vp_in_nI hkB (by decide))) (cwV 1 C.2.2.1 gX2_layOrder_X2_other rfl rfl rfl hvX2_other ⟨Nat.le_of_ble_eq_true rfl, Nat.le_of_ble_eq_true rfl⟩) 0 rfl rfl (Nat.le_of_ble_eq_true rfl) ⟨(Nat.le_of_ble_eq_true rfl), (Nat.le_of_ble_eq_true rfl)⟩ dX2_layOrder_70 ?_
      refine V_iconst (v := (-1)) C dX2_layOrder_73 (by decide) ?_
      refine V_join2 (J := 96) (T := (if (rX2_other u (nI n)) = (-1) then 1 else (if (mrd u 10 (rX2_other u (nI n))) = 1 then 1 else 0))) (fun j96 hj96 => ?_) (fun J96 => ?_)
      ·
        refine V_istore (ls' := [(0, .ref (ad 0)), (1, .int a1), (2, .int x2), (3, .int (nI n)), (4, .int j66), (5, .int j96)]) C dX2_layOrder_96 (by decide) rfl rfl ?_
        refine V_aload_n C dX2_layOrder_98 rfl 0 rfl ?_
        refine V_get (Cn := RX2) (T := TX2) (N := 18) C hinX2_layOrder_X2 0 rfl rfl 9 (by decide) hfX2_layOrder_37 rfl rfl dX2_layOrder_99 ?_
        refine V_iload_n C dX2_layOrder_102 rfl 3 rfl ?_
        refine Vm_iald C 10 0 rfl rfl (vp_in_nI hkB (by decide)) dX2_layOrder_103 ?_
        refine V_join1 (J := 122) (T := (if (mrd u 10 (nI n)) = 0 then (if j66 = 0 then x2 else (if j96 = 0 then x2 else (nI n))) else x2)) (fun j122 hj122 => ?_) (fun J122 => ?_)
        ·
          refine V_istore_n (ls' := [(0, .ref (ad 0)), (1, .int a1), (2, .int j122), (3, .int (nI n)), (4, .int j66), (5, .int j96)]) C dX2_layOrder_122 rfl (by decide) rfl rfl ?_
          refine V_iinc (v := (nD n)) (ls' := [(0, .ref (ad 0)), (1, .int a1), (2, .int j122), (3, .int (nD n)), (4, .int j66), (5, .int j96)]) C dX2_layOrder_123 3 rfl (nD_dec n) (by decide) rfl rfl ?_
          refine V_goto (tgt := 34) C dX2_layOrder_126 (by decide) ?_
          subst hj122
          subst hj96
          subst hj66
          refine V_sub (ls' := _) [0, 1, 2, 3] rfl ?_
          exact ih (by omega) _ _ hi0 (fun r hr => KK r (rfl.trans hr))
        ·
          refine V_if_ne (tgt := 121) C dX2_layOrder_104 (by decide) (fun h104 => ?_) (fun h104 => ?_)
          ·
            refine V_iload_n C dX2_layOrder_121 rfl 2 rfl ?_
            exact J122 _ ((if_neg h104).trans rfl)
          ·
            refine V_iload C dX2_layOrder_107 4 rfl ?_
            refine V_if_eq (tgt := 121) C dX2_layOrder_109 (by decide) (fun h109 => ?_) (fun h109 => ?_)
            ·
              refine V_iload_n C dX2_layOrder_121 rfl 2 rfl ?_
              exact J122 _ ((if_pos h104).trans ((if_pos h109).trans rfl))
            ·
              refine V_iload C dX2_layOrder_112 5 rfl ?_
              refine V_if_eq (tgt := 121) C dX2_layOrder_114 (by decide) (fun h114 => ?_) (fun h114 => ?_)
              ·
                refine V_iload_n C dX2_layOrder_121 rfl 2 rfl ?_
                exact J122 _ ((if_pos h104).trans ((if_neg h109).trans ((if_pos h114).trans rfl)))
              ·
                refine V_iload_n C dX2_layOrder_117 rfl 3 rfl ?_
                refine V_goto (tgt := 122) C dX2_layOrder_118 (by decide) ?_
                exact J122 _ ((if_pos h104).trans ((if_neg h109).trans ((if_neg h114).trans rfl)))
      ·
        refine V_icmp_eq (tgt := 91) C dX2_layOrder_74 (by decide) (fun h74 => ?_) (fun h74 => ?_)
        ·
          refine V_iconst (v := 1) C dX2_layOrder_91 (by decide) ?_
          refine V_goto (tgt := 96) C dX2_layOrder_92 (by decide) ?_
          exact J96 _ ((if_pos h74).trans rfl)
        ·
          refine V_aload_n C dX2_layOrder_77 rfl 0 rfl ?_
          refine V_get (Cn := RX2) (T := TX2) (N := 18) C hinX2_layOrder_X2 0 rfl rfl 9 (by decide) hfX2_layOrder_37 rfl rfl dX2_layOrder_78 ?_
          refine V_aload_n C dX2_layOrder_81 rfl 0 rfl ?_
          refine V_iload_n C dX2_layOrder_82 rfl 3 rfl ?_
          refine V_cVi1 C xT_ok (kX2_other _ _ (vp_in_nI hkB (by decide))) (cwV 1 C.2.2.1 gX2_layOrder_X2_other rfl rfl rfl hvX2_other ⟨Nat.le_of_ble_eq_true rfl, Nat.le_of_ble_eq_true rfl⟩) 0 rfl rfl (Nat.le_of_ble_eq_true rfl) ⟨(Nat.le_of_ble_eq_true rfl), (Nat.le_of_ble_eq_true rfl)⟩ dX2_layOrder_83 ?_
          refine Vm_iald C 10 0 rfl rfl (vq_other hi0 (vp_in_nI hkB (by decide)) h74) dX2_layOrder_86 ?_
          refine V_iconst (v := 1) C dX2_layOrder_87 (by decide) ?_
          refine V_icmp_ne (tgt := 95) C dX2_layOrder_88 (by decide) (fun h88 => ?_) (fun h88 => ?_)
          ·
            refine V_iconst (v := 0) C dX2_layOrder_95 (by decide) ?_
            exact J96 _ ((if_neg h74).trans ((if_neg h88).trans rfl))
          ·
            refine V_iconst (v := 1) C dX2_layOrder_91 (by decide) ?_
            refine V_goto (tgt := 96) C dX2_layOrder_92 (by decide) ?_
            exact J96 _ ((if_neg h74).trans ((if_pos h88).trans rfl))
    ·
      refine V_icmp_eq (tgt := 61) C dX2_layOrder_44 (by decide) (fun h44 => ?_) (fun h44 => ?_)
      ·
        refine V_iconst (v := 1) C dX2_layOrder_61 (by decide) ?_
        refine V_goto (tgt := 66) C dX2_layOrder_62 (by decide) ?_
        exact J66 _ ((if_pos h44).trans rfl)
      ·
        refine V_aload_n C dX2_layOrder_47 rfl 0 rfl ?_
        refine V_get (Cn := RX2) (T := TX2) (N := 18) C hinX2_layOrder_X2 0 rfl rfl 9 (by decide) hfX2_layOrder_37 rfl rfl dX2_layOrder_48 ?_
        refine V_aload_n C dX2_layOrder_51 rfl 0 rfl ?_
        refine V_iload_n C dX2_layOrder_52 rfl 3 rfl ?_
        refine V_cVi1 C xT_ok (kX2_one _ _ (vp_in_nI hkB (by decide))) (cwV 1 C.2.2.1 gX2_layOrder_X2_one rfl rfl rfl hvX2_one ⟨Nat.le_of_ble_eq_true rfl, Nat.le_of_ble_eq_true rfl⟩) 0 rfl rfl (Nat.le_of_ble_eq_true rfl) ⟨(Nat.le_of_ble_eq_true rfl), (Nat.le_of_ble_eq_true rfl)⟩ dX2_layOrder_53 ?_
        refine Vm_iald C 10 0 rfl rfl (vq_one hi0 (vp_in_nI hkB (by decide)) h44) dX2_layOrder_56 ?_
        refine V_iconst (v := 1) C dX2_layOrder_57 (by decide) ?_
        refine V_icmp_ne (tgt := 65) C dX2_layOrder_58 (by decide) (fun h58 => ?_) (fun h58 => ?_)
        ·
          refine V_iconst (v := 0) C dX2_layOrder_65 (by decide) ?_
          exact J66 _ ((if_neg h44).trans ((if_neg h58).trans rfl))
        ·
          refine V_iconst (v := 1) C dX2_layOrder_61 (by decide) ?_
          refine V_goto (tgt := 66) C dX2_layOrder_62 (by decide) ?_
          exact J66 _ ((if_neg h44).trans ((if_pos h58).trans rfl))
set_option maxHeartbeats 4000000 in
theorem qX2_layOrder_23 (C : vC p s m args meth c D vwCl (tyM cI) xT A (wM cI ad) cX2_layOrder RX2 wsX2_layOrder 6 none) {Q : State → Prop} : ∀ (n k : Nat), k + n = 24 → ∀ (u : vM), fm u → sr n k u → (∀ r : vM, lpX2_layOrder_23 n k u = r → fm r → sr 0 24 r → V p l e rmX2_layOrder s m args below meth c D vwCl A (wM cI ad) 6 0 0 Q r 149 [(0, .ref (ad 0)), (1, .int (nI 24))] []) → V p l e rmX2_layOrder s m args below meth c D vwCl A (wM cI ad) 6 0 0 Q u 23 [(0, .ref (ad 0)), (1, .int (nI k))] [] := by
  intro n
  induction n with
  | zero =>
    intro k hk u hi0 hi1 KK
    obtain rfl : k = 24 := by omega
    refine V_iload_n C dX2_layOrder_23 rfl 1 rfl ?_
    refine V_bipush (v := 24) C dX2_layOrder_24 (by decide) ?_
    refine V_icmp_ge (tgt := 149) C dX2_layOrder_26 (by decide) (fun _ => ?_) (fun h => absurd (by decide : (24 : Int32) ≤ nI 24) h)
    exact KK _ rfl hi0 hi1
  | succ n ih =>
    intro k hk u hi0 hi1 KK
    have hkB : k < 24 := by omega
    refine V_iload_n C dX2_layOrder_23 rfl 1 rfl ?_
    refine V_bipush (v := 24) C dX2_layOrder_24 (by decide) ?_
    refine V_icmp_ge (tgt := 149) C dX2_layOrder_26 (by decide) (fun h => absurd h (nI_ge hkB (by decide))) (fun _ => ?_)
    refine V_iconst (v := (-1)) C dX2_layOrder_29 (by decide) ?_
    refine V_istore_n (ls' := [(0, .ref (ad 0)), (1, .int (nI k)), (2, .int (-1))]) C dX2_layOrder_30 rfl (by decide) rfl rfl ?_
    refine V_bipush (v := 23) C dX2_layOrder_31 (by decide) ?_
    refine V_istore_n (ls' := [(0, .ref (ad 0)), (1, .int (nI k)), (2, .int (-1)), (3, .int 23)]) C dX2_layOrder_33 rfl (by decide) rfl rfl ?_
    refine V_sub (ls' := [(0, .ref (ad 0)), (1, .int (nI k)), (2, .int (-1)), (3, .int 23)]) [0, 1, 2, 3] rfl ?_
    refine qX2_layOrder_34 C (nI k) 24 (by decide) u (-1) hi0 (fun r34 hr34 hi0_34 => ?_)
    refine V_aload_n C dX2_layOrder_129 rfl 0 rfl ?_
    refine V_get (Cn := RX2) (T := TX2) (N := 18) C hinX2_layOrder_X2 0 rfl rfl 8 (by decide) hfX2_layOrder_34 rfl rfl dX2_layOrder_130 ?_
    refine V_iload_n C dX2_layOrder_133 rfl 1 rfl ?_
    refine V_iload_n C dX2_layOrder_134 rfl 2 rfl ?_
    refine Vm_iast C 9 0 rfl rfl (vp_in_nI hkB (by decide)) wM_s9 dX2_layOrder_135 ?_
    refine V_u (fun u135 hu135 => ?_)
    have hfm135 : fm u135 := by rw [← hu135]; exact hi0_34
    refine V_aload_n C dX2_layOrder_136 rfl 0 rfl ?_
    refine V_get (Cn := RX2) (T := TX2) (N := 18) C hinX2_layOrder_X2 0 rfl rfl 9 (by decide) hfX2_layOrder_37 rfl rfl dX2_layOrder_137 ?_
    refine V_iload_n C dX2_layOrder_140 rfl 2 rfl ?_
    refine V_iconst (v := 1) C dX2_layOrder_141 (by decide) ?_
    refine Vm_iast C 10 0 rfl rfl (by rw [← hr34]; exact hi1 0 (Nat.zero_lt_succ _)) wM_s10 dX2_layOrder_142 ?_
    refine V_u (fun u142 hu142 => ?_)
    have hfm142 : fm u142 := by rw [← hu142]; exact hfm135
    refine V_iinc (v := (nI (k + 1))) (ls' := [(0, .ref (ad 0)), (1, .int (nI (k + 1))), (2, .int r34), (3, .int (-1))]) C dX2_layOrder_143 1 rfl (nI_1 k) (by decide) rfl rfl ?_
    refine V_goto (tgt := 23) C dX2_layOrder_146 (by decide) ?_
    subst hu142
    subst hu135
    subst hr34
    refine V_sub (ls' := _) [0, 1] rfl ?_
    exact ih (k + 1) (by omega) _ hfm142 (fun j hj => hi1 (j + 1) (Nat.succ_lt_succ hj)) (fun r hr => KK r (rfl.trans hr))
set_option maxHeartbeats 4000000 in
theorem kX2_layOrder {l : Launch} {D : va_G} {cI : ClassId} {ad : Nat → Nat} (u : vM) (hp0 : fm u) (hp1 : ly u) : mV D vwCl (tyM cI) xT (wM cI ad) l yX2_layOrder wsX2_layOrder rmX2_layOrder [.ref (ad 0)] u (uX2_layOrder u) := by
  refine mV_of (cc := cX2_layOrder) (maxL := 6) (ret := none) (own := RX2) rfl (by decide) rfl (wM_ok cI ad) (Nat.le_of_ble_eq_true rfl) (fun p e s m args below meth c A C => ?_)
  refine V_ls (ls' := [(0, .ref (ad 0))]) rfl ?_
  refine V_iconst (v := 0) C dX2_layOrder_0 (by decide) ?_
  refine V_istore_n (ls' := [(0, .ref (ad 0)), (1, .int 0)]) C dX2_layOrder_1 rfl (by decide) rfl rfl ?_
  refine V_sub (ls' := [(0, .ref (ad 0)), (1, .int 0)]) [0, 1] rfl ?_
  refine qX2_layOrder_2 C 24 0 (by decide) u (fun r2 hr2 => ?_)
  have hfm2 : fm r2 := by rw [← hr2]; exact fm_congr (fr_lpX2_layOrder_2 (by decide)) (fr_lpX2_layOrder_2 (by decide)) hp0
  have hly2 : ly r2 := by rw [← hr2]; exact ly_congr (fr_lpX2_layOrder_2 (by decide)) (fr_lpX2_layOrder_2 (by decide)) (fr_lpX2_layOrder_2 (by decide)) hp1
  refine V_iconst (v := 0) C dX2_layOrder_21 (by decide) ?_
  refine V_istore_n (ls' := [(0, .ref (ad 0)), (1, .int 0)]) C dX2_layOrder_22 rfl (by decide) rfl rfl ?_
  refine V_sub (ls' := [(0, .ref (ad 0)), (1, .int 0)]) [0, 1] rfl ?_
  refine qX2_layOrder_23 C 24 0 (by decide) r2 hfm2 (by rw [← hr2]; exact sr_start hp0 hp1) (fun r23 hr23 hi0_23 hi1_23 => ?_)
  have hly23 : ly r23 := by rw [← hr23]; exact ly_congr (fr_lpX2_layOrder_23 (by decide) (by decide)) (fr_lpX2_layOrder_23 (by decide) (by decide)) (fr_lpX2_layOrder_23 (by decide) (by decide)) hly2
  subst hr23
  subst hr2
  exact V_vret C rfl rfl dX2_layOrder_149
theorem hdX2_held : yX2_held.cls ≠ "java/lang/invoke/MethodHandle" ∧ yX2_held.cls ≠ "java/lang/invoke/VarHandle" ∧ (parseMethodDescriptor yX2_held.desc).map (fun d => d.parameters.length) = some 1 := by decide +kernel
theorem hvX2_held : yX2_held.cls = RX2 ∧ yX2_held.cls ≠ "java/lang/invoke/MethodHandle" ∧ yX2_held.cls ≠ "java/lang/invoke/VarHandle" ∧ (parseMethodDescriptor yX2_held.desc).map (fun d => d.parameters.length) = some 1 := by decide +kernel
theorem hkX2_held_73 : Cond.constant RX2 73 (1000000) ∈ wsX2_held := by decide +kernel
theorem hkX2_held_74 : Cond.constant RX2 74 (-1000000) ∈ wsX2_held := by decide +kernel
set_option maxHeartbeats 4000000 in
theorem kX2_held {l : Launch} {D : va_G} {cI : ClassId} {ad : Nat → Nat} (u : vM) (a0 : Int32) : mI D vwCl (tyM cI) xT (wM cI ad) l yX2_held wsX2_held rmX2_held [.int a0] u (rX2_held a0) u := by
  refine mI_of (cc := cX2_held) (maxL := 1) (ret := (some .int)) (own := RX2) rfl (by decide) rfl (wM_ok cI ad) (Nat.le_of_ble_eq_true rfl) (fun p e s m args below meth c A C => ?_)
  refine V_ls (ls' := [(0, .int a0)]) rfl ?_
  refine V_iload_n C dX2_held_0 rfl 0 rfl ?_
  refine V_ldc (v := 1000000) C hkX2_held_73 dX2_held_1 ?_
  refine V_join2 (J := 23) (T := (if a0 ≤ 1000000 then (if (-1000000) ≤ a0 then a0 else (-1000000)) else 1000000)) (fun j23 hj23 => ?_) (fun J23 => ?_)
  ·
    subst hj23
    exact V_iret C rfl (vp_nar_int _) rfl rfl dX2_held_23
  ·
    refine V_icmp_le (tgt := 11) C dX2_held_3 (by decide) (fun h3 => ?_) (fun h3 => ?_)
    ·
      refine V_iload_n C dX2_held_11 rfl 0 rfl ?_
      refine V_ldc (v := (-1000000)) C hkX2_held_74 dX2_held_12 ?_
      refine V_icmp_ge (tgt := 22) C dX2_held_14 (by decide) (fun h14 => ?_) (fun h14 => ?_)
      ·
        refine V_iload_n C dX2_held_22 rfl 0 rfl ?_
        exact J23 _ ((if_pos h3).trans ((if_pos h14).trans rfl))
      ·
        refine V_ldc (v := (-1000000)) C hkX2_held_74 dX2_held_17 ?_
        refine V_goto (tgt := 23) C dX2_held_19 (by decide) ?_
        exact J23 _ ((if_pos h3).trans ((if_neg h14).trans rfl))
    ·
      refine V_ldc (v := 1000000) C hkX2_held_73 dX2_held_6 ?_
      refine V_goto (tgt := 23) C dX2_held_8 (by decide) ?_
      exact J23 _ ((if_neg h3).trans rfl)
theorem hdX2_comesTo : yX2_comesTo.cls ≠ "java/lang/invoke/MethodHandle" ∧ yX2_comesTo.cls ≠ "java/lang/invoke/VarHandle" ∧ (parseMethodDescriptor yX2_comesTo.desc).map (fun d => d.parameters.length) = some 2 := by decide +kernel
theorem hvX2_comesTo : yX2_comesTo.cls = RX2 ∧ yX2_comesTo.cls ≠ "java/lang/invoke/MethodHandle" ∧ yX2_comesTo.cls ≠ "java/lang/invoke/VarHandle" ∧ (parseMethodDescriptor yX2_comesTo.desc).map (fun d => d.parameters.length) = some 2 := by decide +kernel
theorem hinX2_comesTo_X2 : ∀ w ∈ u_ws RX2 TX2 18, w ∈ wsX2_comesTo := by decide +kernel
theorem hfX2_comesTo_13 : Cond.fieldLink RX2 13 "MeteredSheetsModel" "ones" "[I" ∈ wsX2_comesTo := by decide +kernel
theorem hfX2_comesTo_16 : Cond.fieldLink RX2 16 "MeteredSheetsModel" "others" "[I" ∈ wsX2_comesTo := by decide +kernel
theorem hfX2_comesTo_7 : Cond.fieldLink RX2 7 "MeteredSheetsModel" "kinds" "[I" ∈ wsX2_comesTo := by decide +kernel
theorem hfX2_comesTo_19 : Cond.fieldLink RX2 19 "MeteredSheetsModel" "numbers" "[I" ∈ wsX2_comesTo := by decide +kernel
set_option maxHeartbeats 4000000 in
theorem kX2_comesTo_v5 {l : Launch} {D : va_G} {cI : ClassId} {ad : Nat → Nat} (u : vM) (a1 : Int32) (hp0 : vp_in a1 24) (hp1 : fm u) : mI D vwCl (tyM cI) xT (wM cI ad) l yX2_comesTo wsX2_comesTo rmX2_comesTo [.ref (ad 0), .int a1, .ref (ad 5)] u (rX2_comesTo_v5 u a1) u := by
  refine mI_of (cc := cX2_comesTo) (maxL := 5) (ret := (some .int)) (own := RX2) rfl (by decide) rfl (wM_ok cI ad) (Nat.le_of_ble_eq_true rfl) (fun p e s m args below meth c A C => ?_)
  refine V_ls (ls' := [(0, .ref (ad 0)), (1, .int a1), (2, .ref (ad 5))]) rfl ?_
  refine V_aload_n C dX2_comesTo_0 rfl 0 rfl ?_
  refine V_get (Cn := RX2) (T := TX2) (N := 18) C hinX2_comesTo_X2 0 rfl rfl 1 (by decide) hfX2_comesTo_13 rfl rfl dX2_comesTo_1 ?_
  refine V_iload_n C dX2_comesTo_4 rfl 1 rfl ?_
  refine Vm_iald C 2 0 rfl rfl hp0 dX2_comesTo_5 ?_
  refine V_top (fun y6 hy6 => ?_)
  refine V_istore_n (ls' := [(0, .ref (ad 0)), (1, .int a1), (2, .ref (ad 5)), (3, .int y6)]) C dX2_comesTo_6 rfl (by decide) rfl rfl ?_
  refine V_aload_n C dX2_comesTo_7 rfl 0 rfl ?_
  refine V_get (Cn := RX2) (T := TX2) (N := 18) C hinX2_comesTo_X2 0 rfl rfl 2 (by decide) hfX2_comesTo_16 rfl rfl dX2_comesTo_8 ?_
  refine V_iload_n C dX2_comesTo_11 rfl 1 rfl ?_
  refine Vm_iald C 3 0 rfl rfl hp0 dX2_comesTo_12 ?_
  refine V_top (fun y13 hy13 => ?_)
  refine V_istore (ls' := [(0, .ref (ad 0)), (1, .int a1), (2, .ref (ad 5)), (3, .int y6), (4, .int y13)]) C dX2_comesTo_13 (by decide) rfl rfl ?_
  refine V_aload_n C dX2_comesTo_15 rfl 0 rfl ?_
  refine V_get (Cn := RX2) (T := TX2) (N := 18) C hinX2_comesTo_X2 0 rfl rfl 0 (by decide) hfX2_comesTo_7 rfl rfl dX2_comesTo_16 ?_
  refine V_iload_n C dX2_comesTo_19 rfl 1 rfl ?_
  refine Vm_iald C 1 0 rfl rfl hp0 dX2_comesTo_20 ?_
  refine V_if_ne (tgt := 31) C dX2_comesTo_21 (by decide) (fun h21 => ?_) (fun h21 => ?_)
  ·
    refine V_aload_n C dX2_comesTo_31 rfl 0 rfl ?_
    refine V_get (Cn := RX2) (T := TX2) (N := 18) C hinX2_comesTo_X2 0 rfl rfl 0 (by decide) hfX2_comesTo_7 rfl rfl dX2_comesTo_32 ?_
    refine V_iload_n C dX2_comesTo_35 rfl 1 rfl ?_
    refine Vm_iald C 1 0 rfl rfl hp0 dX2_comesTo_36 ?_
    refine V_iconst (v := 1) C dX2_comesTo_37 (by decide) ?_
    refine V_icmp_ne (tgt := 60) C dX2_comesTo_38 (by decide) (fun h38 => ?_) (fun h38 => ?_)
    ·
      refine V_aload_n C dX2_comesTo_60 rfl 0 rfl ?_
      refine V_get (Cn := RX2) (T := TX2) (N := 18) C hinX2_comesTo_X2 0 rfl rfl 0 (by decide) hfX2_comesTo_7 rfl rfl dX2_comesTo_61 ?_
      refine V_iload_n C dX2_comesTo_64 rfl 1 rfl ?_
      refine Vm_iald C 1 0 rfl rfl hp0 dX2_comesTo_65 ?_
      refine V_iconst (v := 2) C dX2_comesTo_66 (by decide) ?_
      refine V_icmp_ne (tgt := 91) C dX2_comesTo_67 (by decide) (fun h67 => ?_) (fun h67 => ?_)
      ·
        refine V_aload_n C dX2_comesTo_91 rfl 2 rfl ?_
        refine V_iload_n C dX2_comesTo_92 rfl 3 rfl ?_
        refine Vm_iald C 5 0 rfl rfl (by rw [← hy6]; exact (vq_fm2 hp1 hp0)) dX2_comesTo_93 ?_
        refine V_aload_n C dX2_comesTo_94 rfl 0 rfl ?_
        refine V_get (Cn := RX2) (T := TX2) (N := 18) C hinX2_comesTo_X2 0 rfl rfl 3 (by decide) hfX2_comesTo_19 rfl rfl dX2_comesTo_95 ?_
        refine V_iload_n C dX2_comesTo_98 rfl 1 rfl ?_
        refine Vm_iald C 4 0 rfl rfl hp0 dX2_comesTo_99 ?_
        refine V_imul C dX2_comesTo_100 ?_
        refine V_cSi1 C xT_ok (kX2_held _ _) (va_cwS 1 C.2.2.1 gX2_comesTo_X2_held rfl rfl rfl hdX2_held ⟨Nat.le_of_ble_eq_true rfl, Nat.le_of_ble_eq_true rfl⟩) (Nat.le_of_ble_eq_true rfl) ⟨(Nat.le_of_ble_eq_true rfl), (Nat.le_of_ble_eq_true rfl)⟩ dX2_comesTo_101 ?_
        subst hy13
        subst hy6
        exact V_iret C rfl (vp_nar_int _) ((if_neg h21).trans ((if_neg h38).trans ((if_neg h67).trans rfl))) rfl dX2_comesTo_104
      ·
        refine V_aload_n C dX2_comesTo_70 rfl 2 rfl ?_
        refine V_iload_n C dX2_comesTo_71 rfl 3 rfl ?_
        refine Vm_iald C 5 0 rfl rfl (by rw [← hy6]; exact (vq_fm2 hp1 hp0)) dX2_comesTo_72 ?_
        refine V_aload_n C dX2_comesTo_73 rfl 2 rfl ?_
        refine V_iload C dX2_comesTo_74 4 rfl ?_
        refine Vm_iald C 5 0 rfl rfl (by rw [← hy13]; exact (vq_fm3 hp1 hp0)) dX2_comesTo_76 ?_
        refine V_join2 (J := 90) (T := (if (mrd u 5 y6) ≤ (mrd u 5 y13) then (mrd u 5 y13) else (mrd u 5 y6))) (fun j90 hj90 => ?_) (fun J90 => ?_)
        ·
          subst hj90
          subst hy13
          subst hy6
          exact V_iret C rfl (vp_nar_int _) ((if_neg h21).trans ((if_neg h38).trans ((if_pos h67).trans rfl))) rfl dX2_comesTo_90
        ·
          refine V_icmp_le (tgt := 86) C dX2_comesTo_77 (by decide) (fun h77 => ?_) (fun h77 => ?_)
          ·
            refine V_aload_n C dX2_comesTo_86 rfl 2 rfl ?_
            refine V_iload C dX2_comesTo_87 4 rfl ?_
            refine Vm_iald C 5 0 rfl rfl (by rw [← hy13]; exact (vq_fm3 hp1 hp0)) dX2_comesTo_89 ?_
            exact J90 _ ((if_pos h77).trans rfl)
          ·
            refine V_aload_n C dX2_comesTo_80 rfl 2 rfl ?_
            refine V_iload_n C dX2_comesTo_81 rfl 3 rfl ?_
            refine Vm_iald C 5 0 rfl rfl (by rw [← hy6]; exact (vq_fm2 hp1 hp0)) dX2_comesTo_82 ?_
            refine V_goto (tgt := 90) C dX2_comesTo_83 (by decide) ?_
            exact J90 _ ((if_neg h77).trans rfl)
    ·
      refine V_aload_n C dX2_comesTo_41 rfl 2 rfl ?_
      refine V_iload_n C dX2_comesTo_42 rfl 3 rfl ?_
      refine Vm_iald C 5 0 rfl rfl (by rw [← hy6]; exact (vq_fm2 hp1 hp0)) dX2_comesTo_43 ?_
      refine V_aload_n C dX2_comesTo_44 rfl 2 rfl ?_
      refine V_iload C dX2_comesTo_45 4 rfl ?_
      refine Vm_iald C 5 0 rfl rfl (by rw [← hy13]; exact (vq_fm3 hp1 hp0)) dX2_comesTo_47 ?_
      refine V_iadd C dX2_comesTo_48 ?_
      refine V_aload_n C dX2_comesTo_49 rfl 0 rfl ?_
      refine V_get (Cn := RX2) (T := TX2) (N := 18) C hinX2_comesTo_X2 0 rfl rfl 3 (by decide) hfX2_comesTo_19 rfl rfl dX2_comesTo_50 ?_
      refine V_iload_n C dX2_comesTo_53 rfl 1 rfl ?_
      refine Vm_iald C 4 0 rfl rfl hp0 dX2_comesTo_54 ?_
      refine V_iadd C dX2_comesTo_55 ?_
      refine V_cSi1 C xT_ok (kX2_held _ _) (va_cwS 1 C.2.2.1 gX2_comesTo_X2_held rfl rfl rfl hdX2_held ⟨Nat.le_of_ble_eq_true rfl, Nat.le_of_ble_eq_true rfl⟩) (Nat.le_of_ble_eq_true rfl) ⟨(Nat.le_of_ble_eq_true rfl), (Nat.le_of_ble_eq_true rfl)⟩ dX2_comesTo_56 ?_
      subst hy13
      subst hy6
      exact V_iret C rfl (vp_nar_int _) ((if_neg h21).trans ((if_pos h38).trans rfl)) rfl dX2_comesTo_59
  ·
    refine V_aload_n C dX2_comesTo_24 rfl 0 rfl ?_
    refine V_get (Cn := RX2) (T := TX2) (N := 18) C hinX2_comesTo_X2 0 rfl rfl 3 (by decide) hfX2_comesTo_19 rfl rfl dX2_comesTo_25 ?_
    refine V_iload_n C dX2_comesTo_28 rfl 1 rfl ?_
    refine Vm_iald C 4 0 rfl rfl hp0 dX2_comesTo_29 ?_
    subst hy13
    subst hy6
    exact V_iret C rfl (vp_nar_int _) ((if_pos h21).trans rfl) rfl dX2_comesTo_30
set_option maxHeartbeats 4000000 in
theorem kX2_comesTo_v8 {l : Launch} {D : va_G} {cI : ClassId} {ad : Nat → Nat} (u : vM) (a1 : Int32) (hp0 : vp_in a1 24) (hp1 : fm u) : mI D vwCl (tyM cI) xT (wM cI ad) l yX2_comesTo wsX2_comesTo rmX2_comesTo [.ref (ad 0), .int a1, .ref (ad 8)] u (rX2_comesTo_v8 u a1) u := by
  refine mI_of (cc := cX2_comesTo) (maxL := 5) (ret := (some .int)) (own := RX2) rfl (by decide) rfl (wM_ok cI ad) (Nat.le_of_ble_eq_true rfl) (fun p e s m args below meth c A C => ?_)
  refine V_ls (ls' := [(0, .ref (ad 0)), (1, .int a1), (2, .ref (ad 8))]) rfl ?_
  refine V_aload_n C dX2_comesTo_0 rfl 0 rfl ?_
  refine V_get (Cn := RX2) (T := TX2) (N := 18) C hinX2_comesTo_X2 0 rfl rfl 1 (by decide) hfX2_comesTo_13 rfl rfl dX2_comesTo_1 ?_
  refine V_iload_n C dX2_comesTo_4 rfl 1 rfl ?_
  refine Vm_iald C 2 0 rfl rfl hp0 dX2_comesTo_5 ?_
  refine V_top (fun y6 hy6 => ?_)
  refine V_istore_n (ls' := [(0, .ref (ad 0)), (1, .int a1), (2, .ref (ad 8)), (3, .int y6)]) C dX2_comesTo_6 rfl (by decide) rfl rfl ?_
  refine V_aload_n C dX2_comesTo_7 rfl 0 rfl ?_
  refine V_get (Cn := RX2) (T := TX2) (N := 18) C hinX2_comesTo_X2 0 rfl rfl 2 (by decide) hfX2_comesTo_16 rfl rfl dX2_comesTo_8 ?_
  refine V_iload_n C dX2_comesTo_11 rfl 1 rfl ?_
  refine Vm_iald C 3 0 rfl rfl hp0 dX2_comesTo_12 ?_
  refine V_top (fun y13 hy13 => ?_)
  refine V_istore (ls' := [(0, .ref (ad 0)), (1, .int a1), (2, .ref (ad 8)), (3, .int y6), (4, .int y13)]) C dX2_comesTo_13 (by decide) rfl rfl ?_
  refine V_aload_n C dX2_comesTo_15 rfl 0 rfl ?_
  refine V_get (Cn := RX2) (T := TX2) (N := 18) C hinX2_comesTo_X2 0 rfl rfl 0 (by decide) hfX2_comesTo_7 rfl rfl dX2_comesTo_16 ?_
  refine V_iload_n C dX2_comesTo_19 rfl 1 rfl ?_
  refine Vm_iald C 1 0 rfl rfl hp0 dX2_comesTo_20 ?_
  refine V_if_ne (tgt := 31) C dX2_comesTo_21 (by decide) (fun h21 => ?_) (fun h21 => ?_)
  ·
    refine V_aload_n C dX2_comesTo_31 rfl 0 rfl ?_
    refine V_get (Cn := RX2) (T := TX2) (N := 18) C hinX2_comesTo_X2 0 rfl rfl 0 (by decide) hfX2_comesTo_7 rfl rfl dX2_comesTo_32 ?_
    refine V_iload_n C dX2_comesTo_35 rfl 1 rfl ?_
    refine Vm_iald C 1 0 rfl rfl hp0 dX2_comesTo_36 ?_
    refine V_iconst (v := 1) C dX2_comesTo_37 (by decide) ?_
    refine V_icmp_ne (tgt := 60) C dX2_comesTo_38 (by decide) (fun h38 => ?_) (fun h38 => ?_)
    ·
      refine V_aload_n C dX2_comesTo_60 rfl 0 rfl ?_
      refine V_get (Cn := RX2) (T := TX2) (N := 18) C hinX2_comesTo_X2 0 rfl rfl 0 (by decide) hfX2_comesTo_7 rfl rfl dX2_comesTo_61 ?_
      refine V_iload_n C dX2_comesTo_64 rfl 1 rfl ?_
      refine Vm_iald C 1 0 rfl rfl hp0 dX2_comesTo_65 ?_
      refine V_iconst (v := 2) C dX2_comesTo_66 (by decide) ?_
      refine V_icmp_ne (tgt := 91) C dX2_comesTo_67 (by decide) (fun h67 => ?_) (fun h67 => ?_)
      ·
        refine V_aload_n C dX2_comesTo_91 rfl 2 rfl ?_
        refine V_iload_n C dX2_comesTo_92 rfl 3 rfl ?_
        refine Vm_iald C 8 0 rfl rfl (by rw [← hy6]; exact (vq_fm2 hp1 hp0)) dX2_comesTo_93 ?_
        refine V_aload_n C dX2_comesTo_94 rfl 0 rfl ?_
        refine V_get (Cn := RX2) (T := TX2) (N := 18) C hinX2_comesTo_X2 0 rfl rfl 3 (by decide) hfX2_comesTo_19 rfl rfl dX2_comesTo_95 ?_
        refine V_iload_n C dX2_comesTo_98 rfl 1 rfl ?_
        refine Vm_iald C 4 0 rfl rfl hp0 dX2_comesTo_99 ?_
        refine V_imul C dX2_comesTo_100 ?_
        refine V_cSi1 C xT_ok (kX2_held _ _) (va_cwS 1 C.2.2.1 gX2_comesTo_X2_held rfl rfl rfl hdX2_held ⟨Nat.le_of_ble_eq_true rfl, Nat.le_of_ble_eq_true rfl⟩) (Nat.le_of_ble_eq_true rfl) ⟨(Nat.le_of_ble_eq_true rfl), (Nat.le_of_ble_eq_true rfl)⟩ dX2_comesTo_101 ?_
        subst hy13
        subst hy6
        exact V_iret C rfl (vp_nar_int _) ((if_neg h21).trans ((if_neg h38).trans ((if_neg h67).trans rfl))) rfl dX2_comesTo_104
      ·
        refine V_aload_n C dX2_comesTo_70 rfl 2 rfl ?_
        refine V_iload_n C dX2_comesTo_71 rfl 3 rfl ?_
        refine Vm_iald C 8 0 rfl rfl (by rw [← hy6]; exact (vq_fm2 hp1 hp0)) dX2_comesTo_72 ?_
        refine V_aload_n C dX2_comesTo_73 rfl 2 rfl ?_
        refine V_iload C dX2_comesTo_74 4 rfl ?_
        refine Vm_iald C 8 0 rfl rfl (by rw [← hy13]; exact (vq_fm3 hp1 hp0)) dX2_comesTo_76 ?_
        refine V_join2 (J := 90) (T := (if (mrd u 8 y6) ≤ (mrd u 8 y13) then (mrd u 8 y13) else (mrd u 8 y6))) (fun j90 hj90 => ?_) (fun J90 => ?_)
        ·
          subst hj90
          subst hy13
          subst hy6
          exact V_iret C rfl (vp_nar_int _) ((if_neg h21).trans ((if_neg h38).trans ((if_pos h67).trans rfl))) rfl dX2_comesTo_90
        ·
          refine V_icmp_le (tgt := 86) C dX2_comesTo_77 (by decide) (fun h77 => ?_) (fun h77 => ?_)
          ·
            refine V_aload_n C dX2_comesTo_86 rfl 2 rfl ?_
            refine V_iload C dX2_comesTo_87 4 rfl ?_
            refine Vm_iald C 8 0 rfl rfl (by rw [← hy13]; exact (vq_fm3 hp1 hp0)) dX2_comesTo_89 ?_
            exact J90 _ ((if_pos h77).trans rfl)
          ·
            refine V_aload_n C dX2_comesTo_80 rfl 2 rfl ?_
            refine V_iload_n C dX2_comesTo_81 rfl 3 rfl ?_
            refine Vm_iald C 8 0 rfl rfl (by rw [← hy6]; exact (vq_fm2 hp1 hp0)) dX2_comesTo_82 ?_
            refine V_goto (tgt := 90) C dX2_comesTo_83 (by decide) ?_
            exact J90 _ ((if_neg h77).trans rfl)
    ·
      refine V_aload_n C dX2_comesTo_41 rfl 2 rfl ?_
      refine V_iload_n C dX2_comesTo_42 rfl 3 rfl ?_
      refine Vm_iald C 8 0 rfl rfl (by rw [← hy6]; exact (vq_fm2 hp1 hp0)) dX2_comesTo_43 ?_
      refine V_aload_n C dX2_comesTo_44 rfl 2 rfl ?_
      refine V_iload C dX2_comesTo_45 4 rfl ?_
      refine Vm_iald C 8 0 rfl rfl (by rw [← hy13]; exact (vq_fm3 hp1 hp0)) dX2_comesTo_47 ?_
      refine V_iadd C dX2_comesTo_48 ?_
      refine V_aload_n C dX2_comesTo_49 rfl 0 rfl ?_
      refine V_get (Cn := RX2) (T := TX2) (N := 18) C hinX2_comesTo_X2 0 rfl rfl 3 (by decide) hfX2_comesTo_19 rfl rfl dX2_comesTo_50 ?_
      refine V_iload_n C dX2_comesTo_53 rfl 1 rfl ?_
      refine Vm_iald C 4 0 rfl rfl hp0 dX2_comesTo_54 ?_
      refine V_iadd C dX2_comesTo_55 ?_
      refine V_cSi1 C xT_ok (kX2_held _ _) (va_cwS 1 C.2.2.1 gX2_comesTo_X2_held rfl rfl rfl hdX2_held ⟨Nat.le_of_ble_eq_true rfl, Nat.le_of_ble_eq_true rfl⟩) (Nat.le_of_ble_eq_true rfl) ⟨(Nat.le_of_ble_eq_true rfl), (Nat.le_of_ble_eq_true rfl)⟩ dX2_comesTo_56 ?_
      subst hy13
      subst hy6
      exact V_iret C rfl (vp_nar_int _) ((if_neg h21).trans ((if_pos h38).trans rfl)) rfl dX2_comesTo_59
  ·
    refine V_aload_n C dX2_comesTo_24 rfl 0 rfl ?_
    refine V_get (Cn := RX2) (T := TX2) (N := 18) C hinX2_comesTo_X2 0 rfl rfl 3 (by decide) hfX2_comesTo_19 rfl rfl dX2_comesTo_25 ?_
    refine V_iload_n C dX2_comesTo_28 rfl 1 rfl ?_
    refine Vm_iald C 4 0 rfl rfl hp0 dX2_comesTo_29 ?_
    subst hy13
    subst hy6
    exact V_iret C rfl (vp_nar_int _) ((if_pos h21).trans rfl) rfl dX2_comesTo_30
theorem hdX2_isMetered : yX2_isMetered.cls ≠ "java/lang/invoke/MethodHandle" ∧ yX2_isMetered.cls ≠ "java/lang/invoke/VarHandle" ∧ (parseMethodDescriptor yX2_isMetered.desc).map (fun d => d.parameters.length) = some 2 := by decide +kernel
theorem hvX2_isMetered : yX2_isMetered.cls = RX2 ∧ yX2_isMetered.cls ≠ "java/lang/invoke/MethodHandle" ∧ yX2_isMetered.cls ≠ "java/lang/invoke/VarHandle" ∧ (parseMethodDescriptor yX2_isMetered.desc).map (fun d => d.parameters.length) = some 2 := by decide +kernel
set_option maxHeartbeats 4000000 in
theorem kX2_isMetered {l : Launch} {D : va_G} {cI : ClassId} {ad : Nat → Nat} (u : vM) (a0 : Int32) (a1 : Int32) : mI D vwCl (tyM cI) xT (wM cI ad) l yX2_isMetered wsX2_isMetered rmX2_isMetered [.int a0, .int a1] u (rX2_isMetered a0 a1) u := by
  refine mI_of (cc := cX2_isMetered) (maxL := 2) (ret := (some .boolean)) (own := RX2) rfl (by decide) rfl (wM_ok cI ad) (Nat.le_of_ble_eq_true rfl) (fun p e s m args below meth c A C => ?_)
  refine V_ls (ls' := [(0, .int a0), (1, .int a1)]) rfl ?_
  refine V_iload_n C dX2_isMetered_0 rfl 1 rfl ?_
  refine V_iconst (v := (-1)) C dX2_isMetered_1 (by decide) ?_
  refine V_join2 (J := 21) (T := (if a1 = (-1) then 0 else (if (a0 / 6) = (a1 / 6) then 0 else 1))) (fun j21 hj21 => ?_) (fun J21 => ?_)
  ·
    subst hj21
    exact V_iret C rfl (by (repeat' split) <;> rfl) rfl rfl dX2_isMetered_21
  ·
    refine V_icmp_eq (tgt := 20) C dX2_isMetered_2 (by decide) (fun h2 => ?_) (fun h2 => ?_)
    ·
      refine V_iconst (v := 0) C dX2_isMetered_20 (by decide) ?_
      exact J21 _ ((if_pos h2).trans rfl)
    ·
      refine V_iload_n C dX2_isMetered_5 rfl 0 rfl ?_
      refine V_bipush (v := 6) C dX2_isMetered_6 (by decide) ?_
      refine V_idiv C dX2_isMetered_8 (by decide) ?_
      refine V_iload_n C dX2_isMetered_9 rfl 1 rfl ?_
      refine V_bipush (v := 6) C dX2_isMetered_10 (by decide) ?_
      refine V_idiv C dX2_isMetered_12 (by decide) ?_
      refine V_icmp_eq (tgt := 20) C dX2_isMetered_13 (by decide) (fun h13 => ?_) (fun h13 => ?_)
      ·
        refine V_iconst (v := 0) C dX2_isMetered_20 (by decide) ?_
        exact J21 _ ((if_neg h2).trans ((if_pos h13).trans rfl))
      ·
        refine V_iconst (v := 1) C dX2_isMetered_16 (by decide) ?_
        refine V_goto (tgt := 21) C dX2_isMetered_17 (by decide) ?_
        exact J21 _ ((if_neg h2).trans ((if_neg h13).trans rfl))
theorem hdX2_priceOf : yX2_priceOf.cls ≠ "java/lang/invoke/MethodHandle" ∧ yX2_priceOf.cls ≠ "java/lang/invoke/VarHandle" ∧ (parseMethodDescriptor yX2_priceOf.desc).map (fun d => d.parameters.length) = some 2 := by decide +kernel
theorem hvX2_priceOf : yX2_priceOf.cls = RX2 ∧ yX2_priceOf.cls ≠ "java/lang/invoke/MethodHandle" ∧ yX2_priceOf.cls ≠ "java/lang/invoke/VarHandle" ∧ (parseMethodDescriptor yX2_priceOf.desc).map (fun d => d.parameters.length) = some 2 := by decide +kernel
theorem hinX2_priceOf_X2 : ∀ w ∈ u_ws RX2 TX2 18, w ∈ wsX2_priceOf := by decide +kernel
theorem hfX2_priceOf_40 : Cond.fieldLink RX2 40 "MeteredSheetsModel" "prices" "[I" ∈ wsX2_priceOf := by decide +kernel
set_option maxHeartbeats 4000000 in
theorem kX2_priceOf {l : Launch} {D : va_G} {cI : ClassId} {ad : Nat → Nat} (u : vM) (a1 : Int32) (a2 : Int32) (hp0 : rk a2) : mI D vwCl (tyM cI) xT (wM cI ad) l yX2_priceOf wsX2_priceOf rmX2_priceOf [.ref (ad 0), .int a1, .int a2] u (rX2_priceOf u a1 a2) u := by
  refine mI_of (cc := cX2_priceOf) (maxL := 3) (ret := (some .int)) (own := RX2) rfl (by decide) rfl (wM_ok cI ad) (Nat.le_of_ble_eq_true rfl) (fun p e s m args below meth c A C => ?_)
  refine V_ls (ls' := [(0, .ref (ad 0)), (1, .int a1), (2, .int a2)]) rfl ?_
  refine V_iload_n C dX2_priceOf_0 rfl 1 rfl ?_
  refine V_iload_n C dX2_priceOf_1 rfl 2 rfl ?_
  refine V_cSi2 C xT_ok (kX2_isMetered _ _ _) (va_cwS 2 C.2.2.1 gX2_priceOf_X2_isMetered rfl rfl rfl hdX2_isMetered ⟨Nat.le_of_ble_eq_true rfl, Nat.le_of_ble_eq_true rfl⟩) (Nat.le_of_ble_eq_true rfl) ⟨(Nat.le_of_ble_eq_true rfl), (Nat.le_of_ble_eq_true rfl)⟩ dX2_priceOf_2 ?_
  refine V_join1 (J := 21) (T := (if (rX2_isMetered a1 a2) = 0 then 0 else (mrd u 11 (a2 / 6)))) (fun j21 hj21 => ?_) (fun J21 => ?_)
  ·
    subst hj21
    exact V_iret C rfl (vp_nar_int _) rfl rfl dX2_priceOf_21
  ·
    refine V_if_eq (tgt := 20) C dX2_priceOf_5 (by decide) (fun h5 => ?_) (fun h5 => ?_)
    ·
      refine V_iconst (v := 0) C dX2_priceOf_20 (by decide) ?_
      exact J21 _ ((if_pos h5).trans rfl)
    ·
      refine V_aload_n C dX2_priceOf_8 rfl 0 rfl ?_
      refine V_get (Cn := RX2) (T := TX2) (N := 18) C hinX2_priceOf_X2 0 rfl rfl 10 (by decide) hfX2_priceOf_40 rfl rfl dX2_priceOf_9 ?_
      refine V_iload_n C dX2_priceOf_12 rfl 2 rfl ?_
      refine V_bipush (v := 6) C dX2_priceOf_13 (by decide) ?_
      refine V_idiv C dX2_priceOf_15 (by decide) ?_
      refine Vm_iald C 11 0 rfl rfl (vq_d6 (vqX2_isMetered h5 hp0)) dX2_priceOf_16 ?_
      refine V_goto (tgt := 21) C dX2_priceOf_17 (by decide) ?_
      exact J21 _ ((if_neg h5).trans rfl)
theorem hdX2_pay : yX2_pay.cls ≠ "java/lang/invoke/MethodHandle" ∧ yX2_pay.cls ≠ "java/lang/invoke/VarHandle" ∧ (parseMethodDescriptor yX2_pay.desc).map (fun d => d.parameters.length) = some 3 := by decide +kernel
theorem hvX2_pay : yX2_pay.cls = RX2 ∧ yX2_pay.cls ≠ "java/lang/invoke/MethodHandle" ∧ yX2_pay.cls ≠ "java/lang/invoke/VarHandle" ∧ (parseMethodDescriptor yX2_pay.desc).map (fun d => d.parameters.length) = some 3 := by decide +kernel
theorem hinX2_pay_X2 : ∀ w ∈ u_ws RX2 TX2 18, w ∈ wsX2_pay := by decide +kernel
theorem hfX2_pay_40 : Cond.fieldLink RX2 40 "MeteredSheetsModel" "prices" "[I" ∈ wsX2_pay := by decide +kernel
theorem hfX2_pay_43 : Cond.fieldLink RX2 43 "MeteredSheetsModel" "budgets" "[I" ∈ wsX2_pay := by decide +kernel
theorem hfX2_pay_46 : Cond.fieldLink RX2 46 "MeteredSheetsModel" "earnings" "[I" ∈ wsX2_pay := by decide +kernel
theorem hfX2_pay_49 : Cond.fieldLink RX2 49 "MeteredSheetsModel" "costs" "[I" ∈ wsX2_pay := by decide +kernel
theorem hfX2_pay_55 : Cond.fieldLink RX2 55 "MeteredSheetsModel" "times" "[I" ∈ wsX2_pay := by decide +kernel
theorem hfX2_pay_82 : Cond.fieldLink RX2 82 "MeteredSheetsModel" "many" "I" ∈ wsX2_pay := by decide +kernel
theorem hfX2_pay_52 : Cond.fieldLink RX2 52 "MeteredSheetsModel" "kept" "[I" ∈ wsX2_pay := by decide +kernel
set_option maxHeartbeats 4000000 in
theorem kX2_pay {l : Launch} {D : va_G} {cI : ClassId} {ad : Nat → Nat} (u : vM) (a1 : Int32) (a2 : Int32) (a3 : Int32) (hp0 : vp_in a1 5) (hp1 : vp_in a2 24) (hp2 : rk a3) (hp3 : kc2 u) : mV D vwCl (tyM cI) xT (wM cI ad) l yX2_pay wsX2_pay rmX2_pay [.ref (ad 0), .int a1, .int a2, .int a3] u (uX2_pay u a1 a2 a3) := by
  refine mV_of (cc := cX2_pay) (maxL := 5) (ret := none) (own := RX2) rfl (by decide) rfl (wM_ok cI ad) (Nat.le_of_ble_eq_true rfl) (fun p e s m args below meth c A C => ?_)
  refine V_ls (ls' := [(0, .ref (ad 0)), (1, .int a1), (2, .int a2), (3, .int a3)]) rfl ?_
  refine V_iload_n C dX2_pay_0 rfl 2 rfl ?_
  refine V_iload_n C dX2_pay_1 rfl 3 rfl ?_
  refine V_cSi2 C xT_ok (kX2_isMetered _ _ _) (va_cwS 2 C.2.2.1 gX2_pay_X2_isMetered rfl rfl rfl hdX2_isMetered ⟨Nat.le_of_ble_eq_true rfl, Nat.le_of_ble_eq_true rfl⟩) (Nat.le_of_ble_eq_true rfl) ⟨(Nat.le_of_ble_eq_true rfl), (Nat.le_of_ble_eq_true rfl)⟩ dX2_pay_2 ?_
  refine V_if_eq (tgt := 114) C dX2_pay_5 (by decide) (fun h5 => ?_) (fun h5 => ?_)
  ·
    exact V_vret C rfl ((if_pos h5).trans rfl) dX2_pay_114
  ·
    refine V_aload_n C dX2_pay_8 rfl 0 rfl ?_
    refine V_get (Cn := RX2) (T := TX2) (N := 18) C hinX2_pay_X2 0 rfl rfl 10 (by decide) hfX2_pay_40 rfl rfl dX2_pay_9 ?_
    refine V_iload_n C dX2_pay_12 rfl 3 rfl ?_
    refine V_bipush (v := 6) C dX2_pay_13 (by decide) ?_
    refine V_idiv C dX2_pay_15 (by decide) ?_
    refine Vm_iald C 11 0 rfl rfl (vq_d6 (vqX2_isMetered h5 hp2)) dX2_pay_16 ?_
    refine V_top (fun y17 hy17 => ?_)
    refine V_istore (ls' := [(0, .ref (ad 0)), (1, .int a1), (2, .int a2), (3, .int a3), (4, .int y17)]) C dX2_pay_17 (by decide) rfl rfl ?_
    refine V_aload_n C dX2_pay_19 rfl 0 rfl ?_
    refine V_get (Cn := RX2) (T := TX2) (N := 18) C hinX2_pay_X2 0 rfl rfl 11 (by decide) hfX2_pay_43 rfl rfl dX2_pay_20 ?_
    refine V_iload_n C dX2_pay_23 rfl 2 rfl ?_
    refine V_bipush (v := 6) C dX2_pay_24 (by decide) ?_
    refine V_idiv C dX2_pay_26 (by decide) ?_
    refine V_dup2 C dX2_pay_27 rfl rfl ?_
    refine Vm_iald C 12 0 rfl rfl (vq_d6 hp1) dX2_pay_28 ?_
    refine V_iload C dX2_pay_29 4 rfl ?_
    refine V_isub C dX2_pay_31 ?_
    refine Vm_iast C 12 0 rfl rfl (vq_d6 hp1) wM_s12 dX2_pay_32 ?_
    refine V_u (fun u32 hu32 => ?_)
    have hkc232 : kc2 u32 := by rw [← hu32]; exact hp3
    refine V_aload_n C dX2_pay_33 rfl 0 rfl ?_
    refine V_get (Cn := RX2) (T := TX2) (N := 18) C hinX2_pay_X2 0 rfl rfl 12 (by decide) hfX2_pay_46 rfl rfl dX2_pay_34 ?_
    refine V_iload_n C dX2_pay_37 rfl 3 rfl ?_
    refine V_bipush (v := 6) C dX2_pay_38 (by decide) ?_
    refine V_idiv C dX2_pay_40 (by decide) ?_
    refine V_dup2 C dX2_pay_41 rfl rfl ?_
    refine Vm_iald C 13 0 rfl rfl (vq_d6 (vqX2_isMetered h5 hp2)) dX2_pay_42 ?_
    refine V_iload C dX2_pay_43 4 rfl ?_
    refine V_iadd C dX2_pay_45 ?_
    refine Vm_iast C 13 0 rfl rfl (vq_d6 (vqX2_isMetered h5 hp2)) wM_s13 dX2_pay_46 ?_
    refine V_u (fun u46 hu46 => ?_)
    have hkc246 : kc2 u46 := by rw [← hu46]; exact hkc232
    refine V_aload_n C dX2_pay_47 rfl 0 rfl ?_
    refine V_get (Cn := RX2) (T := TX2) (N := 18) C hinX2_pay_X2 0 rfl rfl 13 (by decide) hfX2_pay_49 rfl rfl dX2_pay_48 ?_
    refine V_iload_n C dX2_pay_51 rfl 1 rfl ?_
    refine V_dup2 C dX2_pay_52 rfl rfl ?_
    refine Vm_iald C 14 0 rfl rfl hp0 dX2_pay_53 ?_
    refine V_iload C dX2_pay_54 4 rfl ?_
    refine V_iadd C dX2_pay_56 ?_
    refine Vm_iast C 14 0 rfl rfl hp0 wM_s14 dX2_pay_57 ?_
    refine V_u (fun u57 hu57 => ?_)
    have hkc257 : kc2 u57 := by rw [← hu57]; exact hkc246
    refine V_aload_n C dX2_pay_58 rfl 0 rfl ?_
    refine V_get (Cn := RX2) (T := TX2) (N := 18) C hinX2_pay_X2 0 rfl rfl 16 (by decide) hfX2_pay_55 rfl rfl dX2_pay_59 ?_
    refine V_bipush (v := 24) C dX2_pay_62 (by decide) ?_
    refine V_iload_n C dX2_pay_64 rfl 2 rfl ?_
    refine V_imul C dX2_pay_65 ?_
    refine V_iload_n C dX2_pay_66 rfl 3 rfl ?_
    refine V_iadd C dX2_pay_67 ?_
    refine V_dup2 C dX2_pay_68 rfl rfl ?_
    refine Vm_iald C 16 0 rfl rfl (vq_576' hp1 (vqX2_isMetered h5 hp2)) dX2_pay_69 ?_
    refine V_iconst (v := 1) C dX2_pay_70 (by decide) ?_
    refine V_iadd C dX2_pay_71 ?_
    refine Vm_iast C 16 0 rfl rfl (vq_576' hp1 (vqX2_isMetered h5 hp2)) wM_s16 dX2_pay_72 ?_
    refine V_u (fun u72 hu72 => ?_)
    have hkc272 : kc2 u72 := by rw [← hu72]; exact hkc257
    refine V_aload_n C dX2_pay_73 rfl 0 rfl ?_
    refine V_get (Cn := RX2) (T := TX2) (N := 18) C hinX2_pay_X2 0 rfl rfl 15 (by decide) hfX2_pay_82 rfl rfl dX2_pay_74 ?_
    show V p l e _ s m args below meth c D vwCl A (wM cI ad) _ _ _ _ _ _ _ (.int (mfd u72 17) :: _)
    refine V_sipush (v := 500) C dX2_pay_77 (by decide) ?_
    refine V_icmp_ge (tgt := 114) C dX2_pay_80 (by decide) (fun h80 => ?_) (fun h80 => ?_)
    ·
      subst hu72
      subst hu57
      subst hu46
      subst hu32
      subst hy17
      exact V_vret C rfl ((if_neg h5).trans ((if_pos h80).trans rfl)) dX2_pay_114
    ·
      refine V_aload_n C dX2_pay_83 rfl 0 rfl ?_
      refine V_get (Cn := RX2) (T := TX2) (N := 18) C hinX2_pay_X2 0 rfl rfl 14 (by decide) hfX2_pay_52 rfl rfl dX2_pay_84 ?_
      refine V_aload_n C dX2_pay_87 rfl 0 rfl ?_
      refine V_get (Cn := RX2) (T := TX2) (N := 18) C hinX2_pay_X2 0 rfl rfl 15 (by decide) hfX2_pay_82 rfl rfl dX2_pay_88 ?_
      show V p l e _ s m args below meth c D vwCl A (wM cI ad) _ _ _ _ _ _ _ (.int (mfd u72 17) :: _)
      refine V_sipush (v := 10000) C dX2_pay_91 (by decide) ?_
      refine V_iload_n C dX2_pay_94 rfl 1 rfl ?_
      refine V_imul C dX2_pay_95 ?_
      refine V_bipush (v := 100) C dX2_pay_96 (by decide) ?_
      refine V_iload_n C dX2_pay_98 rfl 2 rfl ?_
      refine V_imul C dX2_pay_99 ?_
      refine V_iadd C dX2_pay_100 ?_
      refine V_iload_n C dX2_pay_101 rfl 3 rfl ?_
      refine V_iadd C dX2_pay_102 ?_
      refine Vm_iast C 15 0 rfl rfl (vq_kc2 hkc272 h80) wM_s15 dX2_pay_103 ?_
      refine V_u (fun u103 hu103 => ?_)
      have hkc2103 : kc2 u103 := by rw [← hu103]; exact hkc272
      refine V_aload_n C dX2_pay_104 rfl 0 rfl ?_
      refine V_dup C dX2_pay_105 rfl ?_
      refine V_get (Cn := RX2) (T := TX2) (N := 18) C hinX2_pay_X2 0 rfl rfl 15 (by decide) hfX2_pay_82 rfl rfl dX2_pay_106 ?_
      show V p l e _ s m args below meth c D vwCl A (wM cI ad) _ _ _ _ _ _ _ (.int (mfd u103 17) :: _)
      refine V_iconst (v := 1) C dX2_pay_109 (by decide) ?_
      refine V_iadd C dX2_pay_110 ?_
      refine V_put (Cn := RX2) (T := TX2) (N := 18) C hinX2_pay_X2 tyX2 tyX2_ok nmX2 0 rfl rfl 15 (by decide) hfX2_pay_82 rfl rfl rfl (Nat.le_of_ble_eq_true rfl) wM_s17 dX2_pay_111 ?_
      refine V_u (fun u111 hu111 => ?_)
      subst hu111
      subst hu103
      subst hu72
      subst hu57
      subst hu46
      subst hu32
      subst hy17
      exact V_vret C rfl ((if_neg h5).trans ((if_neg h80).trans rfl)) dX2_pay_114
theorem hdX2_compute : yX2_compute.cls ≠ "java/lang/invoke/MethodHandle" ∧ yX2_compute.cls ≠ "java/lang/invoke/VarHandle" ∧ (parseMethodDescriptor yX2_compute.desc).map (fun d => d.parameters.length) = some 2 := by decide +kernel
theorem hvX2_compute : yX2_compute.cls = RX2 ∧ yX2_compute.cls ≠ "java/lang/invoke/MethodHandle" ∧ yX2_compute.cls ≠ "java/lang/invoke/VarHandle" ∧ (parseMethodDescriptor yX2_compute.desc).map (fun d => d.parameters.length) = some 2 := by decide +kernel
theorem hinX2_compute_X2 : ∀ w ∈ u_ws RX2 TX2 18, w ∈ wsX2_compute := by decide +kernel
theorem hfX2_compute_43 : Cond.fieldLink RX2 43 "MeteredSheetsModel" "budgets" "[I" ∈ wsX2_compute := by decide +kernel
theorem hfX2_compute_22 : Cond.fieldLink RX2 22 "MeteredSheetsModel" "values" "[I" ∈ wsX2_compute := by decide +kernel
theorem hfX2_compute_28 : Cond.fieldLink RX2 28 "MeteredSheetsModel" "changed" "[I" ∈ wsX2_compute := by decide +kernel
theorem hfX2_compute_25 : Cond.fieldLink RX2 25 "MeteredSheetsModel" "marks" "[I" ∈ wsX2_compute := by decide +kernel
set_option maxHeartbeats 4000000 in
theorem kX2_compute {l : Launch} {D : va_G} {cI : ClassId} {ad : Nat → Nat} (u : vM) (a1 : Int32) (a2 : Int32) (hp0 : vp_in a1 5) (hp1 : vp_in a2 24) (hp2 : fm u) (hp3 : kc2 u) : mV D vwCl (tyM cI) xT (wM cI ad) l yX2_compute wsX2_compute rmX2_compute [.ref (ad 0), .int a1, .int a2] u (uX2_compute u a1 a2) := by
  refine mV_of (cc := cX2_compute) (maxL := 5) (ret := none) (own := RX2) rfl (by decide) rfl (wM_ok cI ad) (Nat.le_of_ble_eq_true rfl) (fun p e s m args below meth c A C => ?_)
  refine V_ls (ls' := [(0, .ref (ad 0)), (1, .int a1), (2, .int a2)]) rfl ?_
  refine V_aload_n C dX2_compute_0 rfl 0 rfl ?_
  refine V_iload_n C dX2_compute_1 rfl 2 rfl ?_
  refine V_aload_n C dX2_compute_2 rfl 0 rfl ?_
  refine V_iload_n C dX2_compute_3 rfl 2 rfl ?_
  refine V_cVi1 C xT_ok (kX2_one _ _ hp1) (cwV 1 C.2.2.1 gX2_compute_X2_one rfl rfl rfl hvX2_one ⟨Nat.le_of_ble_eq_true rfl, Nat.le_of_ble_eq_true rfl⟩) 0 rfl rfl (Nat.le_of_ble_eq_true rfl) ⟨(Nat.le_of_ble_eq_true rfl), (Nat.le_of_ble_eq_true rfl)⟩ dX2_compute_4 ?_
  refine V_cVi2 C xT_ok (kX2_priceOf _ _ _ (vq_one_rk hp2 hp1)) (cwV 2 C.2.2.1 gX2_compute_X2_priceOf rfl rfl rfl hvX2_priceOf ⟨Nat.le_of_ble_eq_true rfl, Nat.le_of_ble_eq_true rfl⟩) 0 rfl rfl (Nat.le_of_ble_eq_true rfl) ⟨(Nat.le_of_ble_eq_true rfl), (Nat.le_of_ble_eq_true rfl)⟩ dX2_compute_7 ?_
  refine V_aload_n C dX2_compute_10 rfl 0 rfl ?_
  refine V_iload_n C dX2_compute_11 rfl 2 rfl ?_
  refine V_aload_n C dX2_compute_12 rfl 0 rfl ?_
  refine V_iload_n C dX2_compute_13 rfl 2 rfl ?_
  refine V_cVi1 C xT_ok (kX2_other _ _ hp1) (cwV 1 C.2.2.1 gX2_compute_X2_other rfl rfl rfl hvX2_other ⟨Nat.le_of_ble_eq_true rfl, Nat.le_of_ble_eq_true rfl⟩) 0 rfl rfl (Nat.le_of_ble_eq_true rfl) ⟨(Nat.le_of_ble_eq_true rfl), (Nat.le_of_ble_eq_true rfl)⟩ dX2_compute_14 ?_
  refine V_cVi2 C xT_ok (kX2_priceOf _ _ _ (vq_other_rk hp2 hp1)) (cwV 2 C.2.2.1 gX2_compute_X2_priceOf rfl rfl rfl hvX2_priceOf ⟨Nat.le_of_ble_eq_true rfl, Nat.le_of_ble_eq_true rfl⟩) 0 rfl rfl (Nat.le_of_ble_eq_true rfl) ⟨(Nat.le_of_ble_eq_true rfl), (Nat.le_of_ble_eq_true rfl)⟩ dX2_compute_17 ?_
  refine V_iadd C dX2_compute_20 ?_
  refine V_top (fun y21 hy21 => ?_)
  refine V_istore_n (ls' := [(0, .ref (ad 0)), (1, .int a1), (2, .int a2), (3, .int y21)]) C dX2_compute_21 rfl (by decide) rfl rfl ?_
  refine V_aload_n C dX2_compute_22 rfl 0 rfl ?_
  refine V_get (Cn := RX2) (T := TX2) (N := 18) C hinX2_compute_X2 0 rfl rfl 11 (by decide) hfX2_compute_43 rfl rfl dX2_compute_23 ?_
  refine V_iload_n C dX2_compute_26 rfl 2 rfl ?_
  refine V_bipush (v := 6) C dX2_compute_27 (by decide) ?_
  refine V_idiv C dX2_compute_29 (by decide) ?_
  refine Vm_iald C 12 0 rfl rfl (vq_d6 hp1) dX2_compute_30 ?_
  refine V_iload_n C dX2_compute_31 rfl 3 rfl ?_
  refine V_icmp_ge (tgt := 43) C dX2_compute_32 (by decide) (fun h32 => ?_) (fun h32 => ?_)
  ·
    refine V_aload_n C dX2_compute_43 rfl 0 rfl ?_
    refine V_iload_n C dX2_compute_44 rfl 1 rfl ?_
    refine V_iload_n C dX2_compute_45 rfl 2 rfl ?_
    refine V_aload_n C dX2_compute_46 rfl 0 rfl ?_
    refine V_iload_n C dX2_compute_47 rfl 2 rfl ?_
    refine V_cVi1 C xT_ok (kX2_one _ _ hp1) (cwV 1 C.2.2.1 gX2_compute_X2_one rfl rfl rfl hvX2_one ⟨Nat.le_of_ble_eq_true rfl, Nat.le_of_ble_eq_true rfl⟩) 0 rfl rfl (Nat.le_of_ble_eq_true rfl) ⟨(Nat.le_of_ble_eq_true rfl), (Nat.le_of_ble_eq_true rfl)⟩ dX2_compute_48 ?_
    refine V_cVv3 C xT_ok (kX2_pay _ _ _ _ hp0 hp1 (vq_one_rk hp2 hp1) hp3) (cwV 3 C.2.2.1 gX2_compute_X2_pay rfl rfl rfl hvX2_pay ⟨Nat.le_of_ble_eq_true rfl, Nat.le_of_ble_eq_true rfl⟩) 0 rfl rfl (Nat.le_of_ble_eq_true rfl) ⟨(Nat.le_of_ble_eq_true rfl), (Nat.le_of_ble_eq_true rfl)⟩ dX2_compute_51 ?_
    refine V_u (fun u51 hu51 => ?_)
    have hfm51 : fm u51 := by rw [← hu51]; exact fm_congr (fr_uX2_pay (by decide) (by decide) (by decide) (by decide) (by decide) (by decide)) (fr_uX2_pay (by decide) (by decide) (by decide) (by decide) (by decide) (by decide)) hp2
    have hkc251 : kc2 u51 := by rw [← hu51]; exact kc2_X2_pay hp3
    refine V_aload_n C dX2_compute_54 rfl 0 rfl ?_
    refine V_iload_n C dX2_compute_55 rfl 1 rfl ?_
    refine V_iload_n C dX2_compute_56 rfl 2 rfl ?_
    refine V_aload_n C dX2_compute_57 rfl 0 rfl ?_
    refine V_iload_n C dX2_compute_58 rfl 2 rfl ?_
    refine V_cVi1 C xT_ok (kX2_other _ _ hp1) (cwV 1 C.2.2.1 gX2_compute_X2_other rfl rfl rfl hvX2_other ⟨Nat.le_of_ble_eq_true rfl, Nat.le_of_ble_eq_true rfl⟩) 0 rfl rfl (Nat.le_of_ble_eq_true rfl) ⟨(Nat.le_of_ble_eq_true rfl), (Nat.le_of_ble_eq_true rfl)⟩ dX2_compute_59 ?_
    refine V_cVv3 C xT_ok (kX2_pay _ _ _ _ hp0 hp1 (vq_other_rk hfm51 hp1) hkc251) (cwV 3 C.2.2.1 gX2_compute_X2_pay rfl rfl rfl hvX2_pay ⟨Nat.le_of_ble_eq_true rfl, Nat.le_of_ble_eq_true rfl⟩) 0 rfl rfl (Nat.le_of_ble_eq_true rfl) ⟨(Nat.le_of_ble_eq_true rfl), (Nat.le_of_ble_eq_true rfl)⟩ dX2_compute_62 ?_
    refine V_u (fun u62 hu62 => ?_)
    have hfm62 : fm u62 := by rw [← hu62]; exact fm_congr (fr_uX2_pay (by decide) (by decide) (by decide) (by decide) (by decide) (by decide)) (fr_uX2_pay (by decide) (by decide) (by decide) (by decide) (by decide) (by decide)) hfm51
    have hkc262 : kc2 u62 := by rw [← hu62]; exact kc2_X2_pay hkc251
    refine V_aload_n C dX2_compute_65 rfl 0 rfl ?_
    refine V_iload_n C dX2_compute_66 rfl 2 rfl ?_
    refine V_aload_n C dX2_compute_67 rfl 0 rfl ?_
    refine V_get (Cn := RX2) (T := TX2) (N := 18) C hinX2_compute_X2 0 rfl rfl 4 (by decide) hfX2_compute_22 rfl rfl dX2_compute_68 ?_
    refine V_cVi2 C xT_ok (kX2_comesTo_v5 _ _ hp1 hfm62) (cwV 2 C.2.2.1 gX2_compute_X2_comesTo rfl rfl rfl hvX2_comesTo ⟨Nat.le_of_ble_eq_true rfl, Nat.le_of_ble_eq_true rfl⟩) 0 rfl rfl (Nat.le_of_ble_eq_true rfl) ⟨(Nat.le_of_ble_eq_true rfl), (Nat.le_of_ble_eq_true rfl)⟩ dX2_compute_71 ?_
    refine V_top (fun y74 hy74 => ?_)
    refine V_istore (ls' := [(0, .ref (ad 0)), (1, .int a1), (2, .int a2), (3, .int y21), (4, .int y74)]) C dX2_compute_74 (by decide) rfl rfl ?_
    refine V_aload_n C dX2_compute_76 rfl 0 rfl ?_
    refine V_get (Cn := RX2) (T := TX2) (N := 18) C hinX2_compute_X2 0 rfl rfl 6 (by decide) hfX2_compute_28 rfl rfl dX2_compute_77 ?_
    refine V_iload_n C dX2_compute_80 rfl 2 rfl ?_
    refine V_iload C dX2_compute_81 4 rfl ?_
    refine V_aload_n C dX2_compute_83 rfl 0 rfl ?_
    refine V_get (Cn := RX2) (T := TX2) (N := 18) C hinX2_compute_X2 0 rfl rfl 4 (by decide) hfX2_compute_22 rfl rfl dX2_compute_84 ?_
    refine V_iload_n C dX2_compute_87 rfl 2 rfl ?_
    refine Vm_iald C 5 0 rfl rfl hp1 dX2_compute_88 ?_
    refine V_join2 (J := 97) (T := (if y74 = (mrd u62 5 a2) then 0 else 1)) (fun j97 hj97 => ?_) (fun J97 => ?_)
    ·
      refine Vm_iast C 7 0 rfl rfl hp1 wM_s7 dX2_compute_97 ?_
      refine V_u (fun u97 hu97 => ?_)
      have hfm97 : fm u97 := by rw [← hu97]; exact hfm62
      have hkc297 : kc2 u97 := by rw [← hu97]; exact hkc262
      refine V_aload_n C dX2_compute_98 rfl 0 rfl ?_
      refine V_get (Cn := RX2) (T := TX2) (N := 18) C hinX2_compute_X2 0 rfl rfl 4 (by decide) hfX2_compute_22 rfl rfl dX2_compute_99 ?_
      refine V_iload_n C dX2_compute_102 rfl 2 rfl ?_
      refine V_iload C dX2_compute_103 4 rfl ?_
      refine Vm_iast C 5 0 rfl rfl hp1 wM_s5 dX2_compute_105 ?_
      refine V_u (fun u105 hu105 => ?_)
      have hfm105 : fm u105 := by rw [← hu105]; exact hfm97
      have hkc2105 : kc2 u105 := by rw [← hu105]; exact hkc297
      refine V_aload_n C dX2_compute_106 rfl 0 rfl ?_
      refine V_get (Cn := RX2) (T := TX2) (N := 18) C hinX2_compute_X2 0 rfl rfl 5 (by decide) hfX2_compute_25 rfl rfl dX2_compute_107 ?_
      refine V_iload_n C dX2_compute_110 rfl 2 rfl ?_
      refine V_iconst (v := 0) C dX2_compute_111 (by decide) ?_
      refine Vm_iast C 6 0 rfl rfl hp1 wM_s6 dX2_compute_112 ?_
      refine V_u (fun u112 hu112 => ?_)
      have hfm112 : fm u112 := by rw [← hu112]; exact hfm105
      have hkc2112 : kc2 u112 := by rw [← hu112]; exact hkc2105
      subst hu112
      subst hu105
      subst hu97
      subst hj97
      subst hy74
      subst hu62
      subst hu51
      subst hy21
      exact V_vret C rfl ((if_pos h32).trans rfl) dX2_compute_113
    ·
      refine V_icmp_eq (tgt := 96) C dX2_compute_89 (by decide) (fun h89 => ?_) (fun h89 => ?_)
      ·
        refine V_iconst (v := 0) C dX2_compute_96 (by decide) ?_
        exact J97 _ ((if_pos h89).trans rfl)
      ·
        refine V_iconst (v := 1) C dX2_compute_92 (by decide) ?_
        refine V_goto (tgt := 97) C dX2_compute_93 (by decide) ?_
        exact J97 _ ((if_neg h89).trans rfl)
  ·
    refine V_aload_n C dX2_compute_35 rfl 0 rfl ?_
    refine V_get (Cn := RX2) (T := TX2) (N := 18) C hinX2_compute_X2 0 rfl rfl 5 (by decide) hfX2_compute_25 rfl rfl dX2_compute_36 ?_
    refine V_iload_n C dX2_compute_39 rfl 2 rfl ?_
    refine V_iconst (v := 1) C dX2_compute_40 (by decide) ?_
    refine Vm_iast C 6 0 rfl rfl hp1 wM_s6 dX2_compute_41 ?_
    refine V_u (fun u41 hu41 => ?_)
    have hfm41 : fm u41 := by rw [← hu41]; exact hp2
    have hkc241 : kc2 u41 := by rw [← hu41]; exact hp3
    subst hu41
    subst hy21
    exact V_vret C rfl ((if_neg h32).trans rfl) dX2_compute_42
theorem hdX2_readsChanged : yX2_readsChanged.cls ≠ "java/lang/invoke/MethodHandle" ∧ yX2_readsChanged.cls ≠ "java/lang/invoke/VarHandle" ∧ (parseMethodDescriptor yX2_readsChanged.desc).map (fun d => d.parameters.length) = some 1 := by decide +kernel
theorem hvX2_readsChanged : yX2_readsChanged.cls = RX2 ∧ yX2_readsChanged.cls ≠ "java/lang/invoke/MethodHandle" ∧ yX2_readsChanged.cls ≠ "java/lang/invoke/VarHandle" ∧ (parseMethodDescriptor yX2_readsChanged.desc).map (fun d => d.parameters.length) = some 1 := by decide +kernel
theorem hinX2_readsChanged_X2 : ∀ w ∈ u_ws RX2 TX2 18, w ∈ wsX2_readsChanged := by decide +kernel
theorem hfX2_readsChanged_28 : Cond.fieldLink RX2 28 "MeteredSheetsModel" "changed" "[I" ∈ wsX2_readsChanged := by decide +kernel
set_option maxHeartbeats 4000000 in
theorem kX2_readsChanged {l : Launch} {D : va_G} {cI : ClassId} {ad : Nat → Nat} (u : vM) (a1 : Int32) (hp0 : vp_in a1 24) (hp1 : fm u) : mI D vwCl (tyM cI) xT (wM cI ad) l yX2_readsChanged wsX2_readsChanged rmX2_readsChanged [.ref (ad 0), .int a1] u (rX2_readsChanged u a1) u := by
  refine mI_of (cc := cX2_readsChanged) (maxL := 2) (ret := (some .boolean)) (own := RX2) rfl (by decide) rfl (wM_ok cI ad) (Nat.le_of_ble_eq_true rfl) (fun p e s m args below meth c A C => ?_)
  refine V_ls (ls' := [(0, .ref (ad 0)), (1, .int a1)]) rfl ?_
  refine V_aload_n C dX2_readsChanged_0 rfl 0 rfl ?_
  refine V_iload_n C dX2_readsChanged_1 rfl 1 rfl ?_
  refine V_cVi1 C xT_ok (kX2_one _ _ hp0) (cwV 1 C.2.2.1 gX2_readsChanged_X2_one rfl rfl rfl hvX2_one ⟨Nat.le_of_ble_eq_true rfl, Nat.le_of_ble_eq_true rfl⟩) 0 rfl rfl (Nat.le_of_ble_eq_true rfl) ⟨(Nat.le_of_ble_eq_true rfl), (Nat.le_of_ble_eq_true rfl)⟩ dX2_readsChanged_2 ?_
  refine V_iconst (v := (-1)) C dX2_readsChanged_5 (by decide) ?_
  refine V_join2 (J := 51) (T := (if (rX2_one u a1) = (-1) then (if (rX2_other u a1) = (-1) then 0 else (if (mrd u 7 (rX2_other u a1)) = 1 then 1 else 0)) else (if (mrd u 7 (rX2_one u a1)) = 1 then 1 else (if (rX2_other u a1) = (-1) then 0 else (if (mrd u 7 (rX2_other u a1)) = 1 then 1 else 0))))) (fun j51 hj51 => ?_) (fun J51 => ?_)
  ·
    subst hj51
    exact V_iret C rfl (by (repeat' split) <;> rfl) rfl rfl dX2_readsChanged_51
  ·
    refine V_icmp_eq (tgt := 23) C dX2_readsChanged_6 (by decide) (fun h6 => ?_) (fun h6 => ?_)
    ·
      refine V_aload_n C dX2_readsChanged_23 rfl 0 rfl ?_
      refine V_iload_n C dX2_readsChanged_24 rfl 1 rfl ?_
      refine V_cVi1 C xT_ok (kX2_other _ _ hp0) (cwV 1 C.2.2.1 gX2_readsChanged_X2_other rfl rfl rfl hvX2_other ⟨Nat.le_of_ble_eq_true rfl, Nat.le_of_ble_eq_true rfl⟩) 0 rfl rfl (Nat.le_of_ble_eq_true rfl) ⟨(Nat.le_of_ble_eq_true rfl), (Nat.le_of_ble_eq_true rfl)⟩ dX2_readsChanged_25 ?_
      refine V_iconst (v := (-1)) C dX2_readsChanged_28 (by decide) ?_
      refine V_icmp_eq (tgt := 50) C dX2_readsChanged_29 (by decide) (fun h29 => ?_) (fun h29 => ?_)
      ·
        refine V_iconst (v := 0) C dX2_readsChanged_50 (by decide) ?_
        exact J51 _ ((if_pos h6).trans ((if_pos h29).trans rfl))
      ·
        refine V_aload_n C dX2_readsChanged_32 rfl 0 rfl ?_
        refine V_get (Cn := RX2) (T := TX2) (N := 18) C hinX2_readsChanged_X2 0 rfl rfl 6 (by decide) hfX2_readsChanged_28 rfl rfl dX2_readsChanged_33 ?_
        refine V_aload_n C dX2_readsChanged_36 rfl 0 rfl ?_
        refine V_iload_n C dX2_readsChanged_37 rfl 1 rfl ?_
        refine V_cVi1 C xT_ok (kX2_other _ _ hp0) (cwV 1 C.2.2.1 gX2_readsChanged_X2_other rfl rfl rfl hvX2_other ⟨Nat.le_of_ble_eq_true rfl, Nat.le_of_ble_eq_true rfl⟩) 0 rfl rfl (Nat.le_of_ble_eq_true rfl) ⟨(Nat.le_of_ble_eq_true rfl), (Nat.le_of_ble_eq_true rfl)⟩ dX2_readsChanged_38 ?_
        refine Vm_iald C 7 0 rfl rfl (vq_other hp1 hp0 h29) dX2_readsChanged_41 ?_
        refine V_iconst (v := 1) C dX2_readsChanged_42 (by decide) ?_
        refine V_icmp_ne (tgt := 50) C dX2_readsChanged_43 (by decide) (fun h43 => ?_) (fun h43 => ?_)
        ·
          refine V_iconst (v := 0) C dX2_readsChanged_50 (by decide) ?_
          exact J51 _ ((if_pos h6).trans ((if_neg h29).trans ((if_neg h43).trans rfl)))
        ·
          refine V_iconst (v := 1) C dX2_readsChanged_46 (by decide) ?_
          refine V_goto (tgt := 51) C dX2_readsChanged_47 (by decide) ?_
          exact J51 _ ((if_pos h6).trans ((if_neg h29).trans ((if_pos h43).trans rfl)))
    ·
      refine V_aload_n C dX2_readsChanged_9 rfl 0 rfl ?_
      refine V_get (Cn := RX2) (T := TX2) (N := 18) C hinX2_readsChanged_X2 0 rfl rfl 6 (by decide) hfX2_readsChanged_28 rfl rfl dX2_readsChanged_10 ?_
      refine V_aload_n C dX2_readsChanged_13 rfl 0 rfl ?_
      refine V_iload_n C dX2_readsChanged_14 rfl 1 rfl ?_
      refine V_cVi1 C xT_ok (kX2_one _ _ hp0) (cwV 1 C.2.2.1 gX2_readsChanged_X2_one rfl rfl rfl hvX2_one ⟨Nat.le_of_ble_eq_true rfl, Nat.le_of_ble_eq_true rfl⟩) 0 rfl rfl (Nat.le_of_ble_eq_true rfl) ⟨(Nat.le_of_ble_eq_true rfl), (Nat.le_of_ble_eq_true rfl)⟩ dX2_readsChanged_15 ?_
      refine Vm_iald C 7 0 rfl rfl (vq_one hp1 hp0 h6) dX2_readsChanged_18 ?_
      refine V_iconst (v := 1) C dX2_readsChanged_19 (by decide) ?_
      refine V_icmp_eq (tgt := 46) C dX2_readsChanged_20 (by decide) (fun h20 => ?_) (fun h20 => ?_)
      ·
        refine V_iconst (v := 1) C dX2_readsChanged_46 (by decide) ?_
        refine V_goto (tgt := 51) C dX2_readsChanged_47 (by decide) ?_
        exact J51 _ ((if_neg h6).trans ((if_pos h20).trans rfl))
      ·
        refine V_aload_n C dX2_readsChanged_23 rfl 0 rfl ?_
        refine V_iload_n C dX2_readsChanged_24 rfl 1 rfl ?_
        refine V_cVi1 C xT_ok (kX2_other _ _ hp0) (cwV 1 C.2.2.1 gX2_readsChanged_X2_other rfl rfl rfl hvX2_other ⟨Nat.le_of_ble_eq_true rfl, Nat.le_of_ble_eq_true rfl⟩) 0 rfl rfl (Nat.le_of_ble_eq_true rfl) ⟨(Nat.le_of_ble_eq_true rfl), (Nat.le_of_ble_eq_true rfl)⟩ dX2_readsChanged_25 ?_
        refine V_iconst (v := (-1)) C dX2_readsChanged_28 (by decide) ?_
        refine V_icmp_eq (tgt := 50) C dX2_readsChanged_29 (by decide) (fun h29 => ?_) (fun h29 => ?_)
        ·
          refine V_iconst (v := 0) C dX2_readsChanged_50 (by decide) ?_
          exact J51 _ ((if_neg h6).trans ((if_neg h20).trans ((if_pos h29).trans rfl)))
        ·
          refine V_aload_n C dX2_readsChanged_32 rfl 0 rfl ?_
          refine V_get (Cn := RX2) (T := TX2) (N := 18) C hinX2_readsChanged_X2 0 rfl rfl 6 (by decide) hfX2_readsChanged_28 rfl rfl dX2_readsChanged_33 ?_
          refine V_aload_n C dX2_readsChanged_36 rfl 0 rfl ?_
          refine V_iload_n C dX2_readsChanged_37 rfl 1 rfl ?_
          refine V_cVi1 C xT_ok (kX2_other _ _ hp0) (cwV 1 C.2.2.1 gX2_readsChanged_X2_other rfl rfl rfl hvX2_other ⟨Nat.le_of_ble_eq_true rfl, Nat.le_of_ble_eq_true rfl⟩) 0 rfl rfl (Nat.le_of_ble_eq_true rfl) ⟨(Nat.le_of_ble_eq_true rfl), (Nat.le_of_ble_eq_true rfl)⟩ dX2_readsChanged_38 ?_
          refine Vm_iald C 7 0 rfl rfl (vq_other hp1 hp0 h29) dX2_readsChanged_41 ?_
          refine V_iconst (v := 1) C dX2_readsChanged_42 (by decide) ?_
          refine V_icmp_ne (tgt := 50) C dX2_readsChanged_43 (by decide) (fun h43 => ?_) (fun h43 => ?_)
          ·
            refine V_iconst (v := 0) C dX2_readsChanged_50 (by decide) ?_
            exact J51 _ ((if_neg h6).trans ((if_neg h20).trans ((if_neg h29).trans ((if_neg h43).trans rfl))))
          ·
            refine V_iconst (v := 1) C dX2_readsChanged_46 (by decide) ?_
            refine V_goto (tgt := 51) C dX2_readsChanged_47 (by decide) ?_
            exact J51 _ ((if_neg h6).trans ((if_neg h20).trans ((if_neg h29).trans ((if_pos h43).trans rfl))))
theorem hdX2_goThrough : yX2_goThrough.cls ≠ "java/lang/invoke/MethodHandle" ∧ yX2_goThrough.cls ≠ "java/lang/invoke/VarHandle" ∧ (parseMethodDescriptor yX2_goThrough.desc).map (fun d => d.parameters.length) = some 2 := by decide +kernel
theorem hvX2_goThrough : yX2_goThrough.cls = RX2 ∧ yX2_goThrough.cls ≠ "java/lang/invoke/MethodHandle" ∧ yX2_goThrough.cls ≠ "java/lang/invoke/VarHandle" ∧ (parseMethodDescriptor yX2_goThrough.desc).map (fun d => d.parameters.length) = some 2 := by decide +kernel
theorem hinX2_goThrough_X2 : ∀ w ∈ u_ws RX2 TX2 18, w ∈ wsX2_goThrough := by decide +kernel
theorem hfX2_goThrough_34 : Cond.fieldLink RX2 34 "MeteredSheetsModel" "order" "[I" ∈ wsX2_goThrough := by decide +kernel
theorem hfX2_goThrough_25 : Cond.fieldLink RX2 25 "MeteredSheetsModel" "marks" "[I" ∈ wsX2_goThrough := by decide +kernel
set_option maxHeartbeats 4000000 in
theorem qX2_goThrough_9 (C : vC p s m args meth c D vwCl (tyM cI) xT A (wM cI ad) cX2_goThrough RX2 wsX2_goThrough 6 (some .int)) {Q : State → Prop} (a1 : Int32) (a2 : Int32) (hp0 : vp_in a1 5) : ∀ (n k : Nat), k + n = 24 → ∀ (u : vM) (x3 : Int32), fm u → kc2 u → od u → (∀ r : vM × Int32, lpX2_goThrough_9 a1 a2 n k u x3 = r → fm r.1 → kc2 r.1 → od r.1 → V p l e rmX2_goThrough s m args below meth c D vwCl A (wM cI ad) 6 0 0 Q r.1 65 [(0, .ref (ad 0)), (1, .int a1), (2, .int a2), (3, .int r.2), (4, .int (nI 24))] []) → V p l e rmX2_goThrough s m args below meth c D vwCl A (wM cI ad) 6 0 0 Q u 9 [(0, .ref (ad 0)), (1, .int a1), (2, .int a2), (3, .int x3), (4, .int (nI k))] [] := by
  intro n
  induction n with
  | zero =>
    intro k hk u x3 hi0 hi1 hi2 KK
    obtain rfl : k = 24 := by omega
    refine V_iload C dX2_goThrough_9 4 rfl ?_
    refine V_bipush (v := 24) C dX2_goThrough_11 (by decide) ?_
    refine V_icmp_ge (tgt := 65) C dX2_goThrough_13 (by decide) (fun _ => ?_) (fun h => absurd (by decide : (24 : Int32) ≤ nI 24) h)
    exact KK _ rfl hi0 hi1 hi2
  | succ n ih =>
    intro k hk u x3 hi0 hi1 hi2 KK
    have hkB : k < 24 := by omega
    refine V_iload C dX2_goThrough_9 4 rfl ?_
    refine V_bipush (v := 24) C dX2_goThrough_11 (by decide) ?_
    refine V_icmp_ge (tgt := 65) C dX2_goThrough_13 (by decide) (fun h => absurd h (nI_ge hkB (by decide))) (fun _ => ?_)
    refine V_aload_n C dX2_goThrough_16 rfl 0 rfl ?_
    refine V_get (Cn := RX2) (T := TX2) (N := 18) C hinX2_goThrough_X2 0 rfl rfl 8 (by decide) hfX2_goThrough_34 rfl rfl dX2_goThrough_17 ?_
    refine V_iload C dX2_goThrough_20 4 rfl ?_
    refine Vm_iald C 9 0 rfl rfl (vp_in_nI hkB (by decide)) dX2_goThrough_22 ?_
    refine V_top (fun y23 hy23 => ?_)
    refine V_istore (ls' := [(0, .ref (ad 0)), (1, .int a1), (2, .int a2), (3, .int x3), (4, .int (nI k)), (5, .int y23)]) C dX2_goThrough_23 (by decide) rfl rfl ?_
    refine V_iload_n C dX2_goThrough_25 rfl 2 rfl ?_
    refine V_if_eq (tgt := 40) C dX2_goThrough_26 (by decide) (fun h26 => ?_) (fun h26 => ?_)
    ·
      refine V_aload_n C dX2_goThrough_40 rfl 0 rfl ?_
      refine V_iload C dX2_goThrough_41 5 rfl ?_
      refine V_cVi1 C xT_ok (kX2_readsChanged _ _ (by rw [← hy23]; exact (vq_od hi2 (vp_in_nI hkB (by decide)))) hi0) (cwV 1 C.2.2.1 gX2_goThrough_X2_readsChanged rfl rfl rfl hvX2_readsChanged ⟨Nat.le_of_ble_eq_true rfl, Nat.le_of_ble_eq_true rfl⟩) 0 rfl rfl (Nat.le_of_ble_eq_true rfl) ⟨(Nat.le_of_ble_eq_true rfl), (Nat.le_of_ble_eq_true rfl)⟩ dX2_goThrough_43 ?_
      refine V_if_eq (tgt := 59) C dX2_goThrough_46 (by decide) (fun h46 => ?_) (fun h46 => ?_)
      ·
        refine V_iinc (v := (nI (k + 1))) (ls' := [(0, .ref (ad 0)), (1, .int a1), (2, .int a2), (3, .int x3), (4, .int (nI (k + 1))), (5, .int y23)]) C dX2_goThrough_59 4 rfl (nI_1 k) (by decide) rfl rfl ?_
        refine V_goto (tgt := 9) C dX2_goThrough_62 (by decide) ?_
        subst hy23
        refine V_sub (ls' := _) [0, 1, 2, 3, 4] rfl ?_
        exact ih (k + 1) (by omega) _ _ hi0 hi1 hi2 (fun r hr => KK r (((if_pos h26).trans ((if_pos h46).trans rfl)).trans hr))
      ·
        refine V_aload_n C dX2_goThrough_49 rfl 0 rfl ?_
        refine V_iload_n C dX2_goThrough_50 rfl 1 rfl ?_
        refine V_iload C dX2_goThrough_51 5 rfl ?_
        refine V_cVv2 C xT_ok (kX2_compute _ _ _ hp0 (by rw [← hy23]; exact (vq_od hi2 (vp_in_nI hkB (by decide)))) hi0 hi1) (cwV 2 C.2.2.1 gX2_goThrough_X2_compute rfl rfl rfl hvX2_compute ⟨Nat.le_of_ble_eq_true rfl, Nat.le_of_ble_eq_true rfl⟩) 0 rfl rfl (Nat.le_of_ble_eq_true rfl) ⟨(Nat.le_of_ble_eq_true rfl), (Nat.le_of_ble_eq_true rfl)⟩ dX2_goThrough_53 ?_
        refine V_u (fun u53 hu53 => ?_)
        have hfm53 : fm u53 := by rw [← hu53]; exact fm_congr (fr_uX2_compute (by decide) (by decide) (by decide) (by decide) (by decide) (by decide) (by decide) (by decide) (by decide)) (fr_uX2_compute (by decide) (by decide) (by decide) (by decide) (by decide) (by decide) (by decide) (by decide) (by decide)) hi0
        have hkc253 : kc2 u53 := by rw [← hu53]; exact kc2_X2_compute hi1
        have hod53 : od u53 := by rw [← hu53]; exact od_congr (fr_uX2_compute (by decide) (by decide) (by decide) (by decide) (by decide) (by decide) (by decide) (by decide) (by decide)) hi2
        refine V_iinc (v := (x3 + 1)) (ls' := [(0, .ref (ad 0)), (1, .int a1), (2, .int a2), (3, .int (x3 + 1)), (4, .int (nI k)), (5, .int y23)]) C dX2_goThrough_56 3 rfl rfl (by decide) rfl rfl ?_
        refine V_iinc (v := (nI (k + 1))) (ls' := [(0, .ref (ad 0)), (1, .int a1), (2, .int a2), (3, .int (x3 + 1)), (4, .int (nI (k + 1))), (5, .int y23)]) C dX2_goThrough_59 4 rfl (nI_1 k) (by decide) rfl rfl ?_
        refine V_goto (tgt := 9) C dX2_goThrough_62 (by decide) ?_
        subst hu53
        subst hy23
        refine V_sub (ls' := _) [0, 1, 2, 3, 4] rfl ?_
        exact ih (k + 1) (by omega) _ _ hfm53 hkc253 hod53 (fun r hr => KK r (((if_pos h26).trans ((if_neg h46).trans rfl)).trans hr))
    ·
      refine V_aload_n C dX2_goThrough_29 rfl 0 rfl ?_
      refine V_get (Cn := RX2) (T := TX2) (N := 18) C hinX2_goThrough_X2 0 rfl rfl 5 (by decide) hfX2_goThrough_25 rfl rfl dX2_goThrough_30 ?_
      refine V_iload C dX2_goThrough_33 5 rfl ?_
      refine Vm_iald C 6 0 rfl rfl (by rw [← hy23]; exact (vq_od hi2 (vp_in_nI hkB (by decide)))) dX2_goThrough_35 ?_
      refine V_iconst (v := 1) C dX2_goThrough_36 (by decide) ?_
      refine V_icmp_eq (tgt := 49) C dX2_goThrough_37 (by decide) (fun h37 => ?_) (fun h37 => ?_)
      ·
        refine V_aload_n C dX2_goThrough_49 rfl 0 rfl ?_
        refine V_iload_n C dX2_goThrough_50 rfl 1 rfl ?_
        refine V_iload C dX2_goThrough_51 5 rfl ?_
        refine V_cVv2 C xT_ok (kX2_compute _ _ _ hp0 (by rw [← hy23]; exact (vq_od hi2 (vp_in_nI hkB (by decide)))) hi0 hi1) (cwV 2 C.2.2.1 gX2_goThrough_X2_compute rfl rfl rfl hvX2_compute ⟨Nat.le_of_ble_eq_true rfl, Nat.le_of_ble_eq_true rfl⟩) 0 rfl rfl (Nat.le_of_ble_eq_true rfl) ⟨(Nat.le_of_ble_eq_true rfl), (Nat.le_of_ble_eq_true rfl)⟩ dX2_goThrough_53 ?_
        refine V_u (fun u53 hu53 => ?_)
        have hfm53 : fm u53 := by rw [← hu53]; exact fm_congr (fr_uX2_compute (by decide) (by decide) (by decide) (by decide) (by decide) (by decide) (by decide) (by decide) (by decide)) (fr_uX2_compute (by decide) (by decide) (by decide) (by decide) (by decide) (by decide) (by decide) (by decide) (by decide)) hi0
        have hkc253 : kc2 u53 := by rw [← hu53]; exact kc2_X2_compute hi1
        have hod53 : od u53 := by rw [← hu53]; exact od_congr (fr_uX2_compute (by decide) (by decide) (by decide) (by decide) (by decide) (by decide) (by decide) (by decide) (by decide)) hi2
        refine V_iinc (v := (x3 + 1)) (ls' := [(0, .ref (ad 0)), (1, .int a1), (2, .int a2), (3, .int (x3 + 1)), (4, .int (nI k)), (5, .int y23)]) C dX2_goThrough_56 3 rfl rfl (by decide) rfl rfl ?_
        refine V_iinc (v := (nI (k + 1))) (ls' := [(0, .ref (ad 0)), (1, .int a1), (2, .int a2), (3, .int (x3 + 1)), (4, .int (nI (k + 1))), (5, .int y23)]) C dX2_goThrough_59 4 rfl (nI_1 k) (by decide) rfl rfl ?_
        refine V_goto (tgt := 9) C dX2_goThrough_62 (by decide) ?_
        subst hu53
        subst hy23
        refine V_sub (ls' := _) [0, 1, 2, 3, 4] rfl ?_
        exact ih (k + 1) (by omega) _ _ hfm53 hkc253 hod53 (fun r hr => KK r (((if_neg h26).trans ((if_pos h37).trans rfl)).trans hr))
      ·
        refine V_aload_n C dX2_goThrough_40 rfl 0 rfl ?_
        refine V_iload C dX2_goThrough_41 5 rfl ?_
        refine V_cVi1 C xT_ok (kX2_readsChanged _ _ (by rw [← hy23]; exact (vq_od hi2 (vp_in_nI hkB (by decide)))) hi0) (cwV 1 C.2.2.1 gX2_goThrough_X2_readsChanged rfl rfl rfl hvX2_readsChanged ⟨Nat.le_of_ble_eq_true rfl, Nat.le_of_ble_eq_true rfl⟩) 0 rfl rfl (Nat.le_of_ble_eq_true rfl) ⟨(Nat.le_of_ble_eq_true rfl), (Nat.le_of_ble_eq_true rfl)⟩ dX2_goThrough_43 ?_
        refine V_if_eq (tgt := 59) C dX2_goThrough_46 (by decide) (fun h46 => ?_) (fun h46 => ?_)
        ·
          refine V_iinc (v := (nI (k + 1))) (ls' := [(0, .ref (ad 0)), (1, .int a1), (2, .int a2), (3, .int x3), (4, .int (nI (k + 1))), (5, .int y23)]) C dX2_goThrough_59 4 rfl (nI_1 k) (by decide) rfl rfl ?_
          refine V_goto (tgt := 9) C dX2_goThrough_62 (by decide) ?_
          subst hy23
          refine V_sub (ls' := _) [0, 1, 2, 3, 4] rfl ?_
          exact ih (k + 1) (by omega) _ _ hi0 hi1 hi2 (fun r hr => KK r (((if_neg h26).trans ((if_neg h37).trans ((if_pos h46).trans rfl))).trans hr))
        ·
          refine V_aload_n C dX2_goThrough_49 rfl 0 rfl ?_
          refine V_iload_n C dX2_goThrough_50 rfl 1 rfl ?_
          refine V_iload C dX2_goThrough_51 5 rfl ?_
          refine V_cVv2 C xT_ok (kX2_compute _ _ _ hp0 (by rw [← hy23]; exact (vq_od hi2 (vp_in_nI hkB (by decide)))) hi0 hi1) (cwV 2 C.2.2.1 gX2_goThrough_X2_compute rfl rfl rfl hvX2_compute ⟨Nat.le_of_ble_eq_true rfl, Nat.le_of_ble_eq_true rfl⟩) 0 rfl rfl (Nat.le_of_ble_eq_true rfl) ⟨(Nat.le_of_ble_eq_true rfl), (Nat.le_of_ble_eq_true rfl)⟩ dX2_goThrough_53 ?_
          refine V_u (fun u53 hu53 => ?_)
          have hfm53 : fm u53 := by rw [← hu53]; exact fm_congr (fr_uX2_compute (by decide) (by decide) (by decide) (by decide) (by decide) (by decide) (by decide) (by decide) (by decide)) (fr_uX2_compute (by decide) (by decide) (by decide) (by decide) (by decide) (by decide) (by decide) (by decide) (by decide)) hi0
          have hkc253 : kc2 u53 := by rw [← hu53]; exact kc2_X2_compute hi1
          have hod53 : od u53 := by rw [← hu53]; exact od_congr (fr_uX2_compute (by decide) (by decide) (by decide) (by decide) (by decide) (by decide) (by decide) (by decide) (by decide)) hi2
          refine V_iinc (v := (x3 + 1)) (ls' := [(0, .ref (ad 0)), (1, .int a1), (2, .int a2), (3, .int (x3 + 1)), (4, .int (nI k)), (5, .int y23)]) C dX2_goThrough_56 3 rfl rfl (by decide) rfl rfl ?_
          refine V_iinc (v := (nI (k + 1))) (ls' := [(0, .ref (ad 0)), (1, .int a1), (2, .int a2), (3, .int (x3 + 1)), (4, .int (nI (k + 1))), (5, .int y23)]) C dX2_goThrough_59 4 rfl (nI_1 k) (by decide) rfl rfl ?_
          refine V_goto (tgt := 9) C dX2_goThrough_62 (by decide) ?_
          subst hu53
          subst hy23
          refine V_sub (ls' := _) [0, 1, 2, 3, 4] rfl ?_
          exact ih (k + 1) (by omega) _ _ hfm53 hkc253 hod53 (fun r hr => KK r (((if_neg h26).trans ((if_neg h37).trans ((if_neg h46).trans rfl))).trans hr))
set_option maxHeartbeats 4000000 in
theorem kX2_goThrough {l : Launch} {D : va_G} {cI : ClassId} {ad : Nat → Nat} (u : vM) (a1 : Int32) (a2 : Int32) (hp0 : vp_in a1 5) (hp1 : fm u) (hp2 : kc2 u) (hp3 : ly u) : mI D vwCl (tyM cI) xT (wM cI ad) l yX2_goThrough wsX2_goThrough rmX2_goThrough [.ref (ad 0), .int a1, .int a2] u (rX2_goThrough u a1 a2) (uX2_goThrough u a1 a2) := by
  refine mI_of (cc := cX2_goThrough) (maxL := 6) (ret := (some .int)) (own := RX2) rfl (by decide) rfl (wM_ok cI ad) (Nat.le_of_ble_eq_true rfl) (fun p e s m args below meth c A C => ?_)
  refine V_ls (ls' := [(0, .ref (ad 0)), (1, .int a1), (2, .int a2)]) rfl ?_
  refine V_aload_n C dX2_goThrough_0 rfl 0 rfl ?_
  refine V_cVv0 C xT_ok (kX2_layOrder _ hp1 hp3) (cwV 0 C.2.2.1 gX2_goThrough_X2_layOrder rfl rfl rfl hvX2_layOrder ⟨Nat.le_of_ble_eq_true rfl, Nat.le_of_ble_eq_true rfl⟩) 0 rfl rfl (Nat.le_of_ble_eq_true rfl) ⟨(Nat.le_of_ble_eq_true rfl), (Nat.le_of_ble_eq_true rfl)⟩ dX2_goThrough_1 ?_
  refine V_u (fun u1 hu1 => ?_)
  have hfm1 : fm u1 := by rw [← hu1]; exact fm_congr (fr_uX2_layOrder (by decide) (by decide)) (fr_uX2_layOrder (by decide) (by decide)) hp1
  have hkc21 : kc2 u1 := by rw [← hu1]; exact kc2_congr (fr_uX2_layOrder (by decide) (by decide)) hp2
  have hly1 : ly u1 := by rw [← hu1]; exact ly_congr (fr_uX2_layOrder (by decide) (by decide)) (fr_uX2_layOrder (by decide) (by decide)) (fr_uX2_layOrder (by decide) (by decide)) hp3
  have hod1 : od u1 := by rw [← hu1]; exact od_X2_layOrder hp1 hp3
  refine V_iconst (v := 0) C dX2_goThrough_4 (by decide) ?_
  refine V_istore_n (ls' := [(0, .ref (ad 0)), (1, .int a1), (2, .int a2), (3, .int 0)]) C dX2_goThrough_5 rfl (by decide) rfl rfl ?_
  refine V_iconst (v := 0) C dX2_goThrough_6 (by decide) ?_
  refine V_istore (ls' := [(0, .ref (ad 0)), (1, .int a1), (2, .int a2), (3, .int 0), (4, .int 0)]) C dX2_goThrough_7 (by decide) rfl rfl ?_
  refine V_sub (ls' := [(0, .ref (ad 0)), (1, .int a1), (2, .int a2), (3, .int 0), (4, .int 0)]) [0, 1, 2, 3, 4] rfl ?_
  refine qX2_goThrough_9 C a1 a2 hp0 24 0 (by decide) u1 0 hfm1 hkc21 hod1 (fun r9 hr9 hi0_9 hi1_9 hi2_9 => ?_)
  have hly9 : ly r9.1 := by rw [← hr9]; exact ly_congr (fr_lpX2_goThrough_9 (by decide) (by decide) (by decide) (by decide) (by decide) (by decide) (by decide) (by decide) (by decide)) (fr_lpX2_goThrough_9 (by decide) (by decide) (by decide) (by decide) (by decide) (by decide) (by decide) (by decide) (by decide)) (fr_lpX2_goThrough_9 (by decide) (by decide) (by decide) (by decide) (by decide) (by decide) (by decide) (by decide) (by decide)) hly1
  refine V_iload_n C dX2_goThrough_65 rfl 3 rfl ?_
  subst hr9
  subst hu1
  exact V_iret C rfl (vp_nar_int _) rfl rfl dX2_goThrough_66
theorem hdX2_reaches : yX2_reaches.cls ≠ "java/lang/invoke/MethodHandle" ∧ yX2_reaches.cls ≠ "java/lang/invoke/VarHandle" ∧ (parseMethodDescriptor yX2_reaches.desc).map (fun d => d.parameters.length) = some 2 := by decide +kernel
theorem hvX2_reaches : yX2_reaches.cls = RX2 ∧ yX2_reaches.cls ≠ "java/lang/invoke/MethodHandle" ∧ yX2_reaches.cls ≠ "java/lang/invoke/VarHandle" ∧ (parseMethodDescriptor yX2_reaches.desc).map (fun d => d.parameters.length) = some 2 := by decide +kernel
theorem hinX2_reaches_X2 : ∀ w ∈ u_ws RX2 TX2 18, w ∈ wsX2_reaches := by decide +kernel
theorem hfX2_reaches_37 : Cond.fieldLink RX2 37 "MeteredSheetsModel" "stands" "[I" ∈ wsX2_reaches := by decide +kernel
set_option maxHeartbeats 4000000 in
theorem qX2_reaches_2 (C : vC p s m args meth c D vwCl (tyM cI) xT A (wM cI ad) cX2_reaches RX2 wsX2_reaches 5 (some .boolean)) {Q : State → Prop} (a1 : Int32) (a2 : Int32) : ∀ (n k : Nat), k + n = 24 → ∀ (u : vM), (∀ r : vM, lpX2_reaches_2 a1 n k u = r → V p l e rmX2_reaches s m args below meth c D vwCl A (wM cI ad) 5 0 0 Q r 30 [(0, .ref (ad 0)), (1, .int a1), (2, .int a2), (3, .int (nI 24))] []) → V p l e rmX2_reaches s m args below meth c D vwCl A (wM cI ad) 5 0 0 Q u 2 [(0, .ref (ad 0)), (1, .int a1), (2, .int a2), (3, .int (nI k))] [] := by
  intro n
  induction n with
  | zero =>
    intro k hk u KK
    obtain rfl : k = 24 := by omega
    refine V_iload_n C dX2_reaches_2 rfl 3 rfl ?_
    refine V_bipush (v := 24) C dX2_reaches_3 (by decide) ?_
    refine V_icmp_ge (tgt := 30) C dX2_reaches_5 (by decide) (fun _ => ?_) (fun h => absurd (by decide : (24 : Int32) ≤ nI 24) h)
    exact KK _ rfl
  | succ n ih =>
    intro k hk u KK
    have hkB : k < 24 := by omega
    refine V_iload_n C dX2_reaches_2 rfl 3 rfl ?_
    refine V_bipush (v := 24) C dX2_reaches_3 (by decide) ?_
    refine V_icmp_ge (tgt := 30) C dX2_reaches_5 (by decide) (fun h => absurd h (nI_ge hkB (by decide))) (fun _ => ?_)
    refine V_aload_n C dX2_reaches_8 rfl 0 rfl ?_
    refine V_get (Cn := RX2) (T := TX2) (N := 18) C hinX2_reaches_X2 0 rfl rfl 9 (by decide) hfX2_reaches_37 rfl rfl dX2_reaches_9 ?_
    refine V_iload_n C dX2_reaches_12 rfl 3 rfl ?_
    refine V_iload_n C dX2_reaches_13 rfl 3 rfl ?_
    refine V_iload_n C dX2_reaches_14 rfl 1 rfl ?_
    refine V_join2 (J := 23) (T := (if (nI k) = a1 then 1 else 0)) (fun j23 hj23 => ?_) (fun J23 => ?_)
    ·
      refine Vm_iast C 10 0 rfl rfl (vp_in_nI hkB (by decide)) wM_s10 dX2_reaches_23 ?_
      refine V_u (fun u23 hu23 => ?_)
      refine V_iinc (v := (nI (k + 1))) (ls' := [(0, .ref (ad 0)), (1, .int a1), (2, .int a2), (3, .int (nI (k + 1)))]) C dX2_reaches_24 3 rfl (nI_1 k) (by decide) rfl rfl ?_
      refine V_goto (tgt := 2) C dX2_reaches_27 (by decide) ?_
      subst hu23
      subst hj23
      exact ih (k + 1) (by omega) _ (fun r hr => KK r (rfl.trans hr))
    ·
      refine V_icmp_ne (tgt := 22) C dX2_reaches_15 (by decide) (fun h15 => ?_) (fun h15 => ?_)
      ·
        refine V_iconst (v := 0) C dX2_reaches_22 (by decide) ?_
        exact J23 _ ((if_neg h15).trans rfl)
      ·
        refine V_iconst (v := 1) C dX2_reaches_18 (by decide) ?_
        refine V_goto (tgt := 23) C dX2_reaches_19 (by decide) ?_
        exact J23 _ ((if_pos h15).trans rfl)
set_option maxHeartbeats 4000000 in
theorem qX2_reaches_41 (C : vC p s m args meth c D vwCl (tyM cI) xT A (wM cI ad) cX2_reaches RX2 wsX2_reaches 5 (some .boolean)) {Q : State → Prop} (a2 : Int32) (a3 : Int32) : ∀ (n k : Nat), k + n = 24 → ∀ (u : vM), fm u → (∀ r : vM, lpX2_reaches_41 n k u = r → fm r → V p l e rmX2_reaches s m args below meth c D vwCl A (wM cI ad) 5 0 0 Q r 109 [(0, .ref (ad 0)), (2, .int a2), (3, .int a3), (4, .int (nI 24))] []) → V p l e rmX2_reaches s m args below meth c D vwCl A (wM cI ad) 5 0 0 Q u 41 [(0, .ref (ad 0)), (2, .int a2), (3, .int a3), (4, .int (nI k))] [] := by
  intro n
  induction n with
  | zero =>
    intro k hk u hi0 KK
    obtain rfl : k = 24 := by omega
    refine V_iload C dX2_reaches_41 3 rfl ?_
    refine V_bipush (v := 24) C dX2_reaches_43 (by decide) ?_
    refine V_icmp_ge (tgt := 109) C dX2_reaches_45 (by decide) (fun _ => ?_) (fun h => absurd (by decide : (24 : Int32) ≤ nI 24) h)
    exact KK _ rfl hi0
  | succ n ih =>
    intro k hk u hi0 KK
    have hkB : k < 24 := by omega
    refine V_iload C dX2_reaches_41 3 rfl ?_
    refine V_bipush (v := 24) C dX2_reaches_43 (by decide) ?_
    refine V_icmp_ge (tgt := 109) C dX2_reaches_45 (by decide) (fun h => absurd h (nI_ge hkB (by decide))) (fun _ => ?_)
    refine V_aload_n C dX2_reaches_48 rfl 0 rfl ?_
    refine V_get (Cn := RX2) (T := TX2) (N := 18) C hinX2_reaches_X2 0 rfl rfl 9 (by decide) hfX2_reaches_37 rfl rfl dX2_reaches_49 ?_
    refine V_iload C dX2_reaches_52 3 rfl ?_
    refine Vm_iald C 10 0 rfl rfl (vp_in_nI hkB (by decide)) dX2_reaches_54 ?_
    refine V_iconst (v := 1) C dX2_reaches_55 (by decide) ?_
    refine V_icmp_ne (tgt := 103) C dX2_reaches_56 (by decide) (fun h56 => ?_) (fun h56 => ?_)
    ·
      refine V_iinc (v := (nI (k + 1))) (ls' := [(0, .ref (ad 0)), (2, .int a2), (3, .int a3), (4, .int (nI (k + 1)))]) C dX2_reaches_103 3 rfl (nI_1 k) (by decide) rfl rfl ?_
      refine V_goto (tgt := 41) C dX2_reaches_106 (by decide) ?_
      exact ih (k + 1) (by omega) _ hi0 (fun r hr => KK r (((if_neg h56).trans rfl).trans hr))
    ·
      refine V_aload_n C dX2_reaches_59 rfl 0 rfl ?_
      refine V_iload C dX2_reaches_60 3 rfl ?_
      refine V_cVi1 C xT_ok (kX2_one _ _ (vp_in_nI hkB (by decide))) (cwV 1 C.2.2.1 gX2_reaches_X2_one rfl rfl rfl hvX2_one ⟨Nat.le_of_ble_eq_true rfl, Nat.le_of_ble_eq_true rfl⟩) 0 rfl rfl (Nat.le_of_ble_eq_true rfl) ⟨(Nat.le_of_ble_eq_true rfl), (Nat.le_of_ble_eq_true rfl)⟩ dX2_reaches_62 ?_
      refine V_iconst (v := (-1)) C dX2_reaches_65 (by decide) ?_
      refine V_icmp_eq (tgt := 81) C dX2_reaches_66 (by decide) (fun h66 => ?_) (fun h66 => ?_)
      ·
        refine V_aload_n C dX2_reaches_81 rfl 0 rfl ?_
        refine V_iload C dX2_reaches_82 3 rfl ?_
        refine V_cVi1 C xT_ok (kX2_other _ _ (vp_in_nI hkB (by decide))) (cwV 1 C.2.2.1 gX2_reaches_X2_other rfl rfl rfl hvX2_other ⟨Nat.le_of_ble_eq_true rfl, Nat.le_of_ble_eq_true rfl⟩) 0 rfl rfl (Nat.le_of_ble_eq_true rfl) ⟨(Nat.le_of_ble_eq_true rfl), (Nat.le_of_ble_eq_true rfl)⟩ dX2_reaches_84 ?_
        refine V_iconst (v := (-1)) C dX2_reaches_87 (by decide) ?_
        refine V_icmp_eq (tgt := 103) C dX2_reaches_88 (by decide) (fun h88 => ?_) (fun h88 => ?_)
        ·
          refine V_iinc (v := (nI (k + 1))) (ls' := [(0, .ref (ad 0)), (2, .int a2), (3, .int a3), (4, .int (nI (k + 1)))]) C dX2_reaches_103 3 rfl (nI_1 k) (by decide) rfl rfl ?_
          refine V_goto (tgt := 41) C dX2_reaches_106 (by decide) ?_
          exact ih (k + 1) (by omega) _ hi0 (fun r hr => KK r (((if_pos h56).trans ((if_pos h66).trans ((if_pos h88).trans rfl))).trans hr))
        ·
          refine V_aload_n C dX2_reaches_91 rfl 0 rfl ?_
          refine V_get (Cn := RX2) (T := TX2) (N := 18) C hinX2_reaches_X2 0 rfl rfl 9 (by decide) hfX2_reaches_37 rfl rfl dX2_reaches_92 ?_
          refine V_aload_n C dX2_reaches_95 rfl 0 rfl ?_
          refine V_iload C dX2_reaches_96 3 rfl ?_
          refine V_cVi1 C xT_ok (kX2_other _ _ (vp_in_nI hkB (by decide))) (cwV 1 C.2.2.1 gX2_reaches_X2_other rfl rfl rfl hvX2_other ⟨Nat.le_of_ble_eq_true rfl, Nat.le_of_ble_eq_true rfl⟩) 0 rfl rfl (Nat.le_of_ble_eq_true rfl) ⟨(Nat.le_of_ble_eq_true rfl), (Nat.le_of_ble_eq_true rfl)⟩ dX2_reaches_98 ?_
          refine V_iconst (v := 1) C dX2_reaches_101 (by decide) ?_
          refine Vm_iast C 10 0 rfl rfl (vq_other hi0 (vp_in_nI hkB (by decide)) h88) wM_s10 dX2_reaches_102 ?_
          refine V_u (fun u102 hu102 => ?_)
          have hfm102 : fm u102 := by rw [← hu102]; exact hi0
          refine V_iinc (v := (nI (k + 1))) (ls' := [(0, .ref (ad 0)), (2, .int a2), (3, .int a3), (4, .int (nI (k + 1)))]) C dX2_reaches_103 3 rfl (nI_1 k) (by decide) rfl rfl ?_
          refine V_goto (tgt := 41) C dX2_reaches_106 (by decide) ?_
          subst hu102
          exact ih (k + 1) (by omega) _ hfm102 (fun r hr => KK r (((if_pos h56).trans ((if_pos h66).trans ((if_neg h88).trans rfl))).trans hr))
      ·
        refine V_aload_n C dX2_reaches_69 rfl 0 rfl ?_
        refine V_get (Cn := RX2) (T := TX2) (N := 18) C hinX2_reaches_X2 0 rfl rfl 9 (by decide) hfX2_reaches_37 rfl rfl dX2_reaches_70 ?_
        refine V_aload_n C dX2_reaches_73 rfl 0 rfl ?_
        refine V_iload C dX2_reaches_74 3 rfl ?_
        refine V_cVi1 C xT_ok (kX2_one _ _ (vp_in_nI hkB (by decide))) (cwV 1 C.2.2.1 gX2_reaches_X2_one rfl rfl rfl hvX2_one ⟨Nat.le_of_ble_eq_true rfl, Nat.le_of_ble_eq_true rfl⟩) 0 rfl rfl (Nat.le_of_ble_eq_true rfl) ⟨(Nat.le_of_ble_eq_true rfl), (Nat.le_of_ble_eq_true rfl)⟩ dX2_reaches_76 ?_
        refine V_iconst (v := 1) C dX2_reaches_79 (by decide) ?_
        refine Vm_iast C 10 0 rfl rfl (vq_one hi0 (vp_in_nI hkB (by decide)) h66) wM_s10 dX2_reaches_80 ?_
        refine V_u (fun u80 hu80 => ?_)
        have hfm80 : fm u80 := by rw [← hu80]; exact hi0
        refine V_aload_n C dX2_reaches_81 rfl 0 rfl ?_
        refine V_iload C dX2_reaches_82 3 rfl ?_
        refine V_cVi1 C xT_ok (kX2_other _ _ (vp_in_nI hkB (by decide))) (cwV 1 C.2.2.1 gX2_reaches_X2_other rfl rfl rfl hvX2_other ⟨Nat.le_of_ble_eq_true rfl, Nat.le_of_ble_eq_true rfl⟩) 0 rfl rfl (Nat.le_of_ble_eq_true rfl) ⟨(Nat.le_of_ble_eq_true rfl), (Nat.le_of_ble_eq_true rfl)⟩ dX2_reaches_84 ?_
        refine V_iconst (v := (-1)) C dX2_reaches_87 (by decide) ?_
        refine V_icmp_eq (tgt := 103) C dX2_reaches_88 (by decide) (fun h88 => ?_) (fun h88 => ?_)
        ·
          refine V_iinc (v := (nI (k + 1))) (ls' := [(0, .ref (ad 0)), (2, .int a2), (3, .int a3), (4, .int (nI (k + 1)))]) C dX2_reaches_103 3 rfl (nI_1 k) (by decide) rfl rfl ?_
          refine V_goto (tgt := 41) C dX2_reaches_106 (by decide) ?_
          subst hu80
          exact ih (k + 1) (by omega) _ hfm80 (fun r hr => KK r (((if_pos h56).trans ((if_neg h66).trans ((if_pos h88).trans rfl))).trans hr))
        ·
          refine V_aload_n C dX2_reaches_91 rfl 0 rfl ?_
          refine V_get (Cn := RX2) (T := TX2) (N := 18) C hinX2_reaches_X2 0 rfl rfl 9 (by decide) hfX2_reaches_37 rfl rfl dX2_reaches_92 ?_
          refine V_aload_n C dX2_reaches_95 rfl 0 rfl ?_
          refine V_iload C dX2_reaches_96 3 rfl ?_
          refine V_cVi1 C xT_ok (kX2_other _ _ (vp_in_nI hkB (by decide))) (cwV 1 C.2.2.1 gX2_reaches_X2_other rfl rfl rfl hvX2_other ⟨Nat.le_of_ble_eq_true rfl, Nat.le_of_ble_eq_true rfl⟩) 0 rfl rfl (Nat.le_of_ble_eq_true rfl) ⟨(Nat.le_of_ble_eq_true rfl), (Nat.le_of_ble_eq_true rfl)⟩ dX2_reaches_98 ?_
          refine V_iconst (v := 1) C dX2_reaches_101 (by decide) ?_
          refine Vm_iast C 10 0 rfl rfl (vq_other hfm80 (vp_in_nI hkB (by decide)) h88) wM_s10 dX2_reaches_102 ?_
          refine V_u (fun u102 hu102 => ?_)
          have hfm102 : fm u102 := by rw [← hu102]; exact hfm80
          refine V_iinc (v := (nI (k + 1))) (ls' := [(0, .ref (ad 0)), (2, .int a2), (3, .int a3), (4, .int (nI (k + 1)))]) C dX2_reaches_103 3 rfl (nI_1 k) (by decide) rfl rfl ?_
          refine V_goto (tgt := 41) C dX2_reaches_106 (by decide) ?_
          subst hu102
          subst hu80
          exact ih (k + 1) (by omega) _ hfm102 (fun r hr => KK r (((if_pos h56).trans ((if_neg h66).trans ((if_neg h88).trans rfl))).trans hr))
set_option maxHeartbeats 4000000 in
theorem qX2_reaches_32 (C : vC p s m args meth c D vwCl (tyM cI) xT A (wM cI ad) cX2_reaches RX2 wsX2_reaches 5 (some .boolean)) {Q : State → Prop} (a2 : Int32) : ∀ (n k : Nat), k + n = 24 → ∀ (u : vM), fm u → (∀ r : vM, lpX2_reaches_32 n k u = r → fm r → V p l e rmX2_reaches s m args below meth c D vwCl A (wM cI ad) 5 0 0 Q r 115 [(0, .ref (ad 0)), (2, .int a2), (3, .int (nI 24))] []) → V p l e rmX2_reaches s m args below meth c D vwCl A (wM cI ad) 5 0 0 Q u 32 [(0, .ref (ad 0)), (2, .int a2), (3, .int (nI k))] [] := by
  intro n
  induction n with
  | zero =>
    intro k hk u hi0 KK
    obtain rfl : k = 24 := by omega
    refine V_iload_n C dX2_reaches_32 rfl 2 rfl ?_
    refine V_bipush (v := 24) C dX2_reaches_33 (by decide) ?_
    refine V_icmp_ge (tgt := 115) C dX2_reaches_35 (by decide) (fun _ => ?_) (fun h => absurd (by decide : (24 : Int32) ≤ nI 24) h)
    exact KK _ rfl hi0
  | succ n ih =>
    intro k hk u hi0 KK
    have hkB : k < 24 := by omega
    refine V_iload_n C dX2_reaches_32 rfl 2 rfl ?_
    refine V_bipush (v := 24) C dX2_reaches_33 (by decide) ?_
    refine V_icmp_ge (tgt := 115) C dX2_reaches_35 (by decide) (fun h => absurd h (nI_ge hkB (by decide))) (fun _ => ?_)
    refine V_iconst (v := 0) C dX2_reaches_38 (by decide) ?_
    refine V_istore (ls' := [(0, .ref (ad 0)), (2, .int a2), (3, .int (nI k)), (4, .int 0)]) C dX2_reaches_39 (by decide) rfl rfl ?_
    refine V_sub (ls' := [(0, .ref (ad 0)), (2, .int a2), (3, .int (nI k)), (4, .int 0)]) [0, 1, 2, 3] rfl ?_
    refine qX2_reaches_41 C a2 (nI k) 24 0 (by decide) u hi0 (fun r41 hr41 hi0_41 => ?_)
    refine V_iinc (v := (nI (k + 1))) (ls' := [(0, .ref (ad 0)), (2, .int a2), (3, .int (nI (k + 1))), (4, .int (nI 24))]) C dX2_reaches_109 2 rfl (nI_1 k) (by decide) rfl rfl ?_
    refine V_goto (tgt := 32) C dX2_reaches_112 (by decide) ?_
    subst hr41
    refine V_sub (ls' := _) [0, 1, 2] rfl ?_
    exact ih (k + 1) (by omega) _ hi0_41 (fun r hr => KK r (rfl.trans hr))
set_option maxHeartbeats 4000000 in
theorem kX2_reaches {l : Launch} {D : va_G} {cI : ClassId} {ad : Nat → Nat} (u : vM) (a1 : Int32) (a2 : Int32) (hp0 : vp_in a1 24) (hp1 : vp_in a2 24) (hp2 : fm u) : mI D vwCl (tyM cI) xT (wM cI ad) l yX2_reaches wsX2_reaches rmX2_reaches [.ref (ad 0), .int a1, .int a2] u (rX2_reaches u a1 a2) (uX2_reaches u a1 a2) := by
  refine mI_of (cc := cX2_reaches) (maxL := 5) (ret := (some .boolean)) (own := RX2) rfl (by decide) rfl (wM_ok cI ad) (Nat.le_of_ble_eq_true rfl) (fun p e s m args below meth c A C => ?_)
  refine V_ls (ls' := [(0, .ref (ad 0)), (1, .int a1), (2, .int a2)]) rfl ?_
  refine V_iconst (v := 0) C dX2_reaches_0 (by decide) ?_
  refine V_istore_n (ls' := [(0, .ref (ad 0)), (1, .int a1), (2, .int a2), (3, .int 0)]) C dX2_reaches_1 rfl (by decide) rfl rfl ?_
  refine V_sub (ls' := [(0, .ref (ad 0)), (1, .int a1), (2, .int a2), (3, .int 0)]) [0, 1, 2, 3] rfl ?_
  refine qX2_reaches_2 C a1 a2 24 0 (by decide) u (fun r2 hr2 => ?_)
  have hfm2 : fm r2 := by rw [← hr2]; exact fm_congr (fr_lpX2_reaches_2 (by decide)) (fr_lpX2_reaches_2 (by decide)) hp2
  refine V_iconst (v := 0) C dX2_reaches_30 (by decide) ?_
  refine V_istore_n (ls' := [(0, .ref (ad 0)), (1, .int a1), (2, .int a2), (3, .int 0)]) C dX2_reaches_31 rfl (by decide) rfl rfl ?_
  refine V_sub (ls' := [(0, .ref (ad 0)), (2, .int a2), (3, .int 0)]) [0, 2, 3] rfl ?_
  refine qX2_reaches_32 C a2 24 0 (by decide) r2 hfm2 (fun r32 hr32 hi0_32 => ?_)
  refine V_aload_n C dX2_reaches_115 rfl 0 rfl ?_
  refine V_get (Cn := RX2) (T := TX2) (N := 18) C hinX2_reaches_X2 0 rfl rfl 9 (by decide) hfX2_reaches_37 rfl rfl dX2_reaches_116 ?_
  refine V_iload_n C dX2_reaches_119 rfl 1 rfl ?_
  refine Vm_iald C 10 0 rfl rfl hp1 dX2_reaches_120 ?_
  refine V_iconst (v := 1) C dX2_reaches_121 (by decide) ?_
  refine V_join2 (J := 130) (T := (if (mrd r32 10 a2) = 1 then 1 else 0)) (fun j130 hj130 => ?_) (fun J130 => ?_)
  ·
    subst hj130
    subst hr32
    subst hr2
    exact V_iret C rfl (by (repeat' split) <;> rfl) rfl rfl dX2_reaches_130
  ·
    refine V_icmp_ne (tgt := 129) C dX2_reaches_122 (by decide) (fun h122 => ?_) (fun h122 => ?_)
    ·
      refine V_iconst (v := 0) C dX2_reaches_129 (by decide) ?_
      exact J130 _ ((if_neg h122).trans rfl)
    ·
      refine V_iconst (v := 1) C dX2_reaches_125 (by decide) ?_
      refine V_goto (tgt := 130) C dX2_reaches_126 (by decide) ?_
      exact J130 _ ((if_pos h122).trans rfl)
theorem hdX2_change : yX2_change.cls ≠ "java/lang/invoke/MethodHandle" ∧ yX2_change.cls ≠ "java/lang/invoke/VarHandle" ∧ (parseMethodDescriptor yX2_change.desc).map (fun d => d.parameters.length) = some 6 := by decide +kernel
theorem hvX2_change : yX2_change.cls = RX2 ∧ yX2_change.cls ≠ "java/lang/invoke/MethodHandle" ∧ yX2_change.cls ≠ "java/lang/invoke/VarHandle" ∧ (parseMethodDescriptor yX2_change.desc).map (fun d => d.parameters.length) = some 6 := by decide +kernel
theorem hinX2_change_X2 : ∀ w ∈ u_ws RX2 TX2 18, w ∈ wsX2_change := by decide +kernel
theorem hfX2_change_7 : Cond.fieldLink RX2 7 "MeteredSheetsModel" "kinds" "[I" ∈ wsX2_change := by decide +kernel
theorem hfX2_change_13 : Cond.fieldLink RX2 13 "MeteredSheetsModel" "ones" "[I" ∈ wsX2_change := by decide +kernel
theorem hfX2_change_16 : Cond.fieldLink RX2 16 "MeteredSheetsModel" "others" "[I" ∈ wsX2_change := by decide +kernel
theorem hfX2_change_19 : Cond.fieldLink RX2 19 "MeteredSheetsModel" "numbers" "[I" ∈ wsX2_change := by decide +kernel
theorem hfX2_change_28 : Cond.fieldLink RX2 28 "MeteredSheetsModel" "changed" "[I" ∈ wsX2_change := by decide +kernel
set_option maxHeartbeats 4000000 in
theorem qX2_change_34 (C : vC p s m args meth c D vwCl (tyM cI) xT A (wM cI ad) cX2_change RX2 wsX2_change 8 (some .int)) {Q : State → Prop} (a1 : Int32) (a2 : Int32) : ∀ (n k : Nat), k + n = 24 → ∀ (u : vM), fm u → kc2 u → ly u → (∀ r : vM, lpX2_change_34 n k u = r → fm r → kc2 r → ly r → V p l e rmX2_change s m args below meth c D vwCl A (wM cI ad) 8 0 0 Q r 55 [(0, .ref (ad 0)), (1, .int a1), (2, .int a2), (7, .int (nI 24))] []) → V p l e rmX2_change s m args below meth c D vwCl A (wM cI ad) 8 0 0 Q u 34 [(0, .ref (ad 0)), (1, .int a1), (2, .int a2), (7, .int (nI k))] [] := by
  intro n
  induction n with
  | zero =>
    intro k hk u hi0 hi1 hi2 KK
    obtain rfl : k = 24 := by omega
    refine V_iload C dX2_change_34 3 rfl ?_
    refine V_bipush (v := 24) C dX2_change_36 (by decide) ?_
    refine V_icmp_ge (tgt := 55) C dX2_change_38 (by decide) (fun _ => ?_) (fun h => absurd (by decide : (24 : Int32) ≤ nI 24) h)
    exact KK _ rfl hi0 hi1 hi2
  | succ n ih =>
    intro k hk u hi0 hi1 hi2 KK
    have hkB : k < 24 := by omega
    refine V_iload C dX2_change_34 3 rfl ?_
    refine V_bipush (v := 24) C dX2_change_36 (by decide) ?_
    refine V_icmp_ge (tgt := 55) C dX2_change_38 (by decide) (fun h => absurd h (nI_ge hkB (by decide))) (fun _ => ?_)
    refine V_aload_n C dX2_change_41 rfl 0 rfl ?_
    refine V_get (Cn := RX2) (T := TX2) (N := 18) C hinX2_change_X2 0 rfl rfl 6 (by decide) hfX2_change_28 rfl rfl dX2_change_42 ?_
    refine V_iload C dX2_change_45 3 rfl ?_
    refine V_iconst (v := 0) C dX2_change_47 (by decide) ?_
    refine Vm_iast C 7 0 rfl rfl (vp_in_nI hkB (by decide)) wM_s7 dX2_change_48 ?_
    refine V_u (fun u48 hu48 => ?_)
    have hfm48 : fm u48 := by rw [← hu48]; exact hi0
    have hkc248 : kc2 u48 := by rw [← hu48]; exact hi1
    have hly48 : ly u48 := by rw [← hu48]; exact hi2
    refine V_iinc (v := (nI (k + 1))) (ls' := [(0, .ref (ad 0)), (1, .int a1), (2, .int a2), (7, .int (nI (k + 1)))]) C dX2_change_49 3 rfl (nI_1 k) (by decide) rfl rfl ?_
    refine V_goto (tgt := 34) C dX2_change_52 (by decide) ?_
    subst hu48
    exact ih (k + 1) (by omega) _ hfm48 hkc248 hly48 (fun r hr => KK r (rfl.trans hr))
set_option maxHeartbeats 4000000 in
theorem kX2_change {l : Launch} {D : va_G} {cI : ClassId} {ad : Nat → Nat} (u : vM) (a1 : Int32) (a2 : Int32) (a3 : Int32) (a4 : Int32) (a5 : Int32) (a6 : Int32) (hp0 : vp_in a1 5) (hp1 : vp_in a2 24) (hp2 : vp_in a4 24) (hp3 : vp_in a5 24) (hp4 : fm u) (hp5 : kc2 u) (hp6 : ly (chg u a2 a3 a4 a5 a6)) : mI D vwCl (tyM cI) xT (wM cI ad) l yX2_change wsX2_change rmX2_change [.ref (ad 0), .int a1, .int a2, .int a3, .int a4, .int a5, .int a6] u (rX2_change u a1 a2 a3 a4 a5 a6) (uX2_change u a1 a2 a3 a4 a5 a6) := by
  refine mI_of (cc := cX2_change) (maxL := 8) (ret := (some .int)) (own := RX2) rfl (by decide) rfl (wM_ok cI ad) (Nat.le_of_ble_eq_true rfl) (fun p e s m args below meth c A C => ?_)
  refine V_ls (ls' := [(0, .ref (ad 0)), (1, .int a1), (2, .int a2), (3, .int a3), (4, .int a4), (5, .int a5), (6, .int a6)]) rfl ?_
  refine V_aload_n C dX2_change_0 rfl 0 rfl ?_
  refine V_get (Cn := RX2) (T := TX2) (N := 18) C hinX2_change_X2 0 rfl rfl 0 (by decide) hfX2_change_7 rfl rfl dX2_change_1 ?_
  refine V_iload_n C dX2_change_4 rfl 2 rfl ?_
  refine V_iload_n C dX2_change_5 rfl 3 rfl ?_
  refine Vm_iast C 1 0 rfl rfl hp1 wM_s1 dX2_change_6 ?_
  refine V_u (fun u6 hu6 => ?_)
  have hfm6 : fm u6 := by rw [← hu6]; exact hp4
  have hkc26 : kc2 u6 := by rw [← hu6]; exact hp5
  refine V_aload_n C dX2_change_7 rfl 0 rfl ?_
  refine V_get (Cn := RX2) (T := TX2) (N := 18) C hinX2_change_X2 0 rfl rfl 1 (by decide) hfX2_change_13 rfl rfl dX2_change_8 ?_
  refine V_iload_n C dX2_change_11 rfl 2 rfl ?_
  refine V_iload C dX2_change_12 4 rfl ?_
  refine Vm_iast C 2 0 rfl rfl hp1 wM_s2 dX2_change_14 ?_
  refine V_u (fun u14 hu14 => ?_)
  have hkc214 : kc2 u14 := by rw [← hu14]; exact hkc26
  have hfm14 : fm u14 := by rw [← hu14]; exact fm_up2 hfm6 hp2
  refine V_aload_n C dX2_change_15 rfl 0 rfl ?_
  refine V_get (Cn := RX2) (T := TX2) (N := 18) C hinX2_change_X2 0 rfl rfl 2 (by decide) hfX2_change_16 rfl rfl dX2_change_16 ?_
  refine V_iload_n C dX2_change_19 rfl 2 rfl ?_
  refine V_iload C dX2_change_20 5 rfl ?_
  refine Vm_iast C 3 0 rfl rfl hp1 wM_s3 dX2_change_22 ?_
  refine V_u (fun u22 hu22 => ?_)
  have hkc222 : kc2 u22 := by rw [← hu22]; exact hkc214
  have hfm22 : fm u22 := by rw [← hu22]; exact fm_up3 hfm14 hp3
  refine V_aload_n C dX2_change_23 rfl 0 rfl ?_
  refine V_get (Cn := RX2) (T := TX2) (N := 18) C hinX2_change_X2 0 rfl rfl 3 (by decide) hfX2_change_19 rfl rfl dX2_change_24 ?_
  refine V_iload_n C dX2_change_27 rfl 2 rfl ?_
  refine V_iload C dX2_change_28 6 rfl ?_
  refine Vm_iast C 4 0 rfl rfl hp1 wM_s4 dX2_change_30 ?_
  refine V_u (fun u30 hu30 => ?_)
  have hkc230 : kc2 u30 := by rw [← hu30]; exact hkc222
  have hfm30 : fm u30 := by rw [← hu30]; exact hfm22
  have hly30 : ly u30 := by rw [← hu30, ← hu22, ← hu14, ← hu6]; exact hp6
  refine V_iconst (v := 0) C dX2_change_31 (by decide) ?_
  refine V_istore (ls' := [(0, .ref (ad 0)), (1, .int a1), (2, .int a2), (3, .int a3), (4, .int a4), (5, .int a5), (6, .int a6), (7, .int 0)]) C dX2_change_32 (by decide) rfl rfl ?_
  refine V_sub (ls' := [(0, .ref (ad 0)), (1, .int a1), (2, .int a2), (7, .int 0)]) [0, 1, 2, 7] rfl ?_
  refine qX2_change_34 C a1 a2 24 0 (by decide) u30 hfm30 hkc230 hly30 (fun r34 hr34 hi0_34 hi1_34 hi2_34 => ?_)
  refine V_aload_n C dX2_change_55 rfl 0 rfl ?_
  refine V_iload_n C dX2_change_56 rfl 1 rfl ?_
  refine V_iload_n C dX2_change_57 rfl 2 rfl ?_
  refine V_cVv2 C xT_ok (kX2_compute _ _ _ hp0 hp1 hi0_34 hi1_34) (cwV 2 C.2.2.1 gX2_change_X2_compute rfl rfl rfl hvX2_compute ⟨Nat.le_of_ble_eq_true rfl, Nat.le_of_ble_eq_true rfl⟩) 0 rfl rfl (Nat.le_of_ble_eq_true rfl) ⟨(Nat.le_of_ble_eq_true rfl), (Nat.le_of_ble_eq_true rfl)⟩ dX2_change_58 ?_
  refine V_u (fun u58 hu58 => ?_)
  have hfm58 : fm u58 := by rw [← hu58]; exact fm_congr (fr_uX2_compute (by decide) (by decide) (by decide) (by decide) (by decide) (by decide) (by decide) (by decide) (by decide)) (fr_uX2_compute (by decide) (by decide) (by decide) (by decide) (by decide) (by decide) (by decide) (by decide) (by decide)) hi0_34
  have hkc258 : kc2 u58 := by rw [← hu58]; exact kc2_X2_compute hi1_34
  have hly58 : ly u58 := by rw [← hu58]; exact ly_congr (fr_uX2_compute (by decide) (by decide) (by decide) (by decide) (by decide) (by decide) (by decide) (by decide) (by decide)) (fr_uX2_compute (by decide) (by decide) (by decide) (by decide) (by decide) (by decide) (by decide) (by decide) (by decide)) (fr_uX2_compute (by decide) (by decide) (by decide) (by decide) (by decide) (by decide) (by decide) (by decide) (by decide)) hi2_34
  refine V_iconst (v := 1) C dX2_change_61 (by decide) ?_
  refine V_aload_n C dX2_change_62 rfl 0 rfl ?_
  refine V_iload_n C dX2_change_63 rfl 1 rfl ?_
  refine V_iconst (v := 0) C dX2_change_64 (by decide) ?_
  refine V_cVi2 C xT_ok (kX2_goThrough _ _ _ hp0 hfm58 hkc258 hly58) (cwV 2 C.2.2.1 gX2_change_X2_goThrough rfl rfl rfl hvX2_goThrough ⟨Nat.le_of_ble_eq_true rfl, Nat.le_of_ble_eq_true rfl⟩) 0 rfl rfl (Nat.le_of_ble_eq_true rfl) ⟨(Nat.le_of_ble_eq_true rfl), (Nat.le_of_ble_eq_true rfl)⟩ dX2_change_65 ?_
  refine V_u (fun u65 hu65 => ?_)
  have hfm65 : fm u65 := by rw [← hu65]; exact fm_congr (fr_uX2_goThrough (by decide) (by decide) (by decide) (by decide) (by decide) (by decide) (by decide) (by decide) (by decide) (by decide) (by decide)) (fr_uX2_goThrough (by decide) (by decide) (by decide) (by decide) (by decide) (by decide) (by decide) (by decide) (by decide) (by decide) (by decide)) hfm58
  have hly65 : ly u65 := by rw [← hu65]; exact ly_congr (fr_uX2_goThrough (by decide) (by decide) (by decide) (by decide) (by decide) (by decide) (by decide) (by decide) (by decide) (by decide) (by decide)) (fr_uX2_goThrough (by decide) (by decide) (by decide) (by decide) (by decide) (by decide) (by decide) (by decide) (by decide) (by decide) (by decide)) (fr_uX2_goThrough (by decide) (by decide) (by decide) (by decide) (by decide) (by decide) (by decide) (by decide) (by decide) (by decide) (by decide)) hly58
  refine V_iadd C dX2_change_68 ?_
  subst hu65
  subst hu58
  subst hr34
  subst hu30
  subst hu22
  subst hu14
  subst hu6
  exact V_iret C rfl (vp_nar_int _) rfl rfl dX2_change_69
theorem hdX2_isCaller : yX2_isCaller.cls ≠ "java/lang/invoke/MethodHandle" ∧ yX2_isCaller.cls ≠ "java/lang/invoke/VarHandle" ∧ (parseMethodDescriptor yX2_isCaller.desc).map (fun d => d.parameters.length) = some 2 := by decide +kernel
theorem hvX2_isCaller : yX2_isCaller.cls = RX2 ∧ yX2_isCaller.cls ≠ "java/lang/invoke/MethodHandle" ∧ yX2_isCaller.cls ≠ "java/lang/invoke/VarHandle" ∧ (parseMethodDescriptor yX2_isCaller.desc).map (fun d => d.parameters.length) = some 2 := by decide +kernel
set_option maxHeartbeats 4000000 in
theorem kX2_isCaller {l : Launch} {D : va_G} {cI : ClassId} {ad : Nat → Nat} (u : vM) (a0 : Int32) (a1 : Int32) : mI D vwCl (tyM cI) xT (wM cI ad) l yX2_isCaller wsX2_isCaller rmX2_isCaller [.int a0, .int a1] u (rX2_isCaller a0 a1) u := by
  refine mI_of (cc := cX2_isCaller) (maxL := 2) (ret := (some .boolean)) (own := RX2) rfl (by decide) rfl (wM_ok cI ad) (Nat.le_of_ble_eq_true rfl) (fun p e s m args below meth c A C => ?_)
  refine V_ls (ls' := [(0, .int a0), (1, .int a1)]) rfl ?_
  refine V_iload_n C dX2_isCaller_0 rfl 0 rfl ?_
  refine V_iconst (v := 0) C dX2_isCaller_1 (by decide) ?_
  refine V_iconst (v := 4) C dX2_isCaller_2 (by decide) ?_
  refine V_cSi3 C xT_ok (kX2_in _ _ _ _) (va_cwS 3 C.2.2.1 gX2_isCaller_X2_in rfl rfl rfl hdX2_in ⟨Nat.le_of_ble_eq_true rfl, Nat.le_of_ble_eq_true rfl⟩) (Nat.le_of_ble_eq_true rfl) ⟨(Nat.le_of_ble_eq_true rfl), (Nat.le_of_ble_eq_true rfl)⟩ dX2_isCaller_3 ?_
  refine V_join1 (J := 21) (T := (if (rX2_in a0 0 4) = 0 then 0 else (if (rX2_isCell a1) = 0 then 0 else 1))) (fun j21 hj21 => ?_) (fun J21 => ?_)
  ·
    subst hj21
    exact V_iret C rfl (by (repeat' split) <;> rfl) rfl rfl dX2_isCaller_21
  ·
    refine V_if_eq (tgt := 20) C dX2_isCaller_6 (by decide) (fun h6 => ?_) (fun h6 => ?_)
    ·
      refine V_iconst (v := 0) C dX2_isCaller_20 (by decide) ?_
      exact J21 _ ((if_pos h6).trans rfl)
    ·
      refine V_iload_n C dX2_isCaller_9 rfl 1 rfl ?_
      refine V_cSi1 C xT_ok (kX2_isCell _ _) (va_cwS 1 C.2.2.1 gX2_isCaller_X2_isCell rfl rfl rfl hdX2_isCell ⟨Nat.le_of_ble_eq_true rfl, Nat.le_of_ble_eq_true rfl⟩) (Nat.le_of_ble_eq_true rfl) ⟨(Nat.le_of_ble_eq_true rfl), (Nat.le_of_ble_eq_true rfl)⟩ dX2_isCaller_10 ?_
      refine V_if_eq (tgt := 20) C dX2_isCaller_13 (by decide) (fun h13 => ?_) (fun h13 => ?_)
      ·
        refine V_iconst (v := 0) C dX2_isCaller_20 (by decide) ?_
        exact J21 _ ((if_neg h6).trans ((if_pos h13).trans rfl))
      ·
        refine V_iconst (v := 1) C dX2_isCaller_16 (by decide) ?_
        refine V_goto (tgt := 21) C dX2_isCaller_17 (by decide) ?_
        exact J21 _ ((if_neg h6).trans ((if_neg h13).trans rfl))
theorem hdX2_setNumber : yX2_setNumber.cls ≠ "java/lang/invoke/MethodHandle" ∧ yX2_setNumber.cls ≠ "java/lang/invoke/VarHandle" ∧ (parseMethodDescriptor yX2_setNumber.desc).map (fun d => d.parameters.length) = some 3 := by decide +kernel
theorem hvX2_setNumber : yX2_setNumber.cls = RX2 ∧ yX2_setNumber.cls ≠ "java/lang/invoke/MethodHandle" ∧ yX2_setNumber.cls ≠ "java/lang/invoke/VarHandle" ∧ (parseMethodDescriptor yX2_setNumber.desc).map (fun d => d.parameters.length) = some 3 := by decide +kernel
theorem hinX2_setNumber_X2 : ∀ w ∈ u_ws RX2 TX2 18, w ∈ wsX2_setNumber := by decide +kernel
theorem hfX2_setNumber_58 : Cond.fieldLink RX2 58 "MeteredSheetsModel" "thrown" "I" ∈ wsX2_setNumber := by decide +kernel
theorem hkX2_setNumber_74 : Cond.constant RX2 74 (-1000000) ∈ wsX2_setNumber := by decide +kernel
theorem hkX2_setNumber_73 : Cond.constant RX2 73 (1000000) ∈ wsX2_setNumber := by decide +kernel
set_option maxHeartbeats 4000000 in
theorem kX2_setNumber {l : Launch} {D : va_G} {cI : ClassId} {ad : Nat → Nat} (u : vM) (a1 : Int32) (a2 : Int32) (a3 : Int32) (hp0 : fm u) (hp1 : kc2 u) (hp2 : ly u) : mI D vwCl (tyM cI) xT (wM cI ad) l yX2_setNumber wsX2_setNumber rmX2_setNumber [.ref (ad 0), .int a1, .int a2, .int a3] u (rX2_setNumber u a1 a2 a3) (uX2_setNumber u a1 a2 a3) := by
  refine mI_of (cc := cX2_setNumber) (maxL := 4) (ret := (some .int)) (own := RX2) rfl (by decide) rfl (wM_ok cI ad) (Nat.le_of_ble_eq_true rfl) (fun p e s m args below meth c A C => ?_)
  refine V_ls (ls' := [(0, .ref (ad 0)), (1, .int a1), (2, .int a2), (3, .int a3)]) rfl ?_
  refine V_aload_n C dX2_setNumber_0 rfl 0 rfl ?_
  refine V_iconst (v := 0) C dX2_setNumber_1 (by decide) ?_
  refine V_put (Cn := RX2) (T := TX2) (N := 18) C hinX2_setNumber_X2 tyX2 tyX2_ok nmX2 0 rfl rfl 17 (by decide) hfX2_setNumber_58 rfl rfl rfl (Nat.le_of_ble_eq_true rfl) wM_s18 dX2_setNumber_2 ?_
  refine V_u (fun u2 hu2 => ?_)
  have hfm2 : fm u2 := by rw [← hu2]; exact hp0
  have hkc22 : kc2 u2 := by rw [← hu2]; exact hp1
  have hly2 : ly u2 := by rw [← hu2]; exact hp2
  refine V_iload_n C dX2_setNumber_5 rfl 1 rfl ?_
  refine V_iload_n C dX2_setNumber_6 rfl 2 rfl ?_
  refine V_cSi2 C xT_ok (kX2_isCaller _ _ _) (va_cwS 2 C.2.2.1 gX2_setNumber_X2_isCaller rfl rfl rfl hdX2_isCaller ⟨Nat.le_of_ble_eq_true rfl, Nat.le_of_ble_eq_true rfl⟩) (Nat.le_of_ble_eq_true rfl) ⟨(Nat.le_of_ble_eq_true rfl), (Nat.le_of_ble_eq_true rfl)⟩ dX2_setNumber_7 ?_
  refine V_if_eq (tgt := 24) C dX2_setNumber_10 (by decide) (fun h10 => ?_) (fun h10 => ?_)
  ·
    refine V_aload_n C dX2_setNumber_24 rfl 0 rfl ?_
    refine V_iconst (v := 1) C dX2_setNumber_25 (by decide) ?_
    refine V_cVi1 C xT_ok (kX2_fails _ _) (cwV 1 C.2.2.1 gX2_setNumber_X2_fails rfl rfl rfl hvX2_fails ⟨Nat.le_of_ble_eq_true rfl, Nat.le_of_ble_eq_true rfl⟩) 0 rfl rfl (Nat.le_of_ble_eq_true rfl) ⟨(Nat.le_of_ble_eq_true rfl), (Nat.le_of_ble_eq_true rfl)⟩ dX2_setNumber_26 ?_
    refine V_u (fun u26 hu26 => ?_)
    have hfm26 : fm u26 := by rw [← hu26]; exact fm_congr (fr_uX2_fails (by decide)) (fr_uX2_fails (by decide)) hfm2
    have hkc226 : kc2 u26 := by rw [← hu26]; exact kc2_congr (fr_uX2_fails (by decide)) hkc22
    have hly26 : ly u26 := by rw [← hu26]; exact ly_congr (fr_uX2_fails (by decide)) (fr_uX2_fails (by decide)) (fr_uX2_fails (by decide)) hly2
    subst hu26
    subst hu2
    exact V_iret C rfl (vp_nar_int _) ((if_pos h10).trans rfl) ((if_pos h10).trans rfl) dX2_setNumber_29
  ·
    refine V_iload_n C dX2_setNumber_13 rfl 3 rfl ?_
    refine V_ldc (v := (-1000000)) C hkX2_setNumber_74 dX2_setNumber_14 ?_
    refine V_ldc (v := 1000000) C hkX2_setNumber_73 dX2_setNumber_16 ?_
    refine V_cSi3 C xT_ok (kX2_in _ _ _ _) (va_cwS 3 C.2.2.1 gX2_setNumber_X2_in rfl rfl rfl hdX2_in ⟨Nat.le_of_ble_eq_true rfl, Nat.le_of_ble_eq_true rfl⟩) (Nat.le_of_ble_eq_true rfl) ⟨(Nat.le_of_ble_eq_true rfl), (Nat.le_of_ble_eq_true rfl)⟩ dX2_setNumber_18 ?_
    refine V_if_ne (tgt := 30) C dX2_setNumber_21 (by decide) (fun h21 => ?_) (fun h21 => ?_)
    ·
      refine V_aload_n C dX2_setNumber_30 rfl 0 rfl ?_
      refine V_iload_n C dX2_setNumber_31 rfl 1 rfl ?_
      refine V_iload_n C dX2_setNumber_32 rfl 2 rfl ?_
      refine V_iconst (v := 0) C dX2_setNumber_33 (by decide) ?_
      refine V_iconst (v := 0) C dX2_setNumber_34 (by decide) ?_
      refine V_iconst (v := 0) C dX2_setNumber_35 (by decide) ?_
      refine V_iload_n C dX2_setNumber_36 rfl 3 rfl ?_
      refine V_cVi6 C xT_ok (kX2_change _ _ _ _ _ _ _ (vqX2_isCaller1 h10) (vqX2_isCaller2 h10) (by unfold vp_in; decide) (by unfold vp_in; decide) hfm2 hkc22 (ly_chg_number hly2)) (cwV 6 C.2.2.1 gX2_setNumber_X2_change rfl rfl rfl hvX2_change ⟨Nat.le_of_ble_eq_true rfl, Nat.le_of_ble_eq_true rfl⟩) 0 rfl rfl (Nat.le_of_ble_eq_true rfl) ⟨(Nat.le_of_ble_eq_true rfl), (Nat.le_of_ble_eq_true rfl)⟩ dX2_setNumber_37 ?_
      refine V_u (fun u37 hu37 => ?_)
      subst hu37
      subst hu2
      exact V_iret C rfl (vp_nar_int _) ((if_neg h10).trans ((if_neg h21).trans rfl)) ((if_neg h10).trans ((if_neg h21).trans rfl)) dX2_setNumber_40
    ·
      refine V_aload_n C dX2_setNumber_24 rfl 0 rfl ?_
      refine V_iconst (v := 1) C dX2_setNumber_25 (by decide) ?_
      refine V_cVi1 C xT_ok (kX2_fails _ _) (cwV 1 C.2.2.1 gX2_setNumber_X2_fails rfl rfl rfl hvX2_fails ⟨Nat.le_of_ble_eq_true rfl, Nat.le_of_ble_eq_true rfl⟩) 0 rfl rfl (Nat.le_of_ble_eq_true rfl) ⟨(Nat.le_of_ble_eq_true rfl), (Nat.le_of_ble_eq_true rfl)⟩ dX2_setNumber_26 ?_
      refine V_u (fun u26 hu26 => ?_)
      have hfm26 : fm u26 := by rw [← hu26]; exact fm_congr (fr_uX2_fails (by decide)) (fr_uX2_fails (by decide)) hfm2
      have hkc226 : kc2 u26 := by rw [← hu26]; exact kc2_congr (fr_uX2_fails (by decide)) hkc22
      have hly26 : ly u26 := by rw [← hu26]; exact ly_congr (fr_uX2_fails (by decide)) (fr_uX2_fails (by decide)) (fr_uX2_fails (by decide)) hly2
      subst hu26
      subst hu2
      exact V_iret C rfl (vp_nar_int _) ((if_neg h10).trans ((if_pos h21).trans rfl)) ((if_neg h10).trans ((if_pos h21).trans rfl)) dX2_setNumber_29
theorem hdX2_setSum : yX2_setSum.cls ≠ "java/lang/invoke/MethodHandle" ∧ yX2_setSum.cls ≠ "java/lang/invoke/VarHandle" ∧ (parseMethodDescriptor yX2_setSum.desc).map (fun d => d.parameters.length) = some 5 := by decide +kernel
theorem hvX2_setSum : yX2_setSum.cls = RX2 ∧ yX2_setSum.cls ≠ "java/lang/invoke/MethodHandle" ∧ yX2_setSum.cls ≠ "java/lang/invoke/VarHandle" ∧ (parseMethodDescriptor yX2_setSum.desc).map (fun d => d.parameters.length) = some 5 := by decide +kernel
theorem hinX2_setSum_X2 : ∀ w ∈ u_ws RX2 TX2 18, w ∈ wsX2_setSum := by decide +kernel
theorem hfX2_setSum_58 : Cond.fieldLink RX2 58 "MeteredSheetsModel" "thrown" "I" ∈ wsX2_setSum := by decide +kernel
set_option maxHeartbeats 4000000 in
theorem kX2_setSum {l : Launch} {D : va_G} {cI : ClassId} {ad : Nat → Nat} (u : vM) (a1 : Int32) (a2 : Int32) (a3 : Int32) (a4 : Int32) (a5 : Int32) (hp0 : fm u) (hp1 : kc2 u) (hp2 : ly u) : mI D vwCl (tyM cI) xT (wM cI ad) l yX2_setSum wsX2_setSum rmX2_setSum [.ref (ad 0), .int a1, .int a2, .int a3, .int a4, .int a5] u (rX2_setSum u a1 a2 a3 a4 a5) (uX2_setSum u a1 a2 a3 a4 a5) := by
  refine mI_of (cc := cX2_setSum) (maxL := 6) (ret := (some .int)) (own := RX2) rfl (by decide) rfl (wM_ok cI ad) (Nat.le_of_ble_eq_true rfl) (fun p e s m args below meth c A C => ?_)
  refine V_ls (ls' := [(0, .ref (ad 0)), (1, .int a1), (2, .int a2), (3, .int a3), (4, .int a4), (5, .int a5)]) rfl ?_
  refine V_aload_n C dX2_setSum_0 rfl 0 rfl ?_
  refine V_iconst (v := 0) C dX2_setSum_1 (by decide) ?_
  refine V_put (Cn := RX2) (T := TX2) (N := 18) C hinX2_setSum_X2 tyX2 tyX2_ok nmX2 0 rfl rfl 17 (by decide) hfX2_setSum_58 rfl rfl rfl (Nat.le_of_ble_eq_true rfl) wM_s18 dX2_setSum_2 ?_
  refine V_u (fun u2 hu2 => ?_)
  have hfm2 : fm u2 := by rw [← hu2]; exact hp0
  have hkc22 : kc2 u2 := by rw [← hu2]; exact hp1
  have hly2 : ly u2 := by rw [← hu2]; exact hp2
  refine V_iload_n C dX2_setSum_5 rfl 1 rfl ?_
  refine V_iload_n C dX2_setSum_6 rfl 2 rfl ?_
  refine V_cSi2 C xT_ok (kX2_isCaller _ _ _) (va_cwS 2 C.2.2.1 gX2_setSum_X2_isCaller rfl rfl rfl hdX2_isCaller ⟨Nat.le_of_ble_eq_true rfl, Nat.le_of_ble_eq_true rfl⟩) (Nat.le_of_ble_eq_true rfl) ⟨(Nat.le_of_ble_eq_true rfl), (Nat.le_of_ble_eq_true rfl)⟩ dX2_setSum_7 ?_
  refine V_if_eq (tgt := 42) C dX2_setSum_10 (by decide) (fun h10 => ?_) (fun h10 => ?_)
  ·
    refine V_aload_n C dX2_setSum_42 rfl 0 rfl ?_
    refine V_iconst (v := 1) C dX2_setSum_43 (by decide) ?_
    refine V_cVi1 C xT_ok (kX2_fails _ _) (cwV 1 C.2.2.1 gX2_setSum_X2_fails rfl rfl rfl hvX2_fails ⟨Nat.le_of_ble_eq_true rfl, Nat.le_of_ble_eq_true rfl⟩) 0 rfl rfl (Nat.le_of_ble_eq_true rfl) ⟨(Nat.le_of_ble_eq_true rfl), (Nat.le_of_ble_eq_true rfl)⟩ dX2_setSum_44 ?_
    refine V_u (fun u44 hu44 => ?_)
    have hfm44 : fm u44 := by rw [← hu44]; exact fm_congr (fr_uX2_fails (by decide)) (fr_uX2_fails (by decide)) hfm2
    have hkc244 : kc2 u44 := by rw [← hu44]; exact kc2_congr (fr_uX2_fails (by decide)) hkc22
    have hly44 : ly u44 := by rw [← hu44]; exact ly_congr (fr_uX2_fails (by decide)) (fr_uX2_fails (by decide)) (fr_uX2_fails (by decide)) hly2
    subst hu44
    subst hu2
    exact V_iret C rfl (vp_nar_int _) ((if_pos h10).trans rfl) ((if_pos h10).trans rfl) dX2_setSum_47
  ·
    refine V_iload_n C dX2_setSum_13 rfl 3 rfl ?_
    refine V_cSi1 C xT_ok (kX2_isCell _ _) (va_cwS 1 C.2.2.1 gX2_setSum_X2_isCell rfl rfl rfl hdX2_isCell ⟨Nat.le_of_ble_eq_true rfl, Nat.le_of_ble_eq_true rfl⟩) (Nat.le_of_ble_eq_true rfl) ⟨(Nat.le_of_ble_eq_true rfl), (Nat.le_of_ble_eq_true rfl)⟩ dX2_setSum_14 ?_
    refine V_if_eq (tgt := 42) C dX2_setSum_17 (by decide) (fun h17 => ?_) (fun h17 => ?_)
    ·
      refine V_aload_n C dX2_setSum_42 rfl 0 rfl ?_
      refine V_iconst (v := 1) C dX2_setSum_43 (by decide) ?_
      refine V_cVi1 C xT_ok (kX2_fails _ _) (cwV 1 C.2.2.1 gX2_setSum_X2_fails rfl rfl rfl hvX2_fails ⟨Nat.le_of_ble_eq_true rfl, Nat.le_of_ble_eq_true rfl⟩) 0 rfl rfl (Nat.le_of_ble_eq_true rfl) ⟨(Nat.le_of_ble_eq_true rfl), (Nat.le_of_ble_eq_true rfl)⟩ dX2_setSum_44 ?_
      refine V_u (fun u44 hu44 => ?_)
      have hfm44 : fm u44 := by rw [← hu44]; exact fm_congr (fr_uX2_fails (by decide)) (fr_uX2_fails (by decide)) hfm2
      have hkc244 : kc2 u44 := by rw [← hu44]; exact kc2_congr (fr_uX2_fails (by decide)) hkc22
      have hly44 : ly u44 := by rw [← hu44]; exact ly_congr (fr_uX2_fails (by decide)) (fr_uX2_fails (by decide)) (fr_uX2_fails (by decide)) hly2
      subst hu44
      subst hu2
      exact V_iret C rfl (vp_nar_int _) ((if_neg h10).trans ((if_pos h17).trans rfl)) ((if_neg h10).trans ((if_pos h17).trans rfl)) dX2_setSum_47
    ·
      refine V_iload C dX2_setSum_20 4 rfl ?_
      refine V_cSi1 C xT_ok (kX2_isCell _ _) (va_cwS 1 C.2.2.1 gX2_setSum_X2_isCell rfl rfl rfl hdX2_isCell ⟨Nat.le_of_ble_eq_true rfl, Nat.le_of_ble_eq_true rfl⟩) (Nat.le_of_ble_eq_true rfl) ⟨(Nat.le_of_ble_eq_true rfl), (Nat.le_of_ble_eq_true rfl)⟩ dX2_setSum_22 ?_
      refine V_if_eq (tgt := 42) C dX2_setSum_25 (by decide) (fun h25 => ?_) (fun h25 => ?_)
      ·
        refine V_aload_n C dX2_setSum_42 rfl 0 rfl ?_
        refine V_iconst (v := 1) C dX2_setSum_43 (by decide) ?_
        refine V_cVi1 C xT_ok (kX2_fails _ _) (cwV 1 C.2.2.1 gX2_setSum_X2_fails rfl rfl rfl hvX2_fails ⟨Nat.le_of_ble_eq_true rfl, Nat.le_of_ble_eq_true rfl⟩) 0 rfl rfl (Nat.le_of_ble_eq_true rfl) ⟨(Nat.le_of_ble_eq_true rfl), (Nat.le_of_ble_eq_true rfl)⟩ dX2_setSum_44 ?_
        refine V_u (fun u44 hu44 => ?_)
        have hfm44 : fm u44 := by rw [← hu44]; exact fm_congr (fr_uX2_fails (by decide)) (fr_uX2_fails (by decide)) hfm2
        have hkc244 : kc2 u44 := by rw [← hu44]; exact kc2_congr (fr_uX2_fails (by decide)) hkc22
        have hly44 : ly u44 := by rw [← hu44]; exact ly_congr (fr_uX2_fails (by decide)) (fr_uX2_fails (by decide)) (fr_uX2_fails (by decide)) hly2
        subst hu44
        subst hu2
        exact V_iret C rfl (vp_nar_int _) ((if_neg h10).trans ((if_neg h17).trans ((if_pos h25).trans rfl))) ((if_neg h10).trans ((if_neg h17).trans ((if_pos h25).trans rfl))) dX2_setSum_47
      ·
        refine V_iload C dX2_setSum_28 5 rfl ?_
        refine V_sipush (v := (-1000)) C dX2_setSum_30 (by decide) ?_
        refine V_sipush (v := 1000) C dX2_setSum_33 (by decide) ?_
        refine V_cSi3 C xT_ok (kX2_in _ _ _ _) (va_cwS 3 C.2.2.1 gX2_setSum_X2_in rfl rfl rfl hdX2_in ⟨Nat.le_of_ble_eq_true rfl, Nat.le_of_ble_eq_true rfl⟩) (Nat.le_of_ble_eq_true rfl) ⟨(Nat.le_of_ble_eq_true rfl), (Nat.le_of_ble_eq_true rfl)⟩ dX2_setSum_36 ?_
        refine V_if_ne (tgt := 48) C dX2_setSum_39 (by decide) (fun h39 => ?_) (fun h39 => ?_)
        ·
          refine V_aload_n C dX2_setSum_48 rfl 0 rfl ?_
          refine V_iload_n C dX2_setSum_49 rfl 3 rfl ?_
          refine V_iload_n C dX2_setSum_50 rfl 2 rfl ?_
          refine V_cVi2 C xT_ok (kX2_reaches _ _ _ (vqX2_isCell h17) (vqX2_isCaller2 h10) hfm2) (cwV 2 C.2.2.1 gX2_setSum_X2_reaches rfl rfl rfl hvX2_reaches ⟨Nat.le_of_ble_eq_true rfl, Nat.le_of_ble_eq_true rfl⟩) 0 rfl rfl (Nat.le_of_ble_eq_true rfl) ⟨(Nat.le_of_ble_eq_true rfl), (Nat.le_of_ble_eq_true rfl)⟩ dX2_setSum_51 ?_
          refine V_u (fun u51 hu51 => ?_)
          have hfm51 : fm u51 := by rw [← hu51]; exact fm_congr (fr_uX2_reaches (by decide)) (fr_uX2_reaches (by decide)) hfm2
          have hkc251 : kc2 u51 := by rw [← hu51]; exact kc2_congr (fr_uX2_reaches (by decide)) hkc22
          have hly51 : ly u51 := by rw [← hu51]; exact ly_congr (fr_uX2_reaches (by decide)) (fr_uX2_reaches (by decide)) (fr_uX2_reaches (by decide)) hly2
          refine V_if_ne (tgt := 67) C dX2_setSum_54 (by decide) (fun h54 => ?_) (fun h54 => ?_)
          ·
            refine V_aload_n C dX2_setSum_67 rfl 0 rfl ?_
            refine V_iconst (v := 2) C dX2_setSum_68 (by decide) ?_
            refine V_cVi1 C xT_ok (kX2_fails _ _) (cwV 1 C.2.2.1 gX2_setSum_X2_fails rfl rfl rfl hvX2_fails ⟨Nat.le_of_ble_eq_true rfl, Nat.le_of_ble_eq_true rfl⟩) 0 rfl rfl (Nat.le_of_ble_eq_true rfl) ⟨(Nat.le_of_ble_eq_true rfl), (Nat.le_of_ble_eq_true rfl)⟩ dX2_setSum_69 ?_
            refine V_u (fun u69 hu69 => ?_)
            have hfm69 : fm u69 := by rw [← hu69]; exact fm_congr (fr_uX2_fails (by decide)) (fr_uX2_fails (by decide)) hfm51
            have hkc269 : kc2 u69 := by rw [← hu69]; exact kc2_congr (fr_uX2_fails (by decide)) hkc251
            have hly69 : ly u69 := by rw [← hu69]; exact ly_congr (fr_uX2_fails (by decide)) (fr_uX2_fails (by decide)) (fr_uX2_fails (by decide)) hly51
            subst hu69
            subst hu51
            subst hu2
            exact V_iret C rfl (vp_nar_int _) ((if_neg h10).trans ((if_neg h17).trans ((if_neg h25).trans ((if_neg h39).trans ((if_neg h54).trans rfl))))) ((if_neg h10).trans ((if_neg h17).trans ((if_neg h25).trans ((if_neg h39).trans ((if_neg h54).trans rfl))))) dX2_setSum_72
          ·
            refine V_aload_n C dX2_setSum_57 rfl 0 rfl ?_
            refine V_iload C dX2_setSum_58 4 rfl ?_
            refine V_iload_n C dX2_setSum_60 rfl 2 rfl ?_
            refine V_cVi2 C xT_ok (kX2_reaches _ _ _ (vqX2_isCell h25) (vqX2_isCaller2 h10) hfm51) (cwV 2 C.2.2.1 gX2_setSum_X2_reaches rfl rfl rfl hvX2_reaches ⟨Nat.le_of_ble_eq_true rfl, Nat.le_of_ble_eq_true rfl⟩) 0 rfl rfl (Nat.le_of_ble_eq_true rfl) ⟨(Nat.le_of_ble_eq_true rfl), (Nat.le_of_ble_eq_true rfl)⟩ dX2_setSum_61 ?_
            refine V_u (fun u61 hu61 => ?_)
            have hfm61 : fm u61 := by rw [← hu61]; exact fm_congr (fr_uX2_reaches (by decide)) (fr_uX2_reaches (by decide)) hfm51
            have hkc261 : kc2 u61 := by rw [← hu61]; exact kc2_congr (fr_uX2_reaches (by decide)) hkc251
            have hly61 : ly u61 := by rw [← hu61]; exact ly_congr (fr_uX2_reaches (by decide)) (fr_uX2_reaches (by decide)) (fr_uX2_reaches (by decide)) hly51
            refine V_if_eq (tgt := 73) C dX2_setSum_64 (by decide) (fun h64 => ?_) (fun h64 => ?_)
            ·
              refine V_aload_n C dX2_setSum_73 rfl 0 rfl ?_
              refine V_iload_n C dX2_setSum_74 rfl 1 rfl ?_
              refine V_iload_n C dX2_setSum_75 rfl 2 rfl ?_
              refine V_iconst (v := 1) C dX2_setSum_76 (by decide) ?_
              refine V_iload_n C dX2_setSum_77 rfl 3 rfl ?_
              refine V_iload C dX2_setSum_78 4 rfl ?_
              refine V_iload C dX2_setSum_80 5 rfl ?_
              refine V_cVi6 C xT_ok (kX2_change _ _ _ _ _ _ _ (vqX2_isCaller1 h10) (vqX2_isCaller2 h10) (vqX2_isCell h17) (vqX2_isCell h25) hfm61 hkc261 (ly_chg_two hfm2 hly2 (vqX2_isCaller2 h10) (vqX2_isCell h17) (vqX2_isCell h25) h54 hu51 h64 hu61)) (cwV 6 C.2.2.1 gX2_setSum_X2_change rfl rfl rfl hvX2_change ⟨Nat.le_of_ble_eq_true rfl, Nat.le_of_ble_eq_true rfl⟩) 0 rfl rfl (Nat.le_of_ble_eq_true rfl) ⟨(Nat.le_of_ble_eq_true rfl), (Nat.le_of_ble_eq_true rfl)⟩ dX2_setSum_82 ?_
              refine V_u (fun u82 hu82 => ?_)
              subst hu82
              subst hu61
              subst hu51
              subst hu2
              exact V_iret C rfl (vp_nar_int _) ((if_neg h10).trans ((if_neg h17).trans ((if_neg h25).trans ((if_neg h39).trans ((if_pos h54).trans ((if_pos h64).trans rfl)))))) ((if_neg h10).trans ((if_neg h17).trans ((if_neg h25).trans ((if_neg h39).trans ((if_pos h54).trans ((if_pos h64).trans rfl)))))) dX2_setSum_85
            ·
              refine V_aload_n C dX2_setSum_67 rfl 0 rfl ?_
              refine V_iconst (v := 2) C dX2_setSum_68 (by decide) ?_
              refine V_cVi1 C xT_ok (kX2_fails _ _) (cwV 1 C.2.2.1 gX2_setSum_X2_fails rfl rfl rfl hvX2_fails ⟨Nat.le_of_ble_eq_true rfl, Nat.le_of_ble_eq_true rfl⟩) 0 rfl rfl (Nat.le_of_ble_eq_true rfl) ⟨(Nat.le_of_ble_eq_true rfl), (Nat.le_of_ble_eq_true rfl)⟩ dX2_setSum_69 ?_
              refine V_u (fun u69 hu69 => ?_)
              have hfm69 : fm u69 := by rw [← hu69]; exact fm_congr (fr_uX2_fails (by decide)) (fr_uX2_fails (by decide)) hfm61
              have hkc269 : kc2 u69 := by rw [← hu69]; exact kc2_congr (fr_uX2_fails (by decide)) hkc261
              have hly69 : ly u69 := by rw [← hu69]; exact ly_congr (fr_uX2_fails (by decide)) (fr_uX2_fails (by decide)) (fr_uX2_fails (by decide)) hly61
              subst hu69
              subst hu61
              subst hu51
              subst hu2
              exact V_iret C rfl (vp_nar_int _) ((if_neg h10).trans ((if_neg h17).trans ((if_neg h25).trans ((if_neg h39).trans ((if_pos h54).trans ((if_neg h64).trans rfl)))))) ((if_neg h10).trans ((if_neg h17).trans ((if_neg h25).trans ((if_neg h39).trans ((if_pos h54).trans ((if_neg h64).trans rfl)))))) dX2_setSum_72
        ·
          refine V_aload_n C dX2_setSum_42 rfl 0 rfl ?_
          refine V_iconst (v := 1) C dX2_setSum_43 (by decide) ?_
          refine V_cVi1 C xT_ok (kX2_fails _ _) (cwV 1 C.2.2.1 gX2_setSum_X2_fails rfl rfl rfl hvX2_fails ⟨Nat.le_of_ble_eq_true rfl, Nat.le_of_ble_eq_true rfl⟩) 0 rfl rfl (Nat.le_of_ble_eq_true rfl) ⟨(Nat.le_of_ble_eq_true rfl), (Nat.le_of_ble_eq_true rfl)⟩ dX2_setSum_44 ?_
          refine V_u (fun u44 hu44 => ?_)
          have hfm44 : fm u44 := by rw [← hu44]; exact fm_congr (fr_uX2_fails (by decide)) (fr_uX2_fails (by decide)) hfm2
          have hkc244 : kc2 u44 := by rw [← hu44]; exact kc2_congr (fr_uX2_fails (by decide)) hkc22
          have hly44 : ly u44 := by rw [← hu44]; exact ly_congr (fr_uX2_fails (by decide)) (fr_uX2_fails (by decide)) (fr_uX2_fails (by decide)) hly2
          subst hu44
          subst hu2
          exact V_iret C rfl (vp_nar_int _) ((if_neg h10).trans ((if_neg h17).trans ((if_neg h25).trans ((if_pos h39).trans rfl)))) ((if_neg h10).trans ((if_neg h17).trans ((if_neg h25).trans ((if_pos h39).trans rfl)))) dX2_setSum_47
theorem hdX2_setGreater : yX2_setGreater.cls ≠ "java/lang/invoke/MethodHandle" ∧ yX2_setGreater.cls ≠ "java/lang/invoke/VarHandle" ∧ (parseMethodDescriptor yX2_setGreater.desc).map (fun d => d.parameters.length) = some 4 := by decide +kernel
theorem hvX2_setGreater : yX2_setGreater.cls = RX2 ∧ yX2_setGreater.cls ≠ "java/lang/invoke/MethodHandle" ∧ yX2_setGreater.cls ≠ "java/lang/invoke/VarHandle" ∧ (parseMethodDescriptor yX2_setGreater.desc).map (fun d => d.parameters.length) = some 4 := by decide +kernel
theorem hinX2_setGreater_X2 : ∀ w ∈ u_ws RX2 TX2 18, w ∈ wsX2_setGreater := by decide +kernel
theorem hfX2_setGreater_58 : Cond.fieldLink RX2 58 "MeteredSheetsModel" "thrown" "I" ∈ wsX2_setGreater := by decide +kernel
set_option maxHeartbeats 4000000 in
theorem kX2_setGreater {l : Launch} {D : va_G} {cI : ClassId} {ad : Nat → Nat} (u : vM) (a1 : Int32) (a2 : Int32) (a3 : Int32) (a4 : Int32) (hp0 : fm u) (hp1 : kc2 u) (hp2 : ly u) : mI D vwCl (tyM cI) xT (wM cI ad) l yX2_setGreater wsX2_setGreater rmX2_setGreater [.ref (ad 0), .int a1, .int a2, .int a3, .int a4] u (rX2_setGreater u a1 a2 a3 a4) (uX2_setGreater u a1 a2 a3 a4) := by
  refine mI_of (cc := cX2_setGreater) (maxL := 5) (ret := (some .int)) (own := RX2) rfl (by decide) rfl (wM_ok cI ad) (Nat.le_of_ble_eq_true rfl) (fun p e s m args below meth c A C => ?_)
  refine V_ls (ls' := [(0, .ref (ad 0)), (1, .int a1), (2, .int a2), (3, .int a3), (4, .int a4)]) rfl ?_
  refine V_aload_n C dX2_setGreater_0 rfl 0 rfl ?_
  refine V_iconst (v := 0) C dX2_setGreater_1 (by decide) ?_
  refine V_put (Cn := RX2) (T := TX2) (N := 18) C hinX2_setGreater_X2 tyX2 tyX2_ok nmX2 0 rfl rfl 17 (by decide) hfX2_setGreater_58 rfl rfl rfl (Nat.le_of_ble_eq_true rfl) wM_s18 dX2_setGreater_2 ?_
  refine V_u (fun u2 hu2 => ?_)
  have hfm2 : fm u2 := by rw [← hu2]; exact hp0
  have hkc22 : kc2 u2 := by rw [← hu2]; exact hp1
  have hly2 : ly u2 := by rw [← hu2]; exact hp2
  refine V_iload_n C dX2_setGreater_5 rfl 1 rfl ?_
  refine V_iload_n C dX2_setGreater_6 rfl 2 rfl ?_
  refine V_cSi2 C xT_ok (kX2_isCaller _ _ _) (va_cwS 2 C.2.2.1 gX2_setGreater_X2_isCaller rfl rfl rfl hdX2_isCaller ⟨Nat.le_of_ble_eq_true rfl, Nat.le_of_ble_eq_true rfl⟩) (Nat.le_of_ble_eq_true rfl) ⟨(Nat.le_of_ble_eq_true rfl), (Nat.le_of_ble_eq_true rfl)⟩ dX2_setGreater_7 ?_
  refine V_if_eq (tgt := 28) C dX2_setGreater_10 (by decide) (fun h10 => ?_) (fun h10 => ?_)
  ·
    refine V_aload_n C dX2_setGreater_28 rfl 0 rfl ?_
    refine V_iconst (v := 1) C dX2_setGreater_29 (by decide) ?_
    refine V_cVi1 C xT_ok (kX2_fails _ _) (cwV 1 C.2.2.1 gX2_setGreater_X2_fails rfl rfl rfl hvX2_fails ⟨Nat.le_of_ble_eq_true rfl, Nat.le_of_ble_eq_true rfl⟩) 0 rfl rfl (Nat.le_of_ble_eq_true rfl) ⟨(Nat.le_of_ble_eq_true rfl), (Nat.le_of_ble_eq_true rfl)⟩ dX2_setGreater_30 ?_
    refine V_u (fun u30 hu30 => ?_)
    have hfm30 : fm u30 := by rw [← hu30]; exact fm_congr (fr_uX2_fails (by decide)) (fr_uX2_fails (by decide)) hfm2
    have hkc230 : kc2 u30 := by rw [← hu30]; exact kc2_congr (fr_uX2_fails (by decide)) hkc22
    have hly30 : ly u30 := by rw [← hu30]; exact ly_congr (fr_uX2_fails (by decide)) (fr_uX2_fails (by decide)) (fr_uX2_fails (by decide)) hly2
    subst hu30
    subst hu2
    exact V_iret C rfl (vp_nar_int _) ((if_pos h10).trans rfl) ((if_pos h10).trans rfl) dX2_setGreater_33
  ·
    refine V_iload_n C dX2_setGreater_13 rfl 3 rfl ?_
    refine V_cSi1 C xT_ok (kX2_isCell _ _) (va_cwS 1 C.2.2.1 gX2_setGreater_X2_isCell rfl rfl rfl hdX2_isCell ⟨Nat.le_of_ble_eq_true rfl, Nat.le_of_ble_eq_true rfl⟩) (Nat.le_of_ble_eq_true rfl) ⟨(Nat.le_of_ble_eq_true rfl), (Nat.le_of_ble_eq_true rfl)⟩ dX2_setGreater_14 ?_
    refine V_if_eq (tgt := 28) C dX2_setGreater_17 (by decide) (fun h17 => ?_) (fun h17 => ?_)
    ·
      refine V_aload_n C dX2_setGreater_28 rfl 0 rfl ?_
      refine V_iconst (v := 1) C dX2_setGreater_29 (by decide) ?_
      refine V_cVi1 C xT_ok (kX2_fails _ _) (cwV 1 C.2.2.1 gX2_setGreater_X2_fails rfl rfl rfl hvX2_fails ⟨Nat.le_of_ble_eq_true rfl, Nat.le_of_ble_eq_true rfl⟩) 0 rfl rfl (Nat.le_of_ble_eq_true rfl) ⟨(Nat.le_of_ble_eq_true rfl), (Nat.le_of_ble_eq_true rfl)⟩ dX2_setGreater_30 ?_
      refine V_u (fun u30 hu30 => ?_)
      have hfm30 : fm u30 := by rw [← hu30]; exact fm_congr (fr_uX2_fails (by decide)) (fr_uX2_fails (by decide)) hfm2
      have hkc230 : kc2 u30 := by rw [← hu30]; exact kc2_congr (fr_uX2_fails (by decide)) hkc22
      have hly30 : ly u30 := by rw [← hu30]; exact ly_congr (fr_uX2_fails (by decide)) (fr_uX2_fails (by decide)) (fr_uX2_fails (by decide)) hly2
      subst hu30
      subst hu2
      exact V_iret C rfl (vp_nar_int _) ((if_neg h10).trans ((if_pos h17).trans rfl)) ((if_neg h10).trans ((if_pos h17).trans rfl)) dX2_setGreater_33
    ·
      refine V_iload C dX2_setGreater_20 4 rfl ?_
      refine V_cSi1 C xT_ok (kX2_isCell _ _) (va_cwS 1 C.2.2.1 gX2_setGreater_X2_isCell rfl rfl rfl hdX2_isCell ⟨Nat.le_of_ble_eq_true rfl, Nat.le_of_ble_eq_true rfl⟩) (Nat.le_of_ble_eq_true rfl) ⟨(Nat.le_of_ble_eq_true rfl), (Nat.le_of_ble_eq_true rfl)⟩ dX2_setGreater_22 ?_
      refine V_if_ne (tgt := 34) C dX2_setGreater_25 (by decide) (fun h25 => ?_) (fun h25 => ?_)
      ·
        refine V_aload_n C dX2_setGreater_34 rfl 0 rfl ?_
        refine V_iload_n C dX2_setGreater_35 rfl 3 rfl ?_
        refine V_iload_n C dX2_setGreater_36 rfl 2 rfl ?_
        refine V_cVi2 C xT_ok (kX2_reaches _ _ _ (vqX2_isCell h17) (vqX2_isCaller2 h10) hfm2) (cwV 2 C.2.2.1 gX2_setGreater_X2_reaches rfl rfl rfl hvX2_reaches ⟨Nat.le_of_ble_eq_true rfl, Nat.le_of_ble_eq_true rfl⟩) 0 rfl rfl (Nat.le_of_ble_eq_true rfl) ⟨(Nat.le_of_ble_eq_true rfl), (Nat.le_of_ble_eq_true rfl)⟩ dX2_setGreater_37 ?_
        refine V_u (fun u37 hu37 => ?_)
        have hfm37 : fm u37 := by rw [← hu37]; exact fm_congr (fr_uX2_reaches (by decide)) (fr_uX2_reaches (by decide)) hfm2
        have hkc237 : kc2 u37 := by rw [← hu37]; exact kc2_congr (fr_uX2_reaches (by decide)) hkc22
        have hly37 : ly u37 := by rw [← hu37]; exact ly_congr (fr_uX2_reaches (by decide)) (fr_uX2_reaches (by decide)) (fr_uX2_reaches (by decide)) hly2
        refine V_if_ne (tgt := 53) C dX2_setGreater_40 (by decide) (fun h40 => ?_) (fun h40 => ?_)
        ·
          refine V_aload_n C dX2_setGreater_53 rfl 0 rfl ?_
          refine V_iconst (v := 2) C dX2_setGreater_54 (by decide) ?_
          refine V_cVi1 C xT_ok (kX2_fails _ _) (cwV 1 C.2.2.1 gX2_setGreater_X2_fails rfl rfl rfl hvX2_fails ⟨Nat.le_of_ble_eq_true rfl, Nat.le_of_ble_eq_true rfl⟩) 0 rfl rfl (Nat.le_of_ble_eq_true rfl) ⟨(Nat.le_of_ble_eq_true rfl), (Nat.le_of_ble_eq_true rfl)⟩ dX2_setGreater_55 ?_
          refine V_u (fun u55 hu55 => ?_)
          have hfm55 : fm u55 := by rw [← hu55]; exact fm_congr (fr_uX2_fails (by decide)) (fr_uX2_fails (by decide)) hfm37
          have hkc255 : kc2 u55 := by rw [← hu55]; exact kc2_congr (fr_uX2_fails (by decide)) hkc237
          have hly55 : ly u55 := by rw [← hu55]; exact ly_congr (fr_uX2_fails (by decide)) (fr_uX2_fails (by decide)) (fr_uX2_fails (by decide)) hly37
          subst hu55
          subst hu37
          subst hu2
          exact V_iret C rfl (vp_nar_int _) ((if_neg h10).trans ((if_neg h17).trans ((if_neg h25).trans ((if_neg h40).trans rfl)))) ((if_neg h10).trans ((if_neg h17).trans ((if_neg h25).trans ((if_neg h40).trans rfl)))) dX2_setGreater_58
        ·
          refine V_aload_n C dX2_setGreater_43 rfl 0 rfl ?_
          refine V_iload C dX2_setGreater_44 4 rfl ?_
          refine V_iload_n C dX2_setGreater_46 rfl 2 rfl ?_
          refine V_cVi2 C xT_ok (kX2_reaches _ _ _ (vqX2_isCell h25) (vqX2_isCaller2 h10) hfm37) (cwV 2 C.2.2.1 gX2_setGreater_X2_reaches rfl rfl rfl hvX2_reaches ⟨Nat.le_of_ble_eq_true rfl, Nat.le_of_ble_eq_true rfl⟩) 0 rfl rfl (Nat.le_of_ble_eq_true rfl) ⟨(Nat.le_of_ble_eq_true rfl), (Nat.le_of_ble_eq_true rfl)⟩ dX2_setGreater_47 ?_
          refine V_u (fun u47 hu47 => ?_)
          have hfm47 : fm u47 := by rw [← hu47]; exact fm_congr (fr_uX2_reaches (by decide)) (fr_uX2_reaches (by decide)) hfm37
          have hkc247 : kc2 u47 := by rw [← hu47]; exact kc2_congr (fr_uX2_reaches (by decide)) hkc237
          have hly47 : ly u47 := by rw [← hu47]; exact ly_congr (fr_uX2_reaches (by decide)) (fr_uX2_reaches (by decide)) (fr_uX2_reaches (by decide)) hly37
          refine V_if_eq (tgt := 59) C dX2_setGreater_50 (by decide) (fun h50 => ?_) (fun h50 => ?_)
          ·
            refine V_aload_n C dX2_setGreater_59 rfl 0 rfl ?_
            refine V_iload_n C dX2_setGreater_60 rfl 1 rfl ?_
            refine V_iload_n C dX2_setGreater_61 rfl 2 rfl ?_
            refine V_iconst (v := 2) C dX2_setGreater_62 (by decide) ?_
            refine V_iload_n C dX2_setGreater_63 rfl 3 rfl ?_
            refine V_iload C dX2_setGreater_64 4 rfl ?_
            refine V_iconst (v := 0) C dX2_setGreater_66 (by decide) ?_
            refine V_cVi6 C xT_ok (kX2_change _ _ _ _ _ _ _ (vqX2_isCaller1 h10) (vqX2_isCaller2 h10) (vqX2_isCell h17) (vqX2_isCell h25) hfm47 hkc247 (ly_chg_two hfm2 hly2 (vqX2_isCaller2 h10) (vqX2_isCell h17) (vqX2_isCell h25) h40 hu37 h50 hu47)) (cwV 6 C.2.2.1 gX2_setGreater_X2_change rfl rfl rfl hvX2_change ⟨Nat.le_of_ble_eq_true rfl, Nat.le_of_ble_eq_true rfl⟩) 0 rfl rfl (Nat.le_of_ble_eq_true rfl) ⟨(Nat.le_of_ble_eq_true rfl), (Nat.le_of_ble_eq_true rfl)⟩ dX2_setGreater_67 ?_
            refine V_u (fun u67 hu67 => ?_)
            subst hu67
            subst hu47
            subst hu37
            subst hu2
            exact V_iret C rfl (vp_nar_int _) ((if_neg h10).trans ((if_neg h17).trans ((if_neg h25).trans ((if_pos h40).trans ((if_pos h50).trans rfl))))) ((if_neg h10).trans ((if_neg h17).trans ((if_neg h25).trans ((if_pos h40).trans ((if_pos h50).trans rfl))))) dX2_setGreater_70
          ·
            refine V_aload_n C dX2_setGreater_53 rfl 0 rfl ?_
            refine V_iconst (v := 2) C dX2_setGreater_54 (by decide) ?_
            refine V_cVi1 C xT_ok (kX2_fails _ _) (cwV 1 C.2.2.1 gX2_setGreater_X2_fails rfl rfl rfl hvX2_fails ⟨Nat.le_of_ble_eq_true rfl, Nat.le_of_ble_eq_true rfl⟩) 0 rfl rfl (Nat.le_of_ble_eq_true rfl) ⟨(Nat.le_of_ble_eq_true rfl), (Nat.le_of_ble_eq_true rfl)⟩ dX2_setGreater_55 ?_
            refine V_u (fun u55 hu55 => ?_)
            have hfm55 : fm u55 := by rw [← hu55]; exact fm_congr (fr_uX2_fails (by decide)) (fr_uX2_fails (by decide)) hfm47
            have hkc255 : kc2 u55 := by rw [← hu55]; exact kc2_congr (fr_uX2_fails (by decide)) hkc247
            have hly55 : ly u55 := by rw [← hu55]; exact ly_congr (fr_uX2_fails (by decide)) (fr_uX2_fails (by decide)) (fr_uX2_fails (by decide)) hly47
            subst hu55
            subst hu47
            subst hu37
            subst hu2
            exact V_iret C rfl (vp_nar_int _) ((if_neg h10).trans ((if_neg h17).trans ((if_neg h25).trans ((if_pos h40).trans ((if_neg h50).trans rfl))))) ((if_neg h10).trans ((if_neg h17).trans ((if_neg h25).trans ((if_pos h40).trans ((if_neg h50).trans rfl))))) dX2_setGreater_58
      ·
        refine V_aload_n C dX2_setGreater_28 rfl 0 rfl ?_
        refine V_iconst (v := 1) C dX2_setGreater_29 (by decide) ?_
        refine V_cVi1 C xT_ok (kX2_fails _ _) (cwV 1 C.2.2.1 gX2_setGreater_X2_fails rfl rfl rfl hvX2_fails ⟨Nat.le_of_ble_eq_true rfl, Nat.le_of_ble_eq_true rfl⟩) 0 rfl rfl (Nat.le_of_ble_eq_true rfl) ⟨(Nat.le_of_ble_eq_true rfl), (Nat.le_of_ble_eq_true rfl)⟩ dX2_setGreater_30 ?_
        refine V_u (fun u30 hu30 => ?_)
        have hfm30 : fm u30 := by rw [← hu30]; exact fm_congr (fr_uX2_fails (by decide)) (fr_uX2_fails (by decide)) hfm2
        have hkc230 : kc2 u30 := by rw [← hu30]; exact kc2_congr (fr_uX2_fails (by decide)) hkc22
        have hly30 : ly u30 := by rw [← hu30]; exact ly_congr (fr_uX2_fails (by decide)) (fr_uX2_fails (by decide)) (fr_uX2_fails (by decide)) hly2
        subst hu30
        subst hu2
        exact V_iret C rfl (vp_nar_int _) ((if_neg h10).trans ((if_neg h17).trans ((if_pos h25).trans rfl))) ((if_neg h10).trans ((if_neg h17).trans ((if_pos h25).trans rfl))) dX2_setGreater_33
theorem hdX2_setTimes : yX2_setTimes.cls ≠ "java/lang/invoke/MethodHandle" ∧ yX2_setTimes.cls ≠ "java/lang/invoke/VarHandle" ∧ (parseMethodDescriptor yX2_setTimes.desc).map (fun d => d.parameters.length) = some 4 := by decide +kernel
theorem hvX2_setTimes : yX2_setTimes.cls = RX2 ∧ yX2_setTimes.cls ≠ "java/lang/invoke/MethodHandle" ∧ yX2_setTimes.cls ≠ "java/lang/invoke/VarHandle" ∧ (parseMethodDescriptor yX2_setTimes.desc).map (fun d => d.parameters.length) = some 4 := by decide +kernel
theorem hinX2_setTimes_X2 : ∀ w ∈ u_ws RX2 TX2 18, w ∈ wsX2_setTimes := by decide +kernel
theorem hfX2_setTimes_58 : Cond.fieldLink RX2 58 "MeteredSheetsModel" "thrown" "I" ∈ wsX2_setTimes := by decide +kernel
set_option maxHeartbeats 4000000 in
theorem kX2_setTimes {l : Launch} {D : va_G} {cI : ClassId} {ad : Nat → Nat} (u : vM) (a1 : Int32) (a2 : Int32) (a3 : Int32) (a4 : Int32) (hp0 : fm u) (hp1 : kc2 u) (hp2 : ly u) : mI D vwCl (tyM cI) xT (wM cI ad) l yX2_setTimes wsX2_setTimes rmX2_setTimes [.ref (ad 0), .int a1, .int a2, .int a3, .int a4] u (rX2_setTimes u a1 a2 a3 a4) (uX2_setTimes u a1 a2 a3 a4) := by
  refine mI_of (cc := cX2_setTimes) (maxL := 5) (ret := (some .int)) (own := RX2) rfl (by decide) rfl (wM_ok cI ad) (Nat.le_of_ble_eq_true rfl) (fun p e s m args below meth c A C => ?_)
  refine V_ls (ls' := [(0, .ref (ad 0)), (1, .int a1), (2, .int a2), (3, .int a3), (4, .int a4)]) rfl ?_
  refine V_aload_n C dX2_setTimes_0 rfl 0 rfl ?_
  refine V_iconst (v := 0) C dX2_setTimes_1 (by decide) ?_
  refine V_put (Cn := RX2) (T := TX2) (N := 18) C hinX2_setTimes_X2 tyX2 tyX2_ok nmX2 0 rfl rfl 17 (by decide) hfX2_setTimes_58 rfl rfl rfl (Nat.le_of_ble_eq_true rfl) wM_s18 dX2_setTimes_2 ?_
  refine V_u (fun u2 hu2 => ?_)
  have hfm2 : fm u2 := by rw [← hu2]; exact hp0
  have hkc22 : kc2 u2 := by rw [← hu2]; exact hp1
  have hly2 : ly u2 := by rw [← hu2]; exact hp2
  refine V_iload_n C dX2_setTimes_5 rfl 1 rfl ?_
  refine V_iload_n C dX2_setTimes_6 rfl 2 rfl ?_
  refine V_cSi2 C xT_ok (kX2_isCaller _ _ _) (va_cwS 2 C.2.2.1 gX2_setTimes_X2_isCaller rfl rfl rfl hdX2_isCaller ⟨Nat.le_of_ble_eq_true rfl, Nat.le_of_ble_eq_true rfl⟩) (Nat.le_of_ble_eq_true rfl) ⟨(Nat.le_of_ble_eq_true rfl), (Nat.le_of_ble_eq_true rfl)⟩ dX2_setTimes_7 ?_
  refine V_if_eq (tgt := 32) C dX2_setTimes_10 (by decide) (fun h10 => ?_) (fun h10 => ?_)
  ·
    refine V_aload_n C dX2_setTimes_32 rfl 0 rfl ?_
    refine V_iconst (v := 1) C dX2_setTimes_33 (by decide) ?_
    refine V_cVi1 C xT_ok (kX2_fails _ _) (cwV 1 C.2.2.1 gX2_setTimes_X2_fails rfl rfl rfl hvX2_fails ⟨Nat.le_of_ble_eq_true rfl, Nat.le_of_ble_eq_true rfl⟩) 0 rfl rfl (Nat.le_of_ble_eq_true rfl) ⟨(Nat.le_of_ble_eq_true rfl), (Nat.le_of_ble_eq_true rfl)⟩ dX2_setTimes_34 ?_
    refine V_u (fun u34 hu34 => ?_)
    have hfm34 : fm u34 := by rw [← hu34]; exact fm_congr (fr_uX2_fails (by decide)) (fr_uX2_fails (by decide)) hfm2
    have hkc234 : kc2 u34 := by rw [← hu34]; exact kc2_congr (fr_uX2_fails (by decide)) hkc22
    have hly34 : ly u34 := by rw [← hu34]; exact ly_congr (fr_uX2_fails (by decide)) (fr_uX2_fails (by decide)) (fr_uX2_fails (by decide)) hly2
    subst hu34
    subst hu2
    exact V_iret C rfl (vp_nar_int _) ((if_pos h10).trans rfl) ((if_pos h10).trans rfl) dX2_setTimes_37
  ·
    refine V_iload_n C dX2_setTimes_13 rfl 3 rfl ?_
    refine V_cSi1 C xT_ok (kX2_isCell _ _) (va_cwS 1 C.2.2.1 gX2_setTimes_X2_isCell rfl rfl rfl hdX2_isCell ⟨Nat.le_of_ble_eq_true rfl, Nat.le_of_ble_eq_true rfl⟩) (Nat.le_of_ble_eq_true rfl) ⟨(Nat.le_of_ble_eq_true rfl), (Nat.le_of_ble_eq_true rfl)⟩ dX2_setTimes_14 ?_
    refine V_if_eq (tgt := 32) C dX2_setTimes_17 (by decide) (fun h17 => ?_) (fun h17 => ?_)
    ·
      refine V_aload_n C dX2_setTimes_32 rfl 0 rfl ?_
      refine V_iconst (v := 1) C dX2_setTimes_33 (by decide) ?_
      refine V_cVi1 C xT_ok (kX2_fails _ _) (cwV 1 C.2.2.1 gX2_setTimes_X2_fails rfl rfl rfl hvX2_fails ⟨Nat.le_of_ble_eq_true rfl, Nat.le_of_ble_eq_true rfl⟩) 0 rfl rfl (Nat.le_of_ble_eq_true rfl) ⟨(Nat.le_of_ble_eq_true rfl), (Nat.le_of_ble_eq_true rfl)⟩ dX2_setTimes_34 ?_
      refine V_u (fun u34 hu34 => ?_)
      have hfm34 : fm u34 := by rw [← hu34]; exact fm_congr (fr_uX2_fails (by decide)) (fr_uX2_fails (by decide)) hfm2
      have hkc234 : kc2 u34 := by rw [← hu34]; exact kc2_congr (fr_uX2_fails (by decide)) hkc22
      have hly34 : ly u34 := by rw [← hu34]; exact ly_congr (fr_uX2_fails (by decide)) (fr_uX2_fails (by decide)) (fr_uX2_fails (by decide)) hly2
      subst hu34
      subst hu2
      exact V_iret C rfl (vp_nar_int _) ((if_neg h10).trans ((if_pos h17).trans rfl)) ((if_neg h10).trans ((if_pos h17).trans rfl)) dX2_setTimes_37
    ·
      refine V_iload C dX2_setTimes_20 4 rfl ?_
      refine V_bipush (v := (-100)) C dX2_setTimes_22 (by decide) ?_
      refine V_bipush (v := 100) C dX2_setTimes_24 (by decide) ?_
      refine V_cSi3 C xT_ok (kX2_in _ _ _ _) (va_cwS 3 C.2.2.1 gX2_setTimes_X2_in rfl rfl rfl hdX2_in ⟨Nat.le_of_ble_eq_true rfl, Nat.le_of_ble_eq_true rfl⟩) (Nat.le_of_ble_eq_true rfl) ⟨(Nat.le_of_ble_eq_true rfl), (Nat.le_of_ble_eq_true rfl)⟩ dX2_setTimes_26 ?_
      refine V_if_ne (tgt := 38) C dX2_setTimes_29 (by decide) (fun h29 => ?_) (fun h29 => ?_)
      ·
        refine V_aload_n C dX2_setTimes_38 rfl 0 rfl ?_
        refine V_iload_n C dX2_setTimes_39 rfl 3 rfl ?_
        refine V_iload_n C dX2_setTimes_40 rfl 2 rfl ?_
        refine V_cVi2 C xT_ok (kX2_reaches _ _ _ (vqX2_isCell h17) (vqX2_isCaller2 h10) hfm2) (cwV 2 C.2.2.1 gX2_setTimes_X2_reaches rfl rfl rfl hvX2_reaches ⟨Nat.le_of_ble_eq_true rfl, Nat.le_of_ble_eq_true rfl⟩) 0 rfl rfl (Nat.le_of_ble_eq_true rfl) ⟨(Nat.le_of_ble_eq_true rfl), (Nat.le_of_ble_eq_true rfl)⟩ dX2_setTimes_41 ?_
        refine V_u (fun u41 hu41 => ?_)
        have hfm41 : fm u41 := by rw [← hu41]; exact fm_congr (fr_uX2_reaches (by decide)) (fr_uX2_reaches (by decide)) hfm2
        have hkc241 : kc2 u41 := by rw [← hu41]; exact kc2_congr (fr_uX2_reaches (by decide)) hkc22
        have hly41 : ly u41 := by rw [← hu41]; exact ly_congr (fr_uX2_reaches (by decide)) (fr_uX2_reaches (by decide)) (fr_uX2_reaches (by decide)) hly2
        refine V_if_eq (tgt := 53) C dX2_setTimes_44 (by decide) (fun h44 => ?_) (fun h44 => ?_)
        ·
          refine V_aload_n C dX2_setTimes_53 rfl 0 rfl ?_
          refine V_iload_n C dX2_setTimes_54 rfl 1 rfl ?_
          refine V_iload_n C dX2_setTimes_55 rfl 2 rfl ?_
          refine V_iconst (v := 3) C dX2_setTimes_56 (by decide) ?_
          refine V_iload_n C dX2_setTimes_57 rfl 3 rfl ?_
          refine V_iload_n C dX2_setTimes_58 rfl 3 rfl ?_
          refine V_iload C dX2_setTimes_59 4 rfl ?_
          refine V_cVi6 C xT_ok (kX2_change _ _ _ _ _ _ _ (vqX2_isCaller1 h10) (vqX2_isCaller2 h10) (vqX2_isCell h17) (vqX2_isCell h17) hfm41 hkc241 (ly_chg_one hfm2 hly2 (vqX2_isCaller2 h10) (vqX2_isCell h17) h44 hu41)) (cwV 6 C.2.2.1 gX2_setTimes_X2_change rfl rfl rfl hvX2_change ⟨Nat.le_of_ble_eq_true rfl, Nat.le_of_ble_eq_true rfl⟩) 0 rfl rfl (Nat.le_of_ble_eq_true rfl) ⟨(Nat.le_of_ble_eq_true rfl), (Nat.le_of_ble_eq_true rfl)⟩ dX2_setTimes_61 ?_
          refine V_u (fun u61 hu61 => ?_)
          subst hu61
          subst hu41
          subst hu2
          exact V_iret C rfl (vp_nar_int _) ((if_neg h10).trans ((if_neg h17).trans ((if_neg h29).trans ((if_pos h44).trans rfl)))) ((if_neg h10).trans ((if_neg h17).trans ((if_neg h29).trans ((if_pos h44).trans rfl)))) dX2_setTimes_64
        ·
          refine V_aload_n C dX2_setTimes_47 rfl 0 rfl ?_
          refine V_iconst (v := 2) C dX2_setTimes_48 (by decide) ?_
          refine V_cVi1 C xT_ok (kX2_fails _ _) (cwV 1 C.2.2.1 gX2_setTimes_X2_fails rfl rfl rfl hvX2_fails ⟨Nat.le_of_ble_eq_true rfl, Nat.le_of_ble_eq_true rfl⟩) 0 rfl rfl (Nat.le_of_ble_eq_true rfl) ⟨(Nat.le_of_ble_eq_true rfl), (Nat.le_of_ble_eq_true rfl)⟩ dX2_setTimes_49 ?_
          refine V_u (fun u49 hu49 => ?_)
          have hfm49 : fm u49 := by rw [← hu49]; exact fm_congr (fr_uX2_fails (by decide)) (fr_uX2_fails (by decide)) hfm41
          have hkc249 : kc2 u49 := by rw [← hu49]; exact kc2_congr (fr_uX2_fails (by decide)) hkc241
          have hly49 : ly u49 := by rw [← hu49]; exact ly_congr (fr_uX2_fails (by decide)) (fr_uX2_fails (by decide)) (fr_uX2_fails (by decide)) hly41
          subst hu49
          subst hu41
          subst hu2
          exact V_iret C rfl (vp_nar_int _) ((if_neg h10).trans ((if_neg h17).trans ((if_neg h29).trans ((if_neg h44).trans rfl)))) ((if_neg h10).trans ((if_neg h17).trans ((if_neg h29).trans ((if_neg h44).trans rfl)))) dX2_setTimes_52
      ·
        refine V_aload_n C dX2_setTimes_32 rfl 0 rfl ?_
        refine V_iconst (v := 1) C dX2_setTimes_33 (by decide) ?_
        refine V_cVi1 C xT_ok (kX2_fails _ _) (cwV 1 C.2.2.1 gX2_setTimes_X2_fails rfl rfl rfl hvX2_fails ⟨Nat.le_of_ble_eq_true rfl, Nat.le_of_ble_eq_true rfl⟩) 0 rfl rfl (Nat.le_of_ble_eq_true rfl) ⟨(Nat.le_of_ble_eq_true rfl), (Nat.le_of_ble_eq_true rfl)⟩ dX2_setTimes_34 ?_
        refine V_u (fun u34 hu34 => ?_)
        have hfm34 : fm u34 := by rw [← hu34]; exact fm_congr (fr_uX2_fails (by decide)) (fr_uX2_fails (by decide)) hfm2
        have hkc234 : kc2 u34 := by rw [← hu34]; exact kc2_congr (fr_uX2_fails (by decide)) hkc22
        have hly34 : ly u34 := by rw [← hu34]; exact ly_congr (fr_uX2_fails (by decide)) (fr_uX2_fails (by decide)) (fr_uX2_fails (by decide)) hly2
        subst hu34
        subst hu2
        exact V_iret C rfl (vp_nar_int _) ((if_neg h10).trans ((if_neg h17).trans ((if_pos h29).trans rfl))) ((if_neg h10).trans ((if_neg h17).trans ((if_pos h29).trans rfl))) dX2_setTimes_37
theorem hdX2_refresh : yX2_refresh.cls ≠ "java/lang/invoke/MethodHandle" ∧ yX2_refresh.cls ≠ "java/lang/invoke/VarHandle" ∧ (parseMethodDescriptor yX2_refresh.desc).map (fun d => d.parameters.length) = some 1 := by decide +kernel
theorem hvX2_refresh : yX2_refresh.cls = RX2 ∧ yX2_refresh.cls ≠ "java/lang/invoke/MethodHandle" ∧ yX2_refresh.cls ≠ "java/lang/invoke/VarHandle" ∧ (parseMethodDescriptor yX2_refresh.desc).map (fun d => d.parameters.length) = some 1 := by decide +kernel
theorem hinX2_refresh_X2 : ∀ w ∈ u_ws RX2 TX2 18, w ∈ wsX2_refresh := by decide +kernel
theorem hfX2_refresh_58 : Cond.fieldLink RX2 58 "MeteredSheetsModel" "thrown" "I" ∈ wsX2_refresh := by decide +kernel
theorem hfX2_refresh_28 : Cond.fieldLink RX2 28 "MeteredSheetsModel" "changed" "[I" ∈ wsX2_refresh := by decide +kernel
set_option maxHeartbeats 4000000 in
theorem qX2_refresh_22 (C : vC p s m args meth c D vwCl (tyM cI) xT A (wM cI ad) cX2_refresh RX2 wsX2_refresh 3 (some .int)) {Q : State → Prop} (a1 : Int32) : ∀ (n k : Nat), k + n = 24 → ∀ (u : vM), fm u → kc2 u → ly u → (∀ r : vM, lpX2_refresh_22 n k u = r → fm r → kc2 r → ly r → V p l e rmX2_refresh s m args below meth c D vwCl A (wM cI ad) 3 0 0 Q r 41 [(0, .ref (ad 0)), (1, .int a1), (2, .int (nI 24))] []) → V p l e rmX2_refresh s m args below meth c D vwCl A (wM cI ad) 3 0 0 Q u 22 [(0, .ref (ad 0)), (1, .int a1), (2, .int (nI k))] [] := by
  intro n
  induction n with
  | zero =>
    intro k hk u hi0 hi1 hi2 KK
    obtain rfl : k = 24 := by omega
    refine V_iload_n C dX2_refresh_22 rfl 2 rfl ?_
    refine V_bipush (v := 24) C dX2_refresh_23 (by decide) ?_
    refine V_icmp_ge (tgt := 41) C dX2_refresh_25 (by decide) (fun _ => ?_) (fun h => absurd (by decide : (24 : Int32) ≤ nI 24) h)
    exact KK _ rfl hi0 hi1 hi2
  | succ n ih =>
    intro k hk u hi0 hi1 hi2 KK
    have hkB : k < 24 := by omega
    refine V_iload_n C dX2_refresh_22 rfl 2 rfl ?_
    refine V_bipush (v := 24) C dX2_refresh_23 (by decide) ?_
    refine V_icmp_ge (tgt := 41) C dX2_refresh_25 (by decide) (fun h => absurd h (nI_ge hkB (by decide))) (fun _ => ?_)
    refine V_aload_n C dX2_refresh_28 rfl 0 rfl ?_
    refine V_get (Cn := RX2) (T := TX2) (N := 18) C hinX2_refresh_X2 0 rfl rfl 6 (by decide) hfX2_refresh_28 rfl rfl dX2_refresh_29 ?_
    refine V_iload_n C dX2_refresh_32 rfl 2 rfl ?_
    refine V_iconst (v := 0) C dX2_refresh_33 (by decide) ?_
    refine Vm_iast C 7 0 rfl rfl (vp_in_nI hkB (by decide)) wM_s7 dX2_refresh_34 ?_
    refine V_u (fun u34 hu34 => ?_)
    have hfm34 : fm u34 := by rw [← hu34]; exact hi0
    have hkc234 : kc2 u34 := by rw [← hu34]; exact hi1
    have hly34 : ly u34 := by rw [← hu34]; exact hi2
    refine V_iinc (v := (nI (k + 1))) (ls' := [(0, .ref (ad 0)), (1, .int a1), (2, .int (nI (k + 1)))]) C dX2_refresh_35 2 rfl (nI_1 k) (by decide) rfl rfl ?_
    refine V_goto (tgt := 22) C dX2_refresh_38 (by decide) ?_
    subst hu34
    exact ih (k + 1) (by omega) _ hfm34 hkc234 hly34 (fun r hr => KK r (rfl.trans hr))
set_option maxHeartbeats 4000000 in
theorem kX2_refresh {l : Launch} {D : va_G} {cI : ClassId} {ad : Nat → Nat} (u : vM) (a1 : Int32) (hp0 : fm u) (hp1 : kc2 u) (hp2 : ly u) : mI D vwCl (tyM cI) xT (wM cI ad) l yX2_refresh wsX2_refresh rmX2_refresh [.ref (ad 0), .int a1] u (rX2_refresh u a1) (uX2_refresh u a1) := by
  refine mI_of (cc := cX2_refresh) (maxL := 3) (ret := (some .int)) (own := RX2) rfl (by decide) rfl (wM_ok cI ad) (Nat.le_of_ble_eq_true rfl) (fun p e s m args below meth c A C => ?_)
  refine V_ls (ls' := [(0, .ref (ad 0)), (1, .int a1)]) rfl ?_
  refine V_aload_n C dX2_refresh_0 rfl 0 rfl ?_
  refine V_iconst (v := 0) C dX2_refresh_1 (by decide) ?_
  refine V_put (Cn := RX2) (T := TX2) (N := 18) C hinX2_refresh_X2 tyX2 tyX2_ok nmX2 0 rfl rfl 17 (by decide) hfX2_refresh_58 rfl rfl rfl (Nat.le_of_ble_eq_true rfl) wM_s18 dX2_refresh_2 ?_
  refine V_u (fun u2 hu2 => ?_)
  have hfm2 : fm u2 := by rw [← hu2]; exact hp0
  have hkc22 : kc2 u2 := by rw [← hu2]; exact hp1
  have hly2 : ly u2 := by rw [← hu2]; exact hp2
  refine V_iload_n C dX2_refresh_5 rfl 1 rfl ?_
  refine V_iconst (v := 0) C dX2_refresh_6 (by decide) ?_
  refine V_iconst (v := 4) C dX2_refresh_7 (by decide) ?_
  refine V_cSi3 C xT_ok (kX2_in _ _ _ _) (va_cwS 3 C.2.2.1 gX2_refresh_X2_in rfl rfl rfl hdX2_in ⟨Nat.le_of_ble_eq_true rfl, Nat.le_of_ble_eq_true rfl⟩) (Nat.le_of_ble_eq_true rfl) ⟨(Nat.le_of_ble_eq_true rfl), (Nat.le_of_ble_eq_true rfl)⟩ dX2_refresh_8 ?_
  refine V_if_ne (tgt := 20) C dX2_refresh_11 (by decide) (fun h11 => ?_) (fun h11 => ?_)
  ·
    refine V_iconst (v := 0) C dX2_refresh_20 (by decide) ?_
    refine V_istore_n (ls' := [(0, .ref (ad 0)), (1, .int a1), (2, .int 0)]) C dX2_refresh_21 rfl (by decide) rfl rfl ?_
    refine V_sub (ls' := [(0, .ref (ad 0)), (1, .int a1), (2, .int 0)]) [0, 1, 2] rfl ?_
    refine qX2_refresh_22 C a1 24 0 (by decide) u2 hfm2 hkc22 hly2 (fun r22 hr22 hi0_22 hi1_22 hi2_22 => ?_)
    refine V_aload_n C dX2_refresh_41 rfl 0 rfl ?_
    refine V_iload_n C dX2_refresh_42 rfl 1 rfl ?_
    refine V_iconst (v := 1) C dX2_refresh_43 (by decide) ?_
    refine V_cVi2 C xT_ok (kX2_goThrough _ _ _ (vqX2_in5 h11) hi0_22 hi1_22 hi2_22) (cwV 2 C.2.2.1 gX2_refresh_X2_goThrough rfl rfl rfl hvX2_goThrough ⟨Nat.le_of_ble_eq_true rfl, Nat.le_of_ble_eq_true rfl⟩) 0 rfl rfl (Nat.le_of_ble_eq_true rfl) ⟨(Nat.le_of_ble_eq_true rfl), (Nat.le_of_ble_eq_true rfl)⟩ dX2_refresh_44 ?_
    refine V_u (fun u44 hu44 => ?_)
    have hfm44 : fm u44 := by rw [← hu44]; exact fm_congr (fr_uX2_goThrough (by decide) (by decide) (by decide) (by decide) (by decide) (by decide) (by decide) (by decide) (by decide) (by decide) (by decide)) (fr_uX2_goThrough (by decide) (by decide) (by decide) (by decide) (by decide) (by decide) (by decide) (by decide) (by decide) (by decide) (by decide)) hi0_22
    have hly44 : ly u44 := by rw [← hu44]; exact ly_congr (fr_uX2_goThrough (by decide) (by decide) (by decide) (by decide) (by decide) (by decide) (by decide) (by decide) (by decide) (by decide) (by decide)) (fr_uX2_goThrough (by decide) (by decide) (by decide) (by decide) (by decide) (by decide) (by decide) (by decide) (by decide) (by decide) (by decide)) (fr_uX2_goThrough (by decide) (by decide) (by decide) (by decide) (by decide) (by decide) (by decide) (by decide) (by decide) (by decide) (by decide)) hi2_22
    subst hu44
    subst hr22
    subst hu2
    exact V_iret C rfl (vp_nar_int _) ((if_neg h11).trans rfl) ((if_neg h11).trans rfl) dX2_refresh_47
  ·
    refine V_aload_n C dX2_refresh_14 rfl 0 rfl ?_
    refine V_iconst (v := 1) C dX2_refresh_15 (by decide) ?_
    refine V_cVi1 C xT_ok (kX2_fails _ _) (cwV 1 C.2.2.1 gX2_refresh_X2_fails rfl rfl rfl hvX2_fails ⟨Nat.le_of_ble_eq_true rfl, Nat.le_of_ble_eq_true rfl⟩) 0 rfl rfl (Nat.le_of_ble_eq_true rfl) ⟨(Nat.le_of_ble_eq_true rfl), (Nat.le_of_ble_eq_true rfl)⟩ dX2_refresh_16 ?_
    refine V_u (fun u16 hu16 => ?_)
    have hfm16 : fm u16 := by rw [← hu16]; exact fm_congr (fr_uX2_fails (by decide)) (fr_uX2_fails (by decide)) hfm2
    have hkc216 : kc2 u16 := by rw [← hu16]; exact kc2_congr (fr_uX2_fails (by decide)) hkc22
    have hly16 : ly u16 := by rw [← hu16]; exact ly_congr (fr_uX2_fails (by decide)) (fr_uX2_fails (by decide)) (fr_uX2_fails (by decide)) hly2
    subst hu16
    subst hu2
    exact V_iret C rfl (vp_nar_int _) ((if_pos h11).trans rfl) ((if_pos h11).trans rfl) dX2_refresh_19
theorem hdX2_setPrice : yX2_setPrice.cls ≠ "java/lang/invoke/MethodHandle" ∧ yX2_setPrice.cls ≠ "java/lang/invoke/VarHandle" ∧ (parseMethodDescriptor yX2_setPrice.desc).map (fun d => d.parameters.length) = some 2 := by decide +kernel
theorem hvX2_setPrice : yX2_setPrice.cls = RX2 ∧ yX2_setPrice.cls ≠ "java/lang/invoke/MethodHandle" ∧ yX2_setPrice.cls ≠ "java/lang/invoke/VarHandle" ∧ (parseMethodDescriptor yX2_setPrice.desc).map (fun d => d.parameters.length) = some 2 := by decide +kernel
theorem hinX2_setPrice_X2 : ∀ w ∈ u_ws RX2 TX2 18, w ∈ wsX2_setPrice := by decide +kernel
theorem hfX2_setPrice_58 : Cond.fieldLink RX2 58 "MeteredSheetsModel" "thrown" "I" ∈ wsX2_setPrice := by decide +kernel
theorem hfX2_setPrice_40 : Cond.fieldLink RX2 40 "MeteredSheetsModel" "prices" "[I" ∈ wsX2_setPrice := by decide +kernel
set_option maxHeartbeats 4000000 in
theorem kX2_setPrice {l : Launch} {D : va_G} {cI : ClassId} {ad : Nat → Nat} (u : vM) (a1 : Int32) (a2 : Int32) : mI D vwCl (tyM cI) xT (wM cI ad) l yX2_setPrice wsX2_setPrice rmX2_setPrice [.ref (ad 0), .int a1, .int a2] u (rX2_setPrice u a1 a2) (uX2_setPrice u a1 a2) := by
  refine mI_of (cc := cX2_setPrice) (maxL := 4) (ret := (some .int)) (own := RX2) rfl (by decide) rfl (wM_ok cI ad) (Nat.le_of_ble_eq_true rfl) (fun p e s m args below meth c A C => ?_)
  refine V_ls (ls' := [(0, .ref (ad 0)), (1, .int a1), (2, .int a2)]) rfl ?_
  refine V_aload_n C dX2_setPrice_0 rfl 0 rfl ?_
  refine V_iconst (v := 0) C dX2_setPrice_1 (by decide) ?_
  refine V_put (Cn := RX2) (T := TX2) (N := 18) C hinX2_setPrice_X2 tyX2 tyX2_ok nmX2 0 rfl rfl 17 (by decide) hfX2_setPrice_58 rfl rfl rfl (Nat.le_of_ble_eq_true rfl) wM_s18 dX2_setPrice_2 ?_
  refine V_u (fun u2 hu2 => ?_)
  refine V_iload_n C dX2_setPrice_5 rfl 1 rfl ?_
  refine V_cSi1 C xT_ok (kX2_isSheet _ _) (va_cwS 1 C.2.2.1 gX2_setPrice_X2_isSheet rfl rfl rfl hdX2_isSheet ⟨Nat.le_of_ble_eq_true rfl, Nat.le_of_ble_eq_true rfl⟩) (Nat.le_of_ble_eq_true rfl) ⟨(Nat.le_of_ble_eq_true rfl), (Nat.le_of_ble_eq_true rfl)⟩ dX2_setPrice_6 ?_
  refine V_if_eq (tgt := 22) C dX2_setPrice_9 (by decide) (fun h9 => ?_) (fun h9 => ?_)
  ·
    refine V_aload_n C dX2_setPrice_22 rfl 0 rfl ?_
    refine V_iconst (v := 1) C dX2_setPrice_23 (by decide) ?_
    refine V_cVi1 C xT_ok (kX2_fails _ _) (cwV 1 C.2.2.1 gX2_setPrice_X2_fails rfl rfl rfl hvX2_fails ⟨Nat.le_of_ble_eq_true rfl, Nat.le_of_ble_eq_true rfl⟩) 0 rfl rfl (Nat.le_of_ble_eq_true rfl) ⟨(Nat.le_of_ble_eq_true rfl), (Nat.le_of_ble_eq_true rfl)⟩ dX2_setPrice_24 ?_
    refine V_u (fun u24 hu24 => ?_)
    subst hu24
    subst hu2
    exact V_iret C rfl (vp_nar_int _) ((if_pos h9).trans rfl) ((if_pos h9).trans rfl) dX2_setPrice_27
  ·
    refine V_iload_n C dX2_setPrice_12 rfl 2 rfl ?_
    refine V_iconst (v := 0) C dX2_setPrice_13 (by decide) ?_
    refine V_bipush (v := 100) C dX2_setPrice_14 (by decide) ?_
    refine V_cSi3 C xT_ok (kX2_in _ _ _ _) (va_cwS 3 C.2.2.1 gX2_setPrice_X2_in rfl rfl rfl hdX2_in ⟨Nat.le_of_ble_eq_true rfl, Nat.le_of_ble_eq_true rfl⟩) (Nat.le_of_ble_eq_true rfl) ⟨(Nat.le_of_ble_eq_true rfl), (Nat.le_of_ble_eq_true rfl)⟩ dX2_setPrice_16 ?_
    refine V_if_ne (tgt := 28) C dX2_setPrice_19 (by decide) (fun h19 => ?_) (fun h19 => ?_)
    ·
      refine V_aload_n C dX2_setPrice_28 rfl 0 rfl ?_
      refine V_get (Cn := RX2) (T := TX2) (N := 18) C hinX2_setPrice_X2 0 rfl rfl 10 (by decide) hfX2_setPrice_40 rfl rfl dX2_setPrice_29 ?_
      refine V_iload_n C dX2_setPrice_32 rfl 1 rfl ?_
      refine Vm_iald C 11 0 rfl rfl (vqX2_isSheet h9) dX2_setPrice_33 ?_
      refine V_top (fun y34 hy34 => ?_)
      refine V_istore_n (ls' := [(0, .ref (ad 0)), (1, .int a1), (2, .int a2), (3, .int y34)]) C dX2_setPrice_34 rfl (by decide) rfl rfl ?_
      refine V_aload_n C dX2_setPrice_35 rfl 0 rfl ?_
      refine V_get (Cn := RX2) (T := TX2) (N := 18) C hinX2_setPrice_X2 0 rfl rfl 10 (by decide) hfX2_setPrice_40 rfl rfl dX2_setPrice_36 ?_
      refine V_iload_n C dX2_setPrice_39 rfl 1 rfl ?_
      refine V_iload_n C dX2_setPrice_40 rfl 2 rfl ?_
      refine Vm_iast C 11 0 rfl rfl (vqX2_isSheet h9) wM_s11 dX2_setPrice_41 ?_
      refine V_u (fun u41 hu41 => ?_)
      refine V_iload_n C dX2_setPrice_42 rfl 3 rfl ?_
      subst hu41
      subst hy34
      subst hu2
      exact V_iret C rfl (vp_nar_int _) ((if_neg h9).trans ((if_neg h19).trans rfl)) ((if_neg h9).trans ((if_neg h19).trans rfl)) dX2_setPrice_43
    ·
      refine V_aload_n C dX2_setPrice_22 rfl 0 rfl ?_
      refine V_iconst (v := 1) C dX2_setPrice_23 (by decide) ?_
      refine V_cVi1 C xT_ok (kX2_fails _ _) (cwV 1 C.2.2.1 gX2_setPrice_X2_fails rfl rfl rfl hvX2_fails ⟨Nat.le_of_ble_eq_true rfl, Nat.le_of_ble_eq_true rfl⟩) 0 rfl rfl (Nat.le_of_ble_eq_true rfl) ⟨(Nat.le_of_ble_eq_true rfl), (Nat.le_of_ble_eq_true rfl)⟩ dX2_setPrice_24 ?_
      refine V_u (fun u24 hu24 => ?_)
      subst hu24
      subst hu2
      exact V_iret C rfl (vp_nar_int _) ((if_neg h9).trans ((if_pos h19).trans rfl)) ((if_neg h9).trans ((if_pos h19).trans rfl)) dX2_setPrice_27
theorem hdX2_grant : yX2_grant.cls ≠ "java/lang/invoke/MethodHandle" ∧ yX2_grant.cls ≠ "java/lang/invoke/VarHandle" ∧ (parseMethodDescriptor yX2_grant.desc).map (fun d => d.parameters.length) = some 2 := by decide +kernel
theorem hvX2_grant : yX2_grant.cls = RX2 ∧ yX2_grant.cls ≠ "java/lang/invoke/MethodHandle" ∧ yX2_grant.cls ≠ "java/lang/invoke/VarHandle" ∧ (parseMethodDescriptor yX2_grant.desc).map (fun d => d.parameters.length) = some 2 := by decide +kernel
theorem hinX2_grant_X2 : ∀ w ∈ u_ws RX2 TX2 18, w ∈ wsX2_grant := by decide +kernel
theorem hfX2_grant_58 : Cond.fieldLink RX2 58 "MeteredSheetsModel" "thrown" "I" ∈ wsX2_grant := by decide +kernel
theorem hfX2_grant_43 : Cond.fieldLink RX2 43 "MeteredSheetsModel" "budgets" "[I" ∈ wsX2_grant := by decide +kernel
set_option maxHeartbeats 4000000 in
theorem kX2_grant {l : Launch} {D : va_G} {cI : ClassId} {ad : Nat → Nat} (u : vM) (a1 : Int32) (a2 : Int32) : mI D vwCl (tyM cI) xT (wM cI ad) l yX2_grant wsX2_grant rmX2_grant [.ref (ad 0), .int a1, .int a2] u (rX2_grant u a1 a2) (uX2_grant u a1 a2) := by
  refine mI_of (cc := cX2_grant) (maxL := 3) (ret := (some .int)) (own := RX2) rfl (by decide) rfl (wM_ok cI ad) (Nat.le_of_ble_eq_true rfl) (fun p e s m args below meth c A C => ?_)
  refine V_ls (ls' := [(0, .ref (ad 0)), (1, .int a1), (2, .int a2)]) rfl ?_
  refine V_aload_n C dX2_grant_0 rfl 0 rfl ?_
  refine V_iconst (v := 0) C dX2_grant_1 (by decide) ?_
  refine V_put (Cn := RX2) (T := TX2) (N := 18) C hinX2_grant_X2 tyX2 tyX2_ok nmX2 0 rfl rfl 17 (by decide) hfX2_grant_58 rfl rfl rfl (Nat.le_of_ble_eq_true rfl) wM_s18 dX2_grant_2 ?_
  refine V_u (fun u2 hu2 => ?_)
  refine V_iload_n C dX2_grant_5 rfl 1 rfl ?_
  refine V_cSi1 C xT_ok (kX2_isSheet _ _) (va_cwS 1 C.2.2.1 gX2_grant_X2_isSheet rfl rfl rfl hdX2_isSheet ⟨Nat.le_of_ble_eq_true rfl, Nat.le_of_ble_eq_true rfl⟩) (Nat.le_of_ble_eq_true rfl) ⟨(Nat.le_of_ble_eq_true rfl), (Nat.le_of_ble_eq_true rfl)⟩ dX2_grant_6 ?_
  refine V_if_eq (tgt := 23) C dX2_grant_9 (by decide) (fun h9 => ?_) (fun h9 => ?_)
  ·
    refine V_aload_n C dX2_grant_23 rfl 0 rfl ?_
    refine V_iconst (v := 1) C dX2_grant_24 (by decide) ?_
    refine V_cVi1 C xT_ok (kX2_fails _ _) (cwV 1 C.2.2.1 gX2_grant_X2_fails rfl rfl rfl hvX2_fails ⟨Nat.le_of_ble_eq_true rfl, Nat.le_of_ble_eq_true rfl⟩) 0 rfl rfl (Nat.le_of_ble_eq_true rfl) ⟨(Nat.le_of_ble_eq_true rfl), (Nat.le_of_ble_eq_true rfl)⟩ dX2_grant_25 ?_
    refine V_u (fun u25 hu25 => ?_)
    subst hu25
    subst hu2
    exact V_iret C rfl (vp_nar_int _) ((if_pos h9).trans rfl) ((if_pos h9).trans rfl) dX2_grant_28
  ·
    refine V_iload_n C dX2_grant_12 rfl 2 rfl ?_
    refine V_iconst (v := 1) C dX2_grant_13 (by decide) ?_
    refine V_sipush (v := 10000) C dX2_grant_14 (by decide) ?_
    refine V_cSi3 C xT_ok (kX2_in _ _ _ _) (va_cwS 3 C.2.2.1 gX2_grant_X2_in rfl rfl rfl hdX2_in ⟨Nat.le_of_ble_eq_true rfl, Nat.le_of_ble_eq_true rfl⟩) (Nat.le_of_ble_eq_true rfl) ⟨(Nat.le_of_ble_eq_true rfl), (Nat.le_of_ble_eq_true rfl)⟩ dX2_grant_17 ?_
    refine V_if_ne (tgt := 29) C dX2_grant_20 (by decide) (fun h20 => ?_) (fun h20 => ?_)
    ·
      refine V_aload_n C dX2_grant_29 rfl 0 rfl ?_
      refine V_get (Cn := RX2) (T := TX2) (N := 18) C hinX2_grant_X2 0 rfl rfl 11 (by decide) hfX2_grant_43 rfl rfl dX2_grant_30 ?_
      refine V_iload_n C dX2_grant_33 rfl 1 rfl ?_
      refine V_dup2 C dX2_grant_34 rfl rfl ?_
      refine Vm_iald C 12 0 rfl rfl (vqX2_isSheet h9) dX2_grant_35 ?_
      refine V_iload_n C dX2_grant_36 rfl 2 rfl ?_
      refine V_iadd C dX2_grant_37 ?_
      refine Vm_iast C 12 0 rfl rfl (vqX2_isSheet h9) wM_s12 dX2_grant_38 ?_
      refine V_u (fun u38 hu38 => ?_)
      refine V_aload_n C dX2_grant_39 rfl 0 rfl ?_
      refine V_get (Cn := RX2) (T := TX2) (N := 18) C hinX2_grant_X2 0 rfl rfl 11 (by decide) hfX2_grant_43 rfl rfl dX2_grant_40 ?_
      refine V_iload_n C dX2_grant_43 rfl 1 rfl ?_
      refine Vm_iald C 12 0 rfl rfl (vqX2_isSheet h9) dX2_grant_44 ?_
      subst hu38
      subst hu2
      exact V_iret C rfl (vp_nar_int _) ((if_neg h9).trans ((if_neg h20).trans rfl)) ((if_neg h9).trans ((if_neg h20).trans rfl)) dX2_grant_45
    ·
      refine V_aload_n C dX2_grant_23 rfl 0 rfl ?_
      refine V_iconst (v := 1) C dX2_grant_24 (by decide) ?_
      refine V_cVi1 C xT_ok (kX2_fails _ _) (cwV 1 C.2.2.1 gX2_grant_X2_fails rfl rfl rfl hvX2_fails ⟨Nat.le_of_ble_eq_true rfl, Nat.le_of_ble_eq_true rfl⟩) 0 rfl rfl (Nat.le_of_ble_eq_true rfl) ⟨(Nat.le_of_ble_eq_true rfl), (Nat.le_of_ble_eq_true rfl)⟩ dX2_grant_25 ?_
      refine V_u (fun u25 hu25 => ?_)
      subst hu25
      subst hu2
      exact V_iret C rfl (vp_nar_int _) ((if_neg h9).trans ((if_pos h20).trans rfl)) ((if_neg h9).trans ((if_pos h20).trans rfl)) dX2_grant_28
theorem hdX2_budget : yX2_budget.cls ≠ "java/lang/invoke/MethodHandle" ∧ yX2_budget.cls ≠ "java/lang/invoke/VarHandle" ∧ (parseMethodDescriptor yX2_budget.desc).map (fun d => d.parameters.length) = some 1 := by decide +kernel
theorem hvX2_budget : yX2_budget.cls = RX2 ∧ yX2_budget.cls ≠ "java/lang/invoke/MethodHandle" ∧ yX2_budget.cls ≠ "java/lang/invoke/VarHandle" ∧ (parseMethodDescriptor yX2_budget.desc).map (fun d => d.parameters.length) = some 1 := by decide +kernel
theorem hinX2_budget_X2 : ∀ w ∈ u_ws RX2 TX2 18, w ∈ wsX2_budget := by decide +kernel
theorem hfX2_budget_58 : Cond.fieldLink RX2 58 "MeteredSheetsModel" "thrown" "I" ∈ wsX2_budget := by decide +kernel
theorem hfX2_budget_43 : Cond.fieldLink RX2 43 "MeteredSheetsModel" "budgets" "[I" ∈ wsX2_budget := by decide +kernel
set_option maxHeartbeats 4000000 in
theorem kX2_budget {l : Launch} {D : va_G} {cI : ClassId} {ad : Nat → Nat} (u : vM) (a1 : Int32) : mI D vwCl (tyM cI) xT (wM cI ad) l yX2_budget wsX2_budget rmX2_budget [.ref (ad 0), .int a1] u (rX2_budget u a1) (uX2_budget u a1) := by
  refine mI_of (cc := cX2_budget) (maxL := 2) (ret := (some .int)) (own := RX2) rfl (by decide) rfl (wM_ok cI ad) (Nat.le_of_ble_eq_true rfl) (fun p e s m args below meth c A C => ?_)
  refine V_ls (ls' := [(0, .ref (ad 0)), (1, .int a1)]) rfl ?_
  refine V_aload_n C dX2_budget_0 rfl 0 rfl ?_
  refine V_iconst (v := 0) C dX2_budget_1 (by decide) ?_
  refine V_put (Cn := RX2) (T := TX2) (N := 18) C hinX2_budget_X2 tyX2 tyX2_ok nmX2 0 rfl rfl 17 (by decide) hfX2_budget_58 rfl rfl rfl (Nat.le_of_ble_eq_true rfl) wM_s18 dX2_budget_2 ?_
  refine V_u (fun u2 hu2 => ?_)
  refine V_iload_n C dX2_budget_5 rfl 1 rfl ?_
  refine V_cSi1 C xT_ok (kX2_isSheet _ _) (va_cwS 1 C.2.2.1 gX2_budget_X2_isSheet rfl rfl rfl hdX2_isSheet ⟨Nat.le_of_ble_eq_true rfl, Nat.le_of_ble_eq_true rfl⟩) (Nat.le_of_ble_eq_true rfl) ⟨(Nat.le_of_ble_eq_true rfl), (Nat.le_of_ble_eq_true rfl)⟩ dX2_budget_6 ?_
  refine V_if_eq (tgt := 21) C dX2_budget_9 (by decide) (fun h9 => ?_) (fun h9 => ?_)
  ·
    refine V_aload_n C dX2_budget_21 rfl 0 rfl ?_
    refine V_iconst (v := 1) C dX2_budget_22 (by decide) ?_
    refine V_cVi1 C xT_ok (kX2_fails _ _) (cwV 1 C.2.2.1 gX2_budget_X2_fails rfl rfl rfl hvX2_fails ⟨Nat.le_of_ble_eq_true rfl, Nat.le_of_ble_eq_true rfl⟩) 0 rfl rfl (Nat.le_of_ble_eq_true rfl) ⟨(Nat.le_of_ble_eq_true rfl), (Nat.le_of_ble_eq_true rfl)⟩ dX2_budget_23 ?_
    refine V_u (fun u23 hu23 => ?_)
    subst hu23
    subst hu2
    exact V_iret C rfl (vp_nar_int _) ((if_pos h9).trans rfl) ((if_pos h9).trans rfl) dX2_budget_26
  ·
    refine V_aload_n C dX2_budget_12 rfl 0 rfl ?_
    refine V_get (Cn := RX2) (T := TX2) (N := 18) C hinX2_budget_X2 0 rfl rfl 11 (by decide) hfX2_budget_43 rfl rfl dX2_budget_13 ?_
    refine V_iload_n C dX2_budget_16 rfl 1 rfl ?_
    refine Vm_iald C 12 0 rfl rfl (vqX2_isSheet h9) dX2_budget_17 ?_
    refine V_goto (tgt := 26) C dX2_budget_18 (by decide) ?_
    subst hu2
    exact V_iret C rfl (vp_nar_int _) ((if_neg h9).trans rfl) ((if_neg h9).trans rfl) dX2_budget_26
theorem hdX2_earned : yX2_earned.cls ≠ "java/lang/invoke/MethodHandle" ∧ yX2_earned.cls ≠ "java/lang/invoke/VarHandle" ∧ (parseMethodDescriptor yX2_earned.desc).map (fun d => d.parameters.length) = some 1 := by decide +kernel
theorem hvX2_earned : yX2_earned.cls = RX2 ∧ yX2_earned.cls ≠ "java/lang/invoke/MethodHandle" ∧ yX2_earned.cls ≠ "java/lang/invoke/VarHandle" ∧ (parseMethodDescriptor yX2_earned.desc).map (fun d => d.parameters.length) = some 1 := by decide +kernel
theorem hinX2_earned_X2 : ∀ w ∈ u_ws RX2 TX2 18, w ∈ wsX2_earned := by decide +kernel
theorem hfX2_earned_58 : Cond.fieldLink RX2 58 "MeteredSheetsModel" "thrown" "I" ∈ wsX2_earned := by decide +kernel
theorem hfX2_earned_46 : Cond.fieldLink RX2 46 "MeteredSheetsModel" "earnings" "[I" ∈ wsX2_earned := by decide +kernel
set_option maxHeartbeats 4000000 in
theorem kX2_earned {l : Launch} {D : va_G} {cI : ClassId} {ad : Nat → Nat} (u : vM) (a1 : Int32) : mI D vwCl (tyM cI) xT (wM cI ad) l yX2_earned wsX2_earned rmX2_earned [.ref (ad 0), .int a1] u (rX2_earned u a1) (uX2_earned u a1) := by
  refine mI_of (cc := cX2_earned) (maxL := 2) (ret := (some .int)) (own := RX2) rfl (by decide) rfl (wM_ok cI ad) (Nat.le_of_ble_eq_true rfl) (fun p e s m args below meth c A C => ?_)
  refine V_ls (ls' := [(0, .ref (ad 0)), (1, .int a1)]) rfl ?_
  refine V_aload_n C dX2_earned_0 rfl 0 rfl ?_
  refine V_iconst (v := 0) C dX2_earned_1 (by decide) ?_
  refine V_put (Cn := RX2) (T := TX2) (N := 18) C hinX2_earned_X2 tyX2 tyX2_ok nmX2 0 rfl rfl 17 (by decide) hfX2_earned_58 rfl rfl rfl (Nat.le_of_ble_eq_true rfl) wM_s18 dX2_earned_2 ?_
  refine V_u (fun u2 hu2 => ?_)
  refine V_iload_n C dX2_earned_5 rfl 1 rfl ?_
  refine V_cSi1 C xT_ok (kX2_isSheet _ _) (va_cwS 1 C.2.2.1 gX2_earned_X2_isSheet rfl rfl rfl hdX2_isSheet ⟨Nat.le_of_ble_eq_true rfl, Nat.le_of_ble_eq_true rfl⟩) (Nat.le_of_ble_eq_true rfl) ⟨(Nat.le_of_ble_eq_true rfl), (Nat.le_of_ble_eq_true rfl)⟩ dX2_earned_6 ?_
  refine V_if_eq (tgt := 21) C dX2_earned_9 (by decide) (fun h9 => ?_) (fun h9 => ?_)
  ·
    refine V_aload_n C dX2_earned_21 rfl 0 rfl ?_
    refine V_iconst (v := 1) C dX2_earned_22 (by decide) ?_
    refine V_cVi1 C xT_ok (kX2_fails _ _) (cwV 1 C.2.2.1 gX2_earned_X2_fails rfl rfl rfl hvX2_fails ⟨Nat.le_of_ble_eq_true rfl, Nat.le_of_ble_eq_true rfl⟩) 0 rfl rfl (Nat.le_of_ble_eq_true rfl) ⟨(Nat.le_of_ble_eq_true rfl), (Nat.le_of_ble_eq_true rfl)⟩ dX2_earned_23 ?_
    refine V_u (fun u23 hu23 => ?_)
    subst hu23
    subst hu2
    exact V_iret C rfl (vp_nar_int _) ((if_pos h9).trans rfl) ((if_pos h9).trans rfl) dX2_earned_26
  ·
    refine V_aload_n C dX2_earned_12 rfl 0 rfl ?_
    refine V_get (Cn := RX2) (T := TX2) (N := 18) C hinX2_earned_X2 0 rfl rfl 12 (by decide) hfX2_earned_46 rfl rfl dX2_earned_13 ?_
    refine V_iload_n C dX2_earned_16 rfl 1 rfl ?_
    refine Vm_iald C 13 0 rfl rfl (vqX2_isSheet h9) dX2_earned_17 ?_
    refine V_goto (tgt := 26) C dX2_earned_18 (by decide) ?_
    subst hu2
    exact V_iret C rfl (vp_nar_int _) ((if_neg h9).trans rfl) ((if_neg h9).trans rfl) dX2_earned_26
theorem hdX2_caused : yX2_caused.cls ≠ "java/lang/invoke/MethodHandle" ∧ yX2_caused.cls ≠ "java/lang/invoke/VarHandle" ∧ (parseMethodDescriptor yX2_caused.desc).map (fun d => d.parameters.length) = some 1 := by decide +kernel
theorem hvX2_caused : yX2_caused.cls = RX2 ∧ yX2_caused.cls ≠ "java/lang/invoke/MethodHandle" ∧ yX2_caused.cls ≠ "java/lang/invoke/VarHandle" ∧ (parseMethodDescriptor yX2_caused.desc).map (fun d => d.parameters.length) = some 1 := by decide +kernel
theorem hinX2_caused_X2 : ∀ w ∈ u_ws RX2 TX2 18, w ∈ wsX2_caused := by decide +kernel
theorem hfX2_caused_58 : Cond.fieldLink RX2 58 "MeteredSheetsModel" "thrown" "I" ∈ wsX2_caused := by decide +kernel
theorem hfX2_caused_49 : Cond.fieldLink RX2 49 "MeteredSheetsModel" "costs" "[I" ∈ wsX2_caused := by decide +kernel
set_option maxHeartbeats 4000000 in
theorem kX2_caused {l : Launch} {D : va_G} {cI : ClassId} {ad : Nat → Nat} (u : vM) (a1 : Int32) : mI D vwCl (tyM cI) xT (wM cI ad) l yX2_caused wsX2_caused rmX2_caused [.ref (ad 0), .int a1] u (rX2_caused u a1) (uX2_caused u a1) := by
  refine mI_of (cc := cX2_caused) (maxL := 2) (ret := (some .int)) (own := RX2) rfl (by decide) rfl (wM_ok cI ad) (Nat.le_of_ble_eq_true rfl) (fun p e s m args below meth c A C => ?_)
  refine V_ls (ls' := [(0, .ref (ad 0)), (1, .int a1)]) rfl ?_
  refine V_aload_n C dX2_caused_0 rfl 0 rfl ?_
  refine V_iconst (v := 0) C dX2_caused_1 (by decide) ?_
  refine V_put (Cn := RX2) (T := TX2) (N := 18) C hinX2_caused_X2 tyX2 tyX2_ok nmX2 0 rfl rfl 17 (by decide) hfX2_caused_58 rfl rfl rfl (Nat.le_of_ble_eq_true rfl) wM_s18 dX2_caused_2 ?_
  refine V_u (fun u2 hu2 => ?_)
  refine V_iload_n C dX2_caused_5 rfl 1 rfl ?_
  refine V_iconst (v := 0) C dX2_caused_6 (by decide) ?_
  refine V_iconst (v := 4) C dX2_caused_7 (by decide) ?_
  refine V_cSi3 C xT_ok (kX2_in _ _ _ _) (va_cwS 3 C.2.2.1 gX2_caused_X2_in rfl rfl rfl hdX2_in ⟨Nat.le_of_ble_eq_true rfl, Nat.le_of_ble_eq_true rfl⟩) (Nat.le_of_ble_eq_true rfl) ⟨(Nat.le_of_ble_eq_true rfl), (Nat.le_of_ble_eq_true rfl)⟩ dX2_caused_8 ?_
  refine V_if_eq (tgt := 23) C dX2_caused_11 (by decide) (fun h11 => ?_) (fun h11 => ?_)
  ·
    refine V_aload_n C dX2_caused_23 rfl 0 rfl ?_
    refine V_iconst (v := 1) C dX2_caused_24 (by decide) ?_
    refine V_cVi1 C xT_ok (kX2_fails _ _) (cwV 1 C.2.2.1 gX2_caused_X2_fails rfl rfl rfl hvX2_fails ⟨Nat.le_of_ble_eq_true rfl, Nat.le_of_ble_eq_true rfl⟩) 0 rfl rfl (Nat.le_of_ble_eq_true rfl) ⟨(Nat.le_of_ble_eq_true rfl), (Nat.le_of_ble_eq_true rfl)⟩ dX2_caused_25 ?_
    refine V_u (fun u25 hu25 => ?_)
    subst hu25
    subst hu2
    exact V_iret C rfl (vp_nar_int _) ((if_pos h11).trans rfl) ((if_pos h11).trans rfl) dX2_caused_28
  ·
    refine V_aload_n C dX2_caused_14 rfl 0 rfl ?_
    refine V_get (Cn := RX2) (T := TX2) (N := 18) C hinX2_caused_X2 0 rfl rfl 13 (by decide) hfX2_caused_49 rfl rfl dX2_caused_15 ?_
    refine V_iload_n C dX2_caused_18 rfl 1 rfl ?_
    refine Vm_iald C 14 0 rfl rfl (vqX2_in5 h11) dX2_caused_19 ?_
    refine V_goto (tgt := 28) C dX2_caused_20 (by decide) ?_
    subst hu2
    exact V_iret C rfl (vp_nar_int _) ((if_neg h11).trans rfl) ((if_neg h11).trans rfl) dX2_caused_28
theorem hdX2_value : yX2_value.cls ≠ "java/lang/invoke/MethodHandle" ∧ yX2_value.cls ≠ "java/lang/invoke/VarHandle" ∧ (parseMethodDescriptor yX2_value.desc).map (fun d => d.parameters.length) = some 1 := by decide +kernel
theorem hvX2_value : yX2_value.cls = RX2 ∧ yX2_value.cls ≠ "java/lang/invoke/MethodHandle" ∧ yX2_value.cls ≠ "java/lang/invoke/VarHandle" ∧ (parseMethodDescriptor yX2_value.desc).map (fun d => d.parameters.length) = some 1 := by decide +kernel
theorem hinX2_value_X2 : ∀ w ∈ u_ws RX2 TX2 18, w ∈ wsX2_value := by decide +kernel
theorem hfX2_value_58 : Cond.fieldLink RX2 58 "MeteredSheetsModel" "thrown" "I" ∈ wsX2_value := by decide +kernel
theorem hfX2_value_22 : Cond.fieldLink RX2 22 "MeteredSheetsModel" "values" "[I" ∈ wsX2_value := by decide +kernel
set_option maxHeartbeats 4000000 in
theorem kX2_value {l : Launch} {D : va_G} {cI : ClassId} {ad : Nat → Nat} (u : vM) (a1 : Int32) : mI D vwCl (tyM cI) xT (wM cI ad) l yX2_value wsX2_value rmX2_value [.ref (ad 0), .int a1] u (rX2_value u a1) (uX2_value u a1) := by
  refine mI_of (cc := cX2_value) (maxL := 2) (ret := (some .int)) (own := RX2) rfl (by decide) rfl (wM_ok cI ad) (Nat.le_of_ble_eq_true rfl) (fun p e s m args below meth c A C => ?_)
  refine V_ls (ls' := [(0, .ref (ad 0)), (1, .int a1)]) rfl ?_
  refine V_aload_n C dX2_value_0 rfl 0 rfl ?_
  refine V_iconst (v := 0) C dX2_value_1 (by decide) ?_
  refine V_put (Cn := RX2) (T := TX2) (N := 18) C hinX2_value_X2 tyX2 tyX2_ok nmX2 0 rfl rfl 17 (by decide) hfX2_value_58 rfl rfl rfl (Nat.le_of_ble_eq_true rfl) wM_s18 dX2_value_2 ?_
  refine V_u (fun u2 hu2 => ?_)
  refine V_iload_n C dX2_value_5 rfl 1 rfl ?_
  refine V_cSi1 C xT_ok (kX2_isCell _ _) (va_cwS 1 C.2.2.1 gX2_value_X2_isCell rfl rfl rfl hdX2_isCell ⟨Nat.le_of_ble_eq_true rfl, Nat.le_of_ble_eq_true rfl⟩) (Nat.le_of_ble_eq_true rfl) ⟨(Nat.le_of_ble_eq_true rfl), (Nat.le_of_ble_eq_true rfl)⟩ dX2_value_6 ?_
  refine V_if_eq (tgt := 21) C dX2_value_9 (by decide) (fun h9 => ?_) (fun h9 => ?_)
  ·
    refine V_aload_n C dX2_value_21 rfl 0 rfl ?_
    refine V_iconst (v := 1) C dX2_value_22 (by decide) ?_
    refine V_cVi1 C xT_ok (kX2_fails _ _) (cwV 1 C.2.2.1 gX2_value_X2_fails rfl rfl rfl hvX2_fails ⟨Nat.le_of_ble_eq_true rfl, Nat.le_of_ble_eq_true rfl⟩) 0 rfl rfl (Nat.le_of_ble_eq_true rfl) ⟨(Nat.le_of_ble_eq_true rfl), (Nat.le_of_ble_eq_true rfl)⟩ dX2_value_23 ?_
    refine V_u (fun u23 hu23 => ?_)
    subst hu23
    subst hu2
    exact V_iret C rfl (vp_nar_int _) ((if_pos h9).trans rfl) ((if_pos h9).trans rfl) dX2_value_26
  ·
    refine V_aload_n C dX2_value_12 rfl 0 rfl ?_
    refine V_get (Cn := RX2) (T := TX2) (N := 18) C hinX2_value_X2 0 rfl rfl 4 (by decide) hfX2_value_22 rfl rfl dX2_value_13 ?_
    refine V_iload_n C dX2_value_16 rfl 1 rfl ?_
    refine Vm_iald C 5 0 rfl rfl (vqX2_isCell h9) dX2_value_17 ?_
    refine V_goto (tgt := 26) C dX2_value_18 (by decide) ?_
    subst hu2
    exact V_iret C rfl (vp_nar_int _) ((if_neg h9).trans rfl) ((if_neg h9).trans rfl) dX2_value_26
theorem hdX2_isMarked : yX2_isMarked.cls ≠ "java/lang/invoke/MethodHandle" ∧ yX2_isMarked.cls ≠ "java/lang/invoke/VarHandle" ∧ (parseMethodDescriptor yX2_isMarked.desc).map (fun d => d.parameters.length) = some 1 := by decide +kernel
theorem hvX2_isMarked : yX2_isMarked.cls = RX2 ∧ yX2_isMarked.cls ≠ "java/lang/invoke/MethodHandle" ∧ yX2_isMarked.cls ≠ "java/lang/invoke/VarHandle" ∧ (parseMethodDescriptor yX2_isMarked.desc).map (fun d => d.parameters.length) = some 1 := by decide +kernel
theorem hinX2_isMarked_X2 : ∀ w ∈ u_ws RX2 TX2 18, w ∈ wsX2_isMarked := by decide +kernel
theorem hfX2_isMarked_58 : Cond.fieldLink RX2 58 "MeteredSheetsModel" "thrown" "I" ∈ wsX2_isMarked := by decide +kernel
theorem hfX2_isMarked_25 : Cond.fieldLink RX2 25 "MeteredSheetsModel" "marks" "[I" ∈ wsX2_isMarked := by decide +kernel
set_option maxHeartbeats 4000000 in
theorem kX2_isMarked {l : Launch} {D : va_G} {cI : ClassId} {ad : Nat → Nat} (u : vM) (a1 : Int32) : mI D vwCl (tyM cI) xT (wM cI ad) l yX2_isMarked wsX2_isMarked rmX2_isMarked [.ref (ad 0), .int a1] u (rX2_isMarked u a1) (uX2_isMarked u a1) := by
  refine mI_of (cc := cX2_isMarked) (maxL := 2) (ret := (some .boolean)) (own := RX2) rfl (by decide) rfl (wM_ok cI ad) (Nat.le_of_ble_eq_true rfl) (fun p e s m args below meth c A C => ?_)
  refine V_ls (ls' := [(0, .ref (ad 0)), (1, .int a1)]) rfl ?_
  refine V_aload_n C dX2_isMarked_0 rfl 0 rfl ?_
  refine V_iconst (v := 0) C dX2_isMarked_1 (by decide) ?_
  refine V_put (Cn := RX2) (T := TX2) (N := 18) C hinX2_isMarked_X2 tyX2 tyX2_ok nmX2 0 rfl rfl 17 (by decide) hfX2_isMarked_58 rfl rfl rfl (Nat.le_of_ble_eq_true rfl) wM_s18 dX2_isMarked_2 ?_
  refine V_u (fun u2 hu2 => ?_)
  refine V_iload_n C dX2_isMarked_5 rfl 1 rfl ?_
  refine V_cSi1 C xT_ok (kX2_isCell _ _) (va_cwS 1 C.2.2.1 gX2_isMarked_X2_isCell rfl rfl rfl hdX2_isCell ⟨Nat.le_of_ble_eq_true rfl, Nat.le_of_ble_eq_true rfl⟩) (Nat.le_of_ble_eq_true rfl) ⟨(Nat.le_of_ble_eq_true rfl), (Nat.le_of_ble_eq_true rfl)⟩ dX2_isMarked_6 ?_
  refine V_if_ne (tgt := 20) C dX2_isMarked_9 (by decide) (fun h9 => ?_) (fun h9 => ?_)
  ·
    refine V_aload_n C dX2_isMarked_20 rfl 0 rfl ?_
    refine V_get (Cn := RX2) (T := TX2) (N := 18) C hinX2_isMarked_X2 0 rfl rfl 5 (by decide) hfX2_isMarked_25 rfl rfl dX2_isMarked_21 ?_
    refine V_iload_n C dX2_isMarked_24 rfl 1 rfl ?_
    refine Vm_iald C 6 0 rfl rfl (vqX2_isCell h9) dX2_isMarked_25 ?_
    refine V_iconst (v := 1) C dX2_isMarked_26 (by decide) ?_
    refine V_join2 (J := 35) (T := (if (mrd u2 6 a1) = 1 then 1 else 0)) (fun j35 hj35 => ?_) (fun J35 => ?_)
    ·
      subst hj35
      subst hu2
      exact V_iret C rfl (by (repeat' split) <;> rfl) ((if_neg h9).trans rfl) ((if_neg h9).trans rfl) dX2_isMarked_35
    ·
      refine V_icmp_ne (tgt := 34) C dX2_isMarked_27 (by decide) (fun h27 => ?_) (fun h27 => ?_)
      ·
        refine V_iconst (v := 0) C dX2_isMarked_34 (by decide) ?_
        exact J35 _ ((if_neg h27).trans rfl)
      ·
        refine V_iconst (v := 1) C dX2_isMarked_30 (by decide) ?_
        refine V_goto (tgt := 35) C dX2_isMarked_31 (by decide) ?_
        exact J35 _ ((if_pos h27).trans rfl)
  ·
    refine V_aload_n C dX2_isMarked_12 rfl 0 rfl ?_
    refine V_iconst (v := 1) C dX2_isMarked_13 (by decide) ?_
    refine V_cVi1 C xT_ok (kX2_fails _ _) (cwV 1 C.2.2.1 gX2_isMarked_X2_fails rfl rfl rfl hvX2_fails ⟨Nat.le_of_ble_eq_true rfl, Nat.le_of_ble_eq_true rfl⟩) 0 rfl rfl (Nat.le_of_ble_eq_true rfl) ⟨(Nat.le_of_ble_eq_true rfl), (Nat.le_of_ble_eq_true rfl)⟩ dX2_isMarked_14 ?_
    refine V_u (fun u14 hu14 => ?_)
    refine V_pop C dX2_isMarked_17 rfl ?_
    refine V_iconst (v := 0) C dX2_isMarked_18 (by decide) ?_
    subst hu14
    subst hu2
    exact V_iret C rfl rfl ((if_pos h9).trans rfl) ((if_pos h9).trans rfl) dX2_isMarked_19
theorem hdX2_valueAnew : yX2_valueAnew.cls ≠ "java/lang/invoke/MethodHandle" ∧ yX2_valueAnew.cls ≠ "java/lang/invoke/VarHandle" ∧ (parseMethodDescriptor yX2_valueAnew.desc).map (fun d => d.parameters.length) = some 1 := by decide +kernel
theorem hvX2_valueAnew : yX2_valueAnew.cls = RX2 ∧ yX2_valueAnew.cls ≠ "java/lang/invoke/MethodHandle" ∧ yX2_valueAnew.cls ≠ "java/lang/invoke/VarHandle" ∧ (parseMethodDescriptor yX2_valueAnew.desc).map (fun d => d.parameters.length) = some 1 := by decide +kernel
theorem hinX2_valueAnew_X2 : ∀ w ∈ u_ws RX2 TX2 18, w ∈ wsX2_valueAnew := by decide +kernel
theorem hfX2_valueAnew_58 : Cond.fieldLink RX2 58 "MeteredSheetsModel" "thrown" "I" ∈ wsX2_valueAnew := by decide +kernel
theorem hfX2_valueAnew_31 : Cond.fieldLink RX2 31 "MeteredSheetsModel" "anew" "[I" ∈ wsX2_valueAnew := by decide +kernel
theorem hfX2_valueAnew_34 : Cond.fieldLink RX2 34 "MeteredSheetsModel" "order" "[I" ∈ wsX2_valueAnew := by decide +kernel
set_option maxHeartbeats 4000000 in
theorem qX2_valueAnew_24 (C : vC p s m args meth c D vwCl (tyM cI) xT A (wM cI ad) cX2_valueAnew RX2 wsX2_valueAnew 3 (some .int)) {Q : State → Prop} (a1 : Int32) : ∀ (n k : Nat), k + n = 24 → ∀ (u : vM), fm u → od u → (∀ r : vM, lpX2_valueAnew_24 n k u = r → fm r → od r → V p l e rmX2_valueAnew s m args below meth c D vwCl A (wM cI ad) 3 0 0 Q r 61 [(0, .ref (ad 0)), (1, .int a1), (2, .int (nI 24))] []) → V p l e rmX2_valueAnew s m args below meth c D vwCl A (wM cI ad) 3 0 0 Q u 24 [(0, .ref (ad 0)), (1, .int a1), (2, .int (nI k))] [] := by
  intro n
  induction n with
  | zero =>
    intro k hk u hi0 hi1 KK
    obtain rfl : k = 24 := by omega
    refine V_iload_n C dX2_valueAnew_24 rfl 2 rfl ?_
    refine V_bipush (v := 24) C dX2_valueAnew_25 (by decide) ?_
    refine V_icmp_ge (tgt := 61) C dX2_valueAnew_27 (by decide) (fun _ => ?_) (fun h => absurd (by decide : (24 : Int32) ≤ nI 24) h)
    exact KK _ rfl hi0 hi1
  | succ n ih =>
    intro k hk u hi0 hi1 KK
    have hkB : k < 24 := by omega
    refine V_iload_n C dX2_valueAnew_24 rfl 2 rfl ?_
    refine V_bipush (v := 24) C dX2_valueAnew_25 (by decide) ?_
    refine V_icmp_ge (tgt := 61) C dX2_valueAnew_27 (by decide) (fun h => absurd h (nI_ge hkB (by decide))) (fun _ => ?_)
    refine V_aload_n C dX2_valueAnew_30 rfl 0 rfl ?_
    refine V_get (Cn := RX2) (T := TX2) (N := 18) C hinX2_valueAnew_X2 0 rfl rfl 7 (by decide) hfX2_valueAnew_31 rfl rfl dX2_valueAnew_31 ?_
    refine V_aload_n C dX2_valueAnew_34 rfl 0 rfl ?_
    refine V_get (Cn := RX2) (T := TX2) (N := 18) C hinX2_valueAnew_X2 0 rfl rfl 8 (by decide) hfX2_valueAnew_34 rfl rfl dX2_valueAnew_35 ?_
    refine V_iload_n C dX2_valueAnew_38 rfl 2 rfl ?_
    refine Vm_iald C 9 0 rfl rfl (vp_in_nI hkB (by decide)) dX2_valueAnew_39 ?_
    refine V_aload_n C dX2_valueAnew_40 rfl 0 rfl ?_
    refine V_aload_n C dX2_valueAnew_41 rfl 0 rfl ?_
    refine V_get (Cn := RX2) (T := TX2) (N := 18) C hinX2_valueAnew_X2 0 rfl rfl 8 (by decide) hfX2_valueAnew_34 rfl rfl dX2_valueAnew_42 ?_
    refine V_iload_n C dX2_valueAnew_45 rfl 2 rfl ?_
    refine Vm_iald C 9 0 rfl rfl (vp_in_nI hkB (by decide)) dX2_valueAnew_46 ?_
    refine V_aload_n C dX2_valueAnew_47 rfl 0 rfl ?_
    refine V_get (Cn := RX2) (T := TX2) (N := 18) C hinX2_valueAnew_X2 0 rfl rfl 7 (by decide) hfX2_valueAnew_31 rfl rfl dX2_valueAnew_48 ?_
    refine V_cVi2 C xT_ok (kX2_comesTo_v8 _ _ (vq_od hi1 (vp_in_nI hkB (by decide))) hi0) (cwV 2 C.2.2.1 gX2_valueAnew_X2_comesTo rfl rfl rfl hvX2_comesTo ⟨Nat.le_of_ble_eq_true rfl, Nat.le_of_ble_eq_true rfl⟩) 0 rfl rfl (Nat.le_of_ble_eq_true rfl) ⟨(Nat.le_of_ble_eq_true rfl), (Nat.le_of_ble_eq_true rfl)⟩ dX2_valueAnew_51 ?_
    refine Vm_iast C 8 0 rfl rfl (vq_od hi1 (vp_in_nI hkB (by decide))) wM_s8 dX2_valueAnew_54 ?_
    refine V_u (fun u54 hu54 => ?_)
    have hfm54 : fm u54 := by rw [← hu54]; exact hi0
    have hod54 : od u54 := by rw [← hu54]; exact hi1
    refine V_iinc (v := (nI (k + 1))) (ls' := [(0, .ref (ad 0)), (1, .int a1), (2, .int (nI (k + 1)))]) C dX2_valueAnew_55 2 rfl (nI_1 k) (by decide) rfl rfl ?_
    refine V_goto (tgt := 24) C dX2_valueAnew_58 (by decide) ?_
    subst hu54
    exact ih (k + 1) (by omega) _ hfm54 hod54 (fun r hr => KK r (rfl.trans hr))
set_option maxHeartbeats 4000000 in
theorem kX2_valueAnew {l : Launch} {D : va_G} {cI : ClassId} {ad : Nat → Nat} (u : vM) (a1 : Int32) (hp0 : fm u) (hp1 : ly u) : mI D vwCl (tyM cI) xT (wM cI ad) l yX2_valueAnew wsX2_valueAnew rmX2_valueAnew [.ref (ad 0), .int a1] u (rX2_valueAnew u a1) (uX2_valueAnew u a1) := by
  refine mI_of (cc := cX2_valueAnew) (maxL := 3) (ret := (some .int)) (own := RX2) rfl (by decide) rfl (wM_ok cI ad) (Nat.le_of_ble_eq_true rfl) (fun p e s m args below meth c A C => ?_)
  refine V_ls (ls' := [(0, .ref (ad 0)), (1, .int a1)]) rfl ?_
  refine V_aload_n C dX2_valueAnew_0 rfl 0 rfl ?_
  refine V_iconst (v := 0) C dX2_valueAnew_1 (by decide) ?_
  refine V_put (Cn := RX2) (T := TX2) (N := 18) C hinX2_valueAnew_X2 tyX2 tyX2_ok nmX2 0 rfl rfl 17 (by decide) hfX2_valueAnew_58 rfl rfl rfl (Nat.le_of_ble_eq_true rfl) wM_s18 dX2_valueAnew_2 ?_
  refine V_u (fun u2 hu2 => ?_)
  have hfm2 : fm u2 := by rw [← hu2]; exact hp0
  have hly2 : ly u2 := by rw [← hu2]; exact hp1
  refine V_iload_n C dX2_valueAnew_5 rfl 1 rfl ?_
  refine V_cSi1 C xT_ok (kX2_isCell _ _) (va_cwS 1 C.2.2.1 gX2_valueAnew_X2_isCell rfl rfl rfl hdX2_isCell ⟨Nat.le_of_ble_eq_true rfl, Nat.le_of_ble_eq_true rfl⟩) (Nat.le_of_ble_eq_true rfl) ⟨(Nat.le_of_ble_eq_true rfl), (Nat.le_of_ble_eq_true rfl)⟩ dX2_valueAnew_6 ?_
  refine V_if_ne (tgt := 18) C dX2_valueAnew_9 (by decide) (fun h9 => ?_) (fun h9 => ?_)
  ·
    refine V_aload_n C dX2_valueAnew_18 rfl 0 rfl ?_
    refine V_cVv0 C xT_ok (kX2_layOrder _ hfm2 hly2) (cwV 0 C.2.2.1 gX2_valueAnew_X2_layOrder rfl rfl rfl hvX2_layOrder ⟨Nat.le_of_ble_eq_true rfl, Nat.le_of_ble_eq_true rfl⟩) 0 rfl rfl (Nat.le_of_ble_eq_true rfl) ⟨(Nat.le_of_ble_eq_true rfl), (Nat.le_of_ble_eq_true rfl)⟩ dX2_valueAnew_19 ?_
    refine V_u (fun u19 hu19 => ?_)
    have hfm19 : fm u19 := by rw [← hu19]; exact fm_congr (fr_uX2_layOrder (by decide) (by decide)) (fr_uX2_layOrder (by decide) (by decide)) hfm2
    have hly19 : ly u19 := by rw [← hu19]; exact ly_congr (fr_uX2_layOrder (by decide) (by decide)) (fr_uX2_layOrder (by decide) (by decide)) (fr_uX2_layOrder (by decide) (by decide)) hly2
    have hod19 : od u19 := by rw [← hu19]; exact od_X2_layOrder hfm2 hly2
    refine V_iconst (v := 0) C dX2_valueAnew_22 (by decide) ?_
    refine V_istore_n (ls' := [(0, .ref (ad 0)), (1, .int a1), (2, .int 0)]) C dX2_valueAnew_23 rfl (by decide) rfl rfl ?_
    refine V_sub (ls' := [(0, .ref (ad 0)), (1, .int a1), (2, .int 0)]) [0, 1, 2] rfl ?_
    refine qX2_valueAnew_24 C a1 24 0 (by decide) u19 hfm19 hod19 (fun r24 hr24 hi0_24 hi1_24 => ?_)
    have hly24 : ly r24 := by rw [← hr24]; exact ly_congr (fr_lpX2_valueAnew_24 (by decide)) (fr_lpX2_valueAnew_24 (by decide)) (fr_lpX2_valueAnew_24 (by decide)) hly19
    refine V_aload_n C dX2_valueAnew_61 rfl 0 rfl ?_
    refine V_get (Cn := RX2) (T := TX2) (N := 18) C hinX2_valueAnew_X2 0 rfl rfl 7 (by decide) hfX2_valueAnew_31 rfl rfl dX2_valueAnew_62 ?_
    refine V_iload_n C dX2_valueAnew_65 rfl 1 rfl ?_
    refine Vm_iald C 8 0 rfl rfl (vqX2_isCell h9) dX2_valueAnew_66 ?_
    subst hr24
    subst hu19
    subst hu2
    exact V_iret C rfl (vp_nar_int _) ((if_neg h9).trans rfl) ((if_neg h9).trans rfl) dX2_valueAnew_67
  ·
    refine V_aload_n C dX2_valueAnew_12 rfl 0 rfl ?_
    refine V_iconst (v := 1) C dX2_valueAnew_13 (by decide) ?_
    refine V_cVi1 C xT_ok (kX2_fails _ _) (cwV 1 C.2.2.1 gX2_valueAnew_X2_fails rfl rfl rfl hvX2_fails ⟨Nat.le_of_ble_eq_true rfl, Nat.le_of_ble_eq_true rfl⟩) 0 rfl rfl (Nat.le_of_ble_eq_true rfl) ⟨(Nat.le_of_ble_eq_true rfl), (Nat.le_of_ble_eq_true rfl)⟩ dX2_valueAnew_14 ?_
    refine V_u (fun u14 hu14 => ?_)
    have hfm14 : fm u14 := by rw [← hu14]; exact fm_congr (fr_uX2_fails (by decide)) (fr_uX2_fails (by decide)) hfm2
    have hly14 : ly u14 := by rw [← hu14]; exact ly_congr (fr_uX2_fails (by decide)) (fr_uX2_fails (by decide)) (fr_uX2_fails (by decide)) hly2
    subst hu14
    subst hu2
    exact V_iret C rfl (vp_nar_int _) ((if_pos h9).trans rfl) ((if_pos h9).trans rfl) dX2_valueAnew_17
theorem hdX2_readings : yX2_readings.cls ≠ "java/lang/invoke/MethodHandle" ∧ yX2_readings.cls ≠ "java/lang/invoke/VarHandle" ∧ (parseMethodDescriptor yX2_readings.desc).map (fun d => d.parameters.length) = some 0 := by decide +kernel
theorem hvX2_readings : yX2_readings.cls = RX2 ∧ yX2_readings.cls ≠ "java/lang/invoke/MethodHandle" ∧ yX2_readings.cls ≠ "java/lang/invoke/VarHandle" ∧ (parseMethodDescriptor yX2_readings.desc).map (fun d => d.parameters.length) = some 0 := by decide +kernel
theorem hinX2_readings_X2 : ∀ w ∈ u_ws RX2 TX2 18, w ∈ wsX2_readings := by decide +kernel
theorem hfX2_readings_58 : Cond.fieldLink RX2 58 "MeteredSheetsModel" "thrown" "I" ∈ wsX2_readings := by decide +kernel
theorem hfX2_readings_82 : Cond.fieldLink RX2 82 "MeteredSheetsModel" "many" "I" ∈ wsX2_readings := by decide +kernel
set_option maxHeartbeats 4000000 in
theorem kX2_readings {l : Launch} {D : va_G} {cI : ClassId} {ad : Nat → Nat} (u : vM) : mI D vwCl (tyM cI) xT (wM cI ad) l yX2_readings wsX2_readings rmX2_readings [.ref (ad 0)] u (rX2_readings u) (uX2_readings u) := by
  refine mI_of (cc := cX2_readings) (maxL := 1) (ret := (some .int)) (own := RX2) rfl (by decide) rfl (wM_ok cI ad) (Nat.le_of_ble_eq_true rfl) (fun p e s m args below meth c A C => ?_)
  refine V_ls (ls' := [(0, .ref (ad 0))]) rfl ?_
  refine V_aload_n C dX2_readings_0 rfl 0 rfl ?_
  refine V_iconst (v := 0) C dX2_readings_1 (by decide) ?_
  refine V_put (Cn := RX2) (T := TX2) (N := 18) C hinX2_readings_X2 tyX2 tyX2_ok nmX2 0 rfl rfl 17 (by decide) hfX2_readings_58 rfl rfl rfl (Nat.le_of_ble_eq_true rfl) wM_s18 dX2_readings_2 ?_
  refine V_u (fun u2 hu2 => ?_)
  refine V_aload_n C dX2_readings_5 rfl 0 rfl ?_
  refine V_get (Cn := RX2) (T := TX2) (N := 18) C hinX2_readings_X2 0 rfl rfl 15 (by decide) hfX2_readings_82 rfl rfl dX2_readings_6 ?_
  show V p l e _ s m args below meth c D vwCl A (wM cI ad) _ _ _ _ _ _ _ (.int (mfd u2 17) :: _)
  subst hu2
  exact V_iret C rfl (vp_nar_int _) rfl rfl dX2_readings_9
theorem hdX2_reading : yX2_reading.cls ≠ "java/lang/invoke/MethodHandle" ∧ yX2_reading.cls ≠ "java/lang/invoke/VarHandle" ∧ (parseMethodDescriptor yX2_reading.desc).map (fun d => d.parameters.length) = some 1 := by decide +kernel
theorem hvX2_reading : yX2_reading.cls = RX2 ∧ yX2_reading.cls ≠ "java/lang/invoke/MethodHandle" ∧ yX2_reading.cls ≠ "java/lang/invoke/VarHandle" ∧ (parseMethodDescriptor yX2_reading.desc).map (fun d => d.parameters.length) = some 1 := by decide +kernel
theorem hinX2_reading_X2 : ∀ w ∈ u_ws RX2 TX2 18, w ∈ wsX2_reading := by decide +kernel
theorem hfX2_reading_58 : Cond.fieldLink RX2 58 "MeteredSheetsModel" "thrown" "I" ∈ wsX2_reading := by decide +kernel
theorem hfX2_reading_82 : Cond.fieldLink RX2 82 "MeteredSheetsModel" "many" "I" ∈ wsX2_reading := by decide +kernel
theorem hfX2_reading_52 : Cond.fieldLink RX2 52 "MeteredSheetsModel" "kept" "[I" ∈ wsX2_reading := by decide +kernel
set_option maxHeartbeats 4000000 in
theorem kX2_reading {l : Launch} {D : va_G} {cI : ClassId} {ad : Nat → Nat} (u : vM) (a1 : Int32) (hp0 : kc2 u) : mI D vwCl (tyM cI) xT (wM cI ad) l yX2_reading wsX2_reading rmX2_reading [.ref (ad 0), .int a1] u (rX2_reading u a1) (uX2_reading u a1) := by
  refine mI_of (cc := cX2_reading) (maxL := 2) (ret := (some .int)) (own := RX2) rfl (by decide) rfl (wM_ok cI ad) (Nat.le_of_ble_eq_true rfl) (fun p e s m args below meth c A C => ?_)
  refine V_ls (ls' := [(0, .ref (ad 0)), (1, .int a1)]) rfl ?_
  refine V_aload_n C dX2_reading_0 rfl 0 rfl ?_
  refine V_iconst (v := 0) C dX2_reading_1 (by decide) ?_
  refine V_put (Cn := RX2) (T := TX2) (N := 18) C hinX2_reading_X2 tyX2 tyX2_ok nmX2 0 rfl rfl 17 (by decide) hfX2_reading_58 rfl rfl rfl (Nat.le_of_ble_eq_true rfl) wM_s18 dX2_reading_2 ?_
  refine V_u (fun u2 hu2 => ?_)
  have hkc22 : kc2 u2 := by rw [← hu2]; exact hp0
  refine V_iload_n C dX2_reading_5 rfl 1 rfl ?_
  refine V_iconst (v := 0) C dX2_reading_6 (by decide) ?_
  refine V_aload_n C dX2_reading_7 rfl 0 rfl ?_
  refine V_get (Cn := RX2) (T := TX2) (N := 18) C hinX2_reading_X2 0 rfl rfl 15 (by decide) hfX2_reading_82 rfl rfl dX2_reading_8 ?_
  show V p l e _ s m args below meth c D vwCl A (wM cI ad) _ _ _ _ _ _ _ (.int (mfd u2 17) :: _)
  refine V_iconst (v := 1) C dX2_reading_11 (by decide) ?_
  refine V_isub C dX2_reading_12 ?_
  refine V_cSi3 C xT_ok (kX2_in _ _ _ _) (va_cwS 3 C.2.2.1 gX2_reading_X2_in rfl rfl rfl hdX2_in ⟨Nat.le_of_ble_eq_true rfl, Nat.le_of_ble_eq_true rfl⟩) (Nat.le_of_ble_eq_true rfl) ⟨(Nat.le_of_ble_eq_true rfl), (Nat.le_of_ble_eq_true rfl)⟩ dX2_reading_13 ?_
  refine V_if_eq (tgt := 28) C dX2_reading_16 (by decide) (fun h16 => ?_) (fun h16 => ?_)
  ·
    refine V_aload_n C dX2_reading_28 rfl 0 rfl ?_
    refine V_iconst (v := 1) C dX2_reading_29 (by decide) ?_
    refine V_cVi1 C xT_ok (kX2_fails _ _) (cwV 1 C.2.2.1 gX2_reading_X2_fails rfl rfl rfl hvX2_fails ⟨Nat.le_of_ble_eq_true rfl, Nat.le_of_ble_eq_true rfl⟩) 0 rfl rfl (Nat.le_of_ble_eq_true rfl) ⟨(Nat.le_of_ble_eq_true rfl), (Nat.le_of_ble_eq_true rfl)⟩ dX2_reading_30 ?_
    refine V_u (fun u30 hu30 => ?_)
    have hkc230 : kc2 u30 := by rw [← hu30]; exact kc2_congr (fr_uX2_fails (by decide)) hkc22
    subst hu30
    subst hu2
    exact V_iret C rfl (vp_nar_int _) ((if_pos h16).trans rfl) ((if_pos h16).trans rfl) dX2_reading_33
  ·
    refine V_aload_n C dX2_reading_19 rfl 0 rfl ?_
    refine V_get (Cn := RX2) (T := TX2) (N := 18) C hinX2_reading_X2 0 rfl rfl 14 (by decide) hfX2_reading_52 rfl rfl dX2_reading_20 ?_
    refine V_iload_n C dX2_reading_23 rfl 1 rfl ?_
    refine Vm_iald C 15 0 rfl rfl (vqX2_reading hkc22 (by assumption)) dX2_reading_24 ?_
    refine V_goto (tgt := 33) C dX2_reading_25 (by decide) ?_
    subst hu2
    exact V_iret C rfl (vp_nar_int _) ((if_neg h16).trans rfl) ((if_neg h16).trans rfl) dX2_reading_33
theorem hdX2_timesRead : yX2_timesRead.cls ≠ "java/lang/invoke/MethodHandle" ∧ yX2_timesRead.cls ≠ "java/lang/invoke/VarHandle" ∧ (parseMethodDescriptor yX2_timesRead.desc).map (fun d => d.parameters.length) = some 2 := by decide +kernel
theorem hvX2_timesRead : yX2_timesRead.cls = RX2 ∧ yX2_timesRead.cls ≠ "java/lang/invoke/MethodHandle" ∧ yX2_timesRead.cls ≠ "java/lang/invoke/VarHandle" ∧ (parseMethodDescriptor yX2_timesRead.desc).map (fun d => d.parameters.length) = some 2 := by decide +kernel
theorem hinX2_timesRead_X2 : ∀ w ∈ u_ws RX2 TX2 18, w ∈ wsX2_timesRead := by decide +kernel
theorem hfX2_timesRead_58 : Cond.fieldLink RX2 58 "MeteredSheetsModel" "thrown" "I" ∈ wsX2_timesRead := by decide +kernel
theorem hfX2_timesRead_55 : Cond.fieldLink RX2 55 "MeteredSheetsModel" "times" "[I" ∈ wsX2_timesRead := by decide +kernel
set_option maxHeartbeats 4000000 in
theorem kX2_timesRead {l : Launch} {D : va_G} {cI : ClassId} {ad : Nat → Nat} (u : vM) (a1 : Int32) (a2 : Int32) : mI D vwCl (tyM cI) xT (wM cI ad) l yX2_timesRead wsX2_timesRead rmX2_timesRead [.ref (ad 0), .int a1, .int a2] u (rX2_timesRead u a1 a2) (uX2_timesRead u a1 a2) := by
  refine mI_of (cc := cX2_timesRead) (maxL := 3) (ret := (some .int)) (own := RX2) rfl (by decide) rfl (wM_ok cI ad) (Nat.le_of_ble_eq_true rfl) (fun p e s m args below meth c A C => ?_)
  refine V_ls (ls' := [(0, .ref (ad 0)), (1, .int a1), (2, .int a2)]) rfl ?_
  refine V_aload_n C dX2_timesRead_0 rfl 0 rfl ?_
  refine V_iconst (v := 0) C dX2_timesRead_1 (by decide) ?_
  refine V_put (Cn := RX2) (T := TX2) (N := 18) C hinX2_timesRead_X2 tyX2 tyX2_ok nmX2 0 rfl rfl 17 (by decide) hfX2_timesRead_58 rfl rfl rfl (Nat.le_of_ble_eq_true rfl) wM_s18 dX2_timesRead_2 ?_
  refine V_u (fun u2 hu2 => ?_)
  refine V_iload_n C dX2_timesRead_5 rfl 1 rfl ?_
  refine V_cSi1 C xT_ok (kX2_isCell _ _) (va_cwS 1 C.2.2.1 gX2_timesRead_X2_isCell rfl rfl rfl hdX2_isCell ⟨Nat.le_of_ble_eq_true rfl, Nat.le_of_ble_eq_true rfl⟩) (Nat.le_of_ble_eq_true rfl) ⟨(Nat.le_of_ble_eq_true rfl), (Nat.le_of_ble_eq_true rfl)⟩ dX2_timesRead_6 ?_
  refine V_if_eq (tgt := 33) C dX2_timesRead_9 (by decide) (fun h9 => ?_) (fun h9 => ?_)
  ·
    refine V_aload_n C dX2_timesRead_33 rfl 0 rfl ?_
    refine V_iconst (v := 1) C dX2_timesRead_34 (by decide) ?_
    refine V_cVi1 C xT_ok (kX2_fails _ _) (cwV 1 C.2.2.1 gX2_timesRead_X2_fails rfl rfl rfl hvX2_fails ⟨Nat.le_of_ble_eq_true rfl, Nat.le_of_ble_eq_true rfl⟩) 0 rfl rfl (Nat.le_of_ble_eq_true rfl) ⟨(Nat.le_of_ble_eq_true rfl), (Nat.le_of_ble_eq_true rfl)⟩ dX2_timesRead_35 ?_
    refine V_u (fun u35 hu35 => ?_)
    subst hu35
    subst hu2
    exact V_iret C rfl (vp_nar_int _) ((if_pos h9).trans rfl) ((if_pos h9).trans rfl) dX2_timesRead_38
  ·
    refine V_iload_n C dX2_timesRead_12 rfl 2 rfl ?_
    refine V_cSi1 C xT_ok (kX2_isCell _ _) (va_cwS 1 C.2.2.1 gX2_timesRead_X2_isCell rfl rfl rfl hdX2_isCell ⟨Nat.le_of_ble_eq_true rfl, Nat.le_of_ble_eq_true rfl⟩) (Nat.le_of_ble_eq_true rfl) ⟨(Nat.le_of_ble_eq_true rfl), (Nat.le_of_ble_eq_true rfl)⟩ dX2_timesRead_13 ?_
    refine V_if_eq (tgt := 33) C dX2_timesRead_16 (by decide) (fun h16 => ?_) (fun h16 => ?_)
    ·
      refine V_aload_n C dX2_timesRead_33 rfl 0 rfl ?_
      refine V_iconst (v := 1) C dX2_timesRead_34 (by decide) ?_
      refine V_cVi1 C xT_ok (kX2_fails _ _) (cwV 1 C.2.2.1 gX2_timesRead_X2_fails rfl rfl rfl hvX2_fails ⟨Nat.le_of_ble_eq_true rfl, Nat.le_of_ble_eq_true rfl⟩) 0 rfl rfl (Nat.le_of_ble_eq_true rfl) ⟨(Nat.le_of_ble_eq_true rfl), (Nat.le_of_ble_eq_true rfl)⟩ dX2_timesRead_35 ?_
      refine V_u (fun u35 hu35 => ?_)
      subst hu35
      subst hu2
      exact V_iret C rfl (vp_nar_int _) ((if_neg h9).trans ((if_pos h16).trans rfl)) ((if_neg h9).trans ((if_pos h16).trans rfl)) dX2_timesRead_38
    ·
      refine V_aload_n C dX2_timesRead_19 rfl 0 rfl ?_
      refine V_get (Cn := RX2) (T := TX2) (N := 18) C hinX2_timesRead_X2 0 rfl rfl 16 (by decide) hfX2_timesRead_55 rfl rfl dX2_timesRead_20 ?_
      refine V_bipush (v := 24) C dX2_timesRead_23 (by decide) ?_
      refine V_iload_n C dX2_timesRead_25 rfl 1 rfl ?_
      refine V_imul C dX2_timesRead_26 ?_
      refine V_iload_n C dX2_timesRead_27 rfl 2 rfl ?_
      refine V_iadd C dX2_timesRead_28 ?_
      refine Vm_iald C 16 0 rfl rfl (vq_576' (vqX2_isCell h9) (vqX2_isCell h16)) dX2_timesRead_29 ?_
      refine V_goto (tgt := 38) C dX2_timesRead_30 (by decide) ?_
      subst hu2
      exact V_iret C rfl (vp_nar_int _) ((if_neg h9).trans ((if_neg h16).trans rfl)) ((if_neg h9).trans ((if_neg h16).trans rfl)) dX2_timesRead_38
theorem hdX2_readOf : yX2_readOf.cls ≠ "java/lang/invoke/MethodHandle" ∧ yX2_readOf.cls ≠ "java/lang/invoke/VarHandle" ∧ (parseMethodDescriptor yX2_readOf.desc).map (fun d => d.parameters.length) = some 1 := by decide +kernel
theorem hvX2_readOf : yX2_readOf.cls = RX2 ∧ yX2_readOf.cls ≠ "java/lang/invoke/MethodHandle" ∧ yX2_readOf.cls ≠ "java/lang/invoke/VarHandle" ∧ (parseMethodDescriptor yX2_readOf.desc).map (fun d => d.parameters.length) = some 1 := by decide +kernel
theorem hinX2_readOf_X2 : ∀ w ∈ u_ws RX2 TX2 18, w ∈ wsX2_readOf := by decide +kernel
theorem hfX2_readOf_58 : Cond.fieldLink RX2 58 "MeteredSheetsModel" "thrown" "I" ∈ wsX2_readOf := by decide +kernel
theorem hfX2_readOf_55 : Cond.fieldLink RX2 55 "MeteredSheetsModel" "times" "[I" ∈ wsX2_readOf := by decide +kernel
set_option maxHeartbeats 4000000 in
theorem qX2_readOf_22 (C : vC p s m args meth c D vwCl (tyM cI) xT A (wM cI ad) cX2_readOf RX2 wsX2_readOf 4 (some .int)) {Q : State → Prop} (a1 : Int32) : ∀ (n k : Nat), k + n = 576 → ∀ (u : vM) (x2 : Int32), (∀ r : Int32, lpX2_readOf_22 a1 u n k x2 = r → V p l e rmX2_readOf s m args below meth c D vwCl A (wM cI ad) 4 0 0 Q u 59 [(0, .ref (ad 0)), (1, .int a1), (2, .int r), (3, .int (nI 576))] []) → V p l e rmX2_readOf s m args below meth c D vwCl A (wM cI ad) 4 0 0 Q u 22 [(0, .ref (ad 0)), (1, .int a1), (2, .int x2), (3, .int (nI k))] [] := by
  intro n
  induction n with
  | zero =>
    intro k hk u x2 KK
    obtain rfl : k = 576 := by omega
    refine V_iload_n C dX2_readOf_22 rfl 3 rfl ?_
    refine V_sipush (v := 576) C dX2_readOf_23 (by decide) ?_
    refine V_icmp_ge (tgt := 59) C dX2_readOf_26 (by decide) (fun _ => ?_) (fun h => absurd (by decide : (576 : Int32) ≤ nI 576) h)
    exact KK _ rfl
  | succ n ih =>
    intro k hk u x2 KK
    have hkB : k < 576 := by omega
    refine V_iload_n C dX2_readOf_22 rfl 3 rfl ?_
    refine V_sipush (v := 576) C dX2_readOf_23 (by decide) ?_
    refine V_icmp_ge (tgt := 59) C dX2_readOf_26 (by decide) (fun h => absurd h (nI_ge hkB (by decide))) (fun _ => ?_)
    refine V_iload_n C dX2_readOf_29 rfl 2 rfl ?_
    refine V_iload_n C dX2_readOf_30 rfl 3 rfl ?_
    refine V_bipush (v := 24) C dX2_readOf_31 (by decide) ?_
    refine V_irem C dX2_readOf_33 (by decide) ?_
    refine V_bipush (v := 6) C dX2_readOf_34 (by decide) ?_
    refine V_idiv C dX2_readOf_36 (by decide) ?_
    refine V_iload_n C dX2_readOf_37 rfl 1 rfl ?_
    refine V_join2 (J := 51) (T := (if (((nI k) - (nI k) / 24 * 24) / 6) = a1 then (mrd u 16 (nI k)) else 0)) (fun j51 hj51 => ?_) (fun J51 => ?_)
    ·
      refine V_iadd C dX2_readOf_51 ?_
      refine V_top (fun y52 hy52 => ?_)
      refine V_istore_n (ls' := [(0, .ref (ad 0)), (1, .int a1), (2, .int y52), (3, .int (nI k))]) C dX2_readOf_52 rfl (by decide) rfl rfl ?_
      refine V_iinc (v := (nI (k + 1))) (ls' := [(0, .ref (ad 0)), (1, .int a1), (2, .int y52), (3, .int (nI (k + 1)))]) C dX2_readOf_53 3 rfl (nI_1 k) (by decide) rfl rfl ?_
      refine V_goto (tgt := 22) C dX2_readOf_56 (by decide) ?_
      subst hy52
      subst hj51
      exact ih (k + 1) (by omega) _ _ (fun r hr => KK r (rfl.trans hr))
    ·
      refine V_icmp_ne (tgt := 50) C dX2_readOf_38 (by decide) (fun h38 => ?_) (fun h38 => ?_)
      ·
        refine V_iconst (v := 0) C dX2_readOf_50 (by decide) ?_
        exact J51 _ ((if_neg h38).trans rfl)
      ·
        refine V_aload_n C dX2_readOf_41 rfl 0 rfl ?_
        refine V_get (Cn := RX2) (T := TX2) (N := 18) C hinX2_readOf_X2 0 rfl rfl 16 (by decide) hfX2_readOf_55 rfl rfl dX2_readOf_42 ?_
        refine V_iload_n C dX2_readOf_45 rfl 3 rfl ?_
        refine Vm_iald C 16 0 rfl rfl (vp_in_nI hkB (by decide)) dX2_readOf_46 ?_
        refine V_goto (tgt := 51) C dX2_readOf_47 (by decide) ?_
        exact J51 _ ((if_pos h38).trans rfl)
set_option maxHeartbeats 4000000 in
theorem kX2_readOf {l : Launch} {D : va_G} {cI : ClassId} {ad : Nat → Nat} (u : vM) (a1 : Int32) : mI D vwCl (tyM cI) xT (wM cI ad) l yX2_readOf wsX2_readOf rmX2_readOf [.ref (ad 0), .int a1] u (rX2_readOf u a1) (uX2_readOf u a1) := by
  refine mI_of (cc := cX2_readOf) (maxL := 4) (ret := (some .int)) (own := RX2) rfl (by decide) rfl (wM_ok cI ad) (Nat.le_of_ble_eq_true rfl) (fun p e s m args below meth c A C => ?_)
  refine V_ls (ls' := [(0, .ref (ad 0)), (1, .int a1)]) rfl ?_
  refine V_aload_n C dX2_readOf_0 rfl 0 rfl ?_
  refine V_iconst (v := 0) C dX2_readOf_1 (by decide) ?_
  refine V_put (Cn := RX2) (T := TX2) (N := 18) C hinX2_readOf_X2 tyX2 tyX2_ok nmX2 0 rfl rfl 17 (by decide) hfX2_readOf_58 rfl rfl rfl (Nat.le_of_ble_eq_true rfl) wM_s18 dX2_readOf_2 ?_
  refine V_u (fun u2 hu2 => ?_)
  refine V_iload_n C dX2_readOf_5 rfl 1 rfl ?_
  refine V_cSi1 C xT_ok (kX2_isSheet _ _) (va_cwS 1 C.2.2.1 gX2_readOf_X2_isSheet rfl rfl rfl hdX2_isSheet ⟨Nat.le_of_ble_eq_true rfl, Nat.le_of_ble_eq_true rfl⟩) (Nat.le_of_ble_eq_true rfl) ⟨(Nat.le_of_ble_eq_true rfl), (Nat.le_of_ble_eq_true rfl)⟩ dX2_readOf_6 ?_
  refine V_if_ne (tgt := 18) C dX2_readOf_9 (by decide) (fun h9 => ?_) (fun h9 => ?_)
  ·
    refine V_iconst (v := 0) C dX2_readOf_18 (by decide) ?_
    refine V_istore_n (ls' := [(0, .ref (ad 0)), (1, .int a1), (2, .int 0)]) C dX2_readOf_19 rfl (by decide) rfl rfl ?_
    refine V_iconst (v := 0) C dX2_readOf_20 (by decide) ?_
    refine V_istore_n (ls' := [(0, .ref (ad 0)), (1, .int a1), (2, .int 0), (3, .int 0)]) C dX2_readOf_21 rfl (by decide) rfl rfl ?_
    refine V_sub (ls' := [(0, .ref (ad 0)), (1, .int a1), (2, .int 0), (3, .int 0)]) [0, 1, 2, 3] rfl ?_
    refine qX2_readOf_22 C a1 576 0 (by decide) u2 0 (fun r22 hr22 => ?_)
    refine V_iload_n C dX2_readOf_59 rfl 2 rfl ?_
    subst hr22
    subst hu2
    exact V_iret C rfl (vp_nar_int _) ((if_neg h9).trans rfl) ((if_neg h9).trans rfl) dX2_readOf_60
  ·
    refine V_aload_n C dX2_readOf_12 rfl 0 rfl ?_
    refine V_iconst (v := 1) C dX2_readOf_13 (by decide) ?_
    refine V_cVi1 C xT_ok (kX2_fails _ _) (cwV 1 C.2.2.1 gX2_readOf_X2_fails rfl rfl rfl hvX2_fails ⟨Nat.le_of_ble_eq_true rfl, Nat.le_of_ble_eq_true rfl⟩) 0 rfl rfl (Nat.le_of_ble_eq_true rfl) ⟨(Nat.le_of_ble_eq_true rfl), (Nat.le_of_ble_eq_true rfl)⟩ dX2_readOf_14 ?_
    refine V_u (fun u14 hu14 => ?_)
    subst hu14
    subst hu2
    exact V_iret C rfl (vp_nar_int _) ((if_pos h9).trans rfl) ((if_pos h9).trans rfl) dX2_readOf_17
