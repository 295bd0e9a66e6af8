variable {p : Program} {l : Launch} {e : Env} {s : State} {m : MethodId} {args : Array Value} {below : List Frame} {meth : Method} {c : Code} {D : va_G} {cI cZ : ClassId} {ad : Nat → Nat} {A : Nat → Prop}
theorem hdX1_isUser : yX1_isUser.cls ≠ "java/lang/invoke/MethodHandle" ∧ yX1_isUser.cls ≠ "java/lang/invoke/VarHandle" ∧ (parseMethodDescriptor yX1_isUser.desc).map (fun d => d.parameters.length) = some 1 := by decide +kernel
theorem hvX1_isUser : yX1_isUser.cls = RX1 ∧ yX1_isUser.cls ≠ "java/lang/invoke/MethodHandle" ∧ yX1_isUser.cls ≠ "java/lang/invoke/VarHandle" ∧ (parseMethodDescriptor yX1_isUser.desc).map (fun d => d.parameters.length) = some 1 := by decide +kernel
set_option maxHeartbeats 4000000 in
theorem kX1_isUser {l : Launch} {D : va_G} {cI cZ : ClassId} {ad : Nat → Nat} (u : vM) (a0 : Int32) : mI D vwCl (tyF cI cZ) xN (wC cI cZ ad) l yX1_isUser wsX1_isUser rmX1_isUser [.int a0] u (rX1_isUser a0) u := by
  refine mI_of (cc := cX1_isUser) (maxL := 1) (ret := (some .boolean)) (own := RX1) rfl (by decide) rfl (wC_ok cI cZ ad) (Nat.le_of_ble_eq_true rfl) (fun p e s m args below meth c A C => ?_)
  refine V_ls (ls' := [(0, .int a0)]) rfl ?_
  refine V_iload_n C dX1_isUser_0 rfl 0 rfl ?_
  refine V_join1 (J := 14) (T := (if a0 < 0 then 0 else (if 5 ≤ a0 then 0 else 1))) (fun j14 hj14 => ?_) (fun J14 => ?_)
  ·
    subst hj14
    exact V_iret C rfl (by (repeat' split) <;> rfl) rfl rfl dX1_isUser_14
  ·
    refine V_if_lt (tgt := 13) C dX1_isUser_1 (by decide) (fun h1 => ?_) (fun h1 => ?_)
    ·
      refine V_iconst (v := 0) C dX1_isUser_13 (by decide) ?_
      exact J14 _ ((if_pos h1).trans rfl)
    ·
      refine V_iload_n C dX1_isUser_4 rfl 0 rfl ?_
      refine V_iconst (v := 5) C dX1_isUser_5 (by decide) ?_
      refine V_icmp_ge (tgt := 13) C dX1_isUser_6 (by decide) (fun h6 => ?_) (fun h6 => ?_)
      ·
        refine V_iconst (v := 0) C dX1_isUser_13 (by decide) ?_
        exact J14 _ ((if_neg h1).trans ((if_pos h6).trans rfl))
      ·
        refine V_iconst (v := 1) C dX1_isUser_9 (by decide) ?_
        refine V_goto (tgt := 14) C dX1_isUser_10 (by decide) ?_
        exact J14 _ ((if_neg h1).trans ((if_neg h6).trans rfl))
theorem hdX1_isCell : yX1_isCell.cls ≠ "java/lang/invoke/MethodHandle" ∧ yX1_isCell.cls ≠ "java/lang/invoke/VarHandle" ∧ (parseMethodDescriptor yX1_isCell.desc).map (fun d => d.parameters.length) = some 1 := by decide +kernel
theorem hvX1_isCell : yX1_isCell.cls = RX1 ∧ yX1_isCell.cls ≠ "java/lang/invoke/MethodHandle" ∧ yX1_isCell.cls ≠ "java/lang/invoke/VarHandle" ∧ (parseMethodDescriptor yX1_isCell.desc).map (fun d => d.parameters.length) = some 1 := by decide +kernel
set_option maxHeartbeats 4000000 in
theorem kX1_isCell {l : Launch} {D : va_G} {cI cZ : ClassId} {ad : Nat → Nat} (u : vM) (a0 : Int32) : mI D vwCl (tyF cI cZ) xN (wC cI cZ ad) l yX1_isCell wsX1_isCell rmX1_isCell [.int a0] u (rX1_isCell a0) u := by
  refine mI_of (cc := cX1_isCell) (maxL := 1) (ret := (some .boolean)) (own := RX1) rfl (by decide) rfl (wC_ok cI cZ ad) (Nat.le_of_ble_eq_true rfl) (fun p e s m args below meth c A C => ?_)
  refine V_ls (ls' := [(0, .int a0)]) rfl ?_
  refine V_iload_n C dX1_isCell_0 rfl 0 rfl ?_
  refine V_join1 (J := 15) (T := (if a0 < 0 then 0 else (if 24 ≤ a0 then 0 else 1))) (fun j15 hj15 => ?_) (fun J15 => ?_)
  ·
    subst hj15
    exact V_iret C rfl (by (repeat' split) <;> rfl) rfl rfl dX1_isCell_15
  ·
    refine V_if_lt (tgt := 14) C dX1_isCell_1 (by decide) (fun h1 => ?_) (fun h1 => ?_)
    ·
      refine V_iconst (v := 0) C dX1_isCell_14 (by decide) ?_
      exact J15 _ ((if_pos h1).trans rfl)
    ·
      refine V_iload_n C dX1_isCell_4 rfl 0 rfl ?_
      refine V_bipush (v := 24) C dX1_isCell_5 (by decide) ?_
      refine V_icmp_ge (tgt := 14) C dX1_isCell_7 (by decide) (fun h7 => ?_) (fun h7 => ?_)
      ·
        refine V_iconst (v := 0) C dX1_isCell_14 (by decide) ?_
        exact J15 _ ((if_neg h1).trans ((if_pos h7).trans rfl))
      ·
        refine V_iconst (v := 1) C dX1_isCell_10 (by decide) ?_
        refine V_goto (tgt := 15) C dX1_isCell_11 (by decide) ?_
        exact J15 _ ((if_neg h1).trans ((if_neg h7).trans rfl))
theorem hdX1_isWithin : yX1_isWithin.cls ≠ "java/lang/invoke/MethodHandle" ∧ yX1_isWithin.cls ≠ "java/lang/invoke/VarHandle" ∧ (parseMethodDescriptor yX1_isWithin.desc).map (fun d => d.parameters.length) = some 2 := by decide +kernel
theorem hvX1_isWithin : yX1_isWithin.cls = RX1 ∧ yX1_isWithin.cls ≠ "java/lang/invoke/MethodHandle" ∧ yX1_isWithin.cls ≠ "java/lang/invoke/VarHandle" ∧ (parseMethodDescriptor yX1_isWithin.desc).map (fun d => d.parameters.length) = some 2 := by decide +kernel
set_option maxHeartbeats 4000000 in
theorem kX1_isWithin {l : Launch} {D : va_G} {cI cZ : ClassId} {ad : Nat → Nat} (u : vM) (a0 : Int32) (a1 : Int32) : mI D vwCl (tyF cI cZ) xN (wC cI cZ ad) l yX1_isWithin wsX1_isWithin rmX1_isWithin [.int a0, .int a1] u (rX1_isWithin a0 a1) u := by
  refine mI_of (cc := cX1_isWithin) (maxL := 2) (ret := (some .boolean)) (own := RX1) rfl (by decide) rfl (wC_ok cI cZ ad) (Nat.le_of_ble_eq_true rfl) (fun p e s m args below meth c A C => ?_)
  refine V_ls (ls' := [(0, .int a0), (1, .int a1)]) rfl ?_
  refine V_iload_n C dX1_isWithin_0 rfl 0 rfl ?_
  refine V_iload_n C dX1_isWithin_1 rfl 1 rfl ?_
  refine V_ineg C dX1_isWithin_2 ?_
  refine V_join2 (J := 16) (T := (if a0 < (-a1) then 0 else (if a1 < a0 then 0 else 1))) (fun j16 hj16 => ?_) (fun J16 => ?_)
  ·
    subst hj16
    exact V_iret C rfl (by (repeat' split) <;> rfl) rfl rfl dX1_isWithin_16
  ·
    refine V_icmp_lt (tgt := 15) C dX1_isWithin_3 (by decide) (fun h3 => ?_) (fun h3 => ?_)
    ·
      refine V_iconst (v := 0) C dX1_isWithin_15 (by decide) ?_
      exact J16 _ ((if_pos h3).trans rfl)
    ·
      refine V_iload_n C dX1_isWithin_6 rfl 0 rfl ?_
      refine V_iload_n C dX1_isWithin_7 rfl 1 rfl ?_
      refine V_icmp_gt (tgt := 15) C dX1_isWithin_8 (by decide) (fun h8 => ?_) (fun h8 => ?_)
      ·
        refine V_iconst (v := 0) C dX1_isWithin_15 (by decide) ?_
        exact J16 _ ((if_neg h3).trans ((if_pos h8).trans rfl))
      ·
        refine V_iconst (v := 1) C dX1_isWithin_11 (by decide) ?_
        refine V_goto (tgt := 16) C dX1_isWithin_12 (by decide) ?_
        exact J16 _ ((if_neg h3).trans ((if_neg h8).trans rfl))
theorem hdX1_isIn : yX1_isIn.cls ≠ "java/lang/invoke/MethodHandle" ∧ yX1_isIn.cls ≠ "java/lang/invoke/VarHandle" ∧ (parseMethodDescriptor yX1_isIn.desc).map (fun d => d.parameters.length) = some 2 := by decide +kernel
theorem hvX1_isIn : yX1_isIn.cls = RX1 ∧ yX1_isIn.cls ≠ "java/lang/invoke/MethodHandle" ∧ yX1_isIn.cls ≠ "java/lang/invoke/VarHandle" ∧ (parseMethodDescriptor yX1_isIn.desc).map (fun d => d.parameters.length) = some 2 := by decide +kernel
set_option maxHeartbeats 4000000 in
theorem kX1_isIn_v9 {l : Launch} {D : va_G} {cI cZ : ClassId} {ad : Nat → Nat} (u : vM) (a0 : Int32) : mI D vwCl (tyF cI cZ) xN (wC cI cZ ad) l yX1_isIn wsX1_isIn rmX1_isIn [.int a0, .ref (ad 9)] u (rX1_isIn_v9 u a0) u := by
  refine mI_of (cc := cX1_isIn) (maxL := 2) (ret := (some .boolean)) (own := RX1) rfl (by decide) rfl (wC_ok cI cZ ad) (Nat.le_of_ble_eq_true rfl) (fun p e s m args below meth c A C => ?_)
  refine V_ls (ls' := [(0, .int a0), (1, .ref (ad 9))]) rfl ?_
  refine V_iload_n C dX1_isIn_0 rfl 0 rfl ?_
  refine V_join1 (J := 21) (T := (if a0 < 0 then 0 else (if 24 ≤ a0 then 0 else (if (mrd u 9 a0) = 0 then 0 else 1)))) (fun j21 hj21 => ?_) (fun J21 => ?_)
  ·
    subst hj21
    exact V_iret C rfl (by (repeat' split) <;> rfl) rfl rfl dX1_isIn_21
  ·
    refine V_if_lt (tgt := 20) C dX1_isIn_1 (by decide) (fun h1 => ?_) (fun h1 => ?_)
    ·
      refine V_iconst (v := 0) C dX1_isIn_20 (by decide) ?_
      exact J21 _ ((if_pos h1).trans rfl)
    ·
      refine V_iload_n C dX1_isIn_4 rfl 0 rfl ?_
      refine V_aload_n C dX1_isIn_5 rfl 1 rfl ?_
      refine V_alen (v := 24) C 9 1 rfl rfl rfl dX1_isIn_6 ?_
      refine V_icmp_ge (tgt := 20) C dX1_isIn_7 (by decide) (fun h7 => ?_) (fun h7 => ?_)
      ·
        refine V_iconst (v := 0) C dX1_isIn_20 (by decide) ?_
        exact J21 _ ((if_neg h1).trans ((if_pos h7).trans rfl))
      ·
        refine V_aload_n C dX1_isIn_10 rfl 1 rfl ?_
        refine V_iload_n C dX1_isIn_11 rfl 0 rfl ?_
        refine Vm_zald C 9 1 rfl rfl (vq_lt h1 h7) dX1_isIn_12 ?_
        refine V_if_eq (tgt := 20) C dX1_isIn_13 (by decide) (fun h13 => ?_) (fun h13 => ?_)
        ·
          refine V_iconst (v := 0) C dX1_isIn_20 (by decide) ?_
          exact J21 _ ((if_neg h1).trans ((if_neg h7).trans ((if_pos h13).trans rfl)))
        ·
          refine V_iconst (v := 1) C dX1_isIn_16 (by decide) ?_
          refine V_goto (tgt := 21) C dX1_isIn_17 (by decide) ?_
          exact J21 _ ((if_neg h1).trans ((if_neg h7).trans ((if_neg h13).trans rfl)))
set_option maxHeartbeats 4000000 in
theorem kX1_isIn_v10 {l : Launch} {D : va_G} {cI cZ : ClassId} {ad : Nat → Nat} (u : vM) (a0 : Int32) : mI D vwCl (tyF cI cZ) xN (wC cI cZ ad) l yX1_isIn wsX1_isIn rmX1_isIn [.int a0, .ref (ad 10)] u (rX1_isIn_v10 u a0) u := by
  refine mI_of (cc := cX1_isIn) (maxL := 2) (ret := (some .boolean)) (own := RX1) rfl (by decide) rfl (wC_ok cI cZ ad) (Nat.le_of_ble_eq_true rfl) (fun p e s m args below meth c A C => ?_)
  refine V_ls (ls' := [(0, .int a0), (1, .ref (ad 10))]) rfl ?_
  refine V_iload_n C dX1_isIn_0 rfl 0 rfl ?_
  refine V_join1 (J := 21) (T := (if a0 < 0 then 0 else (if 24 ≤ a0 then 0 else (if (mrd u 10 a0) = 0 then 0 else 1)))) (fun j21 hj21 => ?_) (fun J21 => ?_)
  ·
    subst hj21
    exact V_iret C rfl (by (repeat' split) <;> rfl) rfl rfl dX1_isIn_21
  ·
    refine V_if_lt (tgt := 20) C dX1_isIn_1 (by decide) (fun h1 => ?_) (fun h1 => ?_)
    ·
      refine V_iconst (v := 0) C dX1_isIn_20 (by decide) ?_
      exact J21 _ ((if_pos h1).trans rfl)
    ·
      refine V_iload_n C dX1_isIn_4 rfl 0 rfl ?_
      refine V_aload_n C dX1_isIn_5 rfl 1 rfl ?_
      refine V_alen (v := 24) C 10 1 rfl rfl rfl dX1_isIn_6 ?_
      refine V_icmp_ge (tgt := 20) C dX1_isIn_7 (by decide) (fun h7 => ?_) (fun h7 => ?_)
      ·
        refine V_iconst (v := 0) C dX1_isIn_20 (by decide) ?_
        exact J21 _ ((if_neg h1).trans ((if_pos h7).trans rfl))
      ·
        refine V_aload_n C dX1_isIn_10 rfl 1 rfl ?_
        refine V_iload_n C dX1_isIn_11 rfl 0 rfl ?_
        refine Vm_zald C 10 1 rfl rfl (vq_lt h1 h7) dX1_isIn_12 ?_
        refine V_if_eq (tgt := 20) C dX1_isIn_13 (by decide) (fun h13 => ?_) (fun h13 => ?_)
        ·
          refine V_iconst (v := 0) C dX1_isIn_20 (by decide) ?_
          exact J21 _ ((if_neg h1).trans ((if_neg h7).trans ((if_pos h13).trans rfl)))
        ·
          refine V_iconst (v := 1) C dX1_isIn_16 (by decide) ?_
          refine V_goto (tgt := 21) C dX1_isIn_17 (by decide) ?_
          exact J21 _ ((if_neg h1).trans ((if_neg h7).trans ((if_neg h13).trans rfl)))
set_option maxHeartbeats 4000000 in
theorem kX1_isIn_v11 {l : Launch} {D : va_G} {cI cZ : ClassId} {ad : Nat → Nat} (u : vM) (a0 : Int32) : mI D vwCl (tyF cI cZ) xN (wC cI cZ ad) l yX1_isIn wsX1_isIn rmX1_isIn [.int a0, .ref (ad 11)] u (rX1_isIn_v11 u a0) u := by
  refine mI_of (cc := cX1_isIn) (maxL := 2) (ret := (some .boolean)) (own := RX1) rfl (by decide) rfl (wC_ok cI cZ ad) (Nat.le_of_ble_eq_true rfl) (fun p e s m args below meth c A C => ?_)
  refine V_ls (ls' := [(0, .int a0), (1, .ref (ad 11))]) rfl ?_
  refine V_iload_n C dX1_isIn_0 rfl 0 rfl ?_
  refine V_join1 (J := 21) (T := (if a0 < 0 then 0 else (if 24 ≤ a0 then 0 else (if (mrd u 11 a0) = 0 then 0 else 1)))) (fun j21 hj21 => ?_) (fun J21 => ?_)
  ·
    subst hj21
    exact V_iret C rfl (by (repeat' split) <;> rfl) rfl rfl dX1_isIn_21
  ·
    refine V_if_lt (tgt := 20) C dX1_isIn_1 (by decide) (fun h1 => ?_) (fun h1 => ?_)
    ·
      refine V_iconst (v := 0) C dX1_isIn_20 (by decide) ?_
      exact J21 _ ((if_pos h1).trans rfl)
    ·
      refine V_iload_n C dX1_isIn_4 rfl 0 rfl ?_
      refine V_aload_n C dX1_isIn_5 rfl 1 rfl ?_
      refine V_alen (v := 24) C 11 1 rfl rfl rfl dX1_isIn_6 ?_
      refine V_icmp_ge (tgt := 20) C dX1_isIn_7 (by decide) (fun h7 => ?_) (fun h7 => ?_)
      ·
        refine V_iconst (v := 0) C dX1_isIn_20 (by decide) ?_
        exact J21 _ ((if_neg h1).trans ((if_pos h7).trans rfl))
      ·
        refine V_aload_n C dX1_isIn_10 rfl 1 rfl ?_
        refine V_iload_n C dX1_isIn_11 rfl 0 rfl ?_
        refine Vm_zald C 11 1 rfl rfl (vq_lt h1 h7) dX1_isIn_12 ?_
        refine V_if_eq (tgt := 20) C dX1_isIn_13 (by decide) (fun h13 => ?_) (fun h13 => ?_)
        ·
          refine V_iconst (v := 0) C dX1_isIn_20 (by decide) ?_
          exact J21 _ ((if_neg h1).trans ((if_neg h7).trans ((if_pos h13).trans rfl)))
        ·
          refine V_iconst (v := 1) C dX1_isIn_16 (by decide) ?_
          refine V_goto (tgt := 21) C dX1_isIn_17 (by decide) ?_
          exact J21 _ ((if_neg h1).trans ((if_neg h7).trans ((if_neg h13).trans rfl)))
theorem hdX1_isReady : yX1_isReady.cls ≠ "java/lang/invoke/MethodHandle" ∧ yX1_isReady.cls ≠ "java/lang/invoke/VarHandle" ∧ (parseMethodDescriptor yX1_isReady.desc).map (fun d => d.parameters.length) = some 1 := by decide +kernel
theorem hvX1_isReady : yX1_isReady.cls = RX1 ∧ yX1_isReady.cls ≠ "java/lang/invoke/MethodHandle" ∧ yX1_isReady.cls ≠ "java/lang/invoke/VarHandle" ∧ (parseMethodDescriptor yX1_isReady.desc).map (fun d => d.parameters.length) = some 1 := by decide +kernel
theorem hinX1_isReady_X1 : ∀ w ∈ u_ws RX1 TX1 12, w ∈ wsX1_isReady := by decide +kernel
theorem hfX1_isReady_42 : Cond.fieldLink RX1 42 "MeteredSheets" "placed" "[Z" ∈ wsX1_isReady := by decide +kernel
set_option maxHeartbeats 4000000 in
theorem kX1_isReady {l : Launch} {D : va_G} {cI cZ : ClassId} {ad : Nat → Nat} (u : vM) (a1 : Int32) : mI D vwCl (tyF cI cZ) xN (wC cI cZ ad) l yX1_isReady wsX1_isReady rmX1_isReady [.ref (ad 0), .int a1] u (rX1_isReady u a1) u := by
  refine mI_of (cc := cX1_isReady) (maxL := 2) (ret := (some .boolean)) (own := RX1) rfl (by decide) rfl (wC_ok cI cZ ad) (Nat.le_of_ble_eq_true rfl) (fun p e s m args below meth c A C => ?_)
  refine V_ls (ls' := [(0, .ref (ad 0)), (1, .int a1)]) rfl ?_
  refine V_iload_n C dX1_isReady_0 rfl 1 rfl ?_
  refine V_iconst (v := (-1)) C dX1_isReady_1 (by decide) ?_
  refine V_join2 (J := 21) (T := (if a1 = (-1) then 1 else (if (rX1_isIn_v10 u a1) = 0 then 0 else 1))) (fun j21 hj21 => ?_) (fun J21 => ?_)
  ·
    subst hj21
    exact V_iret C rfl (by (repeat' split) <;> rfl) rfl rfl dX1_isReady_21
  ·
    refine V_icmp_eq (tgt := 16) C dX1_isReady_2 (by decide) (fun h2 => ?_) (fun h2 => ?_)
    ·
      refine V_iconst (v := 1) C dX1_isReady_16 (by decide) ?_
      refine V_goto (tgt := 21) C dX1_isReady_17 (by decide) ?_
      exact J21 _ ((if_pos h2).trans rfl)
    ·
      refine V_iload_n C dX1_isReady_5 rfl 1 rfl ?_
      refine V_aload_n C dX1_isReady_6 rfl 0 rfl ?_
      refine V_get (Cn := RX1) (T := TX1) (N := 12) C hinX1_isReady_X1 0 rfl rfl 9 (by decide) hfX1_isReady_42 rfl rfl dX1_isReady_7 ?_
      refine V_cSi2 C xN_ok (kX1_isIn_v10 _ _) (va_cwS 2 C.2.2.1 gX1_isReady_X1_isIn rfl rfl rfl hdX1_isIn ⟨Nat.le_of_ble_eq_true rfl, Nat.le_of_ble_eq_true rfl⟩) (Nat.le_of_ble_eq_true rfl) ⟨(Nat.le_of_ble_eq_true rfl), (Nat.le_of_ble_eq_true rfl)⟩ dX1_isReady_10 ?_
      refine V_if_eq (tgt := 20) C dX1_isReady_13 (by decide) (fun h13 => ?_) (fun h13 => ?_)
      ·
        refine V_iconst (v := 0) C dX1_isReady_20 (by decide) ?_
        exact J21 _ ((if_neg h2).trans ((if_pos h13).trans rfl))
      ·
        refine V_iconst (v := 1) C dX1_isReady_16 (by decide) ?_
        refine V_goto (tgt := 21) C dX1_isReady_17 (by decide) ?_
        exact J21 _ ((if_neg h2).trans ((if_neg h13).trans rfl))
theorem hdX1_lowestFreeCell : yX1_lowestFreeCell.cls ≠ "java/lang/invoke/MethodHandle" ∧ yX1_lowestFreeCell.cls ≠ "java/lang/invoke/VarHandle" ∧ (parseMethodDescriptor yX1_lowestFreeCell.desc).map (fun d => d.parameters.length) = some 0 := by decide +kernel
theorem hvX1_lowestFreeCell : yX1_lowestFreeCell.cls = RX1 ∧ yX1_lowestFreeCell.cls ≠ "java/lang/invoke/MethodHandle" ∧ yX1_lowestFreeCell.cls ≠ "java/lang/invoke/VarHandle" ∧ (parseMethodDescriptor yX1_lowestFreeCell.desc).map (fun d => d.parameters.length) = some 0 := by decide +kernel
theorem hinX1_lowestFreeCell_X1 : ∀ w ∈ u_ws RX1 TX1 12, w ∈ wsX1_lowestFreeCell := by decide +kernel
theorem hfX1_lowestFreeCell_42 : Cond.fieldLink RX1 42 "MeteredSheets" "placed" "[Z" ∈ wsX1_lowestFreeCell := by decide +kernel
theorem hfX1_lowestFreeCell_13 : Cond.fieldLink RX1 13 "MeteredSheets" "ones" "[I" ∈ wsX1_lowestFreeCell := by decide +kernel
theorem hfX1_lowestFreeCell_16 : Cond.fieldLink RX1 16 "MeteredSheets" "others" "[I" ∈ wsX1_lowestFreeCell := by decide +kernel
set_option maxHeartbeats 4000000 in
theorem qX1_lowestFreeCell_2 (C : vC p s m args meth c D vwCl (tyF cI cZ) xN A (wC cI cZ ad) cX1_lowestFreeCell RX1 wsX1_lowestFreeCell 2 (some .int))  : ∀ (n k : Nat), k + n = 24 → ∀ (u : vM), ∀ (r : Int32) (u' : vM), r = lpX1_lowestFreeCell_2 u n k → u' = u → V p l e rmX1_lowestFreeCell s m args below meth c D vwCl A (wC cI cZ ad) 2 0 0 (MQ below (mQi D vwCl (wC cI cZ ad) A r u') args s 0 0 A) u 2 [(0, .ref (ad 0)), (1, .int (nI k))] [] := by
  intro n
  induction n with
  | zero =>
    intro k hk u r u' hr hu
    obtain rfl : k = 24 := by omega
    refine V_iload_n C dX1_lowestFreeCell_2 rfl 1 rfl ?_
    refine V_bipush (v := 24) C dX1_lowestFreeCell_3 (by decide) ?_
    refine V_icmp_ge (tgt := 51) C dX1_lowestFreeCell_5 (by decide) (fun _ => ?_) (fun h => absurd (by decide : (24 : Int32) ≤ nI 24) h)
    refine V_iconst (v := (-1)) C dX1_lowestFreeCell_51 (by decide) ?_
    exact V_iret C rfl (vp_nar_int _) (hr.trans rfl) hu dX1_lowestFreeCell_52
  | succ n ih =>
    intro k hk u r u' hr hu
    have hkB : k < 24 := by omega
    refine V_iload_n C dX1_lowestFreeCell_2 rfl 1 rfl ?_
    refine V_bipush (v := 24) C dX1_lowestFreeCell_3 (by decide) ?_
    refine V_icmp_ge (tgt := 51) C dX1_lowestFreeCell_5 (by decide) (fun h => absurd h (nI_ge hkB (by decide))) (fun _ => ?_)
    refine V_aload_n C dX1_lowestFreeCell_8 rfl 0 rfl ?_
    refine V_get (Cn := RX1) (T := TX1) (N := 12) C hinX1_lowestFreeCell_X1 0 rfl rfl 9 (by decide) hfX1_lowestFreeCell_42 rfl rfl dX1_lowestFreeCell_9 ?_
    refine V_iload_n C dX1_lowestFreeCell_12 rfl 1 rfl ?_
    refine Vm_zald C 10 1 rfl rfl (vp_in_nI hkB (by decide)) dX1_lowestFreeCell_13 ?_
    refine V_if_ne (tgt := 45) C dX1_lowestFreeCell_14 (by decide) (fun h14 => ?_) (fun h14 => ?_)
    ·
      refine V_iinc (v := (nI (k + 1))) (ls' := [(0, .ref (ad 0)), (1, .int (nI (k + 1)))]) C dX1_lowestFreeCell_45 1 rfl (nI_1 k) (by decide) rfl rfl ?_
      refine V_goto (tgt := 2) C dX1_lowestFreeCell_48 (by decide) ?_
      exact ih (k + 1) (by omega) _ r u' (hr.trans ((if_neg h14).trans rfl)) hu
    ·
      refine V_aload_n C dX1_lowestFreeCell_17 rfl 0 rfl ?_
      refine V_aload_n C dX1_lowestFreeCell_18 rfl 0 rfl ?_
      refine V_get (Cn := RX1) (T := TX1) (N := 12) C hinX1_lowestFreeCell_X1 0 rfl rfl 1 (by decide) hfX1_lowestFreeCell_13 rfl rfl dX1_lowestFreeCell_19 ?_
      refine V_iload_n C dX1_lowestFreeCell_22 rfl 1 rfl ?_
      refine Vm_iald C 2 0 rfl rfl (vp_in_nI hkB (by decide)) dX1_lowestFreeCell_23 ?_
      refine V_cVi1 C xN_ok (kX1_isReady _ _) (cwV 1 C.2.2.1 gX1_lowestFreeCell_X1_isReady rfl rfl rfl hvX1_isReady ⟨Nat.le_of_ble_eq_true rfl, Nat.le_of_ble_eq_true rfl⟩) 0 rfl rfl (Nat.le_of_ble_eq_true rfl) ⟨(Nat.le_of_ble_eq_true rfl), (Nat.le_of_ble_eq_true rfl)⟩ dX1_lowestFreeCell_24 ?_
      refine V_if_eq (tgt := 45) C dX1_lowestFreeCell_27 (by decide) (fun h27 => ?_) (fun h27 => ?_)
      ·
        refine V_iinc (v := (nI (k + 1))) (ls' := [(0, .ref (ad 0)), (1, .int (nI (k + 1)))]) C dX1_lowestFreeCell_45 1 rfl (nI_1 k) (by decide) rfl rfl ?_
        refine V_goto (tgt := 2) C dX1_lowestFreeCell_48 (by decide) ?_
        exact ih (k + 1) (by omega) _ r u' (hr.trans ((if_pos h14).trans ((if_pos h27).trans rfl))) hu
      ·
        refine V_aload_n C dX1_lowestFreeCell_30 rfl 0 rfl ?_
        refine V_aload_n C dX1_lowestFreeCell_31 rfl 0 rfl ?_
        refine V_get (Cn := RX1) (T := TX1) (N := 12) C hinX1_lowestFreeCell_X1 0 rfl rfl 2 (by decide) hfX1_lowestFreeCell_16 rfl rfl dX1_lowestFreeCell_32 ?_
        refine V_iload_n C dX1_lowestFreeCell_35 rfl 1 rfl ?_
        refine Vm_iald C 3 0 rfl rfl (vp_in_nI hkB (by decide)) dX1_lowestFreeCell_36 ?_
        refine V_cVi1 C xN_ok (kX1_isReady _ _) (cwV 1 C.2.2.1 gX1_lowestFreeCell_X1_isReady rfl rfl rfl hvX1_isReady ⟨Nat.le_of_ble_eq_true rfl, Nat.le_of_ble_eq_true rfl⟩) 0 rfl rfl (Nat.le_of_ble_eq_true rfl) ⟨(Nat.le_of_ble_eq_true rfl), (Nat.le_of_ble_eq_true rfl)⟩ dX1_lowestFreeCell_37 ?_
        refine V_if_eq (tgt := 45) C dX1_lowestFreeCell_40 (by decide) (fun h40 => ?_) (fun h40 => ?_)
        ·
          refine V_iinc (v := (nI (k + 1))) (ls' := [(0, .ref (ad 0)), (1, .int (nI (k + 1)))]) C dX1_lowestFreeCell_45 1 rfl (nI_1 k) (by decide) rfl rfl ?_
          refine V_goto (tgt := 2) C dX1_lowestFreeCell_48 (by decide) ?_
          exact ih (k + 1) (by omega) _ r u' (hr.trans ((if_pos h14).trans ((if_neg h27).trans ((if_pos h40).trans rfl)))) hu
        ·
          refine V_iload_n C dX1_lowestFreeCell_43 rfl 1 rfl ?_
          exact V_iret C rfl (vp_nar_int _) (hr.trans ((if_pos h14).trans ((if_neg h27).trans ((if_neg h40).trans rfl)))) hu dX1_lowestFreeCell_44
set_option maxHeartbeats 4000000 in
theorem kX1_lowestFreeCell {l : Launch} {D : va_G} {cI cZ : ClassId} {ad : Nat → Nat} (u : vM) : mI D vwCl (tyF cI cZ) xN (wC cI cZ ad) l yX1_lowestFreeCell wsX1_lowestFreeCell rmX1_lowestFreeCell [.ref (ad 0)] u (rX1_lowestFreeCell u) u := by
  refine mI_of (cc := cX1_lowestFreeCell) (maxL := 2) (ret := (some .int)) (own := RX1) rfl (by decide) rfl (wC_ok cI cZ ad) (Nat.le_of_ble_eq_true rfl) (fun p e s m args below meth c A C => ?_)
  refine V_ls (ls' := [(0, .ref (ad 0))]) rfl ?_
  refine V_iconst (v := 0) C dX1_lowestFreeCell_0 (by decide) ?_
  refine V_istore_n (ls' := [(0, .ref (ad 0)), (1, .int 0)]) C dX1_lowestFreeCell_1 rfl (by decide) rfl rfl ?_
  refine V_sub (ls' := [(0, .ref (ad 0)), (1, .int 0)]) [0, 1] rfl ?_
  exact qX1_lowestFreeCell_2 C 24 0 (by decide) u _ _ (by rfl) rfl
theorem hdX1_putInOrder : yX1_putInOrder.cls ≠ "java/lang/invoke/MethodHandle" ∧ yX1_putInOrder.cls ≠ "java/lang/invoke/VarHandle" ∧ (parseMethodDescriptor yX1_putInOrder.desc).map (fun d => d.parameters.length) = some 0 := by decide +kernel
theorem hvX1_putInOrder : yX1_putInOrder.cls = RX1 ∧ yX1_putInOrder.cls ≠ "java/lang/invoke/MethodHandle" ∧ yX1_putInOrder.cls ≠ "java/lang/invoke/VarHandle" ∧ (parseMethodDescriptor yX1_putInOrder.desc).map (fun d => d.parameters.length) = some 0 := by decide +kernel
theorem hinX1_putInOrder_X1 : ∀ w ∈ u_ws RX1 TX1 12, w ∈ wsX1_putInOrder := by decide +kernel
theorem hfX1_putInOrder_42 : Cond.fieldLink RX1 42 "MeteredSheets" "placed" "[Z" ∈ wsX1_putInOrder := by decide +kernel
theorem hfX1_putInOrder_29 : Cond.fieldLink RX1 29 "MeteredSheets" "order" "[I" ∈ wsX1_putInOrder := by decide +kernel
set_option maxHeartbeats 4000000 in
theorem qX1_putInOrder_2 (C : vC p s m args meth c D vwCl (tyF cI cZ) xN A (wC cI cZ ad) cX1_putInOrder RX1 wsX1_putInOrder 3 none) {Q : State → Prop} : ∀ (n k : Nat), k + n = 24 → ∀ (u : vM), (∀ r : vM, lpX1_putInOrder_2 n k u = r → V p l e rmX1_putInOrder s m args below meth c D vwCl A (wC cI cZ ad) 3 0 0 Q r 21 [(0, .ref (ad 0)), (1, .int (nI 24))] []) → V p l e rmX1_putInOrder s m args below meth c D vwCl A (wC cI cZ ad) 3 0 0 Q u 2 [(0, .ref (ad 0)), (1, .int (nI k))] [] := by
  intro n
  induction n with
  | zero =>
    intro k hk u KK
    obtain rfl : k = 24 := by omega
    refine V_iload_n C dX1_putInOrder_2 rfl 1 rfl ?_
    refine V_bipush (v := 24) C dX1_putInOrder_3 (by decide) ?_
    refine V_icmp_ge (tgt := 21) C dX1_putInOrder_5 (by decide) (fun _ => ?_) (fun h => absurd (by decide : (24 : Int32) ≤ nI 24) h)
    exact KK _ rfl
  | succ n ih =>
    intro k hk u KK
    have hkB : k < 24 := by omega
    refine V_iload_n C dX1_putInOrder_2 rfl 1 rfl ?_
    refine V_bipush (v := 24) C dX1_putInOrder_3 (by decide) ?_
    refine V_icmp_ge (tgt := 21) C dX1_putInOrder_5 (by decide) (fun h => absurd h (nI_ge hkB (by decide))) (fun _ => ?_)
    refine V_aload_n C dX1_putInOrder_8 rfl 0 rfl ?_
    refine V_get (Cn := RX1) (T := TX1) (N := 12) C hinX1_putInOrder_X1 0 rfl rfl 9 (by decide) hfX1_putInOrder_42 rfl rfl dX1_putInOrder_9 ?_
    refine V_iload_n C dX1_putInOrder_12 rfl 1 rfl ?_
    refine V_iconst (v := 0) C dX1_putInOrder_13 (by decide) ?_
    refine Vm_zast C 10 1 rfl rfl (vp_in_nI hkB (by decide)) rfl wC_s10 dX1_putInOrder_14 ?_
    refine V_u (fun u14 hu14 => ?_)
    refine V_iinc (v := (nI (k + 1))) (ls' := [(0, .ref (ad 0)), (1, .int (nI (k + 1)))]) C dX1_putInOrder_15 1 rfl (nI_1 k) (by decide) rfl rfl ?_
    refine V_goto (tgt := 2) C dX1_putInOrder_18 (by decide) ?_
    subst hu14
    exact ih (k + 1) (by omega) _ (fun r hr => KK r (rfl.trans hr))
set_option maxHeartbeats 4000000 in
theorem qX1_putInOrder_23 (C : vC p s m args meth c D vwCl (tyF cI cZ) xN A (wC cI cZ ad) cX1_putInOrder RX1 wsX1_putInOrder 3 none) {Q : State → Prop} : ∀ (n k : Nat), k + n = 24 → ∀ (u : vM), (∀ r : vM, lpX1_putInOrder_23 n k u = r → V p l e rmX1_putInOrder s m args below meth c D vwCl A (wC cI cZ ad) 3 0 0 Q r 61 [(0, .ref (ad 0)), (1, .int (nI 24))] []) → V p l e rmX1_putInOrder s m args below meth c D vwCl A (wC cI cZ ad) 3 0 0 Q u 23 [(0, .ref (ad 0)), (1, .int (nI k))] [] := by
  intro n
  induction n with
  | zero =>
    intro k hk u KK
    obtain rfl : k = 24 := by omega
    refine V_iload_n C dX1_putInOrder_23 rfl 1 rfl ?_
    refine V_bipush (v := 24) C dX1_putInOrder_24 (by decide) ?_
    refine V_icmp_ge (tgt := 61) C dX1_putInOrder_26 (by decide) (fun _ => ?_) (fun h => absurd (by decide : (24 : Int32) ≤ nI 24) h)
    exact KK _ rfl
  | succ n ih =>
    intro k hk u KK
    have hkB : k < 24 := by omega
    refine V_iload_n C dX1_putInOrder_23 rfl 1 rfl ?_
    refine V_bipush (v := 24) C dX1_putInOrder_24 (by decide) ?_
    refine V_icmp_ge (tgt := 61) C dX1_putInOrder_26 (by decide) (fun h => absurd h (nI_ge hkB (by decide))) (fun _ => ?_)
    refine V_aload_n C dX1_putInOrder_29 rfl 0 rfl ?_
    refine V_cVi0 C xN_ok (kX1_lowestFreeCell _) (cwV 0 C.2.2.1 gX1_putInOrder_X1_lowestFreeCell rfl rfl rfl hvX1_lowestFreeCell ⟨Nat.le_of_ble_eq_true rfl, Nat.le_of_ble_eq_true rfl⟩) 0 rfl rfl (Nat.le_of_ble_eq_true rfl) ⟨(Nat.le_of_ble_eq_true rfl), (Nat.le_of_ble_eq_true rfl)⟩ dX1_putInOrder_30 ?_
    refine V_top (fun y33 hy33 => ?_)
    refine V_istore_n (ls' := [(0, .ref (ad 0)), (1, .int (nI k)), (2, .int y33)]) C dX1_putInOrder_33 rfl (by decide) rfl rfl ?_
    refine V_aload_n C dX1_putInOrder_34 rfl 0 rfl ?_
    refine V_get (Cn := RX1) (T := TX1) (N := 12) C hinX1_putInOrder_X1 0 rfl rfl 6 (by decide) hfX1_putInOrder_29 rfl rfl dX1_putInOrder_35 ?_
    refine V_iload_n C dX1_putInOrder_38 rfl 1 rfl ?_
    refine V_iload_n C dX1_putInOrder_39 rfl 2 rfl ?_
    refine Vm_iast C 7 0 rfl rfl (vp_in_nI hkB (by decide)) wC_s7 dX1_putInOrder_40 ?_
    refine V_u (fun u40 hu40 => ?_)
    refine V_iload_n C dX1_putInOrder_41 rfl 2 rfl ?_
    refine V_cSi1 C xN_ok (kX1_isCell _ _) (va_cwS 1 C.2.2.1 gX1_putInOrder_X1_isCell rfl rfl rfl hdX1_isCell ⟨Nat.le_of_ble_eq_true rfl, Nat.le_of_ble_eq_true rfl⟩) (Nat.le_of_ble_eq_true rfl) ⟨(Nat.le_of_ble_eq_true rfl), (Nat.le_of_ble_eq_true rfl)⟩ dX1_putInOrder_42 ?_
    refine V_if_eq (tgt := 55) C dX1_putInOrder_45 (by decide) (fun h45 => ?_) (fun h45 => ?_)
    ·
      refine V_iinc (v := (nI (k + 1))) (ls' := [(0, .ref (ad 0)), (1, .int (nI (k + 1))), (2, .int y33)]) C dX1_putInOrder_55 1 rfl (nI_1 k) (by decide) rfl rfl ?_
      refine V_goto (tgt := 23) C dX1_putInOrder_58 (by decide) ?_
      subst hu40
      subst hy33
      refine V_sub (ls' := _) [0, 1] rfl ?_
      exact ih (k + 1) (by omega) _ (fun r hr => KK r (((if_pos h45).trans rfl).trans hr))
    ·
      refine V_aload_n C dX1_putInOrder_48 rfl 0 rfl ?_
      refine V_get (Cn := RX1) (T := TX1) (N := 12) C hinX1_putInOrder_X1 0 rfl rfl 9 (by decide) hfX1_putInOrder_42 rfl rfl dX1_putInOrder_49 ?_
      refine V_iload_n C dX1_putInOrder_52 rfl 2 rfl ?_
      refine V_iconst (v := 1) C dX1_putInOrder_53 (by decide) ?_
      refine Vm_zast C 10 1 rfl rfl (vqX1_isCell h45) rfl wC_s10 dX1_putInOrder_54 ?_
      refine V_u (fun u54 hu54 => ?_)
      refine V_iinc (v := (nI (k + 1))) (ls' := [(0, .ref (ad 0)), (1, .int (nI (k + 1))), (2, .int y33)]) C dX1_putInOrder_55 1 rfl (nI_1 k) (by decide) rfl rfl ?_
      refine V_goto (tgt := 23) C dX1_putInOrder_58 (by decide) ?_
      subst hu54
      subst hu40
      subst hy33
      refine V_sub (ls' := _) [0, 1] rfl ?_
      exact ih (k + 1) (by omega) _ (fun r hr => KK r (((if_neg h45).trans rfl).trans hr))
set_option maxHeartbeats 4000000 in
theorem kX1_putInOrder {l : Launch} {D : va_G} {cI cZ : ClassId} {ad : Nat → Nat} (u : vM) : mV D vwCl (tyF cI cZ) xN (wC cI cZ ad) l yX1_putInOrder wsX1_putInOrder rmX1_putInOrder [.ref (ad 0)] u (uX1_putInOrder u) := by
  refine mV_of (cc := cX1_putInOrder) (maxL := 3) (ret := none) (own := RX1) rfl (by decide) rfl (wC_ok cI cZ ad) (Nat.le_of_ble_eq_true rfl) (fun p e s m args below meth c A C => ?_)
  refine V_ls (ls' := [(0, .ref (ad 0))]) rfl ?_
  refine V_iconst (v := 0) C dX1_putInOrder_0 (by decide) ?_
  refine V_istore_n (ls' := [(0, .ref (ad 0)), (1, .int 0)]) C dX1_putInOrder_1 rfl (by decide) rfl rfl ?_
  refine V_sub (ls' := [(0, .ref (ad 0)), (1, .int 0)]) [0, 1] rfl ?_
  refine qX1_putInOrder_2 C 24 0 (by decide) u (fun r2 hr2 => ?_)
  refine V_iconst (v := 0) C dX1_putInOrder_21 (by decide) ?_
  refine V_istore_n (ls' := [(0, .ref (ad 0)), (1, .int 0)]) C dX1_putInOrder_22 rfl (by decide) rfl rfl ?_
  refine V_sub (ls' := [(0, .ref (ad 0)), (1, .int 0)]) [0, 1] rfl ?_
  refine qX1_putInOrder_23 C 24 0 (by decide) r2 (fun r23 hr23 => ?_)
  subst hr23
  subst hr2
  exact V_vret C rfl rfl dX1_putInOrder_61
theorem hdX1_forgetChanges : yX1_forgetChanges.cls ≠ "java/lang/invoke/MethodHandle" ∧ yX1_forgetChanges.cls ≠ "java/lang/invoke/VarHandle" ∧ (parseMethodDescriptor yX1_forgetChanges.desc).map (fun d => d.parameters.length) = some 0 := by decide +kernel
theorem hvX1_forgetChanges : yX1_forgetChanges.cls = RX1 ∧ yX1_forgetChanges.cls ≠ "java/lang/invoke/MethodHandle" ∧ yX1_forgetChanges.cls ≠ "java/lang/invoke/VarHandle" ∧ (parseMethodDescriptor yX1_forgetChanges.desc).map (fun d => d.parameters.length) = some 0 := by decide +kernel
theorem hinX1_forgetChanges_X1 : ∀ w ∈ u_ws RX1 TX1 12, w ∈ wsX1_forgetChanges := by decide +kernel
theorem hfX1_forgetChanges_39 : Cond.fieldLink RX1 39 "MeteredSheets" "changed" "[Z" ∈ wsX1_forgetChanges := by decide +kernel
set_option maxHeartbeats 4000000 in
theorem qX1_forgetChanges_2 (C : vC p s m args meth c D vwCl (tyF cI cZ) xN A (wC cI cZ ad) cX1_forgetChanges RX1 wsX1_forgetChanges 2 none) {Q : State → Prop} : ∀ (n k : Nat), k + n = 24 → ∀ (u : vM), (∀ r : vM, lpX1_forgetChanges_2 n k u = r → V p l e rmX1_forgetChanges s m args below meth c D vwCl A (wC cI cZ ad) 2 0 0 Q r 21 [(0, .ref (ad 0)), (1, .int (nI 24))] []) → V p l e rmX1_forgetChanges s m args below meth c D vwCl A (wC cI cZ ad) 2 0 0 Q u 2 [(0, .ref (ad 0)), (1, .int (nI k))] [] := by
  intro n
  induction n with
  | zero =>
    intro k hk u KK
    obtain rfl : k = 24 := by omega
    refine V_iload_n C dX1_forgetChanges_2 rfl 1 rfl ?_
    refine V_bipush (v := 24) C dX1_forgetChanges_3 (by decide) ?_
    refine V_icmp_ge (tgt := 21) C dX1_forgetChanges_5 (by decide) (fun _ => ?_) (fun h => absurd (by decide : (24 : Int32) ≤ nI 24) h)
    exact KK _ rfl
  | succ n ih =>
    intro k hk u KK
    have hkB : k < 24 := by omega
    refine V_iload_n C dX1_forgetChanges_2 rfl 1 rfl ?_
    refine V_bipush (v := 24) C dX1_forgetChanges_3 (by decide) ?_
    refine V_icmp_ge (tgt := 21) C dX1_forgetChanges_5 (by decide) (fun h => absurd h (nI_ge hkB (by decide))) (fun _ => ?_)
    refine V_aload_n C dX1_forgetChanges_8 rfl 0 rfl ?_
    refine V_get (Cn := RX1) (T := TX1) (N := 12) C hinX1_forgetChanges_X1 0 rfl rfl 8 (by decide) hfX1_forgetChanges_39 rfl rfl dX1_forgetChanges_9 ?_
    refine V_iload_n C dX1_forgetChanges_12 rfl 1 rfl ?_
    refine V_iconst (v := 0) C dX1_forgetChanges_13 (by decide) ?_
    refine Vm_zast C 9 1 rfl rfl (vp_in_nI hkB (by decide)) rfl wC_s9 dX1_forgetChanges_14 ?_
    refine V_u (fun u14 hu14 => ?_)
    refine V_iinc (v := (nI (k + 1))) (ls' := [(0, .ref (ad 0)), (1, .int (nI (k + 1)))]) C dX1_forgetChanges_15 1 rfl (nI_1 k) (by decide) rfl rfl ?_
    refine V_goto (tgt := 2) C dX1_forgetChanges_18 (by decide) ?_
    subst hu14
    exact ih (k + 1) (by omega) _ (fun r hr => KK r (rfl.trans hr))
set_option maxHeartbeats 4000000 in
theorem kX1_forgetChanges {l : Launch} {D : va_G} {cI cZ : ClassId} {ad : Nat → Nat} (u : vM) : mV D vwCl (tyF cI cZ) xN (wC cI cZ ad) l yX1_forgetChanges wsX1_forgetChanges rmX1_forgetChanges [.ref (ad 0)] u (uX1_forgetChanges u) := by
  refine mV_of (cc := cX1_forgetChanges) (maxL := 2) (ret := none) (own := RX1) rfl (by decide) rfl (wC_ok cI cZ ad) (Nat.le_of_ble_eq_true rfl) (fun p e s m args below meth c A C => ?_)
  refine V_ls (ls' := [(0, .ref (ad 0))]) rfl ?_
  refine V_iconst (v := 0) C dX1_forgetChanges_0 (by decide) ?_
  refine V_istore_n (ls' := [(0, .ref (ad 0)), (1, .int 0)]) C dX1_forgetChanges_1 rfl (by decide) rfl rfl ?_
  refine V_sub (ls' := [(0, .ref (ad 0)), (1, .int 0)]) [0, 1] rfl ?_
  refine qX1_forgetChanges_2 C 24 0 (by decide) u (fun r2 hr2 => ?_)
  subst hr2
  exact V_vret C rfl rfl dX1_forgetChanges_21
theorem hdX1_sheetOf : yX1_sheetOf.cls ≠ "java/lang/invoke/MethodHandle" ∧ yX1_sheetOf.cls ≠ "java/lang/invoke/VarHandle" ∧ (parseMethodDescriptor yX1_sheetOf.desc).map (fun d => d.parameters.length) = some 1 := by decide +kernel
theorem hvX1_sheetOf : yX1_sheetOf.cls = RX1 ∧ yX1_sheetOf.cls ≠ "java/lang/invoke/MethodHandle" ∧ yX1_sheetOf.cls ≠ "java/lang/invoke/VarHandle" ∧ (parseMethodDescriptor yX1_sheetOf.desc).map (fun d => d.parameters.length) = some 1 := by decide +kernel
set_option maxHeartbeats 4000000 in
theorem kX1_sheetOf {l : Launch} {D : va_G} {cI cZ : ClassId} {ad : Nat → Nat} (u : vM) (a0 : Int32) : mI D vwCl (tyF cI cZ) xN (wC cI cZ ad) l yX1_sheetOf wsX1_sheetOf rmX1_sheetOf [.int a0] u (rX1_sheetOf a0) u := by
  refine mI_of (cc := cX1_sheetOf) (maxL := 1) (ret := (some .int)) (own := RX1) rfl (by decide) rfl (wC_ok cI cZ ad) (Nat.le_of_ble_eq_true rfl) (fun p e s m args below meth c A C => ?_)
  refine V_ls (ls' := [(0, .int a0)]) rfl ?_
  refine V_iload_n C dX1_sheetOf_0 rfl 0 rfl ?_
  refine V_bipush (v := 6) C dX1_sheetOf_1 (by decide) ?_
  refine V_idiv C dX1_sheetOf_3 (by decide) ?_
  exact V_iret C rfl (vp_nar_int _) rfl rfl dX1_sheetOf_4
theorem hdX1_meteredRead : yX1_meteredRead.cls ≠ "java/lang/invoke/MethodHandle" ∧ yX1_meteredRead.cls ≠ "java/lang/invoke/VarHandle" ∧ (parseMethodDescriptor yX1_meteredRead.desc).map (fun d => d.parameters.length) = some 2 := by decide +kernel
theorem hvX1_meteredRead : yX1_meteredRead.cls = RX1 ∧ yX1_meteredRead.cls ≠ "java/lang/invoke/MethodHandle" ∧ yX1_meteredRead.cls ≠ "java/lang/invoke/VarHandle" ∧ (parseMethodDescriptor yX1_meteredRead.desc).map (fun d => d.parameters.length) = some 2 := by decide +kernel
set_option maxHeartbeats 4000000 in
theorem kX1_meteredRead {l : Launch} {D : va_G} {cI cZ : ClassId} {ad : Nat → Nat} (u : vM) (a0 : Int32) (a1 : Int32) : mI D vwCl (tyF cI cZ) xN (wC cI cZ ad) l yX1_meteredRead wsX1_meteredRead rmX1_meteredRead [.int a0, .int a1] u (rX1_meteredRead a0 a1) u := by
  refine mI_of (cc := cX1_meteredRead) (maxL := 2) (ret := (some .int)) (own := RX1) rfl (by decide) rfl (wC_ok cI cZ ad) (Nat.le_of_ble_eq_true rfl) (fun p e s m args below meth c A C => ?_)
  refine V_ls (ls' := [(0, .int a0), (1, .int a1)]) rfl ?_
  refine V_iload_n C dX1_meteredRead_0 rfl 1 rfl ?_
  refine V_cSi1 C xN_ok (kX1_isCell _ _) (va_cwS 1 C.2.2.1 gX1_meteredRead_X1_isCell rfl rfl rfl hdX1_isCell ⟨Nat.le_of_ble_eq_true rfl, Nat.le_of_ble_eq_true rfl⟩) (Nat.le_of_ble_eq_true rfl) ⟨(Nat.le_of_ble_eq_true rfl), (Nat.le_of_ble_eq_true rfl)⟩ dX1_meteredRead_1 ?_
  refine V_join1 (J := 23) (T := (if (rX1_isCell a1) = 0 then (-1) else (if (rX1_sheetOf a1) = (rX1_sheetOf a0) then (-1) else a1))) (fun j23 hj23 => ?_) (fun J23 => ?_)
  ·
    subst hj23
    exact V_iret C rfl (vp_nar_int _) rfl rfl dX1_meteredRead_23
  ·
    refine V_if_eq (tgt := 22) C dX1_meteredRead_4 (by decide) (fun h4 => ?_) (fun h4 => ?_)
    ·
      refine V_iconst (v := (-1)) C dX1_meteredRead_22 (by decide) ?_
      exact J23 _ ((if_pos h4).trans rfl)
    ·
      refine V_iload_n C dX1_meteredRead_7 rfl 1 rfl ?_
      refine V_cSi1 C xN_ok (kX1_sheetOf _ _) (va_cwS 1 C.2.2.1 gX1_meteredRead_X1_sheetOf rfl rfl rfl hdX1_sheetOf ⟨Nat.le_of_ble_eq_true rfl, Nat.le_of_ble_eq_true rfl⟩) (Nat.le_of_ble_eq_true rfl) ⟨(Nat.le_of_ble_eq_true rfl), (Nat.le_of_ble_eq_true rfl)⟩ dX1_meteredRead_8 ?_
      refine V_iload_n C dX1_meteredRead_11 rfl 0 rfl ?_
      refine V_cSi1 C xN_ok (kX1_sheetOf _ _) (va_cwS 1 C.2.2.1 gX1_meteredRead_X1_sheetOf rfl rfl rfl hdX1_sheetOf ⟨Nat.le_of_ble_eq_true rfl, Nat.le_of_ble_eq_true rfl⟩) (Nat.le_of_ble_eq_true rfl) ⟨(Nat.le_of_ble_eq_true rfl), (Nat.le_of_ble_eq_true rfl)⟩ dX1_meteredRead_12 ?_
      refine V_icmp_eq (tgt := 22) C dX1_meteredRead_15 (by decide) (fun h15 => ?_) (fun h15 => ?_)
      ·
        refine V_iconst (v := (-1)) C dX1_meteredRead_22 (by decide) ?_
        exact J23 _ ((if_neg h4).trans ((if_pos h15).trans rfl))
      ·
        refine V_iload_n C dX1_meteredRead_18 rfl 1 rfl ?_
        refine V_goto (tgt := 23) C dX1_meteredRead_19 (by decide) ?_
        exact J23 _ ((if_neg h4).trans ((if_neg h15).trans rfl))
theorem hdX0_costOf : yX0_costOf.cls ≠ "java/lang/invoke/MethodHandle" ∧ yX0_costOf.cls ≠ "java/lang/invoke/VarHandle" ∧ (parseMethodDescriptor yX0_costOf.desc).map (fun d => d.parameters.length) = some 1 := by decide +kernel
theorem hvX0_costOf : yX0_costOf.cls = RX0 ∧ yX0_costOf.cls ≠ "java/lang/invoke/MethodHandle" ∧ yX0_costOf.cls ≠ "java/lang/invoke/VarHandle" ∧ (parseMethodDescriptor yX0_costOf.desc).map (fun d => d.parameters.length) = some 1 := by decide +kernel
theorem hiX0_costOf_X1 : Cond.initialized RX1 ∈ wsX0_costOf := by decide +kernel
theorem hsX0_costOf_X1_isCell : Cond.static yX1_isCell ∈ wsX0_costOf := by decide +kernel
theorem hinX0_costOf_X0 : ∀ w ∈ u_ws RX0 TX0 8, w ∈ wsX0_costOf := by decide +kernel
theorem hfX0_costOf_9 : Cond.fieldLink RX0 9 "MeteredSheets$Ledger" "prices" "[I" ∈ wsX0_costOf := by decide +kernel
theorem hsX0_costOf_X1_sheetOf : Cond.static yX1_sheetOf ∈ wsX0_costOf := by decide +kernel
set_option maxHeartbeats 4000000 in
theorem kX0_costOf {l : Launch} {D : va_G} {cI cZ : ClassId} {ad : Nat → Nat} (u : vM) (a1 : Int32) : mI D vwCl (tyF cI cZ) xN (wC cI cZ ad) l yX0_costOf wsX0_costOf rmX0_costOf [.ref (ad 8), .int a1] u (rX0_costOf u a1) u := by
  refine mI_of (cc := cX0_costOf) (maxL := 2) (ret := (some .int)) (own := RX0) rfl (by decide) rfl (wC_ok cI cZ ad) (Nat.le_of_ble_eq_true rfl) (fun p e s m args below meth c A C => ?_)
  refine V_ls (ls' := [(0, .ref (ad 8)), (1, .int a1)]) rfl ?_
  refine V_iload_n C dX0_costOf_0 rfl 1 rfl ?_
  refine V_cSNi1 C xN_ok (kX1_isCell _ _) ⟨va_cnB 1 C.2.2.1 ggX0_costOf_X1_isCell rfl rfl rfl (C.2.2.2.2.2.2.2.2.2.2 _ nwX0_48) (C.2.2.1 _ hiX0_costOf_X1) hdX1_isCell ⟨Nat.le_of_ble_eq_true rfl, Nat.le_of_ble_eq_true rfl⟩, C.2.2.1 _ hsX0_costOf_X1_isCell, trivial⟩ (Nat.le_of_ble_eq_true rfl) ⟨(Nat.le_of_ble_eq_true rfl), (Nat.le_of_ble_eq_true rfl)⟩ dX0_costOf_1 ?_
  refine V_join1 (J := 20) (T := (if (rX1_isCell a1) = 0 then 0 else (mrd u 13 (rX1_sheetOf a1)))) (fun j20 hj20 => ?_) (fun J20 => ?_)
  ·
    subst hj20
    exact V_iret C rfl (vp_nar_int _) rfl rfl dX0_costOf_20
  ·
    refine V_if_eq (tgt := 19) C dX0_costOf_4 (by decide) (fun h4 => ?_) (fun h4 => ?_)
    ·
      refine V_iconst (v := 0) C dX0_costOf_19 (by decide) ?_
      exact J20 _ ((if_pos h4).trans rfl)
    ·
      refine V_aload_n C dX0_costOf_7 rfl 0 rfl ?_
      refine V_get (Cn := RX0) (T := TX0) (N := 8) C hinX0_costOf_X0 8 rfl rfl 0 (by decide) hfX0_costOf_9 rfl rfl dX0_costOf_8 ?_
      refine V_iload_n C dX0_costOf_11 rfl 1 rfl ?_
      refine V_cSNi1 C xN_ok (kX1_sheetOf _ _) ⟨va_cnB 1 C.2.2.1 ggX0_costOf_X1_sheetOf rfl rfl rfl (C.2.2.2.2.2.2.2.2.2.2 _ nwX0_37) (C.2.2.1 _ hiX0_costOf_X1) hdX1_sheetOf ⟨Nat.le_of_ble_eq_true rfl, Nat.le_of_ble_eq_true rfl⟩, C.2.2.1 _ hsX0_costOf_X1_sheetOf, trivial⟩ (Nat.le_of_ble_eq_true rfl) ⟨(Nat.le_of_ble_eq_true rfl), (Nat.le_of_ble_eq_true rfl)⟩ dX0_costOf_12 ?_
      refine Vm_iald C 13 0 rfl rfl (vqX1_sheetOf (vqX1_isCell h4)) dX0_costOf_15 ?_
      refine V_goto (tgt := 20) C dX0_costOf_16 (by decide) ?_
      exact J20 _ ((if_neg h4).trans rfl)
theorem hdX0_enter : yX0_enter.cls ≠ "java/lang/invoke/MethodHandle" ∧ yX0_enter.cls ≠ "java/lang/invoke/VarHandle" ∧ (parseMethodDescriptor yX0_enter.desc).map (fun d => d.parameters.length) = some 3 := by decide +kernel
theorem hvX0_enter : yX0_enter.cls = RX0 ∧ yX0_enter.cls ≠ "java/lang/invoke/MethodHandle" ∧ yX0_enter.cls ≠ "java/lang/invoke/VarHandle" ∧ (parseMethodDescriptor yX0_enter.desc).map (fun d => d.parameters.length) = some 3 := by decide +kernel
theorem hiX0_enter_X1 : Cond.initialized RX1 ∈ wsX0_enter := by decide +kernel
theorem hsX0_enter_X1_isCell : Cond.static yX1_isCell ∈ wsX0_enter := by decide +kernel
theorem hsX0_enter_X1_sheetOf : Cond.static yX1_sheetOf ∈ wsX0_enter := by decide +kernel
theorem hinX0_enter_X0 : ∀ w ∈ u_ws RX0 TX0 8, w ∈ wsX0_enter := by decide +kernel
theorem hfX0_enter_18 : Cond.fieldLink RX0 18 "MeteredSheets$Ledger" "earnings" "[I" ∈ wsX0_enter := by decide +kernel
theorem hfX0_enter_9 : Cond.fieldLink RX0 9 "MeteredSheets$Ledger" "prices" "[I" ∈ wsX0_enter := by decide +kernel
theorem hfX0_enter_24 : Cond.fieldLink RX0 24 "MeteredSheets$Ledger" "bills" "[I" ∈ wsX0_enter := by decide +kernel
theorem hfX0_enter_21 : Cond.fieldLink RX0 21 "MeteredSheets$Ledger" "readsOf" "[I" ∈ wsX0_enter := by decide +kernel
theorem hfX0_enter_27 : Cond.fieldLink RX0 27 "MeteredSheets$Ledger" "counts" "[I" ∈ wsX0_enter := by decide +kernel
theorem hfX0_enter_33 : Cond.fieldLink RX0 33 "MeteredSheets$Ledger" "keptCount" "I" ∈ wsX0_enter := by decide +kernel
theorem hfX0_enter_30 : Cond.fieldLink RX0 30 "MeteredSheets$Ledger" "kept" "[I" ∈ wsX0_enter := by decide +kernel
set_option maxHeartbeats 4000000 in
theorem kX0_enter {l : Launch} {D : va_G} {cI cZ : ClassId} {ad : Nat → Nat} (u : vM) (a1 : Int32) (a2 : Int32) (a3 : Int32) (hp0 : vp_in a1 5) (hp1 : vp_in a2 24) (hp2 : kc u) : mV D vwCl (tyF cI cZ) xN (wC cI cZ ad) l yX0_enter wsX0_enter rmX0_enter [.ref (ad 8), .int a1, .int a2, .int a3] u (uX0_enter u a1 a2 a3) := by
  refine mV_of (cc := cX0_enter) (maxL := 5) (ret := none) (own := RX0) rfl (by decide) rfl (wC_ok cI cZ ad) (Nat.le_of_ble_eq_true rfl) (fun p e s m args below meth c A C => ?_)
  refine V_ls (ls' := [(0, .ref (ad 8)), (1, .int a1), (2, .int a2), (3, .int a3)]) rfl ?_
  refine V_iload_n C dX0_enter_0 rfl 3 rfl ?_
  refine V_cSNi1 C xN_ok (kX1_isCell _ _) ⟨va_cnB 1 C.2.2.1 ggX0_enter_X1_isCell rfl rfl rfl (C.2.2.2.2.2.2.2.2.2.2 _ nwX0_48) (C.2.2.1 _ hiX0_enter_X1) hdX1_isCell ⟨Nat.le_of_ble_eq_true rfl, Nat.le_of_ble_eq_true rfl⟩, C.2.2.1 _ hsX0_enter_X1_isCell, trivial⟩ (Nat.le_of_ble_eq_true rfl) ⟨(Nat.le_of_ble_eq_true rfl), (Nat.le_of_ble_eq_true rfl)⟩ dX0_enter_1 ?_
  refine V_if_ne (tgt := 8) C dX0_enter_4 (by decide) (fun h4 => ?_) (fun h4 => ?_)
  ·
    refine V_iload_n C dX0_enter_8 rfl 3 rfl ?_
    refine V_cSNi1 C xN_ok (kX1_sheetOf _ _) ⟨va_cnB 1 C.2.2.1 ggX0_enter_X1_sheetOf rfl rfl rfl (C.2.2.2.2.2.2.2.2.2.2 _ nwX0_37) (C.2.2.1 _ hiX0_enter_X1) hdX1_sheetOf ⟨Nat.le_of_ble_eq_true rfl, Nat.le_of_ble_eq_true rfl⟩, C.2.2.1 _ hsX0_enter_X1_sheetOf, trivial⟩ (Nat.le_of_ble_eq_true rfl) ⟨(Nat.le_of_ble_eq_true rfl), (Nat.le_of_ble_eq_true rfl)⟩ dX0_enter_9 ?_
    refine V_top (fun y12 hy12 => ?_)
    refine V_istore (ls' := [(0, .ref (ad 8)), (1, .int a1), (2, .int a2), (3, .int a3), (4, .int y12)]) C dX0_enter_12 (by decide) rfl rfl ?_
    refine V_aload_n C dX0_enter_14 rfl 0 rfl ?_
    refine V_get (Cn := RX0) (T := TX0) (N := 8) C hinX0_enter_X0 8 rfl rfl 2 (by decide) hfX0_enter_18 rfl rfl dX0_enter_15 ?_
    refine V_iload C dX0_enter_18 4 rfl ?_
    refine V_dup2 C dX0_enter_20 rfl rfl ?_
    refine Vm_iald C 15 0 rfl rfl (by rw [← hy12]; exact (vqX1_sheetOf (vqX1_isCell h4))) dX0_enter_21 ?_
    refine V_aload_n C dX0_enter_22 rfl 0 rfl ?_
    refine V_get (Cn := RX0) (T := TX0) (N := 8) C hinX0_enter_X0 8 rfl rfl 0 (by decide) hfX0_enter_9 rfl rfl dX0_enter_23 ?_
    refine V_iload C dX0_enter_26 4 rfl ?_
    refine Vm_iald C 13 0 rfl rfl (by rw [← hy12]; exact (vqX1_sheetOf (vqX1_isCell h4))) dX0_enter_28 ?_
    refine V_iadd C dX0_enter_29 ?_
    refine Vm_iast C 15 0 rfl rfl (by rw [← hy12]; exact (vqX1_sheetOf (vqX1_isCell h4))) wC_s15 dX0_enter_30 ?_
    refine V_u (fun u30 hu30 => ?_)
    have hkc30 : kc u30 := by rw [← hu30]; exact hp2
    refine V_aload_n C dX0_enter_31 rfl 0 rfl ?_
    refine V_get (Cn := RX0) (T := TX0) (N := 8) C hinX0_enter_X0 8 rfl rfl 4 (by decide) hfX0_enter_24 rfl rfl dX0_enter_32 ?_
    refine V_iload_n C dX0_enter_35 rfl 1 rfl ?_
    refine V_dup2 C dX0_enter_36 rfl rfl ?_
    refine Vm_iald C 17 0 rfl rfl hp0 dX0_enter_37 ?_
    refine V_aload_n C dX0_enter_38 rfl 0 rfl ?_
    refine V_get (Cn := RX0) (T := TX0) (N := 8) C hinX0_enter_X0 8 rfl rfl 0 (by decide) hfX0_enter_9 rfl rfl dX0_enter_39 ?_
    refine V_iload C dX0_enter_42 4 rfl ?_
    refine Vm_iald C 13 0 rfl rfl (by rw [← hy12]; exact (vqX1_sheetOf (vqX1_isCell h4))) dX0_enter_44 ?_
    refine V_iadd C dX0_enter_45 ?_
    refine Vm_iast C 17 0 rfl rfl hp0 wC_s17 dX0_enter_46 ?_
    refine V_u (fun u46 hu46 => ?_)
    have hkc46 : kc u46 := by rw [← hu46]; exact hkc30
    refine V_aload_n C dX0_enter_47 rfl 0 rfl ?_
    refine V_get (Cn := RX0) (T := TX0) (N := 8) C hinX0_enter_X0 8 rfl rfl 3 (by decide) hfX0_enter_21 rfl rfl dX0_enter_48 ?_
    refine V_iload C dX0_enter_51 4 rfl ?_
    refine V_dup2 C dX0_enter_53 rfl rfl ?_
    refine Vm_iald C 16 0 rfl rfl (by rw [← hy12]; exact (vqX1_sheetOf (vqX1_isCell h4))) dX0_enter_54 ?_
    refine V_iconst (v := 1) C dX0_enter_55 (by decide) ?_
    refine V_iadd C dX0_enter_56 ?_
    refine Vm_iast C 16 0 rfl rfl (by rw [← hy12]; exact (vqX1_sheetOf (vqX1_isCell h4))) wC_s16 dX0_enter_57 ?_
    refine V_u (fun u57 hu57 => ?_)
    have hkc57 : kc u57 := by rw [← hu57]; exact hkc46
    refine V_aload_n C dX0_enter_58 rfl 0 rfl ?_
    refine V_get (Cn := RX0) (T := TX0) (N := 8) C hinX0_enter_X0 8 rfl rfl 5 (by decide) hfX0_enter_27 rfl rfl dX0_enter_59 ?_
    refine V_iload_n C dX0_enter_62 rfl 2 rfl ?_
    refine V_bipush (v := 24) C dX0_enter_63 (by decide) ?_
    refine V_imul C dX0_enter_65 ?_
    refine V_iload_n C dX0_enter_66 rfl 3 rfl ?_
    refine V_iadd C dX0_enter_67 ?_
    refine V_dup2 C dX0_enter_68 rfl rfl ?_
    refine Vm_iald C 18 0 rfl rfl (vq_576 hp1 (vqX1_isCell h4)) dX0_enter_69 ?_
    refine V_iconst (v := 1) C dX0_enter_70 (by decide) ?_
    refine V_iadd C dX0_enter_71 ?_
    refine Vm_iast C 18 0 rfl rfl (vq_576 hp1 (vqX1_isCell h4)) wC_s18 dX0_enter_72 ?_
    refine V_u (fun u72 hu72 => ?_)
    have hkc72 : kc u72 := by rw [← hu72]; exact hkc57
    refine V_aload_n C dX0_enter_73 rfl 0 rfl ?_
    refine V_get (Cn := RX0) (T := TX0) (N := 8) C hinX0_enter_X0 8 rfl rfl 7 (by decide) hfX0_enter_33 rfl rfl dX0_enter_74 ?_
    show V p l e _ s m args below meth c D vwCl A (wC cI cZ ad) _ _ _ _ _ _ _ (.int (mfd u72 8) :: _)
    refine V_sipush (v := 500) C dX0_enter_77 (by decide) ?_
    refine V_icmp_ge (tgt := 114) C dX0_enter_80 (by decide) (fun h80 => ?_) (fun h80 => ?_)
    ·
      subst hu72
      subst hu57
      subst hu46
      subst hu30
      subst hy12
      exact V_vret C rfl ((if_neg h4).trans ((if_pos h80).trans rfl)) dX0_enter_114
    ·
      refine V_aload_n C dX0_enter_83 rfl 0 rfl ?_
      refine V_get (Cn := RX0) (T := TX0) (N := 8) C hinX0_enter_X0 8 rfl rfl 6 (by decide) hfX0_enter_30 rfl rfl dX0_enter_84 ?_
      refine V_aload_n C dX0_enter_87 rfl 0 rfl ?_
      refine V_get (Cn := RX0) (T := TX0) (N := 8) C hinX0_enter_X0 8 rfl rfl 7 (by decide) hfX0_enter_33 rfl rfl dX0_enter_88 ?_
      show V p l e _ s m args below meth c D vwCl A (wC cI cZ ad) _ _ _ _ _ _ _ (.int (mfd u72 8) :: _)
      refine V_sipush (v := 10000) C dX0_enter_91 (by decide) ?_
      refine V_iload_n C dX0_enter_94 rfl 1 rfl ?_
      refine V_imul C dX0_enter_95 ?_
      refine V_bipush (v := 100) C dX0_enter_96 (by decide) ?_
      refine V_iload_n C dX0_enter_98 rfl 2 rfl ?_
      refine V_imul C dX0_enter_99 ?_
      refine V_iadd C dX0_enter_100 ?_
      refine V_iload_n C dX0_enter_101 rfl 3 rfl ?_
      refine V_iadd C dX0_enter_102 ?_
      refine Vm_iast C 19 0 rfl rfl (vq_kc hkc72 h80) wC_s19 dX0_enter_103 ?_
      refine V_u (fun u103 hu103 => ?_)
      have hkc103 : kc u103 := by rw [← hu103]; exact hkc72
      refine V_aload_n C dX0_enter_104 rfl 0 rfl ?_
      refine V_dup C dX0_enter_105 rfl ?_
      refine V_get (Cn := RX0) (T := TX0) (N := 8) C hinX0_enter_X0 8 rfl rfl 7 (by decide) hfX0_enter_33 rfl rfl dX0_enter_106 ?_
      show V p l e _ s m args below meth c D vwCl A (wC cI cZ ad) _ _ _ _ _ _ _ (.int (mfd u103 8) :: _)
      refine V_iconst (v := 1) C dX0_enter_109 (by decide) ?_
      refine V_iadd C dX0_enter_110 ?_
      refine V_put (Cn := RX0) (T := TX0) (N := 8) C hinX0_enter_X0 tyX0 tyX0_ok nmX0 8 rfl rfl 7 (by decide) hfX0_enter_33 rfl rfl rfl (Nat.le_of_ble_eq_true rfl) wC_s8 dX0_enter_111 ?_
      refine V_u (fun u111 hu111 => ?_)
      subst hu111
      subst hu103
      subst hu72
      subst hu57
      subst hu46
      subst hu30
      subst hy12
      exact V_vret C rfl ((if_neg h4).trans ((if_neg h80).trans rfl)) dX0_enter_114
  ·
    exact V_vret C rfl ((if_pos h4).trans rfl) dX0_enter_7
theorem hdX0_paysFor : yX0_paysFor.cls ≠ "java/lang/invoke/MethodHandle" ∧ yX0_paysFor.cls ≠ "java/lang/invoke/VarHandle" ∧ (parseMethodDescriptor yX0_paysFor.desc).map (fun d => d.parameters.length) = some 4 := by decide +kernel
theorem hvX0_paysFor : yX0_paysFor.cls = RX0 ∧ yX0_paysFor.cls ≠ "java/lang/invoke/MethodHandle" ∧ yX0_paysFor.cls ≠ "java/lang/invoke/VarHandle" ∧ (parseMethodDescriptor yX0_paysFor.desc).map (fun d => d.parameters.length) = some 4 := by decide +kernel
theorem hiX0_paysFor_X1 : Cond.initialized RX1 ∈ wsX0_paysFor := by decide +kernel
theorem hsX0_paysFor_X1_sheetOf : Cond.static yX1_sheetOf ∈ wsX0_paysFor := by decide +kernel
theorem hinX0_paysFor_X0 : ∀ w ∈ u_ws RX0 TX0 8, w ∈ wsX0_paysFor := by decide +kernel
theorem hfX0_paysFor_15 : Cond.fieldLink RX0 15 "MeteredSheets$Ledger" "budgets" "[I" ∈ wsX0_paysFor := by decide +kernel
set_option maxHeartbeats 4000000 in
theorem kX0_paysFor {l : Launch} {D : va_G} {cI cZ : ClassId} {ad : Nat → Nat} (u : vM) (a1 : Int32) (a2 : Int32) (a3 : Int32) (a4 : Int32) (hp0 : vp_in a1 5) (hp1 : vp_in a2 24) (hp2 : kc u) : mI D vwCl (tyF cI cZ) xN (wC cI cZ ad) l yX0_paysFor wsX0_paysFor rmX0_paysFor [.ref (ad 8), .int a1, .int a2, .int a3, .int a4] u (rX0_paysFor u a1 a2 a3 a4) (uX0_paysFor u a1 a2 a3 a4) := by
  refine mI_of (cc := cX0_paysFor) (maxL := 7) (ret := (some .boolean)) (own := RX0) rfl (by decide) rfl (wC_ok cI cZ ad) (Nat.le_of_ble_eq_true rfl) (fun p e s m args below meth c A C => ?_)
  refine V_ls (ls' := [(0, .ref (ad 8)), (1, .int a1), (2, .int a2), (3, .int a3), (4, .int a4)]) rfl ?_
  refine V_iload_n C dX0_paysFor_0 rfl 2 rfl ?_
  refine V_cSNi1 C xN_ok (kX1_sheetOf _ _) ⟨va_cnB 1 C.2.2.1 ggX0_paysFor_X1_sheetOf rfl rfl rfl (C.2.2.2.2.2.2.2.2.2.2 _ nwX0_37) (C.2.2.1 _ hiX0_paysFor_X1) hdX1_sheetOf ⟨Nat.le_of_ble_eq_true rfl, Nat.le_of_ble_eq_true rfl⟩, C.2.2.1 _ hsX0_paysFor_X1_sheetOf, trivial⟩ (Nat.le_of_ble_eq_true rfl) ⟨(Nat.le_of_ble_eq_true rfl), (Nat.le_of_ble_eq_true rfl)⟩ dX0_paysFor_1 ?_
  refine V_top (fun y4 hy4 => ?_)
  refine V_istore (ls' := [(0, .ref (ad 8)), (1, .int a1), (2, .int a2), (3, .int a3), (4, .int a4), (5, .int y4)]) C dX0_paysFor_4 (by decide) rfl rfl ?_
  refine V_aload_n C dX0_paysFor_6 rfl 0 rfl ?_
  refine V_iload_n C dX0_paysFor_7 rfl 3 rfl ?_
  refine V_cVi1 C xN_ok (kX0_costOf _ _) (cwV 1 C.2.2.1 gX0_paysFor_X0_costOf rfl rfl rfl hvX0_costOf ⟨Nat.le_of_ble_eq_true rfl, Nat.le_of_ble_eq_true rfl⟩) 8 rfl rfl (Nat.le_of_ble_eq_true rfl) ⟨(Nat.le_of_ble_eq_true rfl), (Nat.le_of_ble_eq_true rfl)⟩ dX0_paysFor_8 ?_
  refine V_aload_n C dX0_paysFor_11 rfl 0 rfl ?_
  refine V_iload C dX0_paysFor_12 4 rfl ?_
  refine V_cVi1 C xN_ok (kX0_costOf _ _) (cwV 1 C.2.2.1 gX0_paysFor_X0_costOf rfl rfl rfl hvX0_costOf ⟨Nat.le_of_ble_eq_true rfl, Nat.le_of_ble_eq_true rfl⟩) 8 rfl rfl (Nat.le_of_ble_eq_true rfl) ⟨(Nat.le_of_ble_eq_true rfl), (Nat.le_of_ble_eq_true rfl)⟩ dX0_paysFor_14 ?_
  refine V_iadd C dX0_paysFor_17 ?_
  refine V_top (fun y18 hy18 => ?_)
  refine V_istore (ls' := [(0, .ref (ad 8)), (1, .int a1), (2, .int a2), (3, .int a3), (4, .int a4), (5, .int y4), (6, .int y18)]) C dX0_paysFor_18 (by decide) rfl rfl ?_
  refine V_aload_n C dX0_paysFor_20 rfl 0 rfl ?_
  refine V_get (Cn := RX0) (T := TX0) (N := 8) C hinX0_paysFor_X0 8 rfl rfl 1 (by decide) hfX0_paysFor_15 rfl rfl dX0_paysFor_21 ?_
  refine V_iload C dX0_paysFor_24 5 rfl ?_
  refine Vm_iald C 14 0 rfl rfl (by rw [← hy4]; exact (vqX1_sheetOf hp1)) dX0_paysFor_26 ?_
  refine V_iload C dX0_paysFor_27 6 rfl ?_
  refine V_icmp_ge (tgt := 34) C dX0_paysFor_29 (by decide) (fun h29 => ?_) (fun h29 => ?_)
  ·
    refine V_aload_n C dX0_paysFor_34 rfl 0 rfl ?_
    refine V_get (Cn := RX0) (T := TX0) (N := 8) C hinX0_paysFor_X0 8 rfl rfl 1 (by decide) hfX0_paysFor_15 rfl rfl dX0_paysFor_35 ?_
    refine V_iload C dX0_paysFor_38 5 rfl ?_
    refine V_dup2 C dX0_paysFor_40 rfl rfl ?_
    refine Vm_iald C 14 0 rfl rfl (by rw [← hy4]; exact (vqX1_sheetOf hp1)) dX0_paysFor_41 ?_
    refine V_iload C dX0_paysFor_42 6 rfl ?_
    refine V_isub C dX0_paysFor_44 ?_
    refine Vm_iast C 14 0 rfl rfl (by rw [← hy4]; exact (vqX1_sheetOf hp1)) wC_s14 dX0_paysFor_45 ?_
    refine V_u (fun u45 hu45 => ?_)
    have hkc45 : kc u45 := by rw [← hu45]; exact hp2
    refine V_aload_n C dX0_paysFor_46 rfl 0 rfl ?_
    refine V_iload_n C dX0_paysFor_47 rfl 1 rfl ?_
    refine V_iload_n C dX0_paysFor_48 rfl 2 rfl ?_
    refine V_iload_n C dX0_paysFor_49 rfl 3 rfl ?_
    refine V_cVv3 C xN_ok (kX0_enter _ _ _ _ hp0 hp1 hkc45) (cwV 3 C.2.2.1 gX0_paysFor_X0_enter rfl rfl rfl hvX0_enter ⟨Nat.le_of_ble_eq_true rfl, Nat.le_of_ble_eq_true rfl⟩) 8 rfl rfl (Nat.le_of_ble_eq_true rfl) ⟨(Nat.le_of_ble_eq_true rfl), (Nat.le_of_ble_eq_true rfl)⟩ dX0_paysFor_50 ?_
    refine V_u (fun u50 hu50 => ?_)
    have hkc50 : kc u50 := by rw [← hu50]; exact kc_X0_enter hkc45
    refine V_aload_n C dX0_paysFor_53 rfl 0 rfl ?_
    refine V_iload_n C dX0_paysFor_54 rfl 1 rfl ?_
    refine V_iload_n C dX0_paysFor_55 rfl 2 rfl ?_
    refine V_iload C dX0_paysFor_56 4 rfl ?_
    refine V_cVv3 C xN_ok (kX0_enter _ _ _ _ hp0 hp1 hkc50) (cwV 3 C.2.2.1 gX0_paysFor_X0_enter rfl rfl rfl hvX0_enter ⟨Nat.le_of_ble_eq_true rfl, Nat.le_of_ble_eq_true rfl⟩) 8 rfl rfl (Nat.le_of_ble_eq_true rfl) ⟨(Nat.le_of_ble_eq_true rfl), (Nat.le_of_ble_eq_true rfl)⟩ dX0_paysFor_58 ?_
    refine V_u (fun u58 hu58 => ?_)
    have hkc58 : kc u58 := by rw [← hu58]; exact kc_X0_enter hkc50
    refine V_iconst (v := 1) C dX0_paysFor_61 (by decide) ?_
    subst hu58
    subst hu50
    subst hu45
    subst hy18
    subst hy4
    exact V_iret C rfl rfl ((if_pos h29).trans rfl) ((if_pos h29).trans rfl) dX0_paysFor_62
  ·
    refine V_iconst (v := 0) C dX0_paysFor_32 (by decide) ?_
    subst hy18
    subst hy4
    exact V_iret C rfl rfl ((if_neg h29).trans rfl) ((if_neg h29).trans rfl) dX0_paysFor_33
theorem hdX1_valueIn : yX1_valueIn.cls ≠ "java/lang/invoke/MethodHandle" ∧ yX1_valueIn.cls ≠ "java/lang/invoke/VarHandle" ∧ (parseMethodDescriptor yX1_valueIn.desc).map (fun d => d.parameters.length) = some 2 := by decide +kernel
theorem hvX1_valueIn : yX1_valueIn.cls = RX1 ∧ yX1_valueIn.cls ≠ "java/lang/invoke/MethodHandle" ∧ yX1_valueIn.cls ≠ "java/lang/invoke/VarHandle" ∧ (parseMethodDescriptor yX1_valueIn.desc).map (fun d => d.parameters.length) = some 2 := by decide +kernel
set_option maxHeartbeats 4000000 in
theorem kX1_valueIn_v5 {l : Launch} {D : va_G} {cI cZ : ClassId} {ad : Nat → Nat} (u : vM) (a1 : Int32) : mI D vwCl (tyF cI cZ) xN (wC cI cZ ad) l yX1_valueIn wsX1_valueIn rmX1_valueIn [.ref (ad 5), .int a1] u (rX1_valueIn_v5 u a1) u := by
  refine mI_of (cc := cX1_valueIn) (maxL := 2) (ret := (some .int)) (own := RX1) rfl (by decide) rfl (wC_ok cI cZ ad) (Nat.le_of_ble_eq_true rfl) (fun p e s m args below meth c A C => ?_)
  refine V_ls (ls' := [(0, .ref (ad 5)), (1, .int a1)]) rfl ?_
  refine V_iload_n C dX1_valueIn_0 rfl 1 rfl ?_
  refine V_join1 (J := 17) (T := (if a1 < 0 then 0 else (if 24 ≤ a1 then 0 else (mrd u 5 a1)))) (fun j17 hj17 => ?_) (fun J17 => ?_)
  ·
    subst hj17
    exact V_iret C rfl (vp_nar_int _) rfl rfl dX1_valueIn_17
  ·
    refine V_if_lt (tgt := 16) C dX1_valueIn_1 (by decide) (fun h1 => ?_) (fun h1 => ?_)
    ·
      refine V_iconst (v := 0) C dX1_valueIn_16 (by decide) ?_
      exact J17 _ ((if_pos h1).trans rfl)
    ·
      refine V_iload_n C dX1_valueIn_4 rfl 1 rfl ?_
      refine V_aload_n C dX1_valueIn_5 rfl 0 rfl ?_
      refine V_alen (v := 24) C 5 0 rfl rfl rfl dX1_valueIn_6 ?_
      refine V_icmp_ge (tgt := 16) C dX1_valueIn_7 (by decide) (fun h7 => ?_) (fun h7 => ?_)
      ·
        refine V_iconst (v := 0) C dX1_valueIn_16 (by decide) ?_
        exact J17 _ ((if_neg h1).trans ((if_pos h7).trans rfl))
      ·
        refine V_aload_n C dX1_valueIn_10 rfl 0 rfl ?_
        refine V_iload_n C dX1_valueIn_11 rfl 1 rfl ?_
        refine Vm_iald C 5 0 rfl rfl (vq_lt h1 h7) dX1_valueIn_12 ?_
        refine V_goto (tgt := 17) C dX1_valueIn_13 (by decide) ?_
        exact J17 _ ((if_neg h1).trans ((if_neg h7).trans rfl))
set_option maxHeartbeats 4000000 in
theorem kX1_valueIn_v12 {l : Launch} {D : va_G} {cI cZ : ClassId} {ad : Nat → Nat} (u : vM) (a1 : Int32) : mI D vwCl (tyF cI cZ) xN (wC cI cZ ad) l yX1_valueIn wsX1_valueIn rmX1_valueIn [.ref (ad 12), .int a1] u (rX1_valueIn_v12 u a1) u := by
  refine mI_of (cc := cX1_valueIn) (maxL := 2) (ret := (some .int)) (own := RX1) rfl (by decide) rfl (wC_ok cI cZ ad) (Nat.le_of_ble_eq_true rfl) (fun p e s m args below meth c A C => ?_)
  refine V_ls (ls' := [(0, .ref (ad 12)), (1, .int a1)]) rfl ?_
  refine V_iload_n C dX1_valueIn_0 rfl 1 rfl ?_
  refine V_join1 (J := 17) (T := (if a1 < 0 then 0 else (if 24 ≤ a1 then 0 else (mrd u 12 a1)))) (fun j17 hj17 => ?_) (fun J17 => ?_)
  ·
    subst hj17
    exact V_iret C rfl (vp_nar_int _) rfl rfl dX1_valueIn_17
  ·
    refine V_if_lt (tgt := 16) C dX1_valueIn_1 (by decide) (fun h1 => ?_) (fun h1 => ?_)
    ·
      refine V_iconst (v := 0) C dX1_valueIn_16 (by decide) ?_
      exact J17 _ ((if_pos h1).trans rfl)
    ·
      refine V_iload_n C dX1_valueIn_4 rfl 1 rfl ?_
      refine V_aload_n C dX1_valueIn_5 rfl 0 rfl ?_
      refine V_alen (v := 24) C 12 0 rfl rfl rfl dX1_valueIn_6 ?_
      refine V_icmp_ge (tgt := 16) C dX1_valueIn_7 (by decide) (fun h7 => ?_) (fun h7 => ?_)
      ·
        refine V_iconst (v := 0) C dX1_valueIn_16 (by decide) ?_
        exact J17 _ ((if_neg h1).trans ((if_pos h7).trans rfl))
      ·
        refine V_aload_n C dX1_valueIn_10 rfl 0 rfl ?_
        refine V_iload_n C dX1_valueIn_11 rfl 1 rfl ?_
        refine Vm_iald C 12 0 rfl rfl (vq_lt h1 h7) dX1_valueIn_12 ?_
        refine V_goto (tgt := 17) C dX1_valueIn_13 (by decide) ?_
        exact J17 _ ((if_neg h1).trans ((if_neg h7).trans rfl))
theorem hdX1_held : yX1_held.cls ≠ "java/lang/invoke/MethodHandle" ∧ yX1_held.cls ≠ "java/lang/invoke/VarHandle" ∧ (parseMethodDescriptor yX1_held.desc).map (fun d => d.parameters.length) = some 1 := by decide +kernel
theorem hvX1_held : yX1_held.cls = RX1 ∧ yX1_held.cls ≠ "java/lang/invoke/MethodHandle" ∧ yX1_held.cls ≠ "java/lang/invoke/VarHandle" ∧ (parseMethodDescriptor yX1_held.desc).map (fun d => d.parameters.length) = some 1 := by decide +kernel
theorem hkX1_held_190 : Cond.constant RX1 190 (-1000000) ∈ wsX1_held := by decide +kernel
theorem hkX1_held_58 : Cond.constant RX1 58 (1000000) ∈ wsX1_held := by decide +kernel
theorem hmX1_held_min1 : Cond.methodLink RX1 191 Lib.Math.min.name ∈ wsX1_held := by decide +kernel
theorem hmX1_held_min2 : Cond.static Lib.Math.min.name ∈ wsX1_held := by decide +kernel
theorem hmX1_held_3 : Cond.initialized "java/lang/Math" ∈ wsX1_held := by decide +kernel
theorem hmX1_held_min4 : Cond.code Lib.Math.min.name Lib.Math.min.code 2 (some .int) ∈ wsX1_held := by decide +kernel
theorem hmX1_held_max1 : Cond.methodLink RX1 185 Lib.Math.max.name ∈ wsX1_held := by decide +kernel
theorem hmX1_held_max2 : Cond.static Lib.Math.max.name ∈ wsX1_held := by decide +kernel
theorem hmX1_held_max4 : Cond.code Lib.Math.max.name Lib.Math.max.code 2 (some .int) ∈ wsX1_held := by decide +kernel
set_option maxHeartbeats 4000000 in
theorem kX1_held {l : Launch} {D : va_G} {cI cZ : ClassId} {ad : Nat → Nat} (u : vM) (a0 : Int32) : mI D vwCl (tyF cI cZ) xN (wC cI cZ ad) l yX1_held wsX1_held rmX1_held [.int a0] u (rX1_held a0) u := by
  refine mI_of (cc := cX1_held) (maxL := 1) (ret := (some .int)) (own := RX1) rfl (by decide) rfl (wC_ok cI cZ ad) (Nat.le_of_ble_eq_true rfl) (fun p e s m args below meth c A C => ?_)
  refine V_ls (ls' := [(0, .int a0)]) rfl ?_
  refine V_ldc (v := (-1000000)) C hkX1_held_190 dX1_held_0 ?_
  refine V_ldc (v := 1000000) C hkX1_held_58 dX1_held_2 ?_
  refine V_iload_n C dX1_held_4 rfl 0 rfl ?_
  refine V_mmin C hmX1_held_min1 hmX1_held_min2 hmX1_held_3 hmX1_held_min4 (Nat.le_of_ble_eq_true rfl) (Nat.le_of_ble_eq_true rfl) (Nat.zero_le _) (Nat.zero_le _) dX1_held_5 ?_
  refine V_mmax C hmX1_held_max1 hmX1_held_max2 hmX1_held_3 hmX1_held_max4 (Nat.le_of_ble_eq_true rfl) (Nat.le_of_ble_eq_true rfl) (Nat.zero_le _) (Nat.zero_le _) dX1_held_8 ?_
  exact V_iret C rfl (vp_nar_int _) rfl rfl dX1_held_11
theorem hdX1_resultOf : yX1_resultOf.cls ≠ "java/lang/invoke/MethodHandle" ∧ yX1_resultOf.cls ≠ "java/lang/invoke/VarHandle" ∧ (parseMethodDescriptor yX1_resultOf.desc).map (fun d => d.parameters.length) = some 2 := by decide +kernel
theorem hvX1_resultOf : yX1_resultOf.cls = RX1 ∧ yX1_resultOf.cls ≠ "java/lang/invoke/MethodHandle" ∧ yX1_resultOf.cls ≠ "java/lang/invoke/VarHandle" ∧ (parseMethodDescriptor yX1_resultOf.desc).map (fun d => d.parameters.length) = some 2 := by decide +kernel
theorem hinX1_resultOf_X1 : ∀ w ∈ u_ws RX1 TX1 12, w ∈ wsX1_resultOf := by decide +kernel
theorem hfX1_resultOf_13 : Cond.fieldLink RX1 13 "MeteredSheets" "ones" "[I" ∈ wsX1_resultOf := by decide +kernel
theorem hfX1_resultOf_16 : Cond.fieldLink RX1 16 "MeteredSheets" "others" "[I" ∈ wsX1_resultOf := by decide +kernel
theorem hfX1_resultOf_9 : Cond.fieldLink RX1 9 "MeteredSheets" "kinds" "[I" ∈ wsX1_resultOf := by decide +kernel
theorem hfX1_resultOf_19 : Cond.fieldLink RX1 19 "MeteredSheets" "numbers" "[I" ∈ wsX1_resultOf := by decide +kernel
theorem hmX1_resultOf_max1 : Cond.methodLink RX1 185 Lib.Math.max.name ∈ wsX1_resultOf := by decide +kernel
theorem hmX1_resultOf_max2 : Cond.static Lib.Math.max.name ∈ wsX1_resultOf := by decide +kernel
theorem hmX1_resultOf_3 : Cond.initialized "java/lang/Math" ∈ wsX1_resultOf := by decide +kernel
theorem hmX1_resultOf_max4 : Cond.code Lib.Math.max.name Lib.Math.max.code 2 (some .int) ∈ wsX1_resultOf := by decide +kernel
set_option maxHeartbeats 4000000 in
theorem kX1_resultOf_v5 {l : Launch} {D : va_G} {cI cZ : ClassId} {ad : Nat → Nat} (u : vM) (a1 : Int32) (hp0 : vp_in a1 24) : mI D vwCl (tyF cI cZ) xN (wC cI cZ ad) l yX1_resultOf wsX1_resultOf rmX1_resultOf [.ref (ad 0), .int a1, .ref (ad 5)] u (rX1_resultOf_v5 u a1) u := by
  refine mI_of (cc := cX1_resultOf) (maxL := 5) (ret := (some .int)) (own := RX1) rfl (by decide) rfl (wC_ok cI cZ ad) (Nat.le_of_ble_eq_true rfl) (fun p e s m args below meth c A C => ?_)
  refine V_ls (ls' := [(0, .ref (ad 0)), (1, .int a1), (2, .ref (ad 5))]) rfl ?_
  refine V_aload_n C dX1_resultOf_0 rfl 2 rfl ?_
  refine V_aload_n C dX1_resultOf_1 rfl 0 rfl ?_
  refine V_get (Cn := RX1) (T := TX1) (N := 12) C hinX1_resultOf_X1 0 rfl rfl 1 (by decide) hfX1_resultOf_13 rfl rfl dX1_resultOf_2 ?_
  refine V_iload_n C dX1_resultOf_5 rfl 1 rfl ?_
  refine Vm_iald C 2 0 rfl rfl hp0 dX1_resultOf_6 ?_
  refine V_cSi2 C xN_ok (kX1_valueIn_v5 _ _) (va_cwS 2 C.2.2.1 gX1_resultOf_X1_valueIn rfl rfl rfl hdX1_valueIn ⟨Nat.le_of_ble_eq_true rfl, Nat.le_of_ble_eq_true rfl⟩) (Nat.le_of_ble_eq_true rfl) ⟨(Nat.le_of_ble_eq_true rfl), (Nat.le_of_ble_eq_true rfl)⟩ dX1_resultOf_7 ?_
  refine V_top (fun y10 hy10 => ?_)
  refine V_istore_n (ls' := [(0, .ref (ad 0)), (1, .int a1), (2, .ref (ad 5)), (3, .int y10)]) C dX1_resultOf_10 rfl (by decide) rfl rfl ?_
  refine V_aload_n C dX1_resultOf_11 rfl 2 rfl ?_
  refine V_aload_n C dX1_resultOf_12 rfl 0 rfl ?_
  refine V_get (Cn := RX1) (T := TX1) (N := 12) C hinX1_resultOf_X1 0 rfl rfl 2 (by decide) hfX1_resultOf_16 rfl rfl dX1_resultOf_13 ?_
  refine V_iload_n C dX1_resultOf_16 rfl 1 rfl ?_
  refine Vm_iald C 3 0 rfl rfl hp0 dX1_resultOf_17 ?_
  refine V_cSi2 C xN_ok (kX1_valueIn_v5 _ _) (va_cwS 2 C.2.2.1 gX1_resultOf_X1_valueIn rfl rfl rfl hdX1_valueIn ⟨Nat.le_of_ble_eq_true rfl, Nat.le_of_ble_eq_true rfl⟩) (Nat.le_of_ble_eq_true rfl) ⟨(Nat.le_of_ble_eq_true rfl), (Nat.le_of_ble_eq_true rfl)⟩ dX1_resultOf_18 ?_
  refine V_top (fun y21 hy21 => ?_)
  refine V_istore (ls' := [(0, .ref (ad 0)), (1, .int a1), (2, .ref (ad 5)), (3, .int y10), (4, .int y21)]) C dX1_resultOf_21 (by decide) rfl rfl ?_
  refine V_aload_n C dX1_resultOf_23 rfl 0 rfl ?_
  refine V_get (Cn := RX1) (T := TX1) (N := 12) C hinX1_resultOf_X1 0 rfl rfl 0 (by decide) hfX1_resultOf_9 rfl rfl dX1_resultOf_24 ?_
  refine V_iload_n C dX1_resultOf_27 rfl 1 rfl ?_
  refine Vm_iald C 1 0 rfl rfl hp0 dX1_resultOf_28 ?_
  refine V_tsw3 (t1 := 56) (t2 := 71) (t3 := 78) (t0 := 90) C dX1_resultOf_29 (by decide) (by decide) (by decide) (by decide) (fun h29a => ?_) (fun h29a h29b => ?_) (fun h29a h29b h29c => ?_) (fun h29a h29b h29c => ?_)
  ·
    refine V_iload_n C dX1_resultOf_56 rfl 3 rfl ?_
    refine V_iload C dX1_resultOf_57 4 rfl ?_
    refine V_iadd C dX1_resultOf_59 ?_
    refine V_aload_n C dX1_resultOf_60 rfl 0 rfl ?_
    refine V_get (Cn := RX1) (T := TX1) (N := 12) C hinX1_resultOf_X1 0 rfl rfl 3 (by decide) hfX1_resultOf_19 rfl rfl dX1_resultOf_61 ?_
    refine V_iload_n C dX1_resultOf_64 rfl 1 rfl ?_
    refine Vm_iald C 4 0 rfl rfl hp0 dX1_resultOf_65 ?_
    refine V_iadd C dX1_resultOf_66 ?_
    refine V_cSi1 C xN_ok (kX1_held _ _) (va_cwS 1 C.2.2.1 gX1_resultOf_X1_held rfl rfl rfl hdX1_held ⟨Nat.le_of_ble_eq_true rfl, Nat.le_of_ble_eq_true rfl⟩) (Nat.le_of_ble_eq_true rfl) ⟨(Nat.le_of_ble_eq_true rfl), (Nat.le_of_ble_eq_true rfl)⟩ dX1_resultOf_67 ?_
    subst hy21
    subst hy10
    exact V_iret C rfl (vp_nar_int _) ((if_pos h29a).trans rfl) rfl dX1_resultOf_70
  ·
    refine V_iload_n C dX1_resultOf_71 rfl 3 rfl ?_
    refine V_iload C dX1_resultOf_72 4 rfl ?_
    refine V_mmax C hmX1_resultOf_max1 hmX1_resultOf_max2 hmX1_resultOf_3 hmX1_resultOf_max4 (Nat.le_of_ble_eq_true rfl) (Nat.le_of_ble_eq_true rfl) (Nat.zero_le _) (Nat.zero_le _) dX1_resultOf_74 ?_
    subst hy21
    subst hy10
    exact V_iret C rfl (vp_nar_int _) ((if_neg h29a).trans ((if_pos h29b).trans rfl)) rfl dX1_resultOf_77
  ·
    refine V_iload_n C dX1_resultOf_78 rfl 3 rfl ?_
    refine V_aload_n C dX1_resultOf_79 rfl 0 rfl ?_
    refine V_get (Cn := RX1) (T := TX1) (N := 12) C hinX1_resultOf_X1 0 rfl rfl 3 (by decide) hfX1_resultOf_19 rfl rfl dX1_resultOf_80 ?_
    refine V_iload_n C dX1_resultOf_83 rfl 1 rfl ?_
    refine Vm_iald C 4 0 rfl rfl hp0 dX1_resultOf_84 ?_
    refine V_imul C dX1_resultOf_85 ?_
    refine V_cSi1 C xN_ok (kX1_held _ _) (va_cwS 1 C.2.2.1 gX1_resultOf_X1_held rfl rfl rfl hdX1_held ⟨Nat.le_of_ble_eq_true rfl, Nat.le_of_ble_eq_true rfl⟩) (Nat.le_of_ble_eq_true rfl) ⟨(Nat.le_of_ble_eq_true rfl), (Nat.le_of_ble_eq_true rfl)⟩ dX1_resultOf_86 ?_
    subst hy21
    subst hy10
    exact V_iret C rfl (vp_nar_int _) ((if_neg h29a).trans ((if_neg h29b).trans ((if_pos h29c).trans rfl))) rfl dX1_resultOf_89
  ·
    refine V_aload_n C dX1_resultOf_90 rfl 0 rfl ?_
    refine V_get (Cn := RX1) (T := TX1) (N := 12) C hinX1_resultOf_X1 0 rfl rfl 3 (by decide) hfX1_resultOf_19 rfl rfl dX1_resultOf_91 ?_
    refine V_iload_n C dX1_resultOf_94 rfl 1 rfl ?_
    refine Vm_iald C 4 0 rfl rfl hp0 dX1_resultOf_95 ?_
    subst hy21
    subst hy10
    exact V_iret C rfl (vp_nar_int _) ((if_neg h29a).trans ((if_neg h29b).trans ((if_neg h29c).trans rfl))) rfl dX1_resultOf_96
set_option maxHeartbeats 4000000 in
theorem kX1_resultOf_v12 {l : Launch} {D : va_G} {cI cZ : ClassId} {ad : Nat → Nat} (u : vM) (a1 : Int32) (hp0 : vp_in a1 24) : mI D vwCl (tyF cI cZ) xN (wC cI cZ ad) l yX1_resultOf wsX1_resultOf rmX1_resultOf [.ref (ad 0), .int a1, .ref (ad 12)] u (rX1_resultOf_v12 u a1) u := by
  refine mI_of (cc := cX1_resultOf) (maxL := 5) (ret := (some .int)) (own := RX1) rfl (by decide) rfl (wC_ok cI cZ ad) (Nat.le_of_ble_eq_true rfl) (fun p e s m args below meth c A C => ?_)
  refine V_ls (ls' := [(0, .ref (ad 0)), (1, .int a1), (2, .ref (ad 12))]) rfl ?_
  refine V_aload_n C dX1_resultOf_0 rfl 2 rfl ?_
  refine V_aload_n C dX1_resultOf_1 rfl 0 rfl ?_
  refine V_get (Cn := RX1) (T := TX1) (N := 12) C hinX1_resultOf_X1 0 rfl rfl 1 (by decide) hfX1_resultOf_13 rfl rfl dX1_resultOf_2 ?_
  refine V_iload_n C dX1_resultOf_5 rfl 1 rfl ?_
  refine Vm_iald C 2 0 rfl rfl hp0 dX1_resultOf_6 ?_
  refine V_cSi2 C xN_ok (kX1_valueIn_v12 _ _) (va_cwS 2 C.2.2.1 gX1_resultOf_X1_valueIn rfl rfl rfl hdX1_valueIn ⟨Nat.le_of_ble_eq_true rfl, Nat.le_of_ble_eq_true rfl⟩) (Nat.le_of_ble_eq_true rfl) ⟨(Nat.le_of_ble_eq_true rfl), (Nat.le_of_ble_eq_true rfl)⟩ dX1_resultOf_7 ?_
  refine V_top (fun y10 hy10 => ?_)
  refine V_istore_n (ls' := [(0, .ref (ad 0)), (1, .int a1), (2, .ref (ad 12)), (3, .int y10)]) C dX1_resultOf_10 rfl (by decide) rfl rfl ?_
  refine V_aload_n C dX1_resultOf_11 rfl 2 rfl ?_
  refine V_aload_n C dX1_resultOf_12 rfl 0 rfl ?_
  refine V_get (Cn := RX1) (T := TX1) (N := 12) C hinX1_resultOf_X1 0 rfl rfl 2 (by decide) hfX1_resultOf_16 rfl rfl dX1_resultOf_13 ?_
  refine V_iload_n C dX1_resultOf_16 rfl 1 rfl ?_
  refine Vm_iald C 3 0 rfl rfl hp0 dX1_resultOf_17 ?_
  refine V_cSi2 C xN_ok (kX1_valueIn_v12 _ _) (va_cwS 2 C.2.2.1 gX1_resultOf_X1_valueIn rfl rfl rfl hdX1_valueIn ⟨Nat.le_of_ble_eq_true rfl, Nat.le_of_ble_eq_true rfl⟩) (Nat.le_of_ble_eq_true rfl) ⟨(Nat.le_of_ble_eq_true rfl), (Nat.le_of_ble_eq_true rfl)⟩ dX1_resultOf_18 ?_
  refine V_top (fun y21 hy21 => ?_)
  refine V_istore (ls' := [(0, .ref (ad 0)), (1, .int a1), (2, .ref (ad 12)), (3, .int y10), (4, .int y21)]) C dX1_resultOf_21 (by decide) rfl rfl ?_
  refine V_aload_n C dX1_resultOf_23 rfl 0 rfl ?_
  refine V_get (Cn := RX1) (T := TX1) (N := 12) C hinX1_resultOf_X1 0 rfl rfl 0 (by decide) hfX1_resultOf_9 rfl rfl dX1_resultOf_24 ?_
  refine V_iload_n C dX1_resultOf_27 rfl 1 rfl ?_
  refine Vm_iald C 1 0 rfl rfl hp0 dX1_resultOf_28 ?_
  refine V_tsw3 (t1 := 56) (t2 := 71) (t3 := 78) (t0 := 90) C dX1_resultOf_29 (by decide) (by decide) (by decide) (by decide) (fun h29a => ?_) (fun h29a h29b => ?_) (fun h29a h29b h29c => ?_) (fun h29a h29b h29c => ?_)
  ·
    refine V_iload_n C dX1_resultOf_56 rfl 3 rfl ?_
    refine V_iload C dX1_resultOf_57 4 rfl ?_
    refine V_iadd C dX1_resultOf_59 ?_
    refine V_aload_n C dX1_resultOf_60 rfl 0 rfl ?_
    refine V_get (Cn := RX1) (T := TX1) (N := 12) C hinX1_resultOf_X1 0 rfl rfl 3 (by decide) hfX1_resultOf_19 rfl rfl dX1_resultOf_61 ?_
    refine V_iload_n C dX1_resultOf_64 rfl 1 rfl ?_
    refine Vm_iald C 4 0 rfl rfl hp0 dX1_resultOf_65 ?_
    refine V_iadd C dX1_resultOf_66 ?_
    refine V_cSi1 C xN_ok (kX1_held _ _) (va_cwS 1 C.2.2.1 gX1_resultOf_X1_held rfl rfl rfl hdX1_held ⟨Nat.le_of_ble_eq_true rfl, Nat.le_of_ble_eq_true rfl⟩) (Nat.le_of_ble_eq_true rfl) ⟨(Nat.le_of_ble_eq_true rfl), (Nat.le_of_ble_eq_true rfl)⟩ dX1_resultOf_67 ?_
    subst hy21
    subst hy10
    exact V_iret C rfl (vp_nar_int _) ((if_pos h29a).trans rfl) rfl dX1_resultOf_70
  ·
    refine V_iload_n C dX1_resultOf_71 rfl 3 rfl ?_
    refine V_iload C dX1_resultOf_72 4 rfl ?_
    refine V_mmax C hmX1_resultOf_max1 hmX1_resultOf_max2 hmX1_resultOf_3 hmX1_resultOf_max4 (Nat.le_of_ble_eq_true rfl) (Nat.le_of_ble_eq_true rfl) (Nat.zero_le _) (Nat.zero_le _) dX1_resultOf_74 ?_
    subst hy21
    subst hy10
    exact V_iret C rfl (vp_nar_int _) ((if_neg h29a).trans ((if_pos h29b).trans rfl)) rfl dX1_resultOf_77
  ·
    refine V_iload_n C dX1_resultOf_78 rfl 3 rfl ?_
    refine V_aload_n C dX1_resultOf_79 rfl 0 rfl ?_
    refine V_get (Cn := RX1) (T := TX1) (N := 12) C hinX1_resultOf_X1 0 rfl rfl 3 (by decide) hfX1_resultOf_19 rfl rfl dX1_resultOf_80 ?_
    refine V_iload_n C dX1_resultOf_83 rfl 1 rfl ?_
    refine Vm_iald C 4 0 rfl rfl hp0 dX1_resultOf_84 ?_
    refine V_imul C dX1_resultOf_85 ?_
    refine V_cSi1 C xN_ok (kX1_held _ _) (va_cwS 1 C.2.2.1 gX1_resultOf_X1_held rfl rfl rfl hdX1_held ⟨Nat.le_of_ble_eq_true rfl, Nat.le_of_ble_eq_true rfl⟩) (Nat.le_of_ble_eq_true rfl) ⟨(Nat.le_of_ble_eq_true rfl), (Nat.le_of_ble_eq_true rfl)⟩ dX1_resultOf_86 ?_
    subst hy21
    subst hy10
    exact V_iret C rfl (vp_nar_int _) ((if_neg h29a).trans ((if_neg h29b).trans ((if_pos h29c).trans rfl))) rfl dX1_resultOf_89
  ·
    refine V_aload_n C dX1_resultOf_90 rfl 0 rfl ?_
    refine V_get (Cn := RX1) (T := TX1) (N := 12) C hinX1_resultOf_X1 0 rfl rfl 3 (by decide) hfX1_resultOf_19 rfl rfl dX1_resultOf_91 ?_
    refine V_iload_n C dX1_resultOf_94 rfl 1 rfl ?_
    refine Vm_iald C 4 0 rfl rfl hp0 dX1_resultOf_95 ?_
    subst hy21
    subst hy10
    exact V_iret C rfl (vp_nar_int _) ((if_neg h29a).trans ((if_neg h29b).trans ((if_neg h29c).trans rfl))) rfl dX1_resultOf_96
theorem hdX1_compute : yX1_compute.cls ≠ "java/lang/invoke/MethodHandle" ∧ yX1_compute.cls ≠ "java/lang/invoke/VarHandle" ∧ (parseMethodDescriptor yX1_compute.desc).map (fun d => d.parameters.length) = some 2 := by decide +kernel
theorem hvX1_compute : yX1_compute.cls = RX1 ∧ yX1_compute.cls ≠ "java/lang/invoke/MethodHandle" ∧ yX1_compute.cls ≠ "java/lang/invoke/VarHandle" ∧ (parseMethodDescriptor yX1_compute.desc).map (fun d => d.parameters.length) = some 2 := by decide +kernel
theorem hinX1_compute_X1 : ∀ w ∈ u_ws RX1 TX1 12, w ∈ wsX1_compute := by decide +kernel
theorem hfX1_compute_13 : Cond.fieldLink RX1 13 "MeteredSheets" "ones" "[I" ∈ wsX1_compute := by decide +kernel
theorem hfX1_compute_16 : Cond.fieldLink RX1 16 "MeteredSheets" "others" "[I" ∈ wsX1_compute := by decide +kernel
theorem hfX1_compute_25 : Cond.fieldLink RX1 25 "MeteredSheets" "marked" "[Z" ∈ wsX1_compute := by decide +kernel
theorem hfX1_compute_35 : Cond.fieldLink RX1 35 "MeteredSheets" "ledger" "LMeteredSheets$Ledger;" ∈ wsX1_compute := by decide +kernel
theorem hiX1_compute_X0 : Cond.initialized RX0 ∈ wsX1_compute := by decide +kernel
theorem haX1_compute_X0_paysFor : Cond.instanceMethod yX0_paysFor ∈ wsX1_compute := by decide +kernel
theorem hbX1_compute_X0_paysFor : Cond.selects RX0 yX0_paysFor yX0_paysFor ∈ wsX1_compute := by decide +kernel
theorem hfX1_compute_22 : Cond.fieldLink RX1 22 "MeteredSheets" "values" "[I" ∈ wsX1_compute := by decide +kernel
theorem hfX1_compute_39 : Cond.fieldLink RX1 39 "MeteredSheets" "changed" "[Z" ∈ wsX1_compute := by decide +kernel
set_option maxHeartbeats 4000000 in
theorem kX1_compute {l : Launch} {D : va_G} {cI cZ : ClassId} {ad : Nat → Nat} (u : vM) (a1 : Int32) (a2 : Int32) (hp0 : vp_in a1 5) (hp1 : vp_in a2 24) (hp2 : kc u) : mV D vwCl (tyF cI cZ) xN (wC cI cZ ad) l yX1_compute wsX1_compute rmX1_compute [.ref (ad 0), .int a1, .int a2] u (uX1_compute u a1 a2) := by
  refine mV_of (cc := cX1_compute) (maxL := 6) (ret := none) (own := RX1) rfl (by decide) rfl (wC_ok cI cZ ad) (Nat.le_of_ble_eq_true rfl) (fun p e s m args below meth c A C => ?_)
  refine V_ls (ls' := [(0, .ref (ad 0)), (1, .int a1), (2, .int a2)]) rfl ?_
  refine V_iload_n C dX1_compute_0 rfl 2 rfl ?_
  refine V_aload_n C dX1_compute_1 rfl 0 rfl ?_
  refine V_get (Cn := RX1) (T := TX1) (N := 12) C hinX1_compute_X1 0 rfl rfl 1 (by decide) hfX1_compute_13 rfl rfl dX1_compute_2 ?_
  refine V_iload_n C dX1_compute_5 rfl 2 rfl ?_
  refine Vm_iald C 2 0 rfl rfl hp1 dX1_compute_6 ?_
  refine V_cSi2 C xN_ok (kX1_meteredRead _ _ _) (va_cwS 2 C.2.2.1 gX1_compute_X1_meteredRead rfl rfl rfl hdX1_meteredRead ⟨Nat.le_of_ble_eq_true rfl, Nat.le_of_ble_eq_true rfl⟩) (Nat.le_of_ble_eq_true rfl) ⟨(Nat.le_of_ble_eq_true rfl), (Nat.le_of_ble_eq_true rfl)⟩ dX1_compute_7 ?_
  refine V_top (fun y10 hy10 => ?_)
  refine V_istore_n (ls' := [(0, .ref (ad 0)), (1, .int a1), (2, .int a2), (3, .int y10)]) C dX1_compute_10 rfl (by decide) rfl rfl ?_
  refine V_aload_n C dX1_compute_11 rfl 0 rfl ?_
  refine V_get (Cn := RX1) (T := TX1) (N := 12) C hinX1_compute_X1 0 rfl rfl 2 (by decide) hfX1_compute_16 rfl rfl dX1_compute_12 ?_
  refine V_iload_n C dX1_compute_15 rfl 2 rfl ?_
  refine Vm_iald C 3 0 rfl rfl hp1 dX1_compute_16 ?_
  refine V_aload_n C dX1_compute_17 rfl 0 rfl ?_
  refine V_get (Cn := RX1) (T := TX1) (N := 12) C hinX1_compute_X1 0 rfl rfl 1 (by decide) hfX1_compute_13 rfl rfl dX1_compute_18 ?_
  refine V_iload_n C dX1_compute_21 rfl 2 rfl ?_
  refine Vm_iald C 2 0 rfl rfl hp1 dX1_compute_22 ?_
  refine V_join2 (J := 40) (T := (if (mrd u 3 a2) = (mrd u 2 a2) then (-1) else (rX1_meteredRead a2 (mrd u 3 a2)))) (fun j40 hj40 => ?_) (fun J40 => ?_)
  ·
    refine V_istore (ls' := [(0, .ref (ad 0)), (1, .int a1), (2, .int a2), (3, .int y10), (4, .int j40)]) C dX1_compute_40 (by decide) rfl rfl ?_
    refine V_aload_n C dX1_compute_42 rfl 0 rfl ?_
    refine V_get (Cn := RX1) (T := TX1) (N := 12) C hinX1_compute_X1 0 rfl rfl 5 (by decide) hfX1_compute_25 rfl rfl dX1_compute_43 ?_
    refine V_iload_n C dX1_compute_46 rfl 2 rfl ?_
    refine V_aload_n C dX1_compute_47 rfl 0 rfl ?_
    refine V_get (Cn := RX1) (T := TX1) (N := 12) C hinX1_compute_X1 0 rfl rfl 7 (by decide) hfX1_compute_35 rfl rfl dX1_compute_48 ?_
    refine V_iload_n C dX1_compute_51 rfl 1 rfl ?_
    refine V_iload_n C dX1_compute_52 rfl 2 rfl ?_
    refine V_iload_n C dX1_compute_53 rfl 3 rfl ?_
    refine V_iload C dX1_compute_54 4 rfl ?_
    refine V_cVNi4 C xN_ok (kX0_paysFor _ _ _ _ _ hp0 hp1 hp2) ⟨va_cnB 4 C.2.2.1 ggX1_compute_X0_paysFor rfl rfl rfl (C.2.2.2.2.2.2.2.2.2.2 _ nwX1_170) (C.2.2.1 _ hiX1_compute_X0) hdX0_paysFor ⟨Nat.le_of_ble_eq_true rfl, Nat.le_of_ble_eq_true rfl⟩, C.2.2.1 _ haX1_compute_X0_paysFor, C.2.2.1 _ hbX1_compute_X0_paysFor⟩ 8 rfl rfl (Nat.le_of_ble_eq_true rfl) ⟨(Nat.le_of_ble_eq_true rfl), (Nat.le_of_ble_eq_true rfl)⟩ dX1_compute_56 ?_
    refine V_u (fun u56 hu56 => ?_)
    have hkc56 : kc u56 := by rw [← hu56]; exact kc_X0_paysFor hp2
    refine V_join1 (J := 67) (T := (if (rX0_paysFor u a1 a2 y10 j40) = 0 then 1 else 0)) (fun j67 hj67 => ?_) (fun J67 => ?_)
    ·
      refine Vm_zast C 6 1 rfl rfl hp1 (by rw [← hj67]; (repeat' split) <;> rfl) wC_s6 dX1_compute_67 ?_
      refine V_u (fun u67 hu67 => ?_)
      have hkc67 : kc u67 := by rw [← hu67]; exact hkc56
      refine V_aload_n C dX1_compute_68 rfl 0 rfl ?_
      refine V_get (Cn := RX1) (T := TX1) (N := 12) C hinX1_compute_X1 0 rfl rfl 5 (by decide) hfX1_compute_25 rfl rfl dX1_compute_69 ?_
      refine V_iload_n C dX1_compute_72 rfl 2 rfl ?_
      refine Vm_zald C 6 1 rfl rfl hp1 dX1_compute_73 ?_
      refine V_if_ne (tgt := 118) C dX1_compute_74 (by decide) (fun h74 => ?_) (fun h74 => ?_)
      ·
        subst hu67
        subst hj67
        subst hu56
        subst hj40
        subst hy10
        exact V_vret C rfl ((if_neg h74).trans rfl) dX1_compute_118
      ·
        refine V_aload_n C dX1_compute_77 rfl 0 rfl ?_
        refine V_iload_n C dX1_compute_78 rfl 2 rfl ?_
        refine V_aload_n C dX1_compute_79 rfl 0 rfl ?_
        refine V_get (Cn := RX1) (T := TX1) (N := 12) C hinX1_compute_X1 0 rfl rfl 4 (by decide) hfX1_compute_22 rfl rfl dX1_compute_80 ?_
        refine V_cVi2 C xN_ok (kX1_resultOf_v5 _ _ hp1) (cwV 2 C.2.2.1 gX1_compute_X1_resultOf rfl rfl rfl hvX1_resultOf ⟨Nat.le_of_ble_eq_true rfl, Nat.le_of_ble_eq_true rfl⟩) 0 rfl rfl (Nat.le_of_ble_eq_true rfl) ⟨(Nat.le_of_ble_eq_true rfl), (Nat.le_of_ble_eq_true rfl)⟩ dX1_compute_83 ?_
        refine V_top (fun y86 hy86 => ?_)
        refine V_istore (ls' := [(0, .ref (ad 0)), (1, .int a1), (2, .int a2), (3, .int y10), (4, .int j40), (5, .int y86)]) C dX1_compute_86 (by decide) rfl rfl ?_
        refine V_aload_n C dX1_compute_88 rfl 0 rfl ?_
        refine V_get (Cn := RX1) (T := TX1) (N := 12) C hinX1_compute_X1 0 rfl rfl 8 (by decide) hfX1_compute_39 rfl rfl dX1_compute_89 ?_
        refine V_iload_n C dX1_compute_92 rfl 2 rfl ?_
        refine V_iload C dX1_compute_93 5 rfl ?_
        refine V_aload_n C dX1_compute_95 rfl 0 rfl ?_
        refine V_get (Cn := RX1) (T := TX1) (N := 12) C hinX1_compute_X1 0 rfl rfl 4 (by decide) hfX1_compute_22 rfl rfl dX1_compute_96 ?_
        refine V_iload_n C dX1_compute_99 rfl 2 rfl ?_
        refine Vm_iald C 5 0 rfl rfl hp1 dX1_compute_100 ?_
        refine V_join2 (J := 109) (T := (if y86 = (mrd u67 5 a2) then 0 else 1)) (fun j109 hj109 => ?_) (fun J109 => ?_)
        ·
          refine Vm_zast C 9 1 rfl rfl hp1 (by rw [← hj109]; (repeat' split) <;> rfl) wC_s9 dX1_compute_109 ?_
          refine V_u (fun u109 hu109 => ?_)
          have hkc109 : kc u109 := by rw [← hu109]; exact hkc67
          refine V_aload_n C dX1_compute_110 rfl 0 rfl ?_
          refine V_get (Cn := RX1) (T := TX1) (N := 12) C hinX1_compute_X1 0 rfl rfl 4 (by decide) hfX1_compute_22 rfl rfl dX1_compute_111 ?_
          refine V_iload_n C dX1_compute_114 rfl 2 rfl ?_
          refine V_iload C dX1_compute_115 5 rfl ?_
          refine Vm_iast C 5 0 rfl rfl hp1 wC_s5 dX1_compute_117 ?_
          refine V_u (fun u117 hu117 => ?_)
          have hkc117 : kc u117 := by rw [← hu117]; exact hkc109
          subst hu117
          subst hu109
          subst hj109
          subst hy86
          subst hu67
          subst hj67
          subst hu56
          subst hj40
          subst hy10
          exact V_vret C rfl ((if_pos h74).trans rfl) dX1_compute_118
        ·
          refine V_icmp_eq (tgt := 108) C dX1_compute_101 (by decide) (fun h101 => ?_) (fun h101 => ?_)
          ·
            refine V_iconst (v := 0) C dX1_compute_108 (by decide) ?_
            exact J109 _ ((if_pos h101).trans rfl)
          ·
            refine V_iconst (v := 1) C dX1_compute_104 (by decide) ?_
            refine V_goto (tgt := 109) C dX1_compute_105 (by decide) ?_
            exact J109 _ ((if_neg h101).trans rfl)
    ·
      refine V_if_ne (tgt := 66) C dX1_compute_59 (by decide) (fun h59 => ?_) (fun h59 => ?_)
      ·
        refine V_iconst (v := 0) C dX1_compute_66 (by decide) ?_
        exact J67 _ ((if_neg h59).trans rfl)
      ·
        refine V_iconst (v := 1) C dX1_compute_62 (by decide) ?_
        refine V_goto (tgt := 67) C dX1_compute_63 (by decide) ?_
        exact J67 _ ((if_pos h59).trans rfl)
  ·
    refine V_icmp_ne (tgt := 30) C dX1_compute_23 (by decide) (fun h23 => ?_) (fun h23 => ?_)
    ·
      refine V_iload_n C dX1_compute_30 rfl 2 rfl ?_
      refine V_aload_n C dX1_compute_31 rfl 0 rfl ?_
      refine V_get (Cn := RX1) (T := TX1) (N := 12) C hinX1_compute_X1 0 rfl rfl 2 (by decide) hfX1_compute_16 rfl rfl dX1_compute_32 ?_
      refine V_iload_n C dX1_compute_35 rfl 2 rfl ?_
      refine Vm_iald C 3 0 rfl rfl hp1 dX1_compute_36 ?_
      refine V_cSi2 C xN_ok (kX1_meteredRead _ _ _) (va_cwS 2 C.2.2.1 gX1_compute_X1_meteredRead rfl rfl rfl hdX1_meteredRead ⟨Nat.le_of_ble_eq_true rfl, Nat.le_of_ble_eq_true rfl⟩) (Nat.le_of_ble_eq_true rfl) ⟨(Nat.le_of_ble_eq_true rfl), (Nat.le_of_ble_eq_true rfl)⟩ dX1_compute_37 ?_
      exact J40 _ ((if_neg h23).trans rfl)
    ·
      refine V_iconst (v := (-1)) C dX1_compute_26 (by decide) ?_
      refine V_goto (tgt := 40) C dX1_compute_27 (by decide) ?_
      exact J40 _ ((if_pos h23).trans rfl)
theorem hdX1_readsOneOf : yX1_readsOneOf.cls ≠ "java/lang/invoke/MethodHandle" ∧ yX1_readsOneOf.cls ≠ "java/lang/invoke/VarHandle" ∧ (parseMethodDescriptor yX1_readsOneOf.desc).map (fun d => d.parameters.length) = some 2 := by decide +kernel
theorem hvX1_readsOneOf : yX1_readsOneOf.cls = RX1 ∧ yX1_readsOneOf.cls ≠ "java/lang/invoke/MethodHandle" ∧ yX1_readsOneOf.cls ≠ "java/lang/invoke/VarHandle" ∧ (parseMethodDescriptor yX1_readsOneOf.desc).map (fun d => d.parameters.length) = some 2 := by decide +kernel
theorem hinX1_readsOneOf_X1 : ∀ w ∈ u_ws RX1 TX1 12, w ∈ wsX1_readsOneOf := by decide +kernel
theorem hfX1_readsOneOf_13 : Cond.fieldLink RX1 13 "MeteredSheets" "ones" "[I" ∈ wsX1_readsOneOf := by decide +kernel
theorem hfX1_readsOneOf_16 : Cond.fieldLink RX1 16 "MeteredSheets" "others" "[I" ∈ wsX1_readsOneOf := by decide +kernel
set_option maxHeartbeats 4000000 in
theorem kX1_readsOneOf_v9 {l : Launch} {D : va_G} {cI cZ : ClassId} {ad : Nat → Nat} (u : vM) (a1 : Int32) (hp0 : vp_in a1 24) : mI D vwCl (tyF cI cZ) xN (wC cI cZ ad) l yX1_readsOneOf wsX1_readsOneOf rmX1_readsOneOf [.ref (ad 0), .int a1, .ref (ad 9)] u (rX1_readsOneOf_v9 u a1) u := by
  refine mI_of (cc := cX1_readsOneOf) (maxL := 3) (ret := (some .boolean)) (own := RX1) rfl (by decide) rfl (wC_ok cI cZ ad) (Nat.le_of_ble_eq_true rfl) (fun p e s m args below meth c A C => ?_)
  refine V_ls (ls' := [(0, .ref (ad 0)), (1, .int a1), (2, .ref (ad 9))]) rfl ?_
  refine V_aload_n C dX1_readsOneOf_0 rfl 0 rfl ?_
  refine V_get (Cn := RX1) (T := TX1) (N := 12) C hinX1_readsOneOf_X1 0 rfl rfl 1 (by decide) hfX1_readsOneOf_13 rfl rfl dX1_readsOneOf_1 ?_
  refine V_iload_n C dX1_readsOneOf_4 rfl 1 rfl ?_
  refine Vm_iald C 2 0 rfl rfl hp0 dX1_readsOneOf_5 ?_
  refine V_aload_n C dX1_readsOneOf_6 rfl 2 rfl ?_
  refine V_cSi2 C xN_ok (kX1_isIn_v9 _ _) (va_cwS 2 C.2.2.1 gX1_readsOneOf_X1_isIn rfl rfl rfl hdX1_isIn ⟨Nat.le_of_ble_eq_true rfl, Nat.le_of_ble_eq_true rfl⟩) (Nat.le_of_ble_eq_true rfl) ⟨(Nat.le_of_ble_eq_true rfl), (Nat.le_of_ble_eq_true rfl)⟩ dX1_readsOneOf_7 ?_
  refine V_join1 (J := 31) (T := (if (rX1_isIn_v9 u (mrd u 2 a1)) = 0 then (if (rX1_isIn_v9 u (mrd u 3 a1)) = 0 then 0 else 1) else 1)) (fun j31 hj31 => ?_) (fun J31 => ?_)
  ·
    subst hj31
    exact V_iret C rfl (by (repeat' split) <;> rfl) rfl rfl dX1_readsOneOf_31
  ·
    refine V_if_ne (tgt := 26) C dX1_readsOneOf_10 (by decide) (fun h10 => ?_) (fun h10 => ?_)
    ·
      refine V_iconst (v := 1) C dX1_readsOneOf_26 (by decide) ?_
      refine V_goto (tgt := 31) C dX1_readsOneOf_27 (by decide) ?_
      exact J31 _ ((if_neg h10).trans rfl)
    ·
      refine V_aload_n C dX1_readsOneOf_13 rfl 0 rfl ?_
      refine V_get (Cn := RX1) (T := TX1) (N := 12) C hinX1_readsOneOf_X1 0 rfl rfl 2 (by decide) hfX1_readsOneOf_16 rfl rfl dX1_readsOneOf_14 ?_
      refine V_iload_n C dX1_readsOneOf_17 rfl 1 rfl ?_
      refine Vm_iald C 3 0 rfl rfl hp0 dX1_readsOneOf_18 ?_
      refine V_aload_n C dX1_readsOneOf_19 rfl 2 rfl ?_
      refine V_cSi2 C xN_ok (kX1_isIn_v9 _ _) (va_cwS 2 C.2.2.1 gX1_readsOneOf_X1_isIn rfl rfl rfl hdX1_isIn ⟨Nat.le_of_ble_eq_true rfl, Nat.le_of_ble_eq_true rfl⟩) (Nat.le_of_ble_eq_true rfl) ⟨(Nat.le_of_ble_eq_true rfl), (Nat.le_of_ble_eq_true rfl)⟩ dX1_readsOneOf_20 ?_
      refine V_if_eq (tgt := 30) C dX1_readsOneOf_23 (by decide) (fun h23 => ?_) (fun h23 => ?_)
      ·
        refine V_iconst (v := 0) C dX1_readsOneOf_30 (by decide) ?_
        exact J31 _ ((if_pos h10).trans ((if_pos h23).trans rfl))
      ·
        refine V_iconst (v := 1) C dX1_readsOneOf_26 (by decide) ?_
        refine V_goto (tgt := 31) C dX1_readsOneOf_27 (by decide) ?_
        exact J31 _ ((if_pos h10).trans ((if_neg h23).trans rfl))
set_option maxHeartbeats 4000000 in
theorem kX1_readsOneOf_v11 {l : Launch} {D : va_G} {cI cZ : ClassId} {ad : Nat → Nat} (u : vM) (a1 : Int32) (hp0 : vp_in a1 24) : mI D vwCl (tyF cI cZ) xN (wC cI cZ ad) l yX1_readsOneOf wsX1_readsOneOf rmX1_readsOneOf [.ref (ad 0), .int a1, .ref (ad 11)] u (rX1_readsOneOf_v11 u a1) u := by
  refine mI_of (cc := cX1_readsOneOf) (maxL := 3) (ret := (some .boolean)) (own := RX1) rfl (by decide) rfl (wC_ok cI cZ ad) (Nat.le_of_ble_eq_true rfl) (fun p e s m args below meth c A C => ?_)
  refine V_ls (ls' := [(0, .ref (ad 0)), (1, .int a1), (2, .ref (ad 11))]) rfl ?_
  refine V_aload_n C dX1_readsOneOf_0 rfl 0 rfl ?_
  refine V_get (Cn := RX1) (T := TX1) (N := 12) C hinX1_readsOneOf_X1 0 rfl rfl 1 (by decide) hfX1_readsOneOf_13 rfl rfl dX1_readsOneOf_1 ?_
  refine V_iload_n C dX1_readsOneOf_4 rfl 1 rfl ?_
  refine Vm_iald C 2 0 rfl rfl hp0 dX1_readsOneOf_5 ?_
  refine V_aload_n C dX1_readsOneOf_6 rfl 2 rfl ?_
  refine V_cSi2 C xN_ok (kX1_isIn_v11 _ _) (va_cwS 2 C.2.2.1 gX1_readsOneOf_X1_isIn rfl rfl rfl hdX1_isIn ⟨Nat.le_of_ble_eq_true rfl, Nat.le_of_ble_eq_true rfl⟩) (Nat.le_of_ble_eq_true rfl) ⟨(Nat.le_of_ble_eq_true rfl), (Nat.le_of_ble_eq_true rfl)⟩ dX1_readsOneOf_7 ?_
  refine V_join1 (J := 31) (T := (if (rX1_isIn_v11 u (mrd u 2 a1)) = 0 then (if (rX1_isIn_v11 u (mrd u 3 a1)) = 0 then 0 else 1) else 1)) (fun j31 hj31 => ?_) (fun J31 => ?_)
  ·
    subst hj31
    exact V_iret C rfl (by (repeat' split) <;> rfl) rfl rfl dX1_readsOneOf_31
  ·
    refine V_if_ne (tgt := 26) C dX1_readsOneOf_10 (by decide) (fun h10 => ?_) (fun h10 => ?_)
    ·
      refine V_iconst (v := 1) C dX1_readsOneOf_26 (by decide) ?_
      refine V_goto (tgt := 31) C dX1_readsOneOf_27 (by decide) ?_
      exact J31 _ ((if_neg h10).trans rfl)
    ·
      refine V_aload_n C dX1_readsOneOf_13 rfl 0 rfl ?_
      refine V_get (Cn := RX1) (T := TX1) (N := 12) C hinX1_readsOneOf_X1 0 rfl rfl 2 (by decide) hfX1_readsOneOf_16 rfl rfl dX1_readsOneOf_14 ?_
      refine V_iload_n C dX1_readsOneOf_17 rfl 1 rfl ?_
      refine Vm_iald C 3 0 rfl rfl hp0 dX1_readsOneOf_18 ?_
      refine V_aload_n C dX1_readsOneOf_19 rfl 2 rfl ?_
      refine V_cSi2 C xN_ok (kX1_isIn_v11 _ _) (va_cwS 2 C.2.2.1 gX1_readsOneOf_X1_isIn rfl rfl rfl hdX1_isIn ⟨Nat.le_of_ble_eq_true rfl, Nat.le_of_ble_eq_true rfl⟩) (Nat.le_of_ble_eq_true rfl) ⟨(Nat.le_of_ble_eq_true rfl), (Nat.le_of_ble_eq_true rfl)⟩ dX1_readsOneOf_20 ?_
      refine V_if_eq (tgt := 30) C dX1_readsOneOf_23 (by decide) (fun h23 => ?_) (fun h23 => ?_)
      ·
        refine V_iconst (v := 0) C dX1_readsOneOf_30 (by decide) ?_
        exact J31 _ ((if_pos h10).trans ((if_pos h23).trans rfl))
      ·
        refine V_iconst (v := 1) C dX1_readsOneOf_26 (by decide) ?_
        refine V_goto (tgt := 31) C dX1_readsOneOf_27 (by decide) ?_
        exact J31 _ ((if_pos h10).trans ((if_neg h23).trans rfl))
theorem hdX1_goThrough : yX1_goThrough.cls ≠ "java/lang/invoke/MethodHandle" ∧ yX1_goThrough.cls ≠ "java/lang/invoke/VarHandle" ∧ (parseMethodDescriptor yX1_goThrough.desc).map (fun d => d.parameters.length) = some 2 := by decide +kernel
theorem hvX1_goThrough : yX1_goThrough.cls = RX1 ∧ yX1_goThrough.cls ≠ "java/lang/invoke/MethodHandle" ∧ yX1_goThrough.cls ≠ "java/lang/invoke/VarHandle" ∧ (parseMethodDescriptor yX1_goThrough.desc).map (fun d => d.parameters.length) = some 2 := by decide +kernel
theorem hinX1_goThrough_X1 : ∀ w ∈ u_ws RX1 TX1 12, w ∈ wsX1_goThrough := by decide +kernel
theorem hfX1_goThrough_29 : Cond.fieldLink RX1 29 "MeteredSheets" "order" "[I" ∈ wsX1_goThrough := by decide +kernel
theorem hfX1_goThrough_39 : Cond.fieldLink RX1 39 "MeteredSheets" "changed" "[Z" ∈ wsX1_goThrough := by decide +kernel
theorem hfX1_goThrough_25 : Cond.fieldLink RX1 25 "MeteredSheets" "marked" "[Z" ∈ wsX1_goThrough := by decide +kernel
set_option maxHeartbeats 4000000 in
theorem qX1_goThrough_5 (C : vC p s m args meth c D vwCl (tyF cI cZ) xN A (wC cI cZ ad) cX1_goThrough RX1 wsX1_goThrough 6 (some .int)) {Q : State → Prop} (a1 : Int32) (a2 : Int32) (hp0 : vp_in a1 5) : ∀ (n k : Nat), k + n = 24 → ∀ (u : vM) (x3 : Int32), kc u → (∀ r : vM × Int32, lpX1_goThrough_5 a1 a2 n k u x3 = r → kc r.1 → V p l e rmX1_goThrough s m args below meth c D vwCl A (wC cI cZ ad) 6 0 0 Q r.1 72 [(0, .ref (ad 0)), (1, .int a1), (2, .int a2), (3, .int r.2), (4, .int (nI 24))] []) → V p l e rmX1_goThrough s m args below meth c D vwCl A (wC cI cZ ad) 6 0 0 Q u 5 [(0, .ref (ad 0)), (1, .int a1), (2, .int a2), (3, .int x3), (4, .int (nI k))] [] := by
  intro n
  induction n with
  | zero =>
    intro k hk u x3 hi0 KK
    obtain rfl : k = 24 := by omega
    refine V_iload C dX1_goThrough_5 4 rfl ?_
    refine V_bipush (v := 24) C dX1_goThrough_7 (by decide) ?_
    refine V_icmp_ge (tgt := 72) C dX1_goThrough_9 (by decide) (fun _ => ?_) (fun h => absurd (by decide : (24 : Int32) ≤ nI 24) h)
    exact KK _ rfl hi0
  | succ n ih =>
    intro k hk u x3 hi0 KK
    have hkB : k < 24 := by omega
    refine V_iload C dX1_goThrough_5 4 rfl ?_
    refine V_bipush (v := 24) C dX1_goThrough_7 (by decide) ?_
    refine V_icmp_ge (tgt := 72) C dX1_goThrough_9 (by decide) (fun h => absurd h (nI_ge hkB (by decide))) (fun _ => ?_)
    refine V_aload_n C dX1_goThrough_12 rfl 0 rfl ?_
    refine V_get (Cn := RX1) (T := TX1) (N := 12) C hinX1_goThrough_X1 0 rfl rfl 6 (by decide) hfX1_goThrough_29 rfl rfl dX1_goThrough_13 ?_
    refine V_iload C dX1_goThrough_16 4 rfl ?_
    refine Vm_iald C 7 0 rfl rfl (vp_in_nI hkB (by decide)) dX1_goThrough_18 ?_
    refine V_top (fun y19 hy19 => ?_)
    refine V_istore (ls' := [(0, .ref (ad 0)), (1, .int a1), (2, .int a2), (3, .int x3), (4, .int (nI k)), (5, .int y19)]) C dX1_goThrough_19 (by decide) rfl rfl ?_
    refine V_iload C dX1_goThrough_21 5 rfl ?_
    refine V_cSi1 C xN_ok (kX1_isCell _ _) (va_cwS 1 C.2.2.1 gX1_goThrough_X1_isCell rfl rfl rfl hdX1_isCell ⟨Nat.le_of_ble_eq_true rfl, Nat.le_of_ble_eq_true rfl⟩) (Nat.le_of_ble_eq_true rfl) ⟨(Nat.le_of_ble_eq_true rfl), (Nat.le_of_ble_eq_true rfl)⟩ dX1_goThrough_23 ?_
    refine V_if_eq (tgt := 66) C dX1_goThrough_26 (by decide) (fun h26 => ?_) (fun h26 => ?_)
    ·
      refine V_iinc (v := (nI (k + 1))) (ls' := [(0, .ref (ad 0)), (1, .int a1), (2, .int a2), (3, .int x3), (4, .int (nI (k + 1))), (5, .int y19)]) C dX1_goThrough_66 4 rfl (nI_1 k) (by decide) rfl rfl ?_
      refine V_goto (tgt := 5) C dX1_goThrough_69 (by decide) ?_
      subst hy19
      refine V_sub (ls' := _) [0, 1, 2, 3, 4] rfl ?_
      exact ih (k + 1) (by omega) _ _ hi0 (fun r hr => KK r (((if_pos h26).trans rfl).trans hr))
    ·
      refine V_aload_n C dX1_goThrough_29 rfl 0 rfl ?_
      refine V_iload C dX1_goThrough_30 5 rfl ?_
      refine V_aload_n C dX1_goThrough_32 rfl 0 rfl ?_
      refine V_get (Cn := RX1) (T := TX1) (N := 12) C hinX1_goThrough_X1 0 rfl rfl 8 (by decide) hfX1_goThrough_39 rfl rfl dX1_goThrough_33 ?_
      refine V_cVi2 C xN_ok (kX1_readsOneOf_v9 _ _ (vqX1_isCell h26)) (cwV 2 C.2.2.1 gX1_goThrough_X1_readsOneOf rfl rfl rfl hvX1_readsOneOf ⟨Nat.le_of_ble_eq_true rfl, Nat.le_of_ble_eq_true rfl⟩) 0 rfl rfl (Nat.le_of_ble_eq_true rfl) ⟨(Nat.le_of_ble_eq_true rfl), (Nat.le_of_ble_eq_true rfl)⟩ dX1_goThrough_36 ?_
      refine V_if_ne (tgt := 56) C dX1_goThrough_39 (by decide) (fun h39 => ?_) (fun h39 => ?_)
      ·
        refine V_aload_n C dX1_goThrough_56 rfl 0 rfl ?_
        refine V_iload_n C dX1_goThrough_57 rfl 1 rfl ?_
        refine V_iload C dX1_goThrough_58 5 rfl ?_
        refine V_cVv2 C xN_ok (kX1_compute _ _ _ hp0 (vqX1_isCell h26) hi0) (cwV 2 C.2.2.1 gX1_goThrough_X1_compute rfl rfl rfl hvX1_compute ⟨Nat.le_of_ble_eq_true rfl, Nat.le_of_ble_eq_true rfl⟩) 0 rfl rfl (Nat.le_of_ble_eq_true rfl) ⟨(Nat.le_of_ble_eq_true rfl), (Nat.le_of_ble_eq_true rfl)⟩ dX1_goThrough_60 ?_
        refine V_u (fun u60 hu60 => ?_)
        have hkc60 : kc u60 := by rw [← hu60]; exact kc_X1_compute hi0
        refine V_iinc (v := (x3 + 1)) (ls' := [(0, .ref (ad 0)), (1, .int a1), (2, .int a2), (3, .int (x3 + 1)), (4, .int (nI k)), (5, .int y19)]) C dX1_goThrough_63 3 rfl rfl (by decide) rfl rfl ?_
        refine V_iinc (v := (nI (k + 1))) (ls' := [(0, .ref (ad 0)), (1, .int a1), (2, .int a2), (3, .int (x3 + 1)), (4, .int (nI (k + 1))), (5, .int y19)]) C dX1_goThrough_66 4 rfl (nI_1 k) (by decide) rfl rfl ?_
        refine V_goto (tgt := 5) C dX1_goThrough_69 (by decide) ?_
        subst hu60
        subst hy19
        refine V_sub (ls' := _) [0, 1, 2, 3, 4] rfl ?_
        exact ih (k + 1) (by omega) _ _ hkc60 (fun r hr => KK r (((if_neg h26).trans ((if_neg h39).trans rfl)).trans hr))
      ·
        refine V_iload_n C dX1_goThrough_42 rfl 2 rfl ?_
        refine V_if_eq (tgt := 66) C dX1_goThrough_43 (by decide) (fun h43 => ?_) (fun h43 => ?_)
        ·
          refine V_iinc (v := (nI (k + 1))) (ls' := [(0, .ref (ad 0)), (1, .int a1), (2, .int a2), (3, .int x3), (4, .int (nI (k + 1))), (5, .int y19)]) C dX1_goThrough_66 4 rfl (nI_1 k) (by decide) rfl rfl ?_
          refine V_goto (tgt := 5) C dX1_goThrough_69 (by decide) ?_
          subst hy19
          refine V_sub (ls' := _) [0, 1, 2, 3, 4] rfl ?_
          exact ih (k + 1) (by omega) _ _ hi0 (fun r hr => KK r (((if_neg h26).trans ((if_pos h39).trans ((if_pos h43).trans rfl))).trans hr))
        ·
          refine V_aload_n C dX1_goThrough_46 rfl 0 rfl ?_
          refine V_get (Cn := RX1) (T := TX1) (N := 12) C hinX1_goThrough_X1 0 rfl rfl 5 (by decide) hfX1_goThrough_25 rfl rfl dX1_goThrough_47 ?_
          refine V_iload C dX1_goThrough_50 5 rfl ?_
          refine Vm_zald C 6 1 rfl rfl (vqX1_isCell h26) dX1_goThrough_52 ?_
          refine V_if_eq (tgt := 66) C dX1_goThrough_53 (by decide) (fun h53 => ?_) (fun h53 => ?_)
          ·
            refine V_iinc (v := (nI (k + 1))) (ls' := [(0, .ref (ad 0)), (1, .int a1), (2, .int a2), (3, .int x3), (4, .int (nI (k + 1))), (5, .int y19)]) C dX1_goThrough_66 4 rfl (nI_1 k) (by decide) rfl rfl ?_
            refine V_goto (tgt := 5) C dX1_goThrough_69 (by decide) ?_
            subst hy19
            refine V_sub (ls' := _) [0, 1, 2, 3, 4] rfl ?_
            exact ih (k + 1) (by omega) _ _ hi0 (fun r hr => KK r (((if_neg h26).trans ((if_pos h39).trans ((if_neg h43).trans ((if_pos h53).trans rfl)))).trans hr))
          ·
            refine V_aload_n C dX1_goThrough_56 rfl 0 rfl ?_
            refine V_iload_n C dX1_goThrough_57 rfl 1 rfl ?_
            refine V_iload C dX1_goThrough_58 5 rfl ?_
            refine V_cVv2 C xN_ok (kX1_compute _ _ _ hp0 (vqX1_isCell h26) hi0) (cwV 2 C.2.2.1 gX1_goThrough_X1_compute rfl rfl rfl hvX1_compute ⟨Nat.le_of_ble_eq_true rfl, Nat.le_of_ble_eq_true rfl⟩) 0 rfl rfl (Nat.le_of_ble_eq_true rfl) ⟨(Nat.le_of_ble_eq_true rfl), (Nat.le_of_ble_eq_true rfl)⟩ dX1_goThrough_60 ?_
            refine V_u (fun u60 hu60 => ?_)
            have hkc60 : kc u60 := by rw [← hu60]; exact kc_X1_compute hi0
            refine V_iinc (v := (x3 + 1)) (ls' := [(0, .ref (ad 0)), (1, .int a1), (2, .int a2), (3, .int (x3 + 1)), (4, .int (nI k)), (5, .int y19)]) C dX1_goThrough_63 3 rfl rfl (by decide) rfl rfl ?_
            refine V_iinc (v := (nI (k + 1))) (ls' := [(0, .ref (ad 0)), (1, .int a1), (2, .int a2), (3, .int (x3 + 1)), (4, .int (nI (k + 1))), (5, .int y19)]) C dX1_goThrough_66 4 rfl (nI_1 k) (by decide) rfl rfl ?_
            refine V_goto (tgt := 5) C dX1_goThrough_69 (by decide) ?_
            subst hu60
            subst hy19
            refine V_sub (ls' := _) [0, 1, 2, 3, 4] rfl ?_
            exact ih (k + 1) (by omega) _ _ hkc60 (fun r hr => KK r (((if_neg h26).trans ((if_pos h39).trans ((if_neg h43).trans ((if_neg h53).trans rfl)))).trans hr))
set_option maxHeartbeats 4000000 in
theorem kX1_goThrough {l : Launch} {D : va_G} {cI cZ : ClassId} {ad : Nat → Nat} (u : vM) (a1 : Int32) (a2 : Int32) (hp0 : vp_in a1 5) (hp1 : kc u) : mI D vwCl (tyF cI cZ) xN (wC cI cZ ad) l yX1_goThrough wsX1_goThrough rmX1_goThrough [.ref (ad 0), .int a1, .int a2] u (rX1_goThrough u a1 a2) (uX1_goThrough u a1 a2) := by
  refine mI_of (cc := cX1_goThrough) (maxL := 6) (ret := (some .int)) (own := RX1) rfl (by decide) rfl (wC_ok cI cZ ad) (Nat.le_of_ble_eq_true rfl) (fun p e s m args below meth c A C => ?_)
  refine V_ls (ls' := [(0, .ref (ad 0)), (1, .int a1), (2, .int a2)]) rfl ?_
  refine V_iconst (v := 0) C dX1_goThrough_0 (by decide) ?_
  refine V_istore_n (ls' := [(0, .ref (ad 0)), (1, .int a1), (2, .int a2), (3, .int 0)]) C dX1_goThrough_1 rfl (by decide) rfl rfl ?_
  refine V_iconst (v := 0) C dX1_goThrough_2 (by decide) ?_
  refine V_istore (ls' := [(0, .ref (ad 0)), (1, .int a1), (2, .int a2), (3, .int 0), (4, .int 0)]) C dX1_goThrough_3 (by decide) rfl rfl ?_
  refine V_sub (ls' := [(0, .ref (ad 0)), (1, .int a1), (2, .int a2), (3, .int 0), (4, .int 0)]) [0, 1, 2, 3, 4] rfl ?_
  refine qX1_goThrough_5 C a1 a2 hp0 24 0 (by decide) u 0 hp1 (fun r5 hr5 hi0_5 => ?_)
  refine V_iload_n C dX1_goThrough_72 rfl 3 rfl ?_
  subst hr5
  exact V_iret C rfl (vp_nar_int _) rfl rfl dX1_goThrough_73
theorem hdX1_giveFormula : yX1_giveFormula.cls ≠ "java/lang/invoke/MethodHandle" ∧ yX1_giveFormula.cls ≠ "java/lang/invoke/VarHandle" ∧ (parseMethodDescriptor yX1_giveFormula.desc).map (fun d => d.parameters.length) = some 6 := by decide +kernel
theorem hvX1_giveFormula : yX1_giveFormula.cls = RX1 ∧ yX1_giveFormula.cls ≠ "java/lang/invoke/MethodHandle" ∧ yX1_giveFormula.cls ≠ "java/lang/invoke/VarHandle" ∧ (parseMethodDescriptor yX1_giveFormula.desc).map (fun d => d.parameters.length) = some 6 := by decide +kernel
theorem hinX1_giveFormula_X1 : ∀ w ∈ u_ws RX1 TX1 12, w ∈ wsX1_giveFormula := by decide +kernel
theorem hfX1_giveFormula_9 : Cond.fieldLink RX1 9 "MeteredSheets" "kinds" "[I" ∈ wsX1_giveFormula := by decide +kernel
theorem hfX1_giveFormula_13 : Cond.fieldLink RX1 13 "MeteredSheets" "ones" "[I" ∈ wsX1_giveFormula := by decide +kernel
theorem hfX1_giveFormula_16 : Cond.fieldLink RX1 16 "MeteredSheets" "others" "[I" ∈ wsX1_giveFormula := by decide +kernel
theorem hfX1_giveFormula_19 : Cond.fieldLink RX1 19 "MeteredSheets" "numbers" "[I" ∈ wsX1_giveFormula := by decide +kernel
set_option maxHeartbeats 4000000 in
theorem kX1_giveFormula {l : Launch} {D : va_G} {cI cZ : ClassId} {ad : Nat → Nat} (u : vM) (a1 : Int32) (a2 : Int32) (a3 : Int32) (a4 : Int32) (a5 : Int32) (a6 : Int32) (hp0 : vp_in a1 5) (hp1 : vp_in a2 24) (hp2 : kc u) : mI D vwCl (tyF cI cZ) xN (wC cI cZ ad) l yX1_giveFormula wsX1_giveFormula rmX1_giveFormula [.ref (ad 0), .int a1, .int a2, .int a3, .int a4, .int a5, .int a6] u (rX1_giveFormula u a1 a2 a3 a4 a5 a6) (uX1_giveFormula u a1 a2 a3 a4 a5 a6) := by
  refine mI_of (cc := cX1_giveFormula) (maxL := 7) (ret := (some .int)) (own := RX1) rfl (by decide) rfl (wC_ok cI cZ ad) (Nat.le_of_ble_eq_true rfl) (fun p e s m args below meth c A C => ?_)
  refine V_ls (ls' := [(0, .ref (ad 0)), (1, .int a1), (2, .int a2), (3, .int a3), (4, .int a4), (5, .int a5), (6, .int a6)]) rfl ?_
  refine V_aload_n C dX1_giveFormula_0 rfl 0 rfl ?_
  refine V_get (Cn := RX1) (T := TX1) (N := 12) C hinX1_giveFormula_X1 0 rfl rfl 0 (by decide) hfX1_giveFormula_9 rfl rfl dX1_giveFormula_1 ?_
  refine V_iload_n C dX1_giveFormula_4 rfl 2 rfl ?_
  refine V_iload_n C dX1_giveFormula_5 rfl 3 rfl ?_
  refine Vm_iast C 1 0 rfl rfl hp1 wC_s1 dX1_giveFormula_6 ?_
  refine V_u (fun u6 hu6 => ?_)
  have hkc6 : kc u6 := by rw [← hu6]; exact hp2
  refine V_aload_n C dX1_giveFormula_7 rfl 0 rfl ?_
  refine V_get (Cn := RX1) (T := TX1) (N := 12) C hinX1_giveFormula_X1 0 rfl rfl 1 (by decide) hfX1_giveFormula_13 rfl rfl dX1_giveFormula_8 ?_
  refine V_iload_n C dX1_giveFormula_11 rfl 2 rfl ?_
  refine V_iload C dX1_giveFormula_12 4 rfl ?_
  refine Vm_iast C 2 0 rfl rfl hp1 wC_s2 dX1_giveFormula_14 ?_
  refine V_u (fun u14 hu14 => ?_)
  have hkc14 : kc u14 := by rw [← hu14]; exact hkc6
  refine V_aload_n C dX1_giveFormula_15 rfl 0 rfl ?_
  refine V_get (Cn := RX1) (T := TX1) (N := 12) C hinX1_giveFormula_X1 0 rfl rfl 2 (by decide) hfX1_giveFormula_16 rfl rfl dX1_giveFormula_16 ?_
  refine V_iload_n C dX1_giveFormula_19 rfl 2 rfl ?_
  refine V_iload C dX1_giveFormula_20 5 rfl ?_
  refine Vm_iast C 3 0 rfl rfl hp1 wC_s3 dX1_giveFormula_22 ?_
  refine V_u (fun u22 hu22 => ?_)
  have hkc22 : kc u22 := by rw [← hu22]; exact hkc14
  refine V_aload_n C dX1_giveFormula_23 rfl 0 rfl ?_
  refine V_get (Cn := RX1) (T := TX1) (N := 12) C hinX1_giveFormula_X1 0 rfl rfl 3 (by decide) hfX1_giveFormula_19 rfl rfl dX1_giveFormula_24 ?_
  refine V_iload_n C dX1_giveFormula_27 rfl 2 rfl ?_
  refine V_iload C dX1_giveFormula_28 6 rfl ?_
  refine Vm_iast C 4 0 rfl rfl hp1 wC_s4 dX1_giveFormula_30 ?_
  refine V_u (fun u30 hu30 => ?_)
  have hkc30 : kc u30 := by rw [← hu30]; exact hkc22
  refine V_aload_n C dX1_giveFormula_31 rfl 0 rfl ?_
  refine V_cVv0 C xN_ok (kX1_putInOrder _) (cwV 0 C.2.2.1 gX1_giveFormula_X1_putInOrder rfl rfl rfl hvX1_putInOrder ⟨Nat.le_of_ble_eq_true rfl, Nat.le_of_ble_eq_true rfl⟩) 0 rfl rfl (Nat.le_of_ble_eq_true rfl) ⟨(Nat.le_of_ble_eq_true rfl), (Nat.le_of_ble_eq_true rfl)⟩ dX1_giveFormula_32 ?_
  refine V_u (fun u32 hu32 => ?_)
  have hkc32 : kc u32 := by rw [← hu32]; exact kc_congr (fr_uX1_putInOrder (by decide) (by decide)) hkc30
  refine V_aload_n C dX1_giveFormula_35 rfl 0 rfl ?_
  refine V_cVv0 C xN_ok (kX1_forgetChanges _) (cwV 0 C.2.2.1 gX1_giveFormula_X1_forgetChanges rfl rfl rfl hvX1_forgetChanges ⟨Nat.le_of_ble_eq_true rfl, Nat.le_of_ble_eq_true rfl⟩) 0 rfl rfl (Nat.le_of_ble_eq_true rfl) ⟨(Nat.le_of_ble_eq_true rfl), (Nat.le_of_ble_eq_true rfl)⟩ dX1_giveFormula_36 ?_
  refine V_u (fun u36 hu36 => ?_)
  have hkc36 : kc u36 := by rw [← hu36]; exact kc_congr (fr_uX1_forgetChanges (by decide)) hkc32
  refine V_aload_n C dX1_giveFormula_39 rfl 0 rfl ?_
  refine V_iload_n C dX1_giveFormula_40 rfl 1 rfl ?_
  refine V_iload_n C dX1_giveFormula_41 rfl 2 rfl ?_
  refine V_cVv2 C xN_ok (kX1_compute _ _ _ hp0 hp1 hkc36) (cwV 2 C.2.2.1 gX1_giveFormula_X1_compute rfl rfl rfl hvX1_compute ⟨Nat.le_of_ble_eq_true rfl, Nat.le_of_ble_eq_true rfl⟩) 0 rfl rfl (Nat.le_of_ble_eq_true rfl) ⟨(Nat.le_of_ble_eq_true rfl), (Nat.le_of_ble_eq_true rfl)⟩ dX1_giveFormula_42 ?_
  refine V_u (fun u42 hu42 => ?_)
  have hkc42 : kc u42 := by rw [← hu42]; exact kc_X1_compute hkc36
  refine V_iconst (v := 1) C dX1_giveFormula_45 (by decide) ?_
  refine V_aload_n C dX1_giveFormula_46 rfl 0 rfl ?_
  refine V_iload_n C dX1_giveFormula_47 rfl 1 rfl ?_
  refine V_iconst (v := 0) C dX1_giveFormula_48 (by decide) ?_
  refine V_cVi2 C xN_ok (kX1_goThrough _ _ _ hp0 hkc42) (cwV 2 C.2.2.1 gX1_giveFormula_X1_goThrough rfl rfl rfl hvX1_goThrough ⟨Nat.le_of_ble_eq_true rfl, Nat.le_of_ble_eq_true rfl⟩) 0 rfl rfl (Nat.le_of_ble_eq_true rfl) ⟨(Nat.le_of_ble_eq_true rfl), (Nat.le_of_ble_eq_true rfl)⟩ dX1_giveFormula_49 ?_
  refine V_u (fun u49 hu49 => ?_)
  refine V_iadd C dX1_giveFormula_52 ?_
  subst hu49
  subst hu42
  subst hu36
  subst hu32
  subst hu30
  subst hu22
  subst hu14
  subst hu6
  exact V_iret C rfl (vp_nar_int _) rfl rfl dX1_giveFormula_53
theorem hdX1_setNumber : yX1_setNumber.cls ≠ "java/lang/invoke/MethodHandle" ∧ yX1_setNumber.cls ≠ "java/lang/invoke/VarHandle" ∧ (parseMethodDescriptor yX1_setNumber.desc).map (fun d => d.parameters.length) = some 3 := by decide +kernel
theorem hvX1_setNumber : yX1_setNumber.cls = RX1 ∧ yX1_setNumber.cls ≠ "java/lang/invoke/MethodHandle" ∧ yX1_setNumber.cls ≠ "java/lang/invoke/VarHandle" ∧ (parseMethodDescriptor yX1_setNumber.desc).map (fun d => d.parameters.length) = some 3 := by decide +kernel
theorem hkX1_setNumber_58 : Cond.constant RX1 58 (1000000) ∈ wsX1_setNumber := by decide +kernel
set_option maxHeartbeats 4000000 in
theorem kX1_setNumber {l : Launch} {D : va_G} {cI cZ : ClassId} {ad : Nat → Nat} (u : vM) (a1 : Int32) (a2 : Int32) (a3 : Int32) (hp0 : kc u) (hp1 : xX1_setNumber u a1 a2 a3 = 0) : mI D vwCl (tyF cI cZ) xN (wC cI cZ ad) l yX1_setNumber wsX1_setNumber rmX1_setNumber [.ref (ad 0), .int a1, .int a2, .int a3] u (rX1_setNumber u a1 a2 a3) (uX1_setNumber u a1 a2 a3) := by
  refine mI_of (cc := cX1_setNumber) (maxL := 4) (ret := (some .int)) (own := RX1) rfl (by decide) rfl (wC_ok cI cZ ad) (Nat.le_of_ble_eq_true rfl) (fun p e s m args below meth c A C => ?_)
  refine V_ls (ls' := [(0, .ref (ad 0)), (1, .int a1), (2, .int a2), (3, .int a3)]) rfl ?_
  refine V_iload_n C dX1_setNumber_0 rfl 1 rfl ?_
  refine V_cSi1 C xN_ok (kX1_isUser _ _) (va_cwS 1 C.2.2.1 gX1_setNumber_X1_isUser rfl rfl rfl hdX1_isUser ⟨Nat.le_of_ble_eq_true rfl, Nat.le_of_ble_eq_true rfl⟩) (Nat.le_of_ble_eq_true rfl) ⟨(Nat.le_of_ble_eq_true rfl), (Nat.le_of_ble_eq_true rfl)⟩ dX1_setNumber_1 ?_
  refine V_if_eq (tgt := 23) C dX1_setNumber_4 (by decide) (fun h4 => ?_) (fun h4 => ?_)
  ·
    exact absurd (show (0 : Int32) = 1 from (hp1).symm.trans ((if_pos h4).trans rfl)) (by decide)
  ·
    refine V_iload_n C dX1_setNumber_7 rfl 2 rfl ?_
    refine V_cSi1 C xN_ok (kX1_isCell _ _) (va_cwS 1 C.2.2.1 gX1_setNumber_X1_isCell rfl rfl rfl hdX1_isCell ⟨Nat.le_of_ble_eq_true rfl, Nat.le_of_ble_eq_true rfl⟩) (Nat.le_of_ble_eq_true rfl) ⟨(Nat.le_of_ble_eq_true rfl), (Nat.le_of_ble_eq_true rfl)⟩ dX1_setNumber_8 ?_
    refine V_if_eq (tgt := 23) C dX1_setNumber_11 (by decide) (fun h11 => ?_) (fun h11 => ?_)
    ·
      exact absurd (show (0 : Int32) = 1 from (hp1).symm.trans ((if_neg h4).trans ((if_pos h11).trans rfl))) (by decide)
    ·
      refine V_iload_n C dX1_setNumber_14 rfl 3 rfl ?_
      refine V_ldc (v := 1000000) C hkX1_setNumber_58 dX1_setNumber_15 ?_
      refine V_cSi2 C xN_ok (kX1_isWithin _ _ _) (va_cwS 2 C.2.2.1 gX1_setNumber_X1_isWithin rfl rfl rfl hdX1_isWithin ⟨Nat.le_of_ble_eq_true rfl, Nat.le_of_ble_eq_true rfl⟩) (Nat.le_of_ble_eq_true rfl) ⟨(Nat.le_of_ble_eq_true rfl), (Nat.le_of_ble_eq_true rfl)⟩ dX1_setNumber_17 ?_
      refine V_if_ne (tgt := 33) C dX1_setNumber_20 (by decide) (fun h20 => ?_) (fun h20 => ?_)
      ·
        refine V_aload_n C dX1_setNumber_33 rfl 0 rfl ?_
        refine V_iload_n C dX1_setNumber_34 rfl 1 rfl ?_
        refine V_iload_n C dX1_setNumber_35 rfl 2 rfl ?_
        refine V_iconst (v := 0) C dX1_setNumber_36 (by decide) ?_
        refine V_iconst (v := (-1)) C dX1_setNumber_37 (by decide) ?_
        refine V_iconst (v := (-1)) C dX1_setNumber_38 (by decide) ?_
        refine V_iload_n C dX1_setNumber_39 rfl 3 rfl ?_
        refine V_cVi6 C xN_ok (kX1_giveFormula _ _ _ _ _ _ _ (vqX1_isUser h4) (vqX1_isCell h11) hp0) (cwV 6 C.2.2.1 gX1_setNumber_X1_giveFormula rfl rfl rfl hvX1_giveFormula ⟨Nat.le_of_ble_eq_true rfl, Nat.le_of_ble_eq_true rfl⟩) 0 rfl rfl (Nat.le_of_ble_eq_true rfl) ⟨(Nat.le_of_ble_eq_true rfl), (Nat.le_of_ble_eq_true rfl)⟩ dX1_setNumber_40 ?_
        refine V_u (fun u40 hu40 => ?_)
        subst hu40
        exact V_iret C rfl (vp_nar_int _) ((if_neg h4).trans ((if_neg h11).trans ((if_neg h20).trans rfl))) ((if_neg h4).trans ((if_neg h11).trans ((if_neg h20).trans rfl))) dX1_setNumber_43
      ·
        exact absurd (show (0 : Int32) = 1 from (hp1).symm.trans ((if_neg h4).trans ((if_neg h11).trans ((if_pos h20).trans rfl)))) (by decide)
theorem hdX1_wouldReadItself : yX1_wouldReadItself.cls ≠ "java/lang/invoke/MethodHandle" ∧ yX1_wouldReadItself.cls ≠ "java/lang/invoke/VarHandle" ∧ (parseMethodDescriptor yX1_wouldReadItself.desc).map (fun d => d.parameters.length) = some 3 := by decide +kernel
theorem hvX1_wouldReadItself : yX1_wouldReadItself.cls = RX1 ∧ yX1_wouldReadItself.cls ≠ "java/lang/invoke/MethodHandle" ∧ yX1_wouldReadItself.cls ≠ "java/lang/invoke/VarHandle" ∧ (parseMethodDescriptor yX1_wouldReadItself.desc).map (fun d => d.parameters.length) = some 3 := by decide +kernel
theorem hinX1_wouldReadItself_X1 : ∀ w ∈ u_ws RX1 TX1 12, w ∈ wsX1_wouldReadItself := by decide +kernel
theorem hfX1_wouldReadItself_45 : Cond.fieldLink RX1 45 "MeteredSheets" "reaching" "[Z" ∈ wsX1_wouldReadItself := by decide +kernel
theorem hfX1_wouldReadItself_29 : Cond.fieldLink RX1 29 "MeteredSheets" "order" "[I" ∈ wsX1_wouldReadItself := by decide +kernel
set_option maxHeartbeats 4000000 in
theorem qX1_wouldReadItself_3 (C : vC p s m args meth c D vwCl (tyF cI cZ) xN A (wC cI cZ ad) cX1_wouldReadItself RX1 wsX1_wouldReadItself 6 (some .boolean)) {Q : State → Prop} (a1 : Int32) (a2 : Int32) (a3 : Int32) : ∀ (n k : Nat), k + n = 24 → ∀ (u : vM), (∀ r : vM, lpX1_wouldReadItself_3 a1 n k u = r → V p l e rmX1_wouldReadItself s m args below meth c D vwCl A (wC cI cZ ad) 6 0 0 Q r 34 [(0, .ref (ad 0)), (1, .int a1), (2, .int a2), (3, .int a3), (4, .int (nI 24))] []) → V p l e rmX1_wouldReadItself s m args below meth c D vwCl A (wC cI cZ ad) 6 0 0 Q u 3 [(0, .ref (ad 0)), (1, .int a1), (2, .int a2), (3, .int a3), (4, .int (nI k))] [] := by
  intro n
  induction n with
  | zero =>
    intro k hk u KK
    obtain rfl : k = 24 := by omega
    refine V_iload C dX1_wouldReadItself_3 4 rfl ?_
    refine V_bipush (v := 24) C dX1_wouldReadItself_5 (by decide) ?_
    refine V_icmp_ge (tgt := 34) C dX1_wouldReadItself_7 (by decide) (fun _ => ?_) (fun h => absurd (by decide : (24 : Int32) ≤ nI 24) h)
    exact KK _ rfl
  | succ n ih =>
    intro k hk u KK
    have hkB : k < 24 := by omega
    refine V_iload C dX1_wouldReadItself_3 4 rfl ?_
    refine V_bipush (v := 24) C dX1_wouldReadItself_5 (by decide) ?_
    refine V_icmp_ge (tgt := 34) C dX1_wouldReadItself_7 (by decide) (fun h => absurd h (nI_ge hkB (by decide))) (fun _ => ?_)
    refine V_aload_n C dX1_wouldReadItself_10 rfl 0 rfl ?_
    refine V_get (Cn := RX1) (T := TX1) (N := 12) C hinX1_wouldReadItself_X1 0 rfl rfl 10 (by decide) hfX1_wouldReadItself_45 rfl rfl dX1_wouldReadItself_11 ?_
    refine V_iload C dX1_wouldReadItself_14 4 rfl ?_
    refine V_iload C dX1_wouldReadItself_16 4 rfl ?_
    refine V_iload_n C dX1_wouldReadItself_18 rfl 1 rfl ?_
    refine V_join2 (J := 27) (T := (if (nI k) = a1 then 1 else 0)) (fun j27 hj27 => ?_) (fun J27 => ?_)
    ·
      refine Vm_zast C 11 1 rfl rfl (vp_in_nI hkB (by decide)) (by rw [← hj27]; (repeat' split) <;> rfl) wC_s11 dX1_wouldReadItself_27 ?_
      refine V_u (fun u27 hu27 => ?_)
      refine V_iinc (v := (nI (k + 1))) (ls' := [(0, .ref (ad 0)), (1, .int a1), (2, .int a2), (3, .int a3), (4, .int (nI (k + 1)))]) C dX1_wouldReadItself_28 4 rfl (nI_1 k) (by decide) rfl rfl ?_
      refine V_goto (tgt := 3) C dX1_wouldReadItself_31 (by decide) ?_
      subst hu27
      subst hj27
      exact ih (k + 1) (by omega) _ (fun r hr => KK r (rfl.trans hr))
    ·
      refine V_icmp_ne (tgt := 26) C dX1_wouldReadItself_19 (by decide) (fun h19 => ?_) (fun h19 => ?_)
      ·
        refine V_iconst (v := 0) C dX1_wouldReadItself_26 (by decide) ?_
        exact J27 _ ((if_neg h19).trans rfl)
      ·
        refine V_iconst (v := 1) C dX1_wouldReadItself_22 (by decide) ?_
        refine V_goto (tgt := 27) C dX1_wouldReadItself_23 (by decide) ?_
        exact J27 _ ((if_pos h19).trans rfl)
set_option maxHeartbeats 4000000 in
theorem qX1_wouldReadItself_37 (C : vC p s m args meth c D vwCl (tyF cI cZ) xN A (wC cI cZ ad) cX1_wouldReadItself RX1 wsX1_wouldReadItself 6 (some .boolean)) {Q : State → Prop} (a2 : Int32) (a3 : Int32) : ∀ (n k : Nat), k + n = 24 → ∀ (u : vM), (∀ r : vM, lpX1_wouldReadItself_37 n k u = r → V p l e rmX1_wouldReadItself s m args below meth c D vwCl A (wC cI cZ ad) 6 0 0 Q r 88 [(0, .ref (ad 0)), (2, .int a2), (3, .int a3), (4, .int (nI 24))] []) → V p l e rmX1_wouldReadItself s m args below meth c D vwCl A (wC cI cZ ad) 6 0 0 Q u 37 [(0, .ref (ad 0)), (2, .int a2), (3, .int a3), (4, .int (nI k))] [] := by
  intro n
  induction n with
  | zero =>
    intro k hk u KK
    obtain rfl : k = 24 := by omega
    refine V_iload C dX1_wouldReadItself_37 3 rfl ?_
    refine V_bipush (v := 24) C dX1_wouldReadItself_39 (by decide) ?_
    refine V_icmp_ge (tgt := 88) C dX1_wouldReadItself_41 (by decide) (fun _ => ?_) (fun h => absurd (by decide : (24 : Int32) ≤ nI 24) h)
    exact KK _ rfl
  | succ n ih =>
    intro k hk u KK
    have hkB : k < 24 := by omega
    refine V_iload C dX1_wouldReadItself_37 3 rfl ?_
    refine V_bipush (v := 24) C dX1_wouldReadItself_39 (by decide) ?_
    refine V_icmp_ge (tgt := 88) C dX1_wouldReadItself_41 (by decide) (fun h => absurd h (nI_ge hkB (by decide))) (fun _ => ?_)
    refine V_aload_n C dX1_wouldReadItself_44 rfl 0 rfl ?_
    refine V_get (Cn := RX1) (T := TX1) (N := 12) C hinX1_wouldReadItself_X1 0 rfl rfl 6 (by decide) hfX1_wouldReadItself_29 rfl rfl dX1_wouldReadItself_45 ?_
    refine V_iload C dX1_wouldReadItself_48 3 rfl ?_
    refine Vm_iald C 7 0 rfl rfl (vp_in_nI hkB (by decide)) dX1_wouldReadItself_50 ?_
    refine V_top (fun y51 hy51 => ?_)
    refine V_istore (ls' := [(0, .ref (ad 0)), (2, .int a2), (3, .int a3), (4, .int (nI k)), (5, .int y51)]) C dX1_wouldReadItself_51 (by decide) rfl rfl ?_
    refine V_iload C dX1_wouldReadItself_53 4 rfl ?_
    refine V_cSi1 C xN_ok (kX1_isCell _ _) (va_cwS 1 C.2.2.1 gX1_wouldReadItself_X1_isCell rfl rfl rfl hdX1_isCell ⟨Nat.le_of_ble_eq_true rfl, Nat.le_of_ble_eq_true rfl⟩) (Nat.le_of_ble_eq_true rfl) ⟨(Nat.le_of_ble_eq_true rfl), (Nat.le_of_ble_eq_true rfl)⟩ dX1_wouldReadItself_55 ?_
    refine V_if_eq (tgt := 82) C dX1_wouldReadItself_58 (by decide) (fun h58 => ?_) (fun h58 => ?_)
    ·
      refine V_iinc (v := (nI (k + 1))) (ls' := [(0, .ref (ad 0)), (2, .int a2), (3, .int a3), (4, .int (nI (k + 1))), (5, .int y51)]) C dX1_wouldReadItself_82 3 rfl (nI_1 k) (by decide) rfl rfl ?_
      refine V_goto (tgt := 37) C dX1_wouldReadItself_85 (by decide) ?_
      subst hy51
      refine V_sub (ls' := _) [0, 1, 2, 3] rfl ?_
      exact ih (k + 1) (by omega) _ (fun r hr => KK r (((if_pos h58).trans rfl).trans hr))
    ·
      refine V_aload_n C dX1_wouldReadItself_61 rfl 0 rfl ?_
      refine V_iload C dX1_wouldReadItself_62 4 rfl ?_
      refine V_aload_n C dX1_wouldReadItself_64 rfl 0 rfl ?_
      refine V_get (Cn := RX1) (T := TX1) (N := 12) C hinX1_wouldReadItself_X1 0 rfl rfl 10 (by decide) hfX1_wouldReadItself_45 rfl rfl dX1_wouldReadItself_65 ?_
      refine V_cVi2 C xN_ok (kX1_readsOneOf_v11 _ _ (vqX1_isCell h58)) (cwV 2 C.2.2.1 gX1_wouldReadItself_X1_readsOneOf rfl rfl rfl hvX1_readsOneOf ⟨Nat.le_of_ble_eq_true rfl, Nat.le_of_ble_eq_true rfl⟩) 0 rfl rfl (Nat.le_of_ble_eq_true rfl) ⟨(Nat.le_of_ble_eq_true rfl), (Nat.le_of_ble_eq_true rfl)⟩ dX1_wouldReadItself_68 ?_
      refine V_if_eq (tgt := 82) C dX1_wouldReadItself_71 (by decide) (fun h71 => ?_) (fun h71 => ?_)
      ·
        refine V_iinc (v := (nI (k + 1))) (ls' := [(0, .ref (ad 0)), (2, .int a2), (3, .int a3), (4, .int (nI (k + 1))), (5, .int y51)]) C dX1_wouldReadItself_82 3 rfl (nI_1 k) (by decide) rfl rfl ?_
        refine V_goto (tgt := 37) C dX1_wouldReadItself_85 (by decide) ?_
        subst hy51
        refine V_sub (ls' := _) [0, 1, 2, 3] rfl ?_
        exact ih (k + 1) (by omega) _ (fun r hr => KK r (((if_neg h58).trans ((if_pos h71).trans rfl)).trans hr))
      ·
        refine V_aload_n C dX1_wouldReadItself_74 rfl 0 rfl ?_
        refine V_get (Cn := RX1) (T := TX1) (N := 12) C hinX1_wouldReadItself_X1 0 rfl rfl 10 (by decide) hfX1_wouldReadItself_45 rfl rfl dX1_wouldReadItself_75 ?_
        refine V_iload C dX1_wouldReadItself_78 4 rfl ?_
        refine V_iconst (v := 1) C dX1_wouldReadItself_80 (by decide) ?_
        refine Vm_zast C 11 1 rfl rfl (vqX1_isCell h58) rfl wC_s11 dX1_wouldReadItself_81 ?_
        refine V_u (fun u81 hu81 => ?_)
        refine V_iinc (v := (nI (k + 1))) (ls' := [(0, .ref (ad 0)), (2, .int a2), (3, .int a3), (4, .int (nI (k + 1))), (5, .int y51)]) C dX1_wouldReadItself_82 3 rfl (nI_1 k) (by decide) rfl rfl ?_
        refine V_goto (tgt := 37) C dX1_wouldReadItself_85 (by decide) ?_
        subst hu81
        subst hy51
        refine V_sub (ls' := _) [0, 1, 2, 3] rfl ?_
        exact ih (k + 1) (by omega) _ (fun r hr => KK r (((if_neg h58).trans ((if_neg h71).trans rfl)).trans hr))
set_option maxHeartbeats 4000000 in
theorem kX1_wouldReadItself {l : Launch} {D : va_G} {cI cZ : ClassId} {ad : Nat → Nat} (u : vM) (a1 : Int32) (a2 : Int32) (a3 : Int32) : mI D vwCl (tyF cI cZ) xN (wC cI cZ ad) l yX1_wouldReadItself wsX1_wouldReadItself rmX1_wouldReadItself [.ref (ad 0), .int a1, .int a2, .int a3] u (rX1_wouldReadItself u a1 a2 a3) (uX1_wouldReadItself u a1 a2 a3) := by
  refine mI_of (cc := cX1_wouldReadItself) (maxL := 6) (ret := (some .boolean)) (own := RX1) rfl (by decide) rfl (wC_ok cI cZ ad) (Nat.le_of_ble_eq_true rfl) (fun p e s m args below meth c A C => ?_)
  refine V_ls (ls' := [(0, .ref (ad 0)), (1, .int a1), (2, .int a2), (3, .int a3)]) rfl ?_
  refine V_iconst (v := 0) C dX1_wouldReadItself_0 (by decide) ?_
  refine V_istore (ls' := [(0, .ref (ad 0)), (1, .int a1), (2, .int a2), (3, .int a3), (4, .int 0)]) C dX1_wouldReadItself_1 (by decide) rfl rfl ?_
  refine V_sub (ls' := [(0, .ref (ad 0)), (1, .int a1), (2, .int a2), (3, .int a3), (4, .int 0)]) [0, 1, 2, 3, 4] rfl ?_
  refine qX1_wouldReadItself_3 C a1 a2 a3 24 0 (by decide) u (fun r3 hr3 => ?_)
  refine V_iconst (v := 0) C dX1_wouldReadItself_34 (by decide) ?_
  refine V_istore (ls' := [(0, .ref (ad 0)), (1, .int a1), (2, .int a2), (3, .int a3), (4, .int 0)]) C dX1_wouldReadItself_35 (by decide) rfl rfl ?_
  refine V_sub (ls' := [(0, .ref (ad 0)), (2, .int a2), (3, .int a3), (4, .int 0)]) [0, 2, 3, 4] rfl ?_
  refine qX1_wouldReadItself_37 C a2 a3 24 0 (by decide) r3 (fun r37 hr37 => ?_)
  refine V_iload_n C dX1_wouldReadItself_88 rfl 1 rfl ?_
  refine V_aload_n C dX1_wouldReadItself_89 rfl 0 rfl ?_
  refine V_get (Cn := RX1) (T := TX1) (N := 12) C hinX1_wouldReadItself_X1 0 rfl rfl 10 (by decide) hfX1_wouldReadItself_45 rfl rfl dX1_wouldReadItself_90 ?_
  refine V_cSi2 C xN_ok (kX1_isIn_v11 _ _) (va_cwS 2 C.2.2.1 gX1_wouldReadItself_X1_isIn rfl rfl rfl hdX1_isIn ⟨Nat.le_of_ble_eq_true rfl, Nat.le_of_ble_eq_true rfl⟩) (Nat.le_of_ble_eq_true rfl) ⟨(Nat.le_of_ble_eq_true rfl), (Nat.le_of_ble_eq_true rfl)⟩ dX1_wouldReadItself_93 ?_
  refine V_join1 (J := 115) (T := (if (rX1_isIn_v11 r37 a2) = 0 then (if (rX1_isIn_v11 r37 a3) = 0 then 0 else 1) else 1)) (fun j115 hj115 => ?_) (fun J115 => ?_)
  ·
    subst hj115
    subst hr37
    subst hr3
    exact V_iret C rfl (by (repeat' split) <;> rfl) rfl rfl dX1_wouldReadItself_115
  ·
    refine V_if_ne (tgt := 110) C dX1_wouldReadItself_96 (by decide) (fun h96 => ?_) (fun h96 => ?_)
    ·
      refine V_iconst (v := 1) C dX1_wouldReadItself_110 (by decide) ?_
      refine V_goto (tgt := 115) C dX1_wouldReadItself_111 (by decide) ?_
      exact J115 _ ((if_neg h96).trans rfl)
    ·
      refine V_iload_n C dX1_wouldReadItself_99 rfl 2 rfl ?_
      refine V_aload_n C dX1_wouldReadItself_100 rfl 0 rfl ?_
      refine V_get (Cn := RX1) (T := TX1) (N := 12) C hinX1_wouldReadItself_X1 0 rfl rfl 10 (by decide) hfX1_wouldReadItself_45 rfl rfl dX1_wouldReadItself_101 ?_
      refine V_cSi2 C xN_ok (kX1_isIn_v11 _ _) (va_cwS 2 C.2.2.1 gX1_wouldReadItself_X1_isIn rfl rfl rfl hdX1_isIn ⟨Nat.le_of_ble_eq_true rfl, Nat.le_of_ble_eq_true rfl⟩) (Nat.le_of_ble_eq_true rfl) ⟨(Nat.le_of_ble_eq_true rfl), (Nat.le_of_ble_eq_true rfl)⟩ dX1_wouldReadItself_104 ?_
      refine V_if_eq (tgt := 114) C dX1_wouldReadItself_107 (by decide) (fun h107 => ?_) (fun h107 => ?_)
      ·
        refine V_iconst (v := 0) C dX1_wouldReadItself_114 (by decide) ?_
        exact J115 _ ((if_pos h96).trans ((if_pos h107).trans rfl))
      ·
        refine V_iconst (v := 1) C dX1_wouldReadItself_110 (by decide) ?_
        refine V_goto (tgt := 115) C dX1_wouldReadItself_111 (by decide) ?_
        exact J115 _ ((if_pos h96).trans ((if_neg h107).trans rfl))
theorem hdX1_setSum : yX1_setSum.cls ≠ "java/lang/invoke/MethodHandle" ∧ yX1_setSum.cls ≠ "java/lang/invoke/VarHandle" ∧ (parseMethodDescriptor yX1_setSum.desc).map (fun d => d.parameters.length) = some 5 := by decide +kernel
theorem hvX1_setSum : yX1_setSum.cls = RX1 ∧ yX1_setSum.cls ≠ "java/lang/invoke/MethodHandle" ∧ yX1_setSum.cls ≠ "java/lang/invoke/VarHandle" ∧ (parseMethodDescriptor yX1_setSum.desc).map (fun d => d.parameters.length) = some 5 := by decide +kernel
set_option maxHeartbeats 4000000 in
theorem kX1_setSum {l : Launch} {D : va_G} {cI cZ : ClassId} {ad : Nat → Nat} (u : vM) (a1 : Int32) (a2 : Int32) (a3 : Int32) (a4 : Int32) (a5 : Int32) (hp0 : kc u) (hp1 : xX1_setSum u a1 a2 a3 a4 a5 = 0) : mI D vwCl (tyF cI cZ) xN (wC cI cZ ad) l yX1_setSum wsX1_setSum rmX1_setSum [.ref (ad 0), .int a1, .int a2, .int a3, .int a4, .int a5] u (rX1_setSum u a1 a2 a3 a4 a5) (uX1_setSum u a1 a2 a3 a4 a5) := by
  refine mI_of (cc := cX1_setSum) (maxL := 6) (ret := (some .int)) (own := RX1) rfl (by decide) rfl (wC_ok cI cZ ad) (Nat.le_of_ble_eq_true rfl) (fun p e s m args below meth c A C => ?_)
  refine V_ls (ls' := [(0, .ref (ad 0)), (1, .int a1), (2, .int a2), (3, .int a3), (4, .int a4), (5, .int a5)]) rfl ?_
  refine V_iload_n C dX1_setSum_0 rfl 1 rfl ?_
  refine V_cSi1 C xN_ok (kX1_isUser _ _) (va_cwS 1 C.2.2.1 gX1_setSum_X1_isUser rfl rfl rfl hdX1_isUser ⟨Nat.le_of_ble_eq_true rfl, Nat.le_of_ble_eq_true rfl⟩) (Nat.le_of_ble_eq_true rfl) ⟨(Nat.le_of_ble_eq_true rfl), (Nat.le_of_ble_eq_true rfl)⟩ dX1_setSum_1 ?_
  refine V_if_eq (tgt := 40) C dX1_setSum_4 (by decide) (fun h4 => ?_) (fun h4 => ?_)
  ·
    exact absurd (show (0 : Int32) = 1 from (hp1).symm.trans ((if_pos h4).trans rfl)) (by decide)
  ·
    refine V_iload_n C dX1_setSum_7 rfl 2 rfl ?_
    refine V_cSi1 C xN_ok (kX1_isCell _ _) (va_cwS 1 C.2.2.1 gX1_setSum_X1_isCell rfl rfl rfl hdX1_isCell ⟨Nat.le_of_ble_eq_true rfl, Nat.le_of_ble_eq_true rfl⟩) (Nat.le_of_ble_eq_true rfl) ⟨(Nat.le_of_ble_eq_true rfl), (Nat.le_of_ble_eq_true rfl)⟩ dX1_setSum_8 ?_
    refine V_if_eq (tgt := 40) C dX1_setSum_11 (by decide) (fun h11 => ?_) (fun h11 => ?_)
    ·
      exact absurd (show (0 : Int32) = 1 from (hp1).symm.trans ((if_neg h4).trans ((if_pos h11).trans rfl))) (by decide)
    ·
      refine V_iload_n C dX1_setSum_14 rfl 3 rfl ?_
      refine V_cSi1 C xN_ok (kX1_isCell _ _) (va_cwS 1 C.2.2.1 gX1_setSum_X1_isCell rfl rfl rfl hdX1_isCell ⟨Nat.le_of_ble_eq_true rfl, Nat.le_of_ble_eq_true rfl⟩) (Nat.le_of_ble_eq_true rfl) ⟨(Nat.le_of_ble_eq_true rfl), (Nat.le_of_ble_eq_true rfl)⟩ dX1_setSum_15 ?_
      refine V_if_eq (tgt := 40) C dX1_setSum_18 (by decide) (fun h18 => ?_) (fun h18 => ?_)
      ·
        exact absurd (show (0 : Int32) = 1 from (hp1).symm.trans ((if_neg h4).trans ((if_neg h11).trans ((if_pos h18).trans rfl)))) (by decide)
      ·
        refine V_iload C dX1_setSum_21 4 rfl ?_
        refine V_cSi1 C xN_ok (kX1_isCell _ _) (va_cwS 1 C.2.2.1 gX1_setSum_X1_isCell rfl rfl rfl hdX1_isCell ⟨Nat.le_of_ble_eq_true rfl, Nat.le_of_ble_eq_true rfl⟩) (Nat.le_of_ble_eq_true rfl) ⟨(Nat.le_of_ble_eq_true rfl), (Nat.le_of_ble_eq_true rfl)⟩ dX1_setSum_23 ?_
        refine V_if_eq (tgt := 40) C dX1_setSum_26 (by decide) (fun h26 => ?_) (fun h26 => ?_)
        ·
          exact absurd (show (0 : Int32) = 1 from (hp1).symm.trans ((if_neg h4).trans ((if_neg h11).trans ((if_neg h18).trans ((if_pos h26).trans rfl))))) (by decide)
        ·
          refine V_iload C dX1_setSum_29 5 rfl ?_
          refine V_sipush (v := 1000) C dX1_setSum_31 (by decide) ?_
          refine V_cSi2 C xN_ok (kX1_isWithin _ _ _) (va_cwS 2 C.2.2.1 gX1_setSum_X1_isWithin rfl rfl rfl hdX1_isWithin ⟨Nat.le_of_ble_eq_true rfl, Nat.le_of_ble_eq_true rfl⟩) (Nat.le_of_ble_eq_true rfl) ⟨(Nat.le_of_ble_eq_true rfl), (Nat.le_of_ble_eq_true rfl)⟩ dX1_setSum_34 ?_
          refine V_if_ne (tgt := 50) C dX1_setSum_37 (by decide) (fun h37 => ?_) (fun h37 => ?_)
          ·
            refine V_aload_n C dX1_setSum_50 rfl 0 rfl ?_
            refine V_iload_n C dX1_setSum_51 rfl 2 rfl ?_
            refine V_iload_n C dX1_setSum_52 rfl 3 rfl ?_
            refine V_iload C dX1_setSum_53 4 rfl ?_
            refine V_cVi3 C xN_ok (kX1_wouldReadItself _ _ _ _) (cwV 3 C.2.2.1 gX1_setSum_X1_wouldReadItself rfl rfl rfl hvX1_wouldReadItself ⟨Nat.le_of_ble_eq_true rfl, Nat.le_of_ble_eq_true rfl⟩) 0 rfl rfl (Nat.le_of_ble_eq_true rfl) ⟨(Nat.le_of_ble_eq_true rfl), (Nat.le_of_ble_eq_true rfl)⟩ dX1_setSum_55 ?_
            refine V_u (fun u55 hu55 => ?_)
            have hkc55 : kc u55 := by rw [← hu55]; exact kc_congr (fr_uX1_wouldReadItself (by decide)) hp0
            refine V_if_eq (tgt := 71) C dX1_setSum_58 (by decide) (fun h58 => ?_) (fun h58 => ?_)
            ·
              refine V_aload_n C dX1_setSum_71 rfl 0 rfl ?_
              refine V_iload_n C dX1_setSum_72 rfl 1 rfl ?_
              refine V_iload_n C dX1_setSum_73 rfl 2 rfl ?_
              refine V_iconst (v := 1) C dX1_setSum_74 (by decide) ?_
              refine V_iload_n C dX1_setSum_75 rfl 3 rfl ?_
              refine V_iload C dX1_setSum_76 4 rfl ?_
              refine V_iload C dX1_setSum_78 5 rfl ?_
              refine V_cVi6 C xN_ok (kX1_giveFormula _ _ _ _ _ _ _ (vqX1_isUser h4) (vqX1_isCell h11) hkc55) (cwV 6 C.2.2.1 gX1_setSum_X1_giveFormula rfl rfl rfl hvX1_giveFormula ⟨Nat.le_of_ble_eq_true rfl, Nat.le_of_ble_eq_true rfl⟩) 0 rfl rfl (Nat.le_of_ble_eq_true rfl) ⟨(Nat.le_of_ble_eq_true rfl), (Nat.le_of_ble_eq_true rfl)⟩ dX1_setSum_80 ?_
              refine V_u (fun u80 hu80 => ?_)
              subst hu80
              subst hu55
              exact V_iret C rfl (vp_nar_int _) ((if_neg h4).trans ((if_neg h11).trans ((if_neg h18).trans ((if_neg h26).trans ((if_neg h37).trans ((if_pos h58).trans rfl)))))) ((if_neg h4).trans ((if_neg h11).trans ((if_neg h18).trans ((if_neg h26).trans ((if_neg h37).trans ((if_pos h58).trans rfl)))))) dX1_setSum_83
            ·
              subst hu55
              exact absurd (show (0 : Int32) = 2 from (hp1).symm.trans ((if_neg h4).trans ((if_neg h11).trans ((if_neg h18).trans ((if_neg h26).trans ((if_neg h37).trans ((if_neg h58).trans rfl))))))) (by decide)
          ·
            exact absurd (show (0 : Int32) = 1 from (hp1).symm.trans ((if_neg h4).trans ((if_neg h11).trans ((if_neg h18).trans ((if_neg h26).trans ((if_pos h37).trans rfl)))))) (by decide)
theorem hdX1_setGreater : yX1_setGreater.cls ≠ "java/lang/invoke/MethodHandle" ∧ yX1_setGreater.cls ≠ "java/lang/invoke/VarHandle" ∧ (parseMethodDescriptor yX1_setGreater.desc).map (fun d => d.parameters.length) = some 4 := by decide +kernel
theorem hvX1_setGreater : yX1_setGreater.cls = RX1 ∧ yX1_setGreater.cls ≠ "java/lang/invoke/MethodHandle" ∧ yX1_setGreater.cls ≠ "java/lang/invoke/VarHandle" ∧ (parseMethodDescriptor yX1_setGreater.desc).map (fun d => d.parameters.length) = some 4 := by decide +kernel
set_option maxHeartbeats 4000000 in
theorem kX1_setGreater {l : Launch} {D : va_G} {cI cZ : ClassId} {ad : Nat → Nat} (u : vM) (a1 : Int32) (a2 : Int32) (a3 : Int32) (a4 : Int32) (hp0 : kc u) (hp1 : xX1_setGreater u a1 a2 a3 a4 = 0) : mI D vwCl (tyF cI cZ) xN (wC cI cZ ad) l yX1_setGreater wsX1_setGreater rmX1_setGreater [.ref (ad 0), .int a1, .int a2, .int a3, .int a4] u (rX1_setGreater u a1 a2 a3 a4) (uX1_setGreater u a1 a2 a3 a4) := by
  refine mI_of (cc := cX1_setGreater) (maxL := 5) (ret := (some .int)) (own := RX1) rfl (by decide) rfl (wC_ok cI cZ ad) (Nat.le_of_ble_eq_true rfl) (fun p e s m args below meth c A C => ?_)
  refine V_ls (ls' := [(0, .ref (ad 0)), (1, .int a1), (2, .int a2), (3, .int a3), (4, .int a4)]) rfl ?_
  refine V_iload_n C dX1_setGreater_0 rfl 1 rfl ?_
  refine V_cSi1 C xN_ok (kX1_isUser _ _) (va_cwS 1 C.2.2.1 gX1_setGreater_X1_isUser rfl rfl rfl hdX1_isUser ⟨Nat.le_of_ble_eq_true rfl, Nat.le_of_ble_eq_true rfl⟩) (Nat.le_of_ble_eq_true rfl) ⟨(Nat.le_of_ble_eq_true rfl), (Nat.le_of_ble_eq_true rfl)⟩ dX1_setGreater_1 ?_
  refine V_if_eq (tgt := 29) C dX1_setGreater_4 (by decide) (fun h4 => ?_) (fun h4 => ?_)
  ·
    exact absurd (show (0 : Int32) = 1 from (hp1).symm.trans ((if_pos h4).trans rfl)) (by decide)
  ·
    refine V_iload_n C dX1_setGreater_7 rfl 2 rfl ?_
    refine V_cSi1 C xN_ok (kX1_isCell _ _) (va_cwS 1 C.2.2.1 gX1_setGreater_X1_isCell rfl rfl rfl hdX1_isCell ⟨Nat.le_of_ble_eq_true rfl, Nat.le_of_ble_eq_true rfl⟩) (Nat.le_of_ble_eq_true rfl) ⟨(Nat.le_of_ble_eq_true rfl), (Nat.le_of_ble_eq_true rfl)⟩ dX1_setGreater_8 ?_
    refine V_if_eq (tgt := 29) C dX1_setGreater_11 (by decide) (fun h11 => ?_) (fun h11 => ?_)
    ·
      exact absurd (show (0 : Int32) = 1 from (hp1).symm.trans ((if_neg h4).trans ((if_pos h11).trans rfl))) (by decide)
    ·
      refine V_iload_n C dX1_setGreater_14 rfl 3 rfl ?_
      refine V_cSi1 C xN_ok (kX1_isCell _ _) (va_cwS 1 C.2.2.1 gX1_setGreater_X1_isCell rfl rfl rfl hdX1_isCell ⟨Nat.le_of_ble_eq_true rfl, Nat.le_of_ble_eq_true rfl⟩) (Nat.le_of_ble_eq_true rfl) ⟨(Nat.le_of_ble_eq_true rfl), (Nat.le_of_ble_eq_true rfl)⟩ dX1_setGreater_15 ?_
      refine V_if_eq (tgt := 29) C dX1_setGreater_18 (by decide) (fun h18 => ?_) (fun h18 => ?_)
      ·
        exact absurd (show (0 : Int32) = 1 from (hp1).symm.trans ((if_neg h4).trans ((if_neg h11).trans ((if_pos h18).trans rfl)))) (by decide)
      ·
        refine V_iload C dX1_setGreater_21 4 rfl ?_
        refine V_cSi1 C xN_ok (kX1_isCell _ _) (va_cwS 1 C.2.2.1 gX1_setGreater_X1_isCell rfl rfl rfl hdX1_isCell ⟨Nat.le_of_ble_eq_true rfl, Nat.le_of_ble_eq_true rfl⟩) (Nat.le_of_ble_eq_true rfl) ⟨(Nat.le_of_ble_eq_true rfl), (Nat.le_of_ble_eq_true rfl)⟩ dX1_setGreater_23 ?_
        refine V_if_ne (tgt := 39) C dX1_setGreater_26 (by decide) (fun h26 => ?_) (fun h26 => ?_)
        ·
          refine V_aload_n C dX1_setGreater_39 rfl 0 rfl ?_
          refine V_iload_n C dX1_setGreater_40 rfl 2 rfl ?_
          refine V_iload_n C dX1_setGreater_41 rfl 3 rfl ?_
          refine V_iload C dX1_setGreater_42 4 rfl ?_
          refine V_cVi3 C xN_ok (kX1_wouldReadItself _ _ _ _) (cwV 3 C.2.2.1 gX1_setGreater_X1_wouldReadItself rfl rfl rfl hvX1_wouldReadItself ⟨Nat.le_of_ble_eq_true rfl, Nat.le_of_ble_eq_true rfl⟩) 0 rfl rfl (Nat.le_of_ble_eq_true rfl) ⟨(Nat.le_of_ble_eq_true rfl), (Nat.le_of_ble_eq_true rfl)⟩ dX1_setGreater_44 ?_
          refine V_u (fun u44 hu44 => ?_)
          have hkc44 : kc u44 := by rw [← hu44]; exact kc_congr (fr_uX1_wouldReadItself (by decide)) hp0
          refine V_if_eq (tgt := 60) C dX1_setGreater_47 (by decide) (fun h47 => ?_) (fun h47 => ?_)
          ·
            refine V_aload_n C dX1_setGreater_60 rfl 0 rfl ?_
            refine V_iload_n C dX1_setGreater_61 rfl 1 rfl ?_
            refine V_iload_n C dX1_setGreater_62 rfl 2 rfl ?_
            refine V_iconst (v := 2) C dX1_setGreater_63 (by decide) ?_
            refine V_iload_n C dX1_setGreater_64 rfl 3 rfl ?_
            refine V_iload C dX1_setGreater_65 4 rfl ?_
            refine V_iconst (v := 0) C dX1_setGreater_67 (by decide) ?_
            refine V_cVi6 C xN_ok (kX1_giveFormula _ _ _ _ _ _ _ (vqX1_isUser h4) (vqX1_isCell h11) hkc44) (cwV 6 C.2.2.1 gX1_setGreater_X1_giveFormula rfl rfl rfl hvX1_giveFormula ⟨Nat.le_of_ble_eq_true rfl, Nat.le_of_ble_eq_true rfl⟩) 0 rfl rfl (Nat.le_of_ble_eq_true rfl) ⟨(Nat.le_of_ble_eq_true rfl), (Nat.le_of_ble_eq_true rfl)⟩ dX1_setGreater_68 ?_
            refine V_u (fun u68 hu68 => ?_)
            subst hu68
            subst hu44
            exact V_iret C rfl (vp_nar_int _) ((if_neg h4).trans ((if_neg h11).trans ((if_neg h18).trans ((if_neg h26).trans ((if_pos h47).trans rfl))))) ((if_neg h4).trans ((if_neg h11).trans ((if_neg h18).trans ((if_neg h26).trans ((if_pos h47).trans rfl))))) dX1_setGreater_71
          ·
            subst hu44
            exact absurd (show (0 : Int32) = 2 from (hp1).symm.trans ((if_neg h4).trans ((if_neg h11).trans ((if_neg h18).trans ((if_neg h26).trans ((if_neg h47).trans rfl)))))) (by decide)
        ·
          exact absurd (show (0 : Int32) = 1 from (hp1).symm.trans ((if_neg h4).trans ((if_neg h11).trans ((if_neg h18).trans ((if_pos h26).trans rfl))))) (by decide)
theorem hdX1_setTimes : yX1_setTimes.cls ≠ "java/lang/invoke/MethodHandle" ∧ yX1_setTimes.cls ≠ "java/lang/invoke/VarHandle" ∧ (parseMethodDescriptor yX1_setTimes.desc).map (fun d => d.parameters.length) = some 4 := by decide +kernel
theorem hvX1_setTimes : yX1_setTimes.cls = RX1 ∧ yX1_setTimes.cls ≠ "java/lang/invoke/MethodHandle" ∧ yX1_setTimes.cls ≠ "java/lang/invoke/VarHandle" ∧ (parseMethodDescriptor yX1_setTimes.desc).map (fun d => d.parameters.length) = some 4 := by decide +kernel
set_option maxHeartbeats 4000000 in
theorem kX1_setTimes {l : Launch} {D : va_G} {cI cZ : ClassId} {ad : Nat → Nat} (u : vM) (a1 : Int32) (a2 : Int32) (a3 : Int32) (a4 : Int32) (hp0 : kc u) (hp1 : xX1_setTimes u a1 a2 a3 a4 = 0) : mI D vwCl (tyF cI cZ) xN (wC cI cZ ad) l yX1_setTimes wsX1_setTimes rmX1_setTimes [.ref (ad 0), .int a1, .int a2, .int a3, .int a4] u (rX1_setTimes u a1 a2 a3 a4) (uX1_setTimes u a1 a2 a3 a4) := by
  refine mI_of (cc := cX1_setTimes) (maxL := 5) (ret := (some .int)) (own := RX1) rfl (by decide) rfl (wC_ok cI cZ ad) (Nat.le_of_ble_eq_true rfl) (fun p e s m args below meth c A C => ?_)
  refine V_ls (ls' := [(0, .ref (ad 0)), (1, .int a1), (2, .int a2), (3, .int a3), (4, .int a4)]) rfl ?_
  refine V_iload_n C dX1_setTimes_0 rfl 1 rfl ?_
  refine V_cSi1 C xN_ok (kX1_isUser _ _) (va_cwS 1 C.2.2.1 gX1_setTimes_X1_isUser rfl rfl rfl hdX1_isUser ⟨Nat.le_of_ble_eq_true rfl, Nat.le_of_ble_eq_true rfl⟩) (Nat.le_of_ble_eq_true rfl) ⟨(Nat.le_of_ble_eq_true rfl), (Nat.le_of_ble_eq_true rfl)⟩ dX1_setTimes_1 ?_
  refine V_if_eq (tgt := 31) C dX1_setTimes_4 (by decide) (fun h4 => ?_) (fun h4 => ?_)
  ·
    exact absurd (show (0 : Int32) = 1 from (hp1).symm.trans ((if_pos h4).trans rfl)) (by decide)
  ·
    refine V_iload_n C dX1_setTimes_7 rfl 2 rfl ?_
    refine V_cSi1 C xN_ok (kX1_isCell _ _) (va_cwS 1 C.2.2.1 gX1_setTimes_X1_isCell rfl rfl rfl hdX1_isCell ⟨Nat.le_of_ble_eq_true rfl, Nat.le_of_ble_eq_true rfl⟩) (Nat.le_of_ble_eq_true rfl) ⟨(Nat.le_of_ble_eq_true rfl), (Nat.le_of_ble_eq_true rfl)⟩ dX1_setTimes_8 ?_
    refine V_if_eq (tgt := 31) C dX1_setTimes_11 (by decide) (fun h11 => ?_) (fun h11 => ?_)
    ·
      exact absurd (show (0 : Int32) = 1 from (hp1).symm.trans ((if_neg h4).trans ((if_pos h11).trans rfl))) (by decide)
    ·
      refine V_iload_n C dX1_setTimes_14 rfl 3 rfl ?_
      refine V_cSi1 C xN_ok (kX1_isCell _ _) (va_cwS 1 C.2.2.1 gX1_setTimes_X1_isCell rfl rfl rfl hdX1_isCell ⟨Nat.le_of_ble_eq_true rfl, Nat.le_of_ble_eq_true rfl⟩) (Nat.le_of_ble_eq_true rfl) ⟨(Nat.le_of_ble_eq_true rfl), (Nat.le_of_ble_eq_true rfl)⟩ dX1_setTimes_15 ?_
      refine V_if_eq (tgt := 31) C dX1_setTimes_18 (by decide) (fun h18 => ?_) (fun h18 => ?_)
      ·
        exact absurd (show (0 : Int32) = 1 from (hp1).symm.trans ((if_neg h4).trans ((if_neg h11).trans ((if_pos h18).trans rfl)))) (by decide)
      ·
        refine V_iload C dX1_setTimes_21 4 rfl ?_
        refine V_bipush (v := 100) C dX1_setTimes_23 (by decide) ?_
        refine V_cSi2 C xN_ok (kX1_isWithin _ _ _) (va_cwS 2 C.2.2.1 gX1_setTimes_X1_isWithin rfl rfl rfl hdX1_isWithin ⟨Nat.le_of_ble_eq_true rfl, Nat.le_of_ble_eq_true rfl⟩) (Nat.le_of_ble_eq_true rfl) ⟨(Nat.le_of_ble_eq_true rfl), (Nat.le_of_ble_eq_true rfl)⟩ dX1_setTimes_25 ?_
        refine V_if_ne (tgt := 41) C dX1_setTimes_28 (by decide) (fun h28 => ?_) (fun h28 => ?_)
        ·
          refine V_aload_n C dX1_setTimes_41 rfl 0 rfl ?_
          refine V_iload_n C dX1_setTimes_42 rfl 2 rfl ?_
          refine V_iload_n C dX1_setTimes_43 rfl 3 rfl ?_
          refine V_iconst (v := (-1)) C dX1_setTimes_44 (by decide) ?_
          refine V_cVi3 C xN_ok (kX1_wouldReadItself _ _ _ _) (cwV 3 C.2.2.1 gX1_setTimes_X1_wouldReadItself rfl rfl rfl hvX1_wouldReadItself ⟨Nat.le_of_ble_eq_true rfl, Nat.le_of_ble_eq_true rfl⟩) 0 rfl rfl (Nat.le_of_ble_eq_true rfl) ⟨(Nat.le_of_ble_eq_true rfl), (Nat.le_of_ble_eq_true rfl)⟩ dX1_setTimes_45 ?_
          refine V_u (fun u45 hu45 => ?_)
          have hkc45 : kc u45 := by rw [← hu45]; exact kc_congr (fr_uX1_wouldReadItself (by decide)) hp0
          refine V_if_eq (tgt := 61) C dX1_setTimes_48 (by decide) (fun h48 => ?_) (fun h48 => ?_)
          ·
            refine V_aload_n C dX1_setTimes_61 rfl 0 rfl ?_
            refine V_iload_n C dX1_setTimes_62 rfl 1 rfl ?_
            refine V_iload_n C dX1_setTimes_63 rfl 2 rfl ?_
            refine V_iconst (v := 3) C dX1_setTimes_64 (by decide) ?_
            refine V_iload_n C dX1_setTimes_65 rfl 3 rfl ?_
            refine V_iconst (v := (-1)) C dX1_setTimes_66 (by decide) ?_
            refine V_iload C dX1_setTimes_67 4 rfl ?_
            refine V_cVi6 C xN_ok (kX1_giveFormula _ _ _ _ _ _ _ (vqX1_isUser h4) (vqX1_isCell h11) hkc45) (cwV 6 C.2.2.1 gX1_setTimes_X1_giveFormula rfl rfl rfl hvX1_giveFormula ⟨Nat.le_of_ble_eq_true rfl, Nat.le_of_ble_eq_true rfl⟩) 0 rfl rfl (Nat.le_of_ble_eq_true rfl) ⟨(Nat.le_of_ble_eq_true rfl), (Nat.le_of_ble_eq_true rfl)⟩ dX1_setTimes_69 ?_
            refine V_u (fun u69 hu69 => ?_)
            subst hu69
            subst hu45
            exact V_iret C rfl (vp_nar_int _) ((if_neg h4).trans ((if_neg h11).trans ((if_neg h18).trans ((if_neg h28).trans ((if_pos h48).trans rfl))))) ((if_neg h4).trans ((if_neg h11).trans ((if_neg h18).trans ((if_neg h28).trans ((if_pos h48).trans rfl))))) dX1_setTimes_72
          ·
            subst hu45
            exact absurd (show (0 : Int32) = 2 from (hp1).symm.trans ((if_neg h4).trans ((if_neg h11).trans ((if_neg h18).trans ((if_neg h28).trans ((if_neg h48).trans rfl)))))) (by decide)
        ·
          exact absurd (show (0 : Int32) = 1 from (hp1).symm.trans ((if_neg h4).trans ((if_neg h11).trans ((if_neg h18).trans ((if_pos h28).trans rfl))))) (by decide)
theorem hdX1_refresh : yX1_refresh.cls ≠ "java/lang/invoke/MethodHandle" ∧ yX1_refresh.cls ≠ "java/lang/invoke/VarHandle" ∧ (parseMethodDescriptor yX1_refresh.desc).map (fun d => d.parameters.length) = some 1 := by decide +kernel
theorem hvX1_refresh : yX1_refresh.cls = RX1 ∧ yX1_refresh.cls ≠ "java/lang/invoke/MethodHandle" ∧ yX1_refresh.cls ≠ "java/lang/invoke/VarHandle" ∧ (parseMethodDescriptor yX1_refresh.desc).map (fun d => d.parameters.length) = some 1 := by decide +kernel
set_option maxHeartbeats 4000000 in
theorem kX1_refresh {l : Launch} {D : va_G} {cI cZ : ClassId} {ad : Nat → Nat} (u : vM) (a1 : Int32) (hp0 : kc u) (hp1 : xX1_refresh u a1 = 0) : mI D vwCl (tyF cI cZ) xN (wC cI cZ ad) l yX1_refresh wsX1_refresh rmX1_refresh [.ref (ad 0), .int a1] u (rX1_refresh u a1) (uX1_refresh u a1) := by
  refine mI_of (cc := cX1_refresh) (maxL := 2) (ret := (some .int)) (own := RX1) rfl (by decide) rfl (wC_ok cI cZ ad) (Nat.le_of_ble_eq_true rfl) (fun p e s m args below meth c A C => ?_)
  refine V_ls (ls' := [(0, .ref (ad 0)), (1, .int a1)]) rfl ?_
  refine V_iload_n C dX1_refresh_0 rfl 1 rfl ?_
  refine V_cSi1 C xN_ok (kX1_isUser _ _) (va_cwS 1 C.2.2.1 gX1_refresh_X1_isUser rfl rfl rfl hdX1_isUser ⟨Nat.le_of_ble_eq_true rfl, Nat.le_of_ble_eq_true rfl⟩) (Nat.le_of_ble_eq_true rfl) ⟨(Nat.le_of_ble_eq_true rfl), (Nat.le_of_ble_eq_true rfl)⟩ dX1_refresh_1 ?_
  refine V_if_ne (tgt := 17) C dX1_refresh_4 (by decide) (fun h4 => ?_) (fun h4 => ?_)
  ·
    refine V_aload_n C dX1_refresh_17 rfl 0 rfl ?_
    refine V_cVv0 C xN_ok (kX1_forgetChanges _) (cwV 0 C.2.2.1 gX1_refresh_X1_forgetChanges rfl rfl rfl hvX1_forgetChanges ⟨Nat.le_of_ble_eq_true rfl, Nat.le_of_ble_eq_true rfl⟩) 0 rfl rfl (Nat.le_of_ble_eq_true rfl) ⟨(Nat.le_of_ble_eq_true rfl), (Nat.le_of_ble_eq_true rfl)⟩ dX1_refresh_18 ?_
    refine V_u (fun u18 hu18 => ?_)
    have hkc18 : kc u18 := by rw [← hu18]; exact kc_congr (fr_uX1_forgetChanges (by decide)) hp0
    refine V_aload_n C dX1_refresh_21 rfl 0 rfl ?_
    refine V_iload_n C dX1_refresh_22 rfl 1 rfl ?_
    refine V_iconst (v := 1) C dX1_refresh_23 (by decide) ?_
    refine V_cVi2 C xN_ok (kX1_goThrough _ _ _ (vqX1_isUser h4) hkc18) (cwV 2 C.2.2.1 gX1_refresh_X1_goThrough rfl rfl rfl hvX1_goThrough ⟨Nat.le_of_ble_eq_true rfl, Nat.le_of_ble_eq_true rfl⟩) 0 rfl rfl (Nat.le_of_ble_eq_true rfl) ⟨(Nat.le_of_ble_eq_true rfl), (Nat.le_of_ble_eq_true rfl)⟩ dX1_refresh_24 ?_
    refine V_u (fun u24 hu24 => ?_)
    subst hu24
    subst hu18
    exact V_iret C rfl (vp_nar_int _) ((if_neg h4).trans rfl) ((if_neg h4).trans rfl) dX1_refresh_27
  ·
    exact absurd (show (0 : Int32) = 1 from (hp1).symm.trans ((if_pos h4).trans rfl)) (by decide)
theorem hdX1_isSheet : yX1_isSheet.cls ≠ "java/lang/invoke/MethodHandle" ∧ yX1_isSheet.cls ≠ "java/lang/invoke/VarHandle" ∧ (parseMethodDescriptor yX1_isSheet.desc).map (fun d => d.parameters.length) = some 1 := by decide +kernel
theorem hvX1_isSheet : yX1_isSheet.cls = RX1 ∧ yX1_isSheet.cls ≠ "java/lang/invoke/MethodHandle" ∧ yX1_isSheet.cls ≠ "java/lang/invoke/VarHandle" ∧ (parseMethodDescriptor yX1_isSheet.desc).map (fun d => d.parameters.length) = some 1 := by decide +kernel
set_option maxHeartbeats 4000000 in
theorem kX1_isSheet {l : Launch} {D : va_G} {cI cZ : ClassId} {ad : Nat → Nat} (u : vM) (a0 : Int32) : mI D vwCl (tyF cI cZ) xN (wC cI cZ ad) l yX1_isSheet wsX1_isSheet rmX1_isSheet [.int a0] u (rX1_isSheet a0) u := by
  refine mI_of (cc := cX1_isSheet) (maxL := 1) (ret := (some .boolean)) (own := RX1) rfl (by decide) rfl (wC_ok cI cZ ad) (Nat.le_of_ble_eq_true rfl) (fun p e s m args below meth c A C => ?_)
  refine V_ls (ls' := [(0, .int a0)]) rfl ?_
  refine V_iload_n C dX1_isSheet_0 rfl 0 rfl ?_
  refine V_join1 (J := 14) (T := (if a0 < 0 then 0 else (if 4 ≤ a0 then 0 else 1))) (fun j14 hj14 => ?_) (fun J14 => ?_)
  ·
    subst hj14
    exact V_iret C rfl (by (repeat' split) <;> rfl) rfl rfl dX1_isSheet_14
  ·
    refine V_if_lt (tgt := 13) C dX1_isSheet_1 (by decide) (fun h1 => ?_) (fun h1 => ?_)
    ·
      refine V_iconst (v := 0) C dX1_isSheet_13 (by decide) ?_
      exact J14 _ ((if_pos h1).trans rfl)
    ·
      refine V_iload_n C dX1_isSheet_4 rfl 0 rfl ?_
      refine V_iconst (v := 4) C dX1_isSheet_5 (by decide) ?_
      refine V_icmp_ge (tgt := 13) C dX1_isSheet_6 (by decide) (fun h6 => ?_) (fun h6 => ?_)
      ·
        refine V_iconst (v := 0) C dX1_isSheet_13 (by decide) ?_
        exact J14 _ ((if_neg h1).trans ((if_pos h6).trans rfl))
      ·
        refine V_iconst (v := 1) C dX1_isSheet_9 (by decide) ?_
        refine V_goto (tgt := 14) C dX1_isSheet_10 (by decide) ?_
        exact J14 _ ((if_neg h1).trans ((if_neg h6).trans rfl))
theorem hdX1_setPrice : yX1_setPrice.cls ≠ "java/lang/invoke/MethodHandle" ∧ yX1_setPrice.cls ≠ "java/lang/invoke/VarHandle" ∧ (parseMethodDescriptor yX1_setPrice.desc).map (fun d => d.parameters.length) = some 2 := by decide +kernel
theorem hvX1_setPrice : yX1_setPrice.cls = RX1 ∧ yX1_setPrice.cls ≠ "java/lang/invoke/MethodHandle" ∧ yX1_setPrice.cls ≠ "java/lang/invoke/VarHandle" ∧ (parseMethodDescriptor yX1_setPrice.desc).map (fun d => d.parameters.length) = some 2 := by decide +kernel
theorem hinX1_setPrice_X1 : ∀ w ∈ u_ws RX1 TX1 12, w ∈ wsX1_setPrice := by decide +kernel
theorem hfX1_setPrice_35 : Cond.fieldLink RX1 35 "MeteredSheets" "ledger" "LMeteredSheets$Ledger;" ∈ wsX1_setPrice := by decide +kernel
theorem hinX1_setPrice_X0 : ∀ w ∈ u_ws RX0 TX0 8, w ∈ wsX1_setPrice := by decide +kernel
set_option maxHeartbeats 4000000 in
theorem kX1_setPrice {l : Launch} {D : va_G} {cI cZ : ClassId} {ad : Nat → Nat} (u : vM) (a1 : Int32) (a2 : Int32) (hp0 : xX1_setPrice u a1 a2 = 0) : mI D vwCl (tyF cI cZ) xN (wC cI cZ ad) l yX1_setPrice wsX1_setPrice rmX1_setPrice [.ref (ad 0), .int a1, .int a2] u (rX1_setPrice u a1 a2) (uX1_setPrice u a1 a2) := by
  refine mI_of (cc := cX1_setPrice) (maxL := 4) (ret := (some .int)) (own := RX1) rfl (by decide) rfl (wC_ok cI cZ ad) (Nat.le_of_ble_eq_true rfl) (fun p e s m args below meth c A C => ?_)
  refine V_ls (ls' := [(0, .ref (ad 0)), (1, .int a1), (2, .int a2)]) rfl ?_
  refine V_iload_n C dX1_setPrice_0 rfl 1 rfl ?_
  refine V_cSi1 C xN_ok (kX1_isSheet _ _) (va_cwS 1 C.2.2.1 gX1_setPrice_X1_isSheet rfl rfl rfl hdX1_isSheet ⟨Nat.le_of_ble_eq_true rfl, Nat.le_of_ble_eq_true rfl⟩) (Nat.le_of_ble_eq_true rfl) ⟨(Nat.le_of_ble_eq_true rfl), (Nat.le_of_ble_eq_true rfl)⟩ dX1_setPrice_1 ?_
  refine V_if_eq (tgt := 17) C dX1_setPrice_4 (by decide) (fun h4 => ?_) (fun h4 => ?_)
  ·
    exact absurd (show (0 : Int32) = 1 from (hp0).symm.trans ((if_pos h4).trans rfl)) (by decide)
  ·
    refine V_iload_n C dX1_setPrice_7 rfl 2 rfl ?_
    refine V_if_lt (tgt := 17) C dX1_setPrice_8 (by decide) (fun h8 => ?_) (fun h8 => ?_)
    ·
      exact absurd (show (0 : Int32) = 1 from (hp0).symm.trans ((if_neg h4).trans ((if_pos h8).trans rfl))) (by decide)
    ·
      refine V_iload_n C dX1_setPrice_11 rfl 2 rfl ?_
      refine V_bipush (v := 100) C dX1_setPrice_12 (by decide) ?_
      refine V_icmp_le (tgt := 27) C dX1_setPrice_14 (by decide) (fun h14 => ?_) (fun h14 => ?_)
      ·
        refine V_aload_n C dX1_setPrice_27 rfl 0 rfl ?_
        refine V_get (Cn := RX1) (T := TX1) (N := 12) C hinX1_setPrice_X1 0 rfl rfl 7 (by decide) hfX1_setPrice_35 rfl rfl dX1_setPrice_28 ?_
        refine V_getN (Cn := RX0) (T := TX0) (N := 8) C hinX1_setPrice_X0 8 rfl rfl 0 (by decide) (C.2.2.2.2.2.2.2.2.2.2 _ nwX1_103) rfl rfl dX1_setPrice_31 ?_
        refine V_iload_n C dX1_setPrice_34 rfl 1 rfl ?_
        refine Vm_iald C 13 0 rfl rfl (vqX1_isSheet h4) dX1_setPrice_35 ?_
        refine V_top (fun y36 hy36 => ?_)
        refine V_istore_n (ls' := [(0, .ref (ad 0)), (1, .int a1), (2, .int a2), (3, .int y36)]) C dX1_setPrice_36 rfl (by decide) rfl rfl ?_
        refine V_aload_n C dX1_setPrice_37 rfl 0 rfl ?_
        refine V_get (Cn := RX1) (T := TX1) (N := 12) C hinX1_setPrice_X1 0 rfl rfl 7 (by decide) hfX1_setPrice_35 rfl rfl dX1_setPrice_38 ?_
        refine V_getN (Cn := RX0) (T := TX0) (N := 8) C hinX1_setPrice_X0 8 rfl rfl 0 (by decide) (C.2.2.2.2.2.2.2.2.2.2 _ nwX1_103) rfl rfl dX1_setPrice_41 ?_
        refine V_iload_n C dX1_setPrice_44 rfl 1 rfl ?_
        refine V_iload_n C dX1_setPrice_45 rfl 2 rfl ?_
        refine Vm_iast C 13 0 rfl rfl (vqX1_isSheet h4) wC_s13 dX1_setPrice_46 ?_
        refine V_u (fun u46 hu46 => ?_)
        refine V_iload_n C dX1_setPrice_47 rfl 3 rfl ?_
        subst hu46
        subst hy36
        exact V_iret C rfl (vp_nar_int _) ((if_neg h4).trans ((if_neg h8).trans ((if_pos h14).trans rfl))) ((if_neg h4).trans ((if_neg h8).trans ((if_pos h14).trans rfl))) dX1_setPrice_48
      ·
        exact absurd (show (0 : Int32) = 1 from (hp0).symm.trans ((if_neg h4).trans ((if_neg h8).trans ((if_neg h14).trans rfl)))) (by decide)
theorem hdX1_grant : yX1_grant.cls ≠ "java/lang/invoke/MethodHandle" ∧ yX1_grant.cls ≠ "java/lang/invoke/VarHandle" ∧ (parseMethodDescriptor yX1_grant.desc).map (fun d => d.parameters.length) = some 2 := by decide +kernel
theorem hvX1_grant : yX1_grant.cls = RX1 ∧ yX1_grant.cls ≠ "java/lang/invoke/MethodHandle" ∧ yX1_grant.cls ≠ "java/lang/invoke/VarHandle" ∧ (parseMethodDescriptor yX1_grant.desc).map (fun d => d.parameters.length) = some 2 := by decide +kernel
theorem hinX1_grant_X1 : ∀ w ∈ u_ws RX1 TX1 12, w ∈ wsX1_grant := by decide +kernel
theorem hfX1_grant_35 : Cond.fieldLink RX1 35 "MeteredSheets" "ledger" "LMeteredSheets$Ledger;" ∈ wsX1_grant := by decide +kernel
theorem hinX1_grant_X0 : ∀ w ∈ u_ws RX0 TX0 8, w ∈ wsX1_grant := by decide +kernel
set_option maxHeartbeats 4000000 in
theorem kX1_grant {l : Launch} {D : va_G} {cI cZ : ClassId} {ad : Nat → Nat} (u : vM) (a1 : Int32) (a2 : Int32) (hp0 : xX1_grant u a1 a2 = 0) : mI D vwCl (tyF cI cZ) xN (wC cI cZ ad) l yX1_grant wsX1_grant rmX1_grant [.ref (ad 0), .int a1, .int a2] u (rX1_grant u a1 a2) (uX1_grant u a1 a2) := by
  refine mI_of (cc := cX1_grant) (maxL := 3) (ret := (some .int)) (own := RX1) rfl (by decide) rfl (wC_ok cI cZ ad) (Nat.le_of_ble_eq_true rfl) (fun p e s m args below meth c A C => ?_)
  refine V_ls (ls' := [(0, .ref (ad 0)), (1, .int a1), (2, .int a2)]) rfl ?_
  refine V_iload_n C dX1_grant_0 rfl 1 rfl ?_
  refine V_cSi1 C xN_ok (kX1_isSheet _ _) (va_cwS 1 C.2.2.1 gX1_grant_X1_isSheet rfl rfl rfl hdX1_isSheet ⟨Nat.le_of_ble_eq_true rfl, Nat.le_of_ble_eq_true rfl⟩) (Nat.le_of_ble_eq_true rfl) ⟨(Nat.le_of_ble_eq_true rfl), (Nat.le_of_ble_eq_true rfl)⟩ dX1_grant_1 ?_
  refine V_if_eq (tgt := 19) C dX1_grant_4 (by decide) (fun h4 => ?_) (fun h4 => ?_)
  ·
    exact absurd (show (0 : Int32) = 1 from (hp0).symm.trans ((if_pos h4).trans rfl)) (by decide)
  ·
    refine V_iload_n C dX1_grant_7 rfl 2 rfl ?_
    refine V_iconst (v := 1) C dX1_grant_8 (by decide) ?_
    refine V_icmp_lt (tgt := 19) C dX1_grant_9 (by decide) (fun h9 => ?_) (fun h9 => ?_)
    ·
      exact absurd (show (0 : Int32) = 1 from (hp0).symm.trans ((if_neg h4).trans ((if_pos h9).trans rfl))) (by decide)
    ·
      refine V_iload_n C dX1_grant_12 rfl 2 rfl ?_
      refine V_sipush (v := 10000) C dX1_grant_13 (by decide) ?_
      refine V_icmp_le (tgt := 29) C dX1_grant_16 (by decide) (fun h16 => ?_) (fun h16 => ?_)
      ·
        refine V_aload_n C dX1_grant_29 rfl 0 rfl ?_
        refine V_get (Cn := RX1) (T := TX1) (N := 12) C hinX1_grant_X1 0 rfl rfl 7 (by decide) hfX1_grant_35 rfl rfl dX1_grant_30 ?_
        refine V_getN (Cn := RX0) (T := TX0) (N := 8) C hinX1_grant_X0 8 rfl rfl 1 (by decide) (C.2.2.2.2.2.2.2.2.2.2 _ nwX1_108) rfl rfl dX1_grant_33 ?_
        refine V_iload_n C dX1_grant_36 rfl 1 rfl ?_
        refine V_dup2 C dX1_grant_37 rfl rfl ?_
        refine Vm_iald C 14 0 rfl rfl (vqX1_isSheet h4) dX1_grant_38 ?_
        refine V_iload_n C dX1_grant_39 rfl 2 rfl ?_
        refine V_iadd C dX1_grant_40 ?_
        refine Vm_iast C 14 0 rfl rfl (vqX1_isSheet h4) wC_s14 dX1_grant_41 ?_
        refine V_u (fun u41 hu41 => ?_)
        refine V_aload_n C dX1_grant_42 rfl 0 rfl ?_
        refine V_get (Cn := RX1) (T := TX1) (N := 12) C hinX1_grant_X1 0 rfl rfl 7 (by decide) hfX1_grant_35 rfl rfl dX1_grant_43 ?_
        refine V_getN (Cn := RX0) (T := TX0) (N := 8) C hinX1_grant_X0 8 rfl rfl 1 (by decide) (C.2.2.2.2.2.2.2.2.2.2 _ nwX1_108) rfl rfl dX1_grant_46 ?_
        refine V_iload_n C dX1_grant_49 rfl 1 rfl ?_
        refine Vm_iald C 14 0 rfl rfl (vqX1_isSheet h4) dX1_grant_50 ?_
        subst hu41
        exact V_iret C rfl (vp_nar_int _) ((if_neg h4).trans ((if_neg h9).trans ((if_pos h16).trans rfl))) ((if_neg h4).trans ((if_neg h9).trans ((if_pos h16).trans rfl))) dX1_grant_51
      ·
        exact absurd (show (0 : Int32) = 1 from (hp0).symm.trans ((if_neg h4).trans ((if_neg h9).trans ((if_neg h16).trans rfl)))) (by decide)
theorem hdX1_budget : yX1_budget.cls ≠ "java/lang/invoke/MethodHandle" ∧ yX1_budget.cls ≠ "java/lang/invoke/VarHandle" ∧ (parseMethodDescriptor yX1_budget.desc).map (fun d => d.parameters.length) = some 1 := by decide +kernel
theorem hvX1_budget : yX1_budget.cls = RX1 ∧ yX1_budget.cls ≠ "java/lang/invoke/MethodHandle" ∧ yX1_budget.cls ≠ "java/lang/invoke/VarHandle" ∧ (parseMethodDescriptor yX1_budget.desc).map (fun d => d.parameters.length) = some 1 := by decide +kernel
theorem hinX1_budget_X1 : ∀ w ∈ u_ws RX1 TX1 12, w ∈ wsX1_budget := by decide +kernel
theorem hfX1_budget_35 : Cond.fieldLink RX1 35 "MeteredSheets" "ledger" "LMeteredSheets$Ledger;" ∈ wsX1_budget := by decide +kernel
theorem hinX1_budget_X0 : ∀ w ∈ u_ws RX0 TX0 8, w ∈ wsX1_budget := by decide +kernel
set_option maxHeartbeats 4000000 in
theorem kX1_budget {l : Launch} {D : va_G} {cI cZ : ClassId} {ad : Nat → Nat} (u : vM) (a1 : Int32) (hp0 : xX1_budget u a1 = 0) : mI D vwCl (tyF cI cZ) xN (wC cI cZ ad) l yX1_budget wsX1_budget rmX1_budget [.ref (ad 0), .int a1] u (rX1_budget u a1) u := by
  refine mI_of (cc := cX1_budget) (maxL := 2) (ret := (some .int)) (own := RX1) rfl (by decide) rfl (wC_ok cI cZ ad) (Nat.le_of_ble_eq_true rfl) (fun p e s m args below meth c A C => ?_)
  refine V_ls (ls' := [(0, .ref (ad 0)), (1, .int a1)]) rfl ?_
  refine V_iload_n C dX1_budget_0 rfl 1 rfl ?_
  refine V_cSi1 C xN_ok (kX1_isSheet _ _) (va_cwS 1 C.2.2.1 gX1_budget_X1_isSheet rfl rfl rfl hdX1_isSheet ⟨Nat.le_of_ble_eq_true rfl, Nat.le_of_ble_eq_true rfl⟩) (Nat.le_of_ble_eq_true rfl) ⟨(Nat.le_of_ble_eq_true rfl), (Nat.le_of_ble_eq_true rfl)⟩ dX1_budget_1 ?_
  refine V_if_ne (tgt := 17) C dX1_budget_4 (by decide) (fun h4 => ?_) (fun h4 => ?_)
  ·
    refine V_aload_n C dX1_budget_17 rfl 0 rfl ?_
    refine V_get (Cn := RX1) (T := TX1) (N := 12) C hinX1_budget_X1 0 rfl rfl 7 (by decide) hfX1_budget_35 rfl rfl dX1_budget_18 ?_
    refine V_getN (Cn := RX0) (T := TX0) (N := 8) C hinX1_budget_X0 8 rfl rfl 1 (by decide) (C.2.2.2.2.2.2.2.2.2.2 _ nwX1_108) rfl rfl dX1_budget_21 ?_
    refine V_iload_n C dX1_budget_24 rfl 1 rfl ?_
    refine Vm_iald C 14 0 rfl rfl (vqX1_isSheet h4) dX1_budget_25 ?_
    exact V_iret C rfl (vp_nar_int _) ((if_neg h4).trans rfl) rfl dX1_budget_26
  ·
    exact absurd (show (0 : Int32) = 1 from (hp0).symm.trans ((if_pos h4).trans rfl)) (by decide)
theorem hdX1_earned : yX1_earned.cls ≠ "java/lang/invoke/MethodHandle" ∧ yX1_earned.cls ≠ "java/lang/invoke/VarHandle" ∧ (parseMethodDescriptor yX1_earned.desc).map (fun d => d.parameters.length) = some 1 := by decide +kernel
theorem hvX1_earned : yX1_earned.cls = RX1 ∧ yX1_earned.cls ≠ "java/lang/invoke/MethodHandle" ∧ yX1_earned.cls ≠ "java/lang/invoke/VarHandle" ∧ (parseMethodDescriptor yX1_earned.desc).map (fun d => d.parameters.length) = some 1 := by decide +kernel
theorem hinX1_earned_X1 : ∀ w ∈ u_ws RX1 TX1 12, w ∈ wsX1_earned := by decide +kernel
theorem hfX1_earned_35 : Cond.fieldLink RX1 35 "MeteredSheets" "ledger" "LMeteredSheets$Ledger;" ∈ wsX1_earned := by decide +kernel
theorem hinX1_earned_X0 : ∀ w ∈ u_ws RX0 TX0 8, w ∈ wsX1_earned := by decide +kernel
set_option maxHeartbeats 4000000 in
theorem kX1_earned {l : Launch} {D : va_G} {cI cZ : ClassId} {ad : Nat → Nat} (u : vM) (a1 : Int32) (hp0 : xX1_earned u a1 = 0) : mI D vwCl (tyF cI cZ) xN (wC cI cZ ad) l yX1_earned wsX1_earned rmX1_earned [.ref (ad 0), .int a1] u (rX1_earned u a1) u := by
  refine mI_of (cc := cX1_earned) (maxL := 2) (ret := (some .int)) (own := RX1) rfl (by decide) rfl (wC_ok cI cZ ad) (Nat.le_of_ble_eq_true rfl) (fun p e s m args below meth c A C => ?_)
  refine V_ls (ls' := [(0, .ref (ad 0)), (1, .int a1)]) rfl ?_
  refine V_iload_n C dX1_earned_0 rfl 1 rfl ?_
  refine V_cSi1 C xN_ok (kX1_isSheet _ _) (va_cwS 1 C.2.2.1 gX1_earned_X1_isSheet rfl rfl rfl hdX1_isSheet ⟨Nat.le_of_ble_eq_true rfl, Nat.le_of_ble_eq_true rfl⟩) (Nat.le_of_ble_eq_true rfl) ⟨(Nat.le_of_ble_eq_true rfl), (Nat.le_of_ble_eq_true rfl)⟩ dX1_earned_1 ?_
  refine V_if_ne (tgt := 17) C dX1_earned_4 (by decide) (fun h4 => ?_) (fun h4 => ?_)
  ·
    refine V_aload_n C dX1_earned_17 rfl 0 rfl ?_
    refine V_get (Cn := RX1) (T := TX1) (N := 12) C hinX1_earned_X1 0 rfl rfl 7 (by decide) hfX1_earned_35 rfl rfl dX1_earned_18 ?_
    refine V_getN (Cn := RX0) (T := TX0) (N := 8) C hinX1_earned_X0 8 rfl rfl 2 (by decide) (C.2.2.2.2.2.2.2.2.2.2 _ nwX1_113) rfl rfl dX1_earned_21 ?_
    refine V_iload_n C dX1_earned_24 rfl 1 rfl ?_
    refine Vm_iald C 15 0 rfl rfl (vqX1_isSheet h4) dX1_earned_25 ?_
    exact V_iret C rfl (vp_nar_int _) ((if_neg h4).trans rfl) rfl dX1_earned_26
  ·
    exact absurd (show (0 : Int32) = 1 from (hp0).symm.trans ((if_pos h4).trans rfl)) (by decide)
theorem hdX1_caused : yX1_caused.cls ≠ "java/lang/invoke/MethodHandle" ∧ yX1_caused.cls ≠ "java/lang/invoke/VarHandle" ∧ (parseMethodDescriptor yX1_caused.desc).map (fun d => d.parameters.length) = some 1 := by decide +kernel
theorem hvX1_caused : yX1_caused.cls = RX1 ∧ yX1_caused.cls ≠ "java/lang/invoke/MethodHandle" ∧ yX1_caused.cls ≠ "java/lang/invoke/VarHandle" ∧ (parseMethodDescriptor yX1_caused.desc).map (fun d => d.parameters.length) = some 1 := by decide +kernel
theorem hinX1_caused_X1 : ∀ w ∈ u_ws RX1 TX1 12, w ∈ wsX1_caused := by decide +kernel
theorem hfX1_caused_35 : Cond.fieldLink RX1 35 "MeteredSheets" "ledger" "LMeteredSheets$Ledger;" ∈ wsX1_caused := by decide +kernel
theorem hinX1_caused_X0 : ∀ w ∈ u_ws RX0 TX0 8, w ∈ wsX1_caused := by decide +kernel
set_option maxHeartbeats 4000000 in
theorem kX1_caused {l : Launch} {D : va_G} {cI cZ : ClassId} {ad : Nat → Nat} (u : vM) (a1 : Int32) (hp0 : xX1_caused u a1 = 0) : mI D vwCl (tyF cI cZ) xN (wC cI cZ ad) l yX1_caused wsX1_caused rmX1_caused [.ref (ad 0), .int a1] u (rX1_caused u a1) u := by
  refine mI_of (cc := cX1_caused) (maxL := 2) (ret := (some .int)) (own := RX1) rfl (by decide) rfl (wC_ok cI cZ ad) (Nat.le_of_ble_eq_true rfl) (fun p e s m args below meth c A C => ?_)
  refine V_ls (ls' := [(0, .ref (ad 0)), (1, .int a1)]) rfl ?_
  refine V_iload_n C dX1_caused_0 rfl 1 rfl ?_
  refine V_cSi1 C xN_ok (kX1_isUser _ _) (va_cwS 1 C.2.2.1 gX1_caused_X1_isUser rfl rfl rfl hdX1_isUser ⟨Nat.le_of_ble_eq_true rfl, Nat.le_of_ble_eq_true rfl⟩) (Nat.le_of_ble_eq_true rfl) ⟨(Nat.le_of_ble_eq_true rfl), (Nat.le_of_ble_eq_true rfl)⟩ dX1_caused_1 ?_
  refine V_if_ne (tgt := 17) C dX1_caused_4 (by decide) (fun h4 => ?_) (fun h4 => ?_)
  ·
    refine V_aload_n C dX1_caused_17 rfl 0 rfl ?_
    refine V_get (Cn := RX1) (T := TX1) (N := 12) C hinX1_caused_X1 0 rfl rfl 7 (by decide) hfX1_caused_35 rfl rfl dX1_caused_18 ?_
    refine V_getN (Cn := RX0) (T := TX0) (N := 8) C hinX1_caused_X0 8 rfl rfl 4 (by decide) (C.2.2.2.2.2.2.2.2.2.2 _ nwX1_116) rfl rfl dX1_caused_21 ?_
    refine V_iload_n C dX1_caused_24 rfl 1 rfl ?_
    refine Vm_iald C 17 0 rfl rfl (vqX1_isUser h4) dX1_caused_25 ?_
    exact V_iret C rfl (vp_nar_int _) ((if_neg h4).trans rfl) rfl dX1_caused_26
  ·
    exact absurd (show (0 : Int32) = 1 from (hp0).symm.trans ((if_pos h4).trans rfl)) (by decide)
theorem hdX1_value : yX1_value.cls ≠ "java/lang/invoke/MethodHandle" ∧ yX1_value.cls ≠ "java/lang/invoke/VarHandle" ∧ (parseMethodDescriptor yX1_value.desc).map (fun d => d.parameters.length) = some 1 := by decide +kernel
theorem hvX1_value : yX1_value.cls = RX1 ∧ yX1_value.cls ≠ "java/lang/invoke/MethodHandle" ∧ yX1_value.cls ≠ "java/lang/invoke/VarHandle" ∧ (parseMethodDescriptor yX1_value.desc).map (fun d => d.parameters.length) = some 1 := by decide +kernel
theorem hinX1_value_X1 : ∀ w ∈ u_ws RX1 TX1 12, w ∈ wsX1_value := by decide +kernel
theorem hfX1_value_22 : Cond.fieldLink RX1 22 "MeteredSheets" "values" "[I" ∈ wsX1_value := by decide +kernel
set_option maxHeartbeats 4000000 in
theorem kX1_value {l : Launch} {D : va_G} {cI cZ : ClassId} {ad : Nat → Nat} (u : vM) (a1 : Int32) (hp0 : xX1_value u a1 = 0) : mI D vwCl (tyF cI cZ) xN (wC cI cZ ad) l yX1_value wsX1_value rmX1_value [.ref (ad 0), .int a1] u (rX1_value u a1) u := by
  refine mI_of (cc := cX1_value) (maxL := 2) (ret := (some .int)) (own := RX1) rfl (by decide) rfl (wC_ok cI cZ ad) (Nat.le_of_ble_eq_true rfl) (fun p e s m args below meth c A C => ?_)
  refine V_ls (ls' := [(0, .ref (ad 0)), (1, .int a1)]) rfl ?_
  refine V_iload_n C dX1_value_0 rfl 1 rfl ?_
  refine V_cSi1 C xN_ok (kX1_isCell _ _) (va_cwS 1 C.2.2.1 gX1_value_X1_isCell rfl rfl rfl hdX1_isCell ⟨Nat.le_of_ble_eq_true rfl, Nat.le_of_ble_eq_true rfl⟩) (Nat.le_of_ble_eq_true rfl) ⟨(Nat.le_of_ble_eq_true rfl), (Nat.le_of_ble_eq_true rfl)⟩ dX1_value_1 ?_
  refine V_if_ne (tgt := 17) C dX1_value_4 (by decide) (fun h4 => ?_) (fun h4 => ?_)
  ·
    refine V_aload_n C dX1_value_17 rfl 0 rfl ?_
    refine V_get (Cn := RX1) (T := TX1) (N := 12) C hinX1_value_X1 0 rfl rfl 4 (by decide) hfX1_value_22 rfl rfl dX1_value_18 ?_
    refine V_iload_n C dX1_value_21 rfl 1 rfl ?_
    refine Vm_iald C 5 0 rfl rfl (vqX1_isCell h4) dX1_value_22 ?_
    exact V_iret C rfl (vp_nar_int _) ((if_neg h4).trans rfl) rfl dX1_value_23
  ·
    exact absurd (show (0 : Int32) = 1 from (hp0).symm.trans ((if_pos h4).trans rfl)) (by decide)
theorem hdX1_isMarked : yX1_isMarked.cls ≠ "java/lang/invoke/MethodHandle" ∧ yX1_isMarked.cls ≠ "java/lang/invoke/VarHandle" ∧ (parseMethodDescriptor yX1_isMarked.desc).map (fun d => d.parameters.length) = some 1 := by decide +kernel
theorem hvX1_isMarked : yX1_isMarked.cls = RX1 ∧ yX1_isMarked.cls ≠ "java/lang/invoke/MethodHandle" ∧ yX1_isMarked.cls ≠ "java/lang/invoke/VarHandle" ∧ (parseMethodDescriptor yX1_isMarked.desc).map (fun d => d.parameters.length) = some 1 := by decide +kernel
theorem hinX1_isMarked_X1 : ∀ w ∈ u_ws RX1 TX1 12, w ∈ wsX1_isMarked := by decide +kernel
theorem hfX1_isMarked_25 : Cond.fieldLink RX1 25 "MeteredSheets" "marked" "[Z" ∈ wsX1_isMarked := by decide +kernel
set_option maxHeartbeats 4000000 in
theorem kX1_isMarked {l : Launch} {D : va_G} {cI cZ : ClassId} {ad : Nat → Nat} (u : vM) (a1 : Int32) (hp0 : bo u 6) (hp1 : xX1_isMarked u a1 = 0) : mI D vwCl (tyF cI cZ) xN (wC cI cZ ad) l yX1_isMarked wsX1_isMarked rmX1_isMarked [.ref (ad 0), .int a1] u (rX1_isMarked u a1) u := by
  refine mI_of (cc := cX1_isMarked) (maxL := 2) (ret := (some .boolean)) (own := RX1) rfl (by decide) rfl (wC_ok cI cZ ad) (Nat.le_of_ble_eq_true rfl) (fun p e s m args below meth c A C => ?_)
  refine V_ls (ls' := [(0, .ref (ad 0)), (1, .int a1)]) rfl ?_
  refine V_iload_n C dX1_isMarked_0 rfl 1 rfl ?_
  refine V_cSi1 C xN_ok (kX1_isCell _ _) (va_cwS 1 C.2.2.1 gX1_isMarked_X1_isCell rfl rfl rfl hdX1_isCell ⟨Nat.le_of_ble_eq_true rfl, Nat.le_of_ble_eq_true rfl⟩) (Nat.le_of_ble_eq_true rfl) ⟨(Nat.le_of_ble_eq_true rfl), (Nat.le_of_ble_eq_true rfl)⟩ dX1_isMarked_1 ?_
  refine V_if_ne (tgt := 17) C dX1_isMarked_4 (by decide) (fun h4 => ?_) (fun h4 => ?_)
  ·
    refine V_aload_n C dX1_isMarked_17 rfl 0 rfl ?_
    refine V_get (Cn := RX1) (T := TX1) (N := 12) C hinX1_isMarked_X1 0 rfl rfl 5 (by decide) hfX1_isMarked_25 rfl rfl dX1_isMarked_18 ?_
    refine V_iload_n C dX1_isMarked_21 rfl 1 rfl ?_
    refine Vm_zald C 6 1 rfl rfl (vqX1_isCell h4) dX1_isMarked_22 ?_
    exact V_iret C rfl (nb_of (hp0 _)) ((if_neg h4).trans rfl) rfl dX1_isMarked_23
  ·
    exact absurd (show (0 : Int32) = 1 from (hp1).symm.trans ((if_pos h4).trans rfl)) (by decide)
theorem hdX1_valueAnew : yX1_valueAnew.cls ≠ "java/lang/invoke/MethodHandle" ∧ yX1_valueAnew.cls ≠ "java/lang/invoke/VarHandle" ∧ (parseMethodDescriptor yX1_valueAnew.desc).map (fun d => d.parameters.length) = some 1 := by decide +kernel
theorem hvX1_valueAnew : yX1_valueAnew.cls = RX1 ∧ yX1_valueAnew.cls ≠ "java/lang/invoke/MethodHandle" ∧ yX1_valueAnew.cls ≠ "java/lang/invoke/VarHandle" ∧ (parseMethodDescriptor yX1_valueAnew.desc).map (fun d => d.parameters.length) = some 1 := by decide +kernel
theorem hinX1_valueAnew_X1 : ∀ w ∈ u_ws RX1 TX1 12, w ∈ wsX1_valueAnew := by decide +kernel
theorem hfX1_valueAnew_29 : Cond.fieldLink RX1 29 "MeteredSheets" "order" "[I" ∈ wsX1_valueAnew := by decide +kernel
theorem hfX1_valueAnew_48 : Cond.fieldLink RX1 48 "MeteredSheets" "fresh" "[I" ∈ wsX1_valueAnew := by decide +kernel
set_option maxHeartbeats 4000000 in
theorem qX1_valueAnew_19 (C : vC p s m args meth c D vwCl (tyF cI cZ) xN A (wC cI cZ ad) cX1_valueAnew RX1 wsX1_valueAnew 4 (some .int)) {Q : State → Prop} (a1 : Int32) : ∀ (n k : Nat), k + n = 24 → ∀ (u : vM), (∀ r : vM, lpX1_valueAnew_19 n k u = r → V p l e rmX1_valueAnew s m args below meth c D vwCl A (wC cI cZ ad) 4 0 0 Q r 60 [(0, .ref (ad 0)), (1, .int a1), (2, .int (nI 24))] []) → V p l e rmX1_valueAnew s m args below meth c D vwCl A (wC cI cZ ad) 4 0 0 Q u 19 [(0, .ref (ad 0)), (1, .int a1), (2, .int (nI k))] [] := by
  intro n
  induction n with
  | zero =>
    intro k hk u KK
    obtain rfl : k = 24 := by omega
    refine V_iload_n C dX1_valueAnew_19 rfl 2 rfl ?_
    refine V_bipush (v := 24) C dX1_valueAnew_20 (by decide) ?_
    refine V_icmp_ge (tgt := 60) C dX1_valueAnew_22 (by decide) (fun _ => ?_) (fun h => absurd (by decide : (24 : Int32) ≤ nI 24) h)
    exact KK _ rfl
  | succ n ih =>
    intro k hk u KK
    have hkB : k < 24 := by omega
    refine V_iload_n C dX1_valueAnew_19 rfl 2 rfl ?_
    refine V_bipush (v := 24) C dX1_valueAnew_20 (by decide) ?_
    refine V_icmp_ge (tgt := 60) C dX1_valueAnew_22 (by decide) (fun h => absurd h (nI_ge hkB (by decide))) (fun _ => ?_)
    refine V_aload_n C dX1_valueAnew_25 rfl 0 rfl ?_
    refine V_get (Cn := RX1) (T := TX1) (N := 12) C hinX1_valueAnew_X1 0 rfl rfl 6 (by decide) hfX1_valueAnew_29 rfl rfl dX1_valueAnew_26 ?_
    refine V_iload_n C dX1_valueAnew_29 rfl 2 rfl ?_
    refine Vm_iald C 7 0 rfl rfl (vp_in_nI hkB (by decide)) dX1_valueAnew_30 ?_
    refine V_top (fun y31 hy31 => ?_)
    refine V_istore_n (ls' := [(0, .ref (ad 0)), (1, .int a1), (2, .int (nI k)), (3, .int y31)]) C dX1_valueAnew_31 rfl (by decide) rfl rfl ?_
    refine V_iload_n C dX1_valueAnew_32 rfl 3 rfl ?_
    refine V_cSi1 C xN_ok (kX1_isCell _ _) (va_cwS 1 C.2.2.1 gX1_valueAnew_X1_isCell rfl rfl rfl hdX1_isCell ⟨Nat.le_of_ble_eq_true rfl, Nat.le_of_ble_eq_true rfl⟩) (Nat.le_of_ble_eq_true rfl) ⟨(Nat.le_of_ble_eq_true rfl), (Nat.le_of_ble_eq_true rfl)⟩ dX1_valueAnew_33 ?_
    refine V_if_eq (tgt := 54) C dX1_valueAnew_36 (by decide) (fun h36 => ?_) (fun h36 => ?_)
    ·
      refine V_iinc (v := (nI (k + 1))) (ls' := [(0, .ref (ad 0)), (1, .int a1), (2, .int (nI (k + 1))), (3, .int y31)]) C dX1_valueAnew_54 2 rfl (nI_1 k) (by decide) rfl rfl ?_
      refine V_goto (tgt := 19) C dX1_valueAnew_57 (by decide) ?_
      subst hy31
      refine V_sub (ls' := _) [0, 1, 2] rfl ?_
      exact ih (k + 1) (by omega) _ (fun r hr => KK r (((if_pos h36).trans rfl).trans hr))
    ·
      refine V_aload_n C dX1_valueAnew_39 rfl 0 rfl ?_
      refine V_get (Cn := RX1) (T := TX1) (N := 12) C hinX1_valueAnew_X1 0 rfl rfl 11 (by decide) hfX1_valueAnew_48 rfl rfl dX1_valueAnew_40 ?_
      refine V_iload_n C dX1_valueAnew_43 rfl 3 rfl ?_
      refine V_aload_n C dX1_valueAnew_44 rfl 0 rfl ?_
      refine V_iload_n C dX1_valueAnew_45 rfl 3 rfl ?_
      refine V_aload_n C dX1_valueAnew_46 rfl 0 rfl ?_
      refine V_get (Cn := RX1) (T := TX1) (N := 12) C hinX1_valueAnew_X1 0 rfl rfl 11 (by decide) hfX1_valueAnew_48 rfl rfl dX1_valueAnew_47 ?_
      refine V_cVi2 C xN_ok (kX1_resultOf_v12 _ _ (vqX1_isCell h36)) (cwV 2 C.2.2.1 gX1_valueAnew_X1_resultOf rfl rfl rfl hvX1_resultOf ⟨Nat.le_of_ble_eq_true rfl, Nat.le_of_ble_eq_true rfl⟩) 0 rfl rfl (Nat.le_of_ble_eq_true rfl) ⟨(Nat.le_of_ble_eq_true rfl), (Nat.le_of_ble_eq_true rfl)⟩ dX1_valueAnew_50 ?_
      refine Vm_iast C 12 0 rfl rfl (vqX1_isCell h36) wC_s12 dX1_valueAnew_53 ?_
      refine V_u (fun u53 hu53 => ?_)
      refine V_iinc (v := (nI (k + 1))) (ls' := [(0, .ref (ad 0)), (1, .int a1), (2, .int (nI (k + 1))), (3, .int y31)]) C dX1_valueAnew_54 2 rfl (nI_1 k) (by decide) rfl rfl ?_
      refine V_goto (tgt := 19) C dX1_valueAnew_57 (by decide) ?_
      subst hu53
      subst hy31
      refine V_sub (ls' := _) [0, 1, 2] rfl ?_
      exact ih (k + 1) (by omega) _ (fun r hr => KK r (((if_neg h36).trans rfl).trans hr))
set_option maxHeartbeats 4000000 in
theorem kX1_valueAnew {l : Launch} {D : va_G} {cI cZ : ClassId} {ad : Nat → Nat} (u : vM) (a1 : Int32) (hp0 : xX1_valueAnew u a1 = 0) : mI D vwCl (tyF cI cZ) xN (wC cI cZ ad) l yX1_valueAnew wsX1_valueAnew rmX1_valueAnew [.ref (ad 0), .int a1] u (rX1_valueAnew u a1) (uX1_valueAnew u a1) := by
  refine mI_of (cc := cX1_valueAnew) (maxL := 4) (ret := (some .int)) (own := RX1) rfl (by decide) rfl (wC_ok cI cZ ad) (Nat.le_of_ble_eq_true rfl) (fun p e s m args below meth c A C => ?_)
  refine V_ls (ls' := [(0, .ref (ad 0)), (1, .int a1)]) rfl ?_
  refine V_iload_n C dX1_valueAnew_0 rfl 1 rfl ?_
  refine V_cSi1 C xN_ok (kX1_isCell _ _) (va_cwS 1 C.2.2.1 gX1_valueAnew_X1_isCell rfl rfl rfl hdX1_isCell ⟨Nat.le_of_ble_eq_true rfl, Nat.le_of_ble_eq_true rfl⟩) (Nat.le_of_ble_eq_true rfl) ⟨(Nat.le_of_ble_eq_true rfl), (Nat.le_of_ble_eq_true rfl)⟩ dX1_valueAnew_1 ?_
  refine V_if_ne (tgt := 17) C dX1_valueAnew_4 (by decide) (fun h4 => ?_) (fun h4 => ?_)
  ·
    refine V_iconst (v := 0) C dX1_valueAnew_17 (by decide) ?_
    refine V_istore_n (ls' := [(0, .ref (ad 0)), (1, .int a1), (2, .int 0)]) C dX1_valueAnew_18 rfl (by decide) rfl rfl ?_
    refine V_sub (ls' := [(0, .ref (ad 0)), (1, .int a1), (2, .int 0)]) [0, 1, 2] rfl ?_
    refine qX1_valueAnew_19 C a1 24 0 (by decide) u (fun r19 hr19 => ?_)
    refine V_aload_n C dX1_valueAnew_60 rfl 0 rfl ?_
    refine V_get (Cn := RX1) (T := TX1) (N := 12) C hinX1_valueAnew_X1 0 rfl rfl 11 (by decide) hfX1_valueAnew_48 rfl rfl dX1_valueAnew_61 ?_
    refine V_iload_n C dX1_valueAnew_64 rfl 1 rfl ?_
    refine Vm_iald C 12 0 rfl rfl (vqX1_isCell h4) dX1_valueAnew_65 ?_
    subst hr19
    exact V_iret C rfl (vp_nar_int _) ((if_neg h4).trans rfl) ((if_neg h4).trans rfl) dX1_valueAnew_66
  ·
    exact absurd (show (0 : Int32) = 1 from (hp0).symm.trans ((if_pos h4).trans rfl)) (by decide)
theorem hdX1_readings : yX1_readings.cls ≠ "java/lang/invoke/MethodHandle" ∧ yX1_readings.cls ≠ "java/lang/invoke/VarHandle" ∧ (parseMethodDescriptor yX1_readings.desc).map (fun d => d.parameters.length) = some 0 := by decide +kernel
theorem hvX1_readings : yX1_readings.cls = RX1 ∧ yX1_readings.cls ≠ "java/lang/invoke/MethodHandle" ∧ yX1_readings.cls ≠ "java/lang/invoke/VarHandle" ∧ (parseMethodDescriptor yX1_readings.desc).map (fun d => d.parameters.length) = some 0 := by decide +kernel
theorem hinX1_readings_X1 : ∀ w ∈ u_ws RX1 TX1 12, w ∈ wsX1_readings := by decide +kernel
theorem hfX1_readings_35 : Cond.fieldLink RX1 35 "MeteredSheets" "ledger" "LMeteredSheets$Ledger;" ∈ wsX1_readings := by decide +kernel
theorem hinX1_readings_X0 : ∀ w ∈ u_ws RX0 TX0 8, w ∈ wsX1_readings := by decide +kernel
set_option maxHeartbeats 4000000 in
theorem kX1_readings {l : Launch} {D : va_G} {cI cZ : ClassId} {ad : Nat → Nat} (u : vM) : mI D vwCl (tyF cI cZ) xN (wC cI cZ ad) l yX1_readings wsX1_readings rmX1_readings [.ref (ad 0)] u (rX1_readings u) u := by
  refine mI_of (cc := cX1_readings) (maxL := 1) (ret := (some .int)) (own := RX1) rfl (by decide) rfl (wC_ok cI cZ ad) (Nat.le_of_ble_eq_true rfl) (fun p e s m args below meth c A C => ?_)
  refine V_ls (ls' := [(0, .ref (ad 0))]) rfl ?_
  refine V_aload_n C dX1_readings_0 rfl 0 rfl ?_
  refine V_get (Cn := RX1) (T := TX1) (N := 12) C hinX1_readings_X1 0 rfl rfl 7 (by decide) hfX1_readings_35 rfl rfl dX1_readings_1 ?_
  refine V_getN (Cn := RX0) (T := TX0) (N := 8) C hinX1_readings_X0 8 rfl rfl 7 (by decide) (C.2.2.2.2.2.2.2.2.2.2 _ nwX1_125) rfl rfl dX1_readings_4 ?_
  show V p l e _ s m args below meth c D vwCl A (wC cI cZ ad) _ _ _ _ _ _ _ (.int (mfd u 8) :: _)
  exact V_iret C rfl (vp_nar_int _) rfl rfl dX1_readings_7
theorem hdX1_reading : yX1_reading.cls ≠ "java/lang/invoke/MethodHandle" ∧ yX1_reading.cls ≠ "java/lang/invoke/VarHandle" ∧ (parseMethodDescriptor yX1_reading.desc).map (fun d => d.parameters.length) = some 1 := by decide +kernel
theorem hvX1_reading : yX1_reading.cls = RX1 ∧ yX1_reading.cls ≠ "java/lang/invoke/MethodHandle" ∧ yX1_reading.cls ≠ "java/lang/invoke/VarHandle" ∧ (parseMethodDescriptor yX1_reading.desc).map (fun d => d.parameters.length) = some 1 := by decide +kernel
theorem hinX1_reading_X1 : ∀ w ∈ u_ws RX1 TX1 12, w ∈ wsX1_reading := by decide +kernel
theorem hfX1_reading_35 : Cond.fieldLink RX1 35 "MeteredSheets" "ledger" "LMeteredSheets$Ledger;" ∈ wsX1_reading := by decide +kernel
theorem hinX1_reading_X0 : ∀ w ∈ u_ws RX0 TX0 8, w ∈ wsX1_reading := by decide +kernel
set_option maxHeartbeats 4000000 in
theorem kX1_reading {l : Launch} {D : va_G} {cI cZ : ClassId} {ad : Nat → Nat} (u : vM) (a1 : Int32) (hp0 : xX1_reading u a1 = 0) : mI D vwCl (tyF cI cZ) xN (wC cI cZ ad) l yX1_reading wsX1_reading rmX1_reading [.ref (ad 0), .int a1] u (rX1_reading u a1) u := by
  refine mI_of (cc := cX1_reading) (maxL := 2) (ret := (some .int)) (own := RX1) rfl (by decide) rfl (wC_ok cI cZ ad) (Nat.le_of_ble_eq_true rfl) (fun p e s m args below meth c A C => ?_)
  refine V_ls (ls' := [(0, .ref (ad 0)), (1, .int a1)]) rfl ?_
  refine V_iload_n C dX1_reading_0 rfl 1 rfl ?_
  refine V_if_lt (tgt := 22) C dX1_reading_1 (by decide) (fun h1 => ?_) (fun h1 => ?_)
  ·
    exact absurd (show (0 : Int32) = 1 from (hp0).symm.trans ((if_pos h1).trans rfl)) (by decide)
  ·
    refine V_iload_n C dX1_reading_4 rfl 1 rfl ?_
    refine V_aload_n C dX1_reading_5 rfl 0 rfl ?_
    refine V_get (Cn := RX1) (T := TX1) (N := 12) C hinX1_reading_X1 0 rfl rfl 7 (by decide) hfX1_reading_35 rfl rfl dX1_reading_6 ?_
    refine V_getN (Cn := RX0) (T := TX0) (N := 8) C hinX1_reading_X0 8 rfl rfl 7 (by decide) (C.2.2.2.2.2.2.2.2.2.2 _ nwX1_125) rfl rfl dX1_reading_9 ?_
    show V p l e _ s m args below meth c D vwCl A (wC cI cZ ad) _ _ _ _ _ _ _ (.int (mfd u 8) :: _)
    refine V_icmp_ge (tgt := 22) C dX1_reading_12 (by decide) (fun h12 => ?_) (fun h12 => ?_)
    ·
      exact absurd (show (0 : Int32) = 1 from (hp0).symm.trans ((if_neg h1).trans ((if_pos h12).trans rfl))) (by decide)
    ·
      refine V_iload_n C dX1_reading_15 rfl 1 rfl ?_
      refine V_sipush (v := 500) C dX1_reading_16 (by decide) ?_
      refine V_icmp_lt (tgt := 32) C dX1_reading_19 (by decide) (fun h19 => ?_) (fun h19 => ?_)
      ·
        refine V_aload_n C dX1_reading_32 rfl 0 rfl ?_
        refine V_get (Cn := RX1) (T := TX1) (N := 12) C hinX1_reading_X1 0 rfl rfl 7 (by decide) hfX1_reading_35 rfl rfl dX1_reading_33 ?_
        refine V_getN (Cn := RX0) (T := TX0) (N := 8) C hinX1_reading_X0 8 rfl rfl 6 (by decide) (C.2.2.2.2.2.2.2.2.2.2 _ nwX1_134) rfl rfl dX1_reading_36 ?_
        refine V_iload_n C dX1_reading_39 rfl 1 rfl ?_
        refine Vm_iald C 19 0 rfl rfl (vq_lt1 h1 h19) dX1_reading_40 ?_
        exact V_iret C rfl (vp_nar_int _) ((if_neg h1).trans ((if_neg h12).trans ((if_pos h19).trans rfl))) rfl dX1_reading_41
      ·
        exact absurd (show (0 : Int32) = 1 from (hp0).symm.trans ((if_neg h1).trans ((if_neg h12).trans ((if_neg h19).trans rfl)))) (by decide)
theorem hdX1_timesRead : yX1_timesRead.cls ≠ "java/lang/invoke/MethodHandle" ∧ yX1_timesRead.cls ≠ "java/lang/invoke/VarHandle" ∧ (parseMethodDescriptor yX1_timesRead.desc).map (fun d => d.parameters.length) = some 2 := by decide +kernel
theorem hvX1_timesRead : yX1_timesRead.cls = RX1 ∧ yX1_timesRead.cls ≠ "java/lang/invoke/MethodHandle" ∧ yX1_timesRead.cls ≠ "java/lang/invoke/VarHandle" ∧ (parseMethodDescriptor yX1_timesRead.desc).map (fun d => d.parameters.length) = some 2 := by decide +kernel
theorem hinX1_timesRead_X1 : ∀ w ∈ u_ws RX1 TX1 12, w ∈ wsX1_timesRead := by decide +kernel
theorem hfX1_timesRead_35 : Cond.fieldLink RX1 35 "MeteredSheets" "ledger" "LMeteredSheets$Ledger;" ∈ wsX1_timesRead := by decide +kernel
theorem hinX1_timesRead_X0 : ∀ w ∈ u_ws RX0 TX0 8, w ∈ wsX1_timesRead := by decide +kernel
set_option maxHeartbeats 4000000 in
theorem kX1_timesRead {l : Launch} {D : va_G} {cI cZ : ClassId} {ad : Nat → Nat} (u : vM) (a1 : Int32) (a2 : Int32) (hp0 : xX1_timesRead u a1 a2 = 0) : mI D vwCl (tyF cI cZ) xN (wC cI cZ ad) l yX1_timesRead wsX1_timesRead rmX1_timesRead [.ref (ad 0), .int a1, .int a2] u (rX1_timesRead u a1 a2) u := by
  refine mI_of (cc := cX1_timesRead) (maxL := 3) (ret := (some .int)) (own := RX1) rfl (by decide) rfl (wC_ok cI cZ ad) (Nat.le_of_ble_eq_true rfl) (fun p e s m args below meth c A C => ?_)
  refine V_ls (ls' := [(0, .ref (ad 0)), (1, .int a1), (2, .int a2)]) rfl ?_
  refine V_iload_n C dX1_timesRead_0 rfl 1 rfl ?_
  refine V_cSi1 C xN_ok (kX1_isCell _ _) (va_cwS 1 C.2.2.1 gX1_timesRead_X1_isCell rfl rfl rfl hdX1_isCell ⟨Nat.le_of_ble_eq_true rfl, Nat.le_of_ble_eq_true rfl⟩) (Nat.le_of_ble_eq_true rfl) ⟨(Nat.le_of_ble_eq_true rfl), (Nat.le_of_ble_eq_true rfl)⟩ dX1_timesRead_1 ?_
  refine V_if_eq (tgt := 14) C dX1_timesRead_4 (by decide) (fun h4 => ?_) (fun h4 => ?_)
  ·
    exact absurd (show (0 : Int32) = 1 from (hp0).symm.trans ((if_pos h4).trans rfl)) (by decide)
  ·
    refine V_iload_n C dX1_timesRead_7 rfl 2 rfl ?_
    refine V_cSi1 C xN_ok (kX1_isCell _ _) (va_cwS 1 C.2.2.1 gX1_timesRead_X1_isCell rfl rfl rfl hdX1_isCell ⟨Nat.le_of_ble_eq_true rfl, Nat.le_of_ble_eq_true rfl⟩) (Nat.le_of_ble_eq_true rfl) ⟨(Nat.le_of_ble_eq_true rfl), (Nat.le_of_ble_eq_true rfl)⟩ dX1_timesRead_8 ?_
    refine V_if_ne (tgt := 24) C dX1_timesRead_11 (by decide) (fun h11 => ?_) (fun h11 => ?_)
    ·
      refine V_aload_n C dX1_timesRead_24 rfl 0 rfl ?_
      refine V_get (Cn := RX1) (T := TX1) (N := 12) C hinX1_timesRead_X1 0 rfl rfl 7 (by decide) hfX1_timesRead_35 rfl rfl dX1_timesRead_25 ?_
      refine V_getN (Cn := RX0) (T := TX0) (N := 8) C hinX1_timesRead_X0 8 rfl rfl 5 (by decide) (C.2.2.2.2.2.2.2.2.2.2 _ nwX1_139) rfl rfl dX1_timesRead_28 ?_
      refine V_iload_n C dX1_timesRead_31 rfl 1 rfl ?_
      refine V_bipush (v := 24) C dX1_timesRead_32 (by decide) ?_
      refine V_imul C dX1_timesRead_34 ?_
      refine V_iload_n C dX1_timesRead_35 rfl 2 rfl ?_
      refine V_iadd C dX1_timesRead_36 ?_
      refine Vm_iald C 18 0 rfl rfl (vq_576 (vqX1_isCell h4) (vqX1_isCell h11)) dX1_timesRead_37 ?_
      exact V_iret C rfl (vp_nar_int _) ((if_neg h4).trans ((if_neg h11).trans rfl)) rfl dX1_timesRead_38
    ·
      exact absurd (show (0 : Int32) = 1 from (hp0).symm.trans ((if_neg h4).trans ((if_pos h11).trans rfl))) (by decide)
theorem hdX1_readOf : yX1_readOf.cls ≠ "java/lang/invoke/MethodHandle" ∧ yX1_readOf.cls ≠ "java/lang/invoke/VarHandle" ∧ (parseMethodDescriptor yX1_readOf.desc).map (fun d => d.parameters.length) = some 1 := by decide +kernel
theorem hvX1_readOf : yX1_readOf.cls = RX1 ∧ yX1_readOf.cls ≠ "java/lang/invoke/MethodHandle" ∧ yX1_readOf.cls ≠ "java/lang/invoke/VarHandle" ∧ (parseMethodDescriptor yX1_readOf.desc).map (fun d => d.parameters.length) = some 1 := by decide +kernel
theorem hinX1_readOf_X1 : ∀ w ∈ u_ws RX1 TX1 12, w ∈ wsX1_readOf := by decide +kernel
theorem hfX1_readOf_35 : Cond.fieldLink RX1 35 "MeteredSheets" "ledger" "LMeteredSheets$Ledger;" ∈ wsX1_readOf := by decide +kernel
theorem hinX1_readOf_X0 : ∀ w ∈ u_ws RX0 TX0 8, w ∈ wsX1_readOf := by decide +kernel
set_option maxHeartbeats 4000000 in
theorem kX1_readOf {l : Launch} {D : va_G} {cI cZ : ClassId} {ad : Nat → Nat} (u : vM) (a1 : Int32) (hp0 : xX1_readOf u a1 = 0) : mI D vwCl (tyF cI cZ) xN (wC cI cZ ad) l yX1_readOf wsX1_readOf rmX1_readOf [.ref (ad 0), .int a1] u (rX1_readOf u a1) u := by
  refine mI_of (cc := cX1_readOf) (maxL := 2) (ret := (some .int)) (own := RX1) rfl (by decide) rfl (wC_ok cI cZ ad) (Nat.le_of_ble_eq_true rfl) (fun p e s m args below meth c A C => ?_)
  refine V_ls (ls' := [(0, .ref (ad 0)), (1, .int a1)]) rfl ?_
  refine V_iload_n C dX1_readOf_0 rfl 1 rfl ?_
  refine V_cSi1 C xN_ok (kX1_isSheet _ _) (va_cwS 1 C.2.2.1 gX1_readOf_X1_isSheet rfl rfl rfl hdX1_isSheet ⟨Nat.le_of_ble_eq_true rfl, Nat.le_of_ble_eq_true rfl⟩) (Nat.le_of_ble_eq_true rfl) ⟨(Nat.le_of_ble_eq_true rfl), (Nat.le_of_ble_eq_true rfl)⟩ dX1_readOf_1 ?_
  refine V_if_ne (tgt := 17) C dX1_readOf_4 (by decide) (fun h4 => ?_) (fun h4 => ?_)
  ·
    refine V_aload_n C dX1_readOf_17 rfl 0 rfl ?_
    refine V_get (Cn := RX1) (T := TX1) (N := 12) C hinX1_readOf_X1 0 rfl rfl 7 (by decide) hfX1_readOf_35 rfl rfl dX1_readOf_18 ?_
    refine V_getN (Cn := RX0) (T := TX0) (N := 8) C hinX1_readOf_X0 8 rfl rfl 3 (by decide) (C.2.2.2.2.2.2.2.2.2.2 _ nwX1_142) rfl rfl dX1_readOf_21 ?_
    refine V_iload_n C dX1_readOf_24 rfl 1 rfl ?_
    refine Vm_iald C 16 0 rfl rfl (vqX1_isSheet h4) dX1_readOf_25 ?_
    exact V_iret C rfl (vp_nar_int _) ((if_neg h4).trans rfl) rfl dX1_readOf_26
  ·
    exact absurd (show (0 : Int32) = 1 from (hp0).symm.trans ((if_pos h4).trans rfl)) (by decide)
