def wO (cI cZ cJ : ClassId) (ad : Nat → Nat) (ao : Nat) (z : vM × (Nat → Int64)) : va_W := wC cI cZ ad z.1 ++ [(ao, .inl (cJ, 1, .inr (.inl z.2)))]
def tyO (cI cZ cJ : ClassId) : List (ClassId × FieldType) := [(cI, .int), (cZ, .boolean), (cJ, .long)]
theorem wO_ok (cI cZ cJ : ClassId) (ad : Nat → Nat) (ao : Nat) : wOK (wO cI cZ cJ ad ao) := fun _ _ => rfl
def xL (U : State) : Prop := xE U ∧ va_Nc "java/lang/IllegalStateException" "java/lang/IllegalArgumentException" U
theorem xL_ok : xOK xL := fun s U hW h => ⟨xE_ok s U hW h.1, va_Nc.moved hW.alike h.2⟩
def oL (x r : Int32) (o : Nat → Int64) : Nat → Int64 := if x = 0 then vp_updL o 0 r.toInt64 else o
def oZ (x r : Int32) (o : Nat → Int64) : Nat → Int64 := if x = 0 then vp_updL o 0 (if r = 0 then 0 else 1) else o
theorem wO_sub {cI cZ cJ : ClassId} {ad : Nat → Nat} {ao : Nat} (z : vM × (Nat → Int64)) (v : vM) : vSub (wO cI cZ cJ ad ao z) (wC cI cZ ad z.1) (wC cI cZ ad v) (wO cI cZ cJ ad ao (v, z.2)) [0, 1, 2, 3, 4, 5, 6, 7, 8, 9, 10, 11, 12, 13, 14, 15, 16, 17, 18, 19] [20] [1, 2, 3, 4, 5, 6, 7, 8, 9, 10, 11, 12, 13, 14, 15, 16, 17, 18, 19, 20, 0] [(ao, .inl (cJ, 1, .inr (.inl z.2)))] := ⟨rfl, rfl, rfl, rfl, by decide, rfl⟩
theorem wO_set {cI cZ cJ : ClassId} {ad : Nat → Nat} {ao : Nat} (z : vM × (Nat → Int64)) (x : Int64) : (wO cI cZ cJ ad ao z).set 20 (ao, .inl (cJ, 1, .inr (.inl (vp_updL z.2 (0 : Int32).toNatClampNeg x)))) = wO cI cZ cJ ad ao (z.1, vp_updL z.2 0 x) := rfl
def rmL_setNumber : Room := { frames := 7, cells := 1, slots := 6, locals := 169 }
theorem hdL_setNumber : yL_setNumber.cls ≠ "java/lang/invoke/MethodHandle" ∧ yL_setNumber.cls ≠ "java/lang/invoke/VarHandle" ∧ (parseMethodDescriptor yL_setNumber.desc).map (fun d => d.parameters.length) = some 5 := by decide +kernel
theorem hcL_setNumber_0 : Cond.classLink RL 13 "java/lang/IllegalArgumentException" ∈ wsL_setNumber := by decide +kernel
set_option maxHeartbeats 4000000 in
theorem kL_setNumber {l : Launch} {D : va_G} {cI cZ cJ : ClassId} {ad : Nat → Nat} {ao : Nat} (hl0 : l.stackTraces = false) (z : vM × (Nat → Int64)) (a1 : Int32) (a2 : Int32) (a3 : Int32) (hp0 : kc z.1) : mJ D vwCl (tyO cI cZ cJ) xL (wO cI cZ cJ ad ao) l yL_setNumber wsL_setNumber rmL_setNumber [.ref (ad 0), .int a1, .int a2, .int a3, .ref ao] z (xX1_setNumber z.1 a1 a2 a3) ((uX1_setNumber z.1 a1 a2 a3), oL (xX1_setNumber z.1 a1 a2 a3) (rX1_setNumber z.1 a1 a2 a3) z.2) := by
  refine mJ_of (cc := cL_setNumber) (maxL := 6) (ret := some .int) (hh := [(0, 12, 15, 13)]) (own := RL) rfl (by decide) rfl (wO_ok cI cZ cJ ad ao) (Nat.le_of_ble_eq_true rfl) (fun p e s m args below meth c A C hZ htab => ?_)
  refine V_ls (ls' := [(0, .ref (ad 0)), (1, .int a1), (2, .int a2), (3, .int a3), (4, .ref ao)]) rfl ?_
  refine V_aload C dL_setNumber_0 4 rfl ?_
  refine V_iconst (v := 0) C dL_setNumber_2 (by decide) ?_
  refine V_aload_n C dL_setNumber_3 rfl 0 rfl ?_
  refine V_iload_n C dL_setNumber_4 rfl 1 rfl ?_
  refine V_iload_n C dL_setNumber_5 rfl 2 rfl ?_
  refine V_iload_n C dL_setNumber_6 rfl 3 rfl ?_
  refine V_callT (As := [.int a1, .int a2, .int a3]) (u' := ((uX1_setNumber z.1 a1 a2 a3), z.2)) C hZ xE_ok (fun h => h.1) ⟨[0, 1], rfl⟩ (kX1_setNumber hl0 z.1 a1 a2 a3 hp0) (wC_ok cI cZ ad) (cwV 3 C.2.2.1 gL_setNumber_X1_setNumber rfl rfl rfl hvX1_setNumber ⟨(Nat.le_of_ble_eq_true rfl), (Nat.le_of_ble_eq_true rfl)⟩) _ _ _ _ (wO_sub z _) 0 rfl rfl rfl (Nat.le_of_ble_eq_true rfl) ⟨(Nat.le_of_ble_eq_true rfl), (Nat.le_of_ble_eq_true rfl)⟩ dL_setNumber_7 (fun h0 => ?_) (fun E j hj hx => ?_)
  ·
    refine V_i2l C dL_setNumber_10 ?_
    refine V_last (u' := ((uX1_setNumber z.1 a1 a2 a3), vp_updL z.2 0 _)) C 20 2 rfl rfl (by unfold vp_in; decide) (wO_set ((uX1_setNumber z.1 a1 a2 a3), z.2) _) dL_setNumber_11 ?_
    refine V_goto (tgt := 19) C dL_setNumber_12 (by decide) ?_
    refine V_iconst (v := 0) C dL_setNumber_19 (by decide) ?_
    exact V_iret C rfl (vp_nar_int _) h0 (by unfold oL; rw [if_pos h0]) dL_setNumber_20
  ·
    simp only [List.mem_cons, List.not_mem_nil, or_false, Prod.mk.injEq] at hj
    rcases hj with ⟨rfl, rfl⟩
    ·
      refine V_hand C [] ⟨0, 12, 15, 13⟩ [] htab (fun z hz => nomatch hz) (by decide) (by decide) hcL_setNumber_0 (C.2.2.2.2.2.2.2.2.2.2.1.2.1 _ en_0 _ List.mem_cons_self) (fun q => ?_)
      refine V_astore (ls' := [(0, .ref (ad 0)), (1, .int a1), (2, .int a2), (3, .int a3), (4, .ref ao), (5, .ref q)]) C dL_setNumber_15 (by decide) rfl rfl ?_
      refine V_iconst (v := 1) C dL_setNumber_17 (by decide) ?_
      exact V_iret C rfl (vp_nar_int _) hx (by unfold oL; rw [if_neg (by rw [hx]; decide)]) dL_setNumber_18
def rmL_setSum : Room := { frames := 7, cells := 1, slots := 6, locals := 171 }
theorem hdL_setSum : yL_setSum.cls ≠ "java/lang/invoke/MethodHandle" ∧ yL_setSum.cls ≠ "java/lang/invoke/VarHandle" ∧ (parseMethodDescriptor yL_setSum.desc).map (fun d => d.parameters.length) = some 7 := by decide +kernel
theorem hcL_setSum_0 : Cond.classLink RL 13 "java/lang/IllegalArgumentException" ∈ wsL_setSum := by decide +kernel
theorem hcL_setSum_1 : Cond.classLink RL 19 "java/lang/IllegalStateException" ∈ wsL_setSum := by decide +kernel
set_option maxHeartbeats 4000000 in
theorem kL_setSum {l : Launch} {D : va_G} {cI cZ cJ : ClassId} {ad : Nat → Nat} {ao : Nat} (hl0 : l.stackTraces = false) (z : vM × (Nat → Int64)) (a1 : Int32) (a2 : Int32) (a3 : Int32) (a4 : Int32) (a5 : Int32) (hp0 : kc z.1) : mJ D vwCl (tyO cI cZ cJ) xL (wO cI cZ cJ ad ao) l yL_setSum wsL_setSum rmL_setSum [.ref (ad 0), .int a1, .int a2, .int a3, .int a4, .int a5, .ref ao] z (xX1_setSum z.1 a1 a2 a3 a4 a5) ((uX1_setSum z.1 a1 a2 a3 a4 a5), oL (xX1_setSum z.1 a1 a2 a3 a4 a5) (rX1_setSum z.1 a1 a2 a3 a4 a5) z.2) := by
  refine mJ_of (cc := cL_setSum) (maxL := 8) (ret := some .int) (hh := [(0, 16, 19, 13), (0, 16, 23, 19)]) (own := RL) rfl (by decide) rfl (wO_ok cI cZ cJ ad ao) (Nat.le_of_ble_eq_true rfl) (fun p e s m args below meth c A C hZ htab => ?_)
  refine V_ls (ls' := [(0, .ref (ad 0)), (1, .int a1), (2, .int a2), (3, .int a3), (4, .int a4), (5, .int a5), (6, .ref ao)]) rfl ?_
  refine V_aload C dL_setSum_0 6 rfl ?_
  refine V_iconst (v := 0) C dL_setSum_2 (by decide) ?_
  refine V_aload_n C dL_setSum_3 rfl 0 rfl ?_
  refine V_iload_n C dL_setSum_4 rfl 1 rfl ?_
  refine V_iload_n C dL_setSum_5 rfl 2 rfl ?_
  refine V_iload_n C dL_setSum_6 rfl 3 rfl ?_
  refine V_iload C dL_setSum_7 4 rfl ?_
  refine V_iload C dL_setSum_9 5 rfl ?_
  refine V_callT (As := [.int a1, .int a2, .int a3, .int a4, .int a5]) (u' := ((uX1_setSum z.1 a1 a2 a3 a4 a5), z.2)) C hZ xE_ok (fun h => h.1) ⟨[0, 1], rfl⟩ (kX1_setSum hl0 z.1 a1 a2 a3 a4 a5 hp0) (wC_ok cI cZ ad) (cwV 5 C.2.2.1 gL_setSum_X1_setSum rfl rfl rfl hvX1_setSum ⟨(Nat.le_of_ble_eq_true rfl), (Nat.le_of_ble_eq_true rfl)⟩) _ _ _ _ (wO_sub z _) 0 rfl rfl rfl (Nat.le_of_ble_eq_true rfl) ⟨(Nat.le_of_ble_eq_true rfl), (Nat.le_of_ble_eq_true rfl)⟩ dL_setSum_11 (fun h0 => ?_) (fun E j hj hx => ?_)
  ·
    refine V_i2l C dL_setSum_14 ?_
    refine V_last (u' := ((uX1_setSum z.1 a1 a2 a3 a4 a5), vp_updL z.2 0 _)) C 20 2 rfl rfl (by unfold vp_in; decide) (wO_set ((uX1_setSum z.1 a1 a2 a3 a4 a5), z.2) _) dL_setSum_15 ?_
    refine V_goto (tgt := 27) C dL_setSum_16 (by decide) ?_
    refine V_iconst (v := 0) C dL_setSum_27 (by decide) ?_
    exact V_iret C rfl (vp_nar_int _) h0 (by unfold oL; rw [if_pos h0]) dL_setSum_28
  ·
    simp only [List.mem_cons, List.not_mem_nil, or_false, Prod.mk.injEq] at hj
    rcases hj with ⟨rfl, rfl⟩ | ⟨rfl, rfl⟩
    ·
      refine V_hand C [] ⟨0, 16, 19, 13⟩ [((⟨0, 16, 23, 19⟩ : ExceptionTableEntry))] htab (fun z hz => nomatch hz) (by decide) (by decide) hcL_setSum_0 (C.2.2.2.2.2.2.2.2.2.2.1.2.1 _ en_0 _ List.mem_cons_self) (fun q => ?_)
      refine V_astore (ls' := [(0, .ref (ad 0)), (1, .int a1), (2, .int a2), (3, .int a3), (4, .int a4), (5, .int a5), (6, .ref ao), (7, .ref q)]) C dL_setSum_19 (by decide) rfl rfl ?_
      refine V_iconst (v := 1) C dL_setSum_21 (by decide) ?_
      exact V_iret C rfl (vp_nar_int _) hx (by unfold oL; rw [if_neg (by rw [hx]; decide)]) dL_setSum_22
    ·
      refine V_hand C [((⟨0, 16, 19, 13⟩ : ExceptionTableEntry))] ⟨0, 16, 23, 19⟩ [] htab (fun z hz => by rw [List.mem_singleton.mp hz]; exact Or.inr ⟨by decide, _, hcL_setSum_0, C.2.2.2.2.2.2.2.2.2.2.2⟩) (by decide) (by decide) hcL_setSum_1 (C.2.2.2.2.2.2.2.2.2.2.1.2.1 _ en_1 _ List.mem_cons_self) (fun q => ?_)
      refine V_astore (ls' := [(0, .ref (ad 0)), (1, .int a1), (2, .int a2), (3, .int a3), (4, .int a4), (5, .int a5), (6, .ref ao), (7, .ref q)]) C dL_setSum_23 (by decide) rfl rfl ?_
      refine V_iconst (v := 2) C dL_setSum_25 (by decide) ?_
      exact V_iret C rfl (vp_nar_int _) hx (by unfold oL; rw [if_neg (by rw [hx]; decide)]) dL_setSum_26
def rmL_setGreater : Room := { frames := 7, cells := 1, slots := 6, locals := 170 }
theorem hdL_setGreater : yL_setGreater.cls ≠ "java/lang/invoke/MethodHandle" ∧ yL_setGreater.cls ≠ "java/lang/invoke/VarHandle" ∧ (parseMethodDescriptor yL_setGreater.desc).map (fun d => d.parameters.length) = some 6 := by decide +kernel
theorem hcL_setGreater_0 : Cond.classLink RL 13 "java/lang/IllegalArgumentException" ∈ wsL_setGreater := by decide +kernel
theorem hcL_setGreater_1 : Cond.classLink RL 19 "java/lang/IllegalStateException" ∈ wsL_setGreater := by decide +kernel
set_option maxHeartbeats 4000000 in
theorem kL_setGreater {l : Launch} {D : va_G} {cI cZ cJ : ClassId} {ad : Nat → Nat} {ao : Nat} (hl0 : l.stackTraces = false) (z : vM × (Nat → Int64)) (a1 : Int32) (a2 : Int32) (a3 : Int32) (a4 : Int32) (hp0 : kc z.1) : mJ D vwCl (tyO cI cZ cJ) xL (wO cI cZ cJ ad ao) l yL_setGreater wsL_setGreater rmL_setGreater [.ref (ad 0), .int a1, .int a2, .int a3, .int a4, .ref ao] z (xX1_setGreater z.1 a1 a2 a3 a4) ((uX1_setGreater z.1 a1 a2 a3 a4), oL (xX1_setGreater z.1 a1 a2 a3 a4) (rX1_setGreater z.1 a1 a2 a3 a4) z.2) := by
  refine mJ_of (cc := cL_setGreater) (maxL := 7) (ret := some .int) (hh := [(0, 14, 17, 13), (0, 14, 21, 19)]) (own := RL) rfl (by decide) rfl (wO_ok cI cZ cJ ad ao) (Nat.le_of_ble_eq_true rfl) (fun p e s m args below meth c A C hZ htab => ?_)
  refine V_ls (ls' := [(0, .ref (ad 0)), (1, .int a1), (2, .int a2), (3, .int a3), (4, .int a4), (5, .ref ao)]) rfl ?_
  refine V_aload C dL_setGreater_0 5 rfl ?_
  refine V_iconst (v := 0) C dL_setGreater_2 (by decide) ?_
  refine V_aload_n C dL_setGreater_3 rfl 0 rfl ?_
  refine V_iload_n C dL_setGreater_4 rfl 1 rfl ?_
  refine V_iload_n C dL_setGreater_5 rfl 2 rfl ?_
  refine V_iload_n C dL_setGreater_6 rfl 3 rfl ?_
  refine V_iload C dL_setGreater_7 4 rfl ?_
  refine V_callT (As := [.int a1, .int a2, .int a3, .int a4]) (u' := ((uX1_setGreater z.1 a1 a2 a3 a4), z.2)) C hZ xE_ok (fun h => h.1) ⟨[0, 1], rfl⟩ (kX1_setGreater hl0 z.1 a1 a2 a3 a4 hp0) (wC_ok cI cZ ad) (cwV 4 C.2.2.1 gL_setGreater_X1_setGreater rfl rfl rfl hvX1_setGreater ⟨(Nat.le_of_ble_eq_true rfl), (Nat.le_of_ble_eq_true rfl)⟩) _ _ _ _ (wO_sub z _) 0 rfl rfl rfl (Nat.le_of_ble_eq_true rfl) ⟨(Nat.le_of_ble_eq_true rfl), (Nat.le_of_ble_eq_true rfl)⟩ dL_setGreater_9 (fun h0 => ?_) (fun E j hj hx => ?_)
  ·
    refine V_i2l C dL_setGreater_12 ?_
    refine V_last (u' := ((uX1_setGreater z.1 a1 a2 a3 a4), vp_updL z.2 0 _)) C 20 2 rfl rfl (by unfold vp_in; decide) (wO_set ((uX1_setGreater z.1 a1 a2 a3 a4), z.2) _) dL_setGreater_13 ?_
    refine V_goto (tgt := 25) C dL_setGreater_14 (by decide) ?_
    refine V_iconst (v := 0) C dL_setGreater_25 (by decide) ?_
    exact V_iret C rfl (vp_nar_int _) h0 (by unfold oL; rw [if_pos h0]) dL_setGreater_26
  ·
    simp only [List.mem_cons, List.not_mem_nil, or_false, Prod.mk.injEq] at hj
    rcases hj with ⟨rfl, rfl⟩ | ⟨rfl, rfl⟩
    ·
      refine V_hand C [] ⟨0, 14, 17, 13⟩ [((⟨0, 14, 21, 19⟩ : ExceptionTableEntry))] htab (fun z hz => nomatch hz) (by decide) (by decide) hcL_setGreater_0 (C.2.2.2.2.2.2.2.2.2.2.1.2.1 _ en_0 _ List.mem_cons_self) (fun q => ?_)
      refine V_astore (ls' := [(0, .ref (ad 0)), (1, .int a1), (2, .int a2), (3, .int a3), (4, .int a4), (5, .ref ao), (6, .ref q)]) C dL_setGreater_17 (by decide) rfl rfl ?_
      refine V_iconst (v := 1) C dL_setGreater_19 (by decide) ?_
      exact V_iret C rfl (vp_nar_int _) hx (by unfold oL; rw [if_neg (by rw [hx]; decide)]) dL_setGreater_20
    ·
      refine V_hand C [((⟨0, 14, 17, 13⟩ : ExceptionTableEntry))] ⟨0, 14, 21, 19⟩ [] htab (fun z hz => by rw [List.mem_singleton.mp hz]; exact Or.inr ⟨by decide, _, hcL_setGreater_0, C.2.2.2.2.2.2.2.2.2.2.2⟩) (by decide) (by decide) hcL_setGreater_1 (C.2.2.2.2.2.2.2.2.2.2.1.2.1 _ en_1 _ List.mem_cons_self) (fun q => ?_)
      refine V_astore (ls' := [(0, .ref (ad 0)), (1, .int a1), (2, .int a2), (3, .int a3), (4, .int a4), (5, .ref ao), (6, .ref q)]) C dL_setGreater_21 (by decide) rfl rfl ?_
      refine V_iconst (v := 2) C dL_setGreater_23 (by decide) ?_
      exact V_iret C rfl (vp_nar_int _) hx (by unfold oL; rw [if_neg (by rw [hx]; decide)]) dL_setGreater_24
def rmL_setTimes : Room := { frames := 7, cells := 1, slots := 6, locals := 170 }
theorem hdL_setTimes : yL_setTimes.cls ≠ "java/lang/invoke/MethodHandle" ∧ yL_setTimes.cls ≠ "java/lang/invoke/VarHandle" ∧ (parseMethodDescriptor yL_setTimes.desc).map (fun d => d.parameters.length) = some 6 := by decide +kernel
theorem hcL_setTimes_0 : Cond.classLink RL 13 "java/lang/IllegalArgumentException" ∈ wsL_setTimes := by decide +kernel
theorem hcL_setTimes_1 : Cond.classLink RL 19 "java/lang/IllegalStateException" ∈ wsL_setTimes := by decide +kernel
set_option maxHeartbeats 4000000 in
theorem kL_setTimes {l : Launch} {D : va_G} {cI cZ cJ : ClassId} {ad : Nat → Nat} {ao : Nat} (hl0 : l.stackTraces = false) (z : vM × (Nat → Int64)) (a1 : Int32) (a2 : Int32) (a3 : Int32) (a4 : Int32) (hp0 : kc z.1) : mJ D vwCl (tyO cI cZ cJ) xL (wO cI cZ cJ ad ao) l yL_setTimes wsL_setTimes rmL_setTimes [.ref (ad 0), .int a1, .int a2, .int a3, .int a4, .ref ao] z (xX1_setTimes z.1 a1 a2 a3 a4) ((uX1_setTimes z.1 a1 a2 a3 a4), oL (xX1_setTimes z.1 a1 a2 a3 a4) (rX1_setTimes z.1 a1 a2 a3 a4) z.2) := by
  refine mJ_of (cc := cL_setTimes) (maxL := 7) (ret := some .int) (hh := [(0, 14, 17, 13), (0, 14, 21, 19)]) (own := RL) rfl (by decide) rfl (wO_ok cI cZ cJ ad ao) (Nat.le_of_ble_eq_true rfl) (fun p e s m args below meth c A C hZ htab => ?_)
  refine V_ls (ls' := [(0, .ref (ad 0)), (1, .int a1), (2, .int a2), (3, .int a3), (4, .int a4), (5, .ref ao)]) rfl ?_
  refine V_aload C dL_setTimes_0 5 rfl ?_
  refine V_iconst (v := 0) C dL_setTimes_2 (by decide) ?_
  refine V_aload_n C dL_setTimes_3 rfl 0 rfl ?_
  refine V_iload_n C dL_setTimes_4 rfl 1 rfl ?_
  refine V_iload_n C dL_setTimes_5 rfl 2 rfl ?_
  refine V_iload_n C dL_setTimes_6 rfl 3 rfl ?_
  refine V_iload C dL_setTimes_7 4 rfl ?_
  refine V_callT (As := [.int a1, .int a2, .int a3, .int a4]) (u' := ((uX1_setTimes z.1 a1 a2 a3 a4), z.2)) C hZ xE_ok (fun h => h.1) ⟨[0, 1], rfl⟩ (kX1_setTimes hl0 z.1 a1 a2 a3 a4 hp0) (wC_ok cI cZ ad) (cwV 4 C.2.2.1 gL_setTimes_X1_setTimes rfl rfl rfl hvX1_setTimes ⟨(Nat.le_of_ble_eq_true rfl), (Nat.le_of_ble_eq_true rfl)⟩) _ _ _ _ (wO_sub z _) 0 rfl rfl rfl (Nat.le_of_ble_eq_true rfl) ⟨(Nat.le_of_ble_eq_true rfl), (Nat.le_of_ble_eq_true rfl)⟩ dL_setTimes_9 (fun h0 => ?_) (fun E j hj hx => ?_)
  ·
    refine V_i2l C dL_setTimes_12 ?_
    refine V_last (u' := ((uX1_setTimes z.1 a1 a2 a3 a4), vp_updL z.2 0 _)) C 20 2 rfl rfl (by unfold vp_in; decide) (wO_set ((uX1_setTimes z.1 a1 a2 a3 a4), z.2) _) dL_setTimes_13 ?_
    refine V_goto (tgt := 25) C dL_setTimes_14 (by decide) ?_
    refine V_iconst (v := 0) C dL_setTimes_25 (by decide) ?_
    exact V_iret C rfl (vp_nar_int _) h0 (by unfold oL; rw [if_pos h0]) dL_setTimes_26
  ·
    simp only [List.mem_cons, List.not_mem_nil, or_false, Prod.mk.injEq] at hj
    rcases hj with ⟨rfl, rfl⟩ | ⟨rfl, rfl⟩
    ·
      refine V_hand C [] ⟨0, 14, 17, 13⟩ [((⟨0, 14, 21, 19⟩ : ExceptionTableEntry))] htab (fun z hz => nomatch hz) (by decide) (by decide) hcL_setTimes_0 (C.2.2.2.2.2.2.2.2.2.2.1.2.1 _ en_0 _ List.mem_cons_self) (fun q => ?_)
      refine V_astore (ls' := [(0, .ref (ad 0)), (1, .int a1), (2, .int a2), (3, .int a3), (4, .int a4), (5, .ref ao), (6, .ref q)]) C dL_setTimes_17 (by decide) rfl rfl ?_
      refine V_iconst (v := 1) C dL_setTimes_19 (by decide) ?_
      exact V_iret C rfl (vp_nar_int _) hx (by unfold oL; rw [if_neg (by rw [hx]; decide)]) dL_setTimes_20
    ·
      refine V_hand C [((⟨0, 14, 17, 13⟩ : ExceptionTableEntry))] ⟨0, 14, 21, 19⟩ [] htab (fun z hz => by rw [List.mem_singleton.mp hz]; exact Or.inr ⟨by decide, _, hcL_setTimes_0, C.2.2.2.2.2.2.2.2.2.2.2⟩) (by decide) (by decide) hcL_setTimes_1 (C.2.2.2.2.2.2.2.2.2.2.1.2.1 _ en_1 _ List.mem_cons_self) (fun q => ?_)
      refine V_astore (ls' := [(0, .ref (ad 0)), (1, .int a1), (2, .int a2), (3, .int a3), (4, .int a4), (5, .ref ao), (6, .ref q)]) C dL_setTimes_21 (by decide) rfl rfl ?_
      refine V_iconst (v := 2) C dL_setTimes_23 (by decide) ?_
      exact V_iret C rfl (vp_nar_int _) hx (by unfold oL; rw [if_neg (by rw [hx]; decide)]) dL_setTimes_24
def rmL_refresh : Room := { frames := 7, cells := 1, slots := 6, locals := 141 }
theorem hdL_refresh : yL_refresh.cls ≠ "java/lang/invoke/MethodHandle" ∧ yL_refresh.cls ≠ "java/lang/invoke/VarHandle" ∧ (parseMethodDescriptor yL_refresh.desc).map (fun d => d.parameters.length) = some 3 := by decide +kernel
theorem hcL_refresh_0 : Cond.classLink RL 13 "java/lang/IllegalArgumentException" ∈ wsL_refresh := by decide +kernel
set_option maxHeartbeats 4000000 in
theorem kL_refresh {l : Launch} {D : va_G} {cI cZ cJ : ClassId} {ad : Nat → Nat} {ao : Nat} (hl0 : l.stackTraces = false) (z : vM × (Nat → Int64)) (a1 : Int32) (hp0 : kc z.1) : mJ D vwCl (tyO cI cZ cJ) xL (wO cI cZ cJ ad ao) l yL_refresh wsL_refresh rmL_refresh [.ref (ad 0), .int a1, .ref ao] z (xX1_refresh z.1 a1) ((uX1_refresh z.1 a1), oL (xX1_refresh z.1 a1) (rX1_refresh z.1 a1) z.2) := by
  refine mJ_of (cc := cL_refresh) (maxL := 4) (ret := some .int) (hh := [(0, 9, 12, 13)]) (own := RL) rfl (by decide) rfl (wO_ok cI cZ cJ ad ao) (Nat.le_of_ble_eq_true rfl) (fun p e s m args below meth c A C hZ htab => ?_)
  refine V_ls (ls' := [(0, .ref (ad 0)), (1, .int a1), (2, .ref ao)]) rfl ?_
  refine V_aload_n C dL_refresh_0 rfl 2 rfl ?_
  refine V_iconst (v := 0) C dL_refresh_1 (by decide) ?_
  refine V_aload_n C dL_refresh_2 rfl 0 rfl ?_
  refine V_iload_n C dL_refresh_3 rfl 1 rfl ?_
  refine V_callT (As := [.int a1]) (u' := ((uX1_refresh z.1 a1), z.2)) C hZ xE_ok (fun h => h.1) ⟨[0, 1], rfl⟩ (kX1_refresh hl0 z.1 a1 hp0) (wC_ok cI cZ ad) (cwV 1 C.2.2.1 gL_refresh_X1_refresh rfl rfl rfl hvX1_refresh ⟨(Nat.le_of_ble_eq_true rfl), (Nat.le_of_ble_eq_true rfl)⟩) _ _ _ _ (wO_sub z _) 0 rfl rfl rfl (Nat.le_of_ble_eq_true rfl) ⟨(Nat.le_of_ble_eq_true rfl), (Nat.le_of_ble_eq_true rfl)⟩ dL_refresh_4 (fun h0 => ?_) (fun E j hj hx => ?_)
  ·
    refine V_i2l C dL_refresh_7 ?_
    refine V_last (u' := ((uX1_refresh z.1 a1), vp_updL z.2 0 _)) C 20 2 rfl rfl (by unfold vp_in; decide) (wO_set ((uX1_refresh z.1 a1), z.2) _) dL_refresh_8 ?_
    refine V_goto (tgt := 15) C dL_refresh_9 (by decide) ?_
    refine V_iconst (v := 0) C dL_refresh_15 (by decide) ?_
    exact V_iret C rfl (vp_nar_int _) h0 (by unfold oL; rw [if_pos h0]) dL_refresh_16
  ·
    simp only [List.mem_cons, List.not_mem_nil, or_false, Prod.mk.injEq] at hj
    rcases hj with ⟨rfl, rfl⟩
    ·
      refine V_hand C [] ⟨0, 9, 12, 13⟩ [] htab (fun z hz => nomatch hz) (by decide) (by decide) hcL_refresh_0 (C.2.2.2.2.2.2.2.2.2.2.1.2.1 _ en_0 _ List.mem_cons_self) (fun q => ?_)
      refine V_astore_n (ls' := [(0, .ref (ad 0)), (1, .int a1), (2, .ref ao), (3, .ref q)]) C dL_refresh_12 rfl (by decide) rfl rfl ?_
      refine V_iconst (v := 1) C dL_refresh_13 (by decide) ?_
      exact V_iret C rfl (vp_nar_int _) hx (by unfold oL; rw [if_neg (by rw [hx]; decide)]) dL_refresh_14
def rmL_setPrice : Room := { frames := 7, cells := 1, slots := 6, locals := 113 }
theorem hdL_setPrice : yL_setPrice.cls ≠ "java/lang/invoke/MethodHandle" ∧ yL_setPrice.cls ≠ "java/lang/invoke/VarHandle" ∧ (parseMethodDescriptor yL_setPrice.desc).map (fun d => d.parameters.length) = some 4 := by decide +kernel
theorem hcL_setPrice_0 : Cond.classLink RL 13 "java/lang/IllegalArgumentException" ∈ wsL_setPrice := by decide +kernel
set_option maxHeartbeats 4000000 in
theorem kL_setPrice {l : Launch} {D : va_G} {cI cZ cJ : ClassId} {ad : Nat → Nat} {ao : Nat} (hl0 : l.stackTraces = false) (z : vM × (Nat → Int64)) (a1 : Int32) (a2 : Int32) : mJ D vwCl (tyO cI cZ cJ) xL (wO cI cZ cJ ad ao) l yL_setPrice wsL_setPrice rmL_setPrice [.ref (ad 0), .int a1, .int a2, .ref ao] z (xX1_setPrice z.1 a1 a2) ((uX1_setPrice z.1 a1 a2), oL (xX1_setPrice z.1 a1 a2) (rX1_setPrice z.1 a1 a2) z.2) := by
  refine mJ_of (cc := cL_setPrice) (maxL := 5) (ret := some .int) (hh := [(0, 10, 13, 13)]) (own := RL) rfl (by decide) rfl (wO_ok cI cZ cJ ad ao) (Nat.le_of_ble_eq_true rfl) (fun p e s m args below meth c A C hZ htab => ?_)
  refine V_ls (ls' := [(0, .ref (ad 0)), (1, .int a1), (2, .int a2), (3, .ref ao)]) rfl ?_
  refine V_aload_n C dL_setPrice_0 rfl 3 rfl ?_
  refine V_iconst (v := 0) C dL_setPrice_1 (by decide) ?_
  refine V_aload_n C dL_setPrice_2 rfl 0 rfl ?_
  refine V_iload_n C dL_setPrice_3 rfl 1 rfl ?_
  refine V_iload_n C dL_setPrice_4 rfl 2 rfl ?_
  refine V_callT (As := [.int a1, .int a2]) (u' := ((uX1_setPrice z.1 a1 a2), z.2)) C hZ xE_ok (fun h => h.1) ⟨[0, 1], rfl⟩ (kX1_setPrice hl0 z.1 a1 a2) (wC_ok cI cZ ad) (cwV 2 C.2.2.1 gL_setPrice_X1_setPrice rfl rfl rfl hvX1_setPrice ⟨(Nat.le_of_ble_eq_true rfl), (Nat.le_of_ble_eq_true rfl)⟩) _ _ _ _ (wO_sub z _) 0 rfl rfl rfl (Nat.le_of_ble_eq_true rfl) ⟨(Nat.le_of_ble_eq_true rfl), (Nat.le_of_ble_eq_true rfl)⟩ dL_setPrice_5 (fun h0 => ?_) (fun E j hj hx => ?_)
  ·
    refine V_i2l C dL_setPrice_8 ?_
    refine V_last (u' := ((uX1_setPrice z.1 a1 a2), vp_updL z.2 0 _)) C 20 2 rfl rfl (by unfold vp_in; decide) (wO_set ((uX1_setPrice z.1 a1 a2), z.2) _) dL_setPrice_9 ?_
    refine V_goto (tgt := 17) C dL_setPrice_10 (by decide) ?_
    refine V_iconst (v := 0) C dL_setPrice_17 (by decide) ?_
    exact V_iret C rfl (vp_nar_int _) h0 (by unfold oL; rw [if_pos h0]) dL_setPrice_18
  ·
    simp only [List.mem_cons, List.not_mem_nil, or_false, Prod.mk.injEq] at hj
    rcases hj with ⟨rfl, rfl⟩
    ·
      refine V_hand C [] ⟨0, 10, 13, 13⟩ [] htab (fun z hz => nomatch hz) (by decide) (by decide) hcL_setPrice_0 (C.2.2.2.2.2.2.2.2.2.2.1.2.1 _ en_0 _ List.mem_cons_self) (fun q => ?_)
      refine V_astore (ls' := [(0, .ref (ad 0)), (1, .int a1), (2, .int a2), (3, .ref ao), (4, .ref q)]) C dL_setPrice_13 (by decide) rfl rfl ?_
      refine V_iconst (v := 1) C dL_setPrice_15 (by decide) ?_
      exact V_iret C rfl (vp_nar_int _) hx (by unfold oL; rw [if_neg (by rw [hx]; decide)]) dL_setPrice_16
def rmL_grant : Room := { frames := 7, cells := 1, slots := 6, locals := 112 }
theorem hdL_grant : yL_grant.cls ≠ "java/lang/invoke/MethodHandle" ∧ yL_grant.cls ≠ "java/lang/invoke/VarHandle" ∧ (parseMethodDescriptor yL_grant.desc).map (fun d => d.parameters.length) = some 4 := by decide +kernel
theorem hcL_grant_0 : Cond.classLink RL 13 "java/lang/IllegalArgumentException" ∈ wsL_grant := by decide +kernel
set_option maxHeartbeats 4000000 in
theorem kL_grant {l : Launch} {D : va_G} {cI cZ cJ : ClassId} {ad : Nat → Nat} {ao : Nat} (hl0 : l.stackTraces = false) (z : vM × (Nat → Int64)) (a1 : Int32) (a2 : Int32) : mJ D vwCl (tyO cI cZ cJ) xL (wO cI cZ cJ ad ao) l yL_grant wsL_grant rmL_grant [.ref (ad 0), .int a1, .int a2, .ref ao] z (xX1_grant z.1 a1 a2) ((uX1_grant z.1 a1 a2), oL (xX1_grant z.1 a1 a2) (rX1_grant z.1 a1 a2) z.2) := by
  refine mJ_of (cc := cL_grant) (maxL := 5) (ret := some .int) (hh := [(0, 10, 13, 13)]) (own := RL) rfl (by decide) rfl (wO_ok cI cZ cJ ad ao) (Nat.le_of_ble_eq_true rfl) (fun p e s m args below meth c A C hZ htab => ?_)
  refine V_ls (ls' := [(0, .ref (ad 0)), (1, .int a1), (2, .int a2), (3, .ref ao)]) rfl ?_
  refine V_aload_n C dL_grant_0 rfl 3 rfl ?_
  refine V_iconst (v := 0) C dL_grant_1 (by decide) ?_
  refine V_aload_n C dL_grant_2 rfl 0 rfl ?_
  refine V_iload_n C dL_grant_3 rfl 1 rfl ?_
  refine V_iload_n C dL_grant_4 rfl 2 rfl ?_
  refine V_callT (As := [.int a1, .int a2]) (u' := ((uX1_grant z.1 a1 a2), z.2)) C hZ xE_ok (fun h => h.1) ⟨[0, 1], rfl⟩ (kX1_grant hl0 z.1 a1 a2) (wC_ok cI cZ ad) (cwV 2 C.2.2.1 gL_grant_X1_grant rfl rfl rfl hvX1_grant ⟨(Nat.le_of_ble_eq_true rfl), (Nat.le_of_ble_eq_true rfl)⟩) _ _ _ _ (wO_sub z _) 0 rfl rfl rfl (Nat.le_of_ble_eq_true rfl) ⟨(Nat.le_of_ble_eq_true rfl), (Nat.le_of_ble_eq_true rfl)⟩ dL_grant_5 (fun h0 => ?_) (fun E j hj hx => ?_)
  ·
    refine V_i2l C dL_grant_8 ?_
    refine V_last (u' := ((uX1_grant z.1 a1 a2), vp_updL z.2 0 _)) C 20 2 rfl rfl (by unfold vp_in; decide) (wO_set ((uX1_grant z.1 a1 a2), z.2) _) dL_grant_9 ?_
    refine V_goto (tgt := 17) C dL_grant_10 (by decide) ?_
    refine V_iconst (v := 0) C dL_grant_17 (by decide) ?_
    exact V_iret C rfl (vp_nar_int _) h0 (by unfold oL; rw [if_pos h0]) dL_grant_18
  ·
    simp only [List.mem_cons, List.not_mem_nil, or_false, Prod.mk.injEq] at hj
    rcases hj with ⟨rfl, rfl⟩
    ·
      refine V_hand C [] ⟨0, 10, 13, 13⟩ [] htab (fun z hz => nomatch hz) (by decide) (by decide) hcL_grant_0 (C.2.2.2.2.2.2.2.2.2.2.1.2.1 _ en_0 _ List.mem_cons_self) (fun q => ?_)
      refine V_astore (ls' := [(0, .ref (ad 0)), (1, .int a1), (2, .int a2), (3, .ref ao), (4, .ref q)]) C dL_grant_13 (by decide) rfl rfl ?_
      refine V_iconst (v := 1) C dL_grant_15 (by decide) ?_
      exact V_iret C rfl (vp_nar_int _) hx (by unfold oL; rw [if_neg (by rw [hx]; decide)]) dL_grant_16
def rmL_budget : Room := { frames := 7, cells := 1, slots := 6, locals := 111 }
theorem hdL_budget : yL_budget.cls ≠ "java/lang/invoke/MethodHandle" ∧ yL_budget.cls ≠ "java/lang/invoke/VarHandle" ∧ (parseMethodDescriptor yL_budget.desc).map (fun d => d.parameters.length) = some 3 := by decide +kernel
theorem hcL_budget_0 : Cond.classLink RL 13 "java/lang/IllegalArgumentException" ∈ wsL_budget := by decide +kernel
set_option maxHeartbeats 4000000 in
theorem kL_budget {l : Launch} {D : va_G} {cI cZ cJ : ClassId} {ad : Nat → Nat} {ao : Nat} (hl0 : l.stackTraces = false) (z : vM × (Nat → Int64)) (a1 : Int32) : mJ D vwCl (tyO cI cZ cJ) xL (wO cI cZ cJ ad ao) l yL_budget wsL_budget rmL_budget [.ref (ad 0), .int a1, .ref ao] z (xX1_budget z.1 a1) (z.1, oL (xX1_budget z.1 a1) (rX1_budget z.1 a1) z.2) := by
  refine mJ_of (cc := cL_budget) (maxL := 4) (ret := some .int) (hh := [(0, 9, 12, 13)]) (own := RL) rfl (by decide) rfl (wO_ok cI cZ cJ ad ao) (Nat.le_of_ble_eq_true rfl) (fun p e s m args below meth c A C hZ htab => ?_)
  refine V_ls (ls' := [(0, .ref (ad 0)), (1, .int a1), (2, .ref ao)]) rfl ?_
  refine V_aload_n C dL_budget_0 rfl 2 rfl ?_
  refine V_iconst (v := 0) C dL_budget_1 (by decide) ?_
  refine V_aload_n C dL_budget_2 rfl 0 rfl ?_
  refine V_iload_n C dL_budget_3 rfl 1 rfl ?_
  refine V_callT (As := [.int a1]) (u' := (z.1, z.2)) C hZ xE_ok (fun h => h.1) ⟨[0, 1], rfl⟩ (kX1_budget hl0 z.1 a1) (wC_ok cI cZ ad) (cwV 1 C.2.2.1 gL_budget_X1_budget rfl rfl rfl hvX1_budget ⟨(Nat.le_of_ble_eq_true rfl), (Nat.le_of_ble_eq_true rfl)⟩) _ _ _ _ (wO_sub z _) 0 rfl rfl rfl (Nat.le_of_ble_eq_true rfl) ⟨(Nat.le_of_ble_eq_true rfl), (Nat.le_of_ble_eq_true rfl)⟩ dL_budget_4 (fun h0 => ?_) (fun E j hj hx => ?_)
  ·
    refine V_i2l C dL_budget_7 ?_
    refine V_last (u' := (z.1, vp_updL z.2 0 _)) C 20 2 rfl rfl (by unfold vp_in; decide) (wO_set (z.1, z.2) _) dL_budget_8 ?_
    refine V_goto (tgt := 15) C dL_budget_9 (by decide) ?_
    refine V_iconst (v := 0) C dL_budget_15 (by decide) ?_
    exact V_iret C rfl (vp_nar_int _) h0 (by unfold oL; rw [if_pos h0]) dL_budget_16
  ·
    simp only [List.mem_cons, List.not_mem_nil, or_false, Prod.mk.injEq] at hj
    rcases hj with ⟨rfl, rfl⟩
    ·
      refine V_hand C [] ⟨0, 9, 12, 13⟩ [] htab (fun z hz => nomatch hz) (by decide) (by decide) hcL_budget_0 (C.2.2.2.2.2.2.2.2.2.2.1.2.1 _ en_0 _ List.mem_cons_self) (fun q => ?_)
      refine V_astore_n (ls' := [(0, .ref (ad 0)), (1, .int a1), (2, .ref ao), (3, .ref q)]) C dL_budget_12 rfl (by decide) rfl rfl ?_
      refine V_iconst (v := 1) C dL_budget_13 (by decide) ?_
      exact V_iret C rfl (vp_nar_int _) hx (by unfold oL; rw [if_neg (by rw [hx]; decide)]) dL_budget_14
def rmL_earned : Room := { frames := 7, cells := 1, slots := 6, locals := 111 }
theorem hdL_earned : yL_earned.cls ≠ "java/lang/invoke/MethodHandle" ∧ yL_earned.cls ≠ "java/lang/invoke/VarHandle" ∧ (parseMethodDescriptor yL_earned.desc).map (fun d => d.parameters.length) = some 3 := by decide +kernel
theorem hcL_earned_0 : Cond.classLink RL 13 "java/lang/IllegalArgumentException" ∈ wsL_earned := by decide +kernel
set_option maxHeartbeats 4000000 in
theorem kL_earned {l : Launch} {D : va_G} {cI cZ cJ : ClassId} {ad : Nat → Nat} {ao : Nat} (hl0 : l.stackTraces = false) (z : vM × (Nat → Int64)) (a1 : Int32) : mJ D vwCl (tyO cI cZ cJ) xL (wO cI cZ cJ ad ao) l yL_earned wsL_earned rmL_earned [.ref (ad 0), .int a1, .ref ao] z (xX1_earned z.1 a1) (z.1, oL (xX1_earned z.1 a1) (rX1_earned z.1 a1) z.2) := by
  refine mJ_of (cc := cL_earned) (maxL := 4) (ret := some .int) (hh := [(0, 9, 12, 13)]) (own := RL) rfl (by decide) rfl (wO_ok cI cZ cJ ad ao) (Nat.le_of_ble_eq_true rfl) (fun p e s m args below meth c A C hZ htab => ?_)
  refine V_ls (ls' := [(0, .ref (ad 0)), (1, .int a1), (2, .ref ao)]) rfl ?_
  refine V_aload_n C dL_earned_0 rfl 2 rfl ?_
  refine V_iconst (v := 0) C dL_earned_1 (by decide) ?_
  refine V_aload_n C dL_earned_2 rfl 0 rfl ?_
  refine V_iload_n C dL_earned_3 rfl 1 rfl ?_
  refine V_callT (As := [.int a1]) (u' := (z.1, z.2)) C hZ xE_ok (fun h => h.1) ⟨[0, 1], rfl⟩ (kX1_earned hl0 z.1 a1) (wC_ok cI cZ ad) (cwV 1 C.2.2.1 gL_earned_X1_earned rfl rfl rfl hvX1_earned ⟨(Nat.le_of_ble_eq_true rfl), (Nat.le_of_ble_eq_true rfl)⟩) _ _ _ _ (wO_sub z _) 0 rfl rfl rfl (Nat.le_of_ble_eq_true rfl) ⟨(Nat.le_of_ble_eq_true rfl), (Nat.le_of_ble_eq_true rfl)⟩ dL_earned_4 (fun h0 => ?_) (fun E j hj hx => ?_)
  ·
    refine V_i2l C dL_earned_7 ?_
    refine V_last (u' := (z.1, vp_updL z.2 0 _)) C 20 2 rfl rfl (by unfold vp_in; decide) (wO_set (z.1, z.2) _) dL_earned_8 ?_
    refine V_goto (tgt := 15) C dL_earned_9 (by decide) ?_
    refine V_iconst (v := 0) C dL_earned_15 (by decide) ?_
    exact V_iret C rfl (vp_nar_int _) h0 (by unfold oL; rw [if_pos h0]) dL_earned_16
  ·
    simp only [List.mem_cons, List.not_mem_nil, or_false, Prod.mk.injEq] at hj
    rcases hj with ⟨rfl, rfl⟩
    ·
      refine V_hand C [] ⟨0, 9, 12, 13⟩ [] htab (fun z hz => nomatch hz) (by decide) (by decide) hcL_earned_0 (C.2.2.2.2.2.2.2.2.2.2.1.2.1 _ en_0 _ List.mem_cons_self) (fun q => ?_)
      refine V_astore_n (ls' := [(0, .ref (ad 0)), (1, .int a1), (2, .ref ao), (3, .ref q)]) C dL_earned_12 rfl (by decide) rfl rfl ?_
      refine V_iconst (v := 1) C dL_earned_13 (by decide) ?_
      exact V_iret C rfl (vp_nar_int _) hx (by unfold oL; rw [if_neg (by rw [hx]; decide)]) dL_earned_14
def rmL_caused : Room := { frames := 7, cells := 1, slots := 6, locals := 111 }
theorem hdL_caused : yL_caused.cls ≠ "java/lang/invoke/MethodHandle" ∧ yL_caused.cls ≠ "java/lang/invoke/VarHandle" ∧ (parseMethodDescriptor yL_caused.desc).map (fun d => d.parameters.length) = some 3 := by decide +kernel
theorem hcL_caused_0 : Cond.classLink RL 13 "java/lang/IllegalArgumentException" ∈ wsL_caused := by decide +kernel
set_option maxHeartbeats 4000000 in
theorem kL_caused {l : Launch} {D : va_G} {cI cZ cJ : ClassId} {ad : Nat → Nat} {ao : Nat} (hl0 : l.stackTraces = false) (z : vM × (Nat → Int64)) (a1 : Int32) : mJ D vwCl (tyO cI cZ cJ) xL (wO cI cZ cJ ad ao) l yL_caused wsL_caused rmL_caused [.ref (ad 0), .int a1, .ref ao] z (xX1_caused z.1 a1) (z.1, oL (xX1_caused z.1 a1) (rX1_caused z.1 a1) z.2) := by
  refine mJ_of (cc := cL_caused) (maxL := 4) (ret := some .int) (hh := [(0, 9, 12, 13)]) (own := RL) rfl (by decide) rfl (wO_ok cI cZ cJ ad ao) (Nat.le_of_ble_eq_true rfl) (fun p e s m args below meth c A C hZ htab => ?_)
  refine V_ls (ls' := [(0, .ref (ad 0)), (1, .int a1), (2, .ref ao)]) rfl ?_
  refine V_aload_n C dL_caused_0 rfl 2 rfl ?_
  refine V_iconst (v := 0) C dL_caused_1 (by decide) ?_
  refine V_aload_n C dL_caused_2 rfl 0 rfl ?_
  refine V_iload_n C dL_caused_3 rfl 1 rfl ?_
  refine V_callT (As := [.int a1]) (u' := (z.1, z.2)) C hZ xE_ok (fun h => h.1) ⟨[0, 1], rfl⟩ (kX1_caused hl0 z.1 a1) (wC_ok cI cZ ad) (cwV 1 C.2.2.1 gL_caused_X1_caused rfl rfl rfl hvX1_caused ⟨(Nat.le_of_ble_eq_true rfl), (Nat.le_of_ble_eq_true rfl)⟩) _ _ _ _ (wO_sub z _) 0 rfl rfl rfl (Nat.le_of_ble_eq_true rfl) ⟨(Nat.le_of_ble_eq_true rfl), (Nat.le_of_ble_eq_true rfl)⟩ dL_caused_4 (fun h0 => ?_) (fun E j hj hx => ?_)
  ·
    refine V_i2l C dL_caused_7 ?_
    refine V_last (u' := (z.1, vp_updL z.2 0 _)) C 20 2 rfl rfl (by unfold vp_in; decide) (wO_set (z.1, z.2) _) dL_caused_8 ?_
    refine V_goto (tgt := 15) C dL_caused_9 (by decide) ?_
    refine V_iconst (v := 0) C dL_caused_15 (by decide) ?_
    exact V_iret C rfl (vp_nar_int _) h0 (by unfold oL; rw [if_pos h0]) dL_caused_16
  ·
    simp only [List.mem_cons, List.not_mem_nil, or_false, Prod.mk.injEq] at hj
    rcases hj with ⟨rfl, rfl⟩
    ·
      refine V_hand C [] ⟨0, 9, 12, 13⟩ [] htab (fun z hz => nomatch hz) (by decide) (by decide) hcL_caused_0 (C.2.2.2.2.2.2.2.2.2.2.1.2.1 _ en_0 _ List.mem_cons_self) (fun q => ?_)
      refine V_astore_n (ls' := [(0, .ref (ad 0)), (1, .int a1), (2, .ref ao), (3, .ref q)]) C dL_caused_12 rfl (by decide) rfl rfl ?_
      refine V_iconst (v := 1) C dL_caused_13 (by decide) ?_
      exact V_iret C rfl (vp_nar_int _) hx (by unfold oL; rw [if_neg (by rw [hx]; decide)]) dL_caused_14
def rmL_value : Room := { frames := 7, cells := 1, slots := 6, locals := 111 }
theorem hdL_value : yL_value.cls ≠ "java/lang/invoke/MethodHandle" ∧ yL_value.cls ≠ "java/lang/invoke/VarHandle" ∧ (parseMethodDescriptor yL_value.desc).map (fun d => d.parameters.length) = some 3 := by decide +kernel
theorem hcL_value_0 : Cond.classLink RL 13 "java/lang/IllegalArgumentException" ∈ wsL_value := by decide +kernel
set_option maxHeartbeats 4000000 in
theorem kL_value {l : Launch} {D : va_G} {cI cZ cJ : ClassId} {ad : Nat → Nat} {ao : Nat} (hl0 : l.stackTraces = false) (z : vM × (Nat → Int64)) (a1 : Int32) : mJ D vwCl (tyO cI cZ cJ) xL (wO cI cZ cJ ad ao) l yL_value wsL_value rmL_value [.ref (ad 0), .int a1, .ref ao] z (xX1_value z.1 a1) (z.1, oL (xX1_value z.1 a1) (rX1_value z.1 a1) z.2) := by
  refine mJ_of (cc := cL_value) (maxL := 4) (ret := some .int) (hh := [(0, 9, 12, 13)]) (own := RL) rfl (by decide) rfl (wO_ok cI cZ cJ ad ao) (Nat.le_of_ble_eq_true rfl) (fun p e s m args below meth c A C hZ htab => ?_)
  refine V_ls (ls' := [(0, .ref (ad 0)), (1, .int a1), (2, .ref ao)]) rfl ?_
  refine V_aload_n C dL_value_0 rfl 2 rfl ?_
  refine V_iconst (v := 0) C dL_value_1 (by decide) ?_
  refine V_aload_n C dL_value_2 rfl 0 rfl ?_
  refine V_iload_n C dL_value_3 rfl 1 rfl ?_
  refine V_callT (As := [.int a1]) (u' := (z.1, z.2)) C hZ xE_ok (fun h => h.1) ⟨[0, 1], rfl⟩ (kX1_value hl0 z.1 a1) (wC_ok cI cZ ad) (cwV 1 C.2.2.1 gL_value_X1_value rfl rfl rfl hvX1_value ⟨(Nat.le_of_ble_eq_true rfl), (Nat.le_of_ble_eq_true rfl)⟩) _ _ _ _ (wO_sub z _) 0 rfl rfl rfl (Nat.le_of_ble_eq_true rfl) ⟨(Nat.le_of_ble_eq_true rfl), (Nat.le_of_ble_eq_true rfl)⟩ dL_value_4 (fun h0 => ?_) (fun E j hj hx => ?_)
  ·
    refine V_i2l C dL_value_7 ?_
    refine V_last (u' := (z.1, vp_updL z.2 0 _)) C 20 2 rfl rfl (by unfold vp_in; decide) (wO_set (z.1, z.2) _) dL_value_8 ?_
    refine V_goto (tgt := 15) C dL_value_9 (by decide) ?_
    refine V_iconst (v := 0) C dL_value_15 (by decide) ?_
    exact V_iret C rfl (vp_nar_int _) h0 (by unfold oL; rw [if_pos h0]) dL_value_16
  ·
    simp only [List.mem_cons, List.not_mem_nil, or_false, Prod.mk.injEq] at hj
    rcases hj with ⟨rfl, rfl⟩
    ·
      refine V_hand C [] ⟨0, 9, 12, 13⟩ [] htab (fun z hz => nomatch hz) (by decide) (by decide) hcL_value_0 (C.2.2.2.2.2.2.2.2.2.2.1.2.1 _ en_0 _ List.mem_cons_self) (fun q => ?_)
      refine V_astore_n (ls' := [(0, .ref (ad 0)), (1, .int a1), (2, .ref ao), (3, .ref q)]) C dL_value_12 rfl (by decide) rfl rfl ?_
      refine V_iconst (v := 1) C dL_value_13 (by decide) ?_
      exact V_iret C rfl (vp_nar_int _) hx (by unfold oL; rw [if_neg (by rw [hx]; decide)]) dL_value_14
def rmL_isMarked : Room := { frames := 7, cells := 1, slots := 6, locals := 111 }
theorem hdL_isMarked : yL_isMarked.cls ≠ "java/lang/invoke/MethodHandle" ∧ yL_isMarked.cls ≠ "java/lang/invoke/VarHandle" ∧ (parseMethodDescriptor yL_isMarked.desc).map (fun d => d.parameters.length) = some 3 := by decide +kernel
theorem hcL_isMarked_0 : Cond.classLink RL 13 "java/lang/IllegalArgumentException" ∈ wsL_isMarked := by decide +kernel
set_option maxHeartbeats 4000000 in
theorem kL_isMarked {l : Launch} {D : va_G} {cI cZ cJ : ClassId} {ad : Nat → Nat} {ao : Nat} (hl0 : l.stackTraces = false) (z : vM × (Nat → Int64)) (a1 : Int32) (hp0 : bo z.1 6) : mJ D vwCl (tyO cI cZ cJ) xL (wO cI cZ cJ ad ao) l yL_isMarked wsL_isMarked rmL_isMarked [.ref (ad 0), .int a1, .ref ao] z (xX1_isMarked z.1 a1) (z.1, oZ (xX1_isMarked z.1 a1) (rX1_isMarked z.1 a1) z.2) := by
  refine mJ_of (cc := cL_isMarked) (maxL := 4) (ret := some .int) (hh := [(0, 16, 19, 13)]) (own := RL) rfl (by decide) rfl (wO_ok cI cZ cJ ad ao) (Nat.le_of_ble_eq_true rfl) (fun p e s m args below meth c A C hZ htab => ?_)
  refine V_ls (ls' := [(0, .ref (ad 0)), (1, .int a1), (2, .ref ao)]) rfl ?_
  refine V_aload_n C dL_isMarked_0 rfl 2 rfl ?_
  refine V_iconst (v := 0) C dL_isMarked_1 (by decide) ?_
  refine V_aload_n C dL_isMarked_2 rfl 0 rfl ?_
  refine V_iload_n C dL_isMarked_3 rfl 1 rfl ?_
  refine V_callT (As := [.int a1]) (u' := (z.1, z.2)) C hZ xE_ok (fun h => h.1) ⟨[0, 1], rfl⟩ (kX1_isMarked hl0 z.1 a1 hp0) (wC_ok cI cZ ad) (cwV 1 C.2.2.1 gL_isMarked_X1_isMarked rfl rfl rfl hvX1_isMarked ⟨(Nat.le_of_ble_eq_true rfl), (Nat.le_of_ble_eq_true rfl)⟩) _ _ _ _ (wO_sub z _) 0 rfl rfl rfl (Nat.le_of_ble_eq_true rfl) ⟨(Nat.le_of_ble_eq_true rfl), (Nat.le_of_ble_eq_true rfl)⟩ dL_isMarked_4 (fun h0 => ?_) (fun E j hj hx => ?_)
  ·
    refine V_if_eq (tgt := 14) C dL_isMarked_7 (by decide) (fun h7 => ?_) (fun h7 => ?_)
    ·
      refine V_lconst (v := 0) C dL_isMarked_14 (by decide) ?_
      refine V_last (u' := (z.1, vp_updL z.2 0 _)) C 20 2 rfl rfl (by unfold vp_in; decide) (wO_set (z.1, z.2) _) dL_isMarked_15 ?_
      refine V_goto (tgt := 22) C dL_isMarked_16 (by decide) ?_
      refine V_iconst (v := 0) C dL_isMarked_22 (by decide) ?_
      exact V_iret C rfl (vp_nar_int _) h0 (by unfold oZ; rw [if_pos h0, if_pos h7]) dL_isMarked_23
    ·
      refine V_lconst (v := 1) C dL_isMarked_10 (by decide) ?_
      refine V_goto (tgt := 15) C dL_isMarked_11 (by decide) ?_
      refine V_last (u' := (z.1, vp_updL z.2 0 _)) C 20 2 rfl rfl (by unfold vp_in; decide) (wO_set (z.1, z.2) _) dL_isMarked_15 ?_
      refine V_goto (tgt := 22) C dL_isMarked_16 (by decide) ?_
      refine V_iconst (v := 0) C dL_isMarked_22 (by decide) ?_
      exact V_iret C rfl (vp_nar_int _) h0 (by unfold oZ; rw [if_pos h0, if_neg h7]) dL_isMarked_23
  ·
    simp only [List.mem_cons, List.not_mem_nil, or_false, Prod.mk.injEq] at hj
    rcases hj with ⟨rfl, rfl⟩
    ·
      refine V_hand C [] ⟨0, 16, 19, 13⟩ [] htab (fun z hz => nomatch hz) (by decide) (by decide) hcL_isMarked_0 (C.2.2.2.2.2.2.2.2.2.2.1.2.1 _ en_0 _ List.mem_cons_self) (fun q => ?_)
      refine V_astore_n (ls' := [(0, .ref (ad 0)), (1, .int a1), (2, .ref ao), (3, .ref q)]) C dL_isMarked_19 rfl (by decide) rfl rfl ?_
      refine V_iconst (v := 1) C dL_isMarked_20 (by decide) ?_
      exact V_iret C rfl (vp_nar_int _) hx (by unfold oZ; rw [if_neg (by rw [hx]; decide)]) dL_isMarked_21
def rmL_valueAnew : Room := { frames := 7, cells := 1, slots := 6, locals := 113 }
theorem hdL_valueAnew : yL_valueAnew.cls ≠ "java/lang/invoke/MethodHandle" ∧ yL_valueAnew.cls ≠ "java/lang/invoke/VarHandle" ∧ (parseMethodDescriptor yL_valueAnew.desc).map (fun d => d.parameters.length) = some 3 := by decide +kernel
theorem hcL_valueAnew_0 : Cond.classLink RL 13 "java/lang/IllegalArgumentException" ∈ wsL_valueAnew := by decide +kernel
set_option maxHeartbeats 4000000 in
theorem kL_valueAnew {l : Launch} {D : va_G} {cI cZ cJ : ClassId} {ad : Nat → Nat} {ao : Nat} (hl0 : l.stackTraces = false) (z : vM × (Nat → Int64)) (a1 : Int32) : mJ D vwCl (tyO cI cZ cJ) xL (wO cI cZ cJ ad ao) l yL_valueAnew wsL_valueAnew rmL_valueAnew [.ref (ad 0), .int a1, .ref ao] z (xX1_valueAnew z.1 a1) ((uX1_valueAnew z.1 a1), oL (xX1_valueAnew z.1 a1) (rX1_valueAnew z.1 a1) z.2) := by
  refine mJ_of (cc := cL_valueAnew) (maxL := 4) (ret := some .int) (hh := [(0, 9, 12, 13)]) (own := RL) rfl (by decide) rfl (wO_ok cI cZ cJ ad ao) (Nat.le_of_ble_eq_true rfl) (fun p e s m args below meth c A C hZ htab => ?_)
  refine V_ls (ls' := [(0, .ref (ad 0)), (1, .int a1), (2, .ref ao)]) rfl ?_
  refine V_aload_n C dL_valueAnew_0 rfl 2 rfl ?_
  refine V_iconst (v := 0) C dL_valueAnew_1 (by decide) ?_
  refine V_aload_n C dL_valueAnew_2 rfl 0 rfl ?_
  refine V_iload_n C dL_valueAnew_3 rfl 1 rfl ?_
  refine V_callT (As := [.int a1]) (u' := ((uX1_valueAnew z.1 a1), z.2)) C hZ xE_ok (fun h => h.1) ⟨[0, 1], rfl⟩ (kX1_valueAnew hl0 z.1 a1) (wC_ok cI cZ ad) (cwV 1 C.2.2.1 gL_valueAnew_X1_valueAnew rfl rfl rfl hvX1_valueAnew ⟨(Nat.le_of_ble_eq_true rfl), (Nat.le_of_ble_eq_true rfl)⟩) _ _ _ _ (wO_sub z _) 0 rfl rfl rfl (Nat.le_of_ble_eq_true rfl) ⟨(Nat.le_of_ble_eq_true rfl), (Nat.le_of_ble_eq_true rfl)⟩ dL_valueAnew_4 (fun h0 => ?_) (fun E j hj hx => ?_)
  ·
    refine V_i2l C dL_valueAnew_7 ?_
    refine V_last (u' := ((uX1_valueAnew z.1 a1), vp_updL z.2 0 _)) C 20 2 rfl rfl (by unfold vp_in; decide) (wO_set ((uX1_valueAnew z.1 a1), z.2) _) dL_valueAnew_8 ?_
    refine V_goto (tgt := 15) C dL_valueAnew_9 (by decide) ?_
    refine V_iconst (v := 0) C dL_valueAnew_15 (by decide) ?_
    exact V_iret C rfl (vp_nar_int _) h0 (by unfold oL; rw [if_pos h0]) dL_valueAnew_16
  ·
    simp only [List.mem_cons, List.not_mem_nil, or_false, Prod.mk.injEq] at hj
    rcases hj with ⟨rfl, rfl⟩
    ·
      refine V_hand C [] ⟨0, 9, 12, 13⟩ [] htab (fun z hz => nomatch hz) (by decide) (by decide) hcL_valueAnew_0 (C.2.2.2.2.2.2.2.2.2.2.1.2.1 _ en_0 _ List.mem_cons_self) (fun q => ?_)
      refine V_astore_n (ls' := [(0, .ref (ad 0)), (1, .int a1), (2, .ref ao), (3, .ref q)]) C dL_valueAnew_12 rfl (by decide) rfl rfl ?_
      refine V_iconst (v := 1) C dL_valueAnew_13 (by decide) ?_
      exact V_iret C rfl (vp_nar_int _) hx (by unfold oL; rw [if_neg (by rw [hx]; decide)]) dL_valueAnew_14
def rmL_reading : Room := { frames := 7, cells := 1, slots := 6, locals := 111 }
theorem hdL_reading : yL_reading.cls ≠ "java/lang/invoke/MethodHandle" ∧ yL_reading.cls ≠ "java/lang/invoke/VarHandle" ∧ (parseMethodDescriptor yL_reading.desc).map (fun d => d.parameters.length) = some 3 := by decide +kernel
theorem hcL_reading_0 : Cond.classLink RL 61 "java/lang/IndexOutOfBoundsException" ∈ wsL_reading := by decide +kernel
set_option maxHeartbeats 4000000 in
theorem kL_reading {l : Launch} {D : va_G} {cI cZ cJ : ClassId} {ad : Nat → Nat} {ao : Nat} (hl0 : l.stackTraces = false) (z : vM × (Nat → Int64)) (a1 : Int32) : mJ D vwCl (tyO cI cZ cJ) xL (wO cI cZ cJ ad ao) l yL_reading wsL_reading rmL_reading [.ref (ad 0), .int a1, .ref ao] z (xX1_reading z.1 a1) (z.1, oL (xX1_reading z.1 a1) (rX1_reading z.1 a1) z.2) := by
  refine mJ_of (cc := cL_reading) (maxL := 4) (ret := some .int) (hh := [(0, 9, 12, 61)]) (own := RL) rfl (by decide) rfl (wO_ok cI cZ cJ ad ao) (Nat.le_of_ble_eq_true rfl) (fun p e s m args below meth c A C hZ htab => ?_)
  refine V_ls (ls' := [(0, .ref (ad 0)), (1, .int a1), (2, .ref ao)]) rfl ?_
  refine V_aload_n C dL_reading_0 rfl 2 rfl ?_
  refine V_iconst (v := 0) C dL_reading_1 (by decide) ?_
  refine V_aload_n C dL_reading_2 rfl 0 rfl ?_
  refine V_iload_n C dL_reading_3 rfl 1 rfl ?_
  refine V_callT (As := [.int a1]) (u' := (z.1, z.2)) C hZ xE_ok (fun h => h.1) ⟨[0, 1], rfl⟩ (kX1_reading hl0 z.1 a1) (wC_ok cI cZ ad) (cwV 1 C.2.2.1 gL_reading_X1_reading rfl rfl rfl hvX1_reading ⟨(Nat.le_of_ble_eq_true rfl), (Nat.le_of_ble_eq_true rfl)⟩) _ _ _ _ (wO_sub z _) 0 rfl rfl rfl (Nat.le_of_ble_eq_true rfl) ⟨(Nat.le_of_ble_eq_true rfl), (Nat.le_of_ble_eq_true rfl)⟩ dL_reading_4 (fun h0 => ?_) (fun E j hj hx => ?_)
  ·
    refine V_i2l C dL_reading_7 ?_
    refine V_last (u' := (z.1, vp_updL z.2 0 _)) C 20 2 rfl rfl (by unfold vp_in; decide) (wO_set (z.1, z.2) _) dL_reading_8 ?_
    refine V_goto (tgt := 15) C dL_reading_9 (by decide) ?_
    refine V_iconst (v := 0) C dL_reading_15 (by decide) ?_
    exact V_iret C rfl (vp_nar_int _) h0 (by unfold oL; rw [if_pos h0]) dL_reading_16
  ·
    simp only [List.mem_cons, List.not_mem_nil, or_false, Prod.mk.injEq] at hj
    rcases hj with ⟨rfl, rfl⟩
    ·
      refine V_hand C [] ⟨0, 9, 12, 61⟩ [] htab (fun z hz => nomatch hz) (by decide) (by decide) hcL_reading_0 (C.2.2.2.2.2.2.2.2.2.2.1.2.1 _ en_2 _ List.mem_cons_self) (fun q => ?_)
      refine V_astore_n (ls' := [(0, .ref (ad 0)), (1, .int a1), (2, .ref ao), (3, .ref q)]) C dL_reading_12 rfl (by decide) rfl rfl ?_
      refine V_iconst (v := 1) C dL_reading_13 (by decide) ?_
      exact V_iret C rfl (vp_nar_int _) hx (by unfold oL; rw [if_neg (by rw [hx]; decide)]) dL_reading_14
def rmL_timesRead : Room := { frames := 7, cells := 1, slots := 6, locals := 112 }
theorem hdL_timesRead : yL_timesRead.cls ≠ "java/lang/invoke/MethodHandle" ∧ yL_timesRead.cls ≠ "java/lang/invoke/VarHandle" ∧ (parseMethodDescriptor yL_timesRead.desc).map (fun d => d.parameters.length) = some 4 := by decide +kernel
theorem hcL_timesRead_0 : Cond.classLink RL 13 "java/lang/IllegalArgumentException" ∈ wsL_timesRead := by decide +kernel
set_option maxHeartbeats 4000000 in
theorem kL_timesRead {l : Launch} {D : va_G} {cI cZ cJ : ClassId} {ad : Nat → Nat} {ao : Nat} (hl0 : l.stackTraces = false) (z : vM × (Nat → Int64)) (a1 : Int32) (a2 : Int32) : mJ D vwCl (tyO cI cZ cJ) xL (wO cI cZ cJ ad ao) l yL_timesRead wsL_timesRead rmL_timesRead [.ref (ad 0), .int a1, .int a2, .ref ao] z (xX1_timesRead z.1 a1 a2) (z.1, oL (xX1_timesRead z.1 a1 a2) (rX1_timesRead z.1 a1 a2) z.2) := by
  refine mJ_of (cc := cL_timesRead) (maxL := 5) (ret := some .int) (hh := [(0, 10, 13, 13)]) (own := RL) rfl (by decide) rfl (wO_ok cI cZ cJ ad ao) (Nat.le_of_ble_eq_true rfl) (fun p e s m args below meth c A C hZ htab => ?_)
  refine V_ls (ls' := [(0, .ref (ad 0)), (1, .int a1), (2, .int a2), (3, .ref ao)]) rfl ?_
  refine V_aload_n C dL_timesRead_0 rfl 3 rfl ?_
  refine V_iconst (v := 0) C dL_timesRead_1 (by decide) ?_
  refine V_aload_n C dL_timesRead_2 rfl 0 rfl ?_
  refine V_iload_n C dL_timesRead_3 rfl 1 rfl ?_
  refine V_iload_n C dL_timesRead_4 rfl 2 rfl ?_
  refine V_callT (As := [.int a1, .int a2]) (u' := (z.1, z.2)) C hZ xE_ok (fun h => h.1) ⟨[0, 1], rfl⟩ (kX1_timesRead hl0 z.1 a1 a2) (wC_ok cI cZ ad) (cwV 2 C.2.2.1 gL_timesRead_X1_timesRead rfl rfl rfl hvX1_timesRead ⟨(Nat.le_of_ble_eq_true rfl), (Nat.le_of_ble_eq_true rfl)⟩) _ _ _ _ (wO_sub z _) 0 rfl rfl rfl (Nat.le_of_ble_eq_true rfl) ⟨(Nat.le_of_ble_eq_true rfl), (Nat.le_of_ble_eq_true rfl)⟩ dL_timesRead_5 (fun h0 => ?_) (fun E j hj hx => ?_)
  ·
    refine V_i2l C dL_timesRead_8 ?_
    refine V_last (u' := (z.1, vp_updL z.2 0 _)) C 20 2 rfl rfl (by unfold vp_in; decide) (wO_set (z.1, z.2) _) dL_timesRead_9 ?_
    refine V_goto (tgt := 17) C dL_timesRead_10 (by decide) ?_
    refine V_iconst (v := 0) C dL_timesRead_17 (by decide) ?_
    exact V_iret C rfl (vp_nar_int _) h0 (by unfold oL; rw [if_pos h0]) dL_timesRead_18
  ·
    simp only [List.mem_cons, List.not_mem_nil, or_false, Prod.mk.injEq] at hj
    rcases hj with ⟨rfl, rfl⟩
    ·
      refine V_hand C [] ⟨0, 10, 13, 13⟩ [] htab (fun z hz => nomatch hz) (by decide) (by decide) hcL_timesRead_0 (C.2.2.2.2.2.2.2.2.2.2.1.2.1 _ en_0 _ List.mem_cons_self) (fun q => ?_)
      refine V_astore (ls' := [(0, .ref (ad 0)), (1, .int a1), (2, .int a2), (3, .ref ao), (4, .ref q)]) C dL_timesRead_13 (by decide) rfl rfl ?_
      refine V_iconst (v := 1) C dL_timesRead_15 (by decide) ?_
      exact V_iret C rfl (vp_nar_int _) hx (by unfold oL; rw [if_neg (by rw [hx]; decide)]) dL_timesRead_16
def rmL_readOf : Room := { frames := 7, cells := 1, slots := 6, locals := 111 }
theorem hdL_readOf : yL_readOf.cls ≠ "java/lang/invoke/MethodHandle" ∧ yL_readOf.cls ≠ "java/lang/invoke/VarHandle" ∧ (parseMethodDescriptor yL_readOf.desc).map (fun d => d.parameters.length) = some 3 := by decide +kernel
theorem hcL_readOf_0 : Cond.classLink RL 13 "java/lang/IllegalArgumentException" ∈ wsL_readOf := by decide +kernel
set_option maxHeartbeats 4000000 in
theorem kL_readOf {l : Launch} {D : va_G} {cI cZ cJ : ClassId} {ad : Nat → Nat} {ao : Nat} (hl0 : l.stackTraces = false) (z : vM × (Nat → Int64)) (a1 : Int32) : mJ D vwCl (tyO cI cZ cJ) xL (wO cI cZ cJ ad ao) l yL_readOf wsL_readOf rmL_readOf [.ref (ad 0), .int a1, .ref ao] z (xX1_readOf z.1 a1) (z.1, oL (xX1_readOf z.1 a1) (rX1_readOf z.1 a1) z.2) := by
  refine mJ_of (cc := cL_readOf) (maxL := 4) (ret := some .int) (hh := [(0, 9, 12, 13)]) (own := RL) rfl (by decide) rfl (wO_ok cI cZ cJ ad ao) (Nat.le_of_ble_eq_true rfl) (fun p e s m args below meth c A C hZ htab => ?_)
  refine V_ls (ls' := [(0, .ref (ad 0)), (1, .int a1), (2, .ref ao)]) rfl ?_
  refine V_aload_n C dL_readOf_0 rfl 2 rfl ?_
  refine V_iconst (v := 0) C dL_readOf_1 (by decide) ?_
  refine V_aload_n C dL_readOf_2 rfl 0 rfl ?_
  refine V_iload_n C dL_readOf_3 rfl 1 rfl ?_
  refine V_callT (As := [.int a1]) (u' := (z.1, z.2)) C hZ xE_ok (fun h => h.1) ⟨[0, 1], rfl⟩ (kX1_readOf hl0 z.1 a1) (wC_ok cI cZ ad) (cwV 1 C.2.2.1 gL_readOf_X1_readOf rfl rfl rfl hvX1_readOf ⟨(Nat.le_of_ble_eq_true rfl), (Nat.le_of_ble_eq_true rfl)⟩) _ _ _ _ (wO_sub z _) 0 rfl rfl rfl (Nat.le_of_ble_eq_true rfl) ⟨(Nat.le_of_ble_eq_true rfl), (Nat.le_of_ble_eq_true rfl)⟩ dL_readOf_4 (fun h0 => ?_) (fun E j hj hx => ?_)
  ·
    refine V_i2l C dL_readOf_7 ?_
    refine V_last (u' := (z.1, vp_updL z.2 0 _)) C 20 2 rfl rfl (by unfold vp_in; decide) (wO_set (z.1, z.2) _) dL_readOf_8 ?_
    refine V_goto (tgt := 15) C dL_readOf_9 (by decide) ?_
    refine V_iconst (v := 0) C dL_readOf_15 (by decide) ?_
    exact V_iret C rfl (vp_nar_int _) h0 (by unfold oL; rw [if_pos h0]) dL_readOf_16
  ·
    simp only [List.mem_cons, List.not_mem_nil, or_false, Prod.mk.injEq] at hj
    rcases hj with ⟨rfl, rfl⟩
    ·
      refine V_hand C [] ⟨0, 9, 12, 13⟩ [] htab (fun z hz => nomatch hz) (by decide) (by decide) hcL_readOf_0 (C.2.2.2.2.2.2.2.2.2.2.1.2.1 _ en_0 _ List.mem_cons_self) (fun q => ?_)
      refine V_astore_n (ls' := [(0, .ref (ad 0)), (1, .int a1), (2, .ref ao), (3, .ref q)]) C dL_readOf_12 rfl (by decide) rfl rfl ?_
      refine V_iconst (v := 1) C dL_readOf_13 (by decide) ?_
      exact V_iret C rfl (vp_nar_int _) hx (by unfold oL; rw [if_neg (by rw [hx]; decide)]) dL_readOf_14
