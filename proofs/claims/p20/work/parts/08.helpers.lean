variable {p : Program} {l : Launch} {e : Env} {s : State} {m : MethodId} {args : Array Value} {below : List Frame} {meth : Method} {c : Code} {D : va_G} {cI cZ : ClassId} {ad : Nat → Nat} {A : Nat → Prop}
/-! the law's helpers that are walked by hand: a cell of the script, the trace, the test without marks -/
def rL_cell (L : Nat) (xs : Nat → Int32) (a : Int32) : Int32 := if nI L ≤ a then 970441141 * (a + 1) else xs a.toNatClampNeg
def rmL_cell : Room := { frames := 0, cells := 0, slots := 0, locals := 0 }
theorem hdL_cell : yL_cell.cls ≠ "java/lang/invoke/MethodHandle" ∧ yL_cell.cls ≠ "java/lang/invoke/VarHandle" ∧ (parseMethodDescriptor yL_cell.desc).map (fun d => d.parameters.length) = some 2 := by decide +kernel
theorem hkL_cell : Cond.constant RL 7 (970441141) ∈ wsL_cell := by decide +kernel
theorem kL_cell {b L : Nat} {xs : Nat → Int32} (hL : L ≤ 260) (a1 : Int32) (h0 : ¬ a1 < 0) : mSc D vwCl (tyF cI cZ) xN l yL_cell wsL_cell rmL_cell [.ref b, .int a1] b L xs (rL_cell L xs a1) := by
  refine mSc_of (cc := cL_cell) (maxL := 2) (ret := some .int) (own := RL) rfl (by decide) rfl (Nat.le_of_ble_eq_true rfl) (fun p e s m args below meth c A C hX hbl hbA => ?_)
  refine V_ls (ls' := [(0, .ref b), (1, .int a1)]) rfl ?_
  refine V_iload_n C dL_cell_0 rfl 1 rfl ?_
  refine V_aload_n C dL_cell_1 rfl 0 rfl ?_
  refine V_slen C hX hbl hbA dL_cell_2 ?_
  refine V_icmp_ge (tgt := 12) C dL_cell_3 (by decide) (fun h3 => ?_) (fun h3 => ?_)
  · refine V_ldc (v := 970441141) C hkL_cell dL_cell_12 ?_
    refine V_iload_n C dL_cell_14 rfl 1 rfl ?_
    refine V_iconst (v := 1) C dL_cell_15 (by decide) ?_
    refine V_iadd C dL_cell_16 ?_
    refine V_imul C dL_cell_17 ?_
    exact V_iret C rfl (vp_nar_int _) (if_pos h3) rfl dL_cell_18
  · refine V_aload_n C dL_cell_6 rfl 0 rfl ?_
    refine V_iload_n C dL_cell_7 rfl 1 rfl ?_
    refine V_sld C hX hbl hbA (vq_lt h0 h3 (nI_toInt (by omega))) dL_cell_8 ?_
    refine V_goto (tgt := 18) C dL_cell_9 (by decide) ?_
    exact V_iret C rfl (vp_nar_int _) (if_neg h3) rfl dL_cell_18
def rtU : Nat → Nat → vM → vM
  | 0, _, u => u
  | n + 1, k, u => rtU n (k + 1) (uX1_valueAnew u (nI k))
theorem rtU_fr {q : Nat} (h : q ≠ 12) : ∀ (n k : Nat) (u : vM), rtU n k u q = u q := by
  intro n
  induction n with
  | zero => intro k u; rfl
  | succ n ih => intro k u; exact (ih (k + 1) _).trans (fr_uX1_valueAnew h)
def uL_right (u : vM) : vM := if rL_marked u = 0 then rtU 24 0 u else u
theorem fr_uL_right {u : vM} {q : Nat} (h : q ≠ 12) : uL_right u q = u q := by
  unfold uL_right
  split
  · exact rtU_fr h 24 0 u
  · rfl
def rmL_right : Room := { frames := 4, cells := 0, slots := 0, locals := 90 }
theorem hdL_right : yL_right.cls ≠ "java/lang/invoke/MethodHandle" ∧ yL_right.cls ≠ "java/lang/invoke/VarHandle" ∧ (parseMethodDescriptor yL_right.desc).map (fun d => d.parameters.length) = some 1 := by decide +kernel
theorem hkL_right_44 : Cond.constant RL 44 (1000000) ∈ wsL_right := by decide +kernel
theorem hkL_right_70 : Cond.constant RL 70 (-1000000) ∈ wsL_right := by decide +kernel
theorem rgs_next {u : vM} {a : Int32} (h : rgs u) : rgs (uX1_valueAnew u a) := fun v hv => h v (fun q hq => (hv q hq).trans (fr_uX1_valueAnew hq))
set_option maxHeartbeats 4000000 in
theorem qL_right_11 (C : vC p s m args meth c D vwCl (tyF cI cZ) xN A (wC cI cZ ad) cL_right RL wsL_right 2 (some .boolean)) : ∀ (n k : Nat), k + n = 24 → ∀ (u : vM), rgs u → ∀ u' : vM, u' = rtU n k u → V p l e rmL_right s m args below meth c D vwCl A (wC cI cZ ad) 2 0 0 (MQ below (mQi D vwCl (wC cI cZ ad) A 1 u') args s 0 0 A) u 11 [(0, .ref (ad 0)), (1, .int (nI k))] [] := by
  intro n
  induction n with
  | zero =>
    intro k hk u hg u' hu
    obtain rfl : k = 24 := by omega
    refine V_iload_n C dL_right_11 rfl 1 rfl ?_
    refine V_bipush (v := 24) C dL_right_12 (by decide) ?_
    refine V_icmp_ge (tgt := 58) C dL_right_14 (by decide) (fun _ => ?_) (fun h => absurd (by decide : (24 : Int32) ≤ nI 24) h)
    refine V_iconst (v := 1) C dL_right_58 (by decide) ?_
    exact V_iret C rfl rfl rfl hu dL_right_59
  | succ n ih =>
    intro k hk u hg u' hu
    have hkB : k < 24 := by omega
    have hin : vp_in (nI k) 24 := vp_in_nI hkB (by decide)
    refine V_iload_n C dL_right_11 rfl 1 rfl ?_
    refine V_bipush (v := 24) C dL_right_12 (by decide) ?_
    refine V_icmp_ge (tgt := 58) C dL_right_14 (by decide) (fun h => absurd h (nI_ge hkB (by decide))) (fun _ => ?_)
    refine V_aload_n C dL_right_17 rfl 0 rfl ?_
    refine V_iload_n C dL_right_18 rfl 1 rfl ?_
    refine V_cVi1 C xN_ok (kX1_value _ _ (xq_value hin)) (cwV 1 C.2.2.1 gL_right_X1_value rfl rfl rfl hvX1_value ⟨Nat.le_of_ble_eq_true rfl, Nat.le_of_ble_eq_true rfl⟩) 0 rfl rfl (Nat.le_of_ble_eq_true rfl) ⟨(Nat.le_of_ble_eq_true rfl), (Nat.le_of_ble_eq_true rfl)⟩ dL_right_19 ?_
    refine V_aload_n C dL_right_22 rfl 0 rfl ?_
    refine V_iload_n C dL_right_23 rfl 1 rfl ?_
    refine V_cVi1 C xN_ok (kX1_valueAnew _ _ (xq_valueAnew hin)) (cwV 1 C.2.2.1 gL_right_X1_valueAnew rfl rfl rfl hvX1_valueAnew ⟨Nat.le_of_ble_eq_true rfl, Nat.le_of_ble_eq_true rfl⟩) 0 rfl rfl (Nat.le_of_ble_eq_true rfl) ⟨(Nat.le_of_ble_eq_true rfl), (Nat.le_of_ble_eq_true rfl)⟩ dL_right_24 ?_
    refine V_icmp_ne (tgt := 50) C dL_right_27 (by decide) (fun h => absurd (hg u (fun _ _ => rfl) k hkB).1 h) (fun _ => ?_)
    have hg2 : rgs (uX1_valueAnew u (nI k)) := rgs_next hg
    have hv := hg2 _ (fun _ _ => rfl) k hkB
    refine V_aload_n C dL_right_30 rfl 0 rfl ?_
    refine V_iload_n C dL_right_31 rfl 1 rfl ?_
    refine V_cVi1 C xN_ok (kX1_value _ _ (xq_value hin)) (cwV 1 C.2.2.1 gL_right_X1_value rfl rfl rfl hvX1_value ⟨Nat.le_of_ble_eq_true rfl, Nat.le_of_ble_eq_true rfl⟩) 0 rfl rfl (Nat.le_of_ble_eq_true rfl) ⟨(Nat.le_of_ble_eq_true rfl), (Nat.le_of_ble_eq_true rfl)⟩ dL_right_32 ?_
    refine V_ldc (v := 1000000) C hkL_right_44 dL_right_35 ?_
    refine V_icmp_gt (tgt := 50) C dL_right_37 (by decide) (fun h => absurd h hv.2.1) (fun _ => ?_)
    refine V_aload_n C dL_right_40 rfl 0 rfl ?_
    refine V_iload_n C dL_right_41 rfl 1 rfl ?_
    refine V_cVi1 C xN_ok (kX1_value _ _ (xq_value hin)) (cwV 1 C.2.2.1 gL_right_X1_value rfl rfl rfl hvX1_value ⟨Nat.le_of_ble_eq_true rfl, Nat.le_of_ble_eq_true rfl⟩) 0 rfl rfl (Nat.le_of_ble_eq_true rfl) ⟨(Nat.le_of_ble_eq_true rfl), (Nat.le_of_ble_eq_true rfl)⟩ dL_right_42 ?_
    refine V_ldc (v := (-1000000)) C hkL_right_70 dL_right_45 ?_
    refine V_icmp_ge (tgt := 52) C dL_right_47 (by decide) (fun _ => ?_) (fun h => absurd hv.2.2 h)
    refine V_iinc (v := nI (k + 1)) (ls' := [(0, .ref (ad 0)), (1, .int (nI (k + 1)))]) C dL_right_52 1 rfl (nI_1 k) (by decide) rfl rfl ?_
    refine V_goto (tgt := 11) C dL_right_55 (by decide) ?_
    exact ih (k + 1) (by omega) _ hg2 u' hu
set_option maxHeartbeats 4000000 in
theorem kL_right (u : vM) (h6 : bo u 6) (hg : rL_marked u = 0 → rgs u) : mI D vwCl (tyF cI cZ) xN (wC cI cZ ad) l yL_right wsL_right rmL_right [.ref (ad 0)] u 1 (uL_right u) := by
  refine mI_of (cc := cL_right) (maxL := 2) (ret := (some .boolean)) (own := RL) rfl (by decide) rfl (wC_ok cI cZ ad) (Nat.le_of_ble_eq_true rfl) (fun p e s m args below meth c A C => ?_)
  refine V_ls (ls' := [(0, .ref (ad 0))]) rfl ?_
  refine V_aload_n C dL_right_0 rfl 0 rfl ?_
  refine V_cSi1 C xN_ok (kL_marked _ h6) (va_cwS 1 C.2.2.1 gL_right_L_marked rfl rfl rfl hdL_marked ⟨Nat.le_of_ble_eq_true rfl, Nat.le_of_ble_eq_true rfl⟩) (Nat.le_of_ble_eq_true rfl) ⟨(Nat.le_of_ble_eq_true rfl), (Nat.le_of_ble_eq_true rfl)⟩ dL_right_1 ?_
  refine V_if_eq (tgt := 9) C dL_right_4 (by decide) (fun h4 => ?_) (fun h4 => ?_)
  · refine V_iconst (v := 0) C dL_right_9 (by decide) ?_
    refine V_istore_n (ls' := [(0, .ref (ad 0)), (1, .int 0)]) C dL_right_10 rfl (by decide) rfl rfl ?_
    exact qL_right_11 C 24 0 rfl u (hg h4) _ (if_pos h4)
  · refine V_iconst (v := 1) C dL_right_7 (by decide) ?_
    exact V_iret C rfl rfl rfl (if_neg h4) dL_right_8
