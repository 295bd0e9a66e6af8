def mz : vM := fun _ _ => 0
def adl (l : List Nat) : Nat → Nat := fun i => l.getD i 0
def wL (cI : ClassId) (ad : Nat → Nat) (u : vM) : va_W := [(ad 0, .inr (0, [.ref (ad 1), .ref (ad 2), .ref (ad 3), .ref (ad 4), .ref (ad 5), .ref (ad 6), .ref (ad 7), .int (u 8 0)])), (ad 1, .inl (cI, 4, .inl (u 1))), (ad 2, .inl (cI, 4, .inl (u 2))), (ad 3, .inl (cI, 4, .inl (u 3))), (ad 4, .inl (cI, 4, .inl (u 4))), (ad 5, .inl (cI, 5, .inl (u 5))), (ad 6, .inl (cI, 576, .inl (u 6))), (ad 7, .inl (cI, 500, .inl (u 7)))]
theorem wL_ok (cI : ClassId) (ad : Nat → Nat) : wOK (wL cI ad) := fun _ _ => rfl
def wK (cI cZ : ClassId) (ad : Nat → Nat) (u : vM) : va_W := [(ad 0, .inr (1, [.ref (ad 1), .ref (ad 2), .ref (ad 3), .ref (ad 4), .ref (ad 5), .ref (ad 6), .ref (ad 7), .ref (ad 8), .ref (ad 9), .ref (ad 10), .ref (ad 11), .ref (ad 12)])), (ad 1, .inl (cI, 24, .inl (u 1))), (ad 2, .inl (cI, 24, .inl (u 2))), (ad 3, .inl (cI, 24, .inl (u 3))), (ad 4, .inl (cI, 24, .inl (u 4))), (ad 5, .inl (cI, 24, .inl (u 5))), (ad 6, .inl (cZ, 24, .inl (u 6))), (ad 7, .inl (cI, 24, .inl (u 7))), (ad 8, .inr (0, [.ref (ad 13), .ref (ad 14), .ref (ad 15), .ref (ad 16), .ref (ad 17), .ref (ad 18), .ref (ad 19), .int (u 8 0)])), (ad 9, .inl (cZ, 24, .inl (u 9))), (ad 10, .inl (cZ, 24, .inl (u 10))), (ad 11, .inl (cZ, 24, .inl (u 11))), (ad 12, .inl (cI, 24, .inl (u 12))), (ad 13, .inl (cI, 4, .inl (u 13))), (ad 14, .inl (cI, 4, .inl (u 14))), (ad 15, .inl (cI, 4, .inl (u 15))), (ad 16, .inl (cI, 4, .inl (u 16))), (ad 17, .inl (cI, 5, .inl (u 17))), (ad 18, .inl (cI, 576, .inl (u 18))), (ad 19, .inl (cI, 500, .inl (u 19)))]
theorem wK_ok (cI cZ : ClassId) (ad : Nat → Nat) : wOK (wK cI cZ ad) := fun _ _ => rfl
theorem wK_s1 {cI cZ : ClassId} {ad : Nat → Nat} {u : vM} {g : Nat → Int32} : (wK cI cZ ad u).set 1 (ad 1, .inl (cI, 24, .inl g)) = wK cI cZ ad (mR u 1 g) := rfl
theorem wK_s2 {cI cZ : ClassId} {ad : Nat → Nat} {u : vM} {g : Nat → Int32} : (wK cI cZ ad u).set 2 (ad 2, .inl (cI, 24, .inl g)) = wK cI cZ ad (mR u 2 g) := rfl
theorem wK_s3 {cI cZ : ClassId} {ad : Nat → Nat} {u : vM} {g : Nat → Int32} : (wK cI cZ ad u).set 3 (ad 3, .inl (cI, 24, .inl g)) = wK cI cZ ad (mR u 3 g) := rfl
theorem wK_s4 {cI cZ : ClassId} {ad : Nat → Nat} {u : vM} {g : Nat → Int32} : (wK cI cZ ad u).set 4 (ad 4, .inl (cI, 24, .inl g)) = wK cI cZ ad (mR u 4 g) := rfl
theorem wK_s5 {cI cZ : ClassId} {ad : Nat → Nat} {u : vM} {g : Nat → Int32} : (wK cI cZ ad u).set 5 (ad 5, .inl (cI, 24, .inl g)) = wK cI cZ ad (mR u 5 g) := rfl
theorem wK_s6 {cI cZ : ClassId} {ad : Nat → Nat} {u : vM} {g : Nat → Int32} : (wK cI cZ ad u).set 6 (ad 6, .inl (cZ, 24, .inl g)) = wK cI cZ ad (mR u 6 g) := rfl
theorem wK_s7 {cI cZ : ClassId} {ad : Nat → Nat} {u : vM} {g : Nat → Int32} : (wK cI cZ ad u).set 7 (ad 7, .inl (cI, 24, .inl g)) = wK cI cZ ad (mR u 7 g) := rfl
theorem wK_s8 {cI cZ : ClassId} {ad : Nat → Nat} {u : vM} {x : Int32} : (wK cI cZ ad u).set 8 (ad 8, .inr (0, ([.ref (ad 13), .ref (ad 14), .ref (ad 15), .ref (ad 16), .ref (ad 17), .ref (ad 18), .ref (ad 19), .int (u 8 0)] : List Value).set 7 (.int x))) = wK cI cZ ad (mst u 8 x) := rfl
theorem wK_s9 {cI cZ : ClassId} {ad : Nat → Nat} {u : vM} {g : Nat → Int32} : (wK cI cZ ad u).set 9 (ad 9, .inl (cZ, 24, .inl g)) = wK cI cZ ad (mR u 9 g) := rfl
theorem wK_s10 {cI cZ : ClassId} {ad : Nat → Nat} {u : vM} {g : Nat → Int32} : (wK cI cZ ad u).set 10 (ad 10, .inl (cZ, 24, .inl g)) = wK cI cZ ad (mR u 10 g) := rfl
theorem wK_s11 {cI cZ : ClassId} {ad : Nat → Nat} {u : vM} {g : Nat → Int32} : (wK cI cZ ad u).set 11 (ad 11, .inl (cZ, 24, .inl g)) = wK cI cZ ad (mR u 11 g) := rfl
theorem wK_s12 {cI cZ : ClassId} {ad : Nat → Nat} {u : vM} {g : Nat → Int32} : (wK cI cZ ad u).set 12 (ad 12, .inl (cI, 24, .inl g)) = wK cI cZ ad (mR u 12 g) := rfl
theorem wK_s13 {cI cZ : ClassId} {ad : Nat → Nat} {u : vM} {g : Nat → Int32} : (wK cI cZ ad u).set 13 (ad 13, .inl (cI, 4, .inl g)) = wK cI cZ ad (mR u 13 g) := rfl
theorem wK_s14 {cI cZ : ClassId} {ad : Nat → Nat} {u : vM} {g : Nat → Int32} : (wK cI cZ ad u).set 14 (ad 14, .inl (cI, 4, .inl g)) = wK cI cZ ad (mR u 14 g) := rfl
theorem wK_s15 {cI cZ : ClassId} {ad : Nat → Nat} {u : vM} {g : Nat → Int32} : (wK cI cZ ad u).set 15 (ad 15, .inl (cI, 4, .inl g)) = wK cI cZ ad (mR u 15 g) := rfl
theorem wK_s16 {cI cZ : ClassId} {ad : Nat → Nat} {u : vM} {g : Nat → Int32} : (wK cI cZ ad u).set 16 (ad 16, .inl (cI, 4, .inl g)) = wK cI cZ ad (mR u 16 g) := rfl
theorem wK_s17 {cI cZ : ClassId} {ad : Nat → Nat} {u : vM} {g : Nat → Int32} : (wK cI cZ ad u).set 17 (ad 17, .inl (cI, 5, .inl g)) = wK cI cZ ad (mR u 17 g) := rfl
theorem wK_s18 {cI cZ : ClassId} {ad : Nat → Nat} {u : vM} {g : Nat → Int32} : (wK cI cZ ad u).set 18 (ad 18, .inl (cI, 576, .inl g)) = wK cI cZ ad (mR u 18 g) := rfl
theorem wK_s19 {cI cZ : ClassId} {ad : Nat → Nat} {u : vM} {g : Nat → Int32} : (wK cI cZ ad u).set 19 (ad 19, .inl (cI, 500, .inl g)) = wK cI cZ ad (mR u 19 g) := rfl
theorem wL_s1 {cI : ClassId} {ad : Nat → Nat} {u : vM} {g : Nat → Int32} : (wL cI ad u).set 1 (ad 1, .inl (cI, 4, .inl g)) = wL cI ad (mR u 1 g) := rfl
theorem wL_s2 {cI : ClassId} {ad : Nat → Nat} {u : vM} {g : Nat → Int32} : (wL cI ad u).set 2 (ad 2, .inl (cI, 4, .inl g)) = wL cI ad (mR u 2 g) := rfl
theorem wL_s3 {cI : ClassId} {ad : Nat → Nat} {u : vM} {g : Nat → Int32} : (wL cI ad u).set 3 (ad 3, .inl (cI, 4, .inl g)) = wL cI ad (mR u 3 g) := rfl
theorem wL_s4 {cI : ClassId} {ad : Nat → Nat} {u : vM} {g : Nat → Int32} : (wL cI ad u).set 4 (ad 4, .inl (cI, 4, .inl g)) = wL cI ad (mR u 4 g) := rfl
theorem wL_s5 {cI : ClassId} {ad : Nat → Nat} {u : vM} {g : Nat → Int32} : (wL cI ad u).set 5 (ad 5, .inl (cI, 5, .inl g)) = wL cI ad (mR u 5 g) := rfl
theorem wL_s6 {cI : ClassId} {ad : Nat → Nat} {u : vM} {g : Nat → Int32} : (wL cI ad u).set 6 (ad 6, .inl (cI, 576, .inl g)) = wL cI ad (mR u 6 g) := rfl
theorem wL_s7 {cI : ClassId} {ad : Nat → Nat} {u : vM} {g : Nat → Int32} : (wL cI ad u).set 7 (ad 7, .inl (cI, 500, .inl g)) = wL cI ad (mR u 7 g) := rfl
/-- the class with a new ledger -/
def lpX0_init_64 : Nat → Nat → vM → vM
  | 0, _, u => u
  | n + 1, k, u => (let u75 : vM := mup u 1 (nI k) 1; (let u83 : vM := mup u75 2 (nI k) 100; lpX0_init_64 n (k + 1) u83))
def uX0_init : vM := (lpX0_init_64 4 0 mz)
def rmX0_init : Room := { frames := 1, cells := 7, slots := 1097, locals := 12 }
def mC0 : vM := fun j => cond (Nat.beq j 8) (uX0_init 8) (cond (Nat.beq j 13) (uX0_init 1) (cond (Nat.beq j 14) (uX0_init 2) (cond (Nat.beq j 15) (uX0_init 3) (cond (Nat.beq j 16) (uX0_init 4) (cond (Nat.beq j 17) (uX0_init 5) (cond (Nat.beq j 18) (uX0_init 6) (cond (Nat.beq j 19) (uX0_init 7) (mz j))))))))
def lpX1_init_105 : Nat → Nat → vM → vM
  | 0, _, u => u
  | n + 1, k, u => (let u117 : vM := mup u 2 (nI k) (-1); (let u124 : vM := mup u117 3 (nI k) (-1); (let u131 : vM := mup u124 7 (nI k) (nI k); lpX1_init_105 n (k + 1) u131)))
def uX1_init : vM := (lpX1_init_105 24 0 mC0)
def rmX1_init : Room := { frames := 2, cells := 19, slots := 1369, locals := 60 }
variable {p : Program} {l : Launch} {e : Env} {s : State} {m : MethodId} {args : Array Value} {below : List Frame} {meth : Method} {c : Code} {D : va_G} {cI cZ : ClassId} {ad : Nat → Nat} {A : Nat → Prop}
theorem hdX0_init : yX0_init.cls ≠ "java/lang/invoke/MethodHandle" ∧ yX0_init.cls ≠ "java/lang/invoke/VarHandle" ∧ (parseMethodDescriptor yX0_init.desc).map (fun d => d.parameters.length) = some 0 := by decide +kernel
theorem hvX0_init : yX0_init.cls = RX0 ∧ yX0_init.cls ≠ "java/lang/invoke/MethodHandle" ∧ yX0_init.cls ≠ "java/lang/invoke/VarHandle" ∧ (parseMethodDescriptor yX0_init.desc).map (fun d => d.parameters.length) = some 0 := by decide +kernel
theorem hinX0_init_X0 : ∀ w ∈ u_ws RX0 TX0 8, w ∈ wsX0_init := by decide +kernel
theorem hoX0_init_1 : Cond.methodLink RX0 3 Lib.objectInit ∈ wsX0_init := by decide +kernel
theorem hoX0_init_2 : Cond.instanceMethod Lib.objectInit ∈ wsX0_init := by decide +kernel
theorem hoX0_init_3 : Cond.code Lib.objectInit ⟨#[0xb1]⟩ 1 none ∈ wsX0_init := by decide +kernel
theorem harrX0_init_int : Cond.arrayClass .int ∈ wsX0_init := by decide +kernel
theorem hfX0_init_9 : Cond.fieldLink RX0 9 "MeteredSheets$Ledger" "prices" "[I" ∈ wsX0_init := by decide +kernel
theorem hfX0_init_15 : Cond.fieldLink RX0 15 "MeteredSheets$Ledger" "budgets" "[I" ∈ wsX0_init := by decide +kernel
theorem hfX0_init_18 : Cond.fieldLink RX0 18 "MeteredSheets$Ledger" "earnings" "[I" ∈ wsX0_init := by decide +kernel
theorem hfX0_init_21 : Cond.fieldLink RX0 21 "MeteredSheets$Ledger" "readsOf" "[I" ∈ wsX0_init := by decide +kernel
theorem hfX0_init_24 : Cond.fieldLink RX0 24 "MeteredSheets$Ledger" "bills" "[I" ∈ wsX0_init := by decide +kernel
theorem hfX0_init_27 : Cond.fieldLink RX0 27 "MeteredSheets$Ledger" "counts" "[I" ∈ wsX0_init := by decide +kernel
theorem hfX0_init_30 : Cond.fieldLink RX0 30 "MeteredSheets$Ledger" "kept" "[I" ∈ wsX0_init := by decide +kernel
theorem hfX0_init_33 : Cond.fieldLink RX0 33 "MeteredSheets$Ledger" "keptCount" "I" ∈ wsX0_init := by decide +kernel
set_option maxHeartbeats 4000000 in
theorem qX0_init_64 (C : vC p s m args meth c D vwCl (tyM cI) xN A (wL cI ad) cX0_init RX0 wsX0_init 2 none) {Q : State → Prop} : ∀ (n k : Nat), k + n = 4 → ∀ (u : vM), (∀ r : vM, lpX0_init_64 n k u = r → V p l e rmX0_init s m args below meth c D vwCl A (wL cI ad) 2 7 1097 Q r 90 [(0, .ref (ad 0)), (1, .int (nI 4))] []) → V p l e rmX0_init s m args below meth c D vwCl A (wL cI ad) 2 7 1097 Q u 64 [(0, .ref (ad 0)), (1, .int (nI k))] [] := by
  intro n
  induction n with
  | zero =>
    intro k hk u KK
    obtain rfl : k = 4 := by omega
    refine V_iload_n C dX0_init_64 rfl 1 rfl ?_
    refine V_iconst (v := 4) C dX0_init_65 (by decide) ?_
    refine V_icmp_ge (tgt := 90) C dX0_init_66 (by decide) (fun _ => ?_) (fun h => absurd (by decide : (4 : Int32) ≤ nI 4) h)
    exact KK _ rfl
  | succ n ih =>
    intro k hk u KK
    have hkB : k < 4 := by omega
    refine V_iload_n C dX0_init_64 rfl 1 rfl ?_
    refine V_iconst (v := 4) C dX0_init_65 (by decide) ?_
    refine V_icmp_ge (tgt := 90) C dX0_init_66 (by decide) (fun h => absurd h (nI_ge hkB (by decide))) (fun _ => ?_)
    refine V_aload_n C dX0_init_69 rfl 0 rfl ?_
    refine V_get (Cn := RX0) (T := TX0) (N := 8) C hinX0_init_X0 0 rfl rfl 0 (by decide) hfX0_init_9 rfl rfl dX0_init_70 ?_
    refine V_iload_n C dX0_init_73 rfl 1 rfl ?_
    refine V_iconst (v := 1) C dX0_init_74 (by decide) ?_
    refine Vm_iast C 1 0 rfl rfl (vp_in_nI hkB (by decide)) wL_s1 dX0_init_75 ?_
    refine V_u (fun u75 hu75 => ?_)
    refine V_aload_n C dX0_init_76 rfl 0 rfl ?_
    refine V_get (Cn := RX0) (T := TX0) (N := 8) C hinX0_init_X0 0 rfl rfl 1 (by decide) hfX0_init_15 rfl rfl dX0_init_77 ?_
    refine V_iload_n C dX0_init_80 rfl 1 rfl ?_
    refine V_bipush (v := 100) C dX0_init_81 (by decide) ?_
    refine Vm_iast C 2 0 rfl rfl (vp_in_nI hkB (by decide)) wL_s2 dX0_init_83 ?_
    refine V_u (fun u83 hu83 => ?_)
    refine V_iinc (v := (nI (k + 1))) (ls' := [(0, .ref (ad 0)), (1, .int (nI (k + 1)))]) C dX0_init_84 1 rfl (nI_1 k) (by decide) rfl rfl ?_
    refine V_goto (tgt := 64) C dX0_init_87 (by decide) ?_
    subst hu83
    subst hu75
    exact ih (k + 1) (by omega) _ (fun r hr => KK r (rfl.trans hr))
set_option maxHeartbeats 4000000 in
theorem tX0_init (C : vC p s m args meth c D vwCl (tyM cI) xN A (wL cI ad) cX0_init RX0 wsX0_init 2 none) {h0 : Nat} (had : ad 0 = h0) : V p l e rmX0_init s m args below meth c D vwCl A (wL cI ad) 2 7 1097 (MQ below (mNq D vwCl A h0 (fun ad => wL cI ad uX0_init)) args s 7 1097 A) mz 62 [(0, .ref (ad 0))] [] := by
  refine V_iconst (v := 0) C dX0_init_62 (by decide) ?_
  refine V_istore_n (ls' := [(0, .ref (ad 0)), (1, .int 0)]) C dX0_init_63 rfl (by decide) rfl rfl ?_
  refine V_sub (ls' := [(0, .ref (ad 0)), (1, .int 0)]) [0, 1] rfl ?_
  refine qX0_init_64 C 4 0 (by decide) mz (fun r64 hr64 => ?_)
  subst hr64
  exact V_nret C ad had rfl rfl dX0_init_90
set_option maxRecDepth 100000 in
set_option maxHeartbeats 4000000 in
theorem kX0_init {l : Launch} {D : va_G} {cI : ClassId} (h0 : Nat) : mN D vwCl (tyM cI) xN l yX0_init wsX0_init rmX0_init h0 0 [.null, .null, .null, .null, .null, .null, .null, .int 0] 7 1097 (fun ad => wL cI ad uX0_init) := by
  refine mN_of (cc := cX0_init) (maxL := 2) (ret := none) (own := RX0) rfl (by decide) rfl rfl (Nat.le_of_ble_eq_true rfl) (fun p e s m args below meth c A C hmn => ?_)
  refine V_ls (ls' := [(0, .ref h0)]) rfl ?_
  refine V_aload_n C dX0_init_0 rfl 0 rfl ?_
  refine V_objInit C hoX0_init_1 hoX0_init_2 hoX0_init_3 (Nat.le_of_ble_eq_true rfl) (Nat.le_of_ble_eq_true rfl) dX0_init_1 ?_
  refine V_aload_n C dX0_init_4 rfl 0 rfl ?_
  refine V_iconst (v := 4) C dX0_init_5 (by decide) ?_
  refine V_newa (atype := .int) (ty := .int) (a0 := (4, .inl (fun _ => 0))) C rfl harrX0_init_int 0 rfl (fun _ => rfl) (by decide) (by decide) (Nat.le_of_ble_eq_true rfl) (Nat.le_of_ble_eq_true rfl) (Nat.le_of_ble_eq_true rfl) dX0_init_6 (fun q6 C => ?_)
  refine V_putF (Cn := RX0) (T := TX0) (N := 8) (ws' := [(h0, .inr (0, [.ref q6, .null, .null, .null, .null, .null, .null, .int 0])), (q6, .inl (cI, 4, .inl (fun _ => 0)))]) C hmn hinX0_init_X0 tyX0 tyX0_ok nmX0 0 rfl rfl 0 (by decide) hfX0_init_9 rfl rfl rfl (tyX0_ok 0 (by decide)) rfl rfl (Nat.le_of_ble_eq_true rfl) rfl dX0_init_8 (fun C => ?_)
  refine V_aload_n C dX0_init_11 rfl 0 rfl ?_
  refine V_iconst (v := 4) C dX0_init_12 (by decide) ?_
  refine V_newa (atype := .int) (ty := .int) (a0 := (4, .inl (fun _ => 0))) C rfl harrX0_init_int 0 rfl (fun _ => rfl) (by decide) (by decide) (Nat.le_of_ble_eq_true rfl) (Nat.le_of_ble_eq_true rfl) (Nat.le_of_ble_eq_true rfl) dX0_init_13 (fun q13 C => ?_)
  refine V_putF (Cn := RX0) (T := TX0) (N := 8) (ws' := [(h0, .inr (0, [.ref q6, .ref q13, .null, .null, .null, .null, .null, .int 0])), (q6, .inl (cI, 4, .inl (fun _ => 0))), (q13, .inl (cI, 4, .inl (fun _ => 0)))]) C hmn hinX0_init_X0 tyX0 tyX0_ok nmX0 0 rfl rfl 1 (by decide) hfX0_init_15 rfl rfl rfl (tyX0_ok 1 (by decide)) rfl rfl (Nat.le_of_ble_eq_true rfl) rfl dX0_init_15 (fun C => ?_)
  refine V_aload_n C dX0_init_18 rfl 0 rfl ?_
  refine V_iconst (v := 4) C dX0_init_19 (by decide) ?_
  refine V_newa (atype := .int) (ty := .int) (a0 := (4, .inl (fun _ => 0))) C rfl harrX0_init_int 0 rfl (fun _ => rfl) (by decide) (by decide) (Nat.le_of_ble_eq_true rfl) (Nat.le_of_ble_eq_true rfl) (Nat.le_of_ble_eq_true rfl) dX0_init_20 (fun q20 C => ?_)
  refine V_putF (Cn := RX0) (T := TX0) (N := 8) (ws' := [(h0, .inr (0, [.ref q6, .ref q13, .ref q20, .null, .null, .null, .null, .int 0])), (q6, .inl (cI, 4, .inl (fun _ => 0))), (q13, .inl (cI, 4, .inl (fun _ => 0))), (q20, .inl (cI, 4, .inl (fun _ => 0)))]) C hmn hinX0_init_X0 tyX0 tyX0_ok nmX0 0 rfl rfl 2 (by decide) hfX0_init_18 rfl rfl rfl (tyX0_ok 2 (by decide)) rfl rfl (Nat.le_of_ble_eq_true rfl) rfl dX0_init_22 (fun C => ?_)
  refine V_aload_n C dX0_init_25 rfl 0 rfl ?_
  refine V_iconst (v := 4) C dX0_init_26 (by decide) ?_
  refine V_newa (atype := .int) (ty := .int) (a0 := (4, .inl (fun _ => 0))) C rfl harrX0_init_int 0 rfl (fun _ => rfl) (by decide) (by decide) (Nat.le_of_ble_eq_true rfl) (Nat.le_of_ble_eq_true rfl) (Nat.le_of_ble_eq_true rfl) dX0_init_27 (fun q27 C => ?_)
  refine V_putF (Cn := RX0) (T := TX0) (N := 8) (ws' := [(h0, .inr (0, [.ref q6, .ref q13, .ref q20, .ref q27, .null, .null, .null, .int 0])), (q6, .inl (cI, 4, .inl (fun _ => 0))), (q13, .inl (cI, 4, .inl (fun _ => 0))), (q20, .inl (cI, 4, .inl (fun _ => 0))), (q27, .inl (cI, 4, .inl (fun _ => 0)))]) C hmn hinX0_init_X0 tyX0 tyX0_ok nmX0 0 rfl rfl 3 (by decide) hfX0_init_21 rfl rfl rfl (tyX0_ok 3 (by decide)) rfl rfl (Nat.le_of_ble_eq_true rfl) rfl dX0_init_29 (fun C => ?_)
  refine V_aload_n C dX0_init_32 rfl 0 rfl ?_
  refine V_iconst (v := 5) C dX0_init_33 (by decide) ?_
  refine V_newa (atype := .int) (ty := .int) (a0 := (5, .inl (fun _ => 0))) C rfl harrX0_init_int 0 rfl (fun _ => rfl) (by decide) (by decide) (Nat.le_of_ble_eq_true rfl) (Nat.le_of_ble_eq_true rfl) (Nat.le_of_ble_eq_true rfl) dX0_init_34 (fun q34 C => ?_)
  refine V_putF (Cn := RX0) (T := TX0) (N := 8) (ws' := [(h0, .inr (0, [.ref q6, .ref q13, .ref q20, .ref q27, .ref q34, .null, .null, .int 0])), (q6, .inl (cI, 4, .inl (fun _ => 0))), (q13, .inl (cI, 4, .inl (fun _ => 0))), (q20, .inl (cI, 4, .inl (fun _ => 0))), (q27, .inl (cI, 4, .inl (fun _ => 0))), (q34, .inl (cI, 5, .inl (fun _ => 0)))]) C hmn hinX0_init_X0 tyX0 tyX0_ok nmX0 0 rfl rfl 4 (by decide) hfX0_init_24 rfl rfl rfl (tyX0_ok 4 (by decide)) rfl rfl (Nat.le_of_ble_eq_true rfl) rfl dX0_init_36 (fun C => ?_)
  refine V_aload_n C dX0_init_39 rfl 0 rfl ?_
  refine V_sipush (v := 576) C dX0_init_40 (by decide) ?_
  refine V_newa (atype := .int) (ty := .int) (a0 := (576, .inl (fun _ => 0))) C rfl harrX0_init_int 0 rfl (fun _ => rfl) (by decide) (by decide) (Nat.le_of_ble_eq_true rfl) (Nat.le_of_ble_eq_true rfl) (Nat.le_of_ble_eq_true rfl) dX0_init_43 (fun q43 C => ?_)
  refine V_putF (Cn := RX0) (T := TX0) (N := 8) (ws' := [(h0, .inr (0, [.ref q6, .ref q13, .ref q20, .ref q27, .ref q34, .ref q43, .null, .int 0])), (q6, .inl (cI, 4, .inl (fun _ => 0))), (q13, .inl (cI, 4, .inl (fun _ => 0))), (q20, .inl (cI, 4, .inl (fun _ => 0))), (q27, .inl (cI, 4, .inl (fun _ => 0))), (q34, .inl (cI, 5, .inl (fun _ => 0))), (q43, .inl (cI, 576, .inl (fun _ => 0)))]) C hmn hinX0_init_X0 tyX0 tyX0_ok nmX0 0 rfl rfl 5 (by decide) hfX0_init_27 rfl rfl rfl (tyX0_ok 5 (by decide)) rfl rfl (Nat.le_of_ble_eq_true rfl) rfl dX0_init_45 (fun C => ?_)
  refine V_aload_n C dX0_init_48 rfl 0 rfl ?_
  refine V_sipush (v := 500) C dX0_init_49 (by decide) ?_
  refine V_newa (atype := .int) (ty := .int) (a0 := (500, .inl (fun _ => 0))) C rfl harrX0_init_int 0 rfl (fun _ => rfl) (by decide) (by decide) (Nat.le_of_ble_eq_true rfl) (Nat.le_of_ble_eq_true rfl) (Nat.le_of_ble_eq_true rfl) dX0_init_52 (fun q52 C => ?_)
  refine V_putF (Cn := RX0) (T := TX0) (N := 8) (ws' := [(h0, .inr (0, [.ref q6, .ref q13, .ref q20, .ref q27, .ref q34, .ref q43, .ref q52, .int 0])), (q6, .inl (cI, 4, .inl (fun _ => 0))), (q13, .inl (cI, 4, .inl (fun _ => 0))), (q20, .inl (cI, 4, .inl (fun _ => 0))), (q27, .inl (cI, 4, .inl (fun _ => 0))), (q34, .inl (cI, 5, .inl (fun _ => 0))), (q43, .inl (cI, 576, .inl (fun _ => 0))), (q52, .inl (cI, 500, .inl (fun _ => 0)))]) C hmn hinX0_init_X0 tyX0 tyX0_ok nmX0 0 rfl rfl 6 (by decide) hfX0_init_30 rfl rfl rfl (tyX0_ok 6 (by decide)) rfl rfl (Nat.le_of_ble_eq_true rfl) rfl dX0_init_54 (fun C => ?_)
  refine V_aload_n C dX0_init_57 rfl 0 rfl ?_
  refine V_iconst (v := 0) C dX0_init_58 (by decide) ?_
  refine V_putG (Cn := RX0) (T := TX0) (N := 8) (ws' := [(h0, .inr (0, [.ref q6, .ref q13, .ref q20, .ref q27, .ref q34, .ref q43, .ref q52, .int 0])), (q6, .inl (cI, 4, .inl (fun _ => 0))), (q13, .inl (cI, 4, .inl (fun _ => 0))), (q20, .inl (cI, 4, .inl (fun _ => 0))), (q27, .inl (cI, 4, .inl (fun _ => 0))), (q34, .inl (cI, 5, .inl (fun _ => 0))), (q43, .inl (cI, 576, .inl (fun _ => 0))), (q52, .inl (cI, 500, .inl (fun _ => 0)))]) C hinX0_init_X0 tyX0 tyX0_ok nmX0 0 rfl rfl 7 (by decide) hfX0_init_33 rfl rfl (tyX0_ok 7 (by decide)) rfl rfl (Nat.le_of_ble_eq_true rfl) rfl dX0_init_59 (fun C => ?_)
  have C : vC p s m args meth c D vwCl (tyM cI) xN A (wL cI (adl [h0, q6, q13, q20, q27, q34, q43, q52])) cX0_init RX0 wsX0_init 2 none := vC_w C (fun u => va_D.addr (C.2.2.2.2.2.1 ()) rfl)
  refine V_conv (w := wL cI (adl [h0, q6, q13, q20, q27, q34, q43, q52])) (u := mz) rfl ?_
  exact tX0_init C rfl
theorem hdX1_init : yX1_init.cls ≠ "java/lang/invoke/MethodHandle" ∧ yX1_init.cls ≠ "java/lang/invoke/VarHandle" ∧ (parseMethodDescriptor yX1_init.desc).map (fun d => d.parameters.length) = some 0 := by decide +kernel
theorem hvX1_init : yX1_init.cls = RX1 ∧ yX1_init.cls ≠ "java/lang/invoke/MethodHandle" ∧ yX1_init.cls ≠ "java/lang/invoke/VarHandle" ∧ (parseMethodDescriptor yX1_init.desc).map (fun d => d.parameters.length) = some 0 := by decide +kernel
theorem hinX1_init_X1 : ∀ w ∈ u_ws RX1 TX1 12, w ∈ wsX1_init := by decide +kernel
theorem hoX1_init_1 : Cond.methodLink RX1 1 Lib.objectInit ∈ wsX1_init := by decide +kernel
theorem hoX1_init_2 : Cond.instanceMethod Lib.objectInit ∈ wsX1_init := by decide +kernel
theorem hoX1_init_3 : Cond.code Lib.objectInit ⟨#[0xb1]⟩ 1 none ∈ wsX1_init := by decide +kernel
theorem harrX1_init_int : Cond.arrayClass .int ∈ wsX1_init := by decide +kernel
theorem hfX1_init_9 : Cond.fieldLink RX1 9 "MeteredSheets" "kinds" "[I" ∈ wsX1_init := by decide +kernel
theorem hfX1_init_13 : Cond.fieldLink RX1 13 "MeteredSheets" "ones" "[I" ∈ wsX1_init := by decide +kernel
theorem hfX1_init_16 : Cond.fieldLink RX1 16 "MeteredSheets" "others" "[I" ∈ wsX1_init := by decide +kernel
theorem hfX1_init_19 : Cond.fieldLink RX1 19 "MeteredSheets" "numbers" "[I" ∈ wsX1_init := by decide +kernel
theorem hfX1_init_22 : Cond.fieldLink RX1 22 "MeteredSheets" "values" "[I" ∈ wsX1_init := by decide +kernel
theorem harrX1_init_boolean : Cond.arrayClass .boolean ∈ wsX1_init := by decide +kernel
theorem hfX1_init_25 : Cond.fieldLink RX1 25 "MeteredSheets" "marked" "[Z" ∈ wsX1_init := by decide +kernel
theorem hfX1_init_29 : Cond.fieldLink RX1 29 "MeteredSheets" "order" "[I" ∈ wsX1_init := by decide +kernel
theorem hinX1_init_X0 : ∀ w ∈ u_ws RX0 TX0 8, w ∈ wsX1_init := by decide +kernel
theorem hnX1_init_1 : Cond.classLink RX1 32 RX0 ∈ wsX1_init := by decide +kernel
theorem hnX1_init_2 : Cond.instantiable RX0 8 ∈ wsX1_init := by decide +kernel
theorem hnX1_init_3 : Cond.initialized RX0 ∈ wsX1_init := by decide +kernel
theorem hnX1_init_4 : Cond.instanceMethod yX0_init ∈ wsX1_init := by decide +kernel
theorem hfX1_init_35 : Cond.fieldLink RX1 35 "MeteredSheets" "ledger" "LMeteredSheets$Ledger;" ∈ wsX1_init := by decide +kernel
theorem hfX1_init_39 : Cond.fieldLink RX1 39 "MeteredSheets" "changed" "[Z" ∈ wsX1_init := by decide +kernel
theorem hfX1_init_42 : Cond.fieldLink RX1 42 "MeteredSheets" "placed" "[Z" ∈ wsX1_init := by decide +kernel
theorem hfX1_init_45 : Cond.fieldLink RX1 45 "MeteredSheets" "reaching" "[Z" ∈ wsX1_init := by decide +kernel
theorem hfX1_init_48 : Cond.fieldLink RX1 48 "MeteredSheets" "fresh" "[I" ∈ wsX1_init := by decide +kernel
set_option maxHeartbeats 4000000 in
theorem qX1_init_105 (C : vC p s m args meth c D vwCl (tyF cI cZ) xN A (wK cI cZ ad) cX1_init RX1 wsX1_init 2 none) {Q : State → Prop} : ∀ (n k : Nat), k + n = 24 → ∀ (u : vM), (∀ r : vM, lpX1_init_105 n k u = r → V p l e rmX1_init s m args below meth c D vwCl A (wK cI cZ ad) 2 19 1369 Q r 138 [(0, .ref (ad 0)), (1, .int (nI 24))] []) → V p l e rmX1_init s m args below meth c D vwCl A (wK cI cZ ad) 2 19 1369 Q u 105 [(0, .ref (ad 0)), (1, .int (nI k))] [] := by
  intro n
  induction n with
  | zero =>
    intro k hk u KK
    obtain rfl : k = 24 := by omega
    refine V_iload_n C dX1_init_105 rfl 1 rfl ?_
    refine V_bipush (v := 24) C dX1_init_106 (by decide) ?_
    refine V_icmp_ge (tgt := 138) C dX1_init_108 (by decide) (fun _ => ?_) (fun h => absurd (by decide : (24 : Int32) ≤ nI 24) h)
    exact KK _ rfl
  | succ n ih =>
    intro k hk u KK
    have hkB : k < 24 := by omega
    refine V_iload_n C dX1_init_105 rfl 1 rfl ?_
    refine V_bipush (v := 24) C dX1_init_106 (by decide) ?_
    refine V_icmp_ge (tgt := 138) C dX1_init_108 (by decide) (fun h => absurd h (nI_ge hkB (by decide))) (fun _ => ?_)
    refine V_aload_n C dX1_init_111 rfl 0 rfl ?_
    refine V_get (Cn := RX1) (T := TX1) (N := 12) C hinX1_init_X1 0 rfl rfl 1 (by decide) hfX1_init_13 rfl rfl dX1_init_112 ?_
    refine V_iload_n C dX1_init_115 rfl 1 rfl ?_
    refine V_iconst (v := (-1)) C dX1_init_116 (by decide) ?_
    refine Vm_iast C 2 0 rfl rfl (vp_in_nI hkB (by decide)) wK_s2 dX1_init_117 ?_
    refine V_u (fun u117 hu117 => ?_)
    refine V_aload_n C dX1_init_118 rfl 0 rfl ?_
    refine V_get (Cn := RX1) (T := TX1) (N := 12) C hinX1_init_X1 0 rfl rfl 2 (by decide) hfX1_init_16 rfl rfl dX1_init_119 ?_
    refine V_iload_n C dX1_init_122 rfl 1 rfl ?_
    refine V_iconst (v := (-1)) C dX1_init_123 (by decide) ?_
    refine Vm_iast C 3 0 rfl rfl (vp_in_nI hkB (by decide)) wK_s3 dX1_init_124 ?_
    refine V_u (fun u124 hu124 => ?_)
    refine V_aload_n C dX1_init_125 rfl 0 rfl ?_
    refine V_get (Cn := RX1) (T := TX1) (N := 12) C hinX1_init_X1 0 rfl rfl 6 (by decide) hfX1_init_29 rfl rfl dX1_init_126 ?_
    refine V_iload_n C dX1_init_129 rfl 1 rfl ?_
    refine V_iload_n C dX1_init_130 rfl 1 rfl ?_
    refine Vm_iast C 7 0 rfl rfl (vp_in_nI hkB (by decide)) wK_s7 dX1_init_131 ?_
    refine V_u (fun u131 hu131 => ?_)
    refine V_iinc (v := (nI (k + 1))) (ls' := [(0, .ref (ad 0)), (1, .int (nI (k + 1)))]) C dX1_init_132 1 rfl (nI_1 k) (by decide) rfl rfl ?_
    refine V_goto (tgt := 105) C dX1_init_135 (by decide) ?_
    subst hu131
    subst hu124
    subst hu117
    exact ih (k + 1) (by omega) _ (fun r hr => KK r (rfl.trans hr))
set_option maxHeartbeats 4000000 in
theorem tX1_init (C : vC p s m args meth c D vwCl (tyF cI cZ) xN A (wK cI cZ ad) cX1_init RX1 wsX1_init 2 none) {h0 : Nat} (had : ad 0 = h0) : V p l e rmX1_init s m args below meth c D vwCl A (wK cI cZ ad) 2 19 1369 (MQ below (mNq D vwCl A h0 (fun ad => wK cI cZ ad uX1_init)) args s 19 1369 A) mC0 103 [(0, .ref (ad 0))] [] := by
  refine V_iconst (v := 0) C dX1_init_103 (by decide) ?_
  refine V_istore_n (ls' := [(0, .ref (ad 0)), (1, .int 0)]) C dX1_init_104 rfl (by decide) rfl rfl ?_
  refine V_sub (ls' := [(0, .ref (ad 0)), (1, .int 0)]) [0, 1] rfl ?_
  refine qX1_init_105 C 24 0 (by decide) mC0 (fun r105 hr105 => ?_)
  subst hr105
  exact V_nret C ad had rfl rfl dX1_init_138
set_option maxRecDepth 100000 in
set_option maxHeartbeats 4000000 in
theorem kX1_init {l : Launch} {D : va_G} {cI cZ : ClassId} (h0 : Nat) : mN D vwCl (tyF cI cZ) xN l yX1_init wsX1_init rmX1_init h0 1 [.null, .null, .null, .null, .null, .null, .null, .null, .null, .null, .null, .null] 19 1369 (fun ad => wK cI cZ ad uX1_init) := by
  refine mN_of (cc := cX1_init) (maxL := 2) (ret := none) (own := RX1) rfl (by decide) rfl rfl (Nat.le_of_ble_eq_true rfl) (fun p e s m args below meth c A C hmn => ?_)
  refine V_ls (ls' := [(0, .ref h0)]) rfl ?_
  refine V_aload_n C dX1_init_0 rfl 0 rfl ?_
  refine V_objInit C hoX1_init_1 hoX1_init_2 hoX1_init_3 (Nat.le_of_ble_eq_true rfl) (Nat.le_of_ble_eq_true rfl) dX1_init_1 ?_
  refine V_aload_n C dX1_init_4 rfl 0 rfl ?_
  refine V_bipush (v := 24) C dX1_init_5 (by decide) ?_
  refine V_newa (atype := .int) (ty := .int) (a0 := (24, .inl (fun _ => 0))) C rfl harrX1_init_int 0 rfl (fun _ => rfl) (by decide) (by decide) (Nat.le_of_ble_eq_true rfl) (Nat.le_of_ble_eq_true rfl) (Nat.le_of_ble_eq_true rfl) dX1_init_7 (fun q7 C => ?_)
  refine V_putF (Cn := RX1) (T := TX1) (N := 12) (ws' := [(h0, .inr (1, [.ref q7, .null, .null, .null, .null, .null, .null, .null, .null, .null, .null, .null])), (q7, .inl (cI, 24, .inl (fun _ => 0)))]) C hmn hinX1_init_X1 tyX1 tyX1_ok nmX1 0 rfl rfl 0 (by decide) hfX1_init_9 rfl rfl rfl (tyX1_ok 0 (by decide)) rfl rfl (Nat.le_of_ble_eq_true rfl) rfl dX1_init_9 (fun C => ?_)
  refine V_aload_n C dX1_init_12 rfl 0 rfl ?_
  refine V_bipush (v := 24) C dX1_init_13 (by decide) ?_
  refine V_newa (atype := .int) (ty := .int) (a0 := (24, .inl (fun _ => 0))) C rfl harrX1_init_int 0 rfl (fun _ => rfl) (by decide) (by decide) (Nat.le_of_ble_eq_true rfl) (Nat.le_of_ble_eq_true rfl) (Nat.le_of_ble_eq_true rfl) dX1_init_15 (fun q15 C => ?_)
  refine V_putF (Cn := RX1) (T := TX1) (N := 12) (ws' := [(h0, .inr (1, [.ref q7, .ref q15, .null, .null, .null, .null, .null, .null, .null, .null, .null, .null])), (q7, .inl (cI, 24, .inl (fun _ => 0))), (q15, .inl (cI, 24, .inl (fun _ => 0)))]) C hmn hinX1_init_X1 tyX1 tyX1_ok nmX1 0 rfl rfl 1 (by decide) hfX1_init_13 rfl rfl rfl (tyX1_ok 1 (by decide)) rfl rfl (Nat.le_of_ble_eq_true rfl) rfl dX1_init_17 (fun C => ?_)
  refine V_aload_n C dX1_init_20 rfl 0 rfl ?_
  refine V_bipush (v := 24) C dX1_init_21 (by decide) ?_
  refine V_newa (atype := .int) (ty := .int) (a0 := (24, .inl (fun _ => 0))) C rfl harrX1_init_int 0 rfl (fun _ => rfl) (by decide) (by decide) (Nat.le_of_ble_eq_true rfl) (Nat.le_of_ble_eq_true rfl) (Nat.le_of_ble_eq_true rfl) dX1_init_23 (fun q23 C => ?_)
  refine V_putF (Cn := RX1) (T := TX1) (N := 12) (ws' := [(h0, .inr (1, [.ref q7, .ref q15, .ref q23, .null, .null, .null, .null, .null, .null, .null, .null, .null])), (q7, .inl (cI, 24, .inl (fun _ => 0))), (q15, .inl (cI, 24, .inl (fun _ => 0))), (q23, .inl (cI, 24, .inl (fun _ => 0)))]) C hmn hinX1_init_X1 tyX1 tyX1_ok nmX1 0 rfl rfl 2 (by decide) hfX1_init_16 rfl rfl rfl (tyX1_ok 2 (by decide)) rfl rfl (Nat.le_of_ble_eq_true rfl) rfl dX1_init_25 (fun C => ?_)
  refine V_aload_n C dX1_init_28 rfl 0 rfl ?_
  refine V_bipush (v := 24) C dX1_init_29 (by decide) ?_
  refine V_newa (atype := .int) (ty := .int) (a0 := (24, .inl (fun _ => 0))) C rfl harrX1_init_int 0 rfl (fun _ => rfl) (by decide) (by decide) (Nat.le_of_ble_eq_true rfl) (Nat.le_of_ble_eq_true rfl) (Nat.le_of_ble_eq_true rfl) dX1_init_31 (fun q31 C => ?_)
  refine V_putF (Cn := RX1) (T := TX1) (N := 12) (ws' := [(h0, .inr (1, [.ref q7, .ref q15, .ref q23, .ref q31, .null, .null, .null, .null, .null, .null, .null, .null])), (q7, .inl (cI, 24, .inl (fun _ => 0))), (q15, .inl (cI, 24, .inl (fun _ => 0))), (q23, .inl (cI, 24, .inl (fun _ => 0))), (q31, .inl (cI, 24, .inl (fun _ => 0)))]) C hmn hinX1_init_X1 tyX1 tyX1_ok nmX1 0 rfl rfl 3 (by decide) hfX1_init_19 rfl rfl rfl (tyX1_ok 3 (by decide)) rfl rfl (Nat.le_of_ble_eq_true rfl) rfl dX1_init_33 (fun C => ?_)
  refine V_aload_n C dX1_init_36 rfl 0 rfl ?_
  refine V_bipush (v := 24) C dX1_init_37 (by decide) ?_
  refine V_newa (atype := .int) (ty := .int) (a0 := (24, .inl (fun _ => 0))) C rfl harrX1_init_int 0 rfl (fun _ => rfl) (by decide) (by decide) (Nat.le_of_ble_eq_true rfl) (Nat.le_of_ble_eq_true rfl) (Nat.le_of_ble_eq_true rfl) dX1_init_39 (fun q39 C => ?_)
  refine V_putF (Cn := RX1) (T := TX1) (N := 12) (ws' := [(h0, .inr (1, [.ref q7, .ref q15, .ref q23, .ref q31, .ref q39, .null, .null, .null, .null, .null, .null, .null])), (q7, .inl (cI, 24, .inl (fun _ => 0))), (q15, .inl (cI, 24, .inl (fun _ => 0))), (q23, .inl (cI, 24, .inl (fun _ => 0))), (q31, .inl (cI, 24, .inl (fun _ => 0))), (q39, .inl (cI, 24, .inl (fun _ => 0)))]) C hmn hinX1_init_X1 tyX1 tyX1_ok nmX1 0 rfl rfl 4 (by decide) hfX1_init_22 rfl rfl rfl (tyX1_ok 4 (by decide)) rfl rfl (Nat.le_of_ble_eq_true rfl) rfl dX1_init_41 (fun C => ?_)
  refine V_aload_n C dX1_init_44 rfl 0 rfl ?_
  refine V_bipush (v := 24) C dX1_init_45 (by decide) ?_
  refine V_newa (atype := .boolean) (ty := .boolean) (a0 := (24, .inl (fun _ => 0))) C rfl harrX1_init_boolean 1 rfl (fun _ => rfl) (by decide) (by decide) (Nat.le_of_ble_eq_true rfl) (Nat.le_of_ble_eq_true rfl) (Nat.le_of_ble_eq_true rfl) dX1_init_47 (fun q47 C => ?_)
  refine V_putF (Cn := RX1) (T := TX1) (N := 12) (ws' := [(h0, .inr (1, [.ref q7, .ref q15, .ref q23, .ref q31, .ref q39, .ref q47, .null, .null, .null, .null, .null, .null])), (q7, .inl (cI, 24, .inl (fun _ => 0))), (q15, .inl (cI, 24, .inl (fun _ => 0))), (q23, .inl (cI, 24, .inl (fun _ => 0))), (q31, .inl (cI, 24, .inl (fun _ => 0))), (q39, .inl (cI, 24, .inl (fun _ => 0))), (q47, .inl (cZ, 24, .inl (fun _ => 0)))]) C hmn hinX1_init_X1 tyX1 tyX1_ok nmX1 0 rfl rfl 5 (by decide) hfX1_init_25 rfl rfl rfl (tyX1_ok 5 (by decide)) rfl rfl (Nat.le_of_ble_eq_true rfl) rfl dX1_init_49 (fun C => ?_)
  refine V_aload_n C dX1_init_52 rfl 0 rfl ?_
  refine V_bipush (v := 24) C dX1_init_53 (by decide) ?_
  refine V_newa (atype := .int) (ty := .int) (a0 := (24, .inl (fun _ => 0))) C rfl harrX1_init_int 0 rfl (fun _ => rfl) (by decide) (by decide) (Nat.le_of_ble_eq_true rfl) (Nat.le_of_ble_eq_true rfl) (Nat.le_of_ble_eq_true rfl) dX1_init_55 (fun q55 C => ?_)
  refine V_putF (Cn := RX1) (T := TX1) (N := 12) (ws' := [(h0, .inr (1, [.ref q7, .ref q15, .ref q23, .ref q31, .ref q39, .ref q47, .ref q55, .null, .null, .null, .null, .null])), (q7, .inl (cI, 24, .inl (fun _ => 0))), (q15, .inl (cI, 24, .inl (fun _ => 0))), (q23, .inl (cI, 24, .inl (fun _ => 0))), (q31, .inl (cI, 24, .inl (fun _ => 0))), (q39, .inl (cI, 24, .inl (fun _ => 0))), (q47, .inl (cZ, 24, .inl (fun _ => 0))), (q55, .inl (cI, 24, .inl (fun _ => 0)))]) C hmn hinX1_init_X1 tyX1 tyX1_ok nmX1 0 rfl rfl 6 (by decide) hfX1_init_29 rfl rfl rfl (tyX1_ok 6 (by decide)) rfl rfl (Nat.le_of_ble_eq_true rfl) rfl dX1_init_57 (fun C => ?_)
  refine V_aload_n C dX1_init_60 rfl 0 rfl ?_
  refine V_new (ci := 0) (fs := [.null, .null, .null, .null, .null, .null, .null, .int 0]) C hinX1_init_X0 tyX0 tyX0_ok hnX1_init_1 hnX1_init_2 hnX1_init_3 rfl (fun j hj => by rcases (show j = 0 ∨ j = 1 ∨ j = 2 ∨ j = 3 ∨ j = 4 ∨ j = 5 ∨ j = 6 ∨ j = 7 by omega) with rfl | rfl | rfl | rfl | rfl | rfl | rfl | rfl <;> rfl) (Nat.le_of_ble_eq_true rfl) (Nat.le_of_ble_eq_true rfl) dX1_init_61 (fun q61 C => ?_)
  refine V_dup C dX1_init_64 rfl ?_
  refine V_ctorN (i0 := 8) (Post := fun ad => wL cI ad uX0_init) C xN_ok ⟨[0], rfl⟩ (kX0_init q61) ⟨va_cnB 0 C.2.2.1 ggX1_init_X0_init rfl rfl rfl (C.2.2.2.2.2.2.2.2.2.2 _ nwX1_34) (C.2.2.1 _ hnX1_init_3) hdX0_init ⟨Nat.le_of_ble_eq_true rfl, Nat.le_of_ble_eq_true rfl⟩, rfl, C.2.2.1 _ hnX1_init_4⟩ [0, 1, 2, 3, 4, 5, 6, 7] [(h0, .inr (1, [.ref q7, .ref q15, .ref q23, .ref q31, .ref q39, .ref q47, .ref q55, .null, .null, .null, .null, .null])), (q7, .inl (cI, 24, .inl (fun _ => 0))), (q15, .inl (cI, 24, .inl (fun _ => 0))), (q23, .inl (cI, 24, .inl (fun _ => 0))), (q31, .inl (cI, 24, .inl (fun _ => 0))), (q39, .inl (cI, 24, .inl (fun _ => 0))), (q47, .inl (cZ, 24, .inl (fun _ => 0))), (q55, .inl (cI, 24, .inl (fun _ => 0)))] rfl rfl (by decide) (by decide) (Nat.le_of_ble_eq_true rfl) ⟨(Nat.le_of_ble_eq_true rfl), (Nat.le_of_ble_eq_true rfl)⟩ dX1_init_65 (fun adL hadL C2 => ?_)
  subst hadL
  have C := C2
  refine V_putF (Cn := RX1) (T := TX1) (N := 12) (ws' := [(h0, .inr (1, [.ref q7, .ref q15, .ref q23, .ref q31, .ref q39, .ref q47, .ref q55, .ref (adL 0), .null, .null, .null, .null])), (q7, .inl (cI, 24, .inl (fun _ => 0))), (q15, .inl (cI, 24, .inl (fun _ => 0))), (q23, .inl (cI, 24, .inl (fun _ => 0))), (q31, .inl (cI, 24, .inl (fun _ => 0))), (q39, .inl (cI, 24, .inl (fun _ => 0))), (q47, .inl (cZ, 24, .inl (fun _ => 0))), (q55, .inl (cI, 24, .inl (fun _ => 0))), ((adL 0), .inr (0, [.ref (adL 1), .ref (adL 2), .ref (adL 3), .ref (adL 4), .ref (adL 5), .ref (adL 6), .ref (adL 7), .int (uX0_init 8 0)])), ((adL 1), .inl (cI, 4, .inl (uX0_init 1))), ((adL 2), .inl (cI, 4, .inl (uX0_init 2))), ((adL 3), .inl (cI, 4, .inl (uX0_init 3))), ((adL 4), .inl (cI, 4, .inl (uX0_init 4))), ((adL 5), .inl (cI, 5, .inl (uX0_init 5))), ((adL 6), .inl (cI, 576, .inl (uX0_init 6))), ((adL 7), .inl (cI, 500, .inl (uX0_init 7)))]) C hmn hinX1_init_X1 tyX1 tyX1_ok nmX1 0 rfl rfl 7 (by decide) hfX1_init_35 rfl rfl rfl (tyX1_ok 7 (by decide)) rfl rfl (Nat.le_of_ble_eq_true rfl) rfl dX1_init_68 (fun C => ?_)
  refine V_aload_n C dX1_init_71 rfl 0 rfl ?_
  refine V_bipush (v := 24) C dX1_init_72 (by decide) ?_
  refine V_newa (atype := .boolean) (ty := .boolean) (a0 := (24, .inl (fun _ => 0))) C rfl harrX1_init_boolean 1 rfl (fun _ => rfl) (by decide) (by decide) (Nat.le_of_ble_eq_true rfl) (Nat.le_of_ble_eq_true rfl) (Nat.le_of_ble_eq_true rfl) dX1_init_74 (fun q74 C => ?_)
  refine V_putF (Cn := RX1) (T := TX1) (N := 12) (ws' := [(h0, .inr (1, [.ref q7, .ref q15, .ref q23, .ref q31, .ref q39, .ref q47, .ref q55, .ref (adL 0), .ref q74, .null, .null, .null])), (q7, .inl (cI, 24, .inl (fun _ => 0))), (q15, .inl (cI, 24, .inl (fun _ => 0))), (q23, .inl (cI, 24, .inl (fun _ => 0))), (q31, .inl (cI, 24, .inl (fun _ => 0))), (q39, .inl (cI, 24, .inl (fun _ => 0))), (q47, .inl (cZ, 24, .inl (fun _ => 0))), (q55, .inl (cI, 24, .inl (fun _ => 0))), ((adL 0), .inr (0, [.ref (adL 1), .ref (adL 2), .ref (adL 3), .ref (adL 4), .ref (adL 5), .ref (adL 6), .ref (adL 7), .int (uX0_init 8 0)])), ((adL 1), .inl (cI, 4, .inl (uX0_init 1))), ((adL 2), .inl (cI, 4, .inl (uX0_init 2))), ((adL 3), .inl (cI, 4, .inl (uX0_init 3))), ((adL 4), .inl (cI, 4, .inl (uX0_init 4))), ((adL 5), .inl (cI, 5, .inl (uX0_init 5))), ((adL 6), .inl (cI, 576, .inl (uX0_init 6))), ((adL 7), .inl (cI, 500, .inl (uX0_init 7))), (q74, .inl (cZ, 24, .inl (fun _ => 0)))]) C hmn hinX1_init_X1 tyX1 tyX1_ok nmX1 0 rfl rfl 8 (by decide) hfX1_init_39 rfl rfl rfl (tyX1_ok 8 (by decide)) rfl rfl (Nat.le_of_ble_eq_true rfl) rfl dX1_init_76 (fun C => ?_)
  refine V_aload_n C dX1_init_79 rfl 0 rfl ?_
  refine V_bipush (v := 24) C dX1_init_80 (by decide) ?_
  refine V_newa (atype := .boolean) (ty := .boolean) (a0 := (24, .inl (fun _ => 0))) C rfl harrX1_init_boolean 1 rfl (fun _ => rfl) (by decide) (by decide) (Nat.le_of_ble_eq_true rfl) (Nat.le_of_ble_eq_true rfl) (Nat.le_of_ble_eq_true rfl) dX1_init_82 (fun q82 C => ?_)
  refine V_putF (Cn := RX1) (T := TX1) (N := 12) (ws' := [(h0, .inr (1, [.ref q7, .ref q15, .ref q23, .ref q31, .ref q39, .ref q47, .ref q55, .ref (adL 0), .ref q74, .ref q82, .null, .null])), (q7, .inl (cI, 24, .inl (fun _ => 0))), (q15, .inl (cI, 24, .inl (fun _ => 0))), (q23, .inl (cI, 24, .inl (fun _ => 0))), (q31, .inl (cI, 24, .inl (fun _ => 0))), (q39, .inl (cI, 24, .inl (fun _ => 0))), (q47, .inl (cZ, 24, .inl (fun _ => 0))), (q55, .inl (cI, 24, .inl (fun _ => 0))), ((adL 0), .inr (0, [.ref (adL 1), .ref (adL 2), .ref (adL 3), .ref (adL 4), .ref (adL 5), .ref (adL 6), .ref (adL 7), .int (uX0_init 8 0)])), ((adL 1), .inl (cI, 4, .inl (uX0_init 1))), ((adL 2), .inl (cI, 4, .inl (uX0_init 2))), ((adL 3), .inl (cI, 4, .inl (uX0_init 3))), ((adL 4), .inl (cI, 4, .inl (uX0_init 4))), ((adL 5), .inl (cI, 5, .inl (uX0_init 5))), ((adL 6), .inl (cI, 576, .inl (uX0_init 6))), ((adL 7), .inl (cI, 500, .inl (uX0_init 7))), (q74, .inl (cZ, 24, .inl (fun _ => 0))), (q82, .inl (cZ, 24, .inl (fun _ => 0)))]) C hmn hinX1_init_X1 tyX1 tyX1_ok nmX1 0 rfl rfl 9 (by decide) hfX1_init_42 rfl rfl rfl (tyX1_ok 9 (by decide)) rfl rfl (Nat.le_of_ble_eq_true rfl) rfl dX1_init_84 (fun C => ?_)
  refine V_aload_n C dX1_init_87 rfl 0 rfl ?_
  refine V_bipush (v := 24) C dX1_init_88 (by decide) ?_
  refine V_newa (atype := .boolean) (ty := .boolean) (a0 := (24, .inl (fun _ => 0))) C rfl harrX1_init_boolean 1 rfl (fun _ => rfl) (by decide) (by decide) (Nat.le_of_ble_eq_true rfl) (Nat.le_of_ble_eq_true rfl) (Nat.le_of_ble_eq_true rfl) dX1_init_90 (fun q90 C => ?_)
  refine V_putF (Cn := RX1) (T := TX1) (N := 12) (ws' := [(h0, .inr (1, [.ref q7, .ref q15, .ref q23, .ref q31, .ref q39, .ref q47, .ref q55, .ref (adL 0), .ref q74, .ref q82, .ref q90, .null])), (q7, .inl (cI, 24, .inl (fun _ => 0))), (q15, .inl (cI, 24, .inl (fun _ => 0))), (q23, .inl (cI, 24, .inl (fun _ => 0))), (q31, .inl (cI, 24, .inl (fun _ => 0))), (q39, .inl (cI, 24, .inl (fun _ => 0))), (q47, .inl (cZ, 24, .inl (fun _ => 0))), (q55, .inl (cI, 24, .inl (fun _ => 0))), ((adL 0), .inr (0, [.ref (adL 1), .ref (adL 2), .ref (adL 3), .ref (adL 4), .ref (adL 5), .ref (adL 6), .ref (adL 7), .int (uX0_init 8 0)])), ((adL 1), .inl (cI, 4, .inl (uX0_init 1))), ((adL 2), .inl (cI, 4, .inl (uX0_init 2))), ((adL 3), .inl (cI, 4, .inl (uX0_init 3))), ((adL 4), .inl (cI, 4, .inl (uX0_init 4))), ((adL 5), .inl (cI, 5, .inl (uX0_init 5))), ((adL 6), .inl (cI, 576, .inl (uX0_init 6))), ((adL 7), .inl (cI, 500, .inl (uX0_init 7))), (q74, .inl (cZ, 24, .inl (fun _ => 0))), (q82, .inl (cZ, 24, .inl (fun _ => 0))), (q90, .inl (cZ, 24, .inl (fun _ => 0)))]) C hmn hinX1_init_X1 tyX1 tyX1_ok nmX1 0 rfl rfl 10 (by decide) hfX1_init_45 rfl rfl rfl (tyX1_ok 10 (by decide)) rfl rfl (Nat.le_of_ble_eq_true rfl) rfl dX1_init_92 (fun C => ?_)
  refine V_aload_n C dX1_init_95 rfl 0 rfl ?_
  refine V_bipush (v := 24) C dX1_init_96 (by decide) ?_
  refine V_newa (atype := .int) (ty := .int) (a0 := (24, .inl (fun _ => 0))) C rfl harrX1_init_int 0 rfl (fun _ => rfl) (by decide) (by decide) (Nat.le_of_ble_eq_true rfl) (Nat.le_of_ble_eq_true rfl) (Nat.le_of_ble_eq_true rfl) dX1_init_98 (fun q98 C => ?_)
  refine V_putF (Cn := RX1) (T := TX1) (N := 12) (ws' := [(h0, .inr (1, [.ref q7, .ref q15, .ref q23, .ref q31, .ref q39, .ref q47, .ref q55, .ref (adL 0), .ref q74, .ref q82, .ref q90, .ref q98])), (q7, .inl (cI, 24, .inl (fun _ => 0))), (q15, .inl (cI, 24, .inl (fun _ => 0))), (q23, .inl (cI, 24, .inl (fun _ => 0))), (q31, .inl (cI, 24, .inl (fun _ => 0))), (q39, .inl (cI, 24, .inl (fun _ => 0))), (q47, .inl (cZ, 24, .inl (fun _ => 0))), (q55, .inl (cI, 24, .inl (fun _ => 0))), ((adL 0), .inr (0, [.ref (adL 1), .ref (adL 2), .ref (adL 3), .ref (adL 4), .ref (adL 5), .ref (adL 6), .ref (adL 7), .int (uX0_init 8 0)])), ((adL 1), .inl (cI, 4, .inl (uX0_init 1))), ((adL 2), .inl (cI, 4, .inl (uX0_init 2))), ((adL 3), .inl (cI, 4, .inl (uX0_init 3))), ((adL 4), .inl (cI, 4, .inl (uX0_init 4))), ((adL 5), .inl (cI, 5, .inl (uX0_init 5))), ((adL 6), .inl (cI, 576, .inl (uX0_init 6))), ((adL 7), .inl (cI, 500, .inl (uX0_init 7))), (q74, .inl (cZ, 24, .inl (fun _ => 0))), (q82, .inl (cZ, 24, .inl (fun _ => 0))), (q90, .inl (cZ, 24, .inl (fun _ => 0))), (q98, .inl (cI, 24, .inl (fun _ => 0)))]) C hmn hinX1_init_X1 tyX1 tyX1_ok nmX1 0 rfl rfl 11 (by decide) hfX1_init_48 rfl rfl rfl (tyX1_ok 11 (by decide)) rfl rfl (Nat.le_of_ble_eq_true rfl) rfl dX1_init_100 (fun C => ?_)
  refine V_pick (ws' := [(h0, .inr (1, [.ref q7, .ref q15, .ref q23, .ref q31, .ref q39, .ref q47, .ref q55, .ref (adL 0), .ref q74, .ref q82, .ref q90, .ref q98])), (q7, .inl (cI, 24, .inl (fun _ => 0))), (q15, .inl (cI, 24, .inl (fun _ => 0))), (q23, .inl (cI, 24, .inl (fun _ => 0))), (q31, .inl (cI, 24, .inl (fun _ => 0))), (q39, .inl (cI, 24, .inl (fun _ => 0))), (q47, .inl (cZ, 24, .inl (fun _ => 0))), (q55, .inl (cI, 24, .inl (fun _ => 0))), ((adL 0), .inr (0, [.ref (adL 1), .ref (adL 2), .ref (adL 3), .ref (adL 4), .ref (adL 5), .ref (adL 6), .ref (adL 7), .int (uX0_init 8 0)])), (q74, .inl (cZ, 24, .inl (fun _ => 0))), (q82, .inl (cZ, 24, .inl (fun _ => 0))), (q90, .inl (cZ, 24, .inl (fun _ => 0))), (q98, .inl (cI, 24, .inl (fun _ => 0))), ((adL 1), .inl (cI, 4, .inl (uX0_init 1))), ((adL 2), .inl (cI, 4, .inl (uX0_init 2))), ((adL 3), .inl (cI, 4, .inl (uX0_init 3))), ((adL 4), .inl (cI, 4, .inl (uX0_init 4))), ((adL 5), .inl (cI, 5, .inl (uX0_init 5))), ((adL 6), .inl (cI, 576, .inl (uX0_init 6))), ((adL 7), .inl (cI, 500, .inl (uX0_init 7)))]) [0, 1, 2, 3, 4, 5, 6, 7, 8, 16, 17, 18, 19, 9, 10, 11, 12, 13, 14, 15] rfl (by decide) rfl C (fun C => ?_)
  have C : vC p s m args meth c D vwCl (tyF cI cZ) xN A (wK cI cZ (adl [h0, q7, q15, q23, q31, q39, q47, q55, (adL 0), q74, q82, q90, q98, (adL 1), (adL 2), (adL 3), (adL 4), (adL 5), (adL 6), (adL 7)])) cX1_init RX1 wsX1_init 2 none := vC_w C (fun u => va_D.addr (C.2.2.2.2.2.1 ()) rfl)
  refine V_conv (w := wK cI cZ (adl [h0, q7, q15, q23, q31, q39, q47, q55, (adL 0), q74, q82, q90, q98, (adL 1), (adL 2), (adL 3), (adL 4), (adL 5), (adL 6), (adL 7)])) (u := mC0) rfl ?_
  exact tX1_init C rfl
