/-! THE LAYER, GOING ON: shifts, the script, calls of the law -/
/-- a shift to the right without the sign -/
def ush (x y : Int32) : Int32 := (x.toUInt32 >>> (y.toUInt32 &&& Int32.toUInt32 31)).toInt32
section VJ
variable {p : Program} {l : Launch} {e : Env} {R : Room} {s : State} {m : MethodId} {args : Array Value} {below : List Frame} {meth : Method} {c : Code} {S : Type} {D : va_G} {cl : List vw_C} {tys : List (ClassId × FieldType)} {X : State → Prop} {A : Nat → Prop} {w : S → va_W} {cc : ByteArray} {own : String} {Ts : List Cond} {nL k n : Nat} {rt : Option FieldType} {Q : State → Prop} {u : S} {pc : Nat} {ls : List (Nat × Value)} {st : List Value}
theorem V_widen {k2 n2 : Nat} (h1 : k ≤ k2) (h2 : n ≤ n2) (K : V p l e R s m args below meth c D cl A w nL k2 n2 Q u pc ls st) : V p l e R s m args below meth c D cl A w nL k n Q u pc ls st :=
  fun H locs la hP hS hl => W.widen h1 h2 (K H locs la hP hS hl)
theorem V_astore_n (C : vC p s m args meth c D cl tys X A w cc own Ts nL rt) {j : Fin 4} {i : Nat} {x : Nat} {ls' : List (Nat × Value)} (d : decode cc pc = .ok (.astore_n j, 1)) (hi : (j : Nat) = i) (hn : i < nL) (hc : lcat ls = true) (h : lput i (.ref x) ls = ls') (K : V p l e R s m args below meth c D cl A w nL k n Q u (pc + 1) ls' st) : V p l e R s m args below meth c D cl A w nL k n Q u pc ls (.ref x :: st) :=
  fun H locs la hP hS hl => lv_astore_n C.1 C.2.1 d hi hl hn rfl (fun lb hb => K H locs lb hP hS (by rw [← h]; exact lput_has hc hb))
theorem V_sld (C : vC p s m args meth c D cl tys X A w cc own Ts nL rt) {b L : Nat} {xs : Nat → Int32} (hX : va_X b L xs s s.heap) (hbl : b < s.heap.size) (hbA : ¬ A b) {i : Int32} (hin : vp_in i L) (d : decode cc pc = .ok (.iaload, 1))
    (K : V p l e R s m args below meth c D cl A w nL k n Q u (pc + 1) ls (.int (xs i.toNatClampNeg) :: st)) : V p l e R s m args below meth c D cl A w nL k n Q u pc ls (.int i :: .ref b :: st) :=
  fun H locs la hP hS hl => va_sld C.1 C.2.1 hX hbl hbA hS hin d (K H locs la hP hS hl)
theorem V_sldv (C : vC p s m args meth c D cl tys X A w cc own Ts nL rt) {b L : Nat} {xs : Nat → Int32} (hX : va_X b L xs s s.heap) (hbl : b < s.heap.size) (hbA : ¬ A b) {i a : Int32} (hin : vp_in i L) (ha : xs i.toNatClampNeg = a) (d : decode cc pc = .ok (.iaload, 1))
    (K : V p l e R s m args below meth c D cl A w nL k n Q u (pc + 1) ls (.int a :: st)) : V p l e R s m args below meth c D cl A w nL k n Q u pc ls (.int i :: .ref b :: st) := V_sld C hX hbl hbA hin d (by rw [ha]; exact K)
theorem V_slen (C : vC p s m args meth c D cl tys X A w cc own Ts nL rt) {b L : Nat} {xs : Nat → Int32} (hX : va_X b L xs s s.heap) (hbl : b < s.heap.size) (hbA : ¬ A b) (d : decode cc pc = .ok (.arraylength, 1))
    (K : V p l e R s m args below meth c D cl A w nL k n Q u (pc + 1) ls (.int (nI L) :: st)) : V p l e R s m args below meth c D cl A w nL k n Q u pc ls (.ref b :: st) :=
  fun H locs la hP hS hl => va_slen C.1 C.2.1 hX hbl hbA hS d (K H locs la hP hS hl)
theorem V_ishl (C : vC p s m args meth c D cl tys X A w cc own Ts nL rt) {x y : Int32} (d : decode cc pc = .ok (.ishl, 1)) (K : V p l e R s m args below meth c D cl A w nL k n Q u (pc + 1) ls (.int (x <<< (y &&& 31)) :: st)) : V p l e R s m args below meth c D cl A w nL k n Q u pc ls (.int y :: .int x :: st) :=
  fun H locs la hP hS hl => lv_ishl C.1 C.2.1 d (K H locs la hP hS hl)
theorem V_ishr (C : vC p s m args meth c D cl tys X A w cc own Ts nL rt) {x y : Int32} (d : decode cc pc = .ok (.ishr, 1)) (K : V p l e R s m args below meth c D cl A w nL k n Q u (pc + 1) ls (.int (x >>> (y &&& 31)) :: st)) : V p l e R s m args below meth c D cl A w nL k n Q u pc ls (.int y :: .int x :: st) :=
  fun H locs la hP hS hl => lv_ishr C.1 C.2.1 d (K H locs la hP hS hl)
theorem V_ior (C : vC p s m args meth c D cl tys X A w cc own Ts nL rt) {x y : Int32} (d : decode cc pc = .ok (.ior, 1)) (K : V p l e R s m args below meth c D cl A w nL k n Q u (pc + 1) ls (.int (x ||| y) :: st)) : V p l e R s m args below meth c D cl A w nL k n Q u pc ls (.int y :: .int x :: st) :=
  fun H locs la hP hS hl => lv_ior C.1 C.2.1 d (K H locs la hP hS hl)
theorem V_iushr (C : vC p s m args meth c D cl tys X A w cc own Ts nL rt) {x y : Int32} (d : decode cc pc = .ok (.iushr, 1)) (K : V p l e R s m args below meth c D cl A w nL k n Q u (pc + 1) ls (.int (ush x y) :: st)) : V p l e R s m args below meth c D cl A w nL k n Q u pc ls (.int y :: .int x :: st) :=
  fun H locs la hP hS hl => lv_iushr C.1 C.2.1 d rfl (K H locs la hP hS hl)
variable {y : MethodName} {bytes : ByteArray} {maxL index nn : Nat} {ret : Option FieldType} {ws : List Cond} {rm : Room} {Cn host : String} {T : u_T} {N ci : Nat} {b : Addr} {As : List Value} {r : Int32} {u' : S}
theorem V_cSi4 (C : vC p s m args meth c D cl tys X A w cc own Ts nL rt) (hX : xOK X) {v1 v2 v3 v4 : Value} (h : mI D cl tys X w l y ws rm [v1, v2, v3, v4] u r u') (cw : CallB R s args own index y bytes maxL ret ws rm 0 0 4 ∧ (Cond.static y).before args s = true) (hst : (st.map fun v => v.category).sum ≤ 8) (hk : k + 0 ≤ R.cells ∧ n + 0 ≤ R.slots) (d : decode cc pc = .ok (.invokestatic index, 3)) (K : V p l e R s m args below meth c D cl A w nL k n Q u' (pc + 3) ls (.int r :: st)) : V p l e R s m args below meth c D cl A w nL k n Q u pc ls (v4 :: v3 :: v2 :: v1 :: st) := V_callSi (As := [v1, v2, v3, v4]) C hX h cw rfl hst hk d K
/-- a method that reads the law's script, and nothing else -/
def mSc (D : va_G) (cl : List vw_C) (tys : List (ClassId × FieldType)) (X : State → Prop) (l : Launch) (y : MethodName) (ws : List Cond) (rm : Room) (As : List Value) (b L : Nat) (xs : Nat → Int32) (r : Int32) : Prop :=
  ∀ sz : Nat, Met l y ws rm (va_Pc As (fun U => U.heap.size = sz ∧ va_K D cl tys U ∧ X U ∧ va_X b L xs U U.heap ∧ b < sz)) (mQi D cl (uW []) (va_A [] sz) r ()) 0 0 (va_A [] sz)
theorem mSc_of {own : String} {D : va_G} {cl : List vw_C} {tys : List (ClassId × FieldType)} {X : State → Prop} {l : Launch} {y : MethodName} {ws ws' : List Cond} {rm : Room} {As : List Value} {b L : Nat} {xs : Nat → Int32} {r : Int32} {cc : ByteArray} {maxL : Nat} {ret : Option FieldType}
    (ho : y.cls = own) (hy : plainName y.cls = true) (hws : ws = Cond.code y cc maxL ret :: ws') (hlen : (lg_sl As).length ≤ maxL)
    (body : ∀ (p : Program) (e : Env) (s : State) (m : MethodId) (args : Array Value) (below : List Frame) (meth : Method) (c : Code) (A : Nat → Prop), vC p s m args meth c D cl tys X A (uW []) cc own ws maxL ret → va_X b L xs s s.heap → b < s.heap.size → ¬ A b → V p l e rm s m args below meth c D cl A (uW []) maxL 0 0 (MQ below (mQi D cl (uW []) A r ()) args s 0 0 A) () 0 (lv_args 0 As) []) : mSc D cl tys X l y ws rm As b L xs r := by
  intro sz
  refine Met.ofW (cc := cc) (maxL := maxL) (ret := ret) hy hws ?_
  intro p e s m args below meth c s₁ B hml hv
  obtain ⟨rfl, hsz, hK, hX, hS, hb⟩ := hv
  subst hsz
  have C : vC p s m As.toArray meth c D cl tys X (va_A [] s.heap.size) (uW []) cc own ws maxL ret := ⟨B.exec, B.bytes, atoms_spec (ws := ws) B.pre, by rw [← ho]; exact findClass_of_methodNamed B.named, hK, fun _ => ⟨fun i j p q h => by simp at h, fun k q h => by simp at h⟩, fun q h => Or.inr h, hml, B.notSynchronized, B.returns, hX⟩
  have hl := lv_entry As (n := maxL) hlen
  rw [lg_entry_eq]
  refine body p e s m _ below meth c _ C hS hb ?_ s.heap [] _ (fun k q h => by simp at h) va_S.rf hl
  rintro (⟨k, z, h⟩ | h)
  · simp at h
  · exact absurd h (Nat.not_le.mpr hb)
theorem V_callSc (C : vC p s m args meth c D cl tys X A w cc own Ts nL rt) (hX : xOK X) {L b : Nat} {xs : Nat → Int32} (hsc : va_X b L xs s s.heap) (hbl : b < s.heap.size) (hbA : ¬ A b) {v1 v2 : Value} (h : mSc D cl tys X l y ws rm [v1, v2] b L xs r) (cw : CallB R s args own index y bytes maxL ret ws rm 0 0 2 ∧ (Cond.static y).before args s = true) (hst : (st.map fun v => v.category).sum ≤ 8) (hk : k + 0 ≤ R.cells ∧ n + 0 ≤ R.slots) (d : decode cc pc = .ok (.invokestatic index, 3))
    (K : V p l e R s m args below meth c D cl A w nL k n Q u (pc + 3) ls (.int r :: st)) : V p l e R s m args below meth c D cl A w nL k n Q u pc ls (v2 :: v1 :: st) := by
  intro H locs la hP hS hl
  have hb2 : b < H.size := Nat.lt_of_lt_of_le hbl hS.1
  have hX2 : va_X b L xs s H := hsc.kept (hS.2.1 b hbl hbA)
  have hF : ∀ q, va_A [] H.size q → A q := by
    rintro q (⟨j, z, hj⟩ | h)
    · simp at hj
    · exact C.2.2.2.2.2.2.1 q (Nat.le_trans hS.1 h)
  refine va_calli (va_runS (As := [v1, v2]) (rest := st) (vfx C) (h H.size) cw ⟨?_, fun U hU hW => ?_⟩ rfl rfl hl.1 rfl (lv_room hst) d hk) hS (fun q _ hq => hF q hq) hF (fun r' _ t H1 locs1 ht hvm hw hB hz1 hk1 hS1 => ?_)
  · intro a U g mk q
    obtain ⟨q1, q2, q3, q4, q5, q6⟩ := q
    exact ⟨q1, q2, va_K.moved (u := U) (U := U.calling g mk a) (Vm.Alike.refl U.vm) q3, hX U (U.calling g mk a) (State.WarmedH.refl U) q4, va_X.moved (u := U) (U := U.calling g mk a) (Vm.Alike.refl U.vm) q5, q6⟩
  · exact ⟨rfl, by rw [hU], va_K.moved hW.alike C.2.2.2.2.1, hX s U hW C.2.2.2.2.2.2.2.2.2.2, by rw [hU]; exact va_X.moved hW.alike hX2, hb2⟩
  · subst hw
    have hk2 : ∀ q : Nat, q < H.size → H1[q]? = H[q]? := fun q hq => hk1 q hq (by
      rintro (⟨j, z, hj⟩ | hA)
      · simp at hj
      · exact absurd hq (Nat.not_lt.mpr hA))
    exact K H1 locs1 la (hP.kept (fun i q hq => hk2 q.1 (hP i q hq).lt)) hS1 hl
end VJ
