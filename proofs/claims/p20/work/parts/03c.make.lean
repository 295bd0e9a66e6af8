/-! THE LAYER, GOING ON: making objects and arrays (the world is a list that grows) -/
theorem va_RA.inj {U : State} {a b : ClassId} {ty : FieldType} (h1 : va_RA U a ty) (h2 : va_RA U b ty) : a = b := by
  cases ty with
  | object C =>
    obtain ⟨_, _, _, _, _, g1⟩ := h1
    obtain ⟨_, _, _, _, _, g2⟩ := h2
    exact Option.some.inj (g1.symm.trans g2)
  | _ => exact Option.some.inj (Eq.trans (Eq.symm h1) h2)
abbrev uW (ws : va_W) : Unit → va_W := fun _ => ws
/-- a constructor's contract: from its object's cell alone to the world Post -/
def mN (D : va_G) (cl : List vw_C) (tys : List (ClassId × FieldType)) (X : State → Prop) (l : Launch) (y : MethodName) (ws : List Cond) (rm : Room) (h0 ci : Nat) (fs : List Value) (mc ms : Nat) (Post : (Nat → Nat) → va_W) : Prop :=
  ∀ sz : Nat, Met l y ws rm (mPc D cl tys X (uW [(h0, .inr (ci, fs))]) [.ref h0] () sz) (va_Qv (fun _ : Unit => True) (fun _ t => ∃ ad : Nat → Nat, ad 0 = h0 ∧ va_P D cl (Post ad) t.heap ∧ va_D (va_A [(h0, .inr (ci, fs))] sz) (Post ad)) (va_A [(h0, .inr (ci, fs))] sz)) mc ms (va_A [(h0, .inr (ci, fs))] sz)
def mNq (D : va_G) (cl : List vw_C) (A : Nat → Prop) (h0 : Nat) (Post : (Nat → Nat) → va_W) : Array Value → State → Outcome → State → Prop := va_Qv (fun _ : Unit => True) (fun _ t => ∃ ad : Nat → Nat, ad 0 = h0 ∧ va_P D cl (Post ad) t.heap ∧ va_D A (Post ad)) A
theorem mN_of {own : String} {D : va_G} {cl : List vw_C} {tys : List (ClassId × FieldType)} {X : State → Prop} {l : Launch} {y : MethodName} {ws ws' : List Cond} {rm : Room} {h0 ci : Nat} {fs : List Value} {mc ms : Nat} {Post : (Nat → Nat) → va_W} {cc : ByteArray} {maxL : Nat} {ret : Option FieldType}
    (ho : y.cls = own) (hy : plainName y.cls = true) (hi : y.name = "<init>") (hws : ws = Cond.code y cc maxL ret :: ws') (hlen : (lg_sl [.ref h0]).length ≤ maxL)
    (body : ∀ (p : Program) (e : Env) (s : State) (m : MethodId) (args : Array Value) (below : List Frame) (meth : Method) (c : Code) (A : Nat → Prop), vC p s m args meth c D cl tys X A (uW [(h0, .inr (ci, fs))]) cc own ws maxL ret → meth.name = "<init>" → V p l e rm s m args below meth c D cl A (uW [(h0, .inr (ci, fs))]) maxL 0 0 (MQ below (mNq D cl A h0 Post) args s mc ms A) () 0 (lv_args 0 [.ref h0]) []) : mN D cl tys X l y ws rm h0 ci fs mc ms Post := by
  intro sz
  refine Met.ofW (cc := cc) (maxL := maxL) (ret := ret) hy hws ?_
  intro p e s m args below meth c s₁ B hml hv
  obtain ⟨rfl, hsz, hP, hK, hD, hX⟩ := hv
  subst hsz
  have C : vC p s m [Value.ref h0].toArray meth c D cl tys X (va_A [(h0, .inr (ci, fs))] s.heap.size) (uW [(h0, .inr (ci, fs))]) cc own ws maxL ret := ⟨B.exec, B.bytes, atoms_spec (ws := ws) B.pre, by rw [← ho]; exact findClass_of_methodNamed B.named, hK, fun _ => hD.self (sz := s.heap.size), fun q h => Or.inr h, hml, B.notSynchronized, B.returns, hX⟩
  have hl := lv_entry [.ref h0] (n := maxL) hlen
  rw [lg_entry_eq]
  exact body p e s m _ below meth c _ C ((name_of_methodNamed B.named B.method).1.trans hi) s.heap [] _ hP va_S.rf hl
section VN
variable {p : Program} {l : Launch} {e : Env} {R : Room} {s : State} {m : MethodId} {args : Array Value} {below : List Frame} {meth : Method} {c : Code} {D : va_G} {cl : List vw_C} {tys : List (ClassId × FieldType)} {X : State → Prop} {A : Nat → Prop} {cc : ByteArray} {own : String} {Ts : List Cond} {nL k n : Nat} {rt : Option FieldType} {Q : State → Prop} {pc : Nat} {ls : List (Nat × Value)} {st : List Value} {ws : va_W}
theorem vC_w {S T : Type} {w : S → va_W} {w' : T → va_W} (C : vC p s m args meth c D cl tys X A w cc own Ts nL rt) (h : ∀ u : T, va_D A (w' u)) : vC p s m args meth c D cl tys X A w' cc own Ts nL rt :=
  ⟨C.1, C.2.1, C.2.2.1, C.2.2.2.1, C.2.2.2.2.1, h, C.2.2.2.2.2.2⟩
theorem V_objInit (C : vC p s m args meth c D cl tys X A (uW ws) cc own Ts nL rt) {idx : Nat} (h1 : Cond.methodLink own idx Lib.objectInit ∈ Ts) (h2 : Cond.instanceMethod Lib.objectInit ∈ Ts) (h3 : Cond.code Lib.objectInit ⟨#[0xb1]⟩ 1 none ∈ Ts) {a : Nat} (hf : 1 ≤ R.frames) (hlo : (st.map fun v => v.category).sum + 12 ≤ R.locals) (d : decode cc pc = .ok (.invokespecial idx, 3))
    (K : V p l e R s m args below meth c D cl A (uW ws) nL k n Q () (pc + 3) ls st) : V p l e R s m args below meth c D cl A (uW ws) nL k n Q () pc ls (.ref a :: st) := by
  intro H locs la hP hS hl
  refine W.objInit C.1 C.2.1 C.2.2.2.1 (C.2.2.1 _ h1) (C.2.2.1 _ h2) (C.2.2.1 _ h3) rfl (hl.1.trans C.2.2.2.2.2.2.2.1.symm) rfl d hf (by show 2 * 0 + _ + 12 ≤ _; omega) ?_
  exact K H locs la hP hS hl
theorem V_newa (C : vC p s m args meth c D cl tys X A (uW ws) cc own Ts nL rt) {atype : ArrayType} {ty : FieldType} (hty : newarray.typeOf atype = ty) (harr : Cond.arrayClass (newarray.typeOf atype) ∈ Ts) (t0 : Nat) {cA : ClassId} (ht : tys[t0]? = some (cA, ty)) {z : Int32} {N' : Nat} {a0 : vp_A} (ha : ∀ cA : ClassId, vp_cell cA a0 = arrV cA N' (fun _ => defaultValue ty)) (hn : ¬ z < 0) (hN : z.toNatClampNeg = N') (hbytes : N' * componentBytes ty ≤ 536870912) (hcells : k + 1 ≤ R.cells) (hslots : n + N' ≤ R.slots) (d : decode cc pc = .ok (.newarray atype, 2))
    (K : ∀ q : Nat, vC p s m args meth c D cl tys X A (uW (ws ++ [(q, .inl (cA, a0))])) cc own Ts nL rt → V p l e R s m args below meth c D cl A (uW (ws ++ [(q, .inl (cA, a0))])) nL (k + 1) (n + N') Q () (pc + 2) ls (.ref q :: st)) : V p l e R s m args below meth c D cl A (uW ws) nL k n Q () pc ls (.int z :: st) := by
  intro H locs la hP hS hl
  refine va_newa C.1 C.2.1 (C.2.2.1 _ harr) hty C.2.2.2.2.1 hP (C.2.2.2.2.2.1 ()) hS C.2.2.2.2.2.2.1 ha hn hN hbytes hcells hslots d (fun q cA' H1 hK1 hP1 hD1 hS1 => ?_)
  have h1 := (hK1.2 tys.length (cA', ty) (by simp)).2
  have h2 := (C.2.2.2.2.1.2 t0 _ ht).2
  obtain rfl : cA' = cA := va_RA.inj h1 h2
  exact K q (vC_w C (fun _ => hD1)) H1 locs la hP1 hS1 hl
theorem V_new (C : vC p s m args meth c D cl tys X A (uW ws) cc own Ts nL rt) {Cn : String} {T : u_T} {N ci index : Nat} (hin : ∀ w ∈ u_ws Cn T N, w ∈ Ts) (ty : Nat → FieldType) (hty : ∀ k, k < N → parseFieldDescriptor (T k).2.2.1 = some (ty k)) (h1 : Cond.classLink own index Cn ∈ Ts) (h2 : Cond.instantiable Cn N ∈ Ts) (h3 : Cond.initialized Cn ∈ Ts) (hc : cl[ci]? = some (Cn, T, N)) {fs : List Value} (hfs : ∀ j, j < N → defaultValue (ty j) = vp_V fs j) (hcells : k + 1 ≤ R.cells) (hslots : n + N ≤ R.slots) (d : decode cc pc = .ok (.new index, 3))
    (K : ∀ q : Nat, vC p s m args meth c D cl tys X A (uW (ws ++ [(q, .inr (ci, fs))])) cc own Ts nL rt → V p l e R s m args below meth c D cl A (uW (ws ++ [(q, .inr (ci, fs))])) nL (k + 1) (n + N) Q () (pc + 3) ls (.ref q :: st)) : V p l e R s m args below meth c D cl A (uW ws) nL k n Q () pc ls st := by
  intro H locs la hP hS hl
  refine va_new C.1 C.2.1 C.2.2.1 hin ty hty C.2.2.2.1 (C.2.2.1 _ h1) (C.2.2.1 _ h2) (C.2.2.1 _ h3) C.2.2.2.2.1 hP (C.2.2.2.2.2.1 ()) hS C.2.2.2.2.2.2.1 hc hfs hcells hslots d (fun q H1 hP1 hD1 hS1 => ?_)
  exact K q (vC_w C (fun _ => hD1)) H1 locs la hP1 hS1 hl
theorem V_putF (C : vC p s m args meth c D cl tys X A (uW ws) cc own Ts nL rt) (hmn : meth.name = "<init>") {ref Cn : String} {T : u_T} {N ci index a : Nat} (hin : ∀ w ∈ u_ws Cn T N, w ∈ Ts) (ty0 : Nat → FieldType) (hty : ∀ k, k < N → parseFieldDescriptor (T k).2.2.1 = some (ty0 k)) (hnm : ∀ a, a < N → ∀ b, b < N → a ≠ b → (T a).2.1 ≠ (T b).2.1) (q0 : Nat) {fs : List Value} (he : ws[q0]? = some (a, .inr (ci, fs))) (hc : cl[ci]? = some (Cn, T, N)) (f : Nat) (hf : f < N) (hl0 : Cond.fieldLink own index ref (T f).2.1 (T f).2.2.1 ∈ Ts) (hsame : ref = (T f).1) (hfin : (T f).2.2.2 = true) (hdecl : (T f).1 = own) {ty : FieldType} {v : Value} (hd : parseFieldDescriptor (T f).2.2.1 = some ty) (hnr : narrow ty v = v) (hfit : fits ty v = true) (hl : f < fs.length) {ws' : va_W} (hset : ws.set q0 (a, .inr (ci, fs.set f v)) = ws') (d : decode cc pc = .ok (.putfield index, 3))
    (K : vC p s m args meth c D cl tys X A (uW ws') cc own Ts nL rt → V p l e R s m args below meth c D cl A (uW ws') nL k n Q () (pc + 3) ls st) : V p l e R s m args below meth c D cl A (uW ws) nL k n Q () pc ls (v :: .ref a :: st) := by
  intro H locs la hP hS hl2
  refine va_putF C.1 C.2.1 C.2.2.1 hin ty0 hty hnm C.2.2.2.1 C.2.2.2.2.1 hP (C.2.2.2.2.2.1 ()) hS q0 he hc f hf (C.2.2.1 _ hl0) (fun _ h => by rw [hsame]; exact h) hfin hmn hdecl hd hnr hfit hl d (fun H1 locs1 hP1 hD1 hS1 => ?_)
  rw [hset] at hP1 hD1
  exact K (vC_w C (fun _ => hD1)) H1 locs1 la hP1 hS1 hl2
theorem V_putG (C : vC p s m args meth c D cl tys X A (uW ws) cc own Ts nL rt) {ref Cn : String} {T : u_T} {N ci index a : Nat} (hin : ∀ w ∈ u_ws Cn T N, w ∈ Ts) (ty0 : Nat → FieldType) (hty : ∀ k, k < N → parseFieldDescriptor (T k).2.2.1 = some (ty0 k)) (hnm : ∀ a, a < N → ∀ b, b < N → a ≠ b → (T a).2.1 ≠ (T b).2.1) (q0 : Nat) {fs : List Value} (he : ws[q0]? = some (a, .inr (ci, fs))) (hc : cl[ci]? = some (Cn, T, N)) (f : Nat) (hf : f < N) (hl0 : Cond.fieldLink own index ref (T f).2.1 (T f).2.2.1 ∈ Ts) (hsame : ref = (T f).1) (hfin : (T f).2.2.2 = false) {ty : FieldType} {v : Value} (hd : parseFieldDescriptor (T f).2.2.1 = some ty) (hnr : narrow ty v = v) (hfit : fits ty v = true) (hl : f < fs.length) {ws' : va_W} (hset : ws.set q0 (a, .inr (ci, fs.set f v)) = ws') (d : decode cc pc = .ok (.putfield index, 3))
    (K : vC p s m args meth c D cl tys X A (uW ws') cc own Ts nL rt → V p l e R s m args below meth c D cl A (uW ws') nL k n Q () (pc + 3) ls st) : V p l e R s m args below meth c D cl A (uW ws) nL k n Q () pc ls (v :: .ref a :: st) := by
  intro H locs la hP hS hl2
  refine va_put C.1 C.2.1 C.2.2.1 hin ty0 hty hnm C.2.2.2.1 C.2.2.2.2.1 hP (C.2.2.2.2.2.1 ()) hS q0 he hc f hf (C.2.2.1 _ hl0) (fun _ h => by rw [hsame]; exact h) hfin hd hnr hfit hl d (fun H1 locs1 hP1 hD1 hS1 => ?_)
  rw [hset] at hP1 hD1
  exact K (vC_w C (fun _ => hD1)) H1 locs1 la hP1 hS1 hl2
/-- the world by another name -/
theorem V_conv {S : Type} {w : S → va_W} {u : S} (h : ws = w u) (K : V p l e R s m args below meth c D cl A w nL k n Q u pc ls st) : V p l e R s m args below meth c D cl A (uW ws) nL k n Q () pc ls st :=
  fun H locs la hP hS hl => K H locs la (by rw [← h]; exact hP) hS hl
theorem V_pick {ws' : va_W} (is : List Nat) (h : is.filterMap (fun i => ws[i]?) = ws') (hn : va_nd is = true) (h2 : is.map (fun i => ws[i]?) = ws'.map some) (C : vC p s m args meth c D cl tys X A (uW ws) cc own Ts nL rt) (K : vC p s m args meth c D cl tys X A (uW ws') cc own Ts nL rt → V p l e R s m args below meth c D cl A (uW ws') nL k n Q () pc ls st) : V p l e R s m args below meth c D cl A (uW ws) nL k n Q () pc ls st :=
  fun H locs la hP hS hl => K (vC_w C (fun _ => (C.2.2.2.2.2.1 ()).sub is hn h2)) H locs la (hP.sub is h) hS hl
theorem V_nret {S : Type} {w : S → va_W} {u : S} (C : vC p s m args meth c D cl tys X A w cc own Ts nL rt) {h0 : Nat} {Post : (Nat → Nat) → va_W} (ad : Nat → Nat) (had : ad 0 = h0) (hp : w u = Post ad) (hrt : rt = none) (d : decode cc pc = .ok (.return_, 1)) : V p l e R s m args below meth c D cl A w nL k n (MQ below (mNq D cl A h0 Post) args s k n A) u pc ls [] :=
  fun H locs la hP hS hl => W.vret C.1 C.2.1 (C.2.2.2.2.2.2.2.2.2.1.trans hrt) (fun t ht _ => ⟨⟨(), rfl, trivial, ad, had, by rw [ht, ← hp]; exact hP, by rw [← hp]; exact C.2.2.2.2.2.1 u⟩, hS.F ht⟩) hS.2.2 d C.2.2.2.2.2.2.2.2.1
/-- a constructor of a nest mate, called on its new object: the last cell of the world -/
theorem V_ctorN (C : vC p s m args meth c D cl tys X A (uW ws) cc own Ts nL rt) (hX : xOK X) {tys' : List (ClassId × FieldType)} (htys : ∃ is : List Nat, is.filterMap (fun i => tys[i]?) = tys') {y : MethodName} {bytes : ByteArray} {maxL index mc ms q ci i0 : Nat} {ws2 : List Cond} {rm : Room} {host : String} {fs : List Value} {Post : (Nat → Nat) → va_W}
    (h : mN D cl tys' X l y ws2 rm q ci fs mc ms Post) (cw : va_CN R s args own index y host bytes maxL none ws2 rm mc ms 0 ∧ y.name = "<init>" ∧ (Cond.instanceMethod y).before args s = true) (isR : List Nat) (wr : va_W) (hC : ws[i0]? = some (q, .inr (ci, fs))) (hR : isR.map (fun i => ws[i]?) = wr.map some) (hnd : va_nd isR = true) (hdis : i0 ∉ isR) (hst : (st.map fun v => v.category).sum ≤ 8) (hf : k + mc ≤ R.cells ∧ n + ms ≤ R.slots) (d : decode cc pc = .ok (.invokespecial index, 3))
    (K : ∀ ad : Nat → Nat, ad 0 = q → vC p s m args meth c D cl tys X A (uW (wr ++ Post ad)) cc own Ts nL rt → V p l e R s m args below meth c D cl A (uW (wr ++ Post ad)) nL (k + mc) (n + ms) Q () (pc + 3) ls st) : V p l e R s m args below meth c D cl A (uW ws) nL k n Q () pc ls (.ref q :: st) := by
  intro H locs la hP hS hl
  obtain ⟨is, his⟩ := htys
  have hDc := (C.2.2.2.2.2.1 ()).sub (ws' := [(q, .inr (ci, fs))]) [i0] rfl (by simp [hC])
  have hPc := hP.sub (ws' := [(q, .inr (ci, fs))]) [i0] (by simp [hC])
  have hFc := va_free (wc := [(q, .inr (ci, fs))]) (C.2.2.2.2.2.1 ()) hS C.2.2.2.2.2.2.1 [i0] (by simp [hC])
  refine va_callv (va_runIN (b := q) (As := []) (rest := st) (vfx C) (h H.size) cw ⟨mPc_blind hX, fun U hU hW => ?_⟩ rfl rfl hl.1 rfl (lv_room hst) d hf) hS (fun x _ hx => hFc x hx) hFc (fun _ t H1 locs1 ht hvm hw hB hz1 hk1 hS1 => ?_)
  · exact ⟨rfl, by rw [hU], by rw [hU]; exact hPc, va_K.moved hW.alike (C.2.2.2.2.1.sub is his), hDc.weaken (fun _ _ _ _ => trivial), hX s U hW C.2.2.2.2.2.2.2.2.2.2⟩
  · obtain ⟨ad, had, hP1, hD1⟩ := hB
    rw [ht] at hP1
    obtain ⟨hP2, hD2⟩ := va_join (wr := wr) (w1 := Post ad) hP (C.2.2.2.2.2.1 ()) [i0] isR (by simp [hC]) hR hnd (fun i hi => by simp; intro hi2; subst hi2; exact hdis hi) hk1 hFc hP1 hD1
    exact K ad had (vC_w C (fun _ => hD2)) H1 locs1 la hP2 hS1 hl
end VN
