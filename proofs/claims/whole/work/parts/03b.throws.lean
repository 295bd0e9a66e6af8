/-! THE LAYER, GOING ON: methods that throw, calls over a part of the caller's world -/
def zq (A : Nat → Prop) (U : State) (H : Heap) : Prop := vx_Zq Bundle.tN "UNASSIGNED_STACK" Bundle.steD A U H ∧ vx_Zq Bundle.tN "SUPPRESSED_SENTINEL" Bundle.listD A U H
theorem zq.moved {A : Nat → Prop} {u U : State} {H : Heap} (hvm : u.vm.Alike U.vm) (h : zq A u H) : zq A U H := ⟨vx_Zq.moved hvm h.1, vx_Zq.moved hvm h.2⟩
theorem zq.kept {A : Nat → Prop} {U : State} {H H1 : Heap} (h : zq A U H) (hq : ∀ a : Nat, a < H.size → ¬ A a → H1[a]? = H[a]?) : zq A U H1 := ⟨h.1.kept hq, h.2.kept hq⟩
theorem zq.narrow {A B : Nat → Prop} {U : State} {H : Heap} (h : zq A U H) (hAB : ∀ q, B q → A q) : zq B U H := ⟨h.1.narrow hAB, h.2.narrow hAB⟩
def mPz {S : Type} (D : va_G) (cl : List vw_C) (tys : List (ClassId × FieldType)) (Y : State → Prop) (w : S → va_W) (As : List Value) (u : S) (sz : Nat) : Array Value → State → Prop :=
  va_Pc As (fun U => U.heap.size = sz ∧ va_P D cl (w u) U.heap ∧ va_K D cl tys U ∧ va_D (fun _ => True) (w u) ∧ Y U ∧ zq (va_A (w u) sz) U U.heap)
theorem mPz_blind {S : Type} {D : va_G} {cl : List vw_C} {tys : List (ClassId × FieldType)} {Y : State → Prop} {w : S → va_W} (hY : xOK Y) {As' : List Value} {u0 : S} {sz : Nat} : FrameBlind (mPz D cl tys Y w As' u0 sz) := by
  intro a U g mk q
  obtain ⟨q1, q2, q3, q4, q5, q6, q7⟩ := q
  exact ⟨q1, q2, q3, va_K.moved (u := U) (U := U.calling g mk a) (Vm.Alike.refl U.vm) q4, q5, hY U (U.calling g mk a) (State.WarmedH.refl U) q6, zq.moved (u := U) (U := U.calling g mk a) (Vm.Alike.refl U.vm) q7⟩
/-- which exception stands for which number -/
def xcode (exns : List (String × Int32)) (x : Int32) (E : String) : Prop := ∃ j : Int32, (E, j) ∈ exns ∧ x = j
/-- the end of a method that may throw: number 0 and the answer r, or the exception of number x; the memory u' behind either -/
def mTi {S : Type} (D : va_G) (cl : List vw_C) (w : S → va_W) (A : Nat → Prop) (x r : Int32) (u' : S) : Array Value → State → Outcome → State → Prop := va_Qi (fun (r' : Int32) (_ : Unit) => x = 0 ∧ r' = r) (fun _ t => va_P D cl (w u') t.heap) A
def mTx {S : Type} (D : va_G) (cl : List vw_C) (w : S → va_W) (A : Nat → Prop) (exns : List (String × Int32)) (x : Int32) (u' : S) : String → State → State → Prop := vx_X (fun _ : Unit => True) (fun E _ t => xcode exns x E ∧ va_P D cl (w u') t.heap) A
def mT {S : Type} (D : va_G) (cl : List vw_C) (tys : List (ClassId × FieldType)) (Y : State → Prop) (w : S → va_W) (l : Launch) (y : MethodName) (ws : List Cond) (rm : Room) (exns : List (String × Int32)) (As : List Value) (u : S) (x r : Int32) (u' : S) : Prop :=
  ∀ sz : Nat, vx_Met l y ws rm (mPz D cl tys Y w As u sz) (mTi D cl w (va_A (w u) sz) x r u') (mTx D cl w (va_A (w u) sz) exns x u') 1 6 (va_A (w u) sz)
theorem mT_of {own : String} {S : Type} {D : va_G} {cl : List vw_C} {tys : List (ClassId × FieldType)} {X Y : State → Prop} {w : S → va_W} {l : Launch} {y : MethodName} {ws ws' : List Cond} {rm : Room} {exns : List (String × Int32)} {As : List Value} {u : S} {x r : Int32} {u' : S} {cc : ByteArray} {maxL : Nat} {ret : Option FieldType}
    (ho : y.cls = own) (hy : plainName y.cls = true) (hws : ws = Cond.code y cc maxL ret :: ws') (hw : wOK w) (hYX : ∀ U, Y U → X U) (hlen : (lg_sl As).length ≤ maxL)
    (body : ∀ (p : Program) (e : Env) (s : State) (m : MethodId) (args : Array Value) (below : List Frame) (meth : Method) (c : Code) (A : Nat → Prop), vC p s m args meth c D cl tys X A w cc own ws maxL ret → Y s → zq A s s.heap → (∀ z ∈ c.exceptionTable.toList, False) → V p l e rm s m args below meth c D cl A w maxL 0 0 (vx_MQ below (mTi D cl w A x r u') (mTx D cl w A exns x u') args s 1 6 A) u 0 (lv_args 0 As) []) : mT D cl tys Y w l y ws rm exns As u x r u' := by
  intro sz
  refine vx_ofW (cc := cc) (maxL := maxL) (ret := ret) hy hws ?_
  intro p e s m args below meth c s₁ B hml hex hv
  obtain ⟨rfl, hsz, hP, hK, hD, hY, hZ⟩ := hv
  subst hsz
  have C : vC p s m As.toArray meth c D cl tys X (va_A (w u) s.heap.size) w cc own ws maxL ret := ⟨B.exec, B.bytes, atoms_spec (ws := ws) B.pre, by rw [← ho]; exact findClass_of_methodNamed B.named, hK, fun u2 => va_D.addr (hD.self (sz := s.heap.size)) (hw u u2), fun q h => Or.inr h, hml, B.notSynchronized, B.returns, hYX s hY⟩
  have hl := lv_entry As (n := maxL) hlen
  rw [lg_entry_eq]
  exact body p e s m _ below meth c _ C hY hZ hex s.heap [] _ hP va_S.rf hl
/-- of a throw's words those that calls don't carry by themselves -/
def eB (z : String) : List Cond := [.castable z z, .declares ⟨"java/lang/RuntimeException", "<init>", "(Ljava/lang/String;)V"⟩, .declares ⟨"java/lang/Exception", "<init>", "(Ljava/lang/String;)V"⟩, .declares ⟨Bundle.tN, "<init>", "(Ljava/lang/String;)V"⟩]
def eW (z : String) (U : State) : Prop := ∀ w ∈ eB z, va_Nw w U
theorem eW_ok (z : String) : xOK (eW z) := by
  intro s U hW h w hw
  have h' := h w hw
  simp only [eB, List.mem_cons, List.not_mem_nil, or_false] at hw
  rcases hw with rfl | rfl | rfl | rfl
  · exact va_Nw.warmC hW h'
  · exact va_Nw.warmD hW h'
  · exact va_Nw.warmD hW h'
  · exact va_Nw.warmD hW h'
theorem eW_use {z : String} {args : Array Value} {s : State} (h : eW z s) : ∀ w ∈ eB z, w.before args s = true := by
  intro w hw
  have h' := h w hw
  simp only [eB, List.mem_cons, List.not_mem_nil, or_false] at hw
  rcases hw with rfl | rfl | rfl | rfl <;> exact va_Nw.use rfl h'
section VT
variable {p : Program} {l : Launch} {e : Env} {R : Room} {s : State} {m : MethodId} {args : Array Value} {below : List Frame} {meth : Method} {c : Code} {S : Type} {D : va_G} {cl : List vw_C} {tys : List (ClassId × FieldType)} {X : State → Prop} {A : Nat → Prop} {w : S → va_W} {cc : ByteArray} {own : String} {Ts : List Cond} {nL k n : Nat} {rt : Option FieldType} {Q : State → Prop} {u : S} {pc : Nat} {ls : List (Nat × Value)} {st : List Value} {exns : List (String × Int32)}
theorem V_xiret (C : vC p s m args meth c D cl tys X A w cc own Ts nL rt) {v x r : Int32} {ty : FieldType} {u' : S} (hrt : rt = some ty) (hn : narrow ty (.int v) = .int v) (e0 : x = 0) (e1 : r = v) (e2 : u' = u) (d : decode cc pc = .ok (.ireturn, 1)) : V p l e R s m args below meth c D cl A w nL 0 0 (vx_MQ below (mTi D cl w A x r u') (mTx D cl w A exns x u') args s 1 6 A) u pc ls [.int v] :=
  fun H locs la hP hS hl => vx_ret (W.widen (Nat.zero_le 1) (Nat.zero_le 6) (W.zret C.1 C.2.1 (C.2.2.2.2.2.2.2.2.2.1.trans hrt) hn (fun t ht _ => ⟨⟨v, (), rfl, ⟨e0, e1.symm⟩, by show va_P D cl (w u') t.heap; rw [ht, e2]; exact hP⟩, hS.F ht⟩) hS.2.2 d C.2.2.2.2.2.2.2.2.1))
theorem V_throw (C : vC p s m args meth c D cl tys X A w cc own Ts nL rt) (hl0 : l.stackTraces = false) (hZ : zq A s s.heap) (hex : ∀ z ∈ c.exceptionTable.toList, False) {cls text : String} {names : List String} {ik is ic : Nat} {x j r : Int32} {u' : S}
    (hcls : Bundle.fit cls = true) (hnames : ∀ n ∈ names, Bundle.fit n = true) (hk : Cond.classLink own ik cls ∈ Ts) (hini : Cond.initialized cls ∈ Ts) (hstr : ∃ sa, vk_R own is text sa s)
    (hat1 : ∀ w ∈ (vx_atS own ic cls names).filter goodWord, w ∈ Ts) (hat2 : ∀ w ∈ (vx_atS own ic cls names).filter (fun w => !goodWord w), w ∈ eB cls) (hat3 : eW cls s)
    (hgood : ∀ w ∈ Cond.classLink own ik cls :: Cond.initialized cls :: vx_atS own ic cls names, vx_ot w = true)
    (d0 : decode cc pc = .ok (.new ik, 3)) (d3 : decode cc (pc + 3) = .ok (.dup, 1)) (d4 : decode cc (pc + 4) = .ok (.ldc is, 2)) (d6 : decode cc (pc + 6) = .ok (.invokespecial ic, 3)) (d9 : decode cc (pc + 9) = .ok (.athrow, 1))
    (hRf : names.length + 3 < R.frames) (hRl : (st.map fun v => v.category).sum + (13 * (names.length + 1) + 43) ≤ R.locals) (hRc : 0 + 1 ≤ R.cells) (hRs : 0 + 6 ≤ R.slots) (e0 : x = j) (hin : (cls, j) ∈ exns) (e2 : u' = u) :
    V p l e R s m args below meth c D cl A w nL 0 0 (vx_MQ below (mTi D cl w A x r u') (mTx D cl w A exns x u') args s 1 6 A) u pc ls st := by
  intro H locs la hP hS hl
  obtain ⟨sa, hsa⟩ := hstr
  refine vx_throwS C.1 C.2.1 hl0 C.2.2.2.1 hcls hnames (C.2.2.1 _ hk) (C.2.2.1 _ hini) hsa (vx_hat (fun w hw => C.2.2.1 w (hat1 w hw)) hat2 (eW_use hat3)) hgood hZ.1 hZ.2 hS (hl.1.trans C.2.2.2.2.2.2.2.1.symm) d0 d3 d4 d6 d9 (fun z hz => (hex z hz).elim) hRf hRl hRc hRs C.2.2.2.2.2.2.2.2.1 (fun t hvm hz hq => ?_) hS.2.2 (Nat.le_refl _) (Nat.le_refl _)
  refine ⟨(), trivial, ⟨⟨j, hin, e0⟩, ?_⟩, Nat.le_trans hS.1 hz, fun q h1 h2 => ?_⟩
  · rw [e2]
    exact hP.kept (fun i z hi => hq z.1 (hP i z hi).lt)
  · rw [hq q (Nat.lt_of_lt_of_le h1 hS.1)]
    exact hS.2.1 q h1 h2
end VT
