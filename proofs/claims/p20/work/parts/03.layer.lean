/-! A LAYER OVER THE KIT'S ROWS: a method's walk over the memory of one family of objects.
vM: rows of ints by number. vC: what holds all through a walk. V: the walk's judgement, with the heap, the written places and the slots hidden. -/
abbrev vM : Type := Nat → Nat → Int32
def mR (u : vM) (q : Nat) (f : Nat → Int32) : vM := fun j => cond (Nat.beq j q) f (u j)
/-- place i of row q -/
def mrd (u : vM) (q : Nat) (i : Int32) : Int32 := u q i.toNatClampNeg
def mup (u : vM) (q : Nat) (i x : Int32) : vM := mR u q (upd (u q) i.toNatClampNeg x)
/-- an int field is a row of one number -/
def mfd (u : vM) (q : Nat) : Int32 := u q 0
def mst (u : vM) (q : Nat) (x : Int32) : vM := mR u q (fun _ => x)
theorem mup_ne {u : vM} {q q' : Nat} {i x : Int32} (h : q' ≠ q) : mup u q i x q' = u q' := by
  unfold mup mR
  rw [show Nat.beq q' q = false by cases hb : Nat.beq q' q with
    | true => exact absurd (Nat.eq_of_beq_eq_true hb) h
    | false => rfl]
  rfl
theorem mst_ne {u : vM} {q q' : Nat} {x : Int32} (h : q' ≠ q) : mst u q x q' = u q' := by
  unfold mst mR
  rw [show Nat.beq q' q = false by cases hb : Nat.beq q' q with
    | true => exact absurd (Nat.eq_of_beq_eq_true hb) h
    | false => rfl]
  rfl
def vC (p : Program) (s : State) (m : MethodId) (args : Array Value) (meth : Method) (c : Code) {S : Type} (D : va_G) (cl : List vw_C) (tys : List (ClassId × FieldType)) (X : State → Prop) (A : Nat → Prop) (w : S → va_W) (cc : ByteArray) (own : String) (Ts : List Cond) (nL : Nat) (rt : Option FieldType) : Prop :=
  p.tables.exec = Jvm.exec ∧ c.code = cc ∧ (∀ w ∈ Ts, w.before args s = true) ∧ s.vm.findClass own = some m.cls ∧ va_K D cl tys s ∧ (∀ u : S, va_D A (w u)) ∧ (∀ q, s.heap.size ≤ q → A q) ∧ c.maxLocals = nL ∧ meth.locks = false ∧ meth.sig.returnType = rt ∧ X s
def V (p : Program) (l : Launch) (e : Env) (R : Room) (s : State) (m : MethodId) (args : Array Value) (below : List Frame) (meth : Method) (c : Code) {S : Type} (D : va_G) (cl : List vw_C) (A : Nat → Prop) (w : S → va_W) (nL k n : Nat) (Q : State → Prop) (u : S) (pc : Nat) (ls : List (Nat × Value)) (st : List Value) : Prop :=
  ∀ (H : Heap) (locs : List Loc) (la : Array Slot), va_P D cl (w u) H → va_S A s.heap H locs → lv_has la nL ls → W p l e R s m args below meth c H locs k n Q (F0 m pc la st)
def lput (i : Nat) (v : Value) : List (Nat × Value) → List (Nat × Value)
  | [] => [(i, v)]
  | q :: r => cond (Nat.beq q.1 i) ((i, v) :: r.filter (fun z => !(Nat.beq z.1 i))) (q :: lput i v r)
theorem lput_mem {i : Nat} {v : Value} : ∀ {ls : List (Nat × Value)} {q : Nat × Value}, q ∈ lput i v ls → q = (i, v) ∨ (q ∈ ls ∧ q.1 ≠ i)
  | [], q, h => Or.inl (List.mem_singleton.mp h)
  | a :: r, q, h => by
    unfold lput at h
    cases hb : Nat.beq a.1 i with
    | true =>
      rw [hb] at h
      rcases List.mem_cons.mp h with h | h
      · exact Or.inl h
      · obtain ⟨h1, h2⟩ := List.mem_filter.mp h
        refine Or.inr ⟨List.mem_cons_of_mem _ h1, fun hq => ?_⟩
        rw [Nat.beq_eq.mpr hq] at h2
        cases h2
    | false =>
      rw [hb] at h
      rcases List.mem_cons.mp h with h | h
      · refine Or.inr ⟨by rw [h]; exact List.mem_cons_self, fun hq => ?_⟩
        rw [h] at hq
        rw [Nat.beq_eq.mpr hq] at hb
        cases hb
      · rcases lput_mem h with h | ⟨h1, h2⟩
        · exact Or.inl h
        · exact Or.inr ⟨List.mem_cons_of_mem _ h1, h2⟩
def lcat (ls : List (Nat × Value)) : Bool := ls.all (fun q => Nat.beq q.2.category 1)
theorem lput_has {la : Array Slot} {nL i : Nat} {v : Value} {ls : List (Nat × Value)} (hc : lcat ls = true) (h : lv_has la nL ((i, v) :: ls.filter (fun q => !(q.1 == i) && !(q.1 + 1 == i && q.2.category == 2)))) : lv_has la nL (lput i v ls) := by
  refine ⟨h.1, h.2.1, fun q hq => h.2.2 q ?_⟩
  rcases lput_mem hq with h1 | ⟨h1, h2⟩
  · rw [h1]; exact List.mem_cons_self
  · refine List.mem_cons_of_mem _ (List.mem_filter.mpr ⟨h1, ?_⟩)
    have h3 : Nat.beq q.2.category 1 = true := List.all_eq_true.mp hc q h1
    have h4 : q.2.category = 1 := Nat.beq_eq.mp h3
    simp [h2, h4]
section VL
variable {p : Program} {l : Launch} {e : Env} {R : Room} {s : State} {m : MethodId} {args : Array Value} {below : List Frame} {meth : Method} {c : Code} {S : Type} {D : va_G} {cl : List vw_C} {tys : List (ClassId × FieldType)} {X : State → Prop} {A : Nat → Prop} {w : S → va_W} {cc : ByteArray} {own : String} {Ts : List Cond} {nL k n : Nat} {rt : Option FieldType} {Q : State → Prop} {u : S} {pc : Nat} {ls : List (Nat × Value)} {st : List Value}
theorem V_top {x : Int32} (K : ∀ y : Int32, x = y → V p l e R s m args below meth c D cl A w nL k n Q u pc ls (.int y :: st)) : V p l e R s m args below meth c D cl A w nL k n Q u pc ls (.int x :: st) := K x rfl
theorem V_u (K : ∀ v : S, u = v → V p l e R s m args below meth c D cl A w nL k n Q v pc ls st) : V p l e R s m args below meth c D cl A w nL k n Q u pc ls st := K u rfl
theorem V_sub {ls' : List (Nat × Value)} (ks : List Nat) (h : lv_pick ls ks = ls') (K : V p l e R s m args below meth c D cl A w nL k n Q u pc ls' st) : V p l e R s m args below meth c D cl A w nL k n Q u pc ls st :=
  fun H locs la hP hS hl => K H locs la hP hS (lv_sub hl ks h)
theorem V_iconst (C : vC p s m args meth c D cl tys X A w cc own Ts nL rt) {i : Int} {v : Int32} (d : decode cc pc = .ok (.iconst i, 1)) (hv : Int32.ofInt i = v) (K : V p l e R s m args below meth c D cl A w nL k n Q u (pc + 1) ls (.int v :: st)) : V p l e R s m args below meth c D cl A w nL k n Q u pc ls st :=
  fun H locs la hP hS hl => lv_iconst C.1 C.2.1 d hv (K H locs la hP hS hl)
theorem V_bipush (C : vC p s m args meth c D cl tys X A w cc own Ts nL rt) {i : Int} {v : Int32} (d : decode cc pc = .ok (.bipush i, 2)) (hv : (Int8.ofInt i).toInt32 = v) (K : V p l e R s m args below meth c D cl A w nL k n Q u (pc + 2) ls (.int v :: st)) : V p l e R s m args below meth c D cl A w nL k n Q u pc ls st :=
  fun H locs la hP hS hl => lv_bipush C.1 C.2.1 d hv (K H locs la hP hS hl)
theorem V_sipush (C : vC p s m args meth c D cl tys X A w cc own Ts nL rt) {i : Int} {v : Int32} (d : decode cc pc = .ok (.sipush i, 3)) (hv : (Int16.ofInt i).toInt32 = v) (K : V p l e R s m args below meth c D cl A w nL k n Q u (pc + 3) ls (.int v :: st)) : V p l e R s m args below meth c D cl A w nL k n Q u pc ls st :=
  fun H locs la hP hS hl => lv_sipush C.1 C.2.1 d hv (K H locs la hP hS hl)
theorem V_ldc (C : vC p s m args meth c D cl tys X A w cc own Ts nL rt) {index : Nat} {v : Int32} (h : Jvm.Cond.constant own index v ∈ Ts) (d : decode cc pc = .ok (.ldc index, 2)) (K : V p l e R s m args below meth c D cl A w nL k n Q u (pc + 2) ls (.int v :: st)) : V p l e R s m args below meth c D cl A w nL k n Q u pc ls st :=
  fun H locs la hP hS hl => lv_ldc C.1 C.2.1 C.2.2.2.1 (C.2.2.1 _ h) d (K H locs la hP hS hl)
theorem V_iload_n (C : vC p s m args meth c D cl tys X A w cc own Ts nL rt) {j : Fin 4} {i : Nat} {x : Int32} (d : decode cc pc = .ok (.iload_n j, 1)) (hi : (j : Nat) = i) (q : Nat) (h : ls[q]? = some (i, .int x)) (K : V p l e R s m args below meth c D cl A w nL k n Q u (pc + 1) ls (.int x :: st)) : V p l e R s m args below meth c D cl A w nL k n Q u pc ls st :=
  fun H locs la hP hS hl => lv_iload_n C.1 C.2.1 d hi (lv_at hl q h) (K H locs la hP hS hl)
theorem V_iload (C : vC p s m args meth c D cl tys X A w cc own Ts nL rt) {i : Nat} {x : Int32} (d : decode cc pc = .ok (.iload i, 2)) (q : Nat) (h : ls[q]? = some (i, .int x)) (K : V p l e R s m args below meth c D cl A w nL k n Q u (pc + 2) ls (.int x :: st)) : V p l e R s m args below meth c D cl A w nL k n Q u pc ls st :=
  fun H locs la hP hS hl => lv_iload C.1 C.2.1 d (lv_at hl q h) (K H locs la hP hS hl)
theorem V_aload_n (C : vC p s m args meth c D cl tys X A w cc own Ts nL rt) {j : Fin 4} {i : Nat} {x : Nat} (d : decode cc pc = .ok (.aload_n j, 1)) (hi : (j : Nat) = i) (q : Nat) (h : ls[q]? = some (i, .ref x)) (K : V p l e R s m args below meth c D cl A w nL k n Q u (pc + 1) ls (.ref x :: st)) : V p l e R s m args below meth c D cl A w nL k n Q u pc ls st :=
  fun H locs la hP hS hl => lv_aload_n C.1 C.2.1 d hi (lv_at hl q h) (K H locs la hP hS hl)
theorem V_aload (C : vC p s m args meth c D cl tys X A w cc own Ts nL rt) {i : Nat} {x : Nat} (d : decode cc pc = .ok (.aload i, 2)) (q : Nat) (h : ls[q]? = some (i, .ref x)) (K : V p l e R s m args below meth c D cl A w nL k n Q u (pc + 2) ls (.ref x :: st)) : V p l e R s m args below meth c D cl A w nL k n Q u pc ls st :=
  fun H locs la hP hS hl => lv_aload C.1 C.2.1 d (lv_at hl q h) (K H locs la hP hS hl)
theorem V_istore_n (C : vC p s m args meth c D cl tys X A w cc own Ts nL rt) {j : Fin 4} {i : Nat} {x : Int32} {ls' : List (Nat × Value)} (d : decode cc pc = .ok (.istore_n j, 1)) (hi : (j : Nat) = i) (hn : i < nL) (hc : lcat ls = true) (h : lput i (.int x) ls = ls') (K : V p l e R s m args below meth c D cl A w nL k n Q u (pc + 1) ls' st) : V p l e R s m args below meth c D cl A w nL k n Q u pc ls (.int x :: st) :=
  fun H locs la hP hS hl => lv_istore_n C.1 C.2.1 d hi hl hn rfl (fun lb hb => K H locs lb hP hS (by rw [← h]; exact lput_has hc hb))
theorem V_istore (C : vC p s m args meth c D cl tys X A w cc own Ts nL rt) {i : Nat} {x : Int32} {ls' : List (Nat × Value)} (d : decode cc pc = .ok (.istore i, 2)) (hn : i < nL) (hc : lcat ls = true) (h : lput i (.int x) ls = ls') (K : V p l e R s m args below meth c D cl A w nL k n Q u (pc + 2) ls' st) : V p l e R s m args below meth c D cl A w nL k n Q u pc ls (.int x :: st) :=
  fun H locs la hP hS hl => lv_istore C.1 C.2.1 d hl hn rfl (fun lb hb => K H locs lb hP hS (by rw [← h]; exact lput_has hc hb))
theorem V_iinc (C : vC p s m args meth c D cl tys X A w cc own Ts nL rt) {i : Nat} {z : Int} {x v : Int32} {ls' : List (Nat × Value)} (d : decode cc pc = .ok (.iinc i z, 3)) (q : Nat) (hq : ls[q]? = some (i, .int x)) (hv : x + Int32.ofInt z = v) (hn : i < nL) (hc : lcat ls = true) (h : lput i (.int v) ls = ls') (K : V p l e R s m args below meth c D cl A w nL k n Q u (pc + 3) ls' st) : V p l e R s m args below meth c D cl A w nL k n Q u pc ls st :=
  fun H locs la hP hS hl => lv_iinc C.1 C.2.1 d hl hq hv hn rfl (fun lb hb => K H locs lb hP hS (by rw [← h]; exact lput_has hc hb))
theorem V_iadd (C : vC p s m args meth c D cl tys X A w cc own Ts nL rt) {x y : Int32} (d : decode cc pc = .ok (.iadd, 1)) (K : V p l e R s m args below meth c D cl A w nL k n Q u (pc + 1) ls (.int (x + y) :: st)) : V p l e R s m args below meth c D cl A w nL k n Q u pc ls (.int y :: .int x :: st) :=
  fun H locs la hP hS hl => lv_iadd C.1 C.2.1 d (K H locs la hP hS hl)
theorem V_isub (C : vC p s m args meth c D cl tys X A w cc own Ts nL rt) {x y : Int32} (d : decode cc pc = .ok (.isub, 1)) (K : V p l e R s m args below meth c D cl A w nL k n Q u (pc + 1) ls (.int (x - y) :: st)) : V p l e R s m args below meth c D cl A w nL k n Q u pc ls (.int y :: .int x :: st) :=
  fun H locs la hP hS hl => lv_isub C.1 C.2.1 d (K H locs la hP hS hl)
theorem V_imul (C : vC p s m args meth c D cl tys X A w cc own Ts nL rt) {x y : Int32} (d : decode cc pc = .ok (.imul, 1)) (K : V p l e R s m args below meth c D cl A w nL k n Q u (pc + 1) ls (.int (x * y) :: st)) : V p l e R s m args below meth c D cl A w nL k n Q u pc ls (.int y :: .int x :: st) :=
  fun H locs la hP hS hl => lv_imul C.1 C.2.1 d (K H locs la hP hS hl)
theorem V_iand (C : vC p s m args meth c D cl tys X A w cc own Ts nL rt) {x y : Int32} (d : decode cc pc = .ok (.iand, 1)) (K : V p l e R s m args below meth c D cl A w nL k n Q u (pc + 1) ls (.int (x &&& y) :: st)) : V p l e R s m args below meth c D cl A w nL k n Q u pc ls (.int y :: .int x :: st) :=
  fun H locs la hP hS hl => lv_iand C.1 C.2.1 d (K H locs la hP hS hl)
theorem V_idiv (C : vC p s m args meth c D cl tys X A w cc own Ts nL rt) {x y : Int32} (d : decode cc pc = .ok (.idiv, 1)) (hne : ¬ y = 0) (K : V p l e R s m args below meth c D cl A w nL k n Q u (pc + 1) ls (.int (x / y) :: st)) : V p l e R s m args below meth c D cl A w nL k n Q u pc ls (.int y :: .int x :: st) :=
  fun H locs la hP hS hl => lv_idiv C.1 C.2.1 d hne (K H locs la hP hS hl)
theorem V_irem (C : vC p s m args meth c D cl tys X A w cc own Ts nL rt) {x y : Int32} (d : decode cc pc = .ok (.irem, 1)) (hne : ¬ y = 0) (K : V p l e R s m args below meth c D cl A w nL k n Q u (pc + 1) ls (.int (x - x / y * y) :: st)) : V p l e R s m args below meth c D cl A w nL k n Q u pc ls (.int y :: .int x :: st) :=
  fun H locs la hP hS hl => lv_irem C.1 C.2.1 d hne (K H locs la hP hS hl)
theorem V_ineg (C : vC p s m args meth c D cl tys X A w cc own Ts nL rt) {x : Int32} (d : decode cc pc = .ok (.ineg, 1)) (K : V p l e R s m args below meth c D cl A w nL k n Q u (pc + 1) ls (.int (-x) :: st)) : V p l e R s m args below meth c D cl A w nL k n Q u pc ls (.int x :: st) :=
  fun H locs la hP hS hl => lv_ineg C.1 C.2.1 d (K H locs la hP hS hl)
theorem V_dup (C : vC p s m args meth c D cl tys X A w cc own Ts nL rt) {v : Value} (d : decode cc pc = .ok (.dup, 1)) (hv : v.category = 1) (K : V p l e R s m args below meth c D cl A w nL k n Q u (pc + 1) ls (v :: v :: st)) : V p l e R s m args below meth c D cl A w nL k n Q u pc ls (v :: st) :=
  fun H locs la hP hS hl => lv_dup C.1 C.2.1 d hv (K H locs la hP hS hl)
theorem V_dup2 (C : vC p s m args meth c D cl tys X A w cc own Ts nL rt) {v z : Value} (d : decode cc pc = .ok (.dup2, 1)) (hv : v.category = 1) (hz : z.category = 1) (K : V p l e R s m args below meth c D cl A w nL k n Q u (pc + 1) ls (v :: z :: v :: z :: st)) : V p l e R s m args below meth c D cl A w nL k n Q u pc ls (v :: z :: st) :=
  fun H locs la hP hS hl => lv_dup2_11 C.1 C.2.1 d hv hz (K H locs la hP hS hl)
theorem V_pop (C : vC p s m args meth c D cl tys X A w cc own Ts nL rt) {v : Value} (d : decode cc pc = .ok (.pop, 1)) (hv : v.category = 1) (K : V p l e R s m args below meth c D cl A w nL k n Q u (pc + 1) ls st) : V p l e R s m args below meth c D cl A w nL k n Q u pc ls (v :: st) :=
  fun H locs la hP hS hl => lv_pop C.1 C.2.1 d hv (K H locs la hP hS hl)
theorem V_goto (C : vC p s m args meth c D cl tys X A w cc own Ts nL rt) {off : Int} {tgt : Nat} (d : decode cc pc = .ok (.goto off, 3)) (ht : (pc : Int) + off = (tgt : Int)) (K : V p l e R s m args below meth c D cl A w nL k n Q u tgt ls st) : V p l e R s m args below meth c D cl A w nL k n Q u pc ls st :=
  fun H locs la hP hS hl => lv_goto C.1 C.2.1 d ht (K H locs la hP hS hl)
theorem V_if_eq (C : vC p s m args meth c D cl tys X A w cc own Ts nL rt) {x : Int32} {off : Int} {tgt : Nat} (d : decode cc pc = .ok (.ifCond .eq off, 3)) (ht : (pc : Int) + off = (tgt : Int)) (Kt : x = 0 → V p l e R s m args below meth c D cl A w nL k n Q u tgt ls st) (Kf : ¬ x = 0 → V p l e R s m args below meth c D cl A w nL k n Q u (pc + 3) ls st) : V p l e R s m args below meth c D cl A w nL k n Q u pc ls (.int x :: st) :=
  fun H locs la hP hS hl => lv_if_eq C.1 C.2.1 d ht (fun h => Kt h H locs la hP hS hl) (fun h => Kf h H locs la hP hS hl)
theorem V_if_ne (C : vC p s m args meth c D cl tys X A w cc own Ts nL rt) {x : Int32} {off : Int} {tgt : Nat} (d : decode cc pc = .ok (.ifCond .ne off, 3)) (ht : (pc : Int) + off = (tgt : Int)) (Kt : ¬ x = 0 → V p l e R s m args below meth c D cl A w nL k n Q u tgt ls st) (Kf : x = 0 → V p l e R s m args below meth c D cl A w nL k n Q u (pc + 3) ls st) : V p l e R s m args below meth c D cl A w nL k n Q u pc ls (.int x :: st) :=
  fun H locs la hP hS hl => lv_if_ne C.1 C.2.1 d ht (fun h => Kt h H locs la hP hS hl) (fun h => Kf h H locs la hP hS hl)
theorem V_if_lt (C : vC p s m args meth c D cl tys X A w cc own Ts nL rt) {x : Int32} {off : Int} {tgt : Nat} (d : decode cc pc = .ok (.ifCond .lt off, 3)) (ht : (pc : Int) + off = (tgt : Int)) (Kt : x < 0 → V p l e R s m args below meth c D cl A w nL k n Q u tgt ls st) (Kf : ¬ x < 0 → V p l e R s m args below meth c D cl A w nL k n Q u (pc + 3) ls st) : V p l e R s m args below meth c D cl A w nL k n Q u pc ls (.int x :: st) :=
  fun H locs la hP hS hl => lv_if_lt C.1 C.2.1 d ht (fun h => Kt h H locs la hP hS hl) (fun h => Kf h H locs la hP hS hl)
theorem V_if_ge (C : vC p s m args meth c D cl tys X A w cc own Ts nL rt) {x : Int32} {off : Int} {tgt : Nat} (d : decode cc pc = .ok (.ifCond .ge off, 3)) (ht : (pc : Int) + off = (tgt : Int)) (Kt : 0 ≤ x → V p l e R s m args below meth c D cl A w nL k n Q u tgt ls st) (Kf : ¬ 0 ≤ x → V p l e R s m args below meth c D cl A w nL k n Q u (pc + 3) ls st) : V p l e R s m args below meth c D cl A w nL k n Q u pc ls (.int x :: st) :=
  fun H locs la hP hS hl => lv_if_ge C.1 C.2.1 d ht (fun h => Kt h H locs la hP hS hl) (fun h => Kf h H locs la hP hS hl)
theorem V_if_gt (C : vC p s m args meth c D cl tys X A w cc own Ts nL rt) {x : Int32} {off : Int} {tgt : Nat} (d : decode cc pc = .ok (.ifCond .gt off, 3)) (ht : (pc : Int) + off = (tgt : Int)) (Kt : 0 < x → V p l e R s m args below meth c D cl A w nL k n Q u tgt ls st) (Kf : ¬ 0 < x → V p l e R s m args below meth c D cl A w nL k n Q u (pc + 3) ls st) : V p l e R s m args below meth c D cl A w nL k n Q u pc ls (.int x :: st) :=
  fun H locs la hP hS hl => lv_if_gt C.1 C.2.1 d ht (fun h => Kt h H locs la hP hS hl) (fun h => Kf h H locs la hP hS hl)
theorem V_if_le (C : vC p s m args meth c D cl tys X A w cc own Ts nL rt) {x : Int32} {off : Int} {tgt : Nat} (d : decode cc pc = .ok (.ifCond .le off, 3)) (ht : (pc : Int) + off = (tgt : Int)) (Kt : x ≤ 0 → V p l e R s m args below meth c D cl A w nL k n Q u tgt ls st) (Kf : ¬ x ≤ 0 → V p l e R s m args below meth c D cl A w nL k n Q u (pc + 3) ls st) : V p l e R s m args below meth c D cl A w nL k n Q u pc ls (.int x :: st) :=
  fun H locs la hP hS hl => lv_if_le C.1 C.2.1 d ht (fun h => Kt h H locs la hP hS hl) (fun h => Kf h H locs la hP hS hl)
theorem V_icmp_eq (C : vC p s m args meth c D cl tys X A w cc own Ts nL rt) {x y : Int32} {off : Int} {tgt : Nat} (d : decode cc pc = .ok (.if_icmp .eq off, 3)) (ht : (pc : Int) + off = (tgt : Int)) (Kt : x = y → V p l e R s m args below meth c D cl A w nL k n Q u tgt ls st) (Kf : ¬ x = y → V p l e R s m args below meth c D cl A w nL k n Q u (pc + 3) ls st) : V p l e R s m args below meth c D cl A w nL k n Q u pc ls (.int y :: .int x :: st) :=
  fun H locs la hP hS hl => lv_icmp_eq C.1 C.2.1 d ht (fun h => Kt h H locs la hP hS hl) (fun h => Kf h H locs la hP hS hl)
theorem V_icmp_ne (C : vC p s m args meth c D cl tys X A w cc own Ts nL rt) {x y : Int32} {off : Int} {tgt : Nat} (d : decode cc pc = .ok (.if_icmp .ne off, 3)) (ht : (pc : Int) + off = (tgt : Int)) (Kt : ¬ x = y → V p l e R s m args below meth c D cl A w nL k n Q u tgt ls st) (Kf : x = y → V p l e R s m args below meth c D cl A w nL k n Q u (pc + 3) ls st) : V p l e R s m args below meth c D cl A w nL k n Q u pc ls (.int y :: .int x :: st) :=
  fun H locs la hP hS hl => lv_icmp_ne C.1 C.2.1 d ht (fun h => Kt h H locs la hP hS hl) (fun h => Kf h H locs la hP hS hl)
theorem V_icmp_lt (C : vC p s m args meth c D cl tys X A w cc own Ts nL rt) {x y : Int32} {off : Int} {tgt : Nat} (d : decode cc pc = .ok (.if_icmp .lt off, 3)) (ht : (pc : Int) + off = (tgt : Int)) (Kt : x < y → V p l e R s m args below meth c D cl A w nL k n Q u tgt ls st) (Kf : ¬ x < y → V p l e R s m args below meth c D cl A w nL k n Q u (pc + 3) ls st) : V p l e R s m args below meth c D cl A w nL k n Q u pc ls (.int y :: .int x :: st) :=
  fun H locs la hP hS hl => lv_icmp_lt C.1 C.2.1 d ht (fun h => Kt h H locs la hP hS hl) (fun h => Kf h H locs la hP hS hl)
theorem V_icmp_ge (C : vC p s m args meth c D cl tys X A w cc own Ts nL rt) {x y : Int32} {off : Int} {tgt : Nat} (d : decode cc pc = .ok (.if_icmp .ge off, 3)) (ht : (pc : Int) + off = (tgt : Int)) (Kt : y ≤ x → V p l e R s m args below meth c D cl A w nL k n Q u tgt ls st) (Kf : ¬ y ≤ x → V p l e R s m args below meth c D cl A w nL k n Q u (pc + 3) ls st) : V p l e R s m args below meth c D cl A w nL k n Q u pc ls (.int y :: .int x :: st) :=
  fun H locs la hP hS hl => lv_icmp_ge C.1 C.2.1 d ht (fun h => Kt h H locs la hP hS hl) (fun h => Kf h H locs la hP hS hl)
theorem V_icmp_gt (C : vC p s m args meth c D cl tys X A w cc own Ts nL rt) {x y : Int32} {off : Int} {tgt : Nat} (d : decode cc pc = .ok (.if_icmp .gt off, 3)) (ht : (pc : Int) + off = (tgt : Int)) (Kt : y < x → V p l e R s m args below meth c D cl A w nL k n Q u tgt ls st) (Kf : ¬ y < x → V p l e R s m args below meth c D cl A w nL k n Q u (pc + 3) ls st) : V p l e R s m args below meth c D cl A w nL k n Q u pc ls (.int y :: .int x :: st) :=
  fun H locs la hP hS hl => lv_icmp_gt C.1 C.2.1 d ht (fun h => Kt h H locs la hP hS hl) (fun h => Kf h H locs la hP hS hl)
theorem V_icmp_le (C : vC p s m args meth c D cl tys X A w cc own Ts nL rt) {x y : Int32} {off : Int} {tgt : Nat} (d : decode cc pc = .ok (.if_icmp .le off, 3)) (ht : (pc : Int) + off = (tgt : Int)) (Kt : x ≤ y → V p l e R s m args below meth c D cl A w nL k n Q u tgt ls st) (Kf : ¬ x ≤ y → V p l e R s m args below meth c D cl A w nL k n Q u (pc + 3) ls st) : V p l e R s m args below meth c D cl A w nL k n Q u pc ls (.int y :: .int x :: st) :=
  fun H locs la hP hS hl => lv_icmp_le C.1 C.2.1 d ht (fun h => Kt h H locs la hP hS hl) (fun h => Kf h H locs la hP hS hl)
/-- a switch over 1, 2, 3 -/
theorem V_tsw3 (C : vC p s m args meth c D cl tys X A w cc own Ts nL rt) {x : Int32} {dflt o1 o2 o3 : Int} {len t0 t1 t2 t3 : Nat} (d : decode cc pc = .ok (.tableswitch dflt 1 3 #[o1, o2, o3], len)) (h0 : (pc : Int) + dflt = (t0 : Int)) (h1 : (pc : Int) + o1 = (t1 : Int)) (h2 : (pc : Int) + o2 = (t2 : Int)) (h3 : (pc : Int) + o3 = (t3 : Int))
    (K1 : x = 1 → V p l e R s m args below meth c D cl A w nL k n Q u t1 ls st) (K2 : ¬ x = 1 → x = 2 → V p l e R s m args below meth c D cl A w nL k n Q u t2 ls st) (K3 : ¬ x = 1 → ¬ x = 2 → x = 3 → V p l e R s m args below meth c D cl A w nL k n Q u t3 ls st) (K0 : ¬ x = 1 → ¬ x = 2 → ¬ x = 3 → V p l e R s m args below meth c D cl A w nL k n Q u t0 ls st) :
    V p l e R s m args below meth c D cl A w nL k n Q u pc ls (.int x :: st) := by
  intro H locs la hP hS hl
  by_cases c1 : x = 1
  · subst c1
    exact lv_tableIn C.1 C.2.1 d (by decide) (by decide) (off := o1) rfl h1 (K1 rfl H locs la hP hS hl)
  · by_cases c2 : x = 2
    · subst c2
      exact lv_tableIn C.1 C.2.1 d (by decide) (by decide) (off := o2) rfl h2 (K2 c1 rfl H locs la hP hS hl)
    · by_cases c3 : x = 3
      · subst c3
        exact lv_tableIn C.1 C.2.1 d (by decide) (by decide) (off := o3) rfl h3 (K3 c1 c2 rfl H locs la hP hS hl)
      · refine lv_tableOut C.1 C.2.1 d ?_ h0 (K0 c1 c2 c3 H locs la hP hS hl)
        have e1 : x.toInt ≠ 1 := fun h => c1 (Int32.toInt_inj.mp h)
        have e2 : x.toInt ≠ 2 := fun h => c2 (Int32.toInt_inj.mp h)
        have e3 : x.toInt ≠ 3 := fun h => c3 (Int32.toInt_inj.mp h)
        omega
theorem V_get (C : vC p s m args meth c D cl tys X A w cc own Ts nL rt) {ref Cn : String} {T : u_T} {N ci index a : Nat} (hin : ∀ w ∈ u_ws Cn T N, w ∈ Ts) (q0 : Nat) {fs : List Value} (he : (w u)[q0]? = some (a, .inr (ci, fs))) (hc : cl[ci]? = some (Cn, T, N)) (f : Nat) (hf : f < N) (hl0 : Cond.fieldLink own index ref (T f).2.1 (T f).2.2.1 ∈ Ts) (hsame : ref = (T f).1) {v : Value} (hv : fs[f]? = some v) (d : decode cc pc = .ok (.getfield index, 3))
    (K : V p l e R s m args below meth c D cl A w nL k n Q u (pc + 3) ls (v :: st)) : V p l e R s m args below meth c D cl A w nL k n Q u pc ls (.ref a :: st) :=
  fun H locs la hP hS hl => va_get C.1 C.2.1 C.2.2.1 hin C.2.2.2.1 C.2.2.2.2.1 hP q0 he hc f hf (C.2.2.1 _ hl0) (fun _ h => by rw [hsame]; exact h) hv d (K H locs la hP hS hl)
theorem V_getN (C : vC p s m args meth c D cl tys X A w cc own Ts nL rt) {ref Cn host : String} {T : u_T} {N ci index a : Nat} (hin : ∀ w ∈ u_ws Cn T N, w ∈ Ts) (q0 : Nat) {fs : List Value} (he : (w u)[q0]? = some (a, .inr (ci, fs))) (hc : cl[ci]? = some (Cn, T, N)) (f : Nat) (hf : f < N) (hl0 : va_Nw (.fieldLinkNest own index ref (T f).2.1 (T f).2.2.1 host) s) (hsame : ref = (T f).1) {v : Value} (hv : fs[f]? = some v) (d : decode cc pc = .ok (.getfield index, 3))
    (K : V p l e R s m args below meth c D cl A w nL k n Q u (pc + 3) ls (v :: st)) : V p l e R s m args below meth c D cl A w nL k n Q u pc ls (.ref a :: st) :=
  fun H locs la hP hS hl => va_getN C.1 C.2.1 C.2.2.1 hin C.2.2.2.1 C.2.2.2.2.1 hP q0 he hc f hf (va_Nw.use rfl hl0) (fun _ h => by rw [hsame]; exact h) hv d (K H locs la hP hS hl)
theorem V_put (C : vC p s m args meth c D cl tys X A w cc own Ts nL rt) {ref Cn : String} {T : u_T} {N ci index a : Nat} (hin : ∀ w ∈ u_ws Cn T N, w ∈ Ts) (ty0 : Nat → FieldType) (hty : ∀ k, k < N → parseFieldDescriptor (T k).2.2.1 = some (ty0 k)) (hnm : ∀ a, a < N → ∀ b, b < N → a ≠ b → (T a).2.1 ≠ (T b).2.1) (q0 : Nat) {fs : List Value} (he : (w u)[q0]? = some (a, .inr (ci, fs))) (hc : cl[ci]? = some (Cn, T, N)) (f : Nat) (hf : f < N) (hl0 : Cond.fieldLink own index ref (T f).2.1 (T f).2.2.1 ∈ Ts) (hsame : ref = (T f).1) (hfin : (T f).2.2.2 = false) {x : Int32} (hd : parseFieldDescriptor (T f).2.2.1 = some .int) (hl : f < fs.length) {u' : S} (hset : (w u).set q0 (a, .inr (ci, fs.set f (.int x))) = w u') (d : decode cc pc = .ok (.putfield index, 3))
    (K : V p l e R s m args below meth c D cl A w nL k n Q u' (pc + 3) ls st) : V p l e R s m args below meth c D cl A w nL k n Q u pc ls (.int x :: .ref a :: st) :=
  fun H locs la hP hS hl2 => va_put C.1 C.2.1 C.2.2.1 hin ty0 hty hnm C.2.2.2.1 C.2.2.2.2.1 hP (C.2.2.2.2.2.1 u) hS q0 he hc f hf (C.2.2.1 _ hl0) (fun _ h => by rw [hsame]; exact h) hfin hd (vp_nar_int x) rfl hl d (fun H1 locs1 hP1 _ hS1 => K H1 locs1 la (hset ▸ hP1) hS1 hl2)
theorem V_iald (C : vC p s m args meth c D cl tys X A w cc own Ts nL rt) (q0 t0 : Nat) {a N : Nat} {cA : ClassId} {f : Nat → Int32} (he : (w u)[q0]? = some (a, .inl (cA, N, .inl f))) (ht : tys[t0]? = some (cA, .int)) {i : Int32} (hin : vp_in i N) (d : decode cc pc = .ok (.iaload, 1))
    (K : V p l e R s m args below meth c D cl A w nL k n Q u (pc + 1) ls (.int (f i.toNatClampNeg) :: st)) : V p l e R s m args below meth c D cl A w nL k n Q u pc ls (.int i :: .ref a :: st) :=
  fun H locs la hP hS hl => va_iald C.1 C.2.1 C.2.2.2.2.1 hP q0 t0 he ht hin d (K H locs la hP hS hl)
theorem V_zald (C : vC p s m args meth c D cl tys X A w cc own Ts nL rt) (q0 t0 : Nat) {a N : Nat} {cA : ClassId} {f : Nat → Int32} (he : (w u)[q0]? = some (a, .inl (cA, N, .inl f))) (ht : tys[t0]? = some (cA, .boolean)) {i : Int32} (hin : vp_in i N) (d : decode cc pc = .ok (.baload, 1))
    (K : V p l e R s m args below meth c D cl A w nL k n Q u (pc + 1) ls (.int (f i.toNatClampNeg) :: st)) : V p l e R s m args below meth c D cl A w nL k n Q u pc ls (.int i :: .ref a :: st) :=
  fun H locs la hP hS hl => va_zald C.1 C.2.1 C.2.2.2.2.1 hP q0 t0 he ht hin d (K H locs la hP hS hl)
theorem V_iast (C : vC p s m args meth c D cl tys X A w cc own Ts nL rt) (q0 t0 : Nat) {a N : Nat} {cA : ClassId} {f : Nat → Int32} (he : (w u)[q0]? = some (a, .inl (cA, N, .inl f))) (ht : tys[t0]? = some (cA, .int)) {i x : Int32} (hin : vp_in i N) {u' : S} (hset : (w u).set q0 (a, .inl (cA, N, .inl (upd f i.toNatClampNeg x))) = w u') (d : decode cc pc = .ok (.iastore, 1))
    (K : V p l e R s m args below meth c D cl A w nL k n Q u' (pc + 1) ls st) : V p l e R s m args below meth c D cl A w nL k n Q u pc ls (.int x :: .int i :: .ref a :: st) :=
  fun H locs la hP hS hl => va_iast C.1 C.2.1 C.2.2.2.2.1 hP (C.2.2.2.2.2.1 u) hS q0 t0 he ht hin d (fun H1 locs1 hP1 _ hS1 => K H1 locs1 la (hset ▸ hP1) hS1 hl)
theorem V_zast (C : vC p s m args meth c D cl tys X A w cc own Ts nL rt) (q0 t0 : Nat) {a N : Nat} {cA : ClassId} {f : Nat → Int32} (he : (w u)[q0]? = some (a, .inl (cA, N, .inl f))) (ht : tys[t0]? = some (cA, .boolean)) {i x : Int32} (hin : vp_in i N) (hx : vp_nar .boolean x = x) {u' : S} (hset : (w u).set q0 (a, .inl (cA, N, .inl (upd f i.toNatClampNeg x))) = w u') (d : decode cc pc = .ok (.bastore, 1))
    (K : V p l e R s m args below meth c D cl A w nL k n Q u' (pc + 1) ls st) : V p l e R s m args below meth c D cl A w nL k n Q u pc ls (.int x :: .int i :: .ref a :: st) :=
  fun H locs la hP hS hl => va_zast C.1 C.2.1 C.2.2.2.2.1 hP (C.2.2.2.2.2.1 u) hS q0 t0 he ht hin d (fun H1 locs1 hP1 _ hS1 => by rw [hx] at hP1; exact K H1 locs1 la (hset ▸ hP1) hS1 hl)
theorem V_alen (C : vC p s m args meth c D cl tys X A w cc own Ts nL rt) (q0 t0 : Nat) {a : Nat} {cA : ClassId} {x : vp_A} (he : (w u)[q0]? = some (a, .inl (cA, x))) {ty : FieldType} (ht : tys[t0]? = some (cA, ty)) {v : Int32} (hv : Int32.ofNat x.1 = v) (d : decode cc pc = .ok (.arraylength, 1))
    (K : V p l e R s m args below meth c D cl A w nL k n Q u (pc + 1) ls (.int v :: st)) : V p l e R s m args below meth c D cl A w nL k n Q u pc ls (.ref a :: st) :=
  fun H locs la hP hS hl => va_alen C.1 C.2.1 C.2.2.2.2.1 hP q0 t0 he ht hv d (K H locs la hP hS hl)
theorem V_mmax (C : vC p s m args meth c D cl tys X A w cc own Ts nL rt) {index : Nat} (h1 : Cond.methodLink own index Lib.Math.max.name ∈ Ts) (h2 : Cond.static Lib.Math.max.name ∈ Ts) (h3 : Cond.initialized "java/lang/Math" ∈ Ts) (h4 : Cond.code Lib.Math.max.name Lib.Math.max.code 2 (some .int) ∈ Ts) (hf : 1 ≤ R.frames) (hlo : (st.map fun v => v.category).sum + 13 ≤ R.locals) (hk : k ≤ R.cells) (hn : n ≤ R.slots) {x y : Int32} (d : decode cc pc = .ok (.invokestatic index, 3))
    (K : V p l e R s m args below meth c D cl A w nL k n Q u (pc + 3) ls (.int (if x < y then y else x) :: st)) : V p l e R s m args below meth c D cl A w nL k n Q u pc ls (.int y :: .int x :: st) :=
  fun H locs la hP hS hl => va_mmax C.1 C.2.1 (C.2.2.2.2.2.2.2.1.trans hl.1.symm) C.2.2.2.1 (C.2.2.1 _ h1) (C.2.2.1 _ h2) (C.2.2.1 _ h3) (C.2.2.1 _ h4) hf hlo hk hn d (K H locs la hP hS hl)
theorem V_mmin (C : vC p s m args meth c D cl tys X A w cc own Ts nL rt) {index : Nat} (h1 : Cond.methodLink own index Lib.Math.min.name ∈ Ts) (h2 : Cond.static Lib.Math.min.name ∈ Ts) (h3 : Cond.initialized "java/lang/Math" ∈ Ts) (h4 : Cond.code Lib.Math.min.name Lib.Math.min.code 2 (some .int) ∈ Ts) (hf : 1 ≤ R.frames) (hlo : (st.map fun v => v.category).sum + 13 ≤ R.locals) (hk : k ≤ R.cells) (hn : n ≤ R.slots) {x y : Int32} (d : decode cc pc = .ok (.invokestatic index, 3))
    (K : V p l e R s m args below meth c D cl A w nL k n Q u (pc + 3) ls (.int (if y < x then y else x) :: st)) : V p l e R s m args below meth c D cl A w nL k n Q u pc ls (.int y :: .int x :: st) :=
  fun H locs la hP hS hl => va_mmin C.1 C.2.1 (C.2.2.2.2.2.2.2.1.trans hl.1.symm) C.2.2.2.1 (C.2.2.1 _ h1) (C.2.2.1 _ h2) (C.2.2.1 _ h3) (C.2.2.1 _ h4) hf hlo hk hn d (K H locs la hP hS hl)
theorem V_ls {ls' : List (Nat × Value)} (h : ls = ls') (K : V p l e R s m args below meth c D cl A w nL k n Q u pc ls' st) : V p l e R s m args below meth c D cl A w nL k n Q u pc ls st := by rw [h]; exact K
/-- a choice that only yields a value, joined again at J -/
theorem V_join1 (J : Nat) (T : Int32) {a : Value} (h1 : ∀ y : Int32, T = y → V p l e R s m args below meth c D cl A w nL k n Q u J ls (.int y :: st)) (h2 : (∀ y : Int32, T = y → V p l e R s m args below meth c D cl A w nL k n Q u J ls (.int y :: st)) → V p l e R s m args below meth c D cl A w nL k n Q u pc ls (a :: st)) : V p l e R s m args below meth c D cl A w nL k n Q u pc ls (a :: st) := h2 h1
theorem V_join2 (J : Nat) (T : Int32) {a b : Value} (h1 : ∀ y : Int32, T = y → V p l e R s m args below meth c D cl A w nL k n Q u J ls (.int y :: st)) (h2 : (∀ y : Int32, T = y → V p l e R s m args below meth c D cl A w nL k n Q u J ls (.int y :: st)) → V p l e R s m args below meth c D cl A w nL k n Q u pc ls (a :: b :: st)) : V p l e R s m args below meth c D cl A w nL k n Q u pc ls (a :: b :: st) := h2 h1
end VL
section VMM
variable {p : Program} {l : Launch} {e : Env} {R : Room} {s : State} {m : MethodId} {args : Array Value} {below : List Frame} {meth : Method} {c : Code} {D : va_G} {cl : List vw_C} {tys : List (ClassId × FieldType)} {X : State → Prop} {A : Nat → Prop} {w : vM → va_W} {cc : ByteArray} {own : String} {Ts : List Cond} {nL k n : Nat} {rt : Option FieldType} {Q : State → Prop} {u : vM} {pc : Nat} {ls : List (Nat × Value)} {st : List Value}
theorem Vm_iald (C : vC p s m args meth c D cl tys X A w cc own Ts nL rt) (q0 t0 : Nat) {a N : Nat} {cA : ClassId} (he : (w u)[q0]? = some (a, .inl (cA, N, .inl (u q0)))) (ht : tys[t0]? = some (cA, .int)) {i : Int32} (hin : vp_in i N) (d : decode cc pc = .ok (.iaload, 1))
    (K : V p l e R s m args below meth c D cl A w nL k n Q u (pc + 1) ls (.int (mrd u q0 i) :: st)) : V p l e R s m args below meth c D cl A w nL k n Q u pc ls (.int i :: .ref a :: st) := V_iald C q0 t0 he ht hin d K
theorem Vm_zald (C : vC p s m args meth c D cl tys X A w cc own Ts nL rt) (q0 t0 : Nat) {a N : Nat} {cA : ClassId} (he : (w u)[q0]? = some (a, .inl (cA, N, .inl (u q0)))) (ht : tys[t0]? = some (cA, .boolean)) {i : Int32} (hin : vp_in i N) (d : decode cc pc = .ok (.baload, 1))
    (K : V p l e R s m args below meth c D cl A w nL k n Q u (pc + 1) ls (.int (mrd u q0 i) :: st)) : V p l e R s m args below meth c D cl A w nL k n Q u pc ls (.int i :: .ref a :: st) := V_zald C q0 t0 he ht hin d K
theorem Vm_iast (C : vC p s m args meth c D cl tys X A w cc own Ts nL rt) (q0 t0 : Nat) {a N : Nat} {cA : ClassId} (he : (w u)[q0]? = some (a, .inl (cA, N, .inl (u q0)))) (ht : tys[t0]? = some (cA, .int)) {i x : Int32} (hin : vp_in i N) (hset : (w u).set q0 (a, .inl (cA, N, .inl (upd (u q0) i.toNatClampNeg x))) = w (mR u q0 (upd (u q0) i.toNatClampNeg x))) (d : decode cc pc = .ok (.iastore, 1))
    (K : V p l e R s m args below meth c D cl A w nL k n Q (mup u q0 i x) (pc + 1) ls st) : V p l e R s m args below meth c D cl A w nL k n Q u pc ls (.int x :: .int i :: .ref a :: st) := V_iast C q0 t0 he ht hin hset d K
theorem Vm_zast (C : vC p s m args meth c D cl tys X A w cc own Ts nL rt) (q0 t0 : Nat) {a N : Nat} {cA : ClassId} (he : (w u)[q0]? = some (a, .inl (cA, N, .inl (u q0)))) (ht : tys[t0]? = some (cA, .boolean)) {i x : Int32} (hin : vp_in i N) (hx : narrow .boolean (.int x) = .int x) (hset : (w u).set q0 (a, .inl (cA, N, .inl (upd (u q0) i.toNatClampNeg x))) = w (mR u q0 (upd (u q0) i.toNatClampNeg x))) (d : decode cc pc = .ok (.bastore, 1))
    (K : V p l e R s m args below meth c D cl A w nL k n Q (mup u q0 i x) (pc + 1) ls st) : V p l e R s m args below meth c D cl A w nL k n Q u pc ls (.int x :: .int i :: .ref a :: st) := V_zast C q0 t0 he ht hin (by unfold vp_nar; rw [hx]) hset d K
end VMM
theorem nb_of {x : Int32} (h : x = 0 ∨ x = 1) : narrow .boolean (.int x) = .int x := by rcases h with rfl | rfl <;> rfl
/-- a counter that falls: n rounds are left, the counter stands at n - 1 -/
def nD : Nat → Int32
  | 0 => -1
  | n + 1 => nI n
theorem nD_dec (n : Nat) : nI n + Int32.ofInt (-1) = nD n := by
  cases n with
  | zero => decide
  | succ n =>
    show nI (n + 1) + Int32.ofInt (-1) = nI n
    rw [← nI_pred n]
    generalize nI (n + 1) = z
    apply Int32.toBitVec_inj.mp
    simp [Int32.sub_eq_add_neg]
/-! CONTRACTS: what a method needs and leaves, over one family's memory -/
def mPc {S : Type} (D : va_G) (cl : List vw_C) (tys : List (ClassId × FieldType)) (X : State → Prop) (w : S → va_W) (As : List Value) (u : S) (sz : Nat) : Array Value → State → Prop :=
  va_Pc As (fun U => U.heap.size = sz ∧ va_P D cl (w u) U.heap ∧ va_K D cl tys U ∧ va_D (fun _ => True) (w u) ∧ X U)
def mQi {S : Type} (D : va_G) (cl : List vw_C) (w : S → va_W) (A : Nat → Prop) (r : Int32) (u' : S) : Array Value → State → Outcome → State → Prop := va_Qi (fun (r' : Int32) (_ : Unit) => r' = r) (fun _ t => va_P D cl (w u') t.heap) A
def mQv {S : Type} (D : va_G) (cl : List vw_C) (w : S → va_W) (A : Nat → Prop) (u' : S) : Array Value → State → Outcome → State → Prop := va_Qv (fun _ : Unit => True) (fun _ t => va_P D cl (w u') t.heap) A
/-- returns the int r, leaves the memory u' -/
def mI {S : Type} (D : va_G) (cl : List vw_C) (tys : List (ClassId × FieldType)) (X : State → Prop) (w : S → va_W) (l : Launch) (y : MethodName) (ws : List Cond) (rm : Room) (As : List Value) (u : S) (r : Int32) (u' : S) : Prop :=
  ∀ sz : Nat, Met l y ws rm (mPc D cl tys X w As u sz) (mQi D cl w (va_A (w u) sz) r u') 0 0 (va_A (w u) sz)
/-- returns nothing, leaves the memory u' -/
def mV {S : Type} (D : va_G) (cl : List vw_C) (tys : List (ClassId × FieldType)) (X : State → Prop) (w : S → va_W) (l : Launch) (y : MethodName) (ws : List Cond) (rm : Room) (As : List Value) (u : S) (u' : S) : Prop :=
  ∀ sz : Nat, Met l y ws rm (mPc D cl tys X w As u sz) (mQv D cl w (va_A (w u) sz) u') 0 0 (va_A (w u) sz)
/-- premises that the tables alone decide -/
def xOK (X : State → Prop) : Prop := ∀ s U : State, s.WarmedH U.vm → X s → X U
theorem va_D.addr {A : Nat → Prop} {w1 w2 : va_W} (h : va_D A w1) (e : w1.map Prod.fst = w2.map Prod.fst) : va_D A w2 := by
  have key : ∀ (k : Nat) (q : Nat × va_E), w2[k]? = some q → ∃ q1, w1[k]? = some q1 ∧ q1.1 = q.1 := by
    intro k q hq
    have h1 : (w2.map Prod.fst)[k]? = some q.1 := by rw [List.getElem?_map, hq]; rfl
    rw [← e, List.getElem?_map] at h1
    cases hz : w1[k]? with
    | none => rw [hz] at h1; cases h1
    | some z => rw [hz] at h1; exact ⟨z, rfl, Option.some.inj h1⟩
  refine ⟨fun i j a b ha hb hab => ?_, fun k q hq => ?_⟩
  · obtain ⟨a1, g1, g2⟩ := key i a ha
    obtain ⟨b1, g3, g4⟩ := key j b hb
    exact h.1 i j a1 b1 g1 g3 (by rw [g2, g4]; exact hab)
  · obtain ⟨q1, g1, g2⟩ := key k q hq
    rw [← g2]
    exact h.2 k q1 g1
def wOK {S : Type} (w : S → va_W) : Prop := ∀ u u' : S, (w u).map Prod.fst = (w u').map Prod.fst
theorem mI_of {own : String} {S : Type} {D : va_G} {cl : List vw_C} {tys : List (ClassId × FieldType)} {X : State → Prop} {w : S → va_W} {l : Launch} {y : MethodName} {ws ws' : List Cond} {rm : Room} {As : List Value} {u : S} {r : Int32} {u' : S} {cc : ByteArray} {maxL : Nat} {ret : Option FieldType}
    (ho : y.cls = own) (hy : plainName y.cls = true) (hws : ws = Cond.code y cc maxL ret :: ws') (hw : wOK w) (hlen : (lg_sl As).length ≤ maxL)
    (body : ∀ (p : Program) (e : Env) (s : State) (m : MethodId) (args : Array Value) (below : List Frame) (meth : Method) (c : Code) (A : Nat → Prop), vC p s m args meth c D cl tys X A w cc own ws maxL ret → V p l e rm s m args below meth c D cl A w maxL 0 0 (MQ below (mQi D cl w A r u') args s 0 0 A) u 0 (lv_args 0 As) []) : mI D cl tys X w l y ws rm As u r u' := by
  intro sz
  refine Met.ofW (cc := cc) (maxL := maxL) (ret := ret) hy hws ?_
  intro p e s m args below meth c s₁ B hml hv
  obtain ⟨rfl, hsz, hP, hK, hD, hX⟩ := hv
  subst hsz
  have C : vC p s m As.toArray meth c D cl tys X (va_A (w u) s.heap.size) w cc own ws maxL ret := ⟨B.exec, B.bytes, atoms_spec (ws := ws) B.pre, by rw [← ho]; exact findClass_of_methodNamed B.named, hK, fun u2 => va_D.addr (hD.self (sz := s.heap.size)) (hw u u2), fun q h => Or.inr h, hml, B.notSynchronized, B.returns, hX⟩
  have hl := lv_entry As (n := maxL) hlen
  rw [lg_entry_eq]
  exact body p e s m _ below meth c _ C s.heap [] _ hP va_S.rf hl
theorem mV_of {own : String} {S : Type} {D : va_G} {cl : List vw_C} {tys : List (ClassId × FieldType)} {X : State → Prop} {w : S → va_W} {l : Launch} {y : MethodName} {ws ws' : List Cond} {rm : Room} {As : List Value} {u : S} {u' : S} {cc : ByteArray} {maxL : Nat} {ret : Option FieldType}
    (ho : y.cls = own) (hy : plainName y.cls = true) (hws : ws = Cond.code y cc maxL ret :: ws') (hw : wOK w) (hlen : (lg_sl As).length ≤ maxL)
    (body : ∀ (p : Program) (e : Env) (s : State) (m : MethodId) (args : Array Value) (below : List Frame) (meth : Method) (c : Code) (A : Nat → Prop), vC p s m args meth c D cl tys X A w cc own ws maxL ret → V p l e rm s m args below meth c D cl A w maxL 0 0 (MQ below (mQv D cl w A u') args s 0 0 A) u 0 (lv_args 0 As) []) : mV D cl tys X w l y ws rm As u u' := by
  intro sz
  refine Met.ofW (cc := cc) (maxL := maxL) (ret := ret) hy hws ?_
  intro p e s m args below meth c s₁ B hml hv
  obtain ⟨rfl, hsz, hP, hK, hD, hX⟩ := hv
  subst hsz
  have C : vC p s m As.toArray meth c D cl tys X (va_A (w u) s.heap.size) w cc own ws maxL ret := ⟨B.exec, B.bytes, atoms_spec (ws := ws) B.pre, by rw [← ho]; exact findClass_of_methodNamed B.named, hK, fun u2 => va_D.addr (hD.self (sz := s.heap.size)) (hw u u2), fun q h => Or.inr h, hml, B.notSynchronized, B.returns, hX⟩
  have hl := lv_entry As (n := maxL) hlen
  rw [lg_entry_eq]
  exact body p e s m _ below meth c _ C s.heap [] _ hP va_S.rf hl
section VR
variable {p : Program} {l : Launch} {e : Env} {R : Room} {s : State} {m : MethodId} {args : Array Value} {below : List Frame} {meth : Method} {c : Code} {S : Type} {D : va_G} {cl : List vw_C} {tys : List (ClassId × FieldType)} {X : State → Prop} {A : Nat → Prop} {w : S → va_W} {cc : ByteArray} {own : String} {Ts : List Cond} {nL k n : Nat} {rt : Option FieldType} {Q : State → Prop} {u : S} {pc : Nat} {ls : List (Nat × Value)} {st : List Value}
theorem V_iret (C : vC p s m args meth c D cl tys X A w cc own Ts nL rt) {x r : Int32} {ty : FieldType} {u' : S} (hrt : rt = some ty) (hn : narrow ty (.int x) = .int x) (e1 : r = x) (e2 : u' = u) (d : decode cc pc = .ok (.ireturn, 1)) : V p l e R s m args below meth c D cl A w nL k n (MQ below (mQi D cl w A r u') args s k n A) u pc ls [.int x] :=
  fun H locs la hP hS hl => W.zret C.1 C.2.1 (C.2.2.2.2.2.2.2.2.2.1.trans hrt) hn (fun t ht _ => ⟨⟨x, (), rfl, e1.symm, by show va_P D cl (w u') t.heap; rw [ht, e2]; exact hP⟩, hS.F ht⟩) hS.2.2 d C.2.2.2.2.2.2.2.2.1
theorem V_vret (C : vC p s m args meth c D cl tys X A w cc own Ts nL rt) {u' : S} (hrt : rt = none) (e2 : u' = u) (d : decode cc pc = .ok (.return_, 1)) : V p l e R s m args below meth c D cl A w nL 0 0 (MQ below (mQv D cl w A u') args s 0 0 A) u pc ls [] :=
  fun H locs la hP hS hl => W.vret C.1 C.2.1 (C.2.2.2.2.2.2.2.2.2.1.trans hrt) (fun t ht _ => ⟨⟨(), rfl, trivial, by show va_P D cl (w u') t.heap; rw [ht, e2]; exact hP⟩, hS.F ht⟩) hS.2.2 d C.2.2.2.2.2.2.2.2.1
variable {y : MethodName} {bytes : ByteArray} {maxL index nn : Nat} {ret : Option FieldType} {ws : List Cond} {rm : Room} {Cn host : String} {T : u_T} {N ci : Nat} {b : Addr} {As : List Value} {r : Int32} {u' : S}
theorem mPc_blind (hX : xOK X) {As' : List Value} {u0 : S} {sz : Nat} : FrameBlind (mPc D cl tys X w As' u0 sz) := by
  intro a U g mk q
  obtain ⟨q1, q2, q3, q4, q5, q6⟩ := q
  exact ⟨q1, q2, q3, va_K.moved (u := U) (U := U.calling g mk a) (Vm.Alike.refl U.vm) q4, q5, hX U (U.calling g mk a) (State.WarmedH.refl U) q6⟩
theorem mPc_at (C : vC p s m args meth c D cl tys X A w cc own Ts nL rt) (hX : xOK X) {H : Heap} (hP : va_P D cl (w u) H) {As' : List Value} (U : State) (hU : U.heap = H) (hW : s.WarmedH U.vm) : mPc D cl tys X w As' u H.size As'.toArray U :=
  ⟨rfl, by rw [hU], by rw [hU]; exact hP, va_K.moved hW.alike C.2.2.2.2.1, (C.2.2.2.2.2.1 u).weaken (fun _ _ _ _ => trivial), hX s U hW C.2.2.2.2.2.2.2.2.2.2⟩
theorem vA_sub (C : vC p s m args meth c D cl tys X A w cc own Ts nL rt) {H : Heap} {locs : List Loc} (hS : va_S A s.heap H locs) (q : Nat) (h : va_A (w u) H.size q) : A q := by
  rcases h with ⟨j, e', hj⟩ | h
  · exact (C.2.2.2.2.2.1 u).2 j _ hj
  · exact C.2.2.2.2.2.2.1 q (Nat.le_trans hS.1 h)
theorem V_runI (C : vC p s m args meth c D cl tys X A w cc own Ts nL rt) (hr : ∀ (H : Heap) (locs : List Loc) (la : Array Slot), va_P D cl (w u) H → la.size = nL → va_Run p l e R s m args below meth c H locs k n 0 0 (F0 m pc la (As.reverse ++ st)) st (mQi D cl w (va_A (w u) H.size) r u' As.toArray) (va_A (w u) H.size))
    (K : V p l e R s m args below meth c D cl A w nL k n Q u' (pc + 3) ls (.int r :: st)) : V p l e R s m args below meth c D cl A w nL k n Q u pc ls (As.reverse ++ st) := by
  intro H locs la hP hS hl
  refine va_calli (hr H locs la hP hl.1) hS (fun q _ h => vA_sub C hS q h) (fun q h => vA_sub C hS q h) (fun r' _ t H1 locs1 ht hvm hw hB hz hk1 hS1 => ?_)
  subst hw
  rw [ht] at hB
  exact K H1 locs1 la hB hS1 hl
theorem V_runV (C : vC p s m args meth c D cl tys X A w cc own Ts nL rt) (hr : ∀ (H : Heap) (locs : List Loc) (la : Array Slot), va_P D cl (w u) H → la.size = nL → va_Run p l e R s m args below meth c H locs k n 0 0 (F0 m pc la (As.reverse ++ st)) st (mQv D cl w (va_A (w u) H.size) u' As.toArray) (va_A (w u) H.size))
    (K : V p l e R s m args below meth c D cl A w nL k n Q u' (pc + 3) ls st) : V p l e R s m args below meth c D cl A w nL k n Q u pc ls (As.reverse ++ st) := by
  intro H locs la hP hS hl
  refine va_callv (hr H locs la hP hl.1) hS (fun q _ h => vA_sub C hS q h) (fun q h => vA_sub C hS q h) (fun _ t H1 locs1 ht hvm hw hB hz hk1 hS1 => ?_)
  rw [ht] at hB
  exact K H1 locs1 la hB hS1 hl
theorem vfx (C : vC p s m args meth c D cl tys X A w cc own Ts nL rt) : CallFix p m c cc nL s args Ts own := ⟨C.1, C.2.1, C.2.2.2.2.2.2.2.1, C.2.2.2.1, C.2.2.1⟩
theorem rev_app (As : List Value) (b : Value) (st : List Value) : (b :: As).reverse ++ st = As.reverse ++ b :: st := by simp
/-- private or public, of an object of the family -/
theorem V_callVi (C : vC p s m args meth c D cl tys X A w cc own Ts nL rt) (hX : xOK X) (h : mI D cl tys X w l y ws rm (.ref b :: As) u r u') (cw : CallW R s args own Cn index y bytes maxL ret ws rm 0 0 nn) (q0 : Nat) {fs : List Value} (he : (w u)[q0]? = some (b, .inr (ci, fs))) (hc : cl[ci]? = some (Cn, T, N)) (hn : As.length = nn) (hst : (st.map fun v => v.category).sum ≤ 8) (hk : k + 0 ≤ R.cells ∧ n + 0 ≤ R.slots) (d : decode cc pc = .ok (.invokevirtual index, 3))
    (K : V p l e R s m args below meth c D cl A w nL k n Q u' (pc + 3) ls (.int r :: st)) : V p l e R s m args below meth c D cl A w nL k n Q u pc ls (As.reverse ++ .ref b :: st) := by
  have g := V_runI (As := .ref b :: As) (st := st) C (fun H locs la hP hl => va_runV (b := b) (As := As) (rest := st) (vfx C) (h H.size) cw ⟨mPc_blind hX, va_recv C.2.2.2.2.1 hP hc he, fun U hU hW => mPc_at C hX hP U hU hW⟩ rfl hn hl (rev_app As (.ref b) st) (lv_room hst) d hk) K
  rw [rev_app] at g
  exact g
theorem V_callVv (C : vC p s m args meth c D cl tys X A w cc own Ts nL rt) (hX : xOK X) (h : mV D cl tys X w l y ws rm (.ref b :: As) u u') (cw : CallW R s args own Cn index y bytes maxL ret ws rm 0 0 nn) (q0 : Nat) {fs : List Value} (he : (w u)[q0]? = some (b, .inr (ci, fs))) (hc : cl[ci]? = some (Cn, T, N)) (hn : As.length = nn) (hst : (st.map fun v => v.category).sum ≤ 8) (hk : k + 0 ≤ R.cells ∧ n + 0 ≤ R.slots) (d : decode cc pc = .ok (.invokevirtual index, 3))
    (K : V p l e R s m args below meth c D cl A w nL k n Q u' (pc + 3) ls st) : V p l e R s m args below meth c D cl A w nL k n Q u pc ls (As.reverse ++ .ref b :: st) := by
  have g := V_runV (As := .ref b :: As) (st := st) C (fun H locs la hP hl => va_runV (b := b) (As := As) (rest := st) (vfx C) (h H.size) cw ⟨mPc_blind hX, va_recv C.2.2.2.2.1 hP hc he, fun U hU hW => mPc_at C hX hP U hU hW⟩ rfl hn hl (rev_app As (.ref b) st) (lv_room hst) d hk) K
  rw [rev_app] at g
  exact g
/-- private, of a nest mate's object -/
theorem V_callVNi (C : vC p s m args meth c D cl tys X A w cc own Ts nL rt) (hX : xOK X) (h : mI D cl tys X w l y ws rm (.ref b :: As) u r u') (cw : va_CN R s args own index y host bytes maxL ret ws rm 0 0 nn ∧ (Cond.instanceMethod y).before args s = true ∧ (Cond.selects Cn y y).before args s = true) (q0 : Nat) {fs : List Value} (he : (w u)[q0]? = some (b, .inr (ci, fs))) (hc : cl[ci]? = some (Cn, T, N)) (hn : As.length = nn) (hst : (st.map fun v => v.category).sum ≤ 8) (hk : k + 0 ≤ R.cells ∧ n + 0 ≤ R.slots) (d : decode cc pc = .ok (.invokevirtual index, 3))
    (K : V p l e R s m args below meth c D cl A w nL k n Q u' (pc + 3) ls (.int r :: st)) : V p l e R s m args below meth c D cl A w nL k n Q u pc ls (As.reverse ++ .ref b :: st) := by
  have g := V_runI (As := .ref b :: As) (st := st) C (fun H locs la hP hl => va_runVN (b := b) (As := As) (rest := st) (vfx C) (h H.size) cw ⟨mPc_blind hX, va_recv C.2.2.2.2.1 hP hc he, fun U hU hW => mPc_at C hX hP U hU hW⟩ rfl hn hl (rev_app As (.ref b) st) (lv_room hst) d hk) K
  rw [rev_app] at g
  exact g
theorem V_callSi (C : vC p s m args meth c D cl tys X A w cc own Ts nL rt) (hX : xOK X) (h : mI D cl tys X w l y ws rm As u r u') (cw : CallB R s args own index y bytes maxL ret ws rm 0 0 nn ∧ (Cond.static y).before args s = true) (hn : As.length = nn) (hst : (st.map fun v => v.category).sum ≤ 8) (hk : k + 0 ≤ R.cells ∧ n + 0 ≤ R.slots) (d : decode cc pc = .ok (.invokestatic index, 3))
    (K : V p l e R s m args below meth c D cl A w nL k n Q u' (pc + 3) ls (.int r :: st)) : V p l e R s m args below meth c D cl A w nL k n Q u pc ls (As.reverse ++ st) :=
  V_runI C (fun H locs la hP hl => va_runS (As := As) (rest := st) (vfx C) (h H.size) cw ⟨mPc_blind hX, fun U hU hW => mPc_at C hX hP U hU hW⟩ rfl hn hl rfl (lv_room hst) d hk) K
theorem V_callSNi (C : vC p s m args meth c D cl tys X A w cc own Ts nL rt) (hX : xOK X) (h : mI D cl tys X w l y ws rm As u r u') (cw : va_CN R s args own index y host bytes maxL ret ws rm 0 0 nn ∧ (Cond.static y).before args s = true ∧ True) (hn : As.length = nn) (hst : (st.map fun v => v.category).sum ≤ 8) (hk : k + 0 ≤ R.cells ∧ n + 0 ≤ R.slots) (d : decode cc pc = .ok (.invokestatic index, 3))
    (K : V p l e R s m args below meth c D cl A w nL k n Q u' (pc + 3) ls (.int r :: st)) : V p l e R s m args below meth c D cl A w nL k n Q u pc ls (As.reverse ++ st) :=
  V_runI C (fun H locs la hP hl => va_runSN (As := As) (rest := st) (vfx C) (h H.size) cw ⟨mPc_blind hX, fun U hU hW => mPc_at C hX hP U hU hW⟩ rfl hn hl rfl (lv_room hst) d hk) K
theorem V_cVi0 (C : vC p s m args meth c D cl tys X A w cc own Ts nL rt) (hX : xOK X) (h : mI D cl tys X w l y ws rm (.ref b :: []) u r u') (cw : CallW R s args own Cn index y bytes maxL ret ws rm 0 0 0) (q0 : Nat) {fs : List Value} (he : (w u)[q0]? = some (b, .inr (ci, fs))) (hc : cl[ci]? = some (Cn, T, N)) (hst : (st.map fun v => v.category).sum ≤ 8) (hk : k + 0 ≤ R.cells ∧ n + 0 ≤ R.slots) (d : decode cc pc = .ok (.invokevirtual index, 3)) (K : V p l e R s m args below meth c D cl A w nL k n Q u' (pc + 3) ls (.int r :: st)) : V p l e R s m args below meth c D cl A w nL k n Q u pc ls (.ref b :: st) := V_callVi (As := []) C hX h cw q0 he hc rfl hst hk d K
theorem V_cVi1 (C : vC p s m args meth c D cl tys X A w cc own Ts nL rt) (hX : xOK X) {v1 : Value} (h : mI D cl tys X w l y ws rm (.ref b :: [v1]) u r u') (cw : CallW R s args own Cn index y bytes maxL ret ws rm 0 0 1) (q0 : Nat) {fs : List Value} (he : (w u)[q0]? = some (b, .inr (ci, fs))) (hc : cl[ci]? = some (Cn, T, N)) (hst : (st.map fun v => v.category).sum ≤ 8) (hk : k + 0 ≤ R.cells ∧ n + 0 ≤ R.slots) (d : decode cc pc = .ok (.invokevirtual index, 3)) (K : V p l e R s m args below meth c D cl A w nL k n Q u' (pc + 3) ls (.int r :: st)) : V p l e R s m args below meth c D cl A w nL k n Q u pc ls (v1 :: .ref b :: st) := V_callVi (As := [v1]) C hX h cw q0 he hc rfl hst hk d K
theorem V_cVi2 (C : vC p s m args meth c D cl tys X A w cc own Ts nL rt) (hX : xOK X) {v1 v2 : Value} (h : mI D cl tys X w l y ws rm (.ref b :: [v1, v2]) u r u') (cw : CallW R s args own Cn index y bytes maxL ret ws rm 0 0 2) (q0 : Nat) {fs : List Value} (he : (w u)[q0]? = some (b, .inr (ci, fs))) (hc : cl[ci]? = some (Cn, T, N)) (hst : (st.map fun v => v.category).sum ≤ 8) (hk : k + 0 ≤ R.cells ∧ n + 0 ≤ R.slots) (d : decode cc pc = .ok (.invokevirtual index, 3)) (K : V p l e R s m args below meth c D cl A w nL k n Q u' (pc + 3) ls (.int r :: st)) : V p l e R s m args below meth c D cl A w nL k n Q u pc ls (v2 :: v1 :: .ref b :: st) := V_callVi (As := [v1, v2]) C hX h cw q0 he hc rfl hst hk d K
theorem V_cVi3 (C : vC p s m args meth c D cl tys X A w cc own Ts nL rt) (hX : xOK X) {v1 v2 v3 : Value} (h : mI D cl tys X w l y ws rm (.ref b :: [v1, v2, v3]) u r u') (cw : CallW R s args own Cn index y bytes maxL ret ws rm 0 0 3) (q0 : Nat) {fs : List Value} (he : (w u)[q0]? = some (b, .inr (ci, fs))) (hc : cl[ci]? = some (Cn, T, N)) (hst : (st.map fun v => v.category).sum ≤ 8) (hk : k + 0 ≤ R.cells ∧ n + 0 ≤ R.slots) (d : decode cc pc = .ok (.invokevirtual index, 3)) (K : V p l e R s m args below meth c D cl A w nL k n Q u' (pc + 3) ls (.int r :: st)) : V p l e R s m args below meth c D cl A w nL k n Q u pc ls (v3 :: v2 :: v1 :: .ref b :: st) := V_callVi (As := [v1, v2, v3]) C hX h cw q0 he hc rfl hst hk d K
theorem V_cVi4 (C : vC p s m args meth c D cl tys X A w cc own Ts nL rt) (hX : xOK X) {v1 v2 v3 v4 : Value} (h : mI D cl tys X w l y ws rm (.ref b :: [v1, v2, v3, v4]) u r u') (cw : CallW R s args own Cn index y bytes maxL ret ws rm 0 0 4) (q0 : Nat) {fs : List Value} (he : (w u)[q0]? = some (b, .inr (ci, fs))) (hc : cl[ci]? = some (Cn, T, N)) (hst : (st.map fun v => v.category).sum ≤ 8) (hk : k + 0 ≤ R.cells ∧ n + 0 ≤ R.slots) (d : decode cc pc = .ok (.invokevirtual index, 3)) (K : V p l e R s m args below meth c D cl A w nL k n Q u' (pc + 3) ls (.int r :: st)) : V p l e R s m args below meth c D cl A w nL k n Q u pc ls (v4 :: v3 :: v2 :: v1 :: .ref b :: st) := V_callVi (As := [v1, v2, v3, v4]) C hX h cw q0 he hc rfl hst hk d K
theorem V_cVi5 (C : vC p s m args meth c D cl tys X A w cc own Ts nL rt) (hX : xOK X) {v1 v2 v3 v4 v5 : Value} (h : mI D cl tys X w l y ws rm (.ref b :: [v1, v2, v3, v4, v5]) u r u') (cw : CallW R s args own Cn index y bytes maxL ret ws rm 0 0 5) (q0 : Nat) {fs : List Value} (he : (w u)[q0]? = some (b, .inr (ci, fs))) (hc : cl[ci]? = some (Cn, T, N)) (hst : (st.map fun v => v.category).sum ≤ 8) (hk : k + 0 ≤ R.cells ∧ n + 0 ≤ R.slots) (d : decode cc pc = .ok (.invokevirtual index, 3)) (K : V p l e R s m args below meth c D cl A w nL k n Q u' (pc + 3) ls (.int r :: st)) : V p l e R s m args below meth c D cl A w nL k n Q u pc ls (v5 :: v4 :: v3 :: v2 :: v1 :: .ref b :: st) := V_callVi (As := [v1, v2, v3, v4, v5]) C hX h cw q0 he hc rfl hst hk d K
theorem V_cVi6 (C : vC p s m args meth c D cl tys X A w cc own Ts nL rt) (hX : xOK X) {v1 v2 v3 v4 v5 v6 : Value} (h : mI D cl tys X w l y ws rm (.ref b :: [v1, v2, v3, v4, v5, v6]) u r u') (cw : CallW R s args own Cn index y bytes maxL ret ws rm 0 0 6) (q0 : Nat) {fs : List Value} (he : (w u)[q0]? = some (b, .inr (ci, fs))) (hc : cl[ci]? = some (Cn, T, N)) (hst : (st.map fun v => v.category).sum ≤ 8) (hk : k + 0 ≤ R.cells ∧ n + 0 ≤ R.slots) (d : decode cc pc = .ok (.invokevirtual index, 3)) (K : V p l e R s m args below meth c D cl A w nL k n Q u' (pc + 3) ls (.int r :: st)) : V p l e R s m args below meth c D cl A w nL k n Q u pc ls (v6 :: v5 :: v4 :: v3 :: v2 :: v1 :: .ref b :: st) := V_callVi (As := [v1, v2, v3, v4, v5, v6]) C hX h cw q0 he hc rfl hst hk d K
theorem V_cVv0 (C : vC p s m args meth c D cl tys X A w cc own Ts nL rt) (hX : xOK X) (h : mV D cl tys X w l y ws rm (.ref b :: []) u u') (cw : CallW R s args own Cn index y bytes maxL ret ws rm 0 0 0) (q0 : Nat) {fs : List Value} (he : (w u)[q0]? = some (b, .inr (ci, fs))) (hc : cl[ci]? = some (Cn, T, N)) (hst : (st.map fun v => v.category).sum ≤ 8) (hk : k + 0 ≤ R.cells ∧ n + 0 ≤ R.slots) (d : decode cc pc = .ok (.invokevirtual index, 3)) (K : V p l e R s m args below meth c D cl A w nL k n Q u' (pc + 3) ls st) : V p l e R s m args below meth c D cl A w nL k n Q u pc ls (.ref b :: st) := V_callVv (As := []) C hX h cw q0 he hc rfl hst hk d K
theorem V_cVv1 (C : vC p s m args meth c D cl tys X A w cc own Ts nL rt) (hX : xOK X) {v1 : Value} (h : mV D cl tys X w l y ws rm (.ref b :: [v1]) u u') (cw : CallW R s args own Cn index y bytes maxL ret ws rm 0 0 1) (q0 : Nat) {fs : List Value} (he : (w u)[q0]? = some (b, .inr (ci, fs))) (hc : cl[ci]? = some (Cn, T, N)) (hst : (st.map fun v => v.category).sum ≤ 8) (hk : k + 0 ≤ R.cells ∧ n + 0 ≤ R.slots) (d : decode cc pc = .ok (.invokevirtual index, 3)) (K : V p l e R s m args below meth c D cl A w nL k n Q u' (pc + 3) ls st) : V p l e R s m args below meth c D cl A w nL k n Q u pc ls (v1 :: .ref b :: st) := V_callVv (As := [v1]) C hX h cw q0 he hc rfl hst hk d K
theorem V_cVv2 (C : vC p s m args meth c D cl tys X A w cc own Ts nL rt) (hX : xOK X) {v1 v2 : Value} (h : mV D cl tys X w l y ws rm (.ref b :: [v1, v2]) u u') (cw : CallW R s args own Cn index y bytes maxL ret ws rm 0 0 2) (q0 : Nat) {fs : List Value} (he : (w u)[q0]? = some (b, .inr (ci, fs))) (hc : cl[ci]? = some (Cn, T, N)) (hst : (st.map fun v => v.category).sum ≤ 8) (hk : k + 0 ≤ R.cells ∧ n + 0 ≤ R.slots) (d : decode cc pc = .ok (.invokevirtual index, 3)) (K : V p l e R s m args below meth c D cl A w nL k n Q u' (pc + 3) ls st) : V p l e R s m args below meth c D cl A w nL k n Q u pc ls (v2 :: v1 :: .ref b :: st) := V_callVv (As := [v1, v2]) C hX h cw q0 he hc rfl hst hk d K
theorem V_cVv3 (C : vC p s m args meth c D cl tys X A w cc own Ts nL rt) (hX : xOK X) {v1 v2 v3 : Value} (h : mV D cl tys X w l y ws rm (.ref b :: [v1, v2, v3]) u u') (cw : CallW R s args own Cn index y bytes maxL ret ws rm 0 0 3) (q0 : Nat) {fs : List Value} (he : (w u)[q0]? = some (b, .inr (ci, fs))) (hc : cl[ci]? = some (Cn, T, N)) (hst : (st.map fun v => v.category).sum ≤ 8) (hk : k + 0 ≤ R.cells ∧ n + 0 ≤ R.slots) (d : decode cc pc = .ok (.invokevirtual index, 3)) (K : V p l e R s m args below meth c D cl A w nL k n Q u' (pc + 3) ls st) : V p l e R s m args below meth c D cl A w nL k n Q u pc ls (v3 :: v2 :: v1 :: .ref b :: st) := V_callVv (As := [v1, v2, v3]) C hX h cw q0 he hc rfl hst hk d K
theorem V_cVv4 (C : vC p s m args meth c D cl tys X A w cc own Ts nL rt) (hX : xOK X) {v1 v2 v3 v4 : Value} (h : mV D cl tys X w l y ws rm (.ref b :: [v1, v2, v3, v4]) u u') (cw : CallW R s args own Cn index y bytes maxL ret ws rm 0 0 4) (q0 : Nat) {fs : List Value} (he : (w u)[q0]? = some (b, .inr (ci, fs))) (hc : cl[ci]? = some (Cn, T, N)) (hst : (st.map fun v => v.category).sum ≤ 8) (hk : k + 0 ≤ R.cells ∧ n + 0 ≤ R.slots) (d : decode cc pc = .ok (.invokevirtual index, 3)) (K : V p l e R s m args below meth c D cl A w nL k n Q u' (pc + 3) ls st) : V p l e R s m args below meth c D cl A w nL k n Q u pc ls (v4 :: v3 :: v2 :: v1 :: .ref b :: st) := V_callVv (As := [v1, v2, v3, v4]) C hX h cw q0 he hc rfl hst hk d K
theorem V_cVv5 (C : vC p s m args meth c D cl tys X A w cc own Ts nL rt) (hX : xOK X) {v1 v2 v3 v4 v5 : Value} (h : mV D cl tys X w l y ws rm (.ref b :: [v1, v2, v3, v4, v5]) u u') (cw : CallW R s args own Cn index y bytes maxL ret ws rm 0 0 5) (q0 : Nat) {fs : List Value} (he : (w u)[q0]? = some (b, .inr (ci, fs))) (hc : cl[ci]? = some (Cn, T, N)) (hst : (st.map fun v => v.category).sum ≤ 8) (hk : k + 0 ≤ R.cells ∧ n + 0 ≤ R.slots) (d : decode cc pc = .ok (.invokevirtual index, 3)) (K : V p l e R s m args below meth c D cl A w nL k n Q u' (pc + 3) ls st) : V p l e R s m args below meth c D cl A w nL k n Q u pc ls (v5 :: v4 :: v3 :: v2 :: v1 :: .ref b :: st) := V_callVv (As := [v1, v2, v3, v4, v5]) C hX h cw q0 he hc rfl hst hk d K
theorem V_cVv6 (C : vC p s m args meth c D cl tys X A w cc own Ts nL rt) (hX : xOK X) {v1 v2 v3 v4 v5 v6 : Value} (h : mV D cl tys X w l y ws rm (.ref b :: [v1, v2, v3, v4, v5, v6]) u u') (cw : CallW R s args own Cn index y bytes maxL ret ws rm 0 0 6) (q0 : Nat) {fs : List Value} (he : (w u)[q0]? = some (b, .inr (ci, fs))) (hc : cl[ci]? = some (Cn, T, N)) (hst : (st.map fun v => v.category).sum ≤ 8) (hk : k + 0 ≤ R.cells ∧ n + 0 ≤ R.slots) (d : decode cc pc = .ok (.invokevirtual index, 3)) (K : V p l e R s m args below meth c D cl A w nL k n Q u' (pc + 3) ls st) : V p l e R s m args below meth c D cl A w nL k n Q u pc ls (v6 :: v5 :: v4 :: v3 :: v2 :: v1 :: .ref b :: st) := V_callVv (As := [v1, v2, v3, v4, v5, v6]) C hX h cw q0 he hc rfl hst hk d K
theorem V_cVNi1 (C : vC p s m args meth c D cl tys X A w cc own Ts nL rt) (hX : xOK X) {v1 : Value} (h : mI D cl tys X w l y ws rm (.ref b :: [v1]) u r u') (cw : va_CN R s args own index y host bytes maxL ret ws rm 0 0 1 ∧ (Cond.instanceMethod y).before args s = true ∧ (Cond.selects Cn y y).before args s = true) (q0 : Nat) {fs : List Value} (he : (w u)[q0]? = some (b, .inr (ci, fs))) (hc : cl[ci]? = some (Cn, T, N)) (hst : (st.map fun v => v.category).sum ≤ 8) (hk : k + 0 ≤ R.cells ∧ n + 0 ≤ R.slots) (d : decode cc pc = .ok (.invokevirtual index, 3)) (K : V p l e R s m args below meth c D cl A w nL k n Q u' (pc + 3) ls (.int r :: st)) : V p l e R s m args below meth c D cl A w nL k n Q u pc ls (v1 :: .ref b :: st) := V_callVNi (As := [v1]) C hX h cw q0 he hc rfl hst hk d K
theorem V_cVNi4 (C : vC p s m args meth c D cl tys X A w cc own Ts nL rt) (hX : xOK X) {v1 v2 v3 v4 : Value} (h : mI D cl tys X w l y ws rm (.ref b :: [v1, v2, v3, v4]) u r u') (cw : va_CN R s args own index y host bytes maxL ret ws rm 0 0 4 ∧ (Cond.instanceMethod y).before args s = true ∧ (Cond.selects Cn y y).before args s = true) (q0 : Nat) {fs : List Value} (he : (w u)[q0]? = some (b, .inr (ci, fs))) (hc : cl[ci]? = some (Cn, T, N)) (hst : (st.map fun v => v.category).sum ≤ 8) (hk : k + 0 ≤ R.cells ∧ n + 0 ≤ R.slots) (d : decode cc pc = .ok (.invokevirtual index, 3)) (K : V p l e R s m args below meth c D cl A w nL k n Q u' (pc + 3) ls (.int r :: st)) : V p l e R s m args below meth c D cl A w nL k n Q u pc ls (v4 :: v3 :: v2 :: v1 :: .ref b :: st) := V_callVNi (As := [v1, v2, v3, v4]) C hX h cw q0 he hc rfl hst hk d K
theorem V_cSi1 (C : vC p s m args meth c D cl tys X A w cc own Ts nL rt) (hX : xOK X) {v1 : Value} (h : mI D cl tys X w l y ws rm [v1] u r u') (cw : CallB R s args own index y bytes maxL ret ws rm 0 0 1 ∧ (Cond.static y).before args s = true) (hst : (st.map fun v => v.category).sum ≤ 8) (hk : k + 0 ≤ R.cells ∧ n + 0 ≤ R.slots) (d : decode cc pc = .ok (.invokestatic index, 3)) (K : V p l e R s m args below meth c D cl A w nL k n Q u' (pc + 3) ls (.int r :: st)) : V p l e R s m args below meth c D cl A w nL k n Q u pc ls (v1 :: st) := V_callSi (As := [v1]) C hX h cw rfl hst hk d K
theorem V_cSi2 (C : vC p s m args meth c D cl tys X A w cc own Ts nL rt) (hX : xOK X) {v1 v2 : Value} (h : mI D cl tys X w l y ws rm [v1, v2] u r u') (cw : CallB R s args own index y bytes maxL ret ws rm 0 0 2 ∧ (Cond.static y).before args s = true) (hst : (st.map fun v => v.category).sum ≤ 8) (hk : k + 0 ≤ R.cells ∧ n + 0 ≤ R.slots) (d : decode cc pc = .ok (.invokestatic index, 3)) (K : V p l e R s m args below meth c D cl A w nL k n Q u' (pc + 3) ls (.int r :: st)) : V p l e R s m args below meth c D cl A w nL k n Q u pc ls (v2 :: v1 :: st) := V_callSi (As := [v1, v2]) C hX h cw rfl hst hk d K
theorem V_cSi3 (C : vC p s m args meth c D cl tys X A w cc own Ts nL rt) (hX : xOK X) {v1 v2 v3 : Value} (h : mI D cl tys X w l y ws rm [v1, v2, v3] u r u') (cw : CallB R s args own index y bytes maxL ret ws rm 0 0 3 ∧ (Cond.static y).before args s = true) (hst : (st.map fun v => v.category).sum ≤ 8) (hk : k + 0 ≤ R.cells ∧ n + 0 ≤ R.slots) (d : decode cc pc = .ok (.invokestatic index, 3)) (K : V p l e R s m args below meth c D cl A w nL k n Q u' (pc + 3) ls (.int r :: st)) : V p l e R s m args below meth c D cl A w nL k n Q u pc ls (v3 :: v2 :: v1 :: st) := V_callSi (As := [v1, v2, v3]) C hX h cw rfl hst hk d K
theorem V_cSNi1 (C : vC p s m args meth c D cl tys X A w cc own Ts nL rt) (hX : xOK X) {v1 : Value} (h : mI D cl tys X w l y ws rm [v1] u r u') (cw : va_CN R s args own index y host bytes maxL ret ws rm 0 0 1 ∧ (Cond.static y).before args s = true ∧ True) (hst : (st.map fun v => v.category).sum ≤ 8) (hk : k + 0 ≤ R.cells ∧ n + 0 ≤ R.slots) (d : decode cc pc = .ok (.invokestatic index, 3)) (K : V p l e R s m args below meth c D cl A w nL k n Q u' (pc + 3) ls (.int r :: st)) : V p l e R s m args below meth c D cl A w nL k n Q u pc ls (v1 :: st) := V_callSNi (As := [v1]) C hX h cw rfl hst hk d K
theorem V_cSNi2 (C : vC p s m args meth c D cl tys X A w cc own Ts nL rt) (hX : xOK X) {v1 v2 : Value} (h : mI D cl tys X w l y ws rm [v1, v2] u r u') (cw : va_CN R s args own index y host bytes maxL ret ws rm 0 0 2 ∧ (Cond.static y).before args s = true ∧ True) (hst : (st.map fun v => v.category).sum ≤ 8) (hk : k + 0 ≤ R.cells ∧ n + 0 ≤ R.slots) (d : decode cc pc = .ok (.invokestatic index, 3)) (K : V p l e R s m args below meth c D cl A w nL k n Q u' (pc + 3) ls (.int r :: st)) : V p l e R s m args below meth c D cl A w nL k n Q u pc ls (v2 :: v1 :: st) := V_callSNi (As := [v1, v2]) C hX h cw rfl hst hk d K
end VR
