section
-- ===== PART A: goes FIRST, ahead of the names: the tables' words, and 'selects' of the private methods out of them =====
/-- a private method of a class that the tables say can be made, by its rows of tables_1 -/
def lw_okq (q : MethodName × Nat) : Prop := (q.1.cls ≠ "java/lang/invoke/MethodHandle" ∧ q.1.cls ≠ "java/lang/invoke/VarHandle") ∧ Cond.instantiable q.1.cls q.2 ∈ tables_1 ∧ Cond.privateMethod q.1 ∈ tables_1 ∧ Cond.instanceMethod q.1 ∈ tables_1
theorem lw_p0 : lw_okq (⟨"java/lang/Throwable", "fillInStackTrace", "(I)Ljava/lang/Throwable;"⟩, 6) := ⟨⟨by decide +kernel, by decide +kernel⟩, List.mem_of_getElem? (i := 142) (by decide +kernel), List.mem_of_getElem? (i := 140) (by decide +kernel), List.mem_of_getElem? (i := 141) (by decide +kernel)⟩
theorem lw_p1 : lw_okq (⟨"MeteredSheets", "forgetChanges", "()V"⟩, 12) := ⟨⟨by decide +kernel, by decide +kernel⟩, List.mem_of_getElem? (i := 11) (by decide +kernel), List.mem_of_getElem? (i := 172) (by decide +kernel), List.mem_of_getElem? (i := 173) (by decide +kernel)⟩
theorem lw_p2 : lw_okq (⟨"MeteredSheets", "goThrough", "(IZ)I"⟩, 12) := ⟨⟨by decide +kernel, by decide +kernel⟩, List.mem_of_getElem? (i := 11) (by decide +kernel), List.mem_of_getElem? (i := 176) (by decide +kernel), List.mem_of_getElem? (i := 177) (by decide +kernel)⟩
theorem lw_p3 : lw_okq (⟨"MeteredSheets", "readsOneOf", "(I[Z)Z"⟩, 12) := ⟨⟨by decide +kernel, by decide +kernel⟩, List.mem_of_getElem? (i := 11) (by decide +kernel), List.mem_of_getElem? (i := 183) (by decide +kernel), List.mem_of_getElem? (i := 184) (by decide +kernel)⟩
theorem lw_p4 : lw_okq (⟨"MeteredSheets", "compute", "(II)V"⟩, 12) := ⟨⟨by decide +kernel, by decide +kernel⟩, List.mem_of_getElem? (i := 11) (by decide +kernel), List.mem_of_getElem? (i := 190) (by decide +kernel), List.mem_of_getElem? (i := 191) (by decide +kernel)⟩
theorem lw_p5 : lw_okq (⟨"MeteredSheets$Ledger", "paysFor", "(IIII)Z"⟩, 8) := ⟨⟨by decide +kernel, by decide +kernel⟩, List.mem_of_getElem? (i := 19) (by decide +kernel), List.mem_of_getElem? (i := 200) (by decide +kernel), List.mem_of_getElem? (i := 201) (by decide +kernel)⟩
theorem lw_p6 : lw_okq (⟨"MeteredSheets$Ledger", "costOf", "(I)I"⟩, 8) := ⟨⟨by decide +kernel, by decide +kernel⟩, List.mem_of_getElem? (i := 19) (by decide +kernel), List.mem_of_getElem? (i := 205) (by decide +kernel), List.mem_of_getElem? (i := 206) (by decide +kernel)⟩
theorem lw_p7 : lw_okq (⟨"MeteredSheets$Ledger", "enter", "(III)V"⟩, 8) := ⟨⟨by decide +kernel, by decide +kernel⟩, List.mem_of_getElem? (i := 19) (by decide +kernel), List.mem_of_getElem? (i := 210) (by decide +kernel), List.mem_of_getElem? (i := 211) (by decide +kernel)⟩
theorem lw_p8 : lw_okq (⟨"MeteredSheets", "resultOf", "(I[I)I"⟩, 12) := ⟨⟨by decide +kernel, by decide +kernel⟩, List.mem_of_getElem? (i := 11) (by decide +kernel), List.mem_of_getElem? (i := 214) (by decide +kernel), List.mem_of_getElem? (i := 215) (by decide +kernel)⟩
theorem lw_p9 : lw_okq (⟨"MeteredSheets", "giveFormula", "(IIIIII)I"⟩, 12) := ⟨⟨by decide +kernel, by decide +kernel⟩, List.mem_of_getElem? (i := 11) (by decide +kernel), List.mem_of_getElem? (i := 325) (by decide +kernel), List.mem_of_getElem? (i := 326) (by decide +kernel)⟩
theorem lw_p10 : lw_okq (⟨"MeteredSheets", "putInOrder", "()V"⟩, 12) := ⟨⟨by decide +kernel, by decide +kernel⟩, List.mem_of_getElem? (i := 11) (by decide +kernel), List.mem_of_getElem? (i := 329) (by decide +kernel), List.mem_of_getElem? (i := 330) (by decide +kernel)⟩
theorem lw_p11 : lw_okq (⟨"MeteredSheets", "lowestFreeCell", "()I"⟩, 12) := ⟨⟨by decide +kernel, by decide +kernel⟩, List.mem_of_getElem? (i := 11) (by decide +kernel), List.mem_of_getElem? (i := 333) (by decide +kernel), List.mem_of_getElem? (i := 334) (by decide +kernel)⟩
theorem lw_p12 : lw_okq (⟨"MeteredSheets", "isReady", "(I)Z"⟩, 12) := ⟨⟨by decide +kernel, by decide +kernel⟩, List.mem_of_getElem? (i := 11) (by decide +kernel), List.mem_of_getElem? (i := 337) (by decide +kernel), List.mem_of_getElem? (i := 338) (by decide +kernel)⟩
theorem lw_p13 : lw_okq (⟨"MeteredSheets", "wouldReadItself", "(III)Z"⟩, 12) := ⟨⟨by decide +kernel, by decide +kernel⟩, List.mem_of_getElem? (i := 11) (by decide +kernel), List.mem_of_getElem? (i := 346) (by decide +kernel), List.mem_of_getElem? (i := 347) (by decide +kernel)⟩
def lw_privs_1 : List (MethodName × Nat) := [(⟨"java/lang/Throwable", "fillInStackTrace", "(I)Ljava/lang/Throwable;"⟩, 6), (⟨"MeteredSheets", "forgetChanges", "()V"⟩, 12), (⟨"MeteredSheets", "goThrough", "(IZ)I"⟩, 12), (⟨"MeteredSheets", "readsOneOf", "(I[Z)Z"⟩, 12), (⟨"MeteredSheets", "compute", "(II)V"⟩, 12), (⟨"MeteredSheets$Ledger", "paysFor", "(IIII)Z"⟩, 8), (⟨"MeteredSheets$Ledger", "costOf", "(I)I"⟩, 8), (⟨"MeteredSheets$Ledger", "enter", "(III)V"⟩, 8), (⟨"MeteredSheets", "resultOf", "(I[I)I"⟩, 12), (⟨"MeteredSheets", "giveFormula", "(IIIIII)I"⟩, 12), (⟨"MeteredSheets", "putInOrder", "()V"⟩, 12), (⟨"MeteredSheets", "lowestFreeCell", "()I"⟩, 12), (⟨"MeteredSheets", "isReady", "(I)Z"⟩, 12), (⟨"MeteredSheets", "wouldReadItself", "(III)Z"⟩, 12)]
theorem lw_r1 : ∀ q ∈ lw_privs_1, lw_okq q := List.forall_mem_cons.mpr ⟨lw_p0, List.forall_mem_cons.mpr ⟨lw_p1, List.forall_mem_cons.mpr ⟨lw_p2, List.forall_mem_cons.mpr ⟨lw_p3, List.forall_mem_cons.mpr ⟨lw_p4, List.forall_mem_cons.mpr ⟨lw_p5, List.forall_mem_cons.mpr ⟨lw_p6, List.forall_mem_cons.mpr ⟨lw_p7, List.forall_mem_cons.mpr ⟨lw_p8, List.forall_mem_cons.mpr ⟨lw_p9, List.forall_mem_cons.mpr ⟨lw_p10, List.forall_mem_cons.mpr ⟨lw_p11, List.forall_mem_cons.mpr ⟨lw_p12, List.forall_mem_cons.mpr ⟨lw_p13, fun _ h => absurd h List.not_mem_nil⟩⟩⟩⟩⟩⟩⟩⟩⟩⟩⟩⟩⟩⟩
def lw_privs : List (MethodName × Nat) := lw_privs_1
def lw_tbl : List Cond := k2_sels lw_privs ++ tables_1
theorem lw_privs_ok : ∀ q ∈ lw_privs, lw_okq q := lw_r1
/-! ===== BEGIN words of one list among another's, by their places ===== -/
theorem goodIn_r {big : List Cond} (ws : List Cond) (ps : List Nat) (hp : ws = ps.filterMap (fun i => big[i]?)) (h : ws.all goodWord = true) : GoodIn big ws := by
  intro w hw
  have h1 := List.all_eq_true.mp h w hw
  rw [hp] at hw
  obtain ⟨i, -, hi⟩ := List.mem_filterMap.mp hw
  have hm : w ∈ big := by first | exact List.mem_of_getElem? hi | exact List.getElem?_mem hi
  exact ⟨hm, good_of_word h1⟩
theorem goodIn_app {big a b : List Cond} (ha : GoodIn big a) (hb : GoodIn big b) : GoodIn big (a ++ b) := fun w h => (List.mem_append.mp h).elim (ha w) (hb w)
theorem goodIn_ca {big a b : List Cond} {c : Cond} (ha : GoodIn big (c :: a)) (hb : GoodIn big b) : GoodIn big (c :: (a ++ b)) := fun w h => (List.mem_cons.mp h).elim (fun e => ha w (List.mem_cons.mpr (Or.inl e))) (fun h => (List.mem_append.mp h).elim (fun h => ha w (List.mem_cons.mpr (Or.inr h))) (hb w))
theorem goodIn_sub {big ws : List Cond} (hm : ∀ w ∈ ws, w ∈ big) (h : ws.all goodWord = true) : GoodIn big ws := fun w hw => ⟨hm w hw, good_of_word (List.all_eq_true.mp h w hw)⟩
/-! ===== END ===== -/

/-! ===== BEGIN exceptions that leave a method, and their catching by the caller (launches without stack traces) ===== -/
section VXA
/-! The laws vx_back, vx_callV, vx_callS, vx_callSW, vx_throw0, vx_throwS follow proofs of the library, with one case more: JvmDerived/Free/Laws.lean (Back.of_free), Shelf42/LK1.lean (callV, callS), Shelf/KitTraced.lean (throwNew0V, throwNewS). -/
/-- where a method has thrown q: the class by its name, the cell, what was written, the world -/
def vx_T (XC : String → State → State → Prop) (st : State) (q : Addr) (t : State) (mc ms : Nat) (free : Addr → Prop) : Prop :=
  ∃ (E : String) (ce : Cell) (L : List Loc), XC E st t ∧ t.heap[q]? = some ce ∧ ce.vm = .none ∧ st.vm.findClass E = some ce.cls ∧ st.WarmedH t.vm ∧ st.sameButNew ({ t with vm := st.vm } : State) L mc ms ∧ ∀ z ∈ L, free z.base
def vx_Q (Qc : Array Value → State → Outcome → State → Prop) (XC : String → State → State → Prop) (mc ms : Nat) (free : Addr → Prop) : Array Value → State → Outcome → State → Prop := fun a st o t =>
  (Qc a st o t ∧ ∃ L, FrameEnd st o t L mc ms ∧ ∀ q ∈ L, free q.base) ∨ ∃ q, o = .threw q ∧ vx_T XC st q t mc ms free
/-- a callee that returns or throws -/
def vx_Met (l : Launch) (y : MethodName) (ws : List Cond) (rm : Room) (Pc : Array Value → State → Prop) (Qc : Array Value → State → Outcome → State → Prop) (XC : String → State → State → Prop) (mc ms : Nat) (free : Addr → Prop) : Prop :=
  MetFree l y (headSpec ws rm) Pc (fun _ _ _ _ _ => True) (vx_Q Qc XC mc ms free)
def vx_Post (XC : String → State → State → Prop) (mc ms : Nat) (free : Addr → Prop) : Pt → Array Value → Addr → Pt → Prop := fun A a q B =>
  ∃ (g : JFrame) (mk : MethodId) (t : State) (L : List Loc) (E : String) (ce : Cell), B.U.heap = t.heap ∧ B.U.vm = t.vm ∧ XC E (A.U.calling g mk a) t ∧ t.heap[q]? = some ce ∧ ce.vm = .none ∧ A.U.vm.findClass E = some ce.cls ∧ B.locs = A.locs ++ L ∧ (∀ z ∈ L, free z.base) ∧ B.cells = A.cells + mc ∧ B.slots = A.slots + ms
def vx_Back (l : Launch) (R : Room) (p : Program) (e : Env) (below : List Frame) (s : State) (sargs : Array Value) (y : MethodName) (len W9 : Nat)
    (Pre : Pt → Array Value → Prop) (Post : Pt → Array Value → Option Value → Pt → Prop) (PostX : Pt → Array Value → Addr → Pt → Prop) : Prop :=
  ∀ (m : MethodId) (meth : Method) (c : Code) (A : Pt) (g : JFrame) (ig : Instr) (mk : MethodId) (a : Array Value),
    Stand p l e R s m sargs below meth c A.U A.locs A.cells A.slots → g.method = m → g.locals.size = c.maxLocals → decode c.code g.pc = .ok (ig, len) →
    2 * g.monitorRoom + (g.stack.map fun v => v.category).sum ≤ W9 → A.U.methodNamed? y = some mk → Pre A a →
    (∃ (v : Option Value) (B : Pt), Stand p l e R s m sargs below meth c B.U B.locs B.cells B.slots ∧ Post A a v B ∧
      Steps p.tables e below (doInvoke e (A.U.setTop g) [] mk a).1 (B.U.setTop { g with pc := g.pc + len, stack := v.toList ++ g.stack })) ∨
    (∃ (q : Addr) (B : Pt), Stand p l e R s m sargs below meth c B.U B.locs B.cells B.slots ∧ PostX A a q B ∧
      Steps p.tables e below (doInvoke e (A.U.setTop g) [] mk a).1 ((B.U.setTop g).pushFrame (.throwing q)))
section Payer
variable {l : Launch} {R : Room} {p : Program} {e : Env} {below : List Frame} {s : State} {sargs : Array Value} {y : MethodName} {len W9 : Nat}
theorem vx_back {ws : List Cond} {rm : Room} {Pc : Array Value → State → Prop} {Qc : Array Value → State → Outcome → State → Prop} {XC : String → State → State → Prop} {mc ms : Nat} {free : Addr → Prop} {bytes : ByteArray} {maxL : Nat} {ret : Option FieldType}
    (hM : vx_Met l y ws rm Pc Qc XC mc ms free) (hblind : FrameBlind Pc) (hrc : rm.cells = mc) (hrs : rm.slots = ms)
    (hframes : rm.frames + 1 ≤ R.frames) (hlocals : W9 + (maxL + 11) + rm.locals ≤ R.locals)
    (hws : ∀ w ∈ ws, ∀ a' U, s.WarmedH U.vm → w.before a' U = true) (hcode : Cond.code y bytes maxL ret ∈ ws) (hinit : ∀ a' U, s.WarmedH U.vm → (Cond.initialized y.cls).before a' U = true) :
    vx_Back l R p e below s sargs y len W9 (PreOf R mc ms Pc) (PostOf Qc mc ms free) (vx_Post XC mc ms free) := by
  intro m meth c A g ig mk a X hg hsize hdg hW hn hp
  have h1 : (headSpec ws rm).pre.before a A.U = true := atoms_intro fun w hw => hws w hw _ _ X.warmed
  have h2 : (Cond.code y bytes maxL ret).before a A.U = true := hws _ hcode _ _ X.warmed
  have h3 : (Cond.initialized y.cls).before a A.U = true := hinit _ _ X.warmed
  have h4 : A.cells + (headSpec ws rm).room.cells ≤ R.cells := by rw [show (headSpec ws rm).room.cells = mc from hrc]; exact hp.1
  have h5 : A.slots + (headSpec ws rm).room.slots ≤ R.slots := by rw [show (headSpec ws rm).room.slots = ms from hrs]; exact hp.2.1
  have hPc : Pc a (A.U.calling g mk a) := hblind _ _ _ _ hp.2.2
  obtain ⟨U, Ls, c0, s0⟩ := A
  dsimp only [Pt.U, Pt.locs, Pt.cells, Pt.slots] at h1 h2 h3 h4 h5 X hn hPc ⊢
  obtain ⟨methY, cY, hmY, hcY, -, hlY, -, -, -, -⟩ := Cond.code_spec hn h2
  obtain ⟨kY, hkY, -⟩ := className_of_methodNamed hn
  have hinitY : kY.init = .initialized := Cond.initialized_spec (findClass_of_methodNamed hn) hkY h3
  have h : At U g.method c below := by rw [hg]; exact X.here
  have hlocals9 : W9 + (maxL + 11) + (headSpec ws rm).room.locals ≤ R.locals := hlocals
  have happ : (headSpec ws rm).appliesLoose y e.platform (U.calling g mk a) = true :=
    Spec.appliesLoose_calling (g := g) h hdg hn hkY hinitY
      (X.room_calling (g := g) (R' := (headSpec ws rm).room) hsize hmY hcY hframes (by rw [hlY]; omega) h4 h5) h1
  obtain ⟨mid, hmid⟩ := h.above
  have hfr : (U.setTop g).frames = (.java g :: mid) ++ below := by rw [State.frames_setTop' g h.top, hmid]; rfl
  obtain ⟨o, s₂, hsteps, -, hend, hq⟩ := Steps.callFree hM p X.admits X.cas X.clock (acts := []) hfr happ hPc trivial
  have hq' : vx_Q Qc XC mc ms free a (U.calling g mk a) o s₂ := hq
  rw [State.frames_setTop' g h.top] at hend
  obtain ⟨g₀, hg0⟩ := Option.isSome_iff_exists.mp h.top
  obtain ⟨r, hr⟩ := State.topJava?_eq_some.mp hg0
  have hr' : (({ U with heap := s₂.heap, slotsUsed := s₂.slotsUsed } : State).setVm s₂.vm).frames = .java g₀ :: r := hr
  rcases hq' with ⟨hqc, L, hfe, hL⟩ | ⟨q, rfl, E, ce, L, hx, hce, hcv, hcl, hW₂, hsm, hL⟩
  · obtain ⟨⟨v, rfl⟩, hW₂, e2, q2, q3, q4, q5, q6⟩ := id hfe
    have e3 : s₂ = ({ (U.calling g mk a).setFrames s₂.frames with heap := s₂.heap, slotsUsed := s₂.slotsUsed } : State).setVm s₂.vm := by
      have : s₂ = ({ s₂ with vm := (U.calling g mk a).vm } : State).setVm s₂.vm := rfl
      rw [e2] at this
      exact this
    obtain ⟨c₂, i₂, len₂, hc₂, hd₂, hf₂⟩ := hend
    have hW' : U.WarmedH s₂.vm := hW₂
    have hcc : c₂ = c := by
      have h1 : s₂.code? g.method = U.code? g.method := by
        rw [State.code?_eq, State.code?_eq, hW'.alike.method?]
      exact Option.some.inj (hc₂.symm.trans (h1.trans h.code))
    subst hcc
    have hlen : len₂ = len := by rw [hdg] at hd₂; cases hd₂; rfl
    subst hlen
    have hs₂ : s₂ = (({ U with heap := s₂.heap, slotsUsed := s₂.slotsUsed } : State).setVm s₂.vm).setTop { g with pc := g.pc + len₂, stack := v.toList ++ g.stack } := by
      refine e3.trans ?_
      rw [hf₂, State.calling_eq h.top, State.setFrames_setFrames, State.setTop_of_frames _ hr', hr]
      rfl
    have hsame : U.sameButNew ({ U with heap := s₂.heap, slotsUsed := s₂.slotsUsed } : State) L mc ms := by
      refine ⟨?_, q2, q3, q4, q5, q6⟩
      obtain ⟨t, ht, -⟩ := State.frames_cons hr
      show ({ U with heap := s₂.heap, slotsUsed := s₂.slotsUsed } : State) = { U.setFrames U.frames with heap := s₂.heap, slotsUsed := s₂.slotsUsed }
      rw [State.setFrames_self ht]
    subst hg
    refine Or.inl ⟨v, ⟨(({ U with heap := s₂.heap, slotsUsed := s₂.slotsUsed } : State).setVm s₂.vm), Ls ++ L, c0 + mc, s0 + ms⟩,
      ⟨X.admits, X.cas, X.clock, X.frames, X.room, X.hears, X.method, X.code, (X.here.setHeapUsed s₂.heap s₂.slotsUsed).setVm hW'.alike, X.tail, State.WarmedH.trans X.warmed hW', X.limits, X.bytes, X.same.trans (hsame.setVm s.vm)⟩,
      ⟨g, mk, s₂, L, rfl, rfl, hqc, rfl, hL, rfl, rfl⟩, ?_⟩
    show Steps p.tables e below _ ((({ U with heap := s₂.heap, slotsUsed := s₂.slotsUsed } : State).setVm s₂.vm).setTop { g with pc := g.pc + len₂, stack := v.toList ++ g.stack })
    rw [← hs₂]
    exact hsteps
  · obtain ⟨e2, q2, q3, q4, q5, q6⟩ := id hsm
    have e3 : s₂ = ({ (U.calling g mk a).setFrames s₂.frames with heap := s₂.heap, slotsUsed := s₂.slotsUsed } : State).setVm s₂.vm := by
      have : s₂ = ({ s₂ with vm := (U.calling g mk a).vm } : State).setVm s₂.vm := rfl
      rw [e2] at this
      exact this
    have hf₂ : s₂.frames = .throwing q :: .java g :: U.frames.tail := hend
    have hW' : U.WarmedH s₂.vm := hW₂
    have hs₂ : s₂ = ((({ U with heap := s₂.heap, slotsUsed := s₂.slotsUsed } : State).setVm s₂.vm).setTop g).pushFrame (.throwing q) := by
      refine e3.trans ?_
      rw [hf₂, State.calling_eq h.top, State.setFrames_setFrames, State.pushFrame, State.frames_setTop _ hr', State.setTop_of_frames _ hr', State.setFrames_setFrames, hr]
      rfl
    have hsame : U.sameButNew ({ U with heap := s₂.heap, slotsUsed := s₂.slotsUsed } : State) L mc ms := by
      refine ⟨?_, q2, q3, q4, q5, q6⟩
      obtain ⟨t, ht, -⟩ := State.frames_cons hr
      show ({ U with heap := s₂.heap, slotsUsed := s₂.slotsUsed } : State) = { U.setFrames U.frames with heap := s₂.heap, slotsUsed := s₂.slotsUsed }
      rw [State.setFrames_self ht]
    subst hg
    refine Or.inr ⟨q, ⟨(({ U with heap := s₂.heap, slotsUsed := s₂.slotsUsed } : State).setVm s₂.vm), Ls ++ L, c0 + mc, s0 + ms⟩,
      ⟨X.admits, X.cas, X.clock, X.frames, X.room, X.hears, X.method, X.code, (X.here.setHeapUsed s₂.heap s₂.slotsUsed).setVm hW'.alike, X.tail, State.WarmedH.trans X.warmed hW', X.limits, X.bytes, X.same.trans (hsame.setVm s.vm)⟩,
      ⟨g, mk, s₂, L, E, ce, rfl, rfl, hx, hce, hcv, hcl, rfl, hL, rfl, rfl⟩, ?_⟩
    show Steps p.tables e below _ (((({ U with heap := s₂.heap, slotsUsed := s₂.slotsUsed } : State).setVm s₂.vm).setTop g).pushFrame (.throwing q))
    rw [← hs₂]
    exact hsteps
end Payer
section Calls
variable {p : Program} {l : Launch} {e : Env} {R : Room} {s : State} {m : MethodId} {args : Array Value} {below : List Frame} {meth : Method} {c : Code} {T : State} {locs : List Loc} {cells slots : Nat}
theorem vx_callV (X : Stand p l e R s m args below meth c T locs cells slots) (hexec : p.tables.exec = Jvm.exec) {own C : String} {index : Nat} {y : MethodName} {bytes : ByteArray} {maxL : Nat} {ret : Option FieldType}
    (hown : s.vm.findClass own = some m.cls) (hlink : (Cond.methodLink own index y).before args s = true) (hinst : (Cond.instanceMethod y).before args s = true) (hsel : (Cond.selects C y y).before args s = true)
    (hcode : (Cond.code y bytes maxL ret).before args s = true) (hy : y.cls ≠ "java/lang/invoke/MethodHandle" ∧ y.cls ≠ "java/lang/invoke/VarHandle")
    {W9 : Nat} {Pre : Pt → Array Value → Prop} {Post : Pt → Array Value → Option Value → Pt → Prop} {PostX : Pt → Array Value → Addr → Pt → Prop} (hK : vx_Back l R p e below s args y 3 W9 Pre Post PostX)
    {b : Addr} {cellB : Cell} (hcell : T.heap[b]? = some cellB) (hobj : cellB.vm.isStatics = false) (hcls : s.vm.findClass C = some cellB.cls)
    {g : JFrame} (hg : g.method = m) (hsize : g.locals.size = c.maxLocals) {argsL rest : List Value} (hlen : ∀ sig, parseMethodDescriptor y.desc = some sig → argsL.length = sig.parameters.length)
    (hstack : g.stack = argsL.reverse ++ .ref b :: rest) (hW : 2 * g.monitorRoom + (rest.map fun v => v.category).sum ≤ W9) (hdg : decode c.code g.pc = .ok (.invokevirtual index, 3))
    (hpre : ∀ vm₁, s.WarmedH vm₁ → Pre ⟨T.setVm vm₁, locs, cells, slots⟩ (Value.ref b :: argsL).toArray) :
    (∃ (v : Option Value) (vm₁ : Vm) (B : Pt), s.WarmedH vm₁ ∧ Stand p l e R s m args below meth c B.U B.locs B.cells B.slots ∧ Post ⟨T.setVm vm₁, locs, cells, slots⟩ (Value.ref b :: argsL).toArray v B ∧
      ∀ target, Steps p.tables e below (B.U.setTop { g with pc := g.pc + 3, stack := v.toList ++ rest }) target → Steps p.tables e below (T.setTop g) target) ∨
    (∃ (q : Addr) (vm₁ : Vm) (B : Pt), s.WarmedH vm₁ ∧ Stand p l e R s m args below meth c B.U B.locs B.cells B.slots ∧ PostX ⟨T.setVm vm₁, locs, cells, slots⟩ (Value.ref b :: argsL).toArray q B ∧
      Steps p.tables e below (T.setTop g) ((B.U.setTop { g with stack := rest }).pushFrame (.throwing q))) := by
  obtain ⟨mk, methM, hnamed, hmethM, hstM, habM⟩ := Cond.instanceMethod_spec hinst
  obtain ⟨methM', cM, hmethM', -, -, -, -, -, -, hsigM⟩ := Cond.code_spec hnamed hcode
  cases hmethM.symm.trans hmethM'
  obtain ⟨c2, r2, m2, q1, q2, q3, q4, kP, hkP, hkPi⟩ := Cond.selects_spec hsel
  cases hcls.symm.trans q1
  cases (State.methodFound?_of_named hnamed hy).symm.trans q2
  cases hnamed.symm.trans q3
  have hselP : selectMethod e.platform s.vm cellB.cls mk = .method mk := by rw [Launch.admits_selectMethod X.admits]; exact q4
  obtain ⟨vm₁, X₁, hstep₁⟩ := X.invokevirtual hexec hown hlink hnamed hmethM hstM hkP hkPi hy (a := b) (cell := cellB) hcell
    (fun z h => by rw [h] at hobj; cases hobj) hselP hmethM habM hkP hkPi (g := g) hg (argsL := argsL) (rest := rest) (hlen _ hsigM) hstack hdg
  rcases hK m meth c ⟨T.setVm vm₁, locs, cells, slots⟩ { g with stack := rest } (.invokevirtual index) mk (Value.ref b :: argsL).toArray X₁ hg hsize hdg hW (X₁.named hnamed) (hpre vm₁ X₁.warmed) with ⟨v, B, X', hpost, hsteps⟩ | ⟨q, B, X', hpost, hsteps⟩
  · exact Or.inl ⟨v, vm₁, B, X₁.warmed, X', hpost, fun target h => hstep₁ _ fun acts => by rw [doInvoke_state]; exact hsteps.trans h⟩
  · exact Or.inr ⟨q, vm₁, B, X₁.warmed, X', hpost, hstep₁ _ fun acts => by rw [doInvoke_state]; exact hsteps⟩
theorem vx_callS (X : Stand p l e R s m args below meth c T locs cells slots) (hexec : p.tables.exec = Jvm.exec) {own : String} {index : Nat} {y : MethodName} {bytes : ByteArray} {maxL : Nat} {ret : Option FieldType}
    (hown : s.vm.findClass own = some m.cls) (hlink : (Cond.methodLink own index y).before args s = true) (hstat : (Cond.static y).before args s = true) (hinit : (Cond.initialized y.cls).before args s = true)
    (hcode : (Cond.code y bytes maxL ret).before args s = true) (hy : y.cls ≠ "java/lang/invoke/MethodHandle" ∧ y.cls ≠ "java/lang/invoke/VarHandle")
    {W9 : Nat} {Pre : Pt → Array Value → Prop} {Post : Pt → Array Value → Option Value → Pt → Prop} {PostX : Pt → Array Value → Addr → Pt → Prop} (hK : vx_Back l R p e below s args y 3 W9 Pre Post PostX)
    {g : JFrame} (hg : g.method = m) (hsize : g.locals.size = c.maxLocals) {argsL rest : List Value} (hlen : ∀ sig, parseMethodDescriptor y.desc = some sig → argsL.length = sig.parameters.length)
    (hstack : g.stack = argsL.reverse ++ rest) (hW : 2 * g.monitorRoom + (rest.map fun v => v.category).sum ≤ W9) (hdg : decode c.code g.pc = .ok (.invokestatic index, 3))
    (hpre : ∀ vm₁, s.WarmedH vm₁ → Pre ⟨T.setVm vm₁, locs, cells, slots⟩ argsL.toArray) :
    (∃ (v : Option Value) (vm₁ : Vm) (B : Pt), s.WarmedH vm₁ ∧ Stand p l e R s m args below meth c B.U B.locs B.cells B.slots ∧ Post ⟨T.setVm vm₁, locs, cells, slots⟩ argsL.toArray v B ∧
      ∀ target, Steps p.tables e below (B.U.setTop { g with pc := g.pc + 3, stack := v.toList ++ rest }) target → Steps p.tables e below (T.setTop g) target) ∨
    (∃ (q : Addr) (vm₁ : Vm) (B : Pt), s.WarmedH vm₁ ∧ Stand p l e R s m args below meth c B.U B.locs B.cells B.slots ∧ PostX ⟨T.setVm vm₁, locs, cells, slots⟩ argsL.toArray q B ∧
      Steps p.tables e below (T.setTop g) ((B.U.setTop { g with stack := rest }).pushFrame (.throwing q))) := by
  obtain ⟨mk, hnamed⟩ := Cond.code_named hcode
  obtain ⟨methM, cM, hmethM, -, -, -, -, -, -, hsigM⟩ := Cond.code_spec hnamed hcode
  have hstatic : methM.isStatic = true := Cond.static_spec hnamed hmethM hstat
  obtain ⟨kP, hkP, -⟩ := className_of_methodNamed hnamed
  have hinitP : kP.init = .initialized := Cond.initialized_spec (findClass_of_methodNamed hnamed) hkP hinit
  obtain ⟨vm₁, X₁, hstep₁⟩ := X.invokestatic hexec hown hlink hnamed hmethM hstatic hkP hinitP hy (g := g) hg (argsL := argsL) (rest := rest) (hlen _ hsigM) hstack hdg
  rcases hK m meth c ⟨T.setVm vm₁, locs, cells, slots⟩ { g with stack := rest } (.invokestatic index) mk argsL.toArray X₁ hg hsize hdg hW (X₁.named hnamed) (hpre vm₁ X₁.warmed) with ⟨v, B, X', hpost, hsteps⟩ | ⟨q, B, X', hpost, hsteps⟩
  · exact Or.inl ⟨v, vm₁, B, X₁.warmed, X', hpost, fun target h => hstep₁ _ fun acts => by rw [doInvoke_state]; exact hsteps.trans h⟩
  · exact Or.inr ⟨q, vm₁, B, X₁.warmed, X', hpost, hstep₁ _ fun acts => by rw [doInvoke_state]; exact hsteps⟩
end Calls
theorem vx_cls {s : State} {T : State} {vm₁ : Vm} {E : String} {k : ClassId} (hW : s.WarmedH vm₁) (h : (T.setVm vm₁).vm.findClass E = some k) : s.vm.findClass E = some k := by
  have h1 : vm₁.findClass E = some k := h
  rw [hW.alike.findClass] at h1
  exact h1
/-- the method's frame g, with q thrown over it -/
def vx_W (p : Program) (l : Launch) (e : Env) (R : Room) (s : State) (m : MethodId) (args : Array Value) (below : List Frame) (meth : Method) (c : Code) (H : Heap) (locs : List Loc) (cells slots : Nat) (Q : State → Prop) (g : JFrame) (q : Addr) : Prop :=
  ∀ T : State, T.heap = H → Stand p l e R s m args below meth c T locs cells slots → ∃ t, Steps p.tables e below ((T.setTop g).pushFrame (.throwing q)) t ∧ Q t
def vx_Run (p : Program) (l : Launch) (e : Env) (R : Room) (s : State) (m : MethodId) (args : Array Value) (below : List Frame) (meth : Method) (c : Code) (H : Heap) (locs : List Loc) (cells slots mc ms : Nat) (g : JFrame) (rest : List Value) (Qa : State → Outcome → State → Prop) (XC : String → State → State → Prop) (free : Addr → Prop) : Prop :=
  ∀ T : State, T.heap = H → Stand p l e R s m args below meth c T locs cells slots →
    (∃ (v : Option Value) (st₀ t T' : State) (L : List Loc), st₀.heap = H ∧ Stand p l e R s m args below meth c T' (locs ++ L) (cells + mc) (slots + ms) ∧ (∀ q ∈ L, free q.base) ∧ T'.heap = t.heap ∧ T'.vm = t.vm ∧ Qa st₀ (.returned v) t ∧
      Goes p e below T g T' { g with pc := g.pc + 3, stack := v.toList ++ rest }) ∨
    (∃ (q : Addr) (st₀ t T' : State) (L : List Loc) (E : String) (ce : Cell), st₀.heap = H ∧ Stand p l e R s m args below meth c T' (locs ++ L) (cells + mc) (slots + ms) ∧ (∀ z ∈ L, free z.base) ∧ T'.heap = t.heap ∧ T'.vm = t.vm ∧ XC E st₀ t ∧ t.heap[q]? = some ce ∧ ce.vm = .none ∧ s.vm.findClass E = some ce.cls ∧
      Steps p.tables e below (T.setTop g) ((T'.setTop { g with stack := rest }).pushFrame (.throwing q)))
def vx_X {S : Type} (px : S → Prop) (B : String → S → State → Prop) (A : Nat → Prop) : String → State → State → Prop := fun E st t => ∃ u : S, px u ∧ B E u t ∧ va_F A st t
section Runs
variable {p : Program} {l : Launch} {e : Env} {R : Room} {s : State} {m : MethodId} {args : Array Value} {below : List Frame} {meth : Method} {c : Code} {H : Heap} {locs : List Loc} {cells slots : Nat}
variable {y : MethodName} {bytes cc : ByteArray} {maxL nL mc ms n index : Nat} {ret : Option FieldType} {ws : List Cond} {rm : Room} {Pc : Array Value → State → Prop} {Qc : Array Value → State → Outcome → State → Prop} {XC : String → State → State → Prop} {free : Addr → Prop} {Ts : List Cond} {own C : String} {b : Addr} {As rest : List Value} {g : JFrame}
theorem vx_callBack (cb : CallB R s args own index y bytes maxL ret ws rm mc ms n) (hM : vx_Met l y ws rm Pc Qc XC mc ms free) (hbl : FrameBlind Pc) : vx_Back l R p e below s args y 3 8 (PreOf R mc ms Pc) (PostOf Qc mc ms free) (vx_Post XC mc ms free) := by
  obtain ⟨hrc, hrs, hfr, hlo, hws, hcw, -, hini, -⟩ := cb
  exact vx_back (bytes := bytes) (maxL := maxL) (ret := ret) hM hbl hrc hrs hfr hlo hws hcw (fun a' U hW => word_at hW (Or.inl (by first | rfl | simp [Cond.onTables, Cond.keeps, Cond.steady])) hini)
theorem vx_runV (S : CallFix p m c cc nL s args Ts own) (hM : vx_Met l y ws rm Pc Qc XC mc ms free) (cw : CallW R s args own C index y bytes maxL ret ws rm mc ms n) (hp : PreV s H C b Pc As)
    (hg : g.method = m) (hn : As.length = n) (hsize : g.locals.size = nL) (hstack : g.stack = As.reverse ++ .ref b :: rest) (hW : 2 * g.monitorRoom + (rest.map fun v => v.category).sum ≤ 8) (hdg : decode cc g.pc = .ok (.invokevirtual index, 3)) (hf : cells + mc ≤ R.cells ∧ slots + ms ≤ R.slots) :
    vx_Run p l e R s m args below meth c H locs cells slots mc ms g rest (Qc (Value.ref b :: As).toArray) XC free := by
  have hK : vx_Back l R p e below s args y 3 8 (PreOf R mc ms Pc) (PostOf Qc mc ms free) (vx_Post XC mc ms free) := vx_callBack cw.1 hM hp.1
  obtain ⟨⟨-, -, -, -, -, -, hcode, -, hy, hlen, hl⟩, hin, hse⟩ := cw
  obtain ⟨hx, hb, hml, ho, -⟩ := S
  obtain ⟨-, ⟨cellB, hcB, hoB, hclB⟩, hPc⟩ := hp
  intro T hT X
  rcases vx_callV X hx (C := C) (bytes := bytes) (maxL := maxL) (ret := ret) ho hl hin hse hcode hy hK (by rw [hT]; exact hcB) hoB hclB hg (hsize.trans hml.symm) (argsL := As) (rest := rest) (fun sig h => hn.trans (hlen sig h)) hstack hW (by rw [hb]; exact hdg)
    (fun vm₁ hW₁ => ⟨hf.1, hf.2, hPc (T.setVm vm₁) hT hW₁⟩) with ⟨v, vm₁, ⟨U', l2, c2, s2⟩, hW₁, X', ⟨g', mk, t, L, e1, e2, hq, h1, hL, h2, h3⟩, st⟩ | ⟨q, vm₁, ⟨U', l2, c2, s2⟩, hW₁, X', ⟨g', mk, t, L, E, ce, e1, e2, hq, hce, hcv, hcl, h1, hL, h2, h3⟩, st⟩
  · dsimp only [Pt.U, Pt.locs, Pt.cells, Pt.slots] at X' e1 e2 h1 h2 h3 st
    subst h1; subst h2; subst h3
    exact Or.inl ⟨v, (T.setVm vm₁).calling g' mk (Value.ref b :: As).toArray, t, U', L, hT, X', hL, e1, e2, hq, st⟩
  · dsimp only [Pt.U, Pt.locs, Pt.cells, Pt.slots] at X' e1 e2 h1 h2 h3 st hcl
    subst h1; subst h2; subst h3
    exact Or.inr ⟨q, (T.setVm vm₁).calling g' mk (Value.ref b :: As).toArray, t, U', L, E, ce, hT, X', hL, e1, e2, hq, hce, hcv, vx_cls hW₁ hcl, st⟩
theorem vx_runS (S : CallFix p m c cc nL s args Ts own) (hM : vx_Met l y ws rm Pc Qc XC mc ms free) (cw : CallB R s args own index y bytes maxL ret ws rm mc ms n ∧ (Cond.static y).before args s = true) (hp : PreS s H Pc As)
    (hg : g.method = m) (hn : As.length = n) (hsize : g.locals.size = nL) (hstack : g.stack = As.reverse ++ rest) (hW : 2 * g.monitorRoom + (rest.map fun v => v.category).sum ≤ 8) (hdg : decode cc g.pc = .ok (.invokestatic index, 3)) (hf : cells + mc ≤ R.cells ∧ slots + ms ≤ R.slots) :
    vx_Run p l e R s m args below meth c H locs cells slots mc ms g rest (Qc As.toArray) XC free := by
  have hK : vx_Back l R p e below s args y 3 8 (PreOf R mc ms Pc) (PostOf Qc mc ms free) (vx_Post XC mc ms free) := vx_callBack cw.1 hM hp.1
  obtain ⟨⟨-, -, -, -, -, -, hcode, hini, hy, hlen, hl⟩, hstt⟩ := cw
  obtain ⟨hx, hb, hml, ho, -⟩ := S
  intro T hT X
  rcases vx_callS X hx (bytes := bytes) (maxL := maxL) (ret := ret) ho hl hstt hini hcode hy hK hg (hsize.trans hml.symm) (argsL := As) (rest := rest) (fun sig h => hn.trans (hlen sig h)) hstack hW (by rw [hb]; exact hdg)
    (fun vm₁ hW₁ => ⟨hf.1, hf.2, hp.2 (T.setVm vm₁) hT hW₁⟩) with ⟨v, vm₁, ⟨U', l2, c2, s2⟩, hW₁, X', ⟨g', mk, t, L, e1, e2, hq, h1, hL, h2, h3⟩, st⟩ | ⟨q, vm₁, ⟨U', l2, c2, s2⟩, hW₁, X', ⟨g', mk, t, L, E, ce, e1, e2, hq, hce, hcv, hcl, h1, hL, h2, h3⟩, st⟩
  · dsimp only [Pt.U, Pt.locs, Pt.cells, Pt.slots] at X' e1 e2 h1 h2 h3 st
    subst h1; subst h2; subst h3
    exact Or.inl ⟨v, (T.setVm vm₁).calling g' mk As.toArray, t, U', L, hT, X', hL, e1, e2, hq, st⟩
  · dsimp only [Pt.U, Pt.locs, Pt.cells, Pt.slots] at X' e1 e2 h1 h2 h3 st hcl
    subst h1; subst h2; subst h3
    exact Or.inr ⟨q, (T.setVm vm₁).calling g' mk As.toArray, t, U', L, E, ce, hT, X', hL, e1, e2, hq, hce, hcv, vx_cls hW₁ hcl, st⟩
end Runs
section Rows
variable {p : Program} {l : Launch} {e : Env} {R : Room} {s : State} {m : MethodId} {args : Array Value} {below : List Frame} {meth : Method} {c : Code} {H : Heap} {locs : List Loc} {cells slots : Nat} {Q : State → Prop}
variable {mc ms : Nat} {free : Addr → Prop} {A0 A1 : Nat → Prop} {H0 : Heap} {a : Array Value} {pc : Nat} {ls : Array Slot} {st0 rest : List Value}
theorem vx_keep {st₀ t T' : State} {L : List Loc} (h0 : st₀.heap = H) (e1 : T'.heap = t.heap) (hS : va_S A0 H0 H locs) (hA : ∀ q, q < H.size → A1 q → A0 q) (hf : ∀ q, free q → A0 q) (hL : ∀ q ∈ L, free q.base) (hF : va_F A1 st₀ t) :
    H.size ≤ T'.heap.size ∧ (∀ q : Nat, q < H.size → ¬ A1 q → T'.heap[q]? = H[q]?) ∧ va_S A0 H0 T'.heap (locs ++ L) := by
  obtain ⟨hz, hk⟩ := hF
  rw [h0] at hz hk
  exact ⟨by rw [e1]; exact hz, fun q h1 h2 => by rw [e1]; exact hk q h1 h2,
    ⟨Nat.le_trans hS.1 (by rw [e1]; exact hz), fun q h1 h2 => by rw [e1, hk q (Nat.lt_of_lt_of_le h1 hS.1) (fun z => h2 (hA q (Nat.lt_of_lt_of_le h1 hS.1) z))]; exact hS.2.1 q h1 h2, fun q hq => by
      rcases List.mem_append.mp hq with h | h
      · exact hS.2.2 q h
      · exact hf _ (hL q h)⟩⟩
theorem vx_calli {S SX : Type} {post : Int32 → S → Prop} {px : SX → Prop} {B : S → State → Prop} {BX : String → SX → State → Prop} {AX : Nat → Prop} (hr : vx_Run p l e R s m args below meth c H locs cells slots mc ms (F0 m pc ls st0) rest (va_Qi post B A1 a) (vx_X px BX AX) free) (hS : va_S A0 H0 H locs) (hA : ∀ q, q < H.size → A1 q → A0 q) (hf : ∀ q, free q → A0 q) (hAX : ∀ q, q < H.size → AX q → A0 q)
    (kx : ∀ (E : String) (ce : Cell) (q9 : Addr) (u : SX) (t : State) (H1 : Heap) (locs1 : List Loc), t.heap = H1 → s.vm.Alike t.vm → px u → BX E u t → H.size ≤ H1.size → (∀ q : Nat, q < H.size → ¬ AX q → H1[q]? = H[q]?) → va_S A0 H0 H1 locs1 → H1[q9]? = some ce → ce.vm = .none → s.vm.findClass E = some ce.cls → vx_W p l e R s m args below meth c H1 locs1 (cells + mc) (slots + ms) Q (F0 m pc ls rest) q9)
    (kk : ∀ (r : Int32) (u : S) (t : State) (H1 : Heap) (locs1 : List Loc), t.heap = H1 → s.vm.Alike t.vm → post r u → B u t → H.size ≤ H1.size → (∀ q : Nat, q < H.size → ¬ A1 q → H1[q]? = H[q]?) → va_S A0 H0 H1 locs1 → W p l e R s m args below meth c H1 locs1 (cells + mc) (slots + ms) Q (F0 m (pc + 3) ls (.int r :: rest))) : W p l e R s m args below meth c H locs cells slots Q (F0 m pc ls st0) := by
  intro T hT X
  rcases hr T hT X with ⟨v, st₀, t, T', L, h0, X', hL, e1, e2, ⟨⟨r, u, hv, hp, hb⟩, hF⟩, st⟩ | ⟨q, st₀, t, T', L, E, ce, h0, X', hL, e1, e2, ⟨u, hp, hb, hF⟩, hce, hcv, hcl, st⟩
  · cases hv
    obtain ⟨k1, k2, k3⟩ := vx_keep h0 e1 hS hA hf hL hF
    obtain ⟨t2, a1, b1⟩ := kk r u t T'.heap (locs ++ L) e1.symm (by rw [← e2]; exact X'.warmed.alike) hp hb k1 k2 k3 T' rfl X'
    exact ⟨t2, st t2 a1, b1⟩
  · obtain ⟨k1, k2, k3⟩ := vx_keep h0 e1 hS hAX hf hL hF
    obtain ⟨t2, a1, b1⟩ := kx E ce q u t T'.heap (locs ++ L) e1.symm (by rw [← e2]; exact X'.warmed.alike) hp hb k1 k2 k3 (by rw [e1]; exact hce) hcv hcl T' rfl X'
    exact ⟨t2, st.trans a1, b1⟩
theorem vx_calll {S SX : Type} {post : Int64 → S → Prop} {px : SX → Prop} {B : S → State → Prop} {BX : String → SX → State → Prop} {AX : Nat → Prop} (hr : vx_Run p l e R s m args below meth c H locs cells slots mc ms (F0 m pc ls st0) rest (va_Ql post B A1 a) (vx_X px BX AX) free) (hS : va_S A0 H0 H locs) (hA : ∀ q, q < H.size → A1 q → A0 q) (hf : ∀ q, free q → A0 q) (hAX : ∀ q, q < H.size → AX q → A0 q)
    (kx : ∀ (E : String) (ce : Cell) (q9 : Addr) (u : SX) (t : State) (H1 : Heap) (locs1 : List Loc), t.heap = H1 → s.vm.Alike t.vm → px u → BX E u t → H.size ≤ H1.size → (∀ q : Nat, q < H.size → ¬ AX q → H1[q]? = H[q]?) → va_S A0 H0 H1 locs1 → H1[q9]? = some ce → ce.vm = .none → s.vm.findClass E = some ce.cls → vx_W p l e R s m args below meth c H1 locs1 (cells + mc) (slots + ms) Q (F0 m pc ls rest) q9)
    (kk : ∀ (r : Int64) (u : S) (t : State) (H1 : Heap) (locs1 : List Loc), t.heap = H1 → s.vm.Alike t.vm → post r u → B u t → H.size ≤ H1.size → (∀ q : Nat, q < H.size → ¬ A1 q → H1[q]? = H[q]?) → va_S A0 H0 H1 locs1 → W p l e R s m args below meth c H1 locs1 (cells + mc) (slots + ms) Q (F0 m (pc + 3) ls (.long r :: rest))) : W p l e R s m args below meth c H locs cells slots Q (F0 m pc ls st0) := by
  intro T hT X
  rcases hr T hT X with ⟨v, st₀, t, T', L, h0, X', hL, e1, e2, ⟨⟨r, u, hv, hp, hb⟩, hF⟩, st⟩ | ⟨q, st₀, t, T', L, E, ce, h0, X', hL, e1, e2, ⟨u, hp, hb, hF⟩, hce, hcv, hcl, st⟩
  · cases hv
    obtain ⟨k1, k2, k3⟩ := vx_keep h0 e1 hS hA hf hL hF
    obtain ⟨t2, a1, b1⟩ := kk r u t T'.heap (locs ++ L) e1.symm (by rw [← e2]; exact X'.warmed.alike) hp hb k1 k2 k3 T' rfl X'
    exact ⟨t2, st t2 a1, b1⟩
  · obtain ⟨k1, k2, k3⟩ := vx_keep h0 e1 hS hAX hf hL hF
    obtain ⟨t2, a1, b1⟩ := kx E ce q u t T'.heap (locs ++ L) e1.symm (by rw [← e2]; exact X'.warmed.alike) hp hb k1 k2 k3 (by rw [e1]; exact hce) hcv hcl T' rfl X'
    exact ⟨t2, st.trans a1, b1⟩
theorem vx_callf {S SX : Type} {post : UInt32 → S → Prop} {px : SX → Prop} {B : S → State → Prop} {BX : String → SX → State → Prop} {AX : Nat → Prop} (hr : vx_Run p l e R s m args below meth c H locs cells slots mc ms (F0 m pc ls st0) rest (va_Qf post B A1 a) (vx_X px BX AX) free) (hS : va_S A0 H0 H locs) (hA : ∀ q, q < H.size → A1 q → A0 q) (hf : ∀ q, free q → A0 q) (hAX : ∀ q, q < H.size → AX q → A0 q)
    (kx : ∀ (E : String) (ce : Cell) (q9 : Addr) (u : SX) (t : State) (H1 : Heap) (locs1 : List Loc), t.heap = H1 → s.vm.Alike t.vm → px u → BX E u t → H.size ≤ H1.size → (∀ q : Nat, q < H.size → ¬ AX q → H1[q]? = H[q]?) → va_S A0 H0 H1 locs1 → H1[q9]? = some ce → ce.vm = .none → s.vm.findClass E = some ce.cls → vx_W p l e R s m args below meth c H1 locs1 (cells + mc) (slots + ms) Q (F0 m pc ls rest) q9)
    (kk : ∀ (r : UInt32) (u : S) (t : State) (H1 : Heap) (locs1 : List Loc), t.heap = H1 → s.vm.Alike t.vm → post r u → B u t → H.size ≤ H1.size → (∀ q : Nat, q < H.size → ¬ A1 q → H1[q]? = H[q]?) → va_S A0 H0 H1 locs1 → W p l e R s m args below meth c H1 locs1 (cells + mc) (slots + ms) Q (F0 m (pc + 3) ls (.float r :: rest))) : W p l e R s m args below meth c H locs cells slots Q (F0 m pc ls st0) := by
  intro T hT X
  rcases hr T hT X with ⟨v, st₀, t, T', L, h0, X', hL, e1, e2, ⟨⟨r, u, hv, hp, hb⟩, hF⟩, st⟩ | ⟨q, st₀, t, T', L, E, ce, h0, X', hL, e1, e2, ⟨u, hp, hb, hF⟩, hce, hcv, hcl, st⟩
  · cases hv
    obtain ⟨k1, k2, k3⟩ := vx_keep h0 e1 hS hA hf hL hF
    obtain ⟨t2, a1, b1⟩ := kk r u t T'.heap (locs ++ L) e1.symm (by rw [← e2]; exact X'.warmed.alike) hp hb k1 k2 k3 T' rfl X'
    exact ⟨t2, st t2 a1, b1⟩
  · obtain ⟨k1, k2, k3⟩ := vx_keep h0 e1 hS hAX hf hL hF
    obtain ⟨t2, a1, b1⟩ := kx E ce q u t T'.heap (locs ++ L) e1.symm (by rw [← e2]; exact X'.warmed.alike) hp hb k1 k2 k3 (by rw [e1]; exact hce) hcv hcl T' rfl X'
    exact ⟨t2, st.trans a1, b1⟩
theorem vx_calld {S SX : Type} {post : UInt64 → S → Prop} {px : SX → Prop} {B : S → State → Prop} {BX : String → SX → State → Prop} {AX : Nat → Prop} (hr : vx_Run p l e R s m args below meth c H locs cells slots mc ms (F0 m pc ls st0) rest (va_Qd post B A1 a) (vx_X px BX AX) free) (hS : va_S A0 H0 H locs) (hA : ∀ q, q < H.size → A1 q → A0 q) (hf : ∀ q, free q → A0 q) (hAX : ∀ q, q < H.size → AX q → A0 q)
    (kx : ∀ (E : String) (ce : Cell) (q9 : Addr) (u : SX) (t : State) (H1 : Heap) (locs1 : List Loc), t.heap = H1 → s.vm.Alike t.vm → px u → BX E u t → H.size ≤ H1.size → (∀ q : Nat, q < H.size → ¬ AX q → H1[q]? = H[q]?) → va_S A0 H0 H1 locs1 → H1[q9]? = some ce → ce.vm = .none → s.vm.findClass E = some ce.cls → vx_W p l e R s m args below meth c H1 locs1 (cells + mc) (slots + ms) Q (F0 m pc ls rest) q9)
    (kk : ∀ (r : UInt64) (u : S) (t : State) (H1 : Heap) (locs1 : List Loc), t.heap = H1 → s.vm.Alike t.vm → post r u → B u t → H.size ≤ H1.size → (∀ q : Nat, q < H.size → ¬ A1 q → H1[q]? = H[q]?) → va_S A0 H0 H1 locs1 → W p l e R s m args below meth c H1 locs1 (cells + mc) (slots + ms) Q (F0 m (pc + 3) ls (.double r :: rest))) : W p l e R s m args below meth c H locs cells slots Q (F0 m pc ls st0) := by
  intro T hT X
  rcases hr T hT X with ⟨v, st₀, t, T', L, h0, X', hL, e1, e2, ⟨⟨r, u, hv, hp, hb⟩, hF⟩, st⟩ | ⟨q, st₀, t, T', L, E, ce, h0, X', hL, e1, e2, ⟨u, hp, hb, hF⟩, hce, hcv, hcl, st⟩
  · cases hv
    obtain ⟨k1, k2, k3⟩ := vx_keep h0 e1 hS hA hf hL hF
    obtain ⟨t2, a1, b1⟩ := kk r u t T'.heap (locs ++ L) e1.symm (by rw [← e2]; exact X'.warmed.alike) hp hb k1 k2 k3 T' rfl X'
    exact ⟨t2, st t2 a1, b1⟩
  · obtain ⟨k1, k2, k3⟩ := vx_keep h0 e1 hS hAX hf hL hF
    obtain ⟨t2, a1, b1⟩ := kx E ce q u t T'.heap (locs ++ L) e1.symm (by rw [← e2]; exact X'.warmed.alike) hp hb k1 k2 k3 (by rw [e1]; exact hce) hcv hcl T' rfl X'
    exact ⟨t2, st.trans a1, b1⟩
theorem vx_callv {S SX : Type} {post : S → Prop} {px : SX → Prop} {B : S → State → Prop} {BX : String → SX → State → Prop} {AX : Nat → Prop} (hr : vx_Run p l e R s m args below meth c H locs cells slots mc ms (F0 m pc ls st0) rest (va_Qv post B A1 a) (vx_X px BX AX) free) (hS : va_S A0 H0 H locs) (hA : ∀ q, q < H.size → A1 q → A0 q) (hf : ∀ q, free q → A0 q) (hAX : ∀ q, q < H.size → AX q → A0 q)
    (kx : ∀ (E : String) (ce : Cell) (q9 : Addr) (u : SX) (t : State) (H1 : Heap) (locs1 : List Loc), t.heap = H1 → s.vm.Alike t.vm → px u → BX E u t → H.size ≤ H1.size → (∀ q : Nat, q < H.size → ¬ AX q → H1[q]? = H[q]?) → va_S A0 H0 H1 locs1 → H1[q9]? = some ce → ce.vm = .none → s.vm.findClass E = some ce.cls → vx_W p l e R s m args below meth c H1 locs1 (cells + mc) (slots + ms) Q (F0 m pc ls rest) q9)
    (kk : ∀ (u : S) (t : State) (H1 : Heap) (locs1 : List Loc), t.heap = H1 → s.vm.Alike t.vm → post u → B u t → H.size ≤ H1.size → (∀ q : Nat, q < H.size → ¬ A1 q → H1[q]? = H[q]?) → va_S A0 H0 H1 locs1 → W p l e R s m args below meth c H1 locs1 (cells + mc) (slots + ms) Q (F0 m (pc + 3) ls (rest))) : W p l e R s m args below meth c H locs cells slots Q (F0 m pc ls st0) := by
  intro T hT X
  rcases hr T hT X with ⟨v, st₀, t, T', L, h0, X', hL, e1, e2, ⟨⟨u, hv, hp, hb⟩, hF⟩, st⟩ | ⟨q, st₀, t, T', L, E, ce, h0, X', hL, e1, e2, ⟨u, hp, hb, hF⟩, hce, hcv, hcl, st⟩
  · cases hv
    obtain ⟨k1, k2, k3⟩ := vx_keep h0 e1 hS hA hf hL hF
    obtain ⟨t2, a1, b1⟩ := kk u t T'.heap (locs ++ L) e1.symm (by rw [← e2]; exact X'.warmed.alike) hp hb k1 k2 k3 T' rfl X'
    exact ⟨t2, st t2 a1, b1⟩
  · obtain ⟨k1, k2, k3⟩ := vx_keep h0 e1 hS hAX hf hL hF
    obtain ⟨t2, a1, b1⟩ := kx E ce q u t T'.heap (locs ++ L) e1.symm (by rw [← e2]; exact X'.warmed.alike) hp hb k1 k2 k3 (by rw [e1]; exact hce) hcv hcl T' rfl X'
    exact ⟨t2, st.trans a1, b1⟩
/-- caught by the row x of this method's table; the rows ahead don't take it -/
theorem vx_catch {own name : String} {E : String} {ce : Cell} {q : Addr} (hown : s.vm.findClass own = some m.cls) (pre : List ExceptionTableEntry) (x : ExceptionTableEntry) (suf : List ExceptionTableEntry) (hsplit : c.exceptionTable.toList = pre ++ x :: suf)
    (hpass : ∀ z ∈ pre, covers z pc = false ∨ (z.catchType ≠ 0 ∧ ∃ nm : String, (Cond.classLink own z.catchType nm).before args s = true ∧ va_Nc E nm s)) (hx : covers x pc = true) (h0 : x.catchType ≠ 0)
    (hlink : (Cond.classLink own x.catchType name).before args s = true) (hcast : (Cond.castable E name).before args s = true) (hcell : H[q]? = some ce) (hv : ce.vm = .none) (hcl : s.vm.findClass E = some ce.cls)
    (kk : W p l e R s m args below meth c H locs cells slots Q (F0 m x.handlerPc ls [.ref q])) : vx_W p l e R s m args below meth c H locs cells slots Q (F0 m pc ls rest) q := by
  intro T hT X
  have hpl : e.platform.magicAccessors = ({} : Platform).magicAccessors := by rw [X.admits.platform]
  obtain ⟨c3, c4, hc3, hc4, hasg⟩ := Cond.castable_spec hcast
  cases Option.some.inj (hc3.symm.trans hcl)
  obtain ⟨c5, hc5, hcl5⟩ := Cond.classLink_spec hown hlink e.platform hpl
  cases Option.some.inj (hc4.symm.trans hc5)
  obtain ⟨vm', X', st⟩ := X.thenCaughtThrough q (g := F0 m pc ls rest) rfl (Steps.refl _) (by rw [hT]; exact hcell) (by rw [hv]; rfl) (by obtain ⟨k9, h9, -⟩ := Vm.findClass_spec hcl; exact ⟨k9, h9⟩) pre x suf hsplit
    (fun z hz => by
      rcases hpass z hz with h | ⟨hz0, nm, hl1, hn1⟩
      · exact Or.inl h
      · obtain ⟨c6, hc6, hcl6⟩ := Cond.classLink_spec hown hl1 e.platform hpl
        obtain ⟨a8, b8, h1, h2, h3⟩ := hn1
        cases Option.some.inj (h1.symm.trans hcl)
        cases Option.some.inj (h2.symm.trans hc6)
        exact Or.inr ⟨hz0, _, hcl6, h3⟩) hx (Or.inr ⟨h0, c4, hcl5, hasg⟩)
  obtain ⟨t, a1, b1⟩ := kk (T.setVm vm') hT X'
  exact ⟨t, st.trans a1, b1⟩
end Rows
section Ends
variable {p : Program} {l : Launch} {e : Env} {R : Room} {s : State} {m : MethodId} {args : Array Value} {below : List Frame} {meth : Method} {c : Code} {H : Heap} {locs : List Loc} {cells slots : Nat} {Q : State → Prop}
variable {mc ms : Nat} {free : Addr → Prop} {A0 A1 : Nat → Prop} {H0 : Heap} {a : Array Value} {ls : Array Slot} {st0 rest : List Value}
variable {Qc : Array Value → State → Outcome → State → Prop} {XC : String → State → State → Prop}
/-- what a body that may throw owes at its end -/
def vx_MQ (below : List Frame) (Qc : Array Value → State → Outcome → State → Prop) (XC : String → State → State → Prop) (a : Array Value) (s : State) (mc ms : Nat) (free : Addr → Prop) : State → Prop := fun t =>
  ∃ o, t.status = .running ∧ Ended t below o ∧ vx_Q Qc XC mc ms free a s o t
theorem vx_ret {g : JFrame} {mc ms : Nat} (k : W p l e R s m args below meth c H locs cells slots (MQ below Qc args s mc ms free) g) : W p l e R s m args below meth c H locs cells slots (vx_MQ below Qc XC args s mc ms free) g := by
  intro T hT X
  obtain ⟨t, a1, o, b1, b2, b3, b4⟩ := k T hT X
  exact ⟨t, a1, o, b1, b2, Or.inl ⟨b3, b4⟩⟩
/-- not caught here: it goes on to the caller -/
theorem vx_widen {g : JFrame} {q : Addr} {k n : Nat} (h1 : cells ≤ k) (h2 : slots ≤ n) (kk : vx_W p l e R s m args below meth c H locs k n Q g q) : vx_W p l e R s m args below meth c H locs cells slots Q g q := fun T hT X => kk T hT (stand_widen X h1 h2)
theorem vx_out {pc : Nat} {E : String} {ce : Cell} {q : Addr} {mc ms : Nat} (hout : ∀ x ∈ c.exceptionTable.toList, covers x pc = false) (hlocks : meth.locks = false) (hcell : H[q]? = some ce) (hv : ce.vm = .none) (hcl : s.vm.findClass E = some ce.cls)
    (hx : ∀ t : State, t.heap = H → s.vm.Alike t.vm → XC E s t) (hf : ∀ z ∈ locs, free z.base) (hc : cells ≤ mc) (hs : slots ≤ ms) :
    vx_W p l e R s m args below meth c H locs cells slots (vx_MQ below Qc XC args s mc ms free) (F0 m pc ls rest) q := by
  intro T hT X
  obtain ⟨st1, hrun, hend, hW, hsm⟩ := X.leaveThrown q (g := F0 m pc ls rest) rfl rfl rfl hout hlocks
  have hcell9 : (T.setFrames (.throwing q :: below)).heap[q]? = some ce := by
    show T.heap[q]? = some ce
    rw [hT]; exact hcell
  exact ⟨_, st1, .threw q, hrun, hend, Or.inr ⟨q, rfl, E, ce, locs, hx _ hT hW.alike, hcell9, hv, hcl, hW, hsm.mono hc hs, hf⟩⟩
theorem vx_frame {U : State} {k n : Nat} (h : s.sameButNew ({ U with vm := s.vm } : State) locs k n) : s.heap.size ≤ U.heap.size ∧ ∀ q : Nat, q < s.heap.size → (∀ z ∈ locs, z.base ≠ q) → U.heap[q]? = s.heap[q]? := by
  obtain ⟨-, h2, -, -, -, h6⟩ := h
  refine ⟨h2, fun q hq hz => ?_⟩
  obtain ⟨c9, e1, e2, e3, e4⟩ := h6 q _ (Array.getElem?_eq_getElem hq)
  have hs : c9.slots = (s.heap[q]).slots := Array.ext_getElem? fun i => e4 i fun hm => hz _ hm rfl
  have h9 : c9 = s.heap[q] := by
    rw [hs] at e2
    exact e2
  have e5 : U.heap[q]? = some c9 := e1
  rw [e5, h9, Array.getElem?_eq_getElem hq]
/-- the words of a throw but the four that speak of the heap -/
def vx_no (w : Cond) : Bool := decide (w ≠ .isRef (.static Bundle.tN "UNASSIGNED_STACK" Bundle.steD)) && decide (w ≠ .isRef (.static Bundle.tN "SUPPRESSED_SENTINEL" Bundle.listD)) && decide (w ≠ .laysStatic Bundle.tN "UNASSIGNED_STACK" Bundle.steD) && decide (w ≠ .laysStatic Bundle.tN "SUPPRESSED_SENTINEL" Bundle.listD)
def vx_at0 (own : String) (ic : Nat) (X : String) (names : List String) : List Cond := (Bundle.ownAtoms0 own ic X names).filter vx_no
def vx_atS (own : String) (ic : Nat) (X : String) (names : List String) : List Cond := (Bundle.ownAtoms own ic X names).filter vx_no
/-- a word that the tables alone decide, or a good one -/
def vx_ot (w : Cond) : Bool := w.onTables || goodWord w
theorem vx_ot_at {args a' : Array Value} {s U : State} {w : Cond} (hW : s.WarmedH U.vm) (hvm : s.vm = U.vm) (hg : vx_ot w = true) (h : w.before args s = true) : w.before a' U = true := by
  simp only [vx_ot, Bool.or_eq_true] at hg
  rcases hg with hg | hg
  · exact va_tabs hg hvm h
  · exact word_at hW (good_of_word hg) h
/-- a list's words: the good ones out of the method's own list, the others by premises of their own -/
theorem vx_hat {args : Array Value} {s : State} {L B : List Cond} (h1 : ∀ w ∈ L.filter goodWord, w.before args s = true) (h2 : ∀ w ∈ L.filter (fun w => !goodWord w), w ∈ B) (h3 : ∀ w ∈ B, w.before args s = true) : ∀ w ∈ L, w.before args s = true := by
  intro w hw
  by_cases g : goodWord w = true
  · exact h1 w (List.mem_filter.mpr ⟨hw, g⟩)
  · refine h3 w (h2 w (List.mem_filter.mpr ⟨hw, ?_⟩))
    show (!goodWord w) = true
    cases hgw : goodWord w
    · rfl
    · exact absurd hgw g
theorem vx_c {args : Array Value} {s : State} {w : Cond} {B : List Cond} (h : w.before args s = true) (t : ∀ w ∈ B, w.before args s = true) : ∀ w' ∈ w :: B, w'.before args s = true := fun w' h' => (List.mem_cons.mp h').elim (fun e => by rw [e]; exact h) (t w')
theorem vx_n {args : Array Value} {s : State} : ∀ w ∈ ([] : List Cond), w.before args s = true := fun _ h => nomatch h
theorem vx_own {args : Array Value} {s : State} {L : List Cond} (h1 : ∀ w ∈ L.filter vx_no, w.before args s = true)
    (hU : (Cond.isRef (.static Bundle.tN "UNASSIGNED_STACK" Bundle.steD)).before args s = true) (hN : (Cond.isRef (.static Bundle.tN "SUPPRESSED_SENTINEL" Bundle.listD)).before args s = true)
    (lU : (Cond.laysStatic Bundle.tN "UNASSIGNED_STACK" Bundle.steD).before args s = true) (lN : (Cond.laysStatic Bundle.tN "SUPPRESSED_SENTINEL" Bundle.listD).before args s = true) : ∀ w ∈ L, w.before args s = true := by
  intro w hw
  by_cases e1 : w = .isRef (.static Bundle.tN "UNASSIGNED_STACK" Bundle.steD)
  · rw [e1]; exact hU
  · by_cases e2 : w = .isRef (.static Bundle.tN "SUPPRESSED_SENTINEL" Bundle.listD)
    · rw [e2]; exact hN
    · by_cases e3 : w = .laysStatic Bundle.tN "UNASSIGNED_STACK" Bundle.steD
      · rw [e3]; exact lU
      · by_cases e4 : w = .laysStatic Bundle.tN "SUPPRESSED_SENTINEL" Bundle.listD
        · rw [e4]; exact lN
        · exact h1 w (List.mem_filter.mpr ⟨hw, by unfold vx_no; rw [decide_eq_true e1, decide_eq_true e2, decide_eq_true e3, decide_eq_true e4]; rfl⟩)
/-- where a static field lies, its class's statics cell in H -/
def vx_L (C n d : String) (A : Nat → Prop) (U : State) (H : Heap) : Prop := ∃ (c : ClassId) (k : Class) (i : Nat) (f : Field) (a : Nat) (cell : Cell), U.vm.findClass C = some c ∧ U.fieldFound? C n d = some (c, k, i, f) ∧ f.isStatic = true ∧ k.statics = some a ∧ H[a]? = some cell ∧ cell.vm.isStatics = true ∧ cell.cls = c ∧ f.slot < cell.slots.size ∧ k.staticTypes[f.slot]? = some f.type ∧ ¬ A a
theorem vx_L.moved {C n d : String} {A : Nat → Prop} {u U : State} {H : Heap} (hvm : u.vm.Alike U.vm) (h : vx_L C n d A u H) : vx_L C n d A U H := by
  obtain ⟨c, k, i, f, a, cell, h1, h2, h3, h4, h5, h6, h7, h8, h9, h10⟩ := h
  obtain ⟨k', hi', he⟩ := State.fieldFound?_setVm hvm h2
  exact ⟨c, k', i, f, a, cell, by rw [hvm.findClass]; exact h1, hi', h3, by rw [he]; exact h4, h5, h6, h7, h8, by rw [he]; exact h9, h10⟩
theorem vx_L.kept {C n d : String} {A : Nat → Prop} {U : State} {H H1 : Heap} (h : vx_L C n d A U H) (hq : ∀ a : Nat, a < H.size → ¬ A a → H1[a]? = H[a]?) : vx_L C n d A U H1 := by
  obtain ⟨c, k, i, f, a, cell, h1, h2, h3, h4, h5, h6, h7, h8, h9, h10⟩ := h
  exact ⟨c, k, i, f, a, cell, h1, h2, h3, h4, by rw [hq a (Array.getElem?_eq_some_iff.mp h5).1 h10]; exact h5, h6, h7, h8, h9, h10⟩
theorem vx_L.narrow {C n d : String} {A B : Nat → Prop} {U : State} {H : Heap} (h : vx_L C n d A U H) (hAB : ∀ q, B q → A q) : vx_L C n d B U H := by
  obtain ⟨c, k, i, f, a, cell, h1, h2, h3, h4, h5, h6, h7, h8, h9, h10⟩ := h
  exact ⟨c, k, i, f, a, cell, h1, h2, h3, h4, h5, h6, h7, h8, h9, fun z => h10 (hAB _ z)⟩
theorem vx_L.word {C n d : String} {A : Nat → Prop} {s : State} {args : Array Value} (h : vx_L C n d A s s.heap) : (Cond.laysStatic C n d).before args s = true := by
  obtain ⟨c, k, i, f, a, cell, h1, h2, h3, h4, h5, h6, h7, h8, h9, -⟩ := h
  show (Cond.laysStatic C n d).holds args s none s [] = true
  exact Cond.laysStatic_of h1 h2 h3 h4 h5 h6 h7 h8 h9
/-- .. and what it holds: null or some reference -/
def vx_Zq (C n d : String) (A : Nat → Prop) (U : State) (H : Heap) : Prop := va_Zq C n d A U H ∧ vx_L C n d A U H
theorem vx_Zq.moved {C n d : String} {A : Nat → Prop} {u U : State} {H : Heap} (hvm : u.vm.Alike U.vm) (h : vx_Zq C n d A u H) : vx_Zq C n d A U H := ⟨va_Zq.moved hvm h.1, vx_L.moved hvm h.2⟩
theorem vx_Zq.kept {C n d : String} {A : Nat → Prop} {U : State} {H H1 : Heap} (h : vx_Zq C n d A U H) (hq : ∀ a : Nat, a < H.size → ¬ A a → H1[a]? = H[a]?) : vx_Zq C n d A U H1 := ⟨va_Zq.kept h.1 hq, vx_L.kept h.2 hq⟩
theorem vx_Zq.narrow {C n d : String} {A B : Nat → Prop} {U : State} {H : Heap} (h : vx_Zq C n d A U H) (hAB : ∀ q, B q → A q) : vx_Zq C n d B U H := ⟨va_Zq.narrow h.1 hAB, vx_L.narrow h.2 hAB⟩
theorem vx_Zqof {args : Array Value} {s : State} {C n d : String} {A : Nat → Prop} (hl : (Cond.laysStatic C n d).before args s = true) (hini : (Cond.initialized C).before args s = true) (h : (Cond.isRef (.static C n d)).before args s = true) (hA : ∀ a : Nat, a < s.heap.size → ¬ A a) : vx_Zq C n d A s s.heap := by
  refine ⟨va_Zqof hl hini h hA, ?_⟩
  obtain ⟨c, k, i, f, a, cell, h1, h2, h3, h4, h5, h6, h7, h8, h9⟩ := Cond.laysStatic_spec hl
  exact ⟨c, k, i, f, a, cell, h1, h2, h3, h4, h5, h6, h7, h8, h9, hA a (Array.getElem?_eq_some_iff.mp h5).1⟩
theorem vx_isRef {C n d : String} {v : Value} {A : Nat → Prop} {s : State} {args : Array Value} (h : va_Z C n d v A s s.heap) (hv : v.isRef = true) : (Cond.isRef (.static C n d)).before args s = true := by
  obtain ⟨cf, kf, fi, f, a, cell, h1, h2, h3, h4, h5, h6, h7, -⟩ := h
  have he : (Term.static C n d).eval args s none [] s = some v := by
    simp [Term.eval, State.fieldNamed?, h1, h2, h4, h5, h6, h7]
  simp only [Cond.before, Cond.holds, Cond.value, he]
  cases v <;> simp_all [Value.isRef]
theorem vx_isRefq {C n d : String} {A : Nat → Prop} {s : State} {args : Array Value} (h : va_Zq C n d A s s.heap) : (Cond.isRef (.static C n d)).before args s = true := by
  rcases h with h | ⟨t, h⟩
  · exact vx_isRef h rfl
  · exact vx_isRef h rfl
/-- the same frame, seen from here: as if the method were called anew in this heap -/
theorem vx_rebase {T : State} (X : Stand p l e R s m args below meth c T locs cells slots) {R' : Room} (hf : R'.frames ≤ R.frames) (hl : R'.locals ≤ R.locals) (hc : cells + R'.cells ≤ R.cells) (hs : slots + R'.slots ≤ R.slots) :
    Stand p l e R' ((T.setVm s.vm).setFrames (.invoking m args :: below)) m args below meth c T [] 0 0 := by
  have htop : (T.setVm s.vm).topJava?.isSome := X.here.top
  have hF : ((T.setVm s.vm).setFrames (.invoking m args :: below)).frames = .invoking m args :: below := State.frames_setFrames _ (State.cur_lt_of_top htop)
  obtain ⟨g₀, hg0⟩ := Option.isSome_iff_exists.mp htop
  obtain ⟨r, hr⟩ := State.topJava?_eq_some.mp hg0
  have hl9 : e.platform.stackLimits (T.setVm s.vm).me = e.platform.stackLimits s.me := X.limits
  have hb9 : (T.setVm s.vm).me.stackBytes = s.me.stackBytes := X.bytes
  refine ⟨X.admits, X.cas, X.clock, hF, ?_, X.hears, X.method, X.code, X.here, X.tail, X.warmed, ?_, ?_, ?_⟩
  · have h := X.room
    have hU : ((T.setVm s.vm).setFrames (.invoking m args :: below)).localsInUse = s.localsInUse := by
      rw [State.localsInUse_invoking hF (meth := meth) (c := c) X.method X.code, State.localsInUse_invoking X.frames X.method X.code]
    simp only [State.hasRoom, Bool.and_eq_true, decide_eq_true_eq] at h ⊢
    obtain ⟨⟨⟨⟨h1, h2, h3, h4, h5, h6⟩, h7⟩, h8⟩, h9⟩ := h
    rw [X.frames, List.length_cons] at h2 h3
    have q1 := X.heapSize
    have q2 := X.used
    simp only [hF, hU, List.length_cons, State.stackLimits_setFrames, State.stackBytes_setFrames, hl9, hb9]
    refine ⟨⟨⟨⟨by omega, by omega, by omega, by omega, by omega, h6⟩, ?_⟩, ?_⟩, X.book⟩
    · show T.heap.size + R'.cells ≤ e.platform.maxCells
      omega
    · show T.slotsUsed + R'.slots ≤ e.platform.maxSlots
      omega
  · rw [State.stackLimits_setFrames]; rfl
  · rw [State.stackBytes_setFrames]; rfl
  · refine ⟨?_, Nat.le_refl _, Nat.le_refl _, ?_, ?_, fun a c9 h9 => ⟨c9, h9, rfl, rfl, fun _ _ => rfl⟩⟩
    · obtain ⟨t, ht, -⟩ := State.frames_cons hr
      show T.setVm s.vm = { ((T.setVm s.vm).setFrames (.invoking m args :: below)).setFrames (T.setVm s.vm).frames with heap := T.heap, slotsUsed := T.slotsUsed }
      rw [State.setFrames_setFrames, State.setFrames_self ht]
      rfl
    · show T.slotsUsed = T.slotsUsed + ((T.heap.toList.drop T.heap.size).map (·.slots.size)).sum
      rw [List.drop_eq_nil_of_le (Nat.le_of_eq Array.length_toList)]
      rfl
    · show ((T.heap.toList.drop T.heap.size).map (·.slots.size)).sum ≤ 0
      rw [List.drop_eq_nil_of_le (Nat.le_of_eq Array.length_toList)]
      exact Nat.le_refl _
/-- 'throw new E()': new; dup; invokespecial; athrow -/
theorem vx_throw0 {cc : ByteArray} {pc : Nat} (hexec : p.tables.exec = Jvm.exec) (hb : c.code = cc) (hl : l.stackTraces = false) {own cls : String} {names : List String} {ik ic mc ms : Nat} {A : Nat → Prop}
    (hown : s.vm.findClass own = some m.cls) (hcls : Bundle.fit cls = true) (hnames : ∀ n ∈ names, Bundle.fit n = true)
    (hk : (Cond.classLink own ik cls).before args s = true) (hini : (Cond.initialized cls).before args s = true) (hat : ∀ w ∈ vx_at0 own ic cls names, w.before args s = true)
    (hgood : ∀ w ∈ Cond.classLink own ik cls :: Cond.initialized cls :: vx_at0 own ic cls names, vx_ot w = true)
    (hU : vx_Zq Bundle.tN "UNASSIGNED_STACK" Bundle.steD A s s.heap) (hN : vx_Zq Bundle.tN "SUPPRESSED_SENTINEL" Bundle.listD A s s.heap) (hS : va_S A s.heap H locs) (hsize : ls.size = c.maxLocals)
    (d0 : decode cc pc = .ok (.new ik, 3)) (d3 : decode cc (pc + 3) = .ok (.dup, 1)) (d4 : decode cc (pc + 4) = .ok (.invokespecial ic, 3)) (d7 : decode cc (pc + 7) = .ok (.athrow, 1))
    (hout : ∀ x ∈ c.exceptionTable.toList, covers x (pc + 7) = false)
    (hRframes : names.length + 3 < R.frames) (hRlocals : (rest.map fun v => v.category).sum + (13 * (names.length + 1) + 42) ≤ R.locals) (hRcells : cells + 1 ≤ R.cells) (hRslots : slots + 6 ≤ R.slots) (hlocks : meth.locks = false)
    (hx : ∀ t : State, s.vm.Alike t.vm → H.size ≤ t.heap.size → (∀ q : Nat, q < H.size → t.heap[q]? = H[q]?) → XC cls s t)
    (hf : ∀ z ∈ locs, free z.base) (hc : cells + 1 ≤ mc) (hs : slots + 6 ≤ ms) :
    W p l e R s m args below meth c H locs cells slots (vx_MQ below Qc XC args s mc ms free) (F0 m pc ls rest) := by
  intro T hT X
  have htr : e.platform.stackTraces = false := (show e.platform.stackTraces = l.stackTraces by rw [X.admits.platform]).trans hl
  have Y := vx_rebase X (R' := { frames := R.frames, locals := R.locals, cells := 1, slots := 6 }) (Nat.le_refl _) (Nat.le_refl _) hRcells hRslots
  obtain ⟨s', hA⟩ : ∃ z, z = (T.setVm s.vm).setFrames (.invoking m args :: below) := ⟨_, rfl⟩
  rw [← hA] at Y
  have hvm : s'.vm = s.vm := by rw [hA]; rfl
  have hhp : s'.heap = H := by rw [hA]; exact hT
  have hW0 : s.WarmedH s'.vm := by rw [hvm]; exact State.WarmedH.refl s
  have hat' : ∀ w ∈ vx_at0 own ic cls names, w.before args s' = true := fun w hw => vx_ot_at hW0 hvm.symm (hgood w (List.mem_cons_of_mem _ (List.mem_cons_of_mem _ hw))) (hat w hw)
  have hk' : (Cond.classLink own ik cls).before args s' = true := vx_ot_at hW0 hvm.symm (hgood _ List.mem_cons_self) hk
  have hini' : (Cond.initialized cls).before args s' = true := vx_ot_at hW0 hvm.symm (hgood _ (List.mem_cons_of_mem _ List.mem_cons_self)) hini
  have hU' : vx_Zq Bundle.tN "UNASSIGNED_STACK" Bundle.steD A s' s'.heap := by rw [hhp]; exact vx_Zq.moved hW0.alike (hU.kept hS.2.1)
  have hN' : vx_Zq Bundle.tN "SUPPRESSED_SENTINEL" Bundle.listD A s' s'.heap := by rw [hhp]; exact vx_Zq.moved hW0.alike (hN.kept hS.2.1)
  have h : ∀ w ∈ Bundle.ownAtoms0 own ic cls names, w.before args s' = true := vx_own hat' (vx_isRefq hU'.1) (vx_isRefq hN'.1) hU'.2.word hN'.2.word
  have hown' : s'.vm.findClass own = some m.cls := by rw [hvm]; exact hown
  have hins : (Cond.instantiable cls 6).before args s' = true := h _ (by simp [Bundle.ownAtoms0])
  obtain ⟨vm₁, cX, kX, hfX, hkX, -, -, X₁, st1⟩ := Y.newCold hexec (own := own) (C := cls) (index := ik) (n := 6) hown' hk' hins hini'
    (g := F0 m pc ls rest) rfl (by rw [hb]; exact d0) (Nat.le_refl _) (Nat.le_refl _)
  generalize hT1 : (T.setVm vm₁).pushCell { cls := cX, slots := kX.instanceTypes.map defaultValue, vm := .none } = T1 at X₁ st1
  have hcat : (Value.ref T.heap.size).category = 1 := rfl
  have hcellA : T1.heap[T.heap.size]? = some (freshCell cX kX) := by rw [← hT1]; exact State.heap_pushCell_size _ _
  have d3' : decode c.code (pc + 3) = .ok (.dup, 1) := by rw [hb]; exact d3
  obtain ⟨U, hsteps, hrun, hend, hW, hsame, ce, hce, hO⟩ := X₁.ctorThrow0 hexec htr (own := own) (cls := cls) (names := names) (ic := ic) hown' hcls hnames h (fun x hx => nomatch hx) hfX hkX hcellA (by rw [hhp, hT]; exact Nat.le_refl _)
    (g := { method := m, pc := pc + 4, locals := ls, stack := .ref T.heap.size :: .ref T.heap.size :: rest, locked := none }) rfl hsize rfl rfl (rest := rest) rfl
    (by rw [hb]; exact d4) (by rw [hb]; exact d7) hout hRframes (by simp only [List.map_cons, List.sum_cons, hcat]; omega) hlocks
  obtain ⟨f1, f2⟩ := vx_frame hsame
  rw [hhp] at f1 f2
  have hWs : s.WarmedH U.vm := State.WarmedH.trans hW0 hW
  have hcl : s.vm.findClass cls = some ce.cls := by
    have h9 := hO.cls
    rw [hvm] at h9
    exact h9
  have hall : s.sameButNew ({ U with vm := s.vm } : State) locs mc ms := by
    subst hA
    obtain ⟨e1, e2⟩ := hsame
    rw [State.setFrames_setFrames] at e1
    have h2 : (T.setVm s.vm).sameButNew ({ U with vm := s.vm } : State) [] (0 + 1) (0 + 6) := ⟨e1, e2⟩
    have h3 := X.same.trans h2
    rw [List.append_nil] at h3
    exact h3.mono hc hs
  refine ⟨U, ?_, .threw T.heap.size, hrun, hend, Or.inr ⟨T.heap.size, rfl, cls, ce, locs, hx U hWs.alike f1 (fun q hq => f2 q hq (fun z hz => nomatch hz)), hce, hO.vm, hcl, hWs, hall, hf⟩⟩
  refine st1 _ ?_
  show Steps p.tables e below (T1.setTop { method := m, pc := pc + 3, locals := ls, stack := .ref T.heap.size :: rest, locked := none }) _
  jvm_step X₁.here [X₁.here.top, hexec, d3', Value.category]
  exact hsteps
/-- 'throw new E("text")': new; dup; ldc; invokespecial; athrow -/
theorem vx_throwS {cc : ByteArray} {pc : Nat} (hexec : p.tables.exec = Jvm.exec) (hb : c.code = cc) (hl : l.stackTraces = false) {own cls text : String} {names : List String} {ik is ic mc ms sa : Nat} {A : Nat → Prop}
    (hown : s.vm.findClass own = some m.cls) (hcls : Bundle.fit cls = true) (hnames : ∀ n ∈ names, Bundle.fit n = true)
    (hk : (Cond.classLink own ik cls).before args s = true) (hini : (Cond.initialized cls).before args s = true) (hstr : vk_R own is text sa s) (hat : ∀ w ∈ vx_atS own ic cls names, w.before args s = true)
    (hgood : ∀ w ∈ Cond.classLink own ik cls :: Cond.initialized cls :: vx_atS own ic cls names, vx_ot w = true)
    (hU : vx_Zq Bundle.tN "UNASSIGNED_STACK" Bundle.steD A s s.heap) (hN : vx_Zq Bundle.tN "SUPPRESSED_SENTINEL" Bundle.listD A s s.heap) (hS : va_S A s.heap H locs) (hsize : ls.size = c.maxLocals)
    (d0 : decode cc pc = .ok (.new ik, 3)) (d3 : decode cc (pc + 3) = .ok (.dup, 1)) (d4 : decode cc (pc + 4) = .ok (.ldc is, 2)) (d6 : decode cc (pc + 6) = .ok (.invokespecial ic, 3)) (d9 : decode cc (pc + 9) = .ok (.athrow, 1))
    (hout : ∀ x ∈ c.exceptionTable.toList, covers x (pc + 9) = false)
    (hRframes : names.length + 3 < R.frames) (hRlocals : (rest.map fun v => v.category).sum + (13 * (names.length + 1) + 43) ≤ R.locals) (hRcells : cells + 1 ≤ R.cells) (hRslots : slots + 6 ≤ R.slots) (hlocks : meth.locks = false)
    (hx : ∀ t : State, s.vm.Alike t.vm → H.size ≤ t.heap.size → (∀ q : Nat, q < H.size → t.heap[q]? = H[q]?) → XC cls s t)
    (hf : ∀ z ∈ locs, free z.base) (hc : cells + 1 ≤ mc) (hs : slots + 6 ≤ ms) :
    W p l e R s m args below meth c H locs cells slots (vx_MQ below Qc XC args s mc ms free) (F0 m pc ls rest) := by
  intro T hT X
  have htr : e.platform.stackTraces = false := (show e.platform.stackTraces = l.stackTraces by rw [X.admits.platform]).trans hl
  have Y := vx_rebase X (R' := { frames := R.frames, locals := R.locals, cells := 1, slots := 6 }) (Nat.le_refl _) (Nat.le_refl _) hRcells hRslots
  obtain ⟨s', hA⟩ : ∃ z, z = (T.setVm s.vm).setFrames (.invoking m args :: below) := ⟨_, rfl⟩
  rw [← hA] at Y
  have hvm : s'.vm = s.vm := by rw [hA]; rfl
  have hhp : s'.heap = H := by rw [hA]; exact hT
  have hW0 : s.WarmedH s'.vm := by rw [hvm]; exact State.WarmedH.refl s
  have hat' : ∀ w ∈ vx_atS own ic cls names, w.before args s' = true := fun w hw => vx_ot_at hW0 hvm.symm (hgood w (List.mem_cons_of_mem _ (List.mem_cons_of_mem _ hw))) (hat w hw)
  have hk' : (Cond.classLink own ik cls).before args s' = true := vx_ot_at hW0 hvm.symm (hgood _ List.mem_cons_self) hk
  have hini' : (Cond.initialized cls).before args s' = true := vx_ot_at hW0 hvm.symm (hgood _ (List.mem_cons_of_mem _ List.mem_cons_self)) hini
  have hU' : vx_Zq Bundle.tN "UNASSIGNED_STACK" Bundle.steD A s' s'.heap := by rw [hhp]; exact vx_Zq.moved hW0.alike (hU.kept hS.2.1)
  have hN' : vx_Zq Bundle.tN "SUPPRESSED_SENTINEL" Bundle.listD A s' s'.heap := by rw [hhp]; exact vx_Zq.moved hW0.alike (hN.kept hS.2.1)
  have h : ∀ w ∈ Bundle.ownAtoms own ic cls names, w.before args s' = true := vx_own hat' (vx_isRefq hU'.1) (vx_isRefq hN'.1) hU'.2.word hN'.2.word
  have hown' : s'.vm.findClass own = some m.cls := by rw [hvm]; exact hown
  have hins : (Cond.instantiable cls 6).before args s' = true := h _ (by simp [Bundle.ownAtoms])
  obtain ⟨vm₁, cX, kX, hfX, hkX, -, -, X₁, st1⟩ := Y.newCold hexec (own := own) (C := cls) (index := ik) (n := 6) hown' hk' hins hini'
    (g := F0 m pc ls rest) rfl (by rw [hb]; exact d0) (Nat.le_refl _) (Nat.le_refl _)
  generalize hT1 : (T.setVm vm₁).pushCell { cls := cX, slots := kX.instanceTypes.map defaultValue, vm := .none } = T1 at X₁ st1
  have hcat : (Value.ref T.heap.size).category = 1 := rfl
  have hcellA : T1.heap[T.heap.size]? = some (freshCell cX kX) := by rw [← hT1]; exact State.heap_pushCell_size _ _
  have d3' : decode c.code (pc + 3) = .ok (.dup, 1) := by rw [hb]; exact d3
  have d4' : decode c.code (pc + 4) = .ok (.ldc is, 2) := by rw [hb]; exact d4
  have hstr' : vk_R own is text sa s' := vk_R.warm hW0 hstr
  obtain ⟨U, hsteps, hrun, hend, hW, hsame, ce, hce, hO⟩ := X₁.ctorThrowS hexec htr (own := own) (cls := cls) (names := names) (ic := ic) hown' hcls hnames h (fun x hx => nomatch hx) hfX hkX hcellA (by rw [hhp, hT]; exact Nat.le_refl _) (msg := .ref sa) rfl
    (g := { method := m, pc := pc + 6, locals := ls, stack := .ref sa :: .ref T.heap.size :: .ref T.heap.size :: rest, locked := none }) rfl hsize rfl rfl (rest := rest) rfl
    (by rw [hb]; exact d6) (by rw [hb]; exact d9) hout hRframes (by simp only [List.map_cons, List.sum_cons, hcat]; omega) hlocks
  obtain ⟨f1, f2⟩ := vx_frame hsame
  rw [hhp] at f1 f2
  have hWs : s.WarmedH U.vm := State.WarmedH.trans hW0 hW
  have hcl : s.vm.findClass cls = some ce.cls := by
    have h9 := hO.cls
    rw [hvm] at h9
    exact h9
  have hall : s.sameButNew ({ U with vm := s.vm } : State) locs mc ms := by
    subst hA
    obtain ⟨e1, e2⟩ := hsame
    rw [State.setFrames_setFrames] at e1
    have h2 : (T.setVm s.vm).sameButNew ({ U with vm := s.vm } : State) [] (0 + 1) (0 + 6) := ⟨e1, e2⟩
    have h3 := X.same.trans h2
    rw [List.append_nil] at h3
    exact h3.mono hc hs
  refine ⟨U, ?_, .threw T.heap.size, hrun, hend, Or.inr ⟨T.heap.size, rfl, cls, ce, locs, hx U hWs.alike f1 (fun q hq => f2 q hq (fun z hz => nomatch hz)), hce, hO.vm, hcl, hWs, hall, hf⟩⟩
  refine st1 _ ?_
  show Steps p.tables e below (T1.setTop { method := m, pc := pc + 3, locals := ls, stack := .ref T.heap.size :: rest, locked := none }) _
  jvm_step X₁.here [X₁.here.top, hexec, d3', Value.category]
  exact X₁.ldcString hexec (own := own) (text := text) (index := is) (a := sa) hown' hstr'.1 hstr'.2
    (g := { method := m, pc := pc + 4, locals := ls, stack := .ref T.heap.size :: .ref T.heap.size :: rest, locked := none }) rfl d4' _ hsteps
/-- 'throw new E("text")', the text by a wide index -/
theorem vx_throwSW {cc : ByteArray} {pc : Nat} (hexec : p.tables.exec = Jvm.exec) (hb : c.code = cc) (hl : l.stackTraces = false) {own cls text : String} {names : List String} {ik is ic mc ms sa : Nat} {A : Nat → Prop}
    (hown : s.vm.findClass own = some m.cls) (hcls : Bundle.fit cls = true) (hnames : ∀ n ∈ names, Bundle.fit n = true)
    (hk : (Cond.classLink own ik cls).before args s = true) (hini : (Cond.initialized cls).before args s = true) (hstr : vk_R own is text sa s) (hat : ∀ w ∈ vx_atS own ic cls names, w.before args s = true)
    (hgood : ∀ w ∈ Cond.classLink own ik cls :: Cond.initialized cls :: vx_atS own ic cls names, vx_ot w = true)
    (hU : vx_Zq Bundle.tN "UNASSIGNED_STACK" Bundle.steD A s s.heap) (hN : vx_Zq Bundle.tN "SUPPRESSED_SENTINEL" Bundle.listD A s s.heap) (hS : va_S A s.heap H locs) (hsize : ls.size = c.maxLocals)
    (d0 : decode cc pc = .ok (.new ik, 3)) (d3 : decode cc (pc + 3) = .ok (.dup, 1)) (d4 : decode cc (pc + 4) = .ok (.ldc_w is, 3)) (d7 : decode cc (pc + 7) = .ok (.invokespecial ic, 3)) (d10 : decode cc (pc + 10) = .ok (.athrow, 1))
    (hout : ∀ x ∈ c.exceptionTable.toList, covers x (pc + 10) = false)
    (hRframes : names.length + 3 < R.frames) (hRlocals : (rest.map fun v => v.category).sum + (13 * (names.length + 1) + 43) ≤ R.locals) (hRcells : cells + 1 ≤ R.cells) (hRslots : slots + 6 ≤ R.slots) (hlocks : meth.locks = false)
    (hx : ∀ t : State, s.vm.Alike t.vm → H.size ≤ t.heap.size → (∀ q : Nat, q < H.size → t.heap[q]? = H[q]?) → XC cls s t)
    (hf : ∀ z ∈ locs, free z.base) (hc : cells + 1 ≤ mc) (hs : slots + 6 ≤ ms) :
    W p l e R s m args below meth c H locs cells slots (vx_MQ below Qc XC args s mc ms free) (F0 m pc ls rest) := by
  intro T hT X
  have htr : e.platform.stackTraces = false := (show e.platform.stackTraces = l.stackTraces by rw [X.admits.platform]).trans hl
  have Y := vx_rebase X (R' := { frames := R.frames, locals := R.locals, cells := 1, slots := 6 }) (Nat.le_refl _) (Nat.le_refl _) hRcells hRslots
  obtain ⟨s', hA⟩ : ∃ z, z = (T.setVm s.vm).setFrames (.invoking m args :: below) := ⟨_, rfl⟩
  rw [← hA] at Y
  have hvm : s'.vm = s.vm := by rw [hA]; rfl
  have hhp : s'.heap = H := by rw [hA]; exact hT
  have hW0 : s.WarmedH s'.vm := by rw [hvm]; exact State.WarmedH.refl s
  have hat' : ∀ w ∈ vx_atS own ic cls names, w.before args s' = true := fun w hw => vx_ot_at hW0 hvm.symm (hgood w (List.mem_cons_of_mem _ (List.mem_cons_of_mem _ hw))) (hat w hw)
  have hk' : (Cond.classLink own ik cls).before args s' = true := vx_ot_at hW0 hvm.symm (hgood _ List.mem_cons_self) hk
  have hini' : (Cond.initialized cls).before args s' = true := vx_ot_at hW0 hvm.symm (hgood _ (List.mem_cons_of_mem _ List.mem_cons_self)) hini
  have hU' : vx_Zq Bundle.tN "UNASSIGNED_STACK" Bundle.steD A s' s'.heap := by rw [hhp]; exact vx_Zq.moved hW0.alike (hU.kept hS.2.1)
  have hN' : vx_Zq Bundle.tN "SUPPRESSED_SENTINEL" Bundle.listD A s' s'.heap := by rw [hhp]; exact vx_Zq.moved hW0.alike (hN.kept hS.2.1)
  have h : ∀ w ∈ Bundle.ownAtoms own ic cls names, w.before args s' = true := vx_own hat' (vx_isRefq hU'.1) (vx_isRefq hN'.1) hU'.2.word hN'.2.word
  have hown' : s'.vm.findClass own = some m.cls := by rw [hvm]; exact hown
  have hins : (Cond.instantiable cls 6).before args s' = true := h _ (by simp [Bundle.ownAtoms])
  obtain ⟨vm₁, cX, kX, hfX, hkX, -, -, X₁, st1⟩ := Y.newCold hexec (own := own) (C := cls) (index := ik) (n := 6) hown' hk' hins hini'
    (g := F0 m pc ls rest) rfl (by rw [hb]; exact d0) (Nat.le_refl _) (Nat.le_refl _)
  generalize hT1 : (T.setVm vm₁).pushCell { cls := cX, slots := kX.instanceTypes.map defaultValue, vm := .none } = T1 at X₁ st1
  have hcat : (Value.ref T.heap.size).category = 1 := rfl
  have hcellA : T1.heap[T.heap.size]? = some (freshCell cX kX) := by rw [← hT1]; exact State.heap_pushCell_size _ _
  have d3' : decode c.code (pc + 3) = .ok (.dup, 1) := by rw [hb]; exact d3
  have d4' : decode c.code (pc + 4) = .ok (.ldc_w is, 3) := by rw [hb]; exact d4
  have hstr' : vk_R own is text sa s' := vk_R.warm hW0 hstr
  obtain ⟨U, hsteps, hrun, hend, hW, hsame, ce, hce, hO⟩ := X₁.ctorThrowS hexec htr (own := own) (cls := cls) (names := names) (ic := ic) hown' hcls hnames h (fun x hx => nomatch hx) hfX hkX hcellA (by rw [hhp, hT]; exact Nat.le_refl _) (msg := .ref sa) rfl
    (g := { method := m, pc := pc + 7, locals := ls, stack := .ref sa :: .ref T.heap.size :: .ref T.heap.size :: rest, locked := none }) rfl hsize rfl rfl (rest := rest) rfl
    (by rw [hb]; exact d7) (by rw [hb]; exact d10) hout hRframes (by simp only [List.map_cons, List.sum_cons, hcat]; omega) hlocks
  obtain ⟨f1, f2⟩ := vx_frame hsame
  rw [hhp] at f1 f2
  have hWs : s.WarmedH U.vm := State.WarmedH.trans hW0 hW
  have hcl : s.vm.findClass cls = some ce.cls := by
    have h9 := hO.cls
    rw [hvm] at h9
    exact h9
  have hall : s.sameButNew ({ U with vm := s.vm } : State) locs mc ms := by
    subst hA
    obtain ⟨e1, e2⟩ := hsame
    rw [State.setFrames_setFrames] at e1
    have h2 : (T.setVm s.vm).sameButNew ({ U with vm := s.vm } : State) [] (0 + 1) (0 + 6) := ⟨e1, e2⟩
    have h3 := X.same.trans h2
    rw [List.append_nil] at h3
    exact h3.mono hc hs
  refine ⟨U, ?_, .threw T.heap.size, hrun, hend, Or.inr ⟨T.heap.size, rfl, cls, ce, locs, hx U hWs.alike f1 (fun q hq => f2 q hq (fun z hz => nomatch hz)), hce, hO.vm, hcl, hWs, hall, hf⟩⟩
  refine st1 _ ?_
  show Steps p.tables e below (T1.setTop { method := m, pc := pc + 3, locals := ls, stack := .ref T.heap.size :: rest, locked := none }) _
  jvm_step X₁.here [X₁.here.top, hexec, d3', Value.category]
  exact X₁.ldcStringW hexec (own := own) (text := text) (index := is) (a := sa) hown' hstr'.1 hstr'.2
    (g := { method := m, pc := pc + 4, locals := ls, stack := .ref T.heap.size :: .ref T.heap.size :: rest, locked := none }) rfl d4' _ hsteps
end Ends
section Bodies
variable {l : Launch}
theorem vx_ofW {y : MethodName} {ws ws' : List Cond} {rm : Room} {Pc : Array Value → State → Prop} {Qc : Array Value → State → Outcome → State → Prop} {XC : String → State → State → Prop} {mc ms : Nat} {free : Addr → Prop} {cc : ByteArray} {maxL : Nat} {ret : Option FieldType}
    (hy : plainName y.cls = true) (hw : ws = Cond.code y cc maxL ret :: ws')
    (body : ∀ p e s m args below meth c s₁, BodyLoose p l y (headSpec ws rm) cc maxL ret e s m args below meth c s₁ → c.maxLocals = maxL → (∀ x ∈ c.exceptionTable.toList, False) → Pc args s →
      W p l e (headSpec ws rm).room s m args below meth c s.heap [] 0 0 (vx_MQ below Qc XC args s mc ms free) (entryFrame m args maxL)) : vx_Met l y ws rm Pc Qc XC mc ms free := by
  refine MetFree.of_bodyS (code := cc) (maxLocals := maxL) (ret := ret) hy ?_ ?_
  · intro args s m h hn
    obtain ⟨meth, c, h1, h2, h3, h4, h5, h6, -, -⟩ := Cond.code_spec hn (atoms_spec (ws := ws) h _ (by rw [hw]; exact List.mem_cons_self))
    exact ⟨meth, c, h1, h2, h3, h4, h5, h6⟩
  · intro p e s m args below meth c s₁ B hml hP _
    have hh0 : s₁.heap = s.heap := by rw [B.state]; rfl
    have ht : ∀ x ∈ c.exceptionTable.toList, False := by
      obtain ⟨meth9, c9, h1, h2, -, -, -, -, h7, -⟩ := Cond.code_spec B.named (atoms_spec (ws := ws) B.pre _ (by rw [hw]; exact List.mem_cons_self))
      cases Option.some.inj (h1.symm.trans B.method)
      cases Option.some.inj (h2.symm.trans (Stand.of_body B).code)
      intro x hx
      rw [Array.isEmpty_iff.mp h7] at hx
      cases hx
    obtain ⟨t, a1, o, b1, b2, b3⟩ := body p e s m args below meth c s₁ B hml ht hP s₁ hh0 (Stand.of_body B)
    exact ⟨t, o, a1, b1, b2, b3⟩
/-- the table of a body with handlers -/
theorem vx_table {p : Program} {x y : MethodName} {S : Spec} {cc bytes : ByteArray} {maxL maxL' : Nat} {ret ret' : Option FieldType} {e : Env} {s s₁ : State} {m : MethodId} {args : Array Value} {below : List Frame} {meth : Method} {c : Code} {hh : List (Nat × Nat × Nat × Nat)}
    (B : BodyLoose p l y S cc maxL ret e s m args below meth c s₁) (h : (Cond.codeWith y bytes maxL' ret' hh).before args s = true) : c.exceptionTable.toList = tableOf hh := by
  obtain ⟨m9, meth9, c9, hn9, h1, h2, -, -, h6, -⟩ := Cond.codeWith_spec h
  cases Option.some.inj (hn9.symm.trans B.named)
  cases Option.some.inj (h1.symm.trans B.method)
  cases Option.some.inj (h2.symm.trans (Stand.of_body B).code)
  rw [← h6, table_eq]
end Bodies
end VXA
/-! ===== END ===== -/
/-! ===== BEGIN a static call of a method with an exception table ===== -/
section VXS
variable {p : Program} {l : Launch} {e : Env} {R : Room} {s : State} {m : MethodId} {args : Array Value} {below : List Frame} {meth : Method} {c : Code} {T : State} {H : Heap} {locs : List Loc} {cells slots : Nat}
abbrev vx_CSW (R : Room) (s : State) (args : Array Value) (own : String) (index : Nat) (y : MethodName) (bytes : ByteArray) (maxL : Nat) (ret : Option FieldType) (hh : List (Nat × Nat × Nat × Nat)) (ws : List Cond) (rm : Room) (mc ms n : Nat) : Prop :=
  (rm.cells = mc ∧ rm.slots = ms ∧ rm.frames + 1 ≤ R.frames ∧ 8 + (maxL + 11) + rm.locals ≤ R.locals ∧ (∀ w ∈ ws, ∀ (a' : Array Value) (U : State), s.WarmedH U.vm → w.before a' U = true) ∧ Cond.codeWith y bytes maxL ret hh ∈ ws) ∧
  (Cond.codeWith y bytes maxL ret hh).before args s = true ∧ (Cond.initialized y.cls).before args s = true ∧ (y.cls ≠ "java/lang/invoke/MethodHandle" ∧ y.cls ≠ "java/lang/invoke/VarHandle") ∧
  (∀ sig, parseMethodDescriptor y.desc = some sig → n = sig.parameters.length) ∧ (Cond.methodLink own index y).before args s = true ∧ (Cond.static y).before args s = true
theorem vx_cwSW {own : String} {index maxL mc ms : Nat} {y : MethodName} {bytes : ByteArray} {ret : Option FieldType} {hh : List (Nat × Nat × Nat × Nat)} {Ts ws ws' : List Cond} {rm : Room} (n : Nat) (ht : ∀ w ∈ Ts, w.before args s = true) (hT : GoodIn Ts (va_wsS own index y ws)) (hw : ws = Cond.codeWith y bytes maxL ret hh :: ws') (hrc : rm.cells = mc) (hrs : rm.slots = ms)
    (hd : y.cls ≠ "java/lang/invoke/MethodHandle" ∧ y.cls ≠ "java/lang/invoke/VarHandle" ∧ (parseMethodDescriptor y.desc).map (fun d => d.parameters.length) = some n) (hR : rm.frames + 1 ≤ R.frames ∧ 8 + (maxL + 11) + rm.locals ≤ R.locals) :
    vx_CSW R s args own index y bytes maxL ret hh ws rm mc ms n := by
  have ok : ∀ w ∈ va_wsS own index y ws, w.before args s = true := fun w h => ht w (hT w h).1
  have hG : GoodIn Ts ws := fun w h => hT w (by unfold va_wsS; exact List.mem_append_right _ h)
  have hc : Cond.codeWith y bytes maxL ret hh ∈ ws := by rw [hw]; exact List.mem_cons_self
  refine ⟨⟨hrc, hrs, hR.1, hR.2, pay_in ht hG, hc⟩, ht _ (hG _ hc).1, ok _ (by simp [va_wsS]), ⟨hd.1, hd.2.1⟩, fun sig h => ?_, ok _ (by simp [va_wsS]), ok _ (by simp [va_wsS])⟩
  have h2 := hd.2.2
  rw [h] at h2
  exact (Option.some.inj h2).symm
theorem vx_callSW (X : Stand p l e R s m args below meth c T locs cells slots) (hexec : p.tables.exec = Jvm.exec) {own : String} {index : Nat} {y : MethodName} {bytes : ByteArray} {maxL : Nat} {ret : Option FieldType} {hh : List (Nat × Nat × Nat × Nat)}
    (hown : s.vm.findClass own = some m.cls) (hlink : (Cond.methodLink own index y).before args s = true) (hstat : (Cond.static y).before args s = true) (hinit : (Cond.initialized y.cls).before args s = true)
    (hcode : (Cond.codeWith y bytes maxL ret hh).before args s = true) (hy : y.cls ≠ "java/lang/invoke/MethodHandle" ∧ y.cls ≠ "java/lang/invoke/VarHandle")
    {W9 : Nat} {Pre : Pt → Array Value → Prop} {Post : Pt → Array Value → Option Value → Pt → Prop} (hK : Back l R p e below s args y 3 W9 Pre Post)
    {g : JFrame} (hg : g.method = m) (hsize : g.locals.size = c.maxLocals) {argsL rest : List Value} (hlen : ∀ sig, parseMethodDescriptor y.desc = some sig → argsL.length = sig.parameters.length)
    (hstack : g.stack = argsL.reverse ++ rest) (hW : 2 * g.monitorRoom + (rest.map fun v => v.category).sum ≤ W9) (hdg : decode c.code g.pc = .ok (.invokestatic index, 3))
    (hpre : ∀ vm₁, s.WarmedH vm₁ → Pre ⟨T.setVm vm₁, locs, cells, slots⟩ argsL.toArray) :
    ∃ (v : Option Value) (vm₁ : Vm) (B : Pt), s.WarmedH vm₁ ∧ Stand p l e R s m args below meth c B.U B.locs B.cells B.slots ∧ Post ⟨T.setVm vm₁, locs, cells, slots⟩ argsL.toArray v B ∧
      ∀ target, Steps p.tables e below (B.U.setTop { g with pc := g.pc + 3, stack := v.toList ++ rest }) target → Steps p.tables e below (T.setTop g) target := by
  obtain ⟨mk, methM, cM, hnamed, hmethM, -, -, -, -, -, -, hsigM⟩ := Cond.codeWith_spec hcode
  have hstatic : methM.isStatic = true := Cond.static_spec hnamed hmethM hstat
  obtain ⟨kP, hkP, -⟩ := className_of_methodNamed hnamed
  have hinitP : kP.init = .initialized := Cond.initialized_spec (findClass_of_methodNamed hnamed) hkP hinit
  obtain ⟨vm₁, X₁, hstep₁⟩ := X.invokestatic hexec hown hlink hnamed hmethM hstatic hkP hinitP hy (g := g) hg (argsL := argsL) (rest := rest) (hlen _ hsigM) hstack hdg
  obtain ⟨v, B, X', hpost, hsteps⟩ := hK m meth c ⟨T.setVm vm₁, locs, cells, slots⟩ { g with stack := rest } (.invokestatic index) mk argsL.toArray X₁ hg hsize hdg hW (X₁.named hnamed) (hpre vm₁ X₁.warmed)
  exact ⟨v, vm₁, B, X₁.warmed, X', hpost, fun target h => hstep₁ _ fun acts => by rw [doInvoke_state]; exact hsteps.trans h⟩
theorem vx_runSW {y : MethodName} {bytes cc : ByteArray} {maxL nL mc ms n index : Nat} {ret : Option FieldType} {hh : List (Nat × Nat × Nat × Nat)} {ws : List Cond} {rm : Room} {Pc : Array Value → State → Prop} {Qc : Array Value → State → Outcome → State → Prop} {free : Addr → Prop} {Ts : List Cond} {own : String} {As rest : List Value} {g : JFrame}
    (S : CallFix p m c cc nL s args Ts own) (hM : Met l y ws rm Pc Qc mc ms free) (cw : vx_CSW R s args own index y bytes maxL ret hh ws rm mc ms n) (hp : PreS s H Pc As)
    (hg : g.method = m) (hn : As.length = n) (hsize : g.locals.size = nL) (hstack : g.stack = As.reverse ++ rest) (hW : 2 * g.monitorRoom + (rest.map fun v => v.category).sum ≤ 8) (hdg : decode cc g.pc = .ok (.invokestatic index, 3)) (hf : cells + mc ≤ R.cells ∧ slots + ms ≤ R.slots) :
    va_Run p l e R s m args below meth c H locs cells slots mc ms g rest (Qc As.toArray) (free) := by
  obtain ⟨⟨hrc, hrs, hfr, hlo, hws, hcw⟩, hcode, hini, hy, hlen, hl, hstt⟩ := cw
  have hK : Back l R p e below s args y 3 8 (PreOf R mc ms Pc) (PostOf Qc mc ms free) := va_backW (hh := hh) (bytes := bytes) (maxL := maxL) (ret := ret) hM hp.1 hrc hrs hfr hlo hws hcw (fun a' U hW => word_at hW (Or.inl (by first | rfl | simp [Cond.onTables, Cond.keeps, Cond.steady])) hini)
  obtain ⟨hx, hb, hml, ho, -⟩ := S
  intro T hT X
  obtain ⟨v, vm₁, ⟨U', l2, c2, s2⟩, hW₁, X', ⟨g', mk, t, L, e1, e2, hq, h1, hL, h2, h3⟩, st⟩ := vx_callSW X hx (hh := hh) (bytes := bytes) (maxL := maxL) (ret := ret) ho hl hstt hini hcode hy hK hg (hsize.trans hml.symm) (argsL := As) (rest := rest) (fun sig h => hn.trans (hlen sig h)) hstack hW (by rw [hb]; exact hdg)
    (fun vm₁ hW₁ => ⟨hf.1, hf.2, hp.2 (T.setVm vm₁) hT hW₁⟩)
  dsimp only [Pt.U, Pt.locs, Pt.cells, Pt.slots] at X' e1 e2 h1 h2 h3 st
  subst h1; subst h2; subst h3
  exact ⟨v, (T.setVm vm₁).calling g' mk As.toArray, t, U', L, hT, X', hL, e1, e2, hq, st⟩
/-- not caught here, past rows that name other classes: it goes on to the caller -/
theorem vx_outP {p : Program} {l : Launch} {e : Env} {R : Room} {s : State} {m : MethodId} {args : Array Value} {below : List Frame} {meth : Method} {c : Code} {H : Heap} {locs : List Loc} {cells slots : Nat} {free : Addr → Prop} {ls : Array Slot} {rest : List Value} {Qc : Array Value → State → Outcome → State → Prop} {XC : String → State → State → Prop}
    {pc : Nat} {own E : String} {ce : Cell} {q : Addr} {mc ms : Nat} (hown : s.vm.findClass own = some m.cls) (hlocks : meth.locks = false)
    (hpass : ∀ z ∈ c.exceptionTable.toList, covers z pc = false ∨ (z.catchType ≠ 0 ∧ ∃ nm : String, (Cond.classLink own z.catchType nm).before args s = true ∧ va_Nc E nm s)) (hcell : H[q]? = some ce) (hv : ce.vm = .none) (hcl : s.vm.findClass E = some ce.cls)
    (hx : ∀ t : State, t.heap = H → s.vm.Alike t.vm → XC E s t) (hf : ∀ z ∈ locs, free z.base) (hc : cells ≤ mc) (hs : slots ≤ ms) :
    vx_W p l e R s m args below meth c H locs cells slots (vx_MQ below Qc XC args s mc ms free) (F0 m pc ls rest) q := by
  intro T hT X
  have hpl : e.platform.magicAccessors = ({} : Platform).magicAccessors := by rw [X.admits.platform]
  obtain ⟨vm', hW', X', st⟩ := X.outThrough hlocks q (g := F0 m pc ls rest) rfl rfl rfl (cell := ce) (by rw [hT]; exact hcell) (by rw [hv]; rfl)
    (by obtain ⟨k9, h9, -⟩ := Vm.findClass_spec hcl; exact ⟨k9, h9⟩) (fun z hz => by
      rcases hpass z hz with h | ⟨hz0, nm, hl1, hn1⟩
      · exact Or.inl h
      · obtain ⟨c6, hc6, hcl6⟩ := Cond.classLink_spec hown hl1 e.platform hpl
        obtain ⟨a8, b8, h1, h2, h3⟩ := hn1
        cases Option.some.inj (h1.symm.trans hcl)
        cases Option.some.inj (h2.symm.trans hc6)
        exact Or.inr ⟨hz0, _, hcl6, h3⟩)
  obtain ⟨g₀, hfr⟩ := X'.frames_eq
  have hcell9 : ((T.setVm vm').setFrames (.throwing q :: below)).heap[q]? = some ce := by
    show T.heap[q]? = some ce
    rw [hT]; exact hcell
  have hend : Ended ((T.setVm vm').setFrames (.throwing q :: below)) below (.threw q) := State.frames_setFrames _ (State.cur_lt_of_frames hfr)
  refine ⟨(T.setVm vm').setFrames (.throwing q :: below), ?_, .threw q, X'.here.running, hend, Or.inr ⟨q, rfl, E, ce, locs, hx _ hT (X'.ends _).1.alike, hcell9, hv, hcl, (X'.ends _).1, (X'.ends _).2.mono hc hs, hf⟩⟩
  rw [X.pushThrowing_eq]
  exact st
/-- a thing of a world lies in the heap -/
theorem vx_lt {D : va_G} {cl : List vw_C} {ws : va_W} {H1 : Heap} (h : va_P D cl ws H1) {k : Nat} {q : Nat × va_E} (hk : ws[k]? = some q) : q.1 < H1.size := (h k q hk).lt
end VXS
/-! ===== END ===== -/
/-! ===== BEGIN methods with a table of their own: called by a name, returning or throwing ===== -/
section VXH
/-! vx_backW, vx_callVX, vx_callSX, vx_callVW, vx_runVW, vx_runVX, vx_runSX, vx_ofWH follow the same proofs as their sisters above (Free/Laws.lean, Shelf42/LK1.lean); vx_outP calls Shelf42/NT130.lean (outThrough). -/
section
variable {l : Launch} {R : Room} {p : Program} {e : Env} {below : List Frame} {s : State} {sargs : Array Value} {y : MethodName} {len W9 : Nat}
theorem vx_backW {ws : List Cond} {rm : Room} {Pc : Array Value → State → Prop} {Qc : Array Value → State → Outcome → State → Prop} {XC : String → State → State → Prop} {mc ms : Nat} {free : Addr → Prop} {bytes : ByteArray} {maxL : Nat} {ret : Option FieldType} {hh : List (Nat × Nat × Nat × Nat)}
    (hM : vx_Met l y ws rm Pc Qc XC mc ms free) (hblind : FrameBlind Pc) (hrc : rm.cells = mc) (hrs : rm.slots = ms)
    (hframes : rm.frames + 1 ≤ R.frames) (hlocals : W9 + (maxL + 11) + rm.locals ≤ R.locals)
    (hws : ∀ w ∈ ws, ∀ a' U, s.WarmedH U.vm → w.before a' U = true) (hcode : Cond.codeWith y bytes maxL ret hh ∈ ws) (hinit : ∀ a' U, s.WarmedH U.vm → (Cond.initialized y.cls).before a' U = true) :
    vx_Back l R p e below s sargs y len W9 (PreOf R mc ms Pc) (PostOf Qc mc ms free) (vx_Post XC mc ms free) := by
  intro m meth c A g ig mk a X hg hsize hdg hW hn hp
  have h1 : (headSpec ws rm).pre.before a A.U = true := atoms_intro fun w hw => hws w hw _ _ X.warmed
  have h2 : (Cond.codeWith y bytes maxL ret hh).before a A.U = true := hws _ hcode _ _ X.warmed
  have h3 : (Cond.initialized y.cls).before a A.U = true := hinit _ _ X.warmed
  have h4 : A.cells + (headSpec ws rm).room.cells ≤ R.cells := by rw [show (headSpec ws rm).room.cells = mc from hrc]; exact hp.1
  have h5 : A.slots + (headSpec ws rm).room.slots ≤ R.slots := by rw [show (headSpec ws rm).room.slots = ms from hrs]; exact hp.2.1
  have hPc : Pc a (A.U.calling g mk a) := hblind _ _ _ _ hp.2.2
  obtain ⟨U, Ls, c0, s0⟩ := A
  dsimp only [Pt.U, Pt.locs, Pt.cells, Pt.slots] at h1 h2 h3 h4 h5 X hn hPc ⊢
  obtain ⟨m9, methY, cY, hn9, hmY, hcY, -, hlY, -⟩ := Cond.codeWith_spec h2
  cases Option.some.inj (hn9.symm.trans hn)
  obtain ⟨kY, hkY, -⟩ := className_of_methodNamed hn
  have hinitY : kY.init = .initialized := Cond.initialized_spec (findClass_of_methodNamed hn) hkY h3
  have h : At U g.method c below := by rw [hg]; exact X.here
  have hlocals9 : W9 + (maxL + 11) + (headSpec ws rm).room.locals ≤ R.locals := hlocals
  have happ : (headSpec ws rm).appliesLoose y e.platform (U.calling g mk a) = true :=
    Spec.appliesLoose_calling (g := g) h hdg hn hkY hinitY
      (X.room_calling (g := g) (R' := (headSpec ws rm).room) hsize hmY hcY hframes (by rw [hlY]; omega) h4 h5) h1
  obtain ⟨mid, hmid⟩ := h.above
  have hfr : (U.setTop g).frames = (.java g :: mid) ++ below := by rw [State.frames_setTop' g h.top, hmid]; rfl
  obtain ⟨o, s₂, hsteps, -, hend, hq⟩ := Steps.callFree hM p X.admits X.cas X.clock (acts := []) hfr happ hPc trivial
  have hq' : vx_Q Qc XC mc ms free a (U.calling g mk a) o s₂ := hq
  rw [State.frames_setTop' g h.top] at hend
  obtain ⟨g₀, hg0⟩ := Option.isSome_iff_exists.mp h.top
  obtain ⟨r, hr⟩ := State.topJava?_eq_some.mp hg0
  have hr' : (({ U with heap := s₂.heap, slotsUsed := s₂.slotsUsed } : State).setVm s₂.vm).frames = .java g₀ :: r := hr
  rcases hq' with ⟨hqc, L, hfe, hL⟩ | ⟨q, rfl, E, ce, L, hx, hce, hcv, hcl, hW₂, hsm, hL⟩
  · obtain ⟨⟨v, rfl⟩, hW₂, e2, q2, q3, q4, q5, q6⟩ := id hfe
    have e3 : s₂ = ({ (U.calling g mk a).setFrames s₂.frames with heap := s₂.heap, slotsUsed := s₂.slotsUsed } : State).setVm s₂.vm := by
      have : s₂ = ({ s₂ with vm := (U.calling g mk a).vm } : State).setVm s₂.vm := rfl
      rw [e2] at this
      exact this
    obtain ⟨c₂, i₂, len₂, hc₂, hd₂, hf₂⟩ := hend
    have hW' : U.WarmedH s₂.vm := hW₂
    have hcc : c₂ = c := by
      have h1 : s₂.code? g.method = U.code? g.method := by
        rw [State.code?_eq, State.code?_eq, hW'.alike.method?]
      exact Option.some.inj (hc₂.symm.trans (h1.trans h.code))
    subst hcc
    have hlen : len₂ = len := by rw [hdg] at hd₂; cases hd₂; rfl
    subst hlen
    have hs₂ : s₂ = (({ U with heap := s₂.heap, slotsUsed := s₂.slotsUsed } : State).setVm s₂.vm).setTop { g with pc := g.pc + len₂, stack := v.toList ++ g.stack } := by
      refine e3.trans ?_
      rw [hf₂, State.calling_eq h.top, State.setFrames_setFrames, State.setTop_of_frames _ hr', hr]
      rfl
    have hsame : U.sameButNew ({ U with heap := s₂.heap, slotsUsed := s₂.slotsUsed } : State) L mc ms := by
      refine ⟨?_, q2, q3, q4, q5, q6⟩
      obtain ⟨t, ht, -⟩ := State.frames_cons hr
      show ({ U with heap := s₂.heap, slotsUsed := s₂.slotsUsed } : State) = { U.setFrames U.frames with heap := s₂.heap, slotsUsed := s₂.slotsUsed }
      rw [State.setFrames_self ht]
    subst hg
    refine Or.inl ⟨v, ⟨(({ U with heap := s₂.heap, slotsUsed := s₂.slotsUsed } : State).setVm s₂.vm), Ls ++ L, c0 + mc, s0 + ms⟩,
      ⟨X.admits, X.cas, X.clock, X.frames, X.room, X.hears, X.method, X.code, (X.here.setHeapUsed s₂.heap s₂.slotsUsed).setVm hW'.alike, X.tail, State.WarmedH.trans X.warmed hW', X.limits, X.bytes, X.same.trans (hsame.setVm s.vm)⟩,
      ⟨g, mk, s₂, L, rfl, rfl, hqc, rfl, hL, rfl, rfl⟩, ?_⟩
    show Steps p.tables e below _ ((({ U with heap := s₂.heap, slotsUsed := s₂.slotsUsed } : State).setVm s₂.vm).setTop { g with pc := g.pc + len₂, stack := v.toList ++ g.stack })
    rw [← hs₂]
    exact hsteps
  · obtain ⟨e2, q2, q3, q4, q5, q6⟩ := id hsm
    have e3 : s₂ = ({ (U.calling g mk a).setFrames s₂.frames with heap := s₂.heap, slotsUsed := s₂.slotsUsed } : State).setVm s₂.vm := by
      have : s₂ = ({ s₂ with vm := (U.calling g mk a).vm } : State).setVm s₂.vm := rfl
      rw [e2] at this
      exact this
    have hf₂ : s₂.frames = .throwing q :: .java g :: U.frames.tail := hend
    have hW' : U.WarmedH s₂.vm := hW₂
    have hs₂ : s₂ = ((({ U with heap := s₂.heap, slotsUsed := s₂.slotsUsed } : State).setVm s₂.vm).setTop g).pushFrame (.throwing q) := by
      refine e3.trans ?_
      rw [hf₂, State.calling_eq h.top, State.setFrames_setFrames, State.pushFrame, State.frames_setTop _ hr', State.setTop_of_frames _ hr', State.setFrames_setFrames, hr]
      rfl
    have hsame : U.sameButNew ({ U with heap := s₂.heap, slotsUsed := s₂.slotsUsed } : State) L mc ms := by
      refine ⟨?_, q2, q3, q4, q5, q6⟩
      obtain ⟨t, ht, -⟩ := State.frames_cons hr
      show ({ U with heap := s₂.heap, slotsUsed := s₂.slotsUsed } : State) = { U.setFrames U.frames with heap := s₂.heap, slotsUsed := s₂.slotsUsed }
      rw [State.setFrames_self ht]
    subst hg
    refine Or.inr ⟨q, ⟨(({ U with heap := s₂.heap, slotsUsed := s₂.slotsUsed } : State).setVm s₂.vm), Ls ++ L, c0 + mc, s0 + ms⟩,
      ⟨X.admits, X.cas, X.clock, X.frames, X.room, X.hears, X.method, X.code, (X.here.setHeapUsed s₂.heap s₂.slotsUsed).setVm hW'.alike, X.tail, State.WarmedH.trans X.warmed hW', X.limits, X.bytes, X.same.trans (hsame.setVm s.vm)⟩,
      ⟨g, mk, s₂, L, E, ce, rfl, rfl, hx, hce, hcv, hcl, rfl, hL, rfl, rfl⟩, ?_⟩
    show Steps p.tables e below _ (((({ U with heap := s₂.heap, slotsUsed := s₂.slotsUsed } : State).setVm s₂.vm).setTop g).pushFrame (.throwing q))
    rw [← hs₂]
    exact hsteps
end
variable {p : Program} {l : Launch} {e : Env} {R : Room} {s : State} {m : MethodId} {args : Array Value} {below : List Frame} {meth : Method} {c : Code} {T : State} {H : Heap} {locs : List Loc} {cells slots : Nat}
theorem vx_callVX (X : Stand p l e R s m args below meth c T locs cells slots) (hexec : p.tables.exec = Jvm.exec) {own C : String} {index : Nat} {y : MethodName} {bytes : ByteArray} {maxL : Nat} {ret : Option FieldType} {hh : List (Nat × Nat × Nat × Nat)}
    (hown : s.vm.findClass own = some m.cls) (hlink : (Cond.methodLink own index y).before args s = true) (hinst : (Cond.instanceMethod y).before args s = true) (hsel : (Cond.selects C y y).before args s = true)
    (hcode : (Cond.codeWith y bytes maxL ret hh).before args s = true) (hy : y.cls ≠ "java/lang/invoke/MethodHandle" ∧ y.cls ≠ "java/lang/invoke/VarHandle")
    {W9 : Nat} {Pre : Pt → Array Value → Prop} {Post : Pt → Array Value → Option Value → Pt → Prop} {PostX : Pt → Array Value → Addr → Pt → Prop} (hK : vx_Back l R p e below s args y 3 W9 Pre Post PostX)
    {b : Addr} {cellB : Cell} (hcell : T.heap[b]? = some cellB) (hobj : cellB.vm.isStatics = false) (hcls : s.vm.findClass C = some cellB.cls)
    {g : JFrame} (hg : g.method = m) (hsize : g.locals.size = c.maxLocals) {argsL rest : List Value} (hlen : ∀ sig, parseMethodDescriptor y.desc = some sig → argsL.length = sig.parameters.length)
    (hstack : g.stack = argsL.reverse ++ .ref b :: rest) (hW : 2 * g.monitorRoom + (rest.map fun v => v.category).sum ≤ W9) (hdg : decode c.code g.pc = .ok (.invokevirtual index, 3))
    (hpre : ∀ vm₁, s.WarmedH vm₁ → Pre ⟨T.setVm vm₁, locs, cells, slots⟩ (Value.ref b :: argsL).toArray) :
    (∃ (v : Option Value) (vm₁ : Vm) (B : Pt), s.WarmedH vm₁ ∧ Stand p l e R s m args below meth c B.U B.locs B.cells B.slots ∧ Post ⟨T.setVm vm₁, locs, cells, slots⟩ (Value.ref b :: argsL).toArray v B ∧
      ∀ target, Steps p.tables e below (B.U.setTop { g with pc := g.pc + 3, stack := v.toList ++ rest }) target → Steps p.tables e below (T.setTop g) target) ∨
    (∃ (q : Addr) (vm₁ : Vm) (B : Pt), s.WarmedH vm₁ ∧ Stand p l e R s m args below meth c B.U B.locs B.cells B.slots ∧ PostX ⟨T.setVm vm₁, locs, cells, slots⟩ (Value.ref b :: argsL).toArray q B ∧
      Steps p.tables e below (T.setTop g) ((B.U.setTop { g with stack := rest }).pushFrame (.throwing q))) := by
  obtain ⟨mk, methM, hnamed, hmethM, hstM, habM⟩ := Cond.instanceMethod_spec hinst
  obtain ⟨m8, methM', cM, hn8, hmethM', -, -, -, -, -, -, hsigM⟩ := Cond.codeWith_spec hcode
  cases Option.some.inj (hn8.symm.trans hnamed)
  cases hmethM.symm.trans hmethM'
  obtain ⟨c2, r2, m2, q1, q2, q3, q4, kP, hkP, hkPi⟩ := Cond.selects_spec hsel
  cases hcls.symm.trans q1
  cases (State.methodFound?_of_named hnamed hy).symm.trans q2
  cases hnamed.symm.trans q3
  have hselP : selectMethod e.platform s.vm cellB.cls mk = .method mk := by rw [Launch.admits_selectMethod X.admits]; exact q4
  obtain ⟨vm₁, X₁, hstep₁⟩ := X.invokevirtual hexec hown hlink hnamed hmethM hstM hkP hkPi hy (a := b) (cell := cellB) hcell
    (fun z h => by rw [h] at hobj; cases hobj) hselP hmethM habM hkP hkPi (g := g) hg (argsL := argsL) (rest := rest) (hlen _ hsigM) hstack hdg
  rcases hK m meth c ⟨T.setVm vm₁, locs, cells, slots⟩ { g with stack := rest } (.invokevirtual index) mk (Value.ref b :: argsL).toArray X₁ hg hsize hdg hW (X₁.named hnamed) (hpre vm₁ X₁.warmed) with ⟨v, B, X', hpost, hsteps⟩ | ⟨q, B, X', hpost, hsteps⟩
  · exact Or.inl ⟨v, vm₁, B, X₁.warmed, X', hpost, fun target h => hstep₁ _ fun acts => by rw [doInvoke_state]; exact hsteps.trans h⟩
  · exact Or.inr ⟨q, vm₁, B, X₁.warmed, X', hpost, hstep₁ _ fun acts => by rw [doInvoke_state]; exact hsteps⟩
theorem vx_callSX (X : Stand p l e R s m args below meth c T locs cells slots) (hexec : p.tables.exec = Jvm.exec) {own : String} {index : Nat} {y : MethodName} {bytes : ByteArray} {maxL : Nat} {ret : Option FieldType} {hh : List (Nat × Nat × Nat × Nat)}
    (hown : s.vm.findClass own = some m.cls) (hlink : (Cond.methodLink own index y).before args s = true) (hstat : (Cond.static y).before args s = true) (hinit : (Cond.initialized y.cls).before args s = true)
    (hcode : (Cond.codeWith y bytes maxL ret hh).before args s = true) (hy : y.cls ≠ "java/lang/invoke/MethodHandle" ∧ y.cls ≠ "java/lang/invoke/VarHandle")
    {W9 : Nat} {Pre : Pt → Array Value → Prop} {Post : Pt → Array Value → Option Value → Pt → Prop} {PostX : Pt → Array Value → Addr → Pt → Prop} (hK : vx_Back l R p e below s args y 3 W9 Pre Post PostX)
    {g : JFrame} (hg : g.method = m) (hsize : g.locals.size = c.maxLocals) {argsL rest : List Value} (hlen : ∀ sig, parseMethodDescriptor y.desc = some sig → argsL.length = sig.parameters.length)
    (hstack : g.stack = argsL.reverse ++ rest) (hW : 2 * g.monitorRoom + (rest.map fun v => v.category).sum ≤ W9) (hdg : decode c.code g.pc = .ok (.invokestatic index, 3))
    (hpre : ∀ vm₁, s.WarmedH vm₁ → Pre ⟨T.setVm vm₁, locs, cells, slots⟩ argsL.toArray) :
    (∃ (v : Option Value) (vm₁ : Vm) (B : Pt), s.WarmedH vm₁ ∧ Stand p l e R s m args below meth c B.U B.locs B.cells B.slots ∧ Post ⟨T.setVm vm₁, locs, cells, slots⟩ argsL.toArray v B ∧
      ∀ target, Steps p.tables e below (B.U.setTop { g with pc := g.pc + 3, stack := v.toList ++ rest }) target → Steps p.tables e below (T.setTop g) target) ∨
    (∃ (q : Addr) (vm₁ : Vm) (B : Pt), s.WarmedH vm₁ ∧ Stand p l e R s m args below meth c B.U B.locs B.cells B.slots ∧ PostX ⟨T.setVm vm₁, locs, cells, slots⟩ argsL.toArray q B ∧
      Steps p.tables e below (T.setTop g) ((B.U.setTop { g with stack := rest }).pushFrame (.throwing q))) := by
  obtain ⟨mk, methM, cM, hnamed, hmethM, -, -, -, -, -, -, hsigM⟩ := Cond.codeWith_spec hcode
  have hstatic : methM.isStatic = true := Cond.static_spec hnamed hmethM hstat
  obtain ⟨kP, hkP, -⟩ := className_of_methodNamed hnamed
  have hinitP : kP.init = .initialized := Cond.initialized_spec (findClass_of_methodNamed hnamed) hkP hinit
  obtain ⟨vm₁, X₁, hstep₁⟩ := X.invokestatic hexec hown hlink hnamed hmethM hstatic hkP hinitP hy (g := g) hg (argsL := argsL) (rest := rest) (hlen _ hsigM) hstack hdg
  rcases hK m meth c ⟨T.setVm vm₁, locs, cells, slots⟩ { g with stack := rest } (.invokestatic index) mk argsL.toArray X₁ hg hsize hdg hW (X₁.named hnamed) (hpre vm₁ X₁.warmed) with ⟨v, B, X', hpost, hsteps⟩ | ⟨q, B, X', hpost, hsteps⟩
  · exact Or.inl ⟨v, vm₁, B, X₁.warmed, X', hpost, fun target h => hstep₁ _ fun acts => by rw [doInvoke_state]; exact hsteps.trans h⟩
  · exact Or.inr ⟨q, vm₁, B, X₁.warmed, X', hpost, hstep₁ _ fun acts => by rw [doInvoke_state]; exact hsteps⟩
theorem vx_callVW (X : Stand p l e R s m args below meth c T locs cells slots) (hexec : p.tables.exec = Jvm.exec) {own C : String} {index : Nat} {y : MethodName} {bytes : ByteArray} {maxL : Nat} {ret : Option FieldType} {hh : List (Nat × Nat × Nat × Nat)}
    (hown : s.vm.findClass own = some m.cls) (hlink : (Cond.methodLink own index y).before args s = true) (hinst : (Cond.instanceMethod y).before args s = true) (hsel : (Cond.selects C y y).before args s = true)
    (hcode : (Cond.codeWith y bytes maxL ret hh).before args s = true) (hy : y.cls ≠ "java/lang/invoke/MethodHandle" ∧ y.cls ≠ "java/lang/invoke/VarHandle")
    {W9 : Nat} {Pre : Pt → Array Value → Prop} {Post : Pt → Array Value → Option Value → Pt → Prop} (hK : Back l R p e below s args y 3 W9 Pre Post)
    {b : Addr} {cellB : Cell} (hcell : T.heap[b]? = some cellB) (hobj : cellB.vm.isStatics = false) (hcls : s.vm.findClass C = some cellB.cls)
    {g : JFrame} (hg : g.method = m) (hsize : g.locals.size = c.maxLocals) {argsL rest : List Value} (hlen : ∀ sig, parseMethodDescriptor y.desc = some sig → argsL.length = sig.parameters.length)
    (hstack : g.stack = argsL.reverse ++ .ref b :: rest) (hW : 2 * g.monitorRoom + (rest.map fun v => v.category).sum ≤ W9) (hdg : decode c.code g.pc = .ok (.invokevirtual index, 3))
    (hpre : ∀ vm₁, s.WarmedH vm₁ → Pre ⟨T.setVm vm₁, locs, cells, slots⟩ (Value.ref b :: argsL).toArray) :
    ∃ (v : Option Value) (vm₁ : Vm) (B : Pt), s.WarmedH vm₁ ∧ Stand p l e R s m args below meth c B.U B.locs B.cells B.slots ∧ Post ⟨T.setVm vm₁, locs, cells, slots⟩ (Value.ref b :: argsL).toArray v B ∧
      ∀ target, Steps p.tables e below (B.U.setTop { g with pc := g.pc + 3, stack := v.toList ++ rest }) target → Steps p.tables e below (T.setTop g) target := by
  obtain ⟨mk, methM, hnamed, hmethM, hstM, habM⟩ := Cond.instanceMethod_spec hinst
  obtain ⟨m8, methM', cM, hn8, hmethM', -, -, -, -, -, -, hsigM⟩ := Cond.codeWith_spec hcode
  cases Option.some.inj (hn8.symm.trans hnamed)
  cases hmethM.symm.trans hmethM'
  obtain ⟨c2, r2, m2, q1, q2, q3, q4, kP, hkP, hkPi⟩ := Cond.selects_spec hsel
  cases hcls.symm.trans q1
  cases (State.methodFound?_of_named hnamed hy).symm.trans q2
  cases hnamed.symm.trans q3
  have hselP : selectMethod e.platform s.vm cellB.cls mk = .method mk := by rw [Launch.admits_selectMethod X.admits]; exact q4
  obtain ⟨vm₁, X₁, hstep₁⟩ := X.invokevirtual hexec hown hlink hnamed hmethM hstM hkP hkPi hy (a := b) (cell := cellB) hcell
    (fun z h => by rw [h] at hobj; cases hobj) hselP hmethM habM hkP hkPi (g := g) hg (argsL := argsL) (rest := rest) (hlen _ hsigM) hstack hdg
  obtain ⟨v, B, X', hpost, hsteps⟩ := hK m meth c ⟨T.setVm vm₁, locs, cells, slots⟩ { g with stack := rest } (.invokevirtual index) mk (Value.ref b :: argsL).toArray X₁ hg hsize hdg hW (X₁.named hnamed) (hpre vm₁ X₁.warmed)
  exact ⟨v, vm₁, B, X₁.warmed, X', hpost, fun target h => hstep₁ _ fun acts => by rw [doInvoke_state]; exact hsteps.trans h⟩
abbrev vx_CVW (R : Room) (s : State) (args : Array Value) (own C : String) (index : Nat) (y : MethodName) (bytes : ByteArray) (maxL : Nat) (ret : Option FieldType) (hh : List (Nat × Nat × Nat × Nat)) (ws : List Cond) (rm : Room) (mc ms n : Nat) : Prop :=
  (rm.cells = mc ∧ rm.slots = ms ∧ rm.frames + 1 ≤ R.frames ∧ 8 + (maxL + 11) + rm.locals ≤ R.locals ∧ (∀ w ∈ ws, ∀ (a' : Array Value) (U : State), s.WarmedH U.vm → w.before a' U = true) ∧ Cond.codeWith y bytes maxL ret hh ∈ ws) ∧
  (Cond.codeWith y bytes maxL ret hh).before args s = true ∧ (Cond.initialized y.cls).before args s = true ∧ (y.cls ≠ "java/lang/invoke/MethodHandle" ∧ y.cls ≠ "java/lang/invoke/VarHandle") ∧
  (∀ sig, parseMethodDescriptor y.desc = some sig → n = sig.parameters.length) ∧ (Cond.methodLink own index y).before args s = true ∧ (Cond.instanceMethod y).before args s = true ∧ (Cond.selects C y y).before args s = true
theorem vx_cwVW {own C : String} {index maxL mc ms : Nat} {y : MethodName} {bytes : ByteArray} {ret : Option FieldType} {hh : List (Nat × Nat × Nat × Nat)} {Ts ws ws' : List Cond} {rm : Room} (n : Nat) (ht : ∀ w ∈ Ts, w.before args s = true) (hT : GoodIn Ts (wsV own index C y ws)) (hw : ws = Cond.codeWith y bytes maxL ret hh :: ws') (hrc : rm.cells = mc) (hrs : rm.slots = ms)
    (hd : y.cls = C ∧ y.cls ≠ "java/lang/invoke/MethodHandle" ∧ y.cls ≠ "java/lang/invoke/VarHandle" ∧ (parseMethodDescriptor y.desc).map (fun d => d.parameters.length) = some n) (hR : rm.frames + 1 ≤ R.frames ∧ 8 + (maxL + 11) + rm.locals ≤ R.locals) :
    vx_CVW R s args own C index y bytes maxL ret hh ws rm mc ms n := by
  obtain ⟨hC, hd⟩ := hd
  subst hC
  have ok : ∀ w ∈ wsV own index y.cls y ws, w.before args s = true := fun w h => ht w (hT w h).1
  have hG : GoodIn Ts ws := fun w h => hT w (by unfold wsV; exact List.mem_append_right _ h)
  have hc : Cond.codeWith y bytes maxL ret hh ∈ ws := by rw [hw]; exact List.mem_cons_self
  refine ⟨⟨hrc, hrs, hR.1, hR.2, pay_in ht hG, hc⟩, ht _ (hG _ hc).1, ok _ (by simp [wsV]), ⟨hd.1, hd.2.1⟩, fun sig h => ?_, ok _ (by simp [wsV]), ok _ (by simp [wsV]), ok _ (by simp [wsV])⟩
  have h2 := hd.2.2
  rw [h] at h2
  exact (Option.some.inj h2).symm
theorem vx_runVW {y : MethodName} {bytes cc : ByteArray} {maxL nL mc ms n index : Nat} {ret : Option FieldType} {hh : List (Nat × Nat × Nat × Nat)} {ws : List Cond} {rm : Room} {Pc : Array Value → State → Prop} {Qc : Array Value → State → Outcome → State → Prop} {free : Addr → Prop} {Ts : List Cond} {own C : String} {b : Addr} {As rest : List Value} {g : JFrame}
    (S : CallFix p m c cc nL s args Ts own) (hM : Met l y ws rm Pc Qc mc ms free) (cw : vx_CVW R s args own C index y bytes maxL ret hh ws rm mc ms n) (hp : PreV s H C b Pc As)
    (hg : g.method = m) (hn : As.length = n) (hsize : g.locals.size = nL) (hstack : g.stack = As.reverse ++ .ref b :: rest) (hW : 2 * g.monitorRoom + (rest.map fun v => v.category).sum ≤ 8) (hdg : decode cc g.pc = .ok (.invokevirtual index, 3)) (hf : cells + mc ≤ R.cells ∧ slots + ms ≤ R.slots) :
    va_Run p l e R s m args below meth c H locs cells slots mc ms g rest (Qc (Value.ref b :: As).toArray) free := by
  obtain ⟨⟨hrc, hrs, hfr, hlo, hws, hcw⟩, hcode, hini, hy, hlen, hl, hin, hse⟩ := cw
  have hK : Back l R p e below s args y 3 8 (PreOf R mc ms Pc) (PostOf Qc mc ms free) := va_backW (hh := hh) (bytes := bytes) (maxL := maxL) (ret := ret) hM hp.1 hrc hrs hfr hlo hws hcw (fun a' U hW => word_at hW (Or.inl (by first | rfl | simp [Cond.onTables, Cond.keeps, Cond.steady])) hini)
  obtain ⟨hx, hb, hml, ho, -⟩ := S
  obtain ⟨-, ⟨cellB, hcB, hoB, hclB⟩, hPc⟩ := hp
  intro T hT X
  obtain ⟨v, vm₁, ⟨U', l2, c2, s2⟩, hW₁, X', ⟨g', mk, t, L, e1, e2, hq, h1, hL, h2, h3⟩, st⟩ := vx_callVW X hx (C := C) (hh := hh) (bytes := bytes) (maxL := maxL) (ret := ret) ho hl hin hse hcode hy hK (by rw [hT]; exact hcB) hoB hclB hg (hsize.trans hml.symm) (argsL := As) (rest := rest) (fun sig h => hn.trans (hlen sig h)) hstack hW (by rw [hb]; exact hdg)
    (fun vm₁ hW₁ => ⟨hf.1, hf.2, hPc (T.setVm vm₁) hT hW₁⟩)
  dsimp only [Pt.U, Pt.locs, Pt.cells, Pt.slots] at X' e1 e2 h1 h2 h3 st
  subst h1; subst h2; subst h3
  exact ⟨v, (T.setVm vm₁).calling g' mk (Value.ref b :: As).toArray, t, U', L, hT, X', hL, e1, e2, hq, st⟩
section
variable {y : MethodName} {bytes cc : ByteArray} {maxL nL mc ms n index : Nat} {ret : Option FieldType} {ws : List Cond} {rm : Room} {Pc : Array Value → State → Prop} {Qc : Array Value → State → Outcome → State → Prop} {XC : String → State → State → Prop} {free : Addr → Prop} {Ts : List Cond} {own C : String} {b : Addr} {As rest : List Value} {g : JFrame}
theorem vx_runVX {hh : List (Nat × Nat × Nat × Nat)} (S : CallFix p m c cc nL s args Ts own) (hM : vx_Met l y ws rm Pc Qc XC mc ms free) (cw : vx_CVW R s args own C index y bytes maxL ret hh ws rm mc ms n) (hp : PreV s H C b Pc As)
    (hg : g.method = m) (hn : As.length = n) (hsize : g.locals.size = nL) (hstack : g.stack = As.reverse ++ .ref b :: rest) (hW : 2 * g.monitorRoom + (rest.map fun v => v.category).sum ≤ 8) (hdg : decode cc g.pc = .ok (.invokevirtual index, 3)) (hf : cells + mc ≤ R.cells ∧ slots + ms ≤ R.slots) :
    vx_Run p l e R s m args below meth c H locs cells slots mc ms g rest (Qc (Value.ref b :: As).toArray) XC free := by
  obtain ⟨⟨hrc, hrs, hfr, hlo, hws, hcw⟩, hcode, hini, hy, hlen, hl, hin, hse⟩ := cw
  have hK : vx_Back l R p e below s args y 3 8 (PreOf R mc ms Pc) (PostOf Qc mc ms free) (vx_Post XC mc ms free) := vx_backW (hh := hh) (bytes := bytes) (maxL := maxL) (ret := ret) hM hp.1 hrc hrs hfr hlo hws hcw (fun a' U hW => word_at hW (Or.inl (by first | rfl | simp [Cond.onTables, Cond.keeps, Cond.steady])) hini)
  obtain ⟨hx, hb, hml, ho, -⟩ := S
  obtain ⟨-, ⟨cellB, hcB, hoB, hclB⟩, hPc⟩ := hp
  intro T hT X
  rcases vx_callVX X hx (C := C) (hh := hh) (bytes := bytes) (maxL := maxL) (ret := ret) ho hl hin hse hcode hy hK (by rw [hT]; exact hcB) hoB hclB hg (hsize.trans hml.symm) (argsL := As) (rest := rest) (fun sig h => hn.trans (hlen sig h)) hstack hW (by rw [hb]; exact hdg)
    (fun vm₁ hW₁ => ⟨hf.1, hf.2, hPc (T.setVm vm₁) hT hW₁⟩) with ⟨v, vm₁, ⟨U', l2, c2, s2⟩, hW₁, X', ⟨g', mk, t, L, e1, e2, hq, h1, hL, h2, h3⟩, st⟩ | ⟨q, vm₁, ⟨U', l2, c2, s2⟩, hW₁, X', ⟨g', mk, t, L, E, ce, e1, e2, hq, hce, hcv, hcl, h1, hL, h2, h3⟩, st⟩
  · dsimp only [Pt.U, Pt.locs, Pt.cells, Pt.slots] at X' e1 e2 h1 h2 h3 st
    subst h1; subst h2; subst h3
    exact Or.inl ⟨v, (T.setVm vm₁).calling g' mk (Value.ref b :: As).toArray, t, U', L, hT, X', hL, e1, e2, hq, st⟩
  · dsimp only [Pt.U, Pt.locs, Pt.cells, Pt.slots] at X' e1 e2 h1 h2 h3 st hcl
    subst h1; subst h2; subst h3
    exact Or.inr ⟨q, (T.setVm vm₁).calling g' mk (Value.ref b :: As).toArray, t, U', L, E, ce, hT, X', hL, e1, e2, hq, hce, hcv, vx_cls hW₁ hcl, st⟩
theorem vx_runSX {hh : List (Nat × Nat × Nat × Nat)} (S : CallFix p m c cc nL s args Ts own) (hM : vx_Met l y ws rm Pc Qc XC mc ms free) (cw : vx_CSW R s args own index y bytes maxL ret hh ws rm mc ms n) (hp : PreS s H Pc As)
    (hg : g.method = m) (hn : As.length = n) (hsize : g.locals.size = nL) (hstack : g.stack = As.reverse ++ rest) (hW : 2 * g.monitorRoom + (rest.map fun v => v.category).sum ≤ 8) (hdg : decode cc g.pc = .ok (.invokestatic index, 3)) (hf : cells + mc ≤ R.cells ∧ slots + ms ≤ R.slots) :
    vx_Run p l e R s m args below meth c H locs cells slots mc ms g rest (Qc As.toArray) XC free := by
  obtain ⟨⟨hrc, hrs, hfr, hlo, hws, hcw⟩, hcode, hini, hy, hlen, hl, hstt⟩ := cw
  have hK : vx_Back l R p e below s args y 3 8 (PreOf R mc ms Pc) (PostOf Qc mc ms free) (vx_Post XC mc ms free) := vx_backW (hh := hh) (bytes := bytes) (maxL := maxL) (ret := ret) hM hp.1 hrc hrs hfr hlo hws hcw (fun a' U hW => word_at hW (Or.inl (by first | rfl | simp [Cond.onTables, Cond.keeps, Cond.steady])) hini)
  obtain ⟨hx, hb, hml, ho, -⟩ := S
  intro T hT X
  rcases vx_callSX X hx (hh := hh) (bytes := bytes) (maxL := maxL) (ret := ret) ho hl hstt hini hcode hy hK hg (hsize.trans hml.symm) (argsL := As) (rest := rest) (fun sig h => hn.trans (hlen sig h)) hstack hW (by rw [hb]; exact hdg)
    (fun vm₁ hW₁ => ⟨hf.1, hf.2, hp.2 (T.setVm vm₁) hT hW₁⟩) with ⟨v, vm₁, ⟨U', l2, c2, s2⟩, hW₁, X', ⟨g', mk, t, L, e1, e2, hq, h1, hL, h2, h3⟩, st⟩ | ⟨q, vm₁, ⟨U', l2, c2, s2⟩, hW₁, X', ⟨g', mk, t, L, E, ce, e1, e2, hq, hce, hcv, hcl, h1, hL, h2, h3⟩, st⟩
  · dsimp only [Pt.U, Pt.locs, Pt.cells, Pt.slots] at X' e1 e2 h1 h2 h3 st
    subst h1; subst h2; subst h3
    exact Or.inl ⟨v, (T.setVm vm₁).calling g' mk As.toArray, t, U', L, hT, X', hL, e1, e2, hq, st⟩
  · dsimp only [Pt.U, Pt.locs, Pt.cells, Pt.slots] at X' e1 e2 h1 h2 h3 st hcl
    subst h1; subst h2; subst h3
    exact Or.inr ⟨q, (T.setVm vm₁).calling g' mk As.toArray, t, U', L, E, ce, hT, X', hL, e1, e2, hq, hce, hcv, vx_cls hW₁ hcl, st⟩
end
end VXH
theorem vx_ofWH {l : Launch} {y : MethodName} {ws ws' : List Cond} {rm : Room} {Pc : Array Value → State → Prop} {Qc : Array Value → State → Outcome → State → Prop} {XC : String → State → State → Prop} {mc ms : Nat} {free : Addr → Prop} {cc : ByteArray} {maxL : Nat} {ret : Option FieldType} {hh : List (Nat × Nat × Nat × Nat)}
    (hy : plainName y.cls = true) (hw : ws = Cond.codeWith y cc maxL ret hh :: ws')
    (body : ∀ p e s m args below meth c s₁, BodyLoose p l y (headSpec ws rm) cc maxL ret e s m args below meth c s₁ → c.maxLocals = maxL → Pc args s →
      W p l e (headSpec ws rm).room s m args below meth c s.heap [] 0 0 (vx_MQ below Qc XC args s mc ms free) (entryFrame m args maxL)) : vx_Met l y ws rm Pc Qc XC mc ms free := by
  refine MetFree.of_bodyS (code := cc) (maxLocals := maxL) (ret := ret) hy ?_ ?_
  · intro args s m h hn
    obtain ⟨m9, meth, c, hn9, h1, h2, h3, h4, -, h5, h6, -⟩ := Cond.codeWith_spec (atoms_spec (ws := ws) h _ (by rw [hw]; exact List.mem_cons_self))
    cases hn.symm.trans hn9
    exact ⟨meth, c, h1, h2, h3, h4, h5, h6⟩
  · intro p e s m args below meth c s₁ B hml hP _
    have hh0 : s₁.heap = s.heap := by rw [B.state]; rfl
    obtain ⟨t, a1, o, b1, b2, b3⟩ := body p e s m args below meth c s₁ B hml hP s₁ hh0 (Stand.of_body B)
    exact ⟨t, o, a1, b1, b2, b3⟩
/-! ===== END ===== -/
end
section
/-! ===== BEGIN printed: names, fields, word lists, decode rows ===== -/
def RX0 : String := "MeteredSheets$Ledger"
def TX0 : u_T := fun k => match k with
  | 0 => ("MeteredSheets$Ledger", "prices", "[I", true)
  | 1 => ("MeteredSheets$Ledger", "budgets", "[I", true)
  | 2 => ("MeteredSheets$Ledger", "earnings", "[I", true)
  | 3 => ("MeteredSheets$Ledger", "readsOf", "[I", true)
  | 4 => ("MeteredSheets$Ledger", "bills", "[I", true)
  | 5 => ("MeteredSheets$Ledger", "counts", "[I", true)
  | 6 => ("MeteredSheets$Ledger", "kept", "[I", true)
  | _ => ("MeteredSheets$Ledger", "keptCount", "I", false)
def tyX0 : Nat → FieldType := fun k => match k with
  | 0 => .array .int
  | 1 => .array .int
  | 2 => .array .int
  | 3 => .array .int
  | 4 => .array .int
  | 5 => .array .int
  | 6 => .array .int
  | _ => .int
abbrev wsX00 : List Cond := u_ws RX0 TX0 8
theorem nmX0 : ∀ a, a < 8 → ∀ b, b < 8 → a ≠ b → (TX0 a).2.1 ≠ (TX0 b).2.1 := by decide +kernel
theorem tyX0_ok : ∀ k, k < 8 → parseFieldDescriptor (TX0 k).2.2.1 = some (tyX0 k) := by decide +kernel
abbrev cX0_init : ByteArray := prog_2_method_1_code
def yX0_init : MethodName := ⟨RX0, "<init>", "()V"⟩
abbrev cX0_paysFor : ByteArray := prog_2_method_2_code
def yX0_paysFor : MethodName := ⟨RX0, "paysFor", "(IIII)Z"⟩
abbrev cX0_costOf : ByteArray := prog_2_method_3_code
def yX0_costOf : MethodName := ⟨RX0, "costOf", "(I)I"⟩
abbrev cX0_enter : ByteArray := prog_2_method_4_code
def yX0_enter : MethodName := ⟨RX0, "enter", "(III)V"⟩
def RX1 : String := "MeteredSheets"
def TX1 : u_T := fun k => match k with
  | 0 => ("MeteredSheets", "kinds", "[I", true)
  | 1 => ("MeteredSheets", "ones", "[I", true)
  | 2 => ("MeteredSheets", "others", "[I", true)
  | 3 => ("MeteredSheets", "numbers", "[I", true)
  | 4 => ("MeteredSheets", "values", "[I", true)
  | 5 => ("MeteredSheets", "marked", "[Z", true)
  | 6 => ("MeteredSheets", "order", "[I", true)
  | 7 => ("MeteredSheets", "ledger", "LMeteredSheets$Ledger;", true)
  | 8 => ("MeteredSheets", "changed", "[Z", true)
  | 9 => ("MeteredSheets", "placed", "[Z", true)
  | 10 => ("MeteredSheets", "reaching", "[Z", true)
  | _ => ("MeteredSheets", "fresh", "[I", true)
def tyX1 : Nat → FieldType := fun k => match k with
  | 0 => .array .int
  | 1 => .array .int
  | 2 => .array .int
  | 3 => .array .int
  | 4 => .array .int
  | 5 => .array .boolean
  | 6 => .array .int
  | 7 => .object "MeteredSheets$Ledger"
  | 8 => .array .boolean
  | 9 => .array .boolean
  | 10 => .array .boolean
  | _ => .array .int
abbrev wsX10 : List Cond := u_ws RX1 TX1 12
theorem nmX1 : ∀ a, a < 12 → ∀ b, b < 12 → a ≠ b → (TX1 a).2.1 ≠ (TX1 b).2.1 := by decide +kernel
theorem tyX1_ok : ∀ k, k < 12 → parseFieldDescriptor (TX1 k).2.2.1 = some (tyX1 k) := by decide +kernel
abbrev cX1_init : ByteArray := prog_1_method_1_code
def yX1_init : MethodName := ⟨RX1, "<init>", "()V"⟩
abbrev cX1_setNumber : ByteArray := prog_1_method_2_code
def yX1_setNumber : MethodName := ⟨RX1, "setNumber", "(III)I"⟩
abbrev cX1_setSum : ByteArray := prog_1_method_3_code
def yX1_setSum : MethodName := ⟨RX1, "setSum", "(IIIII)I"⟩
abbrev cX1_setGreater : ByteArray := prog_1_method_4_code
def yX1_setGreater : MethodName := ⟨RX1, "setGreater", "(IIII)I"⟩
abbrev cX1_setTimes : ByteArray := prog_1_method_5_code
def yX1_setTimes : MethodName := ⟨RX1, "setTimes", "(IIII)I"⟩
abbrev cX1_refresh : ByteArray := prog_1_method_6_code
def yX1_refresh : MethodName := ⟨RX1, "refresh", "(I)I"⟩
abbrev cX1_setPrice : ByteArray := prog_1_method_7_code
def yX1_setPrice : MethodName := ⟨RX1, "setPrice", "(II)I"⟩
abbrev cX1_grant : ByteArray := prog_1_method_8_code
def yX1_grant : MethodName := ⟨RX1, "grant", "(II)I"⟩
abbrev cX1_budget : ByteArray := prog_1_method_9_code
def yX1_budget : MethodName := ⟨RX1, "budget", "(I)I"⟩
abbrev cX1_earned : ByteArray := prog_1_method_10_code
def yX1_earned : MethodName := ⟨RX1, "earned", "(I)I"⟩
abbrev cX1_caused : ByteArray := prog_1_method_11_code
def yX1_caused : MethodName := ⟨RX1, "caused", "(I)I"⟩
abbrev cX1_value : ByteArray := prog_1_method_12_code
def yX1_value : MethodName := ⟨RX1, "value", "(I)I"⟩
abbrev cX1_isMarked : ByteArray := prog_1_method_13_code
def yX1_isMarked : MethodName := ⟨RX1, "isMarked", "(I)Z"⟩
abbrev cX1_valueAnew : ByteArray := prog_1_method_14_code
def yX1_valueAnew : MethodName := ⟨RX1, "valueAnew", "(I)I"⟩
abbrev cX1_readings : ByteArray := prog_1_method_15_code
def yX1_readings : MethodName := ⟨RX1, "readings", "()I"⟩
abbrev cX1_reading : ByteArray := prog_1_method_16_code
def yX1_reading : MethodName := ⟨RX1, "reading", "(I)I"⟩
abbrev cX1_timesRead : ByteArray := prog_1_method_17_code
def yX1_timesRead : MethodName := ⟨RX1, "timesRead", "(II)I"⟩
abbrev cX1_readOf : ByteArray := prog_1_method_18_code
def yX1_readOf : MethodName := ⟨RX1, "readOf", "(I)I"⟩
abbrev cX1_isUser : ByteArray := prog_1_method_19_code
def yX1_isUser : MethodName := ⟨RX1, "isUser", "(I)Z"⟩
abbrev cX1_isSheet : ByteArray := prog_1_method_20_code
def yX1_isSheet : MethodName := ⟨RX1, "isSheet", "(I)Z"⟩
abbrev cX1_isCell : ByteArray := prog_1_method_21_code
def yX1_isCell : MethodName := ⟨RX1, "isCell", "(I)Z"⟩
abbrev cX1_isWithin : ByteArray := prog_1_method_22_code
def yX1_isWithin : MethodName := ⟨RX1, "isWithin", "(II)Z"⟩
abbrev cX1_sheetOf : ByteArray := prog_1_method_23_code
def yX1_sheetOf : MethodName := ⟨RX1, "sheetOf", "(I)I"⟩
abbrev cX1_wouldReadItself : ByteArray := prog_1_method_24_code
def yX1_wouldReadItself : MethodName := ⟨RX1, "wouldReadItself", "(III)Z"⟩
abbrev cX1_readsOneOf : ByteArray := prog_1_method_25_code
def yX1_readsOneOf : MethodName := ⟨RX1, "readsOneOf", "(I[Z)Z"⟩
abbrev cX1_isIn : ByteArray := prog_1_method_26_code
def yX1_isIn : MethodName := ⟨RX1, "isIn", "(I[Z)Z"⟩
abbrev cX1_giveFormula : ByteArray := prog_1_method_27_code
def yX1_giveFormula : MethodName := ⟨RX1, "giveFormula", "(IIIIII)I"⟩
abbrev cX1_putInOrder : ByteArray := prog_1_method_28_code
def yX1_putInOrder : MethodName := ⟨RX1, "putInOrder", "()V"⟩
abbrev cX1_lowestFreeCell : ByteArray := prog_1_method_29_code
def yX1_lowestFreeCell : MethodName := ⟨RX1, "lowestFreeCell", "()I"⟩
abbrev cX1_isReady : ByteArray := prog_1_method_30_code
def yX1_isReady : MethodName := ⟨RX1, "isReady", "(I)Z"⟩
abbrev cX1_forgetChanges : ByteArray := prog_1_method_31_code
def yX1_forgetChanges : MethodName := ⟨RX1, "forgetChanges", "()V"⟩
abbrev cX1_goThrough : ByteArray := prog_1_method_32_code
def yX1_goThrough : MethodName := ⟨RX1, "goThrough", "(IZ)I"⟩
abbrev cX1_compute : ByteArray := prog_1_method_33_code
def yX1_compute : MethodName := ⟨RX1, "compute", "(II)V"⟩
abbrev cX1_meteredRead : ByteArray := prog_1_method_34_code
def yX1_meteredRead : MethodName := ⟨RX1, "meteredRead", "(II)I"⟩
abbrev cX1_resultOf : ByteArray := prog_1_method_35_code
def yX1_resultOf : MethodName := ⟨RX1, "resultOf", "(I[I)I"⟩
abbrev cX1_valueIn : ByteArray := prog_1_method_36_code
def yX1_valueIn : MethodName := ⟨RX1, "valueIn", "([II)I"⟩
abbrev cX1_held : ByteArray := prog_1_method_37_code
def yX1_held : MethodName := ⟨RX1, "held", "(I)I"⟩
def RX2 : String := "MeteredSheetsModel"
def TX2 : u_T := fun k => match k with
  | _ => ("", "", "", false)
def tyX2 : Nat → FieldType := fun k => match k with
  | _ => .int
abbrev wsX20 : List Cond := u_ws RX2 TX2 0
theorem nmX2 : ∀ a, a < 0 → ∀ b, b < 0 → a ≠ b → (TX2 a).2.1 ≠ (TX2 b).2.1 := by decide +kernel
theorem tyX2_ok : ∀ k, k < 0 → parseFieldDescriptor (TX2 k).2.2.1 = some (tyX2 k) := by decide +kernel
def RJ9 : String := "java/lang/Math"
def TJ9 : u_T := fun k => match k with
  | _ => ("", "", "", false)
def tyJ9 : Nat → FieldType := fun k => match k with
  | _ => .int
abbrev wsJ90 : List Cond := u_ws RJ9 TJ9 0
theorem nmJ9 : ∀ a, a < 0 → ∀ b, b < 0 → a ≠ b → (TJ9 a).2.1 ≠ (TJ9 b).2.1 := by decide +kernel
theorem tyJ9_ok : ∀ k, k < 0 → parseFieldDescriptor (TJ9 k).2.2.1 = some (tyJ9 k) := by decide +kernel
abbrev cJ9_max_7cf53 : ByteArray := prog_9_method_65_code
def yJ9_max_7cf53 : MethodName := ⟨RJ9, "max", "(II)I"⟩
abbrev cJ9_min_7cf53 : ByteArray := prog_9_method_69_code
def yJ9_min_7cf53 : MethodName := ⟨RJ9, "min", "(II)I"⟩
def RJ0 : String := "java/lang/String"
def TJ0 : u_T := fun k => match k with
  | _ => ("", "", "", false)
def tyJ0 : Nat → FieldType := fun k => match k with
  | _ => .int
abbrev wsJ00 : List Cond := u_ws RJ0 TJ0 0
theorem nmJ0 : ∀ a, a < 0 → ∀ b, b < 0 → a ≠ b → (TJ0 a).2.1 ≠ (TJ0 b).2.1 := by decide +kernel
theorem tyJ0_ok : ∀ k, k < 0 → parseFieldDescriptor (TJ0 k).2.2.1 = some (tyJ0 k) := by decide +kernel
def RL : String := "MeteredSheetsLaw"
abbrev cL_cell : ByteArray := method_2_code
def yL_cell : MethodName := ⟨RL, "cell", "([II)I"⟩
abbrev cL_at : ByteArray := method_3_code
def yL_at : MethodName := ⟨RL, "at", "(II)I"⟩
abbrev cL_marked : ByteArray := method_4_code
def yL_marked : MethodName := ⟨RL, "marked", "(LMeteredSheets;)I"⟩
abbrev cL_accounts : ByteArray := method_5_code
def yL_accounts : MethodName := ⟨RL, "accounts", "(LMeteredSheets;[I)Z"⟩
abbrev cL_traced : ByteArray := method_6_code
def yL_traced : MethodName := ⟨RL, "traced", "(LMeteredSheets;I[I)Z"⟩
abbrev cL_give : ByteArray := method_7_code
def yL_give : MethodName := ⟨RL, "give", "(LMeteredSheets;III)I"⟩
abbrev cL_right : ByteArray := method_8_code
def yL_right : MethodName := ⟨RL, "right", "(LMeteredSheets;)Z"⟩
abbrev cL_law : ByteArray := code
def yL_law : MethodName := ⟨RL, "law", "([I)Z"⟩
def wsX0_init : List Cond := .code yX0_init cX0_init 2 none :: ([.methodLink RX0 3 objectInit, .instanceMethod objectInit, .code objectInit ⟨#[0xb1]⟩ 1 none, .arrayClass .int, .fieldLink RX0 9 "MeteredSheets$Ledger" "prices" "[I", .fieldLink RX0 15 "MeteredSheets$Ledger" "budgets" "[I", .fieldLink RX0 18 "MeteredSheets$Ledger" "earnings" "[I", .fieldLink RX0 21 "MeteredSheets$Ledger" "readsOf" "[I", .fieldLink RX0 24 "MeteredSheets$Ledger" "bills" "[I", .fieldLink RX0 27 "MeteredSheets$Ledger" "counts" "[I", .fieldLink RX0 30 "MeteredSheets$Ledger" "kept" "[I", .fieldLink RX0 33 "MeteredSheets$Ledger" "keptCount" "I"] ++ wsX00)
def wsX1_sheetOf : List Cond := .code yX1_sheetOf cX1_sheetOf 1 (some .int) :: ([])
def wsX1_isCell : List Cond := .code yX1_isCell cX1_isCell 1 (some .boolean) :: ([])
def wsX0_costOf : List Cond := .code yX0_costOf cX0_costOf 2 (some .int) :: ([.fieldLink RX0 9 "MeteredSheets$Ledger" "prices" "[I", .static yX1_isCell, .initialized RX1, .code yX1_isCell cX1_isCell 1 (some .boolean), .static yX1_sheetOf, .code yX1_sheetOf cX1_sheetOf 1 (some .int)] ++ wsX00)
def wsX0_enter : List Cond := .code yX0_enter cX0_enter 5 none :: ([.fieldLink RX0 18 "MeteredSheets$Ledger" "earnings" "[I", .fieldLink RX0 9 "MeteredSheets$Ledger" "prices" "[I", .fieldLink RX0 24 "MeteredSheets$Ledger" "bills" "[I", .fieldLink RX0 21 "MeteredSheets$Ledger" "readsOf" "[I", .fieldLink RX0 27 "MeteredSheets$Ledger" "counts" "[I", .fieldLink RX0 33 "MeteredSheets$Ledger" "keptCount" "I", .fieldLink RX0 30 "MeteredSheets$Ledger" "kept" "[I", .static yX1_isCell, .initialized RX1, .code yX1_isCell cX1_isCell 1 (some .boolean), .static yX1_sheetOf, .code yX1_sheetOf cX1_sheetOf 1 (some .int)] ++ wsX00)
def wsX0_paysFor : List Cond := .code yX0_paysFor cX0_paysFor 7 (some .boolean) :: ([.fieldLink RX0 15 "MeteredSheets$Ledger" "budgets" "[I", .static yX1_sheetOf, .initialized RX1, .code yX1_sheetOf cX1_sheetOf 1 (some .int), .methodLink RX0 41 yX0_costOf, .instanceMethod yX0_costOf, .selects RX0 yX0_costOf yX0_costOf, .initialized RX0, .code yX0_costOf cX0_costOf 2 (some .int), .fieldLink RX0 9 "MeteredSheets$Ledger" "prices" "[I", .static yX1_isCell, .code yX1_isCell cX1_isCell 1 (some .boolean), .methodLink RX0 44 yX0_enter, .instanceMethod yX0_enter, .selects RX0 yX0_enter yX0_enter, .code yX0_enter cX0_enter 5 none, .fieldLink RX0 18 "MeteredSheets$Ledger" "earnings" "[I", .fieldLink RX0 24 "MeteredSheets$Ledger" "bills" "[I", .fieldLink RX0 21 "MeteredSheets$Ledger" "readsOf" "[I", .fieldLink RX0 27 "MeteredSheets$Ledger" "counts" "[I", .fieldLink RX0 33 "MeteredSheets$Ledger" "keptCount" "I", .fieldLink RX0 30 "MeteredSheets$Ledger" "kept" "[I"] ++ wsX00)
def wsX1_init_r1 : List Cond := [Cond.methodLink RX1 1 objectInit, Cond.instanceMethod objectInit, Cond.code objectInit ⟨#[0xb1]⟩ 1 none, Cond.arrayClass .int, Cond.fieldLink RX1 9 "MeteredSheets" "kinds" "[I", Cond.fieldLink RX1 13 "MeteredSheets" "ones" "[I", Cond.fieldLink RX1 16 "MeteredSheets" "others" "[I", Cond.fieldLink RX1 19 "MeteredSheets" "numbers" "[I", Cond.fieldLink RX1 22 "MeteredSheets" "values" "[I", Cond.arrayClass .boolean, Cond.fieldLink RX1 25 "MeteredSheets" "marked" "[Z", Cond.fieldLink RX1 29 "MeteredSheets" "order" "[I", Cond.classLink RX1 32 RX0, Cond.instantiable RX0 8, Cond.initialized RX0, Cond.fieldLink RX1 35 "MeteredSheets" "ledger" "LMeteredSheets$Ledger;", Cond.fieldLink RX1 39 "MeteredSheets" "changed" "[Z", Cond.fieldLink RX1 42 "MeteredSheets" "placed" "[Z", Cond.fieldLink RX1 45 "MeteredSheets" "reaching" "[Z", Cond.fieldLink RX1 48 "MeteredSheets" "fresh" "[I", Cond.instanceMethod yX0_init, Cond.code yX0_init cX0_init 2 none, Cond.methodLink RX0 3 objectInit, Cond.fieldLink RX0 9 "MeteredSheets$Ledger" "prices" "[I"]
def wsX1_init_r2 : List Cond := [Cond.fieldLink RX0 15 "MeteredSheets$Ledger" "budgets" "[I", Cond.fieldLink RX0 18 "MeteredSheets$Ledger" "earnings" "[I", Cond.fieldLink RX0 21 "MeteredSheets$Ledger" "readsOf" "[I", Cond.fieldLink RX0 24 "MeteredSheets$Ledger" "bills" "[I", Cond.fieldLink RX0 27 "MeteredSheets$Ledger" "counts" "[I", Cond.fieldLink RX0 30 "MeteredSheets$Ledger" "kept" "[I", Cond.fieldLink RX0 33 "MeteredSheets$Ledger" "keptCount" "I"]
def wsX1_init : List Cond := .code yX1_init cX1_init 2 none :: ((wsX1_init_r1 ++ wsX1_init_r2) ++ wsX10 ++ wsX00)
def wsX1_isUser : List Cond := .code yX1_isUser cX1_isUser 1 (some .boolean) :: ([])
def wsX1_isWithin : List Cond := .code yX1_isWithin cX1_isWithin 2 (some .boolean) :: ([])
def wsX1_isIn : List Cond := .code yX1_isIn cX1_isIn 2 (some .boolean) :: ([])
def wsX1_isReady : List Cond := .code yX1_isReady cX1_isReady 2 (some .boolean) :: ([.fieldLink RX1 42 "MeteredSheets" "placed" "[Z", .methodLink RX1 149 yX1_isIn, .static yX1_isIn, .initialized RX1, .code yX1_isIn cX1_isIn 2 (some .boolean)] ++ wsX10)
def wsX1_lowestFreeCell : List Cond := .code yX1_lowestFreeCell cX1_lowestFreeCell 2 (some .int) :: ([.fieldLink RX1 42 "MeteredSheets" "placed" "[Z", .fieldLink RX1 13 "MeteredSheets" "ones" "[I", .fieldLink RX1 16 "MeteredSheets" "others" "[I", .methodLink RX1 163 yX1_isReady, .instanceMethod yX1_isReady, .selects RX1 yX1_isReady yX1_isReady, .initialized RX1, .code yX1_isReady cX1_isReady 2 (some .boolean), .methodLink RX1 149 yX1_isIn, .static yX1_isIn, .code yX1_isIn cX1_isIn 2 (some .boolean)] ++ wsX10)
def wsX1_putInOrder : List Cond := .code yX1_putInOrder cX1_putInOrder 3 none :: ([.fieldLink RX1 42 "MeteredSheets" "placed" "[Z", .fieldLink RX1 29 "MeteredSheets" "order" "[I", .methodLink RX1 159 yX1_lowestFreeCell, .instanceMethod yX1_lowestFreeCell, .selects RX1 yX1_lowestFreeCell yX1_lowestFreeCell, .initialized RX1, .code yX1_lowestFreeCell cX1_lowestFreeCell 2 (some .int), .fieldLink RX1 13 "MeteredSheets" "ones" "[I", .fieldLink RX1 16 "MeteredSheets" "others" "[I", .methodLink RX1 163 yX1_isReady, .instanceMethod yX1_isReady, .selects RX1 yX1_isReady yX1_isReady, .code yX1_isReady cX1_isReady 2 (some .boolean), .methodLink RX1 149 yX1_isIn, .static yX1_isIn, .code yX1_isIn cX1_isIn 2 (some .boolean), .methodLink RX1 55 yX1_isCell, .static yX1_isCell, .code yX1_isCell cX1_isCell 1 (some .boolean)] ++ wsX10)
def wsX1_forgetChanges : List Cond := .code yX1_forgetChanges cX1_forgetChanges 2 none :: ([.fieldLink RX1 39 "MeteredSheets" "changed" "[Z"] ++ wsX10)
def wsX1_meteredRead : List Cond := .code yX1_meteredRead cX1_meteredRead 2 (some .int) :: ([.methodLink RX1 55 yX1_isCell, .static yX1_isCell, .initialized RX1, .code yX1_isCell cX1_isCell 1 (some .boolean), .methodLink RX1 174 yX1_sheetOf, .static yX1_sheetOf, .code yX1_sheetOf cX1_sheetOf 1 (some .int)])
def wsX1_valueIn : List Cond := .code yX1_valueIn cX1_valueIn 2 (some .int) :: ([])
def wsX1_held : List Cond := .code yX1_held cX1_held 1 (some .int) :: ([.constant RX1 190 (-1000000), .constant RX1 58 (1000000), .methodLink RX1 191 Lib.Math.min.name, .static Lib.Math.min.name, .initialized "java/lang/Math", .code Lib.Math.min.name Lib.Math.min.code 2 (some .int), .methodLink RX1 185 Lib.Math.max.name, .static Lib.Math.max.name, .code Lib.Math.max.name Lib.Math.max.code 2 (some .int)])
def wsX1_resultOf : List Cond := .code yX1_resultOf cX1_resultOf 5 (some .int) :: ([.fieldLink RX1 13 "MeteredSheets" "ones" "[I", .fieldLink RX1 16 "MeteredSheets" "others" "[I", .fieldLink RX1 9 "MeteredSheets" "kinds" "[I", .fieldLink RX1 19 "MeteredSheets" "numbers" "[I", .methodLink RX1 185 Lib.Math.max.name, .static Lib.Math.max.name, .initialized "java/lang/Math", .code Lib.Math.max.name Lib.Math.max.code 2 (some .int), .methodLink RX1 178 yX1_valueIn, .static yX1_valueIn, .initialized RX1, .code yX1_valueIn cX1_valueIn 2 (some .int), .methodLink RX1 182 yX1_held, .static yX1_held, .code yX1_held cX1_held 1 (some .int), .constant RX1 190 (-1000000), .constant RX1 58 (1000000), .methodLink RX1 191 Lib.Math.min.name, .static Lib.Math.min.name, .code Lib.Math.min.name Lib.Math.min.code 2 (some .int)] ++ wsX10)
def wsX1_compute_r1 : List Cond := [Cond.fieldLink RX1 13 "MeteredSheets" "ones" "[I", Cond.fieldLink RX1 16 "MeteredSheets" "others" "[I", Cond.fieldLink RX1 25 "MeteredSheets" "marked" "[Z", Cond.fieldLink RX1 35 "MeteredSheets" "ledger" "LMeteredSheets$Ledger;", Cond.fieldLink RX1 22 "MeteredSheets" "values" "[I", Cond.fieldLink RX1 39 "MeteredSheets" "changed" "[Z", Cond.methodLink RX1 166 yX1_meteredRead, Cond.static yX1_meteredRead, Cond.initialized RX1, Cond.code yX1_meteredRead cX1_meteredRead 2 (some .int), Cond.methodLink RX1 55 yX1_isCell, Cond.static yX1_isCell, Cond.code yX1_isCell cX1_isCell 1 (some .boolean), Cond.methodLink RX1 174 yX1_sheetOf, Cond.static yX1_sheetOf, Cond.code yX1_sheetOf cX1_sheetOf 1 (some .int), Cond.instanceMethod yX0_paysFor, Cond.initialized RX0, Cond.selects RX0 yX0_paysFor yX0_paysFor, Cond.code yX0_paysFor cX0_paysFor 7 (some .boolean), Cond.fieldLink RX0 15 "MeteredSheets$Ledger" "budgets" "[I", Cond.methodLink RX0 41 yX0_costOf, Cond.instanceMethod yX0_costOf, Cond.selects RX0 yX0_costOf yX0_costOf]
def wsX1_compute_r2 : List Cond := [Cond.code yX0_costOf cX0_costOf 2 (some .int), Cond.fieldLink RX0 9 "MeteredSheets$Ledger" "prices" "[I", Cond.methodLink RX0 44 yX0_enter, Cond.instanceMethod yX0_enter, Cond.selects RX0 yX0_enter yX0_enter, Cond.code yX0_enter cX0_enter 5 none, Cond.fieldLink RX0 18 "MeteredSheets$Ledger" "earnings" "[I", Cond.fieldLink RX0 24 "MeteredSheets$Ledger" "bills" "[I", Cond.fieldLink RX0 21 "MeteredSheets$Ledger" "readsOf" "[I", Cond.fieldLink RX0 27 "MeteredSheets$Ledger" "counts" "[I", Cond.fieldLink RX0 33 "MeteredSheets$Ledger" "keptCount" "I", Cond.fieldLink RX0 30 "MeteredSheets$Ledger" "kept" "[I", Cond.methodLink RX1 121 yX1_resultOf, Cond.instanceMethod yX1_resultOf, Cond.selects RX1 yX1_resultOf yX1_resultOf, Cond.code yX1_resultOf cX1_resultOf 5 (some .int), Cond.fieldLink RX1 9 "MeteredSheets" "kinds" "[I", Cond.fieldLink RX1 19 "MeteredSheets" "numbers" "[I", Cond.methodLink RX1 185 Lib.Math.max.name, Cond.static Lib.Math.max.name, Cond.initialized "java/lang/Math", Cond.code Lib.Math.max.name Lib.Math.max.code 2 (some .int), Cond.methodLink RX1 178 yX1_valueIn, Cond.static yX1_valueIn]
def wsX1_compute_r3 : List Cond := [Cond.code yX1_valueIn cX1_valueIn 2 (some .int), Cond.methodLink RX1 182 yX1_held, Cond.static yX1_held, Cond.code yX1_held cX1_held 1 (some .int), Cond.constant RX1 190 (-1000000), Cond.constant RX1 58 (1000000), Cond.methodLink RX1 191 Lib.Math.min.name, Cond.static Lib.Math.min.name, Cond.code Lib.Math.min.name Lib.Math.min.code 2 (some .int)]
def wsX1_compute : List Cond := .code yX1_compute cX1_compute 6 none :: ((wsX1_compute_r1 ++ (wsX1_compute_r2 ++ wsX1_compute_r3)) ++ wsX10 ++ wsX00)
def wsX1_readsOneOf : List Cond := .code yX1_readsOneOf cX1_readsOneOf 3 (some .boolean) :: ([.fieldLink RX1 13 "MeteredSheets" "ones" "[I", .fieldLink RX1 16 "MeteredSheets" "others" "[I", .methodLink RX1 149 yX1_isIn, .static yX1_isIn, .initialized RX1, .code yX1_isIn cX1_isIn 2 (some .boolean)] ++ wsX10)
def wsX1_goThrough_r1 : List Cond := [Cond.fieldLink RX1 29 "MeteredSheets" "order" "[I", Cond.fieldLink RX1 39 "MeteredSheets" "changed" "[Z", Cond.fieldLink RX1 25 "MeteredSheets" "marked" "[Z", Cond.methodLink RX1 55 yX1_isCell, Cond.static yX1_isCell, Cond.initialized RX1, Cond.code yX1_isCell cX1_isCell 1 (some .boolean), Cond.methodLink RX1 145 yX1_readsOneOf, Cond.instanceMethod yX1_readsOneOf, Cond.selects RX1 yX1_readsOneOf yX1_readsOneOf, Cond.code yX1_readsOneOf cX1_readsOneOf 3 (some .boolean), Cond.fieldLink RX1 13 "MeteredSheets" "ones" "[I", Cond.fieldLink RX1 16 "MeteredSheets" "others" "[I", Cond.methodLink RX1 149 yX1_isIn, Cond.static yX1_isIn, Cond.code yX1_isIn cX1_isIn 2 (some .boolean), Cond.methodLink RX1 155 yX1_compute, Cond.instanceMethod yX1_compute, Cond.selects RX1 yX1_compute yX1_compute, Cond.code yX1_compute cX1_compute 6 none, Cond.fieldLink RX1 35 "MeteredSheets" "ledger" "LMeteredSheets$Ledger;", Cond.fieldLink RX1 22 "MeteredSheets" "values" "[I", Cond.methodLink RX1 166 yX1_meteredRead, Cond.static yX1_meteredRead]
def wsX1_goThrough_r2 : List Cond := [Cond.code yX1_meteredRead cX1_meteredRead 2 (some .int), Cond.methodLink RX1 174 yX1_sheetOf, Cond.static yX1_sheetOf, Cond.code yX1_sheetOf cX1_sheetOf 1 (some .int), Cond.instanceMethod yX0_paysFor, Cond.initialized RX0, Cond.selects RX0 yX0_paysFor yX0_paysFor, Cond.code yX0_paysFor cX0_paysFor 7 (some .boolean), Cond.fieldLink RX0 15 "MeteredSheets$Ledger" "budgets" "[I", Cond.methodLink RX0 41 yX0_costOf, Cond.instanceMethod yX0_costOf, Cond.selects RX0 yX0_costOf yX0_costOf, Cond.code yX0_costOf cX0_costOf 2 (some .int), Cond.fieldLink RX0 9 "MeteredSheets$Ledger" "prices" "[I", Cond.methodLink RX0 44 yX0_enter, Cond.instanceMethod yX0_enter, Cond.selects RX0 yX0_enter yX0_enter, Cond.code yX0_enter cX0_enter 5 none, Cond.fieldLink RX0 18 "MeteredSheets$Ledger" "earnings" "[I", Cond.fieldLink RX0 24 "MeteredSheets$Ledger" "bills" "[I", Cond.fieldLink RX0 21 "MeteredSheets$Ledger" "readsOf" "[I", Cond.fieldLink RX0 27 "MeteredSheets$Ledger" "counts" "[I", Cond.fieldLink RX0 33 "MeteredSheets$Ledger" "keptCount" "I", Cond.fieldLink RX0 30 "MeteredSheets$Ledger" "kept" "[I"]
def wsX1_goThrough_r3 : List Cond := [Cond.methodLink RX1 121 yX1_resultOf, Cond.instanceMethod yX1_resultOf, Cond.selects RX1 yX1_resultOf yX1_resultOf, Cond.code yX1_resultOf cX1_resultOf 5 (some .int), Cond.fieldLink RX1 9 "MeteredSheets" "kinds" "[I", Cond.fieldLink RX1 19 "MeteredSheets" "numbers" "[I", Cond.methodLink RX1 185 Lib.Math.max.name, Cond.static Lib.Math.max.name, Cond.initialized "java/lang/Math", Cond.code Lib.Math.max.name Lib.Math.max.code 2 (some .int), Cond.methodLink RX1 178 yX1_valueIn, Cond.static yX1_valueIn, Cond.code yX1_valueIn cX1_valueIn 2 (some .int), Cond.methodLink RX1 182 yX1_held, Cond.static yX1_held, Cond.code yX1_held cX1_held 1 (some .int), Cond.constant RX1 190 (-1000000), Cond.constant RX1 58 (1000000), Cond.methodLink RX1 191 Lib.Math.min.name, Cond.static Lib.Math.min.name, Cond.code Lib.Math.min.name Lib.Math.min.code 2 (some .int)]
def wsX1_goThrough : List Cond := .code yX1_goThrough cX1_goThrough 6 (some .int) :: ((wsX1_goThrough_r1 ++ (wsX1_goThrough_r2 ++ wsX1_goThrough_r3)) ++ wsX10 ++ wsX00)
def wsX1_giveFormula_r1 : List Cond := [Cond.fieldLink RX1 9 "MeteredSheets" "kinds" "[I", Cond.fieldLink RX1 13 "MeteredSheets" "ones" "[I", Cond.fieldLink RX1 16 "MeteredSheets" "others" "[I", Cond.fieldLink RX1 19 "MeteredSheets" "numbers" "[I", Cond.methodLink RX1 152 yX1_putInOrder, Cond.instanceMethod yX1_putInOrder, Cond.selects RX1 yX1_putInOrder yX1_putInOrder, Cond.initialized RX1, Cond.code yX1_putInOrder cX1_putInOrder 3 none, Cond.fieldLink RX1 42 "MeteredSheets" "placed" "[Z", Cond.fieldLink RX1 29 "MeteredSheets" "order" "[I", Cond.methodLink RX1 159 yX1_lowestFreeCell, Cond.instanceMethod yX1_lowestFreeCell, Cond.selects RX1 yX1_lowestFreeCell yX1_lowestFreeCell, Cond.code yX1_lowestFreeCell cX1_lowestFreeCell 2 (some .int), Cond.methodLink RX1 163 yX1_isReady, Cond.instanceMethod yX1_isReady, Cond.selects RX1 yX1_isReady yX1_isReady, Cond.code yX1_isReady cX1_isReady 2 (some .boolean), Cond.methodLink RX1 149 yX1_isIn, Cond.static yX1_isIn, Cond.code yX1_isIn cX1_isIn 2 (some .boolean), Cond.methodLink RX1 55 yX1_isCell, Cond.static yX1_isCell]
def wsX1_giveFormula_r2 : List Cond := [Cond.code yX1_isCell cX1_isCell 1 (some .boolean), Cond.methodLink RX1 91 yX1_forgetChanges, Cond.instanceMethod yX1_forgetChanges, Cond.selects RX1 yX1_forgetChanges yX1_forgetChanges, Cond.code yX1_forgetChanges cX1_forgetChanges 2 none, Cond.fieldLink RX1 39 "MeteredSheets" "changed" "[Z", Cond.methodLink RX1 155 yX1_compute, Cond.instanceMethod yX1_compute, Cond.selects RX1 yX1_compute yX1_compute, Cond.code yX1_compute cX1_compute 6 none, Cond.fieldLink RX1 25 "MeteredSheets" "marked" "[Z", Cond.fieldLink RX1 35 "MeteredSheets" "ledger" "LMeteredSheets$Ledger;", Cond.fieldLink RX1 22 "MeteredSheets" "values" "[I", Cond.methodLink RX1 166 yX1_meteredRead, Cond.static yX1_meteredRead, Cond.code yX1_meteredRead cX1_meteredRead 2 (some .int), Cond.methodLink RX1 174 yX1_sheetOf, Cond.static yX1_sheetOf, Cond.code yX1_sheetOf cX1_sheetOf 1 (some .int), Cond.instanceMethod yX0_paysFor, Cond.initialized RX0, Cond.selects RX0 yX0_paysFor yX0_paysFor, Cond.code yX0_paysFor cX0_paysFor 7 (some .boolean), Cond.fieldLink RX0 15 "MeteredSheets$Ledger" "budgets" "[I"]
def wsX1_giveFormula_r3 : List Cond := [Cond.methodLink RX0 41 yX0_costOf, Cond.instanceMethod yX0_costOf, Cond.selects RX0 yX0_costOf yX0_costOf, Cond.code yX0_costOf cX0_costOf 2 (some .int), Cond.fieldLink RX0 9 "MeteredSheets$Ledger" "prices" "[I", Cond.methodLink RX0 44 yX0_enter, Cond.instanceMethod yX0_enter, Cond.selects RX0 yX0_enter yX0_enter, Cond.code yX0_enter cX0_enter 5 none, Cond.fieldLink RX0 18 "MeteredSheets$Ledger" "earnings" "[I", Cond.fieldLink RX0 24 "MeteredSheets$Ledger" "bills" "[I", Cond.fieldLink RX0 21 "MeteredSheets$Ledger" "readsOf" "[I", Cond.fieldLink RX0 27 "MeteredSheets$Ledger" "counts" "[I", Cond.fieldLink RX0 33 "MeteredSheets$Ledger" "keptCount" "I", Cond.fieldLink RX0 30 "MeteredSheets$Ledger" "kept" "[I", Cond.methodLink RX1 121 yX1_resultOf, Cond.instanceMethod yX1_resultOf, Cond.selects RX1 yX1_resultOf yX1_resultOf, Cond.code yX1_resultOf cX1_resultOf 5 (some .int), Cond.methodLink RX1 185 Lib.Math.max.name, Cond.static Lib.Math.max.name, Cond.initialized "java/lang/Math", Cond.code Lib.Math.max.name Lib.Math.max.code 2 (some .int), Cond.methodLink RX1 178 yX1_valueIn]
def wsX1_giveFormula_r4 : List Cond := [Cond.static yX1_valueIn, Cond.code yX1_valueIn cX1_valueIn 2 (some .int), Cond.methodLink RX1 182 yX1_held, Cond.static yX1_held, Cond.code yX1_held cX1_held 1 (some .int), Cond.constant RX1 190 (-1000000), Cond.constant RX1 58 (1000000), Cond.methodLink RX1 191 Lib.Math.min.name, Cond.static Lib.Math.min.name, Cond.code Lib.Math.min.name Lib.Math.min.code 2 (some .int), Cond.methodLink RX1 94 yX1_goThrough, Cond.instanceMethod yX1_goThrough, Cond.selects RX1 yX1_goThrough yX1_goThrough, Cond.code yX1_goThrough cX1_goThrough 6 (some .int), Cond.methodLink RX1 145 yX1_readsOneOf, Cond.instanceMethod yX1_readsOneOf, Cond.selects RX1 yX1_readsOneOf yX1_readsOneOf, Cond.code yX1_readsOneOf cX1_readsOneOf 3 (some .boolean)]
def wsX1_giveFormula : List Cond := .code yX1_giveFormula cX1_giveFormula 7 (some .int) :: ((wsX1_giveFormula_r1 ++ (wsX1_giveFormula_r2 ++ (wsX1_giveFormula_r3 ++ wsX1_giveFormula_r4))) ++ wsX10 ++ wsX00)
def wsX1_setNumber_r1 : List Cond := [Cond.classLink RX1 63 "java/lang/IllegalArgumentException", Cond.initialized "java/lang/IllegalArgumentException", Cond.constant RX1 58 (1000000), Cond.methodLink RX1 51 yX1_isUser, Cond.static yX1_isUser, Cond.initialized RX1, Cond.code yX1_isUser cX1_isUser 1 (some .boolean), Cond.methodLink RX1 55 yX1_isCell, Cond.static yX1_isCell, Cond.code yX1_isCell cX1_isCell 1 (some .boolean), Cond.methodLink RX1 59 yX1_isWithin, Cond.static yX1_isWithin, Cond.code yX1_isWithin cX1_isWithin 2 (some .boolean), Cond.methodLink RX1 70 yX1_giveFormula, Cond.instanceMethod yX1_giveFormula, Cond.selects RX1 yX1_giveFormula yX1_giveFormula, Cond.code yX1_giveFormula cX1_giveFormula 7 (some .int), Cond.fieldLink RX1 9 "MeteredSheets" "kinds" "[I", Cond.fieldLink RX1 13 "MeteredSheets" "ones" "[I", Cond.fieldLink RX1 16 "MeteredSheets" "others" "[I", Cond.fieldLink RX1 19 "MeteredSheets" "numbers" "[I", Cond.methodLink RX1 152 yX1_putInOrder, Cond.instanceMethod yX1_putInOrder, Cond.selects RX1 yX1_putInOrder yX1_putInOrder]
def wsX1_setNumber_r2 : List Cond := [Cond.code yX1_putInOrder cX1_putInOrder 3 none, Cond.fieldLink RX1 42 "MeteredSheets" "placed" "[Z", Cond.fieldLink RX1 29 "MeteredSheets" "order" "[I", Cond.methodLink RX1 159 yX1_lowestFreeCell, Cond.instanceMethod yX1_lowestFreeCell, Cond.selects RX1 yX1_lowestFreeCell yX1_lowestFreeCell, Cond.code yX1_lowestFreeCell cX1_lowestFreeCell 2 (some .int), Cond.methodLink RX1 163 yX1_isReady, Cond.instanceMethod yX1_isReady, Cond.selects RX1 yX1_isReady yX1_isReady, Cond.code yX1_isReady cX1_isReady 2 (some .boolean), Cond.methodLink RX1 149 yX1_isIn, Cond.static yX1_isIn, Cond.code yX1_isIn cX1_isIn 2 (some .boolean), Cond.methodLink RX1 91 yX1_forgetChanges, Cond.instanceMethod yX1_forgetChanges, Cond.selects RX1 yX1_forgetChanges yX1_forgetChanges, Cond.code yX1_forgetChanges cX1_forgetChanges 2 none, Cond.fieldLink RX1 39 "MeteredSheets" "changed" "[Z", Cond.methodLink RX1 155 yX1_compute, Cond.instanceMethod yX1_compute, Cond.selects RX1 yX1_compute yX1_compute, Cond.code yX1_compute cX1_compute 6 none, Cond.fieldLink RX1 25 "MeteredSheets" "marked" "[Z"]
def wsX1_setNumber_r3 : List Cond := [Cond.fieldLink RX1 35 "MeteredSheets" "ledger" "LMeteredSheets$Ledger;", Cond.fieldLink RX1 22 "MeteredSheets" "values" "[I", Cond.methodLink RX1 166 yX1_meteredRead, Cond.static yX1_meteredRead, Cond.code yX1_meteredRead cX1_meteredRead 2 (some .int), Cond.methodLink RX1 174 yX1_sheetOf, Cond.static yX1_sheetOf, Cond.code yX1_sheetOf cX1_sheetOf 1 (some .int), Cond.instanceMethod yX0_paysFor, Cond.initialized RX0, Cond.selects RX0 yX0_paysFor yX0_paysFor, Cond.code yX0_paysFor cX0_paysFor 7 (some .boolean), Cond.fieldLink RX0 15 "MeteredSheets$Ledger" "budgets" "[I", Cond.methodLink RX0 41 yX0_costOf, Cond.instanceMethod yX0_costOf, Cond.selects RX0 yX0_costOf yX0_costOf, Cond.code yX0_costOf cX0_costOf 2 (some .int), Cond.fieldLink RX0 9 "MeteredSheets$Ledger" "prices" "[I", Cond.methodLink RX0 44 yX0_enter, Cond.instanceMethod yX0_enter, Cond.selects RX0 yX0_enter yX0_enter, Cond.code yX0_enter cX0_enter 5 none, Cond.fieldLink RX0 18 "MeteredSheets$Ledger" "earnings" "[I", Cond.fieldLink RX0 24 "MeteredSheets$Ledger" "bills" "[I"]
def wsX1_setNumber_r4 : List Cond := [Cond.fieldLink RX0 21 "MeteredSheets$Ledger" "readsOf" "[I", Cond.fieldLink RX0 27 "MeteredSheets$Ledger" "counts" "[I", Cond.fieldLink RX0 33 "MeteredSheets$Ledger" "keptCount" "I", Cond.fieldLink RX0 30 "MeteredSheets$Ledger" "kept" "[I", Cond.methodLink RX1 121 yX1_resultOf, Cond.instanceMethod yX1_resultOf, Cond.selects RX1 yX1_resultOf yX1_resultOf, Cond.code yX1_resultOf cX1_resultOf 5 (some .int), Cond.methodLink RX1 185 Lib.Math.max.name, Cond.static Lib.Math.max.name, Cond.initialized "java/lang/Math", Cond.code Lib.Math.max.name Lib.Math.max.code 2 (some .int), Cond.methodLink RX1 178 yX1_valueIn, Cond.static yX1_valueIn, Cond.code yX1_valueIn cX1_valueIn 2 (some .int), Cond.methodLink RX1 182 yX1_held, Cond.static yX1_held, Cond.code yX1_held cX1_held 1 (some .int), Cond.constant RX1 190 (-1000000), Cond.methodLink RX1 191 Lib.Math.min.name, Cond.static Lib.Math.min.name, Cond.code Lib.Math.min.name Lib.Math.min.code 2 (some .int), Cond.methodLink RX1 94 yX1_goThrough, Cond.instanceMethod yX1_goThrough]
def wsX1_setNumber_r5 : List Cond := [Cond.selects RX1 yX1_goThrough yX1_goThrough, Cond.code yX1_goThrough cX1_goThrough 6 (some .int), Cond.methodLink RX1 145 yX1_readsOneOf, Cond.instanceMethod yX1_readsOneOf, Cond.selects RX1 yX1_readsOneOf yX1_readsOneOf, Cond.code yX1_readsOneOf cX1_readsOneOf 3 (some .boolean)]
def wsX1_setNumber : List Cond := .code yX1_setNumber cX1_setNumber 4 (some .int) :: ((wsX1_setNumber_r1 ++ (wsX1_setNumber_r2 ++ (wsX1_setNumber_r3 ++ (wsX1_setNumber_r4 ++ wsX1_setNumber_r5)))) ++ wsX10 ++ wsX00 ++ (vx_atS RX1 67 "java/lang/IllegalArgumentException" ["java/lang/RuntimeException", "java/lang/Exception"]).filter goodWord)
def wsX1_wouldReadItself : List Cond := .code yX1_wouldReadItself cX1_wouldReadItself 6 (some .boolean) :: ([.fieldLink RX1 45 "MeteredSheets" "reaching" "[Z", .fieldLink RX1 29 "MeteredSheets" "order" "[I", .methodLink RX1 55 yX1_isCell, .static yX1_isCell, .initialized RX1, .code yX1_isCell cX1_isCell 1 (some .boolean), .methodLink RX1 145 yX1_readsOneOf, .instanceMethod yX1_readsOneOf, .selects RX1 yX1_readsOneOf yX1_readsOneOf, .code yX1_readsOneOf cX1_readsOneOf 3 (some .boolean), .fieldLink RX1 13 "MeteredSheets" "ones" "[I", .fieldLink RX1 16 "MeteredSheets" "others" "[I", .methodLink RX1 149 yX1_isIn, .static yX1_isIn, .code yX1_isIn cX1_isIn 2 (some .boolean)] ++ wsX10)
def wsX1_setSum_r1 : List Cond := [Cond.classLink RX1 63 "java/lang/IllegalArgumentException", Cond.initialized "java/lang/IllegalArgumentException", Cond.classLink RX1 80 "java/lang/IllegalStateException", Cond.initialized "java/lang/IllegalStateException", Cond.methodLink RX1 51 yX1_isUser, Cond.static yX1_isUser, Cond.initialized RX1, Cond.code yX1_isUser cX1_isUser 1 (some .boolean), Cond.methodLink RX1 55 yX1_isCell, Cond.static yX1_isCell, Cond.code yX1_isCell cX1_isCell 1 (some .boolean), Cond.methodLink RX1 59 yX1_isWithin, Cond.static yX1_isWithin, Cond.code yX1_isWithin cX1_isWithin 2 (some .boolean), Cond.methodLink RX1 76 yX1_wouldReadItself, Cond.instanceMethod yX1_wouldReadItself, Cond.selects RX1 yX1_wouldReadItself yX1_wouldReadItself, Cond.code yX1_wouldReadItself cX1_wouldReadItself 6 (some .boolean), Cond.fieldLink RX1 45 "MeteredSheets" "reaching" "[Z", Cond.fieldLink RX1 29 "MeteredSheets" "order" "[I", Cond.methodLink RX1 145 yX1_readsOneOf, Cond.instanceMethod yX1_readsOneOf, Cond.selects RX1 yX1_readsOneOf yX1_readsOneOf, Cond.code yX1_readsOneOf cX1_readsOneOf 3 (some .boolean)]
def wsX1_setSum_r2 : List Cond := [Cond.fieldLink RX1 13 "MeteredSheets" "ones" "[I", Cond.fieldLink RX1 16 "MeteredSheets" "others" "[I", Cond.methodLink RX1 149 yX1_isIn, Cond.static yX1_isIn, Cond.code yX1_isIn cX1_isIn 2 (some .boolean), Cond.methodLink RX1 70 yX1_giveFormula, Cond.instanceMethod yX1_giveFormula, Cond.selects RX1 yX1_giveFormula yX1_giveFormula, Cond.code yX1_giveFormula cX1_giveFormula 7 (some .int), Cond.fieldLink RX1 9 "MeteredSheets" "kinds" "[I", Cond.fieldLink RX1 19 "MeteredSheets" "numbers" "[I", Cond.methodLink RX1 152 yX1_putInOrder, Cond.instanceMethod yX1_putInOrder, Cond.selects RX1 yX1_putInOrder yX1_putInOrder, Cond.code yX1_putInOrder cX1_putInOrder 3 none, Cond.fieldLink RX1 42 "MeteredSheets" "placed" "[Z", Cond.methodLink RX1 159 yX1_lowestFreeCell, Cond.instanceMethod yX1_lowestFreeCell, Cond.selects RX1 yX1_lowestFreeCell yX1_lowestFreeCell, Cond.code yX1_lowestFreeCell cX1_lowestFreeCell 2 (some .int), Cond.methodLink RX1 163 yX1_isReady, Cond.instanceMethod yX1_isReady, Cond.selects RX1 yX1_isReady yX1_isReady, Cond.code yX1_isReady cX1_isReady 2 (some .boolean)]
def wsX1_setSum_r3 : List Cond := [Cond.methodLink RX1 91 yX1_forgetChanges, Cond.instanceMethod yX1_forgetChanges, Cond.selects RX1 yX1_forgetChanges yX1_forgetChanges, Cond.code yX1_forgetChanges cX1_forgetChanges 2 none, Cond.fieldLink RX1 39 "MeteredSheets" "changed" "[Z", Cond.methodLink RX1 155 yX1_compute, Cond.instanceMethod yX1_compute, Cond.selects RX1 yX1_compute yX1_compute, Cond.code yX1_compute cX1_compute 6 none, Cond.fieldLink RX1 25 "MeteredSheets" "marked" "[Z", Cond.fieldLink RX1 35 "MeteredSheets" "ledger" "LMeteredSheets$Ledger;", Cond.fieldLink RX1 22 "MeteredSheets" "values" "[I", Cond.methodLink RX1 166 yX1_meteredRead, Cond.static yX1_meteredRead, Cond.code yX1_meteredRead cX1_meteredRead 2 (some .int), Cond.methodLink RX1 174 yX1_sheetOf, Cond.static yX1_sheetOf, Cond.code yX1_sheetOf cX1_sheetOf 1 (some .int), Cond.instanceMethod yX0_paysFor, Cond.initialized RX0, Cond.selects RX0 yX0_paysFor yX0_paysFor, Cond.code yX0_paysFor cX0_paysFor 7 (some .boolean), Cond.fieldLink RX0 15 "MeteredSheets$Ledger" "budgets" "[I", Cond.methodLink RX0 41 yX0_costOf]
def wsX1_setSum_r4 : List Cond := [Cond.instanceMethod yX0_costOf, Cond.selects RX0 yX0_costOf yX0_costOf, Cond.code yX0_costOf cX0_costOf 2 (some .int), Cond.fieldLink RX0 9 "MeteredSheets$Ledger" "prices" "[I", Cond.methodLink RX0 44 yX0_enter, Cond.instanceMethod yX0_enter, Cond.selects RX0 yX0_enter yX0_enter, Cond.code yX0_enter cX0_enter 5 none, Cond.fieldLink RX0 18 "MeteredSheets$Ledger" "earnings" "[I", Cond.fieldLink RX0 24 "MeteredSheets$Ledger" "bills" "[I", Cond.fieldLink RX0 21 "MeteredSheets$Ledger" "readsOf" "[I", Cond.fieldLink RX0 27 "MeteredSheets$Ledger" "counts" "[I", Cond.fieldLink RX0 33 "MeteredSheets$Ledger" "keptCount" "I", Cond.fieldLink RX0 30 "MeteredSheets$Ledger" "kept" "[I", Cond.methodLink RX1 121 yX1_resultOf, Cond.instanceMethod yX1_resultOf, Cond.selects RX1 yX1_resultOf yX1_resultOf, Cond.code yX1_resultOf cX1_resultOf 5 (some .int), Cond.methodLink RX1 185 Lib.Math.max.name, Cond.static Lib.Math.max.name, Cond.initialized "java/lang/Math", Cond.code Lib.Math.max.name Lib.Math.max.code 2 (some .int), Cond.methodLink RX1 178 yX1_valueIn, Cond.static yX1_valueIn]
def wsX1_setSum_r5 : List Cond := [Cond.code yX1_valueIn cX1_valueIn 2 (some .int), Cond.methodLink RX1 182 yX1_held, Cond.static yX1_held, Cond.code yX1_held cX1_held 1 (some .int), Cond.constant RX1 190 (-1000000), Cond.constant RX1 58 (1000000), Cond.methodLink RX1 191 Lib.Math.min.name, Cond.static Lib.Math.min.name, Cond.code Lib.Math.min.name Lib.Math.min.code 2 (some .int), Cond.methodLink RX1 94 yX1_goThrough, Cond.instanceMethod yX1_goThrough, Cond.selects RX1 yX1_goThrough yX1_goThrough, Cond.code yX1_goThrough cX1_goThrough 6 (some .int)]
def wsX1_setSum : List Cond := .code yX1_setSum cX1_setSum 6 (some .int) :: ((wsX1_setSum_r1 ++ (wsX1_setSum_r2 ++ (wsX1_setSum_r3 ++ (wsX1_setSum_r4 ++ wsX1_setSum_r5)))) ++ wsX10 ++ wsX00 ++ (vx_atS RX1 67 "java/lang/IllegalArgumentException" ["java/lang/RuntimeException", "java/lang/Exception"]).filter goodWord ++ (vx_atS RX1 84 "java/lang/IllegalStateException" ["java/lang/RuntimeException", "java/lang/Exception"]).filter goodWord)
def wsX1_setGreater_r1 : List Cond := [Cond.classLink RX1 63 "java/lang/IllegalArgumentException", Cond.initialized "java/lang/IllegalArgumentException", Cond.classLink RX1 80 "java/lang/IllegalStateException", Cond.initialized "java/lang/IllegalStateException", Cond.methodLink RX1 51 yX1_isUser, Cond.static yX1_isUser, Cond.initialized RX1, Cond.code yX1_isUser cX1_isUser 1 (some .boolean), Cond.methodLink RX1 55 yX1_isCell, Cond.static yX1_isCell, Cond.code yX1_isCell cX1_isCell 1 (some .boolean), Cond.methodLink RX1 76 yX1_wouldReadItself, Cond.instanceMethod yX1_wouldReadItself, Cond.selects RX1 yX1_wouldReadItself yX1_wouldReadItself, Cond.code yX1_wouldReadItself cX1_wouldReadItself 6 (some .boolean), Cond.fieldLink RX1 45 "MeteredSheets" "reaching" "[Z", Cond.fieldLink RX1 29 "MeteredSheets" "order" "[I", Cond.methodLink RX1 145 yX1_readsOneOf, Cond.instanceMethod yX1_readsOneOf, Cond.selects RX1 yX1_readsOneOf yX1_readsOneOf, Cond.code yX1_readsOneOf cX1_readsOneOf 3 (some .boolean), Cond.fieldLink RX1 13 "MeteredSheets" "ones" "[I", Cond.fieldLink RX1 16 "MeteredSheets" "others" "[I", Cond.methodLink RX1 149 yX1_isIn]
def wsX1_setGreater_r2 : List Cond := [Cond.static yX1_isIn, Cond.code yX1_isIn cX1_isIn 2 (some .boolean), Cond.methodLink RX1 70 yX1_giveFormula, Cond.instanceMethod yX1_giveFormula, Cond.selects RX1 yX1_giveFormula yX1_giveFormula, Cond.code yX1_giveFormula cX1_giveFormula 7 (some .int), Cond.fieldLink RX1 9 "MeteredSheets" "kinds" "[I", Cond.fieldLink RX1 19 "MeteredSheets" "numbers" "[I", Cond.methodLink RX1 152 yX1_putInOrder, Cond.instanceMethod yX1_putInOrder, Cond.selects RX1 yX1_putInOrder yX1_putInOrder, Cond.code yX1_putInOrder cX1_putInOrder 3 none, Cond.fieldLink RX1 42 "MeteredSheets" "placed" "[Z", Cond.methodLink RX1 159 yX1_lowestFreeCell, Cond.instanceMethod yX1_lowestFreeCell, Cond.selects RX1 yX1_lowestFreeCell yX1_lowestFreeCell, Cond.code yX1_lowestFreeCell cX1_lowestFreeCell 2 (some .int), Cond.methodLink RX1 163 yX1_isReady, Cond.instanceMethod yX1_isReady, Cond.selects RX1 yX1_isReady yX1_isReady, Cond.code yX1_isReady cX1_isReady 2 (some .boolean), Cond.methodLink RX1 91 yX1_forgetChanges, Cond.instanceMethod yX1_forgetChanges, Cond.selects RX1 yX1_forgetChanges yX1_forgetChanges]
def wsX1_setGreater_r3 : List Cond := [Cond.code yX1_forgetChanges cX1_forgetChanges 2 none, Cond.fieldLink RX1 39 "MeteredSheets" "changed" "[Z", Cond.methodLink RX1 155 yX1_compute, Cond.instanceMethod yX1_compute, Cond.selects RX1 yX1_compute yX1_compute, Cond.code yX1_compute cX1_compute 6 none, Cond.fieldLink RX1 25 "MeteredSheets" "marked" "[Z", Cond.fieldLink RX1 35 "MeteredSheets" "ledger" "LMeteredSheets$Ledger;", Cond.fieldLink RX1 22 "MeteredSheets" "values" "[I", Cond.methodLink RX1 166 yX1_meteredRead, Cond.static yX1_meteredRead, Cond.code yX1_meteredRead cX1_meteredRead 2 (some .int), Cond.methodLink RX1 174 yX1_sheetOf, Cond.static yX1_sheetOf, Cond.code yX1_sheetOf cX1_sheetOf 1 (some .int), Cond.instanceMethod yX0_paysFor, Cond.initialized RX0, Cond.selects RX0 yX0_paysFor yX0_paysFor, Cond.code yX0_paysFor cX0_paysFor 7 (some .boolean), Cond.fieldLink RX0 15 "MeteredSheets$Ledger" "budgets" "[I", Cond.methodLink RX0 41 yX0_costOf, Cond.instanceMethod yX0_costOf, Cond.selects RX0 yX0_costOf yX0_costOf, Cond.code yX0_costOf cX0_costOf 2 (some .int)]
def wsX1_setGreater_r4 : List Cond := [Cond.fieldLink RX0 9 "MeteredSheets$Ledger" "prices" "[I", Cond.methodLink RX0 44 yX0_enter, Cond.instanceMethod yX0_enter, Cond.selects RX0 yX0_enter yX0_enter, Cond.code yX0_enter cX0_enter 5 none, Cond.fieldLink RX0 18 "MeteredSheets$Ledger" "earnings" "[I", Cond.fieldLink RX0 24 "MeteredSheets$Ledger" "bills" "[I", Cond.fieldLink RX0 21 "MeteredSheets$Ledger" "readsOf" "[I", Cond.fieldLink RX0 27 "MeteredSheets$Ledger" "counts" "[I", Cond.fieldLink RX0 33 "MeteredSheets$Ledger" "keptCount" "I", Cond.fieldLink RX0 30 "MeteredSheets$Ledger" "kept" "[I", Cond.methodLink RX1 121 yX1_resultOf, Cond.instanceMethod yX1_resultOf, Cond.selects RX1 yX1_resultOf yX1_resultOf, Cond.code yX1_resultOf cX1_resultOf 5 (some .int), Cond.methodLink RX1 185 Lib.Math.max.name, Cond.static Lib.Math.max.name, Cond.initialized "java/lang/Math", Cond.code Lib.Math.max.name Lib.Math.max.code 2 (some .int), Cond.methodLink RX1 178 yX1_valueIn, Cond.static yX1_valueIn, Cond.code yX1_valueIn cX1_valueIn 2 (some .int), Cond.methodLink RX1 182 yX1_held, Cond.static yX1_held]
def wsX1_setGreater_r5 : List Cond := [Cond.code yX1_held cX1_held 1 (some .int), Cond.constant RX1 190 (-1000000), Cond.constant RX1 58 (1000000), Cond.methodLink RX1 191 Lib.Math.min.name, Cond.static Lib.Math.min.name, Cond.code Lib.Math.min.name Lib.Math.min.code 2 (some .int), Cond.methodLink RX1 94 yX1_goThrough, Cond.instanceMethod yX1_goThrough, Cond.selects RX1 yX1_goThrough yX1_goThrough, Cond.code yX1_goThrough cX1_goThrough 6 (some .int)]
def wsX1_setGreater : List Cond := .code yX1_setGreater cX1_setGreater 5 (some .int) :: ((wsX1_setGreater_r1 ++ (wsX1_setGreater_r2 ++ (wsX1_setGreater_r3 ++ (wsX1_setGreater_r4 ++ wsX1_setGreater_r5)))) ++ wsX10 ++ wsX00 ++ (vx_atS RX1 67 "java/lang/IllegalArgumentException" ["java/lang/RuntimeException", "java/lang/Exception"]).filter goodWord ++ (vx_atS RX1 84 "java/lang/IllegalStateException" ["java/lang/RuntimeException", "java/lang/Exception"]).filter goodWord)
def wsX1_setTimes_r1 : List Cond := [Cond.classLink RX1 63 "java/lang/IllegalArgumentException", Cond.initialized "java/lang/IllegalArgumentException", Cond.classLink RX1 80 "java/lang/IllegalStateException", Cond.initialized "java/lang/IllegalStateException", Cond.methodLink RX1 51 yX1_isUser, Cond.static yX1_isUser, Cond.initialized RX1, Cond.code yX1_isUser cX1_isUser 1 (some .boolean), Cond.methodLink RX1 55 yX1_isCell, Cond.static yX1_isCell, Cond.code yX1_isCell cX1_isCell 1 (some .boolean), Cond.methodLink RX1 59 yX1_isWithin, Cond.static yX1_isWithin, Cond.code yX1_isWithin cX1_isWithin 2 (some .boolean), Cond.methodLink RX1 76 yX1_wouldReadItself, Cond.instanceMethod yX1_wouldReadItself, Cond.selects RX1 yX1_wouldReadItself yX1_wouldReadItself, Cond.code yX1_wouldReadItself cX1_wouldReadItself 6 (some .boolean), Cond.fieldLink RX1 45 "MeteredSheets" "reaching" "[Z", Cond.fieldLink RX1 29 "MeteredSheets" "order" "[I", Cond.methodLink RX1 145 yX1_readsOneOf, Cond.instanceMethod yX1_readsOneOf, Cond.selects RX1 yX1_readsOneOf yX1_readsOneOf, Cond.code yX1_readsOneOf cX1_readsOneOf 3 (some .boolean)]
def wsX1_setTimes_r2 : List Cond := [Cond.fieldLink RX1 13 "MeteredSheets" "ones" "[I", Cond.fieldLink RX1 16 "MeteredSheets" "others" "[I", Cond.methodLink RX1 149 yX1_isIn, Cond.static yX1_isIn, Cond.code yX1_isIn cX1_isIn 2 (some .boolean), Cond.methodLink RX1 70 yX1_giveFormula, Cond.instanceMethod yX1_giveFormula, Cond.selects RX1 yX1_giveFormula yX1_giveFormula, Cond.code yX1_giveFormula cX1_giveFormula 7 (some .int), Cond.fieldLink RX1 9 "MeteredSheets" "kinds" "[I", Cond.fieldLink RX1 19 "MeteredSheets" "numbers" "[I", Cond.methodLink RX1 152 yX1_putInOrder, Cond.instanceMethod yX1_putInOrder, Cond.selects RX1 yX1_putInOrder yX1_putInOrder, Cond.code yX1_putInOrder cX1_putInOrder 3 none, Cond.fieldLink RX1 42 "MeteredSheets" "placed" "[Z", Cond.methodLink RX1 159 yX1_lowestFreeCell, Cond.instanceMethod yX1_lowestFreeCell, Cond.selects RX1 yX1_lowestFreeCell yX1_lowestFreeCell, Cond.code yX1_lowestFreeCell cX1_lowestFreeCell 2 (some .int), Cond.methodLink RX1 163 yX1_isReady, Cond.instanceMethod yX1_isReady, Cond.selects RX1 yX1_isReady yX1_isReady, Cond.code yX1_isReady cX1_isReady 2 (some .boolean)]
def wsX1_setTimes_r3 : List Cond := [Cond.methodLink RX1 91 yX1_forgetChanges, Cond.instanceMethod yX1_forgetChanges, Cond.selects RX1 yX1_forgetChanges yX1_forgetChanges, Cond.code yX1_forgetChanges cX1_forgetChanges 2 none, Cond.fieldLink RX1 39 "MeteredSheets" "changed" "[Z", Cond.methodLink RX1 155 yX1_compute, Cond.instanceMethod yX1_compute, Cond.selects RX1 yX1_compute yX1_compute, Cond.code yX1_compute cX1_compute 6 none, Cond.fieldLink RX1 25 "MeteredSheets" "marked" "[Z", Cond.fieldLink RX1 35 "MeteredSheets" "ledger" "LMeteredSheets$Ledger;", Cond.fieldLink RX1 22 "MeteredSheets" "values" "[I", Cond.methodLink RX1 166 yX1_meteredRead, Cond.static yX1_meteredRead, Cond.code yX1_meteredRead cX1_meteredRead 2 (some .int), Cond.methodLink RX1 174 yX1_sheetOf, Cond.static yX1_sheetOf, Cond.code yX1_sheetOf cX1_sheetOf 1 (some .int), Cond.instanceMethod yX0_paysFor, Cond.initialized RX0, Cond.selects RX0 yX0_paysFor yX0_paysFor, Cond.code yX0_paysFor cX0_paysFor 7 (some .boolean), Cond.fieldLink RX0 15 "MeteredSheets$Ledger" "budgets" "[I", Cond.methodLink RX0 41 yX0_costOf]
def wsX1_setTimes_r4 : List Cond := [Cond.instanceMethod yX0_costOf, Cond.selects RX0 yX0_costOf yX0_costOf, Cond.code yX0_costOf cX0_costOf 2 (some .int), Cond.fieldLink RX0 9 "MeteredSheets$Ledger" "prices" "[I", Cond.methodLink RX0 44 yX0_enter, Cond.instanceMethod yX0_enter, Cond.selects RX0 yX0_enter yX0_enter, Cond.code yX0_enter cX0_enter 5 none, Cond.fieldLink RX0 18 "MeteredSheets$Ledger" "earnings" "[I", Cond.fieldLink RX0 24 "MeteredSheets$Ledger" "bills" "[I", Cond.fieldLink RX0 21 "MeteredSheets$Ledger" "readsOf" "[I", Cond.fieldLink RX0 27 "MeteredSheets$Ledger" "counts" "[I", Cond.fieldLink RX0 33 "MeteredSheets$Ledger" "keptCount" "I", Cond.fieldLink RX0 30 "MeteredSheets$Ledger" "kept" "[I", Cond.methodLink RX1 121 yX1_resultOf, Cond.instanceMethod yX1_resultOf, Cond.selects RX1 yX1_resultOf yX1_resultOf, Cond.code yX1_resultOf cX1_resultOf 5 (some .int), Cond.methodLink RX1 185 Lib.Math.max.name, Cond.static Lib.Math.max.name, Cond.initialized "java/lang/Math", Cond.code Lib.Math.max.name Lib.Math.max.code 2 (some .int), Cond.methodLink RX1 178 yX1_valueIn, Cond.static yX1_valueIn]
def wsX1_setTimes_r5 : List Cond := [Cond.code yX1_valueIn cX1_valueIn 2 (some .int), Cond.methodLink RX1 182 yX1_held, Cond.static yX1_held, Cond.code yX1_held cX1_held 1 (some .int), Cond.constant RX1 190 (-1000000), Cond.constant RX1 58 (1000000), Cond.methodLink RX1 191 Lib.Math.min.name, Cond.static Lib.Math.min.name, Cond.code Lib.Math.min.name Lib.Math.min.code 2 (some .int), Cond.methodLink RX1 94 yX1_goThrough, Cond.instanceMethod yX1_goThrough, Cond.selects RX1 yX1_goThrough yX1_goThrough, Cond.code yX1_goThrough cX1_goThrough 6 (some .int)]
def wsX1_setTimes : List Cond := .code yX1_setTimes cX1_setTimes 5 (some .int) :: ((wsX1_setTimes_r1 ++ (wsX1_setTimes_r2 ++ (wsX1_setTimes_r3 ++ (wsX1_setTimes_r4 ++ wsX1_setTimes_r5)))) ++ wsX10 ++ wsX00 ++ (vx_atS RX1 67 "java/lang/IllegalArgumentException" ["java/lang/RuntimeException", "java/lang/Exception"]).filter goodWord ++ (vx_atS RX1 84 "java/lang/IllegalStateException" ["java/lang/RuntimeException", "java/lang/Exception"]).filter goodWord)
def wsX1_refresh_r1 : List Cond := [Cond.classLink RX1 63 "java/lang/IllegalArgumentException", Cond.initialized "java/lang/IllegalArgumentException", Cond.methodLink RX1 51 yX1_isUser, Cond.static yX1_isUser, Cond.initialized RX1, Cond.code yX1_isUser cX1_isUser 1 (some .boolean), Cond.methodLink RX1 91 yX1_forgetChanges, Cond.instanceMethod yX1_forgetChanges, Cond.selects RX1 yX1_forgetChanges yX1_forgetChanges, Cond.code yX1_forgetChanges cX1_forgetChanges 2 none, Cond.fieldLink RX1 39 "MeteredSheets" "changed" "[Z", Cond.methodLink RX1 94 yX1_goThrough, Cond.instanceMethod yX1_goThrough, Cond.selects RX1 yX1_goThrough yX1_goThrough, Cond.code yX1_goThrough cX1_goThrough 6 (some .int), Cond.fieldLink RX1 29 "MeteredSheets" "order" "[I", Cond.fieldLink RX1 25 "MeteredSheets" "marked" "[Z", Cond.methodLink RX1 55 yX1_isCell, Cond.static yX1_isCell, Cond.code yX1_isCell cX1_isCell 1 (some .boolean), Cond.methodLink RX1 145 yX1_readsOneOf, Cond.instanceMethod yX1_readsOneOf, Cond.selects RX1 yX1_readsOneOf yX1_readsOneOf, Cond.code yX1_readsOneOf cX1_readsOneOf 3 (some .boolean)]
def wsX1_refresh_r2 : List Cond := [Cond.fieldLink RX1 13 "MeteredSheets" "ones" "[I", Cond.fieldLink RX1 16 "MeteredSheets" "others" "[I", Cond.methodLink RX1 149 yX1_isIn, Cond.static yX1_isIn, Cond.code yX1_isIn cX1_isIn 2 (some .boolean), Cond.methodLink RX1 155 yX1_compute, Cond.instanceMethod yX1_compute, Cond.selects RX1 yX1_compute yX1_compute, Cond.code yX1_compute cX1_compute 6 none, Cond.fieldLink RX1 35 "MeteredSheets" "ledger" "LMeteredSheets$Ledger;", Cond.fieldLink RX1 22 "MeteredSheets" "values" "[I", Cond.methodLink RX1 166 yX1_meteredRead, Cond.static yX1_meteredRead, Cond.code yX1_meteredRead cX1_meteredRead 2 (some .int), Cond.methodLink RX1 174 yX1_sheetOf, Cond.static yX1_sheetOf, Cond.code yX1_sheetOf cX1_sheetOf 1 (some .int), Cond.instanceMethod yX0_paysFor, Cond.initialized RX0, Cond.selects RX0 yX0_paysFor yX0_paysFor, Cond.code yX0_paysFor cX0_paysFor 7 (some .boolean), Cond.fieldLink RX0 15 "MeteredSheets$Ledger" "budgets" "[I", Cond.methodLink RX0 41 yX0_costOf, Cond.instanceMethod yX0_costOf]
def wsX1_refresh_r3 : List Cond := [Cond.selects RX0 yX0_costOf yX0_costOf, Cond.code yX0_costOf cX0_costOf 2 (some .int), Cond.fieldLink RX0 9 "MeteredSheets$Ledger" "prices" "[I", Cond.methodLink RX0 44 yX0_enter, Cond.instanceMethod yX0_enter, Cond.selects RX0 yX0_enter yX0_enter, Cond.code yX0_enter cX0_enter 5 none, Cond.fieldLink RX0 18 "MeteredSheets$Ledger" "earnings" "[I", Cond.fieldLink RX0 24 "MeteredSheets$Ledger" "bills" "[I", Cond.fieldLink RX0 21 "MeteredSheets$Ledger" "readsOf" "[I", Cond.fieldLink RX0 27 "MeteredSheets$Ledger" "counts" "[I", Cond.fieldLink RX0 33 "MeteredSheets$Ledger" "keptCount" "I", Cond.fieldLink RX0 30 "MeteredSheets$Ledger" "kept" "[I", Cond.methodLink RX1 121 yX1_resultOf, Cond.instanceMethod yX1_resultOf, Cond.selects RX1 yX1_resultOf yX1_resultOf, Cond.code yX1_resultOf cX1_resultOf 5 (some .int), Cond.fieldLink RX1 9 "MeteredSheets" "kinds" "[I", Cond.fieldLink RX1 19 "MeteredSheets" "numbers" "[I", Cond.methodLink RX1 185 Lib.Math.max.name, Cond.static Lib.Math.max.name, Cond.initialized "java/lang/Math", Cond.code Lib.Math.max.name Lib.Math.max.code 2 (some .int), Cond.methodLink RX1 178 yX1_valueIn]
def wsX1_refresh_r4 : List Cond := [Cond.static yX1_valueIn, Cond.code yX1_valueIn cX1_valueIn 2 (some .int), Cond.methodLink RX1 182 yX1_held, Cond.static yX1_held, Cond.code yX1_held cX1_held 1 (some .int), Cond.constant RX1 190 (-1000000), Cond.constant RX1 58 (1000000), Cond.methodLink RX1 191 Lib.Math.min.name, Cond.static Lib.Math.min.name, Cond.code Lib.Math.min.name Lib.Math.min.code 2 (some .int)]
def wsX1_refresh : List Cond := .code yX1_refresh cX1_refresh 2 (some .int) :: ((wsX1_refresh_r1 ++ (wsX1_refresh_r2 ++ (wsX1_refresh_r3 ++ wsX1_refresh_r4))) ++ wsX10 ++ wsX00 ++ (vx_atS RX1 67 "java/lang/IllegalArgumentException" ["java/lang/RuntimeException", "java/lang/Exception"]).filter goodWord)
def wsX1_isSheet : List Cond := .code yX1_isSheet cX1_isSheet 1 (some .boolean) :: ([])
def wsX1_setPrice : List Cond := .code yX1_setPrice cX1_setPrice 4 (some .int) :: ([.classLink RX1 63 "java/lang/IllegalArgumentException", .initialized "java/lang/IllegalArgumentException", .fieldLink RX1 35 "MeteredSheets" "ledger" "LMeteredSheets$Ledger;", .methodLink RX1 98 yX1_isSheet, .static yX1_isSheet, .initialized RX1, .code yX1_isSheet cX1_isSheet 1 (some .boolean)] ++ wsX10 ++ wsX00 ++ (vx_atS RX1 67 "java/lang/IllegalArgumentException" ["java/lang/RuntimeException", "java/lang/Exception"]).filter goodWord)
def wsX1_grant : List Cond := .code yX1_grant cX1_grant 3 (some .int) :: ([.classLink RX1 63 "java/lang/IllegalArgumentException", .initialized "java/lang/IllegalArgumentException", .fieldLink RX1 35 "MeteredSheets" "ledger" "LMeteredSheets$Ledger;", .methodLink RX1 98 yX1_isSheet, .static yX1_isSheet, .initialized RX1, .code yX1_isSheet cX1_isSheet 1 (some .boolean)] ++ wsX10 ++ wsX00 ++ (vx_atS RX1 67 "java/lang/IllegalArgumentException" ["java/lang/RuntimeException", "java/lang/Exception"]).filter goodWord)
def wsX1_budget : List Cond := .code yX1_budget cX1_budget 2 (some .int) :: ([.classLink RX1 63 "java/lang/IllegalArgumentException", .initialized "java/lang/IllegalArgumentException", .fieldLink RX1 35 "MeteredSheets" "ledger" "LMeteredSheets$Ledger;", .methodLink RX1 98 yX1_isSheet, .static yX1_isSheet, .initialized RX1, .code yX1_isSheet cX1_isSheet 1 (some .boolean)] ++ wsX10 ++ wsX00 ++ (vx_atS RX1 67 "java/lang/IllegalArgumentException" ["java/lang/RuntimeException", "java/lang/Exception"]).filter goodWord)
def wsX1_earned : List Cond := .code yX1_earned cX1_earned 2 (some .int) :: ([.classLink RX1 63 "java/lang/IllegalArgumentException", .initialized "java/lang/IllegalArgumentException", .fieldLink RX1 35 "MeteredSheets" "ledger" "LMeteredSheets$Ledger;", .methodLink RX1 98 yX1_isSheet, .static yX1_isSheet, .initialized RX1, .code yX1_isSheet cX1_isSheet 1 (some .boolean)] ++ wsX10 ++ wsX00 ++ (vx_atS RX1 67 "java/lang/IllegalArgumentException" ["java/lang/RuntimeException", "java/lang/Exception"]).filter goodWord)
def wsX1_caused : List Cond := .code yX1_caused cX1_caused 2 (some .int) :: ([.classLink RX1 63 "java/lang/IllegalArgumentException", .initialized "java/lang/IllegalArgumentException", .fieldLink RX1 35 "MeteredSheets" "ledger" "LMeteredSheets$Ledger;", .methodLink RX1 51 yX1_isUser, .static yX1_isUser, .initialized RX1, .code yX1_isUser cX1_isUser 1 (some .boolean)] ++ wsX10 ++ wsX00 ++ (vx_atS RX1 67 "java/lang/IllegalArgumentException" ["java/lang/RuntimeException", "java/lang/Exception"]).filter goodWord)
def wsX1_value : List Cond := .code yX1_value cX1_value 2 (some .int) :: ([.classLink RX1 63 "java/lang/IllegalArgumentException", .initialized "java/lang/IllegalArgumentException", .fieldLink RX1 22 "MeteredSheets" "values" "[I", .methodLink RX1 55 yX1_isCell, .static yX1_isCell, .initialized RX1, .code yX1_isCell cX1_isCell 1 (some .boolean)] ++ wsX10 ++ (vx_atS RX1 67 "java/lang/IllegalArgumentException" ["java/lang/RuntimeException", "java/lang/Exception"]).filter goodWord)
def wsX1_isMarked : List Cond := .code yX1_isMarked cX1_isMarked 2 (some .boolean) :: ([.classLink RX1 63 "java/lang/IllegalArgumentException", .initialized "java/lang/IllegalArgumentException", .fieldLink RX1 25 "MeteredSheets" "marked" "[Z", .methodLink RX1 55 yX1_isCell, .static yX1_isCell, .initialized RX1, .code yX1_isCell cX1_isCell 1 (some .boolean)] ++ wsX10 ++ (vx_atS RX1 67 "java/lang/IllegalArgumentException" ["java/lang/RuntimeException", "java/lang/Exception"]).filter goodWord)
def wsX1_valueAnew_r1 : List Cond := [Cond.classLink RX1 63 "java/lang/IllegalArgumentException", Cond.initialized "java/lang/IllegalArgumentException", Cond.fieldLink RX1 29 "MeteredSheets" "order" "[I", Cond.fieldLink RX1 48 "MeteredSheets" "fresh" "[I", Cond.methodLink RX1 55 yX1_isCell, Cond.static yX1_isCell, Cond.initialized RX1, Cond.code yX1_isCell cX1_isCell 1 (some .boolean), Cond.methodLink RX1 121 yX1_resultOf, Cond.instanceMethod yX1_resultOf, Cond.selects RX1 yX1_resultOf yX1_resultOf, Cond.code yX1_resultOf cX1_resultOf 5 (some .int), Cond.fieldLink RX1 13 "MeteredSheets" "ones" "[I", Cond.fieldLink RX1 16 "MeteredSheets" "others" "[I", Cond.fieldLink RX1 9 "MeteredSheets" "kinds" "[I", Cond.fieldLink RX1 19 "MeteredSheets" "numbers" "[I", Cond.methodLink RX1 185 Lib.Math.max.name, Cond.static Lib.Math.max.name, Cond.initialized "java/lang/Math", Cond.code Lib.Math.max.name Lib.Math.max.code 2 (some .int), Cond.methodLink RX1 178 yX1_valueIn, Cond.static yX1_valueIn, Cond.code yX1_valueIn cX1_valueIn 2 (some .int), Cond.methodLink RX1 182 yX1_held]
def wsX1_valueAnew_r2 : List Cond := [Cond.static yX1_held, Cond.code yX1_held cX1_held 1 (some .int), Cond.constant RX1 190 (-1000000), Cond.constant RX1 58 (1000000), Cond.methodLink RX1 191 Lib.Math.min.name, Cond.static Lib.Math.min.name, Cond.code Lib.Math.min.name Lib.Math.min.code 2 (some .int)]
def wsX1_valueAnew : List Cond := .code yX1_valueAnew cX1_valueAnew 4 (some .int) :: ((wsX1_valueAnew_r1 ++ wsX1_valueAnew_r2) ++ wsX10 ++ (vx_atS RX1 67 "java/lang/IllegalArgumentException" ["java/lang/RuntimeException", "java/lang/Exception"]).filter goodWord)
def wsX1_readings : List Cond := .code yX1_readings cX1_readings 1 (some .int) :: ([.fieldLink RX1 35 "MeteredSheets" "ledger" "LMeteredSheets$Ledger;"] ++ wsX10 ++ wsX00)
def wsX1_reading : List Cond := .code yX1_reading cX1_reading 2 (some .int) :: ([.classLink RX1 129 "java/lang/IndexOutOfBoundsException", .initialized "java/lang/IndexOutOfBoundsException", .fieldLink RX1 35 "MeteredSheets" "ledger" "LMeteredSheets$Ledger;"] ++ wsX10 ++ wsX00 ++ (vx_atS RX1 133 "java/lang/IndexOutOfBoundsException" ["java/lang/RuntimeException", "java/lang/Exception"]).filter goodWord)
def wsX1_timesRead : List Cond := .code yX1_timesRead cX1_timesRead 3 (some .int) :: ([.classLink RX1 63 "java/lang/IllegalArgumentException", .initialized "java/lang/IllegalArgumentException", .fieldLink RX1 35 "MeteredSheets" "ledger" "LMeteredSheets$Ledger;", .methodLink RX1 55 yX1_isCell, .static yX1_isCell, .initialized RX1, .code yX1_isCell cX1_isCell 1 (some .boolean)] ++ wsX10 ++ wsX00 ++ (vx_atS RX1 67 "java/lang/IllegalArgumentException" ["java/lang/RuntimeException", "java/lang/Exception"]).filter goodWord)
def wsX1_readOf : List Cond := .code yX1_readOf cX1_readOf 2 (some .int) :: ([.classLink RX1 63 "java/lang/IllegalArgumentException", .initialized "java/lang/IllegalArgumentException", .fieldLink RX1 35 "MeteredSheets" "ledger" "LMeteredSheets$Ledger;", .methodLink RX1 98 yX1_isSheet, .static yX1_isSheet, .initialized RX1, .code yX1_isSheet cX1_isSheet 1 (some .boolean)] ++ wsX10 ++ wsX00 ++ (vx_atS RX1 67 "java/lang/IllegalArgumentException" ["java/lang/RuntimeException", "java/lang/Exception"]).filter goodWord)
def wsJ9_max_7cf53 : List Cond := .code yJ9_max_7cf53 cJ9_max_7cf53 2 (some .int) :: ([])
def wsJ9_min_7cf53 : List Cond := .code yJ9_min_7cf53 cJ9_min_7cf53 2 (some .int) :: ([])
def wsL_cell : List Cond := .code yL_cell cL_cell 2 (some .int) :: ([.constant RL 7 (970441141)])
def wsL_at : List Cond := .code yL_at cL_at 2 (some .int) :: ([])
def wsL_marked : List Cond := .code yL_marked cL_marked 3 (some .int) :: ([.methodLink RL 8 yX1_isMarked, .instanceMethod yX1_isMarked, .selects RX1 yX1_isMarked yX1_isMarked, .initialized RX1, .code yX1_isMarked cX1_isMarked 2 (some .boolean), .classLink RX1 63 "java/lang/IllegalArgumentException", .initialized "java/lang/IllegalArgumentException", .fieldLink RX1 25 "MeteredSheets" "marked" "[Z", .methodLink RX1 55 yX1_isCell, .static yX1_isCell, .code yX1_isCell cX1_isCell 1 (some .boolean)] ++ wsX10 ++ (vx_atS RX1 67 "java/lang/IllegalArgumentException" ["java/lang/RuntimeException", "java/lang/Exception"]).filter goodWord)
def wsL_accounts_r1 : List Cond := [Cond.methodLink RL 14 yX1_budget, Cond.instanceMethod yX1_budget, Cond.selects RX1 yX1_budget yX1_budget, Cond.initialized RX1, Cond.code yX1_budget cX1_budget 2 (some .int), Cond.classLink RX1 63 "java/lang/IllegalArgumentException", Cond.initialized "java/lang/IllegalArgumentException", Cond.fieldLink RX1 35 "MeteredSheets" "ledger" "LMeteredSheets$Ledger;", Cond.methodLink RX1 98 yX1_isSheet, Cond.static yX1_isSheet, Cond.code yX1_isSheet cX1_isSheet 1 (some .boolean), Cond.methodLink RL 18 yX1_earned, Cond.instanceMethod yX1_earned, Cond.selects RX1 yX1_earned yX1_earned, Cond.code yX1_earned cX1_earned 2 (some .int), Cond.methodLink RL 21 yX1_readOf, Cond.instanceMethod yX1_readOf, Cond.selects RX1 yX1_readOf yX1_readOf, Cond.code yX1_readOf cX1_readOf 2 (some .int), Cond.methodLink RL 24 yX1_caused, Cond.instanceMethod yX1_caused, Cond.selects RX1 yX1_caused yX1_caused, Cond.code yX1_caused cX1_caused 2 (some .int), Cond.methodLink RX1 51 yX1_isUser]
def wsL_accounts_r2 : List Cond := [Cond.static yX1_isUser, Cond.code yX1_isUser cX1_isUser 1 (some .boolean), Cond.methodLink RL 27 yX1_readings, Cond.instanceMethod yX1_readings, Cond.selects RX1 yX1_readings yX1_readings, Cond.code yX1_readings cX1_readings 1 (some .int)]
def wsL_accounts : List Cond := .code yL_accounts cL_accounts 7 (some .boolean) :: ((wsL_accounts_r1 ++ wsL_accounts_r2) ++ wsX10 ++ wsX00 ++ (vx_atS RX1 67 "java/lang/IllegalArgumentException" ["java/lang/RuntimeException", "java/lang/Exception"]).filter goodWord)
def wsL_traced : List Cond := .code yL_traced cL_traced 7 (some .boolean) :: ([.methodLink RL 27 yX1_readings, .instanceMethod yX1_readings, .selects RX1 yX1_readings yX1_readings, .initialized RX1, .code yX1_readings cX1_readings 1 (some .int), .fieldLink RX1 35 "MeteredSheets" "ledger" "LMeteredSheets$Ledger;", .methodLink RL 31 yX1_reading, .instanceMethod yX1_reading, .selects RX1 yX1_reading yX1_reading, .code yX1_reading cX1_reading 2 (some .int), .classLink RX1 129 "java/lang/IndexOutOfBoundsException", .initialized "java/lang/IndexOutOfBoundsException", .methodLink RL 34 yX1_timesRead, .instanceMethod yX1_timesRead, .selects RX1 yX1_timesRead yX1_timesRead, .code yX1_timesRead cX1_timesRead 3 (some .int), .classLink RX1 63 "java/lang/IllegalArgumentException", .initialized "java/lang/IllegalArgumentException", .methodLink RX1 55 yX1_isCell, .static yX1_isCell, .code yX1_isCell cX1_isCell 1 (some .boolean)] ++ wsX10 ++ wsX00 ++ (vx_atS RX1 133 "java/lang/IndexOutOfBoundsException" ["java/lang/RuntimeException", "java/lang/Exception"]).filter goodWord ++ (vx_atS RX1 67 "java/lang/IllegalArgumentException" ["java/lang/RuntimeException", "java/lang/Exception"]).filter goodWord)
def wsL_give_r1 : List Cond := [Cond.constant RL 43 (2000001), Cond.constant RL 44 (1000000), Cond.methodLink RL 38 yL_at, Cond.static yL_at, Cond.initialized RL, Cond.code yL_at cL_at 2 (some .int), Cond.methodLink RL 45 yX1_setNumber, Cond.instanceMethod yX1_setNumber, Cond.selects RX1 yX1_setNumber yX1_setNumber, Cond.initialized RX1, Cond.code yX1_setNumber cX1_setNumber 4 (some .int), Cond.classLink RX1 63 "java/lang/IllegalArgumentException", Cond.initialized "java/lang/IllegalArgumentException", Cond.constant RX1 58 (1000000), Cond.methodLink RX1 51 yX1_isUser, Cond.static yX1_isUser, Cond.code yX1_isUser cX1_isUser 1 (some .boolean), Cond.methodLink RX1 55 yX1_isCell, Cond.static yX1_isCell, Cond.code yX1_isCell cX1_isCell 1 (some .boolean), Cond.methodLink RX1 59 yX1_isWithin, Cond.static yX1_isWithin, Cond.code yX1_isWithin cX1_isWithin 2 (some .boolean), Cond.methodLink RX1 70 yX1_giveFormula]
def wsL_give_r2 : List Cond := [Cond.instanceMethod yX1_giveFormula, Cond.selects RX1 yX1_giveFormula yX1_giveFormula, Cond.code yX1_giveFormula cX1_giveFormula 7 (some .int), Cond.fieldLink RX1 9 "MeteredSheets" "kinds" "[I", Cond.fieldLink RX1 13 "MeteredSheets" "ones" "[I", Cond.fieldLink RX1 16 "MeteredSheets" "others" "[I", Cond.fieldLink RX1 19 "MeteredSheets" "numbers" "[I", Cond.methodLink RX1 152 yX1_putInOrder, Cond.instanceMethod yX1_putInOrder, Cond.selects RX1 yX1_putInOrder yX1_putInOrder, Cond.code yX1_putInOrder cX1_putInOrder 3 none, Cond.fieldLink RX1 42 "MeteredSheets" "placed" "[Z", Cond.fieldLink RX1 29 "MeteredSheets" "order" "[I", Cond.methodLink RX1 159 yX1_lowestFreeCell, Cond.instanceMethod yX1_lowestFreeCell, Cond.selects RX1 yX1_lowestFreeCell yX1_lowestFreeCell, Cond.code yX1_lowestFreeCell cX1_lowestFreeCell 2 (some .int), Cond.methodLink RX1 163 yX1_isReady, Cond.instanceMethod yX1_isReady, Cond.selects RX1 yX1_isReady yX1_isReady, Cond.code yX1_isReady cX1_isReady 2 (some .boolean), Cond.methodLink RX1 149 yX1_isIn, Cond.static yX1_isIn, Cond.code yX1_isIn cX1_isIn 2 (some .boolean)]
def wsL_give_r3 : List Cond := [Cond.methodLink RX1 91 yX1_forgetChanges, Cond.instanceMethod yX1_forgetChanges, Cond.selects RX1 yX1_forgetChanges yX1_forgetChanges, Cond.code yX1_forgetChanges cX1_forgetChanges 2 none, Cond.fieldLink RX1 39 "MeteredSheets" "changed" "[Z", Cond.methodLink RX1 155 yX1_compute, Cond.instanceMethod yX1_compute, Cond.selects RX1 yX1_compute yX1_compute, Cond.code yX1_compute cX1_compute 6 none, Cond.fieldLink RX1 25 "MeteredSheets" "marked" "[Z", Cond.fieldLink RX1 35 "MeteredSheets" "ledger" "LMeteredSheets$Ledger;", Cond.fieldLink RX1 22 "MeteredSheets" "values" "[I", Cond.methodLink RX1 166 yX1_meteredRead, Cond.static yX1_meteredRead, Cond.code yX1_meteredRead cX1_meteredRead 2 (some .int), Cond.methodLink RX1 174 yX1_sheetOf, Cond.static yX1_sheetOf, Cond.code yX1_sheetOf cX1_sheetOf 1 (some .int), Cond.instanceMethod yX0_paysFor, Cond.initialized RX0, Cond.selects RX0 yX0_paysFor yX0_paysFor, Cond.code yX0_paysFor cX0_paysFor 7 (some .boolean), Cond.fieldLink RX0 15 "MeteredSheets$Ledger" "budgets" "[I", Cond.methodLink RX0 41 yX0_costOf]
def wsL_give_r4 : List Cond := [Cond.instanceMethod yX0_costOf, Cond.selects RX0 yX0_costOf yX0_costOf, Cond.code yX0_costOf cX0_costOf 2 (some .int), Cond.fieldLink RX0 9 "MeteredSheets$Ledger" "prices" "[I", Cond.methodLink RX0 44 yX0_enter, Cond.instanceMethod yX0_enter, Cond.selects RX0 yX0_enter yX0_enter, Cond.code yX0_enter cX0_enter 5 none, Cond.fieldLink RX0 18 "MeteredSheets$Ledger" "earnings" "[I", Cond.fieldLink RX0 24 "MeteredSheets$Ledger" "bills" "[I", Cond.fieldLink RX0 21 "MeteredSheets$Ledger" "readsOf" "[I", Cond.fieldLink RX0 27 "MeteredSheets$Ledger" "counts" "[I", Cond.fieldLink RX0 33 "MeteredSheets$Ledger" "keptCount" "I", Cond.fieldLink RX0 30 "MeteredSheets$Ledger" "kept" "[I", Cond.methodLink RX1 121 yX1_resultOf, Cond.instanceMethod yX1_resultOf, Cond.selects RX1 yX1_resultOf yX1_resultOf, Cond.code yX1_resultOf cX1_resultOf 5 (some .int), Cond.methodLink RX1 185 Lib.Math.max.name, Cond.static Lib.Math.max.name, Cond.initialized "java/lang/Math", Cond.code Lib.Math.max.name Lib.Math.max.code 2 (some .int), Cond.methodLink RX1 178 yX1_valueIn, Cond.static yX1_valueIn]
def wsL_give_r5 : List Cond := [Cond.code yX1_valueIn cX1_valueIn 2 (some .int), Cond.methodLink RX1 182 yX1_held, Cond.static yX1_held, Cond.code yX1_held cX1_held 1 (some .int), Cond.constant RX1 190 (-1000000), Cond.methodLink RX1 191 Lib.Math.min.name, Cond.static Lib.Math.min.name, Cond.code Lib.Math.min.name Lib.Math.min.code 2 (some .int), Cond.methodLink RX1 94 yX1_goThrough, Cond.instanceMethod yX1_goThrough, Cond.selects RX1 yX1_goThrough yX1_goThrough, Cond.code yX1_goThrough cX1_goThrough 6 (some .int), Cond.methodLink RX1 145 yX1_readsOneOf, Cond.instanceMethod yX1_readsOneOf, Cond.selects RX1 yX1_readsOneOf yX1_readsOneOf, Cond.code yX1_readsOneOf cX1_readsOneOf 3 (some .boolean), Cond.methodLink RL 49 yX1_setSum, Cond.instanceMethod yX1_setSum, Cond.selects RX1 yX1_setSum yX1_setSum, Cond.code yX1_setSum cX1_setSum 6 (some .int), Cond.classLink RX1 80 "java/lang/IllegalStateException", Cond.initialized "java/lang/IllegalStateException", Cond.methodLink RX1 76 yX1_wouldReadItself, Cond.instanceMethod yX1_wouldReadItself]
def wsL_give_r6 : List Cond := [Cond.selects RX1 yX1_wouldReadItself yX1_wouldReadItself, Cond.code yX1_wouldReadItself cX1_wouldReadItself 6 (some .boolean), Cond.fieldLink RX1 45 "MeteredSheets" "reaching" "[Z", Cond.methodLink RL 53 yX1_setGreater, Cond.instanceMethod yX1_setGreater, Cond.selects RX1 yX1_setGreater yX1_setGreater, Cond.code yX1_setGreater cX1_setGreater 5 (some .int), Cond.methodLink RL 57 yX1_setTimes, Cond.instanceMethod yX1_setTimes, Cond.selects RX1 yX1_setTimes yX1_setTimes, Cond.code yX1_setTimes cX1_setTimes 5 (some .int)]
def wsL_give : List Cond := .code yL_give cL_give 8 (some .int) :: ((wsL_give_r1 ++ (wsL_give_r2 ++ (wsL_give_r3 ++ (wsL_give_r4 ++ (wsL_give_r5 ++ wsL_give_r6))))) ++ wsX10 ++ wsX00 ++ (vx_atS RX1 67 "java/lang/IllegalArgumentException" ["java/lang/RuntimeException", "java/lang/Exception"]).filter goodWord ++ (vx_atS RX1 84 "java/lang/IllegalStateException" ["java/lang/RuntimeException", "java/lang/Exception"]).filter goodWord)
def wsL_right_r1 : List Cond := [Cond.constant RL 44 (1000000), Cond.constant RL 70 (-1000000), Cond.methodLink RL 60 yL_marked, Cond.static yL_marked, Cond.initialized RL, Cond.code yL_marked cL_marked 3 (some .int), Cond.methodLink RL 8 yX1_isMarked, Cond.instanceMethod yX1_isMarked, Cond.selects RX1 yX1_isMarked yX1_isMarked, Cond.initialized RX1, Cond.code yX1_isMarked cX1_isMarked 2 (some .boolean), Cond.classLink RX1 63 "java/lang/IllegalArgumentException", Cond.initialized "java/lang/IllegalArgumentException", Cond.fieldLink RX1 25 "MeteredSheets" "marked" "[Z", Cond.methodLink RX1 55 yX1_isCell, Cond.static yX1_isCell, Cond.code yX1_isCell cX1_isCell 1 (some .boolean), Cond.methodLink RL 64 yX1_value, Cond.instanceMethod yX1_value, Cond.selects RX1 yX1_value yX1_value, Cond.code yX1_value cX1_value 2 (some .int), Cond.fieldLink RX1 22 "MeteredSheets" "values" "[I", Cond.methodLink RL 67 yX1_valueAnew, Cond.instanceMethod yX1_valueAnew]
def wsL_right_r2 : List Cond := [Cond.selects RX1 yX1_valueAnew yX1_valueAnew, Cond.code yX1_valueAnew cX1_valueAnew 4 (some .int), Cond.fieldLink RX1 29 "MeteredSheets" "order" "[I", Cond.fieldLink RX1 48 "MeteredSheets" "fresh" "[I", Cond.methodLink RX1 121 yX1_resultOf, Cond.instanceMethod yX1_resultOf, Cond.selects RX1 yX1_resultOf yX1_resultOf, Cond.code yX1_resultOf cX1_resultOf 5 (some .int), Cond.fieldLink RX1 13 "MeteredSheets" "ones" "[I", Cond.fieldLink RX1 16 "MeteredSheets" "others" "[I", Cond.fieldLink RX1 9 "MeteredSheets" "kinds" "[I", Cond.fieldLink RX1 19 "MeteredSheets" "numbers" "[I", Cond.methodLink RX1 185 Lib.Math.max.name, Cond.static Lib.Math.max.name, Cond.initialized "java/lang/Math", Cond.code Lib.Math.max.name Lib.Math.max.code 2 (some .int), Cond.methodLink RX1 178 yX1_valueIn, Cond.static yX1_valueIn, Cond.code yX1_valueIn cX1_valueIn 2 (some .int), Cond.methodLink RX1 182 yX1_held, Cond.static yX1_held, Cond.code yX1_held cX1_held 1 (some .int), Cond.constant RX1 190 (-1000000), Cond.constant RX1 58 (1000000)]
def wsL_right_r3 : List Cond := [Cond.methodLink RX1 191 Lib.Math.min.name, Cond.static Lib.Math.min.name, Cond.code Lib.Math.min.name Lib.Math.min.code 2 (some .int)]
def wsL_right : List Cond := .code yL_right cL_right 2 (some .boolean) :: ((wsL_right_r1 ++ (wsL_right_r2 ++ wsL_right_r3)) ++ wsX10 ++ (vx_atS RX1 67 "java/lang/IllegalArgumentException" ["java/lang/RuntimeException", "java/lang/Exception"]).filter goodWord)
def wsL_law0_r1 : List Cond := [Cond.classLink RL 9 RX1, Cond.instantiable RX1 12, Cond.initialized RX1, Cond.arrayClass .int, Cond.constant RL 76 (2147483647), Cond.methodLink RL 71 yX1_init, Cond.instanceMethod yX1_init, Cond.code yX1_init cX1_init 2 none, Cond.methodLink RX1 1 objectInit, Cond.instanceMethod objectInit, Cond.code objectInit ⟨#[0xb1]⟩ 1 none, Cond.fieldLink RX1 9 "MeteredSheets" "kinds" "[I", Cond.fieldLink RX1 13 "MeteredSheets" "ones" "[I", Cond.fieldLink RX1 16 "MeteredSheets" "others" "[I", Cond.fieldLink RX1 19 "MeteredSheets" "numbers" "[I", Cond.fieldLink RX1 22 "MeteredSheets" "values" "[I", Cond.arrayClass .boolean, Cond.fieldLink RX1 25 "MeteredSheets" "marked" "[Z", Cond.fieldLink RX1 29 "MeteredSheets" "order" "[I", Cond.classLink RX1 32 RX0, Cond.instantiable RX0 8, Cond.initialized RX0, Cond.fieldLink RX1 35 "MeteredSheets" "ledger" "LMeteredSheets$Ledger;", Cond.fieldLink RX1 39 "MeteredSheets" "changed" "[Z"]
def wsL_law0_r2 : List Cond := [Cond.fieldLink RX1 42 "MeteredSheets" "placed" "[Z", Cond.fieldLink RX1 45 "MeteredSheets" "reaching" "[Z", Cond.fieldLink RX1 48 "MeteredSheets" "fresh" "[I", Cond.instanceMethod yX0_init, Cond.code yX0_init cX0_init 2 none, Cond.methodLink RX0 3 objectInit, Cond.fieldLink RX0 9 "MeteredSheets$Ledger" "prices" "[I", Cond.fieldLink RX0 15 "MeteredSheets$Ledger" "budgets" "[I", Cond.fieldLink RX0 18 "MeteredSheets$Ledger" "earnings" "[I", Cond.fieldLink RX0 21 "MeteredSheets$Ledger" "readsOf" "[I", Cond.fieldLink RX0 24 "MeteredSheets$Ledger" "bills" "[I", Cond.fieldLink RX0 27 "MeteredSheets$Ledger" "counts" "[I", Cond.fieldLink RX0 30 "MeteredSheets$Ledger" "kept" "[I", Cond.fieldLink RX0 33 "MeteredSheets$Ledger" "keptCount" "I", Cond.methodLink RL 72 yL_cell, Cond.static yL_cell, Cond.initialized RL, Cond.code yL_cell cL_cell 2 (some .int), Cond.constant RL 7 (970441141), Cond.methodLink RL 38 yL_at, Cond.static yL_at, Cond.code yL_at cL_at 2 (some .int), Cond.methodLink RL 77 yL_give, Cond.static yL_give]
def wsL_law0_r3 : List Cond := [Cond.code yL_give cL_give 8 (some .int), Cond.constant RL 43 (2000001), Cond.constant RL 44 (1000000), Cond.methodLink RL 45 yX1_setNumber, Cond.instanceMethod yX1_setNumber, Cond.selects RX1 yX1_setNumber yX1_setNumber, Cond.code yX1_setNumber cX1_setNumber 4 (some .int), Cond.classLink RX1 63 "java/lang/IllegalArgumentException", Cond.initialized "java/lang/IllegalArgumentException", Cond.constant RX1 58 (1000000), Cond.methodLink RX1 51 yX1_isUser, Cond.static yX1_isUser, Cond.code yX1_isUser cX1_isUser 1 (some .boolean), Cond.methodLink RX1 55 yX1_isCell, Cond.static yX1_isCell, Cond.code yX1_isCell cX1_isCell 1 (some .boolean), Cond.methodLink RX1 59 yX1_isWithin, Cond.static yX1_isWithin, Cond.code yX1_isWithin cX1_isWithin 2 (some .boolean), Cond.methodLink RX1 70 yX1_giveFormula, Cond.instanceMethod yX1_giveFormula, Cond.selects RX1 yX1_giveFormula yX1_giveFormula, Cond.code yX1_giveFormula cX1_giveFormula 7 (some .int), Cond.methodLink RX1 152 yX1_putInOrder]
def wsL_law0_r4 : List Cond := [Cond.instanceMethod yX1_putInOrder, Cond.selects RX1 yX1_putInOrder yX1_putInOrder, Cond.code yX1_putInOrder cX1_putInOrder 3 none, Cond.methodLink RX1 159 yX1_lowestFreeCell, Cond.instanceMethod yX1_lowestFreeCell, Cond.selects RX1 yX1_lowestFreeCell yX1_lowestFreeCell, Cond.code yX1_lowestFreeCell cX1_lowestFreeCell 2 (some .int), Cond.methodLink RX1 163 yX1_isReady, Cond.instanceMethod yX1_isReady, Cond.selects RX1 yX1_isReady yX1_isReady, Cond.code yX1_isReady cX1_isReady 2 (some .boolean), Cond.methodLink RX1 149 yX1_isIn, Cond.static yX1_isIn, Cond.code yX1_isIn cX1_isIn 2 (some .boolean), Cond.methodLink RX1 91 yX1_forgetChanges, Cond.instanceMethod yX1_forgetChanges, Cond.selects RX1 yX1_forgetChanges yX1_forgetChanges, Cond.code yX1_forgetChanges cX1_forgetChanges 2 none, Cond.methodLink RX1 155 yX1_compute, Cond.instanceMethod yX1_compute, Cond.selects RX1 yX1_compute yX1_compute, Cond.code yX1_compute cX1_compute 6 none, Cond.methodLink RX1 166 yX1_meteredRead, Cond.static yX1_meteredRead]
def wsL_law0_r5 : List Cond := [Cond.code yX1_meteredRead cX1_meteredRead 2 (some .int), Cond.methodLink RX1 174 yX1_sheetOf, Cond.static yX1_sheetOf, Cond.code yX1_sheetOf cX1_sheetOf 1 (some .int), Cond.instanceMethod yX0_paysFor, Cond.selects RX0 yX0_paysFor yX0_paysFor, Cond.code yX0_paysFor cX0_paysFor 7 (some .boolean), Cond.methodLink RX0 41 yX0_costOf, Cond.instanceMethod yX0_costOf, Cond.selects RX0 yX0_costOf yX0_costOf, Cond.code yX0_costOf cX0_costOf 2 (some .int), Cond.methodLink RX0 44 yX0_enter, Cond.instanceMethod yX0_enter, Cond.selects RX0 yX0_enter yX0_enter, Cond.code yX0_enter cX0_enter 5 none, Cond.methodLink RX1 121 yX1_resultOf, Cond.instanceMethod yX1_resultOf, Cond.selects RX1 yX1_resultOf yX1_resultOf, Cond.code yX1_resultOf cX1_resultOf 5 (some .int), Cond.methodLink RX1 185 Lib.Math.max.name, Cond.static Lib.Math.max.name, Cond.initialized "java/lang/Math", Cond.code Lib.Math.max.name Lib.Math.max.code 2 (some .int), Cond.methodLink RX1 178 yX1_valueIn]
def wsL_law0_r6 : List Cond := [Cond.static yX1_valueIn, Cond.code yX1_valueIn cX1_valueIn 2 (some .int), Cond.methodLink RX1 182 yX1_held, Cond.static yX1_held, Cond.code yX1_held cX1_held 1 (some .int), Cond.constant RX1 190 (-1000000), Cond.methodLink RX1 191 Lib.Math.min.name, Cond.static Lib.Math.min.name, Cond.code Lib.Math.min.name Lib.Math.min.code 2 (some .int), Cond.methodLink RX1 94 yX1_goThrough, Cond.instanceMethod yX1_goThrough, Cond.selects RX1 yX1_goThrough yX1_goThrough, Cond.code yX1_goThrough cX1_goThrough 6 (some .int), Cond.methodLink RX1 145 yX1_readsOneOf, Cond.instanceMethod yX1_readsOneOf, Cond.selects RX1 yX1_readsOneOf yX1_readsOneOf, Cond.code yX1_readsOneOf cX1_readsOneOf 3 (some .boolean), Cond.methodLink RL 49 yX1_setSum, Cond.instanceMethod yX1_setSum, Cond.selects RX1 yX1_setSum yX1_setSum, Cond.code yX1_setSum cX1_setSum 6 (some .int), Cond.classLink RX1 80 "java/lang/IllegalStateException", Cond.initialized "java/lang/IllegalStateException", Cond.methodLink RX1 76 yX1_wouldReadItself]
def wsL_law0_r7 : List Cond := [Cond.instanceMethod yX1_wouldReadItself, Cond.selects RX1 yX1_wouldReadItself yX1_wouldReadItself, Cond.code yX1_wouldReadItself cX1_wouldReadItself 6 (some .boolean), Cond.methodLink RL 53 yX1_setGreater, Cond.instanceMethod yX1_setGreater, Cond.selects RX1 yX1_setGreater yX1_setGreater, Cond.code yX1_setGreater cX1_setGreater 5 (some .int), Cond.methodLink RL 57 yX1_setTimes, Cond.instanceMethod yX1_setTimes, Cond.selects RX1 yX1_setTimes yX1_setTimes, Cond.code yX1_setTimes cX1_setTimes 5 (some .int), Cond.methodLink RL 60 yL_marked, Cond.static yL_marked, Cond.code yL_marked cL_marked 3 (some .int), Cond.methodLink RL 8 yX1_isMarked, Cond.instanceMethod yX1_isMarked, Cond.selects RX1 yX1_isMarked yX1_isMarked, Cond.code yX1_isMarked cX1_isMarked 2 (some .boolean), Cond.methodLink RL 81 yX1_refresh, Cond.instanceMethod yX1_refresh, Cond.selects RX1 yX1_refresh yX1_refresh, Cond.code yX1_refresh cX1_refresh 2 (some .int), Cond.methodLink RL 84 yX1_setPrice, Cond.instanceMethod yX1_setPrice]
def wsL_law0_r8 : List Cond := [Cond.selects RX1 yX1_setPrice yX1_setPrice, Cond.code yX1_setPrice cX1_setPrice 4 (some .int), Cond.methodLink RX1 98 yX1_isSheet, Cond.static yX1_isSheet, Cond.code yX1_isSheet cX1_isSheet 1 (some .boolean), Cond.methodLink RL 14 yX1_budget, Cond.instanceMethod yX1_budget, Cond.selects RX1 yX1_budget yX1_budget, Cond.code yX1_budget cX1_budget 2 (some .int), Cond.methodLink RL 87 yX1_grant, Cond.instanceMethod yX1_grant, Cond.selects RX1 yX1_grant yX1_grant, Cond.code yX1_grant cX1_grant 3 (some .int), Cond.methodLink RL 90 yL_traced, Cond.static yL_traced, Cond.code yL_traced cL_traced 7 (some .boolean), Cond.methodLink RL 27 yX1_readings, Cond.instanceMethod yX1_readings, Cond.selects RX1 yX1_readings yX1_readings, Cond.code yX1_readings cX1_readings 1 (some .int), Cond.methodLink RL 31 yX1_reading, Cond.instanceMethod yX1_reading, Cond.selects RX1 yX1_reading yX1_reading, Cond.code yX1_reading cX1_reading 2 (some .int)]
def wsL_law0_r9 : List Cond := [Cond.classLink RX1 129 "java/lang/IndexOutOfBoundsException", Cond.initialized "java/lang/IndexOutOfBoundsException", Cond.methodLink RL 34 yX1_timesRead, Cond.instanceMethod yX1_timesRead, Cond.selects RX1 yX1_timesRead yX1_timesRead, Cond.code yX1_timesRead cX1_timesRead 3 (some .int), Cond.methodLink RL 94 yL_accounts, Cond.static yL_accounts, Cond.code yL_accounts cL_accounts 7 (some .boolean), Cond.methodLink RL 18 yX1_earned, Cond.instanceMethod yX1_earned, Cond.selects RX1 yX1_earned yX1_earned, Cond.code yX1_earned cX1_earned 2 (some .int), Cond.methodLink RL 21 yX1_readOf, Cond.instanceMethod yX1_readOf, Cond.selects RX1 yX1_readOf yX1_readOf, Cond.code yX1_readOf cX1_readOf 2 (some .int), Cond.methodLink RL 24 yX1_caused, Cond.instanceMethod yX1_caused, Cond.selects RX1 yX1_caused yX1_caused, Cond.code yX1_caused cX1_caused 2 (some .int), Cond.methodLink RL 98 yL_right, Cond.static yL_right, Cond.code yL_right cL_right 2 (some .boolean)]
def wsL_law0_r10 : List Cond := [Cond.constant RL 70 (-1000000), Cond.methodLink RL 64 yX1_value, Cond.instanceMethod yX1_value, Cond.selects RX1 yX1_value yX1_value, Cond.code yX1_value cX1_value 2 (some .int), Cond.methodLink RL 67 yX1_valueAnew, Cond.instanceMethod yX1_valueAnew, Cond.selects RX1 yX1_valueAnew yX1_valueAnew, Cond.code yX1_valueAnew cX1_valueAnew 4 (some .int)]
def wsL_law0 : List Cond := (wsL_law0_r1 ++ (wsL_law0_r2 ++ (wsL_law0_r3 ++ (wsL_law0_r4 ++ (wsL_law0_r5 ++ (wsL_law0_r6 ++ (wsL_law0_r7 ++ (wsL_law0_r8 ++ (wsL_law0_r9 ++ wsL_law0_r10))))))))) ++ wsX10 ++ wsX00 ++ ([] : List Cond)
def wsL_law : List Cond := wsL_law0 ++ (vx_atS RX1 67 "java/lang/IllegalArgumentException" ["java/lang/RuntimeException", "java/lang/Exception"]).filter goodWord ++ (vx_atS RX1 84 "java/lang/IllegalStateException" ["java/lang/RuntimeException", "java/lang/Exception"]).filter goodWord ++ (vx_atS RX1 133 "java/lang/IndexOutOfBoundsException" ["java/lang/RuntimeException", "java/lang/Exception"]).filter goodWord
set_option maxRecDepth 20000 in
theorem wsL_law0_r1_in : ∀ w ∈ wsL_law0_r1, w ∈ lw_tbl := fun w h => (goodIn_p wsL_law0_r1 [28, 31] (by decide +kernel) (by decide +kernel) w h).1
set_option maxRecDepth 20000 in
theorem wsL_law0_r2_in : ∀ w ∈ wsL_law0_r2, w ∈ lw_tbl := fun w h => (goodIn_p wsL_law0_r2 [36, 265, 269] (by decide +kernel) (by decide +kernel) w h).1
set_option maxRecDepth 20000 in
theorem wsL_law0_r3_in : ∀ w ∈ wsL_law0_r3, w ∈ lw_tbl := fun w h => (goodIn_p wsL_law0_r3 [327, 333, 116, 195, 336, 341] (by decide +kernel) (by decide +kernel) w h).1
set_option maxRecDepth 20000 in
theorem wsL_law0_r4_in : ∀ w ∈ wsL_law0_r4, w ∈ lw_tbl := fun w h => (goodIn_p wsL_law0_r4 [345, 349, 353, 202, 188, 206] (by decide +kernel) (by decide +kernel) w h).1
set_option maxRecDepth 20000 in
theorem wsL_law0_r5_in : ∀ w ∈ wsL_law0_r5, w ∈ lw_tbl := fun w h => (goodIn_p wsL_law0_r5 [209, 212, 216, 221, 226, 230, 244] (by decide +kernel) (by decide +kernel) w h).1
set_option maxRecDepth 20000 in
theorem wsL_law0_r6_in : ∀ w ∈ wsL_law0_r6, w ∈ lw_tbl := fun w h => (goodIn_p wsL_law0_r6 [233, 236, 241, 192, 199, 357] (by decide +kernel) (by decide +kernel) w h).1
set_option maxRecDepth 20000 in
theorem wsL_law0_r7_in : ∀ w ∈ wsL_law0_r7, w ∈ lw_tbl := fun w h => (goodIn_p wsL_law0_r7 [362, 382, 387, 272, 276, 113] (by decide +kernel) (by decide +kernel) w h).1
set_option maxRecDepth 20000 in
theorem wsL_law0_r8_in : ∀ w ∈ wsL_law0_r8, w ∈ lw_tbl := fun w h => (goodIn_p wsL_law0_r8 [248, 251, 261, 256, 299, 296, 303] (by decide +kernel) (by decide +kernel) w h).1
set_option maxRecDepth 20000 in
theorem wsL_law0_r9_in : ∀ w ∈ wsL_law0_r9, w ∈ lw_tbl := fun w h => (goodIn_p wsL_law0_r9 [323, 280, 284, 288, 292, 391] (by decide +kernel) (by decide +kernel) w h).1
set_option maxRecDepth 20000 in
theorem wsL_law0_r10_in : ∀ w ∈ wsL_law0_r10, w ∈ lw_tbl := fun w h => (goodIn_p wsL_law0_r10 [395, 399] (by decide +kernel) (by decide +kernel) w h).1
set_option maxRecDepth 20000 in
theorem wsX10_in0 : ∀ w ∈ wsX10, w ∈ lw_tbl := by decide +kernel
set_option maxRecDepth 20000 in
theorem wsX00_in0 : ∀ w ∈ wsX00, w ∈ lw_tbl := by decide +kernel
theorem wsL_law_in0 : ∀ w ∈ wsL_law0, w ∈ lw_tbl := fun w h => (List.mem_append.mp h).elim (fun h => (List.mem_append.mp h).elim (fun h => (List.mem_append.mp h).elim (fun h => (List.mem_append.mp h).elim (fun h => wsL_law0_r1_in w h) (fun h => (List.mem_append.mp h).elim (fun h => wsL_law0_r2_in w h) (fun h => (List.mem_append.mp h).elim (fun h => wsL_law0_r3_in w h) (fun h => (List.mem_append.mp h).elim (fun h => wsL_law0_r4_in w h) (fun h => (List.mem_append.mp h).elim (fun h => wsL_law0_r5_in w h) (fun h => (List.mem_append.mp h).elim (fun h => wsL_law0_r6_in w h) (fun h => (List.mem_append.mp h).elim (fun h => wsL_law0_r7_in w h) (fun h => (List.mem_append.mp h).elim (fun h => wsL_law0_r8_in w h) (fun h => (List.mem_append.mp h).elim (fun h => wsL_law0_r9_in w h) (fun h => wsL_law0_r10_in w h)))))))))) (fun h => wsX10_in0 w h)) (fun h => wsX00_in0 w h)) (fun h => nomatch h)
theorem wsL_law_x0 : ∀ w ∈ (vx_atS RX1 67 "java/lang/IllegalArgumentException" ["java/lang/RuntimeException", "java/lang/Exception"]).filter goodWord, w ∈ lw_tbl := by decide +kernel
theorem wsL_law_x1 : ∀ w ∈ (vx_atS RX1 84 "java/lang/IllegalStateException" ["java/lang/RuntimeException", "java/lang/Exception"]).filter goodWord, w ∈ lw_tbl := by decide +kernel
theorem wsL_law_x2 : ∀ w ∈ (vx_atS RX1 133 "java/lang/IndexOutOfBoundsException" ["java/lang/RuntimeException", "java/lang/Exception"]).filter goodWord, w ∈ lw_tbl := by decide +kernel
theorem wsL_law_in : ∀ w ∈ wsL_law, w ∈ lw_tbl := fun w h => (List.mem_append.mp h).elim (fun h => (List.mem_append.mp h).elim (fun h => (List.mem_append.mp h).elim (fun h => wsL_law_in0 w h) (fun h => wsL_law_x0 w h)) (fun h => wsL_law_x1 w h)) (fun h => wsL_law_x2 w h)
theorem inlX0 : ∀ w ∈ wsX00, w ∈ wsL_law := fun _ h => List.mem_append_left _ (List.mem_append_left _ (List.mem_append_left _ (List.mem_append_left _ (List.mem_append_right _ h))))
theorem inX0 : ∀ w ∈ wsX00, w ∈ lw_tbl := fun w h => wsL_law_in w (inlX0 w h)
theorem inlX1 : ∀ w ∈ wsX10, w ∈ wsL_law := fun _ h => List.mem_append_left _ (List.mem_append_left _ (List.mem_append_left _ (List.mem_append_left _ (List.mem_append_left _ (List.mem_append_right _ h)))))
theorem inX1 : ∀ w ∈ wsX10, w ∈ lw_tbl := fun w h => wsL_law_in w (inlX1 w h)
theorem inX2 : ∀ w ∈ wsX20, w ∈ lw_tbl := by decide +kernel
theorem inJ9 : ∀ w ∈ wsJ90, w ∈ lw_tbl := by decide +kernel
theorem inJ0 : ∀ w ∈ wsJ00, w ∈ lw_tbl := by decide +kernel
theorem dX0_init_0 : decode cX0_init 0 = .ok (.aload_n 0, 1) := by decide +kernel
theorem dX0_init_1 : decode cX0_init 1 = .ok (.invokespecial 3, 3) := by decide +kernel
theorem dX0_init_4 : decode cX0_init 4 = .ok (.aload_n 0, 1) := by decide +kernel
theorem dX0_init_5 : decode cX0_init 5 = .ok (.iconst 4, 1) := by decide +kernel
theorem dX0_init_6 : decode cX0_init 6 = .ok (.newarray .int, 2) := by decide +kernel
theorem dX0_init_8 : decode cX0_init 8 = .ok (.putfield 9, 3) := by decide +kernel
theorem dX0_init_11 : decode cX0_init 11 = .ok (.aload_n 0, 1) := by decide +kernel
theorem dX0_init_12 : decode cX0_init 12 = .ok (.iconst 4, 1) := by decide +kernel
theorem dX0_init_13 : decode cX0_init 13 = .ok (.newarray .int, 2) := by decide +kernel
theorem dX0_init_15 : decode cX0_init 15 = .ok (.putfield 15, 3) := by decide +kernel
theorem dX0_init_18 : decode cX0_init 18 = .ok (.aload_n 0, 1) := by decide +kernel
theorem dX0_init_19 : decode cX0_init 19 = .ok (.iconst 4, 1) := by decide +kernel
theorem dX0_init_20 : decode cX0_init 20 = .ok (.newarray .int, 2) := by decide +kernel
theorem dX0_init_22 : decode cX0_init 22 = .ok (.putfield 18, 3) := by decide +kernel
theorem dX0_init_25 : decode cX0_init 25 = .ok (.aload_n 0, 1) := by decide +kernel
theorem dX0_init_26 : decode cX0_init 26 = .ok (.iconst 4, 1) := by decide +kernel
theorem dX0_init_27 : decode cX0_init 27 = .ok (.newarray .int, 2) := by decide +kernel
theorem dX0_init_29 : decode cX0_init 29 = .ok (.putfield 21, 3) := by decide +kernel
theorem dX0_init_32 : decode cX0_init 32 = .ok (.aload_n 0, 1) := by decide +kernel
theorem dX0_init_33 : decode cX0_init 33 = .ok (.iconst 5, 1) := by decide +kernel
theorem dX0_init_34 : decode cX0_init 34 = .ok (.newarray .int, 2) := by decide +kernel
theorem dX0_init_36 : decode cX0_init 36 = .ok (.putfield 24, 3) := by decide +kernel
theorem dX0_init_39 : decode cX0_init 39 = .ok (.aload_n 0, 1) := by decide +kernel
theorem dX0_init_40 : decode cX0_init 40 = .ok (.sipush 576, 3) := by decide +kernel
theorem dX0_init_43 : decode cX0_init 43 = .ok (.newarray .int, 2) := by decide +kernel
theorem dX0_init_45 : decode cX0_init 45 = .ok (.putfield 27, 3) := by decide +kernel
theorem dX0_init_48 : decode cX0_init 48 = .ok (.aload_n 0, 1) := by decide +kernel
theorem dX0_init_49 : decode cX0_init 49 = .ok (.sipush 500, 3) := by decide +kernel
theorem dX0_init_52 : decode cX0_init 52 = .ok (.newarray .int, 2) := by decide +kernel
theorem dX0_init_54 : decode cX0_init 54 = .ok (.putfield 30, 3) := by decide +kernel
theorem dX0_init_57 : decode cX0_init 57 = .ok (.aload_n 0, 1) := by decide +kernel
theorem dX0_init_58 : decode cX0_init 58 = .ok (.iconst 0, 1) := by decide +kernel
theorem dX0_init_59 : decode cX0_init 59 = .ok (.putfield 33, 3) := by decide +kernel
theorem dX0_init_62 : decode cX0_init 62 = .ok (.iconst 0, 1) := by decide +kernel
theorem dX0_init_63 : decode cX0_init 63 = .ok (.istore_n 1, 1) := by decide +kernel
theorem dX0_init_64 : decode cX0_init 64 = .ok (.iload_n 1, 1) := by decide +kernel
theorem dX0_init_65 : decode cX0_init 65 = .ok (.iconst 4, 1) := by decide +kernel
theorem dX0_init_66 : decode cX0_init 66 = .ok (.if_icmp .ge 24, 3) := by decide +kernel
theorem dX0_init_69 : decode cX0_init 69 = .ok (.aload_n 0, 1) := by decide +kernel
theorem dX0_init_70 : decode cX0_init 70 = .ok (.getfield 9, 3) := by decide +kernel
theorem dX0_init_73 : decode cX0_init 73 = .ok (.iload_n 1, 1) := by decide +kernel
theorem dX0_init_74 : decode cX0_init 74 = .ok (.iconst 1, 1) := by decide +kernel
theorem dX0_init_75 : decode cX0_init 75 = .ok (.iastore, 1) := by decide +kernel
theorem dX0_init_76 : decode cX0_init 76 = .ok (.aload_n 0, 1) := by decide +kernel
theorem dX0_init_77 : decode cX0_init 77 = .ok (.getfield 15, 3) := by decide +kernel
theorem dX0_init_80 : decode cX0_init 80 = .ok (.iload_n 1, 1) := by decide +kernel
theorem dX0_init_81 : decode cX0_init 81 = .ok (.bipush 100, 2) := by decide +kernel
theorem dX0_init_83 : decode cX0_init 83 = .ok (.iastore, 1) := by decide +kernel
theorem dX0_init_84 : decode cX0_init 84 = .ok (.iinc 1 1, 3) := by decide +kernel
theorem dX0_init_87 : decode cX0_init 87 = .ok (.goto (-23), 3) := by decide +kernel
theorem dX0_init_90 : decode cX0_init 90 = .ok (.return_, 1) := by decide +kernel
set_option maxRecDepth 20000 in
theorem ggX0_paysFor_X1_sheetOf : GoodIn wsX0_paysFor wsX1_sheetOf := goodIn_r _ [4] (by decide +kernel) (by decide +kernel)
set_option maxRecDepth 20000 in
theorem gX0_paysFor_X1_sheetOf_n37 : GoodIn wsX0_paysFor (wsX1_sheetOf) := ggX0_paysFor_X1_sheetOf
set_option maxRecDepth 20000 in
theorem ggX0_paysFor_X0_costOf : GoodIn wsX0_paysFor wsX0_costOf := goodIn_r _ [9, 10, 11, 3, 12, 2, 4, 23, 24, 25, 26, 27, 28, 29, 30] (by decide +kernel) (by decide +kernel)
set_option maxRecDepth 20000 in
theorem gX0_paysFor_X0_costOf : GoodIn wsX0_paysFor (wsV RX0 41 RX0 yX0_costOf wsX0_costOf) := goodIn_app (goodIn_of _ (by decide +kernel)) ggX0_paysFor_X0_costOf
set_option maxRecDepth 20000 in
theorem ggX0_paysFor_X0_enter : GoodIn wsX0_paysFor wsX0_enter := goodIn_r _ [16, 17, 10, 18, 19, 20, 21, 22, 11, 3, 12, 2, 4, 23, 24, 25, 26, 27, 28, 29, 30] (by decide +kernel) (by decide +kernel)
set_option maxRecDepth 20000 in
theorem gX0_paysFor_X0_enter : GoodIn wsX0_paysFor (wsV RX0 44 RX0 yX0_enter wsX0_enter) := goodIn_app (goodIn_of _ (by decide +kernel)) ggX0_paysFor_X0_enter
theorem dX0_paysFor_0 : decode cX0_paysFor 0 = .ok (.iload_n 2, 1) := by decide +kernel
theorem dX0_paysFor_1 : decode cX0_paysFor 1 = .ok (.invokestatic 37, 3) := by decide +kernel
theorem dX0_paysFor_4 : decode cX0_paysFor 4 = .ok (.istore 5, 2) := by decide +kernel
theorem dX0_paysFor_6 : decode cX0_paysFor 6 = .ok (.aload_n 0, 1) := by decide +kernel
theorem dX0_paysFor_7 : decode cX0_paysFor 7 = .ok (.iload_n 3, 1) := by decide +kernel
theorem dX0_paysFor_8 : decode cX0_paysFor 8 = .ok (.invokevirtual 41, 3) := by decide +kernel
theorem dX0_paysFor_11 : decode cX0_paysFor 11 = .ok (.aload_n 0, 1) := by decide +kernel
theorem dX0_paysFor_12 : decode cX0_paysFor 12 = .ok (.iload 4, 2) := by decide +kernel
theorem dX0_paysFor_14 : decode cX0_paysFor 14 = .ok (.invokevirtual 41, 3) := by decide +kernel
theorem dX0_paysFor_17 : decode cX0_paysFor 17 = .ok (.iadd, 1) := by decide +kernel
theorem dX0_paysFor_18 : decode cX0_paysFor 18 = .ok (.istore 6, 2) := by decide +kernel
theorem dX0_paysFor_20 : decode cX0_paysFor 20 = .ok (.aload_n 0, 1) := by decide +kernel
theorem dX0_paysFor_21 : decode cX0_paysFor 21 = .ok (.getfield 15, 3) := by decide +kernel
theorem dX0_paysFor_24 : decode cX0_paysFor 24 = .ok (.iload 5, 2) := by decide +kernel
theorem dX0_paysFor_26 : decode cX0_paysFor 26 = .ok (.iaload, 1) := by decide +kernel
theorem dX0_paysFor_27 : decode cX0_paysFor 27 = .ok (.iload 6, 2) := by decide +kernel
theorem dX0_paysFor_29 : decode cX0_paysFor 29 = .ok (.if_icmp .ge 5, 3) := by decide +kernel
theorem dX0_paysFor_32 : decode cX0_paysFor 32 = .ok (.iconst 0, 1) := by decide +kernel
theorem dX0_paysFor_33 : decode cX0_paysFor 33 = .ok (.ireturn, 1) := by decide +kernel
theorem dX0_paysFor_34 : decode cX0_paysFor 34 = .ok (.aload_n 0, 1) := by decide +kernel
theorem dX0_paysFor_35 : decode cX0_paysFor 35 = .ok (.getfield 15, 3) := by decide +kernel
theorem dX0_paysFor_38 : decode cX0_paysFor 38 = .ok (.iload 5, 2) := by decide +kernel
theorem dX0_paysFor_40 : decode cX0_paysFor 40 = .ok (.dup2, 1) := by decide +kernel
theorem dX0_paysFor_41 : decode cX0_paysFor 41 = .ok (.iaload, 1) := by decide +kernel
theorem dX0_paysFor_42 : decode cX0_paysFor 42 = .ok (.iload 6, 2) := by decide +kernel
theorem dX0_paysFor_44 : decode cX0_paysFor 44 = .ok (.isub, 1) := by decide +kernel
theorem dX0_paysFor_45 : decode cX0_paysFor 45 = .ok (.iastore, 1) := by decide +kernel
theorem dX0_paysFor_46 : decode cX0_paysFor 46 = .ok (.aload_n 0, 1) := by decide +kernel
theorem dX0_paysFor_47 : decode cX0_paysFor 47 = .ok (.iload_n 1, 1) := by decide +kernel
theorem dX0_paysFor_48 : decode cX0_paysFor 48 = .ok (.iload_n 2, 1) := by decide +kernel
theorem dX0_paysFor_49 : decode cX0_paysFor 49 = .ok (.iload_n 3, 1) := by decide +kernel
theorem dX0_paysFor_50 : decode cX0_paysFor 50 = .ok (.invokevirtual 44, 3) := by decide +kernel
theorem dX0_paysFor_53 : decode cX0_paysFor 53 = .ok (.aload_n 0, 1) := by decide +kernel
theorem dX0_paysFor_54 : decode cX0_paysFor 54 = .ok (.iload_n 1, 1) := by decide +kernel
theorem dX0_paysFor_55 : decode cX0_paysFor 55 = .ok (.iload_n 2, 1) := by decide +kernel
theorem dX0_paysFor_56 : decode cX0_paysFor 56 = .ok (.iload 4, 2) := by decide +kernel
theorem dX0_paysFor_58 : decode cX0_paysFor 58 = .ok (.invokevirtual 44, 3) := by decide +kernel
theorem dX0_paysFor_61 : decode cX0_paysFor 61 = .ok (.iconst 1, 1) := by decide +kernel
theorem dX0_paysFor_62 : decode cX0_paysFor 62 = .ok (.ireturn, 1) := by decide +kernel
set_option maxRecDepth 20000 in
theorem ggX0_costOf_X1_isCell : GoodIn wsX0_costOf wsX1_isCell := goodIn_r _ [4] (by decide +kernel) (by decide +kernel)
set_option maxRecDepth 20000 in
theorem gX0_costOf_X1_isCell_n48 : GoodIn wsX0_costOf (wsX1_isCell) := ggX0_costOf_X1_isCell
set_option maxRecDepth 20000 in
theorem ggX0_costOf_X1_sheetOf : GoodIn wsX0_costOf wsX1_sheetOf := goodIn_r _ [6] (by decide +kernel) (by decide +kernel)
set_option maxRecDepth 20000 in
theorem gX0_costOf_X1_sheetOf_n37 : GoodIn wsX0_costOf (wsX1_sheetOf) := ggX0_costOf_X1_sheetOf
theorem dX0_costOf_0 : decode cX0_costOf 0 = .ok (.iload_n 1, 1) := by decide +kernel
theorem dX0_costOf_1 : decode cX0_costOf 1 = .ok (.invokestatic 48, 3) := by decide +kernel
theorem dX0_costOf_4 : decode cX0_costOf 4 = .ok (.ifCond .eq 15, 3) := by decide +kernel
theorem dX0_costOf_7 : decode cX0_costOf 7 = .ok (.aload_n 0, 1) := by decide +kernel
theorem dX0_costOf_8 : decode cX0_costOf 8 = .ok (.getfield 9, 3) := by decide +kernel
theorem dX0_costOf_11 : decode cX0_costOf 11 = .ok (.iload_n 1, 1) := by decide +kernel
theorem dX0_costOf_12 : decode cX0_costOf 12 = .ok (.invokestatic 37, 3) := by decide +kernel
theorem dX0_costOf_15 : decode cX0_costOf 15 = .ok (.iaload, 1) := by decide +kernel
theorem dX0_costOf_16 : decode cX0_costOf 16 = .ok (.goto 4, 3) := by decide +kernel
theorem dX0_costOf_19 : decode cX0_costOf 19 = .ok (.iconst 0, 1) := by decide +kernel
theorem dX0_costOf_20 : decode cX0_costOf 20 = .ok (.ireturn, 1) := by decide +kernel
set_option maxRecDepth 20000 in
theorem ggX0_enter_X1_isCell : GoodIn wsX0_enter wsX1_isCell := goodIn_r _ [10] (by decide +kernel) (by decide +kernel)
set_option maxRecDepth 20000 in
theorem gX0_enter_X1_isCell_n48 : GoodIn wsX0_enter (wsX1_isCell) := ggX0_enter_X1_isCell
set_option maxRecDepth 20000 in
theorem ggX0_enter_X1_sheetOf : GoodIn wsX0_enter wsX1_sheetOf := goodIn_r _ [12] (by decide +kernel) (by decide +kernel)
set_option maxRecDepth 20000 in
theorem gX0_enter_X1_sheetOf_n37 : GoodIn wsX0_enter (wsX1_sheetOf) := ggX0_enter_X1_sheetOf
theorem dX0_enter_0 : decode cX0_enter 0 = .ok (.iload_n 3, 1) := by decide +kernel
theorem dX0_enter_1 : decode cX0_enter 1 = .ok (.invokestatic 48, 3) := by decide +kernel
theorem dX0_enter_4 : decode cX0_enter 4 = .ok (.ifCond .ne 4, 3) := by decide +kernel
theorem dX0_enter_7 : decode cX0_enter 7 = .ok (.return_, 1) := by decide +kernel
theorem dX0_enter_8 : decode cX0_enter 8 = .ok (.iload_n 3, 1) := by decide +kernel
theorem dX0_enter_9 : decode cX0_enter 9 = .ok (.invokestatic 37, 3) := by decide +kernel
theorem dX0_enter_12 : decode cX0_enter 12 = .ok (.istore 4, 2) := by decide +kernel
theorem dX0_enter_14 : decode cX0_enter 14 = .ok (.aload_n 0, 1) := by decide +kernel
theorem dX0_enter_15 : decode cX0_enter 15 = .ok (.getfield 18, 3) := by decide +kernel
theorem dX0_enter_18 : decode cX0_enter 18 = .ok (.iload 4, 2) := by decide +kernel
theorem dX0_enter_20 : decode cX0_enter 20 = .ok (.dup2, 1) := by decide +kernel
theorem dX0_enter_21 : decode cX0_enter 21 = .ok (.iaload, 1) := by decide +kernel
theorem dX0_enter_22 : decode cX0_enter 22 = .ok (.aload_n 0, 1) := by decide +kernel
theorem dX0_enter_23 : decode cX0_enter 23 = .ok (.getfield 9, 3) := by decide +kernel
theorem dX0_enter_26 : decode cX0_enter 26 = .ok (.iload 4, 2) := by decide +kernel
theorem dX0_enter_28 : decode cX0_enter 28 = .ok (.iaload, 1) := by decide +kernel
theorem dX0_enter_29 : decode cX0_enter 29 = .ok (.iadd, 1) := by decide +kernel
theorem dX0_enter_30 : decode cX0_enter 30 = .ok (.iastore, 1) := by decide +kernel
theorem dX0_enter_31 : decode cX0_enter 31 = .ok (.aload_n 0, 1) := by decide +kernel
theorem dX0_enter_32 : decode cX0_enter 32 = .ok (.getfield 24, 3) := by decide +kernel
theorem dX0_enter_35 : decode cX0_enter 35 = .ok (.iload_n 1, 1) := by decide +kernel
theorem dX0_enter_36 : decode cX0_enter 36 = .ok (.dup2, 1) := by decide +kernel
theorem dX0_enter_37 : decode cX0_enter 37 = .ok (.iaload, 1) := by decide +kernel
theorem dX0_enter_38 : decode cX0_enter 38 = .ok (.aload_n 0, 1) := by decide +kernel
theorem dX0_enter_39 : decode cX0_enter 39 = .ok (.getfield 9, 3) := by decide +kernel
theorem dX0_enter_42 : decode cX0_enter 42 = .ok (.iload 4, 2) := by decide +kernel
theorem dX0_enter_44 : decode cX0_enter 44 = .ok (.iaload, 1) := by decide +kernel
theorem dX0_enter_45 : decode cX0_enter 45 = .ok (.iadd, 1) := by decide +kernel
theorem dX0_enter_46 : decode cX0_enter 46 = .ok (.iastore, 1) := by decide +kernel
theorem dX0_enter_47 : decode cX0_enter 47 = .ok (.aload_n 0, 1) := by decide +kernel
theorem dX0_enter_48 : decode cX0_enter 48 = .ok (.getfield 21, 3) := by decide +kernel
theorem dX0_enter_51 : decode cX0_enter 51 = .ok (.iload 4, 2) := by decide +kernel
theorem dX0_enter_53 : decode cX0_enter 53 = .ok (.dup2, 1) := by decide +kernel
theorem dX0_enter_54 : decode cX0_enter 54 = .ok (.iaload, 1) := by decide +kernel
theorem dX0_enter_55 : decode cX0_enter 55 = .ok (.iconst 1, 1) := by decide +kernel
theorem dX0_enter_56 : decode cX0_enter 56 = .ok (.iadd, 1) := by decide +kernel
theorem dX0_enter_57 : decode cX0_enter 57 = .ok (.iastore, 1) := by decide +kernel
theorem dX0_enter_58 : decode cX0_enter 58 = .ok (.aload_n 0, 1) := by decide +kernel
theorem dX0_enter_59 : decode cX0_enter 59 = .ok (.getfield 27, 3) := by decide +kernel
theorem dX0_enter_62 : decode cX0_enter 62 = .ok (.iload_n 2, 1) := by decide +kernel
theorem dX0_enter_63 : decode cX0_enter 63 = .ok (.bipush 24, 2) := by decide +kernel
theorem dX0_enter_65 : decode cX0_enter 65 = .ok (.imul, 1) := by decide +kernel
theorem dX0_enter_66 : decode cX0_enter 66 = .ok (.iload_n 3, 1) := by decide +kernel
theorem dX0_enter_67 : decode cX0_enter 67 = .ok (.iadd, 1) := by decide +kernel
theorem dX0_enter_68 : decode cX0_enter 68 = .ok (.dup2, 1) := by decide +kernel
theorem dX0_enter_69 : decode cX0_enter 69 = .ok (.iaload, 1) := by decide +kernel
theorem dX0_enter_70 : decode cX0_enter 70 = .ok (.iconst 1, 1) := by decide +kernel
theorem dX0_enter_71 : decode cX0_enter 71 = .ok (.iadd, 1) := by decide +kernel
theorem dX0_enter_72 : decode cX0_enter 72 = .ok (.iastore, 1) := by decide +kernel
theorem dX0_enter_73 : decode cX0_enter 73 = .ok (.aload_n 0, 1) := by decide +kernel
theorem dX0_enter_74 : decode cX0_enter 74 = .ok (.getfield 33, 3) := by decide +kernel
theorem dX0_enter_77 : decode cX0_enter 77 = .ok (.sipush 500, 3) := by decide +kernel
theorem dX0_enter_80 : decode cX0_enter 80 = .ok (.if_icmp .ge 34, 3) := by decide +kernel
theorem dX0_enter_83 : decode cX0_enter 83 = .ok (.aload_n 0, 1) := by decide +kernel
theorem dX0_enter_84 : decode cX0_enter 84 = .ok (.getfield 30, 3) := by decide +kernel
theorem dX0_enter_87 : decode cX0_enter 87 = .ok (.aload_n 0, 1) := by decide +kernel
theorem dX0_enter_88 : decode cX0_enter 88 = .ok (.getfield 33, 3) := by decide +kernel
theorem dX0_enter_91 : decode cX0_enter 91 = .ok (.sipush 10000, 3) := by decide +kernel
theorem dX0_enter_94 : decode cX0_enter 94 = .ok (.iload_n 1, 1) := by decide +kernel
theorem dX0_enter_95 : decode cX0_enter 95 = .ok (.imul, 1) := by decide +kernel
theorem dX0_enter_96 : decode cX0_enter 96 = .ok (.bipush 100, 2) := by decide +kernel
theorem dX0_enter_98 : decode cX0_enter 98 = .ok (.iload_n 2, 1) := by decide +kernel
theorem dX0_enter_99 : decode cX0_enter 99 = .ok (.imul, 1) := by decide +kernel
theorem dX0_enter_100 : decode cX0_enter 100 = .ok (.iadd, 1) := by decide +kernel
theorem dX0_enter_101 : decode cX0_enter 101 = .ok (.iload_n 3, 1) := by decide +kernel
theorem dX0_enter_102 : decode cX0_enter 102 = .ok (.iadd, 1) := by decide +kernel
theorem dX0_enter_103 : decode cX0_enter 103 = .ok (.iastore, 1) := by decide +kernel
theorem dX0_enter_104 : decode cX0_enter 104 = .ok (.aload_n 0, 1) := by decide +kernel
theorem dX0_enter_105 : decode cX0_enter 105 = .ok (.dup, 1) := by decide +kernel
theorem dX0_enter_106 : decode cX0_enter 106 = .ok (.getfield 33, 3) := by decide +kernel
theorem dX0_enter_109 : decode cX0_enter 109 = .ok (.iconst 1, 1) := by decide +kernel
theorem dX0_enter_110 : decode cX0_enter 110 = .ok (.iadd, 1) := by decide +kernel
theorem dX0_enter_111 : decode cX0_enter 111 = .ok (.putfield 33, 3) := by decide +kernel
theorem dX0_enter_114 : decode cX0_enter 114 = .ok (.return_, 1) := by decide +kernel
set_option maxRecDepth 20000 in
theorem ggX1_init_X0_init : GoodIn wsX1_init wsX0_init := goodIn_r _ [22, 23, 2, 3, 4, 24, 25, 26, 27, 28, 29, 30, 31, 44, 45, 46, 47, 48, 49, 50, 51] (by decide +kernel) (by decide +kernel)
set_option maxRecDepth 20000 in
theorem gX1_init_X0_init_n34 : GoodIn wsX1_init (wsX0_init) := ggX1_init_X0_init
theorem dX1_init_0 : decode cX1_init 0 = .ok (.aload_n 0, 1) := by decide +kernel
theorem dX1_init_1 : decode cX1_init 1 = .ok (.invokespecial 1, 3) := by decide +kernel
theorem dX1_init_4 : decode cX1_init 4 = .ok (.aload_n 0, 1) := by decide +kernel
theorem dX1_init_5 : decode cX1_init 5 = .ok (.bipush 24, 2) := by decide +kernel
theorem dX1_init_7 : decode cX1_init 7 = .ok (.newarray .int, 2) := by decide +kernel
theorem dX1_init_9 : decode cX1_init 9 = .ok (.putfield 9, 3) := by decide +kernel
theorem dX1_init_12 : decode cX1_init 12 = .ok (.aload_n 0, 1) := by decide +kernel
theorem dX1_init_13 : decode cX1_init 13 = .ok (.bipush 24, 2) := by decide +kernel
theorem dX1_init_15 : decode cX1_init 15 = .ok (.newarray .int, 2) := by decide +kernel
theorem dX1_init_17 : decode cX1_init 17 = .ok (.putfield 13, 3) := by decide +kernel
theorem dX1_init_20 : decode cX1_init 20 = .ok (.aload_n 0, 1) := by decide +kernel
theorem dX1_init_21 : decode cX1_init 21 = .ok (.bipush 24, 2) := by decide +kernel
theorem dX1_init_23 : decode cX1_init 23 = .ok (.newarray .int, 2) := by decide +kernel
theorem dX1_init_25 : decode cX1_init 25 = .ok (.putfield 16, 3) := by decide +kernel
theorem dX1_init_28 : decode cX1_init 28 = .ok (.aload_n 0, 1) := by decide +kernel
theorem dX1_init_29 : decode cX1_init 29 = .ok (.bipush 24, 2) := by decide +kernel
theorem dX1_init_31 : decode cX1_init 31 = .ok (.newarray .int, 2) := by decide +kernel
theorem dX1_init_33 : decode cX1_init 33 = .ok (.putfield 19, 3) := by decide +kernel
theorem dX1_init_36 : decode cX1_init 36 = .ok (.aload_n 0, 1) := by decide +kernel
theorem dX1_init_37 : decode cX1_init 37 = .ok (.bipush 24, 2) := by decide +kernel
theorem dX1_init_39 : decode cX1_init 39 = .ok (.newarray .int, 2) := by decide +kernel
theorem dX1_init_41 : decode cX1_init 41 = .ok (.putfield 22, 3) := by decide +kernel
theorem dX1_init_44 : decode cX1_init 44 = .ok (.aload_n 0, 1) := by decide +kernel
theorem dX1_init_45 : decode cX1_init 45 = .ok (.bipush 24, 2) := by decide +kernel
theorem dX1_init_47 : decode cX1_init 47 = .ok (.newarray .boolean, 2) := by decide +kernel
theorem dX1_init_49 : decode cX1_init 49 = .ok (.putfield 25, 3) := by decide +kernel
theorem dX1_init_52 : decode cX1_init 52 = .ok (.aload_n 0, 1) := by decide +kernel
theorem dX1_init_53 : decode cX1_init 53 = .ok (.bipush 24, 2) := by decide +kernel
theorem dX1_init_55 : decode cX1_init 55 = .ok (.newarray .int, 2) := by decide +kernel
theorem dX1_init_57 : decode cX1_init 57 = .ok (.putfield 29, 3) := by decide +kernel
theorem dX1_init_60 : decode cX1_init 60 = .ok (.aload_n 0, 1) := by decide +kernel
theorem dX1_init_61 : decode cX1_init 61 = .ok (.new 32, 3) := by decide +kernel
theorem dX1_init_64 : decode cX1_init 64 = .ok (.dup, 1) := by decide +kernel
theorem dX1_init_65 : decode cX1_init 65 = .ok (.invokespecial 34, 3) := by decide +kernel
theorem dX1_init_68 : decode cX1_init 68 = .ok (.putfield 35, 3) := by decide +kernel
theorem dX1_init_71 : decode cX1_init 71 = .ok (.aload_n 0, 1) := by decide +kernel
theorem dX1_init_72 : decode cX1_init 72 = .ok (.bipush 24, 2) := by decide +kernel
theorem dX1_init_74 : decode cX1_init 74 = .ok (.newarray .boolean, 2) := by decide +kernel
theorem dX1_init_76 : decode cX1_init 76 = .ok (.putfield 39, 3) := by decide +kernel
theorem dX1_init_79 : decode cX1_init 79 = .ok (.aload_n 0, 1) := by decide +kernel
theorem dX1_init_80 : decode cX1_init 80 = .ok (.bipush 24, 2) := by decide +kernel
theorem dX1_init_82 : decode cX1_init 82 = .ok (.newarray .boolean, 2) := by decide +kernel
theorem dX1_init_84 : decode cX1_init 84 = .ok (.putfield 42, 3) := by decide +kernel
theorem dX1_init_87 : decode cX1_init 87 = .ok (.aload_n 0, 1) := by decide +kernel
theorem dX1_init_88 : decode cX1_init 88 = .ok (.bipush 24, 2) := by decide +kernel
theorem dX1_init_90 : decode cX1_init 90 = .ok (.newarray .boolean, 2) := by decide +kernel
theorem dX1_init_92 : decode cX1_init 92 = .ok (.putfield 45, 3) := by decide +kernel
theorem dX1_init_95 : decode cX1_init 95 = .ok (.aload_n 0, 1) := by decide +kernel
theorem dX1_init_96 : decode cX1_init 96 = .ok (.bipush 24, 2) := by decide +kernel
theorem dX1_init_98 : decode cX1_init 98 = .ok (.newarray .int, 2) := by decide +kernel
theorem dX1_init_100 : decode cX1_init 100 = .ok (.putfield 48, 3) := by decide +kernel
theorem dX1_init_103 : decode cX1_init 103 = .ok (.iconst 0, 1) := by decide +kernel
theorem dX1_init_104 : decode cX1_init 104 = .ok (.istore_n 1, 1) := by decide +kernel
theorem dX1_init_105 : decode cX1_init 105 = .ok (.iload_n 1, 1) := by decide +kernel
theorem dX1_init_106 : decode cX1_init 106 = .ok (.bipush 24, 2) := by decide +kernel
theorem dX1_init_108 : decode cX1_init 108 = .ok (.if_icmp .ge 30, 3) := by decide +kernel
theorem dX1_init_111 : decode cX1_init 111 = .ok (.aload_n 0, 1) := by decide +kernel
theorem dX1_init_112 : decode cX1_init 112 = .ok (.getfield 13, 3) := by decide +kernel
theorem dX1_init_115 : decode cX1_init 115 = .ok (.iload_n 1, 1) := by decide +kernel
theorem dX1_init_116 : decode cX1_init 116 = .ok (.iconst (-1), 1) := by decide +kernel
theorem dX1_init_117 : decode cX1_init 117 = .ok (.iastore, 1) := by decide +kernel
theorem dX1_init_118 : decode cX1_init 118 = .ok (.aload_n 0, 1) := by decide +kernel
theorem dX1_init_119 : decode cX1_init 119 = .ok (.getfield 16, 3) := by decide +kernel
theorem dX1_init_122 : decode cX1_init 122 = .ok (.iload_n 1, 1) := by decide +kernel
theorem dX1_init_123 : decode cX1_init 123 = .ok (.iconst (-1), 1) := by decide +kernel
theorem dX1_init_124 : decode cX1_init 124 = .ok (.iastore, 1) := by decide +kernel
theorem dX1_init_125 : decode cX1_init 125 = .ok (.aload_n 0, 1) := by decide +kernel
theorem dX1_init_126 : decode cX1_init 126 = .ok (.getfield 29, 3) := by decide +kernel
theorem dX1_init_129 : decode cX1_init 129 = .ok (.iload_n 1, 1) := by decide +kernel
theorem dX1_init_130 : decode cX1_init 130 = .ok (.iload_n 1, 1) := by decide +kernel
theorem dX1_init_131 : decode cX1_init 131 = .ok (.iastore, 1) := by decide +kernel
theorem dX1_init_132 : decode cX1_init 132 = .ok (.iinc 1 1, 3) := by decide +kernel
theorem dX1_init_135 : decode cX1_init 135 = .ok (.goto (-30), 3) := by decide +kernel
theorem dX1_init_138 : decode cX1_init 138 = .ok (.return_, 1) := by decide +kernel
set_option maxRecDepth 20000 in
theorem ggX1_setNumber_X1_isUser : GoodIn wsX1_setNumber wsX1_isUser := goodIn_r _ [7] (by decide +kernel) (by decide +kernel)
set_option maxRecDepth 20000 in
theorem gX1_setNumber_X1_isUser : GoodIn wsX1_setNumber (va_wsS RX1 51 yX1_isUser wsX1_isUser) := goodIn_app (goodIn_of _ (by decide +kernel)) ggX1_setNumber_X1_isUser
set_option maxRecDepth 20000 in
theorem ggX1_setNumber_X1_isCell : GoodIn wsX1_setNumber wsX1_isCell := goodIn_r _ [10] (by decide +kernel) (by decide +kernel)
set_option maxRecDepth 20000 in
theorem gX1_setNumber_X1_isCell : GoodIn wsX1_setNumber (va_wsS RX1 55 yX1_isCell wsX1_isCell) := goodIn_app (goodIn_of _ (by decide +kernel)) ggX1_setNumber_X1_isCell
set_option maxRecDepth 20000 in
theorem ggX1_setNumber_X1_isWithin : GoodIn wsX1_setNumber wsX1_isWithin := goodIn_r _ [13] (by decide +kernel) (by decide +kernel)
set_option maxRecDepth 20000 in
theorem gX1_setNumber_X1_isWithin : GoodIn wsX1_setNumber (va_wsS RX1 59 yX1_isWithin wsX1_isWithin) := goodIn_app (goodIn_of _ (by decide +kernel)) ggX1_setNumber_X1_isWithin
set_option maxRecDepth 20000 in
theorem ggX1_setNumber_X1_giveFormula : GoodIn wsX1_setNumber wsX1_giveFormula := goodIn_r _ [17, 18, 19, 20, 21, 22, 23, 24, 6, 25, 26, 27, 28, 29, 30, 31, 32, 33, 34, 35, 36, 37, 38, 8, 9, 10, 39, 40, 41, 42, 43, 44, 45, 46, 47, 48, 49, 50, 51, 52, 53, 54, 55, 56, 57, 58, 59, 60, 61, 62, 63, 64, 65, 66, 67, 68, 69, 70, 71, 72, 73, 74, 75, 76, 77, 78, 79, 80, 81, 82, 83, 84, 85, 86, 87, 88, 89, 90, 91, 3, 92, 93, 94, 95, 96, 97, 98, 99, 100, 101, 102, 103, 104, 105, 106, 107, 108, 109, 110, 111, 112, 113, 114, 115, 116, 117, 118, 119, 120, 121, 122] (by decide +kernel) (by decide +kernel)
set_option maxRecDepth 20000 in
theorem gX1_setNumber_X1_giveFormula : GoodIn wsX1_setNumber (wsV RX1 70 RX1 yX1_giveFormula wsX1_giveFormula) := goodIn_app (goodIn_of _ (by decide +kernel)) ggX1_setNumber_X1_giveFormula
theorem dX1_setNumber_0 : decode cX1_setNumber 0 = .ok (.iload_n 1, 1) := by decide +kernel
theorem dX1_setNumber_1 : decode cX1_setNumber 1 = .ok (.invokestatic 51, 3) := by decide +kernel
theorem dX1_setNumber_4 : decode cX1_setNumber 4 = .ok (.ifCond .eq 19, 3) := by decide +kernel
theorem dX1_setNumber_7 : decode cX1_setNumber 7 = .ok (.iload_n 2, 1) := by decide +kernel
theorem dX1_setNumber_8 : decode cX1_setNumber 8 = .ok (.invokestatic 55, 3) := by decide +kernel
theorem dX1_setNumber_11 : decode cX1_setNumber 11 = .ok (.ifCond .eq 12, 3) := by decide +kernel
theorem dX1_setNumber_14 : decode cX1_setNumber 14 = .ok (.iload_n 3, 1) := by decide +kernel
theorem dX1_setNumber_15 : decode cX1_setNumber 15 = .ok (.ldc 58, 2) := by decide +kernel
theorem dX1_setNumber_17 : decode cX1_setNumber 17 = .ok (.invokestatic 59, 3) := by decide +kernel
theorem dX1_setNumber_20 : decode cX1_setNumber 20 = .ok (.ifCond .ne 13, 3) := by decide +kernel
theorem dX1_setNumber_23 : decode cX1_setNumber 23 = .ok (.new 63, 3) := by decide +kernel
theorem dX1_setNumber_26 : decode cX1_setNumber 26 = .ok (.dup, 1) := by decide +kernel
theorem dX1_setNumber_27 : decode cX1_setNumber 27 = .ok (.ldc 65, 2) := by decide +kernel
theorem dX1_setNumber_29 : decode cX1_setNumber 29 = .ok (.invokespecial 67, 3) := by decide +kernel
theorem dX1_setNumber_32 : decode cX1_setNumber 32 = .ok (.athrow, 1) := by decide +kernel
theorem dX1_setNumber_33 : decode cX1_setNumber 33 = .ok (.aload_n 0, 1) := by decide +kernel
theorem dX1_setNumber_34 : decode cX1_setNumber 34 = .ok (.iload_n 1, 1) := by decide +kernel
theorem dX1_setNumber_35 : decode cX1_setNumber 35 = .ok (.iload_n 2, 1) := by decide +kernel
theorem dX1_setNumber_36 : decode cX1_setNumber 36 = .ok (.iconst 0, 1) := by decide +kernel
theorem dX1_setNumber_37 : decode cX1_setNumber 37 = .ok (.iconst (-1), 1) := by decide +kernel
theorem dX1_setNumber_38 : decode cX1_setNumber 38 = .ok (.iconst (-1), 1) := by decide +kernel
theorem dX1_setNumber_39 : decode cX1_setNumber 39 = .ok (.iload_n 3, 1) := by decide +kernel
theorem dX1_setNumber_40 : decode cX1_setNumber 40 = .ok (.invokevirtual 70, 3) := by decide +kernel
theorem dX1_setNumber_43 : decode cX1_setNumber 43 = .ok (.ireturn, 1) := by decide +kernel
set_option maxRecDepth 20000 in
theorem ggX1_setSum_X1_isUser : GoodIn wsX1_setSum wsX1_isUser := goodIn_r _ [8] (by decide +kernel) (by decide +kernel)
set_option maxRecDepth 20000 in
theorem gX1_setSum_X1_isUser : GoodIn wsX1_setSum (va_wsS RX1 51 yX1_isUser wsX1_isUser) := goodIn_app (goodIn_of _ (by decide +kernel)) ggX1_setSum_X1_isUser
set_option maxRecDepth 20000 in
theorem ggX1_setSum_X1_isCell : GoodIn wsX1_setSum wsX1_isCell := goodIn_r _ [11] (by decide +kernel) (by decide +kernel)
set_option maxRecDepth 20000 in
theorem gX1_setSum_X1_isCell : GoodIn wsX1_setSum (va_wsS RX1 55 yX1_isCell wsX1_isCell) := goodIn_app (goodIn_of _ (by decide +kernel)) ggX1_setSum_X1_isCell
set_option maxRecDepth 20000 in
theorem ggX1_setSum_X1_isWithin : GoodIn wsX1_setSum wsX1_isWithin := goodIn_r _ [14] (by decide +kernel) (by decide +kernel)
set_option maxRecDepth 20000 in
theorem gX1_setSum_X1_isWithin : GoodIn wsX1_setSum (va_wsS RX1 59 yX1_isWithin wsX1_isWithin) := goodIn_app (goodIn_of _ (by decide +kernel)) ggX1_setSum_X1_isWithin
set_option maxRecDepth 20000 in
theorem ggX1_setSum_X1_wouldReadItself : GoodIn wsX1_setSum wsX1_wouldReadItself := goodIn_r _ [18, 19, 20, 9, 10, 7, 11, 21, 22, 23, 24, 25, 26, 27, 28, 29, 110, 111, 112, 113, 114, 115, 116, 117, 118, 119, 120, 121] (by decide +kernel) (by decide +kernel)
set_option maxRecDepth 20000 in
theorem gX1_setSum_X1_wouldReadItself : GoodIn wsX1_setSum (wsV RX1 76 RX1 yX1_wouldReadItself wsX1_wouldReadItself) := goodIn_app (goodIn_of _ (by decide +kernel)) ggX1_setSum_X1_wouldReadItself
set_option maxRecDepth 20000 in
theorem ggX1_setSum_X1_giveFormula : GoodIn wsX1_setSum wsX1_giveFormula := goodIn_r _ [33, 34, 25, 26, 35, 36, 37, 38, 7, 39, 40, 20, 41, 42, 43, 44, 45, 46, 47, 48, 27, 28, 29, 9, 10, 11, 49, 50, 51, 52, 53, 54, 55, 56, 57, 58, 59, 60, 61, 62, 63, 64, 65, 66, 67, 68, 69, 70, 71, 72, 73, 74, 75, 76, 77, 78, 79, 80, 81, 82, 83, 84, 85, 86, 87, 88, 89, 90, 91, 92, 93, 94, 95, 96, 97, 98, 99, 100, 101, 102, 103, 104, 105, 106, 107, 108, 109, 21, 22, 23, 24, 110, 111, 112, 113, 114, 115, 116, 117, 118, 119, 120, 121, 122, 123, 124, 125, 126, 127, 128, 129] (by decide +kernel) (by decide +kernel)
set_option maxRecDepth 20000 in
theorem gX1_setSum_X1_giveFormula : GoodIn wsX1_setSum (wsV RX1 70 RX1 yX1_giveFormula wsX1_giveFormula) := goodIn_app (goodIn_of _ (by decide +kernel)) ggX1_setSum_X1_giveFormula
theorem dX1_setSum_0 : decode cX1_setSum 0 = .ok (.iload_n 1, 1) := by decide +kernel
theorem dX1_setSum_1 : decode cX1_setSum 1 = .ok (.invokestatic 51, 3) := by decide +kernel
theorem dX1_setSum_4 : decode cX1_setSum 4 = .ok (.ifCond .eq 36, 3) := by decide +kernel
theorem dX1_setSum_7 : decode cX1_setSum 7 = .ok (.iload_n 2, 1) := by decide +kernel
theorem dX1_setSum_8 : decode cX1_setSum 8 = .ok (.invokestatic 55, 3) := by decide +kernel
theorem dX1_setSum_11 : decode cX1_setSum 11 = .ok (.ifCond .eq 29, 3) := by decide +kernel
theorem dX1_setSum_14 : decode cX1_setSum 14 = .ok (.iload_n 3, 1) := by decide +kernel
theorem dX1_setSum_15 : decode cX1_setSum 15 = .ok (.invokestatic 55, 3) := by decide +kernel
theorem dX1_setSum_18 : decode cX1_setSum 18 = .ok (.ifCond .eq 22, 3) := by decide +kernel
theorem dX1_setSum_21 : decode cX1_setSum 21 = .ok (.iload 4, 2) := by decide +kernel
theorem dX1_setSum_23 : decode cX1_setSum 23 = .ok (.invokestatic 55, 3) := by decide +kernel
theorem dX1_setSum_26 : decode cX1_setSum 26 = .ok (.ifCond .eq 14, 3) := by decide +kernel
theorem dX1_setSum_29 : decode cX1_setSum 29 = .ok (.iload 5, 2) := by decide +kernel
theorem dX1_setSum_31 : decode cX1_setSum 31 = .ok (.sipush 1000, 3) := by decide +kernel
theorem dX1_setSum_34 : decode cX1_setSum 34 = .ok (.invokestatic 59, 3) := by decide +kernel
theorem dX1_setSum_37 : decode cX1_setSum 37 = .ok (.ifCond .ne 13, 3) := by decide +kernel
theorem dX1_setSum_40 : decode cX1_setSum 40 = .ok (.new 63, 3) := by decide +kernel
theorem dX1_setSum_43 : decode cX1_setSum 43 = .ok (.dup, 1) := by decide +kernel
theorem dX1_setSum_44 : decode cX1_setSum 44 = .ok (.ldc 74, 2) := by decide +kernel
theorem dX1_setSum_46 : decode cX1_setSum 46 = .ok (.invokespecial 67, 3) := by decide +kernel
theorem dX1_setSum_49 : decode cX1_setSum 49 = .ok (.athrow, 1) := by decide +kernel
theorem dX1_setSum_50 : decode cX1_setSum 50 = .ok (.aload_n 0, 1) := by decide +kernel
theorem dX1_setSum_51 : decode cX1_setSum 51 = .ok (.iload_n 2, 1) := by decide +kernel
theorem dX1_setSum_52 : decode cX1_setSum 52 = .ok (.iload_n 3, 1) := by decide +kernel
theorem dX1_setSum_53 : decode cX1_setSum 53 = .ok (.iload 4, 2) := by decide +kernel
theorem dX1_setSum_55 : decode cX1_setSum 55 = .ok (.invokevirtual 76, 3) := by decide +kernel
theorem dX1_setSum_58 : decode cX1_setSum 58 = .ok (.ifCond .eq 13, 3) := by decide +kernel
theorem dX1_setSum_61 : decode cX1_setSum 61 = .ok (.new 80, 3) := by decide +kernel
theorem dX1_setSum_64 : decode cX1_setSum 64 = .ok (.dup, 1) := by decide +kernel
theorem dX1_setSum_65 : decode cX1_setSum 65 = .ok (.ldc 82, 2) := by decide +kernel
theorem dX1_setSum_67 : decode cX1_setSum 67 = .ok (.invokespecial 84, 3) := by decide +kernel
theorem dX1_setSum_70 : decode cX1_setSum 70 = .ok (.athrow, 1) := by decide +kernel
theorem dX1_setSum_71 : decode cX1_setSum 71 = .ok (.aload_n 0, 1) := by decide +kernel
theorem dX1_setSum_72 : decode cX1_setSum 72 = .ok (.iload_n 1, 1) := by decide +kernel
theorem dX1_setSum_73 : decode cX1_setSum 73 = .ok (.iload_n 2, 1) := by decide +kernel
theorem dX1_setSum_74 : decode cX1_setSum 74 = .ok (.iconst 1, 1) := by decide +kernel
theorem dX1_setSum_75 : decode cX1_setSum 75 = .ok (.iload_n 3, 1) := by decide +kernel
theorem dX1_setSum_76 : decode cX1_setSum 76 = .ok (.iload 4, 2) := by decide +kernel
theorem dX1_setSum_78 : decode cX1_setSum 78 = .ok (.iload 5, 2) := by decide +kernel
theorem dX1_setSum_80 : decode cX1_setSum 80 = .ok (.invokevirtual 70, 3) := by decide +kernel
theorem dX1_setSum_83 : decode cX1_setSum 83 = .ok (.ireturn, 1) := by decide +kernel
set_option maxRecDepth 20000 in
theorem ggX1_setGreater_X1_isUser : GoodIn wsX1_setGreater wsX1_isUser := goodIn_r _ [8] (by decide +kernel) (by decide +kernel)
set_option maxRecDepth 20000 in
theorem gX1_setGreater_X1_isUser : GoodIn wsX1_setGreater (va_wsS RX1 51 yX1_isUser wsX1_isUser) := goodIn_app (goodIn_of _ (by decide +kernel)) ggX1_setGreater_X1_isUser
set_option maxRecDepth 20000 in
theorem ggX1_setGreater_X1_isCell : GoodIn wsX1_setGreater wsX1_isCell := goodIn_r _ [11] (by decide +kernel) (by decide +kernel)
set_option maxRecDepth 20000 in
theorem gX1_setGreater_X1_isCell : GoodIn wsX1_setGreater (va_wsS RX1 55 yX1_isCell wsX1_isCell) := goodIn_app (goodIn_of _ (by decide +kernel)) ggX1_setGreater_X1_isCell
set_option maxRecDepth 20000 in
theorem ggX1_setGreater_X1_wouldReadItself : GoodIn wsX1_setGreater wsX1_wouldReadItself := goodIn_r _ [15, 16, 17, 9, 10, 7, 11, 18, 19, 20, 21, 22, 23, 24, 25, 26, 107, 108, 109, 110, 111, 112, 113, 114, 115, 116, 117, 118] (by decide +kernel) (by decide +kernel)
set_option maxRecDepth 20000 in
theorem gX1_setGreater_X1_wouldReadItself : GoodIn wsX1_setGreater (wsV RX1 76 RX1 yX1_wouldReadItself wsX1_wouldReadItself) := goodIn_app (goodIn_of _ (by decide +kernel)) ggX1_setGreater_X1_wouldReadItself
set_option maxRecDepth 20000 in
theorem ggX1_setGreater_X1_giveFormula : GoodIn wsX1_setGreater wsX1_giveFormula := goodIn_r _ [30, 31, 22, 23, 32, 33, 34, 35, 7, 36, 37, 17, 38, 39, 40, 41, 42, 43, 44, 45, 24, 25, 26, 9, 10, 11, 46, 47, 48, 49, 50, 51, 52, 53, 54, 55, 56, 57, 58, 59, 60, 61, 62, 63, 64, 65, 66, 67, 68, 69, 70, 71, 72, 73, 74, 75, 76, 77, 78, 79, 80, 81, 82, 83, 84, 85, 86, 87, 88, 89, 90, 91, 92, 93, 94, 95, 96, 97, 98, 99, 100, 101, 102, 103, 104, 105, 106, 18, 19, 20, 21, 107, 108, 109, 110, 111, 112, 113, 114, 115, 116, 117, 118, 119, 120, 121, 122, 123, 124, 125, 126] (by decide +kernel) (by decide +kernel)
set_option maxRecDepth 20000 in
theorem gX1_setGreater_X1_giveFormula : GoodIn wsX1_setGreater (wsV RX1 70 RX1 yX1_giveFormula wsX1_giveFormula) := goodIn_app (goodIn_of _ (by decide +kernel)) ggX1_setGreater_X1_giveFormula
theorem dX1_setGreater_0 : decode cX1_setGreater 0 = .ok (.iload_n 1, 1) := by decide +kernel
theorem dX1_setGreater_1 : decode cX1_setGreater 1 = .ok (.invokestatic 51, 3) := by decide +kernel
theorem dX1_setGreater_4 : decode cX1_setGreater 4 = .ok (.ifCond .eq 25, 3) := by decide +kernel
theorem dX1_setGreater_7 : decode cX1_setGreater 7 = .ok (.iload_n 2, 1) := by decide +kernel
theorem dX1_setGreater_8 : decode cX1_setGreater 8 = .ok (.invokestatic 55, 3) := by decide +kernel
theorem dX1_setGreater_11 : decode cX1_setGreater 11 = .ok (.ifCond .eq 18, 3) := by decide +kernel
theorem dX1_setGreater_14 : decode cX1_setGreater 14 = .ok (.iload_n 3, 1) := by decide +kernel
theorem dX1_setGreater_15 : decode cX1_setGreater 15 = .ok (.invokestatic 55, 3) := by decide +kernel
theorem dX1_setGreater_18 : decode cX1_setGreater 18 = .ok (.ifCond .eq 11, 3) := by decide +kernel
theorem dX1_setGreater_21 : decode cX1_setGreater 21 = .ok (.iload 4, 2) := by decide +kernel
theorem dX1_setGreater_23 : decode cX1_setGreater 23 = .ok (.invokestatic 55, 3) := by decide +kernel
theorem dX1_setGreater_26 : decode cX1_setGreater 26 = .ok (.ifCond .ne 13, 3) := by decide +kernel
theorem dX1_setGreater_29 : decode cX1_setGreater 29 = .ok (.new 63, 3) := by decide +kernel
theorem dX1_setGreater_32 : decode cX1_setGreater 32 = .ok (.dup, 1) := by decide +kernel
theorem dX1_setGreater_33 : decode cX1_setGreater 33 = .ok (.ldc 85, 2) := by decide +kernel
theorem dX1_setGreater_35 : decode cX1_setGreater 35 = .ok (.invokespecial 67, 3) := by decide +kernel
theorem dX1_setGreater_38 : decode cX1_setGreater 38 = .ok (.athrow, 1) := by decide +kernel
theorem dX1_setGreater_39 : decode cX1_setGreater 39 = .ok (.aload_n 0, 1) := by decide +kernel
theorem dX1_setGreater_40 : decode cX1_setGreater 40 = .ok (.iload_n 2, 1) := by decide +kernel
theorem dX1_setGreater_41 : decode cX1_setGreater 41 = .ok (.iload_n 3, 1) := by decide +kernel
theorem dX1_setGreater_42 : decode cX1_setGreater 42 = .ok (.iload 4, 2) := by decide +kernel
theorem dX1_setGreater_44 : decode cX1_setGreater 44 = .ok (.invokevirtual 76, 3) := by decide +kernel
theorem dX1_setGreater_47 : decode cX1_setGreater 47 = .ok (.ifCond .eq 13, 3) := by decide +kernel
theorem dX1_setGreater_50 : decode cX1_setGreater 50 = .ok (.new 80, 3) := by decide +kernel
theorem dX1_setGreater_53 : decode cX1_setGreater 53 = .ok (.dup, 1) := by decide +kernel
theorem dX1_setGreater_54 : decode cX1_setGreater 54 = .ok (.ldc 82, 2) := by decide +kernel
theorem dX1_setGreater_56 : decode cX1_setGreater 56 = .ok (.invokespecial 84, 3) := by decide +kernel
theorem dX1_setGreater_59 : decode cX1_setGreater 59 = .ok (.athrow, 1) := by decide +kernel
theorem dX1_setGreater_60 : decode cX1_setGreater 60 = .ok (.aload_n 0, 1) := by decide +kernel
theorem dX1_setGreater_61 : decode cX1_setGreater 61 = .ok (.iload_n 1, 1) := by decide +kernel
theorem dX1_setGreater_62 : decode cX1_setGreater 62 = .ok (.iload_n 2, 1) := by decide +kernel
theorem dX1_setGreater_63 : decode cX1_setGreater 63 = .ok (.iconst 2, 1) := by decide +kernel
theorem dX1_setGreater_64 : decode cX1_setGreater 64 = .ok (.iload_n 3, 1) := by decide +kernel
theorem dX1_setGreater_65 : decode cX1_setGreater 65 = .ok (.iload 4, 2) := by decide +kernel
theorem dX1_setGreater_67 : decode cX1_setGreater 67 = .ok (.iconst 0, 1) := by decide +kernel
theorem dX1_setGreater_68 : decode cX1_setGreater 68 = .ok (.invokevirtual 70, 3) := by decide +kernel
theorem dX1_setGreater_71 : decode cX1_setGreater 71 = .ok (.ireturn, 1) := by decide +kernel
set_option maxRecDepth 20000 in
theorem ggX1_setTimes_X1_isUser : GoodIn wsX1_setTimes wsX1_isUser := goodIn_r _ [8] (by decide +kernel) (by decide +kernel)
set_option maxRecDepth 20000 in
theorem gX1_setTimes_X1_isUser : GoodIn wsX1_setTimes (va_wsS RX1 51 yX1_isUser wsX1_isUser) := goodIn_app (goodIn_of _ (by decide +kernel)) ggX1_setTimes_X1_isUser
set_option maxRecDepth 20000 in
theorem ggX1_setTimes_X1_isCell : GoodIn wsX1_setTimes wsX1_isCell := goodIn_r _ [11] (by decide +kernel) (by decide +kernel)
set_option maxRecDepth 20000 in
theorem gX1_setTimes_X1_isCell : GoodIn wsX1_setTimes (va_wsS RX1 55 yX1_isCell wsX1_isCell) := goodIn_app (goodIn_of _ (by decide +kernel)) ggX1_setTimes_X1_isCell
set_option maxRecDepth 20000 in
theorem ggX1_setTimes_X1_isWithin : GoodIn wsX1_setTimes wsX1_isWithin := goodIn_r _ [14] (by decide +kernel) (by decide +kernel)
set_option maxRecDepth 20000 in
theorem gX1_setTimes_X1_isWithin : GoodIn wsX1_setTimes (va_wsS RX1 59 yX1_isWithin wsX1_isWithin) := goodIn_app (goodIn_of _ (by decide +kernel)) ggX1_setTimes_X1_isWithin
set_option maxRecDepth 20000 in
theorem ggX1_setTimes_X1_wouldReadItself : GoodIn wsX1_setTimes wsX1_wouldReadItself := goodIn_r _ [18, 19, 20, 9, 10, 7, 11, 21, 22, 23, 24, 25, 26, 27, 28, 29, 110, 111, 112, 113, 114, 115, 116, 117, 118, 119, 120, 121] (by decide +kernel) (by decide +kernel)
set_option maxRecDepth 20000 in
theorem gX1_setTimes_X1_wouldReadItself : GoodIn wsX1_setTimes (wsV RX1 76 RX1 yX1_wouldReadItself wsX1_wouldReadItself) := goodIn_app (goodIn_of _ (by decide +kernel)) ggX1_setTimes_X1_wouldReadItself
set_option maxRecDepth 20000 in
theorem ggX1_setTimes_X1_giveFormula : GoodIn wsX1_setTimes wsX1_giveFormula := goodIn_r _ [33, 34, 25, 26, 35, 36, 37, 38, 7, 39, 40, 20, 41, 42, 43, 44, 45, 46, 47, 48, 27, 28, 29, 9, 10, 11, 49, 50, 51, 52, 53, 54, 55, 56, 57, 58, 59, 60, 61, 62, 63, 64, 65, 66, 67, 68, 69, 70, 71, 72, 73, 74, 75, 76, 77, 78, 79, 80, 81, 82, 83, 84, 85, 86, 87, 88, 89, 90, 91, 92, 93, 94, 95, 96, 97, 98, 99, 100, 101, 102, 103, 104, 105, 106, 107, 108, 109, 21, 22, 23, 24, 110, 111, 112, 113, 114, 115, 116, 117, 118, 119, 120, 121, 122, 123, 124, 125, 126, 127, 128, 129] (by decide +kernel) (by decide +kernel)
set_option maxRecDepth 20000 in
theorem gX1_setTimes_X1_giveFormula : GoodIn wsX1_setTimes (wsV RX1 70 RX1 yX1_giveFormula wsX1_giveFormula) := goodIn_app (goodIn_of _ (by decide +kernel)) ggX1_setTimes_X1_giveFormula
theorem dX1_setTimes_0 : decode cX1_setTimes 0 = .ok (.iload_n 1, 1) := by decide +kernel
theorem dX1_setTimes_1 : decode cX1_setTimes 1 = .ok (.invokestatic 51, 3) := by decide +kernel
theorem dX1_setTimes_4 : decode cX1_setTimes 4 = .ok (.ifCond .eq 27, 3) := by decide +kernel
theorem dX1_setTimes_7 : decode cX1_setTimes 7 = .ok (.iload_n 2, 1) := by decide +kernel
theorem dX1_setTimes_8 : decode cX1_setTimes 8 = .ok (.invokestatic 55, 3) := by decide +kernel
theorem dX1_setTimes_11 : decode cX1_setTimes 11 = .ok (.ifCond .eq 20, 3) := by decide +kernel
theorem dX1_setTimes_14 : decode cX1_setTimes 14 = .ok (.iload_n 3, 1) := by decide +kernel
theorem dX1_setTimes_15 : decode cX1_setTimes 15 = .ok (.invokestatic 55, 3) := by decide +kernel
theorem dX1_setTimes_18 : decode cX1_setTimes 18 = .ok (.ifCond .eq 13, 3) := by decide +kernel
theorem dX1_setTimes_21 : decode cX1_setTimes 21 = .ok (.iload 4, 2) := by decide +kernel
theorem dX1_setTimes_23 : decode cX1_setTimes 23 = .ok (.bipush 100, 2) := by decide +kernel
theorem dX1_setTimes_25 : decode cX1_setTimes 25 = .ok (.invokestatic 59, 3) := by decide +kernel
theorem dX1_setTimes_28 : decode cX1_setTimes 28 = .ok (.ifCond .ne 13, 3) := by decide +kernel
theorem dX1_setTimes_31 : decode cX1_setTimes 31 = .ok (.new 63, 3) := by decide +kernel
theorem dX1_setTimes_34 : decode cX1_setTimes 34 = .ok (.dup, 1) := by decide +kernel
theorem dX1_setTimes_35 : decode cX1_setTimes 35 = .ok (.ldc 87, 2) := by decide +kernel
theorem dX1_setTimes_37 : decode cX1_setTimes 37 = .ok (.invokespecial 67, 3) := by decide +kernel
theorem dX1_setTimes_40 : decode cX1_setTimes 40 = .ok (.athrow, 1) := by decide +kernel
theorem dX1_setTimes_41 : decode cX1_setTimes 41 = .ok (.aload_n 0, 1) := by decide +kernel
theorem dX1_setTimes_42 : decode cX1_setTimes 42 = .ok (.iload_n 2, 1) := by decide +kernel
theorem dX1_setTimes_43 : decode cX1_setTimes 43 = .ok (.iload_n 3, 1) := by decide +kernel
theorem dX1_setTimes_44 : decode cX1_setTimes 44 = .ok (.iconst (-1), 1) := by decide +kernel
theorem dX1_setTimes_45 : decode cX1_setTimes 45 = .ok (.invokevirtual 76, 3) := by decide +kernel
theorem dX1_setTimes_48 : decode cX1_setTimes 48 = .ok (.ifCond .eq 13, 3) := by decide +kernel
theorem dX1_setTimes_51 : decode cX1_setTimes 51 = .ok (.new 80, 3) := by decide +kernel
theorem dX1_setTimes_54 : decode cX1_setTimes 54 = .ok (.dup, 1) := by decide +kernel
theorem dX1_setTimes_55 : decode cX1_setTimes 55 = .ok (.ldc 82, 2) := by decide +kernel
theorem dX1_setTimes_57 : decode cX1_setTimes 57 = .ok (.invokespecial 84, 3) := by decide +kernel
theorem dX1_setTimes_60 : decode cX1_setTimes 60 = .ok (.athrow, 1) := by decide +kernel
theorem dX1_setTimes_61 : decode cX1_setTimes 61 = .ok (.aload_n 0, 1) := by decide +kernel
theorem dX1_setTimes_62 : decode cX1_setTimes 62 = .ok (.iload_n 1, 1) := by decide +kernel
theorem dX1_setTimes_63 : decode cX1_setTimes 63 = .ok (.iload_n 2, 1) := by decide +kernel
theorem dX1_setTimes_64 : decode cX1_setTimes 64 = .ok (.iconst 3, 1) := by decide +kernel
theorem dX1_setTimes_65 : decode cX1_setTimes 65 = .ok (.iload_n 3, 1) := by decide +kernel
theorem dX1_setTimes_66 : decode cX1_setTimes 66 = .ok (.iconst (-1), 1) := by decide +kernel
theorem dX1_setTimes_67 : decode cX1_setTimes 67 = .ok (.iload 4, 2) := by decide +kernel
theorem dX1_setTimes_69 : decode cX1_setTimes 69 = .ok (.invokevirtual 70, 3) := by decide +kernel
theorem dX1_setTimes_72 : decode cX1_setTimes 72 = .ok (.ireturn, 1) := by decide +kernel
set_option maxRecDepth 20000 in
theorem ggX1_refresh_X1_isUser : GoodIn wsX1_refresh wsX1_isUser := goodIn_r _ [6] (by decide +kernel) (by decide +kernel)
set_option maxRecDepth 20000 in
theorem gX1_refresh_X1_isUser : GoodIn wsX1_refresh (va_wsS RX1 51 yX1_isUser wsX1_isUser) := goodIn_app (goodIn_of _ (by decide +kernel)) ggX1_refresh_X1_isUser
set_option maxRecDepth 20000 in
theorem ggX1_refresh_X1_forgetChanges : GoodIn wsX1_refresh wsX1_forgetChanges := goodIn_r _ [10, 11, 83, 84, 85, 86, 87, 88, 89, 90, 91, 92, 93, 94] (by decide +kernel) (by decide +kernel)
set_option maxRecDepth 20000 in
theorem gX1_refresh_X1_forgetChanges : GoodIn wsX1_refresh (wsV RX1 91 RX1 yX1_forgetChanges wsX1_forgetChanges) := goodIn_app (goodIn_of _ (by decide +kernel)) ggX1_refresh_X1_forgetChanges
set_option maxRecDepth 20000 in
theorem ggX1_refresh_X1_goThrough : GoodIn wsX1_refresh wsX1_goThrough := goodIn_r _ [15, 16, 11, 17, 18, 19, 5, 20, 21, 22, 23, 24, 25, 26, 27, 28, 29, 30, 31, 32, 33, 34, 35, 36, 37, 38, 39, 40, 41, 42, 43, 44, 45, 46, 47, 48, 49, 50, 51, 52, 53, 54, 55, 56, 57, 58, 59, 60, 61, 62, 63, 64, 65, 66, 67, 68, 69, 70, 71, 72, 73, 74, 75, 76, 77, 78, 79, 80, 81, 82, 83, 84, 85, 86, 87, 88, 89, 90, 91, 92, 93, 94, 95, 96, 97, 98, 99, 100, 101, 102] (by decide +kernel) (by decide +kernel)
set_option maxRecDepth 20000 in
theorem gX1_refresh_X1_goThrough : GoodIn wsX1_refresh (wsV RX1 94 RX1 yX1_goThrough wsX1_goThrough) := goodIn_app (goodIn_of _ (by decide +kernel)) ggX1_refresh_X1_goThrough
theorem dX1_refresh_0 : decode cX1_refresh 0 = .ok (.iload_n 1, 1) := by decide +kernel
theorem dX1_refresh_1 : decode cX1_refresh 1 = .ok (.invokestatic 51, 3) := by decide +kernel
theorem dX1_refresh_4 : decode cX1_refresh 4 = .ok (.ifCond .ne 13, 3) := by decide +kernel
theorem dX1_refresh_7 : decode cX1_refresh 7 = .ok (.new 63, 3) := by decide +kernel
theorem dX1_refresh_10 : decode cX1_refresh 10 = .ok (.dup, 1) := by decide +kernel
theorem dX1_refresh_11 : decode cX1_refresh 11 = .ok (.ldc 89, 2) := by decide +kernel
theorem dX1_refresh_13 : decode cX1_refresh 13 = .ok (.invokespecial 67, 3) := by decide +kernel
theorem dX1_refresh_16 : decode cX1_refresh 16 = .ok (.athrow, 1) := by decide +kernel
theorem dX1_refresh_17 : decode cX1_refresh 17 = .ok (.aload_n 0, 1) := by decide +kernel
theorem dX1_refresh_18 : decode cX1_refresh 18 = .ok (.invokevirtual 91, 3) := by decide +kernel
theorem dX1_refresh_21 : decode cX1_refresh 21 = .ok (.aload_n 0, 1) := by decide +kernel
theorem dX1_refresh_22 : decode cX1_refresh 22 = .ok (.iload_n 1, 1) := by decide +kernel
theorem dX1_refresh_23 : decode cX1_refresh 23 = .ok (.iconst 1, 1) := by decide +kernel
theorem dX1_refresh_24 : decode cX1_refresh 24 = .ok (.invokevirtual 94, 3) := by decide +kernel
theorem dX1_refresh_27 : decode cX1_refresh 27 = .ok (.ireturn, 1) := by decide +kernel
set_option maxRecDepth 20000 in
theorem ggX1_setPrice_X1_isSheet : GoodIn wsX1_setPrice wsX1_isSheet := goodIn_r _ [7] (by decide +kernel) (by decide +kernel)
set_option maxRecDepth 20000 in
theorem gX1_setPrice_X1_isSheet : GoodIn wsX1_setPrice (va_wsS RX1 98 yX1_isSheet wsX1_isSheet) := goodIn_app (goodIn_of _ (by decide +kernel)) ggX1_setPrice_X1_isSheet
theorem dX1_setPrice_0 : decode cX1_setPrice 0 = .ok (.iload_n 1, 1) := by decide +kernel
theorem dX1_setPrice_1 : decode cX1_setPrice 1 = .ok (.invokestatic 98, 3) := by decide +kernel
theorem dX1_setPrice_4 : decode cX1_setPrice 4 = .ok (.ifCond .eq 13, 3) := by decide +kernel
theorem dX1_setPrice_7 : decode cX1_setPrice 7 = .ok (.iload_n 2, 1) := by decide +kernel
theorem dX1_setPrice_8 : decode cX1_setPrice 8 = .ok (.ifCond .lt 9, 3) := by decide +kernel
theorem dX1_setPrice_11 : decode cX1_setPrice 11 = .ok (.iload_n 2, 1) := by decide +kernel
theorem dX1_setPrice_12 : decode cX1_setPrice 12 = .ok (.bipush 100, 2) := by decide +kernel
theorem dX1_setPrice_14 : decode cX1_setPrice 14 = .ok (.if_icmp .le 13, 3) := by decide +kernel
theorem dX1_setPrice_17 : decode cX1_setPrice 17 = .ok (.new 63, 3) := by decide +kernel
theorem dX1_setPrice_20 : decode cX1_setPrice 20 = .ok (.dup, 1) := by decide +kernel
theorem dX1_setPrice_21 : decode cX1_setPrice 21 = .ok (.ldc 101, 2) := by decide +kernel
theorem dX1_setPrice_23 : decode cX1_setPrice 23 = .ok (.invokespecial 67, 3) := by decide +kernel
theorem dX1_setPrice_26 : decode cX1_setPrice 26 = .ok (.athrow, 1) := by decide +kernel
theorem dX1_setPrice_27 : decode cX1_setPrice 27 = .ok (.aload_n 0, 1) := by decide +kernel
theorem dX1_setPrice_28 : decode cX1_setPrice 28 = .ok (.getfield 35, 3) := by decide +kernel
theorem dX1_setPrice_31 : decode cX1_setPrice 31 = .ok (.getfield 103, 3) := by decide +kernel
theorem dX1_setPrice_34 : decode cX1_setPrice 34 = .ok (.iload_n 1, 1) := by decide +kernel
theorem dX1_setPrice_35 : decode cX1_setPrice 35 = .ok (.iaload, 1) := by decide +kernel
theorem dX1_setPrice_36 : decode cX1_setPrice 36 = .ok (.istore_n 3, 1) := by decide +kernel
theorem dX1_setPrice_37 : decode cX1_setPrice 37 = .ok (.aload_n 0, 1) := by decide +kernel
theorem dX1_setPrice_38 : decode cX1_setPrice 38 = .ok (.getfield 35, 3) := by decide +kernel
theorem dX1_setPrice_41 : decode cX1_setPrice 41 = .ok (.getfield 103, 3) := by decide +kernel
theorem dX1_setPrice_44 : decode cX1_setPrice 44 = .ok (.iload_n 1, 1) := by decide +kernel
theorem dX1_setPrice_45 : decode cX1_setPrice 45 = .ok (.iload_n 2, 1) := by decide +kernel
theorem dX1_setPrice_46 : decode cX1_setPrice 46 = .ok (.iastore, 1) := by decide +kernel
theorem dX1_setPrice_47 : decode cX1_setPrice 47 = .ok (.iload_n 3, 1) := by decide +kernel
theorem dX1_setPrice_48 : decode cX1_setPrice 48 = .ok (.ireturn, 1) := by decide +kernel
set_option maxRecDepth 20000 in
theorem ggX1_grant_X1_isSheet : GoodIn wsX1_grant wsX1_isSheet := goodIn_r _ [7] (by decide +kernel) (by decide +kernel)
set_option maxRecDepth 20000 in
theorem gX1_grant_X1_isSheet : GoodIn wsX1_grant (va_wsS RX1 98 yX1_isSheet wsX1_isSheet) := goodIn_app (goodIn_of _ (by decide +kernel)) ggX1_grant_X1_isSheet
theorem dX1_grant_0 : decode cX1_grant 0 = .ok (.iload_n 1, 1) := by decide +kernel
theorem dX1_grant_1 : decode cX1_grant 1 = .ok (.invokestatic 98, 3) := by decide +kernel
theorem dX1_grant_4 : decode cX1_grant 4 = .ok (.ifCond .eq 15, 3) := by decide +kernel
theorem dX1_grant_7 : decode cX1_grant 7 = .ok (.iload_n 2, 1) := by decide +kernel
theorem dX1_grant_8 : decode cX1_grant 8 = .ok (.iconst 1, 1) := by decide +kernel
theorem dX1_grant_9 : decode cX1_grant 9 = .ok (.if_icmp .lt 10, 3) := by decide +kernel
theorem dX1_grant_12 : decode cX1_grant 12 = .ok (.iload_n 2, 1) := by decide +kernel
theorem dX1_grant_13 : decode cX1_grant 13 = .ok (.sipush 10000, 3) := by decide +kernel
theorem dX1_grant_16 : decode cX1_grant 16 = .ok (.if_icmp .le 13, 3) := by decide +kernel
theorem dX1_grant_19 : decode cX1_grant 19 = .ok (.new 63, 3) := by decide +kernel
theorem dX1_grant_22 : decode cX1_grant 22 = .ok (.dup, 1) := by decide +kernel
theorem dX1_grant_23 : decode cX1_grant 23 = .ok (.ldc 106, 2) := by decide +kernel
theorem dX1_grant_25 : decode cX1_grant 25 = .ok (.invokespecial 67, 3) := by decide +kernel
theorem dX1_grant_28 : decode cX1_grant 28 = .ok (.athrow, 1) := by decide +kernel
theorem dX1_grant_29 : decode cX1_grant 29 = .ok (.aload_n 0, 1) := by decide +kernel
theorem dX1_grant_30 : decode cX1_grant 30 = .ok (.getfield 35, 3) := by decide +kernel
theorem dX1_grant_33 : decode cX1_grant 33 = .ok (.getfield 108, 3) := by decide +kernel
theorem dX1_grant_36 : decode cX1_grant 36 = .ok (.iload_n 1, 1) := by decide +kernel
theorem dX1_grant_37 : decode cX1_grant 37 = .ok (.dup2, 1) := by decide +kernel
theorem dX1_grant_38 : decode cX1_grant 38 = .ok (.iaload, 1) := by decide +kernel
theorem dX1_grant_39 : decode cX1_grant 39 = .ok (.iload_n 2, 1) := by decide +kernel
theorem dX1_grant_40 : decode cX1_grant 40 = .ok (.iadd, 1) := by decide +kernel
theorem dX1_grant_41 : decode cX1_grant 41 = .ok (.iastore, 1) := by decide +kernel
theorem dX1_grant_42 : decode cX1_grant 42 = .ok (.aload_n 0, 1) := by decide +kernel
theorem dX1_grant_43 : decode cX1_grant 43 = .ok (.getfield 35, 3) := by decide +kernel
theorem dX1_grant_46 : decode cX1_grant 46 = .ok (.getfield 108, 3) := by decide +kernel
theorem dX1_grant_49 : decode cX1_grant 49 = .ok (.iload_n 1, 1) := by decide +kernel
theorem dX1_grant_50 : decode cX1_grant 50 = .ok (.iaload, 1) := by decide +kernel
theorem dX1_grant_51 : decode cX1_grant 51 = .ok (.ireturn, 1) := by decide +kernel
set_option maxRecDepth 20000 in
theorem ggX1_budget_X1_isSheet : GoodIn wsX1_budget wsX1_isSheet := goodIn_r _ [7] (by decide +kernel) (by decide +kernel)
set_option maxRecDepth 20000 in
theorem gX1_budget_X1_isSheet : GoodIn wsX1_budget (va_wsS RX1 98 yX1_isSheet wsX1_isSheet) := goodIn_app (goodIn_of _ (by decide +kernel)) ggX1_budget_X1_isSheet
theorem dX1_budget_0 : decode cX1_budget 0 = .ok (.iload_n 1, 1) := by decide +kernel
theorem dX1_budget_1 : decode cX1_budget 1 = .ok (.invokestatic 98, 3) := by decide +kernel
theorem dX1_budget_4 : decode cX1_budget 4 = .ok (.ifCond .ne 13, 3) := by decide +kernel
theorem dX1_budget_7 : decode cX1_budget 7 = .ok (.new 63, 3) := by decide +kernel
theorem dX1_budget_10 : decode cX1_budget 10 = .ok (.dup, 1) := by decide +kernel
theorem dX1_budget_11 : decode cX1_budget 11 = .ok (.ldc 111, 2) := by decide +kernel
theorem dX1_budget_13 : decode cX1_budget 13 = .ok (.invokespecial 67, 3) := by decide +kernel
theorem dX1_budget_16 : decode cX1_budget 16 = .ok (.athrow, 1) := by decide +kernel
theorem dX1_budget_17 : decode cX1_budget 17 = .ok (.aload_n 0, 1) := by decide +kernel
theorem dX1_budget_18 : decode cX1_budget 18 = .ok (.getfield 35, 3) := by decide +kernel
theorem dX1_budget_21 : decode cX1_budget 21 = .ok (.getfield 108, 3) := by decide +kernel
theorem dX1_budget_24 : decode cX1_budget 24 = .ok (.iload_n 1, 1) := by decide +kernel
theorem dX1_budget_25 : decode cX1_budget 25 = .ok (.iaload, 1) := by decide +kernel
theorem dX1_budget_26 : decode cX1_budget 26 = .ok (.ireturn, 1) := by decide +kernel
set_option maxRecDepth 20000 in
theorem ggX1_earned_X1_isSheet : GoodIn wsX1_earned wsX1_isSheet := goodIn_r _ [7] (by decide +kernel) (by decide +kernel)
set_option maxRecDepth 20000 in
theorem gX1_earned_X1_isSheet : GoodIn wsX1_earned (va_wsS RX1 98 yX1_isSheet wsX1_isSheet) := goodIn_app (goodIn_of _ (by decide +kernel)) ggX1_earned_X1_isSheet
theorem dX1_earned_0 : decode cX1_earned 0 = .ok (.iload_n 1, 1) := by decide +kernel
theorem dX1_earned_1 : decode cX1_earned 1 = .ok (.invokestatic 98, 3) := by decide +kernel
theorem dX1_earned_4 : decode cX1_earned 4 = .ok (.ifCond .ne 13, 3) := by decide +kernel
theorem dX1_earned_7 : decode cX1_earned 7 = .ok (.new 63, 3) := by decide +kernel
theorem dX1_earned_10 : decode cX1_earned 10 = .ok (.dup, 1) := by decide +kernel
theorem dX1_earned_11 : decode cX1_earned 11 = .ok (.ldc 111, 2) := by decide +kernel
theorem dX1_earned_13 : decode cX1_earned 13 = .ok (.invokespecial 67, 3) := by decide +kernel
theorem dX1_earned_16 : decode cX1_earned 16 = .ok (.athrow, 1) := by decide +kernel
theorem dX1_earned_17 : decode cX1_earned 17 = .ok (.aload_n 0, 1) := by decide +kernel
theorem dX1_earned_18 : decode cX1_earned 18 = .ok (.getfield 35, 3) := by decide +kernel
theorem dX1_earned_21 : decode cX1_earned 21 = .ok (.getfield 113, 3) := by decide +kernel
theorem dX1_earned_24 : decode cX1_earned 24 = .ok (.iload_n 1, 1) := by decide +kernel
theorem dX1_earned_25 : decode cX1_earned 25 = .ok (.iaload, 1) := by decide +kernel
theorem dX1_earned_26 : decode cX1_earned 26 = .ok (.ireturn, 1) := by decide +kernel
set_option maxRecDepth 20000 in
theorem ggX1_caused_X1_isUser : GoodIn wsX1_caused wsX1_isUser := goodIn_r _ [7] (by decide +kernel) (by decide +kernel)
set_option maxRecDepth 20000 in
theorem gX1_caused_X1_isUser : GoodIn wsX1_caused (va_wsS RX1 51 yX1_isUser wsX1_isUser) := goodIn_app (goodIn_of _ (by decide +kernel)) ggX1_caused_X1_isUser
theorem dX1_caused_0 : decode cX1_caused 0 = .ok (.iload_n 1, 1) := by decide +kernel
theorem dX1_caused_1 : decode cX1_caused 1 = .ok (.invokestatic 51, 3) := by decide +kernel
theorem dX1_caused_4 : decode cX1_caused 4 = .ok (.ifCond .ne 13, 3) := by decide +kernel
theorem dX1_caused_7 : decode cX1_caused 7 = .ok (.new 63, 3) := by decide +kernel
theorem dX1_caused_10 : decode cX1_caused 10 = .ok (.dup, 1) := by decide +kernel
theorem dX1_caused_11 : decode cX1_caused 11 = .ok (.ldc 89, 2) := by decide +kernel
theorem dX1_caused_13 : decode cX1_caused 13 = .ok (.invokespecial 67, 3) := by decide +kernel
theorem dX1_caused_16 : decode cX1_caused 16 = .ok (.athrow, 1) := by decide +kernel
theorem dX1_caused_17 : decode cX1_caused 17 = .ok (.aload_n 0, 1) := by decide +kernel
theorem dX1_caused_18 : decode cX1_caused 18 = .ok (.getfield 35, 3) := by decide +kernel
theorem dX1_caused_21 : decode cX1_caused 21 = .ok (.getfield 116, 3) := by decide +kernel
theorem dX1_caused_24 : decode cX1_caused 24 = .ok (.iload_n 1, 1) := by decide +kernel
theorem dX1_caused_25 : decode cX1_caused 25 = .ok (.iaload, 1) := by decide +kernel
theorem dX1_caused_26 : decode cX1_caused 26 = .ok (.ireturn, 1) := by decide +kernel
set_option maxRecDepth 20000 in
theorem ggX1_value_X1_isCell : GoodIn wsX1_value wsX1_isCell := goodIn_r _ [7] (by decide +kernel) (by decide +kernel)
set_option maxRecDepth 20000 in
theorem gX1_value_X1_isCell : GoodIn wsX1_value (va_wsS RX1 55 yX1_isCell wsX1_isCell) := goodIn_app (goodIn_of _ (by decide +kernel)) ggX1_value_X1_isCell
theorem dX1_value_0 : decode cX1_value 0 = .ok (.iload_n 1, 1) := by decide +kernel
theorem dX1_value_1 : decode cX1_value 1 = .ok (.invokestatic 55, 3) := by decide +kernel
theorem dX1_value_4 : decode cX1_value 4 = .ok (.ifCond .ne 13, 3) := by decide +kernel
theorem dX1_value_7 : decode cX1_value 7 = .ok (.new 63, 3) := by decide +kernel
theorem dX1_value_10 : decode cX1_value 10 = .ok (.dup, 1) := by decide +kernel
theorem dX1_value_11 : decode cX1_value 11 = .ok (.ldc 119, 2) := by decide +kernel
theorem dX1_value_13 : decode cX1_value 13 = .ok (.invokespecial 67, 3) := by decide +kernel
theorem dX1_value_16 : decode cX1_value 16 = .ok (.athrow, 1) := by decide +kernel
theorem dX1_value_17 : decode cX1_value 17 = .ok (.aload_n 0, 1) := by decide +kernel
theorem dX1_value_18 : decode cX1_value 18 = .ok (.getfield 22, 3) := by decide +kernel
theorem dX1_value_21 : decode cX1_value 21 = .ok (.iload_n 1, 1) := by decide +kernel
theorem dX1_value_22 : decode cX1_value 22 = .ok (.iaload, 1) := by decide +kernel
theorem dX1_value_23 : decode cX1_value 23 = .ok (.ireturn, 1) := by decide +kernel
set_option maxRecDepth 20000 in
theorem ggX1_isMarked_X1_isCell : GoodIn wsX1_isMarked wsX1_isCell := goodIn_r _ [7] (by decide +kernel) (by decide +kernel)
set_option maxRecDepth 20000 in
theorem gX1_isMarked_X1_isCell : GoodIn wsX1_isMarked (va_wsS RX1 55 yX1_isCell wsX1_isCell) := goodIn_app (goodIn_of _ (by decide +kernel)) ggX1_isMarked_X1_isCell
theorem dX1_isMarked_0 : decode cX1_isMarked 0 = .ok (.iload_n 1, 1) := by decide +kernel
theorem dX1_isMarked_1 : decode cX1_isMarked 1 = .ok (.invokestatic 55, 3) := by decide +kernel
theorem dX1_isMarked_4 : decode cX1_isMarked 4 = .ok (.ifCond .ne 13, 3) := by decide +kernel
theorem dX1_isMarked_7 : decode cX1_isMarked 7 = .ok (.new 63, 3) := by decide +kernel
theorem dX1_isMarked_10 : decode cX1_isMarked 10 = .ok (.dup, 1) := by decide +kernel
theorem dX1_isMarked_11 : decode cX1_isMarked 11 = .ok (.ldc 119, 2) := by decide +kernel
theorem dX1_isMarked_13 : decode cX1_isMarked 13 = .ok (.invokespecial 67, 3) := by decide +kernel
theorem dX1_isMarked_16 : decode cX1_isMarked 16 = .ok (.athrow, 1) := by decide +kernel
theorem dX1_isMarked_17 : decode cX1_isMarked 17 = .ok (.aload_n 0, 1) := by decide +kernel
theorem dX1_isMarked_18 : decode cX1_isMarked 18 = .ok (.getfield 25, 3) := by decide +kernel
theorem dX1_isMarked_21 : decode cX1_isMarked 21 = .ok (.iload_n 1, 1) := by decide +kernel
theorem dX1_isMarked_22 : decode cX1_isMarked 22 = .ok (.baload, 1) := by decide +kernel
theorem dX1_isMarked_23 : decode cX1_isMarked 23 = .ok (.ireturn, 1) := by decide +kernel
set_option maxRecDepth 20000 in
theorem ggX1_valueAnew_X1_isCell : GoodIn wsX1_valueAnew wsX1_isCell := goodIn_r _ [8] (by decide +kernel) (by decide +kernel)
set_option maxRecDepth 20000 in
theorem gX1_valueAnew_X1_isCell : GoodIn wsX1_valueAnew (va_wsS RX1 55 yX1_isCell wsX1_isCell) := goodIn_app (goodIn_of _ (by decide +kernel)) ggX1_valueAnew_X1_isCell
set_option maxRecDepth 20000 in
theorem ggX1_valueAnew_X1_resultOf : GoodIn wsX1_valueAnew wsX1_resultOf := goodIn_r _ [12, 13, 14, 15, 16, 17, 18, 19, 20, 21, 22, 7, 23, 24, 25, 26, 27, 28, 29, 30, 31, 32, 33, 34, 35, 36, 37, 38, 39, 40, 41, 42, 43] (by decide +kernel) (by decide +kernel)
set_option maxRecDepth 20000 in
theorem gX1_valueAnew_X1_resultOf : GoodIn wsX1_valueAnew (wsV RX1 121 RX1 yX1_resultOf wsX1_resultOf) := goodIn_app (goodIn_of _ (by decide +kernel)) ggX1_valueAnew_X1_resultOf
theorem dX1_valueAnew_0 : decode cX1_valueAnew 0 = .ok (.iload_n 1, 1) := by decide +kernel
theorem dX1_valueAnew_1 : decode cX1_valueAnew 1 = .ok (.invokestatic 55, 3) := by decide +kernel
theorem dX1_valueAnew_4 : decode cX1_valueAnew 4 = .ok (.ifCond .ne 13, 3) := by decide +kernel
theorem dX1_valueAnew_7 : decode cX1_valueAnew 7 = .ok (.new 63, 3) := by decide +kernel
theorem dX1_valueAnew_10 : decode cX1_valueAnew 10 = .ok (.dup, 1) := by decide +kernel
theorem dX1_valueAnew_11 : decode cX1_valueAnew 11 = .ok (.ldc 119, 2) := by decide +kernel
theorem dX1_valueAnew_13 : decode cX1_valueAnew 13 = .ok (.invokespecial 67, 3) := by decide +kernel
theorem dX1_valueAnew_16 : decode cX1_valueAnew 16 = .ok (.athrow, 1) := by decide +kernel
theorem dX1_valueAnew_17 : decode cX1_valueAnew 17 = .ok (.iconst 0, 1) := by decide +kernel
theorem dX1_valueAnew_18 : decode cX1_valueAnew 18 = .ok (.istore_n 2, 1) := by decide +kernel
theorem dX1_valueAnew_19 : decode cX1_valueAnew 19 = .ok (.iload_n 2, 1) := by decide +kernel
theorem dX1_valueAnew_20 : decode cX1_valueAnew 20 = .ok (.bipush 24, 2) := by decide +kernel
theorem dX1_valueAnew_22 : decode cX1_valueAnew 22 = .ok (.if_icmp .ge 38, 3) := by decide +kernel
theorem dX1_valueAnew_25 : decode cX1_valueAnew 25 = .ok (.aload_n 0, 1) := by decide +kernel
theorem dX1_valueAnew_26 : decode cX1_valueAnew 26 = .ok (.getfield 29, 3) := by decide +kernel
theorem dX1_valueAnew_29 : decode cX1_valueAnew 29 = .ok (.iload_n 2, 1) := by decide +kernel
theorem dX1_valueAnew_30 : decode cX1_valueAnew 30 = .ok (.iaload, 1) := by decide +kernel
theorem dX1_valueAnew_31 : decode cX1_valueAnew 31 = .ok (.istore_n 3, 1) := by decide +kernel
theorem dX1_valueAnew_32 : decode cX1_valueAnew 32 = .ok (.iload_n 3, 1) := by decide +kernel
theorem dX1_valueAnew_33 : decode cX1_valueAnew 33 = .ok (.invokestatic 55, 3) := by decide +kernel
theorem dX1_valueAnew_36 : decode cX1_valueAnew 36 = .ok (.ifCond .eq 18, 3) := by decide +kernel
theorem dX1_valueAnew_39 : decode cX1_valueAnew 39 = .ok (.aload_n 0, 1) := by decide +kernel
theorem dX1_valueAnew_40 : decode cX1_valueAnew 40 = .ok (.getfield 48, 3) := by decide +kernel
theorem dX1_valueAnew_43 : decode cX1_valueAnew 43 = .ok (.iload_n 3, 1) := by decide +kernel
theorem dX1_valueAnew_44 : decode cX1_valueAnew 44 = .ok (.aload_n 0, 1) := by decide +kernel
theorem dX1_valueAnew_45 : decode cX1_valueAnew 45 = .ok (.iload_n 3, 1) := by decide +kernel
theorem dX1_valueAnew_46 : decode cX1_valueAnew 46 = .ok (.aload_n 0, 1) := by decide +kernel
theorem dX1_valueAnew_47 : decode cX1_valueAnew 47 = .ok (.getfield 48, 3) := by decide +kernel
theorem dX1_valueAnew_50 : decode cX1_valueAnew 50 = .ok (.invokevirtual 121, 3) := by decide +kernel
theorem dX1_valueAnew_53 : decode cX1_valueAnew 53 = .ok (.iastore, 1) := by decide +kernel
theorem dX1_valueAnew_54 : decode cX1_valueAnew 54 = .ok (.iinc 2 1, 3) := by decide +kernel
theorem dX1_valueAnew_57 : decode cX1_valueAnew 57 = .ok (.goto (-38), 3) := by decide +kernel
theorem dX1_valueAnew_60 : decode cX1_valueAnew 60 = .ok (.aload_n 0, 1) := by decide +kernel
theorem dX1_valueAnew_61 : decode cX1_valueAnew 61 = .ok (.getfield 48, 3) := by decide +kernel
theorem dX1_valueAnew_64 : decode cX1_valueAnew 64 = .ok (.iload_n 1, 1) := by decide +kernel
theorem dX1_valueAnew_65 : decode cX1_valueAnew 65 = .ok (.iaload, 1) := by decide +kernel
theorem dX1_valueAnew_66 : decode cX1_valueAnew 66 = .ok (.ireturn, 1) := by decide +kernel
theorem dX1_readings_0 : decode cX1_readings 0 = .ok (.aload_n 0, 1) := by decide +kernel
theorem dX1_readings_1 : decode cX1_readings 1 = .ok (.getfield 35, 3) := by decide +kernel
theorem dX1_readings_4 : decode cX1_readings 4 = .ok (.getfield 125, 3) := by decide +kernel
theorem dX1_readings_7 : decode cX1_readings 7 = .ok (.ireturn, 1) := by decide +kernel
theorem dX1_reading_0 : decode cX1_reading 0 = .ok (.iload_n 1, 1) := by decide +kernel
theorem dX1_reading_1 : decode cX1_reading 1 = .ok (.ifCond .lt 21, 3) := by decide +kernel
theorem dX1_reading_4 : decode cX1_reading 4 = .ok (.iload_n 1, 1) := by decide +kernel
theorem dX1_reading_5 : decode cX1_reading 5 = .ok (.aload_n 0, 1) := by decide +kernel
theorem dX1_reading_6 : decode cX1_reading 6 = .ok (.getfield 35, 3) := by decide +kernel
theorem dX1_reading_9 : decode cX1_reading 9 = .ok (.getfield 125, 3) := by decide +kernel
theorem dX1_reading_12 : decode cX1_reading 12 = .ok (.if_icmp .ge 10, 3) := by decide +kernel
theorem dX1_reading_15 : decode cX1_reading 15 = .ok (.iload_n 1, 1) := by decide +kernel
theorem dX1_reading_16 : decode cX1_reading 16 = .ok (.sipush 500, 3) := by decide +kernel
theorem dX1_reading_19 : decode cX1_reading 19 = .ok (.if_icmp .lt 13, 3) := by decide +kernel
theorem dX1_reading_22 : decode cX1_reading 22 = .ok (.new 129, 3) := by decide +kernel
theorem dX1_reading_25 : decode cX1_reading 25 = .ok (.dup, 1) := by decide +kernel
theorem dX1_reading_26 : decode cX1_reading 26 = .ok (.ldc 131, 2) := by decide +kernel
theorem dX1_reading_28 : decode cX1_reading 28 = .ok (.invokespecial 133, 3) := by decide +kernel
theorem dX1_reading_31 : decode cX1_reading 31 = .ok (.athrow, 1) := by decide +kernel
theorem dX1_reading_32 : decode cX1_reading 32 = .ok (.aload_n 0, 1) := by decide +kernel
theorem dX1_reading_33 : decode cX1_reading 33 = .ok (.getfield 35, 3) := by decide +kernel
theorem dX1_reading_36 : decode cX1_reading 36 = .ok (.getfield 134, 3) := by decide +kernel
theorem dX1_reading_39 : decode cX1_reading 39 = .ok (.iload_n 1, 1) := by decide +kernel
theorem dX1_reading_40 : decode cX1_reading 40 = .ok (.iaload, 1) := by decide +kernel
theorem dX1_reading_41 : decode cX1_reading 41 = .ok (.ireturn, 1) := by decide +kernel
set_option maxRecDepth 20000 in
theorem ggX1_timesRead_X1_isCell : GoodIn wsX1_timesRead wsX1_isCell := goodIn_r _ [7] (by decide +kernel) (by decide +kernel)
set_option maxRecDepth 20000 in
theorem gX1_timesRead_X1_isCell : GoodIn wsX1_timesRead (va_wsS RX1 55 yX1_isCell wsX1_isCell) := goodIn_app (goodIn_of _ (by decide +kernel)) ggX1_timesRead_X1_isCell
theorem dX1_timesRead_0 : decode cX1_timesRead 0 = .ok (.iload_n 1, 1) := by decide +kernel
theorem dX1_timesRead_1 : decode cX1_timesRead 1 = .ok (.invokestatic 55, 3) := by decide +kernel
theorem dX1_timesRead_4 : decode cX1_timesRead 4 = .ok (.ifCond .eq 10, 3) := by decide +kernel
theorem dX1_timesRead_7 : decode cX1_timesRead 7 = .ok (.iload_n 2, 1) := by decide +kernel
theorem dX1_timesRead_8 : decode cX1_timesRead 8 = .ok (.invokestatic 55, 3) := by decide +kernel
theorem dX1_timesRead_11 : decode cX1_timesRead 11 = .ok (.ifCond .ne 13, 3) := by decide +kernel
theorem dX1_timesRead_14 : decode cX1_timesRead 14 = .ok (.new 63, 3) := by decide +kernel
theorem dX1_timesRead_17 : decode cX1_timesRead 17 = .ok (.dup, 1) := by decide +kernel
theorem dX1_timesRead_18 : decode cX1_timesRead 18 = .ok (.ldc 137, 2) := by decide +kernel
theorem dX1_timesRead_20 : decode cX1_timesRead 20 = .ok (.invokespecial 67, 3) := by decide +kernel
theorem dX1_timesRead_23 : decode cX1_timesRead 23 = .ok (.athrow, 1) := by decide +kernel
theorem dX1_timesRead_24 : decode cX1_timesRead 24 = .ok (.aload_n 0, 1) := by decide +kernel
theorem dX1_timesRead_25 : decode cX1_timesRead 25 = .ok (.getfield 35, 3) := by decide +kernel
theorem dX1_timesRead_28 : decode cX1_timesRead 28 = .ok (.getfield 139, 3) := by decide +kernel
theorem dX1_timesRead_31 : decode cX1_timesRead 31 = .ok (.iload_n 1, 1) := by decide +kernel
theorem dX1_timesRead_32 : decode cX1_timesRead 32 = .ok (.bipush 24, 2) := by decide +kernel
theorem dX1_timesRead_34 : decode cX1_timesRead 34 = .ok (.imul, 1) := by decide +kernel
theorem dX1_timesRead_35 : decode cX1_timesRead 35 = .ok (.iload_n 2, 1) := by decide +kernel
theorem dX1_timesRead_36 : decode cX1_timesRead 36 = .ok (.iadd, 1) := by decide +kernel
theorem dX1_timesRead_37 : decode cX1_timesRead 37 = .ok (.iaload, 1) := by decide +kernel
theorem dX1_timesRead_38 : decode cX1_timesRead 38 = .ok (.ireturn, 1) := by decide +kernel
set_option maxRecDepth 20000 in
theorem ggX1_readOf_X1_isSheet : GoodIn wsX1_readOf wsX1_isSheet := goodIn_r _ [7] (by decide +kernel) (by decide +kernel)
set_option maxRecDepth 20000 in
theorem gX1_readOf_X1_isSheet : GoodIn wsX1_readOf (va_wsS RX1 98 yX1_isSheet wsX1_isSheet) := goodIn_app (goodIn_of _ (by decide +kernel)) ggX1_readOf_X1_isSheet
theorem dX1_readOf_0 : decode cX1_readOf 0 = .ok (.iload_n 1, 1) := by decide +kernel
theorem dX1_readOf_1 : decode cX1_readOf 1 = .ok (.invokestatic 98, 3) := by decide +kernel
theorem dX1_readOf_4 : decode cX1_readOf 4 = .ok (.ifCond .ne 13, 3) := by decide +kernel
theorem dX1_readOf_7 : decode cX1_readOf 7 = .ok (.new 63, 3) := by decide +kernel
theorem dX1_readOf_10 : decode cX1_readOf 10 = .ok (.dup, 1) := by decide +kernel
theorem dX1_readOf_11 : decode cX1_readOf 11 = .ok (.ldc 111, 2) := by decide +kernel
theorem dX1_readOf_13 : decode cX1_readOf 13 = .ok (.invokespecial 67, 3) := by decide +kernel
theorem dX1_readOf_16 : decode cX1_readOf 16 = .ok (.athrow, 1) := by decide +kernel
theorem dX1_readOf_17 : decode cX1_readOf 17 = .ok (.aload_n 0, 1) := by decide +kernel
theorem dX1_readOf_18 : decode cX1_readOf 18 = .ok (.getfield 35, 3) := by decide +kernel
theorem dX1_readOf_21 : decode cX1_readOf 21 = .ok (.getfield 142, 3) := by decide +kernel
theorem dX1_readOf_24 : decode cX1_readOf 24 = .ok (.iload_n 1, 1) := by decide +kernel
theorem dX1_readOf_25 : decode cX1_readOf 25 = .ok (.iaload, 1) := by decide +kernel
theorem dX1_readOf_26 : decode cX1_readOf 26 = .ok (.ireturn, 1) := by decide +kernel
theorem dX1_isUser_0 : decode cX1_isUser 0 = .ok (.iload_n 0, 1) := by decide +kernel
theorem dX1_isUser_1 : decode cX1_isUser 1 = .ok (.ifCond .lt 12, 3) := by decide +kernel
theorem dX1_isUser_4 : decode cX1_isUser 4 = .ok (.iload_n 0, 1) := by decide +kernel
theorem dX1_isUser_5 : decode cX1_isUser 5 = .ok (.iconst 5, 1) := by decide +kernel
theorem dX1_isUser_6 : decode cX1_isUser 6 = .ok (.if_icmp .ge 7, 3) := by decide +kernel
theorem dX1_isUser_9 : decode cX1_isUser 9 = .ok (.iconst 1, 1) := by decide +kernel
theorem dX1_isUser_10 : decode cX1_isUser 10 = .ok (.goto 4, 3) := by decide +kernel
theorem dX1_isUser_13 : decode cX1_isUser 13 = .ok (.iconst 0, 1) := by decide +kernel
theorem dX1_isUser_14 : decode cX1_isUser 14 = .ok (.ireturn, 1) := by decide +kernel
theorem dX1_isSheet_0 : decode cX1_isSheet 0 = .ok (.iload_n 0, 1) := by decide +kernel
theorem dX1_isSheet_1 : decode cX1_isSheet 1 = .ok (.ifCond .lt 12, 3) := by decide +kernel
theorem dX1_isSheet_4 : decode cX1_isSheet 4 = .ok (.iload_n 0, 1) := by decide +kernel
theorem dX1_isSheet_5 : decode cX1_isSheet 5 = .ok (.iconst 4, 1) := by decide +kernel
theorem dX1_isSheet_6 : decode cX1_isSheet 6 = .ok (.if_icmp .ge 7, 3) := by decide +kernel
theorem dX1_isSheet_9 : decode cX1_isSheet 9 = .ok (.iconst 1, 1) := by decide +kernel
theorem dX1_isSheet_10 : decode cX1_isSheet 10 = .ok (.goto 4, 3) := by decide +kernel
theorem dX1_isSheet_13 : decode cX1_isSheet 13 = .ok (.iconst 0, 1) := by decide +kernel
theorem dX1_isSheet_14 : decode cX1_isSheet 14 = .ok (.ireturn, 1) := by decide +kernel
theorem dX1_isCell_0 : decode cX1_isCell 0 = .ok (.iload_n 0, 1) := by decide +kernel
theorem dX1_isCell_1 : decode cX1_isCell 1 = .ok (.ifCond .lt 13, 3) := by decide +kernel
theorem dX1_isCell_4 : decode cX1_isCell 4 = .ok (.iload_n 0, 1) := by decide +kernel
theorem dX1_isCell_5 : decode cX1_isCell 5 = .ok (.bipush 24, 2) := by decide +kernel
theorem dX1_isCell_7 : decode cX1_isCell 7 = .ok (.if_icmp .ge 7, 3) := by decide +kernel
theorem dX1_isCell_10 : decode cX1_isCell 10 = .ok (.iconst 1, 1) := by decide +kernel
theorem dX1_isCell_11 : decode cX1_isCell 11 = .ok (.goto 4, 3) := by decide +kernel
theorem dX1_isCell_14 : decode cX1_isCell 14 = .ok (.iconst 0, 1) := by decide +kernel
theorem dX1_isCell_15 : decode cX1_isCell 15 = .ok (.ireturn, 1) := by decide +kernel
theorem dX1_isWithin_0 : decode cX1_isWithin 0 = .ok (.iload_n 0, 1) := by decide +kernel
theorem dX1_isWithin_1 : decode cX1_isWithin 1 = .ok (.iload_n 1, 1) := by decide +kernel
theorem dX1_isWithin_2 : decode cX1_isWithin 2 = .ok (.ineg, 1) := by decide +kernel
theorem dX1_isWithin_3 : decode cX1_isWithin 3 = .ok (.if_icmp .lt 12, 3) := by decide +kernel
theorem dX1_isWithin_6 : decode cX1_isWithin 6 = .ok (.iload_n 0, 1) := by decide +kernel
theorem dX1_isWithin_7 : decode cX1_isWithin 7 = .ok (.iload_n 1, 1) := by decide +kernel
theorem dX1_isWithin_8 : decode cX1_isWithin 8 = .ok (.if_icmp .gt 7, 3) := by decide +kernel
theorem dX1_isWithin_11 : decode cX1_isWithin 11 = .ok (.iconst 1, 1) := by decide +kernel
theorem dX1_isWithin_12 : decode cX1_isWithin 12 = .ok (.goto 4, 3) := by decide +kernel
theorem dX1_isWithin_15 : decode cX1_isWithin 15 = .ok (.iconst 0, 1) := by decide +kernel
theorem dX1_isWithin_16 : decode cX1_isWithin 16 = .ok (.ireturn, 1) := by decide +kernel
theorem dX1_sheetOf_0 : decode cX1_sheetOf 0 = .ok (.iload_n 0, 1) := by decide +kernel
theorem dX1_sheetOf_1 : decode cX1_sheetOf 1 = .ok (.bipush 6, 2) := by decide +kernel
theorem dX1_sheetOf_3 : decode cX1_sheetOf 3 = .ok (.idiv, 1) := by decide +kernel
theorem dX1_sheetOf_4 : decode cX1_sheetOf 4 = .ok (.ireturn, 1) := by decide +kernel
set_option maxRecDepth 20000 in
theorem ggX1_wouldReadItself_X1_isCell : GoodIn wsX1_wouldReadItself wsX1_isCell := goodIn_r _ [6] (by decide +kernel) (by decide +kernel)
set_option maxRecDepth 20000 in
theorem gX1_wouldReadItself_X1_isCell : GoodIn wsX1_wouldReadItself (va_wsS RX1 55 yX1_isCell wsX1_isCell) := goodIn_app (goodIn_of _ (by decide +kernel)) ggX1_wouldReadItself_X1_isCell
set_option maxRecDepth 20000 in
theorem ggX1_wouldReadItself_X1_readsOneOf : GoodIn wsX1_wouldReadItself wsX1_readsOneOf := goodIn_r _ [10, 11, 12, 13, 14, 5, 15, 16, 17, 18, 19, 20, 21, 22, 23, 24, 25, 26, 27] (by decide +kernel) (by decide +kernel)
set_option maxRecDepth 20000 in
theorem gX1_wouldReadItself_X1_readsOneOf : GoodIn wsX1_wouldReadItself (wsV RX1 145 RX1 yX1_readsOneOf wsX1_readsOneOf) := goodIn_app (goodIn_of _ (by decide +kernel)) ggX1_wouldReadItself_X1_readsOneOf
set_option maxRecDepth 20000 in
theorem ggX1_wouldReadItself_X1_isIn : GoodIn wsX1_wouldReadItself wsX1_isIn := goodIn_r _ [15] (by decide +kernel) (by decide +kernel)
set_option maxRecDepth 20000 in
theorem gX1_wouldReadItself_X1_isIn : GoodIn wsX1_wouldReadItself (va_wsS RX1 149 yX1_isIn wsX1_isIn) := goodIn_app (goodIn_of _ (by decide +kernel)) ggX1_wouldReadItself_X1_isIn
theorem dX1_wouldReadItself_0 : decode cX1_wouldReadItself 0 = .ok (.iconst 0, 1) := by decide +kernel
theorem dX1_wouldReadItself_1 : decode cX1_wouldReadItself 1 = .ok (.istore 4, 2) := by decide +kernel
theorem dX1_wouldReadItself_3 : decode cX1_wouldReadItself 3 = .ok (.iload 4, 2) := by decide +kernel
theorem dX1_wouldReadItself_5 : decode cX1_wouldReadItself 5 = .ok (.bipush 24, 2) := by decide +kernel
theorem dX1_wouldReadItself_7 : decode cX1_wouldReadItself 7 = .ok (.if_icmp .ge 27, 3) := by decide +kernel
theorem dX1_wouldReadItself_10 : decode cX1_wouldReadItself 10 = .ok (.aload_n 0, 1) := by decide +kernel
theorem dX1_wouldReadItself_11 : decode cX1_wouldReadItself 11 = .ok (.getfield 45, 3) := by decide +kernel
theorem dX1_wouldReadItself_14 : decode cX1_wouldReadItself 14 = .ok (.iload 4, 2) := by decide +kernel
theorem dX1_wouldReadItself_16 : decode cX1_wouldReadItself 16 = .ok (.iload 4, 2) := by decide +kernel
theorem dX1_wouldReadItself_18 : decode cX1_wouldReadItself 18 = .ok (.iload_n 1, 1) := by decide +kernel
theorem dX1_wouldReadItself_19 : decode cX1_wouldReadItself 19 = .ok (.if_icmp .ne 7, 3) := by decide +kernel
theorem dX1_wouldReadItself_22 : decode cX1_wouldReadItself 22 = .ok (.iconst 1, 1) := by decide +kernel
theorem dX1_wouldReadItself_23 : decode cX1_wouldReadItself 23 = .ok (.goto 4, 3) := by decide +kernel
theorem dX1_wouldReadItself_26 : decode cX1_wouldReadItself 26 = .ok (.iconst 0, 1) := by decide +kernel
theorem dX1_wouldReadItself_27 : decode cX1_wouldReadItself 27 = .ok (.bastore, 1) := by decide +kernel
theorem dX1_wouldReadItself_28 : decode cX1_wouldReadItself 28 = .ok (.iinc 4 1, 3) := by decide +kernel
theorem dX1_wouldReadItself_31 : decode cX1_wouldReadItself 31 = .ok (.goto (-28), 3) := by decide +kernel
theorem dX1_wouldReadItself_34 : decode cX1_wouldReadItself 34 = .ok (.iconst 0, 1) := by decide +kernel
theorem dX1_wouldReadItself_35 : decode cX1_wouldReadItself 35 = .ok (.istore 4, 2) := by decide +kernel
theorem dX1_wouldReadItself_37 : decode cX1_wouldReadItself 37 = .ok (.iload 4, 2) := by decide +kernel
theorem dX1_wouldReadItself_39 : decode cX1_wouldReadItself 39 = .ok (.bipush 24, 2) := by decide +kernel
theorem dX1_wouldReadItself_41 : decode cX1_wouldReadItself 41 = .ok (.if_icmp .ge 47, 3) := by decide +kernel
theorem dX1_wouldReadItself_44 : decode cX1_wouldReadItself 44 = .ok (.aload_n 0, 1) := by decide +kernel
theorem dX1_wouldReadItself_45 : decode cX1_wouldReadItself 45 = .ok (.getfield 29, 3) := by decide +kernel
theorem dX1_wouldReadItself_48 : decode cX1_wouldReadItself 48 = .ok (.iload 4, 2) := by decide +kernel
theorem dX1_wouldReadItself_50 : decode cX1_wouldReadItself 50 = .ok (.iaload, 1) := by decide +kernel
theorem dX1_wouldReadItself_51 : decode cX1_wouldReadItself 51 = .ok (.istore 5, 2) := by decide +kernel
theorem dX1_wouldReadItself_53 : decode cX1_wouldReadItself 53 = .ok (.iload 5, 2) := by decide +kernel
theorem dX1_wouldReadItself_55 : decode cX1_wouldReadItself 55 = .ok (.invokestatic 55, 3) := by decide +kernel
theorem dX1_wouldReadItself_58 : decode cX1_wouldReadItself 58 = .ok (.ifCond .eq 24, 3) := by decide +kernel
theorem dX1_wouldReadItself_61 : decode cX1_wouldReadItself 61 = .ok (.aload_n 0, 1) := by decide +kernel
theorem dX1_wouldReadItself_62 : decode cX1_wouldReadItself 62 = .ok (.iload 5, 2) := by decide +kernel
theorem dX1_wouldReadItself_64 : decode cX1_wouldReadItself 64 = .ok (.aload_n 0, 1) := by decide +kernel
theorem dX1_wouldReadItself_65 : decode cX1_wouldReadItself 65 = .ok (.getfield 45, 3) := by decide +kernel
theorem dX1_wouldReadItself_68 : decode cX1_wouldReadItself 68 = .ok (.invokevirtual 145, 3) := by decide +kernel
theorem dX1_wouldReadItself_71 : decode cX1_wouldReadItself 71 = .ok (.ifCond .eq 11, 3) := by decide +kernel
theorem dX1_wouldReadItself_74 : decode cX1_wouldReadItself 74 = .ok (.aload_n 0, 1) := by decide +kernel
theorem dX1_wouldReadItself_75 : decode cX1_wouldReadItself 75 = .ok (.getfield 45, 3) := by decide +kernel
theorem dX1_wouldReadItself_78 : decode cX1_wouldReadItself 78 = .ok (.iload 5, 2) := by decide +kernel
theorem dX1_wouldReadItself_80 : decode cX1_wouldReadItself 80 = .ok (.iconst 1, 1) := by decide +kernel
theorem dX1_wouldReadItself_81 : decode cX1_wouldReadItself 81 = .ok (.bastore, 1) := by decide +kernel
theorem dX1_wouldReadItself_82 : decode cX1_wouldReadItself 82 = .ok (.iinc 4 1, 3) := by decide +kernel
theorem dX1_wouldReadItself_85 : decode cX1_wouldReadItself 85 = .ok (.goto (-48), 3) := by decide +kernel
theorem dX1_wouldReadItself_88 : decode cX1_wouldReadItself 88 = .ok (.iload_n 2, 1) := by decide +kernel
theorem dX1_wouldReadItself_89 : decode cX1_wouldReadItself 89 = .ok (.aload_n 0, 1) := by decide +kernel
theorem dX1_wouldReadItself_90 : decode cX1_wouldReadItself 90 = .ok (.getfield 45, 3) := by decide +kernel
theorem dX1_wouldReadItself_93 : decode cX1_wouldReadItself 93 = .ok (.invokestatic 149, 3) := by decide +kernel
theorem dX1_wouldReadItself_96 : decode cX1_wouldReadItself 96 = .ok (.ifCond .ne 14, 3) := by decide +kernel
theorem dX1_wouldReadItself_99 : decode cX1_wouldReadItself 99 = .ok (.iload_n 3, 1) := by decide +kernel
theorem dX1_wouldReadItself_100 : decode cX1_wouldReadItself 100 = .ok (.aload_n 0, 1) := by decide +kernel
theorem dX1_wouldReadItself_101 : decode cX1_wouldReadItself 101 = .ok (.getfield 45, 3) := by decide +kernel
theorem dX1_wouldReadItself_104 : decode cX1_wouldReadItself 104 = .ok (.invokestatic 149, 3) := by decide +kernel
theorem dX1_wouldReadItself_107 : decode cX1_wouldReadItself 107 = .ok (.ifCond .eq 7, 3) := by decide +kernel
theorem dX1_wouldReadItself_110 : decode cX1_wouldReadItself 110 = .ok (.iconst 1, 1) := by decide +kernel
theorem dX1_wouldReadItself_111 : decode cX1_wouldReadItself 111 = .ok (.goto 4, 3) := by decide +kernel
theorem dX1_wouldReadItself_114 : decode cX1_wouldReadItself 114 = .ok (.iconst 0, 1) := by decide +kernel
theorem dX1_wouldReadItself_115 : decode cX1_wouldReadItself 115 = .ok (.ireturn, 1) := by decide +kernel
set_option maxRecDepth 20000 in
theorem ggX1_readsOneOf_X1_isIn : GoodIn wsX1_readsOneOf wsX1_isIn := goodIn_r _ [6] (by decide +kernel) (by decide +kernel)
set_option maxRecDepth 20000 in
theorem gX1_readsOneOf_X1_isIn : GoodIn wsX1_readsOneOf (va_wsS RX1 149 yX1_isIn wsX1_isIn) := goodIn_app (goodIn_of _ (by decide +kernel)) ggX1_readsOneOf_X1_isIn
theorem dX1_readsOneOf_0 : decode cX1_readsOneOf 0 = .ok (.aload_n 0, 1) := by decide +kernel
theorem dX1_readsOneOf_1 : decode cX1_readsOneOf 1 = .ok (.getfield 13, 3) := by decide +kernel
theorem dX1_readsOneOf_4 : decode cX1_readsOneOf 4 = .ok (.iload_n 1, 1) := by decide +kernel
theorem dX1_readsOneOf_5 : decode cX1_readsOneOf 5 = .ok (.iaload, 1) := by decide +kernel
theorem dX1_readsOneOf_6 : decode cX1_readsOneOf 6 = .ok (.aload_n 2, 1) := by decide +kernel
theorem dX1_readsOneOf_7 : decode cX1_readsOneOf 7 = .ok (.invokestatic 149, 3) := by decide +kernel
theorem dX1_readsOneOf_10 : decode cX1_readsOneOf 10 = .ok (.ifCond .ne 16, 3) := by decide +kernel
theorem dX1_readsOneOf_13 : decode cX1_readsOneOf 13 = .ok (.aload_n 0, 1) := by decide +kernel
theorem dX1_readsOneOf_14 : decode cX1_readsOneOf 14 = .ok (.getfield 16, 3) := by decide +kernel
theorem dX1_readsOneOf_17 : decode cX1_readsOneOf 17 = .ok (.iload_n 1, 1) := by decide +kernel
theorem dX1_readsOneOf_18 : decode cX1_readsOneOf 18 = .ok (.iaload, 1) := by decide +kernel
theorem dX1_readsOneOf_19 : decode cX1_readsOneOf 19 = .ok (.aload_n 2, 1) := by decide +kernel
theorem dX1_readsOneOf_20 : decode cX1_readsOneOf 20 = .ok (.invokestatic 149, 3) := by decide +kernel
theorem dX1_readsOneOf_23 : decode cX1_readsOneOf 23 = .ok (.ifCond .eq 7, 3) := by decide +kernel
theorem dX1_readsOneOf_26 : decode cX1_readsOneOf 26 = .ok (.iconst 1, 1) := by decide +kernel
theorem dX1_readsOneOf_27 : decode cX1_readsOneOf 27 = .ok (.goto 4, 3) := by decide +kernel
theorem dX1_readsOneOf_30 : decode cX1_readsOneOf 30 = .ok (.iconst 0, 1) := by decide +kernel
theorem dX1_readsOneOf_31 : decode cX1_readsOneOf 31 = .ok (.ireturn, 1) := by decide +kernel
theorem dX1_isIn_0 : decode cX1_isIn 0 = .ok (.iload_n 0, 1) := by decide +kernel
theorem dX1_isIn_1 : decode cX1_isIn 1 = .ok (.ifCond .lt 19, 3) := by decide +kernel
theorem dX1_isIn_4 : decode cX1_isIn 4 = .ok (.iload_n 0, 1) := by decide +kernel
theorem dX1_isIn_5 : decode cX1_isIn 5 = .ok (.aload_n 1, 1) := by decide +kernel
theorem dX1_isIn_6 : decode cX1_isIn 6 = .ok (.arraylength, 1) := by decide +kernel
theorem dX1_isIn_7 : decode cX1_isIn 7 = .ok (.if_icmp .ge 13, 3) := by decide +kernel
theorem dX1_isIn_10 : decode cX1_isIn 10 = .ok (.aload_n 1, 1) := by decide +kernel
theorem dX1_isIn_11 : decode cX1_isIn 11 = .ok (.iload_n 0, 1) := by decide +kernel
theorem dX1_isIn_12 : decode cX1_isIn 12 = .ok (.baload, 1) := by decide +kernel
theorem dX1_isIn_13 : decode cX1_isIn 13 = .ok (.ifCond .eq 7, 3) := by decide +kernel
theorem dX1_isIn_16 : decode cX1_isIn 16 = .ok (.iconst 1, 1) := by decide +kernel
theorem dX1_isIn_17 : decode cX1_isIn 17 = .ok (.goto 4, 3) := by decide +kernel
theorem dX1_isIn_20 : decode cX1_isIn 20 = .ok (.iconst 0, 1) := by decide +kernel
theorem dX1_isIn_21 : decode cX1_isIn 21 = .ok (.ireturn, 1) := by decide +kernel
set_option maxRecDepth 20000 in
theorem ggX1_giveFormula_X1_putInOrder : GoodIn wsX1_giveFormula wsX1_putInOrder := goodIn_r _ [9, 10, 11, 12, 13, 14, 8, 15, 2, 3, 16, 17, 18, 19, 20, 21, 22, 23, 24, 25, 91, 92, 93, 94, 95, 96, 97, 98, 99, 100, 101, 102] (by decide +kernel) (by decide +kernel)
set_option maxRecDepth 20000 in
theorem gX1_giveFormula_X1_putInOrder : GoodIn wsX1_giveFormula (wsV RX1 152 RX1 yX1_putInOrder wsX1_putInOrder) := goodIn_app (goodIn_of _ (by decide +kernel)) ggX1_giveFormula_X1_putInOrder
set_option maxRecDepth 20000 in
theorem ggX1_giveFormula_X1_forgetChanges : GoodIn wsX1_giveFormula wsX1_forgetChanges := goodIn_r _ [29, 30, 91, 92, 93, 94, 95, 96, 97, 98, 99, 100, 101, 102] (by decide +kernel) (by decide +kernel)
set_option maxRecDepth 20000 in
theorem gX1_giveFormula_X1_forgetChanges : GoodIn wsX1_giveFormula (wsV RX1 91 RX1 yX1_forgetChanges wsX1_forgetChanges) := goodIn_app (goodIn_of _ (by decide +kernel)) ggX1_giveFormula_X1_forgetChanges
set_option maxRecDepth 20000 in
theorem ggX1_giveFormula_X1_compute : GoodIn wsX1_giveFormula wsX1_compute := goodIn_r _ [34, 2, 3, 35, 36, 37, 30, 38, 39, 8, 40, 23, 24, 25, 41, 42, 43, 44, 45, 46, 47, 48, 49, 50, 51, 52, 53, 54, 55, 56, 57, 58, 59, 60, 61, 62, 63, 64, 65, 66, 67, 1, 4, 68, 69, 70, 71, 72, 73, 74, 75, 76, 77, 78, 79, 80, 81, 82, 91, 92, 93, 94, 95, 96, 97, 98, 99, 100, 101, 102, 103, 104, 105, 106, 107, 108, 109, 110] (by decide +kernel) (by decide +kernel)
set_option maxRecDepth 20000 in
theorem gX1_giveFormula_X1_compute : GoodIn wsX1_giveFormula (wsV RX1 155 RX1 yX1_compute wsX1_compute) := goodIn_app (goodIn_of _ (by decide +kernel)) ggX1_giveFormula_X1_compute
set_option maxRecDepth 20000 in
theorem ggX1_giveFormula_X1_goThrough : GoodIn wsX1_giveFormula wsX1_goThrough := goodIn_r _ [86, 11, 30, 35, 23, 24, 8, 25, 87, 88, 89, 90, 2, 3, 20, 21, 22, 31, 32, 33, 34, 36, 37, 38, 39, 40, 41, 42, 43, 44, 45, 46, 47, 48, 49, 50, 51, 52, 53, 54, 55, 56, 57, 58, 59, 60, 61, 62, 63, 64, 65, 66, 67, 1, 4, 68, 69, 70, 71, 72, 73, 74, 75, 76, 77, 78, 79, 80, 81, 82, 91, 92, 93, 94, 95, 96, 97, 98, 99, 100, 101, 102, 103, 104, 105, 106, 107, 108, 109, 110] (by decide +kernel) (by decide +kernel)
set_option maxRecDepth 20000 in
theorem gX1_giveFormula_X1_goThrough : GoodIn wsX1_giveFormula (wsV RX1 94 RX1 yX1_goThrough wsX1_goThrough) := goodIn_app (goodIn_of _ (by decide +kernel)) ggX1_giveFormula_X1_goThrough
theorem dX1_giveFormula_0 : decode cX1_giveFormula 0 = .ok (.aload_n 0, 1) := by decide +kernel
theorem dX1_giveFormula_1 : decode cX1_giveFormula 1 = .ok (.getfield 9, 3) := by decide +kernel
theorem dX1_giveFormula_4 : decode cX1_giveFormula 4 = .ok (.iload_n 2, 1) := by decide +kernel
theorem dX1_giveFormula_5 : decode cX1_giveFormula 5 = .ok (.iload_n 3, 1) := by decide +kernel
theorem dX1_giveFormula_6 : decode cX1_giveFormula 6 = .ok (.iastore, 1) := by decide +kernel
theorem dX1_giveFormula_7 : decode cX1_giveFormula 7 = .ok (.aload_n 0, 1) := by decide +kernel
theorem dX1_giveFormula_8 : decode cX1_giveFormula 8 = .ok (.getfield 13, 3) := by decide +kernel
theorem dX1_giveFormula_11 : decode cX1_giveFormula 11 = .ok (.iload_n 2, 1) := by decide +kernel
theorem dX1_giveFormula_12 : decode cX1_giveFormula 12 = .ok (.iload 4, 2) := by decide +kernel
theorem dX1_giveFormula_14 : decode cX1_giveFormula 14 = .ok (.iastore, 1) := by decide +kernel
theorem dX1_giveFormula_15 : decode cX1_giveFormula 15 = .ok (.aload_n 0, 1) := by decide +kernel
theorem dX1_giveFormula_16 : decode cX1_giveFormula 16 = .ok (.getfield 16, 3) := by decide +kernel
theorem dX1_giveFormula_19 : decode cX1_giveFormula 19 = .ok (.iload_n 2, 1) := by decide +kernel
theorem dX1_giveFormula_20 : decode cX1_giveFormula 20 = .ok (.iload 5, 2) := by decide +kernel
theorem dX1_giveFormula_22 : decode cX1_giveFormula 22 = .ok (.iastore, 1) := by decide +kernel
theorem dX1_giveFormula_23 : decode cX1_giveFormula 23 = .ok (.aload_n 0, 1) := by decide +kernel
theorem dX1_giveFormula_24 : decode cX1_giveFormula 24 = .ok (.getfield 19, 3) := by decide +kernel
theorem dX1_giveFormula_27 : decode cX1_giveFormula 27 = .ok (.iload_n 2, 1) := by decide +kernel
theorem dX1_giveFormula_28 : decode cX1_giveFormula 28 = .ok (.iload 6, 2) := by decide +kernel
theorem dX1_giveFormula_30 : decode cX1_giveFormula 30 = .ok (.iastore, 1) := by decide +kernel
theorem dX1_giveFormula_31 : decode cX1_giveFormula 31 = .ok (.aload_n 0, 1) := by decide +kernel
theorem dX1_giveFormula_32 : decode cX1_giveFormula 32 = .ok (.invokevirtual 152, 3) := by decide +kernel
theorem dX1_giveFormula_35 : decode cX1_giveFormula 35 = .ok (.aload_n 0, 1) := by decide +kernel
theorem dX1_giveFormula_36 : decode cX1_giveFormula 36 = .ok (.invokevirtual 91, 3) := by decide +kernel
theorem dX1_giveFormula_39 : decode cX1_giveFormula 39 = .ok (.aload_n 0, 1) := by decide +kernel
theorem dX1_giveFormula_40 : decode cX1_giveFormula 40 = .ok (.iload_n 1, 1) := by decide +kernel
theorem dX1_giveFormula_41 : decode cX1_giveFormula 41 = .ok (.iload_n 2, 1) := by decide +kernel
theorem dX1_giveFormula_42 : decode cX1_giveFormula 42 = .ok (.invokevirtual 155, 3) := by decide +kernel
theorem dX1_giveFormula_45 : decode cX1_giveFormula 45 = .ok (.iconst 1, 1) := by decide +kernel
theorem dX1_giveFormula_46 : decode cX1_giveFormula 46 = .ok (.aload_n 0, 1) := by decide +kernel
theorem dX1_giveFormula_47 : decode cX1_giveFormula 47 = .ok (.iload_n 1, 1) := by decide +kernel
theorem dX1_giveFormula_48 : decode cX1_giveFormula 48 = .ok (.iconst 0, 1) := by decide +kernel
theorem dX1_giveFormula_49 : decode cX1_giveFormula 49 = .ok (.invokevirtual 94, 3) := by decide +kernel
theorem dX1_giveFormula_52 : decode cX1_giveFormula 52 = .ok (.iadd, 1) := by decide +kernel
theorem dX1_giveFormula_53 : decode cX1_giveFormula 53 = .ok (.ireturn, 1) := by decide +kernel
set_option maxRecDepth 20000 in
theorem ggX1_putInOrder_X1_lowestFreeCell : GoodIn wsX1_putInOrder wsX1_lowestFreeCell := goodIn_r _ [7, 1, 8, 9, 10, 11, 12, 6, 13, 14, 15, 16, 20, 21, 22, 23, 24, 25, 26, 27, 28, 29, 30, 31] (by decide +kernel) (by decide +kernel)
set_option maxRecDepth 20000 in
theorem gX1_putInOrder_X1_lowestFreeCell : GoodIn wsX1_putInOrder (wsV RX1 159 RX1 yX1_lowestFreeCell wsX1_lowestFreeCell) := goodIn_app (goodIn_of _ (by decide +kernel)) ggX1_putInOrder_X1_lowestFreeCell
set_option maxRecDepth 20000 in
theorem ggX1_putInOrder_X1_isCell : GoodIn wsX1_putInOrder wsX1_isCell := goodIn_r _ [19] (by decide +kernel) (by decide +kernel)
set_option maxRecDepth 20000 in
theorem gX1_putInOrder_X1_isCell : GoodIn wsX1_putInOrder (va_wsS RX1 55 yX1_isCell wsX1_isCell) := goodIn_app (goodIn_of _ (by decide +kernel)) ggX1_putInOrder_X1_isCell
theorem dX1_putInOrder_0 : decode cX1_putInOrder 0 = .ok (.iconst 0, 1) := by decide +kernel
theorem dX1_putInOrder_1 : decode cX1_putInOrder 1 = .ok (.istore_n 1, 1) := by decide +kernel
theorem dX1_putInOrder_2 : decode cX1_putInOrder 2 = .ok (.iload_n 1, 1) := by decide +kernel
theorem dX1_putInOrder_3 : decode cX1_putInOrder 3 = .ok (.bipush 24, 2) := by decide +kernel
theorem dX1_putInOrder_5 : decode cX1_putInOrder 5 = .ok (.if_icmp .ge 16, 3) := by decide +kernel
theorem dX1_putInOrder_8 : decode cX1_putInOrder 8 = .ok (.aload_n 0, 1) := by decide +kernel
theorem dX1_putInOrder_9 : decode cX1_putInOrder 9 = .ok (.getfield 42, 3) := by decide +kernel
theorem dX1_putInOrder_12 : decode cX1_putInOrder 12 = .ok (.iload_n 1, 1) := by decide +kernel
theorem dX1_putInOrder_13 : decode cX1_putInOrder 13 = .ok (.iconst 0, 1) := by decide +kernel
theorem dX1_putInOrder_14 : decode cX1_putInOrder 14 = .ok (.bastore, 1) := by decide +kernel
theorem dX1_putInOrder_15 : decode cX1_putInOrder 15 = .ok (.iinc 1 1, 3) := by decide +kernel
theorem dX1_putInOrder_18 : decode cX1_putInOrder 18 = .ok (.goto (-16), 3) := by decide +kernel
theorem dX1_putInOrder_21 : decode cX1_putInOrder 21 = .ok (.iconst 0, 1) := by decide +kernel
theorem dX1_putInOrder_22 : decode cX1_putInOrder 22 = .ok (.istore_n 1, 1) := by decide +kernel
theorem dX1_putInOrder_23 : decode cX1_putInOrder 23 = .ok (.iload_n 1, 1) := by decide +kernel
theorem dX1_putInOrder_24 : decode cX1_putInOrder 24 = .ok (.bipush 24, 2) := by decide +kernel
theorem dX1_putInOrder_26 : decode cX1_putInOrder 26 = .ok (.if_icmp .ge 35, 3) := by decide +kernel
theorem dX1_putInOrder_29 : decode cX1_putInOrder 29 = .ok (.aload_n 0, 1) := by decide +kernel
theorem dX1_putInOrder_30 : decode cX1_putInOrder 30 = .ok (.invokevirtual 159, 3) := by decide +kernel
theorem dX1_putInOrder_33 : decode cX1_putInOrder 33 = .ok (.istore_n 2, 1) := by decide +kernel
theorem dX1_putInOrder_34 : decode cX1_putInOrder 34 = .ok (.aload_n 0, 1) := by decide +kernel
theorem dX1_putInOrder_35 : decode cX1_putInOrder 35 = .ok (.getfield 29, 3) := by decide +kernel
theorem dX1_putInOrder_38 : decode cX1_putInOrder 38 = .ok (.iload_n 1, 1) := by decide +kernel
theorem dX1_putInOrder_39 : decode cX1_putInOrder 39 = .ok (.iload_n 2, 1) := by decide +kernel
theorem dX1_putInOrder_40 : decode cX1_putInOrder 40 = .ok (.iastore, 1) := by decide +kernel
theorem dX1_putInOrder_41 : decode cX1_putInOrder 41 = .ok (.iload_n 2, 1) := by decide +kernel
theorem dX1_putInOrder_42 : decode cX1_putInOrder 42 = .ok (.invokestatic 55, 3) := by decide +kernel
theorem dX1_putInOrder_45 : decode cX1_putInOrder 45 = .ok (.ifCond .eq 10, 3) := by decide +kernel
theorem dX1_putInOrder_48 : decode cX1_putInOrder 48 = .ok (.aload_n 0, 1) := by decide +kernel
theorem dX1_putInOrder_49 : decode cX1_putInOrder 49 = .ok (.getfield 42, 3) := by decide +kernel
theorem dX1_putInOrder_52 : decode cX1_putInOrder 52 = .ok (.iload_n 2, 1) := by decide +kernel
theorem dX1_putInOrder_53 : decode cX1_putInOrder 53 = .ok (.iconst 1, 1) := by decide +kernel
theorem dX1_putInOrder_54 : decode cX1_putInOrder 54 = .ok (.bastore, 1) := by decide +kernel
theorem dX1_putInOrder_55 : decode cX1_putInOrder 55 = .ok (.iinc 1 1, 3) := by decide +kernel
theorem dX1_putInOrder_58 : decode cX1_putInOrder 58 = .ok (.goto (-35), 3) := by decide +kernel
theorem dX1_putInOrder_61 : decode cX1_putInOrder 61 = .ok (.return_, 1) := by decide +kernel
set_option maxRecDepth 20000 in
theorem ggX1_lowestFreeCell_X1_isReady : GoodIn wsX1_lowestFreeCell wsX1_isReady := goodIn_r _ [8, 1, 9, 10, 7, 11, 12, 13, 14, 15, 16, 17, 18, 19, 20, 21, 22, 23] (by decide +kernel) (by decide +kernel)
set_option maxRecDepth 20000 in
theorem gX1_lowestFreeCell_X1_isReady : GoodIn wsX1_lowestFreeCell (wsV RX1 163 RX1 yX1_isReady wsX1_isReady) := goodIn_app (goodIn_of _ (by decide +kernel)) ggX1_lowestFreeCell_X1_isReady
theorem dX1_lowestFreeCell_0 : decode cX1_lowestFreeCell 0 = .ok (.iconst 0, 1) := by decide +kernel
theorem dX1_lowestFreeCell_1 : decode cX1_lowestFreeCell 1 = .ok (.istore_n 1, 1) := by decide +kernel
theorem dX1_lowestFreeCell_2 : decode cX1_lowestFreeCell 2 = .ok (.iload_n 1, 1) := by decide +kernel
theorem dX1_lowestFreeCell_3 : decode cX1_lowestFreeCell 3 = .ok (.bipush 24, 2) := by decide +kernel
theorem dX1_lowestFreeCell_5 : decode cX1_lowestFreeCell 5 = .ok (.if_icmp .ge 46, 3) := by decide +kernel
theorem dX1_lowestFreeCell_8 : decode cX1_lowestFreeCell 8 = .ok (.aload_n 0, 1) := by decide +kernel
theorem dX1_lowestFreeCell_9 : decode cX1_lowestFreeCell 9 = .ok (.getfield 42, 3) := by decide +kernel
theorem dX1_lowestFreeCell_12 : decode cX1_lowestFreeCell 12 = .ok (.iload_n 1, 1) := by decide +kernel
theorem dX1_lowestFreeCell_13 : decode cX1_lowestFreeCell 13 = .ok (.baload, 1) := by decide +kernel
theorem dX1_lowestFreeCell_14 : decode cX1_lowestFreeCell 14 = .ok (.ifCond .ne 31, 3) := by decide +kernel
theorem dX1_lowestFreeCell_17 : decode cX1_lowestFreeCell 17 = .ok (.aload_n 0, 1) := by decide +kernel
theorem dX1_lowestFreeCell_18 : decode cX1_lowestFreeCell 18 = .ok (.aload_n 0, 1) := by decide +kernel
theorem dX1_lowestFreeCell_19 : decode cX1_lowestFreeCell 19 = .ok (.getfield 13, 3) := by decide +kernel
theorem dX1_lowestFreeCell_22 : decode cX1_lowestFreeCell 22 = .ok (.iload_n 1, 1) := by decide +kernel
theorem dX1_lowestFreeCell_23 : decode cX1_lowestFreeCell 23 = .ok (.iaload, 1) := by decide +kernel
theorem dX1_lowestFreeCell_24 : decode cX1_lowestFreeCell 24 = .ok (.invokevirtual 163, 3) := by decide +kernel
theorem dX1_lowestFreeCell_27 : decode cX1_lowestFreeCell 27 = .ok (.ifCond .eq 18, 3) := by decide +kernel
theorem dX1_lowestFreeCell_30 : decode cX1_lowestFreeCell 30 = .ok (.aload_n 0, 1) := by decide +kernel
theorem dX1_lowestFreeCell_31 : decode cX1_lowestFreeCell 31 = .ok (.aload_n 0, 1) := by decide +kernel
theorem dX1_lowestFreeCell_32 : decode cX1_lowestFreeCell 32 = .ok (.getfield 16, 3) := by decide +kernel
theorem dX1_lowestFreeCell_35 : decode cX1_lowestFreeCell 35 = .ok (.iload_n 1, 1) := by decide +kernel
theorem dX1_lowestFreeCell_36 : decode cX1_lowestFreeCell 36 = .ok (.iaload, 1) := by decide +kernel
theorem dX1_lowestFreeCell_37 : decode cX1_lowestFreeCell 37 = .ok (.invokevirtual 163, 3) := by decide +kernel
theorem dX1_lowestFreeCell_40 : decode cX1_lowestFreeCell 40 = .ok (.ifCond .eq 5, 3) := by decide +kernel
theorem dX1_lowestFreeCell_43 : decode cX1_lowestFreeCell 43 = .ok (.iload_n 1, 1) := by decide +kernel
theorem dX1_lowestFreeCell_44 : decode cX1_lowestFreeCell 44 = .ok (.ireturn, 1) := by decide +kernel
theorem dX1_lowestFreeCell_45 : decode cX1_lowestFreeCell 45 = .ok (.iinc 1 1, 3) := by decide +kernel
theorem dX1_lowestFreeCell_48 : decode cX1_lowestFreeCell 48 = .ok (.goto (-46), 3) := by decide +kernel
theorem dX1_lowestFreeCell_51 : decode cX1_lowestFreeCell 51 = .ok (.iconst (-1), 1) := by decide +kernel
theorem dX1_lowestFreeCell_52 : decode cX1_lowestFreeCell 52 = .ok (.ireturn, 1) := by decide +kernel
set_option maxRecDepth 20000 in
theorem ggX1_isReady_X1_isIn : GoodIn wsX1_isReady wsX1_isIn := goodIn_r _ [5] (by decide +kernel) (by decide +kernel)
set_option maxRecDepth 20000 in
theorem gX1_isReady_X1_isIn : GoodIn wsX1_isReady (va_wsS RX1 149 yX1_isIn wsX1_isIn) := goodIn_app (goodIn_of _ (by decide +kernel)) ggX1_isReady_X1_isIn
theorem dX1_isReady_0 : decode cX1_isReady 0 = .ok (.iload_n 1, 1) := by decide +kernel
theorem dX1_isReady_1 : decode cX1_isReady 1 = .ok (.iconst (-1), 1) := by decide +kernel
theorem dX1_isReady_2 : decode cX1_isReady 2 = .ok (.if_icmp .eq 14, 3) := by decide +kernel
theorem dX1_isReady_5 : decode cX1_isReady 5 = .ok (.iload_n 1, 1) := by decide +kernel
theorem dX1_isReady_6 : decode cX1_isReady 6 = .ok (.aload_n 0, 1) := by decide +kernel
theorem dX1_isReady_7 : decode cX1_isReady 7 = .ok (.getfield 42, 3) := by decide +kernel
theorem dX1_isReady_10 : decode cX1_isReady 10 = .ok (.invokestatic 149, 3) := by decide +kernel
theorem dX1_isReady_13 : decode cX1_isReady 13 = .ok (.ifCond .eq 7, 3) := by decide +kernel
theorem dX1_isReady_16 : decode cX1_isReady 16 = .ok (.iconst 1, 1) := by decide +kernel
theorem dX1_isReady_17 : decode cX1_isReady 17 = .ok (.goto 4, 3) := by decide +kernel
theorem dX1_isReady_20 : decode cX1_isReady 20 = .ok (.iconst 0, 1) := by decide +kernel
theorem dX1_isReady_21 : decode cX1_isReady 21 = .ok (.ireturn, 1) := by decide +kernel
theorem dX1_forgetChanges_0 : decode cX1_forgetChanges 0 = .ok (.iconst 0, 1) := by decide +kernel
theorem dX1_forgetChanges_1 : decode cX1_forgetChanges 1 = .ok (.istore_n 1, 1) := by decide +kernel
theorem dX1_forgetChanges_2 : decode cX1_forgetChanges 2 = .ok (.iload_n 1, 1) := by decide +kernel
theorem dX1_forgetChanges_3 : decode cX1_forgetChanges 3 = .ok (.bipush 24, 2) := by decide +kernel
theorem dX1_forgetChanges_5 : decode cX1_forgetChanges 5 = .ok (.if_icmp .ge 16, 3) := by decide +kernel
theorem dX1_forgetChanges_8 : decode cX1_forgetChanges 8 = .ok (.aload_n 0, 1) := by decide +kernel
theorem dX1_forgetChanges_9 : decode cX1_forgetChanges 9 = .ok (.getfield 39, 3) := by decide +kernel
theorem dX1_forgetChanges_12 : decode cX1_forgetChanges 12 = .ok (.iload_n 1, 1) := by decide +kernel
theorem dX1_forgetChanges_13 : decode cX1_forgetChanges 13 = .ok (.iconst 0, 1) := by decide +kernel
theorem dX1_forgetChanges_14 : decode cX1_forgetChanges 14 = .ok (.bastore, 1) := by decide +kernel
theorem dX1_forgetChanges_15 : decode cX1_forgetChanges 15 = .ok (.iinc 1 1, 3) := by decide +kernel
theorem dX1_forgetChanges_18 : decode cX1_forgetChanges 18 = .ok (.goto (-16), 3) := by decide +kernel
theorem dX1_forgetChanges_21 : decode cX1_forgetChanges 21 = .ok (.return_, 1) := by decide +kernel
set_option maxRecDepth 20000 in
theorem ggX1_goThrough_X1_isCell : GoodIn wsX1_goThrough wsX1_isCell := goodIn_r _ [7] (by decide +kernel) (by decide +kernel)
set_option maxRecDepth 20000 in
theorem gX1_goThrough_X1_isCell : GoodIn wsX1_goThrough (va_wsS RX1 55 yX1_isCell wsX1_isCell) := goodIn_app (goodIn_of _ (by decide +kernel)) ggX1_goThrough_X1_isCell
set_option maxRecDepth 20000 in
theorem ggX1_goThrough_X1_readsOneOf : GoodIn wsX1_goThrough wsX1_readsOneOf := goodIn_r _ [11, 12, 13, 14, 15, 6, 16, 70, 71, 72, 73, 74, 75, 76, 77, 78, 79, 80, 81] (by decide +kernel) (by decide +kernel)
set_option maxRecDepth 20000 in
theorem gX1_goThrough_X1_readsOneOf : GoodIn wsX1_goThrough (wsV RX1 145 RX1 yX1_readsOneOf wsX1_readsOneOf) := goodIn_app (goodIn_of _ (by decide +kernel)) ggX1_goThrough_X1_readsOneOf
set_option maxRecDepth 20000 in
theorem ggX1_goThrough_X1_compute : GoodIn wsX1_goThrough wsX1_compute := goodIn_r _ [20, 12, 13, 3, 21, 22, 2, 23, 24, 6, 25, 4, 5, 7, 26, 27, 28, 29, 30, 31, 32, 33, 34, 35, 36, 37, 38, 39, 40, 41, 42, 43, 44, 45, 46, 47, 48, 49, 50, 51, 52, 53, 54, 55, 56, 57, 58, 59, 60, 61, 62, 63, 64, 65, 66, 67, 68, 69, 70, 71, 72, 73, 74, 75, 76, 77, 78, 79, 80, 81, 82, 83, 84, 85, 86, 87, 88, 89] (by decide +kernel) (by decide +kernel)
set_option maxRecDepth 20000 in
theorem gX1_goThrough_X1_compute : GoodIn wsX1_goThrough (wsV RX1 155 RX1 yX1_compute wsX1_compute) := goodIn_app (goodIn_of _ (by decide +kernel)) ggX1_goThrough_X1_compute
theorem dX1_goThrough_0 : decode cX1_goThrough 0 = .ok (.iconst 0, 1) := by decide +kernel
theorem dX1_goThrough_1 : decode cX1_goThrough 1 = .ok (.istore_n 3, 1) := by decide +kernel
theorem dX1_goThrough_2 : decode cX1_goThrough 2 = .ok (.iconst 0, 1) := by decide +kernel
theorem dX1_goThrough_3 : decode cX1_goThrough 3 = .ok (.istore 4, 2) := by decide +kernel
theorem dX1_goThrough_5 : decode cX1_goThrough 5 = .ok (.iload 4, 2) := by decide +kernel
theorem dX1_goThrough_7 : decode cX1_goThrough 7 = .ok (.bipush 24, 2) := by decide +kernel
theorem dX1_goThrough_9 : decode cX1_goThrough 9 = .ok (.if_icmp .ge 63, 3) := by decide +kernel
theorem dX1_goThrough_12 : decode cX1_goThrough 12 = .ok (.aload_n 0, 1) := by decide +kernel
theorem dX1_goThrough_13 : decode cX1_goThrough 13 = .ok (.getfield 29, 3) := by decide +kernel
theorem dX1_goThrough_16 : decode cX1_goThrough 16 = .ok (.iload 4, 2) := by decide +kernel
theorem dX1_goThrough_18 : decode cX1_goThrough 18 = .ok (.iaload, 1) := by decide +kernel
theorem dX1_goThrough_19 : decode cX1_goThrough 19 = .ok (.istore 5, 2) := by decide +kernel
theorem dX1_goThrough_21 : decode cX1_goThrough 21 = .ok (.iload 5, 2) := by decide +kernel
theorem dX1_goThrough_23 : decode cX1_goThrough 23 = .ok (.invokestatic 55, 3) := by decide +kernel
theorem dX1_goThrough_26 : decode cX1_goThrough 26 = .ok (.ifCond .eq 40, 3) := by decide +kernel
theorem dX1_goThrough_29 : decode cX1_goThrough 29 = .ok (.aload_n 0, 1) := by decide +kernel
theorem dX1_goThrough_30 : decode cX1_goThrough 30 = .ok (.iload 5, 2) := by decide +kernel
theorem dX1_goThrough_32 : decode cX1_goThrough 32 = .ok (.aload_n 0, 1) := by decide +kernel
theorem dX1_goThrough_33 : decode cX1_goThrough 33 = .ok (.getfield 39, 3) := by decide +kernel
theorem dX1_goThrough_36 : decode cX1_goThrough 36 = .ok (.invokevirtual 145, 3) := by decide +kernel
theorem dX1_goThrough_39 : decode cX1_goThrough 39 = .ok (.ifCond .ne 17, 3) := by decide +kernel
theorem dX1_goThrough_42 : decode cX1_goThrough 42 = .ok (.iload_n 2, 1) := by decide +kernel
theorem dX1_goThrough_43 : decode cX1_goThrough 43 = .ok (.ifCond .eq 23, 3) := by decide +kernel
theorem dX1_goThrough_46 : decode cX1_goThrough 46 = .ok (.aload_n 0, 1) := by decide +kernel
theorem dX1_goThrough_47 : decode cX1_goThrough 47 = .ok (.getfield 25, 3) := by decide +kernel
theorem dX1_goThrough_50 : decode cX1_goThrough 50 = .ok (.iload 5, 2) := by decide +kernel
theorem dX1_goThrough_52 : decode cX1_goThrough 52 = .ok (.baload, 1) := by decide +kernel
theorem dX1_goThrough_53 : decode cX1_goThrough 53 = .ok (.ifCond .eq 13, 3) := by decide +kernel
theorem dX1_goThrough_56 : decode cX1_goThrough 56 = .ok (.aload_n 0, 1) := by decide +kernel
theorem dX1_goThrough_57 : decode cX1_goThrough 57 = .ok (.iload_n 1, 1) := by decide +kernel
theorem dX1_goThrough_58 : decode cX1_goThrough 58 = .ok (.iload 5, 2) := by decide +kernel
theorem dX1_goThrough_60 : decode cX1_goThrough 60 = .ok (.invokevirtual 155, 3) := by decide +kernel
theorem dX1_goThrough_63 : decode cX1_goThrough 63 = .ok (.iinc 3 1, 3) := by decide +kernel
theorem dX1_goThrough_66 : decode cX1_goThrough 66 = .ok (.iinc 4 1, 3) := by decide +kernel
theorem dX1_goThrough_69 : decode cX1_goThrough 69 = .ok (.goto (-64), 3) := by decide +kernel
theorem dX1_goThrough_72 : decode cX1_goThrough 72 = .ok (.iload_n 3, 1) := by decide +kernel
theorem dX1_goThrough_73 : decode cX1_goThrough 73 = .ok (.ireturn, 1) := by decide +kernel
set_option maxRecDepth 20000 in
theorem ggX1_compute_X1_meteredRead : GoodIn wsX1_compute wsX1_meteredRead := goodIn_r _ [10, 11, 12, 9, 13, 14, 15, 16] (by decide +kernel) (by decide +kernel)
set_option maxRecDepth 20000 in
theorem gX1_compute_X1_meteredRead : GoodIn wsX1_compute (va_wsS RX1 166 yX1_meteredRead wsX1_meteredRead) := goodIn_app (goodIn_of _ (by decide +kernel)) ggX1_compute_X1_meteredRead
set_option maxRecDepth 20000 in
theorem ggX1_compute_X0_paysFor : GoodIn wsX1_compute wsX0_paysFor := goodIn_r _ [20, 21, 15, 9, 16, 22, 23, 24, 18, 25, 26, 12, 13, 27, 28, 29, 30, 31, 32, 33, 34, 35, 36, 70, 71, 72, 73, 74, 75, 76, 77] (by decide +kernel) (by decide +kernel)
set_option maxRecDepth 20000 in
theorem gX1_compute_X0_paysFor_n170 : GoodIn wsX1_compute (wsX0_paysFor) := ggX1_compute_X0_paysFor
set_option maxRecDepth 20000 in
theorem ggX1_compute_X1_resultOf : GoodIn wsX1_compute wsX1_resultOf := goodIn_r _ [40, 1, 2, 41, 42, 43, 44, 45, 46, 47, 48, 9, 49, 50, 51, 52, 53, 54, 55, 56, 57, 58, 59, 60, 61, 62, 63, 64, 65, 66, 67, 68, 69] (by decide +kernel) (by decide +kernel)
set_option maxRecDepth 20000 in
theorem gX1_compute_X1_resultOf : GoodIn wsX1_compute (wsV RX1 121 RX1 yX1_resultOf wsX1_resultOf) := goodIn_app (goodIn_of _ (by decide +kernel)) ggX1_compute_X1_resultOf
theorem dX1_compute_0 : decode cX1_compute 0 = .ok (.iload_n 2, 1) := by decide +kernel
theorem dX1_compute_1 : decode cX1_compute 1 = .ok (.aload_n 0, 1) := by decide +kernel
theorem dX1_compute_2 : decode cX1_compute 2 = .ok (.getfield 13, 3) := by decide +kernel
theorem dX1_compute_5 : decode cX1_compute 5 = .ok (.iload_n 2, 1) := by decide +kernel
theorem dX1_compute_6 : decode cX1_compute 6 = .ok (.iaload, 1) := by decide +kernel
theorem dX1_compute_7 : decode cX1_compute 7 = .ok (.invokestatic 166, 3) := by decide +kernel
theorem dX1_compute_10 : decode cX1_compute 10 = .ok (.istore_n 3, 1) := by decide +kernel
theorem dX1_compute_11 : decode cX1_compute 11 = .ok (.aload_n 0, 1) := by decide +kernel
theorem dX1_compute_12 : decode cX1_compute 12 = .ok (.getfield 16, 3) := by decide +kernel
theorem dX1_compute_15 : decode cX1_compute 15 = .ok (.iload_n 2, 1) := by decide +kernel
theorem dX1_compute_16 : decode cX1_compute 16 = .ok (.iaload, 1) := by decide +kernel
theorem dX1_compute_17 : decode cX1_compute 17 = .ok (.aload_n 0, 1) := by decide +kernel
theorem dX1_compute_18 : decode cX1_compute 18 = .ok (.getfield 13, 3) := by decide +kernel
theorem dX1_compute_21 : decode cX1_compute 21 = .ok (.iload_n 2, 1) := by decide +kernel
theorem dX1_compute_22 : decode cX1_compute 22 = .ok (.iaload, 1) := by decide +kernel
theorem dX1_compute_23 : decode cX1_compute 23 = .ok (.if_icmp .ne 7, 3) := by decide +kernel
theorem dX1_compute_26 : decode cX1_compute 26 = .ok (.iconst (-1), 1) := by decide +kernel
theorem dX1_compute_27 : decode cX1_compute 27 = .ok (.goto 13, 3) := by decide +kernel
theorem dX1_compute_30 : decode cX1_compute 30 = .ok (.iload_n 2, 1) := by decide +kernel
theorem dX1_compute_31 : decode cX1_compute 31 = .ok (.aload_n 0, 1) := by decide +kernel
theorem dX1_compute_32 : decode cX1_compute 32 = .ok (.getfield 16, 3) := by decide +kernel
theorem dX1_compute_35 : decode cX1_compute 35 = .ok (.iload_n 2, 1) := by decide +kernel
theorem dX1_compute_36 : decode cX1_compute 36 = .ok (.iaload, 1) := by decide +kernel
theorem dX1_compute_37 : decode cX1_compute 37 = .ok (.invokestatic 166, 3) := by decide +kernel
theorem dX1_compute_40 : decode cX1_compute 40 = .ok (.istore 4, 2) := by decide +kernel
theorem dX1_compute_42 : decode cX1_compute 42 = .ok (.aload_n 0, 1) := by decide +kernel
theorem dX1_compute_43 : decode cX1_compute 43 = .ok (.getfield 25, 3) := by decide +kernel
theorem dX1_compute_46 : decode cX1_compute 46 = .ok (.iload_n 2, 1) := by decide +kernel
theorem dX1_compute_47 : decode cX1_compute 47 = .ok (.aload_n 0, 1) := by decide +kernel
theorem dX1_compute_48 : decode cX1_compute 48 = .ok (.getfield 35, 3) := by decide +kernel
theorem dX1_compute_51 : decode cX1_compute 51 = .ok (.iload_n 1, 1) := by decide +kernel
theorem dX1_compute_52 : decode cX1_compute 52 = .ok (.iload_n 2, 1) := by decide +kernel
theorem dX1_compute_53 : decode cX1_compute 53 = .ok (.iload_n 3, 1) := by decide +kernel
theorem dX1_compute_54 : decode cX1_compute 54 = .ok (.iload 4, 2) := by decide +kernel
theorem dX1_compute_56 : decode cX1_compute 56 = .ok (.invokevirtual 170, 3) := by decide +kernel
theorem dX1_compute_59 : decode cX1_compute 59 = .ok (.ifCond .ne 7, 3) := by decide +kernel
theorem dX1_compute_62 : decode cX1_compute 62 = .ok (.iconst 1, 1) := by decide +kernel
theorem dX1_compute_63 : decode cX1_compute 63 = .ok (.goto 4, 3) := by decide +kernel
theorem dX1_compute_66 : decode cX1_compute 66 = .ok (.iconst 0, 1) := by decide +kernel
theorem dX1_compute_67 : decode cX1_compute 67 = .ok (.bastore, 1) := by decide +kernel
theorem dX1_compute_68 : decode cX1_compute 68 = .ok (.aload_n 0, 1) := by decide +kernel
theorem dX1_compute_69 : decode cX1_compute 69 = .ok (.getfield 25, 3) := by decide +kernel
theorem dX1_compute_72 : decode cX1_compute 72 = .ok (.iload_n 2, 1) := by decide +kernel
theorem dX1_compute_73 : decode cX1_compute 73 = .ok (.baload, 1) := by decide +kernel
theorem dX1_compute_74 : decode cX1_compute 74 = .ok (.ifCond .ne 44, 3) := by decide +kernel
theorem dX1_compute_77 : decode cX1_compute 77 = .ok (.aload_n 0, 1) := by decide +kernel
theorem dX1_compute_78 : decode cX1_compute 78 = .ok (.iload_n 2, 1) := by decide +kernel
theorem dX1_compute_79 : decode cX1_compute 79 = .ok (.aload_n 0, 1) := by decide +kernel
theorem dX1_compute_80 : decode cX1_compute 80 = .ok (.getfield 22, 3) := by decide +kernel
theorem dX1_compute_83 : decode cX1_compute 83 = .ok (.invokevirtual 121, 3) := by decide +kernel
theorem dX1_compute_86 : decode cX1_compute 86 = .ok (.istore 5, 2) := by decide +kernel
theorem dX1_compute_88 : decode cX1_compute 88 = .ok (.aload_n 0, 1) := by decide +kernel
theorem dX1_compute_89 : decode cX1_compute 89 = .ok (.getfield 39, 3) := by decide +kernel
theorem dX1_compute_92 : decode cX1_compute 92 = .ok (.iload_n 2, 1) := by decide +kernel
theorem dX1_compute_93 : decode cX1_compute 93 = .ok (.iload 5, 2) := by decide +kernel
theorem dX1_compute_95 : decode cX1_compute 95 = .ok (.aload_n 0, 1) := by decide +kernel
theorem dX1_compute_96 : decode cX1_compute 96 = .ok (.getfield 22, 3) := by decide +kernel
theorem dX1_compute_99 : decode cX1_compute 99 = .ok (.iload_n 2, 1) := by decide +kernel
theorem dX1_compute_100 : decode cX1_compute 100 = .ok (.iaload, 1) := by decide +kernel
theorem dX1_compute_101 : decode cX1_compute 101 = .ok (.if_icmp .eq 7, 3) := by decide +kernel
theorem dX1_compute_104 : decode cX1_compute 104 = .ok (.iconst 1, 1) := by decide +kernel
theorem dX1_compute_105 : decode cX1_compute 105 = .ok (.goto 4, 3) := by decide +kernel
theorem dX1_compute_108 : decode cX1_compute 108 = .ok (.iconst 0, 1) := by decide +kernel
theorem dX1_compute_109 : decode cX1_compute 109 = .ok (.bastore, 1) := by decide +kernel
theorem dX1_compute_110 : decode cX1_compute 110 = .ok (.aload_n 0, 1) := by decide +kernel
theorem dX1_compute_111 : decode cX1_compute 111 = .ok (.getfield 22, 3) := by decide +kernel
theorem dX1_compute_114 : decode cX1_compute 114 = .ok (.iload_n 2, 1) := by decide +kernel
theorem dX1_compute_115 : decode cX1_compute 115 = .ok (.iload 5, 2) := by decide +kernel
theorem dX1_compute_117 : decode cX1_compute 117 = .ok (.iastore, 1) := by decide +kernel
theorem dX1_compute_118 : decode cX1_compute 118 = .ok (.return_, 1) := by decide +kernel
set_option maxRecDepth 20000 in
theorem ggX1_meteredRead_X1_isCell : GoodIn wsX1_meteredRead wsX1_isCell := goodIn_r _ [4] (by decide +kernel) (by decide +kernel)
set_option maxRecDepth 20000 in
theorem gX1_meteredRead_X1_isCell : GoodIn wsX1_meteredRead (va_wsS RX1 55 yX1_isCell wsX1_isCell) := goodIn_app (goodIn_of _ (by decide +kernel)) ggX1_meteredRead_X1_isCell
set_option maxRecDepth 20000 in
theorem ggX1_meteredRead_X1_sheetOf : GoodIn wsX1_meteredRead wsX1_sheetOf := goodIn_r _ [7] (by decide +kernel) (by decide +kernel)
set_option maxRecDepth 20000 in
theorem gX1_meteredRead_X1_sheetOf : GoodIn wsX1_meteredRead (va_wsS RX1 174 yX1_sheetOf wsX1_sheetOf) := goodIn_app (goodIn_of _ (by decide +kernel)) ggX1_meteredRead_X1_sheetOf
theorem dX1_meteredRead_0 : decode cX1_meteredRead 0 = .ok (.iload_n 1, 1) := by decide +kernel
theorem dX1_meteredRead_1 : decode cX1_meteredRead 1 = .ok (.invokestatic 55, 3) := by decide +kernel
theorem dX1_meteredRead_4 : decode cX1_meteredRead 4 = .ok (.ifCond .eq 18, 3) := by decide +kernel
theorem dX1_meteredRead_7 : decode cX1_meteredRead 7 = .ok (.iload_n 1, 1) := by decide +kernel
theorem dX1_meteredRead_8 : decode cX1_meteredRead 8 = .ok (.invokestatic 174, 3) := by decide +kernel
theorem dX1_meteredRead_11 : decode cX1_meteredRead 11 = .ok (.iload_n 0, 1) := by decide +kernel
theorem dX1_meteredRead_12 : decode cX1_meteredRead 12 = .ok (.invokestatic 174, 3) := by decide +kernel
theorem dX1_meteredRead_15 : decode cX1_meteredRead 15 = .ok (.if_icmp .eq 7, 3) := by decide +kernel
theorem dX1_meteredRead_18 : decode cX1_meteredRead 18 = .ok (.iload_n 1, 1) := by decide +kernel
theorem dX1_meteredRead_19 : decode cX1_meteredRead 19 = .ok (.goto 4, 3) := by decide +kernel
theorem dX1_meteredRead_22 : decode cX1_meteredRead 22 = .ok (.iconst (-1), 1) := by decide +kernel
theorem dX1_meteredRead_23 : decode cX1_meteredRead 23 = .ok (.ireturn, 1) := by decide +kernel
set_option maxRecDepth 20000 in
theorem ggX1_resultOf_X1_valueIn : GoodIn wsX1_resultOf wsX1_valueIn := goodIn_r _ [12] (by decide +kernel) (by decide +kernel)
set_option maxRecDepth 20000 in
theorem gX1_resultOf_X1_valueIn : GoodIn wsX1_resultOf (va_wsS RX1 178 yX1_valueIn wsX1_valueIn) := goodIn_app (goodIn_of _ (by decide +kernel)) ggX1_resultOf_X1_valueIn
set_option maxRecDepth 20000 in
theorem ggX1_resultOf_X1_held : GoodIn wsX1_resultOf wsX1_held := goodIn_r _ [15, 16, 17, 18, 19, 7, 20, 5, 6, 8] (by decide +kernel) (by decide +kernel)
set_option maxRecDepth 20000 in
theorem gX1_resultOf_X1_held : GoodIn wsX1_resultOf (va_wsS RX1 182 yX1_held wsX1_held) := goodIn_app (goodIn_of _ (by decide +kernel)) ggX1_resultOf_X1_held
theorem dX1_resultOf_0 : decode cX1_resultOf 0 = .ok (.aload_n 2, 1) := by decide +kernel
theorem dX1_resultOf_1 : decode cX1_resultOf 1 = .ok (.aload_n 0, 1) := by decide +kernel
theorem dX1_resultOf_2 : decode cX1_resultOf 2 = .ok (.getfield 13, 3) := by decide +kernel
theorem dX1_resultOf_5 : decode cX1_resultOf 5 = .ok (.iload_n 1, 1) := by decide +kernel
theorem dX1_resultOf_6 : decode cX1_resultOf 6 = .ok (.iaload, 1) := by decide +kernel
theorem dX1_resultOf_7 : decode cX1_resultOf 7 = .ok (.invokestatic 178, 3) := by decide +kernel
theorem dX1_resultOf_10 : decode cX1_resultOf 10 = .ok (.istore_n 3, 1) := by decide +kernel
theorem dX1_resultOf_11 : decode cX1_resultOf 11 = .ok (.aload_n 2, 1) := by decide +kernel
theorem dX1_resultOf_12 : decode cX1_resultOf 12 = .ok (.aload_n 0, 1) := by decide +kernel
theorem dX1_resultOf_13 : decode cX1_resultOf 13 = .ok (.getfield 16, 3) := by decide +kernel
theorem dX1_resultOf_16 : decode cX1_resultOf 16 = .ok (.iload_n 1, 1) := by decide +kernel
theorem dX1_resultOf_17 : decode cX1_resultOf 17 = .ok (.iaload, 1) := by decide +kernel
theorem dX1_resultOf_18 : decode cX1_resultOf 18 = .ok (.invokestatic 178, 3) := by decide +kernel
theorem dX1_resultOf_21 : decode cX1_resultOf 21 = .ok (.istore 4, 2) := by decide +kernel
theorem dX1_resultOf_23 : decode cX1_resultOf 23 = .ok (.aload_n 0, 1) := by decide +kernel
theorem dX1_resultOf_24 : decode cX1_resultOf 24 = .ok (.getfield 9, 3) := by decide +kernel
theorem dX1_resultOf_27 : decode cX1_resultOf 27 = .ok (.iload_n 1, 1) := by decide +kernel
theorem dX1_resultOf_28 : decode cX1_resultOf 28 = .ok (.iaload, 1) := by decide +kernel
theorem dX1_resultOf_29 : decode cX1_resultOf 29 = .ok (.tableswitch 61 1 3 #[27, 42, 49], 27) := by decide +kernel
theorem dX1_resultOf_56 : decode cX1_resultOf 56 = .ok (.iload_n 3, 1) := by decide +kernel
theorem dX1_resultOf_57 : decode cX1_resultOf 57 = .ok (.iload 4, 2) := by decide +kernel
theorem dX1_resultOf_59 : decode cX1_resultOf 59 = .ok (.iadd, 1) := by decide +kernel
theorem dX1_resultOf_60 : decode cX1_resultOf 60 = .ok (.aload_n 0, 1) := by decide +kernel
theorem dX1_resultOf_61 : decode cX1_resultOf 61 = .ok (.getfield 19, 3) := by decide +kernel
theorem dX1_resultOf_64 : decode cX1_resultOf 64 = .ok (.iload_n 1, 1) := by decide +kernel
theorem dX1_resultOf_65 : decode cX1_resultOf 65 = .ok (.iaload, 1) := by decide +kernel
theorem dX1_resultOf_66 : decode cX1_resultOf 66 = .ok (.iadd, 1) := by decide +kernel
theorem dX1_resultOf_67 : decode cX1_resultOf 67 = .ok (.invokestatic 182, 3) := by decide +kernel
theorem dX1_resultOf_70 : decode cX1_resultOf 70 = .ok (.ireturn, 1) := by decide +kernel
theorem dX1_resultOf_71 : decode cX1_resultOf 71 = .ok (.iload_n 3, 1) := by decide +kernel
theorem dX1_resultOf_72 : decode cX1_resultOf 72 = .ok (.iload 4, 2) := by decide +kernel
theorem dX1_resultOf_74 : decode cX1_resultOf 74 = .ok (.invokestatic 185, 3) := by decide +kernel
theorem dX1_resultOf_77 : decode cX1_resultOf 77 = .ok (.ireturn, 1) := by decide +kernel
theorem dX1_resultOf_78 : decode cX1_resultOf 78 = .ok (.iload_n 3, 1) := by decide +kernel
theorem dX1_resultOf_79 : decode cX1_resultOf 79 = .ok (.aload_n 0, 1) := by decide +kernel
theorem dX1_resultOf_80 : decode cX1_resultOf 80 = .ok (.getfield 19, 3) := by decide +kernel
theorem dX1_resultOf_83 : decode cX1_resultOf 83 = .ok (.iload_n 1, 1) := by decide +kernel
theorem dX1_resultOf_84 : decode cX1_resultOf 84 = .ok (.iaload, 1) := by decide +kernel
theorem dX1_resultOf_85 : decode cX1_resultOf 85 = .ok (.imul, 1) := by decide +kernel
theorem dX1_resultOf_86 : decode cX1_resultOf 86 = .ok (.invokestatic 182, 3) := by decide +kernel
theorem dX1_resultOf_89 : decode cX1_resultOf 89 = .ok (.ireturn, 1) := by decide +kernel
theorem dX1_resultOf_90 : decode cX1_resultOf 90 = .ok (.aload_n 0, 1) := by decide +kernel
theorem dX1_resultOf_91 : decode cX1_resultOf 91 = .ok (.getfield 19, 3) := by decide +kernel
theorem dX1_resultOf_94 : decode cX1_resultOf 94 = .ok (.iload_n 1, 1) := by decide +kernel
theorem dX1_resultOf_95 : decode cX1_resultOf 95 = .ok (.iaload, 1) := by decide +kernel
theorem dX1_resultOf_96 : decode cX1_resultOf 96 = .ok (.ireturn, 1) := by decide +kernel
theorem dX1_valueIn_0 : decode cX1_valueIn 0 = .ok (.iload_n 1, 1) := by decide +kernel
theorem dX1_valueIn_1 : decode cX1_valueIn 1 = .ok (.ifCond .lt 15, 3) := by decide +kernel
theorem dX1_valueIn_4 : decode cX1_valueIn 4 = .ok (.iload_n 1, 1) := by decide +kernel
theorem dX1_valueIn_5 : decode cX1_valueIn 5 = .ok (.aload_n 0, 1) := by decide +kernel
theorem dX1_valueIn_6 : decode cX1_valueIn 6 = .ok (.arraylength, 1) := by decide +kernel
theorem dX1_valueIn_7 : decode cX1_valueIn 7 = .ok (.if_icmp .ge 9, 3) := by decide +kernel
theorem dX1_valueIn_10 : decode cX1_valueIn 10 = .ok (.aload_n 0, 1) := by decide +kernel
theorem dX1_valueIn_11 : decode cX1_valueIn 11 = .ok (.iload_n 1, 1) := by decide +kernel
theorem dX1_valueIn_12 : decode cX1_valueIn 12 = .ok (.iaload, 1) := by decide +kernel
theorem dX1_valueIn_13 : decode cX1_valueIn 13 = .ok (.goto 4, 3) := by decide +kernel
theorem dX1_valueIn_16 : decode cX1_valueIn 16 = .ok (.iconst 0, 1) := by decide +kernel
theorem dX1_valueIn_17 : decode cX1_valueIn 17 = .ok (.ireturn, 1) := by decide +kernel
theorem dX1_held_0 : decode cX1_held 0 = .ok (.ldc 190, 2) := by decide +kernel
theorem dX1_held_2 : decode cX1_held 2 = .ok (.ldc 58, 2) := by decide +kernel
theorem dX1_held_4 : decode cX1_held 4 = .ok (.iload_n 0, 1) := by decide +kernel
theorem dX1_held_5 : decode cX1_held 5 = .ok (.invokestatic 191, 3) := by decide +kernel
theorem dX1_held_8 : decode cX1_held 8 = .ok (.invokestatic 185, 3) := by decide +kernel
theorem dX1_held_11 : decode cX1_held 11 = .ok (.ireturn, 1) := by decide +kernel
theorem dJ9_max_7cf53_0 : decode cJ9_max_7cf53 0 = .ok (.iload_n 0, 1) := by decide +kernel
theorem dJ9_max_7cf53_1 : decode cJ9_max_7cf53 1 = .ok (.iload_n 1, 1) := by decide +kernel
theorem dJ9_max_7cf53_2 : decode cJ9_max_7cf53 2 = .ok (.if_icmp .lt 7, 3) := by decide +kernel
theorem dJ9_max_7cf53_5 : decode cJ9_max_7cf53 5 = .ok (.iload_n 0, 1) := by decide +kernel
theorem dJ9_max_7cf53_6 : decode cJ9_max_7cf53 6 = .ok (.goto 4, 3) := by decide +kernel
theorem dJ9_max_7cf53_9 : decode cJ9_max_7cf53 9 = .ok (.iload_n 1, 1) := by decide +kernel
theorem dJ9_max_7cf53_10 : decode cJ9_max_7cf53 10 = .ok (.ireturn, 1) := by decide +kernel
theorem dJ9_min_7cf53_0 : decode cJ9_min_7cf53 0 = .ok (.iload_n 0, 1) := by decide +kernel
theorem dJ9_min_7cf53_1 : decode cJ9_min_7cf53 1 = .ok (.iload_n 1, 1) := by decide +kernel
theorem dJ9_min_7cf53_2 : decode cJ9_min_7cf53 2 = .ok (.if_icmp .gt 7, 3) := by decide +kernel
theorem dJ9_min_7cf53_5 : decode cJ9_min_7cf53 5 = .ok (.iload_n 0, 1) := by decide +kernel
theorem dJ9_min_7cf53_6 : decode cJ9_min_7cf53 6 = .ok (.goto 4, 3) := by decide +kernel
theorem dJ9_min_7cf53_9 : decode cJ9_min_7cf53 9 = .ok (.iload_n 1, 1) := by decide +kernel
theorem dJ9_min_7cf53_10 : decode cJ9_min_7cf53 10 = .ok (.ireturn, 1) := by decide +kernel
theorem dL_cell_0 : decode cL_cell 0 = .ok (.iload_n 1, 1) := by decide +kernel
theorem dL_cell_1 : decode cL_cell 1 = .ok (.aload_n 0, 1) := by decide +kernel
theorem dL_cell_2 : decode cL_cell 2 = .ok (.arraylength, 1) := by decide +kernel
theorem dL_cell_3 : decode cL_cell 3 = .ok (.if_icmp .ge 9, 3) := by decide +kernel
theorem dL_cell_6 : decode cL_cell 6 = .ok (.aload_n 0, 1) := by decide +kernel
theorem dL_cell_7 : decode cL_cell 7 = .ok (.iload_n 1, 1) := by decide +kernel
theorem dL_cell_8 : decode cL_cell 8 = .ok (.iaload, 1) := by decide +kernel
theorem dL_cell_9 : decode cL_cell 9 = .ok (.goto 9, 3) := by decide +kernel
theorem dL_cell_12 : decode cL_cell 12 = .ok (.ldc 7, 2) := by decide +kernel
theorem dL_cell_14 : decode cL_cell 14 = .ok (.iload_n 1, 1) := by decide +kernel
theorem dL_cell_15 : decode cL_cell 15 = .ok (.iconst 1, 1) := by decide +kernel
theorem dL_cell_16 : decode cL_cell 16 = .ok (.iadd, 1) := by decide +kernel
theorem dL_cell_17 : decode cL_cell 17 = .ok (.imul, 1) := by decide +kernel
theorem dL_cell_18 : decode cL_cell 18 = .ok (.ireturn, 1) := by decide +kernel
theorem dL_at_0 : decode cL_at 0 = .ok (.iload_n 0, 1) := by decide +kernel
theorem dL_at_1 : decode cL_at 1 = .ok (.iconst 1, 1) := by decide +kernel
theorem dL_at_2 : decode cL_at 2 = .ok (.iushr, 1) := by decide +kernel
theorem dL_at_3 : decode cL_at 3 = .ok (.iload_n 1, 1) := by decide +kernel
theorem dL_at_4 : decode cL_at 4 = .ok (.irem, 1) := by decide +kernel
theorem dL_at_5 : decode cL_at 5 = .ok (.ireturn, 1) := by decide +kernel
set_option maxRecDepth 20000 in
theorem ggL_marked_X1_isMarked : GoodIn wsL_marked wsX1_isMarked := goodIn_ca (goodIn_r _ [5, 6, 7, 8, 9, 10, 4, 11, 12, 13, 14, 15, 16, 17, 18, 19, 20, 21, 22, 23] (by decide +kernel) (by decide +kernel)) (goodIn_sub (fun _ h => List.mem_cons_of_mem _ (List.mem_append_right _ h)) (by decide +kernel))
set_option maxRecDepth 20000 in
theorem gL_marked_X1_isMarked : GoodIn wsL_marked (wsV RL 8 RX1 yX1_isMarked wsX1_isMarked) := goodIn_app (goodIn_of _ (by decide +kernel)) ggL_marked_X1_isMarked
theorem dL_marked_0 : decode cL_marked 0 = .ok (.iconst 0, 1) := by decide +kernel
theorem dL_marked_1 : decode cL_marked 1 = .ok (.istore_n 1, 1) := by decide +kernel
theorem dL_marked_2 : decode cL_marked 2 = .ok (.iconst 0, 1) := by decide +kernel
theorem dL_marked_3 : decode cL_marked 3 = .ok (.istore_n 2, 1) := by decide +kernel
theorem dL_marked_4 : decode cL_marked 4 = .ok (.iload_n 2, 1) := by decide +kernel
theorem dL_marked_5 : decode cL_marked 5 = .ok (.bipush 24, 2) := by decide +kernel
theorem dL_marked_7 : decode cL_marked 7 = .ok (.if_icmp .ge 27, 3) := by decide +kernel
theorem dL_marked_10 : decode cL_marked 10 = .ok (.iload_n 1, 1) := by decide +kernel
theorem dL_marked_11 : decode cL_marked 11 = .ok (.aload_n 0, 1) := by decide +kernel
theorem dL_marked_12 : decode cL_marked 12 = .ok (.iload_n 2, 1) := by decide +kernel
theorem dL_marked_13 : decode cL_marked 13 = .ok (.invokevirtual 8, 3) := by decide +kernel
theorem dL_marked_16 : decode cL_marked 16 = .ok (.ifCond .eq 9, 3) := by decide +kernel
theorem dL_marked_19 : decode cL_marked 19 = .ok (.iconst 1, 1) := by decide +kernel
theorem dL_marked_20 : decode cL_marked 20 = .ok (.iload_n 2, 1) := by decide +kernel
theorem dL_marked_21 : decode cL_marked 21 = .ok (.ishl, 1) := by decide +kernel
theorem dL_marked_22 : decode cL_marked 22 = .ok (.goto 4, 3) := by decide +kernel
theorem dL_marked_25 : decode cL_marked 25 = .ok (.iconst 0, 1) := by decide +kernel
theorem dL_marked_26 : decode cL_marked 26 = .ok (.ior, 1) := by decide +kernel
theorem dL_marked_27 : decode cL_marked 27 = .ok (.istore_n 1, 1) := by decide +kernel
theorem dL_marked_28 : decode cL_marked 28 = .ok (.iinc 2 1, 3) := by decide +kernel
theorem dL_marked_31 : decode cL_marked 31 = .ok (.goto (-27), 3) := by decide +kernel
theorem dL_marked_34 : decode cL_marked 34 = .ok (.iload_n 1, 1) := by decide +kernel
theorem dL_marked_35 : decode cL_marked 35 = .ok (.ireturn, 1) := by decide +kernel
set_option maxRecDepth 20000 in
theorem ggL_accounts_X1_budget : GoodIn wsL_accounts wsX1_budget := goodIn_ca (goodIn_r _ [5, 6, 7, 8, 9, 10, 4, 11, 31, 32, 33, 34, 35, 36, 37, 38, 39, 40, 41, 42, 43, 44, 45, 46, 47, 48, 49, 50] (by decide +kernel) (by decide +kernel)) (goodIn_sub (fun _ h => List.mem_cons_of_mem _ (List.mem_append_right _ h)) (by decide +kernel))
set_option maxRecDepth 20000 in
theorem gL_accounts_X1_budget : GoodIn wsL_accounts (wsV RL 14 RX1 yX1_budget wsX1_budget) := goodIn_app (goodIn_of _ (by decide +kernel)) ggL_accounts_X1_budget
set_option maxRecDepth 20000 in
theorem ggL_accounts_X1_earned : GoodIn wsL_accounts wsX1_earned := goodIn_ca (goodIn_r _ [15, 6, 7, 8, 9, 10, 4, 11, 31, 32, 33, 34, 35, 36, 37, 38, 39, 40, 41, 42, 43, 44, 45, 46, 47, 48, 49, 50] (by decide +kernel) (by decide +kernel)) (goodIn_sub (fun _ h => List.mem_cons_of_mem _ (List.mem_append_right _ h)) (by decide +kernel))
set_option maxRecDepth 20000 in
theorem gL_accounts_X1_earned : GoodIn wsL_accounts (wsV RL 18 RX1 yX1_earned wsX1_earned) := goodIn_app (goodIn_of _ (by decide +kernel)) ggL_accounts_X1_earned
set_option maxRecDepth 20000 in
theorem ggL_accounts_X1_readOf : GoodIn wsL_accounts wsX1_readOf := goodIn_ca (goodIn_r _ [19, 6, 7, 8, 9, 10, 4, 11, 31, 32, 33, 34, 35, 36, 37, 38, 39, 40, 41, 42, 43, 44, 45, 46, 47, 48, 49, 50] (by decide +kernel) (by decide +kernel)) (goodIn_sub (fun _ h => List.mem_cons_of_mem _ (List.mem_append_right _ h)) (by decide +kernel))
set_option maxRecDepth 20000 in
theorem gL_accounts_X1_readOf : GoodIn wsL_accounts (wsV RL 21 RX1 yX1_readOf wsX1_readOf) := goodIn_app (goodIn_of _ (by decide +kernel)) ggL_accounts_X1_readOf
set_option maxRecDepth 20000 in
theorem ggL_accounts_X1_caused : GoodIn wsL_accounts wsX1_caused := goodIn_ca (goodIn_r _ [23, 6, 7, 8, 24, 25, 4, 26, 31, 32, 33, 34, 35, 36, 37, 38, 39, 40, 41, 42, 43, 44, 45, 46, 47, 48, 49, 50] (by decide +kernel) (by decide +kernel)) (goodIn_sub (fun _ h => List.mem_cons_of_mem _ (List.mem_append_right _ h)) (by decide +kernel))
set_option maxRecDepth 20000 in
theorem gL_accounts_X1_caused : GoodIn wsL_accounts (wsV RL 24 RX1 yX1_caused wsX1_caused) := goodIn_app (goodIn_of _ (by decide +kernel)) ggL_accounts_X1_caused
set_option maxRecDepth 20000 in
theorem ggL_accounts_X1_readings : GoodIn wsL_accounts wsX1_readings := goodIn_r _ [30, 8, 31, 32, 33, 34, 35, 36, 37, 38, 39, 40, 41, 42, 43, 44, 45, 46, 47, 48, 49, 50] (by decide +kernel) (by decide +kernel)
set_option maxRecDepth 20000 in
theorem gL_accounts_X1_readings : GoodIn wsL_accounts (wsV RL 27 RX1 yX1_readings wsX1_readings) := goodIn_app (goodIn_of _ (by decide +kernel)) ggL_accounts_X1_readings
theorem dL_accounts_0 : decode cL_accounts 0 = .ok (.iconst 0, 1) := by decide +kernel
theorem dL_accounts_1 : decode cL_accounts 1 = .ok (.istore_n 2, 1) := by decide +kernel
theorem dL_accounts_2 : decode cL_accounts 2 = .ok (.iconst 0, 1) := by decide +kernel
theorem dL_accounts_3 : decode cL_accounts 3 = .ok (.istore_n 3, 1) := by decide +kernel
theorem dL_accounts_4 : decode cL_accounts 4 = .ok (.iconst 0, 1) := by decide +kernel
theorem dL_accounts_5 : decode cL_accounts 5 = .ok (.istore 4, 2) := by decide +kernel
theorem dL_accounts_7 : decode cL_accounts 7 = .ok (.iconst 0, 1) := by decide +kernel
theorem dL_accounts_8 : decode cL_accounts 8 = .ok (.istore 5, 2) := by decide +kernel
theorem dL_accounts_10 : decode cL_accounts 10 = .ok (.iconst 0, 1) := by decide +kernel
theorem dL_accounts_11 : decode cL_accounts 11 = .ok (.istore 6, 2) := by decide +kernel
theorem dL_accounts_13 : decode cL_accounts 13 = .ok (.iload 6, 2) := by decide +kernel
theorem dL_accounts_15 : decode cL_accounts 15 = .ok (.iconst 4, 1) := by decide +kernel
theorem dL_accounts_16 : decode cL_accounts 16 = .ok (.if_icmp .ge 49, 3) := by decide +kernel
theorem dL_accounts_19 : decode cL_accounts 19 = .ok (.aload_n 0, 1) := by decide +kernel
theorem dL_accounts_20 : decode cL_accounts 20 = .ok (.iload 6, 2) := by decide +kernel
theorem dL_accounts_22 : decode cL_accounts 22 = .ok (.invokevirtual 14, 3) := by decide +kernel
theorem dL_accounts_25 : decode cL_accounts 25 = .ok (.ifCond .ge 5, 3) := by decide +kernel
theorem dL_accounts_28 : decode cL_accounts 28 = .ok (.iconst 0, 1) := by decide +kernel
theorem dL_accounts_29 : decode cL_accounts 29 = .ok (.ireturn, 1) := by decide +kernel
theorem dL_accounts_30 : decode cL_accounts 30 = .ok (.iload_n 2, 1) := by decide +kernel
theorem dL_accounts_31 : decode cL_accounts 31 = .ok (.aload_n 0, 1) := by decide +kernel
theorem dL_accounts_32 : decode cL_accounts 32 = .ok (.iload 6, 2) := by decide +kernel
theorem dL_accounts_34 : decode cL_accounts 34 = .ok (.invokevirtual 14, 3) := by decide +kernel
theorem dL_accounts_37 : decode cL_accounts 37 = .ok (.iadd, 1) := by decide +kernel
theorem dL_accounts_38 : decode cL_accounts 38 = .ok (.istore_n 2, 1) := by decide +kernel
theorem dL_accounts_39 : decode cL_accounts 39 = .ok (.iload_n 3, 1) := by decide +kernel
theorem dL_accounts_40 : decode cL_accounts 40 = .ok (.aload_n 0, 1) := by decide +kernel
theorem dL_accounts_41 : decode cL_accounts 41 = .ok (.iload 6, 2) := by decide +kernel
theorem dL_accounts_43 : decode cL_accounts 43 = .ok (.invokevirtual 18, 3) := by decide +kernel
theorem dL_accounts_46 : decode cL_accounts 46 = .ok (.iadd, 1) := by decide +kernel
theorem dL_accounts_47 : decode cL_accounts 47 = .ok (.istore_n 3, 1) := by decide +kernel
theorem dL_accounts_48 : decode cL_accounts 48 = .ok (.iload 5, 2) := by decide +kernel
theorem dL_accounts_50 : decode cL_accounts 50 = .ok (.aload_n 0, 1) := by decide +kernel
theorem dL_accounts_51 : decode cL_accounts 51 = .ok (.iload 6, 2) := by decide +kernel
theorem dL_accounts_53 : decode cL_accounts 53 = .ok (.invokevirtual 21, 3) := by decide +kernel
theorem dL_accounts_56 : decode cL_accounts 56 = .ok (.iadd, 1) := by decide +kernel
theorem dL_accounts_57 : decode cL_accounts 57 = .ok (.istore 5, 2) := by decide +kernel
theorem dL_accounts_59 : decode cL_accounts 59 = .ok (.iinc 6 1, 3) := by decide +kernel
theorem dL_accounts_62 : decode cL_accounts 62 = .ok (.goto (-49), 3) := by decide +kernel
theorem dL_accounts_65 : decode cL_accounts 65 = .ok (.iconst 0, 1) := by decide +kernel
theorem dL_accounts_66 : decode cL_accounts 66 = .ok (.istore 6, 2) := by decide +kernel
theorem dL_accounts_68 : decode cL_accounts 68 = .ok (.iload 6, 2) := by decide +kernel
theorem dL_accounts_70 : decode cL_accounts 70 = .ok (.iconst 5, 1) := by decide +kernel
theorem dL_accounts_71 : decode cL_accounts 71 = .ok (.if_icmp .ge 20, 3) := by decide +kernel
theorem dL_accounts_74 : decode cL_accounts 74 = .ok (.iload 4, 2) := by decide +kernel
theorem dL_accounts_76 : decode cL_accounts 76 = .ok (.aload_n 0, 1) := by decide +kernel
theorem dL_accounts_77 : decode cL_accounts 77 = .ok (.iload 6, 2) := by decide +kernel
theorem dL_accounts_79 : decode cL_accounts 79 = .ok (.invokevirtual 24, 3) := by decide +kernel
theorem dL_accounts_82 : decode cL_accounts 82 = .ok (.iadd, 1) := by decide +kernel
theorem dL_accounts_83 : decode cL_accounts 83 = .ok (.istore 4, 2) := by decide +kernel
theorem dL_accounts_85 : decode cL_accounts 85 = .ok (.iinc 6 1, 3) := by decide +kernel
theorem dL_accounts_88 : decode cL_accounts 88 = .ok (.goto (-20), 3) := by decide +kernel
theorem dL_accounts_91 : decode cL_accounts 91 = .ok (.iload_n 2, 1) := by decide +kernel
theorem dL_accounts_92 : decode cL_accounts 92 = .ok (.iload_n 3, 1) := by decide +kernel
theorem dL_accounts_93 : decode cL_accounts 93 = .ok (.iadd, 1) := by decide +kernel
theorem dL_accounts_94 : decode cL_accounts 94 = .ok (.aload_n 1, 1) := by decide +kernel
theorem dL_accounts_95 : decode cL_accounts 95 = .ok (.iconst 0, 1) := by decide +kernel
theorem dL_accounts_96 : decode cL_accounts 96 = .ok (.iaload, 1) := by decide +kernel
theorem dL_accounts_97 : decode cL_accounts 97 = .ok (.if_icmp .ne 36, 3) := by decide +kernel
theorem dL_accounts_100 : decode cL_accounts 100 = .ok (.iload 4, 2) := by decide +kernel
theorem dL_accounts_102 : decode cL_accounts 102 = .ok (.iload_n 3, 1) := by decide +kernel
theorem dL_accounts_103 : decode cL_accounts 103 = .ok (.if_icmp .ne 30, 3) := by decide +kernel
theorem dL_accounts_106 : decode cL_accounts 106 = .ok (.aload_n 0, 1) := by decide +kernel
theorem dL_accounts_107 : decode cL_accounts 107 = .ok (.invokevirtual 27, 3) := by decide +kernel
theorem dL_accounts_110 : decode cL_accounts 110 = .ok (.iload 5, 2) := by decide +kernel
theorem dL_accounts_112 : decode cL_accounts 112 = .ok (.sipush 500, 3) := by decide +kernel
theorem dL_accounts_115 : decode cL_accounts 115 = .ok (.if_icmp .ge 8, 3) := by decide +kernel
theorem dL_accounts_118 : decode cL_accounts 118 = .ok (.iload 5, 2) := by decide +kernel
theorem dL_accounts_120 : decode cL_accounts 120 = .ok (.goto 6, 3) := by decide +kernel
theorem dL_accounts_123 : decode cL_accounts 123 = .ok (.sipush 500, 3) := by decide +kernel
theorem dL_accounts_126 : decode cL_accounts 126 = .ok (.if_icmp .ne 7, 3) := by decide +kernel
theorem dL_accounts_129 : decode cL_accounts 129 = .ok (.iconst 1, 1) := by decide +kernel
theorem dL_accounts_130 : decode cL_accounts 130 = .ok (.goto 4, 3) := by decide +kernel
theorem dL_accounts_133 : decode cL_accounts 133 = .ok (.iconst 0, 1) := by decide +kernel
theorem dL_accounts_134 : decode cL_accounts 134 = .ok (.ireturn, 1) := by decide +kernel
set_option maxRecDepth 20000 in
theorem ggL_traced_X1_readings : GoodIn wsL_traced wsX1_readings := goodIn_r _ [5, 6, 22, 23, 24, 25, 26, 27, 28, 29, 30, 31, 32, 33, 34, 35, 36, 37, 38, 39, 40, 41] (by decide +kernel) (by decide +kernel)
set_option maxRecDepth 20000 in
theorem gL_traced_X1_readings : GoodIn wsL_traced (wsV RL 27 RX1 yX1_readings wsX1_readings) := goodIn_app (goodIn_of _ (by decide +kernel)) ggL_traced_X1_readings
set_option maxRecDepth 20000 in
theorem ggL_traced_X1_reading : GoodIn wsL_traced wsX1_reading := goodIn_ca (goodIn_r _ [10, 11, 12, 6, 22, 23, 24, 25, 26, 27, 28, 29, 30, 31, 32, 33, 34, 35, 36, 37, 38, 39, 40, 41] (by decide +kernel) (by decide +kernel)) (goodIn_sub (fun _ h => List.mem_cons_of_mem _ (List.mem_append_left _ (List.mem_append_right _ h))) (by decide +kernel))
set_option maxRecDepth 20000 in
theorem gL_traced_X1_reading : GoodIn wsL_traced (wsV RL 31 RX1 yX1_reading wsX1_reading) := goodIn_app (goodIn_of _ (by decide +kernel)) ggL_traced_X1_reading
set_option maxRecDepth 20000 in
theorem ggL_traced_X1_timesRead : GoodIn wsL_traced wsX1_timesRead := goodIn_ca (goodIn_r _ [16, 17, 18, 6, 19, 20, 4, 21, 22, 23, 24, 25, 26, 27, 28, 29, 30, 31, 32, 33, 34, 35, 36, 37, 38, 39, 40, 41] (by decide +kernel) (by decide +kernel)) (goodIn_sub (fun _ h => List.mem_cons_of_mem _ (List.mem_append_right _ h)) (by decide +kernel))
set_option maxRecDepth 20000 in
theorem gL_traced_X1_timesRead : GoodIn wsL_traced (wsV RL 34 RX1 yX1_timesRead wsX1_timesRead) := goodIn_app (goodIn_of _ (by decide +kernel)) ggL_traced_X1_timesRead
theorem dL_traced_0 : decode cL_traced 0 = .ok (.aload_n 2, 1) := by decide +kernel
theorem dL_traced_1 : decode cL_traced 1 = .ok (.iconst 1, 1) := by decide +kernel
theorem dL_traced_2 : decode cL_traced 2 = .ok (.iaload, 1) := by decide +kernel
theorem dL_traced_3 : decode cL_traced 3 = .ok (.istore_n 3, 1) := by decide +kernel
theorem dL_traced_4 : decode cL_traced 4 = .ok (.iload_n 3, 1) := by decide +kernel
theorem dL_traced_5 : decode cL_traced 5 = .ok (.aload_n 0, 1) := by decide +kernel
theorem dL_traced_6 : decode cL_traced 6 = .ok (.invokevirtual 27, 3) := by decide +kernel
theorem dL_traced_9 : decode cL_traced 9 = .ok (.if_icmp .ge 84, 3) := by decide +kernel
theorem dL_traced_12 : decode cL_traced 12 = .ok (.aload_n 0, 1) := by decide +kernel
theorem dL_traced_13 : decode cL_traced 13 = .ok (.iload_n 3, 1) := by decide +kernel
theorem dL_traced_14 : decode cL_traced 14 = .ok (.invokevirtual 31, 3) := by decide +kernel
theorem dL_traced_17 : decode cL_traced 17 = .ok (.istore 4, 2) := by decide +kernel
theorem dL_traced_19 : decode cL_traced 19 = .ok (.iload 4, 2) := by decide +kernel
theorem dL_traced_21 : decode cL_traced 21 = .ok (.bipush 100, 2) := by decide +kernel
theorem dL_traced_23 : decode cL_traced 23 = .ok (.idiv, 1) := by decide +kernel
theorem dL_traced_24 : decode cL_traced 24 = .ok (.bipush 100, 2) := by decide +kernel
theorem dL_traced_26 : decode cL_traced 26 = .ok (.irem, 1) := by decide +kernel
theorem dL_traced_27 : decode cL_traced 27 = .ok (.istore 5, 2) := by decide +kernel
theorem dL_traced_29 : decode cL_traced 29 = .ok (.iload 4, 2) := by decide +kernel
theorem dL_traced_31 : decode cL_traced 31 = .ok (.bipush 100, 2) := by decide +kernel
theorem dL_traced_33 : decode cL_traced 33 = .ok (.irem, 1) := by decide +kernel
theorem dL_traced_34 : decode cL_traced 34 = .ok (.istore 6, 2) := by decide +kernel
theorem dL_traced_36 : decode cL_traced 36 = .ok (.iload 4, 2) := by decide +kernel
theorem dL_traced_38 : decode cL_traced 38 = .ok (.sipush 10000, 3) := by decide +kernel
theorem dL_traced_41 : decode cL_traced 41 = .ok (.idiv, 1) := by decide +kernel
theorem dL_traced_42 : decode cL_traced 42 = .ok (.iload_n 1, 1) := by decide +kernel
theorem dL_traced_43 : decode cL_traced 43 = .ok (.if_icmp .ne 42, 3) := by decide +kernel
theorem dL_traced_46 : decode cL_traced 46 = .ok (.iload 5, 2) := by decide +kernel
theorem dL_traced_48 : decode cL_traced 48 = .ok (.bipush 23, 2) := by decide +kernel
theorem dL_traced_50 : decode cL_traced 50 = .ok (.if_icmp .gt 35, 3) := by decide +kernel
theorem dL_traced_53 : decode cL_traced 53 = .ok (.iload 6, 2) := by decide +kernel
theorem dL_traced_55 : decode cL_traced 55 = .ok (.bipush 23, 2) := by decide +kernel
theorem dL_traced_57 : decode cL_traced 57 = .ok (.if_icmp .gt 28, 3) := by decide +kernel
theorem dL_traced_60 : decode cL_traced 60 = .ok (.iload 5, 2) := by decide +kernel
theorem dL_traced_62 : decode cL_traced 62 = .ok (.bipush 6, 2) := by decide +kernel
theorem dL_traced_64 : decode cL_traced 64 = .ok (.idiv, 1) := by decide +kernel
theorem dL_traced_65 : decode cL_traced 65 = .ok (.iload 6, 2) := by decide +kernel
theorem dL_traced_67 : decode cL_traced 67 = .ok (.bipush 6, 2) := by decide +kernel
theorem dL_traced_69 : decode cL_traced 69 = .ok (.idiv, 1) := by decide +kernel
theorem dL_traced_70 : decode cL_traced 70 = .ok (.if_icmp .eq 15, 3) := by decide +kernel
theorem dL_traced_73 : decode cL_traced 73 = .ok (.aload_n 0, 1) := by decide +kernel
theorem dL_traced_74 : decode cL_traced 74 = .ok (.iload 5, 2) := by decide +kernel
theorem dL_traced_76 : decode cL_traced 76 = .ok (.iload 6, 2) := by decide +kernel
theorem dL_traced_78 : decode cL_traced 78 = .ok (.invokevirtual 34, 3) := by decide +kernel
theorem dL_traced_81 : decode cL_traced 81 = .ok (.iconst 1, 1) := by decide +kernel
theorem dL_traced_82 : decode cL_traced 82 = .ok (.if_icmp .ge 5, 3) := by decide +kernel
theorem dL_traced_85 : decode cL_traced 85 = .ok (.iconst 0, 1) := by decide +kernel
theorem dL_traced_86 : decode cL_traced 86 = .ok (.ireturn, 1) := by decide +kernel
theorem dL_traced_87 : decode cL_traced 87 = .ok (.iinc 3 1, 3) := by decide +kernel
theorem dL_traced_90 : decode cL_traced 90 = .ok (.goto (-86), 3) := by decide +kernel
theorem dL_traced_93 : decode cL_traced 93 = .ok (.aload_n 2, 1) := by decide +kernel
theorem dL_traced_94 : decode cL_traced 94 = .ok (.iconst 1, 1) := by decide +kernel
theorem dL_traced_95 : decode cL_traced 95 = .ok (.aload_n 0, 1) := by decide +kernel
theorem dL_traced_96 : decode cL_traced 96 = .ok (.invokevirtual 27, 3) := by decide +kernel
theorem dL_traced_99 : decode cL_traced 99 = .ok (.iastore, 1) := by decide +kernel
theorem dL_traced_100 : decode cL_traced 100 = .ok (.iconst 1, 1) := by decide +kernel
theorem dL_traced_101 : decode cL_traced 101 = .ok (.ireturn, 1) := by decide +kernel
set_option maxRecDepth 20000 in
theorem ggL_give_L_at : GoodIn wsL_give wsL_at := goodIn_r _ [6] (by decide +kernel) (by decide +kernel)
set_option maxRecDepth 20000 in
theorem gL_give_L_at : GoodIn wsL_give (va_wsS RL 38 yL_at wsL_at) := goodIn_app (goodIn_of _ (by decide +kernel)) ggL_give_L_at
set_option maxRecDepth 20000 in
theorem ggL_give_X1_setNumber : GoodIn wsL_give wsX1_setNumber := goodIn_ca (goodIn_r _ [11, 12, 13, 14, 15, 16, 10, 17, 18, 19, 20, 21, 22, 23, 24, 25, 26, 27, 28, 29, 30, 31, 32, 33, 34, 35, 36, 37, 38, 39, 40, 41, 42, 43, 44, 45, 46, 47, 48, 49, 50, 51, 52, 53, 54, 55, 56, 57, 58, 59, 60, 61, 62, 63, 64, 65, 66, 67, 68, 69, 70, 71, 72, 73, 74, 75, 76, 77, 78, 79, 80, 81, 82, 83, 84, 85, 86, 87, 88, 89, 90, 91, 92, 93, 94, 95, 96, 97, 98, 99, 100, 101, 102, 103, 104, 105, 106, 107, 108, 109, 110, 111, 112, 132, 133, 134, 135, 136, 137, 138, 139, 140, 141, 142, 143, 144, 145, 146, 147, 148, 149, 150, 151] (by decide +kernel) (by decide +kernel)) (goodIn_sub (fun _ h => List.mem_cons_of_mem _ (List.mem_append_left _ (List.mem_append_right _ h))) (by decide +kernel))
set_option maxRecDepth 20000 in
theorem gL_give_X1_setNumber : GoodIn wsL_give (wsV RL 45 RX1 yX1_setNumber wsX1_setNumber) := goodIn_app (goodIn_of _ (by decide +kernel)) ggL_give_X1_setNumber
set_option maxRecDepth 20000 in
theorem ggL_give_X1_setSum : GoodIn wsL_give wsX1_setSum := goodIn_ca (goodIn_ca (goodIn_r _ [116, 12, 13, 117, 118, 15, 16, 10, 17, 18, 19, 20, 21, 22, 23, 119, 120, 121, 122, 123, 37, 109, 110, 111, 112, 29, 30, 46, 47, 48, 24, 25, 26, 27, 28, 31, 32, 33, 34, 35, 36, 38, 39, 40, 41, 42, 43, 44, 45, 49, 50, 51, 52, 53, 54, 55, 56, 57, 58, 59, 60, 61, 62, 63, 64, 65, 66, 67, 68, 69, 70, 71, 72, 73, 74, 75, 76, 77, 78, 79, 80, 81, 82, 83, 84, 85, 86, 87, 88, 89, 90, 91, 92, 93, 94, 95, 96, 97, 98, 99, 100, 101, 14, 102, 103, 104, 105, 106, 107, 108, 132, 133, 134, 135, 136, 137, 138, 139, 140, 141, 142, 143, 144, 145, 146, 147, 148, 149, 150, 151] (by decide +kernel) (by decide +kernel)) (goodIn_sub (fun _ h => List.mem_cons_of_mem _ (List.mem_append_left _ (List.mem_append_right _ h))) (by decide +kernel))) (goodIn_sub (fun _ h => List.mem_cons_of_mem _ (List.mem_append_right _ h)) (by decide +kernel))
set_option maxRecDepth 20000 in
theorem gL_give_X1_setSum : GoodIn wsL_give (wsV RL 49 RX1 yX1_setSum wsX1_setSum) := goodIn_app (goodIn_of _ (by decide +kernel)) ggL_give_X1_setSum
set_option maxRecDepth 20000 in
theorem ggL_give_X1_setGreater : GoodIn wsL_give wsX1_setGreater := goodIn_ca (goodIn_ca (goodIn_r _ [127, 12, 13, 117, 118, 15, 16, 10, 17, 18, 19, 20, 119, 120, 121, 122, 123, 37, 109, 110, 111, 112, 29, 30, 46, 47, 48, 24, 25, 26, 27, 28, 31, 32, 33, 34, 35, 36, 38, 39, 40, 41, 42, 43, 44, 45, 49, 50, 51, 52, 53, 54, 55, 56, 57, 58, 59, 60, 61, 62, 63, 64, 65, 66, 67, 68, 69, 70, 71, 72, 73, 74, 75, 76, 77, 78, 79, 80, 81, 82, 83, 84, 85, 86, 87, 88, 89, 90, 91, 92, 93, 94, 95, 96, 97, 98, 99, 100, 101, 14, 102, 103, 104, 105, 106, 107, 108, 132, 133, 134, 135, 136, 137, 138, 139, 140, 141, 142, 143, 144, 145, 146, 147, 148, 149, 150, 151] (by decide +kernel) (by decide +kernel)) (goodIn_sub (fun _ h => List.mem_cons_of_mem _ (List.mem_append_left _ (List.mem_append_right _ h))) (by decide +kernel))) (goodIn_sub (fun _ h => List.mem_cons_of_mem _ (List.mem_append_right _ h)) (by decide +kernel))
set_option maxRecDepth 20000 in
theorem gL_give_X1_setGreater : GoodIn wsL_give (wsV RL 53 RX1 yX1_setGreater wsX1_setGreater) := goodIn_app (goodIn_of _ (by decide +kernel)) ggL_give_X1_setGreater
set_option maxRecDepth 20000 in
theorem ggL_give_X1_setTimes : GoodIn wsL_give wsX1_setTimes := goodIn_ca (goodIn_ca (goodIn_r _ [131, 12, 13, 117, 118, 15, 16, 10, 17, 18, 19, 20, 21, 22, 23, 119, 120, 121, 122, 123, 37, 109, 110, 111, 112, 29, 30, 46, 47, 48, 24, 25, 26, 27, 28, 31, 32, 33, 34, 35, 36, 38, 39, 40, 41, 42, 43, 44, 45, 49, 50, 51, 52, 53, 54, 55, 56, 57, 58, 59, 60, 61, 62, 63, 64, 65, 66, 67, 68, 69, 70, 71, 72, 73, 74, 75, 76, 77, 78, 79, 80, 81, 82, 83, 84, 85, 86, 87, 88, 89, 90, 91, 92, 93, 94, 95, 96, 97, 98, 99, 100, 101, 14, 102, 103, 104, 105, 106, 107, 108, 132, 133, 134, 135, 136, 137, 138, 139, 140, 141, 142, 143, 144, 145, 146, 147, 148, 149, 150, 151] (by decide +kernel) (by decide +kernel)) (goodIn_sub (fun _ h => List.mem_cons_of_mem _ (List.mem_append_left _ (List.mem_append_right _ h))) (by decide +kernel))) (goodIn_sub (fun _ h => List.mem_cons_of_mem _ (List.mem_append_right _ h)) (by decide +kernel))
set_option maxRecDepth 20000 in
theorem gL_give_X1_setTimes : GoodIn wsL_give (wsV RL 57 RX1 yX1_setTimes wsX1_setTimes) := goodIn_app (goodIn_of _ (by decide +kernel)) ggL_give_X1_setTimes
theorem dL_give_0 : decode cL_give 0 = .ok (.iload_n 1, 1) := by decide +kernel
theorem dL_give_1 : decode cL_give 1 = .ok (.bipush 24, 2) := by decide +kernel
theorem dL_give_3 : decode cL_give 3 = .ok (.invokestatic 38, 3) := by decide +kernel
theorem dL_give_6 : decode cL_give 6 = .ok (.istore 4, 2) := by decide +kernel
theorem dL_give_8 : decode cL_give 8 = .ok (.iload_n 2, 1) := by decide +kernel
theorem dL_give_9 : decode cL_give 9 = .ok (.bipush 24, 2) := by decide +kernel
theorem dL_give_11 : decode cL_give 11 = .ok (.invokestatic 38, 3) := by decide +kernel
theorem dL_give_14 : decode cL_give 14 = .ok (.istore 5, 2) := by decide +kernel
theorem dL_give_16 : decode cL_give 16 = .ok (.iload_n 2, 1) := by decide +kernel
theorem dL_give_17 : decode cL_give 17 = .ok (.iconst 5, 1) := by decide +kernel
theorem dL_give_18 : decode cL_give 18 = .ok (.ishr, 1) := by decide +kernel
theorem dL_give_19 : decode cL_give 19 = .ok (.bipush 24, 2) := by decide +kernel
theorem dL_give_21 : decode cL_give 21 = .ok (.invokestatic 38, 3) := by decide +kernel
theorem dL_give_24 : decode cL_give 24 = .ok (.istore 6, 2) := by decide +kernel
theorem dL_give_26 : decode cL_give 26 = .ok (.iload_n 1, 1) := by decide +kernel
theorem dL_give_27 : decode cL_give 27 = .ok (.iconst 5, 1) := by decide +kernel
theorem dL_give_28 : decode cL_give 28 = .ok (.ishr, 1) := by decide +kernel
theorem dL_give_29 : decode cL_give 29 = .ok (.iconst 4, 1) := by decide +kernel
theorem dL_give_30 : decode cL_give 30 = .ok (.invokestatic 38, 3) := by decide +kernel
theorem dL_give_33 : decode cL_give 33 = .ok (.istore 7, 2) := by decide +kernel
theorem dL_give_35 : decode cL_give 35 = .ok (.iload 7, 2) := by decide +kernel
theorem dL_give_37 : decode cL_give 37 = .ok (.ifCond .eq 17, 3) := by decide +kernel
theorem dL_give_40 : decode cL_give 40 = .ok (.iload 5, 2) := by decide +kernel
theorem dL_give_42 : decode cL_give 42 = .ok (.iload 4, 2) := by decide +kernel
theorem dL_give_44 : decode cL_give 44 = .ok (.if_icmp .ge 10, 3) := by decide +kernel
theorem dL_give_47 : decode cL_give 47 = .ok (.iload 6, 2) := by decide +kernel
theorem dL_give_49 : decode cL_give 49 = .ok (.iload 4, 2) := by decide +kernel
theorem dL_give_51 : decode cL_give 51 = .ok (.if_icmp .lt 20, 3) := by decide +kernel
theorem dL_give_54 : decode cL_give 54 = .ok (.aload_n 0, 1) := by decide +kernel
theorem dL_give_55 : decode cL_give 55 = .ok (.iload_n 3, 1) := by decide +kernel
theorem dL_give_56 : decode cL_give 56 = .ok (.iload 4, 2) := by decide +kernel
theorem dL_give_58 : decode cL_give 58 = .ok (.iload_n 2, 1) := by decide +kernel
theorem dL_give_59 : decode cL_give 59 = .ok (.ldc 43, 2) := by decide +kernel
theorem dL_give_61 : decode cL_give 61 = .ok (.invokestatic 38, 3) := by decide +kernel
theorem dL_give_64 : decode cL_give 64 = .ok (.ldc 44, 2) := by decide +kernel
theorem dL_give_66 : decode cL_give 66 = .ok (.isub, 1) := by decide +kernel
theorem dL_give_67 : decode cL_give 67 = .ok (.invokevirtual 45, 3) := by decide +kernel
theorem dL_give_70 : decode cL_give 70 = .ok (.ireturn, 1) := by decide +kernel
theorem dL_give_71 : decode cL_give 71 = .ok (.iload 7, 2) := by decide +kernel
theorem dL_give_73 : decode cL_give 73 = .ok (.iconst 1, 1) := by decide +kernel
theorem dL_give_74 : decode cL_give 74 = .ok (.if_icmp .ne 29, 3) := by decide +kernel
theorem dL_give_77 : decode cL_give 77 = .ok (.aload_n 0, 1) := by decide +kernel
theorem dL_give_78 : decode cL_give 78 = .ok (.iload_n 3, 1) := by decide +kernel
theorem dL_give_79 : decode cL_give 79 = .ok (.iload 4, 2) := by decide +kernel
theorem dL_give_81 : decode cL_give 81 = .ok (.iload 5, 2) := by decide +kernel
theorem dL_give_83 : decode cL_give 83 = .ok (.iload 6, 2) := by decide +kernel
theorem dL_give_85 : decode cL_give 85 = .ok (.iload_n 1, 1) := by decide +kernel
theorem dL_give_86 : decode cL_give 86 = .ok (.bipush 7, 2) := by decide +kernel
theorem dL_give_88 : decode cL_give 88 = .ok (.ishr, 1) := by decide +kernel
theorem dL_give_89 : decode cL_give 89 = .ok (.sipush 2001, 3) := by decide +kernel
theorem dL_give_92 : decode cL_give 92 = .ok (.invokestatic 38, 3) := by decide +kernel
theorem dL_give_95 : decode cL_give 95 = .ok (.sipush 1000, 3) := by decide +kernel
theorem dL_give_98 : decode cL_give 98 = .ok (.isub, 1) := by decide +kernel
theorem dL_give_99 : decode cL_give 99 = .ok (.invokevirtual 49, 3) := by decide +kernel
theorem dL_give_102 : decode cL_give 102 = .ok (.ireturn, 1) := by decide +kernel
theorem dL_give_103 : decode cL_give 103 = .ok (.iload 7, 2) := by decide +kernel
theorem dL_give_105 : decode cL_give 105 = .ok (.iconst 2, 1) := by decide +kernel
theorem dL_give_106 : decode cL_give 106 = .ok (.if_icmp .ne 17, 3) := by decide +kernel
theorem dL_give_109 : decode cL_give 109 = .ok (.aload_n 0, 1) := by decide +kernel
theorem dL_give_110 : decode cL_give 110 = .ok (.iload_n 3, 1) := by decide +kernel
theorem dL_give_111 : decode cL_give 111 = .ok (.iload 4, 2) := by decide +kernel
theorem dL_give_113 : decode cL_give 113 = .ok (.iload 5, 2) := by decide +kernel
theorem dL_give_115 : decode cL_give 115 = .ok (.iload 6, 2) := by decide +kernel
theorem dL_give_117 : decode cL_give 117 = .ok (.invokevirtual 53, 3) := by decide +kernel
theorem dL_give_120 : decode cL_give 120 = .ok (.goto 25, 3) := by decide +kernel
theorem dL_give_123 : decode cL_give 123 = .ok (.aload_n 0, 1) := by decide +kernel
theorem dL_give_124 : decode cL_give 124 = .ok (.iload_n 3, 1) := by decide +kernel
theorem dL_give_125 : decode cL_give 125 = .ok (.iload 4, 2) := by decide +kernel
theorem dL_give_127 : decode cL_give 127 = .ok (.iload 5, 2) := by decide +kernel
theorem dL_give_129 : decode cL_give 129 = .ok (.iload_n 1, 1) := by decide +kernel
theorem dL_give_130 : decode cL_give 130 = .ok (.bipush 7, 2) := by decide +kernel
theorem dL_give_132 : decode cL_give 132 = .ok (.ishr, 1) := by decide +kernel
theorem dL_give_133 : decode cL_give 133 = .ok (.sipush 201, 3) := by decide +kernel
theorem dL_give_136 : decode cL_give 136 = .ok (.invokestatic 38, 3) := by decide +kernel
theorem dL_give_139 : decode cL_give 139 = .ok (.bipush 100, 2) := by decide +kernel
theorem dL_give_141 : decode cL_give 141 = .ok (.isub, 1) := by decide +kernel
theorem dL_give_142 : decode cL_give 142 = .ok (.invokevirtual 57, 3) := by decide +kernel
theorem dL_give_145 : decode cL_give 145 = .ok (.ireturn, 1) := by decide +kernel
set_option maxRecDepth 20000 in
theorem ggL_right_L_marked : GoodIn wsL_right wsL_marked := goodIn_ca (goodIn_r _ [6, 7, 8, 9, 10, 11, 12, 13, 14, 15, 16, 17, 52, 53, 54, 55, 56, 57, 58, 59, 60, 61, 62, 63] (by decide +kernel) (by decide +kernel)) (goodIn_sub (fun _ h => List.mem_cons_of_mem _ (List.mem_append_right _ h)) (by decide +kernel))
set_option maxRecDepth 20000 in
theorem gL_right_L_marked : GoodIn wsL_right (va_wsS RL 60 yL_marked wsL_marked) := goodIn_app (goodIn_of _ (by decide +kernel)) ggL_right_L_marked
set_option maxRecDepth 20000 in
theorem ggL_right_X1_value : GoodIn wsL_right wsX1_value := goodIn_ca (goodIn_r _ [21, 12, 13, 22, 15, 16, 10, 17, 52, 53, 54, 55, 56, 57, 58, 59, 60, 61, 62, 63] (by decide +kernel) (by decide +kernel)) (goodIn_sub (fun _ h => List.mem_cons_of_mem _ (List.mem_append_right _ h)) (by decide +kernel))
set_option maxRecDepth 20000 in
theorem gL_right_X1_value : GoodIn wsL_right (wsV RL 64 RX1 yX1_value wsX1_value) := goodIn_app (goodIn_of _ (by decide +kernel)) ggL_right_X1_value
set_option maxRecDepth 20000 in
theorem ggL_right_X1_valueAnew : GoodIn wsL_right wsX1_valueAnew := goodIn_ca (goodIn_r _ [26, 12, 13, 27, 28, 15, 16, 10, 17, 29, 30, 31, 32, 33, 34, 35, 36, 37, 38, 39, 40, 41, 42, 43, 44, 45, 46, 47, 48, 49, 50, 51, 52, 53, 54, 55, 56, 57, 58, 59, 60, 61, 62, 63] (by decide +kernel) (by decide +kernel)) (goodIn_sub (fun _ h => List.mem_cons_of_mem _ (List.mem_append_right _ h)) (by decide +kernel))
set_option maxRecDepth 20000 in
theorem gL_right_X1_valueAnew : GoodIn wsL_right (wsV RL 67 RX1 yX1_valueAnew wsX1_valueAnew) := goodIn_app (goodIn_of _ (by decide +kernel)) ggL_right_X1_valueAnew
theorem dL_right_0 : decode cL_right 0 = .ok (.aload_n 0, 1) := by decide +kernel
theorem dL_right_1 : decode cL_right 1 = .ok (.invokestatic 60, 3) := by decide +kernel
theorem dL_right_4 : decode cL_right 4 = .ok (.ifCond .eq 5, 3) := by decide +kernel
theorem dL_right_7 : decode cL_right 7 = .ok (.iconst 1, 1) := by decide +kernel
theorem dL_right_8 : decode cL_right 8 = .ok (.ireturn, 1) := by decide +kernel
theorem dL_right_9 : decode cL_right 9 = .ok (.iconst 0, 1) := by decide +kernel
theorem dL_right_10 : decode cL_right 10 = .ok (.istore_n 1, 1) := by decide +kernel
theorem dL_right_11 : decode cL_right 11 = .ok (.iload_n 1, 1) := by decide +kernel
theorem dL_right_12 : decode cL_right 12 = .ok (.bipush 24, 2) := by decide +kernel
theorem dL_right_14 : decode cL_right 14 = .ok (.if_icmp .ge 44, 3) := by decide +kernel
theorem dL_right_17 : decode cL_right 17 = .ok (.aload_n 0, 1) := by decide +kernel
theorem dL_right_18 : decode cL_right 18 = .ok (.iload_n 1, 1) := by decide +kernel
theorem dL_right_19 : decode cL_right 19 = .ok (.invokevirtual 64, 3) := by decide +kernel
theorem dL_right_22 : decode cL_right 22 = .ok (.aload_n 0, 1) := by decide +kernel
theorem dL_right_23 : decode cL_right 23 = .ok (.iload_n 1, 1) := by decide +kernel
theorem dL_right_24 : decode cL_right 24 = .ok (.invokevirtual 67, 3) := by decide +kernel
theorem dL_right_27 : decode cL_right 27 = .ok (.if_icmp .ne 23, 3) := by decide +kernel
theorem dL_right_30 : decode cL_right 30 = .ok (.aload_n 0, 1) := by decide +kernel
theorem dL_right_31 : decode cL_right 31 = .ok (.iload_n 1, 1) := by decide +kernel
theorem dL_right_32 : decode cL_right 32 = .ok (.invokevirtual 64, 3) := by decide +kernel
theorem dL_right_35 : decode cL_right 35 = .ok (.ldc 44, 2) := by decide +kernel
theorem dL_right_37 : decode cL_right 37 = .ok (.if_icmp .gt 13, 3) := by decide +kernel
theorem dL_right_40 : decode cL_right 40 = .ok (.aload_n 0, 1) := by decide +kernel
theorem dL_right_41 : decode cL_right 41 = .ok (.iload_n 1, 1) := by decide +kernel
theorem dL_right_42 : decode cL_right 42 = .ok (.invokevirtual 64, 3) := by decide +kernel
theorem dL_right_45 : decode cL_right 45 = .ok (.ldc 70, 2) := by decide +kernel
theorem dL_right_47 : decode cL_right 47 = .ok (.if_icmp .ge 5, 3) := by decide +kernel
theorem dL_right_50 : decode cL_right 50 = .ok (.iconst 0, 1) := by decide +kernel
theorem dL_right_51 : decode cL_right 51 = .ok (.ireturn, 1) := by decide +kernel
theorem dL_right_52 : decode cL_right 52 = .ok (.iinc 1 1, 3) := by decide +kernel
theorem dL_right_55 : decode cL_right 55 = .ok (.goto (-44), 3) := by decide +kernel
theorem dL_right_58 : decode cL_right 58 = .ok (.iconst 1, 1) := by decide +kernel
theorem dL_right_59 : decode cL_right 59 = .ok (.ireturn, 1) := by decide +kernel
set_option maxRecDepth 20000 in
theorem ggL_law_X1_init : GoodIn wsL_law wsX1_init := goodIn_r _ [7, 8, 9, 10, 3, 11, 12, 13, 14, 15, 16, 17, 18, 19, 20, 21, 22, 23, 24, 25, 26, 27, 28, 29, 30, 31, 32, 33, 34, 35, 36, 37, 225, 226, 227, 228, 229, 230, 231, 232, 233, 234, 235, 236, 237, 238, 239, 240, 241, 242, 243, 244] (by decide +kernel) (by decide +kernel)
set_option maxRecDepth 20000 in
theorem gL_law_X1_init : GoodIn wsL_law (wsX1_init) := ggL_law_X1_init
set_option maxRecDepth 20000 in
theorem ggL_law_L_cell : GoodIn wsL_law wsL_cell := goodIn_r _ [41, 42] (by decide +kernel) (by decide +kernel)
set_option maxRecDepth 20000 in
theorem gL_law_L_cell : GoodIn wsL_law (va_wsS RL 72 yL_cell wsL_cell) := goodIn_app (goodIn_of _ (by decide +kernel)) ggL_law_L_cell
set_option maxRecDepth 20000 in
theorem ggL_law_L_at : GoodIn wsL_law wsL_at := goodIn_r _ [45] (by decide +kernel) (by decide +kernel)
set_option maxRecDepth 20000 in
theorem gL_law_L_at : GoodIn wsL_law (va_wsS RL 38 yL_at wsL_at) := goodIn_app (goodIn_of _ (by decide +kernel)) ggL_law_L_at
set_option maxRecDepth 20000 in
theorem ggL_law_L_give : GoodIn wsL_law wsL_give := goodIn_ca (goodIn_ca (goodIn_r _ [48, 49, 50, 43, 44, 40, 45, 51, 52, 53, 2, 54, 55, 56, 57, 58, 59, 60, 61, 62, 63, 64, 65, 66, 67, 68, 69, 70, 11, 12, 13, 14, 71, 72, 73, 74, 24, 18, 75, 76, 77, 78, 79, 80, 81, 82, 83, 84, 85, 86, 87, 88, 89, 23, 90, 91, 92, 93, 17, 22, 15, 94, 95, 96, 97, 98, 99, 100, 21, 101, 102, 31, 103, 104, 105, 106, 30, 107, 108, 109, 110, 32, 34, 33, 35, 37, 36, 111, 112, 113, 114, 115, 116, 117, 118, 119, 120, 121, 122, 123, 124, 125, 126, 127, 128, 129, 130, 131, 132, 133, 134, 135, 136, 137, 138, 139, 140, 141, 142, 143, 144, 145, 146, 25, 147, 148, 149, 150, 151, 152, 153, 154, 225, 226, 227, 228, 229, 230, 231, 232, 233, 234, 235, 236, 237, 238, 239, 240, 241, 242, 243, 244] (by decide +kernel) (by decide +kernel)) (goodIn_sub (fun _ h => List.mem_append_left _ (List.mem_append_left _ (List.mem_append_right _ h))) (by decide +kernel))) (goodIn_sub (fun _ h => List.mem_append_left _ (List.mem_append_right _ h)) (by decide +kernel))
set_option maxRecDepth 20000 in
theorem gL_law_L_give : GoodIn wsL_law (va_wsS RL 77 yL_give wsL_give) := goodIn_app (goodIn_of _ (by decide +kernel)) ggL_law_L_give
set_option maxRecDepth 20000 in
theorem ggL_law_L_marked : GoodIn wsL_law wsL_marked := goodIn_ca (goodIn_r _ [157, 158, 159, 160, 2, 161, 55, 56, 17, 61, 62, 63, 225, 226, 227, 228, 229, 230, 231, 232, 233, 234, 235, 236] (by decide +kernel) (by decide +kernel)) (goodIn_sub (fun _ h => List.mem_append_left _ (List.mem_append_left _ (List.mem_append_right _ h))) (by decide +kernel))
set_option maxRecDepth 20000 in
theorem gL_law_L_marked : GoodIn wsL_law (va_wsS RL 60 yL_marked wsL_marked) := goodIn_app (goodIn_of _ (by decide +kernel)) ggL_law_L_marked
set_option maxRecDepth 20000 in
theorem ggL_law_X1_refresh : GoodIn wsL_law wsX1_refresh := goodIn_ca (goodIn_r _ [165, 55, 56, 58, 59, 2, 60, 86, 87, 88, 89, 23, 129, 130, 131, 132, 18, 17, 61, 62, 63, 133, 134, 135, 136, 12, 13, 83, 84, 85, 90, 91, 92, 93, 22, 15, 94, 95, 96, 97, 98, 99, 100, 21, 101, 102, 31, 103, 104, 105, 106, 30, 107, 108, 109, 110, 32, 34, 33, 35, 37, 36, 111, 112, 113, 114, 11, 14, 115, 116, 117, 118, 119, 120, 121, 122, 123, 124, 125, 57, 126, 127, 128, 225, 226, 227, 228, 229, 230, 231, 232, 233, 234, 235, 236, 237, 238, 239, 240, 241, 242, 243, 244] (by decide +kernel) (by decide +kernel)) (goodIn_sub (fun _ h => List.mem_append_left _ (List.mem_append_left _ (List.mem_append_right _ h))) (by decide +kernel))
set_option maxRecDepth 20000 in
theorem gL_law_X1_refresh : GoodIn wsL_law (wsV RL 81 RX1 yX1_refresh wsX1_refresh) := goodIn_app (goodIn_of _ (by decide +kernel)) ggL_law_X1_refresh
set_option maxRecDepth 20000 in
theorem ggL_law_X1_setPrice : GoodIn wsL_law wsX1_setPrice := goodIn_ca (goodIn_r _ [169, 55, 56, 22, 170, 171, 2, 172, 225, 226, 227, 228, 229, 230, 231, 232, 233, 234, 235, 236, 237, 238, 239, 240, 241, 242, 243, 244] (by decide +kernel) (by decide +kernel)) (goodIn_sub (fun _ h => List.mem_append_left _ (List.mem_append_left _ (List.mem_append_right _ h))) (by decide +kernel))
set_option maxRecDepth 20000 in
theorem gL_law_X1_setPrice : GoodIn wsL_law (wsV RL 84 RX1 yX1_setPrice wsX1_setPrice) := goodIn_app (goodIn_of _ (by decide +kernel)) ggL_law_X1_setPrice
set_option maxRecDepth 20000 in
theorem ggL_law_X1_budget : GoodIn wsL_law wsX1_budget := goodIn_ca (goodIn_r _ [176, 55, 56, 22, 170, 171, 2, 172, 225, 226, 227, 228, 229, 230, 231, 232, 233, 234, 235, 236, 237, 238, 239, 240, 241, 242, 243, 244] (by decide +kernel) (by decide +kernel)) (goodIn_sub (fun _ h => List.mem_append_left _ (List.mem_append_left _ (List.mem_append_right _ h))) (by decide +kernel))
set_option maxRecDepth 20000 in
theorem gL_law_X1_budget : GoodIn wsL_law (wsV RL 14 RX1 yX1_budget wsX1_budget) := goodIn_app (goodIn_of _ (by decide +kernel)) ggL_law_X1_budget
set_option maxRecDepth 20000 in
theorem ggL_law_X1_grant : GoodIn wsL_law wsX1_grant := goodIn_ca (goodIn_r _ [180, 55, 56, 22, 170, 171, 2, 172, 225, 226, 227, 228, 229, 230, 231, 232, 233, 234, 235, 236, 237, 238, 239, 240, 241, 242, 243, 244] (by decide +kernel) (by decide +kernel)) (goodIn_sub (fun _ h => List.mem_append_left _ (List.mem_append_left _ (List.mem_append_right _ h))) (by decide +kernel))
set_option maxRecDepth 20000 in
theorem gL_law_X1_grant : GoodIn wsL_law (wsV RL 87 RX1 yX1_grant wsX1_grant) := goodIn_app (goodIn_of _ (by decide +kernel)) ggL_law_X1_grant
set_option maxRecDepth 20000 in
theorem ggL_law_L_traced : GoodIn wsL_law wsL_traced := goodIn_ca (goodIn_ca (goodIn_r _ [183, 184, 185, 186, 2, 187, 22, 188, 189, 190, 191, 192, 193, 194, 195, 196, 197, 55, 56, 61, 62, 63, 225, 226, 227, 228, 229, 230, 231, 232, 233, 234, 235, 236, 237, 238, 239, 240, 241, 242, 243, 244] (by decide +kernel) (by decide +kernel)) (goodIn_sub (fun _ h => List.mem_append_right _ h) (by decide +kernel))) (goodIn_sub (fun _ h => List.mem_append_left _ (List.mem_append_left _ (List.mem_append_right _ h))) (by decide +kernel))
set_option maxRecDepth 20000 in
theorem gL_law_L_traced : GoodIn wsL_law (va_wsS RL 90 yL_traced wsL_traced) := goodIn_app (goodIn_of _ (by decide +kernel)) ggL_law_L_traced
set_option maxRecDepth 20000 in
theorem ggL_law_L_accounts : GoodIn wsL_law wsL_accounts := goodIn_ca (goodIn_r _ [200, 173, 174, 175, 2, 176, 55, 56, 22, 170, 171, 172, 201, 202, 203, 204, 205, 206, 207, 208, 209, 210, 211, 212, 58, 59, 60, 184, 185, 186, 187, 225, 226, 227, 228, 229, 230, 231, 232, 233, 234, 235, 236, 237, 238, 239, 240, 241, 242, 243, 244] (by decide +kernel) (by decide +kernel)) (goodIn_sub (fun _ h => List.mem_append_left _ (List.mem_append_left _ (List.mem_append_right _ h))) (by decide +kernel))
set_option maxRecDepth 20000 in
theorem gL_law_L_accounts : GoodIn wsL_law (va_wsS RL 94 yL_accounts wsL_accounts) := goodIn_app (goodIn_of _ (by decide +kernel)) ggL_law_L_accounts
set_option maxRecDepth 20000 in
theorem ggL_law_L_right : GoodIn wsL_law wsL_right := goodIn_ca (goodIn_r _ [215, 50, 216, 155, 156, 40, 157, 158, 159, 160, 2, 161, 55, 56, 17, 61, 62, 63, 217, 218, 219, 220, 15, 221, 222, 223, 224, 18, 26, 111, 112, 113, 114, 12, 13, 11, 14, 115, 116, 117, 118, 119, 120, 121, 122, 123, 124, 125, 57, 126, 127, 128, 225, 226, 227, 228, 229, 230, 231, 232, 233, 234, 235, 236] (by decide +kernel) (by decide +kernel)) (goodIn_sub (fun _ h => List.mem_append_left _ (List.mem_append_left _ (List.mem_append_right _ h))) (by decide +kernel))
set_option maxRecDepth 20000 in
theorem gL_law_L_right : GoodIn wsL_law (va_wsS RL 98 yL_right wsL_right) := goodIn_app (goodIn_of _ (by decide +kernel)) ggL_law_L_right
theorem dL_law_0 : decode cL_law 0 = .ok (.new 9, 3) := by decide +kernel
theorem dL_law_3 : decode cL_law 3 = .ok (.dup, 1) := by decide +kernel
theorem dL_law_4 : decode cL_law 4 = .ok (.invokespecial 71, 3) := by decide +kernel
theorem dL_law_7 : decode cL_law 7 = .ok (.astore_n 1, 1) := by decide +kernel
theorem dL_law_8 : decode cL_law 8 = .ok (.iconst 2, 1) := by decide +kernel
theorem dL_law_9 : decode cL_law 9 = .ok (.newarray .int, 2) := by decide +kernel
theorem dL_law_11 : decode cL_law 11 = .ok (.astore_n 2, 1) := by decide +kernel
theorem dL_law_12 : decode cL_law 12 = .ok (.aload_n 2, 1) := by decide +kernel
theorem dL_law_13 : decode cL_law 13 = .ok (.iconst 0, 1) := by decide +kernel
theorem dL_law_14 : decode cL_law 14 = .ok (.sipush 400, 3) := by decide +kernel
theorem dL_law_17 : decode cL_law 17 = .ok (.iastore, 1) := by decide +kernel
theorem dL_law_18 : decode cL_law 18 = .ok (.iconst 0, 1) := by decide +kernel
theorem dL_law_19 : decode cL_law 19 = .ok (.istore_n 3, 1) := by decide +kernel
theorem dL_law_20 : decode cL_law 20 = .ok (.iload_n 3, 1) := by decide +kernel
theorem dL_law_21 : decode cL_law 21 = .ok (.bipush 40, 2) := by decide +kernel
theorem dL_law_23 : decode cL_law 23 = .ok (.if_icmp .ge 260, 3) := by decide +kernel
theorem dL_law_26 : decode cL_law 26 = .ok (.aload_n 0, 1) := by decide +kernel
theorem dL_law_27 : decode cL_law 27 = .ok (.iconst 2, 1) := by decide +kernel
theorem dL_law_28 : decode cL_law 28 = .ok (.iload_n 3, 1) := by decide +kernel
theorem dL_law_29 : decode cL_law 29 = .ok (.imul, 1) := by decide +kernel
theorem dL_law_30 : decode cL_law 30 = .ok (.invokestatic 72, 3) := by decide +kernel
theorem dL_law_33 : decode cL_law 33 = .ok (.ldc 76, 2) := by decide +kernel
theorem dL_law_35 : decode cL_law 35 = .ok (.iand, 1) := by decide +kernel
theorem dL_law_36 : decode cL_law 36 = .ok (.istore 4, 2) := by decide +kernel
theorem dL_law_38 : decode cL_law 38 = .ok (.aload_n 0, 1) := by decide +kernel
theorem dL_law_39 : decode cL_law 39 = .ok (.iconst 2, 1) := by decide +kernel
theorem dL_law_40 : decode cL_law 40 = .ok (.iload_n 3, 1) := by decide +kernel
theorem dL_law_41 : decode cL_law 41 = .ok (.imul, 1) := by decide +kernel
theorem dL_law_42 : decode cL_law 42 = .ok (.iconst 1, 1) := by decide +kernel
theorem dL_law_43 : decode cL_law 43 = .ok (.iadd, 1) := by decide +kernel
theorem dL_law_44 : decode cL_law 44 = .ok (.invokestatic 72, 3) := by decide +kernel
theorem dL_law_47 : decode cL_law 47 = .ok (.ldc 76, 2) := by decide +kernel
theorem dL_law_49 : decode cL_law 49 = .ok (.iand, 1) := by decide +kernel
theorem dL_law_50 : decode cL_law 50 = .ok (.istore 5, 2) := by decide +kernel
theorem dL_law_52 : decode cL_law 52 = .ok (.iload 4, 2) := by decide +kernel
theorem dL_law_54 : decode cL_law 54 = .ok (.iconst 3, 1) := by decide +kernel
theorem dL_law_55 : decode cL_law 55 = .ok (.ishr, 1) := by decide +kernel
theorem dL_law_56 : decode cL_law 56 = .ok (.iconst 5, 1) := by decide +kernel
theorem dL_law_57 : decode cL_law 57 = .ok (.invokestatic 38, 3) := by decide +kernel
theorem dL_law_60 : decode cL_law 60 = .ok (.istore 6, 2) := by decide +kernel
theorem dL_law_62 : decode cL_law 62 = .ok (.iload 4, 2) := by decide +kernel
theorem dL_law_64 : decode cL_law 64 = .ok (.bipush 8, 2) := by decide +kernel
theorem dL_law_66 : decode cL_law 66 = .ok (.invokestatic 38, 3) := by decide +kernel
theorem dL_law_69 : decode cL_law 69 = .ok (.istore 7, 2) := by decide +kernel
theorem dL_law_71 : decode cL_law 71 = .ok (.iload 7, 2) := by decide +kernel
theorem dL_law_73 : decode cL_law 73 = .ok (.iconst 5, 1) := by decide +kernel
theorem dL_law_74 : decode cL_law 74 = .ok (.if_icmp .ge 36, 3) := by decide +kernel
theorem dL_law_77 : decode cL_law 77 = .ok (.aload_n 1, 1) := by decide +kernel
theorem dL_law_78 : decode cL_law 78 = .ok (.iload 4, 2) := by decide +kernel
theorem dL_law_80 : decode cL_law 80 = .ok (.bipush 6, 2) := by decide +kernel
theorem dL_law_82 : decode cL_law 82 = .ok (.ishr, 1) := by decide +kernel
theorem dL_law_83 : decode cL_law 83 = .ok (.iload 5, 2) := by decide +kernel
theorem dL_law_85 : decode cL_law 85 = .ok (.iload 6, 2) := by decide +kernel
theorem dL_law_87 : decode cL_law 87 = .ok (.invokestatic 77, 3) := by decide +kernel
theorem dL_law_90 : decode cL_law 90 = .ok (.istore 8, 2) := by decide +kernel
theorem dL_law_92 : decode cL_law 92 = .ok (.iload 8, 2) := by decide +kernel
theorem dL_law_94 : decode cL_law 94 = .ok (.iconst 1, 1) := by decide +kernel
theorem dL_law_95 : decode cL_law 95 = .ok (.if_icmp .lt 10, 3) := by decide +kernel
theorem dL_law_98 : decode cL_law 98 = .ok (.iload 8, 2) := by decide +kernel
theorem dL_law_100 : decode cL_law 100 = .ok (.bipush 24, 2) := by decide +kernel
theorem dL_law_102 : decode cL_law 102 = .ok (.if_icmp .le 5, 3) := by decide +kernel
theorem dL_law_105 : decode cL_law 105 = .ok (.iconst 0, 1) := by decide +kernel
theorem dL_law_106 : decode cL_law 106 = .ok (.ireturn, 1) := by decide +kernel
theorem dL_law_107 : decode cL_law 107 = .ok (.goto 136, 3) := by decide +kernel
theorem dL_law_110 : decode cL_law 110 = .ok (.iload 7, 2) := by decide +kernel
theorem dL_law_112 : decode cL_law 112 = .ok (.iconst 5, 1) := by decide +kernel
theorem dL_law_113 : decode cL_law 113 = .ok (.if_icmp .ne 44, 3) := by decide +kernel
theorem dL_law_116 : decode cL_law 116 = .ok (.aload_n 1, 1) := by decide +kernel
theorem dL_law_117 : decode cL_law 117 = .ok (.invokestatic 60, 3) := by decide +kernel
theorem dL_law_120 : decode cL_law 120 = .ok (.istore 8, 2) := by decide +kernel
theorem dL_law_122 : decode cL_law 122 = .ok (.aload_n 1, 1) := by decide +kernel
theorem dL_law_123 : decode cL_law 123 = .ok (.iload 6, 2) := by decide +kernel
theorem dL_law_125 : decode cL_law 125 = .ok (.invokevirtual 81, 3) := by decide +kernel
theorem dL_law_128 : decode cL_law 128 = .ok (.istore 9, 2) := by decide +kernel
theorem dL_law_130 : decode cL_law 130 = .ok (.iload 9, 2) := by decide +kernel
theorem dL_law_132 : decode cL_law 132 = .ok (.ifCond .lt 20, 3) := by decide +kernel
theorem dL_law_135 : decode cL_law 135 = .ok (.iload 9, 2) := by decide +kernel
theorem dL_law_137 : decode cL_law 137 = .ok (.bipush 24, 2) := by decide +kernel
theorem dL_law_139 : decode cL_law 139 = .ok (.if_icmp .gt 13, 3) := by decide +kernel
theorem dL_law_142 : decode cL_law 142 = .ok (.iload 8, 2) := by decide +kernel
theorem dL_law_144 : decode cL_law 144 = .ok (.ifCond .ne 10, 3) := by decide +kernel
theorem dL_law_147 : decode cL_law 147 = .ok (.iload 9, 2) := by decide +kernel
theorem dL_law_149 : decode cL_law 149 = .ok (.ifCond .eq 5, 3) := by decide +kernel
theorem dL_law_152 : decode cL_law 152 = .ok (.iconst 0, 1) := by decide +kernel
theorem dL_law_153 : decode cL_law 153 = .ok (.ireturn, 1) := by decide +kernel
theorem dL_law_154 : decode cL_law 154 = .ok (.goto 89, 3) := by decide +kernel
theorem dL_law_157 : decode cL_law 157 = .ok (.iload 7, 2) := by decide +kernel
theorem dL_law_159 : decode cL_law 159 = .ok (.bipush 6, 2) := by decide +kernel
theorem dL_law_161 : decode cL_law 161 = .ok (.if_icmp .ne 27, 3) := by decide +kernel
theorem dL_law_164 : decode cL_law 164 = .ok (.aload_n 1, 1) := by decide +kernel
theorem dL_law_165 : decode cL_law 165 = .ok (.iload 5, 2) := by decide +kernel
theorem dL_law_167 : decode cL_law 167 = .ok (.iconst 4, 1) := by decide +kernel
theorem dL_law_168 : decode cL_law 168 = .ok (.invokestatic 38, 3) := by decide +kernel
theorem dL_law_171 : decode cL_law 171 = .ok (.iload 5, 2) := by decide +kernel
theorem dL_law_173 : decode cL_law 173 = .ok (.iconst 3, 1) := by decide +kernel
theorem dL_law_174 : decode cL_law 174 = .ok (.ishr, 1) := by decide +kernel
theorem dL_law_175 : decode cL_law 175 = .ok (.bipush 30, 2) := by decide +kernel
theorem dL_law_177 : decode cL_law 177 = .ok (.invokestatic 38, 3) := by decide +kernel
theorem dL_law_180 : decode cL_law 180 = .ok (.invokevirtual 84, 3) := by decide +kernel
theorem dL_law_183 : decode cL_law 183 = .ok (.ifCond .ge 60, 3) := by decide +kernel
theorem dL_law_186 : decode cL_law 186 = .ok (.iconst 0, 1) := by decide +kernel
theorem dL_law_187 : decode cL_law 187 = .ok (.ireturn, 1) := by decide +kernel
theorem dL_law_188 : decode cL_law 188 = .ok (.iload 5, 2) := by decide +kernel
theorem dL_law_190 : decode cL_law 190 = .ok (.iconst 4, 1) := by decide +kernel
theorem dL_law_191 : decode cL_law 191 = .ok (.invokestatic 38, 3) := by decide +kernel
theorem dL_law_194 : decode cL_law 194 = .ok (.istore 8, 2) := by decide +kernel
theorem dL_law_196 : decode cL_law 196 = .ok (.aload_n 1, 1) := by decide +kernel
theorem dL_law_197 : decode cL_law 197 = .ok (.iload 8, 2) := by decide +kernel
theorem dL_law_199 : decode cL_law 199 = .ok (.invokevirtual 14, 3) := by decide +kernel
theorem dL_law_202 : decode cL_law 202 = .ok (.istore 9, 2) := by decide +kernel
theorem dL_law_204 : decode cL_law 204 = .ok (.iconst 1, 1) := by decide +kernel
theorem dL_law_205 : decode cL_law 205 = .ok (.iload 5, 2) := by decide +kernel
theorem dL_law_207 : decode cL_law 207 = .ok (.iconst 3, 1) := by decide +kernel
theorem dL_law_208 : decode cL_law 208 = .ok (.ishr, 1) := by decide +kernel
theorem dL_law_209 : decode cL_law 209 = .ok (.bipush 90, 2) := by decide +kernel
theorem dL_law_211 : decode cL_law 211 = .ok (.invokestatic 38, 3) := by decide +kernel
theorem dL_law_214 : decode cL_law 214 = .ok (.iadd, 1) := by decide +kernel
theorem dL_law_215 : decode cL_law 215 = .ok (.istore 10, 2) := by decide +kernel
theorem dL_law_217 : decode cL_law 217 = .ok (.aload_n 1, 1) := by decide +kernel
theorem dL_law_218 : decode cL_law 218 = .ok (.iload 8, 2) := by decide +kernel
theorem dL_law_220 : decode cL_law 220 = .ok (.iload 10, 2) := by decide +kernel
theorem dL_law_222 : decode cL_law 222 = .ok (.invokevirtual 87, 3) := by decide +kernel
theorem dL_law_225 : decode cL_law 225 = .ok (.iload 9, 2) := by decide +kernel
theorem dL_law_227 : decode cL_law 227 = .ok (.iload 10, 2) := by decide +kernel
theorem dL_law_229 : decode cL_law 229 = .ok (.iadd, 1) := by decide +kernel
theorem dL_law_230 : decode cL_law 230 = .ok (.if_icmp .eq 5, 3) := by decide +kernel
theorem dL_law_233 : decode cL_law 233 = .ok (.iconst 0, 1) := by decide +kernel
theorem dL_law_234 : decode cL_law 234 = .ok (.ireturn, 1) := by decide +kernel
theorem dL_law_235 : decode cL_law 235 = .ok (.aload_n 2, 1) := by decide +kernel
theorem dL_law_236 : decode cL_law 236 = .ok (.iconst 0, 1) := by decide +kernel
theorem dL_law_237 : decode cL_law 237 = .ok (.dup2, 1) := by decide +kernel
theorem dL_law_238 : decode cL_law 238 = .ok (.iaload, 1) := by decide +kernel
theorem dL_law_239 : decode cL_law 239 = .ok (.iload 10, 2) := by decide +kernel
theorem dL_law_241 : decode cL_law 241 = .ok (.iadd, 1) := by decide +kernel
theorem dL_law_242 : decode cL_law 242 = .ok (.iastore, 1) := by decide +kernel
theorem dL_law_243 : decode cL_law 243 = .ok (.aload_n 1, 1) := by decide +kernel
theorem dL_law_244 : decode cL_law 244 = .ok (.iload 6, 2) := by decide +kernel
theorem dL_law_246 : decode cL_law 246 = .ok (.aload_n 2, 1) := by decide +kernel
theorem dL_law_247 : decode cL_law 247 = .ok (.invokestatic 90, 3) := by decide +kernel
theorem dL_law_250 : decode cL_law 250 = .ok (.ifCond .eq 25, 3) := by decide +kernel
theorem dL_law_253 : decode cL_law 253 = .ok (.aload_n 1, 1) := by decide +kernel
theorem dL_law_254 : decode cL_law 254 = .ok (.aload_n 2, 1) := by decide +kernel
theorem dL_law_255 : decode cL_law 255 = .ok (.invokestatic 94, 3) := by decide +kernel
theorem dL_law_258 : decode cL_law 258 = .ok (.ifCond .eq 17, 3) := by decide +kernel
theorem dL_law_261 : decode cL_law 261 = .ok (.iload_n 3, 1) := by decide +kernel
theorem dL_law_262 : decode cL_law 262 = .ok (.iconst 4, 1) := by decide +kernel
theorem dL_law_263 : decode cL_law 263 = .ok (.irem, 1) := by decide +kernel
theorem dL_law_264 : decode cL_law 264 = .ok (.iconst 3, 1) := by decide +kernel
theorem dL_law_265 : decode cL_law 265 = .ok (.if_icmp .ne 12, 3) := by decide +kernel
theorem dL_law_268 : decode cL_law 268 = .ok (.aload_n 1, 1) := by decide +kernel
theorem dL_law_269 : decode cL_law 269 = .ok (.invokestatic 98, 3) := by decide +kernel
theorem dL_law_272 : decode cL_law 272 = .ok (.ifCond .ne 5, 3) := by decide +kernel
theorem dL_law_275 : decode cL_law 275 = .ok (.iconst 0, 1) := by decide +kernel
theorem dL_law_276 : decode cL_law 276 = .ok (.ireturn, 1) := by decide +kernel
theorem dL_law_277 : decode cL_law 277 = .ok (.iinc 3 1, 3) := by decide +kernel
theorem dL_law_280 : decode cL_law 280 = .ok (.goto (-260), 3) := by decide +kernel
theorem dL_law_283 : decode cL_law 283 = .ok (.iconst 1, 1) := by decide +kernel
theorem dL_law_284 : decode cL_law 284 = .ok (.ireturn, 1) := by decide +kernel
abbrev vwCl : List vw_C := [(RX0, TX0, 8), (RX1, TX1, 12)]
end
section
/-! A LAYER OVER THE KIT'S ROWS: a method's walk over the memory of one family of objects.
vM: rows of ints by number. vC: what holds all through a walk. V: the walk's judgement, with the heap, the written places and the slots hidden. -/
abbrev vM : Type := Nat → Nat → Int32
def mR (u : vM) (q : Nat) (f : Nat → Int32) : vM := fun j => cond (Nat.beq j q) f (u j)
/-- place i of row q -/
def mrd (u : vM) (q : Nat) (i : Int32) : Int32 := u q i.toNatClampNeg
def mup (u : vM) (q : Nat) (i x : Int32) : vM := mR u q (upd (u q) i.toNatClampNeg x)
/-- an int field is a row of one number -/
def mfd (u : vM) (q : Nat) : Int32 := u q 0
def mst (u : vM) (q : Nat) (x : Int32) : vM := mR u q (fun _ => x)
theorem mup_ne {u : vM} {q q' : Nat} {i x : Int32} (h : q' ≠ q) : mup u q i x q' = u q' := by
  unfold mup mR
  rw [show Nat.beq q' q = false by cases hb : Nat.beq q' q with
    | true => exact absurd (Nat.eq_of_beq_eq_true hb) h
    | false => rfl]
  rfl
theorem mst_ne {u : vM} {q q' : Nat} {x : Int32} (h : q' ≠ q) : mst u q x q' = u q' := by
  unfold mst mR
  rw [show Nat.beq q' q = false by cases hb : Nat.beq q' q with
    | true => exact absurd (Nat.eq_of_beq_eq_true hb) h
    | false => rfl]
  rfl
def vC (p : Program) (s : State) (m : MethodId) (args : Array Value) (meth : Method) (c : Code) {S : Type} (D : va_G) (cl : List vw_C) (tys : List (ClassId × FieldType)) (X : State → Prop) (A : Nat → Prop) (w : S → va_W) (cc : ByteArray) (own : String) (Ts : List Cond) (nL : Nat) (rt : Option FieldType) : Prop :=
  p.tables.exec = Jvm.exec ∧ c.code = cc ∧ (∀ w ∈ Ts, w.before args s = true) ∧ s.vm.findClass own = some m.cls ∧ va_K D cl tys s ∧ (∀ u : S, va_D A (w u)) ∧ (∀ q, s.heap.size ≤ q → A q) ∧ c.maxLocals = nL ∧ meth.locks = false ∧ meth.sig.returnType = rt ∧ X s
def V (p : Program) (l : Launch) (e : Env) (R : Room) (s : State) (m : MethodId) (args : Array Value) (below : List Frame) (meth : Method) (c : Code) {S : Type} (D : va_G) (cl : List vw_C) (A : Nat → Prop) (w : S → va_W) (nL k n : Nat) (Q : State → Prop) (u : S) (pc : Nat) (ls : List (Nat × Value)) (st : List Value) : Prop :=
  ∀ (H : Heap) (locs : List Loc) (la : Array Slot), va_P D cl (w u) H → va_S A s.heap H locs → lv_has la nL ls → W p l e R s m args below meth c H locs k n Q (F0 m pc la st)
def lput (i : Nat) (v : Value) : List (Nat × Value) → List (Nat × Value)
  | [] => [(i, v)]
  | q :: r => cond (Nat.beq q.1 i) ((i, v) :: r.filter (fun z => !(Nat.beq z.1 i))) (q :: lput i v r)
theorem lput_mem {i : Nat} {v : Value} : ∀ {ls : List (Nat × Value)} {q : Nat × Value}, q ∈ lput i v ls → q = (i, v) ∨ (q ∈ ls ∧ q.1 ≠ i)
  | [], q, h => Or.inl (List.mem_singleton.mp h)
  | a :: r, q, h => by
    unfold lput at h
    cases hb : Nat.beq a.1 i with
    | true =>
      rw [hb] at h
      rcases List.mem_cons.mp h with h | h
      · exact Or.inl h
      · obtain ⟨h1, h2⟩ := List.mem_filter.mp h
        refine Or.inr ⟨List.mem_cons_of_mem _ h1, fun hq => ?_⟩
        rw [Nat.beq_eq.mpr hq] at h2
        cases h2
    | false =>
      rw [hb] at h
      rcases List.mem_cons.mp h with h | h
      · refine Or.inr ⟨by rw [h]; exact List.mem_cons_self, fun hq => ?_⟩
        rw [h] at hq
        rw [Nat.beq_eq.mpr hq] at hb
        cases hb
      · rcases lput_mem h with h | ⟨h1, h2⟩
        · exact Or.inl h
        · exact Or.inr ⟨List.mem_cons_of_mem _ h1, h2⟩
def lcat (ls : List (Nat × Value)) : Bool := ls.all (fun q => Nat.beq q.2.category 1)
theorem lput_has {la : Array Slot} {nL i : Nat} {v : Value} {ls : List (Nat × Value)} (hc : lcat ls = true) (h : lv_has la nL ((i, v) :: ls.filter (fun q => !(q.1 == i) && !(q.1 + 1 == i && q.2.category == 2)))) : lv_has la nL (lput i v ls) := by
  refine ⟨h.1, h.2.1, fun q hq => h.2.2 q ?_⟩
  rcases lput_mem hq with h1 | ⟨h1, h2⟩
  · rw [h1]; exact List.mem_cons_self
  · refine List.mem_cons_of_mem _ (List.mem_filter.mpr ⟨h1, ?_⟩)
    have h3 : Nat.beq q.2.category 1 = true := List.all_eq_true.mp hc q h1
    have h4 : q.2.category = 1 := Nat.beq_eq.mp h3
    simp [h2, h4]
section VL
variable {p : Program} {l : Launch} {e : Env} {R : Room} {s : State} {m : MethodId} {args : Array Value} {below : List Frame} {meth : Method} {c : Code} {S : Type} {D : va_G} {cl : List vw_C} {tys : List (ClassId × FieldType)} {X : State → Prop} {A : Nat → Prop} {w : S → va_W} {cc : ByteArray} {own : String} {Ts : List Cond} {nL k n : Nat} {rt : Option FieldType} {Q : State → Prop} {u : S} {pc : Nat} {ls : List (Nat × Value)} {st : List Value}
theorem V_top {x : Int32} (K : ∀ y : Int32, x = y → V p l e R s m args below meth c D cl A w nL k n Q u pc ls (.int y :: st)) : V p l e R s m args below meth c D cl A w nL k n Q u pc ls (.int x :: st) := K x rfl
theorem V_u (K : ∀ v : S, u = v → V p l e R s m args below meth c D cl A w nL k n Q v pc ls st) : V p l e R s m args below meth c D cl A w nL k n Q u pc ls st := K u rfl
theorem V_sub {ls' : List (Nat × Value)} (ks : List Nat) (h : lv_pick ls ks = ls') (K : V p l e R s m args below meth c D cl A w nL k n Q u pc ls' st) : V p l e R s m args below meth c D cl A w nL k n Q u pc ls st :=
  fun H locs la hP hS hl => K H locs la hP hS (lv_sub hl ks h)
theorem V_iconst (C : vC p s m args meth c D cl tys X A w cc own Ts nL rt) {i : Int} {v : Int32} (d : decode cc pc = .ok (.iconst i, 1)) (hv : Int32.ofInt i = v) (K : V p l e R s m args below meth c D cl A w nL k n Q u (pc + 1) ls (.int v :: st)) : V p l e R s m args below meth c D cl A w nL k n Q u pc ls st :=
  fun H locs la hP hS hl => lv_iconst C.1 C.2.1 d hv (K H locs la hP hS hl)
theorem V_bipush (C : vC p s m args meth c D cl tys X A w cc own Ts nL rt) {i : Int} {v : Int32} (d : decode cc pc = .ok (.bipush i, 2)) (hv : (Int8.ofInt i).toInt32 = v) (K : V p l e R s m args below meth c D cl A w nL k n Q u (pc + 2) ls (.int v :: st)) : V p l e R s m args below meth c D cl A w nL k n Q u pc ls st :=
  fun H locs la hP hS hl => lv_bipush C.1 C.2.1 d hv (K H locs la hP hS hl)
theorem V_sipush (C : vC p s m args meth c D cl tys X A w cc own Ts nL rt) {i : Int} {v : Int32} (d : decode cc pc = .ok (.sipush i, 3)) (hv : (Int16.ofInt i).toInt32 = v) (K : V p l e R s m args below meth c D cl A w nL k n Q u (pc + 3) ls (.int v :: st)) : V p l e R s m args below meth c D cl A w nL k n Q u pc ls st :=
  fun H locs la hP hS hl => lv_sipush C.1 C.2.1 d hv (K H locs la hP hS hl)
theorem V_ldc (C : vC p s m args meth c D cl tys X A w cc own Ts nL rt) {index : Nat} {v : Int32} (h : Jvm.Cond.constant own index v ∈ Ts) (d : decode cc pc = .ok (.ldc index, 2)) (K : V p l e R s m args below meth c D cl A w nL k n Q u (pc + 2) ls (.int v :: st)) : V p l e R s m args below meth c D cl A w nL k n Q u pc ls st :=
  fun H locs la hP hS hl => lv_ldc C.1 C.2.1 C.2.2.2.1 (C.2.2.1 _ h) d (K H locs la hP hS hl)
theorem V_iload_n (C : vC p s m args meth c D cl tys X A w cc own Ts nL rt) {j : Fin 4} {i : Nat} {x : Int32} (d : decode cc pc = .ok (.iload_n j, 1)) (hi : (j : Nat) = i) (q : Nat) (h : ls[q]? = some (i, .int x)) (K : V p l e R s m args below meth c D cl A w nL k n Q u (pc + 1) ls (.int x :: st)) : V p l e R s m args below meth c D cl A w nL k n Q u pc ls st :=
  fun H locs la hP hS hl => lv_iload_n C.1 C.2.1 d hi (lv_at hl q h) (K H locs la hP hS hl)
theorem V_iload (C : vC p s m args meth c D cl tys X A w cc own Ts nL rt) {i : Nat} {x : Int32} (d : decode cc pc = .ok (.iload i, 2)) (q : Nat) (h : ls[q]? = some (i, .int x)) (K : V p l e R s m args below meth c D cl A w nL k n Q u (pc + 2) ls (.int x :: st)) : V p l e R s m args below meth c D cl A w nL k n Q u pc ls st :=
  fun H locs la hP hS hl => lv_iload C.1 C.2.1 d (lv_at hl q h) (K H locs la hP hS hl)
theorem V_aload_n (C : vC p s m args meth c D cl tys X A w cc own Ts nL rt) {j : Fin 4} {i : Nat} {x : Nat} (d : decode cc pc = .ok (.aload_n j, 1)) (hi : (j : Nat) = i) (q : Nat) (h : ls[q]? = some (i, .ref x)) (K : V p l e R s m args below meth c D cl A w nL k n Q u (pc + 1) ls (.ref x :: st)) : V p l e R s m args below meth c D cl A w nL k n Q u pc ls st :=
  fun H locs la hP hS hl => lv_aload_n C.1 C.2.1 d hi (lv_at hl q h) (K H locs la hP hS hl)
theorem V_aload (C : vC p s m args meth c D cl tys X A w cc own Ts nL rt) {i : Nat} {x : Nat} (d : decode cc pc = .ok (.aload i, 2)) (q : Nat) (h : ls[q]? = some (i, .ref x)) (K : V p l e R s m args below meth c D cl A w nL k n Q u (pc + 2) ls (.ref x :: st)) : V p l e R s m args below meth c D cl A w nL k n Q u pc ls st :=
  fun H locs la hP hS hl => lv_aload C.1 C.2.1 d (lv_at hl q h) (K H locs la hP hS hl)
theorem V_istore_n (C : vC p s m args meth c D cl tys X A w cc own Ts nL rt) {j : Fin 4} {i : Nat} {x : Int32} {ls' : List (Nat × Value)} (d : decode cc pc = .ok (.istore_n j, 1)) (hi : (j : Nat) = i) (hn : i < nL) (hc : lcat ls = true) (h : lput i (.int x) ls = ls') (K : V p l e R s m args below meth c D cl A w nL k n Q u (pc + 1) ls' st) : V p l e R s m args below meth c D cl A w nL k n Q u pc ls (.int x :: st) :=
  fun H locs la hP hS hl => lv_istore_n C.1 C.2.1 d hi hl hn rfl (fun lb hb => K H locs lb hP hS (by rw [← h]; exact lput_has hc hb))
theorem V_istore (C : vC p s m args meth c D cl tys X A w cc own Ts nL rt) {i : Nat} {x : Int32} {ls' : List (Nat × Value)} (d : decode cc pc = .ok (.istore i, 2)) (hn : i < nL) (hc : lcat ls = true) (h : lput i (.int x) ls = ls') (K : V p l e R s m args below meth c D cl A w nL k n Q u (pc + 2) ls' st) : V p l e R s m args below meth c D cl A w nL k n Q u pc ls (.int x :: st) :=
  fun H locs la hP hS hl => lv_istore C.1 C.2.1 d hl hn rfl (fun lb hb => K H locs lb hP hS (by rw [← h]; exact lput_has hc hb))
theorem V_iinc (C : vC p s m args meth c D cl tys X A w cc own Ts nL rt) {i : Nat} {z : Int} {x v : Int32} {ls' : List (Nat × Value)} (d : decode cc pc = .ok (.iinc i z, 3)) (q : Nat) (hq : ls[q]? = some (i, .int x)) (hv : x + Int32.ofInt z = v) (hn : i < nL) (hc : lcat ls = true) (h : lput i (.int v) ls = ls') (K : V p l e R s m args below meth c D cl A w nL k n Q u (pc + 3) ls' st) : V p l e R s m args below meth c D cl A w nL k n Q u pc ls st :=
  fun H locs la hP hS hl => lv_iinc C.1 C.2.1 d hl hq hv hn rfl (fun lb hb => K H locs lb hP hS (by rw [← h]; exact lput_has hc hb))
theorem V_iadd (C : vC p s m args meth c D cl tys X A w cc own Ts nL rt) {x y : Int32} (d : decode cc pc = .ok (.iadd, 1)) (K : V p l e R s m args below meth c D cl A w nL k n Q u (pc + 1) ls (.int (x + y) :: st)) : V p l e R s m args below meth c D cl A w nL k n Q u pc ls (.int y :: .int x :: st) :=
  fun H locs la hP hS hl => lv_iadd C.1 C.2.1 d (K H locs la hP hS hl)
theorem V_isub (C : vC p s m args meth c D cl tys X A w cc own Ts nL rt) {x y : Int32} (d : decode cc pc = .ok (.isub, 1)) (K : V p l e R s m args below meth c D cl A w nL k n Q u (pc + 1) ls (.int (x - y) :: st)) : V p l e R s m args below meth c D cl A w nL k n Q u pc ls (.int y :: .int x :: st) :=
  fun H locs la hP hS hl => lv_isub C.1 C.2.1 d (K H locs la hP hS hl)
theorem V_imul (C : vC p s m args meth c D cl tys X A w cc own Ts nL rt) {x y : Int32} (d : decode cc pc = .ok (.imul, 1)) (K : V p l e R s m args below meth c D cl A w nL k n Q u (pc + 1) ls (.int (x * y) :: st)) : V p l e R s m args below meth c D cl A w nL k n Q u pc ls (.int y :: .int x :: st) :=
  fun H locs la hP hS hl => lv_imul C.1 C.2.1 d (K H locs la hP hS hl)
theorem V_iand (C : vC p s m args meth c D cl tys X A w cc own Ts nL rt) {x y : Int32} (d : decode cc pc = .ok (.iand, 1)) (K : V p l e R s m args below meth c D cl A w nL k n Q u (pc + 1) ls (.int (x &&& y) :: st)) : V p l e R s m args below meth c D cl A w nL k n Q u pc ls (.int y :: .int x :: st) :=
  fun H locs la hP hS hl => lv_iand C.1 C.2.1 d (K H locs la hP hS hl)
theorem V_idiv (C : vC p s m args meth c D cl tys X A w cc own Ts nL rt) {x y : Int32} (d : decode cc pc = .ok (.idiv, 1)) (hne : ¬ y = 0) (K : V p l e R s m args below meth c D cl A w nL k n Q u (pc + 1) ls (.int (x / y) :: st)) : V p l e R s m args below meth c D cl A w nL k n Q u pc ls (.int y :: .int x :: st) :=
  fun H locs la hP hS hl => lv_idiv C.1 C.2.1 d hne (K H locs la hP hS hl)
theorem V_irem (C : vC p s m args meth c D cl tys X A w cc own Ts nL rt) {x y : Int32} (d : decode cc pc = .ok (.irem, 1)) (hne : ¬ y = 0) (K : V p l e R s m args below meth c D cl A w nL k n Q u (pc + 1) ls (.int (x - x / y * y) :: st)) : V p l e R s m args below meth c D cl A w nL k n Q u pc ls (.int y :: .int x :: st) :=
  fun H locs la hP hS hl => lv_irem C.1 C.2.1 d hne (K H locs la hP hS hl)
theorem V_ineg (C : vC p s m args meth c D cl tys X A w cc own Ts nL rt) {x : Int32} (d : decode cc pc = .ok (.ineg, 1)) (K : V p l e R s m args below meth c D cl A w nL k n Q u (pc + 1) ls (.int (-x) :: st)) : V p l e R s m args below meth c D cl A w nL k n Q u pc ls (.int x :: st) :=
  fun H locs la hP hS hl => lv_ineg C.1 C.2.1 d (K H locs la hP hS hl)
theorem V_dup (C : vC p s m args meth c D cl tys X A w cc own Ts nL rt) {v : Value} (d : decode cc pc = .ok (.dup, 1)) (hv : v.category = 1) (K : V p l e R s m args below meth c D cl A w nL k n Q u (pc + 1) ls (v :: v :: st)) : V p l e R s m args below meth c D cl A w nL k n Q u pc ls (v :: st) :=
  fun H locs la hP hS hl => lv_dup C.1 C.2.1 d hv (K H locs la hP hS hl)
theorem V_dup2 (C : vC p s m args meth c D cl tys X A w cc own Ts nL rt) {v z : Value} (d : decode cc pc = .ok (.dup2, 1)) (hv : v.category = 1) (hz : z.category = 1) (K : V p l e R s m args below meth c D cl A w nL k n Q u (pc + 1) ls (v :: z :: v :: z :: st)) : V p l e R s m args below meth c D cl A w nL k n Q u pc ls (v :: z :: st) :=
  fun H locs la hP hS hl => lv_dup2_11 C.1 C.2.1 d hv hz (K H locs la hP hS hl)
theorem V_pop (C : vC p s m args meth c D cl tys X A w cc own Ts nL rt) {v : Value} (d : decode cc pc = .ok (.pop, 1)) (hv : v.category = 1) (K : V p l e R s m args below meth c D cl A w nL k n Q u (pc + 1) ls st) : V p l e R s m args below meth c D cl A w nL k n Q u pc ls (v :: st) :=
  fun H locs la hP hS hl => lv_pop C.1 C.2.1 d hv (K H locs la hP hS hl)
theorem V_goto (C : vC p s m args meth c D cl tys X A w cc own Ts nL rt) {off : Int} {tgt : Nat} (d : decode cc pc = .ok (.goto off, 3)) (ht : (pc : Int) + off = (tgt : Int)) (K : V p l e R s m args below meth c D cl A w nL k n Q u tgt ls st) : V p l e R s m args below meth c D cl A w nL k n Q u pc ls st :=
  fun H locs la hP hS hl => lv_goto C.1 C.2.1 d ht (K H locs la hP hS hl)
theorem V_if_eq (C : vC p s m args meth c D cl tys X A w cc own Ts nL rt) {x : Int32} {off : Int} {tgt : Nat} (d : decode cc pc = .ok (.ifCond .eq off, 3)) (ht : (pc : Int) + off = (tgt : Int)) (Kt : x = 0 → V p l e R s m args below meth c D cl A w nL k n Q u tgt ls st) (Kf : ¬ x = 0 → V p l e R s m args below meth c D cl A w nL k n Q u (pc + 3) ls st) : V p l e R s m args below meth c D cl A w nL k n Q u pc ls (.int x :: st) :=
  fun H locs la hP hS hl => lv_if_eq C.1 C.2.1 d ht (fun h => Kt h H locs la hP hS hl) (fun h => Kf h H locs la hP hS hl)
theorem V_if_ne (C : vC p s m args meth c D cl tys X A w cc own Ts nL rt) {x : Int32} {off : Int} {tgt : Nat} (d : decode cc pc = .ok (.ifCond .ne off, 3)) (ht : (pc : Int) + off = (tgt : Int)) (Kt : ¬ x = 0 → V p l e R s m args below meth c D cl A w nL k n Q u tgt ls st) (Kf : x = 0 → V p l e R s m args below meth c D cl A w nL k n Q u (pc + 3) ls st) : V p l e R s m args below meth c D cl A w nL k n Q u pc ls (.int x :: st) :=
  fun H locs la hP hS hl => lv_if_ne C.1 C.2.1 d ht (fun h => Kt h H locs la hP hS hl) (fun h => Kf h H locs la hP hS hl)
theorem V_if_lt (C : vC p s m args meth c D cl tys X A w cc own Ts nL rt) {x : Int32} {off : Int} {tgt : Nat} (d : decode cc pc = .ok (.ifCond .lt off, 3)) (ht : (pc : Int) + off = (tgt : Int)) (Kt : x < 0 → V p l e R s m args below meth c D cl A w nL k n Q u tgt ls st) (Kf : ¬ x < 0 → V p l e R s m args below meth c D cl A w nL k n Q u (pc + 3) ls st) : V p l e R s m args below meth c D cl A w nL k n Q u pc ls (.int x :: st) :=
  fun H locs la hP hS hl => lv_if_lt C.1 C.2.1 d ht (fun h => Kt h H locs la hP hS hl) (fun h => Kf h H locs la hP hS hl)
theorem V_if_ge (C : vC p s m args meth c D cl tys X A w cc own Ts nL rt) {x : Int32} {off : Int} {tgt : Nat} (d : decode cc pc = .ok (.ifCond .ge off, 3)) (ht : (pc : Int) + off = (tgt : Int)) (Kt : 0 ≤ x → V p l e R s m args below meth c D cl A w nL k n Q u tgt ls st) (Kf : ¬ 0 ≤ x → V p l e R s m args below meth c D cl A w nL k n Q u (pc + 3) ls st) : V p l e R s m args below meth c D cl A w nL k n Q u pc ls (.int x :: st) :=
  fun H locs la hP hS hl => lv_if_ge C.1 C.2.1 d ht (fun h => Kt h H locs la hP hS hl) (fun h => Kf h H locs la hP hS hl)
theorem V_if_gt (C : vC p s m args meth c D cl tys X A w cc own Ts nL rt) {x : Int32} {off : Int} {tgt : Nat} (d : decode cc pc = .ok (.ifCond .gt off, 3)) (ht : (pc : Int) + off = (tgt : Int)) (Kt : 0 < x → V p l e R s m args below meth c D cl A w nL k n Q u tgt ls st) (Kf : ¬ 0 < x → V p l e R s m args below meth c D cl A w nL k n Q u (pc + 3) ls st) : V p l e R s m args below meth c D cl A w nL k n Q u pc ls (.int x :: st) :=
  fun H locs la hP hS hl => lv_if_gt C.1 C.2.1 d ht (fun h => Kt h H locs la hP hS hl) (fun h => Kf h H locs la hP hS hl)
theorem V_if_le (C : vC p s m args meth c D cl tys X A w cc own Ts nL rt) {x : Int32} {off : Int} {tgt : Nat} (d : decode cc pc = .ok (.ifCond .le off, 3)) (ht : (pc : Int) + off = (tgt : Int)) (Kt : x ≤ 0 → V p l e R s m args below meth c D cl A w nL k n Q u tgt ls st) (Kf : ¬ x ≤ 0 → V p l e R s m args below meth c D cl A w nL k n Q u (pc + 3) ls st) : V p l e R s m args below meth c D cl A w nL k n Q u pc ls (.int x :: st) :=
  fun H locs la hP hS hl => lv_if_le C.1 C.2.1 d ht (fun h => Kt h H locs la hP hS hl) (fun h => Kf h H locs la hP hS hl)
theorem V_icmp_eq (C : vC p s m args meth c D cl tys X A w cc own Ts nL rt) {x y : Int32} {off : Int} {tgt : Nat} (d : decode cc pc = .ok (.if_icmp .eq off, 3)) (ht : (pc : Int) + off = (tgt : Int)) (Kt : x = y → V p l e R s m args below meth c D cl A w nL k n Q u tgt ls st) (Kf : ¬ x = y → V p l e R s m args below meth c D cl A w nL k n Q u (pc + 3) ls st) : V p l e R s m args below meth c D cl A w nL k n Q u pc ls (.int y :: .int x :: st) :=
  fun H locs la hP hS hl => lv_icmp_eq C.1 C.2.1 d ht (fun h => Kt h H locs la hP hS hl) (fun h => Kf h H locs la hP hS hl)
theorem V_icmp_ne (C : vC p s m args meth c D cl tys X A w cc own Ts nL rt) {x y : Int32} {off : Int} {tgt : Nat} (d : decode cc pc = .ok (.if_icmp .ne off, 3)) (ht : (pc : Int) + off = (tgt : Int)) (Kt : ¬ x = y → V p l e R s m args below meth c D cl A w nL k n Q u tgt ls st) (Kf : x = y → V p l e R s m args below meth c D cl A w nL k n Q u (pc + 3) ls st) : V p l e R s m args below meth c D cl A w nL k n Q u pc ls (.int y :: .int x :: st) :=
  fun H locs la hP hS hl => lv_icmp_ne C.1 C.2.1 d ht (fun h => Kt h H locs la hP hS hl) (fun h => Kf h H locs la hP hS hl)
theorem V_icmp_lt (C : vC p s m args meth c D cl tys X A w cc own Ts nL rt) {x y : Int32} {off : Int} {tgt : Nat} (d : decode cc pc = .ok (.if_icmp .lt off, 3)) (ht : (pc : Int) + off = (tgt : Int)) (Kt : x < y → V p l e R s m args below meth c D cl A w nL k n Q u tgt ls st) (Kf : ¬ x < y → V p l e R s m args below meth c D cl A w nL k n Q u (pc + 3) ls st) : V p l e R s m args below meth c D cl A w nL k n Q u pc ls (.int y :: .int x :: st) :=
  fun H locs la hP hS hl => lv_icmp_lt C.1 C.2.1 d ht (fun h => Kt h H locs la hP hS hl) (fun h => Kf h H locs la hP hS hl)
theorem V_icmp_ge (C : vC p s m args meth c D cl tys X A w cc own Ts nL rt) {x y : Int32} {off : Int} {tgt : Nat} (d : decode cc pc = .ok (.if_icmp .ge off, 3)) (ht : (pc : Int) + off = (tgt : Int)) (Kt : y ≤ x → V p l e R s m args below meth c D cl A w nL k n Q u tgt ls st) (Kf : ¬ y ≤ x → V p l e R s m args below meth c D cl A w nL k n Q u (pc + 3) ls st) : V p l e R s m args below meth c D cl A w nL k n Q u pc ls (.int y :: .int x :: st) :=
  fun H locs la hP hS hl => lv_icmp_ge C.1 C.2.1 d ht (fun h => Kt h H locs la hP hS hl) (fun h => Kf h H locs la hP hS hl)
theorem V_icmp_gt (C : vC p s m args meth c D cl tys X A w cc own Ts nL rt) {x y : Int32} {off : Int} {tgt : Nat} (d : decode cc pc = .ok (.if_icmp .gt off, 3)) (ht : (pc : Int) + off = (tgt : Int)) (Kt : y < x → V p l e R s m args below meth c D cl A w nL k n Q u tgt ls st) (Kf : ¬ y < x → V p l e R s m args below meth c D cl A w nL k n Q u (pc + 3) ls st) : V p l e R s m args below meth c D cl A w nL k n Q u pc ls (.int y :: .int x :: st) :=
  fun H locs la hP hS hl => lv_icmp_gt C.1 C.2.1 d ht (fun h => Kt h H locs la hP hS hl) (fun h => Kf h H locs la hP hS hl)
theorem V_icmp_le (C : vC p s m args meth c D cl tys X A w cc own Ts nL rt) {x y : Int32} {off : Int} {tgt : Nat} (d : decode cc pc = .ok (.if_icmp .le off, 3)) (ht : (pc : Int) + off = (tgt : Int)) (Kt : x ≤ y → V p l e R s m args below meth c D cl A w nL k n Q u tgt ls st) (Kf : ¬ x ≤ y → V p l e R s m args below meth c D cl A w nL k n Q u (pc + 3) ls st) : V p l e R s m args below meth c D cl A w nL k n Q u pc ls (.int y :: .int x :: st) :=
  fun H locs la hP hS hl => lv_icmp_le C.1 C.2.1 d ht (fun h => Kt h H locs la hP hS hl) (fun h => Kf h H locs la hP hS hl)
/-- a switch over 1, 2, 3 -/
theorem V_tsw3 (C : vC p s m args meth c D cl tys X A w cc own Ts nL rt) {x : Int32} {dflt o1 o2 o3 : Int} {len t0 t1 t2 t3 : Nat} (d : decode cc pc = .ok (.tableswitch dflt 1 3 #[o1, o2, o3], len)) (h0 : (pc : Int) + dflt = (t0 : Int)) (h1 : (pc : Int) + o1 = (t1 : Int)) (h2 : (pc : Int) + o2 = (t2 : Int)) (h3 : (pc : Int) + o3 = (t3 : Int))
    (K1 : x = 1 → V p l e R s m args below meth c D cl A w nL k n Q u t1 ls st) (K2 : ¬ x = 1 → x = 2 → V p l e R s m args below meth c D cl A w nL k n Q u t2 ls st) (K3 : ¬ x = 1 → ¬ x = 2 → x = 3 → V p l e R s m args below meth c D cl A w nL k n Q u t3 ls st) (K0 : ¬ x = 1 → ¬ x = 2 → ¬ x = 3 → V p l e R s m args below meth c D cl A w nL k n Q u t0 ls st) :
    V p l e R s m args below meth c D cl A w nL k n Q u pc ls (.int x :: st) := by
  intro H locs la hP hS hl
  by_cases c1 : x = 1
  · subst c1
    exact lv_tableIn C.1 C.2.1 d (by decide) (by decide) (off := o1) rfl h1 (K1 rfl H locs la hP hS hl)
  · by_cases c2 : x = 2
    · subst c2
      exact lv_tableIn C.1 C.2.1 d (by decide) (by decide) (off := o2) rfl h2 (K2 c1 rfl H locs la hP hS hl)
    · by_cases c3 : x = 3
      · subst c3
        exact lv_tableIn C.1 C.2.1 d (by decide) (by decide) (off := o3) rfl h3 (K3 c1 c2 rfl H locs la hP hS hl)
      · refine lv_tableOut C.1 C.2.1 d ?_ h0 (K0 c1 c2 c3 H locs la hP hS hl)
        have e1 : x.toInt ≠ 1 := fun h => c1 (Int32.toInt_inj.mp h)
        have e2 : x.toInt ≠ 2 := fun h => c2 (Int32.toInt_inj.mp h)
        have e3 : x.toInt ≠ 3 := fun h => c3 (Int32.toInt_inj.mp h)
        omega
theorem V_get (C : vC p s m args meth c D cl tys X A w cc own Ts nL rt) {ref Cn : String} {T : u_T} {N ci index a : Nat} (hin : ∀ w ∈ u_ws Cn T N, w ∈ Ts) (q0 : Nat) {fs : List Value} (he : (w u)[q0]? = some (a, .inr (ci, fs))) (hc : cl[ci]? = some (Cn, T, N)) (f : Nat) (hf : f < N) (hl0 : Cond.fieldLink own index ref (T f).2.1 (T f).2.2.1 ∈ Ts) (hsame : ref = (T f).1) {v : Value} (hv : fs[f]? = some v) (d : decode cc pc = .ok (.getfield index, 3))
    (K : V p l e R s m args below meth c D cl A w nL k n Q u (pc + 3) ls (v :: st)) : V p l e R s m args below meth c D cl A w nL k n Q u pc ls (.ref a :: st) :=
  fun H locs la hP hS hl => va_get C.1 C.2.1 C.2.2.1 hin C.2.2.2.1 C.2.2.2.2.1 hP q0 he hc f hf (C.2.2.1 _ hl0) (fun _ h => by rw [hsame]; exact h) hv d (K H locs la hP hS hl)
theorem V_getN (C : vC p s m args meth c D cl tys X A w cc own Ts nL rt) {ref Cn host : String} {T : u_T} {N ci index a : Nat} (hin : ∀ w ∈ u_ws Cn T N, w ∈ Ts) (q0 : Nat) {fs : List Value} (he : (w u)[q0]? = some (a, .inr (ci, fs))) (hc : cl[ci]? = some (Cn, T, N)) (f : Nat) (hf : f < N) (hl0 : va_Nw (.fieldLinkNest own index ref (T f).2.1 (T f).2.2.1 host) s) (hsame : ref = (T f).1) {v : Value} (hv : fs[f]? = some v) (d : decode cc pc = .ok (.getfield index, 3))
    (K : V p l e R s m args below meth c D cl A w nL k n Q u (pc + 3) ls (v :: st)) : V p l e R s m args below meth c D cl A w nL k n Q u pc ls (.ref a :: st) :=
  fun H locs la hP hS hl => va_getN C.1 C.2.1 C.2.2.1 hin C.2.2.2.1 C.2.2.2.2.1 hP q0 he hc f hf (va_Nw.use rfl hl0) (fun _ h => by rw [hsame]; exact h) hv d (K H locs la hP hS hl)
theorem V_put (C : vC p s m args meth c D cl tys X A w cc own Ts nL rt) {ref Cn : String} {T : u_T} {N ci index a : Nat} (hin : ∀ w ∈ u_ws Cn T N, w ∈ Ts) (ty0 : Nat → FieldType) (hty : ∀ k, k < N → parseFieldDescriptor (T k).2.2.1 = some (ty0 k)) (hnm : ∀ a, a < N → ∀ b, b < N → a ≠ b → (T a).2.1 ≠ (T b).2.1) (q0 : Nat) {fs : List Value} (he : (w u)[q0]? = some (a, .inr (ci, fs))) (hc : cl[ci]? = some (Cn, T, N)) (f : Nat) (hf : f < N) (hl0 : Cond.fieldLink own index ref (T f).2.1 (T f).2.2.1 ∈ Ts) (hsame : ref = (T f).1) (hfin : (T f).2.2.2 = false) {x : Int32} (hd : parseFieldDescriptor (T f).2.2.1 = some .int) (hl : f < fs.length) {u' : S} (hset : (w u).set q0 (a, .inr (ci, fs.set f (.int x))) = w u') (d : decode cc pc = .ok (.putfield index, 3))
    (K : V p l e R s m args below meth c D cl A w nL k n Q u' (pc + 3) ls st) : V p l e R s m args below meth c D cl A w nL k n Q u pc ls (.int x :: .ref a :: st) :=
  fun H locs la hP hS hl2 => va_put C.1 C.2.1 C.2.2.1 hin ty0 hty hnm C.2.2.2.1 C.2.2.2.2.1 hP (C.2.2.2.2.2.1 u) hS q0 he hc f hf (C.2.2.1 _ hl0) (fun _ h => by rw [hsame]; exact h) hfin hd (vp_nar_int x) rfl hl d (fun H1 locs1 hP1 _ hS1 => K H1 locs1 la (hset ▸ hP1) hS1 hl2)
theorem V_iald (C : vC p s m args meth c D cl tys X A w cc own Ts nL rt) (q0 t0 : Nat) {a N : Nat} {cA : ClassId} {f : Nat → Int32} (he : (w u)[q0]? = some (a, .inl (cA, N, .inl f))) (ht : tys[t0]? = some (cA, .int)) {i : Int32} (hin : vp_in i N) (d : decode cc pc = .ok (.iaload, 1))
    (K : V p l e R s m args below meth c D cl A w nL k n Q u (pc + 1) ls (.int (f i.toNatClampNeg) :: st)) : V p l e R s m args below meth c D cl A w nL k n Q u pc ls (.int i :: .ref a :: st) :=
  fun H locs la hP hS hl => va_iald C.1 C.2.1 C.2.2.2.2.1 hP q0 t0 he ht hin d (K H locs la hP hS hl)
theorem V_zald (C : vC p s m args meth c D cl tys X A w cc own Ts nL rt) (q0 t0 : Nat) {a N : Nat} {cA : ClassId} {f : Nat → Int32} (he : (w u)[q0]? = some (a, .inl (cA, N, .inl f))) (ht : tys[t0]? = some (cA, .boolean)) {i : Int32} (hin : vp_in i N) (d : decode cc pc = .ok (.baload, 1))
    (K : V p l e R s m args below meth c D cl A w nL k n Q u (pc + 1) ls (.int (f i.toNatClampNeg) :: st)) : V p l e R s m args below meth c D cl A w nL k n Q u pc ls (.int i :: .ref a :: st) :=
  fun H locs la hP hS hl => va_zald C.1 C.2.1 C.2.2.2.2.1 hP q0 t0 he ht hin d (K H locs la hP hS hl)
theorem V_iast (C : vC p s m args meth c D cl tys X A w cc own Ts nL rt) (q0 t0 : Nat) {a N : Nat} {cA : ClassId} {f : Nat → Int32} (he : (w u)[q0]? = some (a, .inl (cA, N, .inl f))) (ht : tys[t0]? = some (cA, .int)) {i x : Int32} (hin : vp_in i N) {u' : S} (hset : (w u).set q0 (a, .inl (cA, N, .inl (upd f i.toNatClampNeg x))) = w u') (d : decode cc pc = .ok (.iastore, 1))
    (K : V p l e R s m args below meth c D cl A w nL k n Q u' (pc + 1) ls st) : V p l e R s m args below meth c D cl A w nL k n Q u pc ls (.int x :: .int i :: .ref a :: st) :=
  fun H locs la hP hS hl => va_iast C.1 C.2.1 C.2.2.2.2.1 hP (C.2.2.2.2.2.1 u) hS q0 t0 he ht hin d (fun H1 locs1 hP1 _ hS1 => K H1 locs1 la (hset ▸ hP1) hS1 hl)
theorem V_zast (C : vC p s m args meth c D cl tys X A w cc own Ts nL rt) (q0 t0 : Nat) {a N : Nat} {cA : ClassId} {f : Nat → Int32} (he : (w u)[q0]? = some (a, .inl (cA, N, .inl f))) (ht : tys[t0]? = some (cA, .boolean)) {i x : Int32} (hin : vp_in i N) (hx : vp_nar .boolean x = x) {u' : S} (hset : (w u).set q0 (a, .inl (cA, N, .inl (upd f i.toNatClampNeg x))) = w u') (d : decode cc pc = .ok (.bastore, 1))
    (K : V p l e R s m args below meth c D cl A w nL k n Q u' (pc + 1) ls st) : V p l e R s m args below meth c D cl A w nL k n Q u pc ls (.int x :: .int i :: .ref a :: st) :=
  fun H locs la hP hS hl => va_zast C.1 C.2.1 C.2.2.2.2.1 hP (C.2.2.2.2.2.1 u) hS q0 t0 he ht hin d (fun H1 locs1 hP1 _ hS1 => by rw [hx] at hP1; exact K H1 locs1 la (hset ▸ hP1) hS1 hl)
theorem V_alen (C : vC p s m args meth c D cl tys X A w cc own Ts nL rt) (q0 t0 : Nat) {a : Nat} {cA : ClassId} {x : vp_A} (he : (w u)[q0]? = some (a, .inl (cA, x))) {ty : FieldType} (ht : tys[t0]? = some (cA, ty)) {v : Int32} (hv : Int32.ofNat x.1 = v) (d : decode cc pc = .ok (.arraylength, 1))
    (K : V p l e R s m args below meth c D cl A w nL k n Q u (pc + 1) ls (.int v :: st)) : V p l e R s m args below meth c D cl A w nL k n Q u pc ls (.ref a :: st) :=
  fun H locs la hP hS hl => va_alen C.1 C.2.1 C.2.2.2.2.1 hP q0 t0 he ht hv d (K H locs la hP hS hl)
theorem V_mmax (C : vC p s m args meth c D cl tys X A w cc own Ts nL rt) {index : Nat} (h1 : Cond.methodLink own index Lib.Math.max.name ∈ Ts) (h2 : Cond.static Lib.Math.max.name ∈ Ts) (h3 : Cond.initialized "java/lang/Math" ∈ Ts) (h4 : Cond.code Lib.Math.max.name Lib.Math.max.code 2 (some .int) ∈ Ts) (hf : 1 ≤ R.frames) (hlo : (st.map fun v => v.category).sum + 13 ≤ R.locals) (hk : k ≤ R.cells) (hn : n ≤ R.slots) {x y : Int32} (d : decode cc pc = .ok (.invokestatic index, 3))
    (K : V p l e R s m args below meth c D cl A w nL k n Q u (pc + 3) ls (.int (if x < y then y else x) :: st)) : V p l e R s m args below meth c D cl A w nL k n Q u pc ls (.int y :: .int x :: st) :=
  fun H locs la hP hS hl => va_mmax C.1 C.2.1 (C.2.2.2.2.2.2.2.1.trans hl.1.symm) C.2.2.2.1 (C.2.2.1 _ h1) (C.2.2.1 _ h2) (C.2.2.1 _ h3) (C.2.2.1 _ h4) hf hlo hk hn d (K H locs la hP hS hl)
theorem V_mmin (C : vC p s m args meth c D cl tys X A w cc own Ts nL rt) {index : Nat} (h1 : Cond.methodLink own index Lib.Math.min.name ∈ Ts) (h2 : Cond.static Lib.Math.min.name ∈ Ts) (h3 : Cond.initialized "java/lang/Math" ∈ Ts) (h4 : Cond.code Lib.Math.min.name Lib.Math.min.code 2 (some .int) ∈ Ts) (hf : 1 ≤ R.frames) (hlo : (st.map fun v => v.category).sum + 13 ≤ R.locals) (hk : k ≤ R.cells) (hn : n ≤ R.slots) {x y : Int32} (d : decode cc pc = .ok (.invokestatic index, 3))
    (K : V p l e R s m args below meth c D cl A w nL k n Q u (pc + 3) ls (.int (if y < x then y else x) :: st)) : V p l e R s m args below meth c D cl A w nL k n Q u pc ls (.int y :: .int x :: st) :=
  fun H locs la hP hS hl => va_mmin C.1 C.2.1 (C.2.2.2.2.2.2.2.1.trans hl.1.symm) C.2.2.2.1 (C.2.2.1 _ h1) (C.2.2.1 _ h2) (C.2.2.1 _ h3) (C.2.2.1 _ h4) hf hlo hk hn d (K H locs la hP hS hl)
theorem V_ls {ls' : List (Nat × Value)} (h : ls = ls') (K : V p l e R s m args below meth c D cl A w nL k n Q u pc ls' st) : V p l e R s m args below meth c D cl A w nL k n Q u pc ls st := by rw [h]; exact K
/-- a choice that only yields a value, joined again at J -/
theorem V_join1 (J : Nat) (T : Int32) {a : Value} (h1 : ∀ y : Int32, T = y → V p l e R s m args below meth c D cl A w nL k n Q u J ls (.int y :: st)) (h2 : (∀ y : Int32, T = y → V p l e R s m args below meth c D cl A w nL k n Q u J ls (.int y :: st)) → V p l e R s m args below meth c D cl A w nL k n Q u pc ls (a :: st)) : V p l e R s m args below meth c D cl A w nL k n Q u pc ls (a :: st) := h2 h1
theorem V_join2 (J : Nat) (T : Int32) {a b : Value} (h1 : ∀ y : Int32, T = y → V p l e R s m args below meth c D cl A w nL k n Q u J ls (.int y :: st)) (h2 : (∀ y : Int32, T = y → V p l e R s m args below meth c D cl A w nL k n Q u J ls (.int y :: st)) → V p l e R s m args below meth c D cl A w nL k n Q u pc ls (a :: b :: st)) : V p l e R s m args below meth c D cl A w nL k n Q u pc ls (a :: b :: st) := h2 h1
end VL
section VMM
variable {p : Program} {l : Launch} {e : Env} {R : Room} {s : State} {m : MethodId} {args : Array Value} {below : List Frame} {meth : Method} {c : Code} {D : va_G} {cl : List vw_C} {tys : List (ClassId × FieldType)} {X : State → Prop} {A : Nat → Prop} {w : vM → va_W} {cc : ByteArray} {own : String} {Ts : List Cond} {nL k n : Nat} {rt : Option FieldType} {Q : State → Prop} {u : vM} {pc : Nat} {ls : List (Nat × Value)} {st : List Value}
theorem Vm_iald (C : vC p s m args meth c D cl tys X A w cc own Ts nL rt) (q0 t0 : Nat) {a N : Nat} {cA : ClassId} (he : (w u)[q0]? = some (a, .inl (cA, N, .inl (u q0)))) (ht : tys[t0]? = some (cA, .int)) {i : Int32} (hin : vp_in i N) (d : decode cc pc = .ok (.iaload, 1))
    (K : V p l e R s m args below meth c D cl A w nL k n Q u (pc + 1) ls (.int (mrd u q0 i) :: st)) : V p l e R s m args below meth c D cl A w nL k n Q u pc ls (.int i :: .ref a :: st) := V_iald C q0 t0 he ht hin d K
theorem Vm_zald (C : vC p s m args meth c D cl tys X A w cc own Ts nL rt) (q0 t0 : Nat) {a N : Nat} {cA : ClassId} (he : (w u)[q0]? = some (a, .inl (cA, N, .inl (u q0)))) (ht : tys[t0]? = some (cA, .boolean)) {i : Int32} (hin : vp_in i N) (d : decode cc pc = .ok (.baload, 1))
    (K : V p l e R s m args below meth c D cl A w nL k n Q u (pc + 1) ls (.int (mrd u q0 i) :: st)) : V p l e R s m args below meth c D cl A w nL k n Q u pc ls (.int i :: .ref a :: st) := V_zald C q0 t0 he ht hin d K
theorem Vm_iast (C : vC p s m args meth c D cl tys X A w cc own Ts nL rt) (q0 t0 : Nat) {a N : Nat} {cA : ClassId} (he : (w u)[q0]? = some (a, .inl (cA, N, .inl (u q0)))) (ht : tys[t0]? = some (cA, .int)) {i x : Int32} (hin : vp_in i N) (hset : (w u).set q0 (a, .inl (cA, N, .inl (upd (u q0) i.toNatClampNeg x))) = w (mR u q0 (upd (u q0) i.toNatClampNeg x))) (d : decode cc pc = .ok (.iastore, 1))
    (K : V p l e R s m args below meth c D cl A w nL k n Q (mup u q0 i x) (pc + 1) ls st) : V p l e R s m args below meth c D cl A w nL k n Q u pc ls (.int x :: .int i :: .ref a :: st) := V_iast C q0 t0 he ht hin hset d K
theorem Vm_zast (C : vC p s m args meth c D cl tys X A w cc own Ts nL rt) (q0 t0 : Nat) {a N : Nat} {cA : ClassId} (he : (w u)[q0]? = some (a, .inl (cA, N, .inl (u q0)))) (ht : tys[t0]? = some (cA, .boolean)) {i x : Int32} (hin : vp_in i N) (hx : narrow .boolean (.int x) = .int x) (hset : (w u).set q0 (a, .inl (cA, N, .inl (upd (u q0) i.toNatClampNeg x))) = w (mR u q0 (upd (u q0) i.toNatClampNeg x))) (d : decode cc pc = .ok (.bastore, 1))
    (K : V p l e R s m args below meth c D cl A w nL k n Q (mup u q0 i x) (pc + 1) ls st) : V p l e R s m args below meth c D cl A w nL k n Q u pc ls (.int x :: .int i :: .ref a :: st) := V_zast C q0 t0 he ht hin (by unfold vp_nar; rw [hx]) hset d K
end VMM
theorem nb_of {x : Int32} (h : x = 0 ∨ x = 1) : narrow .boolean (.int x) = .int x := by rcases h with rfl | rfl <;> rfl
/-- a counter that falls: n rounds are left, the counter stands at n - 1 -/
def nD : Nat → Int32
  | 0 => -1
  | n + 1 => nI n
theorem nD_dec (n : Nat) : nI n + Int32.ofInt (-1) = nD n := by
  cases n with
  | zero => decide
  | succ n =>
    show nI (n + 1) + Int32.ofInt (-1) = nI n
    rw [← nI_pred n]
    generalize nI (n + 1) = z
    apply Int32.toBitVec_inj.mp
    simp [Int32.sub_eq_add_neg]
/-! CONTRACTS: what a method needs and leaves, over one family's memory -/
def mPc {S : Type} (D : va_G) (cl : List vw_C) (tys : List (ClassId × FieldType)) (X : State → Prop) (w : S → va_W) (As : List Value) (u : S) (sz : Nat) : Array Value → State → Prop :=
  va_Pc As (fun U => U.heap.size = sz ∧ va_P D cl (w u) U.heap ∧ va_K D cl tys U ∧ va_D (fun _ => True) (w u) ∧ X U)
def mQi {S : Type} (D : va_G) (cl : List vw_C) (w : S → va_W) (A : Nat → Prop) (r : Int32) (u' : S) : Array Value → State → Outcome → State → Prop := va_Qi (fun (r' : Int32) (_ : Unit) => r' = r) (fun _ t => va_P D cl (w u') t.heap) A
def mQv {S : Type} (D : va_G) (cl : List vw_C) (w : S → va_W) (A : Nat → Prop) (u' : S) : Array Value → State → Outcome → State → Prop := va_Qv (fun _ : Unit => True) (fun _ t => va_P D cl (w u') t.heap) A
/-- returns the int r, leaves the memory u' -/
def mI {S : Type} (D : va_G) (cl : List vw_C) (tys : List (ClassId × FieldType)) (X : State → Prop) (w : S → va_W) (l : Launch) (y : MethodName) (ws : List Cond) (rm : Room) (As : List Value) (u : S) (r : Int32) (u' : S) : Prop :=
  ∀ sz : Nat, Met l y ws rm (mPc D cl tys X w As u sz) (mQi D cl w (va_A (w u) sz) r u') 0 0 (va_A (w u) sz)
/-- returns nothing, leaves the memory u' -/
def mV {S : Type} (D : va_G) (cl : List vw_C) (tys : List (ClassId × FieldType)) (X : State → Prop) (w : S → va_W) (l : Launch) (y : MethodName) (ws : List Cond) (rm : Room) (As : List Value) (u : S) (u' : S) : Prop :=
  ∀ sz : Nat, Met l y ws rm (mPc D cl tys X w As u sz) (mQv D cl w (va_A (w u) sz) u') 0 0 (va_A (w u) sz)
/-- premises that the tables alone decide -/
def xOK (X : State → Prop) : Prop := ∀ s U : State, s.WarmedH U.vm → X s → X U
theorem va_D.addr {A : Nat → Prop} {w1 w2 : va_W} (h : va_D A w1) (e : w1.map Prod.fst = w2.map Prod.fst) : va_D A w2 := by
  have key : ∀ (k : Nat) (q : Nat × va_E), w2[k]? = some q → ∃ q1, w1[k]? = some q1 ∧ q1.1 = q.1 := by
    intro k q hq
    have h1 : (w2.map Prod.fst)[k]? = some q.1 := by rw [List.getElem?_map, hq]; rfl
    rw [← e, List.getElem?_map] at h1
    cases hz : w1[k]? with
    | none => rw [hz] at h1; cases h1
    | some z => rw [hz] at h1; exact ⟨z, rfl, Option.some.inj h1⟩
  refine ⟨fun i j a b ha hb hab => ?_, fun k q hq => ?_⟩
  · obtain ⟨a1, g1, g2⟩ := key i a ha
    obtain ⟨b1, g3, g4⟩ := key j b hb
    exact h.1 i j a1 b1 g1 g3 (by rw [g2, g4]; exact hab)
  · obtain ⟨q1, g1, g2⟩ := key k q hq
    rw [← g2]
    exact h.2 k q1 g1
def wOK {S : Type} (w : S → va_W) : Prop := ∀ u u' : S, (w u).map Prod.fst = (w u').map Prod.fst
theorem mI_of {own : String} {S : Type} {D : va_G} {cl : List vw_C} {tys : List (ClassId × FieldType)} {X : State → Prop} {w : S → va_W} {l : Launch} {y : MethodName} {ws ws' : List Cond} {rm : Room} {As : List Value} {u : S} {r : Int32} {u' : S} {cc : ByteArray} {maxL : Nat} {ret : Option FieldType}
    (ho : y.cls = own) (hy : plainName y.cls = true) (hws : ws = Cond.code y cc maxL ret :: ws') (hw : wOK w) (hlen : (lg_sl As).length ≤ maxL)
    (body : ∀ (p : Program) (e : Env) (s : State) (m : MethodId) (args : Array Value) (below : List Frame) (meth : Method) (c : Code) (A : Nat → Prop), vC p s m args meth c D cl tys X A w cc own ws maxL ret → V p l e rm s m args below meth c D cl A w maxL 0 0 (MQ below (mQi D cl w A r u') args s 0 0 A) u 0 (lv_args 0 As) []) : mI D cl tys X w l y ws rm As u r u' := by
  intro sz
  refine Met.ofW (cc := cc) (maxL := maxL) (ret := ret) hy hws ?_
  intro p e s m args below meth c s₁ B hml hv
  obtain ⟨rfl, hsz, hP, hK, hD, hX⟩ := hv
  subst hsz
  have C : vC p s m As.toArray meth c D cl tys X (va_A (w u) s.heap.size) w cc own ws maxL ret := ⟨B.exec, B.bytes, atoms_spec (ws := ws) B.pre, by rw [← ho]; exact findClass_of_methodNamed B.named, hK, fun u2 => va_D.addr (hD.self (sz := s.heap.size)) (hw u u2), fun q h => Or.inr h, hml, B.notSynchronized, B.returns, hX⟩
  have hl := lv_entry As (n := maxL) hlen
  rw [lg_entry_eq]
  exact body p e s m _ below meth c _ C s.heap [] _ hP va_S.rf hl
theorem mV_of {own : String} {S : Type} {D : va_G} {cl : List vw_C} {tys : List (ClassId × FieldType)} {X : State → Prop} {w : S → va_W} {l : Launch} {y : MethodName} {ws ws' : List Cond} {rm : Room} {As : List Value} {u : S} {u' : S} {cc : ByteArray} {maxL : Nat} {ret : Option FieldType}
    (ho : y.cls = own) (hy : plainName y.cls = true) (hws : ws = Cond.code y cc maxL ret :: ws') (hw : wOK w) (hlen : (lg_sl As).length ≤ maxL)
    (body : ∀ (p : Program) (e : Env) (s : State) (m : MethodId) (args : Array Value) (below : List Frame) (meth : Method) (c : Code) (A : Nat → Prop), vC p s m args meth c D cl tys X A w cc own ws maxL ret → V p l e rm s m args below meth c D cl A w maxL 0 0 (MQ below (mQv D cl w A u') args s 0 0 A) u 0 (lv_args 0 As) []) : mV D cl tys X w l y ws rm As u u' := by
  intro sz
  refine Met.ofW (cc := cc) (maxL := maxL) (ret := ret) hy hws ?_
  intro p e s m args below meth c s₁ B hml hv
  obtain ⟨rfl, hsz, hP, hK, hD, hX⟩ := hv
  subst hsz
  have C : vC p s m As.toArray meth c D cl tys X (va_A (w u) s.heap.size) w cc own ws maxL ret := ⟨B.exec, B.bytes, atoms_spec (ws := ws) B.pre, by rw [← ho]; exact findClass_of_methodNamed B.named, hK, fun u2 => va_D.addr (hD.self (sz := s.heap.size)) (hw u u2), fun q h => Or.inr h, hml, B.notSynchronized, B.returns, hX⟩
  have hl := lv_entry As (n := maxL) hlen
  rw [lg_entry_eq]
  exact body p e s m _ below meth c _ C s.heap [] _ hP va_S.rf hl
section VR
variable {p : Program} {l : Launch} {e : Env} {R : Room} {s : State} {m : MethodId} {args : Array Value} {below : List Frame} {meth : Method} {c : Code} {S : Type} {D : va_G} {cl : List vw_C} {tys : List (ClassId × FieldType)} {X : State → Prop} {A : Nat → Prop} {w : S → va_W} {cc : ByteArray} {own : String} {Ts : List Cond} {nL k n : Nat} {rt : Option FieldType} {Q : State → Prop} {u : S} {pc : Nat} {ls : List (Nat × Value)} {st : List Value}
theorem V_iret (C : vC p s m args meth c D cl tys X A w cc own Ts nL rt) {x r : Int32} {ty : FieldType} {u' : S} (hrt : rt = some ty) (hn : narrow ty (.int x) = .int x) (e1 : r = x) (e2 : u' = u) (d : decode cc pc = .ok (.ireturn, 1)) : V p l e R s m args below meth c D cl A w nL k n (MQ below (mQi D cl w A r u') args s k n A) u pc ls [.int x] :=
  fun H locs la hP hS hl => W.zret C.1 C.2.1 (C.2.2.2.2.2.2.2.2.2.1.trans hrt) hn (fun t ht _ => ⟨⟨x, (), rfl, e1.symm, by show va_P D cl (w u') t.heap; rw [ht, e2]; exact hP⟩, hS.F ht⟩) hS.2.2 d C.2.2.2.2.2.2.2.2.1
theorem V_vret (C : vC p s m args meth c D cl tys X A w cc own Ts nL rt) {u' : S} (hrt : rt = none) (e2 : u' = u) (d : decode cc pc = .ok (.return_, 1)) : V p l e R s m args below meth c D cl A w nL 0 0 (MQ below (mQv D cl w A u') args s 0 0 A) u pc ls [] :=
  fun H locs la hP hS hl => W.vret C.1 C.2.1 (C.2.2.2.2.2.2.2.2.2.1.trans hrt) (fun t ht _ => ⟨⟨(), rfl, trivial, by show va_P D cl (w u') t.heap; rw [ht, e2]; exact hP⟩, hS.F ht⟩) hS.2.2 d C.2.2.2.2.2.2.2.2.1
variable {y : MethodName} {bytes : ByteArray} {maxL index nn : Nat} {ret : Option FieldType} {ws : List Cond} {rm : Room} {Cn host : String} {T : u_T} {N ci : Nat} {b : Addr} {As : List Value} {r : Int32} {u' : S}
theorem mPc_blind (hX : xOK X) {As' : List Value} {u0 : S} {sz : Nat} : FrameBlind (mPc D cl tys X w As' u0 sz) := by
  intro a U g mk q
  obtain ⟨q1, q2, q3, q4, q5, q6⟩ := q
  exact ⟨q1, q2, q3, va_K.moved (u := U) (U := U.calling g mk a) (Vm.Alike.refl U.vm) q4, q5, hX U (U.calling g mk a) (State.WarmedH.refl U) q6⟩
theorem mPc_at (C : vC p s m args meth c D cl tys X A w cc own Ts nL rt) (hX : xOK X) {H : Heap} (hP : va_P D cl (w u) H) {As' : List Value} (U : State) (hU : U.heap = H) (hW : s.WarmedH U.vm) : mPc D cl tys X w As' u H.size As'.toArray U :=
  ⟨rfl, by rw [hU], by rw [hU]; exact hP, va_K.moved hW.alike C.2.2.2.2.1, (C.2.2.2.2.2.1 u).weaken (fun _ _ _ _ => trivial), hX s U hW C.2.2.2.2.2.2.2.2.2.2⟩
theorem vA_sub (C : vC p s m args meth c D cl tys X A w cc own Ts nL rt) {H : Heap} {locs : List Loc} (hS : va_S A s.heap H locs) (q : Nat) (h : va_A (w u) H.size q) : A q := by
  rcases h with ⟨j, e', hj⟩ | h
  · exact (C.2.2.2.2.2.1 u).2 j _ hj
  · exact C.2.2.2.2.2.2.1 q (Nat.le_trans hS.1 h)
theorem V_runI (C : vC p s m args meth c D cl tys X A w cc own Ts nL rt) (hr : ∀ (H : Heap) (locs : List Loc) (la : Array Slot), va_P D cl (w u) H → la.size = nL → va_Run p l e R s m args below meth c H locs k n 0 0 (F0 m pc la (As.reverse ++ st)) st (mQi D cl w (va_A (w u) H.size) r u' As.toArray) (va_A (w u) H.size))
    (K : V p l e R s m args below meth c D cl A w nL k n Q u' (pc + 3) ls (.int r :: st)) : V p l e R s m args below meth c D cl A w nL k n Q u pc ls (As.reverse ++ st) := by
  intro H locs la hP hS hl
  refine va_calli (hr H locs la hP hl.1) hS (fun q _ h => vA_sub C hS q h) (fun q h => vA_sub C hS q h) (fun r' _ t H1 locs1 ht hvm hw hB hz hk1 hS1 => ?_)
  subst hw
  rw [ht] at hB
  exact K H1 locs1 la hB hS1 hl
theorem V_runV (C : vC p s m args meth c D cl tys X A w cc own Ts nL rt) (hr : ∀ (H : Heap) (locs : List Loc) (la : Array Slot), va_P D cl (w u) H → la.size = nL → va_Run p l e R s m args below meth c H locs k n 0 0 (F0 m pc la (As.reverse ++ st)) st (mQv D cl w (va_A (w u) H.size) u' As.toArray) (va_A (w u) H.size))
    (K : V p l e R s m args below meth c D cl A w nL k n Q u' (pc + 3) ls st) : V p l e R s m args below meth c D cl A w nL k n Q u pc ls (As.reverse ++ st) := by
  intro H locs la hP hS hl
  refine va_callv (hr H locs la hP hl.1) hS (fun q _ h => vA_sub C hS q h) (fun q h => vA_sub C hS q h) (fun _ t H1 locs1 ht hvm hw hB hz hk1 hS1 => ?_)
  rw [ht] at hB
  exact K H1 locs1 la hB hS1 hl
theorem vfx (C : vC p s m args meth c D cl tys X A w cc own Ts nL rt) : CallFix p m c cc nL s args Ts own := ⟨C.1, C.2.1, C.2.2.2.2.2.2.2.1, C.2.2.2.1, C.2.2.1⟩
theorem rev_app (As : List Value) (b : Value) (st : List Value) : (b :: As).reverse ++ st = As.reverse ++ b :: st := by simp
/-- private or public, of an object of the family -/
theorem V_callVi (C : vC p s m args meth c D cl tys X A w cc own Ts nL rt) (hX : xOK X) (h : mI D cl tys X w l y ws rm (.ref b :: As) u r u') (cw : CallW R s args own Cn index y bytes maxL ret ws rm 0 0 nn) (q0 : Nat) {fs : List Value} (he : (w u)[q0]? = some (b, .inr (ci, fs))) (hc : cl[ci]? = some (Cn, T, N)) (hn : As.length = nn) (hst : (st.map fun v => v.category).sum ≤ 8) (hk : k + 0 ≤ R.cells ∧ n + 0 ≤ R.slots) (d : decode cc pc = .ok (.invokevirtual index, 3))
    (K : V p l e R s m args below meth c D cl A w nL k n Q u' (pc + 3) ls (.int r :: st)) : V p l e R s m args below meth c D cl A w nL k n Q u pc ls (As.reverse ++ .ref b :: st) := by
  have g := V_runI (As := .ref b :: As) (st := st) C (fun H locs la hP hl => va_runV (b := b) (As := As) (rest := st) (vfx C) (h H.size) cw ⟨mPc_blind hX, va_recv C.2.2.2.2.1 hP hc he, fun U hU hW => mPc_at C hX hP U hU hW⟩ rfl hn hl (rev_app As (.ref b) st) (lv_room hst) d hk) K
  rw [rev_app] at g
  exact g
theorem V_callVv (C : vC p s m args meth c D cl tys X A w cc own Ts nL rt) (hX : xOK X) (h : mV D cl tys X w l y ws rm (.ref b :: As) u u') (cw : CallW R s args own Cn index y bytes maxL ret ws rm 0 0 nn) (q0 : Nat) {fs : List Value} (he : (w u)[q0]? = some (b, .inr (ci, fs))) (hc : cl[ci]? = some (Cn, T, N)) (hn : As.length = nn) (hst : (st.map fun v => v.category).sum ≤ 8) (hk : k + 0 ≤ R.cells ∧ n + 0 ≤ R.slots) (d : decode cc pc = .ok (.invokevirtual index, 3))
    (K : V p l e R s m args below meth c D cl A w nL k n Q u' (pc + 3) ls st) : V p l e R s m args below meth c D cl A w nL k n Q u pc ls (As.reverse ++ .ref b :: st) := by
  have g := V_runV (As := .ref b :: As) (st := st) C (fun H locs la hP hl => va_runV (b := b) (As := As) (rest := st) (vfx C) (h H.size) cw ⟨mPc_blind hX, va_recv C.2.2.2.2.1 hP hc he, fun U hU hW => mPc_at C hX hP U hU hW⟩ rfl hn hl (rev_app As (.ref b) st) (lv_room hst) d hk) K
  rw [rev_app] at g
  exact g
/-- private, of a nest mate's object -/
theorem V_callVNi (C : vC p s m args meth c D cl tys X A w cc own Ts nL rt) (hX : xOK X) (h : mI D cl tys X w l y ws rm (.ref b :: As) u r u') (cw : va_CN R s args own index y host bytes maxL ret ws rm 0 0 nn ∧ (Cond.instanceMethod y).before args s = true ∧ (Cond.selects Cn y y).before args s = true) (q0 : Nat) {fs : List Value} (he : (w u)[q0]? = some (b, .inr (ci, fs))) (hc : cl[ci]? = some (Cn, T, N)) (hn : As.length = nn) (hst : (st.map fun v => v.category).sum ≤ 8) (hk : k + 0 ≤ R.cells ∧ n + 0 ≤ R.slots) (d : decode cc pc = .ok (.invokevirtual index, 3))
    (K : V p l e R s m args below meth c D cl A w nL k n Q u' (pc + 3) ls (.int r :: st)) : V p l e R s m args below meth c D cl A w nL k n Q u pc ls (As.reverse ++ .ref b :: st) := by
  have g := V_runI (As := .ref b :: As) (st := st) C (fun H locs la hP hl => va_runVN (b := b) (As := As) (rest := st) (vfx C) (h H.size) cw ⟨mPc_blind hX, va_recv C.2.2.2.2.1 hP hc he, fun U hU hW => mPc_at C hX hP U hU hW⟩ rfl hn hl (rev_app As (.ref b) st) (lv_room hst) d hk) K
  rw [rev_app] at g
  exact g
theorem V_callSi (C : vC p s m args meth c D cl tys X A w cc own Ts nL rt) (hX : xOK X) (h : mI D cl tys X w l y ws rm As u r u') (cw : CallB R s args own index y bytes maxL ret ws rm 0 0 nn ∧ (Cond.static y).before args s = true) (hn : As.length = nn) (hst : (st.map fun v => v.category).sum ≤ 8) (hk : k + 0 ≤ R.cells ∧ n + 0 ≤ R.slots) (d : decode cc pc = .ok (.invokestatic index, 3))
    (K : V p l e R s m args below meth c D cl A w nL k n Q u' (pc + 3) ls (.int r :: st)) : V p l e R s m args below meth c D cl A w nL k n Q u pc ls (As.reverse ++ st) :=
  V_runI C (fun H locs la hP hl => va_runS (As := As) (rest := st) (vfx C) (h H.size) cw ⟨mPc_blind hX, fun U hU hW => mPc_at C hX hP U hU hW⟩ rfl hn hl rfl (lv_room hst) d hk) K
theorem V_callSNi (C : vC p s m args meth c D cl tys X A w cc own Ts nL rt) (hX : xOK X) (h : mI D cl tys X w l y ws rm As u r u') (cw : va_CN R s args own index y host bytes maxL ret ws rm 0 0 nn ∧ (Cond.static y).before args s = true ∧ True) (hn : As.length = nn) (hst : (st.map fun v => v.category).sum ≤ 8) (hk : k + 0 ≤ R.cells ∧ n + 0 ≤ R.slots) (d : decode cc pc = .ok (.invokestatic index, 3))
    (K : V p l e R s m args below meth c D cl A w nL k n Q u' (pc + 3) ls (.int r :: st)) : V p l e R s m args below meth c D cl A w nL k n Q u pc ls (As.reverse ++ st) :=
  V_runI C (fun H locs la hP hl => va_runSN (As := As) (rest := st) (vfx C) (h H.size) cw ⟨mPc_blind hX, fun U hU hW => mPc_at C hX hP U hU hW⟩ rfl hn hl rfl (lv_room hst) d hk) K
theorem V_cVi0 (C : vC p s m args meth c D cl tys X A w cc own Ts nL rt) (hX : xOK X) (h : mI D cl tys X w l y ws rm (.ref b :: []) u r u') (cw : CallW R s args own Cn index y bytes maxL ret ws rm 0 0 0) (q0 : Nat) {fs : List Value} (he : (w u)[q0]? = some (b, .inr (ci, fs))) (hc : cl[ci]? = some (Cn, T, N)) (hst : (st.map fun v => v.category).sum ≤ 8) (hk : k + 0 ≤ R.cells ∧ n + 0 ≤ R.slots) (d : decode cc pc = .ok (.invokevirtual index, 3)) (K : V p l e R s m args below meth c D cl A w nL k n Q u' (pc + 3) ls (.int r :: st)) : V p l e R s m args below meth c D cl A w nL k n Q u pc ls (.ref b :: st) := V_callVi (As := []) C hX h cw q0 he hc rfl hst hk d K
theorem V_cVi1 (C : vC p s m args meth c D cl tys X A w cc own Ts nL rt) (hX : xOK X) {v1 : Value} (h : mI D cl tys X w l y ws rm (.ref b :: [v1]) u r u') (cw : CallW R s args own Cn index y bytes maxL ret ws rm 0 0 1) (q0 : Nat) {fs : List Value} (he : (w u)[q0]? = some (b, .inr (ci, fs))) (hc : cl[ci]? = some (Cn, T, N)) (hst : (st.map fun v => v.category).sum ≤ 8) (hk : k + 0 ≤ R.cells ∧ n + 0 ≤ R.slots) (d : decode cc pc = .ok (.invokevirtual index, 3)) (K : V p l e R s m args below meth c D cl A w nL k n Q u' (pc + 3) ls (.int r :: st)) : V p l e R s m args below meth c D cl A w nL k n Q u pc ls (v1 :: .ref b :: st) := V_callVi (As := [v1]) C hX h cw q0 he hc rfl hst hk d K
theorem V_cVi2 (C : vC p s m args meth c D cl tys X A w cc own Ts nL rt) (hX : xOK X) {v1 v2 : Value} (h : mI D cl tys X w l y ws rm (.ref b :: [v1, v2]) u r u') (cw : CallW R s args own Cn index y bytes maxL ret ws rm 0 0 2) (q0 : Nat) {fs : List Value} (he : (w u)[q0]? = some (b, .inr (ci, fs))) (hc : cl[ci]? = some (Cn, T, N)) (hst : (st.map fun v => v.category).sum ≤ 8) (hk : k + 0 ≤ R.cells ∧ n + 0 ≤ R.slots) (d : decode cc pc = .ok (.invokevirtual index, 3)) (K : V p l e R s m args below meth c D cl A w nL k n Q u' (pc + 3) ls (.int r :: st)) : V p l e R s m args below meth c D cl A w nL k n Q u pc ls (v2 :: v1 :: .ref b :: st) := V_callVi (As := [v1, v2]) C hX h cw q0 he hc rfl hst hk d K
theorem V_cVi3 (C : vC p s m args meth c D cl tys X A w cc own Ts nL rt) (hX : xOK X) {v1 v2 v3 : Value} (h : mI D cl tys X w l y ws rm (.ref b :: [v1, v2, v3]) u r u') (cw : CallW R s args own Cn index y bytes maxL ret ws rm 0 0 3) (q0 : Nat) {fs : List Value} (he : (w u)[q0]? = some (b, .inr (ci, fs))) (hc : cl[ci]? = some (Cn, T, N)) (hst : (st.map fun v => v.category).sum ≤ 8) (hk : k + 0 ≤ R.cells ∧ n + 0 ≤ R.slots) (d : decode cc pc = .ok (.invokevirtual index, 3)) (K : V p l e R s m args below meth c D cl A w nL k n Q u' (pc + 3) ls (.int r :: st)) : V p l e R s m args below meth c D cl A w nL k n Q u pc ls (v3 :: v2 :: v1 :: .ref b :: st) := V_callVi (As := [v1, v2, v3]) C hX h cw q0 he hc rfl hst hk d K
theorem V_cVi4 (C : vC p s m args meth c D cl tys X A w cc own Ts nL rt) (hX : xOK X) {v1 v2 v3 v4 : Value} (h : mI D cl tys X w l y ws rm (.ref b :: [v1, v2, v3, v4]) u r u') (cw : CallW R s args own Cn index y bytes maxL ret ws rm 0 0 4) (q0 : Nat) {fs : List Value} (he : (w u)[q0]? = some (b, .inr (ci, fs))) (hc : cl[ci]? = some (Cn, T, N)) (hst : (st.map fun v => v.category).sum ≤ 8) (hk : k + 0 ≤ R.cells ∧ n + 0 ≤ R.slots) (d : decode cc pc = .ok (.invokevirtual index, 3)) (K : V p l e R s m args below meth c D cl A w nL k n Q u' (pc + 3) ls (.int r :: st)) : V p l e R s m args below meth c D cl A w nL k n Q u pc ls (v4 :: v3 :: v2 :: v1 :: .ref b :: st) := V_callVi (As := [v1, v2, v3, v4]) C hX h cw q0 he hc rfl hst hk d K
theorem V_cVi5 (C : vC p s m args meth c D cl tys X A w cc own Ts nL rt) (hX : xOK X) {v1 v2 v3 v4 v5 : Value} (h : mI D cl tys X w l y ws rm (.ref b :: [v1, v2, v3, v4, v5]) u r u') (cw : CallW R s args own Cn index y bytes maxL ret ws rm 0 0 5) (q0 : Nat) {fs : List Value} (he : (w u)[q0]? = some (b, .inr (ci, fs))) (hc : cl[ci]? = some (Cn, T, N)) (hst : (st.map fun v => v.category).sum ≤ 8) (hk : k + 0 ≤ R.cells ∧ n + 0 ≤ R.slots) (d : decode cc pc = .ok (.invokevirtual index, 3)) (K : V p l e R s m args below meth c D cl A w nL k n Q u' (pc + 3) ls (.int r :: st)) : V p l e R s m args below meth c D cl A w nL k n Q u pc ls (v5 :: v4 :: v3 :: v2 :: v1 :: .ref b :: st) := V_callVi (As := [v1, v2, v3, v4, v5]) C hX h cw q0 he hc rfl hst hk d K
theorem V_cVi6 (C : vC p s m args meth c D cl tys X A w cc own Ts nL rt) (hX : xOK X) {v1 v2 v3 v4 v5 v6 : Value} (h : mI D cl tys X w l y ws rm (.ref b :: [v1, v2, v3, v4, v5, v6]) u r u') (cw : CallW R s args own Cn index y bytes maxL ret ws rm 0 0 6) (q0 : Nat) {fs : List Value} (he : (w u)[q0]? = some (b, .inr (ci, fs))) (hc : cl[ci]? = some (Cn, T, N)) (hst : (st.map fun v => v.category).sum ≤ 8) (hk : k + 0 ≤ R.cells ∧ n + 0 ≤ R.slots) (d : decode cc pc = .ok (.invokevirtual index, 3)) (K : V p l e R s m args below meth c D cl A w nL k n Q u' (pc + 3) ls (.int r :: st)) : V p l e R s m args below meth c D cl A w nL k n Q u pc ls (v6 :: v5 :: v4 :: v3 :: v2 :: v1 :: .ref b :: st) := V_callVi (As := [v1, v2, v3, v4, v5, v6]) C hX h cw q0 he hc rfl hst hk d K
theorem V_cVv0 (C : vC p s m args meth c D cl tys X A w cc own Ts nL rt) (hX : xOK X) (h : mV D cl tys X w l y ws rm (.ref b :: []) u u') (cw : CallW R s args own Cn index y bytes maxL ret ws rm 0 0 0) (q0 : Nat) {fs : List Value} (he : (w u)[q0]? = some (b, .inr (ci, fs))) (hc : cl[ci]? = some (Cn, T, N)) (hst : (st.map fun v => v.category).sum ≤ 8) (hk : k + 0 ≤ R.cells ∧ n + 0 ≤ R.slots) (d : decode cc pc = .ok (.invokevirtual index, 3)) (K : V p l e R s m args below meth c D cl A w nL k n Q u' (pc + 3) ls st) : V p l e R s m args below meth c D cl A w nL k n Q u pc ls (.ref b :: st) := V_callVv (As := []) C hX h cw q0 he hc rfl hst hk d K
theorem V_cVv1 (C : vC p s m args meth c D cl tys X A w cc own Ts nL rt) (hX : xOK X) {v1 : Value} (h : mV D cl tys X w l y ws rm (.ref b :: [v1]) u u') (cw : CallW R s args own Cn index y bytes maxL ret ws rm 0 0 1) (q0 : Nat) {fs : List Value} (he : (w u)[q0]? = some (b, .inr (ci, fs))) (hc : cl[ci]? = some (Cn, T, N)) (hst : (st.map fun v => v.category).sum ≤ 8) (hk : k + 0 ≤ R.cells ∧ n + 0 ≤ R.slots) (d : decode cc pc = .ok (.invokevirtual index, 3)) (K : V p l e R s m args below meth c D cl A w nL k n Q u' (pc + 3) ls st) : V p l e R s m args below meth c D cl A w nL k n Q u pc ls (v1 :: .ref b :: st) := V_callVv (As := [v1]) C hX h cw q0 he hc rfl hst hk d K
theorem V_cVv2 (C : vC p s m args meth c D cl tys X A w cc own Ts nL rt) (hX : xOK X) {v1 v2 : Value} (h : mV D cl tys X w l y ws rm (.ref b :: [v1, v2]) u u') (cw : CallW R s args own Cn index y bytes maxL ret ws rm 0 0 2) (q0 : Nat) {fs : List Value} (he : (w u)[q0]? = some (b, .inr (ci, fs))) (hc : cl[ci]? = some (Cn, T, N)) (hst : (st.map fun v => v.category).sum ≤ 8) (hk : k + 0 ≤ R.cells ∧ n + 0 ≤ R.slots) (d : decode cc pc = .ok (.invokevirtual index, 3)) (K : V p l e R s m args below meth c D cl A w nL k n Q u' (pc + 3) ls st) : V p l e R s m args below meth c D cl A w nL k n Q u pc ls (v2 :: v1 :: .ref b :: st) := V_callVv (As := [v1, v2]) C hX h cw q0 he hc rfl hst hk d K
theorem V_cVv3 (C : vC p s m args meth c D cl tys X A w cc own Ts nL rt) (hX : xOK X) {v1 v2 v3 : Value} (h : mV D cl tys X w l y ws rm (.ref b :: [v1, v2, v3]) u u') (cw : CallW R s args own Cn index y bytes maxL ret ws rm 0 0 3) (q0 : Nat) {fs : List Value} (he : (w u)[q0]? = some (b, .inr (ci, fs))) (hc : cl[ci]? = some (Cn, T, N)) (hst : (st.map fun v => v.category).sum ≤ 8) (hk : k + 0 ≤ R.cells ∧ n + 0 ≤ R.slots) (d : decode cc pc = .ok (.invokevirtual index, 3)) (K : V p l e R s m args below meth c D cl A w nL k n Q u' (pc + 3) ls st) : V p l e R s m args below meth c D cl A w nL k n Q u pc ls (v3 :: v2 :: v1 :: .ref b :: st) := V_callVv (As := [v1, v2, v3]) C hX h cw q0 he hc rfl hst hk d K
theorem V_cVv4 (C : vC p s m args meth c D cl tys X A w cc own Ts nL rt) (hX : xOK X) {v1 v2 v3 v4 : Value} (h : mV D cl tys X w l y ws rm (.ref b :: [v1, v2, v3, v4]) u u') (cw : CallW R s args own Cn index y bytes maxL ret ws rm 0 0 4) (q0 : Nat) {fs : List Value} (he : (w u)[q0]? = some (b, .inr (ci, fs))) (hc : cl[ci]? = some (Cn, T, N)) (hst : (st.map fun v => v.category).sum ≤ 8) (hk : k + 0 ≤ R.cells ∧ n + 0 ≤ R.slots) (d : decode cc pc = .ok (.invokevirtual index, 3)) (K : V p l e R s m args below meth c D cl A w nL k n Q u' (pc + 3) ls st) : V p l e R s m args below meth c D cl A w nL k n Q u pc ls (v4 :: v3 :: v2 :: v1 :: .ref b :: st) := V_callVv (As := [v1, v2, v3, v4]) C hX h cw q0 he hc rfl hst hk d K
theorem V_cVv5 (C : vC p s m args meth c D cl tys X A w cc own Ts nL rt) (hX : xOK X) {v1 v2 v3 v4 v5 : Value} (h : mV D cl tys X w l y ws rm (.ref b :: [v1, v2, v3, v4, v5]) u u') (cw : CallW R s args own Cn index y bytes maxL ret ws rm 0 0 5) (q0 : Nat) {fs : List Value} (he : (w u)[q0]? = some (b, .inr (ci, fs))) (hc : cl[ci]? = some (Cn, T, N)) (hst : (st.map fun v => v.category).sum ≤ 8) (hk : k + 0 ≤ R.cells ∧ n + 0 ≤ R.slots) (d : decode cc pc = .ok (.invokevirtual index, 3)) (K : V p l e R s m args below meth c D cl A w nL k n Q u' (pc + 3) ls st) : V p l e R s m args below meth c D cl A w nL k n Q u pc ls (v5 :: v4 :: v3 :: v2 :: v1 :: .ref b :: st) := V_callVv (As := [v1, v2, v3, v4, v5]) C hX h cw q0 he hc rfl hst hk d K
theorem V_cVv6 (C : vC p s m args meth c D cl tys X A w cc own Ts nL rt) (hX : xOK X) {v1 v2 v3 v4 v5 v6 : Value} (h : mV D cl tys X w l y ws rm (.ref b :: [v1, v2, v3, v4, v5, v6]) u u') (cw : CallW R s args own Cn index y bytes maxL ret ws rm 0 0 6) (q0 : Nat) {fs : List Value} (he : (w u)[q0]? = some (b, .inr (ci, fs))) (hc : cl[ci]? = some (Cn, T, N)) (hst : (st.map fun v => v.category).sum ≤ 8) (hk : k + 0 ≤ R.cells ∧ n + 0 ≤ R.slots) (d : decode cc pc = .ok (.invokevirtual index, 3)) (K : V p l e R s m args below meth c D cl A w nL k n Q u' (pc + 3) ls st) : V p l e R s m args below meth c D cl A w nL k n Q u pc ls (v6 :: v5 :: v4 :: v3 :: v2 :: v1 :: .ref b :: st) := V_callVv (As := [v1, v2, v3, v4, v5, v6]) C hX h cw q0 he hc rfl hst hk d K
theorem V_cVNi1 (C : vC p s m args meth c D cl tys X A w cc own Ts nL rt) (hX : xOK X) {v1 : Value} (h : mI D cl tys X w l y ws rm (.ref b :: [v1]) u r u') (cw : va_CN R s args own index y host bytes maxL ret ws rm 0 0 1 ∧ (Cond.instanceMethod y).before args s = true ∧ (Cond.selects Cn y y).before args s = true) (q0 : Nat) {fs : List Value} (he : (w u)[q0]? = some (b, .inr (ci, fs))) (hc : cl[ci]? = some (Cn, T, N)) (hst : (st.map fun v => v.category).sum ≤ 8) (hk : k + 0 ≤ R.cells ∧ n + 0 ≤ R.slots) (d : decode cc pc = .ok (.invokevirtual index, 3)) (K : V p l e R s m args below meth c D cl A w nL k n Q u' (pc + 3) ls (.int r :: st)) : V p l e R s m args below meth c D cl A w nL k n Q u pc ls (v1 :: .ref b :: st) := V_callVNi (As := [v1]) C hX h cw q0 he hc rfl hst hk d K
theorem V_cVNi4 (C : vC p s m args meth c D cl tys X A w cc own Ts nL rt) (hX : xOK X) {v1 v2 v3 v4 : Value} (h : mI D cl tys X w l y ws rm (.ref b :: [v1, v2, v3, v4]) u r u') (cw : va_CN R s args own index y host bytes maxL ret ws rm 0 0 4 ∧ (Cond.instanceMethod y).before args s = true ∧ (Cond.selects Cn y y).before args s = true) (q0 : Nat) {fs : List Value} (he : (w u)[q0]? = some (b, .inr (ci, fs))) (hc : cl[ci]? = some (Cn, T, N)) (hst : (st.map fun v => v.category).sum ≤ 8) (hk : k + 0 ≤ R.cells ∧ n + 0 ≤ R.slots) (d : decode cc pc = .ok (.invokevirtual index, 3)) (K : V p l e R s m args below meth c D cl A w nL k n Q u' (pc + 3) ls (.int r :: st)) : V p l e R s m args below meth c D cl A w nL k n Q u pc ls (v4 :: v3 :: v2 :: v1 :: .ref b :: st) := V_callVNi (As := [v1, v2, v3, v4]) C hX h cw q0 he hc rfl hst hk d K
theorem V_cSi1 (C : vC p s m args meth c D cl tys X A w cc own Ts nL rt) (hX : xOK X) {v1 : Value} (h : mI D cl tys X w l y ws rm [v1] u r u') (cw : CallB R s args own index y bytes maxL ret ws rm 0 0 1 ∧ (Cond.static y).before args s = true) (hst : (st.map fun v => v.category).sum ≤ 8) (hk : k + 0 ≤ R.cells ∧ n + 0 ≤ R.slots) (d : decode cc pc = .ok (.invokestatic index, 3)) (K : V p l e R s m args below meth c D cl A w nL k n Q u' (pc + 3) ls (.int r :: st)) : V p l e R s m args below meth c D cl A w nL k n Q u pc ls (v1 :: st) := V_callSi (As := [v1]) C hX h cw rfl hst hk d K
theorem V_cSi2 (C : vC p s m args meth c D cl tys X A w cc own Ts nL rt) (hX : xOK X) {v1 v2 : Value} (h : mI D cl tys X w l y ws rm [v1, v2] u r u') (cw : CallB R s args own index y bytes maxL ret ws rm 0 0 2 ∧ (Cond.static y).before args s = true) (hst : (st.map fun v => v.category).sum ≤ 8) (hk : k + 0 ≤ R.cells ∧ n + 0 ≤ R.slots) (d : decode cc pc = .ok (.invokestatic index, 3)) (K : V p l e R s m args below meth c D cl A w nL k n Q u' (pc + 3) ls (.int r :: st)) : V p l e R s m args below meth c D cl A w nL k n Q u pc ls (v2 :: v1 :: st) := V_callSi (As := [v1, v2]) C hX h cw rfl hst hk d K
theorem V_cSi3 (C : vC p s m args meth c D cl tys X A w cc own Ts nL rt) (hX : xOK X) {v1 v2 v3 : Value} (h : mI D cl tys X w l y ws rm [v1, v2, v3] u r u') (cw : CallB R s args own index y bytes maxL ret ws rm 0 0 3 ∧ (Cond.static y).before args s = true) (hst : (st.map fun v => v.category).sum ≤ 8) (hk : k + 0 ≤ R.cells ∧ n + 0 ≤ R.slots) (d : decode cc pc = .ok (.invokestatic index, 3)) (K : V p l e R s m args below meth c D cl A w nL k n Q u' (pc + 3) ls (.int r :: st)) : V p l e R s m args below meth c D cl A w nL k n Q u pc ls (v3 :: v2 :: v1 :: st) := V_callSi (As := [v1, v2, v3]) C hX h cw rfl hst hk d K
theorem V_cSNi1 (C : vC p s m args meth c D cl tys X A w cc own Ts nL rt) (hX : xOK X) {v1 : Value} (h : mI D cl tys X w l y ws rm [v1] u r u') (cw : va_CN R s args own index y host bytes maxL ret ws rm 0 0 1 ∧ (Cond.static y).before args s = true ∧ True) (hst : (st.map fun v => v.category).sum ≤ 8) (hk : k + 0 ≤ R.cells ∧ n + 0 ≤ R.slots) (d : decode cc pc = .ok (.invokestatic index, 3)) (K : V p l e R s m args below meth c D cl A w nL k n Q u' (pc + 3) ls (.int r :: st)) : V p l e R s m args below meth c D cl A w nL k n Q u pc ls (v1 :: st) := V_callSNi (As := [v1]) C hX h cw rfl hst hk d K
theorem V_cSNi2 (C : vC p s m args meth c D cl tys X A w cc own Ts nL rt) (hX : xOK X) {v1 v2 : Value} (h : mI D cl tys X w l y ws rm [v1, v2] u r u') (cw : va_CN R s args own index y host bytes maxL ret ws rm 0 0 2 ∧ (Cond.static y).before args s = true ∧ True) (hst : (st.map fun v => v.category).sum ≤ 8) (hk : k + 0 ≤ R.cells ∧ n + 0 ≤ R.slots) (d : decode cc pc = .ok (.invokestatic index, 3)) (K : V p l e R s m args below meth c D cl A w nL k n Q u' (pc + 3) ls (.int r :: st)) : V p l e R s m args below meth c D cl A w nL k n Q u pc ls (v2 :: v1 :: st) := V_callSNi (As := [v1, v2]) C hX h cw rfl hst hk d K
end VR
end
section
/-! THE LAYER, GOING ON: making objects and arrays (the world is a list that grows) -/
theorem va_RA.inj {U : State} {a b : ClassId} {ty : FieldType} (h1 : va_RA U a ty) (h2 : va_RA U b ty) : a = b := by
  cases ty with
  | object C =>
    obtain ⟨_, _, _, _, _, g1⟩ := h1
    obtain ⟨_, _, _, _, _, g2⟩ := h2
    exact Option.some.inj (g1.symm.trans g2)
  | _ => exact Option.some.inj (Eq.trans (Eq.symm h1) h2)
abbrev uW (ws : va_W) : Unit → va_W := fun _ => ws
/-- a constructor's contract: from its object's cell alone to the world Post -/
def mN (D : va_G) (cl : List vw_C) (tys : List (ClassId × FieldType)) (X : State → Prop) (l : Launch) (y : MethodName) (ws : List Cond) (rm : Room) (h0 ci : Nat) (fs : List Value) (mc ms : Nat) (Post : (Nat → Nat) → va_W) : Prop :=
  ∀ sz : Nat, Met l y ws rm (mPc D cl tys X (uW [(h0, .inr (ci, fs))]) [.ref h0] () sz) (va_Qv (fun _ : Unit => True) (fun _ t => ∃ ad : Nat → Nat, ad 0 = h0 ∧ va_P D cl (Post ad) t.heap ∧ va_D (va_A [(h0, .inr (ci, fs))] sz) (Post ad)) (va_A [(h0, .inr (ci, fs))] sz)) mc ms (va_A [(h0, .inr (ci, fs))] sz)
def mNq (D : va_G) (cl : List vw_C) (A : Nat → Prop) (h0 : Nat) (Post : (Nat → Nat) → va_W) : Array Value → State → Outcome → State → Prop := va_Qv (fun _ : Unit => True) (fun _ t => ∃ ad : Nat → Nat, ad 0 = h0 ∧ va_P D cl (Post ad) t.heap ∧ va_D A (Post ad)) A
theorem mN_of {own : String} {D : va_G} {cl : List vw_C} {tys : List (ClassId × FieldType)} {X : State → Prop} {l : Launch} {y : MethodName} {ws ws' : List Cond} {rm : Room} {h0 ci : Nat} {fs : List Value} {mc ms : Nat} {Post : (Nat → Nat) → va_W} {cc : ByteArray} {maxL : Nat} {ret : Option FieldType}
    (ho : y.cls = own) (hy : plainName y.cls = true) (hi : y.name = "<init>") (hws : ws = Cond.code y cc maxL ret :: ws') (hlen : (lg_sl [.ref h0]).length ≤ maxL)
    (body : ∀ (p : Program) (e : Env) (s : State) (m : MethodId) (args : Array Value) (below : List Frame) (meth : Method) (c : Code) (A : Nat → Prop), vC p s m args meth c D cl tys X A (uW [(h0, .inr (ci, fs))]) cc own ws maxL ret → meth.name = "<init>" → V p l e rm s m args below meth c D cl A (uW [(h0, .inr (ci, fs))]) maxL 0 0 (MQ below (mNq D cl A h0 Post) args s mc ms A) () 0 (lv_args 0 [.ref h0]) []) : mN D cl tys X l y ws rm h0 ci fs mc ms Post := by
  intro sz
  refine Met.ofW (cc := cc) (maxL := maxL) (ret := ret) hy hws ?_
  intro p e s m args below meth c s₁ B hml hv
  obtain ⟨rfl, hsz, hP, hK, hD, hX⟩ := hv
  subst hsz
  have C : vC p s m [Value.ref h0].toArray meth c D cl tys X (va_A [(h0, .inr (ci, fs))] s.heap.size) (uW [(h0, .inr (ci, fs))]) cc own ws maxL ret := ⟨B.exec, B.bytes, atoms_spec (ws := ws) B.pre, by rw [← ho]; exact findClass_of_methodNamed B.named, hK, fun _ => hD.self (sz := s.heap.size), fun q h => Or.inr h, hml, B.notSynchronized, B.returns, hX⟩
  have hl := lv_entry [.ref h0] (n := maxL) hlen
  rw [lg_entry_eq]
  exact body p e s m _ below meth c _ C ((name_of_methodNamed B.named B.method).1.trans hi) s.heap [] _ hP va_S.rf hl
section VN
variable {p : Program} {l : Launch} {e : Env} {R : Room} {s : State} {m : MethodId} {args : Array Value} {below : List Frame} {meth : Method} {c : Code} {D : va_G} {cl : List vw_C} {tys : List (ClassId × FieldType)} {X : State → Prop} {A : Nat → Prop} {cc : ByteArray} {own : String} {Ts : List Cond} {nL k n : Nat} {rt : Option FieldType} {Q : State → Prop} {pc : Nat} {ls : List (Nat × Value)} {st : List Value} {ws : va_W}
theorem vC_w {S T : Type} {w : S → va_W} {w' : T → va_W} (C : vC p s m args meth c D cl tys X A w cc own Ts nL rt) (h : ∀ u : T, va_D A (w' u)) : vC p s m args meth c D cl tys X A w' cc own Ts nL rt :=
  ⟨C.1, C.2.1, C.2.2.1, C.2.2.2.1, C.2.2.2.2.1, h, C.2.2.2.2.2.2⟩
theorem V_objInit (C : vC p s m args meth c D cl tys X A (uW ws) cc own Ts nL rt) {idx : Nat} (h1 : Cond.methodLink own idx Lib.objectInit ∈ Ts) (h2 : Cond.instanceMethod Lib.objectInit ∈ Ts) (h3 : Cond.code Lib.objectInit ⟨#[0xb1]⟩ 1 none ∈ Ts) {a : Nat} (hf : 1 ≤ R.frames) (hlo : (st.map fun v => v.category).sum + 12 ≤ R.locals) (d : decode cc pc = .ok (.invokespecial idx, 3))
    (K : V p l e R s m args below meth c D cl A (uW ws) nL k n Q () (pc + 3) ls st) : V p l e R s m args below meth c D cl A (uW ws) nL k n Q () pc ls (.ref a :: st) := by
  intro H locs la hP hS hl
  refine W.objInit C.1 C.2.1 C.2.2.2.1 (C.2.2.1 _ h1) (C.2.2.1 _ h2) (C.2.2.1 _ h3) rfl (hl.1.trans C.2.2.2.2.2.2.2.1.symm) rfl d hf (by show 2 * 0 + _ + 12 ≤ _; omega) ?_
  exact K H locs la hP hS hl
theorem V_newa (C : vC p s m args meth c D cl tys X A (uW ws) cc own Ts nL rt) {atype : ArrayType} {ty : FieldType} (hty : newarray.typeOf atype = ty) (harr : Cond.arrayClass (newarray.typeOf atype) ∈ Ts) (t0 : Nat) {cA : ClassId} (ht : tys[t0]? = some (cA, ty)) {z : Int32} {N' : Nat} {a0 : vp_A} (ha : ∀ cA : ClassId, vp_cell cA a0 = arrV cA N' (fun _ => defaultValue ty)) (hn : ¬ z < 0) (hN : z.toNatClampNeg = N') (hbytes : N' * componentBytes ty ≤ 536870912) (hcells : k + 1 ≤ R.cells) (hslots : n + N' ≤ R.slots) (d : decode cc pc = .ok (.newarray atype, 2))
    (K : ∀ q : Nat, vC p s m args meth c D cl tys X A (uW (ws ++ [(q, .inl (cA, a0))])) cc own Ts nL rt → V p l e R s m args below meth c D cl A (uW (ws ++ [(q, .inl (cA, a0))])) nL (k + 1) (n + N') Q () (pc + 2) ls (.ref q :: st)) : V p l e R s m args below meth c D cl A (uW ws) nL k n Q () pc ls (.int z :: st) := by
  intro H locs la hP hS hl
  refine va_newa C.1 C.2.1 (C.2.2.1 _ harr) hty C.2.2.2.2.1 hP (C.2.2.2.2.2.1 ()) hS C.2.2.2.2.2.2.1 ha hn hN hbytes hcells hslots d (fun q cA' H1 hK1 hP1 hD1 hS1 => ?_)
  have h1 := (hK1.2 tys.length (cA', ty) (by simp)).2
  have h2 := (C.2.2.2.2.1.2 t0 _ ht).2
  obtain rfl : cA' = cA := va_RA.inj h1 h2
  exact K q (vC_w C (fun _ => hD1)) H1 locs la hP1 hS1 hl
theorem V_new (C : vC p s m args meth c D cl tys X A (uW ws) cc own Ts nL rt) {Cn : String} {T : u_T} {N ci index : Nat} (hin : ∀ w ∈ u_ws Cn T N, w ∈ Ts) (ty : Nat → FieldType) (hty : ∀ k, k < N → parseFieldDescriptor (T k).2.2.1 = some (ty k)) (h1 : Cond.classLink own index Cn ∈ Ts) (h2 : Cond.instantiable Cn N ∈ Ts) (h3 : Cond.initialized Cn ∈ Ts) (hc : cl[ci]? = some (Cn, T, N)) {fs : List Value} (hfs : ∀ j, j < N → defaultValue (ty j) = vp_V fs j) (hcells : k + 1 ≤ R.cells) (hslots : n + N ≤ R.slots) (d : decode cc pc = .ok (.new index, 3))
    (K : ∀ q : Nat, vC p s m args meth c D cl tys X A (uW (ws ++ [(q, .inr (ci, fs))])) cc own Ts nL rt → V p l e R s m args below meth c D cl A (uW (ws ++ [(q, .inr (ci, fs))])) nL (k + 1) (n + N) Q () (pc + 3) ls (.ref q :: st)) : V p l e R s m args below meth c D cl A (uW ws) nL k n Q () pc ls st := by
  intro H locs la hP hS hl
  refine va_new C.1 C.2.1 C.2.2.1 hin ty hty C.2.2.2.1 (C.2.2.1 _ h1) (C.2.2.1 _ h2) (C.2.2.1 _ h3) C.2.2.2.2.1 hP (C.2.2.2.2.2.1 ()) hS C.2.2.2.2.2.2.1 hc hfs hcells hslots d (fun q H1 hP1 hD1 hS1 => ?_)
  exact K q (vC_w C (fun _ => hD1)) H1 locs la hP1 hS1 hl
theorem V_putF (C : vC p s m args meth c D cl tys X A (uW ws) cc own Ts nL rt) (hmn : meth.name = "<init>") {ref Cn : String} {T : u_T} {N ci index a : Nat} (hin : ∀ w ∈ u_ws Cn T N, w ∈ Ts) (ty0 : Nat → FieldType) (hty : ∀ k, k < N → parseFieldDescriptor (T k).2.2.1 = some (ty0 k)) (hnm : ∀ a, a < N → ∀ b, b < N → a ≠ b → (T a).2.1 ≠ (T b).2.1) (q0 : Nat) {fs : List Value} (he : ws[q0]? = some (a, .inr (ci, fs))) (hc : cl[ci]? = some (Cn, T, N)) (f : Nat) (hf : f < N) (hl0 : Cond.fieldLink own index ref (T f).2.1 (T f).2.2.1 ∈ Ts) (hsame : ref = (T f).1) (hfin : (T f).2.2.2 = true) (hdecl : (T f).1 = own) {ty : FieldType} {v : Value} (hd : parseFieldDescriptor (T f).2.2.1 = some ty) (hnr : narrow ty v = v) (hfit : fits ty v = true) (hl : f < fs.length) {ws' : va_W} (hset : ws.set q0 (a, .inr (ci, fs.set f v)) = ws') (d : decode cc pc = .ok (.putfield index, 3))
    (K : vC p s m args meth c D cl tys X A (uW ws') cc own Ts nL rt → V p l e R s m args below meth c D cl A (uW ws') nL k n Q () (pc + 3) ls st) : V p l e R s m args below meth c D cl A (uW ws) nL k n Q () pc ls (v :: .ref a :: st) := by
  intro H locs la hP hS hl2
  refine va_putF C.1 C.2.1 C.2.2.1 hin ty0 hty hnm C.2.2.2.1 C.2.2.2.2.1 hP (C.2.2.2.2.2.1 ()) hS q0 he hc f hf (C.2.2.1 _ hl0) (fun _ h => by rw [hsame]; exact h) hfin hmn hdecl hd hnr hfit hl d (fun H1 locs1 hP1 hD1 hS1 => ?_)
  rw [hset] at hP1 hD1
  exact K (vC_w C (fun _ => hD1)) H1 locs1 la hP1 hS1 hl2
theorem V_putG (C : vC p s m args meth c D cl tys X A (uW ws) cc own Ts nL rt) {ref Cn : String} {T : u_T} {N ci index a : Nat} (hin : ∀ w ∈ u_ws Cn T N, w ∈ Ts) (ty0 : Nat → FieldType) (hty : ∀ k, k < N → parseFieldDescriptor (T k).2.2.1 = some (ty0 k)) (hnm : ∀ a, a < N → ∀ b, b < N → a ≠ b → (T a).2.1 ≠ (T b).2.1) (q0 : Nat) {fs : List Value} (he : ws[q0]? = some (a, .inr (ci, fs))) (hc : cl[ci]? = some (Cn, T, N)) (f : Nat) (hf : f < N) (hl0 : Cond.fieldLink own index ref (T f).2.1 (T f).2.2.1 ∈ Ts) (hsame : ref = (T f).1) (hfin : (T f).2.2.2 = false) {ty : FieldType} {v : Value} (hd : parseFieldDescriptor (T f).2.2.1 = some ty) (hnr : narrow ty v = v) (hfit : fits ty v = true) (hl : f < fs.length) {ws' : va_W} (hset : ws.set q0 (a, .inr (ci, fs.set f v)) = ws') (d : decode cc pc = .ok (.putfield index, 3))
    (K : vC p s m args meth c D cl tys X A (uW ws') cc own Ts nL rt → V p l e R s m args below meth c D cl A (uW ws') nL k n Q () (pc + 3) ls st) : V p l e R s m args below meth c D cl A (uW ws) nL k n Q () pc ls (v :: .ref a :: st) := by
  intro H locs la hP hS hl2
  refine va_put C.1 C.2.1 C.2.2.1 hin ty0 hty hnm C.2.2.2.1 C.2.2.2.2.1 hP (C.2.2.2.2.2.1 ()) hS q0 he hc f hf (C.2.2.1 _ hl0) (fun _ h => by rw [hsame]; exact h) hfin hd hnr hfit hl d (fun H1 locs1 hP1 hD1 hS1 => ?_)
  rw [hset] at hP1 hD1
  exact K (vC_w C (fun _ => hD1)) H1 locs1 la hP1 hS1 hl2
/-- the world by another name -/
theorem V_conv {S : Type} {w : S → va_W} {u : S} (h : ws = w u) (K : V p l e R s m args below meth c D cl A w nL k n Q u pc ls st) : V p l e R s m args below meth c D cl A (uW ws) nL k n Q () pc ls st :=
  fun H locs la hP hS hl => K H locs la (by rw [← h]; exact hP) hS hl
theorem V_pick {ws' : va_W} (is : List Nat) (h : is.filterMap (fun i => ws[i]?) = ws') (hn : va_nd is = true) (h2 : is.map (fun i => ws[i]?) = ws'.map some) (C : vC p s m args meth c D cl tys X A (uW ws) cc own Ts nL rt) (K : vC p s m args meth c D cl tys X A (uW ws') cc own Ts nL rt → V p l e R s m args below meth c D cl A (uW ws') nL k n Q () pc ls st) : V p l e R s m args below meth c D cl A (uW ws) nL k n Q () pc ls st :=
  fun H locs la hP hS hl => K (vC_w C (fun _ => (C.2.2.2.2.2.1 ()).sub is hn h2)) H locs la (hP.sub is h) hS hl
theorem V_nret {S : Type} {w : S → va_W} {u : S} (C : vC p s m args meth c D cl tys X A w cc own Ts nL rt) {h0 : Nat} {Post : (Nat → Nat) → va_W} (ad : Nat → Nat) (had : ad 0 = h0) (hp : w u = Post ad) (hrt : rt = none) (d : decode cc pc = .ok (.return_, 1)) : V p l e R s m args below meth c D cl A w nL k n (MQ below (mNq D cl A h0 Post) args s k n A) u pc ls [] :=
  fun H locs la hP hS hl => W.vret C.1 C.2.1 (C.2.2.2.2.2.2.2.2.2.1.trans hrt) (fun t ht _ => ⟨⟨(), rfl, trivial, ad, had, by rw [ht, ← hp]; exact hP, by rw [← hp]; exact C.2.2.2.2.2.1 u⟩, hS.F ht⟩) hS.2.2 d C.2.2.2.2.2.2.2.2.1
/-- a constructor of a nest mate, called on its new object: the last cell of the world -/
theorem V_ctorN (C : vC p s m args meth c D cl tys X A (uW ws) cc own Ts nL rt) (hX : xOK X) {tys' : List (ClassId × FieldType)} (htys : ∃ is : List Nat, is.filterMap (fun i => tys[i]?) = tys') {y : MethodName} {bytes : ByteArray} {maxL index mc ms q ci i0 : Nat} {ws2 : List Cond} {rm : Room} {host : String} {fs : List Value} {Post : (Nat → Nat) → va_W}
    (h : mN D cl tys' X l y ws2 rm q ci fs mc ms Post) (cw : va_CN R s args own index y host bytes maxL none ws2 rm mc ms 0 ∧ y.name = "<init>" ∧ (Cond.instanceMethod y).before args s = true) (isR : List Nat) (wr : va_W) (hC : ws[i0]? = some (q, .inr (ci, fs))) (hR : isR.map (fun i => ws[i]?) = wr.map some) (hnd : va_nd isR = true) (hdis : i0 ∉ isR) (hst : (st.map fun v => v.category).sum ≤ 8) (hf : k + mc ≤ R.cells ∧ n + ms ≤ R.slots) (d : decode cc pc = .ok (.invokespecial index, 3))
    (K : ∀ ad : Nat → Nat, ad 0 = q → vC p s m args meth c D cl tys X A (uW (wr ++ Post ad)) cc own Ts nL rt → V p l e R s m args below meth c D cl A (uW (wr ++ Post ad)) nL (k + mc) (n + ms) Q () (pc + 3) ls st) : V p l e R s m args below meth c D cl A (uW ws) nL k n Q () pc ls (.ref q :: st) := by
  intro H locs la hP hS hl
  obtain ⟨is, his⟩ := htys
  have hDc := (C.2.2.2.2.2.1 ()).sub (ws' := [(q, .inr (ci, fs))]) [i0] rfl (by simp [hC])
  have hPc := hP.sub (ws' := [(q, .inr (ci, fs))]) [i0] (by simp [hC])
  have hFc := va_free (wc := [(q, .inr (ci, fs))]) (C.2.2.2.2.2.1 ()) hS C.2.2.2.2.2.2.1 [i0] (by simp [hC])
  refine va_callv (va_runIN (b := q) (As := []) (rest := st) (vfx C) (h H.size) cw ⟨mPc_blind hX, fun U hU hW => ?_⟩ rfl rfl hl.1 rfl (lv_room hst) d hf) hS (fun x _ hx => hFc x hx) hFc (fun _ t H1 locs1 ht hvm hw hB hz1 hk1 hS1 => ?_)
  · exact ⟨rfl, by rw [hU], by rw [hU]; exact hPc, va_K.moved hW.alike (C.2.2.2.2.1.sub is his), hDc.weaken (fun _ _ _ _ => trivial), hX s U hW C.2.2.2.2.2.2.2.2.2.2⟩
  · obtain ⟨ad, had, hP1, hD1⟩ := hB
    rw [ht] at hP1
    obtain ⟨hP2, hD2⟩ := va_join (wr := wr) (w1 := Post ad) hP (C.2.2.2.2.2.1 ()) [i0] isR (by simp [hC]) hR hnd (fun i hi => by simp; intro hi2; subst hi2; exact hdis hi) hk1 hFc hP1 hD1
    exact K ad had (vC_w C (fun _ => hD2)) H1 locs1 la hP2 hS1 hl
end VN
end
section
/-! THE LAYER, GOING ON: shifts, the script, calls of the law -/
/-- a shift to the right without the sign -/
def ush (x y : Int32) : Int32 := (x.toUInt32 >>> (y.toUInt32 &&& Int32.toUInt32 31)).toInt32
section VJ
variable {p : Program} {l : Launch} {e : Env} {R : Room} {s : State} {m : MethodId} {args : Array Value} {below : List Frame} {meth : Method} {c : Code} {S : Type} {D : va_G} {cl : List vw_C} {tys : List (ClassId × FieldType)} {X : State → Prop} {A : Nat → Prop} {w : S → va_W} {cc : ByteArray} {own : String} {Ts : List Cond} {nL k n : Nat} {rt : Option FieldType} {Q : State → Prop} {u : S} {pc : Nat} {ls : List (Nat × Value)} {st : List Value}
theorem V_widen {k2 n2 : Nat} (h1 : k ≤ k2) (h2 : n ≤ n2) (K : V p l e R s m args below meth c D cl A w nL k2 n2 Q u pc ls st) : V p l e R s m args below meth c D cl A w nL k n Q u pc ls st :=
  fun H locs la hP hS hl => W.widen h1 h2 (K H locs la hP hS hl)
theorem V_astore_n (C : vC p s m args meth c D cl tys X A w cc own Ts nL rt) {j : Fin 4} {i : Nat} {x : Nat} {ls' : List (Nat × Value)} (d : decode cc pc = .ok (.astore_n j, 1)) (hi : (j : Nat) = i) (hn : i < nL) (hc : lcat ls = true) (h : lput i (.ref x) ls = ls') (K : V p l e R s m args below meth c D cl A w nL k n Q u (pc + 1) ls' st) : V p l e R s m args below meth c D cl A w nL k n Q u pc ls (.ref x :: st) :=
  fun H locs la hP hS hl => lv_astore_n C.1 C.2.1 d hi hl hn rfl (fun lb hb => K H locs lb hP hS (by rw [← h]; exact lput_has hc hb))
theorem V_sld (C : vC p s m args meth c D cl tys X A w cc own Ts nL rt) {b L : Nat} {xs : Nat → Int32} (hX : va_X b L xs s s.heap) (hbl : b < s.heap.size) (hbA : ¬ A b) {i : Int32} (hin : vp_in i L) (d : decode cc pc = .ok (.iaload, 1))
    (K : V p l e R s m args below meth c D cl A w nL k n Q u (pc + 1) ls (.int (xs i.toNatClampNeg) :: st)) : V p l e R s m args below meth c D cl A w nL k n Q u pc ls (.int i :: .ref b :: st) :=
  fun H locs la hP hS hl => va_sld C.1 C.2.1 hX hbl hbA hS hin d (K H locs la hP hS hl)
theorem V_sldv (C : vC p s m args meth c D cl tys X A w cc own Ts nL rt) {b L : Nat} {xs : Nat → Int32} (hX : va_X b L xs s s.heap) (hbl : b < s.heap.size) (hbA : ¬ A b) {i a : Int32} (hin : vp_in i L) (ha : xs i.toNatClampNeg = a) (d : decode cc pc = .ok (.iaload, 1))
    (K : V p l e R s m args below meth c D cl A w nL k n Q u (pc + 1) ls (.int a :: st)) : V p l e R s m args below meth c D cl A w nL k n Q u pc ls (.int i :: .ref b :: st) := V_sld C hX hbl hbA hin d (by rw [ha]; exact K)
theorem V_slen (C : vC p s m args meth c D cl tys X A w cc own Ts nL rt) {b L : Nat} {xs : Nat → Int32} (hX : va_X b L xs s s.heap) (hbl : b < s.heap.size) (hbA : ¬ A b) (d : decode cc pc = .ok (.arraylength, 1))
    (K : V p l e R s m args below meth c D cl A w nL k n Q u (pc + 1) ls (.int (nI L) :: st)) : V p l e R s m args below meth c D cl A w nL k n Q u pc ls (.ref b :: st) :=
  fun H locs la hP hS hl => va_slen C.1 C.2.1 hX hbl hbA hS d (K H locs la hP hS hl)
theorem V_ishl (C : vC p s m args meth c D cl tys X A w cc own Ts nL rt) {x y : Int32} (d : decode cc pc = .ok (.ishl, 1)) (K : V p l e R s m args below meth c D cl A w nL k n Q u (pc + 1) ls (.int (x <<< (y &&& 31)) :: st)) : V p l e R s m args below meth c D cl A w nL k n Q u pc ls (.int y :: .int x :: st) :=
  fun H locs la hP hS hl => lv_ishl C.1 C.2.1 d (K H locs la hP hS hl)
theorem V_ishr (C : vC p s m args meth c D cl tys X A w cc own Ts nL rt) {x y : Int32} (d : decode cc pc = .ok (.ishr, 1)) (K : V p l e R s m args below meth c D cl A w nL k n Q u (pc + 1) ls (.int (x >>> (y &&& 31)) :: st)) : V p l e R s m args below meth c D cl A w nL k n Q u pc ls (.int y :: .int x :: st) :=
  fun H locs la hP hS hl => lv_ishr C.1 C.2.1 d (K H locs la hP hS hl)
theorem V_ior (C : vC p s m args meth c D cl tys X A w cc own Ts nL rt) {x y : Int32} (d : decode cc pc = .ok (.ior, 1)) (K : V p l e R s m args below meth c D cl A w nL k n Q u (pc + 1) ls (.int (x ||| y) :: st)) : V p l e R s m args below meth c D cl A w nL k n Q u pc ls (.int y :: .int x :: st) :=
  fun H locs la hP hS hl => lv_ior C.1 C.2.1 d (K H locs la hP hS hl)
theorem V_iushr (C : vC p s m args meth c D cl tys X A w cc own Ts nL rt) {x y : Int32} (d : decode cc pc = .ok (.iushr, 1)) (K : V p l e R s m args below meth c D cl A w nL k n Q u (pc + 1) ls (.int (ush x y) :: st)) : V p l e R s m args below meth c D cl A w nL k n Q u pc ls (.int y :: .int x :: st) :=
  fun H locs la hP hS hl => lv_iushr C.1 C.2.1 d rfl (K H locs la hP hS hl)
variable {y : MethodName} {bytes : ByteArray} {maxL index nn : Nat} {ret : Option FieldType} {ws : List Cond} {rm : Room} {Cn host : String} {T : u_T} {N ci : Nat} {b : Addr} {As : List Value} {r : Int32} {u' : S}
theorem V_cSi4 (C : vC p s m args meth c D cl tys X A w cc own Ts nL rt) (hX : xOK X) {v1 v2 v3 v4 : Value} (h : mI D cl tys X w l y ws rm [v1, v2, v3, v4] u r u') (cw : CallB R s args own index y bytes maxL ret ws rm 0 0 4 ∧ (Cond.static y).before args s = true) (hst : (st.map fun v => v.category).sum ≤ 8) (hk : k + 0 ≤ R.cells ∧ n + 0 ≤ R.slots) (d : decode cc pc = .ok (.invokestatic index, 3)) (K : V p l e R s m args below meth c D cl A w nL k n Q u' (pc + 3) ls (.int r :: st)) : V p l e R s m args below meth c D cl A w nL k n Q u pc ls (v4 :: v3 :: v2 :: v1 :: st) := V_callSi (As := [v1, v2, v3, v4]) C hX h cw rfl hst hk d K
/-- a method that reads the law's script, and nothing else -/
def mSc (D : va_G) (cl : List vw_C) (tys : List (ClassId × FieldType)) (X : State → Prop) (l : Launch) (y : MethodName) (ws : List Cond) (rm : Room) (As : List Value) (b L : Nat) (xs : Nat → Int32) (r : Int32) : Prop :=
  ∀ sz : Nat, Met l y ws rm (va_Pc As (fun U => U.heap.size = sz ∧ va_K D cl tys U ∧ X U ∧ va_X b L xs U U.heap ∧ b < sz)) (mQi D cl (uW []) (va_A [] sz) r ()) 0 0 (va_A [] sz)
theorem mSc_of {own : String} {D : va_G} {cl : List vw_C} {tys : List (ClassId × FieldType)} {X : State → Prop} {l : Launch} {y : MethodName} {ws ws' : List Cond} {rm : Room} {As : List Value} {b L : Nat} {xs : Nat → Int32} {r : Int32} {cc : ByteArray} {maxL : Nat} {ret : Option FieldType}
    (ho : y.cls = own) (hy : plainName y.cls = true) (hws : ws = Cond.code y cc maxL ret :: ws') (hlen : (lg_sl As).length ≤ maxL)
    (body : ∀ (p : Program) (e : Env) (s : State) (m : MethodId) (args : Array Value) (below : List Frame) (meth : Method) (c : Code) (A : Nat → Prop), vC p s m args meth c D cl tys X A (uW []) cc own ws maxL ret → va_X b L xs s s.heap → b < s.heap.size → ¬ A b → V p l e rm s m args below meth c D cl A (uW []) maxL 0 0 (MQ below (mQi D cl (uW []) A r ()) args s 0 0 A) () 0 (lv_args 0 As) []) : mSc D cl tys X l y ws rm As b L xs r := by
  intro sz
  refine Met.ofW (cc := cc) (maxL := maxL) (ret := ret) hy hws ?_
  intro p e s m args below meth c s₁ B hml hv
  obtain ⟨rfl, hsz, hK, hX, hS, hb⟩ := hv
  subst hsz
  have C : vC p s m As.toArray meth c D cl tys X (va_A [] s.heap.size) (uW []) cc own ws maxL ret := ⟨B.exec, B.bytes, atoms_spec (ws := ws) B.pre, by rw [← ho]; exact findClass_of_methodNamed B.named, hK, fun _ => ⟨fun i j p q h => by simp at h, fun k q h => by simp at h⟩, fun q h => Or.inr h, hml, B.notSynchronized, B.returns, hX⟩
  have hl := lv_entry As (n := maxL) hlen
  rw [lg_entry_eq]
  refine body p e s m _ below meth c _ C hS hb ?_ s.heap [] _ (fun k q h => by simp at h) va_S.rf hl
  rintro (⟨k, z, h⟩ | h)
  · simp at h
  · exact absurd h (Nat.not_le.mpr hb)
theorem V_callSc (C : vC p s m args meth c D cl tys X A w cc own Ts nL rt) (hX : xOK X) {L b : Nat} {xs : Nat → Int32} (hsc : va_X b L xs s s.heap) (hbl : b < s.heap.size) (hbA : ¬ A b) {v1 v2 : Value} (h : mSc D cl tys X l y ws rm [v1, v2] b L xs r) (cw : CallB R s args own index y bytes maxL ret ws rm 0 0 2 ∧ (Cond.static y).before args s = true) (hst : (st.map fun v => v.category).sum ≤ 8) (hk : k + 0 ≤ R.cells ∧ n + 0 ≤ R.slots) (d : decode cc pc = .ok (.invokestatic index, 3))
    (K : V p l e R s m args below meth c D cl A w nL k n Q u (pc + 3) ls (.int r :: st)) : V p l e R s m args below meth c D cl A w nL k n Q u pc ls (v2 :: v1 :: st) := by
  intro H locs la hP hS hl
  have hb2 : b < H.size := Nat.lt_of_lt_of_le hbl hS.1
  have hX2 : va_X b L xs s H := hsc.kept (hS.2.1 b hbl hbA)
  have hF : ∀ q, va_A [] H.size q → A q := by
    rintro q (⟨j, z, hj⟩ | h)
    · simp at hj
    · exact C.2.2.2.2.2.2.1 q (Nat.le_trans hS.1 h)
  refine va_calli (va_runS (As := [v1, v2]) (rest := st) (vfx C) (h H.size) cw ⟨?_, fun U hU hW => ?_⟩ rfl rfl hl.1 rfl (lv_room hst) d hk) hS (fun q _ hq => hF q hq) hF (fun r' _ t H1 locs1 ht hvm hw hB hz1 hk1 hS1 => ?_)
  · intro a U g mk q
    obtain ⟨q1, q2, q3, q4, q5, q6⟩ := q
    exact ⟨q1, q2, va_K.moved (u := U) (U := U.calling g mk a) (Vm.Alike.refl U.vm) q3, hX U (U.calling g mk a) (State.WarmedH.refl U) q4, va_X.moved (u := U) (U := U.calling g mk a) (Vm.Alike.refl U.vm) q5, q6⟩
  · exact ⟨rfl, by rw [hU], va_K.moved hW.alike C.2.2.2.2.1, hX s U hW C.2.2.2.2.2.2.2.2.2.2, by rw [hU]; exact va_X.moved hW.alike hX2, hb2⟩
  · subst hw
    have hk2 : ∀ q : Nat, q < H.size → H1[q]? = H[q]? := fun q hq => hk1 q hq (by
      rintro (⟨j, z, hj⟩ | hA)
      · simp at hj
      · exact absurd hq (Nat.not_lt.mpr hA))
    exact K H1 locs1 la (hP.kept (fun i q hq => hk2 q.1 (hP i q hq).lt)) hS1 hl
end VJ
end
section
section VS
variable {p : Program} {l : Launch} {e : Env} {R : Room} {s : State} {m : MethodId} {args : Array Value} {below : List Frame} {meth : Method} {c : Code} {D : va_G} {cl : List vw_C} {tys : List (ClassId × FieldType)} {X : State → Prop} {A : Nat → Prop} {cc : ByteArray} {own : String} {Ts : List Cond} {nL k n : Nat} {rt : Option FieldType} {Q : State → Prop} {pc : Nat} {ls : List (Nat × Value)} {st : List Value} {ws : va_W}
/-- a public constructor, called on its new object -/
theorem V_ctorI (C : vC p s m args meth c D cl tys X A (uW ws) cc own Ts nL rt) {Y : State → Prop} (hY : xOK Y) (hXY : X s → Y s) {tys' : List (ClassId × FieldType)} (htys : ∃ is : List Nat, is.filterMap (fun i => tys[i]?) = tys') {y : MethodName} {bytes : ByteArray} {maxL index mc ms q ci i0 : Nat} {ws2 : List Cond} {rm : Room} {fs : List Value} {Post : (Nat → Nat) → va_W}
    (h : mN D cl tys' Y l y ws2 rm q ci fs mc ms Post) (cw : CallB R s args own index y bytes maxL none ws2 rm mc ms 0 ∧ y.name = "<init>" ∧ (Cond.instanceMethod y).before args s = true) (isR : List Nat) (wr : va_W) (hC : ws[i0]? = some (q, .inr (ci, fs))) (hR : isR.map (fun i => ws[i]?) = wr.map some) (hnd : va_nd isR = true) (hdis : i0 ∉ isR) (hst : (st.map fun v => v.category).sum ≤ 8) (hf : k + mc ≤ R.cells ∧ n + ms ≤ R.slots) (d : decode cc pc = .ok (.invokespecial index, 3))
    (K : ∀ ad : Nat → Nat, ad 0 = q → vC p s m args meth c D cl tys X A (uW (wr ++ Post ad)) cc own Ts nL rt → V p l e R s m args below meth c D cl A (uW (wr ++ Post ad)) nL (k + mc) (n + ms) Q () (pc + 3) ls st) : V p l e R s m args below meth c D cl A (uW ws) nL k n Q () pc ls (.ref q :: st) := by
  intro H locs la hP hS hl
  obtain ⟨is, his⟩ := htys
  have hDc := (C.2.2.2.2.2.1 ()).sub (ws' := [(q, .inr (ci, fs))]) [i0] rfl (by simp [hC])
  have hPc := hP.sub (ws' := [(q, .inr (ci, fs))]) [i0] (by simp [hC])
  have hFc := va_free (wc := [(q, .inr (ci, fs))]) (C.2.2.2.2.2.1 ()) hS C.2.2.2.2.2.2.1 [i0] (by simp [hC])
  refine va_callv (va_runI (b := q) (As := []) (rest := st) (vfx C) (h H.size) cw ⟨mPc_blind hY, fun U hU hW => ?_⟩ rfl rfl hl.1 rfl (lv_room hst) d hf) hS (fun x _ hx => hFc x hx) hFc (fun _ t H1 locs1 ht hvm hw hB hz1 hk1 hS1 => ?_)
  · exact ⟨rfl, by rw [hU], by rw [hU]; exact hPc, va_K.moved hW.alike (C.2.2.2.2.1.sub is his), hDc.weaken (fun _ _ _ _ => trivial), hY s U hW (hXY C.2.2.2.2.2.2.2.2.2.2)⟩
  · obtain ⟨ad, had, hP1, hD1⟩ := hB
    rw [ht] at hP1
    obtain ⟨hP2, hD2⟩ := va_join (wr := wr) (w1 := Post ad) hP (C.2.2.2.2.2.1 ()) [i0] isR (by simp [hC]) hR hnd (fun i hi => by simp; intro hi2; subst hi2; exact hdis hi) hk1 hFc hP1 hD1
    exact K ad had (vC_w C (fun _ => hD2)) H1 locs1 la hP2 hS1 hl
end VS
end
section
/-- the links to nest mates that the class uses -/
def nWords : List Cond := [Cond.fieldLinkNest RX1 103 "MeteredSheets$Ledger" "prices" "[I" "MeteredSheets", Cond.fieldLinkNest RX1 108 "MeteredSheets$Ledger" "budgets" "[I" "MeteredSheets", Cond.fieldLinkNest RX1 113 "MeteredSheets$Ledger" "earnings" "[I" "MeteredSheets", Cond.fieldLinkNest RX1 142 "MeteredSheets$Ledger" "readsOf" "[I" "MeteredSheets", Cond.fieldLinkNest RX1 116 "MeteredSheets$Ledger" "bills" "[I" "MeteredSheets", Cond.fieldLinkNest RX1 139 "MeteredSheets$Ledger" "counts" "[I" "MeteredSheets", Cond.fieldLinkNest RX1 134 "MeteredSheets$Ledger" "kept" "[I" "MeteredSheets", Cond.fieldLinkNest RX1 125 "MeteredSheets$Ledger" "keptCount" "I" "MeteredSheets", Cond.methodLinkNest RX1 34 yX0_init "MeteredSheets", Cond.methodLinkNest RX1 170 yX0_paysFor "MeteredSheets", Cond.methodLinkNest RX0 37 yX1_sheetOf "MeteredSheets", Cond.methodLinkNest RX0 48 yX1_isCell "MeteredSheets"]
theorem nwX1_103 : Cond.fieldLinkNest RX1 103 "MeteredSheets$Ledger" "prices" "[I" "MeteredSheets" ∈ nWords := List.mem_of_getElem? (i := 0) rfl
theorem nwX1_108 : Cond.fieldLinkNest RX1 108 "MeteredSheets$Ledger" "budgets" "[I" "MeteredSheets" ∈ nWords := List.mem_of_getElem? (i := 1) rfl
theorem nwX1_113 : Cond.fieldLinkNest RX1 113 "MeteredSheets$Ledger" "earnings" "[I" "MeteredSheets" ∈ nWords := List.mem_of_getElem? (i := 2) rfl
theorem nwX1_142 : Cond.fieldLinkNest RX1 142 "MeteredSheets$Ledger" "readsOf" "[I" "MeteredSheets" ∈ nWords := List.mem_of_getElem? (i := 3) rfl
theorem nwX1_116 : Cond.fieldLinkNest RX1 116 "MeteredSheets$Ledger" "bills" "[I" "MeteredSheets" ∈ nWords := List.mem_of_getElem? (i := 4) rfl
theorem nwX1_139 : Cond.fieldLinkNest RX1 139 "MeteredSheets$Ledger" "counts" "[I" "MeteredSheets" ∈ nWords := List.mem_of_getElem? (i := 5) rfl
theorem nwX1_134 : Cond.fieldLinkNest RX1 134 "MeteredSheets$Ledger" "kept" "[I" "MeteredSheets" ∈ nWords := List.mem_of_getElem? (i := 6) rfl
theorem nwX1_125 : Cond.fieldLinkNest RX1 125 "MeteredSheets$Ledger" "keptCount" "I" "MeteredSheets" ∈ nWords := List.mem_of_getElem? (i := 7) rfl
theorem nwX1_34 : Cond.methodLinkNest RX1 34 yX0_init "MeteredSheets" ∈ nWords := List.mem_of_getElem? (i := 8) rfl
theorem nwX1_170 : Cond.methodLinkNest RX1 170 yX0_paysFor "MeteredSheets" ∈ nWords := List.mem_of_getElem? (i := 9) rfl
theorem nwX0_37 : Cond.methodLinkNest RX0 37 yX1_sheetOf "MeteredSheets" ∈ nWords := List.mem_of_getElem? (i := 10) rfl
theorem nwX0_48 : Cond.methodLinkNest RX0 48 yX1_isCell "MeteredSheets" ∈ nWords := List.mem_of_getElem? (i := 11) rfl
def xN (U : State) : Prop := ∀ w ∈ nWords, va_Nw w U
theorem xN_ok : xOK xN := fun s U hW h => List.forall_mem_cons.mpr ⟨va_Nw.warmF hW (h _ nwX1_103), List.forall_mem_cons.mpr ⟨va_Nw.warmF hW (h _ nwX1_108), List.forall_mem_cons.mpr ⟨va_Nw.warmF hW (h _ nwX1_113), List.forall_mem_cons.mpr ⟨va_Nw.warmF hW (h _ nwX1_142), List.forall_mem_cons.mpr ⟨va_Nw.warmF hW (h _ nwX1_116), List.forall_mem_cons.mpr ⟨va_Nw.warmF hW (h _ nwX1_139), List.forall_mem_cons.mpr ⟨va_Nw.warmF hW (h _ nwX1_134), List.forall_mem_cons.mpr ⟨va_Nw.warmF hW (h _ nwX1_125), List.forall_mem_cons.mpr ⟨va_Nw.warmM hW (h _ nwX1_34), List.forall_mem_cons.mpr ⟨va_Nw.warmM hW (h _ nwX1_170), List.forall_mem_cons.mpr ⟨va_Nw.warmM hW (h _ nwX0_37), List.forall_mem_cons.mpr ⟨va_Nw.warmM hW (h _ nwX0_48), fun _ h => absurd h List.not_mem_nil⟩⟩⟩⟩⟩⟩⟩⟩⟩⟩⟩⟩
/-! THE WORLD: the class with its ledger, and the law's own numbers (row 20) -/
def wC (cI cZ : ClassId) (ad : Nat → Nat) (u : vM) : va_W := [(ad 0, .inr (1, [.ref (ad 1), .ref (ad 2), .ref (ad 3), .ref (ad 4), .ref (ad 5), .ref (ad 6), .ref (ad 7), .ref (ad 8), .ref (ad 9), .ref (ad 10), .ref (ad 11), .ref (ad 12)])), (ad 1, .inl (cI, 24, .inl (u 1))), (ad 2, .inl (cI, 24, .inl (u 2))), (ad 3, .inl (cI, 24, .inl (u 3))), (ad 4, .inl (cI, 24, .inl (u 4))), (ad 5, .inl (cI, 24, .inl (u 5))), (ad 6, .inl (cZ, 24, .inl (u 6))), (ad 7, .inl (cI, 24, .inl (u 7))), (ad 8, .inr (0, [.ref (ad 13), .ref (ad 14), .ref (ad 15), .ref (ad 16), .ref (ad 17), .ref (ad 18), .ref (ad 19), .int (u 8 0)])), (ad 9, .inl (cZ, 24, .inl (u 9))), (ad 10, .inl (cZ, 24, .inl (u 10))), (ad 11, .inl (cZ, 24, .inl (u 11))), (ad 12, .inl (cI, 24, .inl (u 12))), (ad 13, .inl (cI, 4, .inl (u 13))), (ad 14, .inl (cI, 4, .inl (u 14))), (ad 15, .inl (cI, 4, .inl (u 15))), (ad 16, .inl (cI, 4, .inl (u 16))), (ad 17, .inl (cI, 5, .inl (u 17))), (ad 18, .inl (cI, 576, .inl (u 18))), (ad 19, .inl (cI, 500, .inl (u 19))), (ad 20, .inl (cI, 2, .inl (u 20)))]
def tyF (cI cZ : ClassId) : List (ClassId × FieldType) := [(cI, .int), (cZ, .boolean)]
def tyM (cI : ClassId) : List (ClassId × FieldType) := [(cI, .int)]
theorem wC_ok (cI cZ : ClassId) (ad : Nat → Nat) : wOK (wC cI cZ ad) := fun _ _ => rfl
theorem wC_s1 {cI cZ : ClassId} {ad : Nat → Nat} {u : vM} {g : Nat → Int32} : (wC cI cZ ad u).set 1 (ad 1, .inl (cI, 24, .inl g)) = wC cI cZ ad (mR u 1 g) := rfl
theorem wC_s2 {cI cZ : ClassId} {ad : Nat → Nat} {u : vM} {g : Nat → Int32} : (wC cI cZ ad u).set 2 (ad 2, .inl (cI, 24, .inl g)) = wC cI cZ ad (mR u 2 g) := rfl
theorem wC_s3 {cI cZ : ClassId} {ad : Nat → Nat} {u : vM} {g : Nat → Int32} : (wC cI cZ ad u).set 3 (ad 3, .inl (cI, 24, .inl g)) = wC cI cZ ad (mR u 3 g) := rfl
theorem wC_s4 {cI cZ : ClassId} {ad : Nat → Nat} {u : vM} {g : Nat → Int32} : (wC cI cZ ad u).set 4 (ad 4, .inl (cI, 24, .inl g)) = wC cI cZ ad (mR u 4 g) := rfl
theorem wC_s5 {cI cZ : ClassId} {ad : Nat → Nat} {u : vM} {g : Nat → Int32} : (wC cI cZ ad u).set 5 (ad 5, .inl (cI, 24, .inl g)) = wC cI cZ ad (mR u 5 g) := rfl
theorem wC_s6 {cI cZ : ClassId} {ad : Nat → Nat} {u : vM} {g : Nat → Int32} : (wC cI cZ ad u).set 6 (ad 6, .inl (cZ, 24, .inl g)) = wC cI cZ ad (mR u 6 g) := rfl
theorem wC_s7 {cI cZ : ClassId} {ad : Nat → Nat} {u : vM} {g : Nat → Int32} : (wC cI cZ ad u).set 7 (ad 7, .inl (cI, 24, .inl g)) = wC cI cZ ad (mR u 7 g) := rfl
theorem wC_s8 {cI cZ : ClassId} {ad : Nat → Nat} {u : vM} {x : Int32} : (wC cI cZ ad u).set 8 (ad 8, .inr (0, ([.ref (ad 13), .ref (ad 14), .ref (ad 15), .ref (ad 16), .ref (ad 17), .ref (ad 18), .ref (ad 19), .int (u 8 0)] : List Value).set 7 (.int x))) = wC cI cZ ad (mst u 8 x) := rfl
theorem wC_s9 {cI cZ : ClassId} {ad : Nat → Nat} {u : vM} {g : Nat → Int32} : (wC cI cZ ad u).set 9 (ad 9, .inl (cZ, 24, .inl g)) = wC cI cZ ad (mR u 9 g) := rfl
theorem wC_s10 {cI cZ : ClassId} {ad : Nat → Nat} {u : vM} {g : Nat → Int32} : (wC cI cZ ad u).set 10 (ad 10, .inl (cZ, 24, .inl g)) = wC cI cZ ad (mR u 10 g) := rfl
theorem wC_s11 {cI cZ : ClassId} {ad : Nat → Nat} {u : vM} {g : Nat → Int32} : (wC cI cZ ad u).set 11 (ad 11, .inl (cZ, 24, .inl g)) = wC cI cZ ad (mR u 11 g) := rfl
theorem wC_s12 {cI cZ : ClassId} {ad : Nat → Nat} {u : vM} {g : Nat → Int32} : (wC cI cZ ad u).set 12 (ad 12, .inl (cI, 24, .inl g)) = wC cI cZ ad (mR u 12 g) := rfl
theorem wC_s13 {cI cZ : ClassId} {ad : Nat → Nat} {u : vM} {g : Nat → Int32} : (wC cI cZ ad u).set 13 (ad 13, .inl (cI, 4, .inl g)) = wC cI cZ ad (mR u 13 g) := rfl
theorem wC_s14 {cI cZ : ClassId} {ad : Nat → Nat} {u : vM} {g : Nat → Int32} : (wC cI cZ ad u).set 14 (ad 14, .inl (cI, 4, .inl g)) = wC cI cZ ad (mR u 14 g) := rfl
theorem wC_s15 {cI cZ : ClassId} {ad : Nat → Nat} {u : vM} {g : Nat → Int32} : (wC cI cZ ad u).set 15 (ad 15, .inl (cI, 4, .inl g)) = wC cI cZ ad (mR u 15 g) := rfl
theorem wC_s16 {cI cZ : ClassId} {ad : Nat → Nat} {u : vM} {g : Nat → Int32} : (wC cI cZ ad u).set 16 (ad 16, .inl (cI, 4, .inl g)) = wC cI cZ ad (mR u 16 g) := rfl
theorem wC_s17 {cI cZ : ClassId} {ad : Nat → Nat} {u : vM} {g : Nat → Int32} : (wC cI cZ ad u).set 17 (ad 17, .inl (cI, 5, .inl g)) = wC cI cZ ad (mR u 17 g) := rfl
theorem wC_s18 {cI cZ : ClassId} {ad : Nat → Nat} {u : vM} {g : Nat → Int32} : (wC cI cZ ad u).set 18 (ad 18, .inl (cI, 576, .inl g)) = wC cI cZ ad (mR u 18 g) := rfl
theorem wC_s19 {cI cZ : ClassId} {ad : Nat → Nat} {u : vM} {g : Nat → Int32} : (wC cI cZ ad u).set 19 (ad 19, .inl (cI, 500, .inl g)) = wC cI cZ ad (mR u 19 g) := rfl
theorem wC_s20 {cI cZ : ClassId} {ad : Nat → Nat} {u : vM} {g : Nat → Int32} : (wC cI cZ ad u).set 20 (ad 20, .inl (cI, 2, .inl g)) = wC cI cZ ad (mR u 20 g) := rfl
def rX1_isUser (a0 : Int32) : Int32 := (if a0 < 0 then 0 else (if 5 ≤ a0 then 0 else 1))
def rmX1_isUser : Room := { frames := 0, cells := 0, slots := 0, locals := 0 }
theorem bX1_isUser (a0 : Int32) : rX1_isUser a0 = 0 ∨ rX1_isUser a0 = 1 := by
  unfold rX1_isUser
  (try dsimp only)
  (repeat' split) <;> first | with_reducible exact Or.inl rfl | with_reducible exact Or.inr rfl
def rX1_isCell (a0 : Int32) : Int32 := (if a0 < 0 then 0 else (if 24 ≤ a0 then 0 else 1))
def rmX1_isCell : Room := { frames := 0, cells := 0, slots := 0, locals := 0 }
theorem bX1_isCell (a0 : Int32) : rX1_isCell a0 = 0 ∨ rX1_isCell a0 = 1 := by
  unfold rX1_isCell
  (try dsimp only)
  (repeat' split) <;> first | with_reducible exact Or.inl rfl | with_reducible exact Or.inr rfl
def rX1_isWithin (a0 : Int32) (a1 : Int32) : Int32 := (if a0 < (-a1) then 0 else (if a1 < a0 then 0 else 1))
def rmX1_isWithin : Room := { frames := 0, cells := 0, slots := 0, locals := 0 }
theorem bX1_isWithin (a0 : Int32) (a1 : Int32) : rX1_isWithin a0 a1 = 0 ∨ rX1_isWithin a0 a1 = 1 := by
  unfold rX1_isWithin
  (try dsimp only)
  (repeat' split) <;> first | with_reducible exact Or.inl rfl | with_reducible exact Or.inr rfl
def rX1_isIn_v9 (u : vM) (a0 : Int32) : Int32 := (if a0 < 0 then 0 else (if 24 ≤ a0 then 0 else (if (mrd u 9 a0) = 0 then 0 else 1)))
def rmX1_isIn : Room := { frames := 0, cells := 0, slots := 0, locals := 0 }
theorem bX1_isIn_v9 (u : vM) (a0 : Int32) : rX1_isIn_v9 u a0 = 0 ∨ rX1_isIn_v9 u a0 = 1 := by
  unfold rX1_isIn_v9
  (try dsimp only)
  (repeat' split) <;> first | with_reducible exact Or.inl rfl | with_reducible exact Or.inr rfl
def rX1_isIn_v10 (u : vM) (a0 : Int32) : Int32 := (if a0 < 0 then 0 else (if 24 ≤ a0 then 0 else (if (mrd u 10 a0) = 0 then 0 else 1)))
theorem bX1_isIn_v10 (u : vM) (a0 : Int32) : rX1_isIn_v10 u a0 = 0 ∨ rX1_isIn_v10 u a0 = 1 := by
  unfold rX1_isIn_v10
  (try dsimp only)
  (repeat' split) <;> first | with_reducible exact Or.inl rfl | with_reducible exact Or.inr rfl
def rX1_isIn_v11 (u : vM) (a0 : Int32) : Int32 := (if a0 < 0 then 0 else (if 24 ≤ a0 then 0 else (if (mrd u 11 a0) = 0 then 0 else 1)))
theorem bX1_isIn_v11 (u : vM) (a0 : Int32) : rX1_isIn_v11 u a0 = 0 ∨ rX1_isIn_v11 u a0 = 1 := by
  unfold rX1_isIn_v11
  (try dsimp only)
  (repeat' split) <;> first | with_reducible exact Or.inl rfl | with_reducible exact Or.inr rfl
def rX1_isReady (u : vM) (a1 : Int32) : Int32 := (if a1 = (-1) then 1 else (if (rX1_isIn_v10 u a1) = 0 then 0 else 1))
def rmX1_isReady : Room := { frames := 1, cells := 0, slots := 0, locals := 21 }
theorem bX1_isReady (u : vM) (a1 : Int32) : rX1_isReady u a1 = 0 ∨ rX1_isReady u a1 = 1 := by
  unfold rX1_isReady
  (try dsimp only)
  (repeat' split) <;> first | with_reducible exact Or.inl rfl | with_reducible exact Or.inr rfl | exact bX1_isIn_v10 _ _
def lpX1_lowestFreeCell_2 (u : vM) : Nat → Nat → Int32
  | 0, _ => (-1)
  | n + 1, k => (if (mrd u 10 (nI k)) = 0 then (if (rX1_isReady u (mrd u 2 (nI k))) = 0 then lpX1_lowestFreeCell_2 u n (k + 1) else (if (rX1_isReady u (mrd u 3 (nI k))) = 0 then lpX1_lowestFreeCell_2 u n (k + 1) else (nI k))) else lpX1_lowestFreeCell_2 u n (k + 1))
def rX1_lowestFreeCell (u : vM) : Int32 := (lpX1_lowestFreeCell_2 u 24 0)
def rmX1_lowestFreeCell : Room := { frames := 2, cells := 0, slots := 0, locals := 42 }
def lpX1_putInOrder_2 : Nat → Nat → vM → vM
  | 0, _, u => u
  | n + 1, k, u => (let u14 : vM := mup u 10 (nI k) 0; lpX1_putInOrder_2 n (k + 1) u14)
def lpX1_putInOrder_23 : Nat → Nat → vM → vM
  | 0, _, u => u
  | n + 1, k, u => (let y33 : Int32 := (rX1_lowestFreeCell u); (let u40 : vM := mup u 7 (nI k) y33; (if (rX1_isCell y33) = 0 then lpX1_putInOrder_23 n (k + 1) u40 else (let u54 : vM := mup u40 10 y33 1; lpX1_putInOrder_23 n (k + 1) u54))))
def uX1_putInOrder (u : vM) : vM := (let r2 := lpX1_putInOrder_2 24 0 u; (lpX1_putInOrder_23 24 0 r2))
def rmX1_putInOrder : Room := { frames := 3, cells := 0, slots := 0, locals := 63 }
theorem fr_lpX1_putInOrder_2_all {q : Nat} (h10 : q ≠ 10) : ∀ (n k : Nat) (u : vM), (lpX1_putInOrder_2 n k u) q = u q := by
  intro n
  induction n with
  | zero => intro k u; rfl
  | succ n ih =>
    intro k u
    unfold lpX1_putInOrder_2
    (try dsimp only)
    (repeat' split) <;> (simp only [ih, mup_ne h10, mst_ne h10])
theorem fr_lpX1_putInOrder_2{n k : Nat} {u : vM} {q : Nat} (h10 : q ≠ 10) : (lpX1_putInOrder_2 n k u) q = u q := fr_lpX1_putInOrder_2_all h10 n k u
theorem fr_lpX1_putInOrder_23_all {q : Nat} (h7 : q ≠ 7) (h10 : q ≠ 10) : ∀ (n k : Nat) (u : vM), (lpX1_putInOrder_23 n k u) q = u q := by
  intro n
  induction n with
  | zero => intro k u; rfl
  | succ n ih =>
    intro k u
    unfold lpX1_putInOrder_23
    (try dsimp only)
    (repeat' split) <;> (simp only [ih, mup_ne h7, mup_ne h10, mst_ne h7, mst_ne h10])
theorem fr_lpX1_putInOrder_23{n k : Nat} {u : vM} {q : Nat} (h7 : q ≠ 7) (h10 : q ≠ 10) : (lpX1_putInOrder_23 n k u) q = u q := fr_lpX1_putInOrder_23_all h7 h10 n k u
theorem fr_uX1_putInOrder {u : vM} {q : Nat} (h7 : q ≠ 7) (h10 : q ≠ 10) : uX1_putInOrder u q = u q := by
  unfold uX1_putInOrder
  (try dsimp only)
  (repeat' split) <;> (try simp only [mup_ne h7, mup_ne h10, mst_ne h7, mst_ne h10, fr_lpX1_putInOrder_2 h10, fr_lpX1_putInOrder_23 h7 h10])
def lpX1_forgetChanges_2 : Nat → Nat → vM → vM
  | 0, _, u => u
  | n + 1, k, u => (let u14 : vM := mup u 9 (nI k) 0; lpX1_forgetChanges_2 n (k + 1) u14)
def uX1_forgetChanges (u : vM) : vM := (lpX1_forgetChanges_2 24 0 u)
def rmX1_forgetChanges : Room := { frames := 0, cells := 0, slots := 0, locals := 0 }
theorem fr_lpX1_forgetChanges_2_all {q : Nat} (h9 : q ≠ 9) : ∀ (n k : Nat) (u : vM), (lpX1_forgetChanges_2 n k u) q = u q := by
  intro n
  induction n with
  | zero => intro k u; rfl
  | succ n ih =>
    intro k u
    unfold lpX1_forgetChanges_2
    (try dsimp only)
    (repeat' split) <;> (simp only [ih, mup_ne h9, mst_ne h9])
theorem fr_lpX1_forgetChanges_2{n k : Nat} {u : vM} {q : Nat} (h9 : q ≠ 9) : (lpX1_forgetChanges_2 n k u) q = u q := fr_lpX1_forgetChanges_2_all h9 n k u
theorem fr_uX1_forgetChanges {u : vM} {q : Nat} (h9 : q ≠ 9) : uX1_forgetChanges u q = u q := by
  unfold uX1_forgetChanges
  (try dsimp only)
  (repeat' split) <;> (try simp only [mup_ne h9, mst_ne h9, fr_lpX1_forgetChanges_2 h9])
def rX1_sheetOf (a0 : Int32) : Int32 := (a0 / 6)
def rmX1_sheetOf : Room := { frames := 0, cells := 0, slots := 0, locals := 0 }
def rX1_meteredRead (a0 : Int32) (a1 : Int32) : Int32 := (if (rX1_isCell a1) = 0 then (-1) else (if (rX1_sheetOf a1) = (rX1_sheetOf a0) then (-1) else a1))
def rmX1_meteredRead : Room := { frames := 1, cells := 0, slots := 0, locals := 20 }
def rX0_costOf (u : vM) (a1 : Int32) : Int32 := (if (rX1_isCell a1) = 0 then 0 else (mrd u 13 (rX1_sheetOf a1)))
def rmX0_costOf : Room := { frames := 1, cells := 0, slots := 0, locals := 20 }
def uX0_enter (u : vM) (a1 : Int32) (a2 : Int32) (a3 : Int32) : vM := (if (rX1_isCell a3) = 0 then u else (let y12 : Int32 := (rX1_sheetOf a3); (let u30 : vM := mup u 15 y12 ((mrd u 15 y12) + (mrd u 13 y12)); (let u46 : vM := mup u30 17 a1 ((mrd u30 17 a1) + (mrd u30 13 y12)); (let u57 : vM := mup u46 16 y12 ((mrd u46 16 y12) + 1); (let u72 : vM := mup u57 18 ((a2 * 24) + a3) ((mrd u57 18 ((a2 * 24) + a3)) + 1); (if 500 ≤ (mfd u72 8) then u72 else (let u103 : vM := mup u72 19 (mfd u72 8) (((10000 * a1) + (100 * a2)) + a3); (mst u103 8 ((mfd u103 8) + 1))))))))))
def rmX0_enter : Room := { frames := 1, cells := 0, slots := 0, locals := 20 }
theorem fr_uX0_enter {u : vM} {a1 : Int32} {a2 : Int32} {a3 : Int32} {q : Nat} (h8 : q ≠ 8) (h15 : q ≠ 15) (h16 : q ≠ 16) (h17 : q ≠ 17) (h18 : q ≠ 18) (h19 : q ≠ 19) : uX0_enter u a1 a2 a3 q = u q := by
  unfold uX0_enter
  (try dsimp only)
  (repeat' split) <;> (try simp only [mup_ne h8, mup_ne h15, mup_ne h16, mup_ne h17, mup_ne h18, mup_ne h19, mst_ne h8, mst_ne h15, mst_ne h16, mst_ne h17, mst_ne h18, mst_ne h19])
def rX0_paysFor (u : vM) (a1 : Int32) (a2 : Int32) (a3 : Int32) (a4 : Int32) : Int32 := (let y4 : Int32 := (rX1_sheetOf a2); (let y18 : Int32 := ((rX0_costOf u a3) + (rX0_costOf u a4)); (if y18 ≤ (mrd u 14 y4) then 1 else 0)))
def uX0_paysFor (u : vM) (a1 : Int32) (a2 : Int32) (a3 : Int32) (a4 : Int32) : vM := (let y4 : Int32 := (rX1_sheetOf a2); (let y18 : Int32 := ((rX0_costOf u a3) + (rX0_costOf u a4)); (if y18 ≤ (mrd u 14 y4) then (let u45 : vM := mup u 14 y4 ((mrd u 14 y4) - y18); (let u50 : vM := uX0_enter u45 a1 a2 a3; (uX0_enter u50 a1 a2 a4))) else u)))
def rmX0_paysFor : Room := { frames := 2, cells := 0, slots := 0, locals := 44 }
theorem bX0_paysFor (u : vM) (a1 : Int32) (a2 : Int32) (a3 : Int32) (a4 : Int32) : rX0_paysFor u a1 a2 a3 a4 = 0 ∨ rX0_paysFor u a1 a2 a3 a4 = 1 := by
  unfold rX0_paysFor
  (try dsimp only)
  (repeat' split) <;> first | with_reducible exact Or.inl rfl | with_reducible exact Or.inr rfl | exact bX0_costOf _ _ | exact bX1_sheetOf _
theorem fr_uX0_paysFor {u : vM} {a1 : Int32} {a2 : Int32} {a3 : Int32} {a4 : Int32} {q : Nat} (h8 : q ≠ 8) (h14 : q ≠ 14) (h15 : q ≠ 15) (h16 : q ≠ 16) (h17 : q ≠ 17) (h18 : q ≠ 18) (h19 : q ≠ 19) : uX0_paysFor u a1 a2 a3 a4 q = u q := by
  unfold uX0_paysFor
  (try dsimp only)
  (repeat' split) <;> (try simp only [mup_ne h8, mup_ne h14, mup_ne h15, mup_ne h16, mup_ne h17, mup_ne h18, mup_ne h19, mst_ne h8, mst_ne h14, mst_ne h15, mst_ne h16, mst_ne h17, mst_ne h18, mst_ne h19, fr_uX0_enter h8 h15 h16 h17 h18 h19])
def rX1_valueIn_v5 (u : vM) (a1 : Int32) : Int32 := (if a1 < 0 then 0 else (if 24 ≤ a1 then 0 else (mrd u 5 a1)))
def rmX1_valueIn : Room := { frames := 0, cells := 0, slots := 0, locals := 0 }
def rX1_valueIn_v12 (u : vM) (a1 : Int32) : Int32 := (if a1 < 0 then 0 else (if 24 ≤ a1 then 0 else (mrd u 12 a1)))
def rX1_held (a0 : Int32) : Int32 := (if (-1000000) < (if a0 < 1000000 then a0 else 1000000) then (if a0 < 1000000 then a0 else 1000000) else (-1000000))
def rmX1_held : Room := { frames := 1, cells := 0, slots := 0, locals := 16 }
def rX1_resultOf_v5 (u : vM) (a1 : Int32) : Int32 := (let y10 : Int32 := (rX1_valueIn_v5 u (mrd u 2 a1)); (let y21 : Int32 := (rX1_valueIn_v5 u (mrd u 3 a1)); (if (mrd u 1 a1) = 1 then (rX1_held ((y10 + y21) + (mrd u 4 a1))) else (if (mrd u 1 a1) = 2 then (if y10 < y21 then y21 else y10) else (if (mrd u 1 a1) = 3 then (rX1_held (y10 * (mrd u 4 a1))) else (mrd u 4 a1))))))
def rmX1_resultOf : Room := { frames := 2, cells := 0, slots := 0, locals := 36 }
def rX1_resultOf_v12 (u : vM) (a1 : Int32) : Int32 := (let y10 : Int32 := (rX1_valueIn_v12 u (mrd u 2 a1)); (let y21 : Int32 := (rX1_valueIn_v12 u (mrd u 3 a1)); (if (mrd u 1 a1) = 1 then (rX1_held ((y10 + y21) + (mrd u 4 a1))) else (if (mrd u 1 a1) = 2 then (if y10 < y21 then y21 else y10) else (if (mrd u 1 a1) = 3 then (rX1_held (y10 * (mrd u 4 a1))) else (mrd u 4 a1))))))
def uX1_compute (u : vM) (a1 : Int32) (a2 : Int32) : vM := (let y10 : Int32 := (rX1_meteredRead a2 (mrd u 2 a2)); (let j40 : Int32 := (if (mrd u 3 a2) = (mrd u 2 a2) then (-1) else (rX1_meteredRead a2 (mrd u 3 a2))); (let u56 : vM := uX0_paysFor u a1 a2 y10 j40; (let j67 : Int32 := (if (rX0_paysFor u a1 a2 y10 j40) = 0 then 1 else 0); (let u67 : vM := mup u56 6 a2 j67; (if (mrd u67 6 a2) = 0 then (let y86 : Int32 := (rX1_resultOf_v5 u67 a2); (let j109 : Int32 := (if y86 = (mrd u67 5 a2) then 0 else 1); (let u109 : vM := mup u67 9 a2 j109; (mup u109 5 a2 y86)))) else u67))))))
def rmX1_compute : Room := { frames := 3, cells := 0, slots := 0, locals := 70 }
theorem fr_uX1_compute {u : vM} {a1 : Int32} {a2 : Int32} {q : Nat} (h5 : q ≠ 5) (h6 : q ≠ 6) (h8 : q ≠ 8) (h9 : q ≠ 9) (h14 : q ≠ 14) (h15 : q ≠ 15) (h16 : q ≠ 16) (h17 : q ≠ 17) (h18 : q ≠ 18) (h19 : q ≠ 19) : uX1_compute u a1 a2 q = u q := by
  unfold uX1_compute
  (try dsimp only)
  (repeat' split) <;> (try simp only [mup_ne h5, mup_ne h6, mup_ne h8, mup_ne h9, mup_ne h14, mup_ne h15, mup_ne h16, mup_ne h17, mup_ne h18, mup_ne h19, mst_ne h5, mst_ne h6, mst_ne h8, mst_ne h9, mst_ne h14, mst_ne h15, mst_ne h16, mst_ne h17, mst_ne h18, mst_ne h19, fr_uX0_paysFor h8 h14 h15 h16 h17 h18 h19])
def rX1_readsOneOf_v9 (u : vM) (a1 : Int32) : Int32 := (if (rX1_isIn_v9 u (mrd u 2 a1)) = 0 then (if (rX1_isIn_v9 u (mrd u 3 a1)) = 0 then 0 else 1) else 1)
def rmX1_readsOneOf : Room := { frames := 1, cells := 0, slots := 0, locals := 21 }
theorem bX1_readsOneOf_v9 (u : vM) (a1 : Int32) : rX1_readsOneOf_v9 u a1 = 0 ∨ rX1_readsOneOf_v9 u a1 = 1 := by
  unfold rX1_readsOneOf_v9
  (try dsimp only)
  (repeat' split) <;> first | with_reducible exact Or.inl rfl | with_reducible exact Or.inr rfl | exact bX1_isIn_v9 _ _
def rX1_readsOneOf_v11 (u : vM) (a1 : Int32) : Int32 := (if (rX1_isIn_v11 u (mrd u 2 a1)) = 0 then (if (rX1_isIn_v11 u (mrd u 3 a1)) = 0 then 0 else 1) else 1)
theorem bX1_readsOneOf_v11 (u : vM) (a1 : Int32) : rX1_readsOneOf_v11 u a1 = 0 ∨ rX1_readsOneOf_v11 u a1 = 1 := by
  unfold rX1_readsOneOf_v11
  (try dsimp only)
  (repeat' split) <;> first | with_reducible exact Or.inl rfl | with_reducible exact Or.inr rfl | exact bX1_isIn_v11 _ _
def lpX1_goThrough_5 (a1 : Int32) (a2 : Int32) : Nat → Nat → vM → Int32 → vM × Int32
  | 0, _, u, x3 => (u, x3)
  | n + 1, k, u, x3 => (let y19 : Int32 := (mrd u 7 (nI k)); (if (rX1_isCell y19) = 0 then lpX1_goThrough_5 a1 a2 n (k + 1) u x3 else (if (rX1_readsOneOf_v9 u y19) = 0 then (if a2 = 0 then lpX1_goThrough_5 a1 a2 n (k + 1) u x3 else (if (mrd u 6 y19) = 0 then lpX1_goThrough_5 a1 a2 n (k + 1) u x3 else (let u60 : vM := uX1_compute u a1 y19; lpX1_goThrough_5 a1 a2 n (k + 1) u60 (x3 + 1)))) else (let u60 : vM := uX1_compute u a1 y19; lpX1_goThrough_5 a1 a2 n (k + 1) u60 (x3 + 1)))))
def rX1_goThrough (u : vM) (a1 : Int32) (a2 : Int32) : Int32 := (let r5 := lpX1_goThrough_5 a1 a2 24 0 u 0; r5.2)
def uX1_goThrough (u : vM) (a1 : Int32) (a2 : Int32) : vM := (let r5 := lpX1_goThrough_5 a1 a2 24 0 u 0; r5.1)
def rmX1_goThrough : Room := { frames := 4, cells := 0, slots := 0, locals := 95 }
theorem fr_lpX1_goThrough_5_all {a1 : Int32} {a2 : Int32} {q : Nat} (h5 : q ≠ 5) (h6 : q ≠ 6) (h8 : q ≠ 8) (h9 : q ≠ 9) (h14 : q ≠ 14) (h15 : q ≠ 15) (h16 : q ≠ 16) (h17 : q ≠ 17) (h18 : q ≠ 18) (h19 : q ≠ 19) : ∀ (n k : Nat) (u : vM) (x3 : Int32), (lpX1_goThrough_5 a1 a2 n k u x3).1 q = u q := by
  intro n
  induction n with
  | zero => intro k u x3; rfl
  | succ n ih =>
    intro k u x3
    unfold lpX1_goThrough_5
    (try dsimp only)
    (repeat' split) <;> (simp only [ih, mup_ne h5, mup_ne h6, mup_ne h8, mup_ne h9, mup_ne h14, mup_ne h15, mup_ne h16, mup_ne h17, mup_ne h18, mup_ne h19, mst_ne h5, mst_ne h6, mst_ne h8, mst_ne h9, mst_ne h14, mst_ne h15, mst_ne h16, mst_ne h17, mst_ne h18, mst_ne h19, fr_uX1_compute h5 h6 h8 h9 h14 h15 h16 h17 h18 h19])
theorem fr_lpX1_goThrough_5 {a1 : Int32} {a2 : Int32}{n k : Nat} {u : vM} {x3 : Int32} {q : Nat} (h5 : q ≠ 5) (h6 : q ≠ 6) (h8 : q ≠ 8) (h9 : q ≠ 9) (h14 : q ≠ 14) (h15 : q ≠ 15) (h16 : q ≠ 16) (h17 : q ≠ 17) (h18 : q ≠ 18) (h19 : q ≠ 19) : (lpX1_goThrough_5 a1 a2 n k u x3).1 q = u q := fr_lpX1_goThrough_5_all h5 h6 h8 h9 h14 h15 h16 h17 h18 h19 n k u x3
theorem fr_uX1_goThrough {u : vM} {a1 : Int32} {a2 : Int32} {q : Nat} (h5 : q ≠ 5) (h6 : q ≠ 6) (h8 : q ≠ 8) (h9 : q ≠ 9) (h14 : q ≠ 14) (h15 : q ≠ 15) (h16 : q ≠ 16) (h17 : q ≠ 17) (h18 : q ≠ 18) (h19 : q ≠ 19) : uX1_goThrough u a1 a2 q = u q := by
  unfold uX1_goThrough
  (try dsimp only)
  (repeat' split) <;> (try simp only [mup_ne h5, mup_ne h6, mup_ne h8, mup_ne h9, mup_ne h14, mup_ne h15, mup_ne h16, mup_ne h17, mup_ne h18, mup_ne h19, mst_ne h5, mst_ne h6, mst_ne h8, mst_ne h9, mst_ne h14, mst_ne h15, mst_ne h16, mst_ne h17, mst_ne h18, mst_ne h19, fr_lpX1_goThrough_5 h5 h6 h8 h9 h14 h15 h16 h17 h18 h19])
def rX1_giveFormula (u : vM) (a1 : Int32) (a2 : Int32) (a3 : Int32) (a4 : Int32) (a5 : Int32) (a6 : Int32) : Int32 := (let u6 : vM := mup u 1 a2 a3; (let u14 : vM := mup u6 2 a2 a4; (let u22 : vM := mup u14 3 a2 a5; (let u30 : vM := mup u22 4 a2 a6; (let u32 : vM := uX1_putInOrder u30; (let u36 : vM := uX1_forgetChanges u32; (let u42 : vM := uX1_compute u36 a1 a2; (1 + (rX1_goThrough u42 a1 0)))))))))
def uX1_giveFormula (u : vM) (a1 : Int32) (a2 : Int32) (a3 : Int32) (a4 : Int32) (a5 : Int32) (a6 : Int32) : vM := (let u6 : vM := mup u 1 a2 a3; (let u14 : vM := mup u6 2 a2 a4; (let u22 : vM := mup u14 3 a2 a5; (let u30 : vM := mup u22 4 a2 a6; (let u32 : vM := uX1_putInOrder u30; (let u36 : vM := uX1_forgetChanges u32; (let u42 : vM := uX1_compute u36 a1 a2; (uX1_goThrough u42 a1 0))))))))
def rmX1_giveFormula : Room := { frames := 5, cells := 0, slots := 0, locals := 120 }
theorem fr_uX1_giveFormula {u : vM} {a1 : Int32} {a2 : Int32} {a3 : Int32} {a4 : Int32} {a5 : Int32} {a6 : Int32} {q : Nat} (h1 : q ≠ 1) (h2 : q ≠ 2) (h3 : q ≠ 3) (h4 : q ≠ 4) (h5 : q ≠ 5) (h6 : q ≠ 6) (h7 : q ≠ 7) (h8 : q ≠ 8) (h9 : q ≠ 9) (h10 : q ≠ 10) (h14 : q ≠ 14) (h15 : q ≠ 15) (h16 : q ≠ 16) (h17 : q ≠ 17) (h18 : q ≠ 18) (h19 : q ≠ 19) : uX1_giveFormula u a1 a2 a3 a4 a5 a6 q = u q := by
  unfold uX1_giveFormula
  (try dsimp only)
  (repeat' split) <;> (try simp only [mup_ne h1, mup_ne h2, mup_ne h3, mup_ne h4, mup_ne h5, mup_ne h6, mup_ne h7, mup_ne h8, mup_ne h9, mup_ne h10, mup_ne h14, mup_ne h15, mup_ne h16, mup_ne h17, mup_ne h18, mup_ne h19, mst_ne h1, mst_ne h2, mst_ne h3, mst_ne h4, mst_ne h5, mst_ne h6, mst_ne h7, mst_ne h8, mst_ne h9, mst_ne h10, mst_ne h14, mst_ne h15, mst_ne h16, mst_ne h17, mst_ne h18, mst_ne h19, fr_uX1_compute h5 h6 h8 h9 h14 h15 h16 h17 h18 h19, fr_uX1_forgetChanges h9, fr_uX1_goThrough h5 h6 h8 h9 h14 h15 h16 h17 h18 h19, fr_uX1_putInOrder h7 h10])
def rX1_setNumber (u : vM) (a1 : Int32) (a2 : Int32) (a3 : Int32) : Int32 := (if (rX1_isUser a1) = 0 then 0 else (if (rX1_isCell a2) = 0 then 0 else (if (rX1_isWithin a3 1000000) = 0 then 0 else (rX1_giveFormula u a1 a2 0 (-1) (-1) a3))))
def xX1_setNumber (u : vM) (a1 : Int32) (a2 : Int32) (a3 : Int32) : Int32 := (if (rX1_isUser a1) = 0 then 1 else (if (rX1_isCell a2) = 0 then 1 else (if (rX1_isWithin a3 1000000) = 0 then 1 else 0)))
def uX1_setNumber (u : vM) (a1 : Int32) (a2 : Int32) (a3 : Int32) : vM := (if (rX1_isUser a1) = 0 then u else (if (rX1_isCell a2) = 0 then u else (if (rX1_isWithin a3 1000000) = 0 then u else (uX1_giveFormula u a1 a2 0 (-1) (-1) a3))))
def rmX1_setNumber : Room := { frames := 6, cells := 0, slots := 0, locals := 146 }
theorem fr_uX1_setNumber {u : vM} {a1 : Int32} {a2 : Int32} {a3 : Int32} {q : Nat} (h1 : q ≠ 1) (h2 : q ≠ 2) (h3 : q ≠ 3) (h4 : q ≠ 4) (h5 : q ≠ 5) (h6 : q ≠ 6) (h7 : q ≠ 7) (h8 : q ≠ 8) (h9 : q ≠ 9) (h10 : q ≠ 10) (h14 : q ≠ 14) (h15 : q ≠ 15) (h16 : q ≠ 16) (h17 : q ≠ 17) (h18 : q ≠ 18) (h19 : q ≠ 19) : uX1_setNumber u a1 a2 a3 q = u q := by
  unfold uX1_setNumber
  (try dsimp only)
  (repeat' split) <;> (try simp only [mup_ne h1, mup_ne h2, mup_ne h3, mup_ne h4, mup_ne h5, mup_ne h6, mup_ne h7, mup_ne h8, mup_ne h9, mup_ne h10, mup_ne h14, mup_ne h15, mup_ne h16, mup_ne h17, mup_ne h18, mup_ne h19, mst_ne h1, mst_ne h2, mst_ne h3, mst_ne h4, mst_ne h5, mst_ne h6, mst_ne h7, mst_ne h8, mst_ne h9, mst_ne h10, mst_ne h14, mst_ne h15, mst_ne h16, mst_ne h17, mst_ne h18, mst_ne h19, fr_uX1_giveFormula h1 h2 h3 h4 h5 h6 h7 h8 h9 h10 h14 h15 h16 h17 h18 h19])
def lpX1_wouldReadItself_3 (a1 : Int32) : Nat → Nat → vM → vM
  | 0, _, u => u
  | n + 1, k, u => (let j27 : Int32 := (if (nI k) = a1 then 1 else 0); (let u27 : vM := mup u 11 (nI k) j27; lpX1_wouldReadItself_3 a1 n (k + 1) u27))
def lpX1_wouldReadItself_37 : Nat → Nat → vM → vM
  | 0, _, u => u
  | n + 1, k, u => (let y51 : Int32 := (mrd u 7 (nI k)); (if (rX1_isCell y51) = 0 then lpX1_wouldReadItself_37 n (k + 1) u else (if (rX1_readsOneOf_v11 u y51) = 0 then lpX1_wouldReadItself_37 n (k + 1) u else (let u81 : vM := mup u 11 y51 1; lpX1_wouldReadItself_37 n (k + 1) u81))))
def rX1_wouldReadItself (u : vM) (a1 : Int32) (a2 : Int32) (a3 : Int32) : Int32 := (let r3 := lpX1_wouldReadItself_3 a1 24 0 u; (let r37 := lpX1_wouldReadItself_37 24 0 r3; (if (rX1_isIn_v11 r37 a2) = 0 then (if (rX1_isIn_v11 r37 a3) = 0 then 0 else 1) else 1)))
def uX1_wouldReadItself (u : vM) (a1 : Int32) (a2 : Int32) (a3 : Int32) : vM := (let r3 := lpX1_wouldReadItself_3 a1 24 0 u; (lpX1_wouldReadItself_37 24 0 r3))
def rmX1_wouldReadItself : Room := { frames := 2, cells := 0, slots := 0, locals := 43 }
theorem bX1_wouldReadItself (u : vM) (a1 : Int32) (a2 : Int32) (a3 : Int32) : rX1_wouldReadItself u a1 a2 a3 = 0 ∨ rX1_wouldReadItself u a1 a2 a3 = 1 := by
  unfold rX1_wouldReadItself
  (try dsimp only)
  (repeat' split) <;> first | with_reducible exact Or.inl rfl | with_reducible exact Or.inr rfl | exact bX1_isIn_v11 _ _
theorem fr_lpX1_wouldReadItself_3_all {a1 : Int32} {q : Nat} (h11 : q ≠ 11) : ∀ (n k : Nat) (u : vM), (lpX1_wouldReadItself_3 a1 n k u) q = u q := by
  intro n
  induction n with
  | zero => intro k u; rfl
  | succ n ih =>
    intro k u
    unfold lpX1_wouldReadItself_3
    (try dsimp only)
    (repeat' split) <;> (simp only [ih, mup_ne h11, mst_ne h11])
theorem fr_lpX1_wouldReadItself_3 {a1 : Int32}{n k : Nat} {u : vM} {q : Nat} (h11 : q ≠ 11) : (lpX1_wouldReadItself_3 a1 n k u) q = u q := fr_lpX1_wouldReadItself_3_all h11 n k u
theorem fr_lpX1_wouldReadItself_37_all {q : Nat} (h11 : q ≠ 11) : ∀ (n k : Nat) (u : vM), (lpX1_wouldReadItself_37 n k u) q = u q := by
  intro n
  induction n with
  | zero => intro k u; rfl
  | succ n ih =>
    intro k u
    unfold lpX1_wouldReadItself_37
    (try dsimp only)
    (repeat' split) <;> (simp only [ih, mup_ne h11, mst_ne h11])
theorem fr_lpX1_wouldReadItself_37{n k : Nat} {u : vM} {q : Nat} (h11 : q ≠ 11) : (lpX1_wouldReadItself_37 n k u) q = u q := fr_lpX1_wouldReadItself_37_all h11 n k u
theorem fr_uX1_wouldReadItself {u : vM} {a1 : Int32} {a2 : Int32} {a3 : Int32} {q : Nat} (h11 : q ≠ 11) : uX1_wouldReadItself u a1 a2 a3 q = u q := by
  unfold uX1_wouldReadItself
  (try dsimp only)
  (repeat' split) <;> (try simp only [mup_ne h11, mst_ne h11, fr_lpX1_wouldReadItself_3 h11, fr_lpX1_wouldReadItself_37 h11])
def rX1_setSum (u : vM) (a1 : Int32) (a2 : Int32) (a3 : Int32) (a4 : Int32) (a5 : Int32) : Int32 := (if (rX1_isUser a1) = 0 then 0 else (if (rX1_isCell a2) = 0 then 0 else (if (rX1_isCell a3) = 0 then 0 else (if (rX1_isCell a4) = 0 then 0 else (if (rX1_isWithin a5 1000) = 0 then 0 else (let u55 : vM := uX1_wouldReadItself u a2 a3 a4; (if (rX1_wouldReadItself u a2 a3 a4) = 0 then (rX1_giveFormula u55 a1 a2 1 a3 a4 a5) else 0)))))))
def xX1_setSum (u : vM) (a1 : Int32) (a2 : Int32) (a3 : Int32) (a4 : Int32) (a5 : Int32) : Int32 := (if (rX1_isUser a1) = 0 then 1 else (if (rX1_isCell a2) = 0 then 1 else (if (rX1_isCell a3) = 0 then 1 else (if (rX1_isCell a4) = 0 then 1 else (if (rX1_isWithin a5 1000) = 0 then 1 else (if (rX1_wouldReadItself u a2 a3 a4) = 0 then 0 else 2))))))
def uX1_setSum (u : vM) (a1 : Int32) (a2 : Int32) (a3 : Int32) (a4 : Int32) (a5 : Int32) : vM := (if (rX1_isUser a1) = 0 then u else (if (rX1_isCell a2) = 0 then u else (if (rX1_isCell a3) = 0 then u else (if (rX1_isCell a4) = 0 then u else (if (rX1_isWithin a5 1000) = 0 then u else (let u55 : vM := uX1_wouldReadItself u a2 a3 a4; (if (rX1_wouldReadItself u a2 a3 a4) = 0 then (uX1_giveFormula u55 a1 a2 1 a3 a4 a5) else u55)))))))
def rmX1_setSum : Room := { frames := 6, cells := 0, slots := 0, locals := 146 }
theorem fr_uX1_setSum {u : vM} {a1 : Int32} {a2 : Int32} {a3 : Int32} {a4 : Int32} {a5 : Int32} {q : Nat} (h1 : q ≠ 1) (h2 : q ≠ 2) (h3 : q ≠ 3) (h4 : q ≠ 4) (h5 : q ≠ 5) (h6 : q ≠ 6) (h7 : q ≠ 7) (h8 : q ≠ 8) (h9 : q ≠ 9) (h10 : q ≠ 10) (h11 : q ≠ 11) (h14 : q ≠ 14) (h15 : q ≠ 15) (h16 : q ≠ 16) (h17 : q ≠ 17) (h18 : q ≠ 18) (h19 : q ≠ 19) : uX1_setSum u a1 a2 a3 a4 a5 q = u q := by
  unfold uX1_setSum
  (try dsimp only)
  (repeat' split) <;> (try simp only [mup_ne h1, mup_ne h2, mup_ne h3, mup_ne h4, mup_ne h5, mup_ne h6, mup_ne h7, mup_ne h8, mup_ne h9, mup_ne h10, mup_ne h11, mup_ne h14, mup_ne h15, mup_ne h16, mup_ne h17, mup_ne h18, mup_ne h19, mst_ne h1, mst_ne h2, mst_ne h3, mst_ne h4, mst_ne h5, mst_ne h6, mst_ne h7, mst_ne h8, mst_ne h9, mst_ne h10, mst_ne h11, mst_ne h14, mst_ne h15, mst_ne h16, mst_ne h17, mst_ne h18, mst_ne h19, fr_uX1_giveFormula h1 h2 h3 h4 h5 h6 h7 h8 h9 h10 h14 h15 h16 h17 h18 h19, fr_uX1_wouldReadItself h11])
def rX1_setGreater (u : vM) (a1 : Int32) (a2 : Int32) (a3 : Int32) (a4 : Int32) : Int32 := (if (rX1_isUser a1) = 0 then 0 else (if (rX1_isCell a2) = 0 then 0 else (if (rX1_isCell a3) = 0 then 0 else (if (rX1_isCell a4) = 0 then 0 else (let u44 : vM := uX1_wouldReadItself u a2 a3 a4; (if (rX1_wouldReadItself u a2 a3 a4) = 0 then (rX1_giveFormula u44 a1 a2 2 a3 a4 0) else 0))))))
def xX1_setGreater (u : vM) (a1 : Int32) (a2 : Int32) (a3 : Int32) (a4 : Int32) : Int32 := (if (rX1_isUser a1) = 0 then 1 else (if (rX1_isCell a2) = 0 then 1 else (if (rX1_isCell a3) = 0 then 1 else (if (rX1_isCell a4) = 0 then 1 else (if (rX1_wouldReadItself u a2 a3 a4) = 0 then 0 else 2)))))
def uX1_setGreater (u : vM) (a1 : Int32) (a2 : Int32) (a3 : Int32) (a4 : Int32) : vM := (if (rX1_isUser a1) = 0 then u else (if (rX1_isCell a2) = 0 then u else (if (rX1_isCell a3) = 0 then u else (if (rX1_isCell a4) = 0 then u else (let u44 : vM := uX1_wouldReadItself u a2 a3 a4; (if (rX1_wouldReadItself u a2 a3 a4) = 0 then (uX1_giveFormula u44 a1 a2 2 a3 a4 0) else u44))))))
def rmX1_setGreater : Room := { frames := 6, cells := 0, slots := 0, locals := 146 }
theorem fr_uX1_setGreater {u : vM} {a1 : Int32} {a2 : Int32} {a3 : Int32} {a4 : Int32} {q : Nat} (h1 : q ≠ 1) (h2 : q ≠ 2) (h3 : q ≠ 3) (h4 : q ≠ 4) (h5 : q ≠ 5) (h6 : q ≠ 6) (h7 : q ≠ 7) (h8 : q ≠ 8) (h9 : q ≠ 9) (h10 : q ≠ 10) (h11 : q ≠ 11) (h14 : q ≠ 14) (h15 : q ≠ 15) (h16 : q ≠ 16) (h17 : q ≠ 17) (h18 : q ≠ 18) (h19 : q ≠ 19) : uX1_setGreater u a1 a2 a3 a4 q = u q := by
  unfold uX1_setGreater
  (try dsimp only)
  (repeat' split) <;> (try simp only [mup_ne h1, mup_ne h2, mup_ne h3, mup_ne h4, mup_ne h5, mup_ne h6, mup_ne h7, mup_ne h8, mup_ne h9, mup_ne h10, mup_ne h11, mup_ne h14, mup_ne h15, mup_ne h16, mup_ne h17, mup_ne h18, mup_ne h19, mst_ne h1, mst_ne h2, mst_ne h3, mst_ne h4, mst_ne h5, mst_ne h6, mst_ne h7, mst_ne h8, mst_ne h9, mst_ne h10, mst_ne h11, mst_ne h14, mst_ne h15, mst_ne h16, mst_ne h17, mst_ne h18, mst_ne h19, fr_uX1_giveFormula h1 h2 h3 h4 h5 h6 h7 h8 h9 h10 h14 h15 h16 h17 h18 h19, fr_uX1_wouldReadItself h11])
def rX1_setTimes (u : vM) (a1 : Int32) (a2 : Int32) (a3 : Int32) (a4 : Int32) : Int32 := (if (rX1_isUser a1) = 0 then 0 else (if (rX1_isCell a2) = 0 then 0 else (if (rX1_isCell a3) = 0 then 0 else (if (rX1_isWithin a4 100) = 0 then 0 else (let u45 : vM := uX1_wouldReadItself u a2 a3 (-1); (if (rX1_wouldReadItself u a2 a3 (-1)) = 0 then (rX1_giveFormula u45 a1 a2 3 a3 (-1) a4) else 0))))))
def xX1_setTimes (u : vM) (a1 : Int32) (a2 : Int32) (a3 : Int32) (a4 : Int32) : Int32 := (if (rX1_isUser a1) = 0 then 1 else (if (rX1_isCell a2) = 0 then 1 else (if (rX1_isCell a3) = 0 then 1 else (if (rX1_isWithin a4 100) = 0 then 1 else (if (rX1_wouldReadItself u a2 a3 (-1)) = 0 then 0 else 2)))))
def uX1_setTimes (u : vM) (a1 : Int32) (a2 : Int32) (a3 : Int32) (a4 : Int32) : vM := (if (rX1_isUser a1) = 0 then u else (if (rX1_isCell a2) = 0 then u else (if (rX1_isCell a3) = 0 then u else (if (rX1_isWithin a4 100) = 0 then u else (let u45 : vM := uX1_wouldReadItself u a2 a3 (-1); (if (rX1_wouldReadItself u a2 a3 (-1)) = 0 then (uX1_giveFormula u45 a1 a2 3 a3 (-1) a4) else u45))))))
def rmX1_setTimes : Room := { frames := 6, cells := 0, slots := 0, locals := 146 }
theorem fr_uX1_setTimes {u : vM} {a1 : Int32} {a2 : Int32} {a3 : Int32} {a4 : Int32} {q : Nat} (h1 : q ≠ 1) (h2 : q ≠ 2) (h3 : q ≠ 3) (h4 : q ≠ 4) (h5 : q ≠ 5) (h6 : q ≠ 6) (h7 : q ≠ 7) (h8 : q ≠ 8) (h9 : q ≠ 9) (h10 : q ≠ 10) (h11 : q ≠ 11) (h14 : q ≠ 14) (h15 : q ≠ 15) (h16 : q ≠ 16) (h17 : q ≠ 17) (h18 : q ≠ 18) (h19 : q ≠ 19) : uX1_setTimes u a1 a2 a3 a4 q = u q := by
  unfold uX1_setTimes
  (try dsimp only)
  (repeat' split) <;> (try simp only [mup_ne h1, mup_ne h2, mup_ne h3, mup_ne h4, mup_ne h5, mup_ne h6, mup_ne h7, mup_ne h8, mup_ne h9, mup_ne h10, mup_ne h11, mup_ne h14, mup_ne h15, mup_ne h16, mup_ne h17, mup_ne h18, mup_ne h19, mst_ne h1, mst_ne h2, mst_ne h3, mst_ne h4, mst_ne h5, mst_ne h6, mst_ne h7, mst_ne h8, mst_ne h9, mst_ne h10, mst_ne h11, mst_ne h14, mst_ne h15, mst_ne h16, mst_ne h17, mst_ne h18, mst_ne h19, fr_uX1_giveFormula h1 h2 h3 h4 h5 h6 h7 h8 h9 h10 h14 h15 h16 h17 h18 h19, fr_uX1_wouldReadItself h11])
def rX1_refresh (u : vM) (a1 : Int32) : Int32 := (if (rX1_isUser a1) = 0 then 0 else (let u18 : vM := uX1_forgetChanges u; (rX1_goThrough u18 a1 1)))
def xX1_refresh (u : vM) (a1 : Int32) : Int32 := (if (rX1_isUser a1) = 0 then 1 else 0)
def uX1_refresh (u : vM) (a1 : Int32) : vM := (if (rX1_isUser a1) = 0 then u else (let u18 : vM := uX1_forgetChanges u; (uX1_goThrough u18 a1 1)))
def rmX1_refresh : Room := { frames := 5, cells := 0, slots := 0, locals := 120 }
theorem fr_uX1_refresh {u : vM} {a1 : Int32} {q : Nat} (h5 : q ≠ 5) (h6 : q ≠ 6) (h8 : q ≠ 8) (h9 : q ≠ 9) (h14 : q ≠ 14) (h15 : q ≠ 15) (h16 : q ≠ 16) (h17 : q ≠ 17) (h18 : q ≠ 18) (h19 : q ≠ 19) : uX1_refresh u a1 q = u q := by
  unfold uX1_refresh
  (try dsimp only)
  (repeat' split) <;> (try simp only [mup_ne h5, mup_ne h6, mup_ne h8, mup_ne h9, mup_ne h14, mup_ne h15, mup_ne h16, mup_ne h17, mup_ne h18, mup_ne h19, mst_ne h5, mst_ne h6, mst_ne h8, mst_ne h9, mst_ne h14, mst_ne h15, mst_ne h16, mst_ne h17, mst_ne h18, mst_ne h19, fr_uX1_forgetChanges h9, fr_uX1_goThrough h5 h6 h8 h9 h14 h15 h16 h17 h18 h19])
def rX1_isSheet (a0 : Int32) : Int32 := (if a0 < 0 then 0 else (if 4 ≤ a0 then 0 else 1))
def rmX1_isSheet : Room := { frames := 0, cells := 0, slots := 0, locals := 0 }
theorem bX1_isSheet (a0 : Int32) : rX1_isSheet a0 = 0 ∨ rX1_isSheet a0 = 1 := by
  unfold rX1_isSheet
  (try dsimp only)
  (repeat' split) <;> first | with_reducible exact Or.inl rfl | with_reducible exact Or.inr rfl
def rX1_setPrice (u : vM) (a1 : Int32) (a2 : Int32) : Int32 := (if (rX1_isSheet a1) = 0 then 0 else (if a2 < 0 then 0 else (if a2 ≤ 100 then (mrd u 13 a1) else 0)))
def xX1_setPrice (u : vM) (a1 : Int32) (a2 : Int32) : Int32 := (if (rX1_isSheet a1) = 0 then 1 else (if a2 < 0 then 1 else (if a2 ≤ 100 then 0 else 1)))
def uX1_setPrice (u : vM) (a1 : Int32) (a2 : Int32) : vM := (if (rX1_isSheet a1) = 0 then u else (if a2 < 0 then u else (if a2 ≤ 100 then (mup u 13 a1 a2) else u)))
def rmX1_setPrice : Room := { frames := 1, cells := 0, slots := 0, locals := 20 }
theorem fr_uX1_setPrice {u : vM} {a1 : Int32} {a2 : Int32} {q : Nat} (h13 : q ≠ 13) : uX1_setPrice u a1 a2 q = u q := by
  unfold uX1_setPrice
  (try dsimp only)
  (repeat' split) <;> (try simp only [mup_ne h13, mst_ne h13])
def rX1_grant (u : vM) (a1 : Int32) (a2 : Int32) : Int32 := (if (rX1_isSheet a1) = 0 then 0 else (if a2 < 1 then 0 else (if a2 ≤ 10000 then (let u41 : vM := mup u 14 a1 ((mrd u 14 a1) + a2); (mrd u41 14 a1)) else 0)))
def xX1_grant (u : vM) (a1 : Int32) (a2 : Int32) : Int32 := (if (rX1_isSheet a1) = 0 then 1 else (if a2 < 1 then 1 else (if a2 ≤ 10000 then 0 else 1)))
def uX1_grant (u : vM) (a1 : Int32) (a2 : Int32) : vM := (if (rX1_isSheet a1) = 0 then u else (if a2 < 1 then u else (if a2 ≤ 10000 then (mup u 14 a1 ((mrd u 14 a1) + a2)) else u)))
def rmX1_grant : Room := { frames := 1, cells := 0, slots := 0, locals := 20 }
theorem fr_uX1_grant {u : vM} {a1 : Int32} {a2 : Int32} {q : Nat} (h14 : q ≠ 14) : uX1_grant u a1 a2 q = u q := by
  unfold uX1_grant
  (try dsimp only)
  (repeat' split) <;> (try simp only [mup_ne h14, mst_ne h14])
def rX1_budget (u : vM) (a1 : Int32) : Int32 := (if (rX1_isSheet a1) = 0 then 0 else (mrd u 14 a1))
def xX1_budget (u : vM) (a1 : Int32) : Int32 := (if (rX1_isSheet a1) = 0 then 1 else 0)
def rmX1_budget : Room := { frames := 1, cells := 0, slots := 0, locals := 20 }
def rX1_earned (u : vM) (a1 : Int32) : Int32 := (if (rX1_isSheet a1) = 0 then 0 else (mrd u 15 a1))
def xX1_earned (u : vM) (a1 : Int32) : Int32 := (if (rX1_isSheet a1) = 0 then 1 else 0)
def rmX1_earned : Room := { frames := 1, cells := 0, slots := 0, locals := 20 }
def rX1_caused (u : vM) (a1 : Int32) : Int32 := (if (rX1_isUser a1) = 0 then 0 else (mrd u 17 a1))
def xX1_caused (u : vM) (a1 : Int32) : Int32 := (if (rX1_isUser a1) = 0 then 1 else 0)
def rmX1_caused : Room := { frames := 1, cells := 0, slots := 0, locals := 20 }
def rX1_value (u : vM) (a1 : Int32) : Int32 := (if (rX1_isCell a1) = 0 then 0 else (mrd u 5 a1))
def xX1_value (u : vM) (a1 : Int32) : Int32 := (if (rX1_isCell a1) = 0 then 1 else 0)
def rmX1_value : Room := { frames := 1, cells := 0, slots := 0, locals := 20 }
def rX1_isMarked (u : vM) (a1 : Int32) : Int32 := (if (rX1_isCell a1) = 0 then 0 else (mrd u 6 a1))
def xX1_isMarked (u : vM) (a1 : Int32) : Int32 := (if (rX1_isCell a1) = 0 then 1 else 0)
def rmX1_isMarked : Room := { frames := 1, cells := 0, slots := 0, locals := 20 }
def lpX1_valueAnew_19 : Nat → Nat → vM → vM
  | 0, _, u => u
  | n + 1, k, u => (let y31 : Int32 := (mrd u 7 (nI k)); (if (rX1_isCell y31) = 0 then lpX1_valueAnew_19 n (k + 1) u else (let u53 : vM := mup u 12 y31 (rX1_resultOf_v12 u y31); lpX1_valueAnew_19 n (k + 1) u53)))
def rX1_valueAnew (u : vM) (a1 : Int32) : Int32 := (if (rX1_isCell a1) = 0 then 0 else (let r19 := lpX1_valueAnew_19 24 0 u; (mrd r19 12 a1)))
def xX1_valueAnew (u : vM) (a1 : Int32) : Int32 := (if (rX1_isCell a1) = 0 then 1 else 0)
def uX1_valueAnew (u : vM) (a1 : Int32) : vM := (if (rX1_isCell a1) = 0 then u else (lpX1_valueAnew_19 24 0 u))
def rmX1_valueAnew : Room := { frames := 3, cells := 0, slots := 0, locals := 60 }
theorem fr_lpX1_valueAnew_19_all {q : Nat} (h12 : q ≠ 12) : ∀ (n k : Nat) (u : vM), (lpX1_valueAnew_19 n k u) q = u q := by
  intro n
  induction n with
  | zero => intro k u; rfl
  | succ n ih =>
    intro k u
    unfold lpX1_valueAnew_19
    (try dsimp only)
    (repeat' split) <;> (simp only [ih, mup_ne h12, mst_ne h12])
theorem fr_lpX1_valueAnew_19{n k : Nat} {u : vM} {q : Nat} (h12 : q ≠ 12) : (lpX1_valueAnew_19 n k u) q = u q := fr_lpX1_valueAnew_19_all h12 n k u
theorem fr_uX1_valueAnew {u : vM} {a1 : Int32} {q : Nat} (h12 : q ≠ 12) : uX1_valueAnew u a1 q = u q := by
  unfold uX1_valueAnew
  (try dsimp only)
  (repeat' split) <;> (try simp only [mup_ne h12, mst_ne h12, fr_lpX1_valueAnew_19 h12])
def rX1_readings (u : vM) : Int32 := (mfd u 8)
def rmX1_readings : Room := { frames := 0, cells := 0, slots := 0, locals := 0 }
def rX1_reading (u : vM) (a1 : Int32) : Int32 := (if a1 < 0 then 0 else (if (mfd u 8) ≤ a1 then 0 else (if a1 < 500 then (mrd u 19 a1) else 0)))
def xX1_reading (u : vM) (a1 : Int32) : Int32 := (if a1 < 0 then 1 else (if (mfd u 8) ≤ a1 then 1 else (if a1 < 500 then 0 else 1)))
def rmX1_reading : Room := { frames := 0, cells := 0, slots := 0, locals := 0 }
def rX1_timesRead (u : vM) (a1 : Int32) (a2 : Int32) : Int32 := (if (rX1_isCell a1) = 0 then 0 else (if (rX1_isCell a2) = 0 then 0 else (mrd u 18 ((a1 * 24) + a2))))
def xX1_timesRead (u : vM) (a1 : Int32) (a2 : Int32) : Int32 := (if (rX1_isCell a1) = 0 then 1 else (if (rX1_isCell a2) = 0 then 1 else 0))
def rmX1_timesRead : Room := { frames := 1, cells := 0, slots := 0, locals := 20 }
def rX1_readOf (u : vM) (a1 : Int32) : Int32 := (if (rX1_isSheet a1) = 0 then 0 else (mrd u 16 a1))
def xX1_readOf (u : vM) (a1 : Int32) : Int32 := (if (rX1_isSheet a1) = 0 then 1 else 0)
def rmX1_readOf : Room := { frames := 1, cells := 0, slots := 0, locals := 20 }
end
section
def rL_at (a0 : Int32) (a1 : Int32) : Int32 := ((ush a0 1) - (ush a0 1) / a1 * a1)
def rmL_at : Room := { frames := 0, cells := 0, slots := 0, locals := 0 }
def lpL_marked_4 (u : vM) : Nat → Nat → Int32 → Int32
  | 0, _, x1 => x1
  | n + 1, k, x1 => (let j26 : Int32 := (if (rX1_isMarked u (nI k)) = 0 then 0 else (1 <<< ((nI k) &&& 31))); (let y27 : Int32 := (x1 ||| j26); lpL_marked_4 u n (k + 1) y27))
def rL_marked (u : vM) : Int32 := (lpL_marked_4 u 24 0 0)
def rmL_marked : Room := { frames := 2, cells := 0, slots := 0, locals := 41 }
def lpL_accounts_68 (u : vM) : Nat → Nat → Int32 → Int32
  | 0, _, x4 => x4
  | n + 1, k, x4 => (let y83 : Int32 := (x4 + (rX1_caused u (nI k))); lpL_accounts_68 u n (k + 1) y83)
def lpL_accounts_13 (a4 : Int32) (u : vM) : Nat → Nat → Int32 → Int32 → Int32 → Int32
  | 0, _, x2, x3, x5 => (let r68 := lpL_accounts_68 u 5 0 a4; (if (x2 + x3) = (mrd u 20 0) then (if r68 = x3 then (let j126 : Int32 := (if 500 ≤ x5 then 500 else x5); (if (rX1_readings u) = j126 then 1 else 0)) else 0) else 0))
  | n + 1, k, x2, x3, x5 => (if 0 ≤ (rX1_budget u (nI k)) then (let y38 : Int32 := (x2 + (rX1_budget u (nI k))); (let y47 : Int32 := (x3 + (rX1_earned u (nI k))); (let y57 : Int32 := (x5 + (rX1_readOf u (nI k))); lpL_accounts_13 a4 u n (k + 1) y38 y47 y57))) else 0)
def rL_accounts (u : vM) : Int32 := (lpL_accounts_13 0 u 4 0 0 0 0)
def rmL_accounts : Room := { frames := 2, cells := 0, slots := 0, locals := 41 }
def rL_give (u : vM) (a1 : Int32) (a2 : Int32) (a3 : Int32) : Int32 := (let y6 : Int32 := (rL_at a1 24); (let y14 : Int32 := (rL_at a2 24); (let y24 : Int32 := (rL_at (a2 >>> (5 &&& 31)) 24); (let y33 : Int32 := (rL_at (a1 >>> (5 &&& 31)) 4); (if y33 = 0 then (rX1_setNumber u a3 y6 ((rL_at a2 2000001) - 1000000)) else (if y6 ≤ y14 then (rX1_setNumber u a3 y6 ((rL_at a2 2000001) - 1000000)) else (if y24 < y6 then (if y33 = 1 then (rX1_setSum u a3 y6 y14 y24 ((rL_at (a1 >>> (7 &&& 31)) 2001) - 1000)) else (if y33 = 2 then (rX1_setGreater u a3 y6 y14 y24) else (rX1_setTimes u a3 y6 y14 ((rL_at (a1 >>> (7 &&& 31)) 201) - 100)))) else (rX1_setNumber u a3 y6 ((rL_at a2 2000001) - 1000000)))))))))
def uL_give (u : vM) (a1 : Int32) (a2 : Int32) (a3 : Int32) : vM := (let y6 : Int32 := (rL_at a1 24); (let y14 : Int32 := (rL_at a2 24); (let y24 : Int32 := (rL_at (a2 >>> (5 &&& 31)) 24); (let y33 : Int32 := (rL_at (a1 >>> (5 &&& 31)) 4); (if y33 = 0 then (uX1_setNumber u a3 y6 ((rL_at a2 2000001) - 1000000)) else (if y6 ≤ y14 then (uX1_setNumber u a3 y6 ((rL_at a2 2000001) - 1000000)) else (if y24 < y6 then (if y33 = 1 then (uX1_setSum u a3 y6 y14 y24 ((rL_at (a1 >>> (7 &&& 31)) 2001) - 1000)) else (if y33 = 2 then (uX1_setGreater u a3 y6 y14 y24) else (uX1_setTimes u a3 y6 y14 ((rL_at (a1 >>> (7 &&& 31)) 201) - 100)))) else (uX1_setNumber u a3 y6 ((rL_at a2 2000001) - 1000000)))))))))
def rmL_give : Room := { frames := 7, cells := 0, slots := 0, locals := 171 }
theorem fr_uL_give {u : vM} {a1 : Int32} {a2 : Int32} {a3 : Int32} {q : Nat} (h1 : q ≠ 1) (h2 : q ≠ 2) (h3 : q ≠ 3) (h4 : q ≠ 4) (h5 : q ≠ 5) (h6 : q ≠ 6) (h7 : q ≠ 7) (h8 : q ≠ 8) (h9 : q ≠ 9) (h10 : q ≠ 10) (h11 : q ≠ 11) (h14 : q ≠ 14) (h15 : q ≠ 15) (h16 : q ≠ 16) (h17 : q ≠ 17) (h18 : q ≠ 18) (h19 : q ≠ 19) : uL_give u a1 a2 a3 q = u q := by
  unfold uL_give
  (try dsimp only)
  (repeat' split) <;> (try simp only [mup_ne h1, mup_ne h2, mup_ne h3, mup_ne h4, mup_ne h5, mup_ne h6, mup_ne h7, mup_ne h8, mup_ne h9, mup_ne h10, mup_ne h11, mup_ne h14, mup_ne h15, mup_ne h16, mup_ne h17, mup_ne h18, mup_ne h19, mst_ne h1, mst_ne h2, mst_ne h3, mst_ne h4, mst_ne h5, mst_ne h6, mst_ne h7, mst_ne h8, mst_ne h9, mst_ne h10, mst_ne h11, mst_ne h14, mst_ne h15, mst_ne h16, mst_ne h17, mst_ne h18, mst_ne h19, fr_uX1_setGreater h1 h2 h3 h4 h5 h6 h7 h8 h9 h10 h11 h14 h15 h16 h17 h18 h19, fr_uX1_setNumber h1 h2 h3 h4 h5 h6 h7 h8 h9 h10 h14 h15 h16 h17 h18 h19, fr_uX1_setSum h1 h2 h3 h4 h5 h6 h7 h8 h9 h10 h11 h14 h15 h16 h17 h18 h19, fr_uX1_setTimes h1 h2 h3 h4 h5 h6 h7 h8 h9 h10 h11 h14 h15 h16 h17 h18 h19])
end
section
/-! plain facts of the class's meaning that its walk needs: indices within their rows, the count of kept readings -/
theorem vq_lt {x N : Int32} {n : Nat} (h1 : ¬ x < 0) (h2 : ¬ N ≤ x) (hN : N.toInt = (n : Int) := by decide) : vp_in x n := by
  rw [vp_in_iff]
  rw [Int32.lt_iff_toInt_lt, Int32.toInt_zero] at h1
  rw [Int32.le_iff_toInt_le, hN] at h2
  omega
theorem vq_lt1 {x N : Int32} {n : Nat} (h1 : ¬ x < 0) (h2 : x < N) (hN : N.toInt = (n : Int) := by decide) : vp_in x n := by
  rw [vp_in_iff]
  rw [Int32.lt_iff_toInt_lt, Int32.toInt_zero] at h1
  rw [Int32.lt_iff_toInt_lt, hN] at h2
  omega
theorem vqX1_isCell {x : Int32} (h : ¬ rX1_isCell x = 0) : vp_in x 24 := by
  unfold rX1_isCell at h
  by_cases h1 : x < 0
  · rw [if_pos h1] at h; exact absurd rfl h
  · rw [if_neg h1] at h
    by_cases h2 : (24 : Int32) ≤ x
    · rw [if_pos h2] at h; exact absurd rfl h
    · exact vq_lt h1 h2
theorem vqX1_isUser {x : Int32} (h : ¬ rX1_isUser x = 0) : vp_in x 5 := by
  unfold rX1_isUser at h
  by_cases h1 : x < 0
  · rw [if_pos h1] at h; exact absurd rfl h
  · rw [if_neg h1] at h
    by_cases h2 : (5 : Int32) ≤ x
    · rw [if_pos h2] at h; exact absurd rfl h
    · exact vq_lt h1 h2
theorem vqX1_isSheet {x : Int32} (h : ¬ rX1_isSheet x = 0) : vp_in x 4 := by
  unfold rX1_isSheet at h
  by_cases h1 : x < 0
  · rw [if_pos h1] at h; exact absurd rfl h
  · rw [if_neg h1] at h
    by_cases h2 : (4 : Int32) ≤ x
    · rw [if_pos h2] at h; exact absurd rfl h
    · exact vq_lt h1 h2
theorem vq_d6_all : ∀ j, j < 24 → ¬ (nI j / 6 < 0 ∨ 4 ≤ (nI j / 6).toNatClampNeg) := by decide +kernel
theorem vq_d6 {x : Int32} (h : vp_in x 24) : vp_in (x / 6) 4 := by
  obtain ⟨j, hj, rfl⟩ := vp_in_of h (by decide)
  exact vq_d6_all j hj
theorem vqX1_sheetOf {x : Int32} (h : vp_in x 24) : vp_in (rX1_sheetOf x) 4 := vq_d6 h
theorem vq_576_all : ∀ j, j < 24 → ∀ k, k < 24 → ¬ (nI j * 24 + nI k < 0 ∨ 576 ≤ (nI j * 24 + nI k).toNatClampNeg) := by decide +kernel
theorem vq_576 {x y : Int32} (h : vp_in x 24) (h2 : vp_in y 24) : vp_in ((x * 24) + y) 576 := by
  obtain ⟨j, hj, rfl⟩ := vp_in_of h (by decide)
  obtain ⟨k, hk, rfl⟩ := vp_in_of h2 (by decide)
  exact vq_576_all j hj k hk
theorem vq_576' {x y : Int32} (h : vp_in x 24) (h2 : vp_in y 24) : vp_in ((24 * x) + y) 576 := by rw [Int32.mul_comm]; exact vq_576 h h2
/-- how many readings are kept: 0 to 500 -/
def kc (u : vM) : Prop := ∃ j : Nat, j ≤ 500 ∧ u 8 0 = nI j
theorem vq_kc {u : vM} (h : kc u) (h2 : ¬ 500 ≤ mfd u 8) : vp_in (mfd u 8) 500 := by
  obtain ⟨j, hj, e⟩ := h
  unfold mfd at h2 ⊢
  rw [e] at h2 ⊢
  refine vp_in_nI ?_ (by decide)
  rcases Nat.lt_or_ge j 500 with q | q
  · exact q
  · exact absurd (nI_le q (by omega)) h2
theorem kc_X0_enter {u : vM} {a b c : Int32} (h : kc u) : kc (uX0_enter u a b c) := by
  unfold uX0_enter
  by_cases h1 : rX1_isCell c = 0
  · rw [if_pos h1]; exact h
  · rw [if_neg h1]
    dsimp only
    split
    · exact h
    · rename_i h2
      obtain ⟨j, hj, e⟩ := h
      have h3 : ¬ (500 : Int32) ≤ u 8 0 := h2
      rw [e] at h3
      have h4 : j < 500 := by
        rcases Nat.lt_or_ge j 500 with q | q
        · exact q
        · exact absurd (nI_le q (by omega)) h3
      refine ⟨j + 1, h4, ?_⟩
      show u 8 0 + 1 = nI (j + 1)
      rw [e]
      exact nI_1 j
theorem kc_X0_paysFor {u : vM} {a b c d : Int32} (h : kc u) : kc (uX0_paysFor u a b c d) := by
  unfold uX0_paysFor
  dsimp only
  split
  · exact kc_X0_enter (kc_X0_enter h)
  · exact h
theorem kc_X1_compute {u : vM} {a b : Int32} (h : kc u) : kc (uX1_compute u a b) := by
  unfold uX1_compute
  dsimp only
  (repeat' split) <;> exact kc_X0_paysFor (u := u) h
theorem kc_lpX1_putInOrder_2 : ∀ (n k : Nat) (u : vM), kc u → kc (lpX1_putInOrder_2 n k u)
  | 0, _, _, h => h
  | n + 1, k, u, h => kc_lpX1_putInOrder_2 n (k + 1) _ h
theorem kc_lpX1_putInOrder_23 : ∀ (n k : Nat) (u : vM), kc u → kc (lpX1_putInOrder_23 n k u)
  | 0, _, _, h => h
  | n + 1, k, u, h => by
    unfold lpX1_putInOrder_23
    dsimp only
    split
    · exact kc_lpX1_putInOrder_23 n (k + 1) _ h
    · exact kc_lpX1_putInOrder_23 n (k + 1) _ h
theorem kc_X1_putInOrder {u : vM} (h : kc u) : kc (uX1_putInOrder u) := kc_lpX1_putInOrder_23 24 0 _ (kc_lpX1_putInOrder_2 24 0 _ h)
theorem kc_lpX1_forgetChanges_2 : ∀ (n k : Nat) (u : vM), kc u → kc (lpX1_forgetChanges_2 n k u)
  | 0, _, _, h => h
  | n + 1, k, u, h => kc_lpX1_forgetChanges_2 n (k + 1) _ h
theorem kc_X1_forgetChanges {u : vM} (h : kc u) : kc (uX1_forgetChanges u) := kc_lpX1_forgetChanges_2 24 0 _ h
theorem kc_congr {u u' : vM} (e : u' 8 = u 8) (h : kc u) : kc u' := by
  obtain ⟨j, h1, h2⟩ := h
  exact ⟨j, h1, by rw [e]; exact h2⟩
/-- a row of truth values -/
def bo (u : vM) (q : Nat) : Prop := ∀ i : Nat, u q i = 0 ∨ u q i = 1
/-! what the law's own walk needs: numbers in their ranges, calls that don't throw -/
theorem in_of {x : Int32} {n : Nat} (h : vp_in x n) : ¬ x < 0 ∧ x.toInt < n := by
  obtain ⟨h1, h2⟩ := vp_in_iff.mp h
  exact ⟨fun q => by rw [Int32.lt_iff_toInt_lt, Int32.toInt_zero] at q; omega, h2⟩
theorem in_nle {x N : Int32} {n : Nat} (h : vp_in x n) (hN : N.toInt = (n : Int) := by decide) : ¬ N ≤ x := by
  intro q
  have h2 := (vp_in_iff.mp h).2
  rw [Int32.le_iff_toInt_le, hN] at q
  omega
theorem cell1_in {x : Int32} (h : vp_in x 24) : rX1_isCell x = 1 := by
  unfold rX1_isCell
  rw [if_neg (in_of h).1, if_neg (in_nle h)]
theorem user1_in {x : Int32} (h : vp_in x 5) : rX1_isUser x = 1 := by
  unfold rX1_isUser
  rw [if_neg (in_of h).1, if_neg (in_nle h)]
theorem sheet1_in {x : Int32} (h : vp_in x 4) : rX1_isSheet x = 1 := by
  unfold rX1_isSheet
  rw [if_neg (in_of h).1, if_neg (in_nle h)]
theorem c10 : ¬ (1 : Int32) = 0 := by decide
theorem xq_budget {u : vM} {a : Int32} (h : vp_in a 4) : xX1_budget u a = 0 := by unfold xX1_budget; rw [sheet1_in h, if_neg c10]
theorem xq_earned {u : vM} {a : Int32} (h : vp_in a 4) : xX1_earned u a = 0 := by unfold xX1_earned; rw [sheet1_in h, if_neg c10]
theorem xq_readOf {u : vM} {a : Int32} (h : vp_in a 4) : xX1_readOf u a = 0 := by unfold xX1_readOf; rw [sheet1_in h, if_neg c10]
theorem xq_caused {u : vM} {a : Int32} (h : vp_in a 5) : xX1_caused u a = 0 := by unfold xX1_caused; rw [user1_in h, if_neg c10]
theorem xq_isMarked {u : vM} {a : Int32} (h : vp_in a 24) : xX1_isMarked u a = 0 := by unfold xX1_isMarked; rw [cell1_in h, if_neg c10]
theorem xq_value {u : vM} {a : Int32} (h : vp_in a 24) : xX1_value u a = 0 := by unfold xX1_value; rw [cell1_in h, if_neg c10]
theorem xq_valueAnew {u : vM} {a : Int32} (h : vp_in a 24) : xX1_valueAnew u a = 0 := by unfold xX1_valueAnew; rw [cell1_in h, if_neg c10]
theorem ush1 (x : Int32) : ∃ j : Nat, j < 2 ^ 31 ∧ ush x 1 = nI j := by
  have e : ush x 1 = nI (x.toUInt32.toNat / 2) := by
    unfold ush nI
    have h1 : ((1 : Int32).toUInt32 &&& Int32.toUInt32 31) = 1 := by decide
    rw [h1]
    apply Int32.toBitVec_inj.mp
    apply BitVec.eq_of_toNat_eq
    show (x.toUInt32 >>> 1).toBitVec.toNat = (Int32.ofNat (x.toUInt32.toNat / 2)).toBitVec.toNat
    have h2 : (x.toUInt32 >>> 1).toBitVec.toNat = (x.toUInt32 >>> 1).toNat := rfl
    rw [h2, UInt32.toNat_shiftRight]
    have h3 : (Int32.ofNat (x.toUInt32.toNat / 2)).toBitVec = BitVec.ofNat 32 (x.toUInt32.toNat / 2) := rfl
    rw [h3, BitVec.toNat_ofNat]
    have h4 := x.toUInt32.toNat_lt
    have h5 : (1 : UInt32).toNat % 32 = 1 := by decide
    rw [h5, Nat.shiftRight_eq_div_pow]
    have h6 : x.toUInt32.toNat / 2 ^ 1 < 2 ^ 32 := by omega
    rw [Nat.mod_eq_of_lt (by omega)]
  exact ⟨x.toUInt32.toNat / 2, by have := x.toUInt32.toNat_lt; omega, e⟩
theorem at_nI (x : Int32) {n : Nat} (h0 : 0 < n) (hn : n < 2 ^ 31) : ∃ j : Nat, j < n ∧ rL_at x (nI n) = nI j := by
  obtain ⟨j, hj, e⟩ := ush1 x
  refine ⟨j % n, Nat.mod_lt _ h0, ?_⟩
  unfold rL_at
  rw [e]
  exact pk_rem hj h0 hn
theorem at_in {x N : Int32} {n : Nat} (hN : N = nI n := by rfl) (h0 : 0 < n := by decide) (hn : n < 2 ^ 31 := by decide) : vp_in (rL_at x N) n := by
  subst hN
  obtain ⟨j, hj, e⟩ := at_nI x h0 hn
  rw [e]
  exact vp_in_nI hj hn
theorem within_at {x N M : Int32} {m : Nat} (hN : N = nI (2 * m + 1) := by rfl) (hM : M = nI m := by rfl) (hm : 2 * m + 1 < 2 ^ 30 := by decide) : rX1_isWithin (rL_at x N - M) M = 1 := by
  subst hN; subst hM
  obtain ⟨j, hj, e⟩ := at_nI x (n := 2 * m + 1) (by omega) (by omega)
  rw [e]
  have h1 : (nI j - nI m).toInt = (j : Int) - m := pk_sub_toInt (by omega) (by omega)
  have h2 : (-nI m : Int32).toInt = -(m : Int) := by
    have h3 : (-nI m : Int32) = nI 0 - nI m := by rw [nI_0, Int32.zero_sub]
    rw [h3, pk_sub_toInt (by decide) (by omega)]
    omega
  unfold rX1_isWithin
  rw [if_neg (fun q => by rw [Int32.lt_iff_toInt_lt, h1, h2] at q; omega), if_neg (fun q => by rw [Int32.lt_iff_toInt_lt, h1, nI_toInt (by omega)] at q; omega)]
/-- what the law's gift needs of the memory and the user -/
def gv (u : vM) (us : Int32) : Prop := kc u ∧ vp_in us 5 ∧ ∀ c a b : Int32, vp_in c 24 → vp_in a 24 → b = -1 ∨ vp_in b 24 → a < c → b < c → rX1_wouldReadItself u c a b = 0
theorem x_num {u : vM} {us a1 a2 c : Int32} (h : gv u us) (hc : rL_at a1 24 = c) : xX1_setNumber u us c (rL_at a2 2000001 - 1000000) = 0 := by
  subst hc
  unfold xX1_setNumber
  rw [user1_in h.2.1, if_neg c10, cell1_in (at_in (n := 24)), if_neg c10, within_at (m := 1000000), if_neg c10]
theorem x_sum {u : vM} {us a1 a2 a3 a4 c a b : Int32} (h : gv u us) (hc : rL_at a1 24 = c) (ha : rL_at a2 24 = a) (hb : rL_at a3 24 = b) (h1 : ¬ c ≤ a) (h2 : b < c) : xX1_setSum u us c a b (rL_at a4 2001 - 1000) = 0 := by
  have h1' : a < c := Int32.not_le.mp h1
  subst hc; subst ha; subst hb
  unfold xX1_setSum
  rw [user1_in h.2.1, if_neg c10, cell1_in (at_in (n := 24)), if_neg c10, cell1_in (at_in (n := 24)), if_neg c10, cell1_in (at_in (n := 24)), if_neg c10, within_at (m := 1000), if_neg c10, h.2.2 _ _ _ (at_in (n := 24)) (at_in (n := 24)) (Or.inr (at_in (n := 24))) h1' h2, if_pos rfl]
theorem x_gre {u : vM} {us a1 a2 a3 c a b : Int32} (h : gv u us) (hc : rL_at a1 24 = c) (ha : rL_at a2 24 = a) (hb : rL_at a3 24 = b) (h1 : ¬ c ≤ a) (h2 : b < c) : xX1_setGreater u us c a b = 0 := by
  have h1' : a < c := Int32.not_le.mp h1
  subst hc; subst ha; subst hb
  unfold xX1_setGreater
  rw [user1_in h.2.1, if_neg c10, cell1_in (at_in (n := 24)), if_neg c10, cell1_in (at_in (n := 24)), if_neg c10, cell1_in (at_in (n := 24)), if_neg c10, h.2.2 _ _ _ (at_in (n := 24)) (at_in (n := 24)) (Or.inr (at_in (n := 24))) h1' h2, if_pos rfl]
theorem m1_lt {c : Int32} (h : vp_in c 24) : (-1 : Int32) < c := by
  rw [Int32.lt_iff_toInt_lt]
  have h1 := (vp_in_iff.mp h).1
  have h2 : (-1 : Int32).toInt = -1 := by decide
  omega
theorem x_tim {u : vM} {us a1 a2 a4 c a : Int32} (h : gv u us) (hc : rL_at a1 24 = c) (ha : rL_at a2 24 = a) (h1 : ¬ c ≤ a) : xX1_setTimes u us c a (rL_at a4 201 - 100) = 0 := by
  have h1' : a < c := Int32.not_le.mp h1
  subst hc; subst ha
  unfold xX1_setTimes
  rw [user1_in h.2.1, if_neg c10, cell1_in (at_in (n := 24)), if_neg c10, cell1_in (at_in (n := 24)), if_neg c10, within_at (m := 100), if_neg c10, h.2.2 _ _ _ (at_in (n := 24)) (at_in (n := 24)) (Or.inl rfl) h1' (m1_lt (at_in (n := 24))), if_pos rfl]
end
section
variable {p : Program} {l : Launch} {e : Env} {s : State} {m : MethodId} {args : Array Value} {below : List Frame} {meth : Method} {c : Code} {D : va_G} {cI cZ : ClassId} {ad : Nat → Nat} {A : Nat → Prop}
theorem hdX1_isUser : yX1_isUser.cls ≠ "java/lang/invoke/MethodHandle" ∧ yX1_isUser.cls ≠ "java/lang/invoke/VarHandle" ∧ (parseMethodDescriptor yX1_isUser.desc).map (fun d => d.parameters.length) = some 1 := by decide +kernel
theorem hvX1_isUser : yX1_isUser.cls = RX1 ∧ yX1_isUser.cls ≠ "java/lang/invoke/MethodHandle" ∧ yX1_isUser.cls ≠ "java/lang/invoke/VarHandle" ∧ (parseMethodDescriptor yX1_isUser.desc).map (fun d => d.parameters.length) = some 1 := by decide +kernel
set_option maxHeartbeats 4000000 in
theorem kX1_isUser {l : Launch} {D : va_G} {cI cZ : ClassId} {ad : Nat → Nat} (u : vM) (a0 : Int32) : mI D vwCl (tyF cI cZ) xN (wC cI cZ ad) l yX1_isUser wsX1_isUser rmX1_isUser [.int a0] u (rX1_isUser a0) u := by
  refine mI_of (cc := cX1_isUser) (maxL := 1) (ret := (some .boolean)) (own := RX1) rfl (by decide) rfl (wC_ok cI cZ ad) (Nat.le_of_ble_eq_true rfl) (fun p e s m args below meth c A C => ?_)
  refine V_ls (ls' := [(0, .int a0)]) rfl ?_
  refine V_iload_n C dX1_isUser_0 rfl 0 rfl ?_
  refine V_join1 (J := 14) (T := (if a0 < 0 then 0 else (if 5 ≤ a0 then 0 else 1))) (fun j14 hj14 => ?_) (fun J14 => ?_)
  ·
    subst hj14
    exact V_iret C rfl (by (repeat' split) <;> rfl) rfl rfl dX1_isUser_14
  ·
    refine V_if_lt (tgt := 13) C dX1_isUser_1 (by decide) (fun h1 => ?_) (fun h1 => ?_)
    ·
      refine V_iconst (v := 0) C dX1_isUser_13 (by decide) ?_
      exact J14 _ ((if_pos h1).trans rfl)
    ·
      refine V_iload_n C dX1_isUser_4 rfl 0 rfl ?_
      refine V_iconst (v := 5) C dX1_isUser_5 (by decide) ?_
      refine V_icmp_ge (tgt := 13) C dX1_isUser_6 (by decide) (fun h6 => ?_) (fun h6 => ?_)
      ·
        refine V_iconst (v := 0) C dX1_isUser_13 (by decide) ?_
        exact J14 _ ((if_neg h1).trans ((if_pos h6).trans rfl))
      ·
        refine V_iconst (v := 1) C dX1_isUser_9 (by decide) ?_
        refine V_goto (tgt := 14) C dX1_isUser_10 (by decide) ?_
        exact J14 _ ((if_neg h1).trans ((if_neg h6).trans rfl))
theorem hdX1_isCell : yX1_isCell.cls ≠ "java/lang/invoke/MethodHandle" ∧ yX1_isCell.cls ≠ "java/lang/invoke/VarHandle" ∧ (parseMethodDescriptor yX1_isCell.desc).map (fun d => d.parameters.length) = some 1 := by decide +kernel
theorem hvX1_isCell : yX1_isCell.cls = RX1 ∧ yX1_isCell.cls ≠ "java/lang/invoke/MethodHandle" ∧ yX1_isCell.cls ≠ "java/lang/invoke/VarHandle" ∧ (parseMethodDescriptor yX1_isCell.desc).map (fun d => d.parameters.length) = some 1 := by decide +kernel
set_option maxHeartbeats 4000000 in
theorem kX1_isCell {l : Launch} {D : va_G} {cI cZ : ClassId} {ad : Nat → Nat} (u : vM) (a0 : Int32) : mI D vwCl (tyF cI cZ) xN (wC cI cZ ad) l yX1_isCell wsX1_isCell rmX1_isCell [.int a0] u (rX1_isCell a0) u := by
  refine mI_of (cc := cX1_isCell) (maxL := 1) (ret := (some .boolean)) (own := RX1) rfl (by decide) rfl (wC_ok cI cZ ad) (Nat.le_of_ble_eq_true rfl) (fun p e s m args below meth c A C => ?_)
  refine V_ls (ls' := [(0, .int a0)]) rfl ?_
  refine V_iload_n C dX1_isCell_0 rfl 0 rfl ?_
  refine V_join1 (J := 15) (T := (if a0 < 0 then 0 else (if 24 ≤ a0 then 0 else 1))) (fun j15 hj15 => ?_) (fun J15 => ?_)
  ·
    subst hj15
    exact V_iret C rfl (by (repeat' split) <;> rfl) rfl rfl dX1_isCell_15
  ·
    refine V_if_lt (tgt := 14) C dX1_isCell_1 (by decide) (fun h1 => ?_) (fun h1 => ?_)
    ·
      refine V_iconst (v := 0) C dX1_isCell_14 (by decide) ?_
      exact J15 _ ((if_pos h1).trans rfl)
    ·
      refine V_iload_n C dX1_isCell_4 rfl 0 rfl ?_
      refine V_bipush (v := 24) C dX1_isCell_5 (by decide) ?_
      refine V_icmp_ge (tgt := 14) C dX1_isCell_7 (by decide) (fun h7 => ?_) (fun h7 => ?_)
      ·
        refine V_iconst (v := 0) C dX1_isCell_14 (by decide) ?_
        exact J15 _ ((if_neg h1).trans ((if_pos h7).trans rfl))
      ·
        refine V_iconst (v := 1) C dX1_isCell_10 (by decide) ?_
        refine V_goto (tgt := 15) C dX1_isCell_11 (by decide) ?_
        exact J15 _ ((if_neg h1).trans ((if_neg h7).trans rfl))
theorem hdX1_isWithin : yX1_isWithin.cls ≠ "java/lang/invoke/MethodHandle" ∧ yX1_isWithin.cls ≠ "java/lang/invoke/VarHandle" ∧ (parseMethodDescriptor yX1_isWithin.desc).map (fun d => d.parameters.length) = some 2 := by decide +kernel
theorem hvX1_isWithin : yX1_isWithin.cls = RX1 ∧ yX1_isWithin.cls ≠ "java/lang/invoke/MethodHandle" ∧ yX1_isWithin.cls ≠ "java/lang/invoke/VarHandle" ∧ (parseMethodDescriptor yX1_isWithin.desc).map (fun d => d.parameters.length) = some 2 := by decide +kernel
set_option maxHeartbeats 4000000 in
theorem kX1_isWithin {l : Launch} {D : va_G} {cI cZ : ClassId} {ad : Nat → Nat} (u : vM) (a0 : Int32) (a1 : Int32) : mI D vwCl (tyF cI cZ) xN (wC cI cZ ad) l yX1_isWithin wsX1_isWithin rmX1_isWithin [.int a0, .int a1] u (rX1_isWithin a0 a1) u := by
  refine mI_of (cc := cX1_isWithin) (maxL := 2) (ret := (some .boolean)) (own := RX1) rfl (by decide) rfl (wC_ok cI cZ ad) (Nat.le_of_ble_eq_true rfl) (fun p e s m args below meth c A C => ?_)
  refine V_ls (ls' := [(0, .int a0), (1, .int a1)]) rfl ?_
  refine V_iload_n C dX1_isWithin_0 rfl 0 rfl ?_
  refine V_iload_n C dX1_isWithin_1 rfl 1 rfl ?_
  refine V_ineg C dX1_isWithin_2 ?_
  refine V_join2 (J := 16) (T := (if a0 < (-a1) then 0 else (if a1 < a0 then 0 else 1))) (fun j16 hj16 => ?_) (fun J16 => ?_)
  ·
    subst hj16
    exact V_iret C rfl (by (repeat' split) <;> rfl) rfl rfl dX1_isWithin_16
  ·
    refine V_icmp_lt (tgt := 15) C dX1_isWithin_3 (by decide) (fun h3 => ?_) (fun h3 => ?_)
    ·
      refine V_iconst (v := 0) C dX1_isWithin_15 (by decide) ?_
      exact J16 _ ((if_pos h3).trans rfl)
    ·
      refine V_iload_n C dX1_isWithin_6 rfl 0 rfl ?_
      refine V_iload_n C dX1_isWithin_7 rfl 1 rfl ?_
      refine V_icmp_gt (tgt := 15) C dX1_isWithin_8 (by decide) (fun h8 => ?_) (fun h8 => ?_)
      ·
        refine V_iconst (v := 0) C dX1_isWithin_15 (by decide) ?_
        exact J16 _ ((if_neg h3).trans ((if_pos h8).trans rfl))
      ·
        refine V_iconst (v := 1) C dX1_isWithin_11 (by decide) ?_
        refine V_goto (tgt := 16) C dX1_isWithin_12 (by decide) ?_
        exact J16 _ ((if_neg h3).trans ((if_neg h8).trans rfl))
theorem hdX1_isIn : yX1_isIn.cls ≠ "java/lang/invoke/MethodHandle" ∧ yX1_isIn.cls ≠ "java/lang/invoke/VarHandle" ∧ (parseMethodDescriptor yX1_isIn.desc).map (fun d => d.parameters.length) = some 2 := by decide +kernel
theorem hvX1_isIn : yX1_isIn.cls = RX1 ∧ yX1_isIn.cls ≠ "java/lang/invoke/MethodHandle" ∧ yX1_isIn.cls ≠ "java/lang/invoke/VarHandle" ∧ (parseMethodDescriptor yX1_isIn.desc).map (fun d => d.parameters.length) = some 2 := by decide +kernel
set_option maxHeartbeats 4000000 in
theorem kX1_isIn_v9 {l : Launch} {D : va_G} {cI cZ : ClassId} {ad : Nat → Nat} (u : vM) (a0 : Int32) : mI D vwCl (tyF cI cZ) xN (wC cI cZ ad) l yX1_isIn wsX1_isIn rmX1_isIn [.int a0, .ref (ad 9)] u (rX1_isIn_v9 u a0) u := by
  refine mI_of (cc := cX1_isIn) (maxL := 2) (ret := (some .boolean)) (own := RX1) rfl (by decide) rfl (wC_ok cI cZ ad) (Nat.le_of_ble_eq_true rfl) (fun p e s m args below meth c A C => ?_)
  refine V_ls (ls' := [(0, .int a0), (1, .ref (ad 9))]) rfl ?_
  refine V_iload_n C dX1_isIn_0 rfl 0 rfl ?_
  refine V_join1 (J := 21) (T := (if a0 < 0 then 0 else (if 24 ≤ a0 then 0 else (if (mrd u 9 a0) = 0 then 0 else 1)))) (fun j21 hj21 => ?_) (fun J21 => ?_)
  ·
    subst hj21
    exact V_iret C rfl (by (repeat' split) <;> rfl) rfl rfl dX1_isIn_21
  ·
    refine V_if_lt (tgt := 20) C dX1_isIn_1 (by decide) (fun h1 => ?_) (fun h1 => ?_)
    ·
      refine V_iconst (v := 0) C dX1_isIn_20 (by decide) ?_
      exact J21 _ ((if_pos h1).trans rfl)
    ·
      refine V_iload_n C dX1_isIn_4 rfl 0 rfl ?_
      refine V_aload_n C dX1_isIn_5 rfl 1 rfl ?_
      refine V_alen (v := 24) C 9 1 rfl rfl rfl dX1_isIn_6 ?_
      refine V_icmp_ge (tgt := 20) C dX1_isIn_7 (by decide) (fun h7 => ?_) (fun h7 => ?_)
      ·
        refine V_iconst (v := 0) C dX1_isIn_20 (by decide) ?_
        exact J21 _ ((if_neg h1).trans ((if_pos h7).trans rfl))
      ·
        refine V_aload_n C dX1_isIn_10 rfl 1 rfl ?_
        refine V_iload_n C dX1_isIn_11 rfl 0 rfl ?_
        refine Vm_zald C 9 1 rfl rfl (vq_lt h1 h7) dX1_isIn_12 ?_
        refine V_if_eq (tgt := 20) C dX1_isIn_13 (by decide) (fun h13 => ?_) (fun h13 => ?_)
        ·
          refine V_iconst (v := 0) C dX1_isIn_20 (by decide) ?_
          exact J21 _ ((if_neg h1).trans ((if_neg h7).trans ((if_pos h13).trans rfl)))
        ·
          refine V_iconst (v := 1) C dX1_isIn_16 (by decide) ?_
          refine V_goto (tgt := 21) C dX1_isIn_17 (by decide) ?_
          exact J21 _ ((if_neg h1).trans ((if_neg h7).trans ((if_neg h13).trans rfl)))
set_option maxHeartbeats 4000000 in
theorem kX1_isIn_v10 {l : Launch} {D : va_G} {cI cZ : ClassId} {ad : Nat → Nat} (u : vM) (a0 : Int32) : mI D vwCl (tyF cI cZ) xN (wC cI cZ ad) l yX1_isIn wsX1_isIn rmX1_isIn [.int a0, .ref (ad 10)] u (rX1_isIn_v10 u a0) u := by
  refine mI_of (cc := cX1_isIn) (maxL := 2) (ret := (some .boolean)) (own := RX1) rfl (by decide) rfl (wC_ok cI cZ ad) (Nat.le_of_ble_eq_true rfl) (fun p e s m args below meth c A C => ?_)
  refine V_ls (ls' := [(0, .int a0), (1, .ref (ad 10))]) rfl ?_
  refine V_iload_n C dX1_isIn_0 rfl 0 rfl ?_
  refine V_join1 (J := 21) (T := (if a0 < 0 then 0 else (if 24 ≤ a0 then 0 else (if (mrd u 10 a0) = 0 then 0 else 1)))) (fun j21 hj21 => ?_) (fun J21 => ?_)
  ·
    subst hj21
    exact V_iret C rfl (by (repeat' split) <;> rfl) rfl rfl dX1_isIn_21
  ·
    refine V_if_lt (tgt := 20) C dX1_isIn_1 (by decide) (fun h1 => ?_) (fun h1 => ?_)
    ·
      refine V_iconst (v := 0) C dX1_isIn_20 (by decide) ?_
      exact J21 _ ((if_pos h1).trans rfl)
    ·
      refine V_iload_n C dX1_isIn_4 rfl 0 rfl ?_
      refine V_aload_n C dX1_isIn_5 rfl 1 rfl ?_
      refine V_alen (v := 24) C 10 1 rfl rfl rfl dX1_isIn_6 ?_
      refine V_icmp_ge (tgt := 20) C dX1_isIn_7 (by decide) (fun h7 => ?_) (fun h7 => ?_)
      ·
        refine V_iconst (v := 0) C dX1_isIn_20 (by decide) ?_
        exact J21 _ ((if_neg h1).trans ((if_pos h7).trans rfl))
      ·
        refine V_aload_n C dX1_isIn_10 rfl 1 rfl ?_
        refine V_iload_n C dX1_isIn_11 rfl 0 rfl ?_
        refine Vm_zald C 10 1 rfl rfl (vq_lt h1 h7) dX1_isIn_12 ?_
        refine V_if_eq (tgt := 20) C dX1_isIn_13 (by decide) (fun h13 => ?_) (fun h13 => ?_)
        ·
          refine V_iconst (v := 0) C dX1_isIn_20 (by decide) ?_
          exact J21 _ ((if_neg h1).trans ((if_neg h7).trans ((if_pos h13).trans rfl)))
        ·
          refine V_iconst (v := 1) C dX1_isIn_16 (by decide) ?_
          refine V_goto (tgt := 21) C dX1_isIn_17 (by decide) ?_
          exact J21 _ ((if_neg h1).trans ((if_neg h7).trans ((if_neg h13).trans rfl)))
set_option maxHeartbeats 4000000 in
theorem kX1_isIn_v11 {l : Launch} {D : va_G} {cI cZ : ClassId} {ad : Nat → Nat} (u : vM) (a0 : Int32) : mI D vwCl (tyF cI cZ) xN (wC cI cZ ad) l yX1_isIn wsX1_isIn rmX1_isIn [.int a0, .ref (ad 11)] u (rX1_isIn_v11 u a0) u := by
  refine mI_of (cc := cX1_isIn) (maxL := 2) (ret := (some .boolean)) (own := RX1) rfl (by decide) rfl (wC_ok cI cZ ad) (Nat.le_of_ble_eq_true rfl) (fun p e s m args below meth c A C => ?_)
  refine V_ls (ls' := [(0, .int a0), (1, .ref (ad 11))]) rfl ?_
  refine V_iload_n C dX1_isIn_0 rfl 0 rfl ?_
  refine V_join1 (J := 21) (T := (if a0 < 0 then 0 else (if 24 ≤ a0 then 0 else (if (mrd u 11 a0) = 0 then 0 else 1)))) (fun j21 hj21 => ?_) (fun J21 => ?_)
  ·
    subst hj21
    exact V_iret C rfl (by (repeat' split) <;> rfl) rfl rfl dX1_isIn_21
  ·
    refine V_if_lt (tgt := 20) C dX1_isIn_1 (by decide) (fun h1 => ?_) (fun h1 => ?_)
    ·
      refine V_iconst (v := 0) C dX1_isIn_20 (by decide) ?_
      exact J21 _ ((if_pos h1).trans rfl)
    ·
      refine V_iload_n C dX1_isIn_4 rfl 0 rfl ?_
      refine V_aload_n C dX1_isIn_5 rfl 1 rfl ?_
      refine V_alen (v := 24) C 11 1 rfl rfl rfl dX1_isIn_6 ?_
      refine V_icmp_ge (tgt := 20) C dX1_isIn_7 (by decide) (fun h7 => ?_) (fun h7 => ?_)
      ·
        refine V_iconst (v := 0) C dX1_isIn_20 (by decide) ?_
        exact J21 _ ((if_neg h1).trans ((if_pos h7).trans rfl))
      ·
        refine V_aload_n C dX1_isIn_10 rfl 1 rfl ?_
        refine V_iload_n C dX1_isIn_11 rfl 0 rfl ?_
        refine Vm_zald C 11 1 rfl rfl (vq_lt h1 h7) dX1_isIn_12 ?_
        refine V_if_eq (tgt := 20) C dX1_isIn_13 (by decide) (fun h13 => ?_) (fun h13 => ?_)
        ·
          refine V_iconst (v := 0) C dX1_isIn_20 (by decide) ?_
          exact J21 _ ((if_neg h1).trans ((if_neg h7).trans ((if_pos h13).trans rfl)))
        ·
          refine V_iconst (v := 1) C dX1_isIn_16 (by decide) ?_
          refine V_goto (tgt := 21) C dX1_isIn_17 (by decide) ?_
          exact J21 _ ((if_neg h1).trans ((if_neg h7).trans ((if_neg h13).trans rfl)))
theorem hdX1_isReady : yX1_isReady.cls ≠ "java/lang/invoke/MethodHandle" ∧ yX1_isReady.cls ≠ "java/lang/invoke/VarHandle" ∧ (parseMethodDescriptor yX1_isReady.desc).map (fun d => d.parameters.length) = some 1 := by decide +kernel
theorem hvX1_isReady : yX1_isReady.cls = RX1 ∧ yX1_isReady.cls ≠ "java/lang/invoke/MethodHandle" ∧ yX1_isReady.cls ≠ "java/lang/invoke/VarHandle" ∧ (parseMethodDescriptor yX1_isReady.desc).map (fun d => d.parameters.length) = some 1 := by decide +kernel
theorem hinX1_isReady_X1 : ∀ w ∈ u_ws RX1 TX1 12, w ∈ wsX1_isReady := by decide +kernel
theorem hfX1_isReady_42 : Cond.fieldLink RX1 42 "MeteredSheets" "placed" "[Z" ∈ wsX1_isReady := by decide +kernel
set_option maxHeartbeats 4000000 in
theorem kX1_isReady {l : Launch} {D : va_G} {cI cZ : ClassId} {ad : Nat → Nat} (u : vM) (a1 : Int32) : mI D vwCl (tyF cI cZ) xN (wC cI cZ ad) l yX1_isReady wsX1_isReady rmX1_isReady [.ref (ad 0), .int a1] u (rX1_isReady u a1) u := by
  refine mI_of (cc := cX1_isReady) (maxL := 2) (ret := (some .boolean)) (own := RX1) rfl (by decide) rfl (wC_ok cI cZ ad) (Nat.le_of_ble_eq_true rfl) (fun p e s m args below meth c A C => ?_)
  refine V_ls (ls' := [(0, .ref (ad 0)), (1, .int a1)]) rfl ?_
  refine V_iload_n C dX1_isReady_0 rfl 1 rfl ?_
  refine V_iconst (v := (-1)) C dX1_isReady_1 (by decide) ?_
  refine V_join2 (J := 21) (T := (if a1 = (-1) then 1 else (if (rX1_isIn_v10 u a1) = 0 then 0 else 1))) (fun j21 hj21 => ?_) (fun J21 => ?_)
  ·
    subst hj21
    exact V_iret C rfl (by (repeat' split) <;> rfl) rfl rfl dX1_isReady_21
  ·
    refine V_icmp_eq (tgt := 16) C dX1_isReady_2 (by decide) (fun h2 => ?_) (fun h2 => ?_)
    ·
      refine V_iconst (v := 1) C dX1_isReady_16 (by decide) ?_
      refine V_goto (tgt := 21) C dX1_isReady_17 (by decide) ?_
      exact J21 _ ((if_pos h2).trans rfl)
    ·
      refine V_iload_n C dX1_isReady_5 rfl 1 rfl ?_
      refine V_aload_n C dX1_isReady_6 rfl 0 rfl ?_
      refine V_get (Cn := RX1) (T := TX1) (N := 12) C hinX1_isReady_X1 0 rfl rfl 9 (by decide) hfX1_isReady_42 rfl rfl dX1_isReady_7 ?_
      refine V_cSi2 C xN_ok (kX1_isIn_v10 _ _) (va_cwS 2 C.2.2.1 gX1_isReady_X1_isIn rfl rfl rfl hdX1_isIn ⟨Nat.le_of_ble_eq_true rfl, Nat.le_of_ble_eq_true rfl⟩) (Nat.le_of_ble_eq_true rfl) ⟨(Nat.le_of_ble_eq_true rfl), (Nat.le_of_ble_eq_true rfl)⟩ dX1_isReady_10 ?_
      refine V_if_eq (tgt := 20) C dX1_isReady_13 (by decide) (fun h13 => ?_) (fun h13 => ?_)
      ·
        refine V_iconst (v := 0) C dX1_isReady_20 (by decide) ?_
        exact J21 _ ((if_neg h2).trans ((if_pos h13).trans rfl))
      ·
        refine V_iconst (v := 1) C dX1_isReady_16 (by decide) ?_
        refine V_goto (tgt := 21) C dX1_isReady_17 (by decide) ?_
        exact J21 _ ((if_neg h2).trans ((if_neg h13).trans rfl))
theorem hdX1_lowestFreeCell : yX1_lowestFreeCell.cls ≠ "java/lang/invoke/MethodHandle" ∧ yX1_lowestFreeCell.cls ≠ "java/lang/invoke/VarHandle" ∧ (parseMethodDescriptor yX1_lowestFreeCell.desc).map (fun d => d.parameters.length) = some 0 := by decide +kernel
theorem hvX1_lowestFreeCell : yX1_lowestFreeCell.cls = RX1 ∧ yX1_lowestFreeCell.cls ≠ "java/lang/invoke/MethodHandle" ∧ yX1_lowestFreeCell.cls ≠ "java/lang/invoke/VarHandle" ∧ (parseMethodDescriptor yX1_lowestFreeCell.desc).map (fun d => d.parameters.length) = some 0 := by decide +kernel
theorem hinX1_lowestFreeCell_X1 : ∀ w ∈ u_ws RX1 TX1 12, w ∈ wsX1_lowestFreeCell := by decide +kernel
theorem hfX1_lowestFreeCell_42 : Cond.fieldLink RX1 42 "MeteredSheets" "placed" "[Z" ∈ wsX1_lowestFreeCell := by decide +kernel
theorem hfX1_lowestFreeCell_13 : Cond.fieldLink RX1 13 "MeteredSheets" "ones" "[I" ∈ wsX1_lowestFreeCell := by decide +kernel
theorem hfX1_lowestFreeCell_16 : Cond.fieldLink RX1 16 "MeteredSheets" "others" "[I" ∈ wsX1_lowestFreeCell := by decide +kernel
set_option maxHeartbeats 4000000 in
theorem qX1_lowestFreeCell_2 (C : vC p s m args meth c D vwCl (tyF cI cZ) xN A (wC cI cZ ad) cX1_lowestFreeCell RX1 wsX1_lowestFreeCell 2 (some .int))  : ∀ (n k : Nat), k + n = 24 → ∀ (u : vM), ∀ (r : Int32) (u' : vM), r = lpX1_lowestFreeCell_2 u n k → u' = u → V p l e rmX1_lowestFreeCell s m args below meth c D vwCl A (wC cI cZ ad) 2 0 0 (MQ below (mQi D vwCl (wC cI cZ ad) A r u') args s 0 0 A) u 2 [(0, .ref (ad 0)), (1, .int (nI k))] [] := by
  intro n
  induction n with
  | zero =>
    intro k hk u r u' hr hu
    obtain rfl : k = 24 := by omega
    refine V_iload_n C dX1_lowestFreeCell_2 rfl 1 rfl ?_
    refine V_bipush (v := 24) C dX1_lowestFreeCell_3 (by decide) ?_
    refine V_icmp_ge (tgt := 51) C dX1_lowestFreeCell_5 (by decide) (fun _ => ?_) (fun h => absurd (by decide : (24 : Int32) ≤ nI 24) h)
    refine V_iconst (v := (-1)) C dX1_lowestFreeCell_51 (by decide) ?_
    exact V_iret C rfl (vp_nar_int _) (hr.trans rfl) hu dX1_lowestFreeCell_52
  | succ n ih =>
    intro k hk u r u' hr hu
    have hkB : k < 24 := by omega
    refine V_iload_n C dX1_lowestFreeCell_2 rfl 1 rfl ?_
    refine V_bipush (v := 24) C dX1_lowestFreeCell_3 (by decide) ?_
    refine V_icmp_ge (tgt := 51) C dX1_lowestFreeCell_5 (by decide) (fun h => absurd h (nI_ge hkB (by decide))) (fun _ => ?_)
    refine V_aload_n C dX1_lowestFreeCell_8 rfl 0 rfl ?_
    refine V_get (Cn := RX1) (T := TX1) (N := 12) C hinX1_lowestFreeCell_X1 0 rfl rfl 9 (by decide) hfX1_lowestFreeCell_42 rfl rfl dX1_lowestFreeCell_9 ?_
    refine V_iload_n C dX1_lowestFreeCell_12 rfl 1 rfl ?_
    refine Vm_zald C 10 1 rfl rfl (vp_in_nI hkB (by decide)) dX1_lowestFreeCell_13 ?_
    refine V_if_ne (tgt := 45) C dX1_lowestFreeCell_14 (by decide) (fun h14 => ?_) (fun h14 => ?_)
    ·
      refine V_iinc (v := (nI (k + 1))) (ls' := [(0, .ref (ad 0)), (1, .int (nI (k + 1)))]) C dX1_lowestFreeCell_45 1 rfl (nI_1 k) (by decide) rfl rfl ?_
      refine V_goto (tgt := 2) C dX1_lowestFreeCell_48 (by decide) ?_
      exact ih (k + 1) (by omega) _ r u' (hr.trans ((if_neg h14).trans rfl)) hu
    ·
      refine V_aload_n C dX1_lowestFreeCell_17 rfl 0 rfl ?_
      refine V_aload_n C dX1_lowestFreeCell_18 rfl 0 rfl ?_
      refine V_get (Cn := RX1) (T := TX1) (N := 12) C hinX1_lowestFreeCell_X1 0 rfl rfl 1 (by decide) hfX1_lowestFreeCell_13 rfl rfl dX1_lowestFreeCell_19 ?_
      refine V_iload_n C dX1_lowestFreeCell_22 rfl 1 rfl ?_
      refine Vm_iald C 2 0 rfl rfl (vp_in_nI hkB (by decide)) dX1_lowestFreeCell_23 ?_
      refine V_cVi1 C xN_ok (kX1_isReady _ _) (cwV 1 C.2.2.1 gX1_lowestFreeCell_X1_isReady rfl rfl rfl hvX1_isReady ⟨Nat.le_of_ble_eq_true rfl, Nat.le_of_ble_eq_true rfl⟩) 0 rfl rfl (Nat.le_of_ble_eq_true rfl) ⟨(Nat.le_of_ble_eq_true rfl), (Nat.le_of_ble_eq_true rfl)⟩ dX1_lowestFreeCell_24 ?_
      refine V_if_eq (tgt := 45) C dX1_lowestFreeCell_27 (by decide) (fun h27 => ?_) (fun h27 => ?_)
      ·
        refine V_iinc (v := (nI (k + 1))) (ls' := [(0, .ref (ad 0)), (1, .int (nI (k + 1)))]) C dX1_lowestFreeCell_45 1 rfl (nI_1 k) (by decide) rfl rfl ?_
        refine V_goto (tgt := 2) C dX1_lowestFreeCell_48 (by decide) ?_
        exact ih (k + 1) (by omega) _ r u' (hr.trans ((if_pos h14).trans ((if_pos h27).trans rfl))) hu
      ·
        refine V_aload_n C dX1_lowestFreeCell_30 rfl 0 rfl ?_
        refine V_aload_n C dX1_lowestFreeCell_31 rfl 0 rfl ?_
        refine V_get (Cn := RX1) (T := TX1) (N := 12) C hinX1_lowestFreeCell_X1 0 rfl rfl 2 (by decide) hfX1_lowestFreeCell_16 rfl rfl dX1_lowestFreeCell_32 ?_
        refine V_iload_n C dX1_lowestFreeCell_35 rfl 1 rfl ?_
        refine Vm_iald C 3 0 rfl rfl (vp_in_nI hkB (by decide)) dX1_lowestFreeCell_36 ?_
        refine V_cVi1 C xN_ok (kX1_isReady _ _) (cwV 1 C.2.2.1 gX1_lowestFreeCell_X1_isReady rfl rfl rfl hvX1_isReady ⟨Nat.le_of_ble_eq_true rfl, Nat.le_of_ble_eq_true rfl⟩) 0 rfl rfl (Nat.le_of_ble_eq_true rfl) ⟨(Nat.le_of_ble_eq_true rfl), (Nat.le_of_ble_eq_true rfl)⟩ dX1_lowestFreeCell_37 ?_
        refine V_if_eq (tgt := 45) C dX1_lowestFreeCell_40 (by decide) (fun h40 => ?_) (fun h40 => ?_)
        ·
          refine V_iinc (v := (nI (k + 1))) (ls' := [(0, .ref (ad 0)), (1, .int (nI (k + 1)))]) C dX1_lowestFreeCell_45 1 rfl (nI_1 k) (by decide) rfl rfl ?_
          refine V_goto (tgt := 2) C dX1_lowestFreeCell_48 (by decide) ?_
          exact ih (k + 1) (by omega) _ r u' (hr.trans ((if_pos h14).trans ((if_neg h27).trans ((if_pos h40).trans rfl)))) hu
        ·
          refine V_iload_n C dX1_lowestFreeCell_43 rfl 1 rfl ?_
          exact V_iret C rfl (vp_nar_int _) (hr.trans ((if_pos h14).trans ((if_neg h27).trans ((if_neg h40).trans rfl)))) hu dX1_lowestFreeCell_44
set_option maxHeartbeats 4000000 in
theorem kX1_lowestFreeCell {l : Launch} {D : va_G} {cI cZ : ClassId} {ad : Nat → Nat} (u : vM) : mI D vwCl (tyF cI cZ) xN (wC cI cZ ad) l yX1_lowestFreeCell wsX1_lowestFreeCell rmX1_lowestFreeCell [.ref (ad 0)] u (rX1_lowestFreeCell u) u := by
  refine mI_of (cc := cX1_lowestFreeCell) (maxL := 2) (ret := (some .int)) (own := RX1) rfl (by decide) rfl (wC_ok cI cZ ad) (Nat.le_of_ble_eq_true rfl) (fun p e s m args below meth c A C => ?_)
  refine V_ls (ls' := [(0, .ref (ad 0))]) rfl ?_
  refine V_iconst (v := 0) C dX1_lowestFreeCell_0 (by decide) ?_
  refine V_istore_n (ls' := [(0, .ref (ad 0)), (1, .int 0)]) C dX1_lowestFreeCell_1 rfl (by decide) rfl rfl ?_
  refine V_sub (ls' := [(0, .ref (ad 0)), (1, .int 0)]) [0, 1] rfl ?_
  exact qX1_lowestFreeCell_2 C 24 0 (by decide) u _ _ (by rfl) rfl
theorem hdX1_putInOrder : yX1_putInOrder.cls ≠ "java/lang/invoke/MethodHandle" ∧ yX1_putInOrder.cls ≠ "java/lang/invoke/VarHandle" ∧ (parseMethodDescriptor yX1_putInOrder.desc).map (fun d => d.parameters.length) = some 0 := by decide +kernel
theorem hvX1_putInOrder : yX1_putInOrder.cls = RX1 ∧ yX1_putInOrder.cls ≠ "java/lang/invoke/MethodHandle" ∧ yX1_putInOrder.cls ≠ "java/lang/invoke/VarHandle" ∧ (parseMethodDescriptor yX1_putInOrder.desc).map (fun d => d.parameters.length) = some 0 := by decide +kernel
theorem hinX1_putInOrder_X1 : ∀ w ∈ u_ws RX1 TX1 12, w ∈ wsX1_putInOrder := by decide +kernel
theorem hfX1_putInOrder_42 : Cond.fieldLink RX1 42 "MeteredSheets" "placed" "[Z" ∈ wsX1_putInOrder := by decide +kernel
theorem hfX1_putInOrder_29 : Cond.fieldLink RX1 29 "MeteredSheets" "order" "[I" ∈ wsX1_putInOrder := by decide +kernel
set_option maxHeartbeats 4000000 in
theorem qX1_putInOrder_2 (C : vC p s m args meth c D vwCl (tyF cI cZ) xN A (wC cI cZ ad) cX1_putInOrder RX1 wsX1_putInOrder 3 none) {Q : State → Prop} : ∀ (n k : Nat), k + n = 24 → ∀ (u : vM), (∀ r : vM, lpX1_putInOrder_2 n k u = r → V p l e rmX1_putInOrder s m args below meth c D vwCl A (wC cI cZ ad) 3 0 0 Q r 21 [(0, .ref (ad 0)), (1, .int (nI 24))] []) → V p l e rmX1_putInOrder s m args below meth c D vwCl A (wC cI cZ ad) 3 0 0 Q u 2 [(0, .ref (ad 0)), (1, .int (nI k))] [] := by
  intro n
  induction n with
  | zero =>
    intro k hk u KK
    obtain rfl : k = 24 := by omega
    refine V_iload_n C dX1_putInOrder_2 rfl 1 rfl ?_
    refine V_bipush (v := 24) C dX1_putInOrder_3 (by decide) ?_
    refine V_icmp_ge (tgt := 21) C dX1_putInOrder_5 (by decide) (fun _ => ?_) (fun h => absurd (by decide : (24 : Int32) ≤ nI 24) h)
    exact KK _ rfl
  | succ n ih =>
    intro k hk u KK
    have hkB : k < 24 := by omega
    refine V_iload_n C dX1_putInOrder_2 rfl 1 rfl ?_
    refine V_bipush (v := 24) C dX1_putInOrder_3 (by decide) ?_
    refine V_icmp_ge (tgt := 21) C dX1_putInOrder_5 (by decide) (fun h => absurd h (nI_ge hkB (by decide))) (fun _ => ?_)
    refine V_aload_n C dX1_putInOrder_8 rfl 0 rfl ?_
    refine V_get (Cn := RX1) (T := TX1) (N := 12) C hinX1_putInOrder_X1 0 rfl rfl 9 (by decide) hfX1_putInOrder_42 rfl rfl dX1_putInOrder_9 ?_
    refine V_iload_n C dX1_putInOrder_12 rfl 1 rfl ?_
    refine V_iconst (v := 0) C dX1_putInOrder_13 (by decide) ?_
    refine Vm_zast C 10 1 rfl rfl (vp_in_nI hkB (by decide)) rfl wC_s10 dX1_putInOrder_14 ?_
    refine V_u (fun u14 hu14 => ?_)
    refine V_iinc (v := (nI (k + 1))) (ls' := [(0, .ref (ad 0)), (1, .int (nI (k + 1)))]) C dX1_putInOrder_15 1 rfl (nI_1 k) (by decide) rfl rfl ?_
    refine V_goto (tgt := 2) C dX1_putInOrder_18 (by decide) ?_
    subst hu14
    exact ih (k + 1) (by omega) _ (fun r hr => KK r (rfl.trans hr))
set_option maxHeartbeats 4000000 in
theorem qX1_putInOrder_23 (C : vC p s m args meth c D vwCl (tyF cI cZ) xN A (wC cI cZ ad) cX1_putInOrder RX1 wsX1_putInOrder 3 none) {Q : State → Prop} : ∀ (n k : Nat), k + n = 24 → ∀ (u : vM), (∀ r : vM, lpX1_putInOrder_23 n k u = r → V p l e rmX1_putInOrder s m args below meth c D vwCl A (wC cI cZ ad) 3 0 0 Q r 61 [(0, .ref (ad 0)), (1, .int (nI 24))] []) → V p l e rmX1_putInOrder s m args below meth c D vwCl A (wC cI cZ ad) 3 0 0 Q u 23 [(0, .ref (ad 0)), (1, .int (nI k))] [] := by
  intro n
  induction n with
  | zero =>
    intro k hk u KK
    obtain rfl : k = 24 := by omega
    refine V_iload_n C dX1_putInOrder_23 rfl 1 rfl ?_
    refine V_bipush (v := 24) C dX1_putInOrder_24 (by decide) ?_
    refine V_icmp_ge (tgt := 61) C dX1_putInOrder_26 (by decide) (fun _ => ?_) (fun h => absurd (by decide : (24 : Int32) ≤ nI 24) h)
    exact KK _ rfl
  | succ n ih =>
    intro k hk u KK
    have hkB : k < 24 := by omega
    refine V_iload_n C dX1_putInOrder_23 rfl 1 rfl ?_
    refine V_bipush (v := 24) C dX1_putInOrder_24 (by decide) ?_
    refine V_icmp_ge (tgt := 61) C dX1_putInOrder_26 (by decide) (fun h => absurd h (nI_ge hkB (by decide))) (fun _ => ?_)
    refine V_aload_n C dX1_putInOrder_29 rfl 0 rfl ?_
    refine V_cVi0 C xN_ok (kX1_lowestFreeCell _) (cwV 0 C.2.2.1 gX1_putInOrder_X1_lowestFreeCell rfl rfl rfl hvX1_lowestFreeCell ⟨Nat.le_of_ble_eq_true rfl, Nat.le_of_ble_eq_true rfl⟩) 0 rfl rfl (Nat.le_of_ble_eq_true rfl) ⟨(Nat.le_of_ble_eq_true rfl), (Nat.le_of_ble_eq_true rfl)⟩ dX1_putInOrder_30 ?_
    refine V_top (fun y33 hy33 => ?_)
    refine V_istore_n (ls' := [(0, .ref (ad 0)), (1, .int (nI k)), (2, .int y33)]) C dX1_putInOrder_33 rfl (by decide) rfl rfl ?_
    refine V_aload_n C dX1_putInOrder_34 rfl 0 rfl ?_
    refine V_get (Cn := RX1) (T := TX1) (N := 12) C hinX1_putInOrder_X1 0 rfl rfl 6 (by decide) hfX1_putInOrder_29 rfl rfl dX1_putInOrder_35 ?_
    refine V_iload_n C dX1_putInOrder_38 rfl 1 rfl ?_
    refine V_iload_n C dX1_putInOrder_39 rfl 2 rfl ?_
    refine Vm_iast C 7 0 rfl rfl (vp_in_nI hkB (by decide)) wC_s7 dX1_putInOrder_40 ?_
    refine V_u (fun u40 hu40 => ?_)
    refine V_iload_n C dX1_putInOrder_41 rfl 2 rfl ?_
    refine V_cSi1 C xN_ok (kX1_isCell _ _) (va_cwS 1 C.2.2.1 gX1_putInOrder_X1_isCell rfl rfl rfl hdX1_isCell ⟨Nat.le_of_ble_eq_true rfl, Nat.le_of_ble_eq_true rfl⟩) (Nat.le_of_ble_eq_true rfl) ⟨(Nat.le_of_ble_eq_true rfl), (Nat.le_of_ble_eq_true rfl)⟩ dX1_putInOrder_42 ?_
    refine V_if_eq (tgt := 55) C dX1_putInOrder_45 (by decide) (fun h45 => ?_) (fun h45 => ?_)
    ·
      refine V_iinc (v := (nI (k + 1))) (ls' := [(0, .ref (ad 0)), (1, .int (nI (k + 1))), (2, .int y33)]) C dX1_putInOrder_55 1 rfl (nI_1 k) (by decide) rfl rfl ?_
      refine V_goto (tgt := 23) C dX1_putInOrder_58 (by decide) ?_
      subst hu40
      subst hy33
      refine V_sub (ls' := _) [0, 1] rfl ?_
      exact ih (k + 1) (by omega) _ (fun r hr => KK r (((if_pos h45).trans rfl).trans hr))
    ·
      refine V_aload_n C dX1_putInOrder_48 rfl 0 rfl ?_
      refine V_get (Cn := RX1) (T := TX1) (N := 12) C hinX1_putInOrder_X1 0 rfl rfl 9 (by decide) hfX1_putInOrder_42 rfl rfl dX1_putInOrder_49 ?_
      refine V_iload_n C dX1_putInOrder_52 rfl 2 rfl ?_
      refine V_iconst (v := 1) C dX1_putInOrder_53 (by decide) ?_
      refine Vm_zast C 10 1 rfl rfl (vqX1_isCell h45) rfl wC_s10 dX1_putInOrder_54 ?_
      refine V_u (fun u54 hu54 => ?_)
      refine V_iinc (v := (nI (k + 1))) (ls' := [(0, .ref (ad 0)), (1, .int (nI (k + 1))), (2, .int y33)]) C dX1_putInOrder_55 1 rfl (nI_1 k) (by decide) rfl rfl ?_
      refine V_goto (tgt := 23) C dX1_putInOrder_58 (by decide) ?_
      subst hu54
      subst hu40
      subst hy33
      refine V_sub (ls' := _) [0, 1] rfl ?_
      exact ih (k + 1) (by omega) _ (fun r hr => KK r (((if_neg h45).trans rfl).trans hr))
set_option maxHeartbeats 4000000 in
theorem kX1_putInOrder {l : Launch} {D : va_G} {cI cZ : ClassId} {ad : Nat → Nat} (u : vM) : mV D vwCl (tyF cI cZ) xN (wC cI cZ ad) l yX1_putInOrder wsX1_putInOrder rmX1_putInOrder [.ref (ad 0)] u (uX1_putInOrder u) := by
  refine mV_of (cc := cX1_putInOrder) (maxL := 3) (ret := none) (own := RX1) rfl (by decide) rfl (wC_ok cI cZ ad) (Nat.le_of_ble_eq_true rfl) (fun p e s m args below meth c A C => ?_)
  refine V_ls (ls' := [(0, .ref (ad 0))]) rfl ?_
  refine V_iconst (v := 0) C dX1_putInOrder_0 (by decide) ?_
  refine V_istore_n (ls' := [(0, .ref (ad 0)), (1, .int 0)]) C dX1_putInOrder_1 rfl (by decide) rfl rfl ?_
  refine V_sub (ls' := [(0, .ref (ad 0)), (1, .int 0)]) [0, 1] rfl ?_
  refine qX1_putInOrder_2 C 24 0 (by decide) u (fun r2 hr2 => ?_)
  refine V_iconst (v := 0) C dX1_putInOrder_21 (by decide) ?_
  refine V_istore_n (ls' := [(0, .ref (ad 0)), (1, .int 0)]) C dX1_putInOrder_22 rfl (by decide) rfl rfl ?_
  refine V_sub (ls' := [(0, .ref (ad 0)), (1, .int 0)]) [0, 1] rfl ?_
  refine qX1_putInOrder_23 C 24 0 (by decide) r2 (fun r23 hr23 => ?_)
  subst hr23
  subst hr2
  exact V_vret C rfl rfl dX1_putInOrder_61
theorem hdX1_forgetChanges : yX1_forgetChanges.cls ≠ "java/lang/invoke/MethodHandle" ∧ yX1_forgetChanges.cls ≠ "java/lang/invoke/VarHandle" ∧ (parseMethodDescriptor yX1_forgetChanges.desc).map (fun d => d.parameters.length) = some 0 := by decide +kernel
theorem hvX1_forgetChanges : yX1_forgetChanges.cls = RX1 ∧ yX1_forgetChanges.cls ≠ "java/lang/invoke/MethodHandle" ∧ yX1_forgetChanges.cls ≠ "java/lang/invoke/VarHandle" ∧ (parseMethodDescriptor yX1_forgetChanges.desc).map (fun d => d.parameters.length) = some 0 := by decide +kernel
theorem hinX1_forgetChanges_X1 : ∀ w ∈ u_ws RX1 TX1 12, w ∈ wsX1_forgetChanges := by decide +kernel
theorem hfX1_forgetChanges_39 : Cond.fieldLink RX1 39 "MeteredSheets" "changed" "[Z" ∈ wsX1_forgetChanges := by decide +kernel
set_option maxHeartbeats 4000000 in
theorem qX1_forgetChanges_2 (C : vC p s m args meth c D vwCl (tyF cI cZ) xN A (wC cI cZ ad) cX1_forgetChanges RX1 wsX1_forgetChanges 2 none) {Q : State → Prop} : ∀ (n k : Nat), k + n = 24 → ∀ (u : vM), (∀ r : vM, lpX1_forgetChanges_2 n k u = r → V p l e rmX1_forgetChanges s m args below meth c D vwCl A (wC cI cZ ad) 2 0 0 Q r 21 [(0, .ref (ad 0)), (1, .int (nI 24))] []) → V p l e rmX1_forgetChanges s m args below meth c D vwCl A (wC cI cZ ad) 2 0 0 Q u 2 [(0, .ref (ad 0)), (1, .int (nI k))] [] := by
  intro n
  induction n with
  | zero =>
    intro k hk u KK
    obtain rfl : k = 24 := by omega
    refine V_iload_n C dX1_forgetChanges_2 rfl 1 rfl ?_
    refine V_bipush (v := 24) C dX1_forgetChanges_3 (by decide) ?_
    refine V_icmp_ge (tgt := 21) C dX1_forgetChanges_5 (by decide) (fun _ => ?_) (fun h => absurd (by decide : (24 : Int32) ≤ nI 24) h)
    exact KK _ rfl
  | succ n ih =>
    intro k hk u KK
    have hkB : k < 24 := by omega
    refine V_iload_n C dX1_forgetChanges_2 rfl 1 rfl ?_
    refine V_bipush (v := 24) C dX1_forgetChanges_3 (by decide) ?_
    refine V_icmp_ge (tgt := 21) C dX1_forgetChanges_5 (by decide) (fun h => absurd h (nI_ge hkB (by decide))) (fun _ => ?_)
    refine V_aload_n C dX1_forgetChanges_8 rfl 0 rfl ?_
    refine V_get (Cn := RX1) (T := TX1) (N := 12) C hinX1_forgetChanges_X1 0 rfl rfl 8 (by decide) hfX1_forgetChanges_39 rfl rfl dX1_forgetChanges_9 ?_
    refine V_iload_n C dX1_forgetChanges_12 rfl 1 rfl ?_
    refine V_iconst (v := 0) C dX1_forgetChanges_13 (by decide) ?_
    refine Vm_zast C 9 1 rfl rfl (vp_in_nI hkB (by decide)) rfl wC_s9 dX1_forgetChanges_14 ?_
    refine V_u (fun u14 hu14 => ?_)
    refine V_iinc (v := (nI (k + 1))) (ls' := [(0, .ref (ad 0)), (1, .int (nI (k + 1)))]) C dX1_forgetChanges_15 1 rfl (nI_1 k) (by decide) rfl rfl ?_
    refine V_goto (tgt := 2) C dX1_forgetChanges_18 (by decide) ?_
    subst hu14
    exact ih (k + 1) (by omega) _ (fun r hr => KK r (rfl.trans hr))
set_option maxHeartbeats 4000000 in
theorem kX1_forgetChanges {l : Launch} {D : va_G} {cI cZ : ClassId} {ad : Nat → Nat} (u : vM) : mV D vwCl (tyF cI cZ) xN (wC cI cZ ad) l yX1_forgetChanges wsX1_forgetChanges rmX1_forgetChanges [.ref (ad 0)] u (uX1_forgetChanges u) := by
  refine mV_of (cc := cX1_forgetChanges) (maxL := 2) (ret := none) (own := RX1) rfl (by decide) rfl (wC_ok cI cZ ad) (Nat.le_of_ble_eq_true rfl) (fun p e s m args below meth c A C => ?_)
  refine V_ls (ls' := [(0, .ref (ad 0))]) rfl ?_
  refine V_iconst (v := 0) C dX1_forgetChanges_0 (by decide) ?_
  refine V_istore_n (ls' := [(0, .ref (ad 0)), (1, .int 0)]) C dX1_forgetChanges_1 rfl (by decide) rfl rfl ?_
  refine V_sub (ls' := [(0, .ref (ad 0)), (1, .int 0)]) [0, 1] rfl ?_
  refine qX1_forgetChanges_2 C 24 0 (by decide) u (fun r2 hr2 => ?_)
  subst hr2
  exact V_vret C rfl rfl dX1_forgetChanges_21
theorem hdX1_sheetOf : yX1_sheetOf.cls ≠ "java/lang/invoke/MethodHandle" ∧ yX1_sheetOf.cls ≠ "java/lang/invoke/VarHandle" ∧ (parseMethodDescriptor yX1_sheetOf.desc).map (fun d => d.parameters.length) = some 1 := by decide +kernel
theorem hvX1_sheetOf : yX1_sheetOf.cls = RX1 ∧ yX1_sheetOf.cls ≠ "java/lang/invoke/MethodHandle" ∧ yX1_sheetOf.cls ≠ "java/lang/invoke/VarHandle" ∧ (parseMethodDescriptor yX1_sheetOf.desc).map (fun d => d.parameters.length) = some 1 := by decide +kernel
set_option maxHeartbeats 4000000 in
theorem kX1_sheetOf {l : Launch} {D : va_G} {cI cZ : ClassId} {ad : Nat → Nat} (u : vM) (a0 : Int32) : mI D vwCl (tyF cI cZ) xN (wC cI cZ ad) l yX1_sheetOf wsX1_sheetOf rmX1_sheetOf [.int a0] u (rX1_sheetOf a0) u := by
  refine mI_of (cc := cX1_sheetOf) (maxL := 1) (ret := (some .int)) (own := RX1) rfl (by decide) rfl (wC_ok cI cZ ad) (Nat.le_of_ble_eq_true rfl) (fun p e s m args below meth c A C => ?_)
  refine V_ls (ls' := [(0, .int a0)]) rfl ?_
  refine V_iload_n C dX1_sheetOf_0 rfl 0 rfl ?_
  refine V_bipush (v := 6) C dX1_sheetOf_1 (by decide) ?_
  refine V_idiv C dX1_sheetOf_3 (by decide) ?_
  exact V_iret C rfl (vp_nar_int _) rfl rfl dX1_sheetOf_4
theorem hdX1_meteredRead : yX1_meteredRead.cls ≠ "java/lang/invoke/MethodHandle" ∧ yX1_meteredRead.cls ≠ "java/lang/invoke/VarHandle" ∧ (parseMethodDescriptor yX1_meteredRead.desc).map (fun d => d.parameters.length) = some 2 := by decide +kernel
theorem hvX1_meteredRead : yX1_meteredRead.cls = RX1 ∧ yX1_meteredRead.cls ≠ "java/lang/invoke/MethodHandle" ∧ yX1_meteredRead.cls ≠ "java/lang/invoke/VarHandle" ∧ (parseMethodDescriptor yX1_meteredRead.desc).map (fun d => d.parameters.length) = some 2 := by decide +kernel
set_option maxHeartbeats 4000000 in
theorem kX1_meteredRead {l : Launch} {D : va_G} {cI cZ : ClassId} {ad : Nat → Nat} (u : vM) (a0 : Int32) (a1 : Int32) : mI D vwCl (tyF cI cZ) xN (wC cI cZ ad) l yX1_meteredRead wsX1_meteredRead rmX1_meteredRead [.int a0, .int a1] u (rX1_meteredRead a0 a1) u := by
  refine mI_of (cc := cX1_meteredRead) (maxL := 2) (ret := (some .int)) (own := RX1) rfl (by decide) rfl (wC_ok cI cZ ad) (Nat.le_of_ble_eq_true rfl) (fun p e s m args below meth c A C => ?_)
  refine V_ls (ls' := [(0, .int a0), (1, .int a1)]) rfl ?_
  refine V_iload_n C dX1_meteredRead_0 rfl 1 rfl ?_
  refine V_cSi1 C xN_ok (kX1_isCell _ _) (va_cwS 1 C.2.2.1 gX1_meteredRead_X1_isCell rfl rfl rfl hdX1_isCell ⟨Nat.le_of_ble_eq_true rfl, Nat.le_of_ble_eq_true rfl⟩) (Nat.le_of_ble_eq_true rfl) ⟨(Nat.le_of_ble_eq_true rfl), (Nat.le_of_ble_eq_true rfl)⟩ dX1_meteredRead_1 ?_
  refine V_join1 (J := 23) (T := (if (rX1_isCell a1) = 0 then (-1) else (if (rX1_sheetOf a1) = (rX1_sheetOf a0) then (-1) else a1))) (fun j23 hj23 => ?_) (fun J23 => ?_)
  ·
    subst hj23
    exact V_iret C rfl (vp_nar_int _) rfl rfl dX1_meteredRead_23
  ·
    refine V_if_eq (tgt := 22) C dX1_meteredRead_4 (by decide) (fun h4 => ?_) (fun h4 => ?_)
    ·
      refine V_iconst (v := (-1)) C dX1_meteredRead_22 (by decide) ?_
      exact J23 _ ((if_pos h4).trans rfl)
    ·
      refine V_iload_n C dX1_meteredRead_7 rfl 1 rfl ?_
      refine V_cSi1 C xN_ok (kX1_sheetOf _ _) (va_cwS 1 C.2.2.1 gX1_meteredRead_X1_sheetOf rfl rfl rfl hdX1_sheetOf ⟨Nat.le_of_ble_eq_true rfl, Nat.le_of_ble_eq_true rfl⟩) (Nat.le_of_ble_eq_true rfl) ⟨(Nat.le_of_ble_eq_true rfl), (Nat.le_of_ble_eq_true rfl)⟩ dX1_meteredRead_8 ?_
      refine V_iload_n C dX1_meteredRead_11 rfl 0 rfl ?_
      refine V_cSi1 C xN_ok (kX1_sheetOf _ _) (va_cwS 1 C.2.2.1 gX1_meteredRead_X1_sheetOf rfl rfl rfl hdX1_sheetOf ⟨Nat.le_of_ble_eq_true rfl, Nat.le_of_ble_eq_true rfl⟩) (Nat.le_of_ble_eq_true rfl) ⟨(Nat.le_of_ble_eq_true rfl), (Nat.le_of_ble_eq_true rfl)⟩ dX1_meteredRead_12 ?_
      refine V_icmp_eq (tgt := 22) C dX1_meteredRead_15 (by decide) (fun h15 => ?_) (fun h15 => ?_)
      ·
        refine V_iconst (v := (-1)) C dX1_meteredRead_22 (by decide) ?_
        exact J23 _ ((if_neg h4).trans ((if_pos h15).trans rfl))
      ·
        refine V_iload_n C dX1_meteredRead_18 rfl 1 rfl ?_
        refine V_goto (tgt := 23) C dX1_meteredRead_19 (by decide) ?_
        exact J23 _ ((if_neg h4).trans ((if_neg h15).trans rfl))
theorem hdX0_costOf : yX0_costOf.cls ≠ "java/lang/invoke/MethodHandle" ∧ yX0_costOf.cls ≠ "java/lang/invoke/VarHandle" ∧ (parseMethodDescriptor yX0_costOf.desc).map (fun d => d.parameters.length) = some 1 := by decide +kernel
theorem hvX0_costOf : yX0_costOf.cls = RX0 ∧ yX0_costOf.cls ≠ "java/lang/invoke/MethodHandle" ∧ yX0_costOf.cls ≠ "java/lang/invoke/VarHandle" ∧ (parseMethodDescriptor yX0_costOf.desc).map (fun d => d.parameters.length) = some 1 := by decide +kernel
theorem hiX0_costOf_X1 : Cond.initialized RX1 ∈ wsX0_costOf := by decide +kernel
theorem hsX0_costOf_X1_isCell : Cond.static yX1_isCell ∈ wsX0_costOf := by decide +kernel
theorem hinX0_costOf_X0 : ∀ w ∈ u_ws RX0 TX0 8, w ∈ wsX0_costOf := by decide +kernel
theorem hfX0_costOf_9 : Cond.fieldLink RX0 9 "MeteredSheets$Ledger" "prices" "[I" ∈ wsX0_costOf := by decide +kernel
theorem hsX0_costOf_X1_sheetOf : Cond.static yX1_sheetOf ∈ wsX0_costOf := by decide +kernel
set_option maxHeartbeats 4000000 in
theorem kX0_costOf {l : Launch} {D : va_G} {cI cZ : ClassId} {ad : Nat → Nat} (u : vM) (a1 : Int32) : mI D vwCl (tyF cI cZ) xN (wC cI cZ ad) l yX0_costOf wsX0_costOf rmX0_costOf [.ref (ad 8), .int a1] u (rX0_costOf u a1) u := by
  refine mI_of (cc := cX0_costOf) (maxL := 2) (ret := (some .int)) (own := RX0) rfl (by decide) rfl (wC_ok cI cZ ad) (Nat.le_of_ble_eq_true rfl) (fun p e s m args below meth c A C => ?_)
  refine V_ls (ls' := [(0, .ref (ad 8)), (1, .int a1)]) rfl ?_
  refine V_iload_n C dX0_costOf_0 rfl 1 rfl ?_
  refine V_cSNi1 C xN_ok (kX1_isCell _ _) ⟨va_cnB 1 C.2.2.1 ggX0_costOf_X1_isCell rfl rfl rfl (C.2.2.2.2.2.2.2.2.2.2 _ nwX0_48) (C.2.2.1 _ hiX0_costOf_X1) hdX1_isCell ⟨Nat.le_of_ble_eq_true rfl, Nat.le_of_ble_eq_true rfl⟩, C.2.2.1 _ hsX0_costOf_X1_isCell, trivial⟩ (Nat.le_of_ble_eq_true rfl) ⟨(Nat.le_of_ble_eq_true rfl), (Nat.le_of_ble_eq_true rfl)⟩ dX0_costOf_1 ?_
  refine V_join1 (J := 20) (T := (if (rX1_isCell a1) = 0 then 0 else (mrd u 13 (rX1_sheetOf a1)))) (fun j20 hj20 => ?_) (fun J20 => ?_)
  ·
    subst hj20
    exact V_iret C rfl (vp_nar_int _) rfl rfl dX0_costOf_20
  ·
    refine V_if_eq (tgt := 19) C dX0_costOf_4 (by decide) (fun h4 => ?_) (fun h4 => ?_)
    ·
      refine V_iconst (v := 0) C dX0_costOf_19 (by decide) ?_
      exact J20 _ ((if_pos h4).trans rfl)
    ·
      refine V_aload_n C dX0_costOf_7 rfl 0 rfl ?_
      refine V_get (Cn := RX0) (T := TX0) (N := 8) C hinX0_costOf_X0 8 rfl rfl 0 (by decide) hfX0_costOf_9 rfl rfl dX0_costOf_8 ?_
      refine V_iload_n C dX0_costOf_11 rfl 1 rfl ?_
      refine V_cSNi1 C xN_ok (kX1_sheetOf _ _) ⟨va_cnB 1 C.2.2.1 ggX0_costOf_X1_sheetOf rfl rfl rfl (C.2.2.2.2.2.2.2.2.2.2 _ nwX0_37) (C.2.2.1 _ hiX0_costOf_X1) hdX1_sheetOf ⟨Nat.le_of_ble_eq_true rfl, Nat.le_of_ble_eq_true rfl⟩, C.2.2.1 _ hsX0_costOf_X1_sheetOf, trivial⟩ (Nat.le_of_ble_eq_true rfl) ⟨(Nat.le_of_ble_eq_true rfl), (Nat.le_of_ble_eq_true rfl)⟩ dX0_costOf_12 ?_
      refine Vm_iald C 13 0 rfl rfl (vqX1_sheetOf (vqX1_isCell h4)) dX0_costOf_15 ?_
      refine V_goto (tgt := 20) C dX0_costOf_16 (by decide) ?_
      exact J20 _ ((if_neg h4).trans rfl)
theorem hdX0_enter : yX0_enter.cls ≠ "java/lang/invoke/MethodHandle" ∧ yX0_enter.cls ≠ "java/lang/invoke/VarHandle" ∧ (parseMethodDescriptor yX0_enter.desc).map (fun d => d.parameters.length) = some 3 := by decide +kernel
theorem hvX0_enter : yX0_enter.cls = RX0 ∧ yX0_enter.cls ≠ "java/lang/invoke/MethodHandle" ∧ yX0_enter.cls ≠ "java/lang/invoke/VarHandle" ∧ (parseMethodDescriptor yX0_enter.desc).map (fun d => d.parameters.length) = some 3 := by decide +kernel
theorem hiX0_enter_X1 : Cond.initialized RX1 ∈ wsX0_enter := by decide +kernel
theorem hsX0_enter_X1_isCell : Cond.static yX1_isCell ∈ wsX0_enter := by decide +kernel
theorem hsX0_enter_X1_sheetOf : Cond.static yX1_sheetOf ∈ wsX0_enter := by decide +kernel
theorem hinX0_enter_X0 : ∀ w ∈ u_ws RX0 TX0 8, w ∈ wsX0_enter := by decide +kernel
theorem hfX0_enter_18 : Cond.fieldLink RX0 18 "MeteredSheets$Ledger" "earnings" "[I" ∈ wsX0_enter := by decide +kernel
theorem hfX0_enter_9 : Cond.fieldLink RX0 9 "MeteredSheets$Ledger" "prices" "[I" ∈ wsX0_enter := by decide +kernel
theorem hfX0_enter_24 : Cond.fieldLink RX0 24 "MeteredSheets$Ledger" "bills" "[I" ∈ wsX0_enter := by decide +kernel
theorem hfX0_enter_21 : Cond.fieldLink RX0 21 "MeteredSheets$Ledger" "readsOf" "[I" ∈ wsX0_enter := by decide +kernel
theorem hfX0_enter_27 : Cond.fieldLink RX0 27 "MeteredSheets$Ledger" "counts" "[I" ∈ wsX0_enter := by decide +kernel
theorem hfX0_enter_33 : Cond.fieldLink RX0 33 "MeteredSheets$Ledger" "keptCount" "I" ∈ wsX0_enter := by decide +kernel
theorem hfX0_enter_30 : Cond.fieldLink RX0 30 "MeteredSheets$Ledger" "kept" "[I" ∈ wsX0_enter := by decide +kernel
set_option maxHeartbeats 4000000 in
theorem kX0_enter {l : Launch} {D : va_G} {cI cZ : ClassId} {ad : Nat → Nat} (u : vM) (a1 : Int32) (a2 : Int32) (a3 : Int32) (hp0 : vp_in a1 5) (hp1 : vp_in a2 24) (hp2 : kc u) : mV D vwCl (tyF cI cZ) xN (wC cI cZ ad) l yX0_enter wsX0_enter rmX0_enter [.ref (ad 8), .int a1, .int a2, .int a3] u (uX0_enter u a1 a2 a3) := by
  refine mV_of (cc := cX0_enter) (maxL := 5) (ret := none) (own := RX0) rfl (by decide) rfl (wC_ok cI cZ ad) (Nat.le_of_ble_eq_true rfl) (fun p e s m args below meth c A C => ?_)
  refine V_ls (ls' := [(0, .ref (ad 8)), (1, .int a1), (2, .int a2), (3, .int a3)]) rfl ?_
  refine V_iload_n C dX0_enter_0 rfl 3 rfl ?_
  refine V_cSNi1 C xN_ok (kX1_isCell _ _) ⟨va_cnB 1 C.2.2.1 ggX0_enter_X1_isCell rfl rfl rfl (C.2.2.2.2.2.2.2.2.2.2 _ nwX0_48) (C.2.2.1 _ hiX0_enter_X1) hdX1_isCell ⟨Nat.le_of_ble_eq_true rfl, Nat.le_of_ble_eq_true rfl⟩, C.2.2.1 _ hsX0_enter_X1_isCell, trivial⟩ (Nat.le_of_ble_eq_true rfl) ⟨(Nat.le_of_ble_eq_true rfl), (Nat.le_of_ble_eq_true rfl)⟩ dX0_enter_1 ?_
  refine V_if_ne (tgt := 8) C dX0_enter_4 (by decide) (fun h4 => ?_) (fun h4 => ?_)
  ·
    refine V_iload_n C dX0_enter_8 rfl 3 rfl ?_
    refine V_cSNi1 C xN_ok (kX1_sheetOf _ _) ⟨va_cnB 1 C.2.2.1 ggX0_enter_X1_sheetOf rfl rfl rfl (C.2.2.2.2.2.2.2.2.2.2 _ nwX0_37) (C.2.2.1 _ hiX0_enter_X1) hdX1_sheetOf ⟨Nat.le_of_ble_eq_true rfl, Nat.le_of_ble_eq_true rfl⟩, C.2.2.1 _ hsX0_enter_X1_sheetOf, trivial⟩ (Nat.le_of_ble_eq_true rfl) ⟨(Nat.le_of_ble_eq_true rfl), (Nat.le_of_ble_eq_true rfl)⟩ dX0_enter_9 ?_
    refine V_top (fun y12 hy12 => ?_)
    refine V_istore (ls' := [(0, .ref (ad 8)), (1, .int a1), (2, .int a2), (3, .int a3), (4, .int y12)]) C dX0_enter_12 (by decide) rfl rfl ?_
    refine V_aload_n C dX0_enter_14 rfl 0 rfl ?_
    refine V_get (Cn := RX0) (T := TX0) (N := 8) C hinX0_enter_X0 8 rfl rfl 2 (by decide) hfX0_enter_18 rfl rfl dX0_enter_15 ?_
    refine V_iload C dX0_enter_18 4 rfl ?_
    refine V_dup2 C dX0_enter_20 rfl rfl ?_
    refine Vm_iald C 15 0 rfl rfl (by rw [← hy12]; exact (vqX1_sheetOf (vqX1_isCell h4))) dX0_enter_21 ?_
    refine V_aload_n C dX0_enter_22 rfl 0 rfl ?_
    refine V_get (Cn := RX0) (T := TX0) (N := 8) C hinX0_enter_X0 8 rfl rfl 0 (by decide) hfX0_enter_9 rfl rfl dX0_enter_23 ?_
    refine V_iload C dX0_enter_26 4 rfl ?_
    refine Vm_iald C 13 0 rfl rfl (by rw [← hy12]; exact (vqX1_sheetOf (vqX1_isCell h4))) dX0_enter_28 ?_
    refine V_iadd C dX0_enter_29 ?_
    refine Vm_iast C 15 0 rfl rfl (by rw [← hy12]; exact (vqX1_sheetOf (vqX1_isCell h4))) wC_s15 dX0_enter_30 ?_
    refine V_u (fun u30 hu30 => ?_)
    have hkc30 : kc u30 := by rw [← hu30]; exact hp2
    refine V_aload_n C dX0_enter_31 rfl 0 rfl ?_
    refine V_get (Cn := RX0) (T := TX0) (N := 8) C hinX0_enter_X0 8 rfl rfl 4 (by decide) hfX0_enter_24 rfl rfl dX0_enter_32 ?_
    refine V_iload_n C dX0_enter_35 rfl 1 rfl ?_
    refine V_dup2 C dX0_enter_36 rfl rfl ?_
    refine Vm_iald C 17 0 rfl rfl hp0 dX0_enter_37 ?_
    refine V_aload_n C dX0_enter_38 rfl 0 rfl ?_
    refine V_get (Cn := RX0) (T := TX0) (N := 8) C hinX0_enter_X0 8 rfl rfl 0 (by decide) hfX0_enter_9 rfl rfl dX0_enter_39 ?_
    refine V_iload C dX0_enter_42 4 rfl ?_
    refine Vm_iald C 13 0 rfl rfl (by rw [← hy12]; exact (vqX1_sheetOf (vqX1_isCell h4))) dX0_enter_44 ?_
    refine V_iadd C dX0_enter_45 ?_
    refine Vm_iast C 17 0 rfl rfl hp0 wC_s17 dX0_enter_46 ?_
    refine V_u (fun u46 hu46 => ?_)
    have hkc46 : kc u46 := by rw [← hu46]; exact hkc30
    refine V_aload_n C dX0_enter_47 rfl 0 rfl ?_
    refine V_get (Cn := RX0) (T := TX0) (N := 8) C hinX0_enter_X0 8 rfl rfl 3 (by decide) hfX0_enter_21 rfl rfl dX0_enter_48 ?_
    refine V_iload C dX0_enter_51 4 rfl ?_
    refine V_dup2 C dX0_enter_53 rfl rfl ?_
    refine Vm_iald C 16 0 rfl rfl (by rw [← hy12]; exact (vqX1_sheetOf (vqX1_isCell h4))) dX0_enter_54 ?_
    refine V_iconst (v := 1) C dX0_enter_55 (by decide) ?_
    refine V_iadd C dX0_enter_56 ?_
    refine Vm_iast C 16 0 rfl rfl (by rw [← hy12]; exact (vqX1_sheetOf (vqX1_isCell h4))) wC_s16 dX0_enter_57 ?_
    refine V_u (fun u57 hu57 => ?_)
    have hkc57 : kc u57 := by rw [← hu57]; exact hkc46
    refine V_aload_n C dX0_enter_58 rfl 0 rfl ?_
    refine V_get (Cn := RX0) (T := TX0) (N := 8) C hinX0_enter_X0 8 rfl rfl 5 (by decide) hfX0_enter_27 rfl rfl dX0_enter_59 ?_
    refine V_iload_n C dX0_enter_62 rfl 2 rfl ?_
    refine V_bipush (v := 24) C dX0_enter_63 (by decide) ?_
    refine V_imul C dX0_enter_65 ?_
    refine V_iload_n C dX0_enter_66 rfl 3 rfl ?_
    refine V_iadd C dX0_enter_67 ?_
    refine V_dup2 C dX0_enter_68 rfl rfl ?_
    refine Vm_iald C 18 0 rfl rfl (vq_576 hp1 (vqX1_isCell h4)) dX0_enter_69 ?_
    refine V_iconst (v := 1) C dX0_enter_70 (by decide) ?_
    refine V_iadd C dX0_enter_71 ?_
    refine Vm_iast C 18 0 rfl rfl (vq_576 hp1 (vqX1_isCell h4)) wC_s18 dX0_enter_72 ?_
    refine V_u (fun u72 hu72 => ?_)
    have hkc72 : kc u72 := by rw [← hu72]; exact hkc57
    refine V_aload_n C dX0_enter_73 rfl 0 rfl ?_
    refine V_get (Cn := RX0) (T := TX0) (N := 8) C hinX0_enter_X0 8 rfl rfl 7 (by decide) hfX0_enter_33 rfl rfl dX0_enter_74 ?_
    show V p l e _ s m args below meth c D vwCl A (wC cI cZ ad) _ _ _ _ _ _ _ (.int (mfd u72 8) :: _)
    refine V_sipush (v := 500) C dX0_enter_77 (by decide) ?_
    refine V_icmp_ge (tgt := 114) C dX0_enter_80 (by decide) (fun h80 => ?_) (fun h80 => ?_)
    ·
      subst hu72
      subst hu57
      subst hu46
      subst hu30
      subst hy12
      exact V_vret C rfl ((if_neg h4).trans ((if_pos h80).trans rfl)) dX0_enter_114
    ·
      refine V_aload_n C dX0_enter_83 rfl 0 rfl ?_
      refine V_get (Cn := RX0) (T := TX0) (N := 8) C hinX0_enter_X0 8 rfl rfl 6 (by decide) hfX0_enter_30 rfl rfl dX0_enter_84 ?_
      refine V_aload_n C dX0_enter_87 rfl 0 rfl ?_
      refine V_get (Cn := RX0) (T := TX0) (N := 8) C hinX0_enter_X0 8 rfl rfl 7 (by decide) hfX0_enter_33 rfl rfl dX0_enter_88 ?_
      show V p l e _ s m args below meth c D vwCl A (wC cI cZ ad) _ _ _ _ _ _ _ (.int (mfd u72 8) :: _)
      refine V_sipush (v := 10000) C dX0_enter_91 (by decide) ?_
      refine V_iload_n C dX0_enter_94 rfl 1 rfl ?_
      refine V_imul C dX0_enter_95 ?_
      refine V_bipush (v := 100) C dX0_enter_96 (by decide) ?_
      refine V_iload_n C dX0_enter_98 rfl 2 rfl ?_
      refine V_imul C dX0_enter_99 ?_
      refine V_iadd C dX0_enter_100 ?_
      refine V_iload_n C dX0_enter_101 rfl 3 rfl ?_
      refine V_iadd C dX0_enter_102 ?_
      refine Vm_iast C 19 0 rfl rfl (vq_kc hkc72 h80) wC_s19 dX0_enter_103 ?_
      refine V_u (fun u103 hu103 => ?_)
      have hkc103 : kc u103 := by rw [← hu103]; exact hkc72
      refine V_aload_n C dX0_enter_104 rfl 0 rfl ?_
      refine V_dup C dX0_enter_105 rfl ?_
      refine V_get (Cn := RX0) (T := TX0) (N := 8) C hinX0_enter_X0 8 rfl rfl 7 (by decide) hfX0_enter_33 rfl rfl dX0_enter_106 ?_
      show V p l e _ s m args below meth c D vwCl A (wC cI cZ ad) _ _ _ _ _ _ _ (.int (mfd u103 8) :: _)
      refine V_iconst (v := 1) C dX0_enter_109 (by decide) ?_
      refine V_iadd C dX0_enter_110 ?_
      refine V_put (Cn := RX0) (T := TX0) (N := 8) C hinX0_enter_X0 tyX0 tyX0_ok nmX0 8 rfl rfl 7 (by decide) hfX0_enter_33 rfl rfl rfl (Nat.le_of_ble_eq_true rfl) wC_s8 dX0_enter_111 ?_
      refine V_u (fun u111 hu111 => ?_)
      subst hu111
      subst hu103
      subst hu72
      subst hu57
      subst hu46
      subst hu30
      subst hy12
      exact V_vret C rfl ((if_neg h4).trans ((if_neg h80).trans rfl)) dX0_enter_114
  ·
    exact V_vret C rfl ((if_pos h4).trans rfl) dX0_enter_7
theorem hdX0_paysFor : yX0_paysFor.cls ≠ "java/lang/invoke/MethodHandle" ∧ yX0_paysFor.cls ≠ "java/lang/invoke/VarHandle" ∧ (parseMethodDescriptor yX0_paysFor.desc).map (fun d => d.parameters.length) = some 4 := by decide +kernel
theorem hvX0_paysFor : yX0_paysFor.cls = RX0 ∧ yX0_paysFor.cls ≠ "java/lang/invoke/MethodHandle" ∧ yX0_paysFor.cls ≠ "java/lang/invoke/VarHandle" ∧ (parseMethodDescriptor yX0_paysFor.desc).map (fun d => d.parameters.length) = some 4 := by decide +kernel
theorem hiX0_paysFor_X1 : Cond.initialized RX1 ∈ wsX0_paysFor := by decide +kernel
theorem hsX0_paysFor_X1_sheetOf : Cond.static yX1_sheetOf ∈ wsX0_paysFor := by decide +kernel
theorem hinX0_paysFor_X0 : ∀ w ∈ u_ws RX0 TX0 8, w ∈ wsX0_paysFor := by decide +kernel
theorem hfX0_paysFor_15 : Cond.fieldLink RX0 15 "MeteredSheets$Ledger" "budgets" "[I" ∈ wsX0_paysFor := by decide +kernel
set_option maxHeartbeats 4000000 in
theorem kX0_paysFor {l : Launch} {D : va_G} {cI cZ : ClassId} {ad : Nat → Nat} (u : vM) (a1 : Int32) (a2 : Int32) (a3 : Int32) (a4 : Int32) (hp0 : vp_in a1 5) (hp1 : vp_in a2 24) (hp2 : kc u) : mI D vwCl (tyF cI cZ) xN (wC cI cZ ad) l yX0_paysFor wsX0_paysFor rmX0_paysFor [.ref (ad 8), .int a1, .int a2, .int a3, .int a4] u (rX0_paysFor u a1 a2 a3 a4) (uX0_paysFor u a1 a2 a3 a4) := by
  refine mI_of (cc := cX0_paysFor) (maxL := 7) (ret := (some .boolean)) (own := RX0) rfl (by decide) rfl (wC_ok cI cZ ad) (Nat.le_of_ble_eq_true rfl) (fun p e s m args below meth c A C => ?_)
  refine V_ls (ls' := [(0, .ref (ad 8)), (1, .int a1), (2, .int a2), (3, .int a3), (4, .int a4)]) rfl ?_
  refine V_iload_n C dX0_paysFor_0 rfl 2 rfl ?_
  refine V_cSNi1 C xN_ok (kX1_sheetOf _ _) ⟨va_cnB 1 C.2.2.1 ggX0_paysFor_X1_sheetOf rfl rfl rfl (C.2.2.2.2.2.2.2.2.2.2 _ nwX0_37) (C.2.2.1 _ hiX0_paysFor_X1) hdX1_sheetOf ⟨Nat.le_of_ble_eq_true rfl, Nat.le_of_ble_eq_true rfl⟩, C.2.2.1 _ hsX0_paysFor_X1_sheetOf, trivial⟩ (Nat.le_of_ble_eq_true rfl) ⟨(Nat.le_of_ble_eq_true rfl), (Nat.le_of_ble_eq_true rfl)⟩ dX0_paysFor_1 ?_
  refine V_top (fun y4 hy4 => ?_)
  refine V_istore (ls' := [(0, .ref (ad 8)), (1, .int a1), (2, .int a2), (3, .int a3), (4, .int a4), (5, .int y4)]) C dX0_paysFor_4 (by decide) rfl rfl ?_
  refine V_aload_n C dX0_paysFor_6 rfl 0 rfl ?_
  refine V_iload_n C dX0_paysFor_7 rfl 3 rfl ?_
  refine V_cVi1 C xN_ok (kX0_costOf _ _) (cwV 1 C.2.2.1 gX0_paysFor_X0_costOf rfl rfl rfl hvX0_costOf ⟨Nat.le_of_ble_eq_true rfl, Nat.le_of_ble_eq_true rfl⟩) 8 rfl rfl (Nat.le_of_ble_eq_true rfl) ⟨(Nat.le_of_ble_eq_true rfl), (Nat.le_of_ble_eq_true rfl)⟩ dX0_paysFor_8 ?_
  refine V_aload_n C dX0_paysFor_11 rfl 0 rfl ?_
  refine V_iload C dX0_paysFor_12 4 rfl ?_
  refine V_cVi1 C xN_ok (kX0_costOf _ _) (cwV 1 C.2.2.1 gX0_paysFor_X0_costOf rfl rfl rfl hvX0_costOf ⟨Nat.le_of_ble_eq_true rfl, Nat.le_of_ble_eq_true rfl⟩) 8 rfl rfl (Nat.le_of_ble_eq_true rfl) ⟨(Nat.le_of_ble_eq_true rfl), (Nat.le_of_ble_eq_true rfl)⟩ dX0_paysFor_14 ?_
  refine V_iadd C dX0_paysFor_17 ?_
  refine V_top (fun y18 hy18 => ?_)
  refine V_istore (ls' := [(0, .ref (ad 8)), (1, .int a1), (2, .int a2), (3, .int a3), (4, .int a4), (5, .int y4), (6, .int y18)]) C dX0_paysFor_18 (by decide) rfl rfl ?_
  refine V_aload_n C dX0_paysFor_20 rfl 0 rfl ?_
  refine V_get (Cn := RX0) (T := TX0) (N := 8) C hinX0_paysFor_X0 8 rfl rfl 1 (by decide) hfX0_paysFor_15 rfl rfl dX0_paysFor_21 ?_
  refine V_iload C dX0_paysFor_24 5 rfl ?_
  refine Vm_iald C 14 0 rfl rfl (by rw [← hy4]; exact (vqX1_sheetOf hp1)) dX0_paysFor_26 ?_
  refine V_iload C dX0_paysFor_27 6 rfl ?_
  refine V_icmp_ge (tgt := 34) C dX0_paysFor_29 (by decide) (fun h29 => ?_) (fun h29 => ?_)
  ·
    refine V_aload_n C dX0_paysFor_34 rfl 0 rfl ?_
    refine V_get (Cn := RX0) (T := TX0) (N := 8) C hinX0_paysFor_X0 8 rfl rfl 1 (by decide) hfX0_paysFor_15 rfl rfl dX0_paysFor_35 ?_
    refine V_iload C dX0_paysFor_38 5 rfl ?_
    refine V_dup2 C dX0_paysFor_40 rfl rfl ?_
    refine Vm_iald C 14 0 rfl rfl (by rw [← hy4]; exact (vqX1_sheetOf hp1)) dX0_paysFor_41 ?_
    refine V_iload C dX0_paysFor_42 6 rfl ?_
    refine V_isub C dX0_paysFor_44 ?_
    refine Vm_iast C 14 0 rfl rfl (by rw [← hy4]; exact (vqX1_sheetOf hp1)) wC_s14 dX0_paysFor_45 ?_
    refine V_u (fun u45 hu45 => ?_)
    have hkc45 : kc u45 := by rw [← hu45]; exact hp2
    refine V_aload_n C dX0_paysFor_46 rfl 0 rfl ?_
    refine V_iload_n C dX0_paysFor_47 rfl 1 rfl ?_
    refine V_iload_n C dX0_paysFor_48 rfl 2 rfl ?_
    refine V_iload_n C dX0_paysFor_49 rfl 3 rfl ?_
    refine V_cVv3 C xN_ok (kX0_enter _ _ _ _ hp0 hp1 hkc45) (cwV 3 C.2.2.1 gX0_paysFor_X0_enter rfl rfl rfl hvX0_enter ⟨Nat.le_of_ble_eq_true rfl, Nat.le_of_ble_eq_true rfl⟩) 8 rfl rfl (Nat.le_of_ble_eq_true rfl) ⟨(Nat.le_of_ble_eq_true rfl), (Nat.le_of_ble_eq_true rfl)⟩ dX0_paysFor_50 ?_
    refine V_u (fun u50 hu50 => ?_)
    have hkc50 : kc u50 := by rw [← hu50]; exact kc_X0_enter hkc45
    refine V_aload_n C dX0_paysFor_53 rfl 0 rfl ?_
    refine V_iload_n C dX0_paysFor_54 rfl 1 rfl ?_
    refine V_iload_n C dX0_paysFor_55 rfl 2 rfl ?_
    refine V_iload C dX0_paysFor_56 4 rfl ?_
    refine V_cVv3 C xN_ok (kX0_enter _ _ _ _ hp0 hp1 hkc50) (cwV 3 C.2.2.1 gX0_paysFor_X0_enter rfl rfl rfl hvX0_enter ⟨Nat.le_of_ble_eq_true rfl, Nat.le_of_ble_eq_true rfl⟩) 8 rfl rfl (Nat.le_of_ble_eq_true rfl) ⟨(Nat.le_of_ble_eq_true rfl), (Nat.le_of_ble_eq_true rfl)⟩ dX0_paysFor_58 ?_
    refine V_u (fun u58 hu58 => ?_)
    have hkc58 : kc u58 := by rw [← hu58]; exact kc_X0_enter hkc50
    refine V_iconst (v := 1) C dX0_paysFor_61 (by decide) ?_
    subst hu58
    subst hu50
    subst hu45
    subst hy18
    subst hy4
    exact V_iret C rfl rfl ((if_pos h29).trans rfl) ((if_pos h29).trans rfl) dX0_paysFor_62
  ·
    refine V_iconst (v := 0) C dX0_paysFor_32 (by decide) ?_
    subst hy18
    subst hy4
    exact V_iret C rfl rfl ((if_neg h29).trans rfl) ((if_neg h29).trans rfl) dX0_paysFor_33
theorem hdX1_valueIn : yX1_valueIn.cls ≠ "java/lang/invoke/MethodHandle" ∧ yX1_valueIn.cls ≠ "java/lang/invoke/VarHandle" ∧ (parseMethodDescriptor yX1_valueIn.desc).map (fun d => d.parameters.length) = some 2 := by decide +kernel
theorem hvX1_valueIn : yX1_valueIn.cls = RX1 ∧ yX1_valueIn.cls ≠ "java/lang/invoke/MethodHandle" ∧ yX1_valueIn.cls ≠ "java/lang/invoke/VarHandle" ∧ (parseMethodDescriptor yX1_valueIn.desc).map (fun d => d.parameters.length) = some 2 := by decide +kernel
set_option maxHeartbeats 4000000 in
theorem kX1_valueIn_v5 {l : Launch} {D : va_G} {cI cZ : ClassId} {ad : Nat → Nat} (u : vM) (a1 : Int32) : mI D vwCl (tyF cI cZ) xN (wC cI cZ ad) l yX1_valueIn wsX1_valueIn rmX1_valueIn [.ref (ad 5), .int a1] u (rX1_valueIn_v5 u a1) u := by
  refine mI_of (cc := cX1_valueIn) (maxL := 2) (ret := (some .int)) (own := RX1) rfl (by decide) rfl (wC_ok cI cZ ad) (Nat.le_of_ble_eq_true rfl) (fun p e s m args below meth c A C => ?_)
  refine V_ls (ls' := [(0, .ref (ad 5)), (1, .int a1)]) rfl ?_
  refine V_iload_n C dX1_valueIn_0 rfl 1 rfl ?_
  refine V_join1 (J := 17) (T := (if a1 < 0 then 0 else (if 24 ≤ a1 then 0 else (mrd u 5 a1)))) (fun j17 hj17 => ?_) (fun J17 => ?_)
  ·
    subst hj17
    exact V_iret C rfl (vp_nar_int _) rfl rfl dX1_valueIn_17
  ·
    refine V_if_lt (tgt := 16) C dX1_valueIn_1 (by decide) (fun h1 => ?_) (fun h1 => ?_)
    ·
      refine V_iconst (v := 0) C dX1_valueIn_16 (by decide) ?_
      exact J17 _ ((if_pos h1).trans rfl)
    ·
      refine V_iload_n C dX1_valueIn_4 rfl 1 rfl ?_
      refine V_aload_n C dX1_valueIn_5 rfl 0 rfl ?_
      refine V_alen (v := 24) C 5 0 rfl rfl rfl dX1_valueIn_6 ?_
      refine V_icmp_ge (tgt := 16) C dX1_valueIn_7 (by decide) (fun h7 => ?_) (fun h7 => ?_)
      ·
        refine V_iconst (v := 0) C dX1_valueIn_16 (by decide) ?_
        exact J17 _ ((if_neg h1).trans ((if_pos h7).trans rfl))
      ·
        refine V_aload_n C dX1_valueIn_10 rfl 0 rfl ?_
        refine V_iload_n C dX1_valueIn_11 rfl 1 rfl ?_
        refine Vm_iald C 5 0 rfl rfl (vq_lt h1 h7) dX1_valueIn_12 ?_
        refine V_goto (tgt := 17) C dX1_valueIn_13 (by decide) ?_
        exact J17 _ ((if_neg h1).trans ((if_neg h7).trans rfl))
set_option maxHeartbeats 4000000 in
theorem kX1_valueIn_v12 {l : Launch} {D : va_G} {cI cZ : ClassId} {ad : Nat → Nat} (u : vM) (a1 : Int32) : mI D vwCl (tyF cI cZ) xN (wC cI cZ ad) l yX1_valueIn wsX1_valueIn rmX1_valueIn [.ref (ad 12), .int a1] u (rX1_valueIn_v12 u a1) u := by
  refine mI_of (cc := cX1_valueIn) (maxL := 2) (ret := (some .int)) (own := RX1) rfl (by decide) rfl (wC_ok cI cZ ad) (Nat.le_of_ble_eq_true rfl) (fun p e s m args below meth c A C => ?_)
  refine V_ls (ls' := [(0, .ref (ad 12)), (1, .int a1)]) rfl ?_
  refine V_iload_n C dX1_valueIn_0 rfl 1 rfl ?_
  refine V_join1 (J := 17) (T := (if a1 < 0 then 0 else (if 24 ≤ a1 then 0 else (mrd u 12 a1)))) (fun j17 hj17 => ?_) (fun J17 => ?_)
  ·
    subst hj17
    exact V_iret C rfl (vp_nar_int _) rfl rfl dX1_valueIn_17
  ·
    refine V_if_lt (tgt := 16) C dX1_valueIn_1 (by decide) (fun h1 => ?_) (fun h1 => ?_)
    ·
      refine V_iconst (v := 0) C dX1_valueIn_16 (by decide) ?_
      exact J17 _ ((if_pos h1).trans rfl)
    ·
      refine V_iload_n C dX1_valueIn_4 rfl 1 rfl ?_
      refine V_aload_n C dX1_valueIn_5 rfl 0 rfl ?_
      refine V_alen (v := 24) C 12 0 rfl rfl rfl dX1_valueIn_6 ?_
      refine V_icmp_ge (tgt := 16) C dX1_valueIn_7 (by decide) (fun h7 => ?_) (fun h7 => ?_)
      ·
        refine V_iconst (v := 0) C dX1_valueIn_16 (by decide) ?_
        exact J17 _ ((if_neg h1).trans ((if_pos h7).trans rfl))
      ·
        refine V_aload_n C dX1_valueIn_10 rfl 0 rfl ?_
        refine V_iload_n C dX1_valueIn_11 rfl 1 rfl ?_
        refine Vm_iald C 12 0 rfl rfl (vq_lt h1 h7) dX1_valueIn_12 ?_
        refine V_goto (tgt := 17) C dX1_valueIn_13 (by decide) ?_
        exact J17 _ ((if_neg h1).trans ((if_neg h7).trans rfl))
theorem hdX1_held : yX1_held.cls ≠ "java/lang/invoke/MethodHandle" ∧ yX1_held.cls ≠ "java/lang/invoke/VarHandle" ∧ (parseMethodDescriptor yX1_held.desc).map (fun d => d.parameters.length) = some 1 := by decide +kernel
theorem hvX1_held : yX1_held.cls = RX1 ∧ yX1_held.cls ≠ "java/lang/invoke/MethodHandle" ∧ yX1_held.cls ≠ "java/lang/invoke/VarHandle" ∧ (parseMethodDescriptor yX1_held.desc).map (fun d => d.parameters.length) = some 1 := by decide +kernel
theorem hkX1_held_190 : Cond.constant RX1 190 (-1000000) ∈ wsX1_held := by decide +kernel
theorem hkX1_held_58 : Cond.constant RX1 58 (1000000) ∈ wsX1_held := by decide +kernel
theorem hmX1_held_min1 : Cond.methodLink RX1 191 Lib.Math.min.name ∈ wsX1_held := by decide +kernel
theorem hmX1_held_min2 : Cond.static Lib.Math.min.name ∈ wsX1_held := by decide +kernel
theorem hmX1_held_3 : Cond.initialized "java/lang/Math" ∈ wsX1_held := by decide +kernel
theorem hmX1_held_min4 : Cond.code Lib.Math.min.name Lib.Math.min.code 2 (some .int) ∈ wsX1_held := by decide +kernel
theorem hmX1_held_max1 : Cond.methodLink RX1 185 Lib.Math.max.name ∈ wsX1_held := by decide +kernel
theorem hmX1_held_max2 : Cond.static Lib.Math.max.name ∈ wsX1_held := by decide +kernel
theorem hmX1_held_max4 : Cond.code Lib.Math.max.name Lib.Math.max.code 2 (some .int) ∈ wsX1_held := by decide +kernel
set_option maxHeartbeats 4000000 in
theorem kX1_held {l : Launch} {D : va_G} {cI cZ : ClassId} {ad : Nat → Nat} (u : vM) (a0 : Int32) : mI D vwCl (tyF cI cZ) xN (wC cI cZ ad) l yX1_held wsX1_held rmX1_held [.int a0] u (rX1_held a0) u := by
  refine mI_of (cc := cX1_held) (maxL := 1) (ret := (some .int)) (own := RX1) rfl (by decide) rfl (wC_ok cI cZ ad) (Nat.le_of_ble_eq_true rfl) (fun p e s m args below meth c A C => ?_)
  refine V_ls (ls' := [(0, .int a0)]) rfl ?_
  refine V_ldc (v := (-1000000)) C hkX1_held_190 dX1_held_0 ?_
  refine V_ldc (v := 1000000) C hkX1_held_58 dX1_held_2 ?_
  refine V_iload_n C dX1_held_4 rfl 0 rfl ?_
  refine V_mmin C hmX1_held_min1 hmX1_held_min2 hmX1_held_3 hmX1_held_min4 (Nat.le_of_ble_eq_true rfl) (Nat.le_of_ble_eq_true rfl) (Nat.zero_le _) (Nat.zero_le _) dX1_held_5 ?_
  refine V_mmax C hmX1_held_max1 hmX1_held_max2 hmX1_held_3 hmX1_held_max4 (Nat.le_of_ble_eq_true rfl) (Nat.le_of_ble_eq_true rfl) (Nat.zero_le _) (Nat.zero_le _) dX1_held_8 ?_
  exact V_iret C rfl (vp_nar_int _) rfl rfl dX1_held_11
theorem hdX1_resultOf : yX1_resultOf.cls ≠ "java/lang/invoke/MethodHandle" ∧ yX1_resultOf.cls ≠ "java/lang/invoke/VarHandle" ∧ (parseMethodDescriptor yX1_resultOf.desc).map (fun d => d.parameters.length) = some 2 := by decide +kernel
theorem hvX1_resultOf : yX1_resultOf.cls = RX1 ∧ yX1_resultOf.cls ≠ "java/lang/invoke/MethodHandle" ∧ yX1_resultOf.cls ≠ "java/lang/invoke/VarHandle" ∧ (parseMethodDescriptor yX1_resultOf.desc).map (fun d => d.parameters.length) = some 2 := by decide +kernel
theorem hinX1_resultOf_X1 : ∀ w ∈ u_ws RX1 TX1 12, w ∈ wsX1_resultOf := by decide +kernel
theorem hfX1_resultOf_13 : Cond.fieldLink RX1 13 "MeteredSheets" "ones" "[I" ∈ wsX1_resultOf := by decide +kernel
theorem hfX1_resultOf_16 : Cond.fieldLink RX1 16 "MeteredSheets" "others" "[I" ∈ wsX1_resultOf := by decide +kernel
theorem hfX1_resultOf_9 : Cond.fieldLink RX1 9 "MeteredSheets" "kinds" "[I" ∈ wsX1_resultOf := by decide +kernel
theorem hfX1_resultOf_19 : Cond.fieldLink RX1 19 "MeteredSheets" "numbers" "[I" ∈ wsX1_resultOf := by decide +kernel
theorem hmX1_resultOf_max1 : Cond.methodLink RX1 185 Lib.Math.max.name ∈ wsX1_resultOf := by decide +kernel
theorem hmX1_resultOf_max2 : Cond.static Lib.Math.max.name ∈ wsX1_resultOf := by decide +kernel
theorem hmX1_resultOf_3 : Cond.initialized "java/lang/Math" ∈ wsX1_resultOf := by decide +kernel
theorem hmX1_resultOf_max4 : Cond.code Lib.Math.max.name Lib.Math.max.code 2 (some .int) ∈ wsX1_resultOf := by decide +kernel
set_option maxHeartbeats 4000000 in
theorem kX1_resultOf_v5 {l : Launch} {D : va_G} {cI cZ : ClassId} {ad : Nat → Nat} (u : vM) (a1 : Int32) (hp0 : vp_in a1 24) : mI D vwCl (tyF cI cZ) xN (wC cI cZ ad) l yX1_resultOf wsX1_resultOf rmX1_resultOf [.ref (ad 0), .int a1, .ref (ad 5)] u (rX1_resultOf_v5 u a1) u := by
  refine mI_of (cc := cX1_resultOf) (maxL := 5) (ret := (some .int)) (own := RX1) rfl (by decide) rfl (wC_ok cI cZ ad) (Nat.le_of_ble_eq_true rfl) (fun p e s m args below meth c A C => ?_)
  refine V_ls (ls' := [(0, .ref (ad 0)), (1, .int a1), (2, .ref (ad 5))]) rfl ?_
  refine V_aload_n C dX1_resultOf_0 rfl 2 rfl ?_
  refine V_aload_n C dX1_resultOf_1 rfl 0 rfl ?_
  refine V_get (Cn := RX1) (T := TX1) (N := 12) C hinX1_resultOf_X1 0 rfl rfl 1 (by decide) hfX1_resultOf_13 rfl rfl dX1_resultOf_2 ?_
  refine V_iload_n C dX1_resultOf_5 rfl 1 rfl ?_
  refine Vm_iald C 2 0 rfl rfl hp0 dX1_resultOf_6 ?_
  refine V_cSi2 C xN_ok (kX1_valueIn_v5 _ _) (va_cwS 2 C.2.2.1 gX1_resultOf_X1_valueIn rfl rfl rfl hdX1_valueIn ⟨Nat.le_of_ble_eq_true rfl, Nat.le_of_ble_eq_true rfl⟩) (Nat.le_of_ble_eq_true rfl) ⟨(Nat.le_of_ble_eq_true rfl), (Nat.le_of_ble_eq_true rfl)⟩ dX1_resultOf_7 ?_
  refine V_top (fun y10 hy10 => ?_)
  refine V_istore_n (ls' := [(0, .ref (ad 0)), (1, .int a1), (2, .ref (ad 5)), (3, .int y10)]) C dX1_resultOf_10 rfl (by decide) rfl rfl ?_
  refine V_aload_n C dX1_resultOf_11 rfl 2 rfl ?_
  refine V_aload_n C dX1_resultOf_12 rfl 0 rfl ?_
  refine V_get (Cn := RX1) (T := TX1) (N := 12) C hinX1_resultOf_X1 0 rfl rfl 2 (by decide) hfX1_resultOf_16 rfl rfl dX1_resultOf_13 ?_
  refine V_iload_n C dX1_resultOf_16 rfl 1 rfl ?_
  refine Vm_iald C 3 0 rfl rfl hp0 dX1_resultOf_17 ?_
  refine V_cSi2 C xN_ok (kX1_valueIn_v5 _ _) (va_cwS 2 C.2.2.1 gX1_resultOf_X1_valueIn rfl rfl rfl hdX1_valueIn ⟨Nat.le_of_ble_eq_true rfl, Nat.le_of_ble_eq_true rfl⟩) (Nat.le_of_ble_eq_true rfl) ⟨(Nat.le_of_ble_eq_true rfl), (Nat.le_of_ble_eq_true rfl)⟩ dX1_resultOf_18 ?_
  refine V_top (fun y21 hy21 => ?_)
  refine V_istore (ls' := [(0, .ref (ad 0)), (1, .int a1), (2, .ref (ad 5)), (3, .int y10), (4, .int y21)]) C dX1_resultOf_21 (by decide) rfl rfl ?_
  refine V_aload_n C dX1_resultOf_23 rfl 0 rfl ?_
  refine V_get (Cn := RX1) (T := TX1) (N := 12) C hinX1_resultOf_X1 0 rfl rfl 0 (by decide) hfX1_resultOf_9 rfl rfl dX1_resultOf_24 ?_
  refine V_iload_n C dX1_resultOf_27 rfl 1 rfl ?_
  refine Vm_iald C 1 0 rfl rfl hp0 dX1_resultOf_28 ?_
  refine V_tsw3 (t1 := 56) (t2 := 71) (t3 := 78) (t0 := 90) C dX1_resultOf_29 (by decide) (by decide) (by decide) (by decide) (fun h29a => ?_) (fun h29a h29b => ?_) (fun h29a h29b h29c => ?_) (fun h29a h29b h29c => ?_)
  ·
    refine V_iload_n C dX1_resultOf_56 rfl 3 rfl ?_
    refine V_iload C dX1_resultOf_57 4 rfl ?_
    refine V_iadd C dX1_resultOf_59 ?_
    refine V_aload_n C dX1_resultOf_60 rfl 0 rfl ?_
    refine V_get (Cn := RX1) (T := TX1) (N := 12) C hinX1_resultOf_X1 0 rfl rfl 3 (by decide) hfX1_resultOf_19 rfl rfl dX1_resultOf_61 ?_
    refine V_iload_n C dX1_resultOf_64 rfl 1 rfl ?_
    refine Vm_iald C 4 0 rfl rfl hp0 dX1_resultOf_65 ?_
    refine V_iadd C dX1_resultOf_66 ?_
    refine V_cSi1 C xN_ok (kX1_held _ _) (va_cwS 1 C.2.2.1 gX1_resultOf_X1_held rfl rfl rfl hdX1_held ⟨Nat.le_of_ble_eq_true rfl, Nat.le_of_ble_eq_true rfl⟩) (Nat.le_of_ble_eq_true rfl) ⟨(Nat.le_of_ble_eq_true rfl), (Nat.le_of_ble_eq_true rfl)⟩ dX1_resultOf_67 ?_
    subst hy21
    subst hy10
    exact V_iret C rfl (vp_nar_int _) ((if_pos h29a).trans rfl) rfl dX1_resultOf_70
  ·
    refine V_iload_n C dX1_resultOf_71 rfl 3 rfl ?_
    refine V_iload C dX1_resultOf_72 4 rfl ?_
    refine V_mmax C hmX1_resultOf_max1 hmX1_resultOf_max2 hmX1_resultOf_3 hmX1_resultOf_max4 (Nat.le_of_ble_eq_true rfl) (Nat.le_of_ble_eq_true rfl) (Nat.zero_le _) (Nat.zero_le _) dX1_resultOf_74 ?_
    subst hy21
    subst hy10
    exact V_iret C rfl (vp_nar_int _) ((if_neg h29a).trans ((if_pos h29b).trans rfl)) rfl dX1_resultOf_77
  ·
    refine V_iload_n C dX1_resultOf_78 rfl 3 rfl ?_
    refine V_aload_n C dX1_resultOf_79 rfl 0 rfl ?_
    refine V_get (Cn := RX1) (T := TX1) (N := 12) C hinX1_resultOf_X1 0 rfl rfl 3 (by decide) hfX1_resultOf_19 rfl rfl dX1_resultOf_80 ?_
    refine V_iload_n C dX1_resultOf_83 rfl 1 rfl ?_
    refine Vm_iald C 4 0 rfl rfl hp0 dX1_resultOf_84 ?_
    refine V_imul C dX1_resultOf_85 ?_
    refine V_cSi1 C xN_ok (kX1_held _ _) (va_cwS 1 C.2.2.1 gX1_resultOf_X1_held rfl rfl rfl hdX1_held ⟨Nat.le_of_ble_eq_true rfl, Nat.le_of_ble_eq_true rfl⟩) (Nat.le_of_ble_eq_true rfl) ⟨(Nat.le_of_ble_eq_true rfl), (Nat.le_of_ble_eq_true rfl)⟩ dX1_resultOf_86 ?_
    subst hy21
    subst hy10
    exact V_iret C rfl (vp_nar_int _) ((if_neg h29a).trans ((if_neg h29b).trans ((if_pos h29c).trans rfl))) rfl dX1_resultOf_89
  ·
    refine V_aload_n C dX1_resultOf_90 rfl 0 rfl ?_
    refine V_get (Cn := RX1) (T := TX1) (N := 12) C hinX1_resultOf_X1 0 rfl rfl 3 (by decide) hfX1_resultOf_19 rfl rfl dX1_resultOf_91 ?_
    refine V_iload_n C dX1_resultOf_94 rfl 1 rfl ?_
    refine Vm_iald C 4 0 rfl rfl hp0 dX1_resultOf_95 ?_
    subst hy21
    subst hy10
    exact V_iret C rfl (vp_nar_int _) ((if_neg h29a).trans ((if_neg h29b).trans ((if_neg h29c).trans rfl))) rfl dX1_resultOf_96
set_option maxHeartbeats 4000000 in
theorem kX1_resultOf_v12 {l : Launch} {D : va_G} {cI cZ : ClassId} {ad : Nat → Nat} (u : vM) (a1 : Int32) (hp0 : vp_in a1 24) : mI D vwCl (tyF cI cZ) xN (wC cI cZ ad) l yX1_resultOf wsX1_resultOf rmX1_resultOf [.ref (ad 0), .int a1, .ref (ad 12)] u (rX1_resultOf_v12 u a1) u := by
  refine mI_of (cc := cX1_resultOf) (maxL := 5) (ret := (some .int)) (own := RX1) rfl (by decide) rfl (wC_ok cI cZ ad) (Nat.le_of_ble_eq_true rfl) (fun p e s m args below meth c A C => ?_)
  refine V_ls (ls' := [(0, .ref (ad 0)), (1, .int a1), (2, .ref (ad 12))]) rfl ?_
  refine V_aload_n C dX1_resultOf_0 rfl 2 rfl ?_
  refine V_aload_n C dX1_resultOf_1 rfl 0 rfl ?_
  refine V_get (Cn := RX1) (T := TX1) (N := 12) C hinX1_resultOf_X1 0 rfl rfl 1 (by decide) hfX1_resultOf_13 rfl rfl dX1_resultOf_2 ?_
  refine V_iload_n C dX1_resultOf_5 rfl 1 rfl ?_
  refine Vm_iald C 2 0 rfl rfl hp0 dX1_resultOf_6 ?_
  refine V_cSi2 C xN_ok (kX1_valueIn_v12 _ _) (va_cwS 2 C.2.2.1 gX1_resultOf_X1_valueIn rfl rfl rfl hdX1_valueIn ⟨Nat.le_of_ble_eq_true rfl, Nat.le_of_ble_eq_true rfl⟩) (Nat.le_of_ble_eq_true rfl) ⟨(Nat.le_of_ble_eq_true rfl), (Nat.le_of_ble_eq_true rfl)⟩ dX1_resultOf_7 ?_
  refine V_top (fun y10 hy10 => ?_)
  refine V_istore_n (ls' := [(0, .ref (ad 0)), (1, .int a1), (2, .ref (ad 12)), (3, .int y10)]) C dX1_resultOf_10 rfl (by decide) rfl rfl ?_
  refine V_aload_n C dX1_resultOf_11 rfl 2 rfl ?_
  refine V_aload_n C dX1_resultOf_12 rfl 0 rfl ?_
  refine V_get (Cn := RX1) (T := TX1) (N := 12) C hinX1_resultOf_X1 0 rfl rfl 2 (by decide) hfX1_resultOf_16 rfl rfl dX1_resultOf_13 ?_
  refine V_iload_n C dX1_resultOf_16 rfl 1 rfl ?_
  refine Vm_iald C 3 0 rfl rfl hp0 dX1_resultOf_17 ?_
  refine V_cSi2 C xN_ok (kX1_valueIn_v12 _ _) (va_cwS 2 C.2.2.1 gX1_resultOf_X1_valueIn rfl rfl rfl hdX1_valueIn ⟨Nat.le_of_ble_eq_true rfl, Nat.le_of_ble_eq_true rfl⟩) (Nat.le_of_ble_eq_true rfl) ⟨(Nat.le_of_ble_eq_true rfl), (Nat.le_of_ble_eq_true rfl)⟩ dX1_resultOf_18 ?_
  refine V_top (fun y21 hy21 => ?_)
  refine V_istore (ls' := [(0, .ref (ad 0)), (1, .int a1), (2, .ref (ad 12)), (3, .int y10), (4, .int y21)]) C dX1_resultOf_21 (by decide) rfl rfl ?_
  refine V_aload_n C dX1_resultOf_23 rfl 0 rfl ?_
  refine V_get (Cn := RX1) (T := TX1) (N := 12) C hinX1_resultOf_X1 0 rfl rfl 0 (by decide) hfX1_resultOf_9 rfl rfl dX1_resultOf_24 ?_
  refine V_iload_n C dX1_resultOf_27 rfl 1 rfl ?_
  refine Vm_iald C 1 0 rfl rfl hp0 dX1_resultOf_28 ?_
  refine V_tsw3 (t1 := 56) (t2 := 71) (t3 := 78) (t0 := 90) C dX1_resultOf_29 (by decide) (by decide) (by decide) (by decide) (fun h29a => ?_) (fun h29a h29b => ?_) (fun h29a h29b h29c => ?_) (fun h29a h29b h29c => ?_)
  ·
    refine V_iload_n C dX1_resultOf_56 rfl 3 rfl ?_
    refine V_iload C dX1_resultOf_57 4 rfl ?_
    refine V_iadd C dX1_resultOf_59 ?_
    refine V_aload_n C dX1_resultOf_60 rfl 0 rfl ?_
    refine V_get (Cn := RX1) (T := TX1) (N := 12) C hinX1_resultOf_X1 0 rfl rfl 3 (by decide) hfX1_resultOf_19 rfl rfl dX1_resultOf_61 ?_
    refine V_iload_n C dX1_resultOf_64 rfl 1 rfl ?_
    refine Vm_iald C 4 0 rfl rfl hp0 dX1_resultOf_65 ?_
    refine V_iadd C dX1_resultOf_66 ?_
    refine V_cSi1 C xN_ok (kX1_held _ _) (va_cwS 1 C.2.2.1 gX1_resultOf_X1_held rfl rfl rfl hdX1_held ⟨Nat.le_of_ble_eq_true rfl, Nat.le_of_ble_eq_true rfl⟩) (Nat.le_of_ble_eq_true rfl) ⟨(Nat.le_of_ble_eq_true rfl), (Nat.le_of_ble_eq_true rfl)⟩ dX1_resultOf_67 ?_
    subst hy21
    subst hy10
    exact V_iret C rfl (vp_nar_int _) ((if_pos h29a).trans rfl) rfl dX1_resultOf_70
  ·
    refine V_iload_n C dX1_resultOf_71 rfl 3 rfl ?_
    refine V_iload C dX1_resultOf_72 4 rfl ?_
    refine V_mmax C hmX1_resultOf_max1 hmX1_resultOf_max2 hmX1_resultOf_3 hmX1_resultOf_max4 (Nat.le_of_ble_eq_true rfl) (Nat.le_of_ble_eq_true rfl) (Nat.zero_le _) (Nat.zero_le _) dX1_resultOf_74 ?_
    subst hy21
    subst hy10
    exact V_iret C rfl (vp_nar_int _) ((if_neg h29a).trans ((if_pos h29b).trans rfl)) rfl dX1_resultOf_77
  ·
    refine V_iload_n C dX1_resultOf_78 rfl 3 rfl ?_
    refine V_aload_n C dX1_resultOf_79 rfl 0 rfl ?_
    refine V_get (Cn := RX1) (T := TX1) (N := 12) C hinX1_resultOf_X1 0 rfl rfl 3 (by decide) hfX1_resultOf_19 rfl rfl dX1_resultOf_80 ?_
    refine V_iload_n C dX1_resultOf_83 rfl 1 rfl ?_
    refine Vm_iald C 4 0 rfl rfl hp0 dX1_resultOf_84 ?_
    refine V_imul C dX1_resultOf_85 ?_
    refine V_cSi1 C xN_ok (kX1_held _ _) (va_cwS 1 C.2.2.1 gX1_resultOf_X1_held rfl rfl rfl hdX1_held ⟨Nat.le_of_ble_eq_true rfl, Nat.le_of_ble_eq_true rfl⟩) (Nat.le_of_ble_eq_true rfl) ⟨(Nat.le_of_ble_eq_true rfl), (Nat.le_of_ble_eq_true rfl)⟩ dX1_resultOf_86 ?_
    subst hy21
    subst hy10
    exact V_iret C rfl (vp_nar_int _) ((if_neg h29a).trans ((if_neg h29b).trans ((if_pos h29c).trans rfl))) rfl dX1_resultOf_89
  ·
    refine V_aload_n C dX1_resultOf_90 rfl 0 rfl ?_
    refine V_get (Cn := RX1) (T := TX1) (N := 12) C hinX1_resultOf_X1 0 rfl rfl 3 (by decide) hfX1_resultOf_19 rfl rfl dX1_resultOf_91 ?_
    refine V_iload_n C dX1_resultOf_94 rfl 1 rfl ?_
    refine Vm_iald C 4 0 rfl rfl hp0 dX1_resultOf_95 ?_
    subst hy21
    subst hy10
    exact V_iret C rfl (vp_nar_int _) ((if_neg h29a).trans ((if_neg h29b).trans ((if_neg h29c).trans rfl))) rfl dX1_resultOf_96
theorem hdX1_compute : yX1_compute.cls ≠ "java/lang/invoke/MethodHandle" ∧ yX1_compute.cls ≠ "java/lang/invoke/VarHandle" ∧ (parseMethodDescriptor yX1_compute.desc).map (fun d => d.parameters.length) = some 2 := by decide +kernel
theorem hvX1_compute : yX1_compute.cls = RX1 ∧ yX1_compute.cls ≠ "java/lang/invoke/MethodHandle" ∧ yX1_compute.cls ≠ "java/lang/invoke/VarHandle" ∧ (parseMethodDescriptor yX1_compute.desc).map (fun d => d.parameters.length) = some 2 := by decide +kernel
theorem hinX1_compute_X1 : ∀ w ∈ u_ws RX1 TX1 12, w ∈ wsX1_compute := by decide +kernel
theorem hfX1_compute_13 : Cond.fieldLink RX1 13 "MeteredSheets" "ones" "[I" ∈ wsX1_compute := by decide +kernel
theorem hfX1_compute_16 : Cond.fieldLink RX1 16 "MeteredSheets" "others" "[I" ∈ wsX1_compute := by decide +kernel
theorem hfX1_compute_25 : Cond.fieldLink RX1 25 "MeteredSheets" "marked" "[Z" ∈ wsX1_compute := by decide +kernel
theorem hfX1_compute_35 : Cond.fieldLink RX1 35 "MeteredSheets" "ledger" "LMeteredSheets$Ledger;" ∈ wsX1_compute := by decide +kernel
theorem hiX1_compute_X0 : Cond.initialized RX0 ∈ wsX1_compute := by decide +kernel
theorem haX1_compute_X0_paysFor : Cond.instanceMethod yX0_paysFor ∈ wsX1_compute := by decide +kernel
theorem hbX1_compute_X0_paysFor : Cond.selects RX0 yX0_paysFor yX0_paysFor ∈ wsX1_compute := by decide +kernel
theorem hfX1_compute_22 : Cond.fieldLink RX1 22 "MeteredSheets" "values" "[I" ∈ wsX1_compute := by decide +kernel
theorem hfX1_compute_39 : Cond.fieldLink RX1 39 "MeteredSheets" "changed" "[Z" ∈ wsX1_compute := by decide +kernel
set_option maxHeartbeats 4000000 in
theorem kX1_compute {l : Launch} {D : va_G} {cI cZ : ClassId} {ad : Nat → Nat} (u : vM) (a1 : Int32) (a2 : Int32) (hp0 : vp_in a1 5) (hp1 : vp_in a2 24) (hp2 : kc u) : mV D vwCl (tyF cI cZ) xN (wC cI cZ ad) l yX1_compute wsX1_compute rmX1_compute [.ref (ad 0), .int a1, .int a2] u (uX1_compute u a1 a2) := by
  refine mV_of (cc := cX1_compute) (maxL := 6) (ret := none) (own := RX1) rfl (by decide) rfl (wC_ok cI cZ ad) (Nat.le_of_ble_eq_true rfl) (fun p e s m args below meth c A C => ?_)
  refine V_ls (ls' := [(0, .ref (ad 0)), (1, .int a1), (2, .int a2)]) rfl ?_
  refine V_iload_n C dX1_compute_0 rfl 2 rfl ?_
  refine V_aload_n C dX1_compute_1 rfl 0 rfl ?_
  refine V_get (Cn := RX1) (T := TX1) (N := 12) C hinX1_compute_X1 0 rfl rfl 1 (by decide) hfX1_compute_13 rfl rfl dX1_compute_2 ?_
  refine V_iload_n C dX1_compute_5 rfl 2 rfl ?_
  refine Vm_iald C 2 0 rfl rfl hp1 dX1_compute_6 ?_
  refine V_cSi2 C xN_ok (kX1_meteredRead _ _ _) (va_cwS 2 C.2.2.1 gX1_compute_X1_meteredRead rfl rfl rfl hdX1_meteredRead ⟨Nat.le_of_ble_eq_true rfl, Nat.le_of_ble_eq_true rfl⟩) (Nat.le_of_ble_eq_true rfl) ⟨(Nat.le_of_ble_eq_true rfl), (Nat.le_of_ble_eq_true rfl)⟩ dX1_compute_7 ?_
  refine V_top (fun y10 hy10 => ?_)
  refine V_istore_n (ls' := [(0, .ref (ad 0)), (1, .int a1), (2, .int a2), (3, .int y10)]) C dX1_compute_10 rfl (by decide) rfl rfl ?_
  refine V_aload_n C dX1_compute_11 rfl 0 rfl ?_
  refine V_get (Cn := RX1) (T := TX1) (N := 12) C hinX1_compute_X1 0 rfl rfl 2 (by decide) hfX1_compute_16 rfl rfl dX1_compute_12 ?_
  refine V_iload_n C dX1_compute_15 rfl 2 rfl ?_
  refine Vm_iald C 3 0 rfl rfl hp1 dX1_compute_16 ?_
  refine V_aload_n C dX1_compute_17 rfl 0 rfl ?_
  refine V_get (Cn := RX1) (T := TX1) (N := 12) C hinX1_compute_X1 0 rfl rfl 1 (by decide) hfX1_compute_13 rfl rfl dX1_compute_18 ?_
  refine V_iload_n C dX1_compute_21 rfl 2 rfl ?_
  refine Vm_iald C 2 0 rfl rfl hp1 dX1_compute_22 ?_
  refine V_join2 (J := 40) (T := (if (mrd u 3 a2) = (mrd u 2 a2) then (-1) else (rX1_meteredRead a2 (mrd u 3 a2)))) (fun j40 hj40 => ?_) (fun J40 => ?_)
  ·
    refine V_istore (ls' := [(0, .ref (ad 0)), (1, .int a1), (2, .int a2), (3, .int y10), (4, .int j40)]) C dX1_compute_40 (by decide) rfl rfl ?_
    refine V_aload_n C dX1_compute_42 rfl 0 rfl ?_
    refine V_get (Cn := RX1) (T := TX1) (N := 12) C hinX1_compute_X1 0 rfl rfl 5 (by decide) hfX1_compute_25 rfl rfl dX1_compute_43 ?_
    refine V_iload_n C dX1_compute_46 rfl 2 rfl ?_
    refine V_aload_n C dX1_compute_47 rfl 0 rfl ?_
    refine V_get (Cn := RX1) (T := TX1) (N := 12) C hinX1_compute_X1 0 rfl rfl 7 (by decide) hfX1_compute_35 rfl rfl dX1_compute_48 ?_
    refine V_iload_n C dX1_compute_51 rfl 1 rfl ?_
    refine V_iload_n C dX1_compute_52 rfl 2 rfl ?_
    refine V_iload_n C dX1_compute_53 rfl 3 rfl ?_
    refine V_iload C dX1_compute_54 4 rfl ?_
    refine V_cVNi4 C xN_ok (kX0_paysFor _ _ _ _ _ hp0 hp1 hp2) ⟨va_cnB 4 C.2.2.1 ggX1_compute_X0_paysFor rfl rfl rfl (C.2.2.2.2.2.2.2.2.2.2 _ nwX1_170) (C.2.2.1 _ hiX1_compute_X0) hdX0_paysFor ⟨Nat.le_of_ble_eq_true rfl, Nat.le_of_ble_eq_true rfl⟩, C.2.2.1 _ haX1_compute_X0_paysFor, C.2.2.1 _ hbX1_compute_X0_paysFor⟩ 8 rfl rfl (Nat.le_of_ble_eq_true rfl) ⟨(Nat.le_of_ble_eq_true rfl), (Nat.le_of_ble_eq_true rfl)⟩ dX1_compute_56 ?_
    refine V_u (fun u56 hu56 => ?_)
    have hkc56 : kc u56 := by rw [← hu56]; exact kc_X0_paysFor hp2
    refine V_join1 (J := 67) (T := (if (rX0_paysFor u a1 a2 y10 j40) = 0 then 1 else 0)) (fun j67 hj67 => ?_) (fun J67 => ?_)
    ·
      refine Vm_zast C 6 1 rfl rfl hp1 (by rw [← hj67]; (repeat' split) <;> rfl) wC_s6 dX1_compute_67 ?_
      refine V_u (fun u67 hu67 => ?_)
      have hkc67 : kc u67 := by rw [← hu67]; exact hkc56
      refine V_aload_n C dX1_compute_68 rfl 0 rfl ?_
      refine V_get (Cn := RX1) (T := TX1) (N := 12) C hinX1_compute_X1 0 rfl rfl 5 (by decide) hfX1_compute_25 rfl rfl dX1_compute_69 ?_
      refine V_iload_n C dX1_compute_72 rfl 2 rfl ?_
      refine Vm_zald C 6 1 rfl rfl hp1 dX1_compute_73 ?_
      refine V_if_ne (tgt := 118) C dX1_compute_74 (by decide) (fun h74 => ?_) (fun h74 => ?_)
      ·
        subst hu67
        subst hj67
        subst hu56
        subst hj40
        subst hy10
        exact V_vret C rfl ((if_neg h74).trans rfl) dX1_compute_118
      ·
        refine V_aload_n C dX1_compute_77 rfl 0 rfl ?_
        refine V_iload_n C dX1_compute_78 rfl 2 rfl ?_
        refine V_aload_n C dX1_compute_79 rfl 0 rfl ?_
        refine V_get (Cn := RX1) (T := TX1) (N := 12) C hinX1_compute_X1 0 rfl rfl 4 (by decide) hfX1_compute_22 rfl rfl dX1_compute_80 ?_
        refine V_cVi2 C xN_ok (kX1_resultOf_v5 _ _ hp1) (cwV 2 C.2.2.1 gX1_compute_X1_resultOf rfl rfl rfl hvX1_resultOf ⟨Nat.le_of_ble_eq_true rfl, Nat.le_of_ble_eq_true rfl⟩) 0 rfl rfl (Nat.le_of_ble_eq_true rfl) ⟨(Nat.le_of_ble_eq_true rfl), (Nat.le_of_ble_eq_true rfl)⟩ dX1_compute_83 ?_
        refine V_top (fun y86 hy86 => ?_)
        refine V_istore (ls' := [(0, .ref (ad 0)), (1, .int a1), (2, .int a2), (3, .int y10), (4, .int j40), (5, .int y86)]) C dX1_compute_86 (by decide) rfl rfl ?_
        refine V_aload_n C dX1_compute_88 rfl 0 rfl ?_
        refine V_get (Cn := RX1) (T := TX1) (N := 12) C hinX1_compute_X1 0 rfl rfl 8 (by decide) hfX1_compute_39 rfl rfl dX1_compute_89 ?_
        refine V_iload_n C dX1_compute_92 rfl 2 rfl ?_
        refine V_iload C dX1_compute_93 5 rfl ?_
        refine V_aload_n C dX1_compute_95 rfl 0 rfl ?_
        refine V_get (Cn := RX1) (T := TX1) (N := 12) C hinX1_compute_X1 0 rfl rfl 4 (by decide) hfX1_compute_22 rfl rfl dX1_compute_96 ?_
        refine V_iload_n C dX1_compute_99 rfl 2 rfl ?_
        refine Vm_iald C 5 0 rfl rfl hp1 dX1_compute_100 ?_
        refine V_join2 (J := 109) (T := (if y86 = (mrd u67 5 a2) then 0 else 1)) (fun j109 hj109 => ?_) (fun J109 => ?_)
        ·
          refine Vm_zast C 9 1 rfl rfl hp1 (by rw [← hj109]; (repeat' split) <;> rfl) wC_s9 dX1_compute_109 ?_
          refine V_u (fun u109 hu109 => ?_)
          have hkc109 : kc u109 := by rw [← hu109]; exact hkc67
          refine V_aload_n C dX1_compute_110 rfl 0 rfl ?_
          refine V_get (Cn := RX1) (T := TX1) (N := 12) C hinX1_compute_X1 0 rfl rfl 4 (by decide) hfX1_compute_22 rfl rfl dX1_compute_111 ?_
          refine V_iload_n C dX1_compute_114 rfl 2 rfl ?_
          refine V_iload C dX1_compute_115 5 rfl ?_
          refine Vm_iast C 5 0 rfl rfl hp1 wC_s5 dX1_compute_117 ?_
          refine V_u (fun u117 hu117 => ?_)
          have hkc117 : kc u117 := by rw [← hu117]; exact hkc109
          subst hu117
          subst hu109
          subst hj109
          subst hy86
          subst hu67
          subst hj67
          subst hu56
          subst hj40
          subst hy10
          exact V_vret C rfl ((if_pos h74).trans rfl) dX1_compute_118
        ·
          refine V_icmp_eq (tgt := 108) C dX1_compute_101 (by decide) (fun h101 => ?_) (fun h101 => ?_)
          ·
            refine V_iconst (v := 0) C dX1_compute_108 (by decide) ?_
            exact J109 _ ((if_pos h101).trans rfl)
          ·
            refine V_iconst (v := 1) C dX1_compute_104 (by decide) ?_
            refine V_goto (tgt := 109) C dX1_compute_105 (by decide) ?_
            exact J109 _ ((if_neg h101).trans rfl)
    ·
      refine V_if_ne (tgt := 66) C dX1_compute_59 (by decide) (fun h59 => ?_) (fun h59 => ?_)
      ·
        refine V_iconst (v := 0) C dX1_compute_66 (by decide) ?_
        exact J67 _ ((if_neg h59).trans rfl)
      ·
        refine V_iconst (v := 1) C dX1_compute_62 (by decide) ?_
        refine V_goto (tgt := 67) C dX1_compute_63 (by decide) ?_
        exact J67 _ ((if_pos h59).trans rfl)
  ·
    refine V_icmp_ne (tgt := 30) C dX1_compute_23 (by decide) (fun h23 => ?_) (fun h23 => ?_)
    ·
      refine V_iload_n C dX1_compute_30 rfl 2 rfl ?_
      refine V_aload_n C dX1_compute_31 rfl 0 rfl ?_
      refine V_get (Cn := RX1) (T := TX1) (N := 12) C hinX1_compute_X1 0 rfl rfl 2 (by decide) hfX1_compute_16 rfl rfl dX1_compute_32 ?_
      refine V_iload_n C dX1_compute_35 rfl 2 rfl ?_
      refine Vm_iald C 3 0 rfl rfl hp1 dX1_compute_36 ?_
      refine V_cSi2 C xN_ok (kX1_meteredRead _ _ _) (va_cwS 2 C.2.2.1 gX1_compute_X1_meteredRead rfl rfl rfl hdX1_meteredRead ⟨Nat.le_of_ble_eq_true rfl, Nat.le_of_ble_eq_true rfl⟩) (Nat.le_of_ble_eq_true rfl) ⟨(Nat.le_of_ble_eq_true rfl), (Nat.le_of_ble_eq_true rfl)⟩ dX1_compute_37 ?_
      exact J40 _ ((if_neg h23).trans rfl)
    ·
      refine V_iconst (v := (-1)) C dX1_compute_26 (by decide) ?_
      refine V_goto (tgt := 40) C dX1_compute_27 (by decide) ?_
      exact J40 _ ((if_pos h23).trans rfl)
theorem hdX1_readsOneOf : yX1_readsOneOf.cls ≠ "java/lang/invoke/MethodHandle" ∧ yX1_readsOneOf.cls ≠ "java/lang/invoke/VarHandle" ∧ (parseMethodDescriptor yX1_readsOneOf.desc).map (fun d => d.parameters.length) = some 2 := by decide +kernel
theorem hvX1_readsOneOf : yX1_readsOneOf.cls = RX1 ∧ yX1_readsOneOf.cls ≠ "java/lang/invoke/MethodHandle" ∧ yX1_readsOneOf.cls ≠ "java/lang/invoke/VarHandle" ∧ (parseMethodDescriptor yX1_readsOneOf.desc).map (fun d => d.parameters.length) = some 2 := by decide +kernel
theorem hinX1_readsOneOf_X1 : ∀ w ∈ u_ws RX1 TX1 12, w ∈ wsX1_readsOneOf := by decide +kernel
theorem hfX1_readsOneOf_13 : Cond.fieldLink RX1 13 "MeteredSheets" "ones" "[I" ∈ wsX1_readsOneOf := by decide +kernel
theorem hfX1_readsOneOf_16 : Cond.fieldLink RX1 16 "MeteredSheets" "others" "[I" ∈ wsX1_readsOneOf := by decide +kernel
set_option maxHeartbeats 4000000 in
theorem kX1_readsOneOf_v9 {l : Launch} {D : va_G} {cI cZ : ClassId} {ad : Nat → Nat} (u : vM) (a1 : Int32) (hp0 : vp_in a1 24) : mI D vwCl (tyF cI cZ) xN (wC cI cZ ad) l yX1_readsOneOf wsX1_readsOneOf rmX1_readsOneOf [.ref (ad 0), .int a1, .ref (ad 9)] u (rX1_readsOneOf_v9 u a1) u := by
  refine mI_of (cc := cX1_readsOneOf) (maxL := 3) (ret := (some .boolean)) (own := RX1) rfl (by decide) rfl (wC_ok cI cZ ad) (Nat.le_of_ble_eq_true rfl) (fun p e s m args below meth c A C => ?_)
  refine V_ls (ls' := [(0, .ref (ad 0)), (1, .int a1), (2, .ref (ad 9))]) rfl ?_
  refine V_aload_n C dX1_readsOneOf_0 rfl 0 rfl ?_
  refine V_get (Cn := RX1) (T := TX1) (N := 12) C hinX1_readsOneOf_X1 0 rfl rfl 1 (by decide) hfX1_readsOneOf_13 rfl rfl dX1_readsOneOf_1 ?_
  refine V_iload_n C dX1_readsOneOf_4 rfl 1 rfl ?_
  refine Vm_iald C 2 0 rfl rfl hp0 dX1_readsOneOf_5 ?_
  refine V_aload_n C dX1_readsOneOf_6 rfl 2 rfl ?_
  refine V_cSi2 C xN_ok (kX1_isIn_v9 _ _) (va_cwS 2 C.2.2.1 gX1_readsOneOf_X1_isIn rfl rfl rfl hdX1_isIn ⟨Nat.le_of_ble_eq_true rfl, Nat.le_of_ble_eq_true rfl⟩) (Nat.le_of_ble_eq_true rfl) ⟨(Nat.le_of_ble_eq_true rfl), (Nat.le_of_ble_eq_true rfl)⟩ dX1_readsOneOf_7 ?_
  refine V_join1 (J := 31) (T := (if (rX1_isIn_v9 u (mrd u 2 a1)) = 0 then (if (rX1_isIn_v9 u (mrd u 3 a1)) = 0 then 0 else 1) else 1)) (fun j31 hj31 => ?_) (fun J31 => ?_)
  ·
    subst hj31
    exact V_iret C rfl (by (repeat' split) <;> rfl) rfl rfl dX1_readsOneOf_31
  ·
    refine V_if_ne (tgt := 26) C dX1_readsOneOf_10 (by decide) (fun h10 => ?_) (fun h10 => ?_)
    ·
      refine V_iconst (v := 1) C dX1_readsOneOf_26 (by decide) ?_
      refine V_goto (tgt := 31) C dX1_readsOneOf_27 (by decide) ?_
      exact J31 _ ((if_neg h10).trans rfl)
    ·
      refine V_aload_n C dX1_readsOneOf_13 rfl 0 rfl ?_
      refine V_get (Cn := RX1) (T := TX1) (N := 12) C hinX1_readsOneOf_X1 0 rfl rfl 2 (by decide) hfX1_readsOneOf_16 rfl rfl dX1_readsOneOf_14 ?_
      refine V_iload_n C dX1_readsOneOf_17 rfl 1 rfl ?_
      refine Vm_iald C 3 0 rfl rfl hp0 dX1_readsOneOf_18 ?_
      refine V_aload_n C dX1_readsOneOf_19 rfl 2 rfl ?_
      refine V_cSi2 C xN_ok (kX1_isIn_v9 _ _) (va_cwS 2 C.2.2.1 gX1_readsOneOf_X1_isIn rfl rfl rfl hdX1_isIn ⟨Nat.le_of_ble_eq_true rfl, Nat.le_of_ble_eq_true rfl⟩) (Nat.le_of_ble_eq_true rfl) ⟨(Nat.le_of_ble_eq_true rfl), (Nat.le_of_ble_eq_true rfl)⟩ dX1_readsOneOf_20 ?_
      refine V_if_eq (tgt := 30) C dX1_readsOneOf_23 (by decide) (fun h23 => ?_) (fun h23 => ?_)
      ·
        refine V_iconst (v := 0) C dX1_readsOneOf_30 (by decide) ?_
        exact J31 _ ((if_pos h10).trans ((if_pos h23).trans rfl))
      ·
        refine V_iconst (v := 1) C dX1_readsOneOf_26 (by decide) ?_
        refine V_goto (tgt := 31) C dX1_readsOneOf_27 (by decide) ?_
        exact J31 _ ((if_pos h10).trans ((if_neg h23).trans rfl))
set_option maxHeartbeats 4000000 in
theorem kX1_readsOneOf_v11 {l : Launch} {D : va_G} {cI cZ : ClassId} {ad : Nat → Nat} (u : vM) (a1 : Int32) (hp0 : vp_in a1 24) : mI D vwCl (tyF cI cZ) xN (wC cI cZ ad) l yX1_readsOneOf wsX1_readsOneOf rmX1_readsOneOf [.ref (ad 0), .int a1, .ref (ad 11)] u (rX1_readsOneOf_v11 u a1) u := by
  refine mI_of (cc := cX1_readsOneOf) (maxL := 3) (ret := (some .boolean)) (own := RX1) rfl (by decide) rfl (wC_ok cI cZ ad) (Nat.le_of_ble_eq_true rfl) (fun p e s m args below meth c A C => ?_)
  refine V_ls (ls' := [(0, .ref (ad 0)), (1, .int a1), (2, .ref (ad 11))]) rfl ?_
  refine V_aload_n C dX1_readsOneOf_0 rfl 0 rfl ?_
  refine V_get (Cn := RX1) (T := TX1) (N := 12) C hinX1_readsOneOf_X1 0 rfl rfl 1 (by decide) hfX1_readsOneOf_13 rfl rfl dX1_readsOneOf_1 ?_
  refine V_iload_n C dX1_readsOneOf_4 rfl 1 rfl ?_
  refine Vm_iald C 2 0 rfl rfl hp0 dX1_readsOneOf_5 ?_
  refine V_aload_n C dX1_readsOneOf_6 rfl 2 rfl ?_
  refine V_cSi2 C xN_ok (kX1_isIn_v11 _ _) (va_cwS 2 C.2.2.1 gX1_readsOneOf_X1_isIn rfl rfl rfl hdX1_isIn ⟨Nat.le_of_ble_eq_true rfl, Nat.le_of_ble_eq_true rfl⟩) (Nat.le_of_ble_eq_true rfl) ⟨(Nat.le_of_ble_eq_true rfl), (Nat.le_of_ble_eq_true rfl)⟩ dX1_readsOneOf_7 ?_
  refine V_join1 (J := 31) (T := (if (rX1_isIn_v11 u (mrd u 2 a1)) = 0 then (if (rX1_isIn_v11 u (mrd u 3 a1)) = 0 then 0 else 1) else 1)) (fun j31 hj31 => ?_) (fun J31 => ?_)
  ·
    subst hj31
    exact V_iret C rfl (by (repeat' split) <;> rfl) rfl rfl dX1_readsOneOf_31
  ·
    refine V_if_ne (tgt := 26) C dX1_readsOneOf_10 (by decide) (fun h10 => ?_) (fun h10 => ?_)
    ·
      refine V_iconst (v := 1) C dX1_readsOneOf_26 (by decide) ?_
      refine V_goto (tgt := 31) C dX1_readsOneOf_27 (by decide) ?_
      exact J31 _ ((if_neg h10).trans rfl)
    ·
      refine V_aload_n C dX1_readsOneOf_13 rfl 0 rfl ?_
      refine V_get (Cn := RX1) (T := TX1) (N := 12) C hinX1_readsOneOf_X1 0 rfl rfl 2 (by decide) hfX1_readsOneOf_16 rfl rfl dX1_readsOneOf_14 ?_
      refine V_iload_n C dX1_readsOneOf_17 rfl 1 rfl ?_
      refine Vm_iald C 3 0 rfl rfl hp0 dX1_readsOneOf_18 ?_
      refine V_aload_n C dX1_readsOneOf_19 rfl 2 rfl ?_
      refine V_cSi2 C xN_ok (kX1_isIn_v11 _ _) (va_cwS 2 C.2.2.1 gX1_readsOneOf_X1_isIn rfl rfl rfl hdX1_isIn ⟨Nat.le_of_ble_eq_true rfl, Nat.le_of_ble_eq_true rfl⟩) (Nat.le_of_ble_eq_true rfl) ⟨(Nat.le_of_ble_eq_true rfl), (Nat.le_of_ble_eq_true rfl)⟩ dX1_readsOneOf_20 ?_
      refine V_if_eq (tgt := 30) C dX1_readsOneOf_23 (by decide) (fun h23 => ?_) (fun h23 => ?_)
      ·
        refine V_iconst (v := 0) C dX1_readsOneOf_30 (by decide) ?_
        exact J31 _ ((if_pos h10).trans ((if_pos h23).trans rfl))
      ·
        refine V_iconst (v := 1) C dX1_readsOneOf_26 (by decide) ?_
        refine V_goto (tgt := 31) C dX1_readsOneOf_27 (by decide) ?_
        exact J31 _ ((if_pos h10).trans ((if_neg h23).trans rfl))
theorem hdX1_goThrough : yX1_goThrough.cls ≠ "java/lang/invoke/MethodHandle" ∧ yX1_goThrough.cls ≠ "java/lang/invoke/VarHandle" ∧ (parseMethodDescriptor yX1_goThrough.desc).map (fun d => d.parameters.length) = some 2 := by decide +kernel
theorem hvX1_goThrough : yX1_goThrough.cls = RX1 ∧ yX1_goThrough.cls ≠ "java/lang/invoke/MethodHandle" ∧ yX1_goThrough.cls ≠ "java/lang/invoke/VarHandle" ∧ (parseMethodDescriptor yX1_goThrough.desc).map (fun d => d.parameters.length) = some 2 := by decide +kernel
theorem hinX1_goThrough_X1 : ∀ w ∈ u_ws RX1 TX1 12, w ∈ wsX1_goThrough := by decide +kernel
theorem hfX1_goThrough_29 : Cond.fieldLink RX1 29 "MeteredSheets" "order" "[I" ∈ wsX1_goThrough := by decide +kernel
theorem hfX1_goThrough_39 : Cond.fieldLink RX1 39 "MeteredSheets" "changed" "[Z" ∈ wsX1_goThrough := by decide +kernel
theorem hfX1_goThrough_25 : Cond.fieldLink RX1 25 "MeteredSheets" "marked" "[Z" ∈ wsX1_goThrough := by decide +kernel
set_option maxHeartbeats 4000000 in
theorem qX1_goThrough_5 (C : vC p s m args meth c D vwCl (tyF cI cZ) xN A (wC cI cZ ad) cX1_goThrough RX1 wsX1_goThrough 6 (some .int)) {Q : State → Prop} (a1 : Int32) (a2 : Int32) (hp0 : vp_in a1 5) : ∀ (n k : Nat), k + n = 24 → ∀ (u : vM) (x3 : Int32), kc u → (∀ r : vM × Int32, lpX1_goThrough_5 a1 a2 n k u x3 = r → kc r.1 → V p l e rmX1_goThrough s m args below meth c D vwCl A (wC cI cZ ad) 6 0 0 Q r.1 72 [(0, .ref (ad 0)), (1, .int a1), (2, .int a2), (3, .int r.2), (4, .int (nI 24))] []) → V p l e rmX1_goThrough s m args below meth c D vwCl A (wC cI cZ ad) 6 0 0 Q u 5 [(0, .ref (ad 0)), (1, .int a1), (2, .int a2), (3, .int x3), (4, .int (nI k))] [] := by
  intro n
  induction n with
  | zero =>
    intro k hk u x3 hi0 KK
    obtain rfl : k = 24 := by omega
    refine V_iload C dX1_goThrough_5 4 rfl ?_
    refine V_bipush (v := 24) C dX1_goThrough_7 (by decide) ?_
    refine V_icmp_ge (tgt := 72) C dX1_goThrough_9 (by decide) (fun _ => ?_) (fun h => absurd (by decide : (24 : Int32) ≤ nI 24) h)
    exact KK _ rfl hi0
  | succ n ih =>
    intro k hk u x3 hi0 KK
    have hkB : k < 24 := by omega
    refine V_iload C dX1_goThrough_5 4 rfl ?_
    refine V_bipush (v := 24) C dX1_goThrough_7 (by decide) ?_
    refine V_icmp_ge (tgt := 72) C dX1_goThrough_9 (by decide) (fun h => absurd h (nI_ge hkB (by decide))) (fun _ => ?_)
    refine V_aload_n C dX1_goThrough_12 rfl 0 rfl ?_
    refine V_get (Cn := RX1) (T := TX1) (N := 12) C hinX1_goThrough_X1 0 rfl rfl 6 (by decide) hfX1_goThrough_29 rfl rfl dX1_goThrough_13 ?_
    refine V_iload C dX1_goThrough_16 4 rfl ?_
    refine Vm_iald C 7 0 rfl rfl (vp_in_nI hkB (by decide)) dX1_goThrough_18 ?_
    refine V_top (fun y19 hy19 => ?_)
    refine V_istore (ls' := [(0, .ref (ad 0)), (1, .int a1), (2, .int a2), (3, .int x3), (4, .int (nI k)), (5, .int y19)]) C dX1_goThrough_19 (by decide) rfl rfl ?_
    refine V_iload C dX1_goThrough_21 5 rfl ?_
    refine V_cSi1 C xN_ok (kX1_isCell _ _) (va_cwS 1 C.2.2.1 gX1_goThrough_X1_isCell rfl rfl rfl hdX1_isCell ⟨Nat.le_of_ble_eq_true rfl, Nat.le_of_ble_eq_true rfl⟩) (Nat.le_of_ble_eq_true rfl) ⟨(Nat.le_of_ble_eq_true rfl), (Nat.le_of_ble_eq_true rfl)⟩ dX1_goThrough_23 ?_
    refine V_if_eq (tgt := 66) C dX1_goThrough_26 (by decide) (fun h26 => ?_) (fun h26 => ?_)
    ·
      refine V_iinc (v := (nI (k + 1))) (ls' := [(0, .ref (ad 0)), (1, .int a1), (2, .int a2), (3, .int x3), (4, .int (nI (k + 1))), (5, .int y19)]) C dX1_goThrough_66 4 rfl (nI_1 k) (by decide) rfl rfl ?_
      refine V_goto (tgt := 5) C dX1_goThrough_69 (by decide) ?_
      subst hy19
      refine V_sub (ls' := _) [0, 1, 2, 3, 4] rfl ?_
      exact ih (k + 1) (by omega) _ _ hi0 (fun r hr => KK r (((if_pos h26).trans rfl).trans hr))
    ·
      refine V_aload_n C dX1_goThrough_29 rfl 0 rfl ?_
      refine V_iload C dX1_goThrough_30 5 rfl ?_
      refine V_aload_n C dX1_goThrough_32 rfl 0 rfl ?_
      refine V_get (Cn := RX1) (T := TX1) (N := 12) C hinX1_goThrough_X1 0 rfl rfl 8 (by decide) hfX1_goThrough_39 rfl rfl dX1_goThrough_33 ?_
      refine V_cVi2 C xN_ok (kX1_readsOneOf_v9 _ _ (vqX1_isCell h26)) (cwV 2 C.2.2.1 gX1_goThrough_X1_readsOneOf rfl rfl rfl hvX1_readsOneOf ⟨Nat.le_of_ble_eq_true rfl, Nat.le_of_ble_eq_true rfl⟩) 0 rfl rfl (Nat.le_of_ble_eq_true rfl) ⟨(Nat.le_of_ble_eq_true rfl), (Nat.le_of_ble_eq_true rfl)⟩ dX1_goThrough_36 ?_
      refine V_if_ne (tgt := 56) C dX1_goThrough_39 (by decide) (fun h39 => ?_) (fun h39 => ?_)
      ·
        refine V_aload_n C dX1_goThrough_56 rfl 0 rfl ?_
        refine V_iload_n C dX1_goThrough_57 rfl 1 rfl ?_
        refine V_iload C dX1_goThrough_58 5 rfl ?_
        refine V_cVv2 C xN_ok (kX1_compute _ _ _ hp0 (vqX1_isCell h26) hi0) (cwV 2 C.2.2.1 gX1_goThrough_X1_compute rfl rfl rfl hvX1_compute ⟨Nat.le_of_ble_eq_true rfl, Nat.le_of_ble_eq_true rfl⟩) 0 rfl rfl (Nat.le_of_ble_eq_true rfl) ⟨(Nat.le_of_ble_eq_true rfl), (Nat.le_of_ble_eq_true rfl)⟩ dX1_goThrough_60 ?_
        refine V_u (fun u60 hu60 => ?_)
        have hkc60 : kc u60 := by rw [← hu60]; exact kc_X1_compute hi0
        refine V_iinc (v := (x3 + 1)) (ls' := [(0, .ref (ad 0)), (1, .int a1), (2, .int a2), (3, .int (x3 + 1)), (4, .int (nI k)), (5, .int y19)]) C dX1_goThrough_63 3 rfl rfl (by decide) rfl rfl ?_
        refine V_iinc (v := (nI (k + 1))) (ls' := [(0, .ref (ad 0)), (1, .int a1), (2, .int a2), (3, .int (x3 + 1)), (4, .int (nI (k + 1))), (5, .int y19)]) C dX1_goThrough_66 4 rfl (nI_1 k) (by decide) rfl rfl ?_
        refine V_goto (tgt := 5) C dX1_goThrough_69 (by decide) ?_
        subst hu60
        subst hy19
        refine V_sub (ls' := _) [0, 1, 2, 3, 4] rfl ?_
        exact ih (k + 1) (by omega) _ _ hkc60 (fun r hr => KK r (((if_neg h26).trans ((if_neg h39).trans rfl)).trans hr))
      ·
        refine V_iload_n C dX1_goThrough_42 rfl 2 rfl ?_
        refine V_if_eq (tgt := 66) C dX1_goThrough_43 (by decide) (fun h43 => ?_) (fun h43 => ?_)
        ·
          refine V_iinc (v := (nI (k + 1))) (ls' := [(0, .ref (ad 0)), (1, .int a1), (2, .int a2), (3, .int x3), (4, .int (nI (k + 1))), (5, .int y19)]) C dX1_goThrough_66 4 rfl (nI_1 k) (by decide) rfl rfl ?_
          refine V_goto (tgt := 5) C dX1_goThrough_69 (by decide) ?_
          subst hy19
          refine V_sub (ls' := _) [0, 1, 2, 3, 4] rfl ?_
          exact ih (k + 1) (by omega) _ _ hi0 (fun r hr => KK r (((if_neg h26).trans ((if_pos h39).trans ((if_pos h43).trans rfl))).trans hr))
        ·
          refine V_aload_n C dX1_goThrough_46 rfl 0 rfl ?_
          refine V_get (Cn := RX1) (T := TX1) (N := 12) C hinX1_goThrough_X1 0 rfl rfl 5 (by decide) hfX1_goThrough_25 rfl rfl dX1_goThrough_47 ?_
          refine V_iload C dX1_goThrough_50 5 rfl ?_
          refine Vm_zald C 6 1 rfl rfl (vqX1_isCell h26) dX1_goThrough_52 ?_
          refine V_if_eq (tgt := 66) C dX1_goThrough_53 (by decide) (fun h53 => ?_) (fun h53 => ?_)
          ·
            refine V_iinc (v := (nI (k + 1))) (ls' := [(0, .ref (ad 0)), (1, .int a1), (2, .int a2), (3, .int x3), (4, .int (nI (k + 1))), (5, .int y19)]) C dX1_goThrough_66 4 rfl (nI_1 k) (by decide) rfl rfl ?_
            refine V_goto (tgt := 5) C dX1_goThrough_69 (by decide) ?_
            subst hy19
            refine V_sub (ls' := _) [0, 1, 2, 3, 4] rfl ?_
            exact ih (k + 1) (by omega) _ _ hi0 (fun r hr => KK r (((if_neg h26).trans ((if_pos h39).trans ((if_neg h43).trans ((if_pos h53).trans rfl)))).trans hr))
          ·
            refine V_aload_n C dX1_goThrough_56 rfl 0 rfl ?_
            refine V_iload_n C dX1_goThrough_57 rfl 1 rfl ?_
            refine V_iload C dX1_goThrough_58 5 rfl ?_
            refine V_cVv2 C xN_ok (kX1_compute _ _ _ hp0 (vqX1_isCell h26) hi0) (cwV 2 C.2.2.1 gX1_goThrough_X1_compute rfl rfl rfl hvX1_compute ⟨Nat.le_of_ble_eq_true rfl, Nat.le_of_ble_eq_true rfl⟩) 0 rfl rfl (Nat.le_of_ble_eq_true rfl) ⟨(Nat.le_of_ble_eq_true rfl), (Nat.le_of_ble_eq_true rfl)⟩ dX1_goThrough_60 ?_
            refine V_u (fun u60 hu60 => ?_)
            have hkc60 : kc u60 := by rw [← hu60]; exact kc_X1_compute hi0
            refine V_iinc (v := (x3 + 1)) (ls' := [(0, .ref (ad 0)), (1, .int a1), (2, .int a2), (3, .int (x3 + 1)), (4, .int (nI k)), (5, .int y19)]) C dX1_goThrough_63 3 rfl rfl (by decide) rfl rfl ?_
            refine V_iinc (v := (nI (k + 1))) (ls' := [(0, .ref (ad 0)), (1, .int a1), (2, .int a2), (3, .int (x3 + 1)), (4, .int (nI (k + 1))), (5, .int y19)]) C dX1_goThrough_66 4 rfl (nI_1 k) (by decide) rfl rfl ?_
            refine V_goto (tgt := 5) C dX1_goThrough_69 (by decide) ?_
            subst hu60
            subst hy19
            refine V_sub (ls' := _) [0, 1, 2, 3, 4] rfl ?_
            exact ih (k + 1) (by omega) _ _ hkc60 (fun r hr => KK r (((if_neg h26).trans ((if_pos h39).trans ((if_neg h43).trans ((if_neg h53).trans rfl)))).trans hr))
set_option maxHeartbeats 4000000 in
theorem kX1_goThrough {l : Launch} {D : va_G} {cI cZ : ClassId} {ad : Nat → Nat} (u : vM) (a1 : Int32) (a2 : Int32) (hp0 : vp_in a1 5) (hp1 : kc u) : mI D vwCl (tyF cI cZ) xN (wC cI cZ ad) l yX1_goThrough wsX1_goThrough rmX1_goThrough [.ref (ad 0), .int a1, .int a2] u (rX1_goThrough u a1 a2) (uX1_goThrough u a1 a2) := by
  refine mI_of (cc := cX1_goThrough) (maxL := 6) (ret := (some .int)) (own := RX1) rfl (by decide) rfl (wC_ok cI cZ ad) (Nat.le_of_ble_eq_true rfl) (fun p e s m args below meth c A C => ?_)
  refine V_ls (ls' := [(0, .ref (ad 0)), (1, .int a1), (2, .int a2)]) rfl ?_
  refine V_iconst (v := 0) C dX1_goThrough_0 (by decide) ?_
  refine V_istore_n (ls' := [(0, .ref (ad 0)), (1, .int a1), (2, .int a2), (3, .int 0)]) C dX1_goThrough_1 rfl (by decide) rfl rfl ?_
  refine V_iconst (v := 0) C dX1_goThrough_2 (by decide) ?_
  refine V_istore (ls' := [(0, .ref (ad 0)), (1, .int a1), (2, .int a2), (3, .int 0), (4, .int 0)]) C dX1_goThrough_3 (by decide) rfl rfl ?_
  refine V_sub (ls' := [(0, .ref (ad 0)), (1, .int a1), (2, .int a2), (3, .int 0), (4, .int 0)]) [0, 1, 2, 3, 4] rfl ?_
  refine qX1_goThrough_5 C a1 a2 hp0 24 0 (by decide) u 0 hp1 (fun r5 hr5 hi0_5 => ?_)
  refine V_iload_n C dX1_goThrough_72 rfl 3 rfl ?_
  subst hr5
  exact V_iret C rfl (vp_nar_int _) rfl rfl dX1_goThrough_73
theorem hdX1_giveFormula : yX1_giveFormula.cls ≠ "java/lang/invoke/MethodHandle" ∧ yX1_giveFormula.cls ≠ "java/lang/invoke/VarHandle" ∧ (parseMethodDescriptor yX1_giveFormula.desc).map (fun d => d.parameters.length) = some 6 := by decide +kernel
theorem hvX1_giveFormula : yX1_giveFormula.cls = RX1 ∧ yX1_giveFormula.cls ≠ "java/lang/invoke/MethodHandle" ∧ yX1_giveFormula.cls ≠ "java/lang/invoke/VarHandle" ∧ (parseMethodDescriptor yX1_giveFormula.desc).map (fun d => d.parameters.length) = some 6 := by decide +kernel
theorem hinX1_giveFormula_X1 : ∀ w ∈ u_ws RX1 TX1 12, w ∈ wsX1_giveFormula := by decide +kernel
theorem hfX1_giveFormula_9 : Cond.fieldLink RX1 9 "MeteredSheets" "kinds" "[I" ∈ wsX1_giveFormula := by decide +kernel
theorem hfX1_giveFormula_13 : Cond.fieldLink RX1 13 "MeteredSheets" "ones" "[I" ∈ wsX1_giveFormula := by decide +kernel
theorem hfX1_giveFormula_16 : Cond.fieldLink RX1 16 "MeteredSheets" "others" "[I" ∈ wsX1_giveFormula := by decide +kernel
theorem hfX1_giveFormula_19 : Cond.fieldLink RX1 19 "MeteredSheets" "numbers" "[I" ∈ wsX1_giveFormula := by decide +kernel
set_option maxHeartbeats 4000000 in
theorem kX1_giveFormula {l : Launch} {D : va_G} {cI cZ : ClassId} {ad : Nat → Nat} (u : vM) (a1 : Int32) (a2 : Int32) (a3 : Int32) (a4 : Int32) (a5 : Int32) (a6 : Int32) (hp0 : vp_in a1 5) (hp1 : vp_in a2 24) (hp2 : kc u) : mI D vwCl (tyF cI cZ) xN (wC cI cZ ad) l yX1_giveFormula wsX1_giveFormula rmX1_giveFormula [.ref (ad 0), .int a1, .int a2, .int a3, .int a4, .int a5, .int a6] u (rX1_giveFormula u a1 a2 a3 a4 a5 a6) (uX1_giveFormula u a1 a2 a3 a4 a5 a6) := by
  refine mI_of (cc := cX1_giveFormula) (maxL := 7) (ret := (some .int)) (own := RX1) rfl (by decide) rfl (wC_ok cI cZ ad) (Nat.le_of_ble_eq_true rfl) (fun p e s m args below meth c A C => ?_)
  refine V_ls (ls' := [(0, .ref (ad 0)), (1, .int a1), (2, .int a2), (3, .int a3), (4, .int a4), (5, .int a5), (6, .int a6)]) rfl ?_
  refine V_aload_n C dX1_giveFormula_0 rfl 0 rfl ?_
  refine V_get (Cn := RX1) (T := TX1) (N := 12) C hinX1_giveFormula_X1 0 rfl rfl 0 (by decide) hfX1_giveFormula_9 rfl rfl dX1_giveFormula_1 ?_
  refine V_iload_n C dX1_giveFormula_4 rfl 2 rfl ?_
  refine V_iload_n C dX1_giveFormula_5 rfl 3 rfl ?_
  refine Vm_iast C 1 0 rfl rfl hp1 wC_s1 dX1_giveFormula_6 ?_
  refine V_u (fun u6 hu6 => ?_)
  have hkc6 : kc u6 := by rw [← hu6]; exact hp2
  refine V_aload_n C dX1_giveFormula_7 rfl 0 rfl ?_
  refine V_get (Cn := RX1) (T := TX1) (N := 12) C hinX1_giveFormula_X1 0 rfl rfl 1 (by decide) hfX1_giveFormula_13 rfl rfl dX1_giveFormula_8 ?_
  refine V_iload_n C dX1_giveFormula_11 rfl 2 rfl ?_
  refine V_iload C dX1_giveFormula_12 4 rfl ?_
  refine Vm_iast C 2 0 rfl rfl hp1 wC_s2 dX1_giveFormula_14 ?_
  refine V_u (fun u14 hu14 => ?_)
  have hkc14 : kc u14 := by rw [← hu14]; exact hkc6
  refine V_aload_n C dX1_giveFormula_15 rfl 0 rfl ?_
  refine V_get (Cn := RX1) (T := TX1) (N := 12) C hinX1_giveFormula_X1 0 rfl rfl 2 (by decide) hfX1_giveFormula_16 rfl rfl dX1_giveFormula_16 ?_
  refine V_iload_n C dX1_giveFormula_19 rfl 2 rfl ?_
  refine V_iload C dX1_giveFormula_20 5 rfl ?_
  refine Vm_iast C 3 0 rfl rfl hp1 wC_s3 dX1_giveFormula_22 ?_
  refine V_u (fun u22 hu22 => ?_)
  have hkc22 : kc u22 := by rw [← hu22]; exact hkc14
  refine V_aload_n C dX1_giveFormula_23 rfl 0 rfl ?_
  refine V_get (Cn := RX1) (T := TX1) (N := 12) C hinX1_giveFormula_X1 0 rfl rfl 3 (by decide) hfX1_giveFormula_19 rfl rfl dX1_giveFormula_24 ?_
  refine V_iload_n C dX1_giveFormula_27 rfl 2 rfl ?_
  refine V_iload C dX1_giveFormula_28 6 rfl ?_
  refine Vm_iast C 4 0 rfl rfl hp1 wC_s4 dX1_giveFormula_30 ?_
  refine V_u (fun u30 hu30 => ?_)
  have hkc30 : kc u30 := by rw [← hu30]; exact hkc22
  refine V_aload_n C dX1_giveFormula_31 rfl 0 rfl ?_
  refine V_cVv0 C xN_ok (kX1_putInOrder _) (cwV 0 C.2.2.1 gX1_giveFormula_X1_putInOrder rfl rfl rfl hvX1_putInOrder ⟨Nat.le_of_ble_eq_true rfl, Nat.le_of_ble_eq_true rfl⟩) 0 rfl rfl (Nat.le_of_ble_eq_true rfl) ⟨(Nat.le_of_ble_eq_true rfl), (Nat.le_of_ble_eq_true rfl)⟩ dX1_giveFormula_32 ?_
  refine V_u (fun u32 hu32 => ?_)
  have hkc32 : kc u32 := by rw [← hu32]; exact kc_congr (fr_uX1_putInOrder (by decide) (by decide)) hkc30
  refine V_aload_n C dX1_giveFormula_35 rfl 0 rfl ?_
  refine V_cVv0 C xN_ok (kX1_forgetChanges _) (cwV 0 C.2.2.1 gX1_giveFormula_X1_forgetChanges rfl rfl rfl hvX1_forgetChanges ⟨Nat.le_of_ble_eq_true rfl, Nat.le_of_ble_eq_true rfl⟩) 0 rfl rfl (Nat.le_of_ble_eq_true rfl) ⟨(Nat.le_of_ble_eq_true rfl), (Nat.le_of_ble_eq_true rfl)⟩ dX1_giveFormula_36 ?_
  refine V_u (fun u36 hu36 => ?_)
  have hkc36 : kc u36 := by rw [← hu36]; exact kc_congr (fr_uX1_forgetChanges (by decide)) hkc32
  refine V_aload_n C dX1_giveFormula_39 rfl 0 rfl ?_
  refine V_iload_n C dX1_giveFormula_40 rfl 1 rfl ?_
  refine V_iload_n C dX1_giveFormula_41 rfl 2 rfl ?_
  refine V_cVv2 C xN_ok (kX1_compute _ _ _ hp0 hp1 hkc36) (cwV 2 C.2.2.1 gX1_giveFormula_X1_compute rfl rfl rfl hvX1_compute ⟨Nat.le_of_ble_eq_true rfl, Nat.le_of_ble_eq_true rfl⟩) 0 rfl rfl (Nat.le_of_ble_eq_true rfl) ⟨(Nat.le_of_ble_eq_true rfl), (Nat.le_of_ble_eq_true rfl)⟩ dX1_giveFormula_42 ?_
  refine V_u (fun u42 hu42 => ?_)
  have hkc42 : kc u42 := by rw [← hu42]; exact kc_X1_compute hkc36
  refine V_iconst (v := 1) C dX1_giveFormula_45 (by decide) ?_
  refine V_aload_n C dX1_giveFormula_46 rfl 0 rfl ?_
  refine V_iload_n C dX1_giveFormula_47 rfl 1 rfl ?_
  refine V_iconst (v := 0) C dX1_giveFormula_48 (by decide) ?_
  refine V_cVi2 C xN_ok (kX1_goThrough _ _ _ hp0 hkc42) (cwV 2 C.2.2.1 gX1_giveFormula_X1_goThrough rfl rfl rfl hvX1_goThrough ⟨Nat.le_of_ble_eq_true rfl, Nat.le_of_ble_eq_true rfl⟩) 0 rfl rfl (Nat.le_of_ble_eq_true rfl) ⟨(Nat.le_of_ble_eq_true rfl), (Nat.le_of_ble_eq_true rfl)⟩ dX1_giveFormula_49 ?_
  refine V_u (fun u49 hu49 => ?_)
  refine V_iadd C dX1_giveFormula_52 ?_
  subst hu49
  subst hu42
  subst hu36
  subst hu32
  subst hu30
  subst hu22
  subst hu14
  subst hu6
  exact V_iret C rfl (vp_nar_int _) rfl rfl dX1_giveFormula_53
theorem hdX1_setNumber : yX1_setNumber.cls ≠ "java/lang/invoke/MethodHandle" ∧ yX1_setNumber.cls ≠ "java/lang/invoke/VarHandle" ∧ (parseMethodDescriptor yX1_setNumber.desc).map (fun d => d.parameters.length) = some 3 := by decide +kernel
theorem hvX1_setNumber : yX1_setNumber.cls = RX1 ∧ yX1_setNumber.cls ≠ "java/lang/invoke/MethodHandle" ∧ yX1_setNumber.cls ≠ "java/lang/invoke/VarHandle" ∧ (parseMethodDescriptor yX1_setNumber.desc).map (fun d => d.parameters.length) = some 3 := by decide +kernel
theorem hkX1_setNumber_58 : Cond.constant RX1 58 (1000000) ∈ wsX1_setNumber := by decide +kernel
set_option maxHeartbeats 4000000 in
theorem kX1_setNumber {l : Launch} {D : va_G} {cI cZ : ClassId} {ad : Nat → Nat} (u : vM) (a1 : Int32) (a2 : Int32) (a3 : Int32) (hp0 : kc u) (hp1 : xX1_setNumber u a1 a2 a3 = 0) : mI D vwCl (tyF cI cZ) xN (wC cI cZ ad) l yX1_setNumber wsX1_setNumber rmX1_setNumber [.ref (ad 0), .int a1, .int a2, .int a3] u (rX1_setNumber u a1 a2 a3) (uX1_setNumber u a1 a2 a3) := by
  refine mI_of (cc := cX1_setNumber) (maxL := 4) (ret := (some .int)) (own := RX1) rfl (by decide) rfl (wC_ok cI cZ ad) (Nat.le_of_ble_eq_true rfl) (fun p e s m args below meth c A C => ?_)
  refine V_ls (ls' := [(0, .ref (ad 0)), (1, .int a1), (2, .int a2), (3, .int a3)]) rfl ?_
  refine V_iload_n C dX1_setNumber_0 rfl 1 rfl ?_
  refine V_cSi1 C xN_ok (kX1_isUser _ _) (va_cwS 1 C.2.2.1 gX1_setNumber_X1_isUser rfl rfl rfl hdX1_isUser ⟨Nat.le_of_ble_eq_true rfl, Nat.le_of_ble_eq_true rfl⟩) (Nat.le_of_ble_eq_true rfl) ⟨(Nat.le_of_ble_eq_true rfl), (Nat.le_of_ble_eq_true rfl)⟩ dX1_setNumber_1 ?_
  refine V_if_eq (tgt := 23) C dX1_setNumber_4 (by decide) (fun h4 => ?_) (fun h4 => ?_)
  ·
    exact absurd (show (0 : Int32) = 1 from (hp1).symm.trans ((if_pos h4).trans rfl)) (by decide)
  ·
    refine V_iload_n C dX1_setNumber_7 rfl 2 rfl ?_
    refine V_cSi1 C xN_ok (kX1_isCell _ _) (va_cwS 1 C.2.2.1 gX1_setNumber_X1_isCell rfl rfl rfl hdX1_isCell ⟨Nat.le_of_ble_eq_true rfl, Nat.le_of_ble_eq_true rfl⟩) (Nat.le_of_ble_eq_true rfl) ⟨(Nat.le_of_ble_eq_true rfl), (Nat.le_of_ble_eq_true rfl)⟩ dX1_setNumber_8 ?_
    refine V_if_eq (tgt := 23) C dX1_setNumber_11 (by decide) (fun h11 => ?_) (fun h11 => ?_)
    ·
      exact absurd (show (0 : Int32) = 1 from (hp1).symm.trans ((if_neg h4).trans ((if_pos h11).trans rfl))) (by decide)
    ·
      refine V_iload_n C dX1_setNumber_14 rfl 3 rfl ?_
      refine V_ldc (v := 1000000) C hkX1_setNumber_58 dX1_setNumber_15 ?_
      refine V_cSi2 C xN_ok (kX1_isWithin _ _ _) (va_cwS 2 C.2.2.1 gX1_setNumber_X1_isWithin rfl rfl rfl hdX1_isWithin ⟨Nat.le_of_ble_eq_true rfl, Nat.le_of_ble_eq_true rfl⟩) (Nat.le_of_ble_eq_true rfl) ⟨(Nat.le_of_ble_eq_true rfl), (Nat.le_of_ble_eq_true rfl)⟩ dX1_setNumber_17 ?_
      refine V_if_ne (tgt := 33) C dX1_setNumber_20 (by decide) (fun h20 => ?_) (fun h20 => ?_)
      ·
        refine V_aload_n C dX1_setNumber_33 rfl 0 rfl ?_
        refine V_iload_n C dX1_setNumber_34 rfl 1 rfl ?_
        refine V_iload_n C dX1_setNumber_35 rfl 2 rfl ?_
        refine V_iconst (v := 0) C dX1_setNumber_36 (by decide) ?_
        refine V_iconst (v := (-1)) C dX1_setNumber_37 (by decide) ?_
        refine V_iconst (v := (-1)) C dX1_setNumber_38 (by decide) ?_
        refine V_iload_n C dX1_setNumber_39 rfl 3 rfl ?_
        refine V_cVi6 C xN_ok (kX1_giveFormula _ _ _ _ _ _ _ (vqX1_isUser h4) (vqX1_isCell h11) hp0) (cwV 6 C.2.2.1 gX1_setNumber_X1_giveFormula rfl rfl rfl hvX1_giveFormula ⟨Nat.le_of_ble_eq_true rfl, Nat.le_of_ble_eq_true rfl⟩) 0 rfl rfl (Nat.le_of_ble_eq_true rfl) ⟨(Nat.le_of_ble_eq_true rfl), (Nat.le_of_ble_eq_true rfl)⟩ dX1_setNumber_40 ?_
        refine V_u (fun u40 hu40 => ?_)
        subst hu40
        exact V_iret C rfl (vp_nar_int _) ((if_neg h4).trans ((if_neg h11).trans ((if_neg h20).trans rfl))) ((if_neg h4).trans ((if_neg h11).trans ((if_neg h20).trans rfl))) dX1_setNumber_43
      ·
        exact absurd (show (0 : Int32) = 1 from (hp1).symm.trans ((if_neg h4).trans ((if_neg h11).trans ((if_pos h20).trans rfl)))) (by decide)
theorem hdX1_wouldReadItself : yX1_wouldReadItself.cls ≠ "java/lang/invoke/MethodHandle" ∧ yX1_wouldReadItself.cls ≠ "java/lang/invoke/VarHandle" ∧ (parseMethodDescriptor yX1_wouldReadItself.desc).map (fun d => d.parameters.length) = some 3 := by decide +kernel
theorem hvX1_wouldReadItself : yX1_wouldReadItself.cls = RX1 ∧ yX1_wouldReadItself.cls ≠ "java/lang/invoke/MethodHandle" ∧ yX1_wouldReadItself.cls ≠ "java/lang/invoke/VarHandle" ∧ (parseMethodDescriptor yX1_wouldReadItself.desc).map (fun d => d.parameters.length) = some 3 := by decide +kernel
theorem hinX1_wouldReadItself_X1 : ∀ w ∈ u_ws RX1 TX1 12, w ∈ wsX1_wouldReadItself := by decide +kernel
theorem hfX1_wouldReadItself_45 : Cond.fieldLink RX1 45 "MeteredSheets" "reaching" "[Z" ∈ wsX1_wouldReadItself := by decide +kernel
theorem hfX1_wouldReadItself_29 : Cond.fieldLink RX1 29 "MeteredSheets" "order" "[I" ∈ wsX1_wouldReadItself := by decide +kernel
set_option maxHeartbeats 4000000 in
theorem qX1_wouldReadItself_3 (C : vC p s m args meth c D vwCl (tyF cI cZ) xN A (wC cI cZ ad) cX1_wouldReadItself RX1 wsX1_wouldReadItself 6 (some .boolean)) {Q : State → Prop} (a1 : Int32) (a2 : Int32) (a3 : Int32) : ∀ (n k : Nat), k + n = 24 → ∀ (u : vM), (∀ r : vM, lpX1_wouldReadItself_3 a1 n k u = r → V p l e rmX1_wouldReadItself s m args below meth c D vwCl A (wC cI cZ ad) 6 0 0 Q r 34 [(0, .ref (ad 0)), (1, .int a1), (2, .int a2), (3, .int a3), (4, .int (nI 24))] []) → V p l e rmX1_wouldReadItself s m args below meth c D vwCl A (wC cI cZ ad) 6 0 0 Q u 3 [(0, .ref (ad 0)), (1, .int a1), (2, .int a2), (3, .int a3), (4, .int (nI k))] [] := by
  intro n
  induction n with
  | zero =>
    intro k hk u KK
    obtain rfl : k = 24 := by omega
    refine V_iload C dX1_wouldReadItself_3 4 rfl ?_
    refine V_bipush (v := 24) C dX1_wouldReadItself_5 (by decide) ?_
    refine V_icmp_ge (tgt := 34) C dX1_wouldReadItself_7 (by decide) (fun _ => ?_) (fun h => absurd (by decide : (24 : Int32) ≤ nI 24) h)
    exact KK _ rfl
  | succ n ih =>
    intro k hk u KK
    have hkB : k < 24 := by omega
    refine V_iload C dX1_wouldReadItself_3 4 rfl ?_
    refine V_bipush (v := 24) C dX1_wouldReadItself_5 (by decide) ?_
    refine V_icmp_ge (tgt := 34) C dX1_wouldReadItself_7 (by decide) (fun h => absurd h (nI_ge hkB (by decide))) (fun _ => ?_)
    refine V_aload_n C dX1_wouldReadItself_10 rfl 0 rfl ?_
    refine V_get (Cn := RX1) (T := TX1) (N := 12) C hinX1_wouldReadItself_X1 0 rfl rfl 10 (by decide) hfX1_wouldReadItself_45 rfl rfl dX1_wouldReadItself_11 ?_
    refine V_iload C dX1_wouldReadItself_14 4 rfl ?_
    refine V_iload C dX1_wouldReadItself_16 4 rfl ?_
    refine V_iload_n C dX1_wouldReadItself_18 rfl 1 rfl ?_
    refine V_join2 (J := 27) (T := (if (nI k) = a1 then 1 else 0)) (fun j27 hj27 => ?_) (fun J27 => ?_)
    ·
      refine Vm_zast C 11 1 rfl rfl (vp_in_nI hkB (by decide)) (by rw [← hj27]; (repeat' split) <;> rfl) wC_s11 dX1_wouldReadItself_27 ?_
      refine V_u (fun u27 hu27 => ?_)
      refine V_iinc (v := (nI (k + 1))) (ls' := [(0, .ref (ad 0)), (1, .int a1), (2, .int a2), (3, .int a3), (4, .int (nI (k + 1)))]) C dX1_wouldReadItself_28 4 rfl (nI_1 k) (by decide) rfl rfl ?_
      refine V_goto (tgt := 3) C dX1_wouldReadItself_31 (by decide) ?_
      subst hu27
      subst hj27
      exact ih (k + 1) (by omega) _ (fun r hr => KK r (rfl.trans hr))
    ·
      refine V_icmp_ne (tgt := 26) C dX1_wouldReadItself_19 (by decide) (fun h19 => ?_) (fun h19 => ?_)
      ·
        refine V_iconst (v := 0) C dX1_wouldReadItself_26 (by decide) ?_
        exact J27 _ ((if_neg h19).trans rfl)
      ·
        refine V_iconst (v := 1) C dX1_wouldReadItself_22 (by decide) ?_
        refine V_goto (tgt := 27) C dX1_wouldReadItself_23 (by decide) ?_
        exact J27 _ ((if_pos h19).trans rfl)
set_option maxHeartbeats 4000000 in
theorem qX1_wouldReadItself_37 (C : vC p s m args meth c D vwCl (tyF cI cZ) xN A (wC cI cZ ad) cX1_wouldReadItself RX1 wsX1_wouldReadItself 6 (some .boolean)) {Q : State → Prop} (a2 : Int32) (a3 : Int32) : ∀ (n k : Nat), k + n = 24 → ∀ (u : vM), (∀ r : vM, lpX1_wouldReadItself_37 n k u = r → V p l e rmX1_wouldReadItself s m args below meth c D vwCl A (wC cI cZ ad) 6 0 0 Q r 88 [(0, .ref (ad 0)), (2, .int a2), (3, .int a3), (4, .int (nI 24))] []) → V p l e rmX1_wouldReadItself s m args below meth c D vwCl A (wC cI cZ ad) 6 0 0 Q u 37 [(0, .ref (ad 0)), (2, .int a2), (3, .int a3), (4, .int (nI k))] [] := by
  intro n
  induction n with
  | zero =>
    intro k hk u KK
    obtain rfl : k = 24 := by omega
    refine V_iload C dX1_wouldReadItself_37 3 rfl ?_
    refine V_bipush (v := 24) C dX1_wouldReadItself_39 (by decide) ?_
    refine V_icmp_ge (tgt := 88) C dX1_wouldReadItself_41 (by decide) (fun _ => ?_) (fun h => absurd (by decide : (24 : Int32) ≤ nI 24) h)
    exact KK _ rfl
  | succ n ih =>
    intro k hk u KK
    have hkB : k < 24 := by omega
    refine V_iload C dX1_wouldReadItself_37 3 rfl ?_
    refine V_bipush (v := 24) C dX1_wouldReadItself_39 (by decide) ?_
    refine V_icmp_ge (tgt := 88) C dX1_wouldReadItself_41 (by decide) (fun h => absurd h (nI_ge hkB (by decide))) (fun _ => ?_)
    refine V_aload_n C dX1_wouldReadItself_44 rfl 0 rfl ?_
    refine V_get (Cn := RX1) (T := TX1) (N := 12) C hinX1_wouldReadItself_X1 0 rfl rfl 6 (by decide) hfX1_wouldReadItself_29 rfl rfl dX1_wouldReadItself_45 ?_
    refine V_iload C dX1_wouldReadItself_48 3 rfl ?_
    refine Vm_iald C 7 0 rfl rfl (vp_in_nI hkB (by decide)) dX1_wouldReadItself_50 ?_
    refine V_top (fun y51 hy51 => ?_)
    refine V_istore (ls' := [(0, .ref (ad 0)), (2, .int a2), (3, .int a3), (4, .int (nI k)), (5, .int y51)]) C dX1_wouldReadItself_51 (by decide) rfl rfl ?_
    refine V_iload C dX1_wouldReadItself_53 4 rfl ?_
    refine V_cSi1 C xN_ok (kX1_isCell _ _) (va_cwS 1 C.2.2.1 gX1_wouldReadItself_X1_isCell rfl rfl rfl hdX1_isCell ⟨Nat.le_of_ble_eq_true rfl, Nat.le_of_ble_eq_true rfl⟩) (Nat.le_of_ble_eq_true rfl) ⟨(Nat.le_of_ble_eq_true rfl), (Nat.le_of_ble_eq_true rfl)⟩ dX1_wouldReadItself_55 ?_
    refine V_if_eq (tgt := 82) C dX1_wouldReadItself_58 (by decide) (fun h58 => ?_) (fun h58 => ?_)
    ·
      refine V_iinc (v := (nI (k + 1))) (ls' := [(0, .ref (ad 0)), (2, .int a2), (3, .int a3), (4, .int (nI (k + 1))), (5, .int y51)]) C dX1_wouldReadItself_82 3 rfl (nI_1 k) (by decide) rfl rfl ?_
      refine V_goto (tgt := 37) C dX1_wouldReadItself_85 (by decide) ?_
      subst hy51
      refine V_sub (ls' := _) [0, 1, 2, 3] rfl ?_
      exact ih (k + 1) (by omega) _ (fun r hr => KK r (((if_pos h58).trans rfl).trans hr))
    ·
      refine V_aload_n C dX1_wouldReadItself_61 rfl 0 rfl ?_
      refine V_iload C dX1_wouldReadItself_62 4 rfl ?_
      refine V_aload_n C dX1_wouldReadItself_64 rfl 0 rfl ?_
      refine V_get (Cn := RX1) (T := TX1) (N := 12) C hinX1_wouldReadItself_X1 0 rfl rfl 10 (by decide) hfX1_wouldReadItself_45 rfl rfl dX1_wouldReadItself_65 ?_
      refine V_cVi2 C xN_ok (kX1_readsOneOf_v11 _ _ (vqX1_isCell h58)) (cwV 2 C.2.2.1 gX1_wouldReadItself_X1_readsOneOf rfl rfl rfl hvX1_readsOneOf ⟨Nat.le_of_ble_eq_true rfl, Nat.le_of_ble_eq_true rfl⟩) 0 rfl rfl (Nat.le_of_ble_eq_true rfl) ⟨(Nat.le_of_ble_eq_true rfl), (Nat.le_of_ble_eq_true rfl)⟩ dX1_wouldReadItself_68 ?_
      refine V_if_eq (tgt := 82) C dX1_wouldReadItself_71 (by decide) (fun h71 => ?_) (fun h71 => ?_)
      ·
        refine V_iinc (v := (nI (k + 1))) (ls' := [(0, .ref (ad 0)), (2, .int a2), (3, .int a3), (4, .int (nI (k + 1))), (5, .int y51)]) C dX1_wouldReadItself_82 3 rfl (nI_1 k) (by decide) rfl rfl ?_
        refine V_goto (tgt := 37) C dX1_wouldReadItself_85 (by decide) ?_
        subst hy51
        refine V_sub (ls' := _) [0, 1, 2, 3] rfl ?_
        exact ih (k + 1) (by omega) _ (fun r hr => KK r (((if_neg h58).trans ((if_pos h71).trans rfl)).trans hr))
      ·
        refine V_aload_n C dX1_wouldReadItself_74 rfl 0 rfl ?_
        refine V_get (Cn := RX1) (T := TX1) (N := 12) C hinX1_wouldReadItself_X1 0 rfl rfl 10 (by decide) hfX1_wouldReadItself_45 rfl rfl dX1_wouldReadItself_75 ?_
        refine V_iload C dX1_wouldReadItself_78 4 rfl ?_
        refine V_iconst (v := 1) C dX1_wouldReadItself_80 (by decide) ?_
        refine Vm_zast C 11 1 rfl rfl (vqX1_isCell h58) rfl wC_s11 dX1_wouldReadItself_81 ?_
        refine V_u (fun u81 hu81 => ?_)
        refine V_iinc (v := (nI (k + 1))) (ls' := [(0, .ref (ad 0)), (2, .int a2), (3, .int a3), (4, .int (nI (k + 1))), (5, .int y51)]) C dX1_wouldReadItself_82 3 rfl (nI_1 k) (by decide) rfl rfl ?_
        refine V_goto (tgt := 37) C dX1_wouldReadItself_85 (by decide) ?_
        subst hu81
        subst hy51
        refine V_sub (ls' := _) [0, 1, 2, 3] rfl ?_
        exact ih (k + 1) (by omega) _ (fun r hr => KK r (((if_neg h58).trans ((if_neg h71).trans rfl)).trans hr))
set_option maxHeartbeats 4000000 in
theorem kX1_wouldReadItself {l : Launch} {D : va_G} {cI cZ : ClassId} {ad : Nat → Nat} (u : vM) (a1 : Int32) (a2 : Int32) (a3 : Int32) : mI D vwCl (tyF cI cZ) xN (wC cI cZ ad) l yX1_wouldReadItself wsX1_wouldReadItself rmX1_wouldReadItself [.ref (ad 0), .int a1, .int a2, .int a3] u (rX1_wouldReadItself u a1 a2 a3) (uX1_wouldReadItself u a1 a2 a3) := by
  refine mI_of (cc := cX1_wouldReadItself) (maxL := 6) (ret := (some .boolean)) (own := RX1) rfl (by decide) rfl (wC_ok cI cZ ad) (Nat.le_of_ble_eq_true rfl) (fun p e s m args below meth c A C => ?_)
  refine V_ls (ls' := [(0, .ref (ad 0)), (1, .int a1), (2, .int a2), (3, .int a3)]) rfl ?_
  refine V_iconst (v := 0) C dX1_wouldReadItself_0 (by decide) ?_
  refine V_istore (ls' := [(0, .ref (ad 0)), (1, .int a1), (2, .int a2), (3, .int a3), (4, .int 0)]) C dX1_wouldReadItself_1 (by decide) rfl rfl ?_
  refine V_sub (ls' := [(0, .ref (ad 0)), (1, .int a1), (2, .int a2), (3, .int a3), (4, .int 0)]) [0, 1, 2, 3, 4] rfl ?_
  refine qX1_wouldReadItself_3 C a1 a2 a3 24 0 (by decide) u (fun r3 hr3 => ?_)
  refine V_iconst (v := 0) C dX1_wouldReadItself_34 (by decide) ?_
  refine V_istore (ls' := [(0, .ref (ad 0)), (1, .int a1), (2, .int a2), (3, .int a3), (4, .int 0)]) C dX1_wouldReadItself_35 (by decide) rfl rfl ?_
  refine V_sub (ls' := [(0, .ref (ad 0)), (2, .int a2), (3, .int a3), (4, .int 0)]) [0, 2, 3, 4] rfl ?_
  refine qX1_wouldReadItself_37 C a2 a3 24 0 (by decide) r3 (fun r37 hr37 => ?_)
  refine V_iload_n C dX1_wouldReadItself_88 rfl 1 rfl ?_
  refine V_aload_n C dX1_wouldReadItself_89 rfl 0 rfl ?_
  refine V_get (Cn := RX1) (T := TX1) (N := 12) C hinX1_wouldReadItself_X1 0 rfl rfl 10 (by decide) hfX1_wouldReadItself_45 rfl rfl dX1_wouldReadItself_90 ?_
  refine V_cSi2 C xN_ok (kX1_isIn_v11 _ _) (va_cwS 2 C.2.2.1 gX1_wouldReadItself_X1_isIn rfl rfl rfl hdX1_isIn ⟨Nat.le_of_ble_eq_true rfl, Nat.le_of_ble_eq_true rfl⟩) (Nat.le_of_ble_eq_true rfl) ⟨(Nat.le_of_ble_eq_true rfl), (Nat.le_of_ble_eq_true rfl)⟩ dX1_wouldReadItself_93 ?_
  refine V_join1 (J := 115) (T := (if (rX1_isIn_v11 r37 a2) = 0 then (if (rX1_isIn_v11 r37 a3) = 0 then 0 else 1) else 1)) (fun j115 hj115 => ?_) (fun J115 => ?_)
  ·
    subst hj115
    subst hr37
    subst hr3
    exact V_iret C rfl (by (repeat' split) <;> rfl) rfl rfl dX1_wouldReadItself_115
  ·
    refine V_if_ne (tgt := 110) C dX1_wouldReadItself_96 (by decide) (fun h96 => ?_) (fun h96 => ?_)
    ·
      refine V_iconst (v := 1) C dX1_wouldReadItself_110 (by decide) ?_
      refine V_goto (tgt := 115) C dX1_wouldReadItself_111 (by decide) ?_
      exact J115 _ ((if_neg h96).trans rfl)
    ·
      refine V_iload_n C dX1_wouldReadItself_99 rfl 2 rfl ?_
      refine V_aload_n C dX1_wouldReadItself_100 rfl 0 rfl ?_
      refine V_get (Cn := RX1) (T := TX1) (N := 12) C hinX1_wouldReadItself_X1 0 rfl rfl 10 (by decide) hfX1_wouldReadItself_45 rfl rfl dX1_wouldReadItself_101 ?_
      refine V_cSi2 C xN_ok (kX1_isIn_v11 _ _) (va_cwS 2 C.2.2.1 gX1_wouldReadItself_X1_isIn rfl rfl rfl hdX1_isIn ⟨Nat.le_of_ble_eq_true rfl, Nat.le_of_ble_eq_true rfl⟩) (Nat.le_of_ble_eq_true rfl) ⟨(Nat.le_of_ble_eq_true rfl), (Nat.le_of_ble_eq_true rfl)⟩ dX1_wouldReadItself_104 ?_
      refine V_if_eq (tgt := 114) C dX1_wouldReadItself_107 (by decide) (fun h107 => ?_) (fun h107 => ?_)
      ·
        refine V_iconst (v := 0) C dX1_wouldReadItself_114 (by decide) ?_
        exact J115 _ ((if_pos h96).trans ((if_pos h107).trans rfl))
      ·
        refine V_iconst (v := 1) C dX1_wouldReadItself_110 (by decide) ?_
        refine V_goto (tgt := 115) C dX1_wouldReadItself_111 (by decide) ?_
        exact J115 _ ((if_pos h96).trans ((if_neg h107).trans rfl))
theorem hdX1_setSum : yX1_setSum.cls ≠ "java/lang/invoke/MethodHandle" ∧ yX1_setSum.cls ≠ "java/lang/invoke/VarHandle" ∧ (parseMethodDescriptor yX1_setSum.desc).map (fun d => d.parameters.length) = some 5 := by decide +kernel
theorem hvX1_setSum : yX1_setSum.cls = RX1 ∧ yX1_setSum.cls ≠ "java/lang/invoke/MethodHandle" ∧ yX1_setSum.cls ≠ "java/lang/invoke/VarHandle" ∧ (parseMethodDescriptor yX1_setSum.desc).map (fun d => d.parameters.length) = some 5 := by decide +kernel
set_option maxHeartbeats 4000000 in
theorem kX1_setSum {l : Launch} {D : va_G} {cI cZ : ClassId} {ad : Nat → Nat} (u : vM) (a1 : Int32) (a2 : Int32) (a3 : Int32) (a4 : Int32) (a5 : Int32) (hp0 : kc u) (hp1 : xX1_setSum u a1 a2 a3 a4 a5 = 0) : mI D vwCl (tyF cI cZ) xN (wC cI cZ ad) l yX1_setSum wsX1_setSum rmX1_setSum [.ref (ad 0), .int a1, .int a2, .int a3, .int a4, .int a5] u (rX1_setSum u a1 a2 a3 a4 a5) (uX1_setSum u a1 a2 a3 a4 a5) := by
  refine mI_of (cc := cX1_setSum) (maxL := 6) (ret := (some .int)) (own := RX1) rfl (by decide) rfl (wC_ok cI cZ ad) (Nat.le_of_ble_eq_true rfl) (fun p e s m args below meth c A C => ?_)
  refine V_ls (ls' := [(0, .ref (ad 0)), (1, .int a1), (2, .int a2), (3, .int a3), (4, .int a4), (5, .int a5)]) rfl ?_
  refine V_iload_n C dX1_setSum_0 rfl 1 rfl ?_
  refine V_cSi1 C xN_ok (kX1_isUser _ _) (va_cwS 1 C.2.2.1 gX1_setSum_X1_isUser rfl rfl rfl hdX1_isUser ⟨Nat.le_of_ble_eq_true rfl, Nat.le_of_ble_eq_true rfl⟩) (Nat.le_of_ble_eq_true rfl) ⟨(Nat.le_of_ble_eq_true rfl), (Nat.le_of_ble_eq_true rfl)⟩ dX1_setSum_1 ?_
  refine V_if_eq (tgt := 40) C dX1_setSum_4 (by decide) (fun h4 => ?_) (fun h4 => ?_)
  ·
    exact absurd (show (0 : Int32) = 1 from (hp1).symm.trans ((if_pos h4).trans rfl)) (by decide)
  ·
    refine V_iload_n C dX1_setSum_7 rfl 2 rfl ?_
    refine V_cSi1 C xN_ok (kX1_isCell _ _) (va_cwS 1 C.2.2.1 gX1_setSum_X1_isCell rfl rfl rfl hdX1_isCell ⟨Nat.le_of_ble_eq_true rfl, Nat.le_of_ble_eq_true rfl⟩) (Nat.le_of_ble_eq_true rfl) ⟨(Nat.le_of_ble_eq_true rfl), (Nat.le_of_ble_eq_true rfl)⟩ dX1_setSum_8 ?_
    refine V_if_eq (tgt := 40) C dX1_setSum_11 (by decide) (fun h11 => ?_) (fun h11 => ?_)
    ·
      exact absurd (show (0 : Int32) = 1 from (hp1).symm.trans ((if_neg h4).trans ((if_pos h11).trans rfl))) (by decide)
    ·
      refine V_iload_n C dX1_setSum_14 rfl 3 rfl ?_
      refine V_cSi1 C xN_ok (kX1_isCell _ _) (va_cwS 1 C.2.2.1 gX1_setSum_X1_isCell rfl rfl rfl hdX1_isCell ⟨Nat.le_of_ble_eq_true rfl, Nat.le_of_ble_eq_true rfl⟩) (Nat.le_of_ble_eq_true rfl) ⟨(Nat.le_of_ble_eq_true rfl), (Nat.le_of_ble_eq_true rfl)⟩ dX1_setSum_15 ?_
      refine V_if_eq (tgt := 40) C dX1_setSum_18 (by decide) (fun h18 => ?_) (fun h18 => ?_)
      ·
        exact absurd (show (0 : Int32) = 1 from (hp1).symm.trans ((if_neg h4).trans ((if_neg h11).trans ((if_pos h18).trans rfl)))) (by decide)
      ·
        refine V_iload C dX1_setSum_21 4 rfl ?_
        refine V_cSi1 C xN_ok (kX1_isCell _ _) (va_cwS 1 C.2.2.1 gX1_setSum_X1_isCell rfl rfl rfl hdX1_isCell ⟨Nat.le_of_ble_eq_true rfl, Nat.le_of_ble_eq_true rfl⟩) (Nat.le_of_ble_eq_true rfl) ⟨(Nat.le_of_ble_eq_true rfl), (Nat.le_of_ble_eq_true rfl)⟩ dX1_setSum_23 ?_
        refine V_if_eq (tgt := 40) C dX1_setSum_26 (by decide) (fun h26 => ?_) (fun h26 => ?_)
        ·
          exact absurd (show (0 : Int32) = 1 from (hp1).symm.trans ((if_neg h4).trans ((if_neg h11).trans ((if_neg h18).trans ((if_pos h26).trans rfl))))) (by decide)
        ·
          refine V_iload C dX1_setSum_29 5 rfl ?_
          refine V_sipush (v := 1000) C dX1_setSum_31 (by decide) ?_
          refine V_cSi2 C xN_ok (kX1_isWithin _ _ _) (va_cwS 2 C.2.2.1 gX1_setSum_X1_isWithin rfl rfl rfl hdX1_isWithin ⟨Nat.le_of_ble_eq_true rfl, Nat.le_of_ble_eq_true rfl⟩) (Nat.le_of_ble_eq_true rfl) ⟨(Nat.le_of_ble_eq_true rfl), (Nat.le_of_ble_eq_true rfl)⟩ dX1_setSum_34 ?_
          refine V_if_ne (tgt := 50) C dX1_setSum_37 (by decide) (fun h37 => ?_) (fun h37 => ?_)
          ·
            refine V_aload_n C dX1_setSum_50 rfl 0 rfl ?_
            refine V_iload_n C dX1_setSum_51 rfl 2 rfl ?_
            refine V_iload_n C dX1_setSum_52 rfl 3 rfl ?_
            refine V_iload C dX1_setSum_53 4 rfl ?_
            refine V_cVi3 C xN_ok (kX1_wouldReadItself _ _ _ _) (cwV 3 C.2.2.1 gX1_setSum_X1_wouldReadItself rfl rfl rfl hvX1_wouldReadItself ⟨Nat.le_of_ble_eq_true rfl, Nat.le_of_ble_eq_true rfl⟩) 0 rfl rfl (Nat.le_of_ble_eq_true rfl) ⟨(Nat.le_of_ble_eq_true rfl), (Nat.le_of_ble_eq_true rfl)⟩ dX1_setSum_55 ?_
            refine V_u (fun u55 hu55 => ?_)
            have hkc55 : kc u55 := by rw [← hu55]; exact kc_congr (fr_uX1_wouldReadItself (by decide)) hp0
            refine V_if_eq (tgt := 71) C dX1_setSum_58 (by decide) (fun h58 => ?_) (fun h58 => ?_)
            ·
              refine V_aload_n C dX1_setSum_71 rfl 0 rfl ?_
              refine V_iload_n C dX1_setSum_72 rfl 1 rfl ?_
              refine V_iload_n C dX1_setSum_73 rfl 2 rfl ?_
              refine V_iconst (v := 1) C dX1_setSum_74 (by decide) ?_
              refine V_iload_n C dX1_setSum_75 rfl 3 rfl ?_
              refine V_iload C dX1_setSum_76 4 rfl ?_
              refine V_iload C dX1_setSum_78 5 rfl ?_
              refine V_cVi6 C xN_ok (kX1_giveFormula _ _ _ _ _ _ _ (vqX1_isUser h4) (vqX1_isCell h11) hkc55) (cwV 6 C.2.2.1 gX1_setSum_X1_giveFormula rfl rfl rfl hvX1_giveFormula ⟨Nat.le_of_ble_eq_true rfl, Nat.le_of_ble_eq_true rfl⟩) 0 rfl rfl (Nat.le_of_ble_eq_true rfl) ⟨(Nat.le_of_ble_eq_true rfl), (Nat.le_of_ble_eq_true rfl)⟩ dX1_setSum_80 ?_
              refine V_u (fun u80 hu80 => ?_)
              subst hu80
              subst hu55
              exact V_iret C rfl (vp_nar_int _) ((if_neg h4).trans ((if_neg h11).trans ((if_neg h18).trans ((if_neg h26).trans ((if_neg h37).trans ((if_pos h58).trans rfl)))))) ((if_neg h4).trans ((if_neg h11).trans ((if_neg h18).trans ((if_neg h26).trans ((if_neg h37).trans ((if_pos h58).trans rfl)))))) dX1_setSum_83
            ·
              subst hu55
              exact absurd (show (0 : Int32) = 2 from (hp1).symm.trans ((if_neg h4).trans ((if_neg h11).trans ((if_neg h18).trans ((if_neg h26).trans ((if_neg h37).trans ((if_neg h58).trans rfl))))))) (by decide)
          ·
            exact absurd (show (0 : Int32) = 1 from (hp1).symm.trans ((if_neg h4).trans ((if_neg h11).trans ((if_neg h18).trans ((if_neg h26).trans ((if_pos h37).trans rfl)))))) (by decide)
theorem hdX1_setGreater : yX1_setGreater.cls ≠ "java/lang/invoke/MethodHandle" ∧ yX1_setGreater.cls ≠ "java/lang/invoke/VarHandle" ∧ (parseMethodDescriptor yX1_setGreater.desc).map (fun d => d.parameters.length) = some 4 := by decide +kernel
theorem hvX1_setGreater : yX1_setGreater.cls = RX1 ∧ yX1_setGreater.cls ≠ "java/lang/invoke/MethodHandle" ∧ yX1_setGreater.cls ≠ "java/lang/invoke/VarHandle" ∧ (parseMethodDescriptor yX1_setGreater.desc).map (fun d => d.parameters.length) = some 4 := by decide +kernel
set_option maxHeartbeats 4000000 in
theorem kX1_setGreater {l : Launch} {D : va_G} {cI cZ : ClassId} {ad : Nat → Nat} (u : vM) (a1 : Int32) (a2 : Int32) (a3 : Int32) (a4 : Int32) (hp0 : kc u) (hp1 : xX1_setGreater u a1 a2 a3 a4 = 0) : mI D vwCl (tyF cI cZ) xN (wC cI cZ ad) l yX1_setGreater wsX1_setGreater rmX1_setGreater [.ref (ad 0), .int a1, .int a2, .int a3, .int a4] u (rX1_setGreater u a1 a2 a3 a4) (uX1_setGreater u a1 a2 a3 a4) := by
  refine mI_of (cc := cX1_setGreater) (maxL := 5) (ret := (some .int)) (own := RX1) rfl (by decide) rfl (wC_ok cI cZ ad) (Nat.le_of_ble_eq_true rfl) (fun p e s m args below meth c A C => ?_)
  refine V_ls (ls' := [(0, .ref (ad 0)), (1, .int a1), (2, .int a2), (3, .int a3), (4, .int a4)]) rfl ?_
  refine V_iload_n C dX1_setGreater_0 rfl 1 rfl ?_
  refine V_cSi1 C xN_ok (kX1_isUser _ _) (va_cwS 1 C.2.2.1 gX1_setGreater_X1_isUser rfl rfl rfl hdX1_isUser ⟨Nat.le_of_ble_eq_true rfl, Nat.le_of_ble_eq_true rfl⟩) (Nat.le_of_ble_eq_true rfl) ⟨(Nat.le_of_ble_eq_true rfl), (Nat.le_of_ble_eq_true rfl)⟩ dX1_setGreater_1 ?_
  refine V_if_eq (tgt := 29) C dX1_setGreater_4 (by decide) (fun h4 => ?_) (fun h4 => ?_)
  ·
    exact absurd (show (0 : Int32) = 1 from (hp1).symm.trans ((if_pos h4).trans rfl)) (by decide)
  ·
    refine V_iload_n C dX1_setGreater_7 rfl 2 rfl ?_
    refine V_cSi1 C xN_ok (kX1_isCell _ _) (va_cwS 1 C.2.2.1 gX1_setGreater_X1_isCell rfl rfl rfl hdX1_isCell ⟨Nat.le_of_ble_eq_true rfl, Nat.le_of_ble_eq_true rfl⟩) (Nat.le_of_ble_eq_true rfl) ⟨(Nat.le_of_ble_eq_true rfl), (Nat.le_of_ble_eq_true rfl)⟩ dX1_setGreater_8 ?_
    refine V_if_eq (tgt := 29) C dX1_setGreater_11 (by decide) (fun h11 => ?_) (fun h11 => ?_)
    ·
      exact absurd (show (0 : Int32) = 1 from (hp1).symm.trans ((if_neg h4).trans ((if_pos h11).trans rfl))) (by decide)
    ·
      refine V_iload_n C dX1_setGreater_14 rfl 3 rfl ?_
      refine V_cSi1 C xN_ok (kX1_isCell _ _) (va_cwS 1 C.2.2.1 gX1_setGreater_X1_isCell rfl rfl rfl hdX1_isCell ⟨Nat.le_of_ble_eq_true rfl, Nat.le_of_ble_eq_true rfl⟩) (Nat.le_of_ble_eq_true rfl) ⟨(Nat.le_of_ble_eq_true rfl), (Nat.le_of_ble_eq_true rfl)⟩ dX1_setGreater_15 ?_
      refine V_if_eq (tgt := 29) C dX1_setGreater_18 (by decide) (fun h18 => ?_) (fun h18 => ?_)
      ·
        exact absurd (show (0 : Int32) = 1 from (hp1).symm.trans ((if_neg h4).trans ((if_neg h11).trans ((if_pos h18).trans rfl)))) (by decide)
      ·
        refine V_iload C dX1_setGreater_21 4 rfl ?_
        refine V_cSi1 C xN_ok (kX1_isCell _ _) (va_cwS 1 C.2.2.1 gX1_setGreater_X1_isCell rfl rfl rfl hdX1_isCell ⟨Nat.le_of_ble_eq_true rfl, Nat.le_of_ble_eq_true rfl⟩) (Nat.le_of_ble_eq_true rfl) ⟨(Nat.le_of_ble_eq_true rfl), (Nat.le_of_ble_eq_true rfl)⟩ dX1_setGreater_23 ?_
        refine V_if_ne (tgt := 39) C dX1_setGreater_26 (by decide) (fun h26 => ?_) (fun h26 => ?_)
        ·
          refine V_aload_n C dX1_setGreater_39 rfl 0 rfl ?_
          refine V_iload_n C dX1_setGreater_40 rfl 2 rfl ?_
          refine V_iload_n C dX1_setGreater_41 rfl 3 rfl ?_
          refine V_iload C dX1_setGreater_42 4 rfl ?_
          refine V_cVi3 C xN_ok (kX1_wouldReadItself _ _ _ _) (cwV 3 C.2.2.1 gX1_setGreater_X1_wouldReadItself rfl rfl rfl hvX1_wouldReadItself ⟨Nat.le_of_ble_eq_true rfl, Nat.le_of_ble_eq_true rfl⟩) 0 rfl rfl (Nat.le_of_ble_eq_true rfl) ⟨(Nat.le_of_ble_eq_true rfl), (Nat.le_of_ble_eq_true rfl)⟩ dX1_setGreater_44 ?_
          refine V_u (fun u44 hu44 => ?_)
          have hkc44 : kc u44 := by rw [← hu44]; exact kc_congr (fr_uX1_wouldReadItself (by decide)) hp0
          refine V_if_eq (tgt := 60) C dX1_setGreater_47 (by decide) (fun h47 => ?_) (fun h47 => ?_)
          ·
            refine V_aload_n C dX1_setGreater_60 rfl 0 rfl ?_
            refine V_iload_n C dX1_setGreater_61 rfl 1 rfl ?_
            refine V_iload_n C dX1_setGreater_62 rfl 2 rfl ?_
            refine V_iconst (v := 2) C dX1_setGreater_63 (by decide) ?_
            refine V_iload_n C dX1_setGreater_64 rfl 3 rfl ?_
            refine V_iload C dX1_setGreater_65 4 rfl ?_
            refine V_iconst (v := 0) C dX1_setGreater_67 (by decide) ?_
            refine V_cVi6 C xN_ok (kX1_giveFormula _ _ _ _ _ _ _ (vqX1_isUser h4) (vqX1_isCell h11) hkc44) (cwV 6 C.2.2.1 gX1_setGreater_X1_giveFormula rfl rfl rfl hvX1_giveFormula ⟨Nat.le_of_ble_eq_true rfl, Nat.le_of_ble_eq_true rfl⟩) 0 rfl rfl (Nat.le_of_ble_eq_true rfl) ⟨(Nat.le_of_ble_eq_true rfl), (Nat.le_of_ble_eq_true rfl)⟩ dX1_setGreater_68 ?_
            refine V_u (fun u68 hu68 => ?_)
            subst hu68
            subst hu44
            exact V_iret C rfl (vp_nar_int _) ((if_neg h4).trans ((if_neg h11).trans ((if_neg h18).trans ((if_neg h26).trans ((if_pos h47).trans rfl))))) ((if_neg h4).trans ((if_neg h11).trans ((if_neg h18).trans ((if_neg h26).trans ((if_pos h47).trans rfl))))) dX1_setGreater_71
          ·
            subst hu44
            exact absurd (show (0 : Int32) = 2 from (hp1).symm.trans ((if_neg h4).trans ((if_neg h11).trans ((if_neg h18).trans ((if_neg h26).trans ((if_neg h47).trans rfl)))))) (by decide)
        ·
          exact absurd (show (0 : Int32) = 1 from (hp1).symm.trans ((if_neg h4).trans ((if_neg h11).trans ((if_neg h18).trans ((if_pos h26).trans rfl))))) (by decide)
theorem hdX1_setTimes : yX1_setTimes.cls ≠ "java/lang/invoke/MethodHandle" ∧ yX1_setTimes.cls ≠ "java/lang/invoke/VarHandle" ∧ (parseMethodDescriptor yX1_setTimes.desc).map (fun d => d.parameters.length) = some 4 := by decide +kernel
theorem hvX1_setTimes : yX1_setTimes.cls = RX1 ∧ yX1_setTimes.cls ≠ "java/lang/invoke/MethodHandle" ∧ yX1_setTimes.cls ≠ "java/lang/invoke/VarHandle" ∧ (parseMethodDescriptor yX1_setTimes.desc).map (fun d => d.parameters.length) = some 4 := by decide +kernel
set_option maxHeartbeats 4000000 in
theorem kX1_setTimes {l : Launch} {D : va_G} {cI cZ : ClassId} {ad : Nat → Nat} (u : vM) (a1 : Int32) (a2 : Int32) (a3 : Int32) (a4 : Int32) (hp0 : kc u) (hp1 : xX1_setTimes u a1 a2 a3 a4 = 0) : mI D vwCl (tyF cI cZ) xN (wC cI cZ ad) l yX1_setTimes wsX1_setTimes rmX1_setTimes [.ref (ad 0), .int a1, .int a2, .int a3, .int a4] u (rX1_setTimes u a1 a2 a3 a4) (uX1_setTimes u a1 a2 a3 a4) := by
  refine mI_of (cc := cX1_setTimes) (maxL := 5) (ret := (some .int)) (own := RX1) rfl (by decide) rfl (wC_ok cI cZ ad) (Nat.le_of_ble_eq_true rfl) (fun p e s m args below meth c A C => ?_)
  refine V_ls (ls' := [(0, .ref (ad 0)), (1, .int a1), (2, .int a2), (3, .int a3), (4, .int a4)]) rfl ?_
  refine V_iload_n C dX1_setTimes_0 rfl 1 rfl ?_
  refine V_cSi1 C xN_ok (kX1_isUser _ _) (va_cwS 1 C.2.2.1 gX1_setTimes_X1_isUser rfl rfl rfl hdX1_isUser ⟨Nat.le_of_ble_eq_true rfl, Nat.le_of_ble_eq_true rfl⟩) (Nat.le_of_ble_eq_true rfl) ⟨(Nat.le_of_ble_eq_true rfl), (Nat.le_of_ble_eq_true rfl)⟩ dX1_setTimes_1 ?_
  refine V_if_eq (tgt := 31) C dX1_setTimes_4 (by decide) (fun h4 => ?_) (fun h4 => ?_)
  ·
    exact absurd (show (0 : Int32) = 1 from (hp1).symm.trans ((if_pos h4).trans rfl)) (by decide)
  ·
    refine V_iload_n C dX1_setTimes_7 rfl 2 rfl ?_
    refine V_cSi1 C xN_ok (kX1_isCell _ _) (va_cwS 1 C.2.2.1 gX1_setTimes_X1_isCell rfl rfl rfl hdX1_isCell ⟨Nat.le_of_ble_eq_true rfl, Nat.le_of_ble_eq_true rfl⟩) (Nat.le_of_ble_eq_true rfl) ⟨(Nat.le_of_ble_eq_true rfl), (Nat.le_of_ble_eq_true rfl)⟩ dX1_setTimes_8 ?_
    refine V_if_eq (tgt := 31) C dX1_setTimes_11 (by decide) (fun h11 => ?_) (fun h11 => ?_)
    ·
      exact absurd (show (0 : Int32) = 1 from (hp1).symm.trans ((if_neg h4).trans ((if_pos h11).trans rfl))) (by decide)
    ·
      refine V_iload_n C dX1_setTimes_14 rfl 3 rfl ?_
      refine V_cSi1 C xN_ok (kX1_isCell _ _) (va_cwS 1 C.2.2.1 gX1_setTimes_X1_isCell rfl rfl rfl hdX1_isCell ⟨Nat.le_of_ble_eq_true rfl, Nat.le_of_ble_eq_true rfl⟩) (Nat.le_of_ble_eq_true rfl) ⟨(Nat.le_of_ble_eq_true rfl), (Nat.le_of_ble_eq_true rfl)⟩ dX1_setTimes_15 ?_
      refine V_if_eq (tgt := 31) C dX1_setTimes_18 (by decide) (fun h18 => ?_) (fun h18 => ?_)
      ·
        exact absurd (show (0 : Int32) = 1 from (hp1).symm.trans ((if_neg h4).trans ((if_neg h11).trans ((if_pos h18).trans rfl)))) (by decide)
      ·
        refine V_iload C dX1_setTimes_21 4 rfl ?_
        refine V_bipush (v := 100) C dX1_setTimes_23 (by decide) ?_
        refine V_cSi2 C xN_ok (kX1_isWithin _ _ _) (va_cwS 2 C.2.2.1 gX1_setTimes_X1_isWithin rfl rfl rfl hdX1_isWithin ⟨Nat.le_of_ble_eq_true rfl, Nat.le_of_ble_eq_true rfl⟩) (Nat.le_of_ble_eq_true rfl) ⟨(Nat.le_of_ble_eq_true rfl), (Nat.le_of_ble_eq_true rfl)⟩ dX1_setTimes_25 ?_
        refine V_if_ne (tgt := 41) C dX1_setTimes_28 (by decide) (fun h28 => ?_) (fun h28 => ?_)
        ·
          refine V_aload_n C dX1_setTimes_41 rfl 0 rfl ?_
          refine V_iload_n C dX1_setTimes_42 rfl 2 rfl ?_
          refine V_iload_n C dX1_setTimes_43 rfl 3 rfl ?_
          refine V_iconst (v := (-1)) C dX1_setTimes_44 (by decide) ?_
          refine V_cVi3 C xN_ok (kX1_wouldReadItself _ _ _ _) (cwV 3 C.2.2.1 gX1_setTimes_X1_wouldReadItself rfl rfl rfl hvX1_wouldReadItself ⟨Nat.le_of_ble_eq_true rfl, Nat.le_of_ble_eq_true rfl⟩) 0 rfl rfl (Nat.le_of_ble_eq_true rfl) ⟨(Nat.le_of_ble_eq_true rfl), (Nat.le_of_ble_eq_true rfl)⟩ dX1_setTimes_45 ?_
          refine V_u (fun u45 hu45 => ?_)
          have hkc45 : kc u45 := by rw [← hu45]; exact kc_congr (fr_uX1_wouldReadItself (by decide)) hp0
          refine V_if_eq (tgt := 61) C dX1_setTimes_48 (by decide) (fun h48 => ?_) (fun h48 => ?_)
          ·
            refine V_aload_n C dX1_setTimes_61 rfl 0 rfl ?_
            refine V_iload_n C dX1_setTimes_62 rfl 1 rfl ?_
            refine V_iload_n C dX1_setTimes_63 rfl 2 rfl ?_
            refine V_iconst (v := 3) C dX1_setTimes_64 (by decide) ?_
            refine V_iload_n C dX1_setTimes_65 rfl 3 rfl ?_
            refine V_iconst (v := (-1)) C dX1_setTimes_66 (by decide) ?_
            refine V_iload C dX1_setTimes_67 4 rfl ?_
            refine V_cVi6 C xN_ok (kX1_giveFormula _ _ _ _ _ _ _ (vqX1_isUser h4) (vqX1_isCell h11) hkc45) (cwV 6 C.2.2.1 gX1_setTimes_X1_giveFormula rfl rfl rfl hvX1_giveFormula ⟨Nat.le_of_ble_eq_true rfl, Nat.le_of_ble_eq_true rfl⟩) 0 rfl rfl (Nat.le_of_ble_eq_true rfl) ⟨(Nat.le_of_ble_eq_true rfl), (Nat.le_of_ble_eq_true rfl)⟩ dX1_setTimes_69 ?_
            refine V_u (fun u69 hu69 => ?_)
            subst hu69
            subst hu45
            exact V_iret C rfl (vp_nar_int _) ((if_neg h4).trans ((if_neg h11).trans ((if_neg h18).trans ((if_neg h28).trans ((if_pos h48).trans rfl))))) ((if_neg h4).trans ((if_neg h11).trans ((if_neg h18).trans ((if_neg h28).trans ((if_pos h48).trans rfl))))) dX1_setTimes_72
          ·
            subst hu45
            exact absurd (show (0 : Int32) = 2 from (hp1).symm.trans ((if_neg h4).trans ((if_neg h11).trans ((if_neg h18).trans ((if_neg h28).trans ((if_neg h48).trans rfl)))))) (by decide)
        ·
          exact absurd (show (0 : Int32) = 1 from (hp1).symm.trans ((if_neg h4).trans ((if_neg h11).trans ((if_neg h18).trans ((if_pos h28).trans rfl))))) (by decide)
theorem hdX1_refresh : yX1_refresh.cls ≠ "java/lang/invoke/MethodHandle" ∧ yX1_refresh.cls ≠ "java/lang/invoke/VarHandle" ∧ (parseMethodDescriptor yX1_refresh.desc).map (fun d => d.parameters.length) = some 1 := by decide +kernel
theorem hvX1_refresh : yX1_refresh.cls = RX1 ∧ yX1_refresh.cls ≠ "java/lang/invoke/MethodHandle" ∧ yX1_refresh.cls ≠ "java/lang/invoke/VarHandle" ∧ (parseMethodDescriptor yX1_refresh.desc).map (fun d => d.parameters.length) = some 1 := by decide +kernel
set_option maxHeartbeats 4000000 in
theorem kX1_refresh {l : Launch} {D : va_G} {cI cZ : ClassId} {ad : Nat → Nat} (u : vM) (a1 : Int32) (hp0 : kc u) (hp1 : xX1_refresh u a1 = 0) : mI D vwCl (tyF cI cZ) xN (wC cI cZ ad) l yX1_refresh wsX1_refresh rmX1_refresh [.ref (ad 0), .int a1] u (rX1_refresh u a1) (uX1_refresh u a1) := by
  refine mI_of (cc := cX1_refresh) (maxL := 2) (ret := (some .int)) (own := RX1) rfl (by decide) rfl (wC_ok cI cZ ad) (Nat.le_of_ble_eq_true rfl) (fun p e s m args below meth c A C => ?_)
  refine V_ls (ls' := [(0, .ref (ad 0)), (1, .int a1)]) rfl ?_
  refine V_iload_n C dX1_refresh_0 rfl 1 rfl ?_
  refine V_cSi1 C xN_ok (kX1_isUser _ _) (va_cwS 1 C.2.2.1 gX1_refresh_X1_isUser rfl rfl rfl hdX1_isUser ⟨Nat.le_of_ble_eq_true rfl, Nat.le_of_ble_eq_true rfl⟩) (Nat.le_of_ble_eq_true rfl) ⟨(Nat.le_of_ble_eq_true rfl), (Nat.le_of_ble_eq_true rfl)⟩ dX1_refresh_1 ?_
  refine V_if_ne (tgt := 17) C dX1_refresh_4 (by decide) (fun h4 => ?_) (fun h4 => ?_)
  ·
    refine V_aload_n C dX1_refresh_17 rfl 0 rfl ?_
    refine V_cVv0 C xN_ok (kX1_forgetChanges _) (cwV 0 C.2.2.1 gX1_refresh_X1_forgetChanges rfl rfl rfl hvX1_forgetChanges ⟨Nat.le_of_ble_eq_true rfl, Nat.le_of_ble_eq_true rfl⟩) 0 rfl rfl (Nat.le_of_ble_eq_true rfl) ⟨(Nat.le_of_ble_eq_true rfl), (Nat.le_of_ble_eq_true rfl)⟩ dX1_refresh_18 ?_
    refine V_u (fun u18 hu18 => ?_)
    have hkc18 : kc u18 := by rw [← hu18]; exact kc_congr (fr_uX1_forgetChanges (by decide)) hp0
    refine V_aload_n C dX1_refresh_21 rfl 0 rfl ?_
    refine V_iload_n C dX1_refresh_22 rfl 1 rfl ?_
    refine V_iconst (v := 1) C dX1_refresh_23 (by decide) ?_
    refine V_cVi2 C xN_ok (kX1_goThrough _ _ _ (vqX1_isUser h4) hkc18) (cwV 2 C.2.2.1 gX1_refresh_X1_goThrough rfl rfl rfl hvX1_goThrough ⟨Nat.le_of_ble_eq_true rfl, Nat.le_of_ble_eq_true rfl⟩) 0 rfl rfl (Nat.le_of_ble_eq_true rfl) ⟨(Nat.le_of_ble_eq_true rfl), (Nat.le_of_ble_eq_true rfl)⟩ dX1_refresh_24 ?_
    refine V_u (fun u24 hu24 => ?_)
    subst hu24
    subst hu18
    exact V_iret C rfl (vp_nar_int _) ((if_neg h4).trans rfl) ((if_neg h4).trans rfl) dX1_refresh_27
  ·
    exact absurd (show (0 : Int32) = 1 from (hp1).symm.trans ((if_pos h4).trans rfl)) (by decide)
theorem hdX1_isSheet : yX1_isSheet.cls ≠ "java/lang/invoke/MethodHandle" ∧ yX1_isSheet.cls ≠ "java/lang/invoke/VarHandle" ∧ (parseMethodDescriptor yX1_isSheet.desc).map (fun d => d.parameters.length) = some 1 := by decide +kernel
theorem hvX1_isSheet : yX1_isSheet.cls = RX1 ∧ yX1_isSheet.cls ≠ "java/lang/invoke/MethodHandle" ∧ yX1_isSheet.cls ≠ "java/lang/invoke/VarHandle" ∧ (parseMethodDescriptor yX1_isSheet.desc).map (fun d => d.parameters.length) = some 1 := by decide +kernel
set_option maxHeartbeats 4000000 in
theorem kX1_isSheet {l : Launch} {D : va_G} {cI cZ : ClassId} {ad : Nat → Nat} (u : vM) (a0 : Int32) : mI D vwCl (tyF cI cZ) xN (wC cI cZ ad) l yX1_isSheet wsX1_isSheet rmX1_isSheet [.int a0] u (rX1_isSheet a0) u := by
  refine mI_of (cc := cX1_isSheet) (maxL := 1) (ret := (some .boolean)) (own := RX1) rfl (by decide) rfl (wC_ok cI cZ ad) (Nat.le_of_ble_eq_true rfl) (fun p e s m args below meth c A C => ?_)
  refine V_ls (ls' := [(0, .int a0)]) rfl ?_
  refine V_iload_n C dX1_isSheet_0 rfl 0 rfl ?_
  refine V_join1 (J := 14) (T := (if a0 < 0 then 0 else (if 4 ≤ a0 then 0 else 1))) (fun j14 hj14 => ?_) (fun J14 => ?_)
  ·
    subst hj14
    exact V_iret C rfl (by (repeat' split) <;> rfl) rfl rfl dX1_isSheet_14
  ·
    refine V_if_lt (tgt := 13) C dX1_isSheet_1 (by decide) (fun h1 => ?_) (fun h1 => ?_)
    ·
      refine V_iconst (v := 0) C dX1_isSheet_13 (by decide) ?_
      exact J14 _ ((if_pos h1).trans rfl)
    ·
      refine V_iload_n C dX1_isSheet_4 rfl 0 rfl ?_
      refine V_iconst (v := 4) C dX1_isSheet_5 (by decide) ?_
      refine V_icmp_ge (tgt := 13) C dX1_isSheet_6 (by decide) (fun h6 => ?_) (fun h6 => ?_)
      ·
        refine V_iconst (v := 0) C dX1_isSheet_13 (by decide) ?_
        exact J14 _ ((if_neg h1).trans ((if_pos h6).trans rfl))
      ·
        refine V_iconst (v := 1) C dX1_isSheet_9 (by decide) ?_
        refine V_goto (tgt := 14) C dX1_isSheet_10 (by decide) ?_
        exact J14 _ ((if_neg h1).trans ((if_neg h6).trans rfl))
theorem hdX1_setPrice : yX1_setPrice.cls ≠ "java/lang/invoke/MethodHandle" ∧ yX1_setPrice.cls ≠ "java/lang/invoke/VarHandle" ∧ (parseMethodDescriptor yX1_setPrice.desc).map (fun d => d.parameters.length) = some 2 := by decide +kernel
theorem hvX1_setPrice : yX1_setPrice.cls = RX1 ∧ yX1_setPrice.cls ≠ "java/lang/invoke/MethodHandle" ∧ yX1_setPrice.cls ≠ "java/lang/invoke/VarHandle" ∧ (parseMethodDescriptor yX1_setPrice.desc).map (fun d => d.parameters.length) = some 2 := by decide +kernel
theorem hinX1_setPrice_X1 : ∀ w ∈ u_ws RX1 TX1 12, w ∈ wsX1_setPrice := by decide +kernel
theorem hfX1_setPrice_35 : Cond.fieldLink RX1 35 "MeteredSheets" "ledger" "LMeteredSheets$Ledger;" ∈ wsX1_setPrice := by decide +kernel
theorem hinX1_setPrice_X0 : ∀ w ∈ u_ws RX0 TX0 8, w ∈ wsX1_setPrice := by decide +kernel
set_option maxHeartbeats 4000000 in
theorem kX1_setPrice {l : Launch} {D : va_G} {cI cZ : ClassId} {ad : Nat → Nat} (u : vM) (a1 : Int32) (a2 : Int32) (hp0 : xX1_setPrice u a1 a2 = 0) : mI D vwCl (tyF cI cZ) xN (wC cI cZ ad) l yX1_setPrice wsX1_setPrice rmX1_setPrice [.ref (ad 0), .int a1, .int a2] u (rX1_setPrice u a1 a2) (uX1_setPrice u a1 a2) := by
  refine mI_of (cc := cX1_setPrice) (maxL := 4) (ret := (some .int)) (own := RX1) rfl (by decide) rfl (wC_ok cI cZ ad) (Nat.le_of_ble_eq_true rfl) (fun p e s m args below meth c A C => ?_)
  refine V_ls (ls' := [(0, .ref (ad 0)), (1, .int a1), (2, .int a2)]) rfl ?_
  refine V_iload_n C dX1_setPrice_0 rfl 1 rfl ?_
  refine V_cSi1 C xN_ok (kX1_isSheet _ _) (va_cwS 1 C.2.2.1 gX1_setPrice_X1_isSheet rfl rfl rfl hdX1_isSheet ⟨Nat.le_of_ble_eq_true rfl, Nat.le_of_ble_eq_true rfl⟩) (Nat.le_of_ble_eq_true rfl) ⟨(Nat.le_of_ble_eq_true rfl), (Nat.le_of_ble_eq_true rfl)⟩ dX1_setPrice_1 ?_
  refine V_if_eq (tgt := 17) C dX1_setPrice_4 (by decide) (fun h4 => ?_) (fun h4 => ?_)
  ·
    exact absurd (show (0 : Int32) = 1 from (hp0).symm.trans ((if_pos h4).trans rfl)) (by decide)
  ·
    refine V_iload_n C dX1_setPrice_7 rfl 2 rfl ?_
    refine V_if_lt (tgt := 17) C dX1_setPrice_8 (by decide) (fun h8 => ?_) (fun h8 => ?_)
    ·
      exact absurd (show (0 : Int32) = 1 from (hp0).symm.trans ((if_neg h4).trans ((if_pos h8).trans rfl))) (by decide)
    ·
      refine V_iload_n C dX1_setPrice_11 rfl 2 rfl ?_
      refine V_bipush (v := 100) C dX1_setPrice_12 (by decide) ?_
      refine V_icmp_le (tgt := 27) C dX1_setPrice_14 (by decide) (fun h14 => ?_) (fun h14 => ?_)
      ·
        refine V_aload_n C dX1_setPrice_27 rfl 0 rfl ?_
        refine V_get (Cn := RX1) (T := TX1) (N := 12) C hinX1_setPrice_X1 0 rfl rfl 7 (by decide) hfX1_setPrice_35 rfl rfl dX1_setPrice_28 ?_
        refine V_getN (Cn := RX0) (T := TX0) (N := 8) C hinX1_setPrice_X0 8 rfl rfl 0 (by decide) (C.2.2.2.2.2.2.2.2.2.2 _ nwX1_103) rfl rfl dX1_setPrice_31 ?_
        refine V_iload_n C dX1_setPrice_34 rfl 1 rfl ?_
        refine Vm_iald C 13 0 rfl rfl (vqX1_isSheet h4) dX1_setPrice_35 ?_
        refine V_top (fun y36 hy36 => ?_)
        refine V_istore_n (ls' := [(0, .ref (ad 0)), (1, .int a1), (2, .int a2), (3, .int y36)]) C dX1_setPrice_36 rfl (by decide) rfl rfl ?_
        refine V_aload_n C dX1_setPrice_37 rfl 0 rfl ?_
        refine V_get (Cn := RX1) (T := TX1) (N := 12) C hinX1_setPrice_X1 0 rfl rfl 7 (by decide) hfX1_setPrice_35 rfl rfl dX1_setPrice_38 ?_
        refine V_getN (Cn := RX0) (T := TX0) (N := 8) C hinX1_setPrice_X0 8 rfl rfl 0 (by decide) (C.2.2.2.2.2.2.2.2.2.2 _ nwX1_103) rfl rfl dX1_setPrice_41 ?_
        refine V_iload_n C dX1_setPrice_44 rfl 1 rfl ?_
        refine V_iload_n C dX1_setPrice_45 rfl 2 rfl ?_
        refine Vm_iast C 13 0 rfl rfl (vqX1_isSheet h4) wC_s13 dX1_setPrice_46 ?_
        refine V_u (fun u46 hu46 => ?_)
        refine V_iload_n C dX1_setPrice_47 rfl 3 rfl ?_
        subst hu46
        subst hy36
        exact V_iret C rfl (vp_nar_int _) ((if_neg h4).trans ((if_neg h8).trans ((if_pos h14).trans rfl))) ((if_neg h4).trans ((if_neg h8).trans ((if_pos h14).trans rfl))) dX1_setPrice_48
      ·
        exact absurd (show (0 : Int32) = 1 from (hp0).symm.trans ((if_neg h4).trans ((if_neg h8).trans ((if_neg h14).trans rfl)))) (by decide)
theorem hdX1_grant : yX1_grant.cls ≠ "java/lang/invoke/MethodHandle" ∧ yX1_grant.cls ≠ "java/lang/invoke/VarHandle" ∧ (parseMethodDescriptor yX1_grant.desc).map (fun d => d.parameters.length) = some 2 := by decide +kernel
theorem hvX1_grant : yX1_grant.cls = RX1 ∧ yX1_grant.cls ≠ "java/lang/invoke/MethodHandle" ∧ yX1_grant.cls ≠ "java/lang/invoke/VarHandle" ∧ (parseMethodDescriptor yX1_grant.desc).map (fun d => d.parameters.length) = some 2 := by decide +kernel
theorem hinX1_grant_X1 : ∀ w ∈ u_ws RX1 TX1 12, w ∈ wsX1_grant := by decide +kernel
theorem hfX1_grant_35 : Cond.fieldLink RX1 35 "MeteredSheets" "ledger" "LMeteredSheets$Ledger;" ∈ wsX1_grant := by decide +kernel
theorem hinX1_grant_X0 : ∀ w ∈ u_ws RX0 TX0 8, w ∈ wsX1_grant := by decide +kernel
set_option maxHeartbeats 4000000 in
theorem kX1_grant {l : Launch} {D : va_G} {cI cZ : ClassId} {ad : Nat → Nat} (u : vM) (a1 : Int32) (a2 : Int32) (hp0 : xX1_grant u a1 a2 = 0) : mI D vwCl (tyF cI cZ) xN (wC cI cZ ad) l yX1_grant wsX1_grant rmX1_grant [.ref (ad 0), .int a1, .int a2] u (rX1_grant u a1 a2) (uX1_grant u a1 a2) := by
  refine mI_of (cc := cX1_grant) (maxL := 3) (ret := (some .int)) (own := RX1) rfl (by decide) rfl (wC_ok cI cZ ad) (Nat.le_of_ble_eq_true rfl) (fun p e s m args below meth c A C => ?_)
  refine V_ls (ls' := [(0, .ref (ad 0)), (1, .int a1), (2, .int a2)]) rfl ?_
  refine V_iload_n C dX1_grant_0 rfl 1 rfl ?_
  refine V_cSi1 C xN_ok (kX1_isSheet _ _) (va_cwS 1 C.2.2.1 gX1_grant_X1_isSheet rfl rfl rfl hdX1_isSheet ⟨Nat.le_of_ble_eq_true rfl, Nat.le_of_ble_eq_true rfl⟩) (Nat.le_of_ble_eq_true rfl) ⟨(Nat.le_of_ble_eq_true rfl), (Nat.le_of_ble_eq_true rfl)⟩ dX1_grant_1 ?_
  refine V_if_eq (tgt := 19) C dX1_grant_4 (by decide) (fun h4 => ?_) (fun h4 => ?_)
  ·
    exact absurd (show (0 : Int32) = 1 from (hp0).symm.trans ((if_pos h4).trans rfl)) (by decide)
  ·
    refine V_iload_n C dX1_grant_7 rfl 2 rfl ?_
    refine V_iconst (v := 1) C dX1_grant_8 (by decide) ?_
    refine V_icmp_lt (tgt := 19) C dX1_grant_9 (by decide) (fun h9 => ?_) (fun h9 => ?_)
    ·
      exact absurd (show (0 : Int32) = 1 from (hp0).symm.trans ((if_neg h4).trans ((if_pos h9).trans rfl))) (by decide)
    ·
      refine V_iload_n C dX1_grant_12 rfl 2 rfl ?_
      refine V_sipush (v := 10000) C dX1_grant_13 (by decide) ?_
      refine V_icmp_le (tgt := 29) C dX1_grant_16 (by decide) (fun h16 => ?_) (fun h16 => ?_)
      ·
        refine V_aload_n C dX1_grant_29 rfl 0 rfl ?_
        refine V_get (Cn := RX1) (T := TX1) (N := 12) C hinX1_grant_X1 0 rfl rfl 7 (by decide) hfX1_grant_35 rfl rfl dX1_grant_30 ?_
        refine V_getN (Cn := RX0) (T := TX0) (N := 8) C hinX1_grant_X0 8 rfl rfl 1 (by decide) (C.2.2.2.2.2.2.2.2.2.2 _ nwX1_108) rfl rfl dX1_grant_33 ?_
        refine V_iload_n C dX1_grant_36 rfl 1 rfl ?_
        refine V_dup2 C dX1_grant_37 rfl rfl ?_
        refine Vm_iald C 14 0 rfl rfl (vqX1_isSheet h4) dX1_grant_38 ?_
        refine V_iload_n C dX1_grant_39 rfl 2 rfl ?_
        refine V_iadd C dX1_grant_40 ?_
        refine Vm_iast C 14 0 rfl rfl (vqX1_isSheet h4) wC_s14 dX1_grant_41 ?_
        refine V_u (fun u41 hu41 => ?_)
        refine V_aload_n C dX1_grant_42 rfl 0 rfl ?_
        refine V_get (Cn := RX1) (T := TX1) (N := 12) C hinX1_grant_X1 0 rfl rfl 7 (by decide) hfX1_grant_35 rfl rfl dX1_grant_43 ?_
        refine V_getN (Cn := RX0) (T := TX0) (N := 8) C hinX1_grant_X0 8 rfl rfl 1 (by decide) (C.2.2.2.2.2.2.2.2.2.2 _ nwX1_108) rfl rfl dX1_grant_46 ?_
        refine V_iload_n C dX1_grant_49 rfl 1 rfl ?_
        refine Vm_iald C 14 0 rfl rfl (vqX1_isSheet h4) dX1_grant_50 ?_
        subst hu41
        exact V_iret C rfl (vp_nar_int _) ((if_neg h4).trans ((if_neg h9).trans ((if_pos h16).trans rfl))) ((if_neg h4).trans ((if_neg h9).trans ((if_pos h16).trans rfl))) dX1_grant_51
      ·
        exact absurd (show (0 : Int32) = 1 from (hp0).symm.trans ((if_neg h4).trans ((if_neg h9).trans ((if_neg h16).trans rfl)))) (by decide)
theorem hdX1_budget : yX1_budget.cls ≠ "java/lang/invoke/MethodHandle" ∧ yX1_budget.cls ≠ "java/lang/invoke/VarHandle" ∧ (parseMethodDescriptor yX1_budget.desc).map (fun d => d.parameters.length) = some 1 := by decide +kernel
theorem hvX1_budget : yX1_budget.cls = RX1 ∧ yX1_budget.cls ≠ "java/lang/invoke/MethodHandle" ∧ yX1_budget.cls ≠ "java/lang/invoke/VarHandle" ∧ (parseMethodDescriptor yX1_budget.desc).map (fun d => d.parameters.length) = some 1 := by decide +kernel
theorem hinX1_budget_X1 : ∀ w ∈ u_ws RX1 TX1 12, w ∈ wsX1_budget := by decide +kernel
theorem hfX1_budget_35 : Cond.fieldLink RX1 35 "MeteredSheets" "ledger" "LMeteredSheets$Ledger;" ∈ wsX1_budget := by decide +kernel
theorem hinX1_budget_X0 : ∀ w ∈ u_ws RX0 TX0 8, w ∈ wsX1_budget := by decide +kernel
set_option maxHeartbeats 4000000 in
theorem kX1_budget {l : Launch} {D : va_G} {cI cZ : ClassId} {ad : Nat → Nat} (u : vM) (a1 : Int32) (hp0 : xX1_budget u a1 = 0) : mI D vwCl (tyF cI cZ) xN (wC cI cZ ad) l yX1_budget wsX1_budget rmX1_budget [.ref (ad 0), .int a1] u (rX1_budget u a1) u := by
  refine mI_of (cc := cX1_budget) (maxL := 2) (ret := (some .int)) (own := RX1) rfl (by decide) rfl (wC_ok cI cZ ad) (Nat.le_of_ble_eq_true rfl) (fun p e s m args below meth c A C => ?_)
  refine V_ls (ls' := [(0, .ref (ad 0)), (1, .int a1)]) rfl ?_
  refine V_iload_n C dX1_budget_0 rfl 1 rfl ?_
  refine V_cSi1 C xN_ok (kX1_isSheet _ _) (va_cwS 1 C.2.2.1 gX1_budget_X1_isSheet rfl rfl rfl hdX1_isSheet ⟨Nat.le_of_ble_eq_true rfl, Nat.le_of_ble_eq_true rfl⟩) (Nat.le_of_ble_eq_true rfl) ⟨(Nat.le_of_ble_eq_true rfl), (Nat.le_of_ble_eq_true rfl)⟩ dX1_budget_1 ?_
  refine V_if_ne (tgt := 17) C dX1_budget_4 (by decide) (fun h4 => ?_) (fun h4 => ?_)
  ·
    refine V_aload_n C dX1_budget_17 rfl 0 rfl ?_
    refine V_get (Cn := RX1) (T := TX1) (N := 12) C hinX1_budget_X1 0 rfl rfl 7 (by decide) hfX1_budget_35 rfl rfl dX1_budget_18 ?_
    refine V_getN (Cn := RX0) (T := TX0) (N := 8) C hinX1_budget_X0 8 rfl rfl 1 (by decide) (C.2.2.2.2.2.2.2.2.2.2 _ nwX1_108) rfl rfl dX1_budget_21 ?_
    refine V_iload_n C dX1_budget_24 rfl 1 rfl ?_
    refine Vm_iald C 14 0 rfl rfl (vqX1_isSheet h4) dX1_budget_25 ?_
    exact V_iret C rfl (vp_nar_int _) ((if_neg h4).trans rfl) rfl dX1_budget_26
  ·
    exact absurd (show (0 : Int32) = 1 from (hp0).symm.trans ((if_pos h4).trans rfl)) (by decide)
theorem hdX1_earned : yX1_earned.cls ≠ "java/lang/invoke/MethodHandle" ∧ yX1_earned.cls ≠ "java/lang/invoke/VarHandle" ∧ (parseMethodDescriptor yX1_earned.desc).map (fun d => d.parameters.length) = some 1 := by decide +kernel
theorem hvX1_earned : yX1_earned.cls = RX1 ∧ yX1_earned.cls ≠ "java/lang/invoke/MethodHandle" ∧ yX1_earned.cls ≠ "java/lang/invoke/VarHandle" ∧ (parseMethodDescriptor yX1_earned.desc).map (fun d => d.parameters.length) = some 1 := by decide +kernel
theorem hinX1_earned_X1 : ∀ w ∈ u_ws RX1 TX1 12, w ∈ wsX1_earned := by decide +kernel
theorem hfX1_earned_35 : Cond.fieldLink RX1 35 "MeteredSheets" "ledger" "LMeteredSheets$Ledger;" ∈ wsX1_earned := by decide +kernel
theorem hinX1_earned_X0 : ∀ w ∈ u_ws RX0 TX0 8, w ∈ wsX1_earned := by decide +kernel
set_option maxHeartbeats 4000000 in
theorem kX1_earned {l : Launch} {D : va_G} {cI cZ : ClassId} {ad : Nat → Nat} (u : vM) (a1 : Int32) (hp0 : xX1_earned u a1 = 0) : mI D vwCl (tyF cI cZ) xN (wC cI cZ ad) l yX1_earned wsX1_earned rmX1_earned [.ref (ad 0), .int a1] u (rX1_earned u a1) u := by
  refine mI_of (cc := cX1_earned) (maxL := 2) (ret := (some .int)) (own := RX1) rfl (by decide) rfl (wC_ok cI cZ ad) (Nat.le_of_ble_eq_true rfl) (fun p e s m args below meth c A C => ?_)
  refine V_ls (ls' := [(0, .ref (ad 0)), (1, .int a1)]) rfl ?_
  refine V_iload_n C dX1_earned_0 rfl 1 rfl ?_
  refine V_cSi1 C xN_ok (kX1_isSheet _ _) (va_cwS 1 C.2.2.1 gX1_earned_X1_isSheet rfl rfl rfl hdX1_isSheet ⟨Nat.le_of_ble_eq_true rfl, Nat.le_of_ble_eq_true rfl⟩) (Nat.le_of_ble_eq_true rfl) ⟨(Nat.le_of_ble_eq_true rfl), (Nat.le_of_ble_eq_true rfl)⟩ dX1_earned_1 ?_
  refine V_if_ne (tgt := 17) C dX1_earned_4 (by decide) (fun h4 => ?_) (fun h4 => ?_)
  ·
    refine V_aload_n C dX1_earned_17 rfl 0 rfl ?_
    refine V_get (Cn := RX1) (T := TX1) (N := 12) C hinX1_earned_X1 0 rfl rfl 7 (by decide) hfX1_earned_35 rfl rfl dX1_earned_18 ?_
    refine V_getN (Cn := RX0) (T := TX0) (N := 8) C hinX1_earned_X0 8 rfl rfl 2 (by decide) (C.2.2.2.2.2.2.2.2.2.2 _ nwX1_113) rfl rfl dX1_earned_21 ?_
    refine V_iload_n C dX1_earned_24 rfl 1 rfl ?_
    refine Vm_iald C 15 0 rfl rfl (vqX1_isSheet h4) dX1_earned_25 ?_
    exact V_iret C rfl (vp_nar_int _) ((if_neg h4).trans rfl) rfl dX1_earned_26
  ·
    exact absurd (show (0 : Int32) = 1 from (hp0).symm.trans ((if_pos h4).trans rfl)) (by decide)
theorem hdX1_caused : yX1_caused.cls ≠ "java/lang/invoke/MethodHandle" ∧ yX1_caused.cls ≠ "java/lang/invoke/VarHandle" ∧ (parseMethodDescriptor yX1_caused.desc).map (fun d => d.parameters.length) = some 1 := by decide +kernel
theorem hvX1_caused : yX1_caused.cls = RX1 ∧ yX1_caused.cls ≠ "java/lang/invoke/MethodHandle" ∧ yX1_caused.cls ≠ "java/lang/invoke/VarHandle" ∧ (parseMethodDescriptor yX1_caused.desc).map (fun d => d.parameters.length) = some 1 := by decide +kernel
theorem hinX1_caused_X1 : ∀ w ∈ u_ws RX1 TX1 12, w ∈ wsX1_caused := by decide +kernel
theorem hfX1_caused_35 : Cond.fieldLink RX1 35 "MeteredSheets" "ledger" "LMeteredSheets$Ledger;" ∈ wsX1_caused := by decide +kernel
theorem hinX1_caused_X0 : ∀ w ∈ u_ws RX0 TX0 8, w ∈ wsX1_caused := by decide +kernel
set_option maxHeartbeats 4000000 in
theorem kX1_caused {l : Launch} {D : va_G} {cI cZ : ClassId} {ad : Nat → Nat} (u : vM) (a1 : Int32) (hp0 : xX1_caused u a1 = 0) : mI D vwCl (tyF cI cZ) xN (wC cI cZ ad) l yX1_caused wsX1_caused rmX1_caused [.ref (ad 0), .int a1] u (rX1_caused u a1) u := by
  refine mI_of (cc := cX1_caused) (maxL := 2) (ret := (some .int)) (own := RX1) rfl (by decide) rfl (wC_ok cI cZ ad) (Nat.le_of_ble_eq_true rfl) (fun p e s m args below meth c A C => ?_)
  refine V_ls (ls' := [(0, .ref (ad 0)), (1, .int a1)]) rfl ?_
  refine V_iload_n C dX1_caused_0 rfl 1 rfl ?_
  refine V_cSi1 C xN_ok (kX1_isUser _ _) (va_cwS 1 C.2.2.1 gX1_caused_X1_isUser rfl rfl rfl hdX1_isUser ⟨Nat.le_of_ble_eq_true rfl, Nat.le_of_ble_eq_true rfl⟩) (Nat.le_of_ble_eq_true rfl) ⟨(Nat.le_of_ble_eq_true rfl), (Nat.le_of_ble_eq_true rfl)⟩ dX1_caused_1 ?_
  refine V_if_ne (tgt := 17) C dX1_caused_4 (by decide) (fun h4 => ?_) (fun h4 => ?_)
  ·
    refine V_aload_n C dX1_caused_17 rfl 0 rfl ?_
    refine V_get (Cn := RX1) (T := TX1) (N := 12) C hinX1_caused_X1 0 rfl rfl 7 (by decide) hfX1_caused_35 rfl rfl dX1_caused_18 ?_
    refine V_getN (Cn := RX0) (T := TX0) (N := 8) C hinX1_caused_X0 8 rfl rfl 4 (by decide) (C.2.2.2.2.2.2.2.2.2.2 _ nwX1_116) rfl rfl dX1_caused_21 ?_
    refine V_iload_n C dX1_caused_24 rfl 1 rfl ?_
    refine Vm_iald C 17 0 rfl rfl (vqX1_isUser h4) dX1_caused_25 ?_
    exact V_iret C rfl (vp_nar_int _) ((if_neg h4).trans rfl) rfl dX1_caused_26
  ·
    exact absurd (show (0 : Int32) = 1 from (hp0).symm.trans ((if_pos h4).trans rfl)) (by decide)
theorem hdX1_value : yX1_value.cls ≠ "java/lang/invoke/MethodHandle" ∧ yX1_value.cls ≠ "java/lang/invoke/VarHandle" ∧ (parseMethodDescriptor yX1_value.desc).map (fun d => d.parameters.length) = some 1 := by decide +kernel
theorem hvX1_value : yX1_value.cls = RX1 ∧ yX1_value.cls ≠ "java/lang/invoke/MethodHandle" ∧ yX1_value.cls ≠ "java/lang/invoke/VarHandle" ∧ (parseMethodDescriptor yX1_value.desc).map (fun d => d.parameters.length) = some 1 := by decide +kernel
theorem hinX1_value_X1 : ∀ w ∈ u_ws RX1 TX1 12, w ∈ wsX1_value := by decide +kernel
theorem hfX1_value_22 : Cond.fieldLink RX1 22 "MeteredSheets" "values" "[I" ∈ wsX1_value := by decide +kernel
set_option maxHeartbeats 4000000 in
theorem kX1_value {l : Launch} {D : va_G} {cI cZ : ClassId} {ad : Nat → Nat} (u : vM) (a1 : Int32) (hp0 : xX1_value u a1 = 0) : mI D vwCl (tyF cI cZ) xN (wC cI cZ ad) l yX1_value wsX1_value rmX1_value [.ref (ad 0), .int a1] u (rX1_value u a1) u := by
  refine mI_of (cc := cX1_value) (maxL := 2) (ret := (some .int)) (own := RX1) rfl (by decide) rfl (wC_ok cI cZ ad) (Nat.le_of_ble_eq_true rfl) (fun p e s m args below meth c A C => ?_)
  refine V_ls (ls' := [(0, .ref (ad 0)), (1, .int a1)]) rfl ?_
  refine V_iload_n C dX1_value_0 rfl 1 rfl ?_
  refine V_cSi1 C xN_ok (kX1_isCell _ _) (va_cwS 1 C.2.2.1 gX1_value_X1_isCell rfl rfl rfl hdX1_isCell ⟨Nat.le_of_ble_eq_true rfl, Nat.le_of_ble_eq_true rfl⟩) (Nat.le_of_ble_eq_true rfl) ⟨(Nat.le_of_ble_eq_true rfl), (Nat.le_of_ble_eq_true rfl)⟩ dX1_value_1 ?_
  refine V_if_ne (tgt := 17) C dX1_value_4 (by decide) (fun h4 => ?_) (fun h4 => ?_)
  ·
    refine V_aload_n C dX1_value_17 rfl 0 rfl ?_
    refine V_get (Cn := RX1) (T := TX1) (N := 12) C hinX1_value_X1 0 rfl rfl 4 (by decide) hfX1_value_22 rfl rfl dX1_value_18 ?_
    refine V_iload_n C dX1_value_21 rfl 1 rfl ?_
    refine Vm_iald C 5 0 rfl rfl (vqX1_isCell h4) dX1_value_22 ?_
    exact V_iret C rfl (vp_nar_int _) ((if_neg h4).trans rfl) rfl dX1_value_23
  ·
    exact absurd (show (0 : Int32) = 1 from (hp0).symm.trans ((if_pos h4).trans rfl)) (by decide)
theorem hdX1_isMarked : yX1_isMarked.cls ≠ "java/lang/invoke/MethodHandle" ∧ yX1_isMarked.cls ≠ "java/lang/invoke/VarHandle" ∧ (parseMethodDescriptor yX1_isMarked.desc).map (fun d => d.parameters.length) = some 1 := by decide +kernel
theorem hvX1_isMarked : yX1_isMarked.cls = RX1 ∧ yX1_isMarked.cls ≠ "java/lang/invoke/MethodHandle" ∧ yX1_isMarked.cls ≠ "java/lang/invoke/VarHandle" ∧ (parseMethodDescriptor yX1_isMarked.desc).map (fun d => d.parameters.length) = some 1 := by decide +kernel
theorem hinX1_isMarked_X1 : ∀ w ∈ u_ws RX1 TX1 12, w ∈ wsX1_isMarked := by decide +kernel
theorem hfX1_isMarked_25 : Cond.fieldLink RX1 25 "MeteredSheets" "marked" "[Z" ∈ wsX1_isMarked := by decide +kernel
set_option maxHeartbeats 4000000 in
theorem kX1_isMarked {l : Launch} {D : va_G} {cI cZ : ClassId} {ad : Nat → Nat} (u : vM) (a1 : Int32) (hp0 : bo u 6) (hp1 : xX1_isMarked u a1 = 0) : mI D vwCl (tyF cI cZ) xN (wC cI cZ ad) l yX1_isMarked wsX1_isMarked rmX1_isMarked [.ref (ad 0), .int a1] u (rX1_isMarked u a1) u := by
  refine mI_of (cc := cX1_isMarked) (maxL := 2) (ret := (some .boolean)) (own := RX1) rfl (by decide) rfl (wC_ok cI cZ ad) (Nat.le_of_ble_eq_true rfl) (fun p e s m args below meth c A C => ?_)
  refine V_ls (ls' := [(0, .ref (ad 0)), (1, .int a1)]) rfl ?_
  refine V_iload_n C dX1_isMarked_0 rfl 1 rfl ?_
  refine V_cSi1 C xN_ok (kX1_isCell _ _) (va_cwS 1 C.2.2.1 gX1_isMarked_X1_isCell rfl rfl rfl hdX1_isCell ⟨Nat.le_of_ble_eq_true rfl, Nat.le_of_ble_eq_true rfl⟩) (Nat.le_of_ble_eq_true rfl) ⟨(Nat.le_of_ble_eq_true rfl), (Nat.le_of_ble_eq_true rfl)⟩ dX1_isMarked_1 ?_
  refine V_if_ne (tgt := 17) C dX1_isMarked_4 (by decide) (fun h4 => ?_) (fun h4 => ?_)
  ·
    refine V_aload_n C dX1_isMarked_17 rfl 0 rfl ?_
    refine V_get (Cn := RX1) (T := TX1) (N := 12) C hinX1_isMarked_X1 0 rfl rfl 5 (by decide) hfX1_isMarked_25 rfl rfl dX1_isMarked_18 ?_
    refine V_iload_n C dX1_isMarked_21 rfl 1 rfl ?_
    refine Vm_zald C 6 1 rfl rfl (vqX1_isCell h4) dX1_isMarked_22 ?_
    exact V_iret C rfl (nb_of (hp0 _)) ((if_neg h4).trans rfl) rfl dX1_isMarked_23
  ·
    exact absurd (show (0 : Int32) = 1 from (hp1).symm.trans ((if_pos h4).trans rfl)) (by decide)
theorem hdX1_valueAnew : yX1_valueAnew.cls ≠ "java/lang/invoke/MethodHandle" ∧ yX1_valueAnew.cls ≠ "java/lang/invoke/VarHandle" ∧ (parseMethodDescriptor yX1_valueAnew.desc).map (fun d => d.parameters.length) = some 1 := by decide +kernel
theorem hvX1_valueAnew : yX1_valueAnew.cls = RX1 ∧ yX1_valueAnew.cls ≠ "java/lang/invoke/MethodHandle" ∧ yX1_valueAnew.cls ≠ "java/lang/invoke/VarHandle" ∧ (parseMethodDescriptor yX1_valueAnew.desc).map (fun d => d.parameters.length) = some 1 := by decide +kernel
theorem hinX1_valueAnew_X1 : ∀ w ∈ u_ws RX1 TX1 12, w ∈ wsX1_valueAnew := by decide +kernel
theorem hfX1_valueAnew_29 : Cond.fieldLink RX1 29 "MeteredSheets" "order" "[I" ∈ wsX1_valueAnew := by decide +kernel
theorem hfX1_valueAnew_48 : Cond.fieldLink RX1 48 "MeteredSheets" "fresh" "[I" ∈ wsX1_valueAnew := by decide +kernel
set_option maxHeartbeats 4000000 in
theorem qX1_valueAnew_19 (C : vC p s m args meth c D vwCl (tyF cI cZ) xN A (wC cI cZ ad) cX1_valueAnew RX1 wsX1_valueAnew 4 (some .int)) {Q : State → Prop} (a1 : Int32) : ∀ (n k : Nat), k + n = 24 → ∀ (u : vM), (∀ r : vM, lpX1_valueAnew_19 n k u = r → V p l e rmX1_valueAnew s m args below meth c D vwCl A (wC cI cZ ad) 4 0 0 Q r 60 [(0, .ref (ad 0)), (1, .int a1), (2, .int (nI 24))] []) → V p l e rmX1_valueAnew s m args below meth c D vwCl A (wC cI cZ ad) 4 0 0 Q u 19 [(0, .ref (ad 0)), (1, .int a1), (2, .int (nI k))] [] := by
  intro n
  induction n with
  | zero =>
    intro k hk u KK
    obtain rfl : k = 24 := by omega
    refine V_iload_n C dX1_valueAnew_19 rfl 2 rfl ?_
    refine V_bipush (v := 24) C dX1_valueAnew_20 (by decide) ?_
    refine V_icmp_ge (tgt := 60) C dX1_valueAnew_22 (by decide) (fun _ => ?_) (fun h => absurd (by decide : (24 : Int32) ≤ nI 24) h)
    exact KK _ rfl
  | succ n ih =>
    intro k hk u KK
    have hkB : k < 24 := by omega
    refine V_iload_n C dX1_valueAnew_19 rfl 2 rfl ?_
    refine V_bipush (v := 24) C dX1_valueAnew_20 (by decide) ?_
    refine V_icmp_ge (tgt := 60) C dX1_valueAnew_22 (by decide) (fun h => absurd h (nI_ge hkB (by decide))) (fun _ => ?_)
    refine V_aload_n C dX1_valueAnew_25 rfl 0 rfl ?_
    refine V_get (Cn := RX1) (T := TX1) (N := 12) C hinX1_valueAnew_X1 0 rfl rfl 6 (by decide) hfX1_valueAnew_29 rfl rfl dX1_valueAnew_26 ?_
    refine V_iload_n C dX1_valueAnew_29 rfl 2 rfl ?_
    refine Vm_iald C 7 0 rfl rfl (vp_in_nI hkB (by decide)) dX1_valueAnew_30 ?_
    refine V_top (fun y31 hy31 => ?_)
    refine V_istore_n (ls' := [(0, .ref (ad 0)), (1, .int a1), (2, .int (nI k)), (3, .int y31)]) C dX1_valueAnew_31 rfl (by decide) rfl rfl ?_
    refine V_iload_n C dX1_valueAnew_32 rfl 3 rfl ?_
    refine V_cSi1 C xN_ok (kX1_isCell _ _) (va_cwS 1 C.2.2.1 gX1_valueAnew_X1_isCell rfl rfl rfl hdX1_isCell ⟨Nat.le_of_ble_eq_true rfl, Nat.le_of_ble_eq_true rfl⟩) (Nat.le_of_ble_eq_true rfl) ⟨(Nat.le_of_ble_eq_true rfl), (Nat.le_of_ble_eq_true rfl)⟩ dX1_valueAnew_33 ?_
    refine V_if_eq (tgt := 54) C dX1_valueAnew_36 (by decide) (fun h36 => ?_) (fun h36 => ?_)
    ·
      refine V_iinc (v := (nI (k + 1))) (ls' := [(0, .ref (ad 0)), (1, .int a1), (2, .int (nI (k + 1))), (3, .int y31)]) C dX1_valueAnew_54 2 rfl (nI_1 k) (by decide) rfl rfl ?_
      refine V_goto (tgt := 19) C dX1_valueAnew_57 (by decide) ?_
      subst hy31
      refine V_sub (ls' := _) [0, 1, 2] rfl ?_
      exact ih (k + 1) (by omega) _ (fun r hr => KK r (((if_pos h36).trans rfl).trans hr))
    ·
      refine V_aload_n C dX1_valueAnew_39 rfl 0 rfl ?_
      refine V_get (Cn := RX1) (T := TX1) (N := 12) C hinX1_valueAnew_X1 0 rfl rfl 11 (by decide) hfX1_valueAnew_48 rfl rfl dX1_valueAnew_40 ?_
      refine V_iload_n C dX1_valueAnew_43 rfl 3 rfl ?_
      refine V_aload_n C dX1_valueAnew_44 rfl 0 rfl ?_
      refine V_iload_n C dX1_valueAnew_45 rfl 3 rfl ?_
      refine V_aload_n C dX1_valueAnew_46 rfl 0 rfl ?_
      refine V_get (Cn := RX1) (T := TX1) (N := 12) C hinX1_valueAnew_X1 0 rfl rfl 11 (by decide) hfX1_valueAnew_48 rfl rfl dX1_valueAnew_47 ?_
      refine V_cVi2 C xN_ok (kX1_resultOf_v12 _ _ (vqX1_isCell h36)) (cwV 2 C.2.2.1 gX1_valueAnew_X1_resultOf rfl rfl rfl hvX1_resultOf ⟨Nat.le_of_ble_eq_true rfl, Nat.le_of_ble_eq_true rfl⟩) 0 rfl rfl (Nat.le_of_ble_eq_true rfl) ⟨(Nat.le_of_ble_eq_true rfl), (Nat.le_of_ble_eq_true rfl)⟩ dX1_valueAnew_50 ?_
      refine Vm_iast C 12 0 rfl rfl (vqX1_isCell h36) wC_s12 dX1_valueAnew_53 ?_
      refine V_u (fun u53 hu53 => ?_)
      refine V_iinc (v := (nI (k + 1))) (ls' := [(0, .ref (ad 0)), (1, .int a1), (2, .int (nI (k + 1))), (3, .int y31)]) C dX1_valueAnew_54 2 rfl (nI_1 k) (by decide) rfl rfl ?_
      refine V_goto (tgt := 19) C dX1_valueAnew_57 (by decide) ?_
      subst hu53
      subst hy31
      refine V_sub (ls' := _) [0, 1, 2] rfl ?_
      exact ih (k + 1) (by omega) _ (fun r hr => KK r (((if_neg h36).trans rfl).trans hr))
set_option maxHeartbeats 4000000 in
theorem kX1_valueAnew {l : Launch} {D : va_G} {cI cZ : ClassId} {ad : Nat → Nat} (u : vM) (a1 : Int32) (hp0 : xX1_valueAnew u a1 = 0) : mI D vwCl (tyF cI cZ) xN (wC cI cZ ad) l yX1_valueAnew wsX1_valueAnew rmX1_valueAnew [.ref (ad 0), .int a1] u (rX1_valueAnew u a1) (uX1_valueAnew u a1) := by
  refine mI_of (cc := cX1_valueAnew) (maxL := 4) (ret := (some .int)) (own := RX1) rfl (by decide) rfl (wC_ok cI cZ ad) (Nat.le_of_ble_eq_true rfl) (fun p e s m args below meth c A C => ?_)
  refine V_ls (ls' := [(0, .ref (ad 0)), (1, .int a1)]) rfl ?_
  refine V_iload_n C dX1_valueAnew_0 rfl 1 rfl ?_
  refine V_cSi1 C xN_ok (kX1_isCell _ _) (va_cwS 1 C.2.2.1 gX1_valueAnew_X1_isCell rfl rfl rfl hdX1_isCell ⟨Nat.le_of_ble_eq_true rfl, Nat.le_of_ble_eq_true rfl⟩) (Nat.le_of_ble_eq_true rfl) ⟨(Nat.le_of_ble_eq_true rfl), (Nat.le_of_ble_eq_true rfl)⟩ dX1_valueAnew_1 ?_
  refine V_if_ne (tgt := 17) C dX1_valueAnew_4 (by decide) (fun h4 => ?_) (fun h4 => ?_)
  ·
    refine V_iconst (v := 0) C dX1_valueAnew_17 (by decide) ?_
    refine V_istore_n (ls' := [(0, .ref (ad 0)), (1, .int a1), (2, .int 0)]) C dX1_valueAnew_18 rfl (by decide) rfl rfl ?_
    refine V_sub (ls' := [(0, .ref (ad 0)), (1, .int a1), (2, .int 0)]) [0, 1, 2] rfl ?_
    refine qX1_valueAnew_19 C a1 24 0 (by decide) u (fun r19 hr19 => ?_)
    refine V_aload_n C dX1_valueAnew_60 rfl 0 rfl ?_
    refine V_get (Cn := RX1) (T := TX1) (N := 12) C hinX1_valueAnew_X1 0 rfl rfl 11 (by decide) hfX1_valueAnew_48 rfl rfl dX1_valueAnew_61 ?_
    refine V_iload_n C dX1_valueAnew_64 rfl 1 rfl ?_
    refine Vm_iald C 12 0 rfl rfl (vqX1_isCell h4) dX1_valueAnew_65 ?_
    subst hr19
    exact V_iret C rfl (vp_nar_int _) ((if_neg h4).trans rfl) ((if_neg h4).trans rfl) dX1_valueAnew_66
  ·
    exact absurd (show (0 : Int32) = 1 from (hp0).symm.trans ((if_pos h4).trans rfl)) (by decide)
theorem hdX1_readings : yX1_readings.cls ≠ "java/lang/invoke/MethodHandle" ∧ yX1_readings.cls ≠ "java/lang/invoke/VarHandle" ∧ (parseMethodDescriptor yX1_readings.desc).map (fun d => d.parameters.length) = some 0 := by decide +kernel
theorem hvX1_readings : yX1_readings.cls = RX1 ∧ yX1_readings.cls ≠ "java/lang/invoke/MethodHandle" ∧ yX1_readings.cls ≠ "java/lang/invoke/VarHandle" ∧ (parseMethodDescriptor yX1_readings.desc).map (fun d => d.parameters.length) = some 0 := by decide +kernel
theorem hinX1_readings_X1 : ∀ w ∈ u_ws RX1 TX1 12, w ∈ wsX1_readings := by decide +kernel
theorem hfX1_readings_35 : Cond.fieldLink RX1 35 "MeteredSheets" "ledger" "LMeteredSheets$Ledger;" ∈ wsX1_readings := by decide +kernel
theorem hinX1_readings_X0 : ∀ w ∈ u_ws RX0 TX0 8, w ∈ wsX1_readings := by decide +kernel
set_option maxHeartbeats 4000000 in
theorem kX1_readings {l : Launch} {D : va_G} {cI cZ : ClassId} {ad : Nat → Nat} (u : vM) : mI D vwCl (tyF cI cZ) xN (wC cI cZ ad) l yX1_readings wsX1_readings rmX1_readings [.ref (ad 0)] u (rX1_readings u) u := by
  refine mI_of (cc := cX1_readings) (maxL := 1) (ret := (some .int)) (own := RX1) rfl (by decide) rfl (wC_ok cI cZ ad) (Nat.le_of_ble_eq_true rfl) (fun p e s m args below meth c A C => ?_)
  refine V_ls (ls' := [(0, .ref (ad 0))]) rfl ?_
  refine V_aload_n C dX1_readings_0 rfl 0 rfl ?_
  refine V_get (Cn := RX1) (T := TX1) (N := 12) C hinX1_readings_X1 0 rfl rfl 7 (by decide) hfX1_readings_35 rfl rfl dX1_readings_1 ?_
  refine V_getN (Cn := RX0) (T := TX0) (N := 8) C hinX1_readings_X0 8 rfl rfl 7 (by decide) (C.2.2.2.2.2.2.2.2.2.2 _ nwX1_125) rfl rfl dX1_readings_4 ?_
  show V p l e _ s m args below meth c D vwCl A (wC cI cZ ad) _ _ _ _ _ _ _ (.int (mfd u 8) :: _)
  exact V_iret C rfl (vp_nar_int _) rfl rfl dX1_readings_7
theorem hdX1_reading : yX1_reading.cls ≠ "java/lang/invoke/MethodHandle" ∧ yX1_reading.cls ≠ "java/lang/invoke/VarHandle" ∧ (parseMethodDescriptor yX1_reading.desc).map (fun d => d.parameters.length) = some 1 := by decide +kernel
theorem hvX1_reading : yX1_reading.cls = RX1 ∧ yX1_reading.cls ≠ "java/lang/invoke/MethodHandle" ∧ yX1_reading.cls ≠ "java/lang/invoke/VarHandle" ∧ (parseMethodDescriptor yX1_reading.desc).map (fun d => d.parameters.length) = some 1 := by decide +kernel
theorem hinX1_reading_X1 : ∀ w ∈ u_ws RX1 TX1 12, w ∈ wsX1_reading := by decide +kernel
theorem hfX1_reading_35 : Cond.fieldLink RX1 35 "MeteredSheets" "ledger" "LMeteredSheets$Ledger;" ∈ wsX1_reading := by decide +kernel
theorem hinX1_reading_X0 : ∀ w ∈ u_ws RX0 TX0 8, w ∈ wsX1_reading := by decide +kernel
set_option maxHeartbeats 4000000 in
theorem kX1_reading {l : Launch} {D : va_G} {cI cZ : ClassId} {ad : Nat → Nat} (u : vM) (a1 : Int32) (hp0 : xX1_reading u a1 = 0) : mI D vwCl (tyF cI cZ) xN (wC cI cZ ad) l yX1_reading wsX1_reading rmX1_reading [.ref (ad 0), .int a1] u (rX1_reading u a1) u := by
  refine mI_of (cc := cX1_reading) (maxL := 2) (ret := (some .int)) (own := RX1) rfl (by decide) rfl (wC_ok cI cZ ad) (Nat.le_of_ble_eq_true rfl) (fun p e s m args below meth c A C => ?_)
  refine V_ls (ls' := [(0, .ref (ad 0)), (1, .int a1)]) rfl ?_
  refine V_iload_n C dX1_reading_0 rfl 1 rfl ?_
  refine V_if_lt (tgt := 22) C dX1_reading_1 (by decide) (fun h1 => ?_) (fun h1 => ?_)
  ·
    exact absurd (show (0 : Int32) = 1 from (hp0).symm.trans ((if_pos h1).trans rfl)) (by decide)
  ·
    refine V_iload_n C dX1_reading_4 rfl 1 rfl ?_
    refine V_aload_n C dX1_reading_5 rfl 0 rfl ?_
    refine V_get (Cn := RX1) (T := TX1) (N := 12) C hinX1_reading_X1 0 rfl rfl 7 (by decide) hfX1_reading_35 rfl rfl dX1_reading_6 ?_
    refine V_getN (Cn := RX0) (T := TX0) (N := 8) C hinX1_reading_X0 8 rfl rfl 7 (by decide) (C.2.2.2.2.2.2.2.2.2.2 _ nwX1_125) rfl rfl dX1_reading_9 ?_
    show V p l e _ s m args below meth c D vwCl A (wC cI cZ ad) _ _ _ _ _ _ _ (.int (mfd u 8) :: _)
    refine V_icmp_ge (tgt := 22) C dX1_reading_12 (by decide) (fun h12 => ?_) (fun h12 => ?_)
    ·
      exact absurd (show (0 : Int32) = 1 from (hp0).symm.trans ((if_neg h1).trans ((if_pos h12).trans rfl))) (by decide)
    ·
      refine V_iload_n C dX1_reading_15 rfl 1 rfl ?_
      refine V_sipush (v := 500) C dX1_reading_16 (by decide) ?_
      refine V_icmp_lt (tgt := 32) C dX1_reading_19 (by decide) (fun h19 => ?_) (fun h19 => ?_)
      ·
        refine V_aload_n C dX1_reading_32 rfl 0 rfl ?_
        refine V_get (Cn := RX1) (T := TX1) (N := 12) C hinX1_reading_X1 0 rfl rfl 7 (by decide) hfX1_reading_35 rfl rfl dX1_reading_33 ?_
        refine V_getN (Cn := RX0) (T := TX0) (N := 8) C hinX1_reading_X0 8 rfl rfl 6 (by decide) (C.2.2.2.2.2.2.2.2.2.2 _ nwX1_134) rfl rfl dX1_reading_36 ?_
        refine V_iload_n C dX1_reading_39 rfl 1 rfl ?_
        refine Vm_iald C 19 0 rfl rfl (vq_lt1 h1 h19) dX1_reading_40 ?_
        exact V_iret C rfl (vp_nar_int _) ((if_neg h1).trans ((if_neg h12).trans ((if_pos h19).trans rfl))) rfl dX1_reading_41
      ·
        exact absurd (show (0 : Int32) = 1 from (hp0).symm.trans ((if_neg h1).trans ((if_neg h12).trans ((if_neg h19).trans rfl)))) (by decide)
theorem hdX1_timesRead : yX1_timesRead.cls ≠ "java/lang/invoke/MethodHandle" ∧ yX1_timesRead.cls ≠ "java/lang/invoke/VarHandle" ∧ (parseMethodDescriptor yX1_timesRead.desc).map (fun d => d.parameters.length) = some 2 := by decide +kernel
theorem hvX1_timesRead : yX1_timesRead.cls = RX1 ∧ yX1_timesRead.cls ≠ "java/lang/invoke/MethodHandle" ∧ yX1_timesRead.cls ≠ "java/lang/invoke/VarHandle" ∧ (parseMethodDescriptor yX1_timesRead.desc).map (fun d => d.parameters.length) = some 2 := by decide +kernel
theorem hinX1_timesRead_X1 : ∀ w ∈ u_ws RX1 TX1 12, w ∈ wsX1_timesRead := by decide +kernel
theorem hfX1_timesRead_35 : Cond.fieldLink RX1 35 "MeteredSheets" "ledger" "LMeteredSheets$Ledger;" ∈ wsX1_timesRead := by decide +kernel
theorem hinX1_timesRead_X0 : ∀ w ∈ u_ws RX0 TX0 8, w ∈ wsX1_timesRead := by decide +kernel
set_option maxHeartbeats 4000000 in
theorem kX1_timesRead {l : Launch} {D : va_G} {cI cZ : ClassId} {ad : Nat → Nat} (u : vM) (a1 : Int32) (a2 : Int32) (hp0 : xX1_timesRead u a1 a2 = 0) : mI D vwCl (tyF cI cZ) xN (wC cI cZ ad) l yX1_timesRead wsX1_timesRead rmX1_timesRead [.ref (ad 0), .int a1, .int a2] u (rX1_timesRead u a1 a2) u := by
  refine mI_of (cc := cX1_timesRead) (maxL := 3) (ret := (some .int)) (own := RX1) rfl (by decide) rfl (wC_ok cI cZ ad) (Nat.le_of_ble_eq_true rfl) (fun p e s m args below meth c A C => ?_)
  refine V_ls (ls' := [(0, .ref (ad 0)), (1, .int a1), (2, .int a2)]) rfl ?_
  refine V_iload_n C dX1_timesRead_0 rfl 1 rfl ?_
  refine V_cSi1 C xN_ok (kX1_isCell _ _) (va_cwS 1 C.2.2.1 gX1_timesRead_X1_isCell rfl rfl rfl hdX1_isCell ⟨Nat.le_of_ble_eq_true rfl, Nat.le_of_ble_eq_true rfl⟩) (Nat.le_of_ble_eq_true rfl) ⟨(Nat.le_of_ble_eq_true rfl), (Nat.le_of_ble_eq_true rfl)⟩ dX1_timesRead_1 ?_
  refine V_if_eq (tgt := 14) C dX1_timesRead_4 (by decide) (fun h4 => ?_) (fun h4 => ?_)
  ·
    exact absurd (show (0 : Int32) = 1 from (hp0).symm.trans ((if_pos h4).trans rfl)) (by decide)
  ·
    refine V_iload_n C dX1_timesRead_7 rfl 2 rfl ?_
    refine V_cSi1 C xN_ok (kX1_isCell _ _) (va_cwS 1 C.2.2.1 gX1_timesRead_X1_isCell rfl rfl rfl hdX1_isCell ⟨Nat.le_of_ble_eq_true rfl, Nat.le_of_ble_eq_true rfl⟩) (Nat.le_of_ble_eq_true rfl) ⟨(Nat.le_of_ble_eq_true rfl), (Nat.le_of_ble_eq_true rfl)⟩ dX1_timesRead_8 ?_
    refine V_if_ne (tgt := 24) C dX1_timesRead_11 (by decide) (fun h11 => ?_) (fun h11 => ?_)
    ·
      refine V_aload_n C dX1_timesRead_24 rfl 0 rfl ?_
      refine V_get (Cn := RX1) (T := TX1) (N := 12) C hinX1_timesRead_X1 0 rfl rfl 7 (by decide) hfX1_timesRead_35 rfl rfl dX1_timesRead_25 ?_
      refine V_getN (Cn := RX0) (T := TX0) (N := 8) C hinX1_timesRead_X0 8 rfl rfl 5 (by decide) (C.2.2.2.2.2.2.2.2.2.2 _ nwX1_139) rfl rfl dX1_timesRead_28 ?_
      refine V_iload_n C dX1_timesRead_31 rfl 1 rfl ?_
      refine V_bipush (v := 24) C dX1_timesRead_32 (by decide) ?_
      refine V_imul C dX1_timesRead_34 ?_
      refine V_iload_n C dX1_timesRead_35 rfl 2 rfl ?_
      refine V_iadd C dX1_timesRead_36 ?_
      refine Vm_iald C 18 0 rfl rfl (vq_576 (vqX1_isCell h4) (vqX1_isCell h11)) dX1_timesRead_37 ?_
      exact V_iret C rfl (vp_nar_int _) ((if_neg h4).trans ((if_neg h11).trans rfl)) rfl dX1_timesRead_38
    ·
      exact absurd (show (0 : Int32) = 1 from (hp0).symm.trans ((if_neg h4).trans ((if_pos h11).trans rfl))) (by decide)
theorem hdX1_readOf : yX1_readOf.cls ≠ "java/lang/invoke/MethodHandle" ∧ yX1_readOf.cls ≠ "java/lang/invoke/VarHandle" ∧ (parseMethodDescriptor yX1_readOf.desc).map (fun d => d.parameters.length) = some 1 := by decide +kernel
theorem hvX1_readOf : yX1_readOf.cls = RX1 ∧ yX1_readOf.cls ≠ "java/lang/invoke/MethodHandle" ∧ yX1_readOf.cls ≠ "java/lang/invoke/VarHandle" ∧ (parseMethodDescriptor yX1_readOf.desc).map (fun d => d.parameters.length) = some 1 := by decide +kernel
theorem hinX1_readOf_X1 : ∀ w ∈ u_ws RX1 TX1 12, w ∈ wsX1_readOf := by decide +kernel
theorem hfX1_readOf_35 : Cond.fieldLink RX1 35 "MeteredSheets" "ledger" "LMeteredSheets$Ledger;" ∈ wsX1_readOf := by decide +kernel
theorem hinX1_readOf_X0 : ∀ w ∈ u_ws RX0 TX0 8, w ∈ wsX1_readOf := by decide +kernel
set_option maxHeartbeats 4000000 in
theorem kX1_readOf {l : Launch} {D : va_G} {cI cZ : ClassId} {ad : Nat → Nat} (u : vM) (a1 : Int32) (hp0 : xX1_readOf u a1 = 0) : mI D vwCl (tyF cI cZ) xN (wC cI cZ ad) l yX1_readOf wsX1_readOf rmX1_readOf [.ref (ad 0), .int a1] u (rX1_readOf u a1) u := by
  refine mI_of (cc := cX1_readOf) (maxL := 2) (ret := (some .int)) (own := RX1) rfl (by decide) rfl (wC_ok cI cZ ad) (Nat.le_of_ble_eq_true rfl) (fun p e s m args below meth c A C => ?_)
  refine V_ls (ls' := [(0, .ref (ad 0)), (1, .int a1)]) rfl ?_
  refine V_iload_n C dX1_readOf_0 rfl 1 rfl ?_
  refine V_cSi1 C xN_ok (kX1_isSheet _ _) (va_cwS 1 C.2.2.1 gX1_readOf_X1_isSheet rfl rfl rfl hdX1_isSheet ⟨Nat.le_of_ble_eq_true rfl, Nat.le_of_ble_eq_true rfl⟩) (Nat.le_of_ble_eq_true rfl) ⟨(Nat.le_of_ble_eq_true rfl), (Nat.le_of_ble_eq_true rfl)⟩ dX1_readOf_1 ?_
  refine V_if_ne (tgt := 17) C dX1_readOf_4 (by decide) (fun h4 => ?_) (fun h4 => ?_)
  ·
    refine V_aload_n C dX1_readOf_17 rfl 0 rfl ?_
    refine V_get (Cn := RX1) (T := TX1) (N := 12) C hinX1_readOf_X1 0 rfl rfl 7 (by decide) hfX1_readOf_35 rfl rfl dX1_readOf_18 ?_
    refine V_getN (Cn := RX0) (T := TX0) (N := 8) C hinX1_readOf_X0 8 rfl rfl 3 (by decide) (C.2.2.2.2.2.2.2.2.2.2 _ nwX1_142) rfl rfl dX1_readOf_21 ?_
    refine V_iload_n C dX1_readOf_24 rfl 1 rfl ?_
    refine Vm_iald C 16 0 rfl rfl (vqX1_isSheet h4) dX1_readOf_25 ?_
    exact V_iret C rfl (vp_nar_int _) ((if_neg h4).trans rfl) rfl dX1_readOf_26
  ·
    exact absurd (show (0 : Int32) = 1 from (hp0).symm.trans ((if_pos h4).trans rfl)) (by decide)
end
section
variable {p : Program} {l : Launch} {e : Env} {s : State} {m : MethodId} {args : Array Value} {below : List Frame} {meth : Method} {c : Code} {D : va_G} {cI cZ : ClassId} {ad : Nat → Nat} {A : Nat → Prop}
theorem hdL_at : yL_at.cls ≠ "java/lang/invoke/MethodHandle" ∧ yL_at.cls ≠ "java/lang/invoke/VarHandle" ∧ (parseMethodDescriptor yL_at.desc).map (fun d => d.parameters.length) = some 2 := by decide +kernel
theorem hvL_at : yL_at.cls = RL ∧ yL_at.cls ≠ "java/lang/invoke/MethodHandle" ∧ yL_at.cls ≠ "java/lang/invoke/VarHandle" ∧ (parseMethodDescriptor yL_at.desc).map (fun d => d.parameters.length) = some 2 := by decide +kernel
set_option maxHeartbeats 4000000 in
theorem kL_at {l : Launch} {D : va_G} {cI cZ : ClassId} {ad : Nat → Nat} (u : vM) (a0 : Int32) (a1 : Int32) (hp0 : ¬ a1 = 0) : mI D vwCl (tyF cI cZ) xN (wC cI cZ ad) l yL_at wsL_at rmL_at [.int a0, .int a1] u (rL_at a0 a1) u := by
  refine mI_of (cc := cL_at) (maxL := 2) (ret := (some .int)) (own := RL) rfl (by decide) rfl (wC_ok cI cZ ad) (Nat.le_of_ble_eq_true rfl) (fun p e s m args below meth c A C => ?_)
  refine V_ls (ls' := [(0, .int a0), (1, .int a1)]) rfl ?_
  refine V_iload_n C dL_at_0 rfl 0 rfl ?_
  refine V_iconst (v := 1) C dL_at_1 (by decide) ?_
  refine V_iushr C dL_at_2 ?_
  refine V_iload_n C dL_at_3 rfl 1 rfl ?_
  refine V_irem C dL_at_4 hp0 ?_
  exact V_iret C rfl (vp_nar_int _) rfl rfl dL_at_5
theorem hdL_marked : yL_marked.cls ≠ "java/lang/invoke/MethodHandle" ∧ yL_marked.cls ≠ "java/lang/invoke/VarHandle" ∧ (parseMethodDescriptor yL_marked.desc).map (fun d => d.parameters.length) = some 1 := by decide +kernel
theorem hvL_marked : yL_marked.cls = RL ∧ yL_marked.cls ≠ "java/lang/invoke/MethodHandle" ∧ yL_marked.cls ≠ "java/lang/invoke/VarHandle" ∧ (parseMethodDescriptor yL_marked.desc).map (fun d => d.parameters.length) = some 1 := by decide +kernel
set_option maxHeartbeats 4000000 in
theorem qL_marked_4 (C : vC p s m args meth c D vwCl (tyF cI cZ) xN A (wC cI cZ ad) cL_marked RL wsL_marked 3 (some .int)) {Q : State → Prop} : ∀ (n k : Nat), k + n = 24 → ∀ (u : vM) (x1 : Int32), bo u 6 → (∀ r : Int32, lpL_marked_4 u n k x1 = r → bo u 6 → V p l e rmL_marked s m args below meth c D vwCl A (wC cI cZ ad) 3 0 0 Q u 34 [(0, .ref (ad 0)), (1, .int r), (2, .int (nI 24))] []) → V p l e rmL_marked s m args below meth c D vwCl A (wC cI cZ ad) 3 0 0 Q u 4 [(0, .ref (ad 0)), (1, .int x1), (2, .int (nI k))] [] := by
  intro n
  induction n with
  | zero =>
    intro k hk u x1 hi0 KK
    obtain rfl : k = 24 := by omega
    refine V_iload_n C dL_marked_4 rfl 2 rfl ?_
    refine V_bipush (v := 24) C dL_marked_5 (by decide) ?_
    refine V_icmp_ge (tgt := 34) C dL_marked_7 (by decide) (fun _ => ?_) (fun h => absurd (by decide : (24 : Int32) ≤ nI 24) h)
    exact KK _ rfl hi0
  | succ n ih =>
    intro k hk u x1 hi0 KK
    have hkB : k < 24 := by omega
    refine V_iload_n C dL_marked_4 rfl 2 rfl ?_
    refine V_bipush (v := 24) C dL_marked_5 (by decide) ?_
    refine V_icmp_ge (tgt := 34) C dL_marked_7 (by decide) (fun h => absurd h (nI_ge hkB (by decide))) (fun _ => ?_)
    refine V_iload_n C dL_marked_10 rfl 1 rfl ?_
    refine V_aload_n C dL_marked_11 rfl 0 rfl ?_
    refine V_iload_n C dL_marked_12 rfl 2 rfl ?_
    refine V_cVi1 C xN_ok (kX1_isMarked _ _ hi0 (xq_isMarked (vp_in_nI hkB (by decide)))) (cwV 1 C.2.2.1 gL_marked_X1_isMarked rfl rfl rfl hvX1_isMarked ⟨Nat.le_of_ble_eq_true rfl, Nat.le_of_ble_eq_true rfl⟩) 0 rfl rfl (Nat.le_of_ble_eq_true rfl) ⟨(Nat.le_of_ble_eq_true rfl), (Nat.le_of_ble_eq_true rfl)⟩ dL_marked_13 ?_
    refine V_join1 (J := 26) (T := (if (rX1_isMarked u (nI k)) = 0 then 0 else (1 <<< ((nI k) &&& 31)))) (fun j26 hj26 => ?_) (fun J26 => ?_)
    ·
      refine V_ior C dL_marked_26 ?_
      refine V_top (fun y27 hy27 => ?_)
      refine V_istore_n (ls' := [(0, .ref (ad 0)), (1, .int y27), (2, .int (nI k))]) C dL_marked_27 rfl (by decide) rfl rfl ?_
      refine V_iinc (v := (nI (k + 1))) (ls' := [(0, .ref (ad 0)), (1, .int y27), (2, .int (nI (k + 1)))]) C dL_marked_28 2 rfl (nI_1 k) (by decide) rfl rfl ?_
      refine V_goto (tgt := 4) C dL_marked_31 (by decide) ?_
      subst hy27
      subst hj26
      exact ih (k + 1) (by omega) _ _ hi0 (fun r hr => KK r (rfl.trans hr))
    ·
      refine V_if_eq (tgt := 25) C dL_marked_16 (by decide) (fun h16 => ?_) (fun h16 => ?_)
      ·
        refine V_iconst (v := 0) C dL_marked_25 (by decide) ?_
        exact J26 _ ((if_pos h16).trans rfl)
      ·
        refine V_iconst (v := 1) C dL_marked_19 (by decide) ?_
        refine V_iload_n C dL_marked_20 rfl 2 rfl ?_
        refine V_ishl C dL_marked_21 ?_
        refine V_goto (tgt := 26) C dL_marked_22 (by decide) ?_
        exact J26 _ ((if_neg h16).trans rfl)
set_option maxHeartbeats 4000000 in
theorem kL_marked {l : Launch} {D : va_G} {cI cZ : ClassId} {ad : Nat → Nat} (u : vM) (hp0 : bo u 6) : mI D vwCl (tyF cI cZ) xN (wC cI cZ ad) l yL_marked wsL_marked rmL_marked [.ref (ad 0)] u (rL_marked u) u := by
  refine mI_of (cc := cL_marked) (maxL := 3) (ret := (some .int)) (own := RL) rfl (by decide) rfl (wC_ok cI cZ ad) (Nat.le_of_ble_eq_true rfl) (fun p e s m args below meth c A C => ?_)
  refine V_ls (ls' := [(0, .ref (ad 0))]) rfl ?_
  refine V_iconst (v := 0) C dL_marked_0 (by decide) ?_
  refine V_istore_n (ls' := [(0, .ref (ad 0)), (1, .int 0)]) C dL_marked_1 rfl (by decide) rfl rfl ?_
  refine V_iconst (v := 0) C dL_marked_2 (by decide) ?_
  refine V_istore_n (ls' := [(0, .ref (ad 0)), (1, .int 0), (2, .int 0)]) C dL_marked_3 rfl (by decide) rfl rfl ?_
  refine V_sub (ls' := [(0, .ref (ad 0)), (1, .int 0), (2, .int 0)]) [0, 1, 2] rfl ?_
  refine qL_marked_4 C 24 0 (by decide) u 0 hp0 (fun r4 hr4 hi0_4 => ?_)
  refine V_iload_n C dL_marked_34 rfl 1 rfl ?_
  subst hr4
  exact V_iret C rfl (vp_nar_int _) rfl rfl dL_marked_35
theorem hdL_accounts : yL_accounts.cls ≠ "java/lang/invoke/MethodHandle" ∧ yL_accounts.cls ≠ "java/lang/invoke/VarHandle" ∧ (parseMethodDescriptor yL_accounts.desc).map (fun d => d.parameters.length) = some 2 := by decide +kernel
theorem hvL_accounts : yL_accounts.cls = RL ∧ yL_accounts.cls ≠ "java/lang/invoke/MethodHandle" ∧ yL_accounts.cls ≠ "java/lang/invoke/VarHandle" ∧ (parseMethodDescriptor yL_accounts.desc).map (fun d => d.parameters.length) = some 2 := by decide +kernel
set_option maxHeartbeats 4000000 in
theorem qL_accounts_68 (C : vC p s m args meth c D vwCl (tyF cI cZ) xN A (wC cI cZ ad) cL_accounts RL wsL_accounts 7 (some .boolean)) {Q : State → Prop} (a2 : Int32) (a3 : Int32) (a5 : Int32) : ∀ (n k : Nat), k + n = 5 → ∀ (u : vM) (x4 : Int32), (∀ r : Int32, lpL_accounts_68 u n k x4 = r → V p l e rmL_accounts s m args below meth c D vwCl A (wC cI cZ ad) 7 0 0 Q u 91 [(0, .ref (ad 0)), (1, .ref (ad 20)), (2, .int a2), (3, .int a3), (4, .int r), (5, .int a5), (6, .int (nI 5))] []) → V p l e rmL_accounts s m args below meth c D vwCl A (wC cI cZ ad) 7 0 0 Q u 68 [(0, .ref (ad 0)), (1, .ref (ad 20)), (2, .int a2), (3, .int a3), (4, .int x4), (5, .int a5), (6, .int (nI k))] [] := by
  intro n
  induction n with
  | zero =>
    intro k hk u x4 KK
    obtain rfl : k = 5 := by omega
    refine V_iload C dL_accounts_68 6 rfl ?_
    refine V_iconst (v := 5) C dL_accounts_70 (by decide) ?_
    refine V_icmp_ge (tgt := 91) C dL_accounts_71 (by decide) (fun _ => ?_) (fun h => absurd (by decide : (5 : Int32) ≤ nI 5) h)
    exact KK _ rfl
  | succ n ih =>
    intro k hk u x4 KK
    have hkB : k < 5 := by omega
    refine V_iload C dL_accounts_68 6 rfl ?_
    refine V_iconst (v := 5) C dL_accounts_70 (by decide) ?_
    refine V_icmp_ge (tgt := 91) C dL_accounts_71 (by decide) (fun h => absurd h (nI_ge hkB (by decide))) (fun _ => ?_)
    refine V_iload C dL_accounts_74 4 rfl ?_
    refine V_aload_n C dL_accounts_76 rfl 0 rfl ?_
    refine V_iload C dL_accounts_77 6 rfl ?_
    refine V_cVi1 C xN_ok (kX1_caused _ _ (xq_caused (vp_in_nI hkB (by decide)))) (cwV 1 C.2.2.1 gL_accounts_X1_caused rfl rfl rfl hvX1_caused ⟨Nat.le_of_ble_eq_true rfl, Nat.le_of_ble_eq_true rfl⟩) 0 rfl rfl (Nat.le_of_ble_eq_true rfl) ⟨(Nat.le_of_ble_eq_true rfl), (Nat.le_of_ble_eq_true rfl)⟩ dL_accounts_79 ?_
    refine V_iadd C dL_accounts_82 ?_
    refine V_top (fun y83 hy83 => ?_)
    refine V_istore (ls' := [(0, .ref (ad 0)), (1, .ref (ad 20)), (2, .int a2), (3, .int a3), (4, .int y83), (5, .int a5), (6, .int (nI k))]) C dL_accounts_83 (by decide) rfl rfl ?_
    refine V_iinc (v := (nI (k + 1))) (ls' := [(0, .ref (ad 0)), (1, .ref (ad 20)), (2, .int a2), (3, .int a3), (4, .int y83), (5, .int a5), (6, .int (nI (k + 1)))]) C dL_accounts_85 6 rfl (nI_1 k) (by decide) rfl rfl ?_
    refine V_goto (tgt := 68) C dL_accounts_88 (by decide) ?_
    subst hy83
    exact ih (k + 1) (by omega) _ _ (fun r hr => KK r (rfl.trans hr))
set_option maxHeartbeats 4000000 in
theorem qL_accounts_13 (C : vC p s m args meth c D vwCl (tyF cI cZ) xN A (wC cI cZ ad) cL_accounts RL wsL_accounts 7 (some .boolean))  (a4 : Int32) : ∀ (n k : Nat), k + n = 4 → ∀ (u : vM) (x2 x3 x5 : Int32), ∀ (r : Int32) (u' : vM), r = lpL_accounts_13 a4 u n k x2 x3 x5 → u' = u → V p l e rmL_accounts s m args below meth c D vwCl A (wC cI cZ ad) 7 0 0 (MQ below (mQi D vwCl (wC cI cZ ad) A r u') args s 0 0 A) u 13 [(0, .ref (ad 0)), (1, .ref (ad 20)), (2, .int x2), (3, .int x3), (4, .int a4), (5, .int x5), (6, .int (nI k))] [] := by
  intro n
  induction n with
  | zero =>
    intro k hk u x2 x3 x5 r u' hr hu
    obtain rfl : k = 4 := by omega
    refine V_iload C dL_accounts_13 6 rfl ?_
    refine V_iconst (v := 4) C dL_accounts_15 (by decide) ?_
    refine V_icmp_ge (tgt := 65) C dL_accounts_16 (by decide) (fun _ => ?_) (fun h => absurd (by decide : (4 : Int32) ≤ nI 4) h)
    refine V_iconst (v := 0) C dL_accounts_65 (by decide) ?_
    refine V_istore (ls' := [(0, .ref (ad 0)), (1, .ref (ad 20)), (2, .int x2), (3, .int x3), (4, .int a4), (5, .int x5), (6, .int 0)]) C dL_accounts_66 (by decide) rfl rfl ?_
    refine V_sub (ls' := [(0, .ref (ad 0)), (1, .ref (ad 20)), (2, .int x2), (3, .int x3), (4, .int a4), (5, .int x5), (6, .int 0)]) [0, 1, 2, 3, 4, 5, 6] rfl ?_
    refine qL_accounts_68 C x2 x3 x5 5 0 (by decide) u a4 (fun r68 hr68 => ?_)
    refine V_iload_n C dL_accounts_91 rfl 2 rfl ?_
    refine V_iload_n C dL_accounts_92 rfl 3 rfl ?_
    refine V_iadd C dL_accounts_93 ?_
    refine V_aload_n C dL_accounts_94 rfl 1 rfl ?_
    refine V_iconst (v := 0) C dL_accounts_95 (by decide) ?_
    refine Vm_iald C 20 0 rfl rfl (by unfold vp_in; decide) dL_accounts_96 ?_
    refine V_join2 (J := 134) (T := (if (x2 + x3) = (mrd u 20 0) then (if r68 = x3 then (let j126 : Int32 := (if 500 ≤ x5 then 500 else x5); (if (rX1_readings u) = j126 then 1 else 0)) else 0) else 0)) (fun j134 hj134 => ?_) (fun J134 => ?_)
    ·
      subst hj134
      subst hr68
      exact V_iret C rfl (by (try dsimp only); (repeat' split) <;> rfl) (hr.trans rfl) hu dL_accounts_134
    ·
      refine V_icmp_ne (tgt := 133) C dL_accounts_97 (by decide) (fun h97 => ?_) (fun h97 => ?_)
      ·
        refine V_iconst (v := 0) C dL_accounts_133 (by decide) ?_
        exact J134 _ ((if_neg h97).trans rfl)
      ·
        refine V_iload C dL_accounts_100 4 rfl ?_
        refine V_iload_n C dL_accounts_102 rfl 3 rfl ?_
        refine V_icmp_ne (tgt := 133) C dL_accounts_103 (by decide) (fun h103 => ?_) (fun h103 => ?_)
        ·
          refine V_iconst (v := 0) C dL_accounts_133 (by decide) ?_
          exact J134 _ ((if_pos h97).trans ((if_neg h103).trans rfl))
        ·
          refine V_aload_n C dL_accounts_106 rfl 0 rfl ?_
          refine V_cVi0 C xN_ok (kX1_readings _) (cwV 0 C.2.2.1 gL_accounts_X1_readings rfl rfl rfl hvX1_readings ⟨Nat.le_of_ble_eq_true rfl, Nat.le_of_ble_eq_true rfl⟩) 0 rfl rfl (Nat.le_of_ble_eq_true rfl) ⟨(Nat.le_of_ble_eq_true rfl), (Nat.le_of_ble_eq_true rfl)⟩ dL_accounts_107 ?_
          refine V_iload C dL_accounts_110 5 rfl ?_
          refine V_sipush (v := 500) C dL_accounts_112 (by decide) ?_
          refine V_join2 (J := 126) (T := (if 500 ≤ x5 then 500 else x5)) (fun j126 hj126 => ?_) (fun J126 => ?_)
          ·
            refine V_icmp_ne (tgt := 133) C dL_accounts_126 (by decide) (fun h126 => ?_) (fun h126 => ?_)
            ·
              refine V_iconst (v := 0) C dL_accounts_133 (by decide) ?_
              subst hj126
              exact J134 _ ((if_pos h97).trans ((if_pos h103).trans ((if_neg h126).trans rfl)))
            ·
              refine V_iconst (v := 1) C dL_accounts_129 (by decide) ?_
              refine V_goto (tgt := 134) C dL_accounts_130 (by decide) ?_
              subst hj126
              exact J134 _ ((if_pos h97).trans ((if_pos h103).trans ((if_pos h126).trans rfl)))
          ·
            refine V_icmp_ge (tgt := 123) C dL_accounts_115 (by decide) (fun h115 => ?_) (fun h115 => ?_)
            ·
              refine V_sipush (v := 500) C dL_accounts_123 (by decide) ?_
              exact J126 _ ((if_pos h115).trans rfl)
            ·
              refine V_iload C dL_accounts_118 5 rfl ?_
              refine V_goto (tgt := 126) C dL_accounts_120 (by decide) ?_
              exact J126 _ ((if_neg h115).trans rfl)
  | succ n ih =>
    intro k hk u x2 x3 x5 r u' hr hu
    have hkB : k < 4 := by omega
    refine V_iload C dL_accounts_13 6 rfl ?_
    refine V_iconst (v := 4) C dL_accounts_15 (by decide) ?_
    refine V_icmp_ge (tgt := 65) C dL_accounts_16 (by decide) (fun h => absurd h (nI_ge hkB (by decide))) (fun _ => ?_)
    refine V_aload_n C dL_accounts_19 rfl 0 rfl ?_
    refine V_iload C dL_accounts_20 6 rfl ?_
    refine V_cVi1 C xN_ok (kX1_budget _ _ (xq_budget (vp_in_nI hkB (by decide)))) (cwV 1 C.2.2.1 gL_accounts_X1_budget rfl rfl rfl hvX1_budget ⟨Nat.le_of_ble_eq_true rfl, Nat.le_of_ble_eq_true rfl⟩) 0 rfl rfl (Nat.le_of_ble_eq_true rfl) ⟨(Nat.le_of_ble_eq_true rfl), (Nat.le_of_ble_eq_true rfl)⟩ dL_accounts_22 ?_
    refine V_if_ge (tgt := 30) C dL_accounts_25 (by decide) (fun h25 => ?_) (fun h25 => ?_)
    ·
      refine V_iload_n C dL_accounts_30 rfl 2 rfl ?_
      refine V_aload_n C dL_accounts_31 rfl 0 rfl ?_
      refine V_iload C dL_accounts_32 6 rfl ?_
      refine V_cVi1 C xN_ok (kX1_budget _ _ (xq_budget (vp_in_nI hkB (by decide)))) (cwV 1 C.2.2.1 gL_accounts_X1_budget rfl rfl rfl hvX1_budget ⟨Nat.le_of_ble_eq_true rfl, Nat.le_of_ble_eq_true rfl⟩) 0 rfl rfl (Nat.le_of_ble_eq_true rfl) ⟨(Nat.le_of_ble_eq_true rfl), (Nat.le_of_ble_eq_true rfl)⟩ dL_accounts_34 ?_
      refine V_iadd C dL_accounts_37 ?_
      refine V_top (fun y38 hy38 => ?_)
      refine V_istore_n (ls' := [(0, .ref (ad 0)), (1, .ref (ad 20)), (2, .int y38), (3, .int x3), (4, .int a4), (5, .int x5), (6, .int (nI k))]) C dL_accounts_38 rfl (by decide) rfl rfl ?_
      refine V_iload_n C dL_accounts_39 rfl 3 rfl ?_
      refine V_aload_n C dL_accounts_40 rfl 0 rfl ?_
      refine V_iload C dL_accounts_41 6 rfl ?_
      refine V_cVi1 C xN_ok (kX1_earned _ _ (xq_earned (vp_in_nI hkB (by decide)))) (cwV 1 C.2.2.1 gL_accounts_X1_earned rfl rfl rfl hvX1_earned ⟨Nat.le_of_ble_eq_true rfl, Nat.le_of_ble_eq_true rfl⟩) 0 rfl rfl (Nat.le_of_ble_eq_true rfl) ⟨(Nat.le_of_ble_eq_true rfl), (Nat.le_of_ble_eq_true rfl)⟩ dL_accounts_43 ?_
      refine V_iadd C dL_accounts_46 ?_
      refine V_top (fun y47 hy47 => ?_)
      refine V_istore_n (ls' := [(0, .ref (ad 0)), (1, .ref (ad 20)), (2, .int y38), (3, .int y47), (4, .int a4), (5, .int x5), (6, .int (nI k))]) C dL_accounts_47 rfl (by decide) rfl rfl ?_
      refine V_iload C dL_accounts_48 5 rfl ?_
      refine V_aload_n C dL_accounts_50 rfl 0 rfl ?_
      refine V_iload C dL_accounts_51 6 rfl ?_
      refine V_cVi1 C xN_ok (kX1_readOf _ _ (xq_readOf (vp_in_nI hkB (by decide)))) (cwV 1 C.2.2.1 gL_accounts_X1_readOf rfl rfl rfl hvX1_readOf ⟨Nat.le_of_ble_eq_true rfl, Nat.le_of_ble_eq_true rfl⟩) 0 rfl rfl (Nat.le_of_ble_eq_true rfl) ⟨(Nat.le_of_ble_eq_true rfl), (Nat.le_of_ble_eq_true rfl)⟩ dL_accounts_53 ?_
      refine V_iadd C dL_accounts_56 ?_
      refine V_top (fun y57 hy57 => ?_)
      refine V_istore (ls' := [(0, .ref (ad 0)), (1, .ref (ad 20)), (2, .int y38), (3, .int y47), (4, .int a4), (5, .int y57), (6, .int (nI k))]) C dL_accounts_57 (by decide) rfl rfl ?_
      refine V_iinc (v := (nI (k + 1))) (ls' := [(0, .ref (ad 0)), (1, .ref (ad 20)), (2, .int y38), (3, .int y47), (4, .int a4), (5, .int y57), (6, .int (nI (k + 1)))]) C dL_accounts_59 6 rfl (nI_1 k) (by decide) rfl rfl ?_
      refine V_goto (tgt := 13) C dL_accounts_62 (by decide) ?_
      subst hy57
      subst hy47
      subst hy38
      exact ih (k + 1) (by omega) _ _ _ _ r u' (hr.trans ((if_pos h25).trans rfl)) hu
    ·
      refine V_iconst (v := 0) C dL_accounts_28 (by decide) ?_
      exact V_iret C rfl rfl (hr.trans ((if_neg h25).trans rfl)) hu dL_accounts_29
set_option maxHeartbeats 4000000 in
theorem kL_accounts {l : Launch} {D : va_G} {cI cZ : ClassId} {ad : Nat → Nat} (u : vM) : mI D vwCl (tyF cI cZ) xN (wC cI cZ ad) l yL_accounts wsL_accounts rmL_accounts [.ref (ad 0), .ref (ad 20)] u (rL_accounts u) u := by
  refine mI_of (cc := cL_accounts) (maxL := 7) (ret := (some .boolean)) (own := RL) rfl (by decide) rfl (wC_ok cI cZ ad) (Nat.le_of_ble_eq_true rfl) (fun p e s m args below meth c A C => ?_)
  refine V_ls (ls' := [(0, .ref (ad 0)), (1, .ref (ad 20))]) rfl ?_
  refine V_iconst (v := 0) C dL_accounts_0 (by decide) ?_
  refine V_istore_n (ls' := [(0, .ref (ad 0)), (1, .ref (ad 20)), (2, .int 0)]) C dL_accounts_1 rfl (by decide) rfl rfl ?_
  refine V_iconst (v := 0) C dL_accounts_2 (by decide) ?_
  refine V_istore_n (ls' := [(0, .ref (ad 0)), (1, .ref (ad 20)), (2, .int 0), (3, .int 0)]) C dL_accounts_3 rfl (by decide) rfl rfl ?_
  refine V_iconst (v := 0) C dL_accounts_4 (by decide) ?_
  refine V_istore (ls' := [(0, .ref (ad 0)), (1, .ref (ad 20)), (2, .int 0), (3, .int 0), (4, .int 0)]) C dL_accounts_5 (by decide) rfl rfl ?_
  refine V_iconst (v := 0) C dL_accounts_7 (by decide) ?_
  refine V_istore (ls' := [(0, .ref (ad 0)), (1, .ref (ad 20)), (2, .int 0), (3, .int 0), (4, .int 0), (5, .int 0)]) C dL_accounts_8 (by decide) rfl rfl ?_
  refine V_iconst (v := 0) C dL_accounts_10 (by decide) ?_
  refine V_istore (ls' := [(0, .ref (ad 0)), (1, .ref (ad 20)), (2, .int 0), (3, .int 0), (4, .int 0), (5, .int 0), (6, .int 0)]) C dL_accounts_11 (by decide) rfl rfl ?_
  refine V_sub (ls' := [(0, .ref (ad 0)), (1, .ref (ad 20)), (2, .int 0), (3, .int 0), (4, .int 0), (5, .int 0), (6, .int 0)]) [0, 1, 2, 3, 4, 5, 6] rfl ?_
  exact qL_accounts_13 C 0 4 0 (by decide) u 0 0 0 _ _ (by rfl) rfl
theorem hdL_give : yL_give.cls ≠ "java/lang/invoke/MethodHandle" ∧ yL_give.cls ≠ "java/lang/invoke/VarHandle" ∧ (parseMethodDescriptor yL_give.desc).map (fun d => d.parameters.length) = some 4 := by decide +kernel
theorem hvL_give : yL_give.cls = RL ∧ yL_give.cls ≠ "java/lang/invoke/MethodHandle" ∧ yL_give.cls ≠ "java/lang/invoke/VarHandle" ∧ (parseMethodDescriptor yL_give.desc).map (fun d => d.parameters.length) = some 4 := by decide +kernel
theorem hkL_give_43 : Cond.constant RL 43 (2000001) ∈ wsL_give := by decide +kernel
theorem hkL_give_44 : Cond.constant RL 44 (1000000) ∈ wsL_give := by decide +kernel
set_option maxHeartbeats 4000000 in
theorem kL_give {l : Launch} {D : va_G} {cI cZ : ClassId} {ad : Nat → Nat} (u : vM) (a1 : Int32) (a2 : Int32) (a3 : Int32) (hp0 : gv u a3) : mI D vwCl (tyF cI cZ) xN (wC cI cZ ad) l yL_give wsL_give rmL_give [.ref (ad 0), .int a1, .int a2, .int a3] u (rL_give u a1 a2 a3) (uL_give u a1 a2 a3) := by
  refine mI_of (cc := cL_give) (maxL := 8) (ret := (some .int)) (own := RL) rfl (by decide) rfl (wC_ok cI cZ ad) (Nat.le_of_ble_eq_true rfl) (fun p e s m args below meth c A C => ?_)
  refine V_ls (ls' := [(0, .ref (ad 0)), (1, .int a1), (2, .int a2), (3, .int a3)]) rfl ?_
  refine V_iload_n C dL_give_0 rfl 1 rfl ?_
  refine V_bipush (v := 24) C dL_give_1 (by decide) ?_
  refine V_cSi2 C xN_ok (kL_at _ _ _ (by decide)) (va_cwS 2 C.2.2.1 gL_give_L_at rfl rfl rfl hdL_at ⟨Nat.le_of_ble_eq_true rfl, Nat.le_of_ble_eq_true rfl⟩) (Nat.le_of_ble_eq_true rfl) ⟨(Nat.le_of_ble_eq_true rfl), (Nat.le_of_ble_eq_true rfl)⟩ dL_give_3 ?_
  refine V_top (fun y6 hy6 => ?_)
  refine V_istore (ls' := [(0, .ref (ad 0)), (1, .int a1), (2, .int a2), (3, .int a3), (4, .int y6)]) C dL_give_6 (by decide) rfl rfl ?_
  refine V_iload_n C dL_give_8 rfl 2 rfl ?_
  refine V_bipush (v := 24) C dL_give_9 (by decide) ?_
  refine V_cSi2 C xN_ok (kL_at _ _ _ (by decide)) (va_cwS 2 C.2.2.1 gL_give_L_at rfl rfl rfl hdL_at ⟨Nat.le_of_ble_eq_true rfl, Nat.le_of_ble_eq_true rfl⟩) (Nat.le_of_ble_eq_true rfl) ⟨(Nat.le_of_ble_eq_true rfl), (Nat.le_of_ble_eq_true rfl)⟩ dL_give_11 ?_
  refine V_top (fun y14 hy14 => ?_)
  refine V_istore (ls' := [(0, .ref (ad 0)), (1, .int a1), (2, .int a2), (3, .int a3), (4, .int y6), (5, .int y14)]) C dL_give_14 (by decide) rfl rfl ?_
  refine V_iload_n C dL_give_16 rfl 2 rfl ?_
  refine V_iconst (v := 5) C dL_give_17 (by decide) ?_
  refine V_ishr C dL_give_18 ?_
  refine V_bipush (v := 24) C dL_give_19 (by decide) ?_
  refine V_cSi2 C xN_ok (kL_at _ _ _ (by decide)) (va_cwS 2 C.2.2.1 gL_give_L_at rfl rfl rfl hdL_at ⟨Nat.le_of_ble_eq_true rfl, Nat.le_of_ble_eq_true rfl⟩) (Nat.le_of_ble_eq_true rfl) ⟨(Nat.le_of_ble_eq_true rfl), (Nat.le_of_ble_eq_true rfl)⟩ dL_give_21 ?_
  refine V_top (fun y24 hy24 => ?_)
  refine V_istore (ls' := [(0, .ref (ad 0)), (1, .int a1), (2, .int a2), (3, .int a3), (4, .int y6), (5, .int y14), (6, .int y24)]) C dL_give_24 (by decide) rfl rfl ?_
  refine V_iload_n C dL_give_26 rfl 1 rfl ?_
  refine V_iconst (v := 5) C dL_give_27 (by decide) ?_
  refine V_ishr C dL_give_28 ?_
  refine V_iconst (v := 4) C dL_give_29 (by decide) ?_
  refine V_cSi2 C xN_ok (kL_at _ _ _ (by decide)) (va_cwS 2 C.2.2.1 gL_give_L_at rfl rfl rfl hdL_at ⟨Nat.le_of_ble_eq_true rfl, Nat.le_of_ble_eq_true rfl⟩) (Nat.le_of_ble_eq_true rfl) ⟨(Nat.le_of_ble_eq_true rfl), (Nat.le_of_ble_eq_true rfl)⟩ dL_give_30 ?_
  refine V_top (fun y33 hy33 => ?_)
  refine V_istore (ls' := [(0, .ref (ad 0)), (1, .int a1), (2, .int a2), (3, .int a3), (4, .int y6), (5, .int y14), (6, .int y24), (7, .int y33)]) C dL_give_33 (by decide) rfl rfl ?_
  refine V_iload C dL_give_35 7 rfl ?_
  refine V_if_eq (tgt := 54) C dL_give_37 (by decide) (fun h37 => ?_) (fun h37 => ?_)
  ·
    refine V_aload_n C dL_give_54 rfl 0 rfl ?_
    refine V_iload_n C dL_give_55 rfl 3 rfl ?_
    refine V_iload C dL_give_56 4 rfl ?_
    refine V_iload_n C dL_give_58 rfl 2 rfl ?_
    refine V_ldc (v := 2000001) C hkL_give_43 dL_give_59 ?_
    refine V_cSi2 C xN_ok (kL_at _ _ _ (by decide)) (va_cwS 2 C.2.2.1 gL_give_L_at rfl rfl rfl hdL_at ⟨Nat.le_of_ble_eq_true rfl, Nat.le_of_ble_eq_true rfl⟩) (Nat.le_of_ble_eq_true rfl) ⟨(Nat.le_of_ble_eq_true rfl), (Nat.le_of_ble_eq_true rfl)⟩ dL_give_61 ?_
    refine V_ldc (v := 1000000) C hkL_give_44 dL_give_64 ?_
    refine V_isub C dL_give_66 ?_
    refine V_cVi3 C xN_ok (kX1_setNumber _ _ _ _ hp0.1 (x_num hp0 hy6)) (cwV 3 C.2.2.1 gL_give_X1_setNumber rfl rfl rfl hvX1_setNumber ⟨Nat.le_of_ble_eq_true rfl, Nat.le_of_ble_eq_true rfl⟩) 0 rfl rfl (Nat.le_of_ble_eq_true rfl) ⟨(Nat.le_of_ble_eq_true rfl), (Nat.le_of_ble_eq_true rfl)⟩ dL_give_67 ?_
    refine V_u (fun u67 hu67 => ?_)
    subst hu67
    subst hy33
    subst hy24
    subst hy14
    subst hy6
    exact V_iret C rfl (vp_nar_int _) ((if_pos h37).trans rfl) ((if_pos h37).trans rfl) dL_give_70
  ·
    refine V_iload C dL_give_40 5 rfl ?_
    refine V_iload C dL_give_42 4 rfl ?_
    refine V_icmp_ge (tgt := 54) C dL_give_44 (by decide) (fun h44 => ?_) (fun h44 => ?_)
    ·
      refine V_aload_n C dL_give_54 rfl 0 rfl ?_
      refine V_iload_n C dL_give_55 rfl 3 rfl ?_
      refine V_iload C dL_give_56 4 rfl ?_
      refine V_iload_n C dL_give_58 rfl 2 rfl ?_
      refine V_ldc (v := 2000001) C hkL_give_43 dL_give_59 ?_
      refine V_cSi2 C xN_ok (kL_at _ _ _ (by decide)) (va_cwS 2 C.2.2.1 gL_give_L_at rfl rfl rfl hdL_at ⟨Nat.le_of_ble_eq_true rfl, Nat.le_of_ble_eq_true rfl⟩) (Nat.le_of_ble_eq_true rfl) ⟨(Nat.le_of_ble_eq_true rfl), (Nat.le_of_ble_eq_true rfl)⟩ dL_give_61 ?_
      refine V_ldc (v := 1000000) C hkL_give_44 dL_give_64 ?_
      refine V_isub C dL_give_66 ?_
      refine V_cVi3 C xN_ok (kX1_setNumber _ _ _ _ hp0.1 (x_num hp0 hy6)) (cwV 3 C.2.2.1 gL_give_X1_setNumber rfl rfl rfl hvX1_setNumber ⟨Nat.le_of_ble_eq_true rfl, Nat.le_of_ble_eq_true rfl⟩) 0 rfl rfl (Nat.le_of_ble_eq_true rfl) ⟨(Nat.le_of_ble_eq_true rfl), (Nat.le_of_ble_eq_true rfl)⟩ dL_give_67 ?_
      refine V_u (fun u67 hu67 => ?_)
      subst hu67
      subst hy33
      subst hy24
      subst hy14
      subst hy6
      exact V_iret C rfl (vp_nar_int _) ((if_neg h37).trans ((if_pos h44).trans rfl)) ((if_neg h37).trans ((if_pos h44).trans rfl)) dL_give_70
    ·
      refine V_iload C dL_give_47 6 rfl ?_
      refine V_iload C dL_give_49 4 rfl ?_
      refine V_icmp_lt (tgt := 71) C dL_give_51 (by decide) (fun h51 => ?_) (fun h51 => ?_)
      ·
        refine V_iload C dL_give_71 7 rfl ?_
        refine V_iconst (v := 1) C dL_give_73 (by decide) ?_
        refine V_icmp_ne (tgt := 103) C dL_give_74 (by decide) (fun h74 => ?_) (fun h74 => ?_)
        ·
          refine V_iload C dL_give_103 7 rfl ?_
          refine V_iconst (v := 2) C dL_give_105 (by decide) ?_
          refine V_icmp_ne (tgt := 123) C dL_give_106 (by decide) (fun h106 => ?_) (fun h106 => ?_)
          ·
            refine V_aload_n C dL_give_123 rfl 0 rfl ?_
            refine V_iload_n C dL_give_124 rfl 3 rfl ?_
            refine V_iload C dL_give_125 4 rfl ?_
            refine V_iload C dL_give_127 5 rfl ?_
            refine V_iload_n C dL_give_129 rfl 1 rfl ?_
            refine V_bipush (v := 7) C dL_give_130 (by decide) ?_
            refine V_ishr C dL_give_132 ?_
            refine V_sipush (v := 201) C dL_give_133 (by decide) ?_
            refine V_cSi2 C xN_ok (kL_at _ _ _ (by decide)) (va_cwS 2 C.2.2.1 gL_give_L_at rfl rfl rfl hdL_at ⟨Nat.le_of_ble_eq_true rfl, Nat.le_of_ble_eq_true rfl⟩) (Nat.le_of_ble_eq_true rfl) ⟨(Nat.le_of_ble_eq_true rfl), (Nat.le_of_ble_eq_true rfl)⟩ dL_give_136 ?_
            refine V_bipush (v := 100) C dL_give_139 (by decide) ?_
            refine V_isub C dL_give_141 ?_
            refine V_cVi4 C xN_ok (kX1_setTimes _ _ _ _ _ hp0.1 (x_tim hp0 hy6 hy14 h44)) (cwV 4 C.2.2.1 gL_give_X1_setTimes rfl rfl rfl hvX1_setTimes ⟨Nat.le_of_ble_eq_true rfl, Nat.le_of_ble_eq_true rfl⟩) 0 rfl rfl (Nat.le_of_ble_eq_true rfl) ⟨(Nat.le_of_ble_eq_true rfl), (Nat.le_of_ble_eq_true rfl)⟩ dL_give_142 ?_
            refine V_u (fun u142 hu142 => ?_)
            subst hu142
            subst hy33
            subst hy24
            subst hy14
            subst hy6
            exact V_iret C rfl (vp_nar_int _) ((if_neg h37).trans ((if_neg h44).trans ((if_pos h51).trans ((if_neg h74).trans ((if_neg h106).trans rfl))))) ((if_neg h37).trans ((if_neg h44).trans ((if_pos h51).trans ((if_neg h74).trans ((if_neg h106).trans rfl))))) dL_give_145
          ·
            refine V_aload_n C dL_give_109 rfl 0 rfl ?_
            refine V_iload_n C dL_give_110 rfl 3 rfl ?_
            refine V_iload C dL_give_111 4 rfl ?_
            refine V_iload C dL_give_113 5 rfl ?_
            refine V_iload C dL_give_115 6 rfl ?_
            refine V_cVi4 C xN_ok (kX1_setGreater _ _ _ _ _ hp0.1 (x_gre hp0 hy6 hy14 hy24 h44 h51)) (cwV 4 C.2.2.1 gL_give_X1_setGreater rfl rfl rfl hvX1_setGreater ⟨Nat.le_of_ble_eq_true rfl, Nat.le_of_ble_eq_true rfl⟩) 0 rfl rfl (Nat.le_of_ble_eq_true rfl) ⟨(Nat.le_of_ble_eq_true rfl), (Nat.le_of_ble_eq_true rfl)⟩ dL_give_117 ?_
            refine V_u (fun u117 hu117 => ?_)
            refine V_goto (tgt := 145) C dL_give_120 (by decide) ?_
            subst hu117
            subst hy33
            subst hy24
            subst hy14
            subst hy6
            exact V_iret C rfl (vp_nar_int _) ((if_neg h37).trans ((if_neg h44).trans ((if_pos h51).trans ((if_neg h74).trans ((if_pos h106).trans rfl))))) ((if_neg h37).trans ((if_neg h44).trans ((if_pos h51).trans ((if_neg h74).trans ((if_pos h106).trans rfl))))) dL_give_145
        ·
          refine V_aload_n C dL_give_77 rfl 0 rfl ?_
          refine V_iload_n C dL_give_78 rfl 3 rfl ?_
          refine V_iload C dL_give_79 4 rfl ?_
          refine V_iload C dL_give_81 5 rfl ?_
          refine V_iload C dL_give_83 6 rfl ?_
          refine V_iload_n C dL_give_85 rfl 1 rfl ?_
          refine V_bipush (v := 7) C dL_give_86 (by decide) ?_
          refine V_ishr C dL_give_88 ?_
          refine V_sipush (v := 2001) C dL_give_89 (by decide) ?_
          refine V_cSi2 C xN_ok (kL_at _ _ _ (by decide)) (va_cwS 2 C.2.2.1 gL_give_L_at rfl rfl rfl hdL_at ⟨Nat.le_of_ble_eq_true rfl, Nat.le_of_ble_eq_true rfl⟩) (Nat.le_of_ble_eq_true rfl) ⟨(Nat.le_of_ble_eq_true rfl), (Nat.le_of_ble_eq_true rfl)⟩ dL_give_92 ?_
          refine V_sipush (v := 1000) C dL_give_95 (by decide) ?_
          refine V_isub C dL_give_98 ?_
          refine V_cVi5 C xN_ok (kX1_setSum _ _ _ _ _ _ hp0.1 (x_sum hp0 hy6 hy14 hy24 h44 h51)) (cwV 5 C.2.2.1 gL_give_X1_setSum rfl rfl rfl hvX1_setSum ⟨Nat.le_of_ble_eq_true rfl, Nat.le_of_ble_eq_true rfl⟩) 0 rfl rfl (Nat.le_of_ble_eq_true rfl) ⟨(Nat.le_of_ble_eq_true rfl), (Nat.le_of_ble_eq_true rfl)⟩ dL_give_99 ?_
          refine V_u (fun u99 hu99 => ?_)
          subst hu99
          subst hy33
          subst hy24
          subst hy14
          subst hy6
          exact V_iret C rfl (vp_nar_int _) ((if_neg h37).trans ((if_neg h44).trans ((if_pos h51).trans ((if_pos h74).trans rfl)))) ((if_neg h37).trans ((if_neg h44).trans ((if_pos h51).trans ((if_pos h74).trans rfl)))) dL_give_102
      ·
        refine V_aload_n C dL_give_54 rfl 0 rfl ?_
        refine V_iload_n C dL_give_55 rfl 3 rfl ?_
        refine V_iload C dL_give_56 4 rfl ?_
        refine V_iload_n C dL_give_58 rfl 2 rfl ?_
        refine V_ldc (v := 2000001) C hkL_give_43 dL_give_59 ?_
        refine V_cSi2 C xN_ok (kL_at _ _ _ (by decide)) (va_cwS 2 C.2.2.1 gL_give_L_at rfl rfl rfl hdL_at ⟨Nat.le_of_ble_eq_true rfl, Nat.le_of_ble_eq_true rfl⟩) (Nat.le_of_ble_eq_true rfl) ⟨(Nat.le_of_ble_eq_true rfl), (Nat.le_of_ble_eq_true rfl)⟩ dL_give_61 ?_
        refine V_ldc (v := 1000000) C hkL_give_44 dL_give_64 ?_
        refine V_isub C dL_give_66 ?_
        refine V_cVi3 C xN_ok (kX1_setNumber _ _ _ _ hp0.1 (x_num hp0 hy6)) (cwV 3 C.2.2.1 gL_give_X1_setNumber rfl rfl rfl hvX1_setNumber ⟨Nat.le_of_ble_eq_true rfl, Nat.le_of_ble_eq_true rfl⟩) 0 rfl rfl (Nat.le_of_ble_eq_true rfl) ⟨(Nat.le_of_ble_eq_true rfl), (Nat.le_of_ble_eq_true rfl)⟩ dL_give_67 ?_
        refine V_u (fun u67 hu67 => ?_)
        subst hu67
        subst hy33
        subst hy24
        subst hy14
        subst hy6
        exact V_iret C rfl (vp_nar_int _) ((if_neg h37).trans ((if_neg h44).trans ((if_neg h51).trans rfl))) ((if_neg h37).trans ((if_neg h44).trans ((if_neg h51).trans rfl))) dL_give_70
end
section
def mz : vM := fun _ _ => 0
def adl (l : List Nat) : Nat → Nat := fun i => l.getD i 0
def wL (cI : ClassId) (ad : Nat → Nat) (u : vM) : va_W := [(ad 0, .inr (0, [.ref (ad 1), .ref (ad 2), .ref (ad 3), .ref (ad 4), .ref (ad 5), .ref (ad 6), .ref (ad 7), .int (u 8 0)])), (ad 1, .inl (cI, 4, .inl (u 1))), (ad 2, .inl (cI, 4, .inl (u 2))), (ad 3, .inl (cI, 4, .inl (u 3))), (ad 4, .inl (cI, 4, .inl (u 4))), (ad 5, .inl (cI, 5, .inl (u 5))), (ad 6, .inl (cI, 576, .inl (u 6))), (ad 7, .inl (cI, 500, .inl (u 7)))]
theorem wL_ok (cI : ClassId) (ad : Nat → Nat) : wOK (wL cI ad) := fun _ _ => rfl
def wK (cI cZ : ClassId) (ad : Nat → Nat) (u : vM) : va_W := [(ad 0, .inr (1, [.ref (ad 1), .ref (ad 2), .ref (ad 3), .ref (ad 4), .ref (ad 5), .ref (ad 6), .ref (ad 7), .ref (ad 8), .ref (ad 9), .ref (ad 10), .ref (ad 11), .ref (ad 12)])), (ad 1, .inl (cI, 24, .inl (u 1))), (ad 2, .inl (cI, 24, .inl (u 2))), (ad 3, .inl (cI, 24, .inl (u 3))), (ad 4, .inl (cI, 24, .inl (u 4))), (ad 5, .inl (cI, 24, .inl (u 5))), (ad 6, .inl (cZ, 24, .inl (u 6))), (ad 7, .inl (cI, 24, .inl (u 7))), (ad 8, .inr (0, [.ref (ad 13), .ref (ad 14), .ref (ad 15), .ref (ad 16), .ref (ad 17), .ref (ad 18), .ref (ad 19), .int (u 8 0)])), (ad 9, .inl (cZ, 24, .inl (u 9))), (ad 10, .inl (cZ, 24, .inl (u 10))), (ad 11, .inl (cZ, 24, .inl (u 11))), (ad 12, .inl (cI, 24, .inl (u 12))), (ad 13, .inl (cI, 4, .inl (u 13))), (ad 14, .inl (cI, 4, .inl (u 14))), (ad 15, .inl (cI, 4, .inl (u 15))), (ad 16, .inl (cI, 4, .inl (u 16))), (ad 17, .inl (cI, 5, .inl (u 17))), (ad 18, .inl (cI, 576, .inl (u 18))), (ad 19, .inl (cI, 500, .inl (u 19)))]
theorem wK_ok (cI cZ : ClassId) (ad : Nat → Nat) : wOK (wK cI cZ ad) := fun _ _ => rfl
theorem wK_s1 {cI cZ : ClassId} {ad : Nat → Nat} {u : vM} {g : Nat → Int32} : (wK cI cZ ad u).set 1 (ad 1, .inl (cI, 24, .inl g)) = wK cI cZ ad (mR u 1 g) := rfl
theorem wK_s2 {cI cZ : ClassId} {ad : Nat → Nat} {u : vM} {g : Nat → Int32} : (wK cI cZ ad u).set 2 (ad 2, .inl (cI, 24, .inl g)) = wK cI cZ ad (mR u 2 g) := rfl
theorem wK_s3 {cI cZ : ClassId} {ad : Nat → Nat} {u : vM} {g : Nat → Int32} : (wK cI cZ ad u).set 3 (ad 3, .inl (cI, 24, .inl g)) = wK cI cZ ad (mR u 3 g) := rfl
theorem wK_s4 {cI cZ : ClassId} {ad : Nat → Nat} {u : vM} {g : Nat → Int32} : (wK cI cZ ad u).set 4 (ad 4, .inl (cI, 24, .inl g)) = wK cI cZ ad (mR u 4 g) := rfl
theorem wK_s5 {cI cZ : ClassId} {ad : Nat → Nat} {u : vM} {g : Nat → Int32} : (wK cI cZ ad u).set 5 (ad 5, .inl (cI, 24, .inl g)) = wK cI cZ ad (mR u 5 g) := rfl
theorem wK_s6 {cI cZ : ClassId} {ad : Nat → Nat} {u : vM} {g : Nat → Int32} : (wK cI cZ ad u).set 6 (ad 6, .inl (cZ, 24, .inl g)) = wK cI cZ ad (mR u 6 g) := rfl
theorem wK_s7 {cI cZ : ClassId} {ad : Nat → Nat} {u : vM} {g : Nat → Int32} : (wK cI cZ ad u).set 7 (ad 7, .inl (cI, 24, .inl g)) = wK cI cZ ad (mR u 7 g) := rfl
theorem wK_s8 {cI cZ : ClassId} {ad : Nat → Nat} {u : vM} {x : Int32} : (wK cI cZ ad u).set 8 (ad 8, .inr (0, ([.ref (ad 13), .ref (ad 14), .ref (ad 15), .ref (ad 16), .ref (ad 17), .ref (ad 18), .ref (ad 19), .int (u 8 0)] : List Value).set 7 (.int x))) = wK cI cZ ad (mst u 8 x) := rfl
theorem wK_s9 {cI cZ : ClassId} {ad : Nat → Nat} {u : vM} {g : Nat → Int32} : (wK cI cZ ad u).set 9 (ad 9, .inl (cZ, 24, .inl g)) = wK cI cZ ad (mR u 9 g) := rfl
theorem wK_s10 {cI cZ : ClassId} {ad : Nat → Nat} {u : vM} {g : Nat → Int32} : (wK cI cZ ad u).set 10 (ad 10, .inl (cZ, 24, .inl g)) = wK cI cZ ad (mR u 10 g) := rfl
theorem wK_s11 {cI cZ : ClassId} {ad : Nat → Nat} {u : vM} {g : Nat → Int32} : (wK cI cZ ad u).set 11 (ad 11, .inl (cZ, 24, .inl g)) = wK cI cZ ad (mR u 11 g) := rfl
theorem wK_s12 {cI cZ : ClassId} {ad : Nat → Nat} {u : vM} {g : Nat → Int32} : (wK cI cZ ad u).set 12 (ad 12, .inl (cI, 24, .inl g)) = wK cI cZ ad (mR u 12 g) := rfl
theorem wK_s13 {cI cZ : ClassId} {ad : Nat → Nat} {u : vM} {g : Nat → Int32} : (wK cI cZ ad u).set 13 (ad 13, .inl (cI, 4, .inl g)) = wK cI cZ ad (mR u 13 g) := rfl
theorem wK_s14 {cI cZ : ClassId} {ad : Nat → Nat} {u : vM} {g : Nat → Int32} : (wK cI cZ ad u).set 14 (ad 14, .inl (cI, 4, .inl g)) = wK cI cZ ad (mR u 14 g) := rfl
theorem wK_s15 {cI cZ : ClassId} {ad : Nat → Nat} {u : vM} {g : Nat → Int32} : (wK cI cZ ad u).set 15 (ad 15, .inl (cI, 4, .inl g)) = wK cI cZ ad (mR u 15 g) := rfl
theorem wK_s16 {cI cZ : ClassId} {ad : Nat → Nat} {u : vM} {g : Nat → Int32} : (wK cI cZ ad u).set 16 (ad 16, .inl (cI, 4, .inl g)) = wK cI cZ ad (mR u 16 g) := rfl
theorem wK_s17 {cI cZ : ClassId} {ad : Nat → Nat} {u : vM} {g : Nat → Int32} : (wK cI cZ ad u).set 17 (ad 17, .inl (cI, 5, .inl g)) = wK cI cZ ad (mR u 17 g) := rfl
theorem wK_s18 {cI cZ : ClassId} {ad : Nat → Nat} {u : vM} {g : Nat → Int32} : (wK cI cZ ad u).set 18 (ad 18, .inl (cI, 576, .inl g)) = wK cI cZ ad (mR u 18 g) := rfl
theorem wK_s19 {cI cZ : ClassId} {ad : Nat → Nat} {u : vM} {g : Nat → Int32} : (wK cI cZ ad u).set 19 (ad 19, .inl (cI, 500, .inl g)) = wK cI cZ ad (mR u 19 g) := rfl
theorem wL_s1 {cI : ClassId} {ad : Nat → Nat} {u : vM} {g : Nat → Int32} : (wL cI ad u).set 1 (ad 1, .inl (cI, 4, .inl g)) = wL cI ad (mR u 1 g) := rfl
theorem wL_s2 {cI : ClassId} {ad : Nat → Nat} {u : vM} {g : Nat → Int32} : (wL cI ad u).set 2 (ad 2, .inl (cI, 4, .inl g)) = wL cI ad (mR u 2 g) := rfl
theorem wL_s3 {cI : ClassId} {ad : Nat → Nat} {u : vM} {g : Nat → Int32} : (wL cI ad u).set 3 (ad 3, .inl (cI, 4, .inl g)) = wL cI ad (mR u 3 g) := rfl
theorem wL_s4 {cI : ClassId} {ad : Nat → Nat} {u : vM} {g : Nat → Int32} : (wL cI ad u).set 4 (ad 4, .inl (cI, 4, .inl g)) = wL cI ad (mR u 4 g) := rfl
theorem wL_s5 {cI : ClassId} {ad : Nat → Nat} {u : vM} {g : Nat → Int32} : (wL cI ad u).set 5 (ad 5, .inl (cI, 5, .inl g)) = wL cI ad (mR u 5 g) := rfl
theorem wL_s6 {cI : ClassId} {ad : Nat → Nat} {u : vM} {g : Nat → Int32} : (wL cI ad u).set 6 (ad 6, .inl (cI, 576, .inl g)) = wL cI ad (mR u 6 g) := rfl
theorem wL_s7 {cI : ClassId} {ad : Nat → Nat} {u : vM} {g : Nat → Int32} : (wL cI ad u).set 7 (ad 7, .inl (cI, 500, .inl g)) = wL cI ad (mR u 7 g) := rfl
/-- the class with a new ledger -/
def lpX0_init_64 : Nat → Nat → vM → vM
  | 0, _, u => u
  | n + 1, k, u => (let u75 : vM := mup u 1 (nI k) 1; (let u83 : vM := mup u75 2 (nI k) 100; lpX0_init_64 n (k + 1) u83))
def uX0_init : vM := (lpX0_init_64 4 0 mz)
def rmX0_init : Room := { frames := 1, cells := 7, slots := 1097, locals := 12 }
def mC0 : vM := fun j => cond (Nat.beq j 8) (uX0_init 8) (cond (Nat.beq j 13) (uX0_init 1) (cond (Nat.beq j 14) (uX0_init 2) (cond (Nat.beq j 15) (uX0_init 3) (cond (Nat.beq j 16) (uX0_init 4) (cond (Nat.beq j 17) (uX0_init 5) (cond (Nat.beq j 18) (uX0_init 6) (cond (Nat.beq j 19) (uX0_init 7) (mz j))))))))
def lpX1_init_105 : Nat → Nat → vM → vM
  | 0, _, u => u
  | n + 1, k, u => (let u117 : vM := mup u 2 (nI k) (-1); (let u124 : vM := mup u117 3 (nI k) (-1); (let u131 : vM := mup u124 7 (nI k) (nI k); lpX1_init_105 n (k + 1) u131)))
def uX1_init : vM := (lpX1_init_105 24 0 mC0)
def rmX1_init : Room := { frames := 2, cells := 19, slots := 1369, locals := 60 }
variable {p : Program} {l : Launch} {e : Env} {s : State} {m : MethodId} {args : Array Value} {below : List Frame} {meth : Method} {c : Code} {D : va_G} {cI cZ : ClassId} {ad : Nat → Nat} {A : Nat → Prop}
theorem hdX0_init : yX0_init.cls ≠ "java/lang/invoke/MethodHandle" ∧ yX0_init.cls ≠ "java/lang/invoke/VarHandle" ∧ (parseMethodDescriptor yX0_init.desc).map (fun d => d.parameters.length) = some 0 := by decide +kernel
theorem hvX0_init : yX0_init.cls = RX0 ∧ yX0_init.cls ≠ "java/lang/invoke/MethodHandle" ∧ yX0_init.cls ≠ "java/lang/invoke/VarHandle" ∧ (parseMethodDescriptor yX0_init.desc).map (fun d => d.parameters.length) = some 0 := by decide +kernel
theorem hinX0_init_X0 : ∀ w ∈ u_ws RX0 TX0 8, w ∈ wsX0_init := by decide +kernel
theorem hoX0_init_1 : Cond.methodLink RX0 3 Lib.objectInit ∈ wsX0_init := by decide +kernel
theorem hoX0_init_2 : Cond.instanceMethod Lib.objectInit ∈ wsX0_init := by decide +kernel
theorem hoX0_init_3 : Cond.code Lib.objectInit ⟨#[0xb1]⟩ 1 none ∈ wsX0_init := by decide +kernel
theorem harrX0_init_int : Cond.arrayClass .int ∈ wsX0_init := by decide +kernel
theorem hfX0_init_9 : Cond.fieldLink RX0 9 "MeteredSheets$Ledger" "prices" "[I" ∈ wsX0_init := by decide +kernel
theorem hfX0_init_15 : Cond.fieldLink RX0 15 "MeteredSheets$Ledger" "budgets" "[I" ∈ wsX0_init := by decide +kernel
theorem hfX0_init_18 : Cond.fieldLink RX0 18 "MeteredSheets$Ledger" "earnings" "[I" ∈ wsX0_init := by decide +kernel
theorem hfX0_init_21 : Cond.fieldLink RX0 21 "MeteredSheets$Ledger" "readsOf" "[I" ∈ wsX0_init := by decide +kernel
theorem hfX0_init_24 : Cond.fieldLink RX0 24 "MeteredSheets$Ledger" "bills" "[I" ∈ wsX0_init := by decide +kernel
theorem hfX0_init_27 : Cond.fieldLink RX0 27 "MeteredSheets$Ledger" "counts" "[I" ∈ wsX0_init := by decide +kernel
theorem hfX0_init_30 : Cond.fieldLink RX0 30 "MeteredSheets$Ledger" "kept" "[I" ∈ wsX0_init := by decide +kernel
theorem hfX0_init_33 : Cond.fieldLink RX0 33 "MeteredSheets$Ledger" "keptCount" "I" ∈ wsX0_init := by decide +kernel
set_option maxHeartbeats 4000000 in
theorem qX0_init_64 (C : vC p s m args meth c D vwCl (tyM cI) xN A (wL cI ad) cX0_init RX0 wsX0_init 2 none) {Q : State → Prop} : ∀ (n k : Nat), k + n = 4 → ∀ (u : vM), (∀ r : vM, lpX0_init_64 n k u = r → V p l e rmX0_init s m args below meth c D vwCl A (wL cI ad) 2 7 1097 Q r 90 [(0, .ref (ad 0)), (1, .int (nI 4))] []) → V p l e rmX0_init s m args below meth c D vwCl A (wL cI ad) 2 7 1097 Q u 64 [(0, .ref (ad 0)), (1, .int (nI k))] [] := by
  intro n
  induction n with
  | zero =>
    intro k hk u KK
    obtain rfl : k = 4 := by omega
    refine V_iload_n C dX0_init_64 rfl 1 rfl ?_
    refine V_iconst (v := 4) C dX0_init_65 (by decide) ?_
    refine V_icmp_ge (tgt := 90) C dX0_init_66 (by decide) (fun _ => ?_) (fun h => absurd (by decide : (4 : Int32) ≤ nI 4) h)
    exact KK _ rfl
  | succ n ih =>
    intro k hk u KK
    have hkB : k < 4 := by omega
    refine V_iload_n C dX0_init_64 rfl 1 rfl ?_
    refine V_iconst (v := 4) C dX0_init_65 (by decide) ?_
    refine V_icmp_ge (tgt := 90) C dX0_init_66 (by decide) (fun h => absurd h (nI_ge hkB (by decide))) (fun _ => ?_)
    refine V_aload_n C dX0_init_69 rfl 0 rfl ?_
    refine V_get (Cn := RX0) (T := TX0) (N := 8) C hinX0_init_X0 0 rfl rfl 0 (by decide) hfX0_init_9 rfl rfl dX0_init_70 ?_
    refine V_iload_n C dX0_init_73 rfl 1 rfl ?_
    refine V_iconst (v := 1) C dX0_init_74 (by decide) ?_
    refine Vm_iast C 1 0 rfl rfl (vp_in_nI hkB (by decide)) wL_s1 dX0_init_75 ?_
    refine V_u (fun u75 hu75 => ?_)
    refine V_aload_n C dX0_init_76 rfl 0 rfl ?_
    refine V_get (Cn := RX0) (T := TX0) (N := 8) C hinX0_init_X0 0 rfl rfl 1 (by decide) hfX0_init_15 rfl rfl dX0_init_77 ?_
    refine V_iload_n C dX0_init_80 rfl 1 rfl ?_
    refine V_bipush (v := 100) C dX0_init_81 (by decide) ?_
    refine Vm_iast C 2 0 rfl rfl (vp_in_nI hkB (by decide)) wL_s2 dX0_init_83 ?_
    refine V_u (fun u83 hu83 => ?_)
    refine V_iinc (v := (nI (k + 1))) (ls' := [(0, .ref (ad 0)), (1, .int (nI (k + 1)))]) C dX0_init_84 1 rfl (nI_1 k) (by decide) rfl rfl ?_
    refine V_goto (tgt := 64) C dX0_init_87 (by decide) ?_
    subst hu83
    subst hu75
    exact ih (k + 1) (by omega) _ (fun r hr => KK r (rfl.trans hr))
set_option maxHeartbeats 4000000 in
theorem tX0_init (C : vC p s m args meth c D vwCl (tyM cI) xN A (wL cI ad) cX0_init RX0 wsX0_init 2 none) {h0 : Nat} (had : ad 0 = h0) : V p l e rmX0_init s m args below meth c D vwCl A (wL cI ad) 2 7 1097 (MQ below (mNq D vwCl A h0 (fun ad => wL cI ad uX0_init)) args s 7 1097 A) mz 62 [(0, .ref (ad 0))] [] := by
  refine V_iconst (v := 0) C dX0_init_62 (by decide) ?_
  refine V_istore_n (ls' := [(0, .ref (ad 0)), (1, .int 0)]) C dX0_init_63 rfl (by decide) rfl rfl ?_
  refine V_sub (ls' := [(0, .ref (ad 0)), (1, .int 0)]) [0, 1] rfl ?_
  refine qX0_init_64 C 4 0 (by decide) mz (fun r64 hr64 => ?_)
  subst hr64
  exact V_nret C ad had rfl rfl dX0_init_90
set_option maxRecDepth 100000 in
set_option maxHeartbeats 4000000 in
theorem kX0_init {l : Launch} {D : va_G} {cI : ClassId} (h0 : Nat) : mN D vwCl (tyM cI) xN l yX0_init wsX0_init rmX0_init h0 0 [.null, .null, .null, .null, .null, .null, .null, .int 0] 7 1097 (fun ad => wL cI ad uX0_init) := by
  refine mN_of (cc := cX0_init) (maxL := 2) (ret := none) (own := RX0) rfl (by decide) rfl rfl (Nat.le_of_ble_eq_true rfl) (fun p e s m args below meth c A C hmn => ?_)
  refine V_ls (ls' := [(0, .ref h0)]) rfl ?_
  refine V_aload_n C dX0_init_0 rfl 0 rfl ?_
  refine V_objInit C hoX0_init_1 hoX0_init_2 hoX0_init_3 (Nat.le_of_ble_eq_true rfl) (Nat.le_of_ble_eq_true rfl) dX0_init_1 ?_
  refine V_aload_n C dX0_init_4 rfl 0 rfl ?_
  refine V_iconst (v := 4) C dX0_init_5 (by decide) ?_
  refine V_newa (atype := .int) (ty := .int) (a0 := (4, .inl (fun _ => 0))) C rfl harrX0_init_int 0 rfl (fun _ => rfl) (by decide) (by decide) (Nat.le_of_ble_eq_true rfl) (Nat.le_of_ble_eq_true rfl) (Nat.le_of_ble_eq_true rfl) dX0_init_6 (fun q6 C => ?_)
  refine V_putF (Cn := RX0) (T := TX0) (N := 8) (ws' := [(h0, .inr (0, [.ref q6, .null, .null, .null, .null, .null, .null, .int 0])), (q6, .inl (cI, 4, .inl (fun _ => 0)))]) C hmn hinX0_init_X0 tyX0 tyX0_ok nmX0 0 rfl rfl 0 (by decide) hfX0_init_9 rfl rfl rfl (tyX0_ok 0 (by decide)) rfl rfl (Nat.le_of_ble_eq_true rfl) rfl dX0_init_8 (fun C => ?_)
  refine V_aload_n C dX0_init_11 rfl 0 rfl ?_
  refine V_iconst (v := 4) C dX0_init_12 (by decide) ?_
  refine V_newa (atype := .int) (ty := .int) (a0 := (4, .inl (fun _ => 0))) C rfl harrX0_init_int 0 rfl (fun _ => rfl) (by decide) (by decide) (Nat.le_of_ble_eq_true rfl) (Nat.le_of_ble_eq_true rfl) (Nat.le_of_ble_eq_true rfl) dX0_init_13 (fun q13 C => ?_)
  refine V_putF (Cn := RX0) (T := TX0) (N := 8) (ws' := [(h0, .inr (0, [.ref q6, .ref q13, .null, .null, .null, .null, .null, .int 0])), (q6, .inl (cI, 4, .inl (fun _ => 0))), (q13, .inl (cI, 4, .inl (fun _ => 0)))]) C hmn hinX0_init_X0 tyX0 tyX0_ok nmX0 0 rfl rfl 1 (by decide) hfX0_init_15 rfl rfl rfl (tyX0_ok 1 (by decide)) rfl rfl (Nat.le_of_ble_eq_true rfl) rfl dX0_init_15 (fun C => ?_)
  refine V_aload_n C dX0_init_18 rfl 0 rfl ?_
  refine V_iconst (v := 4) C dX0_init_19 (by decide) ?_
  refine V_newa (atype := .int) (ty := .int) (a0 := (4, .inl (fun _ => 0))) C rfl harrX0_init_int 0 rfl (fun _ => rfl) (by decide) (by decide) (Nat.le_of_ble_eq_true rfl) (Nat.le_of_ble_eq_true rfl) (Nat.le_of_ble_eq_true rfl) dX0_init_20 (fun q20 C => ?_)
  refine V_putF (Cn := RX0) (T := TX0) (N := 8) (ws' := [(h0, .inr (0, [.ref q6, .ref q13, .ref q20, .null, .null, .null, .null, .int 0])), (q6, .inl (cI, 4, .inl (fun _ => 0))), (q13, .inl (cI, 4, .inl (fun _ => 0))), (q20, .inl (cI, 4, .inl (fun _ => 0)))]) C hmn hinX0_init_X0 tyX0 tyX0_ok nmX0 0 rfl rfl 2 (by decide) hfX0_init_18 rfl rfl rfl (tyX0_ok 2 (by decide)) rfl rfl (Nat.le_of_ble_eq_true rfl) rfl dX0_init_22 (fun C => ?_)
  refine V_aload_n C dX0_init_25 rfl 0 rfl ?_
  refine V_iconst (v := 4) C dX0_init_26 (by decide) ?_
  refine V_newa (atype := .int) (ty := .int) (a0 := (4, .inl (fun _ => 0))) C rfl harrX0_init_int 0 rfl (fun _ => rfl) (by decide) (by decide) (Nat.le_of_ble_eq_true rfl) (Nat.le_of_ble_eq_true rfl) (Nat.le_of_ble_eq_true rfl) dX0_init_27 (fun q27 C => ?_)
  refine V_putF (Cn := RX0) (T := TX0) (N := 8) (ws' := [(h0, .inr (0, [.ref q6, .ref q13, .ref q20, .ref q27, .null, .null, .null, .int 0])), (q6, .inl (cI, 4, .inl (fun _ => 0))), (q13, .inl (cI, 4, .inl (fun _ => 0))), (q20, .inl (cI, 4, .inl (fun _ => 0))), (q27, .inl (cI, 4, .inl (fun _ => 0)))]) C hmn hinX0_init_X0 tyX0 tyX0_ok nmX0 0 rfl rfl 3 (by decide) hfX0_init_21 rfl rfl rfl (tyX0_ok 3 (by decide)) rfl rfl (Nat.le_of_ble_eq_true rfl) rfl dX0_init_29 (fun C => ?_)
  refine V_aload_n C dX0_init_32 rfl 0 rfl ?_
  refine V_iconst (v := 5) C dX0_init_33 (by decide) ?_
  refine V_newa (atype := .int) (ty := .int) (a0 := (5, .inl (fun _ => 0))) C rfl harrX0_init_int 0 rfl (fun _ => rfl) (by decide) (by decide) (Nat.le_of_ble_eq_true rfl) (Nat.le_of_ble_eq_true rfl) (Nat.le_of_ble_eq_true rfl) dX0_init_34 (fun q34 C => ?_)
  refine V_putF (Cn := RX0) (T := TX0) (N := 8) (ws' := [(h0, .inr (0, [.ref q6, .ref q13, .ref q20, .ref q27, .ref q34, .null, .null, .int 0])), (q6, .inl (cI, 4, .inl (fun _ => 0))), (q13, .inl (cI, 4, .inl (fun _ => 0))), (q20, .inl (cI, 4, .inl (fun _ => 0))), (q27, .inl (cI, 4, .inl (fun _ => 0))), (q34, .inl (cI, 5, .inl (fun _ => 0)))]) C hmn hinX0_init_X0 tyX0 tyX0_ok nmX0 0 rfl rfl 4 (by decide) hfX0_init_24 rfl rfl rfl (tyX0_ok 4 (by decide)) rfl rfl (Nat.le_of_ble_eq_true rfl) rfl dX0_init_36 (fun C => ?_)
  refine V_aload_n C dX0_init_39 rfl 0 rfl ?_
  refine V_sipush (v := 576) C dX0_init_40 (by decide) ?_
  refine V_newa (atype := .int) (ty := .int) (a0 := (576, .inl (fun _ => 0))) C rfl harrX0_init_int 0 rfl (fun _ => rfl) (by decide) (by decide) (Nat.le_of_ble_eq_true rfl) (Nat.le_of_ble_eq_true rfl) (Nat.le_of_ble_eq_true rfl) dX0_init_43 (fun q43 C => ?_)
  refine V_putF (Cn := RX0) (T := TX0) (N := 8) (ws' := [(h0, .inr (0, [.ref q6, .ref q13, .ref q20, .ref q27, .ref q34, .ref q43, .null, .int 0])), (q6, .inl (cI, 4, .inl (fun _ => 0))), (q13, .inl (cI, 4, .inl (fun _ => 0))), (q20, .inl (cI, 4, .inl (fun _ => 0))), (q27, .inl (cI, 4, .inl (fun _ => 0))), (q34, .inl (cI, 5, .inl (fun _ => 0))), (q43, .inl (cI, 576, .inl (fun _ => 0)))]) C hmn hinX0_init_X0 tyX0 tyX0_ok nmX0 0 rfl rfl 5 (by decide) hfX0_init_27 rfl rfl rfl (tyX0_ok 5 (by decide)) rfl rfl (Nat.le_of_ble_eq_true rfl) rfl dX0_init_45 (fun C => ?_)
  refine V_aload_n C dX0_init_48 rfl 0 rfl ?_
  refine V_sipush (v := 500) C dX0_init_49 (by decide) ?_
  refine V_newa (atype := .int) (ty := .int) (a0 := (500, .inl (fun _ => 0))) C rfl harrX0_init_int 0 rfl (fun _ => rfl) (by decide) (by decide) (Nat.le_of_ble_eq_true rfl) (Nat.le_of_ble_eq_true rfl) (Nat.le_of_ble_eq_true rfl) dX0_init_52 (fun q52 C => ?_)
  refine V_putF (Cn := RX0) (T := TX0) (N := 8) (ws' := [(h0, .inr (0, [.ref q6, .ref q13, .ref q20, .ref q27, .ref q34, .ref q43, .ref q52, .int 0])), (q6, .inl (cI, 4, .inl (fun _ => 0))), (q13, .inl (cI, 4, .inl (fun _ => 0))), (q20, .inl (cI, 4, .inl (fun _ => 0))), (q27, .inl (cI, 4, .inl (fun _ => 0))), (q34, .inl (cI, 5, .inl (fun _ => 0))), (q43, .inl (cI, 576, .inl (fun _ => 0))), (q52, .inl (cI, 500, .inl (fun _ => 0)))]) C hmn hinX0_init_X0 tyX0 tyX0_ok nmX0 0 rfl rfl 6 (by decide) hfX0_init_30 rfl rfl rfl (tyX0_ok 6 (by decide)) rfl rfl (Nat.le_of_ble_eq_true rfl) rfl dX0_init_54 (fun C => ?_)
  refine V_aload_n C dX0_init_57 rfl 0 rfl ?_
  refine V_iconst (v := 0) C dX0_init_58 (by decide) ?_
  refine V_putG (Cn := RX0) (T := TX0) (N := 8) (ws' := [(h0, .inr (0, [.ref q6, .ref q13, .ref q20, .ref q27, .ref q34, .ref q43, .ref q52, .int 0])), (q6, .inl (cI, 4, .inl (fun _ => 0))), (q13, .inl (cI, 4, .inl (fun _ => 0))), (q20, .inl (cI, 4, .inl (fun _ => 0))), (q27, .inl (cI, 4, .inl (fun _ => 0))), (q34, .inl (cI, 5, .inl (fun _ => 0))), (q43, .inl (cI, 576, .inl (fun _ => 0))), (q52, .inl (cI, 500, .inl (fun _ => 0)))]) C hinX0_init_X0 tyX0 tyX0_ok nmX0 0 rfl rfl 7 (by decide) hfX0_init_33 rfl rfl (tyX0_ok 7 (by decide)) rfl rfl (Nat.le_of_ble_eq_true rfl) rfl dX0_init_59 (fun C => ?_)
  have C : vC p s m args meth c D vwCl (tyM cI) xN A (wL cI (adl [h0, q6, q13, q20, q27, q34, q43, q52])) cX0_init RX0 wsX0_init 2 none := vC_w C (fun u => va_D.addr (C.2.2.2.2.2.1 ()) rfl)
  refine V_conv (w := wL cI (adl [h0, q6, q13, q20, q27, q34, q43, q52])) (u := mz) rfl ?_
  exact tX0_init C rfl
theorem hdX1_init : yX1_init.cls ≠ "java/lang/invoke/MethodHandle" ∧ yX1_init.cls ≠ "java/lang/invoke/VarHandle" ∧ (parseMethodDescriptor yX1_init.desc).map (fun d => d.parameters.length) = some 0 := by decide +kernel
theorem hvX1_init : yX1_init.cls = RX1 ∧ yX1_init.cls ≠ "java/lang/invoke/MethodHandle" ∧ yX1_init.cls ≠ "java/lang/invoke/VarHandle" ∧ (parseMethodDescriptor yX1_init.desc).map (fun d => d.parameters.length) = some 0 := by decide +kernel
theorem hinX1_init_X1 : ∀ w ∈ u_ws RX1 TX1 12, w ∈ wsX1_init := by decide +kernel
theorem hoX1_init_1 : Cond.methodLink RX1 1 Lib.objectInit ∈ wsX1_init := by decide +kernel
theorem hoX1_init_2 : Cond.instanceMethod Lib.objectInit ∈ wsX1_init := by decide +kernel
theorem hoX1_init_3 : Cond.code Lib.objectInit ⟨#[0xb1]⟩ 1 none ∈ wsX1_init := by decide +kernel
theorem harrX1_init_int : Cond.arrayClass .int ∈ wsX1_init := by decide +kernel
theorem hfX1_init_9 : Cond.fieldLink RX1 9 "MeteredSheets" "kinds" "[I" ∈ wsX1_init := by decide +kernel
theorem hfX1_init_13 : Cond.fieldLink RX1 13 "MeteredSheets" "ones" "[I" ∈ wsX1_init := by decide +kernel
theorem hfX1_init_16 : Cond.fieldLink RX1 16 "MeteredSheets" "others" "[I" ∈ wsX1_init := by decide +kernel
theorem hfX1_init_19 : Cond.fieldLink RX1 19 "MeteredSheets" "numbers" "[I" ∈ wsX1_init := by decide +kernel
theorem hfX1_init_22 : Cond.fieldLink RX1 22 "MeteredSheets" "values" "[I" ∈ wsX1_init := by decide +kernel
theorem harrX1_init_boolean : Cond.arrayClass .boolean ∈ wsX1_init := by decide +kernel
theorem hfX1_init_25 : Cond.fieldLink RX1 25 "MeteredSheets" "marked" "[Z" ∈ wsX1_init := by decide +kernel
theorem hfX1_init_29 : Cond.fieldLink RX1 29 "MeteredSheets" "order" "[I" ∈ wsX1_init := by decide +kernel
theorem hinX1_init_X0 : ∀ w ∈ u_ws RX0 TX0 8, w ∈ wsX1_init := by decide +kernel
theorem hnX1_init_1 : Cond.classLink RX1 32 RX0 ∈ wsX1_init := by decide +kernel
theorem hnX1_init_2 : Cond.instantiable RX0 8 ∈ wsX1_init := by decide +kernel
theorem hnX1_init_3 : Cond.initialized RX0 ∈ wsX1_init := by decide +kernel
theorem hnX1_init_4 : Cond.instanceMethod yX0_init ∈ wsX1_init := by decide +kernel
theorem hfX1_init_35 : Cond.fieldLink RX1 35 "MeteredSheets" "ledger" "LMeteredSheets$Ledger;" ∈ wsX1_init := by decide +kernel
theorem hfX1_init_39 : Cond.fieldLink RX1 39 "MeteredSheets" "changed" "[Z" ∈ wsX1_init := by decide +kernel
theorem hfX1_init_42 : Cond.fieldLink RX1 42 "MeteredSheets" "placed" "[Z" ∈ wsX1_init := by decide +kernel
theorem hfX1_init_45 : Cond.fieldLink RX1 45 "MeteredSheets" "reaching" "[Z" ∈ wsX1_init := by decide +kernel
theorem hfX1_init_48 : Cond.fieldLink RX1 48 "MeteredSheets" "fresh" "[I" ∈ wsX1_init := by decide +kernel
set_option maxHeartbeats 4000000 in
theorem qX1_init_105 (C : vC p s m args meth c D vwCl (tyF cI cZ) xN A (wK cI cZ ad) cX1_init RX1 wsX1_init 2 none) {Q : State → Prop} : ∀ (n k : Nat), k + n = 24 → ∀ (u : vM), (∀ r : vM, lpX1_init_105 n k u = r → V p l e rmX1_init s m args below meth c D vwCl A (wK cI cZ ad) 2 19 1369 Q r 138 [(0, .ref (ad 0)), (1, .int (nI 24))] []) → V p l e rmX1_init s m args below meth c D vwCl A (wK cI cZ ad) 2 19 1369 Q u 105 [(0, .ref (ad 0)), (1, .int (nI k))] [] := by
  intro n
  induction n with
  | zero =>
    intro k hk u KK
    obtain rfl : k = 24 := by omega
    refine V_iload_n C dX1_init_105 rfl 1 rfl ?_
    refine V_bipush (v := 24) C dX1_init_106 (by decide) ?_
    refine V_icmp_ge (tgt := 138) C dX1_init_108 (by decide) (fun _ => ?_) (fun h => absurd (by decide : (24 : Int32) ≤ nI 24) h)
    exact KK _ rfl
  | succ n ih =>
    intro k hk u KK
    have hkB : k < 24 := by omega
    refine V_iload_n C dX1_init_105 rfl 1 rfl ?_
    refine V_bipush (v := 24) C dX1_init_106 (by decide) ?_
    refine V_icmp_ge (tgt := 138) C dX1_init_108 (by decide) (fun h => absurd h (nI_ge hkB (by decide))) (fun _ => ?_)
    refine V_aload_n C dX1_init_111 rfl 0 rfl ?_
    refine V_get (Cn := RX1) (T := TX1) (N := 12) C hinX1_init_X1 0 rfl rfl 1 (by decide) hfX1_init_13 rfl rfl dX1_init_112 ?_
    refine V_iload_n C dX1_init_115 rfl 1 rfl ?_
    refine V_iconst (v := (-1)) C dX1_init_116 (by decide) ?_
    refine Vm_iast C 2 0 rfl rfl (vp_in_nI hkB (by decide)) wK_s2 dX1_init_117 ?_
    refine V_u (fun u117 hu117 => ?_)
    refine V_aload_n C dX1_init_118 rfl 0 rfl ?_
    refine V_get (Cn := RX1) (T := TX1) (N := 12) C hinX1_init_X1 0 rfl rfl 2 (by decide) hfX1_init_16 rfl rfl dX1_init_119 ?_
    refine V_iload_n C dX1_init_122 rfl 1 rfl ?_
    refine V_iconst (v := (-1)) C dX1_init_123 (by decide) ?_
    refine Vm_iast C 3 0 rfl rfl (vp_in_nI hkB (by decide)) wK_s3 dX1_init_124 ?_
    refine V_u (fun u124 hu124 => ?_)
    refine V_aload_n C dX1_init_125 rfl 0 rfl ?_
    refine V_get (Cn := RX1) (T := TX1) (N := 12) C hinX1_init_X1 0 rfl rfl 6 (by decide) hfX1_init_29 rfl rfl dX1_init_126 ?_
    refine V_iload_n C dX1_init_129 rfl 1 rfl ?_
    refine V_iload_n C dX1_init_130 rfl 1 rfl ?_
    refine Vm_iast C 7 0 rfl rfl (vp_in_nI hkB (by decide)) wK_s7 dX1_init_131 ?_
    refine V_u (fun u131 hu131 => ?_)
    refine V_iinc (v := (nI (k + 1))) (ls' := [(0, .ref (ad 0)), (1, .int (nI (k + 1)))]) C dX1_init_132 1 rfl (nI_1 k) (by decide) rfl rfl ?_
    refine V_goto (tgt := 105) C dX1_init_135 (by decide) ?_
    subst hu131
    subst hu124
    subst hu117
    exact ih (k + 1) (by omega) _ (fun r hr => KK r (rfl.trans hr))
set_option maxHeartbeats 4000000 in
theorem tX1_init (C : vC p s m args meth c D vwCl (tyF cI cZ) xN A (wK cI cZ ad) cX1_init RX1 wsX1_init 2 none) {h0 : Nat} (had : ad 0 = h0) : V p l e rmX1_init s m args below meth c D vwCl A (wK cI cZ ad) 2 19 1369 (MQ below (mNq D vwCl A h0 (fun ad => wK cI cZ ad uX1_init)) args s 19 1369 A) mC0 103 [(0, .ref (ad 0))] [] := by
  refine V_iconst (v := 0) C dX1_init_103 (by decide) ?_
  refine V_istore_n (ls' := [(0, .ref (ad 0)), (1, .int 0)]) C dX1_init_104 rfl (by decide) rfl rfl ?_
  refine V_sub (ls' := [(0, .ref (ad 0)), (1, .int 0)]) [0, 1] rfl ?_
  refine qX1_init_105 C 24 0 (by decide) mC0 (fun r105 hr105 => ?_)
  subst hr105
  exact V_nret C ad had rfl rfl dX1_init_138
set_option maxRecDepth 100000 in
set_option maxHeartbeats 4000000 in
theorem kX1_init {l : Launch} {D : va_G} {cI cZ : ClassId} (h0 : Nat) : mN D vwCl (tyF cI cZ) xN l yX1_init wsX1_init rmX1_init h0 1 [.null, .null, .null, .null, .null, .null, .null, .null, .null, .null, .null, .null] 19 1369 (fun ad => wK cI cZ ad uX1_init) := by
  refine mN_of (cc := cX1_init) (maxL := 2) (ret := none) (own := RX1) rfl (by decide) rfl rfl (Nat.le_of_ble_eq_true rfl) (fun p e s m args below meth c A C hmn => ?_)
  refine V_ls (ls' := [(0, .ref h0)]) rfl ?_
  refine V_aload_n C dX1_init_0 rfl 0 rfl ?_
  refine V_objInit C hoX1_init_1 hoX1_init_2 hoX1_init_3 (Nat.le_of_ble_eq_true rfl) (Nat.le_of_ble_eq_true rfl) dX1_init_1 ?_
  refine V_aload_n C dX1_init_4 rfl 0 rfl ?_
  refine V_bipush (v := 24) C dX1_init_5 (by decide) ?_
  refine V_newa (atype := .int) (ty := .int) (a0 := (24, .inl (fun _ => 0))) C rfl harrX1_init_int 0 rfl (fun _ => rfl) (by decide) (by decide) (Nat.le_of_ble_eq_true rfl) (Nat.le_of_ble_eq_true rfl) (Nat.le_of_ble_eq_true rfl) dX1_init_7 (fun q7 C => ?_)
  refine V_putF (Cn := RX1) (T := TX1) (N := 12) (ws' := [(h0, .inr (1, [.ref q7, .null, .null, .null, .null, .null, .null, .null, .null, .null, .null, .null])), (q7, .inl (cI, 24, .inl (fun _ => 0)))]) C hmn hinX1_init_X1 tyX1 tyX1_ok nmX1 0 rfl rfl 0 (by decide) hfX1_init_9 rfl rfl rfl (tyX1_ok 0 (by decide)) rfl rfl (Nat.le_of_ble_eq_true rfl) rfl dX1_init_9 (fun C => ?_)
  refine V_aload_n C dX1_init_12 rfl 0 rfl ?_
  refine V_bipush (v := 24) C dX1_init_13 (by decide) ?_
  refine V_newa (atype := .int) (ty := .int) (a0 := (24, .inl (fun _ => 0))) C rfl harrX1_init_int 0 rfl (fun _ => rfl) (by decide) (by decide) (Nat.le_of_ble_eq_true rfl) (Nat.le_of_ble_eq_true rfl) (Nat.le_of_ble_eq_true rfl) dX1_init_15 (fun q15 C => ?_)
  refine V_putF (Cn := RX1) (T := TX1) (N := 12) (ws' := [(h0, .inr (1, [.ref q7, .ref q15, .null, .null, .null, .null, .null, .null, .null, .null, .null, .null])), (q7, .inl (cI, 24, .inl (fun _ => 0))), (q15, .inl (cI, 24, .inl (fun _ => 0)))]) C hmn hinX1_init_X1 tyX1 tyX1_ok nmX1 0 rfl rfl 1 (by decide) hfX1_init_13 rfl rfl rfl (tyX1_ok 1 (by decide)) rfl rfl (Nat.le_of_ble_eq_true rfl) rfl dX1_init_17 (fun C => ?_)
  refine V_aload_n C dX1_init_20 rfl 0 rfl ?_
  refine V_bipush (v := 24) C dX1_init_21 (by decide) ?_
  refine V_newa (atype := .int) (ty := .int) (a0 := (24, .inl (fun _ => 0))) C rfl harrX1_init_int 0 rfl (fun _ => rfl) (by decide) (by decide) (Nat.le_of_ble_eq_true rfl) (Nat.le_of_ble_eq_true rfl) (Nat.le_of_ble_eq_true rfl) dX1_init_23 (fun q23 C => ?_)
  refine V_putF (Cn := RX1) (T := TX1) (N := 12) (ws' := [(h0, .inr (1, [.ref q7, .ref q15, .ref q23, .null, .null, .null, .null, .null, .null, .null, .null, .null])), (q7, .inl (cI, 24, .inl (fun _ => 0))), (q15, .inl (cI, 24, .inl (fun _ => 0))), (q23, .inl (cI, 24, .inl (fun _ => 0)))]) C hmn hinX1_init_X1 tyX1 tyX1_ok nmX1 0 rfl rfl 2 (by decide) hfX1_init_16 rfl rfl rfl (tyX1_ok 2 (by decide)) rfl rfl (Nat.le_of_ble_eq_true rfl) rfl dX1_init_25 (fun C => ?_)
  refine V_aload_n C dX1_init_28 rfl 0 rfl ?_
  refine V_bipush (v := 24) C dX1_init_29 (by decide) ?_
  refine V_newa (atype := .int) (ty := .int) (a0 := (24, .inl (fun _ => 0))) C rfl harrX1_init_int 0 rfl (fun _ => rfl) (by decide) (by decide) (Nat.le_of_ble_eq_true rfl) (Nat.le_of_ble_eq_true rfl) (Nat.le_of_ble_eq_true rfl) dX1_init_31 (fun q31 C => ?_)
  refine V_putF (Cn := RX1) (T := TX1) (N := 12) (ws' := [(h0, .inr (1, [.ref q7, .ref q15, .ref q23, .ref q31, .null, .null, .null, .null, .null, .null, .null, .null])), (q7, .inl (cI, 24, .inl (fun _ => 0))), (q15, .inl (cI, 24, .inl (fun _ => 0))), (q23, .inl (cI, 24, .inl (fun _ => 0))), (q31, .inl (cI, 24, .inl (fun _ => 0)))]) C hmn hinX1_init_X1 tyX1 tyX1_ok nmX1 0 rfl rfl 3 (by decide) hfX1_init_19 rfl rfl rfl (tyX1_ok 3 (by decide)) rfl rfl (Nat.le_of_ble_eq_true rfl) rfl dX1_init_33 (fun C => ?_)
  refine V_aload_n C dX1_init_36 rfl 0 rfl ?_
  refine V_bipush (v := 24) C dX1_init_37 (by decide) ?_
  refine V_newa (atype := .int) (ty := .int) (a0 := (24, .inl (fun _ => 0))) C rfl harrX1_init_int 0 rfl (fun _ => rfl) (by decide) (by decide) (Nat.le_of_ble_eq_true rfl) (Nat.le_of_ble_eq_true rfl) (Nat.le_of_ble_eq_true rfl) dX1_init_39 (fun q39 C => ?_)
  refine V_putF (Cn := RX1) (T := TX1) (N := 12) (ws' := [(h0, .inr (1, [.ref q7, .ref q15, .ref q23, .ref q31, .ref q39, .null, .null, .null, .null, .null, .null, .null])), (q7, .inl (cI, 24, .inl (fun _ => 0))), (q15, .inl (cI, 24, .inl (fun _ => 0))), (q23, .inl (cI, 24, .inl (fun _ => 0))), (q31, .inl (cI, 24, .inl (fun _ => 0))), (q39, .inl (cI, 24, .inl (fun _ => 0)))]) C hmn hinX1_init_X1 tyX1 tyX1_ok nmX1 0 rfl rfl 4 (by decide) hfX1_init_22 rfl rfl rfl (tyX1_ok 4 (by decide)) rfl rfl (Nat.le_of_ble_eq_true rfl) rfl dX1_init_41 (fun C => ?_)
  refine V_aload_n C dX1_init_44 rfl 0 rfl ?_
  refine V_bipush (v := 24) C dX1_init_45 (by decide) ?_
  refine V_newa (atype := .boolean) (ty := .boolean) (a0 := (24, .inl (fun _ => 0))) C rfl harrX1_init_boolean 1 rfl (fun _ => rfl) (by decide) (by decide) (Nat.le_of_ble_eq_true rfl) (Nat.le_of_ble_eq_true rfl) (Nat.le_of_ble_eq_true rfl) dX1_init_47 (fun q47 C => ?_)
  refine V_putF (Cn := RX1) (T := TX1) (N := 12) (ws' := [(h0, .inr (1, [.ref q7, .ref q15, .ref q23, .ref q31, .ref q39, .ref q47, .null, .null, .null, .null, .null, .null])), (q7, .inl (cI, 24, .inl (fun _ => 0))), (q15, .inl (cI, 24, .inl (fun _ => 0))), (q23, .inl (cI, 24, .inl (fun _ => 0))), (q31, .inl (cI, 24, .inl (fun _ => 0))), (q39, .inl (cI, 24, .inl (fun _ => 0))), (q47, .inl (cZ, 24, .inl (fun _ => 0)))]) C hmn hinX1_init_X1 tyX1 tyX1_ok nmX1 0 rfl rfl 5 (by decide) hfX1_init_25 rfl rfl rfl (tyX1_ok 5 (by decide)) rfl rfl (Nat.le_of_ble_eq_true rfl) rfl dX1_init_49 (fun C => ?_)
  refine V_aload_n C dX1_init_52 rfl 0 rfl ?_
  refine V_bipush (v := 24) C dX1_init_53 (by decide) ?_
  refine V_newa (atype := .int) (ty := .int) (a0 := (24, .inl (fun _ => 0))) C rfl harrX1_init_int 0 rfl (fun _ => rfl) (by decide) (by decide) (Nat.le_of_ble_eq_true rfl) (Nat.le_of_ble_eq_true rfl) (Nat.le_of_ble_eq_true rfl) dX1_init_55 (fun q55 C => ?_)
  refine V_putF (Cn := RX1) (T := TX1) (N := 12) (ws' := [(h0, .inr (1, [.ref q7, .ref q15, .ref q23, .ref q31, .ref q39, .ref q47, .ref q55, .null, .null, .null, .null, .null])), (q7, .inl (cI, 24, .inl (fun _ => 0))), (q15, .inl (cI, 24, .inl (fun _ => 0))), (q23, .inl (cI, 24, .inl (fun _ => 0))), (q31, .inl (cI, 24, .inl (fun _ => 0))), (q39, .inl (cI, 24, .inl (fun _ => 0))), (q47, .inl (cZ, 24, .inl (fun _ => 0))), (q55, .inl (cI, 24, .inl (fun _ => 0)))]) C hmn hinX1_init_X1 tyX1 tyX1_ok nmX1 0 rfl rfl 6 (by decide) hfX1_init_29 rfl rfl rfl (tyX1_ok 6 (by decide)) rfl rfl (Nat.le_of_ble_eq_true rfl) rfl dX1_init_57 (fun C => ?_)
  refine V_aload_n C dX1_init_60 rfl 0 rfl ?_
  refine V_new (ci := 0) (fs := [.null, .null, .null, .null, .null, .null, .null, .int 0]) C hinX1_init_X0 tyX0 tyX0_ok hnX1_init_1 hnX1_init_2 hnX1_init_3 rfl (fun j hj => by rcases (show j = 0 ∨ j = 1 ∨ j = 2 ∨ j = 3 ∨ j = 4 ∨ j = 5 ∨ j = 6 ∨ j = 7 by omega) with rfl | rfl | rfl | rfl | rfl | rfl | rfl | rfl <;> rfl) (Nat.le_of_ble_eq_true rfl) (Nat.le_of_ble_eq_true rfl) dX1_init_61 (fun q61 C => ?_)
  refine V_dup C dX1_init_64 rfl ?_
  refine V_ctorN (i0 := 8) (Post := fun ad => wL cI ad uX0_init) C xN_ok ⟨[0], rfl⟩ (kX0_init q61) ⟨va_cnB 0 C.2.2.1 ggX1_init_X0_init rfl rfl rfl (C.2.2.2.2.2.2.2.2.2.2 _ nwX1_34) (C.2.2.1 _ hnX1_init_3) hdX0_init ⟨Nat.le_of_ble_eq_true rfl, Nat.le_of_ble_eq_true rfl⟩, rfl, C.2.2.1 _ hnX1_init_4⟩ [0, 1, 2, 3, 4, 5, 6, 7] [(h0, .inr (1, [.ref q7, .ref q15, .ref q23, .ref q31, .ref q39, .ref q47, .ref q55, .null, .null, .null, .null, .null])), (q7, .inl (cI, 24, .inl (fun _ => 0))), (q15, .inl (cI, 24, .inl (fun _ => 0))), (q23, .inl (cI, 24, .inl (fun _ => 0))), (q31, .inl (cI, 24, .inl (fun _ => 0))), (q39, .inl (cI, 24, .inl (fun _ => 0))), (q47, .inl (cZ, 24, .inl (fun _ => 0))), (q55, .inl (cI, 24, .inl (fun _ => 0)))] rfl rfl (by decide) (by decide) (Nat.le_of_ble_eq_true rfl) ⟨(Nat.le_of_ble_eq_true rfl), (Nat.le_of_ble_eq_true rfl)⟩ dX1_init_65 (fun adL hadL C2 => ?_)
  subst hadL
  have C := C2
  refine V_putF (Cn := RX1) (T := TX1) (N := 12) (ws' := [(h0, .inr (1, [.ref q7, .ref q15, .ref q23, .ref q31, .ref q39, .ref q47, .ref q55, .ref (adL 0), .null, .null, .null, .null])), (q7, .inl (cI, 24, .inl (fun _ => 0))), (q15, .inl (cI, 24, .inl (fun _ => 0))), (q23, .inl (cI, 24, .inl (fun _ => 0))), (q31, .inl (cI, 24, .inl (fun _ => 0))), (q39, .inl (cI, 24, .inl (fun _ => 0))), (q47, .inl (cZ, 24, .inl (fun _ => 0))), (q55, .inl (cI, 24, .inl (fun _ => 0))), ((adL 0), .inr (0, [.ref (adL 1), .ref (adL 2), .ref (adL 3), .ref (adL 4), .ref (adL 5), .ref (adL 6), .ref (adL 7), .int (uX0_init 8 0)])), ((adL 1), .inl (cI, 4, .inl (uX0_init 1))), ((adL 2), .inl (cI, 4, .inl (uX0_init 2))), ((adL 3), .inl (cI, 4, .inl (uX0_init 3))), ((adL 4), .inl (cI, 4, .inl (uX0_init 4))), ((adL 5), .inl (cI, 5, .inl (uX0_init 5))), ((adL 6), .inl (cI, 576, .inl (uX0_init 6))), ((adL 7), .inl (cI, 500, .inl (uX0_init 7)))]) C hmn hinX1_init_X1 tyX1 tyX1_ok nmX1 0 rfl rfl 7 (by decide) hfX1_init_35 rfl rfl rfl (tyX1_ok 7 (by decide)) rfl rfl (Nat.le_of_ble_eq_true rfl) rfl dX1_init_68 (fun C => ?_)
  refine V_aload_n C dX1_init_71 rfl 0 rfl ?_
  refine V_bipush (v := 24) C dX1_init_72 (by decide) ?_
  refine V_newa (atype := .boolean) (ty := .boolean) (a0 := (24, .inl (fun _ => 0))) C rfl harrX1_init_boolean 1 rfl (fun _ => rfl) (by decide) (by decide) (Nat.le_of_ble_eq_true rfl) (Nat.le_of_ble_eq_true rfl) (Nat.le_of_ble_eq_true rfl) dX1_init_74 (fun q74 C => ?_)
  refine V_putF (Cn := RX1) (T := TX1) (N := 12) (ws' := [(h0, .inr (1, [.ref q7, .ref q15, .ref q23, .ref q31, .ref q39, .ref q47, .ref q55, .ref (adL 0), .ref q74, .null, .null, .null])), (q7, .inl (cI, 24, .inl (fun _ => 0))), (q15, .inl (cI, 24, .inl (fun _ => 0))), (q23, .inl (cI, 24, .inl (fun _ => 0))), (q31, .inl (cI, 24, .inl (fun _ => 0))), (q39, .inl (cI, 24, .inl (fun _ => 0))), (q47, .inl (cZ, 24, .inl (fun _ => 0))), (q55, .inl (cI, 24, .inl (fun _ => 0))), ((adL 0), .inr (0, [.ref (adL 1), .ref (adL 2), .ref (adL 3), .ref (adL 4), .ref (adL 5), .ref (adL 6), .ref (adL 7), .int (uX0_init 8 0)])), ((adL 1), .inl (cI, 4, .inl (uX0_init 1))), ((adL 2), .inl (cI, 4, .inl (uX0_init 2))), ((adL 3), .inl (cI, 4, .inl (uX0_init 3))), ((adL 4), .inl (cI, 4, .inl (uX0_init 4))), ((adL 5), .inl (cI, 5, .inl (uX0_init 5))), ((adL 6), .inl (cI, 576, .inl (uX0_init 6))), ((adL 7), .inl (cI, 500, .inl (uX0_init 7))), (q74, .inl (cZ, 24, .inl (fun _ => 0)))]) C hmn hinX1_init_X1 tyX1 tyX1_ok nmX1 0 rfl rfl 8 (by decide) hfX1_init_39 rfl rfl rfl (tyX1_ok 8 (by decide)) rfl rfl (Nat.le_of_ble_eq_true rfl) rfl dX1_init_76 (fun C => ?_)
  refine V_aload_n C dX1_init_79 rfl 0 rfl ?_
  refine V_bipush (v := 24) C dX1_init_80 (by decide) ?_
  refine V_newa (atype := .boolean) (ty := .boolean) (a0 := (24, .inl (fun _ => 0))) C rfl harrX1_init_boolean 1 rfl (fun _ => rfl) (by decide) (by decide) (Nat.le_of_ble_eq_true rfl) (Nat.le_of_ble_eq_true rfl) (Nat.le_of_ble_eq_true rfl) dX1_init_82 (fun q82 C => ?_)
  refine V_putF (Cn := RX1) (T := TX1) (N := 12) (ws' := [(h0, .inr (1, [.ref q7, .ref q15, .ref q23, .ref q31, .ref q39, .ref q47, .ref q55, .ref (adL 0), .ref q74, .ref q82, .null, .null])), (q7, .inl (cI, 24, .inl (fun _ => 0))), (q15, .inl (cI, 24, .inl (fun _ => 0))), (q23, .inl (cI, 24, .inl (fun _ => 0))), (q31, .inl (cI, 24, .inl (fun _ => 0))), (q39, .inl (cI, 24, .inl (fun _ => 0))), (q47, .inl (cZ, 24, .inl (fun _ => 0))), (q55, .inl (cI, 24, .inl (fun _ => 0))), ((adL 0), .inr (0, [.ref (adL 1), .ref (adL 2), .ref (adL 3), .ref (adL 4), .ref (adL 5), .ref (adL 6), .ref (adL 7), .int (uX0_init 8 0)])), ((adL 1), .inl (cI, 4, .inl (uX0_init 1))), ((adL 2), .inl (cI, 4, .inl (uX0_init 2))), ((adL 3), .inl (cI, 4, .inl (uX0_init 3))), ((adL 4), .inl (cI, 4, .inl (uX0_init 4))), ((adL 5), .inl (cI, 5, .inl (uX0_init 5))), ((adL 6), .inl (cI, 576, .inl (uX0_init 6))), ((adL 7), .inl (cI, 500, .inl (uX0_init 7))), (q74, .inl (cZ, 24, .inl (fun _ => 0))), (q82, .inl (cZ, 24, .inl (fun _ => 0)))]) C hmn hinX1_init_X1 tyX1 tyX1_ok nmX1 0 rfl rfl 9 (by decide) hfX1_init_42 rfl rfl rfl (tyX1_ok 9 (by decide)) rfl rfl (Nat.le_of_ble_eq_true rfl) rfl dX1_init_84 (fun C => ?_)
  refine V_aload_n C dX1_init_87 rfl 0 rfl ?_
  refine V_bipush (v := 24) C dX1_init_88 (by decide) ?_
  refine V_newa (atype := .boolean) (ty := .boolean) (a0 := (24, .inl (fun _ => 0))) C rfl harrX1_init_boolean 1 rfl (fun _ => rfl) (by decide) (by decide) (Nat.le_of_ble_eq_true rfl) (Nat.le_of_ble_eq_true rfl) (Nat.le_of_ble_eq_true rfl) dX1_init_90 (fun q90 C => ?_)
  refine V_putF (Cn := RX1) (T := TX1) (N := 12) (ws' := [(h0, .inr (1, [.ref q7, .ref q15, .ref q23, .ref q31, .ref q39, .ref q47, .ref q55, .ref (adL 0), .ref q74, .ref q82, .ref q90, .null])), (q7, .inl (cI, 24, .inl (fun _ => 0))), (q15, .inl (cI, 24, .inl (fun _ => 0))), (q23, .inl (cI, 24, .inl (fun _ => 0))), (q31, .inl (cI, 24, .inl (fun _ => 0))), (q39, .inl (cI, 24, .inl (fun _ => 0))), (q47, .inl (cZ, 24, .inl (fun _ => 0))), (q55, .inl (cI, 24, .inl (fun _ => 0))), ((adL 0), .inr (0, [.ref (adL 1), .ref (adL 2), .ref (adL 3), .ref (adL 4), .ref (adL 5), .ref (adL 6), .ref (adL 7), .int (uX0_init 8 0)])), ((adL 1), .inl (cI, 4, .inl (uX0_init 1))), ((adL 2), .inl (cI, 4, .inl (uX0_init 2))), ((adL 3), .inl (cI, 4, .inl (uX0_init 3))), ((adL 4), .inl (cI, 4, .inl (uX0_init 4))), ((adL 5), .inl (cI, 5, .inl (uX0_init 5))), ((adL 6), .inl (cI, 576, .inl (uX0_init 6))), ((adL 7), .inl (cI, 500, .inl (uX0_init 7))), (q74, .inl (cZ, 24, .inl (fun _ => 0))), (q82, .inl (cZ, 24, .inl (fun _ => 0))), (q90, .inl (cZ, 24, .inl (fun _ => 0)))]) C hmn hinX1_init_X1 tyX1 tyX1_ok nmX1 0 rfl rfl 10 (by decide) hfX1_init_45 rfl rfl rfl (tyX1_ok 10 (by decide)) rfl rfl (Nat.le_of_ble_eq_true rfl) rfl dX1_init_92 (fun C => ?_)
  refine V_aload_n C dX1_init_95 rfl 0 rfl ?_
  refine V_bipush (v := 24) C dX1_init_96 (by decide) ?_
  refine V_newa (atype := .int) (ty := .int) (a0 := (24, .inl (fun _ => 0))) C rfl harrX1_init_int 0 rfl (fun _ => rfl) (by decide) (by decide) (Nat.le_of_ble_eq_true rfl) (Nat.le_of_ble_eq_true rfl) (Nat.le_of_ble_eq_true rfl) dX1_init_98 (fun q98 C => ?_)
  refine V_putF (Cn := RX1) (T := TX1) (N := 12) (ws' := [(h0, .inr (1, [.ref q7, .ref q15, .ref q23, .ref q31, .ref q39, .ref q47, .ref q55, .ref (adL 0), .ref q74, .ref q82, .ref q90, .ref q98])), (q7, .inl (cI, 24, .inl (fun _ => 0))), (q15, .inl (cI, 24, .inl (fun _ => 0))), (q23, .inl (cI, 24, .inl (fun _ => 0))), (q31, .inl (cI, 24, .inl (fun _ => 0))), (q39, .inl (cI, 24, .inl (fun _ => 0))), (q47, .inl (cZ, 24, .inl (fun _ => 0))), (q55, .inl (cI, 24, .inl (fun _ => 0))), ((adL 0), .inr (0, [.ref (adL 1), .ref (adL 2), .ref (adL 3), .ref (adL 4), .ref (adL 5), .ref (adL 6), .ref (adL 7), .int (uX0_init 8 0)])), ((adL 1), .inl (cI, 4, .inl (uX0_init 1))), ((adL 2), .inl (cI, 4, .inl (uX0_init 2))), ((adL 3), .inl (cI, 4, .inl (uX0_init 3))), ((adL 4), .inl (cI, 4, .inl (uX0_init 4))), ((adL 5), .inl (cI, 5, .inl (uX0_init 5))), ((adL 6), .inl (cI, 576, .inl (uX0_init 6))), ((adL 7), .inl (cI, 500, .inl (uX0_init 7))), (q74, .inl (cZ, 24, .inl (fun _ => 0))), (q82, .inl (cZ, 24, .inl (fun _ => 0))), (q90, .inl (cZ, 24, .inl (fun _ => 0))), (q98, .inl (cI, 24, .inl (fun _ => 0)))]) C hmn hinX1_init_X1 tyX1 tyX1_ok nmX1 0 rfl rfl 11 (by decide) hfX1_init_48 rfl rfl rfl (tyX1_ok 11 (by decide)) rfl rfl (Nat.le_of_ble_eq_true rfl) rfl dX1_init_100 (fun C => ?_)
  refine V_pick (ws' := [(h0, .inr (1, [.ref q7, .ref q15, .ref q23, .ref q31, .ref q39, .ref q47, .ref q55, .ref (adL 0), .ref q74, .ref q82, .ref q90, .ref q98])), (q7, .inl (cI, 24, .inl (fun _ => 0))), (q15, .inl (cI, 24, .inl (fun _ => 0))), (q23, .inl (cI, 24, .inl (fun _ => 0))), (q31, .inl (cI, 24, .inl (fun _ => 0))), (q39, .inl (cI, 24, .inl (fun _ => 0))), (q47, .inl (cZ, 24, .inl (fun _ => 0))), (q55, .inl (cI, 24, .inl (fun _ => 0))), ((adL 0), .inr (0, [.ref (adL 1), .ref (adL 2), .ref (adL 3), .ref (adL 4), .ref (adL 5), .ref (adL 6), .ref (adL 7), .int (uX0_init 8 0)])), (q74, .inl (cZ, 24, .inl (fun _ => 0))), (q82, .inl (cZ, 24, .inl (fun _ => 0))), (q90, .inl (cZ, 24, .inl (fun _ => 0))), (q98, .inl (cI, 24, .inl (fun _ => 0))), ((adL 1), .inl (cI, 4, .inl (uX0_init 1))), ((adL 2), .inl (cI, 4, .inl (uX0_init 2))), ((adL 3), .inl (cI, 4, .inl (uX0_init 3))), ((adL 4), .inl (cI, 4, .inl (uX0_init 4))), ((adL 5), .inl (cI, 5, .inl (uX0_init 5))), ((adL 6), .inl (cI, 576, .inl (uX0_init 6))), ((adL 7), .inl (cI, 500, .inl (uX0_init 7)))]) [0, 1, 2, 3, 4, 5, 6, 7, 8, 16, 17, 18, 19, 9, 10, 11, 12, 13, 14, 15] rfl (by decide) rfl C (fun C => ?_)
  have C : vC p s m args meth c D vwCl (tyF cI cZ) xN A (wK cI cZ (adl [h0, q7, q15, q23, q31, q39, q47, q55, (adL 0), q74, q82, q90, q98, (adL 1), (adL 2), (adL 3), (adL 4), (adL 5), (adL 6), (adL 7)])) cX1_init RX1 wsX1_init 2 none := vC_w C (fun u => va_D.addr (C.2.2.2.2.2.1 ()) rfl)
  refine V_conv (w := wK cI cZ (adl [h0, q7, q15, q23, q31, q39, q47, q55, (adL 0), q74, q82, q90, q98, (adL 1), (adL 2), (adL 3), (adL 4), (adL 5), (adL 6), (adL 7)])) (u := mC0) rfl ?_
  exact tX1_init C rfl
end
section
/-! plain facts of rows, for the mathematics of the law -/
theorem upd_at {f : Nat → Int32} {k : Nat} {x : Int32} {j : Nat} : upd f k x j = if j = k then x else f j := rfl
theorem upd_eq {f : Nat → Int32} {k : Nat} {x : Int32} : upd f k x k = x := if_pos rfl
theorem upd_ne {f : Nat → Int32} {k j : Nat} {x : Int32} (h : j ≠ k) : upd f k x j = f j := if_neg h
theorem mup_row {u : vM} {q : Nat} {i x : Int32} : mup u q i x q = upd (u q) i.toNatClampNeg x := by
  unfold mup mR
  rw [Nat.beq_refl]
  rfl
theorem mst_row {u : vM} {q : Nat} {x : Int32} : mst u q x q = fun _ => x := by
  unfold mst mR
  rw [Nat.beq_refl]
  rfl
theorem mrd_nI {u : vM} {q i : Nat} (h : i < 2 ^ 31) : mrd u q (nI i) = u q i := by
  unfold mrd
  rw [nI_clamp h]
theorem mup_nI {u : vM} {q i : Nat} {x : Int32} (h : i < 2 ^ 31) : mup u q (nI i) x q = upd (u q) i x := by rw [mup_row, nI_clamp h]
theorem mrd_ne {u : vM} {q q' : Nat} {i x j : Int32} (h : q' ≠ q) : mrd (mup u q i x) q' j = mrd u q' j := by unfold mrd; rw [mup_ne h]
theorem d6_nI {j : Nat} (h : j < 2 ^ 31) : nI j / 6 = nI (j / 6) := pk_div h (by decide) (by decide)
theorem ix_nI {i j : Nat} (hi : i < 24) (hj : j < 24) : nI i * 24 + nI j = nI (24 * i + j) := by
  rw [show (24 : Int32) = nI 24 from rfl, pk_mul, nI_add, Nat.mul_comm]
theorem cell1_nI {j : Nat} (h : j < 24) : rX1_isCell (nI j) = 1 := cell1_in (vp_in_nI h (by decide))
theorem cell1_m1 : rX1_isCell (-1) = 0 := by decide +kernel
theorem add_cancel_l (x y : Int32) : x + -y + y = x := by grind
theorem bo_up {u : vM} {q : Nat} {i x : Int32} (h : bo u q) (hx : x = 0 ∨ x = 1) : bo (mup u q i x) q := by
  intro j
  rw [mup_row, upd_at]
  split
  · exact hx
  · exact h j
theorem bo_fr {u u' : vM} {q : Nat} (e : u' q = u q) (h : bo u q) : bo u' q := fun j => by rw [e]; exact h j
end
section
/-! THE LEDGER: what it holds, and that paying keeps it -/
def s4 (f : Nat → Int32) : Int32 := 0 + f 0 + f 1 + f 2 + f 3
def s5 (f : Nat → Int32) : Int32 := 0 + f 0 + f 1 + f 2 + f 3 + f 4
theorem s4_upd {f : Nat → Int32} {q : Nat} {x : Int32} (h : q < 4) : s4 (upd f q (f q + x)) = s4 f + x := by
  rcases (show q = 0 ∨ q = 1 ∨ q = 2 ∨ q = 3 by omega) with rfl | rfl | rfl | rfl <;> simp [s4, upd_at] <;> grind
theorem s5_upd {f : Nat → Int32} {q : Nat} {x : Int32} (h : q < 5) : s5 (upd f q (f q + x)) = s5 f + x := by
  rcases (show q = 0 ∨ q = 1 ∨ q = 2 ∨ q = 3 ∨ q = 4 by omega) with rfl | rfl | rfl | rfl | rfl <;> simp [s5, upd_at] <;> grind
/-- a kept reading: by this user, over sheets, counted -/
def EN (us S : Nat) (u : vM) (n : Nat) : Prop := ∃ rd rr c : Nat, rd < 24 ∧ rr < 24 ∧ rd / 6 ≠ rr / 6 ∧ u 19 n = nI (10000 * us + 100 * rd + rr) ∧ 1 ≤ c ∧ c ≤ S ∧ u 18 (24 * rd + rr) = nI c
/-- the ledger: prices, budgets up to B, money (d is paid and not yet entered), S readings in all, those from m1 on of the user us -/
def LG (us m1 B S : Nat) (d : Int32) (u : vM) : Prop :=
  (∀ q, q < 4 → ∃ p : Nat, p ≤ 100 ∧ u 13 q = nI p) ∧
  (∀ q, q < 4 → ∃ b : Nat, b ≤ B ∧ u 14 q = nI b) ∧
  (s4 (u 14) + s4 (u 15) + d = u 20 0 ∧ s5 (u 17) = s4 (u 15)) ∧
  (s4 (u 16) = nI S ∧ u 8 0 = nI (min S 500)) ∧
  (∀ i, i < 576 → ∃ c : Nat, c ≤ S ∧ u 18 i = nI c) ∧
  (∀ n, m1 ≤ n → n < min S 500 → EN us S u n)
theorem LG_fr {us m1 B S : Nat} {d : Int32} {u u' : vM} (h : LG us m1 B S d u) (e8 : u' 8 = u 8) (e13 : u' 13 = u 13) (e14 : u' 14 = u 14) (e15 : u' 15 = u 15) (e16 : u' 16 = u 16) (e17 : u' 17 = u 17) (e18 : u' 18 = u 18) (e19 : u' 19 = u 19) (e20 : u' 20 0 = u 20 0) : LG us m1 B S d u' := by
  unfold LG EN at *
  rw [e8, e13, e14, e15, e16, e17, e18, e19, e20]
  exact h
theorem LG_wide {us m1 B B' S : Nat} {d : Int32} {u : vM} (h : LG us m1 B S d u) (hB : B ≤ B') : LG us m1 B' S d u := by
  obtain ⟨h1, h2, h3⟩ := h
  refine ⟨h1, fun q hq => ?_, h3⟩
  obtain ⟨b, hb, e⟩ := h2 q hq
  exact ⟨b, Nat.le_trans hb hB, e⟩
theorem en_rows {u : vM} {us c r : Nat} (hus : us < 5) (hc : c < 24) (hr : r < 24) :
    uX0_enter u (nI us) (nI c) (nI r) 15 = upd (u 15) (r / 6) (u 15 (r / 6) + u 13 (r / 6)) ∧
    uX0_enter u (nI us) (nI c) (nI r) 17 = upd (u 17) us (u 17 us + u 13 (r / 6)) ∧
    uX0_enter u (nI us) (nI c) (nI r) 16 = upd (u 16) (r / 6) (u 16 (r / 6) + 1) ∧
    uX0_enter u (nI us) (nI c) (nI r) 18 = upd (u 18) (24 * c + r) (u 18 (24 * c + r) + 1) ∧
    ((500 : Int32) ≤ u 8 0 → uX0_enter u (nI us) (nI c) (nI r) 8 = u 8 ∧ uX0_enter u (nI us) (nI c) (nI r) 19 = u 19) ∧
    (¬ (500 : Int32) ≤ u 8 0 → uX0_enter u (nI us) (nI c) (nI r) 8 0 = u 8 0 + 1 ∧ uX0_enter u (nI us) (nI c) (nI r) 19 = upd (u 19) (u 8 0).toNatClampNeg (10000 * nI us + 100 * nI c + nI r)) := by
  have h0 : ¬ rX1_isCell (nI r) = 0 := by rw [cell1_nI hr]; decide
  have h6 : (nI (r / 6)).toNatClampNeg = r / 6 := nI_clamp (by omega)
  have h7 : (nI us).toNatClampNeg = us := nI_clamp (by omega)
  have h8 : (nI (24 * c + r)).toNatClampNeg = 24 * c + r := nI_clamp (by omega)
  unfold uX0_enter rX1_sheetOf
  rw [if_neg h0, d6_nI (show r < 2 ^ 31 by omega), ix_nI hc hr]
  dsimp only
  refine ⟨?_, ?_, ?_, ?_, fun hK => ?_, fun hK => ?_⟩
  · split <;> simp [mrd, mfd, mup_row, mup_ne, mst_ne, h6, h7, h8]
  · split <;> simp [mrd, mfd, mup_row, mup_ne, mst_ne, h6, h7, h8]
  · split <;> simp [mrd, mfd, mup_row, mup_ne, mst_ne, h6, h7, h8]
  · split <;> simp [mrd, mfd, mup_row, mup_ne, mst_ne, h6, h7, h8]
  · rw [if_pos (by simpa [mfd, mup_ne] using hK)]
    constructor <;> simp [mup_ne]
  · rw [if_neg (by simpa [mfd, mup_ne] using hK)]
    constructor <;> simp [mrd, mfd, mup_row, mup_ne, mst_ne, mst_row]
theorem LG_enter {us m1 B S c r : Nat} {d : Int32} {u : vM} (hus : us < 5) (hc : c < 24) (hr : r < 24) (hd : c / 6 ≠ r / 6) (h : LG us m1 B S (u 13 (r / 6) + d) u) : LG us m1 B (S + 1) d (uX0_enter u (nI us) (nI c) (nI r)) := by
  obtain ⟨h13, h14, ⟨hm1, hm2⟩, ⟨hs1, hs2⟩, hcn, hen⟩ := h
  obtain ⟨e15, e17, e16, e18, eA, eB⟩ := en_rows (u := u) hus hc hr
  have e13 : uX0_enter u (nI us) (nI c) (nI r) 13 = u 13 := fr_uX0_enter (by decide) (by decide) (by decide) (by decide) (by decide) (by decide)
  have e14 : uX0_enter u (nI us) (nI c) (nI r) 14 = u 14 := fr_uX0_enter (by decide) (by decide) (by decide) (by decide) (by decide) (by decide)
  have e20 : uX0_enter u (nI us) (nI c) (nI r) 20 = u 20 := fr_uX0_enter (by decide) (by decide) (by decide) (by decide) (by decide) (by decide)
  have hcn' : ∀ i, i < 576 → ∃ c' : Nat, c' ≤ S + 1 ∧ uX0_enter u (nI us) (nI c) (nI r) 18 i = nI c' ∧ (u 18 i = nI c' ∨ ∃ c0, c' = c0 + 1 ∧ u 18 i = nI c0 ∧ i = 24 * c + r) := by
    intro i hi
    obtain ⟨c0, hc0, e0⟩ := hcn i hi
    rw [e18, upd_at]
    by_cases z : i = 24 * c + r
    · rw [if_pos z, ← z, e0]
      exact ⟨c0 + 1, by omega, nI_1 c0, Or.inr ⟨c0, rfl, rfl, rfl⟩⟩
    · rw [if_neg z]
      exact ⟨c0, by omega, e0, Or.inl e0⟩
  have hold : ∀ n, m1 ≤ n → n < min S 500 → uX0_enter u (nI us) (nI c) (nI r) 19 n = u 19 n → EN us (S + 1) (uX0_enter u (nI us) (nI c) (nI r)) n := by
    intro n hn1 hn2 e19
    obtain ⟨rd, rr, c0, g1, g2, g3, g4, g5, g6, g7⟩ := hen n hn1 hn2
    have gi : 24 * rd + rr < 576 := by omega
    refine ⟨rd, rr, ?_⟩
    by_cases z : 24 * rd + rr = 24 * c + r
    · refine ⟨c0 + 1, g1, g2, g3, by rw [e19]; exact g4, by omega, by omega, ?_⟩
      rw [e18, z, upd_eq, ← z, g7]
      exact nI_1 c0
    · refine ⟨c0, g1, g2, g3, by rw [e19]; exact g4, g5, by omega, ?_⟩
      rw [e18, upd_ne z]
      exact g7
  refine ⟨fun q hq => by rw [e13]; exact h13 q hq, fun q hq => by rw [e14]; exact h14 q hq, ⟨?_, ?_⟩, ⟨?_, ?_⟩, fun i hi => ?_, ?_⟩
  · rw [e14, e15, e20, s4_upd (by omega)]
    rw [← hm1]
    grind
  · rw [e17, e15, s5_upd hus, s4_upd (by omega), hm2]
  · rw [e16, s4_upd (by omega), hs1]
    exact nI_1 S
  · by_cases hS : S < 500
    · have h5 : ¬ (500 : Int32) ≤ u 8 0 := by
        rw [hs2, show min S 500 = S by omega]
        exact nI_ge (b := 500) hS (by decide)
      rw [(eB h5).1, hs2, show min S 500 = S by omega, show min (S + 1) 500 = S + 1 by omega]
      exact nI_1 S
    · have h5 : (500 : Int32) ≤ u 8 0 := by
        rw [hs2, show min S 500 = 500 by omega]
        decide
      rw [(eA h5).1, hs2, show min S 500 = 500 by omega, show min (S + 1) 500 = 500 by omega]
  · obtain ⟨c', g1, g2, -⟩ := hcn' i hi
    exact ⟨c', g1, g2⟩
  · intro n hn1 hn2
    by_cases hS : S < 500
    · have h5 : ¬ (500 : Int32) ≤ u 8 0 := by
        rw [hs2, show min S 500 = S by omega]
        exact nI_ge (b := 500) hS (by decide)
      have e19 := (eB h5).2
      rw [hs2, show min S 500 = S by omega, nI_clamp (by omega)] at e19
      by_cases z : n = S
      · subst z
        obtain ⟨c0, hc0, e0⟩ := hcn (24 * c + r) (by omega)
        refine ⟨c, r, c0 + 1, hc, hr, hd, ?_, by omega, by omega, ?_⟩
        · rw [e19, upd_eq, show (10000 : Int32) = nI 10000 from rfl, show (100 : Int32) = nI 100 from rfl, pk_mul, pk_mul, nI_add, nI_add]
        · rw [e18, upd_eq, e0]
          exact nI_1 c0
      · exact hold n hn1 (by omega) (by rw [e19, upd_ne z])
    · have h5 : (500 : Int32) ≤ u 8 0 := by
        rw [hs2, show min S 500 = 500 by omega]
        decide
      exact hold n hn1 (by omega) (by rw [(eA h5).2])
/-- what a cell may be billed for: no cell, or a cell of another sheet -/
def ot (c : Nat) (x : Int32) : Prop := x = -1 ∨ ∃ r, r < 24 ∧ c / 6 ≠ r / 6 ∧ x = nI r
theorem cost_m1 {u : vM} : rX0_costOf u (-1) = 0 := by unfold rX0_costOf; rw [cell1_m1, if_pos rfl]
theorem cost_nI {u : vM} {r : Nat} (h : r < 24) : rX0_costOf u (nI r) = u 13 (r / 6) := by
  unfold rX0_costOf rX1_sheetOf
  rw [cell1_nI h, if_neg c10, d6_nI (by omega), mrd_nI (by omega)]
theorem enter_m1 {u : vM} {a b : Int32} : uX0_enter u a b (-1) = u := by unfold uX0_enter; rw [cell1_m1, if_pos rfl]
theorem LG_ot {us m1 B S c : Nat} {d x : Int32} {u : vM} (hus : us < 5) (hc : c < 24) (hx : ot c x) (h : LG us m1 B S (rX0_costOf u x + d) u) : ∃ S', S ≤ S' ∧ S' ≤ S + 1 ∧ LG us m1 B S' d (uX0_enter u (nI us) (nI c) x) := by
  rcases hx with rfl | ⟨r, hr, hd, rfl⟩
  · rw [cost_m1, Int32.zero_add] at h
    rw [enter_m1]
    exact ⟨S, Nat.le_refl _, Nat.le_succ _, h⟩
  · rw [cost_nI hr] at h
    exact ⟨S + 1, Nat.le_succ _, Nat.le_refl _, LG_enter hus hc hr hd h⟩
theorem cost_fr {u u' : vM} (e : u' 13 = u 13) {x : Int32} : rX0_costOf u' x = rX0_costOf u x := by
  unfold rX0_costOf mrd
  rw [e]
theorem cost_b {us m1 B S : Nat} {d : Int32} {u : vM} (h : LG us m1 B S d u) {c : Nat} {x : Int32} (hx : ot c x) : ∃ p, p ≤ 100 ∧ rX0_costOf u x = nI p := by
  rcases hx with rfl | ⟨r, hr, hd, rfl⟩
  · exact ⟨0, by omega, cost_m1⟩
  · rw [cost_nI hr]
    exact h.1 (r / 6) (by omega)
/-- paying keeps the ledger -/
theorem LG_pay {us m1 B S c : Nat} {x y : Int32} {u : vM} (hB : B < 2 ^ 30) (hus : us < 5) (hc : c < 24) (hx : ot c x) (hy : ot c y) (h : LG us m1 B S 0 u) : ∃ S', S ≤ S' ∧ S' ≤ S + 2 ∧ LG us m1 B S' 0 (uX0_paysFor u (nI us) (nI c) x y) := by
  unfold uX0_paysFor rX1_sheetOf
  rw [d6_nI (show c < 2 ^ 31 by omega)]
  dsimp only
  split
  · rename_i hle
    obtain ⟨p1, hp1, e1⟩ := cost_b h hx
    obtain ⟨p2, hp2, e2⟩ := cost_b h hy
    obtain ⟨b, hb, eb⟩ := h.2.1 (c / 6) (by omega)
    rw [mrd_nI (by omega), e1, e2, nI_add, eb] at hle
    have hle' : p1 + p2 ≤ b := (nI_leI (by omega) (by omega)).mp hle
    have h1 : LG us m1 B S (rX0_costOf u x + rX0_costOf u y) (mup u 14 (nI (c / 6)) (mrd u 14 (nI (c / 6)) - (rX0_costOf u x + rX0_costOf u y))) := by
      obtain ⟨h13, h14, ⟨hm1, hm2⟩, h5⟩ := h
      have e14 : mup u 14 (nI (c / 6)) (mrd u 14 (nI (c / 6)) - (rX0_costOf u x + rX0_costOf u y)) 14 = upd (u 14) (c / 6) (u 14 (c / 6) + -(rX0_costOf u x + rX0_costOf u y)) := by
        rw [mup_nI (by omega), mrd_nI (by omega), Int32.sub_eq_add_neg]
      have en : ∀ q : Nat, q ≠ 14 → mup u 14 (nI (c / 6)) (mrd u 14 (nI (c / 6)) - (rX0_costOf u x + rX0_costOf u y)) q = u q := fun q hq => mup_ne hq
      generalize hw : mup u 14 (nI (c / 6)) (mrd u 14 (nI (c / 6)) - (rX0_costOf u x + rX0_costOf u y)) = w at e14 en
      refine ⟨fun q hq => by rw [en 13 (by decide)]; exact h13 q hq, fun q hq => ?_, ⟨?_, by rw [en 17 (by decide), en 15 (by decide)]; exact hm2⟩, ?_⟩
      · rw [e14, upd_at]
        by_cases z : q = c / 6
        · rw [if_pos z, eb, e1, e2, nI_add, ← Int32.sub_eq_add_neg, pk_sub hle']
          exact ⟨b - (p1 + p2), by omega, rfl⟩
        · rw [if_neg z]
          exact h14 q hq
      · rw [e14, s4_upd (by omega), en 15 (by decide), en 20 (by decide), ← hm1]
        grind
      · unfold EN at *
        rw [en 16 (by decide), en 8 (by decide), en 18 (by decide), en 19 (by decide)]
        exact h5
    generalize hw : mup u 14 (nI (c / 6)) (mrd u 14 (nI (c / 6)) - (rX0_costOf u x + rX0_costOf u y)) = w at h1
    have ew : w 13 = u 13 := by rw [← hw]; exact mup_ne (by decide)
    rw [← cost_fr (x := x) ew, ← cost_fr (x := y) ew] at h1
    obtain ⟨S1, g1, g2, h2⟩ := LG_ot hus hc hx h1
    have ev : uX0_enter w (nI us) (nI c) x 13 = w 13 := fr_uX0_enter (by decide) (by decide) (by decide) (by decide) (by decide) (by decide)
    rw [← cost_fr (x := y) ev, ← Int32.add_zero (rX0_costOf _ y)] at h2
    obtain ⟨S2, g3, g4, h3⟩ := LG_ot hus hc hy h2
    exact ⟨S2, by omega, by omega, h3⟩
  · exact ⟨S, Nat.le_refl _, by omega, h⟩
end
section
/-! COMPUTING a cell, and going through all of them: a cell that isn't marked stays what its formula comes to -/
/-- a cell that the formula of c may name: none, or one below -/
def rdw (x : Int32) (c : Nat) : Prop := x = -1 ∨ ∃ j, j < c ∧ x = nI j
/-- formulas read cells below alone -/
def FS (u : vM) : Prop := ∀ c, c < 24 → rdw (u 2 c) c ∧ rdw (u 3 c) c
theorem FS_fr {u u' : vM} (e2 : u' 2 = u 2) (e3 : u' 3 = u 3) (h : FS u) : FS u' := fun c hc => by rw [e2, e3]; exact h c hc
/-- the order is that of the numbers -/
def OD (u : vM) : Prop := ∀ c, c < 24 → u 7 c = nI c
theorem OD_fr {u u' : vM} (e : u' 7 = u 7) (h : OD u) : OD u' := fun c hc => by rw [e]; exact h c hc
def DD (u : vM) (c j : Nat) : Prop := u 2 c = nI j ∨ u 3 c = nI j
def CS (u : vM) (c : Nat) : Prop := u 5 c = rX1_resultOf_v5 u (nI c)
def GG (u : vM) (K c : Nat) : Prop := CS u c ∨ (K ≤ c ∧ ∃ j, j < 24 ∧ DD u c j ∧ u 9 j = 1)
theorem res_fr {u u' : vM} {a : Int32} (h1 : u' 1 = u 1) (h2 : u' 2 = u 2) (h3 : u' 3 = u 3) (h4 : u' 4 = u 4) (h5 : u' 5 = u 5) : rX1_resultOf_v5 u' a = rX1_resultOf_v5 u a := by
  unfold rX1_resultOf_v5 rX1_valueIn_v5 mrd
  rw [h1, h2, h3, h4, h5]
theorem nI_inj {a b : Nat} (ha : a < 24) (hb : b < 24) (h : nI a = nI b) : a = b := (nI_eq (by omega) (by omega)).mp h
theorem m1_ne {j : Nat} (hj : j < 24) : (-1 : Int32) ≠ nI j := by
  intro e
  have h := nI_toInt (n := j) (by omega)
  rw [← e] at h
  have h2 : (-1 : Int32).toInt = -1 := by decide
  omega
theorem vi5_m1 {u : vM} : rX1_valueIn_v5 u (-1) = 0 := by unfold rX1_valueIn_v5; rw [if_pos (by decide)]
theorem vi5_nI {u : vM} {j : Nat} (h : j < 24) : rX1_valueIn_v5 u (nI j) = u 5 j := by
  unfold rX1_valueIn_v5
  rw [if_neg (nI_pos (by omega)), if_neg (in_nle (vp_in_nI h (by decide))), mrd_nI (by omega)]
theorem vi5_congr {u u' : vM} {x : Int32} {c : Nat} (hc : c < 24) (hx : rdw x c) (h : ∀ j, j < c → x = nI j → u' 5 j = u 5 j) : rX1_valueIn_v5 u' x = rX1_valueIn_v5 u x := by
  rcases hx with rfl | ⟨j, hj, rfl⟩
  · rw [vi5_m1, vi5_m1]
  · rw [vi5_nI (by omega), vi5_nI (by omega), h j hj rfl]
theorem res_congr {u u' : vM} {c : Nat} (hF : FS u) (hc : c < 24) (h1 : u' 1 = u 1) (h2 : u' 2 = u 2) (h3 : u' 3 = u 3) (h4 : u' 4 = u 4) (h : ∀ j, j < c → DD u c j → u' 5 j = u 5 j) : rX1_resultOf_v5 u' (nI c) = rX1_resultOf_v5 u (nI c) := by
  have a2 : mrd u' 2 (nI c) = u 2 c := by rw [mrd_nI (by omega), h2]
  have a3 : mrd u' 3 (nI c) = u 3 c := by rw [mrd_nI (by omega), h3]
  have b2 : mrd u 2 (nI c) = u 2 c := mrd_nI (by omega)
  have b3 : mrd u 3 (nI c) = u 3 c := mrd_nI (by omega)
  have e1 : mrd u' 1 (nI c) = mrd u 1 (nI c) := by unfold mrd; rw [h1]
  have e4 : mrd u' 4 (nI c) = mrd u 4 (nI c) := by unfold mrd; rw [h4]
  unfold rX1_resultOf_v5
  rw [a2, a3, b2, b3, e1, e4, vi5_congr (u := u) (u' := u') hc (hF c hc).1 (fun j hj e => h j hj (Or.inl e)), vi5_congr (u := u) (u' := u') hc (hF c hc).2 (fun j hj e => h j hj (Or.inr e))]
theorem met_ot {c : Nat} {x : Int32} (hc : c < 24) (hx : rdw x c) : ot c (rX1_meteredRead (nI c) x) := by
  rcases hx with rfl | ⟨j, hj, rfl⟩
  · unfold rX1_meteredRead
    rw [cell1_m1, if_pos rfl]
    exact Or.inl rfl
  · unfold rX1_meteredRead rX1_sheetOf
    rw [cell1_nI (by omega), if_neg c10, d6_nI (by omega), d6_nI (by omega)]
    split
    · exact Or.inl rfl
    · rename_i h
      exact Or.inr ⟨j, by omega, fun e => h (by rw [e]), rfl⟩
/-- what computing leaves: the cell marked and nothing else but the ledger; or its value, unmarked -/
theorem comp_rows {us m1 B S c : Nat} {u : vM} (hB : B < 2 ^ 30) (hus : us < 5) (hc : c < 24) (hF : FS u) (h : LG us m1 B S 0 u) :
    (∃ S', S ≤ S' ∧ S' ≤ S + 2 ∧ LG us m1 B S' 0 (uX1_compute u (nI us) (nI c))) ∧
    ((uX1_compute u (nI us) (nI c) 5 = u 5 ∧ uX1_compute u (nI us) (nI c) 6 = upd (u 6) c 1 ∧ uX1_compute u (nI us) (nI c) 9 = u 9) ∨
     (uX1_compute u (nI us) (nI c) 5 = upd (u 5) c (rX1_resultOf_v5 u (nI c)) ∧ uX1_compute u (nI us) (nI c) 6 = upd (u 6) c 0 ∧ uX1_compute u (nI us) (nI c) 9 = upd (u 9) c (if rX1_resultOf_v5 u (nI c) = u 5 c then 0 else 1))) := by
  have hx : ot c (rX1_meteredRead (nI c) (mrd u 2 (nI c))) := by rw [mrd_nI (by omega)]; exact met_ot hc (hF c hc).1
  have hy : ot c (if mrd u 3 (nI c) = mrd u 2 (nI c) then (-1) else rX1_meteredRead (nI c) (mrd u 3 (nI c))) := by
    split
    · exact Or.inl rfl
    · rw [mrd_nI (by omega)]; exact met_ot hc (hF c hc).2
  unfold uX1_compute
  dsimp only
  generalize rX1_meteredRead (nI c) (mrd u 2 (nI c)) = x at hx ⊢
  generalize (if mrd u 3 (nI c) = mrd u 2 (nI c) then (-1) else rX1_meteredRead (nI c) (mrd u 3 (nI c))) = y at hy ⊢
  obtain ⟨S', g1, g2, g3⟩ := LG_pay hB hus hc hx hy h
  have en : ∀ q : Nat, q ≠ 8 → q ≠ 14 → q ≠ 15 → q ≠ 16 → q ≠ 17 → q ≠ 18 → q ≠ 19 → uX0_paysFor u (nI us) (nI c) x y q = u q := fun q a b c d e f g => fr_uX0_paysFor a b c d e f g
  generalize uX0_paysFor u (nI us) (nI c) x y = w at g3 en ⊢
  have w1 : w 1 = u 1 := en 1 (by decide) (by decide) (by decide) (by decide) (by decide) (by decide) (by decide)
  have w2 : w 2 = u 2 := en 2 (by decide) (by decide) (by decide) (by decide) (by decide) (by decide) (by decide)
  have w3 : w 3 = u 3 := en 3 (by decide) (by decide) (by decide) (by decide) (by decide) (by decide) (by decide)
  have w4 : w 4 = u 4 := en 4 (by decide) (by decide) (by decide) (by decide) (by decide) (by decide) (by decide)
  have w5 : w 5 = u 5 := en 5 (by decide) (by decide) (by decide) (by decide) (by decide) (by decide) (by decide)
  have w6 : w 6 = u 6 := en 6 (by decide) (by decide) (by decide) (by decide) (by decide) (by decide) (by decide)
  have w9 : w 9 = u 9 := en 9 (by decide) (by decide) (by decide) (by decide) (by decide) (by decide) (by decide)
  have hcl : (nI c).toNatClampNeg = c := nI_clamp (by omega)
  by_cases hp : rX0_paysFor u (nI us) (nI c) x y = 0
  · rw [if_pos hp]
    have hm : mrd (mup w 6 (nI c) 1) 6 (nI c) = 1 := by rw [mrd_nI (by omega), mup_nI (by omega), upd_eq]
    rw [if_neg (by rw [hm]; decide)]
    refine ⟨⟨S', g1, g2, LG_fr g3 ?_ ?_ ?_ ?_ ?_ ?_ ?_ ?_ ?_⟩, Or.inl ⟨?_, ?_, ?_⟩⟩
    all_goals first | (simp [mup_ne, mup_row, hcl, w5, w6, w9]; done) | rw [mup_ne (by decide)]
  · rw [if_neg hp]
    have hm : mrd (mup w 6 (nI c) 0) 6 (nI c) = 0 := by rw [mrd_nI (by omega), mup_nI (by omega), upd_eq]
    rw [if_pos hm]
    have hr : rX1_resultOf_v5 (mup w 6 (nI c) 0) (nI c) = rX1_resultOf_v5 u (nI c) := res_fr (by rw [mup_ne (by decide), w1]) (by rw [mup_ne (by decide), w2]) (by rw [mup_ne (by decide), w3]) (by rw [mup_ne (by decide), w4]) (by rw [mup_ne (by decide), w5])
    have h5 : mrd (mup w 6 (nI c) 0) 5 (nI c) = u 5 c := by rw [mrd_nI (by omega), mup_ne (by decide), w5]
    rw [hr, h5]
    refine ⟨⟨S', g1, g2, LG_fr g3 ?_ ?_ ?_ ?_ ?_ ?_ ?_ ?_ ?_⟩, Or.inr ⟨?_, ?_, ?_⟩⟩
    all_goals first | (simp [mup_ne, mup_row, hcl, w5, w6, w9]; done) | rw [mup_ne (by decide), mup_ne (by decide), mup_ne (by decide)]
end
section
/-! going through all cells -/
theorem upd_same {f : Nat → Int32} {k : Nat} {x : Int32} (h : f k = x) : upd f k x = f := by
  funext j
  rw [upd_at]
  split
  · rename_i e; rw [e, h]
  · rfl
theorem comp_GG {c K : Nat} {u u' : vM} (hc : c < 24) (hF : FS u) (hK : K ≤ c + 1) (h9 : u 9 c = 0)
    (hG : ∀ i, i < 24 → i ≠ c → u 6 i = 0 → GG u K i) (e1 : u' 1 = u 1) (e2 : u' 2 = u 2) (e3 : u' 3 = u 3) (e4 : u' 4 = u 4)
    (hr : (u' 5 = u 5 ∧ u' 6 = upd (u 6) c 1 ∧ u' 9 = u 9) ∨ (u' 5 = upd (u 5) c (rX1_resultOf_v5 u (nI c)) ∧ u' 6 = upd (u 6) c 0 ∧ u' 9 = upd (u 9) c (if rX1_resultOf_v5 u (nI c) = u 5 c then 0 else 1))) :
    ∀ i, i < 24 → u' 6 i = 0 → GG u' K i := by
  intro i hi h6
  rcases hr with ⟨e5, e6, e9⟩ | ⟨e5, e6, e9⟩
  · rw [e6, upd_at] at h6
    by_cases z : i = c
    · rw [if_pos z] at h6
      exact absurd h6 (by decide)
    · rw [if_neg z] at h6
      rcases hG i hi z h6 with g | ⟨g1, j, g2, g3, g4⟩
      · left
        unfold CS
        rw [res_fr e1 e2 e3 e4 e5, e5]
        exact g
      · right
        refine ⟨g1, j, g2, ?_, by rw [e9]; exact g4⟩
        unfold DD
        rw [e2, e3]
        exact g3
  · by_cases z : i = c
    · left
      subst z
      unfold CS
      rw [res_congr hF hi e1 e2 e3 e4 (fun j hj _ => by rw [e5, upd_ne (by omega)]), e5, upd_eq]
    · rw [e6, upd_ne z] at h6
      have hDD : ∀ j, DD u' i j ↔ DD u i j := fun j => by unfold DD; rw [e2, e3]
      by_cases hrd : DD u i c
      · have hlt : c < i := by
          rcases hrd with e | e
          · rcases (hF i hi).1 with a | ⟨j, hj, a⟩
            · rw [a] at e; exact absurd e (m1_ne hc)
            · rw [a] at e; rw [nI_inj (by omega) hc e] at hj; exact hj
          · rcases (hF i hi).2 with a | ⟨j, hj, a⟩
            · rw [a] at e; exact absurd e (m1_ne hc)
            · rw [a] at e; rw [nI_inj (by omega) hc e] at hj; exact hj
        by_cases hch : rX1_resultOf_v5 u (nI c) = u 5 c
        · rw [if_pos hch, upd_same h9] at e9
          rw [hch, upd_same rfl] at e5
          rcases hG i hi z h6 with g | ⟨g1, j, g2, g3, g4⟩
          · left
            unfold CS
            rw [res_fr e1 e2 e3 e4 e5, e5]
            exact g
          · exact Or.inr ⟨g1, j, g2, (hDD j).mpr g3, by rw [e9]; exact g4⟩
        · rw [if_neg hch] at e9
          exact Or.inr ⟨by omega, c, hc, (hDD c).mpr hrd, by rw [e9, upd_eq]⟩
      · rcases hG i hi z h6 with g | ⟨g1, j, g2, g3, g4⟩
        · left
          unfold CS
          rw [res_congr hF hi e1 e2 e3 e4 (fun j hj hd => by rw [e5, upd_ne (show j ≠ c from fun q => hrd (by rw [← q]; exact hd))]), e5, upd_ne z]
          exact g
        · have hj : j ≠ c := fun q => hrd (by rw [← q]; exact g3)
          exact Or.inr ⟨g1, j, g2, (hDD j).mpr g3, by rw [e9, upd_ne hj]; exact g4⟩
theorem isIn9_nI {u : vM} {j : Nat} (h : j < 24) : rX1_isIn_v9 u (nI j) = 0 ↔ u 9 j = 0 := by
  unfold rX1_isIn_v9
  rw [if_neg (nI_pos (by omega)), if_neg (in_nle (vp_in_nI h (by decide))), mrd_nI (by omega)]
  by_cases z : u 9 j = 0
  · rw [if_pos z]; exact ⟨fun _ => z, fun _ => rfl⟩
  · rw [if_neg z]; exact ⟨fun q => absurd q c10, fun q => absurd q z⟩
theorem isIn9_m1 {u : vM} : rX1_isIn_v9 u (-1) = 0 := by unfold rX1_isIn_v9; rw [if_pos (by decide)]
/-- a cell that reads none that has changed -/
theorem ro9_no {u : vM} {k : Nat} (hk : k < 24) (h : rX1_readsOneOf_v9 u (nI k) = 0) : ∀ j, j < 24 → DD u k j → u 9 j = 0 := by
  unfold rX1_readsOneOf_v9 at h
  rw [mrd_nI (by omega), mrd_nI (by omega)] at h
  intro j hj hd
  by_cases a : rX1_isIn_v9 u (u 2 k) = 0
  · rw [if_pos a] at h
    by_cases b : rX1_isIn_v9 u (u 3 k) = 0
    · rcases hd with e | e
      · rw [e] at a; exact (isIn9_nI hj).mp a
      · rw [e] at b; exact (isIn9_nI hj).mp b
    · rw [if_neg b] at h; exact absurd h (by decide)
  · rw [if_neg a] at h; exact absurd h (by decide)
theorem ro9_yes {u : vM} {k : Nat} (hk : k < 24) (hF : FS u) (h : ∀ j, j < k → u 9 j = 0) : rX1_readsOneOf_v9 u (nI k) = 0 := by
  have key : ∀ x, rdw x k → rX1_isIn_v9 u x = 0 := by
    rintro x (rfl | ⟨j, hj, rfl⟩)
    · exact isIn9_m1
    · exact (isIn9_nI (by omega)).mpr (h j hj)
  unfold rX1_readsOneOf_v9
  rw [mrd_nI (by omega), mrd_nI (by omega), if_pos (key _ (hF k hk).1), if_pos (key _ (hF k hk).2)]
theorem od_mrd {u : vM} (h : OD u) {k : Nat} (hk : k < 24) : mrd u 7 (nI k) = nI k := by rw [mrd_nI (by omega), h k hk]
theorem bo_comp {c : Nat} {u u' : vM} (h6 : bo u 6) (h9 : bo u 9)
    (hr : (u' 5 = u 5 ∧ u' 6 = upd (u 6) c 1 ∧ u' 9 = u 9) ∨ (u' 5 = upd (u 5) c (rX1_resultOf_v5 u (nI c)) ∧ u' 6 = upd (u 6) c 0 ∧ u' 9 = upd (u 9) c (if rX1_resultOf_v5 u (nI c) = u 5 c then 0 else 1))) : bo u' 6 ∧ bo u' 9 := by
  have key : ∀ {f g : Nat → Int32} {x : Int32}, (∀ i, f i = 0 ∨ f i = 1) → (x = 0 ∨ x = 1) → g = upd f c x → ∀ i, g i = 0 ∨ g i = 1 := by
    intro f g x hf hx hg i
    rw [hg, upd_at]
    split
    · exact hx
    · exact hf i
  rcases hr with ⟨-, e6, e9⟩ | ⟨-, e6, e9⟩
  · exact ⟨key h6 (Or.inr rfl) e6, fun i => by rw [e9]; exact h9 i⟩
  · refine ⟨key h6 (Or.inl rfl) e6, key h9 ?_ e9⟩
    split
    · exact Or.inl rfl
    · exact Or.inr rfl
/-- going through: from place k on -/
theorem go_loop {us m1 B : Nat} (hB : B < 2 ^ 30) (hus : us < 5) (a2 : Int32) : ∀ (n k S X : Nat) (u : vM), k + n = 24 → FS u → OD u → bo u 6 → bo u 9 → LG us m1 B S 0 u → (∀ i, i < 24 → u 6 i = 0 → GG u k i) → (∀ j, k ≤ j → j < 24 → u 9 j = 0) →
    (∃ S', S ≤ S' ∧ S' ≤ S + 2 * n ∧ LG us m1 B S' 0 (lpX1_goThrough_5 (nI us) a2 n k u (nI X)).1) ∧ bo (lpX1_goThrough_5 (nI us) a2 n k u (nI X)).1 6 ∧ (∀ i, i < 24 → (lpX1_goThrough_5 (nI us) a2 n k u (nI X)).1 6 i = 0 → CS (lpX1_goThrough_5 (nI us) a2 n k u (nI X)).1 i) ∧ ∃ m, m ≤ n ∧ (lpX1_goThrough_5 (nI us) a2 n k u (nI X)).2 = nI (X + m) := by
  intro n
  induction n with
  | zero =>
    intro k S X u hk hF hO h6 h9 hL hG hz
    refine ⟨⟨S, Nat.le_refl _, Nat.le_refl _, hL⟩, h6, fun i hi q => ?_, 0, Nat.le_refl _, rfl⟩
    rcases hG i hi q with g | ⟨g, -⟩
    · exact g
    · omega
  | succ n ih =>
    intro k S X u hk hF hO h6 h9 hL hG hz
    have hk24 : k < 24 := by omega
    have skip : rX1_readsOneOf_v9 u (nI k) = 0 → ∀ i, i < 24 → u 6 i = 0 → GG u (k + 1) i := by
      intro hno i hi q
      rcases hG i hi q with g | ⟨g1, j, g2, g3, g4⟩
      · exact Or.inl g
      · refine Or.inr ⟨?_, j, g2, g3, g4⟩
        rcases Nat.lt_or_ge k i with z | z
        · exact z
        · obtain rfl : i = k := by omega
          exact absurd ((ro9_no hk24 hno j g2 g3).symm.trans g4) (by decide)
    have doit : (∃ S', S ≤ S' ∧ S' ≤ S + 2 * (n + 1) ∧ LG us m1 B S' 0 (lpX1_goThrough_5 (nI us) a2 n (k + 1) (uX1_compute u (nI us) (nI k)) (nI X + 1)).1) ∧ bo (lpX1_goThrough_5 (nI us) a2 n (k + 1) (uX1_compute u (nI us) (nI k)) (nI X + 1)).1 6 ∧ (∀ i, i < 24 → (lpX1_goThrough_5 (nI us) a2 n (k + 1) (uX1_compute u (nI us) (nI k)) (nI X + 1)).1 6 i = 0 → CS (lpX1_goThrough_5 (nI us) a2 n (k + 1) (uX1_compute u (nI us) (nI k)) (nI X + 1)).1 i) ∧ ∃ m, m ≤ n + 1 ∧ (lpX1_goThrough_5 (nI us) a2 n (k + 1) (uX1_compute u (nI us) (nI k)) (nI X + 1)).2 = nI (X + m) := by
      obtain ⟨⟨S1, s1, s2, hL1⟩, hr⟩ := comp_rows hB hus hk24 hF hL
      have en : ∀ q : Nat, q ≠ 5 → q ≠ 6 → q ≠ 8 → q ≠ 9 → q ≠ 14 → q ≠ 15 → q ≠ 16 → q ≠ 17 → q ≠ 18 → q ≠ 19 → uX1_compute u (nI us) (nI k) q = u q := fun q a b c d e f g h i j => fr_uX1_compute a b c d e f g h i j
      generalize uX1_compute u (nI us) (nI k) = v at hL1 hr en ⊢
      have e1 : v 1 = u 1 := by apply en <;> decide
      have e2 : v 2 = u 2 := by apply en <;> decide
      have e3 : v 3 = u 3 := by apply en <;> decide
      have e4 : v 4 = u 4 := by apply en <;> decide
      have e7 : v 7 = u 7 := by apply en <;> decide
      have hG' := comp_GG (K := k + 1) hk24 hF (Nat.le_refl _) (hz k (Nat.le_refl _) hk24) (fun i hi hne q => by
        rcases hG i hi q with g | ⟨g1, g2⟩
        · exact Or.inl g
        · exact Or.inr ⟨by omega, g2⟩) e1 e2 e3 e4 hr
      have hb := bo_comp h6 h9 hr
      have hz' : ∀ j, k + 1 ≤ j → j < 24 → v 9 j = 0 := by
        intro j hj hj2
        rcases hr with ⟨-, -, e9⟩ | ⟨-, -, e9⟩
        · rw [e9]; exact hz j (by omega) hj2
        · rw [e9, upd_ne (by omega)]; exact hz j (by omega) hj2
      rw [show nI X + 1 = nI (X + 1) from nI_1 X]
      obtain ⟨⟨S2, s3, s4, hL2⟩, r1, r2, m, hm, r3⟩ := ih (k + 1) S1 (X + 1) v (by omega) (FS_fr e2 e3 hF) (OD_fr e7 hO) hb.1 hb.2 hL1 hG' hz'
      exact ⟨⟨S2, by omega, by omega, hL2⟩, r1, r2, m + 1, by omega, by rw [r3]; congr 1; omega⟩
    have pass : rX1_readsOneOf_v9 u (nI k) = 0 → (∃ S', S ≤ S' ∧ S' ≤ S + 2 * (n + 1) ∧ LG us m1 B S' 0 (lpX1_goThrough_5 (nI us) a2 n (k + 1) u (nI X)).1) ∧ bo (lpX1_goThrough_5 (nI us) a2 n (k + 1) u (nI X)).1 6 ∧ (∀ i, i < 24 → (lpX1_goThrough_5 (nI us) a2 n (k + 1) u (nI X)).1 6 i = 0 → CS (lpX1_goThrough_5 (nI us) a2 n (k + 1) u (nI X)).1 i) ∧ ∃ m, m ≤ n + 1 ∧ (lpX1_goThrough_5 (nI us) a2 n (k + 1) u (nI X)).2 = nI (X + m) := by
      intro hno
      obtain ⟨⟨S2, s3, s4, hL2⟩, r1, r2, m, hm, r3⟩ := ih (k + 1) S X u (by omega) hF hO h6 h9 hL (skip hno) (fun j hj hj2 => hz j (by omega) hj2)
      exact ⟨⟨S2, by omega, by omega, hL2⟩, r1, r2, m, by omega, r3⟩
    unfold lpX1_goThrough_5
    dsimp only
    rw [od_mrd hO hk24, cell1_nI hk24, if_neg c10]
    by_cases h1 : rX1_readsOneOf_v9 u (nI k) = 0
    · rw [if_pos h1]
      by_cases h2 : a2 = 0
      · rw [if_pos h2]; exact pass h1
      · rw [if_neg h2]
        by_cases h3 : mrd u 6 (nI k) = 0
        · rw [if_pos h3]; exact pass h1
        · rw [if_neg h3]; exact doit
    · rw [if_neg h1]; exact doit
/-- nothing is due up to the first cell that has changed -/
theorem go_skip {a1 : Int32} {u : vM} {c : Nat} (hc : c < 24) (hF : FS u) (hO : OD u) (hz : ∀ j, j < c → u 9 j = 0) (x : Int32) : ∀ (d k : Nat), k + d = c + 1 → lpX1_goThrough_5 a1 0 (24 - k) k u x = lpX1_goThrough_5 a1 0 (24 - (c + 1)) (c + 1) u x := by
  intro d
  induction d with
  | zero =>
    intro k hk
    obtain rfl : k = c + 1 := by omega
    rfl
  | succ d ih =>
    intro k hk
    rw [← ih (k + 1) (by omega), show 24 - k = (24 - (k + 1)) + 1 by omega]
    conv => lhs; unfold lpX1_goThrough_5
    dsimp only
    rw [od_mrd hO (by omega), cell1_nI (by omega), if_neg c10, if_pos (ro9_yes (by omega) hF (fun j hj => hz j (by omega))), if_pos rfl]
/-- a refresh without marks does nothing -/
theorem go_none {a1 a2 : Int32} {u : vM} (hF : FS u) (hO : OD u) (hz : ∀ j, j < 24 → u 9 j = 0) (h6 : ∀ j, j < 24 → u 6 j = 0) (x : Int32) : ∀ (n k : Nat), k + n = 24 → lpX1_goThrough_5 a1 a2 n k u x = (u, x) := by
  intro n
  induction n with
  | zero => intro k hk; rfl
  | succ n ih =>
    intro k hk
    unfold lpX1_goThrough_5
    dsimp only
    rw [od_mrd hO (by omega), cell1_nI (by omega), if_neg c10, if_pos (ro9_yes (by omega) hF (fun j hj => hz j (by omega))), mrd_nI (by omega), h6 k (by omega), if_pos rfl]
    split <;> exact ih (k + 1) (by omega)
theorem comp_bo9 {u : vM} {a b : Int32} (h : bo u 9) : bo (uX1_compute u a b) 9 := by
  unfold uX1_compute
  dsimp only
  generalize (if mrd u 3 b = mrd u 2 b then (-1) else rX1_meteredRead b (mrd u 3 b)) = y
  generalize rX1_meteredRead b (mrd u 2 b) = x
  have hp : bo (uX0_paysFor u a b x y) 9 := bo_fr (fr_uX0_paysFor (by decide) (by decide) (by decide) (by decide) (by decide) (by decide) (by decide)) h
  generalize uX0_paysFor u a b x y = w at hp ⊢
  generalize (if rX0_paysFor u a b x y = 0 then (1 : Int32) else 0) = z
  have hw : bo (mup w 6 b z) 9 := bo_fr (mup_ne (by decide)) hp
  generalize mup w 6 b z = v at hw ⊢
  split
  · refine bo_fr (mup_ne (by decide)) (bo_up hw ?_)
    split
    · exact Or.inl rfl
    · exact Or.inr rfl
  · exact hw
theorem go_bo9 {a1 a2 : Int32} : ∀ (n k : Nat) (u : vM) (x : Int32), bo u 9 → bo (lpX1_goThrough_5 a1 a2 n k u x).1 9 := by
  intro n
  induction n with
  | zero => intro k u x h; exact h
  | succ n ih =>
    intro k u x h
    unfold lpX1_goThrough_5
    dsimp only
    (repeat' split) <;> first | exact ih _ _ _ h | exact ih _ _ _ (comp_bo9 h)
end
section
/-! the order is that of the numbers; no cell reads itself -/
theorem mup_at {u : vM} {q : Nat} {i x : Int32} {j : Nat} : mup u q i x q j = if j = i.toNatClampNeg then x else u q j := by rw [mup_row, upd_at]
theorem c_clear : ∀ (n k : Nat) (u : vM), k + n ≤ 24 → ∀ j, (lpX1_putInOrder_2 n k u) 10 j = if k ≤ j ∧ j < k + n then 0 else u 10 j := by
  intro n
  induction n with
  | zero => intro k u _ j; rw [if_neg (by omega)]; rfl
  | succ n ih =>
    intro k u hk j
    show lpX1_putInOrder_2 n (k + 1) (mup u 10 (nI k) 0) 10 j = _
    rw [ih (k + 1) _ (by omega) j, mup_at, nI_clamp (by omega)]
    by_cases e : j = k
    · rw [if_neg (by omega), if_pos e, if_pos (by omega)]
    · rw [if_neg e]
      by_cases q : k ≤ j ∧ j < k + (n + 1)
      · rw [if_pos q, if_pos (by omega)]
      · rw [if_neg q, if_neg (by omega)]
theorem isReady_ok {u : vM} {x : Int32} {k : Nat} (hk : k < 24) (hx : rdw x k) (h : ∀ j, j < k → u 10 j = 1) : rX1_isReady u x = 1 := by
  rcases hx with rfl | ⟨j, hj, rfl⟩
  · unfold rX1_isReady
    rw [if_pos rfl]
  · have e : rX1_isIn_v10 u (nI j) = 1 := by
      unfold rX1_isIn_v10
      rw [if_neg (nI_pos (by omega)), if_neg (in_nle (vp_in_nI (show j < 24 by omega) (by decide))), mrd_nI (by omega), h j hj, if_neg c10]
    unfold rX1_isReady
    rw [if_neg (fun q => m1_ne (show j < 24 by omega) q.symm), e, if_neg c10]
theorem lowest_k {u : vM} {k : Nat} (hk : k < 24) (hF : FS u) (h : ∀ j, j < k → u 10 j = 1) (h0 : u 10 k = 0) : ∀ (n j : Nat), j + n = 24 → j ≤ k → lpX1_lowestFreeCell_2 u n j = nI k := by
  intro n
  induction n with
  | zero => intro j hj hjk; omega
  | succ n ih =>
    intro j hj hjk
    unfold lpX1_lowestFreeCell_2
    rw [mrd_nI (by omega)]
    by_cases z : j = k
    · subst z
      rw [h0, if_pos rfl, mrd_nI (by omega), mrd_nI (by omega), isReady_ok hk (hF j hk).1 h, if_neg c10, isReady_ok hk (hF j hk).2 h, if_neg c10]
    · rw [h j (by omega), if_neg c10]
      exact ih (j + 1) (by omega) (by omega)
theorem order_loop : ∀ (n k : Nat) (u : vM), k + n = 24 → FS u → (∀ j, j < k → u 7 j = nI j ∧ u 10 j = 1) → (∀ j, k ≤ j → j < 24 → u 10 j = 0) → OD (lpX1_putInOrder_23 n k u) := by
  intro n
  induction n with
  | zero => intro k u hk hF h h0 c hc; exact (h c (by omega)).1
  | succ n ih =>
    intro k u hk hF h h0
    have hk24 : k < 24 := by omega
    have hcl : (nI k).toNatClampNeg = k := nI_clamp (by omega)
    unfold lpX1_putInOrder_23
    dsimp only
    have e : rX1_lowestFreeCell u = nI k := lowest_k hk24 hF (fun j hj => (h j hj).2) (h0 k (Nat.le_refl _) hk24) 24 0 rfl (Nat.zero_le _)
    rw [e, cell1_nI hk24, if_neg c10]
    refine ih (k + 1) _ (by omega) (FS_fr (by rw [mup_ne (by decide), mup_ne (by decide)]) (by rw [mup_ne (by decide), mup_ne (by decide)]) hF) (fun j hj => ?_) (fun j hj hj2 => ?_)
    · rw [mup_ne (show (7 : Nat) ≠ 10 by decide), mup_at, mup_at, mup_ne (show (10 : Nat) ≠ 7 by decide), hcl]
      by_cases z : j = k
      · rw [if_pos z, if_pos z, z]
        exact ⟨rfl, rfl⟩
      · rw [if_neg z, if_neg z]
        exact h j (by omega)
    · rw [mup_at, mup_ne (show (10 : Nat) ≠ 7 by decide), hcl, if_neg (by omega)]
      exact h0 j (by omega) hj2
theorem order_id {u : vM} (hF : FS u) : OD (uX1_putInOrder u) := by
  unfold uX1_putInOrder
  dsimp only
  refine order_loop 24 0 _ rfl (FS_fr (fr_lpX1_putInOrder_2 (by decide)) (fr_lpX1_putInOrder_2 (by decide)) hF) (fun j hj => absurd hj (Nat.not_lt_zero _)) (fun j _ hj => ?_)
  rw [c_clear 24 0 u (by decide) j, if_pos (by omega)]
theorem f_clear : ∀ (n k : Nat) (u : vM), k + n ≤ 24 → ∀ j, (lpX1_forgetChanges_2 n k u) 9 j = if k ≤ j ∧ j < k + n then 0 else u 9 j := by
  intro n
  induction n with
  | zero => intro k u _ j; rw [if_neg (by omega)]; rfl
  | succ n ih =>
    intro k u hk j
    show lpX1_forgetChanges_2 n (k + 1) (mup u 9 (nI k) 0) 9 j = _
    rw [ih (k + 1) _ (by omega) j, mup_at, nI_clamp (by omega)]
    by_cases e : j = k
    · rw [if_neg (by omega), if_pos e, if_pos (by omega)]
    · rw [if_neg e]
      by_cases q : k ≤ j ∧ j < k + (n + 1)
      · rw [if_pos q, if_pos (by omega)]
      · rw [if_neg q, if_neg (by omega)]
theorem forget_0 {u : vM} {j : Nat} (h : j < 24) : uX1_forgetChanges u 9 j = 0 := by
  unfold uX1_forgetChanges
  rw [f_clear 24 0 u (by decide) j, if_pos (by omega)]
theorem forget_bo {u : vM} (h : bo u 9) : bo (uX1_forgetChanges u) 9 := by
  intro j
  unfold uX1_forgetChanges
  rw [f_clear 24 0 u (by decide) j]
  split
  · exact Or.inl rfl
  · exact h j
theorem w_clear (a : Int32) : ∀ (n k : Nat) (u : vM), k + n ≤ 24 → ∀ j, (lpX1_wouldReadItself_3 a n k u) 11 j = if k ≤ j ∧ j < k + n then (if nI j = a then 1 else 0) else u 11 j := by
  intro n
  induction n with
  | zero => intro k u _ j; rw [if_neg (by omega)]; rfl
  | succ n ih =>
    intro k u hk j
    show lpX1_wouldReadItself_3 a n (k + 1) (mup u 11 (nI k) (if nI k = a then 1 else 0)) 11 j = _
    rw [ih (k + 1) _ (by omega) j, mup_at, nI_clamp (by omega)]
    by_cases e : j = k
    · rw [if_neg (by omega), if_pos e, e]
      exact (if_pos (by omega)).symm
    · rw [if_neg e]
      by_cases q : k ≤ j ∧ j < k + (n + 1)
      · rw [if_pos q, if_pos (by omega)]
      · rw [if_neg q, if_neg (by omega)]
theorem isIn11_nI {u : vM} {j : Nat} (h : j < 24) : rX1_isIn_v11 u (nI j) = 0 ↔ u 11 j = 0 := by
  unfold rX1_isIn_v11
  rw [if_neg (nI_pos (by omega)), if_neg (in_nle (vp_in_nI h (by decide))), mrd_nI (by omega)]
  by_cases z : u 11 j = 0
  · rw [if_pos z]; exact ⟨fun _ => z, fun _ => rfl⟩
  · rw [if_neg z]; exact ⟨fun q => absurd q c10, fun q => absurd q z⟩
theorem isIn11_m1 {u : vM} : rX1_isIn_v11 u (-1) = 0 := by unfold rX1_isIn_v11; rw [if_pos (by decide)]
theorem isIn11_rdw {u : vM} {x : Int32} {c : Nat} (hc : c < 24) (hx : rdw x c) (h : ∀ j, j < c → u 11 j = 0) : rX1_isIn_v11 u x = 0 := by
  rcases hx with rfl | ⟨j, hj, rfl⟩
  · exact isIn11_m1
  · exact (isIn11_nI (by omega)).mpr (h j hj)
theorem w_low {c : Nat} (hc : c < 24) : ∀ (n k : Nat) (u : vM), k + n = 24 → FS u → OD u → (∀ j, j < c → u 11 j = 0) → ∀ j, j < c → lpX1_wouldReadItself_37 n k u 11 j = 0 := by
  intro n
  induction n with
  | zero => intro k u hk hF hO h; exact h
  | succ n ih =>
    intro k u hk hF hO h
    have hk24 : k < 24 := by omega
    unfold lpX1_wouldReadItself_37
    dsimp only
    rw [od_mrd hO hk24, cell1_nI hk24, if_neg c10]
    by_cases z : rX1_readsOneOf_v11 u (nI k) = 0
    · rw [if_pos z]
      exact ih (k + 1) u (by omega) hF hO h
    · rw [if_neg z]
      refine ih (k + 1) _ (by omega) (FS_fr (mup_ne (by decide)) (mup_ne (by decide)) hF) (OD_fr (mup_ne (by decide)) hO) (fun j hj => ?_)
      rw [mup_at, nI_clamp (by omega)]
      by_cases q : j = k
      · exfalso
        apply z
        have hlow : ∀ i, i < k → u 11 i = 0 := fun i hi => h i (by omega)
        unfold rX1_readsOneOf_v11
        rw [mrd_nI (by omega), mrd_nI (by omega), if_pos (isIn11_rdw hk24 (hF k hk24).1 hlow), if_pos (isIn11_rdw hk24 (hF k hk24).2 hlow)]
      · rw [if_neg q]
        exact h j hj
theorem w_no {u : vM} {c : Nat} {x y : Int32} (hc : c < 24) (hF : FS u) (hO : OD u) (hx : rdw x c) (hy : rdw y c) : rX1_wouldReadItself u (nI c) x y = 0 := by
  unfold rX1_wouldReadItself
  dsimp only
  have hl : ∀ j, j < c → lpX1_wouldReadItself_37 24 0 (lpX1_wouldReadItself_3 (nI c) 24 0 u) 11 j = 0 := by
    refine w_low hc 24 0 _ rfl (FS_fr (fr_lpX1_wouldReadItself_3 (by decide)) (fr_lpX1_wouldReadItself_3 (by decide)) hF) (OD_fr (fr_lpX1_wouldReadItself_3 (by decide)) hO) (fun j hj => ?_)
    rw [w_clear (nI c) 24 0 u (by decide) j, if_pos (by omega), if_neg (fun q => by have := nI_inj (show j < 24 by omega) hc q; omega)]
  rw [if_pos (isIn11_rdw hc hx hl), if_pos (isIn11_rdw hc hy hl)]
end
section
/-! WHAT HOLDS BETWEEN CALLS, and that each call keeps it -/
def inr (x : Int32) : Prop := ¬ (1000000 : Int32) < x ∧ (-1000000 : Int32) ≤ x
def KN (u : vM) : Prop := ∀ c, c < 24 → u 1 c = 1 ∨ u 1 c = 2 ∨ u 1 c = 3 ∨ inr (u 4 c)
/-- formulas, order, marks, values -/
def SH (u : vM) : Prop := FS u ∧ KN u ∧ OD u ∧ bo u 6 ∧ bo u 9 ∧ ∀ i, i < 24 → u 6 i = 0 → CS u i
def CO (us m1 t : Nat) (u : vM) : Prop := SH u ∧ ∃ S, S ≤ 50 * t ∧ m1 ≤ min S 500 ∧ LG us m1 (100 + 90 * t) S 0 u
theorem SH_fr {u u' : vM} (e : ∀ q, q ≤ 9 → u' q = u q) (h : SH u) : SH u' := by
  obtain ⟨h1, h2, h3, h4, h5, h6⟩ := h
  refine ⟨FS_fr (e 2 (by decide)) (e 3 (by decide)) h1, fun c hc => by rw [e 1 (by decide), e 4 (by decide)]; exact h2 c hc, OD_fr (e 7 (by decide)) h3, bo_fr (e 6 (by decide)) h4, bo_fr (e 9 (by decide)) h5, fun i hi q => ?_⟩
  rw [e 6 (by decide)] at q
  unfold CS
  rw [res_fr (e 1 (by decide)) (e 2 (by decide)) (e 3 (by decide)) (e 4 (by decide)) (e 5 (by decide)), e 5 (by decide)]
  exact h6 i hi q
theorem res_at {u u' : vM} {i : Nat} (hi : i < 24) (h1 : u' 1 i = u 1 i) (h2 : u' 2 i = u 2 i) (h3 : u' 3 i = u 3 i) (h4 : u' 4 i = u 4 i) (h5 : u' 5 = u 5) : rX1_resultOf_v5 u' (nI i) = rX1_resultOf_v5 u (nI i) := by
  have hv : ∀ x, rX1_valueIn_v5 u' x = rX1_valueIn_v5 u x := fun x => by unfold rX1_valueIn_v5 mrd; rw [h5]
  unfold rX1_resultOf_v5
  dsimp only
  rw [mrd_nI (show i < 2 ^ 31 by omega), mrd_nI (show i < 2 ^ 31 by omega), mrd_nI (show i < 2 ^ 31 by omega), mrd_nI (show i < 2 ^ 31 by omega), mrd_nI (show i < 2 ^ 31 by omega), mrd_nI (show i < 2 ^ 31 by omega), mrd_nI (show i < 2 ^ 31 by omega), mrd_nI (show i < 2 ^ 31 by omega), h1, h2, h3, h4, hv, hv]
/-- a new formula -/
theorem give_CO {us m1 t c : Nat} {u : vM} {kd x y nm : Int32} (ht : t ≤ 40) (hus : us < 5) (hc : c < 24) (hx : rdw x c) (hy : rdw y c) (hkn : kd = 1 ∨ kd = 2 ∨ kd = 3 ∨ inr nm) (h : CO us m1 t u) :
    CO us m1 (t + 1) (uX1_giveFormula u (nI us) (nI c) kd x y nm) ∧ ∃ m, m ≤ 23 ∧ rX1_giveFormula u (nI us) (nI c) kd x y nm = nI (m + 1) := by
  obtain ⟨⟨hF, hK, hO, h6, h9, hC⟩, S, hS, hm1, hL⟩ := h
  have hcl : (nI c).toNatClampNeg = c := nI_clamp (by omega)
  unfold uX1_giveFormula rX1_giveFormula
  dsimp only
  -- the formula's rows
  have a1 : mup (mup (mup (mup u 1 (nI c) kd) 2 (nI c) x) 3 (nI c) y) 4 (nI c) nm 1 = upd (u 1) c kd := by simp [mup_ne, mup_row, hcl]
  have a2 : mup (mup (mup (mup u 1 (nI c) kd) 2 (nI c) x) 3 (nI c) y) 4 (nI c) nm 2 = upd (u 2) c x := by simp [mup_ne, mup_row, hcl]
  have a3 : mup (mup (mup (mup u 1 (nI c) kd) 2 (nI c) x) 3 (nI c) y) 4 (nI c) nm 3 = upd (u 3) c y := by simp [mup_ne, mup_row, hcl]
  have a4 : mup (mup (mup (mup u 1 (nI c) kd) 2 (nI c) x) 3 (nI c) y) 4 (nI c) nm 4 = upd (u 4) c nm := by simp [mup_ne, mup_row, hcl]
  have an : ∀ q : Nat, q ≠ 1 → q ≠ 2 → q ≠ 3 → q ≠ 4 → mup (mup (mup (mup u 1 (nI c) kd) 2 (nI c) x) 3 (nI c) y) 4 (nI c) nm q = u q := fun q p1 p2 p3 p4 => by rw [mup_ne p4, mup_ne p3, mup_ne p2, mup_ne p1]
  generalize mup (mup (mup (mup u 1 (nI c) kd) 2 (nI c) x) 3 (nI c) y) 4 (nI c) nm = w at a1 a2 a3 a4 an ⊢
  have wF : FS w := by
    intro i hi
    rw [a2, a3, upd_at, upd_at]
    by_cases z : i = c
    · rw [if_pos z, if_pos z, z]; exact ⟨hx, hy⟩
    · rw [if_neg z, if_neg z]; exact hF i hi
  -- order, changes
  have bO := order_id wF
  have bn : ∀ q : Nat, q ≠ 7 → q ≠ 10 → uX1_putInOrder w q = w q := fun q p1 p2 => fr_uX1_putInOrder p1 p2
  generalize uX1_putInOrder w = w1 at bO bn ⊢
  have cn : ∀ q : Nat, q ≠ 9 → uX1_forgetChanges w1 q = w1 q := fun q p1 => fr_uX1_forgetChanges p1
  have c0 : ∀ j, j < 24 → uX1_forgetChanges w1 9 j = 0 := fun j hj => forget_0 hj
  have cb : bo (uX1_forgetChanges w1) 9 := forget_bo (bo_fr (show w1 9 = u 9 by rw [bn 9 (by decide) (by decide), an 9 (by decide) (by decide) (by decide) (by decide)]) h9)
  generalize uX1_forgetChanges w1 = v at cn c0 cb ⊢
  have v1 : v 1 = upd (u 1) c kd := by rw [cn 1 (by decide), bn 1 (by decide) (by decide), a1]
  have v2 : v 2 = upd (u 2) c x := by rw [cn 2 (by decide), bn 2 (by decide) (by decide), a2]
  have v3 : v 3 = upd (u 3) c y := by rw [cn 3 (by decide), bn 3 (by decide) (by decide), a3]
  have v4 : v 4 = upd (u 4) c nm := by rw [cn 4 (by decide), bn 4 (by decide) (by decide), a4]
  have vn : ∀ q : Nat, q ≠ 1 → q ≠ 2 → q ≠ 3 → q ≠ 4 → q ≠ 7 → q ≠ 9 → q ≠ 10 → v q = u q := fun q p1 p2 p3 p4 p7 p9 p10 => by rw [cn q p9, bn q p7 p10, an q p1 p2 p3 p4]
  have v5 : v 5 = u 5 := by apply vn <;> decide
  have v6 : v 6 = u 6 := by apply vn <;> decide
  have vO : OD v := OD_fr (cn 7 (by decide)) bO
  have vF : FS v := FS_fr (by rw [cn 2 (by decide), bn 2 (by decide) (by decide)]) (by rw [cn 3 (by decide), bn 3 (by decide) (by decide)]) wF
  have vK : KN v := by
    intro i hi
    rw [v1, v4, upd_at, upd_at]
    by_cases z : i = c
    · rw [if_pos z, if_pos z]; exact hkn
    · rw [if_neg z, if_neg z]; exact hK i hi
  have vL : LG us m1 (100 + 90 * t) S 0 v := by
    refine LG_fr hL ?_ ?_ ?_ ?_ ?_ ?_ ?_ ?_ (by rw [show v 20 = u 20 by apply vn <;> decide])
    all_goals (apply vn <;> decide)
  have vG : ∀ i, i < 24 → i ≠ c → v 6 i = 0 → GG v 0 i := by
    intro i hi z q
    rw [v6] at q
    left
    unfold CS
    rw [res_at hi (by rw [v1, upd_ne z]) (by rw [v2, upd_ne z]) (by rw [v3, upd_ne z]) (by rw [v4, upd_ne z]) v5, v5]
    exact hC i hi q
  -- the cell is computed
  obtain ⟨⟨S1, s1, s2, gL⟩, gr⟩ := comp_rows (by omega) hus hc vF vL
  have gn : ∀ q : Nat, q ≠ 5 → q ≠ 6 → q ≠ 8 → q ≠ 9 → q ≠ 14 → q ≠ 15 → q ≠ 16 → q ≠ 17 → q ≠ 18 → q ≠ 19 → uX1_compute v (nI us) (nI c) q = v q := fun q a b c d e f g h i j => fr_uX1_compute a b c d e f g h i j
  generalize uX1_compute v (nI us) (nI c) = g at gL gr gn ⊢
  have g1 : g 1 = v 1 := by apply gn <;> decide
  have g2 : g 2 = v 2 := by apply gn <;> decide
  have g3 : g 3 = v 3 := by apply gn <;> decide
  have g4 : g 4 = v 4 := by apply gn <;> decide
  have g7 : g 7 = v 7 := by apply gn <;> decide
  have gb := bo_comp (bo_fr v6 h6) cb gr
  have gG := comp_GG (K := 0) hc vF (Nat.zero_le _) (c0 c hc) vG g1 g2 g3 g4 gr
  have gz : ∀ j, j < 24 → j ≠ c → g 9 j = 0 := by
    intro j hj z
    rcases gr with ⟨-, -, e9⟩ | ⟨-, -, e9⟩
    · rw [e9]; exact c0 j hj
    · rw [e9, upd_ne z]; exact c0 j hj
  have gF := FS_fr g2 g3 vF
  have gO := OD_fr g7 vO
  have gG2 : ∀ i, i < 24 → g 6 i = 0 → GG g (c + 1) i := by
    intro i hi q
    rcases gG i hi q with e | ⟨-, j, e2, e3, e4⟩
    · exact Or.inl e
    · refine Or.inr ⟨?_, j, e2, e3, e4⟩
      have hj : j = c := by
        rcases Nat.decEq j c with z | z
        · exact absurd ((gz j e2 z).symm.trans e4) (by decide)
        · exact z
      subst hj
      rcases e3 with e | e
      · rcases (gF i hi).1 with z | ⟨j', hj', z⟩
        · rw [z] at e; exact absurd e (m1_ne hc)
        · rw [z] at e; have := nI_inj (show j' < 24 by omega) hc e; omega
      · rcases (gF i hi).2 with z | ⟨j', hj', z⟩
        · rw [z] at e; exact absurd e (m1_ne hc)
        · rw [z] at e; have := nI_inj (show j' < 24 by omega) hc e; omega
  -- all are gone through
  have hsk := go_skip (a1 := nI us) hc gF gO (fun j hj => gz j (by omega) (by omega)) (nI 0) (c + 1) 0 (by omega)
  obtain ⟨⟨S2, s3, s4, rL⟩, r6, rC, m, hm, rm⟩ := go_loop (by omega) hus 0 (24 - (c + 1)) (c + 1) S1 0 g (by omega) gF gO gb.1 gb.2 gL gG2 (fun j hj hj2 => gz j hj2 (by omega))
  unfold uX1_goThrough rX1_goThrough
  dsimp only
  have hz : lpX1_goThrough_5 (nI us) 0 24 0 g 0 = lpX1_goThrough_5 (nI us) 0 (24 - (c + 1)) (c + 1) g (nI 0) := hsk
  rw [hz]
  have rn : ∀ q : Nat, q ≠ 5 → q ≠ 6 → q ≠ 8 → q ≠ 9 → q ≠ 14 → q ≠ 15 → q ≠ 16 → q ≠ 17 → q ≠ 18 → q ≠ 19 → (lpX1_goThrough_5 (nI us) 0 (24 - (c + 1)) (c + 1) g (nI 0)).1 q = g q := fun q a b c d e f g h i j => fr_lpX1_goThrough_5 a b c d e f g h i j
  have rb9 := go_bo9 (a1 := nI us) (a2 := 0) (24 - (c + 1)) (c + 1) g (nI 0) gb.2
  generalize lpX1_goThrough_5 (nI us) 0 (24 - (c + 1)) (c + 1) g (nI 0) = r at rL r6 rC rm rn rb9 ⊢
  refine ⟨⟨⟨FS_fr (by apply rn <;> decide) (by apply rn <;> decide) gF, fun i hi => ?_, OD_fr (by apply rn <;> decide) gO, r6, rb9, rC⟩, S2, by omega, by omega, LG_wide rL (by omega)⟩, m, by omega, ?_⟩
  · rw [show r.1 1 = g 1 by apply rn <;> decide, show r.1 4 = g 4 by apply rn <;> decide, g1, g4]
    exact vK i hi
  · rw [rm, show 1 + nI (0 + m) = nI (1 + (0 + m)) from nI_add 1 (0 + m)]
    congr 1
    omega
end
section
/-! EACH CALL OF THE LAW keeps what holds -/
theorem CO_fr {us m1 t : Nat} {u u' : vM} (h : CO us m1 t u) (e : ∀ q, q ≤ 9 → u' q = u q) (e2 : ∀ q, 13 ≤ q → q ≤ 19 → u' q = u q) (e20 : u' 20 0 = u 20 0) : CO us m1 t u' := by
  obtain ⟨h1, S, h2, h3, h4⟩ := h
  exact ⟨SH_fr e h1, S, h2, h3, LG_fr h4 (e 8 (by decide)) (e2 13 (by decide) (by decide)) (e2 14 (by decide) (by decide)) (e2 15 (by decide) (by decide)) (e2 16 (by decide) (by decide)) (e2 17 (by decide) (by decide)) (e2 18 (by decide) (by decide)) (e2 19 (by decide) (by decide)) e20⟩
theorem CO_kc {us m1 t : Nat} {u : vM} (h : CO us m1 t u) : kc u := by
  obtain ⟨h1, S, h2, h3, h4⟩ := h
  exact ⟨min S 500, by omega, h4.2.2.2.1.2⟩
theorem user_in {us : Nat} (h : us < 5) : vp_in (nI us) 5 := vp_in_nI h (by decide)
theorem gv_of {us m1 t : Nat} {u : vM} (hus : us < 5) (h : CO us m1 t u) : gv u (nI us) := by
  refine ⟨CO_kc h, user_in hus, fun c a b hc ha hb h1 h2 => ?_⟩
  obtain ⟨c', hc', rfl⟩ := vp_in_of hc (by decide)
  obtain ⟨a', ha', rfl⟩ := vp_in_of ha (by decide)
  refine w_no hc' h.1.1 h.1.2.2.1 (Or.inr ⟨a', (nI_ltI (by omega) (by omega)).mp h1, rfl⟩) ?_
  rcases hb with rfl | hb
  · exact Or.inl rfl
  · obtain ⟨b', hb', rfl⟩ := vp_in_of hb (by decide)
    exact Or.inr ⟨b', (nI_ltI (by omega) (by omega)).mp h2, rfl⟩
theorem inr_of {x : Int32} (h : rX1_isWithin x 1000000 = 1) : inr x := by
  unfold rX1_isWithin at h
  by_cases a : x < -1000000
  · rw [if_pos a] at h; exact absurd h (by decide)
  · rw [if_neg a] at h
    by_cases b : (1000000 : Int32) < x
    · rw [if_pos b] at h; exact absurd h (by decide)
    · exact ⟨b, Int32.not_lt.mp a⟩
theorem num_eq {u : vM} {us c : Nat} {v : Int32} (hus : us < 5) (hc : c < 24) (hv : rX1_isWithin v 1000000 = 1) : uX1_setNumber u (nI us) (nI c) v = uX1_giveFormula u (nI us) (nI c) 0 (-1) (-1) v ∧ rX1_setNumber u (nI us) (nI c) v = rX1_giveFormula u (nI us) (nI c) 0 (-1) (-1) v := by
  unfold uX1_setNumber rX1_setNumber
  rw [user1_in (user_in hus), if_neg c10, if_neg c10, cell1_nI hc, if_neg c10, if_neg c10, hv, if_neg c10, if_neg c10]
  exact ⟨rfl, rfl⟩
theorem sum_eq {u : vM} {us c a b : Nat} {v : Int32} (hus : us < 5) (hc : c < 24) (ha : a < 24) (hb : b < 24) (hv : rX1_isWithin v 1000 = 1) (hw : rX1_wouldReadItself u (nI c) (nI a) (nI b) = 0) : uX1_setSum u (nI us) (nI c) (nI a) (nI b) v = uX1_giveFormula (uX1_wouldReadItself u (nI c) (nI a) (nI b)) (nI us) (nI c) 1 (nI a) (nI b) v ∧ rX1_setSum u (nI us) (nI c) (nI a) (nI b) v = rX1_giveFormula (uX1_wouldReadItself u (nI c) (nI a) (nI b)) (nI us) (nI c) 1 (nI a) (nI b) v := by
  unfold uX1_setSum rX1_setSum
  dsimp only
  rw [user1_in (user_in hus), if_neg c10, if_neg c10, cell1_nI hc, if_neg c10, if_neg c10, cell1_nI ha, if_neg c10, if_neg c10, cell1_nI hb, if_neg c10, if_neg c10, hv, if_neg c10, if_neg c10, hw, if_pos rfl, if_pos rfl]
  exact ⟨rfl, rfl⟩
theorem gre_eq {u : vM} {us c a b : Nat} (hus : us < 5) (hc : c < 24) (ha : a < 24) (hb : b < 24) (hw : rX1_wouldReadItself u (nI c) (nI a) (nI b) = 0) : uX1_setGreater u (nI us) (nI c) (nI a) (nI b) = uX1_giveFormula (uX1_wouldReadItself u (nI c) (nI a) (nI b)) (nI us) (nI c) 2 (nI a) (nI b) 0 ∧ rX1_setGreater u (nI us) (nI c) (nI a) (nI b) = rX1_giveFormula (uX1_wouldReadItself u (nI c) (nI a) (nI b)) (nI us) (nI c) 2 (nI a) (nI b) 0 := by
  unfold uX1_setGreater rX1_setGreater
  dsimp only
  rw [user1_in (user_in hus), if_neg c10, if_neg c10, cell1_nI hc, if_neg c10, if_neg c10, cell1_nI ha, if_neg c10, if_neg c10, cell1_nI hb, if_neg c10, if_neg c10, hw, if_pos rfl, if_pos rfl]
  exact ⟨rfl, rfl⟩
theorem tim_eq {u : vM} {us c a : Nat} {v : Int32} (hus : us < 5) (hc : c < 24) (ha : a < 24) (hv : rX1_isWithin v 100 = 1) (hw : rX1_wouldReadItself u (nI c) (nI a) (-1) = 0) : uX1_setTimes u (nI us) (nI c) (nI a) v = uX1_giveFormula (uX1_wouldReadItself u (nI c) (nI a) (-1)) (nI us) (nI c) 3 (nI a) (-1) v ∧ rX1_setTimes u (nI us) (nI c) (nI a) v = rX1_giveFormula (uX1_wouldReadItself u (nI c) (nI a) (-1)) (nI us) (nI c) 3 (nI a) (-1) v := by
  unfold uX1_setTimes rX1_setTimes
  dsimp only
  rw [user1_in (user_in hus), if_neg c10, if_neg c10, cell1_nI hc, if_neg c10, if_neg c10, cell1_nI ha, if_neg c10, if_neg c10, hv, if_neg c10, if_neg c10, hw, if_pos rfl, if_pos rfl]
  exact ⟨rfl, rfl⟩
theorem wri_CO {us m1 t : Nat} {u : vM} {a b c : Int32} (h : CO us m1 t u) : CO us m1 t (uX1_wouldReadItself u a b c) :=
  CO_fr h (fun q hq => fr_uX1_wouldReadItself (by omega)) (fun q hq _ => fr_uX1_wouldReadItself (by omega)) (by rw [fr_uX1_wouldReadItself (by decide)])
/-- the law's gift of a formula -/
theorem give_law {us m1 t : Nat} {u : vM} (ht : t ≤ 40) (hus : us < 5) (a1 a2 : Int32) (h : CO us m1 t u) : CO us m1 (t + 1) (uL_give u a1 a2 (nI us)) ∧ ∃ m, m ≤ 23 ∧ rL_give u a1 a2 (nI us) = nI (m + 1) := by
  unfold uL_give rL_give
  dsimp only
  obtain ⟨c, hc, ec⟩ := at_nI a1 (n := 24) (by decide) (by decide)
  obtain ⟨a, ha, ea⟩ := at_nI a2 (n := 24) (by decide) (by decide)
  obtain ⟨b, hb, eb⟩ := at_nI (a2 >>> (5 &&& 31)) (n := 24) (by decide) (by decide)
  rw [show (24 : Int32) = nI 24 from rfl, ec, ea, eb]
  generalize rL_at (a1 >>> (5 &&& 31)) 4 = kd
  have hn := num_eq (u := u) hus hc (within_at (x := a2) (N := 2000001) (M := 1000000) (m := 1000000))
  have hN : CO us m1 (t + 1) (uX1_setNumber u (nI us) (nI c) (rL_at a2 2000001 - 1000000)) ∧ ∃ m, m ≤ 23 ∧ rX1_setNumber u (nI us) (nI c) (rL_at a2 2000001 - 1000000) = nI (m + 1) := by
    rw [hn.1, hn.2]
    exact give_CO ht hus hc (Or.inl rfl) (Or.inl rfl) (Or.inr (Or.inr (Or.inr (inr_of (within_at (m := 1000000)))))) h
  by_cases h0 : kd = 0
  · rw [if_pos h0, if_pos h0]; exact hN
  · rw [if_neg h0, if_neg h0]
    by_cases h1 : nI c ≤ nI a
    · rw [if_pos h1, if_pos h1]; exact hN
    · rw [if_neg h1, if_neg h1]
      have hac : a < c := by
        rcases Nat.lt_or_ge a c with q | q
        · exact q
        · exact absurd (nI_le q (by omega)) h1
      by_cases h2 : nI b < nI c
      · rw [if_pos h2, if_pos h2]
        have hbc : b < c := (nI_ltI (by omega) (by omega)).mp h2
        have ra : rdw (nI a) c := Or.inr ⟨a, hac, rfl⟩
        have rb : rdw (nI b) c := Or.inr ⟨b, hbc, rfl⟩
        have w2 := w_no hc h.1.1 h.1.2.2.1 ra rb
        have w1 := w_no hc h.1.1 h.1.2.2.1 ra (Or.inl rfl : rdw (-1) c)
        by_cases h3 : kd = 1
        · rw [if_pos h3, if_pos h3]
          have e := sum_eq (u := u) hus hc ha hb (within_at (x := a1 >>> (7 &&& 31)) (N := 2001) (M := 1000) (m := 1000)) w2
          rw [e.1, e.2]
          exact give_CO ht hus hc ra rb (Or.inl rfl) (wri_CO h)
        · rw [if_neg h3, if_neg h3]
          by_cases h4 : kd = 2
          · rw [if_pos h4, if_pos h4]
            have e := gre_eq (u := u) hus hc ha hb w2
            rw [e.1, e.2]
            exact give_CO ht hus hc ra rb (Or.inr (Or.inl rfl)) (wri_CO h)
          · rw [if_neg h4, if_neg h4]
            have e := tim_eq (u := u) hus hc ha (within_at (x := a1 >>> (7 &&& 31)) (N := 201) (M := 100) (m := 100)) w1
            rw [e.1, e.2]
            exact give_CO ht hus hc ra (Or.inl rfl) (Or.inr (Or.inr (Or.inl rfl))) (wri_CO h)
      · rw [if_neg h2, if_neg h2]; exact hN
/-- a refresh -/
theorem refresh_law {us m1 t : Nat} {u : vM} (ht : t ≤ 40) (hus : us < 5) (h : CO us m1 t u) : CO us m1 (t + 1) (uX1_refresh u (nI us)) ∧ ∃ m, m ≤ 24 ∧ rX1_refresh u (nI us) = nI m ∧ ((∀ j, j < 24 → u 6 j = 0) → m = 0) := by
  obtain ⟨⟨hF, hK, hO, h6, h9, hC⟩, S, hS, hm1, hL⟩ := h
  unfold uX1_refresh rX1_refresh
  rw [user1_in (user_in hus), if_neg c10, if_neg c10]
  dsimp only
  have cn : ∀ q : Nat, q ≠ 9 → uX1_forgetChanges u q = u q := fun q p1 => fr_uX1_forgetChanges p1
  have c0 : ∀ j, j < 24 → uX1_forgetChanges u 9 j = 0 := fun j hj => forget_0 hj
  have cb : bo (uX1_forgetChanges u) 9 := forget_bo h9
  generalize uX1_forgetChanges u = v at cn c0 cb ⊢
  have v5 : v 5 = u 5 := cn 5 (by decide)
  have vF : FS v := FS_fr (cn 2 (by decide)) (cn 3 (by decide)) hF
  have vO : OD v := OD_fr (cn 7 (by decide)) hO
  have vL : LG us m1 (100 + 90 * t) S 0 v := LG_fr hL (cn 8 (by decide)) (cn 13 (by decide)) (cn 14 (by decide)) (cn 15 (by decide)) (cn 16 (by decide)) (cn 17 (by decide)) (cn 18 (by decide)) (cn 19 (by decide)) (by rw [cn 20 (by decide)])
  have vG : ∀ i, i < 24 → v 6 i = 0 → GG v 0 i := by
    intro i hi q
    rw [cn 6 (by decide)] at q
    left
    unfold CS
    rw [res_fr (cn 1 (by decide)) (cn 2 (by decide)) (cn 3 (by decide)) (cn 4 (by decide)) v5, v5]
    exact hC i hi q
  obtain ⟨⟨S2, s3, s4, rL⟩, r6, rC, m, hm, rm⟩ := go_loop (by omega) hus 1 24 0 S 0 v rfl vF vO (bo_fr (cn 6 (by decide)) h6) cb vL vG (fun j _ hj => c0 j hj)
  have hno : (∀ j, j < 24 → u 6 j = 0) → lpX1_goThrough_5 (nI us) 1 24 0 v (nI 0) = (v, nI 0) := fun hz => go_none vF vO c0 (fun j hj => by rw [cn 6 (by decide)]; exact hz j hj) (nI 0) 24 0 rfl
  have rn : ∀ q : Nat, q ≠ 5 → q ≠ 6 → q ≠ 8 → q ≠ 9 → q ≠ 14 → q ≠ 15 → q ≠ 16 → q ≠ 17 → q ≠ 18 → q ≠ 19 → (lpX1_goThrough_5 (nI us) 1 24 0 v (nI 0)).1 q = v q := fun q a b c d e f g h i j => fr_lpX1_goThrough_5 a b c d e f g h i j
  have rb9 := go_bo9 (a1 := nI us) (a2 := 1) 24 0 v (nI 0) cb
  unfold uX1_goThrough rX1_goThrough
  dsimp only
  rw [show (0 : Int32) = nI 0 from nI_0.symm]
  generalize lpX1_goThrough_5 (nI us) 1 24 0 v (nI 0) = r at rL r6 rC rm rn rb9 hno ⊢
  refine ⟨⟨⟨FS_fr (by apply rn <;> decide) (by apply rn <;> decide) vF, fun i hi => ?_, OD_fr (by apply rn <;> decide) vO, r6, rb9, rC⟩, S2, by omega, by omega, LG_wide rL (by omega)⟩, m, hm, by rw [rm, Nat.zero_add], fun hz => ?_⟩
  · rw [show r.1 1 = v 1 by apply rn <;> decide, show r.1 4 = v 4 by apply rn <;> decide, cn 1 (by decide), cn 4 (by decide)]
    exact hK i hi
  · have e := hno (fun j hj => by rw [hz j hj]; exact nI_0.symm)
    rw [e] at rm
    have e2 : nI 0 = nI (0 + m) := rm
    have := (nI_eq (by omega) (by omega)).mp e2
    omega
theorem price_x {q p : Nat} {u : vM} (hq : q < 4) (hp : p ≤ 100) : xX1_setPrice u (nI q) (nI p) = 0 := by
  unfold xX1_setPrice
  rw [sheet1_in (vp_in_nI hq (by decide)), if_neg c10, if_neg (nI_pos (by omega)), if_pos (show nI p ≤ (100 : Int32) from nI_le (b := 100) hp (by decide))]
theorem price_law {us m1 t q p : Nat} {u : vM} (hq : q < 4) (hp : p ≤ 100) (h : CO us m1 t u) : CO us m1 (t + 1) (uX1_setPrice u (nI q) (nI p)) ∧ ¬ rX1_setPrice u (nI q) (nI p) < 0 := by
  obtain ⟨hs, S, hS, hm1, hL⟩ := h
  unfold uX1_setPrice rX1_setPrice
  rw [sheet1_in (vp_in_nI hq (by decide)), if_neg c10, if_neg c10, if_neg (nI_pos (by omega)), if_neg (nI_pos (by omega)), if_pos (show nI p ≤ (100 : Int32) from nI_le (b := 100) hp (by decide)), if_pos (show nI p ≤ (100 : Int32) from nI_le (b := 100) hp (by decide)), mrd_nI (by omega)]
  refine ⟨⟨SH_fr (fun i hi => mup_ne (by omega)) hs, S, by omega, hm1, LG_wide (B := 100 + 90 * t) ?_ (by omega)⟩, ?_⟩
  · obtain ⟨h13, h14, hm, h5⟩ := hL
    unfold LG EN at *
    rw [mup_ne (show (14 : Nat) ≠ 13 by decide), mup_ne (show (15 : Nat) ≠ 13 by decide), mup_ne (show (20 : Nat) ≠ 13 by decide), mup_ne (show (17 : Nat) ≠ 13 by decide), mup_ne (show (16 : Nat) ≠ 13 by decide), mup_ne (show (8 : Nat) ≠ 13 by decide), mup_ne (show (18 : Nat) ≠ 13 by decide), mup_ne (show (19 : Nat) ≠ 13 by decide)]
    refine ⟨fun i hi => ?_, h14, hm, h5⟩
    rw [mup_nI (by omega), upd_at]
    split
    · exact ⟨p, hp, rfl⟩
    · exact h13 i hi
  · obtain ⟨p0, g1, g2⟩ := hL.1 q hq
    rw [g2]
    exact nI_pos (by omega)
theorem grant_x {q m : Nat} {u : vM} (hq : q < 4) (h1 : 1 ≤ m) (h2 : m ≤ 10000) : xX1_grant u (nI q) (nI m) = 0 := by
  unfold xX1_grant
  rw [sheet1_in (vp_in_nI hq (by decide)), if_neg c10, if_neg (show ¬ nI m < (1 : Int32) from nI_nlt (b := 1) h1 (by omega)), if_pos (show nI m ≤ (10000 : Int32) from nI_le (b := 10000) h2 (by decide))]
theorem grant_law {us m1 t q m : Nat} {u : vM} (ht : t ≤ 40) (hq : q < 4) (h1 : 1 ≤ m) (h2 : m ≤ 90) (h : CO us m1 t u) : rX1_grant u (nI q) (nI m) = rX1_budget u (nI q) + nI m ∧ CO us m1 (t + 1) (mup (uX1_grant u (nI q) (nI m)) 20 0 (mrd (uX1_grant u (nI q) (nI m)) 20 0 + nI m)) := by
  obtain ⟨hs, S, hS, hm1, hL⟩ := h
  unfold uX1_grant rX1_grant rX1_budget
  dsimp only
  rw [sheet1_in (vp_in_nI hq (by decide)), if_neg c10, if_neg c10, if_neg c10, if_neg (show ¬ nI m < (1 : Int32) from nI_nlt (b := 1) h1 (by omega)), if_neg (show ¬ nI m < (1 : Int32) from nI_nlt (b := 1) h1 (by omega)), if_pos (show nI m ≤ (10000 : Int32) from nI_le (b := 10000) (by omega) (by decide)), if_pos (show nI m ≤ (10000 : Int32) from nI_le (b := 10000) (by omega) (by decide))]
  refine ⟨by rw [mrd_nI (by omega), mup_nI (by omega), upd_eq], SH_fr (fun i hi => by rw [mup_ne (by omega), mup_ne (by omega)]) hs, S, by omega, hm1, ?_⟩
  have e14 : mup (mup u 14 (nI q) (mrd u 14 (nI q) + nI m)) 20 0 (mrd (mup u 14 (nI q) (mrd u 14 (nI q) + nI m)) 20 0 + nI m) 14 = upd (u 14) q (u 14 q + nI m) := by
    rw [mup_ne (by decide), mup_nI (by omega), mrd_nI (by omega)]
  have e20 : mup (mup u 14 (nI q) (mrd u 14 (nI q) + nI m)) 20 0 (mrd (mup u 14 (nI q) (mrd u 14 (nI q) + nI m)) 20 0 + nI m) 20 0 = u 20 0 + nI m := by
    rw [show (0 : Int32) = nI 0 from nI_0.symm, mup_nI (by decide), upd_eq, mrd_nI (by decide), mup_ne (by decide)]
  have en : ∀ i : Nat, i ≠ 14 → i ≠ 20 → mup (mup u 14 (nI q) (mrd u 14 (nI q) + nI m)) 20 0 (mrd (mup u 14 (nI q) (mrd u 14 (nI q) + nI m)) 20 0 + nI m) i = u i := fun i a b => by rw [mup_ne b, mup_ne a]
  generalize mup (mup u 14 (nI q) (mrd u 14 (nI q) + nI m)) 20 0 (mrd (mup u 14 (nI q) (mrd u 14 (nI q) + nI m)) 20 0 + nI m) = w at e14 e20 en ⊢
  obtain ⟨h13, h14, ⟨hma, hmb⟩, h5⟩ := hL
  refine ⟨fun i hi => by rw [en 13 (by decide) (by decide)]; exact h13 i hi, fun i hi => ?_, ⟨?_, by rw [en 17 (by decide) (by decide), en 15 (by decide) (by decide)]; exact hmb⟩, ?_⟩
  · rw [e14, upd_at]
    obtain ⟨b, hb, eb⟩ := h14 i hi
    by_cases z : i = q
    · rw [if_pos z, ← z, eb, nI_add]
      exact ⟨b + m, by omega, rfl⟩
    · rw [if_neg z]
      exact ⟨b, by omega, eb⟩
  · rw [e14, s4_upd hq, en 15 (by decide) (by decide), e20, ← hma]
    grind
  · unfold EN at *
    rw [en 16 (by decide) (by decide), en 8 (by decide) (by decide), en 18 (by decide) (by decide), en 19 (by decide) (by decide)]
    exact h5
end
section
/-! THE LAW'S CHECKS -/
theorem or_zero {x y : Int32} (h : x ||| y = 0) : x = 0 ∧ y = 0 := by
  have h1 : (x ||| y).toBitVec = 0#32 := by rw [h]; rfl
  rw [Int32.toBitVec_or, BitVec.or_eq_zero_iff] at h1
  exact ⟨Int32.toBitVec_inj.mp h1.1, Int32.toBitVec_inj.mp h1.2⟩
theorem shl_ne : ∀ k, k < 24 → ¬ ((1 : Int32) <<< (nI k &&& 31)) = 0 := by decide +kernel
theorem isMarked_nI {u : vM} {k : Nat} (h : k < 24) : rX1_isMarked u (nI k) = u 6 k := by
  unfold rX1_isMarked
  rw [cell1_nI h, if_neg c10, mrd_nI (by omega)]
theorem marked_loop {u : vM} : ∀ (n k : Nat) (x : Int32), k + n = 24 → lpL_marked_4 u n k x = 0 → x = 0 ∧ ∀ j, k ≤ j → j < 24 → u 6 j = 0 := by
  intro n
  induction n with
  | zero => intro k x hk h; exact ⟨h, fun j h1 h2 => by omega⟩
  | succ n ih =>
    intro k x hk h
    unfold lpL_marked_4 at h
    dsimp only at h
    rw [isMarked_nI (by omega)] at h
    obtain ⟨h1, h2⟩ := ih (k + 1) _ (by omega) h
    obtain ⟨h3, h4⟩ := or_zero h1
    refine ⟨h3, fun j hj hj2 => ?_⟩
    rcases Nat.lt_or_ge k j with z | z
    · exact h2 j z hj2
    · obtain rfl : j = k := by omega
      by_cases q : u 6 j = 0
      · exact q
      · rw [if_neg q] at h4
        exact absurd h4 (shl_ne j hj2)
theorem marked_0 {u : vM} (h : rL_marked u = 0) : ∀ j, j < 24 → u 6 j = 0 := fun j hj => (marked_loop 24 0 0 rfl h).2 j (Nat.zero_le _) hj
/-- a value anew -/
theorem vi12_m1 {u : vM} : rX1_valueIn_v12 u (-1) = 0 := by unfold rX1_valueIn_v12; rw [if_pos (by decide)]
theorem vi12_nI {u : vM} {j : Nat} (h : j < 24) : rX1_valueIn_v12 u (nI j) = u 12 j := by
  unfold rX1_valueIn_v12
  rw [if_neg (nI_pos (by omega)), if_neg (in_nle (vp_in_nI h (by decide))), mrd_nI (by omega)]
theorem vi12_5 {u : vM} {x : Int32} {c : Nat} (hc : c < 24) (hx : rdw x c) (h : ∀ j, j < c → u 12 j = u 5 j) : rX1_valueIn_v12 u x = rX1_valueIn_v5 u x := by
  rcases hx with rfl | ⟨j, hj, rfl⟩
  · rw [vi12_m1, vi5_m1]
  · rw [vi12_nI (by omega), vi5_nI (by omega), h j hj]
theorem res12 {u : vM} {c : Nat} (hc : c < 24) (hF : FS u) (h : ∀ j, j < c → u 12 j = u 5 j) : rX1_resultOf_v12 u (nI c) = rX1_resultOf_v5 u (nI c) := by
  unfold rX1_resultOf_v12 rX1_resultOf_v5
  dsimp only
  rw [show mrd u 2 (nI c) = u 2 c from mrd_nI (by omega), show mrd u 3 (nI c) = u 3 c from mrd_nI (by omega), vi12_5 hc (hF c hc).1 h, vi12_5 hc (hF c hc).2 h]
theorem val_loop : ∀ (n k : Nat) (u : vM), k + n = 24 → FS u → OD u → (∀ i, i < 24 → CS u i) → (∀ j, j < k → u 12 j = u 5 j) → ∀ j, j < 24 → lpX1_valueAnew_19 n k u 12 j = u 5 j := by
  intro n
  induction n with
  | zero => intro k u hk hF hO hC h j hj; exact h j (by omega)
  | succ n ih =>
    intro k u hk hF hO hC h
    have hk24 : k < 24 := by omega
    unfold lpX1_valueAnew_19
    dsimp only
    rw [od_mrd hO hk24, cell1_nI hk24, if_neg c10, res12 hk24 hF h, ← hC k hk24]
    have en : ∀ q : Nat, q ≠ 12 → mup u 12 (nI k) (u 5 k) q = u q := fun q hq => mup_ne hq
    have e12 : mup u 12 (nI k) (u 5 k) 12 = upd (u 12) k (u 5 k) := mup_nI (by omega)
    generalize mup u 12 (nI k) (u 5 k) = w at en e12 ⊢
    intro j hj
    rw [ih (k + 1) w (by omega) (FS_fr (en 2 (by decide)) (en 3 (by decide)) hF) (OD_fr (en 7 (by decide)) hO) (fun i hi => ?_) (fun i hi => ?_) j hj, en 5 (by decide)]
    · unfold CS
      rw [res_fr (en 1 (by decide)) (en 2 (by decide)) (en 3 (by decide)) (en 4 (by decide)) (en 5 (by decide)), en 5 (by decide)]
      exact hC i hi
    · rw [e12, en 5 (by decide), upd_at]
      split
      · rename_i z; rw [z]
      · exact h i (by omega)
theorem held_inr (x : Int32) : inr (rX1_held x) := by
  have m : (1000000 : Int32).toInt = 1000000 := by decide
  have n : (-1000000 : Int32).toInt = -1000000 := by decide
  unfold rX1_held inr
  by_cases a : x < 1000000
  · rw [if_pos a]
    by_cases b : (-1000000 : Int32) < x
    · rw [if_pos b]
      rw [Int32.lt_iff_toInt_lt, m] at a
      rw [Int32.lt_iff_toInt_lt, n] at b
      rw [Int32.lt_iff_toInt_lt, Int32.le_iff_toInt_le, m, n]
      omega
    · rw [if_neg b]; decide
  · rw [if_neg a]; decide
theorem val_inr {u : vM} (hF : FS u) (hK : KN u) (hC : ∀ i, i < 24 → CS u i) : ∀ m i, i < m → i < 24 → inr (u 5 i) := by
  intro m
  induction m with
  | zero => intro i hi; omega
  | succ m ih =>
    intro i hi hi2
    have key : ∀ x, rdw x i → inr (rX1_valueIn_v5 u x) := by
      rintro x (rfl | ⟨j, hj, rfl⟩)
      · rw [vi5_m1]; exact ⟨by decide, by decide⟩
      · rw [vi5_nI (by omega)]; exact ih j (by omega) (by omega)
    have k2 := key _ (hF i hi2).1
    have k3 := key _ (hF i hi2).2
    rw [hC i hi2]
    unfold rX1_resultOf_v5
    dsimp only
    rw [show mrd u 2 (nI i) = u 2 i from mrd_nI (by omega), show mrd u 3 (nI i) = u 3 i from mrd_nI (by omega), show mrd u 1 (nI i) = u 1 i from mrd_nI (by omega), show mrd u 4 (nI i) = u 4 i from mrd_nI (by omega)]
    by_cases a : u 1 i = 1
    · rw [if_pos a]; exact held_inr _
    · rw [if_neg a]
      by_cases b : u 1 i = 2
      · rw [if_pos b]
        split
        · exact k3
        · exact k2
      · rw [if_neg b]
        by_cases c : u 1 i = 3
        · rw [if_pos c]; exact held_inr _
        · rw [if_neg c]
          rcases hK i hi2 with z | z | z | z
          · exact absurd z a
          · exact absurd z b
          · exact absurd z c
          · exact z
/-- without marks all is as if computed anew, also at another memory of what is computed anew -/
def rgs (u : vM) : Prop := ∀ v : vM, (∀ q, q ≠ 12 → v q = u q) → ∀ i, i < 24 → rX1_value v (nI i) = rX1_valueAnew v (nI i) ∧ ¬ (1000000 : Int32) < rX1_value v (nI i) ∧ (-1000000 : Int32) ≤ rX1_value v (nI i)
theorem rgs_of {u : vM} (h : SH u) (h0 : rL_marked u = 0) : rgs u := by
  intro v hv i hi
  have hs : SH v := SH_fr (fun q hq => hv q (by omega)) h
  have hm : ∀ j, j < 24 → v 6 j = 0 := fun j hj => by rw [hv 6 (by decide)]; exact marked_0 h0 j hj
  obtain ⟨hF, hK, hO, -, -, hC⟩ := hs
  have hC' : ∀ j, j < 24 → CS v j := fun j hj => hC j hj (hm j hj)
  have e : rX1_value v (nI i) = v 5 i := by unfold rX1_value; rw [cell1_nI hi, if_neg c10, mrd_nI (by omega)]
  have e2 : rX1_valueAnew v (nI i) = v 5 i := by
    unfold rX1_valueAnew
    rw [cell1_nI hi, if_neg c10]
    dsimp only
    rw [mrd_nI (by omega)]
    exact val_loop 24 0 v rfl hF hO hC' (fun j hj => absurd hj (Nat.not_lt_zero _)) i hi
  rw [e, e2]
  exact ⟨rfl, val_inr hF hK hC' 24 i hi hi⟩
/-- the accounts -/
theorem acc_1 {us m1 t : Nat} {u : vM} (ht : t ≤ 41) (h : CO us m1 t u) : rL_accounts u = 1 := by
  obtain ⟨hs, S, hS, hm1, h13, h14, ⟨hma, hmb⟩, ⟨hr1, hr2⟩, h5⟩ := h
  have hb : ∀ q, q < 4 → rX1_budget u (nI q) = u 14 q := fun q hq => by unfold rX1_budget; rw [sheet1_in (vp_in_nI hq (by decide)), if_neg c10, mrd_nI (by omega)]
  have he : ∀ q, q < 4 → rX1_earned u (nI q) = u 15 q := fun q hq => by unfold rX1_earned; rw [sheet1_in (vp_in_nI hq (by decide)), if_neg c10, mrd_nI (by omega)]
  have hr : ∀ q, q < 4 → rX1_readOf u (nI q) = u 16 q := fun q hq => by unfold rX1_readOf; rw [sheet1_in (vp_in_nI hq (by decide)), if_neg c10, mrd_nI (by omega)]
  have hc : ∀ q, q < 5 → rX1_caused u (nI q) = u 17 q := fun q hq => by unfold rX1_caused; rw [user1_in (vp_in_nI hq (by decide)), if_neg c10, mrd_nI (by omega)]
  have hp : ∀ q, q < 4 → (0 : Int32) ≤ u 14 q := fun q hq => by
    obtain ⟨b, g1, g2⟩ := h14 q hq
    rw [g2]
    exact nI_pos' (by omega)
  have h68 : lpL_accounts_68 u 5 0 0 = s5 (u 17) := by
    simp only [lpL_accounts_68, s5, hc 0 (by decide), hc (0 + 1) (by decide), hc (0 + 1 + 1) (by decide), hc (0 + 1 + 1 + 1) (by decide), hc (0 + 1 + 1 + 1 + 1) (by decide)]
  unfold rL_accounts
  rw [lpL_accounts_13]
  rw [hb 0 (by decide), he 0 (by decide), hr 0 (by decide), if_pos (hp 0 (by decide))]
  dsimp only
  rw [lpL_accounts_13]
  rw [hb (0 + 1) (by decide), he (0 + 1) (by decide), hr (0 + 1) (by decide), if_pos (hp (0 + 1) (by decide))]
  dsimp only
  rw [lpL_accounts_13]
  rw [hb (0 + 1 + 1) (by decide), he (0 + 1 + 1) (by decide), hr (0 + 1 + 1) (by decide), if_pos (hp (0 + 1 + 1) (by decide))]
  dsimp only
  rw [lpL_accounts_13]
  rw [hb (0 + 1 + 1 + 1) (by decide), he (0 + 1 + 1 + 1) (by decide), hr (0 + 1 + 1 + 1) (by decide), if_pos (hp (0 + 1 + 1 + 1) (by decide))]
  dsimp only
  rw [lpL_accounts_13]
  dsimp only
  rw [h68]
  have q1 : 0 + u 14 0 + u 14 (0 + 1) + u 14 (0 + 1 + 1) + u 14 (0 + 1 + 1 + 1) = s4 (u 14) := rfl
  have q2 : 0 + u 15 0 + u 15 (0 + 1) + u 15 (0 + 1 + 1) + u 15 (0 + 1 + 1 + 1) = s4 (u 15) := rfl
  have q3 : 0 + u 16 0 + u 16 (0 + 1) + u 16 (0 + 1 + 1) + u 16 (0 + 1 + 1 + 1) = s4 (u 16) := rfl
  rw [q1, q2, q3, if_pos (by rw [show (0 : Int32) = nI 0 from nI_0.symm, mrd_nI (by decide), ← hma, Int32.add_zero]), if_pos hmb, hr1]
  have q4 : (if (500 : Int32) ≤ nI S then 500 else nI S) = nI (min S 500) := by
    by_cases z : 500 ≤ S
    · rw [if_pos (show (500 : Int32) ≤ nI S from nI_le (a := 500) z (by omega)), show min S 500 = 500 by omega]
      rfl
    · rw [if_neg (show ¬ (500 : Int32) ≤ nI S from nI_ge (b := 500) (by omega) (by decide)), show min S 500 = S by omega]
  rw [q4]
  exact if_pos hr2
/-- new readings: what the trace is asked -/
def TR (a : Int32) (u : vM) : Prop := ∃ m1 K us : Nat, u 20 1 = nI m1 ∧ m1 ≤ K ∧ K ≤ 500 ∧ u 8 0 = nI K ∧ a = nI us ∧ us < 5 ∧ ∀ n, m1 ≤ n → n < K → ∃ rd rr c : Nat, rd < 24 ∧ rr < 24 ∧ rd / 6 ≠ rr / 6 ∧ u 19 n = nI (10000 * us + 100 * rd + rr) ∧ 1 ≤ c ∧ c < 2 ^ 20 ∧ u 18 (24 * rd + rr) = nI c
/-- behind a turn's act -/
def MD (us t : Nat) (u : vM) : Prop := ∃ m1, u 20 1 = nI m1 ∧ CO us m1 (t + 1) u
theorem MD_TR {us t : Nat} {u : vM} (ht : t ≤ 40) (hus : us < 5) (h : MD us t u) : TR (nI us) u := by
  obtain ⟨m1, e, hs, S, hS, hm1, h13, h14, h15, ⟨hr1, hr2⟩, hcn, hen⟩ := h
  refine ⟨m1, min S 500, us, e, hm1, by omega, hr2, rfl, hus, fun n h1 h2 => ?_⟩
  obtain ⟨rd, rr, c, g1, g2, g3, g4, g5, g6, g7⟩ := hen n h1 h2
  exact ⟨rd, rr, c, g1, g2, g3, g4, g5, by omega, g7⟩
/-- between turns -/
def IV (t : Nat) (u : vM) : Prop := SH u ∧ ∃ S, S ≤ 50 * t ∧ LG 0 (min S 500) (100 + 90 * t) S 0 u ∧ u 20 1 = nI (min S 500)
theorem IV_CO {t : Nat} {u : vM} (us : Nat) (h : IV t u) : ∃ m1, u 20 1 = nI m1 ∧ CO us m1 t u := by
  obtain ⟨hs, S, hS, ⟨h1, h2, h3, h4, h5, h6⟩, e⟩ := h
  exact ⟨min S 500, e, hs, S, hS, Nat.le_refl _, h1, h2, h3, h4, h5, fun n a b => absurd b (Nat.not_lt.mpr a)⟩
theorem MD_acc {us t : Nat} {u : vM} (ht : t ≤ 40) (h : MD us t u) : rL_accounts (mup u 20 1 (mfd u 8)) = 1 := by
  obtain ⟨m1, e, h⟩ := h
  refine acc_1 (t := t + 1) (by omega) (CO_fr h (fun q hq => mup_ne (by omega)) (fun q h1 h2 => mup_ne (by omega)) ?_)
  rw [show (1 : Int32) = nI 1 from rfl, mup_nI (by decide), upd_ne (by decide)]
theorem MD_IV {us t : Nat} {u : vM} (h : MD us t u) : IV (t + 1) (mup u 20 1 (mfd u 8)) := by
  obtain ⟨m1, e, h⟩ := h
  have h' := CO_fr (u' := mup u 20 1 (mfd u 8)) h (fun q hq => mup_ne (by omega)) (fun q h1 h2 => mup_ne (by omega)) (by rw [show (1 : Int32) = nI 1 from rfl, mup_nI (by decide), upd_ne (by decide)])
  have e8 : u 8 0 = mup u 20 1 (mfd u 8) 8 0 := by rw [mup_ne (by decide)]
  have e20 : mup u 20 1 (mfd u 8) 20 1 = u 8 0 := by rw [show (1 : Int32) = nI 1 from rfl, mup_nI (by decide), upd_eq]; rfl
  generalize mup u 20 1 (mfd u 8) = w at h' e8 e20 ⊢
  obtain ⟨hs, S, hS, hm, h1, h2, h3, h4, h5, h6⟩ := h'
  exact ⟨hs, S, hS, ⟨h1, h2, h3, h4, h5, fun n a b => absurd b (Nat.not_lt.mpr a)⟩, by rw [e20, e8]; exact h4.2⟩
theorem IV_fr {t : Nat} {u u' : vM} (h : IV t u) (e : ∀ q, q ≠ 12 → u' q = u q) : IV t u' := by
  obtain ⟨hs, S, hS, hL, h20⟩ := h
  exact ⟨SH_fr (fun q hq => e q (by omega)) hs, S, hS, LG_fr hL (e 8 (by decide)) (e 13 (by decide)) (e 14 (by decide)) (e 15 (by decide)) (e 16 (by decide)) (e 17 (by decide)) (e 18 (by decide)) (e 19 (by decide)) (by rw [e 20 (by decide)]), by rw [e 20 (by decide)]; exact h20⟩
end
section
/-! at the start -/
theorem x0_fr {q : Nat} (h1 : q ≠ 1) (h2 : q ≠ 2) : ∀ (n k : Nat) (u : vM), lpX0_init_64 n k u q = u q := by
  intro n
  induction n with
  | zero => intro k u; rfl
  | succ n ih =>
    intro k u
    refine (ih (k + 1) _).trans ?_
    rw [mup_ne h2, mup_ne h1]
theorem x1_fr {q : Nat} (h2 : q ≠ 2) (h3 : q ≠ 3) (h7 : q ≠ 7) : ∀ (n k : Nat) (u : vM), lpX1_init_105 n k u q = u q := by
  intro n
  induction n with
  | zero => intro k u; rfl
  | succ n ih =>
    intro k u
    refine (ih (k + 1) _).trans ?_
    rw [mup_ne h7, mup_ne h3, mup_ne h2]
theorem x1_rows : ∀ (n k : Nat) (u : vM), k + n ≤ 24 → ∀ j, lpX1_init_105 n k u 2 j = (if k ≤ j ∧ j < k + n then -1 else u 2 j) ∧ lpX1_init_105 n k u 3 j = (if k ≤ j ∧ j < k + n then -1 else u 3 j) ∧ lpX1_init_105 n k u 7 j = (if k ≤ j ∧ j < k + n then nI j else u 7 j) := by
  intro n
  induction n with
  | zero => intro k u _ j; rw [if_neg (by omega), if_neg (by omega), if_neg (by omega)]; exact ⟨rfl, rfl, rfl⟩
  | succ n ih =>
    intro k u hk j
    have q := ih (k + 1) (mup (mup (mup u 2 (nI k) (-1)) 3 (nI k) (-1)) 7 (nI k) (nI k)) (by omega) j
    have e2 : mup (mup (mup u 2 (nI k) (-1)) 3 (nI k) (-1)) 7 (nI k) (nI k) 2 j = if j = k then -1 else u 2 j := by
      rw [mup_ne (by decide), mup_ne (by decide), mup_at, nI_clamp (by omega)]
    have e3 : mup (mup (mup u 2 (nI k) (-1)) 3 (nI k) (-1)) 7 (nI k) (nI k) 3 j = if j = k then -1 else u 3 j := by
      rw [mup_ne (by decide), mup_at, nI_clamp (by omega), mup_ne (by decide)]
    have e7 : mup (mup (mup u 2 (nI k) (-1)) 3 (nI k) (-1)) 7 (nI k) (nI k) 7 j = if j = k then nI k else u 7 j := by
      rw [mup_at, nI_clamp (by omega), mup_ne (by decide), mup_ne (by decide)]
    rw [e2, e3, e7] at q
    refine ⟨q.1.trans ?_, q.2.1.trans ?_, q.2.2.trans ?_⟩
    all_goals
      by_cases e : j = k
      · subst e
        rw [if_neg (by omega), if_pos rfl]
        exact (if_pos (by omega)).symm
      · rw [if_neg e]
        by_cases z : k ≤ j ∧ j < k + (n + 1)
        · rw [if_pos z, if_pos (by omega)]
        · rw [if_neg z, if_neg (by omega)]
theorem x0_rows : ∀ (n k : Nat) (u : vM), k + n ≤ 4 → ∀ j, lpX0_init_64 n k u 1 j = (if k ≤ j ∧ j < k + n then 1 else u 1 j) ∧ lpX0_init_64 n k u 2 j = (if k ≤ j ∧ j < k + n then 100 else u 2 j) := by
  intro n
  induction n with
  | zero => intro k u _ j; rw [if_neg (by omega), if_neg (by omega)]; exact ⟨rfl, rfl⟩
  | succ n ih =>
    intro k u hk j
    have q := ih (k + 1) (mup (mup u 1 (nI k) 1) 2 (nI k) 100) (by omega) j
    have e1 : mup (mup u 1 (nI k) 1) 2 (nI k) 100 1 j = if j = k then 1 else u 1 j := by
      rw [mup_ne (by decide), mup_at, nI_clamp (by omega)]
    have e2 : mup (mup u 1 (nI k) 1) 2 (nI k) 100 2 j = if j = k then 100 else u 2 j := by
      rw [mup_at, nI_clamp (by omega), mup_ne (by decide)]
    rw [e1, e2] at q
    refine ⟨q.1.trans ?_, q.2.trans ?_⟩
    all_goals
      by_cases e : j = k
      · subst e
        rw [if_neg (by omega), if_pos rfl]
        exact (if_pos (by omega)).symm
      · rw [if_neg e]
        by_cases z : k ≤ j ∧ j < k + (n + 1)
        · rw [if_pos z, if_pos (by omega)]
        · rw [if_neg z, if_neg (by omega)]
/-- the law's start: a new object, and its own two numbers -/
def uM0 : vM := mup (mR uX1_init 20 (fun _ => 0)) 20 0 400
theorem mR_ne {u : vM} {q q' : Nat} {f : Nat → Int32} (h : q' ≠ q) : mR u q f q' = u q' := by
  unfold mR
  rw [show Nat.beq q' q = false by cases hb : Nat.beq q' q with
    | true => exact absurd (Nat.eq_of_beq_eq_true hb) h
    | false => rfl]
  rfl
theorem mR_row {u : vM} {q : Nat} {f : Nat → Int32} : mR u q f q = f := by
  unfold mR
  rw [Nat.beq_refl]
  rfl
theorem m0_ne {q : Nat} (h : q ≠ 20) : uM0 q = uX1_init q := by unfold uM0; rw [mup_ne h, mR_ne h]
theorem i1_fr {q : Nat} (h2 : q ≠ 2) (h3 : q ≠ 3) (h7 : q ≠ 7) : uX1_init q = mC0 q := x1_fr h2 h3 h7 24 0 mC0
theorem c0_k {q : Nat} (h1 : q ≠ 1) (h2 : q ≠ 2) : uX0_init q = fun _ => 0 := x0_fr h1 h2 4 0 mz
theorem c0_m : mC0 1 = (fun _ => 0) ∧ mC0 4 = (fun _ => 0) ∧ mC0 5 = (fun _ => 0) ∧ mC0 6 = (fun _ => 0) ∧ mC0 9 = (fun _ => 0) := ⟨rfl, rfl, rfl, rfl, rfl⟩
theorem c0_r : mC0 8 = uX0_init 8 ∧ mC0 13 = uX0_init 1 ∧ mC0 14 = uX0_init 2 ∧ mC0 15 = uX0_init 3 ∧ mC0 16 = uX0_init 4 ∧ mC0 17 = uX0_init 5 ∧ mC0 18 = uX0_init 6 ∧ mC0 19 = uX0_init 7 := ⟨rfl, rfl, rfl, rfl, rfl, rfl, rfl, rfl⟩
theorem s4_0 : s4 (fun _ => 0) = 0 := by decide
theorem s5_0 : s5 (fun _ => 0) = 0 := by decide
theorem IV_0 : IV 0 uM0 := by
  obtain ⟨m1, m4, m5, m6, m9⟩ := c0_m
  obtain ⟨r8, r13, r14, r15, r16, r17, r18, r19⟩ := c0_r
  have e1 : uM0 1 = fun _ => 0 := by rw [m0_ne (by decide), i1_fr (by decide) (by decide) (by decide), m1]
  have e4 : uM0 4 = fun _ => 0 := by rw [m0_ne (by decide), i1_fr (by decide) (by decide) (by decide), m4]
  have e5 : uM0 5 = fun _ => 0 := by rw [m0_ne (by decide), i1_fr (by decide) (by decide) (by decide), m5]
  have e6 : uM0 6 = fun _ => 0 := by rw [m0_ne (by decide), i1_fr (by decide) (by decide) (by decide), m6]
  have e9 : uM0 9 = fun _ => 0 := by rw [m0_ne (by decide), i1_fr (by decide) (by decide) (by decide), m9]
  have e8 : uM0 8 = fun _ => 0 := by rw [m0_ne (by decide), i1_fr (by decide) (by decide) (by decide), r8, c0_k (by decide) (by decide)]
  have e15 : uM0 15 = fun _ => 0 := by rw [m0_ne (by decide), i1_fr (by decide) (by decide) (by decide), r15, c0_k (by decide) (by decide)]
  have e16 : uM0 16 = fun _ => 0 := by rw [m0_ne (by decide), i1_fr (by decide) (by decide) (by decide), r16, c0_k (by decide) (by decide)]
  have e17 : uM0 17 = fun _ => 0 := by rw [m0_ne (by decide), i1_fr (by decide) (by decide) (by decide), r17, c0_k (by decide) (by decide)]
  have e18 : uM0 18 = fun _ => 0 := by rw [m0_ne (by decide), i1_fr (by decide) (by decide) (by decide), r18, c0_k (by decide) (by decide)]
  have e13 : ∀ q, q < 4 → uM0 13 q = 1 := by
    intro q hq
    rw [m0_ne (by decide), i1_fr (by decide) (by decide) (by decide), r13]
    exact (x0_rows 4 0 mz (by decide) q).1.trans (if_pos (by omega))
  have e14 : ∀ q, q < 4 → uM0 14 q = 100 := by
    intro q hq
    rw [m0_ne (by decide), i1_fr (by decide) (by decide) (by decide), r14]
    exact (x0_rows 4 0 mz (by decide) q).2.trans (if_pos (by omega))
  have e2 : ∀ c, c < 24 → uM0 2 c = -1 := by
    intro c hc
    rw [m0_ne (by decide)]
    exact (x1_rows 24 0 mC0 (by decide) c).1.trans (if_pos (by omega))
  have e3 : ∀ c, c < 24 → uM0 3 c = -1 := by
    intro c hc
    rw [m0_ne (by decide)]
    exact (x1_rows 24 0 mC0 (by decide) c).2.1.trans (if_pos (by omega))
  have e7 : ∀ c, c < 24 → uM0 7 c = nI c := by
    intro c hc
    rw [m0_ne (by decide)]
    exact (x1_rows 24 0 mC0 (by decide) c).2.2.trans (if_pos (by omega))
  have e20 : uM0 20 0 = 400 ∧ uM0 20 1 = 0 := by
    unfold uM0
    rw [show (0 : Int32) = nI 0 from nI_0.symm, mup_nI (by decide), upd_eq, upd_ne (by decide), mR_row]
    exact ⟨rfl, rfl⟩
  have hs : s4 (uM0 14) = 400 := by
    unfold s4
    rw [e14 0 (by decide), e14 1 (by decide), e14 2 (by decide), e14 3 (by decide)]
    decide
  generalize uM0 = w at *
  refine ⟨⟨fun c hc => ⟨Or.inl (e2 c hc), Or.inl (e3 c hc)⟩, fun c hc => Or.inr (Or.inr (Or.inr ?_)), e7, fun i => by rw [e6]; exact Or.inl rfl, fun i => by rw [e9]; exact Or.inl rfl, fun i hi _ => ?_⟩, 0, Nat.le_refl _, ⟨fun q hq => ⟨1, by decide, e13 q hq⟩, fun q hq => ⟨100, by decide, e14 q hq⟩, ⟨?_, ?_⟩, ⟨?_, ?_⟩, fun i hi => ⟨0, by decide, by rw [e18]; exact nI_0.symm⟩, fun n _ hn => absurd hn (by omega)⟩, by rw [e20.2]; exact nI_0.symm⟩
  · rw [e4]; exact (show inr 0 from ⟨by decide, by decide⟩)
  · unfold CS
    unfold rX1_resultOf_v5
    dsimp only
    rw [show mrd w 1 (nI i) = 0 by unfold mrd; rw [e1], if_neg (by decide), if_neg (by decide), if_neg (by decide), show mrd w 4 (nI i) = 0 by unfold mrd; rw [e4], e5]
  · rw [hs, e15, s4_0, e20.1]; decide
  · rw [e17, e15, s4_0, s5_0]
  · rw [e16, s4_0]; exact nI_0.symm
  · rw [e8]; exact nI_0.symm
end
section
/-! a turn's acts -/
theorem MD_give {us t : Nat} {u : vM} (ht : t ≤ 40) (hus : us < 5) (a1 a2 : Int32) (h : IV t u) : gv u (nI us) ∧ MD us t (uL_give u a1 a2 (nI us)) ∧ ∃ m, m ≤ 23 ∧ rL_give u a1 a2 (nI us) = nI (m + 1) := by
  obtain ⟨m1, e, hc⟩ := IV_CO us h
  obtain ⟨h1, h2⟩ := give_law ht hus a1 a2 hc
  exact ⟨gv_of hus hc, ⟨m1, by rw [fr_uL_give (by decide) (by decide) (by decide) (by decide) (by decide) (by decide) (by decide) (by decide) (by decide) (by decide) (by decide) (by decide) (by decide) (by decide) (by decide) (by decide) (by decide)]; exact e, h1⟩, h2⟩
theorem MD_refresh {us t : Nat} {u : vM} (ht : t ≤ 40) (hus : us < 5) (h : IV t u) : kc u ∧ xX1_refresh u (nI us) = 0 ∧ MD us t (uX1_refresh u (nI us)) ∧ ∃ m, m ≤ 24 ∧ rX1_refresh u (nI us) = nI m ∧ (rL_marked u = 0 → m = 0) := by
  obtain ⟨m1, e, hc⟩ := IV_CO us h
  obtain ⟨h1, m, h2, h3, h4⟩ := refresh_law ht hus hc
  exact ⟨CO_kc hc, by unfold xX1_refresh; rw [user1_in (user_in hus), if_neg c10], ⟨m1, by rw [fr_uX1_refresh (by decide) (by decide) (by decide) (by decide) (by decide) (by decide) (by decide) (by decide) (by decide) (by decide)]; exact e, h1⟩, m, h2, h3, fun hz => h4 (marked_0 hz)⟩
theorem MD_price {us t q p : Nat} {u : vM} (hq : q < 4) (hp : p ≤ 100) (h : IV t u) : xX1_setPrice u (nI q) (nI p) = 0 ∧ MD us t (uX1_setPrice u (nI q) (nI p)) ∧ (0 : Int32) ≤ rX1_setPrice u (nI q) (nI p) := by
  obtain ⟨m1, e, hc⟩ := IV_CO us h
  obtain ⟨h1, h2⟩ := price_law hq hp hc
  exact ⟨price_x hq hp, ⟨m1, by rw [fr_uX1_setPrice (by decide)]; exact e, h1⟩, Int32.not_lt.mp h2⟩
theorem MD_grant {us t q m : Nat} {u : vM} (ht : t ≤ 40) (hq : q < 4) (hm1 : 1 ≤ m) (hm : m ≤ 90) (h : IV t u) : xX1_grant u (nI q) (nI m) = 0 ∧ MD us t (mup (uX1_grant u (nI q) (nI m)) 20 0 (mrd (uX1_grant u (nI q) (nI m)) 20 0 + nI m)) ∧ rX1_grant u (nI q) (nI m) = rX1_budget u (nI q) + nI m := by
  obtain ⟨m1, e, hc⟩ := IV_CO us h
  obtain ⟨h1, h2⟩ := grant_law ht hq hm1 hm hc
  refine ⟨grant_x hq hm1 (by omega), ⟨m1, ?_, h2⟩, h1⟩
  rw [mup_at, if_neg (by decide), fr_uX1_grant (by decide)]
  exact e
end
section
variable {p : Program} {l : Launch} {e : Env} {s : State} {m : MethodId} {args : Array Value} {below : List Frame} {meth : Method} {c : Code} {D : va_G} {cI cZ : ClassId} {ad : Nat → Nat} {A : Nat → Prop}
/-! the law's helpers that are walked by hand: a cell of the script, the trace, the test without marks -/
def rL_cell (L : Nat) (xs : Nat → Int32) (a : Int32) : Int32 := if nI L ≤ a then 970441141 * (a + 1) else xs a.toNatClampNeg
def rmL_cell : Room := { frames := 0, cells := 0, slots := 0, locals := 0 }
theorem hdL_cell : yL_cell.cls ≠ "java/lang/invoke/MethodHandle" ∧ yL_cell.cls ≠ "java/lang/invoke/VarHandle" ∧ (parseMethodDescriptor yL_cell.desc).map (fun d => d.parameters.length) = some 2 := by decide +kernel
theorem hkL_cell : Cond.constant RL 7 (970441141) ∈ wsL_cell := by decide +kernel
theorem kL_cell {b L : Nat} {xs : Nat → Int32} (hL : L ≤ 260) (a1 : Int32) (h0 : ¬ a1 < 0) : mSc D vwCl (tyF cI cZ) xN l yL_cell wsL_cell rmL_cell [.ref b, .int a1] b L xs (rL_cell L xs a1) := by
  refine mSc_of (cc := cL_cell) (maxL := 2) (ret := some .int) (own := RL) rfl (by decide) rfl (Nat.le_of_ble_eq_true rfl) (fun p e s m args below meth c A C hX hbl hbA => ?_)
  refine V_ls (ls' := [(0, .ref b), (1, .int a1)]) rfl ?_
  refine V_iload_n C dL_cell_0 rfl 1 rfl ?_
  refine V_aload_n C dL_cell_1 rfl 0 rfl ?_
  refine V_slen C hX hbl hbA dL_cell_2 ?_
  refine V_icmp_ge (tgt := 12) C dL_cell_3 (by decide) (fun h3 => ?_) (fun h3 => ?_)
  · refine V_ldc (v := 970441141) C hkL_cell dL_cell_12 ?_
    refine V_iload_n C dL_cell_14 rfl 1 rfl ?_
    refine V_iconst (v := 1) C dL_cell_15 (by decide) ?_
    refine V_iadd C dL_cell_16 ?_
    refine V_imul C dL_cell_17 ?_
    exact V_iret C rfl (vp_nar_int _) (if_pos h3) rfl dL_cell_18
  · refine V_aload_n C dL_cell_6 rfl 0 rfl ?_
    refine V_iload_n C dL_cell_7 rfl 1 rfl ?_
    refine V_sld C hX hbl hbA (vq_lt h0 h3 (nI_toInt (by omega))) dL_cell_8 ?_
    refine V_goto (tgt := 18) C dL_cell_9 (by decide) ?_
    exact V_iret C rfl (vp_nar_int _) (if_neg h3) rfl dL_cell_18
def rtU : Nat → Nat → vM → vM
  | 0, _, u => u
  | n + 1, k, u => rtU n (k + 1) (uX1_valueAnew u (nI k))
theorem rtU_fr {q : Nat} (h : q ≠ 12) : ∀ (n k : Nat) (u : vM), rtU n k u q = u q := by
  intro n
  induction n with
  | zero => intro k u; rfl
  | succ n ih => intro k u; exact (ih (k + 1) _).trans (fr_uX1_valueAnew h)
def uL_right (u : vM) : vM := if rL_marked u = 0 then rtU 24 0 u else u
theorem fr_uL_right {u : vM} {q : Nat} (h : q ≠ 12) : uL_right u q = u q := by
  unfold uL_right
  split
  · exact rtU_fr h 24 0 u
  · rfl
def rmL_right : Room := { frames := 4, cells := 0, slots := 0, locals := 90 }
theorem hdL_right : yL_right.cls ≠ "java/lang/invoke/MethodHandle" ∧ yL_right.cls ≠ "java/lang/invoke/VarHandle" ∧ (parseMethodDescriptor yL_right.desc).map (fun d => d.parameters.length) = some 1 := by decide +kernel
theorem hkL_right_44 : Cond.constant RL 44 (1000000) ∈ wsL_right := by decide +kernel
theorem hkL_right_70 : Cond.constant RL 70 (-1000000) ∈ wsL_right := by decide +kernel
theorem rgs_next {u : vM} {a : Int32} (h : rgs u) : rgs (uX1_valueAnew u a) := fun v hv => h v (fun q hq => (hv q hq).trans (fr_uX1_valueAnew hq))
set_option maxHeartbeats 4000000 in
theorem qL_right_11 (C : vC p s m args meth c D vwCl (tyF cI cZ) xN A (wC cI cZ ad) cL_right RL wsL_right 2 (some .boolean)) : ∀ (n k : Nat), k + n = 24 → ∀ (u : vM), rgs u → ∀ u' : vM, u' = rtU n k u → V p l e rmL_right s m args below meth c D vwCl A (wC cI cZ ad) 2 0 0 (MQ below (mQi D vwCl (wC cI cZ ad) A 1 u') args s 0 0 A) u 11 [(0, .ref (ad 0)), (1, .int (nI k))] [] := by
  intro n
  induction n with
  | zero =>
    intro k hk u hg u' hu
    obtain rfl : k = 24 := by omega
    refine V_iload_n C dL_right_11 rfl 1 rfl ?_
    refine V_bipush (v := 24) C dL_right_12 (by decide) ?_
    refine V_icmp_ge (tgt := 58) C dL_right_14 (by decide) (fun _ => ?_) (fun h => absurd (by decide : (24 : Int32) ≤ nI 24) h)
    refine V_iconst (v := 1) C dL_right_58 (by decide) ?_
    exact V_iret C rfl rfl rfl hu dL_right_59
  | succ n ih =>
    intro k hk u hg u' hu
    have hkB : k < 24 := by omega
    have hin : vp_in (nI k) 24 := vp_in_nI hkB (by decide)
    refine V_iload_n C dL_right_11 rfl 1 rfl ?_
    refine V_bipush (v := 24) C dL_right_12 (by decide) ?_
    refine V_icmp_ge (tgt := 58) C dL_right_14 (by decide) (fun h => absurd h (nI_ge hkB (by decide))) (fun _ => ?_)
    refine V_aload_n C dL_right_17 rfl 0 rfl ?_
    refine V_iload_n C dL_right_18 rfl 1 rfl ?_
    refine V_cVi1 C xN_ok (kX1_value _ _ (xq_value hin)) (cwV 1 C.2.2.1 gL_right_X1_value rfl rfl rfl hvX1_value ⟨Nat.le_of_ble_eq_true rfl, Nat.le_of_ble_eq_true rfl⟩) 0 rfl rfl (Nat.le_of_ble_eq_true rfl) ⟨(Nat.le_of_ble_eq_true rfl), (Nat.le_of_ble_eq_true rfl)⟩ dL_right_19 ?_
    refine V_aload_n C dL_right_22 rfl 0 rfl ?_
    refine V_iload_n C dL_right_23 rfl 1 rfl ?_
    refine V_cVi1 C xN_ok (kX1_valueAnew _ _ (xq_valueAnew hin)) (cwV 1 C.2.2.1 gL_right_X1_valueAnew rfl rfl rfl hvX1_valueAnew ⟨Nat.le_of_ble_eq_true rfl, Nat.le_of_ble_eq_true rfl⟩) 0 rfl rfl (Nat.le_of_ble_eq_true rfl) ⟨(Nat.le_of_ble_eq_true rfl), (Nat.le_of_ble_eq_true rfl)⟩ dL_right_24 ?_
    refine V_icmp_ne (tgt := 50) C dL_right_27 (by decide) (fun h => absurd (hg u (fun _ _ => rfl) k hkB).1 h) (fun _ => ?_)
    have hg2 : rgs (uX1_valueAnew u (nI k)) := rgs_next hg
    have hv := hg2 _ (fun _ _ => rfl) k hkB
    refine V_aload_n C dL_right_30 rfl 0 rfl ?_
    refine V_iload_n C dL_right_31 rfl 1 rfl ?_
    refine V_cVi1 C xN_ok (kX1_value _ _ (xq_value hin)) (cwV 1 C.2.2.1 gL_right_X1_value rfl rfl rfl hvX1_value ⟨Nat.le_of_ble_eq_true rfl, Nat.le_of_ble_eq_true rfl⟩) 0 rfl rfl (Nat.le_of_ble_eq_true rfl) ⟨(Nat.le_of_ble_eq_true rfl), (Nat.le_of_ble_eq_true rfl)⟩ dL_right_32 ?_
    refine V_ldc (v := 1000000) C hkL_right_44 dL_right_35 ?_
    refine V_icmp_gt (tgt := 50) C dL_right_37 (by decide) (fun h => absurd h hv.2.1) (fun _ => ?_)
    refine V_aload_n C dL_right_40 rfl 0 rfl ?_
    refine V_iload_n C dL_right_41 rfl 1 rfl ?_
    refine V_cVi1 C xN_ok (kX1_value _ _ (xq_value hin)) (cwV 1 C.2.2.1 gL_right_X1_value rfl rfl rfl hvX1_value ⟨Nat.le_of_ble_eq_true rfl, Nat.le_of_ble_eq_true rfl⟩) 0 rfl rfl (Nat.le_of_ble_eq_true rfl) ⟨(Nat.le_of_ble_eq_true rfl), (Nat.le_of_ble_eq_true rfl)⟩ dL_right_42 ?_
    refine V_ldc (v := (-1000000)) C hkL_right_70 dL_right_45 ?_
    refine V_icmp_ge (tgt := 52) C dL_right_47 (by decide) (fun _ => ?_) (fun h => absurd hv.2.2 h)
    refine V_iinc (v := nI (k + 1)) (ls' := [(0, .ref (ad 0)), (1, .int (nI (k + 1)))]) C dL_right_52 1 rfl (nI_1 k) (by decide) rfl rfl ?_
    refine V_goto (tgt := 11) C dL_right_55 (by decide) ?_
    exact ih (k + 1) (by omega) _ hg2 u' hu
set_option maxHeartbeats 4000000 in
theorem kL_right (u : vM) (h6 : bo u 6) (hg : rL_marked u = 0 → rgs u) : mI D vwCl (tyF cI cZ) xN (wC cI cZ ad) l yL_right wsL_right rmL_right [.ref (ad 0)] u 1 (uL_right u) := by
  refine mI_of (cc := cL_right) (maxL := 2) (ret := (some .boolean)) (own := RL) rfl (by decide) rfl (wC_ok cI cZ ad) (Nat.le_of_ble_eq_true rfl) (fun p e s m args below meth c A C => ?_)
  refine V_ls (ls' := [(0, .ref (ad 0))]) rfl ?_
  refine V_aload_n C dL_right_0 rfl 0 rfl ?_
  refine V_cSi1 C xN_ok (kL_marked _ h6) (va_cwS 1 C.2.2.1 gL_right_L_marked rfl rfl rfl hdL_marked ⟨Nat.le_of_ble_eq_true rfl, Nat.le_of_ble_eq_true rfl⟩) (Nat.le_of_ble_eq_true rfl) ⟨(Nat.le_of_ble_eq_true rfl), (Nat.le_of_ble_eq_true rfl)⟩ dL_right_1 ?_
  refine V_if_eq (tgt := 9) C dL_right_4 (by decide) (fun h4 => ?_) (fun h4 => ?_)
  · refine V_iconst (v := 0) C dL_right_9 (by decide) ?_
    refine V_istore_n (ls' := [(0, .ref (ad 0)), (1, .int 0)]) C dL_right_10 rfl (by decide) rfl rfl ?_
    exact qL_right_11 C 24 0 rfl u (hg h4) _ (if_pos h4)
  · refine V_iconst (v := 1) C dL_right_7 (by decide) ?_
    exact V_iret C rfl rfl rfl (if_neg h4) dL_right_8
end
section
variable {p : Program} {l : Launch} {e : Env} {s : State} {m : MethodId} {args : Array Value} {below : List Frame} {meth : Method} {c : Code} {D : va_G} {cI cZ : ClassId} {ad : Nat → Nat} {A : Nat → Prop}
def rmL_traced : Room := { frames := 4, cells := 0, slots := 0, locals := 90 }
theorem hdL_traced : yL_traced.cls ≠ "java/lang/invoke/MethodHandle" ∧ yL_traced.cls ≠ "java/lang/invoke/VarHandle" ∧ (parseMethodDescriptor yL_traced.desc).map (fun d => d.parameters.length) = some 3 := by decide +kernel
theorem xq_reading {u : vM} {n K : Nat} (hK : u 8 0 = nI K) (hn : n < K) (hK5 : K ≤ 500) : xX1_reading u (nI n) = 0 ∧ rX1_reading u (nI n) = u 19 n := by
  have h1 : ¬ mfd u 8 ≤ nI n := by
    unfold mfd
    rw [hK]
    exact nI_ge hn (by omega)
  have h2 : nI n < (500 : Int32) := nI_lt (b := 500) (by omega) (by decide)
  unfold xX1_reading rX1_reading
  rw [if_neg (nI_pos (by omega)), if_neg (nI_pos (by omega)), if_neg h1, if_neg h1, if_pos h2, if_pos h2, mrd_nI (by omega)]
  exact ⟨rfl, rfl⟩
theorem xq_times {u : vM} {a b : Nat} (ha : a < 24) (hb : b < 24) : xX1_timesRead u (nI a) (nI b) = 0 ∧ rX1_timesRead u (nI a) (nI b) = u 18 (24 * a + b) := by
  unfold xX1_timesRead rX1_timesRead
  rw [cell1_nI ha, cell1_nI hb, if_neg c10, if_neg c10, if_neg c10, if_neg c10, ix_nI ha hb, mrd_nI (by omega)]
  exact ⟨rfl, rfl⟩
set_option maxHeartbeats 4000000 in
theorem qL_traced_4 (C : vC p s m args meth c D vwCl (tyF cI cZ) xN A (wC cI cZ ad) cL_traced RL wsL_traced 7 (some .boolean)) {u : vM} {m1 K us : Nat} (hK5 : K ≤ 500) (h8 : u 8 0 = nI K) (hus : us < 5) (hen : ∀ n, m1 ≤ n → n < K → ∃ rd rr c : Nat, rd < 24 ∧ rr < 24 ∧ rd / 6 ≠ rr / 6 ∧ u 19 n = nI (10000 * us + 100 * rd + rr) ∧ 1 ≤ c ∧ c < 2 ^ 20 ∧ u 18 (24 * rd + rr) = nI c) : ∀ (n k : Nat), k + n = K → m1 ≤ k → V p l e rmL_traced s m args below meth c D vwCl A (wC cI cZ ad) 7 0 0 (MQ below (mQi D vwCl (wC cI cZ ad) A 1 (mup u 20 1 (mfd u 8))) args s 0 0 A) u 4 [(0, .ref (ad 0)), (1, .int (nI us)), (2, .ref (ad 20)), (3, .int (nI k))] [] := by
  intro n
  induction n with
  | zero =>
    intro k hk hm
    obtain rfl : k = K := by omega
    refine V_iload_n C dL_traced_4 rfl 3 rfl ?_
    refine V_aload_n C dL_traced_5 rfl 0 rfl ?_
    refine V_cVi0 C xN_ok (kX1_readings _) (cwV 0 C.2.2.1 gL_traced_X1_readings rfl rfl rfl hvX1_readings ⟨Nat.le_of_ble_eq_true rfl, Nat.le_of_ble_eq_true rfl⟩) 0 rfl rfl (Nat.le_of_ble_eq_true rfl) ⟨(Nat.le_of_ble_eq_true rfl), (Nat.le_of_ble_eq_true rfl)⟩ dL_traced_6 ?_
    refine V_icmp_ge (tgt := 93) C dL_traced_9 (by decide) (fun _ => ?_) (fun h => absurd (show u 8 0 ≤ nI k by rw [h8]; exact nI_le (Nat.le_refl _) (by omega)) h)
    refine V_aload_n C dL_traced_93 rfl 2 rfl ?_
    refine V_iconst (v := 1) C dL_traced_94 (by decide) ?_
    refine V_aload_n C dL_traced_95 rfl 0 rfl ?_
    refine V_cVi0 C xN_ok (kX1_readings _) (cwV 0 C.2.2.1 gL_traced_X1_readings rfl rfl rfl hvX1_readings ⟨Nat.le_of_ble_eq_true rfl, Nat.le_of_ble_eq_true rfl⟩) 0 rfl rfl (Nat.le_of_ble_eq_true rfl) ⟨(Nat.le_of_ble_eq_true rfl), (Nat.le_of_ble_eq_true rfl)⟩ dL_traced_96 ?_
    refine Vm_iast C 20 0 rfl rfl (by unfold vp_in; decide) wC_s20 dL_traced_99 ?_
    refine V_iconst (v := 1) C dL_traced_100 (by decide) ?_
    exact V_iret C rfl rfl rfl rfl dL_traced_101
  | succ n ih =>
    intro k hk hm
    have hkK : k < K := by omega
    obtain ⟨rd, rr, cc, g1, g2, g3, g4, g5, g6, g7⟩ := hen k hm hkK
    have hT : 10000 * us + 100 * rd + rr < 2 ^ 31 := by omega
    refine V_iload_n C dL_traced_4 rfl 3 rfl ?_
    refine V_aload_n C dL_traced_5 rfl 0 rfl ?_
    refine V_cVi0 C xN_ok (kX1_readings _) (cwV 0 C.2.2.1 gL_traced_X1_readings rfl rfl rfl hvX1_readings ⟨Nat.le_of_ble_eq_true rfl, Nat.le_of_ble_eq_true rfl⟩) 0 rfl rfl (Nat.le_of_ble_eq_true rfl) ⟨(Nat.le_of_ble_eq_true rfl), (Nat.le_of_ble_eq_true rfl)⟩ dL_traced_6 ?_
    refine V_icmp_ge (tgt := 93) C dL_traced_9 (by decide) (fun h => absurd (show u 8 0 ≤ nI k from h) (by rw [h8]; exact nI_ge hkK (by omega))) (fun _ => ?_)
    refine V_aload_n C dL_traced_12 rfl 0 rfl ?_
    refine V_iload_n C dL_traced_13 rfl 3 rfl ?_
    refine V_cVi1 C xN_ok (kX1_reading _ _ (xq_reading h8 hkK hK5).1) (cwV 1 C.2.2.1 gL_traced_X1_reading rfl rfl rfl hvX1_reading ⟨Nat.le_of_ble_eq_true rfl, Nat.le_of_ble_eq_true rfl⟩) 0 rfl rfl (Nat.le_of_ble_eq_true rfl) ⟨(Nat.le_of_ble_eq_true rfl), (Nat.le_of_ble_eq_true rfl)⟩ dL_traced_14 ?_
    refine V_top (fun told ht => ?_)
    obtain rfl : told = nI (10000 * us + 100 * rd + rr) := ht.symm.trans ((xq_reading h8 hkK hK5).2.trans g4)
    clear ht
    refine V_istore (ls' := [(0, .ref (ad 0)), (1, .int (nI us)), (2, .ref (ad 20)), (3, .int (nI k)), (4, .int (nI (10000 * us + 100 * rd + rr)))]) C dL_traced_17 (by decide) rfl rfl ?_
    refine V_iload C dL_traced_19 4 rfl ?_
    refine V_bipush (v := 100) C dL_traced_21 (by decide) ?_
    refine V_idiv C dL_traced_23 (by decide) ?_
    refine V_top (fun y hy => ?_)
    obtain rfl : y = nI (100 * us + rd) := hy.symm.trans ((pk_div (d := 100) hT (by decide) (by decide)).trans (congrArg nI (by omega)))
    clear hy
    refine V_bipush (v := 100) C dL_traced_24 (by decide) ?_
    refine V_irem C dL_traced_26 (by decide) ?_
    refine V_top (fun y hy => ?_)
    obtain rfl : y = nI rd := hy.symm.trans ((pk_rem (d := 100) (by omega) (by decide) (by decide)).trans (congrArg nI (by omega)))
    clear hy
    refine V_istore (ls' := [(0, .ref (ad 0)), (1, .int (nI us)), (2, .ref (ad 20)), (3, .int (nI k)), (4, .int (nI (10000 * us + 100 * rd + rr))), (5, .int (nI rd))]) C dL_traced_27 (by decide) rfl rfl ?_
    refine V_iload C dL_traced_29 4 rfl ?_
    refine V_bipush (v := 100) C dL_traced_31 (by decide) ?_
    refine V_irem C dL_traced_33 (by decide) ?_
    refine V_top (fun y hy => ?_)
    obtain rfl : y = nI rr := hy.symm.trans ((pk_rem (d := 100) hT (by decide) (by decide)).trans (congrArg nI (by omega)))
    clear hy
    refine V_istore (ls' := [(0, .ref (ad 0)), (1, .int (nI us)), (2, .ref (ad 20)), (3, .int (nI k)), (4, .int (nI (10000 * us + 100 * rd + rr))), (5, .int (nI rd)), (6, .int (nI rr))]) C dL_traced_34 (by decide) rfl rfl ?_
    refine V_iload C dL_traced_36 4 rfl ?_
    refine V_sipush (v := 10000) C dL_traced_38 (by decide) ?_
    refine V_idiv C dL_traced_41 (by decide) ?_
    refine V_top (fun y hy => ?_)
    obtain rfl : y = nI us := hy.symm.trans ((pk_div (d := 10000) hT (by decide) (by decide)).trans (congrArg nI (by omega)))
    clear hy
    refine V_iload_n C dL_traced_42 rfl 1 rfl ?_
    refine V_icmp_ne (tgt := 85) C dL_traced_43 (by decide) (fun h => absurd rfl h) (fun _ => ?_)
    refine V_iload C dL_traced_46 5 rfl ?_
    refine V_bipush (v := 23) C dL_traced_48 (by decide) ?_
    refine V_icmp_gt (tgt := 85) C dL_traced_50 (by decide) (fun h => absurd h (nI_nlt (a := 23) (by omega) (by decide))) (fun _ => ?_)
    refine V_iload C dL_traced_53 6 rfl ?_
    refine V_bipush (v := 23) C dL_traced_55 (by decide) ?_
    refine V_icmp_gt (tgt := 85) C dL_traced_57 (by decide) (fun h => absurd h (nI_nlt (a := 23) (by omega) (by decide))) (fun _ => ?_)
    refine V_iload C dL_traced_60 5 rfl ?_
    refine V_bipush (v := 6) C dL_traced_62 (by decide) ?_
    refine V_idiv C dL_traced_64 (by decide) ?_
    refine V_iload C dL_traced_65 6 rfl ?_
    refine V_bipush (v := 6) C dL_traced_67 (by decide) ?_
    refine V_idiv C dL_traced_69 (by decide) ?_
    refine V_icmp_eq (tgt := 85) C dL_traced_70 (by decide) (fun h => absurd h (by rw [d6_nI (by omega), d6_nI (by omega)]; exact fun q => g3 ((nI_eq (by omega) (by omega)).mp q))) (fun _ => ?_)
    refine V_aload_n C dL_traced_73 rfl 0 rfl ?_
    refine V_iload C dL_traced_74 5 rfl ?_
    refine V_iload C dL_traced_76 6 rfl ?_
    refine V_cVi2 C xN_ok (kX1_timesRead _ _ _ (xq_times g1 g2).1) (cwV 2 C.2.2.1 gL_traced_X1_timesRead rfl rfl rfl hvX1_timesRead ⟨Nat.le_of_ble_eq_true rfl, Nat.le_of_ble_eq_true rfl⟩) 0 rfl rfl (Nat.le_of_ble_eq_true rfl) ⟨(Nat.le_of_ble_eq_true rfl), (Nat.le_of_ble_eq_true rfl)⟩ dL_traced_78 ?_
    refine V_iconst (v := 1) C dL_traced_81 (by decide) ?_
    refine V_icmp_ge (tgt := 87) C dL_traced_82 (by decide) (fun _ => ?_) (fun h => absurd (show (1 : Int32) ≤ rX1_timesRead u (nI rd) (nI rr) by rw [(xq_times g1 g2).2, g7]; exact nI_le (a := 1) g5 (by omega)) h)
    refine V_sub (ls' := [(0, .ref (ad 0)), (1, .int (nI us)), (2, .ref (ad 20)), (3, .int (nI k))]) [0, 1, 2, 3] rfl ?_
    refine V_iinc (v := nI (k + 1)) (ls' := [(0, .ref (ad 0)), (1, .int (nI us)), (2, .ref (ad 20)), (3, .int (nI (k + 1)))]) C dL_traced_87 3 rfl (nI_1 k) (by decide) rfl rfl ?_
    refine V_goto (tgt := 4) C dL_traced_90 (by decide) ?_
    exact ih (k + 1) (by omega) (by omega)
set_option maxHeartbeats 4000000 in
theorem kL_traced (u : vM) (a1 : Int32) (h : TR a1 u) : mI D vwCl (tyF cI cZ) xN (wC cI cZ ad) l yL_traced wsL_traced rmL_traced [.ref (ad 0), .int a1, .ref (ad 20)] u 1 (mup u 20 1 (mfd u 8)) := by
  obtain ⟨m1, K, us, h20, hmK, hK5, h8, rfl, hus, hen⟩ := h
  refine mI_of (cc := cL_traced) (maxL := 7) (ret := (some .boolean)) (own := RL) rfl (by decide) rfl (wC_ok cI cZ ad) (Nat.le_of_ble_eq_true rfl) (fun p e s m args below meth c A C => ?_)
  refine V_ls (ls' := [(0, .ref (ad 0)), (1, .int (nI us)), (2, .ref (ad 20))]) rfl ?_
  refine V_aload_n C dL_traced_0 rfl 2 rfl ?_
  refine V_iconst (v := 1) C dL_traced_1 (by decide) ?_
  refine Vm_iald C 20 0 rfl rfl (by unfold vp_in; decide) dL_traced_2 ?_
  refine V_top (fun y hy => ?_)
  obtain rfl : y = nI m1 := hy.symm.trans ((mrd_nI (i := 1) (by decide)).trans h20)
  clear hy
  refine V_istore_n (ls' := [(0, .ref (ad 0)), (1, .int (nI us)), (2, .ref (ad 20)), (3, .int (nI m1))]) C dL_traced_3 rfl (by decide) rfl rfl ?_
  exact qL_traced_4 C hK5 h8 hus hen (K - m1) m1 (by omega) (Nat.le_refl _)
end
section
-- ===== end of PART A; then your names; then what follows =====
/-! THE CLAIM OUT OF ONE WALK OF THE LAW'S BODY. Your part is whole_start (and what it stands on); all else here is the same for every law, but numbers. -/
def R_law : String := "MeteredSheetsLaw"
def lw_P (b : Addr) (xs : List Int32) (args : Array Value) (s : State) : Prop := args = #[.ref b] ∧ s.IntsAt b xs ∧ xs.length ≤ 260 ∧ (Jvm.Cond.and given_1 narrow_1).before args s = true
def lw_Q (_ : Array Value) (s : State) (o : Outcome) (t : State) : Prop := o = .returned (some (.int 1)) ∧ Framed s o t [] 126 2185
def lw_Z (below : List Frame) (a : Array Value) (s : State) : State → Prop := fun t => ∃ o, t.status = .running ∧ Ended t below o ∧ lw_Q a s o t
/-- the law's own end, with 1 on the stack, nothing written that was there before, its room as the claim has it -/
theorem lw_ret {p : Program} {l : Launch} {e : Env} {s : State} {m : MethodId} {below : List Frame} {meth : Method} {c : Code} {b : Nat} (hx : p.tables.exec = Jvm.exec) (hb : c.code = code) (hr : meth.sig.returnType = ret) (hlocks : meth.locks = false) {pc : Nat} {H : Heap} {ls : Array Slot} (hdg : decode code pc = .ok (.ireturn, 1)) : W p l e room_1 s m #[Value.ref b] below meth c H [] 126 2185 (lw_Z below #[Value.ref b] s) (F0 m pc ls [.int 1]) := by
  intro T hT X
  obtain ⟨fs, hret, hrun, hended, hW, hframe⟩ := X.leave (v := some (.int 1)) (hlocks := hlocks) (fun h => by rw [hr] at h; cases h)
  have hmeth' : T.vm.method? m = some meth := X.method'
  refine ⟨T.setFrames fs, ?_, .returned (some (.int 1)), hrun, hended, rfl, ⟨_, rfl⟩, hW, hframe⟩
  jvm_step X.here [X.here.top, hx, hb, hdg, hmeth', hr, ret, narrow_b1]
  (try refine ⟨rfl, ?_⟩); (try refine ⟨rfl, ?_⟩)
  first | (intro acts; rw [hret _ acts rfl rfl rfl]) | rw [hret _ _ rfl rfl rfl]
  exact Steps.refl _
/-- what holds at the law's entry: the machine, the code, the tables' words (any of lw_tbl by 'hts w (by decide +kernel)'), the script of L ints xs at the cell b, what the Statement gives of the start (any of its parts by flat_of_before) -/
def lw_At (p : Program) (s : State) (m : MethodId) (meth : Method) (c : Code) (b L : Nat) (xs : Nat → Int32) : Prop :=
  p.tables.exec = Jvm.exec ∧ c.code = code ∧ meth.sig.returnType = ret ∧ c.maxLocals = 11 ∧ s.vm.findClass R_law = some m.cls ∧ (∀ w ∈ lw_tbl, w.before #[Value.ref b] s = true) ∧ va_X b L xs s s.heap ∧ b < s.heap.size ∧ meth.locks = false ∧ (Jvm.Cond.and given_1 narrow_1).before #[Value.ref b] s = true
variable {p : Program} {l : Launch} {e : Env} {s : State} {m : MethodId} {below : List Frame} {meth : Method} {c : Code} {D : va_G} {cI cZ : ClassId} {ad : Nat → Nat} {b L : Nat} {A : Nat → Prop} {xs : Nat → Int32}
/-- the next turn -/
def lNext (p : Program) (l : Launch) (e : Env) (s : State) (m : MethodId) (below : List Frame) (meth : Method) (c : Code) (D : va_G) (cI cZ : ClassId) (ad : Nat → Nat) (b : Nat) (A : Nat → Prop) (t : Nat) : Prop := ∀ u : vM, IV (t + 1) u → V p l e room_1 s m #[Value.ref b] below meth c D vwCl A (wC cI cZ ad) 11 21 1383 (lw_Z below #[Value.ref b] s) u 20 [(0, .ref b), (1, .ref (ad 0)), (2, .ref (ad 20)), (3, .int (nI (t + 1)))] []
theorem hkL_law_76 : Cond.constant RL 76 (2147483647) ∈ wsL_law := by decide +kernel
set_option maxHeartbeats 4000000 in
theorem law_tail (C : vC p s m #[Value.ref b] meth c D vwCl (tyF cI cZ) xN A (wC cI cZ ad) cL_law RL wsL_law 11 (some .boolean)) {t us : Nat} (ht : t ≤ 40) (hus : us < 5) (K : lNext p l e s m below meth c D cI cZ ad b A t) {u : vM} (hM : MD us t u) : V p l e room_1 s m #[Value.ref b] below meth c D vwCl A (wC cI cZ ad) 11 21 1383 (lw_Z below #[Value.ref b] s) u 243 [(0, .ref b), (1, .ref (ad 0)), (2, .ref (ad 20)), (3, .int (nI t)), (6, .int (nI us))] [] := by
  refine V_aload_n C dL_law_243 rfl 1 rfl ?_
  refine V_iload C dL_law_244 4 rfl ?_
  refine V_aload_n C dL_law_246 rfl 2 rfl ?_
  refine V_cSi3 C xN_ok (kL_traced _ _ (MD_TR ht hus hM)) (va_cwS 3 C.2.2.1 gL_law_L_traced rfl rfl rfl hdL_traced ⟨Nat.le_of_ble_eq_true rfl, Nat.le_of_ble_eq_true rfl⟩) (Nat.le_of_ble_eq_true rfl) ⟨(Nat.le_of_ble_eq_true rfl), (Nat.le_of_ble_eq_true rfl)⟩ dL_law_247 ?_
  refine V_if_eq (tgt := 275) C dL_law_250 (by decide) (fun h => absurd h (by decide)) (fun _ => ?_)
  have hA := MD_acc ht hM
  have hI := MD_IV hM
  generalize mup u 20 1 (mfd u 8) = w at hA hI ⊢
  refine V_aload_n C dL_law_253 rfl 1 rfl ?_
  refine V_aload_n C dL_law_254 rfl 2 rfl ?_
  refine V_cSi2 C xN_ok (kL_accounts _) (va_cwS 2 C.2.2.1 gL_law_L_accounts rfl rfl rfl hdL_accounts ⟨Nat.le_of_ble_eq_true rfl, Nat.le_of_ble_eq_true rfl⟩) (Nat.le_of_ble_eq_true rfl) ⟨(Nat.le_of_ble_eq_true rfl), (Nat.le_of_ble_eq_true rfl)⟩ dL_law_255 ?_
  refine V_if_eq (tgt := 275) C dL_law_258 (by decide) (fun h => absurd (hA.symm.trans h) (by decide)) (fun _ => ?_)
  refine V_iload_n C dL_law_261 rfl 3 rfl ?_
  refine V_iconst (v := 4) C dL_law_262 (by decide) ?_
  refine V_irem C dL_law_263 (by decide) ?_
  refine V_iconst (v := 3) C dL_law_264 (by decide) ?_
  have hend : ∀ v : vM, IV (t + 1) v → V p l e room_1 s m #[Value.ref b] below meth c D vwCl A (wC cI cZ ad) 11 21 1383 (lw_Z below #[Value.ref b] s) v 277 [(0, .ref b), (1, .ref (ad 0)), (2, .ref (ad 20)), (3, .int (nI t)), (6, .int (nI us))] [] := by
    intro v hv
    refine V_sub (ls' := [(0, .ref b), (1, .ref (ad 0)), (2, .ref (ad 20)), (3, .int (nI t))]) [0, 1, 2, 3] rfl ?_
    refine V_iinc (v := nI (t + 1)) (ls' := [(0, .ref b), (1, .ref (ad 0)), (2, .ref (ad 20)), (3, .int (nI (t + 1)))]) C dL_law_277 3 rfl (nI_1 t) (by decide) rfl rfl ?_
    refine V_goto (tgt := 20) C dL_law_280 (by decide) ?_
    exact K v hv
  refine V_icmp_ne (tgt := 277) C dL_law_265 (by decide) (fun _ => hend w hI) (fun _ => ?_)
  refine V_aload_n C dL_law_268 rfl 1 rfl ?_
  refine V_cSi1 C xN_ok (kL_right _ hI.1.2.2.2.1 (fun h => rgs_of hI.1 h)) (va_cwS 1 C.2.2.1 gL_law_L_right rfl rfl rfl hdL_right ⟨Nat.le_of_ble_eq_true rfl, Nat.le_of_ble_eq_true rfl⟩) (Nat.le_of_ble_eq_true rfl) ⟨(Nat.le_of_ble_eq_true rfl), (Nat.le_of_ble_eq_true rfl)⟩ dL_law_269 ?_
  refine V_if_ne (tgt := 277) C dL_law_272 (by decide) (fun _ => ?_) (fun h => absurd h (by decide))
  exact hend _ (IV_fr hI (fun q hq => fr_uL_right hq))
set_option maxHeartbeats 4000000 in
theorem law_act (C : vC p s m #[Value.ref b] meth c D vwCl (tyF cI cZ) xN A (wC cI cZ ad) cL_law RL wsL_law 11 (some .boolean)) {t us : Nat} (ht : t ≤ 40) (hus : us < 5) (K : lNext p l e s m below meth c D cI cZ ad b A t) {u : vM} (hI : IV t u) (x y act : Int32) : V p l e room_1 s m #[Value.ref b] below meth c D vwCl A (wC cI cZ ad) 11 21 1383 (lw_Z below #[Value.ref b] s) u 71 [(0, .ref b), (1, .ref (ad 0)), (2, .ref (ad 20)), (3, .int (nI t)), (4, .int x), (5, .int y), (6, .int (nI us)), (7, .int act)] [] := by
  refine V_iload C dL_law_71 7 rfl ?_
  refine V_iconst (v := 5) C dL_law_73 (by decide) ?_
  refine V_icmp_ge (tgt := 110) C dL_law_74 (by decide) (fun _ => ?_) (fun _ => ?_)
  ·
    refine V_iload C dL_law_110 7 rfl ?_
    refine V_iconst (v := 5) C dL_law_112 (by decide) ?_
    refine V_icmp_ne (tgt := 157) C dL_law_113 (by decide) (fun _ => ?_) (fun _ => ?_)
    ·
      refine V_iload C dL_law_157 7 rfl ?_
      refine V_bipush (v := 6) C dL_law_159 (by decide) ?_
      refine V_icmp_ne (tgt := 188) C dL_law_161 (by decide) (fun _ => ?_) (fun _ => ?_)
      ·
        refine V_iload C dL_law_188 5 rfl ?_
        refine V_iconst (v := 4) C dL_law_190 (by decide) ?_
        refine V_cSi2 C xN_ok (kL_at u _ _ (by decide)) (va_cwS 2 C.2.2.1 gL_law_L_at rfl rfl rfl hdL_at ⟨Nat.le_of_ble_eq_true rfl, Nat.le_of_ble_eq_true rfl⟩) (Nat.le_of_ble_eq_true rfl) ⟨(Nat.le_of_ble_eq_true rfl), (Nat.le_of_ble_eq_true rfl)⟩ dL_law_191 ?_
        refine V_top (fun z hz => ?_)
        obtain ⟨q, hq, eq⟩ := at_nI y (n := 4) (by decide) (by decide)
        obtain rfl : z = nI q := hz.symm.trans eq
        clear hz
        refine V_istore (ls' := [(0, .ref b), (1, .ref (ad 0)), (2, .ref (ad 20)), (3, .int (nI t)), (4, .int x), (5, .int y), (6, .int (nI us)), (7, .int act), (8, .int (nI q))]) C dL_law_194 (by decide) rfl rfl ?_
        refine V_aload_n C dL_law_196 rfl 1 rfl ?_
        refine V_iload C dL_law_197 8 rfl ?_
        refine V_cVi1 C xN_ok (kX1_budget _ _ (xq_budget (vp_in_nI hq (by decide)))) (cwV 1 C.2.2.1 gL_law_X1_budget rfl rfl rfl hvX1_budget ⟨Nat.le_of_ble_eq_true rfl, Nat.le_of_ble_eq_true rfl⟩) 0 rfl rfl (Nat.le_of_ble_eq_true rfl) ⟨(Nat.le_of_ble_eq_true rfl), (Nat.le_of_ble_eq_true rfl)⟩ dL_law_199 ?_
        refine V_istore (ls' := [(0, .ref b), (1, .ref (ad 0)), (2, .ref (ad 20)), (3, .int (nI t)), (4, .int x), (5, .int y), (6, .int (nI us)), (7, .int act), (8, .int (nI q)), (9, .int (rX1_budget u (nI q)))]) C dL_law_202 (by decide) rfl rfl ?_
        refine V_iconst (v := 1) C dL_law_204 (by decide) ?_
        refine V_iload C dL_law_205 5 rfl ?_
        refine V_iconst (v := 3) C dL_law_207 (by decide) ?_
        refine V_ishr C dL_law_208 ?_
        refine V_bipush (v := 90) C dL_law_209 (by decide) ?_
        refine V_cSi2 C xN_ok (kL_at u _ _ (by decide)) (va_cwS 2 C.2.2.1 gL_law_L_at rfl rfl rfl hdL_at ⟨Nat.le_of_ble_eq_true rfl, Nat.le_of_ble_eq_true rfl⟩) (Nat.le_of_ble_eq_true rfl) ⟨(Nat.le_of_ble_eq_true rfl), (Nat.le_of_ble_eq_true rfl)⟩ dL_law_211 ?_
        refine V_top (fun z hz => ?_)
        obtain ⟨g, hg, eg⟩ := at_nI (y >>> (3 &&& 31)) (n := 90) (by decide) (by decide)
        obtain rfl : z = nI g := hz.symm.trans eg
        clear hz
        refine V_iadd C dL_law_214 ?_
        refine V_top (fun z hz => ?_)
        obtain rfl : z = nI (g + 1) := hz.symm.trans ((nI_add 1 g).trans (congrArg nI (Nat.add_comm 1 g)))
        clear hz
        refine V_istore (ls' := [(0, .ref b), (1, .ref (ad 0)), (2, .ref (ad 20)), (3, .int (nI t)), (4, .int x), (5, .int y), (6, .int (nI us)), (7, .int act), (8, .int (nI q)), (9, .int (rX1_budget u (nI q))), (10, .int (nI (g + 1)))]) C dL_law_215 (by decide) rfl rfl ?_
        obtain ⟨gx, gM, ge⟩ := MD_grant (us := us) (m := g + 1) ht hq (by omega) (by omega) hI
        refine V_aload_n C dL_law_217 rfl 1 rfl ?_
        refine V_iload C dL_law_218 8 rfl ?_
        refine V_iload C dL_law_220 10 rfl ?_
        refine V_cVi2 C xN_ok (kX1_grant _ _ _ gx) (cwV 2 C.2.2.1 gL_law_X1_grant rfl rfl rfl hvX1_grant ⟨Nat.le_of_ble_eq_true rfl, Nat.le_of_ble_eq_true rfl⟩) 0 rfl rfl (Nat.le_of_ble_eq_true rfl) ⟨(Nat.le_of_ble_eq_true rfl), (Nat.le_of_ble_eq_true rfl)⟩ dL_law_222 ?_
        refine V_iload C dL_law_225 9 rfl ?_
        refine V_iload C dL_law_227 10 rfl ?_
        refine V_iadd C dL_law_229 ?_
        refine V_icmp_eq (tgt := 235) C dL_law_230 (by decide) (fun _ => ?_) (fun h => absurd ge h)
        refine V_aload_n C dL_law_235 rfl 2 rfl ?_
        refine V_iconst (v := 0) C dL_law_236 (by decide) ?_
        refine V_dup2 C dL_law_237 rfl rfl ?_
        refine Vm_iald C 20 0 rfl rfl (by unfold vp_in; decide) dL_law_238 ?_
        refine V_iload C dL_law_239 10 rfl ?_
        refine V_iadd C dL_law_241 ?_
        refine Vm_iast C 20 0 rfl rfl (by unfold vp_in; decide) wC_s20 dL_law_242 ?_
        refine V_sub (ls' := [(0, .ref b), (1, .ref (ad 0)), (2, .ref (ad 20)), (3, .int (nI t)), (6, .int (nI us))]) [0, 1, 2, 3, 6] rfl ?_
        exact law_tail C ht hus K gM
      ·
        refine V_aload_n C dL_law_164 rfl 1 rfl ?_
        refine V_iload C dL_law_165 5 rfl ?_
        refine V_iconst (v := 4) C dL_law_167 (by decide) ?_
        refine V_cSi2 C xN_ok (kL_at u _ _ (by decide)) (va_cwS 2 C.2.2.1 gL_law_L_at rfl rfl rfl hdL_at ⟨Nat.le_of_ble_eq_true rfl, Nat.le_of_ble_eq_true rfl⟩) (Nat.le_of_ble_eq_true rfl) ⟨(Nat.le_of_ble_eq_true rfl), (Nat.le_of_ble_eq_true rfl)⟩ dL_law_168 ?_
        refine V_top (fun z hz => ?_)
        obtain ⟨q, hq, eq⟩ := at_nI y (n := 4) (by decide) (by decide)
        obtain rfl : z = nI q := hz.symm.trans eq
        clear hz
        refine V_iload C dL_law_171 5 rfl ?_
        refine V_iconst (v := 3) C dL_law_173 (by decide) ?_
        refine V_ishr C dL_law_174 ?_
        refine V_bipush (v := 30) C dL_law_175 (by decide) ?_
        refine V_cSi2 C xN_ok (kL_at u _ _ (by decide)) (va_cwS 2 C.2.2.1 gL_law_L_at rfl rfl rfl hdL_at ⟨Nat.le_of_ble_eq_true rfl, Nat.le_of_ble_eq_true rfl⟩) (Nat.le_of_ble_eq_true rfl) ⟨(Nat.le_of_ble_eq_true rfl), (Nat.le_of_ble_eq_true rfl)⟩ dL_law_177 ?_
        refine V_top (fun z hz => ?_)
        obtain ⟨g, hg, eg⟩ := at_nI (y >>> (3 &&& 31)) (n := 30) (by decide) (by decide)
        obtain rfl : z = nI g := hz.symm.trans eg
        clear hz
        obtain ⟨gx, gM, ge⟩ := MD_price (us := us) (p := g) hq (by omega) hI
        refine V_cVi2 C xN_ok (kX1_setPrice _ _ _ gx) (cwV 2 C.2.2.1 gL_law_X1_setPrice rfl rfl rfl hvX1_setPrice ⟨Nat.le_of_ble_eq_true rfl, Nat.le_of_ble_eq_true rfl⟩) 0 rfl rfl (Nat.le_of_ble_eq_true rfl) ⟨(Nat.le_of_ble_eq_true rfl), (Nat.le_of_ble_eq_true rfl)⟩ dL_law_180 ?_
        refine V_if_ge (tgt := 243) C dL_law_183 (by decide) (fun _ => ?_) (fun h => absurd ge h)
        refine V_sub (ls' := [(0, .ref b), (1, .ref (ad 0)), (2, .ref (ad 20)), (3, .int (nI t)), (6, .int (nI us))]) [0, 1, 2, 3, 6] rfl ?_
        exact law_tail C ht hus K gM
    ·
      refine V_aload_n C dL_law_116 rfl 1 rfl ?_
      refine V_cSi1 C xN_ok (kL_marked _ hI.1.2.2.2.1) (va_cwS 1 C.2.2.1 gL_law_L_marked rfl rfl rfl hdL_marked ⟨Nat.le_of_ble_eq_true rfl, Nat.le_of_ble_eq_true rfl⟩) (Nat.le_of_ble_eq_true rfl) ⟨(Nat.le_of_ble_eq_true rfl), (Nat.le_of_ble_eq_true rfl)⟩ dL_law_117 ?_
      refine V_top (fun mk hmk => ?_)
      refine V_istore (ls' := [(0, .ref b), (1, .ref (ad 0)), (2, .ref (ad 20)), (3, .int (nI t)), (4, .int x), (5, .int y), (6, .int (nI us)), (7, .int act), (8, .int mk)]) C dL_law_120 (by decide) rfl rfl ?_
      obtain ⟨gk, gx, gM, g, hg, eg, gz⟩ := MD_refresh ht hus hI
      refine V_aload_n C dL_law_122 rfl 1 rfl ?_
      refine V_iload C dL_law_123 6 rfl ?_
      refine V_cVi1 C xN_ok (kX1_refresh _ _ gk gx) (cwV 1 C.2.2.1 gL_law_X1_refresh rfl rfl rfl hvX1_refresh ⟨Nat.le_of_ble_eq_true rfl, Nat.le_of_ble_eq_true rfl⟩) 0 rfl rfl (Nat.le_of_ble_eq_true rfl) ⟨(Nat.le_of_ble_eq_true rfl), (Nat.le_of_ble_eq_true rfl)⟩ dL_law_125 ?_
      refine V_top (fun z hz => ?_)
      obtain rfl : z = nI g := hz.symm.trans eg
      clear hz
      refine V_istore (ls' := [(0, .ref b), (1, .ref (ad 0)), (2, .ref (ad 20)), (3, .int (nI t)), (4, .int x), (5, .int y), (6, .int (nI us)), (7, .int act), (8, .int mk), (9, .int (nI g))]) C dL_law_128 (by decide) rfl rfl ?_
      refine V_iload C dL_law_130 9 rfl ?_
      refine V_if_lt (tgt := 152) C dL_law_132 (by decide) (fun h => absurd h (nI_pos (by omega))) (fun _ => ?_)
      refine V_iload C dL_law_135 9 rfl ?_
      refine V_bipush (v := 24) C dL_law_137 (by decide) ?_
      refine V_icmp_gt (tgt := 152) C dL_law_139 (by decide) (fun h => absurd h (nI_nlt (a := 24) hg (by decide))) (fun _ => ?_)
      have hgo : V p l e room_1 s m #[Value.ref b] below meth c D vwCl A (wC cI cZ ad) 11 21 1383 (lw_Z below #[Value.ref b] s) (uX1_refresh u (nI us)) 154 [(0, .ref b), (1, .ref (ad 0)), (2, .ref (ad 20)), (3, .int (nI t)), (4, .int x), (5, .int y), (6, .int (nI us)), (7, .int act), (8, .int mk), (9, .int (nI g))] [] := by
        refine V_goto (tgt := 243) C dL_law_154 (by decide) ?_
        refine V_sub (ls' := [(0, .ref b), (1, .ref (ad 0)), (2, .ref (ad 20)), (3, .int (nI t)), (6, .int (nI us))]) [0, 1, 2, 3, 6] rfl ?_
        exact law_tail C ht hus K gM
      refine V_iload C dL_law_142 8 rfl ?_
      refine V_if_ne (tgt := 154) C dL_law_144 (by decide) (fun _ => hgo) (fun h => ?_)
      have g0 : g = 0 := gz (hmk.trans h)
      refine V_iload C dL_law_147 9 rfl ?_
      exact V_if_eq (tgt := 154) C dL_law_149 (by decide) (fun _ => hgo) (fun h => absurd (by rw [g0]; exact nI_0) h)
  ·
    obtain ⟨gg, gM, g, hg, eg⟩ := MD_give ht hus (x >>> (6 &&& 31)) y hI
    refine V_aload_n C dL_law_77 rfl 1 rfl ?_
    refine V_iload C dL_law_78 4 rfl ?_
    refine V_bipush (v := 6) C dL_law_80 (by decide) ?_
    refine V_ishr C dL_law_82 ?_
    refine V_iload C dL_law_83 5 rfl ?_
    refine V_iload C dL_law_85 6 rfl ?_
    refine V_cSi4 C xN_ok (kL_give _ _ _ _ gg) (va_cwS 4 C.2.2.1 gL_law_L_give rfl rfl rfl hdL_give ⟨Nat.le_of_ble_eq_true rfl, Nat.le_of_ble_eq_true rfl⟩) (Nat.le_of_ble_eq_true rfl) ⟨(Nat.le_of_ble_eq_true rfl), (Nat.le_of_ble_eq_true rfl)⟩ dL_law_87 ?_
    refine V_top (fun z hz => ?_)
    obtain rfl : z = nI (g + 1) := hz.symm.trans eg
    clear hz
    refine V_istore (ls' := [(0, .ref b), (1, .ref (ad 0)), (2, .ref (ad 20)), (3, .int (nI t)), (4, .int x), (5, .int y), (6, .int (nI us)), (7, .int act), (8, .int (nI (g + 1)))]) C dL_law_90 (by decide) rfl rfl ?_
    refine V_iload C dL_law_92 8 rfl ?_
    refine V_iconst (v := 1) C dL_law_94 (by decide) ?_
    refine V_icmp_lt (tgt := 105) C dL_law_95 (by decide) (fun h => absurd h (nI_nlt (b := 1) (by omega) (by omega))) (fun _ => ?_)
    refine V_iload C dL_law_98 8 rfl ?_
    refine V_bipush (v := 24) C dL_law_100 (by decide) ?_
    refine V_icmp_le (tgt := 107) C dL_law_102 (by decide) (fun _ => ?_) (fun h => absurd (show nI (g + 1) ≤ (24 : Int32) from nI_le (b := 24) (by omega) (by decide)) h)
    refine V_goto (tgt := 243) C dL_law_107 (by decide) ?_
    refine V_sub (ls' := [(0, .ref b), (1, .ref (ad 0)), (2, .ref (ad 20)), (3, .int (nI t)), (6, .int (nI us))]) [0, 1, 2, 3, 6] rfl ?_
    exact law_tail C ht hus K gM
set_option maxHeartbeats 4000000 in
theorem law_loop (C : vC p s m #[Value.ref b] meth c D vwCl (tyF cI cZ) xN A (wC cI cZ ad) cL_law RL wsL_law 11 (some .boolean)) (hX : va_X b L xs s s.heap) (hbl : b < s.heap.size) (hbA : ¬ A b) (hL : L ≤ 260) (hAs : ∀ q, A q → s.heap.size ≤ q) : ∀ (n t : Nat), t + n = 40 → ∀ u : vM, IV t u → V p l e room_1 s m #[Value.ref b] below meth c D vwCl A (wC cI cZ ad) 11 21 1383 (lw_Z below #[Value.ref b] s) u 20 [(0, .ref b), (1, .ref (ad 0)), (2, .ref (ad 20)), (3, .int (nI t))] [] := by
  intro n
  induction n with
  | zero =>
    intro t ht u hI
    obtain rfl : t = 40 := by omega
    refine V_iload_n C dL_law_20 rfl 3 rfl ?_
    refine V_bipush (v := 40) C dL_law_21 (by decide) ?_
    refine V_icmp_ge (tgt := 283) C dL_law_23 (by decide) (fun _ => ?_) (fun h => absurd (by decide : (40 : Int32) ≤ nI 40) h)
    refine V_iconst (v := 1) C dL_law_283 (by decide) ?_
    intro H locs la hP hS hl
    refine va_forget (fun q hq => hAs _ (hS.2.2 q hq)) ?_
    refine W.widen (k := 126) (n := 2185) (by omega) (by omega) ?_
    exact lw_ret C.1 C.2.1 C.2.2.2.2.2.2.2.2.2.1 C.2.2.2.2.2.2.2.2.1 dL_law_284
  | succ n ih =>
    intro t ht u hI
    have K : lNext p l e s m below meth c D cI cZ ad b A t := fun v hv => ih (t + 1) (by omega) v hv
    refine V_iload_n C dL_law_20 rfl 3 rfl ?_
    refine V_bipush (v := 40) C dL_law_21 (by decide) ?_
    refine V_icmp_ge (tgt := 283) C dL_law_23 (by decide) (fun h => absurd h (nI_ge (b := 40) (by omega) (by decide))) (fun _ => ?_)
    refine V_aload_n C dL_law_26 rfl 0 rfl ?_
    refine V_iconst (v := 2) C dL_law_27 (by decide) ?_
    refine V_iload_n C dL_law_28 rfl 3 rfl ?_
    refine V_imul C dL_law_29 ?_
    refine V_top (fun z hz => ?_)
    obtain rfl : z = nI (2 * t) := hz.symm.trans (pk_mul 2 t)
    clear hz
    refine V_callSc C xN_ok hX hbl hbA (kL_cell hL _ (nI_pos (by omega))) (va_cwS 2 C.2.2.1 gL_law_L_cell rfl rfl rfl hdL_cell ⟨Nat.le_of_ble_eq_true rfl, Nat.le_of_ble_eq_true rfl⟩) (Nat.le_of_ble_eq_true rfl) ⟨(Nat.le_of_ble_eq_true rfl), (Nat.le_of_ble_eq_true rfl)⟩ dL_law_30 ?_
    refine V_ldc (v := 2147483647) C hkL_law_76 dL_law_33 ?_
    refine V_iand C dL_law_35 ?_
    refine V_top (fun x _ => ?_)
    refine V_istore (ls' := [(0, .ref b), (1, .ref (ad 0)), (2, .ref (ad 20)), (3, .int (nI t)), (4, .int x)]) C dL_law_36 (by decide) rfl rfl ?_
    refine V_aload_n C dL_law_38 rfl 0 rfl ?_
    refine V_iconst (v := 2) C dL_law_39 (by decide) ?_
    refine V_iload_n C dL_law_40 rfl 3 rfl ?_
    refine V_imul C dL_law_41 ?_
    refine V_iconst (v := 1) C dL_law_42 (by decide) ?_
    refine V_iadd C dL_law_43 ?_
    refine V_top (fun z hz => ?_)
    obtain rfl : z = nI (2 * t + 1) := hz.symm.trans ((congrArg (· + 1) (pk_mul 2 t)).trans (nI_1 (2 * t)))
    clear hz
    refine V_callSc C xN_ok hX hbl hbA (kL_cell hL _ (nI_pos (by omega))) (va_cwS 2 C.2.2.1 gL_law_L_cell rfl rfl rfl hdL_cell ⟨Nat.le_of_ble_eq_true rfl, Nat.le_of_ble_eq_true rfl⟩) (Nat.le_of_ble_eq_true rfl) ⟨(Nat.le_of_ble_eq_true rfl), (Nat.le_of_ble_eq_true rfl)⟩ dL_law_44 ?_
    refine V_ldc (v := 2147483647) C hkL_law_76 dL_law_47 ?_
    refine V_iand C dL_law_49 ?_
    refine V_top (fun y _ => ?_)
    refine V_istore (ls' := [(0, .ref b), (1, .ref (ad 0)), (2, .ref (ad 20)), (3, .int (nI t)), (4, .int x), (5, .int y)]) C dL_law_50 (by decide) rfl rfl ?_
    refine V_iload C dL_law_52 4 rfl ?_
    refine V_iconst (v := 3) C dL_law_54 (by decide) ?_
    refine V_ishr C dL_law_55 ?_
    refine V_iconst (v := 5) C dL_law_56 (by decide) ?_
    refine V_cSi2 C xN_ok (kL_at u _ _ (by decide)) (va_cwS 2 C.2.2.1 gL_law_L_at rfl rfl rfl hdL_at ⟨Nat.le_of_ble_eq_true rfl, Nat.le_of_ble_eq_true rfl⟩) (Nat.le_of_ble_eq_true rfl) ⟨(Nat.le_of_ble_eq_true rfl), (Nat.le_of_ble_eq_true rfl)⟩ dL_law_57 ?_
    refine V_top (fun z hz => ?_)
    obtain ⟨us, hus, eus⟩ := at_nI (x >>> (3 &&& 31)) (n := 5) (by decide) (by decide)
    obtain rfl : z = nI us := hz.symm.trans eus
    clear hz
    refine V_istore (ls' := [(0, .ref b), (1, .ref (ad 0)), (2, .ref (ad 20)), (3, .int (nI t)), (4, .int x), (5, .int y), (6, .int (nI us))]) C dL_law_60 (by decide) rfl rfl ?_
    refine V_iload C dL_law_62 4 rfl ?_
    refine V_bipush (v := 8) C dL_law_64 (by decide) ?_
    refine V_cSi2 C xN_ok (kL_at u _ _ (by decide)) (va_cwS 2 C.2.2.1 gL_law_L_at rfl rfl rfl hdL_at ⟨Nat.le_of_ble_eq_true rfl, Nat.le_of_ble_eq_true rfl⟩) (Nat.le_of_ble_eq_true rfl) ⟨(Nat.le_of_ble_eq_true rfl), (Nat.le_of_ble_eq_true rfl)⟩ dL_law_66 ?_
    refine V_top (fun act _ => ?_)
    refine V_istore (ls' := [(0, .ref b), (1, .ref (ad 0)), (2, .ref (ad 20)), (3, .int (nI t)), (4, .int x), (5, .int y), (6, .int (nI us)), (7, .int act)]) C dL_law_69 (by decide) rfl rfl ?_
    exact law_act C (by omega) hus K hI x y act
end
section
theorem ls_nW : ∀ w ∈ nWords, w ∈ lw_tbl := by decide +kernel
theorem ls_nT : ∀ w ∈ nWords, w.onTables = true := by decide +kernel
theorem ls_i0 : Cond.instantiable RX0 8 ∈ lw_tbl := by decide +kernel
theorem ls_i1 : Cond.instantiable RX1 12 ∈ wsL_law := by decide +kernel
theorem ls_aI : Cond.arrayClass .int ∈ wsL_law := by decide +kernel
theorem ls_aZ : Cond.arrayClass .boolean ∈ lw_tbl := by decide +kernel
theorem ls_c1 : Cond.classLink RL 9 RX1 ∈ wsL_law := by decide +kernel
theorem ls_n1 : Cond.initialized RX1 ∈ wsL_law := by decide +kernel
theorem ls_m1 : Cond.methodLink RL 71 yX1_init ∈ wsL_law := by decide +kernel
theorem ls_o1 : Cond.instanceMethod yX1_init ∈ wsL_law := by decide +kernel
theorem ls_xN {args : Array Value} {s : State} (hts : ∀ w ∈ lw_tbl, w.before args s = true) : xN s := fun w hw => va_Nw.of (ls_nT w hw) (hts w (ls_nW w hw))
/-- the places of the object's cells, and of the law's own numbers -/
def ad1 (ad : Nat → Nat) (q : Nat) : Nat → Nat := fun i => cond (Nat.beq i 20) q (ad i)
theorem wC_of (cI cZ : ClassId) (ad : Nat → Nat) (q : Nat) (u : vM) : ([] ++ wK cI cZ ad u) ++ [(q, .inl (cI, 2, .inl (fun _ => 0)))] = wC cI cZ (ad1 ad q) (mR u 20 (fun _ => 0)) := rfl
theorem wC_ad (cI cZ : ClassId) (ad : Nat → Nat) (q : Nat) (u v : vM) : (([] ++ wK cI cZ ad u) ++ [(q, (.inl (cI, 2, .inl (fun _ => 0)) : va_E))]).map Prod.fst = (wC cI cZ (ad1 ad q) v).map Prod.fst := rfl
set_option maxHeartbeats 1000000 in
set_option maxRecDepth 100000 in
/-- THE LAW, from its entry -/
theorem whole_start {p : Program} {e : Env} {s : State} {m : MethodId} {below : List Frame} {meth : Method} {c : Code} (l : Launch) (hflags : l.flags = flags0) {b L : Nat} {xs : Nat → Int32} (hL : L ≤ 260) (C0 : lw_At p s m meth c b L xs) : W p l e room_1 s m #[Value.ref b] below meth c s.heap [] 0 0 (lw_Z below #[Value.ref b] s) (entryFrame m ([Value.ref b] : List Value).toArray 11) := by
  obtain ⟨hx, hb, hr, hml, hown, hts0, hX, hbl, hlocks, hgv⟩ := id C0
  have hts : ∀ w ∈ wsL_law, w.before #[Value.ref b] s = true := fun w h => hts0 w (wsL_law_in w h)
  have hbA : ¬ (fun q : Nat => s.heap.size ≤ q) b := Nat.not_le.mpr hbl
  obtain ⟨c0, iS0, hKn0⟩ := u_known (C := RX0) (T := TX0) (N := 8) (n := 8) hts inlX0 (hts0 _ ls_i0)
  obtain ⟨c1, iS1, hKn1⟩ := u_known (C := RX1) (T := TX1) (N := 12) (n := 12) hts inlX1 (hts _ ls_i1)
  obtain ⟨D, hKc⟩ : ∃ D : va_G, ∀ (k : Nat) (q : vw_C), vwCl[k]? = some q → u_Kn s q.1 q.2.1 q.2.2 (D.1 k) (D.2 k) := by
    refine ⟨(fun k => if k = 0 then c0 else c1, fun k => if k = 0 then iS0 else iS1), ?_⟩
    intro k q hq
    match k, hq with
    | 0, hq => cases hq; exact hKn0
    | 1, hq => cases hq; exact hKn1
    | k + 2, hq => simp [vwCl] at hq
  obtain ⟨cI, kI, compI, hI1, hI2, hI3⟩ := Cond.arrayClass_spec (hts _ ls_aI)
  obtain ⟨cZ, kZ, compZ, hZ1, hZ2, hZ3⟩ := Cond.arrayClass_spec (hts0 _ ls_aZ)
  have hK : va_K D vwCl (tyF cI cZ) s := by
    refine ⟨hKc, fun k q hq => ?_⟩
    match k, hq with
    | 0, hq => cases hq; exact ⟨fun n z => ⟨fun k h => (by cases h), kI, hI2, compI, hI3⟩, hI1⟩
    | 1, hq => cases hq; exact ⟨fun n z => ⟨fun k h => (by cases h), kZ, hZ2, compZ, hZ3⟩, hZ1⟩
    | k + 2, hq => simp [tyF] at hq
  have C : vC p s m #[Value.ref b] meth c D vwCl (tyF cI cZ) xN (fun q : Nat => s.heap.size ≤ q) (uW []) cL_law RL wsL_law 11 (some .boolean) :=
    ⟨hx, hb, hts, hown, hK, fun _ => ⟨fun i j p q h => by simp at h, fun k q h => by simp at h⟩, fun _ h => h, hml, hlocks, hr, ls_xN hts0⟩
  have hl := lv_entry [.ref b] (n := 11) (Nat.le_of_ble_eq_true rfl)
  rw [lg_entry_eq]
  have hV : V p l e room_1 s m #[Value.ref b] below meth c D vwCl (fun q : Nat => s.heap.size ≤ q) (uW []) 11 0 0 (lw_Z below #[Value.ref b] s) () 0 (lv_args 0 [.ref b]) [] := by
    refine V_ls (ls' := [(0, .ref b)]) rfl ?_
    refine V_new (ci := 1) (fs := [.null, .null, .null, .null, .null, .null, .null, .null, .null, .null, .null, .null]) C inlX1 tyX1 tyX1_ok ls_c1 ls_i1 ls_n1 rfl (fun j hj => by rcases (show j = 0 ∨ j = 1 ∨ j = 2 ∨ j = 3 ∨ j = 4 ∨ j = 5 ∨ j = 6 ∨ j = 7 ∨ j = 8 ∨ j = 9 ∨ j = 10 ∨ j = 11 by omega) with rfl | rfl | rfl | rfl | rfl | rfl | rfl | rfl | rfl | rfl | rfl | rfl <;> rfl) (Nat.le_of_ble_eq_true rfl) (Nat.le_of_ble_eq_true rfl) dL_law_0 (fun q1 C => ?_)
    refine V_dup C dL_law_3 rfl ?_
    refine V_ctorI (i0 := 0) (Post := fun ad => wK cI cZ ad uX1_init) C xN_ok id (tys' := tyF cI cZ) ⟨[0, 1], rfl⟩ (kX1_init q1) (cwI 0 C.2.2.1 gL_law_X1_init rfl rfl rfl (C.2.2.1 _ ls_n1) (C.2.2.1 _ ls_m1) (C.2.2.1 _ ls_o1) rfl hdX1_init ⟨Nat.le_of_ble_eq_true rfl, Nat.le_of_ble_eq_true rfl⟩) [] [] rfl rfl rfl (by decide) (Nat.le_of_ble_eq_true rfl) ⟨Nat.le_of_ble_eq_true rfl, Nat.le_of_ble_eq_true rfl⟩ dL_law_4 (fun ad had C2 => ?_)
    subst had
    have C := C2
    refine V_astore_n (ls' := [(0, .ref b), (1, .ref (ad 0))]) C dL_law_7 rfl (by decide) rfl rfl ?_
    refine V_iconst (v := 2) C dL_law_8 (by decide) ?_
    refine V_newa (atype := .int) (ty := .int) (a0 := (2, .inl (fun _ => 0))) C rfl ls_aI 0 rfl (fun _ => rfl) (by decide) (by decide) (Nat.le_of_ble_eq_true rfl) (Nat.le_of_ble_eq_true rfl) (Nat.le_of_ble_eq_true rfl) dL_law_9 (fun q9 C => ?_)
    have C3 : vC p s m #[Value.ref b] meth c D vwCl (tyF cI cZ) xN (fun q : Nat => s.heap.size ≤ q) (wC cI cZ (ad1 ad q9)) cL_law RL wsL_law 11 (some .boolean) := vC_w C (fun u => va_D.addr (C.2.2.2.2.2.1 ()) (wC_ad cI cZ ad q9 uX1_init u))
    refine V_astore_n (ls' := [(0, .ref b), (1, .ref (ad1 ad q9 0)), (2, .ref (ad1 ad q9 20))]) C dL_law_11 rfl (by decide) rfl rfl ?_
    refine V_conv (w := wC cI cZ (ad1 ad q9)) (u := mR uX1_init 20 (fun _ => 0)) (wC_of cI cZ ad q9 uX1_init) ?_
    refine V_aload_n C3 dL_law_12 rfl 2 rfl ?_
    refine V_iconst (v := 0) C3 dL_law_13 (by decide) ?_
    refine V_sipush (v := 400) C3 dL_law_14 (by decide) ?_
    refine Vm_iast C3 20 0 rfl rfl (by unfold vp_in; decide) wC_s20 dL_law_17 ?_
    refine V_iconst (v := nI 0) C3 dL_law_18 (by decide) ?_
    refine V_istore_n (ls' := [(0, .ref b), (1, .ref (ad1 ad q9 0)), (2, .ref (ad1 ad q9 20)), (3, .int (nI 0))]) C3 dL_law_19 rfl (by decide) rfl rfl ?_
    exact law_loop C3 hX hbl hbA hL (fun _ h => h) 40 0 rfl uM0 IV_0
  exact hV s.heap [] _ (fun k q h => by simp at h) va_S.rf hl
end
section
-- ===== YOUR PART ENDS =====
set_option maxHeartbeats 4000000 in
theorem lw_walk (l : Launch) (hflags : l.flags = flags0) (b : Addr) (xs : List Int32) : MetFree l x (headSpec (Jvm.Cond.code x code maxLocals ret :: tables_1) room_1) (lw_P b xs) (fun _ _ _ _ _ => True) lw_Q := by
  refine MetFree.of_bodyS (code := code) (maxLocals := maxLocals) (ret := ret) (by decide) ?_ ?_
  · intro args s m h hn
    obtain ⟨meth, c, h1, h2, h3, h4, h5, h6, -, -⟩ := Cond.code_spec hn (atoms_spec (ws := Jvm.Cond.code x code maxLocals ret :: tables_1) h _ List.mem_cons_self)
    exact ⟨meth, c, h1, h2, h3, h4, h5, h6⟩
  · intro p e s m args below meth c s₁ B hml0 hP _
    obtain ⟨rfl, hx, hbd, hgv⟩ := hP
    obtain ⟨scr, harrAt, hlist, hof, hsmall⟩ := hx
    obtain ⟨hcb, hkn, -, -⟩ := State.arrayAt?_spec harrAt
    have hown : s.vm.findClass R_law = some m.cls := findClass_of_methodNamed B.named
    have hts0 : ∀ c ∈ (Jvm.Cond.code x code maxLocals ret :: tables_1), c.before #[Value.ref b] s = true := atoms_spec (ws := Jvm.Cond.code x code maxLocals ret :: tables_1) B.pre
    have hts : ∀ w ∈ lw_tbl, w.before #[Value.ref b] s = true := k2_hts_sels lw_privs (fun w hw => hts0 w (List.mem_cons_of_mem _ hw)) lw_privs_ok
    have hml : c.maxLocals = 11 := B.maxLocals_eq (hts0 _ List.mem_cons_self)
    have X₀ : Stand p l e room_1 s m #[Value.ref b] below meth c s₁ [] 0 0 := Stand.of_body B
    have hh0 : s₁.heap = s.heap := by rw [B.state]; rfl
    have hsz : scr.slots.size = xs.length := by rw [← Array.length_toList, hlist, List.length_map]
    have hval : ∀ j : Nat, j < xs.length → scr.slots[j]? = some (.int (xs.getD j 0)) := fun j hj => by
      rw [← Array.getElem?_toList, hlist]
      simp [hj]
    have hbl : b < s.heap.size := (Array.getElem?_eq_some_iff.mp hcb).1
    have hX : va_X b xs.length (fun j => xs.getD j 0) s s.heap := ⟨scr, hcb, hof, hkn, hsz, hval⟩
    have K : W p l e room_1 s m #[Value.ref b] below meth c s₁.heap [] 0 0 (lw_Z below #[Value.ref b] s) (entryFrame m ([Value.ref b] : List Value).toArray 11) := by
      rw [hh0]
      exact whole_start l hflags hbd ⟨B.exec, B.bytes, B.returns, hml, hown, hts, hX, hbl, B.notSynchronized, hgv⟩
    obtain ⟨t, a1, o, b1, b2, b3⟩ := K s₁ rfl X₀
    exact ⟨t, o, a1, b1, b2, b3⟩
theorem lw_pre_spec {args : Array Value} {s : State} (h : (Jvm.Cond.and given_1 narrow_1).before args s = true) (hr : rest_1_c.before args s = true) : ∃ (b : Addr) (xs : List Int32), lw_P b xs args s := by
  have hs := flat_of_before _ h
  have hq := flat_of_before _ hr
  have hc : (Cond.count 1).before args s = true := hs _ (by decide +kernel)
  have harr : (Cond.arrayOf (.arg 0) .int).before args s = true := hs _ (by decide +kernel)
  have hle : (Cond.le (.length (.arg 0)) (.int 260)).before args s = true := hs _ (by decide +kernel)
  have hlen : (Cond.isInt (.length (.arg 0))).before args s = true := hq _ (by decide +kernel)
  have hall : (Cond.all (.arg 0) (.isInt (.elem (.arg 0) (.index 0)))).before args s = true := hq _ (by decide +kernel)
  obtain ⟨b, xs, hb, hx⟩ := State.ints_of_pre rfl harr hlen hall
  have hsm : xs.length < 2 ^ 31 := hx.choose_spec.2.2.2
  have hev : (Term.length (.arg 0)).eval args s none [] s = some (.int xs.length.toInt32) := hx.length_eval hb
  have hv := Cond.le_ints hev (show (Term.int 260).eval args s none [] s = some (.int 260) from rfl)
  have hd : xs.length.toInt32 ≤ 260 := by
    simpa [Cond.before, Cond.holds, hv] using hle
  have hN : xs.length ≤ 260 := (Int32.ofNat_le_ofNat hsm (by decide)).mp (show Int32.ofNat xs.length ≤ Int32.ofNat 260 from hd)
  exact ⟨b, xs, Cond.one_arg hc (show args[0]? = some (.ref b) from hb), hx, hN, h⟩
theorem lw_comes (l : Launch) (hflags : l.flags = flags0) : Comes l x (Jvm.Cond.code x code maxLocals ret :: tables_1) room_1 (fun tb e args s => Calls_1 tb e args s ∧ rest_1 tb e args s ∧ Pre_1 tb e args s)
    (fun _ _ args s o t => lw_Q args s o t) := by
  intro p e ha hc hk s m args below hf hfit hheap happ hpre
  obtain ⟨b, xs, hP⟩ := lw_pre_spec hpre.2.2 hpre.2.1
  obtain ⟨k, o, h1, h2, h3, hQ⟩ := lw_walk l hflags b xs p e ha hc hk s m args below hf ((Spec.applies_iff_loose hf).mp happ).1 hP trivial
  exact ⟨k, o, h1, h2, h3, hQ⟩
theorem lw_frame {s t : State} {o : Outcome} {args : Array Value} (h : Framed s o t [] 126 2185) :
    Framed s o t (fieldLocs frame_1_writes args s ++ arrayLocs frame_1_arrays args s ++ staticLocs frame_1_statics s) 126 2185 := h
theorem lw_limb (L : Cond) (hL : ∀ (args : Array Value) (s t : State), L.after args s (.returned (some (.int 1))) t = true) :
    ArmFor flags0 classFile x code maxLocals ret World_1 tables_1 room_1 Calls_1 rest_1 Pre_1
      (fun tb e a s o t => postC L tb e a s o t ∧ Framed s o t (fieldLocs frame_1_writes a s ++ arrayLocs frame_1_arrays a s ++ staticLocs frame_1_statics s) 126 2185) := by
  intro l hflags _ _ p e ha hc hk s m args below hf hfit hheap happ hpre
  obtain ⟨k, o, h1, h2, h3, rfl, hF⟩ := lw_comes l hflags p e ha hc hk s m args below hf hfit hheap happ hpre
  exact ⟨k, _, h1, h2, h3, hL args s _, lw_frame hF⟩
theorem i_vc : Claimed_1_1 ∧ Claimed_1_2 := ⟨lw_limb limb_1_1 (fun args s t => by simp [limb_1_1, Cond.after, Cond.holds, Cond.value]), lw_limb limb_1_2 (fun args s t => Cond.after_iff.mpr (by
  first | (rw [show limb_1_2 = Cond.eq .result (.int 1) from rfl, Cond.eq_ints (x := 1) (y := 1) rfl rfl]; simp; done) | (simp [limb_1_2, Cond.value, Term.eval]; done)))⟩
end
