section
-- ===== PART A: goes FIRST, ahead of the names: the tables' words, and 'selects' of the private methods out of them =====
/-- a private method of a class that the tables say can be made, by its rows of tables_1 -/
def lw_okq (q : MethodName × Nat) : Prop := (q.1.cls ≠ "java/lang/invoke/MethodHandle" ∧ q.1.cls ≠ "java/lang/invoke/VarHandle") ∧ Cond.instantiable q.1.cls q.2 ∈ tables_1 ∧ Cond.privateMethod q.1 ∈ tables_1 ∧ Cond.instanceMethod q.1 ∈ tables_1
theorem lw_p0 : lw_okq (⟨"java/lang/Throwable", "fillInStackTrace", "(I)Ljava/lang/Throwable;"⟩, 6) := ⟨⟨by decide +kernel, by decide +kernel⟩, List.mem_of_getElem? (i := 158) (by decide +kernel), List.mem_of_getElem? (i := 156) (by decide +kernel), List.mem_of_getElem? (i := 157) (by decide +kernel)⟩
theorem lw_p1 : lw_okq (⟨"MeteredSheets", "giveFormula", "(IIIIII)I"⟩, 12) := ⟨⟨by decide +kernel, by decide +kernel⟩, List.mem_of_getElem? (i := 12) (by decide +kernel), List.mem_of_getElem? (i := 188) (by decide +kernel), List.mem_of_getElem? (i := 189) (by decide +kernel)⟩
theorem lw_p2 : lw_okq (⟨"MeteredSheets", "putInOrder", "()V"⟩, 12) := ⟨⟨by decide +kernel, by decide +kernel⟩, List.mem_of_getElem? (i := 12) (by decide +kernel), List.mem_of_getElem? (i := 192) (by decide +kernel), List.mem_of_getElem? (i := 193) (by decide +kernel)⟩
theorem lw_p3 : lw_okq (⟨"MeteredSheets", "lowestFreeCell", "()I"⟩, 12) := ⟨⟨by decide +kernel, by decide +kernel⟩, List.mem_of_getElem? (i := 12) (by decide +kernel), List.mem_of_getElem? (i := 196) (by decide +kernel), List.mem_of_getElem? (i := 197) (by decide +kernel)⟩
theorem lw_p4 : lw_okq (⟨"MeteredSheets", "isReady", "(I)Z"⟩, 12) := ⟨⟨by decide +kernel, by decide +kernel⟩, List.mem_of_getElem? (i := 12) (by decide +kernel), List.mem_of_getElem? (i := 200) (by decide +kernel), List.mem_of_getElem? (i := 201) (by decide +kernel)⟩
theorem lw_p5 : lw_okq (⟨"MeteredSheets", "forgetChanges", "()V"⟩, 12) := ⟨⟨by decide +kernel, by decide +kernel⟩, List.mem_of_getElem? (i := 12) (by decide +kernel), List.mem_of_getElem? (i := 207) (by decide +kernel), List.mem_of_getElem? (i := 208) (by decide +kernel)⟩
theorem lw_p6 : lw_okq (⟨"MeteredSheets", "compute", "(II)V"⟩, 12) := ⟨⟨by decide +kernel, by decide +kernel⟩, List.mem_of_getElem? (i := 12) (by decide +kernel), List.mem_of_getElem? (i := 211) (by decide +kernel), List.mem_of_getElem? (i := 212) (by decide +kernel)⟩
theorem lw_p7 : lw_okq (⟨"MeteredSheets$Ledger", "paysFor", "(IIII)Z"⟩, 8) := ⟨⟨by decide +kernel, by decide +kernel⟩, List.mem_of_getElem? (i := 20) (by decide +kernel), List.mem_of_getElem? (i := 221) (by decide +kernel), List.mem_of_getElem? (i := 222) (by decide +kernel)⟩
theorem lw_p8 : lw_okq (⟨"MeteredSheets$Ledger", "costOf", "(I)I"⟩, 8) := ⟨⟨by decide +kernel, by decide +kernel⟩, List.mem_of_getElem? (i := 20) (by decide +kernel), List.mem_of_getElem? (i := 226) (by decide +kernel), List.mem_of_getElem? (i := 227) (by decide +kernel)⟩
theorem lw_p9 : lw_okq (⟨"MeteredSheets$Ledger", "enter", "(III)V"⟩, 8) := ⟨⟨by decide +kernel, by decide +kernel⟩, List.mem_of_getElem? (i := 20) (by decide +kernel), List.mem_of_getElem? (i := 231) (by decide +kernel), List.mem_of_getElem? (i := 232) (by decide +kernel)⟩
theorem lw_p10 : lw_okq (⟨"MeteredSheets", "resultOf", "(I[I)I"⟩, 12) := ⟨⟨by decide +kernel, by decide +kernel⟩, List.mem_of_getElem? (i := 12) (by decide +kernel), List.mem_of_getElem? (i := 235) (by decide +kernel), List.mem_of_getElem? (i := 236) (by decide +kernel)⟩
theorem lw_p11 : lw_okq (⟨"MeteredSheets", "goThrough", "(IZ)I"⟩, 12) := ⟨⟨by decide +kernel, by decide +kernel⟩, List.mem_of_getElem? (i := 12) (by decide +kernel), List.mem_of_getElem? (i := 252) (by decide +kernel), List.mem_of_getElem? (i := 253) (by decide +kernel)⟩
theorem lw_p12 : lw_okq (⟨"MeteredSheets", "readsOneOf", "(I[Z)Z"⟩, 12) := ⟨⟨by decide +kernel, by decide +kernel⟩, List.mem_of_getElem? (i := 12) (by decide +kernel), List.mem_of_getElem? (i := 256) (by decide +kernel), List.mem_of_getElem? (i := 257) (by decide +kernel)⟩
theorem lw_p13 : lw_okq (⟨"MeteredSheets", "wouldReadItself", "(III)Z"⟩, 12) := ⟨⟨by decide +kernel, by decide +kernel⟩, List.mem_of_getElem? (i := 12) (by decide +kernel), List.mem_of_getElem? (i := 269) (by decide +kernel), List.mem_of_getElem? (i := 270) (by decide +kernel)⟩
theorem lw_p14 : lw_okq (⟨"MeteredSheetsModel", "fails", "(I)I"⟩, 18) := ⟨⟨by decide +kernel, by decide +kernel⟩, List.mem_of_getElem? (i := 415) (by decide +kernel), List.mem_of_getElem? (i := 495) (by decide +kernel), List.mem_of_getElem? (i := 496) (by decide +kernel)⟩
theorem lw_p15 : lw_okq (⟨"MeteredSheetsModel", "change", "(IIIIII)I"⟩, 18) := ⟨⟨by decide +kernel, by decide +kernel⟩, List.mem_of_getElem? (i := 415) (by decide +kernel), List.mem_of_getElem? (i := 499) (by decide +kernel), List.mem_of_getElem? (i := 500) (by decide +kernel)⟩
def lw_privs_1 : List (MethodName × Nat) := [(⟨"java/lang/Throwable", "fillInStackTrace", "(I)Ljava/lang/Throwable;"⟩, 6), (⟨"MeteredSheets", "giveFormula", "(IIIIII)I"⟩, 12), (⟨"MeteredSheets", "putInOrder", "()V"⟩, 12), (⟨"MeteredSheets", "lowestFreeCell", "()I"⟩, 12), (⟨"MeteredSheets", "isReady", "(I)Z"⟩, 12), (⟨"MeteredSheets", "forgetChanges", "()V"⟩, 12), (⟨"MeteredSheets", "compute", "(II)V"⟩, 12), (⟨"MeteredSheets$Ledger", "paysFor", "(IIII)Z"⟩, 8), (⟨"MeteredSheets$Ledger", "costOf", "(I)I"⟩, 8), (⟨"MeteredSheets$Ledger", "enter", "(III)V"⟩, 8), (⟨"MeteredSheets", "resultOf", "(I[I)I"⟩, 12), (⟨"MeteredSheets", "goThrough", "(IZ)I"⟩, 12), (⟨"MeteredSheets", "readsOneOf", "(I[Z)Z"⟩, 12), (⟨"MeteredSheets", "wouldReadItself", "(III)Z"⟩, 12), (⟨"MeteredSheetsModel", "fails", "(I)I"⟩, 18), (⟨"MeteredSheetsModel", "change", "(IIIIII)I"⟩, 18)]
theorem lw_r1 : ∀ q ∈ lw_privs_1, lw_okq q := List.forall_mem_cons.mpr ⟨lw_p0, List.forall_mem_cons.mpr ⟨lw_p1, List.forall_mem_cons.mpr ⟨lw_p2, List.forall_mem_cons.mpr ⟨lw_p3, List.forall_mem_cons.mpr ⟨lw_p4, List.forall_mem_cons.mpr ⟨lw_p5, List.forall_mem_cons.mpr ⟨lw_p6, List.forall_mem_cons.mpr ⟨lw_p7, List.forall_mem_cons.mpr ⟨lw_p8, List.forall_mem_cons.mpr ⟨lw_p9, List.forall_mem_cons.mpr ⟨lw_p10, List.forall_mem_cons.mpr ⟨lw_p11, List.forall_mem_cons.mpr ⟨lw_p12, List.forall_mem_cons.mpr ⟨lw_p13, List.forall_mem_cons.mpr ⟨lw_p14, List.forall_mem_cons.mpr ⟨lw_p15, fun _ h => absurd h List.not_mem_nil⟩⟩⟩⟩⟩⟩⟩⟩⟩⟩⟩⟩⟩⟩⟩⟩
theorem lw_p16 : lw_okq (⟨"MeteredSheetsModel", "compute", "(II)V"⟩, 18) := ⟨⟨by decide +kernel, by decide +kernel⟩, List.mem_of_getElem? (i := 415) (by decide +kernel), List.mem_of_getElem? (i := 503) (by decide +kernel), List.mem_of_getElem? (i := 504) (by decide +kernel)⟩
theorem lw_p17 : lw_okq (⟨"MeteredSheetsModel", "one", "(I)I"⟩, 18) := ⟨⟨by decide +kernel, by decide +kernel⟩, List.mem_of_getElem? (i := 415) (by decide +kernel), List.mem_of_getElem? (i := 507) (by decide +kernel), List.mem_of_getElem? (i := 508) (by decide +kernel)⟩
theorem lw_p18 : lw_okq (⟨"MeteredSheetsModel", "priceOf", "(II)I"⟩, 18) := ⟨⟨by decide +kernel, by decide +kernel⟩, List.mem_of_getElem? (i := 415) (by decide +kernel), List.mem_of_getElem? (i := 511) (by decide +kernel), List.mem_of_getElem? (i := 512) (by decide +kernel)⟩
theorem lw_p19 : lw_okq (⟨"MeteredSheetsModel", "other", "(I)I"⟩, 18) := ⟨⟨by decide +kernel, by decide +kernel⟩, List.mem_of_getElem? (i := 415) (by decide +kernel), List.mem_of_getElem? (i := 518) (by decide +kernel), List.mem_of_getElem? (i := 519) (by decide +kernel)⟩
theorem lw_p20 : lw_okq (⟨"MeteredSheetsModel", "pay", "(III)V"⟩, 18) := ⟨⟨by decide +kernel, by decide +kernel⟩, List.mem_of_getElem? (i := 415) (by decide +kernel), List.mem_of_getElem? (i := 522) (by decide +kernel), List.mem_of_getElem? (i := 523) (by decide +kernel)⟩
theorem lw_p21 : lw_okq (⟨"MeteredSheetsModel", "comesTo", "(I[I)I"⟩, 18) := ⟨⟨by decide +kernel, by decide +kernel⟩, List.mem_of_getElem? (i := 415) (by decide +kernel), List.mem_of_getElem? (i := 526) (by decide +kernel), List.mem_of_getElem? (i := 527) (by decide +kernel)⟩
theorem lw_p22 : lw_okq (⟨"MeteredSheetsModel", "goThrough", "(IZ)I"⟩, 18) := ⟨⟨by decide +kernel, by decide +kernel⟩, List.mem_of_getElem? (i := 415) (by decide +kernel), List.mem_of_getElem? (i := 533) (by decide +kernel), List.mem_of_getElem? (i := 534) (by decide +kernel)⟩
theorem lw_p23 : lw_okq (⟨"MeteredSheetsModel", "layOrder", "()V"⟩, 18) := ⟨⟨by decide +kernel, by decide +kernel⟩, List.mem_of_getElem? (i := 415) (by decide +kernel), List.mem_of_getElem? (i := 537) (by decide +kernel), List.mem_of_getElem? (i := 538) (by decide +kernel)⟩
theorem lw_p24 : lw_okq (⟨"MeteredSheetsModel", "readsChanged", "(I)Z"⟩, 18) := ⟨⟨by decide +kernel, by decide +kernel⟩, List.mem_of_getElem? (i := 415) (by decide +kernel), List.mem_of_getElem? (i := 541) (by decide +kernel), List.mem_of_getElem? (i := 542) (by decide +kernel)⟩
theorem lw_p25 : lw_okq (⟨"MeteredSheetsModel", "reaches", "(II)Z"⟩, 18) := ⟨⟨by decide +kernel, by decide +kernel⟩, List.mem_of_getElem? (i := 415) (by decide +kernel), List.mem_of_getElem? (i := 549) (by decide +kernel), List.mem_of_getElem? (i := 550) (by decide +kernel)⟩
def lw_privs_2 : List (MethodName × Nat) := [(⟨"MeteredSheetsModel", "compute", "(II)V"⟩, 18), (⟨"MeteredSheetsModel", "one", "(I)I"⟩, 18), (⟨"MeteredSheetsModel", "priceOf", "(II)I"⟩, 18), (⟨"MeteredSheetsModel", "other", "(I)I"⟩, 18), (⟨"MeteredSheetsModel", "pay", "(III)V"⟩, 18), (⟨"MeteredSheetsModel", "comesTo", "(I[I)I"⟩, 18), (⟨"MeteredSheetsModel", "goThrough", "(IZ)I"⟩, 18), (⟨"MeteredSheetsModel", "layOrder", "()V"⟩, 18), (⟨"MeteredSheetsModel", "readsChanged", "(I)Z"⟩, 18), (⟨"MeteredSheetsModel", "reaches", "(II)Z"⟩, 18)]
theorem lw_r2 : ∀ q ∈ lw_privs_2, lw_okq q := List.forall_mem_cons.mpr ⟨lw_p16, List.forall_mem_cons.mpr ⟨lw_p17, List.forall_mem_cons.mpr ⟨lw_p18, List.forall_mem_cons.mpr ⟨lw_p19, List.forall_mem_cons.mpr ⟨lw_p20, List.forall_mem_cons.mpr ⟨lw_p21, List.forall_mem_cons.mpr ⟨lw_p22, List.forall_mem_cons.mpr ⟨lw_p23, List.forall_mem_cons.mpr ⟨lw_p24, List.forall_mem_cons.mpr ⟨lw_p25, fun _ h => absurd h List.not_mem_nil⟩⟩⟩⟩⟩⟩⟩⟩⟩⟩
def lw_privs : List (MethodName × Nat) := lw_privs_1 ++ (lw_privs_2)
def lw_tbl : List Cond := k2_sels lw_privs ++ tables_1
theorem lw_privs_ok : ∀ q ∈ lw_privs, lw_okq q := by
  show ∀ q ∈ lw_privs_1 ++ (lw_privs_2), lw_okq q
  exact List.forall_mem_append.mpr ⟨lw_r1, lw_r2⟩
/-! ===== BEGIN words of one list among another's, by their places ===== -/
theorem goodIn_r {big : List Cond} (ws : List Cond) (ps : List Nat) (hp : ws = ps.filterMap (fun i => big[i]?)) (h : ws.all goodWord = true) : GoodIn big ws := by
  intro w hw
  have h1 := List.all_eq_true.mp h w hw
  rw [hp] at hw
  obtain ⟨i, -, hi⟩ := List.mem_filterMap.mp hw
  have hm : w ∈ big := by first | exact List.mem_of_getElem? hi | exact List.getElem?_mem hi
  exact ⟨hm, good_of_word h1⟩
theorem goodIn_app {big a b : List Cond} (ha : GoodIn big a) (hb : GoodIn big b) : GoodIn big (a ++ b) := fun w h => (List.mem_append.mp h).elim (ha w) (hb w)
theorem goodIn_ca {big a b : List Cond} {c : Cond} (ha : GoodIn big (c :: a)) (hb : GoodIn big b) : GoodIn big (c :: (a ++ b)) := fun w h => (List.mem_cons.mp h).elim (fun e => ha w (List.mem_cons.mpr (Or.inl e))) (fun h => (List.mem_append.mp h).elim (fun h => ha w (List.mem_cons.mpr (Or.inr h))) (hb w))
theorem goodIn_sub {big ws : List Cond} (hm : ∀ w ∈ ws, w ∈ big) (h : ws.all goodWord = true) : GoodIn big ws := fun w hw => ⟨hm w hw, good_of_word (List.all_eq_true.mp h w hw)⟩
/-! ===== END ===== -/

/-! ===== BEGIN exceptions that leave a method, and their catching by the caller (launches without stack traces) ===== -/
section VXA
/-! The laws vx_back, vx_callV, vx_callS, vx_callSW, vx_throw0, vx_throwS follow proofs of the library, with one case more: JvmDerived/Free/Laws.lean (Back.of_free), Shelf42/LK1.lean (callV, callS), Shelf/KitTraced.lean (throwNew0V, throwNewS). -/
/-- where a method has thrown q: the class by its name, the cell, what was written, the world -/
def vx_T (XC : String → State → State → Prop) (st : State) (q : Addr) (t : State) (mc ms : Nat) (free : Addr → Prop) : Prop :=
  ∃ (E : String) (ce : Cell) (L : List Loc), XC E st t ∧ t.heap[q]? = some ce ∧ ce.vm = .none ∧ st.vm.findClass E = some ce.cls ∧ st.WarmedH t.vm ∧ st.sameButNew ({ t with vm := st.vm } : State) L mc ms ∧ ∀ z ∈ L, free z.base
def vx_Q (Qc : Array Value → State → Outcome → State → Prop) (XC : String → State → State → Prop) (mc ms : Nat) (free : Addr → Prop) : Array Value → State → Outcome → State → Prop := fun a st o t =>
  (Qc a st o t ∧ ∃ L, FrameEnd st o t L mc ms ∧ ∀ q ∈ L, free q.base) ∨ ∃ q, o = .threw q ∧ vx_T XC st q t mc ms free
/-- a callee that returns or throws -/
def vx_Met (l : Launch) (y : MethodName) (ws : List Cond) (rm : Room) (Pc : Array Value → State → Prop) (Qc : Array Value → State → Outcome → State → Prop) (XC : String → State → State → Prop) (mc ms : Nat) (free : Addr → Prop) : Prop :=
  MetFree l y (headSpec ws rm) Pc (fun _ _ _ _ _ => True) (vx_Q Qc XC mc ms free)
def vx_Post (XC : String → State → State → Prop) (mc ms : Nat) (free : Addr → Prop) : Pt → Array Value → Addr → Pt → Prop := fun A a q B =>
  ∃ (g : JFrame) (mk : MethodId) (t : State) (L : List Loc) (E : String) (ce : Cell), B.U.heap = t.heap ∧ B.U.vm = t.vm ∧ XC E (A.U.calling g mk a) t ∧ t.heap[q]? = some ce ∧ ce.vm = .none ∧ A.U.vm.findClass E = some ce.cls ∧ B.locs = A.locs ++ L ∧ (∀ z ∈ L, free z.base) ∧ B.cells = A.cells + mc ∧ B.slots = A.slots + ms
def vx_Back (l : Launch) (R : Room) (p : Program) (e : Env) (below : List Frame) (s : State) (sargs : Array Value) (y : MethodName) (len W9 : Nat)
    (Pre : Pt → Array Value → Prop) (Post : Pt → Array Value → Option Value → Pt → Prop) (PostX : Pt → Array Value → Addr → Pt → Prop) : Prop :=
  ∀ (m : MethodId) (meth : Method) (c : Code) (A : Pt) (g : JFrame) (ig : Instr) (mk : MethodId) (a : Array Value),
    Stand p l e R s m sargs below meth c A.U A.locs A.cells A.slots → g.method = m → g.locals.size = c.maxLocals → decode c.code g.pc = .ok (ig, len) →
    2 * g.monitorRoom + (g.stack.map fun v => v.category).sum ≤ W9 → A.U.methodNamed? y = some mk → Pre A a →
    (∃ (v : Option Value) (B : Pt), Stand p l e R s m sargs below meth c B.U B.locs B.cells B.slots ∧ Post A a v B ∧
      Steps p.tables e below (doInvoke e (A.U.setTop g) [] mk a).1 (B.U.setTop { g with pc := g.pc + len, stack := v.toList ++ g.stack })) ∨
    (∃ (q : Addr) (B : Pt), Stand p l e R s m sargs below meth c B.U B.locs B.cells B.slots ∧ PostX A a q B ∧
      Steps p.tables e below (doInvoke e (A.U.setTop g) [] mk a).1 ((B.U.setTop g).pushFrame (.throwing q)))
section Payer
variable {l : Launch} {R : Room} {p : Program} {e : Env} {below : List Frame} {s : State} {sargs : Array Value} {y : MethodName} {len W9 : Nat}
theorem vx_back {ws : List Cond} {rm : Room} {Pc : Array Value → State → Prop} {Qc : Array Value → State → Outcome → State → Prop} {XC : String → State → State → Prop} {mc ms : Nat} {free : Addr → Prop} {bytes : ByteArray} {maxL : Nat} {ret : Option FieldType}
    (hM : vx_Met l y ws rm Pc Qc XC mc ms free) (hblind : FrameBlind Pc) (hrc : rm.cells = mc) (hrs : rm.slots = ms)
    (hframes : rm.frames + 1 ≤ R.frames) (hlocals : W9 + (maxL + 11) + rm.locals ≤ R.locals)
    (hws : ∀ w ∈ ws, ∀ a' U, s.WarmedH U.vm → w.before a' U = true) (hcode : Cond.code y bytes maxL ret ∈ ws) (hinit : ∀ a' U, s.WarmedH U.vm → (Cond.initialized y.cls).before a' U = true) :
    vx_Back l R p e below s sargs y len W9 (PreOf R mc ms Pc) (PostOf Qc mc ms free) (vx_Post XC mc ms free) := by
  intro m meth c A g ig mk a X hg hsize hdg hW hn hp
  have h1 : (headSpec ws rm).pre.before a A.U = true := atoms_intro fun w hw => hws w hw _ _ X.warmed
  have h2 : (Cond.code y bytes maxL ret).before a A.U = true := hws _ hcode _ _ X.warmed
  have h3 : (Cond.initialized y.cls).before a A.U = true := hinit _ _ X.warmed
  have h4 : A.cells + (headSpec ws rm).room.cells ≤ R.cells := by rw [show (headSpec ws rm).room.cells = mc from hrc]; exact hp.1
  have h5 : A.slots + (headSpec ws rm).room.slots ≤ R.slots := by rw [show (headSpec ws rm).room.slots = ms from hrs]; exact hp.2.1
  have hPc : Pc a (A.U.calling g mk a) := hblind _ _ _ _ hp.2.2
  obtain ⟨U, Ls, c0, s0⟩ := A
  dsimp only [Pt.U, Pt.locs, Pt.cells, Pt.slots] at h1 h2 h3 h4 h5 X hn hPc ⊢
  obtain ⟨methY, cY, hmY, hcY, -, hlY, -, -, -, -⟩ := Cond.code_spec hn h2
  obtain ⟨kY, hkY, -⟩ := className_of_methodNamed hn
  have hinitY : kY.init = .initialized := Cond.initialized_spec (findClass_of_methodNamed hn) hkY h3
  have h : At U g.method c below := by rw [hg]; exact X.here
  have hlocals9 : W9 + (maxL + 11) + (headSpec ws rm).room.locals ≤ R.locals := hlocals
  have happ : (headSpec ws rm).appliesLoose y e.platform (U.calling g mk a) = true :=
    Spec.appliesLoose_calling (g := g) h hdg hn hkY hinitY
      (X.room_calling (g := g) (R' := (headSpec ws rm).room) hsize hmY hcY hframes (by rw [hlY]; omega) h4 h5) h1
  obtain ⟨mid, hmid⟩ := h.above
  have hfr : (U.setTop g).frames = (.java g :: mid) ++ below := by rw [State.frames_setTop' g h.top, hmid]; rfl
  obtain ⟨o, s₂, hsteps, -, hend, hq⟩ := Steps.callFree hM p X.admits X.cas X.clock (acts := []) hfr happ hPc trivial
  have hq' : vx_Q Qc XC mc ms free a (U.calling g mk a) o s₂ := hq
  rw [State.frames_setTop' g h.top] at hend
  obtain ⟨g₀, hg0⟩ := Option.isSome_iff_exists.mp h.top
  obtain ⟨r, hr⟩ := State.topJava?_eq_some.mp hg0
  have hr' : (({ U with heap := s₂.heap, slotsUsed := s₂.slotsUsed } : State).setVm s₂.vm).frames = .java g₀ :: r := hr
  rcases hq' with ⟨hqc, L, hfe, hL⟩ | ⟨q, rfl, E, ce, L, hx, hce, hcv, hcl, hW₂, hsm, hL⟩
  · obtain ⟨⟨v, rfl⟩, hW₂, e2, q2, q3, q4, q5, q6⟩ := id hfe
    have e3 : s₂ = ({ (U.calling g mk a).setFrames s₂.frames with heap := s₂.heap, slotsUsed := s₂.slotsUsed } : State).setVm s₂.vm := by
      have : s₂ = ({ s₂ with vm := (U.calling g mk a).vm } : State).setVm s₂.vm := rfl
      rw [e2] at this
      exact this
    obtain ⟨c₂, i₂, len₂, hc₂, hd₂, hf₂⟩ := hend
    have hW' : U.WarmedH s₂.vm := hW₂
    have hcc : c₂ = c := by
      have h1 : s₂.code? g.method = U.code? g.method := by
        rw [State.code?_eq, State.code?_eq, hW'.alike.method?]
      exact Option.some.inj (hc₂.symm.trans (h1.trans h.code))
    subst hcc
    have hlen : len₂ = len := by rw [hdg] at hd₂; cases hd₂; rfl
    subst hlen
    have hs₂ : s₂ = (({ U with heap := s₂.heap, slotsUsed := s₂.slotsUsed } : State).setVm s₂.vm).setTop { g with pc := g.pc + len₂, stack := v.toList ++ g.stack } := by
      refine e3.trans ?_
      rw [hf₂, State.calling_eq h.top, State.setFrames_setFrames, State.setTop_of_frames _ hr', hr]
      rfl
    have hsame : U.sameButNew ({ U with heap := s₂.heap, slotsUsed := s₂.slotsUsed } : State) L mc ms := by
      refine ⟨?_, q2, q3, q4, q5, q6⟩
      obtain ⟨t, ht, -⟩ := State.frames_cons hr
      show ({ U with heap := s₂.heap, slotsUsed := s₂.slotsUsed } : State) = { U.setFrames U.frames with heap := s₂.heap, slotsUsed := s₂.slotsUsed }
      rw [State.setFrames_self ht]
    subst hg
    refine Or.inl ⟨v, ⟨(({ U with heap := s₂.heap, slotsUsed := s₂.slotsUsed } : State).setVm s₂.vm), Ls ++ L, c0 + mc, s0 + ms⟩,
      ⟨X.admits, X.cas, X.clock, X.frames, X.room, X.hears, X.method, X.code, (X.here.setHeapUsed s₂.heap s₂.slotsUsed).setVm hW'.alike, X.tail, State.WarmedH.trans X.warmed hW', X.limits, X.bytes, X.same.trans (hsame.setVm s.vm)⟩,
      ⟨g, mk, s₂, L, rfl, rfl, hqc, rfl, hL, rfl, rfl⟩, ?_⟩
    show Steps p.tables e below _ ((({ U with heap := s₂.heap, slotsUsed := s₂.slotsUsed } : State).setVm s₂.vm).setTop { g with pc := g.pc + len₂, stack := v.toList ++ g.stack })
    rw [← hs₂]
    exact hsteps
  · obtain ⟨e2, q2, q3, q4, q5, q6⟩ := id hsm
    have e3 : s₂ = ({ (U.calling g mk a).setFrames s₂.frames with heap := s₂.heap, slotsUsed := s₂.slotsUsed } : State).setVm s₂.vm := by
      have : s₂ = ({ s₂ with vm := (U.calling g mk a).vm } : State).setVm s₂.vm := rfl
      rw [e2] at this
      exact this
    have hf₂ : s₂.frames = .throwing q :: .java g :: U.frames.tail := hend
    have hW' : U.WarmedH s₂.vm := hW₂
    have hs₂ : s₂ = ((({ U with heap := s₂.heap, slotsUsed := s₂.slotsUsed } : State).setVm s₂.vm).setTop g).pushFrame (.throwing q) := by
      refine e3.trans ?_
      rw [hf₂, State.calling_eq h.top, State.setFrames_setFrames, State.pushFrame, State.frames_setTop _ hr', State.setTop_of_frames _ hr', State.setFrames_setFrames, hr]
      rfl
    have hsame : U.sameButNew ({ U with heap := s₂.heap, slotsUsed := s₂.slotsUsed } : State) L mc ms := by
      refine ⟨?_, q2, q3, q4, q5, q6⟩
      obtain ⟨t, ht, -⟩ := State.frames_cons hr
      show ({ U with heap := s₂.heap, slotsUsed := s₂.slotsUsed } : State) = { U.setFrames U.frames with heap := s₂.heap, slotsUsed := s₂.slotsUsed }
      rw [State.setFrames_self ht]
    subst hg
    refine Or.inr ⟨q, ⟨(({ U with heap := s₂.heap, slotsUsed := s₂.slotsUsed } : State).setVm s₂.vm), Ls ++ L, c0 + mc, s0 + ms⟩,
      ⟨X.admits, X.cas, X.clock, X.frames, X.room, X.hears, X.method, X.code, (X.here.setHeapUsed s₂.heap s₂.slotsUsed).setVm hW'.alike, X.tail, State.WarmedH.trans X.warmed hW', X.limits, X.bytes, X.same.trans (hsame.setVm s.vm)⟩,
      ⟨g, mk, s₂, L, E, ce, rfl, rfl, hx, hce, hcv, hcl, rfl, hL, rfl, rfl⟩, ?_⟩
    show Steps p.tables e below _ (((({ U with heap := s₂.heap, slotsUsed := s₂.slotsUsed } : State).setVm s₂.vm).setTop g).pushFrame (.throwing q))
    rw [← hs₂]
    exact hsteps
end Payer
section Calls
variable {p : Program} {l : Launch} {e : Env} {R : Room} {s : State} {m : MethodId} {args : Array Value} {below : List Frame} {meth : Method} {c : Code} {T : State} {locs : List Loc} {cells slots : Nat}
theorem vx_callV (X : Stand p l e R s m args below meth c T locs cells slots) (hexec : p.tables.exec = Jvm.exec) {own C : String} {index : Nat} {y : MethodName} {bytes : ByteArray} {maxL : Nat} {ret : Option FieldType}
    (hown : s.vm.findClass own = some m.cls) (hlink : (Cond.methodLink own index y).before args s = true) (hinst : (Cond.instanceMethod y).before args s = true) (hsel : (Cond.selects C y y).before args s = true)
    (hcode : (Cond.code y bytes maxL ret).before args s = true) (hy : y.cls ≠ "java/lang/invoke/MethodHandle" ∧ y.cls ≠ "java/lang/invoke/VarHandle")
    {W9 : Nat} {Pre : Pt → Array Value → Prop} {Post : Pt → Array Value → Option Value → Pt → Prop} {PostX : Pt → Array Value → Addr → Pt → Prop} (hK : vx_Back l R p e below s args y 3 W9 Pre Post PostX)
    {b : Addr} {cellB : Cell} (hcell : T.heap[b]? = some cellB) (hobj : cellB.vm.isStatics = false) (hcls : s.vm.findClass C = some cellB.cls)
    {g : JFrame} (hg : g.method = m) (hsize : g.locals.size = c.maxLocals) {argsL rest : List Value} (hlen : ∀ sig, parseMethodDescriptor y.desc = some sig → argsL.length = sig.parameters.length)
    (hstack : g.stack = argsL.reverse ++ .ref b :: rest) (hW : 2 * g.monitorRoom + (rest.map fun v => v.category).sum ≤ W9) (hdg : decode c.code g.pc = .ok (.invokevirtual index, 3))
    (hpre : ∀ vm₁, s.WarmedH vm₁ → Pre ⟨T.setVm vm₁, locs, cells, slots⟩ (Value.ref b :: argsL).toArray) :
    (∃ (v : Option Value) (vm₁ : Vm) (B : Pt), s.WarmedH vm₁ ∧ Stand p l e R s m args below meth c B.U B.locs B.cells B.slots ∧ Post ⟨T.setVm vm₁, locs, cells, slots⟩ (Value.ref b :: argsL).toArray v B ∧
      ∀ target, Steps p.tables e below (B.U.setTop { g with pc := g.pc + 3, stack := v.toList ++ rest }) target → Steps p.tables e below (T.setTop g) target) ∨
    (∃ (q : Addr) (vm₁ : Vm) (B : Pt), s.WarmedH vm₁ ∧ Stand p l e R s m args below meth c B.U B.locs B.cells B.slots ∧ PostX ⟨T.setVm vm₁, locs, cells, slots⟩ (Value.ref b :: argsL).toArray q B ∧
      Steps p.tables e below (T.setTop g) ((B.U.setTop { g with stack := rest }).pushFrame (.throwing q))) := by
  obtain ⟨mk, methM, hnamed, hmethM, hstM, habM⟩ := Cond.instanceMethod_spec hinst
  obtain ⟨methM', cM, hmethM', -, -, -, -, -, -, hsigM⟩ := Cond.code_spec hnamed hcode
  cases hmethM.symm.trans hmethM'
  obtain ⟨c2, r2, m2, q1, q2, q3, q4, kP, hkP, hkPi⟩ := Cond.selects_spec hsel
  cases hcls.symm.trans q1
  cases (State.methodFound?_of_named hnamed hy).symm.trans q2
  cases hnamed.symm.trans q3
  have hselP : selectMethod e.platform s.vm cellB.cls mk = .method mk := by rw [Launch.admits_selectMethod X.admits]; exact q4
  obtain ⟨vm₁, X₁, hstep₁⟩ := X.invokevirtual hexec hown hlink hnamed hmethM hstM hkP hkPi hy (a := b) (cell := cellB) hcell
    (fun z h => by rw [h] at hobj; cases hobj) hselP hmethM habM hkP hkPi (g := g) hg (argsL := argsL) (rest := rest) (hlen _ hsigM) hstack hdg
  rcases hK m meth c ⟨T.setVm vm₁, locs, cells, slots⟩ { g with stack := rest } (.invokevirtual index) mk (Value.ref b :: argsL).toArray X₁ hg hsize hdg hW (X₁.named hnamed) (hpre vm₁ X₁.warmed) with ⟨v, B, X', hpost, hsteps⟩ | ⟨q, B, X', hpost, hsteps⟩
  · exact Or.inl ⟨v, vm₁, B, X₁.warmed, X', hpost, fun target h => hstep₁ _ fun acts => by rw [doInvoke_state]; exact hsteps.trans h⟩
  · exact Or.inr ⟨q, vm₁, B, X₁.warmed, X', hpost, hstep₁ _ fun acts => by rw [doInvoke_state]; exact hsteps⟩
theorem vx_callS (X : Stand p l e R s m args below meth c T locs cells slots) (hexec : p.tables.exec = Jvm.exec) {own : String} {index : Nat} {y : MethodName} {bytes : ByteArray} {maxL : Nat} {ret : Option FieldType}
    (hown : s.vm.findClass own = some m.cls) (hlink : (Cond.methodLink own index y).before args s = true) (hstat : (Cond.static y).before args s = true) (hinit : (Cond.initialized y.cls).before args s = true)
    (hcode : (Cond.code y bytes maxL ret).before args s = true) (hy : y.cls ≠ "java/lang/invoke/MethodHandle" ∧ y.cls ≠ "java/lang/invoke/VarHandle")
    {W9 : Nat} {Pre : Pt → Array Value → Prop} {Post : Pt → Array Value → Option Value → Pt → Prop} {PostX : Pt → Array Value → Addr → Pt → Prop} (hK : vx_Back l R p e below s args y 3 W9 Pre Post PostX)
    {g : JFrame} (hg : g.method = m) (hsize : g.locals.size = c.maxLocals) {argsL rest : List Value} (hlen : ∀ sig, parseMethodDescriptor y.desc = some sig → argsL.length = sig.parameters.length)
    (hstack : g.stack = argsL.reverse ++ rest) (hW : 2 * g.monitorRoom + (rest.map fun v => v.category).sum ≤ W9) (hdg : decode c.code g.pc = .ok (.invokestatic index, 3))
    (hpre : ∀ vm₁, s.WarmedH vm₁ → Pre ⟨T.setVm vm₁, locs, cells, slots⟩ argsL.toArray) :
    (∃ (v : Option Value) (vm₁ : Vm) (B : Pt), s.WarmedH vm₁ ∧ Stand p l e R s m args below meth c B.U B.locs B.cells B.slots ∧ Post ⟨T.setVm vm₁, locs, cells, slots⟩ argsL.toArray v B ∧
      ∀ target, Steps p.tables e below (B.U.setTop { g with pc := g.pc + 3, stack := v.toList ++ rest }) target → Steps p.tables e below (T.setTop g) target) ∨
    (∃ (q : Addr) (vm₁ : Vm) (B : Pt), s.WarmedH vm₁ ∧ Stand p l e R s m args below meth c B.U B.locs B.cells B.slots ∧ PostX ⟨T.setVm vm₁, locs, cells, slots⟩ argsL.toArray q B ∧
      Steps p.tables e below (T.setTop g) ((B.U.setTop { g with stack := rest }).pushFrame (.throwing q))) := by
  obtain ⟨mk, hnamed⟩ := Cond.code_named hcode
  obtain ⟨methM, cM, hmethM, -, -, -, -, -, -, hsigM⟩ := Cond.code_spec hnamed hcode
  have hstatic : methM.isStatic = true := Cond.static_spec hnamed hmethM hstat
  obtain ⟨kP, hkP, -⟩ := className_of_methodNamed hnamed
  have hinitP : kP.init = .initialized := Cond.initialized_spec (findClass_of_methodNamed hnamed) hkP hinit
  obtain ⟨vm₁, X₁, hstep₁⟩ := X.invokestatic hexec hown hlink hnamed hmethM hstatic hkP hinitP hy (g := g) hg (argsL := argsL) (rest := rest) (hlen _ hsigM) hstack hdg
  rcases hK m meth c ⟨T.setVm vm₁, locs, cells, slots⟩ { g with stack := rest } (.invokestatic index) mk argsL.toArray X₁ hg hsize hdg hW (X₁.named hnamed) (hpre vm₁ X₁.warmed) with ⟨v, B, X', hpost, hsteps⟩ | ⟨q, B, X', hpost, hsteps⟩
  · exact Or.inl ⟨v, vm₁, B, X₁.warmed, X', hpost, fun target h => hstep₁ _ fun acts => by rw [doInvoke_state]; exact hsteps.trans h⟩
  · exact Or.inr ⟨q, vm₁, B, X₁.warmed, X', hpost, hstep₁ _ fun acts => by rw [doInvoke_state]; exact hsteps⟩
end Calls
theorem vx_cls {s : State} {T : State} {vm₁ : Vm} {E : String} {k : ClassId} (hW : s.WarmedH vm₁) (h : (T.setVm vm₁).vm.findClass E = some k) : s.vm.findClass E = some k := by
  have h1 : vm₁.findClass E = some k := h
  rw [hW.alike.findClass] at h1
  exact h1
/-- the method's frame g, with q thrown over it -/
def vx_W (p : Program) (l : Launch) (e : Env) (R : Room) (s : State) (m : MethodId) (args : Array Value) (below : List Frame) (meth : Method) (c : Code) (H : Heap) (locs : List Loc) (cells slots : Nat) (Q : State → Prop) (g : JFrame) (q : Addr) : Prop :=
  ∀ T : State, T.heap = H → Stand p l e R s m args below meth c T locs cells slots → ∃ t, Steps p.tables e below ((T.setTop g).pushFrame (.throwing q)) t ∧ Q t
def vx_Run (p : Program) (l : Launch) (e : Env) (R : Room) (s : State) (m : MethodId) (args : Array Value) (below : List Frame) (meth : Method) (c : Code) (H : Heap) (locs : List Loc) (cells slots mc ms : Nat) (g : JFrame) (rest : List Value) (Qa : State → Outcome → State → Prop) (XC : String → State → State → Prop) (free : Addr → Prop) : Prop :=
  ∀ T : State, T.heap = H → Stand p l e R s m args below meth c T locs cells slots →
    (∃ (v : Option Value) (st₀ t T' : State) (L : List Loc), st₀.heap = H ∧ Stand p l e R s m args below meth c T' (locs ++ L) (cells + mc) (slots + ms) ∧ (∀ q ∈ L, free q.base) ∧ T'.heap = t.heap ∧ T'.vm = t.vm ∧ Qa st₀ (.returned v) t ∧
      Goes p e below T g T' { g with pc := g.pc + 3, stack := v.toList ++ rest }) ∨
    (∃ (q : Addr) (st₀ t T' : State) (L : List Loc) (E : String) (ce : Cell), st₀.heap = H ∧ Stand p l e R s m args below meth c T' (locs ++ L) (cells + mc) (slots + ms) ∧ (∀ z ∈ L, free z.base) ∧ T'.heap = t.heap ∧ T'.vm = t.vm ∧ XC E st₀ t ∧ t.heap[q]? = some ce ∧ ce.vm = .none ∧ s.vm.findClass E = some ce.cls ∧
      Steps p.tables e below (T.setTop g) ((T'.setTop { g with stack := rest }).pushFrame (.throwing q)))
def vx_X {S : Type} (px : S → Prop) (B : String → S → State → Prop) (A : Nat → Prop) : String → State → State → Prop := fun E st t => ∃ u : S, px u ∧ B E u t ∧ va_F A st t
section Runs
variable {p : Program} {l : Launch} {e : Env} {R : Room} {s : State} {m : MethodId} {args : Array Value} {below : List Frame} {meth : Method} {c : Code} {H : Heap} {locs : List Loc} {cells slots : Nat}
variable {y : MethodName} {bytes cc : ByteArray} {maxL nL mc ms n index : Nat} {ret : Option FieldType} {ws : List Cond} {rm : Room} {Pc : Array Value → State → Prop} {Qc : Array Value → State → Outcome → State → Prop} {XC : String → State → State → Prop} {free : Addr → Prop} {Ts : List Cond} {own C : String} {b : Addr} {As rest : List Value} {g : JFrame}
theorem vx_callBack (cb : CallB R s args own index y bytes maxL ret ws rm mc ms n) (hM : vx_Met l y ws rm Pc Qc XC mc ms free) (hbl : FrameBlind Pc) : vx_Back l R p e below s args y 3 8 (PreOf R mc ms Pc) (PostOf Qc mc ms free) (vx_Post XC mc ms free) := by
  obtain ⟨hrc, hrs, hfr, hlo, hws, hcw, -, hini, -⟩ := cb
  exact vx_back (bytes := bytes) (maxL := maxL) (ret := ret) hM hbl hrc hrs hfr hlo hws hcw (fun a' U hW => word_at hW (Or.inl (by first | rfl | simp [Cond.onTables, Cond.keeps, Cond.steady])) hini)
theorem vx_runV (S : CallFix p m c cc nL s args Ts own) (hM : vx_Met l y ws rm Pc Qc XC mc ms free) (cw : CallW R s args own C index y bytes maxL ret ws rm mc ms n) (hp : PreV s H C b Pc As)
    (hg : g.method = m) (hn : As.length = n) (hsize : g.locals.size = nL) (hstack : g.stack = As.reverse ++ .ref b :: rest) (hW : 2 * g.monitorRoom + (rest.map fun v => v.category).sum ≤ 8) (hdg : decode cc g.pc = .ok (.invokevirtual index, 3)) (hf : cells + mc ≤ R.cells ∧ slots + ms ≤ R.slots) :
    vx_Run p l e R s m args below meth c H locs cells slots mc ms g rest (Qc (Value.ref b :: As).toArray) XC free := by
  have hK : vx_Back l R p e below s args y 3 8 (PreOf R mc ms Pc) (PostOf Qc mc ms free) (vx_Post XC mc ms free) := vx_callBack cw.1 hM hp.1
  obtain ⟨⟨-, -, -, -, -, -, hcode, -, hy, hlen, hl⟩, hin, hse⟩ := cw
  obtain ⟨hx, hb, hml, ho, -⟩ := S
  obtain ⟨-, ⟨cellB, hcB, hoB, hclB⟩, hPc⟩ := hp
  intro T hT X
  rcases vx_callV X hx (C := C) (bytes := bytes) (maxL := maxL) (ret := ret) ho hl hin hse hcode hy hK (by rw [hT]; exact hcB) hoB hclB hg (hsize.trans hml.symm) (argsL := As) (rest := rest) (fun sig h => hn.trans (hlen sig h)) hstack hW (by rw [hb]; exact hdg)
    (fun vm₁ hW₁ => ⟨hf.1, hf.2, hPc (T.setVm vm₁) hT hW₁⟩) with ⟨v, vm₁, ⟨U', l2, c2, s2⟩, hW₁, X', ⟨g', mk, t, L, e1, e2, hq, h1, hL, h2, h3⟩, st⟩ | ⟨q, vm₁, ⟨U', l2, c2, s2⟩, hW₁, X', ⟨g', mk, t, L, E, ce, e1, e2, hq, hce, hcv, hcl, h1, hL, h2, h3⟩, st⟩
  · dsimp only [Pt.U, Pt.locs, Pt.cells, Pt.slots] at X' e1 e2 h1 h2 h3 st
    subst h1; subst h2; subst h3
    exact Or.inl ⟨v, (T.setVm vm₁).calling g' mk (Value.ref b :: As).toArray, t, U', L, hT, X', hL, e1, e2, hq, st⟩
  · dsimp only [Pt.U, Pt.locs, Pt.cells, Pt.slots] at X' e1 e2 h1 h2 h3 st hcl
    subst h1; subst h2; subst h3
    exact Or.inr ⟨q, (T.setVm vm₁).calling g' mk (Value.ref b :: As).toArray, t, U', L, E, ce, hT, X', hL, e1, e2, hq, hce, hcv, vx_cls hW₁ hcl, st⟩
theorem vx_runS (S : CallFix p m c cc nL s args Ts own) (hM : vx_Met l y ws rm Pc Qc XC mc ms free) (cw : CallB R s args own index y bytes maxL ret ws rm mc ms n ∧ (Cond.static y).before args s = true) (hp : PreS s H Pc As)
    (hg : g.method = m) (hn : As.length = n) (hsize : g.locals.size = nL) (hstack : g.stack = As.reverse ++ rest) (hW : 2 * g.monitorRoom + (rest.map fun v => v.category).sum ≤ 8) (hdg : decode cc g.pc = .ok (.invokestatic index, 3)) (hf : cells + mc ≤ R.cells ∧ slots + ms ≤ R.slots) :
    vx_Run p l e R s m args below meth c H locs cells slots mc ms g rest (Qc As.toArray) XC free := by
  have hK : vx_Back l R p e below s args y 3 8 (PreOf R mc ms Pc) (PostOf Qc mc ms free) (vx_Post XC mc ms free) := vx_callBack cw.1 hM hp.1
  obtain ⟨⟨-, -, -, -, -, -, hcode, hini, hy, hlen, hl⟩, hstt⟩ := cw
  obtain ⟨hx, hb, hml, ho, -⟩ := S
  intro T hT X
  rcases vx_callS X hx (bytes := bytes) (maxL := maxL) (ret := ret) ho hl hstt hini hcode hy hK hg (hsize.trans hml.symm) (argsL := As) (rest := rest) (fun sig h => hn.trans (hlen sig h)) hstack hW (by rw [hb]; exact hdg)
    (fun vm₁ hW₁ => ⟨hf.1, hf.2, hp.2 (T.setVm vm₁) hT hW₁⟩) with ⟨v, vm₁, ⟨U', l2, c2, s2⟩, hW₁, X', ⟨g', mk, t, L, e1, e2, hq, h1, hL, h2, h3⟩, st⟩ | ⟨q, vm₁, ⟨U', l2, c2, s2⟩, hW₁, X', ⟨g', mk, t, L, E, ce, e1, e2, hq, hce, hcv, hcl, h1, hL, h2, h3⟩, st⟩
  · dsimp only [Pt.U, Pt.locs, Pt.cells, Pt.slots] at X' e1 e2 h1 h2 h3 st
    subst h1; subst h2; subst h3
    exact Or.inl ⟨v, (T.setVm vm₁).calling g' mk As.toArray, t, U', L, hT, X', hL, e1, e2, hq, st⟩
  · dsimp only [Pt.U, Pt.locs, Pt.cells, Pt.slots] at X' e1 e2 h1 h2 h3 st hcl
    subst h1; subst h2; subst h3
    exact Or.inr ⟨q, (T.setVm vm₁).calling g' mk As.toArray, t, U', L, E, ce, hT, X', hL, e1, e2, hq, hce, hcv, vx_cls hW₁ hcl, st⟩
end Runs
section Rows
variable {p : Program} {l : Launch} {e : Env} {R : Room} {s : State} {m : MethodId} {args : Array Value} {below : List Frame} {meth : Method} {c : Code} {H : Heap} {locs : List Loc} {cells slots : Nat} {Q : State → Prop}
variable {mc ms : Nat} {free : Addr → Prop} {A0 A1 : Nat → Prop} {H0 : Heap} {a : Array Value} {pc : Nat} {ls : Array Slot} {st0 rest : List Value}
theorem vx_keep {st₀ t T' : State} {L : List Loc} (h0 : st₀.heap = H) (e1 : T'.heap = t.heap) (hS : va_S A0 H0 H locs) (hA : ∀ q, q < H.size → A1 q → A0 q) (hf : ∀ q, free q → A0 q) (hL : ∀ q ∈ L, free q.base) (hF : va_F A1 st₀ t) :
    H.size ≤ T'.heap.size ∧ (∀ q : Nat, q < H.size → ¬ A1 q → T'.heap[q]? = H[q]?) ∧ va_S A0 H0 T'.heap (locs ++ L) := by
  obtain ⟨hz, hk⟩ := hF
  rw [h0] at hz hk
  exact ⟨by rw [e1]; exact hz, fun q h1 h2 => by rw [e1]; exact hk q h1 h2,
    ⟨Nat.le_trans hS.1 (by rw [e1]; exact hz), fun q h1 h2 => by rw [e1, hk q (Nat.lt_of_lt_of_le h1 hS.1) (fun z => h2 (hA q (Nat.lt_of_lt_of_le h1 hS.1) z))]; exact hS.2.1 q h1 h2, fun q hq => by
      rcases List.mem_append.mp hq with h | h
      · exact hS.2.2 q h
      · exact hf _ (hL q h)⟩⟩
theorem vx_calli {S SX : Type} {post : Int32 → S → Prop} {px : SX → Prop} {B : S → State → Prop} {BX : String → SX → State → Prop} {AX : Nat → Prop} (hr : vx_Run p l e R s m args below meth c H locs cells slots mc ms (F0 m pc ls st0) rest (va_Qi post B A1 a) (vx_X px BX AX) free) (hS : va_S A0 H0 H locs) (hA : ∀ q, q < H.size → A1 q → A0 q) (hf : ∀ q, free q → A0 q) (hAX : ∀ q, q < H.size → AX q → A0 q)
    (kx : ∀ (E : String) (ce : Cell) (q9 : Addr) (u : SX) (t : State) (H1 : Heap) (locs1 : List Loc), t.heap = H1 → s.vm.Alike t.vm → px u → BX E u t → H.size ≤ H1.size → (∀ q : Nat, q < H.size → ¬ AX q → H1[q]? = H[q]?) → va_S A0 H0 H1 locs1 → H1[q9]? = some ce → ce.vm = .none → s.vm.findClass E = some ce.cls → vx_W p l e R s m args below meth c H1 locs1 (cells + mc) (slots + ms) Q (F0 m pc ls rest) q9)
    (kk : ∀ (r : Int32) (u : S) (t : State) (H1 : Heap) (locs1 : List Loc), t.heap = H1 → s.vm.Alike t.vm → post r u → B u t → H.size ≤ H1.size → (∀ q : Nat, q < H.size → ¬ A1 q → H1[q]? = H[q]?) → va_S A0 H0 H1 locs1 → W p l e R s m args below meth c H1 locs1 (cells + mc) (slots + ms) Q (F0 m (pc + 3) ls (.int r :: rest))) : W p l e R s m args below meth c H locs cells slots Q (F0 m pc ls st0) := by
  intro T hT X
  rcases hr T hT X with ⟨v, st₀, t, T', L, h0, X', hL, e1, e2, ⟨⟨r, u, hv, hp, hb⟩, hF⟩, st⟩ | ⟨q, st₀, t, T', L, E, ce, h0, X', hL, e1, e2, ⟨u, hp, hb, hF⟩, hce, hcv, hcl, st⟩
  · cases hv
    obtain ⟨k1, k2, k3⟩ := vx_keep h0 e1 hS hA hf hL hF
    obtain ⟨t2, a1, b1⟩ := kk r u t T'.heap (locs ++ L) e1.symm (by rw [← e2]; exact X'.warmed.alike) hp hb k1 k2 k3 T' rfl X'
    exact ⟨t2, st t2 a1, b1⟩
  · obtain ⟨k1, k2, k3⟩ := vx_keep h0 e1 hS hAX hf hL hF
    obtain ⟨t2, a1, b1⟩ := kx E ce q u t T'.heap (locs ++ L) e1.symm (by rw [← e2]; exact X'.warmed.alike) hp hb k1 k2 k3 (by rw [e1]; exact hce) hcv hcl T' rfl X'
    exact ⟨t2, st.trans a1, b1⟩
theorem vx_calll {S SX : Type} {post : Int64 → S → Prop} {px : SX → Prop} {B : S → State → Prop} {BX : String → SX → State → Prop} {AX : Nat → Prop} (hr : vx_Run p l e R s m args below meth c H locs cells slots mc ms (F0 m pc ls st0) rest (va_Ql post B A1 a) (vx_X px BX AX) free) (hS : va_S A0 H0 H locs) (hA : ∀ q, q < H.size → A1 q → A0 q) (hf : ∀ q, free q → A0 q) (hAX : ∀ q, q < H.size → AX q → A0 q)
    (kx : ∀ (E : String) (ce : Cell) (q9 : Addr) (u : SX) (t : State) (H1 : Heap) (locs1 : List Loc), t.heap = H1 → s.vm.Alike t.vm → px u → BX E u t → H.size ≤ H1.size → (∀ q : Nat, q < H.size → ¬ AX q → H1[q]? = H[q]?) → va_S A0 H0 H1 locs1 → H1[q9]? = some ce → ce.vm = .none → s.vm.findClass E = some ce.cls → vx_W p l e R s m args below meth c H1 locs1 (cells + mc) (slots + ms) Q (F0 m pc ls rest) q9)
    (kk : ∀ (r : Int64) (u : S) (t : State) (H1 : Heap) (locs1 : List Loc), t.heap = H1 → s.vm.Alike t.vm → post r u → B u t → H.size ≤ H1.size → (∀ q : Nat, q < H.size → ¬ A1 q → H1[q]? = H[q]?) → va_S A0 H0 H1 locs1 → W p l e R s m args below meth c H1 locs1 (cells + mc) (slots + ms) Q (F0 m (pc + 3) ls (.long r :: rest))) : W p l e R s m args below meth c H locs cells slots Q (F0 m pc ls st0) := by
  intro T hT X
  rcases hr T hT X with ⟨v, st₀, t, T', L, h0, X', hL, e1, e2, ⟨⟨r, u, hv, hp, hb⟩, hF⟩, st⟩ | ⟨q, st₀, t, T', L, E, ce, h0, X', hL, e1, e2, ⟨u, hp, hb, hF⟩, hce, hcv, hcl, st⟩
  · cases hv
    obtain ⟨k1, k2, k3⟩ := vx_keep h0 e1 hS hA hf hL hF
    obtain ⟨t2, a1, b1⟩ := kk r u t T'.heap (locs ++ L) e1.symm (by rw [← e2]; exact X'.warmed.alike) hp hb k1 k2 k3 T' rfl X'
    exact ⟨t2, st t2 a1, b1⟩
  · obtain ⟨k1, k2, k3⟩ := vx_keep h0 e1 hS hAX hf hL hF
    obtain ⟨t2, a1, b1⟩ := kx E ce q u t T'.heap (locs ++ L) e1.symm (by rw [← e2]; exact X'.warmed.alike) hp hb k1 k2 k3 (by rw [e1]; exact hce) hcv hcl T' rfl X'
    exact ⟨t2, st.trans a1, b1⟩
theorem vx_callf {S SX : Type} {post : UInt32 → S → Prop} {px : SX → Prop} {B : S → State → Prop} {BX : String → SX → State → Prop} {AX : Nat → Prop} (hr : vx_Run p l e R s m args below meth c H locs cells slots mc ms (F0 m pc ls st0) rest (va_Qf post B A1 a) (vx_X px BX AX) free) (hS : va_S A0 H0 H locs) (hA : ∀ q, q < H.size → A1 q → A0 q) (hf : ∀ q, free q → A0 q) (hAX : ∀ q, q < H.size → AX q → A0 q)
    (kx : ∀ (E : String) (ce : Cell) (q9 : Addr) (u : SX) (t : State) (H1 : Heap) (locs1 : List Loc), t.heap = H1 → s.vm.Alike t.vm → px u → BX E u t → H.size ≤ H1.size → (∀ q : Nat, q < H.size → ¬ AX q → H1[q]? = H[q]?) → va_S A0 H0 H1 locs1 → H1[q9]? = some ce → ce.vm = .none → s.vm.findClass E = some ce.cls → vx_W p l e R s m args below meth c H1 locs1 (cells + mc) (slots + ms) Q (F0 m pc ls rest) q9)
    (kk : ∀ (r : UInt32) (u : S) (t : State) (H1 : Heap) (locs1 : List Loc), t.heap = H1 → s.vm.Alike t.vm → post r u → B u t → H.size ≤ H1.size → (∀ q : Nat, q < H.size → ¬ A1 q → H1[q]? = H[q]?) → va_S A0 H0 H1 locs1 → W p l e R s m args below meth c H1 locs1 (cells + mc) (slots + ms) Q (F0 m (pc + 3) ls (.float r :: rest))) : W p l e R s m args below meth c H locs cells slots Q (F0 m pc ls st0) := by
  intro T hT X
  rcases hr T hT X with ⟨v, st₀, t, T', L, h0, X', hL, e1, e2, ⟨⟨r, u, hv, hp, hb⟩, hF⟩, st⟩ | ⟨q, st₀, t, T', L, E, ce, h0, X', hL, e1, e2, ⟨u, hp, hb, hF⟩, hce, hcv, hcl, st⟩
  · cases hv
    obtain ⟨k1, k2, k3⟩ := vx_keep h0 e1 hS hA hf hL hF
    obtain ⟨t2, a1, b1⟩ := kk r u t T'.heap (locs ++ L) e1.symm (by rw [← e2]; exact X'.warmed.alike) hp hb k1 k2 k3 T' rfl X'
    exact ⟨t2, st t2 a1, b1⟩
  · obtain ⟨k1, k2, k3⟩ := vx_keep h0 e1 hS hAX hf hL hF
    obtain ⟨t2, a1, b1⟩ := kx E ce q u t T'.heap (locs ++ L) e1.symm (by rw [← e2]; exact X'.warmed.alike) hp hb k1 k2 k3 (by rw [e1]; exact hce) hcv hcl T' rfl X'
    exact ⟨t2, st.trans a1, b1⟩
theorem vx_calld {S SX : Type} {post : UInt64 → S → Prop} {px : SX → Prop} {B : S → State → Prop} {BX : String → SX → State → Prop} {AX : Nat → Prop} (hr : vx_Run p l e R s m args below meth c H locs cells slots mc ms (F0 m pc ls st0) rest (va_Qd post B A1 a) (vx_X px BX AX) free) (hS : va_S A0 H0 H locs) (hA : ∀ q, q < H.size → A1 q → A0 q) (hf : ∀ q, free q → A0 q) (hAX : ∀ q, q < H.size → AX q → A0 q)
    (kx : ∀ (E : String) (ce : Cell) (q9 : Addr) (u : SX) (t : State) (H1 : Heap) (locs1 : List Loc), t.heap = H1 → s.vm.Alike t.vm → px u → BX E u t → H.size ≤ H1.size → (∀ q : Nat, q < H.size → ¬ AX q → H1[q]? = H[q]?) → va_S A0 H0 H1 locs1 → H1[q9]? = some ce → ce.vm = .none → s.vm.findClass E = some ce.cls → vx_W p l e R s m args below meth c H1 locs1 (cells + mc) (slots + ms) Q (F0 m pc ls rest) q9)
    (kk : ∀ (r : UInt64) (u : S) (t : State) (H1 : Heap) (locs1 : List Loc), t.heap = H1 → s.vm.Alike t.vm → post r u → B u t → H.size ≤ H1.size → (∀ q : Nat, q < H.size → ¬ A1 q → H1[q]? = H[q]?) → va_S A0 H0 H1 locs1 → W p l e R s m args below meth c H1 locs1 (cells + mc) (slots + ms) Q (F0 m (pc + 3) ls (.double r :: rest))) : W p l e R s m args below meth c H locs cells slots Q (F0 m pc ls st0) := by
  intro T hT X
  rcases hr T hT X with ⟨v, st₀, t, T', L, h0, X', hL, e1, e2, ⟨⟨r, u, hv, hp, hb⟩, hF⟩, st⟩ | ⟨q, st₀, t, T', L, E, ce, h0, X', hL, e1, e2, ⟨u, hp, hb, hF⟩, hce, hcv, hcl, st⟩
  · cases hv
    obtain ⟨k1, k2, k3⟩ := vx_keep h0 e1 hS hA hf hL hF
    obtain ⟨t2, a1, b1⟩ := kk r u t T'.heap (locs ++ L) e1.symm (by rw [← e2]; exact X'.warmed.alike) hp hb k1 k2 k3 T' rfl X'
    exact ⟨t2, st t2 a1, b1⟩
  · obtain ⟨k1, k2, k3⟩ := vx_keep h0 e1 hS hAX hf hL hF
    obtain ⟨t2, a1, b1⟩ := kx E ce q u t T'.heap (locs ++ L) e1.symm (by rw [← e2]; exact X'.warmed.alike) hp hb k1 k2 k3 (by rw [e1]; exact hce) hcv hcl T' rfl X'
    exact ⟨t2, st.trans a1, b1⟩
theorem vx_callv {S SX : Type} {post : S → Prop} {px : SX → Prop} {B : S → State → Prop} {BX : String → SX → State → Prop} {AX : Nat → Prop} (hr : vx_Run p l e R s m args below meth c H locs cells slots mc ms (F0 m pc ls st0) rest (va_Qv post B A1 a) (vx_X px BX AX) free) (hS : va_S A0 H0 H locs) (hA : ∀ q, q < H.size → A1 q → A0 q) (hf : ∀ q, free q → A0 q) (hAX : ∀ q, q < H.size → AX q → A0 q)
    (kx : ∀ (E : String) (ce : Cell) (q9 : Addr) (u : SX) (t : State) (H1 : Heap) (locs1 : List Loc), t.heap = H1 → s.vm.Alike t.vm → px u → BX E u t → H.size ≤ H1.size → (∀ q : Nat, q < H.size → ¬ AX q → H1[q]? = H[q]?) → va_S A0 H0 H1 locs1 → H1[q9]? = some ce → ce.vm = .none → s.vm.findClass E = some ce.cls → vx_W p l e R s m args below meth c H1 locs1 (cells + mc) (slots + ms) Q (F0 m pc ls rest) q9)
    (kk : ∀ (u : S) (t : State) (H1 : Heap) (locs1 : List Loc), t.heap = H1 → s.vm.Alike t.vm → post u → B u t → H.size ≤ H1.size → (∀ q : Nat, q < H.size → ¬ A1 q → H1[q]? = H[q]?) → va_S A0 H0 H1 locs1 → W p l e R s m args below meth c H1 locs1 (cells + mc) (slots + ms) Q (F0 m (pc + 3) ls (rest))) : W p l e R s m args below meth c H locs cells slots Q (F0 m pc ls st0) := by
  intro T hT X
  rcases hr T hT X with ⟨v, st₀, t, T', L, h0, X', hL, e1, e2, ⟨⟨u, hv, hp, hb⟩, hF⟩, st⟩ | ⟨q, st₀, t, T', L, E, ce, h0, X', hL, e1, e2, ⟨u, hp, hb, hF⟩, hce, hcv, hcl, st⟩
  · cases hv
    obtain ⟨k1, k2, k3⟩ := vx_keep h0 e1 hS hA hf hL hF
    obtain ⟨t2, a1, b1⟩ := kk u t T'.heap (locs ++ L) e1.symm (by rw [← e2]; exact X'.warmed.alike) hp hb k1 k2 k3 T' rfl X'
    exact ⟨t2, st t2 a1, b1⟩
  · obtain ⟨k1, k2, k3⟩ := vx_keep h0 e1 hS hAX hf hL hF
    obtain ⟨t2, a1, b1⟩ := kx E ce q u t T'.heap (locs ++ L) e1.symm (by rw [← e2]; exact X'.warmed.alike) hp hb k1 k2 k3 (by rw [e1]; exact hce) hcv hcl T' rfl X'
    exact ⟨t2, st.trans a1, b1⟩
/-- caught by the row x of this method's table; the rows ahead don't take it -/
theorem vx_catch {own name : String} {E : String} {ce : Cell} {q : Addr} (hown : s.vm.findClass own = some m.cls) (pre : List ExceptionTableEntry) (x : ExceptionTableEntry) (suf : List ExceptionTableEntry) (hsplit : c.exceptionTable.toList = pre ++ x :: suf)
    (hpass : ∀ z ∈ pre, covers z pc = false ∨ (z.catchType ≠ 0 ∧ ∃ nm : String, (Cond.classLink own z.catchType nm).before args s = true ∧ va_Nc E nm s)) (hx : covers x pc = true) (h0 : x.catchType ≠ 0)
    (hlink : (Cond.classLink own x.catchType name).before args s = true) (hcast : (Cond.castable E name).before args s = true) (hcell : H[q]? = some ce) (hv : ce.vm = .none) (hcl : s.vm.findClass E = some ce.cls)
    (kk : W p l e R s m args below meth c H locs cells slots Q (F0 m x.handlerPc ls [.ref q])) : vx_W p l e R s m args below meth c H locs cells slots Q (F0 m pc ls rest) q := by
  intro T hT X
  have hpl : e.platform.magicAccessors = ({} : Platform).magicAccessors := by rw [X.admits.platform]
  obtain ⟨c3, c4, hc3, hc4, hasg⟩ := Cond.castable_spec hcast
  cases Option.some.inj (hc3.symm.trans hcl)
  obtain ⟨c5, hc5, hcl5⟩ := Cond.classLink_spec hown hlink e.platform hpl
  cases Option.some.inj (hc4.symm.trans hc5)
  obtain ⟨vm', X', st⟩ := X.thenCaughtThrough q (g := F0 m pc ls rest) rfl (Steps.refl _) (by rw [hT]; exact hcell) (by rw [hv]; rfl) (by obtain ⟨k9, h9, -⟩ := Vm.findClass_spec hcl; exact ⟨k9, h9⟩) pre x suf hsplit
    (fun z hz => by
      rcases hpass z hz with h | ⟨hz0, nm, hl1, hn1⟩
      · exact Or.inl h
      · obtain ⟨c6, hc6, hcl6⟩ := Cond.classLink_spec hown hl1 e.platform hpl
        obtain ⟨a8, b8, h1, h2, h3⟩ := hn1
        cases Option.some.inj (h1.symm.trans hcl)
        cases Option.some.inj (h2.symm.trans hc6)
        exact Or.inr ⟨hz0, _, hcl6, h3⟩) hx (Or.inr ⟨h0, c4, hcl5, hasg⟩)
  obtain ⟨t, a1, b1⟩ := kk (T.setVm vm') hT X'
  exact ⟨t, st.trans a1, b1⟩
end Rows
section Ends
variable {p : Program} {l : Launch} {e : Env} {R : Room} {s : State} {m : MethodId} {args : Array Value} {below : List Frame} {meth : Method} {c : Code} {H : Heap} {locs : List Loc} {cells slots : Nat} {Q : State → Prop}
variable {mc ms : Nat} {free : Addr → Prop} {A0 A1 : Nat → Prop} {H0 : Heap} {a : Array Value} {ls : Array Slot} {st0 rest : List Value}
variable {Qc : Array Value → State → Outcome → State → Prop} {XC : String → State → State → Prop}
/-- what a body that may throw owes at its end -/
def vx_MQ (below : List Frame) (Qc : Array Value → State → Outcome → State → Prop) (XC : String → State → State → Prop) (a : Array Value) (s : State) (mc ms : Nat) (free : Addr → Prop) : State → Prop := fun t =>
  ∃ o, t.status = .running ∧ Ended t below o ∧ vx_Q Qc XC mc ms free a s o t
theorem vx_ret {g : JFrame} {mc ms : Nat} (k : W p l e R s m args below meth c H locs cells slots (MQ below Qc args s mc ms free) g) : W p l e R s m args below meth c H locs cells slots (vx_MQ below Qc XC args s mc ms free) g := by
  intro T hT X
  obtain ⟨t, a1, o, b1, b2, b3, b4⟩ := k T hT X
  exact ⟨t, a1, o, b1, b2, Or.inl ⟨b3, b4⟩⟩
/-- not caught here: it goes on to the caller -/
theorem vx_widen {g : JFrame} {q : Addr} {k n : Nat} (h1 : cells ≤ k) (h2 : slots ≤ n) (kk : vx_W p l e R s m args below meth c H locs k n Q g q) : vx_W p l e R s m args below meth c H locs cells slots Q g q := fun T hT X => kk T hT (stand_widen X h1 h2)
theorem vx_out {pc : Nat} {E : String} {ce : Cell} {q : Addr} {mc ms : Nat} (hout : ∀ x ∈ c.exceptionTable.toList, covers x pc = false) (hlocks : meth.locks = false) (hcell : H[q]? = some ce) (hv : ce.vm = .none) (hcl : s.vm.findClass E = some ce.cls)
    (hx : ∀ t : State, t.heap = H → s.vm.Alike t.vm → XC E s t) (hf : ∀ z ∈ locs, free z.base) (hc : cells ≤ mc) (hs : slots ≤ ms) :
    vx_W p l e R s m args below meth c H locs cells slots (vx_MQ below Qc XC args s mc ms free) (F0 m pc ls rest) q := by
  intro T hT X
  obtain ⟨st1, hrun, hend, hW, hsm⟩ := X.leaveThrown q (g := F0 m pc ls rest) rfl rfl rfl hout hlocks
  have hcell9 : (T.setFrames (.throwing q :: below)).heap[q]? = some ce := by
    show T.heap[q]? = some ce
    rw [hT]; exact hcell
  exact ⟨_, st1, .threw q, hrun, hend, Or.inr ⟨q, rfl, E, ce, locs, hx _ hT hW.alike, hcell9, hv, hcl, hW, hsm.mono hc hs, hf⟩⟩
theorem vx_frame {U : State} {k n : Nat} (h : s.sameButNew ({ U with vm := s.vm } : State) locs k n) : s.heap.size ≤ U.heap.size ∧ ∀ q : Nat, q < s.heap.size → (∀ z ∈ locs, z.base ≠ q) → U.heap[q]? = s.heap[q]? := by
  obtain ⟨-, h2, -, -, -, h6⟩ := h
  refine ⟨h2, fun q hq hz => ?_⟩
  obtain ⟨c9, e1, e2, e3, e4⟩ := h6 q _ (Array.getElem?_eq_getElem hq)
  have hs : c9.slots = (s.heap[q]).slots := Array.ext_getElem? fun i => e4 i fun hm => hz _ hm rfl
  have h9 : c9 = s.heap[q] := by
    rw [hs] at e2
    exact e2
  have e5 : U.heap[q]? = some c9 := e1
  rw [e5, h9, Array.getElem?_eq_getElem hq]
/-- the words of a throw but the four that speak of the heap -/
def vx_no (w : Cond) : Bool := decide (w ≠ .isRef (.static Bundle.tN "UNASSIGNED_STACK" Bundle.steD)) && decide (w ≠ .isRef (.static Bundle.tN "SUPPRESSED_SENTINEL" Bundle.listD)) && decide (w ≠ .laysStatic Bundle.tN "UNASSIGNED_STACK" Bundle.steD) && decide (w ≠ .laysStatic Bundle.tN "SUPPRESSED_SENTINEL" Bundle.listD)
def vx_at0 (own : String) (ic : Nat) (X : String) (names : List String) : List Cond := (Bundle.ownAtoms0 own ic X names).filter vx_no
def vx_atS (own : String) (ic : Nat) (X : String) (names : List String) : List Cond := (Bundle.ownAtoms own ic X names).filter vx_no
/-- a word that the tables alone decide, or a good one -/
def vx_ot (w : Cond) : Bool := w.onTables || goodWord w
theorem vx_ot_at {args a' : Array Value} {s U : State} {w : Cond} (hW : s.WarmedH U.vm) (hvm : s.vm = U.vm) (hg : vx_ot w = true) (h : w.before args s = true) : w.before a' U = true := by
  simp only [vx_ot, Bool.or_eq_true] at hg
  rcases hg with hg | hg
  · exact va_tabs hg hvm h
  · exact word_at hW (good_of_word hg) h
/-- a list's words: the good ones out of the method's own list, the others by premises of their own -/
theorem vx_hat {args : Array Value} {s : State} {L B : List Cond} (h1 : ∀ w ∈ L.filter goodWord, w.before args s = true) (h2 : ∀ w ∈ L.filter (fun w => !goodWord w), w ∈ B) (h3 : ∀ w ∈ B, w.before args s = true) : ∀ w ∈ L, w.before args s = true := by
  intro w hw
  by_cases g : goodWord w = true
  · exact h1 w (List.mem_filter.mpr ⟨hw, g⟩)
  · refine h3 w (h2 w (List.mem_filter.mpr ⟨hw, ?_⟩))
    show (!goodWord w) = true
    cases hgw : goodWord w
    · rfl
    · exact absurd hgw g
theorem vx_c {args : Array Value} {s : State} {w : Cond} {B : List Cond} (h : w.before args s = true) (t : ∀ w ∈ B, w.before args s = true) : ∀ w' ∈ w :: B, w'.before args s = true := fun w' h' => (List.mem_cons.mp h').elim (fun e => by rw [e]; exact h) (t w')
theorem vx_n {args : Array Value} {s : State} : ∀ w ∈ ([] : List Cond), w.before args s = true := fun _ h => nomatch h
theorem vx_own {args : Array Value} {s : State} {L : List Cond} (h1 : ∀ w ∈ L.filter vx_no, w.before args s = true)
    (hU : (Cond.isRef (.static Bundle.tN "UNASSIGNED_STACK" Bundle.steD)).before args s = true) (hN : (Cond.isRef (.static Bundle.tN "SUPPRESSED_SENTINEL" Bundle.listD)).before args s = true)
    (lU : (Cond.laysStatic Bundle.tN "UNASSIGNED_STACK" Bundle.steD).before args s = true) (lN : (Cond.laysStatic Bundle.tN "SUPPRESSED_SENTINEL" Bundle.listD).before args s = true) : ∀ w ∈ L, w.before args s = true := by
  intro w hw
  by_cases e1 : w = .isRef (.static Bundle.tN "UNASSIGNED_STACK" Bundle.steD)
  · rw [e1]; exact hU
  · by_cases e2 : w = .isRef (.static Bundle.tN "SUPPRESSED_SENTINEL" Bundle.listD)
    · rw [e2]; exact hN
    · by_cases e3 : w = .laysStatic Bundle.tN "UNASSIGNED_STACK" Bundle.steD
      · rw [e3]; exact lU
      · by_cases e4 : w = .laysStatic Bundle.tN "SUPPRESSED_SENTINEL" Bundle.listD
        · rw [e4]; exact lN
        · exact h1 w (List.mem_filter.mpr ⟨hw, by unfold vx_no; rw [decide_eq_true e1, decide_eq_true e2, decide_eq_true e3, decide_eq_true e4]; rfl⟩)
/-- where a static field lies, its class's statics cell in H -/
def vx_L (C n d : String) (A : Nat → Prop) (U : State) (H : Heap) : Prop := ∃ (c : ClassId) (k : Class) (i : Nat) (f : Field) (a : Nat) (cell : Cell), U.vm.findClass C = some c ∧ U.fieldFound? C n d = some (c, k, i, f) ∧ f.isStatic = true ∧ k.statics = some a ∧ H[a]? = some cell ∧ cell.vm.isStatics = true ∧ cell.cls = c ∧ f.slot < cell.slots.size ∧ k.staticTypes[f.slot]? = some f.type ∧ ¬ A a
theorem vx_L.moved {C n d : String} {A : Nat → Prop} {u U : State} {H : Heap} (hvm : u.vm.Alike U.vm) (h : vx_L C n d A u H) : vx_L C n d A U H := by
  obtain ⟨c, k, i, f, a, cell, h1, h2, h3, h4, h5, h6, h7, h8, h9, h10⟩ := h
  obtain ⟨k', hi', he⟩ := State.fieldFound?_setVm hvm h2
  exact ⟨c, k', i, f, a, cell, by rw [hvm.findClass]; exact h1, hi', h3, by rw [he]; exact h4, h5, h6, h7, h8, by rw [he]; exact h9, h10⟩
theorem vx_L.kept {C n d : String} {A : Nat → Prop} {U : State} {H H1 : Heap} (h : vx_L C n d A U H) (hq : ∀ a : Nat, a < H.size → ¬ A a → H1[a]? = H[a]?) : vx_L C n d A U H1 := by
  obtain ⟨c, k, i, f, a, cell, h1, h2, h3, h4, h5, h6, h7, h8, h9, h10⟩ := h
  exact ⟨c, k, i, f, a, cell, h1, h2, h3, h4, by rw [hq a (Array.getElem?_eq_some_iff.mp h5).1 h10]; exact h5, h6, h7, h8, h9, h10⟩
theorem vx_L.narrow {C n d : String} {A B : Nat → Prop} {U : State} {H : Heap} (h : vx_L C n d A U H) (hAB : ∀ q, B q → A q) : vx_L C n d B U H := by
  obtain ⟨c, k, i, f, a, cell, h1, h2, h3, h4, h5, h6, h7, h8, h9, h10⟩ := h
  exact ⟨c, k, i, f, a, cell, h1, h2, h3, h4, h5, h6, h7, h8, h9, fun z => h10 (hAB _ z)⟩
theorem vx_L.word {C n d : String} {A : Nat → Prop} {s : State} {args : Array Value} (h : vx_L C n d A s s.heap) : (Cond.laysStatic C n d).before args s = true := by
  obtain ⟨c, k, i, f, a, cell, h1, h2, h3, h4, h5, h6, h7, h8, h9, -⟩ := h
  show (Cond.laysStatic C n d).holds args s none s [] = true
  exact Cond.laysStatic_of h1 h2 h3 h4 h5 h6 h7 h8 h9
/-- .. and what it holds: null or some reference -/
def vx_Zq (C n d : String) (A : Nat → Prop) (U : State) (H : Heap) : Prop := va_Zq C n d A U H ∧ vx_L C n d A U H
theorem vx_Zq.moved {C n d : String} {A : Nat → Prop} {u U : State} {H : Heap} (hvm : u.vm.Alike U.vm) (h : vx_Zq C n d A u H) : vx_Zq C n d A U H := ⟨va_Zq.moved hvm h.1, vx_L.moved hvm h.2⟩
theorem vx_Zq.kept {C n d : String} {A : Nat → Prop} {U : State} {H H1 : Heap} (h : vx_Zq C n d A U H) (hq : ∀ a : Nat, a < H.size → ¬ A a → H1[a]? = H[a]?) : vx_Zq C n d A U H1 := ⟨va_Zq.kept h.1 hq, vx_L.kept h.2 hq⟩
theorem vx_Zq.narrow {C n d : String} {A B : Nat → Prop} {U : State} {H : Heap} (h : vx_Zq C n d A U H) (hAB : ∀ q, B q → A q) : vx_Zq C n d B U H := ⟨va_Zq.narrow h.1 hAB, vx_L.narrow h.2 hAB⟩
theorem vx_Zqof {args : Array Value} {s : State} {C n d : String} {A : Nat → Prop} (hl : (Cond.laysStatic C n d).before args s = true) (hini : (Cond.initialized C).before args s = true) (h : (Cond.isRef (.static C n d)).before args s = true) (hA : ∀ a : Nat, a < s.heap.size → ¬ A a) : vx_Zq C n d A s s.heap := by
  refine ⟨va_Zqof hl hini h hA, ?_⟩
  obtain ⟨c, k, i, f, a, cell, h1, h2, h3, h4, h5, h6, h7, h8, h9⟩ := Cond.laysStatic_spec hl
  exact ⟨c, k, i, f, a, cell, h1, h2, h3, h4, h5, h6, h7, h8, h9, hA a (Array.getElem?_eq_some_iff.mp h5).1⟩
theorem vx_isRef {C n d : String} {v : Value} {A : Nat → Prop} {s : State} {args : Array Value} (h : va_Z C n d v A s s.heap) (hv : v.isRef = true) : (Cond.isRef (.static C n d)).before args s = true := by
  obtain ⟨cf, kf, fi, f, a, cell, h1, h2, h3, h4, h5, h6, h7, -⟩ := h
  have he : (Term.static C n d).eval args s none [] s = some v := by
    simp [Term.eval, State.fieldNamed?, h1, h2, h4, h5, h6, h7]
  simp only [Cond.before, Cond.holds, Cond.value, he]
  cases v <;> simp_all [Value.isRef]
theorem vx_isRefq {C n d : String} {A : Nat → Prop} {s : State} {args : Array Value} (h : va_Zq C n d A s s.heap) : (Cond.isRef (.static C n d)).before args s = true := by
  rcases h with h | ⟨t, h⟩
  · exact vx_isRef h rfl
  · exact vx_isRef h rfl
/-- the same frame, seen from here: as if the method were called anew in this heap -/
theorem vx_rebase {T : State} (X : Stand p l e R s m args below meth c T locs cells slots) {R' : Room} (hf : R'.frames ≤ R.frames) (hl : R'.locals ≤ R.locals) (hc : cells + R'.cells ≤ R.cells) (hs : slots + R'.slots ≤ R.slots) :
    Stand p l e R' ((T.setVm s.vm).setFrames (.invoking m args :: below)) m args below meth c T [] 0 0 := by
  have htop : (T.setVm s.vm).topJava?.isSome := X.here.top
  have hF : ((T.setVm s.vm).setFrames (.invoking m args :: below)).frames = .invoking m args :: below := State.frames_setFrames _ (State.cur_lt_of_top htop)
  obtain ⟨g₀, hg0⟩ := Option.isSome_iff_exists.mp htop
  obtain ⟨r, hr⟩ := State.topJava?_eq_some.mp hg0
  have hl9 : e.platform.stackLimits (T.setVm s.vm).me = e.platform.stackLimits s.me := X.limits
  have hb9 : (T.setVm s.vm).me.stackBytes = s.me.stackBytes := X.bytes
  refine ⟨X.admits, X.cas, X.clock, hF, ?_, X.hears, X.method, X.code, X.here, X.tail, X.warmed, ?_, ?_, ?_⟩
  · have h := X.room
    have hU : ((T.setVm s.vm).setFrames (.invoking m args :: below)).localsInUse = s.localsInUse := by
      rw [State.localsInUse_invoking hF (meth := meth) (c := c) X.method X.code, State.localsInUse_invoking X.frames X.method X.code]
    simp only [State.hasRoom, Bool.and_eq_true, decide_eq_true_eq] at h ⊢
    obtain ⟨⟨⟨⟨h1, h2, h3, h4, h5, h6⟩, h7⟩, h8⟩, h9⟩ := h
    rw [X.frames, List.length_cons] at h2 h3
    have q1 := X.heapSize
    have q2 := X.used
    simp only [hF, hU, List.length_cons, State.stackLimits_setFrames, State.stackBytes_setFrames, hl9, hb9]
    refine ⟨⟨⟨⟨by omega, by omega, by omega, by omega, by omega, h6⟩, ?_⟩, ?_⟩, X.book⟩
    · show T.heap.size + R'.cells ≤ e.platform.maxCells
      omega
    · show T.slotsUsed + R'.slots ≤ e.platform.maxSlots
      omega
  · rw [State.stackLimits_setFrames]; rfl
  · rw [State.stackBytes_setFrames]; rfl
  · refine ⟨?_, Nat.le_refl _, Nat.le_refl _, ?_, ?_, fun a c9 h9 => ⟨c9, h9, rfl, rfl, fun _ _ => rfl⟩⟩
    · obtain ⟨t, ht, -⟩ := State.frames_cons hr
      show T.setVm s.vm = { ((T.setVm s.vm).setFrames (.invoking m args :: below)).setFrames (T.setVm s.vm).frames with heap := T.heap, slotsUsed := T.slotsUsed }
      rw [State.setFrames_setFrames, State.setFrames_self ht]
      rfl
    · show T.slotsUsed = T.slotsUsed + ((T.heap.toList.drop T.heap.size).map (·.slots.size)).sum
      rw [List.drop_eq_nil_of_le (Nat.le_of_eq Array.length_toList)]
      rfl
    · show ((T.heap.toList.drop T.heap.size).map (·.slots.size)).sum ≤ 0
      rw [List.drop_eq_nil_of_le (Nat.le_of_eq Array.length_toList)]
      exact Nat.le_refl _
/-- 'throw new E()': new; dup; invokespecial; athrow -/
theorem vx_throw0 {cc : ByteArray} {pc : Nat} (hexec : p.tables.exec = Jvm.exec) (hb : c.code = cc) (hl : l.stackTraces = false) {own cls : String} {names : List String} {ik ic mc ms : Nat} {A : Nat → Prop}
    (hown : s.vm.findClass own = some m.cls) (hcls : Bundle.fit cls = true) (hnames : ∀ n ∈ names, Bundle.fit n = true)
    (hk : (Cond.classLink own ik cls).before args s = true) (hini : (Cond.initialized cls).before args s = true) (hat : ∀ w ∈ vx_at0 own ic cls names, w.before args s = true)
    (hgood : ∀ w ∈ Cond.classLink own ik cls :: Cond.initialized cls :: vx_at0 own ic cls names, vx_ot w = true)
    (hU : vx_Zq Bundle.tN "UNASSIGNED_STACK" Bundle.steD A s s.heap) (hN : vx_Zq Bundle.tN "SUPPRESSED_SENTINEL" Bundle.listD A s s.heap) (hS : va_S A s.heap H locs) (hsize : ls.size = c.maxLocals)
    (d0 : decode cc pc = .ok (.new ik, 3)) (d3 : decode cc (pc + 3) = .ok (.dup, 1)) (d4 : decode cc (pc + 4) = .ok (.invokespecial ic, 3)) (d7 : decode cc (pc + 7) = .ok (.athrow, 1))
    (hout : ∀ x ∈ c.exceptionTable.toList, covers x (pc + 7) = false)
    (hRframes : names.length + 3 < R.frames) (hRlocals : (rest.map fun v => v.category).sum + (13 * (names.length + 1) + 42) ≤ R.locals) (hRcells : cells + 1 ≤ R.cells) (hRslots : slots + 6 ≤ R.slots) (hlocks : meth.locks = false)
    (hx : ∀ t : State, s.vm.Alike t.vm → H.size ≤ t.heap.size → (∀ q : Nat, q < H.size → t.heap[q]? = H[q]?) → XC cls s t)
    (hf : ∀ z ∈ locs, free z.base) (hc : cells + 1 ≤ mc) (hs : slots + 6 ≤ ms) :
    W p l e R s m args below meth c H locs cells slots (vx_MQ below Qc XC args s mc ms free) (F0 m pc ls rest) := by
  intro T hT X
  have htr : e.platform.stackTraces = false := (show e.platform.stackTraces = l.stackTraces by rw [X.admits.platform]).trans hl
  have Y := vx_rebase X (R' := { frames := R.frames, locals := R.locals, cells := 1, slots := 6 }) (Nat.le_refl _) (Nat.le_refl _) hRcells hRslots
  obtain ⟨s', hA⟩ : ∃ z, z = (T.setVm s.vm).setFrames (.invoking m args :: below) := ⟨_, rfl⟩
  rw [← hA] at Y
  have hvm : s'.vm = s.vm := by rw [hA]; rfl
  have hhp : s'.heap = H := by rw [hA]; exact hT
  have hW0 : s.WarmedH s'.vm := by rw [hvm]; exact State.WarmedH.refl s
  have hat' : ∀ w ∈ vx_at0 own ic cls names, w.before args s' = true := fun w hw => vx_ot_at hW0 hvm.symm (hgood w (List.mem_cons_of_mem _ (List.mem_cons_of_mem _ hw))) (hat w hw)
  have hk' : (Cond.classLink own ik cls).before args s' = true := vx_ot_at hW0 hvm.symm (hgood _ List.mem_cons_self) hk
  have hini' : (Cond.initialized cls).before args s' = true := vx_ot_at hW0 hvm.symm (hgood _ (List.mem_cons_of_mem _ List.mem_cons_self)) hini
  have hU' : vx_Zq Bundle.tN "UNASSIGNED_STACK" Bundle.steD A s' s'.heap := by rw [hhp]; exact vx_Zq.moved hW0.alike (hU.kept hS.2.1)
  have hN' : vx_Zq Bundle.tN "SUPPRESSED_SENTINEL" Bundle.listD A s' s'.heap := by rw [hhp]; exact vx_Zq.moved hW0.alike (hN.kept hS.2.1)
  have h : ∀ w ∈ Bundle.ownAtoms0 own ic cls names, w.before args s' = true := vx_own hat' (vx_isRefq hU'.1) (vx_isRefq hN'.1) hU'.2.word hN'.2.word
  have hown' : s'.vm.findClass own = some m.cls := by rw [hvm]; exact hown
  have hins : (Cond.instantiable cls 6).before args s' = true := h _ (by simp [Bundle.ownAtoms0])
  obtain ⟨vm₁, cX, kX, hfX, hkX, -, -, X₁, st1⟩ := Y.newCold hexec (own := own) (C := cls) (index := ik) (n := 6) hown' hk' hins hini'
    (g := F0 m pc ls rest) rfl (by rw [hb]; exact d0) (Nat.le_refl _) (Nat.le_refl _)
  generalize hT1 : (T.setVm vm₁).pushCell { cls := cX, slots := kX.instanceTypes.map defaultValue, vm := .none } = T1 at X₁ st1
  have hcat : (Value.ref T.heap.size).category = 1 := rfl
  have hcellA : T1.heap[T.heap.size]? = some (freshCell cX kX) := by rw [← hT1]; exact State.heap_pushCell_size _ _
  have d3' : decode c.code (pc + 3) = .ok (.dup, 1) := by rw [hb]; exact d3
  obtain ⟨U, hsteps, hrun, hend, hW, hsame, ce, hce, hO⟩ := X₁.ctorThrow0 hexec htr (own := own) (cls := cls) (names := names) (ic := ic) hown' hcls hnames h (fun x hx => nomatch hx) hfX hkX hcellA (by rw [hhp, hT]; exact Nat.le_refl _)
    (g := { method := m, pc := pc + 4, locals := ls, stack := .ref T.heap.size :: .ref T.heap.size :: rest, locked := none }) rfl hsize rfl rfl (rest := rest) rfl
    (by rw [hb]; exact d4) (by rw [hb]; exact d7) hout hRframes (by simp only [List.map_cons, List.sum_cons, hcat]; omega) hlocks
  obtain ⟨f1, f2⟩ := vx_frame hsame
  rw [hhp] at f1 f2
  have hWs : s.WarmedH U.vm := State.WarmedH.trans hW0 hW
  have hcl : s.vm.findClass cls = some ce.cls := by
    have h9 := hO.cls
    rw [hvm] at h9
    exact h9
  have hall : s.sameButNew ({ U with vm := s.vm } : State) locs mc ms := by
    subst hA
    obtain ⟨e1, e2⟩ := hsame
    rw [State.setFrames_setFrames] at e1
    have h2 : (T.setVm s.vm).sameButNew ({ U with vm := s.vm } : State) [] (0 + 1) (0 + 6) := ⟨e1, e2⟩
    have h3 := X.same.trans h2
    rw [List.append_nil] at h3
    exact h3.mono hc hs
  refine ⟨U, ?_, .threw T.heap.size, hrun, hend, Or.inr ⟨T.heap.size, rfl, cls, ce, locs, hx U hWs.alike f1 (fun q hq => f2 q hq (fun z hz => nomatch hz)), hce, hO.vm, hcl, hWs, hall, hf⟩⟩
  refine st1 _ ?_
  show Steps p.tables e below (T1.setTop { method := m, pc := pc + 3, locals := ls, stack := .ref T.heap.size :: rest, locked := none }) _
  jvm_step X₁.here [X₁.here.top, hexec, d3', Value.category]
  exact hsteps
/-- 'throw new E("text")': new; dup; ldc; invokespecial; athrow -/
theorem vx_throwS {cc : ByteArray} {pc : Nat} (hexec : p.tables.exec = Jvm.exec) (hb : c.code = cc) (hl : l.stackTraces = false) {own cls text : String} {names : List String} {ik is ic mc ms sa : Nat} {A : Nat → Prop}
    (hown : s.vm.findClass own = some m.cls) (hcls : Bundle.fit cls = true) (hnames : ∀ n ∈ names, Bundle.fit n = true)
    (hk : (Cond.classLink own ik cls).before args s = true) (hini : (Cond.initialized cls).before args s = true) (hstr : vk_R own is text sa s) (hat : ∀ w ∈ vx_atS own ic cls names, w.before args s = true)
    (hgood : ∀ w ∈ Cond.classLink own ik cls :: Cond.initialized cls :: vx_atS own ic cls names, vx_ot w = true)
    (hU : vx_Zq Bundle.tN "UNASSIGNED_STACK" Bundle.steD A s s.heap) (hN : vx_Zq Bundle.tN "SUPPRESSED_SENTINEL" Bundle.listD A s s.heap) (hS : va_S A s.heap H locs) (hsize : ls.size = c.maxLocals)
    (d0 : decode cc pc = .ok (.new ik, 3)) (d3 : decode cc (pc + 3) = .ok (.dup, 1)) (d4 : decode cc (pc + 4) = .ok (.ldc is, 2)) (d6 : decode cc (pc + 6) = .ok (.invokespecial ic, 3)) (d9 : decode cc (pc + 9) = .ok (.athrow, 1))
    (hout : ∀ x ∈ c.exceptionTable.toList, covers x (pc + 9) = false)
    (hRframes : names.length + 3 < R.frames) (hRlocals : (rest.map fun v => v.category).sum + (13 * (names.length + 1) + 43) ≤ R.locals) (hRcells : cells + 1 ≤ R.cells) (hRslots : slots + 6 ≤ R.slots) (hlocks : meth.locks = false)
    (hx : ∀ t : State, s.vm.Alike t.vm → H.size ≤ t.heap.size → (∀ q : Nat, q < H.size → t.heap[q]? = H[q]?) → XC cls s t)
    (hf : ∀ z ∈ locs, free z.base) (hc : cells + 1 ≤ mc) (hs : slots + 6 ≤ ms) :
    W p l e R s m args below meth c H locs cells slots (vx_MQ below Qc XC args s mc ms free) (F0 m pc ls rest) := by
  intro T hT X
  have htr : e.platform.stackTraces = false := (show e.platform.stackTraces = l.stackTraces by rw [X.admits.platform]).trans hl
  have Y := vx_rebase X (R' := { frames := R.frames, locals := R.locals, cells := 1, slots := 6 }) (Nat.le_refl _) (Nat.le_refl _) hRcells hRslots
  obtain ⟨s', hA⟩ : ∃ z, z = (T.setVm s.vm).setFrames (.invoking m args :: below) := ⟨_, rfl⟩
  rw [← hA] at Y
  have hvm : s'.vm = s.vm := by rw [hA]; rfl
  have hhp : s'.heap = H := by rw [hA]; exact hT
  have hW0 : s.WarmedH s'.vm := by rw [hvm]; exact State.WarmedH.refl s
  have hat' : ∀ w ∈ vx_atS own ic cls names, w.before args s' = true := fun w hw => vx_ot_at hW0 hvm.symm (hgood w (List.mem_cons_of_mem _ (List.mem_cons_of_mem _ hw))) (hat w hw)
  have hk' : (Cond.classLink own ik cls).before args s' = true := vx_ot_at hW0 hvm.symm (hgood _ List.mem_cons_self) hk
  have hini' : (Cond.initialized cls).before args s' = true := vx_ot_at hW0 hvm.symm (hgood _ (List.mem_cons_of_mem _ List.mem_cons_self)) hini
  have hU' : vx_Zq Bundle.tN "UNASSIGNED_STACK" Bundle.steD A s' s'.heap := by rw [hhp]; exact vx_Zq.moved hW0.alike (hU.kept hS.2.1)
  have hN' : vx_Zq Bundle.tN "SUPPRESSED_SENTINEL" Bundle.listD A s' s'.heap := by rw [hhp]; exact vx_Zq.moved hW0.alike (hN.kept hS.2.1)
  have h : ∀ w ∈ Bundle.ownAtoms own ic cls names, w.before args s' = true := vx_own hat' (vx_isRefq hU'.1) (vx_isRefq hN'.1) hU'.2.word hN'.2.word
  have hown' : s'.vm.findClass own = some m.cls := by rw [hvm]; exact hown
  have hins : (Cond.instantiable cls 6).before args s' = true := h _ (by simp [Bundle.ownAtoms])
  obtain ⟨vm₁, cX, kX, hfX, hkX, -, -, X₁, st1⟩ := Y.newCold hexec (own := own) (C := cls) (index := ik) (n := 6) hown' hk' hins hini'
    (g := F0 m pc ls rest) rfl (by rw [hb]; exact d0) (Nat.le_refl _) (Nat.le_refl _)
  generalize hT1 : (T.setVm vm₁).pushCell { cls := cX, slots := kX.instanceTypes.map defaultValue, vm := .none } = T1 at X₁ st1
  have hcat : (Value.ref T.heap.size).category = 1 := rfl
  have hcellA : T1.heap[T.heap.size]? = some (freshCell cX kX) := by rw [← hT1]; exact State.heap_pushCell_size _ _
  have d3' : decode c.code (pc + 3) = .ok (.dup, 1) := by rw [hb]; exact d3
  have d4' : decode c.code (pc + 4) = .ok (.ldc is, 2) := by rw [hb]; exact d4
  have hstr' : vk_R own is text sa s' := vk_R.warm hW0 hstr
  obtain ⟨U, hsteps, hrun, hend, hW, hsame, ce, hce, hO⟩ := X₁.ctorThrowS hexec htr (own := own) (cls := cls) (names := names) (ic := ic) hown' hcls hnames h (fun x hx => nomatch hx) hfX hkX hcellA (by rw [hhp, hT]; exact Nat.le_refl _) (msg := .ref sa) rfl
    (g := { method := m, pc := pc + 6, locals := ls, stack := .ref sa :: .ref T.heap.size :: .ref T.heap.size :: rest, locked := none }) rfl hsize rfl rfl (rest := rest) rfl
    (by rw [hb]; exact d6) (by rw [hb]; exact d9) hout hRframes (by simp only [List.map_cons, List.sum_cons, hcat]; omega) hlocks
  obtain ⟨f1, f2⟩ := vx_frame hsame
  rw [hhp] at f1 f2
  have hWs : s.WarmedH U.vm := State.WarmedH.trans hW0 hW
  have hcl : s.vm.findClass cls = some ce.cls := by
    have h9 := hO.cls
    rw [hvm] at h9
    exact h9
  have hall : s.sameButNew ({ U with vm := s.vm } : State) locs mc ms := by
    subst hA
    obtain ⟨e1, e2⟩ := hsame
    rw [State.setFrames_setFrames] at e1
    have h2 : (T.setVm s.vm).sameButNew ({ U with vm := s.vm } : State) [] (0 + 1) (0 + 6) := ⟨e1, e2⟩
    have h3 := X.same.trans h2
    rw [List.append_nil] at h3
    exact h3.mono hc hs
  refine ⟨U, ?_, .threw T.heap.size, hrun, hend, Or.inr ⟨T.heap.size, rfl, cls, ce, locs, hx U hWs.alike f1 (fun q hq => f2 q hq (fun z hz => nomatch hz)), hce, hO.vm, hcl, hWs, hall, hf⟩⟩
  refine st1 _ ?_
  show Steps p.tables e below (T1.setTop { method := m, pc := pc + 3, locals := ls, stack := .ref T.heap.size :: rest, locked := none }) _
  jvm_step X₁.here [X₁.here.top, hexec, d3', Value.category]
  exact X₁.ldcString hexec (own := own) (text := text) (index := is) (a := sa) hown' hstr'.1 hstr'.2
    (g := { method := m, pc := pc + 4, locals := ls, stack := .ref T.heap.size :: .ref T.heap.size :: rest, locked := none }) rfl d4' _ hsteps
/-- 'throw new E("text")', the text by a wide index -/
theorem vx_throwSW {cc : ByteArray} {pc : Nat} (hexec : p.tables.exec = Jvm.exec) (hb : c.code = cc) (hl : l.stackTraces = false) {own cls text : String} {names : List String} {ik is ic mc ms sa : Nat} {A : Nat → Prop}
    (hown : s.vm.findClass own = some m.cls) (hcls : Bundle.fit cls = true) (hnames : ∀ n ∈ names, Bundle.fit n = true)
    (hk : (Cond.classLink own ik cls).before args s = true) (hini : (Cond.initialized cls).before args s = true) (hstr : vk_R own is text sa s) (hat : ∀ w ∈ vx_atS own ic cls names, w.before args s = true)
    (hgood : ∀ w ∈ Cond.classLink own ik cls :: Cond.initialized cls :: vx_atS own ic cls names, vx_ot w = true)
    (hU : vx_Zq Bundle.tN "UNASSIGNED_STACK" Bundle.steD A s s.heap) (hN : vx_Zq Bundle.tN "SUPPRESSED_SENTINEL" Bundle.listD A s s.heap) (hS : va_S A s.heap H locs) (hsize : ls.size = c.maxLocals)
    (d0 : decode cc pc = .ok (.new ik, 3)) (d3 : decode cc (pc + 3) = .ok (.dup, 1)) (d4 : decode cc (pc + 4) = .ok (.ldc_w is, 3)) (d7 : decode cc (pc + 7) = .ok (.invokespecial ic, 3)) (d10 : decode cc (pc + 10) = .ok (.athrow, 1))
    (hout : ∀ x ∈ c.exceptionTable.toList, covers x (pc + 10) = false)
    (hRframes : names.length + 3 < R.frames) (hRlocals : (rest.map fun v => v.category).sum + (13 * (names.length + 1) + 43) ≤ R.locals) (hRcells : cells + 1 ≤ R.cells) (hRslots : slots + 6 ≤ R.slots) (hlocks : meth.locks = false)
    (hx : ∀ t : State, s.vm.Alike t.vm → H.size ≤ t.heap.size → (∀ q : Nat, q < H.size → t.heap[q]? = H[q]?) → XC cls s t)
    (hf : ∀ z ∈ locs, free z.base) (hc : cells + 1 ≤ mc) (hs : slots + 6 ≤ ms) :
    W p l e R s m args below meth c H locs cells slots (vx_MQ below Qc XC args s mc ms free) (F0 m pc ls rest) := by
  intro T hT X
  have htr : e.platform.stackTraces = false := (show e.platform.stackTraces = l.stackTraces by rw [X.admits.platform]).trans hl
  have Y := vx_rebase X (R' := { frames := R.frames, locals := R.locals, cells := 1, slots := 6 }) (Nat.le_refl _) (Nat.le_refl _) hRcells hRslots
  obtain ⟨s', hA⟩ : ∃ z, z = (T.setVm s.vm).setFrames (.invoking m args :: below) := ⟨_, rfl⟩
  rw [← hA] at Y
  have hvm : s'.vm = s.vm := by rw [hA]; rfl
  have hhp : s'.heap = H := by rw [hA]; exact hT
  have hW0 : s.WarmedH s'.vm := by rw [hvm]; exact State.WarmedH.refl s
  have hat' : ∀ w ∈ vx_atS own ic cls names, w.before args s' = true := fun w hw => vx_ot_at hW0 hvm.symm (hgood w (List.mem_cons_of_mem _ (List.mem_cons_of_mem _ hw))) (hat w hw)
  have hk' : (Cond.classLink own ik cls).before args s' = true := vx_ot_at hW0 hvm.symm (hgood _ List.mem_cons_self) hk
  have hini' : (Cond.initialized cls).before args s' = true := vx_ot_at hW0 hvm.symm (hgood _ (List.mem_cons_of_mem _ List.mem_cons_self)) hini
  have hU' : vx_Zq Bundle.tN "UNASSIGNED_STACK" Bundle.steD A s' s'.heap := by rw [hhp]; exact vx_Zq.moved hW0.alike (hU.kept hS.2.1)
  have hN' : vx_Zq Bundle.tN "SUPPRESSED_SENTINEL" Bundle.listD A s' s'.heap := by rw [hhp]; exact vx_Zq.moved hW0.alike (hN.kept hS.2.1)
  have h : ∀ w ∈ Bundle.ownAtoms own ic cls names, w.before args s' = true := vx_own hat' (vx_isRefq hU'.1) (vx_isRefq hN'.1) hU'.2.word hN'.2.word
  have hown' : s'.vm.findClass own = some m.cls := by rw [hvm]; exact hown
  have hins : (Cond.instantiable cls 6).before args s' = true := h _ (by simp [Bundle.ownAtoms])
  obtain ⟨vm₁, cX, kX, hfX, hkX, -, -, X₁, st1⟩ := Y.newCold hexec (own := own) (C := cls) (index := ik) (n := 6) hown' hk' hins hini'
    (g := F0 m pc ls rest) rfl (by rw [hb]; exact d0) (Nat.le_refl _) (Nat.le_refl _)
  generalize hT1 : (T.setVm vm₁).pushCell { cls := cX, slots := kX.instanceTypes.map defaultValue, vm := .none } = T1 at X₁ st1
  have hcat : (Value.ref T.heap.size).category = 1 := rfl
  have hcellA : T1.heap[T.heap.size]? = some (freshCell cX kX) := by rw [← hT1]; exact State.heap_pushCell_size _ _
  have d3' : decode c.code (pc + 3) = .ok (.dup, 1) := by rw [hb]; exact d3
  have d4' : decode c.code (pc + 4) = .ok (.ldc_w is, 3) := by rw [hb]; exact d4
  have hstr' : vk_R own is text sa s' := vk_R.warm hW0 hstr
  obtain ⟨U, hsteps, hrun, hend, hW, hsame, ce, hce, hO⟩ := X₁.ctorThrowS hexec htr (own := own) (cls := cls) (names := names) (ic := ic) hown' hcls hnames h (fun x hx => nomatch hx) hfX hkX hcellA (by rw [hhp, hT]; exact Nat.le_refl _) (msg := .ref sa) rfl
    (g := { method := m, pc := pc + 7, locals := ls, stack := .ref sa :: .ref T.heap.size :: .ref T.heap.size :: rest, locked := none }) rfl hsize rfl rfl (rest := rest) rfl
    (by rw [hb]; exact d7) (by rw [hb]; exact d10) hout hRframes (by simp only [List.map_cons, List.sum_cons, hcat]; omega) hlocks
  obtain ⟨f1, f2⟩ := vx_frame hsame
  rw [hhp] at f1 f2
  have hWs : s.WarmedH U.vm := State.WarmedH.trans hW0 hW
  have hcl : s.vm.findClass cls = some ce.cls := by
    have h9 := hO.cls
    rw [hvm] at h9
    exact h9
  have hall : s.sameButNew ({ U with vm := s.vm } : State) locs mc ms := by
    subst hA
    obtain ⟨e1, e2⟩ := hsame
    rw [State.setFrames_setFrames] at e1
    have h2 : (T.setVm s.vm).sameButNew ({ U with vm := s.vm } : State) [] (0 + 1) (0 + 6) := ⟨e1, e2⟩
    have h3 := X.same.trans h2
    rw [List.append_nil] at h3
    exact h3.mono hc hs
  refine ⟨U, ?_, .threw T.heap.size, hrun, hend, Or.inr ⟨T.heap.size, rfl, cls, ce, locs, hx U hWs.alike f1 (fun q hq => f2 q hq (fun z hz => nomatch hz)), hce, hO.vm, hcl, hWs, hall, hf⟩⟩
  refine st1 _ ?_
  show Steps p.tables e below (T1.setTop { method := m, pc := pc + 3, locals := ls, stack := .ref T.heap.size :: rest, locked := none }) _
  jvm_step X₁.here [X₁.here.top, hexec, d3', Value.category]
  exact X₁.ldcStringW hexec (own := own) (text := text) (index := is) (a := sa) hown' hstr'.1 hstr'.2
    (g := { method := m, pc := pc + 4, locals := ls, stack := .ref T.heap.size :: .ref T.heap.size :: rest, locked := none }) rfl d4' _ hsteps
end Ends
section Bodies
variable {l : Launch}
theorem vx_ofW {y : MethodName} {ws ws' : List Cond} {rm : Room} {Pc : Array Value → State → Prop} {Qc : Array Value → State → Outcome → State → Prop} {XC : String → State → State → Prop} {mc ms : Nat} {free : Addr → Prop} {cc : ByteArray} {maxL : Nat} {ret : Option FieldType}
    (hy : plainName y.cls = true) (hw : ws = Cond.code y cc maxL ret :: ws')
    (body : ∀ p e s m args below meth c s₁, BodyLoose p l y (headSpec ws rm) cc maxL ret e s m args below meth c s₁ → c.maxLocals = maxL → (∀ x ∈ c.exceptionTable.toList, False) → Pc args s →
      W p l e (headSpec ws rm).room s m args below meth c s.heap [] 0 0 (vx_MQ below Qc XC args s mc ms free) (entryFrame m args maxL)) : vx_Met l y ws rm Pc Qc XC mc ms free := by
  refine MetFree.of_bodyS (code := cc) (maxLocals := maxL) (ret := ret) hy ?_ ?_
  · intro args s m h hn
    obtain ⟨meth, c, h1, h2, h3, h4, h5, h6, -, -⟩ := Cond.code_spec hn (atoms_spec (ws := ws) h _ (by rw [hw]; exact List.mem_cons_self))
    exact ⟨meth, c, h1, h2, h3, h4, h5, h6⟩
  · intro p e s m args below meth c s₁ B hml hP _
    have hh0 : s₁.heap = s.heap := by rw [B.state]; rfl
    have ht : ∀ x ∈ c.exceptionTable.toList, False := by
      obtain ⟨meth9, c9, h1, h2, -, -, -, -, h7, -⟩ := Cond.code_spec B.named (atoms_spec (ws := ws) B.pre _ (by rw [hw]; exact List.mem_cons_self))
      cases Option.some.inj (h1.symm.trans B.method)
      cases Option.some.inj (h2.symm.trans (Stand.of_body B).code)
      intro x hx
      rw [Array.isEmpty_iff.mp h7] at hx
      cases hx
    obtain ⟨t, a1, o, b1, b2, b3⟩ := body p e s m args below meth c s₁ B hml ht hP s₁ hh0 (Stand.of_body B)
    exact ⟨t, o, a1, b1, b2, b3⟩
/-- the table of a body with handlers -/
theorem vx_table {p : Program} {x y : MethodName} {S : Spec} {cc bytes : ByteArray} {maxL maxL' : Nat} {ret ret' : Option FieldType} {e : Env} {s s₁ : State} {m : MethodId} {args : Array Value} {below : List Frame} {meth : Method} {c : Code} {hh : List (Nat × Nat × Nat × Nat)}
    (B : BodyLoose p l y S cc maxL ret e s m args below meth c s₁) (h : (Cond.codeWith y bytes maxL' ret' hh).before args s = true) : c.exceptionTable.toList = tableOf hh := by
  obtain ⟨m9, meth9, c9, hn9, h1, h2, -, -, h6, -⟩ := Cond.codeWith_spec h
  cases Option.some.inj (hn9.symm.trans B.named)
  cases Option.some.inj (h1.symm.trans B.method)
  cases Option.some.inj (h2.symm.trans (Stand.of_body B).code)
  rw [← h6, table_eq]
end Bodies
end VXA
/-! ===== END ===== -/
/-! ===== BEGIN a static call of a method with an exception table ===== -/
section VXS
variable {p : Program} {l : Launch} {e : Env} {R : Room} {s : State} {m : MethodId} {args : Array Value} {below : List Frame} {meth : Method} {c : Code} {T : State} {H : Heap} {locs : List Loc} {cells slots : Nat}
abbrev vx_CSW (R : Room) (s : State) (args : Array Value) (own : String) (index : Nat) (y : MethodName) (bytes : ByteArray) (maxL : Nat) (ret : Option FieldType) (hh : List (Nat × Nat × Nat × Nat)) (ws : List Cond) (rm : Room) (mc ms n : Nat) : Prop :=
  (rm.cells = mc ∧ rm.slots = ms ∧ rm.frames + 1 ≤ R.frames ∧ 8 + (maxL + 11) + rm.locals ≤ R.locals ∧ (∀ w ∈ ws, ∀ (a' : Array Value) (U : State), s.WarmedH U.vm → w.before a' U = true) ∧ Cond.codeWith y bytes maxL ret hh ∈ ws) ∧
  (Cond.codeWith y bytes maxL ret hh).before args s = true ∧ (Cond.initialized y.cls).before args s = true ∧ (y.cls ≠ "java/lang/invoke/MethodHandle" ∧ y.cls ≠ "java/lang/invoke/VarHandle") ∧
  (∀ sig, parseMethodDescriptor y.desc = some sig → n = sig.parameters.length) ∧ (Cond.methodLink own index y).before args s = true ∧ (Cond.static y).before args s = true
theorem vx_cwSW {own : String} {index maxL mc ms : Nat} {y : MethodName} {bytes : ByteArray} {ret : Option FieldType} {hh : List (Nat × Nat × Nat × Nat)} {Ts ws ws' : List Cond} {rm : Room} (n : Nat) (ht : ∀ w ∈ Ts, w.before args s = true) (hT : GoodIn Ts (va_wsS own index y ws)) (hw : ws = Cond.codeWith y bytes maxL ret hh :: ws') (hrc : rm.cells = mc) (hrs : rm.slots = ms)
    (hd : y.cls ≠ "java/lang/invoke/MethodHandle" ∧ y.cls ≠ "java/lang/invoke/VarHandle" ∧ (parseMethodDescriptor y.desc).map (fun d => d.parameters.length) = some n) (hR : rm.frames + 1 ≤ R.frames ∧ 8 + (maxL + 11) + rm.locals ≤ R.locals) :
    vx_CSW R s args own index y bytes maxL ret hh ws rm mc ms n := by
  have ok : ∀ w ∈ va_wsS own index y ws, w.before args s = true := fun w h => ht w (hT w h).1
  have hG : GoodIn Ts ws := fun w h => hT w (by unfold va_wsS; exact List.mem_append_right _ h)
  have hc : Cond.codeWith y bytes maxL ret hh ∈ ws := by rw [hw]; exact List.mem_cons_self
  refine ⟨⟨hrc, hrs, hR.1, hR.2, pay_in ht hG, hc⟩, ht _ (hG _ hc).1, ok _ (by simp [va_wsS]), ⟨hd.1, hd.2.1⟩, fun sig h => ?_, ok _ (by simp [va_wsS]), ok _ (by simp [va_wsS])⟩
  have h2 := hd.2.2
  rw [h] at h2
  exact (Option.some.inj h2).symm
theorem vx_callSW (X : Stand p l e R s m args below meth c T locs cells slots) (hexec : p.tables.exec = Jvm.exec) {own : String} {index : Nat} {y : MethodName} {bytes : ByteArray} {maxL : Nat} {ret : Option FieldType} {hh : List (Nat × Nat × Nat × Nat)}
    (hown : s.vm.findClass own = some m.cls) (hlink : (Cond.methodLink own index y).before args s = true) (hstat : (Cond.static y).before args s = true) (hinit : (Cond.initialized y.cls).before args s = true)
    (hcode : (Cond.codeWith y bytes maxL ret hh).before args s = true) (hy : y.cls ≠ "java/lang/invoke/MethodHandle" ∧ y.cls ≠ "java/lang/invoke/VarHandle")
    {W9 : Nat} {Pre : Pt → Array Value → Prop} {Post : Pt → Array Value → Option Value → Pt → Prop} (hK : Back l R p e below s args y 3 W9 Pre Post)
    {g : JFrame} (hg : g.method = m) (hsize : g.locals.size = c.maxLocals) {argsL rest : List Value} (hlen : ∀ sig, parseMethodDescriptor y.desc = some sig → argsL.length = sig.parameters.length)
    (hstack : g.stack = argsL.reverse ++ rest) (hW : 2 * g.monitorRoom + (rest.map fun v => v.category).sum ≤ W9) (hdg : decode c.code g.pc = .ok (.invokestatic index, 3))
    (hpre : ∀ vm₁, s.WarmedH vm₁ → Pre ⟨T.setVm vm₁, locs, cells, slots⟩ argsL.toArray) :
    ∃ (v : Option Value) (vm₁ : Vm) (B : Pt), s.WarmedH vm₁ ∧ Stand p l e R s m args below meth c B.U B.locs B.cells B.slots ∧ Post ⟨T.setVm vm₁, locs, cells, slots⟩ argsL.toArray v B ∧
      ∀ target, Steps p.tables e below (B.U.setTop { g with pc := g.pc + 3, stack := v.toList ++ rest }) target → Steps p.tables e below (T.setTop g) target := by
  obtain ⟨mk, methM, cM, hnamed, hmethM, -, -, -, -, -, -, hsigM⟩ := Cond.codeWith_spec hcode
  have hstatic : methM.isStatic = true := Cond.static_spec hnamed hmethM hstat
  obtain ⟨kP, hkP, -⟩ := className_of_methodNamed hnamed
  have hinitP : kP.init = .initialized := Cond.initialized_spec (findClass_of_methodNamed hnamed) hkP hinit
  obtain ⟨vm₁, X₁, hstep₁⟩ := X.invokestatic hexec hown hlink hnamed hmethM hstatic hkP hinitP hy (g := g) hg (argsL := argsL) (rest := rest) (hlen _ hsigM) hstack hdg
  obtain ⟨v, B, X', hpost, hsteps⟩ := hK m meth c ⟨T.setVm vm₁, locs, cells, slots⟩ { g with stack := rest } (.invokestatic index) mk argsL.toArray X₁ hg hsize hdg hW (X₁.named hnamed) (hpre vm₁ X₁.warmed)
  exact ⟨v, vm₁, B, X₁.warmed, X', hpost, fun target h => hstep₁ _ fun acts => by rw [doInvoke_state]; exact hsteps.trans h⟩
theorem vx_runSW {y : MethodName} {bytes cc : ByteArray} {maxL nL mc ms n index : Nat} {ret : Option FieldType} {hh : List (Nat × Nat × Nat × Nat)} {ws : List Cond} {rm : Room} {Pc : Array Value → State → Prop} {Qc : Array Value → State → Outcome → State → Prop} {free : Addr → Prop} {Ts : List Cond} {own : String} {As rest : List Value} {g : JFrame}
    (S : CallFix p m c cc nL s args Ts own) (hM : Met l y ws rm Pc Qc mc ms free) (cw : vx_CSW R s args own index y bytes maxL ret hh ws rm mc ms n) (hp : PreS s H Pc As)
    (hg : g.method = m) (hn : As.length = n) (hsize : g.locals.size = nL) (hstack : g.stack = As.reverse ++ rest) (hW : 2 * g.monitorRoom + (rest.map fun v => v.category).sum ≤ 8) (hdg : decode cc g.pc = .ok (.invokestatic index, 3)) (hf : cells + mc ≤ R.cells ∧ slots + ms ≤ R.slots) :
    va_Run p l e R s m args below meth c H locs cells slots mc ms g rest (Qc As.toArray) (free) := by
  obtain ⟨⟨hrc, hrs, hfr, hlo, hws, hcw⟩, hcode, hini, hy, hlen, hl, hstt⟩ := cw
  have hK : Back l R p e below s args y 3 8 (PreOf R mc ms Pc) (PostOf Qc mc ms free) := va_backW (hh := hh) (bytes := bytes) (maxL := maxL) (ret := ret) hM hp.1 hrc hrs hfr hlo hws hcw (fun a' U hW => word_at hW (Or.inl (by first | rfl | simp [Cond.onTables, Cond.keeps, Cond.steady])) hini)
  obtain ⟨hx, hb, hml, ho, -⟩ := S
  intro T hT X
  obtain ⟨v, vm₁, ⟨U', l2, c2, s2⟩, hW₁, X', ⟨g', mk, t, L, e1, e2, hq, h1, hL, h2, h3⟩, st⟩ := vx_callSW X hx (hh := hh) (bytes := bytes) (maxL := maxL) (ret := ret) ho hl hstt hini hcode hy hK hg (hsize.trans hml.symm) (argsL := As) (rest := rest) (fun sig h => hn.trans (hlen sig h)) hstack hW (by rw [hb]; exact hdg)
    (fun vm₁ hW₁ => ⟨hf.1, hf.2, hp.2 (T.setVm vm₁) hT hW₁⟩)
  dsimp only [Pt.U, Pt.locs, Pt.cells, Pt.slots] at X' e1 e2 h1 h2 h3 st
  subst h1; subst h2; subst h3
  exact ⟨v, (T.setVm vm₁).calling g' mk As.toArray, t, U', L, hT, X', hL, e1, e2, hq, st⟩
/-- not caught here, past rows that name other classes: it goes on to the caller -/
theorem vx_outP {p : Program} {l : Launch} {e : Env} {R : Room} {s : State} {m : MethodId} {args : Array Value} {below : List Frame} {meth : Method} {c : Code} {H : Heap} {locs : List Loc} {cells slots : Nat} {free : Addr → Prop} {ls : Array Slot} {rest : List Value} {Qc : Array Value → State → Outcome → State → Prop} {XC : String → State → State → Prop}
    {pc : Nat} {own E : String} {ce : Cell} {q : Addr} {mc ms : Nat} (hown : s.vm.findClass own = some m.cls) (hlocks : meth.locks = false)
    (hpass : ∀ z ∈ c.exceptionTable.toList, covers z pc = false ∨ (z.catchType ≠ 0 ∧ ∃ nm : String, (Cond.classLink own z.catchType nm).before args s = true ∧ va_Nc E nm s)) (hcell : H[q]? = some ce) (hv : ce.vm = .none) (hcl : s.vm.findClass E = some ce.cls)
    (hx : ∀ t : State, t.heap = H → s.vm.Alike t.vm → XC E s t) (hf : ∀ z ∈ locs, free z.base) (hc : cells ≤ mc) (hs : slots ≤ ms) :
    vx_W p l e R s m args below meth c H locs cells slots (vx_MQ below Qc XC args s mc ms free) (F0 m pc ls rest) q := by
  intro T hT X
  have hpl : e.platform.magicAccessors = ({} : Platform).magicAccessors := by rw [X.admits.platform]
  obtain ⟨vm', hW', X', st⟩ := X.outThrough hlocks q (g := F0 m pc ls rest) rfl rfl rfl (cell := ce) (by rw [hT]; exact hcell) (by rw [hv]; rfl)
    (by obtain ⟨k9, h9, -⟩ := Vm.findClass_spec hcl; exact ⟨k9, h9⟩) (fun z hz => by
      rcases hpass z hz with h | ⟨hz0, nm, hl1, hn1⟩
      · exact Or.inl h
      · obtain ⟨c6, hc6, hcl6⟩ := Cond.classLink_spec hown hl1 e.platform hpl
        obtain ⟨a8, b8, h1, h2, h3⟩ := hn1
        cases Option.some.inj (h1.symm.trans hcl)
        cases Option.some.inj (h2.symm.trans hc6)
        exact Or.inr ⟨hz0, _, hcl6, h3⟩)
  obtain ⟨g₀, hfr⟩ := X'.frames_eq
  have hcell9 : ((T.setVm vm').setFrames (.throwing q :: below)).heap[q]? = some ce := by
    show T.heap[q]? = some ce
    rw [hT]; exact hcell
  have hend : Ended ((T.setVm vm').setFrames (.throwing q :: below)) below (.threw q) := State.frames_setFrames _ (State.cur_lt_of_frames hfr)
  refine ⟨(T.setVm vm').setFrames (.throwing q :: below), ?_, .threw q, X'.here.running, hend, Or.inr ⟨q, rfl, E, ce, locs, hx _ hT (X'.ends _).1.alike, hcell9, hv, hcl, (X'.ends _).1, (X'.ends _).2.mono hc hs, hf⟩⟩
  rw [X.pushThrowing_eq]
  exact st
/-- a thing of a world lies in the heap -/
theorem vx_lt {D : va_G} {cl : List vw_C} {ws : va_W} {H1 : Heap} (h : va_P D cl ws H1) {k : Nat} {q : Nat × va_E} (hk : ws[k]? = some q) : q.1 < H1.size := (h k q hk).lt
end VXS
/-! ===== END ===== -/
/-! ===== BEGIN methods with a table of their own: called by a name, returning or throwing ===== -/
section VXH
/-! vx_backW, vx_callVX, vx_callSX, vx_callVW, vx_runVW, vx_runVX, vx_runSX, vx_ofWH follow the same proofs as their sisters above (Free/Laws.lean, Shelf42/LK1.lean); vx_outP calls Shelf42/NT130.lean (outThrough). -/
section
variable {l : Launch} {R : Room} {p : Program} {e : Env} {below : List Frame} {s : State} {sargs : Array Value} {y : MethodName} {len W9 : Nat}
theorem vx_backW {ws : List Cond} {rm : Room} {Pc : Array Value → State → Prop} {Qc : Array Value → State → Outcome → State → Prop} {XC : String → State → State → Prop} {mc ms : Nat} {free : Addr → Prop} {bytes : ByteArray} {maxL : Nat} {ret : Option FieldType} {hh : List (Nat × Nat × Nat × Nat)}
    (hM : vx_Met l y ws rm Pc Qc XC mc ms free) (hblind : FrameBlind Pc) (hrc : rm.cells = mc) (hrs : rm.slots = ms)
    (hframes : rm.frames + 1 ≤ R.frames) (hlocals : W9 + (maxL + 11) + rm.locals ≤ R.locals)
    (hws : ∀ w ∈ ws, ∀ a' U, s.WarmedH U.vm → w.before a' U = true) (hcode : Cond.codeWith y bytes maxL ret hh ∈ ws) (hinit : ∀ a' U, s.WarmedH U.vm → (Cond.initialized y.cls).before a' U = true) :
    vx_Back l R p e below s sargs y len W9 (PreOf R mc ms Pc) (PostOf Qc mc ms free) (vx_Post XC mc ms free) := by
  intro m meth c A g ig mk a X hg hsize hdg hW hn hp
  have h1 : (headSpec ws rm).pre.before a A.U = true := atoms_intro fun w hw => hws w hw _ _ X.warmed
  have h2 : (Cond.codeWith y bytes maxL ret hh).before a A.U = true := hws _ hcode _ _ X.warmed
  have h3 : (Cond.initialized y.cls).before a A.U = true := hinit _ _ X.warmed
  have h4 : A.cells + (headSpec ws rm).room.cells ≤ R.cells := by rw [show (headSpec ws rm).room.cells = mc from hrc]; exact hp.1
  have h5 : A.slots + (headSpec ws rm).room.slots ≤ R.slots := by rw [show (headSpec ws rm).room.slots = ms from hrs]; exact hp.2.1
  have hPc : Pc a (A.U.calling g mk a) := hblind _ _ _ _ hp.2.2
  obtain ⟨U, Ls, c0, s0⟩ := A
  dsimp only [Pt.U, Pt.locs, Pt.cells, Pt.slots] at h1 h2 h3 h4 h5 X hn hPc ⊢
  obtain ⟨m9, methY, cY, hn9, hmY, hcY, -, hlY, -⟩ := Cond.codeWith_spec h2
  cases Option.some.inj (hn9.symm.trans hn)
  obtain ⟨kY, hkY, -⟩ := className_of_methodNamed hn
  have hinitY : kY.init = .initialized := Cond.initialized_spec (findClass_of_methodNamed hn) hkY h3
  have h : At U g.method c below := by rw [hg]; exact X.here
  have hlocals9 : W9 + (maxL + 11) + (headSpec ws rm).room.locals ≤ R.locals := hlocals
  have happ : (headSpec ws rm).appliesLoose y e.platform (U.calling g mk a) = true :=
    Spec.appliesLoose_calling (g := g) h hdg hn hkY hinitY
      (X.room_calling (g := g) (R' := (headSpec ws rm).room) hsize hmY hcY hframes (by rw [hlY]; omega) h4 h5) h1
  obtain ⟨mid, hmid⟩ := h.above
  have hfr : (U.setTop g).frames = (.java g :: mid) ++ below := by rw [State.frames_setTop' g h.top, hmid]; rfl
  obtain ⟨o, s₂, hsteps, -, hend, hq⟩ := Steps.callFree hM p X.admits X.cas X.clock (acts := []) hfr happ hPc trivial
  have hq' : vx_Q Qc XC mc ms free a (U.calling g mk a) o s₂ := hq
  rw [State.frames_setTop' g h.top] at hend
  obtain ⟨g₀, hg0⟩ := Option.isSome_iff_exists.mp h.top
  obtain ⟨r, hr⟩ := State.topJava?_eq_some.mp hg0
  have hr' : (({ U with heap := s₂.heap, slotsUsed := s₂.slotsUsed } : State).setVm s₂.vm).frames = .java g₀ :: r := hr
  rcases hq' with ⟨hqc, L, hfe, hL⟩ | ⟨q, rfl, E, ce, L, hx, hce, hcv, hcl, hW₂, hsm, hL⟩
  · obtain ⟨⟨v, rfl⟩, hW₂, e2, q2, q3, q4, q5, q6⟩ := id hfe
    have e3 : s₂ = ({ (U.calling g mk a).setFrames s₂.frames with heap := s₂.heap, slotsUsed := s₂.slotsUsed } : State).setVm s₂.vm := by
      have : s₂ = ({ s₂ with vm := (U.calling g mk a).vm } : State).setVm s₂.vm := rfl
      rw [e2] at this
      exact this
    obtain ⟨c₂, i₂, len₂, hc₂, hd₂, hf₂⟩ := hend
    have hW' : U.WarmedH s₂.vm := hW₂
    have hcc : c₂ = c := by
      have h1 : s₂.code? g.method = U.code? g.method := by
        rw [State.code?_eq, State.code?_eq, hW'.alike.method?]
      exact Option.some.inj (hc₂.symm.trans (h1.trans h.code))
    subst hcc
    have hlen : len₂ = len := by rw [hdg] at hd₂; cases hd₂; rfl
    subst hlen
    have hs₂ : s₂ = (({ U with heap := s₂.heap, slotsUsed := s₂.slotsUsed } : State).setVm s₂.vm).setTop { g with pc := g.pc + len₂, stack := v.toList ++ g.stack } := by
      refine e3.trans ?_
      rw [hf₂, State.calling_eq h.top, State.setFrames_setFrames, State.setTop_of_frames _ hr', hr]
      rfl
    have hsame : U.sameButNew ({ U with heap := s₂.heap, slotsUsed := s₂.slotsUsed } : State) L mc ms := by
      refine ⟨?_, q2, q3, q4, q5, q6⟩
      obtain ⟨t, ht, -⟩ := State.frames_cons hr
      show ({ U with heap := s₂.heap, slotsUsed := s₂.slotsUsed } : State) = { U.setFrames U.frames with heap := s₂.heap, slotsUsed := s₂.slotsUsed }
      rw [State.setFrames_self ht]
    subst hg
    refine Or.inl ⟨v, ⟨(({ U with heap := s₂.heap, slotsUsed := s₂.slotsUsed } : State).setVm s₂.vm), Ls ++ L, c0 + mc, s0 + ms⟩,
      ⟨X.admits, X.cas, X.clock, X.frames, X.room, X.hears, X.method, X.code, (X.here.setHeapUsed s₂.heap s₂.slotsUsed).setVm hW'.alike, X.tail, State.WarmedH.trans X.warmed hW', X.limits, X.bytes, X.same.trans (hsame.setVm s.vm)⟩,
      ⟨g, mk, s₂, L, rfl, rfl, hqc, rfl, hL, rfl, rfl⟩, ?_⟩
    show Steps p.tables e below _ ((({ U with heap := s₂.heap, slotsUsed := s₂.slotsUsed } : State).setVm s₂.vm).setTop { g with pc := g.pc + len₂, stack := v.toList ++ g.stack })
    rw [← hs₂]
    exact hsteps
  · obtain ⟨e2, q2, q3, q4, q5, q6⟩ := id hsm
    have e3 : s₂ = ({ (U.calling g mk a).setFrames s₂.frames with heap := s₂.heap, slotsUsed := s₂.slotsUsed } : State).setVm s₂.vm := by
      have : s₂ = ({ s₂ with vm := (U.calling g mk a).vm } : State).setVm s₂.vm := rfl
      rw [e2] at this
      exact this
    have hf₂ : s₂.frames = .throwing q :: .java g :: U.frames.tail := hend
    have hW' : U.WarmedH s₂.vm := hW₂
    have hs₂ : s₂ = ((({ U with heap := s₂.heap, slotsUsed := s₂.slotsUsed } : State).setVm s₂.vm).setTop g).pushFrame (.throwing q) := by
      refine e3.trans ?_
      rw [hf₂, State.calling_eq h.top, State.setFrames_setFrames, State.pushFrame, State.frames_setTop _ hr', State.setTop_of_frames _ hr', State.setFrames_setFrames, hr]
      rfl
    have hsame : U.sameButNew ({ U with heap := s₂.heap, slotsUsed := s₂.slotsUsed } : State) L mc ms := by
      refine ⟨?_, q2, q3, q4, q5, q6⟩
      obtain ⟨t, ht, -⟩ := State.frames_cons hr
      show ({ U with heap := s₂.heap, slotsUsed := s₂.slotsUsed } : State) = { U.setFrames U.frames with heap := s₂.heap, slotsUsed := s₂.slotsUsed }
      rw [State.setFrames_self ht]
    subst hg
    refine Or.inr ⟨q, ⟨(({ U with heap := s₂.heap, slotsUsed := s₂.slotsUsed } : State).setVm s₂.vm), Ls ++ L, c0 + mc, s0 + ms⟩,
      ⟨X.admits, X.cas, X.clock, X.frames, X.room, X.hears, X.method, X.code, (X.here.setHeapUsed s₂.heap s₂.slotsUsed).setVm hW'.alike, X.tail, State.WarmedH.trans X.warmed hW', X.limits, X.bytes, X.same.trans (hsame.setVm s.vm)⟩,
      ⟨g, mk, s₂, L, E, ce, rfl, rfl, hx, hce, hcv, hcl, rfl, hL, rfl, rfl⟩, ?_⟩
    show Steps p.tables e below _ (((({ U with heap := s₂.heap, slotsUsed := s₂.slotsUsed } : State).setVm s₂.vm).setTop g).pushFrame (.throwing q))
    rw [← hs₂]
    exact hsteps
end
variable {p : Program} {l : Launch} {e : Env} {R : Room} {s : State} {m : MethodId} {args : Array Value} {below : List Frame} {meth : Method} {c : Code} {T : State} {H : Heap} {locs : List Loc} {cells slots : Nat}
theorem vx_callVX (X : Stand p l e R s m args below meth c T locs cells slots) (hexec : p.tables.exec = Jvm.exec) {own C : String} {index : Nat} {y : MethodName} {bytes : ByteArray} {maxL : Nat} {ret : Option FieldType} {hh : List (Nat × Nat × Nat × Nat)}
    (hown : s.vm.findClass own = some m.cls) (hlink : (Cond.methodLink own index y).before args s = true) (hinst : (Cond.instanceMethod y).before args s = true) (hsel : (Cond.selects C y y).before args s = true)
    (hcode : (Cond.codeWith y bytes maxL ret hh).before args s = true) (hy : y.cls ≠ "java/lang/invoke/MethodHandle" ∧ y.cls ≠ "java/lang/invoke/VarHandle")
    {W9 : Nat} {Pre : Pt → Array Value → Prop} {Post : Pt → Array Value → Option Value → Pt → Prop} {PostX : Pt → Array Value → Addr → Pt → Prop} (hK : vx_Back l R p e below s args y 3 W9 Pre Post PostX)
    {b : Addr} {cellB : Cell} (hcell : T.heap[b]? = some cellB) (hobj : cellB.vm.isStatics = false) (hcls : s.vm.findClass C = some cellB.cls)
    {g : JFrame} (hg : g.method = m) (hsize : g.locals.size = c.maxLocals) {argsL rest : List Value} (hlen : ∀ sig, parseMethodDescriptor y.desc = some sig → argsL.length = sig.parameters.length)
    (hstack : g.stack = argsL.reverse ++ .ref b :: rest) (hW : 2 * g.monitorRoom + (rest.map fun v => v.category).sum ≤ W9) (hdg : decode c.code g.pc = .ok (.invokevirtual index, 3))
    (hpre : ∀ vm₁, s.WarmedH vm₁ → Pre ⟨T.setVm vm₁, locs, cells, slots⟩ (Value.ref b :: argsL).toArray) :
    (∃ (v : Option Value) (vm₁ : Vm) (B : Pt), s.WarmedH vm₁ ∧ Stand p l e R s m args below meth c B.U B.locs B.cells B.slots ∧ Post ⟨T.setVm vm₁, locs, cells, slots⟩ (Value.ref b :: argsL).toArray v B ∧
      ∀ target, Steps p.tables e below (B.U.setTop { g with pc := g.pc + 3, stack := v.toList ++ rest }) target → Steps p.tables e below (T.setTop g) target) ∨
    (∃ (q : Addr) (vm₁ : Vm) (B : Pt), s.WarmedH vm₁ ∧ Stand p l e R s m args below meth c B.U B.locs B.cells B.slots ∧ PostX ⟨T.setVm vm₁, locs, cells, slots⟩ (Value.ref b :: argsL).toArray q B ∧
      Steps p.tables e below (T.setTop g) ((B.U.setTop { g with stack := rest }).pushFrame (.throwing q))) := by
  obtain ⟨mk, methM, hnamed, hmethM, hstM, habM⟩ := Cond.instanceMethod_spec hinst
  obtain ⟨m8, methM', cM, hn8, hmethM', -, -, -, -, -, -, hsigM⟩ := Cond.codeWith_spec hcode
  cases Option.some.inj (hn8.symm.trans hnamed)
  cases hmethM.symm.trans hmethM'
  obtain ⟨c2, r2, m2, q1, q2, q3, q4, kP, hkP, hkPi⟩ := Cond.selects_spec hsel
  cases hcls.symm.trans q1
  cases (State.methodFound?_of_named hnamed hy).symm.trans q2
  cases hnamed.symm.trans q3
  have hselP : selectMethod e.platform s.vm cellB.cls mk = .method mk := by rw [Launch.admits_selectMethod X.admits]; exact q4
  obtain ⟨vm₁, X₁, hstep₁⟩ := X.invokevirtual hexec hown hlink hnamed hmethM hstM hkP hkPi hy (a := b) (cell := cellB) hcell
    (fun z h => by rw [h] at hobj; cases hobj) hselP hmethM habM hkP hkPi (g := g) hg (argsL := argsL) (rest := rest) (hlen _ hsigM) hstack hdg
  rcases hK m meth c ⟨T.setVm vm₁, locs, cells, slots⟩ { g with stack := rest } (.invokevirtual index) mk (Value.ref b :: argsL).toArray X₁ hg hsize hdg hW (X₁.named hnamed) (hpre vm₁ X₁.warmed) with ⟨v, B, X', hpost, hsteps⟩ | ⟨q, B, X', hpost, hsteps⟩
  · exact Or.inl ⟨v, vm₁, B, X₁.warmed, X', hpost, fun target h => hstep₁ _ fun acts => by rw [doInvoke_state]; exact hsteps.trans h⟩
  · exact Or.inr ⟨q, vm₁, B, X₁.warmed, X', hpost, hstep₁ _ fun acts => by rw [doInvoke_state]; exact hsteps⟩
theorem vx_callSX (X : Stand p l e R s m args below meth c T locs cells slots) (hexec : p.tables.exec = Jvm.exec) {own : String} {index : Nat} {y : MethodName} {bytes : ByteArray} {maxL : Nat} {ret : Option FieldType} {hh : List (Nat × Nat × Nat × Nat)}
    (hown : s.vm.findClass own = some m.cls) (hlink : (Cond.methodLink own index y).before args s = true) (hstat : (Cond.static y).before args s = true) (hinit : (Cond.initialized y.cls).before args s = true)
    (hcode : (Cond.codeWith y bytes maxL ret hh).before args s = true) (hy : y.cls ≠ "java/lang/invoke/MethodHandle" ∧ y.cls ≠ "java/lang/invoke/VarHandle")
    {W9 : Nat} {Pre : Pt → Array Value → Prop} {Post : Pt → Array Value → Option Value → Pt → Prop} {PostX : Pt → Array Value → Addr → Pt → Prop} (hK : vx_Back l R p e below s args y 3 W9 Pre Post PostX)
    {g : JFrame} (hg : g.method = m) (hsize : g.locals.size = c.maxLocals) {argsL rest : List Value} (hlen : ∀ sig, parseMethodDescriptor y.desc = some sig → argsL.length = sig.parameters.length)
    (hstack : g.stack = argsL.reverse ++ rest) (hW : 2 * g.monitorRoom + (rest.map fun v => v.category).sum ≤ W9) (hdg : decode c.code g.pc = .ok (.invokestatic index, 3))
    (hpre : ∀ vm₁, s.WarmedH vm₁ → Pre ⟨T.setVm vm₁, locs, cells, slots⟩ argsL.toArray) :
    (∃ (v : Option Value) (vm₁ : Vm) (B : Pt), s.WarmedH vm₁ ∧ Stand p l e R s m args below meth c B.U B.locs B.cells B.slots ∧ Post ⟨T.setVm vm₁, locs, cells, slots⟩ argsL.toArray v B ∧
      ∀ target, Steps p.tables e below (B.U.setTop { g with pc := g.pc + 3, stack := v.toList ++ rest }) target → Steps p.tables e below (T.setTop g) target) ∨
    (∃ (q : Addr) (vm₁ : Vm) (B : Pt), s.WarmedH vm₁ ∧ Stand p l e R s m args below meth c B.U B.locs B.cells B.slots ∧ PostX ⟨T.setVm vm₁, locs, cells, slots⟩ argsL.toArray q B ∧
      Steps p.tables e below (T.setTop g) ((B.U.setTop { g with stack := rest }).pushFrame (.throwing q))) := by
  obtain ⟨mk, methM, cM, hnamed, hmethM, -, -, -, -, -, -, hsigM⟩ := Cond.codeWith_spec hcode
  have hstatic : methM.isStatic = true := Cond.static_spec hnamed hmethM hstat
  obtain ⟨kP, hkP, -⟩ := className_of_methodNamed hnamed
  have hinitP : kP.init = .initialized := Cond.initialized_spec (findClass_of_methodNamed hnamed) hkP hinit
  obtain ⟨vm₁, X₁, hstep₁⟩ := X.invokestatic hexec hown hlink hnamed hmethM hstatic hkP hinitP hy (g := g) hg (argsL := argsL) (rest := rest) (hlen _ hsigM) hstack hdg
  rcases hK m meth c ⟨T.setVm vm₁, locs, cells, slots⟩ { g with stack := rest } (.invokestatic index) mk argsL.toArray X₁ hg hsize hdg hW (X₁.named hnamed) (hpre vm₁ X₁.warmed) with ⟨v, B, X', hpost, hsteps⟩ | ⟨q, B, X', hpost, hsteps⟩
  · exact Or.inl ⟨v, vm₁, B, X₁.warmed, X', hpost, fun target h => hstep₁ _ fun acts => by rw [doInvoke_state]; exact hsteps.trans h⟩
  · exact Or.inr ⟨q, vm₁, B, X₁.warmed, X', hpost, hstep₁ _ fun acts => by rw [doInvoke_state]; exact hsteps⟩
theorem vx_callVW (X : Stand p l e R s m args below meth c T locs cells slots) (hexec : p.tables.exec = Jvm.exec) {own C : String} {index : Nat} {y : MethodName} {bytes : ByteArray} {maxL : Nat} {ret : Option FieldType} {hh : List (Nat × Nat × Nat × Nat)}
    (hown : s.vm.findClass own = some m.cls) (hlink : (Cond.methodLink own index y).before args s = true) (hinst : (Cond.instanceMethod y).before args s = true) (hsel : (Cond.selects C y y).before args s = true)
    (hcode : (Cond.codeWith y bytes maxL ret hh).before args s = true) (hy : y.cls ≠ "java/lang/invoke/MethodHandle" ∧ y.cls ≠ "java/lang/invoke/VarHandle")
    {W9 : Nat} {Pre : Pt → Array Value → Prop} {Post : Pt → Array Value → Option Value → Pt → Prop} (hK : Back l R p e below s args y 3 W9 Pre Post)
    {b : Addr} {cellB : Cell} (hcell : T.heap[b]? = some cellB) (hobj : cellB.vm.isStatics = false) (hcls : s.vm.findClass C = some cellB.cls)
    {g : JFrame} (hg : g.method = m) (hsize : g.locals.size = c.maxLocals) {argsL rest : List Value} (hlen : ∀ sig, parseMethodDescriptor y.desc = some sig → argsL.length = sig.parameters.length)
    (hstack : g.stack = argsL.reverse ++ .ref b :: rest) (hW : 2 * g.monitorRoom + (rest.map fun v => v.category).sum ≤ W9) (hdg : decode c.code g.pc = .ok (.invokevirtual index, 3))
    (hpre : ∀ vm₁, s.WarmedH vm₁ → Pre ⟨T.setVm vm₁, locs, cells, slots⟩ (Value.ref b :: argsL).toArray) :
    ∃ (v : Option Value) (vm₁ : Vm) (B : Pt), s.WarmedH vm₁ ∧ Stand p l e R s m args below meth c B.U B.locs B.cells B.slots ∧ Post ⟨T.setVm vm₁, locs, cells, slots⟩ (Value.ref b :: argsL).toArray v B ∧
      ∀ target, Steps p.tables e below (B.U.setTop { g with pc := g.pc + 3, stack := v.toList ++ rest }) target → Steps p.tables e below (T.setTop g) target := by
  obtain ⟨mk, methM, hnamed, hmethM, hstM, habM⟩ := Cond.instanceMethod_spec hinst
  obtain ⟨m8, methM', cM, hn8, hmethM', -, -, -, -, -, -, hsigM⟩ := Cond.codeWith_spec hcode
  cases Option.some.inj (hn8.symm.trans hnamed)
  cases hmethM.symm.trans hmethM'
  obtain ⟨c2, r2, m2, q1, q2, q3, q4, kP, hkP, hkPi⟩ := Cond.selects_spec hsel
  cases hcls.symm.trans q1
  cases (State.methodFound?_of_named hnamed hy).symm.trans q2
  cases hnamed.symm.trans q3
  have hselP : selectMethod e.platform s.vm cellB.cls mk = .method mk := by rw [Launch.admits_selectMethod X.admits]; exact q4
  obtain ⟨vm₁, X₁, hstep₁⟩ := X.invokevirtual hexec hown hlink hnamed hmethM hstM hkP hkPi hy (a := b) (cell := cellB) hcell
    (fun z h => by rw [h] at hobj; cases hobj) hselP hmethM habM hkP hkPi (g := g) hg (argsL := argsL) (rest := rest) (hlen _ hsigM) hstack hdg
  obtain ⟨v, B, X', hpost, hsteps⟩ := hK m meth c ⟨T.setVm vm₁, locs, cells, slots⟩ { g with stack := rest } (.invokevirtual index) mk (Value.ref b :: argsL).toArray X₁ hg hsize hdg hW (X₁.named hnamed) (hpre vm₁ X₁.warmed)
  exact ⟨v, vm₁, B, X₁.warmed, X', hpost, fun target h => hstep₁ _ fun acts => by rw [doInvoke_state]; exact hsteps.trans h⟩
abbrev vx_CVW (R : Room) (s : State) (args : Array Value) (own C : String) (index : Nat) (y : MethodName) (bytes : ByteArray) (maxL : Nat) (ret : Option FieldType) (hh : List (Nat × Nat × Nat × Nat)) (ws : List Cond) (rm : Room) (mc ms n : Nat) : Prop :=
  (rm.cells = mc ∧ rm.slots = ms ∧ rm.frames + 1 ≤ R.frames ∧ 8 + (maxL + 11) + rm.locals ≤ R.locals ∧ (∀ w ∈ ws, ∀ (a' : Array Value) (U : State), s.WarmedH U.vm → w.before a' U = true) ∧ Cond.codeWith y bytes maxL ret hh ∈ ws) ∧
  (Cond.codeWith y bytes maxL ret hh).before args s = true ∧ (Cond.initialized y.cls).before args s = true ∧ (y.cls ≠ "java/lang/invoke/MethodHandle" ∧ y.cls ≠ "java/lang/invoke/VarHandle") ∧
  (∀ sig, parseMethodDescriptor y.desc = some sig → n = sig.parameters.length) ∧ (Cond.methodLink own index y).before args s = true ∧ (Cond.instanceMethod y).before args s = true ∧ (Cond.selects C y y).before args s = true
theorem vx_cwVW {own C : String} {index maxL mc ms : Nat} {y : MethodName} {bytes : ByteArray} {ret : Option FieldType} {hh : List (Nat × Nat × Nat × Nat)} {Ts ws ws' : List Cond} {rm : Room} (n : Nat) (ht : ∀ w ∈ Ts, w.before args s = true) (hT : GoodIn Ts (wsV own index C y ws)) (hw : ws = Cond.codeWith y bytes maxL ret hh :: ws') (hrc : rm.cells = mc) (hrs : rm.slots = ms)
    (hd : y.cls = C ∧ y.cls ≠ "java/lang/invoke/MethodHandle" ∧ y.cls ≠ "java/lang/invoke/VarHandle" ∧ (parseMethodDescriptor y.desc).map (fun d => d.parameters.length) = some n) (hR : rm.frames + 1 ≤ R.frames ∧ 8 + (maxL + 11) + rm.locals ≤ R.locals) :
    vx_CVW R s args own C index y bytes maxL ret hh ws rm mc ms n := by
  obtain ⟨hC, hd⟩ := hd
  subst hC
  have ok : ∀ w ∈ wsV own index y.cls y ws, w.before args s = true := fun w h => ht w (hT w h).1
  have hG : GoodIn Ts ws := fun w h => hT w (by unfold wsV; exact List.mem_append_right _ h)
  have hc : Cond.codeWith y bytes maxL ret hh ∈ ws := by rw [hw]; exact List.mem_cons_self
  refine ⟨⟨hrc, hrs, hR.1, hR.2, pay_in ht hG, hc⟩, ht _ (hG _ hc).1, ok _ (by simp [wsV]), ⟨hd.1, hd.2.1⟩, fun sig h => ?_, ok _ (by simp [wsV]), ok _ (by simp [wsV]), ok _ (by simp [wsV])⟩
  have h2 := hd.2.2
  rw [h] at h2
  exact (Option.some.inj h2).symm
theorem vx_runVW {y : MethodName} {bytes cc : ByteArray} {maxL nL mc ms n index : Nat} {ret : Option FieldType} {hh : List (Nat × Nat × Nat × Nat)} {ws : List Cond} {rm : Room} {Pc : Array Value → State → Prop} {Qc : Array Value → State → Outcome → State → Prop} {free : Addr → Prop} {Ts : List Cond} {own C : String} {b : Addr} {As rest : List Value} {g : JFrame}
    (S : CallFix p m c cc nL s args Ts own) (hM : Met l y ws rm Pc Qc mc ms free) (cw : vx_CVW R s args own C index y bytes maxL ret hh ws rm mc ms n) (hp : PreV s H C b Pc As)
    (hg : g.method = m) (hn : As.length = n) (hsize : g.locals.size = nL) (hstack : g.stack = As.reverse ++ .ref b :: rest) (hW : 2 * g.monitorRoom + (rest.map fun v => v.category).sum ≤ 8) (hdg : decode cc g.pc = .ok (.invokevirtual index, 3)) (hf : cells + mc ≤ R.cells ∧ slots + ms ≤ R.slots) :
    va_Run p l e R s m args below meth c H locs cells slots mc ms g rest (Qc (Value.ref b :: As).toArray) free := by
  obtain ⟨⟨hrc, hrs, hfr, hlo, hws, hcw⟩, hcode, hini, hy, hlen, hl, hin, hse⟩ := cw
  have hK : Back l R p e below s args y 3 8 (PreOf R mc ms Pc) (PostOf Qc mc ms free) := va_backW (hh := hh) (bytes := bytes) (maxL := maxL) (ret := ret) hM hp.1 hrc hrs hfr hlo hws hcw (fun a' U hW => word_at hW (Or.inl (by first | rfl | simp [Cond.onTables, Cond.keeps, Cond.steady])) hini)
  obtain ⟨hx, hb, hml, ho, -⟩ := S
  obtain ⟨-, ⟨cellB, hcB, hoB, hclB⟩, hPc⟩ := hp
  intro T hT X
  obtain ⟨v, vm₁, ⟨U', l2, c2, s2⟩, hW₁, X', ⟨g', mk, t, L, e1, e2, hq, h1, hL, h2, h3⟩, st⟩ := vx_callVW X hx (C := C) (hh := hh) (bytes := bytes) (maxL := maxL) (ret := ret) ho hl hin hse hcode hy hK (by rw [hT]; exact hcB) hoB hclB hg (hsize.trans hml.symm) (argsL := As) (rest := rest) (fun sig h => hn.trans (hlen sig h)) hstack hW (by rw [hb]; exact hdg)
    (fun vm₁ hW₁ => ⟨hf.1, hf.2, hPc (T.setVm vm₁) hT hW₁⟩)
  dsimp only [Pt.U, Pt.locs, Pt.cells, Pt.slots] at X' e1 e2 h1 h2 h3 st
  subst h1; subst h2; subst h3
  exact ⟨v, (T.setVm vm₁).calling g' mk (Value.ref b :: As).toArray, t, U', L, hT, X', hL, e1, e2, hq, st⟩
section
variable {y : MethodName} {bytes cc : ByteArray} {maxL nL mc ms n index : Nat} {ret : Option FieldType} {ws : List Cond} {rm : Room} {Pc : Array Value → State → Prop} {Qc : Array Value → State → Outcome → State → Prop} {XC : String → State → State → Prop} {free : Addr → Prop} {Ts : List Cond} {own C : String} {b : Addr} {As rest : List Value} {g : JFrame}
theorem vx_runVX {hh : List (Nat × Nat × Nat × Nat)} (S : CallFix p m c cc nL s args Ts own) (hM : vx_Met l y ws rm Pc Qc XC mc ms free) (cw : vx_CVW R s args own C index y bytes maxL ret hh ws rm mc ms n) (hp : PreV s H C b Pc As)
    (hg : g.method = m) (hn : As.length = n) (hsize : g.locals.size = nL) (hstack : g.stack = As.reverse ++ .ref b :: rest) (hW : 2 * g.monitorRoom + (rest.map fun v => v.category).sum ≤ 8) (hdg : decode cc g.pc = .ok (.invokevirtual index, 3)) (hf : cells + mc ≤ R.cells ∧ slots + ms ≤ R.slots) :
    vx_Run p l e R s m args below meth c H locs cells slots mc ms g rest (Qc (Value.ref b :: As).toArray) XC free := by
  obtain ⟨⟨hrc, hrs, hfr, hlo, hws, hcw⟩, hcode, hini, hy, hlen, hl, hin, hse⟩ := cw
  have hK : vx_Back l R p e below s args y 3 8 (PreOf R mc ms Pc) (PostOf Qc mc ms free) (vx_Post XC mc ms free) := vx_backW (hh := hh) (bytes := bytes) (maxL := maxL) (ret := ret) hM hp.1 hrc hrs hfr hlo hws hcw (fun a' U hW => word_at hW (Or.inl (by first | rfl | simp [Cond.onTables, Cond.keeps, Cond.steady])) hini)
  obtain ⟨hx, hb, hml, ho, -⟩ := S
  obtain ⟨-, ⟨cellB, hcB, hoB, hclB⟩, hPc⟩ := hp
  intro T hT X
  rcases vx_callVX X hx (C := C) (hh := hh) (bytes := bytes) (maxL := maxL) (ret := ret) ho hl hin hse hcode hy hK (by rw [hT]; exact hcB) hoB hclB hg (hsize.trans hml.symm) (argsL := As) (rest := rest) (fun sig h => hn.trans (hlen sig h)) hstack hW (by rw [hb]; exact hdg)
    (fun vm₁ hW₁ => ⟨hf.1, hf.2, hPc (T.setVm vm₁) hT hW₁⟩) with ⟨v, vm₁, ⟨U', l2, c2, s2⟩, hW₁, X', ⟨g', mk, t, L, e1, e2, hq, h1, hL, h2, h3⟩, st⟩ | ⟨q, vm₁, ⟨U', l2, c2, s2⟩, hW₁, X', ⟨g', mk, t, L, E, ce, e1, e2, hq, hce, hcv, hcl, h1, hL, h2, h3⟩, st⟩
  · dsimp only [Pt.U, Pt.locs, Pt.cells, Pt.slots] at X' e1 e2 h1 h2 h3 st
    subst h1; subst h2; subst h3
    exact Or.inl ⟨v, (T.setVm vm₁).calling g' mk (Value.ref b :: As).toArray, t, U', L, hT, X', hL, e1, e2, hq, st⟩
  · dsimp only [Pt.U, Pt.locs, Pt.cells, Pt.slots] at X' e1 e2 h1 h2 h3 st hcl
    subst h1; subst h2; subst h3
    exact Or.inr ⟨q, (T.setVm vm₁).calling g' mk (Value.ref b :: As).toArray, t, U', L, E, ce, hT, X', hL, e1, e2, hq, hce, hcv, vx_cls hW₁ hcl, st⟩
theorem vx_runSX {hh : List (Nat × Nat × Nat × Nat)} (S : CallFix p m c cc nL s args Ts own) (hM : vx_Met l y ws rm Pc Qc XC mc ms free) (cw : vx_CSW R s args own index y bytes maxL ret hh ws rm mc ms n) (hp : PreS s H Pc As)
    (hg : g.method = m) (hn : As.length = n) (hsize : g.locals.size = nL) (hstack : g.stack = As.reverse ++ rest) (hW : 2 * g.monitorRoom + (rest.map fun v => v.category).sum ≤ 8) (hdg : decode cc g.pc = .ok (.invokestatic index, 3)) (hf : cells + mc ≤ R.cells ∧ slots + ms ≤ R.slots) :
    vx_Run p l e R s m args below meth c H locs cells slots mc ms g rest (Qc As.toArray) XC free := by
  obtain ⟨⟨hrc, hrs, hfr, hlo, hws, hcw⟩, hcode, hini, hy, hlen, hl, hstt⟩ := cw
  have hK : vx_Back l R p e below s args y 3 8 (PreOf R mc ms Pc) (PostOf Qc mc ms free) (vx_Post XC mc ms free) := vx_backW (hh := hh) (bytes := bytes) (maxL := maxL) (ret := ret) hM hp.1 hrc hrs hfr hlo hws hcw (fun a' U hW => word_at hW (Or.inl (by first | rfl | simp [Cond.onTables, Cond.keeps, Cond.steady])) hini)
  obtain ⟨hx, hb, hml, ho, -⟩ := S
  intro T hT X
  rcases vx_callSX X hx (hh := hh) (bytes := bytes) (maxL := maxL) (ret := ret) ho hl hstt hini hcode hy hK hg (hsize.trans hml.symm) (argsL := As) (rest := rest) (fun sig h => hn.trans (hlen sig h)) hstack hW (by rw [hb]; exact hdg)
    (fun vm₁ hW₁ => ⟨hf.1, hf.2, hp.2 (T.setVm vm₁) hT hW₁⟩) with ⟨v, vm₁, ⟨U', l2, c2, s2⟩, hW₁, X', ⟨g', mk, t, L, e1, e2, hq, h1, hL, h2, h3⟩, st⟩ | ⟨q, vm₁, ⟨U', l2, c2, s2⟩, hW₁, X', ⟨g', mk, t, L, E, ce, e1, e2, hq, hce, hcv, hcl, h1, hL, h2, h3⟩, st⟩
  · dsimp only [Pt.U, Pt.locs, Pt.cells, Pt.slots] at X' e1 e2 h1 h2 h3 st
    subst h1; subst h2; subst h3
    exact Or.inl ⟨v, (T.setVm vm₁).calling g' mk As.toArray, t, U', L, hT, X', hL, e1, e2, hq, st⟩
  · dsimp only [Pt.U, Pt.locs, Pt.cells, Pt.slots] at X' e1 e2 h1 h2 h3 st hcl
    subst h1; subst h2; subst h3
    exact Or.inr ⟨q, (T.setVm vm₁).calling g' mk As.toArray, t, U', L, E, ce, hT, X', hL, e1, e2, hq, hce, hcv, vx_cls hW₁ hcl, st⟩
end
end VXH
theorem vx_ofWH {l : Launch} {y : MethodName} {ws ws' : List Cond} {rm : Room} {Pc : Array Value → State → Prop} {Qc : Array Value → State → Outcome → State → Prop} {XC : String → State → State → Prop} {mc ms : Nat} {free : Addr → Prop} {cc : ByteArray} {maxL : Nat} {ret : Option FieldType} {hh : List (Nat × Nat × Nat × Nat)}
    (hy : plainName y.cls = true) (hw : ws = Cond.codeWith y cc maxL ret hh :: ws')
    (body : ∀ p e s m args below meth c s₁, BodyLoose p l y (headSpec ws rm) cc maxL ret e s m args below meth c s₁ → c.maxLocals = maxL → Pc args s →
      W p l e (headSpec ws rm).room s m args below meth c s.heap [] 0 0 (vx_MQ below Qc XC args s mc ms free) (entryFrame m args maxL)) : vx_Met l y ws rm Pc Qc XC mc ms free := by
  refine MetFree.of_bodyS (code := cc) (maxLocals := maxL) (ret := ret) hy ?_ ?_
  · intro args s m h hn
    obtain ⟨m9, meth, c, hn9, h1, h2, h3, h4, -, h5, h6, -⟩ := Cond.codeWith_spec (atoms_spec (ws := ws) h _ (by rw [hw]; exact List.mem_cons_self))
    cases hn.symm.trans hn9
    exact ⟨meth, c, h1, h2, h3, h4, h5, h6⟩
  · intro p e s m args below meth c s₁ B hml hP _
    have hh0 : s₁.heap = s.heap := by rw [B.state]; rfl
    obtain ⟨t, a1, o, b1, b2, b3⟩ := body p e s m args below meth c s₁ B hml hP s₁ hh0 (Stand.of_body B)
    exact ⟨t, o, a1, b1, b2, b3⟩
/-! ===== END ===== -/
end
section
/-! ===== BEGIN printed: names, fields, word lists, decode rows ===== -/
def RX0 : String := "MeteredSheets$Ledger"
def TX0 : u_T := fun k => match k with
  | 0 => ("MeteredSheets$Ledger", "prices", "[I", true)
  | 1 => ("MeteredSheets$Ledger", "budgets", "[I", true)
  | 2 => ("MeteredSheets$Ledger", "earnings", "[I", true)
  | 3 => ("MeteredSheets$Ledger", "readsOf", "[I", true)
  | 4 => ("MeteredSheets$Ledger", "bills", "[I", true)
  | 5 => ("MeteredSheets$Ledger", "counts", "[I", true)
  | 6 => ("MeteredSheets$Ledger", "kept", "[I", true)
  | _ => ("MeteredSheets$Ledger", "keptCount", "I", false)
def tyX0 : Nat → FieldType := fun k => match k with
  | 0 => .array .int
  | 1 => .array .int
  | 2 => .array .int
  | 3 => .array .int
  | 4 => .array .int
  | 5 => .array .int
  | 6 => .array .int
  | _ => .int
abbrev wsX00 : List Cond := u_ws RX0 TX0 8
theorem nmX0 : ∀ a, a < 8 → ∀ b, b < 8 → a ≠ b → (TX0 a).2.1 ≠ (TX0 b).2.1 := by decide +kernel
theorem tyX0_ok : ∀ k, k < 8 → parseFieldDescriptor (TX0 k).2.2.1 = some (tyX0 k) := by decide +kernel
abbrev cX0_init : ByteArray := prog_2_method_1_code
def yX0_init : MethodName := ⟨RX0, "<init>", "()V"⟩
abbrev cX0_paysFor : ByteArray := prog_2_method_2_code
def yX0_paysFor : MethodName := ⟨RX0, "paysFor", "(IIII)Z"⟩
abbrev cX0_costOf : ByteArray := prog_2_method_3_code
def yX0_costOf : MethodName := ⟨RX0, "costOf", "(I)I"⟩
abbrev cX0_enter : ByteArray := prog_2_method_4_code
def yX0_enter : MethodName := ⟨RX0, "enter", "(III)V"⟩
def RX1 : String := "MeteredSheets"
def TX1 : u_T := fun k => match k with
  | 0 => ("MeteredSheets", "kinds", "[I", true)
  | 1 => ("MeteredSheets", "ones", "[I", true)
  | 2 => ("MeteredSheets", "others", "[I", true)
  | 3 => ("MeteredSheets", "numbers", "[I", true)
  | 4 => ("MeteredSheets", "values", "[I", true)
  | 5 => ("MeteredSheets", "marked", "[Z", true)
  | 6 => ("MeteredSheets", "order", "[I", true)
  | 7 => ("MeteredSheets", "ledger", "LMeteredSheets$Ledger;", true)
  | 8 => ("MeteredSheets", "changed", "[Z", true)
  | 9 => ("MeteredSheets", "placed", "[Z", true)
  | 10 => ("MeteredSheets", "reaching", "[Z", true)
  | _ => ("MeteredSheets", "fresh", "[I", true)
def tyX1 : Nat → FieldType := fun k => match k with
  | 0 => .array .int
  | 1 => .array .int
  | 2 => .array .int
  | 3 => .array .int
  | 4 => .array .int
  | 5 => .array .boolean
  | 6 => .array .int
  | 7 => .object "MeteredSheets$Ledger"
  | 8 => .array .boolean
  | 9 => .array .boolean
  | 10 => .array .boolean
  | _ => .array .int
abbrev wsX10 : List Cond := u_ws RX1 TX1 12
theorem nmX1 : ∀ a, a < 12 → ∀ b, b < 12 → a ≠ b → (TX1 a).2.1 ≠ (TX1 b).2.1 := by decide +kernel
theorem tyX1_ok : ∀ k, k < 12 → parseFieldDescriptor (TX1 k).2.2.1 = some (tyX1 k) := by decide +kernel
abbrev cX1_init : ByteArray := prog_1_method_1_code
def yX1_init : MethodName := ⟨RX1, "<init>", "()V"⟩
abbrev cX1_setNumber : ByteArray := prog_1_method_2_code
def yX1_setNumber : MethodName := ⟨RX1, "setNumber", "(III)I"⟩
abbrev cX1_setSum : ByteArray := prog_1_method_3_code
def yX1_setSum : MethodName := ⟨RX1, "setSum", "(IIIII)I"⟩
abbrev cX1_setGreater : ByteArray := prog_1_method_4_code
def yX1_setGreater : MethodName := ⟨RX1, "setGreater", "(IIII)I"⟩
abbrev cX1_setTimes : ByteArray := prog_1_method_5_code
def yX1_setTimes : MethodName := ⟨RX1, "setTimes", "(IIII)I"⟩
abbrev cX1_refresh : ByteArray := prog_1_method_6_code
def yX1_refresh : MethodName := ⟨RX1, "refresh", "(I)I"⟩
abbrev cX1_setPrice : ByteArray := prog_1_method_7_code
def yX1_setPrice : MethodName := ⟨RX1, "setPrice", "(II)I"⟩
abbrev cX1_grant : ByteArray := prog_1_method_8_code
def yX1_grant : MethodName := ⟨RX1, "grant", "(II)I"⟩
abbrev cX1_budget : ByteArray := prog_1_method_9_code
def yX1_budget : MethodName := ⟨RX1, "budget", "(I)I"⟩
abbrev cX1_earned : ByteArray := prog_1_method_10_code
def yX1_earned : MethodName := ⟨RX1, "earned", "(I)I"⟩
abbrev cX1_caused : ByteArray := prog_1_method_11_code
def yX1_caused : MethodName := ⟨RX1, "caused", "(I)I"⟩
abbrev cX1_value : ByteArray := prog_1_method_12_code
def yX1_value : MethodName := ⟨RX1, "value", "(I)I"⟩
abbrev cX1_isMarked : ByteArray := prog_1_method_13_code
def yX1_isMarked : MethodName := ⟨RX1, "isMarked", "(I)Z"⟩
abbrev cX1_valueAnew : ByteArray := prog_1_method_14_code
def yX1_valueAnew : MethodName := ⟨RX1, "valueAnew", "(I)I"⟩
abbrev cX1_readings : ByteArray := prog_1_method_15_code
def yX1_readings : MethodName := ⟨RX1, "readings", "()I"⟩
abbrev cX1_reading : ByteArray := prog_1_method_16_code
def yX1_reading : MethodName := ⟨RX1, "reading", "(I)I"⟩
abbrev cX1_timesRead : ByteArray := prog_1_method_17_code
def yX1_timesRead : MethodName := ⟨RX1, "timesRead", "(II)I"⟩
abbrev cX1_readOf : ByteArray := prog_1_method_18_code
def yX1_readOf : MethodName := ⟨RX1, "readOf", "(I)I"⟩
abbrev cX1_isUser : ByteArray := prog_1_method_19_code
def yX1_isUser : MethodName := ⟨RX1, "isUser", "(I)Z"⟩
abbrev cX1_isSheet : ByteArray := prog_1_method_20_code
def yX1_isSheet : MethodName := ⟨RX1, "isSheet", "(I)Z"⟩
abbrev cX1_isCell : ByteArray := prog_1_method_21_code
def yX1_isCell : MethodName := ⟨RX1, "isCell", "(I)Z"⟩
abbrev cX1_isWithin : ByteArray := prog_1_method_22_code
def yX1_isWithin : MethodName := ⟨RX1, "isWithin", "(II)Z"⟩
abbrev cX1_sheetOf : ByteArray := prog_1_method_23_code
def yX1_sheetOf : MethodName := ⟨RX1, "sheetOf", "(I)I"⟩
abbrev cX1_wouldReadItself : ByteArray := prog_1_method_24_code
def yX1_wouldReadItself : MethodName := ⟨RX1, "wouldReadItself", "(III)Z"⟩
abbrev cX1_readsOneOf : ByteArray := prog_1_method_25_code
def yX1_readsOneOf : MethodName := ⟨RX1, "readsOneOf", "(I[Z)Z"⟩
abbrev cX1_isIn : ByteArray := prog_1_method_26_code
def yX1_isIn : MethodName := ⟨RX1, "isIn", "(I[Z)Z"⟩
abbrev cX1_giveFormula : ByteArray := prog_1_method_27_code
def yX1_giveFormula : MethodName := ⟨RX1, "giveFormula", "(IIIIII)I"⟩
abbrev cX1_putInOrder : ByteArray := prog_1_method_28_code
def yX1_putInOrder : MethodName := ⟨RX1, "putInOrder", "()V"⟩
abbrev cX1_lowestFreeCell : ByteArray := prog_1_method_29_code
def yX1_lowestFreeCell : MethodName := ⟨RX1, "lowestFreeCell", "()I"⟩
abbrev cX1_isReady : ByteArray := prog_1_method_30_code
def yX1_isReady : MethodName := ⟨RX1, "isReady", "(I)Z"⟩
abbrev cX1_forgetChanges : ByteArray := prog_1_method_31_code
def yX1_forgetChanges : MethodName := ⟨RX1, "forgetChanges", "()V"⟩
abbrev cX1_goThrough : ByteArray := prog_1_method_32_code
def yX1_goThrough : MethodName := ⟨RX1, "goThrough", "(IZ)I"⟩
abbrev cX1_compute : ByteArray := prog_1_method_33_code
def yX1_compute : MethodName := ⟨RX1, "compute", "(II)V"⟩
abbrev cX1_meteredRead : ByteArray := prog_1_method_34_code
def yX1_meteredRead : MethodName := ⟨RX1, "meteredRead", "(II)I"⟩
abbrev cX1_resultOf : ByteArray := prog_1_method_35_code
def yX1_resultOf : MethodName := ⟨RX1, "resultOf", "(I[I)I"⟩
abbrev cX1_valueIn : ByteArray := prog_1_method_36_code
def yX1_valueIn : MethodName := ⟨RX1, "valueIn", "([II)I"⟩
abbrev cX1_held : ByteArray := prog_1_method_37_code
def yX1_held : MethodName := ⟨RX1, "held", "(I)I"⟩
def RX2 : String := "MeteredSheetsModel"
def TX2 : u_T := fun k => match k with
  | 0 => ("MeteredSheetsModel", "kinds", "[I", true)
  | 1 => ("MeteredSheetsModel", "ones", "[I", true)
  | 2 => ("MeteredSheetsModel", "others", "[I", true)
  | 3 => ("MeteredSheetsModel", "numbers", "[I", true)
  | 4 => ("MeteredSheetsModel", "values", "[I", true)
  | 5 => ("MeteredSheetsModel", "marks", "[I", true)
  | 6 => ("MeteredSheetsModel", "changed", "[I", true)
  | 7 => ("MeteredSheetsModel", "anew", "[I", true)
  | 8 => ("MeteredSheetsModel", "order", "[I", true)
  | 9 => ("MeteredSheetsModel", "stands", "[I", true)
  | 10 => ("MeteredSheetsModel", "prices", "[I", true)
  | 11 => ("MeteredSheetsModel", "budgets", "[I", true)
  | 12 => ("MeteredSheetsModel", "earnings", "[I", true)
  | 13 => ("MeteredSheetsModel", "costs", "[I", true)
  | 14 => ("MeteredSheetsModel", "kept", "[I", true)
  | 15 => ("MeteredSheetsModel", "many", "I", false)
  | 16 => ("MeteredSheetsModel", "times", "[I", true)
  | _ => ("MeteredSheetsModel", "thrown", "I", false)
def tyX2 : Nat → FieldType := fun k => match k with
  | 0 => .array .int
  | 1 => .array .int
  | 2 => .array .int
  | 3 => .array .int
  | 4 => .array .int
  | 5 => .array .int
  | 6 => .array .int
  | 7 => .array .int
  | 8 => .array .int
  | 9 => .array .int
  | 10 => .array .int
  | 11 => .array .int
  | 12 => .array .int
  | 13 => .array .int
  | 14 => .array .int
  | 15 => .int
  | 16 => .array .int
  | _ => .int
abbrev wsX20 : List Cond := u_ws RX2 TX2 18
theorem nmX2 : ∀ a, a < 18 → ∀ b, b < 18 → a ≠ b → (TX2 a).2.1 ≠ (TX2 b).2.1 := by decide +kernel
theorem tyX2_ok : ∀ k, k < 18 → parseFieldDescriptor (TX2 k).2.2.1 = some (tyX2 k) := by decide +kernel
abbrev cX2_init : ByteArray := prog_4_method_1_code
def yX2_init : MethodName := ⟨RX2, "<init>", "()V"⟩
abbrev cX2_thrown : ByteArray := prog_4_method_2_code
def yX2_thrown : MethodName := ⟨RX2, "thrown", "()I"⟩
abbrev cX2_fails : ByteArray := prog_4_method_3_code
def yX2_fails : MethodName := ⟨RX2, "fails", "(I)I"⟩
abbrev cX2_in : ByteArray := prog_4_method_4_code
def yX2_in : MethodName := ⟨RX2, "in", "(III)Z"⟩
abbrev cX2_isCell : ByteArray := prog_4_method_5_code
def yX2_isCell : MethodName := ⟨RX2, "isCell", "(I)Z"⟩
abbrev cX2_isSheet : ByteArray := prog_4_method_6_code
def yX2_isSheet : MethodName := ⟨RX2, "isSheet", "(I)Z"⟩
abbrev cX2_one : ByteArray := prog_4_method_7_code
def yX2_one : MethodName := ⟨RX2, "one", "(I)I"⟩
abbrev cX2_other : ByteArray := prog_4_method_8_code
def yX2_other : MethodName := ⟨RX2, "other", "(I)I"⟩
abbrev cX2_layOrder : ByteArray := prog_4_method_9_code
def yX2_layOrder : MethodName := ⟨RX2, "layOrder", "()V"⟩
abbrev cX2_held : ByteArray := prog_4_method_10_code
def yX2_held : MethodName := ⟨RX2, "held", "(I)I"⟩
abbrev cX2_comesTo : ByteArray := prog_4_method_11_code
def yX2_comesTo : MethodName := ⟨RX2, "comesTo", "(I[I)I"⟩
abbrev cX2_isMetered : ByteArray := prog_4_method_12_code
def yX2_isMetered : MethodName := ⟨RX2, "isMetered", "(II)Z"⟩
abbrev cX2_priceOf : ByteArray := prog_4_method_13_code
def yX2_priceOf : MethodName := ⟨RX2, "priceOf", "(II)I"⟩
abbrev cX2_pay : ByteArray := prog_4_method_14_code
def yX2_pay : MethodName := ⟨RX2, "pay", "(III)V"⟩
abbrev cX2_compute : ByteArray := prog_4_method_15_code
def yX2_compute : MethodName := ⟨RX2, "compute", "(II)V"⟩
abbrev cX2_readsChanged : ByteArray := prog_4_method_16_code
def yX2_readsChanged : MethodName := ⟨RX2, "readsChanged", "(I)Z"⟩
abbrev cX2_goThrough : ByteArray := prog_4_method_17_code
def yX2_goThrough : MethodName := ⟨RX2, "goThrough", "(IZ)I"⟩
abbrev cX2_reaches : ByteArray := prog_4_method_18_code
def yX2_reaches : MethodName := ⟨RX2, "reaches", "(II)Z"⟩
abbrev cX2_change : ByteArray := prog_4_method_19_code
def yX2_change : MethodName := ⟨RX2, "change", "(IIIIII)I"⟩
abbrev cX2_isCaller : ByteArray := prog_4_method_20_code
def yX2_isCaller : MethodName := ⟨RX2, "isCaller", "(II)Z"⟩
abbrev cX2_setNumber : ByteArray := prog_4_method_21_code
def yX2_setNumber : MethodName := ⟨RX2, "setNumber", "(III)I"⟩
abbrev cX2_setSum : ByteArray := prog_4_method_22_code
def yX2_setSum : MethodName := ⟨RX2, "setSum", "(IIIII)I"⟩
abbrev cX2_setGreater : ByteArray := prog_4_method_23_code
def yX2_setGreater : MethodName := ⟨RX2, "setGreater", "(IIII)I"⟩
abbrev cX2_setTimes : ByteArray := prog_4_method_24_code
def yX2_setTimes : MethodName := ⟨RX2, "setTimes", "(IIII)I"⟩
abbrev cX2_refresh : ByteArray := prog_4_method_25_code
def yX2_refresh : MethodName := ⟨RX2, "refresh", "(I)I"⟩
abbrev cX2_setPrice : ByteArray := prog_4_method_26_code
def yX2_setPrice : MethodName := ⟨RX2, "setPrice", "(II)I"⟩
abbrev cX2_grant : ByteArray := prog_4_method_27_code
def yX2_grant : MethodName := ⟨RX2, "grant", "(II)I"⟩
abbrev cX2_budget : ByteArray := prog_4_method_28_code
def yX2_budget : MethodName := ⟨RX2, "budget", "(I)I"⟩
abbrev cX2_earned : ByteArray := prog_4_method_29_code
def yX2_earned : MethodName := ⟨RX2, "earned", "(I)I"⟩
abbrev cX2_caused : ByteArray := prog_4_method_30_code
def yX2_caused : MethodName := ⟨RX2, "caused", "(I)I"⟩
abbrev cX2_value : ByteArray := prog_4_method_31_code
def yX2_value : MethodName := ⟨RX2, "value", "(I)I"⟩
abbrev cX2_isMarked : ByteArray := prog_4_method_32_code
def yX2_isMarked : MethodName := ⟨RX2, "isMarked", "(I)Z"⟩
abbrev cX2_valueAnew : ByteArray := prog_4_method_33_code
def yX2_valueAnew : MethodName := ⟨RX2, "valueAnew", "(I)I"⟩
abbrev cX2_readings : ByteArray := prog_4_method_34_code
def yX2_readings : MethodName := ⟨RX2, "readings", "()I"⟩
abbrev cX2_reading : ByteArray := prog_4_method_35_code
def yX2_reading : MethodName := ⟨RX2, "reading", "(I)I"⟩
abbrev cX2_timesRead : ByteArray := prog_4_method_36_code
def yX2_timesRead : MethodName := ⟨RX2, "timesRead", "(II)I"⟩
abbrev cX2_readOf : ByteArray := prog_4_method_37_code
def yX2_readOf : MethodName := ⟨RX2, "readOf", "(I)I"⟩
def RJ9 : String := "java/lang/Math"
def TJ9 : u_T := fun k => match k with
  | _ => ("", "", "", false)
def tyJ9 : Nat → FieldType := fun k => match k with
  | _ => .int
abbrev wsJ90 : List Cond := u_ws RJ9 TJ9 0
theorem nmJ9 : ∀ a, a < 0 → ∀ b, b < 0 → a ≠ b → (TJ9 a).2.1 ≠ (TJ9 b).2.1 := by decide +kernel
theorem tyJ9_ok : ∀ k, k < 0 → parseFieldDescriptor (TJ9 k).2.2.1 = some (tyJ9 k) := by decide +kernel
abbrev cJ9_max_7cf53 : ByteArray := prog_9_method_65_code
def yJ9_max_7cf53 : MethodName := ⟨RJ9, "max", "(II)I"⟩
abbrev cJ9_min_7cf53 : ByteArray := prog_9_method_69_code
def yJ9_min_7cf53 : MethodName := ⟨RJ9, "min", "(II)I"⟩
def RJ0 : String := "java/lang/String"
def TJ0 : u_T := fun k => match k with
  | _ => ("", "", "", false)
def tyJ0 : Nat → FieldType := fun k => match k with
  | _ => .int
abbrev wsJ00 : List Cond := u_ws RJ0 TJ0 0
theorem nmJ0 : ∀ a, a < 0 → ∀ b, b < 0 → a ≠ b → (TJ0 a).2.1 ≠ (TJ0 b).2.1 := by decide +kernel
theorem tyJ0_ok : ∀ k, k < 0 → parseFieldDescriptor (TJ0 k).2.2.1 = some (tyJ0 k) := by decide +kernel
def RL : String := "MeteredSheetsLaw"
abbrev cL_setNumber : ByteArray := method_3_code
def yL_setNumber : MethodName := ⟨RL, "setNumber", "(LMeteredSheets;III[J)I"⟩
abbrev cL_setSum : ByteArray := method_4_code
def yL_setSum : MethodName := ⟨RL, "setSum", "(LMeteredSheets;IIIII[J)I"⟩
abbrev cL_setGreater : ByteArray := method_5_code
def yL_setGreater : MethodName := ⟨RL, "setGreater", "(LMeteredSheets;IIII[J)I"⟩
abbrev cL_setTimes : ByteArray := method_6_code
def yL_setTimes : MethodName := ⟨RL, "setTimes", "(LMeteredSheets;IIII[J)I"⟩
abbrev cL_refresh : ByteArray := method_7_code
def yL_refresh : MethodName := ⟨RL, "refresh", "(LMeteredSheets;I[J)I"⟩
abbrev cL_setPrice : ByteArray := method_8_code
def yL_setPrice : MethodName := ⟨RL, "setPrice", "(LMeteredSheets;II[J)I"⟩
abbrev cL_grant : ByteArray := method_9_code
def yL_grant : MethodName := ⟨RL, "grant", "(LMeteredSheets;II[J)I"⟩
abbrev cL_budget : ByteArray := method_10_code
def yL_budget : MethodName := ⟨RL, "budget", "(LMeteredSheets;I[J)I"⟩
abbrev cL_earned : ByteArray := method_11_code
def yL_earned : MethodName := ⟨RL, "earned", "(LMeteredSheets;I[J)I"⟩
abbrev cL_caused : ByteArray := method_12_code
def yL_caused : MethodName := ⟨RL, "caused", "(LMeteredSheets;I[J)I"⟩
abbrev cL_value : ByteArray := method_13_code
def yL_value : MethodName := ⟨RL, "value", "(LMeteredSheets;I[J)I"⟩
abbrev cL_isMarked : ByteArray := method_14_code
def yL_isMarked : MethodName := ⟨RL, "isMarked", "(LMeteredSheets;I[J)I"⟩
abbrev cL_valueAnew : ByteArray := method_15_code
def yL_valueAnew : MethodName := ⟨RL, "valueAnew", "(LMeteredSheets;I[J)I"⟩
abbrev cL_reading : ByteArray := method_16_code
def yL_reading : MethodName := ⟨RL, "reading", "(LMeteredSheets;I[J)I"⟩
abbrev cL_timesRead : ByteArray := method_17_code
def yL_timesRead : MethodName := ⟨RL, "timesRead", "(LMeteredSheets;II[J)I"⟩
abbrev cL_readOf : ByteArray := method_18_code
def yL_readOf : MethodName := ⟨RL, "readOf", "(LMeteredSheets;I[J)I"⟩
abbrev cL_law : ByteArray := code
def yL_law : MethodName := ⟨RL, "law", "([I)Z"⟩
def wsX0_init : List Cond := .code yX0_init cX0_init 2 none :: ([.methodLink RX0 3 objectInit, .instanceMethod objectInit, .code objectInit ⟨#[0xb1]⟩ 1 none, .arrayClass .int, .fieldLink RX0 9 "MeteredSheets$Ledger" "prices" "[I", .fieldLink RX0 15 "MeteredSheets$Ledger" "budgets" "[I", .fieldLink RX0 18 "MeteredSheets$Ledger" "earnings" "[I", .fieldLink RX0 21 "MeteredSheets$Ledger" "readsOf" "[I", .fieldLink RX0 24 "MeteredSheets$Ledger" "bills" "[I", .fieldLink RX0 27 "MeteredSheets$Ledger" "counts" "[I", .fieldLink RX0 30 "MeteredSheets$Ledger" "kept" "[I", .fieldLink RX0 33 "MeteredSheets$Ledger" "keptCount" "I"] ++ wsX00)
def wsX1_sheetOf : List Cond := .code yX1_sheetOf cX1_sheetOf 1 (some .int) :: ([])
def wsX1_isCell : List Cond := .code yX1_isCell cX1_isCell 1 (some .boolean) :: ([])
def wsX0_costOf : List Cond := .code yX0_costOf cX0_costOf 2 (some .int) :: ([.fieldLink RX0 9 "MeteredSheets$Ledger" "prices" "[I", .static yX1_isCell, .initialized RX1, .code yX1_isCell cX1_isCell 1 (some .boolean), .static yX1_sheetOf, .code yX1_sheetOf cX1_sheetOf 1 (some .int)] ++ wsX00)
def wsX0_enter : List Cond := .code yX0_enter cX0_enter 5 none :: ([.fieldLink RX0 18 "MeteredSheets$Ledger" "earnings" "[I", .fieldLink RX0 9 "MeteredSheets$Ledger" "prices" "[I", .fieldLink RX0 24 "MeteredSheets$Ledger" "bills" "[I", .fieldLink RX0 21 "MeteredSheets$Ledger" "readsOf" "[I", .fieldLink RX0 27 "MeteredSheets$Ledger" "counts" "[I", .fieldLink RX0 33 "MeteredSheets$Ledger" "keptCount" "I", .fieldLink RX0 30 "MeteredSheets$Ledger" "kept" "[I", .static yX1_isCell, .initialized RX1, .code yX1_isCell cX1_isCell 1 (some .boolean), .static yX1_sheetOf, .code yX1_sheetOf cX1_sheetOf 1 (some .int)] ++ wsX00)
def wsX0_paysFor : List Cond := .code yX0_paysFor cX0_paysFor 7 (some .boolean) :: ([.fieldLink RX0 15 "MeteredSheets$Ledger" "budgets" "[I", .static yX1_sheetOf, .initialized RX1, .code yX1_sheetOf cX1_sheetOf 1 (some .int), .methodLink RX0 41 yX0_costOf, .instanceMethod yX0_costOf, .selects RX0 yX0_costOf yX0_costOf, .initialized RX0, .code yX0_costOf cX0_costOf 2 (some .int), .fieldLink RX0 9 "MeteredSheets$Ledger" "prices" "[I", .static yX1_isCell, .code yX1_isCell cX1_isCell 1 (some .boolean), .methodLink RX0 44 yX0_enter, .instanceMethod yX0_enter, .selects RX0 yX0_enter yX0_enter, .code yX0_enter cX0_enter 5 none, .fieldLink RX0 18 "MeteredSheets$Ledger" "earnings" "[I", .fieldLink RX0 24 "MeteredSheets$Ledger" "bills" "[I", .fieldLink RX0 21 "MeteredSheets$Ledger" "readsOf" "[I", .fieldLink RX0 27 "MeteredSheets$Ledger" "counts" "[I", .fieldLink RX0 33 "MeteredSheets$Ledger" "keptCount" "I", .fieldLink RX0 30 "MeteredSheets$Ledger" "kept" "[I"] ++ wsX00)
def wsX1_init_r1 : List Cond := [Cond.methodLink RX1 1 objectInit, Cond.instanceMethod objectInit, Cond.code objectInit ⟨#[0xb1]⟩ 1 none, Cond.arrayClass .int, Cond.fieldLink RX1 9 "MeteredSheets" "kinds" "[I", Cond.fieldLink RX1 13 "MeteredSheets" "ones" "[I", Cond.fieldLink RX1 16 "MeteredSheets" "others" "[I", Cond.fieldLink RX1 19 "MeteredSheets" "numbers" "[I", Cond.fieldLink RX1 22 "MeteredSheets" "values" "[I", Cond.arrayClass .boolean, Cond.fieldLink RX1 25 "MeteredSheets" "marked" "[Z", Cond.fieldLink RX1 29 "MeteredSheets" "order" "[I", Cond.classLink RX1 32 RX0, Cond.instantiable RX0 8, Cond.initialized RX0, Cond.fieldLink RX1 35 "MeteredSheets" "ledger" "LMeteredSheets$Ledger;", Cond.fieldLink RX1 39 "MeteredSheets" "changed" "[Z", Cond.fieldLink RX1 42 "MeteredSheets" "placed" "[Z", Cond.fieldLink RX1 45 "MeteredSheets" "reaching" "[Z", Cond.fieldLink RX1 48 "MeteredSheets" "fresh" "[I", Cond.instanceMethod yX0_init, Cond.code yX0_init cX0_init 2 none, Cond.methodLink RX0 3 objectInit, Cond.fieldLink RX0 9 "MeteredSheets$Ledger" "prices" "[I"]
def wsX1_init_r2 : List Cond := [Cond.fieldLink RX0 15 "MeteredSheets$Ledger" "budgets" "[I", Cond.fieldLink RX0 18 "MeteredSheets$Ledger" "earnings" "[I", Cond.fieldLink RX0 21 "MeteredSheets$Ledger" "readsOf" "[I", Cond.fieldLink RX0 24 "MeteredSheets$Ledger" "bills" "[I", Cond.fieldLink RX0 27 "MeteredSheets$Ledger" "counts" "[I", Cond.fieldLink RX0 30 "MeteredSheets$Ledger" "kept" "[I", Cond.fieldLink RX0 33 "MeteredSheets$Ledger" "keptCount" "I"]
def wsX1_init : List Cond := .code yX1_init cX1_init 2 none :: ((wsX1_init_r1 ++ wsX1_init_r2) ++ wsX10 ++ wsX00)
def wsX1_isUser : List Cond := .code yX1_isUser cX1_isUser 1 (some .boolean) :: ([])
def wsX1_isWithin : List Cond := .code yX1_isWithin cX1_isWithin 2 (some .boolean) :: ([])
def wsX1_isIn : List Cond := .code yX1_isIn cX1_isIn 2 (some .boolean) :: ([])
def wsX1_isReady : List Cond := .code yX1_isReady cX1_isReady 2 (some .boolean) :: ([.fieldLink RX1 42 "MeteredSheets" "placed" "[Z", .methodLink RX1 149 yX1_isIn, .static yX1_isIn, .initialized RX1, .code yX1_isIn cX1_isIn 2 (some .boolean)] ++ wsX10)
def wsX1_lowestFreeCell : List Cond := .code yX1_lowestFreeCell cX1_lowestFreeCell 2 (some .int) :: ([.fieldLink RX1 42 "MeteredSheets" "placed" "[Z", .fieldLink RX1 13 "MeteredSheets" "ones" "[I", .fieldLink RX1 16 "MeteredSheets" "others" "[I", .methodLink RX1 163 yX1_isReady, .instanceMethod yX1_isReady, .selects RX1 yX1_isReady yX1_isReady, .initialized RX1, .code yX1_isReady cX1_isReady 2 (some .boolean), .methodLink RX1 149 yX1_isIn, .static yX1_isIn, .code yX1_isIn cX1_isIn 2 (some .boolean)] ++ wsX10)
def wsX1_putInOrder : List Cond := .code yX1_putInOrder cX1_putInOrder 3 none :: ([.fieldLink RX1 42 "MeteredSheets" "placed" "[Z", .fieldLink RX1 29 "MeteredSheets" "order" "[I", .methodLink RX1 159 yX1_lowestFreeCell, .instanceMethod yX1_lowestFreeCell, .selects RX1 yX1_lowestFreeCell yX1_lowestFreeCell, .initialized RX1, .code yX1_lowestFreeCell cX1_lowestFreeCell 2 (some .int), .fieldLink RX1 13 "MeteredSheets" "ones" "[I", .fieldLink RX1 16 "MeteredSheets" "others" "[I", .methodLink RX1 163 yX1_isReady, .instanceMethod yX1_isReady, .selects RX1 yX1_isReady yX1_isReady, .code yX1_isReady cX1_isReady 2 (some .boolean), .methodLink RX1 149 yX1_isIn, .static yX1_isIn, .code yX1_isIn cX1_isIn 2 (some .boolean), .methodLink RX1 55 yX1_isCell, .static yX1_isCell, .code yX1_isCell cX1_isCell 1 (some .boolean)] ++ wsX10)
def wsX1_forgetChanges : List Cond := .code yX1_forgetChanges cX1_forgetChanges 2 none :: ([.fieldLink RX1 39 "MeteredSheets" "changed" "[Z"] ++ wsX10)
def wsX1_meteredRead : List Cond := .code yX1_meteredRead cX1_meteredRead 2 (some .int) :: ([.methodLink RX1 55 yX1_isCell, .static yX1_isCell, .initialized RX1, .code yX1_isCell cX1_isCell 1 (some .boolean), .methodLink RX1 174 yX1_sheetOf, .static yX1_sheetOf, .code yX1_sheetOf cX1_sheetOf 1 (some .int)])
def wsX1_valueIn : List Cond := .code yX1_valueIn cX1_valueIn 2 (some .int) :: ([])
def wsX1_held : List Cond := .code yX1_held cX1_held 1 (some .int) :: ([.constant RX1 190 (-1000000), .constant RX1 58 (1000000), .methodLink RX1 191 Lib.Math.min.name, .static Lib.Math.min.name, .initialized "java/lang/Math", .code Lib.Math.min.name Lib.Math.min.code 2 (some .int), .methodLink RX1 185 Lib.Math.max.name, .static Lib.Math.max.name, .code Lib.Math.max.name Lib.Math.max.code 2 (some .int)])
def wsX1_resultOf : List Cond := .code yX1_resultOf cX1_resultOf 5 (some .int) :: ([.fieldLink RX1 13 "MeteredSheets" "ones" "[I", .fieldLink RX1 16 "MeteredSheets" "others" "[I", .fieldLink RX1 9 "MeteredSheets" "kinds" "[I", .fieldLink RX1 19 "MeteredSheets" "numbers" "[I", .methodLink RX1 185 Lib.Math.max.name, .static Lib.Math.max.name, .initialized "java/lang/Math", .code Lib.Math.max.name Lib.Math.max.code 2 (some .int), .methodLink RX1 178 yX1_valueIn, .static yX1_valueIn, .initialized RX1, .code yX1_valueIn cX1_valueIn 2 (some .int), .methodLink RX1 182 yX1_held, .static yX1_held, .code yX1_held cX1_held 1 (some .int), .constant RX1 190 (-1000000), .constant RX1 58 (1000000), .methodLink RX1 191 Lib.Math.min.name, .static Lib.Math.min.name, .code Lib.Math.min.name Lib.Math.min.code 2 (some .int)] ++ wsX10)
def wsX1_compute_r1 : List Cond := [Cond.fieldLink RX1 13 "MeteredSheets" "ones" "[I", Cond.fieldLink RX1 16 "MeteredSheets" "others" "[I", Cond.fieldLink RX1 25 "MeteredSheets" "marked" "[Z", Cond.fieldLink RX1 35 "MeteredSheets" "ledger" "LMeteredSheets$Ledger;", Cond.fieldLink RX1 22 "MeteredSheets" "values" "[I", Cond.fieldLink RX1 39 "MeteredSheets" "changed" "[Z", Cond.methodLink RX1 166 yX1_meteredRead, Cond.static yX1_meteredRead, Cond.initialized RX1, Cond.code yX1_meteredRead cX1_meteredRead 2 (some .int), Cond.methodLink RX1 55 yX1_isCell, Cond.static yX1_isCell, Cond.code yX1_isCell cX1_isCell 1 (some .boolean), Cond.methodLink RX1 174 yX1_sheetOf, Cond.static yX1_sheetOf, Cond.code yX1_sheetOf cX1_sheetOf 1 (some .int), Cond.instanceMethod yX0_paysFor, Cond.initialized RX0, Cond.selects RX0 yX0_paysFor yX0_paysFor, Cond.code yX0_paysFor cX0_paysFor 7 (some .boolean), Cond.fieldLink RX0 15 "MeteredSheets$Ledger" "budgets" "[I", Cond.methodLink RX0 41 yX0_costOf, Cond.instanceMethod yX0_costOf, Cond.selects RX0 yX0_costOf yX0_costOf]
def wsX1_compute_r2 : List Cond := [Cond.code yX0_costOf cX0_costOf 2 (some .int), Cond.fieldLink RX0 9 "MeteredSheets$Ledger" "prices" "[I", Cond.methodLink RX0 44 yX0_enter, Cond.instanceMethod yX0_enter, Cond.selects RX0 yX0_enter yX0_enter, Cond.code yX0_enter cX0_enter 5 none, Cond.fieldLink RX0 18 "MeteredSheets$Ledger" "earnings" "[I", Cond.fieldLink RX0 24 "MeteredSheets$Ledger" "bills" "[I", Cond.fieldLink RX0 21 "MeteredSheets$Ledger" "readsOf" "[I", Cond.fieldLink RX0 27 "MeteredSheets$Ledger" "counts" "[I", Cond.fieldLink RX0 33 "MeteredSheets$Ledger" "keptCount" "I", Cond.fieldLink RX0 30 "MeteredSheets$Ledger" "kept" "[I", Cond.methodLink RX1 121 yX1_resultOf, Cond.instanceMethod yX1_resultOf, Cond.selects RX1 yX1_resultOf yX1_resultOf, Cond.code yX1_resultOf cX1_resultOf 5 (some .int), Cond.fieldLink RX1 9 "MeteredSheets" "kinds" "[I", Cond.fieldLink RX1 19 "MeteredSheets" "numbers" "[I", Cond.methodLink RX1 185 Lib.Math.max.name, Cond.static Lib.Math.max.name, Cond.initialized "java/lang/Math", Cond.code Lib.Math.max.name Lib.Math.max.code 2 (some .int), Cond.methodLink RX1 178 yX1_valueIn, Cond.static yX1_valueIn]
def wsX1_compute_r3 : List Cond := [Cond.code yX1_valueIn cX1_valueIn 2 (some .int), Cond.methodLink RX1 182 yX1_held, Cond.static yX1_held, Cond.code yX1_held cX1_held 1 (some .int), Cond.constant RX1 190 (-1000000), Cond.constant RX1 58 (1000000), Cond.methodLink RX1 191 Lib.Math.min.name, Cond.static Lib.Math.min.name, Cond.code Lib.Math.min.name Lib.Math.min.code 2 (some .int)]
def wsX1_compute : List Cond := .code yX1_compute cX1_compute 6 none :: ((wsX1_compute_r1 ++ (wsX1_compute_r2 ++ wsX1_compute_r3)) ++ wsX10 ++ wsX00)
def wsX1_readsOneOf : List Cond := .code yX1_readsOneOf cX1_readsOneOf 3 (some .boolean) :: ([.fieldLink RX1 13 "MeteredSheets" "ones" "[I", .fieldLink RX1 16 "MeteredSheets" "others" "[I", .methodLink RX1 149 yX1_isIn, .static yX1_isIn, .initialized RX1, .code yX1_isIn cX1_isIn 2 (some .boolean)] ++ wsX10)
def wsX1_goThrough_r1 : List Cond := [Cond.fieldLink RX1 29 "MeteredSheets" "order" "[I", Cond.fieldLink RX1 39 "MeteredSheets" "changed" "[Z", Cond.fieldLink RX1 25 "MeteredSheets" "marked" "[Z", Cond.methodLink RX1 55 yX1_isCell, Cond.static yX1_isCell, Cond.initialized RX1, Cond.code yX1_isCell cX1_isCell 1 (some .boolean), Cond.methodLink RX1 145 yX1_readsOneOf, Cond.instanceMethod yX1_readsOneOf, Cond.selects RX1 yX1_readsOneOf yX1_readsOneOf, Cond.code yX1_readsOneOf cX1_readsOneOf 3 (some .boolean), Cond.fieldLink RX1 13 "MeteredSheets" "ones" "[I", Cond.fieldLink RX1 16 "MeteredSheets" "others" "[I", Cond.methodLink RX1 149 yX1_isIn, Cond.static yX1_isIn, Cond.code yX1_isIn cX1_isIn 2 (some .boolean), Cond.methodLink RX1 155 yX1_compute, Cond.instanceMethod yX1_compute, Cond.selects RX1 yX1_compute yX1_compute, Cond.code yX1_compute cX1_compute 6 none, Cond.fieldLink RX1 35 "MeteredSheets" "ledger" "LMeteredSheets$Ledger;", Cond.fieldLink RX1 22 "MeteredSheets" "values" "[I", Cond.methodLink RX1 166 yX1_meteredRead, Cond.static yX1_meteredRead]
def wsX1_goThrough_r2 : List Cond := [Cond.code yX1_meteredRead cX1_meteredRead 2 (some .int), Cond.methodLink RX1 174 yX1_sheetOf, Cond.static yX1_sheetOf, Cond.code yX1_sheetOf cX1_sheetOf 1 (some .int), Cond.instanceMethod yX0_paysFor, Cond.initialized RX0, Cond.selects RX0 yX0_paysFor yX0_paysFor, Cond.code yX0_paysFor cX0_paysFor 7 (some .boolean), Cond.fieldLink RX0 15 "MeteredSheets$Ledger" "budgets" "[I", Cond.methodLink RX0 41 yX0_costOf, Cond.instanceMethod yX0_costOf, Cond.selects RX0 yX0_costOf yX0_costOf, Cond.code yX0_costOf cX0_costOf 2 (some .int), Cond.fieldLink RX0 9 "MeteredSheets$Ledger" "prices" "[I", Cond.methodLink RX0 44 yX0_enter, Cond.instanceMethod yX0_enter, Cond.selects RX0 yX0_enter yX0_enter, Cond.code yX0_enter cX0_enter 5 none, Cond.fieldLink RX0 18 "MeteredSheets$Ledger" "earnings" "[I", Cond.fieldLink RX0 24 "MeteredSheets$Ledger" "bills" "[I", Cond.fieldLink RX0 21 "MeteredSheets$Ledger" "readsOf" "[I", Cond.fieldLink RX0 27 "MeteredSheets$Ledger" "counts" "[I", Cond.fieldLink RX0 33 "MeteredSheets$Ledger" "keptCount" "I", Cond.fieldLink RX0 30 "MeteredSheets$Ledger" "kept" "[I"]
def wsX1_goThrough_r3 : List Cond := [Cond.methodLink RX1 121 yX1_resultOf, Cond.instanceMethod yX1_resultOf, Cond.selects RX1 yX1_resultOf yX1_resultOf, Cond.code yX1_resultOf cX1_resultOf 5 (some .int), Cond.fieldLink RX1 9 "MeteredSheets" "kinds" "[I", Cond.fieldLink RX1 19 "MeteredSheets" "numbers" "[I", Cond.methodLink RX1 185 Lib.Math.max.name, Cond.static Lib.Math.max.name, Cond.initialized "java/lang/Math", Cond.code Lib.Math.max.name Lib.Math.max.code 2 (some .int), Cond.methodLink RX1 178 yX1_valueIn, Cond.static yX1_valueIn, Cond.code yX1_valueIn cX1_valueIn 2 (some .int), Cond.methodLink RX1 182 yX1_held, Cond.static yX1_held, Cond.code yX1_held cX1_held 1 (some .int), Cond.constant RX1 190 (-1000000), Cond.constant RX1 58 (1000000), Cond.methodLink RX1 191 Lib.Math.min.name, Cond.static Lib.Math.min.name, Cond.code Lib.Math.min.name Lib.Math.min.code 2 (some .int)]
def wsX1_goThrough : List Cond := .code yX1_goThrough cX1_goThrough 6 (some .int) :: ((wsX1_goThrough_r1 ++ (wsX1_goThrough_r2 ++ wsX1_goThrough_r3)) ++ wsX10 ++ wsX00)
def wsX1_giveFormula_r1 : List Cond := [Cond.fieldLink RX1 9 "MeteredSheets" "kinds" "[I", Cond.fieldLink RX1 13 "MeteredSheets" "ones" "[I", Cond.fieldLink RX1 16 "MeteredSheets" "others" "[I", Cond.fieldLink RX1 19 "MeteredSheets" "numbers" "[I", Cond.methodLink RX1 152 yX1_putInOrder, Cond.instanceMethod yX1_putInOrder, Cond.selects RX1 yX1_putInOrder yX1_putInOrder, Cond.initialized RX1, Cond.code yX1_putInOrder cX1_putInOrder 3 none, Cond.fieldLink RX1 42 "MeteredSheets" "placed" "[Z", Cond.fieldLink RX1 29 "MeteredSheets" "order" "[I", Cond.methodLink RX1 159 yX1_lowestFreeCell, Cond.instanceMethod yX1_lowestFreeCell, Cond.selects RX1 yX1_lowestFreeCell yX1_lowestFreeCell, Cond.code yX1_lowestFreeCell cX1_lowestFreeCell 2 (some .int), Cond.methodLink RX1 163 yX1_isReady, Cond.instanceMethod yX1_isReady, Cond.selects RX1 yX1_isReady yX1_isReady, Cond.code yX1_isReady cX1_isReady 2 (some .boolean), Cond.methodLink RX1 149 yX1_isIn, Cond.static yX1_isIn, Cond.code yX1_isIn cX1_isIn 2 (some .boolean), Cond.methodLink RX1 55 yX1_isCell, Cond.static yX1_isCell]
def wsX1_giveFormula_r2 : List Cond := [Cond.code yX1_isCell cX1_isCell 1 (some .boolean), Cond.methodLink RX1 91 yX1_forgetChanges, Cond.instanceMethod yX1_forgetChanges, Cond.selects RX1 yX1_forgetChanges yX1_forgetChanges, Cond.code yX1_forgetChanges cX1_forgetChanges 2 none, Cond.fieldLink RX1 39 "MeteredSheets" "changed" "[Z", Cond.methodLink RX1 155 yX1_compute, Cond.instanceMethod yX1_compute, Cond.selects RX1 yX1_compute yX1_compute, Cond.code yX1_compute cX1_compute 6 none, Cond.fieldLink RX1 25 "MeteredSheets" "marked" "[Z", Cond.fieldLink RX1 35 "MeteredSheets" "ledger" "LMeteredSheets$Ledger;", Cond.fieldLink RX1 22 "MeteredSheets" "values" "[I", Cond.methodLink RX1 166 yX1_meteredRead, Cond.static yX1_meteredRead, Cond.code yX1_meteredRead cX1_meteredRead 2 (some .int), Cond.methodLink RX1 174 yX1_sheetOf, Cond.static yX1_sheetOf, Cond.code yX1_sheetOf cX1_sheetOf 1 (some .int), Cond.instanceMethod yX0_paysFor, Cond.initialized RX0, Cond.selects RX0 yX0_paysFor yX0_paysFor, Cond.code yX0_paysFor cX0_paysFor 7 (some .boolean), Cond.fieldLink RX0 15 "MeteredSheets$Ledger" "budgets" "[I"]
def wsX1_giveFormula_r3 : List Cond := [Cond.methodLink RX0 41 yX0_costOf, Cond.instanceMethod yX0_costOf, Cond.selects RX0 yX0_costOf yX0_costOf, Cond.code yX0_costOf cX0_costOf 2 (some .int), Cond.fieldLink RX0 9 "MeteredSheets$Ledger" "prices" "[I", Cond.methodLink RX0 44 yX0_enter, Cond.instanceMethod yX0_enter, Cond.selects RX0 yX0_enter yX0_enter, Cond.code yX0_enter cX0_enter 5 none, Cond.fieldLink RX0 18 "MeteredSheets$Ledger" "earnings" "[I", Cond.fieldLink RX0 24 "MeteredSheets$Ledger" "bills" "[I", Cond.fieldLink RX0 21 "MeteredSheets$Ledger" "readsOf" "[I", Cond.fieldLink RX0 27 "MeteredSheets$Ledger" "counts" "[I", Cond.fieldLink RX0 33 "MeteredSheets$Ledger" "keptCount" "I", Cond.fieldLink RX0 30 "MeteredSheets$Ledger" "kept" "[I", Cond.methodLink RX1 121 yX1_resultOf, Cond.instanceMethod yX1_resultOf, Cond.selects RX1 yX1_resultOf yX1_resultOf, Cond.code yX1_resultOf cX1_resultOf 5 (some .int), Cond.methodLink RX1 185 Lib.Math.max.name, Cond.static Lib.Math.max.name, Cond.initialized "java/lang/Math", Cond.code Lib.Math.max.name Lib.Math.max.code 2 (some .int), Cond.methodLink RX1 178 yX1_valueIn]
def wsX1_giveFormula_r4 : List Cond := [Cond.static yX1_valueIn, Cond.code yX1_valueIn cX1_valueIn 2 (some .int), Cond.methodLink RX1 182 yX1_held, Cond.static yX1_held, Cond.code yX1_held cX1_held 1 (some .int), Cond.constant RX1 190 (-1000000), Cond.constant RX1 58 (1000000), Cond.methodLink RX1 191 Lib.Math.min.name, Cond.static Lib.Math.min.name, Cond.code Lib.Math.min.name Lib.Math.min.code 2 (some .int), Cond.methodLink RX1 94 yX1_goThrough, Cond.instanceMethod yX1_goThrough, Cond.selects RX1 yX1_goThrough yX1_goThrough, Cond.code yX1_goThrough cX1_goThrough 6 (some .int), Cond.methodLink RX1 145 yX1_readsOneOf, Cond.instanceMethod yX1_readsOneOf, Cond.selects RX1 yX1_readsOneOf yX1_readsOneOf, Cond.code yX1_readsOneOf cX1_readsOneOf 3 (some .boolean)]
def wsX1_giveFormula : List Cond := .code yX1_giveFormula cX1_giveFormula 7 (some .int) :: ((wsX1_giveFormula_r1 ++ (wsX1_giveFormula_r2 ++ (wsX1_giveFormula_r3 ++ wsX1_giveFormula_r4))) ++ wsX10 ++ wsX00)
def wsX1_setNumber_r1 : List Cond := [Cond.classLink RX1 63 "java/lang/IllegalArgumentException", Cond.initialized "java/lang/IllegalArgumentException", Cond.constant RX1 58 (1000000), Cond.methodLink RX1 51 yX1_isUser, Cond.static yX1_isUser, Cond.initialized RX1, Cond.code yX1_isUser cX1_isUser 1 (some .boolean), Cond.methodLink RX1 55 yX1_isCell, Cond.static yX1_isCell, Cond.code yX1_isCell cX1_isCell 1 (some .boolean), Cond.methodLink RX1 59 yX1_isWithin, Cond.static yX1_isWithin, Cond.code yX1_isWithin cX1_isWithin 2 (some .boolean), Cond.methodLink RX1 70 yX1_giveFormula, Cond.instanceMethod yX1_giveFormula, Cond.selects RX1 yX1_giveFormula yX1_giveFormula, Cond.code yX1_giveFormula cX1_giveFormula 7 (some .int), Cond.fieldLink RX1 9 "MeteredSheets" "kinds" "[I", Cond.fieldLink RX1 13 "MeteredSheets" "ones" "[I", Cond.fieldLink RX1 16 "MeteredSheets" "others" "[I", Cond.fieldLink RX1 19 "MeteredSheets" "numbers" "[I", Cond.methodLink RX1 152 yX1_putInOrder, Cond.instanceMethod yX1_putInOrder, Cond.selects RX1 yX1_putInOrder yX1_putInOrder]
def wsX1_setNumber_r2 : List Cond := [Cond.code yX1_putInOrder cX1_putInOrder 3 none, Cond.fieldLink RX1 42 "MeteredSheets" "placed" "[Z", Cond.fieldLink RX1 29 "MeteredSheets" "order" "[I", Cond.methodLink RX1 159 yX1_lowestFreeCell, Cond.instanceMethod yX1_lowestFreeCell, Cond.selects RX1 yX1_lowestFreeCell yX1_lowestFreeCell, Cond.code yX1_lowestFreeCell cX1_lowestFreeCell 2 (some .int), Cond.methodLink RX1 163 yX1_isReady, Cond.instanceMethod yX1_isReady, Cond.selects RX1 yX1_isReady yX1_isReady, Cond.code yX1_isReady cX1_isReady 2 (some .boolean), Cond.methodLink RX1 149 yX1_isIn, Cond.static yX1_isIn, Cond.code yX1_isIn cX1_isIn 2 (some .boolean), Cond.methodLink RX1 91 yX1_forgetChanges, Cond.instanceMethod yX1_forgetChanges, Cond.selects RX1 yX1_forgetChanges yX1_forgetChanges, Cond.code yX1_forgetChanges cX1_forgetChanges 2 none, Cond.fieldLink RX1 39 "MeteredSheets" "changed" "[Z", Cond.methodLink RX1 155 yX1_compute, Cond.instanceMethod yX1_compute, Cond.selects RX1 yX1_compute yX1_compute, Cond.code yX1_compute cX1_compute 6 none, Cond.fieldLink RX1 25 "MeteredSheets" "marked" "[Z"]
def wsX1_setNumber_r3 : List Cond := [Cond.fieldLink RX1 35 "MeteredSheets" "ledger" "LMeteredSheets$Ledger;", Cond.fieldLink RX1 22 "MeteredSheets" "values" "[I", Cond.methodLink RX1 166 yX1_meteredRead, Cond.static yX1_meteredRead, Cond.code yX1_meteredRead cX1_meteredRead 2 (some .int), Cond.methodLink RX1 174 yX1_sheetOf, Cond.static yX1_sheetOf, Cond.code yX1_sheetOf cX1_sheetOf 1 (some .int), Cond.instanceMethod yX0_paysFor, Cond.initialized RX0, Cond.selects RX0 yX0_paysFor yX0_paysFor, Cond.code yX0_paysFor cX0_paysFor 7 (some .boolean), Cond.fieldLink RX0 15 "MeteredSheets$Ledger" "budgets" "[I", Cond.methodLink RX0 41 yX0_costOf, Cond.instanceMethod yX0_costOf, Cond.selects RX0 yX0_costOf yX0_costOf, Cond.code yX0_costOf cX0_costOf 2 (some .int), Cond.fieldLink RX0 9 "MeteredSheets$Ledger" "prices" "[I", Cond.methodLink RX0 44 yX0_enter, Cond.instanceMethod yX0_enter, Cond.selects RX0 yX0_enter yX0_enter, Cond.code yX0_enter cX0_enter 5 none, Cond.fieldLink RX0 18 "MeteredSheets$Ledger" "earnings" "[I", Cond.fieldLink RX0 24 "MeteredSheets$Ledger" "bills" "[I"]
def wsX1_setNumber_r4 : List Cond := [Cond.fieldLink RX0 21 "MeteredSheets$Ledger" "readsOf" "[I", Cond.fieldLink RX0 27 "MeteredSheets$Ledger" "counts" "[I", Cond.fieldLink RX0 33 "MeteredSheets$Ledger" "keptCount" "I", Cond.fieldLink RX0 30 "MeteredSheets$Ledger" "kept" "[I", Cond.methodLink RX1 121 yX1_resultOf, Cond.instanceMethod yX1_resultOf, Cond.selects RX1 yX1_resultOf yX1_resultOf, Cond.code yX1_resultOf cX1_resultOf 5 (some .int), Cond.methodLink RX1 185 Lib.Math.max.name, Cond.static Lib.Math.max.name, Cond.initialized "java/lang/Math", Cond.code Lib.Math.max.name Lib.Math.max.code 2 (some .int), Cond.methodLink RX1 178 yX1_valueIn, Cond.static yX1_valueIn, Cond.code yX1_valueIn cX1_valueIn 2 (some .int), Cond.methodLink RX1 182 yX1_held, Cond.static yX1_held, Cond.code yX1_held cX1_held 1 (some .int), Cond.constant RX1 190 (-1000000), Cond.methodLink RX1 191 Lib.Math.min.name, Cond.static Lib.Math.min.name, Cond.code Lib.Math.min.name Lib.Math.min.code 2 (some .int), Cond.methodLink RX1 94 yX1_goThrough, Cond.instanceMethod yX1_goThrough]
def wsX1_setNumber_r5 : List Cond := [Cond.selects RX1 yX1_goThrough yX1_goThrough, Cond.code yX1_goThrough cX1_goThrough 6 (some .int), Cond.methodLink RX1 145 yX1_readsOneOf, Cond.instanceMethod yX1_readsOneOf, Cond.selects RX1 yX1_readsOneOf yX1_readsOneOf, Cond.code yX1_readsOneOf cX1_readsOneOf 3 (some .boolean)]
def wsX1_setNumber : List Cond := .code yX1_setNumber cX1_setNumber 4 (some .int) :: ((wsX1_setNumber_r1 ++ (wsX1_setNumber_r2 ++ (wsX1_setNumber_r3 ++ (wsX1_setNumber_r4 ++ wsX1_setNumber_r5)))) ++ wsX10 ++ wsX00 ++ (vx_atS RX1 67 "java/lang/IllegalArgumentException" ["java/lang/RuntimeException", "java/lang/Exception"]).filter goodWord)
def wsX1_wouldReadItself : List Cond := .code yX1_wouldReadItself cX1_wouldReadItself 6 (some .boolean) :: ([.fieldLink RX1 45 "MeteredSheets" "reaching" "[Z", .fieldLink RX1 29 "MeteredSheets" "order" "[I", .methodLink RX1 55 yX1_isCell, .static yX1_isCell, .initialized RX1, .code yX1_isCell cX1_isCell 1 (some .boolean), .methodLink RX1 145 yX1_readsOneOf, .instanceMethod yX1_readsOneOf, .selects RX1 yX1_readsOneOf yX1_readsOneOf, .code yX1_readsOneOf cX1_readsOneOf 3 (some .boolean), .fieldLink RX1 13 "MeteredSheets" "ones" "[I", .fieldLink RX1 16 "MeteredSheets" "others" "[I", .methodLink RX1 149 yX1_isIn, .static yX1_isIn, .code yX1_isIn cX1_isIn 2 (some .boolean)] ++ wsX10)
def wsX1_setSum_r1 : List Cond := [Cond.classLink RX1 63 "java/lang/IllegalArgumentException", Cond.initialized "java/lang/IllegalArgumentException", Cond.classLink RX1 80 "java/lang/IllegalStateException", Cond.initialized "java/lang/IllegalStateException", Cond.methodLink RX1 51 yX1_isUser, Cond.static yX1_isUser, Cond.initialized RX1, Cond.code yX1_isUser cX1_isUser 1 (some .boolean), Cond.methodLink RX1 55 yX1_isCell, Cond.static yX1_isCell, Cond.code yX1_isCell cX1_isCell 1 (some .boolean), Cond.methodLink RX1 59 yX1_isWithin, Cond.static yX1_isWithin, Cond.code yX1_isWithin cX1_isWithin 2 (some .boolean), Cond.methodLink RX1 76 yX1_wouldReadItself, Cond.instanceMethod yX1_wouldReadItself, Cond.selects RX1 yX1_wouldReadItself yX1_wouldReadItself, Cond.code yX1_wouldReadItself cX1_wouldReadItself 6 (some .boolean), Cond.fieldLink RX1 45 "MeteredSheets" "reaching" "[Z", Cond.fieldLink RX1 29 "MeteredSheets" "order" "[I", Cond.methodLink RX1 145 yX1_readsOneOf, Cond.instanceMethod yX1_readsOneOf, Cond.selects RX1 yX1_readsOneOf yX1_readsOneOf, Cond.code yX1_readsOneOf cX1_readsOneOf 3 (some .boolean)]
def wsX1_setSum_r2 : List Cond := [Cond.fieldLink RX1 13 "MeteredSheets" "ones" "[I", Cond.fieldLink RX1 16 "MeteredSheets" "others" "[I", Cond.methodLink RX1 149 yX1_isIn, Cond.static yX1_isIn, Cond.code yX1_isIn cX1_isIn 2 (some .boolean), Cond.methodLink RX1 70 yX1_giveFormula, Cond.instanceMethod yX1_giveFormula, Cond.selects RX1 yX1_giveFormula yX1_giveFormula, Cond.code yX1_giveFormula cX1_giveFormula 7 (some .int), Cond.fieldLink RX1 9 "MeteredSheets" "kinds" "[I", Cond.fieldLink RX1 19 "MeteredSheets" "numbers" "[I", Cond.methodLink RX1 152 yX1_putInOrder, Cond.instanceMethod yX1_putInOrder, Cond.selects RX1 yX1_putInOrder yX1_putInOrder, Cond.code yX1_putInOrder cX1_putInOrder 3 none, Cond.fieldLink RX1 42 "MeteredSheets" "placed" "[Z", Cond.methodLink RX1 159 yX1_lowestFreeCell, Cond.instanceMethod yX1_lowestFreeCell, Cond.selects RX1 yX1_lowestFreeCell yX1_lowestFreeCell, Cond.code yX1_lowestFreeCell cX1_lowestFreeCell 2 (some .int), Cond.methodLink RX1 163 yX1_isReady, Cond.instanceMethod yX1_isReady, Cond.selects RX1 yX1_isReady yX1_isReady, Cond.code yX1_isReady cX1_isReady 2 (some .boolean)]
def wsX1_setSum_r3 : List Cond := [Cond.methodLink RX1 91 yX1_forgetChanges, Cond.instanceMethod yX1_forgetChanges, Cond.selects RX1 yX1_forgetChanges yX1_forgetChanges, Cond.code yX1_forgetChanges cX1_forgetChanges 2 none, Cond.fieldLink RX1 39 "MeteredSheets" "changed" "[Z", Cond.methodLink RX1 155 yX1_compute, Cond.instanceMethod yX1_compute, Cond.selects RX1 yX1_compute yX1_compute, Cond.code yX1_compute cX1_compute 6 none, Cond.fieldLink RX1 25 "MeteredSheets" "marked" "[Z", Cond.fieldLink RX1 35 "MeteredSheets" "ledger" "LMeteredSheets$Ledger;", Cond.fieldLink RX1 22 "MeteredSheets" "values" "[I", Cond.methodLink RX1 166 yX1_meteredRead, Cond.static yX1_meteredRead, Cond.code yX1_meteredRead cX1_meteredRead 2 (some .int), Cond.methodLink RX1 174 yX1_sheetOf, Cond.static yX1_sheetOf, Cond.code yX1_sheetOf cX1_sheetOf 1 (some .int), Cond.instanceMethod yX0_paysFor, Cond.initialized RX0, Cond.selects RX0 yX0_paysFor yX0_paysFor, Cond.code yX0_paysFor cX0_paysFor 7 (some .boolean), Cond.fieldLink RX0 15 "MeteredSheets$Ledger" "budgets" "[I", Cond.methodLink RX0 41 yX0_costOf]
def wsX1_setSum_r4 : List Cond := [Cond.instanceMethod yX0_costOf, Cond.selects RX0 yX0_costOf yX0_costOf, Cond.code yX0_costOf cX0_costOf 2 (some .int), Cond.fieldLink RX0 9 "MeteredSheets$Ledger" "prices" "[I", Cond.methodLink RX0 44 yX0_enter, Cond.instanceMethod yX0_enter, Cond.selects RX0 yX0_enter yX0_enter, Cond.code yX0_enter cX0_enter 5 none, Cond.fieldLink RX0 18 "MeteredSheets$Ledger" "earnings" "[I", Cond.fieldLink RX0 24 "MeteredSheets$Ledger" "bills" "[I", Cond.fieldLink RX0 21 "MeteredSheets$Ledger" "readsOf" "[I", Cond.fieldLink RX0 27 "MeteredSheets$Ledger" "counts" "[I", Cond.fieldLink RX0 33 "MeteredSheets$Ledger" "keptCount" "I", Cond.fieldLink RX0 30 "MeteredSheets$Ledger" "kept" "[I", Cond.methodLink RX1 121 yX1_resultOf, Cond.instanceMethod yX1_resultOf, Cond.selects RX1 yX1_resultOf yX1_resultOf, Cond.code yX1_resultOf cX1_resultOf 5 (some .int), Cond.methodLink RX1 185 Lib.Math.max.name, Cond.static Lib.Math.max.name, Cond.initialized "java/lang/Math", Cond.code Lib.Math.max.name Lib.Math.max.code 2 (some .int), Cond.methodLink RX1 178 yX1_valueIn, Cond.static yX1_valueIn]
def wsX1_setSum_r5 : List Cond := [Cond.code yX1_valueIn cX1_valueIn 2 (some .int), Cond.methodLink RX1 182 yX1_held, Cond.static yX1_held, Cond.code yX1_held cX1_held 1 (some .int), Cond.constant RX1 190 (-1000000), Cond.constant RX1 58 (1000000), Cond.methodLink RX1 191 Lib.Math.min.name, Cond.static Lib.Math.min.name, Cond.code Lib.Math.min.name Lib.Math.min.code 2 (some .int), Cond.methodLink RX1 94 yX1_goThrough, Cond.instanceMethod yX1_goThrough, Cond.selects RX1 yX1_goThrough yX1_goThrough, Cond.code yX1_goThrough cX1_goThrough 6 (some .int)]
def wsX1_setSum : List Cond := .code yX1_setSum cX1_setSum 6 (some .int) :: ((wsX1_setSum_r1 ++ (wsX1_setSum_r2 ++ (wsX1_setSum_r3 ++ (wsX1_setSum_r4 ++ wsX1_setSum_r5)))) ++ wsX10 ++ wsX00 ++ (vx_atS RX1 67 "java/lang/IllegalArgumentException" ["java/lang/RuntimeException", "java/lang/Exception"]).filter goodWord ++ (vx_atS RX1 84 "java/lang/IllegalStateException" ["java/lang/RuntimeException", "java/lang/Exception"]).filter goodWord)
def wsX1_setGreater_r1 : List Cond := [Cond.classLink RX1 63 "java/lang/IllegalArgumentException", Cond.initialized "java/lang/IllegalArgumentException", Cond.classLink RX1 80 "java/lang/IllegalStateException", Cond.initialized "java/lang/IllegalStateException", Cond.methodLink RX1 51 yX1_isUser, Cond.static yX1_isUser, Cond.initialized RX1, Cond.code yX1_isUser cX1_isUser 1 (some .boolean), Cond.methodLink RX1 55 yX1_isCell, Cond.static yX1_isCell, Cond.code yX1_isCell cX1_isCell 1 (some .boolean), Cond.methodLink RX1 76 yX1_wouldReadItself, Cond.instanceMethod yX1_wouldReadItself, Cond.selects RX1 yX1_wouldReadItself yX1_wouldReadItself, Cond.code yX1_wouldReadItself cX1_wouldReadItself 6 (some .boolean), Cond.fieldLink RX1 45 "MeteredSheets" "reaching" "[Z", Cond.fieldLink RX1 29 "MeteredSheets" "order" "[I", Cond.methodLink RX1 145 yX1_readsOneOf, Cond.instanceMethod yX1_readsOneOf, Cond.selects RX1 yX1_readsOneOf yX1_readsOneOf, Cond.code yX1_readsOneOf cX1_readsOneOf 3 (some .boolean), Cond.fieldLink RX1 13 "MeteredSheets" "ones" "[I", Cond.fieldLink RX1 16 "MeteredSheets" "others" "[I", Cond.methodLink RX1 149 yX1_isIn]
def wsX1_setGreater_r2 : List Cond := [Cond.static yX1_isIn, Cond.code yX1_isIn cX1_isIn 2 (some .boolean), Cond.methodLink RX1 70 yX1_giveFormula, Cond.instanceMethod yX1_giveFormula, Cond.selects RX1 yX1_giveFormula yX1_giveFormula, Cond.code yX1_giveFormula cX1_giveFormula 7 (some .int), Cond.fieldLink RX1 9 "MeteredSheets" "kinds" "[I", Cond.fieldLink RX1 19 "MeteredSheets" "numbers" "[I", Cond.methodLink RX1 152 yX1_putInOrder, Cond.instanceMethod yX1_putInOrder, Cond.selects RX1 yX1_putInOrder yX1_putInOrder, Cond.code yX1_putInOrder cX1_putInOrder 3 none, Cond.fieldLink RX1 42 "MeteredSheets" "placed" "[Z", Cond.methodLink RX1 159 yX1_lowestFreeCell, Cond.instanceMethod yX1_lowestFreeCell, Cond.selects RX1 yX1_lowestFreeCell yX1_lowestFreeCell, Cond.code yX1_lowestFreeCell cX1_lowestFreeCell 2 (some .int), Cond.methodLink RX1 163 yX1_isReady, Cond.instanceMethod yX1_isReady, Cond.selects RX1 yX1_isReady yX1_isReady, Cond.code yX1_isReady cX1_isReady 2 (some .boolean), Cond.methodLink RX1 91 yX1_forgetChanges, Cond.instanceMethod yX1_forgetChanges, Cond.selects RX1 yX1_forgetChanges yX1_forgetChanges]
def wsX1_setGreater_r3 : List Cond := [Cond.code yX1_forgetChanges cX1_forgetChanges 2 none, Cond.fieldLink RX1 39 "MeteredSheets" "changed" "[Z", Cond.methodLink RX1 155 yX1_compute, Cond.instanceMethod yX1_compute, Cond.selects RX1 yX1_compute yX1_compute, Cond.code yX1_compute cX1_compute 6 none, Cond.fieldLink RX1 25 "MeteredSheets" "marked" "[Z", Cond.fieldLink RX1 35 "MeteredSheets" "ledger" "LMeteredSheets$Ledger;", Cond.fieldLink RX1 22 "MeteredSheets" "values" "[I", Cond.methodLink RX1 166 yX1_meteredRead, Cond.static yX1_meteredRead, Cond.code yX1_meteredRead cX1_meteredRead 2 (some .int), Cond.methodLink RX1 174 yX1_sheetOf, Cond.static yX1_sheetOf, Cond.code yX1_sheetOf cX1_sheetOf 1 (some .int), Cond.instanceMethod yX0_paysFor, Cond.initialized RX0, Cond.selects RX0 yX0_paysFor yX0_paysFor, Cond.code yX0_paysFor cX0_paysFor 7 (some .boolean), Cond.fieldLink RX0 15 "MeteredSheets$Ledger" "budgets" "[I", Cond.methodLink RX0 41 yX0_costOf, Cond.instanceMethod yX0_costOf, Cond.selects RX0 yX0_costOf yX0_costOf, Cond.code yX0_costOf cX0_costOf 2 (some .int)]
def wsX1_setGreater_r4 : List Cond := [Cond.fieldLink RX0 9 "MeteredSheets$Ledger" "prices" "[I", Cond.methodLink RX0 44 yX0_enter, Cond.instanceMethod yX0_enter, Cond.selects RX0 yX0_enter yX0_enter, Cond.code yX0_enter cX0_enter 5 none, Cond.fieldLink RX0 18 "MeteredSheets$Ledger" "earnings" "[I", Cond.fieldLink RX0 24 "MeteredSheets$Ledger" "bills" "[I", Cond.fieldLink RX0 21 "MeteredSheets$Ledger" "readsOf" "[I", Cond.fieldLink RX0 27 "MeteredSheets$Ledger" "counts" "[I", Cond.fieldLink RX0 33 "MeteredSheets$Ledger" "keptCount" "I", Cond.fieldLink RX0 30 "MeteredSheets$Ledger" "kept" "[I", Cond.methodLink RX1 121 yX1_resultOf, Cond.instanceMethod yX1_resultOf, Cond.selects RX1 yX1_resultOf yX1_resultOf, Cond.code yX1_resultOf cX1_resultOf 5 (some .int), Cond.methodLink RX1 185 Lib.Math.max.name, Cond.static Lib.Math.max.name, Cond.initialized "java/lang/Math", Cond.code Lib.Math.max.name Lib.Math.max.code 2 (some .int), Cond.methodLink RX1 178 yX1_valueIn, Cond.static yX1_valueIn, Cond.code yX1_valueIn cX1_valueIn 2 (some .int), Cond.methodLink RX1 182 yX1_held, Cond.static yX1_held]
def wsX1_setGreater_r5 : List Cond := [Cond.code yX1_held cX1_held 1 (some .int), Cond.constant RX1 190 (-1000000), Cond.constant RX1 58 (1000000), Cond.methodLink RX1 191 Lib.Math.min.name, Cond.static Lib.Math.min.name, Cond.code Lib.Math.min.name Lib.Math.min.code 2 (some .int), Cond.methodLink RX1 94 yX1_goThrough, Cond.instanceMethod yX1_goThrough, Cond.selects RX1 yX1_goThrough yX1_goThrough, Cond.code yX1_goThrough cX1_goThrough 6 (some .int)]
def wsX1_setGreater : List Cond := .code yX1_setGreater cX1_setGreater 5 (some .int) :: ((wsX1_setGreater_r1 ++ (wsX1_setGreater_r2 ++ (wsX1_setGreater_r3 ++ (wsX1_setGreater_r4 ++ wsX1_setGreater_r5)))) ++ wsX10 ++ wsX00 ++ (vx_atS RX1 67 "java/lang/IllegalArgumentException" ["java/lang/RuntimeException", "java/lang/Exception"]).filter goodWord ++ (vx_atS RX1 84 "java/lang/IllegalStateException" ["java/lang/RuntimeException", "java/lang/Exception"]).filter goodWord)
def wsX1_setTimes_r1 : List Cond := [Cond.classLink RX1 63 "java/lang/IllegalArgumentException", Cond.initialized "java/lang/IllegalArgumentException", Cond.classLink RX1 80 "java/lang/IllegalStateException", Cond.initialized "java/lang/IllegalStateException", Cond.methodLink RX1 51 yX1_isUser, Cond.static yX1_isUser, Cond.initialized RX1, Cond.code yX1_isUser cX1_isUser 1 (some .boolean), Cond.methodLink RX1 55 yX1_isCell, Cond.static yX1_isCell, Cond.code yX1_isCell cX1_isCell 1 (some .boolean), Cond.methodLink RX1 59 yX1_isWithin, Cond.static yX1_isWithin, Cond.code yX1_isWithin cX1_isWithin 2 (some .boolean), Cond.methodLink RX1 76 yX1_wouldReadItself, Cond.instanceMethod yX1_wouldReadItself, Cond.selects RX1 yX1_wouldReadItself yX1_wouldReadItself, Cond.code yX1_wouldReadItself cX1_wouldReadItself 6 (some .boolean), Cond.fieldLink RX1 45 "MeteredSheets" "reaching" "[Z", Cond.fieldLink RX1 29 "MeteredSheets" "order" "[I", Cond.methodLink RX1 145 yX1_readsOneOf, Cond.instanceMethod yX1_readsOneOf, Cond.selects RX1 yX1_readsOneOf yX1_readsOneOf, Cond.code yX1_readsOneOf cX1_readsOneOf 3 (some .boolean)]
def wsX1_setTimes_r2 : List Cond := [Cond.fieldLink RX1 13 "MeteredSheets" "ones" "[I", Cond.fieldLink RX1 16 "MeteredSheets" "others" "[I", Cond.methodLink RX1 149 yX1_isIn, Cond.static yX1_isIn, Cond.code yX1_isIn cX1_isIn 2 (some .boolean), Cond.methodLink RX1 70 yX1_giveFormula, Cond.instanceMethod yX1_giveFormula, Cond.selects RX1 yX1_giveFormula yX1_giveFormula, Cond.code yX1_giveFormula cX1_giveFormula 7 (some .int), Cond.fieldLink RX1 9 "MeteredSheets" "kinds" "[I", Cond.fieldLink RX1 19 "MeteredSheets" "numbers" "[I", Cond.methodLink RX1 152 yX1_putInOrder, Cond.instanceMethod yX1_putInOrder, Cond.selects RX1 yX1_putInOrder yX1_putInOrder, Cond.code yX1_putInOrder cX1_putInOrder 3 none, Cond.fieldLink RX1 42 "MeteredSheets" "placed" "[Z", Cond.methodLink RX1 159 yX1_lowestFreeCell, Cond.instanceMethod yX1_lowestFreeCell, Cond.selects RX1 yX1_lowestFreeCell yX1_lowestFreeCell, Cond.code yX1_lowestFreeCell cX1_lowestFreeCell 2 (some .int), Cond.methodLink RX1 163 yX1_isReady, Cond.instanceMethod yX1_isReady, Cond.selects RX1 yX1_isReady yX1_isReady, Cond.code yX1_isReady cX1_isReady 2 (some .boolean)]
def wsX1_setTimes_r3 : List Cond := [Cond.methodLink RX1 91 yX1_forgetChanges, Cond.instanceMethod yX1_forgetChanges, Cond.selects RX1 yX1_forgetChanges yX1_forgetChanges, Cond.code yX1_forgetChanges cX1_forgetChanges 2 none, Cond.fieldLink RX1 39 "MeteredSheets" "changed" "[Z", Cond.methodLink RX1 155 yX1_compute, Cond.instanceMethod yX1_compute, Cond.selects RX1 yX1_compute yX1_compute, Cond.code yX1_compute cX1_compute 6 none, Cond.fieldLink RX1 25 "MeteredSheets" "marked" "[Z", Cond.fieldLink RX1 35 "MeteredSheets" "ledger" "LMeteredSheets$Ledger;", Cond.fieldLink RX1 22 "MeteredSheets" "values" "[I", Cond.methodLink RX1 166 yX1_meteredRead, Cond.static yX1_meteredRead, Cond.code yX1_meteredRead cX1_meteredRead 2 (some .int), Cond.methodLink RX1 174 yX1_sheetOf, Cond.static yX1_sheetOf, Cond.code yX1_sheetOf cX1_sheetOf 1 (some .int), Cond.instanceMethod yX0_paysFor, Cond.initialized RX0, Cond.selects RX0 yX0_paysFor yX0_paysFor, Cond.code yX0_paysFor cX0_paysFor 7 (some .boolean), Cond.fieldLink RX0 15 "MeteredSheets$Ledger" "budgets" "[I", Cond.methodLink RX0 41 yX0_costOf]
def wsX1_setTimes_r4 : List Cond := [Cond.instanceMethod yX0_costOf, Cond.selects RX0 yX0_costOf yX0_costOf, Cond.code yX0_costOf cX0_costOf 2 (some .int), Cond.fieldLink RX0 9 "MeteredSheets$Ledger" "prices" "[I", Cond.methodLink RX0 44 yX0_enter, Cond.instanceMethod yX0_enter, Cond.selects RX0 yX0_enter yX0_enter, Cond.code yX0_enter cX0_enter 5 none, Cond.fieldLink RX0 18 "MeteredSheets$Ledger" "earnings" "[I", Cond.fieldLink RX0 24 "MeteredSheets$Ledger" "bills" "[I", Cond.fieldLink RX0 21 "MeteredSheets$Ledger" "readsOf" "[I", Cond.fieldLink RX0 27 "MeteredSheets$Ledger" "counts" "[I", Cond.fieldLink RX0 33 "MeteredSheets$Ledger" "keptCount" "I", Cond.fieldLink RX0 30 "MeteredSheets$Ledger" "kept" "[I", Cond.methodLink RX1 121 yX1_resultOf, Cond.instanceMethod yX1_resultOf, Cond.selects RX1 yX1_resultOf yX1_resultOf, Cond.code yX1_resultOf cX1_resultOf 5 (some .int), Cond.methodLink RX1 185 Lib.Math.max.name, Cond.static Lib.Math.max.name, Cond.initialized "java/lang/Math", Cond.code Lib.Math.max.name Lib.Math.max.code 2 (some .int), Cond.methodLink RX1 178 yX1_valueIn, Cond.static yX1_valueIn]
def wsX1_setTimes_r5 : List Cond := [Cond.code yX1_valueIn cX1_valueIn 2 (some .int), Cond.methodLink RX1 182 yX1_held, Cond.static yX1_held, Cond.code yX1_held cX1_held 1 (some .int), Cond.constant RX1 190 (-1000000), Cond.constant RX1 58 (1000000), Cond.methodLink RX1 191 Lib.Math.min.name, Cond.static Lib.Math.min.name, Cond.code Lib.Math.min.name Lib.Math.min.code 2 (some .int), Cond.methodLink RX1 94 yX1_goThrough, Cond.instanceMethod yX1_goThrough, Cond.selects RX1 yX1_goThrough yX1_goThrough, Cond.code yX1_goThrough cX1_goThrough 6 (some .int)]
def wsX1_setTimes : List Cond := .code yX1_setTimes cX1_setTimes 5 (some .int) :: ((wsX1_setTimes_r1 ++ (wsX1_setTimes_r2 ++ (wsX1_setTimes_r3 ++ (wsX1_setTimes_r4 ++ wsX1_setTimes_r5)))) ++ wsX10 ++ wsX00 ++ (vx_atS RX1 67 "java/lang/IllegalArgumentException" ["java/lang/RuntimeException", "java/lang/Exception"]).filter goodWord ++ (vx_atS RX1 84 "java/lang/IllegalStateException" ["java/lang/RuntimeException", "java/lang/Exception"]).filter goodWord)
def wsX1_refresh_r1 : List Cond := [Cond.classLink RX1 63 "java/lang/IllegalArgumentException", Cond.initialized "java/lang/IllegalArgumentException", Cond.methodLink RX1 51 yX1_isUser, Cond.static yX1_isUser, Cond.initialized RX1, Cond.code yX1_isUser cX1_isUser 1 (some .boolean), Cond.methodLink RX1 91 yX1_forgetChanges, Cond.instanceMethod yX1_forgetChanges, Cond.selects RX1 yX1_forgetChanges yX1_forgetChanges, Cond.code yX1_forgetChanges cX1_forgetChanges 2 none, Cond.fieldLink RX1 39 "MeteredSheets" "changed" "[Z", Cond.methodLink RX1 94 yX1_goThrough, Cond.instanceMethod yX1_goThrough, Cond.selects RX1 yX1_goThrough yX1_goThrough, Cond.code yX1_goThrough cX1_goThrough 6 (some .int), Cond.fieldLink RX1 29 "MeteredSheets" "order" "[I", Cond.fieldLink RX1 25 "MeteredSheets" "marked" "[Z", Cond.methodLink RX1 55 yX1_isCell, Cond.static yX1_isCell, Cond.code yX1_isCell cX1_isCell 1 (some .boolean), Cond.methodLink RX1 145 yX1_readsOneOf, Cond.instanceMethod yX1_readsOneOf, Cond.selects RX1 yX1_readsOneOf yX1_readsOneOf, Cond.code yX1_readsOneOf cX1_readsOneOf 3 (some .boolean)]
def wsX1_refresh_r2 : List Cond := [Cond.fieldLink RX1 13 "MeteredSheets" "ones" "[I", Cond.fieldLink RX1 16 "MeteredSheets" "others" "[I", Cond.methodLink RX1 149 yX1_isIn, Cond.static yX1_isIn, Cond.code yX1_isIn cX1_isIn 2 (some .boolean), Cond.methodLink RX1 155 yX1_compute, Cond.instanceMethod yX1_compute, Cond.selects RX1 yX1_compute yX1_compute, Cond.code yX1_compute cX1_compute 6 none, Cond.fieldLink RX1 35 "MeteredSheets" "ledger" "LMeteredSheets$Ledger;", Cond.fieldLink RX1 22 "MeteredSheets" "values" "[I", Cond.methodLink RX1 166 yX1_meteredRead, Cond.static yX1_meteredRead, Cond.code yX1_meteredRead cX1_meteredRead 2 (some .int), Cond.methodLink RX1 174 yX1_sheetOf, Cond.static yX1_sheetOf, Cond.code yX1_sheetOf cX1_sheetOf 1 (some .int), Cond.instanceMethod yX0_paysFor, Cond.initialized RX0, Cond.selects RX0 yX0_paysFor yX0_paysFor, Cond.code yX0_paysFor cX0_paysFor 7 (some .boolean), Cond.fieldLink RX0 15 "MeteredSheets$Ledger" "budgets" "[I", Cond.methodLink RX0 41 yX0_costOf, Cond.instanceMethod yX0_costOf]
def wsX1_refresh_r3 : List Cond := [Cond.selects RX0 yX0_costOf yX0_costOf, Cond.code yX0_costOf cX0_costOf 2 (some .int), Cond.fieldLink RX0 9 "MeteredSheets$Ledger" "prices" "[I", Cond.methodLink RX0 44 yX0_enter, Cond.instanceMethod yX0_enter, Cond.selects RX0 yX0_enter yX0_enter, Cond.code yX0_enter cX0_enter 5 none, Cond.fieldLink RX0 18 "MeteredSheets$Ledger" "earnings" "[I", Cond.fieldLink RX0 24 "MeteredSheets$Ledger" "bills" "[I", Cond.fieldLink RX0 21 "MeteredSheets$Ledger" "readsOf" "[I", Cond.fieldLink RX0 27 "MeteredSheets$Ledger" "counts" "[I", Cond.fieldLink RX0 33 "MeteredSheets$Ledger" "keptCount" "I", Cond.fieldLink RX0 30 "MeteredSheets$Ledger" "kept" "[I", Cond.methodLink RX1 121 yX1_resultOf, Cond.instanceMethod yX1_resultOf, Cond.selects RX1 yX1_resultOf yX1_resultOf, Cond.code yX1_resultOf cX1_resultOf 5 (some .int), Cond.fieldLink RX1 9 "MeteredSheets" "kinds" "[I", Cond.fieldLink RX1 19 "MeteredSheets" "numbers" "[I", Cond.methodLink RX1 185 Lib.Math.max.name, Cond.static Lib.Math.max.name, Cond.initialized "java/lang/Math", Cond.code Lib.Math.max.name Lib.Math.max.code 2 (some .int), Cond.methodLink RX1 178 yX1_valueIn]
def wsX1_refresh_r4 : List Cond := [Cond.static yX1_valueIn, Cond.code yX1_valueIn cX1_valueIn 2 (some .int), Cond.methodLink RX1 182 yX1_held, Cond.static yX1_held, Cond.code yX1_held cX1_held 1 (some .int), Cond.constant RX1 190 (-1000000), Cond.constant RX1 58 (1000000), Cond.methodLink RX1 191 Lib.Math.min.name, Cond.static Lib.Math.min.name, Cond.code Lib.Math.min.name Lib.Math.min.code 2 (some .int)]
def wsX1_refresh : List Cond := .code yX1_refresh cX1_refresh 2 (some .int) :: ((wsX1_refresh_r1 ++ (wsX1_refresh_r2 ++ (wsX1_refresh_r3 ++ wsX1_refresh_r4))) ++ wsX10 ++ wsX00 ++ (vx_atS RX1 67 "java/lang/IllegalArgumentException" ["java/lang/RuntimeException", "java/lang/Exception"]).filter goodWord)
def wsX1_isSheet : List Cond := .code yX1_isSheet cX1_isSheet 1 (some .boolean) :: ([])
def wsX1_setPrice : List Cond := .code yX1_setPrice cX1_setPrice 4 (some .int) :: ([.classLink RX1 63 "java/lang/IllegalArgumentException", .initialized "java/lang/IllegalArgumentException", .fieldLink RX1 35 "MeteredSheets" "ledger" "LMeteredSheets$Ledger;", .methodLink RX1 98 yX1_isSheet, .static yX1_isSheet, .initialized RX1, .code yX1_isSheet cX1_isSheet 1 (some .boolean)] ++ wsX10 ++ wsX00 ++ (vx_atS RX1 67 "java/lang/IllegalArgumentException" ["java/lang/RuntimeException", "java/lang/Exception"]).filter goodWord)
def wsX1_grant : List Cond := .code yX1_grant cX1_grant 3 (some .int) :: ([.classLink RX1 63 "java/lang/IllegalArgumentException", .initialized "java/lang/IllegalArgumentException", .fieldLink RX1 35 "MeteredSheets" "ledger" "LMeteredSheets$Ledger;", .methodLink RX1 98 yX1_isSheet, .static yX1_isSheet, .initialized RX1, .code yX1_isSheet cX1_isSheet 1 (some .boolean)] ++ wsX10 ++ wsX00 ++ (vx_atS RX1 67 "java/lang/IllegalArgumentException" ["java/lang/RuntimeException", "java/lang/Exception"]).filter goodWord)
def wsX1_budget : List Cond := .code yX1_budget cX1_budget 2 (some .int) :: ([.classLink RX1 63 "java/lang/IllegalArgumentException", .initialized "java/lang/IllegalArgumentException", .fieldLink RX1 35 "MeteredSheets" "ledger" "LMeteredSheets$Ledger;", .methodLink RX1 98 yX1_isSheet, .static yX1_isSheet, .initialized RX1, .code yX1_isSheet cX1_isSheet 1 (some .boolean)] ++ wsX10 ++ wsX00 ++ (vx_atS RX1 67 "java/lang/IllegalArgumentException" ["java/lang/RuntimeException", "java/lang/Exception"]).filter goodWord)
def wsX1_earned : List Cond := .code yX1_earned cX1_earned 2 (some .int) :: ([.classLink RX1 63 "java/lang/IllegalArgumentException", .initialized "java/lang/IllegalArgumentException", .fieldLink RX1 35 "MeteredSheets" "ledger" "LMeteredSheets$Ledger;", .methodLink RX1 98 yX1_isSheet, .static yX1_isSheet, .initialized RX1, .code yX1_isSheet cX1_isSheet 1 (some .boolean)] ++ wsX10 ++ wsX00 ++ (vx_atS RX1 67 "java/lang/IllegalArgumentException" ["java/lang/RuntimeException", "java/lang/Exception"]).filter goodWord)
def wsX1_caused : List Cond := .code yX1_caused cX1_caused 2 (some .int) :: ([.classLink RX1 63 "java/lang/IllegalArgumentException", .initialized "java/lang/IllegalArgumentException", .fieldLink RX1 35 "MeteredSheets" "ledger" "LMeteredSheets$Ledger;", .methodLink RX1 51 yX1_isUser, .static yX1_isUser, .initialized RX1, .code yX1_isUser cX1_isUser 1 (some .boolean)] ++ wsX10 ++ wsX00 ++ (vx_atS RX1 67 "java/lang/IllegalArgumentException" ["java/lang/RuntimeException", "java/lang/Exception"]).filter goodWord)
def wsX1_value : List Cond := .code yX1_value cX1_value 2 (some .int) :: ([.classLink RX1 63 "java/lang/IllegalArgumentException", .initialized "java/lang/IllegalArgumentException", .fieldLink RX1 22 "MeteredSheets" "values" "[I", .methodLink RX1 55 yX1_isCell, .static yX1_isCell, .initialized RX1, .code yX1_isCell cX1_isCell 1 (some .boolean)] ++ wsX10 ++ (vx_atS RX1 67 "java/lang/IllegalArgumentException" ["java/lang/RuntimeException", "java/lang/Exception"]).filter goodWord)
def wsX1_isMarked : List Cond := .code yX1_isMarked cX1_isMarked 2 (some .boolean) :: ([.classLink RX1 63 "java/lang/IllegalArgumentException", .initialized "java/lang/IllegalArgumentException", .fieldLink RX1 25 "MeteredSheets" "marked" "[Z", .methodLink RX1 55 yX1_isCell, .static yX1_isCell, .initialized RX1, .code yX1_isCell cX1_isCell 1 (some .boolean)] ++ wsX10 ++ (vx_atS RX1 67 "java/lang/IllegalArgumentException" ["java/lang/RuntimeException", "java/lang/Exception"]).filter goodWord)
def wsX1_valueAnew_r1 : List Cond := [Cond.classLink RX1 63 "java/lang/IllegalArgumentException", Cond.initialized "java/lang/IllegalArgumentException", Cond.fieldLink RX1 29 "MeteredSheets" "order" "[I", Cond.fieldLink RX1 48 "MeteredSheets" "fresh" "[I", Cond.methodLink RX1 55 yX1_isCell, Cond.static yX1_isCell, Cond.initialized RX1, Cond.code yX1_isCell cX1_isCell 1 (some .boolean), Cond.methodLink RX1 121 yX1_resultOf, Cond.instanceMethod yX1_resultOf, Cond.selects RX1 yX1_resultOf yX1_resultOf, Cond.code yX1_resultOf cX1_resultOf 5 (some .int), Cond.fieldLink RX1 13 "MeteredSheets" "ones" "[I", Cond.fieldLink RX1 16 "MeteredSheets" "others" "[I", Cond.fieldLink RX1 9 "MeteredSheets" "kinds" "[I", Cond.fieldLink RX1 19 "MeteredSheets" "numbers" "[I", Cond.methodLink RX1 185 Lib.Math.max.name, Cond.static Lib.Math.max.name, Cond.initialized "java/lang/Math", Cond.code Lib.Math.max.name Lib.Math.max.code 2 (some .int), Cond.methodLink RX1 178 yX1_valueIn, Cond.static yX1_valueIn, Cond.code yX1_valueIn cX1_valueIn 2 (some .int), Cond.methodLink RX1 182 yX1_held]
def wsX1_valueAnew_r2 : List Cond := [Cond.static yX1_held, Cond.code yX1_held cX1_held 1 (some .int), Cond.constant RX1 190 (-1000000), Cond.constant RX1 58 (1000000), Cond.methodLink RX1 191 Lib.Math.min.name, Cond.static Lib.Math.min.name, Cond.code Lib.Math.min.name Lib.Math.min.code 2 (some .int)]
def wsX1_valueAnew : List Cond := .code yX1_valueAnew cX1_valueAnew 4 (some .int) :: ((wsX1_valueAnew_r1 ++ wsX1_valueAnew_r2) ++ wsX10 ++ (vx_atS RX1 67 "java/lang/IllegalArgumentException" ["java/lang/RuntimeException", "java/lang/Exception"]).filter goodWord)
def wsX1_readings : List Cond := .code yX1_readings cX1_readings 1 (some .int) :: ([.fieldLink RX1 35 "MeteredSheets" "ledger" "LMeteredSheets$Ledger;"] ++ wsX10 ++ wsX00)
def wsX1_reading : List Cond := .code yX1_reading cX1_reading 2 (some .int) :: ([.classLink RX1 129 "java/lang/IndexOutOfBoundsException", .initialized "java/lang/IndexOutOfBoundsException", .fieldLink RX1 35 "MeteredSheets" "ledger" "LMeteredSheets$Ledger;"] ++ wsX10 ++ wsX00 ++ (vx_atS RX1 133 "java/lang/IndexOutOfBoundsException" ["java/lang/RuntimeException", "java/lang/Exception"]).filter goodWord)
def wsX1_timesRead : List Cond := .code yX1_timesRead cX1_timesRead 3 (some .int) :: ([.classLink RX1 63 "java/lang/IllegalArgumentException", .initialized "java/lang/IllegalArgumentException", .fieldLink RX1 35 "MeteredSheets" "ledger" "LMeteredSheets$Ledger;", .methodLink RX1 55 yX1_isCell, .static yX1_isCell, .initialized RX1, .code yX1_isCell cX1_isCell 1 (some .boolean)] ++ wsX10 ++ wsX00 ++ (vx_atS RX1 67 "java/lang/IllegalArgumentException" ["java/lang/RuntimeException", "java/lang/Exception"]).filter goodWord)
def wsX1_readOf : List Cond := .code yX1_readOf cX1_readOf 2 (some .int) :: ([.classLink RX1 63 "java/lang/IllegalArgumentException", .initialized "java/lang/IllegalArgumentException", .fieldLink RX1 35 "MeteredSheets" "ledger" "LMeteredSheets$Ledger;", .methodLink RX1 98 yX1_isSheet, .static yX1_isSheet, .initialized RX1, .code yX1_isSheet cX1_isSheet 1 (some .boolean)] ++ wsX10 ++ wsX00 ++ (vx_atS RX1 67 "java/lang/IllegalArgumentException" ["java/lang/RuntimeException", "java/lang/Exception"]).filter goodWord)
def wsX2_init : List Cond := .code yX2_init cX2_init 2 none :: ([.methodLink RX2 1 objectInit, .instanceMethod objectInit, .code objectInit ⟨#[0xb1]⟩ 1 none, .arrayClass .int, .fieldLink RX2 7 "MeteredSheetsModel" "kinds" "[I", .fieldLink RX2 13 "MeteredSheetsModel" "ones" "[I", .fieldLink RX2 16 "MeteredSheetsModel" "others" "[I", .fieldLink RX2 19 "MeteredSheetsModel" "numbers" "[I", .fieldLink RX2 22 "MeteredSheetsModel" "values" "[I", .fieldLink RX2 25 "MeteredSheetsModel" "marks" "[I", .fieldLink RX2 28 "MeteredSheetsModel" "changed" "[I", .fieldLink RX2 31 "MeteredSheetsModel" "anew" "[I", .fieldLink RX2 34 "MeteredSheetsModel" "order" "[I", .fieldLink RX2 37 "MeteredSheetsModel" "stands" "[I", .fieldLink RX2 40 "MeteredSheetsModel" "prices" "[I", .fieldLink RX2 43 "MeteredSheetsModel" "budgets" "[I", .fieldLink RX2 46 "MeteredSheetsModel" "earnings" "[I", .fieldLink RX2 49 "MeteredSheetsModel" "costs" "[I", .fieldLink RX2 52 "MeteredSheetsModel" "kept" "[I", .fieldLink RX2 55 "MeteredSheetsModel" "times" "[I"] ++ wsX20)
def wsX2_thrown : List Cond := .code yX2_thrown cX2_thrown 1 (some .int) :: ([.fieldLink RX2 58 "MeteredSheetsModel" "thrown" "I"] ++ wsX20)
def wsX2_fails : List Cond := .code yX2_fails cX2_fails 2 (some .int) :: ([.fieldLink RX2 58 "MeteredSheetsModel" "thrown" "I"] ++ wsX20)
def wsX2_in : List Cond := .code yX2_in cX2_in 3 (some .boolean) :: ([])
def wsX2_isCell : List Cond := .code yX2_isCell cX2_isCell 1 (some .boolean) :: ([.methodLink RX2 62 yX2_in, .static yX2_in, .initialized RX2, .code yX2_in cX2_in 3 (some .boolean)])
def wsX2_isSheet : List Cond := .code yX2_isSheet cX2_isSheet 1 (some .boolean) :: ([.methodLink RX2 62 yX2_in, .static yX2_in, .initialized RX2, .code yX2_in cX2_in 3 (some .boolean)])
def wsX2_one : List Cond := .code yX2_one cX2_one 2 (some .int) :: ([.fieldLink RX2 7 "MeteredSheetsModel" "kinds" "[I", .fieldLink RX2 13 "MeteredSheetsModel" "ones" "[I"] ++ wsX20)
def wsX2_other : List Cond := .code yX2_other cX2_other 3 (some .int) :: ([.fieldLink RX2 7 "MeteredSheetsModel" "kinds" "[I", .fieldLink RX2 16 "MeteredSheetsModel" "others" "[I", .fieldLink RX2 13 "MeteredSheetsModel" "ones" "[I"] ++ wsX20)
def wsX2_layOrder : List Cond := .code yX2_layOrder cX2_layOrder 6 none :: ([.fieldLink RX2 37 "MeteredSheetsModel" "stands" "[I", .fieldLink RX2 34 "MeteredSheetsModel" "order" "[I", .methodLink RX2 66 yX2_one, .instanceMethod yX2_one, .selects RX2 yX2_one yX2_one, .initialized RX2, .code yX2_one cX2_one 2 (some .int), .fieldLink RX2 7 "MeteredSheetsModel" "kinds" "[I", .fieldLink RX2 13 "MeteredSheetsModel" "ones" "[I", .methodLink RX2 70 yX2_other, .instanceMethod yX2_other, .selects RX2 yX2_other yX2_other, .code yX2_other cX2_other 3 (some .int), .fieldLink RX2 16 "MeteredSheetsModel" "others" "[I"] ++ wsX20)
def wsX2_held : List Cond := .code yX2_held cX2_held 1 (some .int) :: ([.constant RX2 73 (1000000), .constant RX2 74 (-1000000)])
def wsX2_comesTo : List Cond := .code yX2_comesTo cX2_comesTo 5 (some .int) :: ([.fieldLink RX2 13 "MeteredSheetsModel" "ones" "[I", .fieldLink RX2 16 "MeteredSheetsModel" "others" "[I", .fieldLink RX2 7 "MeteredSheetsModel" "kinds" "[I", .fieldLink RX2 19 "MeteredSheetsModel" "numbers" "[I", .methodLink RX2 75 yX2_held, .static yX2_held, .initialized RX2, .code yX2_held cX2_held 1 (some .int), .constant RX2 73 (1000000), .constant RX2 74 (-1000000)] ++ wsX20)
def wsX2_isMetered : List Cond := .code yX2_isMetered cX2_isMetered 2 (some .boolean) :: ([])
def wsX2_priceOf : List Cond := .code yX2_priceOf cX2_priceOf 3 (some .int) :: ([.fieldLink RX2 40 "MeteredSheetsModel" "prices" "[I", .methodLink RX2 78 yX2_isMetered, .static yX2_isMetered, .initialized RX2, .code yX2_isMetered cX2_isMetered 2 (some .boolean)] ++ wsX20)
def wsX2_pay : List Cond := .code yX2_pay cX2_pay 5 none :: ([.fieldLink RX2 40 "MeteredSheetsModel" "prices" "[I", .fieldLink RX2 43 "MeteredSheetsModel" "budgets" "[I", .fieldLink RX2 46 "MeteredSheetsModel" "earnings" "[I", .fieldLink RX2 49 "MeteredSheetsModel" "costs" "[I", .fieldLink RX2 55 "MeteredSheetsModel" "times" "[I", .fieldLink RX2 82 "MeteredSheetsModel" "many" "I", .fieldLink RX2 52 "MeteredSheetsModel" "kept" "[I", .methodLink RX2 78 yX2_isMetered, .static yX2_isMetered, .initialized RX2, .code yX2_isMetered cX2_isMetered 2 (some .boolean)] ++ wsX20)
def wsX2_compute_r1 : List Cond := [Cond.fieldLink RX2 43 "MeteredSheetsModel" "budgets" "[I", Cond.fieldLink RX2 25 "MeteredSheetsModel" "marks" "[I", Cond.fieldLink RX2 22 "MeteredSheetsModel" "values" "[I", Cond.fieldLink RX2 28 "MeteredSheetsModel" "changed" "[I", Cond.methodLink RX2 66 yX2_one, Cond.instanceMethod yX2_one, Cond.selects RX2 yX2_one yX2_one, Cond.initialized RX2, Cond.code yX2_one cX2_one 2 (some .int), Cond.fieldLink RX2 7 "MeteredSheetsModel" "kinds" "[I", Cond.fieldLink RX2 13 "MeteredSheetsModel" "ones" "[I", Cond.methodLink RX2 85 yX2_priceOf, Cond.instanceMethod yX2_priceOf, Cond.selects RX2 yX2_priceOf yX2_priceOf, Cond.code yX2_priceOf cX2_priceOf 3 (some .int), Cond.fieldLink RX2 40 "MeteredSheetsModel" "prices" "[I", Cond.methodLink RX2 78 yX2_isMetered, Cond.static yX2_isMetered, Cond.code yX2_isMetered cX2_isMetered 2 (some .boolean), Cond.methodLink RX2 70 yX2_other, Cond.instanceMethod yX2_other, Cond.selects RX2 yX2_other yX2_other, Cond.code yX2_other cX2_other 3 (some .int), Cond.fieldLink RX2 16 "MeteredSheetsModel" "others" "[I"]
def wsX2_compute_r2 : List Cond := [Cond.methodLink RX2 89 yX2_pay, Cond.instanceMethod yX2_pay, Cond.selects RX2 yX2_pay yX2_pay, Cond.code yX2_pay cX2_pay 5 none, Cond.fieldLink RX2 46 "MeteredSheetsModel" "earnings" "[I", Cond.fieldLink RX2 49 "MeteredSheetsModel" "costs" "[I", Cond.fieldLink RX2 55 "MeteredSheetsModel" "times" "[I", Cond.fieldLink RX2 82 "MeteredSheetsModel" "many" "I", Cond.fieldLink RX2 52 "MeteredSheetsModel" "kept" "[I", Cond.methodLink RX2 93 yX2_comesTo, Cond.instanceMethod yX2_comesTo, Cond.selects RX2 yX2_comesTo yX2_comesTo, Cond.code yX2_comesTo cX2_comesTo 5 (some .int), Cond.fieldLink RX2 19 "MeteredSheetsModel" "numbers" "[I", Cond.methodLink RX2 75 yX2_held, Cond.static yX2_held, Cond.code yX2_held cX2_held 1 (some .int), Cond.constant RX2 73 (1000000), Cond.constant RX2 74 (-1000000)]
def wsX2_compute : List Cond := .code yX2_compute cX2_compute 5 none :: ((wsX2_compute_r1 ++ wsX2_compute_r2) ++ wsX20)
def wsX2_readsChanged : List Cond := .code yX2_readsChanged cX2_readsChanged 2 (some .boolean) :: ([.fieldLink RX2 28 "MeteredSheetsModel" "changed" "[I", .methodLink RX2 66 yX2_one, .instanceMethod yX2_one, .selects RX2 yX2_one yX2_one, .initialized RX2, .code yX2_one cX2_one 2 (some .int), .fieldLink RX2 7 "MeteredSheetsModel" "kinds" "[I", .fieldLink RX2 13 "MeteredSheetsModel" "ones" "[I", .methodLink RX2 70 yX2_other, .instanceMethod yX2_other, .selects RX2 yX2_other yX2_other, .code yX2_other cX2_other 3 (some .int), .fieldLink RX2 16 "MeteredSheetsModel" "others" "[I"] ++ wsX20)
def wsX2_goThrough_r1 : List Cond := [Cond.fieldLink RX2 34 "MeteredSheetsModel" "order" "[I", Cond.fieldLink RX2 25 "MeteredSheetsModel" "marks" "[I", Cond.methodLink RX2 97 yX2_layOrder, Cond.instanceMethod yX2_layOrder, Cond.selects RX2 yX2_layOrder yX2_layOrder, Cond.initialized RX2, Cond.code yX2_layOrder cX2_layOrder 6 none, Cond.fieldLink RX2 37 "MeteredSheetsModel" "stands" "[I", Cond.methodLink RX2 66 yX2_one, Cond.instanceMethod yX2_one, Cond.selects RX2 yX2_one yX2_one, Cond.code yX2_one cX2_one 2 (some .int), Cond.fieldLink RX2 7 "MeteredSheetsModel" "kinds" "[I", Cond.fieldLink RX2 13 "MeteredSheetsModel" "ones" "[I", Cond.methodLink RX2 70 yX2_other, Cond.instanceMethod yX2_other, Cond.selects RX2 yX2_other yX2_other, Cond.code yX2_other cX2_other 3 (some .int), Cond.fieldLink RX2 16 "MeteredSheetsModel" "others" "[I", Cond.methodLink RX2 100 yX2_readsChanged, Cond.instanceMethod yX2_readsChanged, Cond.selects RX2 yX2_readsChanged yX2_readsChanged, Cond.code yX2_readsChanged cX2_readsChanged 2 (some .boolean), Cond.fieldLink RX2 28 "MeteredSheetsModel" "changed" "[I"]
def wsX2_goThrough_r2 : List Cond := [Cond.methodLink RX2 104 yX2_compute, Cond.instanceMethod yX2_compute, Cond.selects RX2 yX2_compute yX2_compute, Cond.code yX2_compute cX2_compute 5 none, Cond.fieldLink RX2 43 "MeteredSheetsModel" "budgets" "[I", Cond.fieldLink RX2 22 "MeteredSheetsModel" "values" "[I", Cond.methodLink RX2 85 yX2_priceOf, Cond.instanceMethod yX2_priceOf, Cond.selects RX2 yX2_priceOf yX2_priceOf, Cond.code yX2_priceOf cX2_priceOf 3 (some .int), Cond.fieldLink RX2 40 "MeteredSheetsModel" "prices" "[I", Cond.methodLink RX2 78 yX2_isMetered, Cond.static yX2_isMetered, Cond.code yX2_isMetered cX2_isMetered 2 (some .boolean), Cond.methodLink RX2 89 yX2_pay, Cond.instanceMethod yX2_pay, Cond.selects RX2 yX2_pay yX2_pay, Cond.code yX2_pay cX2_pay 5 none, Cond.fieldLink RX2 46 "MeteredSheetsModel" "earnings" "[I", Cond.fieldLink RX2 49 "MeteredSheetsModel" "costs" "[I", Cond.fieldLink RX2 55 "MeteredSheetsModel" "times" "[I", Cond.fieldLink RX2 82 "MeteredSheetsModel" "many" "I", Cond.fieldLink RX2 52 "MeteredSheetsModel" "kept" "[I", Cond.methodLink RX2 93 yX2_comesTo]
def wsX2_goThrough_r3 : List Cond := [Cond.instanceMethod yX2_comesTo, Cond.selects RX2 yX2_comesTo yX2_comesTo, Cond.code yX2_comesTo cX2_comesTo 5 (some .int), Cond.fieldLink RX2 19 "MeteredSheetsModel" "numbers" "[I", Cond.methodLink RX2 75 yX2_held, Cond.static yX2_held, Cond.code yX2_held cX2_held 1 (some .int), Cond.constant RX2 73 (1000000), Cond.constant RX2 74 (-1000000)]
def wsX2_goThrough : List Cond := .code yX2_goThrough cX2_goThrough 6 (some .int) :: ((wsX2_goThrough_r1 ++ (wsX2_goThrough_r2 ++ wsX2_goThrough_r3)) ++ wsX20)
def wsX2_reaches : List Cond := .code yX2_reaches cX2_reaches 5 (some .boolean) :: ([.fieldLink RX2 37 "MeteredSheetsModel" "stands" "[I", .methodLink RX2 66 yX2_one, .instanceMethod yX2_one, .selects RX2 yX2_one yX2_one, .initialized RX2, .code yX2_one cX2_one 2 (some .int), .fieldLink RX2 7 "MeteredSheetsModel" "kinds" "[I", .fieldLink RX2 13 "MeteredSheetsModel" "ones" "[I", .methodLink RX2 70 yX2_other, .instanceMethod yX2_other, .selects RX2 yX2_other yX2_other, .code yX2_other cX2_other 3 (some .int), .fieldLink RX2 16 "MeteredSheetsModel" "others" "[I"] ++ wsX20)
def wsX2_change_r1 : List Cond := [Cond.fieldLink RX2 7 "MeteredSheetsModel" "kinds" "[I", Cond.fieldLink RX2 13 "MeteredSheetsModel" "ones" "[I", Cond.fieldLink RX2 16 "MeteredSheetsModel" "others" "[I", Cond.fieldLink RX2 19 "MeteredSheetsModel" "numbers" "[I", Cond.fieldLink RX2 28 "MeteredSheetsModel" "changed" "[I", Cond.methodLink RX2 104 yX2_compute, Cond.instanceMethod yX2_compute, Cond.selects RX2 yX2_compute yX2_compute, Cond.initialized RX2, Cond.code yX2_compute cX2_compute 5 none, Cond.fieldLink RX2 43 "MeteredSheetsModel" "budgets" "[I", Cond.fieldLink RX2 25 "MeteredSheetsModel" "marks" "[I", Cond.fieldLink RX2 22 "MeteredSheetsModel" "values" "[I", Cond.methodLink RX2 66 yX2_one, Cond.instanceMethod yX2_one, Cond.selects RX2 yX2_one yX2_one, Cond.code yX2_one cX2_one 2 (some .int), Cond.methodLink RX2 85 yX2_priceOf, Cond.instanceMethod yX2_priceOf, Cond.selects RX2 yX2_priceOf yX2_priceOf, Cond.code yX2_priceOf cX2_priceOf 3 (some .int), Cond.fieldLink RX2 40 "MeteredSheetsModel" "prices" "[I", Cond.methodLink RX2 78 yX2_isMetered, Cond.static yX2_isMetered]
def wsX2_change_r2 : List Cond := [Cond.code yX2_isMetered cX2_isMetered 2 (some .boolean), Cond.methodLink RX2 70 yX2_other, Cond.instanceMethod yX2_other, Cond.selects RX2 yX2_other yX2_other, Cond.code yX2_other cX2_other 3 (some .int), Cond.methodLink RX2 89 yX2_pay, Cond.instanceMethod yX2_pay, Cond.selects RX2 yX2_pay yX2_pay, Cond.code yX2_pay cX2_pay 5 none, Cond.fieldLink RX2 46 "MeteredSheetsModel" "earnings" "[I", Cond.fieldLink RX2 49 "MeteredSheetsModel" "costs" "[I", Cond.fieldLink RX2 55 "MeteredSheetsModel" "times" "[I", Cond.fieldLink RX2 82 "MeteredSheetsModel" "many" "I", Cond.fieldLink RX2 52 "MeteredSheetsModel" "kept" "[I", Cond.methodLink RX2 93 yX2_comesTo, Cond.instanceMethod yX2_comesTo, Cond.selects RX2 yX2_comesTo yX2_comesTo, Cond.code yX2_comesTo cX2_comesTo 5 (some .int), Cond.methodLink RX2 75 yX2_held, Cond.static yX2_held, Cond.code yX2_held cX2_held 1 (some .int), Cond.constant RX2 73 (1000000), Cond.constant RX2 74 (-1000000), Cond.methodLink RX2 108 yX2_goThrough]
def wsX2_change_r3 : List Cond := [Cond.instanceMethod yX2_goThrough, Cond.selects RX2 yX2_goThrough yX2_goThrough, Cond.code yX2_goThrough cX2_goThrough 6 (some .int), Cond.fieldLink RX2 34 "MeteredSheetsModel" "order" "[I", Cond.methodLink RX2 97 yX2_layOrder, Cond.instanceMethod yX2_layOrder, Cond.selects RX2 yX2_layOrder yX2_layOrder, Cond.code yX2_layOrder cX2_layOrder 6 none, Cond.fieldLink RX2 37 "MeteredSheetsModel" "stands" "[I", Cond.methodLink RX2 100 yX2_readsChanged, Cond.instanceMethod yX2_readsChanged, Cond.selects RX2 yX2_readsChanged yX2_readsChanged, Cond.code yX2_readsChanged cX2_readsChanged 2 (some .boolean)]
def wsX2_change : List Cond := .code yX2_change cX2_change 8 (some .int) :: ((wsX2_change_r1 ++ (wsX2_change_r2 ++ wsX2_change_r3)) ++ wsX20)
def wsX2_isCaller : List Cond := .code yX2_isCaller cX2_isCaller 2 (some .boolean) :: ([.methodLink RX2 62 yX2_in, .static yX2_in, .initialized RX2, .code yX2_in cX2_in 3 (some .boolean), .methodLink RX2 112 yX2_isCell, .static yX2_isCell, .code yX2_isCell cX2_isCell 1 (some .boolean)])
def wsX2_setNumber_r1 : List Cond := [Cond.fieldLink RX2 58 "MeteredSheetsModel" "thrown" "I", Cond.constant RX2 74 (-1000000), Cond.constant RX2 73 (1000000), Cond.methodLink RX2 115 yX2_isCaller, Cond.static yX2_isCaller, Cond.initialized RX2, Cond.code yX2_isCaller cX2_isCaller 2 (some .boolean), Cond.methodLink RX2 62 yX2_in, Cond.static yX2_in, Cond.code yX2_in cX2_in 3 (some .boolean), Cond.methodLink RX2 112 yX2_isCell, Cond.static yX2_isCell, Cond.code yX2_isCell cX2_isCell 1 (some .boolean), Cond.methodLink RX2 118 yX2_fails, Cond.instanceMethod yX2_fails, Cond.selects RX2 yX2_fails yX2_fails, Cond.code yX2_fails cX2_fails 2 (some .int), Cond.methodLink RX2 121 yX2_change, Cond.instanceMethod yX2_change, Cond.selects RX2 yX2_change yX2_change, Cond.code yX2_change cX2_change 8 (some .int), Cond.fieldLink RX2 7 "MeteredSheetsModel" "kinds" "[I", Cond.fieldLink RX2 13 "MeteredSheetsModel" "ones" "[I", Cond.fieldLink RX2 16 "MeteredSheetsModel" "others" "[I"]
def wsX2_setNumber_r2 : List Cond := [Cond.fieldLink RX2 19 "MeteredSheetsModel" "numbers" "[I", Cond.fieldLink RX2 28 "MeteredSheetsModel" "changed" "[I", Cond.methodLink RX2 104 yX2_compute, Cond.instanceMethod yX2_compute, Cond.selects RX2 yX2_compute yX2_compute, Cond.code yX2_compute cX2_compute 5 none, Cond.fieldLink RX2 43 "MeteredSheetsModel" "budgets" "[I", Cond.fieldLink RX2 25 "MeteredSheetsModel" "marks" "[I", Cond.fieldLink RX2 22 "MeteredSheetsModel" "values" "[I", Cond.methodLink RX2 66 yX2_one, Cond.instanceMethod yX2_one, Cond.selects RX2 yX2_one yX2_one, Cond.code yX2_one cX2_one 2 (some .int), Cond.methodLink RX2 85 yX2_priceOf, Cond.instanceMethod yX2_priceOf, Cond.selects RX2 yX2_priceOf yX2_priceOf, Cond.code yX2_priceOf cX2_priceOf 3 (some .int), Cond.fieldLink RX2 40 "MeteredSheetsModel" "prices" "[I", Cond.methodLink RX2 78 yX2_isMetered, Cond.static yX2_isMetered, Cond.code yX2_isMetered cX2_isMetered 2 (some .boolean), Cond.methodLink RX2 70 yX2_other, Cond.instanceMethod yX2_other, Cond.selects RX2 yX2_other yX2_other]
def wsX2_setNumber_r3 : List Cond := [Cond.code yX2_other cX2_other 3 (some .int), Cond.methodLink RX2 89 yX2_pay, Cond.instanceMethod yX2_pay, Cond.selects RX2 yX2_pay yX2_pay, Cond.code yX2_pay cX2_pay 5 none, Cond.fieldLink RX2 46 "MeteredSheetsModel" "earnings" "[I", Cond.fieldLink RX2 49 "MeteredSheetsModel" "costs" "[I", Cond.fieldLink RX2 55 "MeteredSheetsModel" "times" "[I", Cond.fieldLink RX2 82 "MeteredSheetsModel" "many" "I", Cond.fieldLink RX2 52 "MeteredSheetsModel" "kept" "[I", Cond.methodLink RX2 93 yX2_comesTo, Cond.instanceMethod yX2_comesTo, Cond.selects RX2 yX2_comesTo yX2_comesTo, Cond.code yX2_comesTo cX2_comesTo 5 (some .int), Cond.methodLink RX2 75 yX2_held, Cond.static yX2_held, Cond.code yX2_held cX2_held 1 (some .int), Cond.methodLink RX2 108 yX2_goThrough, Cond.instanceMethod yX2_goThrough, Cond.selects RX2 yX2_goThrough yX2_goThrough, Cond.code yX2_goThrough cX2_goThrough 6 (some .int), Cond.fieldLink RX2 34 "MeteredSheetsModel" "order" "[I", Cond.methodLink RX2 97 yX2_layOrder, Cond.instanceMethod yX2_layOrder]
def wsX2_setNumber_r4 : List Cond := [Cond.selects RX2 yX2_layOrder yX2_layOrder, Cond.code yX2_layOrder cX2_layOrder 6 none, Cond.fieldLink RX2 37 "MeteredSheetsModel" "stands" "[I", Cond.methodLink RX2 100 yX2_readsChanged, Cond.instanceMethod yX2_readsChanged, Cond.selects RX2 yX2_readsChanged yX2_readsChanged, Cond.code yX2_readsChanged cX2_readsChanged 2 (some .boolean)]
def wsX2_setNumber : List Cond := .code yX2_setNumber cX2_setNumber 4 (some .int) :: ((wsX2_setNumber_r1 ++ (wsX2_setNumber_r2 ++ (wsX2_setNumber_r3 ++ wsX2_setNumber_r4))) ++ wsX20)
def wsX2_setSum_r1 : List Cond := [Cond.fieldLink RX2 58 "MeteredSheetsModel" "thrown" "I", Cond.methodLink RX2 115 yX2_isCaller, Cond.static yX2_isCaller, Cond.initialized RX2, Cond.code yX2_isCaller cX2_isCaller 2 (some .boolean), Cond.methodLink RX2 62 yX2_in, Cond.static yX2_in, Cond.code yX2_in cX2_in 3 (some .boolean), Cond.methodLink RX2 112 yX2_isCell, Cond.static yX2_isCell, Cond.code yX2_isCell cX2_isCell 1 (some .boolean), Cond.methodLink RX2 118 yX2_fails, Cond.instanceMethod yX2_fails, Cond.selects RX2 yX2_fails yX2_fails, Cond.code yX2_fails cX2_fails 2 (some .int), Cond.methodLink RX2 125 yX2_reaches, Cond.instanceMethod yX2_reaches, Cond.selects RX2 yX2_reaches yX2_reaches, Cond.code yX2_reaches cX2_reaches 5 (some .boolean), Cond.fieldLink RX2 37 "MeteredSheetsModel" "stands" "[I", Cond.methodLink RX2 66 yX2_one, Cond.instanceMethod yX2_one, Cond.selects RX2 yX2_one yX2_one, Cond.code yX2_one cX2_one 2 (some .int)]
def wsX2_setSum_r2 : List Cond := [Cond.fieldLink RX2 7 "MeteredSheetsModel" "kinds" "[I", Cond.fieldLink RX2 13 "MeteredSheetsModel" "ones" "[I", Cond.methodLink RX2 70 yX2_other, Cond.instanceMethod yX2_other, Cond.selects RX2 yX2_other yX2_other, Cond.code yX2_other cX2_other 3 (some .int), Cond.fieldLink RX2 16 "MeteredSheetsModel" "others" "[I", Cond.methodLink RX2 121 yX2_change, Cond.instanceMethod yX2_change, Cond.selects RX2 yX2_change yX2_change, Cond.code yX2_change cX2_change 8 (some .int), Cond.fieldLink RX2 19 "MeteredSheetsModel" "numbers" "[I", Cond.fieldLink RX2 28 "MeteredSheetsModel" "changed" "[I", Cond.methodLink RX2 104 yX2_compute, Cond.instanceMethod yX2_compute, Cond.selects RX2 yX2_compute yX2_compute, Cond.code yX2_compute cX2_compute 5 none, Cond.fieldLink RX2 43 "MeteredSheetsModel" "budgets" "[I", Cond.fieldLink RX2 25 "MeteredSheetsModel" "marks" "[I", Cond.fieldLink RX2 22 "MeteredSheetsModel" "values" "[I", Cond.methodLink RX2 85 yX2_priceOf, Cond.instanceMethod yX2_priceOf, Cond.selects RX2 yX2_priceOf yX2_priceOf, Cond.code yX2_priceOf cX2_priceOf 3 (some .int)]
def wsX2_setSum_r3 : List Cond := [Cond.fieldLink RX2 40 "MeteredSheetsModel" "prices" "[I", Cond.methodLink RX2 78 yX2_isMetered, Cond.static yX2_isMetered, Cond.code yX2_isMetered cX2_isMetered 2 (some .boolean), Cond.methodLink RX2 89 yX2_pay, Cond.instanceMethod yX2_pay, Cond.selects RX2 yX2_pay yX2_pay, Cond.code yX2_pay cX2_pay 5 none, Cond.fieldLink RX2 46 "MeteredSheetsModel" "earnings" "[I", Cond.fieldLink RX2 49 "MeteredSheetsModel" "costs" "[I", Cond.fieldLink RX2 55 "MeteredSheetsModel" "times" "[I", Cond.fieldLink RX2 82 "MeteredSheetsModel" "many" "I", Cond.fieldLink RX2 52 "MeteredSheetsModel" "kept" "[I", Cond.methodLink RX2 93 yX2_comesTo, Cond.instanceMethod yX2_comesTo, Cond.selects RX2 yX2_comesTo yX2_comesTo, Cond.code yX2_comesTo cX2_comesTo 5 (some .int), Cond.methodLink RX2 75 yX2_held, Cond.static yX2_held, Cond.code yX2_held cX2_held 1 (some .int), Cond.constant RX2 73 (1000000), Cond.constant RX2 74 (-1000000), Cond.methodLink RX2 108 yX2_goThrough, Cond.instanceMethod yX2_goThrough]
def wsX2_setSum_r4 : List Cond := [Cond.selects RX2 yX2_goThrough yX2_goThrough, Cond.code yX2_goThrough cX2_goThrough 6 (some .int), Cond.fieldLink RX2 34 "MeteredSheetsModel" "order" "[I", Cond.methodLink RX2 97 yX2_layOrder, Cond.instanceMethod yX2_layOrder, Cond.selects RX2 yX2_layOrder yX2_layOrder, Cond.code yX2_layOrder cX2_layOrder 6 none, Cond.methodLink RX2 100 yX2_readsChanged, Cond.instanceMethod yX2_readsChanged, Cond.selects RX2 yX2_readsChanged yX2_readsChanged, Cond.code yX2_readsChanged cX2_readsChanged 2 (some .boolean)]
def wsX2_setSum : List Cond := .code yX2_setSum cX2_setSum 6 (some .int) :: ((wsX2_setSum_r1 ++ (wsX2_setSum_r2 ++ (wsX2_setSum_r3 ++ wsX2_setSum_r4))) ++ wsX20)
def wsX2_setGreater_r1 : List Cond := [Cond.fieldLink RX2 58 "MeteredSheetsModel" "thrown" "I", Cond.methodLink RX2 115 yX2_isCaller, Cond.static yX2_isCaller, Cond.initialized RX2, Cond.code yX2_isCaller cX2_isCaller 2 (some .boolean), Cond.methodLink RX2 62 yX2_in, Cond.static yX2_in, Cond.code yX2_in cX2_in 3 (some .boolean), Cond.methodLink RX2 112 yX2_isCell, Cond.static yX2_isCell, Cond.code yX2_isCell cX2_isCell 1 (some .boolean), Cond.methodLink RX2 118 yX2_fails, Cond.instanceMethod yX2_fails, Cond.selects RX2 yX2_fails yX2_fails, Cond.code yX2_fails cX2_fails 2 (some .int), Cond.methodLink RX2 125 yX2_reaches, Cond.instanceMethod yX2_reaches, Cond.selects RX2 yX2_reaches yX2_reaches, Cond.code yX2_reaches cX2_reaches 5 (some .boolean), Cond.fieldLink RX2 37 "MeteredSheetsModel" "stands" "[I", Cond.methodLink RX2 66 yX2_one, Cond.instanceMethod yX2_one, Cond.selects RX2 yX2_one yX2_one, Cond.code yX2_one cX2_one 2 (some .int)]
def wsX2_setGreater_r2 : List Cond := [Cond.fieldLink RX2 7 "MeteredSheetsModel" "kinds" "[I", Cond.fieldLink RX2 13 "MeteredSheetsModel" "ones" "[I", Cond.methodLink RX2 70 yX2_other, Cond.instanceMethod yX2_other, Cond.selects RX2 yX2_other yX2_other, Cond.code yX2_other cX2_other 3 (some .int), Cond.fieldLink RX2 16 "MeteredSheetsModel" "others" "[I", Cond.methodLink RX2 121 yX2_change, Cond.instanceMethod yX2_change, Cond.selects RX2 yX2_change yX2_change, Cond.code yX2_change cX2_change 8 (some .int), Cond.fieldLink RX2 19 "MeteredSheetsModel" "numbers" "[I", Cond.fieldLink RX2 28 "MeteredSheetsModel" "changed" "[I", Cond.methodLink RX2 104 yX2_compute, Cond.instanceMethod yX2_compute, Cond.selects RX2 yX2_compute yX2_compute, Cond.code yX2_compute cX2_compute 5 none, Cond.fieldLink RX2 43 "MeteredSheetsModel" "budgets" "[I", Cond.fieldLink RX2 25 "MeteredSheetsModel" "marks" "[I", Cond.fieldLink RX2 22 "MeteredSheetsModel" "values" "[I", Cond.methodLink RX2 85 yX2_priceOf, Cond.instanceMethod yX2_priceOf, Cond.selects RX2 yX2_priceOf yX2_priceOf, Cond.code yX2_priceOf cX2_priceOf 3 (some .int)]
def wsX2_setGreater_r3 : List Cond := [Cond.fieldLink RX2 40 "MeteredSheetsModel" "prices" "[I", Cond.methodLink RX2 78 yX2_isMetered, Cond.static yX2_isMetered, Cond.code yX2_isMetered cX2_isMetered 2 (some .boolean), Cond.methodLink RX2 89 yX2_pay, Cond.instanceMethod yX2_pay, Cond.selects RX2 yX2_pay yX2_pay, Cond.code yX2_pay cX2_pay 5 none, Cond.fieldLink RX2 46 "MeteredSheetsModel" "earnings" "[I", Cond.fieldLink RX2 49 "MeteredSheetsModel" "costs" "[I", Cond.fieldLink RX2 55 "MeteredSheetsModel" "times" "[I", Cond.fieldLink RX2 82 "MeteredSheetsModel" "many" "I", Cond.fieldLink RX2 52 "MeteredSheetsModel" "kept" "[I", Cond.methodLink RX2 93 yX2_comesTo, Cond.instanceMethod yX2_comesTo, Cond.selects RX2 yX2_comesTo yX2_comesTo, Cond.code yX2_comesTo cX2_comesTo 5 (some .int), Cond.methodLink RX2 75 yX2_held, Cond.static yX2_held, Cond.code yX2_held cX2_held 1 (some .int), Cond.constant RX2 73 (1000000), Cond.constant RX2 74 (-1000000), Cond.methodLink RX2 108 yX2_goThrough, Cond.instanceMethod yX2_goThrough]
def wsX2_setGreater_r4 : List Cond := [Cond.selects RX2 yX2_goThrough yX2_goThrough, Cond.code yX2_goThrough cX2_goThrough 6 (some .int), Cond.fieldLink RX2 34 "MeteredSheetsModel" "order" "[I", Cond.methodLink RX2 97 yX2_layOrder, Cond.instanceMethod yX2_layOrder, Cond.selects RX2 yX2_layOrder yX2_layOrder, Cond.code yX2_layOrder cX2_layOrder 6 none, Cond.methodLink RX2 100 yX2_readsChanged, Cond.instanceMethod yX2_readsChanged, Cond.selects RX2 yX2_readsChanged yX2_readsChanged, Cond.code yX2_readsChanged cX2_readsChanged 2 (some .boolean)]
def wsX2_setGreater : List Cond := .code yX2_setGreater cX2_setGreater 5 (some .int) :: ((wsX2_setGreater_r1 ++ (wsX2_setGreater_r2 ++ (wsX2_setGreater_r3 ++ wsX2_setGreater_r4))) ++ wsX20)
def wsX2_setTimes_r1 : List Cond := [Cond.fieldLink RX2 58 "MeteredSheetsModel" "thrown" "I", Cond.methodLink RX2 115 yX2_isCaller, Cond.static yX2_isCaller, Cond.initialized RX2, Cond.code yX2_isCaller cX2_isCaller 2 (some .boolean), Cond.methodLink RX2 62 yX2_in, Cond.static yX2_in, Cond.code yX2_in cX2_in 3 (some .boolean), Cond.methodLink RX2 112 yX2_isCell, Cond.static yX2_isCell, Cond.code yX2_isCell cX2_isCell 1 (some .boolean), Cond.methodLink RX2 118 yX2_fails, Cond.instanceMethod yX2_fails, Cond.selects RX2 yX2_fails yX2_fails, Cond.code yX2_fails cX2_fails 2 (some .int), Cond.methodLink RX2 125 yX2_reaches, Cond.instanceMethod yX2_reaches, Cond.selects RX2 yX2_reaches yX2_reaches, Cond.code yX2_reaches cX2_reaches 5 (some .boolean), Cond.fieldLink RX2 37 "MeteredSheetsModel" "stands" "[I", Cond.methodLink RX2 66 yX2_one, Cond.instanceMethod yX2_one, Cond.selects RX2 yX2_one yX2_one, Cond.code yX2_one cX2_one 2 (some .int)]
def wsX2_setTimes_r2 : List Cond := [Cond.fieldLink RX2 7 "MeteredSheetsModel" "kinds" "[I", Cond.fieldLink RX2 13 "MeteredSheetsModel" "ones" "[I", Cond.methodLink RX2 70 yX2_other, Cond.instanceMethod yX2_other, Cond.selects RX2 yX2_other yX2_other, Cond.code yX2_other cX2_other 3 (some .int), Cond.fieldLink RX2 16 "MeteredSheetsModel" "others" "[I", Cond.methodLink RX2 121 yX2_change, Cond.instanceMethod yX2_change, Cond.selects RX2 yX2_change yX2_change, Cond.code yX2_change cX2_change 8 (some .int), Cond.fieldLink RX2 19 "MeteredSheetsModel" "numbers" "[I", Cond.fieldLink RX2 28 "MeteredSheetsModel" "changed" "[I", Cond.methodLink RX2 104 yX2_compute, Cond.instanceMethod yX2_compute, Cond.selects RX2 yX2_compute yX2_compute, Cond.code yX2_compute cX2_compute 5 none, Cond.fieldLink RX2 43 "MeteredSheetsModel" "budgets" "[I", Cond.fieldLink RX2 25 "MeteredSheetsModel" "marks" "[I", Cond.fieldLink RX2 22 "MeteredSheetsModel" "values" "[I", Cond.methodLink RX2 85 yX2_priceOf, Cond.instanceMethod yX2_priceOf, Cond.selects RX2 yX2_priceOf yX2_priceOf, Cond.code yX2_priceOf cX2_priceOf 3 (some .int)]
def wsX2_setTimes_r3 : List Cond := [Cond.fieldLink RX2 40 "MeteredSheetsModel" "prices" "[I", Cond.methodLink RX2 78 yX2_isMetered, Cond.static yX2_isMetered, Cond.code yX2_isMetered cX2_isMetered 2 (some .boolean), Cond.methodLink RX2 89 yX2_pay, Cond.instanceMethod yX2_pay, Cond.selects RX2 yX2_pay yX2_pay, Cond.code yX2_pay cX2_pay 5 none, Cond.fieldLink RX2 46 "MeteredSheetsModel" "earnings" "[I", Cond.fieldLink RX2 49 "MeteredSheetsModel" "costs" "[I", Cond.fieldLink RX2 55 "MeteredSheetsModel" "times" "[I", Cond.fieldLink RX2 82 "MeteredSheetsModel" "many" "I", Cond.fieldLink RX2 52 "MeteredSheetsModel" "kept" "[I", Cond.methodLink RX2 93 yX2_comesTo, Cond.instanceMethod yX2_comesTo, Cond.selects RX2 yX2_comesTo yX2_comesTo, Cond.code yX2_comesTo cX2_comesTo 5 (some .int), Cond.methodLink RX2 75 yX2_held, Cond.static yX2_held, Cond.code yX2_held cX2_held 1 (some .int), Cond.constant RX2 73 (1000000), Cond.constant RX2 74 (-1000000), Cond.methodLink RX2 108 yX2_goThrough, Cond.instanceMethod yX2_goThrough]
def wsX2_setTimes_r4 : List Cond := [Cond.selects RX2 yX2_goThrough yX2_goThrough, Cond.code yX2_goThrough cX2_goThrough 6 (some .int), Cond.fieldLink RX2 34 "MeteredSheetsModel" "order" "[I", Cond.methodLink RX2 97 yX2_layOrder, Cond.instanceMethod yX2_layOrder, Cond.selects RX2 yX2_layOrder yX2_layOrder, Cond.code yX2_layOrder cX2_layOrder 6 none, Cond.methodLink RX2 100 yX2_readsChanged, Cond.instanceMethod yX2_readsChanged, Cond.selects RX2 yX2_readsChanged yX2_readsChanged, Cond.code yX2_readsChanged cX2_readsChanged 2 (some .boolean)]
def wsX2_setTimes : List Cond := .code yX2_setTimes cX2_setTimes 5 (some .int) :: ((wsX2_setTimes_r1 ++ (wsX2_setTimes_r2 ++ (wsX2_setTimes_r3 ++ wsX2_setTimes_r4))) ++ wsX20)
def wsX2_refresh_r1 : List Cond := [Cond.fieldLink RX2 58 "MeteredSheetsModel" "thrown" "I", Cond.fieldLink RX2 28 "MeteredSheetsModel" "changed" "[I", Cond.methodLink RX2 62 yX2_in, Cond.static yX2_in, Cond.initialized RX2, Cond.code yX2_in cX2_in 3 (some .boolean), Cond.methodLink RX2 118 yX2_fails, Cond.instanceMethod yX2_fails, Cond.selects RX2 yX2_fails yX2_fails, Cond.code yX2_fails cX2_fails 2 (some .int), Cond.methodLink RX2 108 yX2_goThrough, Cond.instanceMethod yX2_goThrough, Cond.selects RX2 yX2_goThrough yX2_goThrough, Cond.code yX2_goThrough cX2_goThrough 6 (some .int), Cond.fieldLink RX2 34 "MeteredSheetsModel" "order" "[I", Cond.fieldLink RX2 25 "MeteredSheetsModel" "marks" "[I", Cond.methodLink RX2 97 yX2_layOrder, Cond.instanceMethod yX2_layOrder, Cond.selects RX2 yX2_layOrder yX2_layOrder, Cond.code yX2_layOrder cX2_layOrder 6 none, Cond.fieldLink RX2 37 "MeteredSheetsModel" "stands" "[I", Cond.methodLink RX2 66 yX2_one, Cond.instanceMethod yX2_one, Cond.selects RX2 yX2_one yX2_one]
def wsX2_refresh_r2 : List Cond := [Cond.code yX2_one cX2_one 2 (some .int), Cond.fieldLink RX2 7 "MeteredSheetsModel" "kinds" "[I", Cond.fieldLink RX2 13 "MeteredSheetsModel" "ones" "[I", Cond.methodLink RX2 70 yX2_other, Cond.instanceMethod yX2_other, Cond.selects RX2 yX2_other yX2_other, Cond.code yX2_other cX2_other 3 (some .int), Cond.fieldLink RX2 16 "MeteredSheetsModel" "others" "[I", Cond.methodLink RX2 100 yX2_readsChanged, Cond.instanceMethod yX2_readsChanged, Cond.selects RX2 yX2_readsChanged yX2_readsChanged, Cond.code yX2_readsChanged cX2_readsChanged 2 (some .boolean), Cond.methodLink RX2 104 yX2_compute, Cond.instanceMethod yX2_compute, Cond.selects RX2 yX2_compute yX2_compute, Cond.code yX2_compute cX2_compute 5 none, Cond.fieldLink RX2 43 "MeteredSheetsModel" "budgets" "[I", Cond.fieldLink RX2 22 "MeteredSheetsModel" "values" "[I", Cond.methodLink RX2 85 yX2_priceOf, Cond.instanceMethod yX2_priceOf, Cond.selects RX2 yX2_priceOf yX2_priceOf, Cond.code yX2_priceOf cX2_priceOf 3 (some .int), Cond.fieldLink RX2 40 "MeteredSheetsModel" "prices" "[I", Cond.methodLink RX2 78 yX2_isMetered]
def wsX2_refresh_r3 : List Cond := [Cond.static yX2_isMetered, Cond.code yX2_isMetered cX2_isMetered 2 (some .boolean), Cond.methodLink RX2 89 yX2_pay, Cond.instanceMethod yX2_pay, Cond.selects RX2 yX2_pay yX2_pay, Cond.code yX2_pay cX2_pay 5 none, Cond.fieldLink RX2 46 "MeteredSheetsModel" "earnings" "[I", Cond.fieldLink RX2 49 "MeteredSheetsModel" "costs" "[I", Cond.fieldLink RX2 55 "MeteredSheetsModel" "times" "[I", Cond.fieldLink RX2 82 "MeteredSheetsModel" "many" "I", Cond.fieldLink RX2 52 "MeteredSheetsModel" "kept" "[I", Cond.methodLink RX2 93 yX2_comesTo, Cond.instanceMethod yX2_comesTo, Cond.selects RX2 yX2_comesTo yX2_comesTo, Cond.code yX2_comesTo cX2_comesTo 5 (some .int), Cond.fieldLink RX2 19 "MeteredSheetsModel" "numbers" "[I", Cond.methodLink RX2 75 yX2_held, Cond.static yX2_held, Cond.code yX2_held cX2_held 1 (some .int), Cond.constant RX2 73 (1000000), Cond.constant RX2 74 (-1000000)]
def wsX2_refresh : List Cond := .code yX2_refresh cX2_refresh 3 (some .int) :: ((wsX2_refresh_r1 ++ (wsX2_refresh_r2 ++ wsX2_refresh_r3)) ++ wsX20)
def wsX2_setPrice : List Cond := .code yX2_setPrice cX2_setPrice 4 (some .int) :: ([.fieldLink RX2 58 "MeteredSheetsModel" "thrown" "I", .fieldLink RX2 40 "MeteredSheetsModel" "prices" "[I", .methodLink RX2 128 yX2_isSheet, .static yX2_isSheet, .initialized RX2, .code yX2_isSheet cX2_isSheet 1 (some .boolean), .methodLink RX2 62 yX2_in, .static yX2_in, .code yX2_in cX2_in 3 (some .boolean), .methodLink RX2 118 yX2_fails, .instanceMethod yX2_fails, .selects RX2 yX2_fails yX2_fails, .code yX2_fails cX2_fails 2 (some .int)] ++ wsX20)
def wsX2_grant : List Cond := .code yX2_grant cX2_grant 3 (some .int) :: ([.fieldLink RX2 58 "MeteredSheetsModel" "thrown" "I", .fieldLink RX2 43 "MeteredSheetsModel" "budgets" "[I", .methodLink RX2 128 yX2_isSheet, .static yX2_isSheet, .initialized RX2, .code yX2_isSheet cX2_isSheet 1 (some .boolean), .methodLink RX2 62 yX2_in, .static yX2_in, .code yX2_in cX2_in 3 (some .boolean), .methodLink RX2 118 yX2_fails, .instanceMethod yX2_fails, .selects RX2 yX2_fails yX2_fails, .code yX2_fails cX2_fails 2 (some .int)] ++ wsX20)
def wsX2_budget : List Cond := .code yX2_budget cX2_budget 2 (some .int) :: ([.fieldLink RX2 58 "MeteredSheetsModel" "thrown" "I", .fieldLink RX2 43 "MeteredSheetsModel" "budgets" "[I", .methodLink RX2 128 yX2_isSheet, .static yX2_isSheet, .initialized RX2, .code yX2_isSheet cX2_isSheet 1 (some .boolean), .methodLink RX2 62 yX2_in, .static yX2_in, .code yX2_in cX2_in 3 (some .boolean), .methodLink RX2 118 yX2_fails, .instanceMethod yX2_fails, .selects RX2 yX2_fails yX2_fails, .code yX2_fails cX2_fails 2 (some .int)] ++ wsX20)
def wsX2_earned : List Cond := .code yX2_earned cX2_earned 2 (some .int) :: ([.fieldLink RX2 58 "MeteredSheetsModel" "thrown" "I", .fieldLink RX2 46 "MeteredSheetsModel" "earnings" "[I", .methodLink RX2 128 yX2_isSheet, .static yX2_isSheet, .initialized RX2, .code yX2_isSheet cX2_isSheet 1 (some .boolean), .methodLink RX2 62 yX2_in, .static yX2_in, .code yX2_in cX2_in 3 (some .boolean), .methodLink RX2 118 yX2_fails, .instanceMethod yX2_fails, .selects RX2 yX2_fails yX2_fails, .code yX2_fails cX2_fails 2 (some .int)] ++ wsX20)
def wsX2_caused : List Cond := .code yX2_caused cX2_caused 2 (some .int) :: ([.fieldLink RX2 58 "MeteredSheetsModel" "thrown" "I", .fieldLink RX2 49 "MeteredSheetsModel" "costs" "[I", .methodLink RX2 62 yX2_in, .static yX2_in, .initialized RX2, .code yX2_in cX2_in 3 (some .boolean), .methodLink RX2 118 yX2_fails, .instanceMethod yX2_fails, .selects RX2 yX2_fails yX2_fails, .code yX2_fails cX2_fails 2 (some .int)] ++ wsX20)
def wsX2_value : List Cond := .code yX2_value cX2_value 2 (some .int) :: ([.fieldLink RX2 58 "MeteredSheetsModel" "thrown" "I", .fieldLink RX2 22 "MeteredSheetsModel" "values" "[I", .methodLink RX2 112 yX2_isCell, .static yX2_isCell, .initialized RX2, .code yX2_isCell cX2_isCell 1 (some .boolean), .methodLink RX2 62 yX2_in, .static yX2_in, .code yX2_in cX2_in 3 (some .boolean), .methodLink RX2 118 yX2_fails, .instanceMethod yX2_fails, .selects RX2 yX2_fails yX2_fails, .code yX2_fails cX2_fails 2 (some .int)] ++ wsX20)
def wsX2_isMarked : List Cond := .code yX2_isMarked cX2_isMarked 2 (some .boolean) :: ([.fieldLink RX2 58 "MeteredSheetsModel" "thrown" "I", .fieldLink RX2 25 "MeteredSheetsModel" "marks" "[I", .methodLink RX2 112 yX2_isCell, .static yX2_isCell, .initialized RX2, .code yX2_isCell cX2_isCell 1 (some .boolean), .methodLink RX2 62 yX2_in, .static yX2_in, .code yX2_in cX2_in 3 (some .boolean), .methodLink RX2 118 yX2_fails, .instanceMethod yX2_fails, .selects RX2 yX2_fails yX2_fails, .code yX2_fails cX2_fails 2 (some .int)] ++ wsX20)
def wsX2_valueAnew_r1 : List Cond := [Cond.fieldLink RX2 58 "MeteredSheetsModel" "thrown" "I", Cond.fieldLink RX2 31 "MeteredSheetsModel" "anew" "[I", Cond.fieldLink RX2 34 "MeteredSheetsModel" "order" "[I", Cond.methodLink RX2 112 yX2_isCell, Cond.static yX2_isCell, Cond.initialized RX2, Cond.code yX2_isCell cX2_isCell 1 (some .boolean), Cond.methodLink RX2 62 yX2_in, Cond.static yX2_in, Cond.code yX2_in cX2_in 3 (some .boolean), Cond.methodLink RX2 118 yX2_fails, Cond.instanceMethod yX2_fails, Cond.selects RX2 yX2_fails yX2_fails, Cond.code yX2_fails cX2_fails 2 (some .int), Cond.methodLink RX2 97 yX2_layOrder, Cond.instanceMethod yX2_layOrder, Cond.selects RX2 yX2_layOrder yX2_layOrder, Cond.code yX2_layOrder cX2_layOrder 6 none, Cond.fieldLink RX2 37 "MeteredSheetsModel" "stands" "[I", Cond.methodLink RX2 66 yX2_one, Cond.instanceMethod yX2_one, Cond.selects RX2 yX2_one yX2_one, Cond.code yX2_one cX2_one 2 (some .int), Cond.fieldLink RX2 7 "MeteredSheetsModel" "kinds" "[I"]
def wsX2_valueAnew_r2 : List Cond := [Cond.fieldLink RX2 13 "MeteredSheetsModel" "ones" "[I", Cond.methodLink RX2 70 yX2_other, Cond.instanceMethod yX2_other, Cond.selects RX2 yX2_other yX2_other, Cond.code yX2_other cX2_other 3 (some .int), Cond.fieldLink RX2 16 "MeteredSheetsModel" "others" "[I", Cond.methodLink RX2 93 yX2_comesTo, Cond.instanceMethod yX2_comesTo, Cond.selects RX2 yX2_comesTo yX2_comesTo, Cond.code yX2_comesTo cX2_comesTo 5 (some .int), Cond.fieldLink RX2 19 "MeteredSheetsModel" "numbers" "[I", Cond.methodLink RX2 75 yX2_held, Cond.static yX2_held, Cond.code yX2_held cX2_held 1 (some .int), Cond.constant RX2 73 (1000000), Cond.constant RX2 74 (-1000000)]
def wsX2_valueAnew : List Cond := .code yX2_valueAnew cX2_valueAnew 3 (some .int) :: ((wsX2_valueAnew_r1 ++ wsX2_valueAnew_r2) ++ wsX20)
def wsX2_readings : List Cond := .code yX2_readings cX2_readings 1 (some .int) :: ([.fieldLink RX2 58 "MeteredSheetsModel" "thrown" "I", .fieldLink RX2 82 "MeteredSheetsModel" "many" "I"] ++ wsX20)
def wsX2_reading : List Cond := .code yX2_reading cX2_reading 2 (some .int) :: ([.fieldLink RX2 58 "MeteredSheetsModel" "thrown" "I", .fieldLink RX2 82 "MeteredSheetsModel" "many" "I", .fieldLink RX2 52 "MeteredSheetsModel" "kept" "[I", .methodLink RX2 62 yX2_in, .static yX2_in, .initialized RX2, .code yX2_in cX2_in 3 (some .boolean), .methodLink RX2 118 yX2_fails, .instanceMethod yX2_fails, .selects RX2 yX2_fails yX2_fails, .code yX2_fails cX2_fails 2 (some .int)] ++ wsX20)
def wsX2_timesRead : List Cond := .code yX2_timesRead cX2_timesRead 3 (some .int) :: ([.fieldLink RX2 58 "MeteredSheetsModel" "thrown" "I", .fieldLink RX2 55 "MeteredSheetsModel" "times" "[I", .methodLink RX2 112 yX2_isCell, .static yX2_isCell, .initialized RX2, .code yX2_isCell cX2_isCell 1 (some .boolean), .methodLink RX2 62 yX2_in, .static yX2_in, .code yX2_in cX2_in 3 (some .boolean), .methodLink RX2 118 yX2_fails, .instanceMethod yX2_fails, .selects RX2 yX2_fails yX2_fails, .code yX2_fails cX2_fails 2 (some .int)] ++ wsX20)
def wsX2_readOf : List Cond := .code yX2_readOf cX2_readOf 4 (some .int) :: ([.fieldLink RX2 58 "MeteredSheetsModel" "thrown" "I", .fieldLink RX2 55 "MeteredSheetsModel" "times" "[I", .methodLink RX2 128 yX2_isSheet, .static yX2_isSheet, .initialized RX2, .code yX2_isSheet cX2_isSheet 1 (some .boolean), .methodLink RX2 62 yX2_in, .static yX2_in, .code yX2_in cX2_in 3 (some .boolean), .methodLink RX2 118 yX2_fails, .instanceMethod yX2_fails, .selects RX2 yX2_fails yX2_fails, .code yX2_fails cX2_fails 2 (some .int)] ++ wsX20)
def wsJ9_max_7cf53 : List Cond := .code yJ9_max_7cf53 cJ9_max_7cf53 2 (some .int) :: ([])
def wsJ9_min_7cf53 : List Cond := .code yJ9_min_7cf53 cJ9_min_7cf53 2 (some .int) :: ([])
def wsL_setNumber_r1 : List Cond := [Cond.classLink RL 13 "java/lang/IllegalArgumentException", Cond.methodLink RL 7 yX1_setNumber, Cond.instanceMethod yX1_setNumber, Cond.selects RX1 yX1_setNumber yX1_setNumber, Cond.initialized RX1, Cond.code yX1_setNumber cX1_setNumber 4 (some .int), Cond.classLink RX1 63 "java/lang/IllegalArgumentException", Cond.initialized "java/lang/IllegalArgumentException", Cond.constant RX1 58 (1000000), Cond.methodLink RX1 51 yX1_isUser, Cond.static yX1_isUser, Cond.code yX1_isUser cX1_isUser 1 (some .boolean), Cond.methodLink RX1 55 yX1_isCell, Cond.static yX1_isCell, Cond.code yX1_isCell cX1_isCell 1 (some .boolean), Cond.methodLink RX1 59 yX1_isWithin, Cond.static yX1_isWithin, Cond.code yX1_isWithin cX1_isWithin 2 (some .boolean), Cond.methodLink RX1 70 yX1_giveFormula, Cond.instanceMethod yX1_giveFormula, Cond.selects RX1 yX1_giveFormula yX1_giveFormula, Cond.code yX1_giveFormula cX1_giveFormula 7 (some .int), Cond.fieldLink RX1 9 "MeteredSheets" "kinds" "[I", Cond.fieldLink RX1 13 "MeteredSheets" "ones" "[I"]
def wsL_setNumber_r2 : List Cond := [Cond.fieldLink RX1 16 "MeteredSheets" "others" "[I", Cond.fieldLink RX1 19 "MeteredSheets" "numbers" "[I", Cond.methodLink RX1 152 yX1_putInOrder, Cond.instanceMethod yX1_putInOrder, Cond.selects RX1 yX1_putInOrder yX1_putInOrder, Cond.code yX1_putInOrder cX1_putInOrder 3 none, Cond.fieldLink RX1 42 "MeteredSheets" "placed" "[Z", Cond.fieldLink RX1 29 "MeteredSheets" "order" "[I", Cond.methodLink RX1 159 yX1_lowestFreeCell, Cond.instanceMethod yX1_lowestFreeCell, Cond.selects RX1 yX1_lowestFreeCell yX1_lowestFreeCell, Cond.code yX1_lowestFreeCell cX1_lowestFreeCell 2 (some .int), Cond.methodLink RX1 163 yX1_isReady, Cond.instanceMethod yX1_isReady, Cond.selects RX1 yX1_isReady yX1_isReady, Cond.code yX1_isReady cX1_isReady 2 (some .boolean), Cond.methodLink RX1 149 yX1_isIn, Cond.static yX1_isIn, Cond.code yX1_isIn cX1_isIn 2 (some .boolean), Cond.methodLink RX1 91 yX1_forgetChanges, Cond.instanceMethod yX1_forgetChanges, Cond.selects RX1 yX1_forgetChanges yX1_forgetChanges, Cond.code yX1_forgetChanges cX1_forgetChanges 2 none, Cond.fieldLink RX1 39 "MeteredSheets" "changed" "[Z"]
def wsL_setNumber_r3 : List Cond := [Cond.methodLink RX1 155 yX1_compute, Cond.instanceMethod yX1_compute, Cond.selects RX1 yX1_compute yX1_compute, Cond.code yX1_compute cX1_compute 6 none, Cond.fieldLink RX1 25 "MeteredSheets" "marked" "[Z", Cond.fieldLink RX1 35 "MeteredSheets" "ledger" "LMeteredSheets$Ledger;", Cond.fieldLink RX1 22 "MeteredSheets" "values" "[I", Cond.methodLink RX1 166 yX1_meteredRead, Cond.static yX1_meteredRead, Cond.code yX1_meteredRead cX1_meteredRead 2 (some .int), Cond.methodLink RX1 174 yX1_sheetOf, Cond.static yX1_sheetOf, Cond.code yX1_sheetOf cX1_sheetOf 1 (some .int), Cond.instanceMethod yX0_paysFor, Cond.initialized RX0, Cond.selects RX0 yX0_paysFor yX0_paysFor, Cond.code yX0_paysFor cX0_paysFor 7 (some .boolean), Cond.fieldLink RX0 15 "MeteredSheets$Ledger" "budgets" "[I", Cond.methodLink RX0 41 yX0_costOf, Cond.instanceMethod yX0_costOf, Cond.selects RX0 yX0_costOf yX0_costOf, Cond.code yX0_costOf cX0_costOf 2 (some .int), Cond.fieldLink RX0 9 "MeteredSheets$Ledger" "prices" "[I", Cond.methodLink RX0 44 yX0_enter]
def wsL_setNumber_r4 : List Cond := [Cond.instanceMethod yX0_enter, Cond.selects RX0 yX0_enter yX0_enter, Cond.code yX0_enter cX0_enter 5 none, Cond.fieldLink RX0 18 "MeteredSheets$Ledger" "earnings" "[I", Cond.fieldLink RX0 24 "MeteredSheets$Ledger" "bills" "[I", Cond.fieldLink RX0 21 "MeteredSheets$Ledger" "readsOf" "[I", Cond.fieldLink RX0 27 "MeteredSheets$Ledger" "counts" "[I", Cond.fieldLink RX0 33 "MeteredSheets$Ledger" "keptCount" "I", Cond.fieldLink RX0 30 "MeteredSheets$Ledger" "kept" "[I", Cond.methodLink RX1 121 yX1_resultOf, Cond.instanceMethod yX1_resultOf, Cond.selects RX1 yX1_resultOf yX1_resultOf, Cond.code yX1_resultOf cX1_resultOf 5 (some .int), Cond.methodLink RX1 185 Lib.Math.max.name, Cond.static Lib.Math.max.name, Cond.initialized "java/lang/Math", Cond.code Lib.Math.max.name Lib.Math.max.code 2 (some .int), Cond.methodLink RX1 178 yX1_valueIn, Cond.static yX1_valueIn, Cond.code yX1_valueIn cX1_valueIn 2 (some .int), Cond.methodLink RX1 182 yX1_held, Cond.static yX1_held, Cond.code yX1_held cX1_held 1 (some .int), Cond.constant RX1 190 (-1000000)]
def wsL_setNumber_r5 : List Cond := [Cond.methodLink RX1 191 Lib.Math.min.name, Cond.static Lib.Math.min.name, Cond.code Lib.Math.min.name Lib.Math.min.code 2 (some .int), Cond.methodLink RX1 94 yX1_goThrough, Cond.instanceMethod yX1_goThrough, Cond.selects RX1 yX1_goThrough yX1_goThrough, Cond.code yX1_goThrough cX1_goThrough 6 (some .int), Cond.methodLink RX1 145 yX1_readsOneOf, Cond.instanceMethod yX1_readsOneOf, Cond.selects RX1 yX1_readsOneOf yX1_readsOneOf, Cond.code yX1_readsOneOf cX1_readsOneOf 3 (some .boolean)]
def wsL_setNumber : List Cond := .codeWith yL_setNumber cL_setNumber 6 (some .int) [(0, 12, 15, 13)] :: ((wsL_setNumber_r1 ++ (wsL_setNumber_r2 ++ (wsL_setNumber_r3 ++ (wsL_setNumber_r4 ++ wsL_setNumber_r5)))) ++ wsX10 ++ wsX00 ++ (vx_atS RX1 67 "java/lang/IllegalArgumentException" ["java/lang/RuntimeException", "java/lang/Exception"]).filter goodWord)
def wsL_setSum_r1 : List Cond := [Cond.classLink RL 13 "java/lang/IllegalArgumentException", Cond.classLink RL 19 "java/lang/IllegalStateException", Cond.methodLink RL 15 yX1_setSum, Cond.instanceMethod yX1_setSum, Cond.selects RX1 yX1_setSum yX1_setSum, Cond.initialized RX1, Cond.code yX1_setSum cX1_setSum 6 (some .int), Cond.classLink RX1 63 "java/lang/IllegalArgumentException", Cond.initialized "java/lang/IllegalArgumentException", Cond.classLink RX1 80 "java/lang/IllegalStateException", Cond.initialized "java/lang/IllegalStateException", Cond.methodLink RX1 51 yX1_isUser, Cond.static yX1_isUser, Cond.code yX1_isUser cX1_isUser 1 (some .boolean), Cond.methodLink RX1 55 yX1_isCell, Cond.static yX1_isCell, Cond.code yX1_isCell cX1_isCell 1 (some .boolean), Cond.methodLink RX1 59 yX1_isWithin, Cond.static yX1_isWithin, Cond.code yX1_isWithin cX1_isWithin 2 (some .boolean), Cond.methodLink RX1 76 yX1_wouldReadItself, Cond.instanceMethod yX1_wouldReadItself, Cond.selects RX1 yX1_wouldReadItself yX1_wouldReadItself, Cond.code yX1_wouldReadItself cX1_wouldReadItself 6 (some .boolean)]
def wsL_setSum_r2 : List Cond := [Cond.fieldLink RX1 45 "MeteredSheets" "reaching" "[Z", Cond.fieldLink RX1 29 "MeteredSheets" "order" "[I", Cond.methodLink RX1 145 yX1_readsOneOf, Cond.instanceMethod yX1_readsOneOf, Cond.selects RX1 yX1_readsOneOf yX1_readsOneOf, Cond.code yX1_readsOneOf cX1_readsOneOf 3 (some .boolean), Cond.fieldLink RX1 13 "MeteredSheets" "ones" "[I", Cond.fieldLink RX1 16 "MeteredSheets" "others" "[I", Cond.methodLink RX1 149 yX1_isIn, Cond.static yX1_isIn, Cond.code yX1_isIn cX1_isIn 2 (some .boolean), Cond.methodLink RX1 70 yX1_giveFormula, Cond.instanceMethod yX1_giveFormula, Cond.selects RX1 yX1_giveFormula yX1_giveFormula, Cond.code yX1_giveFormula cX1_giveFormula 7 (some .int), Cond.fieldLink RX1 9 "MeteredSheets" "kinds" "[I", Cond.fieldLink RX1 19 "MeteredSheets" "numbers" "[I", Cond.methodLink RX1 152 yX1_putInOrder, Cond.instanceMethod yX1_putInOrder, Cond.selects RX1 yX1_putInOrder yX1_putInOrder, Cond.code yX1_putInOrder cX1_putInOrder 3 none, Cond.fieldLink RX1 42 "MeteredSheets" "placed" "[Z", Cond.methodLink RX1 159 yX1_lowestFreeCell, Cond.instanceMethod yX1_lowestFreeCell]
def wsL_setSum_r3 : List Cond := [Cond.selects RX1 yX1_lowestFreeCell yX1_lowestFreeCell, Cond.code yX1_lowestFreeCell cX1_lowestFreeCell 2 (some .int), Cond.methodLink RX1 163 yX1_isReady, Cond.instanceMethod yX1_isReady, Cond.selects RX1 yX1_isReady yX1_isReady, Cond.code yX1_isReady cX1_isReady 2 (some .boolean), Cond.methodLink RX1 91 yX1_forgetChanges, Cond.instanceMethod yX1_forgetChanges, Cond.selects RX1 yX1_forgetChanges yX1_forgetChanges, Cond.code yX1_forgetChanges cX1_forgetChanges 2 none, Cond.fieldLink RX1 39 "MeteredSheets" "changed" "[Z", Cond.methodLink RX1 155 yX1_compute, Cond.instanceMethod yX1_compute, Cond.selects RX1 yX1_compute yX1_compute, Cond.code yX1_compute cX1_compute 6 none, Cond.fieldLink RX1 25 "MeteredSheets" "marked" "[Z", Cond.fieldLink RX1 35 "MeteredSheets" "ledger" "LMeteredSheets$Ledger;", Cond.fieldLink RX1 22 "MeteredSheets" "values" "[I", Cond.methodLink RX1 166 yX1_meteredRead, Cond.static yX1_meteredRead, Cond.code yX1_meteredRead cX1_meteredRead 2 (some .int), Cond.methodLink RX1 174 yX1_sheetOf, Cond.static yX1_sheetOf, Cond.code yX1_sheetOf cX1_sheetOf 1 (some .int)]
def wsL_setSum_r4 : List Cond := [Cond.instanceMethod yX0_paysFor, Cond.initialized RX0, Cond.selects RX0 yX0_paysFor yX0_paysFor, Cond.code yX0_paysFor cX0_paysFor 7 (some .boolean), Cond.fieldLink RX0 15 "MeteredSheets$Ledger" "budgets" "[I", Cond.methodLink RX0 41 yX0_costOf, Cond.instanceMethod yX0_costOf, Cond.selects RX0 yX0_costOf yX0_costOf, Cond.code yX0_costOf cX0_costOf 2 (some .int), Cond.fieldLink RX0 9 "MeteredSheets$Ledger" "prices" "[I", Cond.methodLink RX0 44 yX0_enter, Cond.instanceMethod yX0_enter, Cond.selects RX0 yX0_enter yX0_enter, Cond.code yX0_enter cX0_enter 5 none, Cond.fieldLink RX0 18 "MeteredSheets$Ledger" "earnings" "[I", Cond.fieldLink RX0 24 "MeteredSheets$Ledger" "bills" "[I", Cond.fieldLink RX0 21 "MeteredSheets$Ledger" "readsOf" "[I", Cond.fieldLink RX0 27 "MeteredSheets$Ledger" "counts" "[I", Cond.fieldLink RX0 33 "MeteredSheets$Ledger" "keptCount" "I", Cond.fieldLink RX0 30 "MeteredSheets$Ledger" "kept" "[I", Cond.methodLink RX1 121 yX1_resultOf, Cond.instanceMethod yX1_resultOf, Cond.selects RX1 yX1_resultOf yX1_resultOf, Cond.code yX1_resultOf cX1_resultOf 5 (some .int)]
def wsL_setSum_r5 : List Cond := [Cond.methodLink RX1 185 Lib.Math.max.name, Cond.static Lib.Math.max.name, Cond.initialized "java/lang/Math", Cond.code Lib.Math.max.name Lib.Math.max.code 2 (some .int), Cond.methodLink RX1 178 yX1_valueIn, Cond.static yX1_valueIn, Cond.code yX1_valueIn cX1_valueIn 2 (some .int), Cond.methodLink RX1 182 yX1_held, Cond.static yX1_held, Cond.code yX1_held cX1_held 1 (some .int), Cond.constant RX1 190 (-1000000), Cond.constant RX1 58 (1000000), Cond.methodLink RX1 191 Lib.Math.min.name, Cond.static Lib.Math.min.name, Cond.code Lib.Math.min.name Lib.Math.min.code 2 (some .int), Cond.methodLink RX1 94 yX1_goThrough, Cond.instanceMethod yX1_goThrough, Cond.selects RX1 yX1_goThrough yX1_goThrough, Cond.code yX1_goThrough cX1_goThrough 6 (some .int)]
def wsL_setSum : List Cond := .codeWith yL_setSum cL_setSum 8 (some .int) [(0, 16, 19, 13), (0, 16, 23, 19)] :: ((wsL_setSum_r1 ++ (wsL_setSum_r2 ++ (wsL_setSum_r3 ++ (wsL_setSum_r4 ++ wsL_setSum_r5)))) ++ wsX10 ++ wsX00 ++ (vx_atS RX1 67 "java/lang/IllegalArgumentException" ["java/lang/RuntimeException", "java/lang/Exception"]).filter goodWord ++ (vx_atS RX1 84 "java/lang/IllegalStateException" ["java/lang/RuntimeException", "java/lang/Exception"]).filter goodWord)
def wsL_setGreater_r1 : List Cond := [Cond.classLink RL 13 "java/lang/IllegalArgumentException", Cond.classLink RL 19 "java/lang/IllegalStateException", Cond.methodLink RL 21 yX1_setGreater, Cond.instanceMethod yX1_setGreater, Cond.selects RX1 yX1_setGreater yX1_setGreater, Cond.initialized RX1, Cond.code yX1_setGreater cX1_setGreater 5 (some .int), Cond.classLink RX1 63 "java/lang/IllegalArgumentException", Cond.initialized "java/lang/IllegalArgumentException", Cond.classLink RX1 80 "java/lang/IllegalStateException", Cond.initialized "java/lang/IllegalStateException", Cond.methodLink RX1 51 yX1_isUser, Cond.static yX1_isUser, Cond.code yX1_isUser cX1_isUser 1 (some .boolean), Cond.methodLink RX1 55 yX1_isCell, Cond.static yX1_isCell, Cond.code yX1_isCell cX1_isCell 1 (some .boolean), Cond.methodLink RX1 76 yX1_wouldReadItself, Cond.instanceMethod yX1_wouldReadItself, Cond.selects RX1 yX1_wouldReadItself yX1_wouldReadItself, Cond.code yX1_wouldReadItself cX1_wouldReadItself 6 (some .boolean), Cond.fieldLink RX1 45 "MeteredSheets" "reaching" "[Z", Cond.fieldLink RX1 29 "MeteredSheets" "order" "[I", Cond.methodLink RX1 145 yX1_readsOneOf]
def wsL_setGreater_r2 : List Cond := [Cond.instanceMethod yX1_readsOneOf, Cond.selects RX1 yX1_readsOneOf yX1_readsOneOf, Cond.code yX1_readsOneOf cX1_readsOneOf 3 (some .boolean), Cond.fieldLink RX1 13 "MeteredSheets" "ones" "[I", Cond.fieldLink RX1 16 "MeteredSheets" "others" "[I", Cond.methodLink RX1 149 yX1_isIn, Cond.static yX1_isIn, Cond.code yX1_isIn cX1_isIn 2 (some .boolean), Cond.methodLink RX1 70 yX1_giveFormula, Cond.instanceMethod yX1_giveFormula, Cond.selects RX1 yX1_giveFormula yX1_giveFormula, Cond.code yX1_giveFormula cX1_giveFormula 7 (some .int), Cond.fieldLink RX1 9 "MeteredSheets" "kinds" "[I", Cond.fieldLink RX1 19 "MeteredSheets" "numbers" "[I", Cond.methodLink RX1 152 yX1_putInOrder, Cond.instanceMethod yX1_putInOrder, Cond.selects RX1 yX1_putInOrder yX1_putInOrder, Cond.code yX1_putInOrder cX1_putInOrder 3 none, Cond.fieldLink RX1 42 "MeteredSheets" "placed" "[Z", Cond.methodLink RX1 159 yX1_lowestFreeCell, Cond.instanceMethod yX1_lowestFreeCell, Cond.selects RX1 yX1_lowestFreeCell yX1_lowestFreeCell, Cond.code yX1_lowestFreeCell cX1_lowestFreeCell 2 (some .int), Cond.methodLink RX1 163 yX1_isReady]
def wsL_setGreater_r3 : List Cond := [Cond.instanceMethod yX1_isReady, Cond.selects RX1 yX1_isReady yX1_isReady, Cond.code yX1_isReady cX1_isReady 2 (some .boolean), Cond.methodLink RX1 91 yX1_forgetChanges, Cond.instanceMethod yX1_forgetChanges, Cond.selects RX1 yX1_forgetChanges yX1_forgetChanges, Cond.code yX1_forgetChanges cX1_forgetChanges 2 none, Cond.fieldLink RX1 39 "MeteredSheets" "changed" "[Z", Cond.methodLink RX1 155 yX1_compute, Cond.instanceMethod yX1_compute, Cond.selects RX1 yX1_compute yX1_compute, Cond.code yX1_compute cX1_compute 6 none, Cond.fieldLink RX1 25 "MeteredSheets" "marked" "[Z", Cond.fieldLink RX1 35 "MeteredSheets" "ledger" "LMeteredSheets$Ledger;", Cond.fieldLink RX1 22 "MeteredSheets" "values" "[I", Cond.methodLink RX1 166 yX1_meteredRead, Cond.static yX1_meteredRead, Cond.code yX1_meteredRead cX1_meteredRead 2 (some .int), Cond.methodLink RX1 174 yX1_sheetOf, Cond.static yX1_sheetOf, Cond.code yX1_sheetOf cX1_sheetOf 1 (some .int), Cond.instanceMethod yX0_paysFor, Cond.initialized RX0, Cond.selects RX0 yX0_paysFor yX0_paysFor]
def wsL_setGreater_r4 : List Cond := [Cond.code yX0_paysFor cX0_paysFor 7 (some .boolean), Cond.fieldLink RX0 15 "MeteredSheets$Ledger" "budgets" "[I", Cond.methodLink RX0 41 yX0_costOf, Cond.instanceMethod yX0_costOf, Cond.selects RX0 yX0_costOf yX0_costOf, Cond.code yX0_costOf cX0_costOf 2 (some .int), Cond.fieldLink RX0 9 "MeteredSheets$Ledger" "prices" "[I", Cond.methodLink RX0 44 yX0_enter, Cond.instanceMethod yX0_enter, Cond.selects RX0 yX0_enter yX0_enter, Cond.code yX0_enter cX0_enter 5 none, Cond.fieldLink RX0 18 "MeteredSheets$Ledger" "earnings" "[I", Cond.fieldLink RX0 24 "MeteredSheets$Ledger" "bills" "[I", Cond.fieldLink RX0 21 "MeteredSheets$Ledger" "readsOf" "[I", Cond.fieldLink RX0 27 "MeteredSheets$Ledger" "counts" "[I", Cond.fieldLink RX0 33 "MeteredSheets$Ledger" "keptCount" "I", Cond.fieldLink RX0 30 "MeteredSheets$Ledger" "kept" "[I", Cond.methodLink RX1 121 yX1_resultOf, Cond.instanceMethod yX1_resultOf, Cond.selects RX1 yX1_resultOf yX1_resultOf, Cond.code yX1_resultOf cX1_resultOf 5 (some .int), Cond.methodLink RX1 185 Lib.Math.max.name, Cond.static Lib.Math.max.name, Cond.initialized "java/lang/Math"]
def wsL_setGreater_r5 : List Cond := [Cond.code Lib.Math.max.name Lib.Math.max.code 2 (some .int), Cond.methodLink RX1 178 yX1_valueIn, Cond.static yX1_valueIn, Cond.code yX1_valueIn cX1_valueIn 2 (some .int), Cond.methodLink RX1 182 yX1_held, Cond.static yX1_held, Cond.code yX1_held cX1_held 1 (some .int), Cond.constant RX1 190 (-1000000), Cond.constant RX1 58 (1000000), Cond.methodLink RX1 191 Lib.Math.min.name, Cond.static Lib.Math.min.name, Cond.code Lib.Math.min.name Lib.Math.min.code 2 (some .int), Cond.methodLink RX1 94 yX1_goThrough, Cond.instanceMethod yX1_goThrough, Cond.selects RX1 yX1_goThrough yX1_goThrough, Cond.code yX1_goThrough cX1_goThrough 6 (some .int)]
def wsL_setGreater : List Cond := .codeWith yL_setGreater cL_setGreater 7 (some .int) [(0, 14, 17, 13), (0, 14, 21, 19)] :: ((wsL_setGreater_r1 ++ (wsL_setGreater_r2 ++ (wsL_setGreater_r3 ++ (wsL_setGreater_r4 ++ wsL_setGreater_r5)))) ++ wsX10 ++ wsX00 ++ (vx_atS RX1 67 "java/lang/IllegalArgumentException" ["java/lang/RuntimeException", "java/lang/Exception"]).filter goodWord ++ (vx_atS RX1 84 "java/lang/IllegalStateException" ["java/lang/RuntimeException", "java/lang/Exception"]).filter goodWord)
def wsL_setTimes_r1 : List Cond := [Cond.classLink RL 13 "java/lang/IllegalArgumentException", Cond.classLink RL 19 "java/lang/IllegalStateException", Cond.methodLink RL 25 yX1_setTimes, Cond.instanceMethod yX1_setTimes, Cond.selects RX1 yX1_setTimes yX1_setTimes, Cond.initialized RX1, Cond.code yX1_setTimes cX1_setTimes 5 (some .int), Cond.classLink RX1 63 "java/lang/IllegalArgumentException", Cond.initialized "java/lang/IllegalArgumentException", Cond.classLink RX1 80 "java/lang/IllegalStateException", Cond.initialized "java/lang/IllegalStateException", Cond.methodLink RX1 51 yX1_isUser, Cond.static yX1_isUser, Cond.code yX1_isUser cX1_isUser 1 (some .boolean), Cond.methodLink RX1 55 yX1_isCell, Cond.static yX1_isCell, Cond.code yX1_isCell cX1_isCell 1 (some .boolean), Cond.methodLink RX1 59 yX1_isWithin, Cond.static yX1_isWithin, Cond.code yX1_isWithin cX1_isWithin 2 (some .boolean), Cond.methodLink RX1 76 yX1_wouldReadItself, Cond.instanceMethod yX1_wouldReadItself, Cond.selects RX1 yX1_wouldReadItself yX1_wouldReadItself, Cond.code yX1_wouldReadItself cX1_wouldReadItself 6 (some .boolean)]
def wsL_setTimes_r2 : List Cond := [Cond.fieldLink RX1 45 "MeteredSheets" "reaching" "[Z", Cond.fieldLink RX1 29 "MeteredSheets" "order" "[I", Cond.methodLink RX1 145 yX1_readsOneOf, Cond.instanceMethod yX1_readsOneOf, Cond.selects RX1 yX1_readsOneOf yX1_readsOneOf, Cond.code yX1_readsOneOf cX1_readsOneOf 3 (some .boolean), Cond.fieldLink RX1 13 "MeteredSheets" "ones" "[I", Cond.fieldLink RX1 16 "MeteredSheets" "others" "[I", Cond.methodLink RX1 149 yX1_isIn, Cond.static yX1_isIn, Cond.code yX1_isIn cX1_isIn 2 (some .boolean), Cond.methodLink RX1 70 yX1_giveFormula, Cond.instanceMethod yX1_giveFormula, Cond.selects RX1 yX1_giveFormula yX1_giveFormula, Cond.code yX1_giveFormula cX1_giveFormula 7 (some .int), Cond.fieldLink RX1 9 "MeteredSheets" "kinds" "[I", Cond.fieldLink RX1 19 "MeteredSheets" "numbers" "[I", Cond.methodLink RX1 152 yX1_putInOrder, Cond.instanceMethod yX1_putInOrder, Cond.selects RX1 yX1_putInOrder yX1_putInOrder, Cond.code yX1_putInOrder cX1_putInOrder 3 none, Cond.fieldLink RX1 42 "MeteredSheets" "placed" "[Z", Cond.methodLink RX1 159 yX1_lowestFreeCell, Cond.instanceMethod yX1_lowestFreeCell]
def wsL_setTimes_r3 : List Cond := [Cond.selects RX1 yX1_lowestFreeCell yX1_lowestFreeCell, Cond.code yX1_lowestFreeCell cX1_lowestFreeCell 2 (some .int), Cond.methodLink RX1 163 yX1_isReady, Cond.instanceMethod yX1_isReady, Cond.selects RX1 yX1_isReady yX1_isReady, Cond.code yX1_isReady cX1_isReady 2 (some .boolean), Cond.methodLink RX1 91 yX1_forgetChanges, Cond.instanceMethod yX1_forgetChanges, Cond.selects RX1 yX1_forgetChanges yX1_forgetChanges, Cond.code yX1_forgetChanges cX1_forgetChanges 2 none, Cond.fieldLink RX1 39 "MeteredSheets" "changed" "[Z", Cond.methodLink RX1 155 yX1_compute, Cond.instanceMethod yX1_compute, Cond.selects RX1 yX1_compute yX1_compute, Cond.code yX1_compute cX1_compute 6 none, Cond.fieldLink RX1 25 "MeteredSheets" "marked" "[Z", Cond.fieldLink RX1 35 "MeteredSheets" "ledger" "LMeteredSheets$Ledger;", Cond.fieldLink RX1 22 "MeteredSheets" "values" "[I", Cond.methodLink RX1 166 yX1_meteredRead, Cond.static yX1_meteredRead, Cond.code yX1_meteredRead cX1_meteredRead 2 (some .int), Cond.methodLink RX1 174 yX1_sheetOf, Cond.static yX1_sheetOf, Cond.code yX1_sheetOf cX1_sheetOf 1 (some .int)]
def wsL_setTimes_r4 : List Cond := [Cond.instanceMethod yX0_paysFor, Cond.initialized RX0, Cond.selects RX0 yX0_paysFor yX0_paysFor, Cond.code yX0_paysFor cX0_paysFor 7 (some .boolean), Cond.fieldLink RX0 15 "MeteredSheets$Ledger" "budgets" "[I", Cond.methodLink RX0 41 yX0_costOf, Cond.instanceMethod yX0_costOf, Cond.selects RX0 yX0_costOf yX0_costOf, Cond.code yX0_costOf cX0_costOf 2 (some .int), Cond.fieldLink RX0 9 "MeteredSheets$Ledger" "prices" "[I", Cond.methodLink RX0 44 yX0_enter, Cond.instanceMethod yX0_enter, Cond.selects RX0 yX0_enter yX0_enter, Cond.code yX0_enter cX0_enter 5 none, Cond.fieldLink RX0 18 "MeteredSheets$Ledger" "earnings" "[I", Cond.fieldLink RX0 24 "MeteredSheets$Ledger" "bills" "[I", Cond.fieldLink RX0 21 "MeteredSheets$Ledger" "readsOf" "[I", Cond.fieldLink RX0 27 "MeteredSheets$Ledger" "counts" "[I", Cond.fieldLink RX0 33 "MeteredSheets$Ledger" "keptCount" "I", Cond.fieldLink RX0 30 "MeteredSheets$Ledger" "kept" "[I", Cond.methodLink RX1 121 yX1_resultOf, Cond.instanceMethod yX1_resultOf, Cond.selects RX1 yX1_resultOf yX1_resultOf, Cond.code yX1_resultOf cX1_resultOf 5 (some .int)]
def wsL_setTimes_r5 : List Cond := [Cond.methodLink RX1 185 Lib.Math.max.name, Cond.static Lib.Math.max.name, Cond.initialized "java/lang/Math", Cond.code Lib.Math.max.name Lib.Math.max.code 2 (some .int), Cond.methodLink RX1 178 yX1_valueIn, Cond.static yX1_valueIn, Cond.code yX1_valueIn cX1_valueIn 2 (some .int), Cond.methodLink RX1 182 yX1_held, Cond.static yX1_held, Cond.code yX1_held cX1_held 1 (some .int), Cond.constant RX1 190 (-1000000), Cond.constant RX1 58 (1000000), Cond.methodLink RX1 191 Lib.Math.min.name, Cond.static Lib.Math.min.name, Cond.code Lib.Math.min.name Lib.Math.min.code 2 (some .int), Cond.methodLink RX1 94 yX1_goThrough, Cond.instanceMethod yX1_goThrough, Cond.selects RX1 yX1_goThrough yX1_goThrough, Cond.code yX1_goThrough cX1_goThrough 6 (some .int)]
def wsL_setTimes : List Cond := .codeWith yL_setTimes cL_setTimes 7 (some .int) [(0, 14, 17, 13), (0, 14, 21, 19)] :: ((wsL_setTimes_r1 ++ (wsL_setTimes_r2 ++ (wsL_setTimes_r3 ++ (wsL_setTimes_r4 ++ wsL_setTimes_r5)))) ++ wsX10 ++ wsX00 ++ (vx_atS RX1 67 "java/lang/IllegalArgumentException" ["java/lang/RuntimeException", "java/lang/Exception"]).filter goodWord ++ (vx_atS RX1 84 "java/lang/IllegalStateException" ["java/lang/RuntimeException", "java/lang/Exception"]).filter goodWord)
def wsL_refresh_r1 : List Cond := [Cond.classLink RL 13 "java/lang/IllegalArgumentException", Cond.methodLink RL 28 yX1_refresh, Cond.instanceMethod yX1_refresh, Cond.selects RX1 yX1_refresh yX1_refresh, Cond.initialized RX1, Cond.code yX1_refresh cX1_refresh 2 (some .int), Cond.classLink RX1 63 "java/lang/IllegalArgumentException", Cond.initialized "java/lang/IllegalArgumentException", Cond.methodLink RX1 51 yX1_isUser, Cond.static yX1_isUser, Cond.code yX1_isUser cX1_isUser 1 (some .boolean), Cond.methodLink RX1 91 yX1_forgetChanges, Cond.instanceMethod yX1_forgetChanges, Cond.selects RX1 yX1_forgetChanges yX1_forgetChanges, Cond.code yX1_forgetChanges cX1_forgetChanges 2 none, Cond.fieldLink RX1 39 "MeteredSheets" "changed" "[Z", Cond.methodLink RX1 94 yX1_goThrough, Cond.instanceMethod yX1_goThrough, Cond.selects RX1 yX1_goThrough yX1_goThrough, Cond.code yX1_goThrough cX1_goThrough 6 (some .int), Cond.fieldLink RX1 29 "MeteredSheets" "order" "[I", Cond.fieldLink RX1 25 "MeteredSheets" "marked" "[Z", Cond.methodLink RX1 55 yX1_isCell, Cond.static yX1_isCell]
def wsL_refresh_r2 : List Cond := [Cond.code yX1_isCell cX1_isCell 1 (some .boolean), Cond.methodLink RX1 145 yX1_readsOneOf, Cond.instanceMethod yX1_readsOneOf, Cond.selects RX1 yX1_readsOneOf yX1_readsOneOf, Cond.code yX1_readsOneOf cX1_readsOneOf 3 (some .boolean), Cond.fieldLink RX1 13 "MeteredSheets" "ones" "[I", Cond.fieldLink RX1 16 "MeteredSheets" "others" "[I", Cond.methodLink RX1 149 yX1_isIn, Cond.static yX1_isIn, Cond.code yX1_isIn cX1_isIn 2 (some .boolean), Cond.methodLink RX1 155 yX1_compute, Cond.instanceMethod yX1_compute, Cond.selects RX1 yX1_compute yX1_compute, Cond.code yX1_compute cX1_compute 6 none, Cond.fieldLink RX1 35 "MeteredSheets" "ledger" "LMeteredSheets$Ledger;", Cond.fieldLink RX1 22 "MeteredSheets" "values" "[I", Cond.methodLink RX1 166 yX1_meteredRead, Cond.static yX1_meteredRead, Cond.code yX1_meteredRead cX1_meteredRead 2 (some .int), Cond.methodLink RX1 174 yX1_sheetOf, Cond.static yX1_sheetOf, Cond.code yX1_sheetOf cX1_sheetOf 1 (some .int), Cond.instanceMethod yX0_paysFor, Cond.initialized RX0]
def wsL_refresh_r3 : List Cond := [Cond.selects RX0 yX0_paysFor yX0_paysFor, Cond.code yX0_paysFor cX0_paysFor 7 (some .boolean), Cond.fieldLink RX0 15 "MeteredSheets$Ledger" "budgets" "[I", Cond.methodLink RX0 41 yX0_costOf, Cond.instanceMethod yX0_costOf, Cond.selects RX0 yX0_costOf yX0_costOf, Cond.code yX0_costOf cX0_costOf 2 (some .int), Cond.fieldLink RX0 9 "MeteredSheets$Ledger" "prices" "[I", Cond.methodLink RX0 44 yX0_enter, Cond.instanceMethod yX0_enter, Cond.selects RX0 yX0_enter yX0_enter, Cond.code yX0_enter cX0_enter 5 none, Cond.fieldLink RX0 18 "MeteredSheets$Ledger" "earnings" "[I", Cond.fieldLink RX0 24 "MeteredSheets$Ledger" "bills" "[I", Cond.fieldLink RX0 21 "MeteredSheets$Ledger" "readsOf" "[I", Cond.fieldLink RX0 27 "MeteredSheets$Ledger" "counts" "[I", Cond.fieldLink RX0 33 "MeteredSheets$Ledger" "keptCount" "I", Cond.fieldLink RX0 30 "MeteredSheets$Ledger" "kept" "[I", Cond.methodLink RX1 121 yX1_resultOf, Cond.instanceMethod yX1_resultOf, Cond.selects RX1 yX1_resultOf yX1_resultOf, Cond.code yX1_resultOf cX1_resultOf 5 (some .int), Cond.fieldLink RX1 9 "MeteredSheets" "kinds" "[I", Cond.fieldLink RX1 19 "MeteredSheets" "numbers" "[I"]
def wsL_refresh_r4 : List Cond := [Cond.methodLink RX1 185 Lib.Math.max.name, Cond.static Lib.Math.max.name, Cond.initialized "java/lang/Math", Cond.code Lib.Math.max.name Lib.Math.max.code 2 (some .int), Cond.methodLink RX1 178 yX1_valueIn, Cond.static yX1_valueIn, Cond.code yX1_valueIn cX1_valueIn 2 (some .int), Cond.methodLink RX1 182 yX1_held, Cond.static yX1_held, Cond.code yX1_held cX1_held 1 (some .int), Cond.constant RX1 190 (-1000000), Cond.constant RX1 58 (1000000), Cond.methodLink RX1 191 Lib.Math.min.name, Cond.static Lib.Math.min.name, Cond.code Lib.Math.min.name Lib.Math.min.code 2 (some .int)]
def wsL_refresh : List Cond := .codeWith yL_refresh cL_refresh 4 (some .int) [(0, 9, 12, 13)] :: ((wsL_refresh_r1 ++ (wsL_refresh_r2 ++ (wsL_refresh_r3 ++ wsL_refresh_r4))) ++ wsX10 ++ wsX00 ++ (vx_atS RX1 67 "java/lang/IllegalArgumentException" ["java/lang/RuntimeException", "java/lang/Exception"]).filter goodWord)
def wsL_setPrice : List Cond := .codeWith yL_setPrice cL_setPrice 5 (some .int) [(0, 10, 13, 13)] :: ([.classLink RL 13 "java/lang/IllegalArgumentException", .methodLink RL 32 yX1_setPrice, .instanceMethod yX1_setPrice, .selects RX1 yX1_setPrice yX1_setPrice, .initialized RX1, .code yX1_setPrice cX1_setPrice 4 (some .int), .classLink RX1 63 "java/lang/IllegalArgumentException", .initialized "java/lang/IllegalArgumentException", .fieldLink RX1 35 "MeteredSheets" "ledger" "LMeteredSheets$Ledger;", .methodLink RX1 98 yX1_isSheet, .static yX1_isSheet, .code yX1_isSheet cX1_isSheet 1 (some .boolean)] ++ wsX10 ++ wsX00 ++ (vx_atS RX1 67 "java/lang/IllegalArgumentException" ["java/lang/RuntimeException", "java/lang/Exception"]).filter goodWord)
def wsL_grant : List Cond := .codeWith yL_grant cL_grant 5 (some .int) [(0, 10, 13, 13)] :: ([.classLink RL 13 "java/lang/IllegalArgumentException", .methodLink RL 36 yX1_grant, .instanceMethod yX1_grant, .selects RX1 yX1_grant yX1_grant, .initialized RX1, .code yX1_grant cX1_grant 3 (some .int), .classLink RX1 63 "java/lang/IllegalArgumentException", .initialized "java/lang/IllegalArgumentException", .fieldLink RX1 35 "MeteredSheets" "ledger" "LMeteredSheets$Ledger;", .methodLink RX1 98 yX1_isSheet, .static yX1_isSheet, .code yX1_isSheet cX1_isSheet 1 (some .boolean)] ++ wsX10 ++ wsX00 ++ (vx_atS RX1 67 "java/lang/IllegalArgumentException" ["java/lang/RuntimeException", "java/lang/Exception"]).filter goodWord)
def wsL_budget : List Cond := .codeWith yL_budget cL_budget 4 (some .int) [(0, 9, 12, 13)] :: ([.classLink RL 13 "java/lang/IllegalArgumentException", .methodLink RL 39 yX1_budget, .instanceMethod yX1_budget, .selects RX1 yX1_budget yX1_budget, .initialized RX1, .code yX1_budget cX1_budget 2 (some .int), .classLink RX1 63 "java/lang/IllegalArgumentException", .initialized "java/lang/IllegalArgumentException", .fieldLink RX1 35 "MeteredSheets" "ledger" "LMeteredSheets$Ledger;", .methodLink RX1 98 yX1_isSheet, .static yX1_isSheet, .code yX1_isSheet cX1_isSheet 1 (some .boolean)] ++ wsX10 ++ wsX00 ++ (vx_atS RX1 67 "java/lang/IllegalArgumentException" ["java/lang/RuntimeException", "java/lang/Exception"]).filter goodWord)
def wsL_earned : List Cond := .codeWith yL_earned cL_earned 4 (some .int) [(0, 9, 12, 13)] :: ([.classLink RL 13 "java/lang/IllegalArgumentException", .methodLink RL 42 yX1_earned, .instanceMethod yX1_earned, .selects RX1 yX1_earned yX1_earned, .initialized RX1, .code yX1_earned cX1_earned 2 (some .int), .classLink RX1 63 "java/lang/IllegalArgumentException", .initialized "java/lang/IllegalArgumentException", .fieldLink RX1 35 "MeteredSheets" "ledger" "LMeteredSheets$Ledger;", .methodLink RX1 98 yX1_isSheet, .static yX1_isSheet, .code yX1_isSheet cX1_isSheet 1 (some .boolean)] ++ wsX10 ++ wsX00 ++ (vx_atS RX1 67 "java/lang/IllegalArgumentException" ["java/lang/RuntimeException", "java/lang/Exception"]).filter goodWord)
def wsL_caused : List Cond := .codeWith yL_caused cL_caused 4 (some .int) [(0, 9, 12, 13)] :: ([.classLink RL 13 "java/lang/IllegalArgumentException", .methodLink RL 45 yX1_caused, .instanceMethod yX1_caused, .selects RX1 yX1_caused yX1_caused, .initialized RX1, .code yX1_caused cX1_caused 2 (some .int), .classLink RX1 63 "java/lang/IllegalArgumentException", .initialized "java/lang/IllegalArgumentException", .fieldLink RX1 35 "MeteredSheets" "ledger" "LMeteredSheets$Ledger;", .methodLink RX1 51 yX1_isUser, .static yX1_isUser, .code yX1_isUser cX1_isUser 1 (some .boolean)] ++ wsX10 ++ wsX00 ++ (vx_atS RX1 67 "java/lang/IllegalArgumentException" ["java/lang/RuntimeException", "java/lang/Exception"]).filter goodWord)
def wsL_value : List Cond := .codeWith yL_value cL_value 4 (some .int) [(0, 9, 12, 13)] :: ([.classLink RL 13 "java/lang/IllegalArgumentException", .methodLink RL 48 yX1_value, .instanceMethod yX1_value, .selects RX1 yX1_value yX1_value, .initialized RX1, .code yX1_value cX1_value 2 (some .int), .classLink RX1 63 "java/lang/IllegalArgumentException", .initialized "java/lang/IllegalArgumentException", .fieldLink RX1 22 "MeteredSheets" "values" "[I", .methodLink RX1 55 yX1_isCell, .static yX1_isCell, .code yX1_isCell cX1_isCell 1 (some .boolean)] ++ wsX10 ++ (vx_atS RX1 67 "java/lang/IllegalArgumentException" ["java/lang/RuntimeException", "java/lang/Exception"]).filter goodWord)
def wsL_isMarked : List Cond := .codeWith yL_isMarked cL_isMarked 4 (some .int) [(0, 16, 19, 13)] :: ([.classLink RL 13 "java/lang/IllegalArgumentException", .methodLink RL 51 yX1_isMarked, .instanceMethod yX1_isMarked, .selects RX1 yX1_isMarked yX1_isMarked, .initialized RX1, .code yX1_isMarked cX1_isMarked 2 (some .boolean), .classLink RX1 63 "java/lang/IllegalArgumentException", .initialized "java/lang/IllegalArgumentException", .fieldLink RX1 25 "MeteredSheets" "marked" "[Z", .methodLink RX1 55 yX1_isCell, .static yX1_isCell, .code yX1_isCell cX1_isCell 1 (some .boolean)] ++ wsX10 ++ (vx_atS RX1 67 "java/lang/IllegalArgumentException" ["java/lang/RuntimeException", "java/lang/Exception"]).filter goodWord)
def wsL_valueAnew_r1 : List Cond := [Cond.classLink RL 13 "java/lang/IllegalArgumentException", Cond.methodLink RL 55 yX1_valueAnew, Cond.instanceMethod yX1_valueAnew, Cond.selects RX1 yX1_valueAnew yX1_valueAnew, Cond.initialized RX1, Cond.code yX1_valueAnew cX1_valueAnew 4 (some .int), Cond.classLink RX1 63 "java/lang/IllegalArgumentException", Cond.initialized "java/lang/IllegalArgumentException", Cond.fieldLink RX1 29 "MeteredSheets" "order" "[I", Cond.fieldLink RX1 48 "MeteredSheets" "fresh" "[I", Cond.methodLink RX1 55 yX1_isCell, Cond.static yX1_isCell, Cond.code yX1_isCell cX1_isCell 1 (some .boolean), Cond.methodLink RX1 121 yX1_resultOf, Cond.instanceMethod yX1_resultOf, Cond.selects RX1 yX1_resultOf yX1_resultOf, Cond.code yX1_resultOf cX1_resultOf 5 (some .int), Cond.fieldLink RX1 13 "MeteredSheets" "ones" "[I", Cond.fieldLink RX1 16 "MeteredSheets" "others" "[I", Cond.fieldLink RX1 9 "MeteredSheets" "kinds" "[I", Cond.fieldLink RX1 19 "MeteredSheets" "numbers" "[I", Cond.methodLink RX1 185 Lib.Math.max.name, Cond.static Lib.Math.max.name, Cond.initialized "java/lang/Math"]
def wsL_valueAnew_r2 : List Cond := [Cond.code Lib.Math.max.name Lib.Math.max.code 2 (some .int), Cond.methodLink RX1 178 yX1_valueIn, Cond.static yX1_valueIn, Cond.code yX1_valueIn cX1_valueIn 2 (some .int), Cond.methodLink RX1 182 yX1_held, Cond.static yX1_held, Cond.code yX1_held cX1_held 1 (some .int), Cond.constant RX1 190 (-1000000), Cond.constant RX1 58 (1000000), Cond.methodLink RX1 191 Lib.Math.min.name, Cond.static Lib.Math.min.name, Cond.code Lib.Math.min.name Lib.Math.min.code 2 (some .int)]
def wsL_valueAnew : List Cond := .codeWith yL_valueAnew cL_valueAnew 4 (some .int) [(0, 9, 12, 13)] :: ((wsL_valueAnew_r1 ++ wsL_valueAnew_r2) ++ wsX10 ++ (vx_atS RX1 67 "java/lang/IllegalArgumentException" ["java/lang/RuntimeException", "java/lang/Exception"]).filter goodWord)
def wsL_reading : List Cond := .codeWith yL_reading cL_reading 4 (some .int) [(0, 9, 12, 61)] :: ([.classLink RL 61 "java/lang/IndexOutOfBoundsException", .methodLink RL 58 yX1_reading, .instanceMethod yX1_reading, .selects RX1 yX1_reading yX1_reading, .initialized RX1, .code yX1_reading cX1_reading 2 (some .int), .classLink RX1 129 "java/lang/IndexOutOfBoundsException", .initialized "java/lang/IndexOutOfBoundsException", .fieldLink RX1 35 "MeteredSheets" "ledger" "LMeteredSheets$Ledger;"] ++ wsX10 ++ wsX00 ++ (vx_atS RX1 133 "java/lang/IndexOutOfBoundsException" ["java/lang/RuntimeException", "java/lang/Exception"]).filter goodWord)
def wsL_timesRead : List Cond := .codeWith yL_timesRead cL_timesRead 5 (some .int) [(0, 10, 13, 13)] :: ([.classLink RL 13 "java/lang/IllegalArgumentException", .methodLink RL 63 yX1_timesRead, .instanceMethod yX1_timesRead, .selects RX1 yX1_timesRead yX1_timesRead, .initialized RX1, .code yX1_timesRead cX1_timesRead 3 (some .int), .classLink RX1 63 "java/lang/IllegalArgumentException", .initialized "java/lang/IllegalArgumentException", .fieldLink RX1 35 "MeteredSheets" "ledger" "LMeteredSheets$Ledger;", .methodLink RX1 55 yX1_isCell, .static yX1_isCell, .code yX1_isCell cX1_isCell 1 (some .boolean)] ++ wsX10 ++ wsX00 ++ (vx_atS RX1 67 "java/lang/IllegalArgumentException" ["java/lang/RuntimeException", "java/lang/Exception"]).filter goodWord)
def wsL_readOf : List Cond := .codeWith yL_readOf cL_readOf 4 (some .int) [(0, 9, 12, 13)] :: ([.classLink RL 13 "java/lang/IllegalArgumentException", .methodLink RL 66 yX1_readOf, .instanceMethod yX1_readOf, .selects RX1 yX1_readOf yX1_readOf, .initialized RX1, .code yX1_readOf cX1_readOf 2 (some .int), .classLink RX1 63 "java/lang/IllegalArgumentException", .initialized "java/lang/IllegalArgumentException", .fieldLink RX1 35 "MeteredSheets" "ledger" "LMeteredSheets$Ledger;", .methodLink RX1 98 yX1_isSheet, .static yX1_isSheet, .code yX1_isSheet cX1_isSheet 1 (some .boolean)] ++ wsX10 ++ wsX00 ++ (vx_atS RX1 67 "java/lang/IllegalArgumentException" ["java/lang/RuntimeException", "java/lang/Exception"]).filter goodWord)
def wsL_law0_r1 : List Cond := [Cond.classLink RL 8 RX1, Cond.instantiable RX1 12, Cond.initialized RX1, Cond.classLink RL 70 RX2, Cond.instantiable RX2 18, Cond.initialized RX2, Cond.arrayClass .long, Cond.methodLink RL 69 yX1_init, Cond.instanceMethod yX1_init, Cond.code yX1_init cX1_init 2 none, Cond.methodLink RX1 1 objectInit, Cond.instanceMethod objectInit, Cond.code objectInit ⟨#[0xb1]⟩ 1 none, Cond.arrayClass .int, Cond.fieldLink RX1 9 "MeteredSheets" "kinds" "[I", Cond.fieldLink RX1 13 "MeteredSheets" "ones" "[I", Cond.fieldLink RX1 16 "MeteredSheets" "others" "[I", Cond.fieldLink RX1 19 "MeteredSheets" "numbers" "[I", Cond.fieldLink RX1 22 "MeteredSheets" "values" "[I", Cond.arrayClass .boolean, Cond.fieldLink RX1 25 "MeteredSheets" "marked" "[Z", Cond.fieldLink RX1 29 "MeteredSheets" "order" "[I", Cond.classLink RX1 32 RX0, Cond.instantiable RX0 8]
def wsL_law0_r2 : List Cond := [Cond.initialized RX0, Cond.fieldLink RX1 35 "MeteredSheets" "ledger" "LMeteredSheets$Ledger;", Cond.fieldLink RX1 39 "MeteredSheets" "changed" "[Z", Cond.fieldLink RX1 42 "MeteredSheets" "placed" "[Z", Cond.fieldLink RX1 45 "MeteredSheets" "reaching" "[Z", Cond.fieldLink RX1 48 "MeteredSheets" "fresh" "[I", Cond.instanceMethod yX0_init, Cond.code yX0_init cX0_init 2 none, Cond.methodLink RX0 3 objectInit, Cond.fieldLink RX0 9 "MeteredSheets$Ledger" "prices" "[I", Cond.fieldLink RX0 15 "MeteredSheets$Ledger" "budgets" "[I", Cond.fieldLink RX0 18 "MeteredSheets$Ledger" "earnings" "[I", Cond.fieldLink RX0 21 "MeteredSheets$Ledger" "readsOf" "[I", Cond.fieldLink RX0 24 "MeteredSheets$Ledger" "bills" "[I", Cond.fieldLink RX0 27 "MeteredSheets$Ledger" "counts" "[I", Cond.fieldLink RX0 30 "MeteredSheets$Ledger" "kept" "[I", Cond.fieldLink RX0 33 "MeteredSheets$Ledger" "keptCount" "I", Cond.methodLink RL 72 yX2_init, Cond.instanceMethod yX2_init, Cond.code yX2_init cX2_init 2 none, Cond.methodLink RX2 1 objectInit, Cond.fieldLink RX2 7 "MeteredSheetsModel" "kinds" "[I", Cond.fieldLink RX2 13 "MeteredSheetsModel" "ones" "[I", Cond.fieldLink RX2 16 "MeteredSheetsModel" "others" "[I"]
def wsL_law0_r3 : List Cond := [Cond.fieldLink RX2 19 "MeteredSheetsModel" "numbers" "[I", Cond.fieldLink RX2 22 "MeteredSheetsModel" "values" "[I", Cond.fieldLink RX2 25 "MeteredSheetsModel" "marks" "[I", Cond.fieldLink RX2 28 "MeteredSheetsModel" "changed" "[I", Cond.fieldLink RX2 31 "MeteredSheetsModel" "anew" "[I", Cond.fieldLink RX2 34 "MeteredSheetsModel" "order" "[I", Cond.fieldLink RX2 37 "MeteredSheetsModel" "stands" "[I", Cond.fieldLink RX2 40 "MeteredSheetsModel" "prices" "[I", Cond.fieldLink RX2 43 "MeteredSheetsModel" "budgets" "[I", Cond.fieldLink RX2 46 "MeteredSheetsModel" "earnings" "[I", Cond.fieldLink RX2 49 "MeteredSheetsModel" "costs" "[I", Cond.fieldLink RX2 52 "MeteredSheetsModel" "kept" "[I", Cond.fieldLink RX2 55 "MeteredSheetsModel" "times" "[I", Cond.methodLink RL 73 yL_setNumber, Cond.static yL_setNumber, Cond.initialized RL, Cond.codeWith yL_setNumber cL_setNumber 6 (some .int) [(0, 12, 15, 13)], Cond.classLink RL 13 "java/lang/IllegalArgumentException", Cond.methodLink RL 7 yX1_setNumber, Cond.instanceMethod yX1_setNumber, Cond.selects RX1 yX1_setNumber yX1_setNumber, Cond.code yX1_setNumber cX1_setNumber 4 (some .int), Cond.classLink RX1 63 "java/lang/IllegalArgumentException", Cond.initialized "java/lang/IllegalArgumentException"]
def wsL_law0_r4 : List Cond := [Cond.constant RX1 58 (1000000), Cond.methodLink RX1 51 yX1_isUser, Cond.static yX1_isUser, Cond.code yX1_isUser cX1_isUser 1 (some .boolean), Cond.methodLink RX1 55 yX1_isCell, Cond.static yX1_isCell, Cond.code yX1_isCell cX1_isCell 1 (some .boolean), Cond.methodLink RX1 59 yX1_isWithin, Cond.static yX1_isWithin, Cond.code yX1_isWithin cX1_isWithin 2 (some .boolean), Cond.methodLink RX1 70 yX1_giveFormula, Cond.instanceMethod yX1_giveFormula, Cond.selects RX1 yX1_giveFormula yX1_giveFormula, Cond.code yX1_giveFormula cX1_giveFormula 7 (some .int), Cond.methodLink RX1 152 yX1_putInOrder, Cond.instanceMethod yX1_putInOrder, Cond.selects RX1 yX1_putInOrder yX1_putInOrder, Cond.code yX1_putInOrder cX1_putInOrder 3 none, Cond.methodLink RX1 159 yX1_lowestFreeCell, Cond.instanceMethod yX1_lowestFreeCell, Cond.selects RX1 yX1_lowestFreeCell yX1_lowestFreeCell, Cond.code yX1_lowestFreeCell cX1_lowestFreeCell 2 (some .int), Cond.methodLink RX1 163 yX1_isReady, Cond.instanceMethod yX1_isReady]
def wsL_law0_r5 : List Cond := [Cond.selects RX1 yX1_isReady yX1_isReady, Cond.code yX1_isReady cX1_isReady 2 (some .boolean), Cond.methodLink RX1 149 yX1_isIn, Cond.static yX1_isIn, Cond.code yX1_isIn cX1_isIn 2 (some .boolean), Cond.methodLink RX1 91 yX1_forgetChanges, Cond.instanceMethod yX1_forgetChanges, Cond.selects RX1 yX1_forgetChanges yX1_forgetChanges, Cond.code yX1_forgetChanges cX1_forgetChanges 2 none, Cond.methodLink RX1 155 yX1_compute, Cond.instanceMethod yX1_compute, Cond.selects RX1 yX1_compute yX1_compute, Cond.code yX1_compute cX1_compute 6 none, Cond.methodLink RX1 166 yX1_meteredRead, Cond.static yX1_meteredRead, Cond.code yX1_meteredRead cX1_meteredRead 2 (some .int), Cond.methodLink RX1 174 yX1_sheetOf, Cond.static yX1_sheetOf, Cond.code yX1_sheetOf cX1_sheetOf 1 (some .int), Cond.instanceMethod yX0_paysFor, Cond.selects RX0 yX0_paysFor yX0_paysFor, Cond.code yX0_paysFor cX0_paysFor 7 (some .boolean), Cond.methodLink RX0 41 yX0_costOf, Cond.instanceMethod yX0_costOf]
def wsL_law0_r6 : List Cond := [Cond.selects RX0 yX0_costOf yX0_costOf, Cond.code yX0_costOf cX0_costOf 2 (some .int), Cond.methodLink RX0 44 yX0_enter, Cond.instanceMethod yX0_enter, Cond.selects RX0 yX0_enter yX0_enter, Cond.code yX0_enter cX0_enter 5 none, Cond.methodLink RX1 121 yX1_resultOf, Cond.instanceMethod yX1_resultOf, Cond.selects RX1 yX1_resultOf yX1_resultOf, Cond.code yX1_resultOf cX1_resultOf 5 (some .int), Cond.methodLink RX1 185 Lib.Math.max.name, Cond.static Lib.Math.max.name, Cond.initialized "java/lang/Math", Cond.code Lib.Math.max.name Lib.Math.max.code 2 (some .int), Cond.methodLink RX1 178 yX1_valueIn, Cond.static yX1_valueIn, Cond.code yX1_valueIn cX1_valueIn 2 (some .int), Cond.methodLink RX1 182 yX1_held, Cond.static yX1_held, Cond.code yX1_held cX1_held 1 (some .int), Cond.constant RX1 190 (-1000000), Cond.methodLink RX1 191 Lib.Math.min.name, Cond.static Lib.Math.min.name, Cond.code Lib.Math.min.name Lib.Math.min.code 2 (some .int)]
def wsL_law0_r7 : List Cond := [Cond.methodLink RX1 94 yX1_goThrough, Cond.instanceMethod yX1_goThrough, Cond.selects RX1 yX1_goThrough yX1_goThrough, Cond.code yX1_goThrough cX1_goThrough 6 (some .int), Cond.methodLink RX1 145 yX1_readsOneOf, Cond.instanceMethod yX1_readsOneOf, Cond.selects RX1 yX1_readsOneOf yX1_readsOneOf, Cond.code yX1_readsOneOf cX1_readsOneOf 3 (some .boolean), Cond.methodLink RL 78 yX2_setNumber, Cond.instanceMethod yX2_setNumber, Cond.selects RX2 yX2_setNumber yX2_setNumber, Cond.code yX2_setNumber cX2_setNumber 4 (some .int), Cond.fieldLink RX2 58 "MeteredSheetsModel" "thrown" "I", Cond.constant RX2 74 (-1000000), Cond.constant RX2 73 (1000000), Cond.methodLink RX2 115 yX2_isCaller, Cond.static yX2_isCaller, Cond.code yX2_isCaller cX2_isCaller 2 (some .boolean), Cond.methodLink RX2 62 yX2_in, Cond.static yX2_in, Cond.code yX2_in cX2_in 3 (some .boolean), Cond.methodLink RX2 112 yX2_isCell, Cond.static yX2_isCell, Cond.code yX2_isCell cX2_isCell 1 (some .boolean)]
def wsL_law0_r8 : List Cond := [Cond.methodLink RX2 118 yX2_fails, Cond.instanceMethod yX2_fails, Cond.selects RX2 yX2_fails yX2_fails, Cond.code yX2_fails cX2_fails 2 (some .int), Cond.methodLink RX2 121 yX2_change, Cond.instanceMethod yX2_change, Cond.selects RX2 yX2_change yX2_change, Cond.code yX2_change cX2_change 8 (some .int), Cond.methodLink RX2 104 yX2_compute, Cond.instanceMethod yX2_compute, Cond.selects RX2 yX2_compute yX2_compute, Cond.code yX2_compute cX2_compute 5 none, Cond.methodLink RX2 66 yX2_one, Cond.instanceMethod yX2_one, Cond.selects RX2 yX2_one yX2_one, Cond.code yX2_one cX2_one 2 (some .int), Cond.methodLink RX2 85 yX2_priceOf, Cond.instanceMethod yX2_priceOf, Cond.selects RX2 yX2_priceOf yX2_priceOf, Cond.code yX2_priceOf cX2_priceOf 3 (some .int), Cond.methodLink RX2 78 yX2_isMetered, Cond.static yX2_isMetered, Cond.code yX2_isMetered cX2_isMetered 2 (some .boolean), Cond.methodLink RX2 70 yX2_other]
def wsL_law0_r9 : List Cond := [Cond.instanceMethod yX2_other, Cond.selects RX2 yX2_other yX2_other, Cond.code yX2_other cX2_other 3 (some .int), Cond.methodLink RX2 89 yX2_pay, Cond.instanceMethod yX2_pay, Cond.selects RX2 yX2_pay yX2_pay, Cond.code yX2_pay cX2_pay 5 none, Cond.fieldLink RX2 82 "MeteredSheetsModel" "many" "I", Cond.methodLink RX2 93 yX2_comesTo, Cond.instanceMethod yX2_comesTo, Cond.selects RX2 yX2_comesTo yX2_comesTo, Cond.code yX2_comesTo cX2_comesTo 5 (some .int), Cond.methodLink RX2 75 yX2_held, Cond.static yX2_held, Cond.code yX2_held cX2_held 1 (some .int), Cond.methodLink RX2 108 yX2_goThrough, Cond.instanceMethod yX2_goThrough, Cond.selects RX2 yX2_goThrough yX2_goThrough, Cond.code yX2_goThrough cX2_goThrough 6 (some .int), Cond.methodLink RX2 97 yX2_layOrder, Cond.instanceMethod yX2_layOrder, Cond.selects RX2 yX2_layOrder yX2_layOrder, Cond.code yX2_layOrder cX2_layOrder 6 none, Cond.methodLink RX2 100 yX2_readsChanged]
def wsL_law0_r10 : List Cond := [Cond.instanceMethod yX2_readsChanged, Cond.selects RX2 yX2_readsChanged yX2_readsChanged, Cond.code yX2_readsChanged cX2_readsChanged 2 (some .boolean), Cond.methodLink RL 79 yX2_thrown, Cond.instanceMethod yX2_thrown, Cond.selects RX2 yX2_thrown yX2_thrown, Cond.code yX2_thrown cX2_thrown 1 (some .int), Cond.methodLink RL 83 yL_setSum, Cond.static yL_setSum, Cond.codeWith yL_setSum cL_setSum 8 (some .int) [(0, 16, 19, 13), (0, 16, 23, 19)], Cond.classLink RL 19 "java/lang/IllegalStateException", Cond.methodLink RL 15 yX1_setSum, Cond.instanceMethod yX1_setSum, Cond.selects RX1 yX1_setSum yX1_setSum, Cond.code yX1_setSum cX1_setSum 6 (some .int), Cond.classLink RX1 80 "java/lang/IllegalStateException", Cond.initialized "java/lang/IllegalStateException", Cond.methodLink RX1 76 yX1_wouldReadItself, Cond.instanceMethod yX1_wouldReadItself, Cond.selects RX1 yX1_wouldReadItself yX1_wouldReadItself, Cond.code yX1_wouldReadItself cX1_wouldReadItself 6 (some .boolean), Cond.methodLink RL 86 yX2_setSum, Cond.instanceMethod yX2_setSum, Cond.selects RX2 yX2_setSum yX2_setSum]
def wsL_law0_r11 : List Cond := [Cond.code yX2_setSum cX2_setSum 6 (some .int), Cond.methodLink RX2 125 yX2_reaches, Cond.instanceMethod yX2_reaches, Cond.selects RX2 yX2_reaches yX2_reaches, Cond.code yX2_reaches cX2_reaches 5 (some .boolean), Cond.methodLink RL 87 yL_setGreater, Cond.static yL_setGreater, Cond.codeWith yL_setGreater cL_setGreater 7 (some .int) [(0, 14, 17, 13), (0, 14, 21, 19)], Cond.methodLink RL 21 yX1_setGreater, Cond.instanceMethod yX1_setGreater, Cond.selects RX1 yX1_setGreater yX1_setGreater, Cond.code yX1_setGreater cX1_setGreater 5 (some .int), Cond.methodLink RL 90 yX2_setGreater, Cond.instanceMethod yX2_setGreater, Cond.selects RX2 yX2_setGreater yX2_setGreater, Cond.code yX2_setGreater cX2_setGreater 5 (some .int), Cond.methodLink RL 91 yL_setTimes, Cond.static yL_setTimes, Cond.codeWith yL_setTimes cL_setTimes 7 (some .int) [(0, 14, 17, 13), (0, 14, 21, 19)], Cond.methodLink RL 25 yX1_setTimes, Cond.instanceMethod yX1_setTimes, Cond.selects RX1 yX1_setTimes yX1_setTimes, Cond.code yX1_setTimes cX1_setTimes 5 (some .int), Cond.methodLink RL 93 yX2_setTimes]
def wsL_law0_r12 : List Cond := [Cond.instanceMethod yX2_setTimes, Cond.selects RX2 yX2_setTimes yX2_setTimes, Cond.code yX2_setTimes cX2_setTimes 5 (some .int), Cond.methodLink RL 94 yL_refresh, Cond.static yL_refresh, Cond.codeWith yL_refresh cL_refresh 4 (some .int) [(0, 9, 12, 13)], Cond.methodLink RL 28 yX1_refresh, Cond.instanceMethod yX1_refresh, Cond.selects RX1 yX1_refresh yX1_refresh, Cond.code yX1_refresh cX1_refresh 2 (some .int), Cond.methodLink RL 97 yX2_refresh, Cond.instanceMethod yX2_refresh, Cond.selects RX2 yX2_refresh yX2_refresh, Cond.code yX2_refresh cX2_refresh 3 (some .int), Cond.methodLink RL 98 yL_setPrice, Cond.static yL_setPrice, Cond.codeWith yL_setPrice cL_setPrice 5 (some .int) [(0, 10, 13, 13)], Cond.methodLink RL 32 yX1_setPrice, Cond.instanceMethod yX1_setPrice, Cond.selects RX1 yX1_setPrice yX1_setPrice, Cond.code yX1_setPrice cX1_setPrice 4 (some .int), Cond.methodLink RX1 98 yX1_isSheet, Cond.static yX1_isSheet, Cond.code yX1_isSheet cX1_isSheet 1 (some .boolean)]
def wsL_law0_r13 : List Cond := [Cond.methodLink RL 101 yX2_setPrice, Cond.instanceMethod yX2_setPrice, Cond.selects RX2 yX2_setPrice yX2_setPrice, Cond.code yX2_setPrice cX2_setPrice 4 (some .int), Cond.methodLink RX2 128 yX2_isSheet, Cond.static yX2_isSheet, Cond.code yX2_isSheet cX2_isSheet 1 (some .boolean), Cond.methodLink RL 102 yL_grant, Cond.static yL_grant, Cond.codeWith yL_grant cL_grant 5 (some .int) [(0, 10, 13, 13)], Cond.methodLink RL 36 yX1_grant, Cond.instanceMethod yX1_grant, Cond.selects RX1 yX1_grant yX1_grant, Cond.code yX1_grant cX1_grant 3 (some .int), Cond.methodLink RL 104 yX2_grant, Cond.instanceMethod yX2_grant, Cond.selects RX2 yX2_grant yX2_grant, Cond.code yX2_grant cX2_grant 3 (some .int), Cond.methodLink RL 105 yL_budget, Cond.static yL_budget, Cond.codeWith yL_budget cL_budget 4 (some .int) [(0, 9, 12, 13)], Cond.methodLink RL 39 yX1_budget, Cond.instanceMethod yX1_budget, Cond.selects RX1 yX1_budget yX1_budget]
def wsL_law0_r14 : List Cond := [Cond.code yX1_budget cX1_budget 2 (some .int), Cond.methodLink RL 107 yX2_budget, Cond.instanceMethod yX2_budget, Cond.selects RX2 yX2_budget yX2_budget, Cond.code yX2_budget cX2_budget 2 (some .int), Cond.methodLink RL 108 yL_earned, Cond.static yL_earned, Cond.codeWith yL_earned cL_earned 4 (some .int) [(0, 9, 12, 13)], Cond.methodLink RL 42 yX1_earned, Cond.instanceMethod yX1_earned, Cond.selects RX1 yX1_earned yX1_earned, Cond.code yX1_earned cX1_earned 2 (some .int), Cond.methodLink RL 110 yX2_earned, Cond.instanceMethod yX2_earned, Cond.selects RX2 yX2_earned yX2_earned, Cond.code yX2_earned cX2_earned 2 (some .int), Cond.methodLink RL 111 yL_caused, Cond.static yL_caused, Cond.codeWith yL_caused cL_caused 4 (some .int) [(0, 9, 12, 13)], Cond.methodLink RL 45 yX1_caused, Cond.instanceMethod yX1_caused, Cond.selects RX1 yX1_caused yX1_caused, Cond.code yX1_caused cX1_caused 2 (some .int), Cond.methodLink RL 113 yX2_caused]
def wsL_law0_r15 : List Cond := [Cond.instanceMethod yX2_caused, Cond.selects RX2 yX2_caused yX2_caused, Cond.code yX2_caused cX2_caused 2 (some .int), Cond.methodLink RL 114 yL_value, Cond.static yL_value, Cond.codeWith yL_value cL_value 4 (some .int) [(0, 9, 12, 13)], Cond.methodLink RL 48 yX1_value, Cond.instanceMethod yX1_value, Cond.selects RX1 yX1_value yX1_value, Cond.code yX1_value cX1_value 2 (some .int), Cond.methodLink RL 116 yX2_value, Cond.instanceMethod yX2_value, Cond.selects RX2 yX2_value yX2_value, Cond.code yX2_value cX2_value 2 (some .int), Cond.methodLink RL 117 yL_isMarked, Cond.static yL_isMarked, Cond.codeWith yL_isMarked cL_isMarked 4 (some .int) [(0, 16, 19, 13)], Cond.methodLink RL 51 yX1_isMarked, Cond.instanceMethod yX1_isMarked, Cond.selects RX1 yX1_isMarked yX1_isMarked, Cond.code yX1_isMarked cX1_isMarked 2 (some .boolean), Cond.methodLink RL 119 yX2_isMarked, Cond.instanceMethod yX2_isMarked, Cond.selects RX2 yX2_isMarked yX2_isMarked]
def wsL_law0_r16 : List Cond := [Cond.code yX2_isMarked cX2_isMarked 2 (some .boolean), Cond.methodLink RL 120 yL_valueAnew, Cond.static yL_valueAnew, Cond.codeWith yL_valueAnew cL_valueAnew 4 (some .int) [(0, 9, 12, 13)], Cond.methodLink RL 55 yX1_valueAnew, Cond.instanceMethod yX1_valueAnew, Cond.selects RX1 yX1_valueAnew yX1_valueAnew, Cond.code yX1_valueAnew cX1_valueAnew 4 (some .int), Cond.methodLink RL 122 yX2_valueAnew, Cond.instanceMethod yX2_valueAnew, Cond.selects RX2 yX2_valueAnew yX2_valueAnew, Cond.code yX2_valueAnew cX2_valueAnew 3 (some .int), Cond.methodLink RL 123 yX1_readings, Cond.instanceMethod yX1_readings, Cond.selects RX1 yX1_readings yX1_readings, Cond.code yX1_readings cX1_readings 1 (some .int), Cond.methodLink RL 126 yX2_readings, Cond.instanceMethod yX2_readings, Cond.selects RX2 yX2_readings yX2_readings, Cond.code yX2_readings cX2_readings 1 (some .int), Cond.methodLink RL 127 yL_reading, Cond.static yL_reading, Cond.codeWith yL_reading cL_reading 4 (some .int) [(0, 9, 12, 61)], Cond.classLink RL 61 "java/lang/IndexOutOfBoundsException"]
def wsL_law0_r17 : List Cond := [Cond.methodLink RL 58 yX1_reading, Cond.instanceMethod yX1_reading, Cond.selects RX1 yX1_reading yX1_reading, Cond.code yX1_reading cX1_reading 2 (some .int), Cond.classLink RX1 129 "java/lang/IndexOutOfBoundsException", Cond.initialized "java/lang/IndexOutOfBoundsException", Cond.methodLink RL 129 yX2_reading, Cond.instanceMethod yX2_reading, Cond.selects RX2 yX2_reading yX2_reading, Cond.code yX2_reading cX2_reading 2 (some .int), Cond.methodLink RL 130 yL_timesRead, Cond.static yL_timesRead, Cond.codeWith yL_timesRead cL_timesRead 5 (some .int) [(0, 10, 13, 13)], Cond.methodLink RL 63 yX1_timesRead, Cond.instanceMethod yX1_timesRead, Cond.selects RX1 yX1_timesRead yX1_timesRead, Cond.code yX1_timesRead cX1_timesRead 3 (some .int), Cond.methodLink RL 132 yX2_timesRead, Cond.instanceMethod yX2_timesRead, Cond.selects RX2 yX2_timesRead yX2_timesRead, Cond.code yX2_timesRead cX2_timesRead 3 (some .int), Cond.methodLink RL 133 yL_readOf, Cond.static yL_readOf, Cond.codeWith yL_readOf cL_readOf 4 (some .int) [(0, 9, 12, 13)]]
def wsL_law0_r18 : List Cond := [Cond.methodLink RL 66 yX1_readOf, Cond.instanceMethod yX1_readOf, Cond.selects RX1 yX1_readOf yX1_readOf, Cond.code yX1_readOf cX1_readOf 2 (some .int), Cond.methodLink RL 135 yX2_readOf, Cond.instanceMethod yX2_readOf, Cond.selects RX2 yX2_readOf yX2_readOf, Cond.code yX2_readOf cX2_readOf 4 (some .int)]
def wsL_law0 : List Cond := (wsL_law0_r1 ++ (wsL_law0_r2 ++ (wsL_law0_r3 ++ (wsL_law0_r4 ++ (wsL_law0_r5 ++ (wsL_law0_r6 ++ (wsL_law0_r7 ++ (wsL_law0_r8 ++ (wsL_law0_r9 ++ (wsL_law0_r10 ++ (wsL_law0_r11 ++ (wsL_law0_r12 ++ (wsL_law0_r13 ++ (wsL_law0_r14 ++ (wsL_law0_r15 ++ (wsL_law0_r16 ++ (wsL_law0_r17 ++ wsL_law0_r18))))))))))))))))) ++ wsX10 ++ wsX20 ++ wsX00 ++ ([] : List Cond)
def wsL_law : List Cond := wsL_law0 ++ (vx_atS RX1 67 "java/lang/IllegalArgumentException" ["java/lang/RuntimeException", "java/lang/Exception"]).filter goodWord ++ (vx_atS RX1 84 "java/lang/IllegalStateException" ["java/lang/RuntimeException", "java/lang/Exception"]).filter goodWord ++ (vx_atS RX1 133 "java/lang/IndexOutOfBoundsException" ["java/lang/RuntimeException", "java/lang/Exception"]).filter goodWord
set_option maxRecDepth 20000 in
theorem wsL_law0_r1_in : ∀ w ∈ wsL_law0_r1, w ∈ lw_tbl := fun w h => (goodIn_p wsL_law0_r1 [41, 44] (by decide +kernel) (by decide +kernel) w h).1
set_option maxRecDepth 20000 in
theorem wsL_law0_r2_in : ∀ w ∈ wsL_law0_r2, w ∈ lw_tbl := fun w h => (goodIn_p wsL_law0_r2 [49, 444] (by decide +kernel) (by decide +kernel) w h).1
set_option maxRecDepth 20000 in
theorem wsL_law0_r3_in : ∀ w ∈ wsL_law0_r3, w ∈ lw_tbl := fun w h => (goodIn_p wsL_law0_r3 [134] (by decide +kernel) (by decide +kernel) w h).1
set_option maxRecDepth 20000 in
theorem wsL_law0_r4_in : ∀ w ∈ wsL_law0_r4, w ∈ lw_tbl := fun w h => (goodIn_p wsL_law0_r4 [137, 140, 144, 216, 220, 224] (by decide +kernel) (by decide +kernel) w h).1
set_option maxRecDepth 20000 in
theorem wsL_law0_r5_in : ∀ w ∈ wsL_law0_r5, w ∈ lw_tbl := fun w h => (goodIn_p wsL_law0_r5 [228, 231, 235, 239, 242, 245, 249] (by decide +kernel) (by decide +kernel) w h).1
set_option maxRecDepth 20000 in
theorem wsL_law0_r6_in : ∀ w ∈ wsL_law0_r6, w ∈ lw_tbl := fun w h => (goodIn_p wsL_law0_r6 [254, 259, 263, 276, 266, 269, 273] (by decide +kernel) (by decide +kernel) w h).1
set_option maxRecDepth 20000 in
theorem wsL_law0_r7_in : ∀ w ∈ wsL_law0_r7, w ∈ lw_tbl := fun w h => (goodIn_p wsL_law0_r7 [280, 284, 508, 511, 514, 517] (by decide +kernel) (by decide +kernel) w h).1
set_option maxRecDepth 20000 in
theorem wsL_law0_r8_in : ∀ w ∈ wsL_law0_r8, w ∈ lw_tbl := fun w h => (goodIn_p wsL_law0_r8 [523, 527, 531, 535, 539, 542] (by decide +kernel) (by decide +kernel) w h).1
set_option maxRecDepth 20000 in
theorem wsL_law0_r9_in : ∀ w ∈ wsL_law0_r9, w ∈ lw_tbl := fun w h => (goodIn_p wsL_law0_r9 [546, 550, 554, 557, 561, 565] (by decide +kernel) (by decide +kernel) w h).1
set_option maxRecDepth 20000 in
theorem wsL_law0_r10_in : ∀ w ∈ wsL_law0_r10, w ∈ lw_tbl := fun w h => (goodIn_p wsL_law0_r10 [569, 504, 292, 297] (by decide +kernel) (by decide +kernel) w h).1
set_option maxRecDepth 20000 in
theorem wsL_law0_r11_in : ∀ w ∈ wsL_law0_r11, w ∈ lw_tbl := fun w h => (goodIn_p wsL_law0_r11 [573, 577, 320, 581, 328] (by decide +kernel) (by decide +kernel) w h).1
set_option maxRecDepth 20000 in
theorem wsL_law0_r12_in : ∀ w ∈ wsL_law0_r12, w ∈ lw_tbl := fun w h => (goodIn_p wsL_law0_r12 [585, 336, 589, 344, 347] (by decide +kernel) (by decide +kernel) w h).1
set_option maxRecDepth 20000 in
theorem wsL_law0_r13_in : ∀ w ∈ wsL_law0_r13, w ∈ lw_tbl := fun w h => (goodIn_p wsL_law0_r13 [593, 596, 355, 600] (by decide +kernel) (by decide +kernel) w h).1
set_option maxRecDepth 20000 in
theorem wsL_law0_r14_in : ∀ w ∈ wsL_law0_r14, w ∈ lw_tbl := fun w h => (goodIn_p wsL_law0_r14 [363, 604, 371, 608, 378] (by decide +kernel) (by decide +kernel) w h).1
set_option maxRecDepth 20000 in
theorem wsL_law0_r15_in : ∀ w ∈ wsL_law0_r15, w ∈ lw_tbl := fun w h => (goodIn_p wsL_law0_r15 [612, 385, 616, 393] (by decide +kernel) (by decide +kernel) w h).1
set_option maxRecDepth 20000 in
theorem wsL_law0_r16_in : ∀ w ∈ wsL_law0_r16, w ∈ lw_tbl := fun w h => (goodIn_p wsL_law0_r16 [620, 400, 624, 126, 628] (by decide +kernel) (by decide +kernel) w h).1
set_option maxRecDepth 20000 in
theorem wsL_law0_r17_in : ∀ w ∈ wsL_law0_r17, w ∈ lw_tbl := fun w h => (goodIn_p wsL_law0_r17 [408, 632, 431, 636] (by decide +kernel) (by decide +kernel) w h).1
set_option maxRecDepth 20000 in
theorem wsL_law0_r18_in : ∀ w ∈ wsL_law0_r18, w ∈ lw_tbl := fun w h => (goodIn_p wsL_law0_r18 [439, 640] (by decide +kernel) (by decide +kernel) w h).1
set_option maxRecDepth 20000 in
theorem wsX10_in0 : ∀ w ∈ wsX10, w ∈ lw_tbl := by decide +kernel
set_option maxRecDepth 20000 in
theorem wsX20_in0 : ∀ w ∈ wsX20, w ∈ lw_tbl := by decide +kernel
set_option maxRecDepth 20000 in
theorem wsX00_in0 : ∀ w ∈ wsX00, w ∈ lw_tbl := by decide +kernel
theorem wsL_law_in0 : ∀ w ∈ wsL_law0, w ∈ lw_tbl := fun w h => (List.mem_append.mp h).elim (fun h => (List.mem_append.mp h).elim (fun h => (List.mem_append.mp h).elim (fun h => (List.mem_append.mp h).elim (fun h => (List.mem_append.mp h).elim (fun h => wsL_law0_r1_in w h) (fun h => (List.mem_append.mp h).elim (fun h => wsL_law0_r2_in w h) (fun h => (List.mem_append.mp h).elim (fun h => wsL_law0_r3_in w h) (fun h => (List.mem_append.mp h).elim (fun h => wsL_law0_r4_in w h) (fun h => (List.mem_append.mp h).elim (fun h => wsL_law0_r5_in w h) (fun h => (List.mem_append.mp h).elim (fun h => wsL_law0_r6_in w h) (fun h => (List.mem_append.mp h).elim (fun h => wsL_law0_r7_in w h) (fun h => (List.mem_append.mp h).elim (fun h => wsL_law0_r8_in w h) (fun h => (List.mem_append.mp h).elim (fun h => wsL_law0_r9_in w h) (fun h => (List.mem_append.mp h).elim (fun h => wsL_law0_r10_in w h) (fun h => (List.mem_append.mp h).elim (fun h => wsL_law0_r11_in w h) (fun h => (List.mem_append.mp h).elim (fun h => wsL_law0_r12_in w h) (fun h => (List.mem_append.mp h).elim (fun h => wsL_law0_r13_in w h) (fun h => (List.mem_append.mp h).elim (fun h => wsL_law0_r14_in w h) (fun h => (List.mem_append.mp h).elim (fun h => wsL_law0_r15_in w h) (fun h => (List.mem_append.mp h).elim (fun h => wsL_law0_r16_in w h) (fun h => (List.mem_append.mp h).elim (fun h => wsL_law0_r17_in w h) (fun h => wsL_law0_r18_in w h)))))))))))))))))) (fun h => wsX10_in0 w h)) (fun h => wsX20_in0 w h)) (fun h => wsX00_in0 w h)) (fun h => nomatch h)
theorem wsL_law_x0 : ∀ w ∈ (vx_atS RX1 67 "java/lang/IllegalArgumentException" ["java/lang/RuntimeException", "java/lang/Exception"]).filter goodWord, w ∈ lw_tbl := by decide +kernel
theorem wsL_law_x1 : ∀ w ∈ (vx_atS RX1 84 "java/lang/IllegalStateException" ["java/lang/RuntimeException", "java/lang/Exception"]).filter goodWord, w ∈ lw_tbl := by decide +kernel
theorem wsL_law_x2 : ∀ w ∈ (vx_atS RX1 133 "java/lang/IndexOutOfBoundsException" ["java/lang/RuntimeException", "java/lang/Exception"]).filter goodWord, w ∈ lw_tbl := by decide +kernel
theorem wsL_law_in : ∀ w ∈ wsL_law, w ∈ lw_tbl := fun w h => (List.mem_append.mp h).elim (fun h => (List.mem_append.mp h).elim (fun h => (List.mem_append.mp h).elim (fun h => wsL_law_in0 w h) (fun h => wsL_law_x0 w h)) (fun h => wsL_law_x1 w h)) (fun h => wsL_law_x2 w h)
theorem inlX0 : ∀ w ∈ wsX00, w ∈ wsL_law := fun _ h => List.mem_append_left _ (List.mem_append_left _ (List.mem_append_left _ (List.mem_append_left _ (List.mem_append_right _ h))))
theorem inX0 : ∀ w ∈ wsX00, w ∈ lw_tbl := fun w h => wsL_law_in w (inlX0 w h)
theorem inlX1 : ∀ w ∈ wsX10, w ∈ wsL_law := fun _ h => List.mem_append_left _ (List.mem_append_left _ (List.mem_append_left _ (List.mem_append_left _ (List.mem_append_left _ (List.mem_append_left _ (List.mem_append_right _ h))))))
theorem inX1 : ∀ w ∈ wsX10, w ∈ lw_tbl := fun w h => wsL_law_in w (inlX1 w h)
theorem inlX2 : ∀ w ∈ wsX20, w ∈ wsL_law := fun _ h => List.mem_append_left _ (List.mem_append_left _ (List.mem_append_left _ (List.mem_append_left _ (List.mem_append_left _ (List.mem_append_right _ h)))))
theorem inX2 : ∀ w ∈ wsX20, w ∈ lw_tbl := fun w h => wsL_law_in w (inlX2 w h)
theorem inJ9 : ∀ w ∈ wsJ90, w ∈ lw_tbl := by decide +kernel
theorem inJ0 : ∀ w ∈ wsJ00, w ∈ lw_tbl := by decide +kernel
theorem dX0_init_0 : decode cX0_init 0 = .ok (.aload_n 0, 1) := by decide +kernel
theorem dX0_init_1 : decode cX0_init 1 = .ok (.invokespecial 3, 3) := by decide +kernel
theorem dX0_init_4 : decode cX0_init 4 = .ok (.aload_n 0, 1) := by decide +kernel
theorem dX0_init_5 : decode cX0_init 5 = .ok (.iconst 4, 1) := by decide +kernel
theorem dX0_init_6 : decode cX0_init 6 = .ok (.newarray .int, 2) := by decide +kernel
theorem dX0_init_8 : decode cX0_init 8 = .ok (.putfield 9, 3) := by decide +kernel
theorem dX0_init_11 : decode cX0_init 11 = .ok (.aload_n 0, 1) := by decide +kernel
theorem dX0_init_12 : decode cX0_init 12 = .ok (.iconst 4, 1) := by decide +kernel
theorem dX0_init_13 : decode cX0_init 13 = .ok (.newarray .int, 2) := by decide +kernel
theorem dX0_init_15 : decode cX0_init 15 = .ok (.putfield 15, 3) := by decide +kernel
theorem dX0_init_18 : decode cX0_init 18 = .ok (.aload_n 0, 1) := by decide +kernel
theorem dX0_init_19 : decode cX0_init 19 = .ok (.iconst 4, 1) := by decide +kernel
theorem dX0_init_20 : decode cX0_init 20 = .ok (.newarray .int, 2) := by decide +kernel
theorem dX0_init_22 : decode cX0_init 22 = .ok (.putfield 18, 3) := by decide +kernel
theorem dX0_init_25 : decode cX0_init 25 = .ok (.aload_n 0, 1) := by decide +kernel
theorem dX0_init_26 : decode cX0_init 26 = .ok (.iconst 4, 1) := by decide +kernel
theorem dX0_init_27 : decode cX0_init 27 = .ok (.newarray .int, 2) := by decide +kernel
theorem dX0_init_29 : decode cX0_init 29 = .ok (.putfield 21, 3) := by decide +kernel
theorem dX0_init_32 : decode cX0_init 32 = .ok (.aload_n 0, 1) := by decide +kernel
theorem dX0_init_33 : decode cX0_init 33 = .ok (.iconst 5, 1) := by decide +kernel
theorem dX0_init_34 : decode cX0_init 34 = .ok (.newarray .int, 2) := by decide +kernel
theorem dX0_init_36 : decode cX0_init 36 = .ok (.putfield 24, 3) := by decide +kernel
theorem dX0_init_39 : decode cX0_init 39 = .ok (.aload_n 0, 1) := by decide +kernel
theorem dX0_init_40 : decode cX0_init 40 = .ok (.sipush 576, 3) := by decide +kernel
theorem dX0_init_43 : decode cX0_init 43 = .ok (.newarray .int, 2) := by decide +kernel
theorem dX0_init_45 : decode cX0_init 45 = .ok (.putfield 27, 3) := by decide +kernel
theorem dX0_init_48 : decode cX0_init 48 = .ok (.aload_n 0, 1) := by decide +kernel
theorem dX0_init_49 : decode cX0_init 49 = .ok (.sipush 500, 3) := by decide +kernel
theorem dX0_init_52 : decode cX0_init 52 = .ok (.newarray .int, 2) := by decide +kernel
theorem dX0_init_54 : decode cX0_init 54 = .ok (.putfield 30, 3) := by decide +kernel
theorem dX0_init_57 : decode cX0_init 57 = .ok (.aload_n 0, 1) := by decide +kernel
theorem dX0_init_58 : decode cX0_init 58 = .ok (.iconst 0, 1) := by decide +kernel
theorem dX0_init_59 : decode cX0_init 59 = .ok (.putfield 33, 3) := by decide +kernel
theorem dX0_init_62 : decode cX0_init 62 = .ok (.iconst 0, 1) := by decide +kernel
theorem dX0_init_63 : decode cX0_init 63 = .ok (.istore_n 1, 1) := by decide +kernel
theorem dX0_init_64 : decode cX0_init 64 = .ok (.iload_n 1, 1) := by decide +kernel
theorem dX0_init_65 : decode cX0_init 65 = .ok (.iconst 4, 1) := by decide +kernel
theorem dX0_init_66 : decode cX0_init 66 = .ok (.if_icmp .ge 24, 3) := by decide +kernel
theorem dX0_init_69 : decode cX0_init 69 = .ok (.aload_n 0, 1) := by decide +kernel
theorem dX0_init_70 : decode cX0_init 70 = .ok (.getfield 9, 3) := by decide +kernel
theorem dX0_init_73 : decode cX0_init 73 = .ok (.iload_n 1, 1) := by decide +kernel
theorem dX0_init_74 : decode cX0_init 74 = .ok (.iconst 1, 1) := by decide +kernel
theorem dX0_init_75 : decode cX0_init 75 = .ok (.iastore, 1) := by decide +kernel
theorem dX0_init_76 : decode cX0_init 76 = .ok (.aload_n 0, 1) := by decide +kernel
theorem dX0_init_77 : decode cX0_init 77 = .ok (.getfield 15, 3) := by decide +kernel
theorem dX0_init_80 : decode cX0_init 80 = .ok (.iload_n 1, 1) := by decide +kernel
theorem dX0_init_81 : decode cX0_init 81 = .ok (.bipush 100, 2) := by decide +kernel
theorem dX0_init_83 : decode cX0_init 83 = .ok (.iastore, 1) := by decide +kernel
theorem dX0_init_84 : decode cX0_init 84 = .ok (.iinc 1 1, 3) := by decide +kernel
theorem dX0_init_87 : decode cX0_init 87 = .ok (.goto (-23), 3) := by decide +kernel
theorem dX0_init_90 : decode cX0_init 90 = .ok (.return_, 1) := by decide +kernel
set_option maxRecDepth 20000 in
theorem ggX0_paysFor_X1_sheetOf : GoodIn wsX0_paysFor wsX1_sheetOf := goodIn_r _ [4] (by decide +kernel) (by decide +kernel)
set_option maxRecDepth 20000 in
theorem gX0_paysFor_X1_sheetOf_n37 : GoodIn wsX0_paysFor (wsX1_sheetOf) := ggX0_paysFor_X1_sheetOf
set_option maxRecDepth 20000 in
theorem ggX0_paysFor_X0_costOf : GoodIn wsX0_paysFor wsX0_costOf := goodIn_r _ [9, 10, 11, 3, 12, 2, 4, 23, 24, 25, 26, 27, 28, 29, 30] (by decide +kernel) (by decide +kernel)
set_option maxRecDepth 20000 in
theorem gX0_paysFor_X0_costOf : GoodIn wsX0_paysFor (wsV RX0 41 RX0 yX0_costOf wsX0_costOf) := goodIn_app (goodIn_of _ (by decide +kernel)) ggX0_paysFor_X0_costOf
set_option maxRecDepth 20000 in
theorem ggX0_paysFor_X0_enter : GoodIn wsX0_paysFor wsX0_enter := goodIn_r _ [16, 17, 10, 18, 19, 20, 21, 22, 11, 3, 12, 2, 4, 23, 24, 25, 26, 27, 28, 29, 30] (by decide +kernel) (by decide +kernel)
set_option maxRecDepth 20000 in
theorem gX0_paysFor_X0_enter : GoodIn wsX0_paysFor (wsV RX0 44 RX0 yX0_enter wsX0_enter) := goodIn_app (goodIn_of _ (by decide +kernel)) ggX0_paysFor_X0_enter
theorem dX0_paysFor_0 : decode cX0_paysFor 0 = .ok (.iload_n 2, 1) := by decide +kernel
theorem dX0_paysFor_1 : decode cX0_paysFor 1 = .ok (.invokestatic 37, 3) := by decide +kernel
theorem dX0_paysFor_4 : decode cX0_paysFor 4 = .ok (.istore 5, 2) := by decide +kernel
theorem dX0_paysFor_6 : decode cX0_paysFor 6 = .ok (.aload_n 0, 1) := by decide +kernel
theorem dX0_paysFor_7 : decode cX0_paysFor 7 = .ok (.iload_n 3, 1) := by decide +kernel
theorem dX0_paysFor_8 : decode cX0_paysFor 8 = .ok (.invokevirtual 41, 3) := by decide +kernel
theorem dX0_paysFor_11 : decode cX0_paysFor 11 = .ok (.aload_n 0, 1) := by decide +kernel
theorem dX0_paysFor_12 : decode cX0_paysFor 12 = .ok (.iload 4, 2) := by decide +kernel
theorem dX0_paysFor_14 : decode cX0_paysFor 14 = .ok (.invokevirtual 41, 3) := by decide +kernel
theorem dX0_paysFor_17 : decode cX0_paysFor 17 = .ok (.iadd, 1) := by decide +kernel
theorem dX0_paysFor_18 : decode cX0_paysFor 18 = .ok (.istore 6, 2) := by decide +kernel
theorem dX0_paysFor_20 : decode cX0_paysFor 20 = .ok (.aload_n 0, 1) := by decide +kernel
theorem dX0_paysFor_21 : decode cX0_paysFor 21 = .ok (.getfield 15, 3) := by decide +kernel
theorem dX0_paysFor_24 : decode cX0_paysFor 24 = .ok (.iload 5, 2) := by decide +kernel
theorem dX0_paysFor_26 : decode cX0_paysFor 26 = .ok (.iaload, 1) := by decide +kernel
theorem dX0_paysFor_27 : decode cX0_paysFor 27 = .ok (.iload 6, 2) := by decide +kernel
theorem dX0_paysFor_29 : decode cX0_paysFor 29 = .ok (.if_icmp .ge 5, 3) := by decide +kernel
theorem dX0_paysFor_32 : decode cX0_paysFor 32 = .ok (.iconst 0, 1) := by decide +kernel
theorem dX0_paysFor_33 : decode cX0_paysFor 33 = .ok (.ireturn, 1) := by decide +kernel
theorem dX0_paysFor_34 : decode cX0_paysFor 34 = .ok (.aload_n 0, 1) := by decide +kernel
theorem dX0_paysFor_35 : decode cX0_paysFor 35 = .ok (.getfield 15, 3) := by decide +kernel
theorem dX0_paysFor_38 : decode cX0_paysFor 38 = .ok (.iload 5, 2) := by decide +kernel
theorem dX0_paysFor_40 : decode cX0_paysFor 40 = .ok (.dup2, 1) := by decide +kernel
theorem dX0_paysFor_41 : decode cX0_paysFor 41 = .ok (.iaload, 1) := by decide +kernel
theorem dX0_paysFor_42 : decode cX0_paysFor 42 = .ok (.iload 6, 2) := by decide +kernel
theorem dX0_paysFor_44 : decode cX0_paysFor 44 = .ok (.isub, 1) := by decide +kernel
theorem dX0_paysFor_45 : decode cX0_paysFor 45 = .ok (.iastore, 1) := by decide +kernel
theorem dX0_paysFor_46 : decode cX0_paysFor 46 = .ok (.aload_n 0, 1) := by decide +kernel
theorem dX0_paysFor_47 : decode cX0_paysFor 47 = .ok (.iload_n 1, 1) := by decide +kernel
theorem dX0_paysFor_48 : decode cX0_paysFor 48 = .ok (.iload_n 2, 1) := by decide +kernel
theorem dX0_paysFor_49 : decode cX0_paysFor 49 = .ok (.iload_n 3, 1) := by decide +kernel
theorem dX0_paysFor_50 : decode cX0_paysFor 50 = .ok (.invokevirtual 44, 3) := by decide +kernel
theorem dX0_paysFor_53 : decode cX0_paysFor 53 = .ok (.aload_n 0, 1) := by decide +kernel
theorem dX0_paysFor_54 : decode cX0_paysFor 54 = .ok (.iload_n 1, 1) := by decide +kernel
theorem dX0_paysFor_55 : decode cX0_paysFor 55 = .ok (.iload_n 2, 1) := by decide +kernel
theorem dX0_paysFor_56 : decode cX0_paysFor 56 = .ok (.iload 4, 2) := by decide +kernel
theorem dX0_paysFor_58 : decode cX0_paysFor 58 = .ok (.invokevirtual 44, 3) := by decide +kernel
theorem dX0_paysFor_61 : decode cX0_paysFor 61 = .ok (.iconst 1, 1) := by decide +kernel
theorem dX0_paysFor_62 : decode cX0_paysFor 62 = .ok (.ireturn, 1) := by decide +kernel
set_option maxRecDepth 20000 in
theorem ggX0_costOf_X1_isCell : GoodIn wsX0_costOf wsX1_isCell := goodIn_r _ [4] (by decide +kernel) (by decide +kernel)
set_option maxRecDepth 20000 in
theorem gX0_costOf_X1_isCell_n48 : GoodIn wsX0_costOf (wsX1_isCell) := ggX0_costOf_X1_isCell
set_option maxRecDepth 20000 in
theorem ggX0_costOf_X1_sheetOf : GoodIn wsX0_costOf wsX1_sheetOf := goodIn_r _ [6] (by decide +kernel) (by decide +kernel)
set_option maxRecDepth 20000 in
theorem gX0_costOf_X1_sheetOf_n37 : GoodIn wsX0_costOf (wsX1_sheetOf) := ggX0_costOf_X1_sheetOf
theorem dX0_costOf_0 : decode cX0_costOf 0 = .ok (.iload_n 1, 1) := by decide +kernel
theorem dX0_costOf_1 : decode cX0_costOf 1 = .ok (.invokestatic 48, 3) := by decide +kernel
theorem dX0_costOf_4 : decode cX0_costOf 4 = .ok (.ifCond .eq 15, 3) := by decide +kernel
theorem dX0_costOf_7 : decode cX0_costOf 7 = .ok (.aload_n 0, 1) := by decide +kernel
theorem dX0_costOf_8 : decode cX0_costOf 8 = .ok (.getfield 9, 3) := by decide +kernel
theorem dX0_costOf_11 : decode cX0_costOf 11 = .ok (.iload_n 1, 1) := by decide +kernel
theorem dX0_costOf_12 : decode cX0_costOf 12 = .ok (.invokestatic 37, 3) := by decide +kernel
theorem dX0_costOf_15 : decode cX0_costOf 15 = .ok (.iaload, 1) := by decide +kernel
theorem dX0_costOf_16 : decode cX0_costOf 16 = .ok (.goto 4, 3) := by decide +kernel
theorem dX0_costOf_19 : decode cX0_costOf 19 = .ok (.iconst 0, 1) := by decide +kernel
theorem dX0_costOf_20 : decode cX0_costOf 20 = .ok (.ireturn, 1) := by decide +kernel
set_option maxRecDepth 20000 in
theorem ggX0_enter_X1_isCell : GoodIn wsX0_enter wsX1_isCell := goodIn_r _ [10] (by decide +kernel) (by decide +kernel)
set_option maxRecDepth 20000 in
theorem gX0_enter_X1_isCell_n48 : GoodIn wsX0_enter (wsX1_isCell) := ggX0_enter_X1_isCell
set_option maxRecDepth 20000 in
theorem ggX0_enter_X1_sheetOf : GoodIn wsX0_enter wsX1_sheetOf := goodIn_r _ [12] (by decide +kernel) (by decide +kernel)
set_option maxRecDepth 20000 in
theorem gX0_enter_X1_sheetOf_n37 : GoodIn wsX0_enter (wsX1_sheetOf) := ggX0_enter_X1_sheetOf
theorem dX0_enter_0 : decode cX0_enter 0 = .ok (.iload_n 3, 1) := by decide +kernel
theorem dX0_enter_1 : decode cX0_enter 1 = .ok (.invokestatic 48, 3) := by decide +kernel
theorem dX0_enter_4 : decode cX0_enter 4 = .ok (.ifCond .ne 4, 3) := by decide +kernel
theorem dX0_enter_7 : decode cX0_enter 7 = .ok (.return_, 1) := by decide +kernel
theorem dX0_enter_8 : decode cX0_enter 8 = .ok (.iload_n 3, 1) := by decide +kernel
theorem dX0_enter_9 : decode cX0_enter 9 = .ok (.invokestatic 37, 3) := by decide +kernel
theorem dX0_enter_12 : decode cX0_enter 12 = .ok (.istore 4, 2) := by decide +kernel
theorem dX0_enter_14 : decode cX0_enter 14 = .ok (.aload_n 0, 1) := by decide +kernel
theorem dX0_enter_15 : decode cX0_enter 15 = .ok (.getfield 18, 3) := by decide +kernel
theorem dX0_enter_18 : decode cX0_enter 18 = .ok (.iload 4, 2) := by decide +kernel
theorem dX0_enter_20 : decode cX0_enter 20 = .ok (.dup2, 1) := by decide +kernel
theorem dX0_enter_21 : decode cX0_enter 21 = .ok (.iaload, 1) := by decide +kernel
theorem dX0_enter_22 : decode cX0_enter 22 = .ok (.aload_n 0, 1) := by decide +kernel
theorem dX0_enter_23 : decode cX0_enter 23 = .ok (.getfield 9, 3) := by decide +kernel
theorem dX0_enter_26 : decode cX0_enter 26 = .ok (.iload 4, 2) := by decide +kernel
theorem dX0_enter_28 : decode cX0_enter 28 = .ok (.iaload, 1) := by decide +kernel
theorem dX0_enter_29 : decode cX0_enter 29 = .ok (.iadd, 1) := by decide +kernel
theorem dX0_enter_30 : decode cX0_enter 30 = .ok (.iastore, 1) := by decide +kernel
theorem dX0_enter_31 : decode cX0_enter 31 = .ok (.aload_n 0, 1) := by decide +kernel
theorem dX0_enter_32 : decode cX0_enter 32 = .ok (.getfield 24, 3) := by decide +kernel
theorem dX0_enter_35 : decode cX0_enter 35 = .ok (.iload_n 1, 1) := by decide +kernel
theorem dX0_enter_36 : decode cX0_enter 36 = .ok (.dup2, 1) := by decide +kernel
theorem dX0_enter_37 : decode cX0_enter 37 = .ok (.iaload, 1) := by decide +kernel
theorem dX0_enter_38 : decode cX0_enter 38 = .ok (.aload_n 0, 1) := by decide +kernel
theorem dX0_enter_39 : decode cX0_enter 39 = .ok (.getfield 9, 3) := by decide +kernel
theorem dX0_enter_42 : decode cX0_enter 42 = .ok (.iload 4, 2) := by decide +kernel
theorem dX0_enter_44 : decode cX0_enter 44 = .ok (.iaload, 1) := by decide +kernel
theorem dX0_enter_45 : decode cX0_enter 45 = .ok (.iadd, 1) := by decide +kernel
theorem dX0_enter_46 : decode cX0_enter 46 = .ok (.iastore, 1) := by decide +kernel
theorem dX0_enter_47 : decode cX0_enter 47 = .ok (.aload_n 0, 1) := by decide +kernel
theorem dX0_enter_48 : decode cX0_enter 48 = .ok (.getfield 21, 3) := by decide +kernel
theorem dX0_enter_51 : decode cX0_enter 51 = .ok (.iload 4, 2) := by decide +kernel
theorem dX0_enter_53 : decode cX0_enter 53 = .ok (.dup2, 1) := by decide +kernel
theorem dX0_enter_54 : decode cX0_enter 54 = .ok (.iaload, 1) := by decide +kernel
theorem dX0_enter_55 : decode cX0_enter 55 = .ok (.iconst 1, 1) := by decide +kernel
theorem dX0_enter_56 : decode cX0_enter 56 = .ok (.iadd, 1) := by decide +kernel
theorem dX0_enter_57 : decode cX0_enter 57 = .ok (.iastore, 1) := by decide +kernel
theorem dX0_enter_58 : decode cX0_enter 58 = .ok (.aload_n 0, 1) := by decide +kernel
theorem dX0_enter_59 : decode cX0_enter 59 = .ok (.getfield 27, 3) := by decide +kernel
theorem dX0_enter_62 : decode cX0_enter 62 = .ok (.iload_n 2, 1) := by decide +kernel
theorem dX0_enter_63 : decode cX0_enter 63 = .ok (.bipush 24, 2) := by decide +kernel
theorem dX0_enter_65 : decode cX0_enter 65 = .ok (.imul, 1) := by decide +kernel
theorem dX0_enter_66 : decode cX0_enter 66 = .ok (.iload_n 3, 1) := by decide +kernel
theorem dX0_enter_67 : decode cX0_enter 67 = .ok (.iadd, 1) := by decide +kernel
theorem dX0_enter_68 : decode cX0_enter 68 = .ok (.dup2, 1) := by decide +kernel
theorem dX0_enter_69 : decode cX0_enter 69 = .ok (.iaload, 1) := by decide +kernel
theorem dX0_enter_70 : decode cX0_enter 70 = .ok (.iconst 1, 1) := by decide +kernel
theorem dX0_enter_71 : decode cX0_enter 71 = .ok (.iadd, 1) := by decide +kernel
theorem dX0_enter_72 : decode cX0_enter 72 = .ok (.iastore, 1) := by decide +kernel
theorem dX0_enter_73 : decode cX0_enter 73 = .ok (.aload_n 0, 1) := by decide +kernel
theorem dX0_enter_74 : decode cX0_enter 74 = .ok (.getfield 33, 3) := by decide +kernel
theorem dX0_enter_77 : decode cX0_enter 77 = .ok (.sipush 500, 3) := by decide +kernel
theorem dX0_enter_80 : decode cX0_enter 80 = .ok (.if_icmp .ge 34, 3) := by decide +kernel
theorem dX0_enter_83 : decode cX0_enter 83 = .ok (.aload_n 0, 1) := by decide +kernel
theorem dX0_enter_84 : decode cX0_enter 84 = .ok (.getfield 30, 3) := by decide +kernel
theorem dX0_enter_87 : decode cX0_enter 87 = .ok (.aload_n 0, 1) := by decide +kernel
theorem dX0_enter_88 : decode cX0_enter 88 = .ok (.getfield 33, 3) := by decide +kernel
theorem dX0_enter_91 : decode cX0_enter 91 = .ok (.sipush 10000, 3) := by decide +kernel
theorem dX0_enter_94 : decode cX0_enter 94 = .ok (.iload_n 1, 1) := by decide +kernel
theorem dX0_enter_95 : decode cX0_enter 95 = .ok (.imul, 1) := by decide +kernel
theorem dX0_enter_96 : decode cX0_enter 96 = .ok (.bipush 100, 2) := by decide +kernel
theorem dX0_enter_98 : decode cX0_enter 98 = .ok (.iload_n 2, 1) := by decide +kernel
theorem dX0_enter_99 : decode cX0_enter 99 = .ok (.imul, 1) := by decide +kernel
theorem dX0_enter_100 : decode cX0_enter 100 = .ok (.iadd, 1) := by decide +kernel
theorem dX0_enter_101 : decode cX0_enter 101 = .ok (.iload_n 3, 1) := by decide +kernel
theorem dX0_enter_102 : decode cX0_enter 102 = .ok (.iadd, 1) := by decide +kernel
theorem dX0_enter_103 : decode cX0_enter 103 = .ok (.iastore, 1) := by decide +kernel
theorem dX0_enter_104 : decode cX0_enter 104 = .ok (.aload_n 0, 1) := by decide +kernel
theorem dX0_enter_105 : decode cX0_enter 105 = .ok (.dup, 1) := by decide +kernel
theorem dX0_enter_106 : decode cX0_enter 106 = .ok (.getfield 33, 3) := by decide +kernel
theorem dX0_enter_109 : decode cX0_enter 109 = .ok (.iconst 1, 1) := by decide +kernel
theorem dX0_enter_110 : decode cX0_enter 110 = .ok (.iadd, 1) := by decide +kernel
theorem dX0_enter_111 : decode cX0_enter 111 = .ok (.putfield 33, 3) := by decide +kernel
theorem dX0_enter_114 : decode cX0_enter 114 = .ok (.return_, 1) := by decide +kernel
set_option maxRecDepth 20000 in
theorem ggX1_init_X0_init : GoodIn wsX1_init wsX0_init := goodIn_r _ [22, 23, 2, 3, 4, 24, 25, 26, 27, 28, 29, 30, 31, 44, 45, 46, 47, 48, 49, 50, 51] (by decide +kernel) (by decide +kernel)
set_option maxRecDepth 20000 in
theorem gX1_init_X0_init_n34 : GoodIn wsX1_init (wsX0_init) := ggX1_init_X0_init
theorem dX1_init_0 : decode cX1_init 0 = .ok (.aload_n 0, 1) := by decide +kernel
theorem dX1_init_1 : decode cX1_init 1 = .ok (.invokespecial 1, 3) := by decide +kernel
theorem dX1_init_4 : decode cX1_init 4 = .ok (.aload_n 0, 1) := by decide +kernel
theorem dX1_init_5 : decode cX1_init 5 = .ok (.bipush 24, 2) := by decide +kernel
theorem dX1_init_7 : decode cX1_init 7 = .ok (.newarray .int, 2) := by decide +kernel
theorem dX1_init_9 : decode cX1_init 9 = .ok (.putfield 9, 3) := by decide +kernel
theorem dX1_init_12 : decode cX1_init 12 = .ok (.aload_n 0, 1) := by decide +kernel
theorem dX1_init_13 : decode cX1_init 13 = .ok (.bipush 24, 2) := by decide +kernel
theorem dX1_init_15 : decode cX1_init 15 = .ok (.newarray .int, 2) := by decide +kernel
theorem dX1_init_17 : decode cX1_init 17 = .ok (.putfield 13, 3) := by decide +kernel
theorem dX1_init_20 : decode cX1_init 20 = .ok (.aload_n 0, 1) := by decide +kernel
theorem dX1_init_21 : decode cX1_init 21 = .ok (.bipush 24, 2) := by decide +kernel
theorem dX1_init_23 : decode cX1_init 23 = .ok (.newarray .int, 2) := by decide +kernel
theorem dX1_init_25 : decode cX1_init 25 = .ok (.putfield 16, 3) := by decide +kernel
theorem dX1_init_28 : decode cX1_init 28 = .ok (.aload_n 0, 1) := by decide +kernel
theorem dX1_init_29 : decode cX1_init 29 = .ok (.bipush 24, 2) := by decide +kernel
theorem dX1_init_31 : decode cX1_init 31 = .ok (.newarray .int, 2) := by decide +kernel
theorem dX1_init_33 : decode cX1_init 33 = .ok (.putfield 19, 3) := by decide +kernel
theorem dX1_init_36 : decode cX1_init 36 = .ok (.aload_n 0, 1) := by decide +kernel
theorem dX1_init_37 : decode cX1_init 37 = .ok (.bipush 24, 2) := by decide +kernel
theorem dX1_init_39 : decode cX1_init 39 = .ok (.newarray .int, 2) := by decide +kernel
theorem dX1_init_41 : decode cX1_init 41 = .ok (.putfield 22, 3) := by decide +kernel
theorem dX1_init_44 : decode cX1_init 44 = .ok (.aload_n 0, 1) := by decide +kernel
theorem dX1_init_45 : decode cX1_init 45 = .ok (.bipush 24, 2) := by decide +kernel
theorem dX1_init_47 : decode cX1_init 47 = .ok (.newarray .boolean, 2) := by decide +kernel
theorem dX1_init_49 : decode cX1_init 49 = .ok (.putfield 25, 3) := by decide +kernel
theorem dX1_init_52 : decode cX1_init 52 = .ok (.aload_n 0, 1) := by decide +kernel
theorem dX1_init_53 : decode cX1_init 53 = .ok (.bipush 24, 2) := by decide +kernel
theorem dX1_init_55 : decode cX1_init 55 = .ok (.newarray .int, 2) := by decide +kernel
theorem dX1_init_57 : decode cX1_init 57 = .ok (.putfield 29, 3) := by decide +kernel
theorem dX1_init_60 : decode cX1_init 60 = .ok (.aload_n 0, 1) := by decide +kernel
theorem dX1_init_61 : decode cX1_init 61 = .ok (.new 32, 3) := by decide +kernel
theorem dX1_init_64 : decode cX1_init 64 = .ok (.dup, 1) := by decide +kernel
theorem dX1_init_65 : decode cX1_init 65 = .ok (.invokespecial 34, 3) := by decide +kernel
theorem dX1_init_68 : decode cX1_init 68 = .ok (.putfield 35, 3) := by decide +kernel
theorem dX1_init_71 : decode cX1_init 71 = .ok (.aload_n 0, 1) := by decide +kernel
theorem dX1_init_72 : decode cX1_init 72 = .ok (.bipush 24, 2) := by decide +kernel
theorem dX1_init_74 : decode cX1_init 74 = .ok (.newarray .boolean, 2) := by decide +kernel
theorem dX1_init_76 : decode cX1_init 76 = .ok (.putfield 39, 3) := by decide +kernel
theorem dX1_init_79 : decode cX1_init 79 = .ok (.aload_n 0, 1) := by decide +kernel
theorem dX1_init_80 : decode cX1_init 80 = .ok (.bipush 24, 2) := by decide +kernel
theorem dX1_init_82 : decode cX1_init 82 = .ok (.newarray .boolean, 2) := by decide +kernel
theorem dX1_init_84 : decode cX1_init 84 = .ok (.putfield 42, 3) := by decide +kernel
theorem dX1_init_87 : decode cX1_init 87 = .ok (.aload_n 0, 1) := by decide +kernel
theorem dX1_init_88 : decode cX1_init 88 = .ok (.bipush 24, 2) := by decide +kernel
theorem dX1_init_90 : decode cX1_init 90 = .ok (.newarray .boolean, 2) := by decide +kernel
theorem dX1_init_92 : decode cX1_init 92 = .ok (.putfield 45, 3) := by decide +kernel
theorem dX1_init_95 : decode cX1_init 95 = .ok (.aload_n 0, 1) := by decide +kernel
theorem dX1_init_96 : decode cX1_init 96 = .ok (.bipush 24, 2) := by decide +kernel
theorem dX1_init_98 : decode cX1_init 98 = .ok (.newarray .int, 2) := by decide +kernel
theorem dX1_init_100 : decode cX1_init 100 = .ok (.putfield 48, 3) := by decide +kernel
theorem dX1_init_103 : decode cX1_init 103 = .ok (.iconst 0, 1) := by decide +kernel
theorem dX1_init_104 : decode cX1_init 104 = .ok (.istore_n 1, 1) := by decide +kernel
theorem dX1_init_105 : decode cX1_init 105 = .ok (.iload_n 1, 1) := by decide +kernel
theorem dX1_init_106 : decode cX1_init 106 = .ok (.bipush 24, 2) := by decide +kernel
theorem dX1_init_108 : decode cX1_init 108 = .ok (.if_icmp .ge 30, 3) := by decide +kernel
theorem dX1_init_111 : decode cX1_init 111 = .ok (.aload_n 0, 1) := by decide +kernel
theorem dX1_init_112 : decode cX1_init 112 = .ok (.getfield 13, 3) := by decide +kernel
theorem dX1_init_115 : decode cX1_init 115 = .ok (.iload_n 1, 1) := by decide +kernel
theorem dX1_init_116 : decode cX1_init 116 = .ok (.iconst (-1), 1) := by decide +kernel
theorem dX1_init_117 : decode cX1_init 117 = .ok (.iastore, 1) := by decide +kernel
theorem dX1_init_118 : decode cX1_init 118 = .ok (.aload_n 0, 1) := by decide +kernel
theorem dX1_init_119 : decode cX1_init 119 = .ok (.getfield 16, 3) := by decide +kernel
theorem dX1_init_122 : decode cX1_init 122 = .ok (.iload_n 1, 1) := by decide +kernel
theorem dX1_init_123 : decode cX1_init 123 = .ok (.iconst (-1), 1) := by decide +kernel
theorem dX1_init_124 : decode cX1_init 124 = .ok (.iastore, 1) := by decide +kernel
theorem dX1_init_125 : decode cX1_init 125 = .ok (.aload_n 0, 1) := by decide +kernel
theorem dX1_init_126 : decode cX1_init 126 = .ok (.getfield 29, 3) := by decide +kernel
theorem dX1_init_129 : decode cX1_init 129 = .ok (.iload_n 1, 1) := by decide +kernel
theorem dX1_init_130 : decode cX1_init 130 = .ok (.iload_n 1, 1) := by decide +kernel
theorem dX1_init_131 : decode cX1_init 131 = .ok (.iastore, 1) := by decide +kernel
theorem dX1_init_132 : decode cX1_init 132 = .ok (.iinc 1 1, 3) := by decide +kernel
theorem dX1_init_135 : decode cX1_init 135 = .ok (.goto (-30), 3) := by decide +kernel
theorem dX1_init_138 : decode cX1_init 138 = .ok (.return_, 1) := by decide +kernel
set_option maxRecDepth 20000 in
theorem ggX1_setNumber_X1_isUser : GoodIn wsX1_setNumber wsX1_isUser := goodIn_r _ [7] (by decide +kernel) (by decide +kernel)
set_option maxRecDepth 20000 in
theorem gX1_setNumber_X1_isUser : GoodIn wsX1_setNumber (va_wsS RX1 51 yX1_isUser wsX1_isUser) := goodIn_app (goodIn_of _ (by decide +kernel)) ggX1_setNumber_X1_isUser
set_option maxRecDepth 20000 in
theorem ggX1_setNumber_X1_isCell : GoodIn wsX1_setNumber wsX1_isCell := goodIn_r _ [10] (by decide +kernel) (by decide +kernel)
set_option maxRecDepth 20000 in
theorem gX1_setNumber_X1_isCell : GoodIn wsX1_setNumber (va_wsS RX1 55 yX1_isCell wsX1_isCell) := goodIn_app (goodIn_of _ (by decide +kernel)) ggX1_setNumber_X1_isCell
set_option maxRecDepth 20000 in
theorem ggX1_setNumber_X1_isWithin : GoodIn wsX1_setNumber wsX1_isWithin := goodIn_r _ [13] (by decide +kernel) (by decide +kernel)
set_option maxRecDepth 20000 in
theorem gX1_setNumber_X1_isWithin : GoodIn wsX1_setNumber (va_wsS RX1 59 yX1_isWithin wsX1_isWithin) := goodIn_app (goodIn_of _ (by decide +kernel)) ggX1_setNumber_X1_isWithin
set_option maxRecDepth 20000 in
theorem ggX1_setNumber_X1_giveFormula : GoodIn wsX1_setNumber wsX1_giveFormula := goodIn_r _ [17, 18, 19, 20, 21, 22, 23, 24, 6, 25, 26, 27, 28, 29, 30, 31, 32, 33, 34, 35, 36, 37, 38, 8, 9, 10, 39, 40, 41, 42, 43, 44, 45, 46, 47, 48, 49, 50, 51, 52, 53, 54, 55, 56, 57, 58, 59, 60, 61, 62, 63, 64, 65, 66, 67, 68, 69, 70, 71, 72, 73, 74, 75, 76, 77, 78, 79, 80, 81, 82, 83, 84, 85, 86, 87, 88, 89, 90, 91, 3, 92, 93, 94, 95, 96, 97, 98, 99, 100, 101, 102, 103, 104, 105, 106, 107, 108, 109, 110, 111, 112, 113, 114, 115, 116, 117, 118, 119, 120, 121, 122] (by decide +kernel) (by decide +kernel)
set_option maxRecDepth 20000 in
theorem gX1_setNumber_X1_giveFormula : GoodIn wsX1_setNumber (wsV RX1 70 RX1 yX1_giveFormula wsX1_giveFormula) := goodIn_app (goodIn_of _ (by decide +kernel)) ggX1_setNumber_X1_giveFormula
theorem dX1_setNumber_0 : decode cX1_setNumber 0 = .ok (.iload_n 1, 1) := by decide +kernel
theorem dX1_setNumber_1 : decode cX1_setNumber 1 = .ok (.invokestatic 51, 3) := by decide +kernel
theorem dX1_setNumber_4 : decode cX1_setNumber 4 = .ok (.ifCond .eq 19, 3) := by decide +kernel
theorem dX1_setNumber_7 : decode cX1_setNumber 7 = .ok (.iload_n 2, 1) := by decide +kernel
theorem dX1_setNumber_8 : decode cX1_setNumber 8 = .ok (.invokestatic 55, 3) := by decide +kernel
theorem dX1_setNumber_11 : decode cX1_setNumber 11 = .ok (.ifCond .eq 12, 3) := by decide +kernel
theorem dX1_setNumber_14 : decode cX1_setNumber 14 = .ok (.iload_n 3, 1) := by decide +kernel
theorem dX1_setNumber_15 : decode cX1_setNumber 15 = .ok (.ldc 58, 2) := by decide +kernel
theorem dX1_setNumber_17 : decode cX1_setNumber 17 = .ok (.invokestatic 59, 3) := by decide +kernel
theorem dX1_setNumber_20 : decode cX1_setNumber 20 = .ok (.ifCond .ne 13, 3) := by decide +kernel
theorem dX1_setNumber_23 : decode cX1_setNumber 23 = .ok (.new 63, 3) := by decide +kernel
theorem dX1_setNumber_26 : decode cX1_setNumber 26 = .ok (.dup, 1) := by decide +kernel
theorem dX1_setNumber_27 : decode cX1_setNumber 27 = .ok (.ldc 65, 2) := by decide +kernel
theorem dX1_setNumber_29 : decode cX1_setNumber 29 = .ok (.invokespecial 67, 3) := by decide +kernel
theorem dX1_setNumber_32 : decode cX1_setNumber 32 = .ok (.athrow, 1) := by decide +kernel
theorem dX1_setNumber_33 : decode cX1_setNumber 33 = .ok (.aload_n 0, 1) := by decide +kernel
theorem dX1_setNumber_34 : decode cX1_setNumber 34 = .ok (.iload_n 1, 1) := by decide +kernel
theorem dX1_setNumber_35 : decode cX1_setNumber 35 = .ok (.iload_n 2, 1) := by decide +kernel
theorem dX1_setNumber_36 : decode cX1_setNumber 36 = .ok (.iconst 0, 1) := by decide +kernel
theorem dX1_setNumber_37 : decode cX1_setNumber 37 = .ok (.iconst (-1), 1) := by decide +kernel
theorem dX1_setNumber_38 : decode cX1_setNumber 38 = .ok (.iconst (-1), 1) := by decide +kernel
theorem dX1_setNumber_39 : decode cX1_setNumber 39 = .ok (.iload_n 3, 1) := by decide +kernel
theorem dX1_setNumber_40 : decode cX1_setNumber 40 = .ok (.invokevirtual 70, 3) := by decide +kernel
theorem dX1_setNumber_43 : decode cX1_setNumber 43 = .ok (.ireturn, 1) := by decide +kernel
set_option maxRecDepth 20000 in
theorem ggX1_setSum_X1_isUser : GoodIn wsX1_setSum wsX1_isUser := goodIn_r _ [8] (by decide +kernel) (by decide +kernel)
set_option maxRecDepth 20000 in
theorem gX1_setSum_X1_isUser : GoodIn wsX1_setSum (va_wsS RX1 51 yX1_isUser wsX1_isUser) := goodIn_app (goodIn_of _ (by decide +kernel)) ggX1_setSum_X1_isUser
set_option maxRecDepth 20000 in
theorem ggX1_setSum_X1_isCell : GoodIn wsX1_setSum wsX1_isCell := goodIn_r _ [11] (by decide +kernel) (by decide +kernel)
set_option maxRecDepth 20000 in
theorem gX1_setSum_X1_isCell : GoodIn wsX1_setSum (va_wsS RX1 55 yX1_isCell wsX1_isCell) := goodIn_app (goodIn_of _ (by decide +kernel)) ggX1_setSum_X1_isCell
set_option maxRecDepth 20000 in
theorem ggX1_setSum_X1_isWithin : GoodIn wsX1_setSum wsX1_isWithin := goodIn_r _ [14] (by decide +kernel) (by decide +kernel)
set_option maxRecDepth 20000 in
theorem gX1_setSum_X1_isWithin : GoodIn wsX1_setSum (va_wsS RX1 59 yX1_isWithin wsX1_isWithin) := goodIn_app (goodIn_of _ (by decide +kernel)) ggX1_setSum_X1_isWithin
set_option maxRecDepth 20000 in
theorem ggX1_setSum_X1_wouldReadItself : GoodIn wsX1_setSum wsX1_wouldReadItself := goodIn_r _ [18, 19, 20, 9, 10, 7, 11, 21, 22, 23, 24, 25, 26, 27, 28, 29, 110, 111, 112, 113, 114, 115, 116, 117, 118, 119, 120, 121] (by decide +kernel) (by decide +kernel)
set_option maxRecDepth 20000 in
theorem gX1_setSum_X1_wouldReadItself : GoodIn wsX1_setSum (wsV RX1 76 RX1 yX1_wouldReadItself wsX1_wouldReadItself) := goodIn_app (goodIn_of _ (by decide +kernel)) ggX1_setSum_X1_wouldReadItself
set_option maxRecDepth 20000 in
theorem ggX1_setSum_X1_giveFormula : GoodIn wsX1_setSum wsX1_giveFormula := goodIn_r _ [33, 34, 25, 26, 35, 36, 37, 38, 7, 39, 40, 20, 41, 42, 43, 44, 45, 46, 47, 48, 27, 28, 29, 9, 10, 11, 49, 50, 51, 52, 53, 54, 55, 56, 57, 58, 59, 60, 61, 62, 63, 64, 65, 66, 67, 68, 69, 70, 71, 72, 73, 74, 75, 76, 77, 78, 79, 80, 81, 82, 83, 84, 85, 86, 87, 88, 89, 90, 91, 92, 93, 94, 95, 96, 97, 98, 99, 100, 101, 102, 103, 104, 105, 106, 107, 108, 109, 21, 22, 23, 24, 110, 111, 112, 113, 114, 115, 116, 117, 118, 119, 120, 121, 122, 123, 124, 125, 126, 127, 128, 129] (by decide +kernel) (by decide +kernel)
set_option maxRecDepth 20000 in
theorem gX1_setSum_X1_giveFormula : GoodIn wsX1_setSum (wsV RX1 70 RX1 yX1_giveFormula wsX1_giveFormula) := goodIn_app (goodIn_of _ (by decide +kernel)) ggX1_setSum_X1_giveFormula
theorem dX1_setSum_0 : decode cX1_setSum 0 = .ok (.iload_n 1, 1) := by decide +kernel
theorem dX1_setSum_1 : decode cX1_setSum 1 = .ok (.invokestatic 51, 3) := by decide +kernel
theorem dX1_setSum_4 : decode cX1_setSum 4 = .ok (.ifCond .eq 36, 3) := by decide +kernel
theorem dX1_setSum_7 : decode cX1_setSum 7 = .ok (.iload_n 2, 1) := by decide +kernel
theorem dX1_setSum_8 : decode cX1_setSum 8 = .ok (.invokestatic 55, 3) := by decide +kernel
theorem dX1_setSum_11 : decode cX1_setSum 11 = .ok (.ifCond .eq 29, 3) := by decide +kernel
theorem dX1_setSum_14 : decode cX1_setSum 14 = .ok (.iload_n 3, 1) := by decide +kernel
theorem dX1_setSum_15 : decode cX1_setSum 15 = .ok (.invokestatic 55, 3) := by decide +kernel
theorem dX1_setSum_18 : decode cX1_setSum 18 = .ok (.ifCond .eq 22, 3) := by decide +kernel
theorem dX1_setSum_21 : decode cX1_setSum 21 = .ok (.iload 4, 2) := by decide +kernel
theorem dX1_setSum_23 : decode cX1_setSum 23 = .ok (.invokestatic 55, 3) := by decide +kernel
theorem dX1_setSum_26 : decode cX1_setSum 26 = .ok (.ifCond .eq 14, 3) := by decide +kernel
theorem dX1_setSum_29 : decode cX1_setSum 29 = .ok (.iload 5, 2) := by decide +kernel
theorem dX1_setSum_31 : decode cX1_setSum 31 = .ok (.sipush 1000, 3) := by decide +kernel
theorem dX1_setSum_34 : decode cX1_setSum 34 = .ok (.invokestatic 59, 3) := by decide +kernel
theorem dX1_setSum_37 : decode cX1_setSum 37 = .ok (.ifCond .ne 13, 3) := by decide +kernel
theorem dX1_setSum_40 : decode cX1_setSum 40 = .ok (.new 63, 3) := by decide +kernel
theorem dX1_setSum_43 : decode cX1_setSum 43 = .ok (.dup, 1) := by decide +kernel
theorem dX1_setSum_44 : decode cX1_setSum 44 = .ok (.ldc 74, 2) := by decide +kernel
theorem dX1_setSum_46 : decode cX1_setSum 46 = .ok (.invokespecial 67, 3) := by decide +kernel
theorem dX1_setSum_49 : decode cX1_setSum 49 = .ok (.athrow, 1) := by decide +kernel
theorem dX1_setSum_50 : decode cX1_setSum 50 = .ok (.aload_n 0, 1) := by decide +kernel
theorem dX1_setSum_51 : decode cX1_setSum 51 = .ok (.iload_n 2, 1) := by decide +kernel
theorem dX1_setSum_52 : decode cX1_setSum 52 = .ok (.iload_n 3, 1) := by decide +kernel
theorem dX1_setSum_53 : decode cX1_setSum 53 = .ok (.iload 4, 2) := by decide +kernel
theorem dX1_setSum_55 : decode cX1_setSum 55 = .ok (.invokevirtual 76, 3) := by decide +kernel
theorem dX1_setSum_58 : decode cX1_setSum 58 = .ok (.ifCond .eq 13, 3) := by decide +kernel
theorem dX1_setSum_61 : decode cX1_setSum 61 = .ok (.new 80, 3) := by decide +kernel
theorem dX1_setSum_64 : decode cX1_setSum 64 = .ok (.dup, 1) := by decide +kernel
theorem dX1_setSum_65 : decode cX1_setSum 65 = .ok (.ldc 82, 2) := by decide +kernel
theorem dX1_setSum_67 : decode cX1_setSum 67 = .ok (.invokespecial 84, 3) := by decide +kernel
theorem dX1_setSum_70 : decode cX1_setSum 70 = .ok (.athrow, 1) := by decide +kernel
theorem dX1_setSum_71 : decode cX1_setSum 71 = .ok (.aload_n 0, 1) := by decide +kernel
theorem dX1_setSum_72 : decode cX1_setSum 72 = .ok (.iload_n 1, 1) := by decide +kernel
theorem dX1_setSum_73 : decode cX1_setSum 73 = .ok (.iload_n 2, 1) := by decide +kernel
theorem dX1_setSum_74 : decode cX1_setSum 74 = .ok (.iconst 1, 1) := by decide +kernel
theorem dX1_setSum_75 : decode cX1_setSum 75 = .ok (.iload_n 3, 1) := by decide +kernel
theorem dX1_setSum_76 : decode cX1_setSum 76 = .ok (.iload 4, 2) := by decide +kernel
theorem dX1_setSum_78 : decode cX1_setSum 78 = .ok (.iload 5, 2) := by decide +kernel
theorem dX1_setSum_80 : decode cX1_setSum 80 = .ok (.invokevirtual 70, 3) := by decide +kernel
theorem dX1_setSum_83 : decode cX1_setSum 83 = .ok (.ireturn, 1) := by decide +kernel
set_option maxRecDepth 20000 in
theorem ggX1_setGreater_X1_isUser : GoodIn wsX1_setGreater wsX1_isUser := goodIn_r _ [8] (by decide +kernel) (by decide +kernel)
set_option maxRecDepth 20000 in
theorem gX1_setGreater_X1_isUser : GoodIn wsX1_setGreater (va_wsS RX1 51 yX1_isUser wsX1_isUser) := goodIn_app (goodIn_of _ (by decide +kernel)) ggX1_setGreater_X1_isUser
set_option maxRecDepth 20000 in
theorem ggX1_setGreater_X1_isCell : GoodIn wsX1_setGreater wsX1_isCell := goodIn_r _ [11] (by decide +kernel) (by decide +kernel)
set_option maxRecDepth 20000 in
theorem gX1_setGreater_X1_isCell : GoodIn wsX1_setGreater (va_wsS RX1 55 yX1_isCell wsX1_isCell) := goodIn_app (goodIn_of _ (by decide +kernel)) ggX1_setGreater_X1_isCell
set_option maxRecDepth 20000 in
theorem ggX1_setGreater_X1_wouldReadItself : GoodIn wsX1_setGreater wsX1_wouldReadItself := goodIn_r _ [15, 16, 17, 9, 10, 7, 11, 18, 19, 20, 21, 22, 23, 24, 25, 26, 107, 108, 109, 110, 111, 112, 113, 114, 115, 116, 117, 118] (by decide +kernel) (by decide +kernel)
set_option maxRecDepth 20000 in
theorem gX1_setGreater_X1_wouldReadItself : GoodIn wsX1_setGreater (wsV RX1 76 RX1 yX1_wouldReadItself wsX1_wouldReadItself) := goodIn_app (goodIn_of _ (by decide +kernel)) ggX1_setGreater_X1_wouldReadItself
set_option maxRecDepth 20000 in
theorem ggX1_setGreater_X1_giveFormula : GoodIn wsX1_setGreater wsX1_giveFormula := goodIn_r _ [30, 31, 22, 23, 32, 33, 34, 35, 7, 36, 37, 17, 38, 39, 40, 41, 42, 43, 44, 45, 24, 25, 26, 9, 10, 11, 46, 47, 48, 49, 50, 51, 52, 53, 54, 55, 56, 57, 58, 59, 60, 61, 62, 63, 64, 65, 66, 67, 68, 69, 70, 71, 72, 73, 74, 75, 76, 77, 78, 79, 80, 81, 82, 83, 84, 85, 86, 87, 88, 89, 90, 91, 92, 93, 94, 95, 96, 97, 98, 99, 100, 101, 102, 103, 104, 105, 106, 18, 19, 20, 21, 107, 108, 109, 110, 111, 112, 113, 114, 115, 116, 117, 118, 119, 120, 121, 122, 123, 124, 125, 126] (by decide +kernel) (by decide +kernel)
set_option maxRecDepth 20000 in
theorem gX1_setGreater_X1_giveFormula : GoodIn wsX1_setGreater (wsV RX1 70 RX1 yX1_giveFormula wsX1_giveFormula) := goodIn_app (goodIn_of _ (by decide +kernel)) ggX1_setGreater_X1_giveFormula
theorem dX1_setGreater_0 : decode cX1_setGreater 0 = .ok (.iload_n 1, 1) := by decide +kernel
theorem dX1_setGreater_1 : decode cX1_setGreater 1 = .ok (.invokestatic 51, 3) := by decide +kernel
theorem dX1_setGreater_4 : decode cX1_setGreater 4 = .ok (.ifCond .eq 25, 3) := by decide +kernel
theorem dX1_setGreater_7 : decode cX1_setGreater 7 = .ok (.iload_n 2, 1) := by decide +kernel
theorem dX1_setGreater_8 : decode cX1_setGreater 8 = .ok (.invokestatic 55, 3) := by decide +kernel
theorem dX1_setGreater_11 : decode cX1_setGreater 11 = .ok (.ifCond .eq 18, 3) := by decide +kernel
theorem dX1_setGreater_14 : decode cX1_setGreater 14 = .ok (.iload_n 3, 1) := by decide +kernel
theorem dX1_setGreater_15 : decode cX1_setGreater 15 = .ok (.invokestatic 55, 3) := by decide +kernel
theorem dX1_setGreater_18 : decode cX1_setGreater 18 = .ok (.ifCond .eq 11, 3) := by decide +kernel
theorem dX1_setGreater_21 : decode cX1_setGreater 21 = .ok (.iload 4, 2) := by decide +kernel
theorem dX1_setGreater_23 : decode cX1_setGreater 23 = .ok (.invokestatic 55, 3) := by decide +kernel
theorem dX1_setGreater_26 : decode cX1_setGreater 26 = .ok (.ifCond .ne 13, 3) := by decide +kernel
theorem dX1_setGreater_29 : decode cX1_setGreater 29 = .ok (.new 63, 3) := by decide +kernel
theorem dX1_setGreater_32 : decode cX1_setGreater 32 = .ok (.dup, 1) := by decide +kernel
theorem dX1_setGreater_33 : decode cX1_setGreater 33 = .ok (.ldc 85, 2) := by decide +kernel
theorem dX1_setGreater_35 : decode cX1_setGreater 35 = .ok (.invokespecial 67, 3) := by decide +kernel
theorem dX1_setGreater_38 : decode cX1_setGreater 38 = .ok (.athrow, 1) := by decide +kernel
theorem dX1_setGreater_39 : decode cX1_setGreater 39 = .ok (.aload_n 0, 1) := by decide +kernel
theorem dX1_setGreater_40 : decode cX1_setGreater 40 = .ok (.iload_n 2, 1) := by decide +kernel
theorem dX1_setGreater_41 : decode cX1_setGreater 41 = .ok (.iload_n 3, 1) := by decide +kernel
theorem dX1_setGreater_42 : decode cX1_setGreater 42 = .ok (.iload 4, 2) := by decide +kernel
theorem dX1_setGreater_44 : decode cX1_setGreater 44 = .ok (.invokevirtual 76, 3) := by decide +kernel
theorem dX1_setGreater_47 : decode cX1_setGreater 47 = .ok (.ifCond .eq 13, 3) := by decide +kernel
theorem dX1_setGreater_50 : decode cX1_setGreater 50 = .ok (.new 80, 3) := by decide +kernel
theorem dX1_setGreater_53 : decode cX1_setGreater 53 = .ok (.dup, 1) := by decide +kernel
theorem dX1_setGreater_54 : decode cX1_setGreater 54 = .ok (.ldc 82, 2) := by decide +kernel
theorem dX1_setGreater_56 : decode cX1_setGreater 56 = .ok (.invokespecial 84, 3) := by decide +kernel
theorem dX1_setGreater_59 : decode cX1_setGreater 59 = .ok (.athrow, 1) := by decide +kernel
theorem dX1_setGreater_60 : decode cX1_setGreater 60 = .ok (.aload_n 0, 1) := by decide +kernel
theorem dX1_setGreater_61 : decode cX1_setGreater 61 = .ok (.iload_n 1, 1) := by decide +kernel
theorem dX1_setGreater_62 : decode cX1_setGreater 62 = .ok (.iload_n 2, 1) := by decide +kernel
theorem dX1_setGreater_63 : decode cX1_setGreater 63 = .ok (.iconst 2, 1) := by decide +kernel
theorem dX1_setGreater_64 : decode cX1_setGreater 64 = .ok (.iload_n 3, 1) := by decide +kernel
theorem dX1_setGreater_65 : decode cX1_setGreater 65 = .ok (.iload 4, 2) := by decide +kernel
theorem dX1_setGreater_67 : decode cX1_setGreater 67 = .ok (.iconst 0, 1) := by decide +kernel
theorem dX1_setGreater_68 : decode cX1_setGreater 68 = .ok (.invokevirtual 70, 3) := by decide +kernel
theorem dX1_setGreater_71 : decode cX1_setGreater 71 = .ok (.ireturn, 1) := by decide +kernel
set_option maxRecDepth 20000 in
theorem ggX1_setTimes_X1_isUser : GoodIn wsX1_setTimes wsX1_isUser := goodIn_r _ [8] (by decide +kernel) (by decide +kernel)
set_option maxRecDepth 20000 in
theorem gX1_setTimes_X1_isUser : GoodIn wsX1_setTimes (va_wsS RX1 51 yX1_isUser wsX1_isUser) := goodIn_app (goodIn_of _ (by decide +kernel)) ggX1_setTimes_X1_isUser
set_option maxRecDepth 20000 in
theorem ggX1_setTimes_X1_isCell : GoodIn wsX1_setTimes wsX1_isCell := goodIn_r _ [11] (by decide +kernel) (by decide +kernel)
set_option maxRecDepth 20000 in
theorem gX1_setTimes_X1_isCell : GoodIn wsX1_setTimes (va_wsS RX1 55 yX1_isCell wsX1_isCell) := goodIn_app (goodIn_of _ (by decide +kernel)) ggX1_setTimes_X1_isCell
set_option maxRecDepth 20000 in
theorem ggX1_setTimes_X1_isWithin : GoodIn wsX1_setTimes wsX1_isWithin := goodIn_r _ [14] (by decide +kernel) (by decide +kernel)
set_option maxRecDepth 20000 in
theorem gX1_setTimes_X1_isWithin : GoodIn wsX1_setTimes (va_wsS RX1 59 yX1_isWithin wsX1_isWithin) := goodIn_app (goodIn_of _ (by decide +kernel)) ggX1_setTimes_X1_isWithin
set_option maxRecDepth 20000 in
theorem ggX1_setTimes_X1_wouldReadItself : GoodIn wsX1_setTimes wsX1_wouldReadItself := goodIn_r _ [18, 19, 20, 9, 10, 7, 11, 21, 22, 23, 24, 25, 26, 27, 28, 29, 110, 111, 112, 113, 114, 115, 116, 117, 118, 119, 120, 121] (by decide +kernel) (by decide +kernel)
set_option maxRecDepth 20000 in
theorem gX1_setTimes_X1_wouldReadItself : GoodIn wsX1_setTimes (wsV RX1 76 RX1 yX1_wouldReadItself wsX1_wouldReadItself) := goodIn_app (goodIn_of _ (by decide +kernel)) ggX1_setTimes_X1_wouldReadItself
set_option maxRecDepth 20000 in
theorem ggX1_setTimes_X1_giveFormula : GoodIn wsX1_setTimes wsX1_giveFormula := goodIn_r _ [33, 34, 25, 26, 35, 36, 37, 38, 7, 39, 40, 20, 41, 42, 43, 44, 45, 46, 47, 48, 27, 28, 29, 9, 10, 11, 49, 50, 51, 52, 53, 54, 55, 56, 57, 58, 59, 60, 61, 62, 63, 64, 65, 66, 67, 68, 69, 70, 71, 72, 73, 74, 75, 76, 77, 78, 79, 80, 81, 82, 83, 84, 85, 86, 87, 88, 89, 90, 91, 92, 93, 94, 95, 96, 97, 98, 99, 100, 101, 102, 103, 104, 105, 106, 107, 108, 109, 21, 22, 23, 24, 110, 111, 112, 113, 114, 115, 116, 117, 118, 119, 120, 121, 122, 123, 124, 125, 126, 127, 128, 129] (by decide +kernel) (by decide +kernel)
set_option maxRecDepth 20000 in
theorem gX1_setTimes_X1_giveFormula : GoodIn wsX1_setTimes (wsV RX1 70 RX1 yX1_giveFormula wsX1_giveFormula) := goodIn_app (goodIn_of _ (by decide +kernel)) ggX1_setTimes_X1_giveFormula
theorem dX1_setTimes_0 : decode cX1_setTimes 0 = .ok (.iload_n 1, 1) := by decide +kernel
theorem dX1_setTimes_1 : decode cX1_setTimes 1 = .ok (.invokestatic 51, 3) := by decide +kernel
theorem dX1_setTimes_4 : decode cX1_setTimes 4 = .ok (.ifCond .eq 27, 3) := by decide +kernel
theorem dX1_setTimes_7 : decode cX1_setTimes 7 = .ok (.iload_n 2, 1) := by decide +kernel
theorem dX1_setTimes_8 : decode cX1_setTimes 8 = .ok (.invokestatic 55, 3) := by decide +kernel
theorem dX1_setTimes_11 : decode cX1_setTimes 11 = .ok (.ifCond .eq 20, 3) := by decide +kernel
theorem dX1_setTimes_14 : decode cX1_setTimes 14 = .ok (.iload_n 3, 1) := by decide +kernel
theorem dX1_setTimes_15 : decode cX1_setTimes 15 = .ok (.invokestatic 55, 3) := by decide +kernel
theorem dX1_setTimes_18 : decode cX1_setTimes 18 = .ok (.ifCond .eq 13, 3) := by decide +kernel
theorem dX1_setTimes_21 : decode cX1_setTimes 21 = .ok (.iload 4, 2) := by decide +kernel
theorem dX1_setTimes_23 : decode cX1_setTimes 23 = .ok (.bipush 100, 2) := by decide +kernel
theorem dX1_setTimes_25 : decode cX1_setTimes 25 = .ok (.invokestatic 59, 3) := by decide +kernel
theorem dX1_setTimes_28 : decode cX1_setTimes 28 = .ok (.ifCond .ne 13, 3) := by decide +kernel
theorem dX1_setTimes_31 : decode cX1_setTimes 31 = .ok (.new 63, 3) := by decide +kernel
theorem dX1_setTimes_34 : decode cX1_setTimes 34 = .ok (.dup, 1) := by decide +kernel
theorem dX1_setTimes_35 : decode cX1_setTimes 35 = .ok (.ldc 87, 2) := by decide +kernel
theorem dX1_setTimes_37 : decode cX1_setTimes 37 = .ok (.invokespecial 67, 3) := by decide +kernel
theorem dX1_setTimes_40 : decode cX1_setTimes 40 = .ok (.athrow, 1) := by decide +kernel
theorem dX1_setTimes_41 : decode cX1_setTimes 41 = .ok (.aload_n 0, 1) := by decide +kernel
theorem dX1_setTimes_42 : decode cX1_setTimes 42 = .ok (.iload_n 2, 1) := by decide +kernel
theorem dX1_setTimes_43 : decode cX1_setTimes 43 = .ok (.iload_n 3, 1) := by decide +kernel
theorem dX1_setTimes_44 : decode cX1_setTimes 44 = .ok (.iconst (-1), 1) := by decide +kernel
theorem dX1_setTimes_45 : decode cX1_setTimes 45 = .ok (.invokevirtual 76, 3) := by decide +kernel
theorem dX1_setTimes_48 : decode cX1_setTimes 48 = .ok (.ifCond .eq 13, 3) := by decide +kernel
theorem dX1_setTimes_51 : decode cX1_setTimes 51 = .ok (.new 80, 3) := by decide +kernel
theorem dX1_setTimes_54 : decode cX1_setTimes 54 = .ok (.dup, 1) := by decide +kernel
theorem dX1_setTimes_55 : decode cX1_setTimes 55 = .ok (.ldc 82, 2) := by decide +kernel
theorem dX1_setTimes_57 : decode cX1_setTimes 57 = .ok (.invokespecial 84, 3) := by decide +kernel
theorem dX1_setTimes_60 : decode cX1_setTimes 60 = .ok (.athrow, 1) := by decide +kernel
theorem dX1_setTimes_61 : decode cX1_setTimes 61 = .ok (.aload_n 0, 1) := by decide +kernel
theorem dX1_setTimes_62 : decode cX1_setTimes 62 = .ok (.iload_n 1, 1) := by decide +kernel
theorem dX1_setTimes_63 : decode cX1_setTimes 63 = .ok (.iload_n 2, 1) := by decide +kernel
theorem dX1_setTimes_64 : decode cX1_setTimes 64 = .ok (.iconst 3, 1) := by decide +kernel
theorem dX1_setTimes_65 : decode cX1_setTimes 65 = .ok (.iload_n 3, 1) := by decide +kernel
theorem dX1_setTimes_66 : decode cX1_setTimes 66 = .ok (.iconst (-1), 1) := by decide +kernel
theorem dX1_setTimes_67 : decode cX1_setTimes 67 = .ok (.iload 4, 2) := by decide +kernel
theorem dX1_setTimes_69 : decode cX1_setTimes 69 = .ok (.invokevirtual 70, 3) := by decide +kernel
theorem dX1_setTimes_72 : decode cX1_setTimes 72 = .ok (.ireturn, 1) := by decide +kernel
set_option maxRecDepth 20000 in
theorem ggX1_refresh_X1_isUser : GoodIn wsX1_refresh wsX1_isUser := goodIn_r _ [6] (by decide +kernel) (by decide +kernel)
set_option maxRecDepth 20000 in
theorem gX1_refresh_X1_isUser : GoodIn wsX1_refresh (va_wsS RX1 51 yX1_isUser wsX1_isUser) := goodIn_app (goodIn_of _ (by decide +kernel)) ggX1_refresh_X1_isUser
set_option maxRecDepth 20000 in
theorem ggX1_refresh_X1_forgetChanges : GoodIn wsX1_refresh wsX1_forgetChanges := goodIn_r _ [10, 11, 83, 84, 85, 86, 87, 88, 89, 90, 91, 92, 93, 94] (by decide +kernel) (by decide +kernel)
set_option maxRecDepth 20000 in
theorem gX1_refresh_X1_forgetChanges : GoodIn wsX1_refresh (wsV RX1 91 RX1 yX1_forgetChanges wsX1_forgetChanges) := goodIn_app (goodIn_of _ (by decide +kernel)) ggX1_refresh_X1_forgetChanges
set_option maxRecDepth 20000 in
theorem ggX1_refresh_X1_goThrough : GoodIn wsX1_refresh wsX1_goThrough := goodIn_r _ [15, 16, 11, 17, 18, 19, 5, 20, 21, 22, 23, 24, 25, 26, 27, 28, 29, 30, 31, 32, 33, 34, 35, 36, 37, 38, 39, 40, 41, 42, 43, 44, 45, 46, 47, 48, 49, 50, 51, 52, 53, 54, 55, 56, 57, 58, 59, 60, 61, 62, 63, 64, 65, 66, 67, 68, 69, 70, 71, 72, 73, 74, 75, 76, 77, 78, 79, 80, 81, 82, 83, 84, 85, 86, 87, 88, 89, 90, 91, 92, 93, 94, 95, 96, 97, 98, 99, 100, 101, 102] (by decide +kernel) (by decide +kernel)
set_option maxRecDepth 20000 in
theorem gX1_refresh_X1_goThrough : GoodIn wsX1_refresh (wsV RX1 94 RX1 yX1_goThrough wsX1_goThrough) := goodIn_app (goodIn_of _ (by decide +kernel)) ggX1_refresh_X1_goThrough
theorem dX1_refresh_0 : decode cX1_refresh 0 = .ok (.iload_n 1, 1) := by decide +kernel
theorem dX1_refresh_1 : decode cX1_refresh 1 = .ok (.invokestatic 51, 3) := by decide +kernel
theorem dX1_refresh_4 : decode cX1_refresh 4 = .ok (.ifCond .ne 13, 3) := by decide +kernel
theorem dX1_refresh_7 : decode cX1_refresh 7 = .ok (.new 63, 3) := by decide +kernel
theorem dX1_refresh_10 : decode cX1_refresh 10 = .ok (.dup, 1) := by decide +kernel
theorem dX1_refresh_11 : decode cX1_refresh 11 = .ok (.ldc 89, 2) := by decide +kernel
theorem dX1_refresh_13 : decode cX1_refresh 13 = .ok (.invokespecial 67, 3) := by decide +kernel
theorem dX1_refresh_16 : decode cX1_refresh 16 = .ok (.athrow, 1) := by decide +kernel
theorem dX1_refresh_17 : decode cX1_refresh 17 = .ok (.aload_n 0, 1) := by decide +kernel
theorem dX1_refresh_18 : decode cX1_refresh 18 = .ok (.invokevirtual 91, 3) := by decide +kernel
theorem dX1_refresh_21 : decode cX1_refresh 21 = .ok (.aload_n 0, 1) := by decide +kernel
theorem dX1_refresh_22 : decode cX1_refresh 22 = .ok (.iload_n 1, 1) := by decide +kernel
theorem dX1_refresh_23 : decode cX1_refresh 23 = .ok (.iconst 1, 1) := by decide +kernel
theorem dX1_refresh_24 : decode cX1_refresh 24 = .ok (.invokevirtual 94, 3) := by decide +kernel
theorem dX1_refresh_27 : decode cX1_refresh 27 = .ok (.ireturn, 1) := by decide +kernel
set_option maxRecDepth 20000 in
theorem ggX1_setPrice_X1_isSheet : GoodIn wsX1_setPrice wsX1_isSheet := goodIn_r _ [7] (by decide +kernel) (by decide +kernel)
set_option maxRecDepth 20000 in
theorem gX1_setPrice_X1_isSheet : GoodIn wsX1_setPrice (va_wsS RX1 98 yX1_isSheet wsX1_isSheet) := goodIn_app (goodIn_of _ (by decide +kernel)) ggX1_setPrice_X1_isSheet
theorem dX1_setPrice_0 : decode cX1_setPrice 0 = .ok (.iload_n 1, 1) := by decide +kernel
theorem dX1_setPrice_1 : decode cX1_setPrice 1 = .ok (.invokestatic 98, 3) := by decide +kernel
theorem dX1_setPrice_4 : decode cX1_setPrice 4 = .ok (.ifCond .eq 13, 3) := by decide +kernel
theorem dX1_setPrice_7 : decode cX1_setPrice 7 = .ok (.iload_n 2, 1) := by decide +kernel
theorem dX1_setPrice_8 : decode cX1_setPrice 8 = .ok (.ifCond .lt 9, 3) := by decide +kernel
theorem dX1_setPrice_11 : decode cX1_setPrice 11 = .ok (.iload_n 2, 1) := by decide +kernel
theorem dX1_setPrice_12 : decode cX1_setPrice 12 = .ok (.bipush 100, 2) := by decide +kernel
theorem dX1_setPrice_14 : decode cX1_setPrice 14 = .ok (.if_icmp .le 13, 3) := by decide +kernel
theorem dX1_setPrice_17 : decode cX1_setPrice 17 = .ok (.new 63, 3) := by decide +kernel
theorem dX1_setPrice_20 : decode cX1_setPrice 20 = .ok (.dup, 1) := by decide +kernel
theorem dX1_setPrice_21 : decode cX1_setPrice 21 = .ok (.ldc 101, 2) := by decide +kernel
theorem dX1_setPrice_23 : decode cX1_setPrice 23 = .ok (.invokespecial 67, 3) := by decide +kernel
theorem dX1_setPrice_26 : decode cX1_setPrice 26 = .ok (.athrow, 1) := by decide +kernel
theorem dX1_setPrice_27 : decode cX1_setPrice 27 = .ok (.aload_n 0, 1) := by decide +kernel
theorem dX1_setPrice_28 : decode cX1_setPrice 28 = .ok (.getfield 35, 3) := by decide +kernel
theorem dX1_setPrice_31 : decode cX1_setPrice 31 = .ok (.getfield 103, 3) := by decide +kernel
theorem dX1_setPrice_34 : decode cX1_setPrice 34 = .ok (.iload_n 1, 1) := by decide +kernel
theorem dX1_setPrice_35 : decode cX1_setPrice 35 = .ok (.iaload, 1) := by decide +kernel
theorem dX1_setPrice_36 : decode cX1_setPrice 36 = .ok (.istore_n 3, 1) := by decide +kernel
theorem dX1_setPrice_37 : decode cX1_setPrice 37 = .ok (.aload_n 0, 1) := by decide +kernel
theorem dX1_setPrice_38 : decode cX1_setPrice 38 = .ok (.getfield 35, 3) := by decide +kernel
theorem dX1_setPrice_41 : decode cX1_setPrice 41 = .ok (.getfield 103, 3) := by decide +kernel
theorem dX1_setPrice_44 : decode cX1_setPrice 44 = .ok (.iload_n 1, 1) := by decide +kernel
theorem dX1_setPrice_45 : decode cX1_setPrice 45 = .ok (.iload_n 2, 1) := by decide +kernel
theorem dX1_setPrice_46 : decode cX1_setPrice 46 = .ok (.iastore, 1) := by decide +kernel
theorem dX1_setPrice_47 : decode cX1_setPrice 47 = .ok (.iload_n 3, 1) := by decide +kernel
theorem dX1_setPrice_48 : decode cX1_setPrice 48 = .ok (.ireturn, 1) := by decide +kernel
set_option maxRecDepth 20000 in
theorem ggX1_grant_X1_isSheet : GoodIn wsX1_grant wsX1_isSheet := goodIn_r _ [7] (by decide +kernel) (by decide +kernel)
set_option maxRecDepth 20000 in
theorem gX1_grant_X1_isSheet : GoodIn wsX1_grant (va_wsS RX1 98 yX1_isSheet wsX1_isSheet) := goodIn_app (goodIn_of _ (by decide +kernel)) ggX1_grant_X1_isSheet
theorem dX1_grant_0 : decode cX1_grant 0 = .ok (.iload_n 1, 1) := by decide +kernel
theorem dX1_grant_1 : decode cX1_grant 1 = .ok (.invokestatic 98, 3) := by decide +kernel
theorem dX1_grant_4 : decode cX1_grant 4 = .ok (.ifCond .eq 15, 3) := by decide +kernel
theorem dX1_grant_7 : decode cX1_grant 7 = .ok (.iload_n 2, 1) := by decide +kernel
theorem dX1_grant_8 : decode cX1_grant 8 = .ok (.iconst 1, 1) := by decide +kernel
theorem dX1_grant_9 : decode cX1_grant 9 = .ok (.if_icmp .lt 10, 3) := by decide +kernel
theorem dX1_grant_12 : decode cX1_grant 12 = .ok (.iload_n 2, 1) := by decide +kernel
theorem dX1_grant_13 : decode cX1_grant 13 = .ok (.sipush 10000, 3) := by decide +kernel
theorem dX1_grant_16 : decode cX1_grant 16 = .ok (.if_icmp .le 13, 3) := by decide +kernel
theorem dX1_grant_19 : decode cX1_grant 19 = .ok (.new 63, 3) := by decide +kernel
theorem dX1_grant_22 : decode cX1_grant 22 = .ok (.dup, 1) := by decide +kernel
theorem dX1_grant_23 : decode cX1_grant 23 = .ok (.ldc 106, 2) := by decide +kernel
theorem dX1_grant_25 : decode cX1_grant 25 = .ok (.invokespecial 67, 3) := by decide +kernel
theorem dX1_grant_28 : decode cX1_grant 28 = .ok (.athrow, 1) := by decide +kernel
theorem dX1_grant_29 : decode cX1_grant 29 = .ok (.aload_n 0, 1) := by decide +kernel
theorem dX1_grant_30 : decode cX1_grant 30 = .ok (.getfield 35, 3) := by decide +kernel
theorem dX1_grant_33 : decode cX1_grant 33 = .ok (.getfield 108, 3) := by decide +kernel
theorem dX1_grant_36 : decode cX1_grant 36 = .ok (.iload_n 1, 1) := by decide +kernel
theorem dX1_grant_37 : decode cX1_grant 37 = .ok (.dup2, 1) := by decide +kernel
theorem dX1_grant_38 : decode cX1_grant 38 = .ok (.iaload, 1) := by decide +kernel
theorem dX1_grant_39 : decode cX1_grant 39 = .ok (.iload_n 2, 1) := by decide +kernel
theorem dX1_grant_40 : decode cX1_grant 40 = .ok (.iadd, 1) := by decide +kernel
theorem dX1_grant_41 : decode cX1_grant 41 = .ok (.iastore, 1) := by decide +kernel
theorem dX1_grant_42 : decode cX1_grant 42 = .ok (.aload_n 0, 1) := by decide +kernel
theorem dX1_grant_43 : decode cX1_grant 43 = .ok (.getfield 35, 3) := by decide +kernel
theorem dX1_grant_46 : decode cX1_grant 46 = .ok (.getfield 108, 3) := by decide +kernel
theorem dX1_grant_49 : decode cX1_grant 49 = .ok (.iload_n 1, 1) := by decide +kernel
theorem dX1_grant_50 : decode cX1_grant 50 = .ok (.iaload, 1) := by decide +kernel
theorem dX1_grant_51 : decode cX1_grant 51 = .ok (.ireturn, 1) := by decide +kernel
set_option maxRecDepth 20000 in
theorem ggX1_budget_X1_isSheet : GoodIn wsX1_budget wsX1_isSheet := goodIn_r _ [7] (by decide +kernel) (by decide +kernel)
set_option maxRecDepth 20000 in
theorem gX1_budget_X1_isSheet : GoodIn wsX1_budget (va_wsS RX1 98 yX1_isSheet wsX1_isSheet) := goodIn_app (goodIn_of _ (by decide +kernel)) ggX1_budget_X1_isSheet
theorem dX1_budget_0 : decode cX1_budget 0 = .ok (.iload_n 1, 1) := by decide +kernel
theorem dX1_budget_1 : decode cX1_budget 1 = .ok (.invokestatic 98, 3) := by decide +kernel
theorem dX1_budget_4 : decode cX1_budget 4 = .ok (.ifCond .ne 13, 3) := by decide +kernel
theorem dX1_budget_7 : decode cX1_budget 7 = .ok (.new 63, 3) := by decide +kernel
theorem dX1_budget_10 : decode cX1_budget 10 = .ok (.dup, 1) := by decide +kernel
theorem dX1_budget_11 : decode cX1_budget 11 = .ok (.ldc 111, 2) := by decide +kernel
theorem dX1_budget_13 : decode cX1_budget 13 = .ok (.invokespecial 67, 3) := by decide +kernel
theorem dX1_budget_16 : decode cX1_budget 16 = .ok (.athrow, 1) := by decide +kernel
theorem dX1_budget_17 : decode cX1_budget 17 = .ok (.aload_n 0, 1) := by decide +kernel
theorem dX1_budget_18 : decode cX1_budget 18 = .ok (.getfield 35, 3) := by decide +kernel
theorem dX1_budget_21 : decode cX1_budget 21 = .ok (.getfield 108, 3) := by decide +kernel
theorem dX1_budget_24 : decode cX1_budget 24 = .ok (.iload_n 1, 1) := by decide +kernel
theorem dX1_budget_25 : decode cX1_budget 25 = .ok (.iaload, 1) := by decide +kernel
theorem dX1_budget_26 : decode cX1_budget 26 = .ok (.ireturn, 1) := by decide +kernel
set_option maxRecDepth 20000 in
theorem ggX1_earned_X1_isSheet : GoodIn wsX1_earned wsX1_isSheet := goodIn_r _ [7] (by decide +kernel) (by decide +kernel)
set_option maxRecDepth 20000 in
theorem gX1_earned_X1_isSheet : GoodIn wsX1_earned (va_wsS RX1 98 yX1_isSheet wsX1_isSheet) := goodIn_app (goodIn_of _ (by decide +kernel)) ggX1_earned_X1_isSheet
theorem dX1_earned_0 : decode cX1_earned 0 = .ok (.iload_n 1, 1) := by decide +kernel
theorem dX1_earned_1 : decode cX1_earned 1 = .ok (.invokestatic 98, 3) := by decide +kernel
theorem dX1_earned_4 : decode cX1_earned 4 = .ok (.ifCond .ne 13, 3) := by decide +kernel
theorem dX1_earned_7 : decode cX1_earned 7 = .ok (.new 63, 3) := by decide +kernel
theorem dX1_earned_10 : decode cX1_earned 10 = .ok (.dup, 1) := by decide +kernel
theorem dX1_earned_11 : decode cX1_earned 11 = .ok (.ldc 111, 2) := by decide +kernel
theorem dX1_earned_13 : decode cX1_earned 13 = .ok (.invokespecial 67, 3) := by decide +kernel
theorem dX1_earned_16 : decode cX1_earned 16 = .ok (.athrow, 1) := by decide +kernel
theorem dX1_earned_17 : decode cX1_earned 17 = .ok (.aload_n 0, 1) := by decide +kernel
theorem dX1_earned_18 : decode cX1_earned 18 = .ok (.getfield 35, 3) := by decide +kernel
theorem dX1_earned_21 : decode cX1_earned 21 = .ok (.getfield 113, 3) := by decide +kernel
theorem dX1_earned_24 : decode cX1_earned 24 = .ok (.iload_n 1, 1) := by decide +kernel
theorem dX1_earned_25 : decode cX1_earned 25 = .ok (.iaload, 1) := by decide +kernel
theorem dX1_earned_26 : decode cX1_earned 26 = .ok (.ireturn, 1) := by decide +kernel
set_option maxRecDepth 20000 in
theorem ggX1_caused_X1_isUser : GoodIn wsX1_caused wsX1_isUser := goodIn_r _ [7] (by decide +kernel) (by decide +kernel)
set_option maxRecDepth 20000 in
theorem gX1_caused_X1_isUser : GoodIn wsX1_caused (va_wsS RX1 51 yX1_isUser wsX1_isUser) := goodIn_app (goodIn_of _ (by decide +kernel)) ggX1_caused_X1_isUser
theorem dX1_caused_0 : decode cX1_caused 0 = .ok (.iload_n 1, 1) := by decide +kernel
theorem dX1_caused_1 : decode cX1_caused 1 = .ok (.invokestatic 51, 3) := by decide +kernel
theorem dX1_caused_4 : decode cX1_caused 4 = .ok (.ifCond .ne 13, 3) := by decide +kernel
theorem dX1_caused_7 : decode cX1_caused 7 = .ok (.new 63, 3) := by decide +kernel
theorem dX1_caused_10 : decode cX1_caused 10 = .ok (.dup, 1) := by decide +kernel
theorem dX1_caused_11 : decode cX1_caused 11 = .ok (.ldc 89, 2) := by decide +kernel
theorem dX1_caused_13 : decode cX1_caused 13 = .ok (.invokespecial 67, 3) := by decide +kernel
theorem dX1_caused_16 : decode cX1_caused 16 = .ok (.athrow, 1) := by decide +kernel
theorem dX1_caused_17 : decode cX1_caused 17 = .ok (.aload_n 0, 1) := by decide +kernel
theorem dX1_caused_18 : decode cX1_caused 18 = .ok (.getfield 35, 3) := by decide +kernel
theorem dX1_caused_21 : decode cX1_caused 21 = .ok (.getfield 116, 3) := by decide +kernel
theorem dX1_caused_24 : decode cX1_caused 24 = .ok (.iload_n 1, 1) := by decide +kernel
theorem dX1_caused_25 : decode cX1_caused 25 = .ok (.iaload, 1) := by decide +kernel
theorem dX1_caused_26 : decode cX1_caused 26 = .ok (.ireturn, 1) := by decide +kernel
set_option maxRecDepth 20000 in
theorem ggX1_value_X1_isCell : GoodIn wsX1_value wsX1_isCell := goodIn_r _ [7] (by decide +kernel) (by decide +kernel)
set_option maxRecDepth 20000 in
theorem gX1_value_X1_isCell : GoodIn wsX1_value (va_wsS RX1 55 yX1_isCell wsX1_isCell) := goodIn_app (goodIn_of _ (by decide +kernel)) ggX1_value_X1_isCell
theorem dX1_value_0 : decode cX1_value 0 = .ok (.iload_n 1, 1) := by decide +kernel
theorem dX1_value_1 : decode cX1_value 1 = .ok (.invokestatic 55, 3) := by decide +kernel
theorem dX1_value_4 : decode cX1_value 4 = .ok (.ifCond .ne 13, 3) := by decide +kernel
theorem dX1_value_7 : decode cX1_value 7 = .ok (.new 63, 3) := by decide +kernel
theorem dX1_value_10 : decode cX1_value 10 = .ok (.dup, 1) := by decide +kernel
theorem dX1_value_11 : decode cX1_value 11 = .ok (.ldc 119, 2) := by decide +kernel
theorem dX1_value_13 : decode cX1_value 13 = .ok (.invokespecial 67, 3) := by decide +kernel
theorem dX1_value_16 : decode cX1_value 16 = .ok (.athrow, 1) := by decide +kernel
theorem dX1_value_17 : decode cX1_value 17 = .ok (.aload_n 0, 1) := by decide +kernel
theorem dX1_value_18 : decode cX1_value 18 = .ok (.getfield 22, 3) := by decide +kernel
theorem dX1_value_21 : decode cX1_value 21 = .ok (.iload_n 1, 1) := by decide +kernel
theorem dX1_value_22 : decode cX1_value 22 = .ok (.iaload, 1) := by decide +kernel
theorem dX1_value_23 : decode cX1_value 23 = .ok (.ireturn, 1) := by decide +kernel
set_option maxRecDepth 20000 in
theorem ggX1_isMarked_X1_isCell : GoodIn wsX1_isMarked wsX1_isCell := goodIn_r _ [7] (by decide +kernel) (by decide +kernel)
set_option maxRecDepth 20000 in
theorem gX1_isMarked_X1_isCell : GoodIn wsX1_isMarked (va_wsS RX1 55 yX1_isCell wsX1_isCell) := goodIn_app (goodIn_of _ (by decide +kernel)) ggX1_isMarked_X1_isCell
theorem dX1_isMarked_0 : decode cX1_isMarked 0 = .ok (.iload_n 1, 1) := by decide +kernel
theorem dX1_isMarked_1 : decode cX1_isMarked 1 = .ok (.invokestatic 55, 3) := by decide +kernel
theorem dX1_isMarked_4 : decode cX1_isMarked 4 = .ok (.ifCond .ne 13, 3) := by decide +kernel
theorem dX1_isMarked_7 : decode cX1_isMarked 7 = .ok (.new 63, 3) := by decide +kernel
theorem dX1_isMarked_10 : decode cX1_isMarked 10 = .ok (.dup, 1) := by decide +kernel
theorem dX1_isMarked_11 : decode cX1_isMarked 11 = .ok (.ldc 119, 2) := by decide +kernel
theorem dX1_isMarked_13 : decode cX1_isMarked 13 = .ok (.invokespecial 67, 3) := by decide +kernel
theorem dX1_isMarked_16 : decode cX1_isMarked 16 = .ok (.athrow, 1) := by decide +kernel
theorem dX1_isMarked_17 : decode cX1_isMarked 17 = .ok (.aload_n 0, 1) := by decide +kernel
theorem dX1_isMarked_18 : decode cX1_isMarked 18 = .ok (.getfield 25, 3) := by decide +kernel
theorem dX1_isMarked_21 : decode cX1_isMarked 21 = .ok (.iload_n 1, 1) := by decide +kernel
theorem dX1_isMarked_22 : decode cX1_isMarked 22 = .ok (.baload, 1) := by decide +kernel
theorem dX1_isMarked_23 : decode cX1_isMarked 23 = .ok (.ireturn, 1) := by decide +kernel
set_option maxRecDepth 20000 in
theorem ggX1_valueAnew_X1_isCell : GoodIn wsX1_valueAnew wsX1_isCell := goodIn_r _ [8] (by decide +kernel) (by decide +kernel)
set_option maxRecDepth 20000 in
theorem gX1_valueAnew_X1_isCell : GoodIn wsX1_valueAnew (va_wsS RX1 55 yX1_isCell wsX1_isCell) := goodIn_app (goodIn_of _ (by decide +kernel)) ggX1_valueAnew_X1_isCell
set_option maxRecDepth 20000 in
theorem ggX1_valueAnew_X1_resultOf : GoodIn wsX1_valueAnew wsX1_resultOf := goodIn_r _ [12, 13, 14, 15, 16, 17, 18, 19, 20, 21, 22, 7, 23, 24, 25, 26, 27, 28, 29, 30, 31, 32, 33, 34, 35, 36, 37, 38, 39, 40, 41, 42, 43] (by decide +kernel) (by decide +kernel)
set_option maxRecDepth 20000 in
theorem gX1_valueAnew_X1_resultOf : GoodIn wsX1_valueAnew (wsV RX1 121 RX1 yX1_resultOf wsX1_resultOf) := goodIn_app (goodIn_of _ (by decide +kernel)) ggX1_valueAnew_X1_resultOf
theorem dX1_valueAnew_0 : decode cX1_valueAnew 0 = .ok (.iload_n 1, 1) := by decide +kernel
theorem dX1_valueAnew_1 : decode cX1_valueAnew 1 = .ok (.invokestatic 55, 3) := by decide +kernel
theorem dX1_valueAnew_4 : decode cX1_valueAnew 4 = .ok (.ifCond .ne 13, 3) := by decide +kernel
theorem dX1_valueAnew_7 : decode cX1_valueAnew 7 = .ok (.new 63, 3) := by decide +kernel
theorem dX1_valueAnew_10 : decode cX1_valueAnew 10 = .ok (.dup, 1) := by decide +kernel
theorem dX1_valueAnew_11 : decode cX1_valueAnew 11 = .ok (.ldc 119, 2) := by decide +kernel
theorem dX1_valueAnew_13 : decode cX1_valueAnew 13 = .ok (.invokespecial 67, 3) := by decide +kernel
theorem dX1_valueAnew_16 : decode cX1_valueAnew 16 = .ok (.athrow, 1) := by decide +kernel
theorem dX1_valueAnew_17 : decode cX1_valueAnew 17 = .ok (.iconst 0, 1) := by decide +kernel
theorem dX1_valueAnew_18 : decode cX1_valueAnew 18 = .ok (.istore_n 2, 1) := by decide +kernel
theorem dX1_valueAnew_19 : decode cX1_valueAnew 19 = .ok (.iload_n 2, 1) := by decide +kernel
theorem dX1_valueAnew_20 : decode cX1_valueAnew 20 = .ok (.bipush 24, 2) := by decide +kernel
theorem dX1_valueAnew_22 : decode cX1_valueAnew 22 = .ok (.if_icmp .ge 38, 3) := by decide +kernel
theorem dX1_valueAnew_25 : decode cX1_valueAnew 25 = .ok (.aload_n 0, 1) := by decide +kernel
theorem dX1_valueAnew_26 : decode cX1_valueAnew 26 = .ok (.getfield 29, 3) := by decide +kernel
theorem dX1_valueAnew_29 : decode cX1_valueAnew 29 = .ok (.iload_n 2, 1) := by decide +kernel
theorem dX1_valueAnew_30 : decode cX1_valueAnew 30 = .ok (.iaload, 1) := by decide +kernel
theorem dX1_valueAnew_31 : decode cX1_valueAnew 31 = .ok (.istore_n 3, 1) := by decide +kernel
theorem dX1_valueAnew_32 : decode cX1_valueAnew 32 = .ok (.iload_n 3, 1) := by decide +kernel
theorem dX1_valueAnew_33 : decode cX1_valueAnew 33 = .ok (.invokestatic 55, 3) := by decide +kernel
theorem dX1_valueAnew_36 : decode cX1_valueAnew 36 = .ok (.ifCond .eq 18, 3) := by decide +kernel
theorem dX1_valueAnew_39 : decode cX1_valueAnew 39 = .ok (.aload_n 0, 1) := by decide +kernel
theorem dX1_valueAnew_40 : decode cX1_valueAnew 40 = .ok (.getfield 48, 3) := by decide +kernel
theorem dX1_valueAnew_43 : decode cX1_valueAnew 43 = .ok (.iload_n 3, 1) := by decide +kernel
theorem dX1_valueAnew_44 : decode cX1_valueAnew 44 = .ok (.aload_n 0, 1) := by decide +kernel
theorem dX1_valueAnew_45 : decode cX1_valueAnew 45 = .ok (.iload_n 3, 1) := by decide +kernel
theorem dX1_valueAnew_46 : decode cX1_valueAnew 46 = .ok (.aload_n 0, 1) := by decide +kernel
theorem dX1_valueAnew_47 : decode cX1_valueAnew 47 = .ok (.getfield 48, 3) := by decide +kernel
theorem dX1_valueAnew_50 : decode cX1_valueAnew 50 = .ok (.invokevirtual 121, 3) := by decide +kernel
theorem dX1_valueAnew_53 : decode cX1_valueAnew 53 = .ok (.iastore, 1) := by decide +kernel
theorem dX1_valueAnew_54 : decode cX1_valueAnew 54 = .ok (.iinc 2 1, 3) := by decide +kernel
theorem dX1_valueAnew_57 : decode cX1_valueAnew 57 = .ok (.goto (-38), 3) := by decide +kernel
theorem dX1_valueAnew_60 : decode cX1_valueAnew 60 = .ok (.aload_n 0, 1) := by decide +kernel
theorem dX1_valueAnew_61 : decode cX1_valueAnew 61 = .ok (.getfield 48, 3) := by decide +kernel
theorem dX1_valueAnew_64 : decode cX1_valueAnew 64 = .ok (.iload_n 1, 1) := by decide +kernel
theorem dX1_valueAnew_65 : decode cX1_valueAnew 65 = .ok (.iaload, 1) := by decide +kernel
theorem dX1_valueAnew_66 : decode cX1_valueAnew 66 = .ok (.ireturn, 1) := by decide +kernel
theorem dX1_readings_0 : decode cX1_readings 0 = .ok (.aload_n 0, 1) := by decide +kernel
theorem dX1_readings_1 : decode cX1_readings 1 = .ok (.getfield 35, 3) := by decide +kernel
theorem dX1_readings_4 : decode cX1_readings 4 = .ok (.getfield 125, 3) := by decide +kernel
theorem dX1_readings_7 : decode cX1_readings 7 = .ok (.ireturn, 1) := by decide +kernel
theorem dX1_reading_0 : decode cX1_reading 0 = .ok (.iload_n 1, 1) := by decide +kernel
theorem dX1_reading_1 : decode cX1_reading 1 = .ok (.ifCond .lt 21, 3) := by decide +kernel
theorem dX1_reading_4 : decode cX1_reading 4 = .ok (.iload_n 1, 1) := by decide +kernel
theorem dX1_reading_5 : decode cX1_reading 5 = .ok (.aload_n 0, 1) := by decide +kernel
theorem dX1_reading_6 : decode cX1_reading 6 = .ok (.getfield 35, 3) := by decide +kernel
theorem dX1_reading_9 : decode cX1_reading 9 = .ok (.getfield 125, 3) := by decide +kernel
theorem dX1_reading_12 : decode cX1_reading 12 = .ok (.if_icmp .ge 10, 3) := by decide +kernel
theorem dX1_reading_15 : decode cX1_reading 15 = .ok (.iload_n 1, 1) := by decide +kernel
theorem dX1_reading_16 : decode cX1_reading 16 = .ok (.sipush 500, 3) := by decide +kernel
theorem dX1_reading_19 : decode cX1_reading 19 = .ok (.if_icmp .lt 13, 3) := by decide +kernel
theorem dX1_reading_22 : decode cX1_reading 22 = .ok (.new 129, 3) := by decide +kernel
theorem dX1_reading_25 : decode cX1_reading 25 = .ok (.dup, 1) := by decide +kernel
theorem dX1_reading_26 : decode cX1_reading 26 = .ok (.ldc 131, 2) := by decide +kernel
theorem dX1_reading_28 : decode cX1_reading 28 = .ok (.invokespecial 133, 3) := by decide +kernel
theorem dX1_reading_31 : decode cX1_reading 31 = .ok (.athrow, 1) := by decide +kernel
theorem dX1_reading_32 : decode cX1_reading 32 = .ok (.aload_n 0, 1) := by decide +kernel
theorem dX1_reading_33 : decode cX1_reading 33 = .ok (.getfield 35, 3) := by decide +kernel
theorem dX1_reading_36 : decode cX1_reading 36 = .ok (.getfield 134, 3) := by decide +kernel
theorem dX1_reading_39 : decode cX1_reading 39 = .ok (.iload_n 1, 1) := by decide +kernel
theorem dX1_reading_40 : decode cX1_reading 40 = .ok (.iaload, 1) := by decide +kernel
theorem dX1_reading_41 : decode cX1_reading 41 = .ok (.ireturn, 1) := by decide +kernel
set_option maxRecDepth 20000 in
theorem ggX1_timesRead_X1_isCell : GoodIn wsX1_timesRead wsX1_isCell := goodIn_r _ [7] (by decide +kernel) (by decide +kernel)
set_option maxRecDepth 20000 in
theorem gX1_timesRead_X1_isCell : GoodIn wsX1_timesRead (va_wsS RX1 55 yX1_isCell wsX1_isCell) := goodIn_app (goodIn_of _ (by decide +kernel)) ggX1_timesRead_X1_isCell
theorem dX1_timesRead_0 : decode cX1_timesRead 0 = .ok (.iload_n 1, 1) := by decide +kernel
theorem dX1_timesRead_1 : decode cX1_timesRead 1 = .ok (.invokestatic 55, 3) := by decide +kernel
theorem dX1_timesRead_4 : decode cX1_timesRead 4 = .ok (.ifCond .eq 10, 3) := by decide +kernel
theorem dX1_timesRead_7 : decode cX1_timesRead 7 = .ok (.iload_n 2, 1) := by decide +kernel
theorem dX1_timesRead_8 : decode cX1_timesRead 8 = .ok (.invokestatic 55, 3) := by decide +kernel
theorem dX1_timesRead_11 : decode cX1_timesRead 11 = .ok (.ifCond .ne 13, 3) := by decide +kernel
theorem dX1_timesRead_14 : decode cX1_timesRead 14 = .ok (.new 63, 3) := by decide +kernel
theorem dX1_timesRead_17 : decode cX1_timesRead 17 = .ok (.dup, 1) := by decide +kernel
theorem dX1_timesRead_18 : decode cX1_timesRead 18 = .ok (.ldc 137, 2) := by decide +kernel
theorem dX1_timesRead_20 : decode cX1_timesRead 20 = .ok (.invokespecial 67, 3) := by decide +kernel
theorem dX1_timesRead_23 : decode cX1_timesRead 23 = .ok (.athrow, 1) := by decide +kernel
theorem dX1_timesRead_24 : decode cX1_timesRead 24 = .ok (.aload_n 0, 1) := by decide +kernel
theorem dX1_timesRead_25 : decode cX1_timesRead 25 = .ok (.getfield 35, 3) := by decide +kernel
theorem dX1_timesRead_28 : decode cX1_timesRead 28 = .ok (.getfield 139, 3) := by decide +kernel
theorem dX1_timesRead_31 : decode cX1_timesRead 31 = .ok (.iload_n 1, 1) := by decide +kernel
theorem dX1_timesRead_32 : decode cX1_timesRead 32 = .ok (.bipush 24, 2) := by decide +kernel
theorem dX1_timesRead_34 : decode cX1_timesRead 34 = .ok (.imul, 1) := by decide +kernel
theorem dX1_timesRead_35 : decode cX1_timesRead 35 = .ok (.iload_n 2, 1) := by decide +kernel
theorem dX1_timesRead_36 : decode cX1_timesRead 36 = .ok (.iadd, 1) := by decide +kernel
theorem dX1_timesRead_37 : decode cX1_timesRead 37 = .ok (.iaload, 1) := by decide +kernel
theorem dX1_timesRead_38 : decode cX1_timesRead 38 = .ok (.ireturn, 1) := by decide +kernel
set_option maxRecDepth 20000 in
theorem ggX1_readOf_X1_isSheet : GoodIn wsX1_readOf wsX1_isSheet := goodIn_r _ [7] (by decide +kernel) (by decide +kernel)
set_option maxRecDepth 20000 in
theorem gX1_readOf_X1_isSheet : GoodIn wsX1_readOf (va_wsS RX1 98 yX1_isSheet wsX1_isSheet) := goodIn_app (goodIn_of _ (by decide +kernel)) ggX1_readOf_X1_isSheet
theorem dX1_readOf_0 : decode cX1_readOf 0 = .ok (.iload_n 1, 1) := by decide +kernel
theorem dX1_readOf_1 : decode cX1_readOf 1 = .ok (.invokestatic 98, 3) := by decide +kernel
theorem dX1_readOf_4 : decode cX1_readOf 4 = .ok (.ifCond .ne 13, 3) := by decide +kernel
theorem dX1_readOf_7 : decode cX1_readOf 7 = .ok (.new 63, 3) := by decide +kernel
theorem dX1_readOf_10 : decode cX1_readOf 10 = .ok (.dup, 1) := by decide +kernel
theorem dX1_readOf_11 : decode cX1_readOf 11 = .ok (.ldc 111, 2) := by decide +kernel
theorem dX1_readOf_13 : decode cX1_readOf 13 = .ok (.invokespecial 67, 3) := by decide +kernel
theorem dX1_readOf_16 : decode cX1_readOf 16 = .ok (.athrow, 1) := by decide +kernel
theorem dX1_readOf_17 : decode cX1_readOf 17 = .ok (.aload_n 0, 1) := by decide +kernel
theorem dX1_readOf_18 : decode cX1_readOf 18 = .ok (.getfield 35, 3) := by decide +kernel
theorem dX1_readOf_21 : decode cX1_readOf 21 = .ok (.getfield 142, 3) := by decide +kernel
theorem dX1_readOf_24 : decode cX1_readOf 24 = .ok (.iload_n 1, 1) := by decide +kernel
theorem dX1_readOf_25 : decode cX1_readOf 25 = .ok (.iaload, 1) := by decide +kernel
theorem dX1_readOf_26 : decode cX1_readOf 26 = .ok (.ireturn, 1) := by decide +kernel
theorem dX1_isUser_0 : decode cX1_isUser 0 = .ok (.iload_n 0, 1) := by decide +kernel
theorem dX1_isUser_1 : decode cX1_isUser 1 = .ok (.ifCond .lt 12, 3) := by decide +kernel
theorem dX1_isUser_4 : decode cX1_isUser 4 = .ok (.iload_n 0, 1) := by decide +kernel
theorem dX1_isUser_5 : decode cX1_isUser 5 = .ok (.iconst 5, 1) := by decide +kernel
theorem dX1_isUser_6 : decode cX1_isUser 6 = .ok (.if_icmp .ge 7, 3) := by decide +kernel
theorem dX1_isUser_9 : decode cX1_isUser 9 = .ok (.iconst 1, 1) := by decide +kernel
theorem dX1_isUser_10 : decode cX1_isUser 10 = .ok (.goto 4, 3) := by decide +kernel
theorem dX1_isUser_13 : decode cX1_isUser 13 = .ok (.iconst 0, 1) := by decide +kernel
theorem dX1_isUser_14 : decode cX1_isUser 14 = .ok (.ireturn, 1) := by decide +kernel
theorem dX1_isSheet_0 : decode cX1_isSheet 0 = .ok (.iload_n 0, 1) := by decide +kernel
theorem dX1_isSheet_1 : decode cX1_isSheet 1 = .ok (.ifCond .lt 12, 3) := by decide +kernel
theorem dX1_isSheet_4 : decode cX1_isSheet 4 = .ok (.iload_n 0, 1) := by decide +kernel
theorem dX1_isSheet_5 : decode cX1_isSheet 5 = .ok (.iconst 4, 1) := by decide +kernel
theorem dX1_isSheet_6 : decode cX1_isSheet 6 = .ok (.if_icmp .ge 7, 3) := by decide +kernel
theorem dX1_isSheet_9 : decode cX1_isSheet 9 = .ok (.iconst 1, 1) := by decide +kernel
theorem dX1_isSheet_10 : decode cX1_isSheet 10 = .ok (.goto 4, 3) := by decide +kernel
theorem dX1_isSheet_13 : decode cX1_isSheet 13 = .ok (.iconst 0, 1) := by decide +kernel
theorem dX1_isSheet_14 : decode cX1_isSheet 14 = .ok (.ireturn, 1) := by decide +kernel
theorem dX1_isCell_0 : decode cX1_isCell 0 = .ok (.iload_n 0, 1) := by decide +kernel
theorem dX1_isCell_1 : decode cX1_isCell 1 = .ok (.ifCond .lt 13, 3) := by decide +kernel
theorem dX1_isCell_4 : decode cX1_isCell 4 = .ok (.iload_n 0, 1) := by decide +kernel
theorem dX1_isCell_5 : decode cX1_isCell 5 = .ok (.bipush 24, 2) := by decide +kernel
theorem dX1_isCell_7 : decode cX1_isCell 7 = .ok (.if_icmp .ge 7, 3) := by decide +kernel
theorem dX1_isCell_10 : decode cX1_isCell 10 = .ok (.iconst 1, 1) := by decide +kernel
theorem dX1_isCell_11 : decode cX1_isCell 11 = .ok (.goto 4, 3) := by decide +kernel
theorem dX1_isCell_14 : decode cX1_isCell 14 = .ok (.iconst 0, 1) := by decide +kernel
theorem dX1_isCell_15 : decode cX1_isCell 15 = .ok (.ireturn, 1) := by decide +kernel
theorem dX1_isWithin_0 : decode cX1_isWithin 0 = .ok (.iload_n 0, 1) := by decide +kernel
theorem dX1_isWithin_1 : decode cX1_isWithin 1 = .ok (.iload_n 1, 1) := by decide +kernel
theorem dX1_isWithin_2 : decode cX1_isWithin 2 = .ok (.ineg, 1) := by decide +kernel
theorem dX1_isWithin_3 : decode cX1_isWithin 3 = .ok (.if_icmp .lt 12, 3) := by decide +kernel
theorem dX1_isWithin_6 : decode cX1_isWithin 6 = .ok (.iload_n 0, 1) := by decide +kernel
theorem dX1_isWithin_7 : decode cX1_isWithin 7 = .ok (.iload_n 1, 1) := by decide +kernel
theorem dX1_isWithin_8 : decode cX1_isWithin 8 = .ok (.if_icmp .gt 7, 3) := by decide +kernel
theorem dX1_isWithin_11 : decode cX1_isWithin 11 = .ok (.iconst 1, 1) := by decide +kernel
theorem dX1_isWithin_12 : decode cX1_isWithin 12 = .ok (.goto 4, 3) := by decide +kernel
theorem dX1_isWithin_15 : decode cX1_isWithin 15 = .ok (.iconst 0, 1) := by decide +kernel
theorem dX1_isWithin_16 : decode cX1_isWithin 16 = .ok (.ireturn, 1) := by decide +kernel
theorem dX1_sheetOf_0 : decode cX1_sheetOf 0 = .ok (.iload_n 0, 1) := by decide +kernel
theorem dX1_sheetOf_1 : decode cX1_sheetOf 1 = .ok (.bipush 6, 2) := by decide +kernel
theorem dX1_sheetOf_3 : decode cX1_sheetOf 3 = .ok (.idiv, 1) := by decide +kernel
theorem dX1_sheetOf_4 : decode cX1_sheetOf 4 = .ok (.ireturn, 1) := by decide +kernel
set_option maxRecDepth 20000 in
theorem ggX1_wouldReadItself_X1_isCell : GoodIn wsX1_wouldReadItself wsX1_isCell := goodIn_r _ [6] (by decide +kernel) (by decide +kernel)
set_option maxRecDepth 20000 in
theorem gX1_wouldReadItself_X1_isCell : GoodIn wsX1_wouldReadItself (va_wsS RX1 55 yX1_isCell wsX1_isCell) := goodIn_app (goodIn_of _ (by decide +kernel)) ggX1_wouldReadItself_X1_isCell
set_option maxRecDepth 20000 in
theorem ggX1_wouldReadItself_X1_readsOneOf : GoodIn wsX1_wouldReadItself wsX1_readsOneOf := goodIn_r _ [10, 11, 12, 13, 14, 5, 15, 16, 17, 18, 19, 20, 21, 22, 23, 24, 25, 26, 27] (by decide +kernel) (by decide +kernel)
set_option maxRecDepth 20000 in
theorem gX1_wouldReadItself_X1_readsOneOf : GoodIn wsX1_wouldReadItself (wsV RX1 145 RX1 yX1_readsOneOf wsX1_readsOneOf) := goodIn_app (goodIn_of _ (by decide +kernel)) ggX1_wouldReadItself_X1_readsOneOf
set_option maxRecDepth 20000 in
theorem ggX1_wouldReadItself_X1_isIn : GoodIn wsX1_wouldReadItself wsX1_isIn := goodIn_r _ [15] (by decide +kernel) (by decide +kernel)
set_option maxRecDepth 20000 in
theorem gX1_wouldReadItself_X1_isIn : GoodIn wsX1_wouldReadItself (va_wsS RX1 149 yX1_isIn wsX1_isIn) := goodIn_app (goodIn_of _ (by decide +kernel)) ggX1_wouldReadItself_X1_isIn
theorem dX1_wouldReadItself_0 : decode cX1_wouldReadItself 0 = .ok (.iconst 0, 1) := by decide +kernel
theorem dX1_wouldReadItself_1 : decode cX1_wouldReadItself 1 = .ok (.istore 4, 2) := by decide +kernel
theorem dX1_wouldReadItself_3 : decode cX1_wouldReadItself 3 = .ok (.iload 4, 2) := by decide +kernel
theorem dX1_wouldReadItself_5 : decode cX1_wouldReadItself 5 = .ok (.bipush 24, 2) := by decide +kernel
theorem dX1_wouldReadItself_7 : decode cX1_wouldReadItself 7 = .ok (.if_icmp .ge 27, 3) := by decide +kernel
theorem dX1_wouldReadItself_10 : decode cX1_wouldReadItself 10 = .ok (.aload_n 0, 1) := by decide +kernel
theorem dX1_wouldReadItself_11 : decode cX1_wouldReadItself 11 = .ok (.getfield 45, 3) := by decide +kernel
theorem dX1_wouldReadItself_14 : decode cX1_wouldReadItself 14 = .ok (.iload 4, 2) := by decide +kernel
theorem dX1_wouldReadItself_16 : decode cX1_wouldReadItself 16 = .ok (.iload 4, 2) := by decide +kernel
theorem dX1_wouldReadItself_18 : decode cX1_wouldReadItself 18 = .ok (.iload_n 1, 1) := by decide +kernel
theorem dX1_wouldReadItself_19 : decode cX1_wouldReadItself 19 = .ok (.if_icmp .ne 7, 3) := by decide +kernel
theorem dX1_wouldReadItself_22 : decode cX1_wouldReadItself 22 = .ok (.iconst 1, 1) := by decide +kernel
theorem dX1_wouldReadItself_23 : decode cX1_wouldReadItself 23 = .ok (.goto 4, 3) := by decide +kernel
theorem dX1_wouldReadItself_26 : decode cX1_wouldReadItself 26 = .ok (.iconst 0, 1) := by decide +kernel
theorem dX1_wouldReadItself_27 : decode cX1_wouldReadItself 27 = .ok (.bastore, 1) := by decide +kernel
theorem dX1_wouldReadItself_28 : decode cX1_wouldReadItself 28 = .ok (.iinc 4 1, 3) := by decide +kernel
theorem dX1_wouldReadItself_31 : decode cX1_wouldReadItself 31 = .ok (.goto (-28), 3) := by decide +kernel
theorem dX1_wouldReadItself_34 : decode cX1_wouldReadItself 34 = .ok (.iconst 0, 1) := by decide +kernel
theorem dX1_wouldReadItself_35 : decode cX1_wouldReadItself 35 = .ok (.istore 4, 2) := by decide +kernel
theorem dX1_wouldReadItself_37 : decode cX1_wouldReadItself 37 = .ok (.iload 4, 2) := by decide +kernel
theorem dX1_wouldReadItself_39 : decode cX1_wouldReadItself 39 = .ok (.bipush 24, 2) := by decide +kernel
theorem dX1_wouldReadItself_41 : decode cX1_wouldReadItself 41 = .ok (.if_icmp .ge 47, 3) := by decide +kernel
theorem dX1_wouldReadItself_44 : decode cX1_wouldReadItself 44 = .ok (.aload_n 0, 1) := by decide +kernel
theorem dX1_wouldReadItself_45 : decode cX1_wouldReadItself 45 = .ok (.getfield 29, 3) := by decide +kernel
theorem dX1_wouldReadItself_48 : decode cX1_wouldReadItself 48 = .ok (.iload 4, 2) := by decide +kernel
theorem dX1_wouldReadItself_50 : decode cX1_wouldReadItself 50 = .ok (.iaload, 1) := by decide +kernel
theorem dX1_wouldReadItself_51 : decode cX1_wouldReadItself 51 = .ok (.istore 5, 2) := by decide +kernel
theorem dX1_wouldReadItself_53 : decode cX1_wouldReadItself 53 = .ok (.iload 5, 2) := by decide +kernel
theorem dX1_wouldReadItself_55 : decode cX1_wouldReadItself 55 = .ok (.invokestatic 55, 3) := by decide +kernel
theorem dX1_wouldReadItself_58 : decode cX1_wouldReadItself 58 = .ok (.ifCond .eq 24, 3) := by decide +kernel
theorem dX1_wouldReadItself_61 : decode cX1_wouldReadItself 61 = .ok (.aload_n 0, 1) := by decide +kernel
theorem dX1_wouldReadItself_62 : decode cX1_wouldReadItself 62 = .ok (.iload 5, 2) := by decide +kernel
theorem dX1_wouldReadItself_64 : decode cX1_wouldReadItself 64 = .ok (.aload_n 0, 1) := by decide +kernel
theorem dX1_wouldReadItself_65 : decode cX1_wouldReadItself 65 = .ok (.getfield 45, 3) := by decide +kernel
theorem dX1_wouldReadItself_68 : decode cX1_wouldReadItself 68 = .ok (.invokevirtual 145, 3) := by decide +kernel
theorem dX1_wouldReadItself_71 : decode cX1_wouldReadItself 71 = .ok (.ifCond .eq 11, 3) := by decide +kernel
theorem dX1_wouldReadItself_74 : decode cX1_wouldReadItself 74 = .ok (.aload_n 0, 1) := by decide +kernel
theorem dX1_wouldReadItself_75 : decode cX1_wouldReadItself 75 = .ok (.getfield 45, 3) := by decide +kernel
theorem dX1_wouldReadItself_78 : decode cX1_wouldReadItself 78 = .ok (.iload 5, 2) := by decide +kernel
theorem dX1_wouldReadItself_80 : decode cX1_wouldReadItself 80 = .ok (.iconst 1, 1) := by decide +kernel
theorem dX1_wouldReadItself_81 : decode cX1_wouldReadItself 81 = .ok (.bastore, 1) := by decide +kernel
theorem dX1_wouldReadItself_82 : decode cX1_wouldReadItself 82 = .ok (.iinc 4 1, 3) := by decide +kernel
theorem dX1_wouldReadItself_85 : decode cX1_wouldReadItself 85 = .ok (.goto (-48), 3) := by decide +kernel
theorem dX1_wouldReadItself_88 : decode cX1_wouldReadItself 88 = .ok (.iload_n 2, 1) := by decide +kernel
theorem dX1_wouldReadItself_89 : decode cX1_wouldReadItself 89 = .ok (.aload_n 0, 1) := by decide +kernel
theorem dX1_wouldReadItself_90 : decode cX1_wouldReadItself 90 = .ok (.getfield 45, 3) := by decide +kernel
theorem dX1_wouldReadItself_93 : decode cX1_wouldReadItself 93 = .ok (.invokestatic 149, 3) := by decide +kernel
theorem dX1_wouldReadItself_96 : decode cX1_wouldReadItself 96 = .ok (.ifCond .ne 14, 3) := by decide +kernel
theorem dX1_wouldReadItself_99 : decode cX1_wouldReadItself 99 = .ok (.iload_n 3, 1) := by decide +kernel
theorem dX1_wouldReadItself_100 : decode cX1_wouldReadItself 100 = .ok (.aload_n 0, 1) := by decide +kernel
theorem dX1_wouldReadItself_101 : decode cX1_wouldReadItself 101 = .ok (.getfield 45, 3) := by decide +kernel
theorem dX1_wouldReadItself_104 : decode cX1_wouldReadItself 104 = .ok (.invokestatic 149, 3) := by decide +kernel
theorem dX1_wouldReadItself_107 : decode cX1_wouldReadItself 107 = .ok (.ifCond .eq 7, 3) := by decide +kernel
theorem dX1_wouldReadItself_110 : decode cX1_wouldReadItself 110 = .ok (.iconst 1, 1) := by decide +kernel
theorem dX1_wouldReadItself_111 : decode cX1_wouldReadItself 111 = .ok (.goto 4, 3) := by decide +kernel
theorem dX1_wouldReadItself_114 : decode cX1_wouldReadItself 114 = .ok (.iconst 0, 1) := by decide +kernel
theorem dX1_wouldReadItself_115 : decode cX1_wouldReadItself 115 = .ok (.ireturn, 1) := by decide +kernel
set_option maxRecDepth 20000 in
theorem ggX1_readsOneOf_X1_isIn : GoodIn wsX1_readsOneOf wsX1_isIn := goodIn_r _ [6] (by decide +kernel) (by decide +kernel)
set_option maxRecDepth 20000 in
theorem gX1_readsOneOf_X1_isIn : GoodIn wsX1_readsOneOf (va_wsS RX1 149 yX1_isIn wsX1_isIn) := goodIn_app (goodIn_of _ (by decide +kernel)) ggX1_readsOneOf_X1_isIn
theorem dX1_readsOneOf_0 : decode cX1_readsOneOf 0 = .ok (.aload_n 0, 1) := by decide +kernel
theorem dX1_readsOneOf_1 : decode cX1_readsOneOf 1 = .ok (.getfield 13, 3) := by decide +kernel
theorem dX1_readsOneOf_4 : decode cX1_readsOneOf 4 = .ok (.iload_n 1, 1) := by decide +kernel
theorem dX1_readsOneOf_5 : decode cX1_readsOneOf 5 = .ok (.iaload, 1) := by decide +kernel
theorem dX1_readsOneOf_6 : decode cX1_readsOneOf 6 = .ok (.aload_n 2, 1) := by decide +kernel
theorem dX1_readsOneOf_7 : decode cX1_readsOneOf 7 = .ok (.invokestatic 149, 3) := by decide +kernel
theorem dX1_readsOneOf_10 : decode cX1_readsOneOf 10 = .ok (.ifCond .ne 16, 3) := by decide +kernel
theorem dX1_readsOneOf_13 : decode cX1_readsOneOf 13 = .ok (.aload_n 0, 1) := by decide +kernel
theorem dX1_readsOneOf_14 : decode cX1_readsOneOf 14 = .ok (.getfield 16, 3) := by decide +kernel
theorem dX1_readsOneOf_17 : decode cX1_readsOneOf 17 = .ok (.iload_n 1, 1) := by decide +kernel
theorem dX1_readsOneOf_18 : decode cX1_readsOneOf 18 = .ok (.iaload, 1) := by decide +kernel
theorem dX1_readsOneOf_19 : decode cX1_readsOneOf 19 = .ok (.aload_n 2, 1) := by decide +kernel
theorem dX1_readsOneOf_20 : decode cX1_readsOneOf 20 = .ok (.invokestatic 149, 3) := by decide +kernel
theorem dX1_readsOneOf_23 : decode cX1_readsOneOf 23 = .ok (.ifCond .eq 7, 3) := by decide +kernel
theorem dX1_readsOneOf_26 : decode cX1_readsOneOf 26 = .ok (.iconst 1, 1) := by decide +kernel
theorem dX1_readsOneOf_27 : decode cX1_readsOneOf 27 = .ok (.goto 4, 3) := by decide +kernel
theorem dX1_readsOneOf_30 : decode cX1_readsOneOf 30 = .ok (.iconst 0, 1) := by decide +kernel
theorem dX1_readsOneOf_31 : decode cX1_readsOneOf 31 = .ok (.ireturn, 1) := by decide +kernel
theorem dX1_isIn_0 : decode cX1_isIn 0 = .ok (.iload_n 0, 1) := by decide +kernel
theorem dX1_isIn_1 : decode cX1_isIn 1 = .ok (.ifCond .lt 19, 3) := by decide +kernel
theorem dX1_isIn_4 : decode cX1_isIn 4 = .ok (.iload_n 0, 1) := by decide +kernel
theorem dX1_isIn_5 : decode cX1_isIn 5 = .ok (.aload_n 1, 1) := by decide +kernel
theorem dX1_isIn_6 : decode cX1_isIn 6 = .ok (.arraylength, 1) := by decide +kernel
theorem dX1_isIn_7 : decode cX1_isIn 7 = .ok (.if_icmp .ge 13, 3) := by decide +kernel
theorem dX1_isIn_10 : decode cX1_isIn 10 = .ok (.aload_n 1, 1) := by decide +kernel
theorem dX1_isIn_11 : decode cX1_isIn 11 = .ok (.iload_n 0, 1) := by decide +kernel
theorem dX1_isIn_12 : decode cX1_isIn 12 = .ok (.baload, 1) := by decide +kernel
theorem dX1_isIn_13 : decode cX1_isIn 13 = .ok (.ifCond .eq 7, 3) := by decide +kernel
theorem dX1_isIn_16 : decode cX1_isIn 16 = .ok (.iconst 1, 1) := by decide +kernel
theorem dX1_isIn_17 : decode cX1_isIn 17 = .ok (.goto 4, 3) := by decide +kernel
theorem dX1_isIn_20 : decode cX1_isIn 20 = .ok (.iconst 0, 1) := by decide +kernel
theorem dX1_isIn_21 : decode cX1_isIn 21 = .ok (.ireturn, 1) := by decide +kernel
set_option maxRecDepth 20000 in
theorem ggX1_giveFormula_X1_putInOrder : GoodIn wsX1_giveFormula wsX1_putInOrder := goodIn_r _ [9, 10, 11, 12, 13, 14, 8, 15, 2, 3, 16, 17, 18, 19, 20, 21, 22, 23, 24, 25, 91, 92, 93, 94, 95, 96, 97, 98, 99, 100, 101, 102] (by decide +kernel) (by decide +kernel)
set_option maxRecDepth 20000 in
theorem gX1_giveFormula_X1_putInOrder : GoodIn wsX1_giveFormula (wsV RX1 152 RX1 yX1_putInOrder wsX1_putInOrder) := goodIn_app (goodIn_of _ (by decide +kernel)) ggX1_giveFormula_X1_putInOrder
set_option maxRecDepth 20000 in
theorem ggX1_giveFormula_X1_forgetChanges : GoodIn wsX1_giveFormula wsX1_forgetChanges := goodIn_r _ [29, 30, 91, 92, 93, 94, 95, 96, 97, 98, 99, 100, 101, 102] (by decide +kernel) (by decide +kernel)
set_option maxRecDepth 20000 in
theorem gX1_giveFormula_X1_forgetChanges : GoodIn wsX1_giveFormula (wsV RX1 91 RX1 yX1_forgetChanges wsX1_forgetChanges) := goodIn_app (goodIn_of _ (by decide +kernel)) ggX1_giveFormula_X1_forgetChanges
set_option maxRecDepth 20000 in
theorem ggX1_giveFormula_X1_compute : GoodIn wsX1_giveFormula wsX1_compute := goodIn_r _ [34, 2, 3, 35, 36, 37, 30, 38, 39, 8, 40, 23, 24, 25, 41, 42, 43, 44, 45, 46, 47, 48, 49, 50, 51, 52, 53, 54, 55, 56, 57, 58, 59, 60, 61, 62, 63, 64, 65, 66, 67, 1, 4, 68, 69, 70, 71, 72, 73, 74, 75, 76, 77, 78, 79, 80, 81, 82, 91, 92, 93, 94, 95, 96, 97, 98, 99, 100, 101, 102, 103, 104, 105, 106, 107, 108, 109, 110] (by decide +kernel) (by decide +kernel)
set_option maxRecDepth 20000 in
theorem gX1_giveFormula_X1_compute : GoodIn wsX1_giveFormula (wsV RX1 155 RX1 yX1_compute wsX1_compute) := goodIn_app (goodIn_of _ (by decide +kernel)) ggX1_giveFormula_X1_compute
set_option maxRecDepth 20000 in
theorem ggX1_giveFormula_X1_goThrough : GoodIn wsX1_giveFormula wsX1_goThrough := goodIn_r _ [86, 11, 30, 35, 23, 24, 8, 25, 87, 88, 89, 90, 2, 3, 20, 21, 22, 31, 32, 33, 34, 36, 37, 38, 39, 40, 41, 42, 43, 44, 45, 46, 47, 48, 49, 50, 51, 52, 53, 54, 55, 56, 57, 58, 59, 60, 61, 62, 63, 64, 65, 66, 67, 1, 4, 68, 69, 70, 71, 72, 73, 74, 75, 76, 77, 78, 79, 80, 81, 82, 91, 92, 93, 94, 95, 96, 97, 98, 99, 100, 101, 102, 103, 104, 105, 106, 107, 108, 109, 110] (by decide +kernel) (by decide +kernel)
set_option maxRecDepth 20000 in
theorem gX1_giveFormula_X1_goThrough : GoodIn wsX1_giveFormula (wsV RX1 94 RX1 yX1_goThrough wsX1_goThrough) := goodIn_app (goodIn_of _ (by decide +kernel)) ggX1_giveFormula_X1_goThrough
theorem dX1_giveFormula_0 : decode cX1_giveFormula 0 = .ok (.aload_n 0, 1) := by decide +kernel
theorem dX1_giveFormula_1 : decode cX1_giveFormula 1 = .ok (.getfield 9, 3) := by decide +kernel
theorem dX1_giveFormula_4 : decode cX1_giveFormula 4 = .ok (.iload_n 2, 1) := by decide +kernel
theorem dX1_giveFormula_5 : decode cX1_giveFormula 5 = .ok (.iload_n 3, 1) := by decide +kernel
theorem dX1_giveFormula_6 : decode cX1_giveFormula 6 = .ok (.iastore, 1) := by decide +kernel
theorem dX1_giveFormula_7 : decode cX1_giveFormula 7 = .ok (.aload_n 0, 1) := by decide +kernel
theorem dX1_giveFormula_8 : decode cX1_giveFormula 8 = .ok (.getfield 13, 3) := by decide +kernel
theorem dX1_giveFormula_11 : decode cX1_giveFormula 11 = .ok (.iload_n 2, 1) := by decide +kernel
theorem dX1_giveFormula_12 : decode cX1_giveFormula 12 = .ok (.iload 4, 2) := by decide +kernel
theorem dX1_giveFormula_14 : decode cX1_giveFormula 14 = .ok (.iastore, 1) := by decide +kernel
theorem dX1_giveFormula_15 : decode cX1_giveFormula 15 = .ok (.aload_n 0, 1) := by decide +kernel
theorem dX1_giveFormula_16 : decode cX1_giveFormula 16 = .ok (.getfield 16, 3) := by decide +kernel
theorem dX1_giveFormula_19 : decode cX1_giveFormula 19 = .ok (.iload_n 2, 1) := by decide +kernel
theorem dX1_giveFormula_20 : decode cX1_giveFormula 20 = .ok (.iload 5, 2) := by decide +kernel
theorem dX1_giveFormula_22 : decode cX1_giveFormula 22 = .ok (.iastore, 1) := by decide +kernel
theorem dX1_giveFormula_23 : decode cX1_giveFormula 23 = .ok (.aload_n 0, 1) := by decide +kernel
theorem dX1_giveFormula_24 : decode cX1_giveFormula 24 = .ok (.getfield 19, 3) := by decide +kernel
theorem dX1_giveFormula_27 : decode cX1_giveFormula 27 = .ok (.iload_n 2, 1) := by decide +kernel
theorem dX1_giveFormula_28 : decode cX1_giveFormula 28 = .ok (.iload 6, 2) := by decide +kernel
theorem dX1_giveFormula_30 : decode cX1_giveFormula 30 = .ok (.iastore, 1) := by decide +kernel
theorem dX1_giveFormula_31 : decode cX1_giveFormula 31 = .ok (.aload_n 0, 1) := by decide +kernel
theorem dX1_giveFormula_32 : decode cX1_giveFormula 32 = .ok (.invokevirtual 152, 3) := by decide +kernel
theorem dX1_giveFormula_35 : decode cX1_giveFormula 35 = .ok (.aload_n 0, 1) := by decide +kernel
theorem dX1_giveFormula_36 : decode cX1_giveFormula 36 = .ok (.invokevirtual 91, 3) := by decide +kernel
theorem dX1_giveFormula_39 : decode cX1_giveFormula 39 = .ok (.aload_n 0, 1) := by decide +kernel
theorem dX1_giveFormula_40 : decode cX1_giveFormula 40 = .ok (.iload_n 1, 1) := by decide +kernel
theorem dX1_giveFormula_41 : decode cX1_giveFormula 41 = .ok (.iload_n 2, 1) := by decide +kernel
theorem dX1_giveFormula_42 : decode cX1_giveFormula 42 = .ok (.invokevirtual 155, 3) := by decide +kernel
theorem dX1_giveFormula_45 : decode cX1_giveFormula 45 = .ok (.iconst 1, 1) := by decide +kernel
theorem dX1_giveFormula_46 : decode cX1_giveFormula 46 = .ok (.aload_n 0, 1) := by decide +kernel
theorem dX1_giveFormula_47 : decode cX1_giveFormula 47 = .ok (.iload_n 1, 1) := by decide +kernel
theorem dX1_giveFormula_48 : decode cX1_giveFormula 48 = .ok (.iconst 0, 1) := by decide +kernel
theorem dX1_giveFormula_49 : decode cX1_giveFormula 49 = .ok (.invokevirtual 94, 3) := by decide +kernel
theorem dX1_giveFormula_52 : decode cX1_giveFormula 52 = .ok (.iadd, 1) := by decide +kernel
theorem dX1_giveFormula_53 : decode cX1_giveFormula 53 = .ok (.ireturn, 1) := by decide +kernel
set_option maxRecDepth 20000 in
theorem ggX1_putInOrder_X1_lowestFreeCell : GoodIn wsX1_putInOrder wsX1_lowestFreeCell := goodIn_r _ [7, 1, 8, 9, 10, 11, 12, 6, 13, 14, 15, 16, 20, 21, 22, 23, 24, 25, 26, 27, 28, 29, 30, 31] (by decide +kernel) (by decide +kernel)
set_option maxRecDepth 20000 in
theorem gX1_putInOrder_X1_lowestFreeCell : GoodIn wsX1_putInOrder (wsV RX1 159 RX1 yX1_lowestFreeCell wsX1_lowestFreeCell) := goodIn_app (goodIn_of _ (by decide +kernel)) ggX1_putInOrder_X1_lowestFreeCell
set_option maxRecDepth 20000 in
theorem ggX1_putInOrder_X1_isCell : GoodIn wsX1_putInOrder wsX1_isCell := goodIn_r _ [19] (by decide +kernel) (by decide +kernel)
set_option maxRecDepth 20000 in
theorem gX1_putInOrder_X1_isCell : GoodIn wsX1_putInOrder (va_wsS RX1 55 yX1_isCell wsX1_isCell) := goodIn_app (goodIn_of _ (by decide +kernel)) ggX1_putInOrder_X1_isCell
theorem dX1_putInOrder_0 : decode cX1_putInOrder 0 = .ok (.iconst 0, 1) := by decide +kernel
theorem dX1_putInOrder_1 : decode cX1_putInOrder 1 = .ok (.istore_n 1, 1) := by decide +kernel
theorem dX1_putInOrder_2 : decode cX1_putInOrder 2 = .ok (.iload_n 1, 1) := by decide +kernel
theorem dX1_putInOrder_3 : decode cX1_putInOrder 3 = .ok (.bipush 24, 2) := by decide +kernel
theorem dX1_putInOrder_5 : decode cX1_putInOrder 5 = .ok (.if_icmp .ge 16, 3) := by decide +kernel
theorem dX1_putInOrder_8 : decode cX1_putInOrder 8 = .ok (.aload_n 0, 1) := by decide +kernel
theorem dX1_putInOrder_9 : decode cX1_putInOrder 9 = .ok (.getfield 42, 3) := by decide +kernel
theorem dX1_putInOrder_12 : decode cX1_putInOrder 12 = .ok (.iload_n 1, 1) := by decide +kernel
theorem dX1_putInOrder_13 : decode cX1_putInOrder 13 = .ok (.iconst 0, 1) := by decide +kernel
theorem dX1_putInOrder_14 : decode cX1_putInOrder 14 = .ok (.bastore, 1) := by decide +kernel
theorem dX1_putInOrder_15 : decode cX1_putInOrder 15 = .ok (.iinc 1 1, 3) := by decide +kernel
theorem dX1_putInOrder_18 : decode cX1_putInOrder 18 = .ok (.goto (-16), 3) := by decide +kernel
theorem dX1_putInOrder_21 : decode cX1_putInOrder 21 = .ok (.iconst 0, 1) := by decide +kernel
theorem dX1_putInOrder_22 : decode cX1_putInOrder 22 = .ok (.istore_n 1, 1) := by decide +kernel
theorem dX1_putInOrder_23 : decode cX1_putInOrder 23 = .ok (.iload_n 1, 1) := by decide +kernel
theorem dX1_putInOrder_24 : decode cX1_putInOrder 24 = .ok (.bipush 24, 2) := by decide +kernel
theorem dX1_putInOrder_26 : decode cX1_putInOrder 26 = .ok (.if_icmp .ge 35, 3) := by decide +kernel
theorem dX1_putInOrder_29 : decode cX1_putInOrder 29 = .ok (.aload_n 0, 1) := by decide +kernel
theorem dX1_putInOrder_30 : decode cX1_putInOrder 30 = .ok (.invokevirtual 159, 3) := by decide +kernel
theorem dX1_putInOrder_33 : decode cX1_putInOrder 33 = .ok (.istore_n 2, 1) := by decide +kernel
theorem dX1_putInOrder_34 : decode cX1_putInOrder 34 = .ok (.aload_n 0, 1) := by decide +kernel
theorem dX1_putInOrder_35 : decode cX1_putInOrder 35 = .ok (.getfield 29, 3) := by decide +kernel
theorem dX1_putInOrder_38 : decode cX1_putInOrder 38 = .ok (.iload_n 1, 1) := by decide +kernel
theorem dX1_putInOrder_39 : decode cX1_putInOrder 39 = .ok (.iload_n 2, 1) := by decide +kernel
theorem dX1_putInOrder_40 : decode cX1_putInOrder 40 = .ok (.iastore, 1) := by decide +kernel
theorem dX1_putInOrder_41 : decode cX1_putInOrder 41 = .ok (.iload_n 2, 1) := by decide +kernel
theorem dX1_putInOrder_42 : decode cX1_putInOrder 42 = .ok (.invokestatic 55, 3) := by decide +kernel
theorem dX1_putInOrder_45 : decode cX1_putInOrder 45 = .ok (.ifCond .eq 10, 3) := by decide +kernel
theorem dX1_putInOrder_48 : decode cX1_putInOrder 48 = .ok (.aload_n 0, 1) := by decide +kernel
theorem dX1_putInOrder_49 : decode cX1_putInOrder 49 = .ok (.getfield 42, 3) := by decide +kernel
theorem dX1_putInOrder_52 : decode cX1_putInOrder 52 = .ok (.iload_n 2, 1) := by decide +kernel
theorem dX1_putInOrder_53 : decode cX1_putInOrder 53 = .ok (.iconst 1, 1) := by decide +kernel
theorem dX1_putInOrder_54 : decode cX1_putInOrder 54 = .ok (.bastore, 1) := by decide +kernel
theorem dX1_putInOrder_55 : decode cX1_putInOrder 55 = .ok (.iinc 1 1, 3) := by decide +kernel
theorem dX1_putInOrder_58 : decode cX1_putInOrder 58 = .ok (.goto (-35), 3) := by decide +kernel
theorem dX1_putInOrder_61 : decode cX1_putInOrder 61 = .ok (.return_, 1) := by decide +kernel
set_option maxRecDepth 20000 in
theorem ggX1_lowestFreeCell_X1_isReady : GoodIn wsX1_lowestFreeCell wsX1_isReady := goodIn_r _ [8, 1, 9, 10, 7, 11, 12, 13, 14, 15, 16, 17, 18, 19, 20, 21, 22, 23] (by decide +kernel) (by decide +kernel)
set_option maxRecDepth 20000 in
theorem gX1_lowestFreeCell_X1_isReady : GoodIn wsX1_lowestFreeCell (wsV RX1 163 RX1 yX1_isReady wsX1_isReady) := goodIn_app (goodIn_of _ (by decide +kernel)) ggX1_lowestFreeCell_X1_isReady
theorem dX1_lowestFreeCell_0 : decode cX1_lowestFreeCell 0 = .ok (.iconst 0, 1) := by decide +kernel
theorem dX1_lowestFreeCell_1 : decode cX1_lowestFreeCell 1 = .ok (.istore_n 1, 1) := by decide +kernel
theorem dX1_lowestFreeCell_2 : decode cX1_lowestFreeCell 2 = .ok (.iload_n 1, 1) := by decide +kernel
theorem dX1_lowestFreeCell_3 : decode cX1_lowestFreeCell 3 = .ok (.bipush 24, 2) := by decide +kernel
theorem dX1_lowestFreeCell_5 : decode cX1_lowestFreeCell 5 = .ok (.if_icmp .ge 46, 3) := by decide +kernel
theorem dX1_lowestFreeCell_8 : decode cX1_lowestFreeCell 8 = .ok (.aload_n 0, 1) := by decide +kernel
theorem dX1_lowestFreeCell_9 : decode cX1_lowestFreeCell 9 = .ok (.getfield 42, 3) := by decide +kernel
theorem dX1_lowestFreeCell_12 : decode cX1_lowestFreeCell 12 = .ok (.iload_n 1, 1) := by decide +kernel
theorem dX1_lowestFreeCell_13 : decode cX1_lowestFreeCell 13 = .ok (.baload, 1) := by decide +kernel
theorem dX1_lowestFreeCell_14 : decode cX1_lowestFreeCell 14 = .ok (.ifCond .ne 31, 3) := by decide +kernel
theorem dX1_lowestFreeCell_17 : decode cX1_lowestFreeCell 17 = .ok (.aload_n 0, 1) := by decide +kernel
theorem dX1_lowestFreeCell_18 : decode cX1_lowestFreeCell 18 = .ok (.aload_n 0, 1) := by decide +kernel
theorem dX1_lowestFreeCell_19 : decode cX1_lowestFreeCell 19 = .ok (.getfield 13, 3) := by decide +kernel
theorem dX1_lowestFreeCell_22 : decode cX1_lowestFreeCell 22 = .ok (.iload_n 1, 1) := by decide +kernel
theorem dX1_lowestFreeCell_23 : decode cX1_lowestFreeCell 23 = .ok (.iaload, 1) := by decide +kernel
theorem dX1_lowestFreeCell_24 : decode cX1_lowestFreeCell 24 = .ok (.invokevirtual 163, 3) := by decide +kernel
theorem dX1_lowestFreeCell_27 : decode cX1_lowestFreeCell 27 = .ok (.ifCond .eq 18, 3) := by decide +kernel
theorem dX1_lowestFreeCell_30 : decode cX1_lowestFreeCell 30 = .ok (.aload_n 0, 1) := by decide +kernel
theorem dX1_lowestFreeCell_31 : decode cX1_lowestFreeCell 31 = .ok (.aload_n 0, 1) := by decide +kernel
theorem dX1_lowestFreeCell_32 : decode cX1_lowestFreeCell 32 = .ok (.getfield 16, 3) := by decide +kernel
theorem dX1_lowestFreeCell_35 : decode cX1_lowestFreeCell 35 = .ok (.iload_n 1, 1) := by decide +kernel
theorem dX1_lowestFreeCell_36 : decode cX1_lowestFreeCell 36 = .ok (.iaload, 1) := by decide +kernel
theorem dX1_lowestFreeCell_37 : decode cX1_lowestFreeCell 37 = .ok (.invokevirtual 163, 3) := by decide +kernel
theorem dX1_lowestFreeCell_40 : decode cX1_lowestFreeCell 40 = .ok (.ifCond .eq 5, 3) := by decide +kernel
theorem dX1_lowestFreeCell_43 : decode cX1_lowestFreeCell 43 = .ok (.iload_n 1, 1) := by decide +kernel
theorem dX1_lowestFreeCell_44 : decode cX1_lowestFreeCell 44 = .ok (.ireturn, 1) := by decide +kernel
theorem dX1_lowestFreeCell_45 : decode cX1_lowestFreeCell 45 = .ok (.iinc 1 1, 3) := by decide +kernel
theorem dX1_lowestFreeCell_48 : decode cX1_lowestFreeCell 48 = .ok (.goto (-46), 3) := by decide +kernel
theorem dX1_lowestFreeCell_51 : decode cX1_lowestFreeCell 51 = .ok (.iconst (-1), 1) := by decide +kernel
theorem dX1_lowestFreeCell_52 : decode cX1_lowestFreeCell 52 = .ok (.ireturn, 1) := by decide +kernel
set_option maxRecDepth 20000 in
theorem ggX1_isReady_X1_isIn : GoodIn wsX1_isReady wsX1_isIn := goodIn_r _ [5] (by decide +kernel) (by decide +kernel)
set_option maxRecDepth 20000 in
theorem gX1_isReady_X1_isIn : GoodIn wsX1_isReady (va_wsS RX1 149 yX1_isIn wsX1_isIn) := goodIn_app (goodIn_of _ (by decide +kernel)) ggX1_isReady_X1_isIn
theorem dX1_isReady_0 : decode cX1_isReady 0 = .ok (.iload_n 1, 1) := by decide +kernel
theorem dX1_isReady_1 : decode cX1_isReady 1 = .ok (.iconst (-1), 1) := by decide +kernel
theorem dX1_isReady_2 : decode cX1_isReady 2 = .ok (.if_icmp .eq 14, 3) := by decide +kernel
theorem dX1_isReady_5 : decode cX1_isReady 5 = .ok (.iload_n 1, 1) := by decide +kernel
theorem dX1_isReady_6 : decode cX1_isReady 6 = .ok (.aload_n 0, 1) := by decide +kernel
theorem dX1_isReady_7 : decode cX1_isReady 7 = .ok (.getfield 42, 3) := by decide +kernel
theorem dX1_isReady_10 : decode cX1_isReady 10 = .ok (.invokestatic 149, 3) := by decide +kernel
theorem dX1_isReady_13 : decode cX1_isReady 13 = .ok (.ifCond .eq 7, 3) := by decide +kernel
theorem dX1_isReady_16 : decode cX1_isReady 16 = .ok (.iconst 1, 1) := by decide +kernel
theorem dX1_isReady_17 : decode cX1_isReady 17 = .ok (.goto 4, 3) := by decide +kernel
theorem dX1_isReady_20 : decode cX1_isReady 20 = .ok (.iconst 0, 1) := by decide +kernel
theorem dX1_isReady_21 : decode cX1_isReady 21 = .ok (.ireturn, 1) := by decide +kernel
theorem dX1_forgetChanges_0 : decode cX1_forgetChanges 0 = .ok (.iconst 0, 1) := by decide +kernel
theorem dX1_forgetChanges_1 : decode cX1_forgetChanges 1 = .ok (.istore_n 1, 1) := by decide +kernel
theorem dX1_forgetChanges_2 : decode cX1_forgetChanges 2 = .ok (.iload_n 1, 1) := by decide +kernel
theorem dX1_forgetChanges_3 : decode cX1_forgetChanges 3 = .ok (.bipush 24, 2) := by decide +kernel
theorem dX1_forgetChanges_5 : decode cX1_forgetChanges 5 = .ok (.if_icmp .ge 16, 3) := by decide +kernel
theorem dX1_forgetChanges_8 : decode cX1_forgetChanges 8 = .ok (.aload_n 0, 1) := by decide +kernel
theorem dX1_forgetChanges_9 : decode cX1_forgetChanges 9 = .ok (.getfield 39, 3) := by decide +kernel
theorem dX1_forgetChanges_12 : decode cX1_forgetChanges 12 = .ok (.iload_n 1, 1) := by decide +kernel
theorem dX1_forgetChanges_13 : decode cX1_forgetChanges 13 = .ok (.iconst 0, 1) := by decide +kernel
theorem dX1_forgetChanges_14 : decode cX1_forgetChanges 14 = .ok (.bastore, 1) := by decide +kernel
theorem dX1_forgetChanges_15 : decode cX1_forgetChanges 15 = .ok (.iinc 1 1, 3) := by decide +kernel
theorem dX1_forgetChanges_18 : decode cX1_forgetChanges 18 = .ok (.goto (-16), 3) := by decide +kernel
theorem dX1_forgetChanges_21 : decode cX1_forgetChanges 21 = .ok (.return_, 1) := by decide +kernel
set_option maxRecDepth 20000 in
theorem ggX1_goThrough_X1_isCell : GoodIn wsX1_goThrough wsX1_isCell := goodIn_r _ [7] (by decide +kernel) (by decide +kernel)
set_option maxRecDepth 20000 in
theorem gX1_goThrough_X1_isCell : GoodIn wsX1_goThrough (va_wsS RX1 55 yX1_isCell wsX1_isCell) := goodIn_app (goodIn_of _ (by decide +kernel)) ggX1_goThrough_X1_isCell
set_option maxRecDepth 20000 in
theorem ggX1_goThrough_X1_readsOneOf : GoodIn wsX1_goThrough wsX1_readsOneOf := goodIn_r _ [11, 12, 13, 14, 15, 6, 16, 70, 71, 72, 73, 74, 75, 76, 77, 78, 79, 80, 81] (by decide +kernel) (by decide +kernel)
set_option maxRecDepth 20000 in
theorem gX1_goThrough_X1_readsOneOf : GoodIn wsX1_goThrough (wsV RX1 145 RX1 yX1_readsOneOf wsX1_readsOneOf) := goodIn_app (goodIn_of _ (by decide +kernel)) ggX1_goThrough_X1_readsOneOf
set_option maxRecDepth 20000 in
theorem ggX1_goThrough_X1_compute : GoodIn wsX1_goThrough wsX1_compute := goodIn_r _ [20, 12, 13, 3, 21, 22, 2, 23, 24, 6, 25, 4, 5, 7, 26, 27, 28, 29, 30, 31, 32, 33, 34, 35, 36, 37, 38, 39, 40, 41, 42, 43, 44, 45, 46, 47, 48, 49, 50, 51, 52, 53, 54, 55, 56, 57, 58, 59, 60, 61, 62, 63, 64, 65, 66, 67, 68, 69, 70, 71, 72, 73, 74, 75, 76, 77, 78, 79, 80, 81, 82, 83, 84, 85, 86, 87, 88, 89] (by decide +kernel) (by decide +kernel)
set_option maxRecDepth 20000 in
theorem gX1_goThrough_X1_compute : GoodIn wsX1_goThrough (wsV RX1 155 RX1 yX1_compute wsX1_compute) := goodIn_app (goodIn_of _ (by decide +kernel)) ggX1_goThrough_X1_compute
theorem dX1_goThrough_0 : decode cX1_goThrough 0 = .ok (.iconst 0, 1) := by decide +kernel
theorem dX1_goThrough_1 : decode cX1_goThrough 1 = .ok (.istore_n 3, 1) := by decide +kernel
theorem dX1_goThrough_2 : decode cX1_goThrough 2 = .ok (.iconst 0, 1) := by decide +kernel
theorem dX1_goThrough_3 : decode cX1_goThrough 3 = .ok (.istore 4, 2) := by decide +kernel
theorem dX1_goThrough_5 : decode cX1_goThrough 5 = .ok (.iload 4, 2) := by decide +kernel
theorem dX1_goThrough_7 : decode cX1_goThrough 7 = .ok (.bipush 24, 2) := by decide +kernel
theorem dX1_goThrough_9 : decode cX1_goThrough 9 = .ok (.if_icmp .ge 63, 3) := by decide +kernel
theorem dX1_goThrough_12 : decode cX1_goThrough 12 = .ok (.aload_n 0, 1) := by decide +kernel
theorem dX1_goThrough_13 : decode cX1_goThrough 13 = .ok (.getfield 29, 3) := by decide +kernel
theorem dX1_goThrough_16 : decode cX1_goThrough 16 = .ok (.iload 4, 2) := by decide +kernel
theorem dX1_goThrough_18 : decode cX1_goThrough 18 = .ok (.iaload, 1) := by decide +kernel
theorem dX1_goThrough_19 : decode cX1_goThrough 19 = .ok (.istore 5, 2) := by decide +kernel
theorem dX1_goThrough_21 : decode cX1_goThrough 21 = .ok (.iload 5, 2) := by decide +kernel
theorem dX1_goThrough_23 : decode cX1_goThrough 23 = .ok (.invokestatic 55, 3) := by decide +kernel
theorem dX1_goThrough_26 : decode cX1_goThrough 26 = .ok (.ifCond .eq 40, 3) := by decide +kernel
theorem dX1_goThrough_29 : decode cX1_goThrough 29 = .ok (.aload_n 0, 1) := by decide +kernel
theorem dX1_goThrough_30 : decode cX1_goThrough 30 = .ok (.iload 5, 2) := by decide +kernel
theorem dX1_goThrough_32 : decode cX1_goThrough 32 = .ok (.aload_n 0, 1) := by decide +kernel
theorem dX1_goThrough_33 : decode cX1_goThrough 33 = .ok (.getfield 39, 3) := by decide +kernel
theorem dX1_goThrough_36 : decode cX1_goThrough 36 = .ok (.invokevirtual 145, 3) := by decide +kernel
theorem dX1_goThrough_39 : decode cX1_goThrough 39 = .ok (.ifCond .ne 17, 3) := by decide +kernel
theorem dX1_goThrough_42 : decode cX1_goThrough 42 = .ok (.iload_n 2, 1) := by decide +kernel
theorem dX1_goThrough_43 : decode cX1_goThrough 43 = .ok (.ifCond .eq 23, 3) := by decide +kernel
theorem dX1_goThrough_46 : decode cX1_goThrough 46 = .ok (.aload_n 0, 1) := by decide +kernel
theorem dX1_goThrough_47 : decode cX1_goThrough 47 = .ok (.getfield 25, 3) := by decide +kernel
theorem dX1_goThrough_50 : decode cX1_goThrough 50 = .ok (.iload 5, 2) := by decide +kernel
theorem dX1_goThrough_52 : decode cX1_goThrough 52 = .ok (.baload, 1) := by decide +kernel
theorem dX1_goThrough_53 : decode cX1_goThrough 53 = .ok (.ifCond .eq 13, 3) := by decide +kernel
theorem dX1_goThrough_56 : decode cX1_goThrough 56 = .ok (.aload_n 0, 1) := by decide +kernel
theorem dX1_goThrough_57 : decode cX1_goThrough 57 = .ok (.iload_n 1, 1) := by decide +kernel
theorem dX1_goThrough_58 : decode cX1_goThrough 58 = .ok (.iload 5, 2) := by decide +kernel
theorem dX1_goThrough_60 : decode cX1_goThrough 60 = .ok (.invokevirtual 155, 3) := by decide +kernel
theorem dX1_goThrough_63 : decode cX1_goThrough 63 = .ok (.iinc 3 1, 3) := by decide +kernel
theorem dX1_goThrough_66 : decode cX1_goThrough 66 = .ok (.iinc 4 1, 3) := by decide +kernel
theorem dX1_goThrough_69 : decode cX1_goThrough 69 = .ok (.goto (-64), 3) := by decide +kernel
theorem dX1_goThrough_72 : decode cX1_goThrough 72 = .ok (.iload_n 3, 1) := by decide +kernel
theorem dX1_goThrough_73 : decode cX1_goThrough 73 = .ok (.ireturn, 1) := by decide +kernel
set_option maxRecDepth 20000 in
theorem ggX1_compute_X1_meteredRead : GoodIn wsX1_compute wsX1_meteredRead := goodIn_r _ [10, 11, 12, 9, 13, 14, 15, 16] (by decide +kernel) (by decide +kernel)
set_option maxRecDepth 20000 in
theorem gX1_compute_X1_meteredRead : GoodIn wsX1_compute (va_wsS RX1 166 yX1_meteredRead wsX1_meteredRead) := goodIn_app (goodIn_of _ (by decide +kernel)) ggX1_compute_X1_meteredRead
set_option maxRecDepth 20000 in
theorem ggX1_compute_X0_paysFor : GoodIn wsX1_compute wsX0_paysFor := goodIn_r _ [20, 21, 15, 9, 16, 22, 23, 24, 18, 25, 26, 12, 13, 27, 28, 29, 30, 31, 32, 33, 34, 35, 36, 70, 71, 72, 73, 74, 75, 76, 77] (by decide +kernel) (by decide +kernel)
set_option maxRecDepth 20000 in
theorem gX1_compute_X0_paysFor_n170 : GoodIn wsX1_compute (wsX0_paysFor) := ggX1_compute_X0_paysFor
set_option maxRecDepth 20000 in
theorem ggX1_compute_X1_resultOf : GoodIn wsX1_compute wsX1_resultOf := goodIn_r _ [40, 1, 2, 41, 42, 43, 44, 45, 46, 47, 48, 9, 49, 50, 51, 52, 53, 54, 55, 56, 57, 58, 59, 60, 61, 62, 63, 64, 65, 66, 67, 68, 69] (by decide +kernel) (by decide +kernel)
set_option maxRecDepth 20000 in
theorem gX1_compute_X1_resultOf : GoodIn wsX1_compute (wsV RX1 121 RX1 yX1_resultOf wsX1_resultOf) := goodIn_app (goodIn_of _ (by decide +kernel)) ggX1_compute_X1_resultOf
theorem dX1_compute_0 : decode cX1_compute 0 = .ok (.iload_n 2, 1) := by decide +kernel
theorem dX1_compute_1 : decode cX1_compute 1 = .ok (.aload_n 0, 1) := by decide +kernel
theorem dX1_compute_2 : decode cX1_compute 2 = .ok (.getfield 13, 3) := by decide +kernel
theorem dX1_compute_5 : decode cX1_compute 5 = .ok (.iload_n 2, 1) := by decide +kernel
theorem dX1_compute_6 : decode cX1_compute 6 = .ok (.iaload, 1) := by decide +kernel
theorem dX1_compute_7 : decode cX1_compute 7 = .ok (.invokestatic 166, 3) := by decide +kernel
theorem dX1_compute_10 : decode cX1_compute 10 = .ok (.istore_n 3, 1) := by decide +kernel
theorem dX1_compute_11 : decode cX1_compute 11 = .ok (.aload_n 0, 1) := by decide +kernel
theorem dX1_compute_12 : decode cX1_compute 12 = .ok (.getfield 16, 3) := by decide +kernel
theorem dX1_compute_15 : decode cX1_compute 15 = .ok (.iload_n 2, 1) := by decide +kernel
theorem dX1_compute_16 : decode cX1_compute 16 = .ok (.iaload, 1) := by decide +kernel
theorem dX1_compute_17 : decode cX1_compute 17 = .ok (.aload_n 0, 1) := by decide +kernel
theorem dX1_compute_18 : decode cX1_compute 18 = .ok (.getfield 13, 3) := by decide +kernel
theorem dX1_compute_21 : decode cX1_compute 21 = .ok (.iload_n 2, 1) := by decide +kernel
theorem dX1_compute_22 : decode cX1_compute 22 = .ok (.iaload, 1) := by decide +kernel
theorem dX1_compute_23 : decode cX1_compute 23 = .ok (.if_icmp .ne 7, 3) := by decide +kernel
theorem dX1_compute_26 : decode cX1_compute 26 = .ok (.iconst (-1), 1) := by decide +kernel
theorem dX1_compute_27 : decode cX1_compute 27 = .ok (.goto 13, 3) := by decide +kernel
theorem dX1_compute_30 : decode cX1_compute 30 = .ok (.iload_n 2, 1) := by decide +kernel
theorem dX1_compute_31 : decode cX1_compute 31 = .ok (.aload_n 0, 1) := by decide +kernel
theorem dX1_compute_32 : decode cX1_compute 32 = .ok (.getfield 16, 3) := by decide +kernel
theorem dX1_compute_35 : decode cX1_compute 35 = .ok (.iload_n 2, 1) := by decide +kernel
theorem dX1_compute_36 : decode cX1_compute 36 = .ok (.iaload, 1) := by decide +kernel
theorem dX1_compute_37 : decode cX1_compute 37 = .ok (.invokestatic 166, 3) := by decide +kernel
theorem dX1_compute_40 : decode cX1_compute 40 = .ok (.istore 4, 2) := by decide +kernel
theorem dX1_compute_42 : decode cX1_compute 42 = .ok (.aload_n 0, 1) := by decide +kernel
theorem dX1_compute_43 : decode cX1_compute 43 = .ok (.getfield 25, 3) := by decide +kernel
theorem dX1_compute_46 : decode cX1_compute 46 = .ok (.iload_n 2, 1) := by decide +kernel
theorem dX1_compute_47 : decode cX1_compute 47 = .ok (.aload_n 0, 1) := by decide +kernel
theorem dX1_compute_48 : decode cX1_compute 48 = .ok (.getfield 35, 3) := by decide +kernel
theorem dX1_compute_51 : decode cX1_compute 51 = .ok (.iload_n 1, 1) := by decide +kernel
theorem dX1_compute_52 : decode cX1_compute 52 = .ok (.iload_n 2, 1) := by decide +kernel
theorem dX1_compute_53 : decode cX1_compute 53 = .ok (.iload_n 3, 1) := by decide +kernel
theorem dX1_compute_54 : decode cX1_compute 54 = .ok (.iload 4, 2) := by decide +kernel
theorem dX1_compute_56 : decode cX1_compute 56 = .ok (.invokevirtual 170, 3) := by decide +kernel
theorem dX1_compute_59 : decode cX1_compute 59 = .ok (.ifCond .ne 7, 3) := by decide +kernel
theorem dX1_compute_62 : decode cX1_compute 62 = .ok (.iconst 1, 1) := by decide +kernel
theorem dX1_compute_63 : decode cX1_compute 63 = .ok (.goto 4, 3) := by decide +kernel
theorem dX1_compute_66 : decode cX1_compute 66 = .ok (.iconst 0, 1) := by decide +kernel
theorem dX1_compute_67 : decode cX1_compute 67 = .ok (.bastore, 1) := by decide +kernel
theorem dX1_compute_68 : decode cX1_compute 68 = .ok (.aload_n 0, 1) := by decide +kernel
theorem dX1_compute_69 : decode cX1_compute 69 = .ok (.getfield 25, 3) := by decide +kernel
theorem dX1_compute_72 : decode cX1_compute 72 = .ok (.iload_n 2, 1) := by decide +kernel
theorem dX1_compute_73 : decode cX1_compute 73 = .ok (.baload, 1) := by decide +kernel
theorem dX1_compute_74 : decode cX1_compute 74 = .ok (.ifCond .ne 44, 3) := by decide +kernel
theorem dX1_compute_77 : decode cX1_compute 77 = .ok (.aload_n 0, 1) := by decide +kernel
theorem dX1_compute_78 : decode cX1_compute 78 = .ok (.iload_n 2, 1) := by decide +kernel
theorem dX1_compute_79 : decode cX1_compute 79 = .ok (.aload_n 0, 1) := by decide +kernel
theorem dX1_compute_80 : decode cX1_compute 80 = .ok (.getfield 22, 3) := by decide +kernel
theorem dX1_compute_83 : decode cX1_compute 83 = .ok (.invokevirtual 121, 3) := by decide +kernel
theorem dX1_compute_86 : decode cX1_compute 86 = .ok (.istore 5, 2) := by decide +kernel
theorem dX1_compute_88 : decode cX1_compute 88 = .ok (.aload_n 0, 1) := by decide +kernel
theorem dX1_compute_89 : decode cX1_compute 89 = .ok (.getfield 39, 3) := by decide +kernel
theorem dX1_compute_92 : decode cX1_compute 92 = .ok (.iload_n 2, 1) := by decide +kernel
theorem dX1_compute_93 : decode cX1_compute 93 = .ok (.iload 5, 2) := by decide +kernel
theorem dX1_compute_95 : decode cX1_compute 95 = .ok (.aload_n 0, 1) := by decide +kernel
theorem dX1_compute_96 : decode cX1_compute 96 = .ok (.getfield 22, 3) := by decide +kernel
theorem dX1_compute_99 : decode cX1_compute 99 = .ok (.iload_n 2, 1) := by decide +kernel
theorem dX1_compute_100 : decode cX1_compute 100 = .ok (.iaload, 1) := by decide +kernel
theorem dX1_compute_101 : decode cX1_compute 101 = .ok (.if_icmp .eq 7, 3) := by decide +kernel
theorem dX1_compute_104 : decode cX1_compute 104 = .ok (.iconst 1, 1) := by decide +kernel
theorem dX1_compute_105 : decode cX1_compute 105 = .ok (.goto 4, 3) := by decide +kernel
theorem dX1_compute_108 : decode cX1_compute 108 = .ok (.iconst 0, 1) := by decide +kernel
theorem dX1_compute_109 : decode cX1_compute 109 = .ok (.bastore, 1) := by decide +kernel
theorem dX1_compute_110 : decode cX1_compute 110 = .ok (.aload_n 0, 1) := by decide +kernel
theorem dX1_compute_111 : decode cX1_compute 111 = .ok (.getfield 22, 3) := by decide +kernel
theorem dX1_compute_114 : decode cX1_compute 114 = .ok (.iload_n 2, 1) := by decide +kernel
theorem dX1_compute_115 : decode cX1_compute 115 = .ok (.iload 5, 2) := by decide +kernel
theorem dX1_compute_117 : decode cX1_compute 117 = .ok (.iastore, 1) := by decide +kernel
theorem dX1_compute_118 : decode cX1_compute 118 = .ok (.return_, 1) := by decide +kernel
set_option maxRecDepth 20000 in
theorem ggX1_meteredRead_X1_isCell : GoodIn wsX1_meteredRead wsX1_isCell := goodIn_r _ [4] (by decide +kernel) (by decide +kernel)
set_option maxRecDepth 20000 in
theorem gX1_meteredRead_X1_isCell : GoodIn wsX1_meteredRead (va_wsS RX1 55 yX1_isCell wsX1_isCell) := goodIn_app (goodIn_of _ (by decide +kernel)) ggX1_meteredRead_X1_isCell
set_option maxRecDepth 20000 in
theorem ggX1_meteredRead_X1_sheetOf : GoodIn wsX1_meteredRead wsX1_sheetOf := goodIn_r _ [7] (by decide +kernel) (by decide +kernel)
set_option maxRecDepth 20000 in
theorem gX1_meteredRead_X1_sheetOf : GoodIn wsX1_meteredRead (va_wsS RX1 174 yX1_sheetOf wsX1_sheetOf) := goodIn_app (goodIn_of _ (by decide +kernel)) ggX1_meteredRead_X1_sheetOf
theorem dX1_meteredRead_0 : decode cX1_meteredRead 0 = .ok (.iload_n 1, 1) := by decide +kernel
theorem dX1_meteredRead_1 : decode cX1_meteredRead 1 = .ok (.invokestatic 55, 3) := by decide +kernel
theorem dX1_meteredRead_4 : decode cX1_meteredRead 4 = .ok (.ifCond .eq 18, 3) := by decide +kernel
theorem dX1_meteredRead_7 : decode cX1_meteredRead 7 = .ok (.iload_n 1, 1) := by decide +kernel
theorem dX1_meteredRead_8 : decode cX1_meteredRead 8 = .ok (.invokestatic 174, 3) := by decide +kernel
theorem dX1_meteredRead_11 : decode cX1_meteredRead 11 = .ok (.iload_n 0, 1) := by decide +kernel
theorem dX1_meteredRead_12 : decode cX1_meteredRead 12 = .ok (.invokestatic 174, 3) := by decide +kernel
theorem dX1_meteredRead_15 : decode cX1_meteredRead 15 = .ok (.if_icmp .eq 7, 3) := by decide +kernel
theorem dX1_meteredRead_18 : decode cX1_meteredRead 18 = .ok (.iload_n 1, 1) := by decide +kernel
theorem dX1_meteredRead_19 : decode cX1_meteredRead 19 = .ok (.goto 4, 3) := by decide +kernel
theorem dX1_meteredRead_22 : decode cX1_meteredRead 22 = .ok (.iconst (-1), 1) := by decide +kernel
theorem dX1_meteredRead_23 : decode cX1_meteredRead 23 = .ok (.ireturn, 1) := by decide +kernel
set_option maxRecDepth 20000 in
theorem ggX1_resultOf_X1_valueIn : GoodIn wsX1_resultOf wsX1_valueIn := goodIn_r _ [12] (by decide +kernel) (by decide +kernel)
set_option maxRecDepth 20000 in
theorem gX1_resultOf_X1_valueIn : GoodIn wsX1_resultOf (va_wsS RX1 178 yX1_valueIn wsX1_valueIn) := goodIn_app (goodIn_of _ (by decide +kernel)) ggX1_resultOf_X1_valueIn
set_option maxRecDepth 20000 in
theorem ggX1_resultOf_X1_held : GoodIn wsX1_resultOf wsX1_held := goodIn_r _ [15, 16, 17, 18, 19, 7, 20, 5, 6, 8] (by decide +kernel) (by decide +kernel)
set_option maxRecDepth 20000 in
theorem gX1_resultOf_X1_held : GoodIn wsX1_resultOf (va_wsS RX1 182 yX1_held wsX1_held) := goodIn_app (goodIn_of _ (by decide +kernel)) ggX1_resultOf_X1_held
theorem dX1_resultOf_0 : decode cX1_resultOf 0 = .ok (.aload_n 2, 1) := by decide +kernel
theorem dX1_resultOf_1 : decode cX1_resultOf 1 = .ok (.aload_n 0, 1) := by decide +kernel
theorem dX1_resultOf_2 : decode cX1_resultOf 2 = .ok (.getfield 13, 3) := by decide +kernel
theorem dX1_resultOf_5 : decode cX1_resultOf 5 = .ok (.iload_n 1, 1) := by decide +kernel
theorem dX1_resultOf_6 : decode cX1_resultOf 6 = .ok (.iaload, 1) := by decide +kernel
theorem dX1_resultOf_7 : decode cX1_resultOf 7 = .ok (.invokestatic 178, 3) := by decide +kernel
theorem dX1_resultOf_10 : decode cX1_resultOf 10 = .ok (.istore_n 3, 1) := by decide +kernel
theorem dX1_resultOf_11 : decode cX1_resultOf 11 = .ok (.aload_n 2, 1) := by decide +kernel
theorem dX1_resultOf_12 : decode cX1_resultOf 12 = .ok (.aload_n 0, 1) := by decide +kernel
theorem dX1_resultOf_13 : decode cX1_resultOf 13 = .ok (.getfield 16, 3) := by decide +kernel
theorem dX1_resultOf_16 : decode cX1_resultOf 16 = .ok (.iload_n 1, 1) := by decide +kernel
theorem dX1_resultOf_17 : decode cX1_resultOf 17 = .ok (.iaload, 1) := by decide +kernel
theorem dX1_resultOf_18 : decode cX1_resultOf 18 = .ok (.invokestatic 178, 3) := by decide +kernel
theorem dX1_resultOf_21 : decode cX1_resultOf 21 = .ok (.istore 4, 2) := by decide +kernel
theorem dX1_resultOf_23 : decode cX1_resultOf 23 = .ok (.aload_n 0, 1) := by decide +kernel
theorem dX1_resultOf_24 : decode cX1_resultOf 24 = .ok (.getfield 9, 3) := by decide +kernel
theorem dX1_resultOf_27 : decode cX1_resultOf 27 = .ok (.iload_n 1, 1) := by decide +kernel
theorem dX1_resultOf_28 : decode cX1_resultOf 28 = .ok (.iaload, 1) := by decide +kernel
theorem dX1_resultOf_29 : decode cX1_resultOf 29 = .ok (.tableswitch 61 1 3 #[27, 42, 49], 27) := by decide +kernel
theorem dX1_resultOf_56 : decode cX1_resultOf 56 = .ok (.iload_n 3, 1) := by decide +kernel
theorem dX1_resultOf_57 : decode cX1_resultOf 57 = .ok (.iload 4, 2) := by decide +kernel
theorem dX1_resultOf_59 : decode cX1_resultOf 59 = .ok (.iadd, 1) := by decide +kernel
theorem dX1_resultOf_60 : decode cX1_resultOf 60 = .ok (.aload_n 0, 1) := by decide +kernel
theorem dX1_resultOf_61 : decode cX1_resultOf 61 = .ok (.getfield 19, 3) := by decide +kernel
theorem dX1_resultOf_64 : decode cX1_resultOf 64 = .ok (.iload_n 1, 1) := by decide +kernel
theorem dX1_resultOf_65 : decode cX1_resultOf 65 = .ok (.iaload, 1) := by decide +kernel
theorem dX1_resultOf_66 : decode cX1_resultOf 66 = .ok (.iadd, 1) := by decide +kernel
theorem dX1_resultOf_67 : decode cX1_resultOf 67 = .ok (.invokestatic 182, 3) := by decide +kernel
theorem dX1_resultOf_70 : decode cX1_resultOf 70 = .ok (.ireturn, 1) := by decide +kernel
theorem dX1_resultOf_71 : decode cX1_resultOf 71 = .ok (.iload_n 3, 1) := by decide +kernel
theorem dX1_resultOf_72 : decode cX1_resultOf 72 = .ok (.iload 4, 2) := by decide +kernel
theorem dX1_resultOf_74 : decode cX1_resultOf 74 = .ok (.invokestatic 185, 3) := by decide +kernel
theorem dX1_resultOf_77 : decode cX1_resultOf 77 = .ok (.ireturn, 1) := by decide +kernel
theorem dX1_resultOf_78 : decode cX1_resultOf 78 = .ok (.iload_n 3, 1) := by decide +kernel
theorem dX1_resultOf_79 : decode cX1_resultOf 79 = .ok (.aload_n 0, 1) := by decide +kernel
theorem dX1_resultOf_80 : decode cX1_resultOf 80 = .ok (.getfield 19, 3) := by decide +kernel
theorem dX1_resultOf_83 : decode cX1_resultOf 83 = .ok (.iload_n 1, 1) := by decide +kernel
theorem dX1_resultOf_84 : decode cX1_resultOf 84 = .ok (.iaload, 1) := by decide +kernel
theorem dX1_resultOf_85 : decode cX1_resultOf 85 = .ok (.imul, 1) := by decide +kernel
theorem dX1_resultOf_86 : decode cX1_resultOf 86 = .ok (.invokestatic 182, 3) := by decide +kernel
theorem dX1_resultOf_89 : decode cX1_resultOf 89 = .ok (.ireturn, 1) := by decide +kernel
theorem dX1_resultOf_90 : decode cX1_resultOf 90 = .ok (.aload_n 0, 1) := by decide +kernel
theorem dX1_resultOf_91 : decode cX1_resultOf 91 = .ok (.getfield 19, 3) := by decide +kernel
theorem dX1_resultOf_94 : decode cX1_resultOf 94 = .ok (.iload_n 1, 1) := by decide +kernel
theorem dX1_resultOf_95 : decode cX1_resultOf 95 = .ok (.iaload, 1) := by decide +kernel
theorem dX1_resultOf_96 : decode cX1_resultOf 96 = .ok (.ireturn, 1) := by decide +kernel
theorem dX1_valueIn_0 : decode cX1_valueIn 0 = .ok (.iload_n 1, 1) := by decide +kernel
theorem dX1_valueIn_1 : decode cX1_valueIn 1 = .ok (.ifCond .lt 15, 3) := by decide +kernel
theorem dX1_valueIn_4 : decode cX1_valueIn 4 = .ok (.iload_n 1, 1) := by decide +kernel
theorem dX1_valueIn_5 : decode cX1_valueIn 5 = .ok (.aload_n 0, 1) := by decide +kernel
theorem dX1_valueIn_6 : decode cX1_valueIn 6 = .ok (.arraylength, 1) := by decide +kernel
theorem dX1_valueIn_7 : decode cX1_valueIn 7 = .ok (.if_icmp .ge 9, 3) := by decide +kernel
theorem dX1_valueIn_10 : decode cX1_valueIn 10 = .ok (.aload_n 0, 1) := by decide +kernel
theorem dX1_valueIn_11 : decode cX1_valueIn 11 = .ok (.iload_n 1, 1) := by decide +kernel
theorem dX1_valueIn_12 : decode cX1_valueIn 12 = .ok (.iaload, 1) := by decide +kernel
theorem dX1_valueIn_13 : decode cX1_valueIn 13 = .ok (.goto 4, 3) := by decide +kernel
theorem dX1_valueIn_16 : decode cX1_valueIn 16 = .ok (.iconst 0, 1) := by decide +kernel
theorem dX1_valueIn_17 : decode cX1_valueIn 17 = .ok (.ireturn, 1) := by decide +kernel
theorem dX1_held_0 : decode cX1_held 0 = .ok (.ldc 190, 2) := by decide +kernel
theorem dX1_held_2 : decode cX1_held 2 = .ok (.ldc 58, 2) := by decide +kernel
theorem dX1_held_4 : decode cX1_held 4 = .ok (.iload_n 0, 1) := by decide +kernel
theorem dX1_held_5 : decode cX1_held 5 = .ok (.invokestatic 191, 3) := by decide +kernel
theorem dX1_held_8 : decode cX1_held 8 = .ok (.invokestatic 185, 3) := by decide +kernel
theorem dX1_held_11 : decode cX1_held 11 = .ok (.ireturn, 1) := by decide +kernel
theorem dX2_init_0 : decode cX2_init 0 = .ok (.aload_n 0, 1) := by decide +kernel
theorem dX2_init_1 : decode cX2_init 1 = .ok (.invokespecial 1, 3) := by decide +kernel
theorem dX2_init_4 : decode cX2_init 4 = .ok (.aload_n 0, 1) := by decide +kernel
theorem dX2_init_5 : decode cX2_init 5 = .ok (.bipush 24, 2) := by decide +kernel
theorem dX2_init_7 : decode cX2_init 7 = .ok (.newarray .int, 2) := by decide +kernel
theorem dX2_init_9 : decode cX2_init 9 = .ok (.putfield 7, 3) := by decide +kernel
theorem dX2_init_12 : decode cX2_init 12 = .ok (.aload_n 0, 1) := by decide +kernel
theorem dX2_init_13 : decode cX2_init 13 = .ok (.bipush 24, 2) := by decide +kernel
theorem dX2_init_15 : decode cX2_init 15 = .ok (.newarray .int, 2) := by decide +kernel
theorem dX2_init_17 : decode cX2_init 17 = .ok (.putfield 13, 3) := by decide +kernel
theorem dX2_init_20 : decode cX2_init 20 = .ok (.aload_n 0, 1) := by decide +kernel
theorem dX2_init_21 : decode cX2_init 21 = .ok (.bipush 24, 2) := by decide +kernel
theorem dX2_init_23 : decode cX2_init 23 = .ok (.newarray .int, 2) := by decide +kernel
theorem dX2_init_25 : decode cX2_init 25 = .ok (.putfield 16, 3) := by decide +kernel
theorem dX2_init_28 : decode cX2_init 28 = .ok (.aload_n 0, 1) := by decide +kernel
theorem dX2_init_29 : decode cX2_init 29 = .ok (.bipush 24, 2) := by decide +kernel
theorem dX2_init_31 : decode cX2_init 31 = .ok (.newarray .int, 2) := by decide +kernel
theorem dX2_init_33 : decode cX2_init 33 = .ok (.putfield 19, 3) := by decide +kernel
theorem dX2_init_36 : decode cX2_init 36 = .ok (.aload_n 0, 1) := by decide +kernel
theorem dX2_init_37 : decode cX2_init 37 = .ok (.bipush 24, 2) := by decide +kernel
theorem dX2_init_39 : decode cX2_init 39 = .ok (.newarray .int, 2) := by decide +kernel
theorem dX2_init_41 : decode cX2_init 41 = .ok (.putfield 22, 3) := by decide +kernel
theorem dX2_init_44 : decode cX2_init 44 = .ok (.aload_n 0, 1) := by decide +kernel
theorem dX2_init_45 : decode cX2_init 45 = .ok (.bipush 24, 2) := by decide +kernel
theorem dX2_init_47 : decode cX2_init 47 = .ok (.newarray .int, 2) := by decide +kernel
theorem dX2_init_49 : decode cX2_init 49 = .ok (.putfield 25, 3) := by decide +kernel
theorem dX2_init_52 : decode cX2_init 52 = .ok (.aload_n 0, 1) := by decide +kernel
theorem dX2_init_53 : decode cX2_init 53 = .ok (.bipush 24, 2) := by decide +kernel
theorem dX2_init_55 : decode cX2_init 55 = .ok (.newarray .int, 2) := by decide +kernel
theorem dX2_init_57 : decode cX2_init 57 = .ok (.putfield 28, 3) := by decide +kernel
theorem dX2_init_60 : decode cX2_init 60 = .ok (.aload_n 0, 1) := by decide +kernel
theorem dX2_init_61 : decode cX2_init 61 = .ok (.bipush 24, 2) := by decide +kernel
theorem dX2_init_63 : decode cX2_init 63 = .ok (.newarray .int, 2) := by decide +kernel
theorem dX2_init_65 : decode cX2_init 65 = .ok (.putfield 31, 3) := by decide +kernel
theorem dX2_init_68 : decode cX2_init 68 = .ok (.aload_n 0, 1) := by decide +kernel
theorem dX2_init_69 : decode cX2_init 69 = .ok (.bipush 24, 2) := by decide +kernel
theorem dX2_init_71 : decode cX2_init 71 = .ok (.newarray .int, 2) := by decide +kernel
theorem dX2_init_73 : decode cX2_init 73 = .ok (.putfield 34, 3) := by decide +kernel
theorem dX2_init_76 : decode cX2_init 76 = .ok (.aload_n 0, 1) := by decide +kernel
theorem dX2_init_77 : decode cX2_init 77 = .ok (.bipush 24, 2) := by decide +kernel
theorem dX2_init_79 : decode cX2_init 79 = .ok (.newarray .int, 2) := by decide +kernel
theorem dX2_init_81 : decode cX2_init 81 = .ok (.putfield 37, 3) := by decide +kernel
theorem dX2_init_84 : decode cX2_init 84 = .ok (.aload_n 0, 1) := by decide +kernel
theorem dX2_init_85 : decode cX2_init 85 = .ok (.iconst 4, 1) := by decide +kernel
theorem dX2_init_86 : decode cX2_init 86 = .ok (.newarray .int, 2) := by decide +kernel
theorem dX2_init_88 : decode cX2_init 88 = .ok (.putfield 40, 3) := by decide +kernel
theorem dX2_init_91 : decode cX2_init 91 = .ok (.aload_n 0, 1) := by decide +kernel
theorem dX2_init_92 : decode cX2_init 92 = .ok (.iconst 4, 1) := by decide +kernel
theorem dX2_init_93 : decode cX2_init 93 = .ok (.newarray .int, 2) := by decide +kernel
theorem dX2_init_95 : decode cX2_init 95 = .ok (.putfield 43, 3) := by decide +kernel
theorem dX2_init_98 : decode cX2_init 98 = .ok (.aload_n 0, 1) := by decide +kernel
theorem dX2_init_99 : decode cX2_init 99 = .ok (.iconst 4, 1) := by decide +kernel
theorem dX2_init_100 : decode cX2_init 100 = .ok (.newarray .int, 2) := by decide +kernel
theorem dX2_init_102 : decode cX2_init 102 = .ok (.putfield 46, 3) := by decide +kernel
theorem dX2_init_105 : decode cX2_init 105 = .ok (.aload_n 0, 1) := by decide +kernel
theorem dX2_init_106 : decode cX2_init 106 = .ok (.iconst 5, 1) := by decide +kernel
theorem dX2_init_107 : decode cX2_init 107 = .ok (.newarray .int, 2) := by decide +kernel
theorem dX2_init_109 : decode cX2_init 109 = .ok (.putfield 49, 3) := by decide +kernel
theorem dX2_init_112 : decode cX2_init 112 = .ok (.aload_n 0, 1) := by decide +kernel
theorem dX2_init_113 : decode cX2_init 113 = .ok (.sipush 500, 3) := by decide +kernel
theorem dX2_init_116 : decode cX2_init 116 = .ok (.newarray .int, 2) := by decide +kernel
theorem dX2_init_118 : decode cX2_init 118 = .ok (.putfield 52, 3) := by decide +kernel
theorem dX2_init_121 : decode cX2_init 121 = .ok (.aload_n 0, 1) := by decide +kernel
theorem dX2_init_122 : decode cX2_init 122 = .ok (.sipush 576, 3) := by decide +kernel
theorem dX2_init_125 : decode cX2_init 125 = .ok (.newarray .int, 2) := by decide +kernel
theorem dX2_init_127 : decode cX2_init 127 = .ok (.putfield 55, 3) := by decide +kernel
theorem dX2_init_130 : decode cX2_init 130 = .ok (.iconst 0, 1) := by decide +kernel
theorem dX2_init_131 : decode cX2_init 131 = .ok (.istore_n 1, 1) := by decide +kernel
theorem dX2_init_132 : decode cX2_init 132 = .ok (.iload_n 1, 1) := by decide +kernel
theorem dX2_init_133 : decode cX2_init 133 = .ok (.iconst 4, 1) := by decide +kernel
theorem dX2_init_134 : decode cX2_init 134 = .ok (.if_icmp .ge 24, 3) := by decide +kernel
theorem dX2_init_137 : decode cX2_init 137 = .ok (.aload_n 0, 1) := by decide +kernel
theorem dX2_init_138 : decode cX2_init 138 = .ok (.getfield 40, 3) := by decide +kernel
theorem dX2_init_141 : decode cX2_init 141 = .ok (.iload_n 1, 1) := by decide +kernel
theorem dX2_init_142 : decode cX2_init 142 = .ok (.iconst 1, 1) := by decide +kernel
theorem dX2_init_143 : decode cX2_init 143 = .ok (.iastore, 1) := by decide +kernel
theorem dX2_init_144 : decode cX2_init 144 = .ok (.aload_n 0, 1) := by decide +kernel
theorem dX2_init_145 : decode cX2_init 145 = .ok (.getfield 43, 3) := by decide +kernel
theorem dX2_init_148 : decode cX2_init 148 = .ok (.iload_n 1, 1) := by decide +kernel
theorem dX2_init_149 : decode cX2_init 149 = .ok (.bipush 100, 2) := by decide +kernel
theorem dX2_init_151 : decode cX2_init 151 = .ok (.iastore, 1) := by decide +kernel
theorem dX2_init_152 : decode cX2_init 152 = .ok (.iinc 1 1, 3) := by decide +kernel
theorem dX2_init_155 : decode cX2_init 155 = .ok (.goto (-23), 3) := by decide +kernel
theorem dX2_init_158 : decode cX2_init 158 = .ok (.return_, 1) := by decide +kernel
theorem dX2_thrown_0 : decode cX2_thrown 0 = .ok (.aload_n 0, 1) := by decide +kernel
theorem dX2_thrown_1 : decode cX2_thrown 1 = .ok (.getfield 58, 3) := by decide +kernel
theorem dX2_thrown_4 : decode cX2_thrown 4 = .ok (.ireturn, 1) := by decide +kernel
theorem dX2_fails_0 : decode cX2_fails 0 = .ok (.aload_n 0, 1) := by decide +kernel
theorem dX2_fails_1 : decode cX2_fails 1 = .ok (.iload_n 1, 1) := by decide +kernel
theorem dX2_fails_2 : decode cX2_fails 2 = .ok (.putfield 58, 3) := by decide +kernel
theorem dX2_fails_5 : decode cX2_fails 5 = .ok (.iconst 0, 1) := by decide +kernel
theorem dX2_fails_6 : decode cX2_fails 6 = .ok (.ireturn, 1) := by decide +kernel
theorem dX2_in_0 : decode cX2_in 0 = .ok (.iload_n 0, 1) := by decide +kernel
theorem dX2_in_1 : decode cX2_in 1 = .ok (.iload_n 1, 1) := by decide +kernel
theorem dX2_in_2 : decode cX2_in 2 = .ok (.if_icmp .lt 12, 3) := by decide +kernel
theorem dX2_in_5 : decode cX2_in 5 = .ok (.iload_n 0, 1) := by decide +kernel
theorem dX2_in_6 : decode cX2_in 6 = .ok (.iload_n 2, 1) := by decide +kernel
theorem dX2_in_7 : decode cX2_in 7 = .ok (.if_icmp .gt 7, 3) := by decide +kernel
theorem dX2_in_10 : decode cX2_in 10 = .ok (.iconst 1, 1) := by decide +kernel
theorem dX2_in_11 : decode cX2_in 11 = .ok (.goto 4, 3) := by decide +kernel
theorem dX2_in_14 : decode cX2_in 14 = .ok (.iconst 0, 1) := by decide +kernel
theorem dX2_in_15 : decode cX2_in 15 = .ok (.ireturn, 1) := by decide +kernel
set_option maxRecDepth 20000 in
theorem ggX2_isCell_X2_in : GoodIn wsX2_isCell wsX2_in := goodIn_r _ [4] (by decide +kernel) (by decide +kernel)
set_option maxRecDepth 20000 in
theorem gX2_isCell_X2_in : GoodIn wsX2_isCell (va_wsS RX2 62 yX2_in wsX2_in) := goodIn_app (goodIn_of _ (by decide +kernel)) ggX2_isCell_X2_in
theorem dX2_isCell_0 : decode cX2_isCell 0 = .ok (.iload_n 0, 1) := by decide +kernel
theorem dX2_isCell_1 : decode cX2_isCell 1 = .ok (.iconst 0, 1) := by decide +kernel
theorem dX2_isCell_2 : decode cX2_isCell 2 = .ok (.bipush 23, 2) := by decide +kernel
theorem dX2_isCell_4 : decode cX2_isCell 4 = .ok (.invokestatic 62, 3) := by decide +kernel
theorem dX2_isCell_7 : decode cX2_isCell 7 = .ok (.ireturn, 1) := by decide +kernel
set_option maxRecDepth 20000 in
theorem ggX2_isSheet_X2_in : GoodIn wsX2_isSheet wsX2_in := goodIn_r _ [4] (by decide +kernel) (by decide +kernel)
set_option maxRecDepth 20000 in
theorem gX2_isSheet_X2_in : GoodIn wsX2_isSheet (va_wsS RX2 62 yX2_in wsX2_in) := goodIn_app (goodIn_of _ (by decide +kernel)) ggX2_isSheet_X2_in
theorem dX2_isSheet_0 : decode cX2_isSheet 0 = .ok (.iload_n 0, 1) := by decide +kernel
theorem dX2_isSheet_1 : decode cX2_isSheet 1 = .ok (.iconst 0, 1) := by decide +kernel
theorem dX2_isSheet_2 : decode cX2_isSheet 2 = .ok (.iconst 3, 1) := by decide +kernel
theorem dX2_isSheet_3 : decode cX2_isSheet 3 = .ok (.invokestatic 62, 3) := by decide +kernel
theorem dX2_isSheet_6 : decode cX2_isSheet 6 = .ok (.ireturn, 1) := by decide +kernel
theorem dX2_one_0 : decode cX2_one 0 = .ok (.aload_n 0, 1) := by decide +kernel
theorem dX2_one_1 : decode cX2_one 1 = .ok (.getfield 7, 3) := by decide +kernel
theorem dX2_one_4 : decode cX2_one 4 = .ok (.iload_n 1, 1) := by decide +kernel
theorem dX2_one_5 : decode cX2_one 5 = .ok (.iaload, 1) := by decide +kernel
theorem dX2_one_6 : decode cX2_one 6 = .ok (.ifCond .ne 7, 3) := by decide +kernel
theorem dX2_one_9 : decode cX2_one 9 = .ok (.iconst (-1), 1) := by decide +kernel
theorem dX2_one_10 : decode cX2_one 10 = .ok (.goto 9, 3) := by decide +kernel
theorem dX2_one_13 : decode cX2_one 13 = .ok (.aload_n 0, 1) := by decide +kernel
theorem dX2_one_14 : decode cX2_one 14 = .ok (.getfield 13, 3) := by decide +kernel
theorem dX2_one_17 : decode cX2_one 17 = .ok (.iload_n 1, 1) := by decide +kernel
theorem dX2_one_18 : decode cX2_one 18 = .ok (.iaload, 1) := by decide +kernel
theorem dX2_one_19 : decode cX2_one 19 = .ok (.ireturn, 1) := by decide +kernel
theorem dX2_other_0 : decode cX2_other 0 = .ok (.aload_n 0, 1) := by decide +kernel
theorem dX2_other_1 : decode cX2_other 1 = .ok (.getfield 7, 3) := by decide +kernel
theorem dX2_other_4 : decode cX2_other 4 = .ok (.iload_n 1, 1) := by decide +kernel
theorem dX2_other_5 : decode cX2_other 5 = .ok (.iaload, 1) := by decide +kernel
theorem dX2_other_6 : decode cX2_other 6 = .ok (.iconst 1, 1) := by decide +kernel
theorem dX2_other_7 : decode cX2_other 7 = .ok (.if_icmp .eq 13, 3) := by decide +kernel
theorem dX2_other_10 : decode cX2_other 10 = .ok (.aload_n 0, 1) := by decide +kernel
theorem dX2_other_11 : decode cX2_other 11 = .ok (.getfield 7, 3) := by decide +kernel
theorem dX2_other_14 : decode cX2_other 14 = .ok (.iload_n 1, 1) := by decide +kernel
theorem dX2_other_15 : decode cX2_other 15 = .ok (.iaload, 1) := by decide +kernel
theorem dX2_other_16 : decode cX2_other 16 = .ok (.iconst 2, 1) := by decide +kernel
theorem dX2_other_17 : decode cX2_other 17 = .ok (.if_icmp .ne 7, 3) := by decide +kernel
theorem dX2_other_20 : decode cX2_other 20 = .ok (.iconst 1, 1) := by decide +kernel
theorem dX2_other_21 : decode cX2_other 21 = .ok (.goto 4, 3) := by decide +kernel
theorem dX2_other_24 : decode cX2_other 24 = .ok (.iconst 0, 1) := by decide +kernel
theorem dX2_other_25 : decode cX2_other 25 = .ok (.istore_n 2, 1) := by decide +kernel
theorem dX2_other_26 : decode cX2_other 26 = .ok (.iload_n 2, 1) := by decide +kernel
theorem dX2_other_27 : decode cX2_other 27 = .ok (.ifCond .eq 27, 3) := by decide +kernel
theorem dX2_other_30 : decode cX2_other 30 = .ok (.aload_n 0, 1) := by decide +kernel
theorem dX2_other_31 : decode cX2_other 31 = .ok (.getfield 16, 3) := by decide +kernel
theorem dX2_other_34 : decode cX2_other 34 = .ok (.iload_n 1, 1) := by decide +kernel
theorem dX2_other_35 : decode cX2_other 35 = .ok (.iaload, 1) := by decide +kernel
theorem dX2_other_36 : decode cX2_other 36 = .ok (.aload_n 0, 1) := by decide +kernel
theorem dX2_other_37 : decode cX2_other 37 = .ok (.getfield 13, 3) := by decide +kernel
theorem dX2_other_40 : decode cX2_other 40 = .ok (.iload_n 1, 1) := by decide +kernel
theorem dX2_other_41 : decode cX2_other 41 = .ok (.iaload, 1) := by decide +kernel
theorem dX2_other_42 : decode cX2_other 42 = .ok (.if_icmp .eq 12, 3) := by decide +kernel
theorem dX2_other_45 : decode cX2_other 45 = .ok (.aload_n 0, 1) := by decide +kernel
theorem dX2_other_46 : decode cX2_other 46 = .ok (.getfield 16, 3) := by decide +kernel
theorem dX2_other_49 : decode cX2_other 49 = .ok (.iload_n 1, 1) := by decide +kernel
theorem dX2_other_50 : decode cX2_other 50 = .ok (.iaload, 1) := by decide +kernel
theorem dX2_other_51 : decode cX2_other 51 = .ok (.goto 4, 3) := by decide +kernel
theorem dX2_other_54 : decode cX2_other 54 = .ok (.iconst (-1), 1) := by decide +kernel
theorem dX2_other_55 : decode cX2_other 55 = .ok (.ireturn, 1) := by decide +kernel
set_option maxRecDepth 20000 in
theorem ggX2_layOrder_X2_one : GoodIn wsX2_layOrder wsX2_one := goodIn_r _ [7, 8, 9, 15, 16, 17, 18, 19, 20, 21, 22, 23, 24, 25, 26, 27, 28, 29, 30, 31, 32] (by decide +kernel) (by decide +kernel)
set_option maxRecDepth 20000 in
theorem gX2_layOrder_X2_one : GoodIn wsX2_layOrder (wsV RX2 66 RX2 yX2_one wsX2_one) := goodIn_app (goodIn_of _ (by decide +kernel)) ggX2_layOrder_X2_one
set_option maxRecDepth 20000 in
theorem ggX2_layOrder_X2_other : GoodIn wsX2_layOrder wsX2_other := goodIn_r _ [13, 8, 14, 9, 15, 16, 17, 18, 19, 20, 21, 22, 23, 24, 25, 26, 27, 28, 29, 30, 31, 32] (by decide +kernel) (by decide +kernel)
set_option maxRecDepth 20000 in
theorem gX2_layOrder_X2_other : GoodIn wsX2_layOrder (wsV RX2 70 RX2 yX2_other wsX2_other) := goodIn_app (goodIn_of _ (by decide +kernel)) ggX2_layOrder_X2_other
theorem dX2_layOrder_0 : decode cX2_layOrder 0 = .ok (.iconst 0, 1) := by decide +kernel
theorem dX2_layOrder_1 : decode cX2_layOrder 1 = .ok (.istore_n 1, 1) := by decide +kernel
theorem dX2_layOrder_2 : decode cX2_layOrder 2 = .ok (.iload_n 1, 1) := by decide +kernel
theorem dX2_layOrder_3 : decode cX2_layOrder 3 = .ok (.bipush 24, 2) := by decide +kernel
theorem dX2_layOrder_5 : decode cX2_layOrder 5 = .ok (.if_icmp .ge 16, 3) := by decide +kernel
theorem dX2_layOrder_8 : decode cX2_layOrder 8 = .ok (.aload_n 0, 1) := by decide +kernel
theorem dX2_layOrder_9 : decode cX2_layOrder 9 = .ok (.getfield 37, 3) := by decide +kernel
theorem dX2_layOrder_12 : decode cX2_layOrder 12 = .ok (.iload_n 1, 1) := by decide +kernel
theorem dX2_layOrder_13 : decode cX2_layOrder 13 = .ok (.iconst 0, 1) := by decide +kernel
theorem dX2_layOrder_14 : decode cX2_layOrder 14 = .ok (.iastore, 1) := by decide +kernel
theorem dX2_layOrder_15 : decode cX2_layOrder 15 = .ok (.iinc 1 1, 3) := by decide +kernel
theorem dX2_layOrder_18 : decode cX2_layOrder 18 = .ok (.goto (-16), 3) := by decide +kernel
theorem dX2_layOrder_21 : decode cX2_layOrder 21 = .ok (.iconst 0, 1) := by decide +kernel
theorem dX2_layOrder_22 : decode cX2_layOrder 22 = .ok (.istore_n 1, 1) := by decide +kernel
theorem dX2_layOrder_23 : decode cX2_layOrder 23 = .ok (.iload_n 1, 1) := by decide +kernel
theorem dX2_layOrder_24 : decode cX2_layOrder 24 = .ok (.bipush 24, 2) := by decide +kernel
theorem dX2_layOrder_26 : decode cX2_layOrder 26 = .ok (.if_icmp .ge 123, 3) := by decide +kernel
theorem dX2_layOrder_29 : decode cX2_layOrder 29 = .ok (.iconst (-1), 1) := by decide +kernel
theorem dX2_layOrder_30 : decode cX2_layOrder 30 = .ok (.istore_n 2, 1) := by decide +kernel
theorem dX2_layOrder_31 : decode cX2_layOrder 31 = .ok (.bipush 23, 2) := by decide +kernel
theorem dX2_layOrder_33 : decode cX2_layOrder 33 = .ok (.istore_n 3, 1) := by decide +kernel
theorem dX2_layOrder_34 : decode cX2_layOrder 34 = .ok (.iload_n 3, 1) := by decide +kernel
theorem dX2_layOrder_35 : decode cX2_layOrder 35 = .ok (.ifCond .lt 94, 3) := by decide +kernel
theorem dX2_layOrder_38 : decode cX2_layOrder 38 = .ok (.aload_n 0, 1) := by decide +kernel
theorem dX2_layOrder_39 : decode cX2_layOrder 39 = .ok (.iload_n 3, 1) := by decide +kernel
theorem dX2_layOrder_40 : decode cX2_layOrder 40 = .ok (.invokevirtual 66, 3) := by decide +kernel
theorem dX2_layOrder_43 : decode cX2_layOrder 43 = .ok (.iconst (-1), 1) := by decide +kernel
theorem dX2_layOrder_44 : decode cX2_layOrder 44 = .ok (.if_icmp .eq 17, 3) := by decide +kernel
theorem dX2_layOrder_47 : decode cX2_layOrder 47 = .ok (.aload_n 0, 1) := by decide +kernel
theorem dX2_layOrder_48 : decode cX2_layOrder 48 = .ok (.getfield 37, 3) := by decide +kernel
theorem dX2_layOrder_51 : decode cX2_layOrder 51 = .ok (.aload_n 0, 1) := by decide +kernel
theorem dX2_layOrder_52 : decode cX2_layOrder 52 = .ok (.iload_n 3, 1) := by decide +kernel
theorem dX2_layOrder_53 : decode cX2_layOrder 53 = .ok (.invokevirtual 66, 3) := by decide +kernel
theorem dX2_layOrder_56 : decode cX2_layOrder 56 = .ok (.iaload, 1) := by decide +kernel
theorem dX2_layOrder_57 : decode cX2_layOrder 57 = .ok (.iconst 1, 1) := by decide +kernel
theorem dX2_layOrder_58 : decode cX2_layOrder 58 = .ok (.if_icmp .ne 7, 3) := by decide +kernel
theorem dX2_layOrder_61 : decode cX2_layOrder 61 = .ok (.iconst 1, 1) := by decide +kernel
theorem dX2_layOrder_62 : decode cX2_layOrder 62 = .ok (.goto 4, 3) := by decide +kernel
theorem dX2_layOrder_65 : decode cX2_layOrder 65 = .ok (.iconst 0, 1) := by decide +kernel
theorem dX2_layOrder_66 : decode cX2_layOrder 66 = .ok (.istore 4, 2) := by decide +kernel
theorem dX2_layOrder_68 : decode cX2_layOrder 68 = .ok (.aload_n 0, 1) := by decide +kernel
theorem dX2_layOrder_69 : decode cX2_layOrder 69 = .ok (.iload_n 3, 1) := by decide +kernel
theorem dX2_layOrder_70 : decode cX2_layOrder 70 = .ok (.invokevirtual 70, 3) := by decide +kernel
theorem dX2_layOrder_73 : decode cX2_layOrder 73 = .ok (.iconst (-1), 1) := by decide +kernel
theorem dX2_layOrder_74 : decode cX2_layOrder 74 = .ok (.if_icmp .eq 17, 3) := by decide +kernel
theorem dX2_layOrder_77 : decode cX2_layOrder 77 = .ok (.aload_n 0, 1) := by decide +kernel
theorem dX2_layOrder_78 : decode cX2_layOrder 78 = .ok (.getfield 37, 3) := by decide +kernel
theorem dX2_layOrder_81 : decode cX2_layOrder 81 = .ok (.aload_n 0, 1) := by decide +kernel
theorem dX2_layOrder_82 : decode cX2_layOrder 82 = .ok (.iload_n 3, 1) := by decide +kernel
theorem dX2_layOrder_83 : decode cX2_layOrder 83 = .ok (.invokevirtual 70, 3) := by decide +kernel
theorem dX2_layOrder_86 : decode cX2_layOrder 86 = .ok (.iaload, 1) := by decide +kernel
theorem dX2_layOrder_87 : decode cX2_layOrder 87 = .ok (.iconst 1, 1) := by decide +kernel
theorem dX2_layOrder_88 : decode cX2_layOrder 88 = .ok (.if_icmp .ne 7, 3) := by decide +kernel
theorem dX2_layOrder_91 : decode cX2_layOrder 91 = .ok (.iconst 1, 1) := by decide +kernel
theorem dX2_layOrder_92 : decode cX2_layOrder 92 = .ok (.goto 4, 3) := by decide +kernel
theorem dX2_layOrder_95 : decode cX2_layOrder 95 = .ok (.iconst 0, 1) := by decide +kernel
theorem dX2_layOrder_96 : decode cX2_layOrder 96 = .ok (.istore 5, 2) := by decide +kernel
theorem dX2_layOrder_98 : decode cX2_layOrder 98 = .ok (.aload_n 0, 1) := by decide +kernel
theorem dX2_layOrder_99 : decode cX2_layOrder 99 = .ok (.getfield 37, 3) := by decide +kernel
theorem dX2_layOrder_102 : decode cX2_layOrder 102 = .ok (.iload_n 3, 1) := by decide +kernel
theorem dX2_layOrder_103 : decode cX2_layOrder 103 = .ok (.iaload, 1) := by decide +kernel
theorem dX2_layOrder_104 : decode cX2_layOrder 104 = .ok (.ifCond .ne 17, 3) := by decide +kernel
theorem dX2_layOrder_107 : decode cX2_layOrder 107 = .ok (.iload 4, 2) := by decide +kernel
theorem dX2_layOrder_109 : decode cX2_layOrder 109 = .ok (.ifCond .eq 12, 3) := by decide +kernel
theorem dX2_layOrder_112 : decode cX2_layOrder 112 = .ok (.iload 5, 2) := by decide +kernel
theorem dX2_layOrder_114 : decode cX2_layOrder 114 = .ok (.ifCond .eq 7, 3) := by decide +kernel
theorem dX2_layOrder_117 : decode cX2_layOrder 117 = .ok (.iload_n 3, 1) := by decide +kernel
theorem dX2_layOrder_118 : decode cX2_layOrder 118 = .ok (.goto 4, 3) := by decide +kernel
theorem dX2_layOrder_121 : decode cX2_layOrder 121 = .ok (.iload_n 2, 1) := by decide +kernel
theorem dX2_layOrder_122 : decode cX2_layOrder 122 = .ok (.istore_n 2, 1) := by decide +kernel
theorem dX2_layOrder_123 : decode cX2_layOrder 123 = .ok (.iinc 3 (-1), 3) := by decide +kernel
theorem dX2_layOrder_126 : decode cX2_layOrder 126 = .ok (.goto (-92), 3) := by decide +kernel
theorem dX2_layOrder_129 : decode cX2_layOrder 129 = .ok (.aload_n 0, 1) := by decide +kernel
theorem dX2_layOrder_130 : decode cX2_layOrder 130 = .ok (.getfield 34, 3) := by decide +kernel
theorem dX2_layOrder_133 : decode cX2_layOrder 133 = .ok (.iload_n 1, 1) := by decide +kernel
theorem dX2_layOrder_134 : decode cX2_layOrder 134 = .ok (.iload_n 2, 1) := by decide +kernel
theorem dX2_layOrder_135 : decode cX2_layOrder 135 = .ok (.iastore, 1) := by decide +kernel
theorem dX2_layOrder_136 : decode cX2_layOrder 136 = .ok (.aload_n 0, 1) := by decide +kernel
theorem dX2_layOrder_137 : decode cX2_layOrder 137 = .ok (.getfield 37, 3) := by decide +kernel
theorem dX2_layOrder_140 : decode cX2_layOrder 140 = .ok (.iload_n 2, 1) := by decide +kernel
theorem dX2_layOrder_141 : decode cX2_layOrder 141 = .ok (.iconst 1, 1) := by decide +kernel
theorem dX2_layOrder_142 : decode cX2_layOrder 142 = .ok (.iastore, 1) := by decide +kernel
theorem dX2_layOrder_143 : decode cX2_layOrder 143 = .ok (.iinc 1 1, 3) := by decide +kernel
theorem dX2_layOrder_146 : decode cX2_layOrder 146 = .ok (.goto (-123), 3) := by decide +kernel
theorem dX2_layOrder_149 : decode cX2_layOrder 149 = .ok (.return_, 1) := by decide +kernel
theorem dX2_held_0 : decode cX2_held 0 = .ok (.iload_n 0, 1) := by decide +kernel
theorem dX2_held_1 : decode cX2_held 1 = .ok (.ldc 73, 2) := by decide +kernel
theorem dX2_held_3 : decode cX2_held 3 = .ok (.if_icmp .le 8, 3) := by decide +kernel
theorem dX2_held_6 : decode cX2_held 6 = .ok (.ldc 73, 2) := by decide +kernel
theorem dX2_held_8 : decode cX2_held 8 = .ok (.goto 15, 3) := by decide +kernel
theorem dX2_held_11 : decode cX2_held 11 = .ok (.iload_n 0, 1) := by decide +kernel
theorem dX2_held_12 : decode cX2_held 12 = .ok (.ldc 74, 2) := by decide +kernel
theorem dX2_held_14 : decode cX2_held 14 = .ok (.if_icmp .ge 8, 3) := by decide +kernel
theorem dX2_held_17 : decode cX2_held 17 = .ok (.ldc 74, 2) := by decide +kernel
theorem dX2_held_19 : decode cX2_held 19 = .ok (.goto 4, 3) := by decide +kernel
theorem dX2_held_22 : decode cX2_held 22 = .ok (.iload_n 0, 1) := by decide +kernel
theorem dX2_held_23 : decode cX2_held 23 = .ok (.ireturn, 1) := by decide +kernel
set_option maxRecDepth 20000 in
theorem ggX2_comesTo_X2_held : GoodIn wsX2_comesTo wsX2_held := goodIn_r _ [8, 9, 10] (by decide +kernel) (by decide +kernel)
set_option maxRecDepth 20000 in
theorem gX2_comesTo_X2_held : GoodIn wsX2_comesTo (va_wsS RX2 75 yX2_held wsX2_held) := goodIn_app (goodIn_of _ (by decide +kernel)) ggX2_comesTo_X2_held
theorem dX2_comesTo_0 : decode cX2_comesTo 0 = .ok (.aload_n 0, 1) := by decide +kernel
theorem dX2_comesTo_1 : decode cX2_comesTo 1 = .ok (.getfield 13, 3) := by decide +kernel
theorem dX2_comesTo_4 : decode cX2_comesTo 4 = .ok (.iload_n 1, 1) := by decide +kernel
theorem dX2_comesTo_5 : decode cX2_comesTo 5 = .ok (.iaload, 1) := by decide +kernel
theorem dX2_comesTo_6 : decode cX2_comesTo 6 = .ok (.istore_n 3, 1) := by decide +kernel
theorem dX2_comesTo_7 : decode cX2_comesTo 7 = .ok (.aload_n 0, 1) := by decide +kernel
theorem dX2_comesTo_8 : decode cX2_comesTo 8 = .ok (.getfield 16, 3) := by decide +kernel
theorem dX2_comesTo_11 : decode cX2_comesTo 11 = .ok (.iload_n 1, 1) := by decide +kernel
theorem dX2_comesTo_12 : decode cX2_comesTo 12 = .ok (.iaload, 1) := by decide +kernel
theorem dX2_comesTo_13 : decode cX2_comesTo 13 = .ok (.istore 4, 2) := by decide +kernel
theorem dX2_comesTo_15 : decode cX2_comesTo 15 = .ok (.aload_n 0, 1) := by decide +kernel
theorem dX2_comesTo_16 : decode cX2_comesTo 16 = .ok (.getfield 7, 3) := by decide +kernel
theorem dX2_comesTo_19 : decode cX2_comesTo 19 = .ok (.iload_n 1, 1) := by decide +kernel
theorem dX2_comesTo_20 : decode cX2_comesTo 20 = .ok (.iaload, 1) := by decide +kernel
theorem dX2_comesTo_21 : decode cX2_comesTo 21 = .ok (.ifCond .ne 10, 3) := by decide +kernel
theorem dX2_comesTo_24 : decode cX2_comesTo 24 = .ok (.aload_n 0, 1) := by decide +kernel
theorem dX2_comesTo_25 : decode cX2_comesTo 25 = .ok (.getfield 19, 3) := by decide +kernel
theorem dX2_comesTo_28 : decode cX2_comesTo 28 = .ok (.iload_n 1, 1) := by decide +kernel
theorem dX2_comesTo_29 : decode cX2_comesTo 29 = .ok (.iaload, 1) := by decide +kernel
theorem dX2_comesTo_30 : decode cX2_comesTo 30 = .ok (.ireturn, 1) := by decide +kernel
theorem dX2_comesTo_31 : decode cX2_comesTo 31 = .ok (.aload_n 0, 1) := by decide +kernel
theorem dX2_comesTo_32 : decode cX2_comesTo 32 = .ok (.getfield 7, 3) := by decide +kernel
theorem dX2_comesTo_35 : decode cX2_comesTo 35 = .ok (.iload_n 1, 1) := by decide +kernel
theorem dX2_comesTo_36 : decode cX2_comesTo 36 = .ok (.iaload, 1) := by decide +kernel
theorem dX2_comesTo_37 : decode cX2_comesTo 37 = .ok (.iconst 1, 1) := by decide +kernel
theorem dX2_comesTo_38 : decode cX2_comesTo 38 = .ok (.if_icmp .ne 22, 3) := by decide +kernel
theorem dX2_comesTo_41 : decode cX2_comesTo 41 = .ok (.aload_n 2, 1) := by decide +kernel
theorem dX2_comesTo_42 : decode cX2_comesTo 42 = .ok (.iload_n 3, 1) := by decide +kernel
theorem dX2_comesTo_43 : decode cX2_comesTo 43 = .ok (.iaload, 1) := by decide +kernel
theorem dX2_comesTo_44 : decode cX2_comesTo 44 = .ok (.aload_n 2, 1) := by decide +kernel
theorem dX2_comesTo_45 : decode cX2_comesTo 45 = .ok (.iload 4, 2) := by decide +kernel
theorem dX2_comesTo_47 : decode cX2_comesTo 47 = .ok (.iaload, 1) := by decide +kernel
theorem dX2_comesTo_48 : decode cX2_comesTo 48 = .ok (.iadd, 1) := by decide +kernel
theorem dX2_comesTo_49 : decode cX2_comesTo 49 = .ok (.aload_n 0, 1) := by decide +kernel
theorem dX2_comesTo_50 : decode cX2_comesTo 50 = .ok (.getfield 19, 3) := by decide +kernel
theorem dX2_comesTo_53 : decode cX2_comesTo 53 = .ok (.iload_n 1, 1) := by decide +kernel
theorem dX2_comesTo_54 : decode cX2_comesTo 54 = .ok (.iaload, 1) := by decide +kernel
theorem dX2_comesTo_55 : decode cX2_comesTo 55 = .ok (.iadd, 1) := by decide +kernel
theorem dX2_comesTo_56 : decode cX2_comesTo 56 = .ok (.invokestatic 75, 3) := by decide +kernel
theorem dX2_comesTo_59 : decode cX2_comesTo 59 = .ok (.ireturn, 1) := by decide +kernel
theorem dX2_comesTo_60 : decode cX2_comesTo 60 = .ok (.aload_n 0, 1) := by decide +kernel
theorem dX2_comesTo_61 : decode cX2_comesTo 61 = .ok (.getfield 7, 3) := by decide +kernel
theorem dX2_comesTo_64 : decode cX2_comesTo 64 = .ok (.iload_n 1, 1) := by decide +kernel
theorem dX2_comesTo_65 : decode cX2_comesTo 65 = .ok (.iaload, 1) := by decide +kernel
theorem dX2_comesTo_66 : decode cX2_comesTo 66 = .ok (.iconst 2, 1) := by decide +kernel
theorem dX2_comesTo_67 : decode cX2_comesTo 67 = .ok (.if_icmp .ne 24, 3) := by decide +kernel
theorem dX2_comesTo_70 : decode cX2_comesTo 70 = .ok (.aload_n 2, 1) := by decide +kernel
theorem dX2_comesTo_71 : decode cX2_comesTo 71 = .ok (.iload_n 3, 1) := by decide +kernel
theorem dX2_comesTo_72 : decode cX2_comesTo 72 = .ok (.iaload, 1) := by decide +kernel
theorem dX2_comesTo_73 : decode cX2_comesTo 73 = .ok (.aload_n 2, 1) := by decide +kernel
theorem dX2_comesTo_74 : decode cX2_comesTo 74 = .ok (.iload 4, 2) := by decide +kernel
theorem dX2_comesTo_76 : decode cX2_comesTo 76 = .ok (.iaload, 1) := by decide +kernel
theorem dX2_comesTo_77 : decode cX2_comesTo 77 = .ok (.if_icmp .le 9, 3) := by decide +kernel
theorem dX2_comesTo_80 : decode cX2_comesTo 80 = .ok (.aload_n 2, 1) := by decide +kernel
theorem dX2_comesTo_81 : decode cX2_comesTo 81 = .ok (.iload_n 3, 1) := by decide +kernel
theorem dX2_comesTo_82 : decode cX2_comesTo 82 = .ok (.iaload, 1) := by decide +kernel
theorem dX2_comesTo_83 : decode cX2_comesTo 83 = .ok (.goto 7, 3) := by decide +kernel
theorem dX2_comesTo_86 : decode cX2_comesTo 86 = .ok (.aload_n 2, 1) := by decide +kernel
theorem dX2_comesTo_87 : decode cX2_comesTo 87 = .ok (.iload 4, 2) := by decide +kernel
theorem dX2_comesTo_89 : decode cX2_comesTo 89 = .ok (.iaload, 1) := by decide +kernel
theorem dX2_comesTo_90 : decode cX2_comesTo 90 = .ok (.ireturn, 1) := by decide +kernel
theorem dX2_comesTo_91 : decode cX2_comesTo 91 = .ok (.aload_n 2, 1) := by decide +kernel
theorem dX2_comesTo_92 : decode cX2_comesTo 92 = .ok (.iload_n 3, 1) := by decide +kernel
theorem dX2_comesTo_93 : decode cX2_comesTo 93 = .ok (.iaload, 1) := by decide +kernel
theorem dX2_comesTo_94 : decode cX2_comesTo 94 = .ok (.aload_n 0, 1) := by decide +kernel
theorem dX2_comesTo_95 : decode cX2_comesTo 95 = .ok (.getfield 19, 3) := by decide +kernel
theorem dX2_comesTo_98 : decode cX2_comesTo 98 = .ok (.iload_n 1, 1) := by decide +kernel
theorem dX2_comesTo_99 : decode cX2_comesTo 99 = .ok (.iaload, 1) := by decide +kernel
theorem dX2_comesTo_100 : decode cX2_comesTo 100 = .ok (.imul, 1) := by decide +kernel
theorem dX2_comesTo_101 : decode cX2_comesTo 101 = .ok (.invokestatic 75, 3) := by decide +kernel
theorem dX2_comesTo_104 : decode cX2_comesTo 104 = .ok (.ireturn, 1) := by decide +kernel
theorem dX2_isMetered_0 : decode cX2_isMetered 0 = .ok (.iload_n 1, 1) := by decide +kernel
theorem dX2_isMetered_1 : decode cX2_isMetered 1 = .ok (.iconst (-1), 1) := by decide +kernel
theorem dX2_isMetered_2 : decode cX2_isMetered 2 = .ok (.if_icmp .eq 18, 3) := by decide +kernel
theorem dX2_isMetered_5 : decode cX2_isMetered 5 = .ok (.iload_n 0, 1) := by decide +kernel
theorem dX2_isMetered_6 : decode cX2_isMetered 6 = .ok (.bipush 6, 2) := by decide +kernel
theorem dX2_isMetered_8 : decode cX2_isMetered 8 = .ok (.idiv, 1) := by decide +kernel
theorem dX2_isMetered_9 : decode cX2_isMetered 9 = .ok (.iload_n 1, 1) := by decide +kernel
theorem dX2_isMetered_10 : decode cX2_isMetered 10 = .ok (.bipush 6, 2) := by decide +kernel
theorem dX2_isMetered_12 : decode cX2_isMetered 12 = .ok (.idiv, 1) := by decide +kernel
theorem dX2_isMetered_13 : decode cX2_isMetered 13 = .ok (.if_icmp .eq 7, 3) := by decide +kernel
theorem dX2_isMetered_16 : decode cX2_isMetered 16 = .ok (.iconst 1, 1) := by decide +kernel
theorem dX2_isMetered_17 : decode cX2_isMetered 17 = .ok (.goto 4, 3) := by decide +kernel
theorem dX2_isMetered_20 : decode cX2_isMetered 20 = .ok (.iconst 0, 1) := by decide +kernel
theorem dX2_isMetered_21 : decode cX2_isMetered 21 = .ok (.ireturn, 1) := by decide +kernel
set_option maxRecDepth 20000 in
theorem ggX2_priceOf_X2_isMetered : GoodIn wsX2_priceOf wsX2_isMetered := goodIn_r _ [5] (by decide +kernel) (by decide +kernel)
set_option maxRecDepth 20000 in
theorem gX2_priceOf_X2_isMetered : GoodIn wsX2_priceOf (va_wsS RX2 78 yX2_isMetered wsX2_isMetered) := goodIn_app (goodIn_of _ (by decide +kernel)) ggX2_priceOf_X2_isMetered
theorem dX2_priceOf_0 : decode cX2_priceOf 0 = .ok (.iload_n 1, 1) := by decide +kernel
theorem dX2_priceOf_1 : decode cX2_priceOf 1 = .ok (.iload_n 2, 1) := by decide +kernel
theorem dX2_priceOf_2 : decode cX2_priceOf 2 = .ok (.invokestatic 78, 3) := by decide +kernel
theorem dX2_priceOf_5 : decode cX2_priceOf 5 = .ok (.ifCond .eq 15, 3) := by decide +kernel
theorem dX2_priceOf_8 : decode cX2_priceOf 8 = .ok (.aload_n 0, 1) := by decide +kernel
theorem dX2_priceOf_9 : decode cX2_priceOf 9 = .ok (.getfield 40, 3) := by decide +kernel
theorem dX2_priceOf_12 : decode cX2_priceOf 12 = .ok (.iload_n 2, 1) := by decide +kernel
theorem dX2_priceOf_13 : decode cX2_priceOf 13 = .ok (.bipush 6, 2) := by decide +kernel
theorem dX2_priceOf_15 : decode cX2_priceOf 15 = .ok (.idiv, 1) := by decide +kernel
theorem dX2_priceOf_16 : decode cX2_priceOf 16 = .ok (.iaload, 1) := by decide +kernel
theorem dX2_priceOf_17 : decode cX2_priceOf 17 = .ok (.goto 4, 3) := by decide +kernel
theorem dX2_priceOf_20 : decode cX2_priceOf 20 = .ok (.iconst 0, 1) := by decide +kernel
theorem dX2_priceOf_21 : decode cX2_priceOf 21 = .ok (.ireturn, 1) := by decide +kernel
set_option maxRecDepth 20000 in
theorem ggX2_pay_X2_isMetered : GoodIn wsX2_pay wsX2_isMetered := goodIn_r _ [11] (by decide +kernel) (by decide +kernel)
set_option maxRecDepth 20000 in
theorem gX2_pay_X2_isMetered : GoodIn wsX2_pay (va_wsS RX2 78 yX2_isMetered wsX2_isMetered) := goodIn_app (goodIn_of _ (by decide +kernel)) ggX2_pay_X2_isMetered
theorem dX2_pay_0 : decode cX2_pay 0 = .ok (.iload_n 2, 1) := by decide +kernel
theorem dX2_pay_1 : decode cX2_pay 1 = .ok (.iload_n 3, 1) := by decide +kernel
theorem dX2_pay_2 : decode cX2_pay 2 = .ok (.invokestatic 78, 3) := by decide +kernel
theorem dX2_pay_5 : decode cX2_pay 5 = .ok (.ifCond .eq 109, 3) := by decide +kernel
theorem dX2_pay_8 : decode cX2_pay 8 = .ok (.aload_n 0, 1) := by decide +kernel
theorem dX2_pay_9 : decode cX2_pay 9 = .ok (.getfield 40, 3) := by decide +kernel
theorem dX2_pay_12 : decode cX2_pay 12 = .ok (.iload_n 3, 1) := by decide +kernel
theorem dX2_pay_13 : decode cX2_pay 13 = .ok (.bipush 6, 2) := by decide +kernel
theorem dX2_pay_15 : decode cX2_pay 15 = .ok (.idiv, 1) := by decide +kernel
theorem dX2_pay_16 : decode cX2_pay 16 = .ok (.iaload, 1) := by decide +kernel
theorem dX2_pay_17 : decode cX2_pay 17 = .ok (.istore 4, 2) := by decide +kernel
theorem dX2_pay_19 : decode cX2_pay 19 = .ok (.aload_n 0, 1) := by decide +kernel
theorem dX2_pay_20 : decode cX2_pay 20 = .ok (.getfield 43, 3) := by decide +kernel
theorem dX2_pay_23 : decode cX2_pay 23 = .ok (.iload_n 2, 1) := by decide +kernel
theorem dX2_pay_24 : decode cX2_pay 24 = .ok (.bipush 6, 2) := by decide +kernel
theorem dX2_pay_26 : decode cX2_pay 26 = .ok (.idiv, 1) := by decide +kernel
theorem dX2_pay_27 : decode cX2_pay 27 = .ok (.dup2, 1) := by decide +kernel
theorem dX2_pay_28 : decode cX2_pay 28 = .ok (.iaload, 1) := by decide +kernel
theorem dX2_pay_29 : decode cX2_pay 29 = .ok (.iload 4, 2) := by decide +kernel
theorem dX2_pay_31 : decode cX2_pay 31 = .ok (.isub, 1) := by decide +kernel
theorem dX2_pay_32 : decode cX2_pay 32 = .ok (.iastore, 1) := by decide +kernel
theorem dX2_pay_33 : decode cX2_pay 33 = .ok (.aload_n 0, 1) := by decide +kernel
theorem dX2_pay_34 : decode cX2_pay 34 = .ok (.getfield 46, 3) := by decide +kernel
theorem dX2_pay_37 : decode cX2_pay 37 = .ok (.iload_n 3, 1) := by decide +kernel
theorem dX2_pay_38 : decode cX2_pay 38 = .ok (.bipush 6, 2) := by decide +kernel
theorem dX2_pay_40 : decode cX2_pay 40 = .ok (.idiv, 1) := by decide +kernel
theorem dX2_pay_41 : decode cX2_pay 41 = .ok (.dup2, 1) := by decide +kernel
theorem dX2_pay_42 : decode cX2_pay 42 = .ok (.iaload, 1) := by decide +kernel
theorem dX2_pay_43 : decode cX2_pay 43 = .ok (.iload 4, 2) := by decide +kernel
theorem dX2_pay_45 : decode cX2_pay 45 = .ok (.iadd, 1) := by decide +kernel
theorem dX2_pay_46 : decode cX2_pay 46 = .ok (.iastore, 1) := by decide +kernel
theorem dX2_pay_47 : decode cX2_pay 47 = .ok (.aload_n 0, 1) := by decide +kernel
theorem dX2_pay_48 : decode cX2_pay 48 = .ok (.getfield 49, 3) := by decide +kernel
theorem dX2_pay_51 : decode cX2_pay 51 = .ok (.iload_n 1, 1) := by decide +kernel
theorem dX2_pay_52 : decode cX2_pay 52 = .ok (.dup2, 1) := by decide +kernel
theorem dX2_pay_53 : decode cX2_pay 53 = .ok (.iaload, 1) := by decide +kernel
theorem dX2_pay_54 : decode cX2_pay 54 = .ok (.iload 4, 2) := by decide +kernel
theorem dX2_pay_56 : decode cX2_pay 56 = .ok (.iadd, 1) := by decide +kernel
theorem dX2_pay_57 : decode cX2_pay 57 = .ok (.iastore, 1) := by decide +kernel
theorem dX2_pay_58 : decode cX2_pay 58 = .ok (.aload_n 0, 1) := by decide +kernel
theorem dX2_pay_59 : decode cX2_pay 59 = .ok (.getfield 55, 3) := by decide +kernel
theorem dX2_pay_62 : decode cX2_pay 62 = .ok (.bipush 24, 2) := by decide +kernel
theorem dX2_pay_64 : decode cX2_pay 64 = .ok (.iload_n 2, 1) := by decide +kernel
theorem dX2_pay_65 : decode cX2_pay 65 = .ok (.imul, 1) := by decide +kernel
theorem dX2_pay_66 : decode cX2_pay 66 = .ok (.iload_n 3, 1) := by decide +kernel
theorem dX2_pay_67 : decode cX2_pay 67 = .ok (.iadd, 1) := by decide +kernel
theorem dX2_pay_68 : decode cX2_pay 68 = .ok (.dup2, 1) := by decide +kernel
theorem dX2_pay_69 : decode cX2_pay 69 = .ok (.iaload, 1) := by decide +kernel
theorem dX2_pay_70 : decode cX2_pay 70 = .ok (.iconst 1, 1) := by decide +kernel
theorem dX2_pay_71 : decode cX2_pay 71 = .ok (.iadd, 1) := by decide +kernel
theorem dX2_pay_72 : decode cX2_pay 72 = .ok (.iastore, 1) := by decide +kernel
theorem dX2_pay_73 : decode cX2_pay 73 = .ok (.aload_n 0, 1) := by decide +kernel
theorem dX2_pay_74 : decode cX2_pay 74 = .ok (.getfield 82, 3) := by decide +kernel
theorem dX2_pay_77 : decode cX2_pay 77 = .ok (.sipush 500, 3) := by decide +kernel
theorem dX2_pay_80 : decode cX2_pay 80 = .ok (.if_icmp .ge 34, 3) := by decide +kernel
theorem dX2_pay_83 : decode cX2_pay 83 = .ok (.aload_n 0, 1) := by decide +kernel
theorem dX2_pay_84 : decode cX2_pay 84 = .ok (.getfield 52, 3) := by decide +kernel
theorem dX2_pay_87 : decode cX2_pay 87 = .ok (.aload_n 0, 1) := by decide +kernel
theorem dX2_pay_88 : decode cX2_pay 88 = .ok (.getfield 82, 3) := by decide +kernel
theorem dX2_pay_91 : decode cX2_pay 91 = .ok (.sipush 10000, 3) := by decide +kernel
theorem dX2_pay_94 : decode cX2_pay 94 = .ok (.iload_n 1, 1) := by decide +kernel
theorem dX2_pay_95 : decode cX2_pay 95 = .ok (.imul, 1) := by decide +kernel
theorem dX2_pay_96 : decode cX2_pay 96 = .ok (.bipush 100, 2) := by decide +kernel
theorem dX2_pay_98 : decode cX2_pay 98 = .ok (.iload_n 2, 1) := by decide +kernel
theorem dX2_pay_99 : decode cX2_pay 99 = .ok (.imul, 1) := by decide +kernel
theorem dX2_pay_100 : decode cX2_pay 100 = .ok (.iadd, 1) := by decide +kernel
theorem dX2_pay_101 : decode cX2_pay 101 = .ok (.iload_n 3, 1) := by decide +kernel
theorem dX2_pay_102 : decode cX2_pay 102 = .ok (.iadd, 1) := by decide +kernel
theorem dX2_pay_103 : decode cX2_pay 103 = .ok (.iastore, 1) := by decide +kernel
theorem dX2_pay_104 : decode cX2_pay 104 = .ok (.aload_n 0, 1) := by decide +kernel
theorem dX2_pay_105 : decode cX2_pay 105 = .ok (.dup, 1) := by decide +kernel
theorem dX2_pay_106 : decode cX2_pay 106 = .ok (.getfield 82, 3) := by decide +kernel
theorem dX2_pay_109 : decode cX2_pay 109 = .ok (.iconst 1, 1) := by decide +kernel
theorem dX2_pay_110 : decode cX2_pay 110 = .ok (.iadd, 1) := by decide +kernel
theorem dX2_pay_111 : decode cX2_pay 111 = .ok (.putfield 82, 3) := by decide +kernel
theorem dX2_pay_114 : decode cX2_pay 114 = .ok (.return_, 1) := by decide +kernel
set_option maxRecDepth 20000 in
theorem ggX2_compute_X2_one : GoodIn wsX2_compute wsX2_one := goodIn_r _ [9, 10, 11, 44, 45, 46, 47, 48, 49, 50, 51, 52, 53, 54, 55, 56, 57, 58, 59, 60, 61] (by decide +kernel) (by decide +kernel)
set_option maxRecDepth 20000 in
theorem gX2_compute_X2_one : GoodIn wsX2_compute (wsV RX2 66 RX2 yX2_one wsX2_one) := goodIn_app (goodIn_of _ (by decide +kernel)) ggX2_compute_X2_one
set_option maxRecDepth 20000 in
theorem ggX2_compute_X2_priceOf : GoodIn wsX2_compute wsX2_priceOf := goodIn_r _ [15, 16, 17, 18, 8, 19, 44, 45, 46, 47, 48, 49, 50, 51, 52, 53, 54, 55, 56, 57, 58, 59, 60, 61] (by decide +kernel) (by decide +kernel)
set_option maxRecDepth 20000 in
theorem gX2_compute_X2_priceOf : GoodIn wsX2_compute (wsV RX2 85 RX2 yX2_priceOf wsX2_priceOf) := goodIn_app (goodIn_of _ (by decide +kernel)) ggX2_compute_X2_priceOf
set_option maxRecDepth 20000 in
theorem ggX2_compute_X2_other : GoodIn wsX2_compute wsX2_other := goodIn_r _ [23, 10, 24, 11, 44, 45, 46, 47, 48, 49, 50, 51, 52, 53, 54, 55, 56, 57, 58, 59, 60, 61] (by decide +kernel) (by decide +kernel)
set_option maxRecDepth 20000 in
theorem gX2_compute_X2_other : GoodIn wsX2_compute (wsV RX2 70 RX2 yX2_other wsX2_other) := goodIn_app (goodIn_of _ (by decide +kernel)) ggX2_compute_X2_other
set_option maxRecDepth 20000 in
theorem ggX2_compute_X2_pay : GoodIn wsX2_compute wsX2_pay := goodIn_r _ [28, 16, 1, 29, 30, 31, 32, 33, 17, 18, 8, 19, 44, 45, 46, 47, 48, 49, 50, 51, 52, 53, 54, 55, 56, 57, 58, 59, 60, 61] (by decide +kernel) (by decide +kernel)
set_option maxRecDepth 20000 in
theorem gX2_compute_X2_pay : GoodIn wsX2_compute (wsV RX2 89 RX2 yX2_pay wsX2_pay) := goodIn_app (goodIn_of _ (by decide +kernel)) ggX2_compute_X2_pay
set_option maxRecDepth 20000 in
theorem ggX2_compute_X2_comesTo : GoodIn wsX2_compute wsX2_comesTo := goodIn_r _ [37, 11, 24, 10, 38, 39, 40, 8, 41, 42, 43, 44, 45, 46, 47, 48, 49, 50, 51, 52, 53, 54, 55, 56, 57, 58, 59, 60, 61] (by decide +kernel) (by decide +kernel)
set_option maxRecDepth 20000 in
theorem gX2_compute_X2_comesTo : GoodIn wsX2_compute (wsV RX2 93 RX2 yX2_comesTo wsX2_comesTo) := goodIn_app (goodIn_of _ (by decide +kernel)) ggX2_compute_X2_comesTo
theorem dX2_compute_0 : decode cX2_compute 0 = .ok (.aload_n 0, 1) := by decide +kernel
theorem dX2_compute_1 : decode cX2_compute 1 = .ok (.iload_n 2, 1) := by decide +kernel
theorem dX2_compute_2 : decode cX2_compute 2 = .ok (.aload_n 0, 1) := by decide +kernel
theorem dX2_compute_3 : decode cX2_compute 3 = .ok (.iload_n 2, 1) := by decide +kernel
theorem dX2_compute_4 : decode cX2_compute 4 = .ok (.invokevirtual 66, 3) := by decide +kernel
theorem dX2_compute_7 : decode cX2_compute 7 = .ok (.invokevirtual 85, 3) := by decide +kernel
theorem dX2_compute_10 : decode cX2_compute 10 = .ok (.aload_n 0, 1) := by decide +kernel
theorem dX2_compute_11 : decode cX2_compute 11 = .ok (.iload_n 2, 1) := by decide +kernel
theorem dX2_compute_12 : decode cX2_compute 12 = .ok (.aload_n 0, 1) := by decide +kernel
theorem dX2_compute_13 : decode cX2_compute 13 = .ok (.iload_n 2, 1) := by decide +kernel
theorem dX2_compute_14 : decode cX2_compute 14 = .ok (.invokevirtual 70, 3) := by decide +kernel
theorem dX2_compute_17 : decode cX2_compute 17 = .ok (.invokevirtual 85, 3) := by decide +kernel
theorem dX2_compute_20 : decode cX2_compute 20 = .ok (.iadd, 1) := by decide +kernel
theorem dX2_compute_21 : decode cX2_compute 21 = .ok (.istore_n 3, 1) := by decide +kernel
theorem dX2_compute_22 : decode cX2_compute 22 = .ok (.aload_n 0, 1) := by decide +kernel
theorem dX2_compute_23 : decode cX2_compute 23 = .ok (.getfield 43, 3) := by decide +kernel
theorem dX2_compute_26 : decode cX2_compute 26 = .ok (.iload_n 2, 1) := by decide +kernel
theorem dX2_compute_27 : decode cX2_compute 27 = .ok (.bipush 6, 2) := by decide +kernel
theorem dX2_compute_29 : decode cX2_compute 29 = .ok (.idiv, 1) := by decide +kernel
theorem dX2_compute_30 : decode cX2_compute 30 = .ok (.iaload, 1) := by decide +kernel
theorem dX2_compute_31 : decode cX2_compute 31 = .ok (.iload_n 3, 1) := by decide +kernel
theorem dX2_compute_32 : decode cX2_compute 32 = .ok (.if_icmp .ge 11, 3) := by decide +kernel
theorem dX2_compute_35 : decode cX2_compute 35 = .ok (.aload_n 0, 1) := by decide +kernel
theorem dX2_compute_36 : decode cX2_compute 36 = .ok (.getfield 25, 3) := by decide +kernel
theorem dX2_compute_39 : decode cX2_compute 39 = .ok (.iload_n 2, 1) := by decide +kernel
theorem dX2_compute_40 : decode cX2_compute 40 = .ok (.iconst 1, 1) := by decide +kernel
theorem dX2_compute_41 : decode cX2_compute 41 = .ok (.iastore, 1) := by decide +kernel
theorem dX2_compute_42 : decode cX2_compute 42 = .ok (.return_, 1) := by decide +kernel
theorem dX2_compute_43 : decode cX2_compute 43 = .ok (.aload_n 0, 1) := by decide +kernel
theorem dX2_compute_44 : decode cX2_compute 44 = .ok (.iload_n 1, 1) := by decide +kernel
theorem dX2_compute_45 : decode cX2_compute 45 = .ok (.iload_n 2, 1) := by decide +kernel
theorem dX2_compute_46 : decode cX2_compute 46 = .ok (.aload_n 0, 1) := by decide +kernel
theorem dX2_compute_47 : decode cX2_compute 47 = .ok (.iload_n 2, 1) := by decide +kernel
theorem dX2_compute_48 : decode cX2_compute 48 = .ok (.invokevirtual 66, 3) := by decide +kernel
theorem dX2_compute_51 : decode cX2_compute 51 = .ok (.invokevirtual 89, 3) := by decide +kernel
theorem dX2_compute_54 : decode cX2_compute 54 = .ok (.aload_n 0, 1) := by decide +kernel
theorem dX2_compute_55 : decode cX2_compute 55 = .ok (.iload_n 1, 1) := by decide +kernel
theorem dX2_compute_56 : decode cX2_compute 56 = .ok (.iload_n 2, 1) := by decide +kernel
theorem dX2_compute_57 : decode cX2_compute 57 = .ok (.aload_n 0, 1) := by decide +kernel
theorem dX2_compute_58 : decode cX2_compute 58 = .ok (.iload_n 2, 1) := by decide +kernel
theorem dX2_compute_59 : decode cX2_compute 59 = .ok (.invokevirtual 70, 3) := by decide +kernel
theorem dX2_compute_62 : decode cX2_compute 62 = .ok (.invokevirtual 89, 3) := by decide +kernel
theorem dX2_compute_65 : decode cX2_compute 65 = .ok (.aload_n 0, 1) := by decide +kernel
theorem dX2_compute_66 : decode cX2_compute 66 = .ok (.iload_n 2, 1) := by decide +kernel
theorem dX2_compute_67 : decode cX2_compute 67 = .ok (.aload_n 0, 1) := by decide +kernel
theorem dX2_compute_68 : decode cX2_compute 68 = .ok (.getfield 22, 3) := by decide +kernel
theorem dX2_compute_71 : decode cX2_compute 71 = .ok (.invokevirtual 93, 3) := by decide +kernel
theorem dX2_compute_74 : decode cX2_compute 74 = .ok (.istore 4, 2) := by decide +kernel
theorem dX2_compute_76 : decode cX2_compute 76 = .ok (.aload_n 0, 1) := by decide +kernel
theorem dX2_compute_77 : decode cX2_compute 77 = .ok (.getfield 28, 3) := by decide +kernel
theorem dX2_compute_80 : decode cX2_compute 80 = .ok (.iload_n 2, 1) := by decide +kernel
theorem dX2_compute_81 : decode cX2_compute 81 = .ok (.iload 4, 2) := by decide +kernel
theorem dX2_compute_83 : decode cX2_compute 83 = .ok (.aload_n 0, 1) := by decide +kernel
theorem dX2_compute_84 : decode cX2_compute 84 = .ok (.getfield 22, 3) := by decide +kernel
theorem dX2_compute_87 : decode cX2_compute 87 = .ok (.iload_n 2, 1) := by decide +kernel
theorem dX2_compute_88 : decode cX2_compute 88 = .ok (.iaload, 1) := by decide +kernel
theorem dX2_compute_89 : decode cX2_compute 89 = .ok (.if_icmp .eq 7, 3) := by decide +kernel
theorem dX2_compute_92 : decode cX2_compute 92 = .ok (.iconst 1, 1) := by decide +kernel
theorem dX2_compute_93 : decode cX2_compute 93 = .ok (.goto 4, 3) := by decide +kernel
theorem dX2_compute_96 : decode cX2_compute 96 = .ok (.iconst 0, 1) := by decide +kernel
theorem dX2_compute_97 : decode cX2_compute 97 = .ok (.iastore, 1) := by decide +kernel
theorem dX2_compute_98 : decode cX2_compute 98 = .ok (.aload_n 0, 1) := by decide +kernel
theorem dX2_compute_99 : decode cX2_compute 99 = .ok (.getfield 22, 3) := by decide +kernel
theorem dX2_compute_102 : decode cX2_compute 102 = .ok (.iload_n 2, 1) := by decide +kernel
theorem dX2_compute_103 : decode cX2_compute 103 = .ok (.iload 4, 2) := by decide +kernel
theorem dX2_compute_105 : decode cX2_compute 105 = .ok (.iastore, 1) := by decide +kernel
theorem dX2_compute_106 : decode cX2_compute 106 = .ok (.aload_n 0, 1) := by decide +kernel
theorem dX2_compute_107 : decode cX2_compute 107 = .ok (.getfield 25, 3) := by decide +kernel
theorem dX2_compute_110 : decode cX2_compute 110 = .ok (.iload_n 2, 1) := by decide +kernel
theorem dX2_compute_111 : decode cX2_compute 111 = .ok (.iconst 0, 1) := by decide +kernel
theorem dX2_compute_112 : decode cX2_compute 112 = .ok (.iastore, 1) := by decide +kernel
theorem dX2_compute_113 : decode cX2_compute 113 = .ok (.return_, 1) := by decide +kernel
set_option maxRecDepth 20000 in
theorem ggX2_readsChanged_X2_one : GoodIn wsX2_readsChanged wsX2_one := goodIn_r _ [6, 7, 8, 14, 15, 16, 17, 18, 19, 20, 21, 22, 23, 24, 25, 26, 27, 28, 29, 30, 31] (by decide +kernel) (by decide +kernel)
set_option maxRecDepth 20000 in
theorem gX2_readsChanged_X2_one : GoodIn wsX2_readsChanged (wsV RX2 66 RX2 yX2_one wsX2_one) := goodIn_app (goodIn_of _ (by decide +kernel)) ggX2_readsChanged_X2_one
set_option maxRecDepth 20000 in
theorem ggX2_readsChanged_X2_other : GoodIn wsX2_readsChanged wsX2_other := goodIn_r _ [12, 7, 13, 8, 14, 15, 16, 17, 18, 19, 20, 21, 22, 23, 24, 25, 26, 27, 28, 29, 30, 31] (by decide +kernel) (by decide +kernel)
set_option maxRecDepth 20000 in
theorem gX2_readsChanged_X2_other : GoodIn wsX2_readsChanged (wsV RX2 70 RX2 yX2_other wsX2_other) := goodIn_app (goodIn_of _ (by decide +kernel)) ggX2_readsChanged_X2_other
theorem dX2_readsChanged_0 : decode cX2_readsChanged 0 = .ok (.aload_n 0, 1) := by decide +kernel
theorem dX2_readsChanged_1 : decode cX2_readsChanged 1 = .ok (.iload_n 1, 1) := by decide +kernel
theorem dX2_readsChanged_2 : decode cX2_readsChanged 2 = .ok (.invokevirtual 66, 3) := by decide +kernel
theorem dX2_readsChanged_5 : decode cX2_readsChanged 5 = .ok (.iconst (-1), 1) := by decide +kernel
theorem dX2_readsChanged_6 : decode cX2_readsChanged 6 = .ok (.if_icmp .eq 17, 3) := by decide +kernel
theorem dX2_readsChanged_9 : decode cX2_readsChanged 9 = .ok (.aload_n 0, 1) := by decide +kernel
theorem dX2_readsChanged_10 : decode cX2_readsChanged 10 = .ok (.getfield 28, 3) := by decide +kernel
theorem dX2_readsChanged_13 : decode cX2_readsChanged 13 = .ok (.aload_n 0, 1) := by decide +kernel
theorem dX2_readsChanged_14 : decode cX2_readsChanged 14 = .ok (.iload_n 1, 1) := by decide +kernel
theorem dX2_readsChanged_15 : decode cX2_readsChanged 15 = .ok (.invokevirtual 66, 3) := by decide +kernel
theorem dX2_readsChanged_18 : decode cX2_readsChanged 18 = .ok (.iaload, 1) := by decide +kernel
theorem dX2_readsChanged_19 : decode cX2_readsChanged 19 = .ok (.iconst 1, 1) := by decide +kernel
theorem dX2_readsChanged_20 : decode cX2_readsChanged 20 = .ok (.if_icmp .eq 26, 3) := by decide +kernel
theorem dX2_readsChanged_23 : decode cX2_readsChanged 23 = .ok (.aload_n 0, 1) := by decide +kernel
theorem dX2_readsChanged_24 : decode cX2_readsChanged 24 = .ok (.iload_n 1, 1) := by decide +kernel
theorem dX2_readsChanged_25 : decode cX2_readsChanged 25 = .ok (.invokevirtual 70, 3) := by decide +kernel
theorem dX2_readsChanged_28 : decode cX2_readsChanged 28 = .ok (.iconst (-1), 1) := by decide +kernel
theorem dX2_readsChanged_29 : decode cX2_readsChanged 29 = .ok (.if_icmp .eq 21, 3) := by decide +kernel
theorem dX2_readsChanged_32 : decode cX2_readsChanged 32 = .ok (.aload_n 0, 1) := by decide +kernel
theorem dX2_readsChanged_33 : decode cX2_readsChanged 33 = .ok (.getfield 28, 3) := by decide +kernel
theorem dX2_readsChanged_36 : decode cX2_readsChanged 36 = .ok (.aload_n 0, 1) := by decide +kernel
theorem dX2_readsChanged_37 : decode cX2_readsChanged 37 = .ok (.iload_n 1, 1) := by decide +kernel
theorem dX2_readsChanged_38 : decode cX2_readsChanged 38 = .ok (.invokevirtual 70, 3) := by decide +kernel
theorem dX2_readsChanged_41 : decode cX2_readsChanged 41 = .ok (.iaload, 1) := by decide +kernel
theorem dX2_readsChanged_42 : decode cX2_readsChanged 42 = .ok (.iconst 1, 1) := by decide +kernel
theorem dX2_readsChanged_43 : decode cX2_readsChanged 43 = .ok (.if_icmp .ne 7, 3) := by decide +kernel
theorem dX2_readsChanged_46 : decode cX2_readsChanged 46 = .ok (.iconst 1, 1) := by decide +kernel
theorem dX2_readsChanged_47 : decode cX2_readsChanged 47 = .ok (.goto 4, 3) := by decide +kernel
theorem dX2_readsChanged_50 : decode cX2_readsChanged 50 = .ok (.iconst 0, 1) := by decide +kernel
theorem dX2_readsChanged_51 : decode cX2_readsChanged 51 = .ok (.ireturn, 1) := by decide +kernel
set_option maxRecDepth 20000 in
theorem ggX2_goThrough_X2_layOrder : GoodIn wsX2_goThrough wsX2_layOrder := goodIn_r _ [7, 8, 1, 9, 10, 11, 6, 12, 13, 14, 15, 16, 17, 18, 19, 58, 59, 60, 61, 62, 63, 64, 65, 66, 67, 68, 69, 70, 71, 72, 73, 74, 75] (by decide +kernel) (by decide +kernel)
set_option maxRecDepth 20000 in
theorem gX2_goThrough_X2_layOrder : GoodIn wsX2_goThrough (wsV RX2 97 RX2 yX2_layOrder wsX2_layOrder) := goodIn_app (goodIn_of _ (by decide +kernel)) ggX2_goThrough_X2_layOrder
set_option maxRecDepth 20000 in
theorem ggX2_goThrough_X2_readsChanged : GoodIn wsX2_goThrough wsX2_readsChanged := goodIn_r _ [23, 24, 9, 10, 11, 6, 12, 13, 14, 15, 16, 17, 18, 19, 58, 59, 60, 61, 62, 63, 64, 65, 66, 67, 68, 69, 70, 71, 72, 73, 74, 75] (by decide +kernel) (by decide +kernel)
set_option maxRecDepth 20000 in
theorem gX2_goThrough_X2_readsChanged : GoodIn wsX2_goThrough (wsV RX2 100 RX2 yX2_readsChanged wsX2_readsChanged) := goodIn_app (goodIn_of _ (by decide +kernel)) ggX2_goThrough_X2_readsChanged
set_option maxRecDepth 20000 in
theorem ggX2_goThrough_X2_compute : GoodIn wsX2_goThrough wsX2_compute := goodIn_r _ [28, 29, 2, 30, 24, 9, 10, 11, 6, 12, 13, 14, 31, 32, 33, 34, 35, 36, 37, 38, 15, 16, 17, 18, 19, 39, 40, 41, 42, 43, 44, 45, 46, 47, 48, 49, 50, 51, 52, 53, 54, 55, 56, 57, 58, 59, 60, 61, 62, 63, 64, 65, 66, 67, 68, 69, 70, 71, 72, 73, 74, 75] (by decide +kernel) (by decide +kernel)
set_option maxRecDepth 20000 in
theorem gX2_goThrough_X2_compute : GoodIn wsX2_goThrough (wsV RX2 104 RX2 yX2_compute wsX2_compute) := goodIn_app (goodIn_of _ (by decide +kernel)) ggX2_goThrough_X2_compute
theorem dX2_goThrough_0 : decode cX2_goThrough 0 = .ok (.aload_n 0, 1) := by decide +kernel
theorem dX2_goThrough_1 : decode cX2_goThrough 1 = .ok (.invokevirtual 97, 3) := by decide +kernel
theorem dX2_goThrough_4 : decode cX2_goThrough 4 = .ok (.iconst 0, 1) := by decide +kernel
theorem dX2_goThrough_5 : decode cX2_goThrough 5 = .ok (.istore_n 3, 1) := by decide +kernel
theorem dX2_goThrough_6 : decode cX2_goThrough 6 = .ok (.iconst 0, 1) := by decide +kernel
theorem dX2_goThrough_7 : decode cX2_goThrough 7 = .ok (.istore 4, 2) := by decide +kernel
theorem dX2_goThrough_9 : decode cX2_goThrough 9 = .ok (.iload 4, 2) := by decide +kernel
theorem dX2_goThrough_11 : decode cX2_goThrough 11 = .ok (.bipush 24, 2) := by decide +kernel
theorem dX2_goThrough_13 : decode cX2_goThrough 13 = .ok (.if_icmp .ge 52, 3) := by decide +kernel
theorem dX2_goThrough_16 : decode cX2_goThrough 16 = .ok (.aload_n 0, 1) := by decide +kernel
theorem dX2_goThrough_17 : decode cX2_goThrough 17 = .ok (.getfield 34, 3) := by decide +kernel
theorem dX2_goThrough_20 : decode cX2_goThrough 20 = .ok (.iload 4, 2) := by decide +kernel
theorem dX2_goThrough_22 : decode cX2_goThrough 22 = .ok (.iaload, 1) := by decide +kernel
theorem dX2_goThrough_23 : decode cX2_goThrough 23 = .ok (.istore 5, 2) := by decide +kernel
theorem dX2_goThrough_25 : decode cX2_goThrough 25 = .ok (.iload_n 2, 1) := by decide +kernel
theorem dX2_goThrough_26 : decode cX2_goThrough 26 = .ok (.ifCond .eq 14, 3) := by decide +kernel
theorem dX2_goThrough_29 : decode cX2_goThrough 29 = .ok (.aload_n 0, 1) := by decide +kernel
theorem dX2_goThrough_30 : decode cX2_goThrough 30 = .ok (.getfield 25, 3) := by decide +kernel
theorem dX2_goThrough_33 : decode cX2_goThrough 33 = .ok (.iload 5, 2) := by decide +kernel
theorem dX2_goThrough_35 : decode cX2_goThrough 35 = .ok (.iaload, 1) := by decide +kernel
theorem dX2_goThrough_36 : decode cX2_goThrough 36 = .ok (.iconst 1, 1) := by decide +kernel
theorem dX2_goThrough_37 : decode cX2_goThrough 37 = .ok (.if_icmp .eq 12, 3) := by decide +kernel
theorem dX2_goThrough_40 : decode cX2_goThrough 40 = .ok (.aload_n 0, 1) := by decide +kernel
theorem dX2_goThrough_41 : decode cX2_goThrough 41 = .ok (.iload 5, 2) := by decide +kernel
theorem dX2_goThrough_43 : decode cX2_goThrough 43 = .ok (.invokevirtual 100, 3) := by decide +kernel
theorem dX2_goThrough_46 : decode cX2_goThrough 46 = .ok (.ifCond .eq 13, 3) := by decide +kernel
theorem dX2_goThrough_49 : decode cX2_goThrough 49 = .ok (.aload_n 0, 1) := by decide +kernel
theorem dX2_goThrough_50 : decode cX2_goThrough 50 = .ok (.iload_n 1, 1) := by decide +kernel
theorem dX2_goThrough_51 : decode cX2_goThrough 51 = .ok (.iload 5, 2) := by decide +kernel
theorem dX2_goThrough_53 : decode cX2_goThrough 53 = .ok (.invokevirtual 104, 3) := by decide +kernel
theorem dX2_goThrough_56 : decode cX2_goThrough 56 = .ok (.iinc 3 1, 3) := by decide +kernel
theorem dX2_goThrough_59 : decode cX2_goThrough 59 = .ok (.iinc 4 1, 3) := by decide +kernel
theorem dX2_goThrough_62 : decode cX2_goThrough 62 = .ok (.goto (-53), 3) := by decide +kernel
theorem dX2_goThrough_65 : decode cX2_goThrough 65 = .ok (.iload_n 3, 1) := by decide +kernel
theorem dX2_goThrough_66 : decode cX2_goThrough 66 = .ok (.ireturn, 1) := by decide +kernel
set_option maxRecDepth 20000 in
theorem ggX2_reaches_X2_one : GoodIn wsX2_reaches wsX2_one := goodIn_r _ [6, 7, 8, 14, 15, 16, 17, 18, 19, 20, 21, 22, 23, 24, 25, 26, 27, 28, 29, 30, 31] (by decide +kernel) (by decide +kernel)
set_option maxRecDepth 20000 in
theorem gX2_reaches_X2_one : GoodIn wsX2_reaches (wsV RX2 66 RX2 yX2_one wsX2_one) := goodIn_app (goodIn_of _ (by decide +kernel)) ggX2_reaches_X2_one
set_option maxRecDepth 20000 in
theorem ggX2_reaches_X2_other : GoodIn wsX2_reaches wsX2_other := goodIn_r _ [12, 7, 13, 8, 14, 15, 16, 17, 18, 19, 20, 21, 22, 23, 24, 25, 26, 27, 28, 29, 30, 31] (by decide +kernel) (by decide +kernel)
set_option maxRecDepth 20000 in
theorem gX2_reaches_X2_other : GoodIn wsX2_reaches (wsV RX2 70 RX2 yX2_other wsX2_other) := goodIn_app (goodIn_of _ (by decide +kernel)) ggX2_reaches_X2_other
theorem dX2_reaches_0 : decode cX2_reaches 0 = .ok (.iconst 0, 1) := by decide +kernel
theorem dX2_reaches_1 : decode cX2_reaches 1 = .ok (.istore_n 3, 1) := by decide +kernel
theorem dX2_reaches_2 : decode cX2_reaches 2 = .ok (.iload_n 3, 1) := by decide +kernel
theorem dX2_reaches_3 : decode cX2_reaches 3 = .ok (.bipush 24, 2) := by decide +kernel
theorem dX2_reaches_5 : decode cX2_reaches 5 = .ok (.if_icmp .ge 25, 3) := by decide +kernel
theorem dX2_reaches_8 : decode cX2_reaches 8 = .ok (.aload_n 0, 1) := by decide +kernel
theorem dX2_reaches_9 : decode cX2_reaches 9 = .ok (.getfield 37, 3) := by decide +kernel
theorem dX2_reaches_12 : decode cX2_reaches 12 = .ok (.iload_n 3, 1) := by decide +kernel
theorem dX2_reaches_13 : decode cX2_reaches 13 = .ok (.iload_n 3, 1) := by decide +kernel
theorem dX2_reaches_14 : decode cX2_reaches 14 = .ok (.iload_n 1, 1) := by decide +kernel
theorem dX2_reaches_15 : decode cX2_reaches 15 = .ok (.if_icmp .ne 7, 3) := by decide +kernel
theorem dX2_reaches_18 : decode cX2_reaches 18 = .ok (.iconst 1, 1) := by decide +kernel
theorem dX2_reaches_19 : decode cX2_reaches 19 = .ok (.goto 4, 3) := by decide +kernel
theorem dX2_reaches_22 : decode cX2_reaches 22 = .ok (.iconst 0, 1) := by decide +kernel
theorem dX2_reaches_23 : decode cX2_reaches 23 = .ok (.iastore, 1) := by decide +kernel
theorem dX2_reaches_24 : decode cX2_reaches 24 = .ok (.iinc 3 1, 3) := by decide +kernel
theorem dX2_reaches_27 : decode cX2_reaches 27 = .ok (.goto (-25), 3) := by decide +kernel
theorem dX2_reaches_30 : decode cX2_reaches 30 = .ok (.iconst 0, 1) := by decide +kernel
theorem dX2_reaches_31 : decode cX2_reaches 31 = .ok (.istore_n 3, 1) := by decide +kernel
theorem dX2_reaches_32 : decode cX2_reaches 32 = .ok (.iload_n 3, 1) := by decide +kernel
theorem dX2_reaches_33 : decode cX2_reaches 33 = .ok (.bipush 24, 2) := by decide +kernel
theorem dX2_reaches_35 : decode cX2_reaches 35 = .ok (.if_icmp .ge 80, 3) := by decide +kernel
theorem dX2_reaches_38 : decode cX2_reaches 38 = .ok (.iconst 0, 1) := by decide +kernel
theorem dX2_reaches_39 : decode cX2_reaches 39 = .ok (.istore 4, 2) := by decide +kernel
theorem dX2_reaches_41 : decode cX2_reaches 41 = .ok (.iload 4, 2) := by decide +kernel
theorem dX2_reaches_43 : decode cX2_reaches 43 = .ok (.bipush 24, 2) := by decide +kernel
theorem dX2_reaches_45 : decode cX2_reaches 45 = .ok (.if_icmp .ge 64, 3) := by decide +kernel
theorem dX2_reaches_48 : decode cX2_reaches 48 = .ok (.aload_n 0, 1) := by decide +kernel
theorem dX2_reaches_49 : decode cX2_reaches 49 = .ok (.getfield 37, 3) := by decide +kernel
theorem dX2_reaches_52 : decode cX2_reaches 52 = .ok (.iload 4, 2) := by decide +kernel
theorem dX2_reaches_54 : decode cX2_reaches 54 = .ok (.iaload, 1) := by decide +kernel
theorem dX2_reaches_55 : decode cX2_reaches 55 = .ok (.iconst 1, 1) := by decide +kernel
theorem dX2_reaches_56 : decode cX2_reaches 56 = .ok (.if_icmp .ne 47, 3) := by decide +kernel
theorem dX2_reaches_59 : decode cX2_reaches 59 = .ok (.aload_n 0, 1) := by decide +kernel
theorem dX2_reaches_60 : decode cX2_reaches 60 = .ok (.iload 4, 2) := by decide +kernel
theorem dX2_reaches_62 : decode cX2_reaches 62 = .ok (.invokevirtual 66, 3) := by decide +kernel
theorem dX2_reaches_65 : decode cX2_reaches 65 = .ok (.iconst (-1), 1) := by decide +kernel
theorem dX2_reaches_66 : decode cX2_reaches 66 = .ok (.if_icmp .eq 15, 3) := by decide +kernel
theorem dX2_reaches_69 : decode cX2_reaches 69 = .ok (.aload_n 0, 1) := by decide +kernel
theorem dX2_reaches_70 : decode cX2_reaches 70 = .ok (.getfield 37, 3) := by decide +kernel
theorem dX2_reaches_73 : decode cX2_reaches 73 = .ok (.aload_n 0, 1) := by decide +kernel
theorem dX2_reaches_74 : decode cX2_reaches 74 = .ok (.iload 4, 2) := by decide +kernel
theorem dX2_reaches_76 : decode cX2_reaches 76 = .ok (.invokevirtual 66, 3) := by decide +kernel
theorem dX2_reaches_79 : decode cX2_reaches 79 = .ok (.iconst 1, 1) := by decide +kernel
theorem dX2_reaches_80 : decode cX2_reaches 80 = .ok (.iastore, 1) := by decide +kernel
theorem dX2_reaches_81 : decode cX2_reaches 81 = .ok (.aload_n 0, 1) := by decide +kernel
theorem dX2_reaches_82 : decode cX2_reaches 82 = .ok (.iload 4, 2) := by decide +kernel
theorem dX2_reaches_84 : decode cX2_reaches 84 = .ok (.invokevirtual 70, 3) := by decide +kernel
theorem dX2_reaches_87 : decode cX2_reaches 87 = .ok (.iconst (-1), 1) := by decide +kernel
theorem dX2_reaches_88 : decode cX2_reaches 88 = .ok (.if_icmp .eq 15, 3) := by decide +kernel
theorem dX2_reaches_91 : decode cX2_reaches 91 = .ok (.aload_n 0, 1) := by decide +kernel
theorem dX2_reaches_92 : decode cX2_reaches 92 = .ok (.getfield 37, 3) := by decide +kernel
theorem dX2_reaches_95 : decode cX2_reaches 95 = .ok (.aload_n 0, 1) := by decide +kernel
theorem dX2_reaches_96 : decode cX2_reaches 96 = .ok (.iload 4, 2) := by decide +kernel
theorem dX2_reaches_98 : decode cX2_reaches 98 = .ok (.invokevirtual 70, 3) := by decide +kernel
theorem dX2_reaches_101 : decode cX2_reaches 101 = .ok (.iconst 1, 1) := by decide +kernel
theorem dX2_reaches_102 : decode cX2_reaches 102 = .ok (.iastore, 1) := by decide +kernel
theorem dX2_reaches_103 : decode cX2_reaches 103 = .ok (.iinc 4 1, 3) := by decide +kernel
theorem dX2_reaches_106 : decode cX2_reaches 106 = .ok (.goto (-65), 3) := by decide +kernel
theorem dX2_reaches_109 : decode cX2_reaches 109 = .ok (.iinc 3 1, 3) := by decide +kernel
theorem dX2_reaches_112 : decode cX2_reaches 112 = .ok (.goto (-80), 3) := by decide +kernel
theorem dX2_reaches_115 : decode cX2_reaches 115 = .ok (.aload_n 0, 1) := by decide +kernel
theorem dX2_reaches_116 : decode cX2_reaches 116 = .ok (.getfield 37, 3) := by decide +kernel
theorem dX2_reaches_119 : decode cX2_reaches 119 = .ok (.iload_n 2, 1) := by decide +kernel
theorem dX2_reaches_120 : decode cX2_reaches 120 = .ok (.iaload, 1) := by decide +kernel
theorem dX2_reaches_121 : decode cX2_reaches 121 = .ok (.iconst 1, 1) := by decide +kernel
theorem dX2_reaches_122 : decode cX2_reaches 122 = .ok (.if_icmp .ne 7, 3) := by decide +kernel
theorem dX2_reaches_125 : decode cX2_reaches 125 = .ok (.iconst 1, 1) := by decide +kernel
theorem dX2_reaches_126 : decode cX2_reaches 126 = .ok (.goto 4, 3) := by decide +kernel
theorem dX2_reaches_129 : decode cX2_reaches 129 = .ok (.iconst 0, 1) := by decide +kernel
theorem dX2_reaches_130 : decode cX2_reaches 130 = .ok (.ireturn, 1) := by decide +kernel
set_option maxRecDepth 20000 in
theorem ggX2_change_X2_compute : GoodIn wsX2_change wsX2_compute := goodIn_r _ [10, 11, 12, 13, 5, 14, 15, 16, 9, 17, 1, 2, 18, 19, 20, 21, 22, 23, 24, 25, 26, 27, 28, 29, 3, 30, 31, 32, 33, 34, 35, 36, 37, 38, 39, 40, 41, 42, 4, 43, 44, 45, 46, 47, 62, 63, 64, 65, 66, 67, 68, 69, 70, 71, 72, 73, 74, 75, 76, 77, 78, 79] (by decide +kernel) (by decide +kernel)
set_option maxRecDepth 20000 in
theorem gX2_change_X2_compute : GoodIn wsX2_change (wsV RX2 104 RX2 yX2_compute wsX2_compute) := goodIn_app (goodIn_of _ (by decide +kernel)) ggX2_change_X2_compute
set_option maxRecDepth 20000 in
theorem ggX2_change_X2_goThrough : GoodIn wsX2_change wsX2_goThrough := goodIn_r _ [51, 52, 12, 53, 54, 55, 9, 56, 57, 14, 15, 16, 17, 1, 2, 26, 27, 28, 29, 3, 58, 59, 60, 61, 5, 6, 7, 8, 10, 11, 13, 18, 19, 20, 21, 22, 23, 24, 25, 30, 31, 32, 33, 34, 35, 36, 37, 38, 39, 40, 41, 42, 4, 43, 44, 45, 46, 47, 62, 63, 64, 65, 66, 67, 68, 69, 70, 71, 72, 73, 74, 75, 76, 77, 78, 79] (by decide +kernel) (by decide +kernel)
set_option maxRecDepth 20000 in
theorem gX2_change_X2_goThrough : GoodIn wsX2_change (wsV RX2 108 RX2 yX2_goThrough wsX2_goThrough) := goodIn_app (goodIn_of _ (by decide +kernel)) ggX2_change_X2_goThrough
theorem dX2_change_0 : decode cX2_change 0 = .ok (.aload_n 0, 1) := by decide +kernel
theorem dX2_change_1 : decode cX2_change 1 = .ok (.getfield 7, 3) := by decide +kernel
theorem dX2_change_4 : decode cX2_change 4 = .ok (.iload_n 2, 1) := by decide +kernel
theorem dX2_change_5 : decode cX2_change 5 = .ok (.iload_n 3, 1) := by decide +kernel
theorem dX2_change_6 : decode cX2_change 6 = .ok (.iastore, 1) := by decide +kernel
theorem dX2_change_7 : decode cX2_change 7 = .ok (.aload_n 0, 1) := by decide +kernel
theorem dX2_change_8 : decode cX2_change 8 = .ok (.getfield 13, 3) := by decide +kernel
theorem dX2_change_11 : decode cX2_change 11 = .ok (.iload_n 2, 1) := by decide +kernel
theorem dX2_change_12 : decode cX2_change 12 = .ok (.iload 4, 2) := by decide +kernel
theorem dX2_change_14 : decode cX2_change 14 = .ok (.iastore, 1) := by decide +kernel
theorem dX2_change_15 : decode cX2_change 15 = .ok (.aload_n 0, 1) := by decide +kernel
theorem dX2_change_16 : decode cX2_change 16 = .ok (.getfield 16, 3) := by decide +kernel
theorem dX2_change_19 : decode cX2_change 19 = .ok (.iload_n 2, 1) := by decide +kernel
theorem dX2_change_20 : decode cX2_change 20 = .ok (.iload 5, 2) := by decide +kernel
theorem dX2_change_22 : decode cX2_change 22 = .ok (.iastore, 1) := by decide +kernel
theorem dX2_change_23 : decode cX2_change 23 = .ok (.aload_n 0, 1) := by decide +kernel
theorem dX2_change_24 : decode cX2_change 24 = .ok (.getfield 19, 3) := by decide +kernel
theorem dX2_change_27 : decode cX2_change 27 = .ok (.iload_n 2, 1) := by decide +kernel
theorem dX2_change_28 : decode cX2_change 28 = .ok (.iload 6, 2) := by decide +kernel
theorem dX2_change_30 : decode cX2_change 30 = .ok (.iastore, 1) := by decide +kernel
theorem dX2_change_31 : decode cX2_change 31 = .ok (.iconst 0, 1) := by decide +kernel
theorem dX2_change_32 : decode cX2_change 32 = .ok (.istore 7, 2) := by decide +kernel
theorem dX2_change_34 : decode cX2_change 34 = .ok (.iload 7, 2) := by decide +kernel
theorem dX2_change_36 : decode cX2_change 36 = .ok (.bipush 24, 2) := by decide +kernel
theorem dX2_change_38 : decode cX2_change 38 = .ok (.if_icmp .ge 17, 3) := by decide +kernel
theorem dX2_change_41 : decode cX2_change 41 = .ok (.aload_n 0, 1) := by decide +kernel
theorem dX2_change_42 : decode cX2_change 42 = .ok (.getfield 28, 3) := by decide +kernel
theorem dX2_change_45 : decode cX2_change 45 = .ok (.iload 7, 2) := by decide +kernel
theorem dX2_change_47 : decode cX2_change 47 = .ok (.iconst 0, 1) := by decide +kernel
theorem dX2_change_48 : decode cX2_change 48 = .ok (.iastore, 1) := by decide +kernel
theorem dX2_change_49 : decode cX2_change 49 = .ok (.iinc 7 1, 3) := by decide +kernel
theorem dX2_change_52 : decode cX2_change 52 = .ok (.goto (-18), 3) := by decide +kernel
theorem dX2_change_55 : decode cX2_change 55 = .ok (.aload_n 0, 1) := by decide +kernel
theorem dX2_change_56 : decode cX2_change 56 = .ok (.iload_n 1, 1) := by decide +kernel
theorem dX2_change_57 : decode cX2_change 57 = .ok (.iload_n 2, 1) := by decide +kernel
theorem dX2_change_58 : decode cX2_change 58 = .ok (.invokevirtual 104, 3) := by decide +kernel
theorem dX2_change_61 : decode cX2_change 61 = .ok (.iconst 1, 1) := by decide +kernel
theorem dX2_change_62 : decode cX2_change 62 = .ok (.aload_n 0, 1) := by decide +kernel
theorem dX2_change_63 : decode cX2_change 63 = .ok (.iload_n 1, 1) := by decide +kernel
theorem dX2_change_64 : decode cX2_change 64 = .ok (.iconst 0, 1) := by decide +kernel
theorem dX2_change_65 : decode cX2_change 65 = .ok (.invokevirtual 108, 3) := by decide +kernel
theorem dX2_change_68 : decode cX2_change 68 = .ok (.iadd, 1) := by decide +kernel
theorem dX2_change_69 : decode cX2_change 69 = .ok (.ireturn, 1) := by decide +kernel
set_option maxRecDepth 20000 in
theorem ggX2_isCaller_X2_in : GoodIn wsX2_isCaller wsX2_in := goodIn_r _ [4] (by decide +kernel) (by decide +kernel)
set_option maxRecDepth 20000 in
theorem gX2_isCaller_X2_in : GoodIn wsX2_isCaller (va_wsS RX2 62 yX2_in wsX2_in) := goodIn_app (goodIn_of _ (by decide +kernel)) ggX2_isCaller_X2_in
set_option maxRecDepth 20000 in
theorem ggX2_isCaller_X2_isCell : GoodIn wsX2_isCaller wsX2_isCell := goodIn_r _ [7, 1, 2, 3, 4] (by decide +kernel) (by decide +kernel)
set_option maxRecDepth 20000 in
theorem gX2_isCaller_X2_isCell : GoodIn wsX2_isCaller (va_wsS RX2 112 yX2_isCell wsX2_isCell) := goodIn_app (goodIn_of _ (by decide +kernel)) ggX2_isCaller_X2_isCell
theorem dX2_isCaller_0 : decode cX2_isCaller 0 = .ok (.iload_n 0, 1) := by decide +kernel
theorem dX2_isCaller_1 : decode cX2_isCaller 1 = .ok (.iconst 0, 1) := by decide +kernel
theorem dX2_isCaller_2 : decode cX2_isCaller 2 = .ok (.iconst 4, 1) := by decide +kernel
theorem dX2_isCaller_3 : decode cX2_isCaller 3 = .ok (.invokestatic 62, 3) := by decide +kernel
theorem dX2_isCaller_6 : decode cX2_isCaller 6 = .ok (.ifCond .eq 14, 3) := by decide +kernel
theorem dX2_isCaller_9 : decode cX2_isCaller 9 = .ok (.iload_n 1, 1) := by decide +kernel
theorem dX2_isCaller_10 : decode cX2_isCaller 10 = .ok (.invokestatic 112, 3) := by decide +kernel
theorem dX2_isCaller_13 : decode cX2_isCaller 13 = .ok (.ifCond .eq 7, 3) := by decide +kernel
theorem dX2_isCaller_16 : decode cX2_isCaller 16 = .ok (.iconst 1, 1) := by decide +kernel
theorem dX2_isCaller_17 : decode cX2_isCaller 17 = .ok (.goto 4, 3) := by decide +kernel
theorem dX2_isCaller_20 : decode cX2_isCaller 20 = .ok (.iconst 0, 1) := by decide +kernel
theorem dX2_isCaller_21 : decode cX2_isCaller 21 = .ok (.ireturn, 1) := by decide +kernel
set_option maxRecDepth 20000 in
theorem ggX2_setNumber_X2_isCaller : GoodIn wsX2_setNumber wsX2_isCaller := goodIn_r _ [7, 8, 9, 6, 10, 11, 12, 13] (by decide +kernel) (by decide +kernel)
set_option maxRecDepth 20000 in
theorem gX2_setNumber_X2_isCaller : GoodIn wsX2_setNumber (va_wsS RX2 115 yX2_isCaller wsX2_isCaller) := goodIn_app (goodIn_of _ (by decide +kernel)) ggX2_setNumber_X2_isCaller
set_option maxRecDepth 20000 in
theorem ggX2_setNumber_X2_in : GoodIn wsX2_setNumber wsX2_in := goodIn_r _ [10] (by decide +kernel) (by decide +kernel)
set_option maxRecDepth 20000 in
theorem gX2_setNumber_X2_in : GoodIn wsX2_setNumber (va_wsS RX2 62 yX2_in wsX2_in) := goodIn_app (goodIn_of _ (by decide +kernel)) ggX2_setNumber_X2_in
set_option maxRecDepth 20000 in
theorem ggX2_setNumber_X2_fails : GoodIn wsX2_setNumber wsX2_fails := goodIn_r _ [17, 1, 80, 81, 82, 83, 84, 85, 86, 87, 88, 89, 90, 91, 92, 93, 94, 95, 96, 97] (by decide +kernel) (by decide +kernel)
set_option maxRecDepth 20000 in
theorem gX2_setNumber_X2_fails : GoodIn wsX2_setNumber (wsV RX2 118 RX2 yX2_fails wsX2_fails) := goodIn_app (goodIn_of _ (by decide +kernel)) ggX2_setNumber_X2_fails
set_option maxRecDepth 20000 in
theorem ggX2_setNumber_X2_change : GoodIn wsX2_setNumber wsX2_change := goodIn_r _ [21, 22, 23, 24, 25, 26, 27, 28, 29, 6, 30, 31, 32, 33, 34, 35, 36, 37, 38, 39, 40, 41, 42, 43, 44, 45, 46, 47, 48, 49, 50, 51, 52, 53, 54, 55, 56, 57, 58, 59, 60, 61, 62, 63, 64, 65, 3, 2, 66, 67, 68, 69, 70, 71, 72, 73, 74, 75, 76, 77, 78, 79, 80, 81, 82, 83, 84, 85, 86, 87, 88, 89, 90, 91, 92, 93, 94, 95, 96, 97] (by decide +kernel) (by decide +kernel)
set_option maxRecDepth 20000 in
theorem gX2_setNumber_X2_change : GoodIn wsX2_setNumber (wsV RX2 121 RX2 yX2_change wsX2_change) := goodIn_app (goodIn_of _ (by decide +kernel)) ggX2_setNumber_X2_change
theorem dX2_setNumber_0 : decode cX2_setNumber 0 = .ok (.aload_n 0, 1) := by decide +kernel
theorem dX2_setNumber_1 : decode cX2_setNumber 1 = .ok (.iconst 0, 1) := by decide +kernel
theorem dX2_setNumber_2 : decode cX2_setNumber 2 = .ok (.putfield 58, 3) := by decide +kernel
theorem dX2_setNumber_5 : decode cX2_setNumber 5 = .ok (.iload_n 1, 1) := by decide +kernel
theorem dX2_setNumber_6 : decode cX2_setNumber 6 = .ok (.iload_n 2, 1) := by decide +kernel
theorem dX2_setNumber_7 : decode cX2_setNumber 7 = .ok (.invokestatic 115, 3) := by decide +kernel
theorem dX2_setNumber_10 : decode cX2_setNumber 10 = .ok (.ifCond .eq 14, 3) := by decide +kernel
theorem dX2_setNumber_13 : decode cX2_setNumber 13 = .ok (.iload_n 3, 1) := by decide +kernel
theorem dX2_setNumber_14 : decode cX2_setNumber 14 = .ok (.ldc 74, 2) := by decide +kernel
theorem dX2_setNumber_16 : decode cX2_setNumber 16 = .ok (.ldc 73, 2) := by decide +kernel
theorem dX2_setNumber_18 : decode cX2_setNumber 18 = .ok (.invokestatic 62, 3) := by decide +kernel
theorem dX2_setNumber_21 : decode cX2_setNumber 21 = .ok (.ifCond .ne 9, 3) := by decide +kernel
theorem dX2_setNumber_24 : decode cX2_setNumber 24 = .ok (.aload_n 0, 1) := by decide +kernel
theorem dX2_setNumber_25 : decode cX2_setNumber 25 = .ok (.iconst 1, 1) := by decide +kernel
theorem dX2_setNumber_26 : decode cX2_setNumber 26 = .ok (.invokevirtual 118, 3) := by decide +kernel
theorem dX2_setNumber_29 : decode cX2_setNumber 29 = .ok (.ireturn, 1) := by decide +kernel
theorem dX2_setNumber_30 : decode cX2_setNumber 30 = .ok (.aload_n 0, 1) := by decide +kernel
theorem dX2_setNumber_31 : decode cX2_setNumber 31 = .ok (.iload_n 1, 1) := by decide +kernel
theorem dX2_setNumber_32 : decode cX2_setNumber 32 = .ok (.iload_n 2, 1) := by decide +kernel
theorem dX2_setNumber_33 : decode cX2_setNumber 33 = .ok (.iconst 0, 1) := by decide +kernel
theorem dX2_setNumber_34 : decode cX2_setNumber 34 = .ok (.iconst 0, 1) := by decide +kernel
theorem dX2_setNumber_35 : decode cX2_setNumber 35 = .ok (.iconst 0, 1) := by decide +kernel
theorem dX2_setNumber_36 : decode cX2_setNumber 36 = .ok (.iload_n 3, 1) := by decide +kernel
theorem dX2_setNumber_37 : decode cX2_setNumber 37 = .ok (.invokevirtual 121, 3) := by decide +kernel
theorem dX2_setNumber_40 : decode cX2_setNumber 40 = .ok (.ireturn, 1) := by decide +kernel
set_option maxRecDepth 20000 in
theorem ggX2_setSum_X2_isCaller : GoodIn wsX2_setSum wsX2_isCaller := goodIn_r _ [5, 6, 7, 4, 8, 9, 10, 11] (by decide +kernel) (by decide +kernel)
set_option maxRecDepth 20000 in
theorem gX2_setSum_X2_isCaller : GoodIn wsX2_setSum (va_wsS RX2 115 yX2_isCaller wsX2_isCaller) := goodIn_app (goodIn_of _ (by decide +kernel)) ggX2_setSum_X2_isCaller
set_option maxRecDepth 20000 in
theorem ggX2_setSum_X2_isCell : GoodIn wsX2_setSum wsX2_isCell := goodIn_r _ [11, 6, 7, 4, 8] (by decide +kernel) (by decide +kernel)
set_option maxRecDepth 20000 in
theorem gX2_setSum_X2_isCell : GoodIn wsX2_setSum (va_wsS RX2 112 yX2_isCell wsX2_isCell) := goodIn_app (goodIn_of _ (by decide +kernel)) ggX2_setSum_X2_isCell
set_option maxRecDepth 20000 in
theorem ggX2_setSum_X2_in : GoodIn wsX2_setSum wsX2_in := goodIn_r _ [8] (by decide +kernel) (by decide +kernel)
set_option maxRecDepth 20000 in
theorem gX2_setSum_X2_in : GoodIn wsX2_setSum (va_wsS RX2 62 yX2_in wsX2_in) := goodIn_app (goodIn_of _ (by decide +kernel)) ggX2_setSum_X2_in
set_option maxRecDepth 20000 in
theorem ggX2_setSum_X2_fails : GoodIn wsX2_setSum wsX2_fails := goodIn_r _ [15, 1, 84, 85, 86, 87, 88, 89, 90, 91, 92, 93, 94, 95, 96, 97, 98, 99, 100, 101] (by decide +kernel) (by decide +kernel)
set_option maxRecDepth 20000 in
theorem gX2_setSum_X2_fails : GoodIn wsX2_setSum (wsV RX2 118 RX2 yX2_fails wsX2_fails) := goodIn_app (goodIn_of _ (by decide +kernel)) ggX2_setSum_X2_fails
set_option maxRecDepth 20000 in
theorem ggX2_setSum_X2_reaches : GoodIn wsX2_setSum wsX2_reaches := goodIn_r _ [19, 20, 21, 22, 23, 4, 24, 25, 26, 27, 28, 29, 30, 31, 84, 85, 86, 87, 88, 89, 90, 91, 92, 93, 94, 95, 96, 97, 98, 99, 100, 101] (by decide +kernel) (by decide +kernel)
set_option maxRecDepth 20000 in
theorem gX2_setSum_X2_reaches : GoodIn wsX2_setSum (wsV RX2 125 RX2 yX2_reaches wsX2_reaches) := goodIn_app (goodIn_of _ (by decide +kernel)) ggX2_setSum_X2_reaches
set_option maxRecDepth 20000 in
theorem ggX2_setSum_X2_change : GoodIn wsX2_setSum wsX2_change := goodIn_r _ [35, 25, 26, 31, 36, 37, 38, 39, 40, 4, 41, 42, 43, 44, 21, 22, 23, 24, 45, 46, 47, 48, 49, 50, 51, 52, 27, 28, 29, 30, 53, 54, 55, 56, 57, 58, 59, 60, 61, 62, 63, 64, 65, 66, 67, 68, 69, 70, 71, 72, 73, 74, 75, 76, 77, 78, 79, 20, 80, 81, 82, 83, 84, 85, 86, 87, 88, 89, 90, 91, 92, 93, 94, 95, 96, 97, 98, 99, 100, 101] (by decide +kernel) (by decide +kernel)
set_option maxRecDepth 20000 in
theorem gX2_setSum_X2_change : GoodIn wsX2_setSum (wsV RX2 121 RX2 yX2_change wsX2_change) := goodIn_app (goodIn_of _ (by decide +kernel)) ggX2_setSum_X2_change
theorem dX2_setSum_0 : decode cX2_setSum 0 = .ok (.aload_n 0, 1) := by decide +kernel
theorem dX2_setSum_1 : decode cX2_setSum 1 = .ok (.iconst 0, 1) := by decide +kernel
theorem dX2_setSum_2 : decode cX2_setSum 2 = .ok (.putfield 58, 3) := by decide +kernel
theorem dX2_setSum_5 : decode cX2_setSum 5 = .ok (.iload_n 1, 1) := by decide +kernel
theorem dX2_setSum_6 : decode cX2_setSum 6 = .ok (.iload_n 2, 1) := by decide +kernel
theorem dX2_setSum_7 : decode cX2_setSum 7 = .ok (.invokestatic 115, 3) := by decide +kernel
theorem dX2_setSum_10 : decode cX2_setSum 10 = .ok (.ifCond .eq 32, 3) := by decide +kernel
theorem dX2_setSum_13 : decode cX2_setSum 13 = .ok (.iload_n 3, 1) := by decide +kernel
theorem dX2_setSum_14 : decode cX2_setSum 14 = .ok (.invokestatic 112, 3) := by decide +kernel
theorem dX2_setSum_17 : decode cX2_setSum 17 = .ok (.ifCond .eq 25, 3) := by decide +kernel
theorem dX2_setSum_20 : decode cX2_setSum 20 = .ok (.iload 4, 2) := by decide +kernel
theorem dX2_setSum_22 : decode cX2_setSum 22 = .ok (.invokestatic 112, 3) := by decide +kernel
theorem dX2_setSum_25 : decode cX2_setSum 25 = .ok (.ifCond .eq 17, 3) := by decide +kernel
theorem dX2_setSum_28 : decode cX2_setSum 28 = .ok (.iload 5, 2) := by decide +kernel
theorem dX2_setSum_30 : decode cX2_setSum 30 = .ok (.sipush (-1000), 3) := by decide +kernel
theorem dX2_setSum_33 : decode cX2_setSum 33 = .ok (.sipush 1000, 3) := by decide +kernel
theorem dX2_setSum_36 : decode cX2_setSum 36 = .ok (.invokestatic 62, 3) := by decide +kernel
theorem dX2_setSum_39 : decode cX2_setSum 39 = .ok (.ifCond .ne 9, 3) := by decide +kernel
theorem dX2_setSum_42 : decode cX2_setSum 42 = .ok (.aload_n 0, 1) := by decide +kernel
theorem dX2_setSum_43 : decode cX2_setSum 43 = .ok (.iconst 1, 1) := by decide +kernel
theorem dX2_setSum_44 : decode cX2_setSum 44 = .ok (.invokevirtual 118, 3) := by decide +kernel
theorem dX2_setSum_47 : decode cX2_setSum 47 = .ok (.ireturn, 1) := by decide +kernel
theorem dX2_setSum_48 : decode cX2_setSum 48 = .ok (.aload_n 0, 1) := by decide +kernel
theorem dX2_setSum_49 : decode cX2_setSum 49 = .ok (.iload_n 3, 1) := by decide +kernel
theorem dX2_setSum_50 : decode cX2_setSum 50 = .ok (.iload_n 2, 1) := by decide +kernel
theorem dX2_setSum_51 : decode cX2_setSum 51 = .ok (.invokevirtual 125, 3) := by decide +kernel
theorem dX2_setSum_54 : decode cX2_setSum 54 = .ok (.ifCond .ne 13, 3) := by decide +kernel
theorem dX2_setSum_57 : decode cX2_setSum 57 = .ok (.aload_n 0, 1) := by decide +kernel
theorem dX2_setSum_58 : decode cX2_setSum 58 = .ok (.iload 4, 2) := by decide +kernel
theorem dX2_setSum_60 : decode cX2_setSum 60 = .ok (.iload_n 2, 1) := by decide +kernel
theorem dX2_setSum_61 : decode cX2_setSum 61 = .ok (.invokevirtual 125, 3) := by decide +kernel
theorem dX2_setSum_64 : decode cX2_setSum 64 = .ok (.ifCond .eq 9, 3) := by decide +kernel
theorem dX2_setSum_67 : decode cX2_setSum 67 = .ok (.aload_n 0, 1) := by decide +kernel
theorem dX2_setSum_68 : decode cX2_setSum 68 = .ok (.iconst 2, 1) := by decide +kernel
theorem dX2_setSum_69 : decode cX2_setSum 69 = .ok (.invokevirtual 118, 3) := by decide +kernel
theorem dX2_setSum_72 : decode cX2_setSum 72 = .ok (.ireturn, 1) := by decide +kernel
theorem dX2_setSum_73 : decode cX2_setSum 73 = .ok (.aload_n 0, 1) := by decide +kernel
theorem dX2_setSum_74 : decode cX2_setSum 74 = .ok (.iload_n 1, 1) := by decide +kernel
theorem dX2_setSum_75 : decode cX2_setSum 75 = .ok (.iload_n 2, 1) := by decide +kernel
theorem dX2_setSum_76 : decode cX2_setSum 76 = .ok (.iconst 1, 1) := by decide +kernel
theorem dX2_setSum_77 : decode cX2_setSum 77 = .ok (.iload_n 3, 1) := by decide +kernel
theorem dX2_setSum_78 : decode cX2_setSum 78 = .ok (.iload 4, 2) := by decide +kernel
theorem dX2_setSum_80 : decode cX2_setSum 80 = .ok (.iload 5, 2) := by decide +kernel
theorem dX2_setSum_82 : decode cX2_setSum 82 = .ok (.invokevirtual 121, 3) := by decide +kernel
theorem dX2_setSum_85 : decode cX2_setSum 85 = .ok (.ireturn, 1) := by decide +kernel
set_option maxRecDepth 20000 in
theorem ggX2_setGreater_X2_isCaller : GoodIn wsX2_setGreater wsX2_isCaller := goodIn_r _ [5, 6, 7, 4, 8, 9, 10, 11] (by decide +kernel) (by decide +kernel)
set_option maxRecDepth 20000 in
theorem gX2_setGreater_X2_isCaller : GoodIn wsX2_setGreater (va_wsS RX2 115 yX2_isCaller wsX2_isCaller) := goodIn_app (goodIn_of _ (by decide +kernel)) ggX2_setGreater_X2_isCaller
set_option maxRecDepth 20000 in
theorem ggX2_setGreater_X2_isCell : GoodIn wsX2_setGreater wsX2_isCell := goodIn_r _ [11, 6, 7, 4, 8] (by decide +kernel) (by decide +kernel)
set_option maxRecDepth 20000 in
theorem gX2_setGreater_X2_isCell : GoodIn wsX2_setGreater (va_wsS RX2 112 yX2_isCell wsX2_isCell) := goodIn_app (goodIn_of _ (by decide +kernel)) ggX2_setGreater_X2_isCell
set_option maxRecDepth 20000 in
theorem ggX2_setGreater_X2_fails : GoodIn wsX2_setGreater wsX2_fails := goodIn_r _ [15, 1, 84, 85, 86, 87, 88, 89, 90, 91, 92, 93, 94, 95, 96, 97, 98, 99, 100, 101] (by decide +kernel) (by decide +kernel)
set_option maxRecDepth 20000 in
theorem gX2_setGreater_X2_fails : GoodIn wsX2_setGreater (wsV RX2 118 RX2 yX2_fails wsX2_fails) := goodIn_app (goodIn_of _ (by decide +kernel)) ggX2_setGreater_X2_fails
set_option maxRecDepth 20000 in
theorem ggX2_setGreater_X2_reaches : GoodIn wsX2_setGreater wsX2_reaches := goodIn_r _ [19, 20, 21, 22, 23, 4, 24, 25, 26, 27, 28, 29, 30, 31, 84, 85, 86, 87, 88, 89, 90, 91, 92, 93, 94, 95, 96, 97, 98, 99, 100, 101] (by decide +kernel) (by decide +kernel)
set_option maxRecDepth 20000 in
theorem gX2_setGreater_X2_reaches : GoodIn wsX2_setGreater (wsV RX2 125 RX2 yX2_reaches wsX2_reaches) := goodIn_app (goodIn_of _ (by decide +kernel)) ggX2_setGreater_X2_reaches
set_option maxRecDepth 20000 in
theorem ggX2_setGreater_X2_change : GoodIn wsX2_setGreater wsX2_change := goodIn_r _ [35, 25, 26, 31, 36, 37, 38, 39, 40, 4, 41, 42, 43, 44, 21, 22, 23, 24, 45, 46, 47, 48, 49, 50, 51, 52, 27, 28, 29, 30, 53, 54, 55, 56, 57, 58, 59, 60, 61, 62, 63, 64, 65, 66, 67, 68, 69, 70, 71, 72, 73, 74, 75, 76, 77, 78, 79, 20, 80, 81, 82, 83, 84, 85, 86, 87, 88, 89, 90, 91, 92, 93, 94, 95, 96, 97, 98, 99, 100, 101] (by decide +kernel) (by decide +kernel)
set_option maxRecDepth 20000 in
theorem gX2_setGreater_X2_change : GoodIn wsX2_setGreater (wsV RX2 121 RX2 yX2_change wsX2_change) := goodIn_app (goodIn_of _ (by decide +kernel)) ggX2_setGreater_X2_change
theorem dX2_setGreater_0 : decode cX2_setGreater 0 = .ok (.aload_n 0, 1) := by decide +kernel
theorem dX2_setGreater_1 : decode cX2_setGreater 1 = .ok (.iconst 0, 1) := by decide +kernel
theorem dX2_setGreater_2 : decode cX2_setGreater 2 = .ok (.putfield 58, 3) := by decide +kernel
theorem dX2_setGreater_5 : decode cX2_setGreater 5 = .ok (.iload_n 1, 1) := by decide +kernel
theorem dX2_setGreater_6 : decode cX2_setGreater 6 = .ok (.iload_n 2, 1) := by decide +kernel
theorem dX2_setGreater_7 : decode cX2_setGreater 7 = .ok (.invokestatic 115, 3) := by decide +kernel
theorem dX2_setGreater_10 : decode cX2_setGreater 10 = .ok (.ifCond .eq 18, 3) := by decide +kernel
theorem dX2_setGreater_13 : decode cX2_setGreater 13 = .ok (.iload_n 3, 1) := by decide +kernel
theorem dX2_setGreater_14 : decode cX2_setGreater 14 = .ok (.invokestatic 112, 3) := by decide +kernel
theorem dX2_setGreater_17 : decode cX2_setGreater 17 = .ok (.ifCond .eq 11, 3) := by decide +kernel
theorem dX2_setGreater_20 : decode cX2_setGreater 20 = .ok (.iload 4, 2) := by decide +kernel
theorem dX2_setGreater_22 : decode cX2_setGreater 22 = .ok (.invokestatic 112, 3) := by decide +kernel
theorem dX2_setGreater_25 : decode cX2_setGreater 25 = .ok (.ifCond .ne 9, 3) := by decide +kernel
theorem dX2_setGreater_28 : decode cX2_setGreater 28 = .ok (.aload_n 0, 1) := by decide +kernel
theorem dX2_setGreater_29 : decode cX2_setGreater 29 = .ok (.iconst 1, 1) := by decide +kernel
theorem dX2_setGreater_30 : decode cX2_setGreater 30 = .ok (.invokevirtual 118, 3) := by decide +kernel
theorem dX2_setGreater_33 : decode cX2_setGreater 33 = .ok (.ireturn, 1) := by decide +kernel
theorem dX2_setGreater_34 : decode cX2_setGreater 34 = .ok (.aload_n 0, 1) := by decide +kernel
theorem dX2_setGreater_35 : decode cX2_setGreater 35 = .ok (.iload_n 3, 1) := by decide +kernel
theorem dX2_setGreater_36 : decode cX2_setGreater 36 = .ok (.iload_n 2, 1) := by decide +kernel
theorem dX2_setGreater_37 : decode cX2_setGreater 37 = .ok (.invokevirtual 125, 3) := by decide +kernel
theorem dX2_setGreater_40 : decode cX2_setGreater 40 = .ok (.ifCond .ne 13, 3) := by decide +kernel
theorem dX2_setGreater_43 : decode cX2_setGreater 43 = .ok (.aload_n 0, 1) := by decide +kernel
theorem dX2_setGreater_44 : decode cX2_setGreater 44 = .ok (.iload 4, 2) := by decide +kernel
theorem dX2_setGreater_46 : decode cX2_setGreater 46 = .ok (.iload_n 2, 1) := by decide +kernel
theorem dX2_setGreater_47 : decode cX2_setGreater 47 = .ok (.invokevirtual 125, 3) := by decide +kernel
theorem dX2_setGreater_50 : decode cX2_setGreater 50 = .ok (.ifCond .eq 9, 3) := by decide +kernel
theorem dX2_setGreater_53 : decode cX2_setGreater 53 = .ok (.aload_n 0, 1) := by decide +kernel
theorem dX2_setGreater_54 : decode cX2_setGreater 54 = .ok (.iconst 2, 1) := by decide +kernel
theorem dX2_setGreater_55 : decode cX2_setGreater 55 = .ok (.invokevirtual 118, 3) := by decide +kernel
theorem dX2_setGreater_58 : decode cX2_setGreater 58 = .ok (.ireturn, 1) := by decide +kernel
theorem dX2_setGreater_59 : decode cX2_setGreater 59 = .ok (.aload_n 0, 1) := by decide +kernel
theorem dX2_setGreater_60 : decode cX2_setGreater 60 = .ok (.iload_n 1, 1) := by decide +kernel
theorem dX2_setGreater_61 : decode cX2_setGreater 61 = .ok (.iload_n 2, 1) := by decide +kernel
theorem dX2_setGreater_62 : decode cX2_setGreater 62 = .ok (.iconst 2, 1) := by decide +kernel
theorem dX2_setGreater_63 : decode cX2_setGreater 63 = .ok (.iload_n 3, 1) := by decide +kernel
theorem dX2_setGreater_64 : decode cX2_setGreater 64 = .ok (.iload 4, 2) := by decide +kernel
theorem dX2_setGreater_66 : decode cX2_setGreater 66 = .ok (.iconst 0, 1) := by decide +kernel
theorem dX2_setGreater_67 : decode cX2_setGreater 67 = .ok (.invokevirtual 121, 3) := by decide +kernel
theorem dX2_setGreater_70 : decode cX2_setGreater 70 = .ok (.ireturn, 1) := by decide +kernel
set_option maxRecDepth 20000 in
theorem ggX2_setTimes_X2_isCaller : GoodIn wsX2_setTimes wsX2_isCaller := goodIn_r _ [5, 6, 7, 4, 8, 9, 10, 11] (by decide +kernel) (by decide +kernel)
set_option maxRecDepth 20000 in
theorem gX2_setTimes_X2_isCaller : GoodIn wsX2_setTimes (va_wsS RX2 115 yX2_isCaller wsX2_isCaller) := goodIn_app (goodIn_of _ (by decide +kernel)) ggX2_setTimes_X2_isCaller
set_option maxRecDepth 20000 in
theorem ggX2_setTimes_X2_isCell : GoodIn wsX2_setTimes wsX2_isCell := goodIn_r _ [11, 6, 7, 4, 8] (by decide +kernel) (by decide +kernel)
set_option maxRecDepth 20000 in
theorem gX2_setTimes_X2_isCell : GoodIn wsX2_setTimes (va_wsS RX2 112 yX2_isCell wsX2_isCell) := goodIn_app (goodIn_of _ (by decide +kernel)) ggX2_setTimes_X2_isCell
set_option maxRecDepth 20000 in
theorem ggX2_setTimes_X2_in : GoodIn wsX2_setTimes wsX2_in := goodIn_r _ [8] (by decide +kernel) (by decide +kernel)
set_option maxRecDepth 20000 in
theorem gX2_setTimes_X2_in : GoodIn wsX2_setTimes (va_wsS RX2 62 yX2_in wsX2_in) := goodIn_app (goodIn_of _ (by decide +kernel)) ggX2_setTimes_X2_in
set_option maxRecDepth 20000 in
theorem ggX2_setTimes_X2_fails : GoodIn wsX2_setTimes wsX2_fails := goodIn_r _ [15, 1, 84, 85, 86, 87, 88, 89, 90, 91, 92, 93, 94, 95, 96, 97, 98, 99, 100, 101] (by decide +kernel) (by decide +kernel)
set_option maxRecDepth 20000 in
theorem gX2_setTimes_X2_fails : GoodIn wsX2_setTimes (wsV RX2 118 RX2 yX2_fails wsX2_fails) := goodIn_app (goodIn_of _ (by decide +kernel)) ggX2_setTimes_X2_fails
set_option maxRecDepth 20000 in
theorem ggX2_setTimes_X2_reaches : GoodIn wsX2_setTimes wsX2_reaches := goodIn_r _ [19, 20, 21, 22, 23, 4, 24, 25, 26, 27, 28, 29, 30, 31, 84, 85, 86, 87, 88, 89, 90, 91, 92, 93, 94, 95, 96, 97, 98, 99, 100, 101] (by decide +kernel) (by decide +kernel)
set_option maxRecDepth 20000 in
theorem gX2_setTimes_X2_reaches : GoodIn wsX2_setTimes (wsV RX2 125 RX2 yX2_reaches wsX2_reaches) := goodIn_app (goodIn_of _ (by decide +kernel)) ggX2_setTimes_X2_reaches
set_option maxRecDepth 20000 in
theorem ggX2_setTimes_X2_change : GoodIn wsX2_setTimes wsX2_change := goodIn_r _ [35, 25, 26, 31, 36, 37, 38, 39, 40, 4, 41, 42, 43, 44, 21, 22, 23, 24, 45, 46, 47, 48, 49, 50, 51, 52, 27, 28, 29, 30, 53, 54, 55, 56, 57, 58, 59, 60, 61, 62, 63, 64, 65, 66, 67, 68, 69, 70, 71, 72, 73, 74, 75, 76, 77, 78, 79, 20, 80, 81, 82, 83, 84, 85, 86, 87, 88, 89, 90, 91, 92, 93, 94, 95, 96, 97, 98, 99, 100, 101] (by decide +kernel) (by decide +kernel)
set_option maxRecDepth 20000 in
theorem gX2_setTimes_X2_change : GoodIn wsX2_setTimes (wsV RX2 121 RX2 yX2_change wsX2_change) := goodIn_app (goodIn_of _ (by decide +kernel)) ggX2_setTimes_X2_change
theorem dX2_setTimes_0 : decode cX2_setTimes 0 = .ok (.aload_n 0, 1) := by decide +kernel
theorem dX2_setTimes_1 : decode cX2_setTimes 1 = .ok (.iconst 0, 1) := by decide +kernel
theorem dX2_setTimes_2 : decode cX2_setTimes 2 = .ok (.putfield 58, 3) := by decide +kernel
theorem dX2_setTimes_5 : decode cX2_setTimes 5 = .ok (.iload_n 1, 1) := by decide +kernel
theorem dX2_setTimes_6 : decode cX2_setTimes 6 = .ok (.iload_n 2, 1) := by decide +kernel
theorem dX2_setTimes_7 : decode cX2_setTimes 7 = .ok (.invokestatic 115, 3) := by decide +kernel
theorem dX2_setTimes_10 : decode cX2_setTimes 10 = .ok (.ifCond .eq 22, 3) := by decide +kernel
theorem dX2_setTimes_13 : decode cX2_setTimes 13 = .ok (.iload_n 3, 1) := by decide +kernel
theorem dX2_setTimes_14 : decode cX2_setTimes 14 = .ok (.invokestatic 112, 3) := by decide +kernel
theorem dX2_setTimes_17 : decode cX2_setTimes 17 = .ok (.ifCond .eq 15, 3) := by decide +kernel
theorem dX2_setTimes_20 : decode cX2_setTimes 20 = .ok (.iload 4, 2) := by decide +kernel
theorem dX2_setTimes_22 : decode cX2_setTimes 22 = .ok (.bipush (-100), 2) := by decide +kernel
theorem dX2_setTimes_24 : decode cX2_setTimes 24 = .ok (.bipush 100, 2) := by decide +kernel
theorem dX2_setTimes_26 : decode cX2_setTimes 26 = .ok (.invokestatic 62, 3) := by decide +kernel
theorem dX2_setTimes_29 : decode cX2_setTimes 29 = .ok (.ifCond .ne 9, 3) := by decide +kernel
theorem dX2_setTimes_32 : decode cX2_setTimes 32 = .ok (.aload_n 0, 1) := by decide +kernel
theorem dX2_setTimes_33 : decode cX2_setTimes 33 = .ok (.iconst 1, 1) := by decide +kernel
theorem dX2_setTimes_34 : decode cX2_setTimes 34 = .ok (.invokevirtual 118, 3) := by decide +kernel
theorem dX2_setTimes_37 : decode cX2_setTimes 37 = .ok (.ireturn, 1) := by decide +kernel
theorem dX2_setTimes_38 : decode cX2_setTimes 38 = .ok (.aload_n 0, 1) := by decide +kernel
theorem dX2_setTimes_39 : decode cX2_setTimes 39 = .ok (.iload_n 3, 1) := by decide +kernel
theorem dX2_setTimes_40 : decode cX2_setTimes 40 = .ok (.iload_n 2, 1) := by decide +kernel
theorem dX2_setTimes_41 : decode cX2_setTimes 41 = .ok (.invokevirtual 125, 3) := by decide +kernel
theorem dX2_setTimes_44 : decode cX2_setTimes 44 = .ok (.ifCond .eq 9, 3) := by decide +kernel
theorem dX2_setTimes_47 : decode cX2_setTimes 47 = .ok (.aload_n 0, 1) := by decide +kernel
theorem dX2_setTimes_48 : decode cX2_setTimes 48 = .ok (.iconst 2, 1) := by decide +kernel
theorem dX2_setTimes_49 : decode cX2_setTimes 49 = .ok (.invokevirtual 118, 3) := by decide +kernel
theorem dX2_setTimes_52 : decode cX2_setTimes 52 = .ok (.ireturn, 1) := by decide +kernel
theorem dX2_setTimes_53 : decode cX2_setTimes 53 = .ok (.aload_n 0, 1) := by decide +kernel
theorem dX2_setTimes_54 : decode cX2_setTimes 54 = .ok (.iload_n 1, 1) := by decide +kernel
theorem dX2_setTimes_55 : decode cX2_setTimes 55 = .ok (.iload_n 2, 1) := by decide +kernel
theorem dX2_setTimes_56 : decode cX2_setTimes 56 = .ok (.iconst 3, 1) := by decide +kernel
theorem dX2_setTimes_57 : decode cX2_setTimes 57 = .ok (.iload_n 3, 1) := by decide +kernel
theorem dX2_setTimes_58 : decode cX2_setTimes 58 = .ok (.iload_n 3, 1) := by decide +kernel
theorem dX2_setTimes_59 : decode cX2_setTimes 59 = .ok (.iload 4, 2) := by decide +kernel
theorem dX2_setTimes_61 : decode cX2_setTimes 61 = .ok (.invokevirtual 121, 3) := by decide +kernel
theorem dX2_setTimes_64 : decode cX2_setTimes 64 = .ok (.ireturn, 1) := by decide +kernel
set_option maxRecDepth 20000 in
theorem ggX2_refresh_X2_in : GoodIn wsX2_refresh wsX2_in := goodIn_r _ [6] (by decide +kernel) (by decide +kernel)
set_option maxRecDepth 20000 in
theorem gX2_refresh_X2_in : GoodIn wsX2_refresh (va_wsS RX2 62 yX2_in wsX2_in) := goodIn_app (goodIn_of _ (by decide +kernel)) ggX2_refresh_X2_in
set_option maxRecDepth 20000 in
theorem ggX2_refresh_X2_fails : GoodIn wsX2_refresh wsX2_fails := goodIn_r _ [10, 1, 70, 71, 72, 73, 74, 75, 76, 77, 78, 79, 80, 81, 82, 83, 84, 85, 86, 87] (by decide +kernel) (by decide +kernel)
set_option maxRecDepth 20000 in
theorem gX2_refresh_X2_fails : GoodIn wsX2_refresh (wsV RX2 118 RX2 yX2_fails wsX2_fails) := goodIn_app (goodIn_of _ (by decide +kernel)) ggX2_refresh_X2_fails
set_option maxRecDepth 20000 in
theorem ggX2_refresh_X2_goThrough : GoodIn wsX2_refresh wsX2_goThrough := goodIn_r _ [14, 15, 16, 17, 18, 19, 5, 20, 21, 22, 23, 24, 25, 26, 27, 28, 29, 30, 31, 32, 33, 34, 35, 36, 2, 37, 38, 39, 40, 41, 42, 43, 44, 45, 46, 47, 48, 49, 50, 51, 52, 53, 54, 55, 56, 57, 58, 59, 60, 61, 62, 63, 64, 65, 66, 67, 68, 69, 70, 71, 72, 73, 74, 75, 76, 77, 78, 79, 80, 81, 82, 83, 84, 85, 86, 87] (by decide +kernel) (by decide +kernel)
set_option maxRecDepth 20000 in
theorem gX2_refresh_X2_goThrough : GoodIn wsX2_refresh (wsV RX2 108 RX2 yX2_goThrough wsX2_goThrough) := goodIn_app (goodIn_of _ (by decide +kernel)) ggX2_refresh_X2_goThrough
theorem dX2_refresh_0 : decode cX2_refresh 0 = .ok (.aload_n 0, 1) := by decide +kernel
theorem dX2_refresh_1 : decode cX2_refresh 1 = .ok (.iconst 0, 1) := by decide +kernel
theorem dX2_refresh_2 : decode cX2_refresh 2 = .ok (.putfield 58, 3) := by decide +kernel
theorem dX2_refresh_5 : decode cX2_refresh 5 = .ok (.iload_n 1, 1) := by decide +kernel
theorem dX2_refresh_6 : decode cX2_refresh 6 = .ok (.iconst 0, 1) := by decide +kernel
theorem dX2_refresh_7 : decode cX2_refresh 7 = .ok (.iconst 4, 1) := by decide +kernel
theorem dX2_refresh_8 : decode cX2_refresh 8 = .ok (.invokestatic 62, 3) := by decide +kernel
theorem dX2_refresh_11 : decode cX2_refresh 11 = .ok (.ifCond .ne 9, 3) := by decide +kernel
theorem dX2_refresh_14 : decode cX2_refresh 14 = .ok (.aload_n 0, 1) := by decide +kernel
theorem dX2_refresh_15 : decode cX2_refresh 15 = .ok (.iconst 1, 1) := by decide +kernel
theorem dX2_refresh_16 : decode cX2_refresh 16 = .ok (.invokevirtual 118, 3) := by decide +kernel
theorem dX2_refresh_19 : decode cX2_refresh 19 = .ok (.ireturn, 1) := by decide +kernel
theorem dX2_refresh_20 : decode cX2_refresh 20 = .ok (.iconst 0, 1) := by decide +kernel
theorem dX2_refresh_21 : decode cX2_refresh 21 = .ok (.istore_n 2, 1) := by decide +kernel
theorem dX2_refresh_22 : decode cX2_refresh 22 = .ok (.iload_n 2, 1) := by decide +kernel
theorem dX2_refresh_23 : decode cX2_refresh 23 = .ok (.bipush 24, 2) := by decide +kernel
theorem dX2_refresh_25 : decode cX2_refresh 25 = .ok (.if_icmp .ge 16, 3) := by decide +kernel
theorem dX2_refresh_28 : decode cX2_refresh 28 = .ok (.aload_n 0, 1) := by decide +kernel
theorem dX2_refresh_29 : decode cX2_refresh 29 = .ok (.getfield 28, 3) := by decide +kernel
theorem dX2_refresh_32 : decode cX2_refresh 32 = .ok (.iload_n 2, 1) := by decide +kernel
theorem dX2_refresh_33 : decode cX2_refresh 33 = .ok (.iconst 0, 1) := by decide +kernel
theorem dX2_refresh_34 : decode cX2_refresh 34 = .ok (.iastore, 1) := by decide +kernel
theorem dX2_refresh_35 : decode cX2_refresh 35 = .ok (.iinc 2 1, 3) := by decide +kernel
theorem dX2_refresh_38 : decode cX2_refresh 38 = .ok (.goto (-16), 3) := by decide +kernel
theorem dX2_refresh_41 : decode cX2_refresh 41 = .ok (.aload_n 0, 1) := by decide +kernel
theorem dX2_refresh_42 : decode cX2_refresh 42 = .ok (.iload_n 1, 1) := by decide +kernel
theorem dX2_refresh_43 : decode cX2_refresh 43 = .ok (.iconst 1, 1) := by decide +kernel
theorem dX2_refresh_44 : decode cX2_refresh 44 = .ok (.invokevirtual 108, 3) := by decide +kernel
theorem dX2_refresh_47 : decode cX2_refresh 47 = .ok (.ireturn, 1) := by decide +kernel
set_option maxRecDepth 20000 in
theorem ggX2_setPrice_X2_isSheet : GoodIn wsX2_setPrice wsX2_isSheet := goodIn_r _ [6, 7, 8, 5, 9] (by decide +kernel) (by decide +kernel)
set_option maxRecDepth 20000 in
theorem gX2_setPrice_X2_isSheet : GoodIn wsX2_setPrice (va_wsS RX2 128 yX2_isSheet wsX2_isSheet) := goodIn_app (goodIn_of _ (by decide +kernel)) ggX2_setPrice_X2_isSheet
set_option maxRecDepth 20000 in
theorem ggX2_setPrice_X2_in : GoodIn wsX2_setPrice wsX2_in := goodIn_r _ [9] (by decide +kernel) (by decide +kernel)
set_option maxRecDepth 20000 in
theorem gX2_setPrice_X2_in : GoodIn wsX2_setPrice (va_wsS RX2 62 yX2_in wsX2_in) := goodIn_app (goodIn_of _ (by decide +kernel)) ggX2_setPrice_X2_in
set_option maxRecDepth 20000 in
theorem ggX2_setPrice_X2_fails : GoodIn wsX2_setPrice wsX2_fails := goodIn_r _ [13, 1, 14, 15, 16, 17, 18, 19, 20, 21, 22, 23, 24, 25, 26, 27, 28, 29, 30, 31] (by decide +kernel) (by decide +kernel)
set_option maxRecDepth 20000 in
theorem gX2_setPrice_X2_fails : GoodIn wsX2_setPrice (wsV RX2 118 RX2 yX2_fails wsX2_fails) := goodIn_app (goodIn_of _ (by decide +kernel)) ggX2_setPrice_X2_fails
theorem dX2_setPrice_0 : decode cX2_setPrice 0 = .ok (.aload_n 0, 1) := by decide +kernel
theorem dX2_setPrice_1 : decode cX2_setPrice 1 = .ok (.iconst 0, 1) := by decide +kernel
theorem dX2_setPrice_2 : decode cX2_setPrice 2 = .ok (.putfield 58, 3) := by decide +kernel
theorem dX2_setPrice_5 : decode cX2_setPrice 5 = .ok (.iload_n 1, 1) := by decide +kernel
theorem dX2_setPrice_6 : decode cX2_setPrice 6 = .ok (.invokestatic 128, 3) := by decide +kernel
theorem dX2_setPrice_9 : decode cX2_setPrice 9 = .ok (.ifCond .eq 13, 3) := by decide +kernel
theorem dX2_setPrice_12 : decode cX2_setPrice 12 = .ok (.iload_n 2, 1) := by decide +kernel
theorem dX2_setPrice_13 : decode cX2_setPrice 13 = .ok (.iconst 0, 1) := by decide +kernel
theorem dX2_setPrice_14 : decode cX2_setPrice 14 = .ok (.bipush 100, 2) := by decide +kernel
theorem dX2_setPrice_16 : decode cX2_setPrice 16 = .ok (.invokestatic 62, 3) := by decide +kernel
theorem dX2_setPrice_19 : decode cX2_setPrice 19 = .ok (.ifCond .ne 9, 3) := by decide +kernel
theorem dX2_setPrice_22 : decode cX2_setPrice 22 = .ok (.aload_n 0, 1) := by decide +kernel
theorem dX2_setPrice_23 : decode cX2_setPrice 23 = .ok (.iconst 1, 1) := by decide +kernel
theorem dX2_setPrice_24 : decode cX2_setPrice 24 = .ok (.invokevirtual 118, 3) := by decide +kernel
theorem dX2_setPrice_27 : decode cX2_setPrice 27 = .ok (.ireturn, 1) := by decide +kernel
theorem dX2_setPrice_28 : decode cX2_setPrice 28 = .ok (.aload_n 0, 1) := by decide +kernel
theorem dX2_setPrice_29 : decode cX2_setPrice 29 = .ok (.getfield 40, 3) := by decide +kernel
theorem dX2_setPrice_32 : decode cX2_setPrice 32 = .ok (.iload_n 1, 1) := by decide +kernel
theorem dX2_setPrice_33 : decode cX2_setPrice 33 = .ok (.iaload, 1) := by decide +kernel
theorem dX2_setPrice_34 : decode cX2_setPrice 34 = .ok (.istore_n 3, 1) := by decide +kernel
theorem dX2_setPrice_35 : decode cX2_setPrice 35 = .ok (.aload_n 0, 1) := by decide +kernel
theorem dX2_setPrice_36 : decode cX2_setPrice 36 = .ok (.getfield 40, 3) := by decide +kernel
theorem dX2_setPrice_39 : decode cX2_setPrice 39 = .ok (.iload_n 1, 1) := by decide +kernel
theorem dX2_setPrice_40 : decode cX2_setPrice 40 = .ok (.iload_n 2, 1) := by decide +kernel
theorem dX2_setPrice_41 : decode cX2_setPrice 41 = .ok (.iastore, 1) := by decide +kernel
theorem dX2_setPrice_42 : decode cX2_setPrice 42 = .ok (.iload_n 3, 1) := by decide +kernel
theorem dX2_setPrice_43 : decode cX2_setPrice 43 = .ok (.ireturn, 1) := by decide +kernel
set_option maxRecDepth 20000 in
theorem ggX2_grant_X2_isSheet : GoodIn wsX2_grant wsX2_isSheet := goodIn_r _ [6, 7, 8, 5, 9] (by decide +kernel) (by decide +kernel)
set_option maxRecDepth 20000 in
theorem gX2_grant_X2_isSheet : GoodIn wsX2_grant (va_wsS RX2 128 yX2_isSheet wsX2_isSheet) := goodIn_app (goodIn_of _ (by decide +kernel)) ggX2_grant_X2_isSheet
set_option maxRecDepth 20000 in
theorem ggX2_grant_X2_in : GoodIn wsX2_grant wsX2_in := goodIn_r _ [9] (by decide +kernel) (by decide +kernel)
set_option maxRecDepth 20000 in
theorem gX2_grant_X2_in : GoodIn wsX2_grant (va_wsS RX2 62 yX2_in wsX2_in) := goodIn_app (goodIn_of _ (by decide +kernel)) ggX2_grant_X2_in
set_option maxRecDepth 20000 in
theorem ggX2_grant_X2_fails : GoodIn wsX2_grant wsX2_fails := goodIn_r _ [13, 1, 14, 15, 16, 17, 18, 19, 20, 21, 22, 23, 24, 25, 26, 27, 28, 29, 30, 31] (by decide +kernel) (by decide +kernel)
set_option maxRecDepth 20000 in
theorem gX2_grant_X2_fails : GoodIn wsX2_grant (wsV RX2 118 RX2 yX2_fails wsX2_fails) := goodIn_app (goodIn_of _ (by decide +kernel)) ggX2_grant_X2_fails
theorem dX2_grant_0 : decode cX2_grant 0 = .ok (.aload_n 0, 1) := by decide +kernel
theorem dX2_grant_1 : decode cX2_grant 1 = .ok (.iconst 0, 1) := by decide +kernel
theorem dX2_grant_2 : decode cX2_grant 2 = .ok (.putfield 58, 3) := by decide +kernel
theorem dX2_grant_5 : decode cX2_grant 5 = .ok (.iload_n 1, 1) := by decide +kernel
theorem dX2_grant_6 : decode cX2_grant 6 = .ok (.invokestatic 128, 3) := by decide +kernel
theorem dX2_grant_9 : decode cX2_grant 9 = .ok (.ifCond .eq 14, 3) := by decide +kernel
theorem dX2_grant_12 : decode cX2_grant 12 = .ok (.iload_n 2, 1) := by decide +kernel
theorem dX2_grant_13 : decode cX2_grant 13 = .ok (.iconst 1, 1) := by decide +kernel
theorem dX2_grant_14 : decode cX2_grant 14 = .ok (.sipush 10000, 3) := by decide +kernel
theorem dX2_grant_17 : decode cX2_grant 17 = .ok (.invokestatic 62, 3) := by decide +kernel
theorem dX2_grant_20 : decode cX2_grant 20 = .ok (.ifCond .ne 9, 3) := by decide +kernel
theorem dX2_grant_23 : decode cX2_grant 23 = .ok (.aload_n 0, 1) := by decide +kernel
theorem dX2_grant_24 : decode cX2_grant 24 = .ok (.iconst 1, 1) := by decide +kernel
theorem dX2_grant_25 : decode cX2_grant 25 = .ok (.invokevirtual 118, 3) := by decide +kernel
theorem dX2_grant_28 : decode cX2_grant 28 = .ok (.ireturn, 1) := by decide +kernel
theorem dX2_grant_29 : decode cX2_grant 29 = .ok (.aload_n 0, 1) := by decide +kernel
theorem dX2_grant_30 : decode cX2_grant 30 = .ok (.getfield 43, 3) := by decide +kernel
theorem dX2_grant_33 : decode cX2_grant 33 = .ok (.iload_n 1, 1) := by decide +kernel
theorem dX2_grant_34 : decode cX2_grant 34 = .ok (.dup2, 1) := by decide +kernel
theorem dX2_grant_35 : decode cX2_grant 35 = .ok (.iaload, 1) := by decide +kernel
theorem dX2_grant_36 : decode cX2_grant 36 = .ok (.iload_n 2, 1) := by decide +kernel
theorem dX2_grant_37 : decode cX2_grant 37 = .ok (.iadd, 1) := by decide +kernel
theorem dX2_grant_38 : decode cX2_grant 38 = .ok (.iastore, 1) := by decide +kernel
theorem dX2_grant_39 : decode cX2_grant 39 = .ok (.aload_n 0, 1) := by decide +kernel
theorem dX2_grant_40 : decode cX2_grant 40 = .ok (.getfield 43, 3) := by decide +kernel
theorem dX2_grant_43 : decode cX2_grant 43 = .ok (.iload_n 1, 1) := by decide +kernel
theorem dX2_grant_44 : decode cX2_grant 44 = .ok (.iaload, 1) := by decide +kernel
theorem dX2_grant_45 : decode cX2_grant 45 = .ok (.ireturn, 1) := by decide +kernel
set_option maxRecDepth 20000 in
theorem ggX2_budget_X2_isSheet : GoodIn wsX2_budget wsX2_isSheet := goodIn_r _ [6, 7, 8, 5, 9] (by decide +kernel) (by decide +kernel)
set_option maxRecDepth 20000 in
theorem gX2_budget_X2_isSheet : GoodIn wsX2_budget (va_wsS RX2 128 yX2_isSheet wsX2_isSheet) := goodIn_app (goodIn_of _ (by decide +kernel)) ggX2_budget_X2_isSheet
set_option maxRecDepth 20000 in
theorem ggX2_budget_X2_fails : GoodIn wsX2_budget wsX2_fails := goodIn_r _ [13, 1, 14, 15, 16, 17, 18, 19, 20, 21, 22, 23, 24, 25, 26, 27, 28, 29, 30, 31] (by decide +kernel) (by decide +kernel)
set_option maxRecDepth 20000 in
theorem gX2_budget_X2_fails : GoodIn wsX2_budget (wsV RX2 118 RX2 yX2_fails wsX2_fails) := goodIn_app (goodIn_of _ (by decide +kernel)) ggX2_budget_X2_fails
theorem dX2_budget_0 : decode cX2_budget 0 = .ok (.aload_n 0, 1) := by decide +kernel
theorem dX2_budget_1 : decode cX2_budget 1 = .ok (.iconst 0, 1) := by decide +kernel
theorem dX2_budget_2 : decode cX2_budget 2 = .ok (.putfield 58, 3) := by decide +kernel
theorem dX2_budget_5 : decode cX2_budget 5 = .ok (.iload_n 1, 1) := by decide +kernel
theorem dX2_budget_6 : decode cX2_budget 6 = .ok (.invokestatic 128, 3) := by decide +kernel
theorem dX2_budget_9 : decode cX2_budget 9 = .ok (.ifCond .eq 12, 3) := by decide +kernel
theorem dX2_budget_12 : decode cX2_budget 12 = .ok (.aload_n 0, 1) := by decide +kernel
theorem dX2_budget_13 : decode cX2_budget 13 = .ok (.getfield 43, 3) := by decide +kernel
theorem dX2_budget_16 : decode cX2_budget 16 = .ok (.iload_n 1, 1) := by decide +kernel
theorem dX2_budget_17 : decode cX2_budget 17 = .ok (.iaload, 1) := by decide +kernel
theorem dX2_budget_18 : decode cX2_budget 18 = .ok (.goto 8, 3) := by decide +kernel
theorem dX2_budget_21 : decode cX2_budget 21 = .ok (.aload_n 0, 1) := by decide +kernel
theorem dX2_budget_22 : decode cX2_budget 22 = .ok (.iconst 1, 1) := by decide +kernel
theorem dX2_budget_23 : decode cX2_budget 23 = .ok (.invokevirtual 118, 3) := by decide +kernel
theorem dX2_budget_26 : decode cX2_budget 26 = .ok (.ireturn, 1) := by decide +kernel
set_option maxRecDepth 20000 in
theorem ggX2_earned_X2_isSheet : GoodIn wsX2_earned wsX2_isSheet := goodIn_r _ [6, 7, 8, 5, 9] (by decide +kernel) (by decide +kernel)
set_option maxRecDepth 20000 in
theorem gX2_earned_X2_isSheet : GoodIn wsX2_earned (va_wsS RX2 128 yX2_isSheet wsX2_isSheet) := goodIn_app (goodIn_of _ (by decide +kernel)) ggX2_earned_X2_isSheet
set_option maxRecDepth 20000 in
theorem ggX2_earned_X2_fails : GoodIn wsX2_earned wsX2_fails := goodIn_r _ [13, 1, 14, 15, 16, 17, 18, 19, 20, 21, 22, 23, 24, 25, 26, 27, 28, 29, 30, 31] (by decide +kernel) (by decide +kernel)
set_option maxRecDepth 20000 in
theorem gX2_earned_X2_fails : GoodIn wsX2_earned (wsV RX2 118 RX2 yX2_fails wsX2_fails) := goodIn_app (goodIn_of _ (by decide +kernel)) ggX2_earned_X2_fails
theorem dX2_earned_0 : decode cX2_earned 0 = .ok (.aload_n 0, 1) := by decide +kernel
theorem dX2_earned_1 : decode cX2_earned 1 = .ok (.iconst 0, 1) := by decide +kernel
theorem dX2_earned_2 : decode cX2_earned 2 = .ok (.putfield 58, 3) := by decide +kernel
theorem dX2_earned_5 : decode cX2_earned 5 = .ok (.iload_n 1, 1) := by decide +kernel
theorem dX2_earned_6 : decode cX2_earned 6 = .ok (.invokestatic 128, 3) := by decide +kernel
theorem dX2_earned_9 : decode cX2_earned 9 = .ok (.ifCond .eq 12, 3) := by decide +kernel
theorem dX2_earned_12 : decode cX2_earned 12 = .ok (.aload_n 0, 1) := by decide +kernel
theorem dX2_earned_13 : decode cX2_earned 13 = .ok (.getfield 46, 3) := by decide +kernel
theorem dX2_earned_16 : decode cX2_earned 16 = .ok (.iload_n 1, 1) := by decide +kernel
theorem dX2_earned_17 : decode cX2_earned 17 = .ok (.iaload, 1) := by decide +kernel
theorem dX2_earned_18 : decode cX2_earned 18 = .ok (.goto 8, 3) := by decide +kernel
theorem dX2_earned_21 : decode cX2_earned 21 = .ok (.aload_n 0, 1) := by decide +kernel
theorem dX2_earned_22 : decode cX2_earned 22 = .ok (.iconst 1, 1) := by decide +kernel
theorem dX2_earned_23 : decode cX2_earned 23 = .ok (.invokevirtual 118, 3) := by decide +kernel
theorem dX2_earned_26 : decode cX2_earned 26 = .ok (.ireturn, 1) := by decide +kernel
set_option maxRecDepth 20000 in
theorem ggX2_caused_X2_in : GoodIn wsX2_caused wsX2_in := goodIn_r _ [6] (by decide +kernel) (by decide +kernel)
set_option maxRecDepth 20000 in
theorem gX2_caused_X2_in : GoodIn wsX2_caused (va_wsS RX2 62 yX2_in wsX2_in) := goodIn_app (goodIn_of _ (by decide +kernel)) ggX2_caused_X2_in
set_option maxRecDepth 20000 in
theorem ggX2_caused_X2_fails : GoodIn wsX2_caused wsX2_fails := goodIn_r _ [10, 1, 11, 12, 13, 14, 15, 16, 17, 18, 19, 20, 21, 22, 23, 24, 25, 26, 27, 28] (by decide +kernel) (by decide +kernel)
set_option maxRecDepth 20000 in
theorem gX2_caused_X2_fails : GoodIn wsX2_caused (wsV RX2 118 RX2 yX2_fails wsX2_fails) := goodIn_app (goodIn_of _ (by decide +kernel)) ggX2_caused_X2_fails
theorem dX2_caused_0 : decode cX2_caused 0 = .ok (.aload_n 0, 1) := by decide +kernel
theorem dX2_caused_1 : decode cX2_caused 1 = .ok (.iconst 0, 1) := by decide +kernel
theorem dX2_caused_2 : decode cX2_caused 2 = .ok (.putfield 58, 3) := by decide +kernel
theorem dX2_caused_5 : decode cX2_caused 5 = .ok (.iload_n 1, 1) := by decide +kernel
theorem dX2_caused_6 : decode cX2_caused 6 = .ok (.iconst 0, 1) := by decide +kernel
theorem dX2_caused_7 : decode cX2_caused 7 = .ok (.iconst 4, 1) := by decide +kernel
theorem dX2_caused_8 : decode cX2_caused 8 = .ok (.invokestatic 62, 3) := by decide +kernel
theorem dX2_caused_11 : decode cX2_caused 11 = .ok (.ifCond .eq 12, 3) := by decide +kernel
theorem dX2_caused_14 : decode cX2_caused 14 = .ok (.aload_n 0, 1) := by decide +kernel
theorem dX2_caused_15 : decode cX2_caused 15 = .ok (.getfield 49, 3) := by decide +kernel
theorem dX2_caused_18 : decode cX2_caused 18 = .ok (.iload_n 1, 1) := by decide +kernel
theorem dX2_caused_19 : decode cX2_caused 19 = .ok (.iaload, 1) := by decide +kernel
theorem dX2_caused_20 : decode cX2_caused 20 = .ok (.goto 8, 3) := by decide +kernel
theorem dX2_caused_23 : decode cX2_caused 23 = .ok (.aload_n 0, 1) := by decide +kernel
theorem dX2_caused_24 : decode cX2_caused 24 = .ok (.iconst 1, 1) := by decide +kernel
theorem dX2_caused_25 : decode cX2_caused 25 = .ok (.invokevirtual 118, 3) := by decide +kernel
theorem dX2_caused_28 : decode cX2_caused 28 = .ok (.ireturn, 1) := by decide +kernel
set_option maxRecDepth 20000 in
theorem ggX2_value_X2_isCell : GoodIn wsX2_value wsX2_isCell := goodIn_r _ [6, 7, 8, 5, 9] (by decide +kernel) (by decide +kernel)
set_option maxRecDepth 20000 in
theorem gX2_value_X2_isCell : GoodIn wsX2_value (va_wsS RX2 112 yX2_isCell wsX2_isCell) := goodIn_app (goodIn_of _ (by decide +kernel)) ggX2_value_X2_isCell
set_option maxRecDepth 20000 in
theorem ggX2_value_X2_fails : GoodIn wsX2_value wsX2_fails := goodIn_r _ [13, 1, 14, 15, 16, 17, 18, 19, 20, 21, 22, 23, 24, 25, 26, 27, 28, 29, 30, 31] (by decide +kernel) (by decide +kernel)
set_option maxRecDepth 20000 in
theorem gX2_value_X2_fails : GoodIn wsX2_value (wsV RX2 118 RX2 yX2_fails wsX2_fails) := goodIn_app (goodIn_of _ (by decide +kernel)) ggX2_value_X2_fails
theorem dX2_value_0 : decode cX2_value 0 = .ok (.aload_n 0, 1) := by decide +kernel
theorem dX2_value_1 : decode cX2_value 1 = .ok (.iconst 0, 1) := by decide +kernel
theorem dX2_value_2 : decode cX2_value 2 = .ok (.putfield 58, 3) := by decide +kernel
theorem dX2_value_5 : decode cX2_value 5 = .ok (.iload_n 1, 1) := by decide +kernel
theorem dX2_value_6 : decode cX2_value 6 = .ok (.invokestatic 112, 3) := by decide +kernel
theorem dX2_value_9 : decode cX2_value 9 = .ok (.ifCond .eq 12, 3) := by decide +kernel
theorem dX2_value_12 : decode cX2_value 12 = .ok (.aload_n 0, 1) := by decide +kernel
theorem dX2_value_13 : decode cX2_value 13 = .ok (.getfield 22, 3) := by decide +kernel
theorem dX2_value_16 : decode cX2_value 16 = .ok (.iload_n 1, 1) := by decide +kernel
theorem dX2_value_17 : decode cX2_value 17 = .ok (.iaload, 1) := by decide +kernel
theorem dX2_value_18 : decode cX2_value 18 = .ok (.goto 8, 3) := by decide +kernel
theorem dX2_value_21 : decode cX2_value 21 = .ok (.aload_n 0, 1) := by decide +kernel
theorem dX2_value_22 : decode cX2_value 22 = .ok (.iconst 1, 1) := by decide +kernel
theorem dX2_value_23 : decode cX2_value 23 = .ok (.invokevirtual 118, 3) := by decide +kernel
theorem dX2_value_26 : decode cX2_value 26 = .ok (.ireturn, 1) := by decide +kernel
set_option maxRecDepth 20000 in
theorem ggX2_isMarked_X2_isCell : GoodIn wsX2_isMarked wsX2_isCell := goodIn_r _ [6, 7, 8, 5, 9] (by decide +kernel) (by decide +kernel)
set_option maxRecDepth 20000 in
theorem gX2_isMarked_X2_isCell : GoodIn wsX2_isMarked (va_wsS RX2 112 yX2_isCell wsX2_isCell) := goodIn_app (goodIn_of _ (by decide +kernel)) ggX2_isMarked_X2_isCell
set_option maxRecDepth 20000 in
theorem ggX2_isMarked_X2_fails : GoodIn wsX2_isMarked wsX2_fails := goodIn_r _ [13, 1, 14, 15, 16, 17, 18, 19, 20, 21, 22, 23, 24, 25, 26, 27, 28, 29, 30, 31] (by decide +kernel) (by decide +kernel)
set_option maxRecDepth 20000 in
theorem gX2_isMarked_X2_fails : GoodIn wsX2_isMarked (wsV RX2 118 RX2 yX2_fails wsX2_fails) := goodIn_app (goodIn_of _ (by decide +kernel)) ggX2_isMarked_X2_fails
theorem dX2_isMarked_0 : decode cX2_isMarked 0 = .ok (.aload_n 0, 1) := by decide +kernel
theorem dX2_isMarked_1 : decode cX2_isMarked 1 = .ok (.iconst 0, 1) := by decide +kernel
theorem dX2_isMarked_2 : decode cX2_isMarked 2 = .ok (.putfield 58, 3) := by decide +kernel
theorem dX2_isMarked_5 : decode cX2_isMarked 5 = .ok (.iload_n 1, 1) := by decide +kernel
theorem dX2_isMarked_6 : decode cX2_isMarked 6 = .ok (.invokestatic 112, 3) := by decide +kernel
theorem dX2_isMarked_9 : decode cX2_isMarked 9 = .ok (.ifCond .ne 11, 3) := by decide +kernel
theorem dX2_isMarked_12 : decode cX2_isMarked 12 = .ok (.aload_n 0, 1) := by decide +kernel
theorem dX2_isMarked_13 : decode cX2_isMarked 13 = .ok (.iconst 1, 1) := by decide +kernel
theorem dX2_isMarked_14 : decode cX2_isMarked 14 = .ok (.invokevirtual 118, 3) := by decide +kernel
theorem dX2_isMarked_17 : decode cX2_isMarked 17 = .ok (.pop, 1) := by decide +kernel
theorem dX2_isMarked_18 : decode cX2_isMarked 18 = .ok (.iconst 0, 1) := by decide +kernel
theorem dX2_isMarked_19 : decode cX2_isMarked 19 = .ok (.ireturn, 1) := by decide +kernel
theorem dX2_isMarked_20 : decode cX2_isMarked 20 = .ok (.aload_n 0, 1) := by decide +kernel
theorem dX2_isMarked_21 : decode cX2_isMarked 21 = .ok (.getfield 25, 3) := by decide +kernel
theorem dX2_isMarked_24 : decode cX2_isMarked 24 = .ok (.iload_n 1, 1) := by decide +kernel
theorem dX2_isMarked_25 : decode cX2_isMarked 25 = .ok (.iaload, 1) := by decide +kernel
theorem dX2_isMarked_26 : decode cX2_isMarked 26 = .ok (.iconst 1, 1) := by decide +kernel
theorem dX2_isMarked_27 : decode cX2_isMarked 27 = .ok (.if_icmp .ne 7, 3) := by decide +kernel
theorem dX2_isMarked_30 : decode cX2_isMarked 30 = .ok (.iconst 1, 1) := by decide +kernel
theorem dX2_isMarked_31 : decode cX2_isMarked 31 = .ok (.goto 4, 3) := by decide +kernel
theorem dX2_isMarked_34 : decode cX2_isMarked 34 = .ok (.iconst 0, 1) := by decide +kernel
theorem dX2_isMarked_35 : decode cX2_isMarked 35 = .ok (.ireturn, 1) := by decide +kernel
set_option maxRecDepth 20000 in
theorem ggX2_valueAnew_X2_isCell : GoodIn wsX2_valueAnew wsX2_isCell := goodIn_r _ [7, 8, 9, 6, 10] (by decide +kernel) (by decide +kernel)
set_option maxRecDepth 20000 in
theorem gX2_valueAnew_X2_isCell : GoodIn wsX2_valueAnew (va_wsS RX2 112 yX2_isCell wsX2_isCell) := goodIn_app (goodIn_of _ (by decide +kernel)) ggX2_valueAnew_X2_isCell
set_option maxRecDepth 20000 in
theorem ggX2_valueAnew_X2_fails : GoodIn wsX2_valueAnew wsX2_fails := goodIn_r _ [14, 1, 41, 42, 43, 44, 45, 46, 47, 48, 49, 50, 51, 52, 53, 54, 55, 56, 57, 58] (by decide +kernel) (by decide +kernel)
set_option maxRecDepth 20000 in
theorem gX2_valueAnew_X2_fails : GoodIn wsX2_valueAnew (wsV RX2 118 RX2 yX2_fails wsX2_fails) := goodIn_app (goodIn_of _ (by decide +kernel)) ggX2_valueAnew_X2_fails
set_option maxRecDepth 20000 in
theorem ggX2_valueAnew_X2_layOrder : GoodIn wsX2_valueAnew wsX2_layOrder := goodIn_r _ [18, 19, 3, 20, 21, 22, 6, 23, 24, 25, 26, 27, 28, 29, 30, 41, 42, 43, 44, 45, 46, 47, 48, 49, 50, 51, 52, 53, 54, 55, 56, 57, 58] (by decide +kernel) (by decide +kernel)
set_option maxRecDepth 20000 in
theorem gX2_valueAnew_X2_layOrder : GoodIn wsX2_valueAnew (wsV RX2 97 RX2 yX2_layOrder wsX2_layOrder) := goodIn_app (goodIn_of _ (by decide +kernel)) ggX2_valueAnew_X2_layOrder
set_option maxRecDepth 20000 in
theorem ggX2_valueAnew_X2_comesTo : GoodIn wsX2_valueAnew wsX2_comesTo := goodIn_r _ [34, 25, 30, 24, 35, 36, 37, 6, 38, 39, 40, 41, 42, 43, 44, 45, 46, 47, 48, 49, 50, 51, 52, 53, 54, 55, 56, 57, 58] (by decide +kernel) (by decide +kernel)
set_option maxRecDepth 20000 in
theorem gX2_valueAnew_X2_comesTo : GoodIn wsX2_valueAnew (wsV RX2 93 RX2 yX2_comesTo wsX2_comesTo) := goodIn_app (goodIn_of _ (by decide +kernel)) ggX2_valueAnew_X2_comesTo
theorem dX2_valueAnew_0 : decode cX2_valueAnew 0 = .ok (.aload_n 0, 1) := by decide +kernel
theorem dX2_valueAnew_1 : decode cX2_valueAnew 1 = .ok (.iconst 0, 1) := by decide +kernel
theorem dX2_valueAnew_2 : decode cX2_valueAnew 2 = .ok (.putfield 58, 3) := by decide +kernel
theorem dX2_valueAnew_5 : decode cX2_valueAnew 5 = .ok (.iload_n 1, 1) := by decide +kernel
theorem dX2_valueAnew_6 : decode cX2_valueAnew 6 = .ok (.invokestatic 112, 3) := by decide +kernel
theorem dX2_valueAnew_9 : decode cX2_valueAnew 9 = .ok (.ifCond .ne 9, 3) := by decide +kernel
theorem dX2_valueAnew_12 : decode cX2_valueAnew 12 = .ok (.aload_n 0, 1) := by decide +kernel
theorem dX2_valueAnew_13 : decode cX2_valueAnew 13 = .ok (.iconst 1, 1) := by decide +kernel
theorem dX2_valueAnew_14 : decode cX2_valueAnew 14 = .ok (.invokevirtual 118, 3) := by decide +kernel
theorem dX2_valueAnew_17 : decode cX2_valueAnew 17 = .ok (.ireturn, 1) := by decide +kernel
theorem dX2_valueAnew_18 : decode cX2_valueAnew 18 = .ok (.aload_n 0, 1) := by decide +kernel
theorem dX2_valueAnew_19 : decode cX2_valueAnew 19 = .ok (.invokevirtual 97, 3) := by decide +kernel
theorem dX2_valueAnew_22 : decode cX2_valueAnew 22 = .ok (.iconst 0, 1) := by decide +kernel
theorem dX2_valueAnew_23 : decode cX2_valueAnew 23 = .ok (.istore_n 2, 1) := by decide +kernel
theorem dX2_valueAnew_24 : decode cX2_valueAnew 24 = .ok (.iload_n 2, 1) := by decide +kernel
theorem dX2_valueAnew_25 : decode cX2_valueAnew 25 = .ok (.bipush 24, 2) := by decide +kernel
theorem dX2_valueAnew_27 : decode cX2_valueAnew 27 = .ok (.if_icmp .ge 34, 3) := by decide +kernel
theorem dX2_valueAnew_30 : decode cX2_valueAnew 30 = .ok (.aload_n 0, 1) := by decide +kernel
theorem dX2_valueAnew_31 : decode cX2_valueAnew 31 = .ok (.getfield 31, 3) := by decide +kernel
theorem dX2_valueAnew_34 : decode cX2_valueAnew 34 = .ok (.aload_n 0, 1) := by decide +kernel
theorem dX2_valueAnew_35 : decode cX2_valueAnew 35 = .ok (.getfield 34, 3) := by decide +kernel
theorem dX2_valueAnew_38 : decode cX2_valueAnew 38 = .ok (.iload_n 2, 1) := by decide +kernel
theorem dX2_valueAnew_39 : decode cX2_valueAnew 39 = .ok (.iaload, 1) := by decide +kernel
theorem dX2_valueAnew_40 : decode cX2_valueAnew 40 = .ok (.aload_n 0, 1) := by decide +kernel
theorem dX2_valueAnew_41 : decode cX2_valueAnew 41 = .ok (.aload_n 0, 1) := by decide +kernel
theorem dX2_valueAnew_42 : decode cX2_valueAnew 42 = .ok (.getfield 34, 3) := by decide +kernel
theorem dX2_valueAnew_45 : decode cX2_valueAnew 45 = .ok (.iload_n 2, 1) := by decide +kernel
theorem dX2_valueAnew_46 : decode cX2_valueAnew 46 = .ok (.iaload, 1) := by decide +kernel
theorem dX2_valueAnew_47 : decode cX2_valueAnew 47 = .ok (.aload_n 0, 1) := by decide +kernel
theorem dX2_valueAnew_48 : decode cX2_valueAnew 48 = .ok (.getfield 31, 3) := by decide +kernel
theorem dX2_valueAnew_51 : decode cX2_valueAnew 51 = .ok (.invokevirtual 93, 3) := by decide +kernel
theorem dX2_valueAnew_54 : decode cX2_valueAnew 54 = .ok (.iastore, 1) := by decide +kernel
theorem dX2_valueAnew_55 : decode cX2_valueAnew 55 = .ok (.iinc 2 1, 3) := by decide +kernel
theorem dX2_valueAnew_58 : decode cX2_valueAnew 58 = .ok (.goto (-34), 3) := by decide +kernel
theorem dX2_valueAnew_61 : decode cX2_valueAnew 61 = .ok (.aload_n 0, 1) := by decide +kernel
theorem dX2_valueAnew_62 : decode cX2_valueAnew 62 = .ok (.getfield 31, 3) := by decide +kernel
theorem dX2_valueAnew_65 : decode cX2_valueAnew 65 = .ok (.iload_n 1, 1) := by decide +kernel
theorem dX2_valueAnew_66 : decode cX2_valueAnew 66 = .ok (.iaload, 1) := by decide +kernel
theorem dX2_valueAnew_67 : decode cX2_valueAnew 67 = .ok (.ireturn, 1) := by decide +kernel
theorem dX2_readings_0 : decode cX2_readings 0 = .ok (.aload_n 0, 1) := by decide +kernel
theorem dX2_readings_1 : decode cX2_readings 1 = .ok (.iconst 0, 1) := by decide +kernel
theorem dX2_readings_2 : decode cX2_readings 2 = .ok (.putfield 58, 3) := by decide +kernel
theorem dX2_readings_5 : decode cX2_readings 5 = .ok (.aload_n 0, 1) := by decide +kernel
theorem dX2_readings_6 : decode cX2_readings 6 = .ok (.getfield 82, 3) := by decide +kernel
theorem dX2_readings_9 : decode cX2_readings 9 = .ok (.ireturn, 1) := by decide +kernel
set_option maxRecDepth 20000 in
theorem ggX2_reading_X2_in : GoodIn wsX2_reading wsX2_in := goodIn_r _ [7] (by decide +kernel) (by decide +kernel)
set_option maxRecDepth 20000 in
theorem gX2_reading_X2_in : GoodIn wsX2_reading (va_wsS RX2 62 yX2_in wsX2_in) := goodIn_app (goodIn_of _ (by decide +kernel)) ggX2_reading_X2_in
set_option maxRecDepth 20000 in
theorem ggX2_reading_X2_fails : GoodIn wsX2_reading wsX2_fails := goodIn_r _ [11, 1, 12, 13, 14, 15, 16, 17, 18, 19, 20, 21, 22, 23, 24, 25, 26, 27, 28, 29] (by decide +kernel) (by decide +kernel)
set_option maxRecDepth 20000 in
theorem gX2_reading_X2_fails : GoodIn wsX2_reading (wsV RX2 118 RX2 yX2_fails wsX2_fails) := goodIn_app (goodIn_of _ (by decide +kernel)) ggX2_reading_X2_fails
theorem dX2_reading_0 : decode cX2_reading 0 = .ok (.aload_n 0, 1) := by decide +kernel
theorem dX2_reading_1 : decode cX2_reading 1 = .ok (.iconst 0, 1) := by decide +kernel
theorem dX2_reading_2 : decode cX2_reading 2 = .ok (.putfield 58, 3) := by decide +kernel
theorem dX2_reading_5 : decode cX2_reading 5 = .ok (.iload_n 1, 1) := by decide +kernel
theorem dX2_reading_6 : decode cX2_reading 6 = .ok (.iconst 0, 1) := by decide +kernel
theorem dX2_reading_7 : decode cX2_reading 7 = .ok (.aload_n 0, 1) := by decide +kernel
theorem dX2_reading_8 : decode cX2_reading 8 = .ok (.getfield 82, 3) := by decide +kernel
theorem dX2_reading_11 : decode cX2_reading 11 = .ok (.iconst 1, 1) := by decide +kernel
theorem dX2_reading_12 : decode cX2_reading 12 = .ok (.isub, 1) := by decide +kernel
theorem dX2_reading_13 : decode cX2_reading 13 = .ok (.invokestatic 62, 3) := by decide +kernel
theorem dX2_reading_16 : decode cX2_reading 16 = .ok (.ifCond .eq 12, 3) := by decide +kernel
theorem dX2_reading_19 : decode cX2_reading 19 = .ok (.aload_n 0, 1) := by decide +kernel
theorem dX2_reading_20 : decode cX2_reading 20 = .ok (.getfield 52, 3) := by decide +kernel
theorem dX2_reading_23 : decode cX2_reading 23 = .ok (.iload_n 1, 1) := by decide +kernel
theorem dX2_reading_24 : decode cX2_reading 24 = .ok (.iaload, 1) := by decide +kernel
theorem dX2_reading_25 : decode cX2_reading 25 = .ok (.goto 8, 3) := by decide +kernel
theorem dX2_reading_28 : decode cX2_reading 28 = .ok (.aload_n 0, 1) := by decide +kernel
theorem dX2_reading_29 : decode cX2_reading 29 = .ok (.iconst 1, 1) := by decide +kernel
theorem dX2_reading_30 : decode cX2_reading 30 = .ok (.invokevirtual 118, 3) := by decide +kernel
theorem dX2_reading_33 : decode cX2_reading 33 = .ok (.ireturn, 1) := by decide +kernel
set_option maxRecDepth 20000 in
theorem ggX2_timesRead_X2_isCell : GoodIn wsX2_timesRead wsX2_isCell := goodIn_r _ [6, 7, 8, 5, 9] (by decide +kernel) (by decide +kernel)
set_option maxRecDepth 20000 in
theorem gX2_timesRead_X2_isCell : GoodIn wsX2_timesRead (va_wsS RX2 112 yX2_isCell wsX2_isCell) := goodIn_app (goodIn_of _ (by decide +kernel)) ggX2_timesRead_X2_isCell
set_option maxRecDepth 20000 in
theorem ggX2_timesRead_X2_fails : GoodIn wsX2_timesRead wsX2_fails := goodIn_r _ [13, 1, 14, 15, 16, 17, 18, 19, 20, 21, 22, 23, 24, 25, 26, 27, 28, 29, 30, 31] (by decide +kernel) (by decide +kernel)
set_option maxRecDepth 20000 in
theorem gX2_timesRead_X2_fails : GoodIn wsX2_timesRead (wsV RX2 118 RX2 yX2_fails wsX2_fails) := goodIn_app (goodIn_of _ (by decide +kernel)) ggX2_timesRead_X2_fails
theorem dX2_timesRead_0 : decode cX2_timesRead 0 = .ok (.aload_n 0, 1) := by decide +kernel
theorem dX2_timesRead_1 : decode cX2_timesRead 1 = .ok (.iconst 0, 1) := by decide +kernel
theorem dX2_timesRead_2 : decode cX2_timesRead 2 = .ok (.putfield 58, 3) := by decide +kernel
theorem dX2_timesRead_5 : decode cX2_timesRead 5 = .ok (.iload_n 1, 1) := by decide +kernel
theorem dX2_timesRead_6 : decode cX2_timesRead 6 = .ok (.invokestatic 112, 3) := by decide +kernel
theorem dX2_timesRead_9 : decode cX2_timesRead 9 = .ok (.ifCond .eq 24, 3) := by decide +kernel
theorem dX2_timesRead_12 : decode cX2_timesRead 12 = .ok (.iload_n 2, 1) := by decide +kernel
theorem dX2_timesRead_13 : decode cX2_timesRead 13 = .ok (.invokestatic 112, 3) := by decide +kernel
theorem dX2_timesRead_16 : decode cX2_timesRead 16 = .ok (.ifCond .eq 17, 3) := by decide +kernel
theorem dX2_timesRead_19 : decode cX2_timesRead 19 = .ok (.aload_n 0, 1) := by decide +kernel
theorem dX2_timesRead_20 : decode cX2_timesRead 20 = .ok (.getfield 55, 3) := by decide +kernel
theorem dX2_timesRead_23 : decode cX2_timesRead 23 = .ok (.bipush 24, 2) := by decide +kernel
theorem dX2_timesRead_25 : decode cX2_timesRead 25 = .ok (.iload_n 1, 1) := by decide +kernel
theorem dX2_timesRead_26 : decode cX2_timesRead 26 = .ok (.imul, 1) := by decide +kernel
theorem dX2_timesRead_27 : decode cX2_timesRead 27 = .ok (.iload_n 2, 1) := by decide +kernel
theorem dX2_timesRead_28 : decode cX2_timesRead 28 = .ok (.iadd, 1) := by decide +kernel
theorem dX2_timesRead_29 : decode cX2_timesRead 29 = .ok (.iaload, 1) := by decide +kernel
theorem dX2_timesRead_30 : decode cX2_timesRead 30 = .ok (.goto 8, 3) := by decide +kernel
theorem dX2_timesRead_33 : decode cX2_timesRead 33 = .ok (.aload_n 0, 1) := by decide +kernel
theorem dX2_timesRead_34 : decode cX2_timesRead 34 = .ok (.iconst 1, 1) := by decide +kernel
theorem dX2_timesRead_35 : decode cX2_timesRead 35 = .ok (.invokevirtual 118, 3) := by decide +kernel
theorem dX2_timesRead_38 : decode cX2_timesRead 38 = .ok (.ireturn, 1) := by decide +kernel
set_option maxRecDepth 20000 in
theorem ggX2_readOf_X2_isSheet : GoodIn wsX2_readOf wsX2_isSheet := goodIn_r _ [6, 7, 8, 5, 9] (by decide +kernel) (by decide +kernel)
set_option maxRecDepth 20000 in
theorem gX2_readOf_X2_isSheet : GoodIn wsX2_readOf (va_wsS RX2 128 yX2_isSheet wsX2_isSheet) := goodIn_app (goodIn_of _ (by decide +kernel)) ggX2_readOf_X2_isSheet
set_option maxRecDepth 20000 in
theorem ggX2_readOf_X2_fails : GoodIn wsX2_readOf wsX2_fails := goodIn_r _ [13, 1, 14, 15, 16, 17, 18, 19, 20, 21, 22, 23, 24, 25, 26, 27, 28, 29, 30, 31] (by decide +kernel) (by decide +kernel)
set_option maxRecDepth 20000 in
theorem gX2_readOf_X2_fails : GoodIn wsX2_readOf (wsV RX2 118 RX2 yX2_fails wsX2_fails) := goodIn_app (goodIn_of _ (by decide +kernel)) ggX2_readOf_X2_fails
theorem dX2_readOf_0 : decode cX2_readOf 0 = .ok (.aload_n 0, 1) := by decide +kernel
theorem dX2_readOf_1 : decode cX2_readOf 1 = .ok (.iconst 0, 1) := by decide +kernel
theorem dX2_readOf_2 : decode cX2_readOf 2 = .ok (.putfield 58, 3) := by decide +kernel
theorem dX2_readOf_5 : decode cX2_readOf 5 = .ok (.iload_n 1, 1) := by decide +kernel
theorem dX2_readOf_6 : decode cX2_readOf 6 = .ok (.invokestatic 128, 3) := by decide +kernel
theorem dX2_readOf_9 : decode cX2_readOf 9 = .ok (.ifCond .ne 9, 3) := by decide +kernel
theorem dX2_readOf_12 : decode cX2_readOf 12 = .ok (.aload_n 0, 1) := by decide +kernel
theorem dX2_readOf_13 : decode cX2_readOf 13 = .ok (.iconst 1, 1) := by decide +kernel
theorem dX2_readOf_14 : decode cX2_readOf 14 = .ok (.invokevirtual 118, 3) := by decide +kernel
theorem dX2_readOf_17 : decode cX2_readOf 17 = .ok (.ireturn, 1) := by decide +kernel
theorem dX2_readOf_18 : decode cX2_readOf 18 = .ok (.iconst 0, 1) := by decide +kernel
theorem dX2_readOf_19 : decode cX2_readOf 19 = .ok (.istore_n 2, 1) := by decide +kernel
theorem dX2_readOf_20 : decode cX2_readOf 20 = .ok (.iconst 0, 1) := by decide +kernel
theorem dX2_readOf_21 : decode cX2_readOf 21 = .ok (.istore_n 3, 1) := by decide +kernel
theorem dX2_readOf_22 : decode cX2_readOf 22 = .ok (.iload_n 3, 1) := by decide +kernel
theorem dX2_readOf_23 : decode cX2_readOf 23 = .ok (.sipush 576, 3) := by decide +kernel
theorem dX2_readOf_26 : decode cX2_readOf 26 = .ok (.if_icmp .ge 33, 3) := by decide +kernel
theorem dX2_readOf_29 : decode cX2_readOf 29 = .ok (.iload_n 2, 1) := by decide +kernel
theorem dX2_readOf_30 : decode cX2_readOf 30 = .ok (.iload_n 3, 1) := by decide +kernel
theorem dX2_readOf_31 : decode cX2_readOf 31 = .ok (.bipush 24, 2) := by decide +kernel
theorem dX2_readOf_33 : decode cX2_readOf 33 = .ok (.irem, 1) := by decide +kernel
theorem dX2_readOf_34 : decode cX2_readOf 34 = .ok (.bipush 6, 2) := by decide +kernel
theorem dX2_readOf_36 : decode cX2_readOf 36 = .ok (.idiv, 1) := by decide +kernel
theorem dX2_readOf_37 : decode cX2_readOf 37 = .ok (.iload_n 1, 1) := by decide +kernel
theorem dX2_readOf_38 : decode cX2_readOf 38 = .ok (.if_icmp .ne 12, 3) := by decide +kernel
theorem dX2_readOf_41 : decode cX2_readOf 41 = .ok (.aload_n 0, 1) := by decide +kernel
theorem dX2_readOf_42 : decode cX2_readOf 42 = .ok (.getfield 55, 3) := by decide +kernel
theorem dX2_readOf_45 : decode cX2_readOf 45 = .ok (.iload_n 3, 1) := by decide +kernel
theorem dX2_readOf_46 : decode cX2_readOf 46 = .ok (.iaload, 1) := by decide +kernel
theorem dX2_readOf_47 : decode cX2_readOf 47 = .ok (.goto 4, 3) := by decide +kernel
theorem dX2_readOf_50 : decode cX2_readOf 50 = .ok (.iconst 0, 1) := by decide +kernel
theorem dX2_readOf_51 : decode cX2_readOf 51 = .ok (.iadd, 1) := by decide +kernel
theorem dX2_readOf_52 : decode cX2_readOf 52 = .ok (.istore_n 2, 1) := by decide +kernel
theorem dX2_readOf_53 : decode cX2_readOf 53 = .ok (.iinc 3 1, 3) := by decide +kernel
theorem dX2_readOf_56 : decode cX2_readOf 56 = .ok (.goto (-34), 3) := by decide +kernel
theorem dX2_readOf_59 : decode cX2_readOf 59 = .ok (.iload_n 2, 1) := by decide +kernel
theorem dX2_readOf_60 : decode cX2_readOf 60 = .ok (.ireturn, 1) := by decide +kernel
theorem dJ9_max_7cf53_0 : decode cJ9_max_7cf53 0 = .ok (.iload_n 0, 1) := by decide +kernel
theorem dJ9_max_7cf53_1 : decode cJ9_max_7cf53 1 = .ok (.iload_n 1, 1) := by decide +kernel
theorem dJ9_max_7cf53_2 : decode cJ9_max_7cf53 2 = .ok (.if_icmp .lt 7, 3) := by decide +kernel
theorem dJ9_max_7cf53_5 : decode cJ9_max_7cf53 5 = .ok (.iload_n 0, 1) := by decide +kernel
theorem dJ9_max_7cf53_6 : decode cJ9_max_7cf53 6 = .ok (.goto 4, 3) := by decide +kernel
theorem dJ9_max_7cf53_9 : decode cJ9_max_7cf53 9 = .ok (.iload_n 1, 1) := by decide +kernel
theorem dJ9_max_7cf53_10 : decode cJ9_max_7cf53 10 = .ok (.ireturn, 1) := by decide +kernel
theorem dJ9_min_7cf53_0 : decode cJ9_min_7cf53 0 = .ok (.iload_n 0, 1) := by decide +kernel
theorem dJ9_min_7cf53_1 : decode cJ9_min_7cf53 1 = .ok (.iload_n 1, 1) := by decide +kernel
theorem dJ9_min_7cf53_2 : decode cJ9_min_7cf53 2 = .ok (.if_icmp .gt 7, 3) := by decide +kernel
theorem dJ9_min_7cf53_5 : decode cJ9_min_7cf53 5 = .ok (.iload_n 0, 1) := by decide +kernel
theorem dJ9_min_7cf53_6 : decode cJ9_min_7cf53 6 = .ok (.goto 4, 3) := by decide +kernel
theorem dJ9_min_7cf53_9 : decode cJ9_min_7cf53 9 = .ok (.iload_n 1, 1) := by decide +kernel
theorem dJ9_min_7cf53_10 : decode cJ9_min_7cf53 10 = .ok (.ireturn, 1) := by decide +kernel
set_option maxRecDepth 20000 in
theorem ggL_setNumber_X1_setNumber : GoodIn wsL_setNumber wsX1_setNumber := goodIn_ca (goodIn_r _ [6, 7, 8, 9, 10, 11, 5, 12, 13, 14, 15, 16, 17, 18, 19, 20, 21, 22, 23, 24, 25, 26, 27, 28, 29, 30, 31, 32, 33, 34, 35, 36, 37, 38, 39, 40, 41, 42, 43, 44, 45, 46, 47, 48, 49, 50, 51, 52, 53, 54, 55, 56, 57, 58, 59, 60, 61, 62, 63, 64, 65, 66, 67, 68, 69, 70, 71, 72, 73, 74, 75, 76, 77, 78, 79, 80, 81, 82, 83, 84, 85, 86, 87, 88, 89, 90, 91, 92, 93, 94, 95, 96, 97, 98, 99, 100, 101, 102, 103, 104, 105, 106, 107, 108, 109, 110, 111, 112, 113, 114, 115, 116, 117, 118, 119, 120, 121, 122, 123, 124, 125, 126, 127] (by decide +kernel) (by decide +kernel)) (goodIn_sub (fun _ h => List.mem_cons_of_mem _ (List.mem_append_right _ h)) (by decide +kernel))
set_option maxRecDepth 20000 in
theorem gL_setNumber_X1_setNumber : GoodIn wsL_setNumber (wsV RL 7 RX1 yX1_setNumber wsX1_setNumber) := goodIn_app (goodIn_of _ (by decide +kernel)) ggL_setNumber_X1_setNumber
theorem dL_setNumber_0 : decode cL_setNumber 0 = .ok (.aload 4, 2) := by decide +kernel
theorem dL_setNumber_2 : decode cL_setNumber 2 = .ok (.iconst 0, 1) := by decide +kernel
theorem dL_setNumber_3 : decode cL_setNumber 3 = .ok (.aload_n 0, 1) := by decide +kernel
theorem dL_setNumber_4 : decode cL_setNumber 4 = .ok (.iload_n 1, 1) := by decide +kernel
theorem dL_setNumber_5 : decode cL_setNumber 5 = .ok (.iload_n 2, 1) := by decide +kernel
theorem dL_setNumber_6 : decode cL_setNumber 6 = .ok (.iload_n 3, 1) := by decide +kernel
theorem dL_setNumber_7 : decode cL_setNumber 7 = .ok (.invokevirtual 7, 3) := by decide +kernel
theorem dL_setNumber_10 : decode cL_setNumber 10 = .ok (.i2l, 1) := by decide +kernel
theorem dL_setNumber_11 : decode cL_setNumber 11 = .ok (.lastore, 1) := by decide +kernel
theorem dL_setNumber_12 : decode cL_setNumber 12 = .ok (.goto 7, 3) := by decide +kernel
theorem dL_setNumber_15 : decode cL_setNumber 15 = .ok (.astore 5, 2) := by decide +kernel
theorem dL_setNumber_17 : decode cL_setNumber 17 = .ok (.iconst 1, 1) := by decide +kernel
theorem dL_setNumber_18 : decode cL_setNumber 18 = .ok (.ireturn, 1) := by decide +kernel
theorem dL_setNumber_19 : decode cL_setNumber 19 = .ok (.iconst 0, 1) := by decide +kernel
theorem dL_setNumber_20 : decode cL_setNumber 20 = .ok (.ireturn, 1) := by decide +kernel
set_option maxRecDepth 20000 in
theorem ggL_setSum_X1_setSum : GoodIn wsL_setSum wsX1_setSum := goodIn_ca (goodIn_ca (goodIn_r _ [7, 8, 9, 10, 11, 12, 13, 6, 14, 15, 16, 17, 18, 19, 20, 21, 22, 23, 24, 25, 26, 27, 28, 29, 30, 31, 32, 33, 34, 35, 36, 37, 38, 39, 40, 41, 42, 43, 44, 45, 46, 47, 48, 49, 50, 51, 52, 53, 54, 55, 56, 57, 58, 59, 60, 61, 62, 63, 64, 65, 66, 67, 68, 69, 70, 71, 72, 73, 74, 75, 76, 77, 78, 79, 80, 81, 82, 83, 84, 85, 86, 87, 88, 89, 90, 91, 92, 93, 94, 95, 96, 97, 98, 99, 100, 101, 102, 103, 104, 105, 106, 107, 108, 109, 110, 111, 112, 113, 114, 115, 116, 117, 118, 119, 120, 121, 122, 123, 124, 125, 126, 127, 128, 129, 130, 131, 132, 133, 134, 135] (by decide +kernel) (by decide +kernel)) (goodIn_sub (fun _ h => List.mem_cons_of_mem _ (List.mem_append_left _ (List.mem_append_right _ h))) (by decide +kernel))) (goodIn_sub (fun _ h => List.mem_cons_of_mem _ (List.mem_append_right _ h)) (by decide +kernel))
set_option maxRecDepth 20000 in
theorem gL_setSum_X1_setSum : GoodIn wsL_setSum (wsV RL 15 RX1 yX1_setSum wsX1_setSum) := goodIn_app (goodIn_of _ (by decide +kernel)) ggL_setSum_X1_setSum
theorem dL_setSum_0 : decode cL_setSum 0 = .ok (.aload 6, 2) := by decide +kernel
theorem dL_setSum_2 : decode cL_setSum 2 = .ok (.iconst 0, 1) := by decide +kernel
theorem dL_setSum_3 : decode cL_setSum 3 = .ok (.aload_n 0, 1) := by decide +kernel
theorem dL_setSum_4 : decode cL_setSum 4 = .ok (.iload_n 1, 1) := by decide +kernel
theorem dL_setSum_5 : decode cL_setSum 5 = .ok (.iload_n 2, 1) := by decide +kernel
theorem dL_setSum_6 : decode cL_setSum 6 = .ok (.iload_n 3, 1) := by decide +kernel
theorem dL_setSum_7 : decode cL_setSum 7 = .ok (.iload 4, 2) := by decide +kernel
theorem dL_setSum_9 : decode cL_setSum 9 = .ok (.iload 5, 2) := by decide +kernel
theorem dL_setSum_11 : decode cL_setSum 11 = .ok (.invokevirtual 15, 3) := by decide +kernel
theorem dL_setSum_14 : decode cL_setSum 14 = .ok (.i2l, 1) := by decide +kernel
theorem dL_setSum_15 : decode cL_setSum 15 = .ok (.lastore, 1) := by decide +kernel
theorem dL_setSum_16 : decode cL_setSum 16 = .ok (.goto 11, 3) := by decide +kernel
theorem dL_setSum_19 : decode cL_setSum 19 = .ok (.astore 7, 2) := by decide +kernel
theorem dL_setSum_21 : decode cL_setSum 21 = .ok (.iconst 1, 1) := by decide +kernel
theorem dL_setSum_22 : decode cL_setSum 22 = .ok (.ireturn, 1) := by decide +kernel
theorem dL_setSum_23 : decode cL_setSum 23 = .ok (.astore 7, 2) := by decide +kernel
theorem dL_setSum_25 : decode cL_setSum 25 = .ok (.iconst 2, 1) := by decide +kernel
theorem dL_setSum_26 : decode cL_setSum 26 = .ok (.ireturn, 1) := by decide +kernel
theorem dL_setSum_27 : decode cL_setSum 27 = .ok (.iconst 0, 1) := by decide +kernel
theorem dL_setSum_28 : decode cL_setSum 28 = .ok (.ireturn, 1) := by decide +kernel
set_option maxRecDepth 20000 in
theorem ggL_setGreater_X1_setGreater : GoodIn wsL_setGreater wsX1_setGreater := goodIn_ca (goodIn_ca (goodIn_r _ [7, 8, 9, 10, 11, 12, 13, 6, 14, 15, 16, 17, 18, 19, 20, 21, 22, 23, 24, 25, 26, 27, 28, 29, 30, 31, 32, 33, 34, 35, 36, 37, 38, 39, 40, 41, 42, 43, 44, 45, 46, 47, 48, 49, 50, 51, 52, 53, 54, 55, 56, 57, 58, 59, 60, 61, 62, 63, 64, 65, 66, 67, 68, 69, 70, 71, 72, 73, 74, 75, 76, 77, 78, 79, 80, 81, 82, 83, 84, 85, 86, 87, 88, 89, 90, 91, 92, 93, 94, 95, 96, 97, 98, 99, 100, 101, 102, 103, 104, 105, 106, 107, 108, 109, 110, 111, 112, 113, 114, 115, 116, 117, 118, 119, 120, 121, 122, 123, 124, 125, 126, 127, 128, 129, 130, 131, 132] (by decide +kernel) (by decide +kernel)) (goodIn_sub (fun _ h => List.mem_cons_of_mem _ (List.mem_append_left _ (List.mem_append_right _ h))) (by decide +kernel))) (goodIn_sub (fun _ h => List.mem_cons_of_mem _ (List.mem_append_right _ h)) (by decide +kernel))
set_option maxRecDepth 20000 in
theorem gL_setGreater_X1_setGreater : GoodIn wsL_setGreater (wsV RL 21 RX1 yX1_setGreater wsX1_setGreater) := goodIn_app (goodIn_of _ (by decide +kernel)) ggL_setGreater_X1_setGreater
theorem dL_setGreater_0 : decode cL_setGreater 0 = .ok (.aload 5, 2) := by decide +kernel
theorem dL_setGreater_2 : decode cL_setGreater 2 = .ok (.iconst 0, 1) := by decide +kernel
theorem dL_setGreater_3 : decode cL_setGreater 3 = .ok (.aload_n 0, 1) := by decide +kernel
theorem dL_setGreater_4 : decode cL_setGreater 4 = .ok (.iload_n 1, 1) := by decide +kernel
theorem dL_setGreater_5 : decode cL_setGreater 5 = .ok (.iload_n 2, 1) := by decide +kernel
theorem dL_setGreater_6 : decode cL_setGreater 6 = .ok (.iload_n 3, 1) := by decide +kernel
theorem dL_setGreater_7 : decode cL_setGreater 7 = .ok (.iload 4, 2) := by decide +kernel
theorem dL_setGreater_9 : decode cL_setGreater 9 = .ok (.invokevirtual 21, 3) := by decide +kernel
theorem dL_setGreater_12 : decode cL_setGreater 12 = .ok (.i2l, 1) := by decide +kernel
theorem dL_setGreater_13 : decode cL_setGreater 13 = .ok (.lastore, 1) := by decide +kernel
theorem dL_setGreater_14 : decode cL_setGreater 14 = .ok (.goto 11, 3) := by decide +kernel
theorem dL_setGreater_17 : decode cL_setGreater 17 = .ok (.astore 6, 2) := by decide +kernel
theorem dL_setGreater_19 : decode cL_setGreater 19 = .ok (.iconst 1, 1) := by decide +kernel
theorem dL_setGreater_20 : decode cL_setGreater 20 = .ok (.ireturn, 1) := by decide +kernel
theorem dL_setGreater_21 : decode cL_setGreater 21 = .ok (.astore 6, 2) := by decide +kernel
theorem dL_setGreater_23 : decode cL_setGreater 23 = .ok (.iconst 2, 1) := by decide +kernel
theorem dL_setGreater_24 : decode cL_setGreater 24 = .ok (.ireturn, 1) := by decide +kernel
theorem dL_setGreater_25 : decode cL_setGreater 25 = .ok (.iconst 0, 1) := by decide +kernel
theorem dL_setGreater_26 : decode cL_setGreater 26 = .ok (.ireturn, 1) := by decide +kernel
set_option maxRecDepth 20000 in
theorem ggL_setTimes_X1_setTimes : GoodIn wsL_setTimes wsX1_setTimes := goodIn_ca (goodIn_ca (goodIn_r _ [7, 8, 9, 10, 11, 12, 13, 6, 14, 15, 16, 17, 18, 19, 20, 21, 22, 23, 24, 25, 26, 27, 28, 29, 30, 31, 32, 33, 34, 35, 36, 37, 38, 39, 40, 41, 42, 43, 44, 45, 46, 47, 48, 49, 50, 51, 52, 53, 54, 55, 56, 57, 58, 59, 60, 61, 62, 63, 64, 65, 66, 67, 68, 69, 70, 71, 72, 73, 74, 75, 76, 77, 78, 79, 80, 81, 82, 83, 84, 85, 86, 87, 88, 89, 90, 91, 92, 93, 94, 95, 96, 97, 98, 99, 100, 101, 102, 103, 104, 105, 106, 107, 108, 109, 110, 111, 112, 113, 114, 115, 116, 117, 118, 119, 120, 121, 122, 123, 124, 125, 126, 127, 128, 129, 130, 131, 132, 133, 134, 135] (by decide +kernel) (by decide +kernel)) (goodIn_sub (fun _ h => List.mem_cons_of_mem _ (List.mem_append_left _ (List.mem_append_right _ h))) (by decide +kernel))) (goodIn_sub (fun _ h => List.mem_cons_of_mem _ (List.mem_append_right _ h)) (by decide +kernel))
set_option maxRecDepth 20000 in
theorem gL_setTimes_X1_setTimes : GoodIn wsL_setTimes (wsV RL 25 RX1 yX1_setTimes wsX1_setTimes) := goodIn_app (goodIn_of _ (by decide +kernel)) ggL_setTimes_X1_setTimes
theorem dL_setTimes_0 : decode cL_setTimes 0 = .ok (.aload 5, 2) := by decide +kernel
theorem dL_setTimes_2 : decode cL_setTimes 2 = .ok (.iconst 0, 1) := by decide +kernel
theorem dL_setTimes_3 : decode cL_setTimes 3 = .ok (.aload_n 0, 1) := by decide +kernel
theorem dL_setTimes_4 : decode cL_setTimes 4 = .ok (.iload_n 1, 1) := by decide +kernel
theorem dL_setTimes_5 : decode cL_setTimes 5 = .ok (.iload_n 2, 1) := by decide +kernel
theorem dL_setTimes_6 : decode cL_setTimes 6 = .ok (.iload_n 3, 1) := by decide +kernel
theorem dL_setTimes_7 : decode cL_setTimes 7 = .ok (.iload 4, 2) := by decide +kernel
theorem dL_setTimes_9 : decode cL_setTimes 9 = .ok (.invokevirtual 25, 3) := by decide +kernel
theorem dL_setTimes_12 : decode cL_setTimes 12 = .ok (.i2l, 1) := by decide +kernel
theorem dL_setTimes_13 : decode cL_setTimes 13 = .ok (.lastore, 1) := by decide +kernel
theorem dL_setTimes_14 : decode cL_setTimes 14 = .ok (.goto 11, 3) := by decide +kernel
theorem dL_setTimes_17 : decode cL_setTimes 17 = .ok (.astore 6, 2) := by decide +kernel
theorem dL_setTimes_19 : decode cL_setTimes 19 = .ok (.iconst 1, 1) := by decide +kernel
theorem dL_setTimes_20 : decode cL_setTimes 20 = .ok (.ireturn, 1) := by decide +kernel
theorem dL_setTimes_21 : decode cL_setTimes 21 = .ok (.astore 6, 2) := by decide +kernel
theorem dL_setTimes_23 : decode cL_setTimes 23 = .ok (.iconst 2, 1) := by decide +kernel
theorem dL_setTimes_24 : decode cL_setTimes 24 = .ok (.ireturn, 1) := by decide +kernel
theorem dL_setTimes_25 : decode cL_setTimes 25 = .ok (.iconst 0, 1) := by decide +kernel
theorem dL_setTimes_26 : decode cL_setTimes 26 = .ok (.ireturn, 1) := by decide +kernel
set_option maxRecDepth 20000 in
theorem ggL_refresh_X1_refresh : GoodIn wsL_refresh wsX1_refresh := goodIn_ca (goodIn_r _ [6, 7, 8, 9, 10, 5, 11, 12, 13, 14, 15, 16, 17, 18, 19, 20, 21, 22, 23, 24, 25, 26, 27, 28, 29, 30, 31, 32, 33, 34, 35, 36, 37, 38, 39, 40, 41, 42, 43, 44, 45, 46, 47, 48, 49, 50, 51, 52, 53, 54, 55, 56, 57, 58, 59, 60, 61, 62, 63, 64, 65, 66, 67, 68, 69, 70, 71, 72, 73, 74, 75, 76, 77, 78, 79, 80, 81, 82, 83, 84, 85, 86, 87, 88, 89, 90, 91, 92, 93, 94, 95, 96, 97, 98, 99, 100, 101, 102, 103, 104, 105, 106, 107] (by decide +kernel) (by decide +kernel)) (goodIn_sub (fun _ h => List.mem_cons_of_mem _ (List.mem_append_right _ h)) (by decide +kernel))
set_option maxRecDepth 20000 in
theorem gL_refresh_X1_refresh : GoodIn wsL_refresh (wsV RL 28 RX1 yX1_refresh wsX1_refresh) := goodIn_app (goodIn_of _ (by decide +kernel)) ggL_refresh_X1_refresh
theorem dL_refresh_0 : decode cL_refresh 0 = .ok (.aload_n 2, 1) := by decide +kernel
theorem dL_refresh_1 : decode cL_refresh 1 = .ok (.iconst 0, 1) := by decide +kernel
theorem dL_refresh_2 : decode cL_refresh 2 = .ok (.aload_n 0, 1) := by decide +kernel
theorem dL_refresh_3 : decode cL_refresh 3 = .ok (.iload_n 1, 1) := by decide +kernel
theorem dL_refresh_4 : decode cL_refresh 4 = .ok (.invokevirtual 28, 3) := by decide +kernel
theorem dL_refresh_7 : decode cL_refresh 7 = .ok (.i2l, 1) := by decide +kernel
theorem dL_refresh_8 : decode cL_refresh 8 = .ok (.lastore, 1) := by decide +kernel
theorem dL_refresh_9 : decode cL_refresh 9 = .ok (.goto 6, 3) := by decide +kernel
theorem dL_refresh_12 : decode cL_refresh 12 = .ok (.astore_n 3, 1) := by decide +kernel
theorem dL_refresh_13 : decode cL_refresh 13 = .ok (.iconst 1, 1) := by decide +kernel
theorem dL_refresh_14 : decode cL_refresh 14 = .ok (.ireturn, 1) := by decide +kernel
theorem dL_refresh_15 : decode cL_refresh 15 = .ok (.iconst 0, 1) := by decide +kernel
theorem dL_refresh_16 : decode cL_refresh 16 = .ok (.ireturn, 1) := by decide +kernel
set_option maxRecDepth 20000 in
theorem ggL_setPrice_X1_setPrice : GoodIn wsL_setPrice wsX1_setPrice := goodIn_ca (goodIn_r _ [6, 7, 8, 9, 10, 11, 5, 12, 13, 14, 15, 16, 17, 18, 19, 20, 21, 22, 23, 24, 25, 26, 27, 28, 29, 30, 31, 32] (by decide +kernel) (by decide +kernel)) (goodIn_sub (fun _ h => List.mem_cons_of_mem _ (List.mem_append_right _ h)) (by decide +kernel))
set_option maxRecDepth 20000 in
theorem gL_setPrice_X1_setPrice : GoodIn wsL_setPrice (wsV RL 32 RX1 yX1_setPrice wsX1_setPrice) := goodIn_app (goodIn_of _ (by decide +kernel)) ggL_setPrice_X1_setPrice
theorem dL_setPrice_0 : decode cL_setPrice 0 = .ok (.aload_n 3, 1) := by decide +kernel
theorem dL_setPrice_1 : decode cL_setPrice 1 = .ok (.iconst 0, 1) := by decide +kernel
theorem dL_setPrice_2 : decode cL_setPrice 2 = .ok (.aload_n 0, 1) := by decide +kernel
theorem dL_setPrice_3 : decode cL_setPrice 3 = .ok (.iload_n 1, 1) := by decide +kernel
theorem dL_setPrice_4 : decode cL_setPrice 4 = .ok (.iload_n 2, 1) := by decide +kernel
theorem dL_setPrice_5 : decode cL_setPrice 5 = .ok (.invokevirtual 32, 3) := by decide +kernel
theorem dL_setPrice_8 : decode cL_setPrice 8 = .ok (.i2l, 1) := by decide +kernel
theorem dL_setPrice_9 : decode cL_setPrice 9 = .ok (.lastore, 1) := by decide +kernel
theorem dL_setPrice_10 : decode cL_setPrice 10 = .ok (.goto 7, 3) := by decide +kernel
theorem dL_setPrice_13 : decode cL_setPrice 13 = .ok (.astore 4, 2) := by decide +kernel
theorem dL_setPrice_15 : decode cL_setPrice 15 = .ok (.iconst 1, 1) := by decide +kernel
theorem dL_setPrice_16 : decode cL_setPrice 16 = .ok (.ireturn, 1) := by decide +kernel
theorem dL_setPrice_17 : decode cL_setPrice 17 = .ok (.iconst 0, 1) := by decide +kernel
theorem dL_setPrice_18 : decode cL_setPrice 18 = .ok (.ireturn, 1) := by decide +kernel
set_option maxRecDepth 20000 in
theorem ggL_grant_X1_grant : GoodIn wsL_grant wsX1_grant := goodIn_ca (goodIn_r _ [6, 7, 8, 9, 10, 11, 5, 12, 13, 14, 15, 16, 17, 18, 19, 20, 21, 22, 23, 24, 25, 26, 27, 28, 29, 30, 31, 32] (by decide +kernel) (by decide +kernel)) (goodIn_sub (fun _ h => List.mem_cons_of_mem _ (List.mem_append_right _ h)) (by decide +kernel))
set_option maxRecDepth 20000 in
theorem gL_grant_X1_grant : GoodIn wsL_grant (wsV RL 36 RX1 yX1_grant wsX1_grant) := goodIn_app (goodIn_of _ (by decide +kernel)) ggL_grant_X1_grant
theorem dL_grant_0 : decode cL_grant 0 = .ok (.aload_n 3, 1) := by decide +kernel
theorem dL_grant_1 : decode cL_grant 1 = .ok (.iconst 0, 1) := by decide +kernel
theorem dL_grant_2 : decode cL_grant 2 = .ok (.aload_n 0, 1) := by decide +kernel
theorem dL_grant_3 : decode cL_grant 3 = .ok (.iload_n 1, 1) := by decide +kernel
theorem dL_grant_4 : decode cL_grant 4 = .ok (.iload_n 2, 1) := by decide +kernel
theorem dL_grant_5 : decode cL_grant 5 = .ok (.invokevirtual 36, 3) := by decide +kernel
theorem dL_grant_8 : decode cL_grant 8 = .ok (.i2l, 1) := by decide +kernel
theorem dL_grant_9 : decode cL_grant 9 = .ok (.lastore, 1) := by decide +kernel
theorem dL_grant_10 : decode cL_grant 10 = .ok (.goto 7, 3) := by decide +kernel
theorem dL_grant_13 : decode cL_grant 13 = .ok (.astore 4, 2) := by decide +kernel
theorem dL_grant_15 : decode cL_grant 15 = .ok (.iconst 1, 1) := by decide +kernel
theorem dL_grant_16 : decode cL_grant 16 = .ok (.ireturn, 1) := by decide +kernel
theorem dL_grant_17 : decode cL_grant 17 = .ok (.iconst 0, 1) := by decide +kernel
theorem dL_grant_18 : decode cL_grant 18 = .ok (.ireturn, 1) := by decide +kernel
set_option maxRecDepth 20000 in
theorem ggL_budget_X1_budget : GoodIn wsL_budget wsX1_budget := goodIn_ca (goodIn_r _ [6, 7, 8, 9, 10, 11, 5, 12, 13, 14, 15, 16, 17, 18, 19, 20, 21, 22, 23, 24, 25, 26, 27, 28, 29, 30, 31, 32] (by decide +kernel) (by decide +kernel)) (goodIn_sub (fun _ h => List.mem_cons_of_mem _ (List.mem_append_right _ h)) (by decide +kernel))
set_option maxRecDepth 20000 in
theorem gL_budget_X1_budget : GoodIn wsL_budget (wsV RL 39 RX1 yX1_budget wsX1_budget) := goodIn_app (goodIn_of _ (by decide +kernel)) ggL_budget_X1_budget
theorem dL_budget_0 : decode cL_budget 0 = .ok (.aload_n 2, 1) := by decide +kernel
theorem dL_budget_1 : decode cL_budget 1 = .ok (.iconst 0, 1) := by decide +kernel
theorem dL_budget_2 : decode cL_budget 2 = .ok (.aload_n 0, 1) := by decide +kernel
theorem dL_budget_3 : decode cL_budget 3 = .ok (.iload_n 1, 1) := by decide +kernel
theorem dL_budget_4 : decode cL_budget 4 = .ok (.invokevirtual 39, 3) := by decide +kernel
theorem dL_budget_7 : decode cL_budget 7 = .ok (.i2l, 1) := by decide +kernel
theorem dL_budget_8 : decode cL_budget 8 = .ok (.lastore, 1) := by decide +kernel
theorem dL_budget_9 : decode cL_budget 9 = .ok (.goto 6, 3) := by decide +kernel
theorem dL_budget_12 : decode cL_budget 12 = .ok (.astore_n 3, 1) := by decide +kernel
theorem dL_budget_13 : decode cL_budget 13 = .ok (.iconst 1, 1) := by decide +kernel
theorem dL_budget_14 : decode cL_budget 14 = .ok (.ireturn, 1) := by decide +kernel
theorem dL_budget_15 : decode cL_budget 15 = .ok (.iconst 0, 1) := by decide +kernel
theorem dL_budget_16 : decode cL_budget 16 = .ok (.ireturn, 1) := by decide +kernel
set_option maxRecDepth 20000 in
theorem ggL_earned_X1_earned : GoodIn wsL_earned wsX1_earned := goodIn_ca (goodIn_r _ [6, 7, 8, 9, 10, 11, 5, 12, 13, 14, 15, 16, 17, 18, 19, 20, 21, 22, 23, 24, 25, 26, 27, 28, 29, 30, 31, 32] (by decide +kernel) (by decide +kernel)) (goodIn_sub (fun _ h => List.mem_cons_of_mem _ (List.mem_append_right _ h)) (by decide +kernel))
set_option maxRecDepth 20000 in
theorem gL_earned_X1_earned : GoodIn wsL_earned (wsV RL 42 RX1 yX1_earned wsX1_earned) := goodIn_app (goodIn_of _ (by decide +kernel)) ggL_earned_X1_earned
theorem dL_earned_0 : decode cL_earned 0 = .ok (.aload_n 2, 1) := by decide +kernel
theorem dL_earned_1 : decode cL_earned 1 = .ok (.iconst 0, 1) := by decide +kernel
theorem dL_earned_2 : decode cL_earned 2 = .ok (.aload_n 0, 1) := by decide +kernel
theorem dL_earned_3 : decode cL_earned 3 = .ok (.iload_n 1, 1) := by decide +kernel
theorem dL_earned_4 : decode cL_earned 4 = .ok (.invokevirtual 42, 3) := by decide +kernel
theorem dL_earned_7 : decode cL_earned 7 = .ok (.i2l, 1) := by decide +kernel
theorem dL_earned_8 : decode cL_earned 8 = .ok (.lastore, 1) := by decide +kernel
theorem dL_earned_9 : decode cL_earned 9 = .ok (.goto 6, 3) := by decide +kernel
theorem dL_earned_12 : decode cL_earned 12 = .ok (.astore_n 3, 1) := by decide +kernel
theorem dL_earned_13 : decode cL_earned 13 = .ok (.iconst 1, 1) := by decide +kernel
theorem dL_earned_14 : decode cL_earned 14 = .ok (.ireturn, 1) := by decide +kernel
theorem dL_earned_15 : decode cL_earned 15 = .ok (.iconst 0, 1) := by decide +kernel
theorem dL_earned_16 : decode cL_earned 16 = .ok (.ireturn, 1) := by decide +kernel
set_option maxRecDepth 20000 in
theorem ggL_caused_X1_caused : GoodIn wsL_caused wsX1_caused := goodIn_ca (goodIn_r _ [6, 7, 8, 9, 10, 11, 5, 12, 13, 14, 15, 16, 17, 18, 19, 20, 21, 22, 23, 24, 25, 26, 27, 28, 29, 30, 31, 32] (by decide +kernel) (by decide +kernel)) (goodIn_sub (fun _ h => List.mem_cons_of_mem _ (List.mem_append_right _ h)) (by decide +kernel))
set_option maxRecDepth 20000 in
theorem gL_caused_X1_caused : GoodIn wsL_caused (wsV RL 45 RX1 yX1_caused wsX1_caused) := goodIn_app (goodIn_of _ (by decide +kernel)) ggL_caused_X1_caused
theorem dL_caused_0 : decode cL_caused 0 = .ok (.aload_n 2, 1) := by decide +kernel
theorem dL_caused_1 : decode cL_caused 1 = .ok (.iconst 0, 1) := by decide +kernel
theorem dL_caused_2 : decode cL_caused 2 = .ok (.aload_n 0, 1) := by decide +kernel
theorem dL_caused_3 : decode cL_caused 3 = .ok (.iload_n 1, 1) := by decide +kernel
theorem dL_caused_4 : decode cL_caused 4 = .ok (.invokevirtual 45, 3) := by decide +kernel
theorem dL_caused_7 : decode cL_caused 7 = .ok (.i2l, 1) := by decide +kernel
theorem dL_caused_8 : decode cL_caused 8 = .ok (.lastore, 1) := by decide +kernel
theorem dL_caused_9 : decode cL_caused 9 = .ok (.goto 6, 3) := by decide +kernel
theorem dL_caused_12 : decode cL_caused 12 = .ok (.astore_n 3, 1) := by decide +kernel
theorem dL_caused_13 : decode cL_caused 13 = .ok (.iconst 1, 1) := by decide +kernel
theorem dL_caused_14 : decode cL_caused 14 = .ok (.ireturn, 1) := by decide +kernel
theorem dL_caused_15 : decode cL_caused 15 = .ok (.iconst 0, 1) := by decide +kernel
theorem dL_caused_16 : decode cL_caused 16 = .ok (.ireturn, 1) := by decide +kernel
set_option maxRecDepth 20000 in
theorem ggL_value_X1_value : GoodIn wsL_value wsX1_value := goodIn_ca (goodIn_r _ [6, 7, 8, 9, 10, 11, 5, 12, 13, 14, 15, 16, 17, 18, 19, 20, 21, 22, 23, 24] (by decide +kernel) (by decide +kernel)) (goodIn_sub (fun _ h => List.mem_cons_of_mem _ (List.mem_append_right _ h)) (by decide +kernel))
set_option maxRecDepth 20000 in
theorem gL_value_X1_value : GoodIn wsL_value (wsV RL 48 RX1 yX1_value wsX1_value) := goodIn_app (goodIn_of _ (by decide +kernel)) ggL_value_X1_value
theorem dL_value_0 : decode cL_value 0 = .ok (.aload_n 2, 1) := by decide +kernel
theorem dL_value_1 : decode cL_value 1 = .ok (.iconst 0, 1) := by decide +kernel
theorem dL_value_2 : decode cL_value 2 = .ok (.aload_n 0, 1) := by decide +kernel
theorem dL_value_3 : decode cL_value 3 = .ok (.iload_n 1, 1) := by decide +kernel
theorem dL_value_4 : decode cL_value 4 = .ok (.invokevirtual 48, 3) := by decide +kernel
theorem dL_value_7 : decode cL_value 7 = .ok (.i2l, 1) := by decide +kernel
theorem dL_value_8 : decode cL_value 8 = .ok (.lastore, 1) := by decide +kernel
theorem dL_value_9 : decode cL_value 9 = .ok (.goto 6, 3) := by decide +kernel
theorem dL_value_12 : decode cL_value 12 = .ok (.astore_n 3, 1) := by decide +kernel
theorem dL_value_13 : decode cL_value 13 = .ok (.iconst 1, 1) := by decide +kernel
theorem dL_value_14 : decode cL_value 14 = .ok (.ireturn, 1) := by decide +kernel
theorem dL_value_15 : decode cL_value 15 = .ok (.iconst 0, 1) := by decide +kernel
theorem dL_value_16 : decode cL_value 16 = .ok (.ireturn, 1) := by decide +kernel
set_option maxRecDepth 20000 in
theorem ggL_isMarked_X1_isMarked : GoodIn wsL_isMarked wsX1_isMarked := goodIn_ca (goodIn_r _ [6, 7, 8, 9, 10, 11, 5, 12, 13, 14, 15, 16, 17, 18, 19, 20, 21, 22, 23, 24] (by decide +kernel) (by decide +kernel)) (goodIn_sub (fun _ h => List.mem_cons_of_mem _ (List.mem_append_right _ h)) (by decide +kernel))
set_option maxRecDepth 20000 in
theorem gL_isMarked_X1_isMarked : GoodIn wsL_isMarked (wsV RL 51 RX1 yX1_isMarked wsX1_isMarked) := goodIn_app (goodIn_of _ (by decide +kernel)) ggL_isMarked_X1_isMarked
theorem dL_isMarked_0 : decode cL_isMarked 0 = .ok (.aload_n 2, 1) := by decide +kernel
theorem dL_isMarked_1 : decode cL_isMarked 1 = .ok (.iconst 0, 1) := by decide +kernel
theorem dL_isMarked_2 : decode cL_isMarked 2 = .ok (.aload_n 0, 1) := by decide +kernel
theorem dL_isMarked_3 : decode cL_isMarked 3 = .ok (.iload_n 1, 1) := by decide +kernel
theorem dL_isMarked_4 : decode cL_isMarked 4 = .ok (.invokevirtual 51, 3) := by decide +kernel
theorem dL_isMarked_7 : decode cL_isMarked 7 = .ok (.ifCond .eq 7, 3) := by decide +kernel
theorem dL_isMarked_10 : decode cL_isMarked 10 = .ok (.lconst 1, 1) := by decide +kernel
theorem dL_isMarked_11 : decode cL_isMarked 11 = .ok (.goto 4, 3) := by decide +kernel
theorem dL_isMarked_14 : decode cL_isMarked 14 = .ok (.lconst 0, 1) := by decide +kernel
theorem dL_isMarked_15 : decode cL_isMarked 15 = .ok (.lastore, 1) := by decide +kernel
theorem dL_isMarked_16 : decode cL_isMarked 16 = .ok (.goto 6, 3) := by decide +kernel
theorem dL_isMarked_19 : decode cL_isMarked 19 = .ok (.astore_n 3, 1) := by decide +kernel
theorem dL_isMarked_20 : decode cL_isMarked 20 = .ok (.iconst 1, 1) := by decide +kernel
theorem dL_isMarked_21 : decode cL_isMarked 21 = .ok (.ireturn, 1) := by decide +kernel
theorem dL_isMarked_22 : decode cL_isMarked 22 = .ok (.iconst 0, 1) := by decide +kernel
theorem dL_isMarked_23 : decode cL_isMarked 23 = .ok (.ireturn, 1) := by decide +kernel
set_option maxRecDepth 20000 in
theorem ggL_valueAnew_X1_valueAnew : GoodIn wsL_valueAnew wsX1_valueAnew := goodIn_ca (goodIn_r _ [6, 7, 8, 9, 10, 11, 12, 5, 13, 14, 15, 16, 17, 18, 19, 20, 21, 22, 23, 24, 25, 26, 27, 28, 29, 30, 31, 32, 33, 34, 35, 36, 37, 38, 39, 40, 41, 42, 43, 44, 45, 46, 47, 48] (by decide +kernel) (by decide +kernel)) (goodIn_sub (fun _ h => List.mem_cons_of_mem _ (List.mem_append_right _ h)) (by decide +kernel))
set_option maxRecDepth 20000 in
theorem gL_valueAnew_X1_valueAnew : GoodIn wsL_valueAnew (wsV RL 55 RX1 yX1_valueAnew wsX1_valueAnew) := goodIn_app (goodIn_of _ (by decide +kernel)) ggL_valueAnew_X1_valueAnew
theorem dL_valueAnew_0 : decode cL_valueAnew 0 = .ok (.aload_n 2, 1) := by decide +kernel
theorem dL_valueAnew_1 : decode cL_valueAnew 1 = .ok (.iconst 0, 1) := by decide +kernel
theorem dL_valueAnew_2 : decode cL_valueAnew 2 = .ok (.aload_n 0, 1) := by decide +kernel
theorem dL_valueAnew_3 : decode cL_valueAnew 3 = .ok (.iload_n 1, 1) := by decide +kernel
theorem dL_valueAnew_4 : decode cL_valueAnew 4 = .ok (.invokevirtual 55, 3) := by decide +kernel
theorem dL_valueAnew_7 : decode cL_valueAnew 7 = .ok (.i2l, 1) := by decide +kernel
theorem dL_valueAnew_8 : decode cL_valueAnew 8 = .ok (.lastore, 1) := by decide +kernel
theorem dL_valueAnew_9 : decode cL_valueAnew 9 = .ok (.goto 6, 3) := by decide +kernel
theorem dL_valueAnew_12 : decode cL_valueAnew 12 = .ok (.astore_n 3, 1) := by decide +kernel
theorem dL_valueAnew_13 : decode cL_valueAnew 13 = .ok (.iconst 1, 1) := by decide +kernel
theorem dL_valueAnew_14 : decode cL_valueAnew 14 = .ok (.ireturn, 1) := by decide +kernel
theorem dL_valueAnew_15 : decode cL_valueAnew 15 = .ok (.iconst 0, 1) := by decide +kernel
theorem dL_valueAnew_16 : decode cL_valueAnew 16 = .ok (.ireturn, 1) := by decide +kernel
set_option maxRecDepth 20000 in
theorem ggL_reading_X1_reading : GoodIn wsL_reading wsX1_reading := goodIn_ca (goodIn_r _ [6, 7, 8, 9, 10, 11, 12, 13, 14, 15, 16, 17, 18, 19, 20, 21, 22, 23, 24, 25, 26, 27, 28, 29] (by decide +kernel) (by decide +kernel)) (goodIn_sub (fun _ h => List.mem_cons_of_mem _ (List.mem_append_right _ h)) (by decide +kernel))
set_option maxRecDepth 20000 in
theorem gL_reading_X1_reading : GoodIn wsL_reading (wsV RL 58 RX1 yX1_reading wsX1_reading) := goodIn_app (goodIn_of _ (by decide +kernel)) ggL_reading_X1_reading
theorem dL_reading_0 : decode cL_reading 0 = .ok (.aload_n 2, 1) := by decide +kernel
theorem dL_reading_1 : decode cL_reading 1 = .ok (.iconst 0, 1) := by decide +kernel
theorem dL_reading_2 : decode cL_reading 2 = .ok (.aload_n 0, 1) := by decide +kernel
theorem dL_reading_3 : decode cL_reading 3 = .ok (.iload_n 1, 1) := by decide +kernel
theorem dL_reading_4 : decode cL_reading 4 = .ok (.invokevirtual 58, 3) := by decide +kernel
theorem dL_reading_7 : decode cL_reading 7 = .ok (.i2l, 1) := by decide +kernel
theorem dL_reading_8 : decode cL_reading 8 = .ok (.lastore, 1) := by decide +kernel
theorem dL_reading_9 : decode cL_reading 9 = .ok (.goto 6, 3) := by decide +kernel
theorem dL_reading_12 : decode cL_reading 12 = .ok (.astore_n 3, 1) := by decide +kernel
theorem dL_reading_13 : decode cL_reading 13 = .ok (.iconst 1, 1) := by decide +kernel
theorem dL_reading_14 : decode cL_reading 14 = .ok (.ireturn, 1) := by decide +kernel
theorem dL_reading_15 : decode cL_reading 15 = .ok (.iconst 0, 1) := by decide +kernel
theorem dL_reading_16 : decode cL_reading 16 = .ok (.ireturn, 1) := by decide +kernel
set_option maxRecDepth 20000 in
theorem ggL_timesRead_X1_timesRead : GoodIn wsL_timesRead wsX1_timesRead := goodIn_ca (goodIn_r _ [6, 7, 8, 9, 10, 11, 5, 12, 13, 14, 15, 16, 17, 18, 19, 20, 21, 22, 23, 24, 25, 26, 27, 28, 29, 30, 31, 32] (by decide +kernel) (by decide +kernel)) (goodIn_sub (fun _ h => List.mem_cons_of_mem _ (List.mem_append_right _ h)) (by decide +kernel))
set_option maxRecDepth 20000 in
theorem gL_timesRead_X1_timesRead : GoodIn wsL_timesRead (wsV RL 63 RX1 yX1_timesRead wsX1_timesRead) := goodIn_app (goodIn_of _ (by decide +kernel)) ggL_timesRead_X1_timesRead
theorem dL_timesRead_0 : decode cL_timesRead 0 = .ok (.aload_n 3, 1) := by decide +kernel
theorem dL_timesRead_1 : decode cL_timesRead 1 = .ok (.iconst 0, 1) := by decide +kernel
theorem dL_timesRead_2 : decode cL_timesRead 2 = .ok (.aload_n 0, 1) := by decide +kernel
theorem dL_timesRead_3 : decode cL_timesRead 3 = .ok (.iload_n 1, 1) := by decide +kernel
theorem dL_timesRead_4 : decode cL_timesRead 4 = .ok (.iload_n 2, 1) := by decide +kernel
theorem dL_timesRead_5 : decode cL_timesRead 5 = .ok (.invokevirtual 63, 3) := by decide +kernel
theorem dL_timesRead_8 : decode cL_timesRead 8 = .ok (.i2l, 1) := by decide +kernel
theorem dL_timesRead_9 : decode cL_timesRead 9 = .ok (.lastore, 1) := by decide +kernel
theorem dL_timesRead_10 : decode cL_timesRead 10 = .ok (.goto 7, 3) := by decide +kernel
theorem dL_timesRead_13 : decode cL_timesRead 13 = .ok (.astore 4, 2) := by decide +kernel
theorem dL_timesRead_15 : decode cL_timesRead 15 = .ok (.iconst 1, 1) := by decide +kernel
theorem dL_timesRead_16 : decode cL_timesRead 16 = .ok (.ireturn, 1) := by decide +kernel
theorem dL_timesRead_17 : decode cL_timesRead 17 = .ok (.iconst 0, 1) := by decide +kernel
theorem dL_timesRead_18 : decode cL_timesRead 18 = .ok (.ireturn, 1) := by decide +kernel
set_option maxRecDepth 20000 in
theorem ggL_readOf_X1_readOf : GoodIn wsL_readOf wsX1_readOf := goodIn_ca (goodIn_r _ [6, 7, 8, 9, 10, 11, 5, 12, 13, 14, 15, 16, 17, 18, 19, 20, 21, 22, 23, 24, 25, 26, 27, 28, 29, 30, 31, 32] (by decide +kernel) (by decide +kernel)) (goodIn_sub (fun _ h => List.mem_cons_of_mem _ (List.mem_append_right _ h)) (by decide +kernel))
set_option maxRecDepth 20000 in
theorem gL_readOf_X1_readOf : GoodIn wsL_readOf (wsV RL 66 RX1 yX1_readOf wsX1_readOf) := goodIn_app (goodIn_of _ (by decide +kernel)) ggL_readOf_X1_readOf
theorem dL_readOf_0 : decode cL_readOf 0 = .ok (.aload_n 2, 1) := by decide +kernel
theorem dL_readOf_1 : decode cL_readOf 1 = .ok (.iconst 0, 1) := by decide +kernel
theorem dL_readOf_2 : decode cL_readOf 2 = .ok (.aload_n 0, 1) := by decide +kernel
theorem dL_readOf_3 : decode cL_readOf 3 = .ok (.iload_n 1, 1) := by decide +kernel
theorem dL_readOf_4 : decode cL_readOf 4 = .ok (.invokevirtual 66, 3) := by decide +kernel
theorem dL_readOf_7 : decode cL_readOf 7 = .ok (.i2l, 1) := by decide +kernel
theorem dL_readOf_8 : decode cL_readOf 8 = .ok (.lastore, 1) := by decide +kernel
theorem dL_readOf_9 : decode cL_readOf 9 = .ok (.goto 6, 3) := by decide +kernel
theorem dL_readOf_12 : decode cL_readOf 12 = .ok (.astore_n 3, 1) := by decide +kernel
theorem dL_readOf_13 : decode cL_readOf 13 = .ok (.iconst 1, 1) := by decide +kernel
theorem dL_readOf_14 : decode cL_readOf 14 = .ok (.ireturn, 1) := by decide +kernel
theorem dL_readOf_15 : decode cL_readOf 15 = .ok (.iconst 0, 1) := by decide +kernel
theorem dL_readOf_16 : decode cL_readOf 16 = .ok (.ireturn, 1) := by decide +kernel
set_option maxRecDepth 20000 in
theorem ggL_law_X1_init : GoodIn wsL_law wsX1_init := goodIn_r _ [9, 10, 11, 12, 13, 14, 15, 16, 17, 18, 19, 20, 21, 22, 23, 24, 25, 26, 27, 28, 29, 30, 31, 32, 33, 34, 35, 36, 37, 38, 39, 40, 416, 417, 418, 419, 420, 421, 422, 423, 424, 425, 426, 427, 446, 447, 448, 449, 450, 451, 452, 453] (by decide +kernel) (by decide +kernel)
set_option maxRecDepth 20000 in
theorem gL_law_X1_init : GoodIn wsL_law (wsX1_init) := ggL_law_X1_init
set_option maxRecDepth 20000 in
theorem ggL_law_X2_init : GoodIn wsL_law wsX2_init := goodIn_r _ [43, 44, 11, 12, 13, 45, 46, 47, 48, 49, 50, 51, 52, 53, 54, 55, 56, 57, 58, 59, 60, 428, 429, 430, 431, 432, 433, 434, 435, 436, 437, 438, 439, 440, 441, 442, 443, 444, 445] (by decide +kernel) (by decide +kernel)
set_option maxRecDepth 20000 in
theorem gL_law_X2_init : GoodIn wsL_law (wsX2_init) := ggL_law_X2_init
set_option maxRecDepth 20000 in
theorem ggL_law_L_setNumber : GoodIn wsL_law wsL_setNumber := goodIn_ca (goodIn_r _ [64, 65, 66, 67, 68, 2, 69, 70, 71, 72, 73, 74, 75, 76, 77, 78, 79, 80, 81, 82, 83, 84, 85, 14, 15, 16, 17, 86, 87, 88, 89, 27, 21, 90, 91, 92, 93, 94, 95, 96, 97, 98, 99, 100, 101, 102, 103, 104, 26, 105, 106, 107, 108, 20, 25, 18, 109, 110, 111, 112, 113, 114, 115, 24, 116, 117, 34, 118, 119, 120, 121, 33, 122, 123, 124, 125, 35, 37, 36, 38, 40, 39, 126, 127, 128, 129, 130, 131, 132, 133, 134, 135, 136, 137, 138, 139, 140, 141, 142, 143, 144, 145, 146, 147, 148, 149, 150, 151, 416, 417, 418, 419, 420, 421, 422, 423, 424, 425, 426, 427, 446, 447, 448, 449, 450, 451, 452, 453] (by decide +kernel) (by decide +kernel)) (goodIn_sub (fun _ h => List.mem_append_left _ (List.mem_append_left _ (List.mem_append_right _ h))) (by decide +kernel))
set_option maxRecDepth 20000 in
theorem gL_law_L_setNumber : GoodIn wsL_law (va_wsS RL 73 yL_setNumber wsL_setNumber) := goodIn_app (goodIn_of _ (by decide +kernel)) ggL_law_L_setNumber
set_option maxRecDepth 20000 in
theorem ggL_law_X2_setNumber : GoodIn wsL_law wsX2_setNumber := goodIn_r _ [155, 156, 157, 158, 159, 160, 5, 161, 162, 163, 164, 165, 166, 167, 168, 169, 170, 171, 172, 173, 174, 175, 45, 46, 47, 48, 51, 176, 177, 178, 179, 56, 50, 49, 180, 181, 182, 183, 184, 185, 186, 187, 55, 188, 189, 190, 191, 192, 193, 194, 195, 196, 197, 198, 57, 58, 60, 199, 59, 200, 201, 202, 203, 204, 205, 206, 207, 208, 209, 210, 53, 211, 212, 213, 214, 54, 215, 216, 217, 218, 428, 429, 430, 431, 432, 433, 434, 435, 436, 437, 438, 439, 440, 441, 442, 443, 444, 445] (by decide +kernel) (by decide +kernel)
set_option maxRecDepth 20000 in
theorem gL_law_X2_setNumber : GoodIn wsL_law (wsV RL 78 RX2 yX2_setNumber wsX2_setNumber) := goodIn_app (goodIn_of _ (by decide +kernel)) ggL_law_X2_setNumber
set_option maxRecDepth 20000 in
theorem ggL_law_X2_thrown : GoodIn wsL_law wsX2_thrown := goodIn_r _ [222, 156, 428, 429, 430, 431, 432, 433, 434, 435, 436, 437, 438, 439, 440, 441, 442, 443, 444, 445] (by decide +kernel) (by decide +kernel)
set_option maxRecDepth 20000 in
theorem gL_law_X2_thrown : GoodIn wsL_law (wsV RL 79 RX2 yX2_thrown wsX2_thrown) := goodIn_app (goodIn_of _ (by decide +kernel)) ggL_law_X2_thrown
set_option maxRecDepth 20000 in
theorem ggL_law_L_setSum : GoodIn wsL_law wsL_setSum := goodIn_ca (goodIn_ca (goodIn_r _ [225, 65, 226, 227, 228, 229, 2, 230, 70, 71, 231, 232, 73, 74, 75, 76, 77, 78, 79, 80, 81, 233, 234, 235, 236, 28, 21, 148, 149, 150, 151, 15, 16, 98, 99, 100, 82, 83, 84, 85, 14, 17, 86, 87, 88, 89, 27, 90, 91, 92, 93, 94, 95, 96, 97, 101, 102, 103, 104, 26, 105, 106, 107, 108, 20, 25, 18, 109, 110, 111, 112, 113, 114, 115, 24, 116, 117, 34, 118, 119, 120, 121, 33, 122, 123, 124, 125, 35, 37, 36, 38, 40, 39, 126, 127, 128, 129, 130, 131, 132, 133, 134, 135, 136, 137, 138, 139, 140, 72, 141, 142, 143, 144, 145, 146, 147, 416, 417, 418, 419, 420, 421, 422, 423, 424, 425, 426, 427, 446, 447, 448, 449, 450, 451, 452, 453] (by decide +kernel) (by decide +kernel)) (goodIn_sub (fun _ h => List.mem_append_left _ (List.mem_append_left _ (List.mem_append_right _ h))) (by decide +kernel))) (goodIn_sub (fun _ h => List.mem_append_left _ (List.mem_append_right _ h)) (by decide +kernel))
set_option maxRecDepth 20000 in
theorem gL_law_L_setSum : GoodIn wsL_law (va_wsS RL 83 yL_setSum wsL_setSum) := goodIn_app (goodIn_of _ (by decide +kernel)) ggL_law_L_setSum
set_option maxRecDepth 20000 in
theorem ggL_law_X2_setSum : GoodIn wsL_law wsX2_setSum := goodIn_r _ [240, 156, 159, 160, 5, 161, 162, 163, 164, 165, 166, 167, 168, 169, 170, 171, 241, 242, 243, 244, 54, 180, 181, 182, 183, 45, 46, 191, 192, 193, 194, 47, 172, 173, 174, 175, 48, 51, 176, 177, 178, 179, 56, 50, 49, 184, 185, 186, 187, 55, 188, 189, 190, 195, 196, 197, 198, 57, 58, 60, 199, 59, 200, 201, 202, 203, 204, 205, 206, 158, 157, 207, 208, 209, 210, 53, 211, 212, 213, 214, 215, 216, 217, 218, 428, 429, 430, 431, 432, 433, 434, 435, 436, 437, 438, 439, 440, 441, 442, 443, 444, 445] (by decide +kernel) (by decide +kernel)
set_option maxRecDepth 20000 in
theorem gL_law_X2_setSum : GoodIn wsL_law (wsV RL 86 RX2 yX2_setSum wsX2_setSum) := goodIn_app (goodIn_of _ (by decide +kernel)) ggL_law_X2_setSum
set_option maxRecDepth 20000 in
theorem ggL_law_L_setGreater : GoodIn wsL_law wsL_setGreater := goodIn_ca (goodIn_ca (goodIn_r _ [247, 65, 226, 248, 249, 250, 2, 251, 70, 71, 231, 232, 73, 74, 75, 76, 77, 78, 233, 234, 235, 236, 28, 21, 148, 149, 150, 151, 15, 16, 98, 99, 100, 82, 83, 84, 85, 14, 17, 86, 87, 88, 89, 27, 90, 91, 92, 93, 94, 95, 96, 97, 101, 102, 103, 104, 26, 105, 106, 107, 108, 20, 25, 18, 109, 110, 111, 112, 113, 114, 115, 24, 116, 117, 34, 118, 119, 120, 121, 33, 122, 123, 124, 125, 35, 37, 36, 38, 40, 39, 126, 127, 128, 129, 130, 131, 132, 133, 134, 135, 136, 137, 138, 139, 140, 72, 141, 142, 143, 144, 145, 146, 147, 416, 417, 418, 419, 420, 421, 422, 423, 424, 425, 426, 427, 446, 447, 448, 449, 450, 451, 452, 453] (by decide +kernel) (by decide +kernel)) (goodIn_sub (fun _ h => List.mem_append_left _ (List.mem_append_left _ (List.mem_append_right _ h))) (by decide +kernel))) (goodIn_sub (fun _ h => List.mem_append_left _ (List.mem_append_right _ h)) (by decide +kernel))
set_option maxRecDepth 20000 in
theorem gL_law_L_setGreater : GoodIn wsL_law (va_wsS RL 87 yL_setGreater wsL_setGreater) := goodIn_app (goodIn_of _ (by decide +kernel)) ggL_law_L_setGreater
set_option maxRecDepth 20000 in
theorem ggL_law_X2_setGreater : GoodIn wsL_law wsX2_setGreater := goodIn_r _ [255, 156, 159, 160, 5, 161, 162, 163, 164, 165, 166, 167, 168, 169, 170, 171, 241, 242, 243, 244, 54, 180, 181, 182, 183, 45, 46, 191, 192, 193, 194, 47, 172, 173, 174, 175, 48, 51, 176, 177, 178, 179, 56, 50, 49, 184, 185, 186, 187, 55, 188, 189, 190, 195, 196, 197, 198, 57, 58, 60, 199, 59, 200, 201, 202, 203, 204, 205, 206, 158, 157, 207, 208, 209, 210, 53, 211, 212, 213, 214, 215, 216, 217, 218, 428, 429, 430, 431, 432, 433, 434, 435, 436, 437, 438, 439, 440, 441, 442, 443, 444, 445] (by decide +kernel) (by decide +kernel)
set_option maxRecDepth 20000 in
theorem gL_law_X2_setGreater : GoodIn wsL_law (wsV RL 90 RX2 yX2_setGreater wsX2_setGreater) := goodIn_app (goodIn_of _ (by decide +kernel)) ggL_law_X2_setGreater
set_option maxRecDepth 20000 in
theorem ggL_law_L_setTimes : GoodIn wsL_law wsL_setTimes := goodIn_ca (goodIn_ca (goodIn_r _ [258, 65, 226, 259, 260, 261, 2, 262, 70, 71, 231, 232, 73, 74, 75, 76, 77, 78, 79, 80, 81, 233, 234, 235, 236, 28, 21, 148, 149, 150, 151, 15, 16, 98, 99, 100, 82, 83, 84, 85, 14, 17, 86, 87, 88, 89, 27, 90, 91, 92, 93, 94, 95, 96, 97, 101, 102, 103, 104, 26, 105, 106, 107, 108, 20, 25, 18, 109, 110, 111, 112, 113, 114, 115, 24, 116, 117, 34, 118, 119, 120, 121, 33, 122, 123, 124, 125, 35, 37, 36, 38, 40, 39, 126, 127, 128, 129, 130, 131, 132, 133, 134, 135, 136, 137, 138, 139, 140, 72, 141, 142, 143, 144, 145, 146, 147, 416, 417, 418, 419, 420, 421, 422, 423, 424, 425, 426, 427, 446, 447, 448, 449, 450, 451, 452, 453] (by decide +kernel) (by decide +kernel)) (goodIn_sub (fun _ h => List.mem_append_left _ (List.mem_append_left _ (List.mem_append_right _ h))) (by decide +kernel))) (goodIn_sub (fun _ h => List.mem_append_left _ (List.mem_append_right _ h)) (by decide +kernel))
set_option maxRecDepth 20000 in
theorem gL_law_L_setTimes : GoodIn wsL_law (va_wsS RL 91 yL_setTimes wsL_setTimes) := goodIn_app (goodIn_of _ (by decide +kernel)) ggL_law_L_setTimes
set_option maxRecDepth 20000 in
theorem ggL_law_X2_setTimes : GoodIn wsL_law wsX2_setTimes := goodIn_r _ [266, 156, 159, 160, 5, 161, 162, 163, 164, 165, 166, 167, 168, 169, 170, 171, 241, 242, 243, 244, 54, 180, 181, 182, 183, 45, 46, 191, 192, 193, 194, 47, 172, 173, 174, 175, 48, 51, 176, 177, 178, 179, 56, 50, 49, 184, 185, 186, 187, 55, 188, 189, 190, 195, 196, 197, 198, 57, 58, 60, 199, 59, 200, 201, 202, 203, 204, 205, 206, 158, 157, 207, 208, 209, 210, 53, 211, 212, 213, 214, 215, 216, 217, 218, 428, 429, 430, 431, 432, 433, 434, 435, 436, 437, 438, 439, 440, 441, 442, 443, 444, 445] (by decide +kernel) (by decide +kernel)
set_option maxRecDepth 20000 in
theorem gL_law_X2_setTimes : GoodIn wsL_law (wsV RL 93 RX2 yX2_setTimes wsX2_setTimes) := goodIn_app (goodIn_of _ (by decide +kernel)) ggL_law_X2_setTimes
set_option maxRecDepth 20000 in
theorem ggL_law_L_refresh : GoodIn wsL_law wsL_refresh := goodIn_ca (goodIn_r _ [269, 65, 270, 271, 272, 2, 273, 70, 71, 73, 74, 75, 101, 102, 103, 104, 26, 144, 145, 146, 147, 21, 20, 76, 77, 78, 148, 149, 150, 151, 15, 16, 98, 99, 100, 105, 106, 107, 108, 25, 18, 109, 110, 111, 112, 113, 114, 115, 24, 116, 117, 34, 118, 119, 120, 121, 33, 122, 123, 124, 125, 35, 37, 36, 38, 40, 39, 126, 127, 128, 129, 14, 17, 130, 131, 132, 133, 134, 135, 136, 137, 138, 139, 140, 72, 141, 142, 143, 416, 417, 418, 419, 420, 421, 422, 423, 424, 425, 426, 427, 446, 447, 448, 449, 450, 451, 452, 453] (by decide +kernel) (by decide +kernel)) (goodIn_sub (fun _ h => List.mem_append_left _ (List.mem_append_left _ (List.mem_append_right _ h))) (by decide +kernel))
set_option maxRecDepth 20000 in
theorem gL_law_L_refresh : GoodIn wsL_law (va_wsS RL 94 yL_refresh wsL_refresh) := goodIn_app (goodIn_of _ (by decide +kernel)) ggL_law_L_refresh
set_option maxRecDepth 20000 in
theorem ggL_law_X2_refresh : GoodIn wsL_law wsX2_refresh := goodIn_r _ [277, 156, 51, 162, 163, 5, 164, 168, 169, 170, 171, 207, 208, 209, 210, 53, 50, 211, 212, 213, 214, 54, 180, 181, 182, 183, 45, 46, 191, 192, 193, 194, 47, 215, 216, 217, 218, 176, 177, 178, 179, 56, 49, 184, 185, 186, 187, 55, 188, 189, 190, 195, 196, 197, 198, 57, 58, 60, 199, 59, 200, 201, 202, 203, 48, 204, 205, 206, 158, 157, 428, 429, 430, 431, 432, 433, 434, 435, 436, 437, 438, 439, 440, 441, 442, 443, 444, 445] (by decide +kernel) (by decide +kernel)
set_option maxRecDepth 20000 in
theorem gL_law_X2_refresh : GoodIn wsL_law (wsV RL 97 RX2 yX2_refresh wsX2_refresh) := goodIn_app (goodIn_of _ (by decide +kernel)) ggL_law_X2_refresh
set_option maxRecDepth 20000 in
theorem ggL_law_L_setPrice : GoodIn wsL_law wsL_setPrice := goodIn_ca (goodIn_r _ [280, 65, 281, 282, 283, 2, 284, 70, 71, 25, 285, 286, 287, 416, 417, 418, 419, 420, 421, 422, 423, 424, 425, 426, 427, 446, 447, 448, 449, 450, 451, 452, 453] (by decide +kernel) (by decide +kernel)) (goodIn_sub (fun _ h => List.mem_append_left _ (List.mem_append_left _ (List.mem_append_right _ h))) (by decide +kernel))
set_option maxRecDepth 20000 in
theorem gL_law_L_setPrice : GoodIn wsL_law (va_wsS RL 98 yL_setPrice wsL_setPrice) := goodIn_app (goodIn_of _ (by decide +kernel)) ggL_law_L_setPrice
set_option maxRecDepth 20000 in
theorem ggL_law_X2_setPrice : GoodIn wsL_law wsX2_setPrice := goodIn_r _ [291, 156, 55, 292, 293, 5, 294, 162, 163, 164, 168, 169, 170, 171, 428, 429, 430, 431, 432, 433, 434, 435, 436, 437, 438, 439, 440, 441, 442, 443, 444, 445] (by decide +kernel) (by decide +kernel)
set_option maxRecDepth 20000 in
theorem gL_law_X2_setPrice : GoodIn wsL_law (wsV RL 101 RX2 yX2_setPrice wsX2_setPrice) := goodIn_app (goodIn_of _ (by decide +kernel)) ggL_law_X2_setPrice
set_option maxRecDepth 20000 in
theorem ggL_law_L_grant : GoodIn wsL_law wsL_grant := goodIn_ca (goodIn_r _ [297, 65, 298, 299, 300, 2, 301, 70, 71, 25, 285, 286, 287, 416, 417, 418, 419, 420, 421, 422, 423, 424, 425, 426, 427, 446, 447, 448, 449, 450, 451, 452, 453] (by decide +kernel) (by decide +kernel)) (goodIn_sub (fun _ h => List.mem_append_left _ (List.mem_append_left _ (List.mem_append_right _ h))) (by decide +kernel))
set_option maxRecDepth 20000 in
theorem gL_law_L_grant : GoodIn wsL_law (va_wsS RL 102 yL_grant wsL_grant) := goodIn_app (goodIn_of _ (by decide +kernel)) ggL_law_L_grant
set_option maxRecDepth 20000 in
theorem ggL_law_X2_grant : GoodIn wsL_law wsX2_grant := goodIn_r _ [305, 156, 56, 292, 293, 5, 294, 162, 163, 164, 168, 169, 170, 171, 428, 429, 430, 431, 432, 433, 434, 435, 436, 437, 438, 439, 440, 441, 442, 443, 444, 445] (by decide +kernel) (by decide +kernel)
set_option maxRecDepth 20000 in
theorem gL_law_X2_grant : GoodIn wsL_law (wsV RL 104 RX2 yX2_grant wsX2_grant) := goodIn_app (goodIn_of _ (by decide +kernel)) ggL_law_X2_grant
set_option maxRecDepth 20000 in
theorem ggL_law_L_budget : GoodIn wsL_law wsL_budget := goodIn_ca (goodIn_r _ [308, 65, 309, 310, 311, 2, 312, 70, 71, 25, 285, 286, 287, 416, 417, 418, 419, 420, 421, 422, 423, 424, 425, 426, 427, 446, 447, 448, 449, 450, 451, 452, 453] (by decide +kernel) (by decide +kernel)) (goodIn_sub (fun _ h => List.mem_append_left _ (List.mem_append_left _ (List.mem_append_right _ h))) (by decide +kernel))
set_option maxRecDepth 20000 in
theorem gL_law_L_budget : GoodIn wsL_law (va_wsS RL 105 yL_budget wsL_budget) := goodIn_app (goodIn_of _ (by decide +kernel)) ggL_law_L_budget
set_option maxRecDepth 20000 in
theorem ggL_law_X2_budget : GoodIn wsL_law wsX2_budget := goodIn_r _ [316, 156, 56, 292, 293, 5, 294, 162, 163, 164, 168, 169, 170, 171, 428, 429, 430, 431, 432, 433, 434, 435, 436, 437, 438, 439, 440, 441, 442, 443, 444, 445] (by decide +kernel) (by decide +kernel)
set_option maxRecDepth 20000 in
theorem gL_law_X2_budget : GoodIn wsL_law (wsV RL 107 RX2 yX2_budget wsX2_budget) := goodIn_app (goodIn_of _ (by decide +kernel)) ggL_law_X2_budget
set_option maxRecDepth 20000 in
theorem ggL_law_L_earned : GoodIn wsL_law wsL_earned := goodIn_ca (goodIn_r _ [319, 65, 320, 321, 322, 2, 323, 70, 71, 25, 285, 286, 287, 416, 417, 418, 419, 420, 421, 422, 423, 424, 425, 426, 427, 446, 447, 448, 449, 450, 451, 452, 453] (by decide +kernel) (by decide +kernel)) (goodIn_sub (fun _ h => List.mem_append_left _ (List.mem_append_left _ (List.mem_append_right _ h))) (by decide +kernel))
set_option maxRecDepth 20000 in
theorem gL_law_L_earned : GoodIn wsL_law (va_wsS RL 108 yL_earned wsL_earned) := goodIn_app (goodIn_of _ (by decide +kernel)) ggL_law_L_earned
set_option maxRecDepth 20000 in
theorem ggL_law_X2_earned : GoodIn wsL_law wsX2_earned := goodIn_r _ [327, 156, 57, 292, 293, 5, 294, 162, 163, 164, 168, 169, 170, 171, 428, 429, 430, 431, 432, 433, 434, 435, 436, 437, 438, 439, 440, 441, 442, 443, 444, 445] (by decide +kernel) (by decide +kernel)
set_option maxRecDepth 20000 in
theorem gL_law_X2_earned : GoodIn wsL_law (wsV RL 110 RX2 yX2_earned wsX2_earned) := goodIn_app (goodIn_of _ (by decide +kernel)) ggL_law_X2_earned
set_option maxRecDepth 20000 in
theorem ggL_law_L_caused : GoodIn wsL_law wsL_caused := goodIn_ca (goodIn_r _ [330, 65, 331, 332, 333, 2, 334, 70, 71, 25, 73, 74, 75, 416, 417, 418, 419, 420, 421, 422, 423, 424, 425, 426, 427, 446, 447, 448, 449, 450, 451, 452, 453] (by decide +kernel) (by decide +kernel)) (goodIn_sub (fun _ h => List.mem_append_left _ (List.mem_append_left _ (List.mem_append_right _ h))) (by decide +kernel))
set_option maxRecDepth 20000 in
theorem gL_law_L_caused : GoodIn wsL_law (va_wsS RL 111 yL_caused wsL_caused) := goodIn_app (goodIn_of _ (by decide +kernel)) ggL_law_L_caused
set_option maxRecDepth 20000 in
theorem ggL_law_X2_caused : GoodIn wsL_law wsX2_caused := goodIn_r _ [338, 156, 58, 162, 163, 5, 164, 168, 169, 170, 171, 428, 429, 430, 431, 432, 433, 434, 435, 436, 437, 438, 439, 440, 441, 442, 443, 444, 445] (by decide +kernel) (by decide +kernel)
set_option maxRecDepth 20000 in
theorem gL_law_X2_caused : GoodIn wsL_law (wsV RL 113 RX2 yX2_caused wsX2_caused) := goodIn_app (goodIn_of _ (by decide +kernel)) ggL_law_X2_caused
set_option maxRecDepth 20000 in
theorem ggL_law_L_value : GoodIn wsL_law wsL_value := goodIn_ca (goodIn_r _ [341, 65, 342, 343, 344, 2, 345, 70, 71, 18, 76, 77, 78, 416, 417, 418, 419, 420, 421, 422, 423, 424, 425, 426, 427] (by decide +kernel) (by decide +kernel)) (goodIn_sub (fun _ h => List.mem_append_left _ (List.mem_append_left _ (List.mem_append_right _ h))) (by decide +kernel))
set_option maxRecDepth 20000 in
theorem gL_law_L_value : GoodIn wsL_law (va_wsS RL 114 yL_value wsL_value) := goodIn_app (goodIn_of _ (by decide +kernel)) ggL_law_L_value
set_option maxRecDepth 20000 in
theorem ggL_law_X2_value : GoodIn wsL_law wsX2_value := goodIn_r _ [349, 156, 49, 165, 166, 5, 167, 162, 163, 164, 168, 169, 170, 171, 428, 429, 430, 431, 432, 433, 434, 435, 436, 437, 438, 439, 440, 441, 442, 443, 444, 445] (by decide +kernel) (by decide +kernel)
set_option maxRecDepth 20000 in
theorem gL_law_X2_value : GoodIn wsL_law (wsV RL 116 RX2 yX2_value wsX2_value) := goodIn_app (goodIn_of _ (by decide +kernel)) ggL_law_X2_value
set_option maxRecDepth 20000 in
theorem ggL_law_L_isMarked : GoodIn wsL_law wsL_isMarked := goodIn_ca (goodIn_r _ [352, 65, 353, 354, 355, 2, 356, 70, 71, 20, 76, 77, 78, 416, 417, 418, 419, 420, 421, 422, 423, 424, 425, 426, 427] (by decide +kernel) (by decide +kernel)) (goodIn_sub (fun _ h => List.mem_append_left _ (List.mem_append_left _ (List.mem_append_right _ h))) (by decide +kernel))
set_option maxRecDepth 20000 in
theorem gL_law_L_isMarked : GoodIn wsL_law (va_wsS RL 117 yL_isMarked wsL_isMarked) := goodIn_app (goodIn_of _ (by decide +kernel)) ggL_law_L_isMarked
set_option maxRecDepth 20000 in
theorem ggL_law_X2_isMarked : GoodIn wsL_law wsX2_isMarked := goodIn_r _ [360, 156, 50, 165, 166, 5, 167, 162, 163, 164, 168, 169, 170, 171, 428, 429, 430, 431, 432, 433, 434, 435, 436, 437, 438, 439, 440, 441, 442, 443, 444, 445] (by decide +kernel) (by decide +kernel)
set_option maxRecDepth 20000 in
theorem gL_law_X2_isMarked : GoodIn wsL_law (wsV RL 119 RX2 yX2_isMarked wsX2_isMarked) := goodIn_app (goodIn_of _ (by decide +kernel)) ggL_law_X2_isMarked
set_option maxRecDepth 20000 in
theorem ggL_law_L_valueAnew : GoodIn wsL_law wsL_valueAnew := goodIn_ca (goodIn_r _ [363, 65, 364, 365, 366, 2, 367, 70, 71, 21, 29, 76, 77, 78, 126, 127, 128, 129, 15, 16, 14, 17, 130, 131, 132, 133, 134, 135, 136, 137, 138, 139, 140, 72, 141, 142, 143, 416, 417, 418, 419, 420, 421, 422, 423, 424, 425, 426, 427] (by decide +kernel) (by decide +kernel)) (goodIn_sub (fun _ h => List.mem_append_left _ (List.mem_append_left _ (List.mem_append_right _ h))) (by decide +kernel))
set_option maxRecDepth 20000 in
theorem gL_law_L_valueAnew : GoodIn wsL_law (va_wsS RL 120 yL_valueAnew wsL_valueAnew) := goodIn_app (goodIn_of _ (by decide +kernel)) ggL_law_L_valueAnew
set_option maxRecDepth 20000 in
theorem ggL_law_X2_valueAnew : GoodIn wsL_law wsX2_valueAnew := goodIn_r _ [371, 156, 52, 53, 165, 166, 5, 167, 162, 163, 164, 168, 169, 170, 171, 211, 212, 213, 214, 54, 180, 181, 182, 183, 45, 46, 191, 192, 193, 194, 47, 200, 201, 202, 203, 48, 204, 205, 206, 158, 157, 428, 429, 430, 431, 432, 433, 434, 435, 436, 437, 438, 439, 440, 441, 442, 443, 444, 445] (by decide +kernel) (by decide +kernel)
set_option maxRecDepth 20000 in
theorem gL_law_X2_valueAnew : GoodIn wsL_law (wsV RL 122 RX2 yX2_valueAnew wsX2_valueAnew) := goodIn_app (goodIn_of _ (by decide +kernel)) ggL_law_X2_valueAnew
set_option maxRecDepth 20000 in
theorem ggL_law_X1_readings : GoodIn wsL_law wsX1_readings := goodIn_r _ [375, 25, 416, 417, 418, 419, 420, 421, 422, 423, 424, 425, 426, 427, 446, 447, 448, 449, 450, 451, 452, 453] (by decide +kernel) (by decide +kernel)
set_option maxRecDepth 20000 in
theorem gL_law_X1_readings : GoodIn wsL_law (wsV RL 123 RX1 yX1_readings wsX1_readings) := goodIn_app (goodIn_of _ (by decide +kernel)) ggL_law_X1_readings
set_option maxRecDepth 20000 in
theorem ggL_law_X2_readings : GoodIn wsL_law wsX2_readings := goodIn_r _ [379, 156, 199, 428, 429, 430, 431, 432, 433, 434, 435, 436, 437, 438, 439, 440, 441, 442, 443, 444, 445] (by decide +kernel) (by decide +kernel)
set_option maxRecDepth 20000 in
theorem gL_law_X2_readings : GoodIn wsL_law (wsV RL 126 RX2 yX2_readings wsX2_readings) := goodIn_app (goodIn_of _ (by decide +kernel)) ggL_law_X2_readings
set_option maxRecDepth 20000 in
theorem ggL_law_L_reading : GoodIn wsL_law wsL_reading := goodIn_ca (goodIn_r _ [382, 383, 384, 385, 386, 2, 387, 388, 389, 25, 416, 417, 418, 419, 420, 421, 422, 423, 424, 425, 426, 427, 446, 447, 448, 449, 450, 451, 452, 453] (by decide +kernel) (by decide +kernel)) (goodIn_sub (fun _ h => List.mem_append_right _ h) (by decide +kernel))
set_option maxRecDepth 20000 in
theorem gL_law_L_reading : GoodIn wsL_law (va_wsS RL 127 yL_reading wsL_reading) := goodIn_app (goodIn_of _ (by decide +kernel)) ggL_law_L_reading
set_option maxRecDepth 20000 in
theorem ggL_law_X2_reading : GoodIn wsL_law wsX2_reading := goodIn_r _ [393, 156, 199, 59, 162, 163, 5, 164, 168, 169, 170, 171, 428, 429, 430, 431, 432, 433, 434, 435, 436, 437, 438, 439, 440, 441, 442, 443, 444, 445] (by decide +kernel) (by decide +kernel)
set_option maxRecDepth 20000 in
theorem gL_law_X2_reading : GoodIn wsL_law (wsV RL 129 RX2 yX2_reading wsX2_reading) := goodIn_app (goodIn_of _ (by decide +kernel)) ggL_law_X2_reading
set_option maxRecDepth 20000 in
theorem ggL_law_L_timesRead : GoodIn wsL_law wsL_timesRead := goodIn_ca (goodIn_r _ [396, 65, 397, 398, 399, 2, 400, 70, 71, 25, 76, 77, 78, 416, 417, 418, 419, 420, 421, 422, 423, 424, 425, 426, 427, 446, 447, 448, 449, 450, 451, 452, 453] (by decide +kernel) (by decide +kernel)) (goodIn_sub (fun _ h => List.mem_append_left _ (List.mem_append_left _ (List.mem_append_right _ h))) (by decide +kernel))
set_option maxRecDepth 20000 in
theorem gL_law_L_timesRead : GoodIn wsL_law (va_wsS RL 130 yL_timesRead wsL_timesRead) := goodIn_app (goodIn_of _ (by decide +kernel)) ggL_law_L_timesRead
set_option maxRecDepth 20000 in
theorem ggL_law_X2_timesRead : GoodIn wsL_law wsX2_timesRead := goodIn_r _ [404, 156, 60, 165, 166, 5, 167, 162, 163, 164, 168, 169, 170, 171, 428, 429, 430, 431, 432, 433, 434, 435, 436, 437, 438, 439, 440, 441, 442, 443, 444, 445] (by decide +kernel) (by decide +kernel)
set_option maxRecDepth 20000 in
theorem gL_law_X2_timesRead : GoodIn wsL_law (wsV RL 132 RX2 yX2_timesRead wsX2_timesRead) := goodIn_app (goodIn_of _ (by decide +kernel)) ggL_law_X2_timesRead
set_option maxRecDepth 20000 in
theorem ggL_law_L_readOf : GoodIn wsL_law wsL_readOf := goodIn_ca (goodIn_r _ [407, 65, 408, 409, 410, 2, 411, 70, 71, 25, 285, 286, 287, 416, 417, 418, 419, 420, 421, 422, 423, 424, 425, 426, 427, 446, 447, 448, 449, 450, 451, 452, 453] (by decide +kernel) (by decide +kernel)) (goodIn_sub (fun _ h => List.mem_append_left _ (List.mem_append_left _ (List.mem_append_right _ h))) (by decide +kernel))
set_option maxRecDepth 20000 in
theorem gL_law_L_readOf : GoodIn wsL_law (va_wsS RL 133 yL_readOf wsL_readOf) := goodIn_app (goodIn_of _ (by decide +kernel)) ggL_law_L_readOf
set_option maxRecDepth 20000 in
theorem ggL_law_X2_readOf : GoodIn wsL_law wsX2_readOf := goodIn_r _ [415, 156, 60, 292, 293, 5, 294, 162, 163, 164, 168, 169, 170, 171, 428, 429, 430, 431, 432, 433, 434, 435, 436, 437, 438, 439, 440, 441, 442, 443, 444, 445] (by decide +kernel) (by decide +kernel)
set_option maxRecDepth 20000 in
theorem gL_law_X2_readOf : GoodIn wsL_law (wsV RL 135 RX2 yX2_readOf wsX2_readOf) := goodIn_app (goodIn_of _ (by decide +kernel)) ggL_law_X2_readOf
theorem dL_law_0 : decode cL_law 0 = .ok (.new 8, 3) := by decide +kernel
theorem dL_law_3 : decode cL_law 3 = .ok (.dup, 1) := by decide +kernel
theorem dL_law_4 : decode cL_law 4 = .ok (.invokespecial 69, 3) := by decide +kernel
theorem dL_law_7 : decode cL_law 7 = .ok (.astore_n 1, 1) := by decide +kernel
theorem dL_law_8 : decode cL_law 8 = .ok (.new 70, 3) := by decide +kernel
theorem dL_law_11 : decode cL_law 11 = .ok (.dup, 1) := by decide +kernel
theorem dL_law_12 : decode cL_law 12 = .ok (.invokespecial 72, 3) := by decide +kernel
theorem dL_law_15 : decode cL_law 15 = .ok (.astore_n 2, 1) := by decide +kernel
theorem dL_law_16 : decode cL_law 16 = .ok (.iconst 1, 1) := by decide +kernel
theorem dL_law_17 : decode cL_law 17 = .ok (.newarray .long, 2) := by decide +kernel
theorem dL_law_19 : decode cL_law 19 = .ok (.astore_n 3, 1) := by decide +kernel
theorem dL_law_20 : decode cL_law 20 = .ok (.iconst 0, 1) := by decide +kernel
theorem dL_law_21 : decode cL_law 21 = .ok (.istore 4, 2) := by decide +kernel
theorem dL_law_23 : decode cL_law 23 = .ok (.iload 4, 2) := by decide +kernel
theorem dL_law_25 : decode cL_law 25 = .ok (.aload_n 0, 1) := by decide +kernel
theorem dL_law_26 : decode cL_law 26 = .ok (.arraylength, 1) := by decide +kernel
theorem dL_law_27 : decode cL_law 27 = .ok (.bipush 6, 2) := by decide +kernel
theorem dL_law_29 : decode cL_law 29 = .ok (.isub, 1) := by decide +kernel
theorem dL_law_30 : decode cL_law 30 = .ok (.if_icmp .gt 1196, 3) := by decide +kernel
theorem dL_law_33 : decode cL_law 33 = .ok (.aload_n 0, 1) := by decide +kernel
theorem dL_law_34 : decode cL_law 34 = .ok (.iload 4, 2) := by decide +kernel
theorem dL_law_36 : decode cL_law 36 = .ok (.iaload, 1) := by decide +kernel
theorem dL_law_37 : decode cL_law 37 = .ok (.bipush 31, 2) := by decide +kernel
theorem dL_law_39 : decode cL_law 39 = .ok (.iand, 1) := by decide +kernel
theorem dL_law_40 : decode cL_law 40 = .ok (.tableswitch 1180 0 16 #[84, 164, 268, 360, 452, 508, 576, 644, 700, 756, 812, 868, 931, 987, 1000, 1056, 1124], 84) := by decide +kernel
theorem dL_law_124 : decode cL_law 124 = .ok (.aload_n 1, 1) := by decide +kernel
theorem dL_law_125 : decode cL_law 125 = .ok (.aload_n 0, 1) := by decide +kernel
theorem dL_law_126 : decode cL_law 126 = .ok (.iload 4, 2) := by decide +kernel
theorem dL_law_128 : decode cL_law 128 = .ok (.iconst 1, 1) := by decide +kernel
theorem dL_law_129 : decode cL_law 129 = .ok (.iadd, 1) := by decide +kernel
theorem dL_law_130 : decode cL_law 130 = .ok (.iaload, 1) := by decide +kernel
theorem dL_law_131 : decode cL_law 131 = .ok (.aload_n 0, 1) := by decide +kernel
theorem dL_law_132 : decode cL_law 132 = .ok (.iload 4, 2) := by decide +kernel
theorem dL_law_134 : decode cL_law 134 = .ok (.iconst 2, 1) := by decide +kernel
theorem dL_law_135 : decode cL_law 135 = .ok (.iadd, 1) := by decide +kernel
theorem dL_law_136 : decode cL_law 136 = .ok (.iaload, 1) := by decide +kernel
theorem dL_law_137 : decode cL_law 137 = .ok (.aload_n 0, 1) := by decide +kernel
theorem dL_law_138 : decode cL_law 138 = .ok (.iload 4, 2) := by decide +kernel
theorem dL_law_140 : decode cL_law 140 = .ok (.iconst 3, 1) := by decide +kernel
theorem dL_law_141 : decode cL_law 141 = .ok (.iadd, 1) := by decide +kernel
theorem dL_law_142 : decode cL_law 142 = .ok (.iaload, 1) := by decide +kernel
theorem dL_law_143 : decode cL_law 143 = .ok (.aload_n 3, 1) := by decide +kernel
theorem dL_law_144 : decode cL_law 144 = .ok (.invokestatic 73, 3) := by decide +kernel
theorem dL_law_147 : decode cL_law 147 = .ok (.istore 5, 2) := by decide +kernel
theorem dL_law_149 : decode cL_law 149 = .ok (.aload_n 2, 1) := by decide +kernel
theorem dL_law_150 : decode cL_law 150 = .ok (.aload_n 0, 1) := by decide +kernel
theorem dL_law_151 : decode cL_law 151 = .ok (.iload 4, 2) := by decide +kernel
theorem dL_law_153 : decode cL_law 153 = .ok (.iconst 1, 1) := by decide +kernel
theorem dL_law_154 : decode cL_law 154 = .ok (.iadd, 1) := by decide +kernel
theorem dL_law_155 : decode cL_law 155 = .ok (.iaload, 1) := by decide +kernel
theorem dL_law_156 : decode cL_law 156 = .ok (.aload_n 0, 1) := by decide +kernel
theorem dL_law_157 : decode cL_law 157 = .ok (.iload 4, 2) := by decide +kernel
theorem dL_law_159 : decode cL_law 159 = .ok (.iconst 2, 1) := by decide +kernel
theorem dL_law_160 : decode cL_law 160 = .ok (.iadd, 1) := by decide +kernel
theorem dL_law_161 : decode cL_law 161 = .ok (.iaload, 1) := by decide +kernel
theorem dL_law_162 : decode cL_law 162 = .ok (.aload_n 0, 1) := by decide +kernel
theorem dL_law_163 : decode cL_law 163 = .ok (.iload 4, 2) := by decide +kernel
theorem dL_law_165 : decode cL_law 165 = .ok (.iconst 3, 1) := by decide +kernel
theorem dL_law_166 : decode cL_law 166 = .ok (.iadd, 1) := by decide +kernel
theorem dL_law_167 : decode cL_law 167 = .ok (.iaload, 1) := by decide +kernel
theorem dL_law_168 : decode cL_law 168 = .ok (.invokevirtual 78, 3) := by decide +kernel
theorem dL_law_171 : decode cL_law 171 = .ok (.istore 6, 2) := by decide +kernel
theorem dL_law_173 : decode cL_law 173 = .ok (.aload_n 2, 1) := by decide +kernel
theorem dL_law_174 : decode cL_law 174 = .ok (.invokevirtual 79, 3) := by decide +kernel
theorem dL_law_177 : decode cL_law 177 = .ok (.iload 5, 2) := by decide +kernel
theorem dL_law_179 : decode cL_law 179 = .ok (.if_icmp .eq 5, 3) := by decide +kernel
theorem dL_law_182 : decode cL_law 182 = .ok (.iconst 0, 1) := by decide +kernel
theorem dL_law_183 : decode cL_law 183 = .ok (.ireturn, 1) := by decide +kernel
theorem dL_law_184 : decode cL_law 184 = .ok (.iload 5, 2) := by decide +kernel
theorem dL_law_186 : decode cL_law 186 = .ok (.ifCond .ne 15, 3) := by decide +kernel
theorem dL_law_189 : decode cL_law 189 = .ok (.aload_n 3, 1) := by decide +kernel
theorem dL_law_190 : decode cL_law 190 = .ok (.iconst 0, 1) := by decide +kernel
theorem dL_law_191 : decode cL_law 191 = .ok (.laload, 1) := by decide +kernel
theorem dL_law_192 : decode cL_law 192 = .ok (.iload 6, 2) := by decide +kernel
theorem dL_law_194 : decode cL_law 194 = .ok (.i2l, 1) := by decide +kernel
theorem dL_law_195 : decode cL_law 195 = .ok (.lcmp, 1) := by decide +kernel
theorem dL_law_196 : decode cL_law 196 = .ok (.ifCond .eq 5, 3) := by decide +kernel
theorem dL_law_199 : decode cL_law 199 = .ok (.iconst 0, 1) := by decide +kernel
theorem dL_law_200 : decode cL_law 200 = .ok (.ireturn, 1) := by decide +kernel
theorem dL_law_201 : decode cL_law 201 = .ok (.goto 1019, 3) := by decide +kernel
theorem dL_law_204 : decode cL_law 204 = .ok (.aload_n 1, 1) := by decide +kernel
theorem dL_law_205 : decode cL_law 205 = .ok (.aload_n 0, 1) := by decide +kernel
theorem dL_law_206 : decode cL_law 206 = .ok (.iload 4, 2) := by decide +kernel
theorem dL_law_208 : decode cL_law 208 = .ok (.iconst 1, 1) := by decide +kernel
theorem dL_law_209 : decode cL_law 209 = .ok (.iadd, 1) := by decide +kernel
theorem dL_law_210 : decode cL_law 210 = .ok (.iaload, 1) := by decide +kernel
theorem dL_law_211 : decode cL_law 211 = .ok (.aload_n 0, 1) := by decide +kernel
theorem dL_law_212 : decode cL_law 212 = .ok (.iload 4, 2) := by decide +kernel
theorem dL_law_214 : decode cL_law 214 = .ok (.iconst 2, 1) := by decide +kernel
theorem dL_law_215 : decode cL_law 215 = .ok (.iadd, 1) := by decide +kernel
theorem dL_law_216 : decode cL_law 216 = .ok (.iaload, 1) := by decide +kernel
theorem dL_law_217 : decode cL_law 217 = .ok (.aload_n 0, 1) := by decide +kernel
theorem dL_law_218 : decode cL_law 218 = .ok (.iload 4, 2) := by decide +kernel
theorem dL_law_220 : decode cL_law 220 = .ok (.iconst 3, 1) := by decide +kernel
theorem dL_law_221 : decode cL_law 221 = .ok (.iadd, 1) := by decide +kernel
theorem dL_law_222 : decode cL_law 222 = .ok (.iaload, 1) := by decide +kernel
theorem dL_law_223 : decode cL_law 223 = .ok (.aload_n 0, 1) := by decide +kernel
theorem dL_law_224 : decode cL_law 224 = .ok (.iload 4, 2) := by decide +kernel
theorem dL_law_226 : decode cL_law 226 = .ok (.iconst 4, 1) := by decide +kernel
theorem dL_law_227 : decode cL_law 227 = .ok (.iadd, 1) := by decide +kernel
theorem dL_law_228 : decode cL_law 228 = .ok (.iaload, 1) := by decide +kernel
theorem dL_law_229 : decode cL_law 229 = .ok (.aload_n 0, 1) := by decide +kernel
theorem dL_law_230 : decode cL_law 230 = .ok (.iload 4, 2) := by decide +kernel
theorem dL_law_232 : decode cL_law 232 = .ok (.iconst 5, 1) := by decide +kernel
theorem dL_law_233 : decode cL_law 233 = .ok (.iadd, 1) := by decide +kernel
theorem dL_law_234 : decode cL_law 234 = .ok (.iaload, 1) := by decide +kernel
theorem dL_law_235 : decode cL_law 235 = .ok (.aload_n 3, 1) := by decide +kernel
theorem dL_law_236 : decode cL_law 236 = .ok (.invokestatic 83, 3) := by decide +kernel
theorem dL_law_239 : decode cL_law 239 = .ok (.istore 5, 2) := by decide +kernel
theorem dL_law_241 : decode cL_law 241 = .ok (.aload_n 2, 1) := by decide +kernel
theorem dL_law_242 : decode cL_law 242 = .ok (.aload_n 0, 1) := by decide +kernel
theorem dL_law_243 : decode cL_law 243 = .ok (.iload 4, 2) := by decide +kernel
theorem dL_law_245 : decode cL_law 245 = .ok (.iconst 1, 1) := by decide +kernel
theorem dL_law_246 : decode cL_law 246 = .ok (.iadd, 1) := by decide +kernel
theorem dL_law_247 : decode cL_law 247 = .ok (.iaload, 1) := by decide +kernel
theorem dL_law_248 : decode cL_law 248 = .ok (.aload_n 0, 1) := by decide +kernel
theorem dL_law_249 : decode cL_law 249 = .ok (.iload 4, 2) := by decide +kernel
theorem dL_law_251 : decode cL_law 251 = .ok (.iconst 2, 1) := by decide +kernel
theorem dL_law_252 : decode cL_law 252 = .ok (.iadd, 1) := by decide +kernel
theorem dL_law_253 : decode cL_law 253 = .ok (.iaload, 1) := by decide +kernel
theorem dL_law_254 : decode cL_law 254 = .ok (.aload_n 0, 1) := by decide +kernel
theorem dL_law_255 : decode cL_law 255 = .ok (.iload 4, 2) := by decide +kernel
theorem dL_law_257 : decode cL_law 257 = .ok (.iconst 3, 1) := by decide +kernel
theorem dL_law_258 : decode cL_law 258 = .ok (.iadd, 1) := by decide +kernel
theorem dL_law_259 : decode cL_law 259 = .ok (.iaload, 1) := by decide +kernel
theorem dL_law_260 : decode cL_law 260 = .ok (.aload_n 0, 1) := by decide +kernel
theorem dL_law_261 : decode cL_law 261 = .ok (.iload 4, 2) := by decide +kernel
theorem dL_law_263 : decode cL_law 263 = .ok (.iconst 4, 1) := by decide +kernel
theorem dL_law_264 : decode cL_law 264 = .ok (.iadd, 1) := by decide +kernel
theorem dL_law_265 : decode cL_law 265 = .ok (.iaload, 1) := by decide +kernel
theorem dL_law_266 : decode cL_law 266 = .ok (.aload_n 0, 1) := by decide +kernel
theorem dL_law_267 : decode cL_law 267 = .ok (.iload 4, 2) := by decide +kernel
theorem dL_law_269 : decode cL_law 269 = .ok (.iconst 5, 1) := by decide +kernel
theorem dL_law_270 : decode cL_law 270 = .ok (.iadd, 1) := by decide +kernel
theorem dL_law_271 : decode cL_law 271 = .ok (.iaload, 1) := by decide +kernel
theorem dL_law_272 : decode cL_law 272 = .ok (.invokevirtual 86, 3) := by decide +kernel
theorem dL_law_275 : decode cL_law 275 = .ok (.istore 6, 2) := by decide +kernel
theorem dL_law_277 : decode cL_law 277 = .ok (.aload_n 2, 1) := by decide +kernel
theorem dL_law_278 : decode cL_law 278 = .ok (.invokevirtual 79, 3) := by decide +kernel
theorem dL_law_281 : decode cL_law 281 = .ok (.iload 5, 2) := by decide +kernel
theorem dL_law_283 : decode cL_law 283 = .ok (.if_icmp .eq 5, 3) := by decide +kernel
theorem dL_law_286 : decode cL_law 286 = .ok (.iconst 0, 1) := by decide +kernel
theorem dL_law_287 : decode cL_law 287 = .ok (.ireturn, 1) := by decide +kernel
theorem dL_law_288 : decode cL_law 288 = .ok (.iload 5, 2) := by decide +kernel
theorem dL_law_290 : decode cL_law 290 = .ok (.ifCond .ne 15, 3) := by decide +kernel
theorem dL_law_293 : decode cL_law 293 = .ok (.aload_n 3, 1) := by decide +kernel
theorem dL_law_294 : decode cL_law 294 = .ok (.iconst 0, 1) := by decide +kernel
theorem dL_law_295 : decode cL_law 295 = .ok (.laload, 1) := by decide +kernel
theorem dL_law_296 : decode cL_law 296 = .ok (.iload 6, 2) := by decide +kernel
theorem dL_law_298 : decode cL_law 298 = .ok (.i2l, 1) := by decide +kernel
theorem dL_law_299 : decode cL_law 299 = .ok (.lcmp, 1) := by decide +kernel
theorem dL_law_300 : decode cL_law 300 = .ok (.ifCond .eq 5, 3) := by decide +kernel
theorem dL_law_303 : decode cL_law 303 = .ok (.iconst 0, 1) := by decide +kernel
theorem dL_law_304 : decode cL_law 304 = .ok (.ireturn, 1) := by decide +kernel
theorem dL_law_305 : decode cL_law 305 = .ok (.goto 915, 3) := by decide +kernel
theorem dL_law_308 : decode cL_law 308 = .ok (.aload_n 1, 1) := by decide +kernel
theorem dL_law_309 : decode cL_law 309 = .ok (.aload_n 0, 1) := by decide +kernel
theorem dL_law_310 : decode cL_law 310 = .ok (.iload 4, 2) := by decide +kernel
theorem dL_law_312 : decode cL_law 312 = .ok (.iconst 1, 1) := by decide +kernel
theorem dL_law_313 : decode cL_law 313 = .ok (.iadd, 1) := by decide +kernel
theorem dL_law_314 : decode cL_law 314 = .ok (.iaload, 1) := by decide +kernel
theorem dL_law_315 : decode cL_law 315 = .ok (.aload_n 0, 1) := by decide +kernel
theorem dL_law_316 : decode cL_law 316 = .ok (.iload 4, 2) := by decide +kernel
theorem dL_law_318 : decode cL_law 318 = .ok (.iconst 2, 1) := by decide +kernel
theorem dL_law_319 : decode cL_law 319 = .ok (.iadd, 1) := by decide +kernel
theorem dL_law_320 : decode cL_law 320 = .ok (.iaload, 1) := by decide +kernel
theorem dL_law_321 : decode cL_law 321 = .ok (.aload_n 0, 1) := by decide +kernel
theorem dL_law_322 : decode cL_law 322 = .ok (.iload 4, 2) := by decide +kernel
theorem dL_law_324 : decode cL_law 324 = .ok (.iconst 3, 1) := by decide +kernel
theorem dL_law_325 : decode cL_law 325 = .ok (.iadd, 1) := by decide +kernel
theorem dL_law_326 : decode cL_law 326 = .ok (.iaload, 1) := by decide +kernel
theorem dL_law_327 : decode cL_law 327 = .ok (.aload_n 0, 1) := by decide +kernel
theorem dL_law_328 : decode cL_law 328 = .ok (.iload 4, 2) := by decide +kernel
theorem dL_law_330 : decode cL_law 330 = .ok (.iconst 4, 1) := by decide +kernel
theorem dL_law_331 : decode cL_law 331 = .ok (.iadd, 1) := by decide +kernel
theorem dL_law_332 : decode cL_law 332 = .ok (.iaload, 1) := by decide +kernel
theorem dL_law_333 : decode cL_law 333 = .ok (.aload_n 3, 1) := by decide +kernel
theorem dL_law_334 : decode cL_law 334 = .ok (.invokestatic 87, 3) := by decide +kernel
theorem dL_law_337 : decode cL_law 337 = .ok (.istore 5, 2) := by decide +kernel
theorem dL_law_339 : decode cL_law 339 = .ok (.aload_n 2, 1) := by decide +kernel
theorem dL_law_340 : decode cL_law 340 = .ok (.aload_n 0, 1) := by decide +kernel
theorem dL_law_341 : decode cL_law 341 = .ok (.iload 4, 2) := by decide +kernel
theorem dL_law_343 : decode cL_law 343 = .ok (.iconst 1, 1) := by decide +kernel
theorem dL_law_344 : decode cL_law 344 = .ok (.iadd, 1) := by decide +kernel
theorem dL_law_345 : decode cL_law 345 = .ok (.iaload, 1) := by decide +kernel
theorem dL_law_346 : decode cL_law 346 = .ok (.aload_n 0, 1) := by decide +kernel
theorem dL_law_347 : decode cL_law 347 = .ok (.iload 4, 2) := by decide +kernel
theorem dL_law_349 : decode cL_law 349 = .ok (.iconst 2, 1) := by decide +kernel
theorem dL_law_350 : decode cL_law 350 = .ok (.iadd, 1) := by decide +kernel
theorem dL_law_351 : decode cL_law 351 = .ok (.iaload, 1) := by decide +kernel
theorem dL_law_352 : decode cL_law 352 = .ok (.aload_n 0, 1) := by decide +kernel
theorem dL_law_353 : decode cL_law 353 = .ok (.iload 4, 2) := by decide +kernel
theorem dL_law_355 : decode cL_law 355 = .ok (.iconst 3, 1) := by decide +kernel
theorem dL_law_356 : decode cL_law 356 = .ok (.iadd, 1) := by decide +kernel
theorem dL_law_357 : decode cL_law 357 = .ok (.iaload, 1) := by decide +kernel
theorem dL_law_358 : decode cL_law 358 = .ok (.aload_n 0, 1) := by decide +kernel
theorem dL_law_359 : decode cL_law 359 = .ok (.iload 4, 2) := by decide +kernel
theorem dL_law_361 : decode cL_law 361 = .ok (.iconst 4, 1) := by decide +kernel
theorem dL_law_362 : decode cL_law 362 = .ok (.iadd, 1) := by decide +kernel
theorem dL_law_363 : decode cL_law 363 = .ok (.iaload, 1) := by decide +kernel
theorem dL_law_364 : decode cL_law 364 = .ok (.invokevirtual 90, 3) := by decide +kernel
theorem dL_law_367 : decode cL_law 367 = .ok (.istore 6, 2) := by decide +kernel
theorem dL_law_369 : decode cL_law 369 = .ok (.aload_n 2, 1) := by decide +kernel
theorem dL_law_370 : decode cL_law 370 = .ok (.invokevirtual 79, 3) := by decide +kernel
theorem dL_law_373 : decode cL_law 373 = .ok (.iload 5, 2) := by decide +kernel
theorem dL_law_375 : decode cL_law 375 = .ok (.if_icmp .eq 5, 3) := by decide +kernel
theorem dL_law_378 : decode cL_law 378 = .ok (.iconst 0, 1) := by decide +kernel
theorem dL_law_379 : decode cL_law 379 = .ok (.ireturn, 1) := by decide +kernel
theorem dL_law_380 : decode cL_law 380 = .ok (.iload 5, 2) := by decide +kernel
theorem dL_law_382 : decode cL_law 382 = .ok (.ifCond .ne 15, 3) := by decide +kernel
theorem dL_law_385 : decode cL_law 385 = .ok (.aload_n 3, 1) := by decide +kernel
theorem dL_law_386 : decode cL_law 386 = .ok (.iconst 0, 1) := by decide +kernel
theorem dL_law_387 : decode cL_law 387 = .ok (.laload, 1) := by decide +kernel
theorem dL_law_388 : decode cL_law 388 = .ok (.iload 6, 2) := by decide +kernel
theorem dL_law_390 : decode cL_law 390 = .ok (.i2l, 1) := by decide +kernel
theorem dL_law_391 : decode cL_law 391 = .ok (.lcmp, 1) := by decide +kernel
theorem dL_law_392 : decode cL_law 392 = .ok (.ifCond .eq 5, 3) := by decide +kernel
theorem dL_law_395 : decode cL_law 395 = .ok (.iconst 0, 1) := by decide +kernel
theorem dL_law_396 : decode cL_law 396 = .ok (.ireturn, 1) := by decide +kernel
theorem dL_law_397 : decode cL_law 397 = .ok (.goto 823, 3) := by decide +kernel
theorem dL_law_400 : decode cL_law 400 = .ok (.aload_n 1, 1) := by decide +kernel
theorem dL_law_401 : decode cL_law 401 = .ok (.aload_n 0, 1) := by decide +kernel
theorem dL_law_402 : decode cL_law 402 = .ok (.iload 4, 2) := by decide +kernel
theorem dL_law_404 : decode cL_law 404 = .ok (.iconst 1, 1) := by decide +kernel
theorem dL_law_405 : decode cL_law 405 = .ok (.iadd, 1) := by decide +kernel
theorem dL_law_406 : decode cL_law 406 = .ok (.iaload, 1) := by decide +kernel
theorem dL_law_407 : decode cL_law 407 = .ok (.aload_n 0, 1) := by decide +kernel
theorem dL_law_408 : decode cL_law 408 = .ok (.iload 4, 2) := by decide +kernel
theorem dL_law_410 : decode cL_law 410 = .ok (.iconst 2, 1) := by decide +kernel
theorem dL_law_411 : decode cL_law 411 = .ok (.iadd, 1) := by decide +kernel
theorem dL_law_412 : decode cL_law 412 = .ok (.iaload, 1) := by decide +kernel
theorem dL_law_413 : decode cL_law 413 = .ok (.aload_n 0, 1) := by decide +kernel
theorem dL_law_414 : decode cL_law 414 = .ok (.iload 4, 2) := by decide +kernel
theorem dL_law_416 : decode cL_law 416 = .ok (.iconst 3, 1) := by decide +kernel
theorem dL_law_417 : decode cL_law 417 = .ok (.iadd, 1) := by decide +kernel
theorem dL_law_418 : decode cL_law 418 = .ok (.iaload, 1) := by decide +kernel
theorem dL_law_419 : decode cL_law 419 = .ok (.aload_n 0, 1) := by decide +kernel
theorem dL_law_420 : decode cL_law 420 = .ok (.iload 4, 2) := by decide +kernel
theorem dL_law_422 : decode cL_law 422 = .ok (.iconst 4, 1) := by decide +kernel
theorem dL_law_423 : decode cL_law 423 = .ok (.iadd, 1) := by decide +kernel
theorem dL_law_424 : decode cL_law 424 = .ok (.iaload, 1) := by decide +kernel
theorem dL_law_425 : decode cL_law 425 = .ok (.aload_n 3, 1) := by decide +kernel
theorem dL_law_426 : decode cL_law 426 = .ok (.invokestatic 91, 3) := by decide +kernel
theorem dL_law_429 : decode cL_law 429 = .ok (.istore 5, 2) := by decide +kernel
theorem dL_law_431 : decode cL_law 431 = .ok (.aload_n 2, 1) := by decide +kernel
theorem dL_law_432 : decode cL_law 432 = .ok (.aload_n 0, 1) := by decide +kernel
theorem dL_law_433 : decode cL_law 433 = .ok (.iload 4, 2) := by decide +kernel
theorem dL_law_435 : decode cL_law 435 = .ok (.iconst 1, 1) := by decide +kernel
theorem dL_law_436 : decode cL_law 436 = .ok (.iadd, 1) := by decide +kernel
theorem dL_law_437 : decode cL_law 437 = .ok (.iaload, 1) := by decide +kernel
theorem dL_law_438 : decode cL_law 438 = .ok (.aload_n 0, 1) := by decide +kernel
theorem dL_law_439 : decode cL_law 439 = .ok (.iload 4, 2) := by decide +kernel
theorem dL_law_441 : decode cL_law 441 = .ok (.iconst 2, 1) := by decide +kernel
theorem dL_law_442 : decode cL_law 442 = .ok (.iadd, 1) := by decide +kernel
theorem dL_law_443 : decode cL_law 443 = .ok (.iaload, 1) := by decide +kernel
theorem dL_law_444 : decode cL_law 444 = .ok (.aload_n 0, 1) := by decide +kernel
theorem dL_law_445 : decode cL_law 445 = .ok (.iload 4, 2) := by decide +kernel
theorem dL_law_447 : decode cL_law 447 = .ok (.iconst 3, 1) := by decide +kernel
theorem dL_law_448 : decode cL_law 448 = .ok (.iadd, 1) := by decide +kernel
theorem dL_law_449 : decode cL_law 449 = .ok (.iaload, 1) := by decide +kernel
theorem dL_law_450 : decode cL_law 450 = .ok (.aload_n 0, 1) := by decide +kernel
theorem dL_law_451 : decode cL_law 451 = .ok (.iload 4, 2) := by decide +kernel
theorem dL_law_453 : decode cL_law 453 = .ok (.iconst 4, 1) := by decide +kernel
theorem dL_law_454 : decode cL_law 454 = .ok (.iadd, 1) := by decide +kernel
theorem dL_law_455 : decode cL_law 455 = .ok (.iaload, 1) := by decide +kernel
theorem dL_law_456 : decode cL_law 456 = .ok (.invokevirtual 93, 3) := by decide +kernel
theorem dL_law_459 : decode cL_law 459 = .ok (.istore 6, 2) := by decide +kernel
theorem dL_law_461 : decode cL_law 461 = .ok (.aload_n 2, 1) := by decide +kernel
theorem dL_law_462 : decode cL_law 462 = .ok (.invokevirtual 79, 3) := by decide +kernel
theorem dL_law_465 : decode cL_law 465 = .ok (.iload 5, 2) := by decide +kernel
theorem dL_law_467 : decode cL_law 467 = .ok (.if_icmp .eq 5, 3) := by decide +kernel
theorem dL_law_470 : decode cL_law 470 = .ok (.iconst 0, 1) := by decide +kernel
theorem dL_law_471 : decode cL_law 471 = .ok (.ireturn, 1) := by decide +kernel
theorem dL_law_472 : decode cL_law 472 = .ok (.iload 5, 2) := by decide +kernel
theorem dL_law_474 : decode cL_law 474 = .ok (.ifCond .ne 15, 3) := by decide +kernel
theorem dL_law_477 : decode cL_law 477 = .ok (.aload_n 3, 1) := by decide +kernel
theorem dL_law_478 : decode cL_law 478 = .ok (.iconst 0, 1) := by decide +kernel
theorem dL_law_479 : decode cL_law 479 = .ok (.laload, 1) := by decide +kernel
theorem dL_law_480 : decode cL_law 480 = .ok (.iload 6, 2) := by decide +kernel
theorem dL_law_482 : decode cL_law 482 = .ok (.i2l, 1) := by decide +kernel
theorem dL_law_483 : decode cL_law 483 = .ok (.lcmp, 1) := by decide +kernel
theorem dL_law_484 : decode cL_law 484 = .ok (.ifCond .eq 5, 3) := by decide +kernel
theorem dL_law_487 : decode cL_law 487 = .ok (.iconst 0, 1) := by decide +kernel
theorem dL_law_488 : decode cL_law 488 = .ok (.ireturn, 1) := by decide +kernel
theorem dL_law_489 : decode cL_law 489 = .ok (.goto 731, 3) := by decide +kernel
theorem dL_law_492 : decode cL_law 492 = .ok (.aload_n 1, 1) := by decide +kernel
theorem dL_law_493 : decode cL_law 493 = .ok (.aload_n 0, 1) := by decide +kernel
theorem dL_law_494 : decode cL_law 494 = .ok (.iload 4, 2) := by decide +kernel
theorem dL_law_496 : decode cL_law 496 = .ok (.iconst 1, 1) := by decide +kernel
theorem dL_law_497 : decode cL_law 497 = .ok (.iadd, 1) := by decide +kernel
theorem dL_law_498 : decode cL_law 498 = .ok (.iaload, 1) := by decide +kernel
theorem dL_law_499 : decode cL_law 499 = .ok (.aload_n 3, 1) := by decide +kernel
theorem dL_law_500 : decode cL_law 500 = .ok (.invokestatic 94, 3) := by decide +kernel
theorem dL_law_503 : decode cL_law 503 = .ok (.istore 5, 2) := by decide +kernel
theorem dL_law_505 : decode cL_law 505 = .ok (.aload_n 2, 1) := by decide +kernel
theorem dL_law_506 : decode cL_law 506 = .ok (.aload_n 0, 1) := by decide +kernel
theorem dL_law_507 : decode cL_law 507 = .ok (.iload 4, 2) := by decide +kernel
theorem dL_law_509 : decode cL_law 509 = .ok (.iconst 1, 1) := by decide +kernel
theorem dL_law_510 : decode cL_law 510 = .ok (.iadd, 1) := by decide +kernel
theorem dL_law_511 : decode cL_law 511 = .ok (.iaload, 1) := by decide +kernel
theorem dL_law_512 : decode cL_law 512 = .ok (.invokevirtual 97, 3) := by decide +kernel
theorem dL_law_515 : decode cL_law 515 = .ok (.istore 6, 2) := by decide +kernel
theorem dL_law_517 : decode cL_law 517 = .ok (.aload_n 2, 1) := by decide +kernel
theorem dL_law_518 : decode cL_law 518 = .ok (.invokevirtual 79, 3) := by decide +kernel
theorem dL_law_521 : decode cL_law 521 = .ok (.iload 5, 2) := by decide +kernel
theorem dL_law_523 : decode cL_law 523 = .ok (.if_icmp .eq 5, 3) := by decide +kernel
theorem dL_law_526 : decode cL_law 526 = .ok (.iconst 0, 1) := by decide +kernel
theorem dL_law_527 : decode cL_law 527 = .ok (.ireturn, 1) := by decide +kernel
theorem dL_law_528 : decode cL_law 528 = .ok (.iload 5, 2) := by decide +kernel
theorem dL_law_530 : decode cL_law 530 = .ok (.ifCond .ne 15, 3) := by decide +kernel
theorem dL_law_533 : decode cL_law 533 = .ok (.aload_n 3, 1) := by decide +kernel
theorem dL_law_534 : decode cL_law 534 = .ok (.iconst 0, 1) := by decide +kernel
theorem dL_law_535 : decode cL_law 535 = .ok (.laload, 1) := by decide +kernel
theorem dL_law_536 : decode cL_law 536 = .ok (.iload 6, 2) := by decide +kernel
theorem dL_law_538 : decode cL_law 538 = .ok (.i2l, 1) := by decide +kernel
theorem dL_law_539 : decode cL_law 539 = .ok (.lcmp, 1) := by decide +kernel
theorem dL_law_540 : decode cL_law 540 = .ok (.ifCond .eq 5, 3) := by decide +kernel
theorem dL_law_543 : decode cL_law 543 = .ok (.iconst 0, 1) := by decide +kernel
theorem dL_law_544 : decode cL_law 544 = .ok (.ireturn, 1) := by decide +kernel
theorem dL_law_545 : decode cL_law 545 = .ok (.goto 675, 3) := by decide +kernel
theorem dL_law_548 : decode cL_law 548 = .ok (.aload_n 1, 1) := by decide +kernel
theorem dL_law_549 : decode cL_law 549 = .ok (.aload_n 0, 1) := by decide +kernel
theorem dL_law_550 : decode cL_law 550 = .ok (.iload 4, 2) := by decide +kernel
theorem dL_law_552 : decode cL_law 552 = .ok (.iconst 1, 1) := by decide +kernel
theorem dL_law_553 : decode cL_law 553 = .ok (.iadd, 1) := by decide +kernel
theorem dL_law_554 : decode cL_law 554 = .ok (.iaload, 1) := by decide +kernel
theorem dL_law_555 : decode cL_law 555 = .ok (.aload_n 0, 1) := by decide +kernel
theorem dL_law_556 : decode cL_law 556 = .ok (.iload 4, 2) := by decide +kernel
theorem dL_law_558 : decode cL_law 558 = .ok (.iconst 2, 1) := by decide +kernel
theorem dL_law_559 : decode cL_law 559 = .ok (.iadd, 1) := by decide +kernel
theorem dL_law_560 : decode cL_law 560 = .ok (.iaload, 1) := by decide +kernel
theorem dL_law_561 : decode cL_law 561 = .ok (.aload_n 3, 1) := by decide +kernel
theorem dL_law_562 : decode cL_law 562 = .ok (.invokestatic 98, 3) := by decide +kernel
theorem dL_law_565 : decode cL_law 565 = .ok (.istore 5, 2) := by decide +kernel
theorem dL_law_567 : decode cL_law 567 = .ok (.aload_n 2, 1) := by decide +kernel
theorem dL_law_568 : decode cL_law 568 = .ok (.aload_n 0, 1) := by decide +kernel
theorem dL_law_569 : decode cL_law 569 = .ok (.iload 4, 2) := by decide +kernel
theorem dL_law_571 : decode cL_law 571 = .ok (.iconst 1, 1) := by decide +kernel
theorem dL_law_572 : decode cL_law 572 = .ok (.iadd, 1) := by decide +kernel
theorem dL_law_573 : decode cL_law 573 = .ok (.iaload, 1) := by decide +kernel
theorem dL_law_574 : decode cL_law 574 = .ok (.aload_n 0, 1) := by decide +kernel
theorem dL_law_575 : decode cL_law 575 = .ok (.iload 4, 2) := by decide +kernel
theorem dL_law_577 : decode cL_law 577 = .ok (.iconst 2, 1) := by decide +kernel
theorem dL_law_578 : decode cL_law 578 = .ok (.iadd, 1) := by decide +kernel
theorem dL_law_579 : decode cL_law 579 = .ok (.iaload, 1) := by decide +kernel
theorem dL_law_580 : decode cL_law 580 = .ok (.invokevirtual 101, 3) := by decide +kernel
theorem dL_law_583 : decode cL_law 583 = .ok (.istore 6, 2) := by decide +kernel
theorem dL_law_585 : decode cL_law 585 = .ok (.aload_n 2, 1) := by decide +kernel
theorem dL_law_586 : decode cL_law 586 = .ok (.invokevirtual 79, 3) := by decide +kernel
theorem dL_law_589 : decode cL_law 589 = .ok (.iload 5, 2) := by decide +kernel
theorem dL_law_591 : decode cL_law 591 = .ok (.if_icmp .eq 5, 3) := by decide +kernel
theorem dL_law_594 : decode cL_law 594 = .ok (.iconst 0, 1) := by decide +kernel
theorem dL_law_595 : decode cL_law 595 = .ok (.ireturn, 1) := by decide +kernel
theorem dL_law_596 : decode cL_law 596 = .ok (.iload 5, 2) := by decide +kernel
theorem dL_law_598 : decode cL_law 598 = .ok (.ifCond .ne 15, 3) := by decide +kernel
theorem dL_law_601 : decode cL_law 601 = .ok (.aload_n 3, 1) := by decide +kernel
theorem dL_law_602 : decode cL_law 602 = .ok (.iconst 0, 1) := by decide +kernel
theorem dL_law_603 : decode cL_law 603 = .ok (.laload, 1) := by decide +kernel
theorem dL_law_604 : decode cL_law 604 = .ok (.iload 6, 2) := by decide +kernel
theorem dL_law_606 : decode cL_law 606 = .ok (.i2l, 1) := by decide +kernel
theorem dL_law_607 : decode cL_law 607 = .ok (.lcmp, 1) := by decide +kernel
theorem dL_law_608 : decode cL_law 608 = .ok (.ifCond .eq 5, 3) := by decide +kernel
theorem dL_law_611 : decode cL_law 611 = .ok (.iconst 0, 1) := by decide +kernel
theorem dL_law_612 : decode cL_law 612 = .ok (.ireturn, 1) := by decide +kernel
theorem dL_law_613 : decode cL_law 613 = .ok (.goto 607, 3) := by decide +kernel
theorem dL_law_616 : decode cL_law 616 = .ok (.aload_n 1, 1) := by decide +kernel
theorem dL_law_617 : decode cL_law 617 = .ok (.aload_n 0, 1) := by decide +kernel
theorem dL_law_618 : decode cL_law 618 = .ok (.iload 4, 2) := by decide +kernel
theorem dL_law_620 : decode cL_law 620 = .ok (.iconst 1, 1) := by decide +kernel
theorem dL_law_621 : decode cL_law 621 = .ok (.iadd, 1) := by decide +kernel
theorem dL_law_622 : decode cL_law 622 = .ok (.iaload, 1) := by decide +kernel
theorem dL_law_623 : decode cL_law 623 = .ok (.aload_n 0, 1) := by decide +kernel
theorem dL_law_624 : decode cL_law 624 = .ok (.iload 4, 2) := by decide +kernel
theorem dL_law_626 : decode cL_law 626 = .ok (.iconst 2, 1) := by decide +kernel
theorem dL_law_627 : decode cL_law 627 = .ok (.iadd, 1) := by decide +kernel
theorem dL_law_628 : decode cL_law 628 = .ok (.iaload, 1) := by decide +kernel
theorem dL_law_629 : decode cL_law 629 = .ok (.aload_n 3, 1) := by decide +kernel
theorem dL_law_630 : decode cL_law 630 = .ok (.invokestatic 102, 3) := by decide +kernel
theorem dL_law_633 : decode cL_law 633 = .ok (.istore 5, 2) := by decide +kernel
theorem dL_law_635 : decode cL_law 635 = .ok (.aload_n 2, 1) := by decide +kernel
theorem dL_law_636 : decode cL_law 636 = .ok (.aload_n 0, 1) := by decide +kernel
theorem dL_law_637 : decode cL_law 637 = .ok (.iload 4, 2) := by decide +kernel
theorem dL_law_639 : decode cL_law 639 = .ok (.iconst 1, 1) := by decide +kernel
theorem dL_law_640 : decode cL_law 640 = .ok (.iadd, 1) := by decide +kernel
theorem dL_law_641 : decode cL_law 641 = .ok (.iaload, 1) := by decide +kernel
theorem dL_law_642 : decode cL_law 642 = .ok (.aload_n 0, 1) := by decide +kernel
theorem dL_law_643 : decode cL_law 643 = .ok (.iload 4, 2) := by decide +kernel
theorem dL_law_645 : decode cL_law 645 = .ok (.iconst 2, 1) := by decide +kernel
theorem dL_law_646 : decode cL_law 646 = .ok (.iadd, 1) := by decide +kernel
theorem dL_law_647 : decode cL_law 647 = .ok (.iaload, 1) := by decide +kernel
theorem dL_law_648 : decode cL_law 648 = .ok (.invokevirtual 104, 3) := by decide +kernel
theorem dL_law_651 : decode cL_law 651 = .ok (.istore 6, 2) := by decide +kernel
theorem dL_law_653 : decode cL_law 653 = .ok (.aload_n 2, 1) := by decide +kernel
theorem dL_law_654 : decode cL_law 654 = .ok (.invokevirtual 79, 3) := by decide +kernel
theorem dL_law_657 : decode cL_law 657 = .ok (.iload 5, 2) := by decide +kernel
theorem dL_law_659 : decode cL_law 659 = .ok (.if_icmp .eq 5, 3) := by decide +kernel
theorem dL_law_662 : decode cL_law 662 = .ok (.iconst 0, 1) := by decide +kernel
theorem dL_law_663 : decode cL_law 663 = .ok (.ireturn, 1) := by decide +kernel
theorem dL_law_664 : decode cL_law 664 = .ok (.iload 5, 2) := by decide +kernel
theorem dL_law_666 : decode cL_law 666 = .ok (.ifCond .ne 15, 3) := by decide +kernel
theorem dL_law_669 : decode cL_law 669 = .ok (.aload_n 3, 1) := by decide +kernel
theorem dL_law_670 : decode cL_law 670 = .ok (.iconst 0, 1) := by decide +kernel
theorem dL_law_671 : decode cL_law 671 = .ok (.laload, 1) := by decide +kernel
theorem dL_law_672 : decode cL_law 672 = .ok (.iload 6, 2) := by decide +kernel
theorem dL_law_674 : decode cL_law 674 = .ok (.i2l, 1) := by decide +kernel
theorem dL_law_675 : decode cL_law 675 = .ok (.lcmp, 1) := by decide +kernel
theorem dL_law_676 : decode cL_law 676 = .ok (.ifCond .eq 5, 3) := by decide +kernel
theorem dL_law_679 : decode cL_law 679 = .ok (.iconst 0, 1) := by decide +kernel
theorem dL_law_680 : decode cL_law 680 = .ok (.ireturn, 1) := by decide +kernel
theorem dL_law_681 : decode cL_law 681 = .ok (.goto 539, 3) := by decide +kernel
theorem dL_law_684 : decode cL_law 684 = .ok (.aload_n 1, 1) := by decide +kernel
theorem dL_law_685 : decode cL_law 685 = .ok (.aload_n 0, 1) := by decide +kernel
theorem dL_law_686 : decode cL_law 686 = .ok (.iload 4, 2) := by decide +kernel
theorem dL_law_688 : decode cL_law 688 = .ok (.iconst 1, 1) := by decide +kernel
theorem dL_law_689 : decode cL_law 689 = .ok (.iadd, 1) := by decide +kernel
theorem dL_law_690 : decode cL_law 690 = .ok (.iaload, 1) := by decide +kernel
theorem dL_law_691 : decode cL_law 691 = .ok (.aload_n 3, 1) := by decide +kernel
theorem dL_law_692 : decode cL_law 692 = .ok (.invokestatic 105, 3) := by decide +kernel
theorem dL_law_695 : decode cL_law 695 = .ok (.istore 5, 2) := by decide +kernel
theorem dL_law_697 : decode cL_law 697 = .ok (.aload_n 2, 1) := by decide +kernel
theorem dL_law_698 : decode cL_law 698 = .ok (.aload_n 0, 1) := by decide +kernel
theorem dL_law_699 : decode cL_law 699 = .ok (.iload 4, 2) := by decide +kernel
theorem dL_law_701 : decode cL_law 701 = .ok (.iconst 1, 1) := by decide +kernel
theorem dL_law_702 : decode cL_law 702 = .ok (.iadd, 1) := by decide +kernel
theorem dL_law_703 : decode cL_law 703 = .ok (.iaload, 1) := by decide +kernel
theorem dL_law_704 : decode cL_law 704 = .ok (.invokevirtual 107, 3) := by decide +kernel
theorem dL_law_707 : decode cL_law 707 = .ok (.istore 6, 2) := by decide +kernel
theorem dL_law_709 : decode cL_law 709 = .ok (.aload_n 2, 1) := by decide +kernel
theorem dL_law_710 : decode cL_law 710 = .ok (.invokevirtual 79, 3) := by decide +kernel
theorem dL_law_713 : decode cL_law 713 = .ok (.iload 5, 2) := by decide +kernel
theorem dL_law_715 : decode cL_law 715 = .ok (.if_icmp .eq 5, 3) := by decide +kernel
theorem dL_law_718 : decode cL_law 718 = .ok (.iconst 0, 1) := by decide +kernel
theorem dL_law_719 : decode cL_law 719 = .ok (.ireturn, 1) := by decide +kernel
theorem dL_law_720 : decode cL_law 720 = .ok (.iload 5, 2) := by decide +kernel
theorem dL_law_722 : decode cL_law 722 = .ok (.ifCond .ne 15, 3) := by decide +kernel
theorem dL_law_725 : decode cL_law 725 = .ok (.aload_n 3, 1) := by decide +kernel
theorem dL_law_726 : decode cL_law 726 = .ok (.iconst 0, 1) := by decide +kernel
theorem dL_law_727 : decode cL_law 727 = .ok (.laload, 1) := by decide +kernel
theorem dL_law_728 : decode cL_law 728 = .ok (.iload 6, 2) := by decide +kernel
theorem dL_law_730 : decode cL_law 730 = .ok (.i2l, 1) := by decide +kernel
theorem dL_law_731 : decode cL_law 731 = .ok (.lcmp, 1) := by decide +kernel
theorem dL_law_732 : decode cL_law 732 = .ok (.ifCond .eq 5, 3) := by decide +kernel
theorem dL_law_735 : decode cL_law 735 = .ok (.iconst 0, 1) := by decide +kernel
theorem dL_law_736 : decode cL_law 736 = .ok (.ireturn, 1) := by decide +kernel
theorem dL_law_737 : decode cL_law 737 = .ok (.goto 483, 3) := by decide +kernel
theorem dL_law_740 : decode cL_law 740 = .ok (.aload_n 1, 1) := by decide +kernel
theorem dL_law_741 : decode cL_law 741 = .ok (.aload_n 0, 1) := by decide +kernel
theorem dL_law_742 : decode cL_law 742 = .ok (.iload 4, 2) := by decide +kernel
theorem dL_law_744 : decode cL_law 744 = .ok (.iconst 1, 1) := by decide +kernel
theorem dL_law_745 : decode cL_law 745 = .ok (.iadd, 1) := by decide +kernel
theorem dL_law_746 : decode cL_law 746 = .ok (.iaload, 1) := by decide +kernel
theorem dL_law_747 : decode cL_law 747 = .ok (.aload_n 3, 1) := by decide +kernel
theorem dL_law_748 : decode cL_law 748 = .ok (.invokestatic 108, 3) := by decide +kernel
theorem dL_law_751 : decode cL_law 751 = .ok (.istore 5, 2) := by decide +kernel
theorem dL_law_753 : decode cL_law 753 = .ok (.aload_n 2, 1) := by decide +kernel
theorem dL_law_754 : decode cL_law 754 = .ok (.aload_n 0, 1) := by decide +kernel
theorem dL_law_755 : decode cL_law 755 = .ok (.iload 4, 2) := by decide +kernel
theorem dL_law_757 : decode cL_law 757 = .ok (.iconst 1, 1) := by decide +kernel
theorem dL_law_758 : decode cL_law 758 = .ok (.iadd, 1) := by decide +kernel
theorem dL_law_759 : decode cL_law 759 = .ok (.iaload, 1) := by decide +kernel
theorem dL_law_760 : decode cL_law 760 = .ok (.invokevirtual 110, 3) := by decide +kernel
theorem dL_law_763 : decode cL_law 763 = .ok (.istore 6, 2) := by decide +kernel
theorem dL_law_765 : decode cL_law 765 = .ok (.aload_n 2, 1) := by decide +kernel
theorem dL_law_766 : decode cL_law 766 = .ok (.invokevirtual 79, 3) := by decide +kernel
theorem dL_law_769 : decode cL_law 769 = .ok (.iload 5, 2) := by decide +kernel
theorem dL_law_771 : decode cL_law 771 = .ok (.if_icmp .eq 5, 3) := by decide +kernel
theorem dL_law_774 : decode cL_law 774 = .ok (.iconst 0, 1) := by decide +kernel
theorem dL_law_775 : decode cL_law 775 = .ok (.ireturn, 1) := by decide +kernel
theorem dL_law_776 : decode cL_law 776 = .ok (.iload 5, 2) := by decide +kernel
theorem dL_law_778 : decode cL_law 778 = .ok (.ifCond .ne 15, 3) := by decide +kernel
theorem dL_law_781 : decode cL_law 781 = .ok (.aload_n 3, 1) := by decide +kernel
theorem dL_law_782 : decode cL_law 782 = .ok (.iconst 0, 1) := by decide +kernel
theorem dL_law_783 : decode cL_law 783 = .ok (.laload, 1) := by decide +kernel
theorem dL_law_784 : decode cL_law 784 = .ok (.iload 6, 2) := by decide +kernel
theorem dL_law_786 : decode cL_law 786 = .ok (.i2l, 1) := by decide +kernel
theorem dL_law_787 : decode cL_law 787 = .ok (.lcmp, 1) := by decide +kernel
theorem dL_law_788 : decode cL_law 788 = .ok (.ifCond .eq 5, 3) := by decide +kernel
theorem dL_law_791 : decode cL_law 791 = .ok (.iconst 0, 1) := by decide +kernel
theorem dL_law_792 : decode cL_law 792 = .ok (.ireturn, 1) := by decide +kernel
theorem dL_law_793 : decode cL_law 793 = .ok (.goto 427, 3) := by decide +kernel
theorem dL_law_796 : decode cL_law 796 = .ok (.aload_n 1, 1) := by decide +kernel
theorem dL_law_797 : decode cL_law 797 = .ok (.aload_n 0, 1) := by decide +kernel
theorem dL_law_798 : decode cL_law 798 = .ok (.iload 4, 2) := by decide +kernel
theorem dL_law_800 : decode cL_law 800 = .ok (.iconst 1, 1) := by decide +kernel
theorem dL_law_801 : decode cL_law 801 = .ok (.iadd, 1) := by decide +kernel
theorem dL_law_802 : decode cL_law 802 = .ok (.iaload, 1) := by decide +kernel
theorem dL_law_803 : decode cL_law 803 = .ok (.aload_n 3, 1) := by decide +kernel
theorem dL_law_804 : decode cL_law 804 = .ok (.invokestatic 111, 3) := by decide +kernel
theorem dL_law_807 : decode cL_law 807 = .ok (.istore 5, 2) := by decide +kernel
theorem dL_law_809 : decode cL_law 809 = .ok (.aload_n 2, 1) := by decide +kernel
theorem dL_law_810 : decode cL_law 810 = .ok (.aload_n 0, 1) := by decide +kernel
theorem dL_law_811 : decode cL_law 811 = .ok (.iload 4, 2) := by decide +kernel
theorem dL_law_813 : decode cL_law 813 = .ok (.iconst 1, 1) := by decide +kernel
theorem dL_law_814 : decode cL_law 814 = .ok (.iadd, 1) := by decide +kernel
theorem dL_law_815 : decode cL_law 815 = .ok (.iaload, 1) := by decide +kernel
theorem dL_law_816 : decode cL_law 816 = .ok (.invokevirtual 113, 3) := by decide +kernel
theorem dL_law_819 : decode cL_law 819 = .ok (.istore 6, 2) := by decide +kernel
theorem dL_law_821 : decode cL_law 821 = .ok (.aload_n 2, 1) := by decide +kernel
theorem dL_law_822 : decode cL_law 822 = .ok (.invokevirtual 79, 3) := by decide +kernel
theorem dL_law_825 : decode cL_law 825 = .ok (.iload 5, 2) := by decide +kernel
theorem dL_law_827 : decode cL_law 827 = .ok (.if_icmp .eq 5, 3) := by decide +kernel
theorem dL_law_830 : decode cL_law 830 = .ok (.iconst 0, 1) := by decide +kernel
theorem dL_law_831 : decode cL_law 831 = .ok (.ireturn, 1) := by decide +kernel
theorem dL_law_832 : decode cL_law 832 = .ok (.iload 5, 2) := by decide +kernel
theorem dL_law_834 : decode cL_law 834 = .ok (.ifCond .ne 15, 3) := by decide +kernel
theorem dL_law_837 : decode cL_law 837 = .ok (.aload_n 3, 1) := by decide +kernel
theorem dL_law_838 : decode cL_law 838 = .ok (.iconst 0, 1) := by decide +kernel
theorem dL_law_839 : decode cL_law 839 = .ok (.laload, 1) := by decide +kernel
theorem dL_law_840 : decode cL_law 840 = .ok (.iload 6, 2) := by decide +kernel
theorem dL_law_842 : decode cL_law 842 = .ok (.i2l, 1) := by decide +kernel
theorem dL_law_843 : decode cL_law 843 = .ok (.lcmp, 1) := by decide +kernel
theorem dL_law_844 : decode cL_law 844 = .ok (.ifCond .eq 5, 3) := by decide +kernel
theorem dL_law_847 : decode cL_law 847 = .ok (.iconst 0, 1) := by decide +kernel
theorem dL_law_848 : decode cL_law 848 = .ok (.ireturn, 1) := by decide +kernel
theorem dL_law_849 : decode cL_law 849 = .ok (.goto 371, 3) := by decide +kernel
theorem dL_law_852 : decode cL_law 852 = .ok (.aload_n 1, 1) := by decide +kernel
theorem dL_law_853 : decode cL_law 853 = .ok (.aload_n 0, 1) := by decide +kernel
theorem dL_law_854 : decode cL_law 854 = .ok (.iload 4, 2) := by decide +kernel
theorem dL_law_856 : decode cL_law 856 = .ok (.iconst 1, 1) := by decide +kernel
theorem dL_law_857 : decode cL_law 857 = .ok (.iadd, 1) := by decide +kernel
theorem dL_law_858 : decode cL_law 858 = .ok (.iaload, 1) := by decide +kernel
theorem dL_law_859 : decode cL_law 859 = .ok (.aload_n 3, 1) := by decide +kernel
theorem dL_law_860 : decode cL_law 860 = .ok (.invokestatic 114, 3) := by decide +kernel
theorem dL_law_863 : decode cL_law 863 = .ok (.istore 5, 2) := by decide +kernel
theorem dL_law_865 : decode cL_law 865 = .ok (.aload_n 2, 1) := by decide +kernel
theorem dL_law_866 : decode cL_law 866 = .ok (.aload_n 0, 1) := by decide +kernel
theorem dL_law_867 : decode cL_law 867 = .ok (.iload 4, 2) := by decide +kernel
theorem dL_law_869 : decode cL_law 869 = .ok (.iconst 1, 1) := by decide +kernel
theorem dL_law_870 : decode cL_law 870 = .ok (.iadd, 1) := by decide +kernel
theorem dL_law_871 : decode cL_law 871 = .ok (.iaload, 1) := by decide +kernel
theorem dL_law_872 : decode cL_law 872 = .ok (.invokevirtual 116, 3) := by decide +kernel
theorem dL_law_875 : decode cL_law 875 = .ok (.istore 6, 2) := by decide +kernel
theorem dL_law_877 : decode cL_law 877 = .ok (.aload_n 2, 1) := by decide +kernel
theorem dL_law_878 : decode cL_law 878 = .ok (.invokevirtual 79, 3) := by decide +kernel
theorem dL_law_881 : decode cL_law 881 = .ok (.iload 5, 2) := by decide +kernel
theorem dL_law_883 : decode cL_law 883 = .ok (.if_icmp .eq 5, 3) := by decide +kernel
theorem dL_law_886 : decode cL_law 886 = .ok (.iconst 0, 1) := by decide +kernel
theorem dL_law_887 : decode cL_law 887 = .ok (.ireturn, 1) := by decide +kernel
theorem dL_law_888 : decode cL_law 888 = .ok (.iload 5, 2) := by decide +kernel
theorem dL_law_890 : decode cL_law 890 = .ok (.ifCond .ne 15, 3) := by decide +kernel
theorem dL_law_893 : decode cL_law 893 = .ok (.aload_n 3, 1) := by decide +kernel
theorem dL_law_894 : decode cL_law 894 = .ok (.iconst 0, 1) := by decide +kernel
theorem dL_law_895 : decode cL_law 895 = .ok (.laload, 1) := by decide +kernel
theorem dL_law_896 : decode cL_law 896 = .ok (.iload 6, 2) := by decide +kernel
theorem dL_law_898 : decode cL_law 898 = .ok (.i2l, 1) := by decide +kernel
theorem dL_law_899 : decode cL_law 899 = .ok (.lcmp, 1) := by decide +kernel
theorem dL_law_900 : decode cL_law 900 = .ok (.ifCond .eq 5, 3) := by decide +kernel
theorem dL_law_903 : decode cL_law 903 = .ok (.iconst 0, 1) := by decide +kernel
theorem dL_law_904 : decode cL_law 904 = .ok (.ireturn, 1) := by decide +kernel
theorem dL_law_905 : decode cL_law 905 = .ok (.goto 315, 3) := by decide +kernel
theorem dL_law_908 : decode cL_law 908 = .ok (.aload_n 1, 1) := by decide +kernel
theorem dL_law_909 : decode cL_law 909 = .ok (.aload_n 0, 1) := by decide +kernel
theorem dL_law_910 : decode cL_law 910 = .ok (.iload 4, 2) := by decide +kernel
theorem dL_law_912 : decode cL_law 912 = .ok (.iconst 1, 1) := by decide +kernel
theorem dL_law_913 : decode cL_law 913 = .ok (.iadd, 1) := by decide +kernel
theorem dL_law_914 : decode cL_law 914 = .ok (.iaload, 1) := by decide +kernel
theorem dL_law_915 : decode cL_law 915 = .ok (.aload_n 3, 1) := by decide +kernel
theorem dL_law_916 : decode cL_law 916 = .ok (.invokestatic 117, 3) := by decide +kernel
theorem dL_law_919 : decode cL_law 919 = .ok (.istore 5, 2) := by decide +kernel
theorem dL_law_921 : decode cL_law 921 = .ok (.aload_n 2, 1) := by decide +kernel
theorem dL_law_922 : decode cL_law 922 = .ok (.aload_n 0, 1) := by decide +kernel
theorem dL_law_923 : decode cL_law 923 = .ok (.iload 4, 2) := by decide +kernel
theorem dL_law_925 : decode cL_law 925 = .ok (.iconst 1, 1) := by decide +kernel
theorem dL_law_926 : decode cL_law 926 = .ok (.iadd, 1) := by decide +kernel
theorem dL_law_927 : decode cL_law 927 = .ok (.iaload, 1) := by decide +kernel
theorem dL_law_928 : decode cL_law 928 = .ok (.invokevirtual 119, 3) := by decide +kernel
theorem dL_law_931 : decode cL_law 931 = .ok (.istore 6, 2) := by decide +kernel
theorem dL_law_933 : decode cL_law 933 = .ok (.aload_n 2, 1) := by decide +kernel
theorem dL_law_934 : decode cL_law 934 = .ok (.invokevirtual 79, 3) := by decide +kernel
theorem dL_law_937 : decode cL_law 937 = .ok (.iload 5, 2) := by decide +kernel
theorem dL_law_939 : decode cL_law 939 = .ok (.if_icmp .eq 5, 3) := by decide +kernel
theorem dL_law_942 : decode cL_law 942 = .ok (.iconst 0, 1) := by decide +kernel
theorem dL_law_943 : decode cL_law 943 = .ok (.ireturn, 1) := by decide +kernel
theorem dL_law_944 : decode cL_law 944 = .ok (.iload 5, 2) := by decide +kernel
theorem dL_law_946 : decode cL_law 946 = .ok (.ifCond .ne 22, 3) := by decide +kernel
theorem dL_law_949 : decode cL_law 949 = .ok (.aload_n 3, 1) := by decide +kernel
theorem dL_law_950 : decode cL_law 950 = .ok (.iconst 0, 1) := by decide +kernel
theorem dL_law_951 : decode cL_law 951 = .ok (.laload, 1) := by decide +kernel
theorem dL_law_952 : decode cL_law 952 = .ok (.iload 6, 2) := by decide +kernel
theorem dL_law_954 : decode cL_law 954 = .ok (.ifCond .eq 7, 3) := by decide +kernel
theorem dL_law_957 : decode cL_law 957 = .ok (.lconst 1, 1) := by decide +kernel
theorem dL_law_958 : decode cL_law 958 = .ok (.goto 4, 3) := by decide +kernel
theorem dL_law_961 : decode cL_law 961 = .ok (.lconst 0, 1) := by decide +kernel
theorem dL_law_962 : decode cL_law 962 = .ok (.lcmp, 1) := by decide +kernel
theorem dL_law_963 : decode cL_law 963 = .ok (.ifCond .eq 5, 3) := by decide +kernel
theorem dL_law_966 : decode cL_law 966 = .ok (.iconst 0, 1) := by decide +kernel
theorem dL_law_967 : decode cL_law 967 = .ok (.ireturn, 1) := by decide +kernel
theorem dL_law_968 : decode cL_law 968 = .ok (.goto 252, 3) := by decide +kernel
theorem dL_law_971 : decode cL_law 971 = .ok (.aload_n 1, 1) := by decide +kernel
theorem dL_law_972 : decode cL_law 972 = .ok (.aload_n 0, 1) := by decide +kernel
theorem dL_law_973 : decode cL_law 973 = .ok (.iload 4, 2) := by decide +kernel
theorem dL_law_975 : decode cL_law 975 = .ok (.iconst 1, 1) := by decide +kernel
theorem dL_law_976 : decode cL_law 976 = .ok (.iadd, 1) := by decide +kernel
theorem dL_law_977 : decode cL_law 977 = .ok (.iaload, 1) := by decide +kernel
theorem dL_law_978 : decode cL_law 978 = .ok (.aload_n 3, 1) := by decide +kernel
theorem dL_law_979 : decode cL_law 979 = .ok (.invokestatic 120, 3) := by decide +kernel
theorem dL_law_982 : decode cL_law 982 = .ok (.istore 5, 2) := by decide +kernel
theorem dL_law_984 : decode cL_law 984 = .ok (.aload_n 2, 1) := by decide +kernel
theorem dL_law_985 : decode cL_law 985 = .ok (.aload_n 0, 1) := by decide +kernel
theorem dL_law_986 : decode cL_law 986 = .ok (.iload 4, 2) := by decide +kernel
theorem dL_law_988 : decode cL_law 988 = .ok (.iconst 1, 1) := by decide +kernel
theorem dL_law_989 : decode cL_law 989 = .ok (.iadd, 1) := by decide +kernel
theorem dL_law_990 : decode cL_law 990 = .ok (.iaload, 1) := by decide +kernel
theorem dL_law_991 : decode cL_law 991 = .ok (.invokevirtual 122, 3) := by decide +kernel
theorem dL_law_994 : decode cL_law 994 = .ok (.istore 6, 2) := by decide +kernel
theorem dL_law_996 : decode cL_law 996 = .ok (.aload_n 2, 1) := by decide +kernel
theorem dL_law_997 : decode cL_law 997 = .ok (.invokevirtual 79, 3) := by decide +kernel
theorem dL_law_1000 : decode cL_law 1000 = .ok (.iload 5, 2) := by decide +kernel
theorem dL_law_1002 : decode cL_law 1002 = .ok (.if_icmp .eq 5, 3) := by decide +kernel
theorem dL_law_1005 : decode cL_law 1005 = .ok (.iconst 0, 1) := by decide +kernel
theorem dL_law_1006 : decode cL_law 1006 = .ok (.ireturn, 1) := by decide +kernel
theorem dL_law_1007 : decode cL_law 1007 = .ok (.iload 5, 2) := by decide +kernel
theorem dL_law_1009 : decode cL_law 1009 = .ok (.ifCond .ne 15, 3) := by decide +kernel
theorem dL_law_1012 : decode cL_law 1012 = .ok (.aload_n 3, 1) := by decide +kernel
theorem dL_law_1013 : decode cL_law 1013 = .ok (.iconst 0, 1) := by decide +kernel
theorem dL_law_1014 : decode cL_law 1014 = .ok (.laload, 1) := by decide +kernel
theorem dL_law_1015 : decode cL_law 1015 = .ok (.iload 6, 2) := by decide +kernel
theorem dL_law_1017 : decode cL_law 1017 = .ok (.i2l, 1) := by decide +kernel
theorem dL_law_1018 : decode cL_law 1018 = .ok (.lcmp, 1) := by decide +kernel
theorem dL_law_1019 : decode cL_law 1019 = .ok (.ifCond .eq 5, 3) := by decide +kernel
theorem dL_law_1022 : decode cL_law 1022 = .ok (.iconst 0, 1) := by decide +kernel
theorem dL_law_1023 : decode cL_law 1023 = .ok (.ireturn, 1) := by decide +kernel
theorem dL_law_1024 : decode cL_law 1024 = .ok (.goto 196, 3) := by decide +kernel
theorem dL_law_1027 : decode cL_law 1027 = .ok (.aload_n 1, 1) := by decide +kernel
theorem dL_law_1028 : decode cL_law 1028 = .ok (.invokevirtual 123, 3) := by decide +kernel
theorem dL_law_1031 : decode cL_law 1031 = .ok (.aload_n 2, 1) := by decide +kernel
theorem dL_law_1032 : decode cL_law 1032 = .ok (.invokevirtual 126, 3) := by decide +kernel
theorem dL_law_1035 : decode cL_law 1035 = .ok (.if_icmp .eq 185, 3) := by decide +kernel
theorem dL_law_1038 : decode cL_law 1038 = .ok (.iconst 0, 1) := by decide +kernel
theorem dL_law_1039 : decode cL_law 1039 = .ok (.ireturn, 1) := by decide +kernel
theorem dL_law_1040 : decode cL_law 1040 = .ok (.aload_n 1, 1) := by decide +kernel
theorem dL_law_1041 : decode cL_law 1041 = .ok (.aload_n 0, 1) := by decide +kernel
theorem dL_law_1042 : decode cL_law 1042 = .ok (.iload 4, 2) := by decide +kernel
theorem dL_law_1044 : decode cL_law 1044 = .ok (.iconst 1, 1) := by decide +kernel
theorem dL_law_1045 : decode cL_law 1045 = .ok (.iadd, 1) := by decide +kernel
theorem dL_law_1046 : decode cL_law 1046 = .ok (.iaload, 1) := by decide +kernel
theorem dL_law_1047 : decode cL_law 1047 = .ok (.aload_n 3, 1) := by decide +kernel
theorem dL_law_1048 : decode cL_law 1048 = .ok (.invokestatic 127, 3) := by decide +kernel
theorem dL_law_1051 : decode cL_law 1051 = .ok (.istore 5, 2) := by decide +kernel
theorem dL_law_1053 : decode cL_law 1053 = .ok (.aload_n 2, 1) := by decide +kernel
theorem dL_law_1054 : decode cL_law 1054 = .ok (.aload_n 0, 1) := by decide +kernel
theorem dL_law_1055 : decode cL_law 1055 = .ok (.iload 4, 2) := by decide +kernel
theorem dL_law_1057 : decode cL_law 1057 = .ok (.iconst 1, 1) := by decide +kernel
theorem dL_law_1058 : decode cL_law 1058 = .ok (.iadd, 1) := by decide +kernel
theorem dL_law_1059 : decode cL_law 1059 = .ok (.iaload, 1) := by decide +kernel
theorem dL_law_1060 : decode cL_law 1060 = .ok (.invokevirtual 129, 3) := by decide +kernel
theorem dL_law_1063 : decode cL_law 1063 = .ok (.istore 6, 2) := by decide +kernel
theorem dL_law_1065 : decode cL_law 1065 = .ok (.aload_n 2, 1) := by decide +kernel
theorem dL_law_1066 : decode cL_law 1066 = .ok (.invokevirtual 79, 3) := by decide +kernel
theorem dL_law_1069 : decode cL_law 1069 = .ok (.iload 5, 2) := by decide +kernel
theorem dL_law_1071 : decode cL_law 1071 = .ok (.if_icmp .eq 5, 3) := by decide +kernel
theorem dL_law_1074 : decode cL_law 1074 = .ok (.iconst 0, 1) := by decide +kernel
theorem dL_law_1075 : decode cL_law 1075 = .ok (.ireturn, 1) := by decide +kernel
theorem dL_law_1076 : decode cL_law 1076 = .ok (.iload 5, 2) := by decide +kernel
theorem dL_law_1078 : decode cL_law 1078 = .ok (.ifCond .ne 15, 3) := by decide +kernel
theorem dL_law_1081 : decode cL_law 1081 = .ok (.aload_n 3, 1) := by decide +kernel
theorem dL_law_1082 : decode cL_law 1082 = .ok (.iconst 0, 1) := by decide +kernel
theorem dL_law_1083 : decode cL_law 1083 = .ok (.laload, 1) := by decide +kernel
theorem dL_law_1084 : decode cL_law 1084 = .ok (.iload 6, 2) := by decide +kernel
theorem dL_law_1086 : decode cL_law 1086 = .ok (.i2l, 1) := by decide +kernel
theorem dL_law_1087 : decode cL_law 1087 = .ok (.lcmp, 1) := by decide +kernel
theorem dL_law_1088 : decode cL_law 1088 = .ok (.ifCond .eq 5, 3) := by decide +kernel
theorem dL_law_1091 : decode cL_law 1091 = .ok (.iconst 0, 1) := by decide +kernel
theorem dL_law_1092 : decode cL_law 1092 = .ok (.ireturn, 1) := by decide +kernel
theorem dL_law_1093 : decode cL_law 1093 = .ok (.goto 127, 3) := by decide +kernel
theorem dL_law_1096 : decode cL_law 1096 = .ok (.aload_n 1, 1) := by decide +kernel
theorem dL_law_1097 : decode cL_law 1097 = .ok (.aload_n 0, 1) := by decide +kernel
theorem dL_law_1098 : decode cL_law 1098 = .ok (.iload 4, 2) := by decide +kernel
theorem dL_law_1100 : decode cL_law 1100 = .ok (.iconst 1, 1) := by decide +kernel
theorem dL_law_1101 : decode cL_law 1101 = .ok (.iadd, 1) := by decide +kernel
theorem dL_law_1102 : decode cL_law 1102 = .ok (.iaload, 1) := by decide +kernel
theorem dL_law_1103 : decode cL_law 1103 = .ok (.aload_n 0, 1) := by decide +kernel
theorem dL_law_1104 : decode cL_law 1104 = .ok (.iload 4, 2) := by decide +kernel
theorem dL_law_1106 : decode cL_law 1106 = .ok (.iconst 2, 1) := by decide +kernel
theorem dL_law_1107 : decode cL_law 1107 = .ok (.iadd, 1) := by decide +kernel
theorem dL_law_1108 : decode cL_law 1108 = .ok (.iaload, 1) := by decide +kernel
theorem dL_law_1109 : decode cL_law 1109 = .ok (.aload_n 3, 1) := by decide +kernel
theorem dL_law_1110 : decode cL_law 1110 = .ok (.invokestatic 130, 3) := by decide +kernel
theorem dL_law_1113 : decode cL_law 1113 = .ok (.istore 5, 2) := by decide +kernel
theorem dL_law_1115 : decode cL_law 1115 = .ok (.aload_n 2, 1) := by decide +kernel
theorem dL_law_1116 : decode cL_law 1116 = .ok (.aload_n 0, 1) := by decide +kernel
theorem dL_law_1117 : decode cL_law 1117 = .ok (.iload 4, 2) := by decide +kernel
theorem dL_law_1119 : decode cL_law 1119 = .ok (.iconst 1, 1) := by decide +kernel
theorem dL_law_1120 : decode cL_law 1120 = .ok (.iadd, 1) := by decide +kernel
theorem dL_law_1121 : decode cL_law 1121 = .ok (.iaload, 1) := by decide +kernel
theorem dL_law_1122 : decode cL_law 1122 = .ok (.aload_n 0, 1) := by decide +kernel
theorem dL_law_1123 : decode cL_law 1123 = .ok (.iload 4, 2) := by decide +kernel
theorem dL_law_1125 : decode cL_law 1125 = .ok (.iconst 2, 1) := by decide +kernel
theorem dL_law_1126 : decode cL_law 1126 = .ok (.iadd, 1) := by decide +kernel
theorem dL_law_1127 : decode cL_law 1127 = .ok (.iaload, 1) := by decide +kernel
theorem dL_law_1128 : decode cL_law 1128 = .ok (.invokevirtual 132, 3) := by decide +kernel
theorem dL_law_1131 : decode cL_law 1131 = .ok (.istore 6, 2) := by decide +kernel
theorem dL_law_1133 : decode cL_law 1133 = .ok (.aload_n 2, 1) := by decide +kernel
theorem dL_law_1134 : decode cL_law 1134 = .ok (.invokevirtual 79, 3) := by decide +kernel
theorem dL_law_1137 : decode cL_law 1137 = .ok (.iload 5, 2) := by decide +kernel
theorem dL_law_1139 : decode cL_law 1139 = .ok (.if_icmp .eq 5, 3) := by decide +kernel
theorem dL_law_1142 : decode cL_law 1142 = .ok (.iconst 0, 1) := by decide +kernel
theorem dL_law_1143 : decode cL_law 1143 = .ok (.ireturn, 1) := by decide +kernel
theorem dL_law_1144 : decode cL_law 1144 = .ok (.iload 5, 2) := by decide +kernel
theorem dL_law_1146 : decode cL_law 1146 = .ok (.ifCond .ne 15, 3) := by decide +kernel
theorem dL_law_1149 : decode cL_law 1149 = .ok (.aload_n 3, 1) := by decide +kernel
theorem dL_law_1150 : decode cL_law 1150 = .ok (.iconst 0, 1) := by decide +kernel
theorem dL_law_1151 : decode cL_law 1151 = .ok (.laload, 1) := by decide +kernel
theorem dL_law_1152 : decode cL_law 1152 = .ok (.iload 6, 2) := by decide +kernel
theorem dL_law_1154 : decode cL_law 1154 = .ok (.i2l, 1) := by decide +kernel
theorem dL_law_1155 : decode cL_law 1155 = .ok (.lcmp, 1) := by decide +kernel
theorem dL_law_1156 : decode cL_law 1156 = .ok (.ifCond .eq 5, 3) := by decide +kernel
theorem dL_law_1159 : decode cL_law 1159 = .ok (.iconst 0, 1) := by decide +kernel
theorem dL_law_1160 : decode cL_law 1160 = .ok (.ireturn, 1) := by decide +kernel
theorem dL_law_1161 : decode cL_law 1161 = .ok (.goto 59, 3) := by decide +kernel
theorem dL_law_1164 : decode cL_law 1164 = .ok (.aload_n 1, 1) := by decide +kernel
theorem dL_law_1165 : decode cL_law 1165 = .ok (.aload_n 0, 1) := by decide +kernel
theorem dL_law_1166 : decode cL_law 1166 = .ok (.iload 4, 2) := by decide +kernel
theorem dL_law_1168 : decode cL_law 1168 = .ok (.iconst 1, 1) := by decide +kernel
theorem dL_law_1169 : decode cL_law 1169 = .ok (.iadd, 1) := by decide +kernel
theorem dL_law_1170 : decode cL_law 1170 = .ok (.iaload, 1) := by decide +kernel
theorem dL_law_1171 : decode cL_law 1171 = .ok (.aload_n 3, 1) := by decide +kernel
theorem dL_law_1172 : decode cL_law 1172 = .ok (.invokestatic 133, 3) := by decide +kernel
theorem dL_law_1175 : decode cL_law 1175 = .ok (.istore 5, 2) := by decide +kernel
theorem dL_law_1177 : decode cL_law 1177 = .ok (.aload_n 2, 1) := by decide +kernel
theorem dL_law_1178 : decode cL_law 1178 = .ok (.aload_n 0, 1) := by decide +kernel
theorem dL_law_1179 : decode cL_law 1179 = .ok (.iload 4, 2) := by decide +kernel
theorem dL_law_1181 : decode cL_law 1181 = .ok (.iconst 1, 1) := by decide +kernel
theorem dL_law_1182 : decode cL_law 1182 = .ok (.iadd, 1) := by decide +kernel
theorem dL_law_1183 : decode cL_law 1183 = .ok (.iaload, 1) := by decide +kernel
theorem dL_law_1184 : decode cL_law 1184 = .ok (.invokevirtual 135, 3) := by decide +kernel
theorem dL_law_1187 : decode cL_law 1187 = .ok (.istore 6, 2) := by decide +kernel
theorem dL_law_1189 : decode cL_law 1189 = .ok (.aload_n 2, 1) := by decide +kernel
theorem dL_law_1190 : decode cL_law 1190 = .ok (.invokevirtual 79, 3) := by decide +kernel
theorem dL_law_1193 : decode cL_law 1193 = .ok (.iload 5, 2) := by decide +kernel
theorem dL_law_1195 : decode cL_law 1195 = .ok (.if_icmp .eq 5, 3) := by decide +kernel
theorem dL_law_1198 : decode cL_law 1198 = .ok (.iconst 0, 1) := by decide +kernel
theorem dL_law_1199 : decode cL_law 1199 = .ok (.ireturn, 1) := by decide +kernel
theorem dL_law_1200 : decode cL_law 1200 = .ok (.iload 5, 2) := by decide +kernel
theorem dL_law_1202 : decode cL_law 1202 = .ok (.ifCond .ne 15, 3) := by decide +kernel
theorem dL_law_1205 : decode cL_law 1205 = .ok (.aload_n 3, 1) := by decide +kernel
theorem dL_law_1206 : decode cL_law 1206 = .ok (.iconst 0, 1) := by decide +kernel
theorem dL_law_1207 : decode cL_law 1207 = .ok (.laload, 1) := by decide +kernel
theorem dL_law_1208 : decode cL_law 1208 = .ok (.iload 6, 2) := by decide +kernel
theorem dL_law_1210 : decode cL_law 1210 = .ok (.i2l, 1) := by decide +kernel
theorem dL_law_1211 : decode cL_law 1211 = .ok (.lcmp, 1) := by decide +kernel
theorem dL_law_1212 : decode cL_law 1212 = .ok (.ifCond .eq 5, 3) := by decide +kernel
theorem dL_law_1215 : decode cL_law 1215 = .ok (.iconst 0, 1) := by decide +kernel
theorem dL_law_1216 : decode cL_law 1216 = .ok (.ireturn, 1) := by decide +kernel
theorem dL_law_1217 : decode cL_law 1217 = .ok (.goto 3, 3) := by decide +kernel
theorem dL_law_1220 : decode cL_law 1220 = .ok (.iinc 4 6, 3) := by decide +kernel
theorem dL_law_1223 : decode cL_law 1223 = .ok (.goto (-1200), 3) := by decide +kernel
theorem dL_law_1226 : decode cL_law 1226 = .ok (.iconst 1, 1) := by decide +kernel
theorem dL_law_1227 : decode cL_law 1227 = .ok (.ireturn, 1) := by decide +kernel
abbrev vwCl : List vw_C := [(RX0, TX0, 8), (RX1, TX1, 12), (RX2, TX2, 18)]
end
section
/-! A LAYER OVER THE KIT'S ROWS: a method's walk over the memory of one family of objects.
vM: rows of ints by number. vC: what holds all through a walk. V: the walk's judgement, with the heap, the written places and the slots hidden. -/
abbrev vM : Type := Nat → Nat → Int32
def mR (u : vM) (q : Nat) (f : Nat → Int32) : vM := fun j => cond (Nat.beq j q) f (u j)
/-- place i of row q -/
def mrd (u : vM) (q : Nat) (i : Int32) : Int32 := u q i.toNatClampNeg
def mup (u : vM) (q : Nat) (i x : Int32) : vM := mR u q (upd (u q) i.toNatClampNeg x)
/-- an int field is a row of one number -/
def mfd (u : vM) (q : Nat) : Int32 := u q 0
def mst (u : vM) (q : Nat) (x : Int32) : vM := mR u q (fun _ => x)
theorem mup_ne {u : vM} {q q' : Nat} {i x : Int32} (h : q' ≠ q) : mup u q i x q' = u q' := by
  unfold mup mR
  rw [show Nat.beq q' q = false by cases hb : Nat.beq q' q with
    | true => exact absurd (Nat.eq_of_beq_eq_true hb) h
    | false => rfl]
  rfl
theorem mst_ne {u : vM} {q q' : Nat} {x : Int32} (h : q' ≠ q) : mst u q x q' = u q' := by
  unfold mst mR
  rw [show Nat.beq q' q = false by cases hb : Nat.beq q' q with
    | true => exact absurd (Nat.eq_of_beq_eq_true hb) h
    | false => rfl]
  rfl
def vC (p : Program) (s : State) (m : MethodId) (args : Array Value) (meth : Method) (c : Code) {S : Type} (D : va_G) (cl : List vw_C) (tys : List (ClassId × FieldType)) (X : State → Prop) (A : Nat → Prop) (w : S → va_W) (cc : ByteArray) (own : String) (Ts : List Cond) (nL : Nat) (rt : Option FieldType) : Prop :=
  p.tables.exec = Jvm.exec ∧ c.code = cc ∧ (∀ w ∈ Ts, w.before args s = true) ∧ s.vm.findClass own = some m.cls ∧ va_K D cl tys s ∧ (∀ u : S, va_D A (w u)) ∧ (∀ q, s.heap.size ≤ q → A q) ∧ c.maxLocals = nL ∧ meth.locks = false ∧ meth.sig.returnType = rt ∧ X s
def V (p : Program) (l : Launch) (e : Env) (R : Room) (s : State) (m : MethodId) (args : Array Value) (below : List Frame) (meth : Method) (c : Code) {S : Type} (D : va_G) (cl : List vw_C) (A : Nat → Prop) (w : S → va_W) (nL k n : Nat) (Q : State → Prop) (u : S) (pc : Nat) (ls : List (Nat × Value)) (st : List Value) : Prop :=
  ∀ (H : Heap) (locs : List Loc) (la : Array Slot), va_P D cl (w u) H → va_S A s.heap H locs → lv_has la nL ls → W p l e R s m args below meth c H locs k n Q (F0 m pc la st)
def lput (i : Nat) (v : Value) : List (Nat × Value) → List (Nat × Value)
  | [] => [(i, v)]
  | q :: r => cond (Nat.beq q.1 i) ((i, v) :: r.filter (fun z => !(Nat.beq z.1 i))) (q :: lput i v r)
theorem lput_mem {i : Nat} {v : Value} : ∀ {ls : List (Nat × Value)} {q : Nat × Value}, q ∈ lput i v ls → q = (i, v) ∨ (q ∈ ls ∧ q.1 ≠ i)
  | [], q, h => Or.inl (List.mem_singleton.mp h)
  | a :: r, q, h => by
    unfold lput at h
    cases hb : Nat.beq a.1 i with
    | true =>
      rw [hb] at h
      rcases List.mem_cons.mp h with h | h
      · exact Or.inl h
      · obtain ⟨h1, h2⟩ := List.mem_filter.mp h
        refine Or.inr ⟨List.mem_cons_of_mem _ h1, fun hq => ?_⟩
        rw [Nat.beq_eq.mpr hq] at h2
        cases h2
    | false =>
      rw [hb] at h
      rcases List.mem_cons.mp h with h | h
      · refine Or.inr ⟨by rw [h]; exact List.mem_cons_self, fun hq => ?_⟩
        rw [h] at hq
        rw [Nat.beq_eq.mpr hq] at hb
        cases hb
      · rcases lput_mem h with h | ⟨h1, h2⟩
        · exact Or.inl h
        · exact Or.inr ⟨List.mem_cons_of_mem _ h1, h2⟩
def lcat (ls : List (Nat × Value)) : Bool := ls.all (fun q => Nat.beq q.2.category 1)
theorem lput_has {la : Array Slot} {nL i : Nat} {v : Value} {ls : List (Nat × Value)} (hc : lcat ls = true) (h : lv_has la nL ((i, v) :: ls.filter (fun q => !(q.1 == i) && !(q.1 + 1 == i && q.2.category == 2)))) : lv_has la nL (lput i v ls) := by
  refine ⟨h.1, h.2.1, fun q hq => h.2.2 q ?_⟩
  rcases lput_mem hq with h1 | ⟨h1, h2⟩
  · rw [h1]; exact List.mem_cons_self
  · refine List.mem_cons_of_mem _ (List.mem_filter.mpr ⟨h1, ?_⟩)
    have h3 : Nat.beq q.2.category 1 = true := List.all_eq_true.mp hc q h1
    have h4 : q.2.category = 1 := Nat.beq_eq.mp h3
    simp [h2, h4]
section VL
variable {p : Program} {l : Launch} {e : Env} {R : Room} {s : State} {m : MethodId} {args : Array Value} {below : List Frame} {meth : Method} {c : Code} {S : Type} {D : va_G} {cl : List vw_C} {tys : List (ClassId × FieldType)} {X : State → Prop} {A : Nat → Prop} {w : S → va_W} {cc : ByteArray} {own : String} {Ts : List Cond} {nL k n : Nat} {rt : Option FieldType} {Q : State → Prop} {u : S} {pc : Nat} {ls : List (Nat × Value)} {st : List Value}
theorem V_top {x : Int32} (K : ∀ y : Int32, x = y → V p l e R s m args below meth c D cl A w nL k n Q u pc ls (.int y :: st)) : V p l e R s m args below meth c D cl A w nL k n Q u pc ls (.int x :: st) := K x rfl
theorem V_u (K : ∀ v : S, u = v → V p l e R s m args below meth c D cl A w nL k n Q v pc ls st) : V p l e R s m args below meth c D cl A w nL k n Q u pc ls st := K u rfl
theorem V_sub {ls' : List (Nat × Value)} (ks : List Nat) (h : lv_pick ls ks = ls') (K : V p l e R s m args below meth c D cl A w nL k n Q u pc ls' st) : V p l e R s m args below meth c D cl A w nL k n Q u pc ls st :=
  fun H locs la hP hS hl => K H locs la hP hS (lv_sub hl ks h)
theorem V_iconst (C : vC p s m args meth c D cl tys X A w cc own Ts nL rt) {i : Int} {v : Int32} (d : decode cc pc = .ok (.iconst i, 1)) (hv : Int32.ofInt i = v) (K : V p l e R s m args below meth c D cl A w nL k n Q u (pc + 1) ls (.int v :: st)) : V p l e R s m args below meth c D cl A w nL k n Q u pc ls st :=
  fun H locs la hP hS hl => lv_iconst C.1 C.2.1 d hv (K H locs la hP hS hl)
theorem V_bipush (C : vC p s m args meth c D cl tys X A w cc own Ts nL rt) {i : Int} {v : Int32} (d : decode cc pc = .ok (.bipush i, 2)) (hv : (Int8.ofInt i).toInt32 = v) (K : V p l e R s m args below meth c D cl A w nL k n Q u (pc + 2) ls (.int v :: st)) : V p l e R s m args below meth c D cl A w nL k n Q u pc ls st :=
  fun H locs la hP hS hl => lv_bipush C.1 C.2.1 d hv (K H locs la hP hS hl)
theorem V_sipush (C : vC p s m args meth c D cl tys X A w cc own Ts nL rt) {i : Int} {v : Int32} (d : decode cc pc = .ok (.sipush i, 3)) (hv : (Int16.ofInt i).toInt32 = v) (K : V p l e R s m args below meth c D cl A w nL k n Q u (pc + 3) ls (.int v :: st)) : V p l e R s m args below meth c D cl A w nL k n Q u pc ls st :=
  fun H locs la hP hS hl => lv_sipush C.1 C.2.1 d hv (K H locs la hP hS hl)
theorem V_ldc (C : vC p s m args meth c D cl tys X A w cc own Ts nL rt) {index : Nat} {v : Int32} (h : Jvm.Cond.constant own index v ∈ Ts) (d : decode cc pc = .ok (.ldc index, 2)) (K : V p l e R s m args below meth c D cl A w nL k n Q u (pc + 2) ls (.int v :: st)) : V p l e R s m args below meth c D cl A w nL k n Q u pc ls st :=
  fun H locs la hP hS hl => lv_ldc C.1 C.2.1 C.2.2.2.1 (C.2.2.1 _ h) d (K H locs la hP hS hl)
theorem V_iload_n (C : vC p s m args meth c D cl tys X A w cc own Ts nL rt) {j : Fin 4} {i : Nat} {x : Int32} (d : decode cc pc = .ok (.iload_n j, 1)) (hi : (j : Nat) = i) (q : Nat) (h : ls[q]? = some (i, .int x)) (K : V p l e R s m args below meth c D cl A w nL k n Q u (pc + 1) ls (.int x :: st)) : V p l e R s m args below meth c D cl A w nL k n Q u pc ls st :=
  fun H locs la hP hS hl => lv_iload_n C.1 C.2.1 d hi (lv_at hl q h) (K H locs la hP hS hl)
theorem V_iload (C : vC p s m args meth c D cl tys X A w cc own Ts nL rt) {i : Nat} {x : Int32} (d : decode cc pc = .ok (.iload i, 2)) (q : Nat) (h : ls[q]? = some (i, .int x)) (K : V p l e R s m args below meth c D cl A w nL k n Q u (pc + 2) ls (.int x :: st)) : V p l e R s m args below meth c D cl A w nL k n Q u pc ls st :=
  fun H locs la hP hS hl => lv_iload C.1 C.2.1 d (lv_at hl q h) (K H locs la hP hS hl)
theorem V_aload_n (C : vC p s m args meth c D cl tys X A w cc own Ts nL rt) {j : Fin 4} {i : Nat} {x : Nat} (d : decode cc pc = .ok (.aload_n j, 1)) (hi : (j : Nat) = i) (q : Nat) (h : ls[q]? = some (i, .ref x)) (K : V p l e R s m args below meth c D cl A w nL k n Q u (pc + 1) ls (.ref x :: st)) : V p l e R s m args below meth c D cl A w nL k n Q u pc ls st :=
  fun H locs la hP hS hl => lv_aload_n C.1 C.2.1 d hi (lv_at hl q h) (K H locs la hP hS hl)
theorem V_aload (C : vC p s m args meth c D cl tys X A w cc own Ts nL rt) {i : Nat} {x : Nat} (d : decode cc pc = .ok (.aload i, 2)) (q : Nat) (h : ls[q]? = some (i, .ref x)) (K : V p l e R s m args below meth c D cl A w nL k n Q u (pc + 2) ls (.ref x :: st)) : V p l e R s m args below meth c D cl A w nL k n Q u pc ls st :=
  fun H locs la hP hS hl => lv_aload C.1 C.2.1 d (lv_at hl q h) (K H locs la hP hS hl)
theorem V_istore_n (C : vC p s m args meth c D cl tys X A w cc own Ts nL rt) {j : Fin 4} {i : Nat} {x : Int32} {ls' : List (Nat × Value)} (d : decode cc pc = .ok (.istore_n j, 1)) (hi : (j : Nat) = i) (hn : i < nL) (hc : lcat ls = true) (h : lput i (.int x) ls = ls') (K : V p l e R s m args below meth c D cl A w nL k n Q u (pc + 1) ls' st) : V p l e R s m args below meth c D cl A w nL k n Q u pc ls (.int x :: st) :=
  fun H locs la hP hS hl => lv_istore_n C.1 C.2.1 d hi hl hn rfl (fun lb hb => K H locs lb hP hS (by rw [← h]; exact lput_has hc hb))
theorem V_istore (C : vC p s m args meth c D cl tys X A w cc own Ts nL rt) {i : Nat} {x : Int32} {ls' : List (Nat × Value)} (d : decode cc pc = .ok (.istore i, 2)) (hn : i < nL) (hc : lcat ls = true) (h : lput i (.int x) ls = ls') (K : V p l e R s m args below meth c D cl A w nL k n Q u (pc + 2) ls' st) : V p l e R s m args below meth c D cl A w nL k n Q u pc ls (.int x :: st) :=
  fun H locs la hP hS hl => lv_istore C.1 C.2.1 d hl hn rfl (fun lb hb => K H locs lb hP hS (by rw [← h]; exact lput_has hc hb))
theorem V_iinc (C : vC p s m args meth c D cl tys X A w cc own Ts nL rt) {i : Nat} {z : Int} {x v : Int32} {ls' : List (Nat × Value)} (d : decode cc pc = .ok (.iinc i z, 3)) (q : Nat) (hq : ls[q]? = some (i, .int x)) (hv : x + Int32.ofInt z = v) (hn : i < nL) (hc : lcat ls = true) (h : lput i (.int v) ls = ls') (K : V p l e R s m args below meth c D cl A w nL k n Q u (pc + 3) ls' st) : V p l e R s m args below meth c D cl A w nL k n Q u pc ls st :=
  fun H locs la hP hS hl => lv_iinc C.1 C.2.1 d hl hq hv hn rfl (fun lb hb => K H locs lb hP hS (by rw [← h]; exact lput_has hc hb))
theorem V_iadd (C : vC p s m args meth c D cl tys X A w cc own Ts nL rt) {x y : Int32} (d : decode cc pc = .ok (.iadd, 1)) (K : V p l e R s m args below meth c D cl A w nL k n Q u (pc + 1) ls (.int (x + y) :: st)) : V p l e R s m args below meth c D cl A w nL k n Q u pc ls (.int y :: .int x :: st) :=
  fun H locs la hP hS hl => lv_iadd C.1 C.2.1 d (K H locs la hP hS hl)
theorem V_isub (C : vC p s m args meth c D cl tys X A w cc own Ts nL rt) {x y : Int32} (d : decode cc pc = .ok (.isub, 1)) (K : V p l e R s m args below meth c D cl A w nL k n Q u (pc + 1) ls (.int (x - y) :: st)) : V p l e R s m args below meth c D cl A w nL k n Q u pc ls (.int y :: .int x :: st) :=
  fun H locs la hP hS hl => lv_isub C.1 C.2.1 d (K H locs la hP hS hl)
theorem V_imul (C : vC p s m args meth c D cl tys X A w cc own Ts nL rt) {x y : Int32} (d : decode cc pc = .ok (.imul, 1)) (K : V p l e R s m args below meth c D cl A w nL k n Q u (pc + 1) ls (.int (x * y) :: st)) : V p l e R s m args below meth c D cl A w nL k n Q u pc ls (.int y :: .int x :: st) :=
  fun H locs la hP hS hl => lv_imul C.1 C.2.1 d (K H locs la hP hS hl)
theorem V_iand (C : vC p s m args meth c D cl tys X A w cc own Ts nL rt) {x y : Int32} (d : decode cc pc = .ok (.iand, 1)) (K : V p l e R s m args below meth c D cl A w nL k n Q u (pc + 1) ls (.int (x &&& y) :: st)) : V p l e R s m args below meth c D cl A w nL k n Q u pc ls (.int y :: .int x :: st) :=
  fun H locs la hP hS hl => lv_iand C.1 C.2.1 d (K H locs la hP hS hl)
theorem V_idiv (C : vC p s m args meth c D cl tys X A w cc own Ts nL rt) {x y : Int32} (d : decode cc pc = .ok (.idiv, 1)) (hne : ¬ y = 0) (K : V p l e R s m args below meth c D cl A w nL k n Q u (pc + 1) ls (.int (x / y) :: st)) : V p l e R s m args below meth c D cl A w nL k n Q u pc ls (.int y :: .int x :: st) :=
  fun H locs la hP hS hl => lv_idiv C.1 C.2.1 d hne (K H locs la hP hS hl)
theorem V_irem (C : vC p s m args meth c D cl tys X A w cc own Ts nL rt) {x y : Int32} (d : decode cc pc = .ok (.irem, 1)) (hne : ¬ y = 0) (K : V p l e R s m args below meth c D cl A w nL k n Q u (pc + 1) ls (.int (x - x / y * y) :: st)) : V p l e R s m args below meth c D cl A w nL k n Q u pc ls (.int y :: .int x :: st) :=
  fun H locs la hP hS hl => lv_irem C.1 C.2.1 d hne (K H locs la hP hS hl)
theorem V_ineg (C : vC p s m args meth c D cl tys X A w cc own Ts nL rt) {x : Int32} (d : decode cc pc = .ok (.ineg, 1)) (K : V p l e R s m args below meth c D cl A w nL k n Q u (pc + 1) ls (.int (-x) :: st)) : V p l e R s m args below meth c D cl A w nL k n Q u pc ls (.int x :: st) :=
  fun H locs la hP hS hl => lv_ineg C.1 C.2.1 d (K H locs la hP hS hl)
theorem V_dup (C : vC p s m args meth c D cl tys X A w cc own Ts nL rt) {v : Value} (d : decode cc pc = .ok (.dup, 1)) (hv : v.category = 1) (K : V p l e R s m args below meth c D cl A w nL k n Q u (pc + 1) ls (v :: v :: st)) : V p l e R s m args below meth c D cl A w nL k n Q u pc ls (v :: st) :=
  fun H locs la hP hS hl => lv_dup C.1 C.2.1 d hv (K H locs la hP hS hl)
theorem V_dup2 (C : vC p s m args meth c D cl tys X A w cc own Ts nL rt) {v z : Value} (d : decode cc pc = .ok (.dup2, 1)) (hv : v.category = 1) (hz : z.category = 1) (K : V p l e R s m args below meth c D cl A w nL k n Q u (pc + 1) ls (v :: z :: v :: z :: st)) : V p l e R s m args below meth c D cl A w nL k n Q u pc ls (v :: z :: st) :=
  fun H locs la hP hS hl => lv_dup2_11 C.1 C.2.1 d hv hz (K H locs la hP hS hl)
theorem V_pop (C : vC p s m args meth c D cl tys X A w cc own Ts nL rt) {v : Value} (d : decode cc pc = .ok (.pop, 1)) (hv : v.category = 1) (K : V p l e R s m args below meth c D cl A w nL k n Q u (pc + 1) ls st) : V p l e R s m args below meth c D cl A w nL k n Q u pc ls (v :: st) :=
  fun H locs la hP hS hl => lv_pop C.1 C.2.1 d hv (K H locs la hP hS hl)
theorem V_goto (C : vC p s m args meth c D cl tys X A w cc own Ts nL rt) {off : Int} {tgt : Nat} (d : decode cc pc = .ok (.goto off, 3)) (ht : (pc : Int) + off = (tgt : Int)) (K : V p l e R s m args below meth c D cl A w nL k n Q u tgt ls st) : V p l e R s m args below meth c D cl A w nL k n Q u pc ls st :=
  fun H locs la hP hS hl => lv_goto C.1 C.2.1 d ht (K H locs la hP hS hl)
theorem V_if_eq (C : vC p s m args meth c D cl tys X A w cc own Ts nL rt) {x : Int32} {off : Int} {tgt : Nat} (d : decode cc pc = .ok (.ifCond .eq off, 3)) (ht : (pc : Int) + off = (tgt : Int)) (Kt : x = 0 → V p l e R s m args below meth c D cl A w nL k n Q u tgt ls st) (Kf : ¬ x = 0 → V p l e R s m args below meth c D cl A w nL k n Q u (pc + 3) ls st) : V p l e R s m args below meth c D cl A w nL k n Q u pc ls (.int x :: st) :=
  fun H locs la hP hS hl => lv_if_eq C.1 C.2.1 d ht (fun h => Kt h H locs la hP hS hl) (fun h => Kf h H locs la hP hS hl)
theorem V_if_ne (C : vC p s m args meth c D cl tys X A w cc own Ts nL rt) {x : Int32} {off : Int} {tgt : Nat} (d : decode cc pc = .ok (.ifCond .ne off, 3)) (ht : (pc : Int) + off = (tgt : Int)) (Kt : ¬ x = 0 → V p l e R s m args below meth c D cl A w nL k n Q u tgt ls st) (Kf : x = 0 → V p l e R s m args below meth c D cl A w nL k n Q u (pc + 3) ls st) : V p l e R s m args below meth c D cl A w nL k n Q u pc ls (.int x :: st) :=
  fun H locs la hP hS hl => lv_if_ne C.1 C.2.1 d ht (fun h => Kt h H locs la hP hS hl) (fun h => Kf h H locs la hP hS hl)
theorem V_if_lt (C : vC p s m args meth c D cl tys X A w cc own Ts nL rt) {x : Int32} {off : Int} {tgt : Nat} (d : decode cc pc = .ok (.ifCond .lt off, 3)) (ht : (pc : Int) + off = (tgt : Int)) (Kt : x < 0 → V p l e R s m args below meth c D cl A w nL k n Q u tgt ls st) (Kf : ¬ x < 0 → V p l e R s m args below meth c D cl A w nL k n Q u (pc + 3) ls st) : V p l e R s m args below meth c D cl A w nL k n Q u pc ls (.int x :: st) :=
  fun H locs la hP hS hl => lv_if_lt C.1 C.2.1 d ht (fun h => Kt h H locs la hP hS hl) (fun h => Kf h H locs la hP hS hl)
theorem V_if_ge (C : vC p s m args meth c D cl tys X A w cc own Ts nL rt) {x : Int32} {off : Int} {tgt : Nat} (d : decode cc pc = .ok (.ifCond .ge off, 3)) (ht : (pc : Int) + off = (tgt : Int)) (Kt : 0 ≤ x → V p l e R s m args below meth c D cl A w nL k n Q u tgt ls st) (Kf : ¬ 0 ≤ x → V p l e R s m args below meth c D cl A w nL k n Q u (pc + 3) ls st) : V p l e R s m args below meth c D cl A w nL k n Q u pc ls (.int x :: st) :=
  fun H locs la hP hS hl => lv_if_ge C.1 C.2.1 d ht (fun h => Kt h H locs la hP hS hl) (fun h => Kf h H locs la hP hS hl)
theorem V_if_gt (C : vC p s m args meth c D cl tys X A w cc own Ts nL rt) {x : Int32} {off : Int} {tgt : Nat} (d : decode cc pc = .ok (.ifCond .gt off, 3)) (ht : (pc : Int) + off = (tgt : Int)) (Kt : 0 < x → V p l e R s m args below meth c D cl A w nL k n Q u tgt ls st) (Kf : ¬ 0 < x → V p l e R s m args below meth c D cl A w nL k n Q u (pc + 3) ls st) : V p l e R s m args below meth c D cl A w nL k n Q u pc ls (.int x :: st) :=
  fun H locs la hP hS hl => lv_if_gt C.1 C.2.1 d ht (fun h => Kt h H locs la hP hS hl) (fun h => Kf h H locs la hP hS hl)
theorem V_if_le (C : vC p s m args meth c D cl tys X A w cc own Ts nL rt) {x : Int32} {off : Int} {tgt : Nat} (d : decode cc pc = .ok (.ifCond .le off, 3)) (ht : (pc : Int) + off = (tgt : Int)) (Kt : x ≤ 0 → V p l e R s m args below meth c D cl A w nL k n Q u tgt ls st) (Kf : ¬ x ≤ 0 → V p l e R s m args below meth c D cl A w nL k n Q u (pc + 3) ls st) : V p l e R s m args below meth c D cl A w nL k n Q u pc ls (.int x :: st) :=
  fun H locs la hP hS hl => lv_if_le C.1 C.2.1 d ht (fun h => Kt h H locs la hP hS hl) (fun h => Kf h H locs la hP hS hl)
theorem V_icmp_eq (C : vC p s m args meth c D cl tys X A w cc own Ts nL rt) {x y : Int32} {off : Int} {tgt : Nat} (d : decode cc pc = .ok (.if_icmp .eq off, 3)) (ht : (pc : Int) + off = (tgt : Int)) (Kt : x = y → V p l e R s m args below meth c D cl A w nL k n Q u tgt ls st) (Kf : ¬ x = y → V p l e R s m args below meth c D cl A w nL k n Q u (pc + 3) ls st) : V p l e R s m args below meth c D cl A w nL k n Q u pc ls (.int y :: .int x :: st) :=
  fun H locs la hP hS hl => lv_icmp_eq C.1 C.2.1 d ht (fun h => Kt h H locs la hP hS hl) (fun h => Kf h H locs la hP hS hl)
theorem V_icmp_ne (C : vC p s m args meth c D cl tys X A w cc own Ts nL rt) {x y : Int32} {off : Int} {tgt : Nat} (d : decode cc pc = .ok (.if_icmp .ne off, 3)) (ht : (pc : Int) + off = (tgt : Int)) (Kt : ¬ x = y → V p l e R s m args below meth c D cl A w nL k n Q u tgt ls st) (Kf : x = y → V p l e R s m args below meth c D cl A w nL k n Q u (pc + 3) ls st) : V p l e R s m args below meth c D cl A w nL k n Q u pc ls (.int y :: .int x :: st) :=
  fun H locs la hP hS hl => lv_icmp_ne C.1 C.2.1 d ht (fun h => Kt h H locs la hP hS hl) (fun h => Kf h H locs la hP hS hl)
theorem V_icmp_lt (C : vC p s m args meth c D cl tys X A w cc own Ts nL rt) {x y : Int32} {off : Int} {tgt : Nat} (d : decode cc pc = .ok (.if_icmp .lt off, 3)) (ht : (pc : Int) + off = (tgt : Int)) (Kt : x < y → V p l e R s m args below meth c D cl A w nL k n Q u tgt ls st) (Kf : ¬ x < y → V p l e R s m args below meth c D cl A w nL k n Q u (pc + 3) ls st) : V p l e R s m args below meth c D cl A w nL k n Q u pc ls (.int y :: .int x :: st) :=
  fun H locs la hP hS hl => lv_icmp_lt C.1 C.2.1 d ht (fun h => Kt h H locs la hP hS hl) (fun h => Kf h H locs la hP hS hl)
theorem V_icmp_ge (C : vC p s m args meth c D cl tys X A w cc own Ts nL rt) {x y : Int32} {off : Int} {tgt : Nat} (d : decode cc pc = .ok (.if_icmp .ge off, 3)) (ht : (pc : Int) + off = (tgt : Int)) (Kt : y ≤ x → V p l e R s m args below meth c D cl A w nL k n Q u tgt ls st) (Kf : ¬ y ≤ x → V p l e R s m args below meth c D cl A w nL k n Q u (pc + 3) ls st) : V p l e R s m args below meth c D cl A w nL k n Q u pc ls (.int y :: .int x :: st) :=
  fun H locs la hP hS hl => lv_icmp_ge C.1 C.2.1 d ht (fun h => Kt h H locs la hP hS hl) (fun h => Kf h H locs la hP hS hl)
theorem V_icmp_gt (C : vC p s m args meth c D cl tys X A w cc own Ts nL rt) {x y : Int32} {off : Int} {tgt : Nat} (d : decode cc pc = .ok (.if_icmp .gt off, 3)) (ht : (pc : Int) + off = (tgt : Int)) (Kt : y < x → V p l e R s m args below meth c D cl A w nL k n Q u tgt ls st) (Kf : ¬ y < x → V p l e R s m args below meth c D cl A w nL k n Q u (pc + 3) ls st) : V p l e R s m args below meth c D cl A w nL k n Q u pc ls (.int y :: .int x :: st) :=
  fun H locs la hP hS hl => lv_icmp_gt C.1 C.2.1 d ht (fun h => Kt h H locs la hP hS hl) (fun h => Kf h H locs la hP hS hl)
theorem V_icmp_le (C : vC p s m args meth c D cl tys X A w cc own Ts nL rt) {x y : Int32} {off : Int} {tgt : Nat} (d : decode cc pc = .ok (.if_icmp .le off, 3)) (ht : (pc : Int) + off = (tgt : Int)) (Kt : x ≤ y → V p l e R s m args below meth c D cl A w nL k n Q u tgt ls st) (Kf : ¬ x ≤ y → V p l e R s m args below meth c D cl A w nL k n Q u (pc + 3) ls st) : V p l e R s m args below meth c D cl A w nL k n Q u pc ls (.int y :: .int x :: st) :=
  fun H locs la hP hS hl => lv_icmp_le C.1 C.2.1 d ht (fun h => Kt h H locs la hP hS hl) (fun h => Kf h H locs la hP hS hl)
/-- a switch over 1, 2, 3 -/
theorem V_tsw3 (C : vC p s m args meth c D cl tys X A w cc own Ts nL rt) {x : Int32} {dflt o1 o2 o3 : Int} {len t0 t1 t2 t3 : Nat} (d : decode cc pc = .ok (.tableswitch dflt 1 3 #[o1, o2, o3], len)) (h0 : (pc : Int) + dflt = (t0 : Int)) (h1 : (pc : Int) + o1 = (t1 : Int)) (h2 : (pc : Int) + o2 = (t2 : Int)) (h3 : (pc : Int) + o3 = (t3 : Int))
    (K1 : x = 1 → V p l e R s m args below meth c D cl A w nL k n Q u t1 ls st) (K2 : ¬ x = 1 → x = 2 → V p l e R s m args below meth c D cl A w nL k n Q u t2 ls st) (K3 : ¬ x = 1 → ¬ x = 2 → x = 3 → V p l e R s m args below meth c D cl A w nL k n Q u t3 ls st) (K0 : ¬ x = 1 → ¬ x = 2 → ¬ x = 3 → V p l e R s m args below meth c D cl A w nL k n Q u t0 ls st) :
    V p l e R s m args below meth c D cl A w nL k n Q u pc ls (.int x :: st) := by
  intro H locs la hP hS hl
  by_cases c1 : x = 1
  · subst c1
    exact lv_tableIn C.1 C.2.1 d (by decide) (by decide) (off := o1) rfl h1 (K1 rfl H locs la hP hS hl)
  · by_cases c2 : x = 2
    · subst c2
      exact lv_tableIn C.1 C.2.1 d (by decide) (by decide) (off := o2) rfl h2 (K2 c1 rfl H locs la hP hS hl)
    · by_cases c3 : x = 3
      · subst c3
        exact lv_tableIn C.1 C.2.1 d (by decide) (by decide) (off := o3) rfl h3 (K3 c1 c2 rfl H locs la hP hS hl)
      · refine lv_tableOut C.1 C.2.1 d ?_ h0 (K0 c1 c2 c3 H locs la hP hS hl)
        have e1 : x.toInt ≠ 1 := fun h => c1 (Int32.toInt_inj.mp h)
        have e2 : x.toInt ≠ 2 := fun h => c2 (Int32.toInt_inj.mp h)
        have e3 : x.toInt ≠ 3 := fun h => c3 (Int32.toInt_inj.mp h)
        omega
theorem V_get (C : vC p s m args meth c D cl tys X A w cc own Ts nL rt) {ref Cn : String} {T : u_T} {N ci index a : Nat} (hin : ∀ w ∈ u_ws Cn T N, w ∈ Ts) (q0 : Nat) {fs : List Value} (he : (w u)[q0]? = some (a, .inr (ci, fs))) (hc : cl[ci]? = some (Cn, T, N)) (f : Nat) (hf : f < N) (hl0 : Cond.fieldLink own index ref (T f).2.1 (T f).2.2.1 ∈ Ts) (hsame : ref = (T f).1) {v : Value} (hv : fs[f]? = some v) (d : decode cc pc = .ok (.getfield index, 3))
    (K : V p l e R s m args below meth c D cl A w nL k n Q u (pc + 3) ls (v :: st)) : V p l e R s m args below meth c D cl A w nL k n Q u pc ls (.ref a :: st) :=
  fun H locs la hP hS hl => va_get C.1 C.2.1 C.2.2.1 hin C.2.2.2.1 C.2.2.2.2.1 hP q0 he hc f hf (C.2.2.1 _ hl0) (fun _ h => by rw [hsame]; exact h) hv d (K H locs la hP hS hl)
theorem V_getN (C : vC p s m args meth c D cl tys X A w cc own Ts nL rt) {ref Cn host : String} {T : u_T} {N ci index a : Nat} (hin : ∀ w ∈ u_ws Cn T N, w ∈ Ts) (q0 : Nat) {fs : List Value} (he : (w u)[q0]? = some (a, .inr (ci, fs))) (hc : cl[ci]? = some (Cn, T, N)) (f : Nat) (hf : f < N) (hl0 : va_Nw (.fieldLinkNest own index ref (T f).2.1 (T f).2.2.1 host) s) (hsame : ref = (T f).1) {v : Value} (hv : fs[f]? = some v) (d : decode cc pc = .ok (.getfield index, 3))
    (K : V p l e R s m args below meth c D cl A w nL k n Q u (pc + 3) ls (v :: st)) : V p l e R s m args below meth c D cl A w nL k n Q u pc ls (.ref a :: st) :=
  fun H locs la hP hS hl => va_getN C.1 C.2.1 C.2.2.1 hin C.2.2.2.1 C.2.2.2.2.1 hP q0 he hc f hf (va_Nw.use rfl hl0) (fun _ h => by rw [hsame]; exact h) hv d (K H locs la hP hS hl)
theorem V_put (C : vC p s m args meth c D cl tys X A w cc own Ts nL rt) {ref Cn : String} {T : u_T} {N ci index a : Nat} (hin : ∀ w ∈ u_ws Cn T N, w ∈ Ts) (ty0 : Nat → FieldType) (hty : ∀ k, k < N → parseFieldDescriptor (T k).2.2.1 = some (ty0 k)) (hnm : ∀ a, a < N → ∀ b, b < N → a ≠ b → (T a).2.1 ≠ (T b).2.1) (q0 : Nat) {fs : List Value} (he : (w u)[q0]? = some (a, .inr (ci, fs))) (hc : cl[ci]? = some (Cn, T, N)) (f : Nat) (hf : f < N) (hl0 : Cond.fieldLink own index ref (T f).2.1 (T f).2.2.1 ∈ Ts) (hsame : ref = (T f).1) (hfin : (T f).2.2.2 = false) {x : Int32} (hd : parseFieldDescriptor (T f).2.2.1 = some .int) (hl : f < fs.length) {u' : S} (hset : (w u).set q0 (a, .inr (ci, fs.set f (.int x))) = w u') (d : decode cc pc = .ok (.putfield index, 3))
    (K : V p l e R s m args below meth c D cl A w nL k n Q u' (pc + 3) ls st) : V p l e R s m args below meth c D cl A w nL k n Q u pc ls (.int x :: .ref a :: st) :=
  fun H locs la hP hS hl2 => va_put C.1 C.2.1 C.2.2.1 hin ty0 hty hnm C.2.2.2.1 C.2.2.2.2.1 hP (C.2.2.2.2.2.1 u) hS q0 he hc f hf (C.2.2.1 _ hl0) (fun _ h => by rw [hsame]; exact h) hfin hd (vp_nar_int x) rfl hl d (fun H1 locs1 hP1 _ hS1 => K H1 locs1 la (hset ▸ hP1) hS1 hl2)
theorem V_iald (C : vC p s m args meth c D cl tys X A w cc own Ts nL rt) (q0 t0 : Nat) {a N : Nat} {cA : ClassId} {f : Nat → Int32} (he : (w u)[q0]? = some (a, .inl (cA, N, .inl f))) (ht : tys[t0]? = some (cA, .int)) {i : Int32} (hin : vp_in i N) (d : decode cc pc = .ok (.iaload, 1))
    (K : V p l e R s m args below meth c D cl A w nL k n Q u (pc + 1) ls (.int (f i.toNatClampNeg) :: st)) : V p l e R s m args below meth c D cl A w nL k n Q u pc ls (.int i :: .ref a :: st) :=
  fun H locs la hP hS hl => va_iald C.1 C.2.1 C.2.2.2.2.1 hP q0 t0 he ht hin d (K H locs la hP hS hl)
theorem V_zald (C : vC p s m args meth c D cl tys X A w cc own Ts nL rt) (q0 t0 : Nat) {a N : Nat} {cA : ClassId} {f : Nat → Int32} (he : (w u)[q0]? = some (a, .inl (cA, N, .inl f))) (ht : tys[t0]? = some (cA, .boolean)) {i : Int32} (hin : vp_in i N) (d : decode cc pc = .ok (.baload, 1))
    (K : V p l e R s m args below meth c D cl A w nL k n Q u (pc + 1) ls (.int (f i.toNatClampNeg) :: st)) : V p l e R s m args below meth c D cl A w nL k n Q u pc ls (.int i :: .ref a :: st) :=
  fun H locs la hP hS hl => va_zald C.1 C.2.1 C.2.2.2.2.1 hP q0 t0 he ht hin d (K H locs la hP hS hl)
theorem V_iast (C : vC p s m args meth c D cl tys X A w cc own Ts nL rt) (q0 t0 : Nat) {a N : Nat} {cA : ClassId} {f : Nat → Int32} (he : (w u)[q0]? = some (a, .inl (cA, N, .inl f))) (ht : tys[t0]? = some (cA, .int)) {i x : Int32} (hin : vp_in i N) {u' : S} (hset : (w u).set q0 (a, .inl (cA, N, .inl (upd f i.toNatClampNeg x))) = w u') (d : decode cc pc = .ok (.iastore, 1))
    (K : V p l e R s m args below meth c D cl A w nL k n Q u' (pc + 1) ls st) : V p l e R s m args below meth c D cl A w nL k n Q u pc ls (.int x :: .int i :: .ref a :: st) :=
  fun H locs la hP hS hl => va_iast C.1 C.2.1 C.2.2.2.2.1 hP (C.2.2.2.2.2.1 u) hS q0 t0 he ht hin d (fun H1 locs1 hP1 _ hS1 => K H1 locs1 la (hset ▸ hP1) hS1 hl)
theorem V_zast (C : vC p s m args meth c D cl tys X A w cc own Ts nL rt) (q0 t0 : Nat) {a N : Nat} {cA : ClassId} {f : Nat → Int32} (he : (w u)[q0]? = some (a, .inl (cA, N, .inl f))) (ht : tys[t0]? = some (cA, .boolean)) {i x : Int32} (hin : vp_in i N) (hx : vp_nar .boolean x = x) {u' : S} (hset : (w u).set q0 (a, .inl (cA, N, .inl (upd f i.toNatClampNeg x))) = w u') (d : decode cc pc = .ok (.bastore, 1))
    (K : V p l e R s m args below meth c D cl A w nL k n Q u' (pc + 1) ls st) : V p l e R s m args below meth c D cl A w nL k n Q u pc ls (.int x :: .int i :: .ref a :: st) :=
  fun H locs la hP hS hl => va_zast C.1 C.2.1 C.2.2.2.2.1 hP (C.2.2.2.2.2.1 u) hS q0 t0 he ht hin d (fun H1 locs1 hP1 _ hS1 => by rw [hx] at hP1; exact K H1 locs1 la (hset ▸ hP1) hS1 hl)
theorem V_alen (C : vC p s m args meth c D cl tys X A w cc own Ts nL rt) (q0 t0 : Nat) {a : Nat} {cA : ClassId} {x : vp_A} (he : (w u)[q0]? = some (a, .inl (cA, x))) {ty : FieldType} (ht : tys[t0]? = some (cA, ty)) {v : Int32} (hv : Int32.ofNat x.1 = v) (d : decode cc pc = .ok (.arraylength, 1))
    (K : V p l e R s m args below meth c D cl A w nL k n Q u (pc + 1) ls (.int v :: st)) : V p l e R s m args below meth c D cl A w nL k n Q u pc ls (.ref a :: st) :=
  fun H locs la hP hS hl => va_alen C.1 C.2.1 C.2.2.2.2.1 hP q0 t0 he ht hv d (K H locs la hP hS hl)
theorem V_mmax (C : vC p s m args meth c D cl tys X A w cc own Ts nL rt) {index : Nat} (h1 : Cond.methodLink own index Lib.Math.max.name ∈ Ts) (h2 : Cond.static Lib.Math.max.name ∈ Ts) (h3 : Cond.initialized "java/lang/Math" ∈ Ts) (h4 : Cond.code Lib.Math.max.name Lib.Math.max.code 2 (some .int) ∈ Ts) (hf : 1 ≤ R.frames) (hlo : (st.map fun v => v.category).sum + 13 ≤ R.locals) (hk : k ≤ R.cells) (hn : n ≤ R.slots) {x y : Int32} (d : decode cc pc = .ok (.invokestatic index, 3))
    (K : V p l e R s m args below meth c D cl A w nL k n Q u (pc + 3) ls (.int (if x < y then y else x) :: st)) : V p l e R s m args below meth c D cl A w nL k n Q u pc ls (.int y :: .int x :: st) :=
  fun H locs la hP hS hl => va_mmax C.1 C.2.1 (C.2.2.2.2.2.2.2.1.trans hl.1.symm) C.2.2.2.1 (C.2.2.1 _ h1) (C.2.2.1 _ h2) (C.2.2.1 _ h3) (C.2.2.1 _ h4) hf hlo hk hn d (K H locs la hP hS hl)
theorem V_mmin (C : vC p s m args meth c D cl tys X A w cc own Ts nL rt) {index : Nat} (h1 : Cond.methodLink own index Lib.Math.min.name ∈ Ts) (h2 : Cond.static Lib.Math.min.name ∈ Ts) (h3 : Cond.initialized "java/lang/Math" ∈ Ts) (h4 : Cond.code Lib.Math.min.name Lib.Math.min.code 2 (some .int) ∈ Ts) (hf : 1 ≤ R.frames) (hlo : (st.map fun v => v.category).sum + 13 ≤ R.locals) (hk : k ≤ R.cells) (hn : n ≤ R.slots) {x y : Int32} (d : decode cc pc = .ok (.invokestatic index, 3))
    (K : V p l e R s m args below meth c D cl A w nL k n Q u (pc + 3) ls (.int (if y < x then y else x) :: st)) : V p l e R s m args below meth c D cl A w nL k n Q u pc ls (.int y :: .int x :: st) :=
  fun H locs la hP hS hl => va_mmin C.1 C.2.1 (C.2.2.2.2.2.2.2.1.trans hl.1.symm) C.2.2.2.1 (C.2.2.1 _ h1) (C.2.2.1 _ h2) (C.2.2.1 _ h3) (C.2.2.1 _ h4) hf hlo hk hn d (K H locs la hP hS hl)
theorem V_ls {ls' : List (Nat × Value)} (h : ls = ls') (K : V p l e R s m args below meth c D cl A w nL k n Q u pc ls' st) : V p l e R s m args below meth c D cl A w nL k n Q u pc ls st := by rw [h]; exact K
/-- a choice that only yields a value, joined again at J -/
theorem V_join1 (J : Nat) (T : Int32) {a : Value} (h1 : ∀ y : Int32, T = y → V p l e R s m args below meth c D cl A w nL k n Q u J ls (.int y :: st)) (h2 : (∀ y : Int32, T = y → V p l e R s m args below meth c D cl A w nL k n Q u J ls (.int y :: st)) → V p l e R s m args below meth c D cl A w nL k n Q u pc ls (a :: st)) : V p l e R s m args below meth c D cl A w nL k n Q u pc ls (a :: st) := h2 h1
theorem V_join2 (J : Nat) (T : Int32) {a b : Value} (h1 : ∀ y : Int32, T = y → V p l e R s m args below meth c D cl A w nL k n Q u J ls (.int y :: st)) (h2 : (∀ y : Int32, T = y → V p l e R s m args below meth c D cl A w nL k n Q u J ls (.int y :: st)) → V p l e R s m args below meth c D cl A w nL k n Q u pc ls (a :: b :: st)) : V p l e R s m args below meth c D cl A w nL k n Q u pc ls (a :: b :: st) := h2 h1
end VL
section VMM
variable {p : Program} {l : Launch} {e : Env} {R : Room} {s : State} {m : MethodId} {args : Array Value} {below : List Frame} {meth : Method} {c : Code} {D : va_G} {cl : List vw_C} {tys : List (ClassId × FieldType)} {X : State → Prop} {A : Nat → Prop} {w : vM → va_W} {cc : ByteArray} {own : String} {Ts : List Cond} {nL k n : Nat} {rt : Option FieldType} {Q : State → Prop} {u : vM} {pc : Nat} {ls : List (Nat × Value)} {st : List Value}
theorem Vm_iald (C : vC p s m args meth c D cl tys X A w cc own Ts nL rt) (q0 t0 : Nat) {a N : Nat} {cA : ClassId} (he : (w u)[q0]? = some (a, .inl (cA, N, .inl (u q0)))) (ht : tys[t0]? = some (cA, .int)) {i : Int32} (hin : vp_in i N) (d : decode cc pc = .ok (.iaload, 1))
    (K : V p l e R s m args below meth c D cl A w nL k n Q u (pc + 1) ls (.int (mrd u q0 i) :: st)) : V p l e R s m args below meth c D cl A w nL k n Q u pc ls (.int i :: .ref a :: st) := V_iald C q0 t0 he ht hin d K
theorem Vm_zald (C : vC p s m args meth c D cl tys X A w cc own Ts nL rt) (q0 t0 : Nat) {a N : Nat} {cA : ClassId} (he : (w u)[q0]? = some (a, .inl (cA, N, .inl (u q0)))) (ht : tys[t0]? = some (cA, .boolean)) {i : Int32} (hin : vp_in i N) (d : decode cc pc = .ok (.baload, 1))
    (K : V p l e R s m args below meth c D cl A w nL k n Q u (pc + 1) ls (.int (mrd u q0 i) :: st)) : V p l e R s m args below meth c D cl A w nL k n Q u pc ls (.int i :: .ref a :: st) := V_zald C q0 t0 he ht hin d K
theorem Vm_iast (C : vC p s m args meth c D cl tys X A w cc own Ts nL rt) (q0 t0 : Nat) {a N : Nat} {cA : ClassId} (he : (w u)[q0]? = some (a, .inl (cA, N, .inl (u q0)))) (ht : tys[t0]? = some (cA, .int)) {i x : Int32} (hin : vp_in i N) (hset : (w u).set q0 (a, .inl (cA, N, .inl (upd (u q0) i.toNatClampNeg x))) = w (mR u q0 (upd (u q0) i.toNatClampNeg x))) (d : decode cc pc = .ok (.iastore, 1))
    (K : V p l e R s m args below meth c D cl A w nL k n Q (mup u q0 i x) (pc + 1) ls st) : V p l e R s m args below meth c D cl A w nL k n Q u pc ls (.int x :: .int i :: .ref a :: st) := V_iast C q0 t0 he ht hin hset d K
theorem Vm_zast (C : vC p s m args meth c D cl tys X A w cc own Ts nL rt) (q0 t0 : Nat) {a N : Nat} {cA : ClassId} (he : (w u)[q0]? = some (a, .inl (cA, N, .inl (u q0)))) (ht : tys[t0]? = some (cA, .boolean)) {i x : Int32} (hin : vp_in i N) (hx : narrow .boolean (.int x) = .int x) (hset : (w u).set q0 (a, .inl (cA, N, .inl (upd (u q0) i.toNatClampNeg x))) = w (mR u q0 (upd (u q0) i.toNatClampNeg x))) (d : decode cc pc = .ok (.bastore, 1))
    (K : V p l e R s m args below meth c D cl A w nL k n Q (mup u q0 i x) (pc + 1) ls st) : V p l e R s m args below meth c D cl A w nL k n Q u pc ls (.int x :: .int i :: .ref a :: st) := V_zast C q0 t0 he ht hin (by unfold vp_nar; rw [hx]) hset d K
end VMM
theorem nb_of {x : Int32} (h : x = 0 ∨ x = 1) : narrow .boolean (.int x) = .int x := by rcases h with rfl | rfl <;> rfl
/-- a counter that falls: n rounds are left, the counter stands at n - 1 -/
def nD : Nat → Int32
  | 0 => -1
  | n + 1 => nI n
theorem nD_dec (n : Nat) : nI n + Int32.ofInt (-1) = nD n := by
  cases n with
  | zero => decide
  | succ n =>
    show nI (n + 1) + Int32.ofInt (-1) = nI n
    rw [← nI_pred n]
    generalize nI (n + 1) = z
    apply Int32.toBitVec_inj.mp
    simp [Int32.sub_eq_add_neg]
/-! CONTRACTS: what a method needs and leaves, over one family's memory -/
def mPc {S : Type} (D : va_G) (cl : List vw_C) (tys : List (ClassId × FieldType)) (X : State → Prop) (w : S → va_W) (As : List Value) (u : S) (sz : Nat) : Array Value → State → Prop :=
  va_Pc As (fun U => U.heap.size = sz ∧ va_P D cl (w u) U.heap ∧ va_K D cl tys U ∧ va_D (fun _ => True) (w u) ∧ X U)
def mQi {S : Type} (D : va_G) (cl : List vw_C) (w : S → va_W) (A : Nat → Prop) (r : Int32) (u' : S) : Array Value → State → Outcome → State → Prop := va_Qi (fun (r' : Int32) (_ : Unit) => r' = r) (fun _ t => va_P D cl (w u') t.heap) A
def mQv {S : Type} (D : va_G) (cl : List vw_C) (w : S → va_W) (A : Nat → Prop) (u' : S) : Array Value → State → Outcome → State → Prop := va_Qv (fun _ : Unit => True) (fun _ t => va_P D cl (w u') t.heap) A
/-- returns the int r, leaves the memory u' -/
def mI {S : Type} (D : va_G) (cl : List vw_C) (tys : List (ClassId × FieldType)) (X : State → Prop) (w : S → va_W) (l : Launch) (y : MethodName) (ws : List Cond) (rm : Room) (As : List Value) (u : S) (r : Int32) (u' : S) : Prop :=
  ∀ sz : Nat, Met l y ws rm (mPc D cl tys X w As u sz) (mQi D cl w (va_A (w u) sz) r u') 0 0 (va_A (w u) sz)
/-- returns nothing, leaves the memory u' -/
def mV {S : Type} (D : va_G) (cl : List vw_C) (tys : List (ClassId × FieldType)) (X : State → Prop) (w : S → va_W) (l : Launch) (y : MethodName) (ws : List Cond) (rm : Room) (As : List Value) (u : S) (u' : S) : Prop :=
  ∀ sz : Nat, Met l y ws rm (mPc D cl tys X w As u sz) (mQv D cl w (va_A (w u) sz) u') 0 0 (va_A (w u) sz)
/-- premises that the tables alone decide -/
def xOK (X : State → Prop) : Prop := ∀ s U : State, s.WarmedH U.vm → X s → X U
theorem va_D.addr {A : Nat → Prop} {w1 w2 : va_W} (h : va_D A w1) (e : w1.map Prod.fst = w2.map Prod.fst) : va_D A w2 := by
  have key : ∀ (k : Nat) (q : Nat × va_E), w2[k]? = some q → ∃ q1, w1[k]? = some q1 ∧ q1.1 = q.1 := by
    intro k q hq
    have h1 : (w2.map Prod.fst)[k]? = some q.1 := by rw [List.getElem?_map, hq]; rfl
    rw [← e, List.getElem?_map] at h1
    cases hz : w1[k]? with
    | none => rw [hz] at h1; cases h1
    | some z => rw [hz] at h1; exact ⟨z, rfl, Option.some.inj h1⟩
  refine ⟨fun i j a b ha hb hab => ?_, fun k q hq => ?_⟩
  · obtain ⟨a1, g1, g2⟩ := key i a ha
    obtain ⟨b1, g3, g4⟩ := key j b hb
    exact h.1 i j a1 b1 g1 g3 (by rw [g2, g4]; exact hab)
  · obtain ⟨q1, g1, g2⟩ := key k q hq
    rw [← g2]
    exact h.2 k q1 g1
def wOK {S : Type} (w : S → va_W) : Prop := ∀ u u' : S, (w u).map Prod.fst = (w u').map Prod.fst
theorem mI_of {own : String} {S : Type} {D : va_G} {cl : List vw_C} {tys : List (ClassId × FieldType)} {X : State → Prop} {w : S → va_W} {l : Launch} {y : MethodName} {ws ws' : List Cond} {rm : Room} {As : List Value} {u : S} {r : Int32} {u' : S} {cc : ByteArray} {maxL : Nat} {ret : Option FieldType}
    (ho : y.cls = own) (hy : plainName y.cls = true) (hws : ws = Cond.code y cc maxL ret :: ws') (hw : wOK w) (hlen : (lg_sl As).length ≤ maxL)
    (body : ∀ (p : Program) (e : Env) (s : State) (m : MethodId) (args : Array Value) (below : List Frame) (meth : Method) (c : Code) (A : Nat → Prop), vC p s m args meth c D cl tys X A w cc own ws maxL ret → V p l e rm s m args below meth c D cl A w maxL 0 0 (MQ below (mQi D cl w A r u') args s 0 0 A) u 0 (lv_args 0 As) []) : mI D cl tys X w l y ws rm As u r u' := by
  intro sz
  refine Met.ofW (cc := cc) (maxL := maxL) (ret := ret) hy hws ?_
  intro p e s m args below meth c s₁ B hml hv
  obtain ⟨rfl, hsz, hP, hK, hD, hX⟩ := hv
  subst hsz
  have C : vC p s m As.toArray meth c D cl tys X (va_A (w u) s.heap.size) w cc own ws maxL ret := ⟨B.exec, B.bytes, atoms_spec (ws := ws) B.pre, by rw [← ho]; exact findClass_of_methodNamed B.named, hK, fun u2 => va_D.addr (hD.self (sz := s.heap.size)) (hw u u2), fun q h => Or.inr h, hml, B.notSynchronized, B.returns, hX⟩
  have hl := lv_entry As (n := maxL) hlen
  rw [lg_entry_eq]
  exact body p e s m _ below meth c _ C s.heap [] _ hP va_S.rf hl
theorem mV_of {own : String} {S : Type} {D : va_G} {cl : List vw_C} {tys : List (ClassId × FieldType)} {X : State → Prop} {w : S → va_W} {l : Launch} {y : MethodName} {ws ws' : List Cond} {rm : Room} {As : List Value} {u : S} {u' : S} {cc : ByteArray} {maxL : Nat} {ret : Option FieldType}
    (ho : y.cls = own) (hy : plainName y.cls = true) (hws : ws = Cond.code y cc maxL ret :: ws') (hw : wOK w) (hlen : (lg_sl As).length ≤ maxL)
    (body : ∀ (p : Program) (e : Env) (s : State) (m : MethodId) (args : Array Value) (below : List Frame) (meth : Method) (c : Code) (A : Nat → Prop), vC p s m args meth c D cl tys X A w cc own ws maxL ret → V p l e rm s m args below meth c D cl A w maxL 0 0 (MQ below (mQv D cl w A u') args s 0 0 A) u 0 (lv_args 0 As) []) : mV D cl tys X w l y ws rm As u u' := by
  intro sz
  refine Met.ofW (cc := cc) (maxL := maxL) (ret := ret) hy hws ?_
  intro p e s m args below meth c s₁ B hml hv
  obtain ⟨rfl, hsz, hP, hK, hD, hX⟩ := hv
  subst hsz
  have C : vC p s m As.toArray meth c D cl tys X (va_A (w u) s.heap.size) w cc own ws maxL ret := ⟨B.exec, B.bytes, atoms_spec (ws := ws) B.pre, by rw [← ho]; exact findClass_of_methodNamed B.named, hK, fun u2 => va_D.addr (hD.self (sz := s.heap.size)) (hw u u2), fun q h => Or.inr h, hml, B.notSynchronized, B.returns, hX⟩
  have hl := lv_entry As (n := maxL) hlen
  rw [lg_entry_eq]
  exact body p e s m _ below meth c _ C s.heap [] _ hP va_S.rf hl
section VR
variable {p : Program} {l : Launch} {e : Env} {R : Room} {s : State} {m : MethodId} {args : Array Value} {below : List Frame} {meth : Method} {c : Code} {S : Type} {D : va_G} {cl : List vw_C} {tys : List (ClassId × FieldType)} {X : State → Prop} {A : Nat → Prop} {w : S → va_W} {cc : ByteArray} {own : String} {Ts : List Cond} {nL k n : Nat} {rt : Option FieldType} {Q : State → Prop} {u : S} {pc : Nat} {ls : List (Nat × Value)} {st : List Value}
theorem V_iret (C : vC p s m args meth c D cl tys X A w cc own Ts nL rt) {x r : Int32} {ty : FieldType} {u' : S} (hrt : rt = some ty) (hn : narrow ty (.int x) = .int x) (e1 : r = x) (e2 : u' = u) (d : decode cc pc = .ok (.ireturn, 1)) : V p l e R s m args below meth c D cl A w nL 0 0 (MQ below (mQi D cl w A r u') args s 0 0 A) u pc ls [.int x] :=
  fun H locs la hP hS hl => W.zret C.1 C.2.1 (C.2.2.2.2.2.2.2.2.2.1.trans hrt) hn (fun t ht _ => ⟨⟨x, (), rfl, e1.symm, by show va_P D cl (w u') t.heap; rw [ht, e2]; exact hP⟩, hS.F ht⟩) hS.2.2 d C.2.2.2.2.2.2.2.2.1
theorem V_vret (C : vC p s m args meth c D cl tys X A w cc own Ts nL rt) {u' : S} (hrt : rt = none) (e2 : u' = u) (d : decode cc pc = .ok (.return_, 1)) : V p l e R s m args below meth c D cl A w nL 0 0 (MQ below (mQv D cl w A u') args s 0 0 A) u pc ls [] :=
  fun H locs la hP hS hl => W.vret C.1 C.2.1 (C.2.2.2.2.2.2.2.2.2.1.trans hrt) (fun t ht _ => ⟨⟨(), rfl, trivial, by show va_P D cl (w u') t.heap; rw [ht, e2]; exact hP⟩, hS.F ht⟩) hS.2.2 d C.2.2.2.2.2.2.2.2.1
variable {y : MethodName} {bytes : ByteArray} {maxL index nn : Nat} {ret : Option FieldType} {ws : List Cond} {rm : Room} {Cn host : String} {T : u_T} {N ci : Nat} {b : Addr} {As : List Value} {r : Int32} {u' : S}
theorem mPc_blind (hX : xOK X) {As' : List Value} {u0 : S} {sz : Nat} : FrameBlind (mPc D cl tys X w As' u0 sz) := by
  intro a U g mk q
  obtain ⟨q1, q2, q3, q4, q5, q6⟩ := q
  exact ⟨q1, q2, q3, va_K.moved (u := U) (U := U.calling g mk a) (Vm.Alike.refl U.vm) q4, q5, hX U (U.calling g mk a) (State.WarmedH.refl U) q6⟩
theorem mPc_at (C : vC p s m args meth c D cl tys X A w cc own Ts nL rt) (hX : xOK X) {H : Heap} (hP : va_P D cl (w u) H) {As' : List Value} (U : State) (hU : U.heap = H) (hW : s.WarmedH U.vm) : mPc D cl tys X w As' u H.size As'.toArray U :=
  ⟨rfl, by rw [hU], by rw [hU]; exact hP, va_K.moved hW.alike C.2.2.2.2.1, (C.2.2.2.2.2.1 u).weaken (fun _ _ _ _ => trivial), hX s U hW C.2.2.2.2.2.2.2.2.2.2⟩
theorem vA_sub (C : vC p s m args meth c D cl tys X A w cc own Ts nL rt) {H : Heap} {locs : List Loc} (hS : va_S A s.heap H locs) (q : Nat) (h : va_A (w u) H.size q) : A q := by
  rcases h with ⟨j, e', hj⟩ | h
  · exact (C.2.2.2.2.2.1 u).2 j _ hj
  · exact C.2.2.2.2.2.2.1 q (Nat.le_trans hS.1 h)
theorem V_runI (C : vC p s m args meth c D cl tys X A w cc own Ts nL rt) (hr : ∀ (H : Heap) (locs : List Loc) (la : Array Slot), va_P D cl (w u) H → la.size = nL → va_Run p l e R s m args below meth c H locs k n 0 0 (F0 m pc la (As.reverse ++ st)) st (mQi D cl w (va_A (w u) H.size) r u' As.toArray) (va_A (w u) H.size))
    (K : V p l e R s m args below meth c D cl A w nL k n Q u' (pc + 3) ls (.int r :: st)) : V p l e R s m args below meth c D cl A w nL k n Q u pc ls (As.reverse ++ st) := by
  intro H locs la hP hS hl
  refine va_calli (hr H locs la hP hl.1) hS (fun q _ h => vA_sub C hS q h) (fun q h => vA_sub C hS q h) (fun r' _ t H1 locs1 ht hvm hw hB hz hk1 hS1 => ?_)
  subst hw
  rw [ht] at hB
  exact K H1 locs1 la hB hS1 hl
theorem V_runV (C : vC p s m args meth c D cl tys X A w cc own Ts nL rt) (hr : ∀ (H : Heap) (locs : List Loc) (la : Array Slot), va_P D cl (w u) H → la.size = nL → va_Run p l e R s m args below meth c H locs k n 0 0 (F0 m pc la (As.reverse ++ st)) st (mQv D cl w (va_A (w u) H.size) u' As.toArray) (va_A (w u) H.size))
    (K : V p l e R s m args below meth c D cl A w nL k n Q u' (pc + 3) ls st) : V p l e R s m args below meth c D cl A w nL k n Q u pc ls (As.reverse ++ st) := by
  intro H locs la hP hS hl
  refine va_callv (hr H locs la hP hl.1) hS (fun q _ h => vA_sub C hS q h) (fun q h => vA_sub C hS q h) (fun _ t H1 locs1 ht hvm hw hB hz hk1 hS1 => ?_)
  rw [ht] at hB
  exact K H1 locs1 la hB hS1 hl
theorem vfx (C : vC p s m args meth c D cl tys X A w cc own Ts nL rt) : CallFix p m c cc nL s args Ts own := ⟨C.1, C.2.1, C.2.2.2.2.2.2.2.1, C.2.2.2.1, C.2.2.1⟩
theorem rev_app (As : List Value) (b : Value) (st : List Value) : (b :: As).reverse ++ st = As.reverse ++ b :: st := by simp
/-- private or public, of an object of the family -/
theorem V_callVi (C : vC p s m args meth c D cl tys X A w cc own Ts nL rt) (hX : xOK X) (h : mI D cl tys X w l y ws rm (.ref b :: As) u r u') (cw : CallW R s args own Cn index y bytes maxL ret ws rm 0 0 nn) (q0 : Nat) {fs : List Value} (he : (w u)[q0]? = some (b, .inr (ci, fs))) (hc : cl[ci]? = some (Cn, T, N)) (hn : As.length = nn) (hst : (st.map fun v => v.category).sum ≤ 8) (hk : k + 0 ≤ R.cells ∧ n + 0 ≤ R.slots) (d : decode cc pc = .ok (.invokevirtual index, 3))
    (K : V p l e R s m args below meth c D cl A w nL k n Q u' (pc + 3) ls (.int r :: st)) : V p l e R s m args below meth c D cl A w nL k n Q u pc ls (As.reverse ++ .ref b :: st) := by
  have g := V_runI (As := .ref b :: As) (st := st) C (fun H locs la hP hl => va_runV (b := b) (As := As) (rest := st) (vfx C) (h H.size) cw ⟨mPc_blind hX, va_recv C.2.2.2.2.1 hP hc he, fun U hU hW => mPc_at C hX hP U hU hW⟩ rfl hn hl (rev_app As (.ref b) st) (lv_room hst) d hk) K
  rw [rev_app] at g
  exact g
theorem V_callVv (C : vC p s m args meth c D cl tys X A w cc own Ts nL rt) (hX : xOK X) (h : mV D cl tys X w l y ws rm (.ref b :: As) u u') (cw : CallW R s args own Cn index y bytes maxL ret ws rm 0 0 nn) (q0 : Nat) {fs : List Value} (he : (w u)[q0]? = some (b, .inr (ci, fs))) (hc : cl[ci]? = some (Cn, T, N)) (hn : As.length = nn) (hst : (st.map fun v => v.category).sum ≤ 8) (hk : k + 0 ≤ R.cells ∧ n + 0 ≤ R.slots) (d : decode cc pc = .ok (.invokevirtual index, 3))
    (K : V p l e R s m args below meth c D cl A w nL k n Q u' (pc + 3) ls st) : V p l e R s m args below meth c D cl A w nL k n Q u pc ls (As.reverse ++ .ref b :: st) := by
  have g := V_runV (As := .ref b :: As) (st := st) C (fun H locs la hP hl => va_runV (b := b) (As := As) (rest := st) (vfx C) (h H.size) cw ⟨mPc_blind hX, va_recv C.2.2.2.2.1 hP hc he, fun U hU hW => mPc_at C hX hP U hU hW⟩ rfl hn hl (rev_app As (.ref b) st) (lv_room hst) d hk) K
  rw [rev_app] at g
  exact g
/-- private, of a nest mate's object -/
theorem V_callVNi (C : vC p s m args meth c D cl tys X A w cc own Ts nL rt) (hX : xOK X) (h : mI D cl tys X w l y ws rm (.ref b :: As) u r u') (cw : va_CN R s args own index y host bytes maxL ret ws rm 0 0 nn ∧ (Cond.instanceMethod y).before args s = true ∧ (Cond.selects Cn y y).before args s = true) (q0 : Nat) {fs : List Value} (he : (w u)[q0]? = some (b, .inr (ci, fs))) (hc : cl[ci]? = some (Cn, T, N)) (hn : As.length = nn) (hst : (st.map fun v => v.category).sum ≤ 8) (hk : k + 0 ≤ R.cells ∧ n + 0 ≤ R.slots) (d : decode cc pc = .ok (.invokevirtual index, 3))
    (K : V p l e R s m args below meth c D cl A w nL k n Q u' (pc + 3) ls (.int r :: st)) : V p l e R s m args below meth c D cl A w nL k n Q u pc ls (As.reverse ++ .ref b :: st) := by
  have g := V_runI (As := .ref b :: As) (st := st) C (fun H locs la hP hl => va_runVN (b := b) (As := As) (rest := st) (vfx C) (h H.size) cw ⟨mPc_blind hX, va_recv C.2.2.2.2.1 hP hc he, fun U hU hW => mPc_at C hX hP U hU hW⟩ rfl hn hl (rev_app As (.ref b) st) (lv_room hst) d hk) K
  rw [rev_app] at g
  exact g
theorem V_callSi (C : vC p s m args meth c D cl tys X A w cc own Ts nL rt) (hX : xOK X) (h : mI D cl tys X w l y ws rm As u r u') (cw : CallB R s args own index y bytes maxL ret ws rm 0 0 nn ∧ (Cond.static y).before args s = true) (hn : As.length = nn) (hst : (st.map fun v => v.category).sum ≤ 8) (hk : k + 0 ≤ R.cells ∧ n + 0 ≤ R.slots) (d : decode cc pc = .ok (.invokestatic index, 3))
    (K : V p l e R s m args below meth c D cl A w nL k n Q u' (pc + 3) ls (.int r :: st)) : V p l e R s m args below meth c D cl A w nL k n Q u pc ls (As.reverse ++ st) :=
  V_runI C (fun H locs la hP hl => va_runS (As := As) (rest := st) (vfx C) (h H.size) cw ⟨mPc_blind hX, fun U hU hW => mPc_at C hX hP U hU hW⟩ rfl hn hl rfl (lv_room hst) d hk) K
theorem V_callSNi (C : vC p s m args meth c D cl tys X A w cc own Ts nL rt) (hX : xOK X) (h : mI D cl tys X w l y ws rm As u r u') (cw : va_CN R s args own index y host bytes maxL ret ws rm 0 0 nn ∧ (Cond.static y).before args s = true ∧ True) (hn : As.length = nn) (hst : (st.map fun v => v.category).sum ≤ 8) (hk : k + 0 ≤ R.cells ∧ n + 0 ≤ R.slots) (d : decode cc pc = .ok (.invokestatic index, 3))
    (K : V p l e R s m args below meth c D cl A w nL k n Q u' (pc + 3) ls (.int r :: st)) : V p l e R s m args below meth c D cl A w nL k n Q u pc ls (As.reverse ++ st) :=
  V_runI C (fun H locs la hP hl => va_runSN (As := As) (rest := st) (vfx C) (h H.size) cw ⟨mPc_blind hX, fun U hU hW => mPc_at C hX hP U hU hW⟩ rfl hn hl rfl (lv_room hst) d hk) K
theorem V_cVi0 (C : vC p s m args meth c D cl tys X A w cc own Ts nL rt) (hX : xOK X) (h : mI D cl tys X w l y ws rm (.ref b :: []) u r u') (cw : CallW R s args own Cn index y bytes maxL ret ws rm 0 0 0) (q0 : Nat) {fs : List Value} (he : (w u)[q0]? = some (b, .inr (ci, fs))) (hc : cl[ci]? = some (Cn, T, N)) (hst : (st.map fun v => v.category).sum ≤ 8) (hk : k + 0 ≤ R.cells ∧ n + 0 ≤ R.slots) (d : decode cc pc = .ok (.invokevirtual index, 3)) (K : V p l e R s m args below meth c D cl A w nL k n Q u' (pc + 3) ls (.int r :: st)) : V p l e R s m args below meth c D cl A w nL k n Q u pc ls (.ref b :: st) := V_callVi (As := []) C hX h cw q0 he hc rfl hst hk d K
theorem V_cVi1 (C : vC p s m args meth c D cl tys X A w cc own Ts nL rt) (hX : xOK X) {v1 : Value} (h : mI D cl tys X w l y ws rm (.ref b :: [v1]) u r u') (cw : CallW R s args own Cn index y bytes maxL ret ws rm 0 0 1) (q0 : Nat) {fs : List Value} (he : (w u)[q0]? = some (b, .inr (ci, fs))) (hc : cl[ci]? = some (Cn, T, N)) (hst : (st.map fun v => v.category).sum ≤ 8) (hk : k + 0 ≤ R.cells ∧ n + 0 ≤ R.slots) (d : decode cc pc = .ok (.invokevirtual index, 3)) (K : V p l e R s m args below meth c D cl A w nL k n Q u' (pc + 3) ls (.int r :: st)) : V p l e R s m args below meth c D cl A w nL k n Q u pc ls (v1 :: .ref b :: st) := V_callVi (As := [v1]) C hX h cw q0 he hc rfl hst hk d K
theorem V_cVi2 (C : vC p s m args meth c D cl tys X A w cc own Ts nL rt) (hX : xOK X) {v1 v2 : Value} (h : mI D cl tys X w l y ws rm (.ref b :: [v1, v2]) u r u') (cw : CallW R s args own Cn index y bytes maxL ret ws rm 0 0 2) (q0 : Nat) {fs : List Value} (he : (w u)[q0]? = some (b, .inr (ci, fs))) (hc : cl[ci]? = some (Cn, T, N)) (hst : (st.map fun v => v.category).sum ≤ 8) (hk : k + 0 ≤ R.cells ∧ n + 0 ≤ R.slots) (d : decode cc pc = .ok (.invokevirtual index, 3)) (K : V p l e R s m args below meth c D cl A w nL k n Q u' (pc + 3) ls (.int r :: st)) : V p l e R s m args below meth c D cl A w nL k n Q u pc ls (v2 :: v1 :: .ref b :: st) := V_callVi (As := [v1, v2]) C hX h cw q0 he hc rfl hst hk d K
theorem V_cVi3 (C : vC p s m args meth c D cl tys X A w cc own Ts nL rt) (hX : xOK X) {v1 v2 v3 : Value} (h : mI D cl tys X w l y ws rm (.ref b :: [v1, v2, v3]) u r u') (cw : CallW R s args own Cn index y bytes maxL ret ws rm 0 0 3) (q0 : Nat) {fs : List Value} (he : (w u)[q0]? = some (b, .inr (ci, fs))) (hc : cl[ci]? = some (Cn, T, N)) (hst : (st.map fun v => v.category).sum ≤ 8) (hk : k + 0 ≤ R.cells ∧ n + 0 ≤ R.slots) (d : decode cc pc = .ok (.invokevirtual index, 3)) (K : V p l e R s m args below meth c D cl A w nL k n Q u' (pc + 3) ls (.int r :: st)) : V p l e R s m args below meth c D cl A w nL k n Q u pc ls (v3 :: v2 :: v1 :: .ref b :: st) := V_callVi (As := [v1, v2, v3]) C hX h cw q0 he hc rfl hst hk d K
theorem V_cVi4 (C : vC p s m args meth c D cl tys X A w cc own Ts nL rt) (hX : xOK X) {v1 v2 v3 v4 : Value} (h : mI D cl tys X w l y ws rm (.ref b :: [v1, v2, v3, v4]) u r u') (cw : CallW R s args own Cn index y bytes maxL ret ws rm 0 0 4) (q0 : Nat) {fs : List Value} (he : (w u)[q0]? = some (b, .inr (ci, fs))) (hc : cl[ci]? = some (Cn, T, N)) (hst : (st.map fun v => v.category).sum ≤ 8) (hk : k + 0 ≤ R.cells ∧ n + 0 ≤ R.slots) (d : decode cc pc = .ok (.invokevirtual index, 3)) (K : V p l e R s m args below meth c D cl A w nL k n Q u' (pc + 3) ls (.int r :: st)) : V p l e R s m args below meth c D cl A w nL k n Q u pc ls (v4 :: v3 :: v2 :: v1 :: .ref b :: st) := V_callVi (As := [v1, v2, v3, v4]) C hX h cw q0 he hc rfl hst hk d K
theorem V_cVi5 (C : vC p s m args meth c D cl tys X A w cc own Ts nL rt) (hX : xOK X) {v1 v2 v3 v4 v5 : Value} (h : mI D cl tys X w l y ws rm (.ref b :: [v1, v2, v3, v4, v5]) u r u') (cw : CallW R s args own Cn index y bytes maxL ret ws rm 0 0 5) (q0 : Nat) {fs : List Value} (he : (w u)[q0]? = some (b, .inr (ci, fs))) (hc : cl[ci]? = some (Cn, T, N)) (hst : (st.map fun v => v.category).sum ≤ 8) (hk : k + 0 ≤ R.cells ∧ n + 0 ≤ R.slots) (d : decode cc pc = .ok (.invokevirtual index, 3)) (K : V p l e R s m args below meth c D cl A w nL k n Q u' (pc + 3) ls (.int r :: st)) : V p l e R s m args below meth c D cl A w nL k n Q u pc ls (v5 :: v4 :: v3 :: v2 :: v1 :: .ref b :: st) := V_callVi (As := [v1, v2, v3, v4, v5]) C hX h cw q0 he hc rfl hst hk d K
theorem V_cVi6 (C : vC p s m args meth c D cl tys X A w cc own Ts nL rt) (hX : xOK X) {v1 v2 v3 v4 v5 v6 : Value} (h : mI D cl tys X w l y ws rm (.ref b :: [v1, v2, v3, v4, v5, v6]) u r u') (cw : CallW R s args own Cn index y bytes maxL ret ws rm 0 0 6) (q0 : Nat) {fs : List Value} (he : (w u)[q0]? = some (b, .inr (ci, fs))) (hc : cl[ci]? = some (Cn, T, N)) (hst : (st.map fun v => v.category).sum ≤ 8) (hk : k + 0 ≤ R.cells ∧ n + 0 ≤ R.slots) (d : decode cc pc = .ok (.invokevirtual index, 3)) (K : V p l e R s m args below meth c D cl A w nL k n Q u' (pc + 3) ls (.int r :: st)) : V p l e R s m args below meth c D cl A w nL k n Q u pc ls (v6 :: v5 :: v4 :: v3 :: v2 :: v1 :: .ref b :: st) := V_callVi (As := [v1, v2, v3, v4, v5, v6]) C hX h cw q0 he hc rfl hst hk d K
theorem V_cVv0 (C : vC p s m args meth c D cl tys X A w cc own Ts nL rt) (hX : xOK X) (h : mV D cl tys X w l y ws rm (.ref b :: []) u u') (cw : CallW R s args own Cn index y bytes maxL ret ws rm 0 0 0) (q0 : Nat) {fs : List Value} (he : (w u)[q0]? = some (b, .inr (ci, fs))) (hc : cl[ci]? = some (Cn, T, N)) (hst : (st.map fun v => v.category).sum ≤ 8) (hk : k + 0 ≤ R.cells ∧ n + 0 ≤ R.slots) (d : decode cc pc = .ok (.invokevirtual index, 3)) (K : V p l e R s m args below meth c D cl A w nL k n Q u' (pc + 3) ls st) : V p l e R s m args below meth c D cl A w nL k n Q u pc ls (.ref b :: st) := V_callVv (As := []) C hX h cw q0 he hc rfl hst hk d K
theorem V_cVv1 (C : vC p s m args meth c D cl tys X A w cc own Ts nL rt) (hX : xOK X) {v1 : Value} (h : mV D cl tys X w l y ws rm (.ref b :: [v1]) u u') (cw : CallW R s args own Cn index y bytes maxL ret ws rm 0 0 1) (q0 : Nat) {fs : List Value} (he : (w u)[q0]? = some (b, .inr (ci, fs))) (hc : cl[ci]? = some (Cn, T, N)) (hst : (st.map fun v => v.category).sum ≤ 8) (hk : k + 0 ≤ R.cells ∧ n + 0 ≤ R.slots) (d : decode cc pc = .ok (.invokevirtual index, 3)) (K : V p l e R s m args below meth c D cl A w nL k n Q u' (pc + 3) ls st) : V p l e R s m args below meth c D cl A w nL k n Q u pc ls (v1 :: .ref b :: st) := V_callVv (As := [v1]) C hX h cw q0 he hc rfl hst hk d K
theorem V_cVv2 (C : vC p s m args meth c D cl tys X A w cc own Ts nL rt) (hX : xOK X) {v1 v2 : Value} (h : mV D cl tys X w l y ws rm (.ref b :: [v1, v2]) u u') (cw : CallW R s args own Cn index y bytes maxL ret ws rm 0 0 2) (q0 : Nat) {fs : List Value} (he : (w u)[q0]? = some (b, .inr (ci, fs))) (hc : cl[ci]? = some (Cn, T, N)) (hst : (st.map fun v => v.category).sum ≤ 8) (hk : k + 0 ≤ R.cells ∧ n + 0 ≤ R.slots) (d : decode cc pc = .ok (.invokevirtual index, 3)) (K : V p l e R s m args below meth c D cl A w nL k n Q u' (pc + 3) ls st) : V p l e R s m args below meth c D cl A w nL k n Q u pc ls (v2 :: v1 :: .ref b :: st) := V_callVv (As := [v1, v2]) C hX h cw q0 he hc rfl hst hk d K
theorem V_cVv3 (C : vC p s m args meth c D cl tys X A w cc own Ts nL rt) (hX : xOK X) {v1 v2 v3 : Value} (h : mV D cl tys X w l y ws rm (.ref b :: [v1, v2, v3]) u u') (cw : CallW R s args own Cn index y bytes maxL ret ws rm 0 0 3) (q0 : Nat) {fs : List Value} (he : (w u)[q0]? = some (b, .inr (ci, fs))) (hc : cl[ci]? = some (Cn, T, N)) (hst : (st.map fun v => v.category).sum ≤ 8) (hk : k + 0 ≤ R.cells ∧ n + 0 ≤ R.slots) (d : decode cc pc = .ok (.invokevirtual index, 3)) (K : V p l e R s m args below meth c D cl A w nL k n Q u' (pc + 3) ls st) : V p l e R s m args below meth c D cl A w nL k n Q u pc ls (v3 :: v2 :: v1 :: .ref b :: st) := V_callVv (As := [v1, v2, v3]) C hX h cw q0 he hc rfl hst hk d K
theorem V_cVv4 (C : vC p s m args meth c D cl tys X A w cc own Ts nL rt) (hX : xOK X) {v1 v2 v3 v4 : Value} (h : mV D cl tys X w l y ws rm (.ref b :: [v1, v2, v3, v4]) u u') (cw : CallW R s args own Cn index y bytes maxL ret ws rm 0 0 4) (q0 : Nat) {fs : List Value} (he : (w u)[q0]? = some (b, .inr (ci, fs))) (hc : cl[ci]? = some (Cn, T, N)) (hst : (st.map fun v => v.category).sum ≤ 8) (hk : k + 0 ≤ R.cells ∧ n + 0 ≤ R.slots) (d : decode cc pc = .ok (.invokevirtual index, 3)) (K : V p l e R s m args below meth c D cl A w nL k n Q u' (pc + 3) ls st) : V p l e R s m args below meth c D cl A w nL k n Q u pc ls (v4 :: v3 :: v2 :: v1 :: .ref b :: st) := V_callVv (As := [v1, v2, v3, v4]) C hX h cw q0 he hc rfl hst hk d K
theorem V_cVv5 (C : vC p s m args meth c D cl tys X A w cc own Ts nL rt) (hX : xOK X) {v1 v2 v3 v4 v5 : Value} (h : mV D cl tys X w l y ws rm (.ref b :: [v1, v2, v3, v4, v5]) u u') (cw : CallW R s args own Cn index y bytes maxL ret ws rm 0 0 5) (q0 : Nat) {fs : List Value} (he : (w u)[q0]? = some (b, .inr (ci, fs))) (hc : cl[ci]? = some (Cn, T, N)) (hst : (st.map fun v => v.category).sum ≤ 8) (hk : k + 0 ≤ R.cells ∧ n + 0 ≤ R.slots) (d : decode cc pc = .ok (.invokevirtual index, 3)) (K : V p l e R s m args below meth c D cl A w nL k n Q u' (pc + 3) ls st) : V p l e R s m args below meth c D cl A w nL k n Q u pc ls (v5 :: v4 :: v3 :: v2 :: v1 :: .ref b :: st) := V_callVv (As := [v1, v2, v3, v4, v5]) C hX h cw q0 he hc rfl hst hk d K
theorem V_cVv6 (C : vC p s m args meth c D cl tys X A w cc own Ts nL rt) (hX : xOK X) {v1 v2 v3 v4 v5 v6 : Value} (h : mV D cl tys X w l y ws rm (.ref b :: [v1, v2, v3, v4, v5, v6]) u u') (cw : CallW R s args own Cn index y bytes maxL ret ws rm 0 0 6) (q0 : Nat) {fs : List Value} (he : (w u)[q0]? = some (b, .inr (ci, fs))) (hc : cl[ci]? = some (Cn, T, N)) (hst : (st.map fun v => v.category).sum ≤ 8) (hk : k + 0 ≤ R.cells ∧ n + 0 ≤ R.slots) (d : decode cc pc = .ok (.invokevirtual index, 3)) (K : V p l e R s m args below meth c D cl A w nL k n Q u' (pc + 3) ls st) : V p l e R s m args below meth c D cl A w nL k n Q u pc ls (v6 :: v5 :: v4 :: v3 :: v2 :: v1 :: .ref b :: st) := V_callVv (As := [v1, v2, v3, v4, v5, v6]) C hX h cw q0 he hc rfl hst hk d K
theorem V_cVNi1 (C : vC p s m args meth c D cl tys X A w cc own Ts nL rt) (hX : xOK X) {v1 : Value} (h : mI D cl tys X w l y ws rm (.ref b :: [v1]) u r u') (cw : va_CN R s args own index y host bytes maxL ret ws rm 0 0 1 ∧ (Cond.instanceMethod y).before args s = true ∧ (Cond.selects Cn y y).before args s = true) (q0 : Nat) {fs : List Value} (he : (w u)[q0]? = some (b, .inr (ci, fs))) (hc : cl[ci]? = some (Cn, T, N)) (hst : (st.map fun v => v.category).sum ≤ 8) (hk : k + 0 ≤ R.cells ∧ n + 0 ≤ R.slots) (d : decode cc pc = .ok (.invokevirtual index, 3)) (K : V p l e R s m args below meth c D cl A w nL k n Q u' (pc + 3) ls (.int r :: st)) : V p l e R s m args below meth c D cl A w nL k n Q u pc ls (v1 :: .ref b :: st) := V_callVNi (As := [v1]) C hX h cw q0 he hc rfl hst hk d K
theorem V_cVNi4 (C : vC p s m args meth c D cl tys X A w cc own Ts nL rt) (hX : xOK X) {v1 v2 v3 v4 : Value} (h : mI D cl tys X w l y ws rm (.ref b :: [v1, v2, v3, v4]) u r u') (cw : va_CN R s args own index y host bytes maxL ret ws rm 0 0 4 ∧ (Cond.instanceMethod y).before args s = true ∧ (Cond.selects Cn y y).before args s = true) (q0 : Nat) {fs : List Value} (he : (w u)[q0]? = some (b, .inr (ci, fs))) (hc : cl[ci]? = some (Cn, T, N)) (hst : (st.map fun v => v.category).sum ≤ 8) (hk : k + 0 ≤ R.cells ∧ n + 0 ≤ R.slots) (d : decode cc pc = .ok (.invokevirtual index, 3)) (K : V p l e R s m args below meth c D cl A w nL k n Q u' (pc + 3) ls (.int r :: st)) : V p l e R s m args below meth c D cl A w nL k n Q u pc ls (v4 :: v3 :: v2 :: v1 :: .ref b :: st) := V_callVNi (As := [v1, v2, v3, v4]) C hX h cw q0 he hc rfl hst hk d K
theorem V_cSi1 (C : vC p s m args meth c D cl tys X A w cc own Ts nL rt) (hX : xOK X) {v1 : Value} (h : mI D cl tys X w l y ws rm [v1] u r u') (cw : CallB R s args own index y bytes maxL ret ws rm 0 0 1 ∧ (Cond.static y).before args s = true) (hst : (st.map fun v => v.category).sum ≤ 8) (hk : k + 0 ≤ R.cells ∧ n + 0 ≤ R.slots) (d : decode cc pc = .ok (.invokestatic index, 3)) (K : V p l e R s m args below meth c D cl A w nL k n Q u' (pc + 3) ls (.int r :: st)) : V p l e R s m args below meth c D cl A w nL k n Q u pc ls (v1 :: st) := V_callSi (As := [v1]) C hX h cw rfl hst hk d K
theorem V_cSi2 (C : vC p s m args meth c D cl tys X A w cc own Ts nL rt) (hX : xOK X) {v1 v2 : Value} (h : mI D cl tys X w l y ws rm [v1, v2] u r u') (cw : CallB R s args own index y bytes maxL ret ws rm 0 0 2 ∧ (Cond.static y).before args s = true) (hst : (st.map fun v => v.category).sum ≤ 8) (hk : k + 0 ≤ R.cells ∧ n + 0 ≤ R.slots) (d : decode cc pc = .ok (.invokestatic index, 3)) (K : V p l e R s m args below meth c D cl A w nL k n Q u' (pc + 3) ls (.int r :: st)) : V p l e R s m args below meth c D cl A w nL k n Q u pc ls (v2 :: v1 :: st) := V_callSi (As := [v1, v2]) C hX h cw rfl hst hk d K
theorem V_cSi3 (C : vC p s m args meth c D cl tys X A w cc own Ts nL rt) (hX : xOK X) {v1 v2 v3 : Value} (h : mI D cl tys X w l y ws rm [v1, v2, v3] u r u') (cw : CallB R s args own index y bytes maxL ret ws rm 0 0 3 ∧ (Cond.static y).before args s = true) (hst : (st.map fun v => v.category).sum ≤ 8) (hk : k + 0 ≤ R.cells ∧ n + 0 ≤ R.slots) (d : decode cc pc = .ok (.invokestatic index, 3)) (K : V p l e R s m args below meth c D cl A w nL k n Q u' (pc + 3) ls (.int r :: st)) : V p l e R s m args below meth c D cl A w nL k n Q u pc ls (v3 :: v2 :: v1 :: st) := V_callSi (As := [v1, v2, v3]) C hX h cw rfl hst hk d K
theorem V_cSNi1 (C : vC p s m args meth c D cl tys X A w cc own Ts nL rt) (hX : xOK X) {v1 : Value} (h : mI D cl tys X w l y ws rm [v1] u r u') (cw : va_CN R s args own index y host bytes maxL ret ws rm 0 0 1 ∧ (Cond.static y).before args s = true ∧ True) (hst : (st.map fun v => v.category).sum ≤ 8) (hk : k + 0 ≤ R.cells ∧ n + 0 ≤ R.slots) (d : decode cc pc = .ok (.invokestatic index, 3)) (K : V p l e R s m args below meth c D cl A w nL k n Q u' (pc + 3) ls (.int r :: st)) : V p l e R s m args below meth c D cl A w nL k n Q u pc ls (v1 :: st) := V_callSNi (As := [v1]) C hX h cw rfl hst hk d K
theorem V_cSNi2 (C : vC p s m args meth c D cl tys X A w cc own Ts nL rt) (hX : xOK X) {v1 v2 : Value} (h : mI D cl tys X w l y ws rm [v1, v2] u r u') (cw : va_CN R s args own index y host bytes maxL ret ws rm 0 0 2 ∧ (Cond.static y).before args s = true ∧ True) (hst : (st.map fun v => v.category).sum ≤ 8) (hk : k + 0 ≤ R.cells ∧ n + 0 ≤ R.slots) (d : decode cc pc = .ok (.invokestatic index, 3)) (K : V p l e R s m args below meth c D cl A w nL k n Q u' (pc + 3) ls (.int r :: st)) : V p l e R s m args below meth c D cl A w nL k n Q u pc ls (v2 :: v1 :: st) := V_callSNi (As := [v1, v2]) C hX h cw rfl hst hk d K
end VR
end
section
/-! THE LAYER, GOING ON: methods that throw, calls over a part of the caller's world -/
def zq (A : Nat → Prop) (U : State) (H : Heap) : Prop := vx_Zq Bundle.tN "UNASSIGNED_STACK" Bundle.steD A U H ∧ vx_Zq Bundle.tN "SUPPRESSED_SENTINEL" Bundle.listD A U H
theorem zq.moved {A : Nat → Prop} {u U : State} {H : Heap} (hvm : u.vm.Alike U.vm) (h : zq A u H) : zq A U H := ⟨vx_Zq.moved hvm h.1, vx_Zq.moved hvm h.2⟩
theorem zq.kept {A : Nat → Prop} {U : State} {H H1 : Heap} (h : zq A U H) (hq : ∀ a : Nat, a < H.size → ¬ A a → H1[a]? = H[a]?) : zq A U H1 := ⟨h.1.kept hq, h.2.kept hq⟩
theorem zq.narrow {A B : Nat → Prop} {U : State} {H : Heap} (h : zq A U H) (hAB : ∀ q, B q → A q) : zq B U H := ⟨h.1.narrow hAB, h.2.narrow hAB⟩
def mPz {S : Type} (D : va_G) (cl : List vw_C) (tys : List (ClassId × FieldType)) (Y : State → Prop) (w : S → va_W) (As : List Value) (u : S) (sz : Nat) : Array Value → State → Prop :=
  va_Pc As (fun U => U.heap.size = sz ∧ va_P D cl (w u) U.heap ∧ va_K D cl tys U ∧ va_D (fun _ => True) (w u) ∧ Y U ∧ zq (va_A (w u) sz) U U.heap)
theorem mPz_blind {S : Type} {D : va_G} {cl : List vw_C} {tys : List (ClassId × FieldType)} {Y : State → Prop} {w : S → va_W} (hY : xOK Y) {As' : List Value} {u0 : S} {sz : Nat} : FrameBlind (mPz D cl tys Y w As' u0 sz) := by
  intro a U g mk q
  obtain ⟨q1, q2, q3, q4, q5, q6, q7⟩ := q
  exact ⟨q1, q2, q3, va_K.moved (u := U) (U := U.calling g mk a) (Vm.Alike.refl U.vm) q4, q5, hY U (U.calling g mk a) (State.WarmedH.refl U) q6, zq.moved (u := U) (U := U.calling g mk a) (Vm.Alike.refl U.vm) q7⟩
/-- which exception stands for which number -/
def xcode (exns : List (String × Int32)) (x : Int32) (E : String) : Prop := ∃ j : Int32, (E, j) ∈ exns ∧ x = j
/-- the end of a method that may throw: number 0 and the answer r, or the exception of number x; the memory u' behind either -/
def mTi {S : Type} (D : va_G) (cl : List vw_C) (w : S → va_W) (A : Nat → Prop) (x r : Int32) (u' : S) : Array Value → State → Outcome → State → Prop := va_Qi (fun (r' : Int32) (_ : Unit) => x = 0 ∧ r' = r) (fun _ t => va_P D cl (w u') t.heap) A
def mTx {S : Type} (D : va_G) (cl : List vw_C) (w : S → va_W) (A : Nat → Prop) (exns : List (String × Int32)) (x : Int32) (u' : S) : String → State → State → Prop := vx_X (fun _ : Unit => True) (fun E _ t => xcode exns x E ∧ va_P D cl (w u') t.heap) A
def mT {S : Type} (D : va_G) (cl : List vw_C) (tys : List (ClassId × FieldType)) (Y : State → Prop) (w : S → va_W) (l : Launch) (y : MethodName) (ws : List Cond) (rm : Room) (exns : List (String × Int32)) (As : List Value) (u : S) (x r : Int32) (u' : S) : Prop :=
  ∀ sz : Nat, vx_Met l y ws rm (mPz D cl tys Y w As u sz) (mTi D cl w (va_A (w u) sz) x r u') (mTx D cl w (va_A (w u) sz) exns x u') 1 6 (va_A (w u) sz)
theorem mT_of {own : String} {S : Type} {D : va_G} {cl : List vw_C} {tys : List (ClassId × FieldType)} {X Y : State → Prop} {w : S → va_W} {l : Launch} {y : MethodName} {ws ws' : List Cond} {rm : Room} {exns : List (String × Int32)} {As : List Value} {u : S} {x r : Int32} {u' : S} {cc : ByteArray} {maxL : Nat} {ret : Option FieldType}
    (ho : y.cls = own) (hy : plainName y.cls = true) (hws : ws = Cond.code y cc maxL ret :: ws') (hw : wOK w) (hYX : ∀ U, Y U → X U) (hlen : (lg_sl As).length ≤ maxL)
    (body : ∀ (p : Program) (e : Env) (s : State) (m : MethodId) (args : Array Value) (below : List Frame) (meth : Method) (c : Code) (A : Nat → Prop), vC p s m args meth c D cl tys X A w cc own ws maxL ret → Y s → zq A s s.heap → (∀ z ∈ c.exceptionTable.toList, False) → V p l e rm s m args below meth c D cl A w maxL 0 0 (vx_MQ below (mTi D cl w A x r u') (mTx D cl w A exns x u') args s 1 6 A) u 0 (lv_args 0 As) []) : mT D cl tys Y w l y ws rm exns As u x r u' := by
  intro sz
  refine vx_ofW (cc := cc) (maxL := maxL) (ret := ret) hy hws ?_
  intro p e s m args below meth c s₁ B hml hex hv
  obtain ⟨rfl, hsz, hP, hK, hD, hY, hZ⟩ := hv
  subst hsz
  have C : vC p s m As.toArray meth c D cl tys X (va_A (w u) s.heap.size) w cc own ws maxL ret := ⟨B.exec, B.bytes, atoms_spec (ws := ws) B.pre, by rw [← ho]; exact findClass_of_methodNamed B.named, hK, fun u2 => va_D.addr (hD.self (sz := s.heap.size)) (hw u u2), fun q h => Or.inr h, hml, B.notSynchronized, B.returns, hYX s hY⟩
  have hl := lv_entry As (n := maxL) hlen
  rw [lg_entry_eq]
  exact body p e s m _ below meth c _ C hY hZ hex s.heap [] _ hP va_S.rf hl
/-- of a throw's words those that calls don't carry by themselves -/
def eB (z : String) : List Cond := [.castable z z, .declares ⟨"java/lang/RuntimeException", "<init>", "(Ljava/lang/String;)V"⟩, .declares ⟨"java/lang/Exception", "<init>", "(Ljava/lang/String;)V"⟩, .declares ⟨Bundle.tN, "<init>", "(Ljava/lang/String;)V"⟩]
def eW (z : String) (U : State) : Prop := ∀ w ∈ eB z, va_Nw w U
theorem eW_ok (z : String) : xOK (eW z) := by
  intro s U hW h w hw
  have h' := h w hw
  simp only [eB, List.mem_cons, List.not_mem_nil, or_false] at hw
  rcases hw with rfl | rfl | rfl | rfl
  · exact va_Nw.warmC hW h'
  · exact va_Nw.warmD hW h'
  · exact va_Nw.warmD hW h'
  · exact va_Nw.warmD hW h'
theorem eW_use {z : String} {args : Array Value} {s : State} (h : eW z s) : ∀ w ∈ eB z, w.before args s = true := by
  intro w hw
  have h' := h w hw
  simp only [eB, List.mem_cons, List.not_mem_nil, or_false] at hw
  rcases hw with rfl | rfl | rfl | rfl <;> exact va_Nw.use rfl h'
section VT
variable {p : Program} {l : Launch} {e : Env} {R : Room} {s : State} {m : MethodId} {args : Array Value} {below : List Frame} {meth : Method} {c : Code} {S : Type} {D : va_G} {cl : List vw_C} {tys : List (ClassId × FieldType)} {X : State → Prop} {A : Nat → Prop} {w : S → va_W} {cc : ByteArray} {own : String} {Ts : List Cond} {nL k n : Nat} {rt : Option FieldType} {Q : State → Prop} {u : S} {pc : Nat} {ls : List (Nat × Value)} {st : List Value} {exns : List (String × Int32)}
theorem V_xiret (C : vC p s m args meth c D cl tys X A w cc own Ts nL rt) {v x r : Int32} {ty : FieldType} {u' : S} (hrt : rt = some ty) (hn : narrow ty (.int v) = .int v) (e0 : x = 0) (e1 : r = v) (e2 : u' = u) (d : decode cc pc = .ok (.ireturn, 1)) : V p l e R s m args below meth c D cl A w nL 0 0 (vx_MQ below (mTi D cl w A x r u') (mTx D cl w A exns x u') args s 1 6 A) u pc ls [.int v] :=
  fun H locs la hP hS hl => vx_ret (W.widen (Nat.zero_le 1) (Nat.zero_le 6) (W.zret C.1 C.2.1 (C.2.2.2.2.2.2.2.2.2.1.trans hrt) hn (fun t ht _ => ⟨⟨v, (), rfl, ⟨e0, e1.symm⟩, by show va_P D cl (w u') t.heap; rw [ht, e2]; exact hP⟩, hS.F ht⟩) hS.2.2 d C.2.2.2.2.2.2.2.2.1))
theorem V_throw (C : vC p s m args meth c D cl tys X A w cc own Ts nL rt) (hl0 : l.stackTraces = false) (hZ : zq A s s.heap) (hex : ∀ z ∈ c.exceptionTable.toList, False) {cls text : String} {names : List String} {ik is ic : Nat} {x j r : Int32} {u' : S}
    (hcls : Bundle.fit cls = true) (hnames : ∀ n ∈ names, Bundle.fit n = true) (hk : Cond.classLink own ik cls ∈ Ts) (hini : Cond.initialized cls ∈ Ts) (hstr : ∃ sa, vk_R own is text sa s)
    (hat1 : ∀ w ∈ (vx_atS own ic cls names).filter goodWord, w ∈ Ts) (hat2 : ∀ w ∈ (vx_atS own ic cls names).filter (fun w => !goodWord w), w ∈ eB cls) (hat3 : eW cls s)
    (hgood : ∀ w ∈ Cond.classLink own ik cls :: Cond.initialized cls :: vx_atS own ic cls names, vx_ot w = true)
    (d0 : decode cc pc = .ok (.new ik, 3)) (d3 : decode cc (pc + 3) = .ok (.dup, 1)) (d4 : decode cc (pc + 4) = .ok (.ldc is, 2)) (d6 : decode cc (pc + 6) = .ok (.invokespecial ic, 3)) (d9 : decode cc (pc + 9) = .ok (.athrow, 1))
    (hRf : names.length + 3 < R.frames) (hRl : (st.map fun v => v.category).sum + (13 * (names.length + 1) + 43) ≤ R.locals) (hRc : 0 + 1 ≤ R.cells) (hRs : 0 + 6 ≤ R.slots) (e0 : x = j) (hin : (cls, j) ∈ exns) (e2 : u' = u) :
    V p l e R s m args below meth c D cl A w nL 0 0 (vx_MQ below (mTi D cl w A x r u') (mTx D cl w A exns x u') args s 1 6 A) u pc ls st := by
  intro H locs la hP hS hl
  obtain ⟨sa, hsa⟩ := hstr
  refine vx_throwS C.1 C.2.1 hl0 C.2.2.2.1 hcls hnames (C.2.2.1 _ hk) (C.2.2.1 _ hini) hsa (vx_hat (fun w hw => C.2.2.1 w (hat1 w hw)) hat2 (eW_use hat3)) hgood hZ.1 hZ.2 hS (hl.1.trans C.2.2.2.2.2.2.2.1.symm) d0 d3 d4 d6 d9 (fun z hz => (hex z hz).elim) hRf hRl hRc hRs C.2.2.2.2.2.2.2.2.1 (fun t hvm hz hq => ?_) hS.2.2 (Nat.le_refl _) (Nat.le_refl _)
  refine ⟨(), trivial, ⟨⟨j, hin, e0⟩, ?_⟩, Nat.le_trans hS.1 hz, fun q h1 h2 => ?_⟩
  · rw [e2]
    exact hP.kept (fun i z hi => hq z.1 (hP i z hi).lt)
  · rw [hq q (Nat.lt_of_lt_of_le h1 hS.1)]
    exact hS.2.1 q h1 h2
end VT
end
section
/-! THE LAYER, GOING ON: making objects and arrays (the world is a list that grows) -/
theorem va_RA.inj {U : State} {a b : ClassId} {ty : FieldType} (h1 : va_RA U a ty) (h2 : va_RA U b ty) : a = b := by
  cases ty with
  | object C =>
    obtain ⟨_, _, _, _, _, g1⟩ := h1
    obtain ⟨_, _, _, _, _, g2⟩ := h2
    exact Option.some.inj (g1.symm.trans g2)
  | _ => exact Option.some.inj (Eq.trans (Eq.symm h1) h2)
abbrev uW (ws : va_W) : Unit → va_W := fun _ => ws
/-- a constructor's contract: from its object's cell alone to the world Post -/
def mN (D : va_G) (cl : List vw_C) (tys : List (ClassId × FieldType)) (X : State → Prop) (l : Launch) (y : MethodName) (ws : List Cond) (rm : Room) (h0 ci : Nat) (fs : List Value) (mc ms : Nat) (Post : (Nat → Nat) → va_W) : Prop :=
  ∀ sz : Nat, Met l y ws rm (mPc D cl tys X (uW [(h0, .inr (ci, fs))]) [.ref h0] () sz) (va_Qv (fun _ : Unit => True) (fun _ t => ∃ ad : Nat → Nat, ad 0 = h0 ∧ va_P D cl (Post ad) t.heap ∧ va_D (va_A [(h0, .inr (ci, fs))] sz) (Post ad)) (va_A [(h0, .inr (ci, fs))] sz)) mc ms (va_A [(h0, .inr (ci, fs))] sz)
def mNq (D : va_G) (cl : List vw_C) (A : Nat → Prop) (h0 : Nat) (Post : (Nat → Nat) → va_W) : Array Value → State → Outcome → State → Prop := va_Qv (fun _ : Unit => True) (fun _ t => ∃ ad : Nat → Nat, ad 0 = h0 ∧ va_P D cl (Post ad) t.heap ∧ va_D A (Post ad)) A
theorem mN_of {own : String} {D : va_G} {cl : List vw_C} {tys : List (ClassId × FieldType)} {X : State → Prop} {l : Launch} {y : MethodName} {ws ws' : List Cond} {rm : Room} {h0 ci : Nat} {fs : List Value} {mc ms : Nat} {Post : (Nat → Nat) → va_W} {cc : ByteArray} {maxL : Nat} {ret : Option FieldType}
    (ho : y.cls = own) (hy : plainName y.cls = true) (hi : y.name = "<init>") (hws : ws = Cond.code y cc maxL ret :: ws') (hlen : (lg_sl [.ref h0]).length ≤ maxL)
    (body : ∀ (p : Program) (e : Env) (s : State) (m : MethodId) (args : Array Value) (below : List Frame) (meth : Method) (c : Code) (A : Nat → Prop), vC p s m args meth c D cl tys X A (uW [(h0, .inr (ci, fs))]) cc own ws maxL ret → meth.name = "<init>" → V p l e rm s m args below meth c D cl A (uW [(h0, .inr (ci, fs))]) maxL 0 0 (MQ below (mNq D cl A h0 Post) args s mc ms A) () 0 (lv_args 0 [.ref h0]) []) : mN D cl tys X l y ws rm h0 ci fs mc ms Post := by
  intro sz
  refine Met.ofW (cc := cc) (maxL := maxL) (ret := ret) hy hws ?_
  intro p e s m args below meth c s₁ B hml hv
  obtain ⟨rfl, hsz, hP, hK, hD, hX⟩ := hv
  subst hsz
  have C : vC p s m [Value.ref h0].toArray meth c D cl tys X (va_A [(h0, .inr (ci, fs))] s.heap.size) (uW [(h0, .inr (ci, fs))]) cc own ws maxL ret := ⟨B.exec, B.bytes, atoms_spec (ws := ws) B.pre, by rw [← ho]; exact findClass_of_methodNamed B.named, hK, fun _ => hD.self (sz := s.heap.size), fun q h => Or.inr h, hml, B.notSynchronized, B.returns, hX⟩
  have hl := lv_entry [.ref h0] (n := maxL) hlen
  rw [lg_entry_eq]
  exact body p e s m _ below meth c _ C ((name_of_methodNamed B.named B.method).1.trans hi) s.heap [] _ hP va_S.rf hl
section VN
variable {p : Program} {l : Launch} {e : Env} {R : Room} {s : State} {m : MethodId} {args : Array Value} {below : List Frame} {meth : Method} {c : Code} {D : va_G} {cl : List vw_C} {tys : List (ClassId × FieldType)} {X : State → Prop} {A : Nat → Prop} {cc : ByteArray} {own : String} {Ts : List Cond} {nL k n : Nat} {rt : Option FieldType} {Q : State → Prop} {pc : Nat} {ls : List (Nat × Value)} {st : List Value} {ws : va_W}
theorem vC_w {S T : Type} {w : S → va_W} {w' : T → va_W} (C : vC p s m args meth c D cl tys X A w cc own Ts nL rt) (h : ∀ u : T, va_D A (w' u)) : vC p s m args meth c D cl tys X A w' cc own Ts nL rt :=
  ⟨C.1, C.2.1, C.2.2.1, C.2.2.2.1, C.2.2.2.2.1, h, C.2.2.2.2.2.2⟩
theorem V_objInit (C : vC p s m args meth c D cl tys X A (uW ws) cc own Ts nL rt) {idx : Nat} (h1 : Cond.methodLink own idx Lib.objectInit ∈ Ts) (h2 : Cond.instanceMethod Lib.objectInit ∈ Ts) (h3 : Cond.code Lib.objectInit ⟨#[0xb1]⟩ 1 none ∈ Ts) {a : Nat} (hf : 1 ≤ R.frames) (hlo : (st.map fun v => v.category).sum + 12 ≤ R.locals) (d : decode cc pc = .ok (.invokespecial idx, 3))
    (K : V p l e R s m args below meth c D cl A (uW ws) nL k n Q () (pc + 3) ls st) : V p l e R s m args below meth c D cl A (uW ws) nL k n Q () pc ls (.ref a :: st) := by
  intro H locs la hP hS hl
  refine W.objInit C.1 C.2.1 C.2.2.2.1 (C.2.2.1 _ h1) (C.2.2.1 _ h2) (C.2.2.1 _ h3) rfl (hl.1.trans C.2.2.2.2.2.2.2.1.symm) rfl d hf (by show 2 * 0 + _ + 12 ≤ _; omega) ?_
  exact K H locs la hP hS hl
theorem V_newa (C : vC p s m args meth c D cl tys X A (uW ws) cc own Ts nL rt) {atype : ArrayType} {ty : FieldType} (hty : newarray.typeOf atype = ty) (harr : Cond.arrayClass (newarray.typeOf atype) ∈ Ts) (t0 : Nat) {cA : ClassId} (ht : tys[t0]? = some (cA, ty)) {z : Int32} {N' : Nat} {a0 : vp_A} (ha : ∀ cA : ClassId, vp_cell cA a0 = arrV cA N' (fun _ => defaultValue ty)) (hn : ¬ z < 0) (hN : z.toNatClampNeg = N') (hbytes : N' * componentBytes ty ≤ 536870912) (hcells : k + 1 ≤ R.cells) (hslots : n + N' ≤ R.slots) (d : decode cc pc = .ok (.newarray atype, 2))
    (K : ∀ q : Nat, vC p s m args meth c D cl tys X A (uW (ws ++ [(q, .inl (cA, a0))])) cc own Ts nL rt → V p l e R s m args below meth c D cl A (uW (ws ++ [(q, .inl (cA, a0))])) nL (k + 1) (n + N') Q () (pc + 2) ls (.ref q :: st)) : V p l e R s m args below meth c D cl A (uW ws) nL k n Q () pc ls (.int z :: st) := by
  intro H locs la hP hS hl
  refine va_newa C.1 C.2.1 (C.2.2.1 _ harr) hty C.2.2.2.2.1 hP (C.2.2.2.2.2.1 ()) hS C.2.2.2.2.2.2.1 ha hn hN hbytes hcells hslots d (fun q cA' H1 hK1 hP1 hD1 hS1 => ?_)
  have h1 := (hK1.2 tys.length (cA', ty) (by simp)).2
  have h2 := (C.2.2.2.2.1.2 t0 _ ht).2
  obtain rfl : cA' = cA := va_RA.inj h1 h2
  exact K q (vC_w C (fun _ => hD1)) H1 locs la hP1 hS1 hl
theorem V_new (C : vC p s m args meth c D cl tys X A (uW ws) cc own Ts nL rt) {Cn : String} {T : u_T} {N ci index : Nat} (hin : ∀ w ∈ u_ws Cn T N, w ∈ Ts) (ty : Nat → FieldType) (hty : ∀ k, k < N → parseFieldDescriptor (T k).2.2.1 = some (ty k)) (h1 : Cond.classLink own index Cn ∈ Ts) (h2 : Cond.instantiable Cn N ∈ Ts) (h3 : Cond.initialized Cn ∈ Ts) (hc : cl[ci]? = some (Cn, T, N)) {fs : List Value} (hfs : ∀ j, j < N → defaultValue (ty j) = vp_V fs j) (hcells : k + 1 ≤ R.cells) (hslots : n + N ≤ R.slots) (d : decode cc pc = .ok (.new index, 3))
    (K : ∀ q : Nat, vC p s m args meth c D cl tys X A (uW (ws ++ [(q, .inr (ci, fs))])) cc own Ts nL rt → V p l e R s m args below meth c D cl A (uW (ws ++ [(q, .inr (ci, fs))])) nL (k + 1) (n + N) Q () (pc + 3) ls (.ref q :: st)) : V p l e R s m args below meth c D cl A (uW ws) nL k n Q () pc ls st := by
  intro H locs la hP hS hl
  refine va_new C.1 C.2.1 C.2.2.1 hin ty hty C.2.2.2.1 (C.2.2.1 _ h1) (C.2.2.1 _ h2) (C.2.2.1 _ h3) C.2.2.2.2.1 hP (C.2.2.2.2.2.1 ()) hS C.2.2.2.2.2.2.1 hc hfs hcells hslots d (fun q H1 hP1 hD1 hS1 => ?_)
  exact K q (vC_w C (fun _ => hD1)) H1 locs la hP1 hS1 hl
theorem V_putF (C : vC p s m args meth c D cl tys X A (uW ws) cc own Ts nL rt) (hmn : meth.name = "<init>") {ref Cn : String} {T : u_T} {N ci index a : Nat} (hin : ∀ w ∈ u_ws Cn T N, w ∈ Ts) (ty0 : Nat → FieldType) (hty : ∀ k, k < N → parseFieldDescriptor (T k).2.2.1 = some (ty0 k)) (hnm : ∀ a, a < N → ∀ b, b < N → a ≠ b → (T a).2.1 ≠ (T b).2.1) (q0 : Nat) {fs : List Value} (he : ws[q0]? = some (a, .inr (ci, fs))) (hc : cl[ci]? = some (Cn, T, N)) (f : Nat) (hf : f < N) (hl0 : Cond.fieldLink own index ref (T f).2.1 (T f).2.2.1 ∈ Ts) (hsame : ref = (T f).1) (hfin : (T f).2.2.2 = true) (hdecl : (T f).1 = own) {ty : FieldType} {v : Value} (hd : parseFieldDescriptor (T f).2.2.1 = some ty) (hnr : narrow ty v = v) (hfit : fits ty v = true) (hl : f < fs.length) {ws' : va_W} (hset : ws.set q0 (a, .inr (ci, fs.set f v)) = ws') (d : decode cc pc = .ok (.putfield index, 3))
    (K : vC p s m args meth c D cl tys X A (uW ws') cc own Ts nL rt → V p l e R s m args below meth c D cl A (uW ws') nL k n Q () (pc + 3) ls st) : V p l e R s m args below meth c D cl A (uW ws) nL k n Q () pc ls (v :: .ref a :: st) := by
  intro H locs la hP hS hl2
  refine va_putF C.1 C.2.1 C.2.2.1 hin ty0 hty hnm C.2.2.2.1 C.2.2.2.2.1 hP (C.2.2.2.2.2.1 ()) hS q0 he hc f hf (C.2.2.1 _ hl0) (fun _ h => by rw [hsame]; exact h) hfin hmn hdecl hd hnr hfit hl d (fun H1 locs1 hP1 hD1 hS1 => ?_)
  rw [hset] at hP1 hD1
  exact K (vC_w C (fun _ => hD1)) H1 locs1 la hP1 hS1 hl2
theorem V_putG (C : vC p s m args meth c D cl tys X A (uW ws) cc own Ts nL rt) {ref Cn : String} {T : u_T} {N ci index a : Nat} (hin : ∀ w ∈ u_ws Cn T N, w ∈ Ts) (ty0 : Nat → FieldType) (hty : ∀ k, k < N → parseFieldDescriptor (T k).2.2.1 = some (ty0 k)) (hnm : ∀ a, a < N → ∀ b, b < N → a ≠ b → (T a).2.1 ≠ (T b).2.1) (q0 : Nat) {fs : List Value} (he : ws[q0]? = some (a, .inr (ci, fs))) (hc : cl[ci]? = some (Cn, T, N)) (f : Nat) (hf : f < N) (hl0 : Cond.fieldLink own index ref (T f).2.1 (T f).2.2.1 ∈ Ts) (hsame : ref = (T f).1) (hfin : (T f).2.2.2 = false) {ty : FieldType} {v : Value} (hd : parseFieldDescriptor (T f).2.2.1 = some ty) (hnr : narrow ty v = v) (hfit : fits ty v = true) (hl : f < fs.length) {ws' : va_W} (hset : ws.set q0 (a, .inr (ci, fs.set f v)) = ws') (d : decode cc pc = .ok (.putfield index, 3))
    (K : vC p s m args meth c D cl tys X A (uW ws') cc own Ts nL rt → V p l e R s m args below meth c D cl A (uW ws') nL k n Q () (pc + 3) ls st) : V p l e R s m args below meth c D cl A (uW ws) nL k n Q () pc ls (v :: .ref a :: st) := by
  intro H locs la hP hS hl2
  refine va_put C.1 C.2.1 C.2.2.1 hin ty0 hty hnm C.2.2.2.1 C.2.2.2.2.1 hP (C.2.2.2.2.2.1 ()) hS q0 he hc f hf (C.2.2.1 _ hl0) (fun _ h => by rw [hsame]; exact h) hfin hd hnr hfit hl d (fun H1 locs1 hP1 hD1 hS1 => ?_)
  rw [hset] at hP1 hD1
  exact K (vC_w C (fun _ => hD1)) H1 locs1 la hP1 hS1 hl2
/-- the world by another name -/
theorem V_conv {S : Type} {w : S → va_W} {u : S} (h : ws = w u) (K : V p l e R s m args below meth c D cl A w nL k n Q u pc ls st) : V p l e R s m args below meth c D cl A (uW ws) nL k n Q () pc ls st :=
  fun H locs la hP hS hl => K H locs la (by rw [← h]; exact hP) hS hl
theorem V_pick {ws' : va_W} (is : List Nat) (h : is.filterMap (fun i => ws[i]?) = ws') (hn : va_nd is = true) (h2 : is.map (fun i => ws[i]?) = ws'.map some) (C : vC p s m args meth c D cl tys X A (uW ws) cc own Ts nL rt) (K : vC p s m args meth c D cl tys X A (uW ws') cc own Ts nL rt → V p l e R s m args below meth c D cl A (uW ws') nL k n Q () pc ls st) : V p l e R s m args below meth c D cl A (uW ws) nL k n Q () pc ls st :=
  fun H locs la hP hS hl => K (vC_w C (fun _ => (C.2.2.2.2.2.1 ()).sub is hn h2)) H locs la (hP.sub is h) hS hl
theorem V_nret {S : Type} {w : S → va_W} {u : S} (C : vC p s m args meth c D cl tys X A w cc own Ts nL rt) {h0 : Nat} {Post : (Nat → Nat) → va_W} (ad : Nat → Nat) (had : ad 0 = h0) (hp : w u = Post ad) (hrt : rt = none) (d : decode cc pc = .ok (.return_, 1)) : V p l e R s m args below meth c D cl A w nL k n (MQ below (mNq D cl A h0 Post) args s k n A) u pc ls [] :=
  fun H locs la hP hS hl => W.vret C.1 C.2.1 (C.2.2.2.2.2.2.2.2.2.1.trans hrt) (fun t ht _ => ⟨⟨(), rfl, trivial, ad, had, by rw [ht, ← hp]; exact hP, by rw [← hp]; exact C.2.2.2.2.2.1 u⟩, hS.F ht⟩) hS.2.2 d C.2.2.2.2.2.2.2.2.1
/-- a constructor of a nest mate, called on its new object: the last cell of the world -/
theorem V_ctorN (C : vC p s m args meth c D cl tys X A (uW ws) cc own Ts nL rt) (hX : xOK X) {tys' : List (ClassId × FieldType)} (htys : ∃ is : List Nat, is.filterMap (fun i => tys[i]?) = tys') {y : MethodName} {bytes : ByteArray} {maxL index mc ms q ci i0 : Nat} {ws2 : List Cond} {rm : Room} {host : String} {fs : List Value} {Post : (Nat → Nat) → va_W}
    (h : mN D cl tys' X l y ws2 rm q ci fs mc ms Post) (cw : va_CN R s args own index y host bytes maxL none ws2 rm mc ms 0 ∧ y.name = "<init>" ∧ (Cond.instanceMethod y).before args s = true) (isR : List Nat) (wr : va_W) (hC : ws[i0]? = some (q, .inr (ci, fs))) (hR : isR.map (fun i => ws[i]?) = wr.map some) (hnd : va_nd isR = true) (hdis : i0 ∉ isR) (hst : (st.map fun v => v.category).sum ≤ 8) (hf : k + mc ≤ R.cells ∧ n + ms ≤ R.slots) (d : decode cc pc = .ok (.invokespecial index, 3))
    (K : ∀ ad : Nat → Nat, ad 0 = q → vC p s m args meth c D cl tys X A (uW (wr ++ Post ad)) cc own Ts nL rt → V p l e R s m args below meth c D cl A (uW (wr ++ Post ad)) nL (k + mc) (n + ms) Q () (pc + 3) ls st) : V p l e R s m args below meth c D cl A (uW ws) nL k n Q () pc ls (.ref q :: st) := by
  intro H locs la hP hS hl
  obtain ⟨is, his⟩ := htys
  have hDc := (C.2.2.2.2.2.1 ()).sub (ws' := [(q, .inr (ci, fs))]) [i0] rfl (by simp [hC])
  have hPc := hP.sub (ws' := [(q, .inr (ci, fs))]) [i0] (by simp [hC])
  have hFc := va_free (wc := [(q, .inr (ci, fs))]) (C.2.2.2.2.2.1 ()) hS C.2.2.2.2.2.2.1 [i0] (by simp [hC])
  refine va_callv (va_runIN (b := q) (As := []) (rest := st) (vfx C) (h H.size) cw ⟨mPc_blind hX, fun U hU hW => ?_⟩ rfl rfl hl.1 rfl (lv_room hst) d hf) hS (fun x _ hx => hFc x hx) hFc (fun _ t H1 locs1 ht hvm hw hB hz1 hk1 hS1 => ?_)
  · exact ⟨rfl, by rw [hU], by rw [hU]; exact hPc, va_K.moved hW.alike (C.2.2.2.2.1.sub is his), hDc.weaken (fun _ _ _ _ => trivial), hX s U hW C.2.2.2.2.2.2.2.2.2.2⟩
  · obtain ⟨ad, had, hP1, hD1⟩ := hB
    rw [ht] at hP1
    obtain ⟨hP2, hD2⟩ := va_join (wr := wr) (w1 := Post ad) hP (C.2.2.2.2.2.1 ()) [i0] isR (by simp [hC]) hR hnd (fun i hi => by simp; intro hi2; subst hi2; exact hdis hi) hk1 hFc hP1 hD1
    exact K ad had (vC_w C (fun _ => hD2)) H1 locs1 la hP2 hS1 hl
end VN
end
section
/-- the links to nest mates that the class uses -/
def nWords : List Cond := [Cond.fieldLinkNest RX1 103 "MeteredSheets$Ledger" "prices" "[I" "MeteredSheets", Cond.fieldLinkNest RX1 108 "MeteredSheets$Ledger" "budgets" "[I" "MeteredSheets", Cond.fieldLinkNest RX1 113 "MeteredSheets$Ledger" "earnings" "[I" "MeteredSheets", Cond.fieldLinkNest RX1 142 "MeteredSheets$Ledger" "readsOf" "[I" "MeteredSheets", Cond.fieldLinkNest RX1 116 "MeteredSheets$Ledger" "bills" "[I" "MeteredSheets", Cond.fieldLinkNest RX1 139 "MeteredSheets$Ledger" "counts" "[I" "MeteredSheets", Cond.fieldLinkNest RX1 134 "MeteredSheets$Ledger" "kept" "[I" "MeteredSheets", Cond.fieldLinkNest RX1 125 "MeteredSheets$Ledger" "keptCount" "I" "MeteredSheets", Cond.methodLinkNest RX1 34 yX0_init "MeteredSheets", Cond.methodLinkNest RX1 170 yX0_paysFor "MeteredSheets", Cond.methodLinkNest RX0 37 yX1_sheetOf "MeteredSheets", Cond.methodLinkNest RX0 48 yX1_isCell "MeteredSheets"]
theorem nwX1_103 : Cond.fieldLinkNest RX1 103 "MeteredSheets$Ledger" "prices" "[I" "MeteredSheets" ∈ nWords := List.mem_of_getElem? (i := 0) rfl
theorem nwX1_108 : Cond.fieldLinkNest RX1 108 "MeteredSheets$Ledger" "budgets" "[I" "MeteredSheets" ∈ nWords := List.mem_of_getElem? (i := 1) rfl
theorem nwX1_113 : Cond.fieldLinkNest RX1 113 "MeteredSheets$Ledger" "earnings" "[I" "MeteredSheets" ∈ nWords := List.mem_of_getElem? (i := 2) rfl
theorem nwX1_142 : Cond.fieldLinkNest RX1 142 "MeteredSheets$Ledger" "readsOf" "[I" "MeteredSheets" ∈ nWords := List.mem_of_getElem? (i := 3) rfl
theorem nwX1_116 : Cond.fieldLinkNest RX1 116 "MeteredSheets$Ledger" "bills" "[I" "MeteredSheets" ∈ nWords := List.mem_of_getElem? (i := 4) rfl
theorem nwX1_139 : Cond.fieldLinkNest RX1 139 "MeteredSheets$Ledger" "counts" "[I" "MeteredSheets" ∈ nWords := List.mem_of_getElem? (i := 5) rfl
theorem nwX1_134 : Cond.fieldLinkNest RX1 134 "MeteredSheets$Ledger" "kept" "[I" "MeteredSheets" ∈ nWords := List.mem_of_getElem? (i := 6) rfl
theorem nwX1_125 : Cond.fieldLinkNest RX1 125 "MeteredSheets$Ledger" "keptCount" "I" "MeteredSheets" ∈ nWords := List.mem_of_getElem? (i := 7) rfl
theorem nwX1_34 : Cond.methodLinkNest RX1 34 yX0_init "MeteredSheets" ∈ nWords := List.mem_of_getElem? (i := 8) rfl
theorem nwX1_170 : Cond.methodLinkNest RX1 170 yX0_paysFor "MeteredSheets" ∈ nWords := List.mem_of_getElem? (i := 9) rfl
theorem nwX0_37 : Cond.methodLinkNest RX0 37 yX1_sheetOf "MeteredSheets" ∈ nWords := List.mem_of_getElem? (i := 10) rfl
theorem nwX0_48 : Cond.methodLinkNest RX0 48 yX1_isCell "MeteredSheets" ∈ nWords := List.mem_of_getElem? (i := 11) rfl
def xN (U : State) : Prop := ∀ w ∈ nWords, va_Nw w U
theorem xN_ok : xOK xN := fun s U hW h => List.forall_mem_cons.mpr ⟨va_Nw.warmF hW (h _ nwX1_103), List.forall_mem_cons.mpr ⟨va_Nw.warmF hW (h _ nwX1_108), List.forall_mem_cons.mpr ⟨va_Nw.warmF hW (h _ nwX1_113), List.forall_mem_cons.mpr ⟨va_Nw.warmF hW (h _ nwX1_142), List.forall_mem_cons.mpr ⟨va_Nw.warmF hW (h _ nwX1_116), List.forall_mem_cons.mpr ⟨va_Nw.warmF hW (h _ nwX1_139), List.forall_mem_cons.mpr ⟨va_Nw.warmF hW (h _ nwX1_134), List.forall_mem_cons.mpr ⟨va_Nw.warmF hW (h _ nwX1_125), List.forall_mem_cons.mpr ⟨va_Nw.warmM hW (h _ nwX1_34), List.forall_mem_cons.mpr ⟨va_Nw.warmM hW (h _ nwX1_170), List.forall_mem_cons.mpr ⟨va_Nw.warmM hW (h _ nwX0_37), List.forall_mem_cons.mpr ⟨va_Nw.warmM hW (h _ nwX0_48), fun _ h => absurd h List.not_mem_nil⟩⟩⟩⟩⟩⟩⟩⟩⟩⟩⟩⟩
/-- exceptions that the class throws, and their texts -/
def eNames : List String := ["java/lang/IllegalArgumentException", "java/lang/IllegalStateException", "java/lang/IndexOutOfBoundsException"]
def sWords : List (Nat × String) := [(65, "user, cell or value is out of range"), (74, "user, cell, one, other or more is out of range"), (82, "the cell would read itself"), (85, "user, cell, one or other is out of range"), (87, "user, cell, one or factor is out of range"), (89, "user is out of range"), (101, "sheet or price is out of range"), (106, "sheet or money is out of range"), (111, "sheet is out of range"), (119, "cell is out of range"), (131, "there is no such reading"), (137, "reader or read is out of range")]
def xE (U : State) : Prop := xN U ∧ (∀ z ∈ eNames, eW z U) ∧ ∀ q ∈ sWords, ∃ a, vk_R RX1 q.1 q.2 a U
theorem xE_ok : xOK xE := fun s U hW h => ⟨xN_ok s U hW h.1, fun z hz => eW_ok z s U hW (h.2.1 z hz), fun q hq => by obtain ⟨a, ha⟩ := h.2.2 q hq; exact ⟨a, vk_R.warm hW ha⟩⟩
theorem sw_65 : ((65, "user, cell or value is out of range") : Nat × String) ∈ sWords := List.mem_of_getElem? (i := 0) rfl
theorem sw_74 : ((74, "user, cell, one, other or more is out of range") : Nat × String) ∈ sWords := List.mem_of_getElem? (i := 1) rfl
theorem sw_82 : ((82, "the cell would read itself") : Nat × String) ∈ sWords := List.mem_of_getElem? (i := 2) rfl
theorem sw_85 : ((85, "user, cell, one or other is out of range") : Nat × String) ∈ sWords := List.mem_of_getElem? (i := 3) rfl
theorem sw_87 : ((87, "user, cell, one or factor is out of range") : Nat × String) ∈ sWords := List.mem_of_getElem? (i := 4) rfl
theorem sw_89 : ((89, "user is out of range") : Nat × String) ∈ sWords := List.mem_of_getElem? (i := 5) rfl
theorem sw_101 : ((101, "sheet or price is out of range") : Nat × String) ∈ sWords := List.mem_of_getElem? (i := 6) rfl
theorem sw_106 : ((106, "sheet or money is out of range") : Nat × String) ∈ sWords := List.mem_of_getElem? (i := 7) rfl
theorem sw_111 : ((111, "sheet is out of range") : Nat × String) ∈ sWords := List.mem_of_getElem? (i := 8) rfl
theorem sw_119 : ((119, "cell is out of range") : Nat × String) ∈ sWords := List.mem_of_getElem? (i := 9) rfl
theorem sw_131 : ((131, "there is no such reading") : Nat × String) ∈ sWords := List.mem_of_getElem? (i := 10) rfl
theorem sw_137 : ((137, "reader or read is out of range") : Nat × String) ∈ sWords := List.mem_of_getElem? (i := 11) rfl
theorem en_0 : "java/lang/IllegalArgumentException" ∈ eNames := List.mem_of_getElem? (i := 0) rfl
theorem en_1 : "java/lang/IllegalStateException" ∈ eNames := List.mem_of_getElem? (i := 1) rfl
theorem en_2 : "java/lang/IndexOutOfBoundsException" ∈ eNames := List.mem_of_getElem? (i := 2) rfl
theorem atB_133 : ∀ w ∈ (vx_atS RX1 133 "java/lang/IndexOutOfBoundsException" (["java/lang/RuntimeException", "java/lang/Exception"] : List String)).filter (fun w => !goodWord w), w ∈ eB "java/lang/IndexOutOfBoundsException" := by decide +kernel
theorem atG_129_133 : ∀ w ∈ Cond.classLink RX1 129 "java/lang/IndexOutOfBoundsException" :: Cond.initialized "java/lang/IndexOutOfBoundsException" :: vx_atS RX1 133 "java/lang/IndexOutOfBoundsException" (["java/lang/RuntimeException", "java/lang/Exception"] : List String), vx_ot w = true := by decide +kernel
theorem atB_67 : ∀ w ∈ (vx_atS RX1 67 "java/lang/IllegalArgumentException" (["java/lang/RuntimeException", "java/lang/Exception"] : List String)).filter (fun w => !goodWord w), w ∈ eB "java/lang/IllegalArgumentException" := by decide +kernel
theorem atG_63_67 : ∀ w ∈ Cond.classLink RX1 63 "java/lang/IllegalArgumentException" :: Cond.initialized "java/lang/IllegalArgumentException" :: vx_atS RX1 67 "java/lang/IllegalArgumentException" (["java/lang/RuntimeException", "java/lang/Exception"] : List String), vx_ot w = true := by decide +kernel
theorem atB_84 : ∀ w ∈ (vx_atS RX1 84 "java/lang/IllegalStateException" (["java/lang/RuntimeException", "java/lang/Exception"] : List String)).filter (fun w => !goodWord w), w ∈ eB "java/lang/IllegalStateException" := by decide +kernel
theorem atG_80_84 : ∀ w ∈ Cond.classLink RX1 80 "java/lang/IllegalStateException" :: Cond.initialized "java/lang/IllegalStateException" :: vx_atS RX1 84 "java/lang/IllegalStateException" (["java/lang/RuntimeException", "java/lang/Exception"] : List String), vx_ot w = true := by decide +kernel
theorem efit_0 : Bundle.fit "java/lang/IllegalArgumentException" = true := by decide +kernel
theorem efit_1 : Bundle.fit "java/lang/IllegalStateException" = true := by decide +kernel
theorem efit_2 : Bundle.fit "java/lang/IndexOutOfBoundsException" = true := by decide +kernel
theorem efit_n : ∀ n ∈ (["java/lang/RuntimeException", "java/lang/Exception"] : List String), Bundle.fit n = true := by decide +kernel
def xT (_ : State) : Prop := True
theorem xT_ok : xOK xT := fun _ _ _ h => h
/-! THE TWO WORLDS: the class with its ledger (wC), the reference (wM); a row of the memory is the array at the same place -/
def wC (cI cZ : ClassId) (ad : Nat → Nat) (u : vM) : va_W := [(ad 0, .inr (1, [.ref (ad 1), .ref (ad 2), .ref (ad 3), .ref (ad 4), .ref (ad 5), .ref (ad 6), .ref (ad 7), .ref (ad 8), .ref (ad 9), .ref (ad 10), .ref (ad 11), .ref (ad 12)])), (ad 1, .inl (cI, 24, .inl (u 1))), (ad 2, .inl (cI, 24, .inl (u 2))), (ad 3, .inl (cI, 24, .inl (u 3))), (ad 4, .inl (cI, 24, .inl (u 4))), (ad 5, .inl (cI, 24, .inl (u 5))), (ad 6, .inl (cZ, 24, .inl (u 6))), (ad 7, .inl (cI, 24, .inl (u 7))), (ad 8, .inr (0, [.ref (ad 13), .ref (ad 14), .ref (ad 15), .ref (ad 16), .ref (ad 17), .ref (ad 18), .ref (ad 19), .int (u 8 0)])), (ad 9, .inl (cZ, 24, .inl (u 9))), (ad 10, .inl (cZ, 24, .inl (u 10))), (ad 11, .inl (cZ, 24, .inl (u 11))), (ad 12, .inl (cI, 24, .inl (u 12))), (ad 13, .inl (cI, 4, .inl (u 13))), (ad 14, .inl (cI, 4, .inl (u 14))), (ad 15, .inl (cI, 4, .inl (u 15))), (ad 16, .inl (cI, 4, .inl (u 16))), (ad 17, .inl (cI, 5, .inl (u 17))), (ad 18, .inl (cI, 576, .inl (u 18))), (ad 19, .inl (cI, 500, .inl (u 19)))]
def wM (cI : ClassId) (ad : Nat → Nat) (u : vM) : va_W := [(ad 0, .inr (2, [.ref (ad 1), .ref (ad 2), .ref (ad 3), .ref (ad 4), .ref (ad 5), .ref (ad 6), .ref (ad 7), .ref (ad 8), .ref (ad 9), .ref (ad 10), .ref (ad 11), .ref (ad 12), .ref (ad 13), .ref (ad 14), .ref (ad 15), .int (u 17 0), .ref (ad 16), .int (u 18 0)])), (ad 1, .inl (cI, 24, .inl (u 1))), (ad 2, .inl (cI, 24, .inl (u 2))), (ad 3, .inl (cI, 24, .inl (u 3))), (ad 4, .inl (cI, 24, .inl (u 4))), (ad 5, .inl (cI, 24, .inl (u 5))), (ad 6, .inl (cI, 24, .inl (u 6))), (ad 7, .inl (cI, 24, .inl (u 7))), (ad 8, .inl (cI, 24, .inl (u 8))), (ad 9, .inl (cI, 24, .inl (u 9))), (ad 10, .inl (cI, 24, .inl (u 10))), (ad 11, .inl (cI, 4, .inl (u 11))), (ad 12, .inl (cI, 4, .inl (u 12))), (ad 13, .inl (cI, 4, .inl (u 13))), (ad 14, .inl (cI, 5, .inl (u 14))), (ad 15, .inl (cI, 500, .inl (u 15))), (ad 16, .inl (cI, 576, .inl (u 16)))]
def tyF (cI cZ : ClassId) : List (ClassId × FieldType) := [(cI, .int), (cZ, .boolean)]
def tyM (cI : ClassId) : List (ClassId × FieldType) := [(cI, .int)]
theorem wC_ok (cI cZ : ClassId) (ad : Nat → Nat) : wOK (wC cI cZ ad) := fun _ _ => rfl
theorem wM_ok (cI : ClassId) (ad : Nat → Nat) : wOK (wM cI ad) := fun _ _ => rfl
theorem wC_s1 {cI cZ : ClassId} {ad : Nat → Nat} {u : vM} {g : Nat → Int32} : (wC cI cZ ad u).set 1 (ad 1, .inl (cI, 24, .inl g)) = wC cI cZ ad (mR u 1 g) := rfl
theorem wC_s2 {cI cZ : ClassId} {ad : Nat → Nat} {u : vM} {g : Nat → Int32} : (wC cI cZ ad u).set 2 (ad 2, .inl (cI, 24, .inl g)) = wC cI cZ ad (mR u 2 g) := rfl
theorem wC_s3 {cI cZ : ClassId} {ad : Nat → Nat} {u : vM} {g : Nat → Int32} : (wC cI cZ ad u).set 3 (ad 3, .inl (cI, 24, .inl g)) = wC cI cZ ad (mR u 3 g) := rfl
theorem wC_s4 {cI cZ : ClassId} {ad : Nat → Nat} {u : vM} {g : Nat → Int32} : (wC cI cZ ad u).set 4 (ad 4, .inl (cI, 24, .inl g)) = wC cI cZ ad (mR u 4 g) := rfl
theorem wC_s5 {cI cZ : ClassId} {ad : Nat → Nat} {u : vM} {g : Nat → Int32} : (wC cI cZ ad u).set 5 (ad 5, .inl (cI, 24, .inl g)) = wC cI cZ ad (mR u 5 g) := rfl
theorem wC_s6 {cI cZ : ClassId} {ad : Nat → Nat} {u : vM} {g : Nat → Int32} : (wC cI cZ ad u).set 6 (ad 6, .inl (cZ, 24, .inl g)) = wC cI cZ ad (mR u 6 g) := rfl
theorem wC_s7 {cI cZ : ClassId} {ad : Nat → Nat} {u : vM} {g : Nat → Int32} : (wC cI cZ ad u).set 7 (ad 7, .inl (cI, 24, .inl g)) = wC cI cZ ad (mR u 7 g) := rfl
theorem wC_s8 {cI cZ : ClassId} {ad : Nat → Nat} {u : vM} {x : Int32} : (wC cI cZ ad u).set 8 (ad 8, .inr (0, ([.ref (ad 13), .ref (ad 14), .ref (ad 15), .ref (ad 16), .ref (ad 17), .ref (ad 18), .ref (ad 19), .int (u 8 0)] : List Value).set 7 (.int x))) = wC cI cZ ad (mst u 8 x) := rfl
theorem wC_s9 {cI cZ : ClassId} {ad : Nat → Nat} {u : vM} {g : Nat → Int32} : (wC cI cZ ad u).set 9 (ad 9, .inl (cZ, 24, .inl g)) = wC cI cZ ad (mR u 9 g) := rfl
theorem wC_s10 {cI cZ : ClassId} {ad : Nat → Nat} {u : vM} {g : Nat → Int32} : (wC cI cZ ad u).set 10 (ad 10, .inl (cZ, 24, .inl g)) = wC cI cZ ad (mR u 10 g) := rfl
theorem wC_s11 {cI cZ : ClassId} {ad : Nat → Nat} {u : vM} {g : Nat → Int32} : (wC cI cZ ad u).set 11 (ad 11, .inl (cZ, 24, .inl g)) = wC cI cZ ad (mR u 11 g) := rfl
theorem wC_s12 {cI cZ : ClassId} {ad : Nat → Nat} {u : vM} {g : Nat → Int32} : (wC cI cZ ad u).set 12 (ad 12, .inl (cI, 24, .inl g)) = wC cI cZ ad (mR u 12 g) := rfl
theorem wC_s13 {cI cZ : ClassId} {ad : Nat → Nat} {u : vM} {g : Nat → Int32} : (wC cI cZ ad u).set 13 (ad 13, .inl (cI, 4, .inl g)) = wC cI cZ ad (mR u 13 g) := rfl
theorem wC_s14 {cI cZ : ClassId} {ad : Nat → Nat} {u : vM} {g : Nat → Int32} : (wC cI cZ ad u).set 14 (ad 14, .inl (cI, 4, .inl g)) = wC cI cZ ad (mR u 14 g) := rfl
theorem wC_s15 {cI cZ : ClassId} {ad : Nat → Nat} {u : vM} {g : Nat → Int32} : (wC cI cZ ad u).set 15 (ad 15, .inl (cI, 4, .inl g)) = wC cI cZ ad (mR u 15 g) := rfl
theorem wC_s16 {cI cZ : ClassId} {ad : Nat → Nat} {u : vM} {g : Nat → Int32} : (wC cI cZ ad u).set 16 (ad 16, .inl (cI, 4, .inl g)) = wC cI cZ ad (mR u 16 g) := rfl
theorem wC_s17 {cI cZ : ClassId} {ad : Nat → Nat} {u : vM} {g : Nat → Int32} : (wC cI cZ ad u).set 17 (ad 17, .inl (cI, 5, .inl g)) = wC cI cZ ad (mR u 17 g) := rfl
theorem wC_s18 {cI cZ : ClassId} {ad : Nat → Nat} {u : vM} {g : Nat → Int32} : (wC cI cZ ad u).set 18 (ad 18, .inl (cI, 576, .inl g)) = wC cI cZ ad (mR u 18 g) := rfl
theorem wC_s19 {cI cZ : ClassId} {ad : Nat → Nat} {u : vM} {g : Nat → Int32} : (wC cI cZ ad u).set 19 (ad 19, .inl (cI, 500, .inl g)) = wC cI cZ ad (mR u 19 g) := rfl
theorem wM_s1 {cI : ClassId} {ad : Nat → Nat} {u : vM} {g : Nat → Int32} : (wM cI ad u).set 1 (ad 1, .inl (cI, 24, .inl g)) = wM cI ad (mR u 1 g) := rfl
theorem wM_s2 {cI : ClassId} {ad : Nat → Nat} {u : vM} {g : Nat → Int32} : (wM cI ad u).set 2 (ad 2, .inl (cI, 24, .inl g)) = wM cI ad (mR u 2 g) := rfl
theorem wM_s3 {cI : ClassId} {ad : Nat → Nat} {u : vM} {g : Nat → Int32} : (wM cI ad u).set 3 (ad 3, .inl (cI, 24, .inl g)) = wM cI ad (mR u 3 g) := rfl
theorem wM_s4 {cI : ClassId} {ad : Nat → Nat} {u : vM} {g : Nat → Int32} : (wM cI ad u).set 4 (ad 4, .inl (cI, 24, .inl g)) = wM cI ad (mR u 4 g) := rfl
theorem wM_s5 {cI : ClassId} {ad : Nat → Nat} {u : vM} {g : Nat → Int32} : (wM cI ad u).set 5 (ad 5, .inl (cI, 24, .inl g)) = wM cI ad (mR u 5 g) := rfl
theorem wM_s6 {cI : ClassId} {ad : Nat → Nat} {u : vM} {g : Nat → Int32} : (wM cI ad u).set 6 (ad 6, .inl (cI, 24, .inl g)) = wM cI ad (mR u 6 g) := rfl
theorem wM_s7 {cI : ClassId} {ad : Nat → Nat} {u : vM} {g : Nat → Int32} : (wM cI ad u).set 7 (ad 7, .inl (cI, 24, .inl g)) = wM cI ad (mR u 7 g) := rfl
theorem wM_s8 {cI : ClassId} {ad : Nat → Nat} {u : vM} {g : Nat → Int32} : (wM cI ad u).set 8 (ad 8, .inl (cI, 24, .inl g)) = wM cI ad (mR u 8 g) := rfl
theorem wM_s9 {cI : ClassId} {ad : Nat → Nat} {u : vM} {g : Nat → Int32} : (wM cI ad u).set 9 (ad 9, .inl (cI, 24, .inl g)) = wM cI ad (mR u 9 g) := rfl
theorem wM_s10 {cI : ClassId} {ad : Nat → Nat} {u : vM} {g : Nat → Int32} : (wM cI ad u).set 10 (ad 10, .inl (cI, 24, .inl g)) = wM cI ad (mR u 10 g) := rfl
theorem wM_s11 {cI : ClassId} {ad : Nat → Nat} {u : vM} {g : Nat → Int32} : (wM cI ad u).set 11 (ad 11, .inl (cI, 4, .inl g)) = wM cI ad (mR u 11 g) := rfl
theorem wM_s12 {cI : ClassId} {ad : Nat → Nat} {u : vM} {g : Nat → Int32} : (wM cI ad u).set 12 (ad 12, .inl (cI, 4, .inl g)) = wM cI ad (mR u 12 g) := rfl
theorem wM_s13 {cI : ClassId} {ad : Nat → Nat} {u : vM} {g : Nat → Int32} : (wM cI ad u).set 13 (ad 13, .inl (cI, 4, .inl g)) = wM cI ad (mR u 13 g) := rfl
theorem wM_s14 {cI : ClassId} {ad : Nat → Nat} {u : vM} {g : Nat → Int32} : (wM cI ad u).set 14 (ad 14, .inl (cI, 5, .inl g)) = wM cI ad (mR u 14 g) := rfl
theorem wM_s15 {cI : ClassId} {ad : Nat → Nat} {u : vM} {g : Nat → Int32} : (wM cI ad u).set 15 (ad 15, .inl (cI, 500, .inl g)) = wM cI ad (mR u 15 g) := rfl
theorem wM_s16 {cI : ClassId} {ad : Nat → Nat} {u : vM} {g : Nat → Int32} : (wM cI ad u).set 16 (ad 16, .inl (cI, 576, .inl g)) = wM cI ad (mR u 16 g) := rfl
theorem wM_s17 {cI : ClassId} {ad : Nat → Nat} {u : vM} {x : Int32} : (wM cI ad u).set 0 (ad 0, .inr (2, ([.ref (ad 1), .ref (ad 2), .ref (ad 3), .ref (ad 4), .ref (ad 5), .ref (ad 6), .ref (ad 7), .ref (ad 8), .ref (ad 9), .ref (ad 10), .ref (ad 11), .ref (ad 12), .ref (ad 13), .ref (ad 14), .ref (ad 15), .int (u 17 0), .ref (ad 16), .int (u 18 0)] : List Value).set 15 (.int x))) = wM cI ad (mst u 17 x) := rfl
theorem wM_s18 {cI : ClassId} {ad : Nat → Nat} {u : vM} {x : Int32} : (wM cI ad u).set 0 (ad 0, .inr (2, ([.ref (ad 1), .ref (ad 2), .ref (ad 3), .ref (ad 4), .ref (ad 5), .ref (ad 6), .ref (ad 7), .ref (ad 8), .ref (ad 9), .ref (ad 10), .ref (ad 11), .ref (ad 12), .ref (ad 13), .ref (ad 14), .ref (ad 15), .int (u 17 0), .ref (ad 16), .int (u 18 0)] : List Value).set 17 (.int x))) = wM cI ad (mst u 18 x) := rfl
def rX1_isUser (a0 : Int32) : Int32 := (if a0 < 0 then 0 else (if 5 ≤ a0 then 0 else 1))
def rmX1_isUser : Room := { frames := 0, cells := 0, slots := 0, locals := 0 }
theorem bX1_isUser (a0 : Int32) : rX1_isUser a0 = 0 ∨ rX1_isUser a0 = 1 := by
  unfold rX1_isUser
  (try dsimp only)
  (repeat' split) <;> first | with_reducible exact Or.inl rfl | with_reducible exact Or.inr rfl
def rX1_isCell (a0 : Int32) : Int32 := (if a0 < 0 then 0 else (if 24 ≤ a0 then 0 else 1))
def rmX1_isCell : Room := { frames := 0, cells := 0, slots := 0, locals := 0 }
theorem bX1_isCell (a0 : Int32) : rX1_isCell a0 = 0 ∨ rX1_isCell a0 = 1 := by
  unfold rX1_isCell
  (try dsimp only)
  (repeat' split) <;> first | with_reducible exact Or.inl rfl | with_reducible exact Or.inr rfl
def rX1_isWithin (a0 : Int32) (a1 : Int32) : Int32 := (if a0 < (-a1) then 0 else (if a1 < a0 then 0 else 1))
def rmX1_isWithin : Room := { frames := 0, cells := 0, slots := 0, locals := 0 }
theorem bX1_isWithin (a0 : Int32) (a1 : Int32) : rX1_isWithin a0 a1 = 0 ∨ rX1_isWithin a0 a1 = 1 := by
  unfold rX1_isWithin
  (try dsimp only)
  (repeat' split) <;> first | with_reducible exact Or.inl rfl | with_reducible exact Or.inr rfl
def rX1_isIn_v9 (u : vM) (a0 : Int32) : Int32 := (if a0 < 0 then 0 else (if 24 ≤ a0 then 0 else (if (mrd u 9 a0) = 0 then 0 else 1)))
def rmX1_isIn : Room := { frames := 0, cells := 0, slots := 0, locals := 0 }
theorem bX1_isIn_v9 (u : vM) (a0 : Int32) : rX1_isIn_v9 u a0 = 0 ∨ rX1_isIn_v9 u a0 = 1 := by
  unfold rX1_isIn_v9
  (try dsimp only)
  (repeat' split) <;> first | with_reducible exact Or.inl rfl | with_reducible exact Or.inr rfl
def rX1_isIn_v10 (u : vM) (a0 : Int32) : Int32 := (if a0 < 0 then 0 else (if 24 ≤ a0 then 0 else (if (mrd u 10 a0) = 0 then 0 else 1)))
theorem bX1_isIn_v10 (u : vM) (a0 : Int32) : rX1_isIn_v10 u a0 = 0 ∨ rX1_isIn_v10 u a0 = 1 := by
  unfold rX1_isIn_v10
  (try dsimp only)
  (repeat' split) <;> first | with_reducible exact Or.inl rfl | with_reducible exact Or.inr rfl
def rX1_isIn_v11 (u : vM) (a0 : Int32) : Int32 := (if a0 < 0 then 0 else (if 24 ≤ a0 then 0 else (if (mrd u 11 a0) = 0 then 0 else 1)))
theorem bX1_isIn_v11 (u : vM) (a0 : Int32) : rX1_isIn_v11 u a0 = 0 ∨ rX1_isIn_v11 u a0 = 1 := by
  unfold rX1_isIn_v11
  (try dsimp only)
  (repeat' split) <;> first | with_reducible exact Or.inl rfl | with_reducible exact Or.inr rfl
def rX1_isReady (u : vM) (a1 : Int32) : Int32 := (if a1 = (-1) then 1 else (if (rX1_isIn_v10 u a1) = 0 then 0 else 1))
def rmX1_isReady : Room := { frames := 1, cells := 0, slots := 0, locals := 21 }
theorem bX1_isReady (u : vM) (a1 : Int32) : rX1_isReady u a1 = 0 ∨ rX1_isReady u a1 = 1 := by
  unfold rX1_isReady
  (try dsimp only)
  (repeat' split) <;> first | with_reducible exact Or.inl rfl | with_reducible exact Or.inr rfl | exact bX1_isIn_v10 _ _
def lpX1_lowestFreeCell_2 (u : vM) : Nat → Nat → Int32
  | 0, _ => (-1)
  | n + 1, k => (if (mrd u 10 (nI k)) = 0 then (if (rX1_isReady u (mrd u 2 (nI k))) = 0 then lpX1_lowestFreeCell_2 u n (k + 1) else (if (rX1_isReady u (mrd u 3 (nI k))) = 0 then lpX1_lowestFreeCell_2 u n (k + 1) else (nI k))) else lpX1_lowestFreeCell_2 u n (k + 1))
def rX1_lowestFreeCell (u : vM) : Int32 := (lpX1_lowestFreeCell_2 u 24 0)
def rmX1_lowestFreeCell : Room := { frames := 2, cells := 0, slots := 0, locals := 42 }
def lpX1_putInOrder_2 : Nat → Nat → vM → vM
  | 0, _, u => u
  | n + 1, k, u => (let u14 : vM := mup u 10 (nI k) 0; lpX1_putInOrder_2 n (k + 1) u14)
def lpX1_putInOrder_23 : Nat → Nat → vM → vM
  | 0, _, u => u
  | n + 1, k, u => (let y33 : Int32 := (rX1_lowestFreeCell u); (let u40 : vM := mup u 7 (nI k) y33; (if (rX1_isCell y33) = 0 then lpX1_putInOrder_23 n (k + 1) u40 else (let u54 : vM := mup u40 10 y33 1; lpX1_putInOrder_23 n (k + 1) u54))))
def uX1_putInOrder (u : vM) : vM := (let r2 := lpX1_putInOrder_2 24 0 u; (lpX1_putInOrder_23 24 0 r2))
def rmX1_putInOrder : Room := { frames := 3, cells := 0, slots := 0, locals := 63 }
theorem fr_lpX1_putInOrder_2_all {q : Nat} (h10 : q ≠ 10) : ∀ (n k : Nat) (u : vM), (lpX1_putInOrder_2 n k u) q = u q := by
  intro n
  induction n with
  | zero => intro k u; rfl
  | succ n ih =>
    intro k u
    unfold lpX1_putInOrder_2
    (try dsimp only)
    (repeat' split) <;> (simp only [ih, mup_ne h10, mst_ne h10])
theorem fr_lpX1_putInOrder_2{n k : Nat} {u : vM} {q : Nat} (h10 : q ≠ 10) : (lpX1_putInOrder_2 n k u) q = u q := fr_lpX1_putInOrder_2_all h10 n k u
theorem fr_lpX1_putInOrder_23_all {q : Nat} (h7 : q ≠ 7) (h10 : q ≠ 10) : ∀ (n k : Nat) (u : vM), (lpX1_putInOrder_23 n k u) q = u q := by
  intro n
  induction n with
  | zero => intro k u; rfl
  | succ n ih =>
    intro k u
    unfold lpX1_putInOrder_23
    (try dsimp only)
    (repeat' split) <;> (simp only [ih, mup_ne h7, mup_ne h10, mst_ne h7, mst_ne h10])
theorem fr_lpX1_putInOrder_23{n k : Nat} {u : vM} {q : Nat} (h7 : q ≠ 7) (h10 : q ≠ 10) : (lpX1_putInOrder_23 n k u) q = u q := fr_lpX1_putInOrder_23_all h7 h10 n k u
theorem fr_uX1_putInOrder {u : vM} {q : Nat} (h7 : q ≠ 7) (h10 : q ≠ 10) : uX1_putInOrder u q = u q := by
  unfold uX1_putInOrder
  (try dsimp only)
  (repeat' split) <;> (try simp only [mup_ne h7, mup_ne h10, mst_ne h7, mst_ne h10, fr_lpX1_putInOrder_2 h10, fr_lpX1_putInOrder_23 h7 h10])
def lpX1_forgetChanges_2 : Nat → Nat → vM → vM
  | 0, _, u => u
  | n + 1, k, u => (let u14 : vM := mup u 9 (nI k) 0; lpX1_forgetChanges_2 n (k + 1) u14)
def uX1_forgetChanges (u : vM) : vM := (lpX1_forgetChanges_2 24 0 u)
def rmX1_forgetChanges : Room := { frames := 0, cells := 0, slots := 0, locals := 0 }
theorem fr_lpX1_forgetChanges_2_all {q : Nat} (h9 : q ≠ 9) : ∀ (n k : Nat) (u : vM), (lpX1_forgetChanges_2 n k u) q = u q := by
  intro n
  induction n with
  | zero => intro k u; rfl
  | succ n ih =>
    intro k u
    unfold lpX1_forgetChanges_2
    (try dsimp only)
    (repeat' split) <;> (simp only [ih, mup_ne h9, mst_ne h9])
theorem fr_lpX1_forgetChanges_2{n k : Nat} {u : vM} {q : Nat} (h9 : q ≠ 9) : (lpX1_forgetChanges_2 n k u) q = u q := fr_lpX1_forgetChanges_2_all h9 n k u
theorem fr_uX1_forgetChanges {u : vM} {q : Nat} (h9 : q ≠ 9) : uX1_forgetChanges u q = u q := by
  unfold uX1_forgetChanges
  (try dsimp only)
  (repeat' split) <;> (try simp only [mup_ne h9, mst_ne h9, fr_lpX1_forgetChanges_2 h9])
def rX1_sheetOf (a0 : Int32) : Int32 := (a0 / 6)
def rmX1_sheetOf : Room := { frames := 0, cells := 0, slots := 0, locals := 0 }
def rX1_meteredRead (a0 : Int32) (a1 : Int32) : Int32 := (if (rX1_isCell a1) = 0 then (-1) else (if (rX1_sheetOf a1) = (rX1_sheetOf a0) then (-1) else a1))
def rmX1_meteredRead : Room := { frames := 1, cells := 0, slots := 0, locals := 20 }
def rX0_costOf (u : vM) (a1 : Int32) : Int32 := (if (rX1_isCell a1) = 0 then 0 else (mrd u 13 (rX1_sheetOf a1)))
def rmX0_costOf : Room := { frames := 1, cells := 0, slots := 0, locals := 20 }
def uX0_enter (u : vM) (a1 : Int32) (a2 : Int32) (a3 : Int32) : vM := (if (rX1_isCell a3) = 0 then u else (let y12 : Int32 := (rX1_sheetOf a3); (let u30 : vM := mup u 15 y12 ((mrd u 15 y12) + (mrd u 13 y12)); (let u46 : vM := mup u30 17 a1 ((mrd u30 17 a1) + (mrd u30 13 y12)); (let u57 : vM := mup u46 16 y12 ((mrd u46 16 y12) + 1); (let u72 : vM := mup u57 18 ((a2 * 24) + a3) ((mrd u57 18 ((a2 * 24) + a3)) + 1); (if 500 ≤ (mfd u72 8) then u72 else (let u103 : vM := mup u72 19 (mfd u72 8) (((10000 * a1) + (100 * a2)) + a3); (mst u103 8 ((mfd u103 8) + 1))))))))))
def rmX0_enter : Room := { frames := 1, cells := 0, slots := 0, locals := 20 }
theorem fr_uX0_enter {u : vM} {a1 : Int32} {a2 : Int32} {a3 : Int32} {q : Nat} (h8 : q ≠ 8) (h15 : q ≠ 15) (h16 : q ≠ 16) (h17 : q ≠ 17) (h18 : q ≠ 18) (h19 : q ≠ 19) : uX0_enter u a1 a2 a3 q = u q := by
  unfold uX0_enter
  (try dsimp only)
  (repeat' split) <;> (try simp only [mup_ne h8, mup_ne h15, mup_ne h16, mup_ne h17, mup_ne h18, mup_ne h19, mst_ne h8, mst_ne h15, mst_ne h16, mst_ne h17, mst_ne h18, mst_ne h19])
def rX0_paysFor (u : vM) (a1 : Int32) (a2 : Int32) (a3 : Int32) (a4 : Int32) : Int32 := (let y4 : Int32 := (rX1_sheetOf a2); (let y18 : Int32 := ((rX0_costOf u a3) + (rX0_costOf u a4)); (if y18 ≤ (mrd u 14 y4) then 1 else 0)))
def uX0_paysFor (u : vM) (a1 : Int32) (a2 : Int32) (a3 : Int32) (a4 : Int32) : vM := (let y4 : Int32 := (rX1_sheetOf a2); (let y18 : Int32 := ((rX0_costOf u a3) + (rX0_costOf u a4)); (if y18 ≤ (mrd u 14 y4) then (let u45 : vM := mup u 14 y4 ((mrd u 14 y4) - y18); (let u50 : vM := uX0_enter u45 a1 a2 a3; (uX0_enter u50 a1 a2 a4))) else u)))
def rmX0_paysFor : Room := { frames := 2, cells := 0, slots := 0, locals := 44 }
theorem bX0_paysFor (u : vM) (a1 : Int32) (a2 : Int32) (a3 : Int32) (a4 : Int32) : rX0_paysFor u a1 a2 a3 a4 = 0 ∨ rX0_paysFor u a1 a2 a3 a4 = 1 := by
  unfold rX0_paysFor
  (try dsimp only)
  (repeat' split) <;> first | with_reducible exact Or.inl rfl | with_reducible exact Or.inr rfl | exact bX0_costOf _ _ | exact bX1_sheetOf _
theorem fr_uX0_paysFor {u : vM} {a1 : Int32} {a2 : Int32} {a3 : Int32} {a4 : Int32} {q : Nat} (h8 : q ≠ 8) (h14 : q ≠ 14) (h15 : q ≠ 15) (h16 : q ≠ 16) (h17 : q ≠ 17) (h18 : q ≠ 18) (h19 : q ≠ 19) : uX0_paysFor u a1 a2 a3 a4 q = u q := by
  unfold uX0_paysFor
  (try dsimp only)
  (repeat' split) <;> (try simp only [mup_ne h8, mup_ne h14, mup_ne h15, mup_ne h16, mup_ne h17, mup_ne h18, mup_ne h19, mst_ne h8, mst_ne h14, mst_ne h15, mst_ne h16, mst_ne h17, mst_ne h18, mst_ne h19, fr_uX0_enter h8 h15 h16 h17 h18 h19])
def rX1_valueIn_v5 (u : vM) (a1 : Int32) : Int32 := (if a1 < 0 then 0 else (if 24 ≤ a1 then 0 else (mrd u 5 a1)))
def rmX1_valueIn : Room := { frames := 0, cells := 0, slots := 0, locals := 0 }
def rX1_valueIn_v12 (u : vM) (a1 : Int32) : Int32 := (if a1 < 0 then 0 else (if 24 ≤ a1 then 0 else (mrd u 12 a1)))
def rX1_held (a0 : Int32) : Int32 := (if (-1000000) < (if a0 < 1000000 then a0 else 1000000) then (if a0 < 1000000 then a0 else 1000000) else (-1000000))
def rmX1_held : Room := { frames := 1, cells := 0, slots := 0, locals := 16 }
def rX1_resultOf_v5 (u : vM) (a1 : Int32) : Int32 := (let y10 : Int32 := (rX1_valueIn_v5 u (mrd u 2 a1)); (let y21 : Int32 := (rX1_valueIn_v5 u (mrd u 3 a1)); (if (mrd u 1 a1) = 1 then (rX1_held ((y10 + y21) + (mrd u 4 a1))) else (if (mrd u 1 a1) = 2 then (if y10 < y21 then y21 else y10) else (if (mrd u 1 a1) = 3 then (rX1_held (y10 * (mrd u 4 a1))) else (mrd u 4 a1))))))
def rmX1_resultOf : Room := { frames := 2, cells := 0, slots := 0, locals := 36 }
def rX1_resultOf_v12 (u : vM) (a1 : Int32) : Int32 := (let y10 : Int32 := (rX1_valueIn_v12 u (mrd u 2 a1)); (let y21 : Int32 := (rX1_valueIn_v12 u (mrd u 3 a1)); (if (mrd u 1 a1) = 1 then (rX1_held ((y10 + y21) + (mrd u 4 a1))) else (if (mrd u 1 a1) = 2 then (if y10 < y21 then y21 else y10) else (if (mrd u 1 a1) = 3 then (rX1_held (y10 * (mrd u 4 a1))) else (mrd u 4 a1))))))
def uX1_compute (u : vM) (a1 : Int32) (a2 : Int32) : vM := (let y10 : Int32 := (rX1_meteredRead a2 (mrd u 2 a2)); (let j40 : Int32 := (if (mrd u 3 a2) = (mrd u 2 a2) then (-1) else (rX1_meteredRead a2 (mrd u 3 a2))); (let u56 : vM := uX0_paysFor u a1 a2 y10 j40; (let j67 : Int32 := (if (rX0_paysFor u a1 a2 y10 j40) = 0 then 1 else 0); (let u67 : vM := mup u56 6 a2 j67; (if (mrd u67 6 a2) = 0 then (let y86 : Int32 := (rX1_resultOf_v5 u67 a2); (let j109 : Int32 := (if y86 = (mrd u67 5 a2) then 0 else 1); (let u109 : vM := mup u67 9 a2 j109; (mup u109 5 a2 y86)))) else u67))))))
def rmX1_compute : Room := { frames := 3, cells := 0, slots := 0, locals := 70 }
theorem fr_uX1_compute {u : vM} {a1 : Int32} {a2 : Int32} {q : Nat} (h5 : q ≠ 5) (h6 : q ≠ 6) (h8 : q ≠ 8) (h9 : q ≠ 9) (h14 : q ≠ 14) (h15 : q ≠ 15) (h16 : q ≠ 16) (h17 : q ≠ 17) (h18 : q ≠ 18) (h19 : q ≠ 19) : uX1_compute u a1 a2 q = u q := by
  unfold uX1_compute
  (try dsimp only)
  (repeat' split) <;> (try simp only [mup_ne h5, mup_ne h6, mup_ne h8, mup_ne h9, mup_ne h14, mup_ne h15, mup_ne h16, mup_ne h17, mup_ne h18, mup_ne h19, mst_ne h5, mst_ne h6, mst_ne h8, mst_ne h9, mst_ne h14, mst_ne h15, mst_ne h16, mst_ne h17, mst_ne h18, mst_ne h19, fr_uX0_paysFor h8 h14 h15 h16 h17 h18 h19])
def rX1_readsOneOf_v9 (u : vM) (a1 : Int32) : Int32 := (if (rX1_isIn_v9 u (mrd u 2 a1)) = 0 then (if (rX1_isIn_v9 u (mrd u 3 a1)) = 0 then 0 else 1) else 1)
def rmX1_readsOneOf : Room := { frames := 1, cells := 0, slots := 0, locals := 21 }
theorem bX1_readsOneOf_v9 (u : vM) (a1 : Int32) : rX1_readsOneOf_v9 u a1 = 0 ∨ rX1_readsOneOf_v9 u a1 = 1 := by
  unfold rX1_readsOneOf_v9
  (try dsimp only)
  (repeat' split) <;> first | with_reducible exact Or.inl rfl | with_reducible exact Or.inr rfl | exact bX1_isIn_v9 _ _
def rX1_readsOneOf_v11 (u : vM) (a1 : Int32) : Int32 := (if (rX1_isIn_v11 u (mrd u 2 a1)) = 0 then (if (rX1_isIn_v11 u (mrd u 3 a1)) = 0 then 0 else 1) else 1)
theorem bX1_readsOneOf_v11 (u : vM) (a1 : Int32) : rX1_readsOneOf_v11 u a1 = 0 ∨ rX1_readsOneOf_v11 u a1 = 1 := by
  unfold rX1_readsOneOf_v11
  (try dsimp only)
  (repeat' split) <;> first | with_reducible exact Or.inl rfl | with_reducible exact Or.inr rfl | exact bX1_isIn_v11 _ _
def lpX1_goThrough_5 (a1 : Int32) (a2 : Int32) : Nat → Nat → vM → Int32 → vM × Int32
  | 0, _, u, x3 => (u, x3)
  | n + 1, k, u, x3 => (let y19 : Int32 := (mrd u 7 (nI k)); (if (rX1_isCell y19) = 0 then lpX1_goThrough_5 a1 a2 n (k + 1) u x3 else (if (rX1_readsOneOf_v9 u y19) = 0 then (if a2 = 0 then lpX1_goThrough_5 a1 a2 n (k + 1) u x3 else (if (mrd u 6 y19) = 0 then lpX1_goThrough_5 a1 a2 n (k + 1) u x3 else (let u60 : vM := uX1_compute u a1 y19; lpX1_goThrough_5 a1 a2 n (k + 1) u60 (x3 + 1)))) else (let u60 : vM := uX1_compute u a1 y19; lpX1_goThrough_5 a1 a2 n (k + 1) u60 (x3 + 1)))))
def rX1_goThrough (u : vM) (a1 : Int32) (a2 : Int32) : Int32 := (let r5 := lpX1_goThrough_5 a1 a2 24 0 u 0; r5.2)
def uX1_goThrough (u : vM) (a1 : Int32) (a2 : Int32) : vM := (let r5 := lpX1_goThrough_5 a1 a2 24 0 u 0; r5.1)
def rmX1_goThrough : Room := { frames := 4, cells := 0, slots := 0, locals := 95 }
theorem fr_lpX1_goThrough_5_all {a1 : Int32} {a2 : Int32} {q : Nat} (h5 : q ≠ 5) (h6 : q ≠ 6) (h8 : q ≠ 8) (h9 : q ≠ 9) (h14 : q ≠ 14) (h15 : q ≠ 15) (h16 : q ≠ 16) (h17 : q ≠ 17) (h18 : q ≠ 18) (h19 : q ≠ 19) : ∀ (n k : Nat) (u : vM) (x3 : Int32), (lpX1_goThrough_5 a1 a2 n k u x3).1 q = u q := by
  intro n
  induction n with
  | zero => intro k u x3; rfl
  | succ n ih =>
    intro k u x3
    unfold lpX1_goThrough_5
    (try dsimp only)
    (repeat' split) <;> (simp only [ih, mup_ne h5, mup_ne h6, mup_ne h8, mup_ne h9, mup_ne h14, mup_ne h15, mup_ne h16, mup_ne h17, mup_ne h18, mup_ne h19, mst_ne h5, mst_ne h6, mst_ne h8, mst_ne h9, mst_ne h14, mst_ne h15, mst_ne h16, mst_ne h17, mst_ne h18, mst_ne h19, fr_uX1_compute h5 h6 h8 h9 h14 h15 h16 h17 h18 h19])
theorem fr_lpX1_goThrough_5 {a1 : Int32} {a2 : Int32}{n k : Nat} {u : vM} {x3 : Int32} {q : Nat} (h5 : q ≠ 5) (h6 : q ≠ 6) (h8 : q ≠ 8) (h9 : q ≠ 9) (h14 : q ≠ 14) (h15 : q ≠ 15) (h16 : q ≠ 16) (h17 : q ≠ 17) (h18 : q ≠ 18) (h19 : q ≠ 19) : (lpX1_goThrough_5 a1 a2 n k u x3).1 q = u q := fr_lpX1_goThrough_5_all h5 h6 h8 h9 h14 h15 h16 h17 h18 h19 n k u x3
theorem fr_uX1_goThrough {u : vM} {a1 : Int32} {a2 : Int32} {q : Nat} (h5 : q ≠ 5) (h6 : q ≠ 6) (h8 : q ≠ 8) (h9 : q ≠ 9) (h14 : q ≠ 14) (h15 : q ≠ 15) (h16 : q ≠ 16) (h17 : q ≠ 17) (h18 : q ≠ 18) (h19 : q ≠ 19) : uX1_goThrough u a1 a2 q = u q := by
  unfold uX1_goThrough
  (try dsimp only)
  (repeat' split) <;> (try simp only [mup_ne h5, mup_ne h6, mup_ne h8, mup_ne h9, mup_ne h14, mup_ne h15, mup_ne h16, mup_ne h17, mup_ne h18, mup_ne h19, mst_ne h5, mst_ne h6, mst_ne h8, mst_ne h9, mst_ne h14, mst_ne h15, mst_ne h16, mst_ne h17, mst_ne h18, mst_ne h19, fr_lpX1_goThrough_5 h5 h6 h8 h9 h14 h15 h16 h17 h18 h19])
def rX1_giveFormula (u : vM) (a1 : Int32) (a2 : Int32) (a3 : Int32) (a4 : Int32) (a5 : Int32) (a6 : Int32) : Int32 := (let u6 : vM := mup u 1 a2 a3; (let u14 : vM := mup u6 2 a2 a4; (let u22 : vM := mup u14 3 a2 a5; (let u30 : vM := mup u22 4 a2 a6; (let u32 : vM := uX1_putInOrder u30; (let u36 : vM := uX1_forgetChanges u32; (let u42 : vM := uX1_compute u36 a1 a2; (1 + (rX1_goThrough u42 a1 0)))))))))
def uX1_giveFormula (u : vM) (a1 : Int32) (a2 : Int32) (a3 : Int32) (a4 : Int32) (a5 : Int32) (a6 : Int32) : vM := (let u6 : vM := mup u 1 a2 a3; (let u14 : vM := mup u6 2 a2 a4; (let u22 : vM := mup u14 3 a2 a5; (let u30 : vM := mup u22 4 a2 a6; (let u32 : vM := uX1_putInOrder u30; (let u36 : vM := uX1_forgetChanges u32; (let u42 : vM := uX1_compute u36 a1 a2; (uX1_goThrough u42 a1 0))))))))
def rmX1_giveFormula : Room := { frames := 5, cells := 0, slots := 0, locals := 120 }
theorem fr_uX1_giveFormula {u : vM} {a1 : Int32} {a2 : Int32} {a3 : Int32} {a4 : Int32} {a5 : Int32} {a6 : Int32} {q : Nat} (h1 : q ≠ 1) (h2 : q ≠ 2) (h3 : q ≠ 3) (h4 : q ≠ 4) (h5 : q ≠ 5) (h6 : q ≠ 6) (h7 : q ≠ 7) (h8 : q ≠ 8) (h9 : q ≠ 9) (h10 : q ≠ 10) (h14 : q ≠ 14) (h15 : q ≠ 15) (h16 : q ≠ 16) (h17 : q ≠ 17) (h18 : q ≠ 18) (h19 : q ≠ 19) : uX1_giveFormula u a1 a2 a3 a4 a5 a6 q = u q := by
  unfold uX1_giveFormula
  (try dsimp only)
  (repeat' split) <;> (try simp only [mup_ne h1, mup_ne h2, mup_ne h3, mup_ne h4, mup_ne h5, mup_ne h6, mup_ne h7, mup_ne h8, mup_ne h9, mup_ne h10, mup_ne h14, mup_ne h15, mup_ne h16, mup_ne h17, mup_ne h18, mup_ne h19, mst_ne h1, mst_ne h2, mst_ne h3, mst_ne h4, mst_ne h5, mst_ne h6, mst_ne h7, mst_ne h8, mst_ne h9, mst_ne h10, mst_ne h14, mst_ne h15, mst_ne h16, mst_ne h17, mst_ne h18, mst_ne h19, fr_uX1_compute h5 h6 h8 h9 h14 h15 h16 h17 h18 h19, fr_uX1_forgetChanges h9, fr_uX1_goThrough h5 h6 h8 h9 h14 h15 h16 h17 h18 h19, fr_uX1_putInOrder h7 h10])
def rX1_setNumber (u : vM) (a1 : Int32) (a2 : Int32) (a3 : Int32) : Int32 := (if (rX1_isUser a1) = 0 then 0 else (if (rX1_isCell a2) = 0 then 0 else (if (rX1_isWithin a3 1000000) = 0 then 0 else (rX1_giveFormula u a1 a2 0 (-1) (-1) a3))))
def xX1_setNumber (u : vM) (a1 : Int32) (a2 : Int32) (a3 : Int32) : Int32 := (if (rX1_isUser a1) = 0 then 1 else (if (rX1_isCell a2) = 0 then 1 else (if (rX1_isWithin a3 1000000) = 0 then 1 else 0)))
def uX1_setNumber (u : vM) (a1 : Int32) (a2 : Int32) (a3 : Int32) : vM := (if (rX1_isUser a1) = 0 then u else (if (rX1_isCell a2) = 0 then u else (if (rX1_isWithin a3 1000000) = 0 then u else (uX1_giveFormula u a1 a2 0 (-1) (-1) a3))))
def rmX1_setNumber : Room := { frames := 6, cells := 1, slots := 6, locals := 146 }
theorem fr_uX1_setNumber {u : vM} {a1 : Int32} {a2 : Int32} {a3 : Int32} {q : Nat} (h1 : q ≠ 1) (h2 : q ≠ 2) (h3 : q ≠ 3) (h4 : q ≠ 4) (h5 : q ≠ 5) (h6 : q ≠ 6) (h7 : q ≠ 7) (h8 : q ≠ 8) (h9 : q ≠ 9) (h10 : q ≠ 10) (h14 : q ≠ 14) (h15 : q ≠ 15) (h16 : q ≠ 16) (h17 : q ≠ 17) (h18 : q ≠ 18) (h19 : q ≠ 19) : uX1_setNumber u a1 a2 a3 q = u q := by
  unfold uX1_setNumber
  (try dsimp only)
  (repeat' split) <;> (try simp only [mup_ne h1, mup_ne h2, mup_ne h3, mup_ne h4, mup_ne h5, mup_ne h6, mup_ne h7, mup_ne h8, mup_ne h9, mup_ne h10, mup_ne h14, mup_ne h15, mup_ne h16, mup_ne h17, mup_ne h18, mup_ne h19, mst_ne h1, mst_ne h2, mst_ne h3, mst_ne h4, mst_ne h5, mst_ne h6, mst_ne h7, mst_ne h8, mst_ne h9, mst_ne h10, mst_ne h14, mst_ne h15, mst_ne h16, mst_ne h17, mst_ne h18, mst_ne h19, fr_uX1_giveFormula h1 h2 h3 h4 h5 h6 h7 h8 h9 h10 h14 h15 h16 h17 h18 h19])
def lpX1_wouldReadItself_3 (a1 : Int32) : Nat → Nat → vM → vM
  | 0, _, u => u
  | n + 1, k, u => (let j27 : Int32 := (if (nI k) = a1 then 1 else 0); (let u27 : vM := mup u 11 (nI k) j27; lpX1_wouldReadItself_3 a1 n (k + 1) u27))
def lpX1_wouldReadItself_37 : Nat → Nat → vM → vM
  | 0, _, u => u
  | n + 1, k, u => (let y51 : Int32 := (mrd u 7 (nI k)); (if (rX1_isCell y51) = 0 then lpX1_wouldReadItself_37 n (k + 1) u else (if (rX1_readsOneOf_v11 u y51) = 0 then lpX1_wouldReadItself_37 n (k + 1) u else (let u81 : vM := mup u 11 y51 1; lpX1_wouldReadItself_37 n (k + 1) u81))))
def rX1_wouldReadItself (u : vM) (a1 : Int32) (a2 : Int32) (a3 : Int32) : Int32 := (let r3 := lpX1_wouldReadItself_3 a1 24 0 u; (let r37 := lpX1_wouldReadItself_37 24 0 r3; (if (rX1_isIn_v11 r37 a2) = 0 then (if (rX1_isIn_v11 r37 a3) = 0 then 0 else 1) else 1)))
def uX1_wouldReadItself (u : vM) (a1 : Int32) (a2 : Int32) (a3 : Int32) : vM := (let r3 := lpX1_wouldReadItself_3 a1 24 0 u; (lpX1_wouldReadItself_37 24 0 r3))
def rmX1_wouldReadItself : Room := { frames := 2, cells := 0, slots := 0, locals := 43 }
theorem bX1_wouldReadItself (u : vM) (a1 : Int32) (a2 : Int32) (a3 : Int32) : rX1_wouldReadItself u a1 a2 a3 = 0 ∨ rX1_wouldReadItself u a1 a2 a3 = 1 := by
  unfold rX1_wouldReadItself
  (try dsimp only)
  (repeat' split) <;> first | with_reducible exact Or.inl rfl | with_reducible exact Or.inr rfl | exact bX1_isIn_v11 _ _
theorem fr_lpX1_wouldReadItself_3_all {a1 : Int32} {q : Nat} (h11 : q ≠ 11) : ∀ (n k : Nat) (u : vM), (lpX1_wouldReadItself_3 a1 n k u) q = u q := by
  intro n
  induction n with
  | zero => intro k u; rfl
  | succ n ih =>
    intro k u
    unfold lpX1_wouldReadItself_3
    (try dsimp only)
    (repeat' split) <;> (simp only [ih, mup_ne h11, mst_ne h11])
theorem fr_lpX1_wouldReadItself_3 {a1 : Int32}{n k : Nat} {u : vM} {q : Nat} (h11 : q ≠ 11) : (lpX1_wouldReadItself_3 a1 n k u) q = u q := fr_lpX1_wouldReadItself_3_all h11 n k u
theorem fr_lpX1_wouldReadItself_37_all {q : Nat} (h11 : q ≠ 11) : ∀ (n k : Nat) (u : vM), (lpX1_wouldReadItself_37 n k u) q = u q := by
  intro n
  induction n with
  | zero => intro k u; rfl
  | succ n ih =>
    intro k u
    unfold lpX1_wouldReadItself_37
    (try dsimp only)
    (repeat' split) <;> (simp only [ih, mup_ne h11, mst_ne h11])
theorem fr_lpX1_wouldReadItself_37{n k : Nat} {u : vM} {q : Nat} (h11 : q ≠ 11) : (lpX1_wouldReadItself_37 n k u) q = u q := fr_lpX1_wouldReadItself_37_all h11 n k u
theorem fr_uX1_wouldReadItself {u : vM} {a1 : Int32} {a2 : Int32} {a3 : Int32} {q : Nat} (h11 : q ≠ 11) : uX1_wouldReadItself u a1 a2 a3 q = u q := by
  unfold uX1_wouldReadItself
  (try dsimp only)
  (repeat' split) <;> (try simp only [mup_ne h11, mst_ne h11, fr_lpX1_wouldReadItself_3 h11, fr_lpX1_wouldReadItself_37 h11])
def rX1_setSum (u : vM) (a1 : Int32) (a2 : Int32) (a3 : Int32) (a4 : Int32) (a5 : Int32) : Int32 := (if (rX1_isUser a1) = 0 then 0 else (if (rX1_isCell a2) = 0 then 0 else (if (rX1_isCell a3) = 0 then 0 else (if (rX1_isCell a4) = 0 then 0 else (if (rX1_isWithin a5 1000) = 0 then 0 else (let u55 : vM := uX1_wouldReadItself u a2 a3 a4; (if (rX1_wouldReadItself u a2 a3 a4) = 0 then (rX1_giveFormula u55 a1 a2 1 a3 a4 a5) else 0)))))))
def xX1_setSum (u : vM) (a1 : Int32) (a2 : Int32) (a3 : Int32) (a4 : Int32) (a5 : Int32) : Int32 := (if (rX1_isUser a1) = 0 then 1 else (if (rX1_isCell a2) = 0 then 1 else (if (rX1_isCell a3) = 0 then 1 else (if (rX1_isCell a4) = 0 then 1 else (if (rX1_isWithin a5 1000) = 0 then 1 else (if (rX1_wouldReadItself u a2 a3 a4) = 0 then 0 else 2))))))
def uX1_setSum (u : vM) (a1 : Int32) (a2 : Int32) (a3 : Int32) (a4 : Int32) (a5 : Int32) : vM := (if (rX1_isUser a1) = 0 then u else (if (rX1_isCell a2) = 0 then u else (if (rX1_isCell a3) = 0 then u else (if (rX1_isCell a4) = 0 then u else (if (rX1_isWithin a5 1000) = 0 then u else (let u55 : vM := uX1_wouldReadItself u a2 a3 a4; (if (rX1_wouldReadItself u a2 a3 a4) = 0 then (uX1_giveFormula u55 a1 a2 1 a3 a4 a5) else u55)))))))
def rmX1_setSum : Room := { frames := 6, cells := 1, slots := 6, locals := 146 }
theorem fr_uX1_setSum {u : vM} {a1 : Int32} {a2 : Int32} {a3 : Int32} {a4 : Int32} {a5 : Int32} {q : Nat} (h1 : q ≠ 1) (h2 : q ≠ 2) (h3 : q ≠ 3) (h4 : q ≠ 4) (h5 : q ≠ 5) (h6 : q ≠ 6) (h7 : q ≠ 7) (h8 : q ≠ 8) (h9 : q ≠ 9) (h10 : q ≠ 10) (h11 : q ≠ 11) (h14 : q ≠ 14) (h15 : q ≠ 15) (h16 : q ≠ 16) (h17 : q ≠ 17) (h18 : q ≠ 18) (h19 : q ≠ 19) : uX1_setSum u a1 a2 a3 a4 a5 q = u q := by
  unfold uX1_setSum
  (try dsimp only)
  (repeat' split) <;> (try simp only [mup_ne h1, mup_ne h2, mup_ne h3, mup_ne h4, mup_ne h5, mup_ne h6, mup_ne h7, mup_ne h8, mup_ne h9, mup_ne h10, mup_ne h11, mup_ne h14, mup_ne h15, mup_ne h16, mup_ne h17, mup_ne h18, mup_ne h19, mst_ne h1, mst_ne h2, mst_ne h3, mst_ne h4, mst_ne h5, mst_ne h6, mst_ne h7, mst_ne h8, mst_ne h9, mst_ne h10, mst_ne h11, mst_ne h14, mst_ne h15, mst_ne h16, mst_ne h17, mst_ne h18, mst_ne h19, fr_uX1_giveFormula h1 h2 h3 h4 h5 h6 h7 h8 h9 h10 h14 h15 h16 h17 h18 h19, fr_uX1_wouldReadItself h11])
def rX1_setGreater (u : vM) (a1 : Int32) (a2 : Int32) (a3 : Int32) (a4 : Int32) : Int32 := (if (rX1_isUser a1) = 0 then 0 else (if (rX1_isCell a2) = 0 then 0 else (if (rX1_isCell a3) = 0 then 0 else (if (rX1_isCell a4) = 0 then 0 else (let u44 : vM := uX1_wouldReadItself u a2 a3 a4; (if (rX1_wouldReadItself u a2 a3 a4) = 0 then (rX1_giveFormula u44 a1 a2 2 a3 a4 0) else 0))))))
def xX1_setGreater (u : vM) (a1 : Int32) (a2 : Int32) (a3 : Int32) (a4 : Int32) : Int32 := (if (rX1_isUser a1) = 0 then 1 else (if (rX1_isCell a2) = 0 then 1 else (if (rX1_isCell a3) = 0 then 1 else (if (rX1_isCell a4) = 0 then 1 else (if (rX1_wouldReadItself u a2 a3 a4) = 0 then 0 else 2)))))
def uX1_setGreater (u : vM) (a1 : Int32) (a2 : Int32) (a3 : Int32) (a4 : Int32) : vM := (if (rX1_isUser a1) = 0 then u else (if (rX1_isCell a2) = 0 then u else (if (rX1_isCell a3) = 0 then u else (if (rX1_isCell a4) = 0 then u else (let u44 : vM := uX1_wouldReadItself u a2 a3 a4; (if (rX1_wouldReadItself u a2 a3 a4) = 0 then (uX1_giveFormula u44 a1 a2 2 a3 a4 0) else u44))))))
def rmX1_setGreater : Room := { frames := 6, cells := 1, slots := 6, locals := 146 }
theorem fr_uX1_setGreater {u : vM} {a1 : Int32} {a2 : Int32} {a3 : Int32} {a4 : Int32} {q : Nat} (h1 : q ≠ 1) (h2 : q ≠ 2) (h3 : q ≠ 3) (h4 : q ≠ 4) (h5 : q ≠ 5) (h6 : q ≠ 6) (h7 : q ≠ 7) (h8 : q ≠ 8) (h9 : q ≠ 9) (h10 : q ≠ 10) (h11 : q ≠ 11) (h14 : q ≠ 14) (h15 : q ≠ 15) (h16 : q ≠ 16) (h17 : q ≠ 17) (h18 : q ≠ 18) (h19 : q ≠ 19) : uX1_setGreater u a1 a2 a3 a4 q = u q := by
  unfold uX1_setGreater
  (try dsimp only)
  (repeat' split) <;> (try simp only [mup_ne h1, mup_ne h2, mup_ne h3, mup_ne h4, mup_ne h5, mup_ne h6, mup_ne h7, mup_ne h8, mup_ne h9, mup_ne h10, mup_ne h11, mup_ne h14, mup_ne h15, mup_ne h16, mup_ne h17, mup_ne h18, mup_ne h19, mst_ne h1, mst_ne h2, mst_ne h3, mst_ne h4, mst_ne h5, mst_ne h6, mst_ne h7, mst_ne h8, mst_ne h9, mst_ne h10, mst_ne h11, mst_ne h14, mst_ne h15, mst_ne h16, mst_ne h17, mst_ne h18, mst_ne h19, fr_uX1_giveFormula h1 h2 h3 h4 h5 h6 h7 h8 h9 h10 h14 h15 h16 h17 h18 h19, fr_uX1_wouldReadItself h11])
def rX1_setTimes (u : vM) (a1 : Int32) (a2 : Int32) (a3 : Int32) (a4 : Int32) : Int32 := (if (rX1_isUser a1) = 0 then 0 else (if (rX1_isCell a2) = 0 then 0 else (if (rX1_isCell a3) = 0 then 0 else (if (rX1_isWithin a4 100) = 0 then 0 else (let u45 : vM := uX1_wouldReadItself u a2 a3 (-1); (if (rX1_wouldReadItself u a2 a3 (-1)) = 0 then (rX1_giveFormula u45 a1 a2 3 a3 (-1) a4) else 0))))))
def xX1_setTimes (u : vM) (a1 : Int32) (a2 : Int32) (a3 : Int32) (a4 : Int32) : Int32 := (if (rX1_isUser a1) = 0 then 1 else (if (rX1_isCell a2) = 0 then 1 else (if (rX1_isCell a3) = 0 then 1 else (if (rX1_isWithin a4 100) = 0 then 1 else (if (rX1_wouldReadItself u a2 a3 (-1)) = 0 then 0 else 2)))))
def uX1_setTimes (u : vM) (a1 : Int32) (a2 : Int32) (a3 : Int32) (a4 : Int32) : vM := (if (rX1_isUser a1) = 0 then u else (if (rX1_isCell a2) = 0 then u else (if (rX1_isCell a3) = 0 then u else (if (rX1_isWithin a4 100) = 0 then u else (let u45 : vM := uX1_wouldReadItself u a2 a3 (-1); (if (rX1_wouldReadItself u a2 a3 (-1)) = 0 then (uX1_giveFormula u45 a1 a2 3 a3 (-1) a4) else u45))))))
def rmX1_setTimes : Room := { frames := 6, cells := 1, slots := 6, locals := 146 }
theorem fr_uX1_setTimes {u : vM} {a1 : Int32} {a2 : Int32} {a3 : Int32} {a4 : Int32} {q : Nat} (h1 : q ≠ 1) (h2 : q ≠ 2) (h3 : q ≠ 3) (h4 : q ≠ 4) (h5 : q ≠ 5) (h6 : q ≠ 6) (h7 : q ≠ 7) (h8 : q ≠ 8) (h9 : q ≠ 9) (h10 : q ≠ 10) (h11 : q ≠ 11) (h14 : q ≠ 14) (h15 : q ≠ 15) (h16 : q ≠ 16) (h17 : q ≠ 17) (h18 : q ≠ 18) (h19 : q ≠ 19) : uX1_setTimes u a1 a2 a3 a4 q = u q := by
  unfold uX1_setTimes
  (try dsimp only)
  (repeat' split) <;> (try simp only [mup_ne h1, mup_ne h2, mup_ne h3, mup_ne h4, mup_ne h5, mup_ne h6, mup_ne h7, mup_ne h8, mup_ne h9, mup_ne h10, mup_ne h11, mup_ne h14, mup_ne h15, mup_ne h16, mup_ne h17, mup_ne h18, mup_ne h19, mst_ne h1, mst_ne h2, mst_ne h3, mst_ne h4, mst_ne h5, mst_ne h6, mst_ne h7, mst_ne h8, mst_ne h9, mst_ne h10, mst_ne h11, mst_ne h14, mst_ne h15, mst_ne h16, mst_ne h17, mst_ne h18, mst_ne h19, fr_uX1_giveFormula h1 h2 h3 h4 h5 h6 h7 h8 h9 h10 h14 h15 h16 h17 h18 h19, fr_uX1_wouldReadItself h11])
def rX1_refresh (u : vM) (a1 : Int32) : Int32 := (if (rX1_isUser a1) = 0 then 0 else (let u18 : vM := uX1_forgetChanges u; (rX1_goThrough u18 a1 1)))
def xX1_refresh (u : vM) (a1 : Int32) : Int32 := (if (rX1_isUser a1) = 0 then 1 else 0)
def uX1_refresh (u : vM) (a1 : Int32) : vM := (if (rX1_isUser a1) = 0 then u else (let u18 : vM := uX1_forgetChanges u; (uX1_goThrough u18 a1 1)))
def rmX1_refresh : Room := { frames := 6, cells := 1, slots := 6, locals := 120 }
theorem fr_uX1_refresh {u : vM} {a1 : Int32} {q : Nat} (h5 : q ≠ 5) (h6 : q ≠ 6) (h8 : q ≠ 8) (h9 : q ≠ 9) (h14 : q ≠ 14) (h15 : q ≠ 15) (h16 : q ≠ 16) (h17 : q ≠ 17) (h18 : q ≠ 18) (h19 : q ≠ 19) : uX1_refresh u a1 q = u q := by
  unfold uX1_refresh
  (try dsimp only)
  (repeat' split) <;> (try simp only [mup_ne h5, mup_ne h6, mup_ne h8, mup_ne h9, mup_ne h14, mup_ne h15, mup_ne h16, mup_ne h17, mup_ne h18, mup_ne h19, mst_ne h5, mst_ne h6, mst_ne h8, mst_ne h9, mst_ne h14, mst_ne h15, mst_ne h16, mst_ne h17, mst_ne h18, mst_ne h19, fr_uX1_forgetChanges h9, fr_uX1_goThrough h5 h6 h8 h9 h14 h15 h16 h17 h18 h19])
def rX1_isSheet (a0 : Int32) : Int32 := (if a0 < 0 then 0 else (if 4 ≤ a0 then 0 else 1))
def rmX1_isSheet : Room := { frames := 0, cells := 0, slots := 0, locals := 0 }
theorem bX1_isSheet (a0 : Int32) : rX1_isSheet a0 = 0 ∨ rX1_isSheet a0 = 1 := by
  unfold rX1_isSheet
  (try dsimp only)
  (repeat' split) <;> first | with_reducible exact Or.inl rfl | with_reducible exact Or.inr rfl
def rX1_setPrice (u : vM) (a1 : Int32) (a2 : Int32) : Int32 := (if (rX1_isSheet a1) = 0 then 0 else (if a2 < 0 then 0 else (if a2 ≤ 100 then (mrd u 13 a1) else 0)))
def xX1_setPrice (u : vM) (a1 : Int32) (a2 : Int32) : Int32 := (if (rX1_isSheet a1) = 0 then 1 else (if a2 < 0 then 1 else (if a2 ≤ 100 then 0 else 1)))
def uX1_setPrice (u : vM) (a1 : Int32) (a2 : Int32) : vM := (if (rX1_isSheet a1) = 0 then u else (if a2 < 0 then u else (if a2 ≤ 100 then (mup u 13 a1 a2) else u)))
def rmX1_setPrice : Room := { frames := 6, cells := 1, slots := 6, locals := 90 }
theorem fr_uX1_setPrice {u : vM} {a1 : Int32} {a2 : Int32} {q : Nat} (h13 : q ≠ 13) : uX1_setPrice u a1 a2 q = u q := by
  unfold uX1_setPrice
  (try dsimp only)
  (repeat' split) <;> (try simp only [mup_ne h13, mst_ne h13])
def rX1_grant (u : vM) (a1 : Int32) (a2 : Int32) : Int32 := (if (rX1_isSheet a1) = 0 then 0 else (if a2 < 1 then 0 else (if a2 ≤ 10000 then (let u41 : vM := mup u 14 a1 ((mrd u 14 a1) + a2); (mrd u41 14 a1)) else 0)))
def xX1_grant (u : vM) (a1 : Int32) (a2 : Int32) : Int32 := (if (rX1_isSheet a1) = 0 then 1 else (if a2 < 1 then 1 else (if a2 ≤ 10000 then 0 else 1)))
def uX1_grant (u : vM) (a1 : Int32) (a2 : Int32) : vM := (if (rX1_isSheet a1) = 0 then u else (if a2 < 1 then u else (if a2 ≤ 10000 then (mup u 14 a1 ((mrd u 14 a1) + a2)) else u)))
def rmX1_grant : Room := { frames := 6, cells := 1, slots := 6, locals := 90 }
theorem fr_uX1_grant {u : vM} {a1 : Int32} {a2 : Int32} {q : Nat} (h14 : q ≠ 14) : uX1_grant u a1 a2 q = u q := by
  unfold uX1_grant
  (try dsimp only)
  (repeat' split) <;> (try simp only [mup_ne h14, mst_ne h14])
def rX1_budget (u : vM) (a1 : Int32) : Int32 := (if (rX1_isSheet a1) = 0 then 0 else (mrd u 14 a1))
def xX1_budget (u : vM) (a1 : Int32) : Int32 := (if (rX1_isSheet a1) = 0 then 1 else 0)
def rmX1_budget : Room := { frames := 6, cells := 1, slots := 6, locals := 90 }
def rX1_earned (u : vM) (a1 : Int32) : Int32 := (if (rX1_isSheet a1) = 0 then 0 else (mrd u 15 a1))
def xX1_earned (u : vM) (a1 : Int32) : Int32 := (if (rX1_isSheet a1) = 0 then 1 else 0)
def rmX1_earned : Room := { frames := 6, cells := 1, slots := 6, locals := 90 }
def rX1_caused (u : vM) (a1 : Int32) : Int32 := (if (rX1_isUser a1) = 0 then 0 else (mrd u 17 a1))
def xX1_caused (u : vM) (a1 : Int32) : Int32 := (if (rX1_isUser a1) = 0 then 1 else 0)
def rmX1_caused : Room := { frames := 6, cells := 1, slots := 6, locals := 90 }
def rX1_value (u : vM) (a1 : Int32) : Int32 := (if (rX1_isCell a1) = 0 then 0 else (mrd u 5 a1))
def xX1_value (u : vM) (a1 : Int32) : Int32 := (if (rX1_isCell a1) = 0 then 1 else 0)
def rmX1_value : Room := { frames := 6, cells := 1, slots := 6, locals := 90 }
def rX1_isMarked (u : vM) (a1 : Int32) : Int32 := (if (rX1_isCell a1) = 0 then 0 else (mrd u 6 a1))
def xX1_isMarked (u : vM) (a1 : Int32) : Int32 := (if (rX1_isCell a1) = 0 then 1 else 0)
def rmX1_isMarked : Room := { frames := 6, cells := 1, slots := 6, locals := 90 }
def lpX1_valueAnew_19 : Nat → Nat → vM → vM
  | 0, _, u => u
  | n + 1, k, u => (let y31 : Int32 := (mrd u 7 (nI k)); (if (rX1_isCell y31) = 0 then lpX1_valueAnew_19 n (k + 1) u else (let u53 : vM := mup u 12 y31 (rX1_resultOf_v12 u y31); lpX1_valueAnew_19 n (k + 1) u53)))
def rX1_valueAnew (u : vM) (a1 : Int32) : Int32 := (if (rX1_isCell a1) = 0 then 0 else (let r19 := lpX1_valueAnew_19 24 0 u; (mrd r19 12 a1)))
def xX1_valueAnew (u : vM) (a1 : Int32) : Int32 := (if (rX1_isCell a1) = 0 then 1 else 0)
def uX1_valueAnew (u : vM) (a1 : Int32) : vM := (if (rX1_isCell a1) = 0 then u else (lpX1_valueAnew_19 24 0 u))
def rmX1_valueAnew : Room := { frames := 6, cells := 1, slots := 6, locals := 90 }
theorem fr_lpX1_valueAnew_19_all {q : Nat} (h12 : q ≠ 12) : ∀ (n k : Nat) (u : vM), (lpX1_valueAnew_19 n k u) q = u q := by
  intro n
  induction n with
  | zero => intro k u; rfl
  | succ n ih =>
    intro k u
    unfold lpX1_valueAnew_19
    (try dsimp only)
    (repeat' split) <;> (simp only [ih, mup_ne h12, mst_ne h12])
theorem fr_lpX1_valueAnew_19{n k : Nat} {u : vM} {q : Nat} (h12 : q ≠ 12) : (lpX1_valueAnew_19 n k u) q = u q := fr_lpX1_valueAnew_19_all h12 n k u
theorem fr_uX1_valueAnew {u : vM} {a1 : Int32} {q : Nat} (h12 : q ≠ 12) : uX1_valueAnew u a1 q = u q := by
  unfold uX1_valueAnew
  (try dsimp only)
  (repeat' split) <;> (try simp only [mup_ne h12, mst_ne h12, fr_lpX1_valueAnew_19 h12])
def rX1_readings (u : vM) : Int32 := (mfd u 8)
def rmX1_readings : Room := { frames := 0, cells := 0, slots := 0, locals := 0 }
def rX1_reading (u : vM) (a1 : Int32) : Int32 := (if a1 < 0 then 0 else (if (mfd u 8) ≤ a1 then 0 else (if a1 < 500 then (mrd u 19 a1) else 0)))
def xX1_reading (u : vM) (a1 : Int32) : Int32 := (if a1 < 0 then 1 else (if (mfd u 8) ≤ a1 then 1 else (if a1 < 500 then 0 else 1)))
def rmX1_reading : Room := { frames := 6, cells := 1, slots := 6, locals := 90 }
def rX1_timesRead (u : vM) (a1 : Int32) (a2 : Int32) : Int32 := (if (rX1_isCell a1) = 0 then 0 else (if (rX1_isCell a2) = 0 then 0 else (mrd u 18 ((a1 * 24) + a2))))
def xX1_timesRead (u : vM) (a1 : Int32) (a2 : Int32) : Int32 := (if (rX1_isCell a1) = 0 then 1 else (if (rX1_isCell a2) = 0 then 1 else 0))
def rmX1_timesRead : Room := { frames := 6, cells := 1, slots := 6, locals := 90 }
def rX1_readOf (u : vM) (a1 : Int32) : Int32 := (if (rX1_isSheet a1) = 0 then 0 else (mrd u 16 a1))
def xX1_readOf (u : vM) (a1 : Int32) : Int32 := (if (rX1_isSheet a1) = 0 then 1 else 0)
def rmX1_readOf : Room := { frames := 6, cells := 1, slots := 6, locals := 90 }
end
section
def mz : vM := fun _ _ => 0
def adl (l : List Nat) : Nat → Nat := fun i => l.getD i 0
def wL (cI : ClassId) (ad : Nat → Nat) (u : vM) : va_W := [(ad 0, .inr (0, [.ref (ad 1), .ref (ad 2), .ref (ad 3), .ref (ad 4), .ref (ad 5), .ref (ad 6), .ref (ad 7), .int (u 8 0)])), (ad 1, .inl (cI, 4, .inl (u 1))), (ad 2, .inl (cI, 4, .inl (u 2))), (ad 3, .inl (cI, 4, .inl (u 3))), (ad 4, .inl (cI, 4, .inl (u 4))), (ad 5, .inl (cI, 5, .inl (u 5))), (ad 6, .inl (cI, 576, .inl (u 6))), (ad 7, .inl (cI, 500, .inl (u 7)))]
theorem wL_ok (cI : ClassId) (ad : Nat → Nat) : wOK (wL cI ad) := fun _ _ => rfl
theorem wL_s1 {cI : ClassId} {ad : Nat → Nat} {u : vM} {g : Nat → Int32} : (wL cI ad u).set 1 (ad 1, .inl (cI, 4, .inl g)) = wL cI ad (mR u 1 g) := rfl
theorem wL_s2 {cI : ClassId} {ad : Nat → Nat} {u : vM} {g : Nat → Int32} : (wL cI ad u).set 2 (ad 2, .inl (cI, 4, .inl g)) = wL cI ad (mR u 2 g) := rfl
theorem wL_s3 {cI : ClassId} {ad : Nat → Nat} {u : vM} {g : Nat → Int32} : (wL cI ad u).set 3 (ad 3, .inl (cI, 4, .inl g)) = wL cI ad (mR u 3 g) := rfl
theorem wL_s4 {cI : ClassId} {ad : Nat → Nat} {u : vM} {g : Nat → Int32} : (wL cI ad u).set 4 (ad 4, .inl (cI, 4, .inl g)) = wL cI ad (mR u 4 g) := rfl
theorem wL_s5 {cI : ClassId} {ad : Nat → Nat} {u : vM} {g : Nat → Int32} : (wL cI ad u).set 5 (ad 5, .inl (cI, 5, .inl g)) = wL cI ad (mR u 5 g) := rfl
theorem wL_s6 {cI : ClassId} {ad : Nat → Nat} {u : vM} {g : Nat → Int32} : (wL cI ad u).set 6 (ad 6, .inl (cI, 576, .inl g)) = wL cI ad (mR u 6 g) := rfl
theorem wL_s7 {cI : ClassId} {ad : Nat → Nat} {u : vM} {g : Nat → Int32} : (wL cI ad u).set 7 (ad 7, .inl (cI, 500, .inl g)) = wL cI ad (mR u 7 g) := rfl
/-- the class with a new ledger -/
def lpX0_init_64 : Nat → Nat → vM → vM
  | 0, _, u => u
  | n + 1, k, u => (let u75 : vM := mup u 1 (nI k) 1; (let u83 : vM := mup u75 2 (nI k) 100; lpX0_init_64 n (k + 1) u83))
def uX0_init : vM := (lpX0_init_64 4 0 mz)
def rmX0_init : Room := { frames := 1, cells := 7, slots := 1097, locals := 12 }
def mC0 : vM := fun j => cond (Nat.beq j 8) (uX0_init 8) (cond (Nat.beq j 13) (uX0_init 1) (cond (Nat.beq j 14) (uX0_init 2) (cond (Nat.beq j 15) (uX0_init 3) (cond (Nat.beq j 16) (uX0_init 4) (cond (Nat.beq j 17) (uX0_init 5) (cond (Nat.beq j 18) (uX0_init 6) (cond (Nat.beq j 19) (uX0_init 7) (mz j))))))))
def lpX1_init_105 : Nat → Nat → vM → vM
  | 0, _, u => u
  | n + 1, k, u => (let u117 : vM := mup u 2 (nI k) (-1); (let u124 : vM := mup u117 3 (nI k) (-1); (let u131 : vM := mup u124 7 (nI k) (nI k); lpX1_init_105 n (k + 1) u131)))
def uX1_init : vM := (lpX1_init_105 24 0 mC0)
def rmX1_init : Room := { frames := 2, cells := 19, slots := 1369, locals := 60 }
def lpX2_init_132 : Nat → Nat → vM → vM
  | 0, _, u => u
  | n + 1, k, u => (let u143 : vM := mup u 11 (nI k) 1; (let u151 : vM := mup u143 12 (nI k) 100; lpX2_init_132 n (k + 1) u151))
def uX2_init : vM := (lpX2_init_132 4 0 mz)
def rmX2_init : Room := { frames := 1, cells := 16, slots := 1333, locals := 12 }
variable {p : Program} {l : Launch} {e : Env} {s : State} {m : MethodId} {args : Array Value} {below : List Frame} {meth : Method} {c : Code} {D : va_G} {cI cZ : ClassId} {ad : Nat → Nat} {A : Nat → Prop}
theorem hdX0_init : yX0_init.cls ≠ "java/lang/invoke/MethodHandle" ∧ yX0_init.cls ≠ "java/lang/invoke/VarHandle" ∧ (parseMethodDescriptor yX0_init.desc).map (fun d => d.parameters.length) = some 0 := by decide +kernel
theorem hvX0_init : yX0_init.cls = RX0 ∧ yX0_init.cls ≠ "java/lang/invoke/MethodHandle" ∧ yX0_init.cls ≠ "java/lang/invoke/VarHandle" ∧ (parseMethodDescriptor yX0_init.desc).map (fun d => d.parameters.length) = some 0 := by decide +kernel
theorem hinX0_init_X0 : ∀ w ∈ u_ws RX0 TX0 8, w ∈ wsX0_init := by decide +kernel
theorem hoX0_init_1 : Cond.methodLink RX0 3 Lib.objectInit ∈ wsX0_init := by decide +kernel
theorem hoX0_init_2 : Cond.instanceMethod Lib.objectInit ∈ wsX0_init := by decide +kernel
theorem hoX0_init_3 : Cond.code Lib.objectInit ⟨#[0xb1]⟩ 1 none ∈ wsX0_init := by decide +kernel
theorem harrX0_init_int : Cond.arrayClass .int ∈ wsX0_init := by decide +kernel
theorem hfX0_init_9 : Cond.fieldLink RX0 9 "MeteredSheets$Ledger" "prices" "[I" ∈ wsX0_init := by decide +kernel
theorem hfX0_init_15 : Cond.fieldLink RX0 15 "MeteredSheets$Ledger" "budgets" "[I" ∈ wsX0_init := by decide +kernel
theorem hfX0_init_18 : Cond.fieldLink RX0 18 "MeteredSheets$Ledger" "earnings" "[I" ∈ wsX0_init := by decide +kernel
theorem hfX0_init_21 : Cond.fieldLink RX0 21 "MeteredSheets$Ledger" "readsOf" "[I" ∈ wsX0_init := by decide +kernel
theorem hfX0_init_24 : Cond.fieldLink RX0 24 "MeteredSheets$Ledger" "bills" "[I" ∈ wsX0_init := by decide +kernel
theorem hfX0_init_27 : Cond.fieldLink RX0 27 "MeteredSheets$Ledger" "counts" "[I" ∈ wsX0_init := by decide +kernel
theorem hfX0_init_30 : Cond.fieldLink RX0 30 "MeteredSheets$Ledger" "kept" "[I" ∈ wsX0_init := by decide +kernel
theorem hfX0_init_33 : Cond.fieldLink RX0 33 "MeteredSheets$Ledger" "keptCount" "I" ∈ wsX0_init := by decide +kernel
set_option maxHeartbeats 4000000 in
theorem qX0_init_64 (C : vC p s m args meth c D vwCl (tyM cI) xN A (wL cI ad) cX0_init RX0 wsX0_init 2 none) {Q : State → Prop} : ∀ (n k : Nat), k + n = 4 → ∀ (u : vM), (∀ r : vM, lpX0_init_64 n k u = r → V p l e rmX0_init s m args below meth c D vwCl A (wL cI ad) 2 7 1097 Q r 90 [(0, .ref (ad 0)), (1, .int (nI 4))] []) → V p l e rmX0_init s m args below meth c D vwCl A (wL cI ad) 2 7 1097 Q u 64 [(0, .ref (ad 0)), (1, .int (nI k))] [] := by
  intro n
  induction n with
  | zero =>
    intro k hk u KK
    obtain rfl : k = 4 := by omega
    refine V_iload_n C dX0_init_64 rfl 1 rfl ?_
    refine V_iconst (v := 4) C dX0_init_65 (by decide) ?_
    refine V_icmp_ge (tgt := 90) C dX0_init_66 (by decide) (fun _ => ?_) (fun h => absurd (by decide : (4 : Int32) ≤ nI 4) h)
    exact KK _ rfl
  | succ n ih =>
    intro k hk u KK
    have hkB : k < 4 := by omega
    refine V_iload_n C dX0_init_64 rfl 1 rfl ?_
    refine V_iconst (v := 4) C dX0_init_65 (by decide) ?_
    refine V_icmp_ge (tgt := 90) C dX0_init_66 (by decide) (fun h => absurd h (nI_ge hkB (by decide))) (fun _ => ?_)
    refine V_aload_n C dX0_init_69 rfl 0 rfl ?_
    refine V_get (Cn := RX0) (T := TX0) (N := 8) C hinX0_init_X0 0 rfl rfl 0 (by decide) hfX0_init_9 rfl rfl dX0_init_70 ?_
    refine V_iload_n C dX0_init_73 rfl 1 rfl ?_
    refine V_iconst (v := 1) C dX0_init_74 (by decide) ?_
    refine Vm_iast C 1 0 rfl rfl (vp_in_nI hkB (by decide)) wL_s1 dX0_init_75 ?_
    refine V_u (fun u75 hu75 => ?_)
    refine V_aload_n C dX0_init_76 rfl 0 rfl ?_
    refine V_get (Cn := RX0) (T := TX0) (N := 8) C hinX0_init_X0 0 rfl rfl 1 (by decide) hfX0_init_15 rfl rfl dX0_init_77 ?_
    refine V_iload_n C dX0_init_80 rfl 1 rfl ?_
    refine V_bipush (v := 100) C dX0_init_81 (by decide) ?_
    refine Vm_iast C 2 0 rfl rfl (vp_in_nI hkB (by decide)) wL_s2 dX0_init_83 ?_
    refine V_u (fun u83 hu83 => ?_)
    refine V_iinc (v := (nI (k + 1))) (ls' := [(0, .ref (ad 0)), (1, .int (nI (k + 1)))]) C dX0_init_84 1 rfl (nI_1 k) (by decide) rfl rfl ?_
    refine V_goto (tgt := 64) C dX0_init_87 (by decide) ?_
    subst hu83
    subst hu75
    exact ih (k + 1) (by omega) _ (fun r hr => KK r (rfl.trans hr))
set_option maxHeartbeats 4000000 in
theorem tX0_init (C : vC p s m args meth c D vwCl (tyM cI) xN A (wL cI ad) cX0_init RX0 wsX0_init 2 none) {h0 : Nat} (had : ad 0 = h0) : V p l e rmX0_init s m args below meth c D vwCl A (wL cI ad) 2 7 1097 (MQ below (mNq D vwCl A h0 (fun ad => wL cI ad uX0_init)) args s 7 1097 A) mz 62 [(0, .ref (ad 0))] [] := by
  refine V_iconst (v := 0) C dX0_init_62 (by decide) ?_
  refine V_istore_n (ls' := [(0, .ref (ad 0)), (1, .int 0)]) C dX0_init_63 rfl (by decide) rfl rfl ?_
  refine V_sub (ls' := [(0, .ref (ad 0)), (1, .int 0)]) [0, 1] rfl ?_
  refine qX0_init_64 C 4 0 (by decide) mz (fun r64 hr64 => ?_)
  subst hr64
  exact V_nret C ad had rfl rfl dX0_init_90
set_option maxRecDepth 100000 in
set_option maxHeartbeats 4000000 in
theorem kX0_init {l : Launch} {D : va_G} {cI : ClassId} (h0 : Nat) : mN D vwCl (tyM cI) xN l yX0_init wsX0_init rmX0_init h0 0 [.null, .null, .null, .null, .null, .null, .null, .int 0] 7 1097 (fun ad => wL cI ad uX0_init) := by
  refine mN_of (cc := cX0_init) (maxL := 2) (ret := none) (own := RX0) rfl (by decide) rfl rfl (Nat.le_of_ble_eq_true rfl) (fun p e s m args below meth c A C hmn => ?_)
  refine V_ls (ls' := [(0, .ref h0)]) rfl ?_
  refine V_aload_n C dX0_init_0 rfl 0 rfl ?_
  refine V_objInit C hoX0_init_1 hoX0_init_2 hoX0_init_3 (Nat.le_of_ble_eq_true rfl) (Nat.le_of_ble_eq_true rfl) dX0_init_1 ?_
  refine V_aload_n C dX0_init_4 rfl 0 rfl ?_
  refine V_iconst (v := 4) C dX0_init_5 (by decide) ?_
  refine V_newa (atype := .int) (ty := .int) (a0 := (4, .inl (fun _ => 0))) C rfl harrX0_init_int 0 rfl (fun _ => rfl) (by decide) (by decide) (Nat.le_of_ble_eq_true rfl) (Nat.le_of_ble_eq_true rfl) (Nat.le_of_ble_eq_true rfl) dX0_init_6 (fun q6 C => ?_)
  refine V_putF (Cn := RX0) (T := TX0) (N := 8) (ws' := [(h0, .inr (0, [.ref q6, .null, .null, .null, .null, .null, .null, .int 0])), (q6, .inl (cI, 4, .inl (fun _ => 0)))]) C hmn hinX0_init_X0 tyX0 tyX0_ok nmX0 0 rfl rfl 0 (by decide) hfX0_init_9 rfl rfl rfl (tyX0_ok 0 (by decide)) rfl rfl (Nat.le_of_ble_eq_true rfl) rfl dX0_init_8 (fun C => ?_)
  refine V_aload_n C dX0_init_11 rfl 0 rfl ?_
  refine V_iconst (v := 4) C dX0_init_12 (by decide) ?_
  refine V_newa (atype := .int) (ty := .int) (a0 := (4, .inl (fun _ => 0))) C rfl harrX0_init_int 0 rfl (fun _ => rfl) (by decide) (by decide) (Nat.le_of_ble_eq_true rfl) (Nat.le_of_ble_eq_true rfl) (Nat.le_of_ble_eq_true rfl) dX0_init_13 (fun q13 C => ?_)
  refine V_putF (Cn := RX0) (T := TX0) (N := 8) (ws' := [(h0, .inr (0, [.ref q6, .ref q13, .null, .null, .null, .null, .null, .int 0])), (q6, .inl (cI, 4, .inl (fun _ => 0))), (q13, .inl (cI, 4, .inl (fun _ => 0)))]) C hmn hinX0_init_X0 tyX0 tyX0_ok nmX0 0 rfl rfl 1 (by decide) hfX0_init_15 rfl rfl rfl (tyX0_ok 1 (by decide)) rfl rfl (Nat.le_of_ble_eq_true rfl) rfl dX0_init_15 (fun C => ?_)
  refine V_aload_n C dX0_init_18 rfl 0 rfl ?_
  refine V_iconst (v := 4) C dX0_init_19 (by decide) ?_
  refine V_newa (atype := .int) (ty := .int) (a0 := (4, .inl (fun _ => 0))) C rfl harrX0_init_int 0 rfl (fun _ => rfl) (by decide) (by decide) (Nat.le_of_ble_eq_true rfl) (Nat.le_of_ble_eq_true rfl) (Nat.le_of_ble_eq_true rfl) dX0_init_20 (fun q20 C => ?_)
  refine V_putF (Cn := RX0) (T := TX0) (N := 8) (ws' := [(h0, .inr (0, [.ref q6, .ref q13, .ref q20, .null, .null, .null, .null, .int 0])), (q6, .inl (cI, 4, .inl (fun _ => 0))), (q13, .inl (cI, 4, .inl (fun _ => 0))), (q20, .inl (cI, 4, .inl (fun _ => 0)))]) C hmn hinX0_init_X0 tyX0 tyX0_ok nmX0 0 rfl rfl 2 (by decide) hfX0_init_18 rfl rfl rfl (tyX0_ok 2 (by decide)) rfl rfl (Nat.le_of_ble_eq_true rfl) rfl dX0_init_22 (fun C => ?_)
  refine V_aload_n C dX0_init_25 rfl 0 rfl ?_
  refine V_iconst (v := 4) C dX0_init_26 (by decide) ?_
  refine V_newa (atype := .int) (ty := .int) (a0 := (4, .inl (fun _ => 0))) C rfl harrX0_init_int 0 rfl (fun _ => rfl) (by decide) (by decide) (Nat.le_of_ble_eq_true rfl) (Nat.le_of_ble_eq_true rfl) (Nat.le_of_ble_eq_true rfl) dX0_init_27 (fun q27 C => ?_)
  refine V_putF (Cn := RX0) (T := TX0) (N := 8) (ws' := [(h0, .inr (0, [.ref q6, .ref q13, .ref q20, .ref q27, .null, .null, .null, .int 0])), (q6, .inl (cI, 4, .inl (fun _ => 0))), (q13, .inl (cI, 4, .inl (fun _ => 0))), (q20, .inl (cI, 4, .inl (fun _ => 0))), (q27, .inl (cI, 4, .inl (fun _ => 0)))]) C hmn hinX0_init_X0 tyX0 tyX0_ok nmX0 0 rfl rfl 3 (by decide) hfX0_init_21 rfl rfl rfl (tyX0_ok 3 (by decide)) rfl rfl (Nat.le_of_ble_eq_true rfl) rfl dX0_init_29 (fun C => ?_)
  refine V_aload_n C dX0_init_32 rfl 0 rfl ?_
  refine V_iconst (v := 5) C dX0_init_33 (by decide) ?_
  refine V_newa (atype := .int) (ty := .int) (a0 := (5, .inl (fun _ => 0))) C rfl harrX0_init_int 0 rfl (fun _ => rfl) (by decide) (by decide) (Nat.le_of_ble_eq_true rfl) (Nat.le_of_ble_eq_true rfl) (Nat.le_of_ble_eq_true rfl) dX0_init_34 (fun q34 C => ?_)
  refine V_putF (Cn := RX0) (T := TX0) (N := 8) (ws' := [(h0, .inr (0, [.ref q6, .ref q13, .ref q20, .ref q27, .ref q34, .null, .null, .int 0])), (q6, .inl (cI, 4, .inl (fun _ => 0))), (q13, .inl (cI, 4, .inl (fun _ => 0))), (q20, .inl (cI, 4, .inl (fun _ => 0))), (q27, .inl (cI, 4, .inl (fun _ => 0))), (q34, .inl (cI, 5, .inl (fun _ => 0)))]) C hmn hinX0_init_X0 tyX0 tyX0_ok nmX0 0 rfl rfl 4 (by decide) hfX0_init_24 rfl rfl rfl (tyX0_ok 4 (by decide)) rfl rfl (Nat.le_of_ble_eq_true rfl) rfl dX0_init_36 (fun C => ?_)
  refine V_aload_n C dX0_init_39 rfl 0 rfl ?_
  refine V_sipush (v := 576) C dX0_init_40 (by decide) ?_
  refine V_newa (atype := .int) (ty := .int) (a0 := (576, .inl (fun _ => 0))) C rfl harrX0_init_int 0 rfl (fun _ => rfl) (by decide) (by decide) (Nat.le_of_ble_eq_true rfl) (Nat.le_of_ble_eq_true rfl) (Nat.le_of_ble_eq_true rfl) dX0_init_43 (fun q43 C => ?_)
  refine V_putF (Cn := RX0) (T := TX0) (N := 8) (ws' := [(h0, .inr (0, [.ref q6, .ref q13, .ref q20, .ref q27, .ref q34, .ref q43, .null, .int 0])), (q6, .inl (cI, 4, .inl (fun _ => 0))), (q13, .inl (cI, 4, .inl (fun _ => 0))), (q20, .inl (cI, 4, .inl (fun _ => 0))), (q27, .inl (cI, 4, .inl (fun _ => 0))), (q34, .inl (cI, 5, .inl (fun _ => 0))), (q43, .inl (cI, 576, .inl (fun _ => 0)))]) C hmn hinX0_init_X0 tyX0 tyX0_ok nmX0 0 rfl rfl 5 (by decide) hfX0_init_27 rfl rfl rfl (tyX0_ok 5 (by decide)) rfl rfl (Nat.le_of_ble_eq_true rfl) rfl dX0_init_45 (fun C => ?_)
  refine V_aload_n C dX0_init_48 rfl 0 rfl ?_
  refine V_sipush (v := 500) C dX0_init_49 (by decide) ?_
  refine V_newa (atype := .int) (ty := .int) (a0 := (500, .inl (fun _ => 0))) C rfl harrX0_init_int 0 rfl (fun _ => rfl) (by decide) (by decide) (Nat.le_of_ble_eq_true rfl) (Nat.le_of_ble_eq_true rfl) (Nat.le_of_ble_eq_true rfl) dX0_init_52 (fun q52 C => ?_)
  refine V_putF (Cn := RX0) (T := TX0) (N := 8) (ws' := [(h0, .inr (0, [.ref q6, .ref q13, .ref q20, .ref q27, .ref q34, .ref q43, .ref q52, .int 0])), (q6, .inl (cI, 4, .inl (fun _ => 0))), (q13, .inl (cI, 4, .inl (fun _ => 0))), (q20, .inl (cI, 4, .inl (fun _ => 0))), (q27, .inl (cI, 4, .inl (fun _ => 0))), (q34, .inl (cI, 5, .inl (fun _ => 0))), (q43, .inl (cI, 576, .inl (fun _ => 0))), (q52, .inl (cI, 500, .inl (fun _ => 0)))]) C hmn hinX0_init_X0 tyX0 tyX0_ok nmX0 0 rfl rfl 6 (by decide) hfX0_init_30 rfl rfl rfl (tyX0_ok 6 (by decide)) rfl rfl (Nat.le_of_ble_eq_true rfl) rfl dX0_init_54 (fun C => ?_)
  refine V_aload_n C dX0_init_57 rfl 0 rfl ?_
  refine V_iconst (v := 0) C dX0_init_58 (by decide) ?_
  refine V_putG (Cn := RX0) (T := TX0) (N := 8) (ws' := [(h0, .inr (0, [.ref q6, .ref q13, .ref q20, .ref q27, .ref q34, .ref q43, .ref q52, .int 0])), (q6, .inl (cI, 4, .inl (fun _ => 0))), (q13, .inl (cI, 4, .inl (fun _ => 0))), (q20, .inl (cI, 4, .inl (fun _ => 0))), (q27, .inl (cI, 4, .inl (fun _ => 0))), (q34, .inl (cI, 5, .inl (fun _ => 0))), (q43, .inl (cI, 576, .inl (fun _ => 0))), (q52, .inl (cI, 500, .inl (fun _ => 0)))]) C hinX0_init_X0 tyX0 tyX0_ok nmX0 0 rfl rfl 7 (by decide) hfX0_init_33 rfl rfl (tyX0_ok 7 (by decide)) rfl rfl (Nat.le_of_ble_eq_true rfl) rfl dX0_init_59 (fun C => ?_)
  have C : vC p s m args meth c D vwCl (tyM cI) xN A (wL cI (adl [h0, q6, q13, q20, q27, q34, q43, q52])) cX0_init RX0 wsX0_init 2 none := vC_w C (fun u => va_D.addr (C.2.2.2.2.2.1 ()) rfl)
  refine V_conv (w := wL cI (adl [h0, q6, q13, q20, q27, q34, q43, q52])) (u := mz) rfl ?_
  exact tX0_init C rfl
theorem hdX1_init : yX1_init.cls ≠ "java/lang/invoke/MethodHandle" ∧ yX1_init.cls ≠ "java/lang/invoke/VarHandle" ∧ (parseMethodDescriptor yX1_init.desc).map (fun d => d.parameters.length) = some 0 := by decide +kernel
theorem hvX1_init : yX1_init.cls = RX1 ∧ yX1_init.cls ≠ "java/lang/invoke/MethodHandle" ∧ yX1_init.cls ≠ "java/lang/invoke/VarHandle" ∧ (parseMethodDescriptor yX1_init.desc).map (fun d => d.parameters.length) = some 0 := by decide +kernel
theorem hinX1_init_X1 : ∀ w ∈ u_ws RX1 TX1 12, w ∈ wsX1_init := by decide +kernel
theorem hoX1_init_1 : Cond.methodLink RX1 1 Lib.objectInit ∈ wsX1_init := by decide +kernel
theorem hoX1_init_2 : Cond.instanceMethod Lib.objectInit ∈ wsX1_init := by decide +kernel
theorem hoX1_init_3 : Cond.code Lib.objectInit ⟨#[0xb1]⟩ 1 none ∈ wsX1_init := by decide +kernel
theorem harrX1_init_int : Cond.arrayClass .int ∈ wsX1_init := by decide +kernel
theorem hfX1_init_9 : Cond.fieldLink RX1 9 "MeteredSheets" "kinds" "[I" ∈ wsX1_init := by decide +kernel
theorem hfX1_init_13 : Cond.fieldLink RX1 13 "MeteredSheets" "ones" "[I" ∈ wsX1_init := by decide +kernel
theorem hfX1_init_16 : Cond.fieldLink RX1 16 "MeteredSheets" "others" "[I" ∈ wsX1_init := by decide +kernel
theorem hfX1_init_19 : Cond.fieldLink RX1 19 "MeteredSheets" "numbers" "[I" ∈ wsX1_init := by decide +kernel
theorem hfX1_init_22 : Cond.fieldLink RX1 22 "MeteredSheets" "values" "[I" ∈ wsX1_init := by decide +kernel
theorem harrX1_init_boolean : Cond.arrayClass .boolean ∈ wsX1_init := by decide +kernel
theorem hfX1_init_25 : Cond.fieldLink RX1 25 "MeteredSheets" "marked" "[Z" ∈ wsX1_init := by decide +kernel
theorem hfX1_init_29 : Cond.fieldLink RX1 29 "MeteredSheets" "order" "[I" ∈ wsX1_init := by decide +kernel
theorem hinX1_init_X0 : ∀ w ∈ u_ws RX0 TX0 8, w ∈ wsX1_init := by decide +kernel
theorem hnX1_init_1 : Cond.classLink RX1 32 RX0 ∈ wsX1_init := by decide +kernel
theorem hnX1_init_2 : Cond.instantiable RX0 8 ∈ wsX1_init := by decide +kernel
theorem hnX1_init_3 : Cond.initialized RX0 ∈ wsX1_init := by decide +kernel
theorem hnX1_init_4 : Cond.instanceMethod yX0_init ∈ wsX1_init := by decide +kernel
theorem hfX1_init_35 : Cond.fieldLink RX1 35 "MeteredSheets" "ledger" "LMeteredSheets$Ledger;" ∈ wsX1_init := by decide +kernel
theorem hfX1_init_39 : Cond.fieldLink RX1 39 "MeteredSheets" "changed" "[Z" ∈ wsX1_init := by decide +kernel
theorem hfX1_init_42 : Cond.fieldLink RX1 42 "MeteredSheets" "placed" "[Z" ∈ wsX1_init := by decide +kernel
theorem hfX1_init_45 : Cond.fieldLink RX1 45 "MeteredSheets" "reaching" "[Z" ∈ wsX1_init := by decide +kernel
theorem hfX1_init_48 : Cond.fieldLink RX1 48 "MeteredSheets" "fresh" "[I" ∈ wsX1_init := by decide +kernel
set_option maxHeartbeats 4000000 in
theorem qX1_init_105 (C : vC p s m args meth c D vwCl (tyF cI cZ) xN A (wC cI cZ ad) cX1_init RX1 wsX1_init 2 none) {Q : State → Prop} : ∀ (n k : Nat), k + n = 24 → ∀ (u : vM), (∀ r : vM, lpX1_init_105 n k u = r → V p l e rmX1_init s m args below meth c D vwCl A (wC cI cZ ad) 2 19 1369 Q r 138 [(0, .ref (ad 0)), (1, .int (nI 24))] []) → V p l e rmX1_init s m args below meth c D vwCl A (wC cI cZ ad) 2 19 1369 Q u 105 [(0, .ref (ad 0)), (1, .int (nI k))] [] := by
  intro n
  induction n with
  | zero =>
    intro k hk u KK
    obtain rfl : k = 24 := by omega
    refine V_iload_n C dX1_init_105 rfl 1 rfl ?_
    refine V_bipush (v := 24) C dX1_init_106 (by decide) ?_
    refine V_icmp_ge (tgt := 138) C dX1_init_108 (by decide) (fun _ => ?_) (fun h => absurd (by decide : (24 : Int32) ≤ nI 24) h)
    exact KK _ rfl
  | succ n ih =>
    intro k hk u KK
    have hkB : k < 24 := by omega
    refine V_iload_n C dX1_init_105 rfl 1 rfl ?_
    refine V_bipush (v := 24) C dX1_init_106 (by decide) ?_
    refine V_icmp_ge (tgt := 138) C dX1_init_108 (by decide) (fun h => absurd h (nI_ge hkB (by decide))) (fun _ => ?_)
    refine V_aload_n C dX1_init_111 rfl 0 rfl ?_
    refine V_get (Cn := RX1) (T := TX1) (N := 12) C hinX1_init_X1 0 rfl rfl 1 (by decide) hfX1_init_13 rfl rfl dX1_init_112 ?_
    refine V_iload_n C dX1_init_115 rfl 1 rfl ?_
    refine V_iconst (v := (-1)) C dX1_init_116 (by decide) ?_
    refine Vm_iast C 2 0 rfl rfl (vp_in_nI hkB (by decide)) wC_s2 dX1_init_117 ?_
    refine V_u (fun u117 hu117 => ?_)
    refine V_aload_n C dX1_init_118 rfl 0 rfl ?_
    refine V_get (Cn := RX1) (T := TX1) (N := 12) C hinX1_init_X1 0 rfl rfl 2 (by decide) hfX1_init_16 rfl rfl dX1_init_119 ?_
    refine V_iload_n C dX1_init_122 rfl 1 rfl ?_
    refine V_iconst (v := (-1)) C dX1_init_123 (by decide) ?_
    refine Vm_iast C 3 0 rfl rfl (vp_in_nI hkB (by decide)) wC_s3 dX1_init_124 ?_
    refine V_u (fun u124 hu124 => ?_)
    refine V_aload_n C dX1_init_125 rfl 0 rfl ?_
    refine V_get (Cn := RX1) (T := TX1) (N := 12) C hinX1_init_X1 0 rfl rfl 6 (by decide) hfX1_init_29 rfl rfl dX1_init_126 ?_
    refine V_iload_n C dX1_init_129 rfl 1 rfl ?_
    refine V_iload_n C dX1_init_130 rfl 1 rfl ?_
    refine Vm_iast C 7 0 rfl rfl (vp_in_nI hkB (by decide)) wC_s7 dX1_init_131 ?_
    refine V_u (fun u131 hu131 => ?_)
    refine V_iinc (v := (nI (k + 1))) (ls' := [(0, .ref (ad 0)), (1, .int (nI (k + 1)))]) C dX1_init_132 1 rfl (nI_1 k) (by decide) rfl rfl ?_
    refine V_goto (tgt := 105) C dX1_init_135 (by decide) ?_
    subst hu131
    subst hu124
    subst hu117
    exact ih (k + 1) (by omega) _ (fun r hr => KK r (rfl.trans hr))
set_option maxHeartbeats 4000000 in
theorem tX1_init (C : vC p s m args meth c D vwCl (tyF cI cZ) xN A (wC cI cZ ad) cX1_init RX1 wsX1_init 2 none) {h0 : Nat} (had : ad 0 = h0) : V p l e rmX1_init s m args below meth c D vwCl A (wC cI cZ ad) 2 19 1369 (MQ below (mNq D vwCl A h0 (fun ad => wC cI cZ ad uX1_init)) args s 19 1369 A) mC0 103 [(0, .ref (ad 0))] [] := by
  refine V_iconst (v := 0) C dX1_init_103 (by decide) ?_
  refine V_istore_n (ls' := [(0, .ref (ad 0)), (1, .int 0)]) C dX1_init_104 rfl (by decide) rfl rfl ?_
  refine V_sub (ls' := [(0, .ref (ad 0)), (1, .int 0)]) [0, 1] rfl ?_
  refine qX1_init_105 C 24 0 (by decide) mC0 (fun r105 hr105 => ?_)
  subst hr105
  exact V_nret C ad had rfl rfl dX1_init_138
set_option maxRecDepth 100000 in
set_option maxHeartbeats 4000000 in
theorem kX1_init {l : Launch} {D : va_G} {cI cZ : ClassId} (h0 : Nat) : mN D vwCl (tyF cI cZ) xN l yX1_init wsX1_init rmX1_init h0 1 [.null, .null, .null, .null, .null, .null, .null, .null, .null, .null, .null, .null] 19 1369 (fun ad => wC cI cZ ad uX1_init) := by
  refine mN_of (cc := cX1_init) (maxL := 2) (ret := none) (own := RX1) rfl (by decide) rfl rfl (Nat.le_of_ble_eq_true rfl) (fun p e s m args below meth c A C hmn => ?_)
  refine V_ls (ls' := [(0, .ref h0)]) rfl ?_
  refine V_aload_n C dX1_init_0 rfl 0 rfl ?_
  refine V_objInit C hoX1_init_1 hoX1_init_2 hoX1_init_3 (Nat.le_of_ble_eq_true rfl) (Nat.le_of_ble_eq_true rfl) dX1_init_1 ?_
  refine V_aload_n C dX1_init_4 rfl 0 rfl ?_
  refine V_bipush (v := 24) C dX1_init_5 (by decide) ?_
  refine V_newa (atype := .int) (ty := .int) (a0 := (24, .inl (fun _ => 0))) C rfl harrX1_init_int 0 rfl (fun _ => rfl) (by decide) (by decide) (Nat.le_of_ble_eq_true rfl) (Nat.le_of_ble_eq_true rfl) (Nat.le_of_ble_eq_true rfl) dX1_init_7 (fun q7 C => ?_)
  refine V_putF (Cn := RX1) (T := TX1) (N := 12) (ws' := [(h0, .inr (1, [.ref q7, .null, .null, .null, .null, .null, .null, .null, .null, .null, .null, .null])), (q7, .inl (cI, 24, .inl (fun _ => 0)))]) C hmn hinX1_init_X1 tyX1 tyX1_ok nmX1 0 rfl rfl 0 (by decide) hfX1_init_9 rfl rfl rfl (tyX1_ok 0 (by decide)) rfl rfl (Nat.le_of_ble_eq_true rfl) rfl dX1_init_9 (fun C => ?_)
  refine V_aload_n C dX1_init_12 rfl 0 rfl ?_
  refine V_bipush (v := 24) C dX1_init_13 (by decide) ?_
  refine V_newa (atype := .int) (ty := .int) (a0 := (24, .inl (fun _ => 0))) C rfl harrX1_init_int 0 rfl (fun _ => rfl) (by decide) (by decide) (Nat.le_of_ble_eq_true rfl) (Nat.le_of_ble_eq_true rfl) (Nat.le_of_ble_eq_true rfl) dX1_init_15 (fun q15 C => ?_)
  refine V_putF (Cn := RX1) (T := TX1) (N := 12) (ws' := [(h0, .inr (1, [.ref q7, .ref q15, .null, .null, .null, .null, .null, .null, .null, .null, .null, .null])), (q7, .inl (cI, 24, .inl (fun _ => 0))), (q15, .inl (cI, 24, .inl (fun _ => 0)))]) C hmn hinX1_init_X1 tyX1 tyX1_ok nmX1 0 rfl rfl 1 (by decide) hfX1_init_13 rfl rfl rfl (tyX1_ok 1 (by decide)) rfl rfl (Nat.le_of_ble_eq_true rfl) rfl dX1_init_17 (fun C => ?_)
  refine V_aload_n C dX1_init_20 rfl 0 rfl ?_
  refine V_bipush (v := 24) C dX1_init_21 (by decide) ?_
  refine V_newa (atype := .int) (ty := .int) (a0 := (24, .inl (fun _ => 0))) C rfl harrX1_init_int 0 rfl (fun _ => rfl) (by decide) (by decide) (Nat.le_of_ble_eq_true rfl) (Nat.le_of_ble_eq_true rfl) (Nat.le_of_ble_eq_true rfl) dX1_init_23 (fun q23 C => ?_)
  refine V_putF (Cn := RX1) (T := TX1) (N := 12) (ws' := [(h0, .inr (1, [.ref q7, .ref q15, .ref q23, .null, .null, .null, .null, .null, .null, .null, .null, .null])), (q7, .inl (cI, 24, .inl (fun _ => 0))), (q15, .inl (cI, 24, .inl (fun _ => 0))), (q23, .inl (cI, 24, .inl (fun _ => 0)))]) C hmn hinX1_init_X1 tyX1 tyX1_ok nmX1 0 rfl rfl 2 (by decide) hfX1_init_16 rfl rfl rfl (tyX1_ok 2 (by decide)) rfl rfl (Nat.le_of_ble_eq_true rfl) rfl dX1_init_25 (fun C => ?_)
  refine V_aload_n C dX1_init_28 rfl 0 rfl ?_
  refine V_bipush (v := 24) C dX1_init_29 (by decide) ?_
  refine V_newa (atype := .int) (ty := .int) (a0 := (24, .inl (fun _ => 0))) C rfl harrX1_init_int 0 rfl (fun _ => rfl) (by decide) (by decide) (Nat.le_of_ble_eq_true rfl) (Nat.le_of_ble_eq_true rfl) (Nat.le_of_ble_eq_true rfl) dX1_init_31 (fun q31 C => ?_)
  refine V_putF (Cn := RX1) (T := TX1) (N := 12) (ws' := [(h0, .inr (1, [.ref q7, .ref q15, .ref q23, .ref q31, .null, .null, .null, .null, .null, .null, .null, .null])), (q7, .inl (cI, 24, .inl (fun _ => 0))), (q15, .inl (cI, 24, .inl (fun _ => 0))), (q23, .inl (cI, 24, .inl (fun _ => 0))), (q31, .inl (cI, 24, .inl (fun _ => 0)))]) C hmn hinX1_init_X1 tyX1 tyX1_ok nmX1 0 rfl rfl 3 (by decide) hfX1_init_19 rfl rfl rfl (tyX1_ok 3 (by decide)) rfl rfl (Nat.le_of_ble_eq_true rfl) rfl dX1_init_33 (fun C => ?_)
  refine V_aload_n C dX1_init_36 rfl 0 rfl ?_
  refine V_bipush (v := 24) C dX1_init_37 (by decide) ?_
  refine V_newa (atype := .int) (ty := .int) (a0 := (24, .inl (fun _ => 0))) C rfl harrX1_init_int 0 rfl (fun _ => rfl) (by decide) (by decide) (Nat.le_of_ble_eq_true rfl) (Nat.le_of_ble_eq_true rfl) (Nat.le_of_ble_eq_true rfl) dX1_init_39 (fun q39 C => ?_)
  refine V_putF (Cn := RX1) (T := TX1) (N := 12) (ws' := [(h0, .inr (1, [.ref q7, .ref q15, .ref q23, .ref q31, .ref q39, .null, .null, .null, .null, .null, .null, .null])), (q7, .inl (cI, 24, .inl (fun _ => 0))), (q15, .inl (cI, 24, .inl (fun _ => 0))), (q23, .inl (cI, 24, .inl (fun _ => 0))), (q31, .inl (cI, 24, .inl (fun _ => 0))), (q39, .inl (cI, 24, .inl (fun _ => 0)))]) C hmn hinX1_init_X1 tyX1 tyX1_ok nmX1 0 rfl rfl 4 (by decide) hfX1_init_22 rfl rfl rfl (tyX1_ok 4 (by decide)) rfl rfl (Nat.le_of_ble_eq_true rfl) rfl dX1_init_41 (fun C => ?_)
  refine V_aload_n C dX1_init_44 rfl 0 rfl ?_
  refine V_bipush (v := 24) C dX1_init_45 (by decide) ?_
  refine V_newa (atype := .boolean) (ty := .boolean) (a0 := (24, .inl (fun _ => 0))) C rfl harrX1_init_boolean 1 rfl (fun _ => rfl) (by decide) (by decide) (Nat.le_of_ble_eq_true rfl) (Nat.le_of_ble_eq_true rfl) (Nat.le_of_ble_eq_true rfl) dX1_init_47 (fun q47 C => ?_)
  refine V_putF (Cn := RX1) (T := TX1) (N := 12) (ws' := [(h0, .inr (1, [.ref q7, .ref q15, .ref q23, .ref q31, .ref q39, .ref q47, .null, .null, .null, .null, .null, .null])), (q7, .inl (cI, 24, .inl (fun _ => 0))), (q15, .inl (cI, 24, .inl (fun _ => 0))), (q23, .inl (cI, 24, .inl (fun _ => 0))), (q31, .inl (cI, 24, .inl (fun _ => 0))), (q39, .inl (cI, 24, .inl (fun _ => 0))), (q47, .inl (cZ, 24, .inl (fun _ => 0)))]) C hmn hinX1_init_X1 tyX1 tyX1_ok nmX1 0 rfl rfl 5 (by decide) hfX1_init_25 rfl rfl rfl (tyX1_ok 5 (by decide)) rfl rfl (Nat.le_of_ble_eq_true rfl) rfl dX1_init_49 (fun C => ?_)
  refine V_aload_n C dX1_init_52 rfl 0 rfl ?_
  refine V_bipush (v := 24) C dX1_init_53 (by decide) ?_
  refine V_newa (atype := .int) (ty := .int) (a0 := (24, .inl (fun _ => 0))) C rfl harrX1_init_int 0 rfl (fun _ => rfl) (by decide) (by decide) (Nat.le_of_ble_eq_true rfl) (Nat.le_of_ble_eq_true rfl) (Nat.le_of_ble_eq_true rfl) dX1_init_55 (fun q55 C => ?_)
  refine V_putF (Cn := RX1) (T := TX1) (N := 12) (ws' := [(h0, .inr (1, [.ref q7, .ref q15, .ref q23, .ref q31, .ref q39, .ref q47, .ref q55, .null, .null, .null, .null, .null])), (q7, .inl (cI, 24, .inl (fun _ => 0))), (q15, .inl (cI, 24, .inl (fun _ => 0))), (q23, .inl (cI, 24, .inl (fun _ => 0))), (q31, .inl (cI, 24, .inl (fun _ => 0))), (q39, .inl (cI, 24, .inl (fun _ => 0))), (q47, .inl (cZ, 24, .inl (fun _ => 0))), (q55, .inl (cI, 24, .inl (fun _ => 0)))]) C hmn hinX1_init_X1 tyX1 tyX1_ok nmX1 0 rfl rfl 6 (by decide) hfX1_init_29 rfl rfl rfl (tyX1_ok 6 (by decide)) rfl rfl (Nat.le_of_ble_eq_true rfl) rfl dX1_init_57 (fun C => ?_)
  refine V_aload_n C dX1_init_60 rfl 0 rfl ?_
  refine V_new (ci := 0) (fs := [.null, .null, .null, .null, .null, .null, .null, .int 0]) C hinX1_init_X0 tyX0 tyX0_ok hnX1_init_1 hnX1_init_2 hnX1_init_3 rfl (fun j hj => by rcases (show j = 0 ∨ j = 1 ∨ j = 2 ∨ j = 3 ∨ j = 4 ∨ j = 5 ∨ j = 6 ∨ j = 7 by omega) with rfl | rfl | rfl | rfl | rfl | rfl | rfl | rfl <;> rfl) (Nat.le_of_ble_eq_true rfl) (Nat.le_of_ble_eq_true rfl) dX1_init_61 (fun q61 C => ?_)
  refine V_dup C dX1_init_64 rfl ?_
  refine V_ctorN (i0 := 8) (Post := fun ad => wL cI ad uX0_init) C xN_ok ⟨[0], rfl⟩ (kX0_init q61) ⟨va_cnB 0 C.2.2.1 ggX1_init_X0_init rfl rfl rfl (C.2.2.2.2.2.2.2.2.2.2 _ nwX1_34) (C.2.2.1 _ hnX1_init_3) hdX0_init ⟨Nat.le_of_ble_eq_true rfl, Nat.le_of_ble_eq_true rfl⟩, rfl, C.2.2.1 _ hnX1_init_4⟩ [0, 1, 2, 3, 4, 5, 6, 7] [(h0, .inr (1, [.ref q7, .ref q15, .ref q23, .ref q31, .ref q39, .ref q47, .ref q55, .null, .null, .null, .null, .null])), (q7, .inl (cI, 24, .inl (fun _ => 0))), (q15, .inl (cI, 24, .inl (fun _ => 0))), (q23, .inl (cI, 24, .inl (fun _ => 0))), (q31, .inl (cI, 24, .inl (fun _ => 0))), (q39, .inl (cI, 24, .inl (fun _ => 0))), (q47, .inl (cZ, 24, .inl (fun _ => 0))), (q55, .inl (cI, 24, .inl (fun _ => 0)))] rfl rfl (by decide) (by decide) (Nat.le_of_ble_eq_true rfl) ⟨(Nat.le_of_ble_eq_true rfl), (Nat.le_of_ble_eq_true rfl)⟩ dX1_init_65 (fun adL hadL C2 => ?_)
  subst hadL
  have C := C2
  refine V_putF (Cn := RX1) (T := TX1) (N := 12) (ws' := [(h0, .inr (1, [.ref q7, .ref q15, .ref q23, .ref q31, .ref q39, .ref q47, .ref q55, .ref (adL 0), .null, .null, .null, .null])), (q7, .inl (cI, 24, .inl (fun _ => 0))), (q15, .inl (cI, 24, .inl (fun _ => 0))), (q23, .inl (cI, 24, .inl (fun _ => 0))), (q31, .inl (cI, 24, .inl (fun _ => 0))), (q39, .inl (cI, 24, .inl (fun _ => 0))), (q47, .inl (cZ, 24, .inl (fun _ => 0))), (q55, .inl (cI, 24, .inl (fun _ => 0))), ((adL 0), .inr (0, [.ref (adL 1), .ref (adL 2), .ref (adL 3), .ref (adL 4), .ref (adL 5), .ref (adL 6), .ref (adL 7), .int (uX0_init 8 0)])), ((adL 1), .inl (cI, 4, .inl (uX0_init 1))), ((adL 2), .inl (cI, 4, .inl (uX0_init 2))), ((adL 3), .inl (cI, 4, .inl (uX0_init 3))), ((adL 4), .inl (cI, 4, .inl (uX0_init 4))), ((adL 5), .inl (cI, 5, .inl (uX0_init 5))), ((adL 6), .inl (cI, 576, .inl (uX0_init 6))), ((adL 7), .inl (cI, 500, .inl (uX0_init 7)))]) C hmn hinX1_init_X1 tyX1 tyX1_ok nmX1 0 rfl rfl 7 (by decide) hfX1_init_35 rfl rfl rfl (tyX1_ok 7 (by decide)) rfl rfl (Nat.le_of_ble_eq_true rfl) rfl dX1_init_68 (fun C => ?_)
  refine V_aload_n C dX1_init_71 rfl 0 rfl ?_
  refine V_bipush (v := 24) C dX1_init_72 (by decide) ?_
  refine V_newa (atype := .boolean) (ty := .boolean) (a0 := (24, .inl (fun _ => 0))) C rfl harrX1_init_boolean 1 rfl (fun _ => rfl) (by decide) (by decide) (Nat.le_of_ble_eq_true rfl) (Nat.le_of_ble_eq_true rfl) (Nat.le_of_ble_eq_true rfl) dX1_init_74 (fun q74 C => ?_)
  refine V_putF (Cn := RX1) (T := TX1) (N := 12) (ws' := [(h0, .inr (1, [.ref q7, .ref q15, .ref q23, .ref q31, .ref q39, .ref q47, .ref q55, .ref (adL 0), .ref q74, .null, .null, .null])), (q7, .inl (cI, 24, .inl (fun _ => 0))), (q15, .inl (cI, 24, .inl (fun _ => 0))), (q23, .inl (cI, 24, .inl (fun _ => 0))), (q31, .inl (cI, 24, .inl (fun _ => 0))), (q39, .inl (cI, 24, .inl (fun _ => 0))), (q47, .inl (cZ, 24, .inl (fun _ => 0))), (q55, .inl (cI, 24, .inl (fun _ => 0))), ((adL 0), .inr (0, [.ref (adL 1), .ref (adL 2), .ref (adL 3), .ref (adL 4), .ref (adL 5), .ref (adL 6), .ref (adL 7), .int (uX0_init 8 0)])), ((adL 1), .inl (cI, 4, .inl (uX0_init 1))), ((adL 2), .inl (cI, 4, .inl (uX0_init 2))), ((adL 3), .inl (cI, 4, .inl (uX0_init 3))), ((adL 4), .inl (cI, 4, .inl (uX0_init 4))), ((adL 5), .inl (cI, 5, .inl (uX0_init 5))), ((adL 6), .inl (cI, 576, .inl (uX0_init 6))), ((adL 7), .inl (cI, 500, .inl (uX0_init 7))), (q74, .inl (cZ, 24, .inl (fun _ => 0)))]) C hmn hinX1_init_X1 tyX1 tyX1_ok nmX1 0 rfl rfl 8 (by decide) hfX1_init_39 rfl rfl rfl (tyX1_ok 8 (by decide)) rfl rfl (Nat.le_of_ble_eq_true rfl) rfl dX1_init_76 (fun C => ?_)
  refine V_aload_n C dX1_init_79 rfl 0 rfl ?_
  refine V_bipush (v := 24) C dX1_init_80 (by decide) ?_
  refine V_newa (atype := .boolean) (ty := .boolean) (a0 := (24, .inl (fun _ => 0))) C rfl harrX1_init_boolean 1 rfl (fun _ => rfl) (by decide) (by decide) (Nat.le_of_ble_eq_true rfl) (Nat.le_of_ble_eq_true rfl) (Nat.le_of_ble_eq_true rfl) dX1_init_82 (fun q82 C => ?_)
  refine V_putF (Cn := RX1) (T := TX1) (N := 12) (ws' := [(h0, .inr (1, [.ref q7, .ref q15, .ref q23, .ref q31, .ref q39, .ref q47, .ref q55, .ref (adL 0), .ref q74, .ref q82, .null, .null])), (q7, .inl (cI, 24, .inl (fun _ => 0))), (q15, .inl (cI, 24, .inl (fun _ => 0))), (q23, .inl (cI, 24, .inl (fun _ => 0))), (q31, .inl (cI, 24, .inl (fun _ => 0))), (q39, .inl (cI, 24, .inl (fun _ => 0))), (q47, .inl (cZ, 24, .inl (fun _ => 0))), (q55, .inl (cI, 24, .inl (fun _ => 0))), ((adL 0), .inr (0, [.ref (adL 1), .ref (adL 2), .ref (adL 3), .ref (adL 4), .ref (adL 5), .ref (adL 6), .ref (adL 7), .int (uX0_init 8 0)])), ((adL 1), .inl (cI, 4, .inl (uX0_init 1))), ((adL 2), .inl (cI, 4, .inl (uX0_init 2))), ((adL 3), .inl (cI, 4, .inl (uX0_init 3))), ((adL 4), .inl (cI, 4, .inl (uX0_init 4))), ((adL 5), .inl (cI, 5, .inl (uX0_init 5))), ((adL 6), .inl (cI, 576, .inl (uX0_init 6))), ((adL 7), .inl (cI, 500, .inl (uX0_init 7))), (q74, .inl (cZ, 24, .inl (fun _ => 0))), (q82, .inl (cZ, 24, .inl (fun _ => 0)))]) C hmn hinX1_init_X1 tyX1 tyX1_ok nmX1 0 rfl rfl 9 (by decide) hfX1_init_42 rfl rfl rfl (tyX1_ok 9 (by decide)) rfl rfl (Nat.le_of_ble_eq_true rfl) rfl dX1_init_84 (fun C => ?_)
  refine V_aload_n C dX1_init_87 rfl 0 rfl ?_
  refine V_bipush (v := 24) C dX1_init_88 (by decide) ?_
  refine V_newa (atype := .boolean) (ty := .boolean) (a0 := (24, .inl (fun _ => 0))) C rfl harrX1_init_boolean 1 rfl (fun _ => rfl) (by decide) (by decide) (Nat.le_of_ble_eq_true rfl) (Nat.le_of_ble_eq_true rfl) (Nat.le_of_ble_eq_true rfl) dX1_init_90 (fun q90 C => ?_)
  refine V_putF (Cn := RX1) (T := TX1) (N := 12) (ws' := [(h0, .inr (1, [.ref q7, .ref q15, .ref q23, .ref q31, .ref q39, .ref q47, .ref q55, .ref (adL 0), .ref q74, .ref q82, .ref q90, .null])), (q7, .inl (cI, 24, .inl (fun _ => 0))), (q15, .inl (cI, 24, .inl (fun _ => 0))), (q23, .inl (cI, 24, .inl (fun _ => 0))), (q31, .inl (cI, 24, .inl (fun _ => 0))), (q39, .inl (cI, 24, .inl (fun _ => 0))), (q47, .inl (cZ, 24, .inl (fun _ => 0))), (q55, .inl (cI, 24, .inl (fun _ => 0))), ((adL 0), .inr (0, [.ref (adL 1), .ref (adL 2), .ref (adL 3), .ref (adL 4), .ref (adL 5), .ref (adL 6), .ref (adL 7), .int (uX0_init 8 0)])), ((adL 1), .inl (cI, 4, .inl (uX0_init 1))), ((adL 2), .inl (cI, 4, .inl (uX0_init 2))), ((adL 3), .inl (cI, 4, .inl (uX0_init 3))), ((adL 4), .inl (cI, 4, .inl (uX0_init 4))), ((adL 5), .inl (cI, 5, .inl (uX0_init 5))), ((adL 6), .inl (cI, 576, .inl (uX0_init 6))), ((adL 7), .inl (cI, 500, .inl (uX0_init 7))), (q74, .inl (cZ, 24, .inl (fun _ => 0))), (q82, .inl (cZ, 24, .inl (fun _ => 0))), (q90, .inl (cZ, 24, .inl (fun _ => 0)))]) C hmn hinX1_init_X1 tyX1 tyX1_ok nmX1 0 rfl rfl 10 (by decide) hfX1_init_45 rfl rfl rfl (tyX1_ok 10 (by decide)) rfl rfl (Nat.le_of_ble_eq_true rfl) rfl dX1_init_92 (fun C => ?_)
  refine V_aload_n C dX1_init_95 rfl 0 rfl ?_
  refine V_bipush (v := 24) C dX1_init_96 (by decide) ?_
  refine V_newa (atype := .int) (ty := .int) (a0 := (24, .inl (fun _ => 0))) C rfl harrX1_init_int 0 rfl (fun _ => rfl) (by decide) (by decide) (Nat.le_of_ble_eq_true rfl) (Nat.le_of_ble_eq_true rfl) (Nat.le_of_ble_eq_true rfl) dX1_init_98 (fun q98 C => ?_)
  refine V_putF (Cn := RX1) (T := TX1) (N := 12) (ws' := [(h0, .inr (1, [.ref q7, .ref q15, .ref q23, .ref q31, .ref q39, .ref q47, .ref q55, .ref (adL 0), .ref q74, .ref q82, .ref q90, .ref q98])), (q7, .inl (cI, 24, .inl (fun _ => 0))), (q15, .inl (cI, 24, .inl (fun _ => 0))), (q23, .inl (cI, 24, .inl (fun _ => 0))), (q31, .inl (cI, 24, .inl (fun _ => 0))), (q39, .inl (cI, 24, .inl (fun _ => 0))), (q47, .inl (cZ, 24, .inl (fun _ => 0))), (q55, .inl (cI, 24, .inl (fun _ => 0))), ((adL 0), .inr (0, [.ref (adL 1), .ref (adL 2), .ref (adL 3), .ref (adL 4), .ref (adL 5), .ref (adL 6), .ref (adL 7), .int (uX0_init 8 0)])), ((adL 1), .inl (cI, 4, .inl (uX0_init 1))), ((adL 2), .inl (cI, 4, .inl (uX0_init 2))), ((adL 3), .inl (cI, 4, .inl (uX0_init 3))), ((adL 4), .inl (cI, 4, .inl (uX0_init 4))), ((adL 5), .inl (cI, 5, .inl (uX0_init 5))), ((adL 6), .inl (cI, 576, .inl (uX0_init 6))), ((adL 7), .inl (cI, 500, .inl (uX0_init 7))), (q74, .inl (cZ, 24, .inl (fun _ => 0))), (q82, .inl (cZ, 24, .inl (fun _ => 0))), (q90, .inl (cZ, 24, .inl (fun _ => 0))), (q98, .inl (cI, 24, .inl (fun _ => 0)))]) C hmn hinX1_init_X1 tyX1 tyX1_ok nmX1 0 rfl rfl 11 (by decide) hfX1_init_48 rfl rfl rfl (tyX1_ok 11 (by decide)) rfl rfl (Nat.le_of_ble_eq_true rfl) rfl dX1_init_100 (fun C => ?_)
  refine V_pick (ws' := [(h0, .inr (1, [.ref q7, .ref q15, .ref q23, .ref q31, .ref q39, .ref q47, .ref q55, .ref (adL 0), .ref q74, .ref q82, .ref q90, .ref q98])), (q7, .inl (cI, 24, .inl (fun _ => 0))), (q15, .inl (cI, 24, .inl (fun _ => 0))), (q23, .inl (cI, 24, .inl (fun _ => 0))), (q31, .inl (cI, 24, .inl (fun _ => 0))), (q39, .inl (cI, 24, .inl (fun _ => 0))), (q47, .inl (cZ, 24, .inl (fun _ => 0))), (q55, .inl (cI, 24, .inl (fun _ => 0))), ((adL 0), .inr (0, [.ref (adL 1), .ref (adL 2), .ref (adL 3), .ref (adL 4), .ref (adL 5), .ref (adL 6), .ref (adL 7), .int (uX0_init 8 0)])), (q74, .inl (cZ, 24, .inl (fun _ => 0))), (q82, .inl (cZ, 24, .inl (fun _ => 0))), (q90, .inl (cZ, 24, .inl (fun _ => 0))), (q98, .inl (cI, 24, .inl (fun _ => 0))), ((adL 1), .inl (cI, 4, .inl (uX0_init 1))), ((adL 2), .inl (cI, 4, .inl (uX0_init 2))), ((adL 3), .inl (cI, 4, .inl (uX0_init 3))), ((adL 4), .inl (cI, 4, .inl (uX0_init 4))), ((adL 5), .inl (cI, 5, .inl (uX0_init 5))), ((adL 6), .inl (cI, 576, .inl (uX0_init 6))), ((adL 7), .inl (cI, 500, .inl (uX0_init 7)))]) [0, 1, 2, 3, 4, 5, 6, 7, 8, 16, 17, 18, 19, 9, 10, 11, 12, 13, 14, 15] rfl (by decide) rfl C (fun C => ?_)
  have C : vC p s m args meth c D vwCl (tyF cI cZ) xN A (wC cI cZ (adl [h0, q7, q15, q23, q31, q39, q47, q55, (adL 0), q74, q82, q90, q98, (adL 1), (adL 2), (adL 3), (adL 4), (adL 5), (adL 6), (adL 7)])) cX1_init RX1 wsX1_init 2 none := vC_w C (fun u => va_D.addr (C.2.2.2.2.2.1 ()) rfl)
  refine V_conv (w := wC cI cZ (adl [h0, q7, q15, q23, q31, q39, q47, q55, (adL 0), q74, q82, q90, q98, (adL 1), (adL 2), (adL 3), (adL 4), (adL 5), (adL 6), (adL 7)])) (u := mC0) rfl ?_
  exact tX1_init C rfl
theorem hdX2_init : yX2_init.cls ≠ "java/lang/invoke/MethodHandle" ∧ yX2_init.cls ≠ "java/lang/invoke/VarHandle" ∧ (parseMethodDescriptor yX2_init.desc).map (fun d => d.parameters.length) = some 0 := by decide +kernel
theorem hvX2_init : yX2_init.cls = RX2 ∧ yX2_init.cls ≠ "java/lang/invoke/MethodHandle" ∧ yX2_init.cls ≠ "java/lang/invoke/VarHandle" ∧ (parseMethodDescriptor yX2_init.desc).map (fun d => d.parameters.length) = some 0 := by decide +kernel
theorem hinX2_init_X2 : ∀ w ∈ u_ws RX2 TX2 18, w ∈ wsX2_init := by decide +kernel
theorem hoX2_init_1 : Cond.methodLink RX2 1 Lib.objectInit ∈ wsX2_init := by decide +kernel
theorem hoX2_init_2 : Cond.instanceMethod Lib.objectInit ∈ wsX2_init := by decide +kernel
theorem hoX2_init_3 : Cond.code Lib.objectInit ⟨#[0xb1]⟩ 1 none ∈ wsX2_init := by decide +kernel
theorem harrX2_init_int : Cond.arrayClass .int ∈ wsX2_init := by decide +kernel
theorem hfX2_init_7 : Cond.fieldLink RX2 7 "MeteredSheetsModel" "kinds" "[I" ∈ wsX2_init := by decide +kernel
theorem hfX2_init_13 : Cond.fieldLink RX2 13 "MeteredSheetsModel" "ones" "[I" ∈ wsX2_init := by decide +kernel
theorem hfX2_init_16 : Cond.fieldLink RX2 16 "MeteredSheetsModel" "others" "[I" ∈ wsX2_init := by decide +kernel
theorem hfX2_init_19 : Cond.fieldLink RX2 19 "MeteredSheetsModel" "numbers" "[I" ∈ wsX2_init := by decide +kernel
theorem hfX2_init_22 : Cond.fieldLink RX2 22 "MeteredSheetsModel" "values" "[I" ∈ wsX2_init := by decide +kernel
theorem hfX2_init_25 : Cond.fieldLink RX2 25 "MeteredSheetsModel" "marks" "[I" ∈ wsX2_init := by decide +kernel
theorem hfX2_init_28 : Cond.fieldLink RX2 28 "MeteredSheetsModel" "changed" "[I" ∈ wsX2_init := by decide +kernel
theorem hfX2_init_31 : Cond.fieldLink RX2 31 "MeteredSheetsModel" "anew" "[I" ∈ wsX2_init := by decide +kernel
theorem hfX2_init_34 : Cond.fieldLink RX2 34 "MeteredSheetsModel" "order" "[I" ∈ wsX2_init := by decide +kernel
theorem hfX2_init_37 : Cond.fieldLink RX2 37 "MeteredSheetsModel" "stands" "[I" ∈ wsX2_init := by decide +kernel
theorem hfX2_init_40 : Cond.fieldLink RX2 40 "MeteredSheetsModel" "prices" "[I" ∈ wsX2_init := by decide +kernel
theorem hfX2_init_43 : Cond.fieldLink RX2 43 "MeteredSheetsModel" "budgets" "[I" ∈ wsX2_init := by decide +kernel
theorem hfX2_init_46 : Cond.fieldLink RX2 46 "MeteredSheetsModel" "earnings" "[I" ∈ wsX2_init := by decide +kernel
theorem hfX2_init_49 : Cond.fieldLink RX2 49 "MeteredSheetsModel" "costs" "[I" ∈ wsX2_init := by decide +kernel
theorem hfX2_init_52 : Cond.fieldLink RX2 52 "MeteredSheetsModel" "kept" "[I" ∈ wsX2_init := by decide +kernel
theorem hfX2_init_55 : Cond.fieldLink RX2 55 "MeteredSheetsModel" "times" "[I" ∈ wsX2_init := by decide +kernel
set_option maxHeartbeats 4000000 in
theorem qX2_init_132 (C : vC p s m args meth c D vwCl (tyM cI) xT A (wM cI ad) cX2_init RX2 wsX2_init 2 none) {Q : State → Prop} : ∀ (n k : Nat), k + n = 4 → ∀ (u : vM), (∀ r : vM, lpX2_init_132 n k u = r → V p l e rmX2_init s m args below meth c D vwCl A (wM cI ad) 2 16 1333 Q r 158 [(0, .ref (ad 0)), (1, .int (nI 4))] []) → V p l e rmX2_init s m args below meth c D vwCl A (wM cI ad) 2 16 1333 Q u 132 [(0, .ref (ad 0)), (1, .int (nI k))] [] := by
  intro n
  induction n with
  | zero =>
    intro k hk u KK
    obtain rfl : k = 4 := by omega
    refine V_iload_n C dX2_init_132 rfl 1 rfl ?_
    refine V_iconst (v := 4) C dX2_init_133 (by decide) ?_
    refine V_icmp_ge (tgt := 158) C dX2_init_134 (by decide) (fun _ => ?_) (fun h => absurd (by decide : (4 : Int32) ≤ nI 4) h)
    exact KK _ rfl
  | succ n ih =>
    intro k hk u KK
    have hkB : k < 4 := by omega
    refine V_iload_n C dX2_init_132 rfl 1 rfl ?_
    refine V_iconst (v := 4) C dX2_init_133 (by decide) ?_
    refine V_icmp_ge (tgt := 158) C dX2_init_134 (by decide) (fun h => absurd h (nI_ge hkB (by decide))) (fun _ => ?_)
    refine V_aload_n C dX2_init_137 rfl 0 rfl ?_
    refine V_get (Cn := RX2) (T := TX2) (N := 18) C hinX2_init_X2 0 rfl rfl 10 (by decide) hfX2_init_40 rfl rfl dX2_init_138 ?_
    refine V_iload_n C dX2_init_141 rfl 1 rfl ?_
    refine V_iconst (v := 1) C dX2_init_142 (by decide) ?_
    refine Vm_iast C 11 0 rfl rfl (vp_in_nI hkB (by decide)) wM_s11 dX2_init_143 ?_
    refine V_u (fun u143 hu143 => ?_)
    refine V_aload_n C dX2_init_144 rfl 0 rfl ?_
    refine V_get (Cn := RX2) (T := TX2) (N := 18) C hinX2_init_X2 0 rfl rfl 11 (by decide) hfX2_init_43 rfl rfl dX2_init_145 ?_
    refine V_iload_n C dX2_init_148 rfl 1 rfl ?_
    refine V_bipush (v := 100) C dX2_init_149 (by decide) ?_
    refine Vm_iast C 12 0 rfl rfl (vp_in_nI hkB (by decide)) wM_s12 dX2_init_151 ?_
    refine V_u (fun u151 hu151 => ?_)
    refine V_iinc (v := (nI (k + 1))) (ls' := [(0, .ref (ad 0)), (1, .int (nI (k + 1)))]) C dX2_init_152 1 rfl (nI_1 k) (by decide) rfl rfl ?_
    refine V_goto (tgt := 132) C dX2_init_155 (by decide) ?_
    subst hu151
    subst hu143
    exact ih (k + 1) (by omega) _ (fun r hr => KK r (rfl.trans hr))
set_option maxHeartbeats 4000000 in
theorem tX2_init (C : vC p s m args meth c D vwCl (tyM cI) xT A (wM cI ad) cX2_init RX2 wsX2_init 2 none) {h0 : Nat} (had : ad 0 = h0) : V p l e rmX2_init s m args below meth c D vwCl A (wM cI ad) 2 16 1333 (MQ below (mNq D vwCl A h0 (fun ad => wM cI ad uX2_init)) args s 16 1333 A) mz 130 [(0, .ref (ad 0))] [] := by
  refine V_iconst (v := 0) C dX2_init_130 (by decide) ?_
  refine V_istore_n (ls' := [(0, .ref (ad 0)), (1, .int 0)]) C dX2_init_131 rfl (by decide) rfl rfl ?_
  refine V_sub (ls' := [(0, .ref (ad 0)), (1, .int 0)]) [0, 1] rfl ?_
  refine qX2_init_132 C 4 0 (by decide) mz (fun r132 hr132 => ?_)
  subst hr132
  exact V_nret C ad had rfl rfl dX2_init_158
set_option maxRecDepth 100000 in
set_option maxHeartbeats 4000000 in
theorem kX2_init {l : Launch} {D : va_G} {cI : ClassId} (h0 : Nat) : mN D vwCl (tyM cI) xT l yX2_init wsX2_init rmX2_init h0 2 [.null, .null, .null, .null, .null, .null, .null, .null, .null, .null, .null, .null, .null, .null, .null, .int 0, .null, .int 0] 16 1333 (fun ad => wM cI ad uX2_init) := by
  refine mN_of (cc := cX2_init) (maxL := 2) (ret := none) (own := RX2) rfl (by decide) rfl rfl (Nat.le_of_ble_eq_true rfl) (fun p e s m args below meth c A C hmn => ?_)
  refine V_ls (ls' := [(0, .ref h0)]) rfl ?_
  refine V_aload_n C dX2_init_0 rfl 0 rfl ?_
  refine V_objInit C hoX2_init_1 hoX2_init_2 hoX2_init_3 (Nat.le_of_ble_eq_true rfl) (Nat.le_of_ble_eq_true rfl) dX2_init_1 ?_
  refine V_aload_n C dX2_init_4 rfl 0 rfl ?_
  refine V_bipush (v := 24) C dX2_init_5 (by decide) ?_
  refine V_newa (atype := .int) (ty := .int) (a0 := (24, .inl (fun _ => 0))) C rfl harrX2_init_int 0 rfl (fun _ => rfl) (by decide) (by decide) (Nat.le_of_ble_eq_true rfl) (Nat.le_of_ble_eq_true rfl) (Nat.le_of_ble_eq_true rfl) dX2_init_7 (fun q7 C => ?_)
  refine V_putF (Cn := RX2) (T := TX2) (N := 18) (ws' := [(h0, .inr (2, [.ref q7, .null, .null, .null, .null, .null, .null, .null, .null, .null, .null, .null, .null, .null, .null, .int 0, .null, .int 0])), (q7, .inl (cI, 24, .inl (fun _ => 0)))]) C hmn hinX2_init_X2 tyX2 tyX2_ok nmX2 0 rfl rfl 0 (by decide) hfX2_init_7 rfl rfl rfl (tyX2_ok 0 (by decide)) rfl rfl (Nat.le_of_ble_eq_true rfl) rfl dX2_init_9 (fun C => ?_)
  refine V_aload_n C dX2_init_12 rfl 0 rfl ?_
  refine V_bipush (v := 24) C dX2_init_13 (by decide) ?_
  refine V_newa (atype := .int) (ty := .int) (a0 := (24, .inl (fun _ => 0))) C rfl harrX2_init_int 0 rfl (fun _ => rfl) (by decide) (by decide) (Nat.le_of_ble_eq_true rfl) (Nat.le_of_ble_eq_true rfl) (Nat.le_of_ble_eq_true rfl) dX2_init_15 (fun q15 C => ?_)
  refine V_putF (Cn := RX2) (T := TX2) (N := 18) (ws' := [(h0, .inr (2, [.ref q7, .ref q15, .null, .null, .null, .null, .null, .null, .null, .null, .null, .null, .null, .null, .null, .int 0, .null, .int 0])), (q7, .inl (cI, 24, .inl (fun _ => 0))), (q15, .inl (cI, 24, .inl (fun _ => 0)))]) C hmn hinX2_init_X2 tyX2 tyX2_ok nmX2 0 rfl rfl 1 (by decide) hfX2_init_13 rfl rfl rfl (tyX2_ok 1 (by decide)) rfl rfl (Nat.le_of_ble_eq_true rfl) rfl dX2_init_17 (fun C => ?_)
  refine V_aload_n C dX2_init_20 rfl 0 rfl ?_
  refine V_bipush (v := 24) C dX2_init_21 (by decide) ?_
  refine V_newa (atype := .int) (ty := .int) (a0 := (24, .inl (fun _ => 0))) C rfl harrX2_init_int 0 rfl (fun _ => rfl) (by decide) (by decide) (Nat.le_of_ble_eq_true rfl) (Nat.le_of_ble_eq_true rfl) (Nat.le_of_ble_eq_true rfl) dX2_init_23 (fun q23 C => ?_)
  refine V_putF (Cn := RX2) (T := TX2) (N := 18) (ws' := [(h0, .inr (2, [.ref q7, .ref q15, .ref q23, .null, .null, .null, .null, .null, .null, .null, .null, .null, .null, .null, .null, .int 0, .null, .int 0])), (q7, .inl (cI, 24, .inl (fun _ => 0))), (q15, .inl (cI, 24, .inl (fun _ => 0))), (q23, .inl (cI, 24, .inl (fun _ => 0)))]) C hmn hinX2_init_X2 tyX2 tyX2_ok nmX2 0 rfl rfl 2 (by decide) hfX2_init_16 rfl rfl rfl (tyX2_ok 2 (by decide)) rfl rfl (Nat.le_of_ble_eq_true rfl) rfl dX2_init_25 (fun C => ?_)
  refine V_aload_n C dX2_init_28 rfl 0 rfl ?_
  refine V_bipush (v := 24) C dX2_init_29 (by decide) ?_
  refine V_newa (atype := .int) (ty := .int) (a0 := (24, .inl (fun _ => 0))) C rfl harrX2_init_int 0 rfl (fun _ => rfl) (by decide) (by decide) (Nat.le_of_ble_eq_true rfl) (Nat.le_of_ble_eq_true rfl) (Nat.le_of_ble_eq_true rfl) dX2_init_31 (fun q31 C => ?_)
  refine V_putF (Cn := RX2) (T := TX2) (N := 18) (ws' := [(h0, .inr (2, [.ref q7, .ref q15, .ref q23, .ref q31, .null, .null, .null, .null, .null, .null, .null, .null, .null, .null, .null, .int 0, .null, .int 0])), (q7, .inl (cI, 24, .inl (fun _ => 0))), (q15, .inl (cI, 24, .inl (fun _ => 0))), (q23, .inl (cI, 24, .inl (fun _ => 0))), (q31, .inl (cI, 24, .inl (fun _ => 0)))]) C hmn hinX2_init_X2 tyX2 tyX2_ok nmX2 0 rfl rfl 3 (by decide) hfX2_init_19 rfl rfl rfl (tyX2_ok 3 (by decide)) rfl rfl (Nat.le_of_ble_eq_true rfl) rfl dX2_init_33 (fun C => ?_)
  refine V_aload_n C dX2_init_36 rfl 0 rfl ?_
  refine V_bipush (v := 24) C dX2_init_37 (by decide) ?_
  refine V_newa (atype := .int) (ty := .int) (a0 := (24, .inl (fun _ => 0))) C rfl harrX2_init_int 0 rfl (fun _ => rfl) (by decide) (by decide) (Nat.le_of_ble_eq_true rfl) (Nat.le_of_ble_eq_true rfl) (Nat.le_of_ble_eq_true rfl) dX2_init_39 (fun q39 C => ?_)
  refine V_putF (Cn := RX2) (T := TX2) (N := 18) (ws' := [(h0, .inr (2, [.ref q7, .ref q15, .ref q23, .ref q31, .ref q39, .null, .null, .null, .null, .null, .null, .null, .null, .null, .null, .int 0, .null, .int 0])), (q7, .inl (cI, 24, .inl (fun _ => 0))), (q15, .inl (cI, 24, .inl (fun _ => 0))), (q23, .inl (cI, 24, .inl (fun _ => 0))), (q31, .inl (cI, 24, .inl (fun _ => 0))), (q39, .inl (cI, 24, .inl (fun _ => 0)))]) C hmn hinX2_init_X2 tyX2 tyX2_ok nmX2 0 rfl rfl 4 (by decide) hfX2_init_22 rfl rfl rfl (tyX2_ok 4 (by decide)) rfl rfl (Nat.le_of_ble_eq_true rfl) rfl dX2_init_41 (fun C => ?_)
  refine V_aload_n C dX2_init_44 rfl 0 rfl ?_
  refine V_bipush (v := 24) C dX2_init_45 (by decide) ?_
  refine V_newa (atype := .int) (ty := .int) (a0 := (24, .inl (fun _ => 0))) C rfl harrX2_init_int 0 rfl (fun _ => rfl) (by decide) (by decide) (Nat.le_of_ble_eq_true rfl) (Nat.le_of_ble_eq_true rfl) (Nat.le_of_ble_eq_true rfl) dX2_init_47 (fun q47 C => ?_)
  refine V_putF (Cn := RX2) (T := TX2) (N := 18) (ws' := [(h0, .inr (2, [.ref q7, .ref q15, .ref q23, .ref q31, .ref q39, .ref q47, .null, .null, .null, .null, .null, .null, .null, .null, .null, .int 0, .null, .int 0])), (q7, .inl (cI, 24, .inl (fun _ => 0))), (q15, .inl (cI, 24, .inl (fun _ => 0))), (q23, .inl (cI, 24, .inl (fun _ => 0))), (q31, .inl (cI, 24, .inl (fun _ => 0))), (q39, .inl (cI, 24, .inl (fun _ => 0))), (q47, .inl (cI, 24, .inl (fun _ => 0)))]) C hmn hinX2_init_X2 tyX2 tyX2_ok nmX2 0 rfl rfl 5 (by decide) hfX2_init_25 rfl rfl rfl (tyX2_ok 5 (by decide)) rfl rfl (Nat.le_of_ble_eq_true rfl) rfl dX2_init_49 (fun C => ?_)
  refine V_aload_n C dX2_init_52 rfl 0 rfl ?_
  refine V_bipush (v := 24) C dX2_init_53 (by decide) ?_
  refine V_newa (atype := .int) (ty := .int) (a0 := (24, .inl (fun _ => 0))) C rfl harrX2_init_int 0 rfl (fun _ => rfl) (by decide) (by decide) (Nat.le_of_ble_eq_true rfl) (Nat.le_of_ble_eq_true rfl) (Nat.le_of_ble_eq_true rfl) dX2_init_55 (fun q55 C => ?_)
  refine V_putF (Cn := RX2) (T := TX2) (N := 18) (ws' := [(h0, .inr (2, [.ref q7, .ref q15, .ref q23, .ref q31, .ref q39, .ref q47, .ref q55, .null, .null, .null, .null, .null, .null, .null, .null, .int 0, .null, .int 0])), (q7, .inl (cI, 24, .inl (fun _ => 0))), (q15, .inl (cI, 24, .inl (fun _ => 0))), (q23, .inl (cI, 24, .inl (fun _ => 0))), (q31, .inl (cI, 24, .inl (fun _ => 0))), (q39, .inl (cI, 24, .inl (fun _ => 0))), (q47, .inl (cI, 24, .inl (fun _ => 0))), (q55, .inl (cI, 24, .inl (fun _ => 0)))]) C hmn hinX2_init_X2 tyX2 tyX2_ok nmX2 0 rfl rfl 6 (by decide) hfX2_init_28 rfl rfl rfl (tyX2_ok 6 (by decide)) rfl rfl (Nat.le_of_ble_eq_true rfl) rfl dX2_init_57 (fun C => ?_)
  refine V_aload_n C dX2_init_60 rfl 0 rfl ?_
  refine V_bipush (v := 24) C dX2_init_61 (by decide) ?_
  refine V_newa (atype := .int) (ty := .int) (a0 := (24, .inl (fun _ => 0))) C rfl harrX2_init_int 0 rfl (fun _ => rfl) (by decide) (by decide) (Nat.le_of_ble_eq_true rfl) (Nat.le_of_ble_eq_true rfl) (Nat.le_of_ble_eq_true rfl) dX2_init_63 (fun q63 C => ?_)
  refine V_putF (Cn := RX2) (T := TX2) (N := 18) (ws' := [(h0, .inr (2, [.ref q7, .ref q15, .ref q23, .ref q31, .ref q39, .ref q47, .ref q55, .ref q63, .null, .null, .null, .null, .null, .null, .null, .int 0, .null, .int 0])), (q7, .inl (cI, 24, .inl (fun _ => 0))), (q15, .inl (cI, 24, .inl (fun _ => 0))), (q23, .inl (cI, 24, .inl (fun _ => 0))), (q31, .inl (cI, 24, .inl (fun _ => 0))), (q39, .inl (cI, 24, .inl (fun _ => 0))), (q47, .inl (cI, 24, .inl (fun _ => 0))), (q55, .inl (cI, 24, .inl (fun _ => 0))), (q63, .inl (cI, 24, .inl (fun _ => 0)))]) C hmn hinX2_init_X2 tyX2 tyX2_ok nmX2 0 rfl rfl 7 (by decide) hfX2_init_31 rfl rfl rfl (tyX2_ok 7 (by decide)) rfl rfl (Nat.le_of_ble_eq_true rfl) rfl dX2_init_65 (fun C => ?_)
  refine V_aload_n C dX2_init_68 rfl 0 rfl ?_
  refine V_bipush (v := 24) C dX2_init_69 (by decide) ?_
  refine V_newa (atype := .int) (ty := .int) (a0 := (24, .inl (fun _ => 0))) C rfl harrX2_init_int 0 rfl (fun _ => rfl) (by decide) (by decide) (Nat.le_of_ble_eq_true rfl) (Nat.le_of_ble_eq_true rfl) (Nat.le_of_ble_eq_true rfl) dX2_init_71 (fun q71 C => ?_)
  refine V_putF (Cn := RX2) (T := TX2) (N := 18) (ws' := [(h0, .inr (2, [.ref q7, .ref q15, .ref q23, .ref q31, .ref q39, .ref q47, .ref q55, .ref q63, .ref q71, .null, .null, .null, .null, .null, .null, .int 0, .null, .int 0])), (q7, .inl (cI, 24, .inl (fun _ => 0))), (q15, .inl (cI, 24, .inl (fun _ => 0))), (q23, .inl (cI, 24, .inl (fun _ => 0))), (q31, .inl (cI, 24, .inl (fun _ => 0))), (q39, .inl (cI, 24, .inl (fun _ => 0))), (q47, .inl (cI, 24, .inl (fun _ => 0))), (q55, .inl (cI, 24, .inl (fun _ => 0))), (q63, .inl (cI, 24, .inl (fun _ => 0))), (q71, .inl (cI, 24, .inl (fun _ => 0)))]) C hmn hinX2_init_X2 tyX2 tyX2_ok nmX2 0 rfl rfl 8 (by decide) hfX2_init_34 rfl rfl rfl (tyX2_ok 8 (by decide)) rfl rfl (Nat.le_of_ble_eq_true rfl) rfl dX2_init_73 (fun C => ?_)
  refine V_aload_n C dX2_init_76 rfl 0 rfl ?_
  refine V_bipush (v := 24) C dX2_init_77 (by decide) ?_
  refine V_newa (atype := .int) (ty := .int) (a0 := (24, .inl (fun _ => 0))) C rfl harrX2_init_int 0 rfl (fun _ => rfl) (by decide) (by decide) (Nat.le_of_ble_eq_true rfl) (Nat.le_of_ble_eq_true rfl) (Nat.le_of_ble_eq_true rfl) dX2_init_79 (fun q79 C => ?_)
  refine V_putF (Cn := RX2) (T := TX2) (N := 18) (ws' := [(h0, .inr (2, [.ref q7, .ref q15, .ref q23, .ref q31, .ref q39, .ref q47, .ref q55, .ref q63, .ref q71, .ref q79, .null, .null, .null, .null, .null, .int 0, .null, .int 0])), (q7, .inl (cI, 24, .inl (fun _ => 0))), (q15, .inl (cI, 24, .inl (fun _ => 0))), (q23, .inl (cI, 24, .inl (fun _ => 0))), (q31, .inl (cI, 24, .inl (fun _ => 0))), (q39, .inl (cI, 24, .inl (fun _ => 0))), (q47, .inl (cI, 24, .inl (fun _ => 0))), (q55, .inl (cI, 24, .inl (fun _ => 0))), (q63, .inl (cI, 24, .inl (fun _ => 0))), (q71, .inl (cI, 24, .inl (fun _ => 0))), (q79, .inl (cI, 24, .inl (fun _ => 0)))]) C hmn hinX2_init_X2 tyX2 tyX2_ok nmX2 0 rfl rfl 9 (by decide) hfX2_init_37 rfl rfl rfl (tyX2_ok 9 (by decide)) rfl rfl (Nat.le_of_ble_eq_true rfl) rfl dX2_init_81 (fun C => ?_)
  refine V_aload_n C dX2_init_84 rfl 0 rfl ?_
  refine V_iconst (v := 4) C dX2_init_85 (by decide) ?_
  refine V_newa (atype := .int) (ty := .int) (a0 := (4, .inl (fun _ => 0))) C rfl harrX2_init_int 0 rfl (fun _ => rfl) (by decide) (by decide) (Nat.le_of_ble_eq_true rfl) (Nat.le_of_ble_eq_true rfl) (Nat.le_of_ble_eq_true rfl) dX2_init_86 (fun q86 C => ?_)
  refine V_putF (Cn := RX2) (T := TX2) (N := 18) (ws' := [(h0, .inr (2, [.ref q7, .ref q15, .ref q23, .ref q31, .ref q39, .ref q47, .ref q55, .ref q63, .ref q71, .ref q79, .ref q86, .null, .null, .null, .null, .int 0, .null, .int 0])), (q7, .inl (cI, 24, .inl (fun _ => 0))), (q15, .inl (cI, 24, .inl (fun _ => 0))), (q23, .inl (cI, 24, .inl (fun _ => 0))), (q31, .inl (cI, 24, .inl (fun _ => 0))), (q39, .inl (cI, 24, .inl (fun _ => 0))), (q47, .inl (cI, 24, .inl (fun _ => 0))), (q55, .inl (cI, 24, .inl (fun _ => 0))), (q63, .inl (cI, 24, .inl (fun _ => 0))), (q71, .inl (cI, 24, .inl (fun _ => 0))), (q79, .inl (cI, 24, .inl (fun _ => 0))), (q86, .inl (cI, 4, .inl (fun _ => 0)))]) C hmn hinX2_init_X2 tyX2 tyX2_ok nmX2 0 rfl rfl 10 (by decide) hfX2_init_40 rfl rfl rfl (tyX2_ok 10 (by decide)) rfl rfl (Nat.le_of_ble_eq_true rfl) rfl dX2_init_88 (fun C => ?_)
  refine V_aload_n C dX2_init_91 rfl 0 rfl ?_
  refine V_iconst (v := 4) C dX2_init_92 (by decide) ?_
  refine V_newa (atype := .int) (ty := .int) (a0 := (4, .inl (fun _ => 0))) C rfl harrX2_init_int 0 rfl (fun _ => rfl) (by decide) (by decide) (Nat.le_of_ble_eq_true rfl) (Nat.le_of_ble_eq_true rfl) (Nat.le_of_ble_eq_true rfl) dX2_init_93 (fun q93 C => ?_)
  refine V_putF (Cn := RX2) (T := TX2) (N := 18) (ws' := [(h0, .inr (2, [.ref q7, .ref q15, .ref q23, .ref q31, .ref q39, .ref q47, .ref q55, .ref q63, .ref q71, .ref q79, .ref q86, .ref q93, .null, .null, .null, .int 0, .null, .int 0])), (q7, .inl (cI, 24, .inl (fun _ => 0))), (q15, .inl (cI, 24, .inl (fun _ => 0))), (q23, .inl (cI, 24, .inl (fun _ => 0))), (q31, .inl (cI, 24, .inl (fun _ => 0))), (q39, .inl (cI, 24, .inl (fun _ => 0))), (q47, .inl (cI, 24, .inl (fun _ => 0))), (q55, .inl (cI, 24, .inl (fun _ => 0))), (q63, .inl (cI, 24, .inl (fun _ => 0))), (q71, .inl (cI, 24, .inl (fun _ => 0))), (q79, .inl (cI, 24, .inl (fun _ => 0))), (q86, .inl (cI, 4, .inl (fun _ => 0))), (q93, .inl (cI, 4, .inl (fun _ => 0)))]) C hmn hinX2_init_X2 tyX2 tyX2_ok nmX2 0 rfl rfl 11 (by decide) hfX2_init_43 rfl rfl rfl (tyX2_ok 11 (by decide)) rfl rfl (Nat.le_of_ble_eq_true rfl) rfl dX2_init_95 (fun C => ?_)
  refine V_aload_n C dX2_init_98 rfl 0 rfl ?_
  refine V_iconst (v := 4) C dX2_init_99 (by decide) ?_
  refine V_newa (atype := .int) (ty := .int) (a0 := (4, .inl (fun _ => 0))) C rfl harrX2_init_int 0 rfl (fun _ => rfl) (by decide) (by decide) (Nat.le_of_ble_eq_true rfl) (Nat.le_of_ble_eq_true rfl) (Nat.le_of_ble_eq_true rfl) dX2_init_100 (fun q100 C => ?_)
  refine V_putF (Cn := RX2) (T := TX2) (N := 18) (ws' := [(h0, .inr (2, [.ref q7, .ref q15, .ref q23, .ref q31, .ref q39, .ref q47, .ref q55, .ref q63, .ref q71, .ref q79, .ref q86, .ref q93, .ref q100, .null, .null, .int 0, .null, .int 0])), (q7, .inl (cI, 24, .inl (fun _ => 0))), (q15, .inl (cI, 24, .inl (fun _ => 0))), (q23, .inl (cI, 24, .inl (fun _ => 0))), (q31, .inl (cI, 24, .inl (fun _ => 0))), (q39, .inl (cI, 24, .inl (fun _ => 0))), (q47, .inl (cI, 24, .inl (fun _ => 0))), (q55, .inl (cI, 24, .inl (fun _ => 0))), (q63, .inl (cI, 24, .inl (fun _ => 0))), (q71, .inl (cI, 24, .inl (fun _ => 0))), (q79, .inl (cI, 24, .inl (fun _ => 0))), (q86, .inl (cI, 4, .inl (fun _ => 0))), (q93, .inl (cI, 4, .inl (fun _ => 0))), (q100, .inl (cI, 4, .inl (fun _ => 0)))]) C hmn hinX2_init_X2 tyX2 tyX2_ok nmX2 0 rfl rfl 12 (by decide) hfX2_init_46 rfl rfl rfl (tyX2_ok 12 (by decide)) rfl rfl (Nat.le_of_ble_eq_true rfl) rfl dX2_init_102 (fun C => ?_)
  refine V_aload_n C dX2_init_105 rfl 0 rfl ?_
  refine V_iconst (v := 5) C dX2_init_106 (by decide) ?_
  refine V_newa (atype := .int) (ty := .int) (a0 := (5, .inl (fun _ => 0))) C rfl harrX2_init_int 0 rfl (fun _ => rfl) (by decide) (by decide) (Nat.le_of_ble_eq_true rfl) (Nat.le_of_ble_eq_true rfl) (Nat.le_of_ble_eq_true rfl) dX2_init_107 (fun q107 C => ?_)
  refine V_putF (Cn := RX2) (T := TX2) (N := 18) (ws' := [(h0, .inr (2, [.ref q7, .ref q15, .ref q23, .ref q31, .ref q39, .ref q47, .ref q55, .ref q63, .ref q71, .ref q79, .ref q86, .ref q93, .ref q100, .ref q107, .null, .int 0, .null, .int 0])), (q7, .inl (cI, 24, .inl (fun _ => 0))), (q15, .inl (cI, 24, .inl (fun _ => 0))), (q23, .inl (cI, 24, .inl (fun _ => 0))), (q31, .inl (cI, 24, .inl (fun _ => 0))), (q39, .inl (cI, 24, .inl (fun _ => 0))), (q47, .inl (cI, 24, .inl (fun _ => 0))), (q55, .inl (cI, 24, .inl (fun _ => 0))), (q63, .inl (cI, 24, .inl (fun _ => 0))), (q71, .inl (cI, 24, .inl (fun _ => 0))), (q79, .inl (cI, 24, .inl (fun _ => 0))), (q86, .inl (cI, 4, .inl (fun _ => 0))), (q93, .inl (cI, 4, .inl (fun _ => 0))), (q100, .inl (cI, 4, .inl (fun _ => 0))), (q107, .inl (cI, 5, .inl (fun _ => 0)))]) C hmn hinX2_init_X2 tyX2 tyX2_ok nmX2 0 rfl rfl 13 (by decide) hfX2_init_49 rfl rfl rfl (tyX2_ok 13 (by decide)) rfl rfl (Nat.le_of_ble_eq_true rfl) rfl dX2_init_109 (fun C => ?_)
  refine V_aload_n C dX2_init_112 rfl 0 rfl ?_
  refine V_sipush (v := 500) C dX2_init_113 (by decide) ?_
  refine V_newa (atype := .int) (ty := .int) (a0 := (500, .inl (fun _ => 0))) C rfl harrX2_init_int 0 rfl (fun _ => rfl) (by decide) (by decide) (Nat.le_of_ble_eq_true rfl) (Nat.le_of_ble_eq_true rfl) (Nat.le_of_ble_eq_true rfl) dX2_init_116 (fun q116 C => ?_)
  refine V_putF (Cn := RX2) (T := TX2) (N := 18) (ws' := [(h0, .inr (2, [.ref q7, .ref q15, .ref q23, .ref q31, .ref q39, .ref q47, .ref q55, .ref q63, .ref q71, .ref q79, .ref q86, .ref q93, .ref q100, .ref q107, .ref q116, .int 0, .null, .int 0])), (q7, .inl (cI, 24, .inl (fun _ => 0))), (q15, .inl (cI, 24, .inl (fun _ => 0))), (q23, .inl (cI, 24, .inl (fun _ => 0))), (q31, .inl (cI, 24, .inl (fun _ => 0))), (q39, .inl (cI, 24, .inl (fun _ => 0))), (q47, .inl (cI, 24, .inl (fun _ => 0))), (q55, .inl (cI, 24, .inl (fun _ => 0))), (q63, .inl (cI, 24, .inl (fun _ => 0))), (q71, .inl (cI, 24, .inl (fun _ => 0))), (q79, .inl (cI, 24, .inl (fun _ => 0))), (q86, .inl (cI, 4, .inl (fun _ => 0))), (q93, .inl (cI, 4, .inl (fun _ => 0))), (q100, .inl (cI, 4, .inl (fun _ => 0))), (q107, .inl (cI, 5, .inl (fun _ => 0))), (q116, .inl (cI, 500, .inl (fun _ => 0)))]) C hmn hinX2_init_X2 tyX2 tyX2_ok nmX2 0 rfl rfl 14 (by decide) hfX2_init_52 rfl rfl rfl (tyX2_ok 14 (by decide)) rfl rfl (Nat.le_of_ble_eq_true rfl) rfl dX2_init_118 (fun C => ?_)
  refine V_aload_n C dX2_init_121 rfl 0 rfl ?_
  refine V_sipush (v := 576) C dX2_init_122 (by decide) ?_
  refine V_newa (atype := .int) (ty := .int) (a0 := (576, .inl (fun _ => 0))) C rfl harrX2_init_int 0 rfl (fun _ => rfl) (by decide) (by decide) (Nat.le_of_ble_eq_true rfl) (Nat.le_of_ble_eq_true rfl) (Nat.le_of_ble_eq_true rfl) dX2_init_125 (fun q125 C => ?_)
  refine V_putF (Cn := RX2) (T := TX2) (N := 18) (ws' := [(h0, .inr (2, [.ref q7, .ref q15, .ref q23, .ref q31, .ref q39, .ref q47, .ref q55, .ref q63, .ref q71, .ref q79, .ref q86, .ref q93, .ref q100, .ref q107, .ref q116, .int 0, .ref q125, .int 0])), (q7, .inl (cI, 24, .inl (fun _ => 0))), (q15, .inl (cI, 24, .inl (fun _ => 0))), (q23, .inl (cI, 24, .inl (fun _ => 0))), (q31, .inl (cI, 24, .inl (fun _ => 0))), (q39, .inl (cI, 24, .inl (fun _ => 0))), (q47, .inl (cI, 24, .inl (fun _ => 0))), (q55, .inl (cI, 24, .inl (fun _ => 0))), (q63, .inl (cI, 24, .inl (fun _ => 0))), (q71, .inl (cI, 24, .inl (fun _ => 0))), (q79, .inl (cI, 24, .inl (fun _ => 0))), (q86, .inl (cI, 4, .inl (fun _ => 0))), (q93, .inl (cI, 4, .inl (fun _ => 0))), (q100, .inl (cI, 4, .inl (fun _ => 0))), (q107, .inl (cI, 5, .inl (fun _ => 0))), (q116, .inl (cI, 500, .inl (fun _ => 0))), (q125, .inl (cI, 576, .inl (fun _ => 0)))]) C hmn hinX2_init_X2 tyX2 tyX2_ok nmX2 0 rfl rfl 16 (by decide) hfX2_init_55 rfl rfl rfl (tyX2_ok 16 (by decide)) rfl rfl (Nat.le_of_ble_eq_true rfl) rfl dX2_init_127 (fun C => ?_)
  have C : vC p s m args meth c D vwCl (tyM cI) xT A (wM cI (adl [h0, q7, q15, q23, q31, q39, q47, q55, q63, q71, q79, q86, q93, q100, q107, q116, q125])) cX2_init RX2 wsX2_init 2 none := vC_w C (fun u => va_D.addr (C.2.2.2.2.2.1 ()) rfl)
  refine V_conv (w := wM cI (adl [h0, q7, q15, q23, q31, q39, q47, q55, q63, q71, q79, q86, q93, q100, q107, q116, q125])) (u := mz) rfl ?_
  exact tX2_init C rfl
end
